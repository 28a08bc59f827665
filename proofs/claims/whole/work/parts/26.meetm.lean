/-! ===== the reference's meet ===== -/
section P11
variable {M : kg_M} {L S : Nat} {T : kT} {N : Nat → Int32}
theorem m_log {c : Nat} {x : Int32} {K : kg_M → Prop} (hc : c ≤ 20) (h34 : N 34 = nI c) (hN : RN M N) (hK : ∀ M', (∀ k, k ≠ 120 → M' k = M k) → RN M' (nLog N x) → K M') : wp_X8_log x M K := by
  have ecn : cnt N = c := by unfold cnt; rw [h34, cl_nI (by omega)]
  have i34 : vp_in (34 : Int32) 55 := lit_in 34 55 (by decide) (by decide)
  have l34 : (34 : Int32).toNatClampNeg = 34 := lit_cl 34 (by decide)
  have J : ∀ (M1 : kg_M) (N1 : Nat → Int32) (d : Nat), d < 20 → N1 34 = nI d → RN M1 N1 → (∀ k, k ≠ 120 → M1 k = M k) → upd (upd N1 (35 + d) x) 34 (nI (d + 1)) = nLog N x → wJ_X8_log_52 K x M1 := by
    intro M1 N1 d hd e1 hN1 r1 hfin
    unfold wJ_X8_log_52
    rw [l34, hN1 34 (by decide), e1, show (35 : Int32) = nI 35 from rfl, cl_add (by omega)]
    refine ⟨i34, in_add (by omega) (by decide), fun M12 e12 => ?_⟩
    have h12 : RN M12 (upd N1 (35 + d) x) := RN_upd hN1 (by rw [e12, kg_row_eq])
    have v12 : M12 120 34 = nI d := by rw [h12 34 (by decide), upd_ne (by omega)]; exact e1
    rw [v12, nI_1]
    refine ⟨i34, i34, fun M19 e19 => hK M19 (fun k hk => by rw [e19, kg_row_ne _ _ hk, e12, kg_row_ne _ _ hk, r1 k hk]) ?_⟩
    rw [← hfin]
    exact RN_upd h12 (by rw [e19, kg_row_eq])
  unfold wp_X8_log
  rw [l34, hN 34 (by decide), h34]
  refine ⟨i34, fun h => ?_, fun h => ?_⟩
  · have hc2 : c < 20 := by
      rcases Nat.lt_or_ge c 20 with q | q
      · exact q
      · exact absurd (by rw [show c = 20 by omega]; rfl) h
    refine J M N c hc2 h34 hN (fun _ _ => rfl) ?_
    unfold nLog
    rw [ecn, if_neg (by omega)]
  · have hc2 : c = 20 := nI_inj (b := 20) (by omega) (by decide) h
    refine ⟨_, for_from (fun f (M' : kg_M) i => wL_X8_log_15 _ K f x i M') (fun k M' => (∀ r, r ≠ 120 → M' r = M r) ∧ ∀ j, M' 120 j = if 35 ≤ j ∧ j + 1 < k then M 120 (j + 1) else M 120 j) 36 55 (by decide) M ⟨fun _ _ => rfl, fun j => by rw [if_neg (by omega)]⟩ (fun f M' h => ?_) (fun f k M' hk1 hk h ih => ?_)⟩
    · rw [wL_X8_log_15]
      have hN' : RN M' (fun k => if 35 ≤ k ∧ k < 54 then N (k + 1) else N k) := by
        intro k hk
        show M' 120 k = if 35 ≤ k ∧ k < 54 then N (k + 1) else N k
        rw [h.2 k]
        by_cases hc3 : 35 ≤ k ∧ k < 54
        · rw [if_pos (by omega), if_pos hc3]; exact hN (k + 1) (by omega)
        · rw [if_neg (by omega), if_neg hc3]; exact hN k hk
      have v34 : M' 120 34 = nI 20 := by
        have e := hN' 34 (by decide)
        dsimp only at e
        rw [e, if_neg (by omega), h34, hc2]
      rw [v34]
      refine ⟨fun _ => ⟨i34, i34, fun M38 e38 => ?_⟩, fun h => absurd (nI_le (a := 55) (b := 55) (Nat.le_refl _) (by decide)) h⟩
      have h38 : RN M38 (upd (fun k => if 35 ≤ k ∧ k < 54 then N (k + 1) else N k) 34 (nI 19)) := RN_upd hN' (by rw [e38, kg_row_eq]; rfl)
      refine J M38 _ 19 (by decide) upd_eq h38 (fun k hk => by rw [e38, kg_row_ne _ _ hk, h.1 k hk]) ?_
      unfold nLog
      rw [ecn, if_pos hc2]
      funext k
      by_cases k1 : k = 34
      · subst k1; rw [upd_eq, upd_ne (by omega), if_neg (by omega), h34, hc2]
      · rw [upd_ne k1]
        by_cases k2 : k = 54
        · subst k2; rw [upd_eq, upd_eq]
        · rw [upd_ne (by omega), upd_ne k1, upd_ne k2]
    · have ei : nI k - (1 : Int32) = nI (k - 1) := by rw [show (1 : Int32) = nI 1 from rfl, pk_sub (by omega)]
      rw [wL_X8_log_15, ei, cl_nI (by omega), cl_nI (by omega), nI_1]
      refine ⟨fun h => absurd h (nI_ge (b := 55) hk (by decide)), fun _ => ⟨in_nI (by omega) (by decide), in_nI (by omega) (by decide), fun M13 e13 => ih M13 ⟨fun r hr => by rw [e13, kg_row_ne _ _ hr, h.1 r hr], fun j => ?_⟩⟩⟩
      rw [e13, kg_row_eq]
      by_cases hj : j = k - 1
      · rw [hj, upd_eq, if_pos (by omega), h.2 k, if_neg (by omega), show k - 1 + 1 = k by omega]
      · rw [upd_ne hj, h.2 j]
        by_cases hc3 : 35 ≤ j ∧ j + 1 < k
        · rw [if_pos hc3, if_pos (by omega)]
        · rw [if_neg hc3, if_neg (by omega)]
theorem m_meet {p q : Nat} {K : kg_M → Prop} (hpq : p < q) (hq : q < 7) (hW : SW T N) (hN : RN M N) (hK : ∀ M', (∀ k, k ≠ 120 → M' k = M k) → RN M' (nMeet N p q) → K M') : wp_X8_meet (nI p) (nI q) M K := by
  obtain ⟨c, hc, h34, -⟩ := id hW.2.2.2.2.2.2.2
  have ip : vp_in (nI p) 55 := in_nI (by omega) (by decide)
  have iq : vp_in (nI q) 55 := in_nI (by omega) (by decide)
  have i7p : vp_in ((7 : Int32) + nI p) 55 := in_add (a := 7) (by omega) (by decide)
  have i7q : vp_in ((7 : Int32) + nI q) 55 := in_add (a := 7) (by omega) (by decide)
  have i14p : vp_in ((14 : Int32) + nI p) 55 := in_add (a := 14) (by omega) (by decide)
  have i14q : vp_in ((14 : Int32) + nI q) 55 := in_add (a := 14) (by omega) (by decide)
  have i32 : vp_in (32 : Int32) 55 := lit_in 32 55 (by decide) (by decide)
  have e7p : ((7 : Int32) + nI p).toNatClampNeg = 7 + p := by rw [show (7 : Int32) = nI 7 from rfl, cl_add (by omega)]
  have e7q : ((7 : Int32) + nI q).toNatClampNeg = 7 + q := by rw [show (7 : Int32) = nI 7 from rfl, cl_add (by omega)]
  have e14p : ((14 : Int32) + nI p).toNatClampNeg = 14 + p := by rw [show (14 : Int32) = nI 14 from rfl, cl_add (by omega)]
  have e14q : ((14 : Int32) + nI q).toNatClampNeg = 14 + q := by rw [show (14 : Int32) = nI 14 from rfl, cl_add (by omega)]
  unfold wp_X8_meet
  rw [cl_nI (by omega), cl_nI (by omega), e7p, e7q, e14p, e14q]
  refine ⟨ip, ip, fun M6 e6 => ⟨iq, iq, fun M13 e13 => ⟨i7p, fun M18 e18 => ⟨i7q, fun M23 e23 => ?_⟩⟩⟩⟩
  have n6 : RN M6 (upd N p ((1 : Int32) - N p)) := RN_upd hN (by rw [e6, kg_row_eq, hN p (by omega)])
  have n13 : RN M13 (upd (upd N p ((1 : Int32) - N p)) q ((1 : Int32) - N q)) := RN_upd n6 (by rw [e13, kg_row_eq, n6 q (by omega), upd_ne (by omega)])
  have n18 := RN_upd (a := 7 + p) (v := -1) n13 (M' := M18) (by rw [e18, kg_row_eq])
  have n23 := RN_upd (a := 7 + q) (v := -1) n18 (M' := M23) (by rw [e23, kg_row_eq])
  have r23 : ∀ k, k ≠ 120 → M23 k = M k := fun k hk => by rw [e23, kg_row_ne _ _ hk, e18, kg_row_ne _ _ hk, e13, kg_row_ne _ _ hk, e6, kg_row_ne _ _ hk]
  have v14 : ∀ x, x < 7 → M23 120 (14 + x) = N (14 + x) := fun x hx => by rw [n23 (14 + x) (by omega), upd_ne (by omega), upd_ne (by omega), upd_ne (by omega), upd_ne (by omega)]
  have J : ∀ s0 : Int32, s0 = cvM N p q → wJ_X8_meet_79 K (nI p) (nI q) s0 M23 := by
    intro s0 hs0
    unfold wJ_X8_meet_79
    rw [e14p, e14q, lit_cl 32 (by decide)]
    refine ⟨i14p, fun M34 e34 => ⟨i14q, fun M39 e39 => ⟨i32, i32, fun M46 e46 => ?_⟩⟩⟩
    have n34 := RN_upd (a := 14 + p) (v := s0) n23 (M' := M34) (by rw [e34, kg_row_eq])
    have n39 := RN_upd (a := 14 + q) (v := s0) n34 (M' := M39) (by rw [e39, kg_row_eq])
    have v32 : M39 120 32 = N 32 := by rw [n39 32 (by decide), upd_ne (by omega), upd_ne (by omega), upd_ne (by omega), upd_ne (by omega), upd_ne (by omega), upd_ne (by omega)]
    have n46 : RN M46 (nM1 N p q) := by
      have h := RN_upd (a := 32) (v := N 32 + 1) n39 (M' := M46) (by rw [e46, kg_row_eq, v32])
      rw [hs0] at h
      exact h
    rw [show (10 : Int32) * nI p + nI q = nI (10 * p + q) from by rw [show (10 : Int32) = nI 10 from rfl, pk_mul, nI_add]]
    refine m_log hc (nM1_cnt (by omega) (by omega) hc h34).1 n46 (fun M' r h => hK M' (fun k hk => ?_) h)
    rw [r k hk, e46, kg_row_ne _ _ hk, e39, kg_row_ne _ _ hk, e34, kg_row_ne _ _ hk, r23 k hk]
  rw [v14 p (by omega), v14 q (by omega)]
  refine ⟨i14p, fun h => J 1 (by unfold cvM; rw [if_pos (Or.inl h)]), fun h => ⟨i14q, fun h2 => J 0 (by unfold cvM; rw [if_neg (by simp [h, h2])]), fun h2 => J 1 (by unfold cvM; rw [if_pos (Or.inr h2)])⟩⟩
end P11
/-! ===== who meets at a gate ===== -/
def tot (T : kT) (k : Nat) : Nat := tL T (pO k) (pT k) + tL T (pT k) (pO k)
def cand (T : kT) (N : Nat → Int32) (g k : Nat) : Bool := decide (pT k < tP T) && ((N (7 + pO k) == nI g) && (N (7 + pT k) == nI g)) && wd T N (pO k) (pT k)
def pb (T : kT) (N : Nat → Int32) (g : Nat) : Nat → Option Nat
  | 0 => none
  | k + 1 => if cand T N g k = true then (match pb T N g k with
    | none => some k
    | some b => if tot T b < tot T k then some k else some b) else pb T N g k
theorem pb_lt (T : kT) (N : Nat → Int32) (g : Nat) : ∀ k b, pb T N g k = some b → b < k ∧ cand T N g b = true
  | 0, b, h => by cases h
  | k + 1, b, h => by
    rw [pb] at h
    split at h
    · next hr =>
      cases hb : pb T N g k with
      | none => rw [hb] at h; have e := Option.some.inj h; rw [← e]; exact ⟨by omega, hr⟩
      | some c =>
        rw [hb] at h
        dsimp only at h
        have := pb_lt T N g k c hb
        split at h
        · have e := Option.some.inj h; rw [← e]; exact ⟨by omega, hr⟩
        · have e := Option.some.inj h; rw [← e]; exact ⟨by omega, this.2⟩
    · have := pb_lt T N g k b h; exact ⟨by omega, this.2⟩
theorem cand_out {T : kT} {N : Nat → Int32} {g k : Nat} (h : tP T ≤ pT k) : cand T N g k = false := by unfold cand; rw [decide_eq_false (by omega)]; rfl
theorem pb_no {T : kT} {N : Nat → Int32} {g k : Nat} (h : cand T N g k = false) : pb T N g (k + 1) = pb T N g k := by rw [pb, if_neg (by rw [h]; decide)]
theorem cand_tot {T : kT} {N : Nat → Int32} {g k : Nat} (h : cand T N g k = true) : 2 ≤ tot T k := by
  unfold cand wd fo at h
  simp at h
  unfold tot
  omega
section P12
variable {M : kg_M} {L S : Nat} {T : kT} {N : Nat → Int32} {K : Int32 → kg_M → Prop}
/-- the class's best pair so far, as its three numbers -/
def pbS (T : kT) (N : Nat → Int32) (g k : Nat) (s : Int32 × Int32 × Int32) : Prop := match pb T N g k with
  | none => s = (-1, -1, 0)
  | some b => s = (nI (pO b), nI (pT b), nI (tot T b))
theorem c_meetAt {g : Nat} (hL : RC M L T) (hT : LW T) (hS : RS M 3 N) (hW : SW T N) (hg : g < tG T) (h0 : pb T N g 21 = none → K 0 M) (h1 : ∀ b, pb T N g 21 = some b → ∀ M', (∀ k, k ≠ 3 → k ≠ 4 → k ≠ 6 → M' k = M k) → RS M' 3 (nMeet N (pO b) (pT b)) → K 1 M') : wp_X5_meetAt L (nI g) M K := by
  have h7 := hT.2.1
  have h5 := hT.1
  have h9 := hT.2.2.2.1
  have ht18 : ∀ k, tot T k ≤ 18 := fun k => by unfold tot; have := h9 (pO k) (pT k); have := h9 (pT k) (pO k); omega
  unfold wp_X5_meetAt
  refine c_waitingAt hL hT hS ?_
  have hth : bs (fun p => N (7 + p) == nI g) (tP T) = bs (fun p => N (7 + p) == nI g) 7 := (bs_cut h7 (fun p a b => by rw [hW.2.2.2.1 p a b]; exact beq_eq_false_iff_ne.mpr (fun e => m1_ne_nI (by omega) e.symm))).symm
  rw [hth]
  have hsk : ∀ k (s : Int32 × Int32 × Int32), k < 21 → tP T ≤ pT k → pbS T N g k s → pbS T N g (k + 1) s := by
    intro k s hk hp h
    unfold pbS at *
    rw [pb_no (cand_out hp)]
    exact h
  refine ⟨_, for_loop (fun f (s : Int32 × Int32 × Int32) i => wL_X5_meetAt_19 L _ K f (nI (bs (fun p => N (7 + p) == nI g) 7)) s.1 s.2.1 s.2.2 i M) (fun p s => pbS T N g (stt p) s) (tP T) (-1, -1, 0) rfl (fun f s h => ?_) (fun f p s hp h ih => ?_)⟩
  · have h21 := skip_end hsk h7 h
    unfold pbS at h21
    rw [wL_X5_meetAt_19, hL.2.1]
    refine ⟨fun _ => ?_, fun h => absurd (nI_le (Nat.le_refl _) (by omega)) h⟩
    cases hb : pb T N g 21 with
    | none =>
      rw [hb] at h21
      dsimp only at h21
      rw [h21]
      exact ⟨fun _ => h0 hb, fun h => absurd rfl h⟩
    | some b =>
      rw [hb] at h21
      dsimp only at h21
      have hlt := pb_lt T N g 21 b hb
      obtain ⟨o1, o2, -⟩ := ix_of b hlt.1
      rw [h21]
      refine ⟨fun h => absurd h (m1_ne_nI (by omega)), fun _ => ⟨fun _ => c_meet o1 o2 hW hS (fun M' r hR => h1 b hb M' r hR), fun h => absurd h (m1_ne_nI (by omega))⟩⟩
  · -- the inner loop, with the set of those who may meet p
    have inner : ∀ ot : Nat → Bool, (∀ q, p < q → q < tP T → ot q = cand T N g (ix p q)) → ∃ x, wL_X5_meetAt_62 L (fun (v3 : Int32) (v4 : Int32) (v5 : Int32) (v6 : Int32) (v7 : Int32) (M : kg_M) => wL_X5_meetAt_19 L (fun (v4 : Int32) (v5 : Int32) (M : kg_M) => (v4 = (-1 : Int32) → K (0 : Int32) M) ∧ (¬ v4 = (-1 : Int32) → (¬ v5 = (-1 : Int32) → wp_X5_meet v4 v5 M (fun (M44 : kg_M) => K (1 : Int32) M44)) ∧ (v5 = (-1 : Int32) → K (0 : Int32) M))) K f v3 v4 v5 v6 (v7 + (1 : Int32)) M) K x (nI (bs (fun p => N (7 + p) == nI g) 7)) s.1 s.2.1 s.2.2 (nI p) (nI (bs ot 7)) (nI (p + 1)) M := by
      intro ot hot
      refine ⟨_, for_from (fun f2 (s : Int32 × Int32 × Int32) i => wL_X5_meetAt_62 L _ K f2 (nI (bs (fun p => N (7 + p) == nI g) 7)) s.1 s.2.1 s.2.2 (nI p) (nI (bs ot 7)) i M) (fun q s => pbS T N g (ix p q) s) (p + 1) (tP T) (by omega) s (by rw [ix_first]; exact h) (fun f2 s2 h2 => ?_) (fun f2 q s2 hq1 hq h2 ih2 => ?_)⟩
      · rw [wL_X5_meetAt_62, hL.2.1, nI_1]
        exact ⟨fun _ => ih s2 (skip_row hsk hp h7 h2), fun h => absurd (nI_le (Nat.le_refl _) (by omega)) h⟩
      · obtain ⟨g1, g2, g3⟩ := ix_ok p (by omega) q (by omega) (by omega)
        have hs := ix_succ (show p < q by omega)
        have htq := ht18 (ix p q)
        have etot : tL T p q + tL T q p = tot T (ix p q) := by unfold tot; rw [g1, g2]
        rw [wL_X5_meetAt_62, hL.2.1, bs_has (by decide) (by omega), hot q (by omega) hq, nI_1 q]
        cases hc : cand T N g (ix p q)
        · refine ⟨fun h => absurd h (nI_ge hq (by omega)), fun _ => ⟨fun _ => ih2 s2 (by rw [hs]; unfold pbS at *; rw [pb_no hc]; exact h2), fun h => absurd h (by decide)⟩⟩
        · have h2t := cand_tot hc
          refine ⟨fun h => absurd h (nI_ge hq (by omega)), fun _ => ⟨fun h => absurd rfl h, fun _ => c_together hL hT hp hq ?_⟩⟩
          rw [etot]
          have hh : ∃ m : Nat, m ≤ 18 ∧ s2.2.2 = nI m ∧ (tot T (ix p q) ≤ m → pbS T N g (ix p (q + 1)) s2) ∧ (m < tot T (ix p q) → pbS T N g (ix p (q + 1)) (nI p, nI q, nI (tot T (ix p q)))) := by
            unfold pbS at h2
            cases hb : pb T N g (ix p q) with
            | none =>
              rw [hb] at h2; dsimp only at h2
              refine ⟨0, by omega, by rw [h2]; rfl, fun h => absurd h (by omega), fun _ => ?_⟩
              unfold pbS
              rw [hs, pb, if_pos hc, hb]; dsimp only; rw [g1, g2]
            | some b =>
              rw [hb] at h2; dsimp only at h2
              refine ⟨tot T b, ht18 b, by rw [h2], fun h => ?_, fun h => ?_⟩
              · unfold pbS
                rw [hs, pb, if_pos hc, hb]; dsimp only; rw [if_neg (by omega)]; exact h2
              · unfold pbS
                rw [hs, pb, if_pos hc, hb]; dsimp only; rw [if_pos h]; dsimp only; rw [g1, g2]
          obtain ⟨m, hm, em, a, b⟩ := hh
          refine ⟨fun h => ih2 s2 (a ?_), fun h => ?_⟩
          · rw [em, nI_leI (by omega) (by omega)] at h; exact h
          · rw [em, nI_leI (by omega) (by omega)] at h
            refine c_together hL hT hp hq ?_
            rw [etot]
            exact ih2 (nI p, nI q, nI (tot T (ix p q))) (b (by omega))
    have hcq : ∀ q, p < q → q < tP T → cand T N g (ix p q) = ((N (7 + p) == nI g) && (N (7 + q) == nI g) && wd T N p q) := by
      intro q a b
      obtain ⟨g1, g2, g3⟩ := ix_ok p (by omega) q (by omega) (by omega)
      unfold cand
      rw [g1, g2, decide_eq_true (by omega), Bool.true_and]
    rw [wL_X5_meetAt_19, hL.2.1, bs_has (by decide) (by omega), nI_1]
    cases hw : (N (7 + p) == nI g)
    · refine ⟨fun h => absurd h (nI_ge hp (by omega)), fun _ => ⟨fun _ => ?_, fun h => absurd h (by decide)⟩⟩
      have := inner (fun _ => false) (fun q a b => by rw [hcq q a b, hw]; rfl)
      rw [bs_zero] at this
      exact this
    · refine ⟨fun h => absurd h (nI_ge hp (by omega)), fun _ => ⟨fun h => absurd rfl h, fun _ => ?_⟩⟩
      rw [hS.2.2.2.1]
      refine c_wouldMeet hL (by omega) ?_
      rw [bs_and]
      exact inner _ (fun q a b => by rw [hcq q a b, hw, Bool.true_and]; rfl)
/-- the reference's best pair -/
theorem m_pairAt {g : Nat} (hR : RT M T) (hP : RP M) (hT : LW T) (hN : RN M N) (hW : SW T N) (hg : g < tG T) (hK : K (oI (pb T N g 21)) M) : wp_X8_pairAt (nI g) M K := by
  have h7 := hT.2.1
  have h5 := hT.1
  have h9 := hT.2.2.2.1
  have ht18 : ∀ k, tot T k ≤ 18 := fun k => by unfold tot; have := h9 (pO k) (pT k); have := h9 (pT k) (pO k); omega
  refine ⟨_, for_loop (fun f (s : Int32) i => wL_X8_pairAt_4 _ K f (nI g) s i M) (fun k s => s = oI (pb T N g k)) 21 (-1) rfl (fun f s h => ?_) (fun f k s hk h ih => ?_)⟩
  · rw [wL_X8_pairAt_4, h]
    exact ⟨fun _ => hK, fun h => absurd (nI_le (a := 21) (b := 21) (Nat.le_refl _) (by decide)) h⟩
  · obtain ⟨o1, o2, -⟩ := ix_of k hk
    obtain ⟨p1, p2⟩ := hP k hk
    have i1 : vp_in (nI k) 21 := in_nI hk (by decide)
    have no : cand T N g k = false → wL_X8_pairAt_4 _ K f (nI g) s (nI (k + 1)) M := fun hc => ih s (by rw [pb_no hc]; exact h)
    have J0 : cand T N g k = false → wJ_X8_pairAt_77 (wL_X8_pairAt_4 (fun (v2 : Int32) (M : kg_M) => K v2 M) K f) (fun (v2 : Int32) (M : kg_M) => K v2 M) K (nI g) s (nI k) 0 M := fun hc => by
      unfold wJ_X8_pairAt_77 wJ_X8_pairAt_108 wJ_X8_pairAt_159
      rw [nI_1]
      exact ⟨fun _ => ⟨fun _ => ⟨fun _ => no hc, fun h => absurd rfl h⟩, fun h => absurd rfl h⟩, fun h => absurd rfl h⟩
    rw [wL_X8_pairAt_4, cl_nI (by omega), p1, p2, hR.2.1, show (7 : Int32) = nI 7 from rfl, cl_add (by omega), cl_add (by omega), hN (7 + pO k) (by omega), hN (7 + pT k) (by omega)]
    refine ⟨fun h => absurd h (nI_ge (b := 21) hk (by decide)), fun _ => ⟨i1, fun h1 => J0 (cand_out ?_), fun h1 => ⟨i1, fun h2 => J0 (cand_out ?_), fun h2 => ⟨i1, in_add (by omega) (by decide), fun h3 => J0 ?_, fun h3 => ⟨i1, in_add (by omega) (by decide), fun h4 => J0 ?_, fun h4 => ?_⟩⟩⟩⟩⟩
    · rcases Nat.lt_or_ge (pO k) (tP T) with q | q
      · exact absurd h1 (nI_ge q (by omega))
      · omega
    · rcases Nat.lt_or_ge (pT k) (tP T) with q | q
      · exact absurd h2 (nI_ge q (by omega))
      · exact q
    · unfold cand; rw [show (N (7 + pO k) == nI g) = false from beq_eq_false_iff_ne.mpr h3]; simp
    · unfold cand; rw [show (N (7 + pT k) == nI g) = false from beq_eq_false_iff_ne.mpr h4]; simp
    · have hlt : pT k < tP T := by
        rcases Nat.lt_or_ge (pT k) (tP T) with q | q
        · exact q
        · exact absurd (nI_le q (by omega)) h2
      have hcw : cand T N g k = wd T N (pO k) (pT k) := by
        unfold cand
        rw [decide_eq_true hlt, h3, h4]; simp
      unfold wJ_X8_pairAt_77
      rw [cl_nI (by omega), p1, p2]
      refine ⟨fun h => absurd h (by decide), fun _ => ⟨i1, i1, m_would hR hT hN hW (by omega) (by omega) (by omega) (fun hwd => ⟨fun h => absurd h (by decide), fun _ => ?_⟩) (fun hwd => ⟨fun _ => ?_, fun h => absurd rfl h⟩)⟩⟩
      · have hc : cand T N g k = true := hcw.trans hwd
        have ht := ht18 k
        unfold wJ_X8_pairAt_108 wJ_X8_pairAt_159
        rw [nI_1]
        refine ⟨fun h => absurd h (by decide), fun _ => ⟨fun hneg => ⟨fun h => absurd h (by decide), fun _ => ih _ ?_⟩, fun hneg => ?_⟩⟩
        · cases hb : pb T N g k with
          | none => rw [pb, if_pos hc, hb]; rfl
          | some b => rw [h, hb] at hneg; have := (pb_lt T N g k b hb).1; exact absurd hneg (nI_pos (by omega))
        · cases hb : pb T N g k with
          | none => rw [h, hb] at hneg; exact absurd (by decide) hneg
          | some b =>
            have hlt2 := pb_lt T N g k b hb
            obtain ⟨c1, c2, -⟩ := ix_of b (by omega)
            obtain ⟨d1, d2⟩ := hP b (by omega)
            have es : s = nI b := by rw [h, hb]; rfl
            have ib : vp_in (nI b) 21 := in_nI (by omega) (by decide)
            have htb := ht18 b
            rw [es, cl_nI (by omega), cl_nI (by omega), p1, p2]
            refine ⟨i1, i1, m_both hR (by omega) (by omega) ⟨ib, ib, ?_⟩⟩
            rw [d1, d2]
            refine m_both hR (by omega) (by omega) ?_
            show (nI (tot T k) ≤ nI (tot T b) → _) ∧ (¬ nI (tot T k) ≤ nI (tot T b) → _)
            rw [nI_leI (by omega) (by omega)]
            refine ⟨fun h6 => ⟨fun _ => ih _ ?_, fun h => absurd rfl h⟩, fun h6 => ⟨fun h => absurd h (by decide), fun _ => ih _ ?_⟩⟩
            · rw [pb, if_pos hc, hb]; dsimp only; rw [if_neg (by omega)]; rfl
            · rw [pb, if_pos hc, hb]; dsimp only; rw [if_pos (by omega)]; rfl
      · have hc : cand T N g k = false := hcw.trans hwd
        unfold wJ_X8_pairAt_108 wJ_X8_pairAt_159
        rw [nI_1]
        exact ⟨fun _ => ⟨fun _ => no hc, fun h => absurd rfl h⟩, fun h => absurd rfl h⟩
end P12
