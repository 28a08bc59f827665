/-! ===== AT ONCE ===== -/
/-- how many gates aren't rusted -/
def opn (T : kT) (N : Nat → Int32) : Nat := tG T - ct (fun g => N (26 + g) == 1) (tG T)
def HM (T : kT) (M : kg_M) (b : Option (Nat → Nat)) : Prop := match b with
  | none => M 117 25 = -1 ∧ M 117 26 = 0
  | some w => ∃ m, cn w = 2 * m ∧ M 117 25 = nI m ∧ M 117 26 = nI (mu (tL T) w) ∧ ∀ j, j < 7 → M 131 j = nI (w j)
/-- what findAtOnce leaves alone -/
def frM (M M' : kg_M) : Prop := (∀ k, k ≠ 117 → k ≠ 129 → k ≠ 130 → k ≠ 131 → M' k = M k) ∧ ∀ j, j ≠ 25 → j ≠ 26 → M' 117 j = M 117 j
def oW (T : kT) (N : Nat → Int32) (c : Nat) : Bool := okL (wd T N) (cA c) && okL (wd T N) (cB c) && okL (wd T N) (cC c)
/-- code c is one of those that count -/
def cOk (T : kT) (N : Nat → Int32) (most c : Nat) : Prop := okS (cA c) (cB c) (cC c) = true ∧ oW T N c = true ∧ cn (wS (cA c) (cB c) (cC c)) ≤ 2 * most
section P19
variable {M : kg_M} {L S : Nat} {T : kT} {N : Nat → Int32}
theorem c_openGates {K : Int32 → kg_M → Prop} (hL : RC M L T) (hT : LW T) (hS : RS M 3 N) (hW : SW T N) (hK : K (nI (opn T N)) M) : wp_X7_openGates L M K := by
  have h5 := hT.1
  refine c_rusted hL hT hS hW (j_bits (by omega) ?_)
  rw [hL.1, pk_sub (ct_le _ _)]
  exact hK
theorem m_openGates {K : Int32 → kg_M → Prop} (hR : RT M T) (hT : LW T) (hN : RN M N) (hK : K (nI (opn T N)) M) : wp_X8_openGates M K := by
  have h5 := hT.1
  refine m_rusted hR hT hN (m_bitsB (by omega) ?_)
  rw [hR.1, pk_sub (ct_le _ _)]
  exact hK
theorem wd_fo {p q : Nat} (h : wd T N p q = true) : fo T p q = true := by
  unfold wd at h
  simp only [Bool.and_eq_true] at h
  exact h.1
theorem okL_wf {k : Nat} (h : okL (wd T N) k = true) : okL (fo T) k = true := by
  unfold okL at *
  simp only [Bool.or_eq_true] at *
  exact h.imp id wd_fo
theorem cOk_okC {most c : Nat} (h : cOk T N most c) : okC T (cA c) (cB c) (cC c) = true := by
  obtain ⟨h1, h2, -⟩ := h
  unfold oW at h2
  simp only [Bool.and_eq_true] at h2
  unfold okC
  rw [h1, okL_wf h2.1.1, okL_wf h2.1.2, okL_wf h2.2]
  rfl
theorem wB_ct {a b c : Nat} (ha : a < 22) (hb : b < 22) (hc : c < 22) (h : okS a b c = true) : ct (fun p => (wB a b c).testBit p) 7 = 2 * (nz a + nz b + nz c) ∧ wB a b c < 128 ∧ nz a + nz b + nz c ≤ 3 ∧ cn (wS a b c) = 2 * (nz a + nz b + nz c) := by
  obtain ⟨h1, h2, h3, h4, h5, h6⟩ := ckW_ok ha hb hc h
  have e : ∀ k, k ≤ 7 → ct (fun p => (wB a b c).testBit p) k = sm (c1 (wS a b c)) k := by
    intro k
    induction k with
    | zero => intro _; rfl
    | succ k ih =>
      intro hk
      rw [ct, sm, ih (by omega), (h1 k (by omega)).2]
      unfold c1
      by_cases e : wS a b c k = 7
      · rw [if_pos e, e]; rfl
      · rw [if_neg e]
        have : (wS a b c k == 7) = false := by simp [e]
        rw [this]; rfl
  have e7 := e 7 (by omega)
  refine ⟨by rw [e7]; exact h6, h5, ?_, h6⟩
  have z : ∀ k, nz k ≤ 1 := fun k => by unfold nz; split <;> omega
  have := z a
  have := z b
  have := z c
  omega
/-- the sum of the likings of a matching -/
theorem m_much {Kx : Int32 → Int32 → Int32 → Int32 → kg_M → Prop} {K : kg_M → Prop} {v1 v2 v4 : Int32} {w : Nat → Nat} (hR : RT M T) (hT : LW T) (hw : ∀ p, p < 7 → M 130 p = nI (w p)) (hm : Mt (wd T N) w) (hK : Kx v1 v2 v4 (nI (mu (tL T) w)) M) : ∃ g, wL_X8_findAtOnce_79 Kx K g v1 v2 v4 0 0 M := by
  have h7 := hT.2.1
  refine ⟨_, for_loop (fun f (a : Int32) i => wL_X8_findAtOnce_79 Kx K f v1 v2 v4 a i M) (fun k a => a = nI (sm (m1 (tL T) w) k)) (tP T) 0 rfl (fun f a h => ?_) (fun f k a hk h ih => ?_)⟩
  · rw [wL_X8_findAtOnce_79, hR.2.1]
    refine ⟨fun _ => ?_, fun h => absurd (nI_le (Nat.le_refl _) (by omega)) h⟩
    have e : mu (tL T) w = sm (m1 (tL T) w) (tP T) := sm_cut (by omega) (fun j h1 h2 => by
      unfold m1
      rcases hm j h2 with e | ⟨_, _, e⟩
      · rw [if_pos e]
      · have := (wd_DW hT).2 _ _ e; omega)
    rw [h, ← e]
    exact hK
  · have hle := Mt_le hm (show k < 7 by omega)
    have hz : a + (0 : Int32) = a := by rw [h]; exact nI_add _ 0
    rw [wL_X8_findAtOnce_79, hR.2.1, cl_nI (a := k) (by omega), hw k (by omega), nI_7, nI_1 k, hz]
    refine ⟨fun h => absurd h (nI_ge hk (by omega)), fun _ => ⟨in_nI (by omega) (by decide), fun h0 => ih a ?_, fun h0 => ⟨in_nI (by omega) (by decide), ?_⟩⟩⟩
    · have e : w k = 7 := by have := (nI_leI (a := 7) (b := w k) (by decide) (by omega)).mp h0; omega
      rw [h, sm]; unfold m1; rw [if_pos e]; rfl
    · have e : w k < 7 := by
        rcases Nat.lt_or_ge (w k) 7 with q | q
        · exact q
        · exact absurd (nI_le (a := 7) q (by omega)) h0
      rw [cl_nI (by omega), hR.2.2.2 k (w k) (by omega) e]
      refine ⟨in_nI (by omega) (by decide), ih _ ?_⟩
      rw [h, sm, nI_add]; unfold m1; rw [if_neg (by omega)]
theorem m_takeF {Kb : Int32 → Int32 → kg_M → Prop} {Kx : kg_M → Prop} {K : kg_M → Prop} {v1 : Int32} {i m : Nat} {w : Nat → Nat} (hw : ∀ p, p < 7 → M 130 p = nI (w p)) (hm : cn w = 2 * m) (hK : ∀ M', frM M M' → HM T M' (some w) → Kb v1 (nI (i + 1)) M') : wJ_X8_findAtOnce_179 Kb Kx K v1 (nI i) (nI m) (nI (mu (tL T) w)) M := by
  intro M62 e62 M65 e65
  have r65 : ∀ k, k ≠ 117 → M65 k = M k := fun k hk => by rw [e65, kg_row_ne _ _ hk, e62, kg_row_ne _ _ hk]
  have q65 : M65 117 = upd (upd (M 117) 25 (nI m)) 26 (nI (mu (tL T) w)) := by rw [e65, kg_row_eq, e62, kg_row_eq]
  refine ⟨_, for_loop (fun f (M' : kg_M) k => wL_X8_findAtOnce_194 _ K f v1 (nI i) k M') (fun k M' => (∀ j, j ≠ 131 → M' j = M65 j) ∧ ∀ p, p < k → M' 131 p = nI (w p)) 7 M65 ⟨fun _ _ => rfl, fun p hp => absurd hp (Nat.not_lt_zero _)⟩ (fun f M' h => ?_) (fun f k M' hk h ih => ?_)⟩
  · rw [wL_X8_findAtOnce_194, nI_1 i]
    refine ⟨fun _ => hK M' ⟨fun k a b c d => by rw [h.1 k d, r65 k a], fun j a b => by rw [h.1 117 (by decide), q65, upd_ne b, upd_ne a]⟩ ⟨m, hm, by rw [h.1 117 (by decide), q65]; rfl, by rw [h.1 117 (by decide), q65]; rfl, h.2⟩, fun h => absurd (by decide) h⟩
  · rw [wL_X8_findAtOnce_194, nI_1 k, cl_nI (a := k) (by omega), h.1 130 (by decide), r65 130 (by decide), hw k hk]
    refine ⟨fun h => absurd h (nI_ge (a := k) (b := 7) hk (by decide)), fun _ => ⟨in_nI hk (by decide), in_nI hk (by decide), fun M76 e76 => ih M76 ⟨fun j hj => by rw [e76, kg_row_ne _ _ hj, h.1 j hj], fun p hp => ?_⟩⟩⟩
    rw [e76, kg_row_eq]
    by_cases e : p = k
    · rw [e, upd_eq]
    · rw [upd_ne e]; exact h.2 p (by omega)
theorem frM_tr {M1 M2 : kg_M} (h : frM M M1) (h2 : frM M1 M2) : frM M M2 := ⟨fun k a b c d => by rw [h2.1 k a b c d, h.1 k a b c d], fun j a b => by rw [h2.2 j a b, h.2 j a b]⟩
theorem frM_129 {M1 : kg_M} (h : ∀ k, k ≠ 129 → M1 k = M k) : frM M M1 := ⟨fun k _ b _ _ => h k b, fun j _ _ => by rw [h 117 (by decide)]⟩
theorem frM_130 {M1 : kg_M} (h : ∀ k, k ≠ 130 → M1 k = M k) : frM M M1 := ⟨fun k _ _ b _ => h k b, fun j _ _ => by rw [h 117 (by decide)]⟩
theorem HM_of {M1 : kg_M} {b : Option (Nat → Nat)} (h : HM T M b) (h1 : M1 117 = M 117) (h2 : M1 131 = M 131) : HM T M1 b := by
  cases b with
  | none => unfold HM at *; rw [h1]; exact h
  | some w => unfold HM at *; rw [h1, h2]; exact h
/-- the codes before i, and the best of them -/
def FI (T : kT) (N : Nat → Int32) (most i : Nat) (b : Option (Nat → Nat)) : Prop := (∀ w, b = some w → Cp (wd T N) most (fun _ => 7) 0 w) ∧ ∀ c, c < i → cOk T N most c → ∃ w, b = some w ∧ Vl (tL T) (wS (cA c) (cB c) (cC c)) ≤ Vl (tL T) w
theorem FI_skip {most i : Nat} {b : Option (Nat → Nat)} (h : FI T N most i b) (hs : cOk T N most i → ∃ w, b = some w ∧ Vl (tL T) (wS (cA i) (cB i) (cC i)) ≤ Vl (tL T) w) : FI T N most (i + 1) b := ⟨h.1, fun c hc ho => by
  rcases Nat.lt_or_ge c i with q | q
  · exact h.2 c q ho
  · have e : c = i := by omega
    subst e; exact hs ho⟩
theorem FI_take {most i : Nat} {b : Option (Nat → Nat)} {w : Nat → Nat} (h : FI T N most i b) (hw : Cp (wd T N) most (fun _ => 7) 0 w) (e : w = wS (cA i) (cB i) (cC i)) (hb : ∀ x, b = some x → Vl (tL T) x ≤ Vl (tL T) w) : FI T N most (i + 1) (some w) := ⟨fun x hx => by rw [← Option.some.inj hx]; exact hw, fun c hc ho => by
  rcases Nat.lt_or_ge c i with q | q
  · obtain ⟨x, hx, hv⟩ := h.2 c q ho
    exact ⟨w, rfl, Nat.le_trans hv (hb x hx)⟩
  · have e2 : c = i := by omega
    subst e2; exact ⟨w, rfl, by rw [e]; exact Nat.le_refl _⟩⟩
theorem m_findAtOnce {K : kg_M → Prop} (hR : RT M T) (hP : RP M) (hT : LW T) (hN : RN M N) (hW : SW T N) (hK : ∀ M' w, frM M M' → HM T M' (some w) → Cp (wd T N) (opn T N) (fun _ => 7) 0 w → (∀ w', Cp (wd T N) (opn T N) (fun _ => 7) 0 w' → Vl (tL T) w' ≤ Vl (tL T) w) → K M') : wp_X8_findAtOnce M K := by
  have h7 := hT.2.1
  have h5 := hT.1
  have h9 : ∀ p q, tL T p q ≤ 9 := hT.2.2.2.1
  have hD := wd_DW (N := N) hT
  generalize hmost : opn T N = most at hK
  have hm5 : most ≤ 5 := by rw [← hmost]; unfold opn; omega
  intro M2 e2 M5 e5
  have r5 : ∀ k, k ≠ 117 → M5 k = M k := fun k hk => by rw [e5, kg_row_ne _ _ hk, e2, kg_row_ne _ _ hk]
  have q5 : M5 117 = upd (upd (M 117) 25 (-1)) 26 0 := by rw [e5, kg_row_eq, e2, kg_row_eq]
  have f5 : frM M M5 := ⟨fun k a _ _ _ => r5 k a, fun j a b => by rw [q5, upd_ne b, upd_ne a]⟩
  have RR : ∀ M' : kg_M, frM M M' → RT M' T ∧ RP M' ∧ RN M' N := fun M' r => ⟨RT_of hR (r.2 0 (by decide) (by decide)) (r.2 2 (by decide) (by decide)) (fun k hk => r.1 k (by omega) (by omega) (by omega) (by omega)), RP_of hP (fun k hk => r.1 k (by omega) (by omega) (by omega) (by omega)), RN_of hN (r.1 120 (by decide) (by decide) (by decide) (by decide))⟩
  obtain ⟨x1, x2, x3⟩ := RR M5 f5
  refine m_openGates x1 hT x3 ?_
  rw [hmost]
  refine ⟨_, for_loop (fun f (M' : kg_M) i => wL_X8_findAtOnce_17 _ K f (nI most) i M') (fun i M' => frM M M' ∧ ∃ b, HM T M' b ∧ FI T N most i b) 10648 M5 ⟨f5, none, ⟨by rw [q5]; rfl, by rw [q5]; rfl⟩, fun w hw => by simp at hw, fun c hc => absurd hc (Nat.not_lt_zero _)⟩ (fun f M' h => ?_) (fun f i M' hi h ih => ?_)⟩
  · obtain ⟨hf, b, hb, hF⟩ := h
    rw [wL_X8_findAtOnce_17]
    refine ⟨fun _ => ?_, fun h => absurd (by decide) h⟩
    have all : ∀ w', Cp (wd T N) most (fun _ => 7) 0 w' → ∃ w, b = some w ∧ Vl (tL T) w' ≤ Vl (tL T) w := by
      intro w' hw'
      obtain ⟨a, b', c, ha, hb', hc, ho, he⟩ := code_of hD hw'.1
      obtain ⟨k1, k2, k3, k4⟩ := code_abc ha hb' hc
      have hMt : Mt (wd T N) (wS a b' c) := fun p hp => by
        rcases hw'.1 p hp with e | ⟨e1, e2, e3⟩
        · exact Or.inl (by rw [he p hp]; exact e)
        · exact Or.inr (by rw [he p hp, he (w' p) e1]; exact ⟨e1, e2, e3⟩)
      have hok := (code_Mt hD ha hb' hc ho).mpr hMt
      have hcn : cn (wS a b' c) = cn w' := sm_eq (fun j hj => by unfold c1; rw [he j hj])
      have := hF.2 (a * 484 + b' * 22 + c) k1 (by
        unfold cOk oW
        rw [k2, k3, k4, hok.1, hok.2.1, hok.2.2, hcn]
        exact ⟨ho, rfl, hw'.2.1⟩)
      rw [k2, k3, k4, Vl_eq he] at this
      exact this
    have hct : Cp (wd T N) most (fun _ => 7) 0 (fun _ => 7) := ⟨fun _ _ => Or.inl rfl, by show 0 ≤ _; omega, fun _ _ => rfl⟩
    obtain ⟨w, hw, -⟩ := all _ hct
    subst hw
    refine hK M' w hf hb (hF.1 w rfl) (fun w' hw' => ?_)
    obtain ⟨x, e, hx⟩ := all w' hw'
    rw [Option.some.inj e]; exact hx
  · obtain ⟨hf, b, hb, hF⟩ := h
    obtain ⟨y1, y2, y3⟩ := RR M' hf
    obtain ⟨l1, l2, l3⟩ := code_lt hi
    rw [wL_X8_findAtOnce_17]
    refine ⟨fun h => absurd h (nI_ge (a := i) (b := 10648) hi (by decide)), fun _ => m_choose y1 y2 hT hi (fun M15 r15 a0 a1 a2 => ⟨fun hok => ⟨fun _ => ?_, fun h => absurd (fa_of_nlt (nI_pos ?_)) h⟩, fun hno => ⟨fun h => absurd h (by decide), fun _ => ⟨fun _ => ?_, fun h => absurd (by decide) h⟩⟩⟩)⟩
    · have hS : okS (cA i) (cB i) (cC i) = true := by unfold okC at hok; simp only [Bool.and_eq_true] at hok; exact hok.1.1.1
      obtain ⟨g1, g2, g3, g4⟩ := wB_ct l1 l2 l3 hS
      generalize hz : nz (cA i) + nz (cB i) + nz (cC i) = m at g1 g3 g4
      have f15 : frM M M15 := frM_tr hf (frM_129 r15)
      refine m_bits (by omega) ?_
      rw [g1]
      rw [show (2 : Int32) = nI 2 from rfl, pk_div (by omega) (by decide) (by decide), show 2 * m / 2 = m by omega]
      have hb15 : HM T M15 b := HM_of hb (r15 117 (by decide)) (r15 131 (by decide))
      have keep : ∀ M3 : kg_M, frM M M3 → HM T M3 b → (cOk T N most i → ∃ w, b = some w ∧ Vl (tL T) (wS (cA i) (cB i) (cC i)) ≤ Vl (tL T) w) → wL_X8_findAtOnce_17 (fun (M : kg_M) => K M) K f (nI most) (nI i + 1) M3 := fun M3 h1 h2 h3 => by
        rw [nI_1 i]; exact ih M3 ⟨h1, b, h2, FI_skip hF h3⟩
      obtain ⟨z1, z2, z3⟩ := RR M15 f15
      refine ⟨fun h => absurd h (nI_pos (by omega)), fun _ => ⟨fun h => keep M15 f15 hb15 (fun ho => ?_), fun h1 => ⟨fun h => keep M15 f15 hb15 (fun ho => ?_), fun h2 => m_pairUp z1 z2 hT z3 hW l1 l2 l3 a0 a1 a2 (fun M34 r34 w34 => ?_)⟩⟩⟩
      · have := (nI_ltI (by omega) (by omega)).mp h
        have := ho.2.2
        omega
      · cases b with
        | none =>
          rw [hb15.1] at h
          exact absurd h (fun h => absurd (nI_pos (n := m) (by omega)) (fun hh => hh (Int32.lt_trans h (by decide))))
        | some wb =>
          obtain ⟨mb, c1, c2, c3, c4⟩ := hb15
          have cb := cn_bd (w := wb)
          rw [c2] at h
          have := (nI_ltI (by omega) (by omega)).mp h
          have b1 := mu_bd (w := wS (cA i) (cB i) (cC i)) h9
          have b2 : lx (wS (cA i) (cB i) (cC i)) 7 < 2097152 := lx_bd (k := 7) (fun j hj => by have := ((ckW_ok l1 l2 l3 hS).1 j hj).1; omega)
          exact ⟨wb, rfl, by unfold Vl; omega⟩
      · have f34 : frM M M34 := frM_tr f15 (frM_130 r34)
        have hb34 : HM T M34 b := HM_of hb15 (r34 117 (by decide)) (r34 131 (by decide))
        have hle : m ≤ most := by
          rcases Nat.lt_or_ge most m with q | q
          · exact absurd ((nI_ltI (by omega) (by omega)).mpr q) h1
          · exact q
        refine ⟨fun h => keep M34 f34 hb34 (fun ho => ?_), fun h => ?_⟩
        · have := ho.2.1
          unfold oW at this
          rw [this] at h; exact absurd h (by decide)
        · have hoW : (okL (wd T N) (cA i) && okL (wd T N) (cB i) && okL (wd T N) (cC i)) = true := by
            cases e : (okL (wd T N) (cA i) && okL (wd T N) (cB i) && okL (wd T N) (cC i)) with
            | true => rfl
            | false => rw [e] at h; exact absurd rfl h
          have hoW' := hoW
          simp only [Bool.and_eq_true] at hoW'
          have hMt : Mt (wd T N) (wS (cA i) (cB i) (cC i)) := (code_Mt hD l1 l2 l3 hS).mp ⟨hoW'.1.1, hoW'.1.2, hoW'.2⟩
          obtain ⟨u1, u2, u3⟩ := RR M34 f34
          refine m_much u1 hT w34 hMt ?_
          generalize hww : wS (cA i) (cB i) (cC i) = w at hMt w34 g4
          have hCp : Cp (wd T N) most (fun _ => 7) 0 w := ⟨hMt, by omega, fun j hj => absurd hj (Nat.not_lt_zero _)⟩
          have b1 := mu_bd (w := w) h9
          have b2 : lx w 7 < 2097152 := lx_bd (k := 7) (fun j hj => Mt_le hMt hj)
          have tk : ∀ (v1 : Int32) (M4 : kg_M), v1 = nI most → M4 = M34 → (∀ x, b = some x → Vl (tL T) x ≤ Vl (tL T) w) → wJ_X8_findAtOnce_179 (wL_X8_findAtOnce_17 (fun (M : kg_M) => K M) K f) (fun (M : kg_M) => K M) K v1 (nI i) (nI m) (nI (mu (tL T) w)) M4 := fun v1 M4 ev eM hx => by
            subst eM; subst ev
            exact m_takeF w34 g4 (fun M5 f5 h5 => ih M5 ⟨frM_tr f34 f5, some w, h5, FI_take hF hCp hww.symm hx⟩)
          have keep' : (∃ x, b = some x ∧ Vl (tL T) w ≤ Vl (tL T) x) → wL_X8_findAtOnce_17 (fun (M : kg_M) => K M) K f (nI most) (nI i + 1) M34 := fun hx => keep M34 f34 hb34 (fun _ => by rw [hww]; exact hx)
          cases b with
          | none =>
            have e25 : M34 117 25 < nI m := by
              rw [hb34.1]
              exact fa_trans (b := 0) (by decide) (fa_of_nlt (nI_pos (by omega)))
            exact ⟨fun _ => ⟨fun _ => tk _ _ rfl rfl (fun x hx => by simp at hx), fun h => absurd h (by decide)⟩, fun h => absurd e25 h⟩
          | some wb =>
            have hCb := hF.1 wb rfl
            obtain ⟨mb, c1, c2, c3, c4⟩ := hb34
            have cb := cn_bd (w := wb)
            have b3 := mu_bd (w := wb) h9
            have b4 : lx wb 7 < 2097152 := lx_bd (k := 7) (fun j hj => Mt_le hCb.1 hj)
            have hge : mb ≤ m := by
              rcases Nat.lt_or_ge m mb with q | q
              · have : M15 117 25 = nI mb := by rw [← r34 117 (by decide)]; exact c2
                rw [this] at h2
                exact absurd ((nI_ltI (by omega) (by omega)).mpr q) h2
              · exact q
            rw [c2, c3]
            have tk' : Vl (tL T) wb ≤ Vl (tL T) w → wJ_X8_findAtOnce_179 (wL_X8_findAtOnce_17 (fun (M : kg_M) => K M) K f) (fun (M : kg_M) => K M) K (nI most) (nI i) (nI m) (nI (mu (tL T) w)) M34 := fun hv => tk _ _ rfl rfl (fun x hx => by rw [← Option.some.inj hx]; exact hv)
            refine ⟨fun h => ⟨fun _ => tk' ?_, fun h => absurd h (by decide)⟩, fun h3 => ⟨fun h4 => ⟨fun h => absurd rfl h, fun _ => ?_⟩, fun h4 => ⟨fun _ => tk' ?_, fun h => absurd h (by decide)⟩⟩⟩
            · have := (nI_ltI (by omega) (by omega)).mp h
              unfold Vl; omega
            · have hm : m = mb := by
                rcases Nat.lt_or_ge mb m with q | q
                · exact absurd ((nI_ltI (by omega) (by omega)).mpr q) h3
                · omega
              have h4' := (nI_leI (by omega) (by omega)).mp h4
              rw [c3]
              refine ⟨fun h => keep' ⟨wb, rfl, ?_⟩, fun h => ?_⟩
              · have : mu (tL T) w ≠ mu (tL T) wb := fun e => h (by rw [e])
                unfold Vl; omega
              · have hmu := (nI_eq (by omega) (by omega)).mp h
                refine m_isFirst u1 hT w34 c4 (fun j hj => Mt_le hMt hj) (fun j hj => Mt_le hCb.1 hj) (fun p hp hp7 => ?_) (fun hl => ⟨fun h => absurd h (by decide), fun _ => tk' (by unfold Vl; omega)⟩) (fun hl => ⟨fun _ => keep' ⟨wb, rfl, by unfold Vl; omega⟩, fun h => absurd rfl h⟩)
                have a : w p = 7 := by
                  rcases hMt p hp7 with e | ⟨_, _, e⟩
                  · exact e
                  · have := hD.2 _ _ e; omega
                have c : wb p = 7 := by
                  rcases hCb.1 p hp7 with e | ⟨_, _, e⟩
                  · exact e
                  · have := hD.2 _ _ e; omega
                rw [a, c]
            · have h4' : ¬ mu (tL T) w ≤ mu (tL T) wb := fun c => h4 ((nI_leI (by omega) (by omega)).mpr c)
              have hm : m = mb := by
                rcases Nat.lt_or_ge mb m with q | q
                · exact absurd ((nI_ltI (by omega) (by omega)).mpr q) h3
                · omega
              unfold Vl; omega
    · have hS : okS (cA i) (cB i) (cC i) = true := by unfold okC at hok; simp only [Bool.and_eq_true] at hok; exact hok.1.1.1
      have := (wB_ct l1 l2 l3 hS).2.1
      omega
    · rw [nI_1 i]
      exact ih M15 ⟨frM_tr hf (frM_129 r15), b, HM_of hb (r15 117 (by decide)) (r15 131 (by decide)), FI_skip hF (fun ho => by rw [cOk_okC ho] at hno; exact absurd hno (by decide))⟩
end P19
