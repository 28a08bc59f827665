/-! ===== whom to ask next ===== -/
theorem ct_and_le (c d : Nat → Bool) : ∀ k, ct (fun p => c p && d p) k ≤ ct c k
  | 0 => Nat.le_refl 0
  | k + 1 => by
    have h := ct_and_le c d k
    rw [ct, ct]
    cases c k <;> cases d k <;> simp <;> omega
/-- of the suspects, how many would make q ill; the greater part -/
def aW (ok : Nat → Bool) (il : Nat → Nat → Bool) (n q : Nat) : Nat := ct (fun p => ok p && il p q) n
def aP (ok : Nat → Bool) (il : Nat → Nat → Bool) (n q : Nat) : Nat := if aW ok il n q < ct ok n - aW ok il n q then ct ok n - aW ok il n q else aW ok il n q
def aS (ok : Nat → Bool) (il : Nat → Nat → Bool) (n : Nat) : Nat → Int32 × Nat
  | 0 => (-1, ct ok n)
  | q + 1 => if aP ok il n q < (aS ok il n q).2 then (nI q, aP ok il n q) else aS ok il n q
theorem aW_le (ok : Nat → Bool) (il : Nat → Nat → Bool) (n q : Nat) : aW ok il n q ≤ ct ok n ∧ ct ok n ≤ n := ⟨ct_and_le _ _ n, ct_le _ n⟩
theorem aP_le (ok : Nat → Bool) (il : Nat → Nat → Bool) (n q : Nat) : aP ok il n q ≤ n := by
  have h := aW_le ok il n q
  unfold aP
  split <;> omega
theorem aS_le (ok : Nat → Bool) (il : Nat → Nat → Bool) (n : Nat) : ∀ q, (aS ok il n q).2 ≤ n
  | 0 => ct_le _ n
  | q + 1 => by
    rw [aS]
    split
    · exact aP_le ok il n q
    · exact aS_le ok il n q
section P15
variable {M : kg_M} {L S : Nat} {T : kT} {N : Nat → Int32}
theorem c_greatest {ok : Nat → Bool} {il : Nat → Nat → Bool} {q : Nat} {K : Int32 → kg_M → Prop} (hL : RC M L T) (hT : LW T) (hq : q < 7) (h108 : ∀ p, p < tP T → ∃ s, s < 128 ∧ M 108 p = nI s ∧ ∀ q, q < 7 → s.testBit q = il p q) (hK : K (nI (aP ok il (tP T) q)) M) : wp_X7_greatestPart L (nI (bs ok (tP T))) (nI q) M K := by
  have h7 := hT.2.1
  have hle := aW_le ok il (tP T) q
  refine ⟨_, for_loop (fun f (a : Int32) i => wL_X7_greatestPart_5 L _ K f (nI (bs ok (tP T))) (nI q) a i M) (fun k a => a = nI (ct (fun p => ok p && il p q) k)) (tP T) 0 rfl (fun f a h => ?_) (fun f k a hk h ih => ?_)⟩
  · rw [wL_X7_greatestPart_5, hL.2.1]
    refine ⟨fun _ => j_bits h7 ?_, fun h => absurd (nI_le (Nat.le_refl _) (by omega)) h⟩
    have e : (if a < nI (ct ok (tP T)) - a then nI (ct ok (tP T)) - a else a) = nI (aP ok il (tP T) q) := by
      rw [h]
      show (if nI (aW ok il (tP T) q) < nI (ct ok (tP T)) - nI (aW ok il (tP T) q) then nI (ct ok (tP T)) - nI (aW ok il (tP T) q) else nI (aW ok il (tP T) q)) = _
      rw [pk_sub hle.1]
      unfold aP
      by_cases hc : aW ok il (tP T) q < ct ok (tP T) - aW ok il (tP T) q
      · rw [if_pos hc, if_pos ((nI_ltI (by omega) (by omega)).mpr hc)]
      · rw [if_neg hc, if_neg (fun h => hc ((nI_ltI (by omega) (by omega)).mp h))]
    rw [e]
    exact hK
  · obtain ⟨s, hs, e108, hb⟩ := h108 k hk
    rw [wL_X7_greatestPart_5, hL.2.1, bs_has (by omega) hk, cl_nI (by omega), e108, nI_bit (by omega) (by omega), hb q hq, nI_1 k]
    refine ⟨fun h => absurd h (nI_ge hk (by omega)), fun _ => ⟨fun h0 => ih a ?_, fun h0 => ⟨in_nI (by omega) (by decide), fun h1 => ih a ?_, fun h1 => ih _ ?_⟩⟩⟩
    · rw [h, ct]
      cases hok : ok k with
      | true => rw [hok] at h0; exact absurd rfl h0
      | false => rfl
    · rw [h, ct]
      cases hil : il k q with
      | true => rw [hil] at h1; exact absurd rfl h1
      | false => rw [Bool.and_false]; rfl
    · have o1 : ok k = true := by cases hok : ok k with
        | true => rfl
        | false => rw [hok] at h0; exact absurd h0 (by decide)
      have o2 : il k q = true := by cases hil : il k q with
        | true => rfl
        | false => rw [hil] at h1; exact absurd h1 (by decide)
      rw [h, ct, o1, o2, nI_1]; rfl
theorem p_ask {σ : kS} (hC : CI M L S σ) : Pair L S M σ (wp_X7_ask L) wp_X8_ask := by
  obtain ⟨T, N, ⟨U, pu⟩, ⟨im, is, kp⟩, sv, fl, ⟨tn, tx⟩, ⟨kn, kw, ki⟩, ⟨bn, bo, bi⟩⟩ := σ
  obtain ⟨⟨hT, hRC⟩, ⟨hSW, hRS⟩, hCU, hCM, hsv, hfl, hCX, hCN, hCB, hLS⟩ := id hC
  have h7 := hT.2.1
  have h5 := hT.1
  obtain ⟨c, hc, h34, hlog⟩ := id hSW.2.2.2.2.2.2.2
  have hmN : ∀ p, p < 7 → mN N p c < 128 := fun p hp => mN_lt hT hlog hp c (Nat.le_refl _)
  have hLr : L = 109 ∨ L = 113 := by omega
  generalize hok : okP N c kn kw ki = ok
  generalize hil : (fun p q => (mN N p c).testBit q) = il
  have hb : ∀ p q, (mN N p c).testBit q = il p q := fun p q => by rw [← hil]
  refine ⟨(aS ok il (tP T) (tP T)).1, (T, N, (U, pu), (im, is, kp), sv, fl, (tn, tx), (kn, kw, ki), (bn, bo, bi)), c_mayBe hRC hT hRS hc h34 hlog hCN ?_, fun M1 hM => m_couldBe hM.1 hT hM.2.2.1 hc h34 hlog hCN.1 hCN.2.1 hM.2.2.2.2.2.2.2.2.1 ?_⟩
  · rw [hok]
    refine ⟨_, for_loop (fun f (M' : kg_M) i => wL_X7_ask_7 L _ _ f (nI (bs ok (tP T))) i M') (fun k M' => (∀ j, j ≠ 108 → M' j = M j) ∧ ∀ p, p < k → M' 108 p = nI (mN N p c)) (tP T) M ⟨fun _ _ => rfl, fun p hp => absurd hp (Nat.not_lt_zero _)⟩ (fun f M' h => ?_) (fun f k M' hk h ih => ?_)⟩
    · have hL' : RC M' L T := RC_of (h.1 _ (by omega)) (h.1 _ (by omega)) (h.1 _ (by omega)) (h.1 _ (by omega)) hRC
      rw [wL_X7_ask_7, hL'.2.1]
      refine ⟨fun _ => j_bits h7 ⟨_, for_loop (fun f (s : Int32 × Int32) i => wL_X7_ask_48 L _ _ f (nI (bs ok (tP T))) s.1 s.2 i M') (fun q s => s.1 = (aS ok il (tP T) q).1 ∧ s.2 = nI (aS ok il (tP T) q).2) (tP T) (-1, nI (ct ok (tP T))) ⟨rfl, rfl⟩ (fun f s hs => ?_) (fun f q s hq hs ih => ?_)⟩, fun h => absurd (nI_le (Nat.le_refl _) (by omega)) h⟩
      · rw [wL_X7_ask_48, hL'.2.1]
        exact ⟨fun _ => ⟨hs.1, CI_of hC (fun k hk => h.1 k (fun e => hk (by unfold scr; omega))), fun k hk => h.1 k (by omega)⟩, fun h => absurd (nI_le (Nat.le_refl _) (by omega)) h⟩
      · have h1 := aP_le ok il (tP T) q
        have h2 := aS_le ok il (tP T) q
        rw [wL_X7_ask_48, hL'.2.1, nI_1 q, hs.2]
        refine ⟨fun h => absurd h (nI_ge hq (by omega)), fun _ => c_greatest (il := il) hL' hT (by omega) (fun p hp => ⟨mN N p c, hmN p (by omega), h.2 p hp, fun q _ => hb p q⟩) ⟨fun hle => ih (s.1, nI (aS ok il (tP T) q).2) ?_, fun hle => ih (nI q, nI (aP ok il (tP T) q)) ?_⟩⟩
        · have : ¬ aP ok il (tP T) q < (aS ok il (tP T) q).2 := by have := (nI_leI (by omega) (by omega)).mp hle; omega
          rw [aS, if_neg this]
          exact ⟨hs.1, rfl⟩
        · have : aP ok il (tP T) q < (aS ok il (tP T) q).2 := by
            rcases Nat.lt_or_ge (aP ok il (tP T) q) (aS ok il (tP T) q).2 with h | h
            · exact h
            · exact absurd (nI_le h (by omega)) hle
          rw [aS, if_pos this]
          exact ⟨rfl, rfl⟩
    · have hL' : RC M' L T := RC_of (h.1 _ (by omega)) (h.1 _ (by omega)) (h.1 _ (by omega)) (h.1 _ (by omega)) hRC
      have hS' : RS M' 3 N := RS_of (h.1 _ (by omega)) (h.1 _ (by omega)) (h.1 _ (by omega)) (h.1 _ (by omega)) hRS
      rw [wL_X7_ask_7, hL'.2.1, nI_1 k]
      refine ⟨fun h => absurd h (nI_ge hk (by omega)), fun _ => c_madeIllBy hT hS' hc h34 hlog (by omega) ⟨in_nI (by omega) (by decide), fun M14 e14 => ih M14 ⟨fun j hj => by rw [e14, kg_row_ne _ _ hj, h.1 j hj], fun p hp => ?_⟩⟩⟩
      rw [e14, kg_row_eq, cl_nI (by omega)]
      by_cases hpk : p = k
      · rw [hpk, upd_eq]
      · rw [upd_ne hpk]; exact h.2 p (by omega)
  · rw [hok]
    refine m_bitsB h7 ⟨_, for_loop (fun f (s : Int32 × Int32) i => wL_X8_ask_18 _ _ f (nI (bs ok (tP T))) (nI (ct ok (tP T))) s.1 s.2 i M1) (fun q s => s.1 = (aS ok il (tP T) q).1 ∧ s.2 = nI (aS ok il (tP T) q).2) (tP T) (-1, nI (ct ok (tP T))) ⟨rfl, rfl⟩ (fun f s hs => ?_) (fun f q s hq hs ih => ?_)⟩
    · rw [wL_X8_ask_18, hM.1.2.1]
      exact ⟨fun _ => MK_s hM hs.1, fun h => absurd (nI_le (Nat.le_refl _) (by omega)) h⟩
    · have h1 := aP_le ok il (tP T) q
      have h2 := aS_le ok il (tP T) q
      have hle := aW_le ok il (tP T) q
      rw [wL_X8_ask_18, hM.1.2.1]
      refine ⟨fun h => absurd h (nI_ge hq (by omega)), fun _ => ⟨_, for_loop (fun f2 (a : Int32) i => wL_X8_ask_33 _ _ f2 (nI (bs ok (tP T))) (nI (ct ok (tP T))) s.1 s.2 (nI q) a i M1) (fun k a => a = nI (ct (fun p => ok p && il p q) k)) (tP T) 0 rfl (fun f2 a ha => ?_) (fun f2 k a hk ha ih2 => ?_)⟩⟩
      · rw [wL_X8_ask_33, hM.1.2.1]
        refine ⟨fun _ => ?_, fun h => absurd (nI_le (Nat.le_refl _) (by omega)) h⟩
        have J : ∀ x : Int32, x = nI (aP ok il (tP T) q) → ∀ (Kb : Int32 → Int32 → Int32 → Int32 → Int32 → kg_M → Prop) (Kx : Int32 → kg_M → Prop) (K : Int32 → kg_M → Prop), (∀ s' : Int32 × Int32, s'.1 = (aS ok il (tP T) (q + 1)).1 ∧ s'.2 = nI (aS ok il (tP T) (q + 1)).2 → Kb (nI (bs ok (tP T))) (nI (ct ok (tP T))) s'.1 s'.2 (nI (q + 1)) M1) → wJ_X8_ask_99 Kb Kx K (nI (bs ok (tP T))) (nI (ct ok (tP T))) s.1 s.2 (nI q) x M1 := by
          intro x hx Kb Kx K hKb
          unfold wJ_X8_ask_99 wJ_X8_ask_114
          rw [hx, hs.2, nI_1 q]
          rcases Nat.lt_or_ge (aP ok il (tP T) q) (aS ok il (tP T) q).2 with hlt | hge
          · have e : aS ok il (tP T) (q + 1) = (nI q, aP ok il (tP T) q) := by rw [aS, if_pos hlt]
            have n : ¬ nI (aS ok il (tP T) q).2 ≤ nI (aP ok il (tP T) q) := nI_ge hlt (by omega)
            exact ⟨fun h => absurd h n, fun _ => ⟨fun h => absurd h n, fun _ => hKb (nI q, nI (aP ok il (tP T) q)) (by rw [e]; exact ⟨rfl, rfl⟩)⟩⟩
          · have e : aS ok il (tP T) (q + 1) = aS ok il (tP T) q := by rw [aS, if_neg (by omega)]
            have n : nI (aS ok il (tP T) q).2 ≤ nI (aP ok il (tP T) q) := nI_le hge (by omega)
            exact ⟨fun _ => ⟨fun _ => hKb (s.1, nI (aS ok il (tP T) q).2) (by rw [e]; exact ⟨hs.1, rfl⟩), fun h => absurd n h⟩, fun h => absurd n h⟩
        have ha' : a = nI (aW ok il (tP T) q) := ha
        rw [ha', pk_sub hle.1]
        refine ⟨fun h => J _ ?_ _ _ _ ih, fun h => J _ ?_ _ _ _ ih⟩
        · have := (nI_leI (by omega) (by omega)).mp h
          unfold aP
          by_cases hc : aW ok il (tP T) q < ct ok (tP T) - aW ok il (tP T) q
          · rw [if_pos hc]
          · rw [if_neg hc]; congr 1; omega
        · have : ¬ aW ok il (tP T) q < ct ok (tP T) - aW ok il (tP T) q := fun hc => h (nI_le (Nat.le_of_lt hc) (by omega))
          unfold aP
          rw [if_neg this]
      · have hlt7 : k < 7 := by omega
        have hbs : bs ok (tP T) < 2 ^ 31 := Nat.lt_of_lt_of_le (bs_lt ok (tP T)) (Nat.pow_le_pow_right (by decide) (by omega))
        have hz : a + (0 : Int32) = a := by rw [ha]; exact nI_add _ 0
        rw [wL_X8_ask_33, hM.1.2.1, nI_1 k, hz]
        refine ⟨fun h => absurd h (nI_ge hk (by omega)), fun _ => m_has hbs (by omega) ?_⟩
        rw [bs_bit, decide_eq_true hk, Bool.true_and]
        cases hok' : ok k with
        | false => exact ⟨fun _ => ih2 a (by rw [ha, ct, hok']; rfl), fun h => absurd rfl h⟩
        | true =>
          refine ⟨fun h => absurd h (by decide), fun _ => m_madeIll hT hM.2.2.1 hc h34 hlog hlt7 (m_has (Nat.lt_trans (hmN k hlt7) (by decide)) (by omega) ?_)⟩
          rw [hb]
          cases hil' : il k q with
          | false => exact ⟨fun _ => ih2 a (by rw [ha, ct, hok', hil']; rfl), fun h => absurd rfl h⟩
          | true => exact ⟨fun h => absurd h (by decide), fun _ => ih2 _ (by rw [ha, ct, hok', hil', nI_1]; rfl)⟩
end P15
