/-! ===== who is made ill ===== -/
def la (N : Nat → Int32) (i : Nat) : Nat := (N (35 + i)).toNatClampNeg / 10
def lb (N : Nat → Int32) (i : Nat) : Nat := (N (35 + i)).toNatClampNeg % 10
/-- those who are made ill by p, behind i entries of the log -/
def mN (N : Nat → Int32) (p : Nat) : Nat → Nat
  | 0 => 2 ^ p
  | i + 1 => if mN N p i &&& (2 ^ la N i ||| 2 ^ lb N i) = 0 then mN N p i else mN N p i ||| (2 ^ la N i ||| 2 ^ lb N i)
theorem two_lt {a : Nat} (h : a < 7) : 2 ^ a < 128 := Nat.lt_of_lt_of_le (Nat.pow_lt_pow_right (by decide) h) (by decide)
theorem log_val {T : kT} {N : Nat → Int32} (hT : LW T) {c : Nat} (h : ∀ i, i < c → ∃ p q, p < q ∧ q < tP T ∧ N (35 + i) = nI (10 * p + q)) {i : Nat} (hi : i < c) : N (35 + i) = nI (10 * la N i + lb N i) ∧ la N i < lb N i ∧ lb N i < tP T := by
  obtain ⟨p, q, h1, h2, h3⟩ := h i hi
  have h7 := hT.2.1
  have e : (N (35 + i)).toNatClampNeg = 10 * p + q := by rw [h3, cl_nI (by omega)]
  have ea : la N i = p := by unfold la; rw [e]; omega
  have eb : lb N i = q := by unfold lb; rw [e]; omega
  rw [ea, eb]
  exact ⟨h3, h1, h2⟩
theorem mN_lt {T : kT} {N : Nat → Int32} (hT : LW T) {c : Nat} (h : ∀ i, i < c → ∃ p q, p < q ∧ q < tP T ∧ N (35 + i) = nI (10 * p + q)) {p : Nat} (hp : p < 7) : ∀ i, i ≤ c → mN N p i < 128
  | 0, _ => two_lt hp
  | i + 1, hi => by
    have ih := mN_lt hT h hp i (by omega)
    obtain ⟨-, h1, h2⟩ := log_val hT h (show i < c by omega)
    have h7 := hT.2.1
    rw [mN]
    split
    · exact ih
    · exact Nat.or_lt_two_pow (n := 7) ih (Nat.or_lt_two_pow (n := 7) (two_lt (by omega)) (two_lt (by omega)))
theorem mask_eq {a b : Nat} (ha : a < 7) (hb : b < 7) : ((1 : Int32) <<< ((nI (10 * a + b) / 10) &&& 31)) ||| ((1 : Int32) <<< ((nI (10 * a + b) - nI (10 * a + b) / 10 * 10) &&& 31)) = nI (2 ^ a ||| 2 ^ b) := by
  rw [show (10 : Int32) = nI 10 from rfl, pk_rem (by omega) (by omega) (by omega), pk_div (by omega) (by omega) (by omega), show (10 * a + b) / 10 = a by omega, show (10 * a + b) % 10 = b by omega, one_shl (by omega), one_shl (by omega), fa_or]
theorem and0 {m n : Nat} (hm : m < 128) : nI m &&& nI n = 0 ↔ m &&& n = 0 := by
  rw [fa_and, show (0 : Int32) = nI 0 from rfl, nI_eq (Nat.lt_of_le_of_lt Nat.and_le_left (by omega)) (by omega)]
section P3
variable {M : kg_M} {L S : Nat} {T : kT} {N : Nat → Int32} {K : Int32 → kg_M → Prop}
theorem c_madeIllBy {p c : Nat} (hT : LW T) (hS : RS M 3 N) (hc : c ≤ 20) (h34 : N 34 = nI c) (hlog : ∀ i, i < c → ∃ p q, p < q ∧ q < tP T ∧ N (35 + i) = nI (10 * p + q)) (hp : p < 7) (hK : K (nI (mN N p c)) M) : wp_X5_madeIllBy (nI p) M K := by
  have h7 := hT.2.1
  have e5 : M 3 5 = nI c := hS.2.2.2.2.2.1.trans h34
  unfold wp_X5_madeIllBy
  rw [one_shl (by omega)]
  refine ⟨_, for_loop (fun f s i => wL_X5_madeIllBy_6 _ K f s i M) (fun k s => s = nI (mN N p k)) c _ rfl (fun f s h => ?_) (fun f k s hk h ih => ?_)⟩
  · rw [wL_X5_madeIllBy_6, e5, h]
    exact ⟨fun _ => hK, fun h => absurd (nI_le (Nat.le_refl _) (by omega)) h⟩
  · obtain ⟨e1, h1, h2⟩ := log_val hT hlog hk
    have hm := mN_lt hT hlog hp k (by omega)
    rw [wL_X5_madeIllBy_6, e5, cl_nI (by omega), hS.2.2.2.2.2.2.2.2 k c hc h34 hk, e1, mask_eq (by omega) (by omega), nI_1, h, and0 hm]
    refine ⟨fun h => absurd h (nI_ge hk (by omega)), fun _ => ⟨in_nI (by omega) (by decide), in_nI (by omega) (by decide), fun h3 => ih _ ?_, fun h3 => ih _ ?_⟩⟩
    · rw [mN, if_pos h3]
    · rw [mN, if_neg h3, fa_or]
theorem m_madeIll {p c : Nat} (hT : LW T) (hN : RN M N) (hc : c ≤ 20) (h34 : N 34 = nI c) (hlog : ∀ i, i < c → ∃ p q, p < q ∧ q < tP T ∧ N (35 + i) = nI (10 * p + q)) (hp : p < 7) (hK : K (nI (mN N p c)) M) : wp_X8_madeIll (nI p) M K := by
  have h7 := hT.2.1
  have e5 : M 120 (34 : Int32).toNatClampNeg = nI c := by rw [lit_cl 34 (by decide)]; exact (hN 34 (by decide)).trans h34
  have i34 : vp_in (34 : Int32) 55 := lit_in 34 55 (by decide) (by decide)
  unfold wp_X8_madeIll
  rw [one_shl (by omega)]
  refine ⟨_, for_loop (fun f s i => wL_X8_madeIll_6 _ K f s i M) (fun k s => s = nI (mN N p k)) c _ rfl (fun f s h => ?_) (fun f k s hk h ih => ?_)⟩
  · rw [wL_X8_madeIll_6, e5, h]
    exact ⟨i34, fun _ => hK, fun h => absurd (nI_le (Nat.le_refl _) (by omega)) h⟩
  · obtain ⟨e1, h1, h2⟩ := log_val hT hlog hk
    have hm := mN_lt hT hlog hp k (by omega)
    have i35 : vp_in ((35 : Int32) + nI k) 55 := in_add (a := 35) (by omega) (by decide)
    rw [wL_X8_madeIll_6, e5, show (35 : Int32) = nI 35 from rfl, cl_add (by omega), hN (35 + k) (by omega), e1, mask_eq (by omega) (by omega), nI_1, h, and0 hm, or0]
    refine ⟨i34, fun h => absurd h (nI_ge hk (by omega)), fun _ => ⟨i35, i35, fun h3 => ih _ ?_, fun h3 => ih _ ?_⟩⟩
    · rw [mN, if_pos h3]
    · rw [mN, if_neg h3, fa_or]
theorem p_first {σ : kS} (hC : CI M L S σ) : Pair L S M σ (wp_X7_first L) wp_X8_first := by
  obtain ⟨T, N, ⟨U, pu⟩, ⟨im, is, kp⟩, sv, fl, ⟨tn, tx⟩, ⟨kn, kw, ki⟩, ⟨bn, bo, bi⟩⟩ := σ
  obtain ⟨⟨hT, hRC⟩, ⟨hSW, hRS⟩, hCU, hCM, hsv, hfl, hCX, hCN, hCB, hLS⟩ := id hC
  have h7 := hT.2.1
  obtain ⟨c, hc, h34, hlog⟩ := id hSW.2.2.2.2.2.2.2
  refine ⟨nI (bs (fun p => nI (mN N p c) == nI (bs (cd N) 7)) (tP T)), (T, N, (U, pu), (im, is, kp), sv, fl, (tn, tx), (kn, kw, ki), (bn, bo, bi)), ⟨_, set_loop (fun f a i => wL_X7_first_4 L _ _ f a i M) (fun p => nI (mN N p c) == nI (bs (cd N) 7)) (tP T) (by omega) (fun f => ?_) (fun f k a hk ht hf => ?_)⟩, fun M1 hM => ?_⟩
  · rw [wL_X7_first_4, hRC.2.1]
    exact ⟨fun _ => CK_s hC rfl, fun h => absurd (nI_le (Nat.le_refl _) (by omega)) h⟩
  · rw [wL_X7_first_4, hRC.2.1, nI_1]
    refine ⟨fun h => absurd h (nI_ge hk (by omega)), fun _ => c_madeIllBy hT hRS hc h34 hlog (by omega) ?_⟩
    rw [hRS.2.2.2.2.1]
    exact ⟨fun h => hf (by simpa using h), fun h => ht (by simpa using h)⟩
  · unfold wp_X8_first
    refine m_allWith (a := 14) (N := N) (by decide) hM.1 hT hM.2.2.1 ?_
    have e : nI (bs (fun p => N (14 + p) == 1) (tP T)) = nI (bs (cd N) 7) := by
      rw [bs_cut (n := tP T) (k := 7) h7 (fun p h1 h2 => by unfold cd; rw [hSW.2.2.2.2.2.1 p h1 h2]; rfl)]; rfl
    rw [e]
    refine ⟨_, set_loop (fun f a i => wL_X8_first_11 _ _ f (nI (bs (cd N) 7)) a i M1) (fun p => nI (mN N p c) == nI (bs (cd N) 7)) (tP T) (by omega) (fun f => ?_) (fun f k a hk ht hf => ?_)⟩
    · rw [wL_X8_first_11, hM.1.2.1]
      exact ⟨fun _ => MK_s hM rfl, fun h => absurd (nI_le (Nat.le_refl _) (by omega)) h⟩
    · rw [wL_X8_first_11, hM.1.2.1, nI_1, or0]
      exact ⟨fun h => absurd h (nI_ge hk (by omega)), fun _ => m_madeIll hT hM.2.2.1 hc h34 hlog (by omega) ⟨fun h => hf (by simpa using h), fun h => ht (by simpa using h)⟩⟩
/-! ===== may be ===== -/
/-- by p those are made ill who are known to be, and none who is known not to be -/
def okP (N : Nat → Int32) (c kn : Nat) (kw : Nat → Nat) (ki : Nat → Bool) (p : Nat) : Bool := decide (∀ k, k < kn → (mN N p c).testBit (kw k) = ki k)
theorem allows_iff {m kn : Nat} {kw : Nat → Nat} {ki : Nat → Bool} (hm : m < 128) (hkw : ∀ k, k < kn → kw k < 7) : (nI m &&& nI (bs (knS kn kw ki true) 7) = nI (bs (knS kn kw ki true) 7) ∧ nI m &&& nI (bs (knS kn kw ki false) 7) = 0) ↔ ∀ k, k < kn → m.testBit (kw k) = ki k := by
  have em : nI m = nI (bs (fun p => m.testBit p) 7) := by rw [bs_of m 7 hm]
  rw [em, bs_and, bs_and, show (0 : Int32) = nI (bs (fun _ => false) 7) from by rw [bs_zero]; rfl, bs_nIeq (by decide), bs_nIeq (by decide)]
  constructor
  · intro ⟨h1, h2⟩ k hk
    cases hb : ki k with
    | true =>
      have h3 := h1 (kw k) (hkw k hk)
      have h4 : knS kn kw ki true (kw k) = true := decide_eq_true ⟨k, hk, rfl, hb⟩
      rw [h4] at h3
      simpa using h3
    | false =>
      have h3 := h2 (kw k) (hkw k hk)
      have h4 : knS kn kw ki false (kw k) = true := decide_eq_true ⟨k, hk, rfl, hb⟩
      rw [h4] at h3
      simpa using h3
  · intro h
    refine ⟨fun p hp => ?_, fun p hp => ?_⟩
    · cases hb : knS kn kw ki true p with
      | false => simp
      | true =>
        obtain ⟨k, hk, e, hi⟩ := of_decide_eq_true hb
        have h3 := h k hk
        rw [e, hi] at h3
        simp [h3]
    · cases hb : knS kn kw ki false p with
      | false => simp
      | true =>
        obtain ⟨k, hk, e, hi⟩ := of_decide_eq_true hb
        have h3 := h k hk
        rw [e, hi] at h3
        simp [h3]
theorem c_mayBe {c kn : Nat} {kw : Nat → Nat} {ki : Nat → Bool} (hL : RC M L T) (hT : LW T) (hS : RS M 3 N) (hc : c ≤ 20) (h34 : N 34 = nI c) (hlog : ∀ i, i < c → ∃ p q, p < q ∧ q < tP T ∧ N (35 + i) = nI (10 * p + q)) (hN : CN M T kn kw ki) (hK : K (nI (bs (okP N c kn kw ki) (tP T))) M) : wp_X7_mayBe L M K := by
  have h7 := hT.2.1
  refine ⟨_, set_loop (fun f a i => wL_X7_mayBe_4 L _ K f a i M) (okP N c kn kw ki) (tP T) (by omega) (fun f => ?_) (fun f k a hk ht hf => ?_)⟩
  · rw [wL_X7_mayBe_4, hL.2.1]
    exact ⟨fun _ => hK, fun h => absurd (nI_le (Nat.le_refl _) (by omega)) h⟩
  · rw [wL_X7_mayBe_4, hL.2.1, nI_1]
    refine ⟨fun h => absurd h (nI_ge hk (by omega)), fun _ => c_madeIllBy hT hS hc h34 hlog (by omega) ?_⟩
    have hm := mN_lt hT hlog (show k < 7 by omega) c (Nat.le_refl _)
    have hi := allows_iff (kn := kn) (kw := kw) (ki := ki) hm (fun j hj => by have := hN.2.1 j hj; omega)
    unfold wp_X2_allows
    rw [hN.2.2.2.1, hN.2.2.2.2]
    have hno : ¬ (∀ j, j < kn → (mN N k c).testBit (kw j) = ki j) → okP N c kn kw ki k = false := fun h => decide_eq_false h
    refine ⟨fun h => ⟨fun _ => hf (hno fun e => h (hi.mpr e).1), fun h0 => absurd rfl h0⟩, fun h => ⟨fun h2 => ⟨fun _ => hf (hno fun e => h2 (hi.mpr e).2), fun h0 => absurd rfl h0⟩, fun h2 => ⟨fun h0 => absurd h0 (by decide), fun _ => ht (decide_eq_true (hi.mp ⟨h, h2⟩))⟩⟩⟩
theorem m_has {s p : Nat} (hs : s < 2 ^ 31) (hp : p < 31) (hK : K (if s.testBit p then 1 else 0) M) : wp_X8_has (nI s) (nI p) M K := by
  unfold wp_X8_has
  rw [nI_bit hs hp]
  cases hb : s.testBit p
  · rw [hb] at hK
    exact ⟨fun _ => hK, fun h => absurd h (by decide)⟩
  · rw [hb] at hK
    exact ⟨fun h => absurd rfl h, fun _ => hK⟩
theorem m_couldBe {c kn : Nat} {kw : Nat → Nat} {ki : Nat → Bool} (hR : RT M T) (hT : LW T) (hN : RN M N) (hc : c ≤ 20) (h34 : N 34 = nI c) (hlog : ∀ i, i < c → ∃ p q, p < q ∧ q < tP T ∧ N (35 + i) = nI (10 * p + q)) (h6 : kn ≤ 6) (hkw : ∀ k, k < kn → kw k < tP T) (hK2 : MN M kn kw ki) (hK : K (nI (bs (okP N c kn kw ki) (tP T))) M) : wp_X8_couldBe M K := by
  have h7 := hT.2.1
  refine ⟨_, set_loop (fun f a i => wL_X8_couldBe_4 _ K f a i M) (okP N c kn kw ki) (tP T) (by omega) (fun f => ?_) (fun f k a hk ht hf => ?_)⟩
  · rw [wL_X8_couldBe_4, hR.2.1]
    exact ⟨fun _ => hK, fun h => absurd (nI_le (Nat.le_refl _) (by omega)) h⟩
  · rw [wL_X8_couldBe_4, hR.2.1]
    refine ⟨fun h => absurd h (nI_ge hk (by omega)), fun _ => ⟨_, for_loop (fun f2 (s : Int32) i => wL_X8_couldBe_17 _ K f2 a (nI k) s i M) (fun j s => s = if (∀ x, x < j → (mN N k c).testBit (kw x) = ki x) then 1 else 0) kn 1 (by simp) (fun f2 s h => ?_) (fun f2 j s hj h ih => ?_)⟩⟩
    · rw [wL_X8_couldBe_17, hK2.1, nI_1, or0]
      refine ⟨fun _ => ⟨fun h0 => hf ?_, fun h0 => ht ?_⟩, fun h => absurd (nI_le (Nat.le_refl _) (by omega)) h⟩
      · refine decide_eq_false (fun e => ?_)
        rw [h, if_pos e] at h0
        exact absurd h0 (by decide)
      · by_cases e : ∀ x, x < kn → (mN N k c).testBit (kw x) = ki x
        · exact decide_eq_true e
        · rw [h, if_neg e] at h0
          exact absurd rfl h0
    · have hm := mN_lt hT hlog (show k < 7 by omega) c (Nat.le_refl _)
      have hw := hkw j hj
      obtain ⟨g1, g2⟩ := hK2.2 j hj
      rw [wL_X8_couldBe_17, hK2.1, nI_1 j]
      refine ⟨fun h => absurd h (nI_ge hj (by omega)), fun _ => ⟨fun h0 => ih _ ?_, fun h0 => ?_⟩⟩
      · have hn : ¬ ∀ x, x < j + 1 → (mN N k c).testBit (kw x) = ki x := fun e => by
          rw [h, if_pos (fun x hx => e x (by omega))] at h0
          exact absurd h0 (by decide)
        rw [if_neg hn]
      · have hy : ∀ x, x < j → (mN N k c).testBit (kw x) = ki x := by
          by_cases e : ∀ x, x < j → (mN N k c).testBit (kw x) = ki x
          · exact e
          · rw [h, if_neg e] at h0
            exact absurd rfl h0
        refine m_madeIll hT hN hc h34 hlog (by omega) ⟨in_nI (by omega) (by decide), ?_⟩
        rw [cl_nI (by omega), g1]
        refine m_has (by omega) (by omega) ⟨in_nI (by omega) (by decide), fun e => ih _ ?_, fun e => ih _ ?_⟩
        · rw [g2] at e
          have hn : ¬ (mN N k c).testBit (kw j) = ki j := fun e2 => e (by rw [e2])
          rw [if_neg (fun e3 => hn (e3 j (by omega)))]
        · rw [g2] at e
          have hn : (mN N k c).testBit (kw j) = ki j := by
            cases h1 : (mN N k c).testBit (kw j) <;> cases h2 : ki j <;> first | rfl | (rw [h1, h2] at e; exact absurd e (by decide))
          rw [if_pos]
          intro x hx
          rcases Nat.lt_or_ge x j with q | q
          · exact hy x q
          · rw [show x = j by omega]; exact hn
theorem p_mayBe {σ : kS} (hC : CI M L S σ) : Pair L S M σ (wp_X7_mayBe L) wp_X8_mayBe := by
  obtain ⟨T, N, ⟨U, pu⟩, ⟨im, is, kp⟩, sv, fl, ⟨tn, tx⟩, ⟨kn, kw, ki⟩, ⟨bn, bo, bi⟩⟩ := σ
  obtain ⟨⟨hT, hRC⟩, ⟨hSW, hRS⟩, hCU, hCM, hsv, hfl, hCX, hCN, hCB, hLS⟩ := id hC
  obtain ⟨c, hc, h34, hlog⟩ := id hSW.2.2.2.2.2.2.2
  exact ⟨_, (T, N, (U, pu), (im, is, kp), sv, fl, (tn, tx), (kn, kw, ki), (bn, bo, bi)), c_mayBe hRC hT hRS hc h34 hlog hCN (CK_s hC rfl), fun M1 hM => m_couldBe hM.1 hT hM.2.2.1 hc h34 hlog hCN.1 hCN.2.1 hM.2.2.2.2.2.2.2.2.1 (MK_s hM rfl)⟩
end P3
