/-! ===== loops ===== -/
theorem for_loop {σ : Type} (F : Nat → σ → Int32 → Prop) (I : Nat → σ → Prop) (n : Nat) (s0 : σ) (h0 : I 0 s0) (done : ∀ f s, I n s → F (f + 1) s (nI n)) (step : ∀ f k s, k < n → I k s → (∀ s', I (k + 1) s' → F f s' (nI (k + 1))) → F (f + 1) s (nI k)) : F (n + 1) s0 0 := by
  have H : ∀ j k s, k + j = n → I k s → F (j + 1) s (nI k) := by
    intro j
    induction j with
    | zero => intro k s hk hi; rw [Nat.add_zero] at hk; subst hk; exact done 0 s hi
    | succ j ih => intro k s hk hi; exact step (j + 1) k s (by omega) hi (fun s' hi' => ih (k + 1) s' (by omega) hi')
  exact H n 0 s0 (by omega) h0
theorem set_loop (F : Nat → Int32 → Int32 → Prop) (c : Nat → Bool) (n : Nat) (hn : n ≤ 30) (done : ∀ f, F (f + 1) (nI (bs c n)) (nI n)) (step : ∀ f k a, k < n → (c k = true → F f (a ||| ((1 : Int32) <<< (nI k &&& 31))) (nI (k + 1))) → (c k = false → F f a (nI (k + 1))) → F (f + 1) a (nI k)) : F (n + 1) 0 0 := by
  refine for_loop F (fun k a => a = nI (bs c k)) n 0 rfl (fun f s h => by rw [h]; exact done f) (fun f k s hk h ih => ?_)
  refine step f k s hk (fun hc => ?_) (fun hc => ?_)
  · refine ih _ ?_
    rw [h, bs_or (by omega), bs_t hc]
  · refine ih _ ?_
    rw [h, bs_f hc]
theorem or0 (x : Int32) : x ||| 0 = x := Int32.or_zero
theorem in_add {a b n : Nat} (h : a + b < n) (hn : n < 2 ^ 31) : vp_in (nI a + nI b) n := by rw [nI_add]; exact in_nI h hn
theorem cl_add {a b : Nat} (h : a + b < 2 ^ 31) : (nI a + nI b).toNatClampNeg = a + b := by rw [nI_add]; exact cl_nI h
/-! ===== the class: sets of persons, of gates ===== -/
section CS
variable {M : kg_M} {L : Nat} {T : kT} {N : Nat → Int32} {K : Int32 → kg_M → Prop}
theorem c_waitingAt {g : Int32} (hL : RC M L T) (hT : LW T) (hS : RS M 3 N) (hK : K (nI (bs (fun p => N (7 + p) == g) (tP T))) M) : wp_X5_waitingAt L g M K := by
  have h7 := hT.2.1
  refine ⟨_, set_loop (fun f a i => wL_X5_waitingAt_5 L _ K f g a i M) (fun p => N (7 + p) == g) (tP T) (by omega) (fun f => ?_) (fun f k a hk ht hf => ?_)⟩
  · rw [wL_X5_waitingAt_5, hL.2.1]
    exact ⟨fun _ => hK, fun h => absurd (nI_le (Nat.le_refl _) (by omega)) h⟩
  · rw [wL_X5_waitingAt_5, hL.2.1, cl_nI (by omega), hS.2.2.2.2.2.2.1 k (by omega), nI_1]
    refine ⟨fun h => absurd h (nI_ge hk (by omega)), fun _ => ⟨in_nI (by omega) (by omega), fun h => hf (by simpa using h), fun h => ht (by simpa using h)⟩⟩
theorem c_waiting (hL : RC M L T) (hT : LW T) (hS : RS M 3 N) (hK : K (nI (bs (fun p => !(N (7 + p) == -1)) (tP T))) M) : wp_X5_waiting L M K := by
  have h7 := hT.2.1
  refine ⟨_, set_loop (fun f a i => wL_X5_waiting_4 L _ K f a i M) (fun p => !(N (7 + p) == -1)) (tP T) (by omega) (fun f => ?_) (fun f k a hk ht hf => ?_)⟩
  · rw [wL_X5_waiting_4, hL.2.1]
    exact ⟨fun _ => hK, fun h => absurd (nI_le (Nat.le_refl _) (by omega)) h⟩
  · rw [wL_X5_waiting_4, hL.2.1, cl_nI (by omega), hS.2.2.2.2.2.2.1 k (by omega), nI_1]
    refine ⟨fun h => absurd h (nI_ge hk (by omega)), fun _ => ⟨in_nI (by omega) (by omega), fun h => hf (by simpa using h), fun h => ht (by simpa using h)⟩⟩
/-- a gate is rusted, by its flag -/
theorem rust_iff (hT : LW T) (hW : SW T N) {g : Nat} (hg : g < tG T) : (nI (tB T g) ≤ N (21 + g)) ↔ N (26 + g) = 1 := by
  obtain ⟨u, h1, h2, h3⟩ := hW.2.2.2.2.2.2.1 g hg
  have hb := (hT.2.2.1 g hg).2
  rw [h2, h3, nI_leI (by omega) (by omega)]
  by_cases h : tB T g ≤ u
  · simp [h]
  · simp [h]
theorem rust_01 (hW : SW T N) {g : Nat} (hg : g < tG T) : N (26 + g) = 0 ∨ N (26 + g) = 1 := by
  obtain ⟨u, h1, h2, h3⟩ := hW.2.2.2.2.2.2.1 g hg
  rw [h3]
  split
  · exact Or.inr rfl
  · exact Or.inl rfl
theorem c_isRusted {g : Nat} (hL : RC M L T) (hT : LW T) (hS : RS M 3 N) (hW : SW T N) (hg : g < tG T) (hK : K (N (26 + g)) M) : wp_X5_isRusted L (nI g) M K := by
  have h5 := hT.1
  unfold wp_X5_isRusted
  rw [cl_nI (by omega), hS.2.2.2.2.2.2.2.1 g (by omega), hL.2.2.1 g hg]
  have hr := rust_iff hT hW hg
  refine ⟨in_nI (by omega) (by omega), in_nI (by omega) (by omega), fun h => ?_, fun h => ?_⟩
  · have h1 : ¬ N (26 + g) = 1 := fun e => (fa_of_lt h).2.1 (hr.mpr e)
    rw [(rust_01 hW hg).resolve_right h1] at hK
    exact hK
  · rw [hr.mp (fa_of_nlt h)] at hK
    exact hK
theorem c_rusted (hL : RC M L T) (hT : LW T) (hS : RS M 3 N) (hW : SW T N) (hK : K (nI (bs (fun g => N (26 + g) == 1) (tG T))) M) : wp_X5_rusted L M K := by
  have h5 := hT.1
  refine ⟨_, set_loop (fun f a i => wL_X5_rusted_4 L _ K f a i M) (fun g => N (26 + g) == 1) (tG T) (by omega) (fun f => ?_) (fun f k a hk ht hf => ?_)⟩
  · rw [wL_X5_rusted_4, hL.1]
    exact ⟨fun _ => hK, fun h => absurd (nI_le (Nat.le_refl _) (by omega)) h⟩
  · rw [wL_X5_rusted_4, hL.1, nI_1]
    refine ⟨fun h => absurd h (nI_ge hk (by omega)), fun _ => c_isRusted hL hT hS hW hk ⟨fun h => hf ?_, fun h => ht ?_⟩⟩
    · rw [h]; rfl
    · rw [(rust_01 hW hk).resolve_left h]; rfl
end CS
theorem bc_val : ∀ s : Fin 128, ((((((((((nI s.val) - ((((nI s.val).toUInt32 >>> ((1 : Int32).toUInt32 &&& Int32.toUInt32 31)).toInt32) &&& (1431655765 : Int32))) &&& (858993459 : Int32)) + (((((nI s.val) - ((((nI s.val).toUInt32 >>> ((1 : Int32).toUInt32 &&& Int32.toUInt32 31)).toInt32) &&& (1431655765 : Int32))).toUInt32 >>> ((2 : Int32).toUInt32 &&& Int32.toUInt32 31)).toInt32) &&& (858993459 : Int32))) + ((((((nI s.val) - ((((nI s.val).toUInt32 >>> ((1 : Int32).toUInt32 &&& Int32.toUInt32 31)).toInt32) &&& (1431655765 : Int32))) &&& (858993459 : Int32)) + (((((nI s.val) - ((((nI s.val).toUInt32 >>> ((1 : Int32).toUInt32 &&& Int32.toUInt32 31)).toInt32) &&& (1431655765 : Int32))).toUInt32 >>> ((2 : Int32).toUInt32 &&& Int32.toUInt32 31)).toInt32) &&& (858993459 : Int32))).toUInt32 >>> ((4 : Int32).toUInt32 &&& Int32.toUInt32 31)).toInt32)) &&& (252645135 : Int32)) + ((((((((nI s.val) - ((((nI s.val).toUInt32 >>> ((1 : Int32).toUInt32 &&& Int32.toUInt32 31)).toInt32) &&& (1431655765 : Int32))) &&& (858993459 : Int32)) + (((((nI s.val) - ((((nI s.val).toUInt32 >>> ((1 : Int32).toUInt32 &&& Int32.toUInt32 31)).toInt32) &&& (1431655765 : Int32))).toUInt32 >>> ((2 : Int32).toUInt32 &&& Int32.toUInt32 31)).toInt32) &&& (858993459 : Int32))) + ((((((nI s.val) - ((((nI s.val).toUInt32 >>> ((1 : Int32).toUInt32 &&& Int32.toUInt32 31)).toInt32) &&& (1431655765 : Int32))) &&& (858993459 : Int32)) + (((((nI s.val) - ((((nI s.val).toUInt32 >>> ((1 : Int32).toUInt32 &&& Int32.toUInt32 31)).toInt32) &&& (1431655765 : Int32))).toUInt32 >>> ((2 : Int32).toUInt32 &&& Int32.toUInt32 31)).toInt32) &&& (858993459 : Int32))).toUInt32 >>> ((4 : Int32).toUInt32 &&& Int32.toUInt32 31)).toInt32)) &&& (252645135 : Int32)).toUInt32 >>> ((8 : Int32).toUInt32 &&& Int32.toUInt32 31)).toInt32)) + (((((((((nI s.val) - ((((nI s.val).toUInt32 >>> ((1 : Int32).toUInt32 &&& Int32.toUInt32 31)).toInt32) &&& (1431655765 : Int32))) &&& (858993459 : Int32)) + (((((nI s.val) - ((((nI s.val).toUInt32 >>> ((1 : Int32).toUInt32 &&& Int32.toUInt32 31)).toInt32) &&& (1431655765 : Int32))).toUInt32 >>> ((2 : Int32).toUInt32 &&& Int32.toUInt32 31)).toInt32) &&& (858993459 : Int32))) + ((((((nI s.val) - ((((nI s.val).toUInt32 >>> ((1 : Int32).toUInt32 &&& Int32.toUInt32 31)).toInt32) &&& (1431655765 : Int32))) &&& (858993459 : Int32)) + (((((nI s.val) - ((((nI s.val).toUInt32 >>> ((1 : Int32).toUInt32 &&& Int32.toUInt32 31)).toInt32) &&& (1431655765 : Int32))).toUInt32 >>> ((2 : Int32).toUInt32 &&& Int32.toUInt32 31)).toInt32) &&& (858993459 : Int32))).toUInt32 >>> ((4 : Int32).toUInt32 &&& Int32.toUInt32 31)).toInt32)) &&& (252645135 : Int32)) + ((((((((nI s.val) - ((((nI s.val).toUInt32 >>> ((1 : Int32).toUInt32 &&& Int32.toUInt32 31)).toInt32) &&& (1431655765 : Int32))) &&& (858993459 : Int32)) + (((((nI s.val) - ((((nI s.val).toUInt32 >>> ((1 : Int32).toUInt32 &&& Int32.toUInt32 31)).toInt32) &&& (1431655765 : Int32))).toUInt32 >>> ((2 : Int32).toUInt32 &&& Int32.toUInt32 31)).toInt32) &&& (858993459 : Int32))) + ((((((nI s.val) - ((((nI s.val).toUInt32 >>> ((1 : Int32).toUInt32 &&& Int32.toUInt32 31)).toInt32) &&& (1431655765 : Int32))) &&& (858993459 : Int32)) + (((((nI s.val) - ((((nI s.val).toUInt32 >>> ((1 : Int32).toUInt32 &&& Int32.toUInt32 31)).toInt32) &&& (1431655765 : Int32))).toUInt32 >>> ((2 : Int32).toUInt32 &&& Int32.toUInt32 31)).toInt32) &&& (858993459 : Int32))).toUInt32 >>> ((4 : Int32).toUInt32 &&& Int32.toUInt32 31)).toInt32)) &&& (252645135 : Int32)).toUInt32 >>> ((8 : Int32).toUInt32 &&& Int32.toUInt32 31)).toInt32)).toUInt32 >>> ((16 : Int32).toUInt32 &&& Int32.toUInt32 31)).toInt32)) &&& (63 : Int32)) : Int32) = nI (ct (fun p => s.val.testBit p) 7) := by decide +kernel
theorem j_bitCount {s : Nat} {M : kg_M} {K : Int32 → kg_M → Prop} (hs : s < 128) (hK : K (nI (ct (fun p => s.testBit p) 7)) M) : wp_J6_bitCount_0f7a4 (nI s) M K := by
  unfold wp_J6_bitCount_0f7a4
  rw [bc_val ⟨s, hs⟩]
  exact hK
theorem j_bits {c : Nat → Bool} {M : kg_M} {K : Int32 → kg_M → Prop} {k : Nat} (hk : k ≤ 7) (hK : K (nI (ct c k)) M) : wp_J6_bitCount_0f7a4 (nI (bs c k)) M K := by
  have h := bs_lt c k
  refine j_bitCount (Nat.lt_of_lt_of_le h (Nat.pow_le_pow_right (by decide) hk)) ?_
  have e : ct (fun p => (bs c k).testBit p) 7 = ct c k := by
    rw [ct_cut (n := k) hk (fun p h1 h2 => by rw [bs_bit]; simp [Nat.not_lt.mpr h1])]
    exact ct_cong (fun p hp => by rw [bs_bit]; simp [hp])
  rw [e]
  exact hK
/-! ===== the reference: sets of persons, of gates ===== -/
section MS
variable {M : kg_M} {T : kT} {N : Nat → Int32} {K : Int32 → kg_M → Prop}
theorem lg_lt0 (x y : Int64) : lg_cmp x y < 0 ↔ x < y := by
  have h := lg_cmp_ge x y
  constructor
  · intro h1
    have h2 : ¬ y ≤ x := fun e => (fa_of_lt h1).2.1 (h.mpr e)
    exact (Int64.not_le).mp h2
  · intro h1
    have h2 : ¬ 0 ≤ lg_cmp x y := fun e => (Int64.not_le.mpr h1) (h.mp e)
    exact fa_of_nle h2
theorem lg_0lt (x y : Int64) : 0 < lg_cmp x y ↔ y < x := by
  unfold lg_cmp
  by_cases h : x > y
  · simp [h]
  · rw [if_neg h]
    constructor
    · intro h1
      split at h1 <;> exact absurd h1 (by decide)
    · intro h1; exact absurd h1 h
theorem m_in_t {a b c : Int64} (h1 : b ≤ a) (h2 : a ≤ c) (hK : K 1 M) : wp_X8_in a b c M K := by
  unfold wp_X8_in
  rw [lg_lt0, lg_0lt]
  exact ⟨fun h => absurd h1 (Int64.not_le.mpr h), fun _ => ⟨fun h => absurd h2 (Int64.not_le.mpr h), fun _ => hK⟩⟩
theorem m_in_f {a b c : Int64} (h : a < b ∨ c < a) (hK : K 0 M) : wp_X8_in a b c M K := by
  unfold wp_X8_in
  rw [lg_lt0, lg_0lt]
  exact ⟨fun _ => hK, fun h1 => ⟨fun _ => hK, fun h2 => absurd (h.resolve_left h1) h2⟩⟩
/-- an int between bounds -/
theorem m_inI {x lo hi : Int32} (ht : lo ≤ x → x ≤ hi → K 1 M) (hf : (x < lo ∨ hi < x) → K 0 M) : wp_X8_in x.toInt64 lo.toInt64 hi.toInt64 M K := by
  by_cases h1 : lo ≤ x
  · by_cases h2 : x ≤ hi
    · exact m_in_t ((fa_wide_le lo x).mpr h1) ((fa_wide_le x hi).mpr h2) (ht h1 h2)
    · exact m_in_f (Or.inr ((fa_wide_lt hi x).mpr (fa_of_nle h2))) (hf (Or.inr (fa_of_nle h2)))
  · exact m_in_f (Or.inl ((fa_wide_lt x lo).mpr (fa_of_nle h1))) (hf (Or.inl (fa_of_nle h1)))
theorem b32 {z : Int} (h1 : -2147483648 ≤ z) (h2 : z < 2147483648) : z.bmod (2 ^ 32) = z := by
  rw [Int.bmod_eq_of_le (by omega) (by omega)]
theorem pred_lt {n : Nat} (hn : n < 2 ^ 31) (x : Int32) : ((nI n - 1) < x) ↔ (nI n ≤ x) := by
  have h1 : (nI n - 1).toInt = (n : Int) - 1 := by
    have h2 := nI_toInt hn
    rw [Int32.toInt_sub, h2, show (1 : Int32).toInt = 1 from rfl]
    exact b32 (by omega) (by omega)
  rw [fa_lt, fa_le, h1, nI_toInt hn]
  omega
theorem m_idx {n : Nat} (hn : n < 2 ^ 31) {x : Int32} (ht : ∀ j, j < n → x = nI j → K 1 M) (hf : (x < 0 ∨ nI n ≤ x) → K 0 M) : wp_X8_in x.toInt64 0 ((nI n - 1).toInt64) M K := by
  refine m_inI (lo := 0) (fun h1 h2 => ?_) (fun h => hf ?_)
  · rcases ix_cases x n hn with h | ⟨j, hj, e⟩
    · rcases h with h | h
      · exact absurd h1 (fa_of_lt h).2.1
      · exact absurd h2 (fa_of_lt ((pred_lt hn x).mpr h)).2.1
    · exact ht j hj e
  · rcases h with h | h
    · exact Or.inl h
    · exact Or.inr ((pred_lt hn x).mp h)
theorem m_isPerson_t {p : Nat} (hR : RT M T) (hT : LW T) (hp : p < tP T) (hK : K 1 M) : wp_X8_isPerson (nI p) M K := by
  have h7 := hT.2.1
  unfold wp_X8_isPerson
  rw [hR.2.1]
  exact m_idx (by omega) (fun _ _ _ => ⟨Or.inr rfl, hK⟩) (fun h => by
    rcases h with h | h
    · exact absurd h (nI_pos (by omega))
    · exact absurd h (nI_ge hp (by omega)))
theorem m_isPerson_f {v : Int32} (hR : RT M T) (hT : LW T) (hv : v < 0 ∨ nI (tP T) ≤ v) (hK : K 0 M) : wp_X8_isPerson v M K := by
  have h7 := hT.2.1
  unfold wp_X8_isPerson
  rw [hR.2.1]
  refine m_idx (by omega) (fun j hj e => ?_) (fun _ => ⟨Or.inl rfl, hK⟩)
  subst e
  rcases hv with h | h
  · exact absurd h (nI_pos (by omega))
  · exact absurd h (nI_ge hj (by omega))
theorem m_isGate_t {g : Nat} (hR : RT M T) (hT : LW T) (hg : g < tG T) (hK : K 1 M) : wp_X8_isGate (nI g) M K := by
  have h7 := hT.1
  unfold wp_X8_isGate
  rw [hR.1]
  exact m_idx (by omega) (fun _ _ _ => ⟨Or.inr rfl, hK⟩) (fun h => by
    rcases h with h | h
    · exact absurd h (nI_pos (by omega))
    · exact absurd h (nI_ge hg (by omega)))
theorem m_isGate_f {v : Int32} (hR : RT M T) (hT : LW T) (hv : v < 0 ∨ nI (tG T) ≤ v) (hK : K 0 M) : wp_X8_isGate v M K := by
  have h7 := hT.1
  unfold wp_X8_isGate
  rw [hR.1]
  refine m_idx (by omega) (fun j hj e => ?_) (fun _ => ⟨Or.inl rfl, hK⟩)
  subst e
  rcases hv with h | h
  · exact absurd h (nI_pos (by omega))
  · exact absurd h (nI_ge hj (by omega))
theorem m_like {p q : Nat} (hR : RT M T) (hT : LW T) (hp : p < 7) (hq : q < 7) (ht : fo T p q = true → K 1 M) (hf : fo T p q = false → K 0 M) (hpq : p ≠ q) : wp_X8_like (nI p) (nI q) M K := by
  have h7 := hT.2.1
  unfold wp_X8_like
  rw [hR.2.1, nI_7, nI_7, cl_nI (by omega), cl_nI (by omega), hR.2.2.2 p q hp hq, hR.2.2.2 q p hq hp]
  have h9 := hT.2.2.2.1 p q
  have h9' := hT.2.2.2.1 q p
  refine ⟨fun h => hf ?_, fun h => ⟨fun h2 => hf ?_, fun h2 => ⟨in_nI (by omega) (by omega), fun h3 => hf ?_, fun h3 => ⟨in_nI (by omega) (by omega), fun h4 => hf ?_, fun h4 => ht ?_⟩⟩⟩⟩
  · refine fo_out hT (fun h0 => ?_)
    exact nI_ge h0.1 (by omega) h
  · refine fo_out hT (fun h0 => ?_)
    exact nI_ge h0.2.1 (by omega) h2
  · unfold fo
    have : tL T p q = 0 := by
      rcases Nat.eq_zero_or_pos (tL T p q) with e | e
      · exact e
      · exact absurd h3 (nI_nle e (by omega))
    rw [this]; rfl
  · unfold fo
    have : tL T q p = 0 := by
      rcases Nat.eq_zero_or_pos (tL T q p) with e | e
      · exact e
      · exact absurd h4 (nI_nle e (by omega))
    rw [this]; simp
  · unfold fo
    have e1 : 1 ≤ tL T p q := by
      rcases Nat.eq_zero_or_pos (tL T p q) with e | e
      · rw [e] at h3; exact absurd (by decide) h3
      · exact e
    have e2 : 1 ≤ tL T q p := by
      rcases Nat.eq_zero_or_pos (tL T q p) with e | e
      · rw [e] at h4; exact absurd (by decide) h4
      · exact e
    simp [e1, e2]
theorem sd_ne {N : Nat → Int32} (hW : SW T N) {p q : Nat} (hp : p < 7) (hq : q < 7) : (sd N p != sd N q) = true ↔ ¬ N p = N q := by
  unfold sd
  rcases hW.1 p hp with h1 | h1 <;> rcases hW.1 q hq with h2 | h2 <;> rw [h1, h2] <;> decide
theorem m_would {p q : Nat} (hR : RT M T) (hT : LW T) (hN : RN M N) (hW : SW T N) (hp : p < 7) (hq : q < 7) (hpq : p ≠ q) (ht : wd T N p q = true → K 1 M) (hf : wd T N p q = false → K 0 M) : wp_X8_would (nI p) (nI q) M K := by
  unfold wp_X8_would
  refine m_like hR hT hp hq (fun h => ⟨fun h0 => absurd h0 (by decide), fun _ => ⟨in_nI (by omega) (by omega), in_nI (by omega) (by omega), ?_⟩⟩) (fun h => ⟨fun _ => hf (by unfold wd; rw [h]; rfl), fun h0 => absurd rfl h0⟩) hpq
  rw [cl_nI (by omega), cl_nI (by omega), hN p (by omega), hN q (by omega)]
  have hs := sd_ne hW hp hq
  refine ⟨fun e => hf ?_, fun e => ht ?_⟩
  · unfold wd
    rw [h, Bool.true_and]
    cases hb : (sd N p != sd N q)
    · rfl
    · exact absurd e (hs.mp hb)
  · unfold wd
    rw [h, Bool.true_and]
    exact hs.mpr e
theorem m_both {p q : Nat} (hR : RT M T) (hp : p < 7) (hq : q < 7) (hK : K (nI (tL T p q + tL T q p)) M) : wp_X8_both (nI p) (nI q) M K := by
  unfold wp_X8_both
  rw [nI_7, nI_7, cl_nI (by omega), cl_nI (by omega), hR.2.2.2 p q hp hq, hR.2.2.2 q p hq hp, nI_add]
  exact ⟨in_nI (by omega) (by omega), in_nI (by omega) (by omega), hK⟩
theorem m_allWith {a : Nat} (ha : a ≤ 40) (hR : RT M T) (hT : LW T) (hN : RN M N) (hK : K (nI (bs (fun p => N (a + p) == 1) (tP T))) M) : wp_X8_allWith (nI a) M K := by
  have h7 := hT.2.1
  refine ⟨_, set_loop (fun f s i => wL_X8_allWith_4 _ K f (nI a) s i M) (fun p => N (a + p) == 1) (tP T) (by omega) (fun f => ?_) (fun f k s hk ht hf => ?_)⟩
  · rw [wL_X8_allWith_4, hR.2.1]
    exact ⟨fun _ => hK, fun h => absurd (nI_le (Nat.le_refl _) (by omega)) h⟩
  · rw [wL_X8_allWith_4, hR.2.1, cl_add (by omega), hN (a + k) (by omega), nI_1, or0]
    exact ⟨fun h => absurd h (nI_ge hk (by omega)), fun _ => ⟨in_add (by omega) (by omega), fun h => hf (by simpa using h), fun h => ht (by simpa using h)⟩⟩
theorem m_waitingAt {g : Int32} (hR : RT M T) (hT : LW T) (hN : RN M N) (hK : K (nI (bs (fun p => N (7 + p) == g) (tP T))) M) : wp_X8_waitingAt g M K := by
  have h7 := hT.2.1
  refine ⟨_, set_loop (fun f s i => wL_X8_waitingAt_4 _ K f g s i M) (fun p => N (7 + p) == g) (tP T) (by omega) (fun f => ?_) (fun f k s hk ht hf => ?_)⟩
  · rw [wL_X8_waitingAt_4, hR.2.1]
    exact ⟨fun _ => hK, fun h => absurd (nI_le (Nat.le_refl _) (by omega)) h⟩
  · rw [wL_X8_waitingAt_4, hR.2.1, show (7 : Int32) = nI 7 from rfl, cl_add (by omega), hN (7 + k) (by omega), nI_1, or0]
    exact ⟨fun h => absurd h (nI_ge hk (by omega)), fun _ => ⟨in_add (by omega) (by omega), fun h => hf (by simpa using h), fun h => ht (by simpa using h)⟩⟩
theorem wt_neg {N : Nat → Int32} (hT : LW T) (hW : SW T N) {p : Nat} (hp : p < 7) : N (7 + p) < 0 ↔ N (7 + p) = -1 := by
  have h5 := hT.1
  rcases hW.2.2.1 p hp with h | ⟨g, hg, h⟩
  · rw [h]; decide
  · rw [h]
    exact ⟨fun e => absurd e (nI_pos (by omega)), fun e => absurd e (m1_ne_nI (by omega))⟩
theorem m_waiting (hR : RT M T) (hT : LW T) (hN : RN M N) (hW : SW T N) (hK : K (nI (bs (fun p => !(N (7 + p) == -1)) (tP T))) M) : wp_X8_waiting M K := by
  have h7 := hT.2.1
  refine ⟨_, set_loop (fun f s i => wL_X8_waiting_4 _ K f s i M) (fun p => !(N (7 + p) == -1)) (tP T) (by omega) (fun f => ?_) (fun f k s hk ht hf => ?_)⟩
  · rw [wL_X8_waiting_4, hR.2.1]
    exact ⟨fun _ => hK, fun h => absurd (nI_le (Nat.le_refl _) (by omega)) h⟩
  · rw [wL_X8_waiting_4, hR.2.1, show (7 : Int32) = nI 7 from rfl, cl_add (by omega), hN (7 + k) (by omega), nI_1, or0, wt_neg hT hW (by omega)]
    exact ⟨fun h => absurd h (nI_ge hk (by omega)), fun _ => ⟨in_add (by omega) (by omega), fun h => hf (by simpa using h), fun h => ht (by simpa using h)⟩⟩
theorem m_rusted (hR : RT M T) (hT : LW T) (hN : RN M N) (hK : K (nI (bs (fun g => N (26 + g) == 1) (tG T))) M) : wp_X8_rusted M K := by
  have h7 := hT.1
  refine ⟨_, set_loop (fun f s i => wL_X8_rusted_4 _ K f s i M) (fun g => N (26 + g) == 1) (tG T) (by omega) (fun f => ?_) (fun f k s hk ht hf => ?_)⟩
  · rw [wL_X8_rusted_4, hR.1]
    exact ⟨fun _ => hK, fun h => absurd (nI_le (Nat.le_refl _) (by omega)) h⟩
  · rw [wL_X8_rusted_4, hR.1, show (26 : Int32) = nI 26 from rfl, cl_add (by omega), hN (26 + k) (by omega), nI_1, or0]
    exact ⟨fun h => absurd h (nI_ge hk (by omega)), fun _ => ⟨in_add (by omega) (by omega), fun h => hf (by simpa using h), fun h => ht (by simpa using h)⟩⟩
theorem m_bits {s : Nat} (hs : s < 2 ^ 31) (hK : K (nI (ct (fun p => s.testBit p) 7)) M) : wp_X8_bits (nI s) M K := by
  refine ⟨_, for_loop (fun f a i => wL_X8_bits_4 _ K f (nI s) a i M) (fun k a => a = nI (ct (fun p => s.testBit p) k)) 7 0 rfl (fun f a h => ?_) (fun f k a hk h ih => ?_)⟩
  · rw [wL_X8_bits_4, h]
    exact ⟨fun _ => hK, fun h => absurd (nI_le (a := 7) (b := 7) (Nat.le_refl _) (by decide)) h⟩
  · rw [wL_X8_bits_4, nI_bit hs (by omega), nI_1]
    refine ⟨fun h => absurd h (nI_ge (b := 7) hk (by decide)), fun _ => ih _ ?_⟩
    rw [h, ct]
    by_cases hb : s.testBit k = true
    · rw [if_pos hb, if_pos hb]; exact nI_1 _
    · rw [if_neg hb, if_neg hb]; exact nI_add _ 0
theorem m_bitsB {c : Nat → Bool} {k : Nat} (hk : k ≤ 7) (hK : K (nI (ct c k)) M) : wp_X8_bits (nI (bs c k)) M K := by
  have h := bs_lt c k
  refine m_bits (Nat.lt_of_lt_of_le h (Nat.pow_le_pow_right (by decide) (by omega))) ?_
  have e : ct (fun p => (bs c k).testBit p) 7 = ct c k := by
    rw [ct_cut (n := k) hk (fun p h1 h2 => by rw [bs_bit]; simp [Nat.not_lt.mpr h1])]
    exact ct_cong (fun p hp => by rw [bs_bit]; simp [hp])
  rw [e]
  exact hK
theorem wd_self (T : kT) (N : Nat → Int32) (p : Nat) : wd T N p p = false := by unfold wd; simp
theorem m_whomWould {p : Nat} (hR : RT M T) (hT : LW T) (hN : RN M N) (hW : SW T N) (hp : p < 7) (hK : K (nI (bs (wd T N p) (tP T))) M) : wp_X8_whomWould (nI p) M K := by
  have h7 := hT.2.1
  refine ⟨_, set_loop (fun f s i => wL_X8_whomWould_4 _ K f (nI p) s i M) (wd T N p) (tP T) (by omega) (fun f => ?_) (fun f k s hk ht hf => ?_)⟩
  · rw [wL_X8_whomWould_4, hR.2.1]
    exact ⟨fun _ => hK, fun h => absurd (nI_le (Nat.le_refl _) (by omega)) h⟩
  · rw [wL_X8_whomWould_4, hR.2.1, nI_1, or0]
    refine ⟨fun h => absurd h (nI_ge hk (by omega)), fun _ => ⟨fun h => ?_, fun h => ?_⟩⟩
    · have e := nI_inj (by omega) (by omega) h
      subst e
      exact hf (wd_self T N k)
    · refine m_would hR hT hN hW hp (by omega) (fun e => h (by rw [e])) (fun hw => ⟨fun h0 => absurd h0 (by decide), fun _ => ht hw⟩) (fun hw => ⟨fun _ => hf hw, fun h0 => absurd rfl h0⟩)
end MS
