/-! ===== images ===== -/
section P16
variable {M : kg_M} {L S : Nat} {T : kT} {N : Nat → Int32}
theorem m_in01_f {K : Int32 → kg_M → Prop} {v : Int32} (hv : v < 0 ∨ nI 2 ≤ v) (hK : K 0 M) : wp_X8_in v.toInt64 0 1 M K := m_inL 0 1 rfl rfl (fun h1 h2 => by
  rcases hv with h | h
  · exact absurd h1 (fa_of_lt h).2.1
  · exact absurd (Int32.le_trans h h2) (by decide)) (fun _ => hK)
theorem m_in01_t {K : Int32 → kg_M → Prop} {i : Nat} (hi : i < 2) (hK : K 1 M) : wp_X8_in (nI i).toInt64 0 1 M K := m_inL 0 1 rfl rfl (fun _ _ => hK) (fun h => by
  rcases h with h | h
  · exact absurd h (nI_pos (by omega))
  · rw [show (1 : Int32) = nI 1 from rfl] at h
    have := (nI_ltI (by omega) (by omega)).mp h
    omega)
theorem CU_0 {M' : kg_M} {U : Nat} {pu : Nat → Nat → Int32} (h : CU M T U pu) (h7 : M' 7 = upd (M 7) 2 0) : CU M' T 0 pu := by
  obtain ⟨h20, hu, nx, hnx, e1, hr⟩ := h
  exact ⟨by omega, by rw [h7]; rfl, nx, hnx, by rw [h7]; exact e1, fun u hu => absurd hu (Nat.not_lt_zero _)⟩
theorem e56 {i k : Nat} (h : 56 * i + k < 2 ^ 31) : ((56 : Int32) * nI i + nI k).toNatClampNeg = 56 * i + k := by
  rw [show (56 : Int32) = nI 56 from rfl, pk_mul, nI_add, cl_nI h]
theorem i56 {i k : Nat} (h : 56 * i + k < 112) : vp_in ((56 : Int32) * nI i + nI k) 112 := by
  rw [show (56 : Int32) = nI 56 from rfl, pk_mul, nI_add]; exact in_nI h (by decide)
theorem p_keep {σ : kS} (v : Int32) (hC : CI M L S σ) : Pair L S M σ (wp_X7_keep L v) (wp_X8_keep v) := by
  obtain ⟨T, N, ⟨U, pu⟩, ⟨im, is, kp⟩, sv, fl, ⟨tn, tx⟩, ⟨kn, kw, ki⟩, ⟨bn, bo, bi⟩⟩ := σ
  obtain ⟨⟨hT, hRC⟩, ⟨hSW, hRS⟩, hCU, hCM, hsv, hfl, hCX, hCN, hCB, hLS⟩ := id hC
  have h7 := hT.2.1
  have h5 := hT.1
  have hLr : L = 109 ∨ L = 113 := by omega
  rcases ix_cases v 2 (by omega) with hv | ⟨i, hi, rfl⟩
  · refine ⟨-1000000001, (T, N, (U, pu), (im, is, kp), sv, fl, (tn, tx), (kn, kw, ki), (bn, bo, bi)), ⟨fun _ => CK_s hC rfl, fun h0 => ⟨fun h2 => ?_, fun _ => CK_s hC rfl⟩⟩, fun M1 hM => m_in01_f hv ⟨fun h => absurd rfl h, fun _ => MK_s hM rfl⟩⟩
    rcases hv with h | h
    · exact absurd h h0
    · exact absurd h2 (fa_le_nlt h)
  have i2 : vp_in (nI i) 2 := in_nI hi (by decide)
  refine ⟨1, (T, N, (0, pu), (fun j => if j = i then N else im j, fun j => if j = i then sv else is j, fun j => (j == i) || kp j), sv, fl, (tn, tx), (kn, kw, ki), (bn, bo, bi)), ⟨fun h => absurd h (nI_pos (by omega)), fun _ => ⟨fun _ => ⟨i2, ?_⟩, fun h => absurd ((nI_ltI (b := 2) (by omega) (by decide)).mpr hi) h⟩⟩, fun M1 hM => m_in01_t hi ⟨fun _ => ⟨_, for_loop (fun f (M' : kg_M) k => wL_X8_keep_15 _ _ f (nI i) k M') (fun k M' => (∀ j, j ≠ 140 → M' j = M1 j) ∧ ∀ j, M' 140 j = if 56 * i ≤ j ∧ j < 56 * i + k then N (j - 56 * i) else M1 140 j) 55 M1 ⟨fun _ _ => rfl, fun j => by rw [if_neg (by omega)]⟩ (fun f M' h => ?_) (fun f k M' hk h ih => ?_)⟩, fun h => absurd h (by decide)⟩⟩
  · rw [cl_nI (by omega)]
    refine c_copyFrom (by omega) (fun M10 r10 c10 => ⟨i2, fun M15 e15 => ⟨i2, fun M20 e20 M23 e23 => ?_⟩⟩)
    have rr : ∀ k, k ≠ 7 → k ≠ 106 → k ≠ 107 → (k < 98 + 4 * i ∨ 98 + 4 * i + 3 < k) → M23 k = M k := fun k a b c d => by rw [e23, kg_row_ne _ _ a, e20, kg_row_ne _ _ b, e15, kg_row_ne _ _ c, r10 k d]
    have r10' : ∀ k, 98 + 4 * i ≤ k → k ≤ 98 + 4 * i + 3 → M23 k = M10 k := fun k a b => by rw [e23, kg_row_ne _ _ (by omega), e20, kg_row_ne _ _ (by omega), e15, kg_row_ne _ _ (by omega)]
    have q7 : M23 7 = upd (M 7) 2 0 := by rw [e23, kg_row_eq, e20, kg_row_ne _ _ (by decide), e15, kg_row_ne _ _ (by decide), r10 7 (by omega)]
    have q106 : M23 106 = upd (M 106) i 1 := by rw [e23, kg_row_ne _ _ (by decide), e20, kg_row_eq, e15, kg_row_ne _ _ (by decide), r10 106 (by omega)]
    have q107 : M23 107 = upd (M 107) i sv := by rw [e23, kg_row_ne _ _ (by decide), e20, kg_row_ne _ _ (by decide), e15, kg_row_eq, r10 107 (by omega), r10 0 (by omega), hsv.2]
    have r0 : M23 0 = M 0 := rr 0 (by decide) (by decide) (by decide) (by omega)
    refine ⟨rfl, ⟨⟨hT, RC_of (rr _ (by omega) (by omega) (by omega) (by omega)) (rr _ (by omega) (by omega) (by omega) (by omega)) (rr _ (by omega) (by omega) (by omega) (by omega)) (rr _ (by omega) (by omega) (by omega) (by omega)) hRC⟩, ⟨hSW, RS_of (rr _ (by omega) (by omega) (by omega) (by omega)) (rr _ (by omega) (by omega) (by omega) (by omega)) (rr _ (by omega) (by omega) (by omega) (by omega)) (rr _ (by omega) (by omega) (by omega) (by omega)) hRS⟩, CU_0 hCU q7, fun j hj => ?_, ⟨hsv.1, by rw [r0]; exact hsv.2⟩, by rw [r0]; exact hfl, CX_of hCX (fun k hk => rr k (by omega) (by omega) (by omega) (by omega)), CN_of hCN (fun j _ => by rw [rr 89 (by omega) (by omega) (by omega) (by omega)]), CB_of hCB (by rw [rr 89 (by omega) (by omega) (by omega) (by omega)]) (fun k hk => rr k (by omega) (by omega) (by omega) (by omega)), hLS⟩, fun k hk => rr k (by omega) (by omega) (by omega) (by omega)⟩
    rw [q106, q107]
    dsimp only
    by_cases hji : j = i
    · subst hji
      rw [upd_eq, upd_eq, if_pos rfl, if_pos rfl]
      have hS10 : RS M10 (98 + 4 * j) N := c10 N hRS
      exact ⟨by simp, fun _ => ⟨RS_of (r10' _ (by omega) (by omega)) (r10' _ (by omega) (by omega)) (r10' _ (by omega) (by omega)) (r10' _ (by omega) (by omega)) hS10, hSW, rfl, hsv.1⟩⟩
    · have hb : (j == i || kp j) = kp j := by simp [hji]
      rw [upd_ne hji, upd_ne hji, if_neg hji, if_neg hji]
      simp only [hb]
      obtain ⟨a1, a2⟩ := hCM j hj
      refine ⟨a1, fun hk => ?_⟩
      obtain ⟨b1, b2, b3, b4⟩ := a2 hk
      exact ⟨RS_of (rr _ (by omega) (by omega) (by omega) (by omega)) (rr _ (by omega) (by omega) (by omega) (by omega)) (rr _ (by omega) (by omega) (by omega) (by omega)) (rr _ (by omega) (by omega) (by omega) (by omega)) b1, b2, b3, b4⟩
  · rw [wL_X8_keep_15]
    refine ⟨fun _ => ⟨i56 (k := 55) (by omega), fun M22 e22 => ⟨i2, fun M27 e27 M30 e30 => ?_⟩⟩, fun h => absurd (nI_le (a := 55) (b := 55) (Nat.le_refl _) (by omega)) h⟩
    have e55 : ((56 : Int32) * nI i + (55 : Int32)).toNatClampNeg = 56 * i + 55 := e56 (k := 55) (by omega)
    have rr : ∀ k, k ≠ 117 → k ≠ 140 → k ≠ 141 → M30 k = M1 k := fun k a b c => by rw [e30, kg_row_ne _ _ a, e27, kg_row_ne _ _ c, e22, kg_row_ne _ _ b, h.1 k b]
    have q117 : M30 117 = upd (M1 117) 20 0 := by rw [e30, kg_row_eq, e27, kg_row_ne _ _ (by decide), e22, kg_row_ne _ _ (by decide), h.1 117 (by decide)]
    have q141 : M30 141 = upd (M1 141) i 1 := by rw [e30, kg_row_ne _ _ (by decide), e27, kg_row_eq, cl_nI (by omega), e22, kg_row_ne _ _ (by decide), h.1 141 (by decide)]
    have q140 : M30 140 = upd (M' 140) (56 * i + 55) sv := by rw [e30, kg_row_ne _ _ (by decide), e27, kg_row_ne _ _ (by decide), e22, kg_row_eq, e55, h.1 117 (by decide), hM.2.2.2.2.2.1]
    have s : ∀ j, j ≠ 20 → M30 117 j = M1 117 j := fun j hj => by rw [q117, upd_ne hj]
    obtain ⟨m1, m2, m3, m4, m5, m6, m7, m8, m9, m10⟩ := hM
    refine ⟨rfl, ⟨RT_of m1 (s 0 (by decide)) (s 2 (by decide)) (fun k hk => rr k (by omega) (by omega) (by omega)), RP_of m2 (fun k hk => rr k (by omega) (by omega) (by omega)), RN_of m3 (rr 120 (by decide) (by decide) (by decide)), ⟨by rw [q117]; rfl, fun u hu => absurd hu (Nat.not_lt_zero _)⟩, fun j hj => ?_, by rw [s 5 (by decide)]; exact m6, by rw [s 10 (by decide)]; exact m7, MX_of m8 (s 9 (by decide)) (rr 123 (by decide) (by decide) (by decide)), MN_of m9 (s 32 (by decide)) (fun k hk => rr k (by omega) (by omega) (by omega)), MB_of m10 (s 35 (by decide)) (fun k hk => rr k (by omega) (by omega) (by omega))⟩, fun k hk => rr k (by omega) (by omega) (by omega)⟩
    rw [q141, q140]
    dsimp only
    by_cases hji : j = i
    · subst hji
      rw [upd_eq, if_pos rfl, if_pos rfl, upd_eq]
      refine ⟨by simp, fun _ => ⟨fun k hk => ?_, rfl⟩⟩
      rw [upd_ne (by omega), h.2, if_pos (by omega)]
      congr 1; omega
    · have hb : (j == i || kp j) = kp j := by simp [hji]
      rw [upd_ne hji, if_neg hji, if_neg hji]
      simp only [hb]
      obtain ⟨a1, a2⟩ := m5 j hj
      refine ⟨a1, fun hk => ?_⟩
      obtain ⟨b1, b2⟩ := a2 hk
      exact ⟨fun k hk => by rw [upd_ne (by omega), h.2, if_neg (by omega)]; exact b1 k hk, by rw [upd_ne (by omega), h.2, if_neg (by omega)]; exact b2⟩
  · rw [wL_X8_keep_15, e56 (by omega), nI_1 k, cl_nI (a := k) (by omega), h.1 120 (by decide), hM.2.2.1 k hk]
    refine ⟨fun h => absurd h (nI_ge (a := k) (b := 55) hk (by omega)), fun _ => ⟨in_nI hk (by decide), i56 (by omega), fun M16 e16 => ih M16 ⟨fun j hj => by rw [e16, kg_row_ne _ _ hj, h.1 j hj], fun j => ?_⟩⟩⟩
    rw [e16, kg_row_eq]
    by_cases hj : j = 56 * i + k
    · rw [hj, upd_eq, if_pos (by omega)]; congr 1; omega
    · rw [upd_ne hj, h.2]
      by_cases hh : 56 * i ≤ j ∧ j < 56 * i + k
      · rw [if_pos hh, if_pos (by omega)]
      · rw [if_neg hh, if_neg (by omega)]
theorem p_goBack {σ : kS} (v : Int32) (hC : CI M L S σ) : Pair L S M σ (wp_X7_goBack L v) (wp_X8_goBack v) := by
  obtain ⟨T, N, ⟨U, pu⟩, ⟨im, is, kp⟩, sv, fl, ⟨tn, tx⟩, ⟨kn, kw, ki⟩, ⟨bn, bo, bi⟩⟩ := σ
  obtain ⟨⟨hT, hRC⟩, ⟨hSW, hRS⟩, hCU, hCM, hsv, hfl, hCX, hCN, hCB, hLS⟩ := id hC
  have h7 := hT.2.1
  have h5 := hT.1
  have hLr : L = 109 ∨ L = 113 := by omega
  rcases ix_cases v 2 (by omega) with hv | ⟨i, hi, rfl⟩
  · refine ⟨-1000000001, (T, N, (U, pu), (im, is, kp), sv, fl, (tn, tx), (kn, kw, ki), (bn, bo, bi)), ⟨fun _ => CK_s hC rfl, fun h0 => ⟨fun h2 => ?_, fun _ => CK_s hC rfl⟩⟩, fun M1 hM => m_in01_f hv ⟨fun h => absurd rfl h, fun _ => MK_s hM rfl⟩⟩
    rcases hv with h | h
    · exact absurd h h0
    · exact absurd h2 (fa_le_nlt h)
  have i2 : vp_in (nI i) 2 := in_nI hi (by decide)
  have lt2 : nI i < (2 : Int32) := (nI_ltI (b := 2) (by omega) (by decide)).mpr hi
  obtain ⟨a1, a2⟩ := hCM i hi
  cases hk : kp i with
  | false =>
    rw [hk] at a1
    refine ⟨-1000000003, (T, N, (U, pu), (im, is, kp), sv, fl, (tn, tx), (kn, kw, ki), (bn, bo, bi)), ⟨fun h => absurd h (nI_pos (by omega)), fun _ => ⟨fun _ => ⟨i2, fun h => absurd (by rw [cl_nI (by omega)]; exact a1) h, fun _ => CK_s hC rfl⟩, fun h => absurd lt2 h⟩⟩, fun M1 hM => m_in01_t hi ⟨fun _ => ⟨i2, fun h => absurd ?_ h, fun _ => MK_s hM rfl⟩, fun h => absurd h (by decide)⟩⟩
    rw [cl_nI (by omega), (hM.2.2.2.2.1 i hi).1, hk]; rfl
  | true =>
    obtain ⟨b1, b2, b3, b4⟩ := a2 hk
    rw [hk] at a1
    refine ⟨1, (T, im i, (0, pu), (im, is, kp), is i, fl, (tn, tx), (kn, kw, ki), (bn, bo, bi)), ⟨fun h => absurd h (nI_pos (by omega)), fun _ => ⟨fun _ => ⟨i2, fun _ => ⟨i2, ?_⟩, fun h => absurd ((by rw [cl_nI (by omega)] at h; exact a1.symm.trans h) : (1 : Int32) = 0) (by decide)⟩, fun h => absurd lt2 h⟩⟩, fun M1 hM => m_in01_t hi ⟨fun _ => ⟨i2, fun _ => ⟨_, for_loop (fun f (M' : kg_M) k => wL_X8_goBack_27 _ _ f (nI i) k M') (fun k M' => (∀ j, j ≠ 120 → M' j = M1 j) ∧ ∀ j, j < k → M' 120 j = im i j) 55 M1 ⟨fun _ _ => rfl, fun j hj => absurd hj (Nat.not_lt_zero _)⟩ (fun f M' h => ?_) (fun f k M' hk h ih => ?_)⟩, fun h => absurd h ?_⟩, fun h => absurd h (by decide)⟩⟩
    · rw [cl_nI (by omega)]
      refine c_copyFrom (by omega) (fun M15 r15 c15 => ⟨i2, fun M20 e20 M23 e23 => ?_⟩)
      have rr : ∀ k, k ≠ 7 → k ≠ 0 → (k < 3 ∨ 6 < k) → M23 k = M k := fun k a b c => by rw [e23, kg_row_ne _ _ a, e20, kg_row_ne _ _ b, r15 k c]
      have r3 : ∀ k, k ≠ 0 → k ≠ 7 → M23 k = M15 k := fun k a b => by rw [e23, kg_row_ne _ _ b, e20, kg_row_ne _ _ a]
      have q7 : M23 7 = upd (M 7) 2 0 := by rw [e23, kg_row_eq, e20, kg_row_ne _ _ (by decide), r15 7 (by omega)]
      have q0 : M23 0 = upd (M 0) 13 (is i) := by rw [e23, kg_row_ne _ _ (by decide), e20, kg_row_eq, r15 0 (by omega), r15 107 (by omega), b3]
      have hS15 : RS M15 3 (im i) := c15 _ b1
      exact ⟨rfl, CI_st hC (M' := M23) (sv' := is i) (fun k h1 h2 => rr k (by omega) h2 (by omega)) (by rw [q0, upd_ne (by decide)]) ⟨b4, by rw [q0, upd_eq]⟩ (RS_of (r3 _ (by omega) (by omega)) (r3 _ (by omega) (by omega)) (r3 _ (by omega) (by omega)) (r3 _ (by omega) (by omega)) hS15) b2 (CU_0 hCU q7), fun k hk => rr k (by omega) (by omega) (by omega)⟩
    · rw [wL_X8_goBack_27]
      refine ⟨fun _ => ⟨i56 (k := 55) (by omega), fun M27 e27 M30 e30 => ?_⟩, fun h => absurd (nI_le (a := 55) (b := 55) (Nat.le_refl _) (by omega)) h⟩
      have e55 : ((56 : Int32) * nI i + (55 : Int32)).toNatClampNeg = 56 * i + 55 := e56 (k := 55) (by omega)
      obtain ⟨c1, c2⟩ := (hM.2.2.2.2.1 i hi).2 hk
      have rr : ∀ k, k ≠ 117 → M30 k = M' k := fun k a => by rw [e30, kg_row_ne _ _ a, e27, kg_row_ne _ _ a]
      have q117 : M30 117 = upd (upd (M1 117) 5 (is i)) 20 0 := by rw [e30, kg_row_eq, e27, kg_row_eq, e55, h.1 117 (by decide), h.1 140 (by decide), c2]
      exact ⟨rfl, MI_st hM (M' := M30) (sv' := is i) (fun k h1 h2 h3 => by rw [rr k h1, h.1 k h2]) (fun j h1 h2 => by rw [q117, upd_ne h1, upd_ne h2]) (by rw [q117]; rfl) (RN_of (M := M') (fun k hk => h.2 k hk) (rr 120 (by decide))) ⟨by rw [q117]; rfl, fun u hu => absurd hu (Nat.not_lt_zero _)⟩, fun k hk => by rw [rr k (by omega), h.1 k (by omega)]⟩
    · obtain ⟨c1, c2⟩ := (hM.2.2.2.2.1 i hi).2 (by assumption)
      rw [wL_X8_goBack_27, e56 (by omega), nI_1 k, cl_nI (a := k) (by omega), h.1 140 (by decide), c1 k hk]
      refine ⟨fun h => absurd h (nI_ge (a := k) (b := 55) hk (by omega)), fun _ => ⟨i56 (by omega), in_nI hk (by decide), fun M21 e21 => ih M21 ⟨fun j hj => by rw [e21, kg_row_ne _ _ hj, h.1 j hj], fun j hj => ?_⟩⟩⟩
      rw [e21, kg_row_eq]
      by_cases hjk : j = k
      · rw [hjk, upd_eq]
      · rw [upd_ne hjk]; exact h.2 j (by omega)
    · rw [cl_nI (by omega), (hM.2.2.2.2.1 i hi).1, hk]; decide
end P16
