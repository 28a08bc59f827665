/-! ===== what can be undone ===== -/
def nU (U : Nat) : Nat := if U = 20 then 20 else U + 1
def npu (U : Nat) (pu : Nat → Nat → Int32) (N : Nat → Int32) : Nat → Nat → Int32 := fun u => if U = 20 then (if u = 19 then N else pu (u + 1)) else (if u = U then N else pu u)
section P7
variable {M : kg_M} {L S : Nat} {T : kT} {N : Nat → Int32}
theorem c_copyFrom {o o1 : Nat} {K : kg_M → Prop} (ho : o + 3 < o1 ∨ o1 + 3 < o) (hK : ∀ M', (∀ k, (k < o ∨ o + 3 < k) → M' k = M k) → (∀ N, RS M o1 N → RS M' o N) → K M') : wp_X5_copyFrom o o1 M K := by
  unfold wp_X5_copyFrom
  intro M2 e2 M5 e5 M8 e8 M11 e11 M14 e14 M17 e17 M20 e20 M23 e23 M26 e26
  have n1 : ∀ j, j < 4 → o1 + j ≠ o := fun j hj => by omega
  have r17 : ∀ k, k ≠ o → M17 k = M k := fun k hk => by rw [e17, kg_row_ne _ _ hk, e14, kg_row_ne _ _ hk, e11, kg_row_ne _ _ hk, e8, kg_row_ne _ _ hk, e5, kg_row_ne _ _ hk, e2, kg_row_ne _ _ hk]
  have h1 : o1 ≠ o := n1 0 (by omega)
  have a2 : M2 o1 = M o1 := by rw [e2, kg_row_ne _ _ h1]
  have a5 : M5 o1 = M o1 := by rw [e5, kg_row_ne _ _ h1, a2]
  have a8 : M8 o1 = M o1 := by rw [e8, kg_row_ne _ _ h1, a5]
  have a11 : M11 o1 = M o1 := by rw [e11, kg_row_ne _ _ h1, a8]
  have a14 : M14 o1 = M o1 := by rw [e14, kg_row_ne _ _ h1, a11]
  have b17 : M17 o = upd (upd (upd (upd (upd (upd (M o) 0 (M o1 0)) 1 (M o1 1)) 2 (M o1 2)) 3 (M o1 3)) 4 (M o1 4)) 5 (M o1 5) := by rw [e17, kg_row_eq, a14, e14, kg_row_eq, a11, e11, kg_row_eq, a8, e8, kg_row_eq, a5, e5, kg_row_eq, a2, e2, kg_row_eq]
  have q0 : M26 o = M17 o := by rw [e26, kg_row_ne _ _ (by omega), e23, kg_row_ne _ _ (by omega), e20, kg_row_ne _ _ (by omega)]
  have q1 : M26 (o + 1) = va_cpy (M (o1 + 1)) (M (o + 1)) 0 0 7 := by rw [e26, kg_row_ne _ _ (by omega), e23, kg_row_ne _ _ (by omega), e20, kg_row_eq, r17 _ (n1 1 (by omega)), r17 _ (by omega)]; rfl
  have q2 : M26 (o + 2) = va_cpy (M (o1 + 2)) (M (o + 2)) 0 0 5 := by
    rw [e26, kg_row_ne _ _ (by omega), e23, kg_row_eq, e20, kg_row_ne _ _ (by omega), kg_row_ne _ _ (by omega), r17 _ (n1 2 (by omega)), r17 _ (by omega)]; rfl
  have q3 : M26 (o + 3) = va_cpy (M (o1 + 3)) (M (o + 3)) 0 0 20 := by
    rw [e26, kg_row_eq, e23, kg_row_ne _ _ (by omega), kg_row_ne _ _ (by omega), e20, kg_row_ne _ _ (by omega), kg_row_ne _ _ (by omega), r17 _ (n1 3 (by omega)), r17 _ (by omega)]; rfl
  refine hK M26 (fun k hk => ?_) (fun N' hN => ?_)
  · rw [e26, kg_row_ne _ _ (by omega), e23, kg_row_ne _ _ (by omega), e20, kg_row_ne _ _ (by omega), r17 k (by omega)]
  · obtain ⟨g0, g1, g2, g3, g4, g5, g6, g7, g8⟩ := hN
    have cp : ∀ (f g : Nat → Int32) (n i : Nat), i < n → va_cpy f g 0 0 n i = f i := fun f g n i hi => by unfold va_cpy; rw [if_pos ⟨by omega, by omega⟩]; congr 1; omega
    unfold RS
    rw [q0, q1, q2, q3, b17]
    refine ⟨g0, g1, g2, g3, g4, g5, fun p hp => ?_, fun g hg => ?_, fun i c hc h34 hi => ?_⟩
    · rw [cp _ _ _ _ hp]; exact g6 p hp
    · rw [cp _ _ _ _ hg]; exact g7 g hg
    · rw [cp _ _ _ _ (by omega)]; exact g8 i c hc h34 hi
theorem c_remember {U : Nat} {pu : Nat → Nat → Int32} {K : kg_M → Prop} (hU : CU M T U pu) (hS : RS M 3 N) (hW : SW T N) (hK : ∀ M', (∀ k, k ≠ 7 → (k < 9 ∨ 88 < k) → M' k = M k) → CU M' T (nU U) (npu U pu N) → K M') : wp_X4_remember 3 M K := by
  obtain ⟨h20, hu, nx, hnx, e1, hr⟩ := hU
  unfold wp_X4_remember
  rw [e1, cl_nI (by omega)]
  refine ⟨in_nI hnx (by decide), c_copyFrom (by omega) (fun M4 r4 c4 => ?_)⟩
  have hS4 := c4 N hS
  have e7 : M4 7 = M 7 := r4 7 (by omega)
  have fin : ∀ nx', nx' < 20 → nx' = (nx + 1) % 20 → wJ_X4_remember_35 3 K (nI nx') M4 := by
    intro nx' hn1 hn2
    unfold wJ_X4_remember_35
    intro M11 e11 M14 e14
    have r14 : ∀ k, k ≠ 7 → M14 k = M4 k := fun k hk => by rw [e14, kg_row_ne _ _ hk, e11, kg_row_ne _ _ hk]
    have g2 : M11 7 2 = nI U := by rw [e11, kg_row_eq, e7]; exact hu
    have q7 : M14 7 = upd (upd (M 7) 1 (nI nx')) 2 (nI (nU U)) := by
      rw [e14, kg_row_eq, g2, nI_1, e11, kg_row_eq, e7]
      congr 1
      unfold nU
      by_cases h : U = 20
      · rw [if_pos h, h]; rfl
      · rw [if_neg h, if_neg (by exact nI_nlt (b := U + 1) (a := 20) (by omega) (by decide))]
    refine hK M14 (fun k h1 h2 => by rw [r14 k h1, r4 k (by omega)]) ⟨by unfold nU; split <;> omega, by rw [q7]; rfl, nx', hn1, by rw [q7]; rfl, fun u hu' => ?_⟩
    have keep : ∀ v, v < U → (nx + 20 - U + v) % 20 ≠ nx → RS M14 (ring nx U v) (pu v) ∧ SW T (pu v) := by
      intro v hv hne
      have hb : (nx + 20 - U + v) % 20 < 20 := Nat.mod_lt _ (by decide)
      have hd : ring nx U v + 3 < 9 + 4 * nx ∨ 9 + 4 * nx + 3 < ring nx U v := by unfold ring; omega
      have hl := @ring_lt nx U v
      refine ⟨RS_of ?_ ?_ ?_ ?_ (hr v hv).1, (hr v hv).2⟩
      all_goals (rw [r14 _ (by omega), r4 _ (by omega)])
    unfold nU at hu' ⊢
    unfold npu
    by_cases h : U = 20
    · rw [if_pos h] at hu' ⊢
      by_cases h19 : u = 19
      · have e : ring nx' 20 u = 9 + 4 * nx := by unfold ring; omega
        rw [if_pos h, if_pos h19, e]
        exact ⟨RS_of (r14 _ (by omega)) (r14 _ (by omega)) (r14 _ (by omega)) (r14 _ (by omega)) hS4, hW⟩
      · have e : ring nx' 20 u = ring nx U (u + 1) := by unfold ring; omega
        rw [if_pos h, if_neg h19, e]
        exact keep (u + 1) (by omega) (by omega)
    · rw [if_neg h] at hu' ⊢
      by_cases hu2 : u = U
      · have e : ring nx' (U + 1) u = 9 + 4 * nx := by unfold ring; omega
        rw [if_neg h, if_pos hu2, e]
        exact ⟨RS_of (r14 _ (by omega)) (r14 _ (by omega)) (r14 _ (by omega)) (r14 _ (by omega)) hS4, hW⟩
      · have e : ring nx' (U + 1) u = ring nx U u := by unfold ring; omega
        rw [if_neg h, if_neg hu2, e]
        exact keep u (by omega) (by omega)
  rw [e7, e1, nI_1]
  refine ⟨fun h => fin 0 (by omega) ?_, fun h => fin (nx + 1) ?_ ?_⟩
  · rcases Nat.lt_or_ge (nx + 1) 20 with q | q
    · exact absurd h (nI_ge (b := 20) q (by decide))
    · omega
  · rcases Nat.lt_or_ge (nx + 1) 20 with q | q
    · exact q
    · exact absurd (nI_le (a := 20) q (by omega)) h
  · rcases Nat.lt_or_ge (nx + 1) 20 with q | q
    · omega
    · exact absurd (nI_le (a := 20) q (by omega)) h
/-- the reference: now is laid at place U -/
theorem m_lay {U : Nat} {K : kg_M → Prop} {Kx : kg_M → Prop} (hu : M 117 20 = nI U) (hU : U < 20) (hN : RN M N) (hK : ∀ M', (∀ k, k ≠ 128 → M' k = M k) → (∀ j, M' 128 j = if 55 * U ≤ j ∧ j < 55 * U + 55 then N (j - 55 * U) else M 128 j) → Kx M') : ∃ g, wL_X8_remember_52 Kx K g 0 M := by
  refine ⟨_, for_loop (fun f (M' : kg_M) i => wL_X8_remember_52 Kx K f i M') (fun k M' => (∀ r, r ≠ 128 → M' r = M r) ∧ ∀ j, M' 128 j = if 55 * U ≤ j ∧ j < 55 * U + k then N (j - 55 * U) else M 128 j) 55 M ⟨fun _ _ => rfl, fun j => by rw [if_neg (by omega)]⟩ (fun f M' h => ?_) (fun f k M' hk h ih => ?_)⟩
  · rw [wL_X8_remember_52]
    exact ⟨fun _ => hK M' h.1 h.2, fun h => absurd (nI_le (a := 55) (b := 55) (Nat.le_refl _) (by decide)) h⟩
  · have e20 : M' 117 20 = nI U := by rw [h.1 117 (by decide)]; exact hu
    have ei : (55 : Int32) * nI U + nI k = nI (55 * U + k) := by rw [show (55 : Int32) = nI 55 from rfl, pk_mul, nI_add]
    rw [wL_X8_remember_52, e20, ei, cl_nI (by omega), cl_nI (by omega), nI_1]
    refine ⟨fun h => absurd h (nI_ge (b := 55) hk (by decide)), fun _ => ⟨in_nI (by omega) (by decide), in_nI (by omega) (by decide), fun M13 e13 => ih M13 ⟨fun r hr => by rw [e13, kg_row_ne _ _ hr, h.1 r hr], fun j => ?_⟩⟩⟩
    rw [e13, kg_row_eq, h.1 120 (by decide), hN k (by omega)]
    unfold upd
    by_cases hj : j = 55 * U + k
    · rw [if_pos hj, if_pos (by omega)]; congr 1; omega
    · rw [if_neg hj, h.2 j]
      by_cases hc : 55 * U ≤ j ∧ j < 55 * U + k
      · rw [if_pos hc, if_pos (by omega)]
      · rw [if_neg hc, if_neg (by omega)]
theorem m_remember {U : Nat} {pu : Nat → Nat → Int32} {K : kg_M → Prop} (h20 : U ≤ 20) (hu : MU M U pu) (hN : RN M N) (hK : ∀ M', (∀ k, k ≠ 117 → k ≠ 128 → M' k = M k) → (∀ j, j ≠ 20 → M' 117 j = M 117 j) → MU M' (nU U) (npu U pu N) → K M') : wp_X8_remember M K := by
  unfold wp_X8_remember
  refine ⟨fun h => ?_, fun h => ?_⟩
  · have hU : U < 20 := by
      rcases Nat.lt_or_ge U 20 with q | q
      · exact q
      · exact absurd (by rw [hu.1, show U = 20 by omega]; rfl) h
    refine m_lay hu.1 hU hN (fun M' r g M17 e17 => ?_)
    have q : M17 117 = upd (M 117) 20 (nI (U + 1)) := by rw [e17, kg_row_eq, r 117 (by decide), hu.1, nI_1]
    have q2 : M17 128 = M' 128 := by rw [e17, kg_row_ne _ _ (by decide)]
    have en : nU U = U + 1 := by unfold nU; rw [if_neg (by omega)]
    refine hK M17 (fun k h1 h2 => by rw [e17, kg_row_ne _ _ h1, r k h2]) (fun j hj => by rw [q]; simp [upd, hj]) ⟨by rw [q, en]; rfl, fun u hu' k hk => ?_⟩
    rw [en] at hu'
    have en2 : npu U pu N u = if u = U then N else pu u := by unfold npu; rw [if_neg (by omega)]
    rw [q2, g, en2]
    by_cases hu2 : u = U
    · rw [if_pos hu2, if_pos (by omega), show 55 * u + k - 55 * U = k by omega]
    · rw [if_neg hu2, if_neg (by omega)]; exact hu.2 u (by omega) k hk
  · have hU : U = 20 := nI_inj (b := 20) (by omega) (by decide) (hu.1.symm.trans h)
    subst hU
    refine ⟨_, for_from (fun f (M' : kg_M) i => wL_X8_remember_12 _ K f i M') (fun k M' => (∀ r, r ≠ 128 → M' r = M r) ∧ ∀ j, M' 128 j = if j + 55 < k then M 128 (j + 55) else M 128 j) 55 1100 (by decide) M ⟨fun _ _ => rfl, fun j => by rw [if_neg (by omega)]⟩ (fun f M' h => ?_) (fun f k M' hk1 hk h ih => ?_)⟩
    · rw [wL_X8_remember_12]
      refine ⟨fun _ M34 e34 => ?_, fun h => absurd (nI_le (a := 1100) (b := 1100) (Nat.le_refl _) (by decide)) h⟩
      have q34 : M34 117 = upd (M 117) 20 (nI 19) := by rw [e34, kg_row_eq, h.1 117 (by decide), hu.1]; rfl
      have r34 : ∀ k, k ≠ 117 → M34 k = M' k := fun k hk => by rw [e34, kg_row_ne _ _ hk]
      refine m_lay (N := N) (by rw [q34]; rfl) (by decide) (fun k hk => by rw [r34 120 (by decide), h.1 120 (by decide)]; exact hN k hk) (fun M2 r2 g2 M38 e38 => ?_)
      have q : M38 117 = upd (M34 117) 20 (nI 20) := by
        have e9 : M2 117 20 = nI 19 := by rw [r2 117 (by decide), q34]; rfl
        rw [e38, kg_row_eq, e9, r2 117 (by decide)]; rfl
      have q2 : M38 128 = M2 128 := by rw [e38, kg_row_ne _ _ (by decide)]
      refine hK M38 (fun k h1 h2 => by rw [e38, kg_row_ne _ _ h1, r2 k h2, r34 k h1, h.1 k h2]) (fun j hj => by rw [q, q34]; simp [upd, hj]) ⟨by rw [q]; rfl, fun u hu' k hk => ?_⟩
      have hu3 : u < 20 := hu'
      have en2 : npu 20 pu N u = if u = 19 then N else pu (u + 1) := by unfold npu; rw [if_pos rfl]
      rw [q2, g2, en2]
      by_cases hu2 : u = 19
      · rw [if_pos hu2, if_pos (by omega), show 55 * u + k - 55 * 19 = k by omega]
      · rw [if_neg hu2, if_neg (by omega), r34 128 (by decide), h.2, if_pos (by omega), ← hu.2 (u + 1) (by omega) k hk, show 55 * u + k + 55 = 55 * (u + 1) + k by omega]
    · have ei : nI k - (55 : Int32) = nI (k - 55) := by rw [show (55 : Int32) = nI 55 from rfl, pk_sub hk1]
      rw [wL_X8_remember_12, ei, cl_nI (by omega), cl_nI (by omega), nI_1]
      refine ⟨fun h => absurd h (nI_ge (b := 1100) hk (by decide)), fun _ => ⟨in_nI (by omega) (by decide), in_nI (by omega) (by decide), fun M13 e13 => ih M13 ⟨fun r hr => by rw [e13, kg_row_ne _ _ hr, h.1 r hr], fun j => ?_⟩⟩⟩
      rw [e13, kg_row_eq]
      unfold upd
      by_cases hj : j = k - 55
      · rw [if_pos hj, if_pos (by omega), h.2 k, if_neg (by omega)]; congr 1; omega
      · rw [if_neg hj, h.2 j]
        by_cases hc : j + 55 < k
        · rw [if_pos hc, if_pos (by omega)]
        · rw [if_neg hc, if_neg (by omega)]
/-! behind a change of section 2 -/
theorem CI_st {M' : kg_M} {N' : Nat → Int32} {U' : Nat} {pu' : Nat → Nat → Int32} {sv' : Int32} {U : Nat} {pu : Nat → Nat → Int32} {im : Nat → Nat → Int32} {is : Nat → Int32} {kp : Nat → Bool} {sv fl : Int32} {tn : Nat} {tx : Nat → Int32} {kn : Nat} {kw : Nat → Nat} {ki : Nat → Bool} {bn : Nat} {bo : Nat → Nat} {bi : Nat → Int32} (hC : CI M L S (T, N, (U, pu), (im, is, kp), sv, fl, (tn, tx), (kn, kw, ki), (bn, bo, bi))) (hr : ∀ k, (k < 3 ∨ 88 < k) → k ≠ 0 → M' k = M k) (h0 : M' 0 12 = M 0 12) (h1 : 0 ≤ sv' ∧ M' 0 13 = sv') (hS : RS M' 3 N') (hW : SW T N') (hU : CU M' T U' pu') : CI M' L S (T, N', (U', pu'), (im, is, kp), sv', fl, (tn, tx), (kn, kw, ki), (bn, bo, bi)) := by
  obtain ⟨⟨hT, hRC⟩, ⟨hSW, hRS⟩, hCU, hCM, hsv, hfl, hCX, hCN, hCB, hLS⟩ := hC
  exact ⟨⟨hT, RCL_of hLS hRC (fun k h1 h2 => hr k (by omega) (by omega))⟩, ⟨hW, hS⟩, hU, CM_of hCM (fun k h1 h2 => hr k (by omega) (by omega)), h1, h0.trans hfl, CX_of hCX (fun k hk => hr k (by omega) (by omega)), CN_of hCN (fun j _ => by rw [hr 89 (by omega) (by omega)]), CB_of hCB (by rw [hr 89 (by omega) (by omega)]) (fun k hk => hr k (by omega) (by omega)), hLS⟩
theorem MI_st {M' : kg_M} {N' : Nat → Int32} {U' : Nat} {pu' : Nat → Nat → Int32} {sv' : Int32} {U : Nat} {pu : Nat → Nat → Int32} {im : Nat → Nat → Int32} {is : Nat → Int32} {kp : Nat → Bool} {sv fl : Int32} {tn : Nat} {tx : Nat → Int32} {kn : Nat} {kw : Nat → Nat} {ki : Nat → Bool} {bn : Nat} {bo : Nat → Nat} {bi : Nat → Int32} (hM : MI M (T, N, (U, pu), (im, is, kp), sv, fl, (tn, tx), (kn, kw, ki), (bn, bo, bi))) (hr : ∀ k, k ≠ 117 → k ≠ 120 → k ≠ 128 → M' k = M k) (hs : ∀ j, j ≠ 20 → j ≠ 5 → M' 117 j = M 117 j) (h5 : M' 117 5 = sv') (hN : RN M' N') (hU : MU M' U' pu') : MI M' (T, N', (U', pu'), (im, is, kp), sv', fl, (tn, tx), (kn, kw, ki), (bn, bo, bi)) := by
  obtain ⟨a1, a2, a3, a4, a5, a6, a7, a8, a9, a10⟩ := hM
  exact ⟨RT_of a1 (hs 0 (by decide) (by decide)) (hs 2 (by decide) (by decide)) (fun k hk => hr k (by omega) (by omega) (by omega)), RP_of a2 (fun k hk => hr k (by omega) (by omega) (by omega)), hN, hU, MM_of a5 (fun k hk => hr k (by omega) (by omega) (by omega)), h5, (hs 10 (by decide) (by decide)).trans a7, MX_of a8 (hs 9 (by decide) (by decide)) (hr 123 (by decide) (by decide) (by decide)), MN_of a9 (hs 32 (by decide) (by decide)) (fun k hk => hr k (by omega) (by omega) (by omega)), MB_of a10 (hs 35 (by decide) (by decide)) (fun k hk => hr k (by omega) (by omega) (by omega))⟩
end P7
