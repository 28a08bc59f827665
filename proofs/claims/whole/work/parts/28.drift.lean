/-! ===== days by draws ===== -/
def nSd (s : Nat) : Nat := (s * 1103515245 + 12345) % 2147483648
theorem nSd_lt (s : Nat) : nSd s < 2147483648 := Nat.mod_lt _ (by decide)
def dP (T : kT) (s : Nat) : Nat := nSd s / 65536 % tP T
def dG (T : kT) (s : Nat) : Nat := nSd (nSd s) / 65536 % tG T
/-- somebody comes by a draw -/
def nDr (T : kT) (N : Nat → Int32) (s : Nat) : Nat → Int32 := if tP T = 0 then N else if N (26 + dG T s) = 0 then upd N (7 + dP T s) (nI (dG T s)) else N
def sDr (T : kT) (s : Nat) : Nat := if tP T = 0 then s else nSd (nSd s)
def nDs (T : kT) (N : Nat → Int32) (s : Nat) : Nat → (Nat → Int32) × Nat
  | 0 => (N, s)
  | i + 1 => (nPass T (nDr T (nDs T N s i).1 (nDs T N s i).2), sDr T (nDs T N s i).2)
section P14
variable {M : kg_M} {L S : Nat} {T : kT} {N : Nat → Int32}
theorem sDr_lt {s : Nat} (hs : s < 2147483648) : sDr T s < 2147483648 := by
  unfold sDr
  by_cases h : tP T = 0
  · rw [if_pos h]; exact hs
  · rw [if_neg h]; exact nSd_lt _
theorem seed_c (s : Nat) : ((nI s * (1103515245 : Int32)) + (12345 : Int32)) &&& (2147483647 : Int32) = nI (nSd s) := by
  rw [show (1103515245 : Int32) = nI 1103515245 from rfl, pk_mul, show (12345 : Int32) = nI 12345 from rfl, nI_add, show (2147483647 : Int32) = nI (2 ^ 31 - 1) from rfl, fa_mask]
  rfl
theorem seed_m {s : Nat} (hs : s < 2147483648) : ((((nI s).toInt64 * (1103515245 : Int64)) + (12345 : Int64)) - (((nI s).toInt64 * (1103515245 : Int64)) + (12345 : Int64)) / (2147483648 : Int64) * (2147483648 : Int64)).toInt32 = nI (nSd s) := by
  rw [nI_l hs, show (1103515245 : Int64) = lN 1103515245 from rfl, lN_mul, show (12345 : Int64) = lN 12345 from rfl, lN_add, show (2147483648 : Int64) = lN 2147483648 from rfl, pk_lRem (by omega) (by decide) (by decide), lN_i]
  rfl
theorem drawn_v {s n : Nat} (hn : 0 < n) (h7 : n ≤ 7) : (nI (nSd s) / (65536 : Int32)) - (nI (nSd s) / (65536 : Int32)) / nI n * nI n = nI (nSd s / 65536 % n) := by
  have hs := nSd_lt s
  rw [show (65536 : Int32) = nI 65536 from rfl, pk_div (by omega) (by decide) (by decide), pk_rem (by have := Nat.div_le_self (nSd s) 65536; omega) hn (by omega)]
theorem c_draw {s n : Nat} {K : Int32 → kg_M → Prop} (hs : M 0 13 = nI s) (hn : 0 < n) (h7 : n ≤ 7) (hK : ∀ M', (∀ k, k ≠ 0 → M' k = M k) → M' 0 = upd (M 0) 13 (nI (nSd s)) → K (nI (nSd s / 65536 % n)) M') : wp_X7_draw L (nI n) M K := by
  intro M2 e2
  rw [hs, seed_c] at e2
  have e : M2 0 13 = nI (nSd s) := by rw [e2, kg_row_eq, upd_eq]
  refine ⟨fun h => absurd h (by rw [show (0 : Int32) = nI 0 from rfl]; exact nI_ge hn (by omega)), fun _ => ⟨nI_ne0 hn (by omega), ?_⟩⟩
  rw [e, drawn_v hn h7]
  exact hK M2 (fun k hk => by rw [e2, kg_row_ne _ _ hk]) (by rw [e2, kg_row_eq])
theorem m_draw {s n : Nat} {K : Int32 → kg_M → Prop} (hs : M 117 5 = nI s) (hl : s < 2147483648) (hn : 0 < n) (h7 : n ≤ 7) (hK : ∀ M', (∀ k, k ≠ 117 → M' k = M k) → M' 117 = upd (M 117) 5 (nI (nSd s)) → K (nI (nSd s / 65536 % n)) M') : wp_X8_draw (nI n) M K := by
  intro M2 e2
  rw [hs, seed_m hl] at e2
  have e : M2 117 5 = nI (nSd s) := by rw [e2, kg_row_eq, upd_eq]
  refine ⟨nI_ne0 hn (by omega), ?_⟩
  rw [e, drawn_v hn h7]
  exact hK M2 (fun k hk => by rw [e2, kg_row_ne _ _ hk]) (by rw [e2, kg_row_eq])
theorem SW_dr {s : Nat} (hT : LW T) (hW : SW T N) (hg : 0 < tG T) : SW T (nDr T N s) := by
  unfold nDr
  by_cases h : tP T = 0
  · rw [if_pos h]; exact hW
  · rw [if_neg h]
    by_cases h2 : N (26 + dG T s) = 0
    · rw [if_pos h2]; exact SW_wait (Nat.mod_lt _ (by omega)) hT hW (Or.inr ⟨dG T s, Nat.mod_lt _ hg, rfl⟩)
    · rw [if_neg h2]; exact hW
theorem SW_ds {s : Nat} (hT : LW T) (hW : SW T N) (hg : 0 < tG T) : ∀ i, SW T (nDs T N s i).1
  | 0 => hW
  | i + 1 => SW_pass hT (SW_dr hT (SW_ds hT hW hg i) hg)
theorem sds_lt {s : Nat} (hs : s < 2147483648) : ∀ i, (nDs T N s i).2 < 2147483648
  | 0 => hs
  | i + 1 => sDr_lt (sds_lt hs i)
theorem c_comeByDraw {s : Nat} {K : kg_M → Prop} (hRL : L = 109 ∨ L = 113) (hL : RC M L T) (hT : LW T) (hS : RS M 3 N) (hW : SW T N) (hg : 0 < tG T) (hs : M 0 13 = nI s) (hK : ∀ M', (∀ k, k ≠ 0 → k ≠ 4 → M' k = M k) → M' 0 12 = M 0 12 → M' 0 13 = nI (sDr T s) → RS M' 3 (nDr T N s) → K M') : wp_X7_comeByDraw L M K := by
  have h5 := hT.1
  have h7 := hT.2.1
  unfold wp_X7_comeByDraw
  rw [hL.1, hL.2.1]
  rcases Nat.eq_zero_or_pos (tP T) with hz | hz
  · refine ⟨fun _ => hK M (fun _ _ _ => rfl) rfl ?_ ?_, fun h => absurd (by rw [hz]; rfl) h⟩
    · unfold sDr; rw [if_pos hz]; exact hs
    · unfold nDr; rw [if_pos hz]; exact hS
  · have hz' : ¬ tP T = 0 := by omega
    refine ⟨fun h => absurd h (nI_ne0 hz (by omega)), fun _ => ⟨fun _ => c_draw hs hz h7 (fun M8 r8 e8 => ?_), fun h => absurd h (nI_ne0 hg (by omega))⟩⟩
    have rl8 : ∀ j, M8 (L + j) = M (L + j) := fun j => r8 _ (by omega)
    have hL8 : RC M8 L T := RC_of (rl8 0) (rl8 1) (rl8 2) (rl8 3) hL
    rw [hL8.1]
    refine c_draw (s := nSd s) (by rw [e8, upd_eq]) hg (by omega) (fun M11 r11 e11 => ?_)
    have r : ∀ k, k ≠ 0 → M11 k = M k := fun k hk => by rw [r11 k hk, r8 k hk]
    have hL11 : RC M11 L T := RC_of (r _ (by omega)) (r _ (by omega)) (r _ (by omega)) (r _ (by omega)) hL
    have hS11 : RS M11 3 N := RS_of (r _ (by omega)) (r _ (by omega)) (r _ (by omega)) (r _ (by omega)) hS
    have q12 : M11 0 12 = M 0 12 := by rw [e11, upd_ne (by decide), e8, upd_ne (by decide)]
    have q13 : M11 0 13 = nI (sDr T s) := by rw [e11, upd_eq]; unfold sDr; rw [if_neg hz']
    refine c_isRusted (g := dG T s) hL11 hT hS11 hW (Nat.mod_lt _ hg) ⟨fun h0 => hK M11 (fun k h1 _ => r k h1) q12 q13 ?_, fun h0 => ⟨in_nI (Nat.lt_of_lt_of_le (Nat.mod_lt _ hz) h7) (by decide), fun M22 e22 => hK M22 (fun k h1 h2 => by rw [e22, kg_row_ne _ _ h2, r k h1]) (by rw [e22, kg_row_ne _ _ (by decide)]; exact q12) (by rw [e22, kg_row_ne _ _ (by decide)]; exact q13) ?_⟩⟩
    · unfold nDr; rw [if_neg hz', if_neg h0]; exact hS11
    · have hp : dP T s < 7 := Nat.lt_of_lt_of_le (Nat.mod_lt _ hz) h7
      unfold nDr; rw [if_neg hz', if_pos h0]
      rw [show nSd s / 65536 % tP T = dP T s from rfl, cl_nI (by omega)] at e22
      have q : ∀ k, k ≠ 4 → M22 k = M11 k := fun k hk => by rw [e22, kg_row_ne _ _ hk]
      exact RS_wait hp hS11 (q 3 (by decide)) (by rw [e22, kg_row_eq]; rfl) (q 5 (by decide)) (q 6 (by decide))
theorem m_chance {s : Nat} {K : kg_M → Prop} (hR : RT M T) (hT : LW T) (hN : RN M N) (hW : SW T N) (hz : 0 < tP T) (hg : 0 < tG T) (hs : M 117 5 = nI s) (hl : s < 2147483648) (hK : ∀ M', (∀ k, k ≠ 117 → k ≠ 120 → M' k = M k) → (∀ j, j ≠ 5 → M' 117 j = M 117 j) → M' 117 5 = nI (sDr T s) → RN M' (nDr T N s) → K M') : wp_X8_chance M K := by
  have h5 := hT.1
  have h7 := hT.2.1
  have hz' : ¬ tP T = 0 := by omega
  unfold wp_X8_chance
  rw [hR.2.1]
  refine m_draw hs hl hz h7 (fun M2 r2 e2 => ?_)
  rw [show M2 117 0 = nI (tG T) by rw [e2, upd_ne (by decide)]; exact hR.1]
  refine m_draw (s := nSd s) (by rw [e2, upd_eq]) (nSd_lt s) hg (by omega) (fun M5 r5 e5 => ?_)
  have r : ∀ k, k ≠ 117 → M5 k = M k := fun k hk => by rw [r5 k hk, r2 k hk]
  have q : ∀ j, j ≠ 5 → M5 117 j = M 117 j := fun j hj => by rw [e5, upd_ne hj, e2, upd_ne hj]
  have q5 : M5 117 5 = nI (sDr T s) := by rw [e5, upd_eq]; unfold sDr; rw [if_neg hz']
  have hN5 : RN M5 N := RN_of hN (r 120 (by decide))
  have hp : dP T s < 7 := Nat.lt_of_lt_of_le (Nat.mod_lt _ hz) h7
  have hgg : dG T s < 5 := Nat.lt_of_lt_of_le (Nat.mod_lt _ hg) h5
  show wp_X8_canCome (nI (dP T s)) (nI (dG T s)) M5 _
  have i26 : vp_in ((26 : Int32) + nI (dG T s)) 55 := in_add (a := 26) (by omega) (by decide)
  have i7 : vp_in ((7 : Int32) + nI (dP T s)) 55 := in_add (a := 7) (by omega) (by decide)
  have e26 : ((26 : Int32) + nI (dG T s)).toNatClampNeg = 26 + dG T s := by rw [show (26 : Int32) = nI 26 from rfl, cl_add (by omega)]
  have e7 : ((7 : Int32) + nI (dP T s)).toNatClampNeg = 7 + dP T s := by rw [show (7 : Int32) = nI 7 from rfl, cl_add (by omega)]
  have J : ∀ w : Int32, (∀ M', M' 120 = upd (M5 120) (7 + dP T s) w → RN M' (nDr T N s)) → wJ_X8_chance_48 K ((7 : Int32) + nI (dP T s)) w M5 := by
    intro w hw
    unfold wJ_X8_chance_48
    rw [e7]
    refine ⟨i7, fun M19 e19 => hK M19 (fun k h1 h2 => by rw [e19, kg_row_ne _ _ h2, r k h1]) (fun j hj => by rw [e19, kg_row_ne _ _ (by decide), q j hj]) (by rw [e19, kg_row_ne _ _ (by decide)]; exact q5) (hw M19 (by rw [e19, kg_row_eq]))⟩
  have J0 : nDr T N s = N → wJ_X8_chance_48 K ((7 : Int32) + nI (dP T s)) (M5 120 ((7 : Int32) + nI (dP T s)).toNatClampNeg) M5 := fun hD => J _ (fun M' h => by
    rw [e7, upd_same rfl] at h
    rw [hD]
    exact RN_of hN5 h)
  unfold wp_X8_canCome
  rw [e26, hN5 (26 + dG T s) (by omega)]
  refine ⟨i26, fun h0 => ⟨fun _ => ⟨i7, J0 (by unfold nDr; rw [if_neg hz', if_neg h0])⟩, fun h => absurd rfl h⟩, fun h0 => ⟨i7, fun hw => ⟨fun _ => ⟨i7, J0 ?_⟩, fun h => absurd rfl h⟩, fun hw => ⟨fun h => absurd h (by decide), fun _ => J _ (fun M' h => ?_)⟩⟩⟩
  · unfold nDr; rw [if_neg hz', if_pos h0]
    refine upd_same ?_
    rw [← hw, e7]; exact (hN5 _ (by omega)).symm
  · unfold nDr; rw [if_neg hz', if_pos h0]
    exact RN_upd hN5 h
theorem p_drift {σ : kS} (v : Int32) (hC : CI M L S σ) : Pair L S M σ (wp_X7_drift L v) (wp_X8_drift v) := by
  obtain ⟨T, N, ⟨U, pu⟩, ⟨im, is, kp⟩, sv, fl, ⟨tn, tx⟩, ⟨kn, kw, ki⟩, ⟨bn, bo, bi⟩⟩ := σ
  obtain ⟨⟨hT, hRC⟩, ⟨hSW, hRS⟩, hCU, hCM, hsv, hfl, hCX, hCN, hCB, hLS⟩ := id hC
  have h7 := hT.2.1
  have h5 := hT.1
  have hLr : L = 109 ∨ L = 113 := by omega
  obtain ⟨s, hs, rfl⟩ : ∃ s : Nat, s < 2147483648 ∧ sv = nI s := nI_of (fun h => (fa_of_lt h).2.1 hsv.1)
  rcases p_refuse v hRC hT hRS with ⟨r, hr, hc, hm⟩ | ⟨n, hn1, hn, rfl, hg, hc, hm⟩
  · exact ⟨r, (T, N, (U, pu), (im, is, kp), nI s, fl, (tn, tx), (kn, kw, ki), (bn, bo, bi)), hc _ ⟨fun h => absurd h hr, fun _ => CK_s hC rfl⟩, fun M1 hM => hm M1 _ hM.1 hM.2.2.1 ⟨fun h => absurd h hr, fun _ => MK_s hM rfl⟩⟩
  have hsl := sds_lt (T := T) (N := N) hs
  have hsw := SW_ds (s := s) hT hSW hg
  refine ⟨(nDs T N s n).1 32, (T, (nDs T N s n).1, (nU U, npu U pu N), (im, is, kp), nI (nDs T N s n).2, fl, (tn, tx), (kn, kw, ki), (bn, bo, bi)), hc _ ⟨fun _ => c_remember hCU hRS hSW (fun M8 r8 hU => ⟨_, for_loop (fun f (M' : kg_M) i => wL_X7_drift_25 L _ _ f (nI n) i M') (fun i M' => (∀ k, (k < 3 ∨ 6 < k) → k ≠ 0 → M' k = M8 k) ∧ M' 0 12 = M8 0 12 ∧ M' 0 13 = nI (nDs T N s i).2 ∧ RS M' 3 (nDs T N s i).1) n M8 ⟨fun _ _ _ => rfl, rfl, by rw [r8 0 (by decide) (by omega)]; exact hsv.2, RS_of (r8 _ (by omega) (by omega)) (r8 _ (by omega) (by omega)) (r8 _ (by omega) (by omega)) (r8 _ (by omega) (by omega)) hRS⟩ (fun f M' h => ?_) (fun f i M' hi h ih => ?_)⟩), fun h => absurd rfl h⟩, fun M1 hM => hm M1 _ hM.1 hM.2.2.1 ⟨fun _ => m_remember hCU.1 hM.2.2.2.1 hM.2.2.1 (fun M8 r8 s8 hU => ⟨_, for_loop (fun f (M' : kg_M) i => wL_X8_drift_18 _ _ f (nI n) i M') (fun i M' => (∀ k, k ≠ 117 → k ≠ 120 → M' k = M8 k) ∧ (∀ j, j ≠ 5 → M' 117 j = M8 117 j) ∧ M' 117 5 = nI (nDs T N s i).2 ∧ RN M' (nDs T N s i).1) n M8 ⟨fun _ _ _ => rfl, fun _ _ => rfl, by rw [s8 5 (by decide)]; exact hM.2.2.2.2.2.1, RN_of hM.2.2.1 (r8 120 (by decide) (by decide))⟩ (fun f M' h => ?_) (fun f i M' hi h ih => ?_)⟩), fun h => absurd rfl h⟩⟩
  · rw [wL_X7_drift_25]
    refine ⟨fun _ => ⟨h.2.2.2.2.1, CI_st hC (M' := M') (sv' := nI (nDs T N s n).2) (fun k h1 h2 => by rw [h.1 k (by omega) h2, r8 k (by omega) (by omega)]) (by rw [h.2.1, r8 0 (by decide) (by omega)]) ⟨fa_of_nlt (nI_pos (hsl n)), h.2.2.1⟩ h.2.2.2 (hsw n) (CU_of hU (fun k h1 h2 => h.1 k (by omega) (by omega))), fun k hk => by rw [h.1 k (by omega) (by omega), r8 k (by omega) (by omega)]⟩, fun h => absurd (nI_le (Nat.le_refl _) (by omega)) h⟩
  · have hRC' : RC M' L T := RC_of (by rw [h.1 _ (by omega) (by omega), r8 _ (by omega) (by omega)]) (by rw [h.1 _ (by omega) (by omega), r8 _ (by omega) (by omega)]) (by rw [h.1 _ (by omega) (by omega), r8 _ (by omega) (by omega)]) (by rw [h.1 _ (by omega) (by omega), r8 _ (by omega) (by omega)]) hRC
    rw [wL_X7_drift_25, nI_1]
    refine ⟨fun h => absurd h (nI_ge hi (by omega)), fun _ => c_comeByDraw hLr hRC' hT h.2.2.2 (hsw i) hg h.2.2.1 (fun M2 r2 a2 b2 h2 => ?_)⟩
    have hRC2 : RC M2 L T := RC_of (r2 _ (by omega) (by omega)) (r2 _ (by omega) (by omega)) (r2 _ (by omega) (by omega)) (r2 _ (by omega) (by omega)) hRC'
    exact c_passHour hLr hRC2 hT h2 (SW_dr hT (hsw i) hg) (fun M3 r3 h3 => ih M3 ⟨fun k hk h0 => by rw [r3 k hk, r2 k h0 (by omega), h.1 k hk h0], by rw [r3 0 (by omega), a2, h.2.1], by rw [r3 0 (by omega), b2]; rfl, h3⟩)
  · rw [wL_X8_drift_18]
    refine ⟨fun _ => ⟨lit_in 32 55 (by decide) (by decide), by rw [lit_cl 32 (by decide)]; exact h.2.2.2 32 (by decide), MI_st hM (M' := M') (sv' := nI (nDs T N s n).2) (fun k h1 h2 h3 => by rw [h.1 k h1 h2, r8 k h1 h3]) (fun j hj h5 => by rw [h.2.1 j h5, s8 j hj]) h.2.2.1 h.2.2.2 (MU_of hU (h.2.1 20 (by decide)) (h.1 128 (by decide) (by decide))), fun k hk => by rw [h.1 k (by omega) (by omega), r8 k (by omega) (by omega)]⟩, fun h => absurd (nI_le (Nat.le_refl _) (by omega)) h⟩
  · have hR' : RT M' T := RT_of hM.1 (by rw [h.2.1 0 (by decide), s8 0 (by decide)]) (by rw [h.2.1 2 (by decide), s8 2 (by decide)]) (fun k hk => by rw [h.1 k (by omega) (by omega), r8 k (by omega) (by omega)])
    have hP' : RP M' := RP_of hM.2.1 (fun k hk => by rw [h.1 k (by omega) (by omega), r8 k (by omega) (by omega)])
    rw [wL_X8_drift_18, hR'.2.1]
    refine ⟨fun h => absurd h (nI_ge hi (by omega)), fun _ => ⟨fun h0 => ?_, fun h0 => ?_⟩⟩
    · have hz : tP T = 0 := by
        rcases Nat.eq_zero_or_pos (tP T) with q | q
        · exact q
        · rw [show (0 : Int32) = nI 0 from rfl] at h0; exact absurd h0 (nI_ge q (by omega))
      have e1 : nDr T (nDs T N s i).1 (nDs T N s i).2 = (nDs T N s i).1 := by unfold nDr; rw [if_pos hz]
      have e2 : sDr T (nDs T N s i).2 = (nDs T N s i).2 := by unfold sDr; rw [if_pos hz]
      unfold wJ_X8_drift_34
      rw [nI_1]
      refine m_pass hR' hP' hT h.2.2.2 (hsw i) (fun M3 r3 h3 => ih M3 ⟨fun k h1 h2 => by rw [r3 k h2, h.1 k h1 h2], fun j hj => by rw [r3 117 (by decide), h.2.1 j hj], ?_, ?_⟩)
      · rw [r3 117 (by decide), h.2.2.1, nDs, e2]
      · rw [nDs, e1]; exact h3
    · have hz : 0 < tP T := by
        rcases Nat.eq_zero_or_pos (tP T) with q | q
        · rw [q] at h0; exact absurd (by decide) h0
        · exact q
      refine m_chance hR' hT h.2.2.2 (hsw i) hz hg h.2.2.1 (hsl i) (fun M2 r2 s2 a2 h2 => ?_)
      unfold wJ_X8_drift_34
      rw [nI_1]
      have hR2 : RT M2 T := RT_of hR' (s2 0 (by decide)) (s2 2 (by decide)) (fun k hk => r2 k (by omega) (by omega))
      have hP2 : RP M2 := RP_of hP' (fun k hk => r2 k (by omega) (by omega))
      exact m_pass hR2 hP2 hT h2 (SW_dr hT (hsw i) hg) (fun M3 r3 h3 => ih M3 ⟨fun k h1 h2 => by rw [r3 k h2, r2 k h1 h2, h.1 k h1 h2], fun j hj => by rw [r3 117 (by decide), s2 j hj, h.2.1 j hj], by rw [r3 117 (by decide), a2]; rfl, h3⟩)
end P14
