section P2
variable {M : kg_M} {L S : Nat} {σ : kS}
theorem m_inL {K : Int32 → kg_M → Prop} {x : Int32} (lo hi : Int32) {a b : Int64} (ha : lo.toInt64 = a) (hb : hi.toInt64 = b) (ht : lo ≤ x → x ≤ hi → K 1 M) (hf : (x < lo ∨ hi < x) → K 0 M) : wp_X8_in x.toInt64 a b M K := by
  subst ha; subst hb
  exact m_inI ht hf
theorem p_feed (v : Int32) (hC : CI M L S σ) : Pair L S M σ (wp_X7_feed L v) (wp_X8_feed v) := by
  obtain ⟨T, N, ⟨U, pu⟩, ⟨im, is, kp⟩, sv, fl, ⟨tn, tx⟩, ⟨kn, kw, ki⟩, ⟨bn, bo, bi⟩⟩ := σ
  obtain ⟨⟨hT, hRC⟩, ⟨hSW, hRS⟩, hCU, hCM, hsv, hfl, hCX, hCN, hCB, hLS⟩ := id hC
  obtain ⟨h240, hl, htx⟩ := id hCX
  by_cases h0 : v < 0
  · exact ⟨-1000000002, _, ⟨fun _ => CK_s hC rfl, fun h => absurd h0 h⟩, fun M1 hM => m_inL 0 255 rfl rfl (fun h => absurd h (fa_of_lt h0).2.1) (fun _ => ⟨fun h => absurd rfl h, fun _ => MK_s hM rfl⟩)⟩
  by_cases h1 : v ≤ 255
  · by_cases h2 : tn = 240
    · subst h2
      refine ⟨-1000000004, (T, N, (U, pu), (im, is, kp), sv, fl, (240, tx), (kn, kw, ki), (bn, bo, bi)), ⟨fun h => absurd h h0, fun _ => ⟨fun _ => ⟨fun h => ?_, fun _ => CK_s hC rfl⟩, fun h => absurd h1 h⟩⟩, fun M1 hM => m_inL 0 255 rfl rfl (fun _ _ => ⟨fun _ => ⟨fun h => absurd hM.2.2.2.2.2.2.2.1.1 h, fun _ => MK_s hM rfl⟩, fun h => absurd h (by decide)⟩) (fun h => ?_)⟩
      · rw [hl] at h; exact absurd h (by decide)
      · rcases h with h | h
        · exact absurd h h0
        · exact absurd h1 (fa_of_lt h).2.1
    · have h3 : tn < 240 := by omega
      refine ⟨nI (tn + 1), (T, N, (U, pu), (im, is, kp), sv, fl, (tn + 1, upd tx tn v), (kn, kw, ki), (bn, bo, bi)), ⟨fun h => absurd h h0, fun _ => ⟨fun _ => ⟨fun h => ?_, fun h => absurd (by rw [hl]; exact nI_lt (b := 240) h3 (by decide)) h⟩, fun h => absurd h1 h⟩⟩, fun M1 hM => m_inL 0 255 rfl rfl (fun _ _ => ⟨fun _ => ⟨fun h => ?_, fun h => ?_⟩, fun h => absurd h (by decide)⟩) (fun h => ?_)⟩
      · unfold wp_X6_append
        rw [hl, cl_nI (by omega)]
        refine ⟨fun h => absurd h (nI_ge (b := 240) h3 (by decide)), fun _ => ⟨in_nI h3 (by decide), fun M7 e7 M10 e10 => ?_⟩⟩
        have r7 : ∀ k, k ≠ 2 → M7 k = M k := fun k hk => by rw [e7]; exact kg_row_ne M _ hk
        have r10 : ∀ k, k ≠ 1 → k ≠ 2 → M10 k = M k := fun k h1 h2 => by rw [e10, kg_row_ne M7 _ h1]; exact r7 k h2
        have e1 : M10 1 = upd (M 1) 1 (nI (tn + 1)) := by rw [e10, kg_row_eq, r7 1 (by decide), hl, nI_1]
        have e2 : M10 2 = upd (M 2) tn v := by rw [e10, kg_row_ne M7 _ (by decide), e7, kg_row_eq]
        refine ⟨by rw [e1]; rfl, ?_, fun k hk => r10 k (by omega) (by omega)⟩
        refine ⟨⟨hT, RCL_of hLS hRC (fun k h1 h2 => r10 k (by omega) (by omega))⟩, ⟨hSW, RS_of (r10 _ (by omega) (by omega)) (r10 _ (by omega) (by omega)) (r10 _ (by omega) (by omega)) (r10 _ (by omega) (by omega)) hRS⟩, CU_of hCU (fun k h1 h2 => r10 k (by omega) (by omega)), CM_of hCM (fun k h1 h2 => r10 k (by omega) (by omega)), by rw [r10 0 (by omega) (by omega)]; exact hsv, by rw [r10 0 (by omega) (by omega)]; exact hfl, ⟨by omega, by rw [e1]; rfl, fun i hi => ?_⟩, CN_of hCN (fun j _ => by rw [r10 89 (by omega) (by omega)]), CB_of hCB (by rw [r10 89 (by omega) (by omega)]) (fun k hk => r10 k (by omega) (by omega)), hLS⟩
        rw [e2]
        by_cases hi2 : i = tn
        · subst hi2; rw [pk_us, pk_us]; exact ⟨rfl, fa_of_nlt h0⟩
        · rw [pk_un hi2, pk_un hi2]; exact htx i (by omega)
      · have hx := hM.2.2.2.2.2.2.2.1
        rw [hx.1, cl_nI (by omega)]
        refine ⟨in_nI h3 (by decide), fun M13 e13 M16 e16 => ?_⟩
        have r13 : ∀ k, k ≠ 123 → M13 k = M1 k := fun k hk => by rw [e13]; exact kg_row_ne M1 _ hk
        have r16 : ∀ k, k ≠ 117 → k ≠ 123 → M16 k = M1 k := fun k h1 h2 => by rw [e16, kg_row_ne M13 _ h1]; exact r13 k h2
        have e1 : M16 117 = upd (M1 117) 9 (nI (tn + 1)) := by rw [e16, kg_row_eq, r13 117 (by decide), hx.1, nI_1]
        have e2 : M16 123 = upd (M1 123) tn v := by rw [e16, kg_row_ne M13 _ (by decide), e13, kg_row_eq]
        have s1 : ∀ j, j ≠ 9 → M16 117 j = M1 117 j := fun j hj => by rw [e1]; simp [upd, hj]
        obtain ⟨a1, a2, a3, a4, a5, a6, a7, a8, a9, a10⟩ := hM
        refine ⟨by rw [e1]; rfl, ⟨RT_of a1 (s1 0 (by decide)) (s1 2 (by decide)) (fun k hk => r16 k (by omega) (by omega)), RP_of a2 (fun k hk => r16 k (by omega) (by omega)), RN_of a3 (r16 120 (by decide) (by decide)), MU_of a4 (s1 20 (by decide)) (r16 128 (by decide) (by decide)), MM_of a5 (fun k hk => r16 k (by omega) (by omega)), (s1 5 (by decide)).trans a6, (s1 10 (by decide)).trans a7, ⟨by rw [e1]; rfl, fun i hi => ?_⟩, MN_of a9 (s1 32 (by decide)) (fun k hk => r16 k (by omega) (by omega)), MB_of a10 (s1 35 (by decide)) (fun k hk => r16 k (by omega) (by omega))⟩, fun k hk => r16 k (by omega) (by omega)⟩
        rw [e2]
        by_cases hi2 : i = tn
        · subst hi2; simp [upd]
        · simp [upd, hi2]; exact a8.2 i (by omega)
      · rw [hM.2.2.2.2.2.2.2.1.1] at h
        exact absurd (nI_inj (b := 240) (by omega) (by decide) h) h2
      · rcases h with h | h
        · exact absurd h h0
        · exact absurd h1 (fa_of_lt h).2.1
  · exact ⟨-1000000002, _, ⟨fun h => absurd h h0, fun _ => ⟨fun h => absurd h h1, fun _ => CK_s hC rfl⟩⟩, fun M1 hM => m_inL 0 255 rfl rfl (fun _ h => absurd h h1) (fun _ => ⟨fun h => absurd rfl h, fun _ => MK_s hM rfl⟩)⟩
/-! dry -/
def dv (q : Int32) : Nat → Int64
  | 0 => 1000000000
  | i + 1 => (dv q i * ((100 : Int32) - q).toInt64) / (100 : Int64)
theorem p_dry (v w : Int32) (hC : CI M L S σ) : Pair L S M σ (wp_X7_dry L v w) (wp_X8_dry v w) := by
  have out : ∀ {x : Int32}, x < 0 → ¬ 0 ≤ x := fun h => (fa_of_lt h).2.1
  by_cases h0 : v < 0
  · exact ⟨-1000000002, σ, ⟨fun _ => CK_s hC rfl, fun h => absurd h0 h⟩, fun M1 hM => m_inL 0 60 rfl rfl (fun h => absurd h (out h0)) (fun _ => ⟨fun _ => MK_s hM rfl, fun h => absurd rfl h⟩)⟩
  by_cases h1 : (60 : Int32) < v
  · exact ⟨-1000000002, σ, ⟨fun h => absurd h h0, fun _ => ⟨fun _ => CK_s hC rfl, fun h => absurd h1 h⟩⟩, fun M1 hM => m_inL 0 60 rfl rfl (fun _ h => absurd h (fa_of_lt h1).2.1) (fun _ => ⟨fun _ => MK_s hM rfl, fun h => absurd rfl h⟩)⟩
  have hm : ∀ {M1 : kg_M} {K : Int32 → kg_M → Prop}, K 1 M1 → wp_X8_in v.toInt64 0 60 M1 K := fun hK => m_inL 0 60 rfl rfl (fun _ _ => hK) (fun h => absurd h (fun h => h.elim h0 h1))
  by_cases h2 : w < 0
  · exact ⟨-1000000002, σ, ⟨fun h => absurd h h0, fun _ => ⟨fun h => absurd h h1, fun _ => ⟨fun _ => CK_s hC rfl, fun h => absurd h2 h⟩⟩⟩, fun M1 hM => hm ⟨fun h => absurd h (by decide), fun _ => m_inL 0 100 rfl rfl (fun h => absurd h (out h2)) (fun _ => ⟨fun h => absurd rfl h, fun _ => MK_s hM rfl⟩)⟩⟩
  by_cases h3 : w ≤ 100
  · obtain ⟨n, hn, rfl⟩ : ∃ n : Nat, n ≤ 60 ∧ v = nI n := nI_of2 (M := 60) rfl h0 (fa_of_nlt h1)
    refine ⟨(dv w n).toInt32, σ, ⟨fun h => absurd h h0, fun _ => ⟨fun h => absurd h h1, fun _ => ⟨fun h => absurd h h2, fun _ => ⟨fun _ => ⟨_, for_loop (fun f s i => wL_X7_dry_30 L _ _ f (nI n) w s i M) (fun k s => s = dv w k) n _ rfl (fun f s h => ?_) (fun f k s hk h ih => ?_)⟩, fun h => absurd h3 h⟩⟩⟩⟩, fun M1 hM => hm ⟨fun h => absurd h (by decide), fun _ => m_inL 0 100 rfl rfl (fun _ _ => ⟨fun _ => ⟨_, for_loop (fun f s i => wL_X8_dry_34 _ _ f (nI n) w s i M1) (fun k s => s = dv w k) n _ rfl (fun f s h => ?_) (fun f k s hk h ih => ?_)⟩, fun h => absurd h (by decide)⟩) (fun h => ?_)⟩⟩
    · rw [wL_X7_dry_30, h]
      exact ⟨fun _ => CK_s hC rfl, fun h => absurd (nI_le (Nat.le_refl _) (by omega)) h⟩
    · rw [wL_X7_dry_30, nI_1]
      exact ⟨fun h => absurd h (nI_ge hk (by omega)), fun _ => ih _ (by rw [h]; rfl)⟩
    · rw [wL_X8_dry_34, h]
      exact ⟨fun _ => MK_s hM rfl, fun h => absurd (nI_le (Nat.le_refl _) (by omega)) h⟩
    · rw [wL_X8_dry_34, nI_1]
      exact ⟨fun h => absurd h (nI_ge hk (by omega)), fun _ => ih _ (by rw [h]; rfl)⟩
    · rcases h with h | h
      · exact absurd h h2
      · exact absurd h3 (fa_of_lt h).2.1
  · exact ⟨-1000000002, σ, ⟨fun h => absurd h h0, fun _ => ⟨fun h => absurd h h1, fun _ => ⟨fun h => absurd h h2, fun _ => ⟨fun h => absurd h h3, fun _ => CK_s hC rfl⟩⟩⟩⟩, fun M1 hM => hm ⟨fun h => absurd h (by decide), fun _ => m_inL 0 100 rfl rfl (fun _ h => absurd h h3) (fun _ => ⟨fun h => absurd rfl h, fun _ => MK_s hM rfl⟩)⟩⟩
/-! evening -/
theorem p_evening (v : Int32) (hC : CI M L S σ) : Pair L S M σ (wp_X7_evening L v) (wp_X8_evening v) := by
  obtain ⟨T, N, ⟨U, pu⟩, ⟨im, is, kp⟩, sv, fl, ⟨tn, tx⟩, ⟨kn, kw, ki⟩, ⟨bn, bo, bi⟩⟩ := σ
  obtain ⟨⟨hT, hRC⟩, ⟨hSW, hRS⟩, hCU, hCM, hsv, hfl, hCX, hCN, hCB, hLS⟩ := id hC
  have h7 := hT.2.1
  have h5 := hT.1
  rcases ix_cases v (tP T) (by omega) with hv | ⟨p, hp, rfl⟩
  · exact ⟨-1000000001, _, c_hasPerson_f hRC hv ⟨fun h => absurd rfl h, fun _ => CK_s hC rfl⟩, fun M1 hM => m_isPerson_f hM.1 hT hv ⟨fun h => absurd rfl h, fun _ => MK_s hM rfl⟩⟩
  have ec : M 4 (nI p).toNatClampNeg = N (7 + p) := by rw [cl_nI (by omega)]; exact hRS.2.2.2.2.2.2.1 p (by omega)
  have em : ∀ M1, RN M1 N → M1 120 ((7 : Int32) + nI p).toNatClampNeg = N (7 + p) := fun M1 hN => by rw [show (7 : Int32) = nI 7 from rfl, cl_add (by omega)]; exact hN _ (by omega)
  have ei : vp_in ((7 : Int32) + nI p) 55 := in_add (a := 7) (by omega) (by decide)
  by_cases hw : N (7 + p) = -1
  · refine ⟨-1000000003, (T, N, (U, pu), (im, is, kp), sv, fl, (tn, tx), (kn, kw, ki), (bn, bo, bi)), c_hasPerson_t hRC hT hp ⟨fun _ => ⟨in_nI (by omega) (by decide), fun h => absurd (ec.trans hw) h, fun _ => CK_s hC rfl⟩, fun h => absurd h (by decide)⟩, fun M1 hM => m_isPerson_t hM.1 hT hp ⟨fun _ => ⟨ei, fun h => ?_, fun _ => MK_s hM rfl⟩, fun h => absurd h (by decide)⟩⟩
    rw [em M1 hM.2.2.1, hw] at h
    exact absurd h (by decide)
  · have hcut : bs (fun q => N (7 + q) == N (7 + p)) (tP T) = bs (fun q => N (7 + q) == N (7 + p)) 7 := (bs_cut h7 (fun q h1 h2 => by rw [hSW.2.2.2.1 q h1 h2]; exact beq_eq_false_iff_ne.mpr (fun e => hw e.symm))).symm
    have hwc : bs (wd T N p) (tP T) = bs (wd T N p) 7 := (bs_cut h7 (fun q h1 h2 => by unfold wd; rw [fo_out hT (by omega)]; rfl)).symm
    have hval : (if (0 : Int32) < (10 : Int32) - nI (ct (fun q => wd T N p q && (N (7 + q) == N (7 + p))) 7) then (10 : Int32) - nI (ct (fun q => wd T N p q && (N (7 + q) == N (7 + p))) 7) else 0) = (10 : Int32) - nI (ct (fun q => wd T N p q && (N (7 + q) == N (7 + p))) 7) := by
      have hc := ct_le (fun q => wd T N p q && (N (7 + q) == N (7 + p))) 7
      rw [show (10 : Int32) = nI 10 from rfl, pk_sub (by omega), if_pos]
      exact nI_lt (a := 0) (by omega) (by omega)
    refine ⟨(10 : Int32) - nI (ct (fun q => wd T N p q && (N (7 + q) == N (7 + p))) 7), (T, N, (U, pu), (im, is, kp), sv, fl, (tn, tx), (kn, kw, ki), (bn, bo, bi)), c_hasPerson_t hRC hT hp ⟨fun _ => ⟨in_nI (by omega) (by decide), fun _ => ?_, fun h => absurd (ec.symm.trans h) hw⟩, fun h => absurd h (by decide)⟩, fun M1 hM => m_isPerson_t hM.1 hT hp ⟨fun _ => ⟨ei, fun _ => ?_, fun h => ?_⟩, fun h => absurd h (by decide)⟩⟩
    · rw [hRS.2.2.2.1, ec]
      refine c_wouldMeet hRC (by omega) (c_waitingAt hRC hT hRS ?_)
      rw [hcut, bs_and]
      exact j_bits (by decide) (CK_s hC hval)
    · refine m_whomWould hM.1 hT hM.2.2.1 hSW (by omega) ?_
      rw [em M1 hM.2.2.1]
      refine ⟨ei, m_waitingAt hM.1 hT hM.2.2.1 ?_⟩
      rw [hcut, hwc, bs_and]
      exact m_bitsB (by decide) (MK_s hM rfl)
    · rw [em M1 hM.2.2.1] at h
      have h2 : N (7 + p) < 0 := fa_of_nle h
      exact absurd ((wt_neg hT hSW (by omega)).mp h2) hw
end P2
