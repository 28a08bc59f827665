/-! ===== the law, from its entry to its end ===== -/
theorem m3_lt {L i : Nat} (hL : L ≤ 192) (hi : i ≤ 400) : (nI L - 3) < nI i ↔ L < i + 3 := by
  have h1 : (nI L - 3).toInt = (L : Int) - 3 := by
    rw [Int32.toInt_sub, nI_toInt (by omega), show (3 : Int32).toInt = 3 from rfl]
    exact b32 (by omega) (by omega)
  rw [fa_lt, h1, nI_toInt (by omega)]
  omega
set_option maxRecDepth 100000 in
set_option maxHeartbeats 4000000 in
theorem law_loop {G : kg_G} {b L : Nat} {xs : Nat → Int32} (hL : L ≤ 192) : ∀ d i (M : kg_M) (R : kg_R) (l0 s0 : Nat) (σ : kS), L < i + d → i ≤ 195 → kg_LI M R l0 s0 σ → kg_Run G (kg_EX G b L xs) qL_law 20 18 [(3, .int (nI i)), (2, .ref (kg_b G + 117)), (1, .ref (kg_b G + 0)), (0, .ref b)] [] M R 142 0 0 (fun r _ _ _ => r = some 1) := by
  intro d
  induction d with
  | zero =>
    intro i M R l0 s0 σ hd hi hI
    refine kr_iload_n 0 dL_law_18 rfl (k := ?_)
    refine kr_aload_n 3 dL_law_19 rfl (k := ?_)
    refine kr_slen (fun _ _ h => h) dL_law_20 (k := ?_)
    refine kr_iconst (3 : Int32) dL_law_21 (k := ?_)
    refine kr_isub dL_law_22 (k := ?_)
    refine kr_icmp_gt 978 dL_law_23 (fun _ => ?_) (fun c => absurd ((m3_lt hL (by omega)).mpr (by omega)) c)
    refine kr_iconst (1 : Int32) dL_law_978 (k := ?_)
    exact kr_ireturn dL_law_979 rfl
  | succ d ih =>
    intro i M R l0 s0 σ hd hi hI
    refine kr_iload_n 0 dL_law_18 rfl (k := ?_)
    refine kr_aload_n 3 dL_law_19 rfl (k := ?_)
    refine kr_slen (fun _ _ h => h) dL_law_20 (k := ?_)
    refine kr_iconst (3 : Int32) dL_law_21 (k := ?_)
    refine kr_isub dL_law_22 (k := ?_)
    refine kr_icmp_gt 978 dL_law_23 (fun _ => ?_) (fun c => ?_)
    · refine kr_iconst (1 : Int32) dL_law_978 (k := ?_)
      exact kr_ireturn dL_law_979 rfl
    · have hi3 : i + 3 ≤ L := by
        rcases Nat.lt_or_ge L (i + 3) with q | q
        · exact absurd ((m3_lt hL (by omega)).mpr q) c
        · exact q
      refine kr_aload_n 3 dL_law_26 rfl (k := ?_)
      refine kr_iload_n 0 dL_law_27 rfl (k := ?_)
      refine kr_sld (fun _ _ h => h) (in_nI (by omega) (by omega)) dL_law_28 (k := ?_)
      refine kr_bipush (63 : Int32) dL_law_29 (k := ?_)
      refine kr_iand dL_law_31 (k := ?_)
      refine lc_all hL hi3 hI (fun M' R' l' s' σ' hI' => ?_) _
      refine kr_iinc (3 : Int32) 0 [(3, .int (nI i + 3)), (2, .ref (kg_b G + 117)), (1, .ref (kg_b G + 0)), (0, .ref b)] dL_law_972 rfl (k := ?_)
      refine kr_goto 18 dL_law_975 ?_
      rw [show nI i + (3 : Int32) = nI (i + 3) from nI_add i 3]
      exact ih (i + 3) M' R' l' s' σ' (by omega) (by omega) hI'
theorem kg_O7_m {R R' : kg_R} {n n' : Nat} (h : kg_O7 R n 109 113) (e : ∀ k, k < 117 → R' k = R k) (hn : n ≤ n') : kg_O7 R' n' 109 113 := by
  obtain ⟨h0, h1, h2, h3, h4, h5, h6, h7, h8, h9, h10, h11, h12, h13, h14, h15, h16, h17, h18, h19, h20, h21, h22⟩ := h
  have e0 := e 0 (by decide)
  refine ⟨by omega, by rw [e0]; exact h1, by rw [e0]; exact h2, by rw [e0]; exact h3, by rw [e0]; exact h4, by rw [e0]; exact h5, by rw [e0]; exact h6, by rw [e0]; exact h7, by rw [e0]; exact h8, by rw [e0]; exact h9, by rw [e0]; exact h10, by rw [e0]; exact h11, by rw [e0]; exact h12, kg_O6_n (kg_O6_r h13 (e _ (by decide))) hn, kg_O5_n (kg_O5_r h14 (e _ (by decide))) hn, kg_O4_m h15 (fun k _ hk => e k (by omega)) hn, kg_O2_n (kg_O2_r h16 (e _ (by decide))) hn, kg_O3_n (kg_O3_r h17 (e _ (by decide))) hn, kg_O1_n (kg_O1_r h18 (e _ (by decide))) hn, kg_O0_n (kg_O0_r h19 (e _ (by decide))) hn, kg_O0_n (kg_O0_r h20 (e _ (by decide))) hn, fun i hi => ⟨by rw [e 97 (by decide)]; exact (h21 i hi).1, kg_O5_n (kg_O5_r (h21 i hi).2 (e _ (by omega))) hn⟩, h22⟩
set_option maxRecDepth 100000 in
set_option maxHeartbeats 4000000 in
theorem law_run {G : kg_G} {b L : Nat} {xs : Nat → Int32} (hL : L ≤ 192) : kg_Run G (kg_EX G b L xs) qL_law 20 0 [(0, .ref b)] [] (fun _ _ => 0) (fun _ _ => none) 0 142 24885 (fun r _ _ _ => r = some 1) := by
  refine kg_Run.cost (kc := 0 + 24 + 1 + 116 + 1) (ks := 0 + 23284 + 40 + 1547 + 14) ?_ (by decide) (by decide)
  refine kn_new ckX7 lkK_L_7 sh_0 (by decide) dL_law_0 (fun M1 R1 em1 er1 => ?_)
  refine kr_dup dL_law_3 rfl (k := ?_)
  refine kr_callI [] [.ref (kg_b G + 0)] miX7_init lkM_L_9 dL_law_4 ⟨fun x M R n h2 => absurd h2.1 (fun h => nomatch h), fun M R n _ => rfl⟩ (si_X7 (fun k hk j => by rw [em1, show k = 0 by omega, kg_row_eq])) (fun r M2 R2 n2 hp => ?_) (hav := Nat.le_of_ble_eq_true rfl) (hrest := Nat.le_of_ble_eq_true rfl)
  obtain ⟨er0, en0, h7, hC⟩ := hp
  subst er0 en0
  refine kr_astore_n [(1, .ref (kg_b G + 0)), (0, .ref b)] dL_law_7 (k := ?_)
  refine kn_new ckX8 lkK_L_10 sh_117 (by decide) dL_law_8 (fun M3 R3 em3 er3 => ?_)
  refine kr_dup dL_law_11 rfl (k := ?_)
  refine kr_callI [] [.ref (kg_b G + 117)] miX8_init lkM_L_12 dL_law_12 (kg_rtN rfl) (si_X8 (fun j => by rw [em3, kg_row_eq])) (fun r M4 R4 n4 hp => ?_) (hav := Nat.le_of_ble_eq_true rfl) (hrest := Nat.le_of_ble_eq_true rfl)
  obtain ⟨er0, en0, p1, h8, hM⟩ := hp
  subst er0 en0
  refine kr_astore_n [(2, .ref (kg_b G + 117)), (1, .ref (kg_b G + 0)), (0, .ref b)] dL_law_15 (k := ?_)
  refine kr_iconst (0 : Int32) dL_law_16 (k := ?_)
  refine kr_istore_n [(3, .int 0), (2, .ref (kg_b G + 117)), (1, .ref (kg_b G + 0)), (0, .ref b)] dL_law_17 (k := ?_)
  exact law_loop hL (L + 1) 0 M4 R4 109 113 sig0 (by omega) (by omega) ⟨kg_O7_m h7 (fun k hk => by rw [(p1 k hk).2, er3, kg_rrow_ne _ _ (by omega)]) (by decide), h8, CI_of hC (fun k hk => by have := scr_no hk; rw [(p1 k this).1, em3, kg_row_ne _ _ (by omega)]), hM⟩
