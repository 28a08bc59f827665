set_option maxRecDepth 100000 in
set_option maxHeartbeats 4000000 in
theorem sL_X7_dry_30 {G : kg_G} {E : State → Array Value → Prop} {R : kg_R} {n : Nat} {L S : Nat} {K : Int32 → kg_M → Prop} (hk : kg_O7 R n L S) {Kx54 : Int64 → kg_M → Prop} (hKx54 : ∀ (v3 : Int64) (M : kg_M), Kx54 v3 M → kg_Run G E qX7_dry 0 54 [(3, .long v3)] [] M R n 0 0 (kg_I R n K)) : ∀ (f : Nat) (v1 : Int32) (v2 : Int32) (v3 : Int64) (v5 : Int32) (M : kg_M), wL_X7_dry_30 L Kx54 K f v1 v2 v3 v5 M → kg_Run G E qX7_dry 0 30 [(1, .int v1), (2, .int v2), (3, .long v3), (5, .int v5)] [] M R n 0 0 (kg_I R n K) := by
  intro f
  induction f with
  | zero => intro v1 v2 v3 v5 M h0; exact h0.elim
  | succ f ih =>
    intro v1 v2 v3 v5 M h14
    rw [wL_X7_dry_30] at h14
    refine kr_iload 3 dX7_dry_30 rfl (k := ?_)
    refine kr_iload_n 0 dX7_dry_32 rfl (k := ?_)
    refine kr_icmp_ge 54 dX7_dry_33 (fun c15 => ?_) (fun c15 => ?_)
    · have h16 := h14.1 c15
      refine kr_sub [2] [(3, .long v3)] rfl ?_
      exact hKx54 v3 M h16
    · have h17 := h14.2 c15
      refine kr_lload_n 2 dX7_dry_36 rfl (k := ?_)
      refine kr_bipush (100 : Int32) dX7_dry_37 (k := ?_)
      refine kr_iload_n 1 dX7_dry_39 rfl (k := ?_)
      refine kr_isub dX7_dry_40 (k := ?_)
      refine kr_i2l dX7_dry_41 (k := ?_)
      refine kr_lmul dX7_dry_42 (k := ?_)
      refine kr_ldc2 dX7_dry_43 lkD_X7_255 (k := ?_)
      refine kr_ldiv dX7_dry_46 (by decide) (k := ?_)
      refine kr_lstore_n [(3, .long ((v3 * (((100 : Int32) - v2).toInt64)) / (100 : Int64))), (1, .int v1), (2, .int v2), (5, .int v5)] dX7_dry_47 (k := ?_)
      refine kr_iinc (1 : Int32) 3 [(5, .int (v5 + (1 : Int32))), (3, .long ((v3 * (((100 : Int32) - v2).toInt64)) / (100 : Int64))), (1, .int v1), (2, .int v2)] dX7_dry_48 rfl (k := ?_)
      refine kr_goto 30 dX7_dry_51 ?_
      refine kr_sub [2, 3, 1, 0] [(1, .int v1), (2, .int v2), (3, .long ((v3 * (((100 : Int32) - v2).toInt64)) / (100 : Int64))), (5, .int (v5 + (1 : Int32)))] rfl ?_
      exact ih v1 v2 ((v3 * (((100 : Int32) - v2).toInt64)) / (100 : Int64)) (v5 + (1 : Int32)) M h17
set_option maxRecDepth 100000 in
set_option maxHeartbeats 4000000 in
theorem sp_X7_dry {G : kg_G} {E : State → Array Value → Prop} {R : kg_R} {n : Nat} {L S : Nat} {K : Int32 → kg_M → Prop} (hk : kg_O7 R n L S) {v1 : Int32} {v2 : Int32} {M : kg_M} (h1 : wp_X7_dry L v1 v2 M K) : kg_Run G E qX7_dry 0 0 [(0, .ref (kg_b G + 0)), (1, .int v1), (2, .int v2)] [] M R n 0 0 (kg_I R n K) := by
  unfold wp_X7_dry at h1
  refine kr_iload_n 1 dX7_dry_0 rfl (k := ?_)
  refine kr_if_lt 20 dX7_dry_1 (fun c2 => ?_) (fun c2 => ?_)
  · have h3 := h1.1 c2
    refine kr_ldc dX7_dry_20 lkC_X7_90 (k := ?_)
    exact kr_ireturn dX7_dry_22 ⟨rfl, rfl, _, rfl, h3⟩
  · have h4 := h1.2 c2
    refine kr_iload_n 1 dX7_dry_4 rfl (k := ?_)
    refine kr_bipush (60 : Int32) dX7_dry_5 (k := ?_)
    refine kr_icmp_gt 20 dX7_dry_7 (fun c5 => ?_) (fun c5 => ?_)
    · have h6 := h4.1 c5
      refine kr_ldc dX7_dry_20 lkC_X7_90 (k := ?_)
      exact kr_ireturn dX7_dry_22 ⟨rfl, rfl, _, rfl, h6⟩
    · have h7 := h4.2 c5
      refine kr_iload_n 2 dX7_dry_10 rfl (k := ?_)
      refine kr_if_lt 20 dX7_dry_11 (fun c8 => ?_) (fun c8 => ?_)
      · have h9 := h7.1 c8
        refine kr_ldc dX7_dry_20 lkC_X7_90 (k := ?_)
        exact kr_ireturn dX7_dry_22 ⟨rfl, rfl, _, rfl, h9⟩
      · have h10 := h7.2 c8
        refine kr_iload_n 2 dX7_dry_14 rfl (k := ?_)
        refine kr_bipush (100 : Int32) dX7_dry_15 (k := ?_)
        refine kr_icmp_le 23 dX7_dry_17 (fun c11 => ?_) (fun c11 => ?_)
        · have h12 := h10.1 c11
          refine kr_ldc2 dX7_dry_23 lkD_X7_253 (k := ?_)
          refine kr_lstore_n [(3, .long (1000000000 : Int64)), (0, .ref (kg_b G + 0)), (1, .int v1), (2, .int v2)] dX7_dry_26 (k := ?_)
          refine kr_iconst (0 : Int32) dX7_dry_27 (k := ?_)
          refine kr_istore [(5, .int (0 : Int32)), (3, .long (1000000000 : Int64)), (0, .ref (kg_b G + 0)), (1, .int v1), (2, .int v2)] dX7_dry_28 (k := ?_)
          refine kr_sub [3, 4, 1, 0] [(1, .int v1), (2, .int v2), (3, .long (1000000000 : Int64)), (5, .int (0 : Int32))] rfl ?_
          obtain ⟨f19, h20⟩ := h12
          refine sL_X7_dry_30 hk ?_ f19 v1 v2 (1000000000 : Int64) (0 : Int32) M h20
          · intro v3 M h18
            refine kr_lload_n 0 dX7_dry_54 rfl (k := ?_)
            refine kr_l2i dX7_dry_55 (k := ?_)
            exact kr_ireturn dX7_dry_56 ⟨rfl, rfl, _, rfl, h18⟩
        · have h13 := h10.2 c11
          refine kr_ldc dX7_dry_20 lkC_X7_90 (k := ?_)
          exact kr_ireturn dX7_dry_22 ⟨rfl, rfl, _, rfl, h13⟩
set_option maxRecDepth 100000 in
set_option maxHeartbeats 4000000 in
theorem sp_X7_evening {G : kg_G} {E : State → Array Value → Prop} {R : kg_R} {n : Nat} {L S : Nat} {K : Int32 → kg_M → Prop} (hk : kg_O7 R n L S) {v1 : Int32} {M : kg_M} (h1 : wp_X7_evening L v1 M K) : kg_Run G E qX7_evening 1 0 [(0, .ref (kg_b G + 0)), (1, .int v1)] [] M R n 0 0 (kg_I R n K) := by
  unfold wp_X7_evening at h1
  refine kr_aload_n 0 dX7_evening_0 rfl (k := ?_)
  refine kr_getR 10 ckX7 lkF_X7_69 rfl (kg_o7a hk) (kg_o7n hk) (kg_o7r10 hk) dX7_evening_1 (k := ?_)
  refine kr_iload_n 1 dX7_evening_4 rfl (k := ?_)
  refine kn_callVz [.int v1] [] mvX0_hasPerson lkM_X7_168 (kg_o0a (kg_o7_land hk)) rfl (kg_o0n (kg_o7_land hk)) dX7_evening_5 (sp_X0_hasPerson (kg_o7_land hk) h1) (fun r4 M2 _ h3 => ?_)
  refine kr_if_ne 14 dX7_evening_8 (fun c5 => ?_) (fun c5 => ?_)
  · have h6 := h3.1 c5
    refine kr_aload_n 0 dX7_evening_14 rfl (k := ?_)
    refine kr_getR 1 ckX7 lkF_X7_19 rfl (kg_o7a hk) (kg_o7n hk) (kg_o7r1 hk) dX7_evening_15 (k := ?_)
    refine kr_getR 6 ckX5 lkF_X7_171 rfl (kg_o5a (kg_o7_state hk)) (kg_o5n (kg_o7_state hk)) (kg_o5r6 (kg_o7_state hk)) dX7_evening_18 (k := ?_)
    refine kr_iload_n 1 dX7_evening_21 rfl (k := ?_)
    obtain ⟨h8, h9⟩ := h6
    refine kr_iald (kg_o5s6 (kg_o7_state hk)) (kg_o5m6 (kg_o7_state hk)) h8 dX7_evening_22 (k := ?_)
    refine kr_istore_n [(2, .int (M2 4 v1.toNatClampNeg)), (0, .ref (kg_b G + 0)), (1, .int v1)] dX7_evening_23 (k := ?_)
    refine kr_iload_n 0 dX7_evening_24 rfl (k := ?_)
    refine kr_iconst (-1 : Int32) dX7_evening_25 (k := ?_)
    refine kr_icmp_ne 32 dX7_evening_26 (fun c10 => ?_) (fun c10 => ?_)
    · have h11 := h9.1 c10
      refine kr_aload_n 1 dX7_evening_32 rfl (k := ?_)
      refine kr_getR 10 ckX7 lkF_X7_69 rfl (kg_o7a hk) (kg_o7n hk) (kg_o7r10 hk) dX7_evening_33 (k := ?_)
      refine kr_iload_n 2 dX7_evening_36 rfl (k := ?_)
      refine kr_aload_n 1 dX7_evening_37 rfl (k := ?_)
      refine kr_getR 1 ckX7 lkF_X7_19 rfl (kg_o7a hk) (kg_o7n hk) (kg_o7r1 hk) dX7_evening_38 (k := ?_)
      refine kr_getI 3 ckX5 lkF_X7_125 rfl (kg_o5a (kg_o7_state hk)) (kg_o5n (kg_o7_state hk)) dX7_evening_41 (k := ?_)
      refine kn_callVi [.int v1, .int (M2 3 3)] [] mvX0_wouldMeet lkM_X7_174 (kg_o0a (kg_o7_land hk)) rfl (kg_o0n (kg_o7_land hk)) dX7_evening_44 (sp_X0_wouldMeet (kg_o7_land hk) h11) (fun r15 M13 h14 => ?_)
      refine kr_aload_n 1 dX7_evening_47 rfl (k := ?_)
      refine kr_getR 1 ckX7 lkF_X7_19 rfl (kg_o7a hk) (kg_o7n hk) (kg_o7r1 hk) dX7_evening_48 (k := ?_)
      refine kr_aload_n 1 dX7_evening_51 rfl (k := ?_)
      refine kr_getR 10 ckX7 lkF_X7_69 rfl (kg_o7a hk) (kg_o7n hk) (kg_o7r10 hk) dX7_evening_52 (k := ?_)
      refine kr_iload_n 0 dX7_evening_55 rfl (k := ?_)
      refine kn_callVi [.ref (kg_b G + L), .int (M2 4 v1.toNatClampNeg)] [.int r15] mvX5_waitingAt lkM_X7_164 (kg_o5a (kg_o7_state hk)) rfl (kg_o5n (kg_o7_state hk)) dX7_evening_56 (sp_X5_waitingAt (kg_o7_state hk) (kg_o7_land hk) h14) (fun r18 M16 h17 => ?_)
      refine kr_iand dX7_evening_59 (k := ?_)
      refine kr_istore_n [(3, .int (r15 &&& r18)), (2, .int (M2 4 v1.toNatClampNeg)), (0, .ref (kg_b G + 0)), (1, .int v1)] dX7_evening_60 (k := ?_)
      refine kr_iconst (0 : Int32) dX7_evening_61 (k := ?_)
      refine kr_bipush (10 : Int32) dX7_evening_62 (k := ?_)
      refine kr_iload_n 0 dX7_evening_64 rfl (k := ?_)
      refine kn_callSi [.int (r15 &&& r18)] [.int (10 : Int32), .int (0 : Int32)] msJ6_bitCount_0f7a4 lkM_X7_243 dX7_evening_65 (sp_J6_bitCount_0f7a4  h17) (fun r21 M19 h20 => ?_)
      refine kr_isub dX7_evening_68 (k := ?_)
      refine kr_mmax lkM_X7_248 (Nat.le_of_ble_eq_true rfl) dX7_evening_69 (k := ?_)
      exact kr_ireturn dX7_evening_72 ⟨rfl, rfl, _, rfl, h20⟩
    · have h12 := h9.2 c10
      refine kr_ldc dX7_evening_29 lkC_X7_194 (k := ?_)
      exact kr_ireturn dX7_evening_31 ⟨rfl, rfl, _, rfl, h12⟩
  · have h7 := h3.2 c5
    refine kr_ldc dX7_evening_11 lkC_X7_153 (k := ?_)
    exact kr_ireturn dX7_evening_13 ⟨rfl, rfl, _, rfl, h7⟩
set_option maxRecDepth 100000 in
set_option maxHeartbeats 4000000 in
theorem sp_X7_fault {G : kg_G} {E : State → Array Value → Prop} {R : kg_R} {n : Nat} {L S : Nat} {K : Int32 → kg_M → Prop} (hk : kg_O7 R n L S) {M : kg_M} (h1 : wp_X7_fault L M K) : kg_Run G E qX7_fault 0 0 [(0, .ref (kg_b G + 0))] [] M R n 0 0 (kg_I R n K) := by
  unfold wp_X7_fault at h1
  refine kr_aload_n 0 dX7_fault_0 rfl (k := ?_)
  refine kr_getI 12 ckX7 lkF_X7_83 rfl (kg_o7a hk) (kg_o7n hk) dX7_fault_1 (k := ?_)
  exact kr_ireturn dX7_fault_4 ⟨rfl, rfl, _, rfl, h1⟩
set_option maxRecDepth 100000 in
set_option maxHeartbeats 4000000 in
theorem sp_X7_feed {G : kg_G} {E : State → Array Value → Prop} {R : kg_R} {n : Nat} {L S : Nat} {K : Int32 → kg_M → Prop} (hk : kg_O7 R n L S) {v1 : Int32} {M : kg_M} (h1 : wp_X7_feed L v1 M K) : kg_Run G E qX7_feed 1 0 [(0, .ref (kg_b G + 0)), (1, .int v1)] [] M R n 0 0 (kg_I R n K) := by
  unfold wp_X7_feed at h1
  refine kr_iload_n 1 dX7_feed_0 rfl (k := ?_)
  refine kr_if_lt 11 dX7_feed_1 (fun c2 => ?_) (fun c2 => ?_)
  · have h3 := h1.1 c2
    refine kr_ldc dX7_feed_11 lkC_X7_90 (k := ?_)
    exact kr_ireturn dX7_feed_13 ⟨rfl, rfl, _, rfl, h3⟩
  · have h4 := h1.2 c2
    refine kr_iload_n 1 dX7_feed_4 rfl (k := ?_)
    refine kr_sipush (255 : Int32) dX7_feed_5 (k := ?_)
    refine kr_icmp_le 14 dX7_feed_8 (fun c5 => ?_) (fun c5 => ?_)
    · have h6 := h4.1 c5
      refine kr_aload_n 0 dX7_feed_14 rfl (k := ?_)
      refine kr_getR 0 ckX7 lkF_X7_10 rfl (kg_o7a hk) (kg_o7n hk) (kg_o7r0 hk) dX7_feed_15 (k := ?_)
      refine kr_getI 1 ckX6 lkF_X7_91 rfl (kg_o6a (kg_o7_text hk)) (kg_o6n (kg_o7_text hk)) dX7_feed_18 (k := ?_)
      refine kr_sipush (240 : Int32) dX7_feed_21 (k := ?_)
      refine kr_icmp_lt 30 dX7_feed_24 (fun c8 => ?_) (fun c8 => ?_)
      · have h9 := h6.1 c8
        refine kr_aload_n 0 dX7_feed_30 rfl (k := ?_)
        refine kr_getR 0 ckX7 lkF_X7_10 rfl (kg_o7a hk) (kg_o7n hk) (kg_o7r0 hk) dX7_feed_31 (k := ?_)
        refine kr_iload_n 1 dX7_feed_34 rfl (k := ?_)
        refine kn_callVi [.int v1] [] mvX6_append lkM_X7_95 (kg_o6a (kg_o7_text hk)) rfl (kg_o6n (kg_o7_text hk)) dX7_feed_35 (sp_X6_append (kg_o7_text hk) h9) (fun r13 M11 h12 => ?_)
        exact kr_ireturn dX7_feed_38 ⟨rfl, rfl, _, rfl, h12⟩
      · have h10 := h6.2 c8
        refine kr_ldc dX7_feed_27 lkC_X7_94 (k := ?_)
        exact kr_ireturn dX7_feed_29 ⟨rfl, rfl, _, rfl, h10⟩
    · have h7 := h4.2 c5
      refine kr_ldc dX7_feed_11 lkC_X7_90 (k := ?_)
      exact kr_ireturn dX7_feed_13 ⟨rfl, rfl, _, rfl, h7⟩
set_option maxRecDepth 100000 in
set_option maxHeartbeats 4000000 in
theorem sL_X7_first_4 {G : kg_G} {E : State → Array Value → Prop} {R : kg_R} {n : Nat} {L S : Nat} {K : Int32 → kg_M → Prop} (hk : kg_O7 R n L S) {Kx45 : Int32 → kg_M → Prop} (hKx45 : ∀ (v1 : Int32) (M : kg_M), Kx45 v1 M → kg_Run G E qX7_first 1 45 [(1, .int v1)] [] M R n 0 0 (kg_I R n K)) : ∀ (f : Nat) (v1 : Int32) (v2 : Int32) (M : kg_M), wL_X7_first_4 L Kx45 K f v1 v2 M → kg_Run G E qX7_first 1 4 [(0, .ref (kg_b G + 0)), (1, .int v1), (2, .int v2)] [] M R n 0 0 (kg_I R n K) := by
  intro f
  induction f with
  | zero => intro v1 v2 M h0; exact h0.elim
  | succ f ih =>
    intro v1 v2 M h2
    rw [wL_X7_first_4] at h2
    refine kr_iload_n 2 dX7_first_4 rfl (k := ?_)
    refine kr_aload_n 0 dX7_first_5 rfl (k := ?_)
    refine kr_getR 10 ckX7 lkF_X7_69 rfl (kg_o7a hk) (kg_o7n hk) (kg_o7r10 hk) dX7_first_6 (k := ?_)
    refine kr_getI 1 ckX0 lkF_X7_110 rfl (kg_o0a (kg_o7_land hk)) (kg_o0n (kg_o7_land hk)) dX7_first_9 (k := ?_)
    refine kr_icmp_ge 45 dX7_first_12 (fun c3 => ?_) (fun c3 => ?_)
    · have h4 := h2.1 c3
      refine kr_sub [1] [(1, .int v1)] rfl ?_
      exact hKx45 v1 M h4
    · have h5 := h2.2 c3
      refine kr_aload_n 0 dX7_first_15 rfl (k := ?_)
      refine kr_getR 1 ckX7 lkF_X7_19 rfl (kg_o7a hk) (kg_o7n hk) (kg_o7r1 hk) dX7_first_16 (k := ?_)
      refine kr_iload_n 2 dX7_first_19 rfl (k := ?_)
      refine kn_callVi [.int v2] [] mvX5_madeIllBy lkM_X7_237 (kg_o5a (kg_o7_state hk)) rfl (kg_o5n (kg_o7_state hk)) dX7_first_20 (sp_X5_madeIllBy (kg_o7_state hk) h5) (fun r8 M6 h7 => ?_)
      refine kr_aload_n 0 dX7_first_23 rfl (k := ?_)
      refine kr_getR 1 ckX7 lkF_X7_19 rfl (kg_o7a hk) (kg_o7n hk) (kg_o7r1 hk) dX7_first_24 (k := ?_)
      refine kr_getI 4 ckX5 lkF_X7_128 rfl (kg_o5a (kg_o7_state hk)) (kg_o5n (kg_o7_state hk)) dX7_first_27 (k := ?_)
      refine kr_icmp_ne 39 dX7_first_30 (fun c9 => ?_) (fun c9 => ?_)
      · have h10 := h7.1 c9
        refine kr_iinc (1 : Int32) 2 [(2, .int (v2 + (1 : Int32))), (0, .ref (kg_b G + 0)), (1, .int v1)] dX7_first_39 rfl (k := ?_)
        refine kr_goto 4 dX7_first_42 ?_
        refine kr_sub [1, 2, 0] [(0, .ref (kg_b G + 0)), (1, .int v1), (2, .int (v2 + (1 : Int32)))] rfl ?_
        exact ih v1 (v2 + (1 : Int32)) M6 h10
      · have h11 := h7.2 c9
        refine kr_iload_n 1 dX7_first_33 rfl (k := ?_)
        refine kr_iconst (1 : Int32) dX7_first_34 (k := ?_)
        refine kr_iload_n 2 dX7_first_35 rfl (k := ?_)
        refine kr_ishl dX7_first_36 (k := ?_)
        refine kr_ior dX7_first_37 (k := ?_)
        refine kr_istore_n [(1, .int (v1 ||| ((1 : Int32) <<< (v2 &&& 31)))), (0, .ref (kg_b G + 0)), (2, .int v2)] dX7_first_38 (k := ?_)
        refine kr_iinc (1 : Int32) 2 [(2, .int (v2 + (1 : Int32))), (1, .int (v1 ||| ((1 : Int32) <<< (v2 &&& 31)))), (0, .ref (kg_b G + 0))] dX7_first_39 rfl (k := ?_)
        refine kr_goto 4 dX7_first_42 ?_
        refine kr_sub [2, 1, 0] [(0, .ref (kg_b G + 0)), (1, .int (v1 ||| ((1 : Int32) <<< (v2 &&& 31)))), (2, .int (v2 + (1 : Int32)))] rfl ?_
        exact ih (v1 ||| ((1 : Int32) <<< (v2 &&& 31))) (v2 + (1 : Int32)) M6 h11
set_option maxRecDepth 100000 in
set_option maxHeartbeats 4000000 in
theorem sp_X7_first {G : kg_G} {E : State → Array Value → Prop} {R : kg_R} {n : Nat} {L S : Nat} {K : Int32 → kg_M → Prop} (hk : kg_O7 R n L S) {M : kg_M} (h1 : wp_X7_first L M K) : kg_Run G E qX7_first 1 0 [(0, .ref (kg_b G + 0))] [] M R n 0 0 (kg_I R n K) := by
  unfold wp_X7_first at h1
  refine kr_iconst (0 : Int32) dX7_first_0 (k := ?_)
  refine kr_istore_n [(1, .int (0 : Int32)), (0, .ref (kg_b G + 0))] dX7_first_1 (k := ?_)
  refine kr_iconst (0 : Int32) dX7_first_2 (k := ?_)
  refine kr_istore_n [(2, .int (0 : Int32)), (1, .int (0 : Int32)), (0, .ref (kg_b G + 0))] dX7_first_3 (k := ?_)
  refine kr_sub [2, 1, 0] [(0, .ref (kg_b G + 0)), (1, .int (0 : Int32)), (2, .int (0 : Int32))] rfl ?_
  obtain ⟨f13, h14⟩ := h1
  refine sL_X7_first_4 hk ?_ f13 (0 : Int32) (0 : Int32) M h14
  · intro v1 M h12
    refine kr_iload_n 0 dX7_first_45 rfl (k := ?_)
    exact kr_ireturn dX7_first_46 ⟨rfl, rfl, _, rfl, h12⟩
set_option maxRecDepth 100000 in
set_option maxHeartbeats 4000000 in
theorem sp_X7_gate {G : kg_G} {E : State → Array Value → Prop} {R : kg_R} {n : Nat} {L S : Nat} {K : Int32 → kg_M → Prop} (hk : kg_O7 R n L S) {v1 : Int32} {v2 : Int32} {M : kg_M} (h1 : wp_X7_gate L v1 v2 M K) : kg_Run G E qX7_gate 1 0 [(0, .ref (kg_b G + 0)), (1, .int v1), (2, .int v2)] [] M R n 0 0 (kg_I R n K) := by
  unfold wp_X7_gate at h1
  refine kr_aload_n 0 dX7_gate_0 rfl (k := ?_)
  refine kr_getR 10 ckX7 lkF_X7_69 rfl (kg_o7a hk) (kg_o7n hk) (kg_o7r10 hk) dX7_gate_1 (k := ?_)
  refine kr_iload_n 1 dX7_gate_4 rfl (k := ?_)
  refine kn_callVz [.int v1] [] mvX0_hasGate lkM_X7_149 (kg_o0a (kg_o7_land hk)) rfl (kg_o0n (kg_o7_land hk)) dX7_gate_5 (sp_X0_hasGate (kg_o7_land hk) h1) (fun r4 M2 _ h3 => ?_)
  refine kr_if_ne 14 dX7_gate_8 (fun c5 => ?_) (fun c5 => ?_)
  · have h6 := h3.1 c5
    refine kr_iload_n 2 dX7_gate_14 rfl (k := ?_)
    by_cases c9 : v2 = (0 : Int32)
    · have h10 := h6.1 c9
      refine kr_tableIn (off := 29) 44 dX7_gate_15 (by rw [c9]; decide) (by rw [c9]; decide) (by rw [c9]; decide) (by decide) ?_
      refine kr_aload_n 0 dX7_gate_44 rfl (k := ?_)
      refine kr_getR 10 ckX7 lkF_X7_69 rfl (kg_o7a hk) (kg_o7n hk) (kg_o7r10 hk) dX7_gate_45 (k := ?_)
      refine kr_getR 4 ckX0 lkF_X7_154 rfl (kg_o0a (kg_o7_land hk)) (kg_o0n (kg_o7_land hk)) (kg_o0r4 (kg_o7_land hk)) dX7_gate_48 (k := ?_)
      refine kr_iload_n 1 dX7_gate_51 rfl (k := ?_)
      obtain ⟨h12, h13⟩ := h10
      refine kr_iald (kg_o0s4 (kg_o7_land hk)) (kg_o0m4 (kg_o7_land hk)) h12 dX7_gate_52 (k := ?_)
      exact kr_ireturn dX7_gate_53 ⟨rfl, rfl, _, rfl, h13⟩
    · have h11 := h6.2 c9
      by_cases c14 : v2 = (1 : Int32)
      · have h15 := h11.1 c14
        refine kr_tableIn (off := 39) 54 dX7_gate_15 (by rw [c14]; decide) (by rw [c14]; decide) (by rw [c14]; decide) (by decide) ?_
        refine kr_aload_n 0 dX7_gate_54 rfl (k := ?_)
        refine kr_getR 1 ckX7 lkF_X7_19 rfl (kg_o7a hk) (kg_o7n hk) (kg_o7r1 hk) dX7_gate_55 (k := ?_)
        refine kr_getR 7 ckX5 lkF_X7_157 rfl (kg_o5a (kg_o7_state hk)) (kg_o5n (kg_o7_state hk)) (kg_o5r7 (kg_o7_state hk)) dX7_gate_58 (k := ?_)
        refine kr_iload_n 1 dX7_gate_61 rfl (k := ?_)
        obtain ⟨h17, h18⟩ := h15
        refine kr_iald (kg_o5s7 (kg_o7_state hk)) (kg_o5m7 (kg_o7_state hk)) h17 dX7_gate_62 (k := ?_)
        exact kr_ireturn dX7_gate_63 ⟨rfl, rfl, _, rfl, h18⟩
      · have h16 := h11.2 c14
        by_cases c19 : v2 = (2 : Int32)
        · have h20 := h16.1 c19
          refine kr_tableIn (off := 49) 64 dX7_gate_15 (by rw [c19]; decide) (by rw [c19]; decide) (by rw [c19]; decide) (by decide) ?_
          refine kr_aload_n 0 dX7_gate_64 rfl (k := ?_)
          refine kr_getR 1 ckX7 lkF_X7_19 rfl (kg_o7a hk) (kg_o7n hk) (kg_o7r1 hk) dX7_gate_65 (k := ?_)
          refine kr_aload_n 0 dX7_gate_68 rfl (k := ?_)
          refine kr_getR 10 ckX7 lkF_X7_69 rfl (kg_o7a hk) (kg_o7n hk) (kg_o7r10 hk) dX7_gate_69 (k := ?_)
          refine kr_iload_n 1 dX7_gate_72 rfl (k := ?_)
          refine kn_callVz [.ref (kg_b G + L), .int v1] [] mvX5_isRusted lkM_X7_160 (kg_o5a (kg_o7_state hk)) rfl (kg_o5n (kg_o7_state hk)) dX7_gate_73 (sp_X5_isRusted (kg_o7_state hk) (kg_o7_land hk) h20) (fun r24 M22 _ h23 => ?_)
          refine kr_if_eq 83 dX7_gate_76 (fun c25 => ?_) (fun c25 => ?_)
          · have h26 := h23.1 c25
            refine kr_iconst (0 : Int32) dX7_gate_83 (k := ?_)
            exact kr_ireturn dX7_gate_84 ⟨rfl, rfl, _, rfl, h26⟩
          · have h27 := h23.2 c25
            refine kr_iconst (1 : Int32) dX7_gate_79 (k := ?_)
            refine kr_goto 84 dX7_gate_80 ?_
            exact kr_ireturn dX7_gate_84 ⟨rfl, rfl, _, rfl, h27⟩
        · have h21 := h16.2 c19
          by_cases c28 : v2 = (3 : Int32)
          · have h29 := h21.1 c28
            refine kr_tableIn (off := 70) 85 dX7_gate_15 (by rw [c28]; decide) (by rw [c28]; decide) (by rw [c28]; decide) (by decide) ?_
            refine kr_aload_n 0 dX7_gate_85 rfl (k := ?_)
            refine kr_getR 1 ckX7 lkF_X7_19 rfl (kg_o7a hk) (kg_o7n hk) (kg_o7r1 hk) dX7_gate_86 (k := ?_)
            refine kr_aload_n 0 dX7_gate_89 rfl (k := ?_)
            refine kr_getR 10 ckX7 lkF_X7_69 rfl (kg_o7a hk) (kg_o7n hk) (kg_o7r10 hk) dX7_gate_90 (k := ?_)
            refine kr_iload_n 1 dX7_gate_93 rfl (k := ?_)
            refine kn_callVi [.ref (kg_b G + L), .int v1] [] mvX5_waitingAt lkM_X7_164 (kg_o5a (kg_o7_state hk)) rfl (kg_o5n (kg_o7_state hk)) dX7_gate_94 (sp_X5_waitingAt (kg_o7_state hk) (kg_o7_land hk) h29) (fun r33 M31 h32 => ?_)
            exact kr_ireturn dX7_gate_97 ⟨rfl, rfl, _, rfl, h32⟩
          · have h30 := h21.2 c28
            have e0_ : v2.toInt ≠ (0 : Int) := fun e => c9 (Int32.toInt_inj.mp (e.trans (by decide)))
            have e1_ : v2.toInt ≠ (1 : Int) := fun e => c14 (Int32.toInt_inj.mp (e.trans (by decide)))
            have e2_ : v2.toInt ≠ (2 : Int) := fun e => c19 (Int32.toInt_inj.mp (e.trans (by decide)))
            have e3_ : v2.toInt ≠ (3 : Int) := fun e => c28 (Int32.toInt_inj.mp (e.trans (by decide)))
            refine kr_tableOut 98 dX7_gate_15 (by omega) (by decide) ?_
            refine kr_ldc dX7_gate_98 lkC_X7_90 (k := ?_)
            exact kr_ireturn dX7_gate_100 ⟨rfl, rfl, _, rfl, h30⟩
  · have h7 := h3.2 c5
    refine kr_ldc dX7_gate_11 lkC_X7_153 (k := ?_)
    exact kr_ireturn dX7_gate_13 ⟨rfl, rfl, _, rfl, h7⟩
set_option maxRecDepth 100000 in
set_option maxHeartbeats 4000000 in
theorem sp_X7_goBack {G : kg_G} {E : State → Array Value → Prop} {R : kg_R} {n : Nat} {L S : Nat} {K : Int32 → kg_M → Prop} (hk : kg_O7 R n L S) (hn : ¬ n < kg_all) {v1 : Int32} {M : kg_M} (h1 : wp_X7_goBack L v1 M K) : kg_Run G E qX7_goBack 1 0 [(0, .ref (kg_b G + 0)), (1, .int v1)] [] M R n 0 0 (kg_I R n K) := by
  unfold wp_X7_goBack at h1
  refine kr_iload_n 1 dX7_goBack_0 rfl (k := ?_)
  refine kr_if_lt 9 dX7_goBack_1 (fun c2 => ?_) (fun c2 => ?_)
  · have h3 := h1.1 c2
    refine kr_ldc dX7_goBack_9 lkC_X7_153 (k := ?_)
    exact kr_ireturn dX7_goBack_11 ⟨rfl, rfl, _, rfl, h3⟩
  · have h4 := h1.2 c2
    refine kr_iload_n 1 dX7_goBack_4 rfl (k := ?_)
    refine kr_iconst (2 : Int32) dX7_goBack_5 (k := ?_)
    refine kr_icmp_lt 12 dX7_goBack_6 (fun c5 => ?_) (fun c5 => ?_)
    · have h6 := h4.1 c5
      refine kr_aload_n 0 dX7_goBack_12 rfl (k := ?_)
      refine kr_getR 7 ckX7 lkF_X7_55 rfl (kg_o7a hk) (kg_o7n hk) (kg_o7r7 hk) dX7_goBack_13 (k := ?_)
      refine kr_iload_n 1 dX7_goBack_16 rfl (k := ?_)
      obtain ⟨h8, h9⟩ := h6
      refine kr_zald (kg_o7s7 hk) (kg_o7m7 hk) h8 dX7_goBack_17 (k := ?_)
      refine kr_if_ne 24 dX7_goBack_18 (fun c10 => ?_) (fun c10 => ?_)
      · have h11 := h9.1 c10
        refine kr_aload_n 0 dX7_goBack_24 rfl (k := ?_)
        refine kr_getR 1 ckX7 lkF_X7_19 rfl (kg_o7a hk) (kg_o7n hk) (kg_o7r1 hk) dX7_goBack_25 (k := ?_)
        refine kr_aload_n 0 dX7_goBack_28 rfl (k := ?_)
        refine kr_getR 6 ckX7 lkF_X7_51 rfl (kg_o7a hk) (kg_o7n hk) (kg_o7r6 hk) dX7_goBack_29 (k := ?_)
        refine kr_iload_n 1 dX7_goBack_32 rfl (k := ?_)
        obtain ⟨h13, h14⟩ := h11
        refine kr_aald (kg_o7s6 hk) (kg_o7m6 hk) h13 ((kg_arrI hk h13)).1 dX7_goBack_33 (k := ?_)
        refine kn_callVv [.ref (kg_b G + (98 + 4 * v1.toNatClampNeg))] [] mvX5_copyFrom lkM_X7_276 (kg_o5a (kg_o7_state hk)) rfl (kg_o5n (kg_o7_state hk)) dX7_goBack_34 (sp_X5_copyFrom (kg_o7_state hk) ((kg_arrI hk h13)).2 hn h14) (fun M15 h16 => ?_)
        refine kr_aload_n 0 dX7_goBack_37 rfl (k := ?_)
        refine kr_aload_n 0 dX7_goBack_38 rfl (k := ?_)
        refine kr_getR 8 ckX7 lkF_X7_59 rfl (kg_o7a hk) (kg_o7n hk) (kg_o7r8 hk) dX7_goBack_39 (k := ?_)
        refine kr_iload_n 1 dX7_goBack_42 rfl (k := ?_)
        obtain ⟨h18, h19⟩ := h16
        refine kr_iald (kg_o7s8 hk) (kg_o7m8 hk) h18 dX7_goBack_43 (k := ?_)
        refine kn_putI 13 ckX7 lkF_X7_87 rfl rfl rfl rfl (kg_o7a hk) (kg_o7n hk) dX7_goBack_44 (fun M20 e21 => ?_)
        have h22 := h19 M20 e21
        refine kr_aload_n 0 dX7_goBack_47 rfl (k := ?_)
        refine kr_getR 2 ckX7 lkF_X7_26 rfl (kg_o7a hk) (kg_o7n hk) (kg_o7r2 hk) dX7_goBack_48 (k := ?_)
        refine kn_callVv [] [] mvX4_forget lkM_X7_106 (kg_o4a (kg_o7_past hk)) rfl (kg_o4n (kg_o7_past hk)) dX7_goBack_51 (sp_X4_forget (kg_o7_past hk) h22) (fun M23 h24 => ?_)
        refine kr_iconst (1 : Int32) dX7_goBack_54 (k := ?_)
        exact kr_ireturn dX7_goBack_55 ⟨rfl, rfl, _, rfl, h24⟩
      · have h12 := h9.2 c10
        refine kr_ldc dX7_goBack_21 lkC_X7_194 (k := ?_)
        exact kr_ireturn dX7_goBack_23 ⟨rfl, rfl, _, rfl, h12⟩
    · have h7 := h4.2 c5
      refine kr_ldc dX7_goBack_9 lkC_X7_153 (k := ?_)
      exact kr_ireturn dX7_goBack_11 ⟨rfl, rfl, _, rfl, h7⟩
set_option maxRecDepth 100000 in
set_option maxHeartbeats 4000000 in
theorem sp_X7_goOff {G : kg_G} {E : State → Array Value → Prop} {R : kg_R} {n : Nat} {L S : Nat} {K : Int32 → kg_M → Prop} (hk : kg_O7 R n L S) (hn : ¬ n < kg_all) {v1 : Int32} {M : kg_M} (h1 : wp_X7_goOff L v1 M K) : kg_Run G E qX7_goOff 2 0 [(0, .ref (kg_b G + 0)), (1, .int v1)] [] M R n 0 0 (kg_I R n K) := by
  unfold wp_X7_goOff at h1
  refine kr_aload_n 0 dX7_goOff_0 rfl (k := ?_)
  refine kr_getR 10 ckX7 lkF_X7_69 rfl (kg_o7a hk) (kg_o7n hk) (kg_o7r10 hk) dX7_goOff_1 (k := ?_)
  refine kr_iload_n 1 dX7_goOff_4 rfl (k := ?_)
  refine kn_callVz [.int v1] [] mvX0_hasPerson lkM_X7_168 (kg_o0a (kg_o7_land hk)) rfl (kg_o0n (kg_o7_land hk)) dX7_goOff_5 (sp_X0_hasPerson (kg_o7_land hk) h1) (fun r4 M2 _ h3 => ?_)
  refine kr_if_ne 14 dX7_goOff_8 (fun c5 => ?_) (fun c5 => ?_)
  · have h6 := h3.1 c5
    refine kr_aload_n 0 dX7_goOff_14 rfl (k := ?_)
    refine kr_getR 1 ckX7 lkF_X7_19 rfl (kg_o7a hk) (kg_o7n hk) (kg_o7r1 hk) dX7_goOff_15 (k := ?_)
    refine kr_getR 6 ckX5 lkF_X7_171 rfl (kg_o5a (kg_o7_state hk)) (kg_o5n (kg_o7_state hk)) (kg_o5r6 (kg_o7_state hk)) dX7_goOff_18 (k := ?_)
    refine kr_iload_n 1 dX7_goOff_21 rfl (k := ?_)
    obtain ⟨h8, h9⟩ := h6
    refine kr_iald (kg_o5s6 (kg_o7_state hk)) (kg_o5m6 (kg_o7_state hk)) h8 dX7_goOff_22 (k := ?_)
    refine kr_istore_n [(2, .int (M2 4 v1.toNatClampNeg)), (0, .ref (kg_b G + 0)), (1, .int v1)] dX7_goOff_23 (k := ?_)
    refine kr_iload_n 0 dX7_goOff_24 rfl (k := ?_)
    refine kr_iconst (-1 : Int32) dX7_goOff_25 (k := ?_)
    refine kr_icmp_ne 32 dX7_goOff_26 (fun c10 => ?_) (fun c10 => ?_)
    · have h11 := h9.1 c10
      refine kr_aload_n 1 dX7_goOff_32 rfl (k := ?_)
      refine kr_getR 2 ckX7 lkF_X7_26 rfl (kg_o7a hk) (kg_o7n hk) (kg_o7r2 hk) dX7_goOff_33 (k := ?_)
      refine kr_aload_n 1 dX7_goOff_36 rfl (k := ?_)
      refine kr_getR 1 ckX7 lkF_X7_19 rfl (kg_o7a hk) (kg_o7n hk) (kg_o7r1 hk) dX7_goOff_37 (k := ?_)
      refine kn_callVv [.ref (kg_b G + 3)] [] mvX4_remember lkM_X7_187 (kg_o4a (kg_o7_past hk)) rfl (kg_o4n (kg_o7_past hk)) dX7_goOff_40 (sp_X4_remember (kg_o7_past hk) (kg_o7_state hk) hn h11) (fun M13 h14 => ?_)
      refine kr_aload_n 1 dX7_goOff_43 rfl (k := ?_)
      refine kr_getR 1 ckX7 lkF_X7_19 rfl (kg_o7a hk) (kg_o7n hk) (kg_o7r1 hk) dX7_goOff_44 (k := ?_)
      refine kr_getR 6 ckX5 lkF_X7_171 rfl (kg_o5a (kg_o7_state hk)) (kg_o5n (kg_o7_state hk)) (kg_o5r6 (kg_o7_state hk)) dX7_goOff_47 (k := ?_)
      refine kr_iload_n 2 dX7_goOff_50 rfl (k := ?_)
      refine kr_iconst (-1 : Int32) dX7_goOff_51 (k := ?_)
      obtain ⟨h16, h17⟩ := h14
      refine kn_iast (kg_o5s6 (kg_o7_state hk)) (kg_o5m6 (kg_o7_state hk)) h16 dX7_goOff_52 (fun M18 e19 => ?_)
      have h20 := h17 M18 e19
      refine kr_iload_n 0 dX7_goOff_53 rfl (k := ?_)
      exact kr_ireturn dX7_goOff_54 ⟨rfl, rfl, _, rfl, h20⟩
    · have h12 := h9.2 c10
      refine kr_ldc dX7_goOff_29 lkC_X7_194 (k := ?_)
      exact kr_ireturn dX7_goOff_31 ⟨rfl, rfl, _, rfl, h12⟩
  · have h7 := h3.2 c5
    refine kr_ldc dX7_goOff_11 lkC_X7_153 (k := ?_)
    exact kr_ireturn dX7_goOff_13 ⟨rfl, rfl, _, rfl, h7⟩
set_option maxRecDepth 100000 in
set_option maxHeartbeats 4000000 in
theorem sp_X7_hole {G : kg_G} {E : State → Array Value → Prop} {R : kg_R} {n : Nat} {L S : Nat} {K : Int32 → kg_M → Prop} (hk : kg_O7 R n L S) (hn : ¬ n < kg_all) {v1 : Int32} {M : kg_M} (h1 : wp_X7_hole L v1 M K) : kg_Run G E qX7_hole 2 0 [(0, .ref (kg_b G + 0)), (1, .int v1)] [] M R n 0 0 (kg_I R n K) := by
  unfold wp_X7_hole at h1
  refine kr_aload_n 0 dX7_hole_0 rfl (k := ?_)
  refine kr_getR 10 ckX7 lkF_X7_69 rfl (kg_o7a hk) (kg_o7n hk) (kg_o7r10 hk) dX7_hole_1 (k := ?_)
  refine kr_iload_n 1 dX7_hole_4 rfl (k := ?_)
  refine kn_callVz [.int v1] [] mvX0_hasPerson lkM_X7_168 (kg_o0a (kg_o7_land hk)) rfl (kg_o0n (kg_o7_land hk)) dX7_hole_5 (sp_X0_hasPerson (kg_o7_land hk) h1) (fun r4 M2 _ h3 => ?_)
  refine kr_if_ne 14 dX7_hole_8 (fun c5 => ?_) (fun c5 => ?_)
  · have h6 := h3.1 c5
    refine kr_aload_n 0 dX7_hole_14 rfl (k := ?_)
    refine kr_getR 1 ckX7 lkF_X7_19 rfl (kg_o7a hk) (kg_o7n hk) (kg_o7r1 hk) dX7_hole_15 (k := ?_)
    refine kr_getR 6 ckX5 lkF_X7_171 rfl (kg_o5a (kg_o7_state hk)) (kg_o5n (kg_o7_state hk)) (kg_o5r6 (kg_o7_state hk)) dX7_hole_18 (k := ?_)
    refine kr_iload_n 1 dX7_hole_21 rfl (k := ?_)
    obtain ⟨h8, h9⟩ := h6
    refine kr_iald (kg_o5s6 (kg_o7_state hk)) (kg_o5m6 (kg_o7_state hk)) h8 dX7_hole_22 (k := ?_)
    refine kr_iconst (-1 : Int32) dX7_hole_23 (k := ?_)
    refine kr_icmp_eq 30 dX7_hole_24 (fun c10 => ?_) (fun c10 => ?_)
    · have h11 := h9.1 c10
      refine kr_aload_n 0 dX7_hole_30 rfl (k := ?_)
      refine kr_getR 2 ckX7 lkF_X7_26 rfl (kg_o7a hk) (kg_o7n hk) (kg_o7r2 hk) dX7_hole_31 (k := ?_)
      refine kr_aload_n 0 dX7_hole_34 rfl (k := ?_)
      refine kr_getR 1 ckX7 lkF_X7_19 rfl (kg_o7a hk) (kg_o7n hk) (kg_o7r1 hk) dX7_hole_35 (k := ?_)
      refine kn_callVv [.ref (kg_b G + 3)] [] mvX4_remember lkM_X7_187 (kg_o4a (kg_o7_past hk)) rfl (kg_o4n (kg_o7_past hk)) dX7_hole_38 (sp_X4_remember (kg_o7_past hk) (kg_o7_state hk) hn h11) (fun M13 h14 => ?_)
      refine kr_aload_n 0 dX7_hole_41 rfl (k := ?_)
      refine kr_getR 1 ckX7 lkF_X7_19 rfl (kg_o7a hk) (kg_o7n hk) (kg_o7r1 hk) dX7_hole_42 (k := ?_)
      refine kr_dup dX7_hole_45 (k := ?_)
      refine kr_getI 3 ckX5 lkF_X7_125 rfl (kg_o5a (kg_o7_state hk)) (kg_o5n (kg_o7_state hk)) dX7_hole_46 (k := ?_)
      refine kr_iconst (1 : Int32) dX7_hole_49 (k := ?_)
      refine kr_iload_n 1 dX7_hole_50 rfl (k := ?_)
      refine kr_ishl dX7_hole_51 (k := ?_)
      refine kr_ixor dX7_hole_52 (k := ?_)
      refine kn_putI 3 ckX5 lkF_X7_125 rfl rfl rfl rfl (kg_o5a (kg_o7_state hk)) (kg_o5n (kg_o7_state hk)) dX7_hole_53 (fun M16 e17 => ?_)
      have h18 := h14 M16 e17
      refine kr_aload_n 0 dX7_hole_56 rfl (k := ?_)
      refine kr_getR 1 ckX7 lkF_X7_19 rfl (kg_o7a hk) (kg_o7n hk) (kg_o7r1 hk) dX7_hole_57 (k := ?_)
      refine kr_dup dX7_hole_60 (k := ?_)
      refine kr_getI 2 ckX5 lkF_X7_122 rfl (kg_o5a (kg_o7_state hk)) (kg_o5n (kg_o7_state hk)) dX7_hole_61 (k := ?_)
      refine kr_iconst (1 : Int32) dX7_hole_64 (k := ?_)
      refine kr_iadd dX7_hole_65 (k := ?_)
      refine kn_putI 2 ckX5 lkF_X7_122 rfl rfl rfl rfl (kg_o5a (kg_o7_state hk)) (kg_o5n (kg_o7_state hk)) dX7_hole_66 (fun M19 e20 => ?_)
      have h21 := h18 M19 e20
      refine kr_aload_n 0 dX7_hole_69 rfl (k := ?_)
      refine kr_getR 1 ckX7 lkF_X7_19 rfl (kg_o7a hk) (kg_o7n hk) (kg_o7r1 hk) dX7_hole_70 (k := ?_)
      refine kr_getI 3 ckX5 lkF_X7_125 rfl (kg_o5a (kg_o7_state hk)) (kg_o5n (kg_o7_state hk)) dX7_hole_73 (k := ?_)
      refine kr_iload_n 1 dX7_hole_76 rfl (k := ?_)
      refine kr_ishr dX7_hole_77 (k := ?_)
      refine kr_iconst (1 : Int32) dX7_hole_78 (k := ?_)
      refine kr_iand dX7_hole_79 (k := ?_)
      exact kr_ireturn dX7_hole_80 ⟨rfl, rfl, _, rfl, h21⟩
    · have h12 := h9.2 c10
      refine kr_ldc dX7_hole_27 lkC_X7_194 (k := ?_)
      exact kr_ireturn dX7_hole_29 ⟨rfl, rfl, _, rfl, h12⟩
  · have h7 := h3.2 c5
    refine kr_ldc dX7_hole_11 lkC_X7_153 (k := ?_)
    exact kr_ireturn dX7_hole_13 ⟨rfl, rfl, _, rfl, h7⟩
set_option maxRecDepth 100000 in
set_option maxHeartbeats 4000000 in
theorem sL_X7_hour_25 {G : kg_G} {E : State → Array Value → Prop} {R : kg_R} {n : Nat} {L S : Nat} {K : Int32 → kg_M → Prop} (hk : kg_O7 R n L S) (hn : ¬ n < kg_all) {Kx47 : kg_M → Prop} (hKx47 : ∀ (M : kg_M), Kx47 M → kg_Run G E qX7_hour 6 47 [(0, .ref (kg_b G + 0))] [] M R n 0 0 (kg_I R n K)) : ∀ (f : Nat) (v1 : Int32) (v3 : Int32) (M : kg_M), wL_X7_hour_25 L Kx47 K f v1 v3 M → kg_Run G E qX7_hour 6 25 [(0, .ref (kg_b G + 0)), (1, .int v1), (3, .int v3)] [] M R n 0 0 (kg_I R n K) := by
  intro f
  induction f with
  | zero => intro v1 v3 M h0; exact h0.elim
  | succ f ih =>
    intro v1 v3 M h11
    rw [wL_X7_hour_25] at h11
    refine kr_iload_n 2 dX7_hour_25 rfl (k := ?_)
    refine kr_iload_n 1 dX7_hour_26 rfl (k := ?_)
    refine kr_icmp_ge 47 dX7_hour_27 (fun c12 => ?_) (fun c12 => ?_)
    · have h13 := h11.1 c12
      refine kr_sub [0] [(0, .ref (kg_b G + 0))] rfl ?_
      exact hKx47  M h13
    · have h14 := h11.2 c12
      refine kr_aload_n 0 dX7_hour_30 rfl (k := ?_)
      refine kr_getR 1 ckX7 lkF_X7_19 rfl (kg_o7a hk) (kg_o7n hk) (kg_o7r1 hk) dX7_hour_31 (k := ?_)
      refine kr_aload_n 0 dX7_hour_34 rfl (k := ?_)
      refine kr_getR 10 ckX7 lkF_X7_69 rfl (kg_o7a hk) (kg_o7n hk) (kg_o7r10 hk) dX7_hour_35 (k := ?_)
      refine kn_callVv [.ref (kg_b G + L)] [] mvX5_passHour lkM_X7_191 (kg_o5a (kg_o7_state hk)) rfl (kg_o5n (kg_o7_state hk)) dX7_hour_38 (sp_X5_passHour (kg_o7_state hk) (kg_o7_land hk) hn h14) (fun M15 h16 => ?_)
      refine kr_iinc (1 : Int32) 2 [(3, .int (v3 + (1 : Int32))), (0, .ref (kg_b G + 0)), (1, .int v1)] dX7_hour_41 rfl (k := ?_)
      refine kr_goto 25 dX7_hour_44 ?_
      refine kr_sub [1, 2, 0] [(0, .ref (kg_b G + 0)), (1, .int v1), (3, .int (v3 + (1 : Int32)))] rfl ?_
      exact ih v1 (v3 + (1 : Int32)) M15 h16
set_option maxRecDepth 100000 in
set_option maxHeartbeats 4000000 in
theorem sp_X7_hour {G : kg_G} {E : State → Array Value → Prop} {R : kg_R} {n : Nat} {L S : Nat} {K : Int32 → kg_M → Prop} (hk : kg_O7 R n L S) (hn : ¬ n < kg_all) {v1 : Int32} {M : kg_M} (h1 : wp_X7_hour L v1 M K) : kg_Run G E qX7_hour 6 0 [(0, .ref (kg_b G + 0)), (1, .int v1)] [] M R n 0 0 (kg_I R n K) := by
  unfold wp_X7_hour at h1
  refine kr_aload_n 0 dX7_hour_0 rfl (k := ?_)
  refine kr_iload_n 1 dX7_hour_1 rfl (k := ?_)
  refine kn_callVi [.int v1] [] mvX7_refusalOfHours lkM_X7_184 (kg_o7a hk) rfl (kg_o7n hk) dX7_hour_2 (sp_X7_refusalOfHours hk h1) (fun r4 M2 h3 => ?_)
  refine kr_istore_n [(2, .int r4), (0, .ref (kg_b G + 0)), (1, .int v1)] dX7_hour_5 (k := ?_)
  refine kr_iload_n 0 dX7_hour_6 rfl (k := ?_)
  refine kr_if_eq 12 dX7_hour_7 (fun c5 => ?_) (fun c5 => ?_)
  · have h6 := h3.1 c5
    refine kr_aload_n 1 dX7_hour_12 rfl (k := ?_)
    refine kr_getR 2 ckX7 lkF_X7_26 rfl (kg_o7a hk) (kg_o7n hk) (kg_o7r2 hk) dX7_hour_13 (k := ?_)
    refine kr_aload_n 1 dX7_hour_16 rfl (k := ?_)
    refine kr_getR 1 ckX7 lkF_X7_19 rfl (kg_o7a hk) (kg_o7n hk) (kg_o7r1 hk) dX7_hour_17 (k := ?_)
    refine kn_callVv [.ref (kg_b G + 3)] [] mvX4_remember lkM_X7_187 (kg_o4a (kg_o7_past hk)) rfl (kg_o4n (kg_o7_past hk)) dX7_hour_20 (sp_X4_remember (kg_o7_past hk) (kg_o7_state hk) hn h6) (fun M8 h9 => ?_)
    refine kr_iconst (0 : Int32) dX7_hour_23 (k := ?_)
    refine kr_istore_n [(3, .int (0 : Int32)), (2, .int r4), (0, .ref (kg_b G + 0)), (1, .int v1)] dX7_hour_24 (k := ?_)
    refine kr_sub [2, 3, 0] [(0, .ref (kg_b G + 0)), (1, .int v1), (3, .int (0 : Int32))] rfl ?_
    obtain ⟨f19, h20⟩ := h9
    refine sL_X7_hour_25 hk hn ?_ f19 v1 (0 : Int32) M8 h20
    · intro  M h18
      refine kr_aload_n 0 dX7_hour_47 rfl (k := ?_)
      refine kr_getR 1 ckX7 lkF_X7_19 rfl (kg_o7a hk) (kg_o7n hk) (kg_o7r1 hk) dX7_hour_48 (k := ?_)
      refine kr_getI 0 ckX5 lkF_X7_116 rfl (kg_o5a (kg_o7_state hk)) (kg_o5n (kg_o7_state hk)) dX7_hour_51 (k := ?_)
      exact kr_ireturn dX7_hour_54 ⟨rfl, rfl, _, rfl, h18⟩
  · have h7 := h3.2 c5
    refine kr_iload_n 0 dX7_hour_10 rfl (k := ?_)
    exact kr_ireturn dX7_hour_11 ⟨rfl, rfl, _, rfl, h7⟩
set_option maxRecDepth 100000 in
set_option maxHeartbeats 4000000 in
theorem sp_X7_ill {G : kg_G} {E : State → Array Value → Prop} {R : kg_R} {n : Nat} {L S : Nat} {K : Int32 → kg_M → Prop} (hk : kg_O7 R n L S) {v1 : Int32} {v2 : Int32} {M : kg_M} (h1 : wp_X7_ill L v1 v2 M K) : kg_Run G E qX7_ill 1 0 [(0, .ref (kg_b G + 0)), (1, .int v1), (2, .int v2)] [] M R n 0 0 (kg_I R n K) := by
  unfold wp_X7_ill at h1
  refine kr_aload_n 0 dX7_ill_0 rfl (k := ?_)
  refine kr_getR 10 ckX7 lkF_X7_69 rfl (kg_o7a hk) (kg_o7n hk) (kg_o7r10 hk) dX7_ill_1 (k := ?_)
  refine kr_iload_n 1 dX7_ill_4 rfl (k := ?_)
  refine kn_callVz [.int v1] [] mvX0_hasPerson lkM_X7_168 (kg_o0a (kg_o7_land hk)) rfl (kg_o0n (kg_o7_land hk)) dX7_ill_5 (sp_X0_hasPerson (kg_o7_land hk) h1) (fun r4 M2 _ h3 => ?_)
  refine kr_if_ne 14 dX7_ill_8 (fun c5 => ?_) (fun c5 => ?_)
  · have h6 := h3.1 c5
    refine kr_aload_n 0 dX7_ill_14 rfl (k := ?_)
    refine kr_getR 3 ckX7 lkF_X7_33 rfl (kg_o7a hk) (kg_o7n hk) (kg_o7r3 hk) dX7_ill_15 (k := ?_)
    refine kr_getI 0 ckX2 lkF_X7_140 rfl (kg_o2a (kg_o7_notes hk)) (kg_o2n (kg_o7_notes hk)) dX7_ill_18 (k := ?_)
    refine kr_bipush (6 : Int32) dX7_ill_21 (k := ?_)
    refine kr_icmp_lt 29 dX7_ill_23 (fun c8 => ?_) (fun c8 => ?_)
    · have h9 := h6.1 c8
      refine kr_aload_n 0 dX7_ill_29 rfl (k := ?_)
      refine kr_getR 3 ckX7 lkF_X7_33 rfl (kg_o7a hk) (kg_o7n hk) (kg_o7r3 hk) dX7_ill_30 (k := ?_)
      refine kr_iload_n 1 dX7_ill_33 rfl (k := ?_)
      refine kr_iload_n 2 dX7_ill_34 rfl (k := ?_)
      refine kn_callVi [.int v1, .int v2] [] mvX2_learn lkM_X7_257 (kg_o2a (kg_o7_notes hk)) rfl (kg_o2n (kg_o7_notes hk)) dX7_ill_35 (sp_X2_learn (kg_o7_notes hk) h9) (fun r13 M11 h12 => ?_)
      exact kr_ireturn dX7_ill_38 ⟨rfl, rfl, _, rfl, h12⟩
    · have h10 := h6.2 c8
      refine kr_ldc dX7_ill_26 lkC_X7_94 (k := ?_)
      exact kr_ireturn dX7_ill_28 ⟨rfl, rfl, _, rfl, h10⟩
  · have h7 := h3.2 c5
    refine kr_ldc dX7_ill_11 lkC_X7_153 (k := ?_)
    exact kr_ireturn dX7_ill_13 ⟨rfl, rfl, _, rfl, h7⟩
set_option maxRecDepth 100000 in
set_option maxHeartbeats 4000000 in
theorem sp_X7_judge {G : kg_G} {E : State → Array Value → Prop} {R : kg_R} {n : Nat} {L S : Nat} {K : Int32 → kg_M → Prop} (hk : kg_O7 R n L S) {M : kg_M} (h1 : wp_X7_judge L M K) : kg_Run G E qX7_judge 1 0 [(0, .ref (kg_b G + 0))] [] M R n 0 0 (kg_I R n K) := by
  unfold wp_X7_judge at h1
  refine kr_aload_n 0 dX7_judge_0 rfl (k := ?_)
  refine kr_getR 3 ckX7 lkF_X7_33 rfl (kg_o7a hk) (kg_o7n hk) (kg_o7r3 hk) dX7_judge_1 (k := ?_)
  refine kr_aload_n 0 dX7_judge_4 rfl (k := ?_)
  refine kr_getR 1 ckX7 lkF_X7_19 rfl (kg_o7a hk) (kg_o7n hk) (kg_o7r1 hk) dX7_judge_5 (k := ?_)
  refine kr_getI 3 ckX5 lkF_X7_125 rfl (kg_o5a (kg_o7_state hk)) (kg_o5n (kg_o7_state hk)) dX7_judge_8 (k := ?_)
  refine kn_callVi [.int (M 3 3)] [] mvX2_firstWrong lkM_X7_273 (kg_o2a (kg_o7_notes hk)) rfl (kg_o2n (kg_o7_notes hk)) dX7_judge_11 (sp_X2_firstWrong (kg_o7_notes hk) h1) (fun r4 M2 h3 => ?_)
  exact kr_ireturn dX7_judge_14 ⟨rfl, rfl, _, rfl, h3⟩
set_option maxRecDepth 100000 in
set_option maxHeartbeats 4000000 in
theorem sp_X7_keep {G : kg_G} {E : State → Array Value → Prop} {R : kg_R} {n : Nat} {L S : Nat} {K : Int32 → kg_M → Prop} (hk : kg_O7 R n L S) (hn : ¬ n < kg_all) {v1 : Int32} {M : kg_M} (h1 : wp_X7_keep L v1 M K) : kg_Run G E qX7_keep 1 0 [(0, .ref (kg_b G + 0)), (1, .int v1)] [] M R n 0 0 (kg_I R n K) := by
  unfold wp_X7_keep at h1
  refine kr_iload_n 1 dX7_keep_0 rfl (k := ?_)
  refine kr_if_lt 9 dX7_keep_1 (fun c2 => ?_) (fun c2 => ?_)
  · have h3 := h1.1 c2
    refine kr_ldc dX7_keep_9 lkC_X7_153 (k := ?_)
    exact kr_ireturn dX7_keep_11 ⟨rfl, rfl, _, rfl, h3⟩
  · have h4 := h1.2 c2
    refine kr_iload_n 1 dX7_keep_4 rfl (k := ?_)
    refine kr_iconst (2 : Int32) dX7_keep_5 (k := ?_)
    refine kr_icmp_lt 12 dX7_keep_6 (fun c5 => ?_) (fun c5 => ?_)
    · have h6 := h4.1 c5
      refine kr_aload_n 0 dX7_keep_12 rfl (k := ?_)
      refine kr_getR 6 ckX7 lkF_X7_51 rfl (kg_o7a hk) (kg_o7n hk) (kg_o7r6 hk) dX7_keep_13 (k := ?_)
      refine kr_iload_n 1 dX7_keep_16 rfl (k := ?_)
      obtain ⟨h8, h9⟩ := h6
      refine kr_aald (kg_o7s6 hk) (kg_o7m6 hk) h8 ((kg_arrI hk h8)).1 dX7_keep_17 (k := ?_)
      refine kr_aload_n 0 dX7_keep_18 rfl (k := ?_)
      refine kr_getR 1 ckX7 lkF_X7_19 rfl (kg_o7a hk) (kg_o7n hk) (kg_o7r1 hk) dX7_keep_19 (k := ?_)
      refine kn_callVv [.ref (kg_b G + 3)] [] mvX5_copyFrom lkM_X7_276 (kg_o5a ((kg_arrI hk h8)).2) rfl (kg_o5n ((kg_arrI hk h8)).2) dX7_keep_22 (sp_X5_copyFrom ((kg_arrI hk h8)).2 (kg_o7_state hk) hn h9) (fun M10 h11 => ?_)
      refine kr_aload_n 0 dX7_keep_25 rfl (k := ?_)
      refine kr_getR 8 ckX7 lkF_X7_59 rfl (kg_o7a hk) (kg_o7n hk) (kg_o7r8 hk) dX7_keep_26 (k := ?_)
      refine kr_iload_n 1 dX7_keep_29 rfl (k := ?_)
      refine kr_aload_n 0 dX7_keep_30 rfl (k := ?_)
      refine kr_getI 13 ckX7 lkF_X7_87 rfl (kg_o7a hk) (kg_o7n hk) dX7_keep_31 (k := ?_)
      obtain ⟨h13, h14⟩ := h11
      refine kn_iast (kg_o7s8 hk) (kg_o7m8 hk) h13 dX7_keep_34 (fun M15 e16 => ?_)
      have h17 := h14 M15 e16
      refine kr_aload_n 0 dX7_keep_35 rfl (k := ?_)
      refine kr_getR 7 ckX7 lkF_X7_55 rfl (kg_o7a hk) (kg_o7n hk) (kg_o7r7 hk) dX7_keep_36 (k := ?_)
      refine kr_iload_n 1 dX7_keep_39 rfl (k := ?_)
      refine kr_iconst (1 : Int32) dX7_keep_40 (k := ?_)
      obtain ⟨h18, h19⟩ := h17
      refine kn_zast (kg_o7s7 hk) (kg_o7m7 hk) h18 rfl dX7_keep_41 (fun M20 e21 => ?_)
      have h22 := h19 M20 e21
      refine kr_aload_n 0 dX7_keep_42 rfl (k := ?_)
      refine kr_getR 2 ckX7 lkF_X7_26 rfl (kg_o7a hk) (kg_o7n hk) (kg_o7r2 hk) dX7_keep_43 (k := ?_)
      refine kn_callVv [] [] mvX4_forget lkM_X7_106 (kg_o4a (kg_o7_past hk)) rfl (kg_o4n (kg_o7_past hk)) dX7_keep_46 (sp_X4_forget (kg_o7_past hk) h22) (fun M23 h24 => ?_)
      refine kr_iconst (1 : Int32) dX7_keep_49 (k := ?_)
      exact kr_ireturn dX7_keep_50 ⟨rfl, rfl, _, rfl, h24⟩
    · have h7 := h4.2 c5
      refine kr_ldc dX7_keep_9 lkC_X7_153 (k := ?_)
      exact kr_ireturn dX7_keep_11 ⟨rfl, rfl, _, rfl, h7⟩
set_option maxRecDepth 100000 in
set_option maxHeartbeats 4000000 in
theorem sp_X7_likes {G : kg_G} {E : State → Array Value → Prop} {R : kg_R} {n : Nat} {L S : Nat} {K : Int32 → kg_M → Prop} (hk : kg_O7 R n L S) {v1 : Int32} {v2 : Int32} {M : kg_M} (h1 : wp_X7_likes L v1 v2 M K) : kg_Run G E qX7_likes 3 0 [(0, .ref (kg_b G + 0)), (1, .int v1), (2, .int v2)] [] M R n 0 0 (kg_I R n K) := by
  unfold wp_X7_likes at h1
  refine kr_aload_n 0 dX7_likes_0 rfl (k := ?_)
  refine kr_getR 10 ckX7 lkF_X7_69 rfl (kg_o7a hk) (kg_o7n hk) (kg_o7r10 hk) dX7_likes_1 (k := ?_)
  refine kr_iload_n 1 dX7_likes_4 rfl (k := ?_)
  refine kn_callVz [.int v1] [] mvX0_hasPerson lkM_X7_168 (kg_o0a (kg_o7_land hk)) rfl (kg_o0n (kg_o7_land hk)) dX7_likes_5 (sp_X0_hasPerson (kg_o7_land hk) h1) (fun r4 M2 _ h3 => ?_)
  refine kr_if_eq 27 dX7_likes_8 (fun c5 => ?_) (fun c5 => ?_)
  · have h6 := h3.1 c5
    refine kr_ldc dX7_likes_27 lkC_X7_153 (k := ?_)
    exact kr_ireturn dX7_likes_29 ⟨rfl, rfl, _, rfl, h6⟩
  · have h7 := h3.2 c5
    refine kr_aload_n 0 dX7_likes_11 rfl (k := ?_)
    refine kr_getR 10 ckX7 lkF_X7_69 rfl (kg_o7a hk) (kg_o7n hk) (kg_o7r10 hk) dX7_likes_12 (k := ?_)
    refine kr_iload_n 2 dX7_likes_15 rfl (k := ?_)
    refine kn_callVz [.int v2] [] mvX0_hasPerson lkM_X7_168 (kg_o0a (kg_o7_land hk)) rfl (kg_o0n (kg_o7_land hk)) dX7_likes_16 (sp_X0_hasPerson (kg_o7_land hk) h7) (fun r10 M8 _ h9 => ?_)
    refine kr_if_eq 27 dX7_likes_19 (fun c11 => ?_) (fun c11 => ?_)
    · have h12 := h9.1 c11
      refine kr_ldc dX7_likes_27 lkC_X7_153 (k := ?_)
      exact kr_ireturn dX7_likes_29 ⟨rfl, rfl, _, rfl, h12⟩
    · have h13 := h9.2 c11
      refine kr_iload_n 1 dX7_likes_22 rfl (k := ?_)
      refine kr_iload_n 2 dX7_likes_23 rfl (k := ?_)
      refine kr_icmp_ne 30 dX7_likes_24 (fun c14 => ?_) (fun c14 => ?_)
      · have h15 := h13.1 c14
        refine kr_aload_n 0 dX7_likes_30 rfl (k := ?_)
        refine kr_getR 10 ckX7 lkF_X7_69 rfl (kg_o7a hk) (kg_o7n hk) (kg_o7r10 hk) dX7_likes_31 (k := ?_)
        refine kr_iload_n 1 dX7_likes_34 rfl (k := ?_)
        refine kr_iload_n 2 dX7_likes_35 rfl (k := ?_)
        refine kn_callVi [.int v1, .int v2] [] mvX0_liking lkM_X7_178 (kg_o0a (kg_o7_land hk)) rfl (kg_o0n (kg_o7_land hk)) dX7_likes_36 (sp_X0_liking (kg_o7_land hk) h15) (fun r19 M17 h18 => ?_)
        exact kr_ireturn dX7_likes_39 ⟨rfl, rfl, _, rfl, h18⟩
      · have h16 := h13.2 c14
        refine kr_ldc dX7_likes_27 lkC_X7_153 (k := ?_)
        exact kr_ireturn dX7_likes_29 ⟨rfl, rfl, _, rfl, h16⟩
set_option maxRecDepth 100000 in
set_option maxHeartbeats 4000000 in
theorem sp_X7_logged {G : kg_G} {E : State → Array Value → Prop} {R : kg_R} {n : Nat} {L S : Nat} {K : Int32 → kg_M → Prop} (hk : kg_O7 R n L S) {v1 : Int32} {M : kg_M} (h1 : wp_X7_logged L v1 M K) : kg_Run G E qX7_logged 0 0 [(0, .ref (kg_b G + 0)), (1, .int v1)] [] M R n 0 0 (kg_I R n K) := by
  unfold wp_X7_logged at h1
  refine kr_iload_n 1 dX7_logged_0 rfl (k := ?_)
  refine kr_if_lt 15 dX7_logged_1 (fun c2 => ?_) (fun c2 => ?_)
  · have h3 := h1.1 c2
    refine kr_iconst (-1 : Int32) dX7_logged_15 (k := ?_)
    exact kr_ireturn dX7_logged_16 ⟨rfl, rfl, _, rfl, h3⟩
  · have h4 := h1.2 c2
    refine kr_iload_n 1 dX7_logged_4 rfl (k := ?_)
    refine kr_aload_n 0 dX7_logged_5 rfl (k := ?_)
    refine kr_getR 1 ckX7 lkF_X7_19 rfl (kg_o7a hk) (kg_o7n hk) (kg_o7r1 hk) dX7_logged_6 (k := ?_)
    refine kr_getI 5 ckX5 lkF_X7_137 rfl (kg_o5a (kg_o7_state hk)) (kg_o5n (kg_o7_state hk)) dX7_logged_9 (k := ?_)
    refine kr_icmp_lt 17 dX7_logged_12 (fun c5 => ?_) (fun c5 => ?_)
    · have h6 := h4.1 c5
      refine kr_aload_n 0 dX7_logged_17 rfl (k := ?_)
      refine kr_getR 1 ckX7 lkF_X7_19 rfl (kg_o7a hk) (kg_o7n hk) (kg_o7r1 hk) dX7_logged_18 (k := ?_)
      refine kr_getR 8 ckX5 lkF_X7_181 rfl (kg_o5a (kg_o7_state hk)) (kg_o5n (kg_o7_state hk)) (kg_o5r8 (kg_o7_state hk)) dX7_logged_21 (k := ?_)
      refine kr_aload_n 0 dX7_logged_24 rfl (k := ?_)
      refine kr_getR 1 ckX7 lkF_X7_19 rfl (kg_o7a hk) (kg_o7n hk) (kg_o7r1 hk) dX7_logged_25 (k := ?_)
      refine kr_getI 5 ckX5 lkF_X7_137 rfl (kg_o5a (kg_o7_state hk)) (kg_o5n (kg_o7_state hk)) dX7_logged_28 (k := ?_)
      refine kr_iconst (1 : Int32) dX7_logged_31 (k := ?_)
      refine kr_isub dX7_logged_32 (k := ?_)
      refine kr_iload_n 1 dX7_logged_33 rfl (k := ?_)
      refine kr_isub dX7_logged_34 (k := ?_)
      obtain ⟨h8, h9⟩ := h6
      refine kr_iald (kg_o5s8 (kg_o7_state hk)) (kg_o5m8 (kg_o7_state hk)) h8 dX7_logged_35 (k := ?_)
      exact kr_ireturn dX7_logged_36 ⟨rfl, rfl, _, rfl, h9⟩
    · have h7 := h4.2 c5
      refine kr_iconst (-1 : Int32) dX7_logged_15 (k := ?_)
      exact kr_ireturn dX7_logged_16 ⟨rfl, rfl, _, rfl, h7⟩
set_option maxRecDepth 100000 in
set_option maxHeartbeats 4000000 in
theorem sL_X7_loves_20 {G : kg_G} {E : State → Array Value → Prop} {R : kg_R} {n : Nat} {L S : Nat} {K : Int32 → kg_M → Prop} (hk : kg_O7 R n L S) {Kx63 : Int32 → Int32 → kg_M → Prop} {Kx80 : Int32 → Int32 → Int32 → kg_M → Prop} (hKx63 : ∀ (v3 : Int32) (v4 : Int32) (M : kg_M), Kx63 v3 v4 M → kg_Run G E qX7_loves 4 63 [(3, .int v3), (4, .int v4)] [] M R n 0 0 (kg_I R n K)) (hKx80 : ∀ (v1 : Int32) (v2 : Int32) (v3 : Int32) (M : kg_M), Kx80 v1 v2 v3 M → kg_Run G E qX7_loves 4 80 [(0, .ref (kg_b G + 0)), (1, .int v1), (2, .int v2), (3, .int v3)] [] M R n 0 0 (kg_I R n K)) : ∀ (f : Nat) (v1 : Int32) (v2 : Int32) (v3 : Int32) (v4 : Int32) (M : kg_M), wL_X7_loves_20 L Kx63 Kx80 K f v1 v2 v3 v4 M → kg_Run G E qX7_loves 4 20 [(0, .ref (kg_b G + 0)), (1, .int v1), (2, .int v2), (3, .int v3), (4, .int v4)] [] M R n 0 0 (kg_I R n K) := by
  intro f
  induction f with
  | zero => intro v1 v2 v3 v4 M h0; exact h0.elim
  | succ f ih =>
    intro v1 v2 v3 v4 M h6
    rw [wL_X7_loves_20] at h6
    refine kr_iload 4 dX7_loves_20 rfl (k := ?_)
    refine kr_aload_n 0 dX7_loves_22 rfl (k := ?_)
    refine kr_getR 10 ckX7 lkF_X7_69 rfl (kg_o7a hk) (kg_o7n hk) (kg_o7r10 hk) dX7_loves_23 (k := ?_)
    refine kr_getI 1 ckX0 lkF_X7_110 rfl (kg_o0a (kg_o7_land hk)) (kg_o0n (kg_o7_land hk)) dX7_loves_26 (k := ?_)
    refine kr_icmp_ge 80 dX7_loves_29 (fun c7 => ?_) (fun c7 => ?_)
    · have h8 := h6.1 c7
      refine kr_sub [0, 1, 2, 3] [(0, .ref (kg_b G + 0)), (1, .int v1), (2, .int v2), (3, .int v3)] rfl ?_
      exact hKx80 v1 v2 v3 M h8
    · have h9 := h6.2 c7
      refine kr_aload_n 0 dX7_loves_32 rfl (k := ?_)
      refine kr_getR 10 ckX7 lkF_X7_69 rfl (kg_o7a hk) (kg_o7n hk) (kg_o7r10 hk) dX7_loves_33 (k := ?_)
      refine kr_iload_n 3 dX7_loves_36 rfl (k := ?_)
      refine kr_iload 4 dX7_loves_37 rfl (k := ?_)
      refine kn_callVz [.int v3, .int v4] [] mvX0_likesBest lkM_X7_234 (kg_o0a (kg_o7_land hk)) rfl (kg_o0n (kg_o7_land hk)) dX7_loves_39 (sp_X0_likesBest (kg_o7_land hk) h9) (fun r12 M10 _ h11 => ?_)
      refine kr_if_eq 74 dX7_loves_42 (fun c13 => ?_) (fun c13 => ?_)
      · have h14 := h11.1 c13
        refine kr_iinc (1 : Int32) 4 [(4, .int (v4 + (1 : Int32))), (0, .ref (kg_b G + 0)), (1, .int v1), (2, .int v2), (3, .int v3)] dX7_loves_74 rfl (k := ?_)
        refine kr_goto 20 dX7_loves_77 ?_
        refine kr_sub [1, 2, 3, 4, 0] [(0, .ref (kg_b G + 0)), (1, .int v1), (2, .int v2), (3, .int v3), (4, .int (v4 + (1 : Int32)))] rfl ?_
        exact ih v1 v2 v3 (v4 + (1 : Int32)) M10 h14
      · have h15 := h11.2 c13
        refine kr_aload_n 0 dX7_loves_45 rfl (k := ?_)
        refine kr_getR 10 ckX7 lkF_X7_69 rfl (kg_o7a hk) (kg_o7n hk) (kg_o7r10 hk) dX7_loves_46 (k := ?_)
        refine kr_iload 4 dX7_loves_49 rfl (k := ?_)
        refine kr_iload_n 3 dX7_loves_51 rfl (k := ?_)
        refine kn_callVz [.int v4, .int v3] [] mvX0_likesBest lkM_X7_234 (kg_o0a (kg_o7_land hk)) rfl (kg_o0n (kg_o7_land hk)) dX7_loves_52 (sp_X0_likesBest (kg_o7_land hk) h15) (fun r18 M16 _ h17 => ?_)
        refine kr_if_eq 74 dX7_loves_55 (fun c19 => ?_) (fun c19 => ?_)
        · have h20 := h17.1 c19
          refine kr_iinc (1 : Int32) 4 [(4, .int (v4 + (1 : Int32))), (0, .ref (kg_b G + 0)), (1, .int v1), (2, .int v2), (3, .int v3)] dX7_loves_74 rfl (k := ?_)
          refine kr_goto 20 dX7_loves_77 ?_
          refine kr_sub [1, 2, 3, 4, 0] [(0, .ref (kg_b G + 0)), (1, .int v1), (2, .int v2), (3, .int v3), (4, .int (v4 + (1 : Int32)))] rfl ?_
          exact ih v1 v2 v3 (v4 + (1 : Int32)) M16 h20
        · have h21 := h17.2 c19
          refine kr_iload_n 2 dX7_loves_58 rfl (k := ?_)
          refine kr_iload_n 1 dX7_loves_59 rfl (k := ?_)
          refine kr_icmp_ne 71 dX7_loves_60 (fun c22 => ?_) (fun c22 => ?_)
          · have h23 := h21.1 c22
            refine kr_iinc (1 : Int32) 2 [(2, .int (v2 + (1 : Int32))), (0, .ref (kg_b G + 0)), (1, .int v1), (3, .int v3), (4, .int v4)] dX7_loves_71 rfl (k := ?_)
            refine kr_iinc (1 : Int32) 4 [(4, .int (v4 + (1 : Int32))), (2, .int (v2 + (1 : Int32))), (0, .ref (kg_b G + 0)), (1, .int v1), (3, .int v3)] dX7_loves_74 rfl (k := ?_)
            refine kr_goto 20 dX7_loves_77 ?_
            refine kr_sub [2, 3, 1, 4, 0] [(0, .ref (kg_b G + 0)), (1, .int v1), (2, .int (v2 + (1 : Int32))), (3, .int v3), (4, .int (v4 + (1 : Int32)))] rfl ?_
            exact ih v1 (v2 + (1 : Int32)) v3 (v4 + (1 : Int32)) M16 h23
          · have h24 := h21.2 c22
            refine kr_sub [3, 4] [(3, .int v3), (4, .int v4)] rfl ?_
            exact hKx63 v3 v4 M16 h24
set_option maxRecDepth 100000 in
set_option maxHeartbeats 4000000 in
theorem sL_X7_loves_4 {G : kg_G} {E : State → Array Value → Prop} {R : kg_R} {n : Nat} {L S : Nat} {K : Int32 → kg_M → Prop} (hk : kg_O7 R n L S) {Kx63 : Int32 → Int32 → kg_M → Prop} {Kx86 : Int32 → Int32 → kg_M → Prop} (hKx63 : ∀ (v3 : Int32) (v4 : Int32) (M : kg_M), Kx63 v3 v4 M → kg_Run G E qX7_loves 4 63 [(3, .int v3), (4, .int v4)] [] M R n 0 0 (kg_I R n K)) (hKx86 : ∀ (v1 : Int32) (v2 : Int32) (M : kg_M), Kx86 v1 v2 M → kg_Run G E qX7_loves 4 86 [(1, .int v1), (2, .int v2)] [] M R n 0 0 (kg_I R n K)) : ∀ (f : Nat) (v1 : Int32) (v2 : Int32) (v3 : Int32) (M : kg_M), wL_X7_loves_4 L Kx63 Kx86 K f v1 v2 v3 M → kg_Run G E qX7_loves 4 4 [(0, .ref (kg_b G + 0)), (1, .int v1), (2, .int v2), (3, .int v3)] [] M R n 0 0 (kg_I R n K) := by
  intro f
  induction f with
  | zero => intro v1 v2 v3 M h0; exact h0.elim
  | succ f ih =>
    intro v1 v2 v3 M h2
    rw [wL_X7_loves_4] at h2
    refine kr_iload_n 3 dX7_loves_4 rfl (k := ?_)
    refine kr_aload_n 0 dX7_loves_5 rfl (k := ?_)
    refine kr_getR 10 ckX7 lkF_X7_69 rfl (kg_o7a hk) (kg_o7n hk) (kg_o7r10 hk) dX7_loves_6 (k := ?_)
    refine kr_getI 1 ckX0 lkF_X7_110 rfl (kg_o0a (kg_o7_land hk)) (kg_o0n (kg_o7_land hk)) dX7_loves_9 (k := ?_)
    refine kr_icmp_ge 86 dX7_loves_12 (fun c3 => ?_) (fun c3 => ?_)
    · have h4 := h2.1 c3
      refine kr_sub [1, 2] [(1, .int v1), (2, .int v2)] rfl ?_
      exact hKx86 v1 v2 M h4
    · have h5 := h2.2 c3
      refine kr_iload_n 3 dX7_loves_15 rfl (k := ?_)
      refine kr_iconst (1 : Int32) dX7_loves_16 (k := ?_)
      refine kr_iadd dX7_loves_17 (k := ?_)
      refine kr_istore [(4, .int (v3 + (1 : Int32))), (0, .ref (kg_b G + 0)), (1, .int v1), (2, .int v2), (3, .int v3)] dX7_loves_18 (k := ?_)
      refine kr_sub [1, 2, 3, 4, 0] [(0, .ref (kg_b G + 0)), (1, .int v1), (2, .int v2), (3, .int v3), (4, .int (v3 + (1 : Int32)))] rfl ?_
      obtain ⟨f27, h28⟩ := h5
      refine sL_X7_loves_20 hk ?_ ?_ f27 v1 v2 v3 (v3 + (1 : Int32)) M h28
      · intro v3 v4 M h25
        refine kr_sub [0, 1] [(3, .int v3), (4, .int v4)] rfl ?_
        exact hKx63 v3 v4 M h25
      · intro v1 v2 v3 M h26
        refine kr_iinc (1 : Int32) 3 [(3, .int (v3 + (1 : Int32))), (0, .ref (kg_b G + 0)), (1, .int v1), (2, .int v2)] dX7_loves_80 rfl (k := ?_)
        refine kr_goto 4 dX7_loves_83 ?_
        refine kr_sub [1, 2, 3, 0] [(0, .ref (kg_b G + 0)), (1, .int v1), (2, .int v2), (3, .int (v3 + (1 : Int32)))] rfl ?_
        exact ih v1 v2 (v3 + (1 : Int32)) M h26
set_option maxRecDepth 100000 in
set_option maxHeartbeats 4000000 in
theorem sp_X7_loves {G : kg_G} {E : State → Array Value → Prop} {R : kg_R} {n : Nat} {L S : Nat} {K : Int32 → kg_M → Prop} (hk : kg_O7 R n L S) {v1 : Int32} {M : kg_M} (h1 : wp_X7_loves L v1 M K) : kg_Run G E qX7_loves 4 0 [(0, .ref (kg_b G + 0)), (1, .int v1)] [] M R n 0 0 (kg_I R n K) := by
  unfold wp_X7_loves at h1
  refine kr_iconst (0 : Int32) dX7_loves_0 (k := ?_)
  refine kr_istore_n [(2, .int (0 : Int32)), (0, .ref (kg_b G + 0)), (1, .int v1)] dX7_loves_1 (k := ?_)
  refine kr_iconst (0 : Int32) dX7_loves_2 (k := ?_)
  refine kr_istore_n [(3, .int (0 : Int32)), (2, .int (0 : Int32)), (0, .ref (kg_b G + 0)), (1, .int v1)] dX7_loves_3 (k := ?_)
  refine kr_sub [2, 3, 1, 0] [(0, .ref (kg_b G + 0)), (1, .int v1), (2, .int (0 : Int32)), (3, .int (0 : Int32))] rfl ?_
  obtain ⟨f34, h35⟩ := h1
  refine sL_X7_loves_4 hk ?_ ?_ f34 v1 (0 : Int32) (0 : Int32) M h35
  · intro v3 v4 M h29
    refine kr_bipush (10 : Int32) dX7_loves_63 (k := ?_)
    refine kr_iload_n 0 dX7_loves_65 rfl (k := ?_)
    refine kr_imul dX7_loves_66 (k := ?_)
    refine kr_iload 1 dX7_loves_67 rfl (k := ?_)
    refine kr_iadd dX7_loves_69 (k := ?_)
    exact kr_ireturn dX7_loves_70 ⟨rfl, rfl, _, rfl, h29⟩
  · intro v1 v2 M h30
    refine kr_iload_n 0 dX7_loves_86 rfl (k := ?_)
    refine kr_iconst (-1 : Int32) dX7_loves_87 (k := ?_)
    refine kr_icmp_ne 95 dX7_loves_88 (fun c31 => ?_) (fun c31 => ?_)
    · have h32 := h30.1 c31
      refine kr_iconst (-1 : Int32) dX7_loves_95 (k := ?_)
      exact kr_ireturn dX7_loves_96 ⟨rfl, rfl, _, rfl, h32⟩
    · have h33 := h30.2 c31
      refine kr_iload_n 1 dX7_loves_91 rfl (k := ?_)
      refine kr_goto 96 dX7_loves_92 ?_
      exact kr_ireturn dX7_loves_96 ⟨rfl, rfl, _, rfl, h33⟩
set_option maxRecDepth 100000 in
set_option maxHeartbeats 4000000 in
theorem sJ_X7_oil_34 {G : kg_G} {E : State → Array Value → Prop} {R : kg_R} {n : Nat} {L S : Nat} {K : Int32 → kg_M → Prop} (hk : kg_O7 R n L S) (hn : ¬ n < kg_all) (v1 : Int32) (s0 : Int32) (M : kg_M) (h14 : wJ_X7_oil_34 L K v1 s0 M) : kg_Run G E qX7_oil 2 34 [(0, .ref (kg_b G + 0)), (1, .int v1)] [.int s0] M R n 0 0 (kg_I R n K) := by
  unfold wJ_X7_oil_34 at h14
  refine kr_istore_n [(2, .int s0), (0, .ref (kg_b G + 0)), (1, .int v1)] dX7_oil_34 (k := ?_)
  refine kr_aload_n 1 dX7_oil_35 rfl (k := ?_)
  refine kr_getR 2 ckX7 lkF_X7_26 rfl (kg_o7a hk) (kg_o7n hk) (kg_o7r2 hk) dX7_oil_36 (k := ?_)
  refine kr_aload_n 1 dX7_oil_39 rfl (k := ?_)
  refine kr_getR 1 ckX7 lkF_X7_19 rfl (kg_o7a hk) (kg_o7n hk) (kg_o7r1 hk) dX7_oil_40 (k := ?_)
  refine kn_callVv [.ref (kg_b G + 3)] [] mvX4_remember lkM_X7_187 (kg_o4a (kg_o7_past hk)) rfl (kg_o4n (kg_o7_past hk)) dX7_oil_43 (sp_X4_remember (kg_o7_past hk) (kg_o7_state hk) hn h14) (fun M15 h16 => ?_)
  refine kr_aload_n 1 dX7_oil_46 rfl (k := ?_)
  refine kr_getR 1 ckX7 lkF_X7_19 rfl (kg_o7a hk) (kg_o7n hk) (kg_o7r1 hk) dX7_oil_47 (k := ?_)
  refine kr_getR 7 ckX5 lkF_X7_157 rfl (kg_o5a (kg_o7_state hk)) (kg_o5n (kg_o7_state hk)) (kg_o5r7 (kg_o7_state hk)) dX7_oil_50 (k := ?_)
  refine kr_iload_n 2 dX7_oil_53 rfl (k := ?_)
  refine kr_iconst (0 : Int32) dX7_oil_54 (k := ?_)
  obtain ⟨h18, h19⟩ := h16
  refine kn_iast (kg_o5s7 (kg_o7_state hk)) (kg_o5m7 (kg_o7_state hk)) h18 dX7_oil_55 (fun M20 e21 => ?_)
  have h22 := h19 M20 e21
  refine kr_iload_n 0 dX7_oil_56 rfl (k := ?_)
  exact kr_ireturn dX7_oil_57 ⟨rfl, rfl, _, rfl, h22⟩
set_option maxRecDepth 100000 in
set_option maxHeartbeats 4000000 in
theorem sp_X7_oil {G : kg_G} {E : State → Array Value → Prop} {R : kg_R} {n : Nat} {L S : Nat} {K : Int32 → kg_M → Prop} (hk : kg_O7 R n L S) (hn : ¬ n < kg_all) {v1 : Int32} {M : kg_M} (h1 : wp_X7_oil L v1 M K) : kg_Run G E qX7_oil 2 0 [(0, .ref (kg_b G + 0)), (1, .int v1)] [] M R n 0 0 (kg_I R n K) := by
  unfold wp_X7_oil at h1
  refine kr_aload_n 0 dX7_oil_0 rfl (k := ?_)
  refine kr_getR 10 ckX7 lkF_X7_69 rfl (kg_o7a hk) (kg_o7n hk) (kg_o7r10 hk) dX7_oil_1 (k := ?_)
  refine kr_iload_n 1 dX7_oil_4 rfl (k := ?_)
  refine kn_callVz [.int v1] [] mvX0_hasGate lkM_X7_149 (kg_o0a (kg_o7_land hk)) rfl (kg_o0n (kg_o7_land hk)) dX7_oil_5 (sp_X0_hasGate (kg_o7_land hk) h1) (fun r4 M2 _ h3 => ?_)
  refine kr_if_ne 14 dX7_oil_8 (fun c5 => ?_) (fun c5 => ?_)
  · have h6 := h3.1 c5
    refine kr_aload_n 0 dX7_oil_14 rfl (k := ?_)
    refine kr_getR 1 ckX7 lkF_X7_19 rfl (kg_o7a hk) (kg_o7n hk) (kg_o7r1 hk) dX7_oil_15 (k := ?_)
    refine kr_aload_n 0 dX7_oil_18 rfl (k := ?_)
    refine kr_getR 10 ckX7 lkF_X7_69 rfl (kg_o7a hk) (kg_o7n hk) (kg_o7r10 hk) dX7_oil_19 (k := ?_)
    refine kr_iload_n 1 dX7_oil_22 rfl (k := ?_)
    refine kn_callVz [.ref (kg_b G + L), .int v1] [] mvX5_isRusted lkM_X7_160 (kg_o5a (kg_o7_state hk)) rfl (kg_o5n (kg_o7_state hk)) dX7_oil_23 (sp_X5_isRusted (kg_o7_state hk) (kg_o7_land hk) h6) (fun r10 M8 _ h9 => ?_)
    refine kr_if_eq 33 dX7_oil_26 (fun c11 => ?_) (fun c11 => ?_)
    · have h12 := h9.1 c11
      refine kr_iconst (0 : Int32) dX7_oil_33 (k := ?_)
      refine kr_sub [0, 1] [(0, .ref (kg_b G + 0)), (1, .int v1)] rfl ?_
      exact sJ_X7_oil_34 hk hn v1 (0 : Int32) M8 h12
    · have h13 := h9.2 c11
      refine kr_iconst (1 : Int32) dX7_oil_29 (k := ?_)
      refine kr_goto 34 dX7_oil_30 ?_
      refine kr_sub [0, 1] [(0, .ref (kg_b G + 0)), (1, .int v1)] rfl ?_
      exact sJ_X7_oil_34 hk hn v1 (1 : Int32) M8 h13
  · have h7 := h3.2 c5
    refine kr_ldc dX7_oil_11 lkC_X7_153 (k := ?_)
    exact kr_ireturn dX7_oil_13 ⟨rfl, rfl, _, rfl, h7⟩
set_option maxRecDepth 100000 in
set_option maxHeartbeats 4000000 in
theorem sL_X7_oilings_16 {G : kg_G} {E : State → Array Value → Prop} {R : kg_R} {n : Nat} {L S : Nat} {K : Int32 → kg_M → Prop} (hk : kg_O7 R n L S) {Kx51 : Int32 → kg_M → Prop} (hKx51 : ∀ (v3 : Int32) (M : kg_M), Kx51 v3 M → kg_Run G E qX7_oilings 0 51 [(3, .int v3)] [] M R n 0 0 (kg_I R n K)) : ∀ (f : Nat) (v1 : Int32) (v2 : Int32) (v3 : Int32) (v4 : Int32) (v5 : Int32) (M : kg_M), wL_X7_oilings_16 L Kx51 K f v1 v2 v3 v4 v5 M → kg_Run G E qX7_oilings 0 16 [(0, .ref (kg_b G + 0)), (1, .int v1), (2, .int v2), (3, .int v3), (4, .int v4), (5, .int v5)] [] M R n 0 0 (kg_I R n K) := by
  intro f
  induction f with
  | zero => intro v1 v2 v3 v4 v5 M h0; exact h0.elim
  | succ f ih =>
    intro v1 v2 v3 v4 v5 M h4
    rw [wL_X7_oilings_16] at h4
    refine kr_iload 5 dX7_oilings_16 rfl (k := ?_)
    refine kr_iload_n 2 dX7_oilings_18 rfl (k := ?_)
    refine kr_icmp_ge 51 dX7_oilings_19 (fun c5 => ?_) (fun c5 => ?_)
    · have h6 := h4.1 c5
      refine kr_sub [3] [(3, .int v3)] rfl ?_
      exact hKx51 v3 M h6
    · have h7 := h4.2 c5
      refine kr_iload 4 dX7_oilings_22 rfl (k := ?_)
      refine kr_aload_n 0 dX7_oilings_24 rfl (k := ?_)
      refine kr_getR 10 ckX7 lkF_X7_69 rfl (kg_o7a hk) (kg_o7n hk) (kg_o7r10 hk) dX7_oilings_25 (k := ?_)
      refine kr_getR 4 ckX0 lkF_X7_154 rfl (kg_o0a (kg_o7_land hk)) (kg_o0n (kg_o7_land hk)) (kg_o0r4 (kg_o7_land hk)) dX7_oilings_28 (k := ?_)
      refine kr_iload_n 1 dX7_oilings_31 rfl (k := ?_)
      obtain ⟨h8, h9⟩ := h7
      refine kr_iald (kg_o0s4 (kg_o7_land hk)) (kg_o0m4 (kg_o7_land hk)) h8 dX7_oilings_32 (k := ?_)
      refine kr_icmp_lt 42 dX7_oilings_33 (fun c10 => ?_) (fun c10 => ?_)
      · have h11 := h9.1 c10
        refine kr_iinc (1 : Int32) 4 [(4, .int (v4 + (1 : Int32))), (0, .ref (kg_b G + 0)), (1, .int v1), (2, .int v2), (3, .int v3), (5, .int v5)] dX7_oilings_42 rfl (k := ?_)
        refine kr_iinc (1 : Int32) 5 [(5, .int (v5 + (1 : Int32))), (4, .int (v4 + (1 : Int32))), (0, .ref (kg_b G + 0)), (1, .int v1), (2, .int v2), (3, .int v3)] dX7_oilings_45 rfl (k := ?_)
        refine kr_goto 16 dX7_oilings_48 ?_
        refine kr_sub [2, 3, 4, 5, 1, 0] [(0, .ref (kg_b G + 0)), (1, .int v1), (2, .int v2), (3, .int v3), (4, .int (v4 + (1 : Int32))), (5, .int (v5 + (1 : Int32)))] rfl ?_
        exact ih v1 v2 v3 (v4 + (1 : Int32)) (v5 + (1 : Int32)) M h11
      · have h12 := h9.2 c10
        refine kr_iinc (1 : Int32) 3 [(3, .int (v3 + (1 : Int32))), (0, .ref (kg_b G + 0)), (1, .int v1), (2, .int v2), (4, .int v4), (5, .int v5)] dX7_oilings_36 rfl (k := ?_)
        refine kr_iconst (0 : Int32) dX7_oilings_39 (k := ?_)
        refine kr_istore [(4, .int (0 : Int32)), (3, .int (v3 + (1 : Int32))), (0, .ref (kg_b G + 0)), (1, .int v1), (2, .int v2), (5, .int v5)] dX7_oilings_40 (k := ?_)
        refine kr_iinc (1 : Int32) 0 [(4, .int ((0 : Int32) + (1 : Int32))), (3, .int (v3 + (1 : Int32))), (0, .ref (kg_b G + 0)), (1, .int v1), (2, .int v2), (5, .int v5)] dX7_oilings_42 rfl (k := ?_)
        refine kr_iinc (1 : Int32) 5 [(5, .int (v5 + (1 : Int32))), (4, .int ((0 : Int32) + (1 : Int32))), (3, .int (v3 + (1 : Int32))), (0, .ref (kg_b G + 0)), (1, .int v1), (2, .int v2)] dX7_oilings_45 rfl (k := ?_)
        refine kr_goto 16 dX7_oilings_48 ?_
        refine kr_sub [3, 4, 5, 2, 1, 0] [(0, .ref (kg_b G + 0)), (1, .int v1), (2, .int v2), (3, .int (v3 + (1 : Int32))), (4, .int ((0 : Int32) + (1 : Int32))), (5, .int (v5 + (1 : Int32)))] rfl ?_
        exact ih v1 v2 (v3 + (1 : Int32)) ((0 : Int32) + (1 : Int32)) (v5 + (1 : Int32)) M h12
set_option maxRecDepth 100000 in
set_option maxHeartbeats 4000000 in
theorem sp_X7_oilings {G : kg_G} {E : State → Array Value → Prop} {R : kg_R} {n : Nat} {L S : Nat} {K : Int32 → kg_M → Prop} (hk : kg_O7 R n L S) {v1 : Int32} {v2 : Int32} {M : kg_M} (h1 : wp_X7_oilings L v1 v2 M K) : kg_Run G E qX7_oilings 0 0 [(0, .ref (kg_b G + 0)), (1, .int v1), (2, .int v2)] [] M R n 0 0 (kg_I R n K) := by
  unfold wp_X7_oilings at h1
  refine kr_iconst (0 : Int32) dX7_oilings_0 (k := ?_)
  refine kr_istore_n [(3, .int (0 : Int32)), (0, .ref (kg_b G + 0)), (1, .int v1), (2, .int v2)] dX7_oilings_1 (k := ?_)
  refine kr_aload_n 1 dX7_oilings_2 rfl (k := ?_)
  refine kr_getR 1 ckX7 lkF_X7_19 rfl (kg_o7a hk) (kg_o7n hk) (kg_o7r1 hk) dX7_oilings_3 (k := ?_)
  refine kr_getR 7 ckX5 lkF_X7_157 rfl (kg_o5a (kg_o7_state hk)) (kg_o5n (kg_o7_state hk)) (kg_o5r7 (kg_o7_state hk)) dX7_oilings_6 (k := ?_)
  refine kr_iload_n 2 dX7_oilings_9 rfl (k := ?_)
  obtain ⟨h2, h3⟩ := h1
  refine kr_iald (kg_o5s7 (kg_o7_state hk)) (kg_o5m7 (kg_o7_state hk)) h2 dX7_oilings_10 (k := ?_)
  refine kr_istore [(4, .int (M 5 v1.toNatClampNeg)), (3, .int (0 : Int32)), (0, .ref (kg_b G + 0)), (1, .int v1), (2, .int v2)] dX7_oilings_11 (k := ?_)
  refine kr_iconst (0 : Int32) dX7_oilings_13 (k := ?_)
  refine kr_istore [(5, .int (0 : Int32)), (4, .int (M 5 v1.toNatClampNeg)), (3, .int (0 : Int32)), (0, .ref (kg_b G + 0)), (1, .int v1), (2, .int v2)] dX7_oilings_14 (k := ?_)
  refine kr_sub [3, 4, 5, 2, 1, 0] [(0, .ref (kg_b G + 0)), (1, .int v1), (2, .int v2), (3, .int (0 : Int32)), (4, .int (M 5 v1.toNatClampNeg)), (5, .int (0 : Int32))] rfl ?_
  obtain ⟨f14, h15⟩ := h3
  refine sL_X7_oilings_16 hk ?_ f14 v1 v2 (0 : Int32) (M 5 v1.toNatClampNeg) (0 : Int32) M h15
  · intro v3 M h13
    refine kr_iload_n 0 dX7_oilings_51 rfl (k := ?_)
    exact kr_ireturn dX7_oilings_52 ⟨rfl, rfl, _, rfl, h13⟩
set_option maxRecDepth 100000 in
set_option maxHeartbeats 4000000 in
theorem sL_X7_oilFor_18 {G : kg_G} {E : State → Array Value → Prop} {R : kg_R} {n : Nat} {L S : Nat} {K : Int32 → kg_M → Prop} (hk : kg_O7 R n L S) {Kx44 : Int32 → kg_M → Prop} (hKx44 : ∀ (v2 : Int32) (M : kg_M), Kx44 v2 M → kg_Run G E qX7_oilFor 1 44 [(2, .int v2)] [] M R n 0 0 (kg_I R n K)) : ∀ (f : Nat) (v1 : Int32) (v2 : Int32) (v3 : Int32) (M : kg_M), wL_X7_oilFor_18 L Kx44 K f v1 v2 v3 M → kg_Run G E qX7_oilFor 1 18 [(0, .ref (kg_b G + 0)), (1, .int v1), (2, .int v2), (3, .int v3)] [] M R n 0 0 (kg_I R n K) := by
  intro f
  induction f with
  | zero => intro v1 v2 v3 M h0; exact h0.elim
  | succ f ih =>
    intro v1 v2 v3 M h8
    rw [wL_X7_oilFor_18] at h8
    refine kr_iload_n 3 dX7_oilFor_18 rfl (k := ?_)
    refine kr_aload_n 0 dX7_oilFor_19 rfl (k := ?_)
    refine kr_getR 10 ckX7 lkF_X7_69 rfl (kg_o7a hk) (kg_o7n hk) (kg_o7r10 hk) dX7_oilFor_20 (k := ?_)
    refine kr_getI 0 ckX0 lkF_X7_113 rfl (kg_o0a (kg_o7_land hk)) (kg_o0n (kg_o7_land hk)) dX7_oilFor_23 (k := ?_)
    refine kr_icmp_ge 44 dX7_oilFor_26 (fun c9 => ?_) (fun c9 => ?_)
    · have h10 := h8.1 c9
      refine kr_sub [2] [(2, .int v2)] rfl ?_
      exact hKx44 v2 M h10
    · have h11 := h8.2 c9
      refine kr_iload_n 2 dX7_oilFor_29 rfl (k := ?_)
      refine kr_aload_n 0 dX7_oilFor_30 rfl (k := ?_)
      refine kr_iload_n 3 dX7_oilFor_31 rfl (k := ?_)
      refine kr_iload_n 1 dX7_oilFor_32 rfl (k := ?_)
      refine kn_callVi [.int v3, .int v1] [.int v2] mvX7_oilings lkM_X7_240 (kg_o7a hk) rfl (kg_o7n hk) dX7_oilFor_33 (sp_X7_oilings hk h11) (fun r14 M12 h13 => ?_)
      refine kr_iadd dX7_oilFor_36 (k := ?_)
      refine kr_istore_n [(2, .int (v2 + r14)), (0, .ref (kg_b G + 0)), (1, .int v1), (3, .int v3)] dX7_oilFor_37 (k := ?_)
      refine kr_iinc (1 : Int32) 3 [(3, .int (v3 + (1 : Int32))), (2, .int (v2 + r14)), (0, .ref (kg_b G + 0)), (1, .int v1)] dX7_oilFor_38 rfl (k := ?_)
      refine kr_goto 18 dX7_oilFor_41 ?_
      refine kr_sub [2, 3, 1, 0] [(0, .ref (kg_b G + 0)), (1, .int v1), (2, .int (v2 + r14)), (3, .int (v3 + (1 : Int32)))] rfl ?_
      exact ih v1 (v2 + r14) (v3 + (1 : Int32)) M12 h13
set_option maxRecDepth 100000 in
set_option maxHeartbeats 4000000 in
theorem sp_X7_oilFor {G : kg_G} {E : State → Array Value → Prop} {R : kg_R} {n : Nat} {L S : Nat} {K : Int32 → kg_M → Prop} (hk : kg_O7 R n L S) {v1 : Int32} {M : kg_M} (h1 : wp_X7_oilFor L v1 M K) : kg_Run G E qX7_oilFor 1 0 [(0, .ref (kg_b G + 0)), (1, .int v1)] [] M R n 0 0 (kg_I R n K) := by
  unfold wp_X7_oilFor at h1
  refine kr_iload_n 1 dX7_oilFor_0 rfl (k := ?_)
  refine kr_if_lt 11 dX7_oilFor_1 (fun c2 => ?_) (fun c2 => ?_)
  · have h3 := h1.1 c2
    refine kr_ldc dX7_oilFor_11 lkC_X7_90 (k := ?_)
    exact kr_ireturn dX7_oilFor_13 ⟨rfl, rfl, _, rfl, h3⟩
  · have h4 := h1.2 c2
    refine kr_iload_n 1 dX7_oilFor_4 rfl (k := ?_)
    refine kr_sipush (200 : Int32) dX7_oilFor_5 (k := ?_)
    refine kr_icmp_le 14 dX7_oilFor_8 (fun c5 => ?_) (fun c5 => ?_)
    · have h6 := h4.1 c5
      refine kr_iconst (0 : Int32) dX7_oilFor_14 (k := ?_)
      refine kr_istore_n [(2, .int (0 : Int32)), (0, .ref (kg_b G + 0)), (1, .int v1)] dX7_oilFor_15 (k := ?_)
      refine kr_iconst (0 : Int32) dX7_oilFor_16 (k := ?_)
      refine kr_istore_n [(3, .int (0 : Int32)), (2, .int (0 : Int32)), (0, .ref (kg_b G + 0)), (1, .int v1)] dX7_oilFor_17 (k := ?_)
      refine kr_sub [2, 3, 1, 0] [(0, .ref (kg_b G + 0)), (1, .int v1), (2, .int (0 : Int32)), (3, .int (0 : Int32))] rfl ?_
      obtain ⟨f16, h17⟩ := h6
      refine sL_X7_oilFor_18 hk ?_ f16 v1 (0 : Int32) (0 : Int32) M h17
      · intro v2 M h15
        refine kr_iload_n 0 dX7_oilFor_44 rfl (k := ?_)
        exact kr_ireturn dX7_oilFor_45 ⟨rfl, rfl, _, rfl, h15⟩
    · have h7 := h4.2 c5
      refine kr_ldc dX7_oilFor_11 lkC_X7_90 (k := ?_)
      exact kr_ireturn dX7_oilFor_13 ⟨rfl, rfl, _, rfl, h7⟩
set_option maxRecDepth 100000 in
set_option maxHeartbeats 4000000 in
theorem sp_X7_person {G : kg_G} {E : State → Array Value → Prop} {R : kg_R} {n : Nat} {L S : Nat} {K : Int32 → kg_M → Prop} (hk : kg_O7 R n L S) {v1 : Int32} {v2 : Int32} {M : kg_M} (h1 : wp_X7_person L v1 v2 M K) : kg_Run G E qX7_person 1 0 [(0, .ref (kg_b G + 0)), (1, .int v1), (2, .int v2)] [] M R n 0 0 (kg_I R n K) := by
  unfold wp_X7_person at h1
  refine kr_aload_n 0 dX7_person_0 rfl (k := ?_)
  refine kr_getR 10 ckX7 lkF_X7_69 rfl (kg_o7a hk) (kg_o7n hk) (kg_o7r10 hk) dX7_person_1 (k := ?_)
  refine kr_iload_n 1 dX7_person_4 rfl (k := ?_)
  refine kn_callVz [.int v1] [] mvX0_hasPerson lkM_X7_168 (kg_o0a (kg_o7_land hk)) rfl (kg_o0n (kg_o7_land hk)) dX7_person_5 (sp_X0_hasPerson (kg_o7_land hk) h1) (fun r4 M2 _ h3 => ?_)
  refine kr_if_ne 14 dX7_person_8 (fun c5 => ?_) (fun c5 => ?_)
  · have h6 := h3.1 c5
    refine kr_iload_n 2 dX7_person_14 rfl (k := ?_)
    by_cases c9 : v2 = (0 : Int32)
    · have h10 := h6.1 c9
      refine kr_tableIn (off := 29) 44 dX7_person_15 (by rw [c9]; decide) (by rw [c9]; decide) (by rw [c9]; decide) (by decide) ?_
      refine kr_aload_n 0 dX7_person_44 rfl (k := ?_)
      refine kr_getR 1 ckX7 lkF_X7_19 rfl (kg_o7a hk) (kg_o7n hk) (kg_o7r1 hk) dX7_person_45 (k := ?_)
      refine kr_getI 3 ckX5 lkF_X7_125 rfl (kg_o5a (kg_o7_state hk)) (kg_o5n (kg_o7_state hk)) dX7_person_48 (k := ?_)
      refine kr_iload_n 1 dX7_person_51 rfl (k := ?_)
      refine kr_ishr dX7_person_52 (k := ?_)
      refine kr_iconst (1 : Int32) dX7_person_53 (k := ?_)
      refine kr_iand dX7_person_54 (k := ?_)
      exact kr_ireturn dX7_person_55 ⟨rfl, rfl, _, rfl, h10⟩
    · have h11 := h6.2 c9
      by_cases c12 : v2 = (1 : Int32)
      · have h13 := h11.1 c12
        refine kr_tableIn (off := 41) 56 dX7_person_15 (by rw [c12]; decide) (by rw [c12]; decide) (by rw [c12]; decide) (by decide) ?_
        refine kr_aload_n 0 dX7_person_56 rfl (k := ?_)
        refine kr_getR 1 ckX7 lkF_X7_19 rfl (kg_o7a hk) (kg_o7n hk) (kg_o7r1 hk) dX7_person_57 (k := ?_)
        refine kr_getR 6 ckX5 lkF_X7_171 rfl (kg_o5a (kg_o7_state hk)) (kg_o5n (kg_o7_state hk)) (kg_o5r6 (kg_o7_state hk)) dX7_person_60 (k := ?_)
        refine kr_iload_n 1 dX7_person_63 rfl (k := ?_)
        obtain ⟨h15, h16⟩ := h13
        refine kr_iald (kg_o5s6 (kg_o7_state hk)) (kg_o5m6 (kg_o7_state hk)) h15 dX7_person_64 (k := ?_)
        exact kr_ireturn dX7_person_65 ⟨rfl, rfl, _, rfl, h16⟩
      · have h14 := h11.2 c12
        by_cases c17 : v2 = (2 : Int32)
        · have h18 := h14.1 c17
          refine kr_tableIn (off := 51) 66 dX7_person_15 (by rw [c17]; decide) (by rw [c17]; decide) (by rw [c17]; decide) (by decide) ?_
          refine kr_aload_n 0 dX7_person_66 rfl (k := ?_)
          refine kr_getR 1 ckX7 lkF_X7_19 rfl (kg_o7a hk) (kg_o7n hk) (kg_o7r1 hk) dX7_person_67 (k := ?_)
          refine kr_getI 4 ckX5 lkF_X7_128 rfl (kg_o5a (kg_o7_state hk)) (kg_o5n (kg_o7_state hk)) dX7_person_70 (k := ?_)
          refine kr_iload_n 1 dX7_person_73 rfl (k := ?_)
          refine kr_ishr dX7_person_74 (k := ?_)
          refine kr_iconst (1 : Int32) dX7_person_75 (k := ?_)
          refine kr_iand dX7_person_76 (k := ?_)
          exact kr_ireturn dX7_person_77 ⟨rfl, rfl, _, rfl, h18⟩
        · have h19 := h14.2 c17
          by_cases c20 : v2 = (3 : Int32)
          · have h21 := h19.1 c20
            refine kr_tableIn (off := 63) 78 dX7_person_15 (by rw [c20]; decide) (by rw [c20]; decide) (by rw [c20]; decide) (by decide) ?_
            refine kr_aload_n 0 dX7_person_78 rfl (k := ?_)
            refine kr_getR 10 ckX7 lkF_X7_69 rfl (kg_o7a hk) (kg_o7n hk) (kg_o7r10 hk) dX7_person_79 (k := ?_)
            refine kr_iload_n 1 dX7_person_82 rfl (k := ?_)
            refine kr_aload_n 0 dX7_person_83 rfl (k := ?_)
            refine kr_getR 1 ckX7 lkF_X7_19 rfl (kg_o7a hk) (kg_o7n hk) (kg_o7r1 hk) dX7_person_84 (k := ?_)
            refine kr_getI 3 ckX5 lkF_X7_125 rfl (kg_o5a (kg_o7_state hk)) (kg_o5n (kg_o7_state hk)) dX7_person_87 (k := ?_)
            refine kn_callVi [.int v1, .int (M2 3 3)] [] mvX0_wouldMeet lkM_X7_174 (kg_o0a (kg_o7_land hk)) rfl (kg_o0n (kg_o7_land hk)) dX7_person_90 (sp_X0_wouldMeet (kg_o7_land hk) h21) (fun r25 M23 h24 => ?_)
            exact kr_ireturn dX7_person_93 ⟨rfl, rfl, _, rfl, h24⟩
          · have h22 := h19.2 c20
            have e0_ : v2.toInt ≠ (0 : Int) := fun e => c9 (Int32.toInt_inj.mp (e.trans (by decide)))
            have e1_ : v2.toInt ≠ (1 : Int) := fun e => c12 (Int32.toInt_inj.mp (e.trans (by decide)))
            have e2_ : v2.toInt ≠ (2 : Int) := fun e => c17 (Int32.toInt_inj.mp (e.trans (by decide)))
            have e3_ : v2.toInt ≠ (3 : Int) := fun e => c20 (Int32.toInt_inj.mp (e.trans (by decide)))
            refine kr_tableOut 94 dX7_person_15 (by omega) (by decide) ?_
            refine kr_ldc dX7_person_94 lkC_X7_90 (k := ?_)
            exact kr_ireturn dX7_person_96 ⟨rfl, rfl, _, rfl, h22⟩
  · have h7 := h3.2 c5
    refine kr_ldc dX7_person_11 lkC_X7_153 (k := ?_)
    exact kr_ireturn dX7_person_13 ⟨rfl, rfl, _, rfl, h7⟩
set_option maxRecDepth 100000 in
set_option maxHeartbeats 4000000 in
theorem sp_X7_seed {G : kg_G} {E : State → Array Value → Prop} {R : kg_R} {n : Nat} {L S : Nat} {K : Int32 → kg_M → Prop} (hk : kg_O7 R n L S) {v1 : Int32} {M : kg_M} (h1 : wp_X7_seed L v1 M K) : kg_Run G E qX7_seed 0 0 [(0, .ref (kg_b G + 0)), (1, .int v1)] [] M R n 0 0 (kg_I R n K) := by
  unfold wp_X7_seed at h1
  refine kr_iload_n 1 dX7_seed_0 rfl (k := ?_)
  refine kr_if_ge 7 dX7_seed_1 (fun c2 => ?_) (fun c2 => ?_)
  · have h3 := h1.1 c2
    refine kr_aload_n 0 dX7_seed_7 rfl (k := ?_)
    refine kr_getI 13 ckX7 lkF_X7_87 rfl (kg_o7a hk) (kg_o7n hk) dX7_seed_8 (k := ?_)
    refine kr_istore_n [(2, .int (M 0 13)), (0, .ref (kg_b G + 0)), (1, .int v1)] dX7_seed_11 (k := ?_)
    refine kr_aload_n 1 dX7_seed_12 rfl (k := ?_)
    refine kr_iload_n 2 dX7_seed_13 rfl (k := ?_)
    refine kn_putI 13 ckX7 lkF_X7_87 rfl rfl rfl rfl (kg_o7a hk) (kg_o7n hk) dX7_seed_14 (fun M5 e6 => ?_)
    have h7 := h3 M5 e6
    refine kr_iload_n 0 dX7_seed_17 rfl (k := ?_)
    exact kr_ireturn dX7_seed_18 ⟨rfl, rfl, _, rfl, h7⟩
  · have h4 := h1.2 c2
    refine kr_ldc dX7_seed_4 lkC_X7_90 (k := ?_)
    exact kr_ireturn dX7_seed_6 ⟨rfl, rfl, _, rfl, h4⟩
set_option maxRecDepth 100000 in
set_option maxHeartbeats 4000000 in
theorem sp_X7_sides {G : kg_G} {E : State → Array Value → Prop} {R : kg_R} {n : Nat} {L S : Nat} {K : Int32 → kg_M → Prop} (hk : kg_O7 R n L S) {v1 : Int32} {v2 : Int32} {M : kg_M} (h1 : wp_X7_sides L v1 v2 M K) : kg_Run G E qX7_sides 13 0 [(0, .ref (kg_b G + 0)), (1, .int v1), (2, .int v2)] [] M R n 0 0 (kg_I R n K) := by
  unfold wp_X7_sides at h1
  refine kr_aload_n 0 dX7_sides_0 rfl (k := ?_)
  refine kr_getR 10 ckX7 lkF_X7_69 rfl (kg_o7a hk) (kg_o7n hk) (kg_o7r10 hk) dX7_sides_1 (k := ?_)
  refine kr_iload_n 1 dX7_sides_4 rfl (k := ?_)
  refine kn_callVz [.int v1] [] mvX0_hasAll lkM_X7_223 (kg_o0a (kg_o7_land hk)) rfl (kg_o0n (kg_o7_land hk)) dX7_sides_5 (sp_X0_hasAll (kg_o7_land hk) h1) (fun r4 M2 _ h3 => ?_)
  refine kr_if_eq 22 dX7_sides_8 (fun c5 => ?_) (fun c5 => ?_)
  · have h6 := h3.1 c5
    refine kr_ldc dX7_sides_22 lkC_X7_153 (k := ?_)
    exact kr_ireturn dX7_sides_24 ⟨rfl, rfl, _, rfl, h6⟩
  · have h7 := h3.2 c5
    refine kr_aload_n 0 dX7_sides_11 rfl (k := ?_)
    refine kr_getR 10 ckX7 lkF_X7_69 rfl (kg_o7a hk) (kg_o7n hk) (kg_o7r10 hk) dX7_sides_12 (k := ?_)
    refine kr_iload_n 2 dX7_sides_15 rfl (k := ?_)
    refine kn_callVz [.int v2] [] mvX0_hasAll lkM_X7_223 (kg_o0a (kg_o7_land hk)) rfl (kg_o0n (kg_o7_land hk)) dX7_sides_16 (sp_X0_hasAll (kg_o7_land hk) h7) (fun r10 M8 _ h9 => ?_)
    refine kr_if_ne 25 dX7_sides_19 (fun c11 => ?_) (fun c11 => ?_)
    · have h12 := h9.1 c11
      refine kr_aload_n 0 dX7_sides_25 rfl (k := ?_)
      refine kr_getR 5 ckX7 lkF_X7_47 rfl (kg_o7a hk) (kg_o7n hk) (kg_o7r5 hk) dX7_sides_26 (k := ?_)
      refine kr_aload_n 0 dX7_sides_29 rfl (k := ?_)
      refine kr_getR 10 ckX7 lkF_X7_69 rfl (kg_o7a hk) (kg_o7n hk) (kg_o7r10 hk) dX7_sides_30 (k := ?_)
      refine kr_aload_n 0 dX7_sides_33 rfl (k := ?_)
      refine kr_getR 1 ckX7 lkF_X7_19 rfl (kg_o7a hk) (kg_o7n hk) (kg_o7r1 hk) dX7_sides_34 (k := ?_)
      refine kr_getI 3 ckX5 lkF_X7_125 rfl (kg_o5a (kg_o7_state hk)) (kg_o5n (kg_o7_state hk)) dX7_sides_37 (k := ?_)
      refine kr_aload_n 0 dX7_sides_40 rfl (k := ?_)
      refine kn_callVi [] [.int (M8 3 3), .ref (kg_b G + L), .ref (kg_b G + 95)] mvX7_openGates lkM_X7_207 (kg_o7a hk) rfl (kg_o7n hk) dX7_sides_41 (sp_X7_openGates hk h12) (fun r16 M14 h15 => ?_)
      refine kr_iload_n 1 dX7_sides_44 rfl (k := ?_)
      refine kr_iload_n 2 dX7_sides_45 rfl (k := ?_)
      refine kn_callVi [.ref (kg_b G + L), .int (M8 3 3), .int r16, .int v1, .int v2] [] mvX1_fewestHours lkM_X7_226 (kg_o1a (kg_o7_crossing hk)) rfl (kg_o1n (kg_o7_crossing hk)) dX7_sides_46 (sp_X1_fewestHours (kg_o7_crossing hk) (kg_o7_land hk) h15) (fun r19 M17 h18 => ?_)
      exact kr_ireturn dX7_sides_49 ⟨rfl, rfl, _, rfl, h18⟩
    · have h13 := h9.2 c11
      refine kr_ldc dX7_sides_22 lkC_X7_153 (k := ?_)
      exact kr_ireturn dX7_sides_24 ⟨rfl, rfl, _, rfl, h13⟩
set_option maxRecDepth 100000 in
set_option maxHeartbeats 4000000 in
theorem sJ_X7_wouldRather_28 {G : kg_G} {E : State → Array Value → Prop} {R : kg_R} {n : Nat} {L S : Nat} {K : Int32 → kg_M → Prop} (hk : kg_O7 R n L S) (v1 : Int32) (v2 : Int32) (s0 : Int32) (M : kg_M) (h10 : wJ_X7_wouldRather_28 L K v1 v2 s0 M) : kg_Run G E qX7_wouldRather 3 28 [(0, .ref (kg_b G + 0)), (1, .int v1), (2, .int v2)] [.int s0] M R n 0 0 (kg_Z R n K) := by
  unfold wJ_X7_wouldRather_28 at h10
  refine kr_istore [(4, .int s0), (0, .ref (kg_b G + 0)), (1, .int v1), (2, .int v2)] dX7_wouldRather_28 (k := ?_)
  refine kr_aload_n 1 dX7_wouldRather_30 rfl (k := ?_)
  refine kr_getR 10 ckX7 lkF_X7_69 rfl (kg_o7a hk) (kg_o7n hk) (kg_o7r10 hk) dX7_wouldRather_31 (k := ?_)
  refine kr_iload_n 2 dX7_wouldRather_34 rfl (k := ?_)
  refine kr_iload_n 3 dX7_wouldRather_35 rfl (k := ?_)
  refine kn_callVi [.int v1, .int v2] [] mvX0_liking lkM_X7_178 (kg_o0a (kg_o7_land hk)) rfl (kg_o0n (kg_o7_land hk)) dX7_wouldRather_36 (sp_X0_liking (kg_o7_land hk) h10) (fun r13 M11 h12 => ?_)
  refine kr_iload 0 dX7_wouldRather_39 rfl (k := ?_)
  refine kr_icmp_le 48 dX7_wouldRather_41 (fun c14 => ?_) (fun c14 => ?_)
  · have h15 := h12.1 c14
    refine kr_iconst (0 : Int32) dX7_wouldRather_48 (k := ?_)
    exact kr_ireturn dX7_wouldRather_49 ⟨rfl, rfl, _, rfl, (by decide), h15⟩
  · have h16 := h12.2 c14
    refine kr_iconst (1 : Int32) dX7_wouldRather_44 (k := ?_)
    refine kr_goto 49 dX7_wouldRather_45 ?_
    exact kr_ireturn dX7_wouldRather_49 ⟨rfl, rfl, _, rfl, (by decide), h16⟩
set_option maxRecDepth 100000 in
set_option maxHeartbeats 4000000 in
theorem sp_X7_wouldRather {G : kg_G} {E : State → Array Value → Prop} {R : kg_R} {n : Nat} {L S : Nat} {K : Int32 → kg_M → Prop} (hk : kg_O7 R n L S) {v1 : Int32} {v2 : Int32} {M : kg_M} (h1 : wp_X7_wouldRather L v1 v2 M K) : kg_Run G E qX7_wouldRather 3 0 [(0, .ref (kg_b G + 0)), (1, .int v1), (2, .int v2)] [] M R n 0 0 (kg_Z R n K) := by
  unfold wp_X7_wouldRather at h1
  refine kr_aload_n 0 dX7_wouldRather_0 rfl (k := ?_)
  refine kr_getR 4 ckX7 lkF_X7_40 rfl (kg_o7a hk) (kg_o7n hk) (kg_o7r4 hk) dX7_wouldRather_1 (k := ?_)
  refine kr_getR 0 ckX3 lkF_X7_220 rfl (kg_o3a (kg_o7_pairing hk)) (kg_o3n (kg_o7_pairing hk)) (kg_o3r0 (kg_o7_pairing hk)) dX7_wouldRather_4 (k := ?_)
  refine kr_iload_n 1 dX7_wouldRather_7 rfl (k := ?_)
  obtain ⟨h2, h3⟩ := h1
  refine kr_iald (kg_o3s0 (kg_o7_pairing hk)) (kg_o3m0 (kg_o7_pairing hk)) h2 dX7_wouldRather_8 (k := ?_)
  refine kr_istore_n [(3, .int (M 93 v1.toNatClampNeg)), (0, .ref (kg_b G + 0)), (1, .int v1), (2, .int v2)] dX7_wouldRather_9 (k := ?_)
  refine kr_iload_n 0 dX7_wouldRather_10 rfl (k := ?_)
  refine kr_iconst (-1 : Int32) dX7_wouldRather_11 (k := ?_)
  refine kr_icmp_ne 19 dX7_wouldRather_12 (fun c4 => ?_) (fun c4 => ?_)
  · have h5 := h3.1 c4
    refine kr_aload_n 1 dX7_wouldRather_19 rfl (k := ?_)
    refine kr_getR 10 ckX7 lkF_X7_69 rfl (kg_o7a hk) (kg_o7n hk) (kg_o7r10 hk) dX7_wouldRather_20 (k := ?_)
    refine kr_iload_n 2 dX7_wouldRather_23 rfl (k := ?_)
    refine kr_iload_n 0 dX7_wouldRather_24 rfl (k := ?_)
    refine kn_callVi [.int v1, .int (M 93 v1.toNatClampNeg)] [] mvX0_liking lkM_X7_178 (kg_o0a (kg_o7_land hk)) rfl (kg_o0n (kg_o7_land hk)) dX7_wouldRather_25 (sp_X0_liking (kg_o7_land hk) h5) (fun r9 M7 h8 => ?_)
    refine kr_sub [1, 2, 3] [(0, .ref (kg_b G + 0)), (1, .int v1), (2, .int v2)] rfl ?_
    exact sJ_X7_wouldRather_28 hk v1 v2 r9 M7 h8
  · have h6 := h3.2 c4
    refine kr_iconst (0 : Int32) dX7_wouldRather_15 (k := ?_)
    refine kr_goto 28 dX7_wouldRather_16 ?_
    refine kr_sub [1, 2, 3] [(0, .ref (kg_b G + 0)), (1, .int v1), (2, .int v2)] rfl ?_
    exact sJ_X7_wouldRather_28 hk v1 v2 (0 : Int32) M h6
