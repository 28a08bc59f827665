set_option maxRecDepth 100000 in
set_option maxHeartbeats 4000000 in
theorem sL_X8_remember_52 {G : kg_G} {E : State → Array Value → Prop} {R : kg_R} {n : Nat} {K : kg_M → Prop} (ho : kg_O8 R n 117) {Kx84 : kg_M → Prop} (hKx84 : ∀ (M : kg_M), Kx84 M → kg_Run G E qX8_remember 0 84 [(0, .ref (kg_b G + 117))] [] M R n 0 0 (kg_V R n K)) : ∀ (f : Nat) (v1 : Int32) (M : kg_M), wL_X8_remember_52  Kx84 K f v1 M → kg_Run G E qX8_remember 0 52 [(0, .ref (kg_b G + 117)), (1, .int v1)] [] M R n 0 0 (kg_V R n K) := by
  intro f
  induction f with
  | zero => intro v1 M h0; exact h0.elim
  | succ f ih =>
    intro v1 M h5
    rw [wL_X8_remember_52] at h5
    refine kr_iload_n 1 dX8_remember_52 rfl (k := ?_)
    refine kr_bipush (55 : Int32) dX8_remember_53 (k := ?_)
    refine kr_icmp_ge 84 dX8_remember_55 (fun c6 => ?_) (fun c6 => ?_)
    · have h7 := h5.1 c6
      refine kr_sub [0] [(0, .ref (kg_b G + 117))] rfl ?_
      exact hKx84  M h7
    · have h8 := h5.2 c6
      refine kr_aload_n 0 dX8_remember_58 rfl (k := ?_)
      refine kr_getR 21 ckX8 lkF_X8_44 rfl (kg_o8a ho) (kg_o8n ho) (kg_o8r21 ho) dX8_remember_59 (k := ?_)
      refine kr_bipush (55 : Int32) dX8_remember_62 (k := ?_)
      refine kr_aload_n 0 dX8_remember_64 rfl (k := ?_)
      refine kr_getI 20 ckX8 lkF_X8_159 rfl (kg_o8a ho) (kg_o8n ho) dX8_remember_65 (k := ?_)
      refine kr_imul dX8_remember_68 (k := ?_)
      refine kr_iload_n 1 dX8_remember_69 rfl (k := ?_)
      refine kr_iadd dX8_remember_70 (k := ?_)
      refine kr_aload_n 0 dX8_remember_71 rfl (k := ?_)
      refine kr_getR 4 ckX8 lkF_X8_16 rfl (kg_o8a ho) (kg_o8n ho) (kg_o8r4 ho) dX8_remember_72 (k := ?_)
      refine kr_iload_n 1 dX8_remember_75 rfl (k := ?_)
      obtain ⟨h9, h10⟩ := h8
      refine kr_iald (kg_o8s4 ho) (kg_o8m4 ho) h9 dX8_remember_76 (k := ?_)
      obtain ⟨h11, h12⟩ := h10
      refine kn_iast (kg_o8s21 ho) (kg_o8m21 ho) h11 dX8_remember_77 (fun M13 e14 => ?_)
      have h15 := h12 M13 e14
      refine kr_iinc (1 : Int32) 1 [(1, .int (v1 + (1 : Int32))), (0, .ref (kg_b G + 117))] dX8_remember_78 rfl (k := ?_)
      refine kr_goto 52 dX8_remember_81 ?_
      refine kr_sub [1, 0] [(0, .ref (kg_b G + 117)), (1, .int (v1 + (1 : Int32)))] rfl ?_
      exact ih (v1 + (1 : Int32)) M13 h15
set_option maxRecDepth 100000 in
set_option maxHeartbeats 4000000 in
theorem sL_X8_remember_12 {G : kg_G} {E : State → Array Value → Prop} {R : kg_R} {n : Nat} {K : kg_M → Prop} (ho : kg_O8 R n 117) {Kx40 : kg_M → Prop} (hKx40 : ∀ (M : kg_M), Kx40 M → kg_Run G E qX8_remember 0 40 [(0, .ref (kg_b G + 117))] [] M R n 0 0 (kg_V R n K)) : ∀ (f : Nat) (v1 : Int32) (M : kg_M), wL_X8_remember_12  Kx40 K f v1 M → kg_Run G E qX8_remember 0 12 [(0, .ref (kg_b G + 117)), (1, .int v1)] [] M R n 0 0 (kg_V R n K) := by
  intro f
  induction f with
  | zero => intro v1 M h0; exact h0.elim
  | succ f ih =>
    intro v1 M h22
    rw [wL_X8_remember_12] at h22
    refine kr_iload_n 1 dX8_remember_12 rfl (k := ?_)
    refine kr_sipush (1100 : Int32) dX8_remember_13 (k := ?_)
    refine kr_icmp_ge 40 dX8_remember_16 (fun c23 => ?_) (fun c23 => ?_)
    · have h24 := h22.1 c23
      refine kr_sub [0] [(0, .ref (kg_b G + 117))] rfl ?_
      exact hKx40  M h24
    · have h25 := h22.2 c23
      refine kr_aload_n 0 dX8_remember_19 rfl (k := ?_)
      refine kr_getR 21 ckX8 lkF_X8_44 rfl (kg_o8a ho) (kg_o8n ho) (kg_o8r21 ho) dX8_remember_20 (k := ?_)
      refine kr_iload_n 1 dX8_remember_23 rfl (k := ?_)
      refine kr_bipush (55 : Int32) dX8_remember_24 (k := ?_)
      refine kr_isub dX8_remember_26 (k := ?_)
      refine kr_aload_n 0 dX8_remember_27 rfl (k := ?_)
      refine kr_getR 21 ckX8 lkF_X8_44 rfl (kg_o8a ho) (kg_o8n ho) (kg_o8r21 ho) dX8_remember_28 (k := ?_)
      refine kr_iload_n 1 dX8_remember_31 rfl (k := ?_)
      obtain ⟨h26, h27⟩ := h25
      refine kr_iald (kg_o8s21 ho) (kg_o8m21 ho) h26 dX8_remember_32 (k := ?_)
      obtain ⟨h28, h29⟩ := h27
      refine kn_iast (kg_o8s21 ho) (kg_o8m21 ho) h28 dX8_remember_33 (fun M30 e31 => ?_)
      have h32 := h29 M30 e31
      refine kr_iinc (1 : Int32) 1 [(1, .int (v1 + (1 : Int32))), (0, .ref (kg_b G + 117))] dX8_remember_34 rfl (k := ?_)
      refine kr_goto 12 dX8_remember_37 ?_
      refine kr_sub [1, 0] [(0, .ref (kg_b G + 117)), (1, .int (v1 + (1 : Int32)))] rfl ?_
      exact ih (v1 + (1 : Int32)) M30 h32
set_option maxRecDepth 100000 in
set_option maxHeartbeats 4000000 in
theorem sp_X8_remember {G : kg_G} {E : State → Array Value → Prop} {R : kg_R} {n : Nat} {K : kg_M → Prop} (ho : kg_O8 R n 117) {M : kg_M} (h1 : wp_X8_remember  M K) : kg_Run G E qX8_remember 0 0 [(0, .ref (kg_b G + 117))] [] M R n 0 0 (kg_V R n K) := by
  unfold wp_X8_remember at h1
  refine kr_aload_n 0 dX8_remember_0 rfl (k := ?_)
  refine kr_getI 20 ckX8 lkF_X8_159 rfl (kg_o8a ho) (kg_o8n ho) dX8_remember_1 (k := ?_)
  refine kr_bipush (20 : Int32) dX8_remember_4 (k := ?_)
  refine kr_icmp_ne 50 dX8_remember_6 (fun c2 => ?_) (fun c2 => ?_)
  · have h3 := h1.1 c2
    refine kr_iconst (0 : Int32) dX8_remember_50 (k := ?_)
    refine kr_istore_n [(1, .int (0 : Int32)), (0, .ref (kg_b G + 117))] dX8_remember_51 (k := ?_)
    refine kr_sub [1, 0] [(0, .ref (kg_b G + 117)), (1, .int (0 : Int32))] rfl ?_
    obtain ⟨f20, h21⟩ := h3
    refine sL_X8_remember_52 ho ?_ f20 (0 : Int32) M h21
    · intro  M h16
      refine kr_aload_n 0 dX8_remember_84 rfl (k := ?_)
      refine kr_dup dX8_remember_85 (k := ?_)
      refine kr_getI 20 ckX8 lkF_X8_159 rfl (kg_o8a ho) (kg_o8n ho) dX8_remember_86 (k := ?_)
      refine kr_iconst (1 : Int32) dX8_remember_89 (k := ?_)
      refine kr_iadd dX8_remember_90 (k := ?_)
      refine kn_putI 20 ckX8 lkF_X8_159 rfl rfl rfl rfl (kg_o8a ho) (kg_o8n ho) dX8_remember_91 (fun M17 e18 => ?_)
      have h19 := h16 M17 e18
      exact kr_return dX8_remember_94 ⟨rfl, rfl, rfl, h19⟩
  · have h4 := h1.2 c2
    refine kr_bipush (55 : Int32) dX8_remember_9 (k := ?_)
    refine kr_istore_n [(1, .int (55 : Int32)), (0, .ref (kg_b G + 117))] dX8_remember_11 (k := ?_)
    refine kr_sub [1, 0] [(0, .ref (kg_b G + 117)), (1, .int (55 : Int32))] rfl ?_
    obtain ⟨f43, h44⟩ := h4
    refine sL_X8_remember_12 ho ?_ f43 (55 : Int32) M h44
    · intro  M h33
      refine kr_aload_n 0 dX8_remember_40 rfl (k := ?_)
      refine kr_dup dX8_remember_41 (k := ?_)
      refine kr_getI 20 ckX8 lkF_X8_159 rfl (kg_o8a ho) (kg_o8n ho) dX8_remember_42 (k := ?_)
      refine kr_iconst (1 : Int32) dX8_remember_45 (k := ?_)
      refine kr_isub dX8_remember_46 (k := ?_)
      refine kn_putI 20 ckX8 lkF_X8_159 rfl rfl rfl rfl (kg_o8a ho) (kg_o8n ho) dX8_remember_47 (fun M34 e35 => ?_)
      have h36 := h33 M34 e35
      refine kr_iconst (0 : Int32) dX8_remember_50 (k := ?_)
      refine kr_istore_n [(1, .int (0 : Int32)), (0, .ref (kg_b G + 117))] dX8_remember_51 (k := ?_)
      refine kr_sub [1, 0] [(0, .ref (kg_b G + 117)), (1, .int (0 : Int32))] rfl ?_
      obtain ⟨f41, h42⟩ := h36
      refine sL_X8_remember_52 ho ?_ f41 (0 : Int32) M34 h42
      · intro  M h37
        refine kr_aload_n 0 dX8_remember_84 rfl (k := ?_)
        refine kr_dup dX8_remember_85 (k := ?_)
        refine kr_getI 20 ckX8 lkF_X8_159 rfl (kg_o8a ho) (kg_o8n ho) dX8_remember_86 (k := ?_)
        refine kr_iconst (1 : Int32) dX8_remember_89 (k := ?_)
        refine kr_iadd dX8_remember_90 (k := ?_)
        refine kn_putI 20 ckX8 lkF_X8_159 rfl rfl rfl rfl (kg_o8a ho) (kg_o8n ho) dX8_remember_91 (fun M38 e39 => ?_)
        have h40 := h37 M38 e39
        exact kr_return dX8_remember_94 ⟨rfl, rfl, rfl, h40⟩
set_option maxRecDepth 100000 in
set_option maxHeartbeats 4000000 in
theorem sL_X8_waitingAt_4 {G : kg_G} {E : State → Array Value → Prop} {R : kg_R} {n : Nat} {K : Int32 → kg_M → Prop} (ho : kg_O8 R n 117) {Kx41 : Int32 → kg_M → Prop} (hKx41 : ∀ (v2 : Int32) (M : kg_M), Kx41 v2 M → kg_Run G E qX8_waitingAt 0 41 [(2, .int v2)] [] M R n 0 0 (kg_I R n K)) : ∀ (f : Nat) (v1 : Int32) (v2 : Int32) (v3 : Int32) (M : kg_M), wL_X8_waitingAt_4  Kx41 K f v1 v2 v3 M → kg_Run G E qX8_waitingAt 0 4 [(0, .ref (kg_b G + 117)), (1, .int v1), (2, .int v2), (3, .int v3)] [] M R n 0 0 (kg_I R n K) := by
  intro f
  induction f with
  | zero => intro v1 v2 v3 M h0; exact h0.elim
  | succ f ih =>
    intro v1 v2 v3 M h2
    rw [wL_X8_waitingAt_4] at h2
    refine kr_iload_n 3 dX8_waitingAt_4 rfl (k := ?_)
    refine kr_aload_n 0 dX8_waitingAt_5 rfl (k := ?_)
    refine kr_getI 2 ckX8 lkF_X8_94 rfl (kg_o8a ho) (kg_o8n ho) dX8_waitingAt_6 (k := ?_)
    refine kr_icmp_ge 41 dX8_waitingAt_9 (fun c3 => ?_) (fun c3 => ?_)
    · have h4 := h2.1 c3
      refine kr_sub [2] [(2, .int v2)] rfl ?_
      exact hKx41 v2 M h4
    · have h5 := h2.2 c3
      refine kr_iload_n 2 dX8_waitingAt_12 rfl (k := ?_)
      refine kr_aload_n 0 dX8_waitingAt_13 rfl (k := ?_)
      refine kr_getR 4 ckX8 lkF_X8_16 rfl (kg_o8a ho) (kg_o8n ho) (kg_o8r4 ho) dX8_waitingAt_14 (k := ?_)
      refine kr_bipush (7 : Int32) dX8_waitingAt_17 (k := ?_)
      refine kr_iload_n 3 dX8_waitingAt_19 rfl (k := ?_)
      refine kr_iadd dX8_waitingAt_20 (k := ?_)
      obtain ⟨h6, h7⟩ := h5
      refine kr_iald (kg_o8s4 ho) (kg_o8m4 ho) h6 dX8_waitingAt_21 (k := ?_)
      refine kr_iload_n 1 dX8_waitingAt_22 rfl (k := ?_)
      refine kr_icmp_ne 32 dX8_waitingAt_23 (fun c8 => ?_) (fun c8 => ?_)
      · have h9 := h7.1 c8
        refine kr_iconst (0 : Int32) dX8_waitingAt_32 (k := ?_)
        refine kr_ior dX8_waitingAt_33 (k := ?_)
        refine kr_istore_n [(2, .int (v2 ||| (0 : Int32))), (0, .ref (kg_b G + 117)), (1, .int v1), (3, .int v3)] dX8_waitingAt_34 (k := ?_)
        refine kr_iinc (1 : Int32) 3 [(3, .int (v3 + (1 : Int32))), (2, .int (v2 ||| (0 : Int32))), (0, .ref (kg_b G + 117)), (1, .int v1)] dX8_waitingAt_35 rfl (k := ?_)
        refine kr_goto 4 dX8_waitingAt_38 ?_
        refine kr_sub [2, 3, 1, 0] [(0, .ref (kg_b G + 117)), (1, .int v1), (2, .int (v2 ||| (0 : Int32))), (3, .int (v3 + (1 : Int32)))] rfl ?_
        exact ih v1 (v2 ||| (0 : Int32)) (v3 + (1 : Int32)) M h9
      · have h10 := h7.2 c8
        refine kr_iconst (1 : Int32) dX8_waitingAt_26 (k := ?_)
        refine kr_iload_n 3 dX8_waitingAt_27 rfl (k := ?_)
        refine kr_ishl dX8_waitingAt_28 (k := ?_)
        refine kr_goto 33 dX8_waitingAt_29 ?_
        refine kr_ior dX8_waitingAt_33 (k := ?_)
        refine kr_istore_n [(2, .int (v2 ||| ((1 : Int32) <<< (v3 &&& 31)))), (0, .ref (kg_b G + 117)), (1, .int v1), (3, .int v3)] dX8_waitingAt_34 (k := ?_)
        refine kr_iinc (1 : Int32) 3 [(3, .int (v3 + (1 : Int32))), (2, .int (v2 ||| ((1 : Int32) <<< (v3 &&& 31)))), (0, .ref (kg_b G + 117)), (1, .int v1)] dX8_waitingAt_35 rfl (k := ?_)
        refine kr_goto 4 dX8_waitingAt_38 ?_
        refine kr_sub [2, 3, 1, 0] [(0, .ref (kg_b G + 117)), (1, .int v1), (2, .int (v2 ||| ((1 : Int32) <<< (v3 &&& 31)))), (3, .int (v3 + (1 : Int32)))] rfl ?_
        exact ih v1 (v2 ||| ((1 : Int32) <<< (v3 &&& 31))) (v3 + (1 : Int32)) M h10
set_option maxRecDepth 100000 in
set_option maxHeartbeats 4000000 in
theorem sp_X8_waitingAt {G : kg_G} {E : State → Array Value → Prop} {R : kg_R} {n : Nat} {K : Int32 → kg_M → Prop} (ho : kg_O8 R n 117) {v1 : Int32} {M : kg_M} (h1 : wp_X8_waitingAt v1 M K) : kg_Run G E qX8_waitingAt 0 0 [(0, .ref (kg_b G + 117)), (1, .int v1)] [] M R n 0 0 (kg_I R n K) := by
  unfold wp_X8_waitingAt at h1
  refine kr_iconst (0 : Int32) dX8_waitingAt_0 (k := ?_)
  refine kr_istore_n [(2, .int (0 : Int32)), (0, .ref (kg_b G + 117)), (1, .int v1)] dX8_waitingAt_1 (k := ?_)
  refine kr_iconst (0 : Int32) dX8_waitingAt_2 (k := ?_)
  refine kr_istore_n [(3, .int (0 : Int32)), (2, .int (0 : Int32)), (0, .ref (kg_b G + 117)), (1, .int v1)] dX8_waitingAt_3 (k := ?_)
  refine kr_sub [2, 3, 1, 0] [(0, .ref (kg_b G + 117)), (1, .int v1), (2, .int (0 : Int32)), (3, .int (0 : Int32))] rfl ?_
  obtain ⟨f12, h13⟩ := h1
  refine sL_X8_waitingAt_4 ho ?_ f12 v1 (0 : Int32) (0 : Int32) M h13
  · intro v2 M h11
    refine kr_iload_n 0 dX8_waitingAt_41 rfl (k := ?_)
    exact kr_ireturn dX8_waitingAt_42 ⟨rfl, rfl, _, rfl, h11⟩
set_option maxRecDepth 100000 in
set_option maxHeartbeats 4000000 in
theorem sp_X8_come {G : kg_G} {E : State → Array Value → Prop} {R : kg_R} {n : Nat} {K : Int32 → kg_M → Prop} (ho : kg_O8 R n 117) {v1 : Int32} {v2 : Int32} {M : kg_M} (h1 : wp_X8_come v1 v2 M K) : kg_Run G E qX8_come 2 0 [(0, .ref (kg_b G + 117)), (1, .int v1), (2, .int v2)] [] M R n 0 0 (kg_I R n K) := by
  unfold wp_X8_come at h1
  refine kr_aload_n 0 dX8_come_0 rfl (k := ?_)
  refine kr_iload_n 1 dX8_come_1 rfl (k := ?_)
  refine kn_callVz [.int v1] [] mvX8_isPerson lkM_X8_187 (kg_o8a ho) rfl (kg_o8n ho) dX8_come_2 (sp_X8_isPerson ho h1) (fun r4 M2 _ h3 => ?_)
  refine kr_if_eq 16 dX8_come_5 (fun c5 => ?_) (fun c5 => ?_)
  · have h6 := h3.1 c5
    refine kr_ldc dX8_come_16 lkC_X8_183 (k := ?_)
    exact kr_ireturn dX8_come_18 ⟨rfl, rfl, _, rfl, h6⟩
  · have h7 := h3.2 c5
    refine kr_aload_n 0 dX8_come_8 rfl (k := ?_)
    refine kr_iload_n 2 dX8_come_9 rfl (k := ?_)
    refine kn_callVz [.int v2] [] mvX8_isGate lkM_X8_179 (kg_o8a ho) rfl (kg_o8n ho) dX8_come_10 (sp_X8_isGate ho h7) (fun r10 M8 _ h9 => ?_)
    refine kr_if_ne 19 dX8_come_13 (fun c11 => ?_) (fun c11 => ?_)
    · have h12 := h9.1 c11
      refine kr_aload_n 0 dX8_come_19 rfl (k := ?_)
      refine kr_iload_n 1 dX8_come_20 rfl (k := ?_)
      refine kr_iload_n 2 dX8_come_21 rfl (k := ?_)
      refine kn_callVz [.int v1, .int v2] [] mvX8_canCome lkM_X8_219 (kg_o8a ho) rfl (kg_o8n ho) dX8_come_22 (sp_X8_canCome ho h12) (fun r16 M14 _ h15 => ?_)
      refine kr_if_ne 31 dX8_come_25 (fun c17 => ?_) (fun c17 => ?_)
      · have h18 := h15.1 c17
        refine kr_aload_n 0 dX8_come_31 rfl (k := ?_)
        refine kn_callVv [] [] mvX8_remember lkM_X8_213 (kg_o8a ho) rfl (kg_o8n ho) dX8_come_32 (sp_X8_remember ho h18) (fun M20 h21 => ?_)
        refine kr_aload_n 0 dX8_come_35 rfl (k := ?_)
        refine kr_getR 4 ckX8 lkF_X8_16 rfl (kg_o8a ho) (kg_o8n ho) (kg_o8r4 ho) dX8_come_36 (k := ?_)
        refine kr_bipush (7 : Int32) dX8_come_39 (k := ?_)
        refine kr_iload_n 1 dX8_come_41 rfl (k := ?_)
        refine kr_iadd dX8_come_42 (k := ?_)
        refine kr_iload_n 2 dX8_come_43 rfl (k := ?_)
        obtain ⟨h23, h24⟩ := h21
        refine kn_iast (kg_o8s4 ho) (kg_o8m4 ho) h23 dX8_come_44 (fun M25 e26 => ?_)
        have h27 := h24 M25 e26
        refine kr_aload_n 0 dX8_come_45 rfl (k := ?_)
        refine kr_iload_n 2 dX8_come_46 rfl (k := ?_)
        refine kn_callVi [.int v2] [] mvX8_waitingAt lkM_X8_184 (kg_o8a ho) rfl (kg_o8n ho) dX8_come_47 (sp_X8_waitingAt ho h27) (fun r30 M28 h29 => ?_)
        exact kr_ireturn dX8_come_50 ⟨rfl, rfl, _, rfl, h29⟩
      · have h19 := h15.2 c17
        refine kr_ldc dX8_come_28 lkC_X8_209 (k := ?_)
        exact kr_ireturn dX8_come_30 ⟨rfl, rfl, _, rfl, h19⟩
    · have h13 := h9.2 c11
      refine kr_ldc dX8_come_16 lkC_X8_183 (k := ?_)
      exact kr_ireturn dX8_come_18 ⟨rfl, rfl, _, rfl, h13⟩
set_option maxRecDepth 100000 in
set_option maxHeartbeats 4000000 in
theorem sL_X8_here_0 {G : kg_G} {E : State → Array Value → Prop} {R : kg_R} {n : Nat} {K : Int32 → kg_M → Prop} (ho : kg_O8 R n 117) {Kx38 : kg_M → Prop} (hKx38 : ∀ (M : kg_M), Kx38 M → kg_Run G E qX8_here 0 38 [(0, .ref (kg_b G + 117))] [] M R n 0 0 (kg_I R n K)) : ∀ (f : Nat) (M : kg_M), wL_X8_here_0  Kx38 K f M → kg_Run G E qX8_here 0 0 [(0, .ref (kg_b G + 117))] [] M R n 0 0 (kg_I R n K) := by
  intro f
  induction f with
  | zero => intro M h0; exact h0.elim
  | succ f ih =>
    intro  M h2
    rw [wL_X8_here_0] at h2
    refine kr_aload_n 0 dX8_here_0 rfl (k := ?_)
    refine kr_getI 11 ckX8 lkF_X8_104 rfl (kg_o8a ho) (kg_o8n ho) dX8_here_1 (k := ?_)
    refine kr_aload_n 0 dX8_here_4 rfl (k := ?_)
    refine kr_getI 9 ckX8 lkF_X8_100 rfl (kg_o8a ho) (kg_o8n ho) dX8_here_5 (k := ?_)
    refine kr_icmp_ge 38 dX8_here_8 (fun c3 => ?_) (fun c3 => ?_)
    · have h4 := h2.1 c3
      refine kr_sub [0] [(0, .ref (kg_b G + 117))] rfl ?_
      exact hKx38  M h4
    · have h5 := h2.2 c3
      refine kr_aload_n 0 dX8_here_11 rfl (k := ?_)
      refine kr_getR 8 ckX8 lkF_X8_25 rfl (kg_o8a ho) (kg_o8n ho) (kg_o8r8 ho) dX8_here_12 (k := ?_)
      refine kr_aload_n 0 dX8_here_15 rfl (k := ?_)
      refine kr_getI 11 ckX8 lkF_X8_104 rfl (kg_o8a ho) (kg_o8n ho) dX8_here_16 (k := ?_)
      obtain ⟨h6, h7⟩ := h5
      refine kr_iald (kg_o8s8 ho) (kg_o8m8 ho) h6 dX8_here_19 (k := ?_)
      refine kr_bipush (32 : Int32) dX8_here_20 (k := ?_)
      refine kr_icmp_ne 38 dX8_here_22 (fun c8 => ?_) (fun c8 => ?_)
      · have h9 := h7.1 c8
        refine kr_sub [0] [(0, .ref (kg_b G + 117))] rfl ?_
        exact hKx38  M h9
      · have h10 := h7.2 c8
        refine kr_aload_n 0 dX8_here_25 rfl (k := ?_)
        refine kr_dup dX8_here_26 (k := ?_)
        refine kr_getI 11 ckX8 lkF_X8_104 rfl (kg_o8a ho) (kg_o8n ho) dX8_here_27 (k := ?_)
        refine kr_iconst (1 : Int32) dX8_here_30 (k := ?_)
        refine kr_iadd dX8_here_31 (k := ?_)
        refine kn_putI 11 ckX8 lkF_X8_104 rfl rfl rfl rfl (kg_o8a ho) (kg_o8n ho) dX8_here_32 (fun M11 e12 => ?_)
        have h13 := h10 M11 e12
        refine kr_goto 0 dX8_here_35 ?_
        refine kr_sub [0] [(0, .ref (kg_b G + 117))] rfl ?_
        exact ih  M11 h13
set_option maxRecDepth 100000 in
set_option maxHeartbeats 4000000 in
theorem sJ_X8_here_38 {G : kg_G} {E : State → Array Value → Prop} {R : kg_R} {n : Nat} {K : Int32 → kg_M → Prop} (ho : kg_O8 R n 117) (M : kg_M) (h15 : wJ_X8_here_38  K M) : kg_Run G E qX8_here 0 38 [(0, .ref (kg_b G + 117))] [] M R n 0 0 (kg_I R n K) := by
  unfold wJ_X8_here_38 at h15
  refine kr_aload_n 0 dX8_here_38 rfl (k := ?_)
  refine kr_getI 11 ckX8 lkF_X8_104 rfl (kg_o8a ho) (kg_o8n ho) dX8_here_39 (k := ?_)
  refine kr_aload_n 0 dX8_here_42 rfl (k := ?_)
  refine kr_getI 9 ckX8 lkF_X8_100 rfl (kg_o8a ho) (kg_o8n ho) dX8_here_43 (k := ?_)
  refine kr_icmp_ge 61 dX8_here_46 (fun c16 => ?_) (fun c16 => ?_)
  · have h17 := h15.1 c16
    refine kr_iconst (-1 : Int32) dX8_here_61 (k := ?_)
    exact kr_ireturn dX8_here_62 ⟨rfl, rfl, _, rfl, h17⟩
  · have h18 := h15.2 c16
    refine kr_aload_n 0 dX8_here_49 rfl (k := ?_)
    refine kr_getR 8 ckX8 lkF_X8_25 rfl (kg_o8a ho) (kg_o8n ho) (kg_o8r8 ho) dX8_here_50 (k := ?_)
    refine kr_aload_n 0 dX8_here_53 rfl (k := ?_)
    refine kr_getI 11 ckX8 lkF_X8_104 rfl (kg_o8a ho) (kg_o8n ho) dX8_here_54 (k := ?_)
    obtain ⟨h19, h20⟩ := h18
    refine kr_iald (kg_o8s8 ho) (kg_o8m8 ho) h19 dX8_here_57 (k := ?_)
    refine kr_goto 62 dX8_here_58 ?_
    exact kr_ireturn dX8_here_62 ⟨rfl, rfl, _, rfl, h20⟩
set_option maxRecDepth 100000 in
set_option maxHeartbeats 4000000 in
theorem sp_X8_here {G : kg_G} {E : State → Array Value → Prop} {R : kg_R} {n : Nat} {K : Int32 → kg_M → Prop} (ho : kg_O8 R n 117) {M : kg_M} (h1 : wp_X8_here  M K) : kg_Run G E qX8_here 0 0 [(0, .ref (kg_b G + 117))] [] M R n 0 0 (kg_I R n K) := by
  unfold wp_X8_here at h1
  refine kr_sub [0] [(0, .ref (kg_b G + 117))] rfl ?_
  obtain ⟨f21, h22⟩ := h1
  refine sL_X8_here_0 ho ?_ f21  M h22
  · intro  M h14
    refine kr_sub [0] [(0, .ref (kg_b G + 117))] rfl ?_
    exact sJ_X8_here_38 ho  M h14
set_option maxRecDepth 100000 in
set_option maxHeartbeats 4000000 in
theorem sp_X8_fails {G : kg_G} {E : State → Array Value → Prop} {R : kg_R} {n : Nat} {K : Int32 → kg_M → Prop} (ho : kg_O8 R n 117) {v1 : Int32} {v2 : Int32} {M : kg_M} (h1 : wp_X8_fails v1 v2 M K) : kg_Run G E qX8_fails 0 0 [(0, .ref (kg_b G + 117)), (1, .int v1), (2, .int v2)] [] M R n 0 0 (kg_I R n K) := by
  unfold wp_X8_fails at h1
  refine kr_aload_n 0 dX8_fails_0 rfl (k := ?_)
  refine kr_iload_n 2 dX8_fails_1 rfl (k := ?_)
  refine kn_putI 10 ckX8 lkF_X8_28 rfl rfl rfl rfl (kg_o8a ho) (kg_o8n ho) dX8_fails_2 (fun M2 e3 => ?_)
  have h4 := h1 M2 e3
  refine kr_iload_n 1 dX8_fails_5 rfl (k := ?_)
  exact kr_ireturn dX8_fails_6 ⟨rfl, rfl, _, rfl, h4⟩
set_option maxRecDepth 100000 in
set_option maxHeartbeats 4000000 in
theorem sJ_X8_takeNumber_113 {G : kg_G} {E : State → Array Value → Prop} {R : kg_R} {n : Nat} {K : Int32 → kg_M → Prop} (ho : kg_O8 R n 117) {Kb : Int32 → Int32 → kg_M → Prop} {Kx129 : Int32 → Int32 → kg_M → Prop} (hKb : ∀ (v1 : Int32) (v2 : Int32) (M : kg_M), Kb v1 v2 M → kg_Run G E qX8_takeNumber 1 42 [(0, .ref (kg_b G + 117)), (1, .int v1), (2, .int v2)] [] M R n 0 0 (kg_I R n K)) (hKx129 : ∀ (v1 : Int32) (v2 : Int32) (M : kg_M), Kx129 v1 v2 M → kg_Run G E qX8_takeNumber 1 129 [(0, .ref (kg_b G + 117)), (1, .int v1), (2, .int v2)] [] M R n 0 0 (kg_I R n K)) (v1 : Int32) (v2 : Int32) (s1 : Int32) (M : kg_M) (h34 : wJ_X8_takeNumber_113  Kb Kx129 K v1 v2 s1 M) : kg_Run G E qX8_takeNumber 1 113 [(0, .ref (kg_b G + 117)), (1, .int v1), (2, .int v2)] [.int s1, .ref (kg_b G + 117)] M R n 0 0 (kg_I R n K) := by
  unfold wJ_X8_takeNumber_113 at h34
  refine kn_putI 12 ckX8 lkF_X8_122 rfl rfl rfl rfl (kg_o8a ho) (kg_o8n ho) dX8_takeNumber_113 (fun M35 e36 => ?_)
  have h37 := h34 M35 e36
  refine kr_aload_n 0 dX8_takeNumber_116 rfl (k := ?_)
  refine kr_dup dX8_takeNumber_117 (k := ?_)
  refine kr_getI 11 ckX8 lkF_X8_104 rfl (kg_o8a ho) (kg_o8n ho) dX8_takeNumber_118 (k := ?_)
  refine kr_iconst (1 : Int32) dX8_takeNumber_121 (k := ?_)
  refine kr_iadd dX8_takeNumber_122 (k := ?_)
  refine kn_putI 11 ckX8 lkF_X8_104 rfl rfl rfl rfl (kg_o8a ho) (kg_o8n ho) dX8_takeNumber_123 (fun M38 e39 => ?_)
  have h40 := h37 M38 e39
  refine kr_goto 42 dX8_takeNumber_126 ?_
  refine kr_sub [0, 1, 2] [(0, .ref (kg_b G + 117)), (1, .int v1), (2, .int v2)] rfl ?_
  exact hKb v1 v2 M38 h40
set_option maxRecDepth 100000 in
set_option maxHeartbeats 4000000 in
theorem sL_X8_takeNumber_42 {G : kg_G} {E : State → Array Value → Prop} {R : kg_R} {n : Nat} {K : Int32 → kg_M → Prop} (ho : kg_O8 R n 117) {Kx129 : Int32 → Int32 → kg_M → Prop} (hKx129 : ∀ (v1 : Int32) (v2 : Int32) (M : kg_M), Kx129 v1 v2 M → kg_Run G E qX8_takeNumber 1 129 [(0, .ref (kg_b G + 117)), (1, .int v1), (2, .int v2)] [] M R n 0 0 (kg_I R n K)) : ∀ (f : Nat) (v1 : Int32) (v2 : Int32) (M : kg_M), wL_X8_takeNumber_42  Kx129 K f v1 v2 M → kg_Run G E qX8_takeNumber 1 42 [(0, .ref (kg_b G + 117)), (1, .int v1), (2, .int v2)] [] M R n 0 0 (kg_I R n K) := by
  intro f
  induction f with
  | zero => intro v1 v2 M h0; exact h0.elim
  | succ f ih =>
    intro v1 v2 M h17
    rw [wL_X8_takeNumber_42] at h17
    refine kr_aload_n 0 dX8_takeNumber_42 rfl (k := ?_)
    refine kr_getI 11 ckX8 lkF_X8_104 rfl (kg_o8a ho) (kg_o8n ho) dX8_takeNumber_43 (k := ?_)
    refine kr_aload_n 0 dX8_takeNumber_46 rfl (k := ?_)
    refine kr_getI 9 ckX8 lkF_X8_100 rfl (kg_o8a ho) (kg_o8n ho) dX8_takeNumber_47 (k := ?_)
    refine kr_icmp_ge 129 dX8_takeNumber_50 (fun c18 => ?_) (fun c18 => ?_)
    · have h19 := h17.1 c18
      refine kr_sub [0, 1, 2] [(0, .ref (kg_b G + 117)), (1, .int v1), (2, .int v2)] rfl ?_
      exact hKx129 v1 v2 M h19
    · have h20 := h17.2 c18
      refine kr_aload_n 0 dX8_takeNumber_53 rfl (k := ?_)
      refine kr_getR 8 ckX8 lkF_X8_25 rfl (kg_o8a ho) (kg_o8n ho) (kg_o8r8 ho) dX8_takeNumber_54 (k := ?_)
      refine kr_aload_n 0 dX8_takeNumber_57 rfl (k := ?_)
      refine kr_getI 11 ckX8 lkF_X8_104 rfl (kg_o8a ho) (kg_o8n ho) dX8_takeNumber_58 (k := ?_)
      obtain ⟨h21, h22⟩ := h20
      refine kr_iald (kg_o8s8 ho) (kg_o8m8 ho) h21 dX8_takeNumber_61 (k := ?_)
      refine kr_i2l dX8_takeNumber_62 (k := ?_)
      refine kr_ldc2 dX8_takeNumber_63 lkD_X8_111 (k := ?_)
      refine kr_ldc2 dX8_takeNumber_66 lkD_X8_113 (k := ?_)
      refine kn_callSz [.long ((M 123 (M 117 11).toNatClampNeg).toInt64), .long (48 : Int64), .long (57 : Int64)] [] msX8_in lkM_X8_90 dX8_takeNumber_69 (sp_X8_in  h22) (fun r25 M23 _ h24 => ?_)
      refine kr_if_eq 129 dX8_takeNumber_72 (fun c26 => ?_) (fun c26 => ?_)
      · have h27 := h24.1 c26
        refine kr_sub [0, 1, 2] [(0, .ref (kg_b G + 117)), (1, .int v1), (2, .int v2)] rfl ?_
        exact hKx129 v1 v2 M23 h27
      · have h28 := h24.2 c26
        refine kr_aload_n 0 dX8_takeNumber_75 rfl (k := ?_)
        refine kr_aload_n 0 dX8_takeNumber_76 rfl (k := ?_)
        refine kr_getI 12 ckX8 lkF_X8_122 rfl (kg_o8a ho) (kg_o8n ho) dX8_takeNumber_77 (k := ?_)
        refine kr_sipush (10000 : Int32) dX8_takeNumber_80 (k := ?_)
        refine kr_icmp_le 93 dX8_takeNumber_83 (fun c29 => ?_) (fun c29 => ?_)
        · have h30 := h28.1 c29
          refine kr_bipush (10 : Int32) dX8_takeNumber_93 (k := ?_)
          refine kr_aload_n 0 dX8_takeNumber_95 rfl (k := ?_)
          refine kr_getI 12 ckX8 lkF_X8_122 rfl (kg_o8a ho) (kg_o8n ho) dX8_takeNumber_96 (k := ?_)
          refine kr_imul dX8_takeNumber_99 (k := ?_)
          refine kr_aload_n 0 dX8_takeNumber_100 rfl (k := ?_)
          refine kr_getR 8 ckX8 lkF_X8_25 rfl (kg_o8a ho) (kg_o8n ho) (kg_o8r8 ho) dX8_takeNumber_101 (k := ?_)
          refine kr_aload_n 0 dX8_takeNumber_104 rfl (k := ?_)
          refine kr_getI 11 ckX8 lkF_X8_104 rfl (kg_o8a ho) (kg_o8n ho) dX8_takeNumber_105 (k := ?_)
          obtain ⟨h32, h33⟩ := h30
          refine kr_iald (kg_o8s8 ho) (kg_o8m8 ho) h32 dX8_takeNumber_108 (k := ?_)
          refine kr_iadd dX8_takeNumber_109 (k := ?_)
          refine kr_bipush (48 : Int32) dX8_takeNumber_110 (k := ?_)
          refine kr_isub dX8_takeNumber_112 (k := ?_)
          refine kr_sub [0, 1, 2] [(0, .ref (kg_b G + 117)), (1, .int v1), (2, .int v2)] rfl ?_
          exact sJ_X8_takeNumber_113 ho ih hKx129 v1 v2 ((((10 : Int32) * (M23 117 12)) + (M23 123 (M23 117 11).toNatClampNeg)) - (48 : Int32)) M23 h33
        · have h31 := h28.2 c29
          refine kr_aload_n 0 dX8_takeNumber_86 rfl (k := ?_)
          refine kr_getI 12 ckX8 lkF_X8_122 rfl (kg_o8a ho) (kg_o8n ho) dX8_takeNumber_87 (k := ?_)
          refine kr_goto 113 dX8_takeNumber_90 ?_
          refine kr_sub [0, 1, 2] [(0, .ref (kg_b G + 117)), (1, .int v1), (2, .int v2)] rfl ?_
          exact sJ_X8_takeNumber_113 ho ih hKx129 v1 v2 (M23 117 12) M23 h31
set_option maxRecDepth 100000 in
set_option maxHeartbeats 4000000 in
theorem sJ_X8_takeNumber_157 {G : kg_G} {E : State → Array Value → Prop} {R : kg_R} {n : Nat} {K : Int32 → kg_M → Prop} (ho : kg_O8 R n 117) (M : kg_M) (h46 : wJ_X8_takeNumber_157  K M) : kg_Run G E qX8_takeNumber 1 157 [(0, .ref (kg_b G + 117))] [] M R n 0 0 (kg_I R n K) := by
  unfold wJ_X8_takeNumber_157 at h46
  refine kr_aload_n 0 dX8_takeNumber_157 rfl (k := ?_)
  refine kr_iconst (2 : Int32) dX8_takeNumber_158 (k := ?_)
  refine kr_aload_n 0 dX8_takeNumber_159 rfl (k := ?_)
  refine kr_getI 13 ckX8 lkF_X8_119 rfl (kg_o8a ho) (kg_o8n ho) dX8_takeNumber_160 (k := ?_)
  refine kn_callVi [.int (2 : Int32), .int (M 117 13)] [] mvX8_fails lkM_X8_115 (kg_o8a ho) rfl (kg_o8n ho) dX8_takeNumber_163 (sp_X8_fails ho h46) (fun r49 M47 h48 => ?_)
  refine kr_goto 170 dX8_takeNumber_166 ?_
  exact kr_ireturn dX8_takeNumber_170 ⟨rfl, rfl, _, rfl, h48⟩
set_option maxRecDepth 100000 in
set_option maxHeartbeats 4000000 in
theorem sJ_X8_takeNumber_129 {G : kg_G} {E : State → Array Value → Prop} {R : kg_R} {n : Nat} {K : Int32 → kg_M → Prop} (ho : kg_O8 R n 117) (v1 : Int32) (v2 : Int32) (M : kg_M) (h42 : wJ_X8_takeNumber_129  K v1 v2 M) : kg_Run G E qX8_takeNumber 1 129 [(0, .ref (kg_b G + 117)), (1, .int v1), (2, .int v2)] [] M R n 0 0 (kg_I R n K) := by
  unfold wJ_X8_takeNumber_129 at h42
  refine kr_aload_n 0 dX8_takeNumber_129 rfl (k := ?_)
  refine kr_getI 11 ckX8 lkF_X8_104 rfl (kg_o8a ho) (kg_o8n ho) dX8_takeNumber_130 (k := ?_)
  refine kr_aload_n 0 dX8_takeNumber_133 rfl (k := ?_)
  refine kr_getI 13 ckX8 lkF_X8_119 rfl (kg_o8a ho) (kg_o8n ho) dX8_takeNumber_134 (k := ?_)
  refine kr_isub dX8_takeNumber_137 (k := ?_)
  refine kr_iconst (3 : Int32) dX8_takeNumber_138 (k := ?_)
  refine kr_icmp_gt 157 dX8_takeNumber_139 (fun c43 => ?_) (fun c43 => ?_)
  · have h44 := h42.1 c43
    refine kr_sub [0] [(0, .ref (kg_b G + 117))] rfl ?_
    exact sJ_X8_takeNumber_157 ho  M h44
  · have h45 := h42.2 c43
    refine kr_aload_n 0 dX8_takeNumber_142 rfl (k := ?_)
    refine kr_getI 12 ckX8 lkF_X8_122 rfl (kg_o8a ho) (kg_o8n ho) dX8_takeNumber_143 (k := ?_)
    refine kr_i2l dX8_takeNumber_146 (k := ?_)
    refine kr_iload_n 1 dX8_takeNumber_147 rfl (k := ?_)
    refine kr_i2l dX8_takeNumber_148 (k := ?_)
    refine kr_iload_n 2 dX8_takeNumber_149 rfl (k := ?_)
    refine kr_i2l dX8_takeNumber_150 (k := ?_)
    refine kn_callSz [.long ((M 117 12).toInt64), .long v1.toInt64, .long v2.toInt64] [] msX8_in lkM_X8_90 dX8_takeNumber_151 (sp_X8_in  h45) (fun r52 M50 _ h51 => ?_)
    refine kr_if_ne 169 dX8_takeNumber_154 (fun c53 => ?_) (fun c53 => ?_)
    · have h54 := h51.1 c53
      refine kr_iconst (0 : Int32) dX8_takeNumber_169 (k := ?_)
      exact kr_ireturn dX8_takeNumber_170 ⟨rfl, rfl, _, rfl, h54⟩
    · have h55 := h51.2 c53
      refine kr_sub [0] [(0, .ref (kg_b G + 117))] rfl ?_
      exact sJ_X8_takeNumber_157 ho  M50 h55
set_option maxRecDepth 100000 in
set_option maxHeartbeats 4000000 in
theorem sp_X8_takeNumber {G : kg_G} {E : State → Array Value → Prop} {R : kg_R} {n : Nat} {K : Int32 → kg_M → Prop} (ho : kg_O8 R n 117) {v1 : Int32} {v2 : Int32} {M : kg_M} (h1 : wp_X8_takeNumber v1 v2 M K) : kg_Run G E qX8_takeNumber 1 0 [(0, .ref (kg_b G + 117)), (1, .int v1), (2, .int v2)] [] M R n 0 0 (kg_I R n K) := by
  unfold wp_X8_takeNumber at h1
  refine kr_aload_n 0 dX8_takeNumber_0 rfl (k := ?_)
  refine kn_callVi [] [] mvX8_here lkM_X8_107 (kg_o8a ho) rfl (kg_o8n ho) dX8_takeNumber_1 (sp_X8_here ho h1) (fun r4 M2 h3 => ?_)
  refine kr_istore_n [(3, .int r4), (0, .ref (kg_b G + 117)), (1, .int v1), (2, .int v2)] dX8_takeNumber_4 (k := ?_)
  refine kr_iload_n 0 dX8_takeNumber_5 rfl (k := ?_)
  refine kr_i2l dX8_takeNumber_6 (k := ?_)
  refine kr_ldc2 dX8_takeNumber_7 lkD_X8_111 (k := ?_)
  refine kr_ldc2 dX8_takeNumber_10 lkD_X8_113 (k := ?_)
  refine kn_callSz [.long r4.toInt64, .long (48 : Int64), .long (57 : Int64)] [] msX8_in lkM_X8_90 dX8_takeNumber_13 (sp_X8_in  h3) (fun r7 M5 _ h6 => ?_)
  refine kr_if_ne 29 dX8_takeNumber_16 (fun c8 => ?_) (fun c8 => ?_)
  · have h9 := h6.1 c8
    refine kr_aload_n 1 dX8_takeNumber_29 rfl (k := ?_)
    refine kr_aload_n 1 dX8_takeNumber_30 rfl (k := ?_)
    refine kr_getI 11 ckX8 lkF_X8_104 rfl (kg_o8a ho) (kg_o8n ho) dX8_takeNumber_31 (k := ?_)
    refine kn_putI 13 ckX8 lkF_X8_119 rfl rfl rfl rfl (kg_o8a ho) (kg_o8n ho) dX8_takeNumber_34 (fun M11 e12 => ?_)
    have h13 := h9 M11 e12
    refine kr_aload_n 1 dX8_takeNumber_37 rfl (k := ?_)
    refine kr_iconst (0 : Int32) dX8_takeNumber_38 (k := ?_)
    refine kn_putI 12 ckX8 lkF_X8_122 rfl rfl rfl rfl (kg_o8a ho) (kg_o8n ho) dX8_takeNumber_39 (fun M14 e15 => ?_)
    have h16 := h13 M14 e15
    refine kr_sub [1, 2, 3] [(0, .ref (kg_b G + 117)), (1, .int v1), (2, .int v2)] rfl ?_
    obtain ⟨f56, h57⟩ := h16
    refine sL_X8_takeNumber_42 ho ?_ f56 v1 v2 M14 h57
    · intro v1 v2 M h41
      refine kr_sub [0, 1, 2] [(0, .ref (kg_b G + 117)), (1, .int v1), (2, .int v2)] rfl ?_
      exact sJ_X8_takeNumber_129 ho v1 v2 M h41
  · have h10 := h6.2 c8
    refine kr_aload_n 1 dX8_takeNumber_19 rfl (k := ?_)
    refine kr_iconst (1 : Int32) dX8_takeNumber_20 (k := ?_)
    refine kr_aload_n 1 dX8_takeNumber_21 rfl (k := ?_)
    refine kr_getI 11 ckX8 lkF_X8_104 rfl (kg_o8a ho) (kg_o8n ho) dX8_takeNumber_22 (k := ?_)
    refine kn_callVi [.int (1 : Int32), .int (M5 117 11)] [] mvX8_fails lkM_X8_115 (kg_o8a ho) rfl (kg_o8n ho) dX8_takeNumber_25 (sp_X8_fails ho h10) (fun r60 M58 h59 => ?_)
    exact kr_ireturn dX8_takeNumber_28 ⟨rfl, rfl, _, rfl, h59⟩
set_option maxRecDepth 100000 in
set_option maxHeartbeats 4000000 in
theorem sp_X8_into {G : kg_G} {E : State → Array Value → Prop} {R : kg_R} {n : Nat} {a1 : Nat} {N1 : Nat} {K : Int32 → kg_M → Prop} (ho : kg_O8 R n 117) (ha1 : kg_SH a1 = .inr (0, N1)) (hb1 : a1 < n) {v2 : Int32} {v3 : Int32} {v4 : Int32} {M : kg_M} (h1 : wp_X8_into a1 N1 v2 v3 v4 M K) : kg_Run G E qX8_into 2 0 [(0, .ref (kg_b G + 117)), (1, .ref (kg_b G + a1)), (2, .int v2), (3, .int v3), (4, .int v4)] [] M R n 0 0 (kg_I R n K) := by
  unfold wp_X8_into at h1
  refine kr_aload_n 0 dX8_into_0 rfl (k := ?_)
  refine kr_iload_n 3 dX8_into_1 rfl (k := ?_)
  refine kr_iload 4 dX8_into_2 rfl (k := ?_)
  refine kn_callVi [.int v3, .int v4] [] mvX8_takeNumber lkM_X8_125 (kg_o8a ho) rfl (kg_o8n ho) dX8_into_4 (sp_X8_takeNumber ho h1) (fun r4 M2 h3 => ?_)
  refine kr_istore [(5, .int r4), (0, .ref (kg_b G + 117)), (1, .ref (kg_b G + a1)), (2, .int v2), (3, .int v3), (4, .int v4)] dX8_into_7 (k := ?_)
  refine kr_aload_n 2 dX8_into_9 rfl (k := ?_)
  refine kr_iload_n 3 dX8_into_10 rfl (k := ?_)
  refine kr_aload_n 1 dX8_into_11 rfl (k := ?_)
  refine kr_getI 12 ckX8 lkF_X8_122 rfl (kg_o8a ho) (kg_o8n ho) dX8_into_12 (k := ?_)
  obtain ⟨h5, h6⟩ := h3
  refine kn_iast ha1 hb1 h5 dX8_into_15 (fun M7 e8 => ?_)
  have h9 := h6 M7 e8
  refine kr_iload 0 dX8_into_16 rfl (k := ?_)
  exact kr_ireturn dX8_into_18 ⟨rfl, rfl, _, rfl, h9⟩
set_option maxRecDepth 100000 in
set_option maxHeartbeats 4000000 in
theorem sp_X8_takeGate {G : kg_G} {E : State → Array Value → Prop} {R : kg_R} {n : Nat} {K : Int32 → kg_M → Prop} (ho : kg_O8 R n 117) {M : kg_M} (h1 : wp_X8_takeGate  M K) : kg_Run G E qX8_takeGate 3 0 [(0, .ref (kg_b G + 117))] [] M R n 0 0 (kg_I R n K) := by
  unfold wp_X8_takeGate at h1
  refine kr_aload_n 0 dX8_takeGate_0 rfl (k := ?_)
  refine kr_getI 14 ckX8 lkF_X8_128 rfl (kg_o8a ho) (kg_o8n ho) dX8_takeGate_1 (k := ?_)
  refine kr_istore_n [(1, .int (M 117 14)), (0, .ref (kg_b G + 117))] dX8_takeGate_4 (k := ?_)
  refine kr_aload_n 1 dX8_takeGate_5 rfl (k := ?_)
  refine kr_dup dX8_takeGate_6 (k := ?_)
  refine kr_getI 14 ckX8 lkF_X8_128 rfl (kg_o8a ho) (kg_o8n ho) dX8_takeGate_7 (k := ?_)
  refine kr_iconst (1 : Int32) dX8_takeGate_10 (k := ?_)
  refine kr_iadd dX8_takeGate_11 (k := ?_)
  refine kn_putI 14 ckX8 lkF_X8_128 rfl rfl rfl rfl (kg_o8a ho) (kg_o8n ho) dX8_takeGate_12 (fun M2 e3 => ?_)
  have h4 := h1 M2 e3
  refine kr_aload_n 1 dX8_takeGate_15 rfl (k := ?_)
  refine kr_aload_n 1 dX8_takeGate_16 rfl (k := ?_)
  refine kr_getR 15 ckX8 lkF_X8_32 rfl (kg_o8a ho) (kg_o8n ho) (kg_o8r15 ho) dX8_takeGate_17 (k := ?_)
  refine kr_iload_n 0 dX8_takeGate_20 rfl (k := ?_)
  refine kr_iconst (1 : Int32) dX8_takeGate_21 (k := ?_)
  refine kr_bipush (99 : Int32) dX8_takeGate_22 (k := ?_)
  refine kn_callVi [.ref (kg_b G + 124), .int (M 117 14), .int (1 : Int32), .int (99 : Int32)] [] mvX8_into lkM_X8_131 (kg_o8a ho) rfl (kg_o8n ho) dX8_takeGate_24 (sp_X8_into ho (kg_o8s15 ho) (kg_o8m15 ho) h4) (fun r7 M5 h6 => ?_)
  exact kr_ireturn dX8_takeGate_27 ⟨rfl, rfl, _, rfl, h6⟩
set_option maxRecDepth 100000 in
set_option maxHeartbeats 4000000 in
theorem sJ_X8_takeLikes_67 {G : kg_G} {E : State → Array Value → Prop} {R : kg_R} {n : Nat} {K : Int32 → kg_M → Prop} (ho : kg_O8 R n 117) (M : kg_M) (h18 : wJ_X8_takeLikes_67  K M) : kg_Run G E qX8_takeLikes 3 67 [(0, .ref (kg_b G + 117))] [] M R n 0 0 (kg_I R n K) := by
  unfold wJ_X8_takeLikes_67 at h18
  refine kr_aload_n 0 dX8_takeLikes_67 rfl (k := ?_)
  refine kr_iconst (4 : Int32) dX8_takeLikes_68 (k := ?_)
  refine kr_aload_n 0 dX8_takeLikes_69 rfl (k := ?_)
  refine kr_getI 13 ckX8 lkF_X8_119 rfl (kg_o8a ho) (kg_o8n ho) dX8_takeLikes_70 (k := ?_)
  refine kn_callVi [.int (4 : Int32), .int (M 117 13)] [] mvX8_fails lkM_X8_115 (kg_o8a ho) rfl (kg_o8n ho) dX8_takeLikes_73 (sp_X8_fails ho h18) (fun r21 M19 h20 => ?_)
  exact kr_ireturn dX8_takeLikes_76 ⟨rfl, rfl, _, rfl, h20⟩
set_option maxRecDepth 100000 in
set_option maxHeartbeats 4000000 in
theorem sJ_X8_takeLikes_36 {G : kg_G} {E : State → Array Value → Prop} {R : kg_R} {n : Nat} {K : Int32 → kg_M → Prop} (ho : kg_O8 R n 117) (v2 : Int32) (s0 : Int32) (M : kg_M) (h11 : wJ_X8_takeLikes_36  K v2 s0 M) : kg_Run G E qX8_takeLikes 3 36 [(0, .ref (kg_b G + 117)), (2, .int v2)] [.int s0] M R n 0 0 (kg_I R n K) := by
  unfold wJ_X8_takeLikes_36 at h11
  refine kr_istore_n [(1, .int s0), (0, .ref (kg_b G + 117)), (2, .int v2)] dX8_takeLikes_36 (k := ?_)
  refine kr_iload_n 0 dX8_takeLikes_37 rfl (k := ?_)
  refine kr_if_le 43 dX8_takeLikes_38 (fun c12 => ?_) (fun c12 => ?_)
  · have h13 := h11.1 c12
    refine kr_aload_n 1 dX8_takeLikes_43 rfl (k := ?_)
    refine kr_getI 12 ckX8 lkF_X8_122 rfl (kg_o8a ho) (kg_o8n ho) dX8_takeLikes_44 (k := ?_)
    refine kr_istore_n [(3, .int (M 117 12)), (1, .int s0), (0, .ref (kg_b G + 117)), (2, .int v2)] dX8_takeLikes_47 (k := ?_)
    refine kr_iload_n 3 dX8_takeLikes_48 rfl (k := ?_)
    refine kr_iload_n 0 dX8_takeLikes_49 rfl (k := ?_)
    refine kr_icmp_eq 67 dX8_takeLikes_50 (fun c15 => ?_) (fun c15 => ?_)
    · have h16 := h13.1 c15
      refine kr_sub [2] [(0, .ref (kg_b G + 117))] rfl ?_
      exact sJ_X8_takeLikes_67 ho  M h16
    · have h17 := h13.2 c15
      refine kr_aload_n 2 dX8_takeLikes_53 rfl (k := ?_)
      refine kr_getR 19 ckX8 lkF_X8_41 rfl (kg_o8a ho) (kg_o8n ho) (kg_o8r19 ho) dX8_takeLikes_54 (k := ?_)
      refine kr_bipush (7 : Int32) dX8_takeLikes_57 (k := ?_)
      refine kr_iload_n 3 dX8_takeLikes_59 rfl (k := ?_)
      refine kr_imul dX8_takeLikes_60 (k := ?_)
      refine kr_iload_n 0 dX8_takeLikes_61 rfl (k := ?_)
      refine kr_iadd dX8_takeLikes_62 (k := ?_)
      obtain ⟨h22, h23⟩ := h17
      refine kr_iald (kg_o8s19 ho) (kg_o8m19 ho) h22 dX8_takeLikes_63 (k := ?_)
      refine kr_if_lt 77 dX8_takeLikes_64 (fun c24 => ?_) (fun c24 => ?_)
      · have h25 := h23.1 c24
        refine kr_aload_n 2 dX8_takeLikes_77 rfl (k := ?_)
        refine kr_aload_n 2 dX8_takeLikes_78 rfl (k := ?_)
        refine kr_getR 19 ckX8 lkF_X8_41 rfl (kg_o8a ho) (kg_o8n ho) (kg_o8r19 ho) dX8_takeLikes_79 (k := ?_)
        refine kr_bipush (7 : Int32) dX8_takeLikes_82 (k := ?_)
        refine kr_iload_n 3 dX8_takeLikes_84 rfl (k := ?_)
        refine kr_imul dX8_takeLikes_85 (k := ?_)
        refine kr_iload_n 0 dX8_takeLikes_86 rfl (k := ?_)
        refine kr_iadd dX8_takeLikes_87 (k := ?_)
        refine kr_iconst (0 : Int32) dX8_takeLikes_88 (k := ?_)
        refine kr_bipush (9 : Int32) dX8_takeLikes_89 (k := ?_)
        refine kn_callVi [.ref (kg_b G + 127), .int (((7 : Int32) * v2) + (M 117 12)), .int (0 : Int32), .int (9 : Int32)] [] mvX8_into lkM_X8_131 (kg_o8a ho) rfl (kg_o8n ho) dX8_takeLikes_91 (sp_X8_into ho (kg_o8s19 ho) (kg_o8m19 ho) h25) (fun r29 M27 h28 => ?_)
        exact kr_ireturn dX8_takeLikes_94 ⟨rfl, rfl, _, rfl, h28⟩
      · have h26 := h23.2 c24
        refine kr_sub [2] [(0, .ref (kg_b G + 117))] rfl ?_
        exact sJ_X8_takeLikes_67 ho  M h26
  · have h14 := h11.2 c12
    refine kr_iload_n 0 dX8_takeLikes_41 rfl (k := ?_)
    exact kr_ireturn dX8_takeLikes_42 ⟨rfl, rfl, _, rfl, h14⟩
set_option maxRecDepth 100000 in
set_option maxHeartbeats 4000000 in
theorem sp_X8_takeLikes {G : kg_G} {E : State → Array Value → Prop} {R : kg_R} {n : Nat} {K : Int32 → kg_M → Prop} (ho : kg_O8 R n 117) {M : kg_M} (h1 : wp_X8_takeLikes  M K) : kg_Run G E qX8_takeLikes 3 0 [(0, .ref (kg_b G + 117))] [] M R n 0 0 (kg_I R n K) := by
  unfold wp_X8_takeLikes at h1
  refine kr_aload_n 0 dX8_takeLikes_0 rfl (k := ?_)
  refine kr_iconst (0 : Int32) dX8_takeLikes_1 (k := ?_)
  refine kr_aload_n 0 dX8_takeLikes_2 rfl (k := ?_)
  refine kr_getI 16 ckX8 lkF_X8_135 rfl (kg_o8a ho) (kg_o8n ho) dX8_takeLikes_3 (k := ?_)
  refine kr_iconst (1 : Int32) dX8_takeLikes_6 (k := ?_)
  refine kr_isub dX8_takeLikes_7 (k := ?_)
  refine kn_callVi [.int (0 : Int32), .int ((M 117 16) - (1 : Int32))] [] mvX8_takeNumber lkM_X8_125 (kg_o8a ho) rfl (kg_o8n ho) dX8_takeLikes_8 (sp_X8_takeNumber ho h1) (fun r4 M2 h3 => ?_)
  refine kr_istore_n [(1, .int r4), (0, .ref (kg_b G + 117))] dX8_takeLikes_11 (k := ?_)
  refine kr_aload_n 1 dX8_takeLikes_12 rfl (k := ?_)
  refine kr_getI 12 ckX8 lkF_X8_122 rfl (kg_o8a ho) (kg_o8n ho) dX8_takeLikes_13 (k := ?_)
  refine kr_istore_n [(2, .int (M2 117 12)), (1, .int r4), (0, .ref (kg_b G + 117))] dX8_takeLikes_16 (k := ?_)
  refine kr_iload_n 1 dX8_takeLikes_17 rfl (k := ?_)
  refine kr_if_le 25 dX8_takeLikes_18 (fun c5 => ?_) (fun c5 => ?_)
  · have h6 := h3.1 c5
    refine kr_aload_n 2 dX8_takeLikes_25 rfl (k := ?_)
    refine kr_iconst (0 : Int32) dX8_takeLikes_26 (k := ?_)
    refine kr_aload_n 2 dX8_takeLikes_27 rfl (k := ?_)
    refine kr_getI 16 ckX8 lkF_X8_135 rfl (kg_o8a ho) (kg_o8n ho) dX8_takeLikes_28 (k := ?_)
    refine kr_iconst (1 : Int32) dX8_takeLikes_31 (k := ?_)
    refine kr_isub dX8_takeLikes_32 (k := ?_)
    refine kn_callVi [.int (0 : Int32), .int ((M2 117 16) - (1 : Int32))] [] mvX8_takeNumber lkM_X8_125 (kg_o8a ho) rfl (kg_o8n ho) dX8_takeLikes_33 (sp_X8_takeNumber ho h6) (fun r10 M8 h9 => ?_)
    refine kr_sub [2, 0] [(0, .ref (kg_b G + 117)), (2, .int (M2 117 12))] rfl ?_
    exact sJ_X8_takeLikes_36 ho (M2 117 12) r10 M8 h9
  · have h7 := h3.2 c5
    refine kr_iload_n 1 dX8_takeLikes_21 rfl (k := ?_)
    refine kr_goto 36 dX8_takeLikes_22 ?_
    refine kr_sub [2, 0] [(0, .ref (kg_b G + 117)), (2, .int (M2 117 12))] rfl ?_
    exact sJ_X8_takeLikes_36 ho (M2 117 12) r4 M2 h7
set_option maxRecDepth 100000 in
set_option maxHeartbeats 4000000 in
theorem sp_X8_takePerson {G : kg_G} {E : State → Array Value → Prop} {R : kg_R} {n : Nat} {K : Int32 → kg_M → Prop} (ho : kg_O8 R n 117) {M : kg_M} (h1 : wp_X8_takePerson  M K) : kg_Run G E qX8_takePerson 3 0 [(0, .ref (kg_b G + 117))] [] M R n 0 0 (kg_I R n K) := by
  unfold wp_X8_takePerson at h1
  refine kr_aload_n 0 dX8_takePerson_0 rfl (k := ?_)
  refine kr_getI 16 ckX8 lkF_X8_135 rfl (kg_o8a ho) (kg_o8n ho) dX8_takePerson_1 (k := ?_)
  refine kr_istore_n [(1, .int (M 117 16)), (0, .ref (kg_b G + 117))] dX8_takePerson_4 (k := ?_)
  refine kr_aload_n 1 dX8_takePerson_5 rfl (k := ?_)
  refine kr_dup dX8_takePerson_6 (k := ?_)
  refine kr_getI 16 ckX8 lkF_X8_135 rfl (kg_o8a ho) (kg_o8n ho) dX8_takePerson_7 (k := ?_)
  refine kr_iconst (1 : Int32) dX8_takePerson_10 (k := ?_)
  refine kr_iadd dX8_takePerson_11 (k := ?_)
  refine kn_putI 16 ckX8 lkF_X8_135 rfl rfl rfl rfl (kg_o8a ho) (kg_o8n ho) dX8_takePerson_12 (fun M2 e3 => ?_)
  have h4 := h1 M2 e3
  refine kr_aload_n 1 dX8_takePerson_15 rfl (k := ?_)
  refine kr_aload_n 1 dX8_takePerson_16 rfl (k := ?_)
  refine kr_getR 17 ckX8 lkF_X8_35 rfl (kg_o8a ho) (kg_o8n ho) (kg_o8r17 ho) dX8_takePerson_17 (k := ?_)
  refine kr_iload_n 0 dX8_takePerson_20 rfl (k := ?_)
  refine kr_iconst (0 : Int32) dX8_takePerson_21 (k := ?_)
  refine kr_iconst (1 : Int32) dX8_takePerson_22 (k := ?_)
  refine kn_callVi [.ref (kg_b G + 125), .int (M 117 16), .int (0 : Int32), .int (1 : Int32)] [] mvX8_into lkM_X8_131 (kg_o8a ho) rfl (kg_o8n ho) dX8_takePerson_23 (sp_X8_into ho (kg_o8s17 ho) (kg_o8m17 ho) h4) (fun r7 M5 h6 => ?_)
  refine kr_istore_n [(2, .int r7), (1, .int (M 117 16)), (0, .ref (kg_b G + 117))] dX8_takePerson_26 (k := ?_)
  refine kr_iload_n 0 dX8_takePerson_27 rfl (k := ?_)
  refine kr_if_le 35 dX8_takePerson_28 (fun c8 => ?_) (fun c8 => ?_)
  · have h9 := h6.1 c8
    refine kr_aload_n 2 dX8_takePerson_35 rfl (k := ?_)
    refine kr_aload_n 2 dX8_takePerson_36 rfl (k := ?_)
    refine kr_getR 18 ckX8 lkF_X8_38 rfl (kg_o8a ho) (kg_o8n ho) (kg_o8r18 ho) dX8_takePerson_37 (k := ?_)
    refine kr_iload_n 1 dX8_takePerson_40 rfl (k := ?_)
    refine kr_iconst (0 : Int32) dX8_takePerson_41 (k := ?_)
    refine kr_iconst (1 : Int32) dX8_takePerson_42 (k := ?_)
    refine kn_callVi [.ref (kg_b G + 126), .int (M 117 16), .int (0 : Int32), .int (1 : Int32)] [] mvX8_into lkM_X8_131 (kg_o8a ho) rfl (kg_o8n ho) dX8_takePerson_43 (sp_X8_into ho (kg_o8s18 ho) (kg_o8m18 ho) h9) (fun r13 M11 h12 => ?_)
    exact kr_ireturn dX8_takePerson_46 ⟨rfl, rfl, _, rfl, h12⟩
  · have h10 := h6.2 c8
    refine kr_iload_n 0 dX8_takePerson_31 rfl (k := ?_)
    refine kr_goto 46 dX8_takePerson_32 ?_
    exact kr_ireturn dX8_takePerson_46 ⟨rfl, rfl, _, rfl, h10⟩
set_option maxRecDepth 100000 in
set_option maxHeartbeats 4000000 in
theorem sJ_X8_takeClause_148 {G : kg_G} {E : State → Array Value → Prop} {R : kg_R} {n : Nat} {K : Int32 → kg_M → Prop} (ho : kg_O8 R n 117) (v3 : Int32) (M : kg_M) (h42 : wJ_X8_takeClause_148  K v3 M) : kg_Run G E qX8_takeClause 4 148 [(0, .ref (kg_b G + 117)), (3, .int v3)] [] M R n 0 0 (kg_I R n K) := by
  unfold wJ_X8_takeClause_148 at h42
  refine kr_aload_n 0 dX8_takeClause_148 rfl (k := ?_)
  refine kr_dup dX8_takeClause_149 (k := ?_)
  refine kr_getI 11 ckX8 lkF_X8_104 rfl (kg_o8a ho) (kg_o8n ho) dX8_takeClause_150 (k := ?_)
  refine kr_iconst (1 : Int32) dX8_takeClause_153 (k := ?_)
  refine kr_iadd dX8_takeClause_154 (k := ?_)
  refine kn_putI 11 ckX8 lkF_X8_104 rfl rfl rfl rfl (kg_o8a ho) (kg_o8n ho) dX8_takeClause_155 (fun M43 e44 => ?_)
  have h45 := h42 M43 e44
  refine kr_iload_n 1 dX8_takeClause_158 rfl (k := ?_)
  exact kr_ireturn dX8_takeClause_159 ⟨rfl, rfl, _, rfl, h45⟩
set_option maxRecDepth 100000 in
set_option maxHeartbeats 4000000 in
theorem sJ_X8_takeClause_124 {G : kg_G} {E : State → Array Value → Prop} {R : kg_R} {n : Nat} {K : Int32 → kg_M → Prop} (ho : kg_O8 R n 117) (s0 : Int32) (M : kg_M) (h38 : wJ_X8_takeClause_124  K s0 M) : kg_Run G E qX8_takeClause 4 124 [(0, .ref (kg_b G + 117))] [.int s0] M R n 0 0 (kg_I R n K) := by
  unfold wJ_X8_takeClause_124 at h38
  refine kr_istore_n [(3, .int s0), (0, .ref (kg_b G + 117))] dX8_takeClause_124 (k := ?_)
  refine kr_iload_n 0 dX8_takeClause_125 rfl (k := ?_)
  refine kr_if_ne 148 dX8_takeClause_126 (fun c39 => ?_) (fun c39 => ?_)
  · have h40 := h38.1 c39
    refine kr_sub [1, 0] [(0, .ref (kg_b G + 117)), (3, .int s0)] rfl ?_
    exact sJ_X8_takeClause_148 ho s0 M h40
  · have h41 := h38.2 c39
    refine kr_aload_n 1 dX8_takeClause_129 rfl (k := ?_)
    refine kn_callVi [] [] mvX8_here lkM_X8_107 (kg_o8a ho) rfl (kg_o8n ho) dX8_takeClause_130 (sp_X8_here ho h41) (fun r48 M46 h47 => ?_)
    refine kr_bipush (59 : Int32) dX8_takeClause_133 (k := ?_)
    refine kr_icmp_eq 148 dX8_takeClause_135 (fun c49 => ?_) (fun c49 => ?_)
    · have h50 := h47.1 c49
      refine kr_sub [1, 0] [(0, .ref (kg_b G + 117)), (3, .int s0)] rfl ?_
      exact sJ_X8_takeClause_148 ho s0 M46 h50
    · have h51 := h47.2 c49
      refine kr_aload_n 1 dX8_takeClause_138 rfl (k := ?_)
      refine kr_iconst (1 : Int32) dX8_takeClause_139 (k := ?_)
      refine kr_aload_n 1 dX8_takeClause_140 rfl (k := ?_)
      refine kr_getI 11 ckX8 lkF_X8_104 rfl (kg_o8a ho) (kg_o8n ho) dX8_takeClause_141 (k := ?_)
      refine kn_callVi [.int (1 : Int32), .int (M46 117 11)] [] mvX8_fails lkM_X8_115 (kg_o8a ho) rfl (kg_o8n ho) dX8_takeClause_144 (sp_X8_fails ho h51) (fun r54 M52 h53 => ?_)
      exact kr_ireturn dX8_takeClause_147 ⟨rfl, rfl, _, rfl, h53⟩
set_option maxRecDepth 100000 in
set_option maxHeartbeats 4000000 in
theorem sJ_X8_takeClause_87 {G : kg_G} {E : State → Array Value → Prop} {R : kg_R} {n : Nat} {K : Int32 → kg_M → Prop} (ho : kg_O8 R n 117) (v2 : Int32) (M : kg_M) (h25 : wJ_X8_takeClause_87  K v2 M) : kg_Run G E qX8_takeClause 4 87 [(0, .ref (kg_b G + 117)), (2, .int v2)] [] M R n 0 0 (kg_I R n K) := by
  unfold wJ_X8_takeClause_87 at h25
  refine kr_aload_n 0 dX8_takeClause_87 rfl (k := ?_)
  refine kr_dup dX8_takeClause_88 (k := ?_)
  refine kr_getI 11 ckX8 lkF_X8_104 rfl (kg_o8a ho) (kg_o8n ho) dX8_takeClause_89 (k := ?_)
  refine kr_iconst (1 : Int32) dX8_takeClause_92 (k := ?_)
  refine kr_iadd dX8_takeClause_93 (k := ?_)
  refine kn_putI 11 ckX8 lkF_X8_104 rfl rfl rfl rfl (kg_o8a ho) (kg_o8n ho) dX8_takeClause_94 (fun M26 e27 => ?_)
  have h28 := h25 M26 e27
  refine kr_iload_n 1 dX8_takeClause_97 rfl (k := ?_)
  refine kr_if_ne 108 dX8_takeClause_98 (fun c29 => ?_) (fun c29 => ?_)
  · have h30 := h28.1 c29
    refine kr_iload_n 1 dX8_takeClause_108 rfl (k := ?_)
    refine kr_iconst (1 : Int32) dX8_takeClause_109 (k := ?_)
    refine kr_icmp_ne 120 dX8_takeClause_110 (fun c32 => ?_) (fun c32 => ?_)
    · have h33 := h30.1 c32
      refine kr_aload_n 0 dX8_takeClause_120 rfl (k := ?_)
      refine kn_callVi [] [] mvX8_takeLikes lkM_X8_144 (kg_o8a ho) rfl (kg_o8n ho) dX8_takeClause_121 (sp_X8_takeLikes ho h33) (fun r37 M35 h36 => ?_)
      refine kr_sub [0] [(0, .ref (kg_b G + 117))] rfl ?_
      exact sJ_X8_takeClause_124 ho r37 M35 h36
    · have h34 := h30.2 c32
      refine kr_aload_n 0 dX8_takeClause_113 rfl (k := ?_)
      refine kn_callVi [] [] mvX8_takePerson lkM_X8_141 (kg_o8a ho) rfl (kg_o8n ho) dX8_takeClause_114 (sp_X8_takePerson ho h34) (fun r57 M55 h56 => ?_)
      refine kr_goto 124 dX8_takeClause_117 ?_
      refine kr_sub [0] [(0, .ref (kg_b G + 117))] rfl ?_
      exact sJ_X8_takeClause_124 ho r57 M55 h56
  · have h31 := h28.2 c29
    refine kr_aload_n 0 dX8_takeClause_101 rfl (k := ?_)
    refine kn_callVi [] [] mvX8_takeGate lkM_X8_138 (kg_o8a ho) rfl (kg_o8n ho) dX8_takeClause_102 (sp_X8_takeGate ho h31) (fun r60 M58 h59 => ?_)
    refine kr_goto 124 dX8_takeClause_105 ?_
    refine kr_sub [0] [(0, .ref (kg_b G + 117))] rfl ?_
    exact sJ_X8_takeClause_124 ho r60 M58 h59
set_option maxRecDepth 100000 in
set_option maxHeartbeats 4000000 in
theorem sJ_X8_takeClause_77 {G : kg_G} {E : State → Array Value → Prop} {R : kg_R} {n : Nat} {K : Int32 → kg_M → Prop} (ho : kg_O8 R n 117) (M : kg_M) (h64 : wJ_X8_takeClause_77  K M) : kg_Run G E qX8_takeClause 4 77 [(0, .ref (kg_b G + 117))] [] M R n 0 0 (kg_I R n K) := by
  unfold wJ_X8_takeClause_77 at h64
  refine kr_aload_n 0 dX8_takeClause_77 rfl (k := ?_)
  refine kr_iconst (3 : Int32) dX8_takeClause_78 (k := ?_)
  refine kr_aload_n 0 dX8_takeClause_79 rfl (k := ?_)
  refine kr_getI 11 ckX8 lkF_X8_104 rfl (kg_o8a ho) (kg_o8n ho) dX8_takeClause_80 (k := ?_)
  refine kn_callVi [.int (3 : Int32), .int (M 117 11)] [] mvX8_fails lkM_X8_115 (kg_o8a ho) rfl (kg_o8n ho) dX8_takeClause_83 (sp_X8_fails ho h64) (fun r67 M65 h66 => ?_)
  exact kr_ireturn dX8_takeClause_86 ⟨rfl, rfl, _, rfl, h66⟩
set_option maxRecDepth 100000 in
set_option maxHeartbeats 4000000 in
theorem sJ_X8_takeClause_63 {G : kg_G} {E : State → Array Value → Prop} {R : kg_R} {n : Nat} {K : Int32 → kg_M → Prop} (ho : kg_O8 R n 117) (v2 : Int32) (M : kg_M) (h21 : wJ_X8_takeClause_63  K v2 M) : kg_Run G E qX8_takeClause 4 63 [(0, .ref (kg_b G + 117)), (2, .int v2)] [] M R n 0 0 (kg_I R n K) := by
  unfold wJ_X8_takeClause_63 at h21
  refine kr_iload_n 1 dX8_takeClause_63 rfl (k := ?_)
  refine kr_iconst (1 : Int32) dX8_takeClause_64 (k := ?_)
  refine kr_icmp_ne 87 dX8_takeClause_65 (fun c22 => ?_) (fun c22 => ?_)
  · have h23 := h21.1 c22
    refine kr_sub [0, 1] [(0, .ref (kg_b G + 117)), (2, .int v2)] rfl ?_
    exact sJ_X8_takeClause_87 ho v2 M h23
  · have h24 := h21.2 c22
    refine kr_aload_n 0 dX8_takeClause_68 rfl (k := ?_)
    refine kr_getI 16 ckX8 lkF_X8_135 rfl (kg_o8a ho) (kg_o8n ho) dX8_takeClause_69 (k := ?_)
    refine kr_bipush (7 : Int32) dX8_takeClause_72 (k := ?_)
    refine kr_icmp_ne 87 dX8_takeClause_74 (fun c61 => ?_) (fun c61 => ?_)
    · have h62 := h24.1 c61
      refine kr_sub [0, 1] [(0, .ref (kg_b G + 117)), (2, .int v2)] rfl ?_
      exact sJ_X8_takeClause_87 ho v2 M h62
    · have h63 := h24.2 c61
      refine kr_sub [0] [(0, .ref (kg_b G + 117))] rfl ?_
      exact sJ_X8_takeClause_77 ho  M h63
set_option maxRecDepth 100000 in
set_option maxHeartbeats 4000000 in
theorem sJ_X8_takeClause_36 {G : kg_G} {E : State → Array Value → Prop} {R : kg_R} {n : Nat} {K : Int32 → kg_M → Prop} (ho : kg_O8 R n 117) (s0 : Int32) (M : kg_M) (h14 : wJ_X8_takeClause_36  K s0 M) : kg_Run G E qX8_takeClause 4 36 [(0, .ref (kg_b G + 117))] [.int s0] M R n 0 0 (kg_I R n K) := by
  unfold wJ_X8_takeClause_36 at h14
  refine kr_istore_n [(2, .int s0), (0, .ref (kg_b G + 117))] dX8_takeClause_36 (k := ?_)
  refine kr_iload_n 0 dX8_takeClause_37 rfl (k := ?_)
  refine kr_if_ge 51 dX8_takeClause_38 (fun c15 => ?_) (fun c15 => ?_)
  · have h16 := h14.1 c15
    refine kr_iload_n 0 dX8_takeClause_51 rfl (k := ?_)
    refine kr_if_ne 63 dX8_takeClause_52 (fun c18 => ?_) (fun c18 => ?_)
    · have h19 := h16.1 c18
      refine kr_sub [1, 0] [(0, .ref (kg_b G + 117)), (2, .int s0)] rfl ?_
      exact sJ_X8_takeClause_63 ho s0 M h19
    · have h20 := h16.2 c18
      refine kr_aload_n 1 dX8_takeClause_55 rfl (k := ?_)
      refine kr_getI 14 ckX8 lkF_X8_128 rfl (kg_o8a ho) (kg_o8n ho) dX8_takeClause_56 (k := ?_)
      refine kr_iconst (5 : Int32) dX8_takeClause_59 (k := ?_)
      refine kr_icmp_eq 77 dX8_takeClause_60 (fun c68 => ?_) (fun c68 => ?_)
      · have h69 := h20.1 c68
        refine kr_sub [1] [(0, .ref (kg_b G + 117))] rfl ?_
        exact sJ_X8_takeClause_77 ho  M h69
      · have h70 := h20.2 c68
        refine kr_sub [1, 0] [(0, .ref (kg_b G + 117)), (2, .int s0)] rfl ?_
        exact sJ_X8_takeClause_63 ho s0 M h70
  · have h17 := h14.2 c15
    refine kr_aload_n 1 dX8_takeClause_41 rfl (k := ?_)
    refine kr_iconst (1 : Int32) dX8_takeClause_42 (k := ?_)
    refine kr_aload_n 1 dX8_takeClause_43 rfl (k := ?_)
    refine kr_getI 11 ckX8 lkF_X8_104 rfl (kg_o8a ho) (kg_o8n ho) dX8_takeClause_44 (k := ?_)
    refine kn_callVi [.int (1 : Int32), .int (M 117 11)] [] mvX8_fails lkM_X8_115 (kg_o8a ho) rfl (kg_o8n ho) dX8_takeClause_47 (sp_X8_fails ho h17) (fun r73 M71 h72 => ?_)
    exact kr_ireturn dX8_takeClause_50 ⟨rfl, rfl, _, rfl, h72⟩
set_option maxRecDepth 100000 in
set_option maxHeartbeats 4000000 in
theorem sp_X8_takeClause {G : kg_G} {E : State → Array Value → Prop} {R : kg_R} {n : Nat} {K : Int32 → kg_M → Prop} (ho : kg_O8 R n 117) {M : kg_M} (h1 : wp_X8_takeClause  M K) : kg_Run G E qX8_takeClause 4 0 [(0, .ref (kg_b G + 117))] [] M R n 0 0 (kg_I R n K) := by
  unfold wp_X8_takeClause at h1
  refine kr_aload_n 0 dX8_takeClause_0 rfl (k := ?_)
  refine kn_callVi [] [] mvX8_here lkM_X8_107 (kg_o8a ho) rfl (kg_o8n ho) dX8_takeClause_1 (sp_X8_here ho h1) (fun r4 M2 h3 => ?_)
  refine kr_istore_n [(1, .int r4), (0, .ref (kg_b G + 117))] dX8_takeClause_4 (k := ?_)
  refine kr_iload_n 0 dX8_takeClause_5 rfl (k := ?_)
  refine kr_bipush (103 : Int32) dX8_takeClause_6 (k := ?_)
  refine kr_icmp_ne 15 dX8_takeClause_8 (fun c5 => ?_) (fun c5 => ?_)
  · have h6 := h3.1 c5
    refine kr_iload_n 0 dX8_takeClause_15 rfl (k := ?_)
    refine kr_bipush (112 : Int32) dX8_takeClause_16 (k := ?_)
    refine kr_icmp_ne 25 dX8_takeClause_18 (fun c8 => ?_) (fun c8 => ?_)
    · have h9 := h6.1 c8
      refine kr_iload_n 0 dX8_takeClause_25 rfl (k := ?_)
      refine kr_bipush (108 : Int32) dX8_takeClause_26 (k := ?_)
      refine kr_icmp_ne 35 dX8_takeClause_28 (fun c11 => ?_) (fun c11 => ?_)
      · have h12 := h9.1 c11
        refine kr_iconst (-1 : Int32) dX8_takeClause_35 (k := ?_)
        refine kr_sub [1] [(0, .ref (kg_b G + 117))] rfl ?_
        exact sJ_X8_takeClause_36 ho (-1 : Int32) M2 h12
      · have h13 := h9.2 c11
        refine kr_iconst (2 : Int32) dX8_takeClause_31 (k := ?_)
        refine kr_goto 36 dX8_takeClause_32 ?_
        refine kr_sub [1] [(0, .ref (kg_b G + 117))] rfl ?_
        exact sJ_X8_takeClause_36 ho (2 : Int32) M2 h13
    · have h10 := h6.2 c8
      refine kr_iconst (1 : Int32) dX8_takeClause_21 (k := ?_)
      refine kr_goto 36 dX8_takeClause_22 ?_
      refine kr_sub [1] [(0, .ref (kg_b G + 117))] rfl ?_
      exact sJ_X8_takeClause_36 ho (1 : Int32) M2 h10
  · have h7 := h3.2 c5
    refine kr_iconst (0 : Int32) dX8_takeClause_11 (k := ?_)
    refine kr_goto 36 dX8_takeClause_12 ?_
    refine kr_sub [1] [(0, .ref (kg_b G + 117))] rfl ?_
    exact sJ_X8_takeClause_36 ho (0 : Int32) M2 h7
set_option maxRecDepth 100000 in
set_option maxHeartbeats 4000000 in
theorem sL_X8_takeRead_18 {G : kg_G} {E : State → Array Value → Prop} {R : kg_R} {n : Nat} {K : kg_M → Prop} (ho : kg_O8 R n 117) {Kx44 : kg_M → Prop} (hKx44 : ∀ (M : kg_M), Kx44 M → kg_Run G E qX8_takeRead 0 44 [(0, .ref (kg_b G + 117))] [] M R n 0 0 (kg_V R n K)) : ∀ (f : Nat) (v1 : Int32) (M : kg_M), wL_X8_takeRead_18  Kx44 K f v1 M → kg_Run G E qX8_takeRead 0 18 [(0, .ref (kg_b G + 117)), (1, .int v1)] [] M R n 0 0 (kg_V R n K) := by
  intro f
  induction f with
  | zero => intro v1 M h0; exact h0.elim
  | succ f ih =>
    intro v1 M h8
    rw [wL_X8_takeRead_18] at h8
    refine kr_iload_n 1 dX8_takeRead_18 rfl (k := ?_)
    refine kr_aload_n 0 dX8_takeRead_19 rfl (k := ?_)
    refine kr_getI 0 ckX8 lkF_X8_87 rfl (kg_o8a ho) (kg_o8n ho) dX8_takeRead_20 (k := ?_)
    refine kr_icmp_ge 44 dX8_takeRead_23 (fun c9 => ?_) (fun c9 => ?_)
    · have h10 := h8.1 c9
      refine kr_sub [0] [(0, .ref (kg_b G + 117))] rfl ?_
      exact hKx44  M h10
    · have h11 := h8.2 c9
      refine kr_aload_n 0 dX8_takeRead_26 rfl (k := ?_)
      refine kr_getR 1 ckX8 lkF_X8_7 rfl (kg_o8a ho) (kg_o8n ho) (kg_o8r1 ho) dX8_takeRead_27 (k := ?_)
      refine kr_iload_n 1 dX8_takeRead_30 rfl (k := ?_)
      refine kr_aload_n 0 dX8_takeRead_31 rfl (k := ?_)
      refine kr_getR 15 ckX8 lkF_X8_32 rfl (kg_o8a ho) (kg_o8n ho) (kg_o8r15 ho) dX8_takeRead_32 (k := ?_)
      refine kr_iload_n 1 dX8_takeRead_35 rfl (k := ?_)
      obtain ⟨h12, h13⟩ := h11
      refine kr_iald (kg_o8s15 ho) (kg_o8m15 ho) h12 dX8_takeRead_36 (k := ?_)
      obtain ⟨h14, h15⟩ := h13
      refine kn_iast (kg_o8s1 ho) (kg_o8m1 ho) h14 dX8_takeRead_37 (fun M16 e17 => ?_)
      have h18 := h15 M16 e17
      refine kr_iinc (1 : Int32) 1 [(1, .int (v1 + (1 : Int32))), (0, .ref (kg_b G + 117))] dX8_takeRead_38 rfl (k := ?_)
      refine kr_goto 18 dX8_takeRead_41 ?_
      refine kr_sub [1, 0] [(0, .ref (kg_b G + 117)), (1, .int (v1 + (1 : Int32)))] rfl ?_
      exact ih (v1 + (1 : Int32)) M16 h18
set_option maxRecDepth 100000 in
set_option maxHeartbeats 4000000 in
theorem sJ_X8_takeRead_76 {G : kg_G} {E : State → Array Value → Prop} {R : kg_R} {n : Nat} {K : kg_M → Prop} (ho : kg_O8 R n 117) {Kb : Int32 → kg_M → Prop} {Kx83 : kg_M → Prop} (hKb : ∀ (v1 : Int32) (M : kg_M), Kb v1 M → kg_Run G E qX8_takeRead 0 46 [(0, .ref (kg_b G + 117)), (1, .int v1)] [] M R n 0 0 (kg_V R n K)) (hKx83 : ∀ (M : kg_M), Kx83 M → kg_Run G E qX8_takeRead 0 83 [(0, .ref (kg_b G + 117))] [] M R n 0 0 (kg_V R n K)) (v1 : Int32) (s1 : Int32) (s2 : Int32) (M : kg_M) (h29 : wJ_X8_takeRead_76  Kb Kx83 K v1 s1 s2 M) : kg_Run G E qX8_takeRead 0 76 [(0, .ref (kg_b G + 117)), (1, .int v1)] [.int s2, .int s1, .ref (kg_b G + 119)] M R n 0 0 (kg_V R n K) := by
  unfold wJ_X8_takeRead_76 at h29
  obtain ⟨h30, h31⟩ := h29
  refine kn_iast (kg_o8s3 ho) (kg_o8m3 ho) h30 dX8_takeRead_76 (fun M32 e33 => ?_)
  have h34 := h31 M32 e33
  refine kr_iinc (1 : Int32) 1 [(1, .int (v1 + (1 : Int32))), (0, .ref (kg_b G + 117))] dX8_takeRead_77 rfl (k := ?_)
  refine kr_goto 46 dX8_takeRead_80 ?_
  refine kr_sub [1, 0] [(0, .ref (kg_b G + 117)), (1, .int (v1 + (1 : Int32)))] rfl ?_
  exact hKb (v1 + (1 : Int32)) M32 h34
set_option maxRecDepth 100000 in
set_option maxHeartbeats 4000000 in
theorem sL_X8_takeRead_46 {G : kg_G} {E : State → Array Value → Prop} {R : kg_R} {n : Nat} {K : kg_M → Prop} (ho : kg_O8 R n 117) {Kx83 : kg_M → Prop} (hKx83 : ∀ (M : kg_M), Kx83 M → kg_Run G E qX8_takeRead 0 83 [(0, .ref (kg_b G + 117))] [] M R n 0 0 (kg_V R n K)) : ∀ (f : Nat) (v1 : Int32) (M : kg_M), wL_X8_takeRead_46  Kx83 K f v1 M → kg_Run G E qX8_takeRead 0 46 [(0, .ref (kg_b G + 117)), (1, .int v1)] [] M R n 0 0 (kg_V R n K) := by
  intro f
  induction f with
  | zero => intro v1 M h0; exact h0.elim
  | succ f ih =>
    intro v1 M h20
    rw [wL_X8_takeRead_46] at h20
    refine kr_iload_n 1 dX8_takeRead_46 rfl (k := ?_)
    refine kr_bipush (49 : Int32) dX8_takeRead_47 (k := ?_)
    refine kr_icmp_ge 83 dX8_takeRead_49 (fun c21 => ?_) (fun c21 => ?_)
    · have h22 := h20.1 c21
      refine kr_sub [0] [(0, .ref (kg_b G + 117))] rfl ?_
      exact hKx83  M h22
    · have h23 := h20.2 c21
      refine kr_aload_n 0 dX8_takeRead_52 rfl (k := ?_)
      refine kr_getR 3 ckX8 lkF_X8_13 rfl (kg_o8a ho) (kg_o8n ho) (kg_o8r3 ho) dX8_takeRead_53 (k := ?_)
      refine kr_iload_n 1 dX8_takeRead_56 rfl (k := ?_)
      refine kr_aload_n 0 dX8_takeRead_57 rfl (k := ?_)
      refine kr_getR 19 ckX8 lkF_X8_41 rfl (kg_o8a ho) (kg_o8n ho) (kg_o8r19 ho) dX8_takeRead_58 (k := ?_)
      refine kr_iload_n 1 dX8_takeRead_61 rfl (k := ?_)
      obtain ⟨h24, h25⟩ := h23
      refine kr_iald (kg_o8s19 ho) (kg_o8m19 ho) h24 dX8_takeRead_62 (k := ?_)
      refine kr_if_le 75 dX8_takeRead_63 (fun c26 => ?_) (fun c26 => ?_)
      · have h27 := h25.1 c26
        refine kr_iconst (0 : Int32) dX8_takeRead_75 (k := ?_)
        refine kr_sub [0, 1] [(0, .ref (kg_b G + 117)), (1, .int v1)] rfl ?_
        exact sJ_X8_takeRead_76 ho ih hKx83 v1 v1 (0 : Int32) M h27
      · have h28 := h25.2 c26
        refine kr_aload_n 0 dX8_takeRead_66 rfl (k := ?_)
        refine kr_getR 19 ckX8 lkF_X8_41 rfl (kg_o8a ho) (kg_o8n ho) (kg_o8r19 ho) dX8_takeRead_67 (k := ?_)
        refine kr_iload_n 1 dX8_takeRead_70 rfl (k := ?_)
        obtain ⟨h35, h36⟩ := h28
        refine kr_iald (kg_o8s19 ho) (kg_o8m19 ho) h35 dX8_takeRead_71 (k := ?_)
        refine kr_goto 76 dX8_takeRead_72 ?_
        refine kr_sub [0, 1] [(0, .ref (kg_b G + 117)), (1, .int v1)] rfl ?_
        exact sJ_X8_takeRead_76 ho ih hKx83 v1 v1 (M 127 v1.toNatClampNeg) M h36
set_option maxRecDepth 100000 in
set_option maxHeartbeats 4000000 in
theorem sL_X8_takeRead_85 {G : kg_G} {E : State → Array Value → Prop} {R : kg_R} {n : Nat} {K : kg_M → Prop} (ho : kg_O8 R n 117) {Kx104 : kg_M → Prop} (hKx104 : ∀ (M : kg_M), Kx104 M → kg_Run G E qX8_takeRead 0 104 [(0, .ref (kg_b G + 117))] [] M R n 0 0 (kg_V R n K)) : ∀ (f : Nat) (v1 : Int32) (M : kg_M), wL_X8_takeRead_85  Kx104 K f v1 M → kg_Run G E qX8_takeRead 0 85 [(0, .ref (kg_b G + 117)), (1, .int v1)] [] M R n 0 0 (kg_V R n K) := by
  intro f
  induction f with
  | zero => intro v1 M h0; exact h0.elim
  | succ f ih =>
    intro v1 M h38
    rw [wL_X8_takeRead_85] at h38
    refine kr_iload_n 1 dX8_takeRead_85 rfl (k := ?_)
    refine kr_bipush (55 : Int32) dX8_takeRead_86 (k := ?_)
    refine kr_icmp_ge 104 dX8_takeRead_88 (fun c39 => ?_) (fun c39 => ?_)
    · have h40 := h38.1 c39
      refine kr_sub [0] [(0, .ref (kg_b G + 117))] rfl ?_
      exact hKx104  M h40
    · have h41 := h38.2 c39
      refine kr_aload_n 0 dX8_takeRead_91 rfl (k := ?_)
      refine kr_getR 4 ckX8 lkF_X8_16 rfl (kg_o8a ho) (kg_o8n ho) (kg_o8r4 ho) dX8_takeRead_92 (k := ?_)
      refine kr_iload_n 1 dX8_takeRead_95 rfl (k := ?_)
      refine kr_iconst (0 : Int32) dX8_takeRead_96 (k := ?_)
      obtain ⟨h42, h43⟩ := h41
      refine kn_iast (kg_o8s4 ho) (kg_o8m4 ho) h42 dX8_takeRead_97 (fun M44 e45 => ?_)
      have h46 := h43 M44 e45
      refine kr_iinc (1 : Int32) 1 [(1, .int (v1 + (1 : Int32))), (0, .ref (kg_b G + 117))] dX8_takeRead_98 rfl (k := ?_)
      refine kr_goto 85 dX8_takeRead_101 ?_
      refine kr_sub [1, 0] [(0, .ref (kg_b G + 117)), (1, .int (v1 + (1 : Int32)))] rfl ?_
      exact ih (v1 + (1 : Int32)) M44 h46
set_option maxRecDepth 100000 in
set_option maxHeartbeats 4000000 in
theorem sJ_X8_takeRead_172 {G : kg_G} {E : State → Array Value → Prop} {R : kg_R} {n : Nat} {K : kg_M → Prop} (ho : kg_O8 R n 117) {Kb : Int32 → kg_M → Prop} {Kx179 : kg_M → Prop} (hKb : ∀ (v1 : Int32) (M : kg_M), Kb v1 M → kg_Run G E qX8_takeRead 0 106 [(0, .ref (kg_b G + 117)), (1, .int v1)] [] M R n 0 0 (kg_V R n K)) (hKx179 : ∀ (M : kg_M), Kx179 M → kg_Run G E qX8_takeRead 0 179 [] [] M R n 0 0 (kg_V R n K)) (v1 : Int32) (s1 : Int32) (s2 : Int32) (M : kg_M) (h69 : wJ_X8_takeRead_172  Kb Kx179 K v1 s1 s2 M) : kg_Run G E qX8_takeRead 0 172 [(0, .ref (kg_b G + 117)), (1, .int v1)] [.int s2, .int s1, .ref (kg_b G + 120)] M R n 0 0 (kg_V R n K) := by
  unfold wJ_X8_takeRead_172 at h69
  obtain ⟨h70, h71⟩ := h69
  refine kn_iast (kg_o8s4 ho) (kg_o8m4 ho) h70 dX8_takeRead_172 (fun M72 e73 => ?_)
  have h74 := h71 M72 e73
  refine kr_iinc (1 : Int32) 1 [(1, .int (v1 + (1 : Int32))), (0, .ref (kg_b G + 117))] dX8_takeRead_173 rfl (k := ?_)
  refine kr_goto 106 dX8_takeRead_176 ?_
  refine kr_sub [1, 0] [(0, .ref (kg_b G + 117)), (1, .int (v1 + (1 : Int32)))] rfl ?_
  exact hKb (v1 + (1 : Int32)) M72 h74
set_option maxRecDepth 100000 in
set_option maxHeartbeats 4000000 in
theorem sJ_X8_takeRead_135 {G : kg_G} {E : State → Array Value → Prop} {R : kg_R} {n : Nat} {K : kg_M → Prop} (ho : kg_O8 R n 117) {Kb : Int32 → kg_M → Prop} {Kx179 : kg_M → Prop} (hKb : ∀ (v1 : Int32) (M : kg_M), Kb v1 M → kg_Run G E qX8_takeRead 0 106 [(0, .ref (kg_b G + 117)), (1, .int v1)] [] M R n 0 0 (kg_V R n K)) (hKx179 : ∀ (M : kg_M), Kx179 M → kg_Run G E qX8_takeRead 0 179 [] [] M R n 0 0 (kg_V R n K)) (v1 : Int32) (s1 : Int32) (s2 : Int32) (M : kg_M) (h55 : wJ_X8_takeRead_135  Kb Kx179 K v1 s1 s2 M) : kg_Run G E qX8_takeRead 0 135 [(0, .ref (kg_b G + 117)), (1, .int v1)] [.int s2, .int s1, .ref (kg_b G + 120)] M R n 0 0 (kg_V R n K) := by
  unfold wJ_X8_takeRead_135 at h55
  obtain ⟨h56, h57⟩ := h55
  refine kn_iast (kg_o8s4 ho) (kg_o8m4 ho) h56 dX8_takeRead_135 (fun M58 e59 => ?_)
  have h60 := h57 M58 e59
  refine kr_aload_n 0 dX8_takeRead_136 rfl (k := ?_)
  refine kr_getR 4 ckX8 lkF_X8_16 rfl (kg_o8a ho) (kg_o8n ho) (kg_o8r4 ho) dX8_takeRead_137 (k := ?_)
  refine kr_bipush (7 : Int32) dX8_takeRead_140 (k := ?_)
  refine kr_iload_n 1 dX8_takeRead_142 rfl (k := ?_)
  refine kr_iadd dX8_takeRead_143 (k := ?_)
  refine kr_iconst (-1 : Int32) dX8_takeRead_144 (k := ?_)
  obtain ⟨h61, h62⟩ := h60
  refine kn_iast (kg_o8s4 ho) (kg_o8m4 ho) h61 dX8_takeRead_145 (fun M63 e64 => ?_)
  have h65 := h62 M63 e64
  refine kr_aload_n 0 dX8_takeRead_146 rfl (k := ?_)
  refine kr_getR 4 ckX8 lkF_X8_16 rfl (kg_o8a ho) (kg_o8n ho) (kg_o8r4 ho) dX8_takeRead_147 (k := ?_)
  refine kr_bipush (14 : Int32) dX8_takeRead_150 (k := ?_)
  refine kr_iload_n 1 dX8_takeRead_152 rfl (k := ?_)
  refine kr_iadd dX8_takeRead_153 (k := ?_)
  refine kr_iload_n 1 dX8_takeRead_154 rfl (k := ?_)
  refine kr_aload_n 0 dX8_takeRead_155 rfl (k := ?_)
  refine kr_getI 2 ckX8 lkF_X8_94 rfl (kg_o8a ho) (kg_o8n ho) dX8_takeRead_156 (k := ?_)
  refine kr_icmp_ge 171 dX8_takeRead_159 (fun c66 => ?_) (fun c66 => ?_)
  · have h67 := h65.1 c66
    refine kr_iconst (0 : Int32) dX8_takeRead_171 (k := ?_)
    refine kr_sub [0, 1] [(0, .ref (kg_b G + 117)), (1, .int v1)] rfl ?_
    exact sJ_X8_takeRead_172 ho hKb hKx179 v1 ((14 : Int32) + v1) (0 : Int32) M63 h67
  · have h68 := h65.2 c66
    refine kr_aload_n 0 dX8_takeRead_162 rfl (k := ?_)
    refine kr_getR 18 ckX8 lkF_X8_38 rfl (kg_o8a ho) (kg_o8n ho) (kg_o8r18 ho) dX8_takeRead_163 (k := ?_)
    refine kr_iload_n 1 dX8_takeRead_166 rfl (k := ?_)
    obtain ⟨h75, h76⟩ := h68
    refine kr_iald (kg_o8s18 ho) (kg_o8m18 ho) h75 dX8_takeRead_167 (k := ?_)
    refine kr_goto 172 dX8_takeRead_168 ?_
    refine kr_sub [0, 1] [(0, .ref (kg_b G + 117)), (1, .int v1)] rfl ?_
    exact sJ_X8_takeRead_172 ho hKb hKx179 v1 ((14 : Int32) + v1) (M63 126 v1.toNatClampNeg) M63 h76
set_option maxRecDepth 100000 in
set_option maxHeartbeats 4000000 in
theorem sL_X8_takeRead_106 {G : kg_G} {E : State → Array Value → Prop} {R : kg_R} {n : Nat} {K : kg_M → Prop} (ho : kg_O8 R n 117) {Kx179 : kg_M → Prop} (hKx179 : ∀ (M : kg_M), Kx179 M → kg_Run G E qX8_takeRead 0 179 [] [] M R n 0 0 (kg_V R n K)) : ∀ (f : Nat) (v1 : Int32) (M : kg_M), wL_X8_takeRead_106  Kx179 K f v1 M → kg_Run G E qX8_takeRead 0 106 [(0, .ref (kg_b G + 117)), (1, .int v1)] [] M R n 0 0 (kg_V R n K) := by
  intro f
  induction f with
  | zero => intro v1 M h0; exact h0.elim
  | succ f ih =>
    intro v1 M h48
    rw [wL_X8_takeRead_106] at h48
    refine kr_iload_n 1 dX8_takeRead_106 rfl (k := ?_)
    refine kr_bipush (7 : Int32) dX8_takeRead_107 (k := ?_)
    refine kr_icmp_ge 179 dX8_takeRead_109 (fun c49 => ?_) (fun c49 => ?_)
    · have h50 := h48.1 c49
      refine kr_sub [] [] rfl ?_
      exact hKx179  M h50
    · have h51 := h48.2 c49
      refine kr_aload_n 0 dX8_takeRead_112 rfl (k := ?_)
      refine kr_getR 4 ckX8 lkF_X8_16 rfl (kg_o8a ho) (kg_o8n ho) (kg_o8r4 ho) dX8_takeRead_113 (k := ?_)
      refine kr_iload_n 1 dX8_takeRead_116 rfl (k := ?_)
      refine kr_iload_n 1 dX8_takeRead_117 rfl (k := ?_)
      refine kr_aload_n 0 dX8_takeRead_118 rfl (k := ?_)
      refine kr_getI 2 ckX8 lkF_X8_94 rfl (kg_o8a ho) (kg_o8n ho) dX8_takeRead_119 (k := ?_)
      refine kr_icmp_ge 134 dX8_takeRead_122 (fun c52 => ?_) (fun c52 => ?_)
      · have h53 := h51.1 c52
        refine kr_iconst (0 : Int32) dX8_takeRead_134 (k := ?_)
        refine kr_sub [0, 1] [(0, .ref (kg_b G + 117)), (1, .int v1)] rfl ?_
        exact sJ_X8_takeRead_135 ho ih hKx179 v1 v1 (0 : Int32) M h53
      · have h54 := h51.2 c52
        refine kr_aload_n 0 dX8_takeRead_125 rfl (k := ?_)
        refine kr_getR 17 ckX8 lkF_X8_35 rfl (kg_o8a ho) (kg_o8n ho) (kg_o8r17 ho) dX8_takeRead_126 (k := ?_)
        refine kr_iload_n 1 dX8_takeRead_129 rfl (k := ?_)
        obtain ⟨h77, h78⟩ := h54
        refine kr_iald (kg_o8s17 ho) (kg_o8m17 ho) h77 dX8_takeRead_130 (k := ?_)
        refine kr_goto 135 dX8_takeRead_131 ?_
        refine kr_sub [0, 1] [(0, .ref (kg_b G + 117)), (1, .int v1)] rfl ?_
        exact sJ_X8_takeRead_135 ho ih hKx179 v1 v1 (M 125 v1.toNatClampNeg) M h78
set_option maxRecDepth 100000 in
set_option maxHeartbeats 4000000 in
theorem sp_X8_takeRead {G : kg_G} {E : State → Array Value → Prop} {R : kg_R} {n : Nat} {K : kg_M → Prop} (ho : kg_O8 R n 117) {M : kg_M} (h1 : wp_X8_takeRead  M K) : kg_Run G E qX8_takeRead 0 0 [(0, .ref (kg_b G + 117))] [] M R n 0 0 (kg_V R n K) := by
  unfold wp_X8_takeRead at h1
  refine kr_aload_n 0 dX8_takeRead_0 rfl (k := ?_)
  refine kr_aload_n 0 dX8_takeRead_1 rfl (k := ?_)
  refine kr_getI 14 ckX8 lkF_X8_128 rfl (kg_o8a ho) (kg_o8n ho) dX8_takeRead_2 (k := ?_)
  refine kn_putI 0 ckX8 lkF_X8_87 rfl rfl rfl rfl (kg_o8a ho) (kg_o8n ho) dX8_takeRead_5 (fun M2 e3 => ?_)
  have h4 := h1 M2 e3
  refine kr_aload_n 0 dX8_takeRead_8 rfl (k := ?_)
  refine kr_aload_n 0 dX8_takeRead_9 rfl (k := ?_)
  refine kr_getI 16 ckX8 lkF_X8_135 rfl (kg_o8a ho) (kg_o8n ho) dX8_takeRead_10 (k := ?_)
  refine kn_putI 2 ckX8 lkF_X8_94 rfl rfl rfl rfl (kg_o8a ho) (kg_o8n ho) dX8_takeRead_13 (fun M5 e6 => ?_)
  have h7 := h4 M5 e6
  refine kr_iconst (0 : Int32) dX8_takeRead_16 (k := ?_)
  refine kr_istore_n [(1, .int (0 : Int32)), (0, .ref (kg_b G + 117))] dX8_takeRead_17 (k := ?_)
  refine kr_sub [1, 0] [(0, .ref (kg_b G + 117)), (1, .int (0 : Int32))] rfl ?_
  obtain ⟨f86, h87⟩ := h7
  refine sL_X8_takeRead_18 ho ?_ f86 (0 : Int32) M5 h87
  · intro  M h19
    refine kr_iconst (0 : Int32) dX8_takeRead_44 (k := ?_)
    refine kr_istore_n [(1, .int (0 : Int32)), (0, .ref (kg_b G + 117))] dX8_takeRead_45 (k := ?_)
    refine kr_sub [1, 0] [(0, .ref (kg_b G + 117)), (1, .int (0 : Int32))] rfl ?_
    obtain ⟨f84, h85⟩ := h19
    refine sL_X8_takeRead_46 ho ?_ f84 (0 : Int32) M h85
    · intro  M h37
      refine kr_iconst (0 : Int32) dX8_takeRead_83 (k := ?_)
      refine kr_istore_n [(1, .int (0 : Int32)), (0, .ref (kg_b G + 117))] dX8_takeRead_84 (k := ?_)
      refine kr_sub [1, 0] [(0, .ref (kg_b G + 117)), (1, .int (0 : Int32))] rfl ?_
      obtain ⟨f82, h83⟩ := h37
      refine sL_X8_takeRead_85 ho ?_ f82 (0 : Int32) M h83
      · intro  M h47
        refine kr_iconst (0 : Int32) dX8_takeRead_104 (k := ?_)
        refine kr_istore_n [(1, .int (0 : Int32)), (0, .ref (kg_b G + 117))] dX8_takeRead_105 (k := ?_)
        refine kr_sub [1, 0] [(0, .ref (kg_b G + 117)), (1, .int (0 : Int32))] rfl ?_
        obtain ⟨f80, h81⟩ := h47
        refine sL_X8_takeRead_106 ho ?_ f80 (0 : Int32) M h81
        · intro  M h79
          exact kr_return dX8_takeRead_179 ⟨rfl, rfl, rfl, h79⟩
set_option maxRecDepth 100000 in
set_option maxHeartbeats 4000000 in
theorem sL_X8_common_22 {G : kg_G} {E : State → Array Value → Prop} {R : kg_R} {n : Nat} {K : Int32 → kg_M → Prop} (ho : kg_O8 R n 117) {Kx41 : kg_M → Prop} (hKx41 : ∀ (M : kg_M), Kx41 M → kg_Run G E qX8_common 5 41 [(0, .ref (kg_b G + 117))] [] M R n 0 0 (kg_I R n K)) : ∀ (f : Nat) (v1 : Int32) (M : kg_M), wL_X8_common_22  Kx41 K f v1 M → kg_Run G E qX8_common 5 22 [(0, .ref (kg_b G + 117)), (1, .int v1)] [] M R n 0 0 (kg_I R n K) := by
  intro f
  induction f with
  | zero => intro v1 M h0; exact h0.elim
  | succ f ih =>
    intro v1 M h14
    rw [wL_X8_common_22] at h14
    refine kr_iload_n 1 dX8_common_22 rfl (k := ?_)
    refine kr_bipush (49 : Int32) dX8_common_23 (k := ?_)
    refine kr_icmp_ge 41 dX8_common_25 (fun c15 => ?_) (fun c15 => ?_)
    · have h16 := h14.1 c15
      refine kr_sub [0] [(0, .ref (kg_b G + 117))] rfl ?_
      exact hKx41  M h16
    · have h17 := h14.2 c15
      refine kr_aload_n 0 dX8_common_28 rfl (k := ?_)
      refine kr_getR 19 ckX8 lkF_X8_41 rfl (kg_o8a ho) (kg_o8n ho) (kg_o8r19 ho) dX8_common_29 (k := ?_)
      refine kr_iload_n 1 dX8_common_32 rfl (k := ?_)
      refine kr_iconst (-1 : Int32) dX8_common_33 (k := ?_)
      obtain ⟨h18, h19⟩ := h17
      refine kn_iast (kg_o8s19 ho) (kg_o8m19 ho) h18 dX8_common_34 (fun M20 e21 => ?_)
      have h22 := h19 M20 e21
      refine kr_iinc (1 : Int32) 1 [(1, .int (v1 + (1 : Int32))), (0, .ref (kg_b G + 117))] dX8_common_35 rfl (k := ?_)
      refine kr_goto 22 dX8_common_38 ?_
      refine kr_sub [1, 0] [(0, .ref (kg_b G + 117)), (1, .int (v1 + (1 : Int32)))] rfl ?_
      exact ih (v1 + (1 : Int32)) M20 h22
set_option maxRecDepth 100000 in
set_option maxHeartbeats 4000000 in
theorem sL_X8_common_43 {G : kg_G} {E : State → Array Value → Prop} {R : kg_R} {n : Nat} {K : Int32 → kg_M → Prop} (ho : kg_O8 R n 117) {Kx62 : Int32 → kg_M → Prop} (hKx62 : ∀ (v1 : Int32) (M : kg_M), Kx62 v1 M → kg_Run G E qX8_common 5 62 [(0, .ref (kg_b G + 117)), (1, .int v1)] [] M R n 0 0 (kg_I R n K)) : ∀ (f : Nat) (v1 : Int32) (M : kg_M), wL_X8_common_43  Kx62 K f v1 M → kg_Run G E qX8_common 5 43 [(0, .ref (kg_b G + 117)), (1, .int v1)] [] M R n 0 0 (kg_I R n K) := by
  intro f
  induction f with
  | zero => intro v1 M h0; exact h0.elim
  | succ f ih =>
    intro v1 M h24
    rw [wL_X8_common_43] at h24
    refine kr_iload_n 1 dX8_common_43 rfl (k := ?_)
    refine kr_if_ne 62 dX8_common_44 (fun c25 => ?_) (fun c25 => ?_)
    · have h26 := h24.1 c25
      refine kr_sub [0, 1] [(0, .ref (kg_b G + 117)), (1, .int v1)] rfl ?_
      exact hKx62 v1 M h26
    · have h27 := h24.2 c25
      refine kr_aload_n 0 dX8_common_47 rfl (k := ?_)
      refine kn_callVi [] [] mvX8_here lkM_X8_107 (kg_o8a ho) rfl (kg_o8n ho) dX8_common_48 (sp_X8_here ho h27) (fun r30 M28 h29 => ?_)
      refine kr_if_lt 62 dX8_common_51 (fun c31 => ?_) (fun c31 => ?_)
      · have h32 := h29.1 c31
        refine kr_sub [0, 1] [(0, .ref (kg_b G + 117)), (1, .int v1)] rfl ?_
        exact hKx62 v1 M28 h32
      · have h33 := h29.2 c31
        refine kr_aload_n 0 dX8_common_54 rfl (k := ?_)
        refine kn_callVi [] [] mvX8_takeClause lkM_X8_147 (kg_o8a ho) rfl (kg_o8n ho) dX8_common_55 (sp_X8_takeClause ho h33) (fun r36 M34 h35 => ?_)
        refine kr_istore_n [(1, .int r36), (0, .ref (kg_b G + 117))] dX8_common_58 (k := ?_)
        refine kr_goto 43 dX8_common_59 ?_
        refine kr_sub [1, 0] [(0, .ref (kg_b G + 117)), (1, .int r36)] rfl ?_
        exact ih r36 M34 h35
set_option maxRecDepth 100000 in
set_option maxHeartbeats 4000000 in
theorem sJ_X8_common_62 {G : kg_G} {E : State → Array Value → Prop} {R : kg_R} {n : Nat} {K : Int32 → kg_M → Prop} (ho : kg_O8 R n 117) (v1 : Int32) (M : kg_M) (h38 : wJ_X8_common_62  K v1 M) : kg_Run G E qX8_common 5 62 [(0, .ref (kg_b G + 117)), (1, .int v1)] [] M R n 0 0 (kg_I R n K) := by
  unfold wJ_X8_common_62 at h38
  refine kr_aload_n 0 dX8_common_62 rfl (k := ?_)
  refine kr_iconst (0 : Int32) dX8_common_63 (k := ?_)
  refine kn_putI 9 ckX8 lkF_X8_100 rfl rfl rfl rfl (kg_o8a ho) (kg_o8n ho) dX8_common_64 (fun M39 e40 => ?_)
  have h41 := h38 M39 e40
  refine kr_iload_n 1 dX8_common_67 rfl (k := ?_)
  refine kr_if_le 76 dX8_common_68 (fun c42 => ?_) (fun c42 => ?_)
  · have h43 := h41.1 c42
    refine kr_aload_n 0 dX8_common_76 rfl (k := ?_)
    refine kn_callVv [] [] mvX8_takeRead lkM_X8_150 (kg_o8a ho) rfl (kg_o8n ho) dX8_common_77 (sp_X8_takeRead ho h43) (fun M45 h46 => ?_)
    refine kr_aload_n 0 dX8_common_80 rfl (k := ?_)
    refine kr_iconst (0 : Int32) dX8_common_81 (k := ?_)
    refine kn_putI 32 ckX8 lkF_X8_153 rfl rfl rfl rfl (kg_o8a ho) (kg_o8n ho) dX8_common_82 (fun M48 e49 => ?_)
    have h50 := h46 M48 e49
    refine kr_aload_n 0 dX8_common_85 rfl (k := ?_)
    refine kr_iconst (0 : Int32) dX8_common_86 (k := ?_)
    refine kn_putI 35 ckX8 lkF_X8_156 rfl rfl rfl rfl (kg_o8a ho) (kg_o8n ho) dX8_common_87 (fun M51 e52 => ?_)
    have h53 := h50 M51 e52
    refine kr_aload_n 0 dX8_common_90 rfl (k := ?_)
    refine kr_iconst (0 : Int32) dX8_common_91 (k := ?_)
    refine kn_putI 20 ckX8 lkF_X8_159 rfl rfl rfl rfl (kg_o8a ho) (kg_o8n ho) dX8_common_92 (fun M54 e55 => ?_)
    have h56 := h53 M54 e55
    refine kr_aload_n 0 dX8_common_95 rfl (k := ?_)
    refine kr_getR 39 ckX8 lkF_X8_84 rfl (kg_o8a ho) (kg_o8n ho) (kg_o8r39 ho) dX8_common_96 (k := ?_)
    refine kr_iconst (0 : Int32) dX8_common_99 (k := ?_)
    refine kr_iconst (0 : Int32) dX8_common_100 (k := ?_)
    obtain ⟨h57, h58⟩ := h56
    refine kn_zast (kg_o8s39 ho) (kg_o8m39 ho) h57 rfl dX8_common_101 (fun M59 e60 => ?_)
    have h61 := h58 M59 e60
    refine kr_aload_n 0 dX8_common_102 rfl (k := ?_)
    refine kr_getR 39 ckX8 lkF_X8_84 rfl (kg_o8a ho) (kg_o8n ho) (kg_o8r39 ho) dX8_common_103 (k := ?_)
    refine kr_iconst (1 : Int32) dX8_common_106 (k := ?_)
    refine kr_iconst (0 : Int32) dX8_common_107 (k := ?_)
    obtain ⟨h62, h63⟩ := h61
    refine kn_zast (kg_o8s39 ho) (kg_o8m39 ho) h62 rfl dX8_common_108 (fun M64 e65 => ?_)
    have h66 := h63 M64 e65
    refine kr_aload_n 0 dX8_common_109 rfl (k := ?_)
    refine kr_getI 2 ckX8 lkF_X8_94 rfl (kg_o8a ho) (kg_o8n ho) dX8_common_110 (k := ?_)
    exact kr_ireturn dX8_common_113 ⟨rfl, rfl, _, rfl, h66⟩
  · have h44 := h41.2 c42
    refine kr_bipush (-10 : Int32) dX8_common_71 (k := ?_)
    refine kr_iload_n 1 dX8_common_73 rfl (k := ?_)
    refine kr_isub dX8_common_74 (k := ?_)
    exact kr_ireturn dX8_common_75 ⟨rfl, rfl, _, rfl, h44⟩
set_option maxRecDepth 100000 in
set_option maxHeartbeats 4000000 in
theorem sp_X8_common {G : kg_G} {E : State → Array Value → Prop} {R : kg_R} {n : Nat} {K : Int32 → kg_M → Prop} (ho : kg_O8 R n 117) {M : kg_M} (h1 : wp_X8_common  M K) : kg_Run G E qX8_common 5 0 [(0, .ref (kg_b G + 117))] [] M R n 0 0 (kg_I R n K) := by
  unfold wp_X8_common at h1
  refine kr_aload_n 0 dX8_common_0 rfl (k := ?_)
  refine kr_iconst (-1 : Int32) dX8_common_1 (k := ?_)
  refine kn_putI 10 ckX8 lkF_X8_28 rfl rfl rfl rfl (kg_o8a ho) (kg_o8n ho) dX8_common_2 (fun M2 e3 => ?_)
  have h4 := h1 M2 e3
  refine kr_aload_n 0 dX8_common_5 rfl (k := ?_)
  refine kr_iconst (0 : Int32) dX8_common_6 (k := ?_)
  refine kn_putI 11 ckX8 lkF_X8_104 rfl rfl rfl rfl (kg_o8a ho) (kg_o8n ho) dX8_common_7 (fun M5 e6 => ?_)
  have h7 := h4 M5 e6
  refine kr_aload_n 0 dX8_common_10 rfl (k := ?_)
  refine kr_iconst (0 : Int32) dX8_common_11 (k := ?_)
  refine kn_putI 14 ckX8 lkF_X8_128 rfl rfl rfl rfl (kg_o8a ho) (kg_o8n ho) dX8_common_12 (fun M8 e9 => ?_)
  have h10 := h7 M8 e9
  refine kr_aload_n 0 dX8_common_15 rfl (k := ?_)
  refine kr_iconst (0 : Int32) dX8_common_16 (k := ?_)
  refine kn_putI 16 ckX8 lkF_X8_135 rfl rfl rfl rfl (kg_o8a ho) (kg_o8n ho) dX8_common_17 (fun M11 e12 => ?_)
  have h13 := h10 M11 e12
  refine kr_iconst (0 : Int32) dX8_common_20 (k := ?_)
  refine kr_istore_n [(1, .int (0 : Int32)), (0, .ref (kg_b G + 117))] dX8_common_21 (k := ?_)
  refine kr_sub [1, 0] [(0, .ref (kg_b G + 117)), (1, .int (0 : Int32))] rfl ?_
  obtain ⟨f69, h70⟩ := h13
  refine sL_X8_common_22 ho ?_ f69 (0 : Int32) M11 h70
  · intro  M h23
    refine kr_iconst (0 : Int32) dX8_common_41 (k := ?_)
    refine kr_istore_n [(1, .int (0 : Int32)), (0, .ref (kg_b G + 117))] dX8_common_42 (k := ?_)
    refine kr_sub [1, 0] [(0, .ref (kg_b G + 117)), (1, .int (0 : Int32))] rfl ?_
    obtain ⟨f67, h68⟩ := h23
    refine sL_X8_common_43 ho ?_ f67 (0 : Int32) M h68
    · intro v1 M h37
      refine kr_sub [0, 1] [(0, .ref (kg_b G + 117)), (1, .int v1)] rfl ?_
      exact sJ_X8_common_62 ho v1 M h37
