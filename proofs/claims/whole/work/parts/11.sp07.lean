set_option maxRecDepth 100000 in
set_option maxHeartbeats 4000000 in
theorem sJ_X8_dies_69 {G : kg_G} {E : State → Array Value → Prop} {R : kg_R} {n : Nat} {K : Int32 → kg_M → Prop} (ho : kg_O8 R n 117) {Kb : Int32 → Int32 → Int32 → kg_M → Prop} {Kx100 : Int32 → Int32 → kg_M → Prop} (hKb : ∀ (v1 : Int32) (v2 : Int32) (v3 : Int32) (M : kg_M), Kb v1 v2 v3 M → kg_Run G E qX8_dies 1 17 [(0, .ref (kg_b G + 117)), (1, .int v1), (2, .int v2), (3, .int v3)] [] M R n 0 0 (kg_I R n K)) (hKx100 : ∀ (v1 : Int32) (v2 : Int32) (M : kg_M), Kx100 v1 v2 M → kg_Run G E qX8_dies 1 100 [(0, .ref (kg_b G + 117)), (1, .int v1), (2, .int v2)] [] M R n 0 0 (kg_I R n K)) (v1 : Int32) (v2 : Int32) (v3 : Int32) (s0 : Int32) (M : kg_M) (h15 : wJ_X8_dies_69  Kb Kx100 K v1 v2 v3 s0 M) : kg_Run G E qX8_dies 1 69 [(0, .ref (kg_b G + 117)), (1, .int v1), (2, .int v2), (3, .int v3)] [.int s0] M R n 0 0 (kg_I R n K) := by
  unfold wJ_X8_dies_69 at h15
  refine kr_istore [(4, .int s0), (0, .ref (kg_b G + 117)), (1, .int v1), (2, .int v2), (3, .int v3)] dX8_dies_69 (k := ?_)
  refine kr_aload_n 1 dX8_dies_71 rfl (k := ?_)
  refine kr_getR 4 ckX8 lkF_X8_16 rfl (kg_o8a ho) (kg_o8n ho) (kg_o8r4 ho) dX8_dies_72 (k := ?_)
  refine kr_bipush (26 : Int32) dX8_dies_75 (k := ?_)
  refine kr_iload_n 4 dX8_dies_77 rfl (k := ?_)
  refine kr_iadd dX8_dies_78 (k := ?_)
  obtain ⟨h16, h17⟩ := h15
  refine kr_iald (kg_o8s4 ho) (kg_o8m4 ho) h16 dX8_dies_79 (k := ?_)
  refine kr_if_ne 92 dX8_dies_80 (fun c18 => ?_) (fun c18 => ?_)
  · have h19 := h17.1 c18
    refine kr_iload_n 3 dX8_dies_92 rfl (k := ?_)
    refine kr_istore_n [(2, .int v2), (4, .int s0), (0, .ref (kg_b G + 117)), (1, .int v1), (3, .int v3)] dX8_dies_93 (k := ?_)
    refine kr_iinc (1 : Int32) 4 [(3, .int (v3 + (1 : Int32))), (2, .int v2), (4, .int s0), (0, .ref (kg_b G + 117)), (1, .int v1)] dX8_dies_94 rfl (k := ?_)
    refine kr_goto 17 dX8_dies_97 ?_
    refine kr_sub [3, 4, 1, 0] [(0, .ref (kg_b G + 117)), (1, .int v1), (2, .int v2), (3, .int (v3 + (1 : Int32)))] rfl ?_
    exact hKb v1 v2 (v3 + (1 : Int32)) M h19
  · have h20 := h17.2 c18
    refine kr_iload 0 dX8_dies_83 rfl (k := ?_)
    refine kr_if_eq 92 dX8_dies_85 (fun c21 => ?_) (fun c21 => ?_)
    · have h22 := h20.1 c21
      refine kr_iload_n 3 dX8_dies_92 rfl (k := ?_)
      refine kr_istore_n [(2, .int v2), (4, .int s0), (0, .ref (kg_b G + 117)), (1, .int v1), (3, .int v3)] dX8_dies_93 (k := ?_)
      refine kr_iinc (1 : Int32) 4 [(3, .int (v3 + (1 : Int32))), (2, .int v2), (4, .int s0), (0, .ref (kg_b G + 117)), (1, .int v1)] dX8_dies_94 rfl (k := ?_)
      refine kr_goto 17 dX8_dies_97 ?_
      refine kr_sub [3, 4, 1, 0] [(0, .ref (kg_b G + 117)), (1, .int v1), (2, .int v2), (3, .int (v3 + (1 : Int32)))] rfl ?_
      exact hKb v1 v2 (v3 + (1 : Int32)) M h22
    · have h23 := h20.2 c21
      refine kr_iload_n 4 dX8_dies_88 rfl (k := ?_)
      refine kr_goto 93 dX8_dies_89 ?_
      refine kr_istore_n [(2, .int v3), (4, .int s0), (0, .ref (kg_b G + 117)), (1, .int v1), (3, .int v3)] dX8_dies_93 (k := ?_)
      refine kr_iinc (1 : Int32) 4 [(3, .int (v3 + (1 : Int32))), (2, .int v3), (4, .int s0), (0, .ref (kg_b G + 117)), (1, .int v1)] dX8_dies_94 rfl (k := ?_)
      refine kr_goto 17 dX8_dies_97 ?_
      refine kr_sub [3, 4, 1, 0] [(0, .ref (kg_b G + 117)), (1, .int v1), (2, .int v3), (3, .int (v3 + (1 : Int32)))] rfl ?_
      exact hKb v1 v3 (v3 + (1 : Int32)) M h23
set_option maxRecDepth 100000 in
set_option maxHeartbeats 4000000 in
theorem sL_X8_dies_17 {G : kg_G} {E : State → Array Value → Prop} {R : kg_R} {n : Nat} {K : Int32 → kg_M → Prop} (ho : kg_O8 R n 117) {Kx100 : Int32 → Int32 → kg_M → Prop} (hKx100 : ∀ (v1 : Int32) (v2 : Int32) (M : kg_M), Kx100 v1 v2 M → kg_Run G E qX8_dies 1 100 [(0, .ref (kg_b G + 117)), (1, .int v1), (2, .int v2)] [] M R n 0 0 (kg_I R n K)) : ∀ (f : Nat) (v1 : Int32) (v2 : Int32) (v3 : Int32) (M : kg_M), wL_X8_dies_17  Kx100 K f v1 v2 v3 M → kg_Run G E qX8_dies 1 17 [(0, .ref (kg_b G + 117)), (1, .int v1), (2, .int v2), (3, .int v3)] [] M R n 0 0 (kg_I R n K) := by
  intro f
  induction f with
  | zero => intro v1 v2 v3 M h0; exact h0.elim
  | succ f ih =>
    intro v1 v2 v3 M h8
    rw [wL_X8_dies_17] at h8
    refine kr_iload_n 3 dX8_dies_17 rfl (k := ?_)
    refine kr_aload_n 0 dX8_dies_18 rfl (k := ?_)
    refine kr_getI 0 ckX8 lkF_X8_87 rfl (kg_o8a ho) (kg_o8n ho) dX8_dies_19 (k := ?_)
    refine kr_icmp_ge 100 dX8_dies_22 (fun c9 => ?_) (fun c9 => ?_)
    · have h10 := h8.1 c9
      refine kr_sub [0, 1, 2] [(0, .ref (kg_b G + 117)), (1, .int v1), (2, .int v2)] rfl ?_
      exact hKx100 v1 v2 M h10
    · have h11 := h8.2 c9
      refine kr_iload_n 2 dX8_dies_25 rfl (k := ?_)
      refine kr_if_lt 64 dX8_dies_26 (fun c12 => ?_) (fun c12 => ?_)
      · have h13 := h11.1 c12
        refine kr_iconst (1 : Int32) dX8_dies_64 (k := ?_)
        refine kr_goto 69 dX8_dies_65 ?_
        refine kr_sub [0, 1, 2, 3] [(0, .ref (kg_b G + 117)), (1, .int v1), (2, .int v2), (3, .int v3)] rfl ?_
        exact sJ_X8_dies_69 ho ih hKx100 v1 v2 v3 (1 : Int32) M h13
      · have h14 := h11.2 c12
        refine kr_aload_n 0 dX8_dies_29 rfl (k := ?_)
        refine kr_getR 1 ckX8 lkF_X8_7 rfl (kg_o8a ho) (kg_o8n ho) (kg_o8r1 ho) dX8_dies_30 (k := ?_)
        refine kr_iload_n 3 dX8_dies_33 rfl (k := ?_)
        obtain ⟨h24, h25⟩ := h14
        refine kr_iald (kg_o8s1 ho) (kg_o8m1 ho) h24 dX8_dies_34 (k := ?_)
        refine kr_aload_n 0 dX8_dies_35 rfl (k := ?_)
        refine kr_getR 4 ckX8 lkF_X8_16 rfl (kg_o8a ho) (kg_o8n ho) (kg_o8r4 ho) dX8_dies_36 (k := ?_)
        refine kr_bipush (21 : Int32) dX8_dies_39 (k := ?_)
        refine kr_iload_n 3 dX8_dies_41 rfl (k := ?_)
        refine kr_iadd dX8_dies_42 (k := ?_)
        obtain ⟨h26, h27⟩ := h25
        refine kr_iald (kg_o8s4 ho) (kg_o8m4 ho) h26 dX8_dies_43 (k := ?_)
        refine kr_isub dX8_dies_44 (k := ?_)
        refine kr_aload_n 0 dX8_dies_45 rfl (k := ?_)
        refine kr_getR 1 ckX8 lkF_X8_7 rfl (kg_o8a ho) (kg_o8n ho) (kg_o8r1 ho) dX8_dies_46 (k := ?_)
        refine kr_iload_n 2 dX8_dies_49 rfl (k := ?_)
        obtain ⟨h28, h29⟩ := h27
        refine kr_iald (kg_o8s1 ho) (kg_o8m1 ho) h28 dX8_dies_50 (k := ?_)
        refine kr_aload_n 0 dX8_dies_51 rfl (k := ?_)
        refine kr_getR 4 ckX8 lkF_X8_16 rfl (kg_o8a ho) (kg_o8n ho) (kg_o8r4 ho) dX8_dies_52 (k := ?_)
        refine kr_bipush (21 : Int32) dX8_dies_55 (k := ?_)
        refine kr_iload_n 2 dX8_dies_57 rfl (k := ?_)
        refine kr_iadd dX8_dies_58 (k := ?_)
        obtain ⟨h30, h31⟩ := h29
        refine kr_iald (kg_o8s4 ho) (kg_o8m4 ho) h30 dX8_dies_59 (k := ?_)
        refine kr_isub dX8_dies_60 (k := ?_)
        refine kr_icmp_ge 68 dX8_dies_61 (fun c32 => ?_) (fun c32 => ?_)
        · have h33 := h31.1 c32
          refine kr_iconst (0 : Int32) dX8_dies_68 (k := ?_)
          refine kr_sub [0, 1, 2, 3] [(0, .ref (kg_b G + 117)), (1, .int v1), (2, .int v2), (3, .int v3)] rfl ?_
          exact sJ_X8_dies_69 ho ih hKx100 v1 v2 v3 (0 : Int32) M h33
        · have h34 := h31.2 c32
          refine kr_iconst (1 : Int32) dX8_dies_64 (k := ?_)
          refine kr_goto 69 dX8_dies_65 ?_
          refine kr_sub [0, 1, 2, 3] [(0, .ref (kg_b G + 117)), (1, .int v1), (2, .int v2), (3, .int v3)] rfl ?_
          exact sJ_X8_dies_69 ho ih hKx100 v1 v2 v3 (1 : Int32) M h34
set_option maxRecDepth 100000 in
set_option maxHeartbeats 4000000 in
theorem sp_X8_dies {G : kg_G} {E : State → Array Value → Prop} {R : kg_R} {n : Nat} {K : Int32 → kg_M → Prop} (ho : kg_O8 R n 117) {v1 : Int32} {M : kg_M} (h1 : wp_X8_dies v1 M K) : kg_Run G E qX8_dies 1 0 [(0, .ref (kg_b G + 117)), (1, .int v1)] [] M R n 0 0 (kg_I R n K) := by
  unfold wp_X8_dies at h1
  refine kr_iload_n 1 dX8_dies_0 rfl (k := ?_)
  refine kr_i2l dX8_dies_1 (k := ?_)
  refine kr_lconst (0 : Int64) dX8_dies_2 (k := ?_)
  refine kr_lconst (1 : Int64) dX8_dies_3 (k := ?_)
  refine kn_callSz [.long v1.toInt64, .long (0 : Int64), .long (1 : Int64)] [] msX8_in lkM_X8_90 dX8_dies_4 (sp_X8_in  h1) (fun r4 M2 _ h3 => ?_)
  refine kr_if_ne 13 dX8_dies_7 (fun c5 => ?_) (fun c5 => ?_)
  · have h6 := h3.1 c5
    refine kr_iconst (-1 : Int32) dX8_dies_13 (k := ?_)
    refine kr_istore_n [(2, .int (-1 : Int32)), (0, .ref (kg_b G + 117)), (1, .int v1)] dX8_dies_14 (k := ?_)
    refine kr_iconst (0 : Int32) dX8_dies_15 (k := ?_)
    refine kr_istore_n [(3, .int (0 : Int32)), (2, .int (-1 : Int32)), (0, .ref (kg_b G + 117)), (1, .int v1)] dX8_dies_16 (k := ?_)
    refine kr_sub [2, 3, 1, 0] [(0, .ref (kg_b G + 117)), (1, .int v1), (2, .int (-1 : Int32)), (3, .int (0 : Int32))] rfl ?_
    obtain ⟨f46, h47⟩ := h6
    refine sL_X8_dies_17 ho ?_ f46 v1 (-1 : Int32) (0 : Int32) M2 h47
    · intro v1 v2 M h35
      refine kr_iload_n 2 dX8_dies_100 rfl (k := ?_)
      refine kr_if_lt 108 dX8_dies_101 (fun c36 => ?_) (fun c36 => ?_)
      · have h37 := h35.1 c36
        refine kr_iload_n 2 dX8_dies_108 rfl (k := ?_)
        refine kr_goto 128 dX8_dies_109 ?_
        exact kr_ireturn dX8_dies_128 ⟨rfl, rfl, _, rfl, h37⟩
      · have h38 := h35.2 c36
        refine kr_iload_n 1 dX8_dies_104 rfl (k := ?_)
        refine kr_if_ne 112 dX8_dies_105 (fun c39 => ?_) (fun c39 => ?_)
        · have h40 := h38.1 c39
          refine kr_aload_n 0 dX8_dies_112 rfl (k := ?_)
          refine kr_getR 1 ckX8 lkF_X8_7 rfl (kg_o8a ho) (kg_o8n ho) (kg_o8r1 ho) dX8_dies_113 (k := ?_)
          refine kr_iload_n 2 dX8_dies_116 rfl (k := ?_)
          obtain ⟨h42, h43⟩ := h40
          refine kr_iald (kg_o8s1 ho) (kg_o8m1 ho) h42 dX8_dies_117 (k := ?_)
          refine kr_aload_n 0 dX8_dies_118 rfl (k := ?_)
          refine kr_getR 4 ckX8 lkF_X8_16 rfl (kg_o8a ho) (kg_o8n ho) (kg_o8r4 ho) dX8_dies_119 (k := ?_)
          refine kr_bipush (21 : Int32) dX8_dies_122 (k := ?_)
          refine kr_iload_n 2 dX8_dies_124 rfl (k := ?_)
          refine kr_iadd dX8_dies_125 (k := ?_)
          obtain ⟨h44, h45⟩ := h43
          refine kr_iald (kg_o8s4 ho) (kg_o8m4 ho) h44 dX8_dies_126 (k := ?_)
          refine kr_isub dX8_dies_127 (k := ?_)
          exact kr_ireturn dX8_dies_128 ⟨rfl, rfl, _, rfl, h45⟩
        · have h41 := h38.2 c39
          refine kr_iload_n 2 dX8_dies_108 rfl (k := ?_)
          refine kr_goto 128 dX8_dies_109 ?_
          exact kr_ireturn dX8_dies_128 ⟨rfl, rfl, _, rfl, h41⟩
  · have h7 := h3.2 c5
    refine kr_ldc dX8_dies_10 lkC_X8_99 (k := ?_)
    exact kr_ireturn dX8_dies_12 ⟨rfl, rfl, _, rfl, h7⟩
set_option maxRecDepth 100000 in
set_option maxHeartbeats 4000000 in
theorem sp_X8_hoursRefused {G : kg_G} {E : State → Array Value → Prop} {R : kg_R} {n : Nat} {K : Int32 → kg_M → Prop} (ho : kg_O8 R n 117) {v1 : Int32} {M : kg_M} (h1 : wp_X8_hoursRefused v1 M K) : kg_Run G E qX8_hoursRefused 1 0 [(0, .ref (kg_b G + 117)), (1, .int v1)] [] M R n 0 0 (kg_I R n K) := by
  unfold wp_X8_hoursRefused at h1
  refine kr_iload_n 1 dX8_hoursRefused_0 rfl (k := ?_)
  refine kr_i2l dX8_hoursRefused_1 (k := ?_)
  refine kr_lconst (1 : Int64) dX8_hoursRefused_2 (k := ?_)
  refine kr_ldc2 dX8_hoursRefused_3 lkD_X8_207 (k := ?_)
  refine kn_callSz [.long v1.toInt64, .long (1 : Int64), .long (60 : Int64)] [] msX8_in lkM_X8_90 dX8_hoursRefused_6 (sp_X8_in  h1) (fun r4 M2 _ h3 => ?_)
  refine kr_if_ne 15 dX8_hoursRefused_9 (fun c5 => ?_) (fun c5 => ?_)
  · have h6 := h3.1 c5
    refine kr_aload_n 0 dX8_hoursRefused_15 rfl (k := ?_)
    refine kr_getI 0 ckX8 lkF_X8_87 rfl (kg_o8a ho) (kg_o8n ho) dX8_hoursRefused_16 (k := ?_)
    refine kr_if_ne 27 dX8_hoursRefused_19 (fun c8 => ?_) (fun c8 => ?_)
    · have h9 := h6.1 c8
      refine kr_aload_n 0 dX8_hoursRefused_27 rfl (k := ?_)
      refine kr_getR 4 ckX8 lkF_X8_16 rfl (kg_o8a ho) (kg_o8n ho) (kg_o8r4 ho) dX8_hoursRefused_28 (k := ?_)
      refine kr_bipush (31 : Int32) dX8_hoursRefused_31 (k := ?_)
      obtain ⟨h11, h12⟩ := h9
      refine kr_iald (kg_o8s4 ho) (kg_o8m4 ho) h11 dX8_hoursRefused_33 (k := ?_)
      refine kr_sipush (9000 : Int32) dX8_hoursRefused_34 (k := ?_)
      refine kr_icmp_le 45 dX8_hoursRefused_37 (fun c13 => ?_) (fun c13 => ?_)
      · have h14 := h12.1 c13
        refine kr_iconst (0 : Int32) dX8_hoursRefused_45 (k := ?_)
        exact kr_ireturn dX8_hoursRefused_46 ⟨rfl, rfl, _, rfl, h14⟩
      · have h15 := h12.2 c13
        refine kr_ldc dX8_hoursRefused_40 lkC_X8_103 (k := ?_)
        refine kr_goto 46 dX8_hoursRefused_42 ?_
        exact kr_ireturn dX8_hoursRefused_46 ⟨rfl, rfl, _, rfl, h15⟩
    · have h10 := h6.2 c8
      refine kr_ldc dX8_hoursRefused_22 lkC_X8_209 (k := ?_)
      refine kr_goto 46 dX8_hoursRefused_24 ?_
      exact kr_ireturn dX8_hoursRefused_46 ⟨rfl, rfl, _, rfl, h10⟩
  · have h7 := h3.2 c5
    refine kr_ldc dX8_hoursRefused_12 lkC_X8_99 (k := ?_)
    exact kr_ireturn dX8_hoursRefused_14 ⟨rfl, rfl, _, rfl, h7⟩
set_option maxRecDepth 100000 in
set_option maxHeartbeats 4000000 in
theorem sJ_X8_log_52 {G : kg_G} {E : State → Array Value → Prop} {R : kg_R} {n : Nat} {K : kg_M → Prop} (ho : kg_O8 R n 117) (v1 : Int32) (M : kg_M) (h7 : wJ_X8_log_52  K v1 M) : kg_Run G E qX8_log 0 52 [(0, .ref (kg_b G + 117)), (1, .int v1)] [] M R n 0 0 (kg_V R n K) := by
  unfold wJ_X8_log_52 at h7
  refine kr_aload_n 0 dX8_log_52 rfl (k := ?_)
  refine kr_getR 4 ckX8 lkF_X8_16 rfl (kg_o8a ho) (kg_o8n ho) (kg_o8r4 ho) dX8_log_53 (k := ?_)
  refine kr_bipush (35 : Int32) dX8_log_56 (k := ?_)
  refine kr_aload_n 0 dX8_log_58 rfl (k := ?_)
  refine kr_getR 4 ckX8 lkF_X8_16 rfl (kg_o8a ho) (kg_o8n ho) (kg_o8r4 ho) dX8_log_59 (k := ?_)
  refine kr_bipush (34 : Int32) dX8_log_62 (k := ?_)
  obtain ⟨h8, h9⟩ := h7
  refine kr_iald (kg_o8s4 ho) (kg_o8m4 ho) h8 dX8_log_64 (k := ?_)
  refine kr_iadd dX8_log_65 (k := ?_)
  refine kr_iload_n 1 dX8_log_66 rfl (k := ?_)
  obtain ⟨h10, h11⟩ := h9
  refine kn_iast (kg_o8s4 ho) (kg_o8m4 ho) h10 dX8_log_67 (fun M12 e13 => ?_)
  have h14 := h11 M12 e13
  refine kr_aload_n 0 dX8_log_68 rfl (k := ?_)
  refine kr_getR 4 ckX8 lkF_X8_16 rfl (kg_o8a ho) (kg_o8n ho) (kg_o8r4 ho) dX8_log_69 (k := ?_)
  refine kr_bipush (34 : Int32) dX8_log_72 (k := ?_)
  refine kr_dup2 dX8_log_74 (k := ?_)
  obtain ⟨h15, h16⟩ := h14
  refine kr_iald (kg_o8s4 ho) (kg_o8m4 ho) h15 dX8_log_75 (k := ?_)
  refine kr_iconst (1 : Int32) dX8_log_76 (k := ?_)
  refine kr_iadd dX8_log_77 (k := ?_)
  obtain ⟨h17, h18⟩ := h16
  refine kn_iast (kg_o8s4 ho) (kg_o8m4 ho) h17 dX8_log_78 (fun M19 e20 => ?_)
  have h21 := h18 M19 e20
  exact kr_return dX8_log_79 ⟨rfl, rfl, rfl, h21⟩
set_option maxRecDepth 100000 in
set_option maxHeartbeats 4000000 in
theorem sL_X8_log_15 {G : kg_G} {E : State → Array Value → Prop} {R : kg_R} {n : Nat} {K : kg_M → Prop} (ho : kg_O8 R n 117) {Kx41 : Int32 → kg_M → Prop} (hKx41 : ∀ (v1 : Int32) (M : kg_M), Kx41 v1 M → kg_Run G E qX8_log 0 41 [(0, .ref (kg_b G + 117)), (1, .int v1)] [] M R n 0 0 (kg_V R n K)) : ∀ (f : Nat) (v1 : Int32) (v2 : Int32) (M : kg_M), wL_X8_log_15  Kx41 K f v1 v2 M → kg_Run G E qX8_log 0 15 [(0, .ref (kg_b G + 117)), (1, .int v1), (2, .int v2)] [] M R n 0 0 (kg_V R n K) := by
  intro f
  induction f with
  | zero => intro v1 v2 M h0; exact h0.elim
  | succ f ih =>
    intro v1 v2 M h22
    rw [wL_X8_log_15] at h22
    refine kr_iload_n 2 dX8_log_15 rfl (k := ?_)
    refine kr_bipush (55 : Int32) dX8_log_16 (k := ?_)
    refine kr_icmp_ge 41 dX8_log_18 (fun c23 => ?_) (fun c23 => ?_)
    · have h24 := h22.1 c23
      refine kr_sub [0, 1] [(0, .ref (kg_b G + 117)), (1, .int v1)] rfl ?_
      exact hKx41 v1 M h24
    · have h25 := h22.2 c23
      refine kr_aload_n 0 dX8_log_21 rfl (k := ?_)
      refine kr_getR 4 ckX8 lkF_X8_16 rfl (kg_o8a ho) (kg_o8n ho) (kg_o8r4 ho) dX8_log_22 (k := ?_)
      refine kr_iload_n 2 dX8_log_25 rfl (k := ?_)
      refine kr_iconst (1 : Int32) dX8_log_26 (k := ?_)
      refine kr_isub dX8_log_27 (k := ?_)
      refine kr_aload_n 0 dX8_log_28 rfl (k := ?_)
      refine kr_getR 4 ckX8 lkF_X8_16 rfl (kg_o8a ho) (kg_o8n ho) (kg_o8r4 ho) dX8_log_29 (k := ?_)
      refine kr_iload_n 2 dX8_log_32 rfl (k := ?_)
      obtain ⟨h26, h27⟩ := h25
      refine kr_iald (kg_o8s4 ho) (kg_o8m4 ho) h26 dX8_log_33 (k := ?_)
      obtain ⟨h28, h29⟩ := h27
      refine kn_iast (kg_o8s4 ho) (kg_o8m4 ho) h28 dX8_log_34 (fun M30 e31 => ?_)
      have h32 := h29 M30 e31
      refine kr_iinc (1 : Int32) 2 [(2, .int (v2 + (1 : Int32))), (0, .ref (kg_b G + 117)), (1, .int v1)] dX8_log_35 rfl (k := ?_)
      refine kr_goto 15 dX8_log_38 ?_
      refine kr_sub [1, 2, 0] [(0, .ref (kg_b G + 117)), (1, .int v1), (2, .int (v2 + (1 : Int32)))] rfl ?_
      exact ih v1 (v2 + (1 : Int32)) M30 h32
set_option maxRecDepth 100000 in
set_option maxHeartbeats 4000000 in
theorem sp_X8_log {G : kg_G} {E : State → Array Value → Prop} {R : kg_R} {n : Nat} {K : kg_M → Prop} (ho : kg_O8 R n 117) {v1 : Int32} {M : kg_M} (h1 : wp_X8_log v1 M K) : kg_Run G E qX8_log 0 0 [(0, .ref (kg_b G + 117)), (1, .int v1)] [] M R n 0 0 (kg_V R n K) := by
  unfold wp_X8_log at h1
  refine kr_aload_n 0 dX8_log_0 rfl (k := ?_)
  refine kr_getR 4 ckX8 lkF_X8_16 rfl (kg_o8a ho) (kg_o8n ho) (kg_o8r4 ho) dX8_log_1 (k := ?_)
  refine kr_bipush (34 : Int32) dX8_log_4 (k := ?_)
  obtain ⟨h2, h3⟩ := h1
  refine kr_iald (kg_o8s4 ho) (kg_o8m4 ho) h2 dX8_log_6 (k := ?_)
  refine kr_bipush (20 : Int32) dX8_log_7 (k := ?_)
  refine kr_icmp_ne 52 dX8_log_9 (fun c4 => ?_) (fun c4 => ?_)
  · have h5 := h3.1 c4
    refine kr_sub [0, 1] [(0, .ref (kg_b G + 117)), (1, .int v1)] rfl ?_
    exact sJ_X8_log_52 ho v1 M h5
  · have h6 := h3.2 c4
    refine kr_bipush (36 : Int32) dX8_log_12 (k := ?_)
    refine kr_istore_n [(2, .int (36 : Int32)), (0, .ref (kg_b G + 117)), (1, .int v1)] dX8_log_14 (k := ?_)
    refine kr_sub [1, 2, 0] [(0, .ref (kg_b G + 117)), (1, .int v1), (2, .int (36 : Int32))] rfl ?_
    obtain ⟨f41, h42⟩ := h6
    refine sL_X8_log_15 ho ?_ f41 v1 (36 : Int32) M h42
    · intro v1 M h33
      refine kr_aload_n 0 dX8_log_41 rfl (k := ?_)
      refine kr_getR 4 ckX8 lkF_X8_16 rfl (kg_o8a ho) (kg_o8n ho) (kg_o8r4 ho) dX8_log_42 (k := ?_)
      refine kr_bipush (34 : Int32) dX8_log_45 (k := ?_)
      refine kr_dup2 dX8_log_47 (k := ?_)
      obtain ⟨h34, h35⟩ := h33
      refine kr_iald (kg_o8s4 ho) (kg_o8m4 ho) h34 dX8_log_48 (k := ?_)
      refine kr_iconst (1 : Int32) dX8_log_49 (k := ?_)
      refine kr_isub dX8_log_50 (k := ?_)
      obtain ⟨h36, h37⟩ := h35
      refine kn_iast (kg_o8s4 ho) (kg_o8m4 ho) h36 dX8_log_51 (fun M38 e39 => ?_)
      have h40 := h37 M38 e39
      refine kr_sub [0, 1] [(0, .ref (kg_b G + 117)), (1, .int v1)] rfl ?_
      exact sJ_X8_log_52 ho v1 M38 h40
set_option maxRecDepth 100000 in
set_option maxHeartbeats 4000000 in
theorem sJ_X8_meet_79 {G : kg_G} {E : State → Array Value → Prop} {R : kg_R} {n : Nat} {K : kg_M → Prop} (ho : kg_O8 R n 117) (v1 : Int32) (v2 : Int32) (s0 : Int32) (M : kg_M) (h31 : wJ_X8_meet_79  K v1 v2 s0 M) : kg_Run G E qX8_meet 1 79 [(0, .ref (kg_b G + 117)), (1, .int v1), (2, .int v2)] [.int s0] M R n 0 0 (kg_V R n K) := by
  unfold wJ_X8_meet_79 at h31
  refine kr_istore_n [(3, .int s0), (0, .ref (kg_b G + 117)), (1, .int v1), (2, .int v2)] dX8_meet_79 (k := ?_)
  refine kr_aload_n 1 dX8_meet_80 rfl (k := ?_)
  refine kr_getR 4 ckX8 lkF_X8_16 rfl (kg_o8a ho) (kg_o8n ho) (kg_o8r4 ho) dX8_meet_81 (k := ?_)
  refine kr_bipush (14 : Int32) dX8_meet_84 (k := ?_)
  refine kr_iload_n 2 dX8_meet_86 rfl (k := ?_)
  refine kr_iadd dX8_meet_87 (k := ?_)
  refine kr_iload_n 0 dX8_meet_88 rfl (k := ?_)
  obtain ⟨h32, h33⟩ := h31
  refine kn_iast (kg_o8s4 ho) (kg_o8m4 ho) h32 dX8_meet_89 (fun M34 e35 => ?_)
  have h36 := h33 M34 e35
  refine kr_aload_n 1 dX8_meet_90 rfl (k := ?_)
  refine kr_getR 4 ckX8 lkF_X8_16 rfl (kg_o8a ho) (kg_o8n ho) (kg_o8r4 ho) dX8_meet_91 (k := ?_)
  refine kr_bipush (14 : Int32) dX8_meet_94 (k := ?_)
  refine kr_iload_n 3 dX8_meet_96 rfl (k := ?_)
  refine kr_iadd dX8_meet_97 (k := ?_)
  refine kr_iload_n 0 dX8_meet_98 rfl (k := ?_)
  obtain ⟨h37, h38⟩ := h36
  refine kn_iast (kg_o8s4 ho) (kg_o8m4 ho) h37 dX8_meet_99 (fun M39 e40 => ?_)
  have h41 := h38 M39 e40
  refine kr_aload_n 1 dX8_meet_100 rfl (k := ?_)
  refine kr_getR 4 ckX8 lkF_X8_16 rfl (kg_o8a ho) (kg_o8n ho) (kg_o8r4 ho) dX8_meet_101 (k := ?_)
  refine kr_bipush (32 : Int32) dX8_meet_104 (k := ?_)
  refine kr_dup2 dX8_meet_106 (k := ?_)
  obtain ⟨h42, h43⟩ := h41
  refine kr_iald (kg_o8s4 ho) (kg_o8m4 ho) h42 dX8_meet_107 (k := ?_)
  refine kr_iconst (1 : Int32) dX8_meet_108 (k := ?_)
  refine kr_iadd dX8_meet_109 (k := ?_)
  obtain ⟨h44, h45⟩ := h43
  refine kn_iast (kg_o8s4 ho) (kg_o8m4 ho) h44 dX8_meet_110 (fun M46 e47 => ?_)
  have h48 := h45 M46 e47
  refine kr_aload_n 1 dX8_meet_111 rfl (k := ?_)
  refine kr_bipush (10 : Int32) dX8_meet_112 (k := ?_)
  refine kr_iload_n 2 dX8_meet_114 rfl (k := ?_)
  refine kr_imul dX8_meet_115 (k := ?_)
  refine kr_iload_n 3 dX8_meet_116 rfl (k := ?_)
  refine kr_iadd dX8_meet_117 (k := ?_)
  refine kn_callVv [.int (((10 : Int32) * v1) + v2)] [] mvX8_log lkM_X8_193 (kg_o8a ho) rfl (kg_o8n ho) dX8_meet_118 (sp_X8_log ho h48) (fun M49 h50 => ?_)
  exact kr_return dX8_meet_121 ⟨rfl, rfl, rfl, h50⟩
set_option maxRecDepth 100000 in
set_option maxHeartbeats 4000000 in
theorem sp_X8_meet {G : kg_G} {E : State → Array Value → Prop} {R : kg_R} {n : Nat} {K : kg_M → Prop} (ho : kg_O8 R n 117) {v1 : Int32} {v2 : Int32} {M : kg_M} (h1 : wp_X8_meet v1 v2 M K) : kg_Run G E qX8_meet 1 0 [(0, .ref (kg_b G + 117)), (1, .int v1), (2, .int v2)] [] M R n 0 0 (kg_V R n K) := by
  unfold wp_X8_meet at h1
  refine kr_aload_n 0 dX8_meet_0 rfl (k := ?_)
  refine kr_getR 4 ckX8 lkF_X8_16 rfl (kg_o8a ho) (kg_o8n ho) (kg_o8r4 ho) dX8_meet_1 (k := ?_)
  refine kr_iload_n 1 dX8_meet_4 rfl (k := ?_)
  refine kr_iconst (1 : Int32) dX8_meet_5 (k := ?_)
  refine kr_aload_n 0 dX8_meet_6 rfl (k := ?_)
  refine kr_getR 4 ckX8 lkF_X8_16 rfl (kg_o8a ho) (kg_o8n ho) (kg_o8r4 ho) dX8_meet_7 (k := ?_)
  refine kr_iload_n 1 dX8_meet_10 rfl (k := ?_)
  obtain ⟨h2, h3⟩ := h1
  refine kr_iald (kg_o8s4 ho) (kg_o8m4 ho) h2 dX8_meet_11 (k := ?_)
  refine kr_isub dX8_meet_12 (k := ?_)
  obtain ⟨h4, h5⟩ := h3
  refine kn_iast (kg_o8s4 ho) (kg_o8m4 ho) h4 dX8_meet_13 (fun M6 e7 => ?_)
  have h8 := h5 M6 e7
  refine kr_aload_n 0 dX8_meet_14 rfl (k := ?_)
  refine kr_getR 4 ckX8 lkF_X8_16 rfl (kg_o8a ho) (kg_o8n ho) (kg_o8r4 ho) dX8_meet_15 (k := ?_)
  refine kr_iload_n 2 dX8_meet_18 rfl (k := ?_)
  refine kr_iconst (1 : Int32) dX8_meet_19 (k := ?_)
  refine kr_aload_n 0 dX8_meet_20 rfl (k := ?_)
  refine kr_getR 4 ckX8 lkF_X8_16 rfl (kg_o8a ho) (kg_o8n ho) (kg_o8r4 ho) dX8_meet_21 (k := ?_)
  refine kr_iload_n 2 dX8_meet_24 rfl (k := ?_)
  obtain ⟨h9, h10⟩ := h8
  refine kr_iald (kg_o8s4 ho) (kg_o8m4 ho) h9 dX8_meet_25 (k := ?_)
  refine kr_isub dX8_meet_26 (k := ?_)
  obtain ⟨h11, h12⟩ := h10
  refine kn_iast (kg_o8s4 ho) (kg_o8m4 ho) h11 dX8_meet_27 (fun M13 e14 => ?_)
  have h15 := h12 M13 e14
  refine kr_aload_n 0 dX8_meet_28 rfl (k := ?_)
  refine kr_getR 4 ckX8 lkF_X8_16 rfl (kg_o8a ho) (kg_o8n ho) (kg_o8r4 ho) dX8_meet_29 (k := ?_)
  refine kr_bipush (7 : Int32) dX8_meet_32 (k := ?_)
  refine kr_iload_n 1 dX8_meet_34 rfl (k := ?_)
  refine kr_iadd dX8_meet_35 (k := ?_)
  refine kr_iconst (-1 : Int32) dX8_meet_36 (k := ?_)
  obtain ⟨h16, h17⟩ := h15
  refine kn_iast (kg_o8s4 ho) (kg_o8m4 ho) h16 dX8_meet_37 (fun M18 e19 => ?_)
  have h20 := h17 M18 e19
  refine kr_aload_n 0 dX8_meet_38 rfl (k := ?_)
  refine kr_getR 4 ckX8 lkF_X8_16 rfl (kg_o8a ho) (kg_o8n ho) (kg_o8r4 ho) dX8_meet_39 (k := ?_)
  refine kr_bipush (7 : Int32) dX8_meet_42 (k := ?_)
  refine kr_iload_n 2 dX8_meet_44 rfl (k := ?_)
  refine kr_iadd dX8_meet_45 (k := ?_)
  refine kr_iconst (-1 : Int32) dX8_meet_46 (k := ?_)
  obtain ⟨h21, h22⟩ := h20
  refine kn_iast (kg_o8s4 ho) (kg_o8m4 ho) h21 dX8_meet_47 (fun M23 e24 => ?_)
  have h25 := h22 M23 e24
  refine kr_aload_n 0 dX8_meet_48 rfl (k := ?_)
  refine kr_getR 4 ckX8 lkF_X8_16 rfl (kg_o8a ho) (kg_o8n ho) (kg_o8r4 ho) dX8_meet_49 (k := ?_)
  refine kr_bipush (14 : Int32) dX8_meet_52 (k := ?_)
  refine kr_iload_n 1 dX8_meet_54 rfl (k := ?_)
  refine kr_iadd dX8_meet_55 (k := ?_)
  obtain ⟨h26, h27⟩ := h25
  refine kr_iald (kg_o8s4 ho) (kg_o8m4 ho) h26 dX8_meet_56 (k := ?_)
  refine kr_iconst (1 : Int32) dX8_meet_57 (k := ?_)
  refine kr_icmp_eq 74 dX8_meet_58 (fun c28 => ?_) (fun c28 => ?_)
  · have h29 := h27.1 c28
    refine kr_iconst (1 : Int32) dX8_meet_74 (k := ?_)
    refine kr_goto 79 dX8_meet_75 ?_
    refine kr_sub [0, 1, 2] [(0, .ref (kg_b G + 117)), (1, .int v1), (2, .int v2)] rfl ?_
    exact sJ_X8_meet_79 ho v1 v2 (1 : Int32) M23 h29
  · have h30 := h27.2 c28
    refine kr_aload_n 0 dX8_meet_61 rfl (k := ?_)
    refine kr_getR 4 ckX8 lkF_X8_16 rfl (kg_o8a ho) (kg_o8n ho) (kg_o8r4 ho) dX8_meet_62 (k := ?_)
    refine kr_bipush (14 : Int32) dX8_meet_65 (k := ?_)
    refine kr_iload_n 2 dX8_meet_67 rfl (k := ?_)
    refine kr_iadd dX8_meet_68 (k := ?_)
    obtain ⟨h52, h53⟩ := h30
    refine kr_iald (kg_o8s4 ho) (kg_o8m4 ho) h52 dX8_meet_69 (k := ?_)
    refine kr_iconst (1 : Int32) dX8_meet_70 (k := ?_)
    refine kr_icmp_ne 78 dX8_meet_71 (fun c54 => ?_) (fun c54 => ?_)
    · have h55 := h53.1 c54
      refine kr_iconst (0 : Int32) dX8_meet_78 (k := ?_)
      refine kr_sub [0, 1, 2] [(0, .ref (kg_b G + 117)), (1, .int v1), (2, .int v2)] rfl ?_
      exact sJ_X8_meet_79 ho v1 v2 (0 : Int32) M23 h55
    · have h56 := h53.2 c54
      refine kr_iconst (1 : Int32) dX8_meet_74 (k := ?_)
      refine kr_goto 79 dX8_meet_75 ?_
      refine kr_sub [0, 1, 2] [(0, .ref (kg_b G + 117)), (1, .int v1), (2, .int v2)] rfl ?_
      exact sJ_X8_meet_79 ho v1 v2 (1 : Int32) M23 h56
set_option maxRecDepth 100000 in
set_option maxHeartbeats 4000000 in
theorem sJ_X8_pairAt_159 {G : kg_G} {E : State → Array Value → Prop} {R : kg_R} {n : Nat} {K : Int32 → kg_M → Prop} (ho : kg_O8 R n 117) {Kb : Int32 → Int32 → Int32 → kg_M → Prop} {Kx178 : Int32 → kg_M → Prop} (hKb : ∀ (v1 : Int32) (v2 : Int32) (v3 : Int32) (M : kg_M), Kb v1 v2 v3 M → kg_Run G E qX8_pairAt 2 4 [(0, .ref (kg_b G + 117)), (1, .int v1), (2, .int v2), (3, .int v3)] [] M R n 0 0 (kg_I R n K)) (hKx178 : ∀ (v2 : Int32) (M : kg_M), Kx178 v2 M → kg_Run G E qX8_pairAt 2 178 [(2, .int v2)] [] M R n 0 0 (kg_I R n K)) (v1 : Int32) (v2 : Int32) (v3 : Int32) (s0 : Int32) (M : kg_M) (h19 : wJ_X8_pairAt_159  Kb Kx178 K v1 v2 v3 s0 M) : kg_Run G E qX8_pairAt 2 159 [(0, .ref (kg_b G + 117)), (1, .int v1), (2, .int v2), (3, .int v3)] [.int s0] M R n 0 0 (kg_I R n K) := by
  unfold wJ_X8_pairAt_159 at h19
  refine kr_istore [(6, .int s0), (0, .ref (kg_b G + 117)), (1, .int v1), (2, .int v2), (3, .int v3)] dX8_pairAt_159 (k := ?_)
  refine kr_iload 0 dX8_pairAt_161 rfl (k := ?_)
  refine kr_if_eq 170 dX8_pairAt_163 (fun c20 => ?_) (fun c20 => ?_)
  · have h21 := h19.1 c20
    refine kr_iload_n 3 dX8_pairAt_170 rfl (k := ?_)
    refine kr_istore_n [(2, .int v2), (6, .int s0), (0, .ref (kg_b G + 117)), (1, .int v1), (3, .int v3)] dX8_pairAt_171 (k := ?_)
    refine kr_iinc (1 : Int32) 4 [(3, .int (v3 + (1 : Int32))), (2, .int v2), (6, .int s0), (0, .ref (kg_b G + 117)), (1, .int v1)] dX8_pairAt_172 rfl (k := ?_)
    refine kr_goto 4 dX8_pairAt_175 ?_
    refine kr_sub [3, 4, 1, 0] [(0, .ref (kg_b G + 117)), (1, .int v1), (2, .int v2), (3, .int (v3 + (1 : Int32)))] rfl ?_
    exact hKb v1 v2 (v3 + (1 : Int32)) M h21
  · have h22 := h19.2 c20
    refine kr_iload_n 4 dX8_pairAt_166 rfl (k := ?_)
    refine kr_goto 171 dX8_pairAt_167 ?_
    refine kr_istore_n [(2, .int v3), (6, .int s0), (0, .ref (kg_b G + 117)), (1, .int v1), (3, .int v3)] dX8_pairAt_171 (k := ?_)
    refine kr_iinc (1 : Int32) 4 [(3, .int (v3 + (1 : Int32))), (2, .int v3), (6, .int s0), (0, .ref (kg_b G + 117)), (1, .int v1)] dX8_pairAt_172 rfl (k := ?_)
    refine kr_goto 4 dX8_pairAt_175 ?_
    refine kr_sub [3, 4, 1, 0] [(0, .ref (kg_b G + 117)), (1, .int v1), (2, .int v3), (3, .int (v3 + (1 : Int32)))] rfl ?_
    exact hKb v1 v3 (v3 + (1 : Int32)) M h22
set_option maxRecDepth 100000 in
set_option maxHeartbeats 4000000 in
theorem sJ_X8_pairAt_108 {G : kg_G} {E : State → Array Value → Prop} {R : kg_R} {n : Nat} {K : Int32 → kg_M → Prop} (ho : kg_O8 R n 117) {Kb : Int32 → Int32 → Int32 → kg_M → Prop} {Kx178 : Int32 → kg_M → Prop} (hKb : ∀ (v1 : Int32) (v2 : Int32) (v3 : Int32) (M : kg_M), Kb v1 v2 v3 M → kg_Run G E qX8_pairAt 2 4 [(0, .ref (kg_b G + 117)), (1, .int v1), (2, .int v2), (3, .int v3)] [] M R n 0 0 (kg_I R n K)) (hKx178 : ∀ (v2 : Int32) (M : kg_M), Kx178 v2 M → kg_Run G E qX8_pairAt 2 178 [(2, .int v2)] [] M R n 0 0 (kg_I R n K)) (v1 : Int32) (v2 : Int32) (v3 : Int32) (s0 : Int32) (M : kg_M) (h15 : wJ_X8_pairAt_108  Kb Kx178 K v1 v2 v3 s0 M) : kg_Run G E qX8_pairAt 2 108 [(0, .ref (kg_b G + 117)), (1, .int v1), (2, .int v2), (3, .int v3)] [.int s0] M R n 0 0 (kg_I R n K) := by
  unfold wJ_X8_pairAt_108 at h15
  refine kr_istore [(5, .int s0), (0, .ref (kg_b G + 117)), (1, .int v1), (2, .int v2), (3, .int v3)] dX8_pairAt_108 (k := ?_)
  refine kr_iload 0 dX8_pairAt_110 rfl (k := ?_)
  refine kr_if_eq 158 dX8_pairAt_112 (fun c16 => ?_) (fun c16 => ?_)
  · have h17 := h15.1 c16
    refine kr_iconst (0 : Int32) dX8_pairAt_158 (k := ?_)
    refine kr_sub [1, 2, 3, 4] [(0, .ref (kg_b G + 117)), (1, .int v1), (2, .int v2), (3, .int v3)] rfl ?_
    exact sJ_X8_pairAt_159 ho hKb hKx178 v1 v2 v3 (0 : Int32) M h17
  · have h18 := h15.2 c16
    refine kr_iload_n 3 dX8_pairAt_115 rfl (k := ?_)
    refine kr_if_lt 154 dX8_pairAt_116 (fun c23 => ?_) (fun c23 => ?_)
    · have h24 := h18.1 c23
      refine kr_iconst (1 : Int32) dX8_pairAt_154 (k := ?_)
      refine kr_goto 159 dX8_pairAt_155 ?_
      refine kr_sub [1, 2, 3, 4] [(0, .ref (kg_b G + 117)), (1, .int v1), (2, .int v2), (3, .int v3)] rfl ?_
      exact sJ_X8_pairAt_159 ho hKb hKx178 v1 v2 v3 (1 : Int32) M h24
    · have h25 := h18.2 c23
      refine kr_aload_n 1 dX8_pairAt_119 rfl (k := ?_)
      refine kr_aload_n 1 dX8_pairAt_120 rfl (k := ?_)
      refine kr_getR 6 ckX8 lkF_X8_19 rfl (kg_o8a ho) (kg_o8n ho) (kg_o8r6 ho) dX8_pairAt_121 (k := ?_)
      refine kr_iload_n 4 dX8_pairAt_124 rfl (k := ?_)
      obtain ⟨h26, h27⟩ := h25
      refine kr_iald (kg_o8s6 ho) (kg_o8m6 ho) h26 dX8_pairAt_125 (k := ?_)
      refine kr_aload_n 1 dX8_pairAt_126 rfl (k := ?_)
      refine kr_getR 7 ckX8 lkF_X8_22 rfl (kg_o8a ho) (kg_o8n ho) (kg_o8r7 ho) dX8_pairAt_127 (k := ?_)
      refine kr_iload_n 4 dX8_pairAt_130 rfl (k := ?_)
      obtain ⟨h28, h29⟩ := h27
      refine kr_iald (kg_o8s7 ho) (kg_o8m7 ho) h28 dX8_pairAt_131 (k := ?_)
      refine kn_callVi [.int (M 121 v3.toNatClampNeg), .int (M 122 v3.toNatClampNeg)] [] mvX8_both lkM_X8_197 (kg_o8a ho) rfl (kg_o8n ho) dX8_pairAt_132 (sp_X8_both ho h29) (fun r32 M30 h31 => ?_)
      refine kr_aload_n 1 dX8_pairAt_135 rfl (k := ?_)
      refine kr_aload_n 1 dX8_pairAt_136 rfl (k := ?_)
      refine kr_getR 6 ckX8 lkF_X8_19 rfl (kg_o8a ho) (kg_o8n ho) (kg_o8r6 ho) dX8_pairAt_137 (k := ?_)
      refine kr_iload_n 3 dX8_pairAt_140 rfl (k := ?_)
      obtain ⟨h33, h34⟩ := h31
      refine kr_iald (kg_o8s6 ho) (kg_o8m6 ho) h33 dX8_pairAt_141 (k := ?_)
      refine kr_aload_n 1 dX8_pairAt_142 rfl (k := ?_)
      refine kr_getR 7 ckX8 lkF_X8_22 rfl (kg_o8a ho) (kg_o8n ho) (kg_o8r7 ho) dX8_pairAt_143 (k := ?_)
      refine kr_iload_n 3 dX8_pairAt_146 rfl (k := ?_)
      obtain ⟨h35, h36⟩ := h34
      refine kr_iald (kg_o8s7 ho) (kg_o8m7 ho) h35 dX8_pairAt_147 (k := ?_)
      refine kn_callVi [.int (M30 121 v2.toNatClampNeg), .int (M30 122 v2.toNatClampNeg)] [.int r32] mvX8_both lkM_X8_197 (kg_o8a ho) rfl (kg_o8n ho) dX8_pairAt_148 (sp_X8_both ho h36) (fun r39 M37 h38 => ?_)
      refine kr_icmp_le 158 dX8_pairAt_151 (fun c40 => ?_) (fun c40 => ?_)
      · have h41 := h38.1 c40
        refine kr_iconst (0 : Int32) dX8_pairAt_158 (k := ?_)
        refine kr_sub [1, 2, 3, 4] [(0, .ref (kg_b G + 117)), (1, .int v1), (2, .int v2), (3, .int v3)] rfl ?_
        exact sJ_X8_pairAt_159 ho hKb hKx178 v1 v2 v3 (0 : Int32) M37 h41
      · have h42 := h38.2 c40
        refine kr_iconst (1 : Int32) dX8_pairAt_154 (k := ?_)
        refine kr_goto 159 dX8_pairAt_155 ?_
        refine kr_sub [1, 2, 3, 4] [(0, .ref (kg_b G + 117)), (1, .int v1), (2, .int v2), (3, .int v3)] rfl ?_
        exact sJ_X8_pairAt_159 ho hKb hKx178 v1 v2 v3 (1 : Int32) M37 h42
set_option maxRecDepth 100000 in
set_option maxHeartbeats 4000000 in
theorem sJ_X8_pairAt_77 {G : kg_G} {E : State → Array Value → Prop} {R : kg_R} {n : Nat} {K : Int32 → kg_M → Prop} (ho : kg_O8 R n 117) {Kb : Int32 → Int32 → Int32 → kg_M → Prop} {Kx178 : Int32 → kg_M → Prop} (hKb : ∀ (v1 : Int32) (v2 : Int32) (v3 : Int32) (M : kg_M), Kb v1 v2 v3 M → kg_Run G E qX8_pairAt 2 4 [(0, .ref (kg_b G + 117)), (1, .int v1), (2, .int v2), (3, .int v3)] [] M R n 0 0 (kg_I R n K)) (hKx178 : ∀ (v2 : Int32) (M : kg_M), Kx178 v2 M → kg_Run G E qX8_pairAt 2 178 [(2, .int v2)] [] M R n 0 0 (kg_I R n K)) (v1 : Int32) (v2 : Int32) (v3 : Int32) (s0 : Int32) (M : kg_M) (h11 : wJ_X8_pairAt_77  Kb Kx178 K v1 v2 v3 s0 M) : kg_Run G E qX8_pairAt 2 77 [(0, .ref (kg_b G + 117)), (1, .int v1), (2, .int v2), (3, .int v3)] [.int s0] M R n 0 0 (kg_I R n K) := by
  unfold wJ_X8_pairAt_77 at h11
  refine kr_istore [(4, .int s0), (0, .ref (kg_b G + 117)), (1, .int v1), (2, .int v2), (3, .int v3)] dX8_pairAt_77 (k := ?_)
  refine kr_iload 0 dX8_pairAt_79 rfl (k := ?_)
  refine kr_if_eq 107 dX8_pairAt_81 (fun c12 => ?_) (fun c12 => ?_)
  · have h13 := h11.1 c12
    refine kr_iconst (0 : Int32) dX8_pairAt_107 (k := ?_)
    refine kr_sub [1, 2, 3, 4] [(0, .ref (kg_b G + 117)), (1, .int v1), (2, .int v2), (3, .int v3)] rfl ?_
    exact sJ_X8_pairAt_108 ho hKb hKx178 v1 v2 v3 (0 : Int32) M h13
  · have h14 := h11.2 c12
    refine kr_aload_n 1 dX8_pairAt_84 rfl (k := ?_)
    refine kr_aload_n 1 dX8_pairAt_85 rfl (k := ?_)
    refine kr_getR 6 ckX8 lkF_X8_19 rfl (kg_o8a ho) (kg_o8n ho) (kg_o8r6 ho) dX8_pairAt_86 (k := ?_)
    refine kr_iload_n 4 dX8_pairAt_89 rfl (k := ?_)
    obtain ⟨h43, h44⟩ := h14
    refine kr_iald (kg_o8s6 ho) (kg_o8m6 ho) h43 dX8_pairAt_90 (k := ?_)
    refine kr_aload_n 1 dX8_pairAt_91 rfl (k := ?_)
    refine kr_getR 7 ckX8 lkF_X8_22 rfl (kg_o8a ho) (kg_o8n ho) (kg_o8r7 ho) dX8_pairAt_92 (k := ?_)
    refine kr_iload_n 4 dX8_pairAt_95 rfl (k := ?_)
    obtain ⟨h45, h46⟩ := h44
    refine kr_iald (kg_o8s7 ho) (kg_o8m7 ho) h45 dX8_pairAt_96 (k := ?_)
    refine kn_callVz [.int (M 121 v3.toNatClampNeg), .int (M 122 v3.toNatClampNeg)] [] mvX8_would lkM_X8_166 (kg_o8a ho) rfl (kg_o8n ho) dX8_pairAt_97 (sp_X8_would ho h46) (fun r49 M47 _ h48 => ?_)
    refine kr_if_eq 107 dX8_pairAt_100 (fun c50 => ?_) (fun c50 => ?_)
    · have h51 := h48.1 c50
      refine kr_iconst (0 : Int32) dX8_pairAt_107 (k := ?_)
      refine kr_sub [1, 2, 3, 4] [(0, .ref (kg_b G + 117)), (1, .int v1), (2, .int v2), (3, .int v3)] rfl ?_
      exact sJ_X8_pairAt_108 ho hKb hKx178 v1 v2 v3 (0 : Int32) M47 h51
    · have h52 := h48.2 c50
      refine kr_iconst (1 : Int32) dX8_pairAt_103 (k := ?_)
      refine kr_goto 108 dX8_pairAt_104 ?_
      refine kr_sub [1, 2, 3, 4] [(0, .ref (kg_b G + 117)), (1, .int v1), (2, .int v2), (3, .int v3)] rfl ?_
      exact sJ_X8_pairAt_108 ho hKb hKx178 v1 v2 v3 (1 : Int32) M47 h52
set_option maxRecDepth 100000 in
set_option maxHeartbeats 4000000 in
theorem sL_X8_pairAt_4 {G : kg_G} {E : State → Array Value → Prop} {R : kg_R} {n : Nat} {K : Int32 → kg_M → Prop} (ho : kg_O8 R n 117) {Kx178 : Int32 → kg_M → Prop} (hKx178 : ∀ (v2 : Int32) (M : kg_M), Kx178 v2 M → kg_Run G E qX8_pairAt 2 178 [(2, .int v2)] [] M R n 0 0 (kg_I R n K)) : ∀ (f : Nat) (v1 : Int32) (v2 : Int32) (v3 : Int32) (M : kg_M), wL_X8_pairAt_4  Kx178 K f v1 v2 v3 M → kg_Run G E qX8_pairAt 2 4 [(0, .ref (kg_b G + 117)), (1, .int v1), (2, .int v2), (3, .int v3)] [] M R n 0 0 (kg_I R n K) := by
  intro f
  induction f with
  | zero => intro v1 v2 v3 M h0; exact h0.elim
  | succ f ih =>
    intro v1 v2 v3 M h2
    rw [wL_X8_pairAt_4] at h2
    refine kr_iload_n 3 dX8_pairAt_4 rfl (k := ?_)
    refine kr_bipush (21 : Int32) dX8_pairAt_5 (k := ?_)
    refine kr_icmp_ge 178 dX8_pairAt_7 (fun c3 => ?_) (fun c3 => ?_)
    · have h4 := h2.1 c3
      refine kr_sub [2] [(2, .int v2)] rfl ?_
      exact hKx178 v2 M h4
    · have h5 := h2.2 c3
      refine kr_aload_n 0 dX8_pairAt_10 rfl (k := ?_)
      refine kr_getR 6 ckX8 lkF_X8_19 rfl (kg_o8a ho) (kg_o8n ho) (kg_o8r6 ho) dX8_pairAt_11 (k := ?_)
      refine kr_iload_n 3 dX8_pairAt_14 rfl (k := ?_)
      obtain ⟨h6, h7⟩ := h5
      refine kr_iald (kg_o8s6 ho) (kg_o8m6 ho) h6 dX8_pairAt_15 (k := ?_)
      refine kr_aload_n 0 dX8_pairAt_16 rfl (k := ?_)
      refine kr_getI 2 ckX8 lkF_X8_94 rfl (kg_o8a ho) (kg_o8n ho) dX8_pairAt_17 (k := ?_)
      refine kr_icmp_ge 76 dX8_pairAt_20 (fun c8 => ?_) (fun c8 => ?_)
      · have h9 := h7.1 c8
        refine kr_iconst (0 : Int32) dX8_pairAt_76 (k := ?_)
        refine kr_sub [0, 1, 2, 3] [(0, .ref (kg_b G + 117)), (1, .int v1), (2, .int v2), (3, .int v3)] rfl ?_
        exact sJ_X8_pairAt_77 ho ih hKx178 v1 v2 v3 (0 : Int32) M h9
      · have h10 := h7.2 c8
        refine kr_aload_n 0 dX8_pairAt_23 rfl (k := ?_)
        refine kr_getR 7 ckX8 lkF_X8_22 rfl (kg_o8a ho) (kg_o8n ho) (kg_o8r7 ho) dX8_pairAt_24 (k := ?_)
        refine kr_iload_n 3 dX8_pairAt_27 rfl (k := ?_)
        obtain ⟨h53, h54⟩ := h10
        refine kr_iald (kg_o8s7 ho) (kg_o8m7 ho) h53 dX8_pairAt_28 (k := ?_)
        refine kr_aload_n 0 dX8_pairAt_29 rfl (k := ?_)
        refine kr_getI 2 ckX8 lkF_X8_94 rfl (kg_o8a ho) (kg_o8n ho) dX8_pairAt_30 (k := ?_)
        refine kr_icmp_ge 76 dX8_pairAt_33 (fun c55 => ?_) (fun c55 => ?_)
        · have h56 := h54.1 c55
          refine kr_iconst (0 : Int32) dX8_pairAt_76 (k := ?_)
          refine kr_sub [0, 1, 2, 3] [(0, .ref (kg_b G + 117)), (1, .int v1), (2, .int v2), (3, .int v3)] rfl ?_
          exact sJ_X8_pairAt_77 ho ih hKx178 v1 v2 v3 (0 : Int32) M h56
        · have h57 := h54.2 c55
          refine kr_aload_n 0 dX8_pairAt_36 rfl (k := ?_)
          refine kr_getR 4 ckX8 lkF_X8_16 rfl (kg_o8a ho) (kg_o8n ho) (kg_o8r4 ho) dX8_pairAt_37 (k := ?_)
          refine kr_bipush (7 : Int32) dX8_pairAt_40 (k := ?_)
          refine kr_aload_n 0 dX8_pairAt_42 rfl (k := ?_)
          refine kr_getR 6 ckX8 lkF_X8_19 rfl (kg_o8a ho) (kg_o8n ho) (kg_o8r6 ho) dX8_pairAt_43 (k := ?_)
          refine kr_iload_n 3 dX8_pairAt_46 rfl (k := ?_)
          obtain ⟨h58, h59⟩ := h57
          refine kr_iald (kg_o8s6 ho) (kg_o8m6 ho) h58 dX8_pairAt_47 (k := ?_)
          refine kr_iadd dX8_pairAt_48 (k := ?_)
          obtain ⟨h60, h61⟩ := h59
          refine kr_iald (kg_o8s4 ho) (kg_o8m4 ho) h60 dX8_pairAt_49 (k := ?_)
          refine kr_iload_n 1 dX8_pairAt_50 rfl (k := ?_)
          refine kr_icmp_ne 76 dX8_pairAt_51 (fun c62 => ?_) (fun c62 => ?_)
          · have h63 := h61.1 c62
            refine kr_iconst (0 : Int32) dX8_pairAt_76 (k := ?_)
            refine kr_sub [0, 1, 2, 3] [(0, .ref (kg_b G + 117)), (1, .int v1), (2, .int v2), (3, .int v3)] rfl ?_
            exact sJ_X8_pairAt_77 ho ih hKx178 v1 v2 v3 (0 : Int32) M h63
          · have h64 := h61.2 c62
            refine kr_aload_n 0 dX8_pairAt_54 rfl (k := ?_)
            refine kr_getR 4 ckX8 lkF_X8_16 rfl (kg_o8a ho) (kg_o8n ho) (kg_o8r4 ho) dX8_pairAt_55 (k := ?_)
            refine kr_bipush (7 : Int32) dX8_pairAt_58 (k := ?_)
            refine kr_aload_n 0 dX8_pairAt_60 rfl (k := ?_)
            refine kr_getR 7 ckX8 lkF_X8_22 rfl (kg_o8a ho) (kg_o8n ho) (kg_o8r7 ho) dX8_pairAt_61 (k := ?_)
            refine kr_iload_n 3 dX8_pairAt_64 rfl (k := ?_)
            obtain ⟨h65, h66⟩ := h64
            refine kr_iald (kg_o8s7 ho) (kg_o8m7 ho) h65 dX8_pairAt_65 (k := ?_)
            refine kr_iadd dX8_pairAt_66 (k := ?_)
            obtain ⟨h67, h68⟩ := h66
            refine kr_iald (kg_o8s4 ho) (kg_o8m4 ho) h67 dX8_pairAt_67 (k := ?_)
            refine kr_iload_n 1 dX8_pairAt_68 rfl (k := ?_)
            refine kr_icmp_ne 76 dX8_pairAt_69 (fun c69 => ?_) (fun c69 => ?_)
            · have h70 := h68.1 c69
              refine kr_iconst (0 : Int32) dX8_pairAt_76 (k := ?_)
              refine kr_sub [0, 1, 2, 3] [(0, .ref (kg_b G + 117)), (1, .int v1), (2, .int v2), (3, .int v3)] rfl ?_
              exact sJ_X8_pairAt_77 ho ih hKx178 v1 v2 v3 (0 : Int32) M h70
            · have h71 := h68.2 c69
              refine kr_iconst (1 : Int32) dX8_pairAt_72 (k := ?_)
              refine kr_goto 77 dX8_pairAt_73 ?_
              refine kr_sub [0, 1, 2, 3] [(0, .ref (kg_b G + 117)), (1, .int v1), (2, .int v2), (3, .int v3)] rfl ?_
              exact sJ_X8_pairAt_77 ho ih hKx178 v1 v2 v3 (1 : Int32) M h71
set_option maxRecDepth 100000 in
set_option maxHeartbeats 4000000 in
theorem sp_X8_pairAt {G : kg_G} {E : State → Array Value → Prop} {R : kg_R} {n : Nat} {K : Int32 → kg_M → Prop} (ho : kg_O8 R n 117) {v1 : Int32} {M : kg_M} (h1 : wp_X8_pairAt v1 M K) : kg_Run G E qX8_pairAt 2 0 [(0, .ref (kg_b G + 117)), (1, .int v1)] [] M R n 0 0 (kg_I R n K) := by
  unfold wp_X8_pairAt at h1
  refine kr_iconst (-1 : Int32) dX8_pairAt_0 (k := ?_)
  refine kr_istore_n [(2, .int (-1 : Int32)), (0, .ref (kg_b G + 117)), (1, .int v1)] dX8_pairAt_1 (k := ?_)
  refine kr_iconst (0 : Int32) dX8_pairAt_2 (k := ?_)
  refine kr_istore_n [(3, .int (0 : Int32)), (2, .int (-1 : Int32)), (0, .ref (kg_b G + 117)), (1, .int v1)] dX8_pairAt_3 (k := ?_)
  refine kr_sub [2, 3, 1, 0] [(0, .ref (kg_b G + 117)), (1, .int v1), (2, .int (-1 : Int32)), (3, .int (0 : Int32))] rfl ?_
  obtain ⟨f73, h74⟩ := h1
  refine sL_X8_pairAt_4 ho ?_ f73 v1 (-1 : Int32) (0 : Int32) M h74
  · intro v2 M h72
    refine kr_iload_n 0 dX8_pairAt_178 rfl (k := ?_)
    exact kr_ireturn dX8_pairAt_179 ⟨rfl, rfl, _, rfl, h72⟩
set_option maxRecDepth 100000 in
set_option maxHeartbeats 4000000 in
theorem sJ_X8_pass_105 {G : kg_G} {E : State → Array Value → Prop} {R : kg_R} {n : Nat} {K : kg_M → Prop} (ho : kg_O8 R n 117) {Kb : Int32 → kg_M → Prop} {Kx112 : kg_M → Prop} (hKb : ∀ (v1 : Int32) (M : kg_M), Kb v1 M → kg_Run G E qX8_pass 3 2 [(0, .ref (kg_b G + 117)), (1, .int v1)] [] M R n 0 0 (kg_V R n K)) (hKx112 : ∀ (M : kg_M), Kx112 M → kg_Run G E qX8_pass 3 112 [(0, .ref (kg_b G + 117))] [] M R n 0 0 (kg_V R n K)) (v1 : Int32) (s1 : Int32) (s2 : Int32) (M : kg_M) (h31 : wJ_X8_pass_105  Kb Kx112 K v1 s1 s2 M) : kg_Run G E qX8_pass 3 105 [(0, .ref (kg_b G + 117)), (1, .int v1)] [.int s2, .int s1, .ref (kg_b G + 120)] M R n 0 0 (kg_V R n K) := by
  unfold wJ_X8_pass_105 at h31
  obtain ⟨h32, h33⟩ := h31
  refine kn_iast (kg_o8s4 ho) (kg_o8m4 ho) h32 dX8_pass_105 (fun M34 e35 => ?_)
  have h36 := h33 M34 e35
  refine kr_iinc (1 : Int32) 1 [(1, .int (v1 + (1 : Int32))), (0, .ref (kg_b G + 117))] dX8_pass_106 rfl (k := ?_)
  refine kr_goto 2 dX8_pass_109 ?_
  refine kr_sub [1, 0] [(0, .ref (kg_b G + 117)), (1, .int (v1 + (1 : Int32)))] rfl ?_
  exact hKb (v1 + (1 : Int32)) M34 h36
set_option maxRecDepth 100000 in
set_option maxHeartbeats 4000000 in
theorem sL_X8_pass_2 {G : kg_G} {E : State → Array Value → Prop} {R : kg_R} {n : Nat} {K : kg_M → Prop} (ho : kg_O8 R n 117) {Kx112 : kg_M → Prop} (hKx112 : ∀ (M : kg_M), Kx112 M → kg_Run G E qX8_pass 3 112 [(0, .ref (kg_b G + 117))] [] M R n 0 0 (kg_V R n K)) : ∀ (f : Nat) (v1 : Int32) (M : kg_M), wL_X8_pass_2  Kx112 K f v1 M → kg_Run G E qX8_pass 3 2 [(0, .ref (kg_b G + 117)), (1, .int v1)] [] M R n 0 0 (kg_V R n K) := by
  intro f
  induction f with
  | zero => intro v1 M h0; exact h0.elim
  | succ f ih =>
    intro v1 M h2
    rw [wL_X8_pass_2] at h2
    refine kr_iload_n 1 dX8_pass_2 rfl (k := ?_)
    refine kr_aload_n 0 dX8_pass_3 rfl (k := ?_)
    refine kr_getI 0 ckX8 lkF_X8_87 rfl (kg_o8a ho) (kg_o8n ho) dX8_pass_4 (k := ?_)
    refine kr_icmp_ge 112 dX8_pass_7 (fun c3 => ?_) (fun c3 => ?_)
    · have h4 := h2.1 c3
      refine kr_sub [0] [(0, .ref (kg_b G + 117))] rfl ?_
      exact hKx112  M h4
    · have h5 := h2.2 c3
      refine kr_aload_n 0 dX8_pass_10 rfl (k := ?_)
      refine kr_getR 4 ckX8 lkF_X8_16 rfl (kg_o8a ho) (kg_o8n ho) (kg_o8r4 ho) dX8_pass_11 (k := ?_)
      refine kr_bipush (26 : Int32) dX8_pass_14 (k := ?_)
      refine kr_iload_n 1 dX8_pass_16 rfl (k := ?_)
      refine kr_iadd dX8_pass_17 (k := ?_)
      obtain ⟨h6, h7⟩ := h5
      refine kr_iald (kg_o8s4 ho) (kg_o8m4 ho) h6 dX8_pass_18 (k := ?_)
      refine kr_if_ne 106 dX8_pass_19 (fun c8 => ?_) (fun c8 => ?_)
      · have h9 := h7.1 c8
        refine kr_iinc (1 : Int32) 1 [(1, .int (v1 + (1 : Int32))), (0, .ref (kg_b G + 117))] dX8_pass_106 rfl (k := ?_)
        refine kr_goto 2 dX8_pass_109 ?_
        refine kr_sub [1, 0] [(0, .ref (kg_b G + 117)), (1, .int (v1 + (1 : Int32)))] rfl ?_
        exact ih (v1 + (1 : Int32)) M h9
      · have h10 := h7.2 c8
        refine kr_aload_n 0 dX8_pass_22 rfl (k := ?_)
        refine kr_iload_n 1 dX8_pass_23 rfl (k := ?_)
        refine kn_callVi [.int v1] [] mvX8_pairAt lkM_X8_200 (kg_o8a ho) rfl (kg_o8n ho) dX8_pass_24 (sp_X8_pairAt ho h10) (fun r13 M11 h12 => ?_)
        refine kr_istore_n [(2, .int r13), (0, .ref (kg_b G + 117)), (1, .int v1)] dX8_pass_27 (k := ?_)
        refine kr_iload_n 0 dX8_pass_28 rfl (k := ?_)
        refine kr_if_lt 61 dX8_pass_29 (fun c14 => ?_) (fun c14 => ?_)
        · have h15 := h12.1 c14
          refine kr_aload_n 1 dX8_pass_61 rfl (k := ?_)
          refine kr_getR 4 ckX8 lkF_X8_16 rfl (kg_o8a ho) (kg_o8n ho) (kg_o8r4 ho) dX8_pass_62 (k := ?_)
          refine kr_bipush (21 : Int32) dX8_pass_65 (k := ?_)
          refine kr_iload_n 2 dX8_pass_67 rfl (k := ?_)
          refine kr_iadd dX8_pass_68 (k := ?_)
          refine kr_dup2 dX8_pass_69 (k := ?_)
          obtain ⟨h17, h18⟩ := h15
          refine kr_iald (kg_o8s4 ho) (kg_o8m4 ho) h17 dX8_pass_70 (k := ?_)
          refine kr_iconst (1 : Int32) dX8_pass_71 (k := ?_)
          refine kr_iadd dX8_pass_72 (k := ?_)
          obtain ⟨h19, h20⟩ := h18
          refine kn_iast (kg_o8s4 ho) (kg_o8m4 ho) h19 dX8_pass_73 (fun M21 e22 => ?_)
          have h23 := h20 M21 e22
          refine kr_aload_n 1 dX8_pass_74 rfl (k := ?_)
          refine kr_getR 4 ckX8 lkF_X8_16 rfl (kg_o8a ho) (kg_o8n ho) (kg_o8r4 ho) dX8_pass_75 (k := ?_)
          refine kr_bipush (26 : Int32) dX8_pass_78 (k := ?_)
          refine kr_iload_n 2 dX8_pass_80 rfl (k := ?_)
          refine kr_iadd dX8_pass_81 (k := ?_)
          refine kr_aload_n 1 dX8_pass_82 rfl (k := ?_)
          refine kr_getR 4 ckX8 lkF_X8_16 rfl (kg_o8a ho) (kg_o8n ho) (kg_o8r4 ho) dX8_pass_83 (k := ?_)
          refine kr_bipush (21 : Int32) dX8_pass_86 (k := ?_)
          refine kr_iload_n 2 dX8_pass_88 rfl (k := ?_)
          refine kr_iadd dX8_pass_89 (k := ?_)
          obtain ⟨h24, h25⟩ := h23
          refine kr_iald (kg_o8s4 ho) (kg_o8m4 ho) h24 dX8_pass_90 (k := ?_)
          refine kr_aload_n 1 dX8_pass_91 rfl (k := ?_)
          refine kr_getR 1 ckX8 lkF_X8_7 rfl (kg_o8a ho) (kg_o8n ho) (kg_o8r1 ho) dX8_pass_92 (k := ?_)
          refine kr_iload_n 2 dX8_pass_95 rfl (k := ?_)
          obtain ⟨h26, h27⟩ := h25
          refine kr_iald (kg_o8s1 ho) (kg_o8m1 ho) h26 dX8_pass_96 (k := ?_)
          refine kr_icmp_lt 104 dX8_pass_97 (fun c28 => ?_) (fun c28 => ?_)
          · have h29 := h27.1 c28
            refine kr_iconst (0 : Int32) dX8_pass_104 (k := ?_)
            refine kr_sub [1, 2] [(0, .ref (kg_b G + 117)), (1, .int v1)] rfl ?_
            exact sJ_X8_pass_105 ho ih hKx112 v1 ((26 : Int32) + v1) (0 : Int32) M21 h29
          · have h30 := h27.2 c28
            refine kr_iconst (1 : Int32) dX8_pass_100 (k := ?_)
            refine kr_goto 105 dX8_pass_101 ?_
            refine kr_sub [1, 2] [(0, .ref (kg_b G + 117)), (1, .int v1)] rfl ?_
            exact sJ_X8_pass_105 ho ih hKx112 v1 ((26 : Int32) + v1) (1 : Int32) M21 h30
        · have h16 := h12.2 c14
          refine kr_aload_n 1 dX8_pass_32 rfl (k := ?_)
          refine kr_aload_n 1 dX8_pass_33 rfl (k := ?_)
          refine kr_getR 6 ckX8 lkF_X8_19 rfl (kg_o8a ho) (kg_o8n ho) (kg_o8r6 ho) dX8_pass_34 (k := ?_)
          refine kr_iload_n 0 dX8_pass_37 rfl (k := ?_)
          obtain ⟨h37, h38⟩ := h16
          refine kr_iald (kg_o8s6 ho) (kg_o8m6 ho) h37 dX8_pass_38 (k := ?_)
          refine kr_aload_n 1 dX8_pass_39 rfl (k := ?_)
          refine kr_getR 7 ckX8 lkF_X8_22 rfl (kg_o8a ho) (kg_o8n ho) (kg_o8r7 ho) dX8_pass_40 (k := ?_)
          refine kr_iload_n 0 dX8_pass_43 rfl (k := ?_)
          obtain ⟨h39, h40⟩ := h38
          refine kr_iald (kg_o8s7 ho) (kg_o8m7 ho) h39 dX8_pass_44 (k := ?_)
          refine kn_callVv [.int (M11 121 r13.toNatClampNeg), .int (M11 122 r13.toNatClampNeg)] [] mvX8_meet lkM_X8_203 (kg_o8a ho) rfl (kg_o8n ho) dX8_pass_45 (sp_X8_meet ho h40) (fun M41 h42 => ?_)
          refine kr_aload_n 1 dX8_pass_48 rfl (k := ?_)
          refine kr_getR 4 ckX8 lkF_X8_16 rfl (kg_o8a ho) (kg_o8n ho) (kg_o8r4 ho) dX8_pass_49 (k := ?_)
          refine kr_bipush (21 : Int32) dX8_pass_52 (k := ?_)
          refine kr_iload_n 2 dX8_pass_54 rfl (k := ?_)
          refine kr_iadd dX8_pass_55 (k := ?_)
          refine kr_iconst (0 : Int32) dX8_pass_56 (k := ?_)
          obtain ⟨h44, h45⟩ := h42
          refine kn_iast (kg_o8s4 ho) (kg_o8m4 ho) h44 dX8_pass_57 (fun M46 e47 => ?_)
          have h48 := h45 M46 e47
          refine kr_goto 106 dX8_pass_58 ?_
          refine kr_iinc (1 : Int32) 2 [(1, .int (v1 + (1 : Int32))), (2, .int r13), (0, .ref (kg_b G + 117))] dX8_pass_106 rfl (k := ?_)
          refine kr_goto 2 dX8_pass_109 ?_
          refine kr_sub [2, 0] [(0, .ref (kg_b G + 117)), (1, .int (v1 + (1 : Int32)))] rfl ?_
          exact ih (v1 + (1 : Int32)) M46 h48
set_option maxRecDepth 100000 in
set_option maxHeartbeats 4000000 in
theorem sp_X8_pass {G : kg_G} {E : State → Array Value → Prop} {R : kg_R} {n : Nat} {K : kg_M → Prop} (ho : kg_O8 R n 117) {M : kg_M} (h1 : wp_X8_pass  M K) : kg_Run G E qX8_pass 3 0 [(0, .ref (kg_b G + 117))] [] M R n 0 0 (kg_V R n K) := by
  unfold wp_X8_pass at h1
  refine kr_iconst (0 : Int32) dX8_pass_0 (k := ?_)
  refine kr_istore_n [(1, .int (0 : Int32)), (0, .ref (kg_b G + 117))] dX8_pass_1 (k := ?_)
  refine kr_sub [1, 0] [(0, .ref (kg_b G + 117)), (1, .int (0 : Int32))] rfl ?_
  obtain ⟨f57, h58⟩ := h1
  refine sL_X8_pass_2 ho ?_ f57 (0 : Int32) M h58
  · intro  M h49
    refine kr_aload_n 0 dX8_pass_112 rfl (k := ?_)
    refine kr_getR 4 ckX8 lkF_X8_16 rfl (kg_o8a ho) (kg_o8n ho) (kg_o8r4 ho) dX8_pass_113 (k := ?_)
    refine kr_bipush (31 : Int32) dX8_pass_116 (k := ?_)
    refine kr_dup2 dX8_pass_118 (k := ?_)
    obtain ⟨h50, h51⟩ := h49
    refine kr_iald (kg_o8s4 ho) (kg_o8m4 ho) h50 dX8_pass_119 (k := ?_)
    refine kr_iconst (1 : Int32) dX8_pass_120 (k := ?_)
    refine kr_iadd dX8_pass_121 (k := ?_)
    obtain ⟨h52, h53⟩ := h51
    refine kn_iast (kg_o8s4 ho) (kg_o8m4 ho) h52 dX8_pass_122 (fun M54 e55 => ?_)
    have h56 := h53 M54 e55
    exact kr_return dX8_pass_123 ⟨rfl, rfl, rfl, h56⟩
set_option maxRecDepth 100000 in
set_option maxHeartbeats 4000000 in
theorem sJ_X8_drift_34 {G : kg_G} {E : State → Array Value → Prop} {R : kg_R} {n : Nat} {K : Int32 → kg_M → Prop} (ho : kg_O8 R n 117) {Kb : Int32 → Int32 → kg_M → Prop} {Kx44 : kg_M → Prop} (hKb : ∀ (v1 : Int32) (v3 : Int32) (M : kg_M), Kb v1 v3 M → kg_Run G E qX8_drift 4 18 [(0, .ref (kg_b G + 117)), (1, .int v1), (3, .int v3)] [] M R n 0 0 (kg_I R n K)) (hKx44 : ∀ (M : kg_M), Kx44 M → kg_Run G E qX8_drift 4 44 [(0, .ref (kg_b G + 117))] [] M R n 0 0 (kg_I R n K)) (v1 : Int32) (v3 : Int32) (M : kg_M) (h18 : wJ_X8_drift_34  Kb Kx44 K v1 v3 M) : kg_Run G E qX8_drift 4 34 [(0, .ref (kg_b G + 117)), (1, .int v1), (3, .int v3)] [] M R n 0 0 (kg_I R n K) := by
  unfold wJ_X8_drift_34 at h18
  refine kr_aload_n 0 dX8_drift_34 rfl (k := ?_)
  refine kn_callVv [] [] mvX8_pass lkM_X8_216 (kg_o8a ho) rfl (kg_o8n ho) dX8_drift_35 (sp_X8_pass ho h18) (fun M19 h20 => ?_)
  refine kr_iinc (1 : Int32) 2 [(3, .int (v3 + (1 : Int32))), (0, .ref (kg_b G + 117)), (1, .int v1)] dX8_drift_38 rfl (k := ?_)
  refine kr_goto 18 dX8_drift_41 ?_
  refine kr_sub [1, 2, 0] [(0, .ref (kg_b G + 117)), (1, .int v1), (3, .int (v3 + (1 : Int32)))] rfl ?_
  exact hKb v1 (v3 + (1 : Int32)) M19 h20
set_option maxRecDepth 100000 in
set_option maxHeartbeats 4000000 in
theorem sL_X8_drift_18 {G : kg_G} {E : State → Array Value → Prop} {R : kg_R} {n : Nat} {K : Int32 → kg_M → Prop} (ho : kg_O8 R n 117) {Kx44 : kg_M → Prop} (hKx44 : ∀ (M : kg_M), Kx44 M → kg_Run G E qX8_drift 4 44 [(0, .ref (kg_b G + 117))] [] M R n 0 0 (kg_I R n K)) : ∀ (f : Nat) (v1 : Int32) (v3 : Int32) (M : kg_M), wL_X8_drift_18  Kx44 K f v1 v3 M → kg_Run G E qX8_drift 4 18 [(0, .ref (kg_b G + 117)), (1, .int v1), (3, .int v3)] [] M R n 0 0 (kg_I R n K) := by
  intro f
  induction f with
  | zero => intro v1 v3 M h0; exact h0.elim
  | succ f ih =>
    intro v1 v3 M h11
    rw [wL_X8_drift_18] at h11
    refine kr_iload_n 2 dX8_drift_18 rfl (k := ?_)
    refine kr_iload_n 1 dX8_drift_19 rfl (k := ?_)
    refine kr_icmp_ge 44 dX8_drift_20 (fun c12 => ?_) (fun c12 => ?_)
    · have h13 := h11.1 c12
      refine kr_sub [0] [(0, .ref (kg_b G + 117))] rfl ?_
      exact hKx44  M h13
    · have h14 := h11.2 c12
      refine kr_aload_n 0 dX8_drift_23 rfl (k := ?_)
      refine kr_getI 2 ckX8 lkF_X8_94 rfl (kg_o8a ho) (kg_o8n ho) dX8_drift_24 (k := ?_)
      refine kr_if_le 34 dX8_drift_27 (fun c15 => ?_) (fun c15 => ?_)
      · have h16 := h14.1 c15
        refine kr_sub [0, 1, 2] [(0, .ref (kg_b G + 117)), (1, .int v1), (3, .int v3)] rfl ?_
        exact sJ_X8_drift_34 ho ih hKx44 v1 v3 M h16
      · have h17 := h14.2 c15
        refine kr_aload_n 0 dX8_drift_30 rfl (k := ?_)
        refine kn_callVv [] [] mvX8_chance lkM_X8_235 (kg_o8a ho) rfl (kg_o8n ho) dX8_drift_31 (sp_X8_chance ho h17) (fun M22 h23 => ?_)
        refine kr_sub [0, 1, 2] [(0, .ref (kg_b G + 117)), (1, .int v1), (3, .int v3)] rfl ?_
        exact sJ_X8_drift_34 ho ih hKx44 v1 v3 M22 h23
set_option maxRecDepth 100000 in
set_option maxHeartbeats 4000000 in
theorem sp_X8_drift {G : kg_G} {E : State → Array Value → Prop} {R : kg_R} {n : Nat} {K : Int32 → kg_M → Prop} (ho : kg_O8 R n 117) {v1 : Int32} {M : kg_M} (h1 : wp_X8_drift v1 M K) : kg_Run G E qX8_drift 4 0 [(0, .ref (kg_b G + 117)), (1, .int v1)] [] M R n 0 0 (kg_I R n K) := by
  unfold wp_X8_drift at h1
  refine kr_aload_n 0 dX8_drift_0 rfl (k := ?_)
  refine kr_iload_n 1 dX8_drift_1 rfl (k := ?_)
  refine kn_callVi [.int v1] [] mvX8_hoursRefused lkM_X8_210 (kg_o8a ho) rfl (kg_o8n ho) dX8_drift_2 (sp_X8_hoursRefused ho h1) (fun r4 M2 h3 => ?_)
  refine kr_istore_n [(2, .int r4), (0, .ref (kg_b G + 117)), (1, .int v1)] dX8_drift_5 (k := ?_)
  refine kr_iload_n 0 dX8_drift_6 rfl (k := ?_)
  refine kr_if_eq 12 dX8_drift_7 (fun c5 => ?_) (fun c5 => ?_)
  · have h6 := h3.1 c5
    refine kr_aload_n 1 dX8_drift_12 rfl (k := ?_)
    refine kn_callVv [] [] mvX8_remember lkM_X8_213 (kg_o8a ho) rfl (kg_o8n ho) dX8_drift_13 (sp_X8_remember ho h6) (fun M8 h9 => ?_)
    refine kr_iconst (0 : Int32) dX8_drift_16 (k := ?_)
    refine kr_istore_n [(3, .int (0 : Int32)), (2, .int r4), (0, .ref (kg_b G + 117)), (1, .int v1)] dX8_drift_17 (k := ?_)
    refine kr_sub [2, 3, 0] [(0, .ref (kg_b G + 117)), (1, .int v1), (3, .int (0 : Int32))] rfl ?_
    obtain ⟨f28, h29⟩ := h9
    refine sL_X8_drift_18 ho ?_ f28 v1 (0 : Int32) M8 h29
    · intro  M h25
      refine kr_aload_n 0 dX8_drift_44 rfl (k := ?_)
      refine kr_getR 4 ckX8 lkF_X8_16 rfl (kg_o8a ho) (kg_o8n ho) (kg_o8r4 ho) dX8_drift_45 (k := ?_)
      refine kr_bipush (32 : Int32) dX8_drift_48 (k := ?_)
      obtain ⟨h26, h27⟩ := h25
      refine kr_iald (kg_o8s4 ho) (kg_o8m4 ho) h26 dX8_drift_50 (k := ?_)
      exact kr_ireturn dX8_drift_51 ⟨rfl, rfl, _, rfl, h27⟩
  · have h7 := h3.2 c5
    refine kr_iload_n 0 dX8_drift_10 rfl (k := ?_)
    exact kr_ireturn dX8_drift_11 ⟨rfl, rfl, _, rfl, h7⟩
set_option maxRecDepth 100000 in
set_option maxHeartbeats 4000000 in
theorem sL_X8_dry_34 {G : kg_G} {E : State → Array Value → Prop} {R : kg_R} {n : Nat} {K : Int32 → kg_M → Prop} (ho : kg_O8 R n 117) {Kx58 : Int64 → kg_M → Prop} (hKx58 : ∀ (v3 : Int64) (M : kg_M), Kx58 v3 M → kg_Run G E qX8_dry 1 58 [(3, .long v3)] [] M R n 0 0 (kg_I R n K)) : ∀ (f : Nat) (v1 : Int32) (v2 : Int32) (v3 : Int64) (v5 : Int32) (M : kg_M), wL_X8_dry_34  Kx58 K f v1 v2 v3 v5 M → kg_Run G E qX8_dry 1 34 [(1, .int v1), (2, .int v2), (3, .long v3), (5, .int v5)] [] M R n 0 0 (kg_I R n K) := by
  intro f
  induction f with
  | zero => intro v1 v2 v3 v5 M h0; exact h0.elim
  | succ f ih =>
    intro v1 v2 v3 v5 M h14
    rw [wL_X8_dry_34] at h14
    refine kr_iload 3 dX8_dry_34 rfl (k := ?_)
    refine kr_iload_n 0 dX8_dry_36 rfl (k := ?_)
    refine kr_icmp_ge 58 dX8_dry_37 (fun c15 => ?_) (fun c15 => ?_)
    · have h16 := h14.1 c15
      refine kr_sub [2] [(3, .long v3)] rfl ?_
      exact hKx58 v3 M h16
    · have h17 := h14.2 c15
      refine kr_lload_n 2 dX8_dry_40 rfl (k := ?_)
      refine kr_bipush (100 : Int32) dX8_dry_41 (k := ?_)
      refine kr_iload_n 1 dX8_dry_43 rfl (k := ?_)
      refine kr_isub dX8_dry_44 (k := ?_)
      refine kr_i2l dX8_dry_45 (k := ?_)
      refine kr_lmul dX8_dry_46 (k := ?_)
      refine kr_ldc2 dX8_dry_47 lkD_X8_302 (k := ?_)
      refine kr_ldiv dX8_dry_50 (by decide) (k := ?_)
      refine kr_lstore_n [(3, .long ((v3 * (((100 : Int32) - v2).toInt64)) / (100 : Int64))), (1, .int v1), (2, .int v2), (5, .int v5)] dX8_dry_51 (k := ?_)
      refine kr_iinc (1 : Int32) 3 [(5, .int (v5 + (1 : Int32))), (3, .long ((v3 * (((100 : Int32) - v2).toInt64)) / (100 : Int64))), (1, .int v1), (2, .int v2)] dX8_dry_52 rfl (k := ?_)
      refine kr_goto 34 dX8_dry_55 ?_
      refine kr_sub [2, 3, 1, 0] [(1, .int v1), (2, .int v2), (3, .long ((v3 * (((100 : Int32) - v2).toInt64)) / (100 : Int64))), (5, .int (v5 + (1 : Int32)))] rfl ?_
      exact ih v1 v2 ((v3 * (((100 : Int32) - v2).toInt64)) / (100 : Int64)) (v5 + (1 : Int32)) M h17
set_option maxRecDepth 100000 in
set_option maxHeartbeats 4000000 in
theorem sp_X8_dry {G : kg_G} {E : State → Array Value → Prop} {R : kg_R} {n : Nat} {K : Int32 → kg_M → Prop} (ho : kg_O8 R n 117) {v1 : Int32} {v2 : Int32} {M : kg_M} (h1 : wp_X8_dry v1 v2 M K) : kg_Run G E qX8_dry 1 0 [(0, .ref (kg_b G + 117)), (1, .int v1), (2, .int v2)] [] M R n 0 0 (kg_I R n K) := by
  unfold wp_X8_dry at h1
  refine kr_iload_n 1 dX8_dry_0 rfl (k := ?_)
  refine kr_i2l dX8_dry_1 (k := ?_)
  refine kr_lconst (0 : Int64) dX8_dry_2 (k := ?_)
  refine kr_ldc2 dX8_dry_3 lkD_X8_207 (k := ?_)
  refine kn_callSz [.long v1.toInt64, .long (0 : Int64), .long (60 : Int64)] [] msX8_in lkM_X8_90 dX8_dry_6 (sp_X8_in  h1) (fun r4 M2 _ h3 => ?_)
  refine kr_if_eq 24 dX8_dry_9 (fun c5 => ?_) (fun c5 => ?_)
  · have h6 := h3.1 c5
    refine kr_ldc dX8_dry_24 lkC_X8_99 (k := ?_)
    exact kr_ireturn dX8_dry_26 ⟨rfl, rfl, _, rfl, h6⟩
  · have h7 := h3.2 c5
    refine kr_iload_n 2 dX8_dry_12 rfl (k := ?_)
    refine kr_i2l dX8_dry_13 (k := ?_)
    refine kr_lconst (0 : Int64) dX8_dry_14 (k := ?_)
    refine kr_ldc2 dX8_dry_15 lkD_X8_302 (k := ?_)
    refine kn_callSz [.long v2.toInt64, .long (0 : Int64), .long (100 : Int64)] [] msX8_in lkM_X8_90 dX8_dry_18 (sp_X8_in  h7) (fun r10 M8 _ h9 => ?_)
    refine kr_if_ne 27 dX8_dry_21 (fun c11 => ?_) (fun c11 => ?_)
    · have h12 := h9.1 c11
      refine kr_ldc2 dX8_dry_27 lkD_X8_304 (k := ?_)
      refine kr_lstore_n [(3, .long (1000000000 : Int64)), (0, .ref (kg_b G + 117)), (1, .int v1), (2, .int v2)] dX8_dry_30 (k := ?_)
      refine kr_iconst (0 : Int32) dX8_dry_31 (k := ?_)
      refine kr_istore [(5, .int (0 : Int32)), (3, .long (1000000000 : Int64)), (0, .ref (kg_b G + 117)), (1, .int v1), (2, .int v2)] dX8_dry_32 (k := ?_)
      refine kr_sub [3, 4, 1, 0] [(1, .int v1), (2, .int v2), (3, .long (1000000000 : Int64)), (5, .int (0 : Int32))] rfl ?_
      obtain ⟨f19, h20⟩ := h12
      refine sL_X8_dry_34 ho ?_ f19 v1 v2 (1000000000 : Int64) (0 : Int32) M8 h20
      · intro v3 M h18
        refine kr_lload_n 0 dX8_dry_58 rfl (k := ?_)
        refine kr_l2i dX8_dry_59 (k := ?_)
        exact kr_ireturn dX8_dry_60 ⟨rfl, rfl, _, rfl, h18⟩
    · have h13 := h9.2 c11
      refine kr_ldc dX8_dry_24 lkC_X8_99 (k := ?_)
      exact kr_ireturn dX8_dry_26 ⟨rfl, rfl, _, rfl, h13⟩
set_option maxRecDepth 100000 in
set_option maxHeartbeats 4000000 in
theorem sL_X8_whomWould_4 {G : kg_G} {E : State → Array Value → Prop} {R : kg_R} {n : Nat} {K : Int32 → kg_M → Prop} (ho : kg_O8 R n 117) {Kx42 : Int32 → kg_M → Prop} (hKx42 : ∀ (v2 : Int32) (M : kg_M), Kx42 v2 M → kg_Run G E qX8_whomWould 2 42 [(2, .int v2)] [] M R n 0 0 (kg_I R n K)) : ∀ (f : Nat) (v1 : Int32) (v2 : Int32) (v3 : Int32) (M : kg_M), wL_X8_whomWould_4  Kx42 K f v1 v2 v3 M → kg_Run G E qX8_whomWould 2 4 [(0, .ref (kg_b G + 117)), (1, .int v1), (2, .int v2), (3, .int v3)] [] M R n 0 0 (kg_I R n K) := by
  intro f
  induction f with
  | zero => intro v1 v2 v3 M h0; exact h0.elim
  | succ f ih =>
    intro v1 v2 v3 M h2
    rw [wL_X8_whomWould_4] at h2
    refine kr_iload_n 3 dX8_whomWould_4 rfl (k := ?_)
    refine kr_aload_n 0 dX8_whomWould_5 rfl (k := ?_)
    refine kr_getI 2 ckX8 lkF_X8_94 rfl (kg_o8a ho) (kg_o8n ho) dX8_whomWould_6 (k := ?_)
    refine kr_icmp_ge 42 dX8_whomWould_9 (fun c3 => ?_) (fun c3 => ?_)
    · have h4 := h2.1 c3
      refine kr_sub [2] [(2, .int v2)] rfl ?_
      exact hKx42 v2 M h4
    · have h5 := h2.2 c3
      refine kr_iload_n 2 dX8_whomWould_12 rfl (k := ?_)
      refine kr_iload_n 3 dX8_whomWould_13 rfl (k := ?_)
      refine kr_iload_n 1 dX8_whomWould_14 rfl (k := ?_)
      refine kr_icmp_eq 33 dX8_whomWould_15 (fun c6 => ?_) (fun c6 => ?_)
      · have h7 := h5.1 c6
        refine kr_iconst (0 : Int32) dX8_whomWould_33 (k := ?_)
        refine kr_ior dX8_whomWould_34 (k := ?_)
        refine kr_istore_n [(2, .int (v2 ||| (0 : Int32))), (0, .ref (kg_b G + 117)), (1, .int v1), (3, .int v3)] dX8_whomWould_35 (k := ?_)
        refine kr_iinc (1 : Int32) 3 [(3, .int (v3 + (1 : Int32))), (2, .int (v2 ||| (0 : Int32))), (0, .ref (kg_b G + 117)), (1, .int v1)] dX8_whomWould_36 rfl (k := ?_)
        refine kr_goto 4 dX8_whomWould_39 ?_
        refine kr_sub [2, 3, 1, 0] [(0, .ref (kg_b G + 117)), (1, .int v1), (2, .int (v2 ||| (0 : Int32))), (3, .int (v3 + (1 : Int32)))] rfl ?_
        exact ih v1 (v2 ||| (0 : Int32)) (v3 + (1 : Int32)) M h7
      · have h8 := h5.2 c6
        refine kr_aload_n 0 dX8_whomWould_18 rfl (k := ?_)
        refine kr_iload_n 1 dX8_whomWould_19 rfl (k := ?_)
        refine kr_iload_n 3 dX8_whomWould_20 rfl (k := ?_)
        refine kn_callVz [.int v1, .int v3] [.int v2] mvX8_would lkM_X8_166 (kg_o8a ho) rfl (kg_o8n ho) dX8_whomWould_21 (sp_X8_would ho h8) (fun r11 M9 _ h10 => ?_)
        refine kr_if_eq 33 dX8_whomWould_24 (fun c12 => ?_) (fun c12 => ?_)
        · have h13 := h10.1 c12
          refine kr_iconst (0 : Int32) dX8_whomWould_33 (k := ?_)
          refine kr_ior dX8_whomWould_34 (k := ?_)
          refine kr_istore_n [(2, .int (v2 ||| (0 : Int32))), (0, .ref (kg_b G + 117)), (1, .int v1), (3, .int v3)] dX8_whomWould_35 (k := ?_)
          refine kr_iinc (1 : Int32) 3 [(3, .int (v3 + (1 : Int32))), (2, .int (v2 ||| (0 : Int32))), (0, .ref (kg_b G + 117)), (1, .int v1)] dX8_whomWould_36 rfl (k := ?_)
          refine kr_goto 4 dX8_whomWould_39 ?_
          refine kr_sub [2, 3, 1, 0] [(0, .ref (kg_b G + 117)), (1, .int v1), (2, .int (v2 ||| (0 : Int32))), (3, .int (v3 + (1 : Int32)))] rfl ?_
          exact ih v1 (v2 ||| (0 : Int32)) (v3 + (1 : Int32)) M9 h13
        · have h14 := h10.2 c12
          refine kr_iconst (1 : Int32) dX8_whomWould_27 (k := ?_)
          refine kr_iload_n 3 dX8_whomWould_28 rfl (k := ?_)
          refine kr_ishl dX8_whomWould_29 (k := ?_)
          refine kr_goto 34 dX8_whomWould_30 ?_
          refine kr_ior dX8_whomWould_34 (k := ?_)
          refine kr_istore_n [(2, .int (v2 ||| ((1 : Int32) <<< (v3 &&& 31)))), (0, .ref (kg_b G + 117)), (1, .int v1), (3, .int v3)] dX8_whomWould_35 (k := ?_)
          refine kr_iinc (1 : Int32) 3 [(3, .int (v3 + (1 : Int32))), (2, .int (v2 ||| ((1 : Int32) <<< (v3 &&& 31)))), (0, .ref (kg_b G + 117)), (1, .int v1)] dX8_whomWould_36 rfl (k := ?_)
          refine kr_goto 4 dX8_whomWould_39 ?_
          refine kr_sub [2, 3, 1, 0] [(0, .ref (kg_b G + 117)), (1, .int v1), (2, .int (v2 ||| ((1 : Int32) <<< (v3 &&& 31)))), (3, .int (v3 + (1 : Int32)))] rfl ?_
          exact ih v1 (v2 ||| ((1 : Int32) <<< (v3 &&& 31))) (v3 + (1 : Int32)) M9 h14
set_option maxRecDepth 100000 in
set_option maxHeartbeats 4000000 in
theorem sp_X8_whomWould {G : kg_G} {E : State → Array Value → Prop} {R : kg_R} {n : Nat} {K : Int32 → kg_M → Prop} (ho : kg_O8 R n 117) {v1 : Int32} {M : kg_M} (h1 : wp_X8_whomWould v1 M K) : kg_Run G E qX8_whomWould 2 0 [(0, .ref (kg_b G + 117)), (1, .int v1)] [] M R n 0 0 (kg_I R n K) := by
  unfold wp_X8_whomWould at h1
  refine kr_iconst (0 : Int32) dX8_whomWould_0 (k := ?_)
  refine kr_istore_n [(2, .int (0 : Int32)), (0, .ref (kg_b G + 117)), (1, .int v1)] dX8_whomWould_1 (k := ?_)
  refine kr_iconst (0 : Int32) dX8_whomWould_2 (k := ?_)
  refine kr_istore_n [(3, .int (0 : Int32)), (2, .int (0 : Int32)), (0, .ref (kg_b G + 117)), (1, .int v1)] dX8_whomWould_3 (k := ?_)
  refine kr_sub [2, 3, 1, 0] [(0, .ref (kg_b G + 117)), (1, .int v1), (2, .int (0 : Int32)), (3, .int (0 : Int32))] rfl ?_
  obtain ⟨f16, h17⟩ := h1
  refine sL_X8_whomWould_4 ho ?_ f16 v1 (0 : Int32) (0 : Int32) M h17
  · intro v2 M h15
    refine kr_iload_n 0 dX8_whomWould_42 rfl (k := ?_)
    exact kr_ireturn dX8_whomWould_43 ⟨rfl, rfl, _, rfl, h15⟩
set_option maxRecDepth 100000 in
set_option maxHeartbeats 4000000 in
theorem sp_X8_evening {G : kg_G} {E : State → Array Value → Prop} {R : kg_R} {n : Nat} {K : Int32 → kg_M → Prop} (ho : kg_O8 R n 117) {v1 : Int32} {M : kg_M} (h1 : wp_X8_evening v1 M K) : kg_Run G E qX8_evening 3 0 [(0, .ref (kg_b G + 117)), (1, .int v1)] [] M R n 0 0 (kg_I R n K) := by
  unfold wp_X8_evening at h1
  refine kr_aload_n 0 dX8_evening_0 rfl (k := ?_)
  refine kr_iload_n 1 dX8_evening_1 rfl (k := ?_)
  refine kn_callVz [.int v1] [] mvX8_isPerson lkM_X8_187 (kg_o8a ho) rfl (kg_o8n ho) dX8_evening_2 (sp_X8_isPerson ho h1) (fun r4 M2 _ h3 => ?_)
  refine kr_if_ne 11 dX8_evening_5 (fun c5 => ?_) (fun c5 => ?_)
  · have h6 := h3.1 c5
    refine kr_aload_n 0 dX8_evening_11 rfl (k := ?_)
    refine kr_getR 4 ckX8 lkF_X8_16 rfl (kg_o8a ho) (kg_o8n ho) (kg_o8r4 ho) dX8_evening_12 (k := ?_)
    refine kr_bipush (7 : Int32) dX8_evening_15 (k := ?_)
    refine kr_iload_n 1 dX8_evening_17 rfl (k := ?_)
    refine kr_iadd dX8_evening_18 (k := ?_)
    obtain ⟨h8, h9⟩ := h6
    refine kr_iald (kg_o8s4 ho) (kg_o8m4 ho) h8 dX8_evening_19 (k := ?_)
    refine kr_if_ge 26 dX8_evening_20 (fun c10 => ?_) (fun c10 => ?_)
    · have h11 := h9.1 c10
      refine kr_bipush (10 : Int32) dX8_evening_26 (k := ?_)
      refine kr_aload_n 0 dX8_evening_28 rfl (k := ?_)
      refine kr_iload_n 1 dX8_evening_29 rfl (k := ?_)
      refine kn_callVi [.int v1] [.int (10 : Int32)] mvX8_whomWould lkM_X8_190 (kg_o8a ho) rfl (kg_o8n ho) dX8_evening_30 (sp_X8_whomWould ho h11) (fun r15 M13 h14 => ?_)
      refine kr_aload_n 0 dX8_evening_33 rfl (k := ?_)
      refine kr_aload_n 0 dX8_evening_34 rfl (k := ?_)
      refine kr_getR 4 ckX8 lkF_X8_16 rfl (kg_o8a ho) (kg_o8n ho) (kg_o8r4 ho) dX8_evening_35 (k := ?_)
      refine kr_bipush (7 : Int32) dX8_evening_38 (k := ?_)
      refine kr_iload_n 1 dX8_evening_40 rfl (k := ?_)
      refine kr_iadd dX8_evening_41 (k := ?_)
      obtain ⟨h16, h17⟩ := h14
      refine kr_iald (kg_o8s4 ho) (kg_o8m4 ho) h16 dX8_evening_42 (k := ?_)
      refine kn_callVi [.int (M13 120 ((7 : Int32) + v1).toNatClampNeg)] [.int r15, .int (10 : Int32)] mvX8_waitingAt lkM_X8_184 (kg_o8a ho) rfl (kg_o8n ho) dX8_evening_43 (sp_X8_waitingAt ho h17) (fun r20 M18 h19 => ?_)
      refine kr_iand dX8_evening_46 (k := ?_)
      refine kn_callSi [.int (r15 &&& r20)] [.int (10 : Int32)] msX8_bits lkM_X8_238 dX8_evening_47 (sp_X8_bits  h19) (fun r23 M21 h22 => ?_)
      refine kr_isub dX8_evening_50 (k := ?_)
      exact kr_ireturn dX8_evening_51 ⟨rfl, rfl, _, rfl, h22⟩
    · have h12 := h9.2 c10
      refine kr_ldc dX8_evening_23 lkC_X8_209 (k := ?_)
      exact kr_ireturn dX8_evening_25 ⟨rfl, rfl, _, rfl, h12⟩
  · have h7 := h3.2 c5
    refine kr_ldc dX8_evening_8 lkC_X8_183 (k := ?_)
    exact kr_ireturn dX8_evening_10 ⟨rfl, rfl, _, rfl, h7⟩
set_option maxRecDepth 100000 in
set_option maxHeartbeats 4000000 in
theorem sp_X8_fault {G : kg_G} {E : State → Array Value → Prop} {R : kg_R} {n : Nat} {K : Int32 → kg_M → Prop} (ho : kg_O8 R n 117) {M : kg_M} (h1 : wp_X8_fault  M K) : kg_Run G E qX8_fault 0 0 [(0, .ref (kg_b G + 117))] [] M R n 0 0 (kg_I R n K) := by
  unfold wp_X8_fault at h1
  refine kr_aload_n 0 dX8_fault_0 rfl (k := ?_)
  refine kr_getI 10 ckX8 lkF_X8_28 rfl (kg_o8a ho) (kg_o8n ho) dX8_fault_1 (k := ?_)
  exact kr_ireturn dX8_fault_4 ⟨rfl, rfl, _, rfl, h1⟩
set_option maxRecDepth 100000 in
set_option maxHeartbeats 4000000 in
theorem sp_X8_feed {G : kg_G} {E : State → Array Value → Prop} {R : kg_R} {n : Nat} {K : Int32 → kg_M → Prop} (ho : kg_O8 R n 117) {v1 : Int32} {M : kg_M} (h1 : wp_X8_feed v1 M K) : kg_Run G E qX8_feed 1 0 [(0, .ref (kg_b G + 117)), (1, .int v1)] [] M R n 0 0 (kg_I R n K) := by
  unfold wp_X8_feed at h1
  refine kr_iload_n 1 dX8_feed_0 rfl (k := ?_)
  refine kr_i2l dX8_feed_1 (k := ?_)
  refine kr_lconst (0 : Int64) dX8_feed_2 (k := ?_)
  refine kr_ldc2 dX8_feed_3 lkD_X8_97 (k := ?_)
  refine kn_callSz [.long v1.toInt64, .long (0 : Int64), .long (255 : Int64)] [] msX8_in lkM_X8_90 dX8_feed_6 (sp_X8_in  h1) (fun r4 M2 _ h3 => ?_)
  refine kr_if_ne 15 dX8_feed_9 (fun c5 => ?_) (fun c5 => ?_)
  · have h6 := h3.1 c5
    refine kr_aload_n 0 dX8_feed_15 rfl (k := ?_)
    refine kr_getI 9 ckX8 lkF_X8_100 rfl (kg_o8a ho) (kg_o8n ho) dX8_feed_16 (k := ?_)
    refine kr_sipush (240 : Int32) dX8_feed_19 (k := ?_)
    refine kr_icmp_ne 28 dX8_feed_22 (fun c8 => ?_) (fun c8 => ?_)
    · have h9 := h6.1 c8
      refine kr_aload_n 0 dX8_feed_28 rfl (k := ?_)
      refine kr_getR 8 ckX8 lkF_X8_25 rfl (kg_o8a ho) (kg_o8n ho) (kg_o8r8 ho) dX8_feed_29 (k := ?_)
      refine kr_aload_n 0 dX8_feed_32 rfl (k := ?_)
      refine kr_getI 9 ckX8 lkF_X8_100 rfl (kg_o8a ho) (kg_o8n ho) dX8_feed_33 (k := ?_)
      refine kr_iload_n 1 dX8_feed_36 rfl (k := ?_)
      obtain ⟨h11, h12⟩ := h9
      refine kn_iast (kg_o8s8 ho) (kg_o8m8 ho) h11 dX8_feed_37 (fun M13 e14 => ?_)
      have h15 := h12 M13 e14
      refine kr_aload_n 0 dX8_feed_38 rfl (k := ?_)
      refine kr_dup dX8_feed_39 (k := ?_)
      refine kr_getI 9 ckX8 lkF_X8_100 rfl (kg_o8a ho) (kg_o8n ho) dX8_feed_40 (k := ?_)
      refine kr_iconst (1 : Int32) dX8_feed_43 (k := ?_)
      refine kr_iadd dX8_feed_44 (k := ?_)
      refine kn_putI 9 ckX8 lkF_X8_100 rfl rfl rfl rfl (kg_o8a ho) (kg_o8n ho) dX8_feed_45 (fun M16 e17 => ?_)
      have h18 := h15 M16 e17
      refine kr_aload_n 0 dX8_feed_48 rfl (k := ?_)
      refine kr_getI 9 ckX8 lkF_X8_100 rfl (kg_o8a ho) (kg_o8n ho) dX8_feed_49 (k := ?_)
      exact kr_ireturn dX8_feed_52 ⟨rfl, rfl, _, rfl, h18⟩
    · have h10 := h6.2 c8
      refine kr_ldc dX8_feed_25 lkC_X8_103 (k := ?_)
      exact kr_ireturn dX8_feed_27 ⟨rfl, rfl, _, rfl, h10⟩
  · have h7 := h3.2 c5
    refine kr_ldc dX8_feed_12 lkC_X8_99 (k := ?_)
    exact kr_ireturn dX8_feed_14 ⟨rfl, rfl, _, rfl, h7⟩
set_option maxRecDepth 100000 in
set_option maxHeartbeats 4000000 in
theorem sL_X8_findMasks_12 {G : kg_G} {E : State → Array Value → Prop} {R : kg_R} {n : Nat} {K : kg_M → Prop} (ho : kg_O8 R n 117) {Kx75 : kg_M → Prop} (hKx75 : ∀ (M : kg_M), Kx75 M → kg_Run G E qX8_findMasks 2 75 [] [] M R n 0 0 (kg_V R n K)) : ∀ (f : Nat) (v1 : Int32) (v2 : Int32) (M : kg_M), wL_X8_findMasks_12  Kx75 K f v1 v2 M → kg_Run G E qX8_findMasks 2 12 [(0, .ref (kg_b G + 117)), (1, .int v1), (2, .int v2)] [] M R n 0 0 (kg_V R n K) := by
  intro f
  induction f with
  | zero => intro v1 v2 M h0; exact h0.elim
  | succ f ih =>
    intro v1 v2 M h8
    rw [wL_X8_findMasks_12] at h8
    refine kr_iload_n 2 dX8_findMasks_12 rfl (k := ?_)
    refine kr_sipush (10648 : Int32) dX8_findMasks_13 (k := ?_)
    refine kr_icmp_ge 75 dX8_findMasks_16 (fun c9 => ?_) (fun c9 => ?_)
    · have h10 := h8.1 c9
      refine kr_sub [] [] rfl ?_
      exact hKx75  M h10
    · have h11 := h8.2 c9
      refine kr_aload_n 0 dX8_findMasks_19 rfl (k := ?_)
      refine kr_iload_n 2 dX8_findMasks_20 rfl (k := ?_)
      refine kn_callVi [.int v2] [] mvX8_choose lkM_X8_253 (kg_o8a ho) rfl (kg_o8n ho) dX8_findMasks_21 (sp_X8_choose ho h11) (fun r14 M12 h13 => ?_)
      refine kr_istore_n [(3, .int r14), (0, .ref (kg_b G + 117)), (1, .int v1), (2, .int v2)] dX8_findMasks_24 (k := ?_)
      refine kr_iload_n 0 dX8_findMasks_25 rfl (k := ?_)
      refine kr_if_le 69 dX8_findMasks_26 (fun c15 => ?_) (fun c15 => ?_)
      · have h16 := h13.1 c15
        refine kr_iinc (1 : Int32) 3 [(2, .int (v2 + (1 : Int32))), (3, .int r14), (0, .ref (kg_b G + 117)), (1, .int v1)] dX8_findMasks_69 rfl (k := ?_)
        refine kr_goto 12 dX8_findMasks_72 ?_
        refine kr_sub [2, 3, 0] [(0, .ref (kg_b G + 117)), (1, .int v1), (2, .int (v2 + (1 : Int32)))] rfl ?_
        exact ih v1 (v2 + (1 : Int32)) M12 h16
      · have h17 := h13.2 c15
        refine kr_iload_n 0 dX8_findMasks_29 rfl (k := ?_)
        refine kn_callSi [.int r14] [] msX8_bits lkM_X8_238 dX8_findMasks_30 (sp_X8_bits  h17) (fun r20 M18 h19 => ?_)
        refine kr_iconst (2 : Int32) dX8_findMasks_33 (k := ?_)
        refine kr_idiv dX8_findMasks_34 (by decide) (k := ?_)
        refine kr_iload_n 2 dX8_findMasks_35 rfl (k := ?_)
        refine kr_icmp_gt 69 dX8_findMasks_36 (fun c21 => ?_) (fun c21 => ?_)
        · have h22 := h19.1 c21
          refine kr_iinc (1 : Int32) 3 [(2, .int (v2 + (1 : Int32))), (3, .int r14), (0, .ref (kg_b G + 117)), (1, .int v1)] dX8_findMasks_69 rfl (k := ?_)
          refine kr_goto 12 dX8_findMasks_72 ?_
          refine kr_sub [2, 3, 0] [(0, .ref (kg_b G + 117)), (1, .int v1), (2, .int (v2 + (1 : Int32)))] rfl ?_
          exact ih v1 (v2 + (1 : Int32)) M18 h22
        · have h23 := h19.2 c21
          refine kr_aload_n 1 dX8_findMasks_39 rfl (k := ?_)
          refine kr_getR 27 ckX8 lkF_X8_56 rfl (kg_o8a ho) (kg_o8n ho) (kg_o8r27 ho) dX8_findMasks_40 (k := ?_)
          refine kr_aload_n 1 dX8_findMasks_43 rfl (k := ?_)
          refine kr_getI 29 ckX8 lkF_X8_266 rfl (kg_o8a ho) (kg_o8n ho) dX8_findMasks_44 (k := ?_)
          refine kr_iload_n 0 dX8_findMasks_47 rfl (k := ?_)
          obtain ⟨h24, h25⟩ := h23
          refine kn_iast (kg_o8s27 ho) (kg_o8m27 ho) h24 dX8_findMasks_48 (fun M26 e27 => ?_)
          have h28 := h25 M26 e27
          refine kr_aload_n 1 dX8_findMasks_49 rfl (k := ?_)
          refine kr_getR 28 ckX8 lkF_X8_59 rfl (kg_o8a ho) (kg_o8n ho) (kg_o8r28 ho) dX8_findMasks_50 (k := ?_)
          refine kr_aload_n 1 dX8_findMasks_53 rfl (k := ?_)
          refine kr_getI 29 ckX8 lkF_X8_266 rfl (kg_o8a ho) (kg_o8n ho) dX8_findMasks_54 (k := ?_)
          refine kr_iload_n 3 dX8_findMasks_57 rfl (k := ?_)
          obtain ⟨h29, h30⟩ := h28
          refine kn_iast (kg_o8s28 ho) (kg_o8m28 ho) h29 dX8_findMasks_58 (fun M31 e32 => ?_)
          have h33 := h30 M31 e32
          refine kr_aload_n 1 dX8_findMasks_59 rfl (k := ?_)
          refine kr_dup dX8_findMasks_60 (k := ?_)
          refine kr_getI 29 ckX8 lkF_X8_266 rfl (kg_o8a ho) (kg_o8n ho) dX8_findMasks_61 (k := ?_)
          refine kr_iconst (1 : Int32) dX8_findMasks_64 (k := ?_)
          refine kr_iadd dX8_findMasks_65 (k := ?_)
          refine kn_putI 29 ckX8 lkF_X8_266 rfl rfl rfl rfl (kg_o8a ho) (kg_o8n ho) dX8_findMasks_66 (fun M34 e35 => ?_)
          have h36 := h33 M34 e35
          refine kr_iinc (1 : Int32) 3 [(2, .int (v2 + (1 : Int32))), (3, .int r14), (0, .ref (kg_b G + 117)), (1, .int v1)] dX8_findMasks_69 rfl (k := ?_)
          refine kr_goto 12 dX8_findMasks_72 ?_
          refine kr_sub [2, 3, 0] [(0, .ref (kg_b G + 117)), (1, .int v1), (2, .int (v2 + (1 : Int32)))] rfl ?_
          exact ih v1 (v2 + (1 : Int32)) M34 h36
set_option maxRecDepth 100000 in
set_option maxHeartbeats 4000000 in
theorem sp_X8_findMasks {G : kg_G} {E : State → Array Value → Prop} {R : kg_R} {n : Nat} {K : kg_M → Prop} (ho : kg_O8 R n 117) {M : kg_M} (h1 : wp_X8_findMasks  M K) : kg_Run G E qX8_findMasks 2 0 [(0, .ref (kg_b G + 117))] [] M R n 0 0 (kg_V R n K) := by
  unfold wp_X8_findMasks at h1
  refine kr_aload_n 0 dX8_findMasks_0 rfl (k := ?_)
  refine kr_iconst (0 : Int32) dX8_findMasks_1 (k := ?_)
  refine kn_putI 29 ckX8 lkF_X8_266 rfl rfl rfl rfl (kg_o8a ho) (kg_o8n ho) dX8_findMasks_2 (fun M2 e3 => ?_)
  have h4 := h1 M2 e3
  refine kr_aload_n 0 dX8_findMasks_5 rfl (k := ?_)
  refine kn_callVi [] [] mvX8_openGates lkM_X8_250 (kg_o8a ho) rfl (kg_o8n ho) dX8_findMasks_6 (sp_X8_openGates ho h4) (fun r7 M5 h6 => ?_)
  refine kr_istore_n [(1, .int r7), (0, .ref (kg_b G + 117))] dX8_findMasks_9 (k := ?_)
  refine kr_iconst (0 : Int32) dX8_findMasks_10 (k := ?_)
  refine kr_istore_n [(2, .int (0 : Int32)), (1, .int r7), (0, .ref (kg_b G + 117))] dX8_findMasks_11 (k := ?_)
  refine kr_sub [2, 1, 0] [(0, .ref (kg_b G + 117)), (1, .int r7), (2, .int (0 : Int32))] rfl ?_
  obtain ⟨f38, h39⟩ := h6
  refine sL_X8_findMasks_12 ho ?_ f38 r7 (0 : Int32) M5 h39
  · intro  M h37
    exact kr_return dX8_findMasks_75 ⟨rfl, rfl, rfl, h37⟩
set_option maxRecDepth 100000 in
set_option maxHeartbeats 4000000 in
theorem sL_X8_first_11 {G : kg_G} {E : State → Array Value → Prop} {R : kg_R} {n : Nat} {K : Int32 → kg_M → Prop} (ho : kg_O8 R n 117) {Kx44 : Int32 → kg_M → Prop} (hKx44 : ∀ (v2 : Int32) (M : kg_M), Kx44 v2 M → kg_Run G E qX8_first 1 44 [(2, .int v2)] [] M R n 0 0 (kg_I R n K)) : ∀ (f : Nat) (v1 : Int32) (v2 : Int32) (v3 : Int32) (M : kg_M), wL_X8_first_11  Kx44 K f v1 v2 v3 M → kg_Run G E qX8_first 1 11 [(0, .ref (kg_b G + 117)), (1, .int v1), (2, .int v2), (3, .int v3)] [] M R n 0 0 (kg_I R n K) := by
  intro f
  induction f with
  | zero => intro v1 v2 v3 M h0; exact h0.elim
  | succ f ih =>
    intro v1 v2 v3 M h5
    rw [wL_X8_first_11] at h5
    refine kr_iload_n 3 dX8_first_11 rfl (k := ?_)
    refine kr_aload_n 0 dX8_first_12 rfl (k := ?_)
    refine kr_getI 2 ckX8 lkF_X8_94 rfl (kg_o8a ho) (kg_o8n ho) dX8_first_13 (k := ?_)
    refine kr_icmp_ge 44 dX8_first_16 (fun c6 => ?_) (fun c6 => ?_)
    · have h7 := h5.1 c6
      refine kr_sub [2] [(2, .int v2)] rfl ?_
      exact hKx44 v2 M h7
    · have h8 := h5.2 c6
      refine kr_iload_n 2 dX8_first_19 rfl (k := ?_)
      refine kr_aload_n 0 dX8_first_20 rfl (k := ?_)
      refine kr_iload_n 3 dX8_first_21 rfl (k := ?_)
      refine kn_callVi [.int v3] [.int v2] mvX8_madeIll lkM_X8_297 (kg_o8a ho) rfl (kg_o8n ho) dX8_first_22 (sp_X8_madeIll ho h8) (fun r11 M9 h10 => ?_)
      refine kr_iload_n 1 dX8_first_25 rfl (k := ?_)
      refine kr_icmp_ne 35 dX8_first_26 (fun c12 => ?_) (fun c12 => ?_)
      · have h13 := h10.1 c12
        refine kr_iconst (0 : Int32) dX8_first_35 (k := ?_)
        refine kr_ior dX8_first_36 (k := ?_)
        refine kr_istore_n [(2, .int (v2 ||| (0 : Int32))), (0, .ref (kg_b G + 117)), (1, .int v1), (3, .int v3)] dX8_first_37 (k := ?_)
        refine kr_iinc (1 : Int32) 3 [(3, .int (v3 + (1 : Int32))), (2, .int (v2 ||| (0 : Int32))), (0, .ref (kg_b G + 117)), (1, .int v1)] dX8_first_38 rfl (k := ?_)
        refine kr_goto 11 dX8_first_41 ?_
        refine kr_sub [2, 3, 1, 0] [(0, .ref (kg_b G + 117)), (1, .int v1), (2, .int (v2 ||| (0 : Int32))), (3, .int (v3 + (1 : Int32)))] rfl ?_
        exact ih v1 (v2 ||| (0 : Int32)) (v3 + (1 : Int32)) M9 h13
      · have h14 := h10.2 c12
        refine kr_iconst (1 : Int32) dX8_first_29 (k := ?_)
        refine kr_iload_n 3 dX8_first_30 rfl (k := ?_)
        refine kr_ishl dX8_first_31 (k := ?_)
        refine kr_goto 36 dX8_first_32 ?_
        refine kr_ior dX8_first_36 (k := ?_)
        refine kr_istore_n [(2, .int (v2 ||| ((1 : Int32) <<< (v3 &&& 31)))), (0, .ref (kg_b G + 117)), (1, .int v1), (3, .int v3)] dX8_first_37 (k := ?_)
        refine kr_iinc (1 : Int32) 3 [(3, .int (v3 + (1 : Int32))), (2, .int (v2 ||| ((1 : Int32) <<< (v3 &&& 31)))), (0, .ref (kg_b G + 117)), (1, .int v1)] dX8_first_38 rfl (k := ?_)
        refine kr_goto 11 dX8_first_41 ?_
        refine kr_sub [2, 3, 1, 0] [(0, .ref (kg_b G + 117)), (1, .int v1), (2, .int (v2 ||| ((1 : Int32) <<< (v3 &&& 31)))), (3, .int (v3 + (1 : Int32)))] rfl ?_
        exact ih v1 (v2 ||| ((1 : Int32) <<< (v3 &&& 31))) (v3 + (1 : Int32)) M9 h14
set_option maxRecDepth 100000 in
set_option maxHeartbeats 4000000 in
theorem sp_X8_first {G : kg_G} {E : State → Array Value → Prop} {R : kg_R} {n : Nat} {K : Int32 → kg_M → Prop} (ho : kg_O8 R n 117) {M : kg_M} (h1 : wp_X8_first  M K) : kg_Run G E qX8_first 1 0 [(0, .ref (kg_b G + 117))] [] M R n 0 0 (kg_I R n K) := by
  unfold wp_X8_first at h1
  refine kr_aload_n 0 dX8_first_0 rfl (k := ?_)
  refine kr_bipush (14 : Int32) dX8_first_1 (k := ?_)
  refine kn_callVi [.int (14 : Int32)] [] mvX8_allWith lkM_X8_169 (kg_o8a ho) rfl (kg_o8n ho) dX8_first_3 (sp_X8_allWith ho h1) (fun r4 M2 h3 => ?_)
  refine kr_istore_n [(1, .int r4), (0, .ref (kg_b G + 117))] dX8_first_6 (k := ?_)
  refine kr_iconst (0 : Int32) dX8_first_7 (k := ?_)
  refine kr_istore_n [(2, .int (0 : Int32)), (1, .int r4), (0, .ref (kg_b G + 117))] dX8_first_8 (k := ?_)
  refine kr_iconst (0 : Int32) dX8_first_9 (k := ?_)
  refine kr_istore_n [(3, .int (0 : Int32)), (2, .int (0 : Int32)), (1, .int r4), (0, .ref (kg_b G + 117))] dX8_first_10 (k := ?_)
  refine kr_sub [3, 2, 1, 0] [(0, .ref (kg_b G + 117)), (1, .int r4), (2, .int (0 : Int32)), (3, .int (0 : Int32))] rfl ?_
  obtain ⟨f16, h17⟩ := h3
  refine sL_X8_first_11 ho ?_ f16 r4 (0 : Int32) (0 : Int32) M2 h17
  · intro v2 M h15
    refine kr_iload_n 0 dX8_first_44 rfl (k := ?_)
    exact kr_ireturn dX8_first_45 ⟨rfl, rfl, _, rfl, h15⟩
set_option maxRecDepth 100000 in
set_option maxHeartbeats 4000000 in
theorem sp_X8_gate {G : kg_G} {E : State → Array Value → Prop} {R : kg_R} {n : Nat} {K : Int32 → kg_M → Prop} (ho : kg_O8 R n 117) {v1 : Int32} {v2 : Int32} {M : kg_M} (h1 : wp_X8_gate v1 v2 M K) : kg_Run G E qX8_gate 2 0 [(0, .ref (kg_b G + 117)), (1, .int v1), (2, .int v2)] [] M R n 0 0 (kg_I R n K) := by
  unfold wp_X8_gate at h1
  refine kr_aload_n 0 dX8_gate_0 rfl (k := ?_)
  refine kr_iload_n 1 dX8_gate_1 rfl (k := ?_)
  refine kn_callVz [.int v1] [] mvX8_isGate lkM_X8_179 (kg_o8a ho) rfl (kg_o8n ho) dX8_gate_2 (sp_X8_isGate ho h1) (fun r4 M2 _ h3 => ?_)
  refine kr_if_ne 11 dX8_gate_5 (fun c5 => ?_) (fun c5 => ?_)
  · have h6 := h3.1 c5
    refine kr_iload_n 2 dX8_gate_11 rfl (k := ?_)
    by_cases c9 : v2 = (0 : Int32)
    · have h10 := h6.1 c9
      refine kr_tableIn (off := 32) 44 dX8_gate_12 (by rw [c9]; decide) (by rw [c9]; decide) (by rw [c9]; decide) (by decide) ?_
      refine kr_aload_n 0 dX8_gate_44 rfl (k := ?_)
      refine kr_getR 1 ckX8 lkF_X8_7 rfl (kg_o8a ho) (kg_o8n ho) (kg_o8r1 ho) dX8_gate_45 (k := ?_)
      refine kr_iload_n 1 dX8_gate_48 rfl (k := ?_)
      obtain ⟨h12, h13⟩ := h10
      refine kr_iald (kg_o8s1 ho) (kg_o8m1 ho) h12 dX8_gate_49 (k := ?_)
      exact kr_ireturn dX8_gate_50 ⟨rfl, rfl, _, rfl, h13⟩
    · have h11 := h6.2 c9
      by_cases c14 : v2 = (1 : Int32)
      · have h15 := h11.1 c14
        refine kr_tableIn (off := 39) 51 dX8_gate_12 (by rw [c14]; decide) (by rw [c14]; decide) (by rw [c14]; decide) (by decide) ?_
        refine kr_aload_n 0 dX8_gate_51 rfl (k := ?_)
        refine kr_getR 4 ckX8 lkF_X8_16 rfl (kg_o8a ho) (kg_o8n ho) (kg_o8r4 ho) dX8_gate_52 (k := ?_)
        refine kr_bipush (21 : Int32) dX8_gate_55 (k := ?_)
        refine kr_iload_n 1 dX8_gate_57 rfl (k := ?_)
        refine kr_iadd dX8_gate_58 (k := ?_)
        obtain ⟨h17, h18⟩ := h15
        refine kr_iald (kg_o8s4 ho) (kg_o8m4 ho) h17 dX8_gate_59 (k := ?_)
        exact kr_ireturn dX8_gate_60 ⟨rfl, rfl, _, rfl, h18⟩
      · have h16 := h11.2 c14
        by_cases c19 : v2 = (2 : Int32)
        · have h20 := h16.1 c19
          refine kr_tableIn (off := 49) 61 dX8_gate_12 (by rw [c19]; decide) (by rw [c19]; decide) (by rw [c19]; decide) (by decide) ?_
          refine kr_aload_n 0 dX8_gate_61 rfl (k := ?_)
          refine kr_getR 4 ckX8 lkF_X8_16 rfl (kg_o8a ho) (kg_o8n ho) (kg_o8r4 ho) dX8_gate_62 (k := ?_)
          refine kr_bipush (26 : Int32) dX8_gate_65 (k := ?_)
          refine kr_iload_n 1 dX8_gate_67 rfl (k := ?_)
          refine kr_iadd dX8_gate_68 (k := ?_)
          obtain ⟨h22, h23⟩ := h20
          refine kr_iald (kg_o8s4 ho) (kg_o8m4 ho) h22 dX8_gate_69 (k := ?_)
          exact kr_ireturn dX8_gate_70 ⟨rfl, rfl, _, rfl, h23⟩
        · have h21 := h16.2 c19
          by_cases c24 : v2 = (3 : Int32)
          · have h25 := h21.1 c24
            refine kr_tableIn (off := 59) 71 dX8_gate_12 (by rw [c24]; decide) (by rw [c24]; decide) (by rw [c24]; decide) (by decide) ?_
            refine kr_aload_n 0 dX8_gate_71 rfl (k := ?_)
            refine kr_iload_n 1 dX8_gate_72 rfl (k := ?_)
            refine kn_callVi [.int v1] [] mvX8_waitingAt lkM_X8_184 (kg_o8a ho) rfl (kg_o8n ho) dX8_gate_73 (sp_X8_waitingAt ho h25) (fun r29 M27 h28 => ?_)
            exact kr_ireturn dX8_gate_76 ⟨rfl, rfl, _, rfl, h28⟩
          · have h26 := h21.2 c24
            have e0_ : v2.toInt ≠ (0 : Int) := fun e => c9 (Int32.toInt_inj.mp (e.trans (by decide)))
            have e1_ : v2.toInt ≠ (1 : Int) := fun e => c14 (Int32.toInt_inj.mp (e.trans (by decide)))
            have e2_ : v2.toInt ≠ (2 : Int) := fun e => c19 (Int32.toInt_inj.mp (e.trans (by decide)))
            have e3_ : v2.toInt ≠ (3 : Int) := fun e => c24 (Int32.toInt_inj.mp (e.trans (by decide)))
            refine kr_tableOut 77 dX8_gate_12 (by omega) (by decide) ?_
            refine kr_ldc dX8_gate_77 lkC_X8_99 (k := ?_)
            exact kr_ireturn dX8_gate_79 ⟨rfl, rfl, _, rfl, h26⟩
  · have h7 := h3.2 c5
    refine kr_ldc dX8_gate_8 lkC_X8_183 (k := ?_)
    exact kr_ireturn dX8_gate_10 ⟨rfl, rfl, _, rfl, h7⟩
