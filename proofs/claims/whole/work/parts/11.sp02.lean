set_option maxRecDepth 100000 in
set_option maxHeartbeats 4000000 in
theorem sJ_X6_readEnd_38 {G : kg_G} {E : State → Array Value → Prop} {R : kg_R} {n : Nat} {K : Int32 → kg_M → Prop} (ho : kg_O6 R n 1) (M : kg_M) (h11 : wJ_X6_readEnd_38  K M) : kg_Run G E qX6_readEnd 1 38 [(0, .ref (kg_b G + 1))] [] M R n 0 0 (kg_Z R n K) := by
  unfold wJ_X6_readEnd_38 at h11
  refine kr_aload_n 0 dX6_readEnd_38 rfl (k := ?_)
  refine kr_iconst (1 : Int32) dX6_readEnd_39 (k := ?_)
  refine kr_aload_n 0 dX6_readEnd_40 rfl (k := ?_)
  refine kr_getI 2 ckX6 lkF_X6_19 rfl (kg_o6a ho) (kg_o6n ho) dX6_readEnd_41 (k := ?_)
  refine kn_callVv [.int (1 : Int32), .int (M 1 2)] [] mvX6_blame lkM_X6_50 (kg_o6a ho) rfl (kg_o6n ho) dX6_readEnd_44 (sp_X6_blame ho h11) (fun M12 h13 => ?_)
  refine kr_iconst (0 : Int32) dX6_readEnd_47 (k := ?_)
  exact kr_ireturn dX6_readEnd_48 ⟨rfl, rfl, _, rfl, (by decide), h13⟩
set_option maxRecDepth 100000 in
set_option maxHeartbeats 4000000 in
theorem sp_X6_readEnd {G : kg_G} {E : State → Array Value → Prop} {R : kg_R} {n : Nat} {K : Int32 → kg_M → Prop} (ho : kg_O6 R n 1) {M : kg_M} (h1 : wp_X6_readEnd  M K) : kg_Run G E qX6_readEnd 1 0 [(0, .ref (kg_b G + 1))] [] M R n 0 0 (kg_Z R n K) := by
  unfold wp_X6_readEnd at h1
  refine kr_aload_n 0 dX6_readEnd_0 rfl (k := ?_)
  refine kr_getI 4 ckX6 lkF_X6_22 rfl (kg_o6a ho) (kg_o6n ho) dX6_readEnd_1 (k := ?_)
  refine kr_if_eq 9 dX6_readEnd_4 (fun c2 => ?_) (fun c2 => ?_)
  · have h3 := h1.1 c2
    refine kr_aload_n 0 dX6_readEnd_9 rfl (k := ?_)
    refine kn_callVv [] [] mvX6_skipBlanks lkM_X6_33 (kg_o6a ho) rfl (kg_o6n ho) dX6_readEnd_10 (sp_X6_skipBlanks ho h3) (fun M5 h6 => ?_)
    refine kr_aload_n 0 dX6_readEnd_13 rfl (k := ?_)
    refine kr_getI 2 ckX6 lkF_X6_19 rfl (kg_o6a ho) (kg_o6n ho) dX6_readEnd_14 (k := ?_)
    refine kr_aload_n 0 dX6_readEnd_17 rfl (k := ?_)
    refine kr_getI 1 ckX6 lkF_X6_15 rfl (kg_o6a ho) (kg_o6n ho) dX6_readEnd_18 (k := ?_)
    refine kr_icmp_ge 38 dX6_readEnd_21 (fun c8 => ?_) (fun c8 => ?_)
    · have h9 := h6.1 c8
      refine kr_sub [0] [(0, .ref (kg_b G + 1))] rfl ?_
      exact sJ_X6_readEnd_38 ho  M5 h9
    · have h10 := h6.2 c8
      refine kr_aload_n 0 dX6_readEnd_24 rfl (k := ?_)
      refine kr_getR 0 ckX6 lkF_X6_9 rfl (kg_o6a ho) (kg_o6n ho) (kg_o6r0 ho) dX6_readEnd_25 (k := ?_)
      refine kr_aload_n 0 dX6_readEnd_28 rfl (k := ?_)
      refine kr_getI 2 ckX6 lkF_X6_19 rfl (kg_o6a ho) (kg_o6n ho) dX6_readEnd_29 (k := ?_)
      obtain ⟨h15, h16⟩ := h10
      refine kr_iald (kg_o6s0 ho) (kg_o6m0 ho) h15 dX6_readEnd_32 (k := ?_)
      refine kr_bipush (59 : Int32) dX6_readEnd_33 (k := ?_)
      refine kr_icmp_eq 49 dX6_readEnd_35 (fun c17 => ?_) (fun c17 => ?_)
      · have h18 := h16.1 c17
        refine kr_aload_n 0 dX6_readEnd_49 rfl (k := ?_)
        refine kr_dup dX6_readEnd_50 (k := ?_)
        refine kr_getI 2 ckX6 lkF_X6_19 rfl (kg_o6a ho) (kg_o6n ho) dX6_readEnd_51 (k := ?_)
        refine kr_iconst (1 : Int32) dX6_readEnd_54 (k := ?_)
        refine kr_iadd dX6_readEnd_55 (k := ?_)
        refine kn_putI 2 ckX6 lkF_X6_19 rfl rfl rfl rfl (kg_o6a ho) (kg_o6n ho) dX6_readEnd_56 (fun M20 e21 => ?_)
        have h22 := h18 M20 e21
        refine kr_iconst (1 : Int32) dX6_readEnd_59 (k := ?_)
        exact kr_ireturn dX6_readEnd_60 ⟨rfl, rfl, _, rfl, (by decide), h22⟩
      · have h19 := h16.2 c17
        refine kr_sub [0] [(0, .ref (kg_b G + 1))] rfl ?_
        exact sJ_X6_readEnd_38 ho  M5 h19
  · have h4 := h1.2 c2
    refine kr_iconst (0 : Int32) dX6_readEnd_7 (k := ?_)
    exact kr_ireturn dX6_readEnd_8 ⟨rfl, rfl, _, rfl, (by decide), h4⟩
set_option maxRecDepth 100000 in
set_option maxHeartbeats 4000000 in
theorem sJ_X6_readNumber_93 {G : kg_G} {E : State → Array Value → Prop} {R : kg_R} {n : Nat} {K : Int32 → kg_M → Prop} (ho : kg_O6 R n 1) {Kb : Int32 → Int32 → Int32 → kg_M → Prop} {Kx106 : Int32 → Int32 → Int32 → kg_M → Prop} (hKb : ∀ (v1 : Int32) (v2 : Int32) (v3 : Int32) (M : kg_M), Kb v1 v2 v3 M → kg_Run G E qX6_readNumber 1 23 [(0, .ref (kg_b G + 1)), (1, .int v1), (2, .int v2), (3, .int v3)] [] M R n 0 0 (kg_I R n K)) (hKx106 : ∀ (v1 : Int32) (v2 : Int32) (v3 : Int32) (M : kg_M), Kx106 v1 v2 v3 M → kg_Run G E qX6_readNumber 1 106 [(0, .ref (kg_b G + 1)), (1, .int v1), (2, .int v2), (3, .int v3)] [] M R n 0 0 (kg_I R n K)) (v1 : Int32) (v2 : Int32) (v3 : Int32) (M : kg_M) (h28 : wJ_X6_readNumber_93  Kb Kx106 K v1 v2 v3 M) : kg_Run G E qX6_readNumber 1 93 [(0, .ref (kg_b G + 1)), (1, .int v1), (2, .int v2), (3, .int v3)] [] M R n 0 0 (kg_I R n K) := by
  unfold wJ_X6_readNumber_93 at h28
  refine kr_aload_n 0 dX6_readNumber_93 rfl (k := ?_)
  refine kr_dup dX6_readNumber_94 (k := ?_)
  refine kr_getI 2 ckX6 lkF_X6_19 rfl (kg_o6a ho) (kg_o6n ho) dX6_readNumber_95 (k := ?_)
  refine kr_iconst (1 : Int32) dX6_readNumber_98 (k := ?_)
  refine kr_iadd dX6_readNumber_99 (k := ?_)
  refine kn_putI 2 ckX6 lkF_X6_19 rfl rfl rfl rfl (kg_o6a ho) (kg_o6n ho) dX6_readNumber_100 (fun M29 e30 => ?_)
  have h31 := h28 M29 e30
  refine kr_goto 23 dX6_readNumber_103 ?_
  refine kr_sub [0, 1, 2, 3] [(0, .ref (kg_b G + 1)), (1, .int v1), (2, .int v2), (3, .int v3)] rfl ?_
  exact hKb v1 v2 v3 M29 h31
set_option maxRecDepth 100000 in
set_option maxHeartbeats 4000000 in
theorem sL_X6_readNumber_23 {G : kg_G} {E : State → Array Value → Prop} {R : kg_R} {n : Nat} {K : Int32 → kg_M → Prop} (ho : kg_O6 R n 1) {Kx106 : Int32 → Int32 → Int32 → kg_M → Prop} (hKx106 : ∀ (v1 : Int32) (v2 : Int32) (v3 : Int32) (M : kg_M), Kx106 v1 v2 v3 M → kg_Run G E qX6_readNumber 1 106 [(0, .ref (kg_b G + 1)), (1, .int v1), (2, .int v2), (3, .int v3)] [] M R n 0 0 (kg_I R n K)) : ∀ (f : Nat) (v1 : Int32) (v2 : Int32) (v3 : Int32) (M : kg_M), wL_X6_readNumber_23  Kx106 K f v1 v2 v3 M → kg_Run G E qX6_readNumber 1 23 [(0, .ref (kg_b G + 1)), (1, .int v1), (2, .int v2), (3, .int v3)] [] M R n 0 0 (kg_I R n K) := by
  intro f
  induction f with
  | zero => intro v1 v2 v3 M h0; exact h0.elim
  | succ f ih =>
    intro v1 v2 v3 M h11
    rw [wL_X6_readNumber_23] at h11
    refine kr_aload_n 0 dX6_readNumber_23 rfl (k := ?_)
    refine kr_getI 2 ckX6 lkF_X6_19 rfl (kg_o6a ho) (kg_o6n ho) dX6_readNumber_24 (k := ?_)
    refine kr_aload_n 0 dX6_readNumber_27 rfl (k := ?_)
    refine kr_getI 1 ckX6 lkF_X6_15 rfl (kg_o6a ho) (kg_o6n ho) dX6_readNumber_28 (k := ?_)
    refine kr_icmp_ge 106 dX6_readNumber_31 (fun c12 => ?_) (fun c12 => ?_)
    · have h13 := h11.1 c12
      refine kr_sub [0, 1, 2, 3] [(0, .ref (kg_b G + 1)), (1, .int v1), (2, .int v2), (3, .int v3)] rfl ?_
      exact hKx106 v1 v2 v3 M h13
    · have h14 := h11.2 c12
      refine kr_aload_n 0 dX6_readNumber_34 rfl (k := ?_)
      refine kr_getR 0 ckX6 lkF_X6_9 rfl (kg_o6a ho) (kg_o6n ho) (kg_o6r0 ho) dX6_readNumber_35 (k := ?_)
      refine kr_aload_n 0 dX6_readNumber_38 rfl (k := ?_)
      refine kr_getI 2 ckX6 lkF_X6_19 rfl (kg_o6a ho) (kg_o6n ho) dX6_readNumber_39 (k := ?_)
      obtain ⟨h15, h16⟩ := h14
      refine kr_iald (kg_o6s0 ho) (kg_o6m0 ho) h15 dX6_readNumber_42 (k := ?_)
      refine kr_bipush (48 : Int32) dX6_readNumber_43 (k := ?_)
      refine kr_icmp_lt 106 dX6_readNumber_45 (fun c17 => ?_) (fun c17 => ?_)
      · have h18 := h16.1 c17
        refine kr_sub [0, 1, 2, 3] [(0, .ref (kg_b G + 1)), (1, .int v1), (2, .int v2), (3, .int v3)] rfl ?_
        exact hKx106 v1 v2 v3 M h18
      · have h19 := h16.2 c17
        refine kr_aload_n 0 dX6_readNumber_48 rfl (k := ?_)
        refine kr_getR 0 ckX6 lkF_X6_9 rfl (kg_o6a ho) (kg_o6n ho) (kg_o6r0 ho) dX6_readNumber_49 (k := ?_)
        refine kr_aload_n 0 dX6_readNumber_52 rfl (k := ?_)
        refine kr_getI 2 ckX6 lkF_X6_19 rfl (kg_o6a ho) (kg_o6n ho) dX6_readNumber_53 (k := ?_)
        obtain ⟨h20, h21⟩ := h19
        refine kr_iald (kg_o6s0 ho) (kg_o6m0 ho) h20 dX6_readNumber_56 (k := ?_)
        refine kr_bipush (57 : Int32) dX6_readNumber_57 (k := ?_)
        refine kr_icmp_gt 106 dX6_readNumber_59 (fun c22 => ?_) (fun c22 => ?_)
        · have h23 := h21.1 c22
          refine kr_sub [0, 1, 2, 3] [(0, .ref (kg_b G + 1)), (1, .int v1), (2, .int v2), (3, .int v3)] rfl ?_
          exact hKx106 v1 v2 v3 M h23
        · have h24 := h21.2 c22
          refine kr_aload_n 0 dX6_readNumber_62 rfl (k := ?_)
          refine kr_getI 2 ckX6 lkF_X6_19 rfl (kg_o6a ho) (kg_o6n ho) dX6_readNumber_63 (k := ?_)
          refine kr_aload_n 0 dX6_readNumber_66 rfl (k := ?_)
          refine kr_getI 3 ckX6 lkF_X6_79 rfl (kg_o6a ho) (kg_o6n ho) dX6_readNumber_67 (k := ?_)
          refine kr_isub dX6_readNumber_70 (k := ?_)
          refine kr_iconst (3 : Int32) dX6_readNumber_71 (k := ?_)
          refine kr_icmp_ge 93 dX6_readNumber_72 (fun c25 => ?_) (fun c25 => ?_)
          · have h26 := h24.1 c25
            refine kr_sub [0, 1, 2, 3] [(0, .ref (kg_b G + 1)), (1, .int v1), (2, .int v2), (3, .int v3)] rfl ?_
            exact sJ_X6_readNumber_93 ho ih hKx106 v1 v2 v3 M h26
          · have h27 := h24.2 c25
            refine kr_bipush (10 : Int32) dX6_readNumber_75 (k := ?_)
            refine kr_iload_n 3 dX6_readNumber_77 rfl (k := ?_)
            refine kr_imul dX6_readNumber_78 (k := ?_)
            refine kr_aload_n 0 dX6_readNumber_79 rfl (k := ?_)
            refine kr_getR 0 ckX6 lkF_X6_9 rfl (kg_o6a ho) (kg_o6n ho) (kg_o6r0 ho) dX6_readNumber_80 (k := ?_)
            refine kr_aload_n 0 dX6_readNumber_83 rfl (k := ?_)
            refine kr_getI 2 ckX6 lkF_X6_19 rfl (kg_o6a ho) (kg_o6n ho) dX6_readNumber_84 (k := ?_)
            obtain ⟨h32, h33⟩ := h27
            refine kr_iald (kg_o6s0 ho) (kg_o6m0 ho) h32 dX6_readNumber_87 (k := ?_)
            refine kr_iadd dX6_readNumber_88 (k := ?_)
            refine kr_bipush (48 : Int32) dX6_readNumber_89 (k := ?_)
            refine kr_isub dX6_readNumber_91 (k := ?_)
            refine kr_istore_n [(3, .int ((((10 : Int32) * v3) + (M 2 (M 1 2).toNatClampNeg)) - (48 : Int32))), (0, .ref (kg_b G + 1)), (1, .int v1), (2, .int v2)] dX6_readNumber_92 (k := ?_)
            refine kr_sub [1, 2, 3, 0] [(0, .ref (kg_b G + 1)), (1, .int v1), (2, .int v2), (3, .int ((((10 : Int32) * v3) + (M 2 (M 1 2).toNatClampNeg)) - (48 : Int32)))] rfl ?_
            exact sJ_X6_readNumber_93 ho ih hKx106 v1 v2 ((((10 : Int32) * v3) + (M 2 (M 1 2).toNatClampNeg)) - (48 : Int32)) M h33
set_option maxRecDepth 100000 in
set_option maxHeartbeats 4000000 in
theorem sJ_X6_readNumber_152 {G : kg_G} {E : State → Array Value → Prop} {R : kg_R} {n : Nat} {K : Int32 → kg_M → Prop} (ho : kg_O6 R n 1) (v3 : Int32) (M : kg_M) (h42 : wJ_X6_readNumber_152  K v3 M) : kg_Run G E qX6_readNumber 1 152 [(0, .ref (kg_b G + 1)), (3, .int v3)] [] M R n 0 0 (kg_I R n K) := by
  unfold wJ_X6_readNumber_152 at h42
  refine kr_aload_n 0 dX6_readNumber_152 rfl (k := ?_)
  refine kr_iconst (2 : Int32) dX6_readNumber_153 (k := ?_)
  refine kr_aload_n 0 dX6_readNumber_154 rfl (k := ?_)
  refine kr_getI 3 ckX6 lkF_X6_79 rfl (kg_o6a ho) (kg_o6n ho) dX6_readNumber_155 (k := ?_)
  refine kn_callVv [.int (2 : Int32), .int (M 1 3)] [] mvX6_blame lkM_X6_50 (kg_o6a ho) rfl (kg_o6n ho) dX6_readNumber_158 (sp_X6_blame ho h42) (fun M43 h44 => ?_)
  refine kr_iload_n 1 dX6_readNumber_161 rfl (k := ?_)
  exact kr_ireturn dX6_readNumber_162 ⟨rfl, rfl, _, rfl, h44⟩
set_option maxRecDepth 100000 in
set_option maxHeartbeats 4000000 in
theorem sJ_X6_readNumber_106 {G : kg_G} {E : State → Array Value → Prop} {R : kg_R} {n : Nat} {K : Int32 → kg_M → Prop} (ho : kg_O6 R n 1) (v1 : Int32) (v2 : Int32) (v3 : Int32) (M : kg_M) (h35 : wJ_X6_readNumber_106  K v1 v2 v3 M) : kg_Run G E qX6_readNumber 1 106 [(0, .ref (kg_b G + 1)), (1, .int v1), (2, .int v2), (3, .int v3)] [] M R n 0 0 (kg_I R n K) := by
  unfold wJ_X6_readNumber_106 at h35
  refine kr_aload_n 0 dX6_readNumber_106 rfl (k := ?_)
  refine kr_getI 2 ckX6 lkF_X6_19 rfl (kg_o6a ho) (kg_o6n ho) dX6_readNumber_107 (k := ?_)
  refine kr_aload_n 0 dX6_readNumber_110 rfl (k := ?_)
  refine kr_getI 3 ckX6 lkF_X6_79 rfl (kg_o6a ho) (kg_o6n ho) dX6_readNumber_111 (k := ?_)
  refine kr_icmp_ne 129 dX6_readNumber_114 (fun c36 => ?_) (fun c36 => ?_)
  · have h37 := h35.1 c36
    refine kr_aload_n 0 dX6_readNumber_129 rfl (k := ?_)
    refine kr_getI 2 ckX6 lkF_X6_19 rfl (kg_o6a ho) (kg_o6n ho) dX6_readNumber_130 (k := ?_)
    refine kr_aload_n 0 dX6_readNumber_133 rfl (k := ?_)
    refine kr_getI 3 ckX6 lkF_X6_79 rfl (kg_o6a ho) (kg_o6n ho) dX6_readNumber_134 (k := ?_)
    refine kr_isub dX6_readNumber_137 (k := ?_)
    refine kr_iconst (3 : Int32) dX6_readNumber_138 (k := ?_)
    refine kr_icmp_gt 152 dX6_readNumber_139 (fun c39 => ?_) (fun c39 => ?_)
    · have h40 := h37.1 c39
      refine kr_sub [0, 3] [(0, .ref (kg_b G + 1)), (3, .int v3)] rfl ?_
      exact sJ_X6_readNumber_152 ho v3 M h40
    · have h41 := h37.2 c39
      refine kr_iload_n 3 dX6_readNumber_142 rfl (k := ?_)
      refine kr_iload_n 1 dX6_readNumber_143 rfl (k := ?_)
      refine kr_icmp_lt 152 dX6_readNumber_144 (fun c46 => ?_) (fun c46 => ?_)
      · have h47 := h41.1 c46
        refine kr_sub [0, 3] [(0, .ref (kg_b G + 1)), (3, .int v3)] rfl ?_
        exact sJ_X6_readNumber_152 ho v3 M h47
      · have h48 := h41.2 c46
        refine kr_iload_n 3 dX6_readNumber_147 rfl (k := ?_)
        refine kr_iload_n 2 dX6_readNumber_148 rfl (k := ?_)
        refine kr_icmp_le 161 dX6_readNumber_149 (fun c49 => ?_) (fun c49 => ?_)
        · have h50 := h48.1 c49
          refine kr_iload_n 3 dX6_readNumber_161 rfl (k := ?_)
          exact kr_ireturn dX6_readNumber_162 ⟨rfl, rfl, _, rfl, h50⟩
        · have h51 := h48.2 c49
          refine kr_sub [0, 3] [(0, .ref (kg_b G + 1)), (3, .int v3)] rfl ?_
          exact sJ_X6_readNumber_152 ho v3 M h51
  · have h38 := h35.2 c36
    refine kr_aload_n 0 dX6_readNumber_117 rfl (k := ?_)
    refine kr_iconst (1 : Int32) dX6_readNumber_118 (k := ?_)
    refine kr_aload_n 0 dX6_readNumber_119 rfl (k := ?_)
    refine kr_getI 2 ckX6 lkF_X6_19 rfl (kg_o6a ho) (kg_o6n ho) dX6_readNumber_120 (k := ?_)
    refine kn_callVv [.int (1 : Int32), .int (M 1 2)] [] mvX6_blame lkM_X6_50 (kg_o6a ho) rfl (kg_o6n ho) dX6_readNumber_123 (sp_X6_blame ho h38) (fun M52 h53 => ?_)
    refine kr_goto 161 dX6_readNumber_126 ?_
    refine kr_iload_n 3 dX6_readNumber_161 rfl (k := ?_)
    exact kr_ireturn dX6_readNumber_162 ⟨rfl, rfl, _, rfl, h53⟩
set_option maxRecDepth 100000 in
set_option maxHeartbeats 4000000 in
theorem sp_X6_readNumber {G : kg_G} {E : State → Array Value → Prop} {R : kg_R} {n : Nat} {K : Int32 → kg_M → Prop} (ho : kg_O6 R n 1) {v1 : Int32} {v2 : Int32} {M : kg_M} (h1 : wp_X6_readNumber v1 v2 M K) : kg_Run G E qX6_readNumber 1 0 [(0, .ref (kg_b G + 1)), (1, .int v1), (2, .int v2)] [] M R n 0 0 (kg_I R n K) := by
  unfold wp_X6_readNumber at h1
  refine kr_aload_n 0 dX6_readNumber_0 rfl (k := ?_)
  refine kr_getI 4 ckX6 lkF_X6_22 rfl (kg_o6a ho) (kg_o6n ho) dX6_readNumber_1 (k := ?_)
  refine kr_if_eq 9 dX6_readNumber_4 (fun c2 => ?_) (fun c2 => ?_)
  · have h3 := h1.1 c2
    refine kr_aload_n 0 dX6_readNumber_9 rfl (k := ?_)
    refine kn_callVv [] [] mvX6_skipBlanks lkM_X6_33 (kg_o6a ho) rfl (kg_o6n ho) dX6_readNumber_10 (sp_X6_skipBlanks ho h3) (fun M5 h6 => ?_)
    refine kr_aload_n 0 dX6_readNumber_13 rfl (k := ?_)
    refine kr_aload_n 0 dX6_readNumber_14 rfl (k := ?_)
    refine kr_getI 2 ckX6 lkF_X6_19 rfl (kg_o6a ho) (kg_o6n ho) dX6_readNumber_15 (k := ?_)
    refine kn_putI 3 ckX6 lkF_X6_79 rfl rfl rfl rfl (kg_o6a ho) (kg_o6n ho) dX6_readNumber_18 (fun M8 e9 => ?_)
    have h10 := h6 M8 e9
    refine kr_iconst (0 : Int32) dX6_readNumber_21 (k := ?_)
    refine kr_istore_n [(3, .int (0 : Int32)), (0, .ref (kg_b G + 1)), (1, .int v1), (2, .int v2)] dX6_readNumber_22 (k := ?_)
    refine kr_sub [1, 2, 3, 0] [(0, .ref (kg_b G + 1)), (1, .int v1), (2, .int v2), (3, .int (0 : Int32))] rfl ?_
    obtain ⟨f55, h56⟩ := h10
    refine sL_X6_readNumber_23 ho ?_ f55 v1 v2 (0 : Int32) M8 h56
    · intro v1 v2 v3 M h34
      refine kr_sub [0, 1, 2, 3] [(0, .ref (kg_b G + 1)), (1, .int v1), (2, .int v2), (3, .int v3)] rfl ?_
      exact sJ_X6_readNumber_106 ho v1 v2 v3 M h34
  · have h4 := h1.2 c2
    refine kr_iconst (0 : Int32) dX6_readNumber_7 (k := ?_)
    exact kr_ireturn dX6_readNumber_8 ⟨rfl, rfl, _, rfl, h4⟩
set_option maxRecDepth 100000 in
set_option maxHeartbeats 4000000 in
theorem sJ_X6_readGate_14 {G : kg_G} {E : State → Array Value → Prop} {R : kg_R} {n : Nat} {o1 : Nat} {K : kg_M → Prop} (ho : kg_O6 R n 1) (ho1 : kg_O0 R n o1) (M : kg_M) (h5 : wJ_X6_readGate_14 o1 K M) : kg_Run G E qX6_readGate 2 14 [(0, .ref (kg_b G + 1)), (1, .ref (kg_b G + o1))] [] M R n 0 0 (kg_V R n K) := by
  unfold wJ_X6_readGate_14 at h5
  refine kr_aload_n 0 dX6_readGate_14 rfl (k := ?_)
  refine kr_iconst (1 : Int32) dX6_readGate_15 (k := ?_)
  refine kr_bipush (99 : Int32) dX6_readGate_16 (k := ?_)
  refine kn_callVi [.int (1 : Int32), .int (99 : Int32)] [] mvX6_readNumber lkM_X6_57 (kg_o6a ho) rfl (kg_o6n ho) dX6_readGate_18 (sp_X6_readNumber ho h5) (fun r8 M6 h7 => ?_)
  refine kr_istore_n [(3, .int r8), (0, .ref (kg_b G + 1)), (1, .ref (kg_b G + o1))] dX6_readGate_21 (k := ?_)
  refine kr_aload_n 1 dX6_readGate_22 rfl (k := ?_)
  refine kn_callVz [] [] mvX6_readEnd lkM_X6_61 (kg_o6a ho) rfl (kg_o6n ho) dX6_readGate_23 (sp_X6_readEnd ho h7) (fun r11 M9 _ h10 => ?_)
  refine kr_if_eq 34 dX6_readGate_26 (fun c12 => ?_) (fun c12 => ?_)
  · have h13 := h10.1 c12
    exact kr_return dX6_readGate_34 ⟨rfl, rfl, rfl, h13⟩
  · have h14 := h10.2 c12
    refine kr_aload_n 2 dX6_readGate_29 rfl (k := ?_)
    refine kr_iload_n 0 dX6_readGate_30 rfl (k := ?_)
    refine kn_callVv [.int r8] [] mvX0_addGate lkM_X6_65 (kg_o0a ho1) rfl (kg_o0n ho1) dX6_readGate_31 (sp_X0_addGate ho1 h14) (fun M15 h16 => ?_)
    exact kr_return dX6_readGate_34 ⟨rfl, rfl, rfl, h16⟩
set_option maxRecDepth 100000 in
set_option maxHeartbeats 4000000 in
theorem sp_X6_readGate {G : kg_G} {E : State → Array Value → Prop} {R : kg_R} {n : Nat} {o1 : Nat} {K : kg_M → Prop} (ho : kg_O6 R n 1) (ho1 : kg_O0 R n o1) {v2 : Int32} {M : kg_M} (h1 : wp_X6_readGate o1 v2 M K) : kg_Run G E qX6_readGate 2 0 [(0, .ref (kg_b G + 1)), (1, .ref (kg_b G + o1)), (2, .int v2)] [] M R n 0 0 (kg_V R n K) := by
  unfold wp_X6_readGate at h1
  refine kr_aload_n 1 dX6_readGate_0 rfl (k := ?_)
  refine kr_getI 0 ckX0 lkF_X6_54 rfl (kg_o0a ho1) (kg_o0n ho1) dX6_readGate_1 (k := ?_)
  refine kr_iconst (5 : Int32) dX6_readGate_4 (k := ?_)
  refine kr_icmp_lt 14 dX6_readGate_5 (fun c2 => ?_) (fun c2 => ?_)
  · have h3 := h1.1 c2
    refine kr_sub [0, 1] [(0, .ref (kg_b G + 1)), (1, .ref (kg_b G + o1))] rfl ?_
    exact sJ_X6_readGate_14 ho ho1  M h3
  · have h4 := h1.2 c2
    refine kr_aload_n 0 dX6_readGate_8 rfl (k := ?_)
    refine kr_iconst (3 : Int32) dX6_readGate_9 (k := ?_)
    refine kr_iload_n 2 dX6_readGate_10 rfl (k := ?_)
    refine kn_callVv [.int (3 : Int32), .int v2] [] mvX6_blame lkM_X6_50 (kg_o6a ho) rfl (kg_o6n ho) dX6_readGate_11 (sp_X6_blame ho h4) (fun M18 h19 => ?_)
    refine kr_sub [0, 1] [(0, .ref (kg_b G + 1)), (1, .ref (kg_b G + o1))] rfl ?_
    exact sJ_X6_readGate_14 ho ho1  M18 h19
set_option maxRecDepth 100000 in
set_option maxHeartbeats 4000000 in
theorem sJ_X6_readLiking_47 {G : kg_G} {E : State → Array Value → Prop} {R : kg_R} {n : Nat} {o1 : Nat} {K : kg_M → Prop} (ho : kg_O6 R n 1) (ho1 : kg_O0 R n o1) (v2 : Int32) (v3 : Int32) (M : kg_M) (h15 : wJ_X6_readLiking_47 o1 K v2 v3 M) : kg_Run G E qX6_readLiking 4 47 [(0, .ref (kg_b G + 1)), (1, .ref (kg_b G + o1)), (2, .int v2), (3, .int v3)] [] M R n 0 0 (kg_V R n K) := by
  unfold wJ_X6_readLiking_47 at h15
  refine kr_aload_n 0 dX6_readLiking_47 rfl (k := ?_)
  refine kr_iconst (0 : Int32) dX6_readLiking_48 (k := ?_)
  refine kr_bipush (9 : Int32) dX6_readLiking_49 (k := ?_)
  refine kn_callVi [.int (0 : Int32), .int (9 : Int32)] [] mvX6_readNumber lkM_X6_57 (kg_o6a ho) rfl (kg_o6n ho) dX6_readLiking_51 (sp_X6_readNumber ho h15) (fun r18 M16 h17 => ?_)
  refine kr_istore [(4, .int r18), (0, .ref (kg_b G + 1)), (1, .ref (kg_b G + o1)), (2, .int v2), (3, .int v3)] dX6_readLiking_54 (k := ?_)
  refine kr_aload_n 1 dX6_readLiking_56 rfl (k := ?_)
  refine kn_callVz [] [] mvX6_readEnd lkM_X6_61 (kg_o6a ho) rfl (kg_o6n ho) dX6_readLiking_57 (sp_X6_readEnd ho h17) (fun r21 M19 _ h20 => ?_)
  refine kr_if_eq 71 dX6_readLiking_60 (fun c22 => ?_) (fun c22 => ?_)
  · have h23 := h20.1 c22
    exact kr_return dX6_readLiking_71 ⟨rfl, rfl, rfl, h23⟩
  · have h24 := h20.2 c22
    refine kr_aload_n 2 dX6_readLiking_63 rfl (k := ?_)
    refine kr_iload_n 3 dX6_readLiking_64 rfl (k := ?_)
    refine kr_iload_n 4 dX6_readLiking_65 rfl (k := ?_)
    refine kr_iload 0 dX6_readLiking_66 rfl (k := ?_)
    refine kn_callVv [.int v2, .int v3, .int r18] [] mvX0_addLiking lkM_X6_82 (kg_o0a ho1) rfl (kg_o0n ho1) dX6_readLiking_68 (sp_X0_addLiking ho1 h24) (fun M25 h26 => ?_)
    exact kr_return dX6_readLiking_71 ⟨rfl, rfl, rfl, h26⟩
set_option maxRecDepth 100000 in
set_option maxHeartbeats 4000000 in
theorem sJ_X6_readLiking_38 {G : kg_G} {E : State → Array Value → Prop} {R : kg_R} {n : Nat} {o1 : Nat} {K : kg_M → Prop} (ho : kg_O6 R n 1) (ho1 : kg_O0 R n o1) (v2 : Int32) (v3 : Int32) (M : kg_M) (h11 : wJ_X6_readLiking_38 o1 K v2 v3 M) : kg_Run G E qX6_readLiking 4 38 [(0, .ref (kg_b G + 1)), (1, .ref (kg_b G + o1)), (2, .int v2), (3, .int v3)] [] M R n 0 0 (kg_V R n K) := by
  unfold wJ_X6_readLiking_38 at h11
  refine kr_aload_n 0 dX6_readLiking_38 rfl (k := ?_)
  refine kr_iconst (4 : Int32) dX6_readLiking_39 (k := ?_)
  refine kr_aload_n 0 dX6_readLiking_40 rfl (k := ?_)
  refine kr_getI 3 ckX6 lkF_X6_79 rfl (kg_o6a ho) (kg_o6n ho) dX6_readLiking_41 (k := ?_)
  refine kn_callVv [.int (4 : Int32), .int (M 1 3)] [] mvX6_blame lkM_X6_50 (kg_o6a ho) rfl (kg_o6n ho) dX6_readLiking_44 (sp_X6_blame ho h11) (fun M12 h13 => ?_)
  refine kr_sub [0, 1, 2, 3] [(0, .ref (kg_b G + 1)), (1, .ref (kg_b G + o1)), (2, .int v2), (3, .int v3)] rfl ?_
  exact sJ_X6_readLiking_47 ho ho1 v2 v3 M12 h13
set_option maxRecDepth 100000 in
set_option maxHeartbeats 4000000 in
theorem sp_X6_readLiking {G : kg_G} {E : State → Array Value → Prop} {R : kg_R} {n : Nat} {o1 : Nat} {K : kg_M → Prop} (ho : kg_O6 R n 1) (ho1 : kg_O0 R n o1) {M : kg_M} (h1 : wp_X6_readLiking o1 M K) : kg_Run G E qX6_readLiking 4 0 [(0, .ref (kg_b G + 1)), (1, .ref (kg_b G + o1))] [] M R n 0 0 (kg_V R n K) := by
  unfold wp_X6_readLiking at h1
  refine kr_aload_n 0 dX6_readLiking_0 rfl (k := ?_)
  refine kr_iconst (0 : Int32) dX6_readLiking_1 (k := ?_)
  refine kr_aload_n 1 dX6_readLiking_2 rfl (k := ?_)
  refine kr_getI 1 ckX0 lkF_X6_69 rfl (kg_o0a ho1) (kg_o0n ho1) dX6_readLiking_3 (k := ?_)
  refine kr_iconst (1 : Int32) dX6_readLiking_6 (k := ?_)
  refine kr_isub dX6_readLiking_7 (k := ?_)
  refine kn_callVi [.int (0 : Int32), .int ((M o1 1) - (1 : Int32))] [] mvX6_readNumber lkM_X6_57 (kg_o6a ho) rfl (kg_o6n ho) dX6_readLiking_8 (sp_X6_readNumber ho h1) (fun r4 M2 h3 => ?_)
  refine kr_istore_n [(2, .int r4), (0, .ref (kg_b G + 1)), (1, .ref (kg_b G + o1))] dX6_readLiking_11 (k := ?_)
  refine kr_aload_n 1 dX6_readLiking_12 rfl (k := ?_)
  refine kr_iconst (0 : Int32) dX6_readLiking_13 (k := ?_)
  refine kr_aload_n 2 dX6_readLiking_14 rfl (k := ?_)
  refine kr_getI 1 ckX0 lkF_X6_69 rfl (kg_o0a ho1) (kg_o0n ho1) dX6_readLiking_15 (k := ?_)
  refine kr_iconst (1 : Int32) dX6_readLiking_18 (k := ?_)
  refine kr_isub dX6_readLiking_19 (k := ?_)
  refine kn_callVi [.int (0 : Int32), .int ((M2 o1 1) - (1 : Int32))] [] mvX6_readNumber lkM_X6_57 (kg_o6a ho) rfl (kg_o6n ho) dX6_readLiking_20 (sp_X6_readNumber ho h3) (fun r7 M5 h6 => ?_)
  refine kr_istore_n [(3, .int r7), (2, .int r4), (0, .ref (kg_b G + 1)), (1, .ref (kg_b G + o1))] dX6_readLiking_23 (k := ?_)
  refine kr_iload_n 1 dX6_readLiking_24 rfl (k := ?_)
  refine kr_iload_n 0 dX6_readLiking_25 rfl (k := ?_)
  refine kr_icmp_eq 38 dX6_readLiking_26 (fun c8 => ?_) (fun c8 => ?_)
  · have h9 := h6.1 c8
    refine kr_sub [2, 3, 1, 0] [(0, .ref (kg_b G + 1)), (1, .ref (kg_b G + o1)), (2, .int r4), (3, .int r7)] rfl ?_
    exact sJ_X6_readLiking_38 ho ho1 r4 r7 M5 h9
  · have h10 := h6.2 c8
    refine kr_aload_n 3 dX6_readLiking_29 rfl (k := ?_)
    refine kr_iload_n 1 dX6_readLiking_30 rfl (k := ?_)
    refine kr_iload_n 0 dX6_readLiking_31 rfl (k := ?_)
    refine kn_callVz [.int r4, .int r7] [] mvX0_isTold lkM_X6_75 (kg_o0a ho1) rfl (kg_o0n ho1) dX6_readLiking_32 (sp_X0_isTold ho1 h10) (fun r30 M28 _ h29 => ?_)
    refine kr_if_eq 47 dX6_readLiking_35 (fun c31 => ?_) (fun c31 => ?_)
    · have h32 := h29.1 c31
      refine kr_sub [2, 3, 1, 0] [(0, .ref (kg_b G + 1)), (1, .ref (kg_b G + o1)), (2, .int r4), (3, .int r7)] rfl ?_
      exact sJ_X6_readLiking_47 ho ho1 r4 r7 M28 h32
    · have h33 := h29.2 c31
      refine kr_sub [2, 3, 1, 0] [(0, .ref (kg_b G + 1)), (1, .ref (kg_b G + o1)), (2, .int r4), (3, .int r7)] rfl ?_
      exact sJ_X6_readLiking_38 ho ho1 r4 r7 M28 h33
set_option maxRecDepth 100000 in
set_option maxHeartbeats 4000000 in
theorem sJ_X6_readPerson_15 {G : kg_G} {E : State → Array Value → Prop} {R : kg_R} {n : Nat} {o1 : Nat} {K : kg_M → Prop} (ho : kg_O6 R n 1) (ho1 : kg_O0 R n o1) (M : kg_M) (h5 : wJ_X6_readPerson_15 o1 K M) : kg_Run G E qX6_readPerson 2 15 [(0, .ref (kg_b G + 1)), (1, .ref (kg_b G + o1))] [] M R n 0 0 (kg_V R n K) := by
  unfold wJ_X6_readPerson_15 at h5
  refine kr_aload_n 0 dX6_readPerson_15 rfl (k := ?_)
  refine kr_iconst (0 : Int32) dX6_readPerson_16 (k := ?_)
  refine kr_iconst (1 : Int32) dX6_readPerson_17 (k := ?_)
  refine kn_callVi [.int (0 : Int32), .int (1 : Int32)] [] mvX6_readNumber lkM_X6_57 (kg_o6a ho) rfl (kg_o6n ho) dX6_readPerson_18 (sp_X6_readNumber ho h5) (fun r8 M6 h7 => ?_)
  refine kr_istore_n [(3, .int r8), (0, .ref (kg_b G + 1)), (1, .ref (kg_b G + o1))] dX6_readPerson_21 (k := ?_)
  refine kr_aload_n 1 dX6_readPerson_22 rfl (k := ?_)
  refine kr_iconst (0 : Int32) dX6_readPerson_23 (k := ?_)
  refine kr_iconst (1 : Int32) dX6_readPerson_24 (k := ?_)
  refine kn_callVi [.int (0 : Int32), .int (1 : Int32)] [] mvX6_readNumber lkM_X6_57 (kg_o6a ho) rfl (kg_o6n ho) dX6_readPerson_25 (sp_X6_readNumber ho h7) (fun r11 M9 h10 => ?_)
  refine kr_istore [(4, .int r11), (3, .int r8), (0, .ref (kg_b G + 1)), (1, .ref (kg_b G + o1))] dX6_readPerson_28 (k := ?_)
  refine kr_aload_n 2 dX6_readPerson_30 rfl (k := ?_)
  refine kn_callVz [] [] mvX6_readEnd lkM_X6_61 (kg_o6a ho) rfl (kg_o6n ho) dX6_readPerson_31 (sp_X6_readEnd ho h10) (fun r14 M12 _ h13 => ?_)
  refine kr_if_eq 44 dX6_readPerson_34 (fun c15 => ?_) (fun c15 => ?_)
  · have h16 := h13.1 c15
    exact kr_return dX6_readPerson_44 ⟨rfl, rfl, rfl, h16⟩
  · have h17 := h13.2 c15
    refine kr_aload_n 3 dX6_readPerson_37 rfl (k := ?_)
    refine kr_iload_n 1 dX6_readPerson_38 rfl (k := ?_)
    refine kr_iload 0 dX6_readPerson_39 rfl (k := ?_)
    refine kn_callVv [.int r8, .int r11] [] mvX0_addPerson lkM_X6_72 (kg_o0a ho1) rfl (kg_o0n ho1) dX6_readPerson_41 (sp_X0_addPerson ho1 h17) (fun M18 h19 => ?_)
    exact kr_return dX6_readPerson_44 ⟨rfl, rfl, rfl, h19⟩
set_option maxRecDepth 100000 in
set_option maxHeartbeats 4000000 in
theorem sp_X6_readPerson {G : kg_G} {E : State → Array Value → Prop} {R : kg_R} {n : Nat} {o1 : Nat} {K : kg_M → Prop} (ho : kg_O6 R n 1) (ho1 : kg_O0 R n o1) {v2 : Int32} {M : kg_M} (h1 : wp_X6_readPerson o1 v2 M K) : kg_Run G E qX6_readPerson 2 0 [(0, .ref (kg_b G + 1)), (1, .ref (kg_b G + o1)), (2, .int v2)] [] M R n 0 0 (kg_V R n K) := by
  unfold wp_X6_readPerson at h1
  refine kr_aload_n 1 dX6_readPerson_0 rfl (k := ?_)
  refine kr_getI 1 ckX0 lkF_X6_69 rfl (kg_o0a ho1) (kg_o0n ho1) dX6_readPerson_1 (k := ?_)
  refine kr_bipush (7 : Int32) dX6_readPerson_4 (k := ?_)
  refine kr_icmp_lt 15 dX6_readPerson_6 (fun c2 => ?_) (fun c2 => ?_)
  · have h3 := h1.1 c2
    refine kr_sub [0, 1] [(0, .ref (kg_b G + 1)), (1, .ref (kg_b G + o1))] rfl ?_
    exact sJ_X6_readPerson_15 ho ho1  M h3
  · have h4 := h1.2 c2
    refine kr_aload_n 0 dX6_readPerson_9 rfl (k := ?_)
    refine kr_iconst (3 : Int32) dX6_readPerson_10 (k := ?_)
    refine kr_iload_n 2 dX6_readPerson_11 rfl (k := ?_)
    refine kn_callVv [.int (3 : Int32), .int v2] [] mvX6_blame lkM_X6_50 (kg_o6a ho) rfl (kg_o6n ho) dX6_readPerson_12 (sp_X6_blame ho h4) (fun M21 h22 => ?_)
    refine kr_sub [0, 1] [(0, .ref (kg_b G + 1)), (1, .ref (kg_b G + o1))] rfl ?_
    exact sJ_X6_readPerson_15 ho ho1  M21 h22
set_option maxRecDepth 100000 in
set_option maxHeartbeats 4000000 in
theorem sp_X6_readClause {G : kg_G} {E : State → Array Value → Prop} {R : kg_R} {n : Nat} {o1 : Nat} {K : kg_M → Prop} (ho : kg_O6 R n 1) (ho1 : kg_O0 R n o1) {M : kg_M} (h1 : wp_X6_readClause o1 M K) : kg_Run G E qX6_readClause 5 0 [(0, .ref (kg_b G + 1)), (1, .ref (kg_b G + o1))] [] M R n 0 0 (kg_V R n K) := by
  unfold wp_X6_readClause at h1
  refine kr_aload_n 0 dX6_readClause_0 rfl (k := ?_)
  refine kr_getI 2 ckX6 lkF_X6_19 rfl (kg_o6a ho) (kg_o6n ho) dX6_readClause_1 (k := ?_)
  refine kr_istore_n [(2, .int (M 1 2)), (0, .ref (kg_b G + 1)), (1, .ref (kg_b G + o1))] dX6_readClause_4 (k := ?_)
  refine kr_aload_n 1 dX6_readClause_5 rfl (k := ?_)
  refine kr_dup dX6_readClause_6 (k := ?_)
  refine kr_getI 2 ckX6 lkF_X6_19 rfl (kg_o6a ho) (kg_o6n ho) dX6_readClause_7 (k := ?_)
  refine kr_iconst (1 : Int32) dX6_readClause_10 (k := ?_)
  refine kr_iadd dX6_readClause_11 (k := ?_)
  refine kn_putI 2 ckX6 lkF_X6_19 rfl rfl rfl rfl (kg_o6a ho) (kg_o6n ho) dX6_readClause_12 (fun M2 e3 => ?_)
  have h4 := h1 M2 e3
  refine kr_aload_n 1 dX6_readClause_15 rfl (k := ?_)
  refine kr_getR 0 ckX6 lkF_X6_9 rfl (kg_o6a ho) (kg_o6n ho) (kg_o6r0 ho) dX6_readClause_16 (k := ?_)
  refine kr_iload_n 0 dX6_readClause_19 rfl (k := ?_)
  obtain ⟨h5, h6⟩ := h4
  refine kr_iald (kg_o6s0 ho) (kg_o6m0 ho) h5 dX6_readClause_20 (k := ?_)
  by_cases c8 : (M2 2 (M 1 2).toNatClampNeg) = (103 : Int32)
  · have h9 := h6.1 c8
    refine kr_lookup (off := 35) 56 dX6_readClause_21 (by decide) (by rw [c8]; decide) (by decide) ?_
    refine kr_aload_n 1 dX6_readClause_56 rfl (k := ?_)
    refine kr_aload_n 2 dX6_readClause_57 rfl (k := ?_)
    refine kr_iload_n 0 dX6_readClause_58 rfl (k := ?_)
    refine kn_callVv [.ref (kg_b G + o1), .int (M 1 2)] [] mvX6_readGate lkM_X6_40 (kg_o6a ho) rfl (kg_o6n ho) dX6_readClause_59 (sp_X6_readGate ho ho1 h9) (fun M11 h12 => ?_)
    refine kr_goto 88 dX6_readClause_62 ?_
    exact kr_return dX6_readClause_88 ⟨rfl, rfl, rfl, h12⟩
  · have h10 := h6.2 c8
    by_cases c14 : (M2 2 (M 1 2).toNatClampNeg) = (108 : Int32)
    · have h15 := h10.1 c14
      refine kr_lookup (off := 53) 74 dX6_readClause_21 (by decide) (by rw [c14]; decide) (by decide) ?_
      refine kr_aload_n 1 dX6_readClause_74 rfl (k := ?_)
      refine kr_aload_n 2 dX6_readClause_75 rfl (k := ?_)
      refine kn_callVv [.ref (kg_b G + o1)] [] mvX6_readLiking lkM_X6_47 (kg_o6a ho) rfl (kg_o6n ho) dX6_readClause_76 (sp_X6_readLiking ho ho1 h15) (fun M17 h18 => ?_)
      refine kr_goto 88 dX6_readClause_79 ?_
      exact kr_return dX6_readClause_88 ⟨rfl, rfl, rfl, h18⟩
    · have h16 := h10.2 c14
      by_cases c20 : (M2 2 (M 1 2).toNatClampNeg) = (112 : Int32)
      · have h21 := h16.1 c20
        refine kr_lookup (off := 44) 65 dX6_readClause_21 (by decide) (by rw [c20]; decide) (by decide) ?_
        refine kr_aload_n 1 dX6_readClause_65 rfl (k := ?_)
        refine kr_aload_n 2 dX6_readClause_66 rfl (k := ?_)
        refine kr_iload_n 0 dX6_readClause_67 rfl (k := ?_)
        refine kn_callVv [.ref (kg_b G + o1), .int (M 1 2)] [] mvX6_readPerson lkM_X6_44 (kg_o6a ho) rfl (kg_o6n ho) dX6_readClause_68 (sp_X6_readPerson ho ho1 h21) (fun M23 h24 => ?_)
        refine kr_goto 88 dX6_readClause_71 ?_
        exact kr_return dX6_readClause_88 ⟨rfl, rfl, rfl, h24⟩
      · have h22 := h16.2 c20
        have e0_ : (M2 2 (M 1 2).toNatClampNeg).toInt ≠ (103 : Int) := fun e => c8 (Int32.toInt_inj.mp (e.trans (by decide)))
        have e1_ : (M2 2 (M 1 2).toNatClampNeg).toInt ≠ (108 : Int) := fun e => c14 (Int32.toInt_inj.mp (e.trans (by decide)))
        have e2_ : (M2 2 (M 1 2).toNatClampNeg).toInt ≠ (112 : Int) := fun e => c20 (Int32.toInt_inj.mp (e.trans (by decide)))
        refine kr_lookup (off := 61) 82 dX6_readClause_21 (by decide) (by simp [Op.lookupswitch.offset, e0_, Ne.symm e0_, e1_, Ne.symm e1_, e2_, Ne.symm e2_]) (by decide) ?_
        refine kr_aload_n 1 dX6_readClause_82 rfl (k := ?_)
        refine kr_iconst (1 : Int32) dX6_readClause_83 (k := ?_)
        refine kr_iload_n 0 dX6_readClause_84 rfl (k := ?_)
        refine kn_callVv [.int (1 : Int32), .int (M 1 2)] [] mvX6_blame lkM_X6_50 (kg_o6a ho) rfl (kg_o6n ho) dX6_readClause_85 (sp_X6_blame ho h22) (fun M27 h28 => ?_)
        exact kr_return dX6_readClause_88 ⟨rfl, rfl, rfl, h28⟩
set_option maxRecDepth 100000 in
set_option maxHeartbeats 4000000 in
theorem sL_X6_readInto_25 {G : kg_G} {E : State → Array Value → Prop} {R : kg_R} {n : Nat} {o1 : Nat} {K : Int32 → kg_M → Prop} (ho : kg_O6 R n 1) (ho1 : kg_O0 R n o1) {Kx65 : kg_M → Prop} (hKx65 : ∀ (M : kg_M), Kx65 M → kg_Run G E qX6_readInto 6 65 [(0, .ref (kg_b G + 1))] [] M R n 0 0 (kg_I R n K)) : ∀ (f : Nat) (v2 : Int32) (M : kg_M), wL_X6_readInto_25 o1 Kx65 K f v2 M → kg_Run G E qX6_readInto 6 25 [(0, .ref (kg_b G + 1)), (1, .ref (kg_b G + o1)), (2, .int v2)] [] M R n 0 0 (kg_I R n K) := by
  intro f
  induction f with
  | zero => intro v2 M h0; exact h0.elim
  | succ f ih =>
    intro v2 M h17
    rw [wL_X6_readInto_25] at h17
    refine kr_iload_n 2 dX6_readInto_25 rfl (k := ?_)
    refine kr_sipush (240 : Int32) dX6_readInto_26 (k := ?_)
    refine kr_icmp_ge 65 dX6_readInto_29 (fun c18 => ?_) (fun c18 => ?_)
    · have h19 := h17.1 c18
      refine kr_sub [0] [(0, .ref (kg_b G + 1))] rfl ?_
      exact hKx65  M h19
    · have h20 := h17.2 c18
      refine kr_aload_n 0 dX6_readInto_32 rfl (k := ?_)
      refine kr_getI 4 ckX6 lkF_X6_22 rfl (kg_o6a ho) (kg_o6n ho) dX6_readInto_33 (k := ?_)
      refine kr_if_ne 65 dX6_readInto_36 (fun c21 => ?_) (fun c21 => ?_)
      · have h22 := h20.1 c21
        refine kr_sub [0] [(0, .ref (kg_b G + 1))] rfl ?_
        exact hKx65  M h22
      · have h23 := h20.2 c21
        refine kr_aload_n 0 dX6_readInto_39 rfl (k := ?_)
        refine kr_getI 2 ckX6 lkF_X6_19 rfl (kg_o6a ho) (kg_o6n ho) dX6_readInto_40 (k := ?_)
        refine kr_aload_n 0 dX6_readInto_43 rfl (k := ?_)
        refine kr_getI 1 ckX6 lkF_X6_15 rfl (kg_o6a ho) (kg_o6n ho) dX6_readInto_44 (k := ?_)
        refine kr_icmp_ge 65 dX6_readInto_47 (fun c24 => ?_) (fun c24 => ?_)
        · have h25 := h23.1 c24
          refine kr_sub [0] [(0, .ref (kg_b G + 1))] rfl ?_
          exact hKx65  M h25
        · have h26 := h23.2 c24
          refine kr_aload_n 0 dX6_readInto_50 rfl (k := ?_)
          refine kr_aload_n 1 dX6_readInto_51 rfl (k := ?_)
          refine kn_callVv [.ref (kg_b G + o1)] [] mvX6_readClause lkM_X6_36 (kg_o6a ho) rfl (kg_o6n ho) dX6_readInto_52 (sp_X6_readClause ho ho1 h26) (fun M27 h28 => ?_)
          refine kr_aload_n 0 dX6_readInto_55 rfl (k := ?_)
          refine kn_callVv [] [] mvX6_skipBlanks lkM_X6_33 (kg_o6a ho) rfl (kg_o6n ho) dX6_readInto_56 (sp_X6_skipBlanks ho h28) (fun M30 h31 => ?_)
          refine kr_iinc (1 : Int32) 2 [(2, .int (v2 + (1 : Int32))), (0, .ref (kg_b G + 1)), (1, .ref (kg_b G + o1))] dX6_readInto_59 rfl (k := ?_)
          refine kr_goto 25 dX6_readInto_62 ?_
          refine kr_sub [1, 2, 0] [(0, .ref (kg_b G + 1)), (1, .ref (kg_b G + o1)), (2, .int (v2 + (1 : Int32)))] rfl ?_
          exact ih (v2 + (1 : Int32)) M30 h31
set_option maxRecDepth 100000 in
set_option maxHeartbeats 4000000 in
theorem sp_X6_readInto {G : kg_G} {E : State → Array Value → Prop} {R : kg_R} {n : Nat} {o1 : Nat} {K : Int32 → kg_M → Prop} (ho : kg_O6 R n 1) (ho1 : kg_O0 R n o1) {M : kg_M} (h1 : wp_X6_readInto o1 M K) : kg_Run G E qX6_readInto 6 0 [(0, .ref (kg_b G + 1)), (1, .ref (kg_b G + o1))] [] M R n 0 0 (kg_I R n K) := by
  unfold wp_X6_readInto at h1
  refine kr_aload_n 0 dX6_readInto_0 rfl (k := ?_)
  refine kr_iconst (0 : Int32) dX6_readInto_1 (k := ?_)
  refine kn_putI 2 ckX6 lkF_X6_19 rfl rfl rfl rfl (kg_o6a ho) (kg_o6n ho) dX6_readInto_2 (fun M2 e3 => ?_)
  have h4 := h1 M2 e3
  refine kr_aload_n 0 dX6_readInto_5 rfl (k := ?_)
  refine kr_iconst (0 : Int32) dX6_readInto_6 (k := ?_)
  refine kn_putI 4 ckX6 lkF_X6_22 rfl rfl rfl rfl (kg_o6a ho) (kg_o6n ho) dX6_readInto_7 (fun M5 e6 => ?_)
  have h7 := h4 M5 e6
  refine kr_aload_n 0 dX6_readInto_10 rfl (k := ?_)
  refine kr_iconst (-1 : Int32) dX6_readInto_11 (k := ?_)
  refine kn_putI 5 ckX6 lkF_X6_25 rfl rfl rfl rfl (kg_o6a ho) (kg_o6n ho) dX6_readInto_12 (fun M8 e9 => ?_)
  have h10 := h7 M8 e9
  refine kr_aload_n 1 dX6_readInto_15 rfl (k := ?_)
  refine kn_callVv [] [] mvX0_empty lkM_X6_28 (kg_o0a ho1) rfl (kg_o0n ho1) dX6_readInto_16 (sp_X0_empty ho1 h10) (fun M11 h12 => ?_)
  refine kr_aload_n 0 dX6_readInto_19 rfl (k := ?_)
  refine kn_callVv [] [] mvX6_skipBlanks lkM_X6_33 (kg_o6a ho) rfl (kg_o6n ho) dX6_readInto_20 (sp_X6_skipBlanks ho h12) (fun M14 h15 => ?_)
  refine kr_iconst (0 : Int32) dX6_readInto_23 (k := ?_)
  refine kr_istore_n [(2, .int (0 : Int32)), (0, .ref (kg_b G + 1)), (1, .ref (kg_b G + o1))] dX6_readInto_24 (k := ?_)
  refine kr_sub [1, 2, 0] [(0, .ref (kg_b G + 1)), (1, .ref (kg_b G + o1)), (2, .int (0 : Int32))] rfl ?_
  obtain ⟨f34, h35⟩ := h15
  refine sL_X6_readInto_25 ho ho1 ?_ f34 (0 : Int32) M14 h35
  · intro  M h33
    refine kr_aload_n 0 dX6_readInto_65 rfl (k := ?_)
    refine kr_getI 4 ckX6 lkF_X6_22 rfl (kg_o6a ho) (kg_o6n ho) dX6_readInto_66 (k := ?_)
    exact kr_ireturn dX6_readInto_69 ⟨rfl, rfl, _, rfl, h33⟩
set_option maxRecDepth 100000 in
set_option maxHeartbeats 4000000 in
theorem sL_X7_greatestPart_5 {G : kg_G} {E : State → Array Value → Prop} {R : kg_R} {n : Nat} {L S : Nat} {K : Int32 → kg_M → Prop} (hk : kg_O7 R n L S) {Kx51 : Int32 → Int32 → kg_M → Prop} (hKx51 : ∀ (v1 : Int32) (v3 : Int32) (M : kg_M), Kx51 v1 v3 M → kg_Run G E qX7_greatestPart 1 51 [(1, .int v1), (3, .int v3)] [] M R n 0 0 (kg_I R n K)) : ∀ (f : Nat) (v1 : Int32) (v2 : Int32) (v3 : Int32) (v4 : Int32) (M : kg_M), wL_X7_greatestPart_5 L Kx51 K f v1 v2 v3 v4 M → kg_Run G E qX7_greatestPart 1 5 [(0, .ref (kg_b G + 0)), (1, .int v1), (2, .int v2), (3, .int v3), (4, .int v4)] [] M R n 0 0 (kg_I R n K) := by
  intro f
  induction f with
  | zero => intro v1 v2 v3 v4 M h0; exact h0.elim
  | succ f ih =>
    intro v1 v2 v3 v4 M h2
    rw [wL_X7_greatestPart_5] at h2
    refine kr_iload 4 dX7_greatestPart_5 rfl (k := ?_)
    refine kr_aload_n 0 dX7_greatestPart_7 rfl (k := ?_)
    refine kr_getR 10 ckX7 lkF_X7_69 rfl (kg_o7a hk) (kg_o7n hk) (kg_o7r10 hk) dX7_greatestPart_8 (k := ?_)
    refine kr_getI 1 ckX0 lkF_X7_110 rfl (kg_o0a (kg_o7_land hk)) (kg_o0n (kg_o7_land hk)) dX7_greatestPart_11 (k := ?_)
    refine kr_icmp_ge 51 dX7_greatestPart_14 (fun c3 => ?_) (fun c3 => ?_)
    · have h4 := h2.1 c3
      refine kr_sub [1, 3] [(1, .int v1), (3, .int v3)] rfl ?_
      exact hKx51 v1 v3 M h4
    · have h5 := h2.2 c3
      refine kr_iload_n 1 dX7_greatestPart_17 rfl (k := ?_)
      refine kr_iload 4 dX7_greatestPart_18 rfl (k := ?_)
      refine kr_ishr dX7_greatestPart_20 (k := ?_)
      refine kr_iconst (1 : Int32) dX7_greatestPart_21 (k := ?_)
      refine kr_iand dX7_greatestPart_22 (k := ?_)
      refine kr_iconst (1 : Int32) dX7_greatestPart_23 (k := ?_)
      refine kr_icmp_ne 45 dX7_greatestPart_24 (fun c6 => ?_) (fun c6 => ?_)
      · have h7 := h5.1 c6
        refine kr_iinc (1 : Int32) 4 [(4, .int (v4 + (1 : Int32))), (0, .ref (kg_b G + 0)), (1, .int v1), (2, .int v2), (3, .int v3)] dX7_greatestPart_45 rfl (k := ?_)
        refine kr_goto 5 dX7_greatestPart_48 ?_
        refine kr_sub [1, 2, 3, 4, 0] [(0, .ref (kg_b G + 0)), (1, .int v1), (2, .int v2), (3, .int v3), (4, .int (v4 + (1 : Int32)))] rfl ?_
        exact ih v1 v2 v3 (v4 + (1 : Int32)) M h7
      · have h8 := h5.2 c6
        refine kr_aload_n 0 dX7_greatestPart_27 rfl (k := ?_)
        refine kr_getR 9 ckX7 lkF_X7_63 rfl (kg_o7a hk) (kg_o7n hk) (kg_o7r9 hk) dX7_greatestPart_28 (k := ?_)
        refine kr_iload 4 dX7_greatestPart_31 rfl (k := ?_)
        obtain ⟨h9, h10⟩ := h8
        refine kr_iald (kg_o7s9 hk) (kg_o7m9 hk) h9 dX7_greatestPart_33 (k := ?_)
        refine kr_iload_n 2 dX7_greatestPart_34 rfl (k := ?_)
        refine kr_ishr dX7_greatestPart_35 (k := ?_)
        refine kr_iconst (1 : Int32) dX7_greatestPart_36 (k := ?_)
        refine kr_iand dX7_greatestPart_37 (k := ?_)
        refine kr_iconst (1 : Int32) dX7_greatestPart_38 (k := ?_)
        refine kr_icmp_ne 45 dX7_greatestPart_39 (fun c11 => ?_) (fun c11 => ?_)
        · have h12 := h10.1 c11
          refine kr_iinc (1 : Int32) 4 [(4, .int (v4 + (1 : Int32))), (0, .ref (kg_b G + 0)), (1, .int v1), (2, .int v2), (3, .int v3)] dX7_greatestPart_45 rfl (k := ?_)
          refine kr_goto 5 dX7_greatestPart_48 ?_
          refine kr_sub [1, 2, 3, 4, 0] [(0, .ref (kg_b G + 0)), (1, .int v1), (2, .int v2), (3, .int v3), (4, .int (v4 + (1 : Int32)))] rfl ?_
          exact ih v1 v2 v3 (v4 + (1 : Int32)) M h12
        · have h13 := h10.2 c11
          refine kr_iinc (1 : Int32) 3 [(3, .int (v3 + (1 : Int32))), (0, .ref (kg_b G + 0)), (1, .int v1), (2, .int v2), (4, .int v4)] dX7_greatestPart_42 rfl (k := ?_)
          refine kr_iinc (1 : Int32) 4 [(4, .int (v4 + (1 : Int32))), (3, .int (v3 + (1 : Int32))), (0, .ref (kg_b G + 0)), (1, .int v1), (2, .int v2)] dX7_greatestPart_45 rfl (k := ?_)
          refine kr_goto 5 dX7_greatestPart_48 ?_
          refine kr_sub [2, 3, 4, 1, 0] [(0, .ref (kg_b G + 0)), (1, .int v1), (2, .int v2), (3, .int (v3 + (1 : Int32))), (4, .int (v4 + (1 : Int32)))] rfl ?_
          exact ih v1 v2 (v3 + (1 : Int32)) (v4 + (1 : Int32)) M h13
set_option maxRecDepth 100000 in
set_option maxHeartbeats 4000000 in
theorem sp_X7_greatestPart {G : kg_G} {E : State → Array Value → Prop} {R : kg_R} {n : Nat} {L S : Nat} {K : Int32 → kg_M → Prop} (hk : kg_O7 R n L S) {v1 : Int32} {v2 : Int32} {M : kg_M} (h1 : wp_X7_greatestPart L v1 v2 M K) : kg_Run G E qX7_greatestPart 1 0 [(0, .ref (kg_b G + 0)), (1, .int v1), (2, .int v2)] [] M R n 0 0 (kg_I R n K) := by
  unfold wp_X7_greatestPart at h1
  refine kr_iconst (0 : Int32) dX7_greatestPart_0 (k := ?_)
  refine kr_istore_n [(3, .int (0 : Int32)), (0, .ref (kg_b G + 0)), (1, .int v1), (2, .int v2)] dX7_greatestPart_1 (k := ?_)
  refine kr_iconst (0 : Int32) dX7_greatestPart_2 (k := ?_)
  refine kr_istore [(4, .int (0 : Int32)), (3, .int (0 : Int32)), (0, .ref (kg_b G + 0)), (1, .int v1), (2, .int v2)] dX7_greatestPart_3 (k := ?_)
  refine kr_sub [2, 3, 4, 1, 0] [(0, .ref (kg_b G + 0)), (1, .int v1), (2, .int v2), (3, .int (0 : Int32)), (4, .int (0 : Int32))] rfl ?_
  obtain ⟨f18, h19⟩ := h1
  refine sL_X7_greatestPart_5 hk ?_ f18 v1 v2 (0 : Int32) (0 : Int32) M h19
  · intro v1 v3 M h14
    refine kr_iload_n 1 dX7_greatestPart_51 rfl (k := ?_)
    refine kr_iload_n 0 dX7_greatestPart_52 rfl (k := ?_)
    refine kn_callSi [.int v1] [.int v3] msJ6_bitCount_0f7a4 lkM_X7_243 dX7_greatestPart_53 (sp_J6_bitCount_0f7a4  h14) (fun r17 M15 h16 => ?_)
    refine kr_iload_n 1 dX7_greatestPart_56 rfl (k := ?_)
    refine kr_isub dX7_greatestPart_57 (k := ?_)
    refine kr_mmax lkM_X7_248 (Nat.le_of_ble_eq_true rfl) dX7_greatestPart_58 (k := ?_)
    exact kr_ireturn dX7_greatestPart_61 ⟨rfl, rfl, _, rfl, h16⟩
set_option maxRecDepth 100000 in
set_option maxHeartbeats 4000000 in
theorem sL_X7_mayBe_4 {G : kg_G} {E : State → Array Value → Prop} {R : kg_R} {n : Nat} {L S : Nat} {K : Int32 → kg_M → Prop} (hk : kg_O7 R n L S) {Kx45 : Int32 → kg_M → Prop} (hKx45 : ∀ (v1 : Int32) (M : kg_M), Kx45 v1 M → kg_Run G E qX7_mayBe 1 45 [(1, .int v1)] [] M R n 0 0 (kg_I R n K)) : ∀ (f : Nat) (v1 : Int32) (v2 : Int32) (M : kg_M), wL_X7_mayBe_4 L Kx45 K f v1 v2 M → kg_Run G E qX7_mayBe 1 4 [(0, .ref (kg_b G + 0)), (1, .int v1), (2, .int v2)] [] M R n 0 0 (kg_I R n K) := by
  intro f
  induction f with
  | zero => intro v1 v2 M h0; exact h0.elim
  | succ f ih =>
    intro v1 v2 M h2
    rw [wL_X7_mayBe_4] at h2
    refine kr_iload_n 2 dX7_mayBe_4 rfl (k := ?_)
    refine kr_aload_n 0 dX7_mayBe_5 rfl (k := ?_)
    refine kr_getR 10 ckX7 lkF_X7_69 rfl (kg_o7a hk) (kg_o7n hk) (kg_o7r10 hk) dX7_mayBe_6 (k := ?_)
    refine kr_getI 1 ckX0 lkF_X7_110 rfl (kg_o0a (kg_o7_land hk)) (kg_o0n (kg_o7_land hk)) dX7_mayBe_9 (k := ?_)
    refine kr_icmp_ge 45 dX7_mayBe_12 (fun c3 => ?_) (fun c3 => ?_)
    · have h4 := h2.1 c3
      refine kr_sub [1] [(1, .int v1)] rfl ?_
      exact hKx45 v1 M h4
    · have h5 := h2.2 c3
      refine kr_aload_n 0 dX7_mayBe_15 rfl (k := ?_)
      refine kr_getR 3 ckX7 lkF_X7_33 rfl (kg_o7a hk) (kg_o7n hk) (kg_o7r3 hk) dX7_mayBe_16 (k := ?_)
      refine kr_aload_n 0 dX7_mayBe_19 rfl (k := ?_)
      refine kr_getR 1 ckX7 lkF_X7_19 rfl (kg_o7a hk) (kg_o7n hk) (kg_o7r1 hk) dX7_mayBe_20 (k := ?_)
      refine kr_iload_n 2 dX7_mayBe_23 rfl (k := ?_)
      refine kn_callVi [.int v2] [.ref (kg_b G + 89)] mvX5_madeIllBy lkM_X7_237 (kg_o5a (kg_o7_state hk)) rfl (kg_o5n (kg_o7_state hk)) dX7_mayBe_24 (sp_X5_madeIllBy (kg_o7_state hk) h5) (fun r8 M6 h7 => ?_)
      refine kn_callVz [.int r8] [] mvX2_allows lkM_X7_261 (kg_o2a (kg_o7_notes hk)) rfl (kg_o2n (kg_o7_notes hk)) dX7_mayBe_27 (sp_X2_allows (kg_o7_notes hk) h7) (fun r11 M9 _ h10 => ?_)
      refine kr_if_eq 39 dX7_mayBe_30 (fun c12 => ?_) (fun c12 => ?_)
      · have h13 := h10.1 c12
        refine kr_iinc (1 : Int32) 2 [(2, .int (v2 + (1 : Int32))), (0, .ref (kg_b G + 0)), (1, .int v1)] dX7_mayBe_39 rfl (k := ?_)
        refine kr_goto 4 dX7_mayBe_42 ?_
        refine kr_sub [1, 2, 0] [(0, .ref (kg_b G + 0)), (1, .int v1), (2, .int (v2 + (1 : Int32)))] rfl ?_
        exact ih v1 (v2 + (1 : Int32)) M9 h13
      · have h14 := h10.2 c12
        refine kr_iload_n 1 dX7_mayBe_33 rfl (k := ?_)
        refine kr_iconst (1 : Int32) dX7_mayBe_34 (k := ?_)
        refine kr_iload_n 2 dX7_mayBe_35 rfl (k := ?_)
        refine kr_ishl dX7_mayBe_36 (k := ?_)
        refine kr_ior dX7_mayBe_37 (k := ?_)
        refine kr_istore_n [(1, .int (v1 ||| ((1 : Int32) <<< (v2 &&& 31)))), (0, .ref (kg_b G + 0)), (2, .int v2)] dX7_mayBe_38 (k := ?_)
        refine kr_iinc (1 : Int32) 2 [(2, .int (v2 + (1 : Int32))), (1, .int (v1 ||| ((1 : Int32) <<< (v2 &&& 31)))), (0, .ref (kg_b G + 0))] dX7_mayBe_39 rfl (k := ?_)
        refine kr_goto 4 dX7_mayBe_42 ?_
        refine kr_sub [2, 1, 0] [(0, .ref (kg_b G + 0)), (1, .int (v1 ||| ((1 : Int32) <<< (v2 &&& 31)))), (2, .int (v2 + (1 : Int32)))] rfl ?_
        exact ih (v1 ||| ((1 : Int32) <<< (v2 &&& 31))) (v2 + (1 : Int32)) M9 h14
set_option maxRecDepth 100000 in
set_option maxHeartbeats 4000000 in
theorem sp_X7_mayBe {G : kg_G} {E : State → Array Value → Prop} {R : kg_R} {n : Nat} {L S : Nat} {K : Int32 → kg_M → Prop} (hk : kg_O7 R n L S) {M : kg_M} (h1 : wp_X7_mayBe L M K) : kg_Run G E qX7_mayBe 1 0 [(0, .ref (kg_b G + 0))] [] M R n 0 0 (kg_I R n K) := by
  unfold wp_X7_mayBe at h1
  refine kr_iconst (0 : Int32) dX7_mayBe_0 (k := ?_)
  refine kr_istore_n [(1, .int (0 : Int32)), (0, .ref (kg_b G + 0))] dX7_mayBe_1 (k := ?_)
  refine kr_iconst (0 : Int32) dX7_mayBe_2 (k := ?_)
  refine kr_istore_n [(2, .int (0 : Int32)), (1, .int (0 : Int32)), (0, .ref (kg_b G + 0))] dX7_mayBe_3 (k := ?_)
  refine kr_sub [2, 1, 0] [(0, .ref (kg_b G + 0)), (1, .int (0 : Int32)), (2, .int (0 : Int32))] rfl ?_
  obtain ⟨f16, h17⟩ := h1
  refine sL_X7_mayBe_4 hk ?_ f16 (0 : Int32) (0 : Int32) M h17
  · intro v1 M h15
    refine kr_iload_n 0 dX7_mayBe_45 rfl (k := ?_)
    exact kr_ireturn dX7_mayBe_46 ⟨rfl, rfl, _, rfl, h15⟩
set_option maxRecDepth 100000 in
set_option maxHeartbeats 4000000 in
theorem sL_X7_ask_7 {G : kg_G} {E : State → Array Value → Prop} {R : kg_R} {n : Nat} {L S : Nat} {K : Int32 → kg_M → Prop} (hk : kg_O7 R n L S) {Kx38 : Int32 → kg_M → Prop} (hKx38 : ∀ (v1 : Int32) (M : kg_M), Kx38 v1 M → kg_Run G E qX7_ask 2 38 [(0, .ref (kg_b G + 0)), (1, .int v1)] [] M R n 0 0 (kg_I R n K)) : ∀ (f : Nat) (v1 : Int32) (v2 : Int32) (M : kg_M), wL_X7_ask_7 L Kx38 K f v1 v2 M → kg_Run G E qX7_ask 2 7 [(0, .ref (kg_b G + 0)), (1, .int v1), (2, .int v2)] [] M R n 0 0 (kg_I R n K) := by
  intro f
  induction f with
  | zero => intro v1 v2 M h0; exact h0.elim
  | succ f ih =>
    intro v1 v2 M h5
    rw [wL_X7_ask_7] at h5
    refine kr_iload_n 2 dX7_ask_7 rfl (k := ?_)
    refine kr_aload_n 0 dX7_ask_8 rfl (k := ?_)
    refine kr_getR 10 ckX7 lkF_X7_69 rfl (kg_o7a hk) (kg_o7n hk) (kg_o7r10 hk) dX7_ask_9 (k := ?_)
    refine kr_getI 1 ckX0 lkF_X7_110 rfl (kg_o0a (kg_o7_land hk)) (kg_o0n (kg_o7_land hk)) dX7_ask_12 (k := ?_)
    refine kr_icmp_ge 38 dX7_ask_15 (fun c6 => ?_) (fun c6 => ?_)
    · have h7 := h5.1 c6
      refine kr_sub [0, 1] [(0, .ref (kg_b G + 0)), (1, .int v1)] rfl ?_
      exact hKx38 v1 M h7
    · have h8 := h5.2 c6
      refine kr_aload_n 0 dX7_ask_18 rfl (k := ?_)
      refine kr_getR 9 ckX7 lkF_X7_63 rfl (kg_o7a hk) (kg_o7n hk) (kg_o7r9 hk) dX7_ask_19 (k := ?_)
      refine kr_iload_n 2 dX7_ask_22 rfl (k := ?_)
      refine kr_aload_n 0 dX7_ask_23 rfl (k := ?_)
      refine kr_getR 1 ckX7 lkF_X7_19 rfl (kg_o7a hk) (kg_o7n hk) (kg_o7r1 hk) dX7_ask_24 (k := ?_)
      refine kr_iload_n 2 dX7_ask_27 rfl (k := ?_)
      refine kn_callVi [.int v2] [.int v2, .ref (kg_b G + 108)] mvX5_madeIllBy lkM_X7_237 (kg_o5a (kg_o7_state hk)) rfl (kg_o5n (kg_o7_state hk)) dX7_ask_28 (sp_X5_madeIllBy (kg_o7_state hk) h8) (fun r11 M9 h10 => ?_)
      obtain ⟨h12, h13⟩ := h10
      refine kn_iast (kg_o7s9 hk) (kg_o7m9 hk) h12 dX7_ask_31 (fun M14 e15 => ?_)
      have h16 := h13 M14 e15
      refine kr_iinc (1 : Int32) 2 [(2, .int (v2 + (1 : Int32))), (0, .ref (kg_b G + 0)), (1, .int v1)] dX7_ask_32 rfl (k := ?_)
      refine kr_goto 7 dX7_ask_35 ?_
      refine kr_sub [1, 2, 0] [(0, .ref (kg_b G + 0)), (1, .int v1), (2, .int (v2 + (1 : Int32)))] rfl ?_
      exact ih v1 (v2 + (1 : Int32)) M14 h16
set_option maxRecDepth 100000 in
set_option maxHeartbeats 4000000 in
theorem sL_X7_ask_48 {G : kg_G} {E : State → Array Value → Prop} {R : kg_R} {n : Nat} {L S : Nat} {K : Int32 → kg_M → Prop} (hk : kg_O7 R n L S) {Kx87 : Int32 → kg_M → Prop} (hKx87 : ∀ (v2 : Int32) (M : kg_M), Kx87 v2 M → kg_Run G E qX7_ask 2 87 [(2, .int v2)] [] M R n 0 0 (kg_I R n K)) : ∀ (f : Nat) (v1 : Int32) (v2 : Int32) (v3 : Int32) (v4 : Int32) (M : kg_M), wL_X7_ask_48 L Kx87 K f v1 v2 v3 v4 M → kg_Run G E qX7_ask 2 48 [(0, .ref (kg_b G + 0)), (1, .int v1), (2, .int v2), (3, .int v3), (4, .int v4)] [] M R n 0 0 (kg_I R n K) := by
  intro f
  induction f with
  | zero => intro v1 v2 v3 v4 M h0; exact h0.elim
  | succ f ih =>
    intro v1 v2 v3 v4 M h21
    rw [wL_X7_ask_48] at h21
    refine kr_iload 4 dX7_ask_48 rfl (k := ?_)
    refine kr_aload_n 0 dX7_ask_50 rfl (k := ?_)
    refine kr_getR 10 ckX7 lkF_X7_69 rfl (kg_o7a hk) (kg_o7n hk) (kg_o7r10 hk) dX7_ask_51 (k := ?_)
    refine kr_getI 1 ckX0 lkF_X7_110 rfl (kg_o0a (kg_o7_land hk)) (kg_o0n (kg_o7_land hk)) dX7_ask_54 (k := ?_)
    refine kr_icmp_ge 87 dX7_ask_57 (fun c22 => ?_) (fun c22 => ?_)
    · have h23 := h21.1 c22
      refine kr_sub [2] [(2, .int v2)] rfl ?_
      exact hKx87 v2 M h23
    · have h24 := h21.2 c22
      refine kr_aload_n 0 dX7_ask_60 rfl (k := ?_)
      refine kr_iload_n 1 dX7_ask_61 rfl (k := ?_)
      refine kr_iload 4 dX7_ask_62 rfl (k := ?_)
      refine kn_callVi [.int v1, .int v4] [] mvX7_greatestPart lkM_X7_267 (kg_o7a hk) rfl (kg_o7n hk) dX7_ask_64 (sp_X7_greatestPart hk h24) (fun r27 M25 h26 => ?_)
      refine kr_istore [(5, .int r27), (0, .ref (kg_b G + 0)), (1, .int v1), (2, .int v2), (3, .int v3), (4, .int v4)] dX7_ask_67 (k := ?_)
      refine kr_iload 0 dX7_ask_69 rfl (k := ?_)
      refine kr_iload_n 4 dX7_ask_71 rfl (k := ?_)
      refine kr_icmp_ge 81 dX7_ask_72 (fun c28 => ?_) (fun c28 => ?_)
      · have h29 := h26.1 c28
        refine kr_iinc (1 : Int32) 5 [(4, .int (v4 + (1 : Int32))), (5, .int r27), (0, .ref (kg_b G + 0)), (1, .int v1), (2, .int v2), (3, .int v3)] dX7_ask_81 rfl (k := ?_)
        refine kr_goto 48 dX7_ask_84 ?_
        refine kr_sub [2, 3, 4, 5, 0] [(0, .ref (kg_b G + 0)), (1, .int v1), (2, .int v2), (3, .int v3), (4, .int (v4 + (1 : Int32)))] rfl ?_
        exact ih v1 v2 v3 (v4 + (1 : Int32)) M25 h29
      · have h30 := h26.2 c28
        refine kr_iload 5 dX7_ask_75 rfl (k := ?_)
        refine kr_istore_n [(2, .int v4), (5, .int r27), (0, .ref (kg_b G + 0)), (1, .int v1), (3, .int v3), (4, .int v4)] dX7_ask_77 (k := ?_)
        refine kr_iload 1 dX7_ask_78 rfl (k := ?_)
        refine kr_istore_n [(3, .int r27), (2, .int v4), (5, .int r27), (0, .ref (kg_b G + 0)), (1, .int v1), (4, .int v4)] dX7_ask_80 (k := ?_)
        refine kr_iinc (1 : Int32) 5 [(4, .int (v4 + (1 : Int32))), (3, .int r27), (2, .int v4), (5, .int r27), (0, .ref (kg_b G + 0)), (1, .int v1)] dX7_ask_81 rfl (k := ?_)
        refine kr_goto 48 dX7_ask_84 ?_
        refine kr_sub [4, 5, 2, 1, 0] [(0, .ref (kg_b G + 0)), (1, .int v1), (2, .int v4), (3, .int r27), (4, .int (v4 + (1 : Int32)))] rfl ?_
        exact ih v1 v4 r27 (v4 + (1 : Int32)) M25 h30
set_option maxRecDepth 100000 in
set_option maxHeartbeats 4000000 in
theorem sp_X7_ask {G : kg_G} {E : State → Array Value → Prop} {R : kg_R} {n : Nat} {L S : Nat} {K : Int32 → kg_M → Prop} (hk : kg_O7 R n L S) {M : kg_M} (h1 : wp_X7_ask L M K) : kg_Run G E qX7_ask 2 0 [(0, .ref (kg_b G + 0))] [] M R n 0 0 (kg_I R n K) := by
  unfold wp_X7_ask at h1
  refine kr_aload_n 0 dX7_ask_0 rfl (k := ?_)
  refine kn_callVi [] [] mvX7_mayBe lkM_X7_264 (kg_o7a hk) rfl (kg_o7n hk) dX7_ask_1 (sp_X7_mayBe hk h1) (fun r4 M2 h3 => ?_)
  refine kr_istore_n [(1, .int r4), (0, .ref (kg_b G + 0))] dX7_ask_4 (k := ?_)
  refine kr_iconst (0 : Int32) dX7_ask_5 (k := ?_)
  refine kr_istore_n [(2, .int (0 : Int32)), (1, .int r4), (0, .ref (kg_b G + 0))] dX7_ask_6 (k := ?_)
  refine kr_sub [2, 1, 0] [(0, .ref (kg_b G + 0)), (1, .int r4), (2, .int (0 : Int32))] rfl ?_
  obtain ⟨f34, h35⟩ := h3
  refine sL_X7_ask_7 hk ?_ f34 r4 (0 : Int32) M2 h35
  · intro v1 M h17
    refine kr_iconst (-1 : Int32) dX7_ask_38 (k := ?_)
    refine kr_istore_n [(2, .int (-1 : Int32)), (0, .ref (kg_b G + 0)), (1, .int v1)] dX7_ask_39 (k := ?_)
    refine kr_iload_n 2 dX7_ask_40 rfl (k := ?_)
    refine kn_callSi [.int v1] [] msJ6_bitCount_0f7a4 lkM_X7_243 dX7_ask_41 (sp_J6_bitCount_0f7a4  h17) (fun r20 M18 h19 => ?_)
    refine kr_istore_n [(3, .int r20), (2, .int (-1 : Int32)), (0, .ref (kg_b G + 0)), (1, .int v1)] dX7_ask_44 (k := ?_)
    refine kr_iconst (0 : Int32) dX7_ask_45 (k := ?_)
    refine kr_istore [(4, .int (0 : Int32)), (3, .int r20), (2, .int (-1 : Int32)), (0, .ref (kg_b G + 0)), (1, .int v1)] dX7_ask_46 (k := ?_)
    refine kr_sub [3, 4, 2, 1, 0] [(0, .ref (kg_b G + 0)), (1, .int v1), (2, .int (-1 : Int32)), (3, .int r20), (4, .int (0 : Int32))] rfl ?_
    obtain ⟨f32, h33⟩ := h19
    refine sL_X7_ask_48 hk ?_ f32 v1 (-1 : Int32) r20 (0 : Int32) M18 h33
    · intro v2 M h31
      refine kr_iload_n 0 dX7_ask_87 rfl (k := ?_)
      exact kr_ireturn dX7_ask_88 ⟨rfl, rfl, _, rfl, h31⟩
set_option maxRecDepth 100000 in
set_option maxHeartbeats 4000000 in
theorem sp_X7_openGates {G : kg_G} {E : State → Array Value → Prop} {R : kg_R} {n : Nat} {L S : Nat} {K : Int32 → kg_M → Prop} (hk : kg_O7 R n L S) {M : kg_M} (h1 : wp_X7_openGates L M K) : kg_Run G E qX7_openGates 2 0 [(0, .ref (kg_b G + 0))] [] M R n 0 0 (kg_I R n K) := by
  unfold wp_X7_openGates at h1
  refine kr_aload_n 0 dX7_openGates_0 rfl (k := ?_)
  refine kr_getR 10 ckX7 lkF_X7_69 rfl (kg_o7a hk) (kg_o7n hk) (kg_o7r10 hk) dX7_openGates_1 (k := ?_)
  refine kr_getI 0 ckX0 lkF_X7_113 rfl (kg_o0a (kg_o7_land hk)) (kg_o0n (kg_o7_land hk)) dX7_openGates_4 (k := ?_)
  refine kr_aload_n 0 dX7_openGates_7 rfl (k := ?_)
  refine kr_getR 1 ckX7 lkF_X7_19 rfl (kg_o7a hk) (kg_o7n hk) (kg_o7r1 hk) dX7_openGates_8 (k := ?_)
  refine kr_aload_n 0 dX7_openGates_11 rfl (k := ?_)
  refine kr_getR 10 ckX7 lkF_X7_69 rfl (kg_o7a hk) (kg_o7n hk) (kg_o7r10 hk) dX7_openGates_12 (k := ?_)
  refine kn_callVi [.ref (kg_b G + L)] [.int (M L 0)] mvX5_rusted lkM_X7_134 (kg_o5a (kg_o7_state hk)) rfl (kg_o5n (kg_o7_state hk)) dX7_openGates_15 (sp_X5_rusted (kg_o7_state hk) (kg_o7_land hk) h1) (fun r4 M2 h3 => ?_)
  refine kn_callSi [.int r4] [.int (M L 0)] msJ6_bitCount_0f7a4 lkM_X7_243 dX7_openGates_18 (sp_J6_bitCount_0f7a4  h3) (fun r7 M5 h6 => ?_)
  refine kr_isub dX7_openGates_21 (k := ?_)
  exact kr_ireturn dX7_openGates_22 ⟨rfl, rfl, _, rfl, h6⟩
set_option maxRecDepth 100000 in
set_option maxHeartbeats 4000000 in
theorem sJ_X7_atOnce_25 {G : kg_G} {E : State → Array Value → Prop} {R : kg_R} {n : Nat} {L S : Nat} {K : Int32 → kg_M → Prop} (hk : kg_O7 R n L S) (hn : ¬ n < kg_all) (v1 : Int32) (M : kg_M) (h5 : wJ_X7_atOnce_25 L K v1 M) : kg_Run G E qX7_atOnce 16 25 [(0, .ref (kg_b G + 0)), (1, .int v1)] [] M R n 0 0 (kg_I R n K) := by
  unfold wJ_X7_atOnce_25 at h5
  refine kr_aload_n 0 dX7_atOnce_25 rfl (k := ?_)
  refine kr_getR 4 ckX7 lkF_X7_40 rfl (kg_o7a hk) (kg_o7n hk) (kg_o7r4 hk) dX7_atOnce_26 (k := ?_)
  refine kr_aload_n 0 dX7_atOnce_29 rfl (k := ?_)
  refine kr_getR 10 ckX7 lkF_X7_69 rfl (kg_o7a hk) (kg_o7n hk) (kg_o7r10 hk) dX7_atOnce_30 (k := ?_)
  refine kr_aload_n 0 dX7_atOnce_33 rfl (k := ?_)
  refine kr_getR 1 ckX7 lkF_X7_19 rfl (kg_o7a hk) (kg_o7n hk) (kg_o7r1 hk) dX7_atOnce_34 (k := ?_)
  refine kr_getI 3 ckX5 lkF_X7_125 rfl (kg_o5a (kg_o7_state hk)) (kg_o5n (kg_o7_state hk)) dX7_atOnce_37 (k := ?_)
  refine kr_aload_n 0 dX7_atOnce_40 rfl (k := ?_)
  refine kn_callVi [] [.int (M 3 3), .ref (kg_b G + L), .ref (kg_b G + 92)] mvX7_openGates lkM_X7_207 (kg_o7a hk) rfl (kg_o7n hk) dX7_atOnce_41 (sp_X7_openGates hk h5) (fun r8 M6 h7 => ?_)
  refine kn_callVv [.ref (kg_b G + L), .int (M 3 3), .int r8] [] mvX3_find lkM_X7_211 (kg_o3a (kg_o7_pairing hk)) rfl (kg_o3n (kg_o7_pairing hk)) dX7_atOnce_44 (sp_X3_find (kg_o7_pairing hk) (kg_o7_land hk) hn h7) (fun M9 h10 => ?_)
  refine kr_iload_n 1 dX7_atOnce_47 rfl (k := ?_)
  refine kr_iconst (-1 : Int32) dX7_atOnce_48 (k := ?_)
  refine kr_icmp_ne 60 dX7_atOnce_49 (fun c12 => ?_) (fun c12 => ?_)
  · have h13 := h10.1 c12
    refine kr_iload_n 1 dX7_atOnce_60 rfl (k := ?_)
    refine kr_bipush (-2 : Int32) dX7_atOnce_61 (k := ?_)
    refine kr_icmp_ne 74 dX7_atOnce_63 (fun c15 => ?_) (fun c15 => ?_)
    · have h16 := h13.1 c15
      refine kr_aload_n 0 dX7_atOnce_74 rfl (k := ?_)
      refine kr_getR 4 ckX7 lkF_X7_40 rfl (kg_o7a hk) (kg_o7n hk) (kg_o7r4 hk) dX7_atOnce_75 (k := ?_)
      refine kr_getR 0 ckX3 lkF_X7_220 rfl (kg_o3a (kg_o7_pairing hk)) (kg_o3n (kg_o7_pairing hk)) (kg_o3r0 (kg_o7_pairing hk)) dX7_atOnce_78 (k := ?_)
      refine kr_iload_n 1 dX7_atOnce_81 rfl (k := ?_)
      obtain ⟨h18, h19⟩ := h16
      refine kr_iald (kg_o3s0 (kg_o7_pairing hk)) (kg_o3m0 (kg_o7_pairing hk)) h18 dX7_atOnce_82 (k := ?_)
      exact kr_ireturn dX7_atOnce_83 ⟨rfl, rfl, _, rfl, h19⟩
    · have h17 := h13.2 c15
      refine kr_aload_n 0 dX7_atOnce_66 rfl (k := ?_)
      refine kr_getR 4 ckX7 lkF_X7_40 rfl (kg_o7a hk) (kg_o7n hk) (kg_o7r4 hk) dX7_atOnce_67 (k := ?_)
      refine kr_getI 3 ckX3 lkF_X7_218 rfl (kg_o3a (kg_o7_pairing hk)) (kg_o3n (kg_o7_pairing hk)) dX7_atOnce_70 (k := ?_)
      exact kr_ireturn dX7_atOnce_73 ⟨rfl, rfl, _, rfl, h17⟩
  · have h14 := h10.2 c12
    refine kr_aload_n 0 dX7_atOnce_52 rfl (k := ?_)
    refine kr_getR 4 ckX7 lkF_X7_40 rfl (kg_o7a hk) (kg_o7n hk) (kg_o7r4 hk) dX7_atOnce_53 (k := ?_)
    refine kr_getI 2 ckX3 lkF_X7_215 rfl (kg_o3a (kg_o7_pairing hk)) (kg_o3n (kg_o7_pairing hk)) dX7_atOnce_56 (k := ?_)
    exact kr_ireturn dX7_atOnce_59 ⟨rfl, rfl, _, rfl, h14⟩
set_option maxRecDepth 100000 in
set_option maxHeartbeats 4000000 in
theorem sp_X7_atOnce {G : kg_G} {E : State → Array Value → Prop} {R : kg_R} {n : Nat} {L S : Nat} {K : Int32 → kg_M → Prop} (hk : kg_O7 R n L S) (hn : ¬ n < kg_all) {v1 : Int32} {M : kg_M} (h1 : wp_X7_atOnce L v1 M K) : kg_Run G E qX7_atOnce 16 0 [(0, .ref (kg_b G + 0)), (1, .int v1)] [] M R n 0 0 (kg_I R n K) := by
  unfold wp_X7_atOnce at h1
  refine kr_iload_n 1 dX7_atOnce_0 rfl (k := ?_)
  refine kr_iconst (-1 : Int32) dX7_atOnce_1 (k := ?_)
  refine kr_icmp_eq 25 dX7_atOnce_2 (fun c2 => ?_) (fun c2 => ?_)
  · have h3 := h1.1 c2
    refine kr_sub [0, 1] [(0, .ref (kg_b G + 0)), (1, .int v1)] rfl ?_
    exact sJ_X7_atOnce_25 hk hn v1 M h3
  · have h4 := h1.2 c2
    refine kr_iload_n 1 dX7_atOnce_5 rfl (k := ?_)
    refine kr_bipush (-2 : Int32) dX7_atOnce_6 (k := ?_)
    refine kr_icmp_eq 25 dX7_atOnce_8 (fun c20 => ?_) (fun c20 => ?_)
    · have h21 := h4.1 c20
      refine kr_sub [0, 1] [(0, .ref (kg_b G + 0)), (1, .int v1)] rfl ?_
      exact sJ_X7_atOnce_25 hk hn v1 M h21
    · have h22 := h4.2 c20
      refine kr_aload_n 0 dX7_atOnce_11 rfl (k := ?_)
      refine kr_getR 10 ckX7 lkF_X7_69 rfl (kg_o7a hk) (kg_o7n hk) (kg_o7r10 hk) dX7_atOnce_12 (k := ?_)
      refine kr_iload_n 1 dX7_atOnce_15 rfl (k := ?_)
      refine kn_callVz [.int v1] [] mvX0_hasPerson lkM_X7_168 (kg_o0a (kg_o7_land hk)) rfl (kg_o0n (kg_o7_land hk)) dX7_atOnce_16 (sp_X0_hasPerson (kg_o7_land hk) h22) (fun r25 M23 _ h24 => ?_)
      refine kr_if_ne 25 dX7_atOnce_19 (fun c26 => ?_) (fun c26 => ?_)
      · have h27 := h24.1 c26
        refine kr_sub [0, 1] [(0, .ref (kg_b G + 0)), (1, .int v1)] rfl ?_
        exact sJ_X7_atOnce_25 hk hn v1 M23 h27
      · have h28 := h24.2 c26
        refine kr_ldc dX7_atOnce_22 lkC_X7_153 (k := ?_)
        exact kr_ireturn dX7_atOnce_24 ⟨rfl, rfl, _, rfl, h28⟩
set_option maxRecDepth 100000 in
set_option maxHeartbeats 4000000 in
theorem sp_X7_come {G : kg_G} {E : State → Array Value → Prop} {R : kg_R} {n : Nat} {L S : Nat} {K : Int32 → kg_M → Prop} (hk : kg_O7 R n L S) (hn : ¬ n < kg_all) {v1 : Int32} {v2 : Int32} {M : kg_M} (h1 : wp_X7_come L v1 v2 M K) : kg_Run G E qX7_come 2 0 [(0, .ref (kg_b G + 0)), (1, .int v1), (2, .int v2)] [] M R n 0 0 (kg_I R n K) := by
  unfold wp_X7_come at h1
  refine kr_aload_n 0 dX7_come_0 rfl (k := ?_)
  refine kr_getR 10 ckX7 lkF_X7_69 rfl (kg_o7a hk) (kg_o7n hk) (kg_o7r10 hk) dX7_come_1 (k := ?_)
  refine kr_iload_n 1 dX7_come_4 rfl (k := ?_)
  refine kn_callVz [.int v1] [] mvX0_hasPerson lkM_X7_168 (kg_o0a (kg_o7_land hk)) rfl (kg_o0n (kg_o7_land hk)) dX7_come_5 (sp_X0_hasPerson (kg_o7_land hk) h1) (fun r4 M2 _ h3 => ?_)
  refine kr_if_eq 22 dX7_come_8 (fun c5 => ?_) (fun c5 => ?_)
  · have h6 := h3.1 c5
    refine kr_ldc dX7_come_22 lkC_X7_153 (k := ?_)
    exact kr_ireturn dX7_come_24 ⟨rfl, rfl, _, rfl, h6⟩
  · have h7 := h3.2 c5
    refine kr_aload_n 0 dX7_come_11 rfl (k := ?_)
    refine kr_getR 10 ckX7 lkF_X7_69 rfl (kg_o7a hk) (kg_o7n hk) (kg_o7r10 hk) dX7_come_12 (k := ?_)
    refine kr_iload_n 2 dX7_come_15 rfl (k := ?_)
    refine kn_callVz [.int v2] [] mvX0_hasGate lkM_X7_149 (kg_o0a (kg_o7_land hk)) rfl (kg_o0n (kg_o7_land hk)) dX7_come_16 (sp_X0_hasGate (kg_o7_land hk) h7) (fun r10 M8 _ h9 => ?_)
    refine kr_if_ne 25 dX7_come_19 (fun c11 => ?_) (fun c11 => ?_)
    · have h12 := h9.1 c11
      refine kr_aload_n 0 dX7_come_25 rfl (k := ?_)
      refine kr_getR 1 ckX7 lkF_X7_19 rfl (kg_o7a hk) (kg_o7n hk) (kg_o7r1 hk) dX7_come_26 (k := ?_)
      refine kr_aload_n 0 dX7_come_29 rfl (k := ?_)
      refine kr_getR 10 ckX7 lkF_X7_69 rfl (kg_o7a hk) (kg_o7n hk) (kg_o7r10 hk) dX7_come_30 (k := ?_)
      refine kr_iload_n 2 dX7_come_33 rfl (k := ?_)
      refine kn_callVz [.ref (kg_b G + L), .int v2] [] mvX5_isRusted lkM_X7_160 (kg_o5a (kg_o7_state hk)) rfl (kg_o5n (kg_o7_state hk)) dX7_come_34 (sp_X5_isRusted (kg_o7_state hk) (kg_o7_land hk) h12) (fun r16 M14 _ h15 => ?_)
      refine kr_if_ne 53 dX7_come_37 (fun c17 => ?_) (fun c17 => ?_)
      · have h18 := h15.1 c17
        refine kr_ldc dX7_come_53 lkC_X7_194 (k := ?_)
        exact kr_ireturn dX7_come_55 ⟨rfl, rfl, _, rfl, h18⟩
      · have h19 := h15.2 c17
        refine kr_aload_n 0 dX7_come_40 rfl (k := ?_)
        refine kr_getR 1 ckX7 lkF_X7_19 rfl (kg_o7a hk) (kg_o7n hk) (kg_o7r1 hk) dX7_come_41 (k := ?_)
        refine kr_getR 6 ckX5 lkF_X7_171 rfl (kg_o5a (kg_o7_state hk)) (kg_o5n (kg_o7_state hk)) (kg_o5r6 (kg_o7_state hk)) dX7_come_44 (k := ?_)
        refine kr_iload_n 1 dX7_come_47 rfl (k := ?_)
        obtain ⟨h20, h21⟩ := h19
        refine kr_iald (kg_o5s6 (kg_o7_state hk)) (kg_o5m6 (kg_o7_state hk)) h20 dX7_come_48 (k := ?_)
        refine kr_iload_n 2 dX7_come_49 rfl (k := ?_)
        refine kr_icmp_ne 56 dX7_come_50 (fun c22 => ?_) (fun c22 => ?_)
        · have h23 := h21.1 c22
          refine kr_aload_n 0 dX7_come_56 rfl (k := ?_)
          refine kr_getR 2 ckX7 lkF_X7_26 rfl (kg_o7a hk) (kg_o7n hk) (kg_o7r2 hk) dX7_come_57 (k := ?_)
          refine kr_aload_n 0 dX7_come_60 rfl (k := ?_)
          refine kr_getR 1 ckX7 lkF_X7_19 rfl (kg_o7a hk) (kg_o7n hk) (kg_o7r1 hk) dX7_come_61 (k := ?_)
          refine kn_callVv [.ref (kg_b G + 3)] [] mvX4_remember lkM_X7_187 (kg_o4a (kg_o7_past hk)) rfl (kg_o4n (kg_o7_past hk)) dX7_come_64 (sp_X4_remember (kg_o7_past hk) (kg_o7_state hk) hn h23) (fun M25 h26 => ?_)
          refine kr_aload_n 0 dX7_come_67 rfl (k := ?_)
          refine kr_getR 1 ckX7 lkF_X7_19 rfl (kg_o7a hk) (kg_o7n hk) (kg_o7r1 hk) dX7_come_68 (k := ?_)
          refine kr_getR 6 ckX5 lkF_X7_171 rfl (kg_o5a (kg_o7_state hk)) (kg_o5n (kg_o7_state hk)) (kg_o5r6 (kg_o7_state hk)) dX7_come_71 (k := ?_)
          refine kr_iload_n 1 dX7_come_74 rfl (k := ?_)
          refine kr_iload_n 2 dX7_come_75 rfl (k := ?_)
          obtain ⟨h28, h29⟩ := h26
          refine kn_iast (kg_o5s6 (kg_o7_state hk)) (kg_o5m6 (kg_o7_state hk)) h28 dX7_come_76 (fun M30 e31 => ?_)
          have h32 := h29 M30 e31
          refine kr_aload_n 0 dX7_come_77 rfl (k := ?_)
          refine kr_getR 1 ckX7 lkF_X7_19 rfl (kg_o7a hk) (kg_o7n hk) (kg_o7r1 hk) dX7_come_78 (k := ?_)
          refine kr_aload_n 0 dX7_come_81 rfl (k := ?_)
          refine kr_getR 10 ckX7 lkF_X7_69 rfl (kg_o7a hk) (kg_o7n hk) (kg_o7r10 hk) dX7_come_82 (k := ?_)
          refine kr_iload_n 2 dX7_come_85 rfl (k := ?_)
          refine kn_callVi [.ref (kg_b G + L), .int v2] [] mvX5_waitingAt lkM_X7_164 (kg_o5a (kg_o7_state hk)) rfl (kg_o5n (kg_o7_state hk)) dX7_come_86 (sp_X5_waitingAt (kg_o7_state hk) (kg_o7_land hk) h32) (fun r35 M33 h34 => ?_)
          exact kr_ireturn dX7_come_89 ⟨rfl, rfl, _, rfl, h34⟩
        · have h24 := h21.2 c22
          refine kr_ldc dX7_come_53 lkC_X7_194 (k := ?_)
          exact kr_ireturn dX7_come_55 ⟨rfl, rfl, _, rfl, h24⟩
    · have h13 := h9.2 c11
      refine kr_ldc dX7_come_22 lkC_X7_153 (k := ?_)
      exact kr_ireturn dX7_come_24 ⟨rfl, rfl, _, rfl, h13⟩
set_option maxRecDepth 100000 in
set_option maxHeartbeats 4000000 in
theorem sp_X7_draw {G : kg_G} {E : State → Array Value → Prop} {R : kg_R} {n : Nat} {L S : Nat} {K : Int32 → kg_M → Prop} (hk : kg_O7 R n L S) {v1 : Int32} {M : kg_M} (h1 : wp_X7_draw L v1 M K) : kg_Run G E qX7_draw 0 0 [(0, .ref (kg_b G + 0)), (1, .int v1)] [] M R n 0 0 (kg_I R n K) := by
  unfold wp_X7_draw at h1
  refine kr_aload_n 0 dX7_draw_0 rfl (k := ?_)
  refine kr_aload_n 0 dX7_draw_1 rfl (k := ?_)
  refine kr_getI 13 ckX7 lkF_X7_87 rfl (kg_o7a hk) (kg_o7n hk) dX7_draw_2 (k := ?_)
  refine kr_ldc dX7_draw_5 lkC_X7_204 (k := ?_)
  refine kr_imul dX7_draw_7 (k := ?_)
  refine kr_sipush (12345 : Int32) dX7_draw_8 (k := ?_)
  refine kr_iadd dX7_draw_11 (k := ?_)
  refine kr_ldc dX7_draw_12 lkC_X7_205 (k := ?_)
  refine kr_iand dX7_draw_14 (k := ?_)
  refine kn_putI 13 ckX7 lkF_X7_87 rfl rfl rfl rfl (kg_o7a hk) (kg_o7n hk) dX7_draw_15 (fun M2 e3 => ?_)
  have h4 := h1 M2 e3
  refine kr_iload_n 1 dX7_draw_18 rfl (k := ?_)
  refine kr_if_le 34 dX7_draw_19 (fun c5 => ?_) (fun c5 => ?_)
  · have h6 := h4.1 c5
    refine kr_iconst (0 : Int32) dX7_draw_34 (k := ?_)
    exact kr_ireturn dX7_draw_35 ⟨rfl, rfl, _, rfl, h6⟩
  · have h7 := h4.2 c5
    refine kr_aload_n 0 dX7_draw_22 rfl (k := ?_)
    refine kr_getI 13 ckX7 lkF_X7_87 rfl (kg_o7a hk) (kg_o7n hk) dX7_draw_23 (k := ?_)
    refine kr_ldc dX7_draw_26 lkC_X7_206 (k := ?_)
    refine kr_idiv dX7_draw_28 (by decide) (k := ?_)
    refine kr_iload_n 1 dX7_draw_29 rfl (k := ?_)
    obtain ⟨h8, h9⟩ := h7
    refine kr_irem dX7_draw_30 h8 (k := ?_)
    refine kr_goto 35 dX7_draw_31 ?_
    exact kr_ireturn dX7_draw_35 ⟨rfl, rfl, _, rfl, h9⟩
set_option maxRecDepth 100000 in
set_option maxHeartbeats 4000000 in
theorem sp_X7_comeByDraw {G : kg_G} {E : State → Array Value → Prop} {R : kg_R} {n : Nat} {L S : Nat} {K : kg_M → Prop} (hk : kg_O7 R n L S) {M : kg_M} (h1 : wp_X7_comeByDraw L M K) : kg_Run G E qX7_comeByDraw 1 0 [(0, .ref (kg_b G + 0))] [] M R n 0 0 (kg_V R n K) := by
  unfold wp_X7_comeByDraw at h1
  refine kr_aload_n 0 dX7_comeByDraw_0 rfl (k := ?_)
  refine kr_getR 10 ckX7 lkF_X7_69 rfl (kg_o7a hk) (kg_o7n hk) (kg_o7r10 hk) dX7_comeByDraw_1 (k := ?_)
  refine kr_getI 1 ckX0 lkF_X7_110 rfl (kg_o0a (kg_o7_land hk)) (kg_o0n (kg_o7_land hk)) dX7_comeByDraw_4 (k := ?_)
  refine kr_if_eq 20 dX7_comeByDraw_7 (fun c2 => ?_) (fun c2 => ?_)
  · have h3 := h1.1 c2
    exact kr_return dX7_comeByDraw_20 ⟨rfl, rfl, rfl, h3⟩
  · have h4 := h1.2 c2
    refine kr_aload_n 0 dX7_comeByDraw_10 rfl (k := ?_)
    refine kr_getR 10 ckX7 lkF_X7_69 rfl (kg_o7a hk) (kg_o7n hk) (kg_o7r10 hk) dX7_comeByDraw_11 (k := ?_)
    refine kr_getI 0 ckX0 lkF_X7_113 rfl (kg_o0a (kg_o7_land hk)) (kg_o0n (kg_o7_land hk)) dX7_comeByDraw_14 (k := ?_)
    refine kr_if_ne 21 dX7_comeByDraw_17 (fun c5 => ?_) (fun c5 => ?_)
    · have h6 := h4.1 c5
      refine kr_aload_n 0 dX7_comeByDraw_21 rfl (k := ?_)
      refine kr_aload_n 0 dX7_comeByDraw_22 rfl (k := ?_)
      refine kr_getR 10 ckX7 lkF_X7_69 rfl (kg_o7a hk) (kg_o7n hk) (kg_o7r10 hk) dX7_comeByDraw_23 (k := ?_)
      refine kr_getI 1 ckX0 lkF_X7_110 rfl (kg_o0a (kg_o7_land hk)) (kg_o0n (kg_o7_land hk)) dX7_comeByDraw_26 (k := ?_)
      refine kn_callVi [.int (M L 1)] [] mvX7_draw lkM_X7_201 (kg_o7a hk) rfl (kg_o7n hk) dX7_comeByDraw_29 (sp_X7_draw hk h6) (fun r10 M8 h9 => ?_)
      refine kr_istore_n [(1, .int r10), (0, .ref (kg_b G + 0))] dX7_comeByDraw_32 (k := ?_)
      refine kr_aload_n 1 dX7_comeByDraw_33 rfl (k := ?_)
      refine kr_aload_n 1 dX7_comeByDraw_34 rfl (k := ?_)
      refine kr_getR 10 ckX7 lkF_X7_69 rfl (kg_o7a hk) (kg_o7n hk) (kg_o7r10 hk) dX7_comeByDraw_35 (k := ?_)
      refine kr_getI 0 ckX0 lkF_X7_113 rfl (kg_o0a (kg_o7_land hk)) (kg_o0n (kg_o7_land hk)) dX7_comeByDraw_38 (k := ?_)
      refine kn_callVi [.int (M8 L 0)] [] mvX7_draw lkM_X7_201 (kg_o7a hk) rfl (kg_o7n hk) dX7_comeByDraw_41 (sp_X7_draw hk h9) (fun r13 M11 h12 => ?_)
      refine kr_istore_n [(2, .int r13), (1, .int r10), (0, .ref (kg_b G + 0))] dX7_comeByDraw_44 (k := ?_)
      refine kr_aload_n 2 dX7_comeByDraw_45 rfl (k := ?_)
      refine kr_getR 1 ckX7 lkF_X7_19 rfl (kg_o7a hk) (kg_o7n hk) (kg_o7r1 hk) dX7_comeByDraw_46 (k := ?_)
      refine kr_aload_n 2 dX7_comeByDraw_49 rfl (k := ?_)
      refine kr_getR 10 ckX7 lkF_X7_69 rfl (kg_o7a hk) (kg_o7n hk) (kg_o7r10 hk) dX7_comeByDraw_50 (k := ?_)
      refine kr_iload_n 0 dX7_comeByDraw_53 rfl (k := ?_)
      refine kn_callVz [.ref (kg_b G + L), .int r13] [] mvX5_isRusted lkM_X7_160 (kg_o5a (kg_o7_state hk)) rfl (kg_o5n (kg_o7_state hk)) dX7_comeByDraw_54 (sp_X5_isRusted (kg_o7_state hk) (kg_o7_land hk) h12) (fun r16 M14 _ h15 => ?_)
      refine kr_if_ne 70 dX7_comeByDraw_57 (fun c17 => ?_) (fun c17 => ?_)
      · have h18 := h15.1 c17
        exact kr_return dX7_comeByDraw_70 ⟨rfl, rfl, rfl, h18⟩
      · have h19 := h15.2 c17
        refine kr_aload_n 2 dX7_comeByDraw_60 rfl (k := ?_)
        refine kr_getR 1 ckX7 lkF_X7_19 rfl (kg_o7a hk) (kg_o7n hk) (kg_o7r1 hk) dX7_comeByDraw_61 (k := ?_)
        refine kr_getR 6 ckX5 lkF_X7_171 rfl (kg_o5a (kg_o7_state hk)) (kg_o5n (kg_o7_state hk)) (kg_o5r6 (kg_o7_state hk)) dX7_comeByDraw_64 (k := ?_)
        refine kr_iload_n 1 dX7_comeByDraw_67 rfl (k := ?_)
        refine kr_iload_n 0 dX7_comeByDraw_68 rfl (k := ?_)
        obtain ⟨h20, h21⟩ := h19
        refine kn_iast (kg_o5s6 (kg_o7_state hk)) (kg_o5m6 (kg_o7_state hk)) h20 dX7_comeByDraw_69 (fun M22 e23 => ?_)
        have h24 := h21 M22 e23
        exact kr_return dX7_comeByDraw_70 ⟨rfl, rfl, rfl, h24⟩
    · have h7 := h4.2 c5
      exact kr_return dX7_comeByDraw_20 ⟨rfl, rfl, rfl, h7⟩
set_option maxRecDepth 100000 in
set_option maxHeartbeats 4000000 in
theorem sL_X7_dies_19 {G : kg_G} {E : State → Array Value → Prop} {R : kg_R} {n : Nat} {L S : Nat} {K : Int32 → kg_M → Prop} (hk : kg_O7 R n L S) {Kx82 : Int32 → Int32 → Int32 → kg_M → Prop} (hKx82 : ∀ (v1 : Int32) (v2 : Int32) (v3 : Int32) (M : kg_M), Kx82 v1 v2 v3 M → kg_Run G E qX7_dies 0 82 [(1, .int v1), (2, .int v2), (3, .int v3)] [] M R n 0 0 (kg_I R n K)) : ∀ (f : Nat) (v1 : Int32) (v2 : Int32) (v3 : Int32) (v4 : Int32) (M : kg_M), wL_X7_dies_19 L Kx82 K f v1 v2 v3 v4 M → kg_Run G E qX7_dies 0 19 [(0, .ref (kg_b G + 0)), (1, .int v1), (2, .int v2), (3, .int v3), (4, .int v4)] [] M R n 0 0 (kg_I R n K) := by
  intro f
  induction f with
  | zero => intro v1 v2 v3 v4 M h0; exact h0.elim
  | succ f ih =>
    intro v1 v2 v3 v4 M h5
    rw [wL_X7_dies_19] at h5
    refine kr_iload 4 dX7_dies_19 rfl (k := ?_)
    refine kr_aload_n 0 dX7_dies_21 rfl (k := ?_)
    refine kr_getR 10 ckX7 lkF_X7_69 rfl (kg_o7a hk) (kg_o7n hk) (kg_o7r10 hk) dX7_dies_22 (k := ?_)
    refine kr_getI 0 ckX0 lkF_X7_113 rfl (kg_o0a (kg_o7_land hk)) (kg_o0n (kg_o7_land hk)) dX7_dies_25 (k := ?_)
    refine kr_icmp_ge 82 dX7_dies_28 (fun c6 => ?_) (fun c6 => ?_)
    · have h7 := h5.1 c6
      refine kr_sub [1, 2, 3] [(1, .int v1), (2, .int v2), (3, .int v3)] rfl ?_
      exact hKx82 v1 v2 v3 M h7
    · have h8 := h5.2 c6
      refine kr_aload_n 0 dX7_dies_31 rfl (k := ?_)
      refine kr_getR 10 ckX7 lkF_X7_69 rfl (kg_o7a hk) (kg_o7n hk) (kg_o7r10 hk) dX7_dies_32 (k := ?_)
      refine kr_getR 4 ckX0 lkF_X7_154 rfl (kg_o0a (kg_o7_land hk)) (kg_o0n (kg_o7_land hk)) (kg_o0r4 (kg_o7_land hk)) dX7_dies_35 (k := ?_)
      refine kr_iload 4 dX7_dies_38 rfl (k := ?_)
      obtain ⟨h9, h10⟩ := h8
      refine kr_iald (kg_o0s4 (kg_o7_land hk)) (kg_o0m4 (kg_o7_land hk)) h9 dX7_dies_40 (k := ?_)
      refine kr_aload_n 0 dX7_dies_41 rfl (k := ?_)
      refine kr_getR 1 ckX7 lkF_X7_19 rfl (kg_o7a hk) (kg_o7n hk) (kg_o7r1 hk) dX7_dies_42 (k := ?_)
      refine kr_getR 7 ckX5 lkF_X7_157 rfl (kg_o5a (kg_o7_state hk)) (kg_o5n (kg_o7_state hk)) (kg_o5r7 (kg_o7_state hk)) dX7_dies_45 (k := ?_)
      refine kr_iload 4 dX7_dies_48 rfl (k := ?_)
      obtain ⟨h11, h12⟩ := h10
      refine kr_iald (kg_o5s7 (kg_o7_state hk)) (kg_o5m7 (kg_o7_state hk)) h11 dX7_dies_50 (k := ?_)
      refine kr_isub dX7_dies_51 (k := ?_)
      refine kr_istore [(5, .int ((M (L + 1) v4.toNatClampNeg) - (M 5 v4.toNatClampNeg))), (0, .ref (kg_b G + 0)), (1, .int v1), (2, .int v2), (3, .int v3), (4, .int v4)] dX7_dies_52 (k := ?_)
      refine kr_iload 0 dX7_dies_54 rfl (k := ?_)
      refine kr_if_le 76 dX7_dies_56 (fun c13 => ?_) (fun c13 => ?_)
      · have h14 := h12.1 c13
        refine kr_iinc (1 : Int32) 5 [(4, .int (v4 + (1 : Int32))), (5, .int ((M (L + 1) v4.toNatClampNeg) - (M 5 v4.toNatClampNeg))), (0, .ref (kg_b G + 0)), (1, .int v1), (2, .int v2), (3, .int v3)] dX7_dies_76 rfl (k := ?_)
        refine kr_goto 19 dX7_dies_79 ?_
        refine kr_sub [2, 3, 4, 5, 0] [(0, .ref (kg_b G + 0)), (1, .int v1), (2, .int v2), (3, .int v3), (4, .int (v4 + (1 : Int32)))] rfl ?_
        exact ih v1 v2 v3 (v4 + (1 : Int32)) M h14
      · have h15 := h12.2 c13
        refine kr_iload_n 3 dX7_dies_59 rfl (k := ?_)
        refine kr_iconst (-1 : Int32) dX7_dies_60 (k := ?_)
        refine kr_icmp_eq 70 dX7_dies_61 (fun c16 => ?_) (fun c16 => ?_)
        · have h17 := h15.1 c16
          refine kr_iload 5 dX7_dies_70 rfl (k := ?_)
          refine kr_istore_n [(2, .int v4), (5, .int ((M (L + 1) v4.toNatClampNeg) - (M 5 v4.toNatClampNeg))), (0, .ref (kg_b G + 0)), (1, .int v1), (3, .int v3), (4, .int v4)] dX7_dies_72 (k := ?_)
          refine kr_iload 1 dX7_dies_73 rfl (k := ?_)
          refine kr_istore_n [(3, .int ((M (L + 1) v4.toNatClampNeg) - (M 5 v4.toNatClampNeg))), (2, .int v4), (5, .int ((M (L + 1) v4.toNatClampNeg) - (M 5 v4.toNatClampNeg))), (0, .ref (kg_b G + 0)), (1, .int v1), (4, .int v4)] dX7_dies_75 (k := ?_)
          refine kr_iinc (1 : Int32) 5 [(4, .int (v4 + (1 : Int32))), (3, .int ((M (L + 1) v4.toNatClampNeg) - (M 5 v4.toNatClampNeg))), (2, .int v4), (5, .int ((M (L + 1) v4.toNatClampNeg) - (M 5 v4.toNatClampNeg))), (0, .ref (kg_b G + 0)), (1, .int v1)] dX7_dies_76 rfl (k := ?_)
          refine kr_goto 19 dX7_dies_79 ?_
          refine kr_sub [4, 5, 2, 1, 0] [(0, .ref (kg_b G + 0)), (1, .int v1), (2, .int v4), (3, .int ((M (L + 1) v4.toNatClampNeg) - (M 5 v4.toNatClampNeg))), (4, .int (v4 + (1 : Int32)))] rfl ?_
          exact ih v1 v4 ((M (L + 1) v4.toNatClampNeg) - (M 5 v4.toNatClampNeg)) (v4 + (1 : Int32)) M h17
        · have h18 := h15.2 c16
          refine kr_iload 0 dX7_dies_64 rfl (k := ?_)
          refine kr_iload_n 4 dX7_dies_66 rfl (k := ?_)
          refine kr_icmp_ge 76 dX7_dies_67 (fun c19 => ?_) (fun c19 => ?_)
          · have h20 := h18.1 c19
            refine kr_iinc (1 : Int32) 5 [(4, .int (v4 + (1 : Int32))), (5, .int ((M (L + 1) v4.toNatClampNeg) - (M 5 v4.toNatClampNeg))), (0, .ref (kg_b G + 0)), (1, .int v1), (2, .int v2), (3, .int v3)] dX7_dies_76 rfl (k := ?_)
            refine kr_goto 19 dX7_dies_79 ?_
            refine kr_sub [2, 3, 4, 5, 0] [(0, .ref (kg_b G + 0)), (1, .int v1), (2, .int v2), (3, .int v3), (4, .int (v4 + (1 : Int32)))] rfl ?_
            exact ih v1 v2 v3 (v4 + (1 : Int32)) M h20
          · have h21 := h18.2 c19
            refine kr_iload 5 dX7_dies_70 rfl (k := ?_)
            refine kr_istore_n [(2, .int v4), (5, .int ((M (L + 1) v4.toNatClampNeg) - (M 5 v4.toNatClampNeg))), (0, .ref (kg_b G + 0)), (1, .int v1), (3, .int v3), (4, .int v4)] dX7_dies_72 (k := ?_)
            refine kr_iload 1 dX7_dies_73 rfl (k := ?_)
            refine kr_istore_n [(3, .int ((M (L + 1) v4.toNatClampNeg) - (M 5 v4.toNatClampNeg))), (2, .int v4), (5, .int ((M (L + 1) v4.toNatClampNeg) - (M 5 v4.toNatClampNeg))), (0, .ref (kg_b G + 0)), (1, .int v1), (4, .int v4)] dX7_dies_75 (k := ?_)
            refine kr_iinc (1 : Int32) 5 [(4, .int (v4 + (1 : Int32))), (3, .int ((M (L + 1) v4.toNatClampNeg) - (M 5 v4.toNatClampNeg))), (2, .int v4), (5, .int ((M (L + 1) v4.toNatClampNeg) - (M 5 v4.toNatClampNeg))), (0, .ref (kg_b G + 0)), (1, .int v1)] dX7_dies_76 rfl (k := ?_)
            refine kr_goto 19 dX7_dies_79 ?_
            refine kr_sub [4, 5, 2, 1, 0] [(0, .ref (kg_b G + 0)), (1, .int v1), (2, .int v4), (3, .int ((M (L + 1) v4.toNatClampNeg) - (M 5 v4.toNatClampNeg))), (4, .int (v4 + (1 : Int32)))] rfl ?_
            exact ih v1 v4 ((M (L + 1) v4.toNatClampNeg) - (M 5 v4.toNatClampNeg)) (v4 + (1 : Int32)) M h21
set_option maxRecDepth 100000 in
set_option maxHeartbeats 4000000 in
theorem sp_X7_dies {G : kg_G} {E : State → Array Value → Prop} {R : kg_R} {n : Nat} {L S : Nat} {K : Int32 → kg_M → Prop} (hk : kg_O7 R n L S) {v1 : Int32} {M : kg_M} (h1 : wp_X7_dies L v1 M K) : kg_Run G E qX7_dies 0 0 [(0, .ref (kg_b G + 0)), (1, .int v1)] [] M R n 0 0 (kg_I R n K) := by
  unfold wp_X7_dies at h1
  refine kr_iload_n 1 dX7_dies_0 rfl (k := ?_)
  refine kr_if_eq 12 dX7_dies_1 (fun c2 => ?_) (fun c2 => ?_)
  · have h3 := h1.1 c2
    refine kr_iconst (-1 : Int32) dX7_dies_12 (k := ?_)
    refine kr_istore_n [(2, .int (-1 : Int32)), (0, .ref (kg_b G + 0)), (1, .int v1)] dX7_dies_13 (k := ?_)
    refine kr_iconst (-1 : Int32) dX7_dies_14 (k := ?_)
    refine kr_istore_n [(3, .int (-1 : Int32)), (2, .int (-1 : Int32)), (0, .ref (kg_b G + 0)), (1, .int v1)] dX7_dies_15 (k := ?_)
    refine kr_iconst (0 : Int32) dX7_dies_16 (k := ?_)
    refine kr_istore [(4, .int (0 : Int32)), (3, .int (-1 : Int32)), (2, .int (-1 : Int32)), (0, .ref (kg_b G + 0)), (1, .int v1)] dX7_dies_17 (k := ?_)
    refine kr_sub [3, 4, 2, 1, 0] [(0, .ref (kg_b G + 0)), (1, .int v1), (2, .int (-1 : Int32)), (3, .int (-1 : Int32)), (4, .int (0 : Int32))] rfl ?_
    obtain ⟨f26, h27⟩ := h3
    refine sL_X7_dies_19 hk ?_ f26 v1 (-1 : Int32) (-1 : Int32) (0 : Int32) M h27
    · intro v1 v2 v3 M h22
      refine kr_iload_n 0 dX7_dies_82 rfl (k := ?_)
      refine kr_if_ne 90 dX7_dies_83 (fun c23 => ?_) (fun c23 => ?_)
      · have h24 := h22.1 c23
        refine kr_iload_n 2 dX7_dies_90 rfl (k := ?_)
        exact kr_ireturn dX7_dies_91 ⟨rfl, rfl, _, rfl, h24⟩
      · have h25 := h22.2 c23
        refine kr_iload_n 1 dX7_dies_86 rfl (k := ?_)
        refine kr_goto 91 dX7_dies_87 ?_
        exact kr_ireturn dX7_dies_91 ⟨rfl, rfl, _, rfl, h25⟩
  · have h4 := h1.2 c2
    refine kr_iload_n 1 dX7_dies_4 rfl (k := ?_)
    refine kr_iconst (1 : Int32) dX7_dies_5 (k := ?_)
    refine kr_icmp_eq 12 dX7_dies_6 (fun c28 => ?_) (fun c28 => ?_)
    · have h29 := h4.1 c28
      refine kr_iconst (-1 : Int32) dX7_dies_12 (k := ?_)
      refine kr_istore_n [(2, .int (-1 : Int32)), (0, .ref (kg_b G + 0)), (1, .int v1)] dX7_dies_13 (k := ?_)
      refine kr_iconst (-1 : Int32) dX7_dies_14 (k := ?_)
      refine kr_istore_n [(3, .int (-1 : Int32)), (2, .int (-1 : Int32)), (0, .ref (kg_b G + 0)), (1, .int v1)] dX7_dies_15 (k := ?_)
      refine kr_iconst (0 : Int32) dX7_dies_16 (k := ?_)
      refine kr_istore [(4, .int (0 : Int32)), (3, .int (-1 : Int32)), (2, .int (-1 : Int32)), (0, .ref (kg_b G + 0)), (1, .int v1)] dX7_dies_17 (k := ?_)
      refine kr_sub [3, 4, 2, 1, 0] [(0, .ref (kg_b G + 0)), (1, .int v1), (2, .int (-1 : Int32)), (3, .int (-1 : Int32)), (4, .int (0 : Int32))] rfl ?_
      obtain ⟨f35, h36⟩ := h29
      refine sL_X7_dies_19 hk ?_ f35 v1 (-1 : Int32) (-1 : Int32) (0 : Int32) M h36
      · intro v1 v2 v3 M h31
        refine kr_iload_n 0 dX7_dies_82 rfl (k := ?_)
        refine kr_if_ne 90 dX7_dies_83 (fun c32 => ?_) (fun c32 => ?_)
        · have h33 := h31.1 c32
          refine kr_iload_n 2 dX7_dies_90 rfl (k := ?_)
          exact kr_ireturn dX7_dies_91 ⟨rfl, rfl, _, rfl, h33⟩
        · have h34 := h31.2 c32
          refine kr_iload_n 1 dX7_dies_86 rfl (k := ?_)
          refine kr_goto 91 dX7_dies_87 ?_
          exact kr_ireturn dX7_dies_91 ⟨rfl, rfl, _, rfl, h34⟩
    · have h30 := h4.2 c28
      refine kr_ldc dX7_dies_9 lkC_X7_90 (k := ?_)
      exact kr_ireturn dX7_dies_11 ⟨rfl, rfl, _, rfl, h30⟩
set_option maxRecDepth 100000 in
set_option maxHeartbeats 4000000 in
theorem sp_X7_refusalOfHours {G : kg_G} {E : State → Array Value → Prop} {R : kg_R} {n : Nat} {L S : Nat} {K : Int32 → kg_M → Prop} (hk : kg_O7 R n L S) {v1 : Int32} {M : kg_M} (h1 : wp_X7_refusalOfHours L v1 M K) : kg_Run G E qX7_refusalOfHours 0 0 [(0, .ref (kg_b G + 0)), (1, .int v1)] [] M R n 0 0 (kg_I R n K) := by
  unfold wp_X7_refusalOfHours at h1
  refine kr_iload_n 1 dX7_refusalOfHours_0 rfl (k := ?_)
  refine kr_iconst (1 : Int32) dX7_refusalOfHours_1 (k := ?_)
  refine kr_icmp_lt 11 dX7_refusalOfHours_2 (fun c2 => ?_) (fun c2 => ?_)
  · have h3 := h1.1 c2
    refine kr_ldc dX7_refusalOfHours_11 lkC_X7_90 (k := ?_)
    exact kr_ireturn dX7_refusalOfHours_13 ⟨rfl, rfl, _, rfl, h3⟩
  · have h4 := h1.2 c2
    refine kr_iload_n 1 dX7_refusalOfHours_5 rfl (k := ?_)
    refine kr_bipush (60 : Int32) dX7_refusalOfHours_6 (k := ?_)
    refine kr_icmp_le 14 dX7_refusalOfHours_8 (fun c5 => ?_) (fun c5 => ?_)
    · have h6 := h4.1 c5
      refine kr_aload_n 0 dX7_refusalOfHours_14 rfl (k := ?_)
      refine kr_getR 10 ckX7 lkF_X7_69 rfl (kg_o7a hk) (kg_o7n hk) (kg_o7r10 hk) dX7_refusalOfHours_15 (k := ?_)
      refine kr_getI 0 ckX0 lkF_X7_113 rfl (kg_o0a (kg_o7_land hk)) (kg_o0n (kg_o7_land hk)) dX7_refusalOfHours_18 (k := ?_)
      refine kr_if_ne 27 dX7_refusalOfHours_21 (fun c8 => ?_) (fun c8 => ?_)
      · have h9 := h6.1 c8
        refine kr_aload_n 0 dX7_refusalOfHours_27 rfl (k := ?_)
        refine kr_getR 1 ckX7 lkF_X7_19 rfl (kg_o7a hk) (kg_o7n hk) (kg_o7r1 hk) dX7_refusalOfHours_28 (k := ?_)
        refine kr_getI 0 ckX5 lkF_X7_116 rfl (kg_o5a (kg_o7_state hk)) (kg_o5n (kg_o7_state hk)) dX7_refusalOfHours_31 (k := ?_)
        refine kr_sipush (9000 : Int32) dX7_refusalOfHours_34 (k := ?_)
        refine kr_icmp_le 45 dX7_refusalOfHours_37 (fun c11 => ?_) (fun c11 => ?_)
        · have h12 := h9.1 c11
          refine kr_iconst (0 : Int32) dX7_refusalOfHours_45 (k := ?_)
          exact kr_ireturn dX7_refusalOfHours_46 ⟨rfl, rfl, _, rfl, h12⟩
        · have h13 := h9.2 c11
          refine kr_ldc dX7_refusalOfHours_40 lkC_X7_94 (k := ?_)
          refine kr_goto 46 dX7_refusalOfHours_42 ?_
          exact kr_ireturn dX7_refusalOfHours_46 ⟨rfl, rfl, _, rfl, h13⟩
      · have h10 := h6.2 c8
        refine kr_ldc dX7_refusalOfHours_24 lkC_X7_194 (k := ?_)
        exact kr_ireturn dX7_refusalOfHours_26 ⟨rfl, rfl, _, rfl, h10⟩
    · have h7 := h4.2 c5
      refine kr_ldc dX7_refusalOfHours_11 lkC_X7_90 (k := ?_)
      exact kr_ireturn dX7_refusalOfHours_13 ⟨rfl, rfl, _, rfl, h7⟩
set_option maxRecDepth 100000 in
set_option maxHeartbeats 4000000 in
theorem sL_X7_drift_25 {G : kg_G} {E : State → Array Value → Prop} {R : kg_R} {n : Nat} {L S : Nat} {K : Int32 → kg_M → Prop} (hk : kg_O7 R n L S) (hn : ¬ n < kg_all) {Kx51 : kg_M → Prop} (hKx51 : ∀ (M : kg_M), Kx51 M → kg_Run G E qX7_drift 6 51 [(0, .ref (kg_b G + 0))] [] M R n 0 0 (kg_I R n K)) : ∀ (f : Nat) (v1 : Int32) (v3 : Int32) (M : kg_M), wL_X7_drift_25 L Kx51 K f v1 v3 M → kg_Run G E qX7_drift 6 25 [(0, .ref (kg_b G + 0)), (1, .int v1), (3, .int v3)] [] M R n 0 0 (kg_I R n K) := by
  intro f
  induction f with
  | zero => intro v1 v3 M h0; exact h0.elim
  | succ f ih =>
    intro v1 v3 M h11
    rw [wL_X7_drift_25] at h11
    refine kr_iload_n 2 dX7_drift_25 rfl (k := ?_)
    refine kr_iload_n 1 dX7_drift_26 rfl (k := ?_)
    refine kr_icmp_ge 51 dX7_drift_27 (fun c12 => ?_) (fun c12 => ?_)
    · have h13 := h11.1 c12
      refine kr_sub [0] [(0, .ref (kg_b G + 0))] rfl ?_
      exact hKx51  M h13
    · have h14 := h11.2 c12
      refine kr_aload_n 0 dX7_drift_30 rfl (k := ?_)
      refine kn_callVv [] [] mvX7_comeByDraw lkM_X7_195 (kg_o7a hk) rfl (kg_o7n hk) dX7_drift_31 (sp_X7_comeByDraw hk h14) (fun M15 h16 => ?_)
      refine kr_aload_n 0 dX7_drift_34 rfl (k := ?_)
      refine kr_getR 1 ckX7 lkF_X7_19 rfl (kg_o7a hk) (kg_o7n hk) (kg_o7r1 hk) dX7_drift_35 (k := ?_)
      refine kr_aload_n 0 dX7_drift_38 rfl (k := ?_)
      refine kr_getR 10 ckX7 lkF_X7_69 rfl (kg_o7a hk) (kg_o7n hk) (kg_o7r10 hk) dX7_drift_39 (k := ?_)
      refine kn_callVv [.ref (kg_b G + L)] [] mvX5_passHour lkM_X7_191 (kg_o5a (kg_o7_state hk)) rfl (kg_o5n (kg_o7_state hk)) dX7_drift_42 (sp_X5_passHour (kg_o7_state hk) (kg_o7_land hk) hn h16) (fun M18 h19 => ?_)
      refine kr_iinc (1 : Int32) 2 [(3, .int (v3 + (1 : Int32))), (0, .ref (kg_b G + 0)), (1, .int v1)] dX7_drift_45 rfl (k := ?_)
      refine kr_goto 25 dX7_drift_48 ?_
      refine kr_sub [1, 2, 0] [(0, .ref (kg_b G + 0)), (1, .int v1), (3, .int (v3 + (1 : Int32)))] rfl ?_
      exact ih v1 (v3 + (1 : Int32)) M18 h19
set_option maxRecDepth 100000 in
set_option maxHeartbeats 4000000 in
theorem sp_X7_drift {G : kg_G} {E : State → Array Value → Prop} {R : kg_R} {n : Nat} {L S : Nat} {K : Int32 → kg_M → Prop} (hk : kg_O7 R n L S) (hn : ¬ n < kg_all) {v1 : Int32} {M : kg_M} (h1 : wp_X7_drift L v1 M K) : kg_Run G E qX7_drift 6 0 [(0, .ref (kg_b G + 0)), (1, .int v1)] [] M R n 0 0 (kg_I R n K) := by
  unfold wp_X7_drift at h1
  refine kr_aload_n 0 dX7_drift_0 rfl (k := ?_)
  refine kr_iload_n 1 dX7_drift_1 rfl (k := ?_)
  refine kn_callVi [.int v1] [] mvX7_refusalOfHours lkM_X7_184 (kg_o7a hk) rfl (kg_o7n hk) dX7_drift_2 (sp_X7_refusalOfHours hk h1) (fun r4 M2 h3 => ?_)
  refine kr_istore_n [(2, .int r4), (0, .ref (kg_b G + 0)), (1, .int v1)] dX7_drift_5 (k := ?_)
  refine kr_iload_n 0 dX7_drift_6 rfl (k := ?_)
  refine kr_if_eq 12 dX7_drift_7 (fun c5 => ?_) (fun c5 => ?_)
  · have h6 := h3.1 c5
    refine kr_aload_n 1 dX7_drift_12 rfl (k := ?_)
    refine kr_getR 2 ckX7 lkF_X7_26 rfl (kg_o7a hk) (kg_o7n hk) (kg_o7r2 hk) dX7_drift_13 (k := ?_)
    refine kr_aload_n 1 dX7_drift_16 rfl (k := ?_)
    refine kr_getR 1 ckX7 lkF_X7_19 rfl (kg_o7a hk) (kg_o7n hk) (kg_o7r1 hk) dX7_drift_17 (k := ?_)
    refine kn_callVv [.ref (kg_b G + 3)] [] mvX4_remember lkM_X7_187 (kg_o4a (kg_o7_past hk)) rfl (kg_o4n (kg_o7_past hk)) dX7_drift_20 (sp_X4_remember (kg_o7_past hk) (kg_o7_state hk) hn h6) (fun M8 h9 => ?_)
    refine kr_iconst (0 : Int32) dX7_drift_23 (k := ?_)
    refine kr_istore_n [(3, .int (0 : Int32)), (2, .int r4), (0, .ref (kg_b G + 0)), (1, .int v1)] dX7_drift_24 (k := ?_)
    refine kr_sub [2, 3, 0] [(0, .ref (kg_b G + 0)), (1, .int v1), (3, .int (0 : Int32))] rfl ?_
    obtain ⟨f22, h23⟩ := h9
    refine sL_X7_drift_25 hk hn ?_ f22 v1 (0 : Int32) M8 h23
    · intro  M h21
      refine kr_aload_n 0 dX7_drift_51 rfl (k := ?_)
      refine kr_getR 1 ckX7 lkF_X7_19 rfl (kg_o7a hk) (kg_o7n hk) (kg_o7r1 hk) dX7_drift_52 (k := ?_)
      refine kr_getI 1 ckX5 lkF_X7_119 rfl (kg_o5a (kg_o7_state hk)) (kg_o5n (kg_o7_state hk)) dX7_drift_55 (k := ?_)
      exact kr_ireturn dX7_drift_58 ⟨rfl, rfl, _, rfl, h21⟩
  · have h7 := h3.2 c5
    refine kr_iload_n 0 dX7_drift_10 rfl (k := ?_)
    exact kr_ireturn dX7_drift_11 ⟨rfl, rfl, _, rfl, h7⟩
