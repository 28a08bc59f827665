set_option maxRecDepth 100000 in
set_option maxHeartbeats 4000000 in
theorem sL_X8_steady_6 {G : kg_G} {E : State → Array Value → Prop} {R : kg_R} {n : Nat} {K : Int32 → kg_M → Prop} (ho : kg_O8 R n 117) {Kx73 : kg_M → Prop} {Kx81 : kg_M → Prop} (hKx73 : ∀ (M : kg_M), Kx73 M → kg_Run G E qX8_steady 4 73 [] [] M R n 0 0 (kg_I R n K)) (hKx81 : ∀ (M : kg_M), Kx81 M → kg_Run G E qX8_steady 4 81 [] [] M R n 0 0 (kg_I R n K)) : ∀ (f : Nat) (v1 : Int32) (M : kg_M), wL_X8_steady_6  Kx73 Kx81 K f v1 M → kg_Run G E qX8_steady 4 6 [(0, .ref (kg_b G + 117)), (1, .int v1)] [] M R n 0 0 (kg_I R n K) := by
  intro f
  induction f with
  | zero => intro v1 M h0; exact h0.elim
  | succ f ih =>
    intro v1 M h5
    rw [wL_X8_steady_6] at h5
    refine kr_iload_n 1 dX8_steady_6 rfl (k := ?_)
    refine kr_bipush (21 : Int32) dX8_steady_7 (k := ?_)
    refine kr_icmp_ge 81 dX8_steady_9 (fun c6 => ?_) (fun c6 => ?_)
    · have h7 := h5.1 c6
      refine kr_sub [] [] rfl ?_
      exact hKx81  M h7
    · have h8 := h5.2 c6
      refine kr_aload_n 0 dX8_steady_12 rfl (k := ?_)
      refine kr_getR 6 ckX8 lkF_X8_19 rfl (kg_o8a ho) (kg_o8n ho) (kg_o8r6 ho) dX8_steady_13 (k := ?_)
      refine kr_iload_n 1 dX8_steady_16 rfl (k := ?_)
      obtain ⟨h9, h10⟩ := h8
      refine kr_iald (kg_o8s6 ho) (kg_o8m6 ho) h9 dX8_steady_17 (k := ?_)
      refine kr_istore_n [(2, .int (M 121 v1.toNatClampNeg)), (0, .ref (kg_b G + 117)), (1, .int v1)] dX8_steady_18 (k := ?_)
      refine kr_aload_n 1 dX8_steady_19 rfl (k := ?_)
      refine kr_getR 7 ckX8 lkF_X8_22 rfl (kg_o8a ho) (kg_o8n ho) (kg_o8r7 ho) dX8_steady_20 (k := ?_)
      refine kr_iload_n 2 dX8_steady_23 rfl (k := ?_)
      obtain ⟨h11, h12⟩ := h10
      refine kr_iald (kg_o8s7 ho) (kg_o8m7 ho) h11 dX8_steady_24 (k := ?_)
      refine kr_istore_n [(3, .int (M 122 v1.toNatClampNeg)), (2, .int (M 121 v1.toNatClampNeg)), (0, .ref (kg_b G + 117)), (1, .int v1)] dX8_steady_25 (k := ?_)
      refine kr_aload_n 2 dX8_steady_26 rfl (k := ?_)
      refine kr_iload_n 1 dX8_steady_27 rfl (k := ?_)
      refine kr_iload_n 0 dX8_steady_28 rfl (k := ?_)
      refine kn_callVz [.int (M 121 v1.toNatClampNeg), .int (M 122 v1.toNatClampNeg)] [] mvX8_would lkM_X8_166 (kg_o8a ho) rfl (kg_o8n ho) dX8_steady_29 (sp_X8_would ho h12) (fun r15 M13 _ h14 => ?_)
      refine kr_if_eq 75 dX8_steady_32 (fun c16 => ?_) (fun c16 => ?_)
      · have h17 := h14.1 c16
        refine kr_iinc (1 : Int32) 3 [(1, .int (v1 + (1 : Int32))), (3, .int (M 122 v1.toNatClampNeg)), (2, .int (M 121 v1.toNatClampNeg)), (0, .ref (kg_b G + 117))] dX8_steady_75 rfl (k := ?_)
        refine kr_goto 6 dX8_steady_78 ?_
        refine kr_sub [3, 0] [(0, .ref (kg_b G + 117)), (1, .int (v1 + (1 : Int32)))] rfl ?_
        exact ih (v1 + (1 : Int32)) M13 h17
      · have h18 := h14.2 c16
        refine kr_aload_n 2 dX8_steady_35 rfl (k := ?_)
        refine kr_getR 3 ckX8 lkF_X8_13 rfl (kg_o8a ho) (kg_o8n ho) (kg_o8r3 ho) dX8_steady_36 (k := ?_)
        refine kr_bipush (7 : Int32) dX8_steady_39 (k := ?_)
        refine kr_iload_n 1 dX8_steady_41 rfl (k := ?_)
        refine kr_imul dX8_steady_42 (k := ?_)
        refine kr_iload_n 0 dX8_steady_43 rfl (k := ?_)
        refine kr_iadd dX8_steady_44 (k := ?_)
        obtain ⟨h19, h20⟩ := h18
        refine kr_iald (kg_o8s3 ho) (kg_o8m3 ho) h19 dX8_steady_45 (k := ?_)
        refine kr_aload_n 2 dX8_steady_46 rfl (k := ?_)
        refine kr_iload_n 1 dX8_steady_47 rfl (k := ?_)
        refine kn_callVi [.int (M 121 v1.toNatClampNeg)] [.int (M13 119 (((7 : Int32) * (M 121 v1.toNatClampNeg)) + (M 122 v1.toNatClampNeg)).toNatClampNeg)] mvX8_likesNow lkM_X8_291 (kg_o8a ho) rfl (kg_o8n ho) dX8_steady_48 (sp_X8_likesNow ho h20) (fun r23 M21 h22 => ?_)
        refine kr_icmp_le 75 dX8_steady_51 (fun c24 => ?_) (fun c24 => ?_)
        · have h25 := h22.1 c24
          refine kr_iinc (1 : Int32) 3 [(1, .int (v1 + (1 : Int32))), (3, .int (M 122 v1.toNatClampNeg)), (2, .int (M 121 v1.toNatClampNeg)), (0, .ref (kg_b G + 117))] dX8_steady_75 rfl (k := ?_)
          refine kr_goto 6 dX8_steady_78 ?_
          refine kr_sub [3, 0] [(0, .ref (kg_b G + 117)), (1, .int (v1 + (1 : Int32)))] rfl ?_
          exact ih (v1 + (1 : Int32)) M21 h25
        · have h26 := h22.2 c24
          refine kr_aload_n 2 dX8_steady_54 rfl (k := ?_)
          refine kr_getR 3 ckX8 lkF_X8_13 rfl (kg_o8a ho) (kg_o8n ho) (kg_o8r3 ho) dX8_steady_55 (k := ?_)
          refine kr_bipush (7 : Int32) dX8_steady_58 (k := ?_)
          refine kr_iload_n 0 dX8_steady_60 rfl (k := ?_)
          refine kr_imul dX8_steady_61 (k := ?_)
          refine kr_iload_n 1 dX8_steady_62 rfl (k := ?_)
          refine kr_iadd dX8_steady_63 (k := ?_)
          obtain ⟨h27, h28⟩ := h26
          refine kr_iald (kg_o8s3 ho) (kg_o8m3 ho) h27 dX8_steady_64 (k := ?_)
          refine kr_aload_n 2 dX8_steady_65 rfl (k := ?_)
          refine kr_iload_n 0 dX8_steady_66 rfl (k := ?_)
          refine kn_callVi [.int (M 122 v1.toNatClampNeg)] [.int (M21 119 (((7 : Int32) * (M 122 v1.toNatClampNeg)) + (M 121 v1.toNatClampNeg)).toNatClampNeg)] mvX8_likesNow lkM_X8_291 (kg_o8a ho) rfl (kg_o8n ho) dX8_steady_67 (sp_X8_likesNow ho h28) (fun r31 M29 h30 => ?_)
          refine kr_icmp_le 75 dX8_steady_70 (fun c32 => ?_) (fun c32 => ?_)
          · have h33 := h30.1 c32
            refine kr_iinc (1 : Int32) 3 [(1, .int (v1 + (1 : Int32))), (3, .int (M 122 v1.toNatClampNeg)), (2, .int (M 121 v1.toNatClampNeg)), (0, .ref (kg_b G + 117))] dX8_steady_75 rfl (k := ?_)
            refine kr_goto 6 dX8_steady_78 ?_
            refine kr_sub [3, 0] [(0, .ref (kg_b G + 117)), (1, .int (v1 + (1 : Int32)))] rfl ?_
            exact ih (v1 + (1 : Int32)) M29 h33
          · have h34 := h30.2 c32
            refine kr_sub [] [] rfl ?_
            exact hKx73  M29 h34
set_option maxRecDepth 100000 in
set_option maxHeartbeats 4000000 in
theorem sp_X8_steady {G : kg_G} {E : State → Array Value → Prop} {R : kg_R} {n : Nat} {K : Int32 → kg_M → Prop} (ho : kg_O8 R n 117) {M : kg_M} (h1 : wp_X8_steady  M K) : kg_Run G E qX8_steady 4 0 [(0, .ref (kg_b G + 117))] [] M R n 0 0 (kg_I R n K) := by
  unfold wp_X8_steady at h1
  refine kr_aload_n 0 dX8_steady_0 rfl (k := ?_)
  refine kn_callVv [] [] mvX8_findAtOnce lkM_X8_263 (kg_o8a ho) rfl (kg_o8n ho) dX8_steady_1 (sp_X8_findAtOnce ho h1) (fun M2 h3 => ?_)
  refine kr_iconst (0 : Int32) dX8_steady_4 (k := ?_)
  refine kr_istore_n [(1, .int (0 : Int32)), (0, .ref (kg_b G + 117))] dX8_steady_5 (k := ?_)
  refine kr_sub [1, 0] [(0, .ref (kg_b G + 117)), (1, .int (0 : Int32))] rfl ?_
  obtain ⟨f37, h38⟩ := h3
  refine sL_X8_steady_6 ho ?_ ?_ f37 (0 : Int32) M2 h38
  · intro  M h35
    refine kr_iconst (0 : Int32) dX8_steady_73 (k := ?_)
    exact kr_ireturn dX8_steady_74 ⟨rfl, rfl, _, rfl, h35⟩
  · intro  M h36
    refine kr_iconst (1 : Int32) dX8_steady_81 (k := ?_)
    exact kr_ireturn dX8_steady_82 ⟨rfl, rfl, _, rfl, h36⟩
set_option maxRecDepth 100000 in
set_option maxHeartbeats 4000000 in
theorem sp_X8_tear {G : kg_G} {E : State → Array Value → Prop} {R : kg_R} {n : Nat} {K : Int32 → kg_M → Prop} (ho : kg_O8 R n 117) {M : kg_M} (h1 : wp_X8_tear  M K) : kg_Run G E qX8_tear 0 0 [(0, .ref (kg_b G + 117))] [] M R n 0 0 (kg_I R n K) := by
  unfold wp_X8_tear at h1
  refine kr_aload_n 0 dX8_tear_0 rfl (k := ?_)
  refine kr_getI 32 ckX8 lkF_X8_153 rfl (kg_o8a ho) (kg_o8n ho) dX8_tear_1 (k := ?_)
  refine kr_aload_n 0 dX8_tear_4 rfl (k := ?_)
  refine kr_getI 35 ckX8 lkF_X8_156 rfl (kg_o8a ho) (kg_o8n ho) dX8_tear_5 (k := ?_)
  refine kr_iadd dX8_tear_8 (k := ?_)
  refine kr_istore_n [(1, .int ((M 117 32) + (M 117 35))), (0, .ref (kg_b G + 117))] dX8_tear_9 (k := ?_)
  refine kr_aload_n 1 dX8_tear_10 rfl (k := ?_)
  refine kr_iconst (0 : Int32) dX8_tear_11 (k := ?_)
  refine kn_putI 32 ckX8 lkF_X8_153 rfl rfl rfl rfl (kg_o8a ho) (kg_o8n ho) dX8_tear_12 (fun M2 e3 => ?_)
  have h4 := h1 M2 e3
  refine kr_aload_n 1 dX8_tear_15 rfl (k := ?_)
  refine kr_iconst (0 : Int32) dX8_tear_16 (k := ?_)
  refine kn_putI 35 ckX8 lkF_X8_156 rfl rfl rfl rfl (kg_o8a ho) (kg_o8n ho) dX8_tear_17 (fun M5 e6 => ?_)
  have h7 := h4 M5 e6
  refine kr_iload_n 0 dX8_tear_20 rfl (k := ?_)
  exact kr_ireturn dX8_tear_21 ⟨rfl, rfl, _, rfl, h7⟩
set_option maxRecDepth 100000 in
set_option maxHeartbeats 4000000 in
theorem sL_X8_waiting_4 {G : kg_G} {E : State → Array Value → Prop} {R : kg_R} {n : Nat} {K : Int32 → kg_M → Prop} (ho : kg_O8 R n 117) {Kx40 : Int32 → kg_M → Prop} (hKx40 : ∀ (v1 : Int32) (M : kg_M), Kx40 v1 M → kg_Run G E qX8_waiting 0 40 [(1, .int v1)] [] M R n 0 0 (kg_I R n K)) : ∀ (f : Nat) (v1 : Int32) (v2 : Int32) (M : kg_M), wL_X8_waiting_4  Kx40 K f v1 v2 M → kg_Run G E qX8_waiting 0 4 [(0, .ref (kg_b G + 117)), (1, .int v1), (2, .int v2)] [] M R n 0 0 (kg_I R n K) := by
  intro f
  induction f with
  | zero => intro v1 v2 M h0; exact h0.elim
  | succ f ih =>
    intro v1 v2 M h2
    rw [wL_X8_waiting_4] at h2
    refine kr_iload_n 2 dX8_waiting_4 rfl (k := ?_)
    refine kr_aload_n 0 dX8_waiting_5 rfl (k := ?_)
    refine kr_getI 2 ckX8 lkF_X8_94 rfl (kg_o8a ho) (kg_o8n ho) dX8_waiting_6 (k := ?_)
    refine kr_icmp_ge 40 dX8_waiting_9 (fun c3 => ?_) (fun c3 => ?_)
    · have h4 := h2.1 c3
      refine kr_sub [1] [(1, .int v1)] rfl ?_
      exact hKx40 v1 M h4
    · have h5 := h2.2 c3
      refine kr_iload_n 1 dX8_waiting_12 rfl (k := ?_)
      refine kr_aload_n 0 dX8_waiting_13 rfl (k := ?_)
      refine kr_getR 4 ckX8 lkF_X8_16 rfl (kg_o8a ho) (kg_o8n ho) (kg_o8r4 ho) dX8_waiting_14 (k := ?_)
      refine kr_bipush (7 : Int32) dX8_waiting_17 (k := ?_)
      refine kr_iload_n 2 dX8_waiting_19 rfl (k := ?_)
      refine kr_iadd dX8_waiting_20 (k := ?_)
      obtain ⟨h6, h7⟩ := h5
      refine kr_iald (kg_o8s4 ho) (kg_o8m4 ho) h6 dX8_waiting_21 (k := ?_)
      refine kr_if_lt 31 dX8_waiting_22 (fun c8 => ?_) (fun c8 => ?_)
      · have h9 := h7.1 c8
        refine kr_iconst (0 : Int32) dX8_waiting_31 (k := ?_)
        refine kr_ior dX8_waiting_32 (k := ?_)
        refine kr_istore_n [(1, .int (v1 ||| (0 : Int32))), (0, .ref (kg_b G + 117)), (2, .int v2)] dX8_waiting_33 (k := ?_)
        refine kr_iinc (1 : Int32) 2 [(2, .int (v2 + (1 : Int32))), (1, .int (v1 ||| (0 : Int32))), (0, .ref (kg_b G + 117))] dX8_waiting_34 rfl (k := ?_)
        refine kr_goto 4 dX8_waiting_37 ?_
        refine kr_sub [2, 1, 0] [(0, .ref (kg_b G + 117)), (1, .int (v1 ||| (0 : Int32))), (2, .int (v2 + (1 : Int32)))] rfl ?_
        exact ih (v1 ||| (0 : Int32)) (v2 + (1 : Int32)) M h9
      · have h10 := h7.2 c8
        refine kr_iconst (1 : Int32) dX8_waiting_25 (k := ?_)
        refine kr_iload_n 2 dX8_waiting_26 rfl (k := ?_)
        refine kr_ishl dX8_waiting_27 (k := ?_)
        refine kr_goto 32 dX8_waiting_28 ?_
        refine kr_ior dX8_waiting_32 (k := ?_)
        refine kr_istore_n [(1, .int (v1 ||| ((1 : Int32) <<< (v2 &&& 31)))), (0, .ref (kg_b G + 117)), (2, .int v2)] dX8_waiting_33 (k := ?_)
        refine kr_iinc (1 : Int32) 2 [(2, .int (v2 + (1 : Int32))), (1, .int (v1 ||| ((1 : Int32) <<< (v2 &&& 31)))), (0, .ref (kg_b G + 117))] dX8_waiting_34 rfl (k := ?_)
        refine kr_goto 4 dX8_waiting_37 ?_
        refine kr_sub [2, 1, 0] [(0, .ref (kg_b G + 117)), (1, .int (v1 ||| ((1 : Int32) <<< (v2 &&& 31)))), (2, .int (v2 + (1 : Int32)))] rfl ?_
        exact ih (v1 ||| ((1 : Int32) <<< (v2 &&& 31))) (v2 + (1 : Int32)) M h10
set_option maxRecDepth 100000 in
set_option maxHeartbeats 4000000 in
theorem sp_X8_waiting {G : kg_G} {E : State → Array Value → Prop} {R : kg_R} {n : Nat} {K : Int32 → kg_M → Prop} (ho : kg_O8 R n 117) {M : kg_M} (h1 : wp_X8_waiting  M K) : kg_Run G E qX8_waiting 0 0 [(0, .ref (kg_b G + 117))] [] M R n 0 0 (kg_I R n K) := by
  unfold wp_X8_waiting at h1
  refine kr_iconst (0 : Int32) dX8_waiting_0 (k := ?_)
  refine kr_istore_n [(1, .int (0 : Int32)), (0, .ref (kg_b G + 117))] dX8_waiting_1 (k := ?_)
  refine kr_iconst (0 : Int32) dX8_waiting_2 (k := ?_)
  refine kr_istore_n [(2, .int (0 : Int32)), (1, .int (0 : Int32)), (0, .ref (kg_b G + 117))] dX8_waiting_3 (k := ?_)
  refine kr_sub [2, 1, 0] [(0, .ref (kg_b G + 117)), (1, .int (0 : Int32)), (2, .int (0 : Int32))] rfl ?_
  obtain ⟨f12, h13⟩ := h1
  refine sL_X8_waiting_4 ho ?_ f12 (0 : Int32) (0 : Int32) M h13
  · intro v1 M h11
    refine kr_iload_n 0 dX8_waiting_40 rfl (k := ?_)
    exact kr_ireturn dX8_waiting_41 ⟨rfl, rfl, _, rfl, h11⟩
set_option maxRecDepth 100000 in
set_option maxHeartbeats 4000000 in
theorem sp_X8_told {G : kg_G} {E : State → Array Value → Prop} {R : kg_R} {n : Nat} {K : Int32 → kg_M → Prop} (ho : kg_O8 R n 117) {v1 : Int32} {M : kg_M} (h1 : wp_X8_told v1 M K) : kg_Run G E qX8_told 1 0 [(0, .ref (kg_b G + 117)), (1, .int v1)] [] M R n 0 0 (kg_I R n K) := by
  unfold wp_X8_told at h1
  refine kr_iload_n 1 dX8_told_0 rfl (k := ?_)
  by_cases c3 : v1 = (0 : Int32)
  · have h4 := h1.1 c3
    refine kr_tableIn (off := 71) 72 dX8_told_1 (by rw [c3]; decide) (by rw [c3]; decide) (by rw [c3]; decide) (by decide) ?_
    refine kr_aload_n 0 dX8_told_72 rfl (k := ?_)
    refine kr_getI 0 ckX8 lkF_X8_87 rfl (kg_o8a ho) (kg_o8n ho) dX8_told_73 (k := ?_)
    exact kr_ireturn dX8_told_76 ⟨rfl, rfl, _, rfl, h4⟩
  · have h5 := h1.2 c3
    by_cases c6 : v1 = (1 : Int32)
    · have h7 := h5.1 c6
      refine kr_tableIn (off := 76) 77 dX8_told_1 (by rw [c6]; decide) (by rw [c6]; decide) (by rw [c6]; decide) (by decide) ?_
      refine kr_aload_n 0 dX8_told_77 rfl (k := ?_)
      refine kr_getI 2 ckX8 lkF_X8_94 rfl (kg_o8a ho) (kg_o8n ho) dX8_told_78 (k := ?_)
      exact kr_ireturn dX8_told_81 ⟨rfl, rfl, _, rfl, h7⟩
    · have h8 := h5.2 c6
      by_cases c9 : v1 = (2 : Int32)
      · have h10 := h8.1 c9
        refine kr_tableIn (off := 81) 82 dX8_told_1 (by rw [c9]; decide) (by rw [c9]; decide) (by rw [c9]; decide) (by decide) ?_
        refine kr_aload_n 0 dX8_told_82 rfl (k := ?_)
        refine kr_getI 9 ckX8 lkF_X8_100 rfl (kg_o8a ho) (kg_o8n ho) dX8_told_83 (k := ?_)
        exact kr_ireturn dX8_told_86 ⟨rfl, rfl, _, rfl, h10⟩
      · have h11 := h8.2 c9
        by_cases c12 : v1 = (3 : Int32)
        · have h13 := h11.1 c12
          refine kr_tableIn (off := 86) 87 dX8_told_1 (by rw [c12]; decide) (by rw [c12]; decide) (by rw [c12]; decide) (by decide) ?_
          refine kr_aload_n 0 dX8_told_87 rfl (k := ?_)
          refine kr_getR 4 ckX8 lkF_X8_16 rfl (kg_o8a ho) (kg_o8n ho) (kg_o8r4 ho) dX8_told_88 (k := ?_)
          refine kr_bipush (31 : Int32) dX8_told_91 (k := ?_)
          obtain ⟨h15, h16⟩ := h13
          refine kr_iald (kg_o8s4 ho) (kg_o8m4 ho) h15 dX8_told_93 (k := ?_)
          exact kr_ireturn dX8_told_94 ⟨rfl, rfl, _, rfl, h16⟩
        · have h14 := h11.2 c12
          by_cases c17 : v1 = (4 : Int32)
          · have h18 := h14.1 c17
            refine kr_tableIn (off := 94) 95 dX8_told_1 (by rw [c17]; decide) (by rw [c17]; decide) (by rw [c17]; decide) (by decide) ?_
            refine kr_aload_n 0 dX8_told_95 rfl (k := ?_)
            refine kr_getR 4 ckX8 lkF_X8_16 rfl (kg_o8a ho) (kg_o8n ho) (kg_o8r4 ho) dX8_told_96 (k := ?_)
            refine kr_bipush (32 : Int32) dX8_told_99 (k := ?_)
            obtain ⟨h20, h21⟩ := h18
            refine kr_iald (kg_o8s4 ho) (kg_o8m4 ho) h20 dX8_told_101 (k := ?_)
            exact kr_ireturn dX8_told_102 ⟨rfl, rfl, _, rfl, h21⟩
          · have h19 := h14.2 c17
            by_cases c22 : v1 = (5 : Int32)
            · have h23 := h19.1 c22
              refine kr_tableIn (off := 102) 103 dX8_told_1 (by rw [c22]; decide) (by rw [c22]; decide) (by rw [c22]; decide) (by decide) ?_
              refine kr_aload_n 0 dX8_told_103 rfl (k := ?_)
              refine kr_getR 4 ckX8 lkF_X8_16 rfl (kg_o8a ho) (kg_o8n ho) (kg_o8r4 ho) dX8_told_104 (k := ?_)
              refine kr_bipush (33 : Int32) dX8_told_107 (k := ?_)
              obtain ⟨h25, h26⟩ := h23
              refine kr_iald (kg_o8s4 ho) (kg_o8m4 ho) h25 dX8_told_109 (k := ?_)
              exact kr_ireturn dX8_told_110 ⟨rfl, rfl, _, rfl, h26⟩
            · have h24 := h19.2 c22
              by_cases c27 : v1 = (6 : Int32)
              · have h28 := h24.1 c27
                refine kr_tableIn (off := 110) 111 dX8_told_1 (by rw [c27]; decide) (by rw [c27]; decide) (by rw [c27]; decide) (by decide) ?_
                refine kr_aload_n 0 dX8_told_111 rfl (k := ?_)
                refine kr_iconst (0 : Int32) dX8_told_112 (k := ?_)
                refine kn_callVi [.int (0 : Int32)] [] mvX8_allWith lkM_X8_169 (kg_o8a ho) rfl (kg_o8n ho) dX8_told_113 (sp_X8_allWith ho h28) (fun r32 M30 h31 => ?_)
                exact kr_ireturn dX8_told_116 ⟨rfl, rfl, _, rfl, h31⟩
              · have h29 := h24.2 c27
                by_cases c33 : v1 = (7 : Int32)
                · have h34 := h29.1 c33
                  refine kr_tableIn (off := 116) 117 dX8_told_1 (by rw [c33]; decide) (by rw [c33]; decide) (by rw [c33]; decide) (by decide) ?_
                  refine kr_aload_n 0 dX8_told_117 rfl (k := ?_)
                  refine kr_bipush (14 : Int32) dX8_told_118 (k := ?_)
                  refine kn_callVi [.int (14 : Int32)] [] mvX8_allWith lkM_X8_169 (kg_o8a ho) rfl (kg_o8n ho) dX8_told_120 (sp_X8_allWith ho h34) (fun r38 M36 h37 => ?_)
                  exact kr_ireturn dX8_told_123 ⟨rfl, rfl, _, rfl, h37⟩
                · have h35 := h29.2 c33
                  by_cases c39 : v1 = (8 : Int32)
                  · have h40 := h35.1 c39
                    refine kr_tableIn (off := 123) 124 dX8_told_1 (by rw [c39]; decide) (by rw [c39]; decide) (by rw [c39]; decide) (by decide) ?_
                    refine kr_aload_n 0 dX8_told_124 rfl (k := ?_)
                    refine kn_callVi [] [] mvX8_waiting lkM_X8_173 (kg_o8a ho) rfl (kg_o8n ho) dX8_told_125 (sp_X8_waiting ho h40) (fun r44 M42 h43 => ?_)
                    exact kr_ireturn dX8_told_128 ⟨rfl, rfl, _, rfl, h43⟩
                  · have h41 := h35.2 c39
                    by_cases c45 : v1 = (9 : Int32)
                    · have h46 := h41.1 c45
                      refine kr_tableIn (off := 128) 129 dX8_told_1 (by rw [c45]; decide) (by rw [c45]; decide) (by rw [c45]; decide) (by decide) ?_
                      refine kr_aload_n 0 dX8_told_129 rfl (k := ?_)
                      refine kn_callVi [] [] mvX8_rusted lkM_X8_176 (kg_o8a ho) rfl (kg_o8n ho) dX8_told_130 (sp_X8_rusted ho h46) (fun r50 M48 h49 => ?_)
                      exact kr_ireturn dX8_told_133 ⟨rfl, rfl, _, rfl, h49⟩
                    · have h47 := h41.2 c45
                      by_cases c51 : v1 = (10 : Int32)
                      · have h52 := h47.1 c51
                        refine kr_tableIn (off := 133) 134 dX8_told_1 (by rw [c51]; decide) (by rw [c51]; decide) (by rw [c51]; decide) (by decide) ?_
                        refine kr_aload_n 0 dX8_told_134 rfl (k := ?_)
                        refine kr_getR 4 ckX8 lkF_X8_16 rfl (kg_o8a ho) (kg_o8n ho) (kg_o8r4 ho) dX8_told_135 (k := ?_)
                        refine kr_bipush (34 : Int32) dX8_told_138 (k := ?_)
                        obtain ⟨h54, h55⟩ := h52
                        refine kr_iald (kg_o8s4 ho) (kg_o8m4 ho) h54 dX8_told_140 (k := ?_)
                        exact kr_ireturn dX8_told_141 ⟨rfl, rfl, _, rfl, h55⟩
                      · have h53 := h47.2 c51
                        by_cases c56 : v1 = (11 : Int32)
                        · have h57 := h53.1 c56
                          refine kr_tableIn (off := 141) 142 dX8_told_1 (by rw [c56]; decide) (by rw [c56]; decide) (by rw [c56]; decide) (by decide) ?_
                          refine kr_aload_n 0 dX8_told_142 rfl (k := ?_)
                          refine kr_getI 32 ckX8 lkF_X8_153 rfl (kg_o8a ho) (kg_o8n ho) dX8_told_143 (k := ?_)
                          exact kr_ireturn dX8_told_146 ⟨rfl, rfl, _, rfl, h57⟩
                        · have h58 := h53.2 c56
                          by_cases c59 : v1 = (12 : Int32)
                          · have h60 := h58.1 c59
                            refine kr_tableIn (off := 146) 147 dX8_told_1 (by rw [c59]; decide) (by rw [c59]; decide) (by rw [c59]; decide) (by decide) ?_
                            refine kr_aload_n 0 dX8_told_147 rfl (k := ?_)
                            refine kr_getI 35 ckX8 lkF_X8_156 rfl (kg_o8a ho) (kg_o8n ho) dX8_told_148 (k := ?_)
                            exact kr_ireturn dX8_told_151 ⟨rfl, rfl, _, rfl, h60⟩
                          · have h61 := h58.2 c59
                            by_cases c62 : v1 = (13 : Int32)
                            · have h63 := h61.1 c62
                              refine kr_tableIn (off := 151) 152 dX8_told_1 (by rw [c62]; decide) (by rw [c62]; decide) (by rw [c62]; decide) (by decide) ?_
                              refine kr_aload_n 0 dX8_told_152 rfl (k := ?_)
                              refine kr_getI 20 ckX8 lkF_X8_159 rfl (kg_o8a ho) (kg_o8n ho) dX8_told_153 (k := ?_)
                              exact kr_ireturn dX8_told_156 ⟨rfl, rfl, _, rfl, h63⟩
                            · have h64 := h61.2 c62
                              have e0_ : v1.toInt ≠ (0 : Int) := fun e => c3 (Int32.toInt_inj.mp (e.trans (by decide)))
                              have e1_ : v1.toInt ≠ (1 : Int) := fun e => c6 (Int32.toInt_inj.mp (e.trans (by decide)))
                              have e2_ : v1.toInt ≠ (2 : Int) := fun e => c9 (Int32.toInt_inj.mp (e.trans (by decide)))
                              have e3_ : v1.toInt ≠ (3 : Int) := fun e => c12 (Int32.toInt_inj.mp (e.trans (by decide)))
                              have e4_ : v1.toInt ≠ (4 : Int) := fun e => c17 (Int32.toInt_inj.mp (e.trans (by decide)))
                              have e5_ : v1.toInt ≠ (5 : Int) := fun e => c22 (Int32.toInt_inj.mp (e.trans (by decide)))
                              have e6_ : v1.toInt ≠ (6 : Int) := fun e => c27 (Int32.toInt_inj.mp (e.trans (by decide)))
                              have e7_ : v1.toInt ≠ (7 : Int) := fun e => c33 (Int32.toInt_inj.mp (e.trans (by decide)))
                              have e8_ : v1.toInt ≠ (8 : Int) := fun e => c39 (Int32.toInt_inj.mp (e.trans (by decide)))
                              have e9_ : v1.toInt ≠ (9 : Int) := fun e => c45 (Int32.toInt_inj.mp (e.trans (by decide)))
                              have e10_ : v1.toInt ≠ (10 : Int) := fun e => c51 (Int32.toInt_inj.mp (e.trans (by decide)))
                              have e11_ : v1.toInt ≠ (11 : Int) := fun e => c56 (Int32.toInt_inj.mp (e.trans (by decide)))
                              have e12_ : v1.toInt ≠ (12 : Int) := fun e => c59 (Int32.toInt_inj.mp (e.trans (by decide)))
                              have e13_ : v1.toInt ≠ (13 : Int) := fun e => c62 (Int32.toInt_inj.mp (e.trans (by decide)))
                              refine kr_tableOut 157 dX8_told_1 (by omega) (by decide) ?_
                              refine kr_ldc dX8_told_157 lkC_X8_99 (k := ?_)
                              exact kr_ireturn dX8_told_159 ⟨rfl, rfl, _, rfl, h64⟩
set_option maxRecDepth 100000 in
set_option maxHeartbeats 4000000 in
theorem sL_X8_undo_22 {G : kg_G} {E : State → Array Value → Prop} {R : kg_R} {n : Nat} {K : Int32 → kg_M → Prop} (ho : kg_O8 R n 117) {Kx54 : kg_M → Prop} (hKx54 : ∀ (M : kg_M), Kx54 M → kg_Run G E qX8_undo 0 54 [(0, .ref (kg_b G + 117))] [] M R n 0 0 (kg_I R n K)) : ∀ (f : Nat) (v1 : Int32) (M : kg_M), wL_X8_undo_22  Kx54 K f v1 M → kg_Run G E qX8_undo 0 22 [(0, .ref (kg_b G + 117)), (1, .int v1)] [] M R n 0 0 (kg_I R n K) := by
  intro f
  induction f with
  | zero => intro v1 M h0; exact h0.elim
  | succ f ih =>
    intro v1 M h8
    rw [wL_X8_undo_22] at h8
    refine kr_iload_n 1 dX8_undo_22 rfl (k := ?_)
    refine kr_bipush (55 : Int32) dX8_undo_23 (k := ?_)
    refine kr_icmp_ge 54 dX8_undo_25 (fun c9 => ?_) (fun c9 => ?_)
    · have h10 := h8.1 c9
      refine kr_sub [0] [(0, .ref (kg_b G + 117))] rfl ?_
      exact hKx54  M h10
    · have h11 := h8.2 c9
      refine kr_aload_n 0 dX8_undo_28 rfl (k := ?_)
      refine kr_getR 4 ckX8 lkF_X8_16 rfl (kg_o8a ho) (kg_o8n ho) (kg_o8r4 ho) dX8_undo_29 (k := ?_)
      refine kr_iload_n 1 dX8_undo_32 rfl (k := ?_)
      refine kr_aload_n 0 dX8_undo_33 rfl (k := ?_)
      refine kr_getR 21 ckX8 lkF_X8_44 rfl (kg_o8a ho) (kg_o8n ho) (kg_o8r21 ho) dX8_undo_34 (k := ?_)
      refine kr_bipush (55 : Int32) dX8_undo_37 (k := ?_)
      refine kr_aload_n 0 dX8_undo_39 rfl (k := ?_)
      refine kr_getI 20 ckX8 lkF_X8_159 rfl (kg_o8a ho) (kg_o8n ho) dX8_undo_40 (k := ?_)
      refine kr_imul dX8_undo_43 (k := ?_)
      refine kr_iload_n 1 dX8_undo_44 rfl (k := ?_)
      refine kr_iadd dX8_undo_45 (k := ?_)
      obtain ⟨h12, h13⟩ := h11
      refine kr_iald (kg_o8s21 ho) (kg_o8m21 ho) h12 dX8_undo_46 (k := ?_)
      obtain ⟨h14, h15⟩ := h13
      refine kn_iast (kg_o8s4 ho) (kg_o8m4 ho) h14 dX8_undo_47 (fun M16 e17 => ?_)
      have h18 := h15 M16 e17
      refine kr_iinc (1 : Int32) 1 [(1, .int (v1 + (1 : Int32))), (0, .ref (kg_b G + 117))] dX8_undo_48 rfl (k := ?_)
      refine kr_goto 22 dX8_undo_51 ?_
      refine kr_sub [1, 0] [(0, .ref (kg_b G + 117)), (1, .int (v1 + (1 : Int32)))] rfl ?_
      exact ih (v1 + (1 : Int32)) M16 h18
set_option maxRecDepth 100000 in
set_option maxHeartbeats 4000000 in
theorem sp_X8_undo {G : kg_G} {E : State → Array Value → Prop} {R : kg_R} {n : Nat} {K : Int32 → kg_M → Prop} (ho : kg_O8 R n 117) {M : kg_M} (h1 : wp_X8_undo  M K) : kg_Run G E qX8_undo 0 0 [(0, .ref (kg_b G + 117))] [] M R n 0 0 (kg_I R n K) := by
  unfold wp_X8_undo at h1
  refine kr_aload_n 0 dX8_undo_0 rfl (k := ?_)
  refine kr_getI 20 ckX8 lkF_X8_159 rfl (kg_o8a ho) (kg_o8n ho) dX8_undo_1 (k := ?_)
  refine kr_if_ne 10 dX8_undo_4 (fun c2 => ?_) (fun c2 => ?_)
  · have h3 := h1.1 c2
    refine kr_aload_n 0 dX8_undo_10 rfl (k := ?_)
    refine kr_dup dX8_undo_11 (k := ?_)
    refine kr_getI 20 ckX8 lkF_X8_159 rfl (kg_o8a ho) (kg_o8n ho) dX8_undo_12 (k := ?_)
    refine kr_iconst (1 : Int32) dX8_undo_15 (k := ?_)
    refine kr_isub dX8_undo_16 (k := ?_)
    refine kn_putI 20 ckX8 lkF_X8_159 rfl rfl rfl rfl (kg_o8a ho) (kg_o8n ho) dX8_undo_17 (fun M5 e6 => ?_)
    have h7 := h3 M5 e6
    refine kr_iconst (0 : Int32) dX8_undo_20 (k := ?_)
    refine kr_istore_n [(1, .int (0 : Int32)), (0, .ref (kg_b G + 117))] dX8_undo_21 (k := ?_)
    refine kr_sub [1, 0] [(0, .ref (kg_b G + 117)), (1, .int (0 : Int32))] rfl ?_
    obtain ⟨f20, h21⟩ := h7
    refine sL_X8_undo_22 ho ?_ f20 (0 : Int32) M5 h21
    · intro  M h19
      refine kr_aload_n 0 dX8_undo_54 rfl (k := ?_)
      refine kr_getI 20 ckX8 lkF_X8_159 rfl (kg_o8a ho) (kg_o8n ho) dX8_undo_55 (k := ?_)
      exact kr_ireturn dX8_undo_58 ⟨rfl, rfl, _, rfl, h19⟩
  · have h4 := h1.2 c2
    refine kr_ldc dX8_undo_7 lkC_X8_209 (k := ?_)
    exact kr_ireturn dX8_undo_9 ⟨rfl, rfl, _, rfl, h4⟩
set_option maxRecDepth 100000 in
set_option maxHeartbeats 4000000 in
theorem sp_X8_well {G : kg_G} {E : State → Array Value → Prop} {R : kg_R} {n : Nat} {K : Int32 → kg_M → Prop} (ho : kg_O8 R n 117) {v1 : Int32} {M : kg_M} (h1 : wp_X8_well v1 M K) : kg_Run G E qX8_well 2 0 [(0, .ref (kg_b G + 117)), (1, .int v1)] [] M R n 0 0 (kg_I R n K) := by
  unfold wp_X8_well at h1
  refine kr_aload_n 0 dX8_well_0 rfl (k := ?_)
  refine kr_iload_n 1 dX8_well_1 rfl (k := ?_)
  refine kn_callVz [.int v1] [] mvX8_isPerson lkM_X8_187 (kg_o8a ho) rfl (kg_o8n ho) dX8_well_2 (sp_X8_isPerson ho h1) (fun r4 M2 _ h3 => ?_)
  refine kr_if_ne 11 dX8_well_5 (fun c5 => ?_) (fun c5 => ?_)
  · have h6 := h3.1 c5
    refine kr_aload_n 0 dX8_well_11 rfl (k := ?_)
    refine kn_callVv [] [] mvX8_remember lkM_X8_213 (kg_o8a ho) rfl (kg_o8n ho) dX8_well_12 (sp_X8_remember ho h6) (fun M8 h9 => ?_)
    refine kr_aload_n 0 dX8_well_15 rfl (k := ?_)
    refine kr_getR 4 ckX8 lkF_X8_16 rfl (kg_o8a ho) (kg_o8n ho) (kg_o8r4 ho) dX8_well_16 (k := ?_)
    refine kr_bipush (14 : Int32) dX8_well_19 (k := ?_)
    refine kr_iload_n 1 dX8_well_21 rfl (k := ?_)
    refine kr_iadd dX8_well_22 (k := ?_)
    obtain ⟨h11, h12⟩ := h9
    refine kr_iald (kg_o8s4 ho) (kg_o8m4 ho) h11 dX8_well_23 (k := ?_)
    refine kr_istore_n [(2, .int (M8 120 ((14 : Int32) + v1).toNatClampNeg)), (0, .ref (kg_b G + 117)), (1, .int v1)] dX8_well_24 (k := ?_)
    refine kr_aload_n 1 dX8_well_25 rfl (k := ?_)
    refine kr_getR 4 ckX8 lkF_X8_16 rfl (kg_o8a ho) (kg_o8n ho) (kg_o8r4 ho) dX8_well_26 (k := ?_)
    refine kr_bipush (14 : Int32) dX8_well_29 (k := ?_)
    refine kr_iload_n 2 dX8_well_31 rfl (k := ?_)
    refine kr_iadd dX8_well_32 (k := ?_)
    refine kr_iconst (0 : Int32) dX8_well_33 (k := ?_)
    obtain ⟨h13, h14⟩ := h12
    refine kn_iast (kg_o8s4 ho) (kg_o8m4 ho) h13 dX8_well_34 (fun M15 e16 => ?_)
    have h17 := h14 M15 e16
    refine kr_iload_n 0 dX8_well_35 rfl (k := ?_)
    exact kr_ireturn dX8_well_36 ⟨rfl, rfl, _, rfl, h17⟩
  · have h7 := h3.2 c5
    refine kr_ldc dX8_well_8 lkC_X8_183 (k := ?_)
    exact kr_ireturn dX8_well_10 ⟨rfl, rfl, _, rfl, h7⟩
set_option maxRecDepth 100000 in
set_option maxHeartbeats 4000000 in
theorem sp_X8_write {G : kg_G} {E : State → Array Value → Prop} {R : kg_R} {n : Nat} {K : Int32 → kg_M → Prop} (ho : kg_O8 R n 117) {v1 : Int32} {v2 : Int32} {M : kg_M} (h1 : wp_X8_write v1 v2 M K) : kg_Run G E qX8_write 2 0 [(0, .ref (kg_b G + 117)), (1, .int v1), (2, .int v2)] [] M R n 0 0 (kg_I R n K) := by
  unfold wp_X8_write at h1
  refine kr_aload_n 0 dX8_write_0 rfl (k := ?_)
  refine kr_iload_n 1 dX8_write_1 rfl (k := ?_)
  refine kn_callVz [.int v1] [] mvX8_isPerson lkM_X8_187 (kg_o8a ho) rfl (kg_o8n ho) dX8_write_2 (sp_X8_isPerson ho h1) (fun r4 M2 _ h3 => ?_)
  refine kr_if_ne 11 dX8_write_5 (fun c5 => ?_) (fun c5 => ?_)
  · have h6 := h3.1 c5
    refine kr_iload_n 2 dX8_write_11 rfl (k := ?_)
    refine kr_i2l dX8_write_12 (k := ?_)
    refine kr_lconst (0 : Int64) dX8_write_13 (k := ?_)
    refine kr_lconst (1 : Int64) dX8_write_14 (k := ?_)
    refine kn_callSz [.long v2.toInt64, .long (0 : Int64), .long (1 : Int64)] [] msX8_in lkM_X8_90 dX8_write_15 (sp_X8_in  h6) (fun r10 M8 _ h9 => ?_)
    refine kr_if_ne 24 dX8_write_18 (fun c11 => ?_) (fun c11 => ?_)
    · have h12 := h9.1 c11
      refine kr_aload_n 0 dX8_write_24 rfl (k := ?_)
      refine kr_getI 35 ckX8 lkF_X8_156 rfl (kg_o8a ho) (kg_o8n ho) dX8_write_25 (k := ?_)
      refine kr_bipush (15 : Int32) dX8_write_28 (k := ?_)
      refine kr_icmp_ne 36 dX8_write_30 (fun c14 => ?_) (fun c14 => ?_)
      · have h15 := h12.1 c14
        refine kr_aload_n 0 dX8_write_36 rfl (k := ?_)
        refine kr_getR 36 ckX8 lkF_X8_75 rfl (kg_o8a ho) (kg_o8n ho) (kg_o8r36 ho) dX8_write_37 (k := ?_)
        refine kr_aload_n 0 dX8_write_40 rfl (k := ?_)
        refine kr_getI 35 ckX8 lkF_X8_156 rfl (kg_o8a ho) (kg_o8n ho) dX8_write_41 (k := ?_)
        refine kr_iload_n 1 dX8_write_44 rfl (k := ?_)
        obtain ⟨h17, h18⟩ := h15
        refine kn_iast (kg_o8s36 ho) (kg_o8m36 ho) h17 dX8_write_45 (fun M19 e20 => ?_)
        have h21 := h18 M19 e20
        refine kr_aload_n 0 dX8_write_46 rfl (k := ?_)
        refine kr_getR 37 ckX8 lkF_X8_78 rfl (kg_o8a ho) (kg_o8n ho) (kg_o8r37 ho) dX8_write_47 (k := ?_)
        refine kr_aload_n 0 dX8_write_50 rfl (k := ?_)
        refine kr_getI 35 ckX8 lkF_X8_156 rfl (kg_o8a ho) (kg_o8n ho) dX8_write_51 (k := ?_)
        refine kr_iload_n 2 dX8_write_54 rfl (k := ?_)
        obtain ⟨h22, h23⟩ := h21
        refine kn_iast (kg_o8s37 ho) (kg_o8m37 ho) h22 dX8_write_55 (fun M24 e25 => ?_)
        have h26 := h23 M24 e25
        refine kr_aload_n 0 dX8_write_56 rfl (k := ?_)
        refine kr_dup dX8_write_57 (k := ?_)
        refine kr_getI 35 ckX8 lkF_X8_156 rfl (kg_o8a ho) (kg_o8n ho) dX8_write_58 (k := ?_)
        refine kr_iconst (1 : Int32) dX8_write_61 (k := ?_)
        refine kr_iadd dX8_write_62 (k := ?_)
        refine kn_putI 35 ckX8 lkF_X8_156 rfl rfl rfl rfl (kg_o8a ho) (kg_o8n ho) dX8_write_63 (fun M27 e28 => ?_)
        have h29 := h26 M27 e28
        refine kr_aload_n 0 dX8_write_66 rfl (k := ?_)
        refine kr_getI 35 ckX8 lkF_X8_156 rfl (kg_o8a ho) (kg_o8n ho) dX8_write_67 (k := ?_)
        exact kr_ireturn dX8_write_70 ⟨rfl, rfl, _, rfl, h29⟩
      · have h16 := h12.2 c14
        refine kr_ldc dX8_write_33 lkC_X8_103 (k := ?_)
        exact kr_ireturn dX8_write_35 ⟨rfl, rfl, _, rfl, h16⟩
    · have h13 := h9.2 c11
      refine kr_ldc dX8_write_21 lkC_X8_99 (k := ?_)
      exact kr_ireturn dX8_write_23 ⟨rfl, rfl, _, rfl, h13⟩
  · have h7 := h3.2 c5
    refine kr_ldc dX8_write_8 lkC_X8_183 (k := ?_)
    exact kr_ireturn dX8_write_10 ⟨rfl, rfl, _, rfl, h7⟩
