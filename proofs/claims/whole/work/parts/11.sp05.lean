set_option maxRecDepth 100000 in
set_option maxHeartbeats 4000000 in
theorem sL_X8_couldBe_17 {G : kg_G} {E : State → Array Value → Prop} {R : kg_R} {n : Nat} {K : Int32 → kg_M → Prop} (ho : kg_O8 R n 117) {Kx67 : Int32 → Int32 → Int32 → kg_M → Prop} (hKx67 : ∀ (v1 : Int32) (v2 : Int32) (v3 : Int32) (M : kg_M), Kx67 v1 v2 v3 M → kg_Run G E qX8_couldBe 1 67 [(0, .ref (kg_b G + 117)), (1, .int v1), (2, .int v2), (3, .int v3)] [] M R n 0 0 (kg_I R n K)) : ∀ (f : Nat) (v1 : Int32) (v2 : Int32) (v3 : Int32) (v4 : Int32) (M : kg_M), wL_X8_couldBe_17  Kx67 K f v1 v2 v3 v4 M → kg_Run G E qX8_couldBe 1 17 [(0, .ref (kg_b G + 117)), (1, .int v1), (2, .int v2), (3, .int v3), (4, .int v4)] [] M R n 0 0 (kg_I R n K) := by
  intro f
  induction f with
  | zero => intro v1 v2 v3 v4 M h0; exact h0.elim
  | succ f ih =>
    intro v1 v2 v3 v4 M h6
    rw [wL_X8_couldBe_17] at h6
    refine kr_iload 4 dX8_couldBe_17 rfl (k := ?_)
    refine kr_aload_n 0 dX8_couldBe_19 rfl (k := ?_)
    refine kr_getI 32 ckX8 lkF_X8_153 rfl (kg_o8a ho) (kg_o8n ho) dX8_couldBe_20 (k := ?_)
    refine kr_icmp_ge 67 dX8_couldBe_23 (fun c7 => ?_) (fun c7 => ?_)
    · have h8 := h6.1 c7
      refine kr_sub [0, 1, 2, 3] [(0, .ref (kg_b G + 117)), (1, .int v1), (2, .int v2), (3, .int v3)] rfl ?_
      exact hKx67 v1 v2 v3 M h8
    · have h9 := h6.2 c7
      refine kr_iload_n 3 dX8_couldBe_26 rfl (k := ?_)
      refine kr_if_eq 59 dX8_couldBe_27 (fun c10 => ?_) (fun c10 => ?_)
      · have h11 := h9.1 c10
        refine kr_iconst (0 : Int32) dX8_couldBe_59 (k := ?_)
        refine kr_istore_n [(3, .int (0 : Int32)), (0, .ref (kg_b G + 117)), (1, .int v1), (2, .int v2), (4, .int v4)] dX8_couldBe_60 (k := ?_)
        refine kr_iinc (1 : Int32) 4 [(4, .int (v4 + (1 : Int32))), (3, .int (0 : Int32)), (0, .ref (kg_b G + 117)), (1, .int v1), (2, .int v2)] dX8_couldBe_61 rfl (k := ?_)
        refine kr_goto 17 dX8_couldBe_64 ?_
        refine kr_sub [2, 3, 4, 1, 0] [(0, .ref (kg_b G + 117)), (1, .int v1), (2, .int v2), (3, .int (0 : Int32)), (4, .int (v4 + (1 : Int32)))] rfl ?_
        exact ih v1 v2 (0 : Int32) (v4 + (1 : Int32)) M h11
      · have h12 := h9.2 c10
        refine kr_aload_n 0 dX8_couldBe_30 rfl (k := ?_)
        refine kr_iload_n 2 dX8_couldBe_31 rfl (k := ?_)
        refine kn_callVi [.int v2] [] mvX8_madeIll lkM_X8_297 (kg_o8a ho) rfl (kg_o8n ho) dX8_couldBe_32 (sp_X8_madeIll ho h12) (fun r15 M13 h14 => ?_)
        refine kr_aload_n 0 dX8_couldBe_35 rfl (k := ?_)
        refine kr_getR 33 ckX8 lkF_X8_69 rfl (kg_o8a ho) (kg_o8n ho) (kg_o8r33 ho) dX8_couldBe_36 (k := ?_)
        refine kr_iload 4 dX8_couldBe_39 rfl (k := ?_)
        obtain ⟨h16, h17⟩ := h14
        refine kr_iald (kg_o8s33 ho) (kg_o8m33 ho) h16 dX8_couldBe_41 (k := ?_)
        refine kn_callSz [.int r15, .int (M13 136 v4.toNatClampNeg)] [] msX8_has lkM_X8_269 dX8_couldBe_42 (sp_X8_has  h17) (fun r20 M18 _ h19 => ?_)
        refine kr_aload_n 0 dX8_couldBe_45 rfl (k := ?_)
        refine kr_getR 34 ckX8 lkF_X8_72 rfl (kg_o8a ho) (kg_o8n ho) (kg_o8r34 ho) dX8_couldBe_46 (k := ?_)
        refine kr_iload 4 dX8_couldBe_49 rfl (k := ?_)
        obtain ⟨h21, h22⟩ := h19
        refine kr_zald (kg_o8s34 ho) (kg_o8m34 ho) h21 dX8_couldBe_51 (k := ?_)
        refine kr_icmp_ne 59 dX8_couldBe_52 (fun c23 => ?_) (fun c23 => ?_)
        · have h24 := h22.1 c23
          refine kr_iconst (0 : Int32) dX8_couldBe_59 (k := ?_)
          refine kr_istore_n [(3, .int (0 : Int32)), (0, .ref (kg_b G + 117)), (1, .int v1), (2, .int v2), (4, .int v4)] dX8_couldBe_60 (k := ?_)
          refine kr_iinc (1 : Int32) 4 [(4, .int (v4 + (1 : Int32))), (3, .int (0 : Int32)), (0, .ref (kg_b G + 117)), (1, .int v1), (2, .int v2)] dX8_couldBe_61 rfl (k := ?_)
          refine kr_goto 17 dX8_couldBe_64 ?_
          refine kr_sub [2, 3, 4, 1, 0] [(0, .ref (kg_b G + 117)), (1, .int v1), (2, .int v2), (3, .int (0 : Int32)), (4, .int (v4 + (1 : Int32)))] rfl ?_
          exact ih v1 v2 (0 : Int32) (v4 + (1 : Int32)) M18 h24
        · have h25 := h22.2 c23
          refine kr_iconst (1 : Int32) dX8_couldBe_55 (k := ?_)
          refine kr_goto 60 dX8_couldBe_56 ?_
          refine kr_istore_n [(3, .int (1 : Int32)), (0, .ref (kg_b G + 117)), (1, .int v1), (2, .int v2), (4, .int v4)] dX8_couldBe_60 (k := ?_)
          refine kr_iinc (1 : Int32) 4 [(4, .int (v4 + (1 : Int32))), (3, .int (1 : Int32)), (0, .ref (kg_b G + 117)), (1, .int v1), (2, .int v2)] dX8_couldBe_61 rfl (k := ?_)
          refine kr_goto 17 dX8_couldBe_64 ?_
          refine kr_sub [2, 3, 4, 1, 0] [(0, .ref (kg_b G + 117)), (1, .int v1), (2, .int v2), (3, .int (1 : Int32)), (4, .int (v4 + (1 : Int32)))] rfl ?_
          exact ih v1 v2 (1 : Int32) (v4 + (1 : Int32)) M18 h25
set_option maxRecDepth 100000 in
set_option maxHeartbeats 4000000 in
theorem sL_X8_couldBe_4 {G : kg_G} {E : State → Array Value → Prop} {R : kg_R} {n : Nat} {K : Int32 → kg_M → Prop} (ho : kg_O8 R n 117) {Kx87 : Int32 → kg_M → Prop} (hKx87 : ∀ (v1 : Int32) (M : kg_M), Kx87 v1 M → kg_Run G E qX8_couldBe 1 87 [(1, .int v1)] [] M R n 0 0 (kg_I R n K)) : ∀ (f : Nat) (v1 : Int32) (v2 : Int32) (M : kg_M), wL_X8_couldBe_4  Kx87 K f v1 v2 M → kg_Run G E qX8_couldBe 1 4 [(0, .ref (kg_b G + 117)), (1, .int v1), (2, .int v2)] [] M R n 0 0 (kg_I R n K) := by
  intro f
  induction f with
  | zero => intro v1 v2 M h0; exact h0.elim
  | succ f ih =>
    intro v1 v2 M h2
    rw [wL_X8_couldBe_4] at h2
    refine kr_iload_n 2 dX8_couldBe_4 rfl (k := ?_)
    refine kr_aload_n 0 dX8_couldBe_5 rfl (k := ?_)
    refine kr_getI 2 ckX8 lkF_X8_94 rfl (kg_o8a ho) (kg_o8n ho) dX8_couldBe_6 (k := ?_)
    refine kr_icmp_ge 87 dX8_couldBe_9 (fun c3 => ?_) (fun c3 => ?_)
    · have h4 := h2.1 c3
      refine kr_sub [1] [(1, .int v1)] rfl ?_
      exact hKx87 v1 M h4
    · have h5 := h2.2 c3
      refine kr_iconst (1 : Int32) dX8_couldBe_12 (k := ?_)
      refine kr_istore_n [(3, .int (1 : Int32)), (0, .ref (kg_b G + 117)), (1, .int v1), (2, .int v2)] dX8_couldBe_13 (k := ?_)
      refine kr_iconst (0 : Int32) dX8_couldBe_14 (k := ?_)
      refine kr_istore [(4, .int (0 : Int32)), (3, .int (1 : Int32)), (0, .ref (kg_b G + 117)), (1, .int v1), (2, .int v2)] dX8_couldBe_15 (k := ?_)
      refine kr_sub [2, 3, 4, 1, 0] [(0, .ref (kg_b G + 117)), (1, .int v1), (2, .int v2), (3, .int (1 : Int32)), (4, .int (0 : Int32))] rfl ?_
      obtain ⟨f30, h31⟩ := h5
      refine sL_X8_couldBe_17 ho ?_ f30 v1 v2 (1 : Int32) (0 : Int32) M h31
      · intro v1 v2 v3 M h26
        refine kr_iload_n 1 dX8_couldBe_67 rfl (k := ?_)
        refine kr_iload_n 3 dX8_couldBe_68 rfl (k := ?_)
        refine kr_if_eq 78 dX8_couldBe_69 (fun c27 => ?_) (fun c27 => ?_)
        · have h28 := h26.1 c27
          refine kr_iconst (0 : Int32) dX8_couldBe_78 (k := ?_)
          refine kr_ior dX8_couldBe_79 (k := ?_)
          refine kr_istore_n [(1, .int (v1 ||| (0 : Int32))), (0, .ref (kg_b G + 117)), (2, .int v2), (3, .int v3)] dX8_couldBe_80 (k := ?_)
          refine kr_iinc (1 : Int32) 2 [(2, .int (v2 + (1 : Int32))), (1, .int (v1 ||| (0 : Int32))), (0, .ref (kg_b G + 117)), (3, .int v3)] dX8_couldBe_81 rfl (k := ?_)
          refine kr_goto 4 dX8_couldBe_84 ?_
          refine kr_sub [2, 1, 0] [(0, .ref (kg_b G + 117)), (1, .int (v1 ||| (0 : Int32))), (2, .int (v2 + (1 : Int32)))] rfl ?_
          exact ih (v1 ||| (0 : Int32)) (v2 + (1 : Int32)) M h28
        · have h29 := h26.2 c27
          refine kr_iconst (1 : Int32) dX8_couldBe_72 (k := ?_)
          refine kr_iload_n 2 dX8_couldBe_73 rfl (k := ?_)
          refine kr_ishl dX8_couldBe_74 (k := ?_)
          refine kr_goto 79 dX8_couldBe_75 ?_
          refine kr_ior dX8_couldBe_79 (k := ?_)
          refine kr_istore_n [(1, .int (v1 ||| ((1 : Int32) <<< (v2 &&& 31)))), (0, .ref (kg_b G + 117)), (2, .int v2), (3, .int v3)] dX8_couldBe_80 (k := ?_)
          refine kr_iinc (1 : Int32) 2 [(2, .int (v2 + (1 : Int32))), (1, .int (v1 ||| ((1 : Int32) <<< (v2 &&& 31)))), (0, .ref (kg_b G + 117)), (3, .int v3)] dX8_couldBe_81 rfl (k := ?_)
          refine kr_goto 4 dX8_couldBe_84 ?_
          refine kr_sub [2, 1, 0] [(0, .ref (kg_b G + 117)), (1, .int (v1 ||| ((1 : Int32) <<< (v2 &&& 31)))), (2, .int (v2 + (1 : Int32)))] rfl ?_
          exact ih (v1 ||| ((1 : Int32) <<< (v2 &&& 31))) (v2 + (1 : Int32)) M h29
set_option maxRecDepth 100000 in
set_option maxHeartbeats 4000000 in
theorem sp_X8_couldBe {G : kg_G} {E : State → Array Value → Prop} {R : kg_R} {n : Nat} {K : Int32 → kg_M → Prop} (ho : kg_O8 R n 117) {M : kg_M} (h1 : wp_X8_couldBe  M K) : kg_Run G E qX8_couldBe 1 0 [(0, .ref (kg_b G + 117))] [] M R n 0 0 (kg_I R n K) := by
  unfold wp_X8_couldBe at h1
  refine kr_iconst (0 : Int32) dX8_couldBe_0 (k := ?_)
  refine kr_istore_n [(1, .int (0 : Int32)), (0, .ref (kg_b G + 117))] dX8_couldBe_1 (k := ?_)
  refine kr_iconst (0 : Int32) dX8_couldBe_2 (k := ?_)
  refine kr_istore_n [(2, .int (0 : Int32)), (1, .int (0 : Int32)), (0, .ref (kg_b G + 117))] dX8_couldBe_3 (k := ?_)
  refine kr_sub [2, 1, 0] [(0, .ref (kg_b G + 117)), (1, .int (0 : Int32)), (2, .int (0 : Int32))] rfl ?_
  obtain ⟨f33, h34⟩ := h1
  refine sL_X8_couldBe_4 ho ?_ f33 (0 : Int32) (0 : Int32) M h34
  · intro v1 M h32
    refine kr_iload_n 0 dX8_couldBe_87 rfl (k := ?_)
    exact kr_ireturn dX8_couldBe_88 ⟨rfl, rfl, _, rfl, h32⟩
set_option maxRecDepth 100000 in
set_option maxHeartbeats 4000000 in
theorem sL_X8_ask_33 {G : kg_G} {E : State → Array Value → Prop} {R : kg_R} {n : Nat} {K : Int32 → kg_M → Prop} (ho : kg_O8 R n 117) {Kx81 : Int32 → Int32 → Int32 → Int32 → Int32 → Int32 → kg_M → Prop} (hKx81 : ∀ (v1 : Int32) (v2 : Int32) (v3 : Int32) (v4 : Int32) (v5 : Int32) (v6 : Int32) (M : kg_M), Kx81 v1 v2 v3 v4 v5 v6 M → kg_Run G E qX8_ask 2 81 [(0, .ref (kg_b G + 117)), (1, .int v1), (2, .int v2), (3, .int v3), (4, .int v4), (5, .int v5), (6, .int v6)] [] M R n 0 0 (kg_I R n K)) : ∀ (f : Nat) (v1 : Int32) (v2 : Int32) (v3 : Int32) (v4 : Int32) (v5 : Int32) (v6 : Int32) (v7 : Int32) (M : kg_M), wL_X8_ask_33  Kx81 K f v1 v2 v3 v4 v5 v6 v7 M → kg_Run G E qX8_ask 2 33 [(0, .ref (kg_b G + 117)), (1, .int v1), (2, .int v2), (3, .int v3), (4, .int v4), (5, .int v5), (6, .int v6), (7, .int v7)] [] M R n 0 0 (kg_I R n K) := by
  intro f
  induction f with
  | zero => intro v1 v2 v3 v4 v5 v6 v7 M h0; exact h0.elim
  | succ f ih =>
    intro v1 v2 v3 v4 v5 v6 v7 M h12
    rw [wL_X8_ask_33] at h12
    refine kr_iload 7 dX8_ask_33 rfl (k := ?_)
    refine kr_aload_n 0 dX8_ask_35 rfl (k := ?_)
    refine kr_getI 2 ckX8 lkF_X8_94 rfl (kg_o8a ho) (kg_o8n ho) dX8_ask_36 (k := ?_)
    refine kr_icmp_ge 81 dX8_ask_39 (fun c13 => ?_) (fun c13 => ?_)
    · have h14 := h12.1 c13
      refine kr_sub [0, 1, 2, 3, 4, 5, 6] [(0, .ref (kg_b G + 117)), (1, .int v1), (2, .int v2), (3, .int v3), (4, .int v4), (5, .int v5), (6, .int v6)] rfl ?_
      exact hKx81 v1 v2 v3 v4 v5 v6 M h14
    · have h15 := h12.2 c13
      refine kr_iload 6 dX8_ask_42 rfl (k := ?_)
      refine kr_iload_n 1 dX8_ask_44 rfl (k := ?_)
      refine kr_iload 7 dX8_ask_45 rfl (k := ?_)
      refine kn_callSz [.int v1, .int v7] [.int v6] msX8_has lkM_X8_269 dX8_ask_47 (sp_X8_has  h15) (fun r18 M16 _ h17 => ?_)
      refine kr_if_eq 71 dX8_ask_50 (fun c19 => ?_) (fun c19 => ?_)
      · have h20 := h17.1 c19
        refine kr_iconst (0 : Int32) dX8_ask_71 (k := ?_)
        refine kr_iadd dX8_ask_72 (k := ?_)
        refine kr_istore [(6, .int (v6 + (0 : Int32))), (0, .ref (kg_b G + 117)), (1, .int v1), (2, .int v2), (3, .int v3), (4, .int v4), (5, .int v5), (7, .int v7)] dX8_ask_73 (k := ?_)
        refine kr_iinc (1 : Int32) 7 [(7, .int (v7 + (1 : Int32))), (6, .int (v6 + (0 : Int32))), (0, .ref (kg_b G + 117)), (1, .int v1), (2, .int v2), (3, .int v3), (4, .int v4), (5, .int v5)] dX8_ask_75 rfl (k := ?_)
        refine kr_goto 33 dX8_ask_78 ?_
        refine kr_sub [2, 3, 4, 5, 6, 7, 1, 0] [(0, .ref (kg_b G + 117)), (1, .int v1), (2, .int v2), (3, .int v3), (4, .int v4), (5, .int v5), (6, .int (v6 + (0 : Int32))), (7, .int (v7 + (1 : Int32)))] rfl ?_
        exact ih v1 v2 v3 v4 v5 (v6 + (0 : Int32)) (v7 + (1 : Int32)) M16 h20
      · have h21 := h17.2 c19
        refine kr_aload_n 0 dX8_ask_53 rfl (k := ?_)
        refine kr_iload 7 dX8_ask_54 rfl (k := ?_)
        refine kn_callVi [.int v7] [.int v6] mvX8_madeIll lkM_X8_297 (kg_o8a ho) rfl (kg_o8n ho) dX8_ask_56 (sp_X8_madeIll ho h21) (fun r24 M22 h23 => ?_)
        refine kr_iload 5 dX8_ask_59 rfl (k := ?_)
        refine kn_callSz [.int r24, .int v5] [.int v6] msX8_has lkM_X8_269 dX8_ask_61 (sp_X8_has  h23) (fun r27 M25 _ h26 => ?_)
        refine kr_if_eq 71 dX8_ask_64 (fun c28 => ?_) (fun c28 => ?_)
        · have h29 := h26.1 c28
          refine kr_iconst (0 : Int32) dX8_ask_71 (k := ?_)
          refine kr_iadd dX8_ask_72 (k := ?_)
          refine kr_istore [(6, .int (v6 + (0 : Int32))), (0, .ref (kg_b G + 117)), (1, .int v1), (2, .int v2), (3, .int v3), (4, .int v4), (5, .int v5), (7, .int v7)] dX8_ask_73 (k := ?_)
          refine kr_iinc (1 : Int32) 7 [(7, .int (v7 + (1 : Int32))), (6, .int (v6 + (0 : Int32))), (0, .ref (kg_b G + 117)), (1, .int v1), (2, .int v2), (3, .int v3), (4, .int v4), (5, .int v5)] dX8_ask_75 rfl (k := ?_)
          refine kr_goto 33 dX8_ask_78 ?_
          refine kr_sub [2, 3, 4, 5, 6, 7, 1, 0] [(0, .ref (kg_b G + 117)), (1, .int v1), (2, .int v2), (3, .int v3), (4, .int v4), (5, .int v5), (6, .int (v6 + (0 : Int32))), (7, .int (v7 + (1 : Int32)))] rfl ?_
          exact ih v1 v2 v3 v4 v5 (v6 + (0 : Int32)) (v7 + (1 : Int32)) M25 h29
        · have h30 := h26.2 c28
          refine kr_iconst (1 : Int32) dX8_ask_67 (k := ?_)
          refine kr_goto 72 dX8_ask_68 ?_
          refine kr_iadd dX8_ask_72 (k := ?_)
          refine kr_istore [(6, .int (v6 + (1 : Int32))), (0, .ref (kg_b G + 117)), (1, .int v1), (2, .int v2), (3, .int v3), (4, .int v4), (5, .int v5), (7, .int v7)] dX8_ask_73 (k := ?_)
          refine kr_iinc (1 : Int32) 7 [(7, .int (v7 + (1 : Int32))), (6, .int (v6 + (1 : Int32))), (0, .ref (kg_b G + 117)), (1, .int v1), (2, .int v2), (3, .int v3), (4, .int v4), (5, .int v5)] dX8_ask_75 rfl (k := ?_)
          refine kr_goto 33 dX8_ask_78 ?_
          refine kr_sub [2, 3, 4, 5, 6, 7, 1, 0] [(0, .ref (kg_b G + 117)), (1, .int v1), (2, .int v2), (3, .int v3), (4, .int v4), (5, .int v5), (6, .int (v6 + (1 : Int32))), (7, .int (v7 + (1 : Int32)))] rfl ?_
          exact ih v1 v2 v3 v4 v5 (v6 + (1 : Int32)) (v7 + (1 : Int32)) M25 h30
set_option maxRecDepth 100000 in
set_option maxHeartbeats 4000000 in
theorem sJ_X8_ask_114 {G : kg_G} {E : State → Array Value → Prop} {R : kg_R} {n : Nat} {K : Int32 → kg_M → Prop} (ho : kg_O8 R n 117) {Kb : Int32 → Int32 → Int32 → Int32 → Int32 → kg_M → Prop} {Kx137 : Int32 → kg_M → Prop} (hKb : ∀ (v1 : Int32) (v2 : Int32) (v3 : Int32) (v4 : Int32) (v5 : Int32) (M : kg_M), Kb v1 v2 v3 v4 v5 M → kg_Run G E qX8_ask 2 18 [(0, .ref (kg_b G + 117)), (1, .int v1), (2, .int v2), (3, .int v3), (4, .int v4), (5, .int v5)] [] M R n 0 0 (kg_I R n K)) (hKx137 : ∀ (v3 : Int32) (M : kg_M), Kx137 v3 M → kg_Run G E qX8_ask 2 137 [(3, .int v3)] [] M R n 0 0 (kg_I R n K)) (v1 : Int32) (v2 : Int32) (v4 : Int32) (v5 : Int32) (v7 : Int32) (s0 : Int32) (M : kg_M) (h39 : wJ_X8_ask_114  Kb Kx137 K v1 v2 v4 v5 v7 s0 M) : kg_Run G E qX8_ask 2 114 [(0, .ref (kg_b G + 117)), (1, .int v1), (2, .int v2), (4, .int v4), (5, .int v5), (7, .int v7)] [.int s0] M R n 0 0 (kg_I R n K) := by
  unfold wJ_X8_ask_114 at h39
  refine kr_istore_n [(3, .int s0), (0, .ref (kg_b G + 117)), (1, .int v1), (2, .int v2), (4, .int v4), (5, .int v5), (7, .int v7)] dX8_ask_114 (k := ?_)
  refine kr_iload 6 dX8_ask_115 rfl (k := ?_)
  refine kr_iload 4 dX8_ask_117 rfl (k := ?_)
  refine kr_icmp_ge 127 dX8_ask_119 (fun c40 => ?_) (fun c40 => ?_)
  · have h41 := h39.1 c40
    refine kr_iload 4 dX8_ask_127 rfl (k := ?_)
    refine kr_istore [(4, .int v4), (3, .int s0), (0, .ref (kg_b G + 117)), (1, .int v1), (2, .int v2), (5, .int v5), (7, .int v7)] dX8_ask_129 (k := ?_)
    refine kr_iinc (1 : Int32) 5 [(5, .int (v5 + (1 : Int32))), (4, .int v4), (3, .int s0), (0, .ref (kg_b G + 117)), (1, .int v1), (2, .int v2), (7, .int v7)] dX8_ask_131 rfl (k := ?_)
    refine kr_goto 18 dX8_ask_134 ?_
    refine kr_sub [3, 4, 5, 2, 1, 0] [(0, .ref (kg_b G + 117)), (1, .int v1), (2, .int v2), (3, .int s0), (4, .int v4), (5, .int (v5 + (1 : Int32)))] rfl ?_
    exact hKb v1 v2 s0 v4 (v5 + (1 : Int32)) M h41
  · have h42 := h39.2 c40
    refine kr_iload 6 dX8_ask_122 rfl (k := ?_)
    refine kr_goto 129 dX8_ask_124 ?_
    refine kr_istore [(4, .int v7), (3, .int s0), (0, .ref (kg_b G + 117)), (1, .int v1), (2, .int v2), (5, .int v5), (7, .int v7)] dX8_ask_129 (k := ?_)
    refine kr_iinc (1 : Int32) 5 [(5, .int (v5 + (1 : Int32))), (4, .int v7), (3, .int s0), (0, .ref (kg_b G + 117)), (1, .int v1), (2, .int v2), (7, .int v7)] dX8_ask_131 rfl (k := ?_)
    refine kr_goto 18 dX8_ask_134 ?_
    refine kr_sub [3, 4, 5, 2, 1, 0] [(0, .ref (kg_b G + 117)), (1, .int v1), (2, .int v2), (3, .int s0), (4, .int v7), (5, .int (v5 + (1 : Int32)))] rfl ?_
    exact hKb v1 v2 s0 v7 (v5 + (1 : Int32)) M h42
set_option maxRecDepth 100000 in
set_option maxHeartbeats 4000000 in
theorem sJ_X8_ask_99 {G : kg_G} {E : State → Array Value → Prop} {R : kg_R} {n : Nat} {K : Int32 → kg_M → Prop} (ho : kg_O8 R n 117) {Kb : Int32 → Int32 → Int32 → Int32 → Int32 → kg_M → Prop} {Kx137 : Int32 → kg_M → Prop} (hKb : ∀ (v1 : Int32) (v2 : Int32) (v3 : Int32) (v4 : Int32) (v5 : Int32) (M : kg_M), Kb v1 v2 v3 v4 v5 M → kg_Run G E qX8_ask 2 18 [(0, .ref (kg_b G + 117)), (1, .int v1), (2, .int v2), (3, .int v3), (4, .int v4), (5, .int v5)] [] M R n 0 0 (kg_I R n K)) (hKx137 : ∀ (v3 : Int32) (M : kg_M), Kx137 v3 M → kg_Run G E qX8_ask 2 137 [(3, .int v3)] [] M R n 0 0 (kg_I R n K)) (v1 : Int32) (v2 : Int32) (v3 : Int32) (v4 : Int32) (v5 : Int32) (s0 : Int32) (M : kg_M) (h35 : wJ_X8_ask_99  Kb Kx137 K v1 v2 v3 v4 v5 s0 M) : kg_Run G E qX8_ask 2 99 [(0, .ref (kg_b G + 117)), (1, .int v1), (2, .int v2), (3, .int v3), (4, .int v4), (5, .int v5)] [.int s0] M R n 0 0 (kg_I R n K) := by
  unfold wJ_X8_ask_99 at h35
  refine kr_istore [(7, .int s0), (0, .ref (kg_b G + 117)), (1, .int v1), (2, .int v2), (3, .int v3), (4, .int v4), (5, .int v5)] dX8_ask_99 (k := ?_)
  refine kr_iload 0 dX8_ask_101 rfl (k := ?_)
  refine kr_iload 5 dX8_ask_103 rfl (k := ?_)
  refine kr_icmp_ge 113 dX8_ask_105 (fun c36 => ?_) (fun c36 => ?_)
  · have h37 := h35.1 c36
    refine kr_iload_n 4 dX8_ask_113 rfl (k := ?_)
    refine kr_sub [1, 2, 3, 5, 6, 0] [(0, .ref (kg_b G + 117)), (1, .int v1), (2, .int v2), (4, .int v4), (5, .int v5), (7, .int s0)] rfl ?_
    exact sJ_X8_ask_114 ho hKb hKx137 v1 v2 v4 v5 s0 v3 M h37
  · have h38 := h35.2 c36
    refine kr_iload 6 dX8_ask_108 rfl (k := ?_)
    refine kr_goto 114 dX8_ask_110 ?_
    refine kr_sub [1, 2, 3, 5, 6, 0] [(0, .ref (kg_b G + 117)), (1, .int v1), (2, .int v2), (4, .int v4), (5, .int v5), (7, .int s0)] rfl ?_
    exact sJ_X8_ask_114 ho hKb hKx137 v1 v2 v4 v5 s0 v5 M h38
set_option maxRecDepth 100000 in
set_option maxHeartbeats 4000000 in
theorem sL_X8_ask_18 {G : kg_G} {E : State → Array Value → Prop} {R : kg_R} {n : Nat} {K : Int32 → kg_M → Prop} (ho : kg_O8 R n 117) {Kx137 : Int32 → kg_M → Prop} (hKx137 : ∀ (v3 : Int32) (M : kg_M), Kx137 v3 M → kg_Run G E qX8_ask 2 137 [(3, .int v3)] [] M R n 0 0 (kg_I R n K)) : ∀ (f : Nat) (v1 : Int32) (v2 : Int32) (v3 : Int32) (v4 : Int32) (v5 : Int32) (M : kg_M), wL_X8_ask_18  Kx137 K f v1 v2 v3 v4 v5 M → kg_Run G E qX8_ask 2 18 [(0, .ref (kg_b G + 117)), (1, .int v1), (2, .int v2), (3, .int v3), (4, .int v4), (5, .int v5)] [] M R n 0 0 (kg_I R n K) := by
  intro f
  induction f with
  | zero => intro v1 v2 v3 v4 v5 M h0; exact h0.elim
  | succ f ih =>
    intro v1 v2 v3 v4 v5 M h8
    rw [wL_X8_ask_18] at h8
    refine kr_iload 5 dX8_ask_18 rfl (k := ?_)
    refine kr_aload_n 0 dX8_ask_20 rfl (k := ?_)
    refine kr_getI 2 ckX8 lkF_X8_94 rfl (kg_o8a ho) (kg_o8n ho) dX8_ask_21 (k := ?_)
    refine kr_icmp_ge 137 dX8_ask_24 (fun c9 => ?_) (fun c9 => ?_)
    · have h10 := h8.1 c9
      refine kr_sub [3] [(3, .int v3)] rfl ?_
      exact hKx137 v3 M h10
    · have h11 := h8.2 c9
      refine kr_iconst (0 : Int32) dX8_ask_27 (k := ?_)
      refine kr_istore [(6, .int (0 : Int32)), (0, .ref (kg_b G + 117)), (1, .int v1), (2, .int v2), (3, .int v3), (4, .int v4), (5, .int v5)] dX8_ask_28 (k := ?_)
      refine kr_iconst (0 : Int32) dX8_ask_30 (k := ?_)
      refine kr_istore [(7, .int (0 : Int32)), (6, .int (0 : Int32)), (0, .ref (kg_b G + 117)), (1, .int v1), (2, .int v2), (3, .int v3), (4, .int v4), (5, .int v5)] dX8_ask_31 (k := ?_)
      refine kr_sub [2, 3, 4, 5, 6, 7, 1, 0] [(0, .ref (kg_b G + 117)), (1, .int v1), (2, .int v2), (3, .int v3), (4, .int v4), (5, .int v5), (6, .int (0 : Int32)), (7, .int (0 : Int32))] rfl ?_
      obtain ⟨f43, h44⟩ := h11
      refine sL_X8_ask_33 ho ?_ f43 v1 v2 v3 v4 v5 (0 : Int32) (0 : Int32) M h44
      · intro v1 v2 v3 v4 v5 v6 M h31
        refine kr_iload 6 dX8_ask_81 rfl (k := ?_)
        refine kr_iload_n 2 dX8_ask_83 rfl (k := ?_)
        refine kr_iload 6 dX8_ask_84 rfl (k := ?_)
        refine kr_isub dX8_ask_86 (k := ?_)
        refine kr_icmp_le 95 dX8_ask_87 (fun c32 => ?_) (fun c32 => ?_)
        · have h33 := h31.1 c32
          refine kr_iload_n 2 dX8_ask_95 rfl (k := ?_)
          refine kr_iload 6 dX8_ask_96 rfl (k := ?_)
          refine kr_isub dX8_ask_98 (k := ?_)
          refine kr_sub [0, 1, 2, 3, 4, 5] [(0, .ref (kg_b G + 117)), (1, .int v1), (2, .int v2), (3, .int v3), (4, .int v4), (5, .int v5)] rfl ?_
          exact sJ_X8_ask_99 ho ih hKx137 v1 v2 v3 v4 v5 (v2 - v6) M h33
        · have h34 := h31.2 c32
          refine kr_iload 6 dX8_ask_90 rfl (k := ?_)
          refine kr_goto 99 dX8_ask_92 ?_
          refine kr_sub [0, 1, 2, 3, 4, 5] [(0, .ref (kg_b G + 117)), (1, .int v1), (2, .int v2), (3, .int v3), (4, .int v4), (5, .int v5)] rfl ?_
          exact sJ_X8_ask_99 ho ih hKx137 v1 v2 v3 v4 v5 v6 M h34
set_option maxRecDepth 100000 in
set_option maxHeartbeats 4000000 in
theorem sp_X8_ask {G : kg_G} {E : State → Array Value → Prop} {R : kg_R} {n : Nat} {K : Int32 → kg_M → Prop} (ho : kg_O8 R n 117) {M : kg_M} (h1 : wp_X8_ask  M K) : kg_Run G E qX8_ask 2 0 [(0, .ref (kg_b G + 117))] [] M R n 0 0 (kg_I R n K) := by
  unfold wp_X8_ask at h1
  refine kr_aload_n 0 dX8_ask_0 rfl (k := ?_)
  refine kn_callVi [] [] mvX8_couldBe lkM_X8_306 (kg_o8a ho) rfl (kg_o8n ho) dX8_ask_1 (sp_X8_couldBe ho h1) (fun r4 M2 h3 => ?_)
  refine kr_istore_n [(1, .int r4), (0, .ref (kg_b G + 117))] dX8_ask_4 (k := ?_)
  refine kr_iload_n 0 dX8_ask_5 rfl (k := ?_)
  refine kn_callSi [.int r4] [] msX8_bits lkM_X8_238 dX8_ask_6 (sp_X8_bits  h3) (fun r7 M5 h6 => ?_)
  refine kr_istore_n [(2, .int r7), (1, .int r4), (0, .ref (kg_b G + 117))] dX8_ask_9 (k := ?_)
  refine kr_iconst (-1 : Int32) dX8_ask_10 (k := ?_)
  refine kr_istore_n [(3, .int (-1 : Int32)), (2, .int r7), (1, .int r4), (0, .ref (kg_b G + 117))] dX8_ask_11 (k := ?_)
  refine kr_iload_n 1 dX8_ask_12 rfl (k := ?_)
  refine kr_istore [(4, .int r7), (3, .int (-1 : Int32)), (2, .int r7), (1, .int r4), (0, .ref (kg_b G + 117))] dX8_ask_13 (k := ?_)
  refine kr_iconst (0 : Int32) dX8_ask_15 (k := ?_)
  refine kr_istore [(5, .int (0 : Int32)), (4, .int r7), (3, .int (-1 : Int32)), (2, .int r7), (1, .int r4), (0, .ref (kg_b G + 117))] dX8_ask_16 (k := ?_)
  refine kr_sub [5, 4, 3, 2, 1, 0] [(0, .ref (kg_b G + 117)), (1, .int r4), (2, .int r7), (3, .int (-1 : Int32)), (4, .int r7), (5, .int (0 : Int32))] rfl ?_
  obtain ⟨f46, h47⟩ := h6
  refine sL_X8_ask_18 ho ?_ f46 r4 r7 (-1 : Int32) r7 (0 : Int32) M5 h47
  · intro v3 M h45
    refine kr_iload_n 0 dX8_ask_137 rfl (k := ?_)
    exact kr_ireturn dX8_ask_138 ⟨rfl, rfl, _, rfl, h45⟩
set_option maxRecDepth 100000 in
set_option maxHeartbeats 4000000 in
theorem sL_X8_isFirst_2 {G : kg_G} {E : State → Array Value → Prop} {R : kg_R} {n : Nat} {K : Int32 → kg_M → Prop} (ho : kg_O8 R n 117) {Kx25 : Int32 → kg_M → Prop} {Kx52 : kg_M → Prop} (hKx25 : ∀ (v1 : Int32) (M : kg_M), Kx25 v1 M → kg_Run G E qX8_isFirst 0 25 [(0, .ref (kg_b G + 117)), (1, .int v1)] [] M R n 0 0 (kg_Z R n K)) (hKx52 : ∀ (M : kg_M), Kx52 M → kg_Run G E qX8_isFirst 0 52 [] [] M R n 0 0 (kg_Z R n K)) : ∀ (f : Nat) (v1 : Int32) (M : kg_M), wL_X8_isFirst_2  Kx25 Kx52 K f v1 M → kg_Run G E qX8_isFirst 0 2 [(0, .ref (kg_b G + 117)), (1, .int v1)] [] M R n 0 0 (kg_Z R n K) := by
  intro f
  induction f with
  | zero => intro v1 M h0; exact h0.elim
  | succ f ih =>
    intro v1 M h2
    rw [wL_X8_isFirst_2] at h2
    refine kr_iload_n 1 dX8_isFirst_2 rfl (k := ?_)
    refine kr_aload_n 0 dX8_isFirst_3 rfl (k := ?_)
    refine kr_getI 2 ckX8 lkF_X8_94 rfl (kg_o8a ho) (kg_o8n ho) dX8_isFirst_4 (k := ?_)
    refine kr_icmp_ge 52 dX8_isFirst_7 (fun c3 => ?_) (fun c3 => ?_)
    · have h4 := h2.1 c3
      refine kr_sub [] [] rfl ?_
      exact hKx52  M h4
    · have h5 := h2.2 c3
      refine kr_aload_n 0 dX8_isFirst_10 rfl (k := ?_)
      refine kr_getR 23 ckX8 lkF_X8_50 rfl (kg_o8a ho) (kg_o8n ho) (kg_o8r23 ho) dX8_isFirst_11 (k := ?_)
      refine kr_iload_n 1 dX8_isFirst_14 rfl (k := ?_)
      obtain ⟨h6, h7⟩ := h5
      refine kr_iald (kg_o8s23 ho) (kg_o8m23 ho) h6 dX8_isFirst_15 (k := ?_)
      refine kr_aload_n 0 dX8_isFirst_16 rfl (k := ?_)
      refine kr_getR 24 ckX8 lkF_X8_53 rfl (kg_o8a ho) (kg_o8n ho) (kg_o8r24 ho) dX8_isFirst_17 (k := ?_)
      refine kr_iload_n 1 dX8_isFirst_20 rfl (k := ?_)
      obtain ⟨h8, h9⟩ := h7
      refine kr_iald (kg_o8s24 ho) (kg_o8m24 ho) h8 dX8_isFirst_21 (k := ?_)
      refine kr_icmp_eq 46 dX8_isFirst_22 (fun c10 => ?_) (fun c10 => ?_)
      · have h11 := h9.1 c10
        refine kr_iinc (1 : Int32) 1 [(1, .int (v1 + (1 : Int32))), (0, .ref (kg_b G + 117))] dX8_isFirst_46 rfl (k := ?_)
        refine kr_goto 2 dX8_isFirst_49 ?_
        refine kr_sub [1, 0] [(0, .ref (kg_b G + 117)), (1, .int (v1 + (1 : Int32)))] rfl ?_
        exact ih (v1 + (1 : Int32)) M h11
      · have h12 := h9.2 c10
        refine kr_sub [0, 1] [(0, .ref (kg_b G + 117)), (1, .int v1)] rfl ?_
        exact hKx25 v1 M h12
set_option maxRecDepth 100000 in
set_option maxHeartbeats 4000000 in
theorem sp_X8_isFirst {G : kg_G} {E : State → Array Value → Prop} {R : kg_R} {n : Nat} {K : Int32 → kg_M → Prop} (ho : kg_O8 R n 117) {M : kg_M} (h1 : wp_X8_isFirst  M K) : kg_Run G E qX8_isFirst 0 0 [(0, .ref (kg_b G + 117))] [] M R n 0 0 (kg_Z R n K) := by
  unfold wp_X8_isFirst at h1
  refine kr_iconst (0 : Int32) dX8_isFirst_0 (k := ?_)
  refine kr_istore_n [(1, .int (0 : Int32)), (0, .ref (kg_b G + 117))] dX8_isFirst_1 (k := ?_)
  refine kr_sub [1, 0] [(0, .ref (kg_b G + 117)), (1, .int (0 : Int32))] rfl ?_
  obtain ⟨f22, h23⟩ := h1
  refine sL_X8_isFirst_2 ho ?_ ?_ f22 (0 : Int32) M h23
  · intro v1 M h13
    refine kr_aload_n 0 dX8_isFirst_25 rfl (k := ?_)
    refine kr_getR 23 ckX8 lkF_X8_50 rfl (kg_o8a ho) (kg_o8n ho) (kg_o8r23 ho) dX8_isFirst_26 (k := ?_)
    refine kr_iload_n 1 dX8_isFirst_29 rfl (k := ?_)
    obtain ⟨h14, h15⟩ := h13
    refine kr_iald (kg_o8s23 ho) (kg_o8m23 ho) h14 dX8_isFirst_30 (k := ?_)
    refine kr_aload_n 0 dX8_isFirst_31 rfl (k := ?_)
    refine kr_getR 24 ckX8 lkF_X8_53 rfl (kg_o8a ho) (kg_o8n ho) (kg_o8r24 ho) dX8_isFirst_32 (k := ?_)
    refine kr_iload_n 1 dX8_isFirst_35 rfl (k := ?_)
    obtain ⟨h16, h17⟩ := h15
    refine kr_iald (kg_o8s24 ho) (kg_o8m24 ho) h16 dX8_isFirst_36 (k := ?_)
    refine kr_icmp_ge 44 dX8_isFirst_37 (fun c18 => ?_) (fun c18 => ?_)
    · have h19 := h17.1 c18
      refine kr_iconst (0 : Int32) dX8_isFirst_44 (k := ?_)
      exact kr_ireturn dX8_isFirst_45 ⟨rfl, rfl, _, rfl, (by decide), h19⟩
    · have h20 := h17.2 c18
      refine kr_iconst (1 : Int32) dX8_isFirst_40 (k := ?_)
      refine kr_goto 45 dX8_isFirst_41 ?_
      exact kr_ireturn dX8_isFirst_45 ⟨rfl, rfl, _, rfl, (by decide), h20⟩
  · intro  M h21
    refine kr_iconst (0 : Int32) dX8_isFirst_52 (k := ?_)
    exact kr_ireturn dX8_isFirst_53 ⟨rfl, rfl, _, rfl, (by decide), h21⟩
set_option maxRecDepth 100000 in
set_option maxHeartbeats 4000000 in
theorem sL_X8_rusted_4 {G : kg_G} {E : State → Array Value → Prop} {R : kg_R} {n : Nat} {K : Int32 → kg_M → Prop} (ho : kg_O8 R n 117) {Kx41 : Int32 → kg_M → Prop} (hKx41 : ∀ (v1 : Int32) (M : kg_M), Kx41 v1 M → kg_Run G E qX8_rusted 0 41 [(1, .int v1)] [] M R n 0 0 (kg_I R n K)) : ∀ (f : Nat) (v1 : Int32) (v2 : Int32) (M : kg_M), wL_X8_rusted_4  Kx41 K f v1 v2 M → kg_Run G E qX8_rusted 0 4 [(0, .ref (kg_b G + 117)), (1, .int v1), (2, .int v2)] [] M R n 0 0 (kg_I R n K) := by
  intro f
  induction f with
  | zero => intro v1 v2 M h0; exact h0.elim
  | succ f ih =>
    intro v1 v2 M h2
    rw [wL_X8_rusted_4] at h2
    refine kr_iload_n 2 dX8_rusted_4 rfl (k := ?_)
    refine kr_aload_n 0 dX8_rusted_5 rfl (k := ?_)
    refine kr_getI 0 ckX8 lkF_X8_87 rfl (kg_o8a ho) (kg_o8n ho) dX8_rusted_6 (k := ?_)
    refine kr_icmp_ge 41 dX8_rusted_9 (fun c3 => ?_) (fun c3 => ?_)
    · have h4 := h2.1 c3
      refine kr_sub [1] [(1, .int v1)] rfl ?_
      exact hKx41 v1 M h4
    · have h5 := h2.2 c3
      refine kr_iload_n 1 dX8_rusted_12 rfl (k := ?_)
      refine kr_aload_n 0 dX8_rusted_13 rfl (k := ?_)
      refine kr_getR 4 ckX8 lkF_X8_16 rfl (kg_o8a ho) (kg_o8n ho) (kg_o8r4 ho) dX8_rusted_14 (k := ?_)
      refine kr_bipush (26 : Int32) dX8_rusted_17 (k := ?_)
      refine kr_iload_n 2 dX8_rusted_19 rfl (k := ?_)
      refine kr_iadd dX8_rusted_20 (k := ?_)
      obtain ⟨h6, h7⟩ := h5
      refine kr_iald (kg_o8s4 ho) (kg_o8m4 ho) h6 dX8_rusted_21 (k := ?_)
      refine kr_iconst (1 : Int32) dX8_rusted_22 (k := ?_)
      refine kr_icmp_ne 32 dX8_rusted_23 (fun c8 => ?_) (fun c8 => ?_)
      · have h9 := h7.1 c8
        refine kr_iconst (0 : Int32) dX8_rusted_32 (k := ?_)
        refine kr_ior dX8_rusted_33 (k := ?_)
        refine kr_istore_n [(1, .int (v1 ||| (0 : Int32))), (0, .ref (kg_b G + 117)), (2, .int v2)] dX8_rusted_34 (k := ?_)
        refine kr_iinc (1 : Int32) 2 [(2, .int (v2 + (1 : Int32))), (1, .int (v1 ||| (0 : Int32))), (0, .ref (kg_b G + 117))] dX8_rusted_35 rfl (k := ?_)
        refine kr_goto 4 dX8_rusted_38 ?_
        refine kr_sub [2, 1, 0] [(0, .ref (kg_b G + 117)), (1, .int (v1 ||| (0 : Int32))), (2, .int (v2 + (1 : Int32)))] rfl ?_
        exact ih (v1 ||| (0 : Int32)) (v2 + (1 : Int32)) M h9
      · have h10 := h7.2 c8
        refine kr_iconst (1 : Int32) dX8_rusted_26 (k := ?_)
        refine kr_iload_n 2 dX8_rusted_27 rfl (k := ?_)
        refine kr_ishl dX8_rusted_28 (k := ?_)
        refine kr_goto 33 dX8_rusted_29 ?_
        refine kr_ior dX8_rusted_33 (k := ?_)
        refine kr_istore_n [(1, .int (v1 ||| ((1 : Int32) <<< (v2 &&& 31)))), (0, .ref (kg_b G + 117)), (2, .int v2)] dX8_rusted_34 (k := ?_)
        refine kr_iinc (1 : Int32) 2 [(2, .int (v2 + (1 : Int32))), (1, .int (v1 ||| ((1 : Int32) <<< (v2 &&& 31)))), (0, .ref (kg_b G + 117))] dX8_rusted_35 rfl (k := ?_)
        refine kr_goto 4 dX8_rusted_38 ?_
        refine kr_sub [2, 1, 0] [(0, .ref (kg_b G + 117)), (1, .int (v1 ||| ((1 : Int32) <<< (v2 &&& 31)))), (2, .int (v2 + (1 : Int32)))] rfl ?_
        exact ih (v1 ||| ((1 : Int32) <<< (v2 &&& 31))) (v2 + (1 : Int32)) M h10
set_option maxRecDepth 100000 in
set_option maxHeartbeats 4000000 in
theorem sp_X8_rusted {G : kg_G} {E : State → Array Value → Prop} {R : kg_R} {n : Nat} {K : Int32 → kg_M → Prop} (ho : kg_O8 R n 117) {M : kg_M} (h1 : wp_X8_rusted  M K) : kg_Run G E qX8_rusted 0 0 [(0, .ref (kg_b G + 117))] [] M R n 0 0 (kg_I R n K) := by
  unfold wp_X8_rusted at h1
  refine kr_iconst (0 : Int32) dX8_rusted_0 (k := ?_)
  refine kr_istore_n [(1, .int (0 : Int32)), (0, .ref (kg_b G + 117))] dX8_rusted_1 (k := ?_)
  refine kr_iconst (0 : Int32) dX8_rusted_2 (k := ?_)
  refine kr_istore_n [(2, .int (0 : Int32)), (1, .int (0 : Int32)), (0, .ref (kg_b G + 117))] dX8_rusted_3 (k := ?_)
  refine kr_sub [2, 1, 0] [(0, .ref (kg_b G + 117)), (1, .int (0 : Int32)), (2, .int (0 : Int32))] rfl ?_
  obtain ⟨f12, h13⟩ := h1
  refine sL_X8_rusted_4 ho ?_ f12 (0 : Int32) (0 : Int32) M h13
  · intro v1 M h11
    refine kr_iload_n 0 dX8_rusted_41 rfl (k := ?_)
    exact kr_ireturn dX8_rusted_42 ⟨rfl, rfl, _, rfl, h11⟩
set_option maxRecDepth 100000 in
set_option maxHeartbeats 4000000 in
theorem sp_X8_openGates {G : kg_G} {E : State → Array Value → Prop} {R : kg_R} {n : Nat} {K : Int32 → kg_M → Prop} (ho : kg_O8 R n 117) {M : kg_M} (h1 : wp_X8_openGates  M K) : kg_Run G E qX8_openGates 1 0 [(0, .ref (kg_b G + 117))] [] M R n 0 0 (kg_I R n K) := by
  unfold wp_X8_openGates at h1
  refine kr_aload_n 0 dX8_openGates_0 rfl (k := ?_)
  refine kr_getI 0 ckX8 lkF_X8_87 rfl (kg_o8a ho) (kg_o8n ho) dX8_openGates_1 (k := ?_)
  refine kr_aload_n 0 dX8_openGates_4 rfl (k := ?_)
  refine kn_callVi [] [.int (M 117 0)] mvX8_rusted lkM_X8_176 (kg_o8a ho) rfl (kg_o8n ho) dX8_openGates_5 (sp_X8_rusted ho h1) (fun r4 M2 h3 => ?_)
  refine kn_callSi [.int r4] [.int (M 117 0)] msX8_bits lkM_X8_238 dX8_openGates_8 (sp_X8_bits  h3) (fun r7 M5 h6 => ?_)
  refine kr_isub dX8_openGates_11 (k := ?_)
  exact kr_ireturn dX8_openGates_12 ⟨rfl, rfl, _, rfl, h6⟩
set_option maxRecDepth 100000 in
set_option maxHeartbeats 4000000 in
theorem sp_X8_would {G : kg_G} {E : State → Array Value → Prop} {R : kg_R} {n : Nat} {K : Int32 → kg_M → Prop} (ho : kg_O8 R n 117) {v1 : Int32} {v2 : Int32} {M : kg_M} (h1 : wp_X8_would v1 v2 M K) : kg_Run G E qX8_would 1 0 [(0, .ref (kg_b G + 117)), (1, .int v1), (2, .int v2)] [] M R n 0 0 (kg_Z R n K) := by
  unfold wp_X8_would at h1
  refine kr_aload_n 0 dX8_would_0 rfl (k := ?_)
  refine kr_iload_n 1 dX8_would_1 rfl (k := ?_)
  refine kr_iload_n 2 dX8_would_2 rfl (k := ?_)
  refine kn_callVz [.int v1, .int v2] [] mvX8_like lkM_X8_162 (kg_o8a ho) rfl (kg_o8n ho) dX8_would_3 (sp_X8_like ho h1) (fun r4 M2 _ h3 => ?_)
  refine kr_if_eq 28 dX8_would_6 (fun c5 => ?_) (fun c5 => ?_)
  · have h6 := h3.1 c5
    refine kr_iconst (0 : Int32) dX8_would_28 (k := ?_)
    exact kr_ireturn dX8_would_29 ⟨rfl, rfl, _, rfl, (by decide), h6⟩
  · have h7 := h3.2 c5
    refine kr_aload_n 0 dX8_would_9 rfl (k := ?_)
    refine kr_getR 4 ckX8 lkF_X8_16 rfl (kg_o8a ho) (kg_o8n ho) (kg_o8r4 ho) dX8_would_10 (k := ?_)
    refine kr_iload_n 1 dX8_would_13 rfl (k := ?_)
    obtain ⟨h8, h9⟩ := h7
    refine kr_iald (kg_o8s4 ho) (kg_o8m4 ho) h8 dX8_would_14 (k := ?_)
    refine kr_aload_n 0 dX8_would_15 rfl (k := ?_)
    refine kr_getR 4 ckX8 lkF_X8_16 rfl (kg_o8a ho) (kg_o8n ho) (kg_o8r4 ho) dX8_would_16 (k := ?_)
    refine kr_iload_n 2 dX8_would_19 rfl (k := ?_)
    obtain ⟨h10, h11⟩ := h9
    refine kr_iald (kg_o8s4 ho) (kg_o8m4 ho) h10 dX8_would_20 (k := ?_)
    refine kr_icmp_eq 28 dX8_would_21 (fun c12 => ?_) (fun c12 => ?_)
    · have h13 := h11.1 c12
      refine kr_iconst (0 : Int32) dX8_would_28 (k := ?_)
      exact kr_ireturn dX8_would_29 ⟨rfl, rfl, _, rfl, (by decide), h13⟩
    · have h14 := h11.2 c12
      refine kr_iconst (1 : Int32) dX8_would_24 (k := ?_)
      refine kr_goto 29 dX8_would_25 ?_
      exact kr_ireturn dX8_would_29 ⟨rfl, rfl, _, rfl, (by decide), h14⟩
set_option maxRecDepth 100000 in
set_option maxHeartbeats 4000000 in
theorem sL_X8_pairUp_4 {G : kg_G} {E : State → Array Value → Prop} {R : kg_R} {n : Nat} {K : Int32 → kg_M → Prop} (ho : kg_O8 R n 117) {Kx24 : Int32 → kg_M → Prop} (hKx24 : ∀ (v1 : Int32) (M : kg_M), Kx24 v1 M → kg_Run G E qX8_pairUp 2 24 [(0, .ref (kg_b G + 117)), (1, .int v1)] [] M R n 0 0 (kg_Z R n K)) : ∀ (f : Nat) (v1 : Int32) (v2 : Int32) (M : kg_M), wL_X8_pairUp_4  Kx24 K f v1 v2 M → kg_Run G E qX8_pairUp 2 4 [(0, .ref (kg_b G + 117)), (1, .int v1), (2, .int v2)] [] M R n 0 0 (kg_Z R n K) := by
  intro f
  induction f with
  | zero => intro v1 v2 M h0; exact h0.elim
  | succ f ih =>
    intro v1 v2 M h2
    rw [wL_X8_pairUp_4] at h2
    refine kr_iload_n 2 dX8_pairUp_4 rfl (k := ?_)
    refine kr_bipush (7 : Int32) dX8_pairUp_5 (k := ?_)
    refine kr_icmp_ge 24 dX8_pairUp_7 (fun c3 => ?_) (fun c3 => ?_)
    · have h4 := h2.1 c3
      refine kr_sub [0, 1] [(0, .ref (kg_b G + 117)), (1, .int v1)] rfl ?_
      exact hKx24 v1 M h4
    · have h5 := h2.2 c3
      refine kr_aload_n 0 dX8_pairUp_10 rfl (k := ?_)
      refine kr_getR 23 ckX8 lkF_X8_50 rfl (kg_o8a ho) (kg_o8n ho) (kg_o8r23 ho) dX8_pairUp_11 (k := ?_)
      refine kr_iload_n 2 dX8_pairUp_14 rfl (k := ?_)
      refine kr_bipush (7 : Int32) dX8_pairUp_15 (k := ?_)
      obtain ⟨h6, h7⟩ := h5
      refine kn_iast (kg_o8s23 ho) (kg_o8m23 ho) h6 dX8_pairUp_17 (fun M8 e9 => ?_)
      have h10 := h7 M8 e9
      refine kr_iinc (1 : Int32) 2 [(2, .int (v2 + (1 : Int32))), (0, .ref (kg_b G + 117)), (1, .int v1)] dX8_pairUp_18 rfl (k := ?_)
      refine kr_goto 4 dX8_pairUp_21 ?_
      refine kr_sub [1, 2, 0] [(0, .ref (kg_b G + 117)), (1, .int v1), (2, .int (v2 + (1 : Int32)))] rfl ?_
      exact ih v1 (v2 + (1 : Int32)) M8 h10
set_option maxRecDepth 100000 in
set_option maxHeartbeats 4000000 in
theorem sL_X8_pairUp_26 {G : kg_G} {E : State → Array Value → Prop} {R : kg_R} {n : Nat} {K : Int32 → kg_M → Prop} (ho : kg_O8 R n 117) {Kx113 : Int32 → kg_M → Prop} (hKx113 : ∀ (v1 : Int32) (M : kg_M), Kx113 v1 M → kg_Run G E qX8_pairUp 2 113 [(1, .int v1)] [] M R n 0 0 (kg_Z R n K)) : ∀ (f : Nat) (v1 : Int32) (v2 : Int32) (M : kg_M), wL_X8_pairUp_26  Kx113 K f v1 v2 M → kg_Run G E qX8_pairUp 2 26 [(0, .ref (kg_b G + 117)), (1, .int v1), (2, .int v2)] [] M R n 0 0 (kg_Z R n K) := by
  intro f
  induction f with
  | zero => intro v1 v2 M h0; exact h0.elim
  | succ f ih =>
    intro v1 v2 M h12
    rw [wL_X8_pairUp_26] at h12
    refine kr_iload_n 2 dX8_pairUp_26 rfl (k := ?_)
    refine kr_iconst (3 : Int32) dX8_pairUp_27 (k := ?_)
    refine kr_icmp_ge 113 dX8_pairUp_28 (fun c13 => ?_) (fun c13 => ?_)
    · have h14 := h12.1 c13
      refine kr_sub [1] [(1, .int v1)] rfl ?_
      exact hKx113 v1 M h14
    · have h15 := h12.2 c13
      refine kr_aload_n 0 dX8_pairUp_31 rfl (k := ?_)
      refine kr_getR 22 ckX8 lkF_X8_47 rfl (kg_o8a ho) (kg_o8n ho) (kg_o8r22 ho) dX8_pairUp_32 (k := ?_)
      refine kr_iload_n 2 dX8_pairUp_35 rfl (k := ?_)
      obtain ⟨h16, h17⟩ := h15
      refine kr_iald (kg_o8s22 ho) (kg_o8m22 ho) h16 dX8_pairUp_36 (k := ?_)
      refine kr_istore_n [(3, .int (M 129 v2.toNatClampNeg)), (0, .ref (kg_b G + 117)), (1, .int v1), (2, .int v2)] dX8_pairUp_37 (k := ?_)
      refine kr_iload_n 0 dX8_pairUp_38 rfl (k := ?_)
      refine kr_bipush (21 : Int32) dX8_pairUp_39 (k := ?_)
      refine kr_icmp_ge 107 dX8_pairUp_41 (fun c18 => ?_) (fun c18 => ?_)
      · have h19 := h17.1 c18
        refine kr_iinc (1 : Int32) 3 [(2, .int (v2 + (1 : Int32))), (3, .int (M 129 v2.toNatClampNeg)), (0, .ref (kg_b G + 117)), (1, .int v1)] dX8_pairUp_107 rfl (k := ?_)
        refine kr_goto 26 dX8_pairUp_110 ?_
        refine kr_sub [2, 3, 0] [(0, .ref (kg_b G + 117)), (1, .int v1), (2, .int (v2 + (1 : Int32)))] rfl ?_
        exact ih v1 (v2 + (1 : Int32)) M h19
      · have h20 := h17.2 c18
        refine kr_aload_n 1 dX8_pairUp_44 rfl (k := ?_)
        refine kr_getR 23 ckX8 lkF_X8_50 rfl (kg_o8a ho) (kg_o8n ho) (kg_o8r23 ho) dX8_pairUp_45 (k := ?_)
        refine kr_aload_n 1 dX8_pairUp_48 rfl (k := ?_)
        refine kr_getR 6 ckX8 lkF_X8_19 rfl (kg_o8a ho) (kg_o8n ho) (kg_o8r6 ho) dX8_pairUp_49 (k := ?_)
        refine kr_iload_n 0 dX8_pairUp_52 rfl (k := ?_)
        obtain ⟨h21, h22⟩ := h20
        refine kr_iald (kg_o8s6 ho) (kg_o8m6 ho) h21 dX8_pairUp_53 (k := ?_)
        refine kr_aload_n 1 dX8_pairUp_54 rfl (k := ?_)
        refine kr_getR 7 ckX8 lkF_X8_22 rfl (kg_o8a ho) (kg_o8n ho) (kg_o8r7 ho) dX8_pairUp_55 (k := ?_)
        refine kr_iload_n 0 dX8_pairUp_58 rfl (k := ?_)
        obtain ⟨h23, h24⟩ := h22
        refine kr_iald (kg_o8s7 ho) (kg_o8m7 ho) h23 dX8_pairUp_59 (k := ?_)
        obtain ⟨h25, h26⟩ := h24
        refine kn_iast (kg_o8s23 ho) (kg_o8m23 ho) h25 dX8_pairUp_60 (fun M27 e28 => ?_)
        have h29 := h26 M27 e28
        refine kr_aload_n 1 dX8_pairUp_61 rfl (k := ?_)
        refine kr_getR 23 ckX8 lkF_X8_50 rfl (kg_o8a ho) (kg_o8n ho) (kg_o8r23 ho) dX8_pairUp_62 (k := ?_)
        refine kr_aload_n 1 dX8_pairUp_65 rfl (k := ?_)
        refine kr_getR 7 ckX8 lkF_X8_22 rfl (kg_o8a ho) (kg_o8n ho) (kg_o8r7 ho) dX8_pairUp_66 (k := ?_)
        refine kr_iload_n 0 dX8_pairUp_69 rfl (k := ?_)
        obtain ⟨h30, h31⟩ := h29
        refine kr_iald (kg_o8s7 ho) (kg_o8m7 ho) h30 dX8_pairUp_70 (k := ?_)
        refine kr_aload_n 1 dX8_pairUp_71 rfl (k := ?_)
        refine kr_getR 6 ckX8 lkF_X8_19 rfl (kg_o8a ho) (kg_o8n ho) (kg_o8r6 ho) dX8_pairUp_72 (k := ?_)
        refine kr_iload_n 0 dX8_pairUp_75 rfl (k := ?_)
        obtain ⟨h32, h33⟩ := h31
        refine kr_iald (kg_o8s6 ho) (kg_o8m6 ho) h32 dX8_pairUp_76 (k := ?_)
        obtain ⟨h34, h35⟩ := h33
        refine kn_iast (kg_o8s23 ho) (kg_o8m23 ho) h34 dX8_pairUp_77 (fun M36 e37 => ?_)
        have h38 := h35 M36 e37
        refine kr_iload_n 2 dX8_pairUp_78 rfl (k := ?_)
        refine kr_if_eq 105 dX8_pairUp_79 (fun c39 => ?_) (fun c39 => ?_)
        · have h40 := h38.1 c39
          refine kr_iconst (0 : Int32) dX8_pairUp_105 (k := ?_)
          refine kr_istore_n [(1, .int (0 : Int32)), (3, .int (M 129 v2.toNatClampNeg)), (0, .ref (kg_b G + 117)), (2, .int v2)] dX8_pairUp_106 (k := ?_)
          refine kr_iinc (1 : Int32) 3 [(2, .int (v2 + (1 : Int32))), (1, .int (0 : Int32)), (3, .int (M 129 v2.toNatClampNeg)), (0, .ref (kg_b G + 117))] dX8_pairUp_107 rfl (k := ?_)
          refine kr_goto 26 dX8_pairUp_110 ?_
          refine kr_sub [3, 1, 0] [(0, .ref (kg_b G + 117)), (1, .int (0 : Int32)), (2, .int (v2 + (1 : Int32)))] rfl ?_
          exact ih (0 : Int32) (v2 + (1 : Int32)) M36 h40
        · have h41 := h38.2 c39
          refine kr_aload_n 1 dX8_pairUp_82 rfl (k := ?_)
          refine kr_aload_n 1 dX8_pairUp_83 rfl (k := ?_)
          refine kr_getR 6 ckX8 lkF_X8_19 rfl (kg_o8a ho) (kg_o8n ho) (kg_o8r6 ho) dX8_pairUp_84 (k := ?_)
          refine kr_iload_n 0 dX8_pairUp_87 rfl (k := ?_)
          obtain ⟨h42, h43⟩ := h41
          refine kr_iald (kg_o8s6 ho) (kg_o8m6 ho) h42 dX8_pairUp_88 (k := ?_)
          refine kr_aload_n 1 dX8_pairUp_89 rfl (k := ?_)
          refine kr_getR 7 ckX8 lkF_X8_22 rfl (kg_o8a ho) (kg_o8n ho) (kg_o8r7 ho) dX8_pairUp_90 (k := ?_)
          refine kr_iload_n 0 dX8_pairUp_93 rfl (k := ?_)
          obtain ⟨h44, h45⟩ := h43
          refine kr_iald (kg_o8s7 ho) (kg_o8m7 ho) h44 dX8_pairUp_94 (k := ?_)
          refine kn_callVz [.int (M36 121 (M 129 v2.toNatClampNeg).toNatClampNeg), .int (M36 122 (M 129 v2.toNatClampNeg).toNatClampNeg)] [] mvX8_would lkM_X8_166 (kg_o8a ho) rfl (kg_o8n ho) dX8_pairUp_95 (sp_X8_would ho h45) (fun r48 M46 _ h47 => ?_)
          refine kr_if_eq 105 dX8_pairUp_98 (fun c49 => ?_) (fun c49 => ?_)
          · have h50 := h47.1 c49
            refine kr_iconst (0 : Int32) dX8_pairUp_105 (k := ?_)
            refine kr_istore_n [(1, .int (0 : Int32)), (3, .int (M 129 v2.toNatClampNeg)), (0, .ref (kg_b G + 117)), (2, .int v2)] dX8_pairUp_106 (k := ?_)
            refine kr_iinc (1 : Int32) 3 [(2, .int (v2 + (1 : Int32))), (1, .int (0 : Int32)), (3, .int (M 129 v2.toNatClampNeg)), (0, .ref (kg_b G + 117))] dX8_pairUp_107 rfl (k := ?_)
            refine kr_goto 26 dX8_pairUp_110 ?_
            refine kr_sub [3, 1, 0] [(0, .ref (kg_b G + 117)), (1, .int (0 : Int32)), (2, .int (v2 + (1 : Int32)))] rfl ?_
            exact ih (0 : Int32) (v2 + (1 : Int32)) M46 h50
          · have h51 := h47.2 c49
            refine kr_iconst (1 : Int32) dX8_pairUp_101 (k := ?_)
            refine kr_goto 106 dX8_pairUp_102 ?_
            refine kr_istore_n [(1, .int (1 : Int32)), (3, .int (M 129 v2.toNatClampNeg)), (0, .ref (kg_b G + 117)), (2, .int v2)] dX8_pairUp_106 (k := ?_)
            refine kr_iinc (1 : Int32) 3 [(2, .int (v2 + (1 : Int32))), (1, .int (1 : Int32)), (3, .int (M 129 v2.toNatClampNeg)), (0, .ref (kg_b G + 117))] dX8_pairUp_107 rfl (k := ?_)
            refine kr_goto 26 dX8_pairUp_110 ?_
            refine kr_sub [3, 1, 0] [(0, .ref (kg_b G + 117)), (1, .int (1 : Int32)), (2, .int (v2 + (1 : Int32)))] rfl ?_
            exact ih (1 : Int32) (v2 + (1 : Int32)) M46 h51
set_option maxRecDepth 100000 in
set_option maxHeartbeats 4000000 in
theorem sp_X8_pairUp {G : kg_G} {E : State → Array Value → Prop} {R : kg_R} {n : Nat} {K : Int32 → kg_M → Prop} (ho : kg_O8 R n 117) {M : kg_M} (h1 : wp_X8_pairUp  M K) : kg_Run G E qX8_pairUp 2 0 [(0, .ref (kg_b G + 117))] [] M R n 0 0 (kg_Z R n K) := by
  unfold wp_X8_pairUp at h1
  refine kr_iconst (1 : Int32) dX8_pairUp_0 (k := ?_)
  refine kr_istore_n [(1, .int (1 : Int32)), (0, .ref (kg_b G + 117))] dX8_pairUp_1 (k := ?_)
  refine kr_iconst (0 : Int32) dX8_pairUp_2 (k := ?_)
  refine kr_istore_n [(2, .int (0 : Int32)), (1, .int (1 : Int32)), (0, .ref (kg_b G + 117))] dX8_pairUp_3 (k := ?_)
  refine kr_sub [2, 1, 0] [(0, .ref (kg_b G + 117)), (1, .int (1 : Int32)), (2, .int (0 : Int32))] rfl ?_
  obtain ⟨f55, h56⟩ := h1
  refine sL_X8_pairUp_4 ho ?_ f55 (1 : Int32) (0 : Int32) M h56
  · intro v1 M h11
    refine kr_iconst (0 : Int32) dX8_pairUp_24 (k := ?_)
    refine kr_istore_n [(2, .int (0 : Int32)), (0, .ref (kg_b G + 117)), (1, .int v1)] dX8_pairUp_25 (k := ?_)
    refine kr_sub [1, 2, 0] [(0, .ref (kg_b G + 117)), (1, .int v1), (2, .int (0 : Int32))] rfl ?_
    obtain ⟨f53, h54⟩ := h11
    refine sL_X8_pairUp_26 ho ?_ f53 v1 (0 : Int32) M h54
    · intro v1 M h52
      refine kr_iload_n 0 dX8_pairUp_113 rfl (k := ?_)
      exact kr_ireturn dX8_pairUp_114 ⟨rfl, rfl, _, rfl, h52.1, h52.2⟩
set_option maxRecDepth 100000 in
set_option maxHeartbeats 4000000 in
theorem sL_X8_findAtOnce_79 {G : kg_G} {E : State → Array Value → Prop} {R : kg_R} {n : Nat} {K : kg_M → Prop} (ho : kg_O8 R n 117) {Kx133 : Int32 → Int32 → Int32 → Int32 → kg_M → Prop} (hKx133 : ∀ (v1 : Int32) (v2 : Int32) (v4 : Int32) (v5 : Int32) (M : kg_M), Kx133 v1 v2 v4 v5 M → kg_Run G E qX8_findAtOnce 3 133 [(0, .ref (kg_b G + 117)), (1, .int v1), (2, .int v2), (4, .int v4), (5, .int v5)] [] M R n 0 0 (kg_V R n K)) : ∀ (f : Nat) (v1 : Int32) (v2 : Int32) (v4 : Int32) (v5 : Int32) (v6 : Int32) (M : kg_M), wL_X8_findAtOnce_79  Kx133 K f v1 v2 v4 v5 v6 M → kg_Run G E qX8_findAtOnce 3 79 [(0, .ref (kg_b G + 117)), (1, .int v1), (2, .int v2), (4, .int v4), (5, .int v5), (6, .int v6)] [] M R n 0 0 (kg_V R n K) := by
  intro f
  induction f with
  | zero => intro v1 v2 v4 v5 v6 M h0; exact h0.elim
  | succ f ih =>
    intro v1 v2 v4 v5 v6 M h40
    rw [wL_X8_findAtOnce_79] at h40
    refine kr_iload 5 dX8_findAtOnce_79 rfl (k := ?_)
    refine kr_aload_n 0 dX8_findAtOnce_81 rfl (k := ?_)
    refine kr_getI 2 ckX8 lkF_X8_94 rfl (kg_o8a ho) (kg_o8n ho) dX8_findAtOnce_82 (k := ?_)
    refine kr_icmp_ge 133 dX8_findAtOnce_85 (fun c41 => ?_) (fun c41 => ?_)
    · have h42 := h40.1 c41
      refine kr_sub [0, 1, 2, 3, 4] [(0, .ref (kg_b G + 117)), (1, .int v1), (2, .int v2), (4, .int v4), (5, .int v5)] rfl ?_
      exact hKx133 v1 v2 v4 v5 M h42
    · have h43 := h40.2 c41
      refine kr_iload 4 dX8_findAtOnce_88 rfl (k := ?_)
      refine kr_aload_n 0 dX8_findAtOnce_90 rfl (k := ?_)
      refine kr_getR 23 ckX8 lkF_X8_50 rfl (kg_o8a ho) (kg_o8n ho) (kg_o8r23 ho) dX8_findAtOnce_91 (k := ?_)
      refine kr_iload 5 dX8_findAtOnce_94 rfl (k := ?_)
      obtain ⟨h44, h45⟩ := h43
      refine kr_iald (kg_o8s23 ho) (kg_o8m23 ho) h44 dX8_findAtOnce_96 (k := ?_)
      refine kr_bipush (7 : Int32) dX8_findAtOnce_97 (k := ?_)
      refine kr_icmp_ge 123 dX8_findAtOnce_99 (fun c46 => ?_) (fun c46 => ?_)
      · have h47 := h45.1 c46
        refine kr_iconst (0 : Int32) dX8_findAtOnce_123 (k := ?_)
        refine kr_iadd dX8_findAtOnce_124 (k := ?_)
        refine kr_istore [(5, .int (v5 + (0 : Int32))), (0, .ref (kg_b G + 117)), (1, .int v1), (2, .int v2), (4, .int v4), (6, .int v6)] dX8_findAtOnce_125 (k := ?_)
        refine kr_iinc (1 : Int32) 5 [(6, .int (v6 + (1 : Int32))), (5, .int (v5 + (0 : Int32))), (0, .ref (kg_b G + 117)), (1, .int v1), (2, .int v2), (4, .int v4)] dX8_findAtOnce_127 rfl (k := ?_)
        refine kr_goto 79 dX8_findAtOnce_130 ?_
        refine kr_sub [2, 3, 4, 5, 1, 0] [(0, .ref (kg_b G + 117)), (1, .int v1), (2, .int v2), (4, .int v4), (5, .int (v5 + (0 : Int32))), (6, .int (v6 + (1 : Int32)))] rfl ?_
        exact ih v1 v2 v4 (v5 + (0 : Int32)) (v6 + (1 : Int32)) M h47
      · have h48 := h45.2 c46
        refine kr_aload_n 0 dX8_findAtOnce_102 rfl (k := ?_)
        refine kr_getR 3 ckX8 lkF_X8_13 rfl (kg_o8a ho) (kg_o8n ho) (kg_o8r3 ho) dX8_findAtOnce_103 (k := ?_)
        refine kr_bipush (7 : Int32) dX8_findAtOnce_106 (k := ?_)
        refine kr_iload 5 dX8_findAtOnce_108 rfl (k := ?_)
        refine kr_imul dX8_findAtOnce_110 (k := ?_)
        refine kr_aload_n 0 dX8_findAtOnce_111 rfl (k := ?_)
        refine kr_getR 23 ckX8 lkF_X8_50 rfl (kg_o8a ho) (kg_o8n ho) (kg_o8r23 ho) dX8_findAtOnce_112 (k := ?_)
        refine kr_iload 5 dX8_findAtOnce_115 rfl (k := ?_)
        obtain ⟨h49, h50⟩ := h48
        refine kr_iald (kg_o8s23 ho) (kg_o8m23 ho) h49 dX8_findAtOnce_117 (k := ?_)
        refine kr_iadd dX8_findAtOnce_118 (k := ?_)
        obtain ⟨h51, h52⟩ := h50
        refine kr_iald (kg_o8s3 ho) (kg_o8m3 ho) h51 dX8_findAtOnce_119 (k := ?_)
        refine kr_goto 124 dX8_findAtOnce_120 ?_
        refine kr_iadd dX8_findAtOnce_124 (k := ?_)
        refine kr_istore [(5, .int (v5 + (M 119 (((7 : Int32) * v6) + (M 130 v6.toNatClampNeg)).toNatClampNeg))), (0, .ref (kg_b G + 117)), (1, .int v1), (2, .int v2), (4, .int v4), (6, .int v6)] dX8_findAtOnce_125 (k := ?_)
        refine kr_iinc (1 : Int32) 5 [(6, .int (v6 + (1 : Int32))), (5, .int (v5 + (M 119 (((7 : Int32) * v6) + (M 130 v6.toNatClampNeg)).toNatClampNeg))), (0, .ref (kg_b G + 117)), (1, .int v1), (2, .int v2), (4, .int v4)] dX8_findAtOnce_127 rfl (k := ?_)
        refine kr_goto 79 dX8_findAtOnce_130 ?_
        refine kr_sub [2, 3, 4, 5, 1, 0] [(0, .ref (kg_b G + 117)), (1, .int v1), (2, .int v2), (4, .int v4), (5, .int (v5 + (M 119 (((7 : Int32) * v6) + (M 130 v6.toNatClampNeg)).toNatClampNeg))), (6, .int (v6 + (1 : Int32)))] rfl ?_
        exact ih v1 v2 v4 (v5 + (M 119 (((7 : Int32) * v6) + (M 130 v6.toNatClampNeg)).toNatClampNeg)) (v6 + (1 : Int32)) M h52
set_option maxRecDepth 100000 in
set_option maxHeartbeats 4000000 in
theorem sL_X8_findAtOnce_194 {G : kg_G} {E : State → Array Value → Prop} {R : kg_R} {n : Nat} {K : kg_M → Prop} (ho : kg_O8 R n 117) {Kx221 : Int32 → Int32 → kg_M → Prop} (hKx221 : ∀ (v1 : Int32) (v2 : Int32) (M : kg_M), Kx221 v1 v2 M → kg_Run G E qX8_findAtOnce 3 221 [(0, .ref (kg_b G + 117)), (1, .int v1), (2, .int v2)] [] M R n 0 0 (kg_V R n K)) : ∀ (f : Nat) (v1 : Int32) (v2 : Int32) (v7 : Int32) (M : kg_M), wL_X8_findAtOnce_194  Kx221 K f v1 v2 v7 M → kg_Run G E qX8_findAtOnce 3 194 [(0, .ref (kg_b G + 117)), (1, .int v1), (2, .int v2), (7, .int v7)] [] M R n 0 0 (kg_V R n K) := by
  intro f
  induction f with
  | zero => intro v1 v2 v7 M h0; exact h0.elim
  | succ f ih =>
    intro v1 v2 v7 M h68
    rw [wL_X8_findAtOnce_194] at h68
    refine kr_iload 3 dX8_findAtOnce_194 rfl (k := ?_)
    refine kr_bipush (7 : Int32) dX8_findAtOnce_196 (k := ?_)
    refine kr_icmp_ge 221 dX8_findAtOnce_198 (fun c69 => ?_) (fun c69 => ?_)
    · have h70 := h68.1 c69
      refine kr_sub [0, 1, 2] [(0, .ref (kg_b G + 117)), (1, .int v1), (2, .int v2)] rfl ?_
      exact hKx221 v1 v2 M h70
    · have h71 := h68.2 c69
      refine kr_aload_n 0 dX8_findAtOnce_201 rfl (k := ?_)
      refine kr_getR 24 ckX8 lkF_X8_53 rfl (kg_o8a ho) (kg_o8n ho) (kg_o8r24 ho) dX8_findAtOnce_202 (k := ?_)
      refine kr_iload 3 dX8_findAtOnce_205 rfl (k := ?_)
      refine kr_aload_n 0 dX8_findAtOnce_207 rfl (k := ?_)
      refine kr_getR 23 ckX8 lkF_X8_50 rfl (kg_o8a ho) (kg_o8n ho) (kg_o8r23 ho) dX8_findAtOnce_208 (k := ?_)
      refine kr_iload 3 dX8_findAtOnce_211 rfl (k := ?_)
      obtain ⟨h72, h73⟩ := h71
      refine kr_iald (kg_o8s23 ho) (kg_o8m23 ho) h72 dX8_findAtOnce_213 (k := ?_)
      obtain ⟨h74, h75⟩ := h73
      refine kn_iast (kg_o8s24 ho) (kg_o8m24 ho) h74 dX8_findAtOnce_214 (fun M76 e77 => ?_)
      have h78 := h75 M76 e77
      refine kr_iinc (1 : Int32) 3 [(7, .int (v7 + (1 : Int32))), (0, .ref (kg_b G + 117)), (1, .int v1), (2, .int v2)] dX8_findAtOnce_215 rfl (k := ?_)
      refine kr_goto 194 dX8_findAtOnce_218 ?_
      refine kr_sub [1, 2, 3, 0] [(0, .ref (kg_b G + 117)), (1, .int v1), (2, .int v2), (7, .int (v7 + (1 : Int32)))] rfl ?_
      exact ih v1 v2 (v7 + (1 : Int32)) M76 h78
set_option maxRecDepth 100000 in
set_option maxHeartbeats 4000000 in
theorem sJ_X8_findAtOnce_179 {G : kg_G} {E : State → Array Value → Prop} {R : kg_R} {n : Nat} {K : kg_M → Prop} (ho : kg_O8 R n 117) {Kb : Int32 → Int32 → kg_M → Prop} {Kx227 : kg_M → Prop} (hKb : ∀ (v1 : Int32) (v2 : Int32) (M : kg_M), Kb v1 v2 M → kg_Run G E qX8_findAtOnce 3 17 [(0, .ref (kg_b G + 117)), (1, .int v1), (2, .int v2)] [] M R n 0 0 (kg_V R n K)) (hKx227 : ∀ (M : kg_M), Kx227 M → kg_Run G E qX8_findAtOnce 3 227 [] [] M R n 0 0 (kg_V R n K)) (v1 : Int32) (v2 : Int32) (v4 : Int32) (v5 : Int32) (M : kg_M) (h61 : wJ_X8_findAtOnce_179  Kb Kx227 K v1 v2 v4 v5 M) : kg_Run G E qX8_findAtOnce 3 179 [(0, .ref (kg_b G + 117)), (1, .int v1), (2, .int v2), (4, .int v4), (5, .int v5)] [] M R n 0 0 (kg_V R n K) := by
  unfold wJ_X8_findAtOnce_179 at h61
  refine kr_aload_n 0 dX8_findAtOnce_179 rfl (k := ?_)
  refine kr_iload 3 dX8_findAtOnce_180 rfl (k := ?_)
  refine kn_putI 25 ckX8 lkF_X8_244 rfl rfl rfl rfl (kg_o8a ho) (kg_o8n ho) dX8_findAtOnce_182 (fun M62 e63 => ?_)
  have h64 := h61 M62 e63
  refine kr_aload_n 0 dX8_findAtOnce_185 rfl (k := ?_)
  refine kr_iload 4 dX8_findAtOnce_186 rfl (k := ?_)
  refine kn_putI 26 ckX8 lkF_X8_247 rfl rfl rfl rfl (kg_o8a ho) (kg_o8n ho) dX8_findAtOnce_188 (fun M65 e66 => ?_)
  have h67 := h64 M65 e66
  refine kr_iconst (0 : Int32) dX8_findAtOnce_191 (k := ?_)
  refine kr_istore [(7, .int (0 : Int32)), (0, .ref (kg_b G + 117)), (1, .int v1), (2, .int v2), (4, .int v4), (5, .int v5)] dX8_findAtOnce_192 (k := ?_)
  refine kr_sub [1, 2, 3, 0] [(0, .ref (kg_b G + 117)), (1, .int v1), (2, .int v2), (7, .int (0 : Int32))] rfl ?_
  obtain ⟨f80, h81⟩ := h67
  refine sL_X8_findAtOnce_194 ho ?_ f80 v1 v2 (0 : Int32) M65 h81
  · intro v1 v2 M h79
    refine kr_iinc (1 : Int32) 2 [(2, .int (v2 + (1 : Int32))), (0, .ref (kg_b G + 117)), (1, .int v1)] dX8_findAtOnce_221 rfl (k := ?_)
    refine kr_goto 17 dX8_findAtOnce_224 ?_
    refine kr_sub [1, 2, 0] [(0, .ref (kg_b G + 117)), (1, .int v1), (2, .int (v2 + (1 : Int32)))] rfl ?_
    exact hKb v1 (v2 + (1 : Int32)) M h79
set_option maxRecDepth 100000 in
set_option maxHeartbeats 4000000 in
theorem sJ_X8_findAtOnce_156 {G : kg_G} {E : State → Array Value → Prop} {R : kg_R} {n : Nat} {K : kg_M → Prop} (ho : kg_O8 R n 117) {Kb : Int32 → Int32 → kg_M → Prop} {Kx227 : kg_M → Prop} (hKb : ∀ (v1 : Int32) (v2 : Int32) (M : kg_M), Kb v1 v2 M → kg_Run G E qX8_findAtOnce 3 17 [(0, .ref (kg_b G + 117)), (1, .int v1), (2, .int v2)] [] M R n 0 0 (kg_V R n K)) (hKx227 : ∀ (M : kg_M), Kx227 M → kg_Run G E qX8_findAtOnce 3 227 [] [] M R n 0 0 (kg_V R n K)) (v1 : Int32) (v2 : Int32) (v4 : Int32) (v5 : Int32) (s0 : Int32) (M : kg_M) (h57 : wJ_X8_findAtOnce_156  Kb Kx227 K v1 v2 v4 v5 s0 M) : kg_Run G E qX8_findAtOnce 3 156 [(0, .ref (kg_b G + 117)), (1, .int v1), (2, .int v2), (4, .int v4), (5, .int v5)] [.int s0] M R n 0 0 (kg_V R n K) := by
  unfold wJ_X8_findAtOnce_156 at h57
  refine kr_istore [(6, .int s0), (0, .ref (kg_b G + 117)), (1, .int v1), (2, .int v2), (4, .int v4), (5, .int v5)] dX8_findAtOnce_156 (k := ?_)
  refine kr_iload 0 dX8_findAtOnce_158 rfl (k := ?_)
  refine kr_if_ne 179 dX8_findAtOnce_160 (fun c58 => ?_) (fun c58 => ?_)
  · have h59 := h57.1 c58
    refine kr_sub [1, 2, 3, 4, 5] [(0, .ref (kg_b G + 117)), (1, .int v1), (2, .int v2), (4, .int v4), (5, .int v5)] rfl ?_
    exact sJ_X8_findAtOnce_179 ho hKb hKx227 v1 v2 v4 v5 M h59
  · have h60 := h57.2 c58
    refine kr_iload 5 dX8_findAtOnce_163 rfl (k := ?_)
    refine kr_aload_n 1 dX8_findAtOnce_165 rfl (k := ?_)
    refine kr_getI 26 ckX8 lkF_X8_247 rfl (kg_o8a ho) (kg_o8n ho) dX8_findAtOnce_166 (k := ?_)
    refine kr_icmp_ne 221 dX8_findAtOnce_169 (fun c82 => ?_) (fun c82 => ?_)
    · have h83 := h60.1 c82
      refine kr_iinc (1 : Int32) 3 [(2, .int (v2 + (1 : Int32))), (6, .int s0), (0, .ref (kg_b G + 117)), (1, .int v1), (4, .int v4), (5, .int v5)] dX8_findAtOnce_221 rfl (k := ?_)
      refine kr_goto 17 dX8_findAtOnce_224 ?_
      refine kr_sub [2, 3, 0] [(0, .ref (kg_b G + 117)), (1, .int v1), (2, .int (v2 + (1 : Int32)))] rfl ?_
      exact hKb v1 (v2 + (1 : Int32)) M h83
    · have h84 := h60.2 c82
      refine kr_aload_n 1 dX8_findAtOnce_172 rfl (k := ?_)
      refine kn_callVz [] [] mvX8_isFirst lkM_X8_260 (kg_o8a ho) rfl (kg_o8n ho) dX8_findAtOnce_173 (sp_X8_isFirst ho h84) (fun r87 M85 _ h86 => ?_)
      refine kr_if_eq 221 dX8_findAtOnce_176 (fun c88 => ?_) (fun c88 => ?_)
      · have h89 := h86.1 c88
        refine kr_iinc (1 : Int32) 3 [(2, .int (v2 + (1 : Int32))), (6, .int s0), (0, .ref (kg_b G + 117)), (1, .int v1), (4, .int v4), (5, .int v5)] dX8_findAtOnce_221 rfl (k := ?_)
        refine kr_goto 17 dX8_findAtOnce_224 ?_
        refine kr_sub [2, 3, 0] [(0, .ref (kg_b G + 117)), (1, .int v1), (2, .int (v2 + (1 : Int32)))] rfl ?_
        exact hKb v1 (v2 + (1 : Int32)) M85 h89
      · have h90 := h86.2 c88
        refine kr_sub [1, 2, 3, 4, 5] [(0, .ref (kg_b G + 117)), (1, .int v1), (2, .int v2), (4, .int v4), (5, .int v5)] rfl ?_
        exact sJ_X8_findAtOnce_179 ho hKb hKx227 v1 v2 v4 v5 M85 h90
set_option maxRecDepth 100000 in
set_option maxHeartbeats 4000000 in
theorem sJ_X8_findAtOnce_44 {G : kg_G} {E : State → Array Value → Prop} {R : kg_R} {n : Nat} {K : kg_M → Prop} (ho : kg_O8 R n 117) {Kb : Int32 → Int32 → kg_M → Prop} {Kx227 : kg_M → Prop} (hKb : ∀ (v1 : Int32) (v2 : Int32) (M : kg_M), Kb v1 v2 M → kg_Run G E qX8_findAtOnce 3 17 [(0, .ref (kg_b G + 117)), (1, .int v1), (2, .int v2)] [] M R n 0 0 (kg_V R n K)) (hKx227 : ∀ (M : kg_M), Kx227 M → kg_Run G E qX8_findAtOnce 3 227 [] [] M R n 0 0 (kg_V R n K)) (v1 : Int32) (v2 : Int32) (s0 : Int32) (M : kg_M) (h24 : wJ_X8_findAtOnce_44  Kb Kx227 K v1 v2 s0 M) : kg_Run G E qX8_findAtOnce 3 44 [(0, .ref (kg_b G + 117)), (1, .int v1), (2, .int v2)] [.int s0] M R n 0 0 (kg_V R n K) := by
  unfold wJ_X8_findAtOnce_44 at h24
  refine kr_istore [(4, .int s0), (0, .ref (kg_b G + 117)), (1, .int v1), (2, .int v2)] dX8_findAtOnce_44 (k := ?_)
  refine kr_iload 0 dX8_findAtOnce_46 rfl (k := ?_)
  refine kr_if_lt 221 dX8_findAtOnce_48 (fun c25 => ?_) (fun c25 => ?_)
  · have h26 := h24.1 c25
    refine kr_iinc (1 : Int32) 3 [(2, .int (v2 + (1 : Int32))), (4, .int s0), (0, .ref (kg_b G + 117)), (1, .int v1)] dX8_findAtOnce_221 rfl (k := ?_)
    refine kr_goto 17 dX8_findAtOnce_224 ?_
    refine kr_sub [2, 3, 0] [(0, .ref (kg_b G + 117)), (1, .int v1), (2, .int (v2 + (1 : Int32)))] rfl ?_
    exact hKb v1 (v2 + (1 : Int32)) M h26
  · have h27 := h24.2 c25
    refine kr_iload 0 dX8_findAtOnce_51 rfl (k := ?_)
    refine kr_iload_n 2 dX8_findAtOnce_53 rfl (k := ?_)
    refine kr_icmp_gt 221 dX8_findAtOnce_54 (fun c28 => ?_) (fun c28 => ?_)
    · have h29 := h27.1 c28
      refine kr_iinc (1 : Int32) 3 [(2, .int (v2 + (1 : Int32))), (4, .int s0), (0, .ref (kg_b G + 117)), (1, .int v1)] dX8_findAtOnce_221 rfl (k := ?_)
      refine kr_goto 17 dX8_findAtOnce_224 ?_
      refine kr_sub [2, 3, 0] [(0, .ref (kg_b G + 117)), (1, .int v1), (2, .int (v2 + (1 : Int32)))] rfl ?_
      exact hKb v1 (v2 + (1 : Int32)) M h29
    · have h30 := h27.2 c28
      refine kr_iload 0 dX8_findAtOnce_57 rfl (k := ?_)
      refine kr_aload_n 1 dX8_findAtOnce_59 rfl (k := ?_)
      refine kr_getI 25 ckX8 lkF_X8_244 rfl (kg_o8a ho) (kg_o8n ho) dX8_findAtOnce_60 (k := ?_)
      refine kr_icmp_lt 221 dX8_findAtOnce_63 (fun c31 => ?_) (fun c31 => ?_)
      · have h32 := h30.1 c31
        refine kr_iinc (1 : Int32) 3 [(2, .int (v2 + (1 : Int32))), (4, .int s0), (0, .ref (kg_b G + 117)), (1, .int v1)] dX8_findAtOnce_221 rfl (k := ?_)
        refine kr_goto 17 dX8_findAtOnce_224 ?_
        refine kr_sub [2, 3, 0] [(0, .ref (kg_b G + 117)), (1, .int v1), (2, .int (v2 + (1 : Int32)))] rfl ?_
        exact hKb v1 (v2 + (1 : Int32)) M h32
      · have h33 := h30.2 c31
        refine kr_aload_n 1 dX8_findAtOnce_66 rfl (k := ?_)
        refine kn_callVz [] [] mvX8_pairUp lkM_X8_256 (kg_o8a ho) rfl (kg_o8n ho) dX8_findAtOnce_67 (sp_X8_pairUp ho h33) (fun r36 M34 _ h35 => ?_)
        refine kr_if_eq 221 dX8_findAtOnce_70 (fun c37 => ?_) (fun c37 => ?_)
        · have h38 := h35.1 c37
          refine kr_iinc (1 : Int32) 3 [(2, .int (v2 + (1 : Int32))), (4, .int s0), (0, .ref (kg_b G + 117)), (1, .int v1)] dX8_findAtOnce_221 rfl (k := ?_)
          refine kr_goto 17 dX8_findAtOnce_224 ?_
          refine kr_sub [2, 3, 0] [(0, .ref (kg_b G + 117)), (1, .int v1), (2, .int (v2 + (1 : Int32)))] rfl ?_
          exact hKb v1 (v2 + (1 : Int32)) M34 h38
        · have h39 := h35.2 c37
          refine kr_iconst (0 : Int32) dX8_findAtOnce_73 (k := ?_)
          refine kr_istore [(5, .int (0 : Int32)), (4, .int s0), (0, .ref (kg_b G + 117)), (1, .int v1), (2, .int v2)] dX8_findAtOnce_74 (k := ?_)
          refine kr_iconst (0 : Int32) dX8_findAtOnce_76 (k := ?_)
          refine kr_istore [(6, .int (0 : Int32)), (5, .int (0 : Int32)), (4, .int s0), (0, .ref (kg_b G + 117)), (1, .int v1), (2, .int v2)] dX8_findAtOnce_77 (k := ?_)
          refine kr_sub [3, 4, 5, 2, 1, 0] [(0, .ref (kg_b G + 117)), (1, .int v1), (2, .int v2), (4, .int s0), (5, .int (0 : Int32)), (6, .int (0 : Int32))] rfl ?_
          obtain ⟨f94, h95⟩ := h39
          refine sL_X8_findAtOnce_79 ho ?_ f94 v1 v2 s0 (0 : Int32) (0 : Int32) M34 h95
          · intro v1 v2 v4 v5 M h53
            refine kr_iload 3 dX8_findAtOnce_133 rfl (k := ?_)
            refine kr_aload_n 0 dX8_findAtOnce_135 rfl (k := ?_)
            refine kr_getI 25 ckX8 lkF_X8_244 rfl (kg_o8a ho) (kg_o8n ho) dX8_findAtOnce_136 (k := ?_)
            refine kr_icmp_gt 151 dX8_findAtOnce_139 (fun c54 => ?_) (fun c54 => ?_)
            · have h55 := h53.1 c54
              refine kr_iconst (1 : Int32) dX8_findAtOnce_151 (k := ?_)
              refine kr_goto 156 dX8_findAtOnce_152 ?_
              refine kr_sub [0, 1, 2, 3, 4] [(0, .ref (kg_b G + 117)), (1, .int v1), (2, .int v2), (4, .int v4), (5, .int v5)] rfl ?_
              exact sJ_X8_findAtOnce_156 ho hKb hKx227 v1 v2 v4 v5 (1 : Int32) M h55
            · have h56 := h53.2 c54
              refine kr_iload 4 dX8_findAtOnce_142 rfl (k := ?_)
              refine kr_aload_n 0 dX8_findAtOnce_144 rfl (k := ?_)
              refine kr_getI 26 ckX8 lkF_X8_247 rfl (kg_o8a ho) (kg_o8n ho) dX8_findAtOnce_145 (k := ?_)
              refine kr_icmp_le 155 dX8_findAtOnce_148 (fun c91 => ?_) (fun c91 => ?_)
              · have h92 := h56.1 c91
                refine kr_iconst (0 : Int32) dX8_findAtOnce_155 (k := ?_)
                refine kr_sub [0, 1, 2, 3, 4] [(0, .ref (kg_b G + 117)), (1, .int v1), (2, .int v2), (4, .int v4), (5, .int v5)] rfl ?_
                exact sJ_X8_findAtOnce_156 ho hKb hKx227 v1 v2 v4 v5 (0 : Int32) M h92
              · have h93 := h56.2 c91
                refine kr_iconst (1 : Int32) dX8_findAtOnce_151 (k := ?_)
                refine kr_goto 156 dX8_findAtOnce_152 ?_
                refine kr_sub [0, 1, 2, 3, 4] [(0, .ref (kg_b G + 117)), (1, .int v1), (2, .int v2), (4, .int v4), (5, .int v5)] rfl ?_
                exact sJ_X8_findAtOnce_156 ho hKb hKx227 v1 v2 v4 v5 (1 : Int32) M h93
set_option maxRecDepth 100000 in
set_option maxHeartbeats 4000000 in
theorem sL_X8_findAtOnce_17 {G : kg_G} {E : State → Array Value → Prop} {R : kg_R} {n : Nat} {K : kg_M → Prop} (ho : kg_O8 R n 117) {Kx227 : kg_M → Prop} (hKx227 : ∀ (M : kg_M), Kx227 M → kg_Run G E qX8_findAtOnce 3 227 [] [] M R n 0 0 (kg_V R n K)) : ∀ (f : Nat) (v1 : Int32) (v2 : Int32) (M : kg_M), wL_X8_findAtOnce_17  Kx227 K f v1 v2 M → kg_Run G E qX8_findAtOnce 3 17 [(0, .ref (kg_b G + 117)), (1, .int v1), (2, .int v2)] [] M R n 0 0 (kg_V R n K) := by
  intro f
  induction f with
  | zero => intro v1 v2 M h0; exact h0.elim
  | succ f ih =>
    intro v1 v2 M h11
    rw [wL_X8_findAtOnce_17] at h11
    refine kr_iload_n 2 dX8_findAtOnce_17 rfl (k := ?_)
    refine kr_sipush (10648 : Int32) dX8_findAtOnce_18 (k := ?_)
    refine kr_icmp_ge 227 dX8_findAtOnce_21 (fun c12 => ?_) (fun c12 => ?_)
    · have h13 := h11.1 c12
      refine kr_sub [] [] rfl ?_
      exact hKx227  M h13
    · have h14 := h11.2 c12
      refine kr_aload_n 0 dX8_findAtOnce_24 rfl (k := ?_)
      refine kr_iload_n 2 dX8_findAtOnce_25 rfl (k := ?_)
      refine kn_callVi [.int v2] [] mvX8_choose lkM_X8_253 (kg_o8a ho) rfl (kg_o8n ho) dX8_findAtOnce_26 (sp_X8_choose ho h14) (fun r17 M15 h16 => ?_)
      refine kr_istore_n [(3, .int r17), (0, .ref (kg_b G + 117)), (1, .int v1), (2, .int v2)] dX8_findAtOnce_29 (k := ?_)
      refine kr_iload_n 0 dX8_findAtOnce_30 rfl (k := ?_)
      refine kr_if_ge 38 dX8_findAtOnce_31 (fun c18 => ?_) (fun c18 => ?_)
      · have h19 := h16.1 c18
        refine kr_iload_n 0 dX8_findAtOnce_38 rfl (k := ?_)
        refine kn_callSi [.int r17] [] msX8_bits lkM_X8_238 dX8_findAtOnce_39 (sp_X8_bits  h19) (fun r23 M21 h22 => ?_)
        refine kr_iconst (2 : Int32) dX8_findAtOnce_42 (k := ?_)
        refine kr_idiv dX8_findAtOnce_43 (by decide) (k := ?_)
        refine kr_sub [1, 2, 3] [(0, .ref (kg_b G + 117)), (1, .int v1), (2, .int v2)] rfl ?_
        exact sJ_X8_findAtOnce_44 ho ih hKx227 v1 v2 (r23 / (2 : Int32)) M21 h22
      · have h20 := h16.2 c18
        refine kr_iconst (-1 : Int32) dX8_findAtOnce_34 (k := ?_)
        refine kr_goto 44 dX8_findAtOnce_35 ?_
        refine kr_sub [1, 2, 3] [(0, .ref (kg_b G + 117)), (1, .int v1), (2, .int v2)] rfl ?_
        exact sJ_X8_findAtOnce_44 ho ih hKx227 v1 v2 (-1 : Int32) M15 h20
set_option maxRecDepth 100000 in
set_option maxHeartbeats 4000000 in
theorem sp_X8_findAtOnce {G : kg_G} {E : State → Array Value → Prop} {R : kg_R} {n : Nat} {K : kg_M → Prop} (ho : kg_O8 R n 117) {M : kg_M} (h1 : wp_X8_findAtOnce  M K) : kg_Run G E qX8_findAtOnce 3 0 [(0, .ref (kg_b G + 117))] [] M R n 0 0 (kg_V R n K) := by
  unfold wp_X8_findAtOnce at h1
  refine kr_aload_n 0 dX8_findAtOnce_0 rfl (k := ?_)
  refine kr_iconst (-1 : Int32) dX8_findAtOnce_1 (k := ?_)
  refine kn_putI 25 ckX8 lkF_X8_244 rfl rfl rfl rfl (kg_o8a ho) (kg_o8n ho) dX8_findAtOnce_2 (fun M2 e3 => ?_)
  have h4 := h1 M2 e3
  refine kr_aload_n 0 dX8_findAtOnce_5 rfl (k := ?_)
  refine kr_iconst (0 : Int32) dX8_findAtOnce_6 (k := ?_)
  refine kn_putI 26 ckX8 lkF_X8_247 rfl rfl rfl rfl (kg_o8a ho) (kg_o8n ho) dX8_findAtOnce_7 (fun M5 e6 => ?_)
  have h7 := h4 M5 e6
  refine kr_aload_n 0 dX8_findAtOnce_10 rfl (k := ?_)
  refine kn_callVi [] [] mvX8_openGates lkM_X8_250 (kg_o8a ho) rfl (kg_o8n ho) dX8_findAtOnce_11 (sp_X8_openGates ho h7) (fun r10 M8 h9 => ?_)
  refine kr_istore_n [(1, .int r10), (0, .ref (kg_b G + 117))] dX8_findAtOnce_14 (k := ?_)
  refine kr_iconst (0 : Int32) dX8_findAtOnce_15 (k := ?_)
  refine kr_istore_n [(2, .int (0 : Int32)), (1, .int r10), (0, .ref (kg_b G + 117))] dX8_findAtOnce_16 (k := ?_)
  refine kr_sub [2, 1, 0] [(0, .ref (kg_b G + 117)), (1, .int r10), (2, .int (0 : Int32))] rfl ?_
  obtain ⟨f97, h98⟩ := h9
  refine sL_X8_findAtOnce_17 ho ?_ f97 r10 (0 : Int32) M8 h98
  · intro  M h96
    exact kr_return dX8_findAtOnce_227 ⟨rfl, rfl, rfl, h96⟩
set_option maxRecDepth 100000 in
set_option maxHeartbeats 4000000 in
theorem sp_X8_in {G : kg_G} {E : State → Array Value → Prop} {R : kg_R} {n : Nat} {K : Int32 → kg_M → Prop}  {v0 : Int64} {v2 : Int64} {v4 : Int64} {M : kg_M} (h1 : wp_X8_in v0 v2 v4 M K) : kg_Run G E qX8_in 0 0 [(0, .long v0), (2, .long v2), (4, .long v4)] [] M R n 0 0 (kg_Z R n K) := by
  unfold wp_X8_in at h1
  refine kr_lload_n 0 dX8_in_0 rfl (k := ?_)
  refine kr_lload_n 1 dX8_in_1 rfl (k := ?_)
  refine kr_lcmp dX8_in_2 (k := ?_)
  refine kr_if_lt 17 dX8_in_3 (fun c2 => ?_) (fun c2 => ?_)
  · have h3 := h1.1 c2
    refine kr_iconst (0 : Int32) dX8_in_17 (k := ?_)
    exact kr_ireturn dX8_in_18 ⟨rfl, rfl, _, rfl, (by decide), h3⟩
  · have h4 := h1.2 c2
    refine kr_lload_n 0 dX8_in_6 rfl (k := ?_)
    refine kr_lload 2 dX8_in_7 rfl (k := ?_)
    refine kr_lcmp dX8_in_9 (k := ?_)
    refine kr_if_gt 17 dX8_in_10 (fun c5 => ?_) (fun c5 => ?_)
    · have h6 := h4.1 c5
      refine kr_iconst (0 : Int32) dX8_in_17 (k := ?_)
      exact kr_ireturn dX8_in_18 ⟨rfl, rfl, _, rfl, (by decide), h6⟩
    · have h7 := h4.2 c5
      refine kr_iconst (1 : Int32) dX8_in_13 (k := ?_)
      refine kr_goto 18 dX8_in_14 ?_
      exact kr_ireturn dX8_in_18 ⟨rfl, rfl, _, rfl, (by decide), h7⟩
set_option maxRecDepth 100000 in
set_option maxHeartbeats 4000000 in
theorem sp_X8_isPerson {G : kg_G} {E : State → Array Value → Prop} {R : kg_R} {n : Nat} {K : Int32 → kg_M → Prop} (ho : kg_O8 R n 117) {v1 : Int32} {M : kg_M} (h1 : wp_X8_isPerson v1 M K) : kg_Run G E qX8_isPerson 1 0 [(0, .ref (kg_b G + 117)), (1, .int v1)] [] M R n 0 0 (kg_Z R n K) := by
  unfold wp_X8_isPerson at h1
  refine kr_iload_n 1 dX8_isPerson_0 rfl (k := ?_)
  refine kr_i2l dX8_isPerson_1 (k := ?_)
  refine kr_lconst (0 : Int64) dX8_isPerson_2 (k := ?_)
  refine kr_aload_n 0 dX8_isPerson_3 rfl (k := ?_)
  refine kr_getI 2 ckX8 lkF_X8_94 rfl (kg_o8a ho) (kg_o8n ho) dX8_isPerson_4 (k := ?_)
  refine kr_iconst (1 : Int32) dX8_isPerson_7 (k := ?_)
  refine kr_isub dX8_isPerson_8 (k := ?_)
  refine kr_i2l dX8_isPerson_9 (k := ?_)
  refine kn_callSz [.long v1.toInt64, .long (0 : Int64), .long (((M 117 2) - (1 : Int32)).toInt64)] [] msX8_in lkM_X8_90 dX8_isPerson_10 (sp_X8_in  h1) (fun r4 M2 _ h3 => ?_)
  exact kr_ireturn dX8_isPerson_13 ⟨rfl, rfl, _, rfl, h3.1, h3.2⟩
set_option maxRecDepth 100000 in
set_option maxHeartbeats 4000000 in
theorem sJ_X8_atOnce_22 {G : kg_G} {E : State → Array Value → Prop} {R : kg_R} {n : Nat} {K : Int32 → kg_M → Prop} (ho : kg_O8 R n 117) (v1 : Int32) (M : kg_M) (h5 : wJ_X8_atOnce_22  K v1 M) : kg_Run G E qX8_atOnce 4 22 [(0, .ref (kg_b G + 117)), (1, .int v1)] [] M R n 0 0 (kg_I R n K) := by
  unfold wJ_X8_atOnce_22 at h5
  refine kr_aload_n 0 dX8_atOnce_22 rfl (k := ?_)
  refine kn_callVv [] [] mvX8_findAtOnce lkM_X8_263 (kg_o8a ho) rfl (kg_o8n ho) dX8_atOnce_23 (sp_X8_findAtOnce ho h5) (fun M6 h7 => ?_)
  refine kr_iload_n 1 dX8_atOnce_26 rfl (k := ?_)
  refine kr_iconst (-1 : Int32) dX8_atOnce_27 (k := ?_)
  refine kr_icmp_ne 38 dX8_atOnce_28 (fun c9 => ?_) (fun c9 => ?_)
  · have h10 := h7.1 c9
    refine kr_iload_n 1 dX8_atOnce_38 rfl (k := ?_)
    refine kr_bipush (-2 : Int32) dX8_atOnce_39 (k := ?_)
    refine kr_icmp_ne 51 dX8_atOnce_41 (fun c12 => ?_) (fun c12 => ?_)
    · have h13 := h10.1 c12
      refine kr_aload_n 0 dX8_atOnce_51 rfl (k := ?_)
      refine kr_getR 24 ckX8 lkF_X8_53 rfl (kg_o8a ho) (kg_o8n ho) (kg_o8r24 ho) dX8_atOnce_52 (k := ?_)
      refine kr_iload_n 1 dX8_atOnce_55 rfl (k := ?_)
      obtain ⟨h15, h16⟩ := h13
      refine kr_iald (kg_o8s24 ho) (kg_o8m24 ho) h15 dX8_atOnce_56 (k := ?_)
      refine kr_bipush (7 : Int32) dX8_atOnce_57 (k := ?_)
      refine kr_icmp_ne 66 dX8_atOnce_59 (fun c17 => ?_) (fun c17 => ?_)
      · have h18 := h16.1 c17
        refine kr_aload_n 0 dX8_atOnce_66 rfl (k := ?_)
        refine kr_getR 24 ckX8 lkF_X8_53 rfl (kg_o8a ho) (kg_o8n ho) (kg_o8r24 ho) dX8_atOnce_67 (k := ?_)
        refine kr_iload_n 1 dX8_atOnce_70 rfl (k := ?_)
        obtain ⟨h20, h21⟩ := h18
        refine kr_iald (kg_o8s24 ho) (kg_o8m24 ho) h20 dX8_atOnce_71 (k := ?_)
        exact kr_ireturn dX8_atOnce_72 ⟨rfl, rfl, _, rfl, h21⟩
      · have h19 := h16.2 c17
        refine kr_iconst (-1 : Int32) dX8_atOnce_62 (k := ?_)
        refine kr_goto 72 dX8_atOnce_63 ?_
        exact kr_ireturn dX8_atOnce_72 ⟨rfl, rfl, _, rfl, h19⟩
    · have h14 := h10.2 c12
      refine kr_aload_n 0 dX8_atOnce_44 rfl (k := ?_)
      refine kr_getI 26 ckX8 lkF_X8_247 rfl (kg_o8a ho) (kg_o8n ho) dX8_atOnce_45 (k := ?_)
      refine kr_goto 72 dX8_atOnce_48 ?_
      exact kr_ireturn dX8_atOnce_72 ⟨rfl, rfl, _, rfl, h14⟩
  · have h11 := h7.2 c9
    refine kr_aload_n 0 dX8_atOnce_31 rfl (k := ?_)
    refine kr_getI 25 ckX8 lkF_X8_244 rfl (kg_o8a ho) (kg_o8n ho) dX8_atOnce_32 (k := ?_)
    refine kr_goto 72 dX8_atOnce_35 ?_
    exact kr_ireturn dX8_atOnce_72 ⟨rfl, rfl, _, rfl, h11⟩
set_option maxRecDepth 100000 in
set_option maxHeartbeats 4000000 in
theorem sp_X8_atOnce {G : kg_G} {E : State → Array Value → Prop} {R : kg_R} {n : Nat} {K : Int32 → kg_M → Prop} (ho : kg_O8 R n 117) {v1 : Int32} {M : kg_M} (h1 : wp_X8_atOnce v1 M K) : kg_Run G E qX8_atOnce 4 0 [(0, .ref (kg_b G + 117)), (1, .int v1)] [] M R n 0 0 (kg_I R n K) := by
  unfold wp_X8_atOnce at h1
  refine kr_iload_n 1 dX8_atOnce_0 rfl (k := ?_)
  refine kr_iconst (-1 : Int32) dX8_atOnce_1 (k := ?_)
  refine kr_icmp_eq 22 dX8_atOnce_2 (fun c2 => ?_) (fun c2 => ?_)
  · have h3 := h1.1 c2
    refine kr_sub [0, 1] [(0, .ref (kg_b G + 117)), (1, .int v1)] rfl ?_
    exact sJ_X8_atOnce_22 ho v1 M h3
  · have h4 := h1.2 c2
    refine kr_iload_n 1 dX8_atOnce_5 rfl (k := ?_)
    refine kr_bipush (-2 : Int32) dX8_atOnce_6 (k := ?_)
    refine kr_icmp_eq 22 dX8_atOnce_8 (fun c22 => ?_) (fun c22 => ?_)
    · have h23 := h4.1 c22
      refine kr_sub [0, 1] [(0, .ref (kg_b G + 117)), (1, .int v1)] rfl ?_
      exact sJ_X8_atOnce_22 ho v1 M h23
    · have h24 := h4.2 c22
      refine kr_aload_n 0 dX8_atOnce_11 rfl (k := ?_)
      refine kr_iload_n 1 dX8_atOnce_12 rfl (k := ?_)
      refine kn_callVz [.int v1] [] mvX8_isPerson lkM_X8_187 (kg_o8a ho) rfl (kg_o8n ho) dX8_atOnce_13 (sp_X8_isPerson ho h24) (fun r27 M25 _ h26 => ?_)
      refine kr_if_ne 22 dX8_atOnce_16 (fun c28 => ?_) (fun c28 => ?_)
      · have h29 := h26.1 c28
        refine kr_sub [0, 1] [(0, .ref (kg_b G + 117)), (1, .int v1)] rfl ?_
        exact sJ_X8_atOnce_22 ho v1 M25 h29
      · have h30 := h26.2 c28
        refine kr_ldc dX8_atOnce_19 lkC_X8_183 (k := ?_)
        exact kr_ireturn dX8_atOnce_21 ⟨rfl, rfl, _, rfl, h30⟩
set_option maxRecDepth 100000 in
set_option maxHeartbeats 4000000 in
theorem sp_X8_both {G : kg_G} {E : State → Array Value → Prop} {R : kg_R} {n : Nat} {K : Int32 → kg_M → Prop} (ho : kg_O8 R n 117) {v1 : Int32} {v2 : Int32} {M : kg_M} (h1 : wp_X8_both v1 v2 M K) : kg_Run G E qX8_both 0 0 [(0, .ref (kg_b G + 117)), (1, .int v1), (2, .int v2)] [] M R n 0 0 (kg_I R n K) := by
  unfold wp_X8_both at h1
  refine kr_aload_n 0 dX8_both_0 rfl (k := ?_)
  refine kr_getR 3 ckX8 lkF_X8_13 rfl (kg_o8a ho) (kg_o8n ho) (kg_o8r3 ho) dX8_both_1 (k := ?_)
  refine kr_bipush (7 : Int32) dX8_both_4 (k := ?_)
  refine kr_iload_n 1 dX8_both_6 rfl (k := ?_)
  refine kr_imul dX8_both_7 (k := ?_)
  refine kr_iload_n 2 dX8_both_8 rfl (k := ?_)
  refine kr_iadd dX8_both_9 (k := ?_)
  obtain ⟨h2, h3⟩ := h1
  refine kr_iald (kg_o8s3 ho) (kg_o8m3 ho) h2 dX8_both_10 (k := ?_)
  refine kr_aload_n 0 dX8_both_11 rfl (k := ?_)
  refine kr_getR 3 ckX8 lkF_X8_13 rfl (kg_o8a ho) (kg_o8n ho) (kg_o8r3 ho) dX8_both_12 (k := ?_)
  refine kr_bipush (7 : Int32) dX8_both_15 (k := ?_)
  refine kr_iload_n 2 dX8_both_17 rfl (k := ?_)
  refine kr_imul dX8_both_18 (k := ?_)
  refine kr_iload_n 1 dX8_both_19 rfl (k := ?_)
  refine kr_iadd dX8_both_20 (k := ?_)
  obtain ⟨h4, h5⟩ := h3
  refine kr_iald (kg_o8s3 ho) (kg_o8m3 ho) h4 dX8_both_21 (k := ?_)
  refine kr_iadd dX8_both_22 (k := ?_)
  exact kr_ireturn dX8_both_23 ⟨rfl, rfl, _, rfl, h5⟩
set_option maxRecDepth 100000 in
set_option maxHeartbeats 4000000 in
theorem sp_X8_canCome {G : kg_G} {E : State → Array Value → Prop} {R : kg_R} {n : Nat} {K : Int32 → kg_M → Prop} (ho : kg_O8 R n 117) {v1 : Int32} {v2 : Int32} {M : kg_M} (h1 : wp_X8_canCome v1 v2 M K) : kg_Run G E qX8_canCome 0 0 [(0, .ref (kg_b G + 117)), (1, .int v1), (2, .int v2)] [] M R n 0 0 (kg_Z R n K) := by
  unfold wp_X8_canCome at h1
  refine kr_aload_n 0 dX8_canCome_0 rfl (k := ?_)
  refine kr_getR 4 ckX8 lkF_X8_16 rfl (kg_o8a ho) (kg_o8n ho) (kg_o8r4 ho) dX8_canCome_1 (k := ?_)
  refine kr_bipush (26 : Int32) dX8_canCome_4 (k := ?_)
  refine kr_iload_n 2 dX8_canCome_6 rfl (k := ?_)
  refine kr_iadd dX8_canCome_7 (k := ?_)
  obtain ⟨h2, h3⟩ := h1
  refine kr_iald (kg_o8s4 ho) (kg_o8m4 ho) h2 dX8_canCome_8 (k := ?_)
  refine kr_if_ne 29 dX8_canCome_9 (fun c4 => ?_) (fun c4 => ?_)
  · have h5 := h3.1 c4
    refine kr_iconst (0 : Int32) dX8_canCome_29 (k := ?_)
    exact kr_ireturn dX8_canCome_30 ⟨rfl, rfl, _, rfl, (by decide), h5⟩
  · have h6 := h3.2 c4
    refine kr_aload_n 0 dX8_canCome_12 rfl (k := ?_)
    refine kr_getR 4 ckX8 lkF_X8_16 rfl (kg_o8a ho) (kg_o8n ho) (kg_o8r4 ho) dX8_canCome_13 (k := ?_)
    refine kr_bipush (7 : Int32) dX8_canCome_16 (k := ?_)
    refine kr_iload_n 1 dX8_canCome_18 rfl (k := ?_)
    refine kr_iadd dX8_canCome_19 (k := ?_)
    obtain ⟨h7, h8⟩ := h6
    refine kr_iald (kg_o8s4 ho) (kg_o8m4 ho) h7 dX8_canCome_20 (k := ?_)
    refine kr_iload_n 2 dX8_canCome_21 rfl (k := ?_)
    refine kr_icmp_eq 29 dX8_canCome_22 (fun c9 => ?_) (fun c9 => ?_)
    · have h10 := h8.1 c9
      refine kr_iconst (0 : Int32) dX8_canCome_29 (k := ?_)
      exact kr_ireturn dX8_canCome_30 ⟨rfl, rfl, _, rfl, (by decide), h10⟩
    · have h11 := h8.2 c9
      refine kr_iconst (1 : Int32) dX8_canCome_25 (k := ?_)
      refine kr_goto 30 dX8_canCome_26 ?_
      exact kr_ireturn dX8_canCome_30 ⟨rfl, rfl, _, rfl, (by decide), h11⟩
set_option maxRecDepth 100000 in
set_option maxHeartbeats 4000000 in
theorem sp_X8_draw {G : kg_G} {E : State → Array Value → Prop} {R : kg_R} {n : Nat} {K : Int32 → kg_M → Prop} (ho : kg_O8 R n 117) {v1 : Int32} {M : kg_M} (h1 : wp_X8_draw v1 M K) : kg_Run G E qX8_draw 0 0 [(0, .ref (kg_b G + 117)), (1, .int v1)] [] M R n 0 0 (kg_I R n K) := by
  unfold wp_X8_draw at h1
  refine kr_aload_n 0 dX8_draw_0 rfl (k := ?_)
  refine kr_aload_n 0 dX8_draw_1 rfl (k := ?_)
  refine kr_getI 5 ckX8 lkF_X8_222 rfl (kg_o8a ho) (kg_o8n ho) dX8_draw_2 (k := ?_)
  refine kr_i2l dX8_draw_5 (k := ?_)
  refine kr_ldc2 dX8_draw_6 lkD_X8_225 (k := ?_)
  refine kr_lmul dX8_draw_9 (k := ?_)
  refine kr_ldc2 dX8_draw_10 lkD_X8_227 (k := ?_)
  refine kr_ladd dX8_draw_13 (k := ?_)
  refine kr_ldc2 dX8_draw_14 lkD_X8_229 (k := ?_)
  refine kr_lrem dX8_draw_17 (by decide) (k := ?_)
  refine kr_l2i dX8_draw_18 (k := ?_)
  refine kn_putI 5 ckX8 lkF_X8_222 rfl rfl rfl rfl (kg_o8a ho) (kg_o8n ho) dX8_draw_19 (fun M2 e3 => ?_)
  have h4 := h1 M2 e3
  refine kr_aload_n 0 dX8_draw_22 rfl (k := ?_)
  refine kr_getI 5 ckX8 lkF_X8_222 rfl (kg_o8a ho) (kg_o8n ho) dX8_draw_23 (k := ?_)
  refine kr_ldc dX8_draw_26 lkC_X8_231 (k := ?_)
  refine kr_idiv dX8_draw_28 (by decide) (k := ?_)
  refine kr_iload_n 1 dX8_draw_29 rfl (k := ?_)
  obtain ⟨h5, h6⟩ := h4
  refine kr_irem dX8_draw_30 h5 (k := ?_)
  exact kr_ireturn dX8_draw_31 ⟨rfl, rfl, _, rfl, h6⟩
set_option maxRecDepth 100000 in
set_option maxHeartbeats 4000000 in
theorem sJ_X8_chance_48 {G : kg_G} {E : State → Array Value → Prop} {R : kg_R} {n : Nat} {K : kg_M → Prop} (ho : kg_O8 R n 117) (s1 : Int32) (s2 : Int32) (M : kg_M) (h16 : wJ_X8_chance_48  K s1 s2 M) : kg_Run G E qX8_chance 1 48 [] [.int s2, .int s1, .ref (kg_b G + 120)] M R n 0 0 (kg_V R n K) := by
  unfold wJ_X8_chance_48 at h16
  obtain ⟨h17, h18⟩ := h16
  refine kn_iast (kg_o8s4 ho) (kg_o8m4 ho) h17 dX8_chance_48 (fun M19 e20 => ?_)
  have h21 := h18 M19 e20
  exact kr_return dX8_chance_49 ⟨rfl, rfl, rfl, h21⟩
set_option maxRecDepth 100000 in
set_option maxHeartbeats 4000000 in
theorem sp_X8_chance {G : kg_G} {E : State → Array Value → Prop} {R : kg_R} {n : Nat} {K : kg_M → Prop} (ho : kg_O8 R n 117) {M : kg_M} (h1 : wp_X8_chance  M K) : kg_Run G E qX8_chance 1 0 [(0, .ref (kg_b G + 117))] [] M R n 0 0 (kg_V R n K) := by
  unfold wp_X8_chance at h1
  refine kr_aload_n 0 dX8_chance_0 rfl (k := ?_)
  refine kr_aload_n 0 dX8_chance_1 rfl (k := ?_)
  refine kr_getI 2 ckX8 lkF_X8_94 rfl (kg_o8a ho) (kg_o8n ho) dX8_chance_2 (k := ?_)
  refine kn_callVi [.int (M 117 2)] [] mvX8_draw lkM_X8_232 (kg_o8a ho) rfl (kg_o8n ho) dX8_chance_5 (sp_X8_draw ho h1) (fun r4 M2 h3 => ?_)
  refine kr_istore_n [(1, .int r4), (0, .ref (kg_b G + 117))] dX8_chance_8 (k := ?_)
  refine kr_aload_n 1 dX8_chance_9 rfl (k := ?_)
  refine kr_aload_n 1 dX8_chance_10 rfl (k := ?_)
  refine kr_getI 0 ckX8 lkF_X8_87 rfl (kg_o8a ho) (kg_o8n ho) dX8_chance_11 (k := ?_)
  refine kn_callVi [.int (M2 117 0)] [] mvX8_draw lkM_X8_232 (kg_o8a ho) rfl (kg_o8n ho) dX8_chance_14 (sp_X8_draw ho h3) (fun r7 M5 h6 => ?_)
  refine kr_istore_n [(2, .int r7), (1, .int r4), (0, .ref (kg_b G + 117))] dX8_chance_17 (k := ?_)
  refine kr_aload_n 2 dX8_chance_18 rfl (k := ?_)
  refine kr_getR 4 ckX8 lkF_X8_16 rfl (kg_o8a ho) (kg_o8n ho) (kg_o8r4 ho) dX8_chance_19 (k := ?_)
  refine kr_bipush (7 : Int32) dX8_chance_22 (k := ?_)
  refine kr_iload_n 1 dX8_chance_24 rfl (k := ?_)
  refine kr_iadd dX8_chance_25 (k := ?_)
  refine kr_aload_n 2 dX8_chance_26 rfl (k := ?_)
  refine kr_iload_n 1 dX8_chance_27 rfl (k := ?_)
  refine kr_iload_n 0 dX8_chance_28 rfl (k := ?_)
  refine kn_callVz [.int r4, .int r7] [.int ((7 : Int32) + r4), .ref (kg_b G + 120)] mvX8_canCome lkM_X8_219 (kg_o8a ho) rfl (kg_o8n ho) dX8_chance_29 (sp_X8_canCome ho h6) (fun r10 M8 _ h9 => ?_)
  refine kr_if_eq 39 dX8_chance_32 (fun c11 => ?_) (fun c11 => ?_)
  · have h12 := h9.1 c11
    refine kr_aload_n 2 dX8_chance_39 rfl (k := ?_)
    refine kr_getR 4 ckX8 lkF_X8_16 rfl (kg_o8a ho) (kg_o8n ho) (kg_o8r4 ho) dX8_chance_40 (k := ?_)
    refine kr_bipush (7 : Int32) dX8_chance_43 (k := ?_)
    refine kr_iload_n 1 dX8_chance_45 rfl (k := ?_)
    refine kr_iadd dX8_chance_46 (k := ?_)
    obtain ⟨h14, h15⟩ := h12
    refine kr_iald (kg_o8s4 ho) (kg_o8m4 ho) h14 dX8_chance_47 (k := ?_)
    refine kr_sub [] [] rfl ?_
    exact sJ_X8_chance_48 ho ((7 : Int32) + r4) (M8 120 ((7 : Int32) + r4).toNatClampNeg) M8 h15
  · have h13 := h9.2 c11
    refine kr_iload_n 0 dX8_chance_35 rfl (k := ?_)
    refine kr_goto 48 dX8_chance_36 ?_
    refine kr_sub [] [] rfl ?_
    exact sJ_X8_chance_48 ho ((7 : Int32) + r4) r7 M8 h13
set_option maxRecDepth 100000 in
set_option maxHeartbeats 4000000 in
theorem sp_X8_isGate {G : kg_G} {E : State → Array Value → Prop} {R : kg_R} {n : Nat} {K : Int32 → kg_M → Prop} (ho : kg_O8 R n 117) {v1 : Int32} {M : kg_M} (h1 : wp_X8_isGate v1 M K) : kg_Run G E qX8_isGate 1 0 [(0, .ref (kg_b G + 117)), (1, .int v1)] [] M R n 0 0 (kg_Z R n K) := by
  unfold wp_X8_isGate at h1
  refine kr_iload_n 1 dX8_isGate_0 rfl (k := ?_)
  refine kr_i2l dX8_isGate_1 (k := ?_)
  refine kr_lconst (0 : Int64) dX8_isGate_2 (k := ?_)
  refine kr_aload_n 0 dX8_isGate_3 rfl (k := ?_)
  refine kr_getI 0 ckX8 lkF_X8_87 rfl (kg_o8a ho) (kg_o8n ho) dX8_isGate_4 (k := ?_)
  refine kr_iconst (1 : Int32) dX8_isGate_7 (k := ?_)
  refine kr_isub dX8_isGate_8 (k := ?_)
  refine kr_i2l dX8_isGate_9 (k := ?_)
  refine kn_callSz [.long v1.toInt64, .long (0 : Int64), .long (((M 117 0) - (1 : Int32)).toInt64)] [] msX8_in lkM_X8_90 dX8_isGate_10 (sp_X8_in  h1) (fun r4 M2 _ h3 => ?_)
  exact kr_ireturn dX8_isGate_13 ⟨rfl, rfl, _, rfl, h3.1, h3.2⟩
