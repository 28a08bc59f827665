set_option maxRecDepth 100000 in
set_option maxHeartbeats 4000000 in
theorem sL_X8_goBack_27 {G : kg_G} {E : State → Array Value → Prop} {R : kg_R} {n : Nat} {K : Int32 → kg_M → Prop} (ho : kg_O8 R n 117) {Kx56 : Int32 → kg_M → Prop} (hKx56 : ∀ (v1 : Int32) (M : kg_M), Kx56 v1 M → kg_Run G E qX8_goBack 1 56 [(0, .ref (kg_b G + 117)), (1, .int v1)] [] M R n 0 0 (kg_I R n K)) : ∀ (f : Nat) (v1 : Int32) (v2 : Int32) (M : kg_M), wL_X8_goBack_27  Kx56 K f v1 v2 M → kg_Run G E qX8_goBack 1 27 [(0, .ref (kg_b G + 117)), (1, .int v1), (2, .int v2)] [] M R n 0 0 (kg_I R n K) := by
  intro f
  induction f with
  | zero => intro v1 v2 M h0; exact h0.elim
  | succ f ih =>
    intro v1 v2 M h13
    rw [wL_X8_goBack_27] at h13
    refine kr_iload_n 2 dX8_goBack_27 rfl (k := ?_)
    refine kr_bipush (55 : Int32) dX8_goBack_28 (k := ?_)
    refine kr_icmp_ge 56 dX8_goBack_30 (fun c14 => ?_) (fun c14 => ?_)
    · have h15 := h13.1 c14
      refine kr_sub [0, 1] [(0, .ref (kg_b G + 117)), (1, .int v1)] rfl ?_
      exact hKx56 v1 M h15
    · have h16 := h13.2 c14
      refine kr_aload_n 0 dX8_goBack_33 rfl (k := ?_)
      refine kr_getR 4 ckX8 lkF_X8_16 rfl (kg_o8a ho) (kg_o8n ho) (kg_o8r4 ho) dX8_goBack_34 (k := ?_)
      refine kr_iload_n 2 dX8_goBack_37 rfl (k := ?_)
      refine kr_aload_n 0 dX8_goBack_38 rfl (k := ?_)
      refine kr_getR 38 ckX8 lkF_X8_81 rfl (kg_o8a ho) (kg_o8n ho) (kg_o8r38 ho) dX8_goBack_39 (k := ?_)
      refine kr_bipush (56 : Int32) dX8_goBack_42 (k := ?_)
      refine kr_iload_n 1 dX8_goBack_44 rfl (k := ?_)
      refine kr_imul dX8_goBack_45 (k := ?_)
      refine kr_iload_n 2 dX8_goBack_46 rfl (k := ?_)
      refine kr_iadd dX8_goBack_47 (k := ?_)
      obtain ⟨h17, h18⟩ := h16
      refine kr_iald (kg_o8s38 ho) (kg_o8m38 ho) h17 dX8_goBack_48 (k := ?_)
      obtain ⟨h19, h20⟩ := h18
      refine kn_iast (kg_o8s4 ho) (kg_o8m4 ho) h19 dX8_goBack_49 (fun M21 e22 => ?_)
      have h23 := h20 M21 e22
      refine kr_iinc (1 : Int32) 2 [(2, .int (v2 + (1 : Int32))), (0, .ref (kg_b G + 117)), (1, .int v1)] dX8_goBack_50 rfl (k := ?_)
      refine kr_goto 27 dX8_goBack_53 ?_
      refine kr_sub [1, 2, 0] [(0, .ref (kg_b G + 117)), (1, .int v1), (2, .int (v2 + (1 : Int32)))] rfl ?_
      exact ih v1 (v2 + (1 : Int32)) M21 h23
set_option maxRecDepth 100000 in
set_option maxHeartbeats 4000000 in
theorem sp_X8_goBack {G : kg_G} {E : State → Array Value → Prop} {R : kg_R} {n : Nat} {K : Int32 → kg_M → Prop} (ho : kg_O8 R n 117) {v1 : Int32} {M : kg_M} (h1 : wp_X8_goBack v1 M K) : kg_Run G E qX8_goBack 1 0 [(0, .ref (kg_b G + 117)), (1, .int v1)] [] M R n 0 0 (kg_I R n K) := by
  unfold wp_X8_goBack at h1
  refine kr_iload_n 1 dX8_goBack_0 rfl (k := ?_)
  refine kr_i2l dX8_goBack_1 (k := ?_)
  refine kr_lconst (0 : Int64) dX8_goBack_2 (k := ?_)
  refine kr_lconst (1 : Int64) dX8_goBack_3 (k := ?_)
  refine kn_callSz [.long v1.toInt64, .long (0 : Int64), .long (1 : Int64)] [] msX8_in lkM_X8_90 dX8_goBack_4 (sp_X8_in  h1) (fun r4 M2 _ h3 => ?_)
  refine kr_if_ne 13 dX8_goBack_7 (fun c5 => ?_) (fun c5 => ?_)
  · have h6 := h3.1 c5
    refine kr_aload_n 0 dX8_goBack_13 rfl (k := ?_)
    refine kr_getR 39 ckX8 lkF_X8_84 rfl (kg_o8a ho) (kg_o8n ho) (kg_o8r39 ho) dX8_goBack_14 (k := ?_)
    refine kr_iload_n 1 dX8_goBack_17 rfl (k := ?_)
    obtain ⟨h8, h9⟩ := h6
    refine kr_zald (kg_o8s39 ho) (kg_o8m39 ho) h8 dX8_goBack_18 (k := ?_)
    refine kr_if_ne 25 dX8_goBack_19 (fun c10 => ?_) (fun c10 => ?_)
    · have h11 := h9.1 c10
      refine kr_iconst (0 : Int32) dX8_goBack_25 (k := ?_)
      refine kr_istore_n [(2, .int (0 : Int32)), (0, .ref (kg_b G + 117)), (1, .int v1)] dX8_goBack_26 (k := ?_)
      refine kr_sub [1, 2, 0] [(0, .ref (kg_b G + 117)), (1, .int v1), (2, .int (0 : Int32))] rfl ?_
      obtain ⟨f33, h34⟩ := h11
      refine sL_X8_goBack_27 ho ?_ f33 v1 (0 : Int32) M2 h34
      · intro v1 M h24
        refine kr_aload_n 0 dX8_goBack_56 rfl (k := ?_)
        refine kr_aload_n 0 dX8_goBack_57 rfl (k := ?_)
        refine kr_getR 38 ckX8 lkF_X8_81 rfl (kg_o8a ho) (kg_o8n ho) (kg_o8r38 ho) dX8_goBack_58 (k := ?_)
        refine kr_bipush (56 : Int32) dX8_goBack_61 (k := ?_)
        refine kr_iload_n 1 dX8_goBack_63 rfl (k := ?_)
        refine kr_imul dX8_goBack_64 (k := ?_)
        refine kr_bipush (55 : Int32) dX8_goBack_65 (k := ?_)
        refine kr_iadd dX8_goBack_67 (k := ?_)
        obtain ⟨h25, h26⟩ := h24
        refine kr_iald (kg_o8s38 ho) (kg_o8m38 ho) h25 dX8_goBack_68 (k := ?_)
        refine kn_putI 5 ckX8 lkF_X8_222 rfl rfl rfl rfl (kg_o8a ho) (kg_o8n ho) dX8_goBack_69 (fun M27 e28 => ?_)
        have h29 := h26 M27 e28
        refine kr_aload_n 0 dX8_goBack_72 rfl (k := ?_)
        refine kr_iconst (0 : Int32) dX8_goBack_73 (k := ?_)
        refine kn_putI 20 ckX8 lkF_X8_159 rfl rfl rfl rfl (kg_o8a ho) (kg_o8n ho) dX8_goBack_74 (fun M30 e31 => ?_)
        have h32 := h29 M30 e31
        refine kr_iconst (1 : Int32) dX8_goBack_77 (k := ?_)
        exact kr_ireturn dX8_goBack_78 ⟨rfl, rfl, _, rfl, h32⟩
    · have h12 := h9.2 c10
      refine kr_ldc dX8_goBack_22 lkC_X8_209 (k := ?_)
      exact kr_ireturn dX8_goBack_24 ⟨rfl, rfl, _, rfl, h12⟩
  · have h7 := h3.2 c5
    refine kr_ldc dX8_goBack_10 lkC_X8_183 (k := ?_)
    exact kr_ireturn dX8_goBack_12 ⟨rfl, rfl, _, rfl, h7⟩
set_option maxRecDepth 100000 in
set_option maxHeartbeats 4000000 in
theorem sp_X8_goOff {G : kg_G} {E : State → Array Value → Prop} {R : kg_R} {n : Nat} {K : Int32 → kg_M → Prop} (ho : kg_O8 R n 117) {v1 : Int32} {M : kg_M} (h1 : wp_X8_goOff v1 M K) : kg_Run G E qX8_goOff 2 0 [(0, .ref (kg_b G + 117)), (1, .int v1)] [] M R n 0 0 (kg_I R n K) := by
  unfold wp_X8_goOff at h1
  refine kr_aload_n 0 dX8_goOff_0 rfl (k := ?_)
  refine kr_iload_n 1 dX8_goOff_1 rfl (k := ?_)
  refine kn_callVz [.int v1] [] mvX8_isPerson lkM_X8_187 (kg_o8a ho) rfl (kg_o8n ho) dX8_goOff_2 (sp_X8_isPerson ho h1) (fun r4 M2 _ h3 => ?_)
  refine kr_if_ne 11 dX8_goOff_5 (fun c5 => ?_) (fun c5 => ?_)
  · have h6 := h3.1 c5
    refine kr_aload_n 0 dX8_goOff_11 rfl (k := ?_)
    refine kr_getR 4 ckX8 lkF_X8_16 rfl (kg_o8a ho) (kg_o8n ho) (kg_o8r4 ho) dX8_goOff_12 (k := ?_)
    refine kr_bipush (7 : Int32) dX8_goOff_15 (k := ?_)
    refine kr_iload_n 1 dX8_goOff_17 rfl (k := ?_)
    refine kr_iadd dX8_goOff_18 (k := ?_)
    obtain ⟨h8, h9⟩ := h6
    refine kr_iald (kg_o8s4 ho) (kg_o8m4 ho) h8 dX8_goOff_19 (k := ?_)
    refine kr_if_ge 26 dX8_goOff_20 (fun c10 => ?_) (fun c10 => ?_)
    · have h11 := h9.1 c10
      refine kr_aload_n 0 dX8_goOff_26 rfl (k := ?_)
      refine kn_callVv [] [] mvX8_remember lkM_X8_213 (kg_o8a ho) rfl (kg_o8n ho) dX8_goOff_27 (sp_X8_remember ho h11) (fun M13 h14 => ?_)
      refine kr_aload_n 0 dX8_goOff_30 rfl (k := ?_)
      refine kr_getR 4 ckX8 lkF_X8_16 rfl (kg_o8a ho) (kg_o8n ho) (kg_o8r4 ho) dX8_goOff_31 (k := ?_)
      refine kr_bipush (7 : Int32) dX8_goOff_34 (k := ?_)
      refine kr_iload_n 1 dX8_goOff_36 rfl (k := ?_)
      refine kr_iadd dX8_goOff_37 (k := ?_)
      obtain ⟨h16, h17⟩ := h14
      refine kr_iald (kg_o8s4 ho) (kg_o8m4 ho) h16 dX8_goOff_38 (k := ?_)
      refine kr_istore_n [(2, .int (M13 120 ((7 : Int32) + v1).toNatClampNeg)), (0, .ref (kg_b G + 117)), (1, .int v1)] dX8_goOff_39 (k := ?_)
      refine kr_aload_n 1 dX8_goOff_40 rfl (k := ?_)
      refine kr_getR 4 ckX8 lkF_X8_16 rfl (kg_o8a ho) (kg_o8n ho) (kg_o8r4 ho) dX8_goOff_41 (k := ?_)
      refine kr_bipush (7 : Int32) dX8_goOff_44 (k := ?_)
      refine kr_iload_n 2 dX8_goOff_46 rfl (k := ?_)
      refine kr_iadd dX8_goOff_47 (k := ?_)
      refine kr_iconst (-1 : Int32) dX8_goOff_48 (k := ?_)
      obtain ⟨h18, h19⟩ := h17
      refine kn_iast (kg_o8s4 ho) (kg_o8m4 ho) h18 dX8_goOff_49 (fun M20 e21 => ?_)
      have h22 := h19 M20 e21
      refine kr_iload_n 0 dX8_goOff_50 rfl (k := ?_)
      exact kr_ireturn dX8_goOff_51 ⟨rfl, rfl, _, rfl, h22⟩
    · have h12 := h9.2 c10
      refine kr_ldc dX8_goOff_23 lkC_X8_209 (k := ?_)
      exact kr_ireturn dX8_goOff_25 ⟨rfl, rfl, _, rfl, h12⟩
  · have h7 := h3.2 c5
    refine kr_ldc dX8_goOff_8 lkC_X8_183 (k := ?_)
    exact kr_ireturn dX8_goOff_10 ⟨rfl, rfl, _, rfl, h7⟩
set_option maxRecDepth 100000 in
set_option maxHeartbeats 4000000 in
theorem sp_X8_hole {G : kg_G} {E : State → Array Value → Prop} {R : kg_R} {n : Nat} {K : Int32 → kg_M → Prop} (ho : kg_O8 R n 117) {v1 : Int32} {M : kg_M} (h1 : wp_X8_hole v1 M K) : kg_Run G E qX8_hole 2 0 [(0, .ref (kg_b G + 117)), (1, .int v1)] [] M R n 0 0 (kg_I R n K) := by
  unfold wp_X8_hole at h1
  refine kr_aload_n 0 dX8_hole_0 rfl (k := ?_)
  refine kr_iload_n 1 dX8_hole_1 rfl (k := ?_)
  refine kn_callVz [.int v1] [] mvX8_isPerson lkM_X8_187 (kg_o8a ho) rfl (kg_o8n ho) dX8_hole_2 (sp_X8_isPerson ho h1) (fun r4 M2 _ h3 => ?_)
  refine kr_if_ne 11 dX8_hole_5 (fun c5 => ?_) (fun c5 => ?_)
  · have h6 := h3.1 c5
    refine kr_aload_n 0 dX8_hole_11 rfl (k := ?_)
    refine kr_getR 4 ckX8 lkF_X8_16 rfl (kg_o8a ho) (kg_o8n ho) (kg_o8r4 ho) dX8_hole_12 (k := ?_)
    refine kr_bipush (7 : Int32) dX8_hole_15 (k := ?_)
    refine kr_iload_n 1 dX8_hole_17 rfl (k := ?_)
    refine kr_iadd dX8_hole_18 (k := ?_)
    obtain ⟨h8, h9⟩ := h6
    refine kr_iald (kg_o8s4 ho) (kg_o8m4 ho) h8 dX8_hole_19 (k := ?_)
    refine kr_if_lt 26 dX8_hole_20 (fun c10 => ?_) (fun c10 => ?_)
    · have h11 := h9.1 c10
      refine kr_aload_n 0 dX8_hole_26 rfl (k := ?_)
      refine kn_callVv [] [] mvX8_remember lkM_X8_213 (kg_o8a ho) rfl (kg_o8n ho) dX8_hole_27 (sp_X8_remember ho h11) (fun M13 h14 => ?_)
      refine kr_aload_n 0 dX8_hole_30 rfl (k := ?_)
      refine kr_getR 4 ckX8 lkF_X8_16 rfl (kg_o8a ho) (kg_o8n ho) (kg_o8r4 ho) dX8_hole_31 (k := ?_)
      refine kr_iload_n 1 dX8_hole_34 rfl (k := ?_)
      refine kr_iconst (1 : Int32) dX8_hole_35 (k := ?_)
      refine kr_aload_n 0 dX8_hole_36 rfl (k := ?_)
      refine kr_getR 4 ckX8 lkF_X8_16 rfl (kg_o8a ho) (kg_o8n ho) (kg_o8r4 ho) dX8_hole_37 (k := ?_)
      refine kr_iload_n 1 dX8_hole_40 rfl (k := ?_)
      obtain ⟨h16, h17⟩ := h14
      refine kr_iald (kg_o8s4 ho) (kg_o8m4 ho) h16 dX8_hole_41 (k := ?_)
      refine kr_isub dX8_hole_42 (k := ?_)
      obtain ⟨h18, h19⟩ := h17
      refine kn_iast (kg_o8s4 ho) (kg_o8m4 ho) h18 dX8_hole_43 (fun M20 e21 => ?_)
      have h22 := h19 M20 e21
      refine kr_aload_n 0 dX8_hole_44 rfl (k := ?_)
      refine kr_getR 4 ckX8 lkF_X8_16 rfl (kg_o8a ho) (kg_o8n ho) (kg_o8r4 ho) dX8_hole_45 (k := ?_)
      refine kr_bipush (33 : Int32) dX8_hole_48 (k := ?_)
      refine kr_dup2 dX8_hole_50 (k := ?_)
      obtain ⟨h23, h24⟩ := h22
      refine kr_iald (kg_o8s4 ho) (kg_o8m4 ho) h23 dX8_hole_51 (k := ?_)
      refine kr_iconst (1 : Int32) dX8_hole_52 (k := ?_)
      refine kr_iadd dX8_hole_53 (k := ?_)
      obtain ⟨h25, h26⟩ := h24
      refine kn_iast (kg_o8s4 ho) (kg_o8m4 ho) h25 dX8_hole_54 (fun M27 e28 => ?_)
      have h29 := h26 M27 e28
      refine kr_aload_n 0 dX8_hole_55 rfl (k := ?_)
      refine kr_getR 4 ckX8 lkF_X8_16 rfl (kg_o8a ho) (kg_o8n ho) (kg_o8r4 ho) dX8_hole_56 (k := ?_)
      refine kr_iload_n 1 dX8_hole_59 rfl (k := ?_)
      obtain ⟨h30, h31⟩ := h29
      refine kr_iald (kg_o8s4 ho) (kg_o8m4 ho) h30 dX8_hole_60 (k := ?_)
      exact kr_ireturn dX8_hole_61 ⟨rfl, rfl, _, rfl, h31⟩
    · have h12 := h9.2 c10
      refine kr_ldc dX8_hole_23 lkC_X8_209 (k := ?_)
      exact kr_ireturn dX8_hole_25 ⟨rfl, rfl, _, rfl, h12⟩
  · have h7 := h3.2 c5
    refine kr_ldc dX8_hole_8 lkC_X8_183 (k := ?_)
    exact kr_ireturn dX8_hole_10 ⟨rfl, rfl, _, rfl, h7⟩
set_option maxRecDepth 100000 in
set_option maxHeartbeats 4000000 in
theorem sL_X8_hour_18 {G : kg_G} {E : State → Array Value → Prop} {R : kg_R} {n : Nat} {K : Int32 → kg_M → Prop} (ho : kg_O8 R n 117) {Kx33 : kg_M → Prop} (hKx33 : ∀ (M : kg_M), Kx33 M → kg_Run G E qX8_hour 4 33 [(0, .ref (kg_b G + 117))] [] M R n 0 0 (kg_I R n K)) : ∀ (f : Nat) (v1 : Int32) (v3 : Int32) (M : kg_M), wL_X8_hour_18  Kx33 K f v1 v3 M → kg_Run G E qX8_hour 4 18 [(0, .ref (kg_b G + 117)), (1, .int v1), (3, .int v3)] [] M R n 0 0 (kg_I R n K) := by
  intro f
  induction f with
  | zero => intro v1 v3 M h0; exact h0.elim
  | succ f ih =>
    intro v1 v3 M h11
    rw [wL_X8_hour_18] at h11
    refine kr_iload_n 2 dX8_hour_18 rfl (k := ?_)
    refine kr_iload_n 1 dX8_hour_19 rfl (k := ?_)
    refine kr_icmp_ge 33 dX8_hour_20 (fun c12 => ?_) (fun c12 => ?_)
    · have h13 := h11.1 c12
      refine kr_sub [0] [(0, .ref (kg_b G + 117))] rfl ?_
      exact hKx33  M h13
    · have h14 := h11.2 c12
      refine kr_aload_n 0 dX8_hour_23 rfl (k := ?_)
      refine kn_callVv [] [] mvX8_pass lkM_X8_216 (kg_o8a ho) rfl (kg_o8n ho) dX8_hour_24 (sp_X8_pass ho h14) (fun M15 h16 => ?_)
      refine kr_iinc (1 : Int32) 2 [(3, .int (v3 + (1 : Int32))), (0, .ref (kg_b G + 117)), (1, .int v1)] dX8_hour_27 rfl (k := ?_)
      refine kr_goto 18 dX8_hour_30 ?_
      refine kr_sub [1, 2, 0] [(0, .ref (kg_b G + 117)), (1, .int v1), (3, .int (v3 + (1 : Int32)))] rfl ?_
      exact ih v1 (v3 + (1 : Int32)) M15 h16
set_option maxRecDepth 100000 in
set_option maxHeartbeats 4000000 in
theorem sp_X8_hour {G : kg_G} {E : State → Array Value → Prop} {R : kg_R} {n : Nat} {K : Int32 → kg_M → Prop} (ho : kg_O8 R n 117) {v1 : Int32} {M : kg_M} (h1 : wp_X8_hour v1 M K) : kg_Run G E qX8_hour 4 0 [(0, .ref (kg_b G + 117)), (1, .int v1)] [] M R n 0 0 (kg_I R n K) := by
  unfold wp_X8_hour at h1
  refine kr_aload_n 0 dX8_hour_0 rfl (k := ?_)
  refine kr_iload_n 1 dX8_hour_1 rfl (k := ?_)
  refine kn_callVi [.int v1] [] mvX8_hoursRefused lkM_X8_210 (kg_o8a ho) rfl (kg_o8n ho) dX8_hour_2 (sp_X8_hoursRefused ho h1) (fun r4 M2 h3 => ?_)
  refine kr_istore_n [(2, .int r4), (0, .ref (kg_b G + 117)), (1, .int v1)] dX8_hour_5 (k := ?_)
  refine kr_iload_n 0 dX8_hour_6 rfl (k := ?_)
  refine kr_if_eq 12 dX8_hour_7 (fun c5 => ?_) (fun c5 => ?_)
  · have h6 := h3.1 c5
    refine kr_aload_n 1 dX8_hour_12 rfl (k := ?_)
    refine kn_callVv [] [] mvX8_remember lkM_X8_213 (kg_o8a ho) rfl (kg_o8n ho) dX8_hour_13 (sp_X8_remember ho h6) (fun M8 h9 => ?_)
    refine kr_iconst (0 : Int32) dX8_hour_16 (k := ?_)
    refine kr_istore_n [(3, .int (0 : Int32)), (2, .int r4), (0, .ref (kg_b G + 117)), (1, .int v1)] dX8_hour_17 (k := ?_)
    refine kr_sub [2, 3, 0] [(0, .ref (kg_b G + 117)), (1, .int v1), (3, .int (0 : Int32))] rfl ?_
    obtain ⟨f21, h22⟩ := h9
    refine sL_X8_hour_18 ho ?_ f21 v1 (0 : Int32) M8 h22
    · intro  M h18
      refine kr_aload_n 0 dX8_hour_33 rfl (k := ?_)
      refine kr_getR 4 ckX8 lkF_X8_16 rfl (kg_o8a ho) (kg_o8n ho) (kg_o8r4 ho) dX8_hour_34 (k := ?_)
      refine kr_bipush (31 : Int32) dX8_hour_37 (k := ?_)
      obtain ⟨h19, h20⟩ := h18
      refine kr_iald (kg_o8s4 ho) (kg_o8m4 ho) h19 dX8_hour_39 (k := ?_)
      exact kr_ireturn dX8_hour_40 ⟨rfl, rfl, _, rfl, h20⟩
  · have h7 := h3.2 c5
    refine kr_iload_n 0 dX8_hour_10 rfl (k := ?_)
    exact kr_ireturn dX8_hour_11 ⟨rfl, rfl, _, rfl, h7⟩
set_option maxRecDepth 100000 in
set_option maxHeartbeats 4000000 in
theorem sp_X8_ill {G : kg_G} {E : State → Array Value → Prop} {R : kg_R} {n : Nat} {K : Int32 → kg_M → Prop} (ho : kg_O8 R n 117) {v1 : Int32} {v2 : Int32} {M : kg_M} (h1 : wp_X8_ill v1 v2 M K) : kg_Run G E qX8_ill 2 0 [(0, .ref (kg_b G + 117)), (1, .int v1), (2, .int v2)] [] M R n 0 0 (kg_I R n K) := by
  unfold wp_X8_ill at h1
  refine kr_aload_n 0 dX8_ill_0 rfl (k := ?_)
  refine kr_iload_n 1 dX8_ill_1 rfl (k := ?_)
  refine kn_callVz [.int v1] [] mvX8_isPerson lkM_X8_187 (kg_o8a ho) rfl (kg_o8n ho) dX8_ill_2 (sp_X8_isPerson ho h1) (fun r4 M2 _ h3 => ?_)
  refine kr_if_ne 11 dX8_ill_5 (fun c5 => ?_) (fun c5 => ?_)
  · have h6 := h3.1 c5
    refine kr_aload_n 0 dX8_ill_11 rfl (k := ?_)
    refine kr_getI 32 ckX8 lkF_X8_153 rfl (kg_o8a ho) (kg_o8n ho) dX8_ill_12 (k := ?_)
    refine kr_bipush (6 : Int32) dX8_ill_15 (k := ?_)
    refine kr_icmp_ne 23 dX8_ill_17 (fun c8 => ?_) (fun c8 => ?_)
    · have h9 := h6.1 c8
      refine kr_aload_n 0 dX8_ill_23 rfl (k := ?_)
      refine kr_getR 33 ckX8 lkF_X8_69 rfl (kg_o8a ho) (kg_o8n ho) (kg_o8r33 ho) dX8_ill_24 (k := ?_)
      refine kr_aload_n 0 dX8_ill_27 rfl (k := ?_)
      refine kr_getI 32 ckX8 lkF_X8_153 rfl (kg_o8a ho) (kg_o8n ho) dX8_ill_28 (k := ?_)
      refine kr_iload_n 1 dX8_ill_31 rfl (k := ?_)
      obtain ⟨h11, h12⟩ := h9
      refine kn_iast (kg_o8s33 ho) (kg_o8m33 ho) h11 dX8_ill_32 (fun M13 e14 => ?_)
      have h15 := h12 M13 e14
      refine kr_aload_n 0 dX8_ill_33 rfl (k := ?_)
      refine kr_getR 34 ckX8 lkF_X8_72 rfl (kg_o8a ho) (kg_o8n ho) (kg_o8r34 ho) dX8_ill_34 (k := ?_)
      refine kr_aload_n 0 dX8_ill_37 rfl (k := ?_)
      refine kr_getI 32 ckX8 lkF_X8_153 rfl (kg_o8a ho) (kg_o8n ho) dX8_ill_38 (k := ?_)
      refine kr_iload_n 2 dX8_ill_41 rfl (k := ?_)
      obtain ⟨h16, h17, h18⟩ := h15
      refine kn_zast (kg_o8s34 ho) (kg_o8m34 ho) h16 (kg_nz h17) dX8_ill_42 (fun M19 e20 => ?_)
      have h21 := h18 M19 e20
      refine kr_aload_n 0 dX8_ill_43 rfl (k := ?_)
      refine kr_dup dX8_ill_44 (k := ?_)
      refine kr_getI 32 ckX8 lkF_X8_153 rfl (kg_o8a ho) (kg_o8n ho) dX8_ill_45 (k := ?_)
      refine kr_iconst (1 : Int32) dX8_ill_48 (k := ?_)
      refine kr_iadd dX8_ill_49 (k := ?_)
      refine kn_putI 32 ckX8 lkF_X8_153 rfl rfl rfl rfl (kg_o8a ho) (kg_o8n ho) dX8_ill_50 (fun M22 e23 => ?_)
      have h24 := h21 M22 e23
      refine kr_aload_n 0 dX8_ill_53 rfl (k := ?_)
      refine kr_getI 32 ckX8 lkF_X8_153 rfl (kg_o8a ho) (kg_o8n ho) dX8_ill_54 (k := ?_)
      exact kr_ireturn dX8_ill_57 ⟨rfl, rfl, _, rfl, h24⟩
    · have h10 := h6.2 c8
      refine kr_ldc dX8_ill_20 lkC_X8_103 (k := ?_)
      exact kr_ireturn dX8_ill_22 ⟨rfl, rfl, _, rfl, h10⟩
  · have h7 := h3.2 c5
    refine kr_ldc dX8_ill_8 lkC_X8_183 (k := ?_)
    exact kr_ireturn dX8_ill_10 ⟨rfl, rfl, _, rfl, h7⟩
set_option maxRecDepth 100000 in
set_option maxHeartbeats 4000000 in
theorem sp_X8_isSet {G : kg_G} {E : State → Array Value → Prop} {R : kg_R} {n : Nat} {K : Int32 → kg_M → Prop} (ho : kg_O8 R n 117) {v1 : Int32} {M : kg_M} (h1 : wp_X8_isSet v1 M K) : kg_Run G E qX8_isSet 1 0 [(0, .ref (kg_b G + 117)), (1, .int v1)] [] M R n 0 0 (kg_Z R n K) := by
  unfold wp_X8_isSet at h1
  refine kr_iload_n 1 dX8_isSet_0 rfl (k := ?_)
  refine kr_i2l dX8_isSet_1 (k := ?_)
  refine kr_lconst (0 : Int64) dX8_isSet_2 (k := ?_)
  refine kr_iconst (1 : Int32) dX8_isSet_3 (k := ?_)
  refine kr_aload_n 0 dX8_isSet_4 rfl (k := ?_)
  refine kr_getI 2 ckX8 lkF_X8_94 rfl (kg_o8a ho) (kg_o8n ho) dX8_isSet_5 (k := ?_)
  refine kr_ishl dX8_isSet_8 (k := ?_)
  refine kr_iconst (1 : Int32) dX8_isSet_9 (k := ?_)
  refine kr_isub dX8_isSet_10 (k := ?_)
  refine kr_i2l dX8_isSet_11 (k := ?_)
  refine kn_callSz [.long v1.toInt64, .long (0 : Int64), .long ((((1 : Int32) <<< ((M 117 2) &&& 31)) - (1 : Int32)).toInt64)] [] msX8_in lkM_X8_90 dX8_isSet_12 (sp_X8_in  h1) (fun r4 M2 _ h3 => ?_)
  exact kr_ireturn dX8_isSet_15 ⟨rfl, rfl, _, rfl, h3.1, h3.2⟩
set_option maxRecDepth 100000 in
set_option maxHeartbeats 4000000 in
theorem sL_X8_isThere_2 {G : kg_G} {E : State → Array Value → Prop} {R : kg_R} {n : Nat} {K : Int32 → kg_M → Prop} (ho : kg_O8 R n 117) {Kx27 : kg_M → Prop} {Kx35 : kg_M → Prop} (hKx27 : ∀ (M : kg_M), Kx27 M → kg_Run G E qX8_isThere 0 27 [] [] M R n 0 0 (kg_Z R n K)) (hKx35 : ∀ (M : kg_M), Kx35 M → kg_Run G E qX8_isThere 0 35 [] [] M R n 0 0 (kg_Z R n K)) : ∀ (f : Nat) (v1 : Int32) (v2 : Int32) (v3 : Int32) (M : kg_M), wL_X8_isThere_2  Kx27 Kx35 K f v1 v2 v3 M → kg_Run G E qX8_isThere 0 2 [(0, .ref (kg_b G + 117)), (1, .int v1), (2, .int v2), (3, .int v3)] [] M R n 0 0 (kg_Z R n K) := by
  intro f
  induction f with
  | zero => intro v1 v2 v3 M h0; exact h0.elim
  | succ f ih =>
    intro v1 v2 v3 M h2
    rw [wL_X8_isThere_2] at h2
    refine kr_iload_n 3 dX8_isThere_2 rfl (k := ?_)
    refine kr_sipush (128 : Int32) dX8_isThere_3 (k := ?_)
    refine kr_icmp_ge 35 dX8_isThere_6 (fun c3 => ?_) (fun c3 => ?_)
    · have h4 := h2.1 c3
      refine kr_sub [] [] rfl ?_
      exact hKx35  M h4
    · have h5 := h2.2 c3
      refine kr_aload_n 0 dX8_isThere_9 rfl (k := ?_)
      refine kr_getR 30 ckX8 lkF_X8_62 rfl (kg_o8a ho) (kg_o8n ho) (kg_o8r30 ho) dX8_isThere_10 (k := ?_)
      refine kr_iload_n 3 dX8_isThere_13 rfl (k := ?_)
      obtain ⟨h6, h7⟩ := h5
      refine kr_zald (kg_o8s30 ho) (kg_o8m30 ho) h6 dX8_isThere_14 (k := ?_)
      refine kr_if_eq 29 dX8_isThere_15 (fun c8 => ?_) (fun c8 => ?_)
      · have h9 := h7.1 c8
        refine kr_iinc (1 : Int32) 3 [(3, .int (v3 + (1 : Int32))), (0, .ref (kg_b G + 117)), (1, .int v1), (2, .int v2)] dX8_isThere_29 rfl (k := ?_)
        refine kr_goto 2 dX8_isThere_32 ?_
        refine kr_sub [1, 2, 3, 0] [(0, .ref (kg_b G + 117)), (1, .int v1), (2, .int v2), (3, .int (v3 + (1 : Int32)))] rfl ?_
        exact ih v1 v2 (v3 + (1 : Int32)) M h9
      · have h10 := h7.2 c8
        refine kr_iload_n 3 dX8_isThere_18 rfl (k := ?_)
        refine kr_iload_n 1 dX8_isThere_19 rfl (k := ?_)
        refine kr_iand dX8_isThere_20 (k := ?_)
        refine kr_iload_n 2 dX8_isThere_21 rfl (k := ?_)
        refine kr_iload_n 1 dX8_isThere_22 rfl (k := ?_)
        refine kr_iand dX8_isThere_23 (k := ?_)
        refine kr_icmp_ne 29 dX8_isThere_24 (fun c11 => ?_) (fun c11 => ?_)
        · have h12 := h10.1 c11
          refine kr_iinc (1 : Int32) 3 [(3, .int (v3 + (1 : Int32))), (0, .ref (kg_b G + 117)), (1, .int v1), (2, .int v2)] dX8_isThere_29 rfl (k := ?_)
          refine kr_goto 2 dX8_isThere_32 ?_
          refine kr_sub [1, 2, 3, 0] [(0, .ref (kg_b G + 117)), (1, .int v1), (2, .int v2), (3, .int (v3 + (1 : Int32)))] rfl ?_
          exact ih v1 v2 (v3 + (1 : Int32)) M h12
        · have h13 := h10.2 c11
          refine kr_sub [] [] rfl ?_
          exact hKx27  M h13
set_option maxRecDepth 100000 in
set_option maxHeartbeats 4000000 in
theorem sp_X8_isThere {G : kg_G} {E : State → Array Value → Prop} {R : kg_R} {n : Nat} {K : Int32 → kg_M → Prop} (ho : kg_O8 R n 117) {v1 : Int32} {v2 : Int32} {M : kg_M} (h1 : wp_X8_isThere v1 v2 M K) : kg_Run G E qX8_isThere 0 0 [(0, .ref (kg_b G + 117)), (1, .int v1), (2, .int v2)] [] M R n 0 0 (kg_Z R n K) := by
  unfold wp_X8_isThere at h1
  refine kr_iconst (0 : Int32) dX8_isThere_0 (k := ?_)
  refine kr_istore_n [(3, .int (0 : Int32)), (0, .ref (kg_b G + 117)), (1, .int v1), (2, .int v2)] dX8_isThere_1 (k := ?_)
  refine kr_sub [1, 2, 3, 0] [(0, .ref (kg_b G + 117)), (1, .int v1), (2, .int v2), (3, .int (0 : Int32))] rfl ?_
  obtain ⟨f16, h17⟩ := h1
  refine sL_X8_isThere_2 ho ?_ ?_ f16 v1 v2 (0 : Int32) M h17
  · intro  M h14
    refine kr_iconst (1 : Int32) dX8_isThere_27 (k := ?_)
    exact kr_ireturn dX8_isThere_28 ⟨rfl, rfl, _, rfl, (by decide), h14⟩
  · intro  M h15
    refine kr_iconst (0 : Int32) dX8_isThere_35 (k := ?_)
    exact kr_ireturn dX8_isThere_36 ⟨rfl, rfl, _, rfl, (by decide), h15⟩
set_option maxRecDepth 100000 in
set_option maxHeartbeats 4000000 in
theorem sL_X8_judge_2 {G : kg_G} {E : State → Array Value → Prop} {R : kg_R} {n : Nat} {K : Int32 → kg_M → Prop} (ho : kg_O8 R n 117) {Kx30 : Int32 → kg_M → Prop} {Kx38 : kg_M → Prop} (hKx30 : ∀ (v1 : Int32) (M : kg_M), Kx30 v1 M → kg_Run G E qX8_judge 0 30 [(1, .int v1)] [] M R n 0 0 (kg_I R n K)) (hKx38 : ∀ (M : kg_M), Kx38 M → kg_Run G E qX8_judge 0 38 [] [] M R n 0 0 (kg_I R n K)) : ∀ (f : Nat) (v1 : Int32) (M : kg_M), wL_X8_judge_2  Kx30 Kx38 K f v1 M → kg_Run G E qX8_judge 0 2 [(0, .ref (kg_b G + 117)), (1, .int v1)] [] M R n 0 0 (kg_I R n K) := by
  intro f
  induction f with
  | zero => intro v1 M h0; exact h0.elim
  | succ f ih =>
    intro v1 M h2
    rw [wL_X8_judge_2] at h2
    refine kr_iload_n 1 dX8_judge_2 rfl (k := ?_)
    refine kr_aload_n 0 dX8_judge_3 rfl (k := ?_)
    refine kr_getI 35 ckX8 lkF_X8_156 rfl (kg_o8a ho) (kg_o8n ho) dX8_judge_4 (k := ?_)
    refine kr_icmp_ge 38 dX8_judge_7 (fun c3 => ?_) (fun c3 => ?_)
    · have h4 := h2.1 c3
      refine kr_sub [] [] rfl ?_
      exact hKx38  M h4
    · have h5 := h2.2 c3
      refine kr_aload_n 0 dX8_judge_10 rfl (k := ?_)
      refine kr_getR 4 ckX8 lkF_X8_16 rfl (kg_o8a ho) (kg_o8n ho) (kg_o8r4 ho) dX8_judge_11 (k := ?_)
      refine kr_aload_n 0 dX8_judge_14 rfl (k := ?_)
      refine kr_getR 36 ckX8 lkF_X8_75 rfl (kg_o8a ho) (kg_o8n ho) (kg_o8r36 ho) dX8_judge_15 (k := ?_)
      refine kr_iload_n 1 dX8_judge_18 rfl (k := ?_)
      obtain ⟨h6, h7⟩ := h5
      refine kr_iald (kg_o8s36 ho) (kg_o8m36 ho) h6 dX8_judge_19 (k := ?_)
      obtain ⟨h8, h9⟩ := h7
      refine kr_iald (kg_o8s4 ho) (kg_o8m4 ho) h8 dX8_judge_20 (k := ?_)
      refine kr_aload_n 0 dX8_judge_21 rfl (k := ?_)
      refine kr_getR 37 ckX8 lkF_X8_78 rfl (kg_o8a ho) (kg_o8n ho) (kg_o8r37 ho) dX8_judge_22 (k := ?_)
      refine kr_iload_n 1 dX8_judge_25 rfl (k := ?_)
      obtain ⟨h10, h11⟩ := h9
      refine kr_iald (kg_o8s37 ho) (kg_o8m37 ho) h10 dX8_judge_26 (k := ?_)
      refine kr_icmp_eq 32 dX8_judge_27 (fun c12 => ?_) (fun c12 => ?_)
      · have h13 := h11.1 c12
        refine kr_iinc (1 : Int32) 1 [(1, .int (v1 + (1 : Int32))), (0, .ref (kg_b G + 117))] dX8_judge_32 rfl (k := ?_)
        refine kr_goto 2 dX8_judge_35 ?_
        refine kr_sub [1, 0] [(0, .ref (kg_b G + 117)), (1, .int (v1 + (1 : Int32)))] rfl ?_
        exact ih (v1 + (1 : Int32)) M h13
      · have h14 := h11.2 c12
        refine kr_sub [1] [(1, .int v1)] rfl ?_
        exact hKx30 v1 M h14
set_option maxRecDepth 100000 in
set_option maxHeartbeats 4000000 in
theorem sp_X8_judge {G : kg_G} {E : State → Array Value → Prop} {R : kg_R} {n : Nat} {K : Int32 → kg_M → Prop} (ho : kg_O8 R n 117) {M : kg_M} (h1 : wp_X8_judge  M K) : kg_Run G E qX8_judge 0 0 [(0, .ref (kg_b G + 117))] [] M R n 0 0 (kg_I R n K) := by
  unfold wp_X8_judge at h1
  refine kr_iconst (0 : Int32) dX8_judge_0 (k := ?_)
  refine kr_istore_n [(1, .int (0 : Int32)), (0, .ref (kg_b G + 117))] dX8_judge_1 (k := ?_)
  refine kr_sub [1, 0] [(0, .ref (kg_b G + 117)), (1, .int (0 : Int32))] rfl ?_
  obtain ⟨f17, h18⟩ := h1
  refine sL_X8_judge_2 ho ?_ ?_ f17 (0 : Int32) M h18
  · intro v1 M h15
    refine kr_iload_n 0 dX8_judge_30 rfl (k := ?_)
    exact kr_ireturn dX8_judge_31 ⟨rfl, rfl, _, rfl, h15⟩
  · intro  M h16
    refine kr_iconst (-1 : Int32) dX8_judge_38 (k := ?_)
    exact kr_ireturn dX8_judge_39 ⟨rfl, rfl, _, rfl, h16⟩
set_option maxRecDepth 100000 in
set_option maxHeartbeats 4000000 in
theorem sL_X8_keep_15 {G : kg_G} {E : State → Array Value → Prop} {R : kg_R} {n : Nat} {K : Int32 → kg_M → Prop} (ho : kg_O8 R n 117) {Kx44 : Int32 → kg_M → Prop} (hKx44 : ∀ (v1 : Int32) (M : kg_M), Kx44 v1 M → kg_Run G E qX8_keep 1 44 [(0, .ref (kg_b G + 117)), (1, .int v1)] [] M R n 0 0 (kg_I R n K)) : ∀ (f : Nat) (v1 : Int32) (v2 : Int32) (M : kg_M), wL_X8_keep_15  Kx44 K f v1 v2 M → kg_Run G E qX8_keep 1 15 [(0, .ref (kg_b G + 117)), (1, .int v1), (2, .int v2)] [] M R n 0 0 (kg_I R n K) := by
  intro f
  induction f with
  | zero => intro v1 v2 M h0; exact h0.elim
  | succ f ih =>
    intro v1 v2 M h8
    rw [wL_X8_keep_15] at h8
    refine kr_iload_n 2 dX8_keep_15 rfl (k := ?_)
    refine kr_bipush (55 : Int32) dX8_keep_16 (k := ?_)
    refine kr_icmp_ge 44 dX8_keep_18 (fun c9 => ?_) (fun c9 => ?_)
    · have h10 := h8.1 c9
      refine kr_sub [0, 1] [(0, .ref (kg_b G + 117)), (1, .int v1)] rfl ?_
      exact hKx44 v1 M h10
    · have h11 := h8.2 c9
      refine kr_aload_n 0 dX8_keep_21 rfl (k := ?_)
      refine kr_getR 38 ckX8 lkF_X8_81 rfl (kg_o8a ho) (kg_o8n ho) (kg_o8r38 ho) dX8_keep_22 (k := ?_)
      refine kr_bipush (56 : Int32) dX8_keep_25 (k := ?_)
      refine kr_iload_n 1 dX8_keep_27 rfl (k := ?_)
      refine kr_imul dX8_keep_28 (k := ?_)
      refine kr_iload_n 2 dX8_keep_29 rfl (k := ?_)
      refine kr_iadd dX8_keep_30 (k := ?_)
      refine kr_aload_n 0 dX8_keep_31 rfl (k := ?_)
      refine kr_getR 4 ckX8 lkF_X8_16 rfl (kg_o8a ho) (kg_o8n ho) (kg_o8r4 ho) dX8_keep_32 (k := ?_)
      refine kr_iload_n 2 dX8_keep_35 rfl (k := ?_)
      obtain ⟨h12, h13⟩ := h11
      refine kr_iald (kg_o8s4 ho) (kg_o8m4 ho) h12 dX8_keep_36 (k := ?_)
      obtain ⟨h14, h15⟩ := h13
      refine kn_iast (kg_o8s38 ho) (kg_o8m38 ho) h14 dX8_keep_37 (fun M16 e17 => ?_)
      have h18 := h15 M16 e17
      refine kr_iinc (1 : Int32) 2 [(2, .int (v2 + (1 : Int32))), (0, .ref (kg_b G + 117)), (1, .int v1)] dX8_keep_38 rfl (k := ?_)
      refine kr_goto 15 dX8_keep_41 ?_
      refine kr_sub [1, 2, 0] [(0, .ref (kg_b G + 117)), (1, .int v1), (2, .int (v2 + (1 : Int32)))] rfl ?_
      exact ih v1 (v2 + (1 : Int32)) M16 h18
set_option maxRecDepth 100000 in
set_option maxHeartbeats 4000000 in
theorem sp_X8_keep {G : kg_G} {E : State → Array Value → Prop} {R : kg_R} {n : Nat} {K : Int32 → kg_M → Prop} (ho : kg_O8 R n 117) {v1 : Int32} {M : kg_M} (h1 : wp_X8_keep v1 M K) : kg_Run G E qX8_keep 1 0 [(0, .ref (kg_b G + 117)), (1, .int v1)] [] M R n 0 0 (kg_I R n K) := by
  unfold wp_X8_keep at h1
  refine kr_iload_n 1 dX8_keep_0 rfl (k := ?_)
  refine kr_i2l dX8_keep_1 (k := ?_)
  refine kr_lconst (0 : Int64) dX8_keep_2 (k := ?_)
  refine kr_lconst (1 : Int64) dX8_keep_3 (k := ?_)
  refine kn_callSz [.long v1.toInt64, .long (0 : Int64), .long (1 : Int64)] [] msX8_in lkM_X8_90 dX8_keep_4 (sp_X8_in  h1) (fun r4 M2 _ h3 => ?_)
  refine kr_if_ne 13 dX8_keep_7 (fun c5 => ?_) (fun c5 => ?_)
  · have h6 := h3.1 c5
    refine kr_iconst (0 : Int32) dX8_keep_13 (k := ?_)
    refine kr_istore_n [(2, .int (0 : Int32)), (0, .ref (kg_b G + 117)), (1, .int v1)] dX8_keep_14 (k := ?_)
    refine kr_sub [1, 2, 0] [(0, .ref (kg_b G + 117)), (1, .int v1), (2, .int (0 : Int32))] rfl ?_
    obtain ⟨f33, h34⟩ := h6
    refine sL_X8_keep_15 ho ?_ f33 v1 (0 : Int32) M2 h34
    · intro v1 M h19
      refine kr_aload_n 0 dX8_keep_44 rfl (k := ?_)
      refine kr_getR 38 ckX8 lkF_X8_81 rfl (kg_o8a ho) (kg_o8n ho) (kg_o8r38 ho) dX8_keep_45 (k := ?_)
      refine kr_bipush (56 : Int32) dX8_keep_48 (k := ?_)
      refine kr_iload_n 1 dX8_keep_50 rfl (k := ?_)
      refine kr_imul dX8_keep_51 (k := ?_)
      refine kr_bipush (55 : Int32) dX8_keep_52 (k := ?_)
      refine kr_iadd dX8_keep_54 (k := ?_)
      refine kr_aload_n 0 dX8_keep_55 rfl (k := ?_)
      refine kr_getI 5 ckX8 lkF_X8_222 rfl (kg_o8a ho) (kg_o8n ho) dX8_keep_56 (k := ?_)
      obtain ⟨h20, h21⟩ := h19
      refine kn_iast (kg_o8s38 ho) (kg_o8m38 ho) h20 dX8_keep_59 (fun M22 e23 => ?_)
      have h24 := h21 M22 e23
      refine kr_aload_n 0 dX8_keep_60 rfl (k := ?_)
      refine kr_getR 39 ckX8 lkF_X8_84 rfl (kg_o8a ho) (kg_o8n ho) (kg_o8r39 ho) dX8_keep_61 (k := ?_)
      refine kr_iload_n 1 dX8_keep_64 rfl (k := ?_)
      refine kr_iconst (1 : Int32) dX8_keep_65 (k := ?_)
      obtain ⟨h25, h26⟩ := h24
      refine kn_zast (kg_o8s39 ho) (kg_o8m39 ho) h25 rfl dX8_keep_66 (fun M27 e28 => ?_)
      have h29 := h26 M27 e28
      refine kr_aload_n 0 dX8_keep_67 rfl (k := ?_)
      refine kr_iconst (0 : Int32) dX8_keep_68 (k := ?_)
      refine kn_putI 20 ckX8 lkF_X8_159 rfl rfl rfl rfl (kg_o8a ho) (kg_o8n ho) dX8_keep_69 (fun M30 e31 => ?_)
      have h32 := h29 M30 e31
      refine kr_iconst (1 : Int32) dX8_keep_72 (k := ?_)
      exact kr_ireturn dX8_keep_73 ⟨rfl, rfl, _, rfl, h32⟩
  · have h7 := h3.2 c5
    refine kr_ldc dX8_keep_10 lkC_X8_183 (k := ?_)
    exact kr_ireturn dX8_keep_12 ⟨rfl, rfl, _, rfl, h7⟩
set_option maxRecDepth 100000 in
set_option maxHeartbeats 4000000 in
theorem sp_X8_likes {G : kg_G} {E : State → Array Value → Prop} {R : kg_R} {n : Nat} {K : Int32 → kg_M → Prop} (ho : kg_O8 R n 117) {v1 : Int32} {v2 : Int32} {M : kg_M} (h1 : wp_X8_likes v1 v2 M K) : kg_Run G E qX8_likes 2 0 [(0, .ref (kg_b G + 117)), (1, .int v1), (2, .int v2)] [] M R n 0 0 (kg_I R n K) := by
  unfold wp_X8_likes at h1
  refine kr_aload_n 0 dX8_likes_0 rfl (k := ?_)
  refine kr_iload_n 1 dX8_likes_1 rfl (k := ?_)
  refine kn_callVz [.int v1] [] mvX8_isPerson lkM_X8_187 (kg_o8a ho) rfl (kg_o8n ho) dX8_likes_2 (sp_X8_isPerson ho h1) (fun r4 M2 _ h3 => ?_)
  refine kr_if_eq 35 dX8_likes_5 (fun c5 => ?_) (fun c5 => ?_)
  · have h6 := h3.1 c5
    refine kr_ldc dX8_likes_35 lkC_X8_183 (k := ?_)
    exact kr_ireturn dX8_likes_37 ⟨rfl, rfl, _, rfl, h6⟩
  · have h7 := h3.2 c5
    refine kr_aload_n 0 dX8_likes_8 rfl (k := ?_)
    refine kr_iload_n 2 dX8_likes_9 rfl (k := ?_)
    refine kn_callVz [.int v2] [] mvX8_isPerson lkM_X8_187 (kg_o8a ho) rfl (kg_o8n ho) dX8_likes_10 (sp_X8_isPerson ho h7) (fun r10 M8 _ h9 => ?_)
    refine kr_if_eq 35 dX8_likes_13 (fun c11 => ?_) (fun c11 => ?_)
    · have h12 := h9.1 c11
      refine kr_ldc dX8_likes_35 lkC_X8_183 (k := ?_)
      exact kr_ireturn dX8_likes_37 ⟨rfl, rfl, _, rfl, h12⟩
    · have h13 := h9.2 c11
      refine kr_iload_n 1 dX8_likes_16 rfl (k := ?_)
      refine kr_iload_n 2 dX8_likes_17 rfl (k := ?_)
      refine kr_icmp_eq 35 dX8_likes_18 (fun c14 => ?_) (fun c14 => ?_)
      · have h15 := h13.1 c14
        refine kr_ldc dX8_likes_35 lkC_X8_183 (k := ?_)
        exact kr_ireturn dX8_likes_37 ⟨rfl, rfl, _, rfl, h15⟩
      · have h16 := h13.2 c14
        refine kr_aload_n 0 dX8_likes_21 rfl (k := ?_)
        refine kr_getR 3 ckX8 lkF_X8_13 rfl (kg_o8a ho) (kg_o8n ho) (kg_o8r3 ho) dX8_likes_22 (k := ?_)
        refine kr_bipush (7 : Int32) dX8_likes_25 (k := ?_)
        refine kr_iload_n 1 dX8_likes_27 rfl (k := ?_)
        refine kr_imul dX8_likes_28 (k := ?_)
        refine kr_iload_n 2 dX8_likes_29 rfl (k := ?_)
        refine kr_iadd dX8_likes_30 (k := ?_)
        obtain ⟨h17, h18⟩ := h16
        refine kr_iald (kg_o8s3 ho) (kg_o8m3 ho) h17 dX8_likes_31 (k := ?_)
        refine kr_goto 37 dX8_likes_32 ?_
        exact kr_ireturn dX8_likes_37 ⟨rfl, rfl, _, rfl, h18⟩
set_option maxRecDepth 100000 in
set_option maxHeartbeats 4000000 in
theorem sp_X8_likesNow {G : kg_G} {E : State → Array Value → Prop} {R : kg_R} {n : Nat} {K : Int32 → kg_M → Prop} (ho : kg_O8 R n 117) {v1 : Int32} {M : kg_M} (h1 : wp_X8_likesNow v1 M K) : kg_Run G E qX8_likesNow 0 0 [(0, .ref (kg_b G + 117)), (1, .int v1)] [] M R n 0 0 (kg_I R n K) := by
  unfold wp_X8_likesNow at h1
  refine kr_aload_n 0 dX8_likesNow_0 rfl (k := ?_)
  refine kr_getR 24 ckX8 lkF_X8_53 rfl (kg_o8a ho) (kg_o8n ho) (kg_o8r24 ho) dX8_likesNow_1 (k := ?_)
  refine kr_iload_n 1 dX8_likesNow_4 rfl (k := ?_)
  obtain ⟨h2, h3⟩ := h1
  refine kr_iald (kg_o8s24 ho) (kg_o8m24 ho) h2 dX8_likesNow_5 (k := ?_)
  refine kr_bipush (7 : Int32) dX8_likesNow_6 (k := ?_)
  refine kr_icmp_ne 15 dX8_likesNow_8 (fun c4 => ?_) (fun c4 => ?_)
  · have h5 := h3.1 c4
    refine kr_aload_n 0 dX8_likesNow_15 rfl (k := ?_)
    refine kr_getR 3 ckX8 lkF_X8_13 rfl (kg_o8a ho) (kg_o8n ho) (kg_o8r3 ho) dX8_likesNow_16 (k := ?_)
    refine kr_bipush (7 : Int32) dX8_likesNow_19 (k := ?_)
    refine kr_iload_n 1 dX8_likesNow_21 rfl (k := ?_)
    refine kr_imul dX8_likesNow_22 (k := ?_)
    refine kr_aload_n 0 dX8_likesNow_23 rfl (k := ?_)
    refine kr_getR 24 ckX8 lkF_X8_53 rfl (kg_o8a ho) (kg_o8n ho) (kg_o8r24 ho) dX8_likesNow_24 (k := ?_)
    refine kr_iload_n 1 dX8_likesNow_27 rfl (k := ?_)
    obtain ⟨h7, h8⟩ := h5
    refine kr_iald (kg_o8s24 ho) (kg_o8m24 ho) h7 dX8_likesNow_28 (k := ?_)
    refine kr_iadd dX8_likesNow_29 (k := ?_)
    obtain ⟨h9, h10⟩ := h8
    refine kr_iald (kg_o8s3 ho) (kg_o8m3 ho) h9 dX8_likesNow_30 (k := ?_)
    exact kr_ireturn dX8_likesNow_31 ⟨rfl, rfl, _, rfl, h10⟩
  · have h6 := h3.2 c4
    refine kr_iconst (0 : Int32) dX8_likesNow_11 (k := ?_)
    refine kr_goto 31 dX8_likesNow_12 ?_
    exact kr_ireturn dX8_likesNow_31 ⟨rfl, rfl, _, rfl, h6⟩
set_option maxRecDepth 100000 in
set_option maxHeartbeats 4000000 in
theorem sp_X8_logged {G : kg_G} {E : State → Array Value → Prop} {R : kg_R} {n : Nat} {K : Int32 → kg_M → Prop} (ho : kg_O8 R n 117) {v1 : Int32} {M : kg_M} (h1 : wp_X8_logged v1 M K) : kg_Run G E qX8_logged 1 0 [(0, .ref (kg_b G + 117)), (1, .int v1)] [] M R n 0 0 (kg_I R n K) := by
  unfold wp_X8_logged at h1
  refine kr_iload_n 1 dX8_logged_0 rfl (k := ?_)
  refine kr_i2l dX8_logged_1 (k := ?_)
  refine kr_lconst (0 : Int64) dX8_logged_2 (k := ?_)
  refine kr_aload_n 0 dX8_logged_3 rfl (k := ?_)
  refine kr_getR 4 ckX8 lkF_X8_16 rfl (kg_o8a ho) (kg_o8n ho) (kg_o8r4 ho) dX8_logged_4 (k := ?_)
  refine kr_bipush (34 : Int32) dX8_logged_7 (k := ?_)
  obtain ⟨h2, h3⟩ := h1
  refine kr_iald (kg_o8s4 ho) (kg_o8m4 ho) h2 dX8_logged_9 (k := ?_)
  refine kr_iconst (1 : Int32) dX8_logged_10 (k := ?_)
  refine kr_isub dX8_logged_11 (k := ?_)
  refine kr_i2l dX8_logged_12 (k := ?_)
  refine kn_callSz [.long v1.toInt64, .long (0 : Int64), .long (((M 120 (34 : Int32).toNatClampNeg) - (1 : Int32)).toInt64)] [] msX8_in lkM_X8_90 dX8_logged_13 (sp_X8_in  h3) (fun r6 M4 _ h5 => ?_)
  refine kr_if_eq 41 dX8_logged_16 (fun c7 => ?_) (fun c7 => ?_)
  · have h8 := h5.1 c7
    refine kr_iconst (-1 : Int32) dX8_logged_41 (k := ?_)
    exact kr_ireturn dX8_logged_42 ⟨rfl, rfl, _, rfl, h8⟩
  · have h9 := h5.2 c7
    refine kr_aload_n 0 dX8_logged_19 rfl (k := ?_)
    refine kr_getR 4 ckX8 lkF_X8_16 rfl (kg_o8a ho) (kg_o8n ho) (kg_o8r4 ho) dX8_logged_20 (k := ?_)
    refine kr_bipush (35 : Int32) dX8_logged_23 (k := ?_)
    refine kr_aload_n 0 dX8_logged_25 rfl (k := ?_)
    refine kr_getR 4 ckX8 lkF_X8_16 rfl (kg_o8a ho) (kg_o8n ho) (kg_o8r4 ho) dX8_logged_26 (k := ?_)
    refine kr_bipush (34 : Int32) dX8_logged_29 (k := ?_)
    obtain ⟨h10, h11⟩ := h9
    refine kr_iald (kg_o8s4 ho) (kg_o8m4 ho) h10 dX8_logged_31 (k := ?_)
    refine kr_iadd dX8_logged_32 (k := ?_)
    refine kr_iconst (1 : Int32) dX8_logged_33 (k := ?_)
    refine kr_isub dX8_logged_34 (k := ?_)
    refine kr_iload_n 1 dX8_logged_35 rfl (k := ?_)
    refine kr_isub dX8_logged_36 (k := ?_)
    obtain ⟨h12, h13⟩ := h11
    refine kr_iald (kg_o8s4 ho) (kg_o8m4 ho) h12 dX8_logged_37 (k := ?_)
    refine kr_goto 42 dX8_logged_38 ?_
    exact kr_ireturn dX8_logged_42 ⟨rfl, rfl, _, rfl, h13⟩
set_option maxRecDepth 100000 in
set_option maxHeartbeats 4000000 in
theorem sL_X8_mostLiked_4 {G : kg_G} {E : State → Array Value → Prop} {R : kg_R} {n : Nat} {K : Int32 → kg_M → Prop} (ho : kg_O8 R n 117) {Kx49 : Int32 → kg_M → Prop} (hKx49 : ∀ (v2 : Int32) (M : kg_M), Kx49 v2 M → kg_Run G E qX8_mostLiked 0 49 [(2, .int v2)] [] M R n 0 0 (kg_I R n K)) : ∀ (f : Nat) (v1 : Int32) (v2 : Int32) (v3 : Int32) (M : kg_M), wL_X8_mostLiked_4  Kx49 K f v1 v2 v3 M → kg_Run G E qX8_mostLiked 0 4 [(0, .ref (kg_b G + 117)), (1, .int v1), (2, .int v2), (3, .int v3)] [] M R n 0 0 (kg_I R n K) := by
  intro f
  induction f with
  | zero => intro v1 v2 v3 M h0; exact h0.elim
  | succ f ih =>
    intro v1 v2 v3 M h2
    rw [wL_X8_mostLiked_4] at h2
    refine kr_iload_n 3 dX8_mostLiked_4 rfl (k := ?_)
    refine kr_aload_n 0 dX8_mostLiked_5 rfl (k := ?_)
    refine kr_getI 2 ckX8 lkF_X8_94 rfl (kg_o8a ho) (kg_o8n ho) dX8_mostLiked_6 (k := ?_)
    refine kr_icmp_ge 49 dX8_mostLiked_9 (fun c3 => ?_) (fun c3 => ?_)
    · have h4 := h2.1 c3
      refine kr_sub [2] [(2, .int v2)] rfl ?_
      exact hKx49 v2 M h4
    · have h5 := h2.2 c3
      refine kr_aload_n 0 dX8_mostLiked_12 rfl (k := ?_)
      refine kr_getR 3 ckX8 lkF_X8_13 rfl (kg_o8a ho) (kg_o8n ho) (kg_o8r3 ho) dX8_mostLiked_13 (k := ?_)
      refine kr_bipush (7 : Int32) dX8_mostLiked_16 (k := ?_)
      refine kr_iload_n 1 dX8_mostLiked_18 rfl (k := ?_)
      refine kr_imul dX8_mostLiked_19 (k := ?_)
      refine kr_iload_n 3 dX8_mostLiked_20 rfl (k := ?_)
      refine kr_iadd dX8_mostLiked_21 (k := ?_)
      obtain ⟨h6, h7⟩ := h5
      refine kr_iald (kg_o8s3 ho) (kg_o8m3 ho) h6 dX8_mostLiked_22 (k := ?_)
      refine kr_iload_n 2 dX8_mostLiked_23 rfl (k := ?_)
      refine kr_icmp_le 41 dX8_mostLiked_24 (fun c8 => ?_) (fun c8 => ?_)
      · have h9 := h7.1 c8
        refine kr_iload_n 2 dX8_mostLiked_41 rfl (k := ?_)
        refine kr_istore_n [(2, .int v2), (0, .ref (kg_b G + 117)), (1, .int v1), (3, .int v3)] dX8_mostLiked_42 (k := ?_)
        refine kr_iinc (1 : Int32) 3 [(3, .int (v3 + (1 : Int32))), (2, .int v2), (0, .ref (kg_b G + 117)), (1, .int v1)] dX8_mostLiked_43 rfl (k := ?_)
        refine kr_goto 4 dX8_mostLiked_46 ?_
        refine kr_sub [2, 3, 1, 0] [(0, .ref (kg_b G + 117)), (1, .int v1), (2, .int v2), (3, .int (v3 + (1 : Int32)))] rfl ?_
        exact ih v1 v2 (v3 + (1 : Int32)) M h9
      · have h10 := h7.2 c8
        refine kr_aload_n 0 dX8_mostLiked_27 rfl (k := ?_)
        refine kr_getR 3 ckX8 lkF_X8_13 rfl (kg_o8a ho) (kg_o8n ho) (kg_o8r3 ho) dX8_mostLiked_28 (k := ?_)
        refine kr_bipush (7 : Int32) dX8_mostLiked_31 (k := ?_)
        refine kr_iload_n 1 dX8_mostLiked_33 rfl (k := ?_)
        refine kr_imul dX8_mostLiked_34 (k := ?_)
        refine kr_iload_n 3 dX8_mostLiked_35 rfl (k := ?_)
        refine kr_iadd dX8_mostLiked_36 (k := ?_)
        obtain ⟨h11, h12⟩ := h10
        refine kr_iald (kg_o8s3 ho) (kg_o8m3 ho) h11 dX8_mostLiked_37 (k := ?_)
        refine kr_goto 42 dX8_mostLiked_38 ?_
        refine kr_istore_n [(2, .int (M 119 (((7 : Int32) * v1) + v3).toNatClampNeg)), (0, .ref (kg_b G + 117)), (1, .int v1), (3, .int v3)] dX8_mostLiked_42 (k := ?_)
        refine kr_iinc (1 : Int32) 3 [(3, .int (v3 + (1 : Int32))), (2, .int (M 119 (((7 : Int32) * v1) + v3).toNatClampNeg)), (0, .ref (kg_b G + 117)), (1, .int v1)] dX8_mostLiked_43 rfl (k := ?_)
        refine kr_goto 4 dX8_mostLiked_46 ?_
        refine kr_sub [2, 3, 1, 0] [(0, .ref (kg_b G + 117)), (1, .int v1), (2, .int (M 119 (((7 : Int32) * v1) + v3).toNatClampNeg)), (3, .int (v3 + (1 : Int32)))] rfl ?_
        exact ih v1 (M 119 (((7 : Int32) * v1) + v3).toNatClampNeg) (v3 + (1 : Int32)) M h12
set_option maxRecDepth 100000 in
set_option maxHeartbeats 4000000 in
theorem sp_X8_mostLiked {G : kg_G} {E : State → Array Value → Prop} {R : kg_R} {n : Nat} {K : Int32 → kg_M → Prop} (ho : kg_O8 R n 117) {v1 : Int32} {M : kg_M} (h1 : wp_X8_mostLiked v1 M K) : kg_Run G E qX8_mostLiked 0 0 [(0, .ref (kg_b G + 117)), (1, .int v1)] [] M R n 0 0 (kg_I R n K) := by
  unfold wp_X8_mostLiked at h1
  refine kr_iconst (0 : Int32) dX8_mostLiked_0 (k := ?_)
  refine kr_istore_n [(2, .int (0 : Int32)), (0, .ref (kg_b G + 117)), (1, .int v1)] dX8_mostLiked_1 (k := ?_)
  refine kr_iconst (0 : Int32) dX8_mostLiked_2 (k := ?_)
  refine kr_istore_n [(3, .int (0 : Int32)), (2, .int (0 : Int32)), (0, .ref (kg_b G + 117)), (1, .int v1)] dX8_mostLiked_3 (k := ?_)
  refine kr_sub [2, 3, 1, 0] [(0, .ref (kg_b G + 117)), (1, .int v1), (2, .int (0 : Int32)), (3, .int (0 : Int32))] rfl ?_
  obtain ⟨f14, h15⟩ := h1
  refine sL_X8_mostLiked_4 ho ?_ f14 v1 (0 : Int32) (0 : Int32) M h15
  · intro v2 M h13
    refine kr_iload_n 0 dX8_mostLiked_49 rfl (k := ?_)
    exact kr_ireturn dX8_mostLiked_50 ⟨rfl, rfl, _, rfl, h13⟩
set_option maxRecDepth 100000 in
set_option maxHeartbeats 4000000 in
theorem sL_X8_loves_4 {G : kg_G} {E : State → Array Value → Prop} {R : kg_R} {n : Nat} {K : Int32 → kg_M → Prop} (ho : kg_O8 R n 117) {Kx86 : Int32 → Int32 → kg_M → Prop} {Kx104 : Int32 → Int32 → kg_M → Prop} (hKx86 : ∀ (v4 : Int32) (v5 : Int32) (M : kg_M), Kx86 v4 v5 M → kg_Run G E qX8_loves 1 86 [(4, .int v4), (5, .int v5)] [] M R n 0 0 (kg_I R n K)) (hKx104 : ∀ (v1 : Int32) (v2 : Int32) (M : kg_M), Kx104 v1 v2 M → kg_Run G E qX8_loves 1 104 [(1, .int v1), (2, .int v2)] [] M R n 0 0 (kg_I R n K)) : ∀ (f : Nat) (v1 : Int32) (v2 : Int32) (v3 : Int32) (M : kg_M), wL_X8_loves_4  Kx86 Kx104 K f v1 v2 v3 M → kg_Run G E qX8_loves 1 4 [(0, .ref (kg_b G + 117)), (1, .int v1), (2, .int v2), (3, .int v3)] [] M R n 0 0 (kg_I R n K) := by
  intro f
  induction f with
  | zero => intro v1 v2 v3 M h0; exact h0.elim
  | succ f ih =>
    intro v1 v2 v3 M h2
    rw [wL_X8_loves_4] at h2
    refine kr_iload_n 3 dX8_loves_4 rfl (k := ?_)
    refine kr_bipush (21 : Int32) dX8_loves_5 (k := ?_)
    refine kr_icmp_ge 104 dX8_loves_7 (fun c3 => ?_) (fun c3 => ?_)
    · have h4 := h2.1 c3
      refine kr_sub [1, 2] [(1, .int v1), (2, .int v2)] rfl ?_
      exact hKx104 v1 v2 M h4
    · have h5 := h2.2 c3
      refine kr_aload_n 0 dX8_loves_10 rfl (k := ?_)
      refine kr_getR 6 ckX8 lkF_X8_19 rfl (kg_o8a ho) (kg_o8n ho) (kg_o8r6 ho) dX8_loves_11 (k := ?_)
      refine kr_iload_n 3 dX8_loves_14 rfl (k := ?_)
      obtain ⟨h6, h7⟩ := h5
      refine kr_iald (kg_o8s6 ho) (kg_o8m6 ho) h6 dX8_loves_15 (k := ?_)
      refine kr_istore [(4, .int (M 121 v3.toNatClampNeg)), (0, .ref (kg_b G + 117)), (1, .int v1), (2, .int v2), (3, .int v3)] dX8_loves_16 (k := ?_)
      refine kr_aload_n 1 dX8_loves_18 rfl (k := ?_)
      refine kr_getR 7 ckX8 lkF_X8_22 rfl (kg_o8a ho) (kg_o8n ho) (kg_o8r7 ho) dX8_loves_19 (k := ?_)
      refine kr_iload_n 4 dX8_loves_22 rfl (k := ?_)
      obtain ⟨h8, h9⟩ := h7
      refine kr_iald (kg_o8s7 ho) (kg_o8m7 ho) h8 dX8_loves_23 (k := ?_)
      refine kr_istore [(5, .int (M 122 v3.toNatClampNeg)), (4, .int (M 121 v3.toNatClampNeg)), (0, .ref (kg_b G + 117)), (1, .int v1), (2, .int v2), (3, .int v3)] dX8_loves_24 (k := ?_)
      refine kr_aload_n 2 dX8_loves_26 rfl (k := ?_)
      refine kr_iload 1 dX8_loves_27 rfl (k := ?_)
      refine kr_iload 0 dX8_loves_29 rfl (k := ?_)
      refine kn_callVz [.int (M 121 v3.toNatClampNeg), .int (M 122 v3.toNatClampNeg)] [] mvX8_like lkM_X8_162 (kg_o8a ho) rfl (kg_o8n ho) dX8_loves_31 (sp_X8_like ho h9) (fun r12 M10 _ h11 => ?_)
      refine kr_if_eq 98 dX8_loves_34 (fun c13 => ?_) (fun c13 => ?_)
      · have h14 := h11.1 c13
        refine kr_iinc (1 : Int32) 5 [(3, .int (v3 + (1 : Int32))), (5, .int (M 122 v3.toNatClampNeg)), (4, .int (M 121 v3.toNatClampNeg)), (0, .ref (kg_b G + 117)), (1, .int v1), (2, .int v2)] dX8_loves_98 rfl (k := ?_)
        refine kr_goto 4 dX8_loves_101 ?_
        refine kr_sub [3, 4, 5, 0] [(0, .ref (kg_b G + 117)), (1, .int v1), (2, .int v2), (3, .int (v3 + (1 : Int32)))] rfl ?_
        exact ih v1 v2 (v3 + (1 : Int32)) M10 h14
      · have h15 := h11.2 c13
        refine kr_aload_n 2 dX8_loves_37 rfl (k := ?_)
        refine kr_getR 3 ckX8 lkF_X8_13 rfl (kg_o8a ho) (kg_o8n ho) (kg_o8r3 ho) dX8_loves_38 (k := ?_)
        refine kr_bipush (7 : Int32) dX8_loves_41 (k := ?_)
        refine kr_iload 1 dX8_loves_43 rfl (k := ?_)
        refine kr_imul dX8_loves_45 (k := ?_)
        refine kr_iload 0 dX8_loves_46 rfl (k := ?_)
        refine kr_iadd dX8_loves_48 (k := ?_)
        obtain ⟨h16, h17⟩ := h15
        refine kr_iald (kg_o8s3 ho) (kg_o8m3 ho) h16 dX8_loves_49 (k := ?_)
        refine kr_aload_n 2 dX8_loves_50 rfl (k := ?_)
        refine kr_iload 1 dX8_loves_51 rfl (k := ?_)
        refine kn_callVi [.int (M 121 v3.toNatClampNeg)] [.int (M10 119 (((7 : Int32) * (M 121 v3.toNatClampNeg)) + (M 122 v3.toNatClampNeg)).toNatClampNeg)] mvX8_mostLiked lkM_X8_294 (kg_o8a ho) rfl (kg_o8n ho) dX8_loves_53 (sp_X8_mostLiked ho h17) (fun r20 M18 h19 => ?_)
        refine kr_icmp_ne 98 dX8_loves_56 (fun c21 => ?_) (fun c21 => ?_)
        · have h22 := h19.1 c21
          refine kr_iinc (1 : Int32) 5 [(3, .int (v3 + (1 : Int32))), (5, .int (M 122 v3.toNatClampNeg)), (4, .int (M 121 v3.toNatClampNeg)), (0, .ref (kg_b G + 117)), (1, .int v1), (2, .int v2)] dX8_loves_98 rfl (k := ?_)
          refine kr_goto 4 dX8_loves_101 ?_
          refine kr_sub [3, 4, 5, 0] [(0, .ref (kg_b G + 117)), (1, .int v1), (2, .int v2), (3, .int (v3 + (1 : Int32)))] rfl ?_
          exact ih v1 v2 (v3 + (1 : Int32)) M18 h22
        · have h23 := h19.2 c21
          refine kr_aload_n 2 dX8_loves_59 rfl (k := ?_)
          refine kr_getR 3 ckX8 lkF_X8_13 rfl (kg_o8a ho) (kg_o8n ho) (kg_o8r3 ho) dX8_loves_60 (k := ?_)
          refine kr_bipush (7 : Int32) dX8_loves_63 (k := ?_)
          refine kr_iload 0 dX8_loves_65 rfl (k := ?_)
          refine kr_imul dX8_loves_67 (k := ?_)
          refine kr_iload 1 dX8_loves_68 rfl (k := ?_)
          refine kr_iadd dX8_loves_70 (k := ?_)
          obtain ⟨h24, h25⟩ := h23
          refine kr_iald (kg_o8s3 ho) (kg_o8m3 ho) h24 dX8_loves_71 (k := ?_)
          refine kr_aload_n 2 dX8_loves_72 rfl (k := ?_)
          refine kr_iload 0 dX8_loves_73 rfl (k := ?_)
          refine kn_callVi [.int (M 122 v3.toNatClampNeg)] [.int (M18 119 (((7 : Int32) * (M 122 v3.toNatClampNeg)) + (M 121 v3.toNatClampNeg)).toNatClampNeg)] mvX8_mostLiked lkM_X8_294 (kg_o8a ho) rfl (kg_o8n ho) dX8_loves_75 (sp_X8_mostLiked ho h25) (fun r28 M26 h27 => ?_)
          refine kr_icmp_ne 98 dX8_loves_78 (fun c29 => ?_) (fun c29 => ?_)
          · have h30 := h27.1 c29
            refine kr_iinc (1 : Int32) 5 [(3, .int (v3 + (1 : Int32))), (5, .int (M 122 v3.toNatClampNeg)), (4, .int (M 121 v3.toNatClampNeg)), (0, .ref (kg_b G + 117)), (1, .int v1), (2, .int v2)] dX8_loves_98 rfl (k := ?_)
            refine kr_goto 4 dX8_loves_101 ?_
            refine kr_sub [3, 4, 5, 0] [(0, .ref (kg_b G + 117)), (1, .int v1), (2, .int v2), (3, .int (v3 + (1 : Int32)))] rfl ?_
            exact ih v1 v2 (v3 + (1 : Int32)) M26 h30
          · have h31 := h27.2 c29
            refine kr_iload_n 4 dX8_loves_81 rfl (k := ?_)
            refine kr_iload_n 3 dX8_loves_82 rfl (k := ?_)
            refine kr_icmp_ne 95 dX8_loves_83 (fun c32 => ?_) (fun c32 => ?_)
            · have h33 := h31.1 c32
              refine kr_iinc (1 : Int32) 4 [(2, .int (v2 + (1 : Int32))), (5, .int (M 122 v3.toNatClampNeg)), (4, .int (M 121 v3.toNatClampNeg)), (0, .ref (kg_b G + 117)), (1, .int v1), (3, .int v3)] dX8_loves_95 rfl (k := ?_)
              refine kr_iinc (1 : Int32) 5 [(3, .int (v3 + (1 : Int32))), (2, .int (v2 + (1 : Int32))), (5, .int (M 122 v3.toNatClampNeg)), (4, .int (M 121 v3.toNatClampNeg)), (0, .ref (kg_b G + 117)), (1, .int v1)] dX8_loves_98 rfl (k := ?_)
              refine kr_goto 4 dX8_loves_101 ?_
              refine kr_sub [4, 5, 1, 0] [(0, .ref (kg_b G + 117)), (1, .int v1), (2, .int (v2 + (1 : Int32))), (3, .int (v3 + (1 : Int32)))] rfl ?_
              exact ih v1 (v2 + (1 : Int32)) (v3 + (1 : Int32)) M26 h33
            · have h34 := h31.2 c32
              refine kr_sub [1, 0] [(4, .int (M 121 v3.toNatClampNeg)), (5, .int (M 122 v3.toNatClampNeg))] rfl ?_
              exact hKx86 (M 121 v3.toNatClampNeg) (M 122 v3.toNatClampNeg) M26 h34
set_option maxRecDepth 100000 in
set_option maxHeartbeats 4000000 in
theorem sp_X8_loves {G : kg_G} {E : State → Array Value → Prop} {R : kg_R} {n : Nat} {K : Int32 → kg_M → Prop} (ho : kg_O8 R n 117) {v1 : Int32} {M : kg_M} (h1 : wp_X8_loves v1 M K) : kg_Run G E qX8_loves 1 0 [(0, .ref (kg_b G + 117)), (1, .int v1)] [] M R n 0 0 (kg_I R n K) := by
  unfold wp_X8_loves at h1
  refine kr_iconst (0 : Int32) dX8_loves_0 (k := ?_)
  refine kr_istore_n [(2, .int (0 : Int32)), (0, .ref (kg_b G + 117)), (1, .int v1)] dX8_loves_1 (k := ?_)
  refine kr_iconst (0 : Int32) dX8_loves_2 (k := ?_)
  refine kr_istore_n [(3, .int (0 : Int32)), (2, .int (0 : Int32)), (0, .ref (kg_b G + 117)), (1, .int v1)] dX8_loves_3 (k := ?_)
  refine kr_sub [2, 3, 1, 0] [(0, .ref (kg_b G + 117)), (1, .int v1), (2, .int (0 : Int32)), (3, .int (0 : Int32))] rfl ?_
  obtain ⟨f40, h41⟩ := h1
  refine sL_X8_loves_4 ho ?_ ?_ f40 v1 (0 : Int32) (0 : Int32) M h41
  · intro v4 v5 M h35
    refine kr_bipush (10 : Int32) dX8_loves_86 (k := ?_)
    refine kr_iload 0 dX8_loves_88 rfl (k := ?_)
    refine kr_imul dX8_loves_90 (k := ?_)
    refine kr_iload 1 dX8_loves_91 rfl (k := ?_)
    refine kr_iadd dX8_loves_93 (k := ?_)
    exact kr_ireturn dX8_loves_94 ⟨rfl, rfl, _, rfl, h35⟩
  · intro v1 v2 M h36
    refine kr_iload_n 0 dX8_loves_104 rfl (k := ?_)
    refine kr_iconst (-1 : Int32) dX8_loves_105 (k := ?_)
    refine kr_icmp_ne 113 dX8_loves_106 (fun c37 => ?_) (fun c37 => ?_)
    · have h38 := h36.1 c37
      refine kr_iconst (-1 : Int32) dX8_loves_113 (k := ?_)
      exact kr_ireturn dX8_loves_114 ⟨rfl, rfl, _, rfl, h38⟩
    · have h39 := h36.2 c37
      refine kr_iload_n 1 dX8_loves_109 rfl (k := ?_)
      refine kr_goto 114 dX8_loves_110 ?_
      exact kr_ireturn dX8_loves_114 ⟨rfl, rfl, _, rfl, h39⟩
set_option maxRecDepth 100000 in
set_option maxHeartbeats 4000000 in
theorem sp_X8_mayBe {G : kg_G} {E : State → Array Value → Prop} {R : kg_R} {n : Nat} {K : Int32 → kg_M → Prop} (ho : kg_O8 R n 117) {M : kg_M} (h1 : wp_X8_mayBe  M K) : kg_Run G E qX8_mayBe 2 0 [(0, .ref (kg_b G + 117))] [] M R n 0 0 (kg_I R n K) := by
  unfold wp_X8_mayBe at h1
  refine kr_aload_n 0 dX8_mayBe_0 rfl (k := ?_)
  refine kn_callVi [] [] mvX8_couldBe lkM_X8_306 (kg_o8a ho) rfl (kg_o8n ho) dX8_mayBe_1 (sp_X8_couldBe ho h1) (fun r4 M2 h3 => ?_)
  exact kr_ireturn dX8_mayBe_4 ⟨rfl, rfl, _, rfl, h3⟩
set_option maxRecDepth 100000 in
set_option maxHeartbeats 4000000 in
theorem sp_X8_oil {G : kg_G} {E : State → Array Value → Prop} {R : kg_R} {n : Nat} {K : Int32 → kg_M → Prop} (ho : kg_O8 R n 117) {v1 : Int32} {M : kg_M} (h1 : wp_X8_oil v1 M K) : kg_Run G E qX8_oil 2 0 [(0, .ref (kg_b G + 117)), (1, .int v1)] [] M R n 0 0 (kg_I R n K) := by
  unfold wp_X8_oil at h1
  refine kr_aload_n 0 dX8_oil_0 rfl (k := ?_)
  refine kr_iload_n 1 dX8_oil_1 rfl (k := ?_)
  refine kn_callVz [.int v1] [] mvX8_isGate lkM_X8_179 (kg_o8a ho) rfl (kg_o8n ho) dX8_oil_2 (sp_X8_isGate ho h1) (fun r4 M2 _ h3 => ?_)
  refine kr_if_ne 11 dX8_oil_5 (fun c5 => ?_) (fun c5 => ?_)
  · have h6 := h3.1 c5
    refine kr_aload_n 0 dX8_oil_11 rfl (k := ?_)
    refine kn_callVv [] [] mvX8_remember lkM_X8_213 (kg_o8a ho) rfl (kg_o8n ho) dX8_oil_12 (sp_X8_remember ho h6) (fun M8 h9 => ?_)
    refine kr_aload_n 0 dX8_oil_15 rfl (k := ?_)
    refine kr_getR 4 ckX8 lkF_X8_16 rfl (kg_o8a ho) (kg_o8n ho) (kg_o8r4 ho) dX8_oil_16 (k := ?_)
    refine kr_bipush (26 : Int32) dX8_oil_19 (k := ?_)
    refine kr_iload_n 1 dX8_oil_21 rfl (k := ?_)
    refine kr_iadd dX8_oil_22 (k := ?_)
    obtain ⟨h11, h12⟩ := h9
    refine kr_iald (kg_o8s4 ho) (kg_o8m4 ho) h11 dX8_oil_23 (k := ?_)
    refine kr_istore_n [(2, .int (M8 120 ((26 : Int32) + v1).toNatClampNeg)), (0, .ref (kg_b G + 117)), (1, .int v1)] dX8_oil_24 (k := ?_)
    refine kr_aload_n 1 dX8_oil_25 rfl (k := ?_)
    refine kr_getR 4 ckX8 lkF_X8_16 rfl (kg_o8a ho) (kg_o8n ho) (kg_o8r4 ho) dX8_oil_26 (k := ?_)
    refine kr_bipush (26 : Int32) dX8_oil_29 (k := ?_)
    refine kr_iload_n 2 dX8_oil_31 rfl (k := ?_)
    refine kr_iadd dX8_oil_32 (k := ?_)
    refine kr_iconst (0 : Int32) dX8_oil_33 (k := ?_)
    obtain ⟨h13, h14⟩ := h12
    refine kn_iast (kg_o8s4 ho) (kg_o8m4 ho) h13 dX8_oil_34 (fun M15 e16 => ?_)
    have h17 := h14 M15 e16
    refine kr_aload_n 1 dX8_oil_35 rfl (k := ?_)
    refine kr_getR 4 ckX8 lkF_X8_16 rfl (kg_o8a ho) (kg_o8n ho) (kg_o8r4 ho) dX8_oil_36 (k := ?_)
    refine kr_bipush (21 : Int32) dX8_oil_39 (k := ?_)
    refine kr_iload_n 2 dX8_oil_41 rfl (k := ?_)
    refine kr_iadd dX8_oil_42 (k := ?_)
    refine kr_iconst (0 : Int32) dX8_oil_43 (k := ?_)
    obtain ⟨h18, h19⟩ := h17
    refine kn_iast (kg_o8s4 ho) (kg_o8m4 ho) h18 dX8_oil_44 (fun M20 e21 => ?_)
    have h22 := h19 M20 e21
    refine kr_iload_n 0 dX8_oil_45 rfl (k := ?_)
    exact kr_ireturn dX8_oil_46 ⟨rfl, rfl, _, rfl, h22⟩
  · have h7 := h3.2 c5
    refine kr_ldc dX8_oil_8 lkC_X8_183 (k := ?_)
    exact kr_ireturn dX8_oil_10 ⟨rfl, rfl, _, rfl, h7⟩
set_option maxRecDepth 100000 in
set_option maxHeartbeats 4000000 in
theorem sJ_X8_oilFor_93 {G : kg_G} {E : State → Array Value → Prop} {R : kg_R} {n : Nat} {K : Int32 → kg_M → Prop} (ho : kg_O8 R n 117) {Kb : Int32 → Int32 → Int32 → Int32 → Int32 → Int32 → kg_M → Prop} {Kx119 : Int32 → Int32 → Int32 → kg_M → Prop} (hKb : ∀ (v1 : Int32) (v2 : Int32) (v3 : Int32) (v4 : Int32) (v5 : Int32) (v6 : Int32) (M : kg_M), Kb v1 v2 v3 v4 v5 v6 M → kg_Run G E qX8_oilFor 1 61 [(0, .ref (kg_b G + 117)), (1, .int v1), (2, .int v2), (3, .int v3), (4, .int v4), (5, .int v5), (6, .int v6)] [] M R n 0 0 (kg_I R n K)) (hKx119 : ∀ (v1 : Int32) (v2 : Int32) (v3 : Int32) (M : kg_M), Kx119 v1 v2 v3 M → kg_Run G E qX8_oilFor 1 119 [(0, .ref (kg_b G + 117)), (1, .int v1), (2, .int v2), (3, .int v3)] [] M R n 0 0 (kg_I R n K)) (v1 : Int32) (v2 : Int32) (v3 : Int32) (v6 : Int32) (s0 : Int32) (M : kg_M) (h30 : wJ_X8_oilFor_93  Kb Kx119 K v1 v2 v3 v6 s0 M) : kg_Run G E qX8_oilFor 1 93 [(0, .ref (kg_b G + 117)), (1, .int v1), (2, .int v2), (3, .int v3), (6, .int v6)] [.int s0] M R n 0 0 (kg_I R n K) := by
  unfold wJ_X8_oilFor_93 at h30
  refine kr_istore [(4, .int s0), (0, .ref (kg_b G + 117)), (1, .int v1), (2, .int v2), (3, .int v3), (6, .int v6)] dX8_oilFor_93 (k := ?_)
  refine kr_iload 0 dX8_oilFor_95 rfl (k := ?_)
  refine kr_aload_n 1 dX8_oilFor_97 rfl (k := ?_)
  refine kr_getR 1 ckX8 lkF_X8_7 rfl (kg_o8a ho) (kg_o8n ho) (kg_o8r1 ho) dX8_oilFor_98 (k := ?_)
  refine kr_iload_n 4 dX8_oilFor_101 rfl (k := ?_)
  obtain ⟨h31, h32⟩ := h30
  refine kr_iald (kg_o8s1 ho) (kg_o8m1 ho) h31 dX8_oilFor_102 (k := ?_)
  refine kr_icmp_lt 110 dX8_oilFor_103 (fun c33 => ?_) (fun c33 => ?_)
  · have h34 := h32.1 c33
    refine kr_iconst (0 : Int32) dX8_oilFor_110 (k := ?_)
    refine kr_istore [(5, .int (0 : Int32)), (4, .int s0), (0, .ref (kg_b G + 117)), (1, .int v1), (2, .int v2), (3, .int v3), (6, .int v6)] dX8_oilFor_111 (k := ?_)
    refine kr_iinc (1 : Int32) 6 [(6, .int (v6 + (1 : Int32))), (5, .int (0 : Int32)), (4, .int s0), (0, .ref (kg_b G + 117)), (1, .int v1), (2, .int v2), (3, .int v3)] dX8_oilFor_113 rfl (k := ?_)
    refine kr_goto 61 dX8_oilFor_116 ?_
    refine kr_sub [3, 4, 5, 6, 2, 1, 0] [(0, .ref (kg_b G + 117)), (1, .int v1), (2, .int v2), (3, .int v3), (4, .int s0), (5, .int (0 : Int32)), (6, .int (v6 + (1 : Int32)))] rfl ?_
    exact hKb v1 v2 v3 s0 (0 : Int32) (v6 + (1 : Int32)) M h34
  · have h35 := h32.2 c33
    refine kr_iconst (1 : Int32) dX8_oilFor_106 (k := ?_)
    refine kr_goto 111 dX8_oilFor_107 ?_
    refine kr_istore [(5, .int (1 : Int32)), (4, .int s0), (0, .ref (kg_b G + 117)), (1, .int v1), (2, .int v2), (3, .int v3), (6, .int v6)] dX8_oilFor_111 (k := ?_)
    refine kr_iinc (1 : Int32) 6 [(6, .int (v6 + (1 : Int32))), (5, .int (1 : Int32)), (4, .int s0), (0, .ref (kg_b G + 117)), (1, .int v1), (2, .int v2), (3, .int v3)] dX8_oilFor_113 rfl (k := ?_)
    refine kr_goto 61 dX8_oilFor_116 ?_
    refine kr_sub [3, 4, 5, 6, 2, 1, 0] [(0, .ref (kg_b G + 117)), (1, .int v1), (2, .int v2), (3, .int v3), (4, .int s0), (5, .int (1 : Int32)), (6, .int (v6 + (1 : Int32)))] rfl ?_
    exact hKb v1 v2 v3 s0 (1 : Int32) (v6 + (1 : Int32)) M h35
set_option maxRecDepth 100000 in
set_option maxHeartbeats 4000000 in
theorem sJ_X8_oilFor_78 {G : kg_G} {E : State → Array Value → Prop} {R : kg_R} {n : Nat} {K : Int32 → kg_M → Prop} (ho : kg_O8 R n 117) {Kb : Int32 → Int32 → Int32 → Int32 → Int32 → Int32 → kg_M → Prop} {Kx119 : Int32 → Int32 → Int32 → kg_M → Prop} (hKb : ∀ (v1 : Int32) (v2 : Int32) (v3 : Int32) (v4 : Int32) (v5 : Int32) (v6 : Int32) (M : kg_M), Kb v1 v2 v3 v4 v5 v6 M → kg_Run G E qX8_oilFor 1 61 [(0, .ref (kg_b G + 117)), (1, .int v1), (2, .int v2), (3, .int v3), (4, .int v4), (5, .int v5), (6, .int v6)] [] M R n 0 0 (kg_I R n K)) (hKx119 : ∀ (v1 : Int32) (v2 : Int32) (v3 : Int32) (M : kg_M), Kx119 v1 v2 v3 M → kg_Run G E qX8_oilFor 1 119 [(0, .ref (kg_b G + 117)), (1, .int v1), (2, .int v2), (3, .int v3)] [] M R n 0 0 (kg_I R n K)) (v1 : Int32) (v3 : Int32) (v4 : Int32) (v5 : Int32) (v6 : Int32) (s0 : Int32) (s1 : Int32) (M : kg_M) (h26 : wJ_X8_oilFor_78  Kb Kx119 K v1 v3 v4 v5 v6 s0 s1 M) : kg_Run G E qX8_oilFor 1 78 [(0, .ref (kg_b G + 117)), (1, .int v1), (3, .int v3), (4, .int v4), (5, .int v5), (6, .int v6)] [.int s1, .int s0] M R n 0 0 (kg_I R n K) := by
  unfold wJ_X8_oilFor_78 at h26
  refine kr_iadd dX8_oilFor_78 (k := ?_)
  refine kr_istore_n [(2, .int (s0 + s1)), (0, .ref (kg_b G + 117)), (1, .int v1), (3, .int v3), (4, .int v4), (5, .int v5), (6, .int v6)] dX8_oilFor_79 (k := ?_)
  refine kr_iload 5 dX8_oilFor_80 rfl (k := ?_)
  refine kr_if_eq 89 dX8_oilFor_82 (fun c27 => ?_) (fun c27 => ?_)
  · have h28 := h26.1 c27
    refine kr_iload 4 dX8_oilFor_89 rfl (k := ?_)
    refine kr_iconst (1 : Int32) dX8_oilFor_91 (k := ?_)
    refine kr_iadd dX8_oilFor_92 (k := ?_)
    refine kr_sub [1, 2, 0, 3, 6] [(0, .ref (kg_b G + 117)), (1, .int v1), (2, .int (s0 + s1)), (3, .int v3), (6, .int v6)] rfl ?_
    exact sJ_X8_oilFor_93 ho hKb hKx119 v1 (s0 + s1) v3 v6 (v4 + (1 : Int32)) M h28
  · have h29 := h26.2 c27
    refine kr_iconst (1 : Int32) dX8_oilFor_85 (k := ?_)
    refine kr_goto 93 dX8_oilFor_86 ?_
    refine kr_sub [1, 2, 0, 3, 6] [(0, .ref (kg_b G + 117)), (1, .int v1), (2, .int (s0 + s1)), (3, .int v3), (6, .int v6)] rfl ?_
    exact sJ_X8_oilFor_93 ho hKb hKx119 v1 (s0 + s1) v3 v6 (1 : Int32) M h29
set_option maxRecDepth 100000 in
set_option maxHeartbeats 4000000 in
theorem sL_X8_oilFor_61 {G : kg_G} {E : State → Array Value → Prop} {R : kg_R} {n : Nat} {K : Int32 → kg_M → Prop} (ho : kg_O8 R n 117) {Kx119 : Int32 → Int32 → Int32 → kg_M → Prop} (hKx119 : ∀ (v1 : Int32) (v2 : Int32) (v3 : Int32) (M : kg_M), Kx119 v1 v2 v3 M → kg_Run G E qX8_oilFor 1 119 [(0, .ref (kg_b G + 117)), (1, .int v1), (2, .int v2), (3, .int v3)] [] M R n 0 0 (kg_I R n K)) : ∀ (f : Nat) (v1 : Int32) (v2 : Int32) (v3 : Int32) (v4 : Int32) (v5 : Int32) (v6 : Int32) (M : kg_M), wL_X8_oilFor_61  Kx119 K f v1 v2 v3 v4 v5 v6 M → kg_Run G E qX8_oilFor 1 61 [(0, .ref (kg_b G + 117)), (1, .int v1), (2, .int v2), (3, .int v3), (4, .int v4), (5, .int v5), (6, .int v6)] [] M R n 0 0 (kg_I R n K) := by
  intro f
  induction f with
  | zero => intro v1 v2 v3 v4 v5 v6 M h0; exact h0.elim
  | succ f ih =>
    intro v1 v2 v3 v4 v5 v6 M h19
    rw [wL_X8_oilFor_61] at h19
    refine kr_iload 6 dX8_oilFor_61 rfl (k := ?_)
    refine kr_iload_n 1 dX8_oilFor_63 rfl (k := ?_)
    refine kr_icmp_ge 119 dX8_oilFor_64 (fun c20 => ?_) (fun c20 => ?_)
    · have h21 := h19.1 c20
      refine kr_sub [0, 1, 2, 3] [(0, .ref (kg_b G + 117)), (1, .int v1), (2, .int v2), (3, .int v3)] rfl ?_
      exact hKx119 v1 v2 v3 M h21
    · have h22 := h19.2 c20
      refine kr_iload_n 2 dX8_oilFor_67 rfl (k := ?_)
      refine kr_iload 5 dX8_oilFor_68 rfl (k := ?_)
      refine kr_if_eq 77 dX8_oilFor_70 (fun c23 => ?_) (fun c23 => ?_)
      · have h24 := h22.1 c23
        refine kr_iconst (0 : Int32) dX8_oilFor_77 (k := ?_)
        refine kr_sub [0, 1, 3, 4, 5, 6] [(0, .ref (kg_b G + 117)), (1, .int v1), (3, .int v3), (4, .int v4), (5, .int v5), (6, .int v6)] rfl ?_
        exact sJ_X8_oilFor_78 ho ih hKx119 v1 v3 v4 v5 v6 v2 (0 : Int32) M h24
      · have h25 := h22.2 c23
        refine kr_iconst (1 : Int32) dX8_oilFor_73 (k := ?_)
        refine kr_goto 78 dX8_oilFor_74 ?_
        refine kr_sub [0, 1, 3, 4, 5, 6] [(0, .ref (kg_b G + 117)), (1, .int v1), (3, .int v3), (4, .int v4), (5, .int v5), (6, .int v6)] rfl ?_
        exact sJ_X8_oilFor_78 ho ih hKx119 v1 v3 v4 v5 v6 v2 (1 : Int32) M h25
set_option maxRecDepth 100000 in
set_option maxHeartbeats 4000000 in
theorem sL_X8_oilFor_19 {G : kg_G} {E : State → Array Value → Prop} {R : kg_R} {n : Nat} {K : Int32 → kg_M → Prop} (ho : kg_O8 R n 117) {Kx125 : Int32 → kg_M → Prop} (hKx125 : ∀ (v2 : Int32) (M : kg_M), Kx125 v2 M → kg_Run G E qX8_oilFor 1 125 [(2, .int v2)] [] M R n 0 0 (kg_I R n K)) : ∀ (f : Nat) (v1 : Int32) (v2 : Int32) (v3 : Int32) (M : kg_M), wL_X8_oilFor_19  Kx125 K f v1 v2 v3 M → kg_Run G E qX8_oilFor 1 19 [(0, .ref (kg_b G + 117)), (1, .int v1), (2, .int v2), (3, .int v3)] [] M R n 0 0 (kg_I R n K) := by
  intro f
  induction f with
  | zero => intro v1 v2 v3 M h0; exact h0.elim
  | succ f ih =>
    intro v1 v2 v3 M h8
    rw [wL_X8_oilFor_19] at h8
    refine kr_iload_n 3 dX8_oilFor_19 rfl (k := ?_)
    refine kr_aload_n 0 dX8_oilFor_20 rfl (k := ?_)
    refine kr_getI 0 ckX8 lkF_X8_87 rfl (kg_o8a ho) (kg_o8n ho) dX8_oilFor_21 (k := ?_)
    refine kr_icmp_ge 125 dX8_oilFor_24 (fun c9 => ?_) (fun c9 => ?_)
    · have h10 := h8.1 c9
      refine kr_sub [2] [(2, .int v2)] rfl ?_
      exact hKx125 v2 M h10
    · have h11 := h8.2 c9
      refine kr_aload_n 0 dX8_oilFor_27 rfl (k := ?_)
      refine kr_getR 4 ckX8 lkF_X8_16 rfl (kg_o8a ho) (kg_o8n ho) (kg_o8r4 ho) dX8_oilFor_28 (k := ?_)
      refine kr_bipush (21 : Int32) dX8_oilFor_31 (k := ?_)
      refine kr_iload_n 3 dX8_oilFor_33 rfl (k := ?_)
      refine kr_iadd dX8_oilFor_34 (k := ?_)
      obtain ⟨h12, h13⟩ := h11
      refine kr_iald (kg_o8s4 ho) (kg_o8m4 ho) h12 dX8_oilFor_35 (k := ?_)
      refine kr_istore [(4, .int (M 120 ((21 : Int32) + v3).toNatClampNeg)), (0, .ref (kg_b G + 117)), (1, .int v1), (2, .int v2), (3, .int v3)] dX8_oilFor_36 (k := ?_)
      refine kr_aload_n 1 dX8_oilFor_38 rfl (k := ?_)
      refine kr_getR 4 ckX8 lkF_X8_16 rfl (kg_o8a ho) (kg_o8n ho) (kg_o8r4 ho) dX8_oilFor_39 (k := ?_)
      refine kr_bipush (26 : Int32) dX8_oilFor_42 (k := ?_)
      refine kr_iload_n 4 dX8_oilFor_44 rfl (k := ?_)
      refine kr_iadd dX8_oilFor_45 (k := ?_)
      obtain ⟨h14, h15⟩ := h13
      refine kr_iald (kg_o8s4 ho) (kg_o8m4 ho) h14 dX8_oilFor_46 (k := ?_)
      refine kr_iconst (1 : Int32) dX8_oilFor_47 (k := ?_)
      refine kr_icmp_ne 55 dX8_oilFor_48 (fun c16 => ?_) (fun c16 => ?_)
      · have h17 := h15.1 c16
        refine kr_iconst (0 : Int32) dX8_oilFor_55 (k := ?_)
        refine kr_istore [(5, .int (0 : Int32)), (4, .int (M 120 ((21 : Int32) + v3).toNatClampNeg)), (0, .ref (kg_b G + 117)), (1, .int v1), (2, .int v2), (3, .int v3)] dX8_oilFor_56 (k := ?_)
        refine kr_iconst (0 : Int32) dX8_oilFor_58 (k := ?_)
        refine kr_istore [(6, .int (0 : Int32)), (5, .int (0 : Int32)), (4, .int (M 120 ((21 : Int32) + v3).toNatClampNeg)), (0, .ref (kg_b G + 117)), (1, .int v1), (2, .int v2), (3, .int v3)] dX8_oilFor_59 (k := ?_)
        refine kr_sub [3, 4, 5, 6, 2, 1, 0] [(0, .ref (kg_b G + 117)), (1, .int v1), (2, .int v2), (3, .int v3), (4, .int (M 120 ((21 : Int32) + v3).toNatClampNeg)), (5, .int (0 : Int32)), (6, .int (0 : Int32))] rfl ?_
        obtain ⟨f37, h38⟩ := h17
        refine sL_X8_oilFor_61 ho ?_ f37 v1 v2 v3 (M 120 ((21 : Int32) + v3).toNatClampNeg) (0 : Int32) (0 : Int32) M h38
        · intro v1 v2 v3 M h36
          refine kr_iinc (1 : Int32) 3 [(3, .int (v3 + (1 : Int32))), (0, .ref (kg_b G + 117)), (1, .int v1), (2, .int v2)] dX8_oilFor_119 rfl (k := ?_)
          refine kr_goto 19 dX8_oilFor_122 ?_
          refine kr_sub [1, 2, 3, 0] [(0, .ref (kg_b G + 117)), (1, .int v1), (2, .int v2), (3, .int (v3 + (1 : Int32)))] rfl ?_
          exact ih v1 v2 (v3 + (1 : Int32)) M h36
      · have h18 := h15.2 c16
        refine kr_iconst (1 : Int32) dX8_oilFor_51 (k := ?_)
        refine kr_goto 56 dX8_oilFor_52 ?_
        refine kr_istore [(5, .int (1 : Int32)), (4, .int (M 120 ((21 : Int32) + v3).toNatClampNeg)), (0, .ref (kg_b G + 117)), (1, .int v1), (2, .int v2), (3, .int v3)] dX8_oilFor_56 (k := ?_)
        refine kr_iconst (0 : Int32) dX8_oilFor_58 (k := ?_)
        refine kr_istore [(6, .int (0 : Int32)), (5, .int (1 : Int32)), (4, .int (M 120 ((21 : Int32) + v3).toNatClampNeg)), (0, .ref (kg_b G + 117)), (1, .int v1), (2, .int v2), (3, .int v3)] dX8_oilFor_59 (k := ?_)
        refine kr_sub [3, 4, 5, 6, 2, 1, 0] [(0, .ref (kg_b G + 117)), (1, .int v1), (2, .int v2), (3, .int v3), (4, .int (M 120 ((21 : Int32) + v3).toNatClampNeg)), (5, .int (1 : Int32)), (6, .int (0 : Int32))] rfl ?_
        obtain ⟨f40, h41⟩ := h18
        refine sL_X8_oilFor_61 ho ?_ f40 v1 v2 v3 (M 120 ((21 : Int32) + v3).toNatClampNeg) (1 : Int32) (0 : Int32) M h41
        · intro v1 v2 v3 M h39
          refine kr_iinc (1 : Int32) 3 [(3, .int (v3 + (1 : Int32))), (0, .ref (kg_b G + 117)), (1, .int v1), (2, .int v2)] dX8_oilFor_119 rfl (k := ?_)
          refine kr_goto 19 dX8_oilFor_122 ?_
          refine kr_sub [1, 2, 3, 0] [(0, .ref (kg_b G + 117)), (1, .int v1), (2, .int v2), (3, .int (v3 + (1 : Int32)))] rfl ?_
          exact ih v1 v2 (v3 + (1 : Int32)) M h39
set_option maxRecDepth 100000 in
set_option maxHeartbeats 4000000 in
theorem sp_X8_oilFor {G : kg_G} {E : State → Array Value → Prop} {R : kg_R} {n : Nat} {K : Int32 → kg_M → Prop} (ho : kg_O8 R n 117) {v1 : Int32} {M : kg_M} (h1 : wp_X8_oilFor v1 M K) : kg_Run G E qX8_oilFor 1 0 [(0, .ref (kg_b G + 117)), (1, .int v1)] [] M R n 0 0 (kg_I R n K) := by
  unfold wp_X8_oilFor at h1
  refine kr_iload_n 1 dX8_oilFor_0 rfl (k := ?_)
  refine kr_i2l dX8_oilFor_1 (k := ?_)
  refine kr_lconst (0 : Int64) dX8_oilFor_2 (k := ?_)
  refine kr_ldc2 dX8_oilFor_3 lkD_X8_300 (k := ?_)
  refine kn_callSz [.long v1.toInt64, .long (0 : Int64), .long (200 : Int64)] [] msX8_in lkM_X8_90 dX8_oilFor_6 (sp_X8_in  h1) (fun r4 M2 _ h3 => ?_)
  refine kr_if_ne 15 dX8_oilFor_9 (fun c5 => ?_) (fun c5 => ?_)
  · have h6 := h3.1 c5
    refine kr_iconst (0 : Int32) dX8_oilFor_15 (k := ?_)
    refine kr_istore_n [(2, .int (0 : Int32)), (0, .ref (kg_b G + 117)), (1, .int v1)] dX8_oilFor_16 (k := ?_)
    refine kr_iconst (0 : Int32) dX8_oilFor_17 (k := ?_)
    refine kr_istore_n [(3, .int (0 : Int32)), (2, .int (0 : Int32)), (0, .ref (kg_b G + 117)), (1, .int v1)] dX8_oilFor_18 (k := ?_)
    refine kr_sub [2, 3, 1, 0] [(0, .ref (kg_b G + 117)), (1, .int v1), (2, .int (0 : Int32)), (3, .int (0 : Int32))] rfl ?_
    obtain ⟨f43, h44⟩ := h6
    refine sL_X8_oilFor_19 ho ?_ f43 v1 (0 : Int32) (0 : Int32) M2 h44
    · intro v2 M h42
      refine kr_iload_n 0 dX8_oilFor_125 rfl (k := ?_)
      exact kr_ireturn dX8_oilFor_126 ⟨rfl, rfl, _, rfl, h42⟩
  · have h7 := h3.2 c5
    refine kr_ldc dX8_oilFor_12 lkC_X8_99 (k := ?_)
    exact kr_ireturn dX8_oilFor_14 ⟨rfl, rfl, _, rfl, h7⟩
set_option maxRecDepth 100000 in
set_option maxHeartbeats 4000000 in
theorem sp_X8_person {G : kg_G} {E : State → Array Value → Prop} {R : kg_R} {n : Nat} {K : Int32 → kg_M → Prop} (ho : kg_O8 R n 117) {v1 : Int32} {v2 : Int32} {M : kg_M} (h1 : wp_X8_person v1 v2 M K) : kg_Run G E qX8_person 3 0 [(0, .ref (kg_b G + 117)), (1, .int v1), (2, .int v2)] [] M R n 0 0 (kg_I R n K) := by
  unfold wp_X8_person at h1
  refine kr_aload_n 0 dX8_person_0 rfl (k := ?_)
  refine kr_iload_n 1 dX8_person_1 rfl (k := ?_)
  refine kn_callVz [.int v1] [] mvX8_isPerson lkM_X8_187 (kg_o8a ho) rfl (kg_o8n ho) dX8_person_2 (sp_X8_isPerson ho h1) (fun r4 M2 _ h3 => ?_)
  refine kr_if_ne 11 dX8_person_5 (fun c5 => ?_) (fun c5 => ?_)
  · have h6 := h3.1 c5
    refine kr_iload_n 2 dX8_person_11 rfl (k := ?_)
    by_cases c9 : v2 = (0 : Int32)
    · have h10 := h6.1 c9
      refine kr_tableIn (off := 32) 44 dX8_person_12 (by rw [c9]; decide) (by rw [c9]; decide) (by rw [c9]; decide) (by decide) ?_
      refine kr_aload_n 0 dX8_person_44 rfl (k := ?_)
      refine kr_getR 4 ckX8 lkF_X8_16 rfl (kg_o8a ho) (kg_o8n ho) (kg_o8r4 ho) dX8_person_45 (k := ?_)
      refine kr_iload_n 1 dX8_person_48 rfl (k := ?_)
      obtain ⟨h12, h13⟩ := h10
      refine kr_iald (kg_o8s4 ho) (kg_o8m4 ho) h12 dX8_person_49 (k := ?_)
      exact kr_ireturn dX8_person_50 ⟨rfl, rfl, _, rfl, h13⟩
    · have h11 := h6.2 c9
      by_cases c14 : v2 = (1 : Int32)
      · have h15 := h11.1 c14
        refine kr_tableIn (off := 39) 51 dX8_person_12 (by rw [c14]; decide) (by rw [c14]; decide) (by rw [c14]; decide) (by decide) ?_
        refine kr_aload_n 0 dX8_person_51 rfl (k := ?_)
        refine kr_getR 4 ckX8 lkF_X8_16 rfl (kg_o8a ho) (kg_o8n ho) (kg_o8r4 ho) dX8_person_52 (k := ?_)
        refine kr_bipush (7 : Int32) dX8_person_55 (k := ?_)
        refine kr_iload_n 1 dX8_person_57 rfl (k := ?_)
        refine kr_iadd dX8_person_58 (k := ?_)
        obtain ⟨h17, h18⟩ := h15
        refine kr_iald (kg_o8s4 ho) (kg_o8m4 ho) h17 dX8_person_59 (k := ?_)
        exact kr_ireturn dX8_person_60 ⟨rfl, rfl, _, rfl, h18⟩
      · have h16 := h11.2 c14
        by_cases c19 : v2 = (2 : Int32)
        · have h20 := h16.1 c19
          refine kr_tableIn (off := 49) 61 dX8_person_12 (by rw [c19]; decide) (by rw [c19]; decide) (by rw [c19]; decide) (by decide) ?_
          refine kr_aload_n 0 dX8_person_61 rfl (k := ?_)
          refine kr_getR 4 ckX8 lkF_X8_16 rfl (kg_o8a ho) (kg_o8n ho) (kg_o8r4 ho) dX8_person_62 (k := ?_)
          refine kr_bipush (14 : Int32) dX8_person_65 (k := ?_)
          refine kr_iload_n 1 dX8_person_67 rfl (k := ?_)
          refine kr_iadd dX8_person_68 (k := ?_)
          obtain ⟨h22, h23⟩ := h20
          refine kr_iald (kg_o8s4 ho) (kg_o8m4 ho) h22 dX8_person_69 (k := ?_)
          exact kr_ireturn dX8_person_70 ⟨rfl, rfl, _, rfl, h23⟩
        · have h21 := h16.2 c19
          by_cases c24 : v2 = (3 : Int32)
          · have h25 := h21.1 c24
            refine kr_tableIn (off := 59) 71 dX8_person_12 (by rw [c24]; decide) (by rw [c24]; decide) (by rw [c24]; decide) (by decide) ?_
            refine kr_aload_n 0 dX8_person_71 rfl (k := ?_)
            refine kr_iload_n 1 dX8_person_72 rfl (k := ?_)
            refine kn_callVi [.int v1] [] mvX8_whomWould lkM_X8_190 (kg_o8a ho) rfl (kg_o8n ho) dX8_person_73 (sp_X8_whomWould ho h25) (fun r29 M27 h28 => ?_)
            exact kr_ireturn dX8_person_76 ⟨rfl, rfl, _, rfl, h28⟩
          · have h26 := h21.2 c24
            have e0_ : v2.toInt ≠ (0 : Int) := fun e => c9 (Int32.toInt_inj.mp (e.trans (by decide)))
            have e1_ : v2.toInt ≠ (1 : Int) := fun e => c14 (Int32.toInt_inj.mp (e.trans (by decide)))
            have e2_ : v2.toInt ≠ (2 : Int) := fun e => c19 (Int32.toInt_inj.mp (e.trans (by decide)))
            have e3_ : v2.toInt ≠ (3 : Int) := fun e => c24 (Int32.toInt_inj.mp (e.trans (by decide)))
            refine kr_tableOut 77 dX8_person_12 (by omega) (by decide) ?_
            refine kr_ldc dX8_person_77 lkC_X8_99 (k := ?_)
            exact kr_ireturn dX8_person_79 ⟨rfl, rfl, _, rfl, h26⟩
  · have h7 := h3.2 c5
    refine kr_ldc dX8_person_8 lkC_X8_183 (k := ?_)
    exact kr_ireturn dX8_person_10 ⟨rfl, rfl, _, rfl, h7⟩
set_option maxRecDepth 100000 in
set_option maxHeartbeats 4000000 in
theorem sp_X8_seed {G : kg_G} {E : State → Array Value → Prop} {R : kg_R} {n : Nat} {K : Int32 → kg_M → Prop} (ho : kg_O8 R n 117) {v1 : Int32} {M : kg_M} (h1 : wp_X8_seed v1 M K) : kg_Run G E qX8_seed 0 0 [(0, .ref (kg_b G + 117)), (1, .int v1)] [] M R n 0 0 (kg_I R n K) := by
  unfold wp_X8_seed at h1
  refine kr_iload_n 1 dX8_seed_0 rfl (k := ?_)
  refine kr_if_ge 7 dX8_seed_1 (fun c2 => ?_) (fun c2 => ?_)
  · have h3 := h1.1 c2
    refine kr_aload_n 0 dX8_seed_7 rfl (k := ?_)
    refine kr_getI 5 ckX8 lkF_X8_222 rfl (kg_o8a ho) (kg_o8n ho) dX8_seed_8 (k := ?_)
    refine kr_istore_n [(2, .int (M 117 5)), (0, .ref (kg_b G + 117)), (1, .int v1)] dX8_seed_11 (k := ?_)
    refine kr_aload_n 1 dX8_seed_12 rfl (k := ?_)
    refine kr_iload_n 2 dX8_seed_13 rfl (k := ?_)
    refine kn_putI 5 ckX8 lkF_X8_222 rfl rfl rfl rfl (kg_o8a ho) (kg_o8n ho) dX8_seed_14 (fun M5 e6 => ?_)
    have h7 := h3 M5 e6
    refine kr_iload_n 0 dX8_seed_17 rfl (k := ?_)
    exact kr_ireturn dX8_seed_18 ⟨rfl, rfl, _, rfl, h7⟩
  · have h4 := h1.2 c2
    refine kr_ldc dX8_seed_4 lkC_X8_99 (k := ?_)
    exact kr_ireturn dX8_seed_6 ⟨rfl, rfl, _, rfl, h4⟩
set_option maxRecDepth 100000 in
set_option maxHeartbeats 4000000 in
theorem sJ_X8_sides_51 {G : kg_G} {E : State → Array Value → Prop} {R : kg_R} {n : Nat} {K : Int32 → kg_M → Prop} (ho : kg_O8 R n 117) {Kb : Int32 → Int32 → Int32 → kg_M → Prop} {Kx58 : Int32 → Int32 → kg_M → Prop} (hKb : ∀ (v1 : Int32) (v2 : Int32) (v3 : Int32) (M : kg_M), Kb v1 v2 v3 M → kg_Run G E qX8_sides 4 25 [(0, .ref (kg_b G + 117)), (1, .int v1), (2, .int v2), (3, .int v3)] [] M R n 0 0 (kg_I R n K)) (hKx58 : ∀ (v1 : Int32) (v2 : Int32) (M : kg_M), Kx58 v1 v2 M → kg_Run G E qX8_sides 4 58 [(0, .ref (kg_b G + 117)), (1, .int v1), (2, .int v2)] [] M R n 0 0 (kg_I R n K)) (v1 : Int32) (v2 : Int32) (v3 : Int32) (s1 : Int32) (s2 : Int32) (M : kg_M) (h27 : wJ_X8_sides_51  Kb Kx58 K v1 v2 v3 s1 s2 M) : kg_Run G E qX8_sides 4 51 [(0, .ref (kg_b G + 117)), (1, .int v1), (2, .int v2), (3, .int v3)] [.int s2, .int s1, .ref (kg_b G + 134)] M R n 0 0 (kg_I R n K) := by
  unfold wJ_X8_sides_51 at h27
  obtain ⟨h28, h29, h30⟩ := h27
  refine kn_zast (kg_o8s30 ho) (kg_o8m30 ho) h28 (kg_nz h29) dX8_sides_51 (fun M31 e32 => ?_)
  have h33 := h30 M31 e32
  refine kr_iinc (1 : Int32) 3 [(3, .int (v3 + (1 : Int32))), (0, .ref (kg_b G + 117)), (1, .int v1), (2, .int v2)] dX8_sides_52 rfl (k := ?_)
  refine kr_goto 25 dX8_sides_55 ?_
  refine kr_sub [1, 2, 3, 0] [(0, .ref (kg_b G + 117)), (1, .int v1), (2, .int v2), (3, .int (v3 + (1 : Int32)))] rfl ?_
  exact hKb v1 v2 (v3 + (1 : Int32)) M31 h33
set_option maxRecDepth 100000 in
set_option maxHeartbeats 4000000 in
theorem sL_X8_sides_25 {G : kg_G} {E : State → Array Value → Prop} {R : kg_R} {n : Nat} {K : Int32 → kg_M → Prop} (ho : kg_O8 R n 117) {Kx58 : Int32 → Int32 → kg_M → Prop} (hKx58 : ∀ (v1 : Int32) (v2 : Int32) (M : kg_M), Kx58 v1 v2 M → kg_Run G E qX8_sides 4 58 [(0, .ref (kg_b G + 117)), (1, .int v1), (2, .int v2)] [] M R n 0 0 (kg_I R n K)) : ∀ (f : Nat) (v1 : Int32) (v2 : Int32) (v3 : Int32) (M : kg_M), wL_X8_sides_25  Kx58 K f v1 v2 v3 M → kg_Run G E qX8_sides 4 25 [(0, .ref (kg_b G + 117)), (1, .int v1), (2, .int v2), (3, .int v3)] [] M R n 0 0 (kg_I R n K) := by
  intro f
  induction f with
  | zero => intro v1 v2 v3 M h0; exact h0.elim
  | succ f ih =>
    intro v1 v2 v3 M h17
    rw [wL_X8_sides_25] at h17
    refine kr_iload_n 3 dX8_sides_25 rfl (k := ?_)
    refine kr_sipush (128 : Int32) dX8_sides_26 (k := ?_)
    refine kr_icmp_ge 58 dX8_sides_29 (fun c18 => ?_) (fun c18 => ?_)
    · have h19 := h17.1 c18
      refine kr_sub [0, 1, 2] [(0, .ref (kg_b G + 117)), (1, .int v1), (2, .int v2)] rfl ?_
      exact hKx58 v1 v2 M h19
    · have h20 := h17.2 c18
      refine kr_aload_n 0 dX8_sides_32 rfl (k := ?_)
      refine kr_getR 30 ckX8 lkF_X8_62 rfl (kg_o8a ho) (kg_o8n ho) (kg_o8r30 ho) dX8_sides_33 (k := ?_)
      refine kr_iload_n 3 dX8_sides_36 rfl (k := ?_)
      refine kr_iload_n 3 dX8_sides_37 rfl (k := ?_)
      refine kr_aload_n 0 dX8_sides_38 rfl (k := ?_)
      refine kr_iconst (0 : Int32) dX8_sides_39 (k := ?_)
      refine kn_callVi [.int (0 : Int32)] [.int v3, .int v3, .ref (kg_b G + 134)] mvX8_allWith lkM_X8_169 (kg_o8a ho) rfl (kg_o8n ho) dX8_sides_40 (sp_X8_allWith ho h20) (fun r23 M21 h22 => ?_)
      refine kr_icmp_ne 50 dX8_sides_43 (fun c24 => ?_) (fun c24 => ?_)
      · have h25 := h22.1 c24
        refine kr_iconst (0 : Int32) dX8_sides_50 (k := ?_)
        refine kr_sub [0, 1, 2, 3] [(0, .ref (kg_b G + 117)), (1, .int v1), (2, .int v2), (3, .int v3)] rfl ?_
        exact sJ_X8_sides_51 ho ih hKx58 v1 v2 v3 v3 (0 : Int32) M21 h25
      · have h26 := h22.2 c24
        refine kr_iconst (1 : Int32) dX8_sides_46 (k := ?_)
        refine kr_goto 51 dX8_sides_47 ?_
        refine kr_sub [0, 1, 2, 3] [(0, .ref (kg_b G + 117)), (1, .int v1), (2, .int v2), (3, .int v3)] rfl ?_
        exact sJ_X8_sides_51 ho ih hKx58 v1 v2 v3 v3 (1 : Int32) M21 h26
set_option maxRecDepth 100000 in
set_option maxHeartbeats 4000000 in
theorem sL_X8_sides_68 {G : kg_G} {E : State → Array Value → Prop} {R : kg_R} {n : Nat} {K : Int32 → kg_M → Prop} (ho : kg_O8 R n 117) {Kx97 : Int32 → Int32 → kg_M → Prop} (hKx97 : ∀ (v3 : Int32) (v4 : Int32) (M : kg_M), Kx97 v3 v4 M → kg_Run G E qX8_sides 4 97 [(3, .int v3), (4, .int v4)] [] M R n 0 0 (kg_I R n K)) : ∀ (f : Nat) (v1 : Int32) (v2 : Int32) (v3 : Int32) (v4 : Int32) (M : kg_M), wL_X8_sides_68  Kx97 K f v1 v2 v3 v4 M → kg_Run G E qX8_sides 4 68 [(0, .ref (kg_b G + 117)), (1, .int v1), (2, .int v2), (3, .int v3), (4, .int v4)] [] M R n 0 0 (kg_I R n K) := by
  intro f
  induction f with
  | zero => intro v1 v2 v3 v4 M h0; exact h0.elim
  | succ f ih =>
    intro v1 v2 v3 v4 M h38
    rw [wL_X8_sides_68] at h38
    refine kr_iload 4 dX8_sides_68 rfl (k := ?_)
    refine kr_if_ne 97 dX8_sides_70 (fun c39 => ?_) (fun c39 => ?_)
    · have h40 := h38.1 c39
      refine kr_sub [3, 4] [(3, .int v3), (4, .int v4)] rfl ?_
      exact hKx97 v3 v4 M h40
    · have h41 := h38.2 c39
      refine kr_iload_n 3 dX8_sides_73 rfl (k := ?_)
      refine kr_bipush (40 : Int32) dX8_sides_74 (k := ?_)
      refine kr_icmp_ge 97 dX8_sides_76 (fun c42 => ?_) (fun c42 => ?_)
      · have h43 := h41.1 c42
        refine kr_sub [3, 4] [(3, .int v3), (4, .int v4)] rfl ?_
        exact hKx97 v3 v4 M h43
      · have h44 := h41.2 c42
        refine kr_aload_n 0 dX8_sides_79 rfl (k := ?_)
        refine kn_callVv [] [] mvX8_anHour lkM_X8_288 (kg_o8a ho) rfl (kg_o8n ho) dX8_sides_80 (sp_X8_anHour ho h44) (fun M45 h46 => ?_)
        refine kr_iinc (1 : Int32) 3 [(3, .int (v3 + (1 : Int32))), (0, .ref (kg_b G + 117)), (1, .int v1), (2, .int v2), (4, .int v4)] dX8_sides_83 rfl (k := ?_)
        refine kr_aload_n 1 dX8_sides_86 rfl (k := ?_)
        refine kr_iload_n 2 dX8_sides_87 rfl (k := ?_)
        refine kr_iload_n 3 dX8_sides_88 rfl (k := ?_)
        refine kn_callVz [.int v1, .int v2] [] mvX8_isThere lkM_X8_285 (kg_o8a ho) rfl (kg_o8n ho) dX8_sides_89 (sp_X8_isThere ho h46) (fun r50 M48 _ h49 => ?_)
        refine kr_istore [(4, .int r50), (3, .int (v3 + (1 : Int32))), (0, .ref (kg_b G + 117)), (1, .int v1), (2, .int v2)] dX8_sides_92 (k := ?_)
        refine kr_goto 68 dX8_sides_94 ?_
        refine kr_sub [2, 3, 4, 1, 0] [(0, .ref (kg_b G + 117)), (1, .int v1), (2, .int v2), (3, .int (v3 + (1 : Int32))), (4, .int r50)] rfl ?_
        exact ih v1 v2 (v3 + (1 : Int32)) r50 M48 h49
set_option maxRecDepth 100000 in
set_option maxHeartbeats 4000000 in
theorem sJ_X8_sides_97 {G : kg_G} {E : State → Array Value → Prop} {R : kg_R} {n : Nat} {K : Int32 → kg_M → Prop} (ho : kg_O8 R n 117) (v3 : Int32) (v4 : Int32) (M : kg_M) (h52 : wJ_X8_sides_97  K v3 v4 M) : kg_Run G E qX8_sides 4 97 [(3, .int v3), (4, .int v4)] [] M R n 0 0 (kg_I R n K) := by
  unfold wJ_X8_sides_97 at h52
  refine kr_iload 1 dX8_sides_97 rfl (k := ?_)
  refine kr_if_eq 106 dX8_sides_99 (fun c53 => ?_) (fun c53 => ?_)
  · have h54 := h52.1 c53
    refine kr_iconst (-1 : Int32) dX8_sides_106 (k := ?_)
    exact kr_ireturn dX8_sides_107 ⟨rfl, rfl, _, rfl, h54⟩
  · have h55 := h52.2 c53
    refine kr_iload_n 0 dX8_sides_102 rfl (k := ?_)
    refine kr_goto 107 dX8_sides_103 ?_
    exact kr_ireturn dX8_sides_107 ⟨rfl, rfl, _, rfl, h55⟩
set_option maxRecDepth 100000 in
set_option maxHeartbeats 4000000 in
theorem sp_X8_sides {G : kg_G} {E : State → Array Value → Prop} {R : kg_R} {n : Nat} {K : Int32 → kg_M → Prop} (ho : kg_O8 R n 117) {v1 : Int32} {v2 : Int32} {M : kg_M} (h1 : wp_X8_sides v1 v2 M K) : kg_Run G E qX8_sides 4 0 [(0, .ref (kg_b G + 117)), (1, .int v1), (2, .int v2)] [] M R n 0 0 (kg_I R n K) := by
  unfold wp_X8_sides at h1
  refine kr_aload_n 0 dX8_sides_0 rfl (k := ?_)
  refine kr_iload_n 1 dX8_sides_1 rfl (k := ?_)
  refine kn_callVz [.int v1] [] mvX8_isSet lkM_X8_279 (kg_o8a ho) rfl (kg_o8n ho) dX8_sides_2 (sp_X8_isSet ho h1) (fun r4 M2 _ h3 => ?_)
  refine kr_if_eq 16 dX8_sides_5 (fun c5 => ?_) (fun c5 => ?_)
  · have h6 := h3.1 c5
    refine kr_ldc dX8_sides_16 lkC_X8_183 (k := ?_)
    exact kr_ireturn dX8_sides_18 ⟨rfl, rfl, _, rfl, h6⟩
  · have h7 := h3.2 c5
    refine kr_aload_n 0 dX8_sides_8 rfl (k := ?_)
    refine kr_iload_n 2 dX8_sides_9 rfl (k := ?_)
    refine kn_callVz [.int v2] [] mvX8_isSet lkM_X8_279 (kg_o8a ho) rfl (kg_o8n ho) dX8_sides_10 (sp_X8_isSet ho h7) (fun r10 M8 _ h9 => ?_)
    refine kr_if_ne 19 dX8_sides_13 (fun c11 => ?_) (fun c11 => ?_)
    · have h12 := h9.1 c11
      refine kr_aload_n 0 dX8_sides_19 rfl (k := ?_)
      refine kn_callVv [] [] mvX8_findMasks lkM_X8_282 (kg_o8a ho) rfl (kg_o8n ho) dX8_sides_20 (sp_X8_findMasks ho h12) (fun M14 h15 => ?_)
      refine kr_iconst (0 : Int32) dX8_sides_23 (k := ?_)
      refine kr_istore_n [(3, .int (0 : Int32)), (0, .ref (kg_b G + 117)), (1, .int v1), (2, .int v2)] dX8_sides_24 (k := ?_)
      refine kr_sub [1, 2, 3, 0] [(0, .ref (kg_b G + 117)), (1, .int v1), (2, .int v2), (3, .int (0 : Int32))] rfl ?_
      obtain ⟨f58, h59⟩ := h15
      refine sL_X8_sides_25 ho ?_ f58 v1 v2 (0 : Int32) M14 h59
      · intro v1 v2 M h34
        refine kr_iconst (0 : Int32) dX8_sides_58 (k := ?_)
        refine kr_istore_n [(3, .int (0 : Int32)), (0, .ref (kg_b G + 117)), (1, .int v1), (2, .int v2)] dX8_sides_59 (k := ?_)
        refine kr_aload_n 1 dX8_sides_60 rfl (k := ?_)
        refine kr_iload_n 2 dX8_sides_61 rfl (k := ?_)
        refine kr_iload_n 3 dX8_sides_62 rfl (k := ?_)
        refine kn_callVz [.int v1, .int v2] [] mvX8_isThere lkM_X8_285 (kg_o8a ho) rfl (kg_o8n ho) dX8_sides_63 (sp_X8_isThere ho h34) (fun r37 M35 _ h36 => ?_)
        refine kr_istore [(4, .int r37), (3, .int (0 : Int32)), (0, .ref (kg_b G + 117)), (1, .int v1), (2, .int v2)] dX8_sides_66 (k := ?_)
        refine kr_sub [2, 3, 4, 1, 0] [(0, .ref (kg_b G + 117)), (1, .int v1), (2, .int v2), (3, .int (0 : Int32)), (4, .int r37)] rfl ?_
        obtain ⟨f56, h57⟩ := h36
        refine sL_X8_sides_68 ho ?_ f56 v1 v2 (0 : Int32) r37 M35 h57
        · intro v3 v4 M h51
          refine kr_sub [0, 1] [(3, .int v3), (4, .int v4)] rfl ?_
          exact sJ_X8_sides_97 ho v3 v4 M h51
    · have h13 := h9.2 c11
      refine kr_ldc dX8_sides_16 lkC_X8_183 (k := ?_)
      exact kr_ireturn dX8_sides_18 ⟨rfl, rfl, _, rfl, h13⟩
