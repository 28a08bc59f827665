set_option maxRecDepth 100000 in
set_option maxHeartbeats 4000000 in
theorem sL_X7_steady_55 {G : kg_G} {E : State → Array Value → Prop} {R : kg_R} {n : Nat} {L S : Nat} {K : Int32 → kg_M → Prop} (hk : kg_O7 R n L S) (hn : ¬ n < kg_all) {Kx93 : kg_M → Prop} {Kx101 : Int32 → kg_M → Prop} (hKx93 : ∀ (M : kg_M), Kx93 M → kg_Run G E qX7_steady 16 93 [] [] M R n 0 0 (kg_I R n K)) (hKx101 : ∀ (v1 : Int32) (M : kg_M), Kx101 v1 M → kg_Run G E qX7_steady 16 101 [(0, .ref (kg_b G + 0)), (1, .int v1)] [] M R n 0 0 (kg_I R n K)) : ∀ (f : Nat) (v1 : Int32) (v2 : Int32) (v3 : Int32) (M : kg_M), wL_X7_steady_55 L Kx93 Kx101 K f v1 v2 v3 M → kg_Run G E qX7_steady 16 55 [(0, .ref (kg_b G + 0)), (1, .int v1), (2, .int v2), (3, .int v3)] [] M R n 0 0 (kg_I R n K) := by
  intro f
  induction f with
  | zero => intro v1 v2 v3 M h0; exact h0.elim
  | succ f ih =>
    intro v1 v2 v3 M h15
    rw [wL_X7_steady_55] at h15
    refine kr_iload_n 3 dX7_steady_55 rfl (k := ?_)
    refine kr_aload_n 0 dX7_steady_56 rfl (k := ?_)
    refine kr_getR 10 ckX7 lkF_X7_69 rfl (kg_o7a hk) (kg_o7n hk) (kg_o7r10 hk) dX7_steady_57 (k := ?_)
    refine kr_getI 1 ckX0 lkF_X7_110 rfl (kg_o0a (kg_o7_land hk)) (kg_o0n (kg_o7_land hk)) dX7_steady_60 (k := ?_)
    refine kr_icmp_ge 101 dX7_steady_63 (fun c16 => ?_) (fun c16 => ?_)
    · have h17 := h15.1 c16
      refine kr_sub [0, 1] [(0, .ref (kg_b G + 0)), (1, .int v1)] rfl ?_
      exact hKx101 v1 M h17
    · have h18 := h15.2 c16
      refine kr_iload_n 2 dX7_steady_66 rfl (k := ?_)
      refine kr_iload_n 3 dX7_steady_67 rfl (k := ?_)
      refine kr_ishr dX7_steady_68 (k := ?_)
      refine kr_iconst (1 : Int32) dX7_steady_69 (k := ?_)
      refine kr_iand dX7_steady_70 (k := ?_)
      refine kr_iconst (1 : Int32) dX7_steady_71 (k := ?_)
      refine kr_icmp_ne 95 dX7_steady_72 (fun c19 => ?_) (fun c19 => ?_)
      · have h20 := h18.1 c19
        refine kr_iinc (1 : Int32) 3 [(3, .int (v3 + (1 : Int32))), (0, .ref (kg_b G + 0)), (1, .int v1), (2, .int v2)] dX7_steady_95 rfl (k := ?_)
        refine kr_goto 55 dX7_steady_98 ?_
        refine kr_sub [1, 2, 3, 0] [(0, .ref (kg_b G + 0)), (1, .int v1), (2, .int v2), (3, .int (v3 + (1 : Int32)))] rfl ?_
        exact ih v1 v2 (v3 + (1 : Int32)) M h20
      · have h21 := h18.2 c19
        refine kr_aload_n 0 dX7_steady_75 rfl (k := ?_)
        refine kr_iload_n 1 dX7_steady_76 rfl (k := ?_)
        refine kr_iload_n 3 dX7_steady_77 rfl (k := ?_)
        refine kn_callVz [.int v1, .int v3] [] mvX7_wouldRather lkM_X7_230 (kg_o7a hk) rfl (kg_o7n hk) dX7_steady_78 (sp_X7_wouldRather hk h21) (fun r24 M22 _ h23 => ?_)
        refine kr_if_eq 95 dX7_steady_81 (fun c25 => ?_) (fun c25 => ?_)
        · have h26 := h23.1 c25
          refine kr_iinc (1 : Int32) 3 [(3, .int (v3 + (1 : Int32))), (0, .ref (kg_b G + 0)), (1, .int v1), (2, .int v2)] dX7_steady_95 rfl (k := ?_)
          refine kr_goto 55 dX7_steady_98 ?_
          refine kr_sub [1, 2, 3, 0] [(0, .ref (kg_b G + 0)), (1, .int v1), (2, .int v2), (3, .int (v3 + (1 : Int32)))] rfl ?_
          exact ih v1 v2 (v3 + (1 : Int32)) M22 h26
        · have h27 := h23.2 c25
          refine kr_aload_n 0 dX7_steady_84 rfl (k := ?_)
          refine kr_iload_n 3 dX7_steady_85 rfl (k := ?_)
          refine kr_iload_n 1 dX7_steady_86 rfl (k := ?_)
          refine kn_callVz [.int v3, .int v1] [] mvX7_wouldRather lkM_X7_230 (kg_o7a hk) rfl (kg_o7n hk) dX7_steady_87 (sp_X7_wouldRather hk h27) (fun r30 M28 _ h29 => ?_)
          refine kr_if_eq 95 dX7_steady_90 (fun c31 => ?_) (fun c31 => ?_)
          · have h32 := h29.1 c31
            refine kr_iinc (1 : Int32) 3 [(3, .int (v3 + (1 : Int32))), (0, .ref (kg_b G + 0)), (1, .int v1), (2, .int v2)] dX7_steady_95 rfl (k := ?_)
            refine kr_goto 55 dX7_steady_98 ?_
            refine kr_sub [1, 2, 3, 0] [(0, .ref (kg_b G + 0)), (1, .int v1), (2, .int v2), (3, .int (v3 + (1 : Int32)))] rfl ?_
            exact ih v1 v2 (v3 + (1 : Int32)) M28 h32
          · have h33 := h29.2 c31
            refine kr_sub [] [] rfl ?_
            exact hKx93  M28 h33
set_option maxRecDepth 100000 in
set_option maxHeartbeats 4000000 in
theorem sL_X7_steady_24 {G : kg_G} {E : State → Array Value → Prop} {R : kg_R} {n : Nat} {L S : Nat} {K : Int32 → kg_M → Prop} (hk : kg_O7 R n L S) (hn : ¬ n < kg_all) {Kx93 : kg_M → Prop} {Kx107 : kg_M → Prop} (hKx93 : ∀ (M : kg_M), Kx93 M → kg_Run G E qX7_steady 16 93 [] [] M R n 0 0 (kg_I R n K)) (hKx107 : ∀ (M : kg_M), Kx107 M → kg_Run G E qX7_steady 16 107 [] [] M R n 0 0 (kg_I R n K)) : ∀ (f : Nat) (v1 : Int32) (M : kg_M), wL_X7_steady_24 L Kx93 Kx107 K f v1 M → kg_Run G E qX7_steady 16 24 [(0, .ref (kg_b G + 0)), (1, .int v1)] [] M R n 0 0 (kg_I R n K) := by
  intro f
  induction f with
  | zero => intro v1 M h0; exact h0.elim
  | succ f ih =>
    intro v1 M h8
    rw [wL_X7_steady_24] at h8
    refine kr_iload_n 1 dX7_steady_24 rfl (k := ?_)
    refine kr_aload_n 0 dX7_steady_25 rfl (k := ?_)
    refine kr_getR 10 ckX7 lkF_X7_69 rfl (kg_o7a hk) (kg_o7n hk) (kg_o7r10 hk) dX7_steady_26 (k := ?_)
    refine kr_getI 1 ckX0 lkF_X7_110 rfl (kg_o0a (kg_o7_land hk)) (kg_o0n (kg_o7_land hk)) dX7_steady_29 (k := ?_)
    refine kr_icmp_ge 107 dX7_steady_32 (fun c9 => ?_) (fun c9 => ?_)
    · have h10 := h8.1 c9
      refine kr_sub [] [] rfl ?_
      exact hKx107  M h10
    · have h11 := h8.2 c9
      refine kr_aload_n 0 dX7_steady_35 rfl (k := ?_)
      refine kr_getR 10 ckX7 lkF_X7_69 rfl (kg_o7a hk) (kg_o7n hk) (kg_o7r10 hk) dX7_steady_36 (k := ?_)
      refine kr_iload_n 1 dX7_steady_39 rfl (k := ?_)
      refine kr_aload_n 0 dX7_steady_40 rfl (k := ?_)
      refine kr_getR 1 ckX7 lkF_X7_19 rfl (kg_o7a hk) (kg_o7n hk) (kg_o7r1 hk) dX7_steady_41 (k := ?_)
      refine kr_getI 3 ckX5 lkF_X7_125 rfl (kg_o5a (kg_o7_state hk)) (kg_o5n (kg_o7_state hk)) dX7_steady_44 (k := ?_)
      refine kn_callVi [.int v1, .int (M 3 3)] [] mvX0_wouldMeet lkM_X7_174 (kg_o0a (kg_o7_land hk)) rfl (kg_o0n (kg_o7_land hk)) dX7_steady_47 (sp_X0_wouldMeet (kg_o7_land hk) h11) (fun r14 M12 h13 => ?_)
      refine kr_istore_n [(2, .int r14), (0, .ref (kg_b G + 0)), (1, .int v1)] dX7_steady_50 (k := ?_)
      refine kr_iload_n 2 dX7_steady_51 rfl (k := ?_)
      refine kr_iconst (1 : Int32) dX7_steady_52 (k := ?_)
      refine kr_iadd dX7_steady_53 (k := ?_)
      refine kr_istore_n [(3, .int (v1 + (1 : Int32))), (2, .int r14), (0, .ref (kg_b G + 0)), (1, .int v1)] dX7_steady_54 (k := ?_)
      refine kr_sub [2, 3, 1, 0] [(0, .ref (kg_b G + 0)), (1, .int v1), (2, .int r14), (3, .int (v1 + (1 : Int32)))] rfl ?_
      obtain ⟨f36, h37⟩ := h13
      refine sL_X7_steady_55 hk hn ?_ ?_ f36 v1 r14 (v1 + (1 : Int32)) M12 h37
      · intro  M h34
        refine kr_sub [] [] rfl ?_
        exact hKx93  M h34
      · intro v1 M h35
        refine kr_iinc (1 : Int32) 1 [(1, .int (v1 + (1 : Int32))), (0, .ref (kg_b G + 0))] dX7_steady_101 rfl (k := ?_)
        refine kr_goto 24 dX7_steady_104 ?_
        refine kr_sub [1, 0] [(0, .ref (kg_b G + 0)), (1, .int (v1 + (1 : Int32)))] rfl ?_
        exact ih (v1 + (1 : Int32)) M h35
set_option maxRecDepth 100000 in
set_option maxHeartbeats 4000000 in
theorem sp_X7_steady {G : kg_G} {E : State → Array Value → Prop} {R : kg_R} {n : Nat} {L S : Nat} {K : Int32 → kg_M → Prop} (hk : kg_O7 R n L S) (hn : ¬ n < kg_all) {M : kg_M} (h1 : wp_X7_steady L M K) : kg_Run G E qX7_steady 16 0 [(0, .ref (kg_b G + 0))] [] M R n 0 0 (kg_I R n K) := by
  unfold wp_X7_steady at h1
  refine kr_aload_n 0 dX7_steady_0 rfl (k := ?_)
  refine kr_getR 4 ckX7 lkF_X7_40 rfl (kg_o7a hk) (kg_o7n hk) (kg_o7r4 hk) dX7_steady_1 (k := ?_)
  refine kr_aload_n 0 dX7_steady_4 rfl (k := ?_)
  refine kr_getR 10 ckX7 lkF_X7_69 rfl (kg_o7a hk) (kg_o7n hk) (kg_o7r10 hk) dX7_steady_5 (k := ?_)
  refine kr_aload_n 0 dX7_steady_8 rfl (k := ?_)
  refine kr_getR 1 ckX7 lkF_X7_19 rfl (kg_o7a hk) (kg_o7n hk) (kg_o7r1 hk) dX7_steady_9 (k := ?_)
  refine kr_getI 3 ckX5 lkF_X7_125 rfl (kg_o5a (kg_o7_state hk)) (kg_o5n (kg_o7_state hk)) dX7_steady_12 (k := ?_)
  refine kr_aload_n 0 dX7_steady_15 rfl (k := ?_)
  refine kn_callVi [] [.int (M 3 3), .ref (kg_b G + L), .ref (kg_b G + 92)] mvX7_openGates lkM_X7_207 (kg_o7a hk) rfl (kg_o7n hk) dX7_steady_16 (sp_X7_openGates hk h1) (fun r4 M2 h3 => ?_)
  refine kn_callVv [.ref (kg_b G + L), .int (M 3 3), .int r4] [] mvX3_find lkM_X7_211 (kg_o3a (kg_o7_pairing hk)) rfl (kg_o3n (kg_o7_pairing hk)) dX7_steady_19 (sp_X3_find (kg_o7_pairing hk) (kg_o7_land hk) hn h3) (fun M5 h6 => ?_)
  refine kr_iconst (0 : Int32) dX7_steady_22 (k := ?_)
  refine kr_istore_n [(1, .int (0 : Int32)), (0, .ref (kg_b G + 0))] dX7_steady_23 (k := ?_)
  refine kr_sub [1, 0] [(0, .ref (kg_b G + 0)), (1, .int (0 : Int32))] rfl ?_
  obtain ⟨f40, h41⟩ := h6
  refine sL_X7_steady_24 hk hn ?_ ?_ f40 (0 : Int32) M5 h41
  · intro  M h38
    refine kr_iconst (0 : Int32) dX7_steady_93 (k := ?_)
    exact kr_ireturn dX7_steady_94 ⟨rfl, rfl, _, rfl, h38⟩
  · intro  M h39
    refine kr_iconst (1 : Int32) dX7_steady_107 (k := ?_)
    exact kr_ireturn dX7_steady_108 ⟨rfl, rfl, _, rfl, h39⟩
set_option maxRecDepth 100000 in
set_option maxHeartbeats 4000000 in
theorem sp_X7_tear {G : kg_G} {E : State → Array Value → Prop} {R : kg_R} {n : Nat} {L S : Nat} {K : Int32 → kg_M → Prop} (hk : kg_O7 R n L S) {M : kg_M} (h1 : wp_X7_tear L M K) : kg_Run G E qX7_tear 1 0 [(0, .ref (kg_b G + 0))] [] M R n 0 0 (kg_I R n K) := by
  unfold wp_X7_tear at h1
  refine kr_aload_n 0 dX7_tear_0 rfl (k := ?_)
  refine kr_getR 3 ckX7 lkF_X7_33 rfl (kg_o7a hk) (kg_o7n hk) (kg_o7r3 hk) dX7_tear_1 (k := ?_)
  refine kr_getI 0 ckX2 lkF_X7_140 rfl (kg_o2a (kg_o7_notes hk)) (kg_o2n (kg_o7_notes hk)) dX7_tear_4 (k := ?_)
  refine kr_aload_n 0 dX7_tear_7 rfl (k := ?_)
  refine kr_getR 3 ckX7 lkF_X7_33 rfl (kg_o7a hk) (kg_o7n hk) (kg_o7r3 hk) dX7_tear_8 (k := ?_)
  refine kr_getI 3 ckX2 lkF_X7_143 rfl (kg_o2a (kg_o7_notes hk)) (kg_o2n (kg_o7_notes hk)) dX7_tear_11 (k := ?_)
  refine kr_iadd dX7_tear_14 (k := ?_)
  refine kr_istore_n [(1, .int ((M 89 0) + (M 89 3))), (0, .ref (kg_b G + 0))] dX7_tear_15 (k := ?_)
  refine kr_aload_n 1 dX7_tear_16 rfl (k := ?_)
  refine kr_getR 3 ckX7 lkF_X7_33 rfl (kg_o7a hk) (kg_o7n hk) (kg_o7r3 hk) dX7_tear_17 (k := ?_)
  refine kn_callVv [] [] mvX2_forget lkM_X7_109 (kg_o2a (kg_o7_notes hk)) rfl (kg_o2n (kg_o7_notes hk)) dX7_tear_20 (sp_X2_forget (kg_o7_notes hk) h1) (fun M2 h3 => ?_)
  refine kr_iload_n 0 dX7_tear_23 rfl (k := ?_)
  exact kr_ireturn dX7_tear_24 ⟨rfl, rfl, _, rfl, h3⟩
set_option maxRecDepth 100000 in
set_option maxHeartbeats 4000000 in
theorem sp_X7_told {G : kg_G} {E : State → Array Value → Prop} {R : kg_R} {n : Nat} {L S : Nat} {K : Int32 → kg_M → Prop} (hk : kg_O7 R n L S) {v1 : Int32} {M : kg_M} (h1 : wp_X7_told L v1 M K) : kg_Run G E qX7_told 2 0 [(0, .ref (kg_b G + 0)), (1, .int v1)] [] M R n 0 0 (kg_I R n K) := by
  unfold wp_X7_told at h1
  refine kr_iload_n 1 dX7_told_0 rfl (k := ?_)
  by_cases c3 : v1 = (0 : Int32)
  · have h4 := h1.1 c3
    refine kr_tableIn (off := 71) 72 dX7_told_1 (by rw [c3]; decide) (by rw [c3]; decide) (by rw [c3]; decide) (by decide) ?_
    refine kr_aload_n 0 dX7_told_72 rfl (k := ?_)
    refine kr_getR 10 ckX7 lkF_X7_69 rfl (kg_o7a hk) (kg_o7n hk) (kg_o7r10 hk) dX7_told_73 (k := ?_)
    refine kr_getI 0 ckX0 lkF_X7_113 rfl (kg_o0a (kg_o7_land hk)) (kg_o0n (kg_o7_land hk)) dX7_told_76 (k := ?_)
    exact kr_ireturn dX7_told_79 ⟨rfl, rfl, _, rfl, h4⟩
  · have h5 := h1.2 c3
    by_cases c6 : v1 = (1 : Int32)
    · have h7 := h5.1 c6
      refine kr_tableIn (off := 79) 80 dX7_told_1 (by rw [c6]; decide) (by rw [c6]; decide) (by rw [c6]; decide) (by decide) ?_
      refine kr_aload_n 0 dX7_told_80 rfl (k := ?_)
      refine kr_getR 10 ckX7 lkF_X7_69 rfl (kg_o7a hk) (kg_o7n hk) (kg_o7r10 hk) dX7_told_81 (k := ?_)
      refine kr_getI 1 ckX0 lkF_X7_110 rfl (kg_o0a (kg_o7_land hk)) (kg_o0n (kg_o7_land hk)) dX7_told_84 (k := ?_)
      exact kr_ireturn dX7_told_87 ⟨rfl, rfl, _, rfl, h7⟩
    · have h8 := h5.2 c6
      by_cases c9 : v1 = (2 : Int32)
      · have h10 := h8.1 c9
        refine kr_tableIn (off := 87) 88 dX7_told_1 (by rw [c9]; decide) (by rw [c9]; decide) (by rw [c9]; decide) (by decide) ?_
        refine kr_aload_n 0 dX7_told_88 rfl (k := ?_)
        refine kr_getR 0 ckX7 lkF_X7_10 rfl (kg_o7a hk) (kg_o7n hk) (kg_o7r0 hk) dX7_told_89 (k := ?_)
        refine kr_getI 1 ckX6 lkF_X7_91 rfl (kg_o6a (kg_o7_text hk)) (kg_o6n (kg_o7_text hk)) dX7_told_92 (k := ?_)
        exact kr_ireturn dX7_told_95 ⟨rfl, rfl, _, rfl, h10⟩
      · have h11 := h8.2 c9
        by_cases c12 : v1 = (3 : Int32)
        · have h13 := h11.1 c12
          refine kr_tableIn (off := 95) 96 dX7_told_1 (by rw [c12]; decide) (by rw [c12]; decide) (by rw [c12]; decide) (by decide) ?_
          refine kr_aload_n 0 dX7_told_96 rfl (k := ?_)
          refine kr_getR 1 ckX7 lkF_X7_19 rfl (kg_o7a hk) (kg_o7n hk) (kg_o7r1 hk) dX7_told_97 (k := ?_)
          refine kr_getI 0 ckX5 lkF_X7_116 rfl (kg_o5a (kg_o7_state hk)) (kg_o5n (kg_o7_state hk)) dX7_told_100 (k := ?_)
          exact kr_ireturn dX7_told_103 ⟨rfl, rfl, _, rfl, h13⟩
        · have h14 := h11.2 c12
          by_cases c15 : v1 = (4 : Int32)
          · have h16 := h14.1 c15
            refine kr_tableIn (off := 103) 104 dX7_told_1 (by rw [c15]; decide) (by rw [c15]; decide) (by rw [c15]; decide) (by decide) ?_
            refine kr_aload_n 0 dX7_told_104 rfl (k := ?_)
            refine kr_getR 1 ckX7 lkF_X7_19 rfl (kg_o7a hk) (kg_o7n hk) (kg_o7r1 hk) dX7_told_105 (k := ?_)
            refine kr_getI 1 ckX5 lkF_X7_119 rfl (kg_o5a (kg_o7_state hk)) (kg_o5n (kg_o7_state hk)) dX7_told_108 (k := ?_)
            exact kr_ireturn dX7_told_111 ⟨rfl, rfl, _, rfl, h16⟩
          · have h17 := h14.2 c15
            by_cases c18 : v1 = (5 : Int32)
            · have h19 := h17.1 c18
              refine kr_tableIn (off := 111) 112 dX7_told_1 (by rw [c18]; decide) (by rw [c18]; decide) (by rw [c18]; decide) (by decide) ?_
              refine kr_aload_n 0 dX7_told_112 rfl (k := ?_)
              refine kr_getR 1 ckX7 lkF_X7_19 rfl (kg_o7a hk) (kg_o7n hk) (kg_o7r1 hk) dX7_told_113 (k := ?_)
              refine kr_getI 2 ckX5 lkF_X7_122 rfl (kg_o5a (kg_o7_state hk)) (kg_o5n (kg_o7_state hk)) dX7_told_116 (k := ?_)
              exact kr_ireturn dX7_told_119 ⟨rfl, rfl, _, rfl, h19⟩
            · have h20 := h17.2 c18
              by_cases c21 : v1 = (6 : Int32)
              · have h22 := h20.1 c21
                refine kr_tableIn (off := 119) 120 dX7_told_1 (by rw [c21]; decide) (by rw [c21]; decide) (by rw [c21]; decide) (by decide) ?_
                refine kr_aload_n 0 dX7_told_120 rfl (k := ?_)
                refine kr_getR 1 ckX7 lkF_X7_19 rfl (kg_o7a hk) (kg_o7n hk) (kg_o7r1 hk) dX7_told_121 (k := ?_)
                refine kr_getI 3 ckX5 lkF_X7_125 rfl (kg_o5a (kg_o7_state hk)) (kg_o5n (kg_o7_state hk)) dX7_told_124 (k := ?_)
                exact kr_ireturn dX7_told_127 ⟨rfl, rfl, _, rfl, h22⟩
              · have h23 := h20.2 c21
                by_cases c24 : v1 = (7 : Int32)
                · have h25 := h23.1 c24
                  refine kr_tableIn (off := 127) 128 dX7_told_1 (by rw [c24]; decide) (by rw [c24]; decide) (by rw [c24]; decide) (by decide) ?_
                  refine kr_aload_n 0 dX7_told_128 rfl (k := ?_)
                  refine kr_getR 1 ckX7 lkF_X7_19 rfl (kg_o7a hk) (kg_o7n hk) (kg_o7r1 hk) dX7_told_129 (k := ?_)
                  refine kr_getI 4 ckX5 lkF_X7_128 rfl (kg_o5a (kg_o7_state hk)) (kg_o5n (kg_o7_state hk)) dX7_told_132 (k := ?_)
                  exact kr_ireturn dX7_told_135 ⟨rfl, rfl, _, rfl, h25⟩
                · have h26 := h23.2 c24
                  by_cases c27 : v1 = (8 : Int32)
                  · have h28 := h26.1 c27
                    refine kr_tableIn (off := 135) 136 dX7_told_1 (by rw [c27]; decide) (by rw [c27]; decide) (by rw [c27]; decide) (by decide) ?_
                    refine kr_aload_n 0 dX7_told_136 rfl (k := ?_)
                    refine kr_getR 1 ckX7 lkF_X7_19 rfl (kg_o7a hk) (kg_o7n hk) (kg_o7r1 hk) dX7_told_137 (k := ?_)
                    refine kr_aload_n 0 dX7_told_140 rfl (k := ?_)
                    refine kr_getR 10 ckX7 lkF_X7_69 rfl (kg_o7a hk) (kg_o7n hk) (kg_o7r10 hk) dX7_told_141 (k := ?_)
                    refine kn_callVi [.ref (kg_b G + L)] [] mvX5_waiting lkM_X7_131 (kg_o5a (kg_o7_state hk)) rfl (kg_o5n (kg_o7_state hk)) dX7_told_144 (sp_X5_waiting (kg_o7_state hk) (kg_o7_land hk) h28) (fun r32 M30 h31 => ?_)
                    exact kr_ireturn dX7_told_147 ⟨rfl, rfl, _, rfl, h31⟩
                  · have h29 := h26.2 c27
                    by_cases c33 : v1 = (9 : Int32)
                    · have h34 := h29.1 c33
                      refine kr_tableIn (off := 147) 148 dX7_told_1 (by rw [c33]; decide) (by rw [c33]; decide) (by rw [c33]; decide) (by decide) ?_
                      refine kr_aload_n 0 dX7_told_148 rfl (k := ?_)
                      refine kr_getR 1 ckX7 lkF_X7_19 rfl (kg_o7a hk) (kg_o7n hk) (kg_o7r1 hk) dX7_told_149 (k := ?_)
                      refine kr_aload_n 0 dX7_told_152 rfl (k := ?_)
                      refine kr_getR 10 ckX7 lkF_X7_69 rfl (kg_o7a hk) (kg_o7n hk) (kg_o7r10 hk) dX7_told_153 (k := ?_)
                      refine kn_callVi [.ref (kg_b G + L)] [] mvX5_rusted lkM_X7_134 (kg_o5a (kg_o7_state hk)) rfl (kg_o5n (kg_o7_state hk)) dX7_told_156 (sp_X5_rusted (kg_o7_state hk) (kg_o7_land hk) h34) (fun r38 M36 h37 => ?_)
                      exact kr_ireturn dX7_told_159 ⟨rfl, rfl, _, rfl, h37⟩
                    · have h35 := h29.2 c33
                      by_cases c39 : v1 = (10 : Int32)
                      · have h40 := h35.1 c39
                        refine kr_tableIn (off := 159) 160 dX7_told_1 (by rw [c39]; decide) (by rw [c39]; decide) (by rw [c39]; decide) (by decide) ?_
                        refine kr_aload_n 0 dX7_told_160 rfl (k := ?_)
                        refine kr_getR 1 ckX7 lkF_X7_19 rfl (kg_o7a hk) (kg_o7n hk) (kg_o7r1 hk) dX7_told_161 (k := ?_)
                        refine kr_getI 5 ckX5 lkF_X7_137 rfl (kg_o5a (kg_o7_state hk)) (kg_o5n (kg_o7_state hk)) dX7_told_164 (k := ?_)
                        exact kr_ireturn dX7_told_167 ⟨rfl, rfl, _, rfl, h40⟩
                      · have h41 := h35.2 c39
                        by_cases c42 : v1 = (11 : Int32)
                        · have h43 := h41.1 c42
                          refine kr_tableIn (off := 167) 168 dX7_told_1 (by rw [c42]; decide) (by rw [c42]; decide) (by rw [c42]; decide) (by decide) ?_
                          refine kr_aload_n 0 dX7_told_168 rfl (k := ?_)
                          refine kr_getR 3 ckX7 lkF_X7_33 rfl (kg_o7a hk) (kg_o7n hk) (kg_o7r3 hk) dX7_told_169 (k := ?_)
                          refine kr_getI 0 ckX2 lkF_X7_140 rfl (kg_o2a (kg_o7_notes hk)) (kg_o2n (kg_o7_notes hk)) dX7_told_172 (k := ?_)
                          exact kr_ireturn dX7_told_175 ⟨rfl, rfl, _, rfl, h43⟩
                        · have h44 := h41.2 c42
                          by_cases c45 : v1 = (12 : Int32)
                          · have h46 := h44.1 c45
                            refine kr_tableIn (off := 175) 176 dX7_told_1 (by rw [c45]; decide) (by rw [c45]; decide) (by rw [c45]; decide) (by decide) ?_
                            refine kr_aload_n 0 dX7_told_176 rfl (k := ?_)
                            refine kr_getR 3 ckX7 lkF_X7_33 rfl (kg_o7a hk) (kg_o7n hk) (kg_o7r3 hk) dX7_told_177 (k := ?_)
                            refine kr_getI 3 ckX2 lkF_X7_143 rfl (kg_o2a (kg_o7_notes hk)) (kg_o2n (kg_o7_notes hk)) dX7_told_180 (k := ?_)
                            exact kr_ireturn dX7_told_183 ⟨rfl, rfl, _, rfl, h46⟩
                          · have h47 := h44.2 c45
                            by_cases c48 : v1 = (13 : Int32)
                            · have h49 := h47.1 c48
                              refine kr_tableIn (off := 183) 184 dX7_told_1 (by rw [c48]; decide) (by rw [c48]; decide) (by rw [c48]; decide) (by decide) ?_
                              refine kr_aload_n 0 dX7_told_184 rfl (k := ?_)
                              refine kr_getR 2 ckX7 lkF_X7_26 rfl (kg_o7a hk) (kg_o7n hk) (kg_o7r2 hk) dX7_told_185 (k := ?_)
                              refine kr_getI 2 ckX4 lkF_X7_146 rfl (kg_o4a (kg_o7_past hk)) (kg_o4n (kg_o7_past hk)) dX7_told_188 (k := ?_)
                              exact kr_ireturn dX7_told_191 ⟨rfl, rfl, _, rfl, h49⟩
                            · have h50 := h47.2 c48
                              have e0_ : v1.toInt ≠ (0 : Int) := fun e => c3 (Int32.toInt_inj.mp (e.trans (by decide)))
                              have e1_ : v1.toInt ≠ (1 : Int) := fun e => c6 (Int32.toInt_inj.mp (e.trans (by decide)))
                              have e2_ : v1.toInt ≠ (2 : Int) := fun e => c9 (Int32.toInt_inj.mp (e.trans (by decide)))
                              have e3_ : v1.toInt ≠ (3 : Int) := fun e => c12 (Int32.toInt_inj.mp (e.trans (by decide)))
                              have e4_ : v1.toInt ≠ (4 : Int) := fun e => c15 (Int32.toInt_inj.mp (e.trans (by decide)))
                              have e5_ : v1.toInt ≠ (5 : Int) := fun e => c18 (Int32.toInt_inj.mp (e.trans (by decide)))
                              have e6_ : v1.toInt ≠ (6 : Int) := fun e => c21 (Int32.toInt_inj.mp (e.trans (by decide)))
                              have e7_ : v1.toInt ≠ (7 : Int) := fun e => c24 (Int32.toInt_inj.mp (e.trans (by decide)))
                              have e8_ : v1.toInt ≠ (8 : Int) := fun e => c27 (Int32.toInt_inj.mp (e.trans (by decide)))
                              have e9_ : v1.toInt ≠ (9 : Int) := fun e => c33 (Int32.toInt_inj.mp (e.trans (by decide)))
                              have e10_ : v1.toInt ≠ (10 : Int) := fun e => c39 (Int32.toInt_inj.mp (e.trans (by decide)))
                              have e11_ : v1.toInt ≠ (11 : Int) := fun e => c42 (Int32.toInt_inj.mp (e.trans (by decide)))
                              have e12_ : v1.toInt ≠ (12 : Int) := fun e => c45 (Int32.toInt_inj.mp (e.trans (by decide)))
                              have e13_ : v1.toInt ≠ (13 : Int) := fun e => c48 (Int32.toInt_inj.mp (e.trans (by decide)))
                              refine kr_tableOut 192 dX7_told_1 (by omega) (by decide) ?_
                              refine kr_ldc dX7_told_192 lkC_X7_90 (k := ?_)
                              exact kr_ireturn dX7_told_194 ⟨rfl, rfl, _, rfl, h50⟩
set_option maxRecDepth 100000 in
set_option maxHeartbeats 4000000 in
theorem sp_X7_undo {G : kg_G} {E : State → Array Value → Prop} {R : kg_R} {n : Nat} {L S : Nat} {K : Int32 → kg_M → Prop} (hk : kg_O7 R n L S) (hn : ¬ n < kg_all) {M : kg_M} (h1 : wp_X7_undo L M K) : kg_Run G E qX7_undo 2 0 [(0, .ref (kg_b G + 0))] [] M R n 0 0 (kg_I R n K) := by
  unfold wp_X7_undo at h1
  refine kr_aload_n 0 dX7_undo_0 rfl (k := ?_)
  refine kr_getR 2 ckX7 lkF_X7_26 rfl (kg_o7a hk) (kg_o7n hk) (kg_o7r2 hk) dX7_undo_1 (k := ?_)
  refine kr_getI 2 ckX4 lkF_X7_146 rfl (kg_o4a (kg_o7_past hk)) (kg_o4n (kg_o7_past hk)) dX7_undo_4 (k := ?_)
  refine kr_if_ne 13 dX7_undo_7 (fun c2 => ?_) (fun c2 => ?_)
  · have h3 := h1.1 c2
    refine kr_aload_n 0 dX7_undo_13 rfl (k := ?_)
    refine kr_getR 2 ckX7 lkF_X7_26 rfl (kg_o7a hk) (kg_o7n hk) (kg_o7r2 hk) dX7_undo_14 (k := ?_)
    refine kr_aload_n 0 dX7_undo_17 rfl (k := ?_)
    refine kr_getR 1 ckX7 lkF_X7_19 rfl (kg_o7a hk) (kg_o7n hk) (kg_o7r1 hk) dX7_undo_18 (k := ?_)
    refine kn_callVv [.ref (kg_b G + 3)] [] mvX4_restore lkM_X7_198 (kg_o4a (kg_o7_past hk)) rfl (kg_o4n (kg_o7_past hk)) dX7_undo_21 (sp_X4_restore (kg_o7_past hk) (kg_o7_state hk) hn h3) (fun M5 h6 => ?_)
    refine kr_aload_n 0 dX7_undo_24 rfl (k := ?_)
    refine kr_getR 2 ckX7 lkF_X7_26 rfl (kg_o7a hk) (kg_o7n hk) (kg_o7r2 hk) dX7_undo_25 (k := ?_)
    refine kr_getI 2 ckX4 lkF_X7_146 rfl (kg_o4a (kg_o7_past hk)) (kg_o4n (kg_o7_past hk)) dX7_undo_28 (k := ?_)
    exact kr_ireturn dX7_undo_31 ⟨rfl, rfl, _, rfl, h6⟩
  · have h4 := h1.2 c2
    refine kr_ldc dX7_undo_10 lkC_X7_194 (k := ?_)
    exact kr_ireturn dX7_undo_12 ⟨rfl, rfl, _, rfl, h4⟩
set_option maxRecDepth 100000 in
set_option maxHeartbeats 4000000 in
theorem sp_X7_well {G : kg_G} {E : State → Array Value → Prop} {R : kg_R} {n : Nat} {L S : Nat} {K : Int32 → kg_M → Prop} (hk : kg_O7 R n L S) (hn : ¬ n < kg_all) {v1 : Int32} {M : kg_M} (h1 : wp_X7_well L v1 M K) : kg_Run G E qX7_well 2 0 [(0, .ref (kg_b G + 0)), (1, .int v1)] [] M R n 0 0 (kg_I R n K) := by
  unfold wp_X7_well at h1
  refine kr_aload_n 0 dX7_well_0 rfl (k := ?_)
  refine kr_getR 10 ckX7 lkF_X7_69 rfl (kg_o7a hk) (kg_o7n hk) (kg_o7r10 hk) dX7_well_1 (k := ?_)
  refine kr_iload_n 1 dX7_well_4 rfl (k := ?_)
  refine kn_callVz [.int v1] [] mvX0_hasPerson lkM_X7_168 (kg_o0a (kg_o7_land hk)) rfl (kg_o0n (kg_o7_land hk)) dX7_well_5 (sp_X0_hasPerson (kg_o7_land hk) h1) (fun r4 M2 _ h3 => ?_)
  refine kr_if_ne 14 dX7_well_8 (fun c5 => ?_) (fun c5 => ?_)
  · have h6 := h3.1 c5
    refine kr_aload_n 0 dX7_well_14 rfl (k := ?_)
    refine kr_getR 1 ckX7 lkF_X7_19 rfl (kg_o7a hk) (kg_o7n hk) (kg_o7r1 hk) dX7_well_15 (k := ?_)
    refine kr_getI 4 ckX5 lkF_X7_128 rfl (kg_o5a (kg_o7_state hk)) (kg_o5n (kg_o7_state hk)) dX7_well_18 (k := ?_)
    refine kr_iload_n 1 dX7_well_21 rfl (k := ?_)
    refine kr_ishr dX7_well_22 (k := ?_)
    refine kr_iconst (1 : Int32) dX7_well_23 (k := ?_)
    refine kr_iand dX7_well_24 (k := ?_)
    refine kr_istore_n [(2, .int (((M2 3 4) >>> (v1 &&& 31)) &&& (1 : Int32))), (0, .ref (kg_b G + 0)), (1, .int v1)] dX7_well_25 (k := ?_)
    refine kr_aload_n 1 dX7_well_26 rfl (k := ?_)
    refine kr_getR 2 ckX7 lkF_X7_26 rfl (kg_o7a hk) (kg_o7n hk) (kg_o7r2 hk) dX7_well_27 (k := ?_)
    refine kr_aload_n 1 dX7_well_30 rfl (k := ?_)
    refine kr_getR 1 ckX7 lkF_X7_19 rfl (kg_o7a hk) (kg_o7n hk) (kg_o7r1 hk) dX7_well_31 (k := ?_)
    refine kn_callVv [.ref (kg_b G + 3)] [] mvX4_remember lkM_X7_187 (kg_o4a (kg_o7_past hk)) rfl (kg_o4n (kg_o7_past hk)) dX7_well_34 (sp_X4_remember (kg_o7_past hk) (kg_o7_state hk) hn h6) (fun M8 h9 => ?_)
    refine kr_aload_n 1 dX7_well_37 rfl (k := ?_)
    refine kr_getR 1 ckX7 lkF_X7_19 rfl (kg_o7a hk) (kg_o7n hk) (kg_o7r1 hk) dX7_well_38 (k := ?_)
    refine kr_dup dX7_well_41 (k := ?_)
    refine kr_getI 4 ckX5 lkF_X7_128 rfl (kg_o5a (kg_o7_state hk)) (kg_o5n (kg_o7_state hk)) dX7_well_42 (k := ?_)
    refine kr_iconst (1 : Int32) dX7_well_45 (k := ?_)
    refine kr_iload_n 2 dX7_well_46 rfl (k := ?_)
    refine kr_ishl dX7_well_47 (k := ?_)
    refine kr_iconst (-1 : Int32) dX7_well_48 (k := ?_)
    refine kr_ixor dX7_well_49 (k := ?_)
    refine kr_iand dX7_well_50 (k := ?_)
    refine kn_putI 4 ckX5 lkF_X7_128 rfl rfl rfl rfl (kg_o5a (kg_o7_state hk)) (kg_o5n (kg_o7_state hk)) dX7_well_51 (fun M11 e12 => ?_)
    have h13 := h9 M11 e12
    refine kr_iload_n 0 dX7_well_54 rfl (k := ?_)
    exact kr_ireturn dX7_well_55 ⟨rfl, rfl, _, rfl, h13⟩
  · have h7 := h3.2 c5
    refine kr_ldc dX7_well_11 lkC_X7_153 (k := ?_)
    exact kr_ireturn dX7_well_13 ⟨rfl, rfl, _, rfl, h7⟩
set_option maxRecDepth 100000 in
set_option maxHeartbeats 4000000 in
theorem sJ_X7_write_26 {G : kg_G} {E : State → Array Value → Prop} {R : kg_R} {n : Nat} {L S : Nat} {K : Int32 → kg_M → Prop} (hk : kg_O7 R n L S) (v1 : Int32) (v2 : Int32) (M : kg_M) (h11 : wJ_X7_write_26 L K v1 v2 M) : kg_Run G E qX7_write 1 26 [(0, .ref (kg_b G + 0)), (1, .int v1), (2, .int v2)] [] M R n 0 0 (kg_I R n K) := by
  unfold wJ_X7_write_26 at h11
  refine kr_aload_n 0 dX7_write_26 rfl (k := ?_)
  refine kr_getR 3 ckX7 lkF_X7_33 rfl (kg_o7a hk) (kg_o7n hk) (kg_o7r3 hk) dX7_write_27 (k := ?_)
  refine kr_getI 3 ckX2 lkF_X7_143 rfl (kg_o2a (kg_o7_notes hk)) (kg_o2n (kg_o7_notes hk)) dX7_write_30 (k := ?_)
  refine kr_bipush (15 : Int32) dX7_write_33 (k := ?_)
  refine kr_icmp_lt 41 dX7_write_35 (fun c12 => ?_) (fun c12 => ?_)
  · have h13 := h11.1 c12
    refine kr_aload_n 0 dX7_write_41 rfl (k := ?_)
    refine kr_getR 3 ckX7 lkF_X7_33 rfl (kg_o7a hk) (kg_o7n hk) (kg_o7r3 hk) dX7_write_42 (k := ?_)
    refine kr_iload_n 1 dX7_write_45 rfl (k := ?_)
    refine kr_iload_n 2 dX7_write_46 rfl (k := ?_)
    refine kn_callVi [.int v1, .int v2] [] mvX2_enter lkM_X7_270 (kg_o2a (kg_o7_notes hk)) rfl (kg_o2n (kg_o7_notes hk)) dX7_write_47 (sp_X2_enter (kg_o7_notes hk) h13) (fun r17 M15 h16 => ?_)
    exact kr_ireturn dX7_write_50 ⟨rfl, rfl, _, rfl, h16⟩
  · have h14 := h11.2 c12
    refine kr_ldc dX7_write_38 lkC_X7_94 (k := ?_)
    exact kr_ireturn dX7_write_40 ⟨rfl, rfl, _, rfl, h14⟩
set_option maxRecDepth 100000 in
set_option maxHeartbeats 4000000 in
theorem sp_X7_write {G : kg_G} {E : State → Array Value → Prop} {R : kg_R} {n : Nat} {L S : Nat} {K : Int32 → kg_M → Prop} (hk : kg_O7 R n L S) {v1 : Int32} {v2 : Int32} {M : kg_M} (h1 : wp_X7_write L v1 v2 M K) : kg_Run G E qX7_write 1 0 [(0, .ref (kg_b G + 0)), (1, .int v1), (2, .int v2)] [] M R n 0 0 (kg_I R n K) := by
  unfold wp_X7_write at h1
  refine kr_aload_n 0 dX7_write_0 rfl (k := ?_)
  refine kr_getR 10 ckX7 lkF_X7_69 rfl (kg_o7a hk) (kg_o7n hk) (kg_o7r10 hk) dX7_write_1 (k := ?_)
  refine kr_iload_n 1 dX7_write_4 rfl (k := ?_)
  refine kn_callVz [.int v1] [] mvX0_hasPerson lkM_X7_168 (kg_o0a (kg_o7_land hk)) rfl (kg_o0n (kg_o7_land hk)) dX7_write_5 (sp_X0_hasPerson (kg_o7_land hk) h1) (fun r4 M2 _ h3 => ?_)
  refine kr_if_ne 14 dX7_write_8 (fun c5 => ?_) (fun c5 => ?_)
  · have h6 := h3.1 c5
    refine kr_iload_n 2 dX7_write_14 rfl (k := ?_)
    refine kr_if_eq 26 dX7_write_15 (fun c8 => ?_) (fun c8 => ?_)
    · have h9 := h6.1 c8
      refine kr_sub [0, 1, 2] [(0, .ref (kg_b G + 0)), (1, .int v1), (2, .int v2)] rfl ?_
      exact sJ_X7_write_26 hk v1 v2 M2 h9
    · have h10 := h6.2 c8
      refine kr_iload_n 2 dX7_write_18 rfl (k := ?_)
      refine kr_iconst (1 : Int32) dX7_write_19 (k := ?_)
      refine kr_icmp_eq 26 dX7_write_20 (fun c18 => ?_) (fun c18 => ?_)
      · have h19 := h10.1 c18
        refine kr_sub [0, 1, 2] [(0, .ref (kg_b G + 0)), (1, .int v1), (2, .int v2)] rfl ?_
        exact sJ_X7_write_26 hk v1 v2 M2 h19
      · have h20 := h10.2 c18
        refine kr_ldc dX7_write_23 lkC_X7_90 (k := ?_)
        exact kr_ireturn dX7_write_25 ⟨rfl, rfl, _, rfl, h20⟩
  · have h7 := h3.2 c5
    refine kr_ldc dX7_write_11 lkC_X7_153 (k := ?_)
    exact kr_ireturn dX7_write_13 ⟨rfl, rfl, _, rfl, h7⟩
set_option maxRecDepth 100000 in
set_option maxHeartbeats 4000000 in
theorem sL_X8_allWith_4 {G : kg_G} {E : State → Array Value → Prop} {R : kg_R} {n : Nat} {K : Int32 → kg_M → Prop} (ho : kg_O8 R n 117) {Kx40 : Int32 → kg_M → Prop} (hKx40 : ∀ (v2 : Int32) (M : kg_M), Kx40 v2 M → kg_Run G E qX8_allWith 0 40 [(2, .int v2)] [] M R n 0 0 (kg_I R n K)) : ∀ (f : Nat) (v1 : Int32) (v2 : Int32) (v3 : Int32) (M : kg_M), wL_X8_allWith_4  Kx40 K f v1 v2 v3 M → kg_Run G E qX8_allWith 0 4 [(0, .ref (kg_b G + 117)), (1, .int v1), (2, .int v2), (3, .int v3)] [] M R n 0 0 (kg_I R n K) := by
  intro f
  induction f with
  | zero => intro v1 v2 v3 M h0; exact h0.elim
  | succ f ih =>
    intro v1 v2 v3 M h2
    rw [wL_X8_allWith_4] at h2
    refine kr_iload_n 3 dX8_allWith_4 rfl (k := ?_)
    refine kr_aload_n 0 dX8_allWith_5 rfl (k := ?_)
    refine kr_getI 2 ckX8 lkF_X8_94 rfl (kg_o8a ho) (kg_o8n ho) dX8_allWith_6 (k := ?_)
    refine kr_icmp_ge 40 dX8_allWith_9 (fun c3 => ?_) (fun c3 => ?_)
    · have h4 := h2.1 c3
      refine kr_sub [2] [(2, .int v2)] rfl ?_
      exact hKx40 v2 M h4
    · have h5 := h2.2 c3
      refine kr_iload_n 2 dX8_allWith_12 rfl (k := ?_)
      refine kr_aload_n 0 dX8_allWith_13 rfl (k := ?_)
      refine kr_getR 4 ckX8 lkF_X8_16 rfl (kg_o8a ho) (kg_o8n ho) (kg_o8r4 ho) dX8_allWith_14 (k := ?_)
      refine kr_iload_n 1 dX8_allWith_17 rfl (k := ?_)
      refine kr_iload_n 3 dX8_allWith_18 rfl (k := ?_)
      refine kr_iadd dX8_allWith_19 (k := ?_)
      obtain ⟨h6, h7⟩ := h5
      refine kr_iald (kg_o8s4 ho) (kg_o8m4 ho) h6 dX8_allWith_20 (k := ?_)
      refine kr_iconst (1 : Int32) dX8_allWith_21 (k := ?_)
      refine kr_icmp_ne 31 dX8_allWith_22 (fun c8 => ?_) (fun c8 => ?_)
      · have h9 := h7.1 c8
        refine kr_iconst (0 : Int32) dX8_allWith_31 (k := ?_)
        refine kr_ior dX8_allWith_32 (k := ?_)
        refine kr_istore_n [(2, .int (v2 ||| (0 : Int32))), (0, .ref (kg_b G + 117)), (1, .int v1), (3, .int v3)] dX8_allWith_33 (k := ?_)
        refine kr_iinc (1 : Int32) 3 [(3, .int (v3 + (1 : Int32))), (2, .int (v2 ||| (0 : Int32))), (0, .ref (kg_b G + 117)), (1, .int v1)] dX8_allWith_34 rfl (k := ?_)
        refine kr_goto 4 dX8_allWith_37 ?_
        refine kr_sub [2, 3, 1, 0] [(0, .ref (kg_b G + 117)), (1, .int v1), (2, .int (v2 ||| (0 : Int32))), (3, .int (v3 + (1 : Int32)))] rfl ?_
        exact ih v1 (v2 ||| (0 : Int32)) (v3 + (1 : Int32)) M h9
      · have h10 := h7.2 c8
        refine kr_iconst (1 : Int32) dX8_allWith_25 (k := ?_)
        refine kr_iload_n 3 dX8_allWith_26 rfl (k := ?_)
        refine kr_ishl dX8_allWith_27 (k := ?_)
        refine kr_goto 32 dX8_allWith_28 ?_
        refine kr_ior dX8_allWith_32 (k := ?_)
        refine kr_istore_n [(2, .int (v2 ||| ((1 : Int32) <<< (v3 &&& 31)))), (0, .ref (kg_b G + 117)), (1, .int v1), (3, .int v3)] dX8_allWith_33 (k := ?_)
        refine kr_iinc (1 : Int32) 3 [(3, .int (v3 + (1 : Int32))), (2, .int (v2 ||| ((1 : Int32) <<< (v3 &&& 31)))), (0, .ref (kg_b G + 117)), (1, .int v1)] dX8_allWith_34 rfl (k := ?_)
        refine kr_goto 4 dX8_allWith_37 ?_
        refine kr_sub [2, 3, 1, 0] [(0, .ref (kg_b G + 117)), (1, .int v1), (2, .int (v2 ||| ((1 : Int32) <<< (v3 &&& 31)))), (3, .int (v3 + (1 : Int32)))] rfl ?_
        exact ih v1 (v2 ||| ((1 : Int32) <<< (v3 &&& 31))) (v3 + (1 : Int32)) M h10
set_option maxRecDepth 100000 in
set_option maxHeartbeats 4000000 in
theorem sp_X8_allWith {G : kg_G} {E : State → Array Value → Prop} {R : kg_R} {n : Nat} {K : Int32 → kg_M → Prop} (ho : kg_O8 R n 117) {v1 : Int32} {M : kg_M} (h1 : wp_X8_allWith v1 M K) : kg_Run G E qX8_allWith 0 0 [(0, .ref (kg_b G + 117)), (1, .int v1)] [] M R n 0 0 (kg_I R n K) := by
  unfold wp_X8_allWith at h1
  refine kr_iconst (0 : Int32) dX8_allWith_0 (k := ?_)
  refine kr_istore_n [(2, .int (0 : Int32)), (0, .ref (kg_b G + 117)), (1, .int v1)] dX8_allWith_1 (k := ?_)
  refine kr_iconst (0 : Int32) dX8_allWith_2 (k := ?_)
  refine kr_istore_n [(3, .int (0 : Int32)), (2, .int (0 : Int32)), (0, .ref (kg_b G + 117)), (1, .int v1)] dX8_allWith_3 (k := ?_)
  refine kr_sub [2, 3, 1, 0] [(0, .ref (kg_b G + 117)), (1, .int v1), (2, .int (0 : Int32)), (3, .int (0 : Int32))] rfl ?_
  obtain ⟨f12, h13⟩ := h1
  refine sL_X8_allWith_4 ho ?_ f12 v1 (0 : Int32) (0 : Int32) M h13
  · intro v2 M h11
    refine kr_iload_n 0 dX8_allWith_40 rfl (k := ?_)
    exact kr_ireturn dX8_allWith_41 ⟨rfl, rfl, _, rfl, h11⟩
set_option maxRecDepth 100000 in
set_option maxHeartbeats 4000000 in
theorem sp_X8_has {G : kg_G} {E : State → Array Value → Prop} {R : kg_R} {n : Nat} {K : Int32 → kg_M → Prop}  {v0 : Int32} {v1 : Int32} {M : kg_M} (h1 : wp_X8_has v0 v1 M K) : kg_Run G E qX8_has 0 0 [(0, .int v0), (1, .int v1)] [] M R n 0 0 (kg_Z R n K) := by
  unfold wp_X8_has at h1
  refine kr_iload_n 0 dX8_has_0 rfl (k := ?_)
  refine kr_iload_n 1 dX8_has_1 rfl (k := ?_)
  refine kr_ishr dX8_has_2 (k := ?_)
  refine kr_iconst (1 : Int32) dX8_has_3 (k := ?_)
  refine kr_iand dX8_has_4 (k := ?_)
  refine kr_iconst (1 : Int32) dX8_has_5 (k := ?_)
  refine kr_icmp_ne 13 dX8_has_6 (fun c2 => ?_) (fun c2 => ?_)
  · have h3 := h1.1 c2
    refine kr_iconst (0 : Int32) dX8_has_13 (k := ?_)
    exact kr_ireturn dX8_has_14 ⟨rfl, rfl, _, rfl, (by decide), h3⟩
  · have h4 := h1.2 c2
    refine kr_iconst (1 : Int32) dX8_has_9 (k := ?_)
    refine kr_goto 14 dX8_has_10 ?_
    exact kr_ireturn dX8_has_14 ⟨rfl, rfl, _, rfl, (by decide), h4⟩
set_option maxRecDepth 100000 in
set_option maxHeartbeats 4000000 in
theorem sp_X8_apart {G : kg_G} {E : State → Array Value → Prop} {R : kg_R} {n : Nat} {K : Int32 → kg_M → Prop}  {v0 : Int32} {v1 : Int32} {v2 : Int32} {M : kg_M} (h1 : wp_X8_apart v0 v1 v2 M K) : kg_Run G E qX8_apart 1 0 [(0, .int v0), (1, .int v1), (2, .int v2)] [] M R n 0 0 (kg_Z R n K) := by
  unfold wp_X8_apart at h1
  refine kr_iload_n 0 dX8_apart_0 rfl (k := ?_)
  refine kr_iload_n 1 dX8_apart_1 rfl (k := ?_)
  refine kn_callSz [.int v0, .int v1] [] msX8_has lkM_X8_269 dX8_apart_2 (sp_X8_has  h1) (fun r4 M2 _ h3 => ?_)
  refine kr_iload_n 0 dX8_apart_5 rfl (k := ?_)
  refine kr_iload_n 2 dX8_apart_6 rfl (k := ?_)
  refine kn_callSz [.int v0, .int v2] [.int r4] msX8_has lkM_X8_269 dX8_apart_7 (sp_X8_has  h3) (fun r7 M5 _ h6 => ?_)
  refine kr_icmp_eq 17 dX8_apart_10 (fun c8 => ?_) (fun c8 => ?_)
  · have h9 := h6.1 c8
    refine kr_iconst (0 : Int32) dX8_apart_17 (k := ?_)
    exact kr_ireturn dX8_apart_18 ⟨rfl, rfl, _, rfl, (by decide), h9⟩
  · have h10 := h6.2 c8
    refine kr_iconst (1 : Int32) dX8_apart_13 (k := ?_)
    refine kr_goto 18 dX8_apart_14 ?_
    exact kr_ireturn dX8_apart_18 ⟨rfl, rfl, _, rfl, (by decide), h10⟩
set_option maxRecDepth 100000 in
set_option maxHeartbeats 4000000 in
theorem sp_X8_like {G : kg_G} {E : State → Array Value → Prop} {R : kg_R} {n : Nat} {K : Int32 → kg_M → Prop} (ho : kg_O8 R n 117) {v1 : Int32} {v2 : Int32} {M : kg_M} (h1 : wp_X8_like v1 v2 M K) : kg_Run G E qX8_like 0 0 [(0, .ref (kg_b G + 117)), (1, .int v1), (2, .int v2)] [] M R n 0 0 (kg_Z R n K) := by
  unfold wp_X8_like at h1
  refine kr_iload_n 1 dX8_like_0 rfl (k := ?_)
  refine kr_aload_n 0 dX8_like_1 rfl (k := ?_)
  refine kr_getI 2 ckX8 lkF_X8_94 rfl (kg_o8a ho) (kg_o8n ho) dX8_like_2 (k := ?_)
  refine kr_icmp_ge 48 dX8_like_5 (fun c2 => ?_) (fun c2 => ?_)
  · have h3 := h1.1 c2
    refine kr_iconst (0 : Int32) dX8_like_48 (k := ?_)
    exact kr_ireturn dX8_like_49 ⟨rfl, rfl, _, rfl, (by decide), h3⟩
  · have h4 := h1.2 c2
    refine kr_iload_n 2 dX8_like_8 rfl (k := ?_)
    refine kr_aload_n 0 dX8_like_9 rfl (k := ?_)
    refine kr_getI 2 ckX8 lkF_X8_94 rfl (kg_o8a ho) (kg_o8n ho) dX8_like_10 (k := ?_)
    refine kr_icmp_ge 48 dX8_like_13 (fun c5 => ?_) (fun c5 => ?_)
    · have h6 := h4.1 c5
      refine kr_iconst (0 : Int32) dX8_like_48 (k := ?_)
      exact kr_ireturn dX8_like_49 ⟨rfl, rfl, _, rfl, (by decide), h6⟩
    · have h7 := h4.2 c5
      refine kr_aload_n 0 dX8_like_16 rfl (k := ?_)
      refine kr_getR 3 ckX8 lkF_X8_13 rfl (kg_o8a ho) (kg_o8n ho) (kg_o8r3 ho) dX8_like_17 (k := ?_)
      refine kr_bipush (7 : Int32) dX8_like_20 (k := ?_)
      refine kr_iload_n 1 dX8_like_22 rfl (k := ?_)
      refine kr_imul dX8_like_23 (k := ?_)
      refine kr_iload_n 2 dX8_like_24 rfl (k := ?_)
      refine kr_iadd dX8_like_25 (k := ?_)
      obtain ⟨h8, h9⟩ := h7
      refine kr_iald (kg_o8s3 ho) (kg_o8m3 ho) h8 dX8_like_26 (k := ?_)
      refine kr_if_le 48 dX8_like_27 (fun c10 => ?_) (fun c10 => ?_)
      · have h11 := h9.1 c10
        refine kr_iconst (0 : Int32) dX8_like_48 (k := ?_)
        exact kr_ireturn dX8_like_49 ⟨rfl, rfl, _, rfl, (by decide), h11⟩
      · have h12 := h9.2 c10
        refine kr_aload_n 0 dX8_like_30 rfl (k := ?_)
        refine kr_getR 3 ckX8 lkF_X8_13 rfl (kg_o8a ho) (kg_o8n ho) (kg_o8r3 ho) dX8_like_31 (k := ?_)
        refine kr_bipush (7 : Int32) dX8_like_34 (k := ?_)
        refine kr_iload_n 2 dX8_like_36 rfl (k := ?_)
        refine kr_imul dX8_like_37 (k := ?_)
        refine kr_iload_n 1 dX8_like_38 rfl (k := ?_)
        refine kr_iadd dX8_like_39 (k := ?_)
        obtain ⟨h13, h14⟩ := h12
        refine kr_iald (kg_o8s3 ho) (kg_o8m3 ho) h13 dX8_like_40 (k := ?_)
        refine kr_if_le 48 dX8_like_41 (fun c15 => ?_) (fun c15 => ?_)
        · have h16 := h14.1 c15
          refine kr_iconst (0 : Int32) dX8_like_48 (k := ?_)
          exact kr_ireturn dX8_like_49 ⟨rfl, rfl, _, rfl, (by decide), h16⟩
        · have h17 := h14.2 c15
          refine kr_iconst (1 : Int32) dX8_like_44 (k := ?_)
          refine kr_goto 49 dX8_like_45 ?_
          exact kr_ireturn dX8_like_49 ⟨rfl, rfl, _, rfl, (by decide), h17⟩
set_option maxRecDepth 100000 in
set_option maxHeartbeats 4000000 in
theorem sp_X8_pairBits {G : kg_G} {E : State → Array Value → Prop} {R : kg_R} {n : Nat} {K : Int32 → kg_M → Prop} (ho : kg_O8 R n 117) {v1 : Int32} {M : kg_M} (h1 : wp_X8_pairBits v1 M K) : kg_Run G E qX8_pairBits 0 0 [(0, .ref (kg_b G + 117)), (1, .int v1)] [] M R n 0 0 (kg_I R n K) := by
  unfold wp_X8_pairBits at h1
  refine kr_iload_n 1 dX8_pairBits_0 rfl (k := ?_)
  refine kr_bipush (21 : Int32) dX8_pairBits_1 (k := ?_)
  refine kr_icmp_ne 10 dX8_pairBits_3 (fun c2 => ?_) (fun c2 => ?_)
  · have h3 := h1.1 c2
    refine kr_iconst (1 : Int32) dX8_pairBits_10 (k := ?_)
    refine kr_aload_n 0 dX8_pairBits_11 rfl (k := ?_)
    refine kr_getR 6 ckX8 lkF_X8_19 rfl (kg_o8a ho) (kg_o8n ho) (kg_o8r6 ho) dX8_pairBits_12 (k := ?_)
    refine kr_iload_n 1 dX8_pairBits_15 rfl (k := ?_)
    obtain ⟨h5, h6⟩ := h3
    refine kr_iald (kg_o8s6 ho) (kg_o8m6 ho) h5 dX8_pairBits_16 (k := ?_)
    refine kr_ishl dX8_pairBits_17 (k := ?_)
    refine kr_iconst (1 : Int32) dX8_pairBits_18 (k := ?_)
    refine kr_aload_n 0 dX8_pairBits_19 rfl (k := ?_)
    refine kr_getR 7 ckX8 lkF_X8_22 rfl (kg_o8a ho) (kg_o8n ho) (kg_o8r7 ho) dX8_pairBits_20 (k := ?_)
    refine kr_iload_n 1 dX8_pairBits_23 rfl (k := ?_)
    obtain ⟨h7, h8⟩ := h6
    refine kr_iald (kg_o8s7 ho) (kg_o8m7 ho) h7 dX8_pairBits_24 (k := ?_)
    refine kr_ishl dX8_pairBits_25 (k := ?_)
    refine kr_ior dX8_pairBits_26 (k := ?_)
    exact kr_ireturn dX8_pairBits_27 ⟨rfl, rfl, _, rfl, h8⟩
  · have h4 := h1.2 c2
    refine kr_iconst (0 : Int32) dX8_pairBits_6 (k := ?_)
    refine kr_goto 27 dX8_pairBits_7 ?_
    exact kr_ireturn dX8_pairBits_27 ⟨rfl, rfl, _, rfl, h4⟩
set_option maxRecDepth 100000 in
set_option maxHeartbeats 4000000 in
theorem sJ_X8_choose_164 {G : kg_G} {E : State → Array Value → Prop} {R : kg_R} {n : Nat} {K : Int32 → kg_M → Prop} (ho : kg_O8 R n 117) {Kb : Int32 → Int32 → kg_M → Prop} {Kx162 : kg_M → Prop} {Kx179 : Int32 → kg_M → Prop} (hKb : ∀ (v2 : Int32) (v3 : Int32) (M : kg_M), Kb v2 v3 M → kg_Run G E qX8_choose 1 38 [(0, .ref (kg_b G + 117)), (2, .int v2), (3, .int v3)] [] M R n 0 0 (kg_I R n K)) (hKx162 : ∀ (M : kg_M), Kx162 M → kg_Run G E qX8_choose 1 162 [] [] M R n 0 0 (kg_I R n K)) (hKx179 : ∀ (v2 : Int32) (M : kg_M), Kx179 v2 M → kg_Run G E qX8_choose 1 179 [(2, .int v2)] [] M R n 0 0 (kg_I R n K)) (v2 : Int32) (v3 : Int32) (v4 : Int32) (M : kg_M) (h46 : wJ_X8_choose_164  Kb Kx162 Kx179 K v2 v3 v4 M) : kg_Run G E qX8_choose 1 164 [(0, .ref (kg_b G + 117)), (2, .int v2), (3, .int v3), (4, .int v4)] [] M R n 0 0 (kg_I R n K) := by
  unfold wJ_X8_choose_164 at h46
  refine kr_iload_n 1 dX8_choose_164 rfl (k := ?_)
  refine kr_aload_n 0 dX8_choose_165 rfl (k := ?_)
  refine kr_iload 3 dX8_choose_166 rfl (k := ?_)
  refine kn_callVi [.int v4] [.int v2] mvX8_pairBits lkM_X8_241 (kg_o8a ho) rfl (kg_o8n ho) dX8_choose_168 (sp_X8_pairBits ho h46) (fun r49 M47 h48 => ?_)
  refine kr_ior dX8_choose_171 (k := ?_)
  refine kr_istore_n [(2, .int (v2 ||| r49)), (0, .ref (kg_b G + 117)), (3, .int v3), (4, .int v4)] dX8_choose_172 (k := ?_)
  refine kr_iinc (1 : Int32) 2 [(3, .int (v3 + (1 : Int32))), (2, .int (v2 ||| r49)), (0, .ref (kg_b G + 117)), (4, .int v4)] dX8_choose_173 rfl (k := ?_)
  refine kr_goto 38 dX8_choose_176 ?_
  refine kr_sub [2, 1, 0] [(0, .ref (kg_b G + 117)), (2, .int (v2 ||| r49)), (3, .int (v3 + (1 : Int32)))] rfl ?_
  exact hKb (v2 ||| r49) (v3 + (1 : Int32)) M47 h48
set_option maxRecDepth 100000 in
set_option maxHeartbeats 4000000 in
theorem sJ_X8_choose_111 {G : kg_G} {E : State → Array Value → Prop} {R : kg_R} {n : Nat} {K : Int32 → kg_M → Prop} (ho : kg_O8 R n 117) {Kb : Int32 → Int32 → kg_M → Prop} {Kx162 : kg_M → Prop} {Kx179 : Int32 → kg_M → Prop} (hKb : ∀ (v2 : Int32) (v3 : Int32) (M : kg_M), Kb v2 v3 M → kg_Run G E qX8_choose 1 38 [(0, .ref (kg_b G + 117)), (2, .int v2), (3, .int v3)] [] M R n 0 0 (kg_I R n K)) (hKx162 : ∀ (M : kg_M), Kx162 M → kg_Run G E qX8_choose 1 162 [] [] M R n 0 0 (kg_I R n K)) (hKx179 : ∀ (v2 : Int32) (M : kg_M), Kx179 v2 M → kg_Run G E qX8_choose 1 179 [(2, .int v2)] [] M R n 0 0 (kg_I R n K)) (v2 : Int32) (v3 : Int32) (v4 : Int32) (v5 : Int32) (s0 : Int32) (M : kg_M) (h30 : wJ_X8_choose_111  Kb Kx162 Kx179 K v2 v3 v4 v5 s0 M) : kg_Run G E qX8_choose 1 111 [(0, .ref (kg_b G + 117)), (2, .int v2), (3, .int v3), (4, .int v4), (5, .int v5)] [.int s0] M R n 0 0 (kg_I R n K) := by
  unfold wJ_X8_choose_111 at h30
  refine kr_istore [(6, .int s0), (0, .ref (kg_b G + 117)), (2, .int v2), (3, .int v3), (4, .int v4), (5, .int v5)] dX8_choose_111 (k := ?_)
  refine kr_iload 5 dX8_choose_113 rfl (k := ?_)
  refine kr_if_eq 162 dX8_choose_115 (fun c31 => ?_) (fun c31 => ?_)
  · have h32 := h30.1 c31
    refine kr_sub [] [] rfl ?_
    exact hKx162  M h32
  · have h33 := h30.2 c31
    refine kr_iload 0 dX8_choose_118 rfl (k := ?_)
    refine kr_if_ne 162 dX8_choose_120 (fun c34 => ?_) (fun c34 => ?_)
    · have h35 := h33.1 c34
      refine kr_sub [] [] rfl ?_
      exact hKx162  M h35
    · have h36 := h33.2 c34
      refine kr_iload_n 2 dX8_choose_123 rfl (k := ?_)
      refine kr_aload_n 1 dX8_choose_124 rfl (k := ?_)
      refine kr_iload 4 dX8_choose_125 rfl (k := ?_)
      refine kn_callVi [.int v4] [.int v2] mvX8_pairBits lkM_X8_241 (kg_o8a ho) rfl (kg_o8n ho) dX8_choose_127 (sp_X8_pairBits ho h36) (fun r39 M37 h38 => ?_)
      refine kr_iand dX8_choose_130 (k := ?_)
      refine kr_if_ne 162 dX8_choose_131 (fun c40 => ?_) (fun c40 => ?_)
      · have h41 := h38.1 c40
        refine kr_sub [] [] rfl ?_
        exact hKx162  M37 h41
      · have h42 := h38.2 c40
        refine kr_iload 4 dX8_choose_134 rfl (k := ?_)
        refine kr_bipush (21 : Int32) dX8_choose_136 (k := ?_)
        refine kr_icmp_ge 164 dX8_choose_138 (fun c43 => ?_) (fun c43 => ?_)
        · have h44 := h42.1 c43
          refine kr_sub [1, 2, 3, 4] [(0, .ref (kg_b G + 117)), (2, .int v2), (3, .int v3), (4, .int v4)] rfl ?_
          exact sJ_X8_choose_164 ho hKb hKx162 hKx179 v2 v3 v4 M37 h44
        · have h45 := h42.2 c43
          refine kr_aload_n 1 dX8_choose_141 rfl (k := ?_)
          refine kr_aload_n 1 dX8_choose_142 rfl (k := ?_)
          refine kr_getR 6 ckX8 lkF_X8_19 rfl (kg_o8a ho) (kg_o8n ho) (kg_o8r6 ho) dX8_choose_143 (k := ?_)
          refine kr_iload 4 dX8_choose_146 rfl (k := ?_)
          obtain ⟨h50, h51⟩ := h45
          refine kr_iald (kg_o8s6 ho) (kg_o8m6 ho) h50 dX8_choose_148 (k := ?_)
          refine kr_aload_n 1 dX8_choose_149 rfl (k := ?_)
          refine kr_getR 7 ckX8 lkF_X8_22 rfl (kg_o8a ho) (kg_o8n ho) (kg_o8r7 ho) dX8_choose_150 (k := ?_)
          refine kr_iload 4 dX8_choose_153 rfl (k := ?_)
          obtain ⟨h52, h53⟩ := h51
          refine kr_iald (kg_o8s7 ho) (kg_o8m7 ho) h52 dX8_choose_155 (k := ?_)
          refine kn_callVz [.int (M37 121 v4.toNatClampNeg), .int (M37 122 v4.toNatClampNeg)] [] mvX8_like lkM_X8_162 (kg_o8a ho) rfl (kg_o8n ho) dX8_choose_156 (sp_X8_like ho h53) (fun r56 M54 _ h55 => ?_)
          refine kr_if_ne 164 dX8_choose_159 (fun c57 => ?_) (fun c57 => ?_)
          · have h58 := h55.1 c57
            refine kr_sub [1, 2, 3, 4] [(0, .ref (kg_b G + 117)), (2, .int v2), (3, .int v3), (4, .int v4)] rfl ?_
            exact sJ_X8_choose_164 ho hKb hKx162 hKx179 v2 v3 v4 M54 h58
          · have h59 := h55.2 c57
            refine kr_sub [] [] rfl ?_
            exact hKx162  M54 h59
set_option maxRecDepth 100000 in
set_option maxHeartbeats 4000000 in
theorem sJ_X8_choose_80 {G : kg_G} {E : State → Array Value → Prop} {R : kg_R} {n : Nat} {K : Int32 → kg_M → Prop} (ho : kg_O8 R n 117) {Kb : Int32 → Int32 → kg_M → Prop} {Kx162 : kg_M → Prop} {Kx179 : Int32 → kg_M → Prop} (hKb : ∀ (v2 : Int32) (v3 : Int32) (M : kg_M), Kb v2 v3 M → kg_Run G E qX8_choose 1 38 [(0, .ref (kg_b G + 117)), (2, .int v2), (3, .int v3)] [] M R n 0 0 (kg_I R n K)) (hKx162 : ∀ (M : kg_M), Kx162 M → kg_Run G E qX8_choose 1 162 [] [] M R n 0 0 (kg_I R n K)) (hKx179 : ∀ (v2 : Int32) (M : kg_M), Kx179 v2 M → kg_Run G E qX8_choose 1 179 [(2, .int v2)] [] M R n 0 0 (kg_I R n K)) (v2 : Int32) (v3 : Int32) (v4 : Int32) (s0 : Int32) (M : kg_M) (h26 : wJ_X8_choose_80  Kb Kx162 Kx179 K v2 v3 v4 s0 M) : kg_Run G E qX8_choose 1 80 [(0, .ref (kg_b G + 117)), (2, .int v2), (3, .int v3), (4, .int v4)] [.int s0] M R n 0 0 (kg_I R n K) := by
  unfold wJ_X8_choose_80 at h26
  refine kr_istore [(5, .int s0), (0, .ref (kg_b G + 117)), (2, .int v2), (3, .int v3), (4, .int v4)] dX8_choose_80 (k := ?_)
  refine kr_iload 4 dX8_choose_82 rfl (k := ?_)
  refine kr_bipush (21 : Int32) dX8_choose_84 (k := ?_)
  refine kr_icmp_ge 110 dX8_choose_86 (fun c27 => ?_) (fun c27 => ?_)
  · have h28 := h26.1 c27
    refine kr_iconst (0 : Int32) dX8_choose_110 (k := ?_)
    refine kr_sub [1, 2, 3, 4, 0] [(0, .ref (kg_b G + 117)), (2, .int v2), (3, .int v3), (4, .int v4), (5, .int s0)] rfl ?_
    exact sJ_X8_choose_111 ho hKb hKx162 hKx179 v2 v3 v4 s0 (0 : Int32) M h28
  · have h29 := h26.2 c27
    refine kr_iload_n 3 dX8_choose_89 rfl (k := ?_)
    refine kr_if_le 110 dX8_choose_90 (fun c60 => ?_) (fun c60 => ?_)
    · have h61 := h29.1 c60
      refine kr_iconst (0 : Int32) dX8_choose_110 (k := ?_)
      refine kr_sub [1, 2, 3, 4, 0] [(0, .ref (kg_b G + 117)), (2, .int v2), (3, .int v3), (4, .int v4), (5, .int s0)] rfl ?_
      exact sJ_X8_choose_111 ho hKb hKx162 hKx179 v2 v3 v4 s0 (0 : Int32) M h61
    · have h62 := h29.2 c60
      refine kr_aload_n 1 dX8_choose_93 rfl (k := ?_)
      refine kr_getR 22 ckX8 lkF_X8_47 rfl (kg_o8a ho) (kg_o8n ho) (kg_o8r22 ho) dX8_choose_94 (k := ?_)
      refine kr_iload_n 3 dX8_choose_97 rfl (k := ?_)
      refine kr_iconst (1 : Int32) dX8_choose_98 (k := ?_)
      refine kr_isub dX8_choose_99 (k := ?_)
      obtain ⟨h63, h64⟩ := h62
      refine kr_iald (kg_o8s22 ho) (kg_o8m22 ho) h63 dX8_choose_100 (k := ?_)
      refine kr_bipush (21 : Int32) dX8_choose_101 (k := ?_)
      refine kr_icmp_ne 110 dX8_choose_103 (fun c65 => ?_) (fun c65 => ?_)
      · have h66 := h64.1 c65
        refine kr_iconst (0 : Int32) dX8_choose_110 (k := ?_)
        refine kr_sub [1, 2, 3, 4, 0] [(0, .ref (kg_b G + 117)), (2, .int v2), (3, .int v3), (4, .int v4), (5, .int s0)] rfl ?_
        exact sJ_X8_choose_111 ho hKb hKx162 hKx179 v2 v3 v4 s0 (0 : Int32) M h66
      · have h67 := h64.2 c65
        refine kr_iconst (1 : Int32) dX8_choose_106 (k := ?_)
        refine kr_goto 111 dX8_choose_107 ?_
        refine kr_sub [1, 2, 3, 4, 0] [(0, .ref (kg_b G + 117)), (2, .int v2), (3, .int v3), (4, .int v4), (5, .int s0)] rfl ?_
        exact sJ_X8_choose_111 ho hKb hKx162 hKx179 v2 v3 v4 s0 (1 : Int32) M h67
set_option maxRecDepth 100000 in
set_option maxHeartbeats 4000000 in
theorem sL_X8_choose_38 {G : kg_G} {E : State → Array Value → Prop} {R : kg_R} {n : Nat} {K : Int32 → kg_M → Prop} (ho : kg_O8 R n 117) {Kx162 : kg_M → Prop} {Kx179 : Int32 → kg_M → Prop} (hKx162 : ∀ (M : kg_M), Kx162 M → kg_Run G E qX8_choose 1 162 [] [] M R n 0 0 (kg_I R n K)) (hKx179 : ∀ (v2 : Int32) (M : kg_M), Kx179 v2 M → kg_Run G E qX8_choose 1 179 [(2, .int v2)] [] M R n 0 0 (kg_I R n K)) : ∀ (f : Nat) (v2 : Int32) (v3 : Int32) (M : kg_M), wL_X8_choose_38  Kx162 Kx179 K f v2 v3 M → kg_Run G E qX8_choose 1 38 [(0, .ref (kg_b G + 117)), (2, .int v2), (3, .int v3)] [] M R n 0 0 (kg_I R n K) := by
  intro f
  induction f with
  | zero => intro v2 v3 M h0; exact h0.elim
  | succ f ih =>
    intro v2 v3 M h17
    rw [wL_X8_choose_38] at h17
    refine kr_iload_n 2 dX8_choose_38 rfl (k := ?_)
    refine kr_iconst (3 : Int32) dX8_choose_39 (k := ?_)
    refine kr_icmp_ge 179 dX8_choose_40 (fun c18 => ?_) (fun c18 => ?_)
    · have h19 := h17.1 c18
      refine kr_sub [1] [(2, .int v2)] rfl ?_
      exact hKx179 v2 M h19
    · have h20 := h17.2 c18
      refine kr_aload_n 0 dX8_choose_43 rfl (k := ?_)
      refine kr_getR 22 ckX8 lkF_X8_47 rfl (kg_o8a ho) (kg_o8n ho) (kg_o8r22 ho) dX8_choose_44 (k := ?_)
      refine kr_iload_n 2 dX8_choose_47 rfl (k := ?_)
      obtain ⟨h21, h22⟩ := h20
      refine kr_iald (kg_o8s22 ho) (kg_o8m22 ho) h21 dX8_choose_48 (k := ?_)
      refine kr_istore [(4, .int (M 129 v3.toNatClampNeg)), (0, .ref (kg_b G + 117)), (2, .int v2), (3, .int v3)] dX8_choose_49 (k := ?_)
      refine kr_iload_n 3 dX8_choose_51 rfl (k := ?_)
      refine kr_if_eq 75 dX8_choose_52 (fun c23 => ?_) (fun c23 => ?_)
      · have h24 := h22.1 c23
        refine kr_iconst (1 : Int32) dX8_choose_75 (k := ?_)
        refine kr_goto 80 dX8_choose_76 ?_
        refine kr_sub [1, 2, 3, 0] [(0, .ref (kg_b G + 117)), (2, .int v2), (3, .int v3), (4, .int (M 129 v3.toNatClampNeg))] rfl ?_
        exact sJ_X8_choose_80 ho ih hKx162 hKx179 v2 v3 (M 129 v3.toNatClampNeg) (1 : Int32) M h24
      · have h25 := h22.2 c23
        refine kr_iload 0 dX8_choose_55 rfl (k := ?_)
        refine kr_bipush (21 : Int32) dX8_choose_57 (k := ?_)
        refine kr_icmp_eq 75 dX8_choose_59 (fun c68 => ?_) (fun c68 => ?_)
        · have h69 := h25.1 c68
          refine kr_iconst (1 : Int32) dX8_choose_75 (k := ?_)
          refine kr_goto 80 dX8_choose_76 ?_
          refine kr_sub [1, 2, 3, 0] [(0, .ref (kg_b G + 117)), (2, .int v2), (3, .int v3), (4, .int (M 129 v3.toNatClampNeg))] rfl ?_
          exact sJ_X8_choose_80 ho ih hKx162 hKx179 v2 v3 (M 129 v3.toNatClampNeg) (1 : Int32) M h69
        · have h70 := h25.2 c68
          refine kr_aload_n 1 dX8_choose_62 rfl (k := ?_)
          refine kr_getR 22 ckX8 lkF_X8_47 rfl (kg_o8a ho) (kg_o8n ho) (kg_o8r22 ho) dX8_choose_63 (k := ?_)
          refine kr_iload_n 3 dX8_choose_66 rfl (k := ?_)
          refine kr_iconst (1 : Int32) dX8_choose_67 (k := ?_)
          refine kr_isub dX8_choose_68 (k := ?_)
          obtain ⟨h71, h72⟩ := h70
          refine kr_iald (kg_o8s22 ho) (kg_o8m22 ho) h71 dX8_choose_69 (k := ?_)
          refine kr_iload 0 dX8_choose_70 rfl (k := ?_)
          refine kr_icmp_ge 79 dX8_choose_72 (fun c73 => ?_) (fun c73 => ?_)
          · have h74 := h72.1 c73
            refine kr_iconst (0 : Int32) dX8_choose_79 (k := ?_)
            refine kr_sub [1, 2, 3, 0] [(0, .ref (kg_b G + 117)), (2, .int v2), (3, .int v3), (4, .int (M 129 v3.toNatClampNeg))] rfl ?_
            exact sJ_X8_choose_80 ho ih hKx162 hKx179 v2 v3 (M 129 v3.toNatClampNeg) (0 : Int32) M h74
          · have h75 := h72.2 c73
            refine kr_iconst (1 : Int32) dX8_choose_75 (k := ?_)
            refine kr_goto 80 dX8_choose_76 ?_
            refine kr_sub [1, 2, 3, 0] [(0, .ref (kg_b G + 117)), (2, .int v2), (3, .int v3), (4, .int (M 129 v3.toNatClampNeg))] rfl ?_
            exact sJ_X8_choose_80 ho ih hKx162 hKx179 v2 v3 (M 129 v3.toNatClampNeg) (1 : Int32) M h75
set_option maxRecDepth 100000 in
set_option maxHeartbeats 4000000 in
theorem sp_X8_choose {G : kg_G} {E : State → Array Value → Prop} {R : kg_R} {n : Nat} {K : Int32 → kg_M → Prop} (ho : kg_O8 R n 117) {v1 : Int32} {M : kg_M} (h1 : wp_X8_choose v1 M K) : kg_Run G E qX8_choose 1 0 [(0, .ref (kg_b G + 117)), (1, .int v1)] [] M R n 0 0 (kg_I R n K) := by
  unfold wp_X8_choose at h1
  refine kr_aload_n 0 dX8_choose_0 rfl (k := ?_)
  refine kr_getR 22 ckX8 lkF_X8_47 rfl (kg_o8a ho) (kg_o8n ho) (kg_o8r22 ho) dX8_choose_1 (k := ?_)
  refine kr_iconst (0 : Int32) dX8_choose_4 (k := ?_)
  refine kr_iload_n 1 dX8_choose_5 rfl (k := ?_)
  refine kr_sipush (484 : Int32) dX8_choose_6 (k := ?_)
  refine kr_idiv dX8_choose_9 (by decide) (k := ?_)
  obtain ⟨h2, h3⟩ := h1
  refine kn_iast (kg_o8s22 ho) (kg_o8m22 ho) h2 dX8_choose_10 (fun M4 e5 => ?_)
  have h6 := h3 M4 e5
  refine kr_aload_n 0 dX8_choose_11 rfl (k := ?_)
  refine kr_getR 22 ckX8 lkF_X8_47 rfl (kg_o8a ho) (kg_o8n ho) (kg_o8r22 ho) dX8_choose_12 (k := ?_)
  refine kr_iconst (1 : Int32) dX8_choose_15 (k := ?_)
  refine kr_iload_n 1 dX8_choose_16 rfl (k := ?_)
  refine kr_bipush (22 : Int32) dX8_choose_17 (k := ?_)
  refine kr_idiv dX8_choose_19 (by decide) (k := ?_)
  refine kr_bipush (22 : Int32) dX8_choose_20 (k := ?_)
  refine kr_irem dX8_choose_22 (by decide) (k := ?_)
  obtain ⟨h7, h8⟩ := h6
  refine kn_iast (kg_o8s22 ho) (kg_o8m22 ho) h7 dX8_choose_23 (fun M9 e10 => ?_)
  have h11 := h8 M9 e10
  refine kr_aload_n 0 dX8_choose_24 rfl (k := ?_)
  refine kr_getR 22 ckX8 lkF_X8_47 rfl (kg_o8a ho) (kg_o8n ho) (kg_o8r22 ho) dX8_choose_25 (k := ?_)
  refine kr_iconst (2 : Int32) dX8_choose_28 (k := ?_)
  refine kr_iload_n 1 dX8_choose_29 rfl (k := ?_)
  refine kr_bipush (22 : Int32) dX8_choose_30 (k := ?_)
  refine kr_irem dX8_choose_32 (by decide) (k := ?_)
  obtain ⟨h12, h13⟩ := h11
  refine kn_iast (kg_o8s22 ho) (kg_o8m22 ho) h12 dX8_choose_33 (fun M14 e15 => ?_)
  have h16 := h13 M14 e15
  refine kr_iconst (0 : Int32) dX8_choose_34 (k := ?_)
  refine kr_istore_n [(2, .int (0 : Int32)), (0, .ref (kg_b G + 117)), (1, .int v1)] dX8_choose_35 (k := ?_)
  refine kr_iconst (0 : Int32) dX8_choose_36 (k := ?_)
  refine kr_istore_n [(3, .int (0 : Int32)), (2, .int (0 : Int32)), (0, .ref (kg_b G + 117)), (1, .int v1)] dX8_choose_37 (k := ?_)
  refine kr_sub [2, 1, 0] [(0, .ref (kg_b G + 117)), (2, .int (0 : Int32)), (3, .int (0 : Int32))] rfl ?_
  obtain ⟨f78, h79⟩ := h16
  refine sL_X8_choose_38 ho ?_ ?_ f78 (0 : Int32) (0 : Int32) M14 h79
  · intro  M h76
    refine kr_iconst (-1 : Int32) dX8_choose_162 (k := ?_)
    exact kr_ireturn dX8_choose_163 ⟨rfl, rfl, _, rfl, h76⟩
  · intro v2 M h77
    refine kr_iload_n 0 dX8_choose_179 rfl (k := ?_)
    exact kr_ireturn dX8_choose_180 ⟨rfl, rfl, _, rfl, h77⟩
set_option maxRecDepth 100000 in
set_option maxHeartbeats 4000000 in
theorem sL_X8_canMeet_20 {G : kg_G} {E : State → Array Value → Prop} {R : kg_R} {n : Nat} {K : Int32 → kg_M → Prop} (ho : kg_O8 R n 117) {Kx81 : Int32 → kg_M → Prop} (hKx81 : ∀ (v4 : Int32) (M : kg_M), Kx81 v4 M → kg_Run G E qX8_canMeet 2 81 [(4, .int v4)] [] M R n 0 0 (kg_Z R n K)) : ∀ (f : Nat) (v1 : Int32) (v4 : Int32) (v5 : Int32) (M : kg_M), wL_X8_canMeet_20  Kx81 K f v1 v4 v5 M → kg_Run G E qX8_canMeet 2 20 [(0, .ref (kg_b G + 117)), (1, .int v1), (4, .int v4), (5, .int v5)] [] M R n 0 0 (kg_Z R n K) := by
  intro f
  induction f with
  | zero => intro v1 v4 v5 M h0; exact h0.elim
  | succ f ih =>
    intro v1 v4 v5 M h8
    rw [wL_X8_canMeet_20] at h8
    refine kr_iload 3 dX8_canMeet_20 rfl (k := ?_)
    refine kr_iconst (3 : Int32) dX8_canMeet_22 (k := ?_)
    refine kr_icmp_ge 81 dX8_canMeet_23 (fun c9 => ?_) (fun c9 => ?_)
    · have h10 := h8.1 c9
      refine kr_sub [2] [(4, .int v4)] rfl ?_
      exact hKx81 v4 M h10
    · have h11 := h8.2 c9
      refine kr_aload_n 0 dX8_canMeet_26 rfl (k := ?_)
      refine kr_getR 22 ckX8 lkF_X8_47 rfl (kg_o8a ho) (kg_o8n ho) (kg_o8r22 ho) dX8_canMeet_27 (k := ?_)
      refine kr_iload 3 dX8_canMeet_30 rfl (k := ?_)
      obtain ⟨h12, h13⟩ := h11
      refine kr_iald (kg_o8s22 ho) (kg_o8m22 ho) h12 dX8_canMeet_32 (k := ?_)
      refine kr_istore [(6, .int (M 129 v5.toNatClampNeg)), (0, .ref (kg_b G + 117)), (1, .int v1), (4, .int v4), (5, .int v5)] dX8_canMeet_33 (k := ?_)
      refine kr_iload 3 dX8_canMeet_35 rfl (k := ?_)
      refine kr_if_eq 72 dX8_canMeet_37 (fun c14 => ?_) (fun c14 => ?_)
      · have h15 := h13.1 c14
        refine kr_iconst (0 : Int32) dX8_canMeet_72 (k := ?_)
        refine kr_istore [(4, .int (0 : Int32)), (6, .int (M 129 v5.toNatClampNeg)), (0, .ref (kg_b G + 117)), (1, .int v1), (5, .int v5)] dX8_canMeet_73 (k := ?_)
        refine kr_iinc (1 : Int32) 4 [(5, .int (v5 + (1 : Int32))), (4, .int (0 : Int32)), (6, .int (M 129 v5.toNatClampNeg)), (0, .ref (kg_b G + 117)), (1, .int v1)] dX8_canMeet_75 rfl (k := ?_)
        refine kr_goto 20 dX8_canMeet_78 ?_
        refine kr_sub [3, 4, 1, 0] [(0, .ref (kg_b G + 117)), (1, .int v1), (4, .int (0 : Int32)), (5, .int (v5 + (1 : Int32)))] rfl ?_
        exact ih v1 (0 : Int32) (v5 + (1 : Int32)) M h15
      · have h16 := h13.2 c14
        refine kr_iload 0 dX8_canMeet_40 rfl (k := ?_)
        refine kr_bipush (21 : Int32) dX8_canMeet_42 (k := ?_)
        refine kr_icmp_eq 68 dX8_canMeet_44 (fun c17 => ?_) (fun c17 => ?_)
        · have h18 := h16.1 c17
          refine kr_iconst (1 : Int32) dX8_canMeet_68 (k := ?_)
          refine kr_goto 73 dX8_canMeet_69 ?_
          refine kr_istore [(4, .int (1 : Int32)), (6, .int (M 129 v5.toNatClampNeg)), (0, .ref (kg_b G + 117)), (1, .int v1), (5, .int v5)] dX8_canMeet_73 (k := ?_)
          refine kr_iinc (1 : Int32) 4 [(5, .int (v5 + (1 : Int32))), (4, .int (1 : Int32)), (6, .int (M 129 v5.toNatClampNeg)), (0, .ref (kg_b G + 117)), (1, .int v1)] dX8_canMeet_75 rfl (k := ?_)
          refine kr_goto 20 dX8_canMeet_78 ?_
          refine kr_sub [3, 4, 1, 0] [(0, .ref (kg_b G + 117)), (1, .int v1), (4, .int (1 : Int32)), (5, .int (v5 + (1 : Int32)))] rfl ?_
          exact ih v1 (1 : Int32) (v5 + (1 : Int32)) M h18
        · have h19 := h16.2 c17
          refine kr_iload_n 2 dX8_canMeet_47 rfl (k := ?_)
          refine kr_aload_n 1 dX8_canMeet_48 rfl (k := ?_)
          refine kr_getR 6 ckX8 lkF_X8_19 rfl (kg_o8a ho) (kg_o8n ho) (kg_o8r6 ho) dX8_canMeet_49 (k := ?_)
          refine kr_iload 0 dX8_canMeet_52 rfl (k := ?_)
          obtain ⟨h20, h21⟩ := h19
          refine kr_iald (kg_o8s6 ho) (kg_o8m6 ho) h20 dX8_canMeet_54 (k := ?_)
          refine kr_aload_n 1 dX8_canMeet_55 rfl (k := ?_)
          refine kr_getR 7 ckX8 lkF_X8_22 rfl (kg_o8a ho) (kg_o8n ho) (kg_o8r7 ho) dX8_canMeet_56 (k := ?_)
          refine kr_iload 0 dX8_canMeet_59 rfl (k := ?_)
          obtain ⟨h22, h23⟩ := h21
          refine kr_iald (kg_o8s7 ho) (kg_o8m7 ho) h22 dX8_canMeet_61 (k := ?_)
          refine kn_callSz [.int v1, .int (M 121 (M 129 v5.toNatClampNeg).toNatClampNeg), .int (M 122 (M 129 v5.toNatClampNeg).toNatClampNeg)] [] msX8_apart lkM_X8_272 dX8_canMeet_62 (sp_X8_apart  h23) (fun r26 M24 _ h25 => ?_)
          refine kr_if_eq 72 dX8_canMeet_65 (fun c27 => ?_) (fun c27 => ?_)
          · have h28 := h25.1 c27
            refine kr_iconst (0 : Int32) dX8_canMeet_72 (k := ?_)
            refine kr_istore [(4, .int (0 : Int32)), (6, .int (M 129 v5.toNatClampNeg)), (0, .ref (kg_b G + 117)), (1, .int v1), (5, .int v5)] dX8_canMeet_73 (k := ?_)
            refine kr_iinc (1 : Int32) 4 [(5, .int (v5 + (1 : Int32))), (4, .int (0 : Int32)), (6, .int (M 129 v5.toNatClampNeg)), (0, .ref (kg_b G + 117)), (1, .int v1)] dX8_canMeet_75 rfl (k := ?_)
            refine kr_goto 20 dX8_canMeet_78 ?_
            refine kr_sub [3, 4, 1, 0] [(0, .ref (kg_b G + 117)), (1, .int v1), (4, .int (0 : Int32)), (5, .int (v5 + (1 : Int32)))] rfl ?_
            exact ih v1 (0 : Int32) (v5 + (1 : Int32)) M24 h28
          · have h29 := h25.2 c27
            refine kr_iconst (1 : Int32) dX8_canMeet_68 (k := ?_)
            refine kr_goto 73 dX8_canMeet_69 ?_
            refine kr_istore [(4, .int (1 : Int32)), (6, .int (M 129 v5.toNatClampNeg)), (0, .ref (kg_b G + 117)), (1, .int v1), (5, .int v5)] dX8_canMeet_73 (k := ?_)
            refine kr_iinc (1 : Int32) 4 [(5, .int (v5 + (1 : Int32))), (4, .int (1 : Int32)), (6, .int (M 129 v5.toNatClampNeg)), (0, .ref (kg_b G + 117)), (1, .int v1)] dX8_canMeet_75 rfl (k := ?_)
            refine kr_goto 20 dX8_canMeet_78 ?_
            refine kr_sub [3, 4, 1, 0] [(0, .ref (kg_b G + 117)), (1, .int v1), (4, .int (1 : Int32)), (5, .int (v5 + (1 : Int32)))] rfl ?_
            exact ih v1 (1 : Int32) (v5 + (1 : Int32)) M24 h29
set_option maxRecDepth 100000 in
set_option maxHeartbeats 4000000 in
theorem sp_X8_canMeet {G : kg_G} {E : State → Array Value → Prop} {R : kg_R} {n : Nat} {K : Int32 → kg_M → Prop} (ho : kg_O8 R n 117) {v1 : Int32} {v2 : Int32} {M : kg_M} (h1 : wp_X8_canMeet v1 v2 M K) : kg_Run G E qX8_canMeet 2 0 [(0, .ref (kg_b G + 117)), (1, .int v1), (2, .int v2)] [] M R n 0 0 (kg_Z R n K) := by
  unfold wp_X8_canMeet at h1
  refine kr_aload_n 0 dX8_canMeet_0 rfl (k := ?_)
  refine kr_iload_n 2 dX8_canMeet_1 rfl (k := ?_)
  refine kn_callVi [.int v2] [] mvX8_choose lkM_X8_253 (kg_o8a ho) rfl (kg_o8n ho) dX8_canMeet_2 (sp_X8_choose ho h1) (fun r4 M2 h3 => ?_)
  refine kr_istore_n [(3, .int r4), (0, .ref (kg_b G + 117)), (1, .int v1), (2, .int v2)] dX8_canMeet_5 (k := ?_)
  refine kr_iload_n 0 dX8_canMeet_6 rfl (k := ?_)
  refine kr_if_lt 14 dX8_canMeet_7 (fun c5 => ?_) (fun c5 => ?_)
  · have h6 := h3.1 c5
    refine kr_iconst (0 : Int32) dX8_canMeet_14 (k := ?_)
    refine kr_istore [(4, .int (0 : Int32)), (3, .int r4), (0, .ref (kg_b G + 117)), (1, .int v1), (2, .int v2)] dX8_canMeet_15 (k := ?_)
    refine kr_iconst (0 : Int32) dX8_canMeet_17 (k := ?_)
    refine kr_istore [(5, .int (0 : Int32)), (4, .int (0 : Int32)), (3, .int r4), (0, .ref (kg_b G + 117)), (1, .int v1), (2, .int v2)] dX8_canMeet_18 (k := ?_)
    refine kr_sub [3, 4, 1, 0] [(0, .ref (kg_b G + 117)), (1, .int v1), (4, .int (0 : Int32)), (5, .int (0 : Int32))] rfl ?_
    obtain ⟨f31, h32⟩ := h6
    refine sL_X8_canMeet_20 ho ?_ f31 v1 (0 : Int32) (0 : Int32) M2 h32
    · intro v4 M h30
      refine kr_iload 0 dX8_canMeet_81 rfl (k := ?_)
      exact kr_ireturn dX8_canMeet_83 ⟨rfl, rfl, _, rfl, h30.1, h30.2⟩
  · have h7 := h3.2 c5
    refine kr_iconst (1 : Int32) dX8_canMeet_10 (k := ?_)
    refine kr_goto 15 dX8_canMeet_11 ?_
    refine kr_istore [(4, .int (1 : Int32)), (3, .int r4), (0, .ref (kg_b G + 117)), (1, .int v1), (2, .int v2)] dX8_canMeet_15 (k := ?_)
    refine kr_iconst (0 : Int32) dX8_canMeet_17 (k := ?_)
    refine kr_istore [(5, .int (0 : Int32)), (4, .int (1 : Int32)), (3, .int r4), (0, .ref (kg_b G + 117)), (1, .int v1), (2, .int v2)] dX8_canMeet_18 (k := ?_)
    refine kr_sub [3, 4, 1, 0] [(0, .ref (kg_b G + 117)), (1, .int v1), (4, .int (1 : Int32)), (5, .int (0 : Int32))] rfl ?_
    obtain ⟨f34, h35⟩ := h7
    refine sL_X8_canMeet_20 ho ?_ f34 v1 (1 : Int32) (0 : Int32) M2 h35
    · intro v4 M h33
      refine kr_iload 0 dX8_canMeet_81 rfl (k := ?_)
      exact kr_ireturn dX8_canMeet_83 ⟨rfl, rfl, _, rfl, h33.1, h33.2⟩
set_option maxRecDepth 100000 in
set_option maxHeartbeats 4000000 in
theorem sL_X8_anHour_2 {G : kg_G} {E : State → Array Value → Prop} {R : kg_R} {n : Nat} {K : kg_M → Prop} (ho : kg_O8 R n 117) {Kx27 : kg_M → Prop} (hKx27 : ∀ (M : kg_M), Kx27 M → kg_Run G E qX8_anHour 3 27 [(0, .ref (kg_b G + 117))] [] M R n 0 0 (kg_V R n K)) : ∀ (f : Nat) (v1 : Int32) (M : kg_M), wL_X8_anHour_2  Kx27 K f v1 M → kg_Run G E qX8_anHour 3 2 [(0, .ref (kg_b G + 117)), (1, .int v1)] [] M R n 0 0 (kg_V R n K) := by
  intro f
  induction f with
  | zero => intro v1 M h0; exact h0.elim
  | succ f ih =>
    intro v1 M h2
    rw [wL_X8_anHour_2] at h2
    refine kr_iload_n 1 dX8_anHour_2 rfl (k := ?_)
    refine kr_sipush (128 : Int32) dX8_anHour_3 (k := ?_)
    refine kr_icmp_ge 27 dX8_anHour_6 (fun c3 => ?_) (fun c3 => ?_)
    · have h4 := h2.1 c3
      refine kr_sub [0] [(0, .ref (kg_b G + 117))] rfl ?_
      exact hKx27  M h4
    · have h5 := h2.2 c3
      refine kr_aload_n 0 dX8_anHour_9 rfl (k := ?_)
      refine kr_getR 31 ckX8 lkF_X8_66 rfl (kg_o8a ho) (kg_o8n ho) (kg_o8r31 ho) dX8_anHour_10 (k := ?_)
      refine kr_iload_n 1 dX8_anHour_13 rfl (k := ?_)
      refine kr_aload_n 0 dX8_anHour_14 rfl (k := ?_)
      refine kr_getR 30 ckX8 lkF_X8_62 rfl (kg_o8a ho) (kg_o8n ho) (kg_o8r30 ho) dX8_anHour_15 (k := ?_)
      refine kr_iload_n 1 dX8_anHour_18 rfl (k := ?_)
      obtain ⟨h6, h7⟩ := h5
      refine kr_zald (kg_o8s30 ho) (kg_o8m30 ho) h6 dX8_anHour_19 (k := ?_)
      obtain ⟨h8, h9, h10⟩ := h7
      refine kn_zast (kg_o8s31 ho) (kg_o8m31 ho) h8 (kg_nz h9) dX8_anHour_20 (fun M11 e12 => ?_)
      have h13 := h10 M11 e12
      refine kr_iinc (1 : Int32) 1 [(1, .int (v1 + (1 : Int32))), (0, .ref (kg_b G + 117))] dX8_anHour_21 rfl (k := ?_)
      refine kr_goto 2 dX8_anHour_24 ?_
      refine kr_sub [1, 0] [(0, .ref (kg_b G + 117)), (1, .int (v1 + (1 : Int32)))] rfl ?_
      exact ih (v1 + (1 : Int32)) M11 h13
set_option maxRecDepth 100000 in
set_option maxHeartbeats 4000000 in
theorem sJ_X8_anHour_76 {G : kg_G} {E : State → Array Value → Prop} {R : kg_R} {n : Nat} {K : kg_M → Prop} (ho : kg_O8 R n 117) {Kb : Int32 → Int32 → kg_M → Prop} {Kx115 : Int32 → kg_M → Prop} (hKb : ∀ (v1 : Int32) (v2 : Int32) (M : kg_M), Kb v1 v2 M → kg_Run G E qX8_anHour 3 38 [(0, .ref (kg_b G + 117)), (1, .int v1), (2, .int v2)] [] M R n 0 0 (kg_V R n K)) (hKx115 : ∀ (v1 : Int32) (M : kg_M), Kx115 v1 M → kg_Run G E qX8_anHour 3 115 [(0, .ref (kg_b G + 117)), (1, .int v1)] [] M R n 0 0 (kg_V R n K)) (v1 : Int32) (v2 : Int32) (s0 : Int32) (M : kg_M) (h35 : wJ_X8_anHour_76  Kb Kx115 K v1 v2 s0 M) : kg_Run G E qX8_anHour 3 76 [(0, .ref (kg_b G + 117)), (1, .int v1), (2, .int v2)] [.int s0] M R n 0 0 (kg_V R n K) := by
  unfold wJ_X8_anHour_76 at h35
  refine kr_istore_n [(3, .int s0), (0, .ref (kg_b G + 117)), (1, .int v1), (2, .int v2)] dX8_anHour_76 (k := ?_)
  refine kr_iload_n 0 dX8_anHour_77 rfl (k := ?_)
  refine kr_if_eq 109 dX8_anHour_78 (fun c36 => ?_) (fun c36 => ?_)
  · have h37 := h35.1 c36
    refine kr_iinc (1 : Int32) 3 [(2, .int (v2 + (1 : Int32))), (3, .int s0), (0, .ref (kg_b G + 117)), (1, .int v1)] dX8_anHour_109 rfl (k := ?_)
    refine kr_goto 38 dX8_anHour_112 ?_
    refine kr_sub [2, 3, 0] [(0, .ref (kg_b G + 117)), (1, .int v1), (2, .int (v2 + (1 : Int32)))] rfl ?_
    exact hKb v1 (v2 + (1 : Int32)) M h37
  · have h38 := h35.2 c36
    refine kr_aload_n 1 dX8_anHour_81 rfl (k := ?_)
    refine kr_iload_n 2 dX8_anHour_82 rfl (k := ?_)
    refine kr_aload_n 1 dX8_anHour_83 rfl (k := ?_)
    refine kr_getR 28 ckX8 lkF_X8_59 rfl (kg_o8a ho) (kg_o8n ho) (kg_o8r28 ho) dX8_anHour_84 (k := ?_)
    refine kr_iload_n 3 dX8_anHour_87 rfl (k := ?_)
    obtain ⟨h39, h40⟩ := h38
    refine kr_iald (kg_o8s28 ho) (kg_o8m28 ho) h39 dX8_anHour_88 (k := ?_)
    refine kn_callVz [.int v1, .int (M 133 v2.toNatClampNeg)] [] mvX8_canMeet lkM_X8_276 (kg_o8a ho) rfl (kg_o8n ho) dX8_anHour_89 (sp_X8_canMeet ho h40) (fun r43 M41 _ h42 => ?_)
    refine kr_if_eq 109 dX8_anHour_92 (fun c44 => ?_) (fun c44 => ?_)
    · have h45 := h42.1 c44
      refine kr_iinc (1 : Int32) 3 [(2, .int (v2 + (1 : Int32))), (3, .int s0), (0, .ref (kg_b G + 117)), (1, .int v1)] dX8_anHour_109 rfl (k := ?_)
      refine kr_goto 38 dX8_anHour_112 ?_
      refine kr_sub [2, 3, 0] [(0, .ref (kg_b G + 117)), (1, .int v1), (2, .int (v2 + (1 : Int32)))] rfl ?_
      exact hKb v1 (v2 + (1 : Int32)) M41 h45
    · have h46 := h42.2 c44
      refine kr_aload_n 1 dX8_anHour_95 rfl (k := ?_)
      refine kr_getR 31 ckX8 lkF_X8_66 rfl (kg_o8a ho) (kg_o8n ho) (kg_o8r31 ho) dX8_anHour_96 (k := ?_)
      refine kr_iload_n 2 dX8_anHour_99 rfl (k := ?_)
      refine kr_aload_n 1 dX8_anHour_100 rfl (k := ?_)
      refine kr_getR 27 ckX8 lkF_X8_56 rfl (kg_o8a ho) (kg_o8n ho) (kg_o8r27 ho) dX8_anHour_101 (k := ?_)
      refine kr_iload_n 3 dX8_anHour_104 rfl (k := ?_)
      obtain ⟨h47, h48⟩ := h46
      refine kr_iald (kg_o8s27 ho) (kg_o8m27 ho) h47 dX8_anHour_105 (k := ?_)
      refine kr_ixor dX8_anHour_106 (k := ?_)
      refine kr_iconst (1 : Int32) dX8_anHour_107 (k := ?_)
      obtain ⟨h49, h50⟩ := h48
      refine kn_zast (kg_o8s31 ho) (kg_o8m31 ho) h49 rfl dX8_anHour_108 (fun M51 e52 => ?_)
      have h53 := h50 M51 e52
      refine kr_iinc (1 : Int32) 3 [(2, .int (v2 + (1 : Int32))), (3, .int s0), (0, .ref (kg_b G + 117)), (1, .int v1)] dX8_anHour_109 rfl (k := ?_)
      refine kr_goto 38 dX8_anHour_112 ?_
      refine kr_sub [2, 3, 0] [(0, .ref (kg_b G + 117)), (1, .int v1), (2, .int (v2 + (1 : Int32)))] rfl ?_
      exact hKb v1 (v2 + (1 : Int32)) M51 h53
set_option maxRecDepth 100000 in
set_option maxHeartbeats 4000000 in
theorem sL_X8_anHour_38 {G : kg_G} {E : State → Array Value → Prop} {R : kg_R} {n : Nat} {K : kg_M → Prop} (ho : kg_O8 R n 117) {Kx115 : Int32 → kg_M → Prop} (hKx115 : ∀ (v1 : Int32) (M : kg_M), Kx115 v1 M → kg_Run G E qX8_anHour 3 115 [(0, .ref (kg_b G + 117)), (1, .int v1)] [] M R n 0 0 (kg_V R n K)) : ∀ (f : Nat) (v1 : Int32) (v2 : Int32) (M : kg_M), wL_X8_anHour_38  Kx115 K f v1 v2 M → kg_Run G E qX8_anHour 3 38 [(0, .ref (kg_b G + 117)), (1, .int v1), (2, .int v2)] [] M R n 0 0 (kg_V R n K) := by
  intro f
  induction f with
  | zero => intro v1 v2 M h0; exact h0.elim
  | succ f ih =>
    intro v1 v2 M h19
    rw [wL_X8_anHour_38] at h19
    refine kr_iload_n 2 dX8_anHour_38 rfl (k := ?_)
    refine kr_aload_n 0 dX8_anHour_39 rfl (k := ?_)
    refine kr_getI 29 ckX8 lkF_X8_266 rfl (kg_o8a ho) (kg_o8n ho) dX8_anHour_40 (k := ?_)
    refine kr_icmp_ge 115 dX8_anHour_43 (fun c20 => ?_) (fun c20 => ?_)
    · have h21 := h19.1 c20
      refine kr_sub [0, 1] [(0, .ref (kg_b G + 117)), (1, .int v1)] rfl ?_
      exact hKx115 v1 M h21
    · have h22 := h19.2 c20
      refine kr_aload_n 0 dX8_anHour_46 rfl (k := ?_)
      refine kr_getR 30 ckX8 lkF_X8_62 rfl (kg_o8a ho) (kg_o8n ho) (kg_o8r30 ho) dX8_anHour_47 (k := ?_)
      refine kr_iload_n 1 dX8_anHour_50 rfl (k := ?_)
      obtain ⟨h23, h24⟩ := h22
      refine kr_zald (kg_o8s30 ho) (kg_o8m30 ho) h23 dX8_anHour_51 (k := ?_)
      refine kr_if_eq 115 dX8_anHour_52 (fun c25 => ?_) (fun c25 => ?_)
      · have h26 := h24.1 c25
        refine kr_sub [0, 1] [(0, .ref (kg_b G + 117)), (1, .int v1)] rfl ?_
        exact hKx115 v1 M h26
      · have h27 := h24.2 c25
        refine kr_aload_n 0 dX8_anHour_55 rfl (k := ?_)
        refine kr_getR 31 ckX8 lkF_X8_66 rfl (kg_o8a ho) (kg_o8n ho) (kg_o8r31 ho) dX8_anHour_56 (k := ?_)
        refine kr_iload_n 1 dX8_anHour_59 rfl (k := ?_)
        refine kr_aload_n 0 dX8_anHour_60 rfl (k := ?_)
        refine kr_getR 27 ckX8 lkF_X8_56 rfl (kg_o8a ho) (kg_o8n ho) (kg_o8r27 ho) dX8_anHour_61 (k := ?_)
        refine kr_iload_n 2 dX8_anHour_64 rfl (k := ?_)
        obtain ⟨h28, h29⟩ := h27
        refine kr_iald (kg_o8s27 ho) (kg_o8m27 ho) h28 dX8_anHour_65 (k := ?_)
        refine kr_ixor dX8_anHour_66 (k := ?_)
        obtain ⟨h30, h31⟩ := h29
        refine kr_zald (kg_o8s31 ho) (kg_o8m31 ho) h30 dX8_anHour_67 (k := ?_)
        refine kr_if_ne 75 dX8_anHour_68 (fun c32 => ?_) (fun c32 => ?_)
        · have h33 := h31.1 c32
          refine kr_iconst (0 : Int32) dX8_anHour_75 (k := ?_)
          refine kr_sub [0, 1, 2] [(0, .ref (kg_b G + 117)), (1, .int v1), (2, .int v2)] rfl ?_
          exact sJ_X8_anHour_76 ho ih hKx115 v1 v2 (0 : Int32) M h33
        · have h34 := h31.2 c32
          refine kr_iconst (1 : Int32) dX8_anHour_71 (k := ?_)
          refine kr_goto 76 dX8_anHour_72 ?_
          refine kr_sub [0, 1, 2] [(0, .ref (kg_b G + 117)), (1, .int v1), (2, .int v2)] rfl ?_
          exact sJ_X8_anHour_76 ho ih hKx115 v1 v2 (1 : Int32) M h34
set_option maxRecDepth 100000 in
set_option maxHeartbeats 4000000 in
theorem sL_X8_anHour_29 {G : kg_G} {E : State → Array Value → Prop} {R : kg_R} {n : Nat} {K : kg_M → Prop} (ho : kg_O8 R n 117) {Kx121 : kg_M → Prop} (hKx121 : ∀ (M : kg_M), Kx121 M → kg_Run G E qX8_anHour 3 121 [(0, .ref (kg_b G + 117))] [] M R n 0 0 (kg_V R n K)) : ∀ (f : Nat) (v1 : Int32) (M : kg_M), wL_X8_anHour_29  Kx121 K f v1 M → kg_Run G E qX8_anHour 3 29 [(0, .ref (kg_b G + 117)), (1, .int v1)] [] M R n 0 0 (kg_V R n K) := by
  intro f
  induction f with
  | zero => intro v1 M h0; exact h0.elim
  | succ f ih =>
    intro v1 M h15
    rw [wL_X8_anHour_29] at h15
    refine kr_iload_n 1 dX8_anHour_29 rfl (k := ?_)
    refine kr_sipush (128 : Int32) dX8_anHour_30 (k := ?_)
    refine kr_icmp_ge 121 dX8_anHour_33 (fun c16 => ?_) (fun c16 => ?_)
    · have h17 := h15.1 c16
      refine kr_sub [0] [(0, .ref (kg_b G + 117))] rfl ?_
      exact hKx121  M h17
    · have h18 := h15.2 c16
      refine kr_iconst (0 : Int32) dX8_anHour_36 (k := ?_)
      refine kr_istore_n [(2, .int (0 : Int32)), (0, .ref (kg_b G + 117)), (1, .int v1)] dX8_anHour_37 (k := ?_)
      refine kr_sub [1, 2, 0] [(0, .ref (kg_b G + 117)), (1, .int v1), (2, .int (0 : Int32))] rfl ?_
      obtain ⟨f55, h56⟩ := h18
      refine sL_X8_anHour_38 ho ?_ f55 v1 (0 : Int32) M h56
      · intro v1 M h54
        refine kr_iinc (1 : Int32) 1 [(1, .int (v1 + (1 : Int32))), (0, .ref (kg_b G + 117))] dX8_anHour_115 rfl (k := ?_)
        refine kr_goto 29 dX8_anHour_118 ?_
        refine kr_sub [1, 0] [(0, .ref (kg_b G + 117)), (1, .int (v1 + (1 : Int32)))] rfl ?_
        exact ih (v1 + (1 : Int32)) M h54
set_option maxRecDepth 100000 in
set_option maxHeartbeats 4000000 in
theorem sL_X8_anHour_123 {G : kg_G} {E : State → Array Value → Prop} {R : kg_R} {n : Nat} {K : kg_M → Prop} (ho : kg_O8 R n 117) {Kx148 : kg_M → Prop} (hKx148 : ∀ (M : kg_M), Kx148 M → kg_Run G E qX8_anHour 3 148 [] [] M R n 0 0 (kg_V R n K)) : ∀ (f : Nat) (v1 : Int32) (M : kg_M), wL_X8_anHour_123  Kx148 K f v1 M → kg_Run G E qX8_anHour 3 123 [(0, .ref (kg_b G + 117)), (1, .int v1)] [] M R n 0 0 (kg_V R n K) := by
  intro f
  induction f with
  | zero => intro v1 M h0; exact h0.elim
  | succ f ih =>
    intro v1 M h58
    rw [wL_X8_anHour_123] at h58
    refine kr_iload_n 1 dX8_anHour_123 rfl (k := ?_)
    refine kr_sipush (128 : Int32) dX8_anHour_124 (k := ?_)
    refine kr_icmp_ge 148 dX8_anHour_127 (fun c59 => ?_) (fun c59 => ?_)
    · have h60 := h58.1 c59
      refine kr_sub [] [] rfl ?_
      exact hKx148  M h60
    · have h61 := h58.2 c59
      refine kr_aload_n 0 dX8_anHour_130 rfl (k := ?_)
      refine kr_getR 30 ckX8 lkF_X8_62 rfl (kg_o8a ho) (kg_o8n ho) (kg_o8r30 ho) dX8_anHour_131 (k := ?_)
      refine kr_iload_n 1 dX8_anHour_134 rfl (k := ?_)
      refine kr_aload_n 0 dX8_anHour_135 rfl (k := ?_)
      refine kr_getR 31 ckX8 lkF_X8_66 rfl (kg_o8a ho) (kg_o8n ho) (kg_o8r31 ho) dX8_anHour_136 (k := ?_)
      refine kr_iload_n 1 dX8_anHour_139 rfl (k := ?_)
      obtain ⟨h62, h63⟩ := h61
      refine kr_zald (kg_o8s31 ho) (kg_o8m31 ho) h62 dX8_anHour_140 (k := ?_)
      obtain ⟨h64, h65, h66⟩ := h63
      refine kn_zast (kg_o8s30 ho) (kg_o8m30 ho) h64 (kg_nz h65) dX8_anHour_141 (fun M67 e68 => ?_)
      have h69 := h66 M67 e68
      refine kr_iinc (1 : Int32) 1 [(1, .int (v1 + (1 : Int32))), (0, .ref (kg_b G + 117))] dX8_anHour_142 rfl (k := ?_)
      refine kr_goto 123 dX8_anHour_145 ?_
      refine kr_sub [1, 0] [(0, .ref (kg_b G + 117)), (1, .int (v1 + (1 : Int32)))] rfl ?_
      exact ih (v1 + (1 : Int32)) M67 h69
set_option maxRecDepth 100000 in
set_option maxHeartbeats 4000000 in
theorem sp_X8_anHour {G : kg_G} {E : State → Array Value → Prop} {R : kg_R} {n : Nat} {K : kg_M → Prop} (ho : kg_O8 R n 117) {M : kg_M} (h1 : wp_X8_anHour  M K) : kg_Run G E qX8_anHour 3 0 [(0, .ref (kg_b G + 117))] [] M R n 0 0 (kg_V R n K) := by
  unfold wp_X8_anHour at h1
  refine kr_iconst (0 : Int32) dX8_anHour_0 (k := ?_)
  refine kr_istore_n [(1, .int (0 : Int32)), (0, .ref (kg_b G + 117))] dX8_anHour_1 (k := ?_)
  refine kr_sub [1, 0] [(0, .ref (kg_b G + 117)), (1, .int (0 : Int32))] rfl ?_
  obtain ⟨f75, h76⟩ := h1
  refine sL_X8_anHour_2 ho ?_ f75 (0 : Int32) M h76
  · intro  M h14
    refine kr_iconst (0 : Int32) dX8_anHour_27 (k := ?_)
    refine kr_istore_n [(1, .int (0 : Int32)), (0, .ref (kg_b G + 117))] dX8_anHour_28 (k := ?_)
    refine kr_sub [1, 0] [(0, .ref (kg_b G + 117)), (1, .int (0 : Int32))] rfl ?_
    obtain ⟨f73, h74⟩ := h14
    refine sL_X8_anHour_29 ho ?_ f73 (0 : Int32) M h74
    · intro  M h57
      refine kr_iconst (0 : Int32) dX8_anHour_121 (k := ?_)
      refine kr_istore_n [(1, .int (0 : Int32)), (0, .ref (kg_b G + 117))] dX8_anHour_122 (k := ?_)
      refine kr_sub [1, 0] [(0, .ref (kg_b G + 117)), (1, .int (0 : Int32))] rfl ?_
      obtain ⟨f71, h72⟩ := h57
      refine sL_X8_anHour_123 ho ?_ f71 (0 : Int32) M h72
      · intro  M h70
        exact kr_return dX8_anHour_148 ⟨rfl, rfl, rfl, h70⟩
set_option maxRecDepth 100000 in
set_option maxHeartbeats 4000000 in
theorem sL_X8_bits_4 {G : kg_G} {E : State → Array Value → Prop} {R : kg_R} {n : Nat} {K : Int32 → kg_M → Prop}  {Kx24 : Int32 → kg_M → Prop} (hKx24 : ∀ (v1 : Int32) (M : kg_M), Kx24 v1 M → kg_Run G E qX8_bits 0 24 [(1, .int v1)] [] M R n 0 0 (kg_I R n K)) : ∀ (f : Nat) (v0 : Int32) (v1 : Int32) (v2 : Int32) (M : kg_M), wL_X8_bits_4  Kx24 K f v0 v1 v2 M → kg_Run G E qX8_bits 0 4 [(0, .int v0), (1, .int v1), (2, .int v2)] [] M R n 0 0 (kg_I R n K) := by
  intro f
  induction f with
  | zero => intro v0 v1 v2 M h0; exact h0.elim
  | succ f ih =>
    intro v0 v1 v2 M h2
    rw [wL_X8_bits_4] at h2
    refine kr_iload_n 2 dX8_bits_4 rfl (k := ?_)
    refine kr_bipush (7 : Int32) dX8_bits_5 (k := ?_)
    refine kr_icmp_ge 24 dX8_bits_7 (fun c3 => ?_) (fun c3 => ?_)
    · have h4 := h2.1 c3
      refine kr_sub [1] [(1, .int v1)] rfl ?_
      exact hKx24 v1 M h4
    · have h5 := h2.2 c3
      refine kr_iload_n 1 dX8_bits_10 rfl (k := ?_)
      refine kr_iload_n 0 dX8_bits_11 rfl (k := ?_)
      refine kr_iload_n 2 dX8_bits_12 rfl (k := ?_)
      refine kr_ishr dX8_bits_13 (k := ?_)
      refine kr_iconst (1 : Int32) dX8_bits_14 (k := ?_)
      refine kr_iand dX8_bits_15 (k := ?_)
      refine kr_iadd dX8_bits_16 (k := ?_)
      refine kr_istore_n [(1, .int (v1 + ((v0 >>> (v2 &&& 31)) &&& (1 : Int32)))), (0, .int v0), (2, .int v2)] dX8_bits_17 (k := ?_)
      refine kr_iinc (1 : Int32) 2 [(2, .int (v2 + (1 : Int32))), (1, .int (v1 + ((v0 >>> (v2 &&& 31)) &&& (1 : Int32)))), (0, .int v0)] dX8_bits_18 rfl (k := ?_)
      refine kr_goto 4 dX8_bits_21 ?_
      refine kr_sub [2, 1, 0] [(0, .int v0), (1, .int (v1 + ((v0 >>> (v2 &&& 31)) &&& (1 : Int32)))), (2, .int (v2 + (1 : Int32)))] rfl ?_
      exact ih v0 (v1 + ((v0 >>> (v2 &&& 31)) &&& (1 : Int32))) (v2 + (1 : Int32)) M h5
set_option maxRecDepth 100000 in
set_option maxHeartbeats 4000000 in
theorem sp_X8_bits {G : kg_G} {E : State → Array Value → Prop} {R : kg_R} {n : Nat} {K : Int32 → kg_M → Prop}  {v0 : Int32} {M : kg_M} (h1 : wp_X8_bits v0 M K) : kg_Run G E qX8_bits 0 0 [(0, .int v0)] [] M R n 0 0 (kg_I R n K) := by
  unfold wp_X8_bits at h1
  refine kr_iconst (0 : Int32) dX8_bits_0 (k := ?_)
  refine kr_istore_n [(1, .int (0 : Int32)), (0, .int v0)] dX8_bits_1 (k := ?_)
  refine kr_iconst (0 : Int32) dX8_bits_2 (k := ?_)
  refine kr_istore_n [(2, .int (0 : Int32)), (1, .int (0 : Int32)), (0, .int v0)] dX8_bits_3 (k := ?_)
  refine kr_sub [2, 1, 0] [(0, .int v0), (1, .int (0 : Int32)), (2, .int (0 : Int32))] rfl ?_
  obtain ⟨f7, h8⟩ := h1
  refine sL_X8_bits_4  ?_ f7 v0 (0 : Int32) (0 : Int32) M h8
  · intro v1 M h6
    refine kr_iload_n 0 dX8_bits_24 rfl (k := ?_)
    exact kr_ireturn dX8_bits_25 ⟨rfl, rfl, _, rfl, h6⟩
set_option maxRecDepth 100000 in
set_option maxHeartbeats 4000000 in
theorem sL_X8_madeIll_6 {G : kg_G} {E : State → Array Value → Prop} {R : kg_R} {n : Nat} {K : Int32 → kg_M → Prop} (ho : kg_O8 R n 117) {Kx70 : Int32 → kg_M → Prop} (hKx70 : ∀ (v2 : Int32) (M : kg_M), Kx70 v2 M → kg_Run G E qX8_madeIll 0 70 [(2, .int v2)] [] M R n 0 0 (kg_I R n K)) : ∀ (f : Nat) (v2 : Int32) (v3 : Int32) (M : kg_M), wL_X8_madeIll_6  Kx70 K f v2 v3 M → kg_Run G E qX8_madeIll 0 6 [(0, .ref (kg_b G + 117)), (2, .int v2), (3, .int v3)] [] M R n 0 0 (kg_I R n K) := by
  intro f
  induction f with
  | zero => intro v2 v3 M h0; exact h0.elim
  | succ f ih =>
    intro v2 v3 M h2
    rw [wL_X8_madeIll_6] at h2
    refine kr_iload_n 2 dX8_madeIll_6 rfl (k := ?_)
    refine kr_aload_n 0 dX8_madeIll_7 rfl (k := ?_)
    refine kr_getR 4 ckX8 lkF_X8_16 rfl (kg_o8a ho) (kg_o8n ho) (kg_o8r4 ho) dX8_madeIll_8 (k := ?_)
    refine kr_bipush (34 : Int32) dX8_madeIll_11 (k := ?_)
    obtain ⟨h3, h4⟩ := h2
    refine kr_iald (kg_o8s4 ho) (kg_o8m4 ho) h3 dX8_madeIll_13 (k := ?_)
    refine kr_icmp_ge 70 dX8_madeIll_14 (fun c5 => ?_) (fun c5 => ?_)
    · have h6 := h4.1 c5
      refine kr_sub [1] [(2, .int v2)] rfl ?_
      exact hKx70 v2 M h6
    · have h7 := h4.2 c5
      refine kr_iconst (1 : Int32) dX8_madeIll_17 (k := ?_)
      refine kr_aload_n 0 dX8_madeIll_18 rfl (k := ?_)
      refine kr_getR 4 ckX8 lkF_X8_16 rfl (kg_o8a ho) (kg_o8n ho) (kg_o8r4 ho) dX8_madeIll_19 (k := ?_)
      refine kr_bipush (35 : Int32) dX8_madeIll_22 (k := ?_)
      refine kr_iload_n 2 dX8_madeIll_24 rfl (k := ?_)
      refine kr_iadd dX8_madeIll_25 (k := ?_)
      obtain ⟨h8, h9⟩ := h7
      refine kr_iald (kg_o8s4 ho) (kg_o8m4 ho) h8 dX8_madeIll_26 (k := ?_)
      refine kr_bipush (10 : Int32) dX8_madeIll_27 (k := ?_)
      refine kr_idiv dX8_madeIll_29 (by decide) (k := ?_)
      refine kr_ishl dX8_madeIll_30 (k := ?_)
      refine kr_iconst (1 : Int32) dX8_madeIll_31 (k := ?_)
      refine kr_aload_n 0 dX8_madeIll_32 rfl (k := ?_)
      refine kr_getR 4 ckX8 lkF_X8_16 rfl (kg_o8a ho) (kg_o8n ho) (kg_o8r4 ho) dX8_madeIll_33 (k := ?_)
      refine kr_bipush (35 : Int32) dX8_madeIll_36 (k := ?_)
      refine kr_iload_n 2 dX8_madeIll_38 rfl (k := ?_)
      refine kr_iadd dX8_madeIll_39 (k := ?_)
      obtain ⟨h10, h11⟩ := h9
      refine kr_iald (kg_o8s4 ho) (kg_o8m4 ho) h10 dX8_madeIll_40 (k := ?_)
      refine kr_bipush (10 : Int32) dX8_madeIll_41 (k := ?_)
      refine kr_irem dX8_madeIll_43 (by decide) (k := ?_)
      refine kr_ishl dX8_madeIll_44 (k := ?_)
      refine kr_ior dX8_madeIll_45 (k := ?_)
      refine kr_istore [(4, .int (((1 : Int32) <<< (((M 120 ((35 : Int32) + v3).toNatClampNeg) / (10 : Int32)) &&& 31)) ||| ((1 : Int32) <<< (((M 120 ((35 : Int32) + v3).toNatClampNeg) - (M 120 ((35 : Int32) + v3).toNatClampNeg) / (10 : Int32) * (10 : Int32)) &&& 31)))), (0, .ref (kg_b G + 117)), (2, .int v2), (3, .int v3)] dX8_madeIll_46 (k := ?_)
      refine kr_iload_n 2 dX8_madeIll_48 rfl (k := ?_)
      refine kr_iload_n 2 dX8_madeIll_49 rfl (k := ?_)
      refine kr_iload 0 dX8_madeIll_50 rfl (k := ?_)
      refine kr_iand dX8_madeIll_52 (k := ?_)
      refine kr_if_eq 61 dX8_madeIll_53 (fun c12 => ?_) (fun c12 => ?_)
      · have h13 := h11.1 c12
        refine kr_iconst (0 : Int32) dX8_madeIll_61 (k := ?_)
        refine kr_ior dX8_madeIll_62 (k := ?_)
        refine kr_istore_n [(2, .int (v2 ||| (0 : Int32))), (4, .int (((1 : Int32) <<< (((M 120 ((35 : Int32) + v3).toNatClampNeg) / (10 : Int32)) &&& 31)) ||| ((1 : Int32) <<< (((M 120 ((35 : Int32) + v3).toNatClampNeg) - (M 120 ((35 : Int32) + v3).toNatClampNeg) / (10 : Int32) * (10 : Int32)) &&& 31)))), (0, .ref (kg_b G + 117)), (3, .int v3)] dX8_madeIll_63 (k := ?_)
        refine kr_iinc (1 : Int32) 3 [(3, .int (v3 + (1 : Int32))), (2, .int (v2 ||| (0 : Int32))), (4, .int (((1 : Int32) <<< (((M 120 ((35 : Int32) + v3).toNatClampNeg) / (10 : Int32)) &&& 31)) ||| ((1 : Int32) <<< (((M 120 ((35 : Int32) + v3).toNatClampNeg) - (M 120 ((35 : Int32) + v3).toNatClampNeg) / (10 : Int32) * (10 : Int32)) &&& 31)))), (0, .ref (kg_b G + 117))] dX8_madeIll_64 rfl (k := ?_)
        refine kr_goto 6 dX8_madeIll_67 ?_
        refine kr_sub [3, 1, 0] [(0, .ref (kg_b G + 117)), (2, .int (v2 ||| (0 : Int32))), (3, .int (v3 + (1 : Int32)))] rfl ?_
        exact ih (v2 ||| (0 : Int32)) (v3 + (1 : Int32)) M h13
      · have h14 := h11.2 c12
        refine kr_iload 0 dX8_madeIll_56 rfl (k := ?_)
        refine kr_goto 62 dX8_madeIll_58 ?_
        refine kr_ior dX8_madeIll_62 (k := ?_)
        refine kr_istore_n [(2, .int (v2 ||| (((1 : Int32) <<< (((M 120 ((35 : Int32) + v3).toNatClampNeg) / (10 : Int32)) &&& 31)) ||| ((1 : Int32) <<< (((M 120 ((35 : Int32) + v3).toNatClampNeg) - (M 120 ((35 : Int32) + v3).toNatClampNeg) / (10 : Int32) * (10 : Int32)) &&& 31))))), (4, .int (((1 : Int32) <<< (((M 120 ((35 : Int32) + v3).toNatClampNeg) / (10 : Int32)) &&& 31)) ||| ((1 : Int32) <<< (((M 120 ((35 : Int32) + v3).toNatClampNeg) - (M 120 ((35 : Int32) + v3).toNatClampNeg) / (10 : Int32) * (10 : Int32)) &&& 31)))), (0, .ref (kg_b G + 117)), (3, .int v3)] dX8_madeIll_63 (k := ?_)
        refine kr_iinc (1 : Int32) 3 [(3, .int (v3 + (1 : Int32))), (2, .int (v2 ||| (((1 : Int32) <<< (((M 120 ((35 : Int32) + v3).toNatClampNeg) / (10 : Int32)) &&& 31)) ||| ((1 : Int32) <<< (((M 120 ((35 : Int32) + v3).toNatClampNeg) - (M 120 ((35 : Int32) + v3).toNatClampNeg) / (10 : Int32) * (10 : Int32)) &&& 31))))), (4, .int (((1 : Int32) <<< (((M 120 ((35 : Int32) + v3).toNatClampNeg) / (10 : Int32)) &&& 31)) ||| ((1 : Int32) <<< (((M 120 ((35 : Int32) + v3).toNatClampNeg) - (M 120 ((35 : Int32) + v3).toNatClampNeg) / (10 : Int32) * (10 : Int32)) &&& 31)))), (0, .ref (kg_b G + 117))] dX8_madeIll_64 rfl (k := ?_)
        refine kr_goto 6 dX8_madeIll_67 ?_
        refine kr_sub [3, 1, 0] [(0, .ref (kg_b G + 117)), (2, .int (v2 ||| (((1 : Int32) <<< (((M 120 ((35 : Int32) + v3).toNatClampNeg) / (10 : Int32)) &&& 31)) ||| ((1 : Int32) <<< (((M 120 ((35 : Int32) + v3).toNatClampNeg) - (M 120 ((35 : Int32) + v3).toNatClampNeg) / (10 : Int32) * (10 : Int32)) &&& 31))))), (3, .int (v3 + (1 : Int32)))] rfl ?_
        exact ih (v2 ||| (((1 : Int32) <<< (((M 120 ((35 : Int32) + v3).toNatClampNeg) / (10 : Int32)) &&& 31)) ||| ((1 : Int32) <<< (((M 120 ((35 : Int32) + v3).toNatClampNeg) - (M 120 ((35 : Int32) + v3).toNatClampNeg) / (10 : Int32) * (10 : Int32)) &&& 31)))) (v3 + (1 : Int32)) M h14
set_option maxRecDepth 100000 in
set_option maxHeartbeats 4000000 in
theorem sp_X8_madeIll {G : kg_G} {E : State → Array Value → Prop} {R : kg_R} {n : Nat} {K : Int32 → kg_M → Prop} (ho : kg_O8 R n 117) {v1 : Int32} {M : kg_M} (h1 : wp_X8_madeIll v1 M K) : kg_Run G E qX8_madeIll 0 0 [(0, .ref (kg_b G + 117)), (1, .int v1)] [] M R n 0 0 (kg_I R n K) := by
  unfold wp_X8_madeIll at h1
  refine kr_iconst (1 : Int32) dX8_madeIll_0 (k := ?_)
  refine kr_iload_n 1 dX8_madeIll_1 rfl (k := ?_)
  refine kr_ishl dX8_madeIll_2 (k := ?_)
  refine kr_istore_n [(2, .int ((1 : Int32) <<< (v1 &&& 31))), (0, .ref (kg_b G + 117)), (1, .int v1)] dX8_madeIll_3 (k := ?_)
  refine kr_iconst (0 : Int32) dX8_madeIll_4 (k := ?_)
  refine kr_istore_n [(3, .int (0 : Int32)), (2, .int ((1 : Int32) <<< (v1 &&& 31))), (0, .ref (kg_b G + 117)), (1, .int v1)] dX8_madeIll_5 (k := ?_)
  refine kr_sub [2, 1, 0] [(0, .ref (kg_b G + 117)), (2, .int ((1 : Int32) <<< (v1 &&& 31))), (3, .int (0 : Int32))] rfl ?_
  obtain ⟨f16, h17⟩ := h1
  refine sL_X8_madeIll_6 ho ?_ f16 ((1 : Int32) <<< (v1 &&& 31)) (0 : Int32) M h17
  · intro v2 M h15
    refine kr_iload_n 0 dX8_madeIll_70 rfl (k := ?_)
    exact kr_ireturn dX8_madeIll_71 ⟨rfl, rfl, _, rfl, h15⟩
