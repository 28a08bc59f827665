set_option maxRecDepth 100000 in
set_option maxHeartbeats 4000000 in
theorem sL_X3_pairFrom_54 {G : kg_G} {E : State → Array Value → Prop} {R : kg_R} {n : Nat} {o1 : Nat} {dd : Nat} {rc : Nat → Int32 → Int32 → Int32 → kg_M → (kg_M → Prop) → Prop} {K : kg_M → Prop} (ho : kg_O3 R n 92) (ho1 : kg_O0 R n o1) (hn : ¬ n < kg_all) (hrc : ∀ (v2 : Int32) (v3 : Int32) (v4 : Int32) (M : kg_M) (K : kg_M → Prop), rc o1 v2 v3 v4 M K → kg_Run G kg_E0 qX3_pairFrom (dd + 4) 0 [(0, .ref (kg_b G + 92)), (1, .ref (kg_b G + o1)), (2, .int v2), (3, .int v3), (4, .int v4)] [] M R n 0 0 (kg_V R n K)) {Kx143 : Int32 → Int32 → Int32 → kg_M → Prop} (hKx143 : ∀ (v2 : Int32) (v3 : Int32) (v4 : Int32) (M : kg_M), Kx143 v2 v3 v4 M → kg_Run G E qX3_pairFrom (dd + 5) 143 [(0, .ref (kg_b G + 92)), (1, .ref (kg_b G + o1)), (2, .int v2), (3, .int v3), (4, .int v4)] [] M R n 0 0 (kg_V R n K)) : ∀ (f : Nat) (v2 : Int32) (v3 : Int32) (v4 : Int32) (v5 : Int32) (v6 : Int32) (M : kg_M), wL_X3_pairFrom_54 rc o1 Kx143 K f v2 v3 v4 v5 v6 M → kg_Run G E qX3_pairFrom (dd + 5) 54 [(0, .ref (kg_b G + 92)), (1, .ref (kg_b G + o1)), (2, .int v2), (3, .int v3), (4, .int v4), (5, .int v5), (6, .int v6)] [] M R n 0 0 (kg_V R n K) := by
  intro f
  induction f with
  | zero => intro v2 v3 v4 v5 v6 M h0; exact h0.elim
  | succ f ih =>
    intro v2 v3 v4 v5 v6 M h10
    rw [wL_X3_pairFrom_54] at h10
    refine kr_iload 6 dX3_pairFrom_54 rfl (k := ?_)
    refine kr_aload_n 1 dX3_pairFrom_56 rfl (k := ?_)
    refine kr_getI 1 ckX0 lkF_X3_41 rfl (kg_o0a ho1) (kg_o0n ho1) dX3_pairFrom_57 (k := ?_)
    refine kr_icmp_ge 143 dX3_pairFrom_60 (fun c11 => ?_) (fun c11 => ?_)
    · have h12 := h10.1 c11
      refine kr_sub [0, 1, 2, 3, 4] [(0, .ref (kg_b G + 92)), (1, .ref (kg_b G + o1)), (2, .int v2), (3, .int v3), (4, .int v4)] rfl ?_
      exact hKx143 v2 v3 v4 M h12
    · have h13 := h10.2 c11
      refine kr_iload 5 dX3_pairFrom_63 rfl (k := ?_)
      refine kr_iload 6 dX3_pairFrom_65 rfl (k := ?_)
      refine kr_ishr dX3_pairFrom_67 (k := ?_)
      refine kr_iconst (1 : Int32) dX3_pairFrom_68 (k := ?_)
      refine kr_iand dX3_pairFrom_69 (k := ?_)
      refine kr_iconst (1 : Int32) dX3_pairFrom_70 (k := ?_)
      refine kr_icmp_ne 137 dX3_pairFrom_71 (fun c14 => ?_) (fun c14 => ?_)
      · have h15 := h13.1 c14
        refine kr_iinc (1 : Int32) 6 [(6, .int (v6 + (1 : Int32))), (0, .ref (kg_b G + 92)), (1, .ref (kg_b G + o1)), (2, .int v2), (3, .int v3), (4, .int v4), (5, .int v5)] dX3_pairFrom_137 rfl (k := ?_)
        refine kr_goto 54 dX3_pairFrom_140 ?_
        refine kr_sub [1, 2, 3, 4, 5, 6, 0] [(0, .ref (kg_b G + 92)), (1, .ref (kg_b G + o1)), (2, .int v2), (3, .int v3), (4, .int v4), (5, .int v5), (6, .int (v6 + (1 : Int32)))] rfl ?_
        exact ih v2 v3 v4 v5 (v6 + (1 : Int32)) M h15
      · have h16 := h13.2 c14
        refine kr_aload_n 0 dX3_pairFrom_74 rfl (k := ?_)
        refine kr_getR 1 ckX3 lkF_X3_15 rfl (kg_o3a ho) (kg_o3n ho) (kg_o3r1 ho) dX3_pairFrom_75 (k := ?_)
        refine kr_iload 6 dX3_pairFrom_78 rfl (k := ?_)
        obtain ⟨h17, h18⟩ := h16
        refine kr_iald (kg_o3s1 ho) (kg_o3m1 ho) h17 dX3_pairFrom_80 (k := ?_)
        refine kr_iconst (-1 : Int32) dX3_pairFrom_81 (k := ?_)
        refine kr_icmp_ne 137 dX3_pairFrom_82 (fun c19 => ?_) (fun c19 => ?_)
        · have h20 := h18.1 c19
          refine kr_iinc (1 : Int32) 6 [(6, .int (v6 + (1 : Int32))), (0, .ref (kg_b G + 92)), (1, .ref (kg_b G + o1)), (2, .int v2), (3, .int v3), (4, .int v4), (5, .int v5)] dX3_pairFrom_137 rfl (k := ?_)
          refine kr_goto 54 dX3_pairFrom_140 ?_
          refine kr_sub [1, 2, 3, 4, 5, 6, 0] [(0, .ref (kg_b G + 92)), (1, .ref (kg_b G + o1)), (2, .int v2), (3, .int v3), (4, .int v4), (5, .int v5), (6, .int (v6 + (1 : Int32)))] rfl ?_
          exact ih v2 v3 v4 v5 (v6 + (1 : Int32)) M h20
        · have h21 := h18.2 c19
          refine kr_aload_n 0 dX3_pairFrom_85 rfl (k := ?_)
          refine kr_getR 1 ckX3 lkF_X3_15 rfl (kg_o3a ho) (kg_o3n ho) (kg_o3r1 ho) dX3_pairFrom_86 (k := ?_)
          refine kr_iload_n 2 dX3_pairFrom_89 rfl (k := ?_)
          refine kr_iload 6 dX3_pairFrom_90 rfl (k := ?_)
          obtain ⟨h22, h23⟩ := h21
          refine kn_iast (kg_o3s1 ho) (kg_o3m1 ho) h22 dX3_pairFrom_92 (fun M24 e25 => ?_)
          have h26 := h23 M24 e25
          refine kr_aload_n 0 dX3_pairFrom_93 rfl (k := ?_)
          refine kr_getR 1 ckX3 lkF_X3_15 rfl (kg_o3a ho) (kg_o3n ho) (kg_o3r1 ho) dX3_pairFrom_94 (k := ?_)
          refine kr_iload 6 dX3_pairFrom_97 rfl (k := ?_)
          refine kr_iload_n 2 dX3_pairFrom_99 rfl (k := ?_)
          obtain ⟨h27, h28⟩ := h26
          refine kn_iast (kg_o3s1 ho) (kg_o3m1 ho) h27 dX3_pairFrom_100 (fun M29 e30 => ?_)
          have h31 := h28 M29 e30
          refine kr_aload_n 0 dX3_pairFrom_101 rfl (k := ?_)
          refine kr_aload_n 1 dX3_pairFrom_102 rfl (k := ?_)
          refine kr_iload_n 2 dX3_pairFrom_103 rfl (k := ?_)
          refine kr_iconst (1 : Int32) dX3_pairFrom_104 (k := ?_)
          refine kr_iadd dX3_pairFrom_105 (k := ?_)
          refine kr_iload_n 3 dX3_pairFrom_106 rfl (k := ?_)
          refine kr_iconst (1 : Int32) dX3_pairFrom_107 (k := ?_)
          refine kr_iadd dX3_pairFrom_108 (k := ?_)
          refine kr_iload 4 dX3_pairFrom_109 rfl (k := ?_)
          refine kr_aload_n 1 dX3_pairFrom_111 rfl (k := ?_)
          refine kr_iload_n 2 dX3_pairFrom_112 rfl (k := ?_)
          refine kr_iload 6 dX3_pairFrom_113 rfl (k := ?_)
          refine kn_callVi [.int v2, .int v6] [.int v4, .int (v3 + (1 : Int32)), .int (v2 + (1 : Int32)), .ref (kg_b G + o1), .ref (kg_b G + 92)] mvX0_together lkM_X3_54 (kg_o0a ho1) rfl (kg_o0n ho1) dX3_pairFrom_115 (sp_X0_together ho1 h31) (fun r34 M32 h33 => ?_) (hd' := by omega)
          refine kr_iadd dX3_pairFrom_118 (k := ?_)
          refine kn_callVv [.ref (kg_b G + o1), .int (v2 + (1 : Int32)), .int (v3 + (1 : Int32)), .int (v4 + r34)] [] mvX3_pairFrom lkM_X3_37 (kg_o3a ho) rfl (kg_o3n ho) dX3_pairFrom_119 (hrc (v2 + (1 : Int32)) (v3 + (1 : Int32)) (v4 + r34) M32 _ h33) (fun M35 h36 => ?_) (hd' := by omega)
          refine kr_aload_n 0 dX3_pairFrom_122 rfl (k := ?_)
          refine kr_getR 1 ckX3 lkF_X3_15 rfl (kg_o3a ho) (kg_o3n ho) (kg_o3r1 ho) dX3_pairFrom_123 (k := ?_)
          refine kr_iload_n 2 dX3_pairFrom_126 rfl (k := ?_)
          refine kr_iconst (-1 : Int32) dX3_pairFrom_127 (k := ?_)
          obtain ⟨h38, h39⟩ := h36
          refine kn_iast (kg_o3s1 ho) (kg_o3m1 ho) h38 dX3_pairFrom_128 (fun M40 e41 => ?_)
          have h42 := h39 M40 e41
          refine kr_aload_n 0 dX3_pairFrom_129 rfl (k := ?_)
          refine kr_getR 1 ckX3 lkF_X3_15 rfl (kg_o3a ho) (kg_o3n ho) (kg_o3r1 ho) dX3_pairFrom_130 (k := ?_)
          refine kr_iload 6 dX3_pairFrom_133 rfl (k := ?_)
          refine kr_iconst (-1 : Int32) dX3_pairFrom_135 (k := ?_)
          obtain ⟨h43, h44⟩ := h42
          refine kn_iast (kg_o3s1 ho) (kg_o3m1 ho) h43 dX3_pairFrom_136 (fun M45 e46 => ?_)
          have h47 := h44 M45 e46
          refine kr_iinc (1 : Int32) 6 [(6, .int (v6 + (1 : Int32))), (0, .ref (kg_b G + 92)), (1, .ref (kg_b G + o1)), (2, .int v2), (3, .int v3), (4, .int v4), (5, .int v5)] dX3_pairFrom_137 rfl (k := ?_)
          refine kr_goto 54 dX3_pairFrom_140 ?_
          refine kr_sub [1, 2, 3, 4, 5, 6, 0] [(0, .ref (kg_b G + 92)), (1, .ref (kg_b G + o1)), (2, .int v2), (3, .int v3), (4, .int v4), (5, .int v5), (6, .int (v6 + (1 : Int32)))] rfl ?_
          exact ih v2 v3 v4 v5 (v6 + (1 : Int32)) M45 h47
set_option maxRecDepth 100000 in
set_option maxHeartbeats 4000000 in
theorem sE_X3_pairFrom {G : kg_G} {E : State → Array Value → Prop} {R : kg_R} {n : Nat} {o1 : Nat} {dd : Nat} {rc : Nat → Int32 → Int32 → Int32 → kg_M → (kg_M → Prop) → Prop} {K : kg_M → Prop} (ho : kg_O3 R n 92) (ho1 : kg_O0 R n o1) (hn : ¬ n < kg_all) (hrc : ∀ (v2 : Int32) (v3 : Int32) (v4 : Int32) (M : kg_M) (K : kg_M → Prop), rc o1 v2 v3 v4 M K → kg_Run G kg_E0 qX3_pairFrom (dd + 4) 0 [(0, .ref (kg_b G + 92)), (1, .ref (kg_b G + o1)), (2, .int v2), (3, .int v3), (4, .int v4)] [] M R n 0 0 (kg_V R n K)) {v2 : Int32} {v3 : Int32} {v4 : Int32} {M : kg_M} (h1 : wE_X3_pairFrom rc o1 v2 v3 v4 M K) : kg_Run G E qX3_pairFrom (dd + 5) 0 [(0, .ref (kg_b G + 92)), (1, .ref (kg_b G + o1)), (2, .int v2), (3, .int v3), (4, .int v4)] [] M R n 0 0 (kg_V R n K) := by
  unfold wE_X3_pairFrom at h1
  refine kr_iload_n 2 dX3_pairFrom_0 rfl (k := ?_)
  refine kr_aload_n 1 dX3_pairFrom_1 rfl (k := ?_)
  refine kr_getI 1 ckX0 lkF_X3_41 rfl (kg_o0a ho1) (kg_o0n ho1) dX3_pairFrom_2 (k := ?_)
  refine kr_icmp_lt 16 dX3_pairFrom_5 (fun c2 => ?_) (fun c2 => ?_)
  · have h3 := h1.1 c2
    refine kr_aload_n 0 dX3_pairFrom_16 rfl (k := ?_)
    refine kr_getR 1 ckX3 lkF_X3_15 rfl (kg_o3a ho) (kg_o3n ho) (kg_o3r1 ho) dX3_pairFrom_17 (k := ?_)
    refine kr_iload_n 2 dX3_pairFrom_20 rfl (k := ?_)
    obtain ⟨h5, h6⟩ := h3
    refine kr_iald (kg_o3s1 ho) (kg_o3m1 ho) h5 dX3_pairFrom_21 (k := ?_)
    refine kr_iconst (-1 : Int32) dX3_pairFrom_22 (k := ?_)
    refine kr_icmp_ne 46 dX3_pairFrom_23 (fun c7 => ?_) (fun c7 => ?_)
    · have h8 := h6.1 c7
      refine kr_iconst (0 : Int32) dX3_pairFrom_46 (k := ?_)
      refine kr_istore [(5, .int (0 : Int32)), (0, .ref (kg_b G + 92)), (1, .ref (kg_b G + o1)), (2, .int v2), (3, .int v3), (4, .int v4)] dX3_pairFrom_47 (k := ?_)
      refine kr_iload_n 3 dX3_pairFrom_49 rfl (k := ?_)
      refine kr_iconst (1 : Int32) dX3_pairFrom_50 (k := ?_)
      refine kr_iadd dX3_pairFrom_51 (k := ?_)
      refine kr_istore [(6, .int (v2 + (1 : Int32))), (5, .int (0 : Int32)), (0, .ref (kg_b G + 92)), (1, .ref (kg_b G + o1)), (2, .int v2), (3, .int v3), (4, .int v4)] dX3_pairFrom_52 (k := ?_)
      refine kr_sub [2, 3, 4, 5, 6, 1, 0] [(0, .ref (kg_b G + 92)), (1, .ref (kg_b G + o1)), (2, .int v2), (3, .int v3), (4, .int v4), (5, .int (0 : Int32)), (6, .int (v2 + (1 : Int32)))] rfl ?_
      obtain ⟨f52, h53⟩ := h8
      refine sL_X3_pairFrom_54 ho ho1 hn hrc ?_ f52 v2 v3 v4 (0 : Int32) (v2 + (1 : Int32)) M h53
      · intro v2 v3 v4 M h48
        refine kr_aload_n 0 dX3_pairFrom_143 rfl (k := ?_)
        refine kr_aload_n 1 dX3_pairFrom_144 rfl (k := ?_)
        refine kr_iload_n 2 dX3_pairFrom_145 rfl (k := ?_)
        refine kr_iconst (1 : Int32) dX3_pairFrom_146 (k := ?_)
        refine kr_iadd dX3_pairFrom_147 (k := ?_)
        refine kr_iload_n 3 dX3_pairFrom_148 rfl (k := ?_)
        refine kr_iload 4 dX3_pairFrom_149 rfl (k := ?_)
        refine kn_callVv [.ref (kg_b G + o1), .int (v2 + (1 : Int32)), .int v3, .int v4] [] mvX3_pairFrom lkM_X3_37 (kg_o3a ho) rfl (kg_o3n ho) dX3_pairFrom_151 (hrc (v2 + (1 : Int32)) v3 v4 M _ h48) (fun M49 h50 => ?_) (hd' := by omega)
        exact kr_return dX3_pairFrom_154 ⟨rfl, rfl, rfl, h50⟩
    · have h9 := h6.2 c7
      refine kr_iload_n 3 dX3_pairFrom_26 rfl (k := ?_)
      refine kr_aload_n 0 dX3_pairFrom_27 rfl (k := ?_)
      refine kr_getI 5 ckX3 lkF_X3_22 rfl (kg_o3a ho) (kg_o3n ho) dX3_pairFrom_28 (k := ?_)
      refine kr_icmp_ge 46 dX3_pairFrom_31 (fun c54 => ?_) (fun c54 => ?_)
      · have h55 := h9.1 c54
        refine kr_iconst (0 : Int32) dX3_pairFrom_46 (k := ?_)
        refine kr_istore [(5, .int (0 : Int32)), (0, .ref (kg_b G + 92)), (1, .ref (kg_b G + o1)), (2, .int v2), (3, .int v3), (4, .int v4)] dX3_pairFrom_47 (k := ?_)
        refine kr_iload_n 3 dX3_pairFrom_49 rfl (k := ?_)
        refine kr_iconst (1 : Int32) dX3_pairFrom_50 (k := ?_)
        refine kr_iadd dX3_pairFrom_51 (k := ?_)
        refine kr_istore [(6, .int (v2 + (1 : Int32))), (5, .int (0 : Int32)), (0, .ref (kg_b G + 92)), (1, .ref (kg_b G + o1)), (2, .int v2), (3, .int v3), (4, .int v4)] dX3_pairFrom_52 (k := ?_)
        refine kr_sub [2, 3, 4, 5, 6, 1, 0] [(0, .ref (kg_b G + 92)), (1, .ref (kg_b G + o1)), (2, .int v2), (3, .int v3), (4, .int v4), (5, .int (0 : Int32)), (6, .int (v2 + (1 : Int32)))] rfl ?_
        obtain ⟨f61, h62⟩ := h55
        refine sL_X3_pairFrom_54 ho ho1 hn hrc ?_ f61 v2 v3 v4 (0 : Int32) (v2 + (1 : Int32)) M h62
        · intro v2 v3 v4 M h57
          refine kr_aload_n 0 dX3_pairFrom_143 rfl (k := ?_)
          refine kr_aload_n 1 dX3_pairFrom_144 rfl (k := ?_)
          refine kr_iload_n 2 dX3_pairFrom_145 rfl (k := ?_)
          refine kr_iconst (1 : Int32) dX3_pairFrom_146 (k := ?_)
          refine kr_iadd dX3_pairFrom_147 (k := ?_)
          refine kr_iload_n 3 dX3_pairFrom_148 rfl (k := ?_)
          refine kr_iload 4 dX3_pairFrom_149 rfl (k := ?_)
          refine kn_callVv [.ref (kg_b G + o1), .int (v2 + (1 : Int32)), .int v3, .int v4] [] mvX3_pairFrom lkM_X3_37 (kg_o3a ho) rfl (kg_o3n ho) dX3_pairFrom_151 (hrc (v2 + (1 : Int32)) v3 v4 M _ h57) (fun M58 h59 => ?_) (hd' := by omega)
          exact kr_return dX3_pairFrom_154 ⟨rfl, rfl, rfl, h59⟩
      · have h56 := h9.2 c54
        refine kr_aload_n 1 dX3_pairFrom_34 rfl (k := ?_)
        refine kr_iload_n 2 dX3_pairFrom_35 rfl (k := ?_)
        refine kr_aload_n 0 dX3_pairFrom_36 rfl (k := ?_)
        refine kr_getI 4 ckX3 lkF_X3_18 rfl (kg_o3a ho) (kg_o3n ho) dX3_pairFrom_37 (k := ?_)
        refine kn_callVi [.int v2, .int (M 92 4)] [] mvX0_wouldMeet lkM_X3_50 (kg_o0a ho1) rfl (kg_o0n ho1) dX3_pairFrom_40 (sp_X0_wouldMeet ho1 h56) (fun r65 M63 h64 => ?_) (hd' := by omega)
        refine kr_goto 47 dX3_pairFrom_43 ?_
        refine kr_istore [(5, .int r65), (0, .ref (kg_b G + 92)), (1, .ref (kg_b G + o1)), (2, .int v2), (3, .int v3), (4, .int v4)] dX3_pairFrom_47 (k := ?_)
        refine kr_iload_n 3 dX3_pairFrom_49 rfl (k := ?_)
        refine kr_iconst (1 : Int32) dX3_pairFrom_50 (k := ?_)
        refine kr_iadd dX3_pairFrom_51 (k := ?_)
        refine kr_istore [(6, .int (v2 + (1 : Int32))), (5, .int r65), (0, .ref (kg_b G + 92)), (1, .ref (kg_b G + o1)), (2, .int v2), (3, .int v3), (4, .int v4)] dX3_pairFrom_52 (k := ?_)
        refine kr_sub [2, 3, 4, 5, 6, 1, 0] [(0, .ref (kg_b G + 92)), (1, .ref (kg_b G + o1)), (2, .int v2), (3, .int v3), (4, .int v4), (5, .int r65), (6, .int (v2 + (1 : Int32)))] rfl ?_
        obtain ⟨f70, h71⟩ := h64
        refine sL_X3_pairFrom_54 ho ho1 hn hrc ?_ f70 v2 v3 v4 r65 (v2 + (1 : Int32)) M63 h71
        · intro v2 v3 v4 M h66
          refine kr_aload_n 0 dX3_pairFrom_143 rfl (k := ?_)
          refine kr_aload_n 1 dX3_pairFrom_144 rfl (k := ?_)
          refine kr_iload_n 2 dX3_pairFrom_145 rfl (k := ?_)
          refine kr_iconst (1 : Int32) dX3_pairFrom_146 (k := ?_)
          refine kr_iadd dX3_pairFrom_147 (k := ?_)
          refine kr_iload_n 3 dX3_pairFrom_148 rfl (k := ?_)
          refine kr_iload 4 dX3_pairFrom_149 rfl (k := ?_)
          refine kn_callVv [.ref (kg_b G + o1), .int (v2 + (1 : Int32)), .int v3, .int v4] [] mvX3_pairFrom lkM_X3_37 (kg_o3a ho) rfl (kg_o3n ho) dX3_pairFrom_151 (hrc (v2 + (1 : Int32)) v3 v4 M _ h66) (fun M67 h68 => ?_) (hd' := by omega)
          exact kr_return dX3_pairFrom_154 ⟨rfl, rfl, rfl, h68⟩
  · have h4 := h1.2 c2
    refine kr_aload_n 0 dX3_pairFrom_8 rfl (k := ?_)
    refine kr_iload_n 3 dX3_pairFrom_9 rfl (k := ?_)
    refine kr_iload 4 dX3_pairFrom_10 rfl (k := ?_)
    refine kn_callVv [.int v3, .int v4] [] mvX3_takeIfBetter lkM_X3_46 (kg_o3a ho) rfl (kg_o3n ho) dX3_pairFrom_12 (sp_X3_takeIfBetter ho hn h4) (fun M72 h73 => ?_) (hd' := by omega)
    exact kr_return dX3_pairFrom_15 ⟨rfl, rfl, rfl, h73⟩
set_option maxRecDepth 100000 in
set_option maxHeartbeats 4000000 in
theorem sR_X3_pairFrom {G : kg_G} {R : kg_R} {n : Nat} {o1 : Nat} (ho : kg_O3 R n 92) (ho1 : kg_O0 R n o1) (hn : ¬ n < kg_all) : ∀ (f : Nat) (v2 : Int32) (v3 : Int32) (v4 : Int32) (M : kg_M) (K : kg_M → Prop), wR_X3_pairFrom f o1 v2 v3 v4 M K → kg_Run G kg_E0 qX3_pairFrom (f + 4) 0 [(0, .ref (kg_b G + 92)), (1, .ref (kg_b G + o1)), (2, .int v2), (3, .int v3), (4, .int v4)] [] M R n 0 0 (kg_V R n K)
  | 0, _, _, _, _, _ => fun h => h.elim
  | f + 1, _, _, _, _, _ => fun h => sE_X3_pairFrom (dd := f) ho ho1 hn (sR_X3_pairFrom ho ho1 hn f) h
set_option maxRecDepth 100000 in
set_option maxHeartbeats 4000000 in
theorem sp_X3_pairFrom {G : kg_G} {R : kg_R} {n : Nat} {o1 : Nat} (ho : kg_O3 R n 92) (ho1 : kg_O0 R n o1) (hn : ¬ n < kg_all) {v2 : Int32} {v3 : Int32} {v4 : Int32} {M : kg_M} {K : kg_M → Prop} (h : wp_X3_pairFrom o1 v2 v3 v4 M K) : kg_Run G kg_E0 qX3_pairFrom 14 0 [(0, .ref (kg_b G + 92)), (1, .ref (kg_b G + o1)), (2, .int v2), (3, .int v3), (4, .int v4)] [] M R n 0 0 (kg_V R n K) := sR_X3_pairFrom ho ho1 hn 10 v2 v3 v4 M K h
set_option maxRecDepth 100000 in
set_option maxHeartbeats 4000000 in
theorem sp_X3_find {G : kg_G} {E : State → Array Value → Prop} {R : kg_R} {n : Nat} {o1 : Nat} {K : kg_M → Prop} (ho : kg_O3 R n 92) (ho1 : kg_O0 R n o1) (hn : ¬ n < kg_all) {v2 : Int32} {v3 : Int32} {M : kg_M} (h1 : wp_X3_find o1 v2 v3 M K) : kg_Run G E qX3_find 15 0 [(0, .ref (kg_b G + 92)), (1, .ref (kg_b G + o1)), (2, .int v2), (3, .int v3)] [] M R n 0 0 (kg_V R n K) := by
  unfold wp_X3_find at h1
  refine kr_aload_n 0 dX3_find_0 rfl (k := ?_)
  refine kr_iload_n 2 dX3_find_1 rfl (k := ?_)
  refine kn_putI 4 ckX3 lkF_X3_18 rfl rfl rfl rfl (kg_o3a ho) (kg_o3n ho) dX3_find_2 (fun M2 e3 => ?_)
  have h4 := h1 M2 e3
  refine kr_aload_n 0 dX3_find_5 rfl (k := ?_)
  refine kr_iload_n 3 dX3_find_6 rfl (k := ?_)
  refine kn_putI 5 ckX3 lkF_X3_22 rfl rfl rfl rfl (kg_o3a ho) (kg_o3n ho) dX3_find_7 (fun M5 e6 => ?_)
  have h7 := h4 M5 e6
  refine kr_aload_n 0 dX3_find_10 rfl (k := ?_)
  refine kr_iconst (-1 : Int32) dX3_find_11 (k := ?_)
  refine kn_putI 2 ckX3 lkF_X3_25 rfl rfl rfl rfl (kg_o3a ho) (kg_o3n ho) dX3_find_12 (fun M8 e9 => ?_)
  have h10 := h7 M8 e9
  refine kr_aload_n 0 dX3_find_15 rfl (k := ?_)
  refine kr_iconst (-1 : Int32) dX3_find_16 (k := ?_)
  refine kn_putI 3 ckX3 lkF_X3_28 rfl rfl rfl rfl (kg_o3a ho) (kg_o3n ho) dX3_find_17 (fun M11 e12 => ?_)
  have h13 := h10 M11 e12
  refine kr_aload_n 0 dX3_find_20 rfl (k := ?_)
  refine kr_getR 1 ckX3 lkF_X3_15 rfl (kg_o3a ho) (kg_o3n ho) (kg_o3r1 ho) dX3_find_21 (k := ?_)
  refine kr_iconst (-1 : Int32) dX3_find_24 (k := ?_)
  refine kn_callSv [.ref (kg_b G + 94), .int (-1 : Int32)] [] msJ7_fill_53178 lkM_X3_31 dX3_find_25 (sp_J7_fill_53178 (kg_o3s1 ho) (kg_o3m1 ho) h13) (fun M14 h15 => ?_)
  refine kr_aload_n 0 dX3_find_28 rfl (k := ?_)
  refine kr_aload_n 1 dX3_find_29 rfl (k := ?_)
  refine kr_iconst (0 : Int32) dX3_find_30 (k := ?_)
  refine kr_iconst (0 : Int32) dX3_find_31 (k := ?_)
  refine kr_iconst (0 : Int32) dX3_find_32 (k := ?_)
  refine kn_callVv [.ref (kg_b G + o1), .int (0 : Int32), .int (0 : Int32), .int (0 : Int32)] [] mvX3_pairFrom lkM_X3_37 (kg_o3a ho) rfl (kg_o3n ho) dX3_find_33 (sp_X3_pairFrom ho ho1 hn h15) (fun M17 h18 => ?_)
  exact kr_return dX3_find_36 ⟨rfl, rfl, rfl, h18⟩
set_option maxRecDepth 100000 in
set_option maxHeartbeats 4000000 in
theorem sp_X4_forget {G : kg_G} {E : State → Array Value → Prop} {R : kg_R} {n : Nat} {K : kg_M → Prop} (ho : kg_O4 R n 7) {M : kg_M} (h1 : wp_X4_forget  M K) : kg_Run G E qX4_forget 0 0 [(0, .ref (kg_b G + 7))] [] M R n 0 0 (kg_V R n K) := by
  unfold wp_X4_forget at h1
  refine kr_aload_n 0 dX4_forget_0 rfl (k := ?_)
  refine kr_iconst (0 : Int32) dX4_forget_1 (k := ?_)
  refine kn_putI 2 ckX4 lkF_X4_26 rfl rfl rfl rfl (kg_o4a ho) (kg_o4n ho) dX4_forget_2 (fun M2 e3 => ?_)
  have h4 := h1 M2 e3
  exact kr_return dX4_forget_5 ⟨rfl, rfl, rfl, h4⟩
set_option maxRecDepth 100000 in
set_option maxHeartbeats 4000000 in
theorem sp_X5_copyFrom {G : kg_G} {E : State → Array Value → Prop} {R : kg_R} {n : Nat} {o : Nat} {o1 : Nat} {K : kg_M → Prop} (ho : kg_O5 R n o) (ho1 : kg_O5 R n o1) (hn : ¬ n < kg_all) {M : kg_M} (h1 : wp_X5_copyFrom o o1 M K) : kg_Run G E qX5_copyFrom 0 0 [(0, .ref (kg_b G + o)), (1, .ref (kg_b G + o1))] [] M R n 0 0 (kg_V R n K) := by
  unfold wp_X5_copyFrom at h1
  refine kr_aload_n 0 dX5_copyFrom_0 rfl (k := ?_)
  refine kr_aload_n 1 dX5_copyFrom_1 rfl (k := ?_)
  refine kr_getI 0 ckX5 lkF_X5_21 rfl (kg_o5a ho1) (kg_o5n ho1) dX5_copyFrom_2 (k := ?_)
  refine kn_putI 0 ckX5 lkF_X5_21 rfl rfl rfl rfl (kg_o5a ho) (kg_o5n ho) dX5_copyFrom_5 (fun M2 e3 => ?_)
  have h4 := h1 M2 e3
  refine kr_aload_n 0 dX5_copyFrom_8 rfl (k := ?_)
  refine kr_aload_n 1 dX5_copyFrom_9 rfl (k := ?_)
  refine kr_getI 1 ckX5 lkF_X5_25 rfl (kg_o5a ho1) (kg_o5n ho1) dX5_copyFrom_10 (k := ?_)
  refine kn_putI 1 ckX5 lkF_X5_25 rfl rfl rfl rfl (kg_o5a ho) (kg_o5n ho) dX5_copyFrom_13 (fun M5 e6 => ?_)
  have h7 := h4 M5 e6
  refine kr_aload_n 0 dX5_copyFrom_16 rfl (k := ?_)
  refine kr_aload_n 1 dX5_copyFrom_17 rfl (k := ?_)
  refine kr_getI 2 ckX5 lkF_X5_28 rfl (kg_o5a ho1) (kg_o5n ho1) dX5_copyFrom_18 (k := ?_)
  refine kn_putI 2 ckX5 lkF_X5_28 rfl rfl rfl rfl (kg_o5a ho) (kg_o5n ho) dX5_copyFrom_21 (fun M8 e9 => ?_)
  have h10 := h7 M8 e9
  refine kr_aload_n 0 dX5_copyFrom_24 rfl (k := ?_)
  refine kr_aload_n 1 dX5_copyFrom_25 rfl (k := ?_)
  refine kr_getI 3 ckX5 lkF_X5_36 rfl (kg_o5a ho1) (kg_o5n ho1) dX5_copyFrom_26 (k := ?_)
  refine kn_putI 3 ckX5 lkF_X5_36 rfl rfl rfl rfl (kg_o5a ho) (kg_o5n ho) dX5_copyFrom_29 (fun M11 e12 => ?_)
  have h13 := h10 M11 e12
  refine kr_aload_n 0 dX5_copyFrom_32 rfl (k := ?_)
  refine kr_aload_n 1 dX5_copyFrom_33 rfl (k := ?_)
  refine kr_getI 4 ckX5 lkF_X5_42 rfl (kg_o5a ho1) (kg_o5n ho1) dX5_copyFrom_34 (k := ?_)
  refine kn_putI 4 ckX5 lkF_X5_42 rfl rfl rfl rfl (kg_o5a ho) (kg_o5n ho) dX5_copyFrom_37 (fun M14 e15 => ?_)
  have h16 := h13 M14 e15
  refine kr_aload_n 0 dX5_copyFrom_40 rfl (k := ?_)
  refine kr_aload_n 1 dX5_copyFrom_41 rfl (k := ?_)
  refine kr_getI 5 ckX5 lkF_X5_45 rfl (kg_o5a ho1) (kg_o5n ho1) dX5_copyFrom_42 (k := ?_)
  refine kn_putI 5 ckX5 lkF_X5_45 rfl rfl rfl rfl (kg_o5a ho) (kg_o5n ho) dX5_copyFrom_45 (fun M17 e18 => ?_)
  have h19 := h16 M17 e18
  refine kr_aload_n 1 dX5_copyFrom_48 rfl (k := ?_)
  refine kr_getR 6 ckX5 lkF_X5_9 rfl (kg_o5a ho1) (kg_o5n ho1) (kg_o5r6 ho1) dX5_copyFrom_49 (k := ?_)
  refine kr_iconst (0 : Int32) dX5_copyFrom_52 (k := ?_)
  refine kr_aload_n 0 dX5_copyFrom_53 rfl (k := ?_)
  refine kr_getR 6 ckX5 lkF_X5_9 rfl (kg_o5a ho) (kg_o5n ho) (kg_o5r6 ho) dX5_copyFrom_54 (k := ?_)
  refine kr_iconst (0 : Int32) dX5_copyFrom_57 (k := ?_)
  refine kr_bipush (7 : Int32) dX5_copyFrom_58 (k := ?_)
  refine kn_copy hn lkM_X5_54 (kg_o5s6 ho1) (kg_o5s6 ho) (kg_o5m6 ho1) (kg_o5m6 ho) (by decide) (by decide) (by decide) (by decide) (by decide) (Nat.le_of_ble_eq_true rfl) dX5_copyFrom_60 (fun M20 e21 => ?_)
  have h22 := h19 M20 e21
  refine kr_aload_n 1 dX5_copyFrom_63 rfl (k := ?_)
  refine kr_getR 7 ckX5 lkF_X5_15 rfl (kg_o5a ho1) (kg_o5n ho1) (kg_o5r7 ho1) dX5_copyFrom_64 (k := ?_)
  refine kr_iconst (0 : Int32) dX5_copyFrom_67 (k := ?_)
  refine kr_aload_n 0 dX5_copyFrom_68 rfl (k := ?_)
  refine kr_getR 7 ckX5 lkF_X5_15 rfl (kg_o5a ho) (kg_o5n ho) (kg_o5r7 ho) dX5_copyFrom_69 (k := ?_)
  refine kr_iconst (0 : Int32) dX5_copyFrom_72 (k := ?_)
  refine kr_iconst (5 : Int32) dX5_copyFrom_73 (k := ?_)
  refine kn_copy hn lkM_X5_54 (kg_o5s7 ho1) (kg_o5s7 ho) (kg_o5m7 ho1) (kg_o5m7 ho) (by decide) (by decide) (by decide) (by decide) (by decide) (Nat.le_of_ble_eq_true rfl) dX5_copyFrom_74 (fun M23 e24 => ?_)
  have h25 := h22 M23 e24
  refine kr_aload_n 1 dX5_copyFrom_77 rfl (k := ?_)
  refine kr_getR 8 ckX5 lkF_X5_18 rfl (kg_o5a ho1) (kg_o5n ho1) (kg_o5r8 ho1) dX5_copyFrom_78 (k := ?_)
  refine kr_iconst (0 : Int32) dX5_copyFrom_81 (k := ?_)
  refine kr_aload_n 0 dX5_copyFrom_82 rfl (k := ?_)
  refine kr_getR 8 ckX5 lkF_X5_18 rfl (kg_o5a ho) (kg_o5n ho) (kg_o5r8 ho) dX5_copyFrom_83 (k := ?_)
  refine kr_iconst (0 : Int32) dX5_copyFrom_86 (k := ?_)
  refine kr_bipush (20 : Int32) dX5_copyFrom_87 (k := ?_)
  refine kn_copy hn lkM_X5_54 (kg_o5s8 ho1) (kg_o5s8 ho) (kg_o5m8 ho1) (kg_o5m8 ho) (by decide) (by decide) (by decide) (by decide) (by decide) (Nat.le_of_ble_eq_true rfl) dX5_copyFrom_89 (fun M26 e27 => ?_)
  have h28 := h25 M26 e27
  exact kr_return dX5_copyFrom_92 ⟨rfl, rfl, rfl, h28⟩
set_option maxRecDepth 100000 in
set_option maxHeartbeats 4000000 in
theorem sJ_X4_remember_35 {G : kg_G} {E : State → Array Value → Prop} {R : kg_R} {n : Nat} {o1 : Nat} {K : kg_M → Prop} (ho : kg_O4 R n 7) (ho1 : kg_O5 R n o1) (hn : ¬ n < kg_all) (s1 : Int32) (M : kg_M) (h10 : wJ_X4_remember_35 o1 K s1 M) : kg_Run G E qX4_remember 1 35 [(0, .ref (kg_b G + 7))] [.int s1, .ref (kg_b G + 7)] M R n 0 0 (kg_V R n K) := by
  unfold wJ_X4_remember_35 at h10
  refine kn_putI 1 ckX4 lkF_X4_18 rfl rfl rfl rfl (kg_o4a ho) (kg_o4n ho) dX4_remember_35 (fun M11 e12 => ?_)
  have h13 := h10 M11 e12
  refine kr_aload_n 0 dX4_remember_38 rfl (k := ?_)
  refine kr_aload_n 0 dX4_remember_39 rfl (k := ?_)
  refine kr_getI 2 ckX4 lkF_X4_26 rfl (kg_o4a ho) (kg_o4n ho) dX4_remember_40 (k := ?_)
  refine kr_iconst (1 : Int32) dX4_remember_43 (k := ?_)
  refine kr_iadd dX4_remember_44 (k := ?_)
  refine kr_bipush (20 : Int32) dX4_remember_45 (k := ?_)
  refine kr_mmin lkM_X4_29 (Nat.le_of_ble_eq_true rfl) dX4_remember_47 (k := ?_)
  refine kn_putI 2 ckX4 lkF_X4_26 rfl rfl rfl rfl (kg_o4a ho) (kg_o4n ho) dX4_remember_50 (fun M14 e15 => ?_)
  have h16 := h13 M14 e15
  exact kr_return dX4_remember_53 ⟨rfl, rfl, rfl, h16⟩
set_option maxRecDepth 100000 in
set_option maxHeartbeats 4000000 in
theorem sp_X4_remember {G : kg_G} {E : State → Array Value → Prop} {R : kg_R} {n : Nat} {o1 : Nat} {K : kg_M → Prop} (ho : kg_O4 R n 7) (ho1 : kg_O5 R n o1) (hn : ¬ n < kg_all) {M : kg_M} (h1 : wp_X4_remember o1 M K) : kg_Run G E qX4_remember 1 0 [(0, .ref (kg_b G + 7)), (1, .ref (kg_b G + o1))] [] M R n 0 0 (kg_V R n K) := by
  unfold wp_X4_remember at h1
  refine kr_aload_n 0 dX4_remember_0 rfl (k := ?_)
  refine kr_getR 0 ckX4 lkF_X4_11 rfl (kg_o4a ho) (kg_o4n ho) (kg_o4r0 ho) dX4_remember_1 (k := ?_)
  refine kr_aload_n 0 dX4_remember_4 rfl (k := ?_)
  refine kr_getI 1 ckX4 lkF_X4_18 rfl (kg_o4a ho) (kg_o4n ho) dX4_remember_5 (k := ?_)
  obtain ⟨h2, h3⟩ := h1
  refine kr_aald (kg_o4s0 ho) (kg_o4m0 ho) h2 ((kg_arrP ho h2)).1 dX4_remember_8 (k := ?_)
  refine kr_aload_n 1 dX4_remember_9 rfl (k := ?_)
  refine kn_callVv [.ref (kg_b G + o1)] [] mvX5_copyFrom lkM_X4_22 (kg_o5a ((kg_arrP ho h2)).2) rfl (kg_o5n ((kg_arrP ho h2)).2) dX4_remember_10 (sp_X5_copyFrom ((kg_arrP ho h2)).2 ho1 hn h3) (fun M4 h5 => ?_)
  refine kr_aload_n 0 dX4_remember_13 rfl (k := ?_)
  refine kr_aload_n 0 dX4_remember_14 rfl (k := ?_)
  refine kr_getI 1 ckX4 lkF_X4_18 rfl (kg_o4a ho) (kg_o4n ho) dX4_remember_15 (k := ?_)
  refine kr_iconst (1 : Int32) dX4_remember_18 (k := ?_)
  refine kr_iadd dX4_remember_19 (k := ?_)
  refine kr_bipush (20 : Int32) dX4_remember_20 (k := ?_)
  refine kr_icmp_ge 34 dX4_remember_22 (fun c7 => ?_) (fun c7 => ?_)
  · have h8 := h5.1 c7
    refine kr_iconst (0 : Int32) dX4_remember_34 (k := ?_)
    refine kr_sub [0] [(0, .ref (kg_b G + 7))] rfl ?_
    exact sJ_X4_remember_35 ho ho1 hn (0 : Int32) M4 h8
  · have h9 := h5.2 c7
    refine kr_aload_n 0 dX4_remember_25 rfl (k := ?_)
    refine kr_getI 1 ckX4 lkF_X4_18 rfl (kg_o4a ho) (kg_o4n ho) dX4_remember_26 (k := ?_)
    refine kr_iconst (1 : Int32) dX4_remember_29 (k := ?_)
    refine kr_iadd dX4_remember_30 (k := ?_)
    refine kr_goto 35 dX4_remember_31 ?_
    refine kr_sub [0] [(0, .ref (kg_b G + 7))] rfl ?_
    exact sJ_X4_remember_35 ho ho1 hn ((M4 7 1) + (1 : Int32)) M4 h9
set_option maxRecDepth 100000 in
set_option maxHeartbeats 4000000 in
theorem sJ_X4_restore_26 {G : kg_G} {E : State → Array Value → Prop} {R : kg_R} {n : Nat} {o1 : Nat} {K : kg_M → Prop} (ho : kg_O4 R n 7) (ho1 : kg_O5 R n o1) (hn : ¬ n < kg_all) (s1 : Int32) (M : kg_M) (h8 : wJ_X4_restore_26 o1 K s1 M) : kg_Run G E qX4_restore 1 26 [(0, .ref (kg_b G + 7)), (1, .ref (kg_b G + o1))] [.int s1, .ref (kg_b G + 7)] M R n 0 0 (kg_V R n K) := by
  unfold wJ_X4_restore_26 at h8
  refine kn_putI 1 ckX4 lkF_X4_18 rfl rfl rfl rfl (kg_o4a ho) (kg_o4n ho) dX4_restore_26 (fun M9 e10 => ?_)
  have h11 := h8 M9 e10
  refine kr_aload_n 0 dX4_restore_29 rfl (k := ?_)
  refine kr_dup dX4_restore_30 (k := ?_)
  refine kr_getI 2 ckX4 lkF_X4_26 rfl (kg_o4a ho) (kg_o4n ho) dX4_restore_31 (k := ?_)
  refine kr_iconst (1 : Int32) dX4_restore_34 (k := ?_)
  refine kr_isub dX4_restore_35 (k := ?_)
  refine kn_putI 2 ckX4 lkF_X4_26 rfl rfl rfl rfl (kg_o4a ho) (kg_o4n ho) dX4_restore_36 (fun M12 e13 => ?_)
  have h14 := h11 M12 e13
  refine kr_aload_n 1 dX4_restore_39 rfl (k := ?_)
  refine kr_aload_n 0 dX4_restore_40 rfl (k := ?_)
  refine kr_getR 0 ckX4 lkF_X4_11 rfl (kg_o4a ho) (kg_o4n ho) (kg_o4r0 ho) dX4_restore_41 (k := ?_)
  refine kr_aload_n 0 dX4_restore_44 rfl (k := ?_)
  refine kr_getI 1 ckX4 lkF_X4_18 rfl (kg_o4a ho) (kg_o4n ho) dX4_restore_45 (k := ?_)
  obtain ⟨h15, h16⟩ := h14
  refine kr_aald (kg_o4s0 ho) (kg_o4m0 ho) h15 ((kg_arrP ho h15)).1 dX4_restore_48 (k := ?_)
  refine kn_callVv [.ref (kg_b G + (9 + 4 * (M12 7 1).toNatClampNeg))] [] mvX5_copyFrom lkM_X4_22 (kg_o5a ho1) rfl (kg_o5n ho1) dX4_restore_49 (sp_X5_copyFrom ho1 ((kg_arrP ho h15)).2 hn h16) (fun M17 h18 => ?_)
  exact kr_return dX4_restore_52 ⟨rfl, rfl, rfl, h18⟩
set_option maxRecDepth 100000 in
set_option maxHeartbeats 4000000 in
theorem sp_X4_restore {G : kg_G} {E : State → Array Value → Prop} {R : kg_R} {n : Nat} {o1 : Nat} {K : kg_M → Prop} (ho : kg_O4 R n 7) (ho1 : kg_O5 R n o1) (hn : ¬ n < kg_all) {M : kg_M} (h1 : wp_X4_restore o1 M K) : kg_Run G E qX4_restore 1 0 [(0, .ref (kg_b G + 7)), (1, .ref (kg_b G + o1))] [] M R n 0 0 (kg_V R n K) := by
  unfold wp_X4_restore at h1
  refine kr_aload_n 0 dX4_restore_0 rfl (k := ?_)
  refine kr_getI 2 ckX4 lkF_X4_26 rfl (kg_o4a ho) (kg_o4n ho) dX4_restore_1 (k := ?_)
  refine kr_if_le 52 dX4_restore_4 (fun c2 => ?_) (fun c2 => ?_)
  · have h3 := h1.1 c2
    exact kr_return dX4_restore_52 ⟨rfl, rfl, rfl, h3⟩
  · have h4 := h1.2 c2
    refine kr_aload_n 0 dX4_restore_7 rfl (k := ?_)
    refine kr_aload_n 0 dX4_restore_8 rfl (k := ?_)
    refine kr_getI 1 ckX4 lkF_X4_18 rfl (kg_o4a ho) (kg_o4n ho) dX4_restore_9 (k := ?_)
    refine kr_if_le 24 dX4_restore_12 (fun c5 => ?_) (fun c5 => ?_)
    · have h6 := h4.1 c5
      refine kr_bipush (19 : Int32) dX4_restore_24 (k := ?_)
      refine kr_sub [0, 1] [(0, .ref (kg_b G + 7)), (1, .ref (kg_b G + o1))] rfl ?_
      exact sJ_X4_restore_26 ho ho1 hn (19 : Int32) M h6
    · have h7 := h4.2 c5
      refine kr_aload_n 0 dX4_restore_15 rfl (k := ?_)
      refine kr_getI 1 ckX4 lkF_X4_18 rfl (kg_o4a ho) (kg_o4n ho) dX4_restore_16 (k := ?_)
      refine kr_iconst (1 : Int32) dX4_restore_19 (k := ?_)
      refine kr_isub dX4_restore_20 (k := ?_)
      refine kr_goto 26 dX4_restore_21 ?_
      refine kr_sub [0, 1] [(0, .ref (kg_b G + 7)), (1, .ref (kg_b G + o1))] rfl ?_
      exact sJ_X4_restore_26 ho ho1 hn ((M 7 1) - (1 : Int32)) M h7
set_option maxRecDepth 100000 in
set_option maxHeartbeats 4000000 in
theorem sp_X5_begin {G : kg_G} {E : State → Array Value → Prop} {R : kg_R} {n : Nat} {o1 : Nat} {K : kg_M → Prop} (ho : kg_O5 R n 3) (ho1 : kg_O0 R n o1) {M : kg_M} (h1 : wp_X5_begin o1 M K) : kg_Run G E qX5_begin 1 0 [(0, .ref (kg_b G + 3)), (1, .ref (kg_b G + o1))] [] M R n 0 0 (kg_V R n K) := by
  unfold wp_X5_begin at h1
  refine kr_aload_n 0 dX5_begin_0 rfl (k := ?_)
  refine kr_iconst (0 : Int32) dX5_begin_1 (k := ?_)
  refine kn_putI 0 ckX5 lkF_X5_21 rfl rfl rfl rfl (kg_o5a ho) (kg_o5n ho) dX5_begin_2 (fun M2 e3 => ?_)
  have h4 := h1 M2 e3
  refine kr_aload_n 0 dX5_begin_5 rfl (k := ?_)
  refine kr_iconst (0 : Int32) dX5_begin_6 (k := ?_)
  refine kn_putI 1 ckX5 lkF_X5_25 rfl rfl rfl rfl (kg_o5a ho) (kg_o5n ho) dX5_begin_7 (fun M5 e6 => ?_)
  have h7 := h4 M5 e6
  refine kr_aload_n 0 dX5_begin_10 rfl (k := ?_)
  refine kr_iconst (0 : Int32) dX5_begin_11 (k := ?_)
  refine kn_putI 2 ckX5 lkF_X5_28 rfl rfl rfl rfl (kg_o5a ho) (kg_o5n ho) dX5_begin_12 (fun M8 e9 => ?_)
  have h10 := h7 M8 e9
  refine kr_aload_n 0 dX5_begin_15 rfl (k := ?_)
  refine kr_aload_n 1 dX5_begin_16 rfl (k := ?_)
  refine kr_getI 2 ckX0 lkF_X5_31 rfl (kg_o0a ho1) (kg_o0n ho1) dX5_begin_17 (k := ?_)
  refine kn_putI 3 ckX5 lkF_X5_36 rfl rfl rfl rfl (kg_o5a ho) (kg_o5n ho) dX5_begin_20 (fun M11 e12 => ?_)
  have h13 := h10 M11 e12
  refine kr_aload_n 0 dX5_begin_23 rfl (k := ?_)
  refine kr_aload_n 1 dX5_begin_24 rfl (k := ?_)
  refine kr_getI 3 ckX0 lkF_X5_39 rfl (kg_o0a ho1) (kg_o0n ho1) dX5_begin_25 (k := ?_)
  refine kn_putI 4 ckX5 lkF_X5_42 rfl rfl rfl rfl (kg_o5a ho) (kg_o5n ho) dX5_begin_28 (fun M14 e15 => ?_)
  have h16 := h13 M14 e15
  refine kr_aload_n 0 dX5_begin_31 rfl (k := ?_)
  refine kr_iconst (0 : Int32) dX5_begin_32 (k := ?_)
  refine kn_putI 5 ckX5 lkF_X5_45 rfl rfl rfl rfl (kg_o5a ho) (kg_o5n ho) dX5_begin_33 (fun M17 e18 => ?_)
  have h19 := h16 M17 e18
  refine kr_aload_n 0 dX5_begin_36 rfl (k := ?_)
  refine kr_getR 6 ckX5 lkF_X5_9 rfl (kg_o5a ho) (kg_o5n ho) (kg_o5r6 ho) dX5_begin_37 (k := ?_)
  refine kr_iconst (-1 : Int32) dX5_begin_40 (k := ?_)
  refine kn_callSv [.ref (kg_b G + 4), .int (-1 : Int32)] [] msJ7_fill_53178 lkM_X5_48 dX5_begin_41 (sp_J7_fill_53178 (kg_o5s6 ho) (kg_o5m6 ho) h19) (fun M20 h21 => ?_)
  refine kr_aload_n 0 dX5_begin_44 rfl (k := ?_)
  refine kr_getR 7 ckX5 lkF_X5_15 rfl (kg_o5a ho) (kg_o5n ho) (kg_o5r7 ho) dX5_begin_45 (k := ?_)
  refine kr_iconst (0 : Int32) dX5_begin_48 (k := ?_)
  refine kn_callSv [.ref (kg_b G + 5), .int (0 : Int32)] [] msJ7_fill_53178 lkM_X5_48 dX5_begin_49 (sp_J7_fill_53178 (kg_o5s7 ho) (kg_o5m7 ho) h21) (fun M23 h24 => ?_)
  exact kr_return dX5_begin_52 ⟨rfl, rfl, rfl, h24⟩
set_option maxRecDepth 100000 in
set_option maxHeartbeats 4000000 in
theorem sp_X5_isRusted {G : kg_G} {E : State → Array Value → Prop} {R : kg_R} {n : Nat} {o1 : Nat} {K : Int32 → kg_M → Prop} (ho : kg_O5 R n 3) (ho1 : kg_O0 R n o1) {v2 : Int32} {M : kg_M} (h1 : wp_X5_isRusted o1 v2 M K) : kg_Run G E qX5_isRusted 0 0 [(0, .ref (kg_b G + 3)), (1, .ref (kg_b G + o1)), (2, .int v2)] [] M R n 0 0 (kg_Z R n K) := by
  unfold wp_X5_isRusted at h1
  refine kr_aload_n 0 dX5_isRusted_0 rfl (k := ?_)
  refine kr_getR 7 ckX5 lkF_X5_15 rfl (kg_o5a ho) (kg_o5n ho) (kg_o5r7 ho) dX5_isRusted_1 (k := ?_)
  refine kr_iload_n 2 dX5_isRusted_4 rfl (k := ?_)
  obtain ⟨h2, h3⟩ := h1
  refine kr_iald (kg_o5s7 ho) (kg_o5m7 ho) h2 dX5_isRusted_5 (k := ?_)
  refine kr_aload_n 1 dX5_isRusted_6 rfl (k := ?_)
  refine kr_getR 4 ckX0 lkF_X5_60 rfl (kg_o0a ho1) (kg_o0n ho1) (kg_o0r4 ho1) dX5_isRusted_7 (k := ?_)
  refine kr_iload_n 2 dX5_isRusted_10 rfl (k := ?_)
  obtain ⟨h4, h5⟩ := h3
  refine kr_iald (kg_o0s4 ho1) (kg_o0m4 ho1) h4 dX5_isRusted_11 (k := ?_)
  refine kr_icmp_lt 19 dX5_isRusted_12 (fun c6 => ?_) (fun c6 => ?_)
  · have h7 := h5.1 c6
    refine kr_iconst (0 : Int32) dX5_isRusted_19 (k := ?_)
    exact kr_ireturn dX5_isRusted_20 ⟨rfl, rfl, _, rfl, (by decide), h7⟩
  · have h8 := h5.2 c6
    refine kr_iconst (1 : Int32) dX5_isRusted_15 (k := ?_)
    refine kr_goto 20 dX5_isRusted_16 ?_
    exact kr_ireturn dX5_isRusted_20 ⟨rfl, rfl, _, rfl, (by decide), h8⟩
set_option maxRecDepth 100000 in
set_option maxHeartbeats 4000000 in
theorem sL_X5_madeIllBy_6 {G : kg_G} {E : State → Array Value → Prop} {R : kg_R} {n : Nat} {K : Int32 → kg_M → Prop} (ho : kg_O5 R n 3) {Kx57 : Int32 → kg_M → Prop} (hKx57 : ∀ (v2 : Int32) (M : kg_M), Kx57 v2 M → kg_Run G E qX5_madeIllBy 0 57 [(2, .int v2)] [] M R n 0 0 (kg_I R n K)) : ∀ (f : Nat) (v2 : Int32) (v3 : Int32) (M : kg_M), wL_X5_madeIllBy_6  Kx57 K f v2 v3 M → kg_Run G E qX5_madeIllBy 0 6 [(0, .ref (kg_b G + 3)), (2, .int v2), (3, .int v3)] [] M R n 0 0 (kg_I R n K) := by
  intro f
  induction f with
  | zero => intro v2 v3 M h0; exact h0.elim
  | succ f ih =>
    intro v2 v3 M h2
    rw [wL_X5_madeIllBy_6] at h2
    refine kr_iload_n 2 dX5_madeIllBy_6 rfl (k := ?_)
    refine kr_aload_n 0 dX5_madeIllBy_7 rfl (k := ?_)
    refine kr_getI 5 ckX5 lkF_X5_45 rfl (kg_o5a ho) (kg_o5n ho) dX5_madeIllBy_8 (k := ?_)
    refine kr_icmp_ge 57 dX5_madeIllBy_11 (fun c3 => ?_) (fun c3 => ?_)
    · have h4 := h2.1 c3
      refine kr_sub [1] [(2, .int v2)] rfl ?_
      exact hKx57 v2 M h4
    · have h5 := h2.2 c3
      refine kr_iconst (1 : Int32) dX5_madeIllBy_14 (k := ?_)
      refine kr_aload_n 0 dX5_madeIllBy_15 rfl (k := ?_)
      refine kr_getR 8 ckX5 lkF_X5_18 rfl (kg_o5a ho) (kg_o5n ho) (kg_o5r8 ho) dX5_madeIllBy_16 (k := ?_)
      refine kr_iload_n 2 dX5_madeIllBy_19 rfl (k := ?_)
      obtain ⟨h6, h7⟩ := h5
      refine kr_iald (kg_o5s8 ho) (kg_o5m8 ho) h6 dX5_madeIllBy_20 (k := ?_)
      refine kr_bipush (10 : Int32) dX5_madeIllBy_21 (k := ?_)
      refine kr_idiv dX5_madeIllBy_23 (by decide) (k := ?_)
      refine kr_ishl dX5_madeIllBy_24 (k := ?_)
      refine kr_iconst (1 : Int32) dX5_madeIllBy_25 (k := ?_)
      refine kr_aload_n 0 dX5_madeIllBy_26 rfl (k := ?_)
      refine kr_getR 8 ckX5 lkF_X5_18 rfl (kg_o5a ho) (kg_o5n ho) (kg_o5r8 ho) dX5_madeIllBy_27 (k := ?_)
      refine kr_iload_n 2 dX5_madeIllBy_30 rfl (k := ?_)
      obtain ⟨h8, h9⟩ := h7
      refine kr_iald (kg_o5s8 ho) (kg_o5m8 ho) h8 dX5_madeIllBy_31 (k := ?_)
      refine kr_bipush (10 : Int32) dX5_madeIllBy_32 (k := ?_)
      refine kr_irem dX5_madeIllBy_34 (by decide) (k := ?_)
      refine kr_ishl dX5_madeIllBy_35 (k := ?_)
      refine kr_ior dX5_madeIllBy_36 (k := ?_)
      refine kr_istore [(4, .int (((1 : Int32) <<< (((M 6 v3.toNatClampNeg) / (10 : Int32)) &&& 31)) ||| ((1 : Int32) <<< (((M 6 v3.toNatClampNeg) - (M 6 v3.toNatClampNeg) / (10 : Int32) * (10 : Int32)) &&& 31)))), (0, .ref (kg_b G + 3)), (2, .int v2), (3, .int v3)] dX5_madeIllBy_37 (k := ?_)
      refine kr_iload_n 2 dX5_madeIllBy_39 rfl (k := ?_)
      refine kr_iload 0 dX5_madeIllBy_40 rfl (k := ?_)
      refine kr_iand dX5_madeIllBy_42 (k := ?_)
      refine kr_if_eq 51 dX5_madeIllBy_43 (fun c10 => ?_) (fun c10 => ?_)
      · have h11 := h9.1 c10
        refine kr_iinc (1 : Int32) 3 [(3, .int (v3 + (1 : Int32))), (4, .int (((1 : Int32) <<< (((M 6 v3.toNatClampNeg) / (10 : Int32)) &&& 31)) ||| ((1 : Int32) <<< (((M 6 v3.toNatClampNeg) - (M 6 v3.toNatClampNeg) / (10 : Int32) * (10 : Int32)) &&& 31)))), (0, .ref (kg_b G + 3)), (2, .int v2)] dX5_madeIllBy_51 rfl (k := ?_)
        refine kr_goto 6 dX5_madeIllBy_54 ?_
        refine kr_sub [2, 3, 0] [(0, .ref (kg_b G + 3)), (2, .int v2), (3, .int (v3 + (1 : Int32)))] rfl ?_
        exact ih v2 (v3 + (1 : Int32)) M h11
      · have h12 := h9.2 c10
        refine kr_iload_n 2 dX5_madeIllBy_46 rfl (k := ?_)
        refine kr_iload 0 dX5_madeIllBy_47 rfl (k := ?_)
        refine kr_ior dX5_madeIllBy_49 (k := ?_)
        refine kr_istore_n [(2, .int (v2 ||| (((1 : Int32) <<< (((M 6 v3.toNatClampNeg) / (10 : Int32)) &&& 31)) ||| ((1 : Int32) <<< (((M 6 v3.toNatClampNeg) - (M 6 v3.toNatClampNeg) / (10 : Int32) * (10 : Int32)) &&& 31))))), (4, .int (((1 : Int32) <<< (((M 6 v3.toNatClampNeg) / (10 : Int32)) &&& 31)) ||| ((1 : Int32) <<< (((M 6 v3.toNatClampNeg) - (M 6 v3.toNatClampNeg) / (10 : Int32) * (10 : Int32)) &&& 31)))), (0, .ref (kg_b G + 3)), (3, .int v3)] dX5_madeIllBy_50 (k := ?_)
        refine kr_iinc (1 : Int32) 3 [(3, .int (v3 + (1 : Int32))), (2, .int (v2 ||| (((1 : Int32) <<< (((M 6 v3.toNatClampNeg) / (10 : Int32)) &&& 31)) ||| ((1 : Int32) <<< (((M 6 v3.toNatClampNeg) - (M 6 v3.toNatClampNeg) / (10 : Int32) * (10 : Int32)) &&& 31))))), (4, .int (((1 : Int32) <<< (((M 6 v3.toNatClampNeg) / (10 : Int32)) &&& 31)) ||| ((1 : Int32) <<< (((M 6 v3.toNatClampNeg) - (M 6 v3.toNatClampNeg) / (10 : Int32) * (10 : Int32)) &&& 31)))), (0, .ref (kg_b G + 3))] dX5_madeIllBy_51 rfl (k := ?_)
        refine kr_goto 6 dX5_madeIllBy_54 ?_
        refine kr_sub [3, 1, 0] [(0, .ref (kg_b G + 3)), (2, .int (v2 ||| (((1 : Int32) <<< (((M 6 v3.toNatClampNeg) / (10 : Int32)) &&& 31)) ||| ((1 : Int32) <<< (((M 6 v3.toNatClampNeg) - (M 6 v3.toNatClampNeg) / (10 : Int32) * (10 : Int32)) &&& 31))))), (3, .int (v3 + (1 : Int32)))] rfl ?_
        exact ih (v2 ||| (((1 : Int32) <<< (((M 6 v3.toNatClampNeg) / (10 : Int32)) &&& 31)) ||| ((1 : Int32) <<< (((M 6 v3.toNatClampNeg) - (M 6 v3.toNatClampNeg) / (10 : Int32) * (10 : Int32)) &&& 31)))) (v3 + (1 : Int32)) M h12
set_option maxRecDepth 100000 in
set_option maxHeartbeats 4000000 in
theorem sp_X5_madeIllBy {G : kg_G} {E : State → Array Value → Prop} {R : kg_R} {n : Nat} {K : Int32 → kg_M → Prop} (ho : kg_O5 R n 3) {v1 : Int32} {M : kg_M} (h1 : wp_X5_madeIllBy v1 M K) : kg_Run G E qX5_madeIllBy 0 0 [(0, .ref (kg_b G + 3)), (1, .int v1)] [] M R n 0 0 (kg_I R n K) := by
  unfold wp_X5_madeIllBy at h1
  refine kr_iconst (1 : Int32) dX5_madeIllBy_0 (k := ?_)
  refine kr_iload_n 1 dX5_madeIllBy_1 rfl (k := ?_)
  refine kr_ishl dX5_madeIllBy_2 (k := ?_)
  refine kr_istore_n [(2, .int ((1 : Int32) <<< (v1 &&& 31))), (0, .ref (kg_b G + 3)), (1, .int v1)] dX5_madeIllBy_3 (k := ?_)
  refine kr_iconst (0 : Int32) dX5_madeIllBy_4 (k := ?_)
  refine kr_istore_n [(3, .int (0 : Int32)), (2, .int ((1 : Int32) <<< (v1 &&& 31))), (0, .ref (kg_b G + 3)), (1, .int v1)] dX5_madeIllBy_5 (k := ?_)
  refine kr_sub [2, 1, 0] [(0, .ref (kg_b G + 3)), (2, .int ((1 : Int32) <<< (v1 &&& 31))), (3, .int (0 : Int32))] rfl ?_
  obtain ⟨f14, h15⟩ := h1
  refine sL_X5_madeIllBy_6 ho ?_ f14 ((1 : Int32) <<< (v1 &&& 31)) (0 : Int32) M h15
  · intro v2 M h13
    refine kr_iload_n 0 dX5_madeIllBy_57 rfl (k := ?_)
    exact kr_ireturn dX5_madeIllBy_58 ⟨rfl, rfl, _, rfl, h13⟩
set_option maxRecDepth 100000 in
set_option maxHeartbeats 4000000 in
theorem sJ_X5_meet_91 {G : kg_G} {E : State → Array Value → Prop} {R : kg_R} {n : Nat} {K : kg_M → Prop} (ho : kg_O5 R n 3) (hn : ¬ n < kg_all) (v1 : Int32) (v2 : Int32) (M : kg_M) (h25 : wJ_X5_meet_91  K v1 v2 M) : kg_Run G E qX5_meet 0 91 [(0, .ref (kg_b G + 3)), (1, .int v1), (2, .int v2)] [] M R n 0 0 (kg_V R n K) := by
  unfold wJ_X5_meet_91 at h25
  refine kr_aload_n 0 dX5_meet_91 rfl (k := ?_)
  refine kr_getR 8 ckX5 lkF_X5_18 rfl (kg_o5a ho) (kg_o5n ho) (kg_o5r8 ho) dX5_meet_92 (k := ?_)
  refine kr_aload_n 0 dX5_meet_95 rfl (k := ?_)
  refine kr_getI 5 ckX5 lkF_X5_45 rfl (kg_o5a ho) (kg_o5n ho) dX5_meet_96 (k := ?_)
  refine kr_bipush (10 : Int32) dX5_meet_99 (k := ?_)
  refine kr_iload_n 1 dX5_meet_101 rfl (k := ?_)
  refine kr_imul dX5_meet_102 (k := ?_)
  refine kr_iload_n 2 dX5_meet_103 rfl (k := ?_)
  refine kr_iadd dX5_meet_104 (k := ?_)
  obtain ⟨h26, h27⟩ := h25
  refine kn_iast (kg_o5s8 ho) (kg_o5m8 ho) h26 dX5_meet_105 (fun M28 e29 => ?_)
  have h30 := h27 M28 e29
  refine kr_aload_n 0 dX5_meet_106 rfl (k := ?_)
  refine kr_dup dX5_meet_107 (k := ?_)
  refine kr_getI 5 ckX5 lkF_X5_45 rfl (kg_o5a ho) (kg_o5n ho) dX5_meet_108 (k := ?_)
  refine kr_iconst (1 : Int32) dX5_meet_111 (k := ?_)
  refine kr_iadd dX5_meet_112 (k := ?_)
  refine kn_putI 5 ckX5 lkF_X5_45 rfl rfl rfl rfl (kg_o5a ho) (kg_o5n ho) dX5_meet_113 (fun M31 e32 => ?_)
  have h33 := h30 M31 e32
  exact kr_return dX5_meet_116 ⟨rfl, rfl, rfl, h33⟩
set_option maxRecDepth 100000 in
set_option maxHeartbeats 4000000 in
theorem sJ_X5_meet_37 {G : kg_G} {E : State → Array Value → Prop} {R : kg_R} {n : Nat} {K : kg_M → Prop} (ho : kg_O5 R n 3) (hn : ¬ n < kg_all) (v1 : Int32) (v2 : Int32) (M : kg_M) (h8 : wJ_X5_meet_37  K v1 v2 M) : kg_Run G E qX5_meet 0 37 [(0, .ref (kg_b G + 3)), (1, .int v1), (2, .int v2)] [] M R n 0 0 (kg_V R n K) := by
  unfold wJ_X5_meet_37 at h8
  refine kr_aload_n 0 dX5_meet_37 rfl (k := ?_)
  refine kr_getR 6 ckX5 lkF_X5_9 rfl (kg_o5a ho) (kg_o5n ho) (kg_o5r6 ho) dX5_meet_38 (k := ?_)
  refine kr_iload_n 1 dX5_meet_41 rfl (k := ?_)
  refine kr_iconst (-1 : Int32) dX5_meet_42 (k := ?_)
  obtain ⟨h9, h10⟩ := h8
  refine kn_iast (kg_o5s6 ho) (kg_o5m6 ho) h9 dX5_meet_43 (fun M11 e12 => ?_)
  have h13 := h10 M11 e12
  refine kr_aload_n 0 dX5_meet_44 rfl (k := ?_)
  refine kr_getR 6 ckX5 lkF_X5_9 rfl (kg_o5a ho) (kg_o5n ho) (kg_o5r6 ho) dX5_meet_45 (k := ?_)
  refine kr_iload_n 2 dX5_meet_48 rfl (k := ?_)
  refine kr_iconst (-1 : Int32) dX5_meet_49 (k := ?_)
  obtain ⟨h14, h15⟩ := h13
  refine kn_iast (kg_o5s6 ho) (kg_o5m6 ho) h14 dX5_meet_50 (fun M16 e17 => ?_)
  have h18 := h15 M16 e17
  refine kr_aload_n 0 dX5_meet_51 rfl (k := ?_)
  refine kr_dup dX5_meet_52 (k := ?_)
  refine kr_getI 1 ckX5 lkF_X5_25 rfl (kg_o5a ho) (kg_o5n ho) dX5_meet_53 (k := ?_)
  refine kr_iconst (1 : Int32) dX5_meet_56 (k := ?_)
  refine kr_iadd dX5_meet_57 (k := ?_)
  refine kn_putI 1 ckX5 lkF_X5_25 rfl rfl rfl rfl (kg_o5a ho) (kg_o5n ho) dX5_meet_58 (fun M19 e20 => ?_)
  have h21 := h18 M19 e20
  refine kr_aload_n 0 dX5_meet_61 rfl (k := ?_)
  refine kr_getI 5 ckX5 lkF_X5_45 rfl (kg_o5a ho) (kg_o5n ho) dX5_meet_62 (k := ?_)
  refine kr_bipush (20 : Int32) dX5_meet_65 (k := ?_)
  refine kr_icmp_lt 91 dX5_meet_67 (fun c22 => ?_) (fun c22 => ?_)
  · have h23 := h21.1 c22
    refine kr_sub [0, 1, 2] [(0, .ref (kg_b G + 3)), (1, .int v1), (2, .int v2)] rfl ?_
    exact sJ_X5_meet_91 ho hn v1 v2 M19 h23
  · have h24 := h21.2 c22
    refine kr_aload_n 0 dX5_meet_70 rfl (k := ?_)
    refine kr_getR 8 ckX5 lkF_X5_18 rfl (kg_o5a ho) (kg_o5n ho) (kg_o5r8 ho) dX5_meet_71 (k := ?_)
    refine kr_iconst (1 : Int32) dX5_meet_74 (k := ?_)
    refine kr_aload_n 0 dX5_meet_75 rfl (k := ?_)
    refine kr_getR 8 ckX5 lkF_X5_18 rfl (kg_o5a ho) (kg_o5n ho) (kg_o5r8 ho) dX5_meet_76 (k := ?_)
    refine kr_iconst (0 : Int32) dX5_meet_79 (k := ?_)
    refine kr_bipush (19 : Int32) dX5_meet_80 (k := ?_)
    refine kn_copy hn lkM_X5_54 (kg_o5s8 ho) (kg_o5s8 ho) (kg_o5m8 ho) (kg_o5m8 ho) (by decide) (by decide) (by decide) (by decide) (by decide) (Nat.le_of_ble_eq_true rfl) dX5_meet_82 (fun M34 e35 => ?_)
    have h36 := h24 M34 e35
    refine kr_aload_n 0 dX5_meet_85 rfl (k := ?_)
    refine kr_bipush (19 : Int32) dX5_meet_86 (k := ?_)
    refine kn_putI 5 ckX5 lkF_X5_45 rfl rfl rfl rfl (kg_o5a ho) (kg_o5n ho) dX5_meet_88 (fun M37 e38 => ?_)
    have h39 := h36 M37 e38
    refine kr_sub [0, 1, 2] [(0, .ref (kg_b G + 3)), (1, .int v1), (2, .int v2)] rfl ?_
    exact sJ_X5_meet_91 ho hn v1 v2 M37 h39
set_option maxRecDepth 100000 in
set_option maxHeartbeats 4000000 in
theorem sp_X5_meet {G : kg_G} {E : State → Array Value → Prop} {R : kg_R} {n : Nat} {K : kg_M → Prop} (ho : kg_O5 R n 3) (hn : ¬ n < kg_all) {v1 : Int32} {v2 : Int32} {M : kg_M} (h1 : wp_X5_meet v1 v2 M K) : kg_Run G E qX5_meet 0 0 [(0, .ref (kg_b G + 3)), (1, .int v1), (2, .int v2)] [] M R n 0 0 (kg_V R n K) := by
  unfold wp_X5_meet at h1
  refine kr_iconst (1 : Int32) dX5_meet_0 (k := ?_)
  refine kr_iload_n 1 dX5_meet_1 rfl (k := ?_)
  refine kr_ishl dX5_meet_2 (k := ?_)
  refine kr_iconst (1 : Int32) dX5_meet_3 (k := ?_)
  refine kr_iload_n 2 dX5_meet_4 rfl (k := ?_)
  refine kr_ishl dX5_meet_5 (k := ?_)
  refine kr_ior dX5_meet_6 (k := ?_)
  refine kr_istore_n [(3, .int (((1 : Int32) <<< (v1 &&& 31)) ||| ((1 : Int32) <<< (v2 &&& 31)))), (0, .ref (kg_b G + 3)), (1, .int v1), (2, .int v2)] dX5_meet_7 (k := ?_)
  refine kr_aload_n 1 dX5_meet_8 rfl (k := ?_)
  refine kr_dup dX5_meet_9 (k := ?_)
  refine kr_getI 3 ckX5 lkF_X5_36 rfl (kg_o5a ho) (kg_o5n ho) dX5_meet_10 (k := ?_)
  refine kr_iload_n 0 dX5_meet_13 rfl (k := ?_)
  refine kr_ixor dX5_meet_14 (k := ?_)
  refine kn_putI 3 ckX5 lkF_X5_36 rfl rfl rfl rfl (kg_o5a ho) (kg_o5n ho) dX5_meet_15 (fun M2 e3 => ?_)
  have h4 := h1 M2 e3
  refine kr_aload_n 1 dX5_meet_18 rfl (k := ?_)
  refine kr_getI 4 ckX5 lkF_X5_42 rfl (kg_o5a ho) (kg_o5n ho) dX5_meet_19 (k := ?_)
  refine kr_iload_n 0 dX5_meet_22 rfl (k := ?_)
  refine kr_iand dX5_meet_23 (k := ?_)
  refine kr_if_eq 37 dX5_meet_24 (fun c5 => ?_) (fun c5 => ?_)
  · have h6 := h4.1 c5
    refine kr_sub [1, 2, 3] [(0, .ref (kg_b G + 3)), (1, .int v1), (2, .int v2)] rfl ?_
    exact sJ_X5_meet_37 ho hn v1 v2 M2 h6
  · have h7 := h4.2 c5
    refine kr_aload_n 1 dX5_meet_27 rfl (k := ?_)
    refine kr_dup dX5_meet_28 (k := ?_)
    refine kr_getI 4 ckX5 lkF_X5_42 rfl (kg_o5a ho) (kg_o5n ho) dX5_meet_29 (k := ?_)
    refine kr_iload_n 0 dX5_meet_32 rfl (k := ?_)
    refine kr_ior dX5_meet_33 (k := ?_)
    refine kn_putI 4 ckX5 lkF_X5_42 rfl rfl rfl rfl (kg_o5a ho) (kg_o5n ho) dX5_meet_34 (fun M40 e41 => ?_)
    have h42 := h7 M40 e41
    refine kr_sub [1, 2, 3] [(0, .ref (kg_b G + 3)), (1, .int v1), (2, .int v2)] rfl ?_
    exact sJ_X5_meet_37 ho hn v1 v2 M40 h42
set_option maxRecDepth 100000 in
set_option maxHeartbeats 4000000 in
theorem sL_X5_waitingAt_5 {G : kg_G} {E : State → Array Value → Prop} {R : kg_R} {n : Nat} {o1 : Nat} {K : Int32 → kg_M → Prop} (ho : kg_O5 R n 3) (ho1 : kg_O0 R n o1) {Kx38 : Int32 → kg_M → Prop} (hKx38 : ∀ (v3 : Int32) (M : kg_M), Kx38 v3 M → kg_Run G E qX5_waitingAt 0 38 [(3, .int v3)] [] M R n 0 0 (kg_I R n K)) : ∀ (f : Nat) (v2 : Int32) (v3 : Int32) (v4 : Int32) (M : kg_M), wL_X5_waitingAt_5 o1 Kx38 K f v2 v3 v4 M → kg_Run G E qX5_waitingAt 0 5 [(0, .ref (kg_b G + 3)), (1, .ref (kg_b G + o1)), (2, .int v2), (3, .int v3), (4, .int v4)] [] M R n 0 0 (kg_I R n K) := by
  intro f
  induction f with
  | zero => intro v2 v3 v4 M h0; exact h0.elim
  | succ f ih =>
    intro v2 v3 v4 M h2
    rw [wL_X5_waitingAt_5] at h2
    refine kr_iload 4 dX5_waitingAt_5 rfl (k := ?_)
    refine kr_aload_n 1 dX5_waitingAt_7 rfl (k := ?_)
    refine kr_getI 1 ckX0 lkF_X5_70 rfl (kg_o0a ho1) (kg_o0n ho1) dX5_waitingAt_8 (k := ?_)
    refine kr_icmp_ge 38 dX5_waitingAt_11 (fun c3 => ?_) (fun c3 => ?_)
    · have h4 := h2.1 c3
      refine kr_sub [3] [(3, .int v3)] rfl ?_
      exact hKx38 v3 M h4
    · have h5 := h2.2 c3
      refine kr_aload_n 0 dX5_waitingAt_14 rfl (k := ?_)
      refine kr_getR 6 ckX5 lkF_X5_9 rfl (kg_o5a ho) (kg_o5n ho) (kg_o5r6 ho) dX5_waitingAt_15 (k := ?_)
      refine kr_iload 4 dX5_waitingAt_18 rfl (k := ?_)
      obtain ⟨h6, h7⟩ := h5
      refine kr_iald (kg_o5s6 ho) (kg_o5m6 ho) h6 dX5_waitingAt_20 (k := ?_)
      refine kr_iload_n 2 dX5_waitingAt_21 rfl (k := ?_)
      refine kr_icmp_ne 32 dX5_waitingAt_22 (fun c8 => ?_) (fun c8 => ?_)
      · have h9 := h7.1 c8
        refine kr_iinc (1 : Int32) 4 [(4, .int (v4 + (1 : Int32))), (0, .ref (kg_b G + 3)), (1, .ref (kg_b G + o1)), (2, .int v2), (3, .int v3)] dX5_waitingAt_32 rfl (k := ?_)
        refine kr_goto 5 dX5_waitingAt_35 ?_
        refine kr_sub [1, 2, 3, 4, 0] [(0, .ref (kg_b G + 3)), (1, .ref (kg_b G + o1)), (2, .int v2), (3, .int v3), (4, .int (v4 + (1 : Int32)))] rfl ?_
        exact ih v2 v3 (v4 + (1 : Int32)) M h9
      · have h10 := h7.2 c8
        refine kr_iload_n 3 dX5_waitingAt_25 rfl (k := ?_)
        refine kr_iconst (1 : Int32) dX5_waitingAt_26 (k := ?_)
        refine kr_iload 4 dX5_waitingAt_27 rfl (k := ?_)
        refine kr_ishl dX5_waitingAt_29 (k := ?_)
        refine kr_ior dX5_waitingAt_30 (k := ?_)
        refine kr_istore_n [(3, .int (v3 ||| ((1 : Int32) <<< (v4 &&& 31)))), (0, .ref (kg_b G + 3)), (1, .ref (kg_b G + o1)), (2, .int v2), (4, .int v4)] dX5_waitingAt_31 (k := ?_)
        refine kr_iinc (1 : Int32) 4 [(4, .int (v4 + (1 : Int32))), (3, .int (v3 ||| ((1 : Int32) <<< (v4 &&& 31)))), (0, .ref (kg_b G + 3)), (1, .ref (kg_b G + o1)), (2, .int v2)] dX5_waitingAt_32 rfl (k := ?_)
        refine kr_goto 5 dX5_waitingAt_35 ?_
        refine kr_sub [2, 3, 4, 1, 0] [(0, .ref (kg_b G + 3)), (1, .ref (kg_b G + o1)), (2, .int v2), (3, .int (v3 ||| ((1 : Int32) <<< (v4 &&& 31)))), (4, .int (v4 + (1 : Int32)))] rfl ?_
        exact ih v2 (v3 ||| ((1 : Int32) <<< (v4 &&& 31))) (v4 + (1 : Int32)) M h10
set_option maxRecDepth 100000 in
set_option maxHeartbeats 4000000 in
theorem sp_X5_waitingAt {G : kg_G} {E : State → Array Value → Prop} {R : kg_R} {n : Nat} {o1 : Nat} {K : Int32 → kg_M → Prop} (ho : kg_O5 R n 3) (ho1 : kg_O0 R n o1) {v2 : Int32} {M : kg_M} (h1 : wp_X5_waitingAt o1 v2 M K) : kg_Run G E qX5_waitingAt 0 0 [(0, .ref (kg_b G + 3)), (1, .ref (kg_b G + o1)), (2, .int v2)] [] M R n 0 0 (kg_I R n K) := by
  unfold wp_X5_waitingAt at h1
  refine kr_iconst (0 : Int32) dX5_waitingAt_0 (k := ?_)
  refine kr_istore_n [(3, .int (0 : Int32)), (0, .ref (kg_b G + 3)), (1, .ref (kg_b G + o1)), (2, .int v2)] dX5_waitingAt_1 (k := ?_)
  refine kr_iconst (0 : Int32) dX5_waitingAt_2 (k := ?_)
  refine kr_istore [(4, .int (0 : Int32)), (3, .int (0 : Int32)), (0, .ref (kg_b G + 3)), (1, .ref (kg_b G + o1)), (2, .int v2)] dX5_waitingAt_3 (k := ?_)
  refine kr_sub [2, 3, 4, 1, 0] [(0, .ref (kg_b G + 3)), (1, .ref (kg_b G + o1)), (2, .int v2), (3, .int (0 : Int32)), (4, .int (0 : Int32))] rfl ?_
  obtain ⟨f12, h13⟩ := h1
  refine sL_X5_waitingAt_5 ho ho1 ?_ f12 v2 (0 : Int32) (0 : Int32) M h13
  · intro v3 M h11
    refine kr_iload_n 0 dX5_waitingAt_38 rfl (k := ?_)
    exact kr_ireturn dX5_waitingAt_39 ⟨rfl, rfl, _, rfl, h11⟩
set_option maxRecDepth 100000 in
set_option maxHeartbeats 4000000 in
theorem sL_X5_meetAt_62 {G : kg_G} {E : State → Array Value → Prop} {R : kg_R} {n : Nat} {o1 : Nat} {K : Int32 → kg_M → Prop} (ho : kg_O5 R n 3) (ho1 : kg_O0 R n o1) (hn : ¬ n < kg_all) {Kx119 : Int32 → Int32 → Int32 → Int32 → Int32 → kg_M → Prop} (hKx119 : ∀ (v3 : Int32) (v4 : Int32) (v5 : Int32) (v6 : Int32) (v7 : Int32) (M : kg_M), Kx119 v3 v4 v5 v6 v7 M → kg_Run G E qX5_meetAt 4 119 [(0, .ref (kg_b G + 3)), (1, .ref (kg_b G + o1)), (3, .int v3), (4, .int v4), (5, .int v5), (6, .int v6), (7, .int v7)] [] M R n 0 0 (kg_Z R n K)) : ∀ (f : Nat) (v3 : Int32) (v4 : Int32) (v5 : Int32) (v6 : Int32) (v7 : Int32) (v8 : Int32) (v9 : Int32) (M : kg_M), wL_X5_meetAt_62 o1 Kx119 K f v3 v4 v5 v6 v7 v8 v9 M → kg_Run G E qX5_meetAt 4 62 [(0, .ref (kg_b G + 3)), (1, .ref (kg_b G + o1)), (3, .int v3), (4, .int v4), (5, .int v5), (6, .int v6), (7, .int v7), (8, .int v8), (9, .int v9)] [] M R n 0 0 (kg_Z R n K) := by
  intro f
  induction f with
  | zero => intro v3 v4 v5 v6 v7 v8 v9 M h0; exact h0.elim
  | succ f ih =>
    intro v3 v4 v5 v6 v7 v8 v9 M h12
    rw [wL_X5_meetAt_62] at h12
    refine kr_iload 8 dX5_meetAt_62 rfl (k := ?_)
    refine kr_aload_n 1 dX5_meetAt_64 rfl (k := ?_)
    refine kr_getI 1 ckX0 lkF_X5_70 rfl (kg_o0a ho1) (kg_o0n ho1) dX5_meetAt_65 (k := ?_)
    refine kr_icmp_ge 119 dX5_meetAt_68 (fun c13 => ?_) (fun c13 => ?_)
    · have h14 := h12.1 c13
      refine kr_sub [0, 1, 2, 3, 4, 5, 6] [(0, .ref (kg_b G + 3)), (1, .ref (kg_b G + o1)), (3, .int v3), (4, .int v4), (5, .int v5), (6, .int v6), (7, .int v7)] rfl ?_
      exact hKx119 v3 v4 v5 v6 v7 M h14
    · have h15 := h12.2 c13
      refine kr_iload 7 dX5_meetAt_71 rfl (k := ?_)
      refine kr_iload 8 dX5_meetAt_73 rfl (k := ?_)
      refine kr_ishr dX5_meetAt_75 (k := ?_)
      refine kr_iconst (1 : Int32) dX5_meetAt_76 (k := ?_)
      refine kr_iand dX5_meetAt_77 (k := ?_)
      refine kr_iconst (1 : Int32) dX5_meetAt_78 (k := ?_)
      refine kr_icmp_ne 113 dX5_meetAt_79 (fun c16 => ?_) (fun c16 => ?_)
      · have h17 := h15.1 c16
        refine kr_iinc (1 : Int32) 8 [(9, .int (v9 + (1 : Int32))), (0, .ref (kg_b G + 3)), (1, .ref (kg_b G + o1)), (3, .int v3), (4, .int v4), (5, .int v5), (6, .int v6), (7, .int v7), (8, .int v8)] dX5_meetAt_113 rfl (k := ?_)
        refine kr_goto 62 dX5_meetAt_116 ?_
        refine kr_sub [1, 2, 3, 4, 5, 6, 7, 8, 0] [(0, .ref (kg_b G + 3)), (1, .ref (kg_b G + o1)), (3, .int v3), (4, .int v4), (5, .int v5), (6, .int v6), (7, .int v7), (8, .int v8), (9, .int (v9 + (1 : Int32)))] rfl ?_
        exact ih v3 v4 v5 v6 v7 v8 (v9 + (1 : Int32)) M h17
      · have h18 := h15.2 c16
        refine kr_aload_n 1 dX5_meetAt_82 rfl (k := ?_)
        refine kr_iload 6 dX5_meetAt_83 rfl (k := ?_)
        refine kr_iload 8 dX5_meetAt_85 rfl (k := ?_)
        refine kn_callVi [.int v7, .int v9] [] mvX0_together lkM_X5_84 (kg_o0a ho1) rfl (kg_o0n ho1) dX5_meetAt_87 (sp_X0_together ho1 h18) (fun r21 M19 h20 => ?_)
        refine kr_iload 5 dX5_meetAt_90 rfl (k := ?_)
        refine kr_icmp_le 113 dX5_meetAt_92 (fun c22 => ?_) (fun c22 => ?_)
        · have h23 := h20.1 c22
          refine kr_iinc (1 : Int32) 8 [(9, .int (v9 + (1 : Int32))), (0, .ref (kg_b G + 3)), (1, .ref (kg_b G + o1)), (3, .int v3), (4, .int v4), (5, .int v5), (6, .int v6), (7, .int v7), (8, .int v8)] dX5_meetAt_113 rfl (k := ?_)
          refine kr_goto 62 dX5_meetAt_116 ?_
          refine kr_sub [1, 2, 3, 4, 5, 6, 7, 8, 0] [(0, .ref (kg_b G + 3)), (1, .ref (kg_b G + o1)), (3, .int v3), (4, .int v4), (5, .int v5), (6, .int v6), (7, .int v7), (8, .int v8), (9, .int (v9 + (1 : Int32)))] rfl ?_
          exact ih v3 v4 v5 v6 v7 v8 (v9 + (1 : Int32)) M19 h23
        · have h24 := h20.2 c22
          refine kr_iload 6 dX5_meetAt_95 rfl (k := ?_)
          refine kr_istore [(4, .int v7), (0, .ref (kg_b G + 3)), (1, .ref (kg_b G + o1)), (3, .int v3), (5, .int v5), (6, .int v6), (7, .int v7), (8, .int v8), (9, .int v9)] dX5_meetAt_97 (k := ?_)
          refine kr_iload 8 dX5_meetAt_99 rfl (k := ?_)
          refine kr_istore [(5, .int v9), (4, .int v7), (0, .ref (kg_b G + 3)), (1, .ref (kg_b G + o1)), (3, .int v3), (6, .int v6), (7, .int v7), (8, .int v8), (9, .int v9)] dX5_meetAt_101 (k := ?_)
          refine kr_aload_n 3 dX5_meetAt_103 rfl (k := ?_)
          refine kr_iload 6 dX5_meetAt_104 rfl (k := ?_)
          refine kr_iload 8 dX5_meetAt_106 rfl (k := ?_)
          refine kn_callVi [.int v7, .int v9] [] mvX0_together lkM_X5_84 (kg_o0a ho1) rfl (kg_o0n ho1) dX5_meetAt_108 (sp_X0_together ho1 h24) (fun r27 M25 h26 => ?_)
          refine kr_istore [(6, .int r27), (5, .int v9), (4, .int v7), (0, .ref (kg_b G + 3)), (1, .ref (kg_b G + o1)), (3, .int v3), (7, .int v7), (8, .int v8), (9, .int v9)] dX5_meetAt_111 (k := ?_)
          refine kr_iinc (1 : Int32) 8 [(9, .int (v9 + (1 : Int32))), (6, .int r27), (5, .int v9), (4, .int v7), (0, .ref (kg_b G + 3)), (1, .ref (kg_b G + o1)), (3, .int v3), (7, .int v7), (8, .int v8)] dX5_meetAt_113 rfl (k := ?_)
          refine kr_goto 62 dX5_meetAt_116 ?_
          refine kr_sub [4, 5, 6, 3, 2, 1, 7, 8, 0] [(0, .ref (kg_b G + 3)), (1, .ref (kg_b G + o1)), (3, .int v3), (4, .int v7), (5, .int v9), (6, .int r27), (7, .int v7), (8, .int v8), (9, .int (v9 + (1 : Int32)))] rfl ?_
          exact ih v3 v7 v9 r27 v7 v8 (v9 + (1 : Int32)) M25 h26
set_option maxRecDepth 100000 in
set_option maxHeartbeats 4000000 in
theorem sL_X5_meetAt_19 {G : kg_G} {E : State → Array Value → Prop} {R : kg_R} {n : Nat} {o1 : Nat} {K : Int32 → kg_M → Prop} (ho : kg_O5 R n 3) (ho1 : kg_O0 R n o1) (hn : ¬ n < kg_all) {Kx125 : Int32 → Int32 → kg_M → Prop} (hKx125 : ∀ (v4 : Int32) (v5 : Int32) (M : kg_M), Kx125 v4 v5 M → kg_Run G E qX5_meetAt 4 125 [(0, .ref (kg_b G + 3)), (4, .int v4), (5, .int v5)] [] M R n 0 0 (kg_Z R n K)) : ∀ (f : Nat) (v3 : Int32) (v4 : Int32) (v5 : Int32) (v6 : Int32) (v7 : Int32) (M : kg_M), wL_X5_meetAt_19 o1 Kx125 K f v3 v4 v5 v6 v7 M → kg_Run G E qX5_meetAt 4 19 [(0, .ref (kg_b G + 3)), (1, .ref (kg_b G + o1)), (3, .int v3), (4, .int v4), (5, .int v5), (6, .int v6), (7, .int v7)] [] M R n 0 0 (kg_Z R n K) := by
  intro f
  induction f with
  | zero => intro v3 v4 v5 v6 v7 M h0; exact h0.elim
  | succ f ih =>
    intro v3 v4 v5 v6 v7 M h5
    rw [wL_X5_meetAt_19] at h5
    refine kr_iload 6 dX5_meetAt_19 rfl (k := ?_)
    refine kr_aload_n 1 dX5_meetAt_21 rfl (k := ?_)
    refine kr_getI 1 ckX0 lkF_X5_70 rfl (kg_o0a ho1) (kg_o0n ho1) dX5_meetAt_22 (k := ?_)
    refine kr_icmp_ge 125 dX5_meetAt_25 (fun c6 => ?_) (fun c6 => ?_)
    · have h7 := h5.1 c6
      refine kr_sub [0, 3, 4] [(0, .ref (kg_b G + 3)), (4, .int v4), (5, .int v5)] rfl ?_
      exact hKx125 v4 v5 M h7
    · have h8 := h5.2 c6
      refine kr_iload_n 2 dX5_meetAt_28 rfl (k := ?_)
      refine kr_iload 6 dX5_meetAt_29 rfl (k := ?_)
      refine kr_ishr dX5_meetAt_31 (k := ?_)
      refine kr_iconst (1 : Int32) dX5_meetAt_32 (k := ?_)
      refine kr_iand dX5_meetAt_33 (k := ?_)
      refine kr_iconst (1 : Int32) dX5_meetAt_34 (k := ?_)
      refine kr_icmp_ne 53 dX5_meetAt_35 (fun c9 => ?_) (fun c9 => ?_)
      · have h10 := h8.1 c9
        refine kr_iconst (0 : Int32) dX5_meetAt_53 (k := ?_)
        refine kr_istore [(8, .int (0 : Int32)), (0, .ref (kg_b G + 3)), (1, .ref (kg_b G + o1)), (3, .int v3), (4, .int v4), (5, .int v5), (6, .int v6), (7, .int v7)] dX5_meetAt_54 (k := ?_)
        refine kr_iload 7 dX5_meetAt_56 rfl (k := ?_)
        refine kr_iconst (1 : Int32) dX5_meetAt_58 (k := ?_)
        refine kr_iadd dX5_meetAt_59 (k := ?_)
        refine kr_istore [(9, .int (v7 + (1 : Int32))), (8, .int (0 : Int32)), (0, .ref (kg_b G + 3)), (1, .ref (kg_b G + o1)), (3, .int v3), (4, .int v4), (5, .int v5), (6, .int v6), (7, .int v7)] dX5_meetAt_60 (k := ?_)
        refine kr_sub [2, 3, 4, 5, 6, 7, 8, 1, 0] [(0, .ref (kg_b G + 3)), (1, .ref (kg_b G + o1)), (3, .int v3), (4, .int v4), (5, .int v5), (6, .int v6), (7, .int v7), (8, .int (0 : Int32)), (9, .int (v7 + (1 : Int32)))] rfl ?_
        obtain ⟨f29, h30⟩ := h10
        refine sL_X5_meetAt_62 ho ho1 hn ?_ f29 v3 v4 v5 v6 v7 (0 : Int32) (v7 + (1 : Int32)) M h30
        · intro v3 v4 v5 v6 v7 M h28
          refine kr_iinc (1 : Int32) 6 [(7, .int (v7 + (1 : Int32))), (0, .ref (kg_b G + 3)), (1, .ref (kg_b G + o1)), (3, .int v3), (4, .int v4), (5, .int v5), (6, .int v6)] dX5_meetAt_119 rfl (k := ?_)
          refine kr_goto 19 dX5_meetAt_122 ?_
          refine kr_sub [1, 2, 3, 4, 5, 6, 0] [(0, .ref (kg_b G + 3)), (1, .ref (kg_b G + o1)), (3, .int v3), (4, .int v4), (5, .int v5), (6, .int v6), (7, .int (v7 + (1 : Int32)))] rfl ?_
          exact ih v3 v4 v5 v6 (v7 + (1 : Int32)) M h28
      · have h11 := h8.2 c9
        refine kr_iload_n 2 dX5_meetAt_38 rfl (k := ?_)
        refine kr_aload_n 1 dX5_meetAt_39 rfl (k := ?_)
        refine kr_iload 6 dX5_meetAt_40 rfl (k := ?_)
        refine kr_aload_n 0 dX5_meetAt_42 rfl (k := ?_)
        refine kr_getI 3 ckX5 lkF_X5_36 rfl (kg_o5a ho) (kg_o5n ho) dX5_meetAt_43 (k := ?_)
        refine kn_callVi [.int v7, .int (M 3 3)] [.int v3] mvX0_wouldMeet lkM_X5_80 (kg_o0a ho1) rfl (kg_o0n ho1) dX5_meetAt_46 (sp_X0_wouldMeet ho1 h11) (fun r33 M31 h32 => ?_)
        refine kr_iand dX5_meetAt_49 (k := ?_)
        refine kr_goto 54 dX5_meetAt_50 ?_
        refine kr_istore [(8, .int (v3 &&& r33)), (0, .ref (kg_b G + 3)), (1, .ref (kg_b G + o1)), (3, .int v3), (4, .int v4), (5, .int v5), (6, .int v6), (7, .int v7)] dX5_meetAt_54 (k := ?_)
        refine kr_iload 7 dX5_meetAt_56 rfl (k := ?_)
        refine kr_iconst (1 : Int32) dX5_meetAt_58 (k := ?_)
        refine kr_iadd dX5_meetAt_59 (k := ?_)
        refine kr_istore [(9, .int (v7 + (1 : Int32))), (8, .int (v3 &&& r33)), (0, .ref (kg_b G + 3)), (1, .ref (kg_b G + o1)), (3, .int v3), (4, .int v4), (5, .int v5), (6, .int v6), (7, .int v7)] dX5_meetAt_60 (k := ?_)
        refine kr_sub [2, 3, 4, 5, 6, 7, 8, 1, 0] [(0, .ref (kg_b G + 3)), (1, .ref (kg_b G + o1)), (3, .int v3), (4, .int v4), (5, .int v5), (6, .int v6), (7, .int v7), (8, .int (v3 &&& r33)), (9, .int (v7 + (1 : Int32)))] rfl ?_
        obtain ⟨f35, h36⟩ := h32
        refine sL_X5_meetAt_62 ho ho1 hn ?_ f35 v3 v4 v5 v6 v7 (v3 &&& r33) (v7 + (1 : Int32)) M31 h36
        · intro v3 v4 v5 v6 v7 M h34
          refine kr_iinc (1 : Int32) 6 [(7, .int (v7 + (1 : Int32))), (0, .ref (kg_b G + 3)), (1, .ref (kg_b G + o1)), (3, .int v3), (4, .int v4), (5, .int v5), (6, .int v6)] dX5_meetAt_119 rfl (k := ?_)
          refine kr_goto 19 dX5_meetAt_122 ?_
          refine kr_sub [1, 2, 3, 4, 5, 6, 0] [(0, .ref (kg_b G + 3)), (1, .ref (kg_b G + o1)), (3, .int v3), (4, .int v4), (5, .int v5), (6, .int v6), (7, .int (v7 + (1 : Int32)))] rfl ?_
          exact ih v3 v4 v5 v6 (v7 + (1 : Int32)) M h34
set_option maxRecDepth 100000 in
set_option maxHeartbeats 4000000 in
theorem sp_X5_meetAt {G : kg_G} {E : State → Array Value → Prop} {R : kg_R} {n : Nat} {o1 : Nat} {K : Int32 → kg_M → Prop} (ho : kg_O5 R n 3) (ho1 : kg_O0 R n o1) (hn : ¬ n < kg_all) {v2 : Int32} {M : kg_M} (h1 : wp_X5_meetAt o1 v2 M K) : kg_Run G E qX5_meetAt 4 0 [(0, .ref (kg_b G + 3)), (1, .ref (kg_b G + o1)), (2, .int v2)] [] M R n 0 0 (kg_Z R n K) := by
  unfold wp_X5_meetAt at h1
  refine kr_aload_n 0 dX5_meetAt_0 rfl (k := ?_)
  refine kr_aload_n 1 dX5_meetAt_1 rfl (k := ?_)
  refine kr_iload_n 2 dX5_meetAt_2 rfl (k := ?_)
  refine kn_callVi [.ref (kg_b G + o1), .int v2] [] mvX5_waitingAt lkM_X5_76 (kg_o5a ho) rfl (kg_o5n ho) dX5_meetAt_3 (sp_X5_waitingAt ho ho1 h1) (fun r4 M2 h3 => ?_)
  refine kr_istore_n [(3, .int r4), (0, .ref (kg_b G + 3)), (1, .ref (kg_b G + o1)), (2, .int v2)] dX5_meetAt_6 (k := ?_)
  refine kr_iconst (-1 : Int32) dX5_meetAt_7 (k := ?_)
  refine kr_istore [(4, .int (-1 : Int32)), (3, .int r4), (0, .ref (kg_b G + 3)), (1, .ref (kg_b G + o1)), (2, .int v2)] dX5_meetAt_8 (k := ?_)
  refine kr_iconst (-1 : Int32) dX5_meetAt_10 (k := ?_)
  refine kr_istore [(5, .int (-1 : Int32)), (4, .int (-1 : Int32)), (3, .int r4), (0, .ref (kg_b G + 3)), (1, .ref (kg_b G + o1)), (2, .int v2)] dX5_meetAt_11 (k := ?_)
  refine kr_iconst (0 : Int32) dX5_meetAt_13 (k := ?_)
  refine kr_istore [(6, .int (0 : Int32)), (5, .int (-1 : Int32)), (4, .int (-1 : Int32)), (3, .int r4), (0, .ref (kg_b G + 3)), (1, .ref (kg_b G + o1)), (2, .int v2)] dX5_meetAt_14 (k := ?_)
  refine kr_iconst (0 : Int32) dX5_meetAt_16 (k := ?_)
  refine kr_istore [(7, .int (0 : Int32)), (6, .int (0 : Int32)), (5, .int (-1 : Int32)), (4, .int (-1 : Int32)), (3, .int r4), (0, .ref (kg_b G + 3)), (1, .ref (kg_b G + o1)), (2, .int v2)] dX5_meetAt_17 (k := ?_)
  refine kr_sub [5, 6, 4, 3, 2, 1, 0] [(0, .ref (kg_b G + 3)), (1, .ref (kg_b G + o1)), (3, .int r4), (4, .int (-1 : Int32)), (5, .int (-1 : Int32)), (6, .int (0 : Int32)), (7, .int (0 : Int32))] rfl ?_
  obtain ⟨f47, h48⟩ := h3
  refine sL_X5_meetAt_19 ho ho1 hn ?_ f47 r4 (-1 : Int32) (-1 : Int32) (0 : Int32) (0 : Int32) M2 h48
  · intro v4 v5 M h37
    refine kr_iload 1 dX5_meetAt_125 rfl (k := ?_)
    refine kr_iconst (-1 : Int32) dX5_meetAt_127 (k := ?_)
    refine kr_icmp_eq 137 dX5_meetAt_128 (fun c38 => ?_) (fun c38 => ?_)
    · have h39 := h37.1 c38
      refine kr_iconst (0 : Int32) dX5_meetAt_137 (k := ?_)
      exact kr_ireturn dX5_meetAt_138 ⟨rfl, rfl, _, rfl, (by decide), h39⟩
    · have h40 := h37.2 c38
      refine kr_iload 2 dX5_meetAt_131 rfl (k := ?_)
      refine kr_iconst (-1 : Int32) dX5_meetAt_133 (k := ?_)
      refine kr_icmp_ne 139 dX5_meetAt_134 (fun c41 => ?_) (fun c41 => ?_)
      · have h42 := h40.1 c41
        refine kr_aload_n 0 dX5_meetAt_139 rfl (k := ?_)
        refine kr_iload 1 dX5_meetAt_140 rfl (k := ?_)
        refine kr_iload 2 dX5_meetAt_142 rfl (k := ?_)
        refine kn_callVv [.int v4, .int v5] [] mvX5_meet lkM_X5_87 (kg_o5a ho) rfl (kg_o5n ho) dX5_meetAt_144 (sp_X5_meet ho hn h42) (fun M44 h45 => ?_)
        refine kr_iconst (1 : Int32) dX5_meetAt_147 (k := ?_)
        exact kr_ireturn dX5_meetAt_148 ⟨rfl, rfl, _, rfl, (by decide), h45⟩
      · have h43 := h40.2 c41
        refine kr_iconst (0 : Int32) dX5_meetAt_137 (k := ?_)
        exact kr_ireturn dX5_meetAt_138 ⟨rfl, rfl, _, rfl, (by decide), h43⟩
set_option maxRecDepth 100000 in
set_option maxHeartbeats 4000000 in
theorem sJ_X5_passHour_45 {G : kg_G} {E : State → Array Value → Prop} {R : kg_R} {n : Nat} {o1 : Nat} {K : kg_M → Prop} (ho : kg_O5 R n 3) (ho1 : kg_O0 R n o1) (hn : ¬ n < kg_all) {Kb : Int32 → kg_M → Prop} {Kx52 : kg_M → Prop} (hKb : ∀ (v2 : Int32) (M : kg_M), Kb v2 M → kg_Run G E qX5_passHour 5 2 [(0, .ref (kg_b G + 3)), (1, .ref (kg_b G + o1)), (2, .int v2)] [] M R n 0 0 (kg_V R n K)) (hKx52 : ∀ (M : kg_M), Kx52 M → kg_Run G E qX5_passHour 5 52 [(0, .ref (kg_b G + 3))] [] M R n 0 0 (kg_V R n K)) (v2 : Int32) (s1 : Int32) (s2 : Int32) (M : kg_M) (h20 : wJ_X5_passHour_45 o1 Kb Kx52 K v2 s1 s2 M) : kg_Run G E qX5_passHour 5 45 [(0, .ref (kg_b G + 3)), (1, .ref (kg_b G + o1)), (2, .int v2)] [.int s2, .int s1, .ref (kg_b G + 5)] M R n 0 0 (kg_V R n K) := by
  unfold wJ_X5_passHour_45 at h20
  obtain ⟨h21, h22⟩ := h20
  refine kn_iast (kg_o5s7 ho) (kg_o5m7 ho) h21 dX5_passHour_45 (fun M23 e24 => ?_)
  have h25 := h22 M23 e24
  refine kr_iinc (1 : Int32) 2 [(2, .int (v2 + (1 : Int32))), (0, .ref (kg_b G + 3)), (1, .ref (kg_b G + o1))] dX5_passHour_46 rfl (k := ?_)
  refine kr_goto 2 dX5_passHour_49 ?_
  refine kr_sub [1, 2, 0] [(0, .ref (kg_b G + 3)), (1, .ref (kg_b G + o1)), (2, .int (v2 + (1 : Int32)))] rfl ?_
  exact hKb (v2 + (1 : Int32)) M23 h25
set_option maxRecDepth 100000 in
set_option maxHeartbeats 4000000 in
theorem sL_X5_passHour_2 {G : kg_G} {E : State → Array Value → Prop} {R : kg_R} {n : Nat} {o1 : Nat} {K : kg_M → Prop} (ho : kg_O5 R n 3) (ho1 : kg_O0 R n o1) (hn : ¬ n < kg_all) {Kx52 : kg_M → Prop} (hKx52 : ∀ (M : kg_M), Kx52 M → kg_Run G E qX5_passHour 5 52 [(0, .ref (kg_b G + 3))] [] M R n 0 0 (kg_V R n K)) : ∀ (f : Nat) (v2 : Int32) (M : kg_M), wL_X5_passHour_2 o1 Kx52 K f v2 M → kg_Run G E qX5_passHour 5 2 [(0, .ref (kg_b G + 3)), (1, .ref (kg_b G + o1)), (2, .int v2)] [] M R n 0 0 (kg_V R n K) := by
  intro f
  induction f with
  | zero => intro v2 M h0; exact h0.elim
  | succ f ih =>
    intro v2 M h2
    rw [wL_X5_passHour_2] at h2
    refine kr_iload_n 2 dX5_passHour_2 rfl (k := ?_)
    refine kr_aload_n 1 dX5_passHour_3 rfl (k := ?_)
    refine kr_getI 0 ckX0 lkF_X5_63 rfl (kg_o0a ho1) (kg_o0n ho1) dX5_passHour_4 (k := ?_)
    refine kr_icmp_ge 52 dX5_passHour_7 (fun c3 => ?_) (fun c3 => ?_)
    · have h4 := h2.1 c3
      refine kr_sub [0] [(0, .ref (kg_b G + 3))] rfl ?_
      exact hKx52  M h4
    · have h5 := h2.2 c3
      refine kr_aload_n 0 dX5_passHour_10 rfl (k := ?_)
      refine kr_aload_n 1 dX5_passHour_11 rfl (k := ?_)
      refine kr_iload_n 2 dX5_passHour_12 rfl (k := ?_)
      refine kn_callVz [.ref (kg_b G + o1), .int v2] [] mvX5_isRusted lkM_X5_66 (kg_o5a ho) rfl (kg_o5n ho) dX5_passHour_13 (sp_X5_isRusted ho ho1 h5) (fun r8 M6 _ h7 => ?_)
      refine kr_if_ne 46 dX5_passHour_16 (fun c9 => ?_) (fun c9 => ?_)
      · have h10 := h7.1 c9
        refine kr_iinc (1 : Int32) 2 [(2, .int (v2 + (1 : Int32))), (0, .ref (kg_b G + 3)), (1, .ref (kg_b G + o1))] dX5_passHour_46 rfl (k := ?_)
        refine kr_goto 2 dX5_passHour_49 ?_
        refine kr_sub [1, 2, 0] [(0, .ref (kg_b G + 3)), (1, .ref (kg_b G + o1)), (2, .int (v2 + (1 : Int32)))] rfl ?_
        exact ih (v2 + (1 : Int32)) M6 h10
      · have h11 := h7.2 c9
        refine kr_aload_n 0 dX5_passHour_19 rfl (k := ?_)
        refine kr_getR 7 ckX5 lkF_X5_15 rfl (kg_o5a ho) (kg_o5n ho) (kg_o5r7 ho) dX5_passHour_20 (k := ?_)
        refine kr_iload_n 2 dX5_passHour_23 rfl (k := ?_)
        refine kr_aload_n 0 dX5_passHour_24 rfl (k := ?_)
        refine kr_aload_n 1 dX5_passHour_25 rfl (k := ?_)
        refine kr_iload_n 2 dX5_passHour_26 rfl (k := ?_)
        refine kn_callVz [.ref (kg_b G + o1), .int v2] [.int v2, .ref (kg_b G + 5)] mvX5_meetAt lkM_X5_73 (kg_o5a ho) rfl (kg_o5n ho) dX5_passHour_27 (sp_X5_meetAt ho ho1 hn h11) (fun r14 M12 _ h13 => ?_)
        refine kr_if_eq 37 dX5_passHour_30 (fun c15 => ?_) (fun c15 => ?_)
        · have h16 := h13.1 c15
          refine kr_aload_n 0 dX5_passHour_37 rfl (k := ?_)
          refine kr_getR 7 ckX5 lkF_X5_15 rfl (kg_o5a ho) (kg_o5n ho) (kg_o5r7 ho) dX5_passHour_38 (k := ?_)
          refine kr_iload_n 2 dX5_passHour_41 rfl (k := ?_)
          obtain ⟨h18, h19⟩ := h16
          refine kr_iald (kg_o5s7 ho) (kg_o5m7 ho) h18 dX5_passHour_42 (k := ?_)
          refine kr_iconst (1 : Int32) dX5_passHour_43 (k := ?_)
          refine kr_iadd dX5_passHour_44 (k := ?_)
          refine kr_sub [0, 1, 2] [(0, .ref (kg_b G + 3)), (1, .ref (kg_b G + o1)), (2, .int v2)] rfl ?_
          exact sJ_X5_passHour_45 ho ho1 hn ih hKx52 v2 v2 ((M12 5 v2.toNatClampNeg) + (1 : Int32)) M12 h19
        · have h17 := h13.2 c15
          refine kr_iconst (0 : Int32) dX5_passHour_33 (k := ?_)
          refine kr_goto 45 dX5_passHour_34 ?_
          refine kr_sub [0, 1, 2] [(0, .ref (kg_b G + 3)), (1, .ref (kg_b G + o1)), (2, .int v2)] rfl ?_
          exact sJ_X5_passHour_45 ho ho1 hn ih hKx52 v2 v2 (0 : Int32) M12 h17
set_option maxRecDepth 100000 in
set_option maxHeartbeats 4000000 in
theorem sp_X5_passHour {G : kg_G} {E : State → Array Value → Prop} {R : kg_R} {n : Nat} {o1 : Nat} {K : kg_M → Prop} (ho : kg_O5 R n 3) (ho1 : kg_O0 R n o1) (hn : ¬ n < kg_all) {M : kg_M} (h1 : wp_X5_passHour o1 M K) : kg_Run G E qX5_passHour 5 0 [(0, .ref (kg_b G + 3)), (1, .ref (kg_b G + o1))] [] M R n 0 0 (kg_V R n K) := by
  unfold wp_X5_passHour at h1
  refine kr_iconst (0 : Int32) dX5_passHour_0 (k := ?_)
  refine kr_istore_n [(2, .int (0 : Int32)), (0, .ref (kg_b G + 3)), (1, .ref (kg_b G + o1))] dX5_passHour_1 (k := ?_)
  refine kr_sub [1, 2, 0] [(0, .ref (kg_b G + 3)), (1, .ref (kg_b G + o1)), (2, .int (0 : Int32))] rfl ?_
  obtain ⟨f30, h31⟩ := h1
  refine sL_X5_passHour_2 ho ho1 hn ?_ f30 (0 : Int32) M h31
  · intro  M h26
    refine kr_aload_n 0 dX5_passHour_52 rfl (k := ?_)
    refine kr_dup dX5_passHour_53 (k := ?_)
    refine kr_getI 0 ckX5 lkF_X5_21 rfl (kg_o5a ho) (kg_o5n ho) dX5_passHour_54 (k := ?_)
    refine kr_iconst (1 : Int32) dX5_passHour_57 (k := ?_)
    refine kr_iadd dX5_passHour_58 (k := ?_)
    refine kn_putI 0 ckX5 lkF_X5_21 rfl rfl rfl rfl (kg_o5a ho) (kg_o5n ho) dX5_passHour_59 (fun M27 e28 => ?_)
    have h29 := h26 M27 e28
    exact kr_return dX5_passHour_62 ⟨rfl, rfl, rfl, h29⟩
set_option maxRecDepth 100000 in
set_option maxHeartbeats 4000000 in
theorem sL_X5_rusted_4 {G : kg_G} {E : State → Array Value → Prop} {R : kg_R} {n : Nat} {o1 : Nat} {K : Int32 → kg_M → Prop} (ho : kg_O5 R n 3) (ho1 : kg_O0 R n o1) {Kx33 : Int32 → kg_M → Prop} (hKx33 : ∀ (v2 : Int32) (M : kg_M), Kx33 v2 M → kg_Run G E qX5_rusted 1 33 [(2, .int v2)] [] M R n 0 0 (kg_I R n K)) : ∀ (f : Nat) (v2 : Int32) (v3 : Int32) (M : kg_M), wL_X5_rusted_4 o1 Kx33 K f v2 v3 M → kg_Run G E qX5_rusted 1 4 [(0, .ref (kg_b G + 3)), (1, .ref (kg_b G + o1)), (2, .int v2), (3, .int v3)] [] M R n 0 0 (kg_I R n K) := by
  intro f
  induction f with
  | zero => intro v2 v3 M h0; exact h0.elim
  | succ f ih =>
    intro v2 v3 M h2
    rw [wL_X5_rusted_4] at h2
    refine kr_iload_n 3 dX5_rusted_4 rfl (k := ?_)
    refine kr_aload_n 1 dX5_rusted_5 rfl (k := ?_)
    refine kr_getI 0 ckX0 lkF_X5_63 rfl (kg_o0a ho1) (kg_o0n ho1) dX5_rusted_6 (k := ?_)
    refine kr_icmp_ge 33 dX5_rusted_9 (fun c3 => ?_) (fun c3 => ?_)
    · have h4 := h2.1 c3
      refine kr_sub [2] [(2, .int v2)] rfl ?_
      exact hKx33 v2 M h4
    · have h5 := h2.2 c3
      refine kr_aload_n 0 dX5_rusted_12 rfl (k := ?_)
      refine kr_aload_n 1 dX5_rusted_13 rfl (k := ?_)
      refine kr_iload_n 3 dX5_rusted_14 rfl (k := ?_)
      refine kn_callVz [.ref (kg_b G + o1), .int v3] [] mvX5_isRusted lkM_X5_66 (kg_o5a ho) rfl (kg_o5n ho) dX5_rusted_15 (sp_X5_isRusted ho ho1 h5) (fun r8 M6 _ h7 => ?_)
      refine kr_if_eq 27 dX5_rusted_18 (fun c9 => ?_) (fun c9 => ?_)
      · have h10 := h7.1 c9
        refine kr_iinc (1 : Int32) 3 [(3, .int (v3 + (1 : Int32))), (0, .ref (kg_b G + 3)), (1, .ref (kg_b G + o1)), (2, .int v2)] dX5_rusted_27 rfl (k := ?_)
        refine kr_goto 4 dX5_rusted_30 ?_
        refine kr_sub [1, 2, 3, 0] [(0, .ref (kg_b G + 3)), (1, .ref (kg_b G + o1)), (2, .int v2), (3, .int (v3 + (1 : Int32)))] rfl ?_
        exact ih v2 (v3 + (1 : Int32)) M6 h10
      · have h11 := h7.2 c9
        refine kr_iload_n 2 dX5_rusted_21 rfl (k := ?_)
        refine kr_iconst (1 : Int32) dX5_rusted_22 (k := ?_)
        refine kr_iload_n 3 dX5_rusted_23 rfl (k := ?_)
        refine kr_ishl dX5_rusted_24 (k := ?_)
        refine kr_ior dX5_rusted_25 (k := ?_)
        refine kr_istore_n [(2, .int (v2 ||| ((1 : Int32) <<< (v3 &&& 31)))), (0, .ref (kg_b G + 3)), (1, .ref (kg_b G + o1)), (3, .int v3)] dX5_rusted_26 (k := ?_)
        refine kr_iinc (1 : Int32) 3 [(3, .int (v3 + (1 : Int32))), (2, .int (v2 ||| ((1 : Int32) <<< (v3 &&& 31)))), (0, .ref (kg_b G + 3)), (1, .ref (kg_b G + o1))] dX5_rusted_27 rfl (k := ?_)
        refine kr_goto 4 dX5_rusted_30 ?_
        refine kr_sub [2, 3, 1, 0] [(0, .ref (kg_b G + 3)), (1, .ref (kg_b G + o1)), (2, .int (v2 ||| ((1 : Int32) <<< (v3 &&& 31)))), (3, .int (v3 + (1 : Int32)))] rfl ?_
        exact ih (v2 ||| ((1 : Int32) <<< (v3 &&& 31))) (v3 + (1 : Int32)) M6 h11
set_option maxRecDepth 100000 in
set_option maxHeartbeats 4000000 in
theorem sp_X5_rusted {G : kg_G} {E : State → Array Value → Prop} {R : kg_R} {n : Nat} {o1 : Nat} {K : Int32 → kg_M → Prop} (ho : kg_O5 R n 3) (ho1 : kg_O0 R n o1) {M : kg_M} (h1 : wp_X5_rusted o1 M K) : kg_Run G E qX5_rusted 1 0 [(0, .ref (kg_b G + 3)), (1, .ref (kg_b G + o1))] [] M R n 0 0 (kg_I R n K) := by
  unfold wp_X5_rusted at h1
  refine kr_iconst (0 : Int32) dX5_rusted_0 (k := ?_)
  refine kr_istore_n [(2, .int (0 : Int32)), (0, .ref (kg_b G + 3)), (1, .ref (kg_b G + o1))] dX5_rusted_1 (k := ?_)
  refine kr_iconst (0 : Int32) dX5_rusted_2 (k := ?_)
  refine kr_istore_n [(3, .int (0 : Int32)), (2, .int (0 : Int32)), (0, .ref (kg_b G + 3)), (1, .ref (kg_b G + o1))] dX5_rusted_3 (k := ?_)
  refine kr_sub [2, 3, 1, 0] [(0, .ref (kg_b G + 3)), (1, .ref (kg_b G + o1)), (2, .int (0 : Int32)), (3, .int (0 : Int32))] rfl ?_
  obtain ⟨f13, h14⟩ := h1
  refine sL_X5_rusted_4 ho ho1 ?_ f13 (0 : Int32) (0 : Int32) M h14
  · intro v2 M h12
    refine kr_iload_n 0 dX5_rusted_33 rfl (k := ?_)
    exact kr_ireturn dX5_rusted_34 ⟨rfl, rfl, _, rfl, h12⟩
set_option maxRecDepth 100000 in
set_option maxHeartbeats 4000000 in
theorem sL_X5_waiting_4 {G : kg_G} {E : State → Array Value → Prop} {R : kg_R} {n : Nat} {o1 : Nat} {K : Int32 → kg_M → Prop} (ho : kg_O5 R n 3) (ho1 : kg_O0 R n o1) {Kx34 : Int32 → kg_M → Prop} (hKx34 : ∀ (v2 : Int32) (M : kg_M), Kx34 v2 M → kg_Run G E qX5_waiting 0 34 [(2, .int v2)] [] M R n 0 0 (kg_I R n K)) : ∀ (f : Nat) (v2 : Int32) (v3 : Int32) (M : kg_M), wL_X5_waiting_4 o1 Kx34 K f v2 v3 M → kg_Run G E qX5_waiting 0 4 [(0, .ref (kg_b G + 3)), (1, .ref (kg_b G + o1)), (2, .int v2), (3, .int v3)] [] M R n 0 0 (kg_I R n K) := by
  intro f
  induction f with
  | zero => intro v2 v3 M h0; exact h0.elim
  | succ f ih =>
    intro v2 v3 M h2
    rw [wL_X5_waiting_4] at h2
    refine kr_iload_n 3 dX5_waiting_4 rfl (k := ?_)
    refine kr_aload_n 1 dX5_waiting_5 rfl (k := ?_)
    refine kr_getI 1 ckX0 lkF_X5_70 rfl (kg_o0a ho1) (kg_o0n ho1) dX5_waiting_6 (k := ?_)
    refine kr_icmp_ge 34 dX5_waiting_9 (fun c3 => ?_) (fun c3 => ?_)
    · have h4 := h2.1 c3
      refine kr_sub [2] [(2, .int v2)] rfl ?_
      exact hKx34 v2 M h4
    · have h5 := h2.2 c3
      refine kr_aload_n 0 dX5_waiting_12 rfl (k := ?_)
      refine kr_getR 6 ckX5 lkF_X5_9 rfl (kg_o5a ho) (kg_o5n ho) (kg_o5r6 ho) dX5_waiting_13 (k := ?_)
      refine kr_iload_n 3 dX5_waiting_16 rfl (k := ?_)
      obtain ⟨h6, h7⟩ := h5
      refine kr_iald (kg_o5s6 ho) (kg_o5m6 ho) h6 dX5_waiting_17 (k := ?_)
      refine kr_iconst (-1 : Int32) dX5_waiting_18 (k := ?_)
      refine kr_icmp_eq 28 dX5_waiting_19 (fun c8 => ?_) (fun c8 => ?_)
      · have h9 := h7.1 c8
        refine kr_iinc (1 : Int32) 3 [(3, .int (v3 + (1 : Int32))), (0, .ref (kg_b G + 3)), (1, .ref (kg_b G + o1)), (2, .int v2)] dX5_waiting_28 rfl (k := ?_)
        refine kr_goto 4 dX5_waiting_31 ?_
        refine kr_sub [1, 2, 3, 0] [(0, .ref (kg_b G + 3)), (1, .ref (kg_b G + o1)), (2, .int v2), (3, .int (v3 + (1 : Int32)))] rfl ?_
        exact ih v2 (v3 + (1 : Int32)) M h9
      · have h10 := h7.2 c8
        refine kr_iload_n 2 dX5_waiting_22 rfl (k := ?_)
        refine kr_iconst (1 : Int32) dX5_waiting_23 (k := ?_)
        refine kr_iload_n 3 dX5_waiting_24 rfl (k := ?_)
        refine kr_ishl dX5_waiting_25 (k := ?_)
        refine kr_ior dX5_waiting_26 (k := ?_)
        refine kr_istore_n [(2, .int (v2 ||| ((1 : Int32) <<< (v3 &&& 31)))), (0, .ref (kg_b G + 3)), (1, .ref (kg_b G + o1)), (3, .int v3)] dX5_waiting_27 (k := ?_)
        refine kr_iinc (1 : Int32) 3 [(3, .int (v3 + (1 : Int32))), (2, .int (v2 ||| ((1 : Int32) <<< (v3 &&& 31)))), (0, .ref (kg_b G + 3)), (1, .ref (kg_b G + o1))] dX5_waiting_28 rfl (k := ?_)
        refine kr_goto 4 dX5_waiting_31 ?_
        refine kr_sub [2, 3, 1, 0] [(0, .ref (kg_b G + 3)), (1, .ref (kg_b G + o1)), (2, .int (v2 ||| ((1 : Int32) <<< (v3 &&& 31)))), (3, .int (v3 + (1 : Int32)))] rfl ?_
        exact ih (v2 ||| ((1 : Int32) <<< (v3 &&& 31))) (v3 + (1 : Int32)) M h10
set_option maxRecDepth 100000 in
set_option maxHeartbeats 4000000 in
theorem sp_X5_waiting {G : kg_G} {E : State → Array Value → Prop} {R : kg_R} {n : Nat} {o1 : Nat} {K : Int32 → kg_M → Prop} (ho : kg_O5 R n 3) (ho1 : kg_O0 R n o1) {M : kg_M} (h1 : wp_X5_waiting o1 M K) : kg_Run G E qX5_waiting 0 0 [(0, .ref (kg_b G + 3)), (1, .ref (kg_b G + o1))] [] M R n 0 0 (kg_I R n K) := by
  unfold wp_X5_waiting at h1
  refine kr_iconst (0 : Int32) dX5_waiting_0 (k := ?_)
  refine kr_istore_n [(2, .int (0 : Int32)), (0, .ref (kg_b G + 3)), (1, .ref (kg_b G + o1))] dX5_waiting_1 (k := ?_)
  refine kr_iconst (0 : Int32) dX5_waiting_2 (k := ?_)
  refine kr_istore_n [(3, .int (0 : Int32)), (2, .int (0 : Int32)), (0, .ref (kg_b G + 3)), (1, .ref (kg_b G + o1))] dX5_waiting_3 (k := ?_)
  refine kr_sub [2, 3, 1, 0] [(0, .ref (kg_b G + 3)), (1, .ref (kg_b G + o1)), (2, .int (0 : Int32)), (3, .int (0 : Int32))] rfl ?_
  obtain ⟨f12, h13⟩ := h1
  refine sL_X5_waiting_4 ho ho1 ?_ f12 (0 : Int32) (0 : Int32) M h13
  · intro v2 M h11
    refine kr_iload_n 0 dX5_waiting_34 rfl (k := ?_)
    exact kr_ireturn dX5_waiting_35 ⟨rfl, rfl, _, rfl, h11⟩
set_option maxRecDepth 100000 in
set_option maxHeartbeats 4000000 in
theorem sp_X6_append {G : kg_G} {E : State → Array Value → Prop} {R : kg_R} {n : Nat} {K : Int32 → kg_M → Prop} (ho : kg_O6 R n 1) {v1 : Int32} {M : kg_M} (h1 : wp_X6_append v1 M K) : kg_Run G E qX6_append 0 0 [(0, .ref (kg_b G + 1)), (1, .int v1)] [] M R n 0 0 (kg_I R n K) := by
  unfold wp_X6_append at h1
  refine kr_aload_n 0 dX6_append_0 rfl (k := ?_)
  refine kr_getI 1 ckX6 lkF_X6_15 rfl (kg_o6a ho) (kg_o6n ho) dX6_append_1 (k := ?_)
  refine kr_sipush (240 : Int32) dX6_append_4 (k := ?_)
  refine kr_icmp_ge 30 dX6_append_7 (fun c2 => ?_) (fun c2 => ?_)
  · have h3 := h1.1 c2
    refine kr_aload_n 0 dX6_append_30 rfl (k := ?_)
    refine kr_getI 1 ckX6 lkF_X6_15 rfl (kg_o6a ho) (kg_o6n ho) dX6_append_31 (k := ?_)
    exact kr_ireturn dX6_append_34 ⟨rfl, rfl, _, rfl, h3⟩
  · have h4 := h1.2 c2
    refine kr_aload_n 0 dX6_append_10 rfl (k := ?_)
    refine kr_getR 0 ckX6 lkF_X6_9 rfl (kg_o6a ho) (kg_o6n ho) (kg_o6r0 ho) dX6_append_11 (k := ?_)
    refine kr_aload_n 0 dX6_append_14 rfl (k := ?_)
    refine kr_getI 1 ckX6 lkF_X6_15 rfl (kg_o6a ho) (kg_o6n ho) dX6_append_15 (k := ?_)
    refine kr_iload_n 1 dX6_append_18 rfl (k := ?_)
    obtain ⟨h5, h6⟩ := h4
    refine kn_iast (kg_o6s0 ho) (kg_o6m0 ho) h5 dX6_append_19 (fun M7 e8 => ?_)
    have h9 := h6 M7 e8
    refine kr_aload_n 0 dX6_append_20 rfl (k := ?_)
    refine kr_dup dX6_append_21 (k := ?_)
    refine kr_getI 1 ckX6 lkF_X6_15 rfl (kg_o6a ho) (kg_o6n ho) dX6_append_22 (k := ?_)
    refine kr_iconst (1 : Int32) dX6_append_25 (k := ?_)
    refine kr_iadd dX6_append_26 (k := ?_)
    refine kn_putI 1 ckX6 lkF_X6_15 rfl rfl rfl rfl (kg_o6a ho) (kg_o6n ho) dX6_append_27 (fun M10 e11 => ?_)
    have h12 := h9 M10 e11
    refine kr_aload_n 0 dX6_append_30 rfl (k := ?_)
    refine kr_getI 1 ckX6 lkF_X6_15 rfl (kg_o6a ho) (kg_o6n ho) dX6_append_31 (k := ?_)
    exact kr_ireturn dX6_append_34 ⟨rfl, rfl, _, rfl, h12⟩
set_option maxRecDepth 100000 in
set_option maxHeartbeats 4000000 in
theorem sp_X6_blame {G : kg_G} {E : State → Array Value → Prop} {R : kg_R} {n : Nat} {K : kg_M → Prop} (ho : kg_O6 R n 1) {v1 : Int32} {v2 : Int32} {M : kg_M} (h1 : wp_X6_blame v1 v2 M K) : kg_Run G E qX6_blame 0 0 [(0, .ref (kg_b G + 1)), (1, .int v1), (2, .int v2)] [] M R n 0 0 (kg_V R n K) := by
  unfold wp_X6_blame at h1
  refine kr_aload_n 0 dX6_blame_0 rfl (k := ?_)
  refine kr_getI 4 ckX6 lkF_X6_22 rfl (kg_o6a ho) (kg_o6n ho) dX6_blame_1 (k := ?_)
  refine kr_if_ne 17 dX6_blame_4 (fun c2 => ?_) (fun c2 => ?_)
  · have h3 := h1.1 c2
    exact kr_return dX6_blame_17 ⟨rfl, rfl, rfl, h3⟩
  · have h4 := h1.2 c2
    refine kr_aload_n 0 dX6_blame_7 rfl (k := ?_)
    refine kr_iload_n 1 dX6_blame_8 rfl (k := ?_)
    refine kn_putI 4 ckX6 lkF_X6_22 rfl rfl rfl rfl (kg_o6a ho) (kg_o6n ho) dX6_blame_9 (fun M5 e6 => ?_)
    have h7 := h4 M5 e6
    refine kr_aload_n 0 dX6_blame_12 rfl (k := ?_)
    refine kr_iload_n 2 dX6_blame_13 rfl (k := ?_)
    refine kn_putI 5 ckX6 lkF_X6_25 rfl rfl rfl rfl (kg_o6a ho) (kg_o6n ho) dX6_blame_14 (fun M8 e9 => ?_)
    have h10 := h7 M8 e9
    exact kr_return dX6_blame_17 ⟨rfl, rfl, rfl, h10⟩
set_option maxRecDepth 100000 in
set_option maxHeartbeats 4000000 in
theorem sL_X6_skipBlanks_0 {G : kg_G} {E : State → Array Value → Prop} {R : kg_R} {n : Nat} {K : kg_M → Prop} (ho : kg_O6 R n 1) {Kx38 : kg_M → Prop} (hKx38 : ∀ (M : kg_M), Kx38 M → kg_Run G E qX6_skipBlanks 0 38 [] [] M R n 0 0 (kg_V R n K)) : ∀ (f : Nat) (M : kg_M), wL_X6_skipBlanks_0  Kx38 K f M → kg_Run G E qX6_skipBlanks 0 0 [(0, .ref (kg_b G + 1))] [] M R n 0 0 (kg_V R n K) := by
  intro f
  induction f with
  | zero => intro M h0; exact h0.elim
  | succ f ih =>
    intro  M h2
    rw [wL_X6_skipBlanks_0] at h2
    refine kr_aload_n 0 dX6_skipBlanks_0 rfl (k := ?_)
    refine kr_getI 2 ckX6 lkF_X6_19 rfl (kg_o6a ho) (kg_o6n ho) dX6_skipBlanks_1 (k := ?_)
    refine kr_aload_n 0 dX6_skipBlanks_4 rfl (k := ?_)
    refine kr_getI 1 ckX6 lkF_X6_15 rfl (kg_o6a ho) (kg_o6n ho) dX6_skipBlanks_5 (k := ?_)
    refine kr_icmp_ge 38 dX6_skipBlanks_8 (fun c3 => ?_) (fun c3 => ?_)
    · have h4 := h2.1 c3
      refine kr_sub [] [] rfl ?_
      exact hKx38  M h4
    · have h5 := h2.2 c3
      refine kr_aload_n 0 dX6_skipBlanks_11 rfl (k := ?_)
      refine kr_getR 0 ckX6 lkF_X6_9 rfl (kg_o6a ho) (kg_o6n ho) (kg_o6r0 ho) dX6_skipBlanks_12 (k := ?_)
      refine kr_aload_n 0 dX6_skipBlanks_15 rfl (k := ?_)
      refine kr_getI 2 ckX6 lkF_X6_19 rfl (kg_o6a ho) (kg_o6n ho) dX6_skipBlanks_16 (k := ?_)
      obtain ⟨h6, h7⟩ := h5
      refine kr_iald (kg_o6s0 ho) (kg_o6m0 ho) h6 dX6_skipBlanks_19 (k := ?_)
      refine kr_bipush (32 : Int32) dX6_skipBlanks_20 (k := ?_)
      refine kr_icmp_ne 38 dX6_skipBlanks_22 (fun c8 => ?_) (fun c8 => ?_)
      · have h9 := h7.1 c8
        refine kr_sub [] [] rfl ?_
        exact hKx38  M h9
      · have h10 := h7.2 c8
        refine kr_aload_n 0 dX6_skipBlanks_25 rfl (k := ?_)
        refine kr_dup dX6_skipBlanks_26 (k := ?_)
        refine kr_getI 2 ckX6 lkF_X6_19 rfl (kg_o6a ho) (kg_o6n ho) dX6_skipBlanks_27 (k := ?_)
        refine kr_iconst (1 : Int32) dX6_skipBlanks_30 (k := ?_)
        refine kr_iadd dX6_skipBlanks_31 (k := ?_)
        refine kn_putI 2 ckX6 lkF_X6_19 rfl rfl rfl rfl (kg_o6a ho) (kg_o6n ho) dX6_skipBlanks_32 (fun M11 e12 => ?_)
        have h13 := h10 M11 e12
        refine kr_goto 0 dX6_skipBlanks_35 ?_
        refine kr_sub [0] [(0, .ref (kg_b G + 1))] rfl ?_
        exact ih  M11 h13
set_option maxRecDepth 100000 in
set_option maxHeartbeats 4000000 in
theorem sp_X6_skipBlanks {G : kg_G} {E : State → Array Value → Prop} {R : kg_R} {n : Nat} {K : kg_M → Prop} (ho : kg_O6 R n 1) {M : kg_M} (h1 : wp_X6_skipBlanks  M K) : kg_Run G E qX6_skipBlanks 0 0 [(0, .ref (kg_b G + 1))] [] M R n 0 0 (kg_V R n K) := by
  unfold wp_X6_skipBlanks at h1
  refine kr_sub [0] [(0, .ref (kg_b G + 1))] rfl ?_
  obtain ⟨f15, h16⟩ := h1
  refine sL_X6_skipBlanks_0 ho ?_ f15  M h16
  · intro  M h14
    exact kr_return dX6_skipBlanks_38 ⟨rfl, rfl, rfl, h14⟩
