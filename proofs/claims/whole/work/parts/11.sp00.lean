set_option maxRecDepth 100000 in
set_option maxHeartbeats 4000000 in
theorem sp_J6_bitCount_0f7a4 {G : kg_G} {E : State → Array Value → Prop} {R : kg_R} {n : Nat} {K : Int32 → kg_M → Prop}  {v0 : Int32} {M : kg_M} (h1 : wp_J6_bitCount_0f7a4 v0 M K) : kg_Run G E qJ6_bitCount_0f7a4 0 0 [(0, .int v0)] [] M R n 0 0 (kg_I R n K) := by
  unfold wp_J6_bitCount_0f7a4 at h1
  refine kr_iload_n 0 dJ6_bitCount_0f7a4_0 rfl (k := ?_)
  refine kr_iload_n 0 dJ6_bitCount_0f7a4_1 rfl (k := ?_)
  refine kr_iconst (1 : Int32) dJ6_bitCount_0f7a4_2 (k := ?_)
  refine kr_iushr dJ6_bitCount_0f7a4_3 (k := ?_)
  refine kr_ldcw dJ6_bitCount_0f7a4_4 lkC_J6_265 (k := ?_)
  refine kr_iand dJ6_bitCount_0f7a4_7 (k := ?_)
  refine kr_isub dJ6_bitCount_0f7a4_8 (k := ?_)
  refine kr_istore_n [(0, .int (v0 - (((v0.toUInt32 >>> ((1 : Int32).toUInt32 &&& Int32.toUInt32 31)).toInt32) &&& (1431655765 : Int32))))] dJ6_bitCount_0f7a4_9 (k := ?_)
  refine kr_iload_n 0 dJ6_bitCount_0f7a4_10 rfl (k := ?_)
  refine kr_ldcw dJ6_bitCount_0f7a4_11 lkC_J6_266 (k := ?_)
  refine kr_iand dJ6_bitCount_0f7a4_14 (k := ?_)
  refine kr_iload_n 0 dJ6_bitCount_0f7a4_15 rfl (k := ?_)
  refine kr_iconst (2 : Int32) dJ6_bitCount_0f7a4_16 (k := ?_)
  refine kr_iushr dJ6_bitCount_0f7a4_17 (k := ?_)
  refine kr_ldcw dJ6_bitCount_0f7a4_18 lkC_J6_266 (k := ?_)
  refine kr_iand dJ6_bitCount_0f7a4_21 (k := ?_)
  refine kr_iadd dJ6_bitCount_0f7a4_22 (k := ?_)
  refine kr_istore_n [(0, .int (((v0 - (((v0.toUInt32 >>> ((1 : Int32).toUInt32 &&& Int32.toUInt32 31)).toInt32) &&& (1431655765 : Int32))) &&& (858993459 : Int32)) + ((((v0 - (((v0.toUInt32 >>> ((1 : Int32).toUInt32 &&& Int32.toUInt32 31)).toInt32) &&& (1431655765 : Int32))).toUInt32 >>> ((2 : Int32).toUInt32 &&& Int32.toUInt32 31)).toInt32) &&& (858993459 : Int32))))] dJ6_bitCount_0f7a4_23 (k := ?_)
  refine kr_iload_n 0 dJ6_bitCount_0f7a4_24 rfl (k := ?_)
  refine kr_iload_n 0 dJ6_bitCount_0f7a4_25 rfl (k := ?_)
  refine kr_iconst (4 : Int32) dJ6_bitCount_0f7a4_26 (k := ?_)
  refine kr_iushr dJ6_bitCount_0f7a4_27 (k := ?_)
  refine kr_iadd dJ6_bitCount_0f7a4_28 (k := ?_)
  refine kr_ldcw dJ6_bitCount_0f7a4_29 lkC_J6_267 (k := ?_)
  refine kr_iand dJ6_bitCount_0f7a4_32 (k := ?_)
  refine kr_istore_n [(0, .int (((((v0 - (((v0.toUInt32 >>> ((1 : Int32).toUInt32 &&& Int32.toUInt32 31)).toInt32) &&& (1431655765 : Int32))) &&& (858993459 : Int32)) + ((((v0 - (((v0.toUInt32 >>> ((1 : Int32).toUInt32 &&& Int32.toUInt32 31)).toInt32) &&& (1431655765 : Int32))).toUInt32 >>> ((2 : Int32).toUInt32 &&& Int32.toUInt32 31)).toInt32) &&& (858993459 : Int32))) + (((((v0 - (((v0.toUInt32 >>> ((1 : Int32).toUInt32 &&& Int32.toUInt32 31)).toInt32) &&& (1431655765 : Int32))) &&& (858993459 : Int32)) + ((((v0 - (((v0.toUInt32 >>> ((1 : Int32).toUInt32 &&& Int32.toUInt32 31)).toInt32) &&& (1431655765 : Int32))).toUInt32 >>> ((2 : Int32).toUInt32 &&& Int32.toUInt32 31)).toInt32) &&& (858993459 : Int32))).toUInt32 >>> ((4 : Int32).toUInt32 &&& Int32.toUInt32 31)).toInt32)) &&& (252645135 : Int32)))] dJ6_bitCount_0f7a4_33 (k := ?_)
  refine kr_iload_n 0 dJ6_bitCount_0f7a4_34 rfl (k := ?_)
  refine kr_iload_n 0 dJ6_bitCount_0f7a4_35 rfl (k := ?_)
  refine kr_bipush (8 : Int32) dJ6_bitCount_0f7a4_36 (k := ?_)
  refine kr_iushr dJ6_bitCount_0f7a4_38 (k := ?_)
  refine kr_iadd dJ6_bitCount_0f7a4_39 (k := ?_)
  refine kr_istore_n [(0, .int ((((((v0 - (((v0.toUInt32 >>> ((1 : Int32).toUInt32 &&& Int32.toUInt32 31)).toInt32) &&& (1431655765 : Int32))) &&& (858993459 : Int32)) + ((((v0 - (((v0.toUInt32 >>> ((1 : Int32).toUInt32 &&& Int32.toUInt32 31)).toInt32) &&& (1431655765 : Int32))).toUInt32 >>> ((2 : Int32).toUInt32 &&& Int32.toUInt32 31)).toInt32) &&& (858993459 : Int32))) + (((((v0 - (((v0.toUInt32 >>> ((1 : Int32).toUInt32 &&& Int32.toUInt32 31)).toInt32) &&& (1431655765 : Int32))) &&& (858993459 : Int32)) + ((((v0 - (((v0.toUInt32 >>> ((1 : Int32).toUInt32 &&& Int32.toUInt32 31)).toInt32) &&& (1431655765 : Int32))).toUInt32 >>> ((2 : Int32).toUInt32 &&& Int32.toUInt32 31)).toInt32) &&& (858993459 : Int32))).toUInt32 >>> ((4 : Int32).toUInt32 &&& Int32.toUInt32 31)).toInt32)) &&& (252645135 : Int32)) + (((((((v0 - (((v0.toUInt32 >>> ((1 : Int32).toUInt32 &&& Int32.toUInt32 31)).toInt32) &&& (1431655765 : Int32))) &&& (858993459 : Int32)) + ((((v0 - (((v0.toUInt32 >>> ((1 : Int32).toUInt32 &&& Int32.toUInt32 31)).toInt32) &&& (1431655765 : Int32))).toUInt32 >>> ((2 : Int32).toUInt32 &&& Int32.toUInt32 31)).toInt32) &&& (858993459 : Int32))) + (((((v0 - (((v0.toUInt32 >>> ((1 : Int32).toUInt32 &&& Int32.toUInt32 31)).toInt32) &&& (1431655765 : Int32))) &&& (858993459 : Int32)) + ((((v0 - (((v0.toUInt32 >>> ((1 : Int32).toUInt32 &&& Int32.toUInt32 31)).toInt32) &&& (1431655765 : Int32))).toUInt32 >>> ((2 : Int32).toUInt32 &&& Int32.toUInt32 31)).toInt32) &&& (858993459 : Int32))).toUInt32 >>> ((4 : Int32).toUInt32 &&& Int32.toUInt32 31)).toInt32)) &&& (252645135 : Int32)).toUInt32 >>> ((8 : Int32).toUInt32 &&& Int32.toUInt32 31)).toInt32)))] dJ6_bitCount_0f7a4_40 (k := ?_)
  refine kr_iload_n 0 dJ6_bitCount_0f7a4_41 rfl (k := ?_)
  refine kr_iload_n 0 dJ6_bitCount_0f7a4_42 rfl (k := ?_)
  refine kr_bipush (16 : Int32) dJ6_bitCount_0f7a4_43 (k := ?_)
  refine kr_iushr dJ6_bitCount_0f7a4_45 (k := ?_)
  refine kr_iadd dJ6_bitCount_0f7a4_46 (k := ?_)
  refine kr_istore_n [(0, .int (((((((v0 - (((v0.toUInt32 >>> ((1 : Int32).toUInt32 &&& Int32.toUInt32 31)).toInt32) &&& (1431655765 : Int32))) &&& (858993459 : Int32)) + ((((v0 - (((v0.toUInt32 >>> ((1 : Int32).toUInt32 &&& Int32.toUInt32 31)).toInt32) &&& (1431655765 : Int32))).toUInt32 >>> ((2 : Int32).toUInt32 &&& Int32.toUInt32 31)).toInt32) &&& (858993459 : Int32))) + (((((v0 - (((v0.toUInt32 >>> ((1 : Int32).toUInt32 &&& Int32.toUInt32 31)).toInt32) &&& (1431655765 : Int32))) &&& (858993459 : Int32)) + ((((v0 - (((v0.toUInt32 >>> ((1 : Int32).toUInt32 &&& Int32.toUInt32 31)).toInt32) &&& (1431655765 : Int32))).toUInt32 >>> ((2 : Int32).toUInt32 &&& Int32.toUInt32 31)).toInt32) &&& (858993459 : Int32))).toUInt32 >>> ((4 : Int32).toUInt32 &&& Int32.toUInt32 31)).toInt32)) &&& (252645135 : Int32)) + (((((((v0 - (((v0.toUInt32 >>> ((1 : Int32).toUInt32 &&& Int32.toUInt32 31)).toInt32) &&& (1431655765 : Int32))) &&& (858993459 : Int32)) + ((((v0 - (((v0.toUInt32 >>> ((1 : Int32).toUInt32 &&& Int32.toUInt32 31)).toInt32) &&& (1431655765 : Int32))).toUInt32 >>> ((2 : Int32).toUInt32 &&& Int32.toUInt32 31)).toInt32) &&& (858993459 : Int32))) + (((((v0 - (((v0.toUInt32 >>> ((1 : Int32).toUInt32 &&& Int32.toUInt32 31)).toInt32) &&& (1431655765 : Int32))) &&& (858993459 : Int32)) + ((((v0 - (((v0.toUInt32 >>> ((1 : Int32).toUInt32 &&& Int32.toUInt32 31)).toInt32) &&& (1431655765 : Int32))).toUInt32 >>> ((2 : Int32).toUInt32 &&& Int32.toUInt32 31)).toInt32) &&& (858993459 : Int32))).toUInt32 >>> ((4 : Int32).toUInt32 &&& Int32.toUInt32 31)).toInt32)) &&& (252645135 : Int32)).toUInt32 >>> ((8 : Int32).toUInt32 &&& Int32.toUInt32 31)).toInt32)) + ((((((((v0 - (((v0.toUInt32 >>> ((1 : Int32).toUInt32 &&& Int32.toUInt32 31)).toInt32) &&& (1431655765 : Int32))) &&& (858993459 : Int32)) + ((((v0 - (((v0.toUInt32 >>> ((1 : Int32).toUInt32 &&& Int32.toUInt32 31)).toInt32) &&& (1431655765 : Int32))).toUInt32 >>> ((2 : Int32).toUInt32 &&& Int32.toUInt32 31)).toInt32) &&& (858993459 : Int32))) + (((((v0 - (((v0.toUInt32 >>> ((1 : Int32).toUInt32 &&& Int32.toUInt32 31)).toInt32) &&& (1431655765 : Int32))) &&& (858993459 : Int32)) + ((((v0 - (((v0.toUInt32 >>> ((1 : Int32).toUInt32 &&& Int32.toUInt32 31)).toInt32) &&& (1431655765 : Int32))).toUInt32 >>> ((2 : Int32).toUInt32 &&& Int32.toUInt32 31)).toInt32) &&& (858993459 : Int32))).toUInt32 >>> ((4 : Int32).toUInt32 &&& Int32.toUInt32 31)).toInt32)) &&& (252645135 : Int32)) + (((((((v0 - (((v0.toUInt32 >>> ((1 : Int32).toUInt32 &&& Int32.toUInt32 31)).toInt32) &&& (1431655765 : Int32))) &&& (858993459 : Int32)) + ((((v0 - (((v0.toUInt32 >>> ((1 : Int32).toUInt32 &&& Int32.toUInt32 31)).toInt32) &&& (1431655765 : Int32))).toUInt32 >>> ((2 : Int32).toUInt32 &&& Int32.toUInt32 31)).toInt32) &&& (858993459 : Int32))) + (((((v0 - (((v0.toUInt32 >>> ((1 : Int32).toUInt32 &&& Int32.toUInt32 31)).toInt32) &&& (1431655765 : Int32))) &&& (858993459 : Int32)) + ((((v0 - (((v0.toUInt32 >>> ((1 : Int32).toUInt32 &&& Int32.toUInt32 31)).toInt32) &&& (1431655765 : Int32))).toUInt32 >>> ((2 : Int32).toUInt32 &&& Int32.toUInt32 31)).toInt32) &&& (858993459 : Int32))).toUInt32 >>> ((4 : Int32).toUInt32 &&& Int32.toUInt32 31)).toInt32)) &&& (252645135 : Int32)).toUInt32 >>> ((8 : Int32).toUInt32 &&& Int32.toUInt32 31)).toInt32)).toUInt32 >>> ((16 : Int32).toUInt32 &&& Int32.toUInt32 31)).toInt32)))] dJ6_bitCount_0f7a4_47 (k := ?_)
  refine kr_iload_n 0 dJ6_bitCount_0f7a4_48 rfl (k := ?_)
  refine kr_bipush (63 : Int32) dJ6_bitCount_0f7a4_49 (k := ?_)
  refine kr_iand dJ6_bitCount_0f7a4_51 (k := ?_)
  exact kr_ireturn dJ6_bitCount_0f7a4_52 ⟨rfl, rfl, _, rfl, h1⟩
set_option maxRecDepth 100000 in
set_option maxHeartbeats 4000000 in
theorem sL_J7_fill_53178_5 {G : kg_G} {E : State → Array Value → Prop} {R : kg_R} {n : Nat} {a0 : Nat} {N0 : Nat} {K : kg_M → Prop} (ha0 : kg_SH a0 = .inr (0, N0)) (hb0 : a0 < n) {Kx20 : kg_M → Prop} (hKx20 : ∀ (M : kg_M), Kx20 M → kg_Run G E qJ7_fill_53178 0 20 [] [] M R n 0 0 (kg_V R n K)) : ∀ (f : Nat) (v1 : Int32) (v2 : Int32) (v3 : Int32) (M : kg_M), wL_J7_fill_53178_5 a0 N0 Kx20 K f v1 v2 v3 M → kg_Run G E qJ7_fill_53178 0 5 [(0, .ref (kg_b G + a0)), (1, .int v1), (2, .int v2), (3, .int v3)] [] M R n 0 0 (kg_V R n K) := by
  intro f
  induction f with
  | zero => intro v1 v2 v3 M h0; exact h0.elim
  | succ f ih =>
    intro v1 v2 v3 M h2
    rw [wL_J7_fill_53178_5] at h2
    refine kr_iload_n 2 dJ7_fill_53178_5 rfl (k := ?_)
    refine kr_iload_n 3 dJ7_fill_53178_6 rfl (k := ?_)
    refine kr_icmp_ge 20 dJ7_fill_53178_7 (fun c3 => ?_) (fun c3 => ?_)
    · have h4 := h2.1 c3
      refine kr_sub [] [] rfl ?_
      exact hKx20  M h4
    · have h5 := h2.2 c3
      refine kr_aload_n 0 dJ7_fill_53178_10 rfl (k := ?_)
      refine kr_iload_n 2 dJ7_fill_53178_11 rfl (k := ?_)
      refine kr_iload_n 1 dJ7_fill_53178_12 rfl (k := ?_)
      obtain ⟨h6, h7⟩ := h5
      refine kn_iast ha0 hb0 h6 dJ7_fill_53178_13 (fun M8 e9 => ?_)
      have h10 := h7 M8 e9
      refine kr_iinc (1 : Int32) 2 [(2, .int (v2 + (1 : Int32))), (0, .ref (kg_b G + a0)), (1, .int v1), (3, .int v3)] dJ7_fill_53178_14 rfl (k := ?_)
      refine kr_goto 5 dJ7_fill_53178_17 ?_
      refine kr_sub [1, 2, 0, 3] [(0, .ref (kg_b G + a0)), (1, .int v1), (2, .int (v2 + (1 : Int32))), (3, .int v3)] rfl ?_
      exact ih v1 (v2 + (1 : Int32)) v3 M8 h10
set_option maxRecDepth 100000 in
set_option maxHeartbeats 4000000 in
theorem sp_J7_fill_53178 {G : kg_G} {E : State → Array Value → Prop} {R : kg_R} {n : Nat} {a0 : Nat} {N0 : Nat} {K : kg_M → Prop} (ha0 : kg_SH a0 = .inr (0, N0)) (hb0 : a0 < n) {v1 : Int32} {M : kg_M} (h1 : wp_J7_fill_53178 a0 N0 v1 M K) : kg_Run G E qJ7_fill_53178 0 0 [(0, .ref (kg_b G + a0)), (1, .int v1)] [] M R n 0 0 (kg_V R n K) := by
  unfold wp_J7_fill_53178 at h1
  refine kr_iconst (0 : Int32) dJ7_fill_53178_0 (k := ?_)
  refine kr_istore_n [(2, .int (0 : Int32)), (0, .ref (kg_b G + a0)), (1, .int v1)] dJ7_fill_53178_1 (k := ?_)
  refine kr_aload_n 1 dJ7_fill_53178_2 rfl (k := ?_)
  refine kr_alen ha0 hb0 dJ7_fill_53178_3 (k := ?_)
  refine kr_istore_n [(3, .int (nI N0)), (2, .int (0 : Int32)), (0, .ref (kg_b G + a0)), (1, .int v1)] dJ7_fill_53178_4 (k := ?_)
  refine kr_sub [2, 3, 1, 0] [(0, .ref (kg_b G + a0)), (1, .int v1), (2, .int (0 : Int32)), (3, .int (nI N0))] rfl ?_
  obtain ⟨f12, h13⟩ := h1
  refine sL_J7_fill_53178_5 ha0 hb0 ?_ f12 v1 (0 : Int32) (nI N0) M h13
  · intro  M h11
    exact kr_return dJ7_fill_53178_20 ⟨rfl, rfl, rfl, h11⟩
set_option maxRecDepth 100000 in
set_option maxHeartbeats 4000000 in
theorem sp_X0_addGate {G : kg_G} {E : State → Array Value → Prop} {R : kg_R} {n : Nat} {o : Nat} {K : kg_M → Prop} (ho : kg_O0 R n o) {v1 : Int32} {M : kg_M} (h1 : wp_X0_addGate o v1 M K) : kg_Run G E qX0_addGate 0 0 [(0, .ref (kg_b G + o)), (1, .int v1)] [] M R n 0 0 (kg_V R n K) := by
  unfold wp_X0_addGate at h1
  refine kr_aload_n 0 dX0_addGate_0 rfl (k := ?_)
  refine kr_getI 0 ckX0 lkF_X0_21 rfl (kg_o0a ho) (kg_o0n ho) dX0_addGate_1 (k := ?_)
  refine kr_iconst (5 : Int32) dX0_addGate_4 (k := ?_)
  refine kr_icmp_ge 28 dX0_addGate_5 (fun c2 => ?_) (fun c2 => ?_)
  · have h3 := h1.1 c2
    exact kr_return dX0_addGate_28 ⟨rfl, rfl, rfl, h3⟩
  · have h4 := h1.2 c2
    refine kr_aload_n 0 dX0_addGate_8 rfl (k := ?_)
    refine kr_getR 4 ckX0 lkF_X0_9 rfl (kg_o0a ho) (kg_o0n ho) (kg_o0r4 ho) dX0_addGate_9 (k := ?_)
    refine kr_aload_n 0 dX0_addGate_12 rfl (k := ?_)
    refine kr_getI 0 ckX0 lkF_X0_21 rfl (kg_o0a ho) (kg_o0n ho) dX0_addGate_13 (k := ?_)
    refine kr_iload_n 1 dX0_addGate_16 rfl (k := ?_)
    obtain ⟨h5, h6⟩ := h4
    refine kn_iast (kg_o0s4 ho) (kg_o0m4 ho) h5 dX0_addGate_17 (fun M7 e8 => ?_)
    have h9 := h6 M7 e8
    refine kr_aload_n 0 dX0_addGate_18 rfl (k := ?_)
    refine kr_dup dX0_addGate_19 (k := ?_)
    refine kr_getI 0 ckX0 lkF_X0_21 rfl (kg_o0a ho) (kg_o0n ho) dX0_addGate_20 (k := ?_)
    refine kr_iconst (1 : Int32) dX0_addGate_23 (k := ?_)
    refine kr_iadd dX0_addGate_24 (k := ?_)
    refine kn_putI 0 ckX0 lkF_X0_21 rfl rfl rfl rfl (kg_o0a ho) (kg_o0n ho) dX0_addGate_25 (fun M10 e11 => ?_)
    have h12 := h9 M10 e11
    exact kr_return dX0_addGate_28 ⟨rfl, rfl, rfl, h12⟩
set_option maxRecDepth 100000 in
set_option maxHeartbeats 4000000 in
theorem sp_X0_hasPerson {G : kg_G} {E : State → Array Value → Prop} {R : kg_R} {n : Nat} {o : Nat} {K : Int32 → kg_M → Prop} (ho : kg_O0 R n o) {v1 : Int32} {M : kg_M} (h1 : wp_X0_hasPerson o v1 M K) : kg_Run G E qX0_hasPerson 0 0 [(0, .ref (kg_b G + o)), (1, .int v1)] [] M R n 0 0 (kg_Z R n K) := by
  unfold wp_X0_hasPerson at h1
  refine kr_iload_n 1 dX0_hasPerson_0 rfl (k := ?_)
  refine kr_if_lt 16 dX0_hasPerson_1 (fun c2 => ?_) (fun c2 => ?_)
  · have h3 := h1.1 c2
    refine kr_iconst (0 : Int32) dX0_hasPerson_16 (k := ?_)
    exact kr_ireturn dX0_hasPerson_17 ⟨rfl, rfl, _, rfl, (by decide), h3⟩
  · have h4 := h1.2 c2
    refine kr_iload_n 1 dX0_hasPerson_4 rfl (k := ?_)
    refine kr_aload_n 0 dX0_hasPerson_5 rfl (k := ?_)
    refine kr_getI 1 ckX0 lkF_X0_25 rfl (kg_o0a ho) (kg_o0n ho) dX0_hasPerson_6 (k := ?_)
    refine kr_icmp_ge 16 dX0_hasPerson_9 (fun c5 => ?_) (fun c5 => ?_)
    · have h6 := h4.1 c5
      refine kr_iconst (0 : Int32) dX0_hasPerson_16 (k := ?_)
      exact kr_ireturn dX0_hasPerson_17 ⟨rfl, rfl, _, rfl, (by decide), h6⟩
    · have h7 := h4.2 c5
      refine kr_iconst (1 : Int32) dX0_hasPerson_12 (k := ?_)
      refine kr_goto 17 dX0_hasPerson_13 ?_
      exact kr_ireturn dX0_hasPerson_17 ⟨rfl, rfl, _, rfl, (by decide), h7⟩
set_option maxRecDepth 100000 in
set_option maxHeartbeats 4000000 in
theorem sp_X0_isTold {G : kg_G} {E : State → Array Value → Prop} {R : kg_R} {n : Nat} {o : Nat} {K : Int32 → kg_M → Prop} (ho : kg_O0 R n o) {v1 : Int32} {v2 : Int32} {M : kg_M} (h1 : wp_X0_isTold o v1 v2 M K) : kg_Run G E qX0_isTold 1 0 [(0, .ref (kg_b G + o)), (1, .int v1), (2, .int v2)] [] M R n 0 0 (kg_Z R n K) := by
  unfold wp_X0_isTold at h1
  refine kr_aload_n 0 dX0_isTold_0 rfl (k := ?_)
  refine kr_iload_n 1 dX0_isTold_1 rfl (k := ?_)
  refine kn_callVz [.int v1] [] mvX0_hasPerson lkM_X0_40 (kg_o0a ho) rfl (kg_o0n ho) dX0_isTold_2 (sp_X0_hasPerson ho h1) (fun r4 M2 _ h3 => ?_)
  refine kr_if_eq 35 dX0_isTold_5 (fun c5 => ?_) (fun c5 => ?_)
  · have h6 := h3.1 c5
    refine kr_iconst (0 : Int32) dX0_isTold_35 (k := ?_)
    exact kr_ireturn dX0_isTold_36 ⟨rfl, rfl, _, rfl, (by decide), h6⟩
  · have h7 := h3.2 c5
    refine kr_aload_n 0 dX0_isTold_8 rfl (k := ?_)
    refine kr_iload_n 2 dX0_isTold_9 rfl (k := ?_)
    refine kn_callVz [.int v2] [] mvX0_hasPerson lkM_X0_40 (kg_o0a ho) rfl (kg_o0n ho) dX0_isTold_10 (sp_X0_hasPerson ho h7) (fun r10 M8 _ h9 => ?_)
    refine kr_if_eq 35 dX0_isTold_13 (fun c11 => ?_) (fun c11 => ?_)
    · have h12 := h9.1 c11
      refine kr_iconst (0 : Int32) dX0_isTold_35 (k := ?_)
      exact kr_ireturn dX0_isTold_36 ⟨rfl, rfl, _, rfl, (by decide), h12⟩
    · have h13 := h9.2 c11
      refine kr_aload_n 0 dX0_isTold_16 rfl (k := ?_)
      refine kr_getR 5 ckX0 lkF_X0_15 rfl (kg_o0a ho) (kg_o0n ho) (kg_o0r5 ho) dX0_isTold_17 (k := ?_)
      refine kr_iload_n 1 dX0_isTold_20 rfl (k := ?_)
      refine kr_bipush (7 : Int32) dX0_isTold_21 (k := ?_)
      refine kr_imul dX0_isTold_23 (k := ?_)
      refine kr_iload_n 2 dX0_isTold_24 rfl (k := ?_)
      refine kr_iadd dX0_isTold_25 (k := ?_)
      obtain ⟨h14, h15⟩ := h13
      refine kr_iald (kg_o0s5 ho) (kg_o0m5 ho) h14 dX0_isTold_26 (k := ?_)
      refine kr_iconst (-1 : Int32) dX0_isTold_27 (k := ?_)
      refine kr_icmp_eq 35 dX0_isTold_28 (fun c16 => ?_) (fun c16 => ?_)
      · have h17 := h15.1 c16
        refine kr_iconst (0 : Int32) dX0_isTold_35 (k := ?_)
        exact kr_ireturn dX0_isTold_36 ⟨rfl, rfl, _, rfl, (by decide), h17⟩
      · have h18 := h15.2 c16
        refine kr_iconst (1 : Int32) dX0_isTold_31 (k := ?_)
        refine kr_goto 36 dX0_isTold_32 ?_
        exact kr_ireturn dX0_isTold_36 ⟨rfl, rfl, _, rfl, (by decide), h18⟩
set_option maxRecDepth 100000 in
set_option maxHeartbeats 4000000 in
theorem sp_X0_liking {G : kg_G} {E : State → Array Value → Prop} {R : kg_R} {n : Nat} {o : Nat} {K : Int32 → kg_M → Prop} (ho : kg_O0 R n o) {v1 : Int32} {v2 : Int32} {M : kg_M} (h1 : wp_X0_liking o v1 v2 M K) : kg_Run G E qX0_liking 2 0 [(0, .ref (kg_b G + o)), (1, .int v1), (2, .int v2)] [] M R n 0 0 (kg_I R n K) := by
  unfold wp_X0_liking at h1
  refine kr_aload_n 0 dX0_liking_0 rfl (k := ?_)
  refine kr_iload_n 1 dX0_liking_1 rfl (k := ?_)
  refine kr_iload_n 2 dX0_liking_2 rfl (k := ?_)
  refine kn_callVz [.int v1, .int v2] [] mvX0_isTold lkM_X0_48 (kg_o0a ho) rfl (kg_o0n ho) dX0_liking_3 (sp_X0_isTold ho h1) (fun r4 M2 _ h3 => ?_)
  refine kr_if_eq 23 dX0_liking_6 (fun c5 => ?_) (fun c5 => ?_)
  · have h6 := h3.1 c5
    refine kr_iconst (0 : Int32) dX0_liking_23 (k := ?_)
    exact kr_ireturn dX0_liking_24 ⟨rfl, rfl, _, rfl, h6⟩
  · have h7 := h3.2 c5
    refine kr_aload_n 0 dX0_liking_9 rfl (k := ?_)
    refine kr_getR 5 ckX0 lkF_X0_15 rfl (kg_o0a ho) (kg_o0n ho) (kg_o0r5 ho) dX0_liking_10 (k := ?_)
    refine kr_iload_n 1 dX0_liking_13 rfl (k := ?_)
    refine kr_bipush (7 : Int32) dX0_liking_14 (k := ?_)
    refine kr_imul dX0_liking_16 (k := ?_)
    refine kr_iload_n 2 dX0_liking_17 rfl (k := ?_)
    refine kr_iadd dX0_liking_18 (k := ?_)
    obtain ⟨h8, h9⟩ := h7
    refine kr_iald (kg_o0s5 ho) (kg_o0m5 ho) h8 dX0_liking_19 (k := ?_)
    refine kr_goto 24 dX0_liking_20 ?_
    exact kr_ireturn dX0_liking_24 ⟨rfl, rfl, _, rfl, h9⟩
set_option maxRecDepth 100000 in
set_option maxHeartbeats 4000000 in
theorem sp_X0_addLiking {G : kg_G} {E : State → Array Value → Prop} {R : kg_R} {n : Nat} {o : Nat} {K : kg_M → Prop} (ho : kg_O0 R n o) {v1 : Int32} {v2 : Int32} {v3 : Int32} {M : kg_M} (h1 : wp_X0_addLiking o v1 v2 v3 M K) : kg_Run G E qX0_addLiking 3 0 [(0, .ref (kg_b G + o)), (1, .int v1), (2, .int v2), (3, .int v3)] [] M R n 0 0 (kg_V R n K) := by
  unfold wp_X0_addLiking at h1
  refine kr_aload_n 0 dX0_addLiking_0 rfl (k := ?_)
  refine kr_iload_n 1 dX0_addLiking_1 rfl (k := ?_)
  refine kn_callVz [.int v1] [] mvX0_hasPerson lkM_X0_40 (kg_o0a ho) rfl (kg_o0n ho) dX0_addLiking_2 (sp_X0_hasPerson ho h1) (fun r4 M2 _ h3 => ?_)
  refine kr_if_eq 67 dX0_addLiking_5 (fun c5 => ?_) (fun c5 => ?_)
  · have h6 := h3.1 c5
    exact kr_return dX0_addLiking_67 ⟨rfl, rfl, rfl, h6⟩
  · have h7 := h3.2 c5
    refine kr_aload_n 0 dX0_addLiking_8 rfl (k := ?_)
    refine kr_iload_n 2 dX0_addLiking_9 rfl (k := ?_)
    refine kn_callVz [.int v2] [] mvX0_hasPerson lkM_X0_40 (kg_o0a ho) rfl (kg_o0n ho) dX0_addLiking_10 (sp_X0_hasPerson ho h7) (fun r10 M8 _ h9 => ?_)
    refine kr_if_eq 67 dX0_addLiking_13 (fun c11 => ?_) (fun c11 => ?_)
    · have h12 := h9.1 c11
      exact kr_return dX0_addLiking_67 ⟨rfl, rfl, rfl, h12⟩
    · have h13 := h9.2 c11
      refine kr_aload_n 0 dX0_addLiking_16 rfl (k := ?_)
      refine kr_getR 5 ckX0 lkF_X0_15 rfl (kg_o0a ho) (kg_o0n ho) (kg_o0r5 ho) dX0_addLiking_17 (k := ?_)
      refine kr_iload_n 1 dX0_addLiking_20 rfl (k := ?_)
      refine kr_bipush (7 : Int32) dX0_addLiking_21 (k := ?_)
      refine kr_imul dX0_addLiking_23 (k := ?_)
      refine kr_iload_n 2 dX0_addLiking_24 rfl (k := ?_)
      refine kr_iadd dX0_addLiking_25 (k := ?_)
      refine kr_iload_n 3 dX0_addLiking_26 rfl (k := ?_)
      obtain ⟨h14, h15⟩ := h13
      refine kn_iast (kg_o0s5 ho) (kg_o0m5 ho) h14 dX0_addLiking_27 (fun M16 e17 => ?_)
      have h18 := h15 M16 e17
      refine kr_iload_n 3 dX0_addLiking_28 rfl (k := ?_)
      refine kr_iconst (1 : Int32) dX0_addLiking_29 (k := ?_)
      refine kr_icmp_lt 67 dX0_addLiking_30 (fun c19 => ?_) (fun c19 => ?_)
      · have h20 := h18.1 c19
        exact kr_return dX0_addLiking_67 ⟨rfl, rfl, rfl, h20⟩
      · have h21 := h18.2 c19
        refine kr_aload_n 0 dX0_addLiking_33 rfl (k := ?_)
        refine kr_iload_n 2 dX0_addLiking_34 rfl (k := ?_)
        refine kr_iload_n 1 dX0_addLiking_35 rfl (k := ?_)
        refine kn_callVi [.int v2, .int v1] [] mvX0_liking lkM_X0_44 (kg_o0a ho) rfl (kg_o0n ho) dX0_addLiking_36 (sp_X0_liking ho h21) (fun r24 M22 h23 => ?_)
        refine kr_iconst (1 : Int32) dX0_addLiking_39 (k := ?_)
        refine kr_icmp_lt 67 dX0_addLiking_40 (fun c25 => ?_) (fun c25 => ?_)
        · have h26 := h23.1 c25
          exact kr_return dX0_addLiking_67 ⟨rfl, rfl, rfl, h26⟩
        · have h27 := h23.2 c25
          refine kr_aload_n 0 dX0_addLiking_43 rfl (k := ?_)
          refine kr_getR 6 ckX0 lkF_X0_18 rfl (kg_o0a ho) (kg_o0n ho) (kg_o0r6 ho) dX0_addLiking_44 (k := ?_)
          refine kr_iload_n 1 dX0_addLiking_47 rfl (k := ?_)
          refine kr_dup2 dX0_addLiking_48 (k := ?_)
          obtain ⟨h28, h29⟩ := h27
          refine kr_iald (kg_o0s6 ho) (kg_o0m6 ho) h28 dX0_addLiking_49 (k := ?_)
          refine kr_iconst (1 : Int32) dX0_addLiking_50 (k := ?_)
          refine kr_iload_n 2 dX0_addLiking_51 rfl (k := ?_)
          refine kr_ishl dX0_addLiking_52 (k := ?_)
          refine kr_ior dX0_addLiking_53 (k := ?_)
          obtain ⟨h30, h31⟩ := h29
          refine kn_iast (kg_o0s6 ho) (kg_o0m6 ho) h30 dX0_addLiking_54 (fun M32 e33 => ?_)
          have h34 := h31 M32 e33
          refine kr_aload_n 0 dX0_addLiking_55 rfl (k := ?_)
          refine kr_getR 6 ckX0 lkF_X0_18 rfl (kg_o0a ho) (kg_o0n ho) (kg_o0r6 ho) dX0_addLiking_56 (k := ?_)
          refine kr_iload_n 2 dX0_addLiking_59 rfl (k := ?_)
          refine kr_dup2 dX0_addLiking_60 (k := ?_)
          obtain ⟨h35, h36⟩ := h34
          refine kr_iald (kg_o0s6 ho) (kg_o0m6 ho) h35 dX0_addLiking_61 (k := ?_)
          refine kr_iconst (1 : Int32) dX0_addLiking_62 (k := ?_)
          refine kr_iload_n 1 dX0_addLiking_63 rfl (k := ?_)
          refine kr_ishl dX0_addLiking_64 (k := ?_)
          refine kr_ior dX0_addLiking_65 (k := ?_)
          obtain ⟨h37, h38⟩ := h36
          refine kn_iast (kg_o0s6 ho) (kg_o0m6 ho) h37 dX0_addLiking_66 (fun M39 e40 => ?_)
          have h41 := h38 M39 e40
          exact kr_return dX0_addLiking_67 ⟨rfl, rfl, rfl, h41⟩
set_option maxRecDepth 100000 in
set_option maxHeartbeats 4000000 in
theorem sp_X0_addPerson {G : kg_G} {E : State → Array Value → Prop} {R : kg_R} {n : Nat} {o : Nat} {K : kg_M → Prop} (ho : kg_O0 R n o) {v1 : Int32} {v2 : Int32} {M : kg_M} (h1 : wp_X0_addPerson o v1 v2 M K) : kg_Run G E qX0_addPerson 0 0 [(0, .ref (kg_b G + o)), (1, .int v1), (2, .int v2)] [] M R n 0 0 (kg_V R n K) := by
  unfold wp_X0_addPerson at h1
  refine kr_aload_n 0 dX0_addPerson_0 rfl (k := ?_)
  refine kr_getI 1 ckX0 lkF_X0_25 rfl (kg_o0a ho) (kg_o0n ho) dX0_addPerson_1 (k := ?_)
  refine kr_bipush (7 : Int32) dX0_addPerson_4 (k := ?_)
  refine kr_icmp_ge 49 dX0_addPerson_6 (fun c2 => ?_) (fun c2 => ?_)
  · have h3 := h1.1 c2
    exact kr_return dX0_addPerson_49 ⟨rfl, rfl, rfl, h3⟩
  · have h4 := h1.2 c2
    refine kr_aload_n 0 dX0_addPerson_9 rfl (k := ?_)
    refine kr_dup dX0_addPerson_10 (k := ?_)
    refine kr_getI 2 ckX0 lkF_X0_28 rfl (kg_o0a ho) (kg_o0n ho) dX0_addPerson_11 (k := ?_)
    refine kr_iload_n 1 dX0_addPerson_14 rfl (k := ?_)
    refine kr_aload_n 0 dX0_addPerson_15 rfl (k := ?_)
    refine kr_getI 1 ckX0 lkF_X0_25 rfl (kg_o0a ho) (kg_o0n ho) dX0_addPerson_16 (k := ?_)
    refine kr_ishl dX0_addPerson_19 (k := ?_)
    refine kr_ior dX0_addPerson_20 (k := ?_)
    refine kn_putI 2 ckX0 lkF_X0_28 rfl rfl rfl rfl (kg_o0a ho) (kg_o0n ho) dX0_addPerson_21 (fun M5 e6 => ?_)
    have h7 := h4 M5 e6
    refine kr_aload_n 0 dX0_addPerson_24 rfl (k := ?_)
    refine kr_dup dX0_addPerson_25 (k := ?_)
    refine kr_getI 3 ckX0 lkF_X0_31 rfl (kg_o0a ho) (kg_o0n ho) dX0_addPerson_26 (k := ?_)
    refine kr_iload_n 2 dX0_addPerson_29 rfl (k := ?_)
    refine kr_aload_n 0 dX0_addPerson_30 rfl (k := ?_)
    refine kr_getI 1 ckX0 lkF_X0_25 rfl (kg_o0a ho) (kg_o0n ho) dX0_addPerson_31 (k := ?_)
    refine kr_ishl dX0_addPerson_34 (k := ?_)
    refine kr_ior dX0_addPerson_35 (k := ?_)
    refine kn_putI 3 ckX0 lkF_X0_31 rfl rfl rfl rfl (kg_o0a ho) (kg_o0n ho) dX0_addPerson_36 (fun M8 e9 => ?_)
    have h10 := h7 M8 e9
    refine kr_aload_n 0 dX0_addPerson_39 rfl (k := ?_)
    refine kr_dup dX0_addPerson_40 (k := ?_)
    refine kr_getI 1 ckX0 lkF_X0_25 rfl (kg_o0a ho) (kg_o0n ho) dX0_addPerson_41 (k := ?_)
    refine kr_iconst (1 : Int32) dX0_addPerson_44 (k := ?_)
    refine kr_iadd dX0_addPerson_45 (k := ?_)
    refine kn_putI 1 ckX0 lkF_X0_25 rfl rfl rfl rfl (kg_o0a ho) (kg_o0n ho) dX0_addPerson_46 (fun M11 e12 => ?_)
    have h13 := h10 M11 e12
    exact kr_return dX0_addPerson_49 ⟨rfl, rfl, rfl, h13⟩
set_option maxRecDepth 100000 in
set_option maxHeartbeats 4000000 in
theorem sp_X0_empty {G : kg_G} {E : State → Array Value → Prop} {R : kg_R} {n : Nat} {o : Nat} {K : kg_M → Prop} (ho : kg_O0 R n o) {M : kg_M} (h1 : wp_X0_empty o M K) : kg_Run G E qX0_empty 1 0 [(0, .ref (kg_b G + o))] [] M R n 0 0 (kg_V R n K) := by
  unfold wp_X0_empty at h1
  refine kr_aload_n 0 dX0_empty_0 rfl (k := ?_)
  refine kr_iconst (0 : Int32) dX0_empty_1 (k := ?_)
  refine kn_putI 0 ckX0 lkF_X0_21 rfl rfl rfl rfl (kg_o0a ho) (kg_o0n ho) dX0_empty_2 (fun M2 e3 => ?_)
  have h4 := h1 M2 e3
  refine kr_aload_n 0 dX0_empty_5 rfl (k := ?_)
  refine kr_iconst (0 : Int32) dX0_empty_6 (k := ?_)
  refine kn_putI 1 ckX0 lkF_X0_25 rfl rfl rfl rfl (kg_o0a ho) (kg_o0n ho) dX0_empty_7 (fun M5 e6 => ?_)
  have h7 := h4 M5 e6
  refine kr_aload_n 0 dX0_empty_10 rfl (k := ?_)
  refine kr_iconst (0 : Int32) dX0_empty_11 (k := ?_)
  refine kn_putI 2 ckX0 lkF_X0_28 rfl rfl rfl rfl (kg_o0a ho) (kg_o0n ho) dX0_empty_12 (fun M8 e9 => ?_)
  have h10 := h7 M8 e9
  refine kr_aload_n 0 dX0_empty_15 rfl (k := ?_)
  refine kr_iconst (0 : Int32) dX0_empty_16 (k := ?_)
  refine kn_putI 3 ckX0 lkF_X0_31 rfl rfl rfl rfl (kg_o0a ho) (kg_o0n ho) dX0_empty_17 (fun M11 e12 => ?_)
  have h13 := h10 M11 e12
  refine kr_aload_n 0 dX0_empty_20 rfl (k := ?_)
  refine kr_getR 5 ckX0 lkF_X0_15 rfl (kg_o0a ho) (kg_o0n ho) (kg_o0r5 ho) dX0_empty_21 (k := ?_)
  refine kr_iconst (-1 : Int32) dX0_empty_24 (k := ?_)
  refine kn_callSv [.ref (kg_b G + (o + 2)), .int (-1 : Int32)] [] msJ7_fill_53178 lkM_X0_34 dX0_empty_25 (sp_J7_fill_53178 (kg_o0s5 ho) (kg_o0m5 ho) h13) (fun M14 h15 => ?_)
  refine kr_aload_n 0 dX0_empty_28 rfl (k := ?_)
  refine kr_getR 6 ckX0 lkF_X0_18 rfl (kg_o0a ho) (kg_o0n ho) (kg_o0r6 ho) dX0_empty_29 (k := ?_)
  refine kr_iconst (0 : Int32) dX0_empty_32 (k := ?_)
  refine kn_callSv [.ref (kg_b G + (o + 3)), .int (0 : Int32)] [] msJ7_fill_53178 lkM_X0_34 dX0_empty_33 (sp_J7_fill_53178 (kg_o0s6 ho) (kg_o0m6 ho) h15) (fun M17 h18 => ?_)
  exact kr_return dX0_empty_36 ⟨rfl, rfl, rfl, h18⟩
set_option maxRecDepth 100000 in
set_option maxHeartbeats 4000000 in
theorem sp_X0_hasAll {G : kg_G} {E : State → Array Value → Prop} {R : kg_R} {n : Nat} {o : Nat} {K : Int32 → kg_M → Prop} (ho : kg_O0 R n o) {v1 : Int32} {M : kg_M} (h1 : wp_X0_hasAll o v1 M K) : kg_Run G E qX0_hasAll 0 0 [(0, .ref (kg_b G + o)), (1, .int v1)] [] M R n 0 0 (kg_Z R n K) := by
  unfold wp_X0_hasAll at h1
  refine kr_iload_n 1 dX0_hasAll_0 rfl (k := ?_)
  refine kr_aload_n 0 dX0_hasAll_1 rfl (k := ?_)
  refine kr_getI 1 ckX0 lkF_X0_25 rfl (kg_o0a ho) (kg_o0n ho) dX0_hasAll_2 (k := ?_)
  refine kr_iushr dX0_hasAll_5 (k := ?_)
  refine kr_if_ne 13 dX0_hasAll_6 (fun c2 => ?_) (fun c2 => ?_)
  · have h3 := h1.1 c2
    refine kr_iconst (0 : Int32) dX0_hasAll_13 (k := ?_)
    exact kr_ireturn dX0_hasAll_14 ⟨rfl, rfl, _, rfl, (by decide), h3⟩
  · have h4 := h1.2 c2
    refine kr_iconst (1 : Int32) dX0_hasAll_9 (k := ?_)
    refine kr_goto 14 dX0_hasAll_10 ?_
    exact kr_ireturn dX0_hasAll_14 ⟨rfl, rfl, _, rfl, (by decide), h4⟩
set_option maxRecDepth 100000 in
set_option maxHeartbeats 4000000 in
theorem sp_X0_hasGate {G : kg_G} {E : State → Array Value → Prop} {R : kg_R} {n : Nat} {o : Nat} {K : Int32 → kg_M → Prop} (ho : kg_O0 R n o) {v1 : Int32} {M : kg_M} (h1 : wp_X0_hasGate o v1 M K) : kg_Run G E qX0_hasGate 0 0 [(0, .ref (kg_b G + o)), (1, .int v1)] [] M R n 0 0 (kg_Z R n K) := by
  unfold wp_X0_hasGate at h1
  refine kr_iload_n 1 dX0_hasGate_0 rfl (k := ?_)
  refine kr_if_lt 16 dX0_hasGate_1 (fun c2 => ?_) (fun c2 => ?_)
  · have h3 := h1.1 c2
    refine kr_iconst (0 : Int32) dX0_hasGate_16 (k := ?_)
    exact kr_ireturn dX0_hasGate_17 ⟨rfl, rfl, _, rfl, (by decide), h3⟩
  · have h4 := h1.2 c2
    refine kr_iload_n 1 dX0_hasGate_4 rfl (k := ?_)
    refine kr_aload_n 0 dX0_hasGate_5 rfl (k := ?_)
    refine kr_getI 0 ckX0 lkF_X0_21 rfl (kg_o0a ho) (kg_o0n ho) dX0_hasGate_6 (k := ?_)
    refine kr_icmp_ge 16 dX0_hasGate_9 (fun c5 => ?_) (fun c5 => ?_)
    · have h6 := h4.1 c5
      refine kr_iconst (0 : Int32) dX0_hasGate_16 (k := ?_)
      exact kr_ireturn dX0_hasGate_17 ⟨rfl, rfl, _, rfl, (by decide), h6⟩
    · have h7 := h4.2 c5
      refine kr_iconst (1 : Int32) dX0_hasGate_12 (k := ?_)
      refine kr_goto 17 dX0_hasGate_13 ?_
      exact kr_ireturn dX0_hasGate_17 ⟨rfl, rfl, _, rfl, (by decide), h7⟩
set_option maxRecDepth 100000 in
set_option maxHeartbeats 4000000 in
theorem sL_X0_likesBest_17 {G : kg_G} {E : State → Array Value → Prop} {R : kg_R} {n : Nat} {o : Nat} {K : Int32 → kg_M → Prop} (ho : kg_O0 R n o) {Kx37 : kg_M → Prop} {Kx45 : kg_M → Prop} (hKx37 : ∀ (M : kg_M), Kx37 M → kg_Run G E qX0_likesBest 3 37 [] [] M R n 0 0 (kg_Z R n K)) (hKx45 : ∀ (M : kg_M), Kx45 M → kg_Run G E qX0_likesBest 3 45 [] [] M R n 0 0 (kg_Z R n K)) : ∀ (f : Nat) (v1 : Int32) (v3 : Int32) (v4 : Int32) (M : kg_M), wL_X0_likesBest_17 o Kx37 Kx45 K f v1 v3 v4 M → kg_Run G E qX0_likesBest 3 17 [(0, .ref (kg_b G + o)), (1, .int v1), (3, .int v3), (4, .int v4)] [] M R n 0 0 (kg_Z R n K) := by
  intro f
  induction f with
  | zero => intro v1 v3 v4 M h0; exact h0.elim
  | succ f ih =>
    intro v1 v3 v4 M h8
    rw [wL_X0_likesBest_17] at h8
    refine kr_iload 3 dX0_likesBest_17 rfl (k := ?_)
    refine kr_aload_n 0 dX0_likesBest_19 rfl (k := ?_)
    refine kr_getI 1 ckX0 lkF_X0_25 rfl (kg_o0a ho) (kg_o0n ho) dX0_likesBest_20 (k := ?_)
    refine kr_icmp_ge 45 dX0_likesBest_23 (fun c9 => ?_) (fun c9 => ?_)
    · have h10 := h8.1 c9
      refine kr_sub [] [] rfl ?_
      exact hKx45  M h10
    · have h11 := h8.2 c9
      refine kr_aload_n 0 dX0_likesBest_26 rfl (k := ?_)
      refine kr_iload_n 1 dX0_likesBest_27 rfl (k := ?_)
      refine kr_iload 3 dX0_likesBest_28 rfl (k := ?_)
      refine kn_callVi [.int v1, .int v4] [] mvX0_liking lkM_X0_44 (kg_o0a ho) rfl (kg_o0n ho) dX0_likesBest_30 (sp_X0_liking ho h11) (fun r14 M12 h13 => ?_)
      refine kr_iload_n 2 dX0_likesBest_33 rfl (k := ?_)
      refine kr_icmp_le 39 dX0_likesBest_34 (fun c15 => ?_) (fun c15 => ?_)
      · have h16 := h13.1 c15
        refine kr_iinc (1 : Int32) 3 [(4, .int (v4 + (1 : Int32))), (0, .ref (kg_b G + o)), (1, .int v1), (3, .int v3)] dX0_likesBest_39 rfl (k := ?_)
        refine kr_goto 17 dX0_likesBest_42 ?_
        refine kr_sub [1, 2, 3, 0] [(0, .ref (kg_b G + o)), (1, .int v1), (3, .int v3), (4, .int (v4 + (1 : Int32)))] rfl ?_
        exact ih v1 v3 (v4 + (1 : Int32)) M12 h16
      · have h17 := h13.2 c15
        refine kr_sub [] [] rfl ?_
        exact hKx37  M12 h17
set_option maxRecDepth 100000 in
set_option maxHeartbeats 4000000 in
theorem sp_X0_likesBest {G : kg_G} {E : State → Array Value → Prop} {R : kg_R} {n : Nat} {o : Nat} {K : Int32 → kg_M → Prop} (ho : kg_O0 R n o) {v1 : Int32} {v2 : Int32} {M : kg_M} (h1 : wp_X0_likesBest o v1 v2 M K) : kg_Run G E qX0_likesBest 3 0 [(0, .ref (kg_b G + o)), (1, .int v1), (2, .int v2)] [] M R n 0 0 (kg_Z R n K) := by
  unfold wp_X0_likesBest at h1
  refine kr_aload_n 0 dX0_likesBest_0 rfl (k := ?_)
  refine kr_iload_n 1 dX0_likesBest_1 rfl (k := ?_)
  refine kr_iload_n 2 dX0_likesBest_2 rfl (k := ?_)
  refine kn_callVi [.int v1, .int v2] [] mvX0_liking lkM_X0_44 (kg_o0a ho) rfl (kg_o0n ho) dX0_likesBest_3 (sp_X0_liking ho h1) (fun r4 M2 h3 => ?_)
  refine kr_istore_n [(3, .int r4), (0, .ref (kg_b G + o)), (1, .int v1), (2, .int v2)] dX0_likesBest_6 (k := ?_)
  refine kr_iload_n 0 dX0_likesBest_7 rfl (k := ?_)
  refine kr_iconst (1 : Int32) dX0_likesBest_8 (k := ?_)
  refine kr_icmp_ge 14 dX0_likesBest_9 (fun c5 => ?_) (fun c5 => ?_)
  · have h6 := h3.1 c5
    refine kr_iconst (0 : Int32) dX0_likesBest_14 (k := ?_)
    refine kr_istore [(4, .int (0 : Int32)), (3, .int r4), (0, .ref (kg_b G + o)), (1, .int v1), (2, .int v2)] dX0_likesBest_15 (k := ?_)
    refine kr_sub [2, 3, 1, 0] [(0, .ref (kg_b G + o)), (1, .int v1), (3, .int r4), (4, .int (0 : Int32))] rfl ?_
    obtain ⟨f20, h21⟩ := h6
    refine sL_X0_likesBest_17 ho ?_ ?_ f20 v1 r4 (0 : Int32) M2 h21
    · intro  M h18
      refine kr_iconst (0 : Int32) dX0_likesBest_37 (k := ?_)
      exact kr_ireturn dX0_likesBest_38 ⟨rfl, rfl, _, rfl, (by decide), h18⟩
    · intro  M h19
      refine kr_iconst (1 : Int32) dX0_likesBest_45 (k := ?_)
      exact kr_ireturn dX0_likesBest_46 ⟨rfl, rfl, _, rfl, (by decide), h19⟩
  · have h7 := h3.2 c5
    refine kr_iconst (0 : Int32) dX0_likesBest_12 (k := ?_)
    exact kr_ireturn dX0_likesBest_13 ⟨rfl, rfl, _, rfl, (by decide), h7⟩
set_option maxRecDepth 100000 in
set_option maxHeartbeats 4000000 in
theorem sp_X0_together {G : kg_G} {E : State → Array Value → Prop} {R : kg_R} {n : Nat} {o : Nat} {K : Int32 → kg_M → Prop} (ho : kg_O0 R n o) {v1 : Int32} {v2 : Int32} {M : kg_M} (h1 : wp_X0_together o v1 v2 M K) : kg_Run G E qX0_together 3 0 [(0, .ref (kg_b G + o)), (1, .int v1), (2, .int v2)] [] M R n 0 0 (kg_I R n K) := by
  unfold wp_X0_together at h1
  refine kr_aload_n 0 dX0_together_0 rfl (k := ?_)
  refine kr_iload_n 1 dX0_together_1 rfl (k := ?_)
  refine kr_iload_n 2 dX0_together_2 rfl (k := ?_)
  refine kn_callVi [.int v1, .int v2] [] mvX0_liking lkM_X0_44 (kg_o0a ho) rfl (kg_o0n ho) dX0_together_3 (sp_X0_liking ho h1) (fun r4 M2 h3 => ?_)
  refine kr_aload_n 0 dX0_together_6 rfl (k := ?_)
  refine kr_iload_n 2 dX0_together_7 rfl (k := ?_)
  refine kr_iload_n 1 dX0_together_8 rfl (k := ?_)
  refine kn_callVi [.int v2, .int v1] [.int r4] mvX0_liking lkM_X0_44 (kg_o0a ho) rfl (kg_o0n ho) dX0_together_9 (sp_X0_liking ho h3) (fun r7 M5 h6 => ?_)
  refine kr_iadd dX0_together_12 (k := ?_)
  exact kr_ireturn dX0_together_13 ⟨rfl, rfl, _, rfl, h6⟩
set_option maxRecDepth 100000 in
set_option maxHeartbeats 4000000 in
theorem sJ_X0_wouldMeet_14 {G : kg_G} {E : State → Array Value → Prop} {R : kg_R} {n : Nat} {o : Nat} {K : Int32 → kg_M → Prop} (ho : kg_O0 R n o) (v1 : Int32) (v2 : Int32) (s0 : Int32) (M : kg_M) (h5 : wJ_X0_wouldMeet_14 o K v1 v2 s0 M) : kg_Run G E qX0_wouldMeet 0 14 [(0, .ref (kg_b G + o)), (1, .int v1), (2, .int v2)] [.int s0] M R n 0 0 (kg_I R n K) := by
  unfold wJ_X0_wouldMeet_14 at h5
  refine kr_istore_n [(3, .int s0), (0, .ref (kg_b G + o)), (1, .int v1), (2, .int v2)] dX0_wouldMeet_14 (k := ?_)
  refine kr_aload_n 1 dX0_wouldMeet_15 rfl (k := ?_)
  refine kr_getR 6 ckX0 lkF_X0_18 rfl (kg_o0a ho) (kg_o0n ho) (kg_o0r6 ho) dX0_wouldMeet_16 (k := ?_)
  refine kr_iload_n 2 dX0_wouldMeet_19 rfl (k := ?_)
  obtain ⟨h6, h7⟩ := h5
  refine kr_iald (kg_o0s6 ho) (kg_o0m6 ho) h6 dX0_wouldMeet_20 (k := ?_)
  refine kr_iload_n 0 dX0_wouldMeet_21 rfl (k := ?_)
  refine kr_if_eq 31 dX0_wouldMeet_22 (fun c8 => ?_) (fun c8 => ?_)
  · have h9 := h7.1 c8
    refine kr_iload_n 3 dX0_wouldMeet_31 rfl (k := ?_)
    refine kr_iand dX0_wouldMeet_32 (k := ?_)
    exact kr_ireturn dX0_wouldMeet_33 ⟨rfl, rfl, _, rfl, h9⟩
  · have h10 := h7.2 c8
    refine kr_iload_n 3 dX0_wouldMeet_25 rfl (k := ?_)
    refine kr_iconst (-1 : Int32) dX0_wouldMeet_26 (k := ?_)
    refine kr_ixor dX0_wouldMeet_27 (k := ?_)
    refine kr_goto 32 dX0_wouldMeet_28 ?_
    refine kr_iand dX0_wouldMeet_32 (k := ?_)
    exact kr_ireturn dX0_wouldMeet_33 ⟨rfl, rfl, _, rfl, h10⟩
set_option maxRecDepth 100000 in
set_option maxHeartbeats 4000000 in
theorem sp_X0_wouldMeet {G : kg_G} {E : State → Array Value → Prop} {R : kg_R} {n : Nat} {o : Nat} {K : Int32 → kg_M → Prop} (ho : kg_O0 R n o) {v1 : Int32} {v2 : Int32} {M : kg_M} (h1 : wp_X0_wouldMeet o v1 v2 M K) : kg_Run G E qX0_wouldMeet 0 0 [(0, .ref (kg_b G + o)), (1, .int v1), (2, .int v2)] [] M R n 0 0 (kg_I R n K) := by
  unfold wp_X0_wouldMeet at h1
  refine kr_iload_n 2 dX0_wouldMeet_0 rfl (k := ?_)
  refine kr_iload_n 1 dX0_wouldMeet_1 rfl (k := ?_)
  refine kr_ishr dX0_wouldMeet_2 (k := ?_)
  refine kr_iconst (1 : Int32) dX0_wouldMeet_3 (k := ?_)
  refine kr_iand dX0_wouldMeet_4 (k := ?_)
  refine kr_iconst (1 : Int32) dX0_wouldMeet_5 (k := ?_)
  refine kr_icmp_ne 13 dX0_wouldMeet_6 (fun c2 => ?_) (fun c2 => ?_)
  · have h3 := h1.1 c2
    refine kr_iconst (0 : Int32) dX0_wouldMeet_13 (k := ?_)
    refine kr_sub [0, 1, 2] [(0, .ref (kg_b G + o)), (1, .int v1), (2, .int v2)] rfl ?_
    exact sJ_X0_wouldMeet_14 ho v1 v2 (0 : Int32) M h3
  · have h4 := h1.2 c2
    refine kr_iconst (1 : Int32) dX0_wouldMeet_9 (k := ?_)
    refine kr_goto 14 dX0_wouldMeet_10 ?_
    refine kr_sub [0, 1, 2] [(0, .ref (kg_b G + o)), (1, .int v1), (2, .int v2)] rfl ?_
    exact sJ_X0_wouldMeet_14 ho v1 v2 (1 : Int32) M h4
set_option maxRecDepth 100000 in
set_option maxHeartbeats 4000000 in
theorem sp_X1_reach {G : kg_G} {E : State → Array Value → Prop} {R : kg_R} {n : Nat} {K : kg_M → Prop} (ho : kg_O1 R n 95) {v1 : Int32} {v2 : Int32} {M : kg_M} (h1 : wp_X1_reach v1 v2 M K) : kg_Run G E qX1_reach 0 0 [(0, .ref (kg_b G + 95)), (1, .int v1), (2, .int v2)] [] M R n 0 0 (kg_V R n K) := by
  unfold wp_X1_reach at h1
  refine kr_iload_n 2 dX1_reach_0 rfl (k := ?_)
  refine kr_if_lt 40 dX1_reach_1 (fun c2 => ?_) (fun c2 => ?_)
  · have h3 := h1.1 c2
    exact kr_return dX1_reach_40 ⟨rfl, rfl, rfl, h3⟩
  · have h4 := h1.2 c2
    refine kr_iload_n 2 dX1_reach_4 rfl (k := ?_)
    refine kr_sipush (128 : Int32) dX1_reach_5 (k := ?_)
    refine kr_icmp_ge 40 dX1_reach_8 (fun c5 => ?_) (fun c5 => ?_)
    · have h6 := h4.1 c5
      exact kr_return dX1_reach_40 ⟨rfl, rfl, rfl, h6⟩
    · have h7 := h4.2 c5
      refine kr_aload_n 0 dX1_reach_11 rfl (k := ?_)
      refine kr_getR 0 ckX1 lkF_X1_11 rfl (kg_o1a ho) (kg_o1n ho) (kg_o1r0 ho) dX1_reach_12 (k := ?_)
      refine kr_iload_n 2 dX1_reach_15 rfl (k := ?_)
      obtain ⟨h8, h9⟩ := h7
      refine kr_iald (kg_o1s0 ho) (kg_o1m0 ho) h8 dX1_reach_16 (k := ?_)
      refine kr_iconst (-1 : Int32) dX1_reach_17 (k := ?_)
      refine kr_icmp_ne 40 dX1_reach_18 (fun c10 => ?_) (fun c10 => ?_)
      · have h11 := h9.1 c10
        exact kr_return dX1_reach_40 ⟨rfl, rfl, rfl, h11⟩
      · have h12 := h9.2 c10
        refine kr_aload_n 0 dX1_reach_21 rfl (k := ?_)
        refine kr_getR 0 ckX1 lkF_X1_11 rfl (kg_o1a ho) (kg_o1n ho) (kg_o1r0 ho) dX1_reach_22 (k := ?_)
        refine kr_iload_n 2 dX1_reach_25 rfl (k := ?_)
        refine kr_aload_n 0 dX1_reach_26 rfl (k := ?_)
        refine kr_getR 0 ckX1 lkF_X1_11 rfl (kg_o1a ho) (kg_o1n ho) (kg_o1r0 ho) dX1_reach_27 (k := ?_)
        refine kr_iload_n 1 dX1_reach_30 rfl (k := ?_)
        obtain ⟨h13, h14⟩ := h12
        refine kr_iald (kg_o1s0 ho) (kg_o1m0 ho) h13 dX1_reach_31 (k := ?_)
        refine kr_iconst (1 : Int32) dX1_reach_32 (k := ?_)
        refine kr_iadd dX1_reach_33 (k := ?_)
        obtain ⟨h15, h16⟩ := h14
        refine kn_iast (kg_o1s0 ho) (kg_o1m0 ho) h15 dX1_reach_34 (fun M17 e18 => ?_)
        have h19 := h16 M17 e18
        refine kr_aload_n 0 dX1_reach_35 rfl (k := ?_)
        refine kr_iconst (1 : Int32) dX1_reach_36 (k := ?_)
        refine kn_putI 1 ckX1 lkF_X1_21 rfl rfl rfl rfl (kg_o1a ho) (kg_o1n ho) dX1_reach_37 (fun M20 e21 => ?_)
        have h22 := h19 M20 e21
        exact kr_return dX1_reach_40 ⟨rfl, rfl, rfl, h22⟩
set_option maxRecDepth 100000 in
set_option maxHeartbeats 4000000 in
theorem sJ_X1_cross_14 {G : kg_G} {E : State → Array Value → Prop} {R : kg_R} {n : Nat} {o1 : Nat} {dd : Nat} {rc : Nat → Int32 → Int32 → Int32 → Int32 → kg_M → (kg_M → Prop) → Prop} {K : kg_M → Prop} (ho : kg_O1 R n 95) (ho1 : kg_O0 R n o1) (hrc : ∀ (v2 : Int32) (v3 : Int32) (v4 : Int32) (v5 : Int32) (M : kg_M) (K : kg_M → Prop), rc o1 v2 v3 v4 v5 M K → kg_Run G kg_E0 qX1_cross (dd + 1) 0 [(0, .ref (kg_b G + 95)), (1, .ref (kg_b G + o1)), (2, .int v2), (3, .int v3), (4, .int v4), (5, .int v5)] [] M R n 0 0 (kg_V R n K)) (v2 : Int32) (v3 : Int32) (M : kg_M) (h5 : wJ_X1_cross_14 rc o1 K v2 v3 M) : kg_Run G E qX1_cross (dd + 2) 14 [(0, .ref (kg_b G + 95)), (2, .int v2), (3, .int v3)] [] M R n 0 0 (kg_V R n K) := by
  unfold wJ_X1_cross_14 at h5
  refine kr_aload_n 0 dX1_cross_14 rfl (k := ?_)
  refine kr_iload_n 1 dX1_cross_15 rfl (k := ?_)
  refine kr_iload_n 2 dX1_cross_16 rfl (k := ?_)
  refine kn_callVv [.int v2, .int v3] [] mvX1_reach lkM_X1_39 (kg_o1a ho) rfl (kg_o1n ho) dX1_cross_17 (sp_X1_reach ho h5) (fun M6 h7 => ?_) (hd' := by omega)
  exact kr_return dX1_cross_20 ⟨rfl, rfl, rfl, h7⟩
set_option maxRecDepth 100000 in
set_option maxHeartbeats 4000000 in
theorem sL_X1_cross_60 {G : kg_G} {E : State → Array Value → Prop} {R : kg_R} {n : Nat} {o1 : Nat} {dd : Nat} {rc : Nat → Int32 → Int32 → Int32 → Int32 → kg_M → (kg_M → Prop) → Prop} {K : kg_M → Prop} (ho : kg_O1 R n 95) (ho1 : kg_O0 R n o1) (hrc : ∀ (v2 : Int32) (v3 : Int32) (v4 : Int32) (v5 : Int32) (M : kg_M) (K : kg_M → Prop), rc o1 v2 v3 v4 v5 M K → kg_Run G kg_E0 qX1_cross (dd + 1) 0 [(0, .ref (kg_b G + 95)), (1, .ref (kg_b G + o1)), (2, .int v2), (3, .int v3), (4, .int v4), (5, .int v5)] [] M R n 0 0 (kg_V R n K)) {Kx111 : Int32 → Int32 → Int32 → Int32 → kg_M → Prop} (hKx111 : ∀ (v2 : Int32) (v3 : Int32) (v4 : Int32) (v5 : Int32) (M : kg_M), Kx111 v2 v3 v4 v5 M → kg_Run G E qX1_cross (dd + 2) 111 [(0, .ref (kg_b G + 95)), (1, .ref (kg_b G + o1)), (2, .int v2), (3, .int v3), (4, .int v4), (5, .int v5)] [] M R n 0 0 (kg_V R n K)) : ∀ (f : Nat) (v2 : Int32) (v3 : Int32) (v4 : Int32) (v5 : Int32) (v7 : Int32) (v8 : Int32) (M : kg_M), wL_X1_cross_60 rc o1 Kx111 K f v2 v3 v4 v5 v7 v8 M → kg_Run G E qX1_cross (dd + 2) 60 [(0, .ref (kg_b G + 95)), (1, .ref (kg_b G + o1)), (2, .int v2), (3, .int v3), (4, .int v4), (5, .int v5), (7, .int v7), (8, .int v8)] [] M R n 0 0 (kg_V R n K) := by
  intro f
  induction f with
  | zero => intro v2 v3 v4 v5 v7 v8 M h0; exact h0.elim
  | succ f ih =>
    intro v2 v3 v4 v5 v7 v8 M h15
    rw [wL_X1_cross_60] at h15
    refine kr_iload 7 dX1_cross_60 rfl (k := ?_)
    refine kr_aload_n 1 dX1_cross_62 rfl (k := ?_)
    refine kr_getI 1 ckX0 lkF_X1_33 rfl (kg_o0a ho1) (kg_o0n ho1) dX1_cross_63 (k := ?_)
    refine kr_icmp_ge 111 dX1_cross_66 (fun c16 => ?_) (fun c16 => ?_)
    · have h17 := h15.1 c16
      refine kr_sub [0, 1, 2, 3, 4, 5] [(0, .ref (kg_b G + 95)), (1, .ref (kg_b G + o1)), (2, .int v2), (3, .int v3), (4, .int v4), (5, .int v5)] rfl ?_
      exact hKx111 v2 v3 v4 v5 M h17
    · have h18 := h15.2 c16
      refine kr_iload 6 dX1_cross_69 rfl (k := ?_)
      refine kr_iload 7 dX1_cross_71 rfl (k := ?_)
      refine kr_ishr dX1_cross_73 (k := ?_)
      refine kr_iconst (1 : Int32) dX1_cross_74 (k := ?_)
      refine kr_iand dX1_cross_75 (k := ?_)
      refine kr_iconst (1 : Int32) dX1_cross_76 (k := ?_)
      refine kr_icmp_ne 105 dX1_cross_77 (fun c19 => ?_) (fun c19 => ?_)
      · have h20 := h18.1 c19
        refine kr_iinc (1 : Int32) 7 [(8, .int (v8 + (1 : Int32))), (0, .ref (kg_b G + 95)), (1, .ref (kg_b G + o1)), (2, .int v2), (3, .int v3), (4, .int v4), (5, .int v5), (7, .int v7)] dX1_cross_105 rfl (k := ?_)
        refine kr_goto 60 dX1_cross_108 ?_
        refine kr_sub [1, 2, 3, 4, 5, 6, 7, 0] [(0, .ref (kg_b G + 95)), (1, .ref (kg_b G + o1)), (2, .int v2), (3, .int v3), (4, .int v4), (5, .int v5), (7, .int v7), (8, .int (v8 + (1 : Int32)))] rfl ?_
        exact ih v2 v3 v4 v5 v7 (v8 + (1 : Int32)) M h20
      · have h21 := h18.2 c19
        refine kr_aload_n 0 dX1_cross_80 rfl (k := ?_)
        refine kr_aload_n 1 dX1_cross_81 rfl (k := ?_)
        refine kr_iload_n 2 dX1_cross_82 rfl (k := ?_)
        refine kr_iload_n 3 dX1_cross_83 rfl (k := ?_)
        refine kr_iconst (1 : Int32) dX1_cross_84 (k := ?_)
        refine kr_iload 4 dX1_cross_85 rfl (k := ?_)
        refine kr_ishl dX1_cross_87 (k := ?_)
        refine kr_ixor dX1_cross_88 (k := ?_)
        refine kr_iconst (1 : Int32) dX1_cross_89 (k := ?_)
        refine kr_iload 7 dX1_cross_90 rfl (k := ?_)
        refine kr_ishl dX1_cross_92 (k := ?_)
        refine kr_ixor dX1_cross_93 (k := ?_)
        refine kr_iload 4 dX1_cross_94 rfl (k := ?_)
        refine kr_iconst (1 : Int32) dX1_cross_96 (k := ?_)
        refine kr_iadd dX1_cross_97 (k := ?_)
        refine kr_iload 5 dX1_cross_98 rfl (k := ?_)
        refine kr_iconst (1 : Int32) dX1_cross_100 (k := ?_)
        refine kr_isub dX1_cross_101 (k := ?_)
        refine kn_callVv [.ref (kg_b G + o1), .int v2, .int ((v3 ^^^ ((1 : Int32) <<< (v4 &&& 31))) ^^^ ((1 : Int32) <<< (v8 &&& 31))), .int (v4 + (1 : Int32)), .int (v5 - (1 : Int32))] [] mvX1_cross lkM_X1_29 (kg_o1a ho) rfl (kg_o1n ho) dX1_cross_102 (hrc v2 ((v3 ^^^ ((1 : Int32) <<< (v4 &&& 31))) ^^^ ((1 : Int32) <<< (v8 &&& 31))) (v4 + (1 : Int32)) (v5 - (1 : Int32)) M _ h21) (fun M22 h23 => ?_) (hd' := by omega)
        refine kr_iinc (1 : Int32) 7 [(8, .int (v8 + (1 : Int32))), (0, .ref (kg_b G + 95)), (1, .ref (kg_b G + o1)), (2, .int v2), (3, .int v3), (4, .int v4), (5, .int v5), (7, .int v7)] dX1_cross_105 rfl (k := ?_)
        refine kr_goto 60 dX1_cross_108 ?_
        refine kr_sub [1, 2, 3, 4, 5, 6, 7, 0] [(0, .ref (kg_b G + 95)), (1, .ref (kg_b G + o1)), (2, .int v2), (3, .int v3), (4, .int v4), (5, .int v5), (7, .int v7), (8, .int (v8 + (1 : Int32)))] rfl ?_
        exact ih v2 v3 v4 v5 v7 (v8 + (1 : Int32)) M22 h23
set_option maxRecDepth 100000 in
set_option maxHeartbeats 4000000 in
theorem sE_X1_cross {G : kg_G} {E : State → Array Value → Prop} {R : kg_R} {n : Nat} {o1 : Nat} {dd : Nat} {rc : Nat → Int32 → Int32 → Int32 → Int32 → kg_M → (kg_M → Prop) → Prop} {K : kg_M → Prop} (ho : kg_O1 R n 95) (ho1 : kg_O0 R n o1) (hrc : ∀ (v2 : Int32) (v3 : Int32) (v4 : Int32) (v5 : Int32) (M : kg_M) (K : kg_M → Prop), rc o1 v2 v3 v4 v5 M K → kg_Run G kg_E0 qX1_cross (dd + 1) 0 [(0, .ref (kg_b G + 95)), (1, .ref (kg_b G + o1)), (2, .int v2), (3, .int v3), (4, .int v4), (5, .int v5)] [] M R n 0 0 (kg_V R n K)) {v2 : Int32} {v3 : Int32} {v4 : Int32} {v5 : Int32} {M : kg_M} (h1 : wE_X1_cross rc o1 v2 v3 v4 v5 M K) : kg_Run G E qX1_cross (dd + 2) 0 [(0, .ref (kg_b G + 95)), (1, .ref (kg_b G + o1)), (2, .int v2), (3, .int v3), (4, .int v4), (5, .int v5)] [] M R n 0 0 (kg_V R n K) := by
  unfold wE_X1_cross at h1
  refine kr_iload 4 dX1_cross_0 rfl (k := ?_)
  refine kr_aload_n 1 dX1_cross_2 rfl (k := ?_)
  refine kr_getI 1 ckX0 lkF_X1_33 rfl (kg_o0a ho1) (kg_o0n ho1) dX1_cross_3 (k := ?_)
  refine kr_icmp_ge 14 dX1_cross_6 (fun c2 => ?_) (fun c2 => ?_)
  · have h3 := h1.1 c2
    refine kr_sub [0, 2, 3] [(0, .ref (kg_b G + 95)), (2, .int v2), (3, .int v3)] rfl ?_
    exact sJ_X1_cross_14 ho ho1 hrc v2 v3 M h3
  · have h4 := h1.2 c2
    refine kr_iload 5 dX1_cross_9 rfl (k := ?_)
    refine kr_if_gt 21 dX1_cross_11 (fun c9 => ?_) (fun c9 => ?_)
    · have h10 := h4.1 c9
      refine kr_iload_n 2 dX1_cross_21 rfl (k := ?_)
      refine kr_iload_n 3 dX1_cross_22 rfl (k := ?_)
      refine kr_ixor dX1_cross_23 (k := ?_)
      refine kr_istore [(6, .int (v2 ^^^ v3)), (0, .ref (kg_b G + 95)), (1, .ref (kg_b G + o1)), (2, .int v2), (3, .int v3), (4, .int v4), (5, .int v5)] dX1_cross_24 (k := ?_)
      refine kr_iload 0 dX1_cross_26 rfl (k := ?_)
      refine kr_iload 5 dX1_cross_28 rfl (k := ?_)
      refine kr_ishr dX1_cross_30 (k := ?_)
      refine kr_iconst (1 : Int32) dX1_cross_31 (k := ?_)
      refine kr_iand dX1_cross_32 (k := ?_)
      refine kr_if_ne 51 dX1_cross_33 (fun c12 => ?_) (fun c12 => ?_)
      · have h13 := h10.1 c12
        refine kr_iconst (0 : Int32) dX1_cross_51 (k := ?_)
        refine kr_istore [(7, .int (0 : Int32)), (6, .int (v2 ^^^ v3)), (0, .ref (kg_b G + 95)), (1, .ref (kg_b G + o1)), (2, .int v2), (3, .int v3), (4, .int v4), (5, .int v5)] dX1_cross_52 (k := ?_)
        refine kr_iload 6 dX1_cross_54 rfl (k := ?_)
        refine kr_iconst (1 : Int32) dX1_cross_56 (k := ?_)
        refine kr_iadd dX1_cross_57 (k := ?_)
        refine kr_istore [(8, .int (v4 + (1 : Int32))), (7, .int (0 : Int32)), (6, .int (v2 ^^^ v3)), (0, .ref (kg_b G + 95)), (1, .ref (kg_b G + o1)), (2, .int v2), (3, .int v3), (4, .int v4), (5, .int v5)] dX1_cross_58 (k := ?_)
        refine kr_sub [3, 4, 5, 6, 7, 8, 1, 0] [(0, .ref (kg_b G + 95)), (1, .ref (kg_b G + o1)), (2, .int v2), (3, .int v3), (4, .int v4), (5, .int v5), (7, .int (0 : Int32)), (8, .int (v4 + (1 : Int32)))] rfl ?_
        obtain ⟨f29, h30⟩ := h13
        refine sL_X1_cross_60 ho ho1 hrc ?_ f29 v2 v3 v4 v5 (0 : Int32) (v4 + (1 : Int32)) M h30
        · intro v2 v3 v4 v5 M h25
          refine kr_aload_n 0 dX1_cross_111 rfl (k := ?_)
          refine kr_aload_n 1 dX1_cross_112 rfl (k := ?_)
          refine kr_iload_n 2 dX1_cross_113 rfl (k := ?_)
          refine kr_iload_n 3 dX1_cross_114 rfl (k := ?_)
          refine kr_iload 4 dX1_cross_115 rfl (k := ?_)
          refine kr_iconst (1 : Int32) dX1_cross_117 (k := ?_)
          refine kr_iadd dX1_cross_118 (k := ?_)
          refine kr_iload 5 dX1_cross_119 rfl (k := ?_)
          refine kn_callVv [.ref (kg_b G + o1), .int v2, .int v3, .int (v4 + (1 : Int32)), .int v5] [] mvX1_cross lkM_X1_29 (kg_o1a ho) rfl (kg_o1n ho) dX1_cross_121 (hrc v2 v3 (v4 + (1 : Int32)) v5 M _ h25) (fun M26 h27 => ?_) (hd' := by omega)
          exact kr_return dX1_cross_124 ⟨rfl, rfl, rfl, h27⟩
      · have h14 := h10.2 c12
        refine kr_aload_n 2 dX1_cross_36 rfl (k := ?_)
        refine kr_iload 5 dX1_cross_37 rfl (k := ?_)
        refine kr_iload_n 3 dX1_cross_39 rfl (k := ?_)
        refine kn_callVi [.int v4, .int v2] [] mvX0_wouldMeet lkM_X1_43 (kg_o0a ho1) rfl (kg_o0n ho1) dX1_cross_40 (sp_X0_wouldMeet ho1 h14) (fun r33 M31 h32 => ?_) (hd' := by omega)
        refine kr_iload 0 dX1_cross_43 rfl (k := ?_)
        refine kr_iconst (-1 : Int32) dX1_cross_45 (k := ?_)
        refine kr_ixor dX1_cross_46 (k := ?_)
        refine kr_iand dX1_cross_47 (k := ?_)
        refine kr_goto 52 dX1_cross_48 ?_
        refine kr_istore [(7, .int (r33 &&& ((v2 ^^^ v3) ^^^ (-1 : Int32)))), (6, .int (v2 ^^^ v3)), (0, .ref (kg_b G + 95)), (1, .ref (kg_b G + o1)), (2, .int v2), (3, .int v3), (4, .int v4), (5, .int v5)] dX1_cross_52 (k := ?_)
        refine kr_iload 6 dX1_cross_54 rfl (k := ?_)
        refine kr_iconst (1 : Int32) dX1_cross_56 (k := ?_)
        refine kr_iadd dX1_cross_57 (k := ?_)
        refine kr_istore [(8, .int (v4 + (1 : Int32))), (7, .int (r33 &&& ((v2 ^^^ v3) ^^^ (-1 : Int32)))), (6, .int (v2 ^^^ v3)), (0, .ref (kg_b G + 95)), (1, .ref (kg_b G + o1)), (2, .int v2), (3, .int v3), (4, .int v4), (5, .int v5)] dX1_cross_58 (k := ?_)
        refine kr_sub [3, 4, 5, 6, 7, 8, 1, 0] [(0, .ref (kg_b G + 95)), (1, .ref (kg_b G + o1)), (2, .int v2), (3, .int v3), (4, .int v4), (5, .int v5), (7, .int (r33 &&& ((v2 ^^^ v3) ^^^ (-1 : Int32)))), (8, .int (v4 + (1 : Int32)))] rfl ?_
        obtain ⟨f38, h39⟩ := h32
        refine sL_X1_cross_60 ho ho1 hrc ?_ f38 v2 v3 v4 v5 (r33 &&& ((v2 ^^^ v3) ^^^ (-1 : Int32))) (v4 + (1 : Int32)) M31 h39
        · intro v2 v3 v4 v5 M h34
          refine kr_aload_n 0 dX1_cross_111 rfl (k := ?_)
          refine kr_aload_n 1 dX1_cross_112 rfl (k := ?_)
          refine kr_iload_n 2 dX1_cross_113 rfl (k := ?_)
          refine kr_iload_n 3 dX1_cross_114 rfl (k := ?_)
          refine kr_iload 4 dX1_cross_115 rfl (k := ?_)
          refine kr_iconst (1 : Int32) dX1_cross_117 (k := ?_)
          refine kr_iadd dX1_cross_118 (k := ?_)
          refine kr_iload 5 dX1_cross_119 rfl (k := ?_)
          refine kn_callVv [.ref (kg_b G + o1), .int v2, .int v3, .int (v4 + (1 : Int32)), .int v5] [] mvX1_cross lkM_X1_29 (kg_o1a ho) rfl (kg_o1n ho) dX1_cross_121 (hrc v2 v3 (v4 + (1 : Int32)) v5 M _ h34) (fun M35 h36 => ?_) (hd' := by omega)
          exact kr_return dX1_cross_124 ⟨rfl, rfl, rfl, h36⟩
    · have h11 := h4.2 c9
      refine kr_sub [0, 2, 3] [(0, .ref (kg_b G + 95)), (2, .int v2), (3, .int v3)] rfl ?_
      exact sJ_X1_cross_14 ho ho1 hrc v2 v3 M h11
set_option maxRecDepth 100000 in
set_option maxHeartbeats 4000000 in
theorem sR_X1_cross {G : kg_G} {R : kg_R} {n : Nat} {o1 : Nat} (ho : kg_O1 R n 95) (ho1 : kg_O0 R n o1) : ∀ (f : Nat) (v2 : Int32) (v3 : Int32) (v4 : Int32) (v5 : Int32) (M : kg_M) (K : kg_M → Prop), wR_X1_cross f o1 v2 v3 v4 v5 M K → kg_Run G kg_E0 qX1_cross (f + 1) 0 [(0, .ref (kg_b G + 95)), (1, .ref (kg_b G + o1)), (2, .int v2), (3, .int v3), (4, .int v4), (5, .int v5)] [] M R n 0 0 (kg_V R n K)
  | 0, _, _, _, _, _, _ => fun h => h.elim
  | f + 1, _, _, _, _, _, _ => fun h => sE_X1_cross (dd := f) ho ho1 (sR_X1_cross ho ho1 f) h
set_option maxRecDepth 100000 in
set_option maxHeartbeats 4000000 in
theorem sp_X1_cross {G : kg_G} {R : kg_R} {n : Nat} {o1 : Nat} (ho : kg_O1 R n 95) (ho1 : kg_O0 R n o1) {v2 : Int32} {v3 : Int32} {v4 : Int32} {v5 : Int32} {M : kg_M} {K : kg_M → Prop} (h : wp_X1_cross o1 v2 v3 v4 v5 M K) : kg_Run G kg_E0 qX1_cross 11 0 [(0, .ref (kg_b G + 95)), (1, .ref (kg_b G + o1)), (2, .int v2), (3, .int v3), (4, .int v4), (5, .int v5)] [] M R n 0 0 (kg_V R n K) := sR_X1_cross ho ho1 10 v2 v3 v4 v5 M K h
set_option maxRecDepth 100000 in
set_option maxHeartbeats 4000000 in
theorem sL_X1_isThere_3 {G : kg_G} {E : State → Array Value → Prop} {R : kg_R} {n : Nat} {K : Int32 → kg_M → Prop} (ho : kg_O1 R n 95) {Kx31 : kg_M → Prop} {Kx39 : kg_M → Prop} (hKx31 : ∀ (M : kg_M), Kx31 M → kg_Run G E qX1_isThere 0 31 [] [] M R n 0 0 (kg_Z R n K)) (hKx39 : ∀ (M : kg_M), Kx39 M → kg_Run G E qX1_isThere 0 39 [] [] M R n 0 0 (kg_Z R n K)) : ∀ (f : Nat) (v1 : Int32) (v2 : Int32) (v3 : Int32) (v4 : Int32) (M : kg_M), wL_X1_isThere_3  Kx31 Kx39 K f v1 v2 v3 v4 M → kg_Run G E qX1_isThere 0 3 [(0, .ref (kg_b G + 95)), (1, .int v1), (2, .int v2), (3, .int v3), (4, .int v4)] [] M R n 0 0 (kg_Z R n K) := by
  intro f
  induction f with
  | zero => intro v1 v2 v3 v4 M h0; exact h0.elim
  | succ f ih =>
    intro v1 v2 v3 v4 M h2
    rw [wL_X1_isThere_3] at h2
    refine kr_iload 4 dX1_isThere_3 rfl (k := ?_)
    refine kr_sipush (128 : Int32) dX1_isThere_5 (k := ?_)
    refine kr_icmp_ge 39 dX1_isThere_8 (fun c3 => ?_) (fun c3 => ?_)
    · have h4 := h2.1 c3
      refine kr_sub [] [] rfl ?_
      exact hKx39  M h4
    · have h5 := h2.2 c3
      refine kr_aload_n 0 dX1_isThere_11 rfl (k := ?_)
      refine kr_getR 0 ckX1 lkF_X1_11 rfl (kg_o1a ho) (kg_o1n ho) (kg_o1r0 ho) dX1_isThere_12 (k := ?_)
      refine kr_iload 4 dX1_isThere_15 rfl (k := ?_)
      obtain ⟨h6, h7⟩ := h5
      refine kr_iald (kg_o1s0 ho) (kg_o1m0 ho) h6 dX1_isThere_17 (k := ?_)
      refine kr_iload_n 1 dX1_isThere_18 rfl (k := ?_)
      refine kr_icmp_ne 33 dX1_isThere_19 (fun c8 => ?_) (fun c8 => ?_)
      · have h9 := h7.1 c8
        refine kr_iinc (1 : Int32) 4 [(4, .int (v4 + (1 : Int32))), (0, .ref (kg_b G + 95)), (1, .int v1), (2, .int v2), (3, .int v3)] dX1_isThere_33 rfl (k := ?_)
        refine kr_goto 3 dX1_isThere_36 ?_
        refine kr_sub [1, 2, 3, 4, 0] [(0, .ref (kg_b G + 95)), (1, .int v1), (2, .int v2), (3, .int v3), (4, .int (v4 + (1 : Int32)))] rfl ?_
        exact ih v1 v2 v3 (v4 + (1 : Int32)) M h9
      · have h10 := h7.2 c8
        refine kr_iload 4 dX1_isThere_22 rfl (k := ?_)
        refine kr_iload_n 3 dX1_isThere_24 rfl (k := ?_)
        refine kr_ixor dX1_isThere_25 (k := ?_)
        refine kr_iload_n 2 dX1_isThere_26 rfl (k := ?_)
        refine kr_iand dX1_isThere_27 (k := ?_)
        refine kr_if_ne 33 dX1_isThere_28 (fun c11 => ?_) (fun c11 => ?_)
        · have h12 := h10.1 c11
          refine kr_iinc (1 : Int32) 4 [(4, .int (v4 + (1 : Int32))), (0, .ref (kg_b G + 95)), (1, .int v1), (2, .int v2), (3, .int v3)] dX1_isThere_33 rfl (k := ?_)
          refine kr_goto 3 dX1_isThere_36 ?_
          refine kr_sub [1, 2, 3, 4, 0] [(0, .ref (kg_b G + 95)), (1, .int v1), (2, .int v2), (3, .int v3), (4, .int (v4 + (1 : Int32)))] rfl ?_
          exact ih v1 v2 v3 (v4 + (1 : Int32)) M h12
        · have h13 := h10.2 c11
          refine kr_sub [] [] rfl ?_
          exact hKx31  M h13
set_option maxRecDepth 100000 in
set_option maxHeartbeats 4000000 in
theorem sp_X1_isThere {G : kg_G} {E : State → Array Value → Prop} {R : kg_R} {n : Nat} {K : Int32 → kg_M → Prop} (ho : kg_O1 R n 95) {v1 : Int32} {v2 : Int32} {v3 : Int32} {M : kg_M} (h1 : wp_X1_isThere v1 v2 v3 M K) : kg_Run G E qX1_isThere 0 0 [(0, .ref (kg_b G + 95)), (1, .int v1), (2, .int v2), (3, .int v3)] [] M R n 0 0 (kg_Z R n K) := by
  unfold wp_X1_isThere at h1
  refine kr_iconst (0 : Int32) dX1_isThere_0 (k := ?_)
  refine kr_istore [(4, .int (0 : Int32)), (0, .ref (kg_b G + 95)), (1, .int v1), (2, .int v2), (3, .int v3)] dX1_isThere_1 (k := ?_)
  refine kr_sub [1, 2, 3, 4, 0] [(0, .ref (kg_b G + 95)), (1, .int v1), (2, .int v2), (3, .int v3), (4, .int (0 : Int32))] rfl ?_
  obtain ⟨f16, h17⟩ := h1
  refine sL_X1_isThere_3 ho ?_ ?_ f16 v1 v2 v3 (0 : Int32) M h17
  · intro  M h14
    refine kr_iconst (1 : Int32) dX1_isThere_31 (k := ?_)
    exact kr_ireturn dX1_isThere_32 ⟨rfl, rfl, _, rfl, (by decide), h14⟩
  · intro  M h15
    refine kr_iconst (0 : Int32) dX1_isThere_39 (k := ?_)
    exact kr_ireturn dX1_isThere_40 ⟨rfl, rfl, _, rfl, (by decide), h15⟩
set_option maxRecDepth 100000 in
set_option maxHeartbeats 4000000 in
theorem sL_X1_fewestHours_74 {G : kg_G} {E : State → Array Value → Prop} {R : kg_R} {n : Nat} {o1 : Nat} {K : Int32 → kg_M → Prop} (ho : kg_O1 R n 95) (ho1 : kg_O0 R n o1) {Kx111 : Int32 → Int32 → Int32 → Int32 → kg_M → Prop} (hKx111 : ∀ (v3 : Int32) (v4 : Int32) (v5 : Int32) (v6 : Int32) (M : kg_M), Kx111 v3 v4 v5 v6 M → kg_Run G E qX1_fewestHours 12 111 [(0, .ref (kg_b G + 95)), (1, .ref (kg_b G + o1)), (3, .int v3), (4, .int v4), (5, .int v5), (6, .int v6)] [] M R n 0 0 (kg_I R n K)) : ∀ (f : Nat) (v3 : Int32) (v4 : Int32) (v5 : Int32) (v6 : Int32) (v7 : Int32) (M : kg_M), wL_X1_fewestHours_74 o1 Kx111 K f v3 v4 v5 v6 v7 M → kg_Run G E qX1_fewestHours 12 74 [(0, .ref (kg_b G + 95)), (1, .ref (kg_b G + o1)), (3, .int v3), (4, .int v4), (5, .int v5), (6, .int v6), (7, .int v7)] [] M R n 0 0 (kg_I R n K) := by
  intro f
  induction f with
  | zero => intro v3 v4 v5 v6 v7 M h0; exact h0.elim
  | succ f ih =>
    intro v3 v4 v5 v6 v7 M h35
    rw [wL_X1_fewestHours_74] at h35
    refine kr_iload 6 dX1_fewestHours_74 rfl (k := ?_)
    refine kr_sipush (128 : Int32) dX1_fewestHours_76 (k := ?_)
    refine kr_icmp_ge 111 dX1_fewestHours_79 (fun c36 => ?_) (fun c36 => ?_)
    · have h37 := h35.1 c36
      refine kr_sub [0, 1, 2, 3, 4, 5] [(0, .ref (kg_b G + 95)), (1, .ref (kg_b G + o1)), (3, .int v3), (4, .int v4), (5, .int v5), (6, .int v6)] rfl ?_
      exact hKx111 v3 v4 v5 v6 M h37
    · have h38 := h35.2 c36
      refine kr_aload_n 0 dX1_fewestHours_82 rfl (k := ?_)
      refine kr_getR 0 ckX1 lkF_X1_11 rfl (kg_o1a ho) (kg_o1n ho) (kg_o1r0 ho) dX1_fewestHours_83 (k := ?_)
      refine kr_iload 6 dX1_fewestHours_86 rfl (k := ?_)
      obtain ⟨h39, h40⟩ := h38
      refine kr_iald (kg_o1s0 ho) (kg_o1m0 ho) h39 dX1_fewestHours_88 (k := ?_)
      refine kr_iload 5 dX1_fewestHours_89 rfl (k := ?_)
      refine kr_icmp_ne 105 dX1_fewestHours_91 (fun c41 => ?_) (fun c41 => ?_)
      · have h42 := h40.1 c41
        refine kr_iinc (1 : Int32) 6 [(7, .int (v7 + (1 : Int32))), (0, .ref (kg_b G + 95)), (1, .ref (kg_b G + o1)), (3, .int v3), (4, .int v4), (5, .int v5), (6, .int v6)] dX1_fewestHours_105 rfl (k := ?_)
        refine kr_goto 74 dX1_fewestHours_108 ?_
        refine kr_sub [1, 2, 3, 4, 5, 6, 0] [(0, .ref (kg_b G + 95)), (1, .ref (kg_b G + o1)), (3, .int v3), (4, .int v4), (5, .int v5), (6, .int v6), (7, .int (v7 + (1 : Int32)))] rfl ?_
        exact ih v3 v4 v5 v6 (v7 + (1 : Int32)) M h42
      · have h43 := h40.2 c41
        refine kr_aload_n 0 dX1_fewestHours_94 rfl (k := ?_)
        refine kr_aload_n 1 dX1_fewestHours_95 rfl (k := ?_)
        refine kr_iload 6 dX1_fewestHours_96 rfl (k := ?_)
        refine kr_iload 6 dX1_fewestHours_98 rfl (k := ?_)
        refine kr_iconst (0 : Int32) dX1_fewestHours_100 (k := ?_)
        refine kr_iload_n 2 dX1_fewestHours_101 rfl (k := ?_)
        refine kn_callVv [.ref (kg_b G + o1), .int v7, .int v7, .int (0 : Int32), .int v3] [] mvX1_cross lkM_X1_29 (kg_o1a ho) rfl (kg_o1n ho) dX1_fewestHours_102 (sp_X1_cross ho ho1 h43) (fun M44 h45 => ?_)
        refine kr_iinc (1 : Int32) 6 [(7, .int (v7 + (1 : Int32))), (0, .ref (kg_b G + 95)), (1, .ref (kg_b G + o1)), (3, .int v3), (4, .int v4), (5, .int v5), (6, .int v6)] dX1_fewestHours_105 rfl (k := ?_)
        refine kr_goto 74 dX1_fewestHours_108 ?_
        refine kr_sub [1, 2, 3, 4, 5, 6, 0] [(0, .ref (kg_b G + 95)), (1, .ref (kg_b G + o1)), (3, .int v3), (4, .int v4), (5, .int v5), (6, .int v6), (7, .int (v7 + (1 : Int32)))] rfl ?_
        exact ih v3 v4 v5 v6 (v7 + (1 : Int32)) M44 h45
set_option maxRecDepth 100000 in
set_option maxHeartbeats 4000000 in
theorem sL_X1_fewestHours_36 {G : kg_G} {E : State → Array Value → Prop} {R : kg_R} {n : Nat} {o1 : Nat} {K : Int32 → kg_M → Prop} (ho : kg_O1 R n 95) (ho1 : kg_O0 R n o1) {Kx63 : Int32 → kg_M → Prop} {Kx117 : kg_M → Prop} (hKx63 : ∀ (v6 : Int32) (M : kg_M), Kx63 v6 M → kg_Run G E qX1_fewestHours 12 63 [(6, .int v6)] [] M R n 0 0 (kg_I R n K)) (hKx117 : ∀ (M : kg_M), Kx117 M → kg_Run G E qX1_fewestHours 12 117 [] [] M R n 0 0 (kg_I R n K)) : ∀ (f : Nat) (v3 : Int32) (v4 : Int32) (v5 : Int32) (v6 : Int32) (M : kg_M), wL_X1_fewestHours_36 o1 Kx63 Kx117 K f v3 v4 v5 v6 M → kg_Run G E qX1_fewestHours 12 36 [(0, .ref (kg_b G + 95)), (1, .ref (kg_b G + o1)), (3, .int v3), (4, .int v4), (5, .int v5), (6, .int v6)] [] M R n 0 0 (kg_I R n K) := by
  intro f
  induction f with
  | zero => intro v3 v4 v5 v6 M h0; exact h0.elim
  | succ f ih =>
    intro v3 v4 v5 v6 M h19
    rw [wL_X1_fewestHours_36] at h19
    refine kr_iload 5 dX1_fewestHours_36 rfl (k := ?_)
    refine kr_bipush (40 : Int32) dX1_fewestHours_38 (k := ?_)
    refine kr_icmp_gt 117 dX1_fewestHours_40 (fun c20 => ?_) (fun c20 => ?_)
    · have h21 := h19.1 c20
      refine kr_sub [] [] rfl ?_
      exact hKx117  M h21
    · have h22 := h19.2 c20
      refine kr_aload_n 0 dX1_fewestHours_43 rfl (k := ?_)
      refine kr_getI 1 ckX1 lkF_X1_21 rfl (kg_o1a ho) (kg_o1n ho) dX1_fewestHours_44 (k := ?_)
      refine kr_if_eq 117 dX1_fewestHours_47 (fun c23 => ?_) (fun c23 => ?_)
      · have h24 := h22.1 c23
        refine kr_sub [] [] rfl ?_
        exact hKx117  M h24
      · have h25 := h22.2 c23
        refine kr_aload_n 0 dX1_fewestHours_50 rfl (k := ?_)
        refine kr_iload 5 dX1_fewestHours_51 rfl (k := ?_)
        refine kr_iload 3 dX1_fewestHours_53 rfl (k := ?_)
        refine kr_iload 4 dX1_fewestHours_55 rfl (k := ?_)
        refine kn_callVz [.int v6, .int v4, .int v5] [] mvX1_isThere lkM_X1_25 (kg_o1a ho) rfl (kg_o1n ho) dX1_fewestHours_57 (sp_X1_isThere ho h25) (fun r28 M26 _ h27 => ?_)
        refine kr_if_eq 66 dX1_fewestHours_60 (fun c29 => ?_) (fun c29 => ?_)
        · have h30 := h27.1 c29
          refine kr_aload_n 0 dX1_fewestHours_66 rfl (k := ?_)
          refine kr_iconst (0 : Int32) dX1_fewestHours_67 (k := ?_)
          refine kn_putI 1 ckX1 lkF_X1_21 rfl rfl rfl rfl (kg_o1a ho) (kg_o1n ho) dX1_fewestHours_68 (fun M32 e33 => ?_)
          have h34 := h30 M32 e33
          refine kr_iconst (0 : Int32) dX1_fewestHours_71 (k := ?_)
          refine kr_istore [(7, .int (0 : Int32)), (0, .ref (kg_b G + 95)), (1, .ref (kg_b G + o1)), (3, .int v3), (4, .int v4), (5, .int v5), (6, .int v6)] dX1_fewestHours_72 (k := ?_)
          refine kr_sub [1, 2, 3, 4, 5, 6, 0] [(0, .ref (kg_b G + 95)), (1, .ref (kg_b G + o1)), (3, .int v3), (4, .int v4), (5, .int v5), (6, .int v6), (7, .int (0 : Int32))] rfl ?_
          obtain ⟨f48, h49⟩ := h34
          refine sL_X1_fewestHours_74 ho ho1 ?_ f48 v3 v4 v5 v6 (0 : Int32) M32 h49
          · intro v3 v4 v5 v6 M h47
            refine kr_iinc (1 : Int32) 5 [(6, .int (v6 + (1 : Int32))), (0, .ref (kg_b G + 95)), (1, .ref (kg_b G + o1)), (3, .int v3), (4, .int v4), (5, .int v5)] dX1_fewestHours_111 rfl (k := ?_)
            refine kr_goto 36 dX1_fewestHours_114 ?_
            refine kr_sub [1, 2, 3, 4, 5, 0] [(0, .ref (kg_b G + 95)), (1, .ref (kg_b G + o1)), (3, .int v3), (4, .int v4), (5, .int v5), (6, .int (v6 + (1 : Int32)))] rfl ?_
            exact ih v3 v4 v5 (v6 + (1 : Int32)) M h47
        · have h31 := h27.2 c29
          refine kr_sub [5] [(6, .int v6)] rfl ?_
          exact hKx63 v6 M26 h31
set_option maxRecDepth 100000 in
set_option maxHeartbeats 4000000 in
theorem sp_X1_fewestHours {G : kg_G} {E : State → Array Value → Prop} {R : kg_R} {n : Nat} {o1 : Nat} {K : Int32 → kg_M → Prop} (ho : kg_O1 R n 95) (ho1 : kg_O0 R n o1) {v2 : Int32} {v3 : Int32} {v4 : Int32} {v5 : Int32} {M : kg_M} (h1 : wp_X1_fewestHours o1 v2 v3 v4 v5 M K) : kg_Run G E qX1_fewestHours 12 0 [(0, .ref (kg_b G + 95)), (1, .ref (kg_b G + o1)), (2, .int v2), (3, .int v3), (4, .int v4), (5, .int v5)] [] M R n 0 0 (kg_I R n K) := by
  unfold wp_X1_fewestHours at h1
  refine kr_aload_n 0 dX1_fewestHours_0 rfl (k := ?_)
  refine kr_getR 0 ckX1 lkF_X1_11 rfl (kg_o1a ho) (kg_o1n ho) (kg_o1r0 ho) dX1_fewestHours_1 (k := ?_)
  refine kr_iconst (-1 : Int32) dX1_fewestHours_4 (k := ?_)
  refine kn_callSv [.ref (kg_b G + 96), .int (-1 : Int32)] [] msJ7_fill_53178 lkM_X1_15 dX1_fewestHours_5 (sp_J7_fill_53178 (kg_o1s0 ho) (kg_o1m0 ho) h1) (fun M2 h3 => ?_)
  refine kr_iload_n 2 dX1_fewestHours_8 rfl (k := ?_)
  refine kr_if_lt 19 dX1_fewestHours_9 (fun c5 => ?_) (fun c5 => ?_)
  · have h6 := h3.1 c5
    refine kr_iconst (-1 : Int32) dX1_fewestHours_19 (k := ?_)
    exact kr_ireturn dX1_fewestHours_20 ⟨rfl, rfl, _, rfl, h6⟩
  · have h7 := h3.2 c5
    refine kr_iload_n 2 dX1_fewestHours_12 rfl (k := ?_)
    refine kr_sipush (128 : Int32) dX1_fewestHours_13 (k := ?_)
    refine kr_icmp_lt 21 dX1_fewestHours_16 (fun c8 => ?_) (fun c8 => ?_)
    · have h9 := h7.1 c8
      refine kr_aload_n 0 dX1_fewestHours_21 rfl (k := ?_)
      refine kr_getR 0 ckX1 lkF_X1_11 rfl (kg_o1a ho) (kg_o1n ho) (kg_o1r0 ho) dX1_fewestHours_22 (k := ?_)
      refine kr_iload_n 2 dX1_fewestHours_25 rfl (k := ?_)
      refine kr_iconst (0 : Int32) dX1_fewestHours_26 (k := ?_)
      obtain ⟨h11, h12⟩ := h9
      refine kn_iast (kg_o1s0 ho) (kg_o1m0 ho) h11 dX1_fewestHours_27 (fun M13 e14 => ?_)
      have h15 := h12 M13 e14
      refine kr_aload_n 0 dX1_fewestHours_28 rfl (k := ?_)
      refine kr_iconst (1 : Int32) dX1_fewestHours_29 (k := ?_)
      refine kn_putI 1 ckX1 lkF_X1_21 rfl rfl rfl rfl (kg_o1a ho) (kg_o1n ho) dX1_fewestHours_30 (fun M16 e17 => ?_)
      have h18 := h15 M16 e17
      refine kr_iconst (0 : Int32) dX1_fewestHours_33 (k := ?_)
      refine kr_istore [(6, .int (0 : Int32)), (0, .ref (kg_b G + 95)), (1, .ref (kg_b G + o1)), (2, .int v2), (3, .int v3), (4, .int v4), (5, .int v5)] dX1_fewestHours_34 (k := ?_)
      refine kr_sub [1, 2, 4, 5, 6, 0] [(0, .ref (kg_b G + 95)), (1, .ref (kg_b G + o1)), (3, .int v3), (4, .int v4), (5, .int v5), (6, .int (0 : Int32))] rfl ?_
      obtain ⟨f52, h53⟩ := h18
      refine sL_X1_fewestHours_36 ho ho1 ?_ ?_ f52 v3 v4 v5 (0 : Int32) M16 h53
      · intro v6 M h50
        refine kr_iload 0 dX1_fewestHours_63 rfl (k := ?_)
        exact kr_ireturn dX1_fewestHours_65 ⟨rfl, rfl, _, rfl, h50⟩
      · intro  M h51
        refine kr_iconst (-1 : Int32) dX1_fewestHours_117 (k := ?_)
        exact kr_ireturn dX1_fewestHours_118 ⟨rfl, rfl, _, rfl, h51⟩
    · have h10 := h7.2 c8
      refine kr_iconst (-1 : Int32) dX1_fewestHours_19 (k := ?_)
      exact kr_ireturn dX1_fewestHours_20 ⟨rfl, rfl, _, rfl, h10⟩
set_option maxRecDepth 100000 in
set_option maxHeartbeats 4000000 in
theorem sp_X2_allows {G : kg_G} {E : State → Array Value → Prop} {R : kg_R} {n : Nat} {K : Int32 → kg_M → Prop} (ho : kg_O2 R n 89) {v1 : Int32} {M : kg_M} (h1 : wp_X2_allows v1 M K) : kg_Run G E qX2_allows 0 0 [(0, .ref (kg_b G + 89)), (1, .int v1)] [] M R n 0 0 (kg_Z R n K) := by
  unfold wp_X2_allows at h1
  refine kr_iload_n 1 dX2_allows_0 rfl (k := ?_)
  refine kr_aload_n 0 dX2_allows_1 rfl (k := ?_)
  refine kr_getI 1 ckX2 lkF_X2_22 rfl (kg_o2a ho) (kg_o2n ho) dX2_allows_2 (k := ?_)
  refine kr_iand dX2_allows_5 (k := ?_)
  refine kr_aload_n 0 dX2_allows_6 rfl (k := ?_)
  refine kr_getI 1 ckX2 lkF_X2_22 rfl (kg_o2a ho) (kg_o2n ho) dX2_allows_7 (k := ?_)
  refine kr_icmp_ne 26 dX2_allows_10 (fun c2 => ?_) (fun c2 => ?_)
  · have h3 := h1.1 c2
    refine kr_iconst (0 : Int32) dX2_allows_26 (k := ?_)
    exact kr_ireturn dX2_allows_27 ⟨rfl, rfl, _, rfl, (by decide), h3⟩
  · have h4 := h1.2 c2
    refine kr_iload_n 1 dX2_allows_13 rfl (k := ?_)
    refine kr_aload_n 0 dX2_allows_14 rfl (k := ?_)
    refine kr_getI 2 ckX2 lkF_X2_25 rfl (kg_o2a ho) (kg_o2n ho) dX2_allows_15 (k := ?_)
    refine kr_iand dX2_allows_18 (k := ?_)
    refine kr_if_ne 26 dX2_allows_19 (fun c5 => ?_) (fun c5 => ?_)
    · have h6 := h4.1 c5
      refine kr_iconst (0 : Int32) dX2_allows_26 (k := ?_)
      exact kr_ireturn dX2_allows_27 ⟨rfl, rfl, _, rfl, (by decide), h6⟩
    · have h7 := h4.2 c5
      refine kr_iconst (1 : Int32) dX2_allows_22 (k := ?_)
      refine kr_goto 27 dX2_allows_23 ?_
      exact kr_ireturn dX2_allows_27 ⟨rfl, rfl, _, rfl, (by decide), h7⟩
set_option maxRecDepth 100000 in
set_option maxHeartbeats 4000000 in
theorem sp_X2_enter {G : kg_G} {E : State → Array Value → Prop} {R : kg_R} {n : Nat} {K : Int32 → kg_M → Prop} (ho : kg_O2 R n 89) {v1 : Int32} {v2 : Int32} {M : kg_M} (h1 : wp_X2_enter v1 v2 M K) : kg_Run G E qX2_enter 0 0 [(0, .ref (kg_b G + 89)), (1, .int v1), (2, .int v2)] [] M R n 0 0 (kg_I R n K) := by
  unfold wp_X2_enter at h1
  refine kr_aload_n 0 dX2_enter_0 rfl (k := ?_)
  refine kr_getI 3 ckX2 lkF_X2_28 rfl (kg_o2a ho) (kg_o2n ho) dX2_enter_1 (k := ?_)
  refine kr_bipush (15 : Int32) dX2_enter_4 (k := ?_)
  refine kr_icmp_ge 39 dX2_enter_6 (fun c2 => ?_) (fun c2 => ?_)
  · have h3 := h1.1 c2
    refine kr_aload_n 0 dX2_enter_39 rfl (k := ?_)
    refine kr_getI 3 ckX2 lkF_X2_28 rfl (kg_o2a ho) (kg_o2n ho) dX2_enter_40 (k := ?_)
    exact kr_ireturn dX2_enter_43 ⟨rfl, rfl, _, rfl, h3⟩
  · have h4 := h1.2 c2
    refine kr_aload_n 0 dX2_enter_9 rfl (k := ?_)
    refine kr_getR 4 ckX2 lkF_X2_9 rfl (kg_o2a ho) (kg_o2n ho) (kg_o2r4 ho) dX2_enter_10 (k := ?_)
    refine kr_aload_n 0 dX2_enter_13 rfl (k := ?_)
    refine kr_getI 3 ckX2 lkF_X2_28 rfl (kg_o2a ho) (kg_o2n ho) dX2_enter_14 (k := ?_)
    refine kr_iload_n 1 dX2_enter_17 rfl (k := ?_)
    obtain ⟨h5, h6⟩ := h4
    refine kn_iast (kg_o2s4 ho) (kg_o2m4 ho) h5 dX2_enter_18 (fun M7 e8 => ?_)
    have h9 := h6 M7 e8
    refine kr_aload_n 0 dX2_enter_19 rfl (k := ?_)
    refine kr_getR 5 ckX2 lkF_X2_15 rfl (kg_o2a ho) (kg_o2n ho) (kg_o2r5 ho) dX2_enter_20 (k := ?_)
    refine kr_aload_n 0 dX2_enter_23 rfl (k := ?_)
    refine kr_getI 3 ckX2 lkF_X2_28 rfl (kg_o2a ho) (kg_o2n ho) dX2_enter_24 (k := ?_)
    refine kr_iload_n 2 dX2_enter_27 rfl (k := ?_)
    obtain ⟨h10, h11⟩ := h9
    refine kn_iast (kg_o2s5 ho) (kg_o2m5 ho) h10 dX2_enter_28 (fun M12 e13 => ?_)
    have h14 := h11 M12 e13
    refine kr_aload_n 0 dX2_enter_29 rfl (k := ?_)
    refine kr_dup dX2_enter_30 (k := ?_)
    refine kr_getI 3 ckX2 lkF_X2_28 rfl (kg_o2a ho) (kg_o2n ho) dX2_enter_31 (k := ?_)
    refine kr_iconst (1 : Int32) dX2_enter_34 (k := ?_)
    refine kr_iadd dX2_enter_35 (k := ?_)
    refine kn_putI 3 ckX2 lkF_X2_28 rfl rfl rfl rfl (kg_o2a ho) (kg_o2n ho) dX2_enter_36 (fun M15 e16 => ?_)
    have h17 := h14 M15 e16
    refine kr_aload_n 0 dX2_enter_39 rfl (k := ?_)
    refine kr_getI 3 ckX2 lkF_X2_28 rfl (kg_o2a ho) (kg_o2n ho) dX2_enter_40 (k := ?_)
    exact kr_ireturn dX2_enter_43 ⟨rfl, rfl, _, rfl, h17⟩
set_option maxRecDepth 100000 in
set_option maxHeartbeats 4000000 in
theorem sL_X2_firstWrong_2 {G : kg_G} {E : State → Array Value → Prop} {R : kg_R} {n : Nat} {K : Int32 → kg_M → Prop} (ho : kg_O2 R n 89) {Kx29 : Int32 → kg_M → Prop} {Kx37 : kg_M → Prop} (hKx29 : ∀ (v2 : Int32) (M : kg_M), Kx29 v2 M → kg_Run G E qX2_firstWrong 0 29 [(2, .int v2)] [] M R n 0 0 (kg_I R n K)) (hKx37 : ∀ (M : kg_M), Kx37 M → kg_Run G E qX2_firstWrong 0 37 [] [] M R n 0 0 (kg_I R n K)) : ∀ (f : Nat) (v1 : Int32) (v2 : Int32) (M : kg_M), wL_X2_firstWrong_2  Kx29 Kx37 K f v1 v2 M → kg_Run G E qX2_firstWrong 0 2 [(0, .ref (kg_b G + 89)), (1, .int v1), (2, .int v2)] [] M R n 0 0 (kg_I R n K) := by
  intro f
  induction f with
  | zero => intro v1 v2 M h0; exact h0.elim
  | succ f ih =>
    intro v1 v2 M h2
    rw [wL_X2_firstWrong_2] at h2
    refine kr_iload_n 2 dX2_firstWrong_2 rfl (k := ?_)
    refine kr_aload_n 0 dX2_firstWrong_3 rfl (k := ?_)
    refine kr_getI 3 ckX2 lkF_X2_28 rfl (kg_o2a ho) (kg_o2n ho) dX2_firstWrong_4 (k := ?_)
    refine kr_icmp_ge 37 dX2_firstWrong_7 (fun c3 => ?_) (fun c3 => ?_)
    · have h4 := h2.1 c3
      refine kr_sub [] [] rfl ?_
      exact hKx37  M h4
    · have h5 := h2.2 c3
      refine kr_iload_n 1 dX2_firstWrong_10 rfl (k := ?_)
      refine kr_aload_n 0 dX2_firstWrong_11 rfl (k := ?_)
      refine kr_getR 4 ckX2 lkF_X2_9 rfl (kg_o2a ho) (kg_o2n ho) (kg_o2r4 ho) dX2_firstWrong_12 (k := ?_)
      refine kr_iload_n 2 dX2_firstWrong_15 rfl (k := ?_)
      obtain ⟨h6, h7⟩ := h5
      refine kr_iald (kg_o2s4 ho) (kg_o2m4 ho) h6 dX2_firstWrong_16 (k := ?_)
      refine kr_ishr dX2_firstWrong_17 (k := ?_)
      refine kr_iconst (1 : Int32) dX2_firstWrong_18 (k := ?_)
      refine kr_iand dX2_firstWrong_19 (k := ?_)
      refine kr_aload_n 0 dX2_firstWrong_20 rfl (k := ?_)
      refine kr_getR 5 ckX2 lkF_X2_15 rfl (kg_o2a ho) (kg_o2n ho) (kg_o2r5 ho) dX2_firstWrong_21 (k := ?_)
      refine kr_iload_n 2 dX2_firstWrong_24 rfl (k := ?_)
      obtain ⟨h8, h9⟩ := h7
      refine kr_iald (kg_o2s5 ho) (kg_o2m5 ho) h8 dX2_firstWrong_25 (k := ?_)
      refine kr_icmp_eq 31 dX2_firstWrong_26 (fun c10 => ?_) (fun c10 => ?_)
      · have h11 := h9.1 c10
        refine kr_iinc (1 : Int32) 2 [(2, .int (v2 + (1 : Int32))), (0, .ref (kg_b G + 89)), (1, .int v1)] dX2_firstWrong_31 rfl (k := ?_)
        refine kr_goto 2 dX2_firstWrong_34 ?_
        refine kr_sub [1, 2, 0] [(0, .ref (kg_b G + 89)), (1, .int v1), (2, .int (v2 + (1 : Int32)))] rfl ?_
        exact ih v1 (v2 + (1 : Int32)) M h11
      · have h12 := h9.2 c10
        refine kr_sub [2] [(2, .int v2)] rfl ?_
        exact hKx29 v2 M h12
set_option maxRecDepth 100000 in
set_option maxHeartbeats 4000000 in
theorem sp_X2_firstWrong {G : kg_G} {E : State → Array Value → Prop} {R : kg_R} {n : Nat} {K : Int32 → kg_M → Prop} (ho : kg_O2 R n 89) {v1 : Int32} {M : kg_M} (h1 : wp_X2_firstWrong v1 M K) : kg_Run G E qX2_firstWrong 0 0 [(0, .ref (kg_b G + 89)), (1, .int v1)] [] M R n 0 0 (kg_I R n K) := by
  unfold wp_X2_firstWrong at h1
  refine kr_iconst (0 : Int32) dX2_firstWrong_0 (k := ?_)
  refine kr_istore_n [(2, .int (0 : Int32)), (0, .ref (kg_b G + 89)), (1, .int v1)] dX2_firstWrong_1 (k := ?_)
  refine kr_sub [1, 2, 0] [(0, .ref (kg_b G + 89)), (1, .int v1), (2, .int (0 : Int32))] rfl ?_
  obtain ⟨f15, h16⟩ := h1
  refine sL_X2_firstWrong_2 ho ?_ ?_ f15 v1 (0 : Int32) M h16
  · intro v2 M h13
    refine kr_iload_n 0 dX2_firstWrong_29 rfl (k := ?_)
    exact kr_ireturn dX2_firstWrong_30 ⟨rfl, rfl, _, rfl, h13⟩
  · intro  M h14
    refine kr_iconst (-1 : Int32) dX2_firstWrong_37 (k := ?_)
    exact kr_ireturn dX2_firstWrong_38 ⟨rfl, rfl, _, rfl, h14⟩
set_option maxRecDepth 100000 in
set_option maxHeartbeats 4000000 in
theorem sp_X2_forget {G : kg_G} {E : State → Array Value → Prop} {R : kg_R} {n : Nat} {K : kg_M → Prop} (ho : kg_O2 R n 89) {M : kg_M} (h1 : wp_X2_forget  M K) : kg_Run G E qX2_forget 0 0 [(0, .ref (kg_b G + 89))] [] M R n 0 0 (kg_V R n K) := by
  unfold wp_X2_forget at h1
  refine kr_aload_n 0 dX2_forget_0 rfl (k := ?_)
  refine kr_iconst (0 : Int32) dX2_forget_1 (k := ?_)
  refine kn_putI 0 ckX2 lkF_X2_18 rfl rfl rfl rfl (kg_o2a ho) (kg_o2n ho) dX2_forget_2 (fun M2 e3 => ?_)
  have h4 := h1 M2 e3
  refine kr_aload_n 0 dX2_forget_5 rfl (k := ?_)
  refine kr_iconst (0 : Int32) dX2_forget_6 (k := ?_)
  refine kn_putI 1 ckX2 lkF_X2_22 rfl rfl rfl rfl (kg_o2a ho) (kg_o2n ho) dX2_forget_7 (fun M5 e6 => ?_)
  have h7 := h4 M5 e6
  refine kr_aload_n 0 dX2_forget_10 rfl (k := ?_)
  refine kr_iconst (0 : Int32) dX2_forget_11 (k := ?_)
  refine kn_putI 2 ckX2 lkF_X2_25 rfl rfl rfl rfl (kg_o2a ho) (kg_o2n ho) dX2_forget_12 (fun M8 e9 => ?_)
  have h10 := h7 M8 e9
  refine kr_aload_n 0 dX2_forget_15 rfl (k := ?_)
  refine kr_iconst (0 : Int32) dX2_forget_16 (k := ?_)
  refine kn_putI 3 ckX2 lkF_X2_28 rfl rfl rfl rfl (kg_o2a ho) (kg_o2n ho) dX2_forget_17 (fun M11 e12 => ?_)
  have h13 := h10 M11 e12
  exact kr_return dX2_forget_20 ⟨rfl, rfl, rfl, h13⟩
set_option maxRecDepth 100000 in
set_option maxHeartbeats 4000000 in
theorem sJ_X2_learn_31 {G : kg_G} {E : State → Array Value → Prop} {R : kg_R} {n : Nat} {K : Int32 → kg_M → Prop} (ho : kg_O2 R n 89) (M : kg_M) (h8 : wJ_X2_learn_31  K M) : kg_Run G E qX2_learn 0 31 [(0, .ref (kg_b G + 89))] [] M R n 0 0 (kg_I R n K) := by
  unfold wJ_X2_learn_31 at h8
  refine kr_aload_n 0 dX2_learn_31 rfl (k := ?_)
  refine kr_dup dX2_learn_32 (k := ?_)
  refine kr_getI 0 ckX2 lkF_X2_18 rfl (kg_o2a ho) (kg_o2n ho) dX2_learn_33 (k := ?_)
  refine kr_iconst (1 : Int32) dX2_learn_36 (k := ?_)
  refine kr_iadd dX2_learn_37 (k := ?_)
  refine kn_putI 0 ckX2 lkF_X2_18 rfl rfl rfl rfl (kg_o2a ho) (kg_o2n ho) dX2_learn_38 (fun M9 e10 => ?_)
  have h11 := h8 M9 e10
  refine kr_aload_n 0 dX2_learn_41 rfl (k := ?_)
  refine kr_getI 0 ckX2 lkF_X2_18 rfl (kg_o2a ho) (kg_o2n ho) dX2_learn_42 (k := ?_)
  exact kr_ireturn dX2_learn_45 ⟨rfl, rfl, _, rfl, h11⟩
set_option maxRecDepth 100000 in
set_option maxHeartbeats 4000000 in
theorem sp_X2_learn {G : kg_G} {E : State → Array Value → Prop} {R : kg_R} {n : Nat} {K : Int32 → kg_M → Prop} (ho : kg_O2 R n 89) {v1 : Int32} {v2 : Int32} {M : kg_M} (h1 : wp_X2_learn v1 v2 M K) : kg_Run G E qX2_learn 0 0 [(0, .ref (kg_b G + 89)), (1, .int v1), (2, .int v2)] [] M R n 0 0 (kg_I R n K) := by
  unfold wp_X2_learn at h1
  refine kr_iload_n 2 dX2_learn_0 rfl (k := ?_)
  refine kr_if_eq 19 dX2_learn_1 (fun c2 => ?_) (fun c2 => ?_)
  · have h3 := h1.1 c2
    refine kr_aload_n 0 dX2_learn_19 rfl (k := ?_)
    refine kr_dup dX2_learn_20 (k := ?_)
    refine kr_getI 2 ckX2 lkF_X2_25 rfl (kg_o2a ho) (kg_o2n ho) dX2_learn_21 (k := ?_)
    refine kr_iconst (1 : Int32) dX2_learn_24 (k := ?_)
    refine kr_iload_n 1 dX2_learn_25 rfl (k := ?_)
    refine kr_ishl dX2_learn_26 (k := ?_)
    refine kr_ior dX2_learn_27 (k := ?_)
    refine kn_putI 2 ckX2 lkF_X2_25 rfl rfl rfl rfl (kg_o2a ho) (kg_o2n ho) dX2_learn_28 (fun M5 e6 => ?_)
    have h7 := h3 M5 e6
    refine kr_sub [0] [(0, .ref (kg_b G + 89))] rfl ?_
    exact sJ_X2_learn_31 ho  M5 h7
  · have h4 := h1.2 c2
    refine kr_aload_n 0 dX2_learn_4 rfl (k := ?_)
    refine kr_dup dX2_learn_5 (k := ?_)
    refine kr_getI 1 ckX2 lkF_X2_22 rfl (kg_o2a ho) (kg_o2n ho) dX2_learn_6 (k := ?_)
    refine kr_iconst (1 : Int32) dX2_learn_9 (k := ?_)
    refine kr_iload_n 1 dX2_learn_10 rfl (k := ?_)
    refine kr_ishl dX2_learn_11 (k := ?_)
    refine kr_ior dX2_learn_12 (k := ?_)
    refine kn_putI 1 ckX2 lkF_X2_22 rfl rfl rfl rfl (kg_o2a ho) (kg_o2n ho) dX2_learn_13 (fun M12 e13 => ?_)
    have h14 := h4 M12 e13
    refine kr_goto 31 dX2_learn_16 ?_
    refine kr_sub [0] [(0, .ref (kg_b G + 89))] rfl ?_
    exact sJ_X2_learn_31 ho  M12 h14
set_option maxRecDepth 100000 in
set_option maxHeartbeats 4000000 in
theorem sJ_X3_takeIfBetter_24 {G : kg_G} {E : State → Array Value → Prop} {R : kg_R} {n : Nat} {K : kg_M → Prop} (ho : kg_O3 R n 92) (hn : ¬ n < kg_all) (v1 : Int32) (v2 : Int32) (M : kg_M) (h5 : wJ_X3_takeIfBetter_24  K v1 v2 M) : kg_Run G E qX3_takeIfBetter 0 24 [(0, .ref (kg_b G + 92)), (1, .int v1), (2, .int v2)] [] M R n 0 0 (kg_V R n K) := by
  unfold wJ_X3_takeIfBetter_24 at h5
  refine kr_aload_n 0 dX3_takeIfBetter_24 rfl (k := ?_)
  refine kr_iload_n 1 dX3_takeIfBetter_25 rfl (k := ?_)
  refine kn_putI 2 ckX3 lkF_X3_25 rfl rfl rfl rfl (kg_o3a ho) (kg_o3n ho) dX3_takeIfBetter_26 (fun M6 e7 => ?_)
  have h8 := h5 M6 e7
  refine kr_aload_n 0 dX3_takeIfBetter_29 rfl (k := ?_)
  refine kr_iload_n 2 dX3_takeIfBetter_30 rfl (k := ?_)
  refine kn_putI 3 ckX3 lkF_X3_28 rfl rfl rfl rfl (kg_o3a ho) (kg_o3n ho) dX3_takeIfBetter_31 (fun M9 e10 => ?_)
  have h11 := h8 M9 e10
  refine kr_aload_n 0 dX3_takeIfBetter_34 rfl (k := ?_)
  refine kr_getR 1 ckX3 lkF_X3_15 rfl (kg_o3a ho) (kg_o3n ho) (kg_o3r1 ho) dX3_takeIfBetter_35 (k := ?_)
  refine kr_iconst (0 : Int32) dX3_takeIfBetter_38 (k := ?_)
  refine kr_aload_n 0 dX3_takeIfBetter_39 rfl (k := ?_)
  refine kr_getR 0 ckX3 lkF_X3_9 rfl (kg_o3a ho) (kg_o3n ho) (kg_o3r0 ho) dX3_takeIfBetter_40 (k := ?_)
  refine kr_iconst (0 : Int32) dX3_takeIfBetter_43 (k := ?_)
  refine kr_bipush (7 : Int32) dX3_takeIfBetter_44 (k := ?_)
  refine kn_copy hn lkM_X3_57 (kg_o3s1 ho) (kg_o3s0 ho) (kg_o3m1 ho) (kg_o3m0 ho) (by decide) (by decide) (by decide) (by decide) (by decide) (Nat.le_of_ble_eq_true rfl) dX3_takeIfBetter_46 (fun M12 e13 => ?_)
  have h14 := h11 M12 e13
  exact kr_return dX3_takeIfBetter_49 ⟨rfl, rfl, rfl, h14⟩
set_option maxRecDepth 100000 in
set_option maxHeartbeats 4000000 in
theorem sp_X3_takeIfBetter {G : kg_G} {E : State → Array Value → Prop} {R : kg_R} {n : Nat} {K : kg_M → Prop} (ho : kg_O3 R n 92) (hn : ¬ n < kg_all) {v1 : Int32} {v2 : Int32} {M : kg_M} (h1 : wp_X3_takeIfBetter v1 v2 M K) : kg_Run G E qX3_takeIfBetter 0 0 [(0, .ref (kg_b G + 92)), (1, .int v1), (2, .int v2)] [] M R n 0 0 (kg_V R n K) := by
  unfold wp_X3_takeIfBetter at h1
  refine kr_iload_n 1 dX3_takeIfBetter_0 rfl (k := ?_)
  refine kr_aload_n 0 dX3_takeIfBetter_1 rfl (k := ?_)
  refine kr_getI 2 ckX3 lkF_X3_25 rfl (kg_o3a ho) (kg_o3n ho) dX3_takeIfBetter_2 (k := ?_)
  refine kr_icmp_gt 24 dX3_takeIfBetter_5 (fun c2 => ?_) (fun c2 => ?_)
  · have h3 := h1.1 c2
    refine kr_sub [0, 1, 2] [(0, .ref (kg_b G + 92)), (1, .int v1), (2, .int v2)] rfl ?_
    exact sJ_X3_takeIfBetter_24 ho hn v1 v2 M h3
  · have h4 := h1.2 c2
    refine kr_iload_n 1 dX3_takeIfBetter_8 rfl (k := ?_)
    refine kr_aload_n 0 dX3_takeIfBetter_9 rfl (k := ?_)
    refine kr_getI 2 ckX3 lkF_X3_25 rfl (kg_o3a ho) (kg_o3n ho) dX3_takeIfBetter_10 (k := ?_)
    refine kr_icmp_ne 49 dX3_takeIfBetter_13 (fun c15 => ?_) (fun c15 => ?_)
    · have h16 := h4.1 c15
      exact kr_return dX3_takeIfBetter_49 ⟨rfl, rfl, rfl, h16⟩
    · have h17 := h4.2 c15
      refine kr_iload_n 2 dX3_takeIfBetter_16 rfl (k := ?_)
      refine kr_aload_n 0 dX3_takeIfBetter_17 rfl (k := ?_)
      refine kr_getI 3 ckX3 lkF_X3_28 rfl (kg_o3a ho) (kg_o3n ho) dX3_takeIfBetter_18 (k := ?_)
      refine kr_icmp_le 49 dX3_takeIfBetter_21 (fun c18 => ?_) (fun c18 => ?_)
      · have h19 := h17.1 c18
        exact kr_return dX3_takeIfBetter_49 ⟨rfl, rfl, rfl, h19⟩
      · have h20 := h17.2 c18
        refine kr_sub [0, 1, 2] [(0, .ref (kg_b G + 92)), (1, .int v1), (2, .int v2)] rfl ?_
        exact sJ_X3_takeIfBetter_24 ho hn v1 v2 M h20
