/-! ===== the reference's constructor ===== -/
theorem Zr_p {a c j : Nat} {x : Int32} {M0 M M' : kg_M} (h : Zr a c M0 M) (e : M' = kg_row M a (upd (M a) j x)) : Zr a c (kg_row M0 a (upd (M0 a) j x)) M' := by
  refine ⟨fun k hk => ?_, fun k h1 h2 i => by rw [e, kg_row_ne _ _ (by omega)]; exact h.2 k h1 h2 i⟩
  by_cases hk2 : k = a
  · rw [e, hk2, kg_row_eq, kg_row_eq, h.1 a (Nat.le_refl _)]
  · rw [e, kg_row_ne _ _ hk2, kg_row_ne _ _ hk2]; exact h.1 k hk
def pcn (i : Nat) : Nat := ct (fun j => decide (j / 7 < j % 7)) i
theorem pc_49 : pcn 49 = 21 := by decide +kernel
theorem pc_tab : ∀ i, i < 49 → (i / 7 < i % 7 → pcn i < 21 ∧ pO (pcn i) = i / 7 ∧ pT (pcn i) = i % 7) := by decide +kernel
theorem pc_t {i : Nat} (h : i / 7 < i % 7) : pcn (i + 1) = pcn i + 1 := by unfold pcn; rw [ct, if_pos (decide_eq_true h)]
theorem pc_f {i : Nat} (h : ¬ i / 7 < i % 7) : pcn (i + 1) = pcn i := by unfold pcn; rw [ct, if_neg (by rw [decide_eq_false h]; decide), Nat.add_zero]
def IA (i : Nat) (M0 M : kg_M) : Prop := (∀ k, k ≠ 121 → k ≠ 122 → M k = M0 k) ∧ ∀ j, j < pcn i → M 121 j = nI (pO j) ∧ M 122 j = nI (pT j)
set_option maxRecDepth 100000 in
set_option maxHeartbeats 4000000 in
theorem si_X8a {G : kg_G} {E : State → Array Value → Prop} {R : kg_R} {M0 : kg_M} {Post : kg_Post} (hk : kg_O8 R 142 117) : ∀ d i (M : kg_M), i + d = 49 → IA i M0 M → (∀ (M' : kg_M), IA 49 M0 M' → ∀ x : Int32, kg_Run G E qX8_init 0 253 [(2, .int (nI 49)), (1, .int x), (0, .ref (kg_b G + 117))] [] M' R 142 0 0 Post) → kg_Run G E qX8_init 0 207 [(2, .int (nI i)), (1, .int (nI (pcn i))), (0, .ref (kg_b G + 117))] [] M R 142 0 0 Post := by
  intro d
  induction d with
  | zero =>
    intro i M hi h hK
    have ei : i = 49 := by omega
    subst ei
    refine kr_iload_n 0 dX8_init_207 rfl (k := ?_)
    refine kr_bipush (49 : Int32) dX8_init_208 (k := ?_)
    exact kr_icmp_ge 253 dX8_init_210 (fun _ => hK M h _) (fun c => absurd (nI_le (a := 49) (b := 49) (Nat.le_refl _) (by decide)) c)
  | succ d ih =>
    intro i M hi h hK
    have hdv : nI i / (7 : Int32) = nI (i / 7) := pk_div (a := i) (d := 7) (by omega) (by decide) (by decide)
    have hrm : nI i - nI i / (7 : Int32) * (7 : Int32) = nI (i % 7) := pk_rem (a := i) (d := 7) (by omega) (by decide) (by decide)
    refine kr_iload_n 0 dX8_init_207 rfl (k := ?_)
    refine kr_bipush (49 : Int32) dX8_init_208 (k := ?_)
    refine kr_icmp_ge 253 dX8_init_210 (fun c => absurd c (nI_ge (b := 49) (by omega) (by decide))) (fun _ => ?_)
    refine kr_iload_n 0 dX8_init_213 rfl (k := ?_)
    refine kr_bipush (7 : Int32) dX8_init_214 (k := ?_)
    refine kr_idiv dX8_init_216 (by decide) (k := ?_)
    refine kr_iload_n 0 dX8_init_217 rfl (k := ?_)
    refine kr_bipush (7 : Int32) dX8_init_218 (k := ?_)
    refine kr_irem dX8_init_220 (by decide) (k := ?_)
    rw [hrm, hdv]
    refine kr_icmp_ge 247 dX8_init_221 (fun c => ?_) (fun c => ?_)
    · have hc : ¬ i / 7 < i % 7 := fun h => nI_ge h (by omega) c
      refine kr_iinc (1 : Int32) 0 [(2, .int (nI i + 1)), (1, .int (nI (pcn i))), (0, .ref (kg_b G + 117))] dX8_init_247 rfl (k := ?_)
      refine kr_goto 207 dX8_init_250 ?_
      rw [nI_1, ← pc_f hc]
      exact ih (i + 1) M (by omega) ⟨h.1, by rw [pc_f hc]; exact h.2⟩ hK
    · have hc : i / 7 < i % 7 := by
        rcases Nat.lt_or_ge (i / 7) (i % 7) with q | q
        · exact q
        · exact absurd (nI_le q (by omega)) c
      obtain ⟨t1, t2, t3⟩ := pc_tab i (by omega) hc
      refine kr_aload_n 2 dX8_init_224 rfl (k := ?_)
      refine kr_getR 6 ckX8 lkF_X8_19 rfl (kg_o8a hk) (kg_o8n hk) (kg_o8r6 hk) dX8_init_225 (k := ?_)
      refine kr_iload_n 1 dX8_init_228 rfl (k := ?_)
      refine kr_iload_n 0 dX8_init_229 rfl (k := ?_)
      refine kr_bipush (7 : Int32) dX8_init_230 (k := ?_)
      refine kr_idiv dX8_init_232 (by decide) (k := ?_)
      rw [hdv]
      refine kn_iast (kg_o8s6 hk) (kg_o8m6 hk) (in_nI t1 (by decide)) dX8_init_233 (fun M1 e1 => ?_)
      refine kr_aload_n 2 dX8_init_234 rfl (k := ?_)
      refine kr_getR 7 ckX8 lkF_X8_22 rfl (kg_o8a hk) (kg_o8n hk) (kg_o8r7 hk) dX8_init_235 (k := ?_)
      refine kr_iload_n 1 dX8_init_238 rfl (k := ?_)
      refine kr_iload_n 0 dX8_init_239 rfl (k := ?_)
      refine kr_bipush (7 : Int32) dX8_init_240 (k := ?_)
      refine kr_irem dX8_init_242 (by decide) (k := ?_)
      rw [hrm]
      refine kn_iast (kg_o8s7 hk) (kg_o8m7 hk) (in_nI t1 (by decide)) dX8_init_243 (fun M2 e2 => ?_)
      refine kr_iinc (1 : Int32) 1 [(1, .int (nI (pcn i) + 1)), (2, .int (nI i)), (0, .ref (kg_b G + 117))] dX8_init_244 rfl (k := ?_)
      refine kr_iinc (1 : Int32) 1 [(2, .int (nI i + 1)), (1, .int (nI (pcn i) + 1)), (0, .ref (kg_b G + 117))] dX8_init_247 rfl (k := ?_)
      refine kr_goto 207 dX8_init_250 ?_
      rw [nI_1, nI_1, ← pc_t hc]
      rw [cl_nI (by omega)] at e1 e2
      refine ih (i + 1) M2 (by omega) ⟨fun k a b => by rw [e2, kg_row_ne _ _ b, e1, kg_row_ne _ _ a]; exact h.1 k a b, fun j hj => ?_⟩ hK
      rw [pc_t hc] at hj
      have a1 : M2 121 = upd (M 121) (pcn i) (nI (i / 7)) := by rw [e2, kg_row_ne _ _ (by decide), e1, kg_row_eq]
      have a2 : M2 122 = upd (M 122) (pcn i) (nI (i % 7)) := by rw [e2, kg_row_eq, e1, kg_row_ne _ _ (by decide)]
      rw [a1, a2]
      by_cases e : j = pcn i
      · rw [e, upd_eq, upd_eq, t2, t3]; exact ⟨rfl, rfl⟩
      · rw [upd_ne e, upd_ne e]; exact h.2 j (by omega)
def IB (i : Nat) (M0 M : kg_M) : Prop := (∀ k, k ≠ 120 → M k = M0 k) ∧ (∀ j, j < i → M 120 (7 + j) = -1) ∧ ∀ j, ¬ (7 ≤ j ∧ j < 7 + i) → M 120 j = M0 120 j
set_option maxRecDepth 100000 in
set_option maxHeartbeats 4000000 in
theorem si_X8b {G : kg_G} {E : State → Array Value → Prop} {R : kg_R} {M0 : kg_M} {Post : kg_Post} {x : Int32} (hk : kg_O8 R 142 117) : ∀ d i (M : kg_M), i + d = 7 → IB i M0 M → (∀ (M' : kg_M), IB 7 M0 M' → Post none M' R 142) → kg_Run G E qX8_init 0 255 [(2, .int (nI i)), (1, .int x), (0, .ref (kg_b G + 117))] [] M R 142 0 0 Post := by
  intro d
  induction d with
  | zero =>
    intro i M hi h hK
    have ei : i = 7 := by omega
    subst ei
    refine kr_iload_n 0 dX8_init_255 rfl (k := ?_)
    refine kr_bipush (7 : Int32) dX8_init_256 (k := ?_)
    exact kr_icmp_ge 277 dX8_init_258 (fun _ => kr_return dX8_init_277 (hK M h)) (fun c => absurd (nI_le (a := 7) (b := 7) (Nat.le_refl _) (by decide)) c)
  | succ d ih =>
    intro i M hi h hK
    refine kr_iload_n 0 dX8_init_255 rfl (k := ?_)
    refine kr_bipush (7 : Int32) dX8_init_256 (k := ?_)
    refine kr_icmp_ge 277 dX8_init_258 (fun c => absurd c (nI_ge (b := 7) (by omega) (by decide))) (fun _ => ?_)
    refine kr_aload_n 2 dX8_init_261 rfl (k := ?_)
    refine kr_getR 4 ckX8 lkF_X8_16 rfl (kg_o8a hk) (kg_o8n hk) (kg_o8r4 hk) dX8_init_262 (k := ?_)
    refine kr_bipush (7 : Int32) dX8_init_265 (k := ?_)
    refine kr_iload_n 0 dX8_init_267 rfl (k := ?_)
    refine kr_iadd dX8_init_268 (k := ?_)
    refine kr_iconst (-1 : Int32) dX8_init_269 (k := ?_)
    refine kn_iast (kg_o8s4 hk) (kg_o8m4 hk) (in_add (a := 7) (by omega) (by decide)) dX8_init_270 (fun M1 e1 => ?_)
    refine kr_iinc (1 : Int32) 0 [(2, .int (nI i + 1)), (1, .int x), (0, .ref (kg_b G + 117))] dX8_init_271 rfl (k := ?_)
    refine kr_goto 255 dX8_init_274 ?_
    rw [nI_1]
    rw [show (7 : Int32) = nI 7 from rfl, cl_add (by omega)] at e1
    refine ih (i + 1) M1 (by omega) ⟨fun k a => by rw [e1, kg_row_ne _ _ a]; exact h.1 k a, fun j hj => ?_, fun j hj => ?_⟩ hK
    · rw [e1, kg_row_eq]
      by_cases e : j = i
      · rw [e, upd_eq]
      · rw [upd_ne (by omega)]; exact h.2.1 j (by omega)
    · rw [e1, kg_row_eq, upd_ne (by omega)]; exact h.2.2 j (by omega)
set_option maxRecDepth 100000 in
set_option maxHeartbeats 4000000 in
theorem si_X8 {G : kg_G} {E : State → Array Value → Prop} {R : kg_R} {M : kg_M} (z : ∀ j, M 117 j = 0) : kg_Run G E qX8_init 0 0 [(0, .ref (kg_b G + 117))] [] M R 118 24 23284 (kg_N 117 142 M R (fun M' R' => kg_O8 R' 142 117 ∧ MI M' sig0)) := by
  refine kg_Run.cost (kc := 0 + 1 + 1 + 1 + 1 + 1 + 1 + 1 + 1 + 1 + 1 + 1 + 1 + 1 + 1 + 1 + 1 + 1 + 1 + 1 + 1 + 1 + 1 + 1 + 1) (ks := 0 + 2 + 112 + 15 + 15 + 6 + 6 + 128 + 128 + 10648 + 10648 + 7 + 7 + 3 + 1100 + 49 + 7 + 7 + 5 + 240 + 21 + 21 + 55 + 49 + 5) ?_ (by decide) (by decide)
  have z0 : Zr 117 118 M M := Zr_0 (Nat.le_refl _)
  have q0 : Zq 117 (R 117) R R := ⟨fun _ _ => rfl, rfl⟩
  refine kr_aload_n 0 dX8_init_0 rfl (k := ?_)
  refine kr_objInit lkM_X8_1 (Nat.le_of_ble_eq_true rfl) dX8_init_1 (k := ?_)
  refine kr_aload_n 0 dX8_init_4 rfl (k := ?_)
  refine kr_iconst (5 : Int32) dX8_init_5 (k := ?_)
  refine kn_newi 5 sh_118 (by decide) (by decide) (by decide) (by decide) dX8_init_6 (fun M1 R1 em1 er1 => ?_)
  have z1 := Zr_s z0 (by decide) em1
  have q1n := Zq_n q0 (by decide) er1
  refine kn_putR 1 ckX8 lkF_X8_7 rfl (Or.inr ⟨rfl, rfl, rfl⟩) (fun _ => rfl) (fun _ => rfl) sh_117 (by decide) dX8_init_8 (fun S1 es1 => ?_)
  have q1 := Zq_p q1n es1
  refine kr_aload_n 0 dX8_init_11 rfl (k := ?_)
  refine kr_bipush (49 : Int32) dX8_init_12 (k := ?_)
  refine kn_newi 49 sh_119 (by decide) (by decide) (by decide) (by decide) dX8_init_14 (fun M2 R2 em2 er2 => ?_)
  have z2 := Zr_s z1 (by decide) em2
  have q2n := Zq_n q1 (by decide) er2
  refine kn_putR 3 ckX8 lkF_X8_13 rfl (Or.inr ⟨rfl, rfl, rfl⟩) (fun _ => rfl) (fun _ => rfl) sh_117 (by decide) dX8_init_16 (fun S2 es2 => ?_)
  have q2 := Zq_p q2n es2
  refine kr_aload_n 0 dX8_init_19 rfl (k := ?_)
  refine kr_bipush (55 : Int32) dX8_init_20 (k := ?_)
  refine kn_newi 55 sh_120 (by decide) (by decide) (by decide) (by decide) dX8_init_22 (fun M3 R3 em3 er3 => ?_)
  have z3 := Zr_s z2 (by decide) em3
  have q3n := Zq_n q2 (by decide) er3
  refine kn_putR 4 ckX8 lkF_X8_16 rfl (Or.inr ⟨rfl, rfl, rfl⟩) (fun _ => rfl) (fun _ => rfl) sh_117 (by decide) dX8_init_24 (fun S3 es3 => ?_)
  have q3 := Zq_p q3n es3
  refine kr_aload_n 0 dX8_init_27 rfl (k := ?_)
  refine kr_bipush (21 : Int32) dX8_init_28 (k := ?_)
  refine kn_newi 21 sh_121 (by decide) (by decide) (by decide) (by decide) dX8_init_30 (fun M4 R4 em4 er4 => ?_)
  have z4 := Zr_s z3 (by decide) em4
  have q4n := Zq_n q3 (by decide) er4
  refine kn_putR 6 ckX8 lkF_X8_19 rfl (Or.inr ⟨rfl, rfl, rfl⟩) (fun _ => rfl) (fun _ => rfl) sh_117 (by decide) dX8_init_32 (fun S4 es4 => ?_)
  have q4 := Zq_p q4n es4
  refine kr_aload_n 0 dX8_init_35 rfl (k := ?_)
  refine kr_bipush (21 : Int32) dX8_init_36 (k := ?_)
  refine kn_newi 21 sh_122 (by decide) (by decide) (by decide) (by decide) dX8_init_38 (fun M5 R5 em5 er5 => ?_)
  have z5 := Zr_s z4 (by decide) em5
  have q5n := Zq_n q4 (by decide) er5
  refine kn_putR 7 ckX8 lkF_X8_22 rfl (Or.inr ⟨rfl, rfl, rfl⟩) (fun _ => rfl) (fun _ => rfl) sh_117 (by decide) dX8_init_40 (fun S5 es5 => ?_)
  have q5 := Zq_p q5n es5
  refine kr_aload_n 0 dX8_init_43 rfl (k := ?_)
  refine kr_sipush (240 : Int32) dX8_init_44 (k := ?_)
  refine kn_newi 240 sh_123 (by decide) (by decide) (by decide) (by decide) dX8_init_47 (fun M6 R6 em6 er6 => ?_)
  have z6 := Zr_s z5 (by decide) em6
  have q6n := Zq_n q5 (by decide) er6
  refine kn_putR 8 ckX8 lkF_X8_25 rfl (Or.inr ⟨rfl, rfl, rfl⟩) (fun _ => rfl) (fun _ => rfl) sh_117 (by decide) dX8_init_49 (fun S6 es6 => ?_)
  have q6 := Zq_p q6n es6
  refine kr_aload_n 0 dX8_init_52 rfl (k := ?_)
  refine kr_iconst (-1 : Int32) dX8_init_53 (k := ?_)
  refine kn_putI 10 ckX8 lkF_X8_28 rfl rfl rfl rfl sh_117 (by decide) dX8_init_54 (fun Mp ep => ?_)
  have z7 := Zr_p z6 ep
  refine kr_aload_n 0 dX8_init_57 rfl (k := ?_)
  refine kr_iconst (5 : Int32) dX8_init_58 (k := ?_)
  refine kn_newi 5 sh_124 (by decide) (by decide) (by decide) (by decide) dX8_init_59 (fun M7 R7 em7 er7 => ?_)
  have z8 := Zr_s z7 (by decide) em7
  have q7n := Zq_n q6 (by decide) er7
  refine kn_putR 15 ckX8 lkF_X8_32 rfl (Or.inr ⟨rfl, rfl, rfl⟩) (fun _ => rfl) (fun _ => rfl) sh_117 (by decide) dX8_init_61 (fun S7 es7 => ?_)
  have q7 := Zq_p q7n es7
  refine kr_aload_n 0 dX8_init_64 rfl (k := ?_)
  refine kr_bipush (7 : Int32) dX8_init_65 (k := ?_)
  refine kn_newi 7 sh_125 (by decide) (by decide) (by decide) (by decide) dX8_init_67 (fun M8 R8 em8 er8 => ?_)
  have z9 := Zr_s z8 (by decide) em8
  have q8n := Zq_n q7 (by decide) er8
  refine kn_putR 17 ckX8 lkF_X8_35 rfl (Or.inr ⟨rfl, rfl, rfl⟩) (fun _ => rfl) (fun _ => rfl) sh_117 (by decide) dX8_init_69 (fun S8 es8 => ?_)
  have q8 := Zq_p q8n es8
  refine kr_aload_n 0 dX8_init_72 rfl (k := ?_)
  refine kr_bipush (7 : Int32) dX8_init_73 (k := ?_)
  refine kn_newi 7 sh_126 (by decide) (by decide) (by decide) (by decide) dX8_init_75 (fun M9 R9 em9 er9 => ?_)
  have z10 := Zr_s z9 (by decide) em9
  have q9n := Zq_n q8 (by decide) er9
  refine kn_putR 18 ckX8 lkF_X8_38 rfl (Or.inr ⟨rfl, rfl, rfl⟩) (fun _ => rfl) (fun _ => rfl) sh_117 (by decide) dX8_init_77 (fun S9 es9 => ?_)
  have q9 := Zq_p q9n es9
  refine kr_aload_n 0 dX8_init_80 rfl (k := ?_)
  refine kr_bipush (49 : Int32) dX8_init_81 (k := ?_)
  refine kn_newi 49 sh_127 (by decide) (by decide) (by decide) (by decide) dX8_init_83 (fun M10 R10 em10 er10 => ?_)
  have z11 := Zr_s z10 (by decide) em10
  have q10n := Zq_n q9 (by decide) er10
  refine kn_putR 19 ckX8 lkF_X8_41 rfl (Or.inr ⟨rfl, rfl, rfl⟩) (fun _ => rfl) (fun _ => rfl) sh_117 (by decide) dX8_init_85 (fun S10 es10 => ?_)
  have q10 := Zq_p q10n es10
  refine kr_aload_n 0 dX8_init_88 rfl (k := ?_)
  refine kr_sipush (1100 : Int32) dX8_init_89 (k := ?_)
  refine kn_newi 1100 sh_128 (by decide) (by decide) (by decide) (by decide) dX8_init_92 (fun M11 R11 em11 er11 => ?_)
  have z12 := Zr_s z11 (by decide) em11
  have q11n := Zq_n q10 (by decide) er11
  refine kn_putR 21 ckX8 lkF_X8_44 rfl (Or.inr ⟨rfl, rfl, rfl⟩) (fun _ => rfl) (fun _ => rfl) sh_117 (by decide) dX8_init_94 (fun S11 es11 => ?_)
  have q11 := Zq_p q11n es11
  refine kr_aload_n 0 dX8_init_97 rfl (k := ?_)
  refine kr_iconst (3 : Int32) dX8_init_98 (k := ?_)
  refine kn_newi 3 sh_129 (by decide) (by decide) (by decide) (by decide) dX8_init_99 (fun M12 R12 em12 er12 => ?_)
  have z13 := Zr_s z12 (by decide) em12
  have q12n := Zq_n q11 (by decide) er12
  refine kn_putR 22 ckX8 lkF_X8_47 rfl (Or.inr ⟨rfl, rfl, rfl⟩) (fun _ => rfl) (fun _ => rfl) sh_117 (by decide) dX8_init_101 (fun S12 es12 => ?_)
  have q12 := Zq_p q12n es12
  refine kr_aload_n 0 dX8_init_104 rfl (k := ?_)
  refine kr_bipush (7 : Int32) dX8_init_105 (k := ?_)
  refine kn_newi 7 sh_130 (by decide) (by decide) (by decide) (by decide) dX8_init_107 (fun M13 R13 em13 er13 => ?_)
  have z14 := Zr_s z13 (by decide) em13
  have q13n := Zq_n q12 (by decide) er13
  refine kn_putR 23 ckX8 lkF_X8_50 rfl (Or.inr ⟨rfl, rfl, rfl⟩) (fun _ => rfl) (fun _ => rfl) sh_117 (by decide) dX8_init_109 (fun S13 es13 => ?_)
  have q13 := Zq_p q13n es13
  refine kr_aload_n 0 dX8_init_112 rfl (k := ?_)
  refine kr_bipush (7 : Int32) dX8_init_113 (k := ?_)
  refine kn_newi 7 sh_131 (by decide) (by decide) (by decide) (by decide) dX8_init_115 (fun M14 R14 em14 er14 => ?_)
  have z15 := Zr_s z14 (by decide) em14
  have q14n := Zq_n q13 (by decide) er14
  refine kn_putR 24 ckX8 lkF_X8_53 rfl (Or.inr ⟨rfl, rfl, rfl⟩) (fun _ => rfl) (fun _ => rfl) sh_117 (by decide) dX8_init_117 (fun S14 es14 => ?_)
  have q14 := Zq_p q14n es14
  refine kr_aload_n 0 dX8_init_120 rfl (k := ?_)
  refine kr_sipush (10648 : Int32) dX8_init_121 (k := ?_)
  refine kn_newi 10648 sh_132 (by decide) (by decide) (by decide) (by decide) dX8_init_124 (fun M15 R15 em15 er15 => ?_)
  have z16 := Zr_s z15 (by decide) em15
  have q15n := Zq_n q14 (by decide) er15
  refine kn_putR 27 ckX8 lkF_X8_56 rfl (Or.inr ⟨rfl, rfl, rfl⟩) (fun _ => rfl) (fun _ => rfl) sh_117 (by decide) dX8_init_126 (fun S15 es15 => ?_)
  have q15 := Zq_p q15n es15
  refine kr_aload_n 0 dX8_init_129 rfl (k := ?_)
  refine kr_sipush (10648 : Int32) dX8_init_130 (k := ?_)
  refine kn_newi 10648 sh_133 (by decide) (by decide) (by decide) (by decide) dX8_init_133 (fun M16 R16 em16 er16 => ?_)
  have z17 := Zr_s z16 (by decide) em16
  have q16n := Zq_n q15 (by decide) er16
  refine kn_putR 28 ckX8 lkF_X8_59 rfl (Or.inr ⟨rfl, rfl, rfl⟩) (fun _ => rfl) (fun _ => rfl) sh_117 (by decide) dX8_init_135 (fun S16 es16 => ?_)
  have q16 := Zq_p q16n es16
  refine kr_aload_n 0 dX8_init_138 rfl (k := ?_)
  refine kr_sipush (128 : Int32) dX8_init_139 (k := ?_)
  refine kn_newz 128 sh_134 (by decide) (by decide) (by decide) (by decide) dX8_init_142 (fun M17 R17 em17 er17 => ?_)
  have z18 := Zr_s z17 (by decide) em17
  have q17n := Zq_n q16 (by decide) er17
  refine kn_putR 30 ckX8 lkF_X8_62 rfl (Or.inr ⟨rfl, rfl, rfl⟩) (fun _ => rfl) (fun _ => rfl) sh_117 (by decide) dX8_init_144 (fun S17 es17 => ?_)
  have q17 := Zq_p q17n es17
  refine kr_aload_n 0 dX8_init_147 rfl (k := ?_)
  refine kr_sipush (128 : Int32) dX8_init_148 (k := ?_)
  refine kn_newz 128 sh_135 (by decide) (by decide) (by decide) (by decide) dX8_init_151 (fun M18 R18 em18 er18 => ?_)
  have z19 := Zr_s z18 (by decide) em18
  have q18n := Zq_n q17 (by decide) er18
  refine kn_putR 31 ckX8 lkF_X8_66 rfl (Or.inr ⟨rfl, rfl, rfl⟩) (fun _ => rfl) (fun _ => rfl) sh_117 (by decide) dX8_init_153 (fun S18 es18 => ?_)
  have q18 := Zq_p q18n es18
  refine kr_aload_n 0 dX8_init_156 rfl (k := ?_)
  refine kr_bipush (6 : Int32) dX8_init_157 (k := ?_)
  refine kn_newi 6 sh_136 (by decide) (by decide) (by decide) (by decide) dX8_init_159 (fun M19 R19 em19 er19 => ?_)
  have z20 := Zr_s z19 (by decide) em19
  have q19n := Zq_n q18 (by decide) er19
  refine kn_putR 33 ckX8 lkF_X8_69 rfl (Or.inr ⟨rfl, rfl, rfl⟩) (fun _ => rfl) (fun _ => rfl) sh_117 (by decide) dX8_init_161 (fun S19 es19 => ?_)
  have q19 := Zq_p q19n es19
  refine kr_aload_n 0 dX8_init_164 rfl (k := ?_)
  refine kr_bipush (6 : Int32) dX8_init_165 (k := ?_)
  refine kn_newz 6 sh_137 (by decide) (by decide) (by decide) (by decide) dX8_init_167 (fun M20 R20 em20 er20 => ?_)
  have z21 := Zr_s z20 (by decide) em20
  have q20n := Zq_n q19 (by decide) er20
  refine kn_putR 34 ckX8 lkF_X8_72 rfl (Or.inr ⟨rfl, rfl, rfl⟩) (fun _ => rfl) (fun _ => rfl) sh_117 (by decide) dX8_init_169 (fun S20 es20 => ?_)
  have q20 := Zq_p q20n es20
  refine kr_aload_n 0 dX8_init_172 rfl (k := ?_)
  refine kr_bipush (15 : Int32) dX8_init_173 (k := ?_)
  refine kn_newi 15 sh_138 (by decide) (by decide) (by decide) (by decide) dX8_init_175 (fun M21 R21 em21 er21 => ?_)
  have z22 := Zr_s z21 (by decide) em21
  have q21n := Zq_n q20 (by decide) er21
  refine kn_putR 36 ckX8 lkF_X8_75 rfl (Or.inr ⟨rfl, rfl, rfl⟩) (fun _ => rfl) (fun _ => rfl) sh_117 (by decide) dX8_init_177 (fun S21 es21 => ?_)
  have q21 := Zq_p q21n es21
  refine kr_aload_n 0 dX8_init_180 rfl (k := ?_)
  refine kr_bipush (15 : Int32) dX8_init_181 (k := ?_)
  refine kn_newi 15 sh_139 (by decide) (by decide) (by decide) (by decide) dX8_init_183 (fun M22 R22 em22 er22 => ?_)
  have z23 := Zr_s z22 (by decide) em22
  have q22n := Zq_n q21 (by decide) er22
  refine kn_putR 37 ckX8 lkF_X8_78 rfl (Or.inr ⟨rfl, rfl, rfl⟩) (fun _ => rfl) (fun _ => rfl) sh_117 (by decide) dX8_init_185 (fun S22 es22 => ?_)
  have q22 := Zq_p q22n es22
  refine kr_aload_n 0 dX8_init_188 rfl (k := ?_)
  refine kr_bipush (112 : Int32) dX8_init_189 (k := ?_)
  refine kn_newi 112 sh_140 (by decide) (by decide) (by decide) (by decide) dX8_init_191 (fun M23 R23 em23 er23 => ?_)
  have z24 := Zr_s z23 (by decide) em23
  have q23n := Zq_n q22 (by decide) er23
  refine kn_putR 38 ckX8 lkF_X8_81 rfl (Or.inr ⟨rfl, rfl, rfl⟩) (fun _ => rfl) (fun _ => rfl) sh_117 (by decide) dX8_init_193 (fun S23 es23 => ?_)
  have q23 := Zq_p q23n es23
  refine kr_aload_n 0 dX8_init_196 rfl (k := ?_)
  refine kr_iconst (2 : Int32) dX8_init_197 (k := ?_)
  refine kn_newz 2 sh_141 (by decide) (by decide) (by decide) (by decide) dX8_init_198 (fun M24 R24 em24 er24 => ?_)
  have z25 := Zr_s z24 (by decide) em24
  have q24n := Zq_n q23 (by decide) er24
  refine kn_putR 39 ckX8 lkF_X8_84 rfl (Or.inr ⟨rfl, rfl, rfl⟩) (fun _ => rfl) (fun _ => rfl) sh_117 (by decide) dX8_init_200 (fun S24 es24 => ?_)
  have q24 := Zq_p q24n es24
  have hk : kg_O8 S24 142 117 := ⟨sh_117, by decide, sh_118, sh_119, sh_120, sh_121, sh_122, sh_123, sh_124, sh_125, sh_126, sh_127, sh_128, sh_129, sh_130, sh_131, sh_132, sh_133, sh_134, sh_135, sh_136, sh_137, sh_138, sh_139, sh_140, sh_141, by rw [q24.2]; rfl, by rw [q24.2]; rfl, by rw [q24.2]; rfl, by rw [q24.2]; rfl, by rw [q24.2]; rfl, by rw [q24.2]; rfl, by rw [q24.2]; rfl, by rw [q24.2]; rfl, by rw [q24.2]; rfl, by rw [q24.2]; rfl, by rw [q24.2]; rfl, by rw [q24.2]; rfl, by rw [q24.2]; rfl, by rw [q24.2]; rfl, by rw [q24.2]; rfl, by rw [q24.2]; rfl, by rw [q24.2]; rfl, by rw [q24.2]; rfl, by rw [q24.2]; rfl, by rw [q24.2]; rfl, by rw [q24.2]; rfl, by rw [q24.2]; rfl, by rw [q24.2]; rfl, by rw [q24.2]; rfl⟩
  refine kr_iconst (0 : Int32) dX8_init_203 (k := ?_)
  refine kr_istore_n [(1, .int 0), (0, .ref (kg_b G + 117))] dX8_init_204 (k := ?_)
  refine kr_iconst (0 : Int32) dX8_init_205 (k := ?_)
  refine kr_istore_n [(2, .int 0), (1, .int 0), (0, .ref (kg_b G + 117))] dX8_init_206 (k := ?_)
  refine (si_X8a hk 49 0 M24 rfl ⟨fun _ _ _ => rfl, fun j hj => absurd hj (Nat.not_lt_zero _)⟩ (fun Ma ha x => ?_))
  refine kr_iconst (0 : Int32) dX8_init_253 (k := ?_)
  refine kr_istore_n [(2, .int 0), (1, .int x), (0, .ref (kg_b G + 117))] dX8_init_254 (k := ?_)
  refine (si_X8b hk 7 0 Ma rfl ⟨fun _ _ => rfl, fun j hj => absurd hj (Nat.not_lt_zero _), fun j _ => rfl⟩ (fun Mb hb => ?_))
  have zz : ∀ k, 118 ≤ k → k < 142 → k ≠ 121 → k ≠ 122 → ∀ j, Ma k j = 0 := fun k h1 h2 h3 h4 j => by rw [ha.1 k h3 h4]; exact z25.2 k (by omega) (by omega) j
  have z117 : Mb 117 = upd (M 117) 10 (-1) := by rw [hb.1 117 (by decide), ha.1 117 (by decide) (by decide), z25.1 117 (by decide), kg_row_eq]
  refine ⟨rfl, rfl, fun k hk => ⟨by rw [hb.1 k (by omega), ha.1 k (by omega) (by omega), z25.1 k (by omega), kg_row_ne _ _ (by omega)], q24.1 k hk⟩, hk, ?_⟩
  have u : ∀ j, j ≠ 10 → Mb 117 j = 0 := fun j hj => by rw [z117, upd_ne hj]; exact z j
  have v : ∀ k, 118 ≤ k → k < 142 → k ≠ 120 → k ≠ 121 → k ≠ 122 → ∀ j, Mb k j = 0 := fun k h1 h2 h3 h4 h5 j => by rw [hb.1 k h3]; exact zz k h1 h2 h4 h5 j
  refine ⟨⟨u 0 (by decide), u 2 (by decide), fun g hg => absurd hg (Nat.not_lt_zero _), fun x y hx hy => v 119 (by decide) (by decide) (by decide) (by decide) (by decide) _⟩, fun j hj => ?_, fun j hj => ?_, ⟨u 20 (by decide), fun u hu => absurd hu (Nat.not_lt_zero _)⟩, fun i hi => ⟨v 141 (by decide) (by decide) (by decide) (by decide) (by decide) i, fun h => Bool.noConfusion h⟩, u 5 (by decide), by rw [z117, upd_eq], ⟨u 9 (by decide), fun i hi => absurd hi (Nat.not_lt_zero _)⟩, ⟨u 32 (by decide), fun i hi => absurd hi (Nat.not_lt_zero _)⟩, ⟨u 35 (by decide), fun i hi => absurd hi (Nat.not_lt_zero _)⟩⟩
  · rw [hb.1 121 (by decide), hb.1 122 (by decide)]
    exact ha.2 j (by rw [pc_49]; exact hj)
  · show Mb 120 j = if j < 7 then nI 0 else if j < 14 then -1 else if j < 21 then nI 0 else 0
    by_cases h1 : 7 ≤ j ∧ j < 14
    · rw [if_neg (by omega), if_pos h1.2, show j = 7 + (j - 7) by omega]
      exact hb.2.1 (j - 7) (by omega)
    · rw [hb.2.2 j (by omega), zz 120 (by decide) (by decide) (by decide) (by decide) j]
      by_cases h2 : j < 7
      · rw [if_pos h2]; rfl
      · rw [if_neg h2, if_neg (by omega)]
        by_cases h3 : j < 21
        · rw [if_pos h3]; rfl
        · rw [if_neg h3]
