/-! ===== constructors ===== -/
theorem kg_Run.cost {G : kg_G} {E : State → Array Value → Prop} {q : kg_q} {d pc : Nat} {lv : List (Nat × Value)} {st : List Value} {M : kg_M} {R : kg_R} {n kc ks kc' ks' : Nat} {Post : kg_Post} (h : kg_Run G E q d pc lv st M R n kc ks Post) (h1 : kc ≤ kc') (h2 : ks ≤ ks') : kg_Run G E q d pc lv st M R n kc' ks' Post := by
  intro p e Ro s m args below meth c Q mc ms C hE hm1 hm2 hR H locs cells slots ls hH hS hc hs hl
  exact h p e Ro s m args below meth c Q mc ms C hE hm1 hm2 hR H locs cells slots ls hH hS (by omega) (by omega) hl
def kg_N (a c : Nat) (M : kg_M) (R : kg_R) (X : kg_M → kg_R → Prop) : kg_Post := fun r M' R' n' => r = none ∧ n' = c ∧ (∀ k, k < a → M' k = M k ∧ R' k = R k) ∧ X M' R'
theorem kg_rtN {y : kg_q} {a c : Nat} {M : kg_M} {R : kg_R} {X : kg_M → kg_R → Prop} (h : y.2.2.2 = none) : kg_rt y (kg_N a c M R X) := ⟨fun x M R n h2 => absurd h2.1 (fun h => nomatch h), fun M R n _ => h⟩
def Zr (a c : Nat) (M0 M : kg_M) : Prop := (∀ k, k ≤ a → M k = M0 k) ∧ ∀ k, a < k → k < c → ∀ j, M k j = 0
theorem Zr_0 {a c : Nat} {M : kg_M} (h : c ≤ a + 1) : Zr a c M M := ⟨fun _ _ => rfl, fun k h1 h2 => by omega⟩
theorem Zr_s {a c : Nat} {M0 M M' : kg_M} (h : Zr a c M0 M) (hc : a < c) (e : M' = kg_row M c (fun _ => 0)) : Zr a (c + 1) M0 M' := by
  refine ⟨fun k hk => by rw [e, kg_row_ne _ _ (by omega)]; exact h.1 k hk, fun k h1 h2 j => ?_⟩
  by_cases hk : k = c
  · rw [e, hk, kg_row_eq]
  · rw [e, kg_row_ne _ _ hk]; exact h.2 k h1 (by omega) j
def Zq (a : Nat) (f : Nat → Option Nat) (R0 R : kg_R) : Prop := (∀ k, k < a → R k = R0 k) ∧ R a = f
theorem Zq_n {a c : Nat} {f g : Nat → Option Nat} {R0 R R' : kg_R} (h : Zq a f R0 R) (hc : a < c) (e : R' = kg_rrow R c g) : Zq a f R0 R' := ⟨fun k hk => by rw [e, kg_rrow_ne _ _ (by omega)]; exact h.1 k hk, by rw [e, kg_rrow_ne _ _ (by omega)]; exact h.2⟩
theorem Zq_p {a j : Nat} {f : Nat → Option Nat} {v : Option Nat} {R0 R R' : kg_R} (h : Zq a f R0 R) (e : R' = kg_rrow R a (va_up (R a) j v)) : Zq a (va_up f j v) R0 R' := ⟨fun k hk => by rw [e, kg_rrow_ne _ _ (by omega)]; exact h.1 k hk, by rw [e, kg_rrow_eq, h.2]⟩
section KN
variable {G : kg_G} {E : State → Array Value → Prop} {q : kg_q} {d pc : Nat} {lv : List (Nat × Value)} {st : List Value} {M : kg_M} {R : kg_R} {n kc ks : Nat} {Post : kg_Post}
theorem kn_newi {len : Int32} (N : Nat) (hsh : kg_SH n = .inr (0, N)) (hn : n < kg_all) (h0 : ¬ len < 0) (hN : len.toNatClampNeg = N) (hB : N ≤ 20000) (hd : decode q.2.1 pc = .ok (.newarray .int, 2)) (k : ∀ (M1 : kg_M) (R1 : kg_R), M1 = kg_row M n (fun _ => 0) → R1 = kg_rrow R n (fun _ => none) → kg_Run G E q d (pc + 2) lv (.ref (kg_b G + n) :: st) M1 R1 (n + 1) kc ks Post) : kg_Run G E q d pc lv (.int len :: st) M R n (kc + 1) (ks + N) Post := kr_newi hsh hn h0 hN hB hd (k _ _ rfl rfl)
theorem kn_newz {len : Int32} (N : Nat) (hsh : kg_SH n = .inr (1, N)) (hn : n < kg_all) (h0 : ¬ len < 0) (hN : len.toNatClampNeg = N) (hB : N ≤ 20000) (hd : decode q.2.1 pc = .ok (.newarray .boolean, 2)) (k : ∀ (M1 : kg_M) (R1 : kg_R), M1 = kg_row M n (fun _ => 0) → R1 = kg_rrow R n (fun _ => none) → kg_Run G E q d (pc + 2) lv (.ref (kg_b G + n) :: st) M1 R1 (n + 1) kc ks Post) : kg_Run G E q d pc lv (.int len :: st) M R n (kc + 1) (ks + N) Post := kr_newz hsh hn h0 hN hB hd (k _ _ rfl rfl)
theorem kn_newa {len : Int32} {i : Nat} (N : Nat) (hlk : Cond.classLink q.1.cls i "KissGates$State" ∈ kg_T) (hsh : kg_SH n = .inr (2, N)) (hn : n < kg_all) (h0 : ¬ len < 0) (hN : len.toNatClampNeg = N) (hB : N ≤ 20000) (hd : decode q.2.1 pc = .ok (.anewarray i, 3)) (k : ∀ (M1 : kg_M) (R1 : kg_R), M1 = kg_row M n (fun _ => 0) → R1 = kg_rrow R n (fun _ => none) → kg_Run G E q d (pc + 3) lv (.ref (kg_b G + n) :: st) M1 R1 (n + 1) kc ks Post) : kg_Run G E q d pc lv (.int len :: st) M R n (kc + 1) (ks + N) Post := kr_newa hlk hsh hn h0 hN hB hd (k _ _ rfl rfl)
theorem kn_new {ci N i : Nat} {Cn : String} {T : u_T} {ty : Nat → FieldType} (hC : kg_CK ci Cn T N ty) (hlk : Cond.classLink q.1.cls i Cn ∈ kg_T) (hsh : kg_SH n = .inl ci) (hn : n < kg_all) (hd : decode q.2.1 pc = .ok (.new i, 3)) (k : ∀ (M1 : kg_M) (R1 : kg_R), M1 = kg_row M n (fun _ => 0) → R1 = kg_rrow R n (fun _ => none) → kg_Run G E q d (pc + 3) lv (.ref (kg_b G + n) :: st) M1 R1 (n + 1) kc ks Post) : kg_Run G E q d pc lv st M R n (kc + 1) (ks + N) Post := kr_new hC hlk hsh hn hd (k _ _ rfl rfl)
theorem kn_putR {ci N i : Nat} {Cn : String} {T : u_T} {ty : Nat → FieldType} {a v : Nat} (j : Nat) (hC : kg_CK ci Cn T N ty) (hlk : Cond.fieldLink q.1.cls i (T j).1 (T j).2.1 (T j).2.2.1 ∈ kg_T) (hkd : (kg_kd.getD ci [])[j]? = some true) (hfin : (T j).2.2.2 = false ∨ ((T j).2.2.2 = true ∧ q.1.name = "<init>" ∧ (T j).1 = q.1.cls)) (hn : ∀ x : Nat, narrow (ty j) (.ref x) = .ref x) (hfit : ∀ x : Nat, fits (ty j) (.ref x) = true) (hsh : kg_SH a = .inl ci) (han : a < n) (hd : decode q.2.1 pc = .ok (.putfield i, 3)) (k : ∀ R1 : kg_R, R1 = kg_rrow R a (va_up (R a) j (some v)) → kg_Run G E q d (pc + 3) lv st M R1 n kc ks Post) : kg_Run G E q d pc lv (.ref (kg_b G + v) :: .ref (kg_b G + a) :: st) M R n kc ks Post := kr_putR j hC hlk hkd hfin hn hfit hsh han hd (k _ rfl)
theorem kn_aast {a b N : Nat} {i : Int32} (hsh : kg_SH a = .inr (2, N)) (han : a < n) (hi : vp_in i N) (hsb : kg_SH b = .inl 5) (hbn : b < n) (hd : decode q.2.1 pc = .ok (.aastore, 1)) (k : ∀ R1 : kg_R, R1 = kg_rrow R a (va_up (R a) i.toNatClampNeg (some b)) → kg_Run G E q d (pc + 1) lv st M R1 n kc ks Post) : kg_Run G E q d pc lv (.ref (kg_b G + b) :: .int i :: .ref (kg_b G + a) :: st) M R n kc ks Post := kr_aast hsh han hi hsb hbn hd (k _ rfl)
end KN

set_option maxRecDepth 100000 in
set_option maxHeartbeats 4000000 in
theorem si_X0 {G : kg_G} {E : State → Array Value → Prop} {R : kg_R} {M : kg_M} {a : Nat} (h0 : kg_SH a = .inl 0) (h1 : kg_SH (a + 1) = .inr (0, 5)) (h2 : kg_SH (a + 1 + 1) = .inr (0, 49)) (h3 : kg_SH (a + 1 + 1 + 1) = .inr (0, 7)) (ha : a + 4 ≤ kg_all) : kg_Run G E qX0_init 0 0 [(0, .ref (kg_b G + a))] [] M R (a + 1) 3 61 (kg_N a (a + 1 + 1 + 1 + 1) M R (fun M' R' => M' a = M a ∧ (∀ k, a < k → k < a + 1 + 1 + 1 + 1 → ∀ j, M' k j = 0) ∧ kg_O0 R' (a + 1 + 1 + 1 + 1) a)) := by
  refine kg_Run.cost (kc := 0 + 1 + 1 + 1) (ks := 0 + 7 + 49 + 5) ?_ (by decide) (by decide)
  have z0 : Zr a (a + 1) M M := Zr_0 (Nat.le_refl _)
  have q0 : Zq a (R a) R R := ⟨fun _ _ => rfl, rfl⟩
  refine kr_aload_n 0 dX0_init_0 rfl (k := ?_)
  refine kr_objInit lkM_X0_3 (Nat.le_of_ble_eq_true rfl) dX0_init_1 (k := ?_)
  refine kr_aload_n 0 dX0_init_4 rfl (k := ?_)
  refine kr_iconst (5 : Int32) dX0_init_5 (k := ?_)
  refine kn_newi 5 h1 (by omega) (by decide) (by decide) (by decide) dX0_init_6 (fun M1 R1 em1 er1 => ?_)
  have z1 := Zr_s z0 (by omega) em1
  have q1n := Zq_n q0 (by omega) er1
  refine kn_putR 4 ckX0 lkF_X0_9 rfl (Or.inr ⟨rfl, rfl, rfl⟩) (fun _ => rfl) (fun _ => rfl) h0 (by omega) dX0_init_8 (fun S1 es1 => ?_)
  have q1 := Zq_p q1n es1
  refine kr_aload_n 0 dX0_init_11 rfl (k := ?_)
  refine kr_bipush (49 : Int32) dX0_init_12 (k := ?_)
  refine kn_newi 49 h2 (by omega) (by decide) (by decide) (by decide) dX0_init_14 (fun M2 R2 em2 er2 => ?_)
  have z2 := Zr_s z1 (by omega) em2
  have q2n := Zq_n q1 (by omega) er2
  refine kn_putR 5 ckX0 lkF_X0_15 rfl (Or.inr ⟨rfl, rfl, rfl⟩) (fun _ => rfl) (fun _ => rfl) h0 (by omega) dX0_init_16 (fun S2 es2 => ?_)
  have q2 := Zq_p q2n es2
  refine kr_aload_n 0 dX0_init_19 rfl (k := ?_)
  refine kr_bipush (7 : Int32) dX0_init_20 (k := ?_)
  refine kn_newi 7 h3 (by omega) (by decide) (by decide) (by decide) dX0_init_22 (fun M3 R3 em3 er3 => ?_)
  have z3 := Zr_s z2 (by omega) em3
  have q3n := Zq_n q2 (by omega) er3
  refine kn_putR 6 ckX0 lkF_X0_18 rfl (Or.inr ⟨rfl, rfl, rfl⟩) (fun _ => rfl) (fun _ => rfl) h0 (by omega) dX0_init_24 (fun S3 es3 => ?_)
  have q3 := Zq_p q3n es3
  refine kr_return dX0_init_27 ⟨rfl, rfl, fun k hk => ⟨z3.1 k (by omega), q3.1 k hk⟩, z3.1 a (Nat.le_refl _), fun k h1 h2 j => z3.2 k h1 (by omega) j, ?_⟩
  refine ⟨h0, by omega, h1, h2, h3, by rw [q3.2]; rfl, by rw [q3.2]; rfl, by rw [q3.2]; rfl⟩

set_option maxRecDepth 100000 in
set_option maxHeartbeats 4000000 in
theorem si_X1 {G : kg_G} {E : State → Array Value → Prop} {R : kg_R} {M : kg_M} {a : Nat} (h0 : kg_SH a = .inl 1) (h1 : kg_SH (a + 1) = .inr (0, 128)) (ha : a + 2 ≤ kg_all) : kg_Run G E qX1_init 0 0 [(0, .ref (kg_b G + a))] [] M R (a + 1) 1 128 (kg_N a (a + 1 + 1) M R (fun M' R' => M' a = M a ∧ (∀ k, a < k → k < a + 1 + 1 → ∀ j, M' k j = 0) ∧ kg_O1 R' (a + 1 + 1) a)) := by
  refine kg_Run.cost (kc := 0 + 1) (ks := 0 + 128) ?_ (by decide) (by decide)
  have z0 : Zr a (a + 1) M M := Zr_0 (Nat.le_refl _)
  have q0 : Zq a (R a) R R := ⟨fun _ _ => rfl, rfl⟩
  refine kr_aload_n 0 dX1_init_0 rfl (k := ?_)
  refine kr_objInit lkM_X1_3 (Nat.le_of_ble_eq_true rfl) dX1_init_1 (k := ?_)
  refine kr_aload_n 0 dX1_init_4 rfl (k := ?_)
  refine kr_sipush (128 : Int32) dX1_init_5 (k := ?_)
  refine kn_newi 128 h1 (by omega) (by decide) (by decide) (by decide) dX1_init_8 (fun M1 R1 em1 er1 => ?_)
  have z1 := Zr_s z0 (by omega) em1
  have q1n := Zq_n q0 (by omega) er1
  refine kn_putR 0 ckX1 lkF_X1_11 rfl (Or.inr ⟨rfl, rfl, rfl⟩) (fun _ => rfl) (fun _ => rfl) h0 (by omega) dX1_init_10 (fun S1 es1 => ?_)
  have q1 := Zq_p q1n es1
  refine kr_return dX1_init_13 ⟨rfl, rfl, fun k hk => ⟨z1.1 k (by omega), q1.1 k hk⟩, z1.1 a (Nat.le_refl _), fun k h1 h2 j => z1.2 k h1 (by omega) j, ?_⟩
  refine ⟨h0, by omega, h1, by rw [q1.2]; rfl⟩

set_option maxRecDepth 100000 in
set_option maxHeartbeats 4000000 in
theorem si_X2 {G : kg_G} {E : State → Array Value → Prop} {R : kg_R} {M : kg_M} {a : Nat} (h0 : kg_SH a = .inl 2) (h1 : kg_SH (a + 1) = .inr (0, 15)) (h2 : kg_SH (a + 1 + 1) = .inr (0, 15)) (ha : a + 3 ≤ kg_all) : kg_Run G E qX2_init 0 0 [(0, .ref (kg_b G + a))] [] M R (a + 1) 2 30 (kg_N a (a + 1 + 1 + 1) M R (fun M' R' => M' a = M a ∧ (∀ k, a < k → k < a + 1 + 1 + 1 → ∀ j, M' k j = 0) ∧ kg_O2 R' (a + 1 + 1 + 1) a)) := by
  refine kg_Run.cost (kc := 0 + 1 + 1) (ks := 0 + 15 + 15) ?_ (by decide) (by decide)
  have z0 : Zr a (a + 1) M M := Zr_0 (Nat.le_refl _)
  have q0 : Zq a (R a) R R := ⟨fun _ _ => rfl, rfl⟩
  refine kr_aload_n 0 dX2_init_0 rfl (k := ?_)
  refine kr_objInit lkM_X2_3 (Nat.le_of_ble_eq_true rfl) dX2_init_1 (k := ?_)
  refine kr_aload_n 0 dX2_init_4 rfl (k := ?_)
  refine kr_bipush (15 : Int32) dX2_init_5 (k := ?_)
  refine kn_newi 15 h1 (by omega) (by decide) (by decide) (by decide) dX2_init_7 (fun M1 R1 em1 er1 => ?_)
  have z1 := Zr_s z0 (by omega) em1
  have q1n := Zq_n q0 (by omega) er1
  refine kn_putR 4 ckX2 lkF_X2_9 rfl (Or.inr ⟨rfl, rfl, rfl⟩) (fun _ => rfl) (fun _ => rfl) h0 (by omega) dX2_init_9 (fun S1 es1 => ?_)
  have q1 := Zq_p q1n es1
  refine kr_aload_n 0 dX2_init_12 rfl (k := ?_)
  refine kr_bipush (15 : Int32) dX2_init_13 (k := ?_)
  refine kn_newi 15 h2 (by omega) (by decide) (by decide) (by decide) dX2_init_15 (fun M2 R2 em2 er2 => ?_)
  have z2 := Zr_s z1 (by omega) em2
  have q2n := Zq_n q1 (by omega) er2
  refine kn_putR 5 ckX2 lkF_X2_15 rfl (Or.inr ⟨rfl, rfl, rfl⟩) (fun _ => rfl) (fun _ => rfl) h0 (by omega) dX2_init_17 (fun S2 es2 => ?_)
  have q2 := Zq_p q2n es2
  refine kr_return dX2_init_20 ⟨rfl, rfl, fun k hk => ⟨z2.1 k (by omega), q2.1 k hk⟩, z2.1 a (Nat.le_refl _), fun k h1 h2 j => z2.2 k h1 (by omega) j, ?_⟩
  refine ⟨h0, by omega, h1, h2, by rw [q2.2]; rfl, by rw [q2.2]; rfl⟩

set_option maxRecDepth 100000 in
set_option maxHeartbeats 4000000 in
theorem si_X3 {G : kg_G} {E : State → Array Value → Prop} {R : kg_R} {M : kg_M} {a : Nat} (h0 : kg_SH a = .inl 3) (h1 : kg_SH (a + 1) = .inr (0, 7)) (h2 : kg_SH (a + 1 + 1) = .inr (0, 7)) (ha : a + 3 ≤ kg_all) : kg_Run G E qX3_init 0 0 [(0, .ref (kg_b G + a))] [] M R (a + 1) 2 14 (kg_N a (a + 1 + 1 + 1) M R (fun M' R' => M' a = M a ∧ (∀ k, a < k → k < a + 1 + 1 + 1 → ∀ j, M' k j = 0) ∧ kg_O3 R' (a + 1 + 1 + 1) a)) := by
  refine kg_Run.cost (kc := 0 + 1 + 1) (ks := 0 + 7 + 7) ?_ (by decide) (by decide)
  have z0 : Zr a (a + 1) M M := Zr_0 (Nat.le_refl _)
  have q0 : Zq a (R a) R R := ⟨fun _ _ => rfl, rfl⟩
  refine kr_aload_n 0 dX3_init_0 rfl (k := ?_)
  refine kr_objInit lkM_X3_3 (Nat.le_of_ble_eq_true rfl) dX3_init_1 (k := ?_)
  refine kr_aload_n 0 dX3_init_4 rfl (k := ?_)
  refine kr_bipush (7 : Int32) dX3_init_5 (k := ?_)
  refine kn_newi 7 h1 (by omega) (by decide) (by decide) (by decide) dX3_init_7 (fun M1 R1 em1 er1 => ?_)
  have z1 := Zr_s z0 (by omega) em1
  have q1n := Zq_n q0 (by omega) er1
  refine kn_putR 0 ckX3 lkF_X3_9 rfl (Or.inr ⟨rfl, rfl, rfl⟩) (fun _ => rfl) (fun _ => rfl) h0 (by omega) dX3_init_9 (fun S1 es1 => ?_)
  have q1 := Zq_p q1n es1
  refine kr_aload_n 0 dX3_init_12 rfl (k := ?_)
  refine kr_bipush (7 : Int32) dX3_init_13 (k := ?_)
  refine kn_newi 7 h2 (by omega) (by decide) (by decide) (by decide) dX3_init_15 (fun M2 R2 em2 er2 => ?_)
  have z2 := Zr_s z1 (by omega) em2
  have q2n := Zq_n q1 (by omega) er2
  refine kn_putR 1 ckX3 lkF_X3_15 rfl (Or.inr ⟨rfl, rfl, rfl⟩) (fun _ => rfl) (fun _ => rfl) h0 (by omega) dX3_init_17 (fun S2 es2 => ?_)
  have q2 := Zq_p q2n es2
  refine kr_return dX3_init_20 ⟨rfl, rfl, fun k hk => ⟨z2.1 k (by omega), q2.1 k hk⟩, z2.1 a (Nat.le_refl _), fun k h1 h2 j => z2.2 k h1 (by omega) j, ?_⟩
  refine ⟨h0, by omega, h1, h2, by rw [q2.2]; rfl, by rw [q2.2]; rfl⟩

set_option maxRecDepth 100000 in
set_option maxHeartbeats 4000000 in
theorem si_X5 {G : kg_G} {E : State → Array Value → Prop} {R : kg_R} {M : kg_M} {a : Nat} (h0 : kg_SH a = .inl 5) (h1 : kg_SH (a + 1) = .inr (0, 7)) (h2 : kg_SH (a + 1 + 1) = .inr (0, 5)) (h3 : kg_SH (a + 1 + 1 + 1) = .inr (0, 20)) (ha : a + 4 ≤ kg_all) : kg_Run G E qX5_init 0 0 [(0, .ref (kg_b G + a))] [] M R (a + 1) 3 32 (kg_N a (a + 1 + 1 + 1 + 1) M R (fun M' R' => M' a = M a ∧ (∀ k, a < k → k < a + 1 + 1 + 1 + 1 → ∀ j, M' k j = 0) ∧ kg_O5 R' (a + 1 + 1 + 1 + 1) a)) := by
  refine kg_Run.cost (kc := 0 + 1 + 1 + 1) (ks := 0 + 20 + 5 + 7) ?_ (by decide) (by decide)
  have z0 : Zr a (a + 1) M M := Zr_0 (Nat.le_refl _)
  have q0 : Zq a (R a) R R := ⟨fun _ _ => rfl, rfl⟩
  refine kr_aload_n 0 dX5_init_0 rfl (k := ?_)
  refine kr_objInit lkM_X5_3 (Nat.le_of_ble_eq_true rfl) dX5_init_1 (k := ?_)
  refine kr_aload_n 0 dX5_init_4 rfl (k := ?_)
  refine kr_bipush (7 : Int32) dX5_init_5 (k := ?_)
  refine kn_newi 7 h1 (by omega) (by decide) (by decide) (by decide) dX5_init_7 (fun M1 R1 em1 er1 => ?_)
  have z1 := Zr_s z0 (by omega) em1
  have q1n := Zq_n q0 (by omega) er1
  refine kn_putR 6 ckX5 lkF_X5_9 rfl (Or.inr ⟨rfl, rfl, rfl⟩) (fun _ => rfl) (fun _ => rfl) h0 (by omega) dX5_init_9 (fun S1 es1 => ?_)
  have q1 := Zq_p q1n es1
  refine kr_aload_n 0 dX5_init_12 rfl (k := ?_)
  refine kr_iconst (5 : Int32) dX5_init_13 (k := ?_)
  refine kn_newi 5 h2 (by omega) (by decide) (by decide) (by decide) dX5_init_14 (fun M2 R2 em2 er2 => ?_)
  have z2 := Zr_s z1 (by omega) em2
  have q2n := Zq_n q1 (by omega) er2
  refine kn_putR 7 ckX5 lkF_X5_15 rfl (Or.inr ⟨rfl, rfl, rfl⟩) (fun _ => rfl) (fun _ => rfl) h0 (by omega) dX5_init_16 (fun S2 es2 => ?_)
  have q2 := Zq_p q2n es2
  refine kr_aload_n 0 dX5_init_19 rfl (k := ?_)
  refine kr_bipush (20 : Int32) dX5_init_20 (k := ?_)
  refine kn_newi 20 h3 (by omega) (by decide) (by decide) (by decide) dX5_init_22 (fun M3 R3 em3 er3 => ?_)
  have z3 := Zr_s z2 (by omega) em3
  have q3n := Zq_n q2 (by omega) er3
  refine kn_putR 8 ckX5 lkF_X5_18 rfl (Or.inr ⟨rfl, rfl, rfl⟩) (fun _ => rfl) (fun _ => rfl) h0 (by omega) dX5_init_24 (fun S3 es3 => ?_)
  have q3 := Zq_p q3n es3
  refine kr_return dX5_init_27 ⟨rfl, rfl, fun k hk => ⟨z3.1 k (by omega), q3.1 k hk⟩, z3.1 a (Nat.le_refl _), fun k h1 h2 j => z3.2 k h1 (by omega) j, ?_⟩
  refine ⟨h0, by omega, h1, h2, h3, by rw [q3.2]; rfl, by rw [q3.2]; rfl, by rw [q3.2]; rfl⟩

set_option maxRecDepth 100000 in
set_option maxHeartbeats 4000000 in
theorem si_X6 {G : kg_G} {E : State → Array Value → Prop} {R : kg_R} {M : kg_M} {a : Nat} (h0 : kg_SH a = .inl 6) (h1 : kg_SH (a + 1) = .inr (0, 240)) (ha : a + 2 ≤ kg_all) : kg_Run G E qX6_init 0 0 [(0, .ref (kg_b G + a))] [] M R (a + 1) 1 240 (kg_N a (a + 1 + 1) M R (fun M' R' => M' a = M a ∧ (∀ k, a < k → k < a + 1 + 1 → ∀ j, M' k j = 0) ∧ kg_O6 R' (a + 1 + 1) a)) := by
  refine kg_Run.cost (kc := 0 + 1) (ks := 0 + 240) ?_ (by decide) (by decide)
  have z0 : Zr a (a + 1) M M := Zr_0 (Nat.le_refl _)
  have q0 : Zq a (R a) R R := ⟨fun _ _ => rfl, rfl⟩
  refine kr_aload_n 0 dX6_init_0 rfl (k := ?_)
  refine kr_objInit lkM_X6_3 (Nat.le_of_ble_eq_true rfl) dX6_init_1 (k := ?_)
  refine kr_aload_n 0 dX6_init_4 rfl (k := ?_)
  refine kr_sipush (240 : Int32) dX6_init_5 (k := ?_)
  refine kn_newi 240 h1 (by omega) (by decide) (by decide) (by decide) dX6_init_8 (fun M1 R1 em1 er1 => ?_)
  have z1 := Zr_s z0 (by omega) em1
  have q1n := Zq_n q0 (by omega) er1
  refine kn_putR 0 ckX6 lkF_X6_9 rfl (Or.inr ⟨rfl, rfl, rfl⟩) (fun _ => rfl) (fun _ => rfl) h0 (by omega) dX6_init_10 (fun S1 es1 => ?_)
  have q1 := Zq_p q1n es1
  refine kr_return dX6_init_13 ⟨rfl, rfl, fun k hk => ⟨z1.1 k (by omega), q1.1 k hk⟩, z1.1 a (Nat.le_refl _), fun k h1 h2 j => z1.2 k h1 (by omega) j, ?_⟩
  refine ⟨h0, by omega, h1, by rw [q1.2]; rfl⟩

