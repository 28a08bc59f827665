/-! ===== the constructors of Past and KissGates ===== -/
theorem kg_O0_n {R : kg_R} {n n' o : Nat} (h : kg_O0 R n o) (e : n ≤ n') : kg_O0 R n' o := ⟨h.1, Nat.le_trans h.2.1 e, h.2.2⟩
theorem kg_O1_n {R : kg_R} {n n' o : Nat} (h : kg_O1 R n o) (e : n ≤ n') : kg_O1 R n' o := ⟨h.1, Nat.le_trans h.2.1 e, h.2.2⟩
theorem kg_O2_n {R : kg_R} {n n' o : Nat} (h : kg_O2 R n o) (e : n ≤ n') : kg_O2 R n' o := ⟨h.1, Nat.le_trans h.2.1 e, h.2.2⟩
theorem kg_O3_n {R : kg_R} {n n' o : Nat} (h : kg_O3 R n o) (e : n ≤ n') : kg_O3 R n' o := ⟨h.1, Nat.le_trans h.2.1 e, h.2.2⟩
theorem kg_O5_n {R : kg_R} {n n' o : Nat} (h : kg_O5 R n o) (e : n ≤ n') : kg_O5 R n' o := ⟨h.1, Nat.le_trans h.2.1 e, h.2.2⟩
theorem kg_O6_n {R : kg_R} {n n' o : Nat} (h : kg_O6 R n o) (e : n ≤ n') : kg_O6 R n' o := ⟨h.1, Nat.le_trans h.2.1 e, h.2.2⟩
theorem kg_O4_n {R : kg_R} {n n' o : Nat} (h : kg_O4 R n o) (e : n ≤ n') : kg_O4 R n' o := ⟨h.1, Nat.le_trans h.2.1 e, h.2.2.1, h.2.2.2.1, fun i hi => ⟨(h.2.2.2.2 i hi).1, kg_O5_n (h.2.2.2.2 i hi).2 e⟩⟩
theorem kg_O4_m {R R' : kg_R} {n n' : Nat} (h : kg_O4 R n 7) (e : ∀ k, 7 ≤ k → k < 89 → R' k = R k) (en : n ≤ n') : kg_O4 R' n' 7 := by
  obtain ⟨h1, h2, h3, h4, h5⟩ := kg_O4_n h en
  exact ⟨h1, h2, h3, by rw [e 7 (by omega) (by omega)]; exact h4, fun i hi => ⟨by rw [e (7 + 1) (by omega) (by omega)]; exact (h5 i hi).1, kg_O5_r (h5 i hi).2 (e _ (by omega) (by omega))⟩⟩
theorem sh_past : ∀ i, i < 20 → kg_SH (9 + 4 * i) = .inl 5 ∧ kg_SH (9 + 4 * i + 1) = .inr (0, 7) ∧ kg_SH (9 + 4 * i + 1 + 1) = .inr (0, 5) ∧ kg_SH (9 + 4 * i + 1 + 1 + 1) = .inr (0, 20) := by decide +kernel
def IP (i : Nat) (M0 : kg_M) (R0 : kg_R) (M : kg_M) (R : kg_R) : Prop := (∀ k, k < 7 → M k = M0 k ∧ R k = R0 k) ∧ M 7 = M0 7 ∧ (∀ k, 8 ≤ k → k < 9 + 4 * i → ∀ j, M k j = 0) ∧ R 7 0 = some 8 ∧ ∀ j, j < i → R 8 j = some (9 + 4 * j) ∧ kg_O5 R (9 + 4 * i) (9 + 4 * j)
set_option maxRecDepth 100000 in
set_option maxHeartbeats 4000000 in
theorem si_X4loop {G : kg_G} {E : State → Array Value → Prop} {M0 : kg_M} {R0 : kg_R} : ∀ d i (M : kg_M) (R : kg_R), i + d = 20 → IP i M0 R0 M R → kg_Run G E qX4_init 1 15 [(1, .int (nI i)), (0, .ref (kg_b G + 7))] [] M R (9 + 4 * i) (4 * d) (41 * d) (kg_N 7 89 M0 R0 (fun M' R' => M' 7 = M0 7 ∧ (∀ k, 7 < k → k < 89 → ∀ j, M' k j = 0) ∧ kg_O4 R' 89 7)) := by
  intro d
  induction d with
  | zero =>
    intro i M R hi h
    have ei : i = 20 := by omega
    subst ei
    obtain ⟨i1, i2, i3, i4, i5⟩ := h
    refine kr_iload_n 0 dX4_init_15 rfl (k := ?_)
    refine kr_bipush (20 : Int32) dX4_init_16 (k := ?_)
    refine kr_icmp_ge 40 dX4_init_18 (fun _ => ?_) (fun c => absurd (nI_le (a := 20) (b := 20) (Nat.le_refl _) (by decide)) c)
    exact kr_return dX4_init_40 ⟨rfl, rfl, i1, i2, fun k h1 h2 j => i3 k (by omega) (by omega) j, rfl, by decide, rfl, i4, fun j hj => ⟨i5 j hj |>.1, (i5 j hj).2⟩⟩
  | succ d ih =>
    intro i M R hi h
    obtain ⟨i1, i2, i3, i4, i5⟩ := h
    have hal : kg_all = 142 := rfl
    obtain ⟨s0, s1, s2, s3⟩ := sh_past i (by omega)
    refine kg_Run.cost (kc := 4 * d + 3 + 1) (ks := 41 * d + 32 + 9) ?_ (by omega) (by omega)
    refine kr_iload_n 0 dX4_init_15 rfl (k := ?_)
    refine kr_bipush (20 : Int32) dX4_init_16 (k := ?_)
    refine kr_icmp_ge 40 dX4_init_18 (fun c => absurd c (nI_ge (b := 20) (by omega) (by decide))) (fun _ => ?_)
    refine kr_aload_n 1 dX4_init_21 rfl (k := ?_)
    refine kr_getR 0 ckX4 lkF_X4_11 rfl sh_7 (by omega) i4 dX4_init_22 (k := ?_)
    refine kr_iload_n 0 dX4_init_25 rfl (k := ?_)
    refine kn_new ckX5 lkK_X4_9 s0 (by omega) dX4_init_26 (fun M1 R1 em er => ?_)
    refine kr_dup dX4_init_29 rfl (k := ?_)
    refine kr_callIN [] [.ref (kg_b G + (9 + 4 * i)), .int (nI i), .ref (kg_b G + 8)] miX5_init lkN_X4_17 dX4_init_30 (kg_rtN rfl) (si_X5 s0 s1 s2 s3 (by omega)) (fun r M2 R2 n2 hp => ?_) (hav := Nat.le_of_ble_eq_true rfl) (hrest := Nat.le_of_ble_eq_true rfl)
    obtain ⟨er0, en0, p1, p2, p3, p4⟩ := hp
    subst er0 en0
    refine kn_aast sh_8 (by omega) (in_nI (by omega) (by omega)) s0 (by omega) dX4_init_33 (fun R3 e3 => ?_)
    rw [cl_nI (by omega)] at e3
    refine kr_iinc (1 : Int32) 0 [(1, .int (nI i + 1)), (0, .ref (kg_b G + 7))] dX4_init_34 rfl (k := ?_)
    refine kr_goto 15 dX4_init_37 ?_
    rw [nI_1]
    have m1 : ∀ k, k < 9 + 4 * i → M2 k = M k := fun k hk => by rw [(p1 k hk).1, em, kg_row_ne _ _ (by omega)]
    have r1 : ∀ k, k < 9 + 4 * i → R2 k = R k := fun k hk => by rw [(p1 k hk).2, er, kg_rrow_ne _ _ (by omega)]
    have r3 : ∀ k, k ≠ 8 → R3 k = R2 k := fun k hk => by rw [e3, kg_rrow_ne _ _ hk]
    refine ih (i + 1) M2 R3 (by omega) ⟨fun k hk => ⟨by rw [m1 k (by omega)]; exact (i1 k hk).1, by rw [r3 k (by omega), r1 k (by omega)]; exact (i1 k hk).2⟩, by rw [m1 7 (by omega)]; exact i2, fun k h1 h2 j => ?_, by rw [r3 7 (by decide), r1 7 (by omega)]; exact i4, fun j hj => ⟨?_, ?_⟩⟩
    · rcases Nat.lt_or_ge k (9 + 4 * i) with q | q
      · rw [m1 k q]; exact i3 k h1 q j
      · by_cases e : k = 9 + 4 * i
        · rw [e, p2, em, kg_row_eq]
        · exact p3 k (by omega) (by omega) j
    · rw [e3, kg_rrow_eq]
      by_cases e : j = i
      · rw [e, ru_eq]
      · rw [ru_ne e, r1 8 (by omega)]; exact (i5 j (by omega)).1
    · by_cases e : j = i
      · rw [e]; exact kg_O5_n (kg_O5_r p4 (r3 _ (by omega))) (by omega)
      · exact kg_O5_n (kg_O5_r (i5 j (by omega)).2 (by rw [r3 _ (by omega), r1 _ (by omega)])) (by omega)
set_option maxRecDepth 100000 in
set_option maxHeartbeats 4000000 in
theorem si_X4 {G : kg_G} {E : State → Array Value → Prop} {R : kg_R} {M : kg_M} : kg_Run G E qX4_init 1 0 [(0, .ref (kg_b G + 7))] [] M R 8 81 840 (kg_N 7 89 M R (fun M' R' => M' 7 = M 7 ∧ (∀ k, 7 < k → k < 89 → ∀ j, M' k j = 0) ∧ kg_O4 R' 89 7)) := by
  refine kg_Run.cost (kc := 4 * 20 + 1) (ks := 41 * 20 + 20) ?_ (by decide) (by decide)
  refine kr_aload_n 0 dX4_init_0 rfl (k := ?_)
  refine kr_objInit lkM_X4_3 (Nat.le_of_ble_eq_true rfl) dX4_init_1 (k := ?_)
  refine kr_aload_n 0 dX4_init_4 rfl (k := ?_)
  refine kr_bipush (20 : Int32) dX4_init_5 (k := ?_)
  refine kn_newa 20 lkK_X4_9 sh_8 (by decide) (by decide) (by decide) (by decide) dX4_init_7 (fun M1 R1 em er => ?_)
  refine kn_putR 0 ckX4 lkF_X4_11 rfl (Or.inr ⟨rfl, rfl, rfl⟩) (fun _ => rfl) (fun _ => rfl) sh_7 (by decide) dX4_init_10 (fun R2 e2 => ?_)
  refine kr_iconst (0 : Int32) dX4_init_13 (k := ?_)
  refine kr_istore_n [(1, .int 0), (0, .ref (kg_b G + 7))] dX4_init_14 (k := ?_)
  refine si_X4loop (M0 := M) (R0 := R) 20 0 M1 R2 rfl ⟨fun k hk => ⟨by rw [em, kg_row_ne _ _ (by omega)], by rw [e2, kg_rrow_ne _ _ (by omega), er, kg_rrow_ne _ _ (by omega)]⟩, by rw [em, kg_row_ne _ _ (by decide)], fun k h1 h2 j => ?_, by rw [e2, kg_rrow_eq, ru_eq], fun j hj => absurd hj (Nat.not_lt_zero _)⟩
  rw [show k = 8 by omega, em, kg_row_eq]

theorem Z_a {n : Nat} {M M1 : kg_M} (z : ∀ k, k < n → ∀ j, M k j = 0) (e : M1 = kg_row M n (fun _ => 0)) : ∀ k, k < n + 1 → ∀ j, M1 k j = 0 := by
  intro k hk j
  by_cases h : k = n
  · rw [e, h, kg_row_eq]
  · rw [e, kg_row_ne _ _ h]; exact z k (by omega) j
theorem Z_s {n c : Nat} {M M1 M2 : kg_M} (z : ∀ k, k < n → ∀ j, M k j = 0) (e : M1 = kg_row M n (fun _ => 0)) (h1 : ∀ k, k < n → M2 k = M1 k) (h2 : M2 n = M1 n) (h3 : ∀ k, n < k → k < c → ∀ j, M2 k j = 0) : ∀ k, k < c → ∀ j, M2 k j = 0 := by
  intro k hk j
  rcases Nat.lt_or_ge k n with q | q
  · rw [h1 k q]; exact Z_a z e k (by omega) j
  · by_cases h : k = n
    · rw [h, h2]; exact Z_a z e n (by omega) j
    · exact h3 k (by omega) hk j
theorem RD_at {M M' : kg_M} {s : pS} {S : Nat} (hS : S ≤ 200) (h : ∀ k, S ≤ k → M' k = M k) (hd : RD M S s) : RD M' S s := by
  obtain ⟨p, G, P, B, I, C, K⟩ := s
  unfold RD at *
  rw [h S (by omega), h (S + 1) (by omega), h (S + 2) (by omega), h (S + 3) (by omega)]
  exact hd
theorem c_empty {M : kg_M} {S : Nat} {K : kg_M → Prop} (hS : S = 109 ∨ S = 113) (hK : ∀ M' : kg_M, (∀ k, k ≠ S → k ≠ S + 2 → k ≠ S + 3 → M' k = M k) → RD M' S (0, 0, 0, (fun _ => 0), (fun _ => 0), (fun _ => 0), (fun _ _ => 10)) → K M') : wp_X0_empty S M K := by
  intro Ma ea Mb eb Mc ec Md ed
  have rd : ∀ k, k ≠ S → Md k = M k := fun k hk => by rw [ed, kg_row_ne _ _ hk, ec, kg_row_ne _ _ hk, eb, kg_row_ne _ _ hk, ea, kg_row_ne _ _ hk]
  have qd : Md S = upd (upd (upd (upd (M S) 0 0) 1 0) 2 0) 3 0 := by rw [ed, kg_row_eq, ec, kg_row_eq, eb, kg_row_eq, ea, kg_row_eq]
  refine j_fill (by decide) (fun M14 r14 f14 => j_fill (by decide) (fun M17 r17 f17 => ?_))
  refine hK M17 (fun k a b c => by rw [r17 k c, r14 k b, rd k a]) ?_
  have e : M17 S = Md S := by rw [r17 S (by omega), r14 S (by omega)]
  refine ⟨by rw [e, qd]; rfl, by rw [e, qd]; rfl, ?_, ?_, fun g hg => absurd hg (Nat.not_lt_zero _), fun x y hx hy => ?_, fun x hx => ?_⟩
  · rw [e, qd]; rfl
  · rw [e, qd]; rfl
  · rw [if_pos rfl, r17 (S + 2) (by omega)]; exact f14 _ (by omega)
  · rw [f17 x hx]
    have : bs (fk (fun _ _ => 10) x) 7 = bs (fun _ => false) 7 := bs_cong (fun y _ => by unfold fk; rfl)
    rw [this, bs_zero]; rfl
def s00 : pS := (0, 0, 0, (fun _ => 0), (fun _ => 0), (fun _ => 0), (fun _ _ => 10))
theorem WF_0 : WF s00 := ⟨by omega, by omega, fun g hg => absurd hg (Nat.not_lt_zero _), fun _ => Nat.zero_le _, fun _ => Nat.zero_le _, fun _ _ => ⟨rfl, rfl⟩, fun _ _ => Nat.le_refl _, fun _ _ _ => rfl⟩
theorem c_begin0 {M : kg_M} {K : kg_M → Prop} (hd : RD M 109 s00) (hK : ∀ M' : kg_M, (∀ k, k ≠ 3 → k ≠ 4 → k ≠ 5 → M' k = M k) → RS M' 3 (nOf s00) → K M') : wp_X5_begin 109 M K := by
  intro Ba ea Bb eb Bc ec Bd ed Be ee Bf ef
  have rf : ∀ k, k ≠ 3 → Bf k = M k := fun k a => by rw [ef, kg_row_ne _ _ a, ee, kg_row_ne _ _ a, ed, kg_row_ne _ _ a, ec, kg_row_ne _ _ a, eb, kg_row_ne _ _ a, ea, kg_row_ne _ _ a]
  have cS : ∀ j, Bc 109 j = M 109 j := fun j => by rw [ec, kg_row_ne _ _ (by decide), eb, kg_row_ne _ _ (by decide), ea, kg_row_ne _ _ (by decide)]
  have dS : ∀ j, Bd 109 j = M 109 j := fun j => by rw [ed, kg_row_ne _ _ (by decide)]; exact cS j
  have q3 : Bf 3 = upd (upd (upd (upd (upd (upd (M 3) 0 0) 1 0) 2 0) 3 (M 109 2)) 4 (M 109 3)) 5 0 := by rw [ef, kg_row_eq, ee, kg_row_eq, dS, ed, kg_row_eq, cS, ec, kg_row_eq, eb, kg_row_eq, ea, kg_row_eq]
  refine j_fill (by decide) (fun Bg rg fg => j_fill (by decide) (fun Bh rh fh => hK Bh (fun k a b c => by rw [rh k c, rg k b, rf k a]) ?_))
  have b3 : Bh 3 = Bf 3 := by rw [rh 3 (by decide), rg 3 (by decide)]
  refine RS_new WF_0 (by rw [b3, q3]; rfl) (by rw [b3, q3]; rfl) (by rw [b3, q3]; rfl) ?_ ?_ (by rw [b3, q3]; rfl) (fun j hj => by rw [rh 4 (by decide)]; exact fg j hj) fh
  · rw [b3, q3, upd_ne (by decide), upd_ne (by decide), upd_eq]; exact hd.2.2.1
  · rw [b3, q3, upd_ne (by decide), upd_eq]; exact hd.2.2.2.1
/-- what both hold at the start -/
def sig0 : kS := (tOf s00, nOf s00, (0, fun _ _ => 0), ((fun _ _ => 0), (fun _ => 0), (fun _ => false)), 0, -1, (0, fun _ => 0), (0, (fun _ => 0), (fun _ => false)), (0, (fun _ => 0), (fun _ => 0)))
theorem CI_start {M : kg_M} (z : ∀ k, k ≠ 0 → k ≠ 3 → k ≠ 4 → k ≠ 5 → k ≠ 109 → k ≠ 111 → k ≠ 112 → k < 117 → ∀ j, M k j = 0) (h12 : M 0 12 = -1) (h13 : M 0 13 = 0) (hd : RD M 109 s00) (hs : RS M 3 (nOf s00)) : CI M 109 113 sig0 := by
  have z' : ∀ k, k ≠ 0 → k ≠ 3 → k ≠ 4 → k ≠ 5 → k ≠ 109 → k ≠ 111 → k ≠ 112 → k < 117 → ∀ j, M k j = nI 0 := z
  refine ⟨⟨WF_LW WF_0, RD_RC WF_0 hd⟩, ⟨WF_SW WF_0, hs⟩, ⟨by omega, z' 7 (by decide) (by decide) (by decide) (by decide) (by decide) (by decide) (by decide) (by decide) 2, 0, by decide, z' 7 (by decide) (by decide) (by decide) (by decide) (by decide) (by decide) (by decide) (by decide) 1, fun u hu => absurd hu (Nat.not_lt_zero _)⟩, fun i hi => ⟨z 106 (by decide) (by decide) (by decide) (by decide) (by decide) (by decide) (by decide) (by decide) i, fun h => Bool.noConfusion h⟩, ⟨by decide, h13⟩, h12, ⟨by omega, z' 1 (by decide) (by decide) (by decide) (by decide) (by decide) (by decide) (by decide) (by decide) 1, fun i hi => absurd hi (Nat.not_lt_zero _)⟩, ⟨by omega, fun k hk => absurd hk (Nat.not_lt_zero _), z' 89 (by decide) (by decide) (by decide) (by decide) (by decide) (by decide) (by decide) (by decide) 0, ?_, ?_⟩, ⟨by omega, z' 89 (by decide) (by decide) (by decide) (by decide) (by decide) (by decide) (by decide) (by decide) 3, fun k hk => absurd hk (Nat.not_lt_zero _)⟩, Or.inl ⟨rfl, rfl⟩⟩
  · rw [knS_0]; exact z' 89 (by decide) (by decide) (by decide) (by decide) (by decide) (by decide) (by decide) (by decide) 1
  · rw [knS_0]; exact z' 89 (by decide) (by decide) (by decide) (by decide) (by decide) (by decide) (by decide) (by decide) 2
set_option maxRecDepth 100000 in
set_option maxHeartbeats 4000000 in
theorem si_X7 {G : kg_G} {E : State → Array Value → Prop} {R0 : kg_R} {M0 : kg_M} (z0 : ∀ k, k < 1 → ∀ j, M0 k j = 0) : kg_Run G E qX7_init 2 0 [(0, .ref (kg_b G + 0))] [] M0 R0 1 116 1547 (fun r M' R' n' => r = none ∧ n' = 117 ∧ kg_O7 R' 117 109 113 ∧ CI M' 109 113 sig0) := by
  refine kg_Run.cost (kc := 0 + 3 + 1 + 3 + 1 + 1 + 1 + 1 + 3 + 1 + 3 + 1 + 1 + 1 + 1 + 2 + 1 + 2 + 1 + 81 + 1 + 3 + 1 + 1 + 1) (ks := 0 + 61 + 7 + 61 + 7 + 7 + 2 + 2 + 32 + 9 + 32 + 9 + 2 + 128 + 2 + 14 + 6 + 30 + 6 + 840 + 3 + 32 + 9 + 240 + 6) ?_ (by decide) (by decide)
  refine kr_aload_n 0 dX7_init_0 rfl (k := ?_)
  refine kr_objInit lkM_X7_1 (Nat.le_of_ble_eq_true rfl) dX7_init_1 (k := ?_)
  have e0 : R0 0 = R0 0 := rfl
  refine kr_aload_n 0 dX7_init_4 rfl (k := ?_)
  refine kn_new ckX6 lkK_X7_7 sh_1 (by decide) dX7_init_5 (fun M0a R0a em0 er0 => ?_)
  refine kr_dup dX7_init_8 rfl (k := ?_)
  refine kr_callIN [] [.ref (kg_b G + 1), .ref (kg_b G + 0)] miX6_init lkN_X7_9 dX7_init_9 (kg_rtN rfl) (si_X6 (a := 1) sh_1 sh_2 (by decide)) (fun r0 M0b R0b n0 hp0 => ?_) (hav := Nat.le_of_ble_eq_true rfl) (hrest := Nat.le_of_ble_eq_true rfl)
  obtain ⟨er0, en0, p1, p2, p3, p4⟩ := hp0
  subst er0 en0
  refine kn_putR 0 ckX7 lkF_X7_10 rfl (Or.inr ⟨rfl, rfl, rfl⟩) (fun _ => rfl) (fun _ => rfl) sh_0 (by decide) dX7_init_12 (fun R1 es1 => ?_)
  have z1 : ∀ k, k < 3 → ∀ j, M0b k j = 0 := Z_s z0 em0 (fun k hk => (p1 k hk).1) p2 p3
  have fr1 : ∀ k, 0 < k → k < 1 → R1 k = R0 k := fun k h1 h2 => by rw [es1, kg_rrow_ne _ _ (by omega), (p1 k h2).2, er0, kg_rrow_ne _ _ (by omega)]
  have f1 := kg_O6_r p4 (R' := R1) (by rw [es1, kg_rrow_ne _ _ (by decide)])
  have e1 : R1 0 = va_up (R0 0) 0 (some 1) := by rw [es1, kg_rrow_eq, (p1 0 (by decide)).2, er0, kg_rrow_ne _ _ (by decide), e0]
  refine kr_aload_n 0 dX7_init_15 rfl (k := ?_)
  refine kn_new ckX5 lkK_X7_16 sh_3 (by decide) dX7_init_16 (fun M1a R1a em1 er1 => ?_)
  refine kr_dup dX7_init_19 rfl (k := ?_)
  refine kr_callIN [] [.ref (kg_b G + 3), .ref (kg_b G + 0)] miX5_init lkN_X7_18 dX7_init_20 (kg_rtN rfl) (si_X5 (a := 3) sh_3 sh_4 sh_5 sh_6 (by decide)) (fun r1 M1b R1b n1 hp1 => ?_) (hav := Nat.le_of_ble_eq_true rfl) (hrest := Nat.le_of_ble_eq_true rfl)
  obtain ⟨er0, en0, p1, p2, p3, p4⟩ := hp1
  subst er0 en0
  refine kn_putR 1 ckX7 lkF_X7_19 rfl (Or.inr ⟨rfl, rfl, rfl⟩) (fun _ => rfl) (fun _ => rfl) sh_0 (by decide) dX7_init_23 (fun R2 es2 => ?_)
  have z2 : ∀ k, k < 7 → ∀ j, M1b k j = 0 := Z_s z1 em1 (fun k hk => (p1 k hk).1) p2 p3
  have fr2 : ∀ k, 0 < k → k < 3 → R2 k = R1 k := fun k h1 h2 => by rw [es2, kg_rrow_ne _ _ (by omega), (p1 k h2).2, er1, kg_rrow_ne _ _ (by omega)]
  have f1 := kg_O6_n (n' := 7) (kg_O6_r f1 (fr2 _ (by omega) (by omega))) (by omega)
  have f2 := kg_O5_r p4 (R' := R2) (by rw [es2, kg_rrow_ne _ _ (by decide)])
  have e2 : R2 0 = va_up (va_up (R0 0) 0 (some 1)) 1 (some 3) := by rw [es2, kg_rrow_eq, (p1 0 (by decide)).2, er1, kg_rrow_ne _ _ (by decide), e1]
  refine kr_aload_n 0 dX7_init_26 rfl (k := ?_)
  refine kn_new ckX4 lkK_X7_23 sh_7 (by decide) dX7_init_27 (fun M2a R2a em2 er2 => ?_)
  refine kr_dup dX7_init_30 rfl (k := ?_)
  refine kr_callI [] [.ref (kg_b G + 7), .ref (kg_b G + 0)] miX4_init lkM_X7_25 dX7_init_31 (kg_rtN rfl) si_X4 (fun r2 M2b R2b n2 hp2 => ?_) (hav := Nat.le_of_ble_eq_true rfl) (hrest := Nat.le_of_ble_eq_true rfl)
  obtain ⟨er0, en0, p1, p2, p3, p4⟩ := hp2
  subst er0 en0
  refine kn_putR 2 ckX7 lkF_X7_26 rfl (Or.inr ⟨rfl, rfl, rfl⟩) (fun _ => rfl) (fun _ => rfl) sh_0 (by decide) dX7_init_34 (fun R3 es3 => ?_)
  have z3 : ∀ k, k < 89 → ∀ j, M2b k j = 0 := Z_s z2 em2 (fun k hk => (p1 k hk).1) p2 p3
  have fr3 : ∀ k, 0 < k → k < 7 → R3 k = R2 k := fun k h1 h2 => by rw [es3, kg_rrow_ne _ _ (by omega), (p1 k h2).2, er2, kg_rrow_ne _ _ (by omega)]
  have f1 := kg_O6_n (n' := 89) (kg_O6_r f1 (fr3 _ (by omega) (by omega))) (by omega)
  have f2 := kg_O5_n (n' := 89) (kg_O5_r f2 (fr3 _ (by omega) (by omega))) (by omega)
  have f3 := kg_O4_r p4 (R' := R3) (fun k hk => by rw [es3, kg_rrow_ne _ _ (by omega)])
  have e3 : R3 0 = va_up (va_up (va_up (R0 0) 0 (some 1)) 1 (some 3)) 2 (some 7) := by rw [es3, kg_rrow_eq, (p1 0 (by decide)).2, er2, kg_rrow_ne _ _ (by decide), e2]
  refine kr_aload_n 0 dX7_init_37 rfl (k := ?_)
  refine kn_new ckX2 lkK_X7_30 sh_89 (by decide) dX7_init_38 (fun M3a R3a em3 er3 => ?_)
  refine kr_dup dX7_init_41 rfl (k := ?_)
  refine kr_callIN [] [.ref (kg_b G + 89), .ref (kg_b G + 0)] miX2_init lkN_X7_32 dX7_init_42 (kg_rtN rfl) (si_X2 (a := 89) sh_89 sh_90 sh_91 (by decide)) (fun r3 M3b R3b n3 hp3 => ?_) (hav := Nat.le_of_ble_eq_true rfl) (hrest := Nat.le_of_ble_eq_true rfl)
  obtain ⟨er0, en0, p1, p2, p3, p4⟩ := hp3
  subst er0 en0
  refine kn_putR 3 ckX7 lkF_X7_33 rfl (Or.inr ⟨rfl, rfl, rfl⟩) (fun _ => rfl) (fun _ => rfl) sh_0 (by decide) dX7_init_45 (fun R4 es4 => ?_)
  have z4 : ∀ k, k < 92 → ∀ j, M3b k j = 0 := Z_s z3 em3 (fun k hk => (p1 k hk).1) p2 p3
  have fr4 : ∀ k, 0 < k → k < 89 → R4 k = R3 k := fun k h1 h2 => by rw [es4, kg_rrow_ne _ _ (by omega), (p1 k h2).2, er3, kg_rrow_ne _ _ (by omega)]
  have f1 := kg_O6_n (n' := 92) (kg_O6_r f1 (fr4 _ (by omega) (by omega))) (by omega)
  have f2 := kg_O5_n (n' := 92) (kg_O5_r f2 (fr4 _ (by omega) (by omega))) (by omega)
  have f3 := kg_O4_m (n' := 92) f3 (fun k h1 h2 => fr4 k (by omega) (by omega)) (by omega)
  have f4 := kg_O2_r p4 (R' := R4) (by rw [es4, kg_rrow_ne _ _ (by decide)])
  have e4 : R4 0 = va_up (va_up (va_up (va_up (R0 0) 0 (some 1)) 1 (some 3)) 2 (some 7)) 3 (some 89) := by rw [es4, kg_rrow_eq, (p1 0 (by decide)).2, er3, kg_rrow_ne _ _ (by decide), e3]
  refine kr_aload_n 0 dX7_init_48 rfl (k := ?_)
  refine kn_new ckX3 lkK_X7_37 sh_92 (by decide) dX7_init_49 (fun M4a R4a em4 er4 => ?_)
  refine kr_dup dX7_init_52 rfl (k := ?_)
  refine kr_callIN [] [.ref (kg_b G + 92), .ref (kg_b G + 0)] miX3_init lkN_X7_39 dX7_init_53 (kg_rtN rfl) (si_X3 (a := 92) sh_92 sh_93 sh_94 (by decide)) (fun r4 M4b R4b n4 hp4 => ?_) (hav := Nat.le_of_ble_eq_true rfl) (hrest := Nat.le_of_ble_eq_true rfl)
  obtain ⟨er0, en0, p1, p2, p3, p4⟩ := hp4
  subst er0 en0
  refine kn_putR 4 ckX7 lkF_X7_40 rfl (Or.inr ⟨rfl, rfl, rfl⟩) (fun _ => rfl) (fun _ => rfl) sh_0 (by decide) dX7_init_56 (fun R5 es5 => ?_)
  have z5 : ∀ k, k < 95 → ∀ j, M4b k j = 0 := Z_s z4 em4 (fun k hk => (p1 k hk).1) p2 p3
  have fr5 : ∀ k, 0 < k → k < 92 → R5 k = R4 k := fun k h1 h2 => by rw [es5, kg_rrow_ne _ _ (by omega), (p1 k h2).2, er4, kg_rrow_ne _ _ (by omega)]
  have f1 := kg_O6_n (n' := 95) (kg_O6_r f1 (fr5 _ (by omega) (by omega))) (by omega)
  have f2 := kg_O5_n (n' := 95) (kg_O5_r f2 (fr5 _ (by omega) (by omega))) (by omega)
  have f3 := kg_O4_m (n' := 95) f3 (fun k h1 h2 => fr5 k (by omega) (by omega)) (by omega)
  have f4 := kg_O2_n (n' := 95) (kg_O2_r f4 (fr5 _ (by omega) (by omega))) (by omega)
  have f5 := kg_O3_r p4 (R' := R5) (by rw [es5, kg_rrow_ne _ _ (by decide)])
  have e5 : R5 0 = va_up (va_up (va_up (va_up (va_up (R0 0) 0 (some 1)) 1 (some 3)) 2 (some 7)) 3 (some 89)) 4 (some 92) := by rw [es5, kg_rrow_eq, (p1 0 (by decide)).2, er4, kg_rrow_ne _ _ (by decide), e4]
  refine kr_aload_n 0 dX7_init_59 rfl (k := ?_)
  refine kn_new ckX1 lkK_X7_44 sh_95 (by decide) dX7_init_60 (fun M5a R5a em5 er5 => ?_)
  refine kr_dup dX7_init_63 rfl (k := ?_)
  refine kr_callIN [] [.ref (kg_b G + 95), .ref (kg_b G + 0)] miX1_init lkN_X7_46 dX7_init_64 (kg_rtN rfl) (si_X1 (a := 95) sh_95 sh_96 (by decide)) (fun r5 M5b R5b n5 hp5 => ?_) (hav := Nat.le_of_ble_eq_true rfl) (hrest := Nat.le_of_ble_eq_true rfl)
  obtain ⟨er0, en0, p1, p2, p3, p4⟩ := hp5
  subst er0 en0
  refine kn_putR 5 ckX7 lkF_X7_47 rfl (Or.inr ⟨rfl, rfl, rfl⟩) (fun _ => rfl) (fun _ => rfl) sh_0 (by decide) dX7_init_67 (fun R6 es6 => ?_)
  have z6 : ∀ k, k < 97 → ∀ j, M5b k j = 0 := Z_s z5 em5 (fun k hk => (p1 k hk).1) p2 p3
  have fr6 : ∀ k, 0 < k → k < 95 → R6 k = R5 k := fun k h1 h2 => by rw [es6, kg_rrow_ne _ _ (by omega), (p1 k h2).2, er5, kg_rrow_ne _ _ (by omega)]
  have f1 := kg_O6_n (n' := 97) (kg_O6_r f1 (fr6 _ (by omega) (by omega))) (by omega)
  have f2 := kg_O5_n (n' := 97) (kg_O5_r f2 (fr6 _ (by omega) (by omega))) (by omega)
  have f3 := kg_O4_m (n' := 97) f3 (fun k h1 h2 => fr6 k (by omega) (by omega)) (by omega)
  have f4 := kg_O2_n (n' := 97) (kg_O2_r f4 (fr6 _ (by omega) (by omega))) (by omega)
  have f5 := kg_O3_n (n' := 97) (kg_O3_r f5 (fr6 _ (by omega) (by omega))) (by omega)
  have f6 := kg_O1_r p4 (R' := R6) (by rw [es6, kg_rrow_ne _ _ (by decide)])
  have e6 : R6 0 = va_up (va_up (va_up (va_up (va_up (va_up (R0 0) 0 (some 1)) 1 (some 3)) 2 (some 7)) 3 (some 89)) 4 (some 92)) 5 (some 95) := by rw [es6, kg_rrow_eq, (p1 0 (by decide)).2, er5, kg_rrow_ne _ _ (by decide), e5]
  refine kr_aload_n 0 dX7_init_70 rfl (k := ?_)
  refine kr_iconst (2 : Int32) dX7_init_71 (k := ?_)
  refine kn_newa 2 lkK_X7_16 sh_97 (by decide) (by decide) (by decide) (by decide) dX7_init_72 (fun M6a R6a em6 er6 => ?_)
  refine kn_putR 6 ckX7 lkF_X7_51 rfl (Or.inr ⟨rfl, rfl, rfl⟩) (fun _ => rfl) (fun _ => rfl) sh_0 (by decide) dX7_init_75 (fun R7 es7 => ?_)
  have z7 : ∀ k, k < 98 → ∀ j, M6a k j = 0 := Z_a z6 em6
  have fr7 : ∀ k, 0 < k → k < 97 → R7 k = R6 k := fun k h1 h2 => by rw [es7, kg_rrow_ne _ _ (by omega), er6, kg_rrow_ne _ _ (by omega)]
  have f1 := kg_O6_n (n' := 98) (kg_O6_r f1 (fr7 _ (by omega) (by omega))) (by omega)
  have f2 := kg_O5_n (n' := 98) (kg_O5_r f2 (fr7 _ (by omega) (by omega))) (by omega)
  have f3 := kg_O4_m (n' := 98) f3 (fun k h1 h2 => fr7 k (by omega) (by omega)) (by omega)
  have f4 := kg_O2_n (n' := 98) (kg_O2_r f4 (fr7 _ (by omega) (by omega))) (by omega)
  have f5 := kg_O3_n (n' := 98) (kg_O3_r f5 (fr7 _ (by omega) (by omega))) (by omega)
  have f6 := kg_O1_n (n' := 98) (kg_O1_r f6 (fr7 _ (by omega) (by omega))) (by omega)
  have e7 : R7 0 = va_up (va_up (va_up (va_up (va_up (va_up (va_up (R0 0) 0 (some 1)) 1 (some 3)) 2 (some 7)) 3 (some 89)) 4 (some 92)) 5 (some 95)) 6 (some 97) := by rw [es7, kg_rrow_eq, er6, kg_rrow_ne _ _ (by decide), e6]
  refine kr_iconst (0 : Int32) dX7_init_78 (k := ?_)
  refine kr_istore_n [(1, .int 0), (0, .ref (kg_b G + 0))] dX7_init_79 (k := ?_)
  refine kr_iload_n 0 dX7_init_80 rfl (k := ?_)
  refine kr_iconst (2 : Int32) dX7_init_81 (k := ?_)
  refine kr_icmp_ge 104 dX7_init_82 (fun c => absurd c (by decide)) (fun _ => ?_)
  refine kr_aload_n 1 dX7_init_85 rfl (k := ?_)
  refine kr_getR 6 ckX7 lkF_X7_51 rfl sh_0 (by decide) (v := 97) (by rw [e7]; rfl) dX7_init_86 (k := ?_)
  refine kr_iload_n 0 dX7_init_89 rfl (k := ?_)
  refine kn_new ckX5 lkK_X7_16 sh_98 (by decide) dX7_init_90 (fun M7a R7a em7 er7 => ?_)
  refine kr_dup dX7_init_93 rfl (k := ?_)
  refine kr_callIN [] [.ref (kg_b G + 98), .int (0), .ref (kg_b G + 97)] miX5_init lkN_X7_18 dX7_init_94 (kg_rtN rfl) (si_X5 (a := 98) sh_98 sh_99 sh_100 sh_101 (by decide)) (fun r7 M7b R7b n7 hp7 => ?_) (hav := Nat.le_of_ble_eq_true rfl) (hrest := Nat.le_of_ble_eq_true rfl)
  obtain ⟨er0, en0, p1, p2, p3, p4⟩ := hp7
  subst er0 en0
  refine kn_aast sh_97 (by decide) (lit_in 0 2 (by decide) (by decide)) sh_98 (by decide) dX7_init_97 (fun R8 es8 => ?_)
  have z8 : ∀ k, k < 102 → ∀ j, M7b k j = 0 := Z_s z7 em7 (fun k hk => (p1 k hk).1) p2 p3
  have fr8 : ∀ k, k ≠ 97 → k < 98 → R8 k = R7 k := fun k h1 h2 => by rw [es8, kg_rrow_ne _ _ h1, (p1 k h2).2, er7, kg_rrow_ne _ _ (by omega)]
  have f1 := kg_O6_n (n' := 102) (kg_O6_r f1 (fr8 _ (by omega) (by omega))) (by omega)
  have f2 := kg_O5_n (n' := 102) (kg_O5_r f2 (fr8 _ (by omega) (by omega))) (by omega)
  have f3 := kg_O4_m (n' := 102) f3 (fun k h1 h2 => fr8 k (by omega) (by omega)) (by omega)
  have f4 := kg_O2_n (n' := 102) (kg_O2_r f4 (fr8 _ (by omega) (by omega))) (by omega)
  have f5 := kg_O3_n (n' := 102) (kg_O3_r f5 (fr8 _ (by omega) (by omega))) (by omega)
  have f6 := kg_O1_n (n' := 102) (kg_O1_r f6 (fr8 _ (by omega) (by omega))) (by omega)
  have f8 := kg_O5_r p4 (R' := R8) (by rw [es8, kg_rrow_ne _ _ (by decide)])
  have e8 : R8 0 = va_up (va_up (va_up (va_up (va_up (va_up (va_up (R0 0) 0 (some 1)) 1 (some 3)) 2 (some 7)) 3 (some 89)) 4 (some 92)) 5 (some 95)) 6 (some 97) := by rw [fr8 0 (by decide) (by decide), e7]
  have i0 : R8 97 0 = some 98 := by rw [es8, kg_rrow_eq]; rfl
  refine kr_iinc (1 : Int32) 0 [(1, .int (0 + 1)), (0, .ref (kg_b G + 0))] dX7_init_98 rfl (k := ?_)
  refine kr_goto 80 dX7_init_101 ?_
  refine kr_iload_n 0 dX7_init_80 rfl (k := ?_)
  refine kr_iconst (2 : Int32) dX7_init_81 (k := ?_)
  refine kr_icmp_ge 104 dX7_init_82 (fun c => absurd c (by decide)) (fun _ => ?_)
  refine kr_aload_n 1 dX7_init_85 rfl (k := ?_)
  refine kr_getR 6 ckX7 lkF_X7_51 rfl sh_0 (by decide) (v := 97) (by rw [e8]; rfl) dX7_init_86 (k := ?_)
  refine kr_iload_n 0 dX7_init_89 rfl (k := ?_)
  refine kn_new ckX5 lkK_X7_16 sh_102 (by decide) dX7_init_90 (fun M8a R8a em8 er8 => ?_)
  refine kr_dup dX7_init_93 rfl (k := ?_)
  refine kr_callIN [] [.ref (kg_b G + 102), .int (0 + 1), .ref (kg_b G + 97)] miX5_init lkN_X7_18 dX7_init_94 (kg_rtN rfl) (si_X5 (a := 102) sh_102 sh_103 sh_104 sh_105 (by decide)) (fun r8 M8b R8b n8 hp8 => ?_) (hav := Nat.le_of_ble_eq_true rfl) (hrest := Nat.le_of_ble_eq_true rfl)
  obtain ⟨er0, en0, p1, p2, p3, p4⟩ := hp8
  subst er0 en0
  refine kn_aast sh_97 (by decide) (lit_in 1 2 (by decide) (by decide)) sh_102 (by decide) dX7_init_97 (fun R9 es9 => ?_)
  have z9 : ∀ k, k < 106 → ∀ j, M8b k j = 0 := Z_s z8 em8 (fun k hk => (p1 k hk).1) p2 p3
  have fr9 : ∀ k, k ≠ 97 → k < 102 → R9 k = R8 k := fun k h1 h2 => by rw [es9, kg_rrow_ne _ _ h1, (p1 k h2).2, er8, kg_rrow_ne _ _ (by omega)]
  have f1 := kg_O6_n (n' := 106) (kg_O6_r f1 (fr9 _ (by omega) (by omega))) (by omega)
  have f2 := kg_O5_n (n' := 106) (kg_O5_r f2 (fr9 _ (by omega) (by omega))) (by omega)
  have f3 := kg_O4_m (n' := 106) f3 (fun k h1 h2 => fr9 k (by omega) (by omega)) (by omega)
  have f4 := kg_O2_n (n' := 106) (kg_O2_r f4 (fr9 _ (by omega) (by omega))) (by omega)
  have f5 := kg_O3_n (n' := 106) (kg_O3_r f5 (fr9 _ (by omega) (by omega))) (by omega)
  have f6 := kg_O1_n (n' := 106) (kg_O1_r f6 (fr9 _ (by omega) (by omega))) (by omega)
  have f8 := kg_O5_n (n' := 106) (kg_O5_r f8 (fr9 _ (by omega) (by omega))) (by omega)
  have f9 := kg_O5_r p4 (R' := R9) (by rw [es9, kg_rrow_ne _ _ (by decide)])
  have e9 : R9 0 = va_up (va_up (va_up (va_up (va_up (va_up (va_up (R0 0) 0 (some 1)) 1 (some 3)) 2 (some 7)) 3 (some 89)) 4 (some 92)) 5 (some 95)) 6 (some 97) := by rw [fr9 0 (by decide) (by decide), e8]
  have i1 : R9 97 1 = some 102 := by rw [es9, kg_rrow_eq]; rfl
  have i0 : R9 97 0 = some 98 := by rw [es9, kg_rrow_eq, ru_ne (by decide), (p1 97 (by decide)).2, er8, kg_rrow_ne _ _ (by decide)]; exact i0
  refine kr_iinc (1 : Int32) 0 [(1, .int (0 + 1 + 1)), (0, .ref (kg_b G + 0))] dX7_init_98 rfl (k := ?_)
  refine kr_goto 80 dX7_init_101 ?_
  refine kr_iload_n 0 dX7_init_80 rfl (k := ?_)
  refine kr_iconst (2 : Int32) dX7_init_81 (k := ?_)
  refine kr_icmp_ge 104 dX7_init_82 (fun _ => ?_) (fun c => absurd (by decide) c)
  refine kr_sub [1] [(0, .ref (kg_b G + 0))] rfl ?_
  refine kr_aload_n 0 dX7_init_104 rfl (k := ?_)
  refine kr_iconst (2 : Int32) dX7_init_105 (k := ?_)
  refine kn_newz 2 sh_106 (by decide) (by decide) (by decide) (by decide) dX7_init_106 (fun M9a R9a em9 er9 => ?_)
  refine kn_putR 7 ckX7 lkF_X7_55 rfl (Or.inr ⟨rfl, rfl, rfl⟩) (fun _ => rfl) (fun _ => rfl) sh_0 (by decide) dX7_init_108 (fun R10 es10 => ?_)
  have z10 : ∀ k, k < 107 → ∀ j, M9a k j = 0 := Z_a z9 em9
  have fr10 : ∀ k, 0 < k → k < 106 → R10 k = R9 k := fun k h1 h2 => by rw [es10, kg_rrow_ne _ _ (by omega), er9, kg_rrow_ne _ _ (by omega)]
  have f1 := kg_O6_n (n' := 107) (kg_O6_r f1 (fr10 _ (by omega) (by omega))) (by omega)
  have f2 := kg_O5_n (n' := 107) (kg_O5_r f2 (fr10 _ (by omega) (by omega))) (by omega)
  have f3 := kg_O4_m (n' := 107) f3 (fun k h1 h2 => fr10 k (by omega) (by omega)) (by omega)
  have f4 := kg_O2_n (n' := 107) (kg_O2_r f4 (fr10 _ (by omega) (by omega))) (by omega)
  have f5 := kg_O3_n (n' := 107) (kg_O3_r f5 (fr10 _ (by omega) (by omega))) (by omega)
  have f6 := kg_O1_n (n' := 107) (kg_O1_r f6 (fr10 _ (by omega) (by omega))) (by omega)
  have f8 := kg_O5_n (n' := 107) (kg_O5_r f8 (fr10 _ (by omega) (by omega))) (by omega)
  have f9 := kg_O5_n (n' := 107) (kg_O5_r f9 (fr10 _ (by omega) (by omega))) (by omega)
  have i0 := (congrFun (fr10 97 (by decide) (by decide)) 0).trans i0
  have i1 := (congrFun (fr10 97 (by decide) (by decide)) 1).trans i1
  have e10 : R10 0 = va_up (va_up (va_up (va_up (va_up (va_up (va_up (va_up (R0 0) 0 (some 1)) 1 (some 3)) 2 (some 7)) 3 (some 89)) 4 (some 92)) 5 (some 95)) 6 (some 97)) 7 (some 106) := by rw [es10, kg_rrow_eq, er9, kg_rrow_ne _ _ (by decide), e9]
  refine kr_aload_n 0 dX7_init_111 rfl (k := ?_)
  refine kr_iconst (2 : Int32) dX7_init_112 (k := ?_)
  refine kn_newi 2 sh_107 (by decide) (by decide) (by decide) (by decide) dX7_init_113 (fun M10a R10a em10 er10 => ?_)
  refine kn_putR 8 ckX7 lkF_X7_59 rfl (Or.inr ⟨rfl, rfl, rfl⟩) (fun _ => rfl) (fun _ => rfl) sh_0 (by decide) dX7_init_115 (fun R11 es11 => ?_)
  have z11 : ∀ k, k < 108 → ∀ j, M10a k j = 0 := Z_a z10 em10
  have fr11 : ∀ k, 0 < k → k < 107 → R11 k = R10 k := fun k h1 h2 => by rw [es11, kg_rrow_ne _ _ (by omega), er10, kg_rrow_ne _ _ (by omega)]
  have f1 := kg_O6_n (n' := 108) (kg_O6_r f1 (fr11 _ (by omega) (by omega))) (by omega)
  have f2 := kg_O5_n (n' := 108) (kg_O5_r f2 (fr11 _ (by omega) (by omega))) (by omega)
  have f3 := kg_O4_m (n' := 108) f3 (fun k h1 h2 => fr11 k (by omega) (by omega)) (by omega)
  have f4 := kg_O2_n (n' := 108) (kg_O2_r f4 (fr11 _ (by omega) (by omega))) (by omega)
  have f5 := kg_O3_n (n' := 108) (kg_O3_r f5 (fr11 _ (by omega) (by omega))) (by omega)
  have f6 := kg_O1_n (n' := 108) (kg_O1_r f6 (fr11 _ (by omega) (by omega))) (by omega)
  have f8 := kg_O5_n (n' := 108) (kg_O5_r f8 (fr11 _ (by omega) (by omega))) (by omega)
  have f9 := kg_O5_n (n' := 108) (kg_O5_r f9 (fr11 _ (by omega) (by omega))) (by omega)
  have i0 := (congrFun (fr11 97 (by decide) (by decide)) 0).trans i0
  have i1 := (congrFun (fr11 97 (by decide) (by decide)) 1).trans i1
  have e11 : R11 0 = va_up (va_up (va_up (va_up (va_up (va_up (va_up (va_up (va_up (R0 0) 0 (some 1)) 1 (some 3)) 2 (some 7)) 3 (some 89)) 4 (some 92)) 5 (some 95)) 6 (some 97)) 7 (some 106)) 8 (some 107) := by rw [es11, kg_rrow_eq, er10, kg_rrow_ne _ _ (by decide), e10]
  refine kr_aload_n 0 dX7_init_118 rfl (k := ?_)
  refine kr_bipush (7 : Int32) dX7_init_119 (k := ?_)
  refine kn_newi 7 sh_108 (by decide) (by decide) (by decide) (by decide) dX7_init_121 (fun M11a R11a em11 er11 => ?_)
  refine kn_putR 9 ckX7 lkF_X7_63 rfl (Or.inr ⟨rfl, rfl, rfl⟩) (fun _ => rfl) (fun _ => rfl) sh_0 (by decide) dX7_init_123 (fun R12 es12 => ?_)
  have z12 : ∀ k, k < 109 → ∀ j, M11a k j = 0 := Z_a z11 em11
  have fr12 : ∀ k, 0 < k → k < 108 → R12 k = R11 k := fun k h1 h2 => by rw [es12, kg_rrow_ne _ _ (by omega), er11, kg_rrow_ne _ _ (by omega)]
  have f1 := kg_O6_n (n' := 109) (kg_O6_r f1 (fr12 _ (by omega) (by omega))) (by omega)
  have f2 := kg_O5_n (n' := 109) (kg_O5_r f2 (fr12 _ (by omega) (by omega))) (by omega)
  have f3 := kg_O4_m (n' := 109) f3 (fun k h1 h2 => fr12 k (by omega) (by omega)) (by omega)
  have f4 := kg_O2_n (n' := 109) (kg_O2_r f4 (fr12 _ (by omega) (by omega))) (by omega)
  have f5 := kg_O3_n (n' := 109) (kg_O3_r f5 (fr12 _ (by omega) (by omega))) (by omega)
  have f6 := kg_O1_n (n' := 109) (kg_O1_r f6 (fr12 _ (by omega) (by omega))) (by omega)
  have f8 := kg_O5_n (n' := 109) (kg_O5_r f8 (fr12 _ (by omega) (by omega))) (by omega)
  have f9 := kg_O5_n (n' := 109) (kg_O5_r f9 (fr12 _ (by omega) (by omega))) (by omega)
  have i0 := (congrFun (fr12 97 (by decide) (by decide)) 0).trans i0
  have i1 := (congrFun (fr12 97 (by decide) (by decide)) 1).trans i1
  have e12 : R12 0 = va_up (va_up (va_up (va_up (va_up (va_up (va_up (va_up (va_up (va_up (R0 0) 0 (some 1)) 1 (some 3)) 2 (some 7)) 3 (some 89)) 4 (some 92)) 5 (some 95)) 6 (some 97)) 7 (some 106)) 8 (some 107)) 9 (some 108) := by rw [es12, kg_rrow_eq, er11, kg_rrow_ne _ _ (by decide), e11]
  refine kr_aload_n 0 dX7_init_126 rfl (k := ?_)
  refine kn_new ckX0 lkK_X7_66 sh_109 (by decide) dX7_init_127 (fun M12a R12a em12 er12 => ?_)
  refine kr_dup dX7_init_130 rfl (k := ?_)
  refine kr_callIN [] [.ref (kg_b G + 109), .ref (kg_b G + 0)] miX0_init lkN_X7_68 dX7_init_131 (kg_rtN rfl) (si_X0 (a := 109) sh_109 sh_110 sh_111 sh_112 (by decide)) (fun r12 M12b R12b n12 hp12 => ?_) (hav := Nat.le_of_ble_eq_true rfl) (hrest := Nat.le_of_ble_eq_true rfl)
  obtain ⟨er0, en0, p1, p2, p3, p4⟩ := hp12
  subst er0 en0
  refine kn_putR 10 ckX7 lkF_X7_69 rfl (Or.inl rfl) (fun _ => rfl) (fun _ => rfl) sh_0 (by decide) dX7_init_134 (fun R13 es13 => ?_)
  have z13 : ∀ k, k < 113 → ∀ j, M12b k j = 0 := Z_s z12 em12 (fun k hk => (p1 k hk).1) p2 p3
  have fr13 : ∀ k, 0 < k → k < 109 → R13 k = R12 k := fun k h1 h2 => by rw [es13, kg_rrow_ne _ _ (by omega), (p1 k h2).2, er12, kg_rrow_ne _ _ (by omega)]
  have f1 := kg_O6_n (n' := 113) (kg_O6_r f1 (fr13 _ (by omega) (by omega))) (by omega)
  have f2 := kg_O5_n (n' := 113) (kg_O5_r f2 (fr13 _ (by omega) (by omega))) (by omega)
  have f3 := kg_O4_m (n' := 113) f3 (fun k h1 h2 => fr13 k (by omega) (by omega)) (by omega)
  have f4 := kg_O2_n (n' := 113) (kg_O2_r f4 (fr13 _ (by omega) (by omega))) (by omega)
  have f5 := kg_O3_n (n' := 113) (kg_O3_r f5 (fr13 _ (by omega) (by omega))) (by omega)
  have f6 := kg_O1_n (n' := 113) (kg_O1_r f6 (fr13 _ (by omega) (by omega))) (by omega)
  have f8 := kg_O5_n (n' := 113) (kg_O5_r f8 (fr13 _ (by omega) (by omega))) (by omega)
  have f9 := kg_O5_n (n' := 113) (kg_O5_r f9 (fr13 _ (by omega) (by omega))) (by omega)
  have i0 := (congrFun (fr13 97 (by decide) (by decide)) 0).trans i0
  have i1 := (congrFun (fr13 97 (by decide) (by decide)) 1).trans i1
  have f13 := kg_O0_r p4 (R' := R13) (by rw [es13, kg_rrow_ne _ _ (by decide)])
  have e13 : R13 0 = va_up (va_up (va_up (va_up (va_up (va_up (va_up (va_up (va_up (va_up (va_up (R0 0) 0 (some 1)) 1 (some 3)) 2 (some 7)) 3 (some 89)) 4 (some 92)) 5 (some 95)) 6 (some 97)) 7 (some 106)) 8 (some 107)) 9 (some 108)) 10 (some 109) := by rw [es13, kg_rrow_eq, (p1 0 (by decide)).2, er12, kg_rrow_ne _ _ (by decide), e12]
  refine kr_aload_n 0 dX7_init_137 rfl (k := ?_)
  refine kn_new ckX0 lkK_X7_66 sh_113 (by decide) dX7_init_138 (fun M13a R13a em13 er13 => ?_)
  refine kr_dup dX7_init_141 rfl (k := ?_)
  refine kr_callIN [] [.ref (kg_b G + 113), .ref (kg_b G + 0)] miX0_init lkN_X7_68 dX7_init_142 (kg_rtN rfl) (si_X0 (a := 113) sh_113 sh_114 sh_115 sh_116 (by decide)) (fun r13 M13b R13b n13 hp13 => ?_) (hav := Nat.le_of_ble_eq_true rfl) (hrest := Nat.le_of_ble_eq_true rfl)
  obtain ⟨er0, en0, p1, p2, p3, p4⟩ := hp13
  subst er0 en0
  refine kn_putR 11 ckX7 lkF_X7_73 rfl (Or.inl rfl) (fun _ => rfl) (fun _ => rfl) sh_0 (by decide) dX7_init_145 (fun R14 es14 => ?_)
  have z14 : ∀ k, k < 117 → ∀ j, M13b k j = 0 := Z_s z13 em13 (fun k hk => (p1 k hk).1) p2 p3
  have fr14 : ∀ k, 0 < k → k < 113 → R14 k = R13 k := fun k h1 h2 => by rw [es14, kg_rrow_ne _ _ (by omega), (p1 k h2).2, er13, kg_rrow_ne _ _ (by omega)]
  have f1 := kg_O6_n (n' := 117) (kg_O6_r f1 (fr14 _ (by omega) (by omega))) (by omega)
  have f2 := kg_O5_n (n' := 117) (kg_O5_r f2 (fr14 _ (by omega) (by omega))) (by omega)
  have f3 := kg_O4_m (n' := 117) f3 (fun k h1 h2 => fr14 k (by omega) (by omega)) (by omega)
  have f4 := kg_O2_n (n' := 117) (kg_O2_r f4 (fr14 _ (by omega) (by omega))) (by omega)
  have f5 := kg_O3_n (n' := 117) (kg_O3_r f5 (fr14 _ (by omega) (by omega))) (by omega)
  have f6 := kg_O1_n (n' := 117) (kg_O1_r f6 (fr14 _ (by omega) (by omega))) (by omega)
  have f8 := kg_O5_n (n' := 117) (kg_O5_r f8 (fr14 _ (by omega) (by omega))) (by omega)
  have f9 := kg_O5_n (n' := 117) (kg_O5_r f9 (fr14 _ (by omega) (by omega))) (by omega)
  have f13 := kg_O0_n (n' := 117) (kg_O0_r f13 (fr14 _ (by omega) (by omega))) (by omega)
  have i0 := (congrFun (fr14 97 (by decide) (by decide)) 0).trans i0
  have i1 := (congrFun (fr14 97 (by decide) (by decide)) 1).trans i1
  have f14 := kg_O0_r p4 (R' := R14) (by rw [es14, kg_rrow_ne _ _ (by decide)])
  have e14 : R14 0 = va_up (va_up (va_up (va_up (va_up (va_up (va_up (va_up (va_up (va_up (va_up (va_up (R0 0) 0 (some 1)) 1 (some 3)) 2 (some 7)) 3 (some 89)) 4 (some 92)) 5 (some 95)) 6 (some 97)) 7 (some 106)) 8 (some 107)) 9 (some 108)) 10 (some 109)) 11 (some 113) := by rw [es14, kg_rrow_eq, (p1 0 (by decide)).2, er13, kg_rrow_ne _ _ (by decide), e13]
  have hk : kg_O7 R14 117 109 113 := ⟨by decide, by rw [e14]; rfl, by rw [e14]; rfl, by rw [e14]; rfl, by rw [e14]; rfl, by rw [e14]; rfl, by rw [e14]; rfl, by rw [e14]; rfl, by rw [e14]; rfl, by rw [e14]; rfl, by rw [e14]; rfl, by rw [e14]; rfl, by rw [e14]; rfl, f1, f2, f3, f4, f5, f6, f13, f14, fun i hi => ?_, by decide⟩
  rotate_left
  · rcases (show i = 0 ∨ i = 1 by omega) with rfl | rfl
    · exact ⟨i0, f8⟩
    · exact ⟨i1, f9⟩
  refine kr_aload_n 0 dX7_init_148 rfl (k := ?_)
  refine kr_getR 10 ckX7 lkF_X7_69 rfl (kg_o7a hk) (kg_o7n hk) (kg_o7r10 hk) dX7_init_149 (k := ?_)
  refine kn_callVv [] [] mvX0_empty lkM_X7_76 (kg_o0a (kg_o7_land hk)) rfl (kg_o0n (kg_o7_land hk)) dX7_init_152 (sp_X0_empty (kg_o7_land hk) (c_empty (S := 109) (Or.inl rfl) (K := fun Mc => (∀ k, k ≠ 109 → k ≠ 111 → k ≠ 112 → Mc k = M13b k) ∧ RD Mc 109 (0, 0, 0, (fun _ => 0), (fun _ => 0), (fun _ => 0), (fun _ _ => 10))) (fun Mc a b => ⟨a, b⟩))) (fun Mc hc => ?_)
  refine kr_aload_n 0 dX7_init_155 rfl (k := ?_)
  refine kr_getR 1 ckX7 lkF_X7_19 rfl (kg_o7a hk) (kg_o7n hk) (kg_o7r1 hk) dX7_init_156 (k := ?_)
  refine kr_aload_n 0 dX7_init_159 rfl (k := ?_)
  refine kr_getR 10 ckX7 lkF_X7_69 rfl (kg_o7a hk) (kg_o7n hk) (kg_o7r10 hk) dX7_init_160 (k := ?_)
  refine kn_callVv [.ref (kg_b G + 109)] [] mvX5_begin lkM_X7_79 (kg_o5a (kg_o7_state hk)) rfl (kg_o5n (kg_o7_state hk)) dX7_init_163 (sp_X5_begin (kg_o7_state hk) (kg_o7_land hk) (c_begin0 (K := fun Md => (∀ k, k ≠ 3 → k ≠ 4 → k ≠ 5 → Md k = Mc k) ∧ RS Md 3 (nOf (0, 0, 0, (fun _ => 0), (fun _ => 0), (fun _ => 0), (fun _ _ => 10)))) hc.2 (fun Md a b => ⟨a, b⟩))) (fun Md hd => ?_)
  refine kr_aload_n 0 dX7_init_166 rfl (k := ?_)
  refine kr_iconst (-1 : Int32) dX7_init_167 (k := ?_)
  refine kn_putI 12 ckX7 lkF_X7_83 rfl rfl rfl rfl (kg_o7a hk) (kg_o7n hk) dX7_init_168 (fun Me ee => ?_)
  refine kr_aload_n 0 dX7_init_171 rfl (k := ?_)
  refine kr_iconst (0 : Int32) dX7_init_172 (k := ?_)
  refine kn_putI 13 ckX7 lkF_X7_87 rfl rfl rfl rfl (kg_o7a hk) (kg_o7n hk) dX7_init_173 (fun Mf ef => ?_)
  refine kr_return dX7_init_176 ⟨rfl, rfl, hk, CI_start (fun k a b c d e f g => ?_) (by rw [ef, kg_row_eq, upd_ne (by decide), ee, kg_row_eq, upd_eq]) (by rw [ef, kg_row_eq, upd_eq]) ?_ ?_⟩
  · intro hlt j; rw [ef, kg_row_ne _ _ a, ee, kg_row_ne _ _ a, hd.1 k b c d, hc.1 k e f g]; exact z14 k (by omega) j
  · exact RD_at (by omega) (fun k hk => by rw [ef, kg_row_ne _ _ (by omega), ee, kg_row_ne _ _ (by omega), hd.1 k (by omega) (by omega) (by omega)]) hc.2
  · exact RS_of (by rw [ef, kg_row_ne _ _ (by decide), ee, kg_row_ne _ _ (by decide)]) (by rw [ef, kg_row_ne _ _ (by decide), ee, kg_row_ne _ _ (by decide)]) (by rw [ef, kg_row_ne _ _ (by decide), ee, kg_row_ne _ _ (by decide)]) (by rw [ef, kg_row_ne _ _ (by decide), ee, kg_row_ne _ _ (by decide)]) hd.2

