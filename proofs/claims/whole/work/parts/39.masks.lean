/-! ===== sides, the reference ===== -/
def apL (s k : Nat) : Bool := k == 21 || (s.testBit (pO k) != s.testBit (pT k))
/-- code c may be gone in an hour from the sides s -/
def cmB (T : kT) (s c : Nat) : Bool := okC T (cA c) (cB c) (cC c) && apL s (cA c) && apL s (cB c) && apL s (cC c)
def wBc (c : Nat) : Nat := wB (cA c) (cB c) (cC c)
def wSc (c : Nat) : Nat → Nat := wS (cA c) (cB c) (cC c)
def kOk (T : kT) (most c : Nat) : Prop := okC T (cA c) (cB c) (cC c) = true ∧ 0 < wBc c ∧ cn (wSc c) ≤ 2 * most
theorem okC_S {T : kT} {a b c : Nat} (h : okC T a b c = true) : okS a b c = true := by
  unfold okC at h; simp only [Bool.and_eq_true] at h; exact h.1.1.1
theorem cmB_DF {T : kT} {s c : Nat} (h : cmB T s c = true) : okS (cA c) (cB c) (cC c) = true ∧ okL (DF T (fun i => s.testBit i)) (cA c) = true ∧ okL (DF T (fun i => s.testBit i)) (cB c) = true ∧ okL (DF T (fun i => s.testBit i)) (cC c) = true := by
  unfold cmB okC at h
  simp only [Bool.and_eq_true] at h
  obtain ⟨⟨⟨⟨⟨⟨h1, h2⟩, h3⟩, h4⟩, h5⟩, h6⟩, h7⟩ := h
  have one : ∀ k, okL (fo T) k = true → apL s k = true → okL (DF T (fun i => s.testBit i)) k = true := fun k a b => by
    unfold okL apL at *
    unfold DF
    simp only [Bool.or_eq_true, Bool.and_eq_true] at *
    rcases a with a | a
    · exact Or.inl a
    · rcases b with b | b
      · exact Or.inl b
      · exact Or.inr ⟨a, b⟩
  exact ⟨h1, one _ h2 h5, one _ h3 h6, one _ h4 h7⟩
theorem DF_cmB {T : kT} {s c : Nat} (h : okS (cA c) (cB c) (cC c) = true) (ha : okL (DF T (fun i => s.testBit i)) (cA c) = true) (hb : okL (DF T (fun i => s.testBit i)) (cB c) = true) (hc : okL (DF T (fun i => s.testBit i)) (cC c) = true) : okC T (cA c) (cB c) (cC c) = true ∧ cmB T s c = true := by
  have one : ∀ k, okL (DF T (fun i => s.testBit i)) k = true → okL (fo T) k = true ∧ apL s k = true := fun k a => by
    unfold okL at a ⊢
    unfold apL
    unfold DF at a
    simp only [Bool.or_eq_true, Bool.and_eq_true] at *
    rcases a with a | a
    · exact ⟨Or.inl a, Or.inl a⟩
    · exact ⟨Or.inr a.1, Or.inr a.2⟩
  have e : okC T (cA c) (cB c) (cC c) = true := by unfold okC; rw [h, (one _ ha).1, (one _ hb).1, (one _ hc).1]; rfl
  refine ⟨e, ?_⟩
  unfold cmB
  rw [e, (one _ ha).2, (one _ hb).2, (one _ hc).2]; rfl
theorem gof_wB {s c : Nat} (hs : s < 128) (hc : c < 10648) (h : okS (cA c) (cB c) (cC c) = true) : gof (fun i => s.testBit i) (wSc c) = s ^^^ wBc c := by
  obtain ⟨l1, l2, l3⟩ := code_lt hc
  obtain ⟨h1, -, -, -, h5, -⟩ := ckW_ok l1 l2 l3 h
  refine (bs_eq (k := 7) (Nat.xor_lt_two_pow (n := 7) hs h5) (fun p hp => ?_)).symm
  rw [Nat.testBit_xor]
  rw [(h1 p hp).2]
  rfl
/-- an hour, by the codes -/
theorem Rh_codes {T : kT} (hT : LW T) {most s0 h n : Nat} {cd : Nat → Nat} (hs0 : s0 < 128) (hcd : ∀ k, k < n → cd k < 10648 ∧ kOk T most (cd k)) (hall : ∀ c, c < 10648 → kOk T most c → ∃ k, k < n ∧ cd k = c) (x : Nat) : Rh T most s0 (h + 1) x ↔ (Rh T most s0 h x ∨ ∃ y, y < 128 ∧ Rh T most s0 h y ∧ ∃ m, m < n ∧ cmB T y (cd m) = true ∧ x = y ^^^ wBc (cd m)) := by
  constructor
  · rintro (h1 | ⟨y, hy, w, hw, e⟩)
    · exact Or.inl h1
    · have hy128 := Rh_lt hs0 h y hy
      have hD := DF_DW hT (fun i => y.testBit i)
      obtain ⟨a, b, c, ha, hb, hc, ho, he⟩ := code_of hD hw.1
      obtain ⟨k1, k2, k3, k4⟩ := code_abc ha hb hc
      have hMt : Mt (DF T (fun i => y.testBit i)) (wS a b c) := fun p hp => by
        rcases hw.1 p hp with e | ⟨e1, e2, e3⟩
        · exact Or.inl (by rw [he p hp]; exact e)
        · exact Or.inr (by rw [he p hp, he (w p) e1]; exact ⟨e1, e2, e3⟩)
      obtain ⟨o1, o2, o3⟩ := (code_Mt hD ha hb hc ho).mpr hMt
      generalize hC : a * 484 + b * 22 + c = C at k1 k2 k3 k4
      have eS : wSc C = wS a b c := by unfold wSc; rw [k2, k3, k4]
      rw [← k2] at o1
      rw [← k3] at o2
      rw [← k4] at o3
      have ho' : okS (cA C) (cB C) (cC C) = true := by rw [k2, k3, k4]; exact ho
      obtain ⟨g1, g2⟩ := DF_cmB ho' o1 o2 o3
      have ex : x = y ^^^ wBc C := by rw [← gof_wB hy128 k1 ho', eS, e]; exact gof_eq (fun j hj => (he j hj).symm)
      rcases Nat.eq_zero_or_pos (wBc C) with z | z
      · rw [z, Nat.xor_zero] at ex
        rw [ex]; exact Or.inl hy
      · have hcn : cn (wSc C) = cn w := sm_eq (fun j hj => by unfold c1; rw [eS, he j hj])
        obtain ⟨m, hm, em⟩ := hall C k1 ⟨g1, z, by rw [hcn]; exact hw.2.1⟩
        exact Or.inr ⟨y, hy128, hy, m, hm, by rw [em]; exact g2, by rw [em]; exact ex⟩
  · rintro (h1 | ⟨y, hy128, hy, m, hm, hcm, e⟩)
    · exact Or.inl h1
    · obtain ⟨c1', c2, c3, c4⟩ := hcd m hm
      obtain ⟨l1, l2, l3⟩ := code_lt c1'
      obtain ⟨ho, o1, o2, o3⟩ := cmB_DF hcm
      have hMt := (code_Mt (DF_DW hT (fun i => y.testBit i)) l1 l2 l3 ho).mp ⟨o1, o2, o3⟩
      refine Or.inr ⟨y, hy, wSc (cd m), ⟨hMt, c4, fun j hj => absurd hj (Nat.not_lt_zero _)⟩, ?_⟩
      rw [gof_wB hy128 c1' ho]; exact e
def frS (M M' : kg_M) : Prop := (∀ k, k ≠ 117 → k ≠ 129 → k ≠ 132 → k ≠ 133 → k ≠ 134 → k ≠ 135 → M' k = M k) ∧ ∀ j, j ≠ 29 → M' 117 j = M 117 j
theorem frS_tr {M M1 M2 : kg_M} (h : frS M M1) (h2 : frS M1 M2) : frS M M2 := ⟨fun k a b c d e f => by rw [h2.1 k a b c d e f, h.1 k a b c d e f], fun j a => by rw [h2.2 j a, h.2 j a]⟩
/-- the list of codes -/
def MF (T : kT) (most n : Nat) (cd : Nat → Nat) (M : kg_M) : Prop := M 117 29 = nI n ∧ n ≤ 10648 ∧ ∀ k, k < n → cd k < 10648 ∧ kOk T most (cd k) ∧ M 133 k = nI (cd k) ∧ M 132 k = nI (wBc (cd k))
def CA (A : Nat → Prop) (row : Nat → Int32) : Prop := ∀ s, s < 128 → (A s → row s = 1) ∧ (¬ A s → row s = 0)
theorem CA_iff {A A' : Nat → Prop} {row : Nat → Int32} (h : CA A row) (hi : ∀ s, s < 128 → (A s ↔ A' s)) : CA A' row := fun s hs => ⟨fun a => (h s hs).1 ((hi s hs).mpr a), fun a => (h s hs).2 (fun b => a ((hi s hs).mp b))⟩
theorem CA_01 {A : Nat → Prop} {row : Nat → Int32} (h : CA A row) {s : Nat} (hs : s < 128) : row s = 0 ∨ row s = 1 := by
  rcases Classical.em (A s) with a | a
  · exact Or.inr ((h s hs).1 a)
  · exact Or.inl ((h s hs).2 a)
section P23
variable {M : kg_M} {L S : Nat} {T : kT} {N : Nat → Int32} {most : Nat}
theorem RS3 {M' : kg_M} (hR : RT M T) (hP : RP M) (hN : RN M N) (r : frS M M') : RT M' T ∧ RP M' ∧ RN M' N := ⟨RT_of hR (r.2 0 (by decide)) (r.2 2 (by decide)) (fun k hk => r.1 k (by omega) (by omega) (by omega) (by omega) (by omega) (by omega)), RP_of hP (fun k hk => r.1 k (by omega) (by omega) (by omega) (by omega) (by omega) (by omega)), RN_of hN (r.1 120 (by decide) (by decide) (by decide) (by decide) (by decide) (by decide))⟩
theorem m_findMasks {K : kg_M → Prop} (hR : RT M T) (hP : RP M) (hT : LW T) (hN : RN M N) (hW : SW T N) (hK : ∀ M' n cd, frS M M' → MF T (opn T N) n cd M' → (∀ c, c < 10648 → kOk T (opn T N) c → ∃ k, k < n ∧ cd k = c) → K M') : wp_X8_findMasks M K := by
  have h5 := hT.1
  generalize hmost : opn T N = most at hK
  have hm5 : most ≤ 5 := by rw [← hmost]; unfold opn; omega
  intro M2 e2
  have f2 : frS M M2 := ⟨fun k a _ _ _ _ _ => by rw [e2, kg_row_ne _ _ a], fun j a => by rw [e2, kg_row_eq, upd_ne a]⟩
  obtain ⟨x1, x2, x3⟩ := RS3 hR hP hN f2
  refine m_openGates x1 hT x3 ?_
  rw [hmost]
  refine ⟨_, for_loop (fun f (M' : kg_M) i => wL_X8_findMasks_12 _ K f (nI most) i M') (fun i M' => frS M M' ∧ ∃ n cd, n ≤ i ∧ MF T most n cd M' ∧ ∀ c, c < i → kOk T most c → ∃ k, k < n ∧ cd k = c) 10648 M2 ⟨f2, 0, fun _ => 0, Nat.le_refl _, ⟨by rw [e2, kg_row_eq, upd_eq]; rfl, by omega, fun k hk => absurd hk (Nat.not_lt_zero _)⟩, fun c hc => absurd hc (Nat.not_lt_zero _)⟩ (fun f M' hi => ?_) (fun f i M' hi hh ih => ?_)⟩
  · obtain ⟨hf, n, cd, hn, hF, hall⟩ := hi
    rw [wL_X8_findMasks_12]
    exact ⟨fun _ => hK M' n cd hf hF hall, fun h => absurd (by decide) h⟩
  · obtain ⟨hf, n, cd, hn, hF, hall⟩ := hh
    obtain ⟨y1, y2, y3⟩ := RS3 hR hP hN hf
    obtain ⟨l1, l2, l3⟩ := code_lt hi
    have skip : ∀ M3 : kg_M, (∀ k, k ≠ 129 → M3 k = M' k) → ¬ kOk T most i → (frS M M3 ∧ ∃ n cd, n ≤ i + 1 ∧ MF T most n cd M3 ∧ ∀ c, c < i + 1 → kOk T most c → ∃ k, k < n ∧ cd k = c) := fun M3 r hno => ⟨frS_tr hf ⟨fun k _ b _ _ _ _ => r k b, fun j _ => by rw [r 117 (by decide)]⟩, n, cd, by omega, by unfold MF at *; rw [r 117 (by decide), r 133 (by decide), r 132 (by decide)]; exact hF, fun c hc hk => by
      rcases Nat.lt_or_ge c i with q | q
      · exact hall c q hk
      · rw [show c = i by omega] at hk; exact absurd hk hno⟩
    rw [wL_X8_findMasks_12, nI_1 i]
    refine ⟨fun h => absurd h (nI_ge (a := i) (b := 10648) hi (by decide)), fun _ => m_choose y1 y2 hT hi (fun M12 r12 a0 a1 a2 => ⟨fun hok => ?_, fun hno => ⟨fun _ => ih M12 (skip M12 r12 (fun h => by rw [h.1] at hno; exact absurd hno (by decide))), fun h => absurd (by decide) h⟩⟩)⟩
    obtain ⟨g1, g2, g3, g4⟩ := wB_ct l1 l2 l3 (okC_S hok)
    generalize hz : nz (cA i) + nz (cB i) + nz (cC i) = m at g1 g3 g4
    refine ⟨fun h0 => ih M12 (skip M12 r12 (fun h => ?_)), fun h0 => m_bits (by omega) ?_⟩
    · have h1 : 0 < wB (cA i) (cB i) (cC i) := h.2.1
      exact absurd h0 (nI_ge (a := 0) h1 (by omega))
    · have hpos : 0 < wB (cA i) (cB i) (cC i) := by
        rcases Nat.eq_zero_or_pos (wB (cA i) (cB i) (cC i)) with z | z
        · rw [z] at h0; exact absurd (by decide) h0
        · exact z
      rw [g1, show (2 : Int32) = nI 2 from rfl, pk_div (by omega) (by decide) (by decide), show 2 * m / 2 = m by omega]
      have e29 : M12 117 29 = nI n := by rw [r12 117 (by decide)]; exact hF.1
      rw [e29, cl_nI (a := n) (by omega)]
      refine ⟨fun h1 => ih M12 (skip M12 r12 (fun h => ?_)), fun h1 => ⟨in_nI (by omega) (by decide), fun M26 e26 => ?_⟩⟩
      · have a := (nI_ltI (by omega) (by omega)).mp h1
        have b : cn (wS (cA i) (cB i) (cC i)) ≤ 2 * most := h.2.2
        omega
      · have hle : m ≤ most := by
          rcases Nat.lt_or_ge most m with q | q
          · exact absurd ((nI_ltI (by omega) (by omega)).mpr q) h1
          · exact q
        have e29' : M26 117 29 = nI n := by rw [e26, kg_row_ne _ _ (by decide)]; exact e29
        rw [e29', cl_nI (a := n) (by omega)]
        refine ⟨in_nI (by omega) (by decide), fun M31 e31 M34 e34 => ih M34 ⟨?_, n + 1, (fun k => if k = n then i else cd k), by omega, ⟨?_, by omega, fun k hk => ?_⟩, fun c hc hk => ?_⟩⟩
        · exact frS_tr hf ⟨fun k a b c d _ _ => by rw [e34, kg_row_ne _ _ a, e31, kg_row_ne _ _ d, e26, kg_row_ne _ _ c, r12 k b], fun j hj => by rw [e34, kg_row_eq, upd_ne hj, e31, kg_row_ne _ _ (by decide), e26, kg_row_ne _ _ (by decide), r12 117 (by decide)]⟩
        · rw [e34, kg_row_eq, upd_eq, e31, kg_row_ne _ _ (by decide), e29', nI_1]
        · have q133 : M34 133 = upd (M' 133) n (nI i) := by rw [e34, kg_row_ne _ _ (by decide), e31, kg_row_eq, e26, kg_row_ne _ _ (by decide), r12 133 (by decide)]
          have q132 : M34 132 = upd (M' 132) n (nI (wBc i)) := by rw [e34, kg_row_ne _ _ (by decide), e31, kg_row_ne _ _ (by decide), e26, kg_row_eq, r12 132 (by decide)]; rfl
          rw [q133, q132]
          dsimp only
          by_cases e : k = n
          · rw [if_pos e, e, upd_eq, upd_eq]
            exact ⟨hi, ⟨hok, hpos, by show cn (wS (cA i) (cB i) (cC i)) ≤ _; omega⟩, rfl, rfl⟩
          · rw [if_neg e, upd_ne e, upd_ne e]
            exact hF.2.2 k (by omega)
        · rcases Nat.lt_or_ge c i with q | q
          · obtain ⟨k, hk1, hk2⟩ := hall c q hk
            exact ⟨k, by omega, by dsimp only; rw [if_neg (by omega)]; exact hk2⟩
          · exact ⟨n, by omega, by dsimp only; rw [if_pos rfl]; omega⟩
theorem m_cmStep {Kx : Int32 → kg_M → Prop} {K : Int32 → kg_M → Prop} {f i k s : Nat} {al : Bool} {v : Int32} (hP : RP M) (hi : i < 3) (hk : k < 22) (hs : s < 128) (e0 : M 129 i = nI k) (hv : v = if al = true then 1 else 0) (hK : ∀ v', v' = (if (al && apL s k) = true then 1 else 0) → wL_X8_canMeet_20 Kx K f (nI s) v' (nI (i + 1)) M) : wL_X8_canMeet_20 Kx K (f + 1) (nI s) v (nI i) M := by
  rw [wL_X8_canMeet_20, cl_nI (a := i) (by omega), e0, nI_1 i]
  refine ⟨fun h => absurd h (nI_ge (a := i) (b := 3) hi (by decide)), fun _ => ⟨in_nI hi (by decide), fun h0 => hK 0 ?_, fun h0 => ?_⟩⟩
  · cases al with
    | true => rw [hv] at h0; exact absurd h0 (by decide)
    | false => rfl
  · have hal : al = true := by
      cases al with
      | true => rfl
      | false => rw [hv] at h0; exact absurd rfl h0
    subst hal
    refine ⟨fun h => hK 1 ?_, fun h => ?_⟩
    · have e : k = 21 := (nI_eq (b := 21) (by omega) (by decide)).mp h
      subst e; rfl
    · have hlt : k < 21 := by
        rcases Nat.lt_or_ge k 21 with q | q
        · exact q
        · exact absurd (by rw [show k = 21 by omega]; rfl) h
      obtain ⟨o1, o2, -⟩ := ix_of k hlt
      obtain ⟨p1, p2⟩ := hP k hlt
      have ap : apL s k = (s.testBit (pO k) != s.testBit (pT k)) := by
        unfold apL
        have : (k == 21) = false := by simp; omega
        rw [this, Bool.false_or]
      rw [cl_nI (by omega), p1, p2]
      refine ⟨in_nI hlt (by decide), in_nI hlt (by decide), m_has (by omega) (by omega) (m_has (by omega) (by omega) ?_)⟩
      rw [Bool.true_and, ap] at hK
      cases ea : s.testBit (pO k) <;> cases eb : s.testBit (pT k) <;> rw [ea, eb] at hK
      · exact ⟨fun _ => ⟨fun _ => hK 0 rfl, fun h => absurd rfl h⟩, fun h => absurd rfl h⟩
      · exact ⟨fun h => absurd h (by decide), fun _ => ⟨fun h => absurd h (by decide), fun _ => hK 1 rfl⟩⟩
      · exact ⟨fun h => absurd h (by decide), fun _ => ⟨fun h => absurd h (by decide), fun _ => hK 1 rfl⟩⟩
      · exact ⟨fun _ => ⟨fun _ => hK 0 rfl, fun h => absurd rfl h⟩, fun h => absurd rfl h⟩
theorem m_canMeet {s c : Nat} {K : Int32 → kg_M → Prop} (hR : RT M T) (hP : RP M) (hT : LW T) (hs : s < 128) (hc : c < 10648) (hK : ∀ M', (∀ k, k ≠ 129 → M' k = M k) → K (if cmB T s c = true then 1 else 0) M') : wp_X8_canMeet (nI s) (nI c) M K := by
  obtain ⟨l1, l2, l3⟩ := code_lt hc
  have fin : ∀ (M2 : kg_M) (v : Int32) (al : Bool), (∀ k, k ≠ 129 → M2 k = M k) → M2 129 0 = nI (cA c) → M2 129 1 = nI (cB c) → M2 129 2 = nI (cC c) → okC T (cA c) (cB c) (cC c) = al → v = (if al = true then 1 else 0) → ∃ g, wL_X8_canMeet_20 (fun (v4 : Int32) (M : kg_M) => (v4 = 0 ∨ v4 = 1) ∧ K v4 M) K g (nI s) v 0 M2 := by
    intro M2 v al r a0 a1 a2 ho hv
    have hP2 : RP M2 := RP_of hP (fun k hk => r k (by omega))
    refine ⟨4, m_cmStep (i := 0) hP2 (by decide) l1 hs a0 hv (fun v1 hv1 => m_cmStep (i := 1) hP2 (by decide) l2 hs a1 hv1 (fun v2 hv2 => m_cmStep (i := 2) hP2 (by decide) l3 hs a2 hv2 (fun v3 hv3 => ?_)))⟩
    rw [wL_X8_canMeet_20]
    refine ⟨fun _ => ⟨?_, ?_⟩, fun h => absurd (by decide) h⟩
    · rw [hv3]; split
      · exact Or.inr rfl
      · exact Or.inl rfl
    · have := hK M2 r
      unfold cmB at this
      rw [ho] at this
      rw [hv3]; exact this
  refine m_choose hR hP hT hc (fun M2 r2 a0 a1 a2 => ⟨fun hok => ⟨fun h => absurd h (nI_pos ?_), fun _ => fin M2 1 true r2 a0 a1 a2 hok rfl⟩, fun hno => ⟨fun _ => fin M2 0 false r2 a0 a1 a2 hno rfl, fun h => absurd (by decide) h⟩⟩)
  have := (wB_ct l1 l2 l3 (okC_S hok)).2.1
  omega
theorem m_isThere {A : Nat → Prop} {vs vw : Int32} {K : Int32 → kg_M → Prop} (hA : CA A (M 134)) (ht : (∃ s, s < 128 ∧ A s ∧ Gs vs vw s) → K 1 M) (hf : (¬ ∃ s, s < 128 ∧ A s ∧ Gs vs vw s) → K 0 M) : wp_X8_isThere vs vw M K := by
  refine ⟨_, find_loop (fun f i => wL_X8_isThere_2 _ _ K f vs vw i M) (fun s => decide (¬ M 134 s = 0 ∧ (nI s &&& vs) = (vw &&& vs))) 128 (fun hn f => ?_) (fun f k hk hc hb => ?_) (fun f k hk hc ih => ?_)⟩
  · rw [wL_X8_isThere_2]
    refine ⟨fun _ => hf (fun ⟨s, hs, h1, h2⟩ => ?_), fun h => absurd (by decide) h⟩
    exact of_decide_eq_false (hn s hs) ⟨by rw [(hA s hs).1 h1]; decide, h2⟩
  · have := of_decide_eq_true hc
    have hAk : A k := by
      rcases Classical.em (A k) with a | a
      · exact a
      · exact absurd ((hA k hk).2 a) this.1
    rw [wL_X8_isThere_2, cl_nI (by omega)]
    exact ⟨fun h => absurd h (nI_ge (a := k) (b := 128) hk (by decide)), fun _ => ⟨in_nI hk (by decide), fun h => absurd h this.1, fun h1 => ⟨fun h => absurd this.2 h, fun _ => ht ⟨k, hk, hAk, this.2⟩⟩⟩⟩
  · have := of_decide_eq_false hc
    rw [wL_X8_isThere_2, cl_nI (by omega), nI_1 k]
    exact ⟨fun h => absurd h (nI_ge (a := k) (b := 128) hk (by decide)), fun _ => ⟨in_nI hk (by decide), fun _ => ih, fun h1 => ⟨fun _ => ih, fun h2 => absurd ⟨h1, h2⟩ this⟩⟩⟩
end P23
