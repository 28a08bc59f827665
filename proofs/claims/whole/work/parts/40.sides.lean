/-! ===== sides ===== -/
section P24
variable {M : kg_M} {L S : Nat} {T : kT} {N : Nat → Int32} {most : Nat}
theorem xor_nI {a b : Nat} (ha : a < 128) (hb : b < 128) : nI a ^^^ nI b = nI (a ^^^ b) := by
  rw [← bs_of a 7 ha, ← bs_of b 7 hb, bs_xor]
  refine congrArg nI ?_
  rw [bs_of a 7 ha, bs_of b 7 hb]
  exact (bs_eq (k := 7) (Nat.xor_lt_two_pow (n := 7) ha hb) (fun p _ => by rw [Nat.testBit_xor])).symm
theorem m_anHour {A : Nat → Prop} {n : Nat} {cd : Nat → Nat} {K : kg_M → Prop} (hR : RT M T) (hP : RP M) (hT : LW T) (hF : MF T most n cd M) (hA : CA A (M 134)) (hK : ∀ M', (∀ k, k ≠ 129 → k ≠ 134 → k ≠ 135 → M' k = M k) → CA (fun x => A x ∨ ∃ y, y < 128 ∧ A y ∧ ∃ m, m < n ∧ cmB T y (cd m) = true ∧ x = y ^^^ wBc (cd m)) (M' 134) → K M') : wp_X8_anHour M K := by
  have wl : ∀ k, k < n → wBc (cd k) < 128 := fun k hk => by
    obtain ⟨c1', ⟨c2, -⟩, -⟩ := hF.2.2 k hk
    obtain ⟨l1, l2, l3⟩ := code_lt c1'
    exact (wB_ct l1 l2 l3 (okC_S c2)).2.1
  refine ⟨_, for_loop (fun f (M' : kg_M) i => wL_X8_anHour_2 _ K f i M') (fun k M' => (∀ j, j ≠ 135 → M' j = M j) ∧ ∀ s, s < k → M' 135 s = M 134 s) 128 M ⟨fun _ _ => rfl, fun s hs => absurd hs (Nat.not_lt_zero _)⟩ (fun f M' hi => ?_) (fun f k M' hk hi ih => ?_)⟩
  · rw [wL_X8_anHour_2]
    refine ⟨fun _ => ?_, fun h => absurd (by decide) h⟩
    refine ⟨_, for_loop (fun f (M2 : kg_M) i => wL_X8_anHour_29 _ K f i M2) (fun k M2 => (∀ j, j ≠ 129 → j ≠ 135 → M2 j = M j) ∧ CA (fun x => A x ∨ ∃ y, y < k ∧ A y ∧ ∃ m, m < n ∧ cmB T y (cd m) = true ∧ x = y ^^^ wBc (cd m)) (M2 135)) 128 M' ⟨fun j _ b => hi.1 j b, fun s hs => ?_⟩ (fun f M2 hj => ?_) (fun f k M2 hk hj ih => ?_)⟩
    · rw [hi.2 s hs]
      exact ⟨fun a => (hA s hs).1 (a.elim id (fun ⟨y, hy, _⟩ => absurd hy (Nat.not_lt_zero _))), fun a => (hA s hs).2 (fun b => a (Or.inl b))⟩
    · rw [wL_X8_anHour_29]
      refine ⟨fun _ => ?_, fun h => absurd (by decide) h⟩
      refine ⟨_, for_loop (fun f (M3 : kg_M) i => wL_X8_anHour_123 _ K f i M3) (fun k M3 => (∀ j, j ≠ 129 → j ≠ 134 → j ≠ 135 → M3 j = M j) ∧ M3 135 = M2 135 ∧ ∀ s, s < k → M3 134 s = M2 135 s) 128 M2 ⟨fun j a _ b => hj.1 j a b, rfl, fun s hs => absurd hs (Nat.not_lt_zero _)⟩ (fun f M3 hl => ?_) (fun f k M3 hk hl ih => ?_)⟩
      · rw [wL_X8_anHour_123]
        exact ⟨fun _ => hK M3 hl.1 (fun s hs => by rw [hl.2.2 s hs]; exact hj.2 s hs), fun h => absurd (by decide) h⟩
      · rw [wL_X8_anHour_123, nI_1 k, cl_nI (by omega), hl.2.1]
        refine ⟨fun h => absurd h (nI_ge (a := k) (b := 128) hk (by decide)), fun _ => ⟨in_nI hk (by decide), in_nI hk (by decide), CA_01 hj.2 hk, fun M67 e67 => ih M67 ⟨fun j a b c => by rw [e67, kg_row_ne _ _ b, hl.1 j a b c], by rw [e67, kg_row_ne _ _ (by decide)]; exact hl.2.1, fun s hs => ?_⟩⟩⟩
        rw [e67, kg_row_eq]
        by_cases e : s = k
        · rw [e, upd_eq]
        · rw [upd_ne e]; exact hl.2.2 s (by omega)
    · have grow : ∀ M3 : kg_M, (∀ j, j ≠ 129 → j ≠ 135 → M3 j = M j) → CA (fun x => (A x ∨ ∃ y, y < k ∧ A y ∧ ∃ m, m < n ∧ cmB T y (cd m) = true ∧ x = y ^^^ wBc (cd m)) ∨ (A k ∧ ∃ m, m < n ∧ cmB T k (cd m) = true ∧ x = k ^^^ wBc (cd m))) (M3 135) → wL_X8_anHour_29 (fun (M : kg_M) => ∃ g : Nat, wL_X8_anHour_123 (fun (M : kg_M) => K M) K g (0 : Int32) M) K f (nI (k + 1)) M3 := fun M3 r hc => ih M3 ⟨r, CA_iff hc (fun s _ => by
        constructor
        · rintro ((a | ⟨y, hy, a⟩) | a)
          · exact Or.inl a
          · exact Or.inr ⟨y, by omega, a⟩
          · exact Or.inr ⟨k, by omega, a⟩
        · rintro (a | ⟨y, hy, a⟩)
          · exact Or.inl (Or.inl a)
          · rcases Nat.lt_or_ge y k with q | q
            · exact Or.inl (Or.inr ⟨y, q, a⟩)
            · have e : y = k := by omega
              subst e; exact Or.inr a)⟩
      rw [wL_X8_anHour_29]
      refine ⟨fun h => absurd h (nI_ge (a := k) (b := 128) hk (by decide)), fun _ => ?_⟩
      rcases Classical.em (A k) with hAk | hAk
      · refine ⟨_, for_loop (fun f2 (M3 : kg_M) i => wL_X8_anHour_38 _ K f2 (nI k) i M3) (fun m M3 => (∀ j, j ≠ 129 → j ≠ 135 → M3 j = M j) ∧ CA (fun x => (A x ∨ ∃ y, y < k ∧ A y ∧ ∃ m, m < n ∧ cmB T y (cd m) = true ∧ x = y ^^^ wBc (cd m)) ∨ ∃ m', m' < m ∧ cmB T k (cd m') = true ∧ x = k ^^^ wBc (cd m')) (M3 135)) n M2 ⟨hj.1, CA_iff hj.2 (fun s _ => ⟨Or.inl, fun a => a.elim id (fun ⟨m', hm', _⟩ => absurd hm' (Nat.not_lt_zero _))⟩)⟩ (fun f2 M3 hl => ?_) (fun f2 m M3 hm hl ih2 => ?_)⟩
        · rw [wL_X8_anHour_38, hl.1 117 (by decide) (by decide), hF.1]
          refine ⟨fun _ => ?_, fun h => absurd (nI_le (Nat.le_refl _) (by have := hF.2.1; omega)) h⟩
          rw [nI_1 k]
          exact grow M3 hl.1 (CA_iff hl.2 (fun s _ => ⟨fun a => a.imp id (fun b => ⟨hAk, b⟩), fun a => a.imp id (fun b => b.2)⟩))
        · obtain ⟨c1', c2, c3, c4⟩ := hF.2.2 m hm
          have hw := wl m hm
          have hx : k ^^^ wBc (cd m) < 128 := Nat.xor_lt_two_pow (n := 7) hk hw
          have hn := hF.2.1
          rw [wL_X8_anHour_38, hl.1 117 (by decide) (by decide), hF.1, cl_nI (a := k) (by omega), cl_nI (a := m) (by omega), hl.1 134 (by decide) (by decide), (hA k hk).1 hAk, hl.1 132 (by decide) (by decide), c4, xor_nI hk hw, cl_nI (by omega)]
          have J : ∀ s0 : Int32, (s0 = 0 → M3 135 (k ^^^ wBc (cd m)) = 1) → wJ_X8_anHour_76 (wL_X8_anHour_38 (fun (v1 : Int32) (M : kg_M) => wL_X8_anHour_29 (fun (M : kg_M) => ∃ g : Nat, wL_X8_anHour_123 (fun (M : kg_M) => K M) K g (0 : Int32) M) K f (v1 + (1 : Int32)) M) K f2) (fun (v1 : Int32) (M : kg_M) => wL_X8_anHour_29 (fun (M : kg_M) => ∃ g : Nat, wL_X8_anHour_123 (fun (M : kg_M) => K M) K g (0 : Int32) M) K f (v1 + (1 : Int32)) M) K (nI k) (nI m) s0 M3 := by
            intro s0 hs0
            unfold wJ_X8_anHour_76
            rw [nI_1 m, cl_nI (a := m) (by omega), hl.1 133 (by decide) (by decide), c3]
            refine ⟨fun h0 => ih2 M3 ⟨hl.1, fun s hs => ?_⟩, fun h0 => ⟨in_nI (by omega) (by decide), m_canMeet (RT_of hR (by rw [hl.1 117 (by decide) (by decide)]) (by rw [hl.1 117 (by decide) (by decide)]) (fun k hk => hl.1 k (by omega) (by omega))) (RP_of hP (fun k hk => hl.1 k (by omega) (by omega))) hT hk c1' (fun M41 r41 => ?_)⟩⟩
            · by_cases e : s = k ^^^ wBc (cd m)
              · have h1' : M3 135 s = 1 := by rw [e]; exact hs0 h0
                refine ⟨fun _ => h1', fun a => ?_⟩
                have : M3 135 s = 0 := (hl.2 s hs).2 (fun b => a (b.imp id (fun ⟨m', x1, x2⟩ => ⟨m', by omega, x2⟩)))
                rw [h1'] at this; exact absurd this (by decide)
              · exact ⟨fun a => (hl.2 s hs).1 (a.imp id (fun ⟨m', x1, x2, x3⟩ => ⟨m', by
                  rcases Nat.lt_or_ge m' m with q | q
                  · exact q
                  · have e2 : m' = m := by omega
                    subst e2; exact absurd x3 e, x2, x3⟩)), fun a => (hl.2 s hs).2 (fun b => a (b.imp id (fun ⟨m', x1, x2⟩ => ⟨m', by omega, x2⟩)))⟩
            · have r41' : ∀ j, j ≠ 129 → j ≠ 135 → M41 j = M j := fun j a b => by rw [r41 j a, hl.1 j a b]
              cases hcm : cmB T k (cd m) with
              | false =>
                refine ⟨fun _ => ih2 M41 ⟨r41', ?_⟩, fun h => absurd rfl h⟩
                rw [r41 135 (by decide)]
                refine CA_iff hl.2 (fun s _ => ⟨fun a => a.imp id (fun ⟨m', x1, x2⟩ => ⟨m', by omega, x2⟩), fun a => a.imp id (fun ⟨m', x1, x2, x3⟩ => ⟨m', ?_, x2, x3⟩)⟩)
                rcases Nat.lt_or_ge m' m with q | q
                · exact q
                · have e2 : m' = m := by omega
                  subst e2; rw [hcm] at x2; exact absurd x2 (by decide)
              | true =>
                refine ⟨fun h => absurd h (by decide), fun _ => ⟨in_nI (by omega) (by decide), ?_⟩⟩
                rw [r41' 132 (by decide) (by decide), c4, xor_nI hk hw, cl_nI (by omega)]
                refine ⟨in_nI hx (by decide), fun M51 e51 => ih2 M51 ⟨fun j a b => by rw [e51, kg_row_ne _ _ b, r41' j a b], fun s hs => ?_⟩⟩
                rw [e51, kg_row_eq, r41 135 (by decide)]
                by_cases e : s = k ^^^ wBc (cd m)
                · rw [e, upd_eq]
                  exact ⟨fun _ => rfl, fun a => absurd (Or.inr ⟨m, by omega, hcm, rfl⟩) a⟩
                · rw [upd_ne e]
                  exact ⟨fun a => (hl.2 s hs).1 (a.imp id (fun ⟨m', x1, x2, x3⟩ => ⟨m', by
                    rcases Nat.lt_or_ge m' m with q | q
                    · exact q
                    · have e2 : m' = m := by omega
                      subst e2; exact absurd x3 e, x2, x3⟩)), fun a => (hl.2 s hs).2 (fun b => a (b.imp id (fun ⟨m', x1, x2⟩ => ⟨m', by omega, x2⟩)))⟩
          refine ⟨fun h => absurd h (nI_ge hm (by omega)), fun _ => ⟨in_nI hk (by decide), fun h => absurd h (by decide), fun _ => ⟨in_nI (by omega) (by decide), in_nI hx (by decide), fun h => J 0 (fun _ => (CA_01 hl.2 hx).resolve_left h), fun h => J 1 (fun h => absurd h (by decide))⟩⟩⟩
      · refine ⟨1, ?_⟩
        have g := grow M2 hj.1 (CA_iff hj.2 (fun s _ => ⟨Or.inl, fun a => a.elim id (fun b => absurd b.1 hAk)⟩))
        rw [wL_X8_anHour_38, cl_nI (by omega), hj.1 134 (by decide) (by decide), (hA k hk).2 hAk, nI_1 k]
        exact ⟨fun _ => g, fun _ => ⟨in_nI hk (by decide), fun _ => g, fun h => absurd rfl h⟩⟩
  · rw [wL_X8_anHour_2, nI_1 k, cl_nI (by omega), hi.1 134 (by decide)]
    refine ⟨fun h => absurd h (nI_ge (a := k) (b := 128) hk (by decide)), fun _ => ⟨in_nI hk (by decide), in_nI hk (by decide), CA_01 hA hk, fun M11 e11 => ih M11 ⟨fun j hj => by rw [e11, kg_row_ne _ _ hj, hi.1 j hj], fun s hs => ?_⟩⟩⟩
    rw [e11, kg_row_eq]
    by_cases e : s = k
    · rw [e, upd_eq]
    · rw [upd_ne e]; exact hi.2 s (by omega)
theorem c_hasAll_t {k : Nat} {K : Int32 → kg_M → Prop} (hL : RC M L T) (hT : LW T) (hk : k < 2 ^ tP T) (hK : K 1 M) : wp_X0_hasAll L (nI k) M K := by
  have h7 := hT.2.1
  have h128 : 2 ^ tP T ≤ 128 := Nat.pow_le_pow_right (n := 2) (by decide) h7
  unfold wp_X0_hasAll
  rw [hL.2.1, pk_ushrN (by omega) _ (tP T) (s_u _ (by omega)), Nat.div_eq_of_lt hk]
  exact ⟨fun h => absurd rfl h, fun _ => hK⟩
theorem c_hasAll_f {v : Int32} {K : Int32 → kg_M → Prop} (hL : RC M L T) (hT : LW T) (hv : v < 0 ∨ nI (2 ^ tP T) ≤ v) (hK : K 0 M) : wp_X0_hasAll L v M K := by
  have h7 := hT.2.1
  have h128 : 2 ^ tP T ≤ 128 := Nat.pow_le_pow_right (n := 2) (by decide) h7
  have hp : 0 < 2 ^ tP T := Nat.two_pow_pos _
  unfold wp_X0_hasAll
  rw [hL.2.1]
  refine ⟨fun _ => hK, fun h => ?_⟩
  exfalso
  have e := pk_ushr v (nI (tP T)) (tP T) (s_u _ (by omega))
  rw [h] at e
  have hlt : v.toBitVec.toNat < 2 ^ tP T := by
    have e0 : v.toBitVec.toNat / 2 ^ tP T = 0 := e.symm
    rcases Nat.lt_or_ge v.toBitVec.toNat (2 ^ tP T) with q | q
    · exact q
    · have := Nat.div_pos q hp
      omega
  have ev : v = nI v.toBitVec.toNat := Int32.toBitVec_inj.mp (BitVec.eq_of_toNat_eq (by rw [pk_tn v.toBitVec.isLt]))
  rcases hv with h1 | h1
  · rw [ev] at h1; exact nI_pos (by omega) h1
  · rw [ev] at h1
    have := (nI_leI (by omega) (by omega)).mp h1
    omega
theorem sub1 {k : Nat} (h7 : k ≤ 7) : ((1 : Int32) <<< (nI k &&& 31)) - (1 : Int32) = nI (2 ^ k) - 1 := by rw [one_shl (by omega)]
theorem m_isSet_t {k : Nat} {K : Int32 → kg_M → Prop} (hR : RT M T) (hT : LW T) (hk : k < 2 ^ tP T) (hK : K 1 M) : wp_X8_isSet (nI k) M K := by
  have h7 := hT.2.1
  have h128 : 2 ^ tP T ≤ 128 := Nat.pow_le_pow_right (n := 2) (by decide) h7
  unfold wp_X8_isSet
  rw [hR.2.1, sub1 h7]
  refine m_idx (by omega) (fun j hj e => ⟨Or.inr rfl, hK⟩) (fun h => ?_)
  rcases h with h | h
  · exact absurd h (nI_pos (by omega))
  · have := (nI_leI (by omega) (by omega)).mp h; omega
theorem m_isSet_f {v : Int32} {K : Int32 → kg_M → Prop} (hR : RT M T) (hT : LW T) (hv : v < 0 ∨ nI (2 ^ tP T) ≤ v) (hK : K 0 M) : wp_X8_isSet v M K := by
  have h7 := hT.2.1
  have h128 : 2 ^ tP T ≤ 128 := Nat.pow_le_pow_right (n := 2) (by decide) h7
  unfold wp_X8_isSet
  rw [hR.2.1, sub1 h7]
  refine m_idx (by omega) (fun j hj e => ?_) (fun _ => ⟨Or.inl rfl, hK⟩)
  rcases hv with h | h
  · rw [e] at h; exact absurd h (nI_pos (by omega))
  · rw [e] at h; have := (nI_leI (by omega) (by omega)).mp h; omega
theorem p_sides {σ : kS} (v w : Int32) (hC : CI M L S σ) : Pair L S M σ (wp_X7_sides L v w) (wp_X8_sides v w) := by
  obtain ⟨T, N, ⟨U, pu⟩, ⟨im, is, kp⟩, sv, fl, ⟨tn, tx⟩, ⟨kn, kw, ki⟩, ⟨bn, bo, bi⟩⟩ := σ
  obtain ⟨⟨hT, hRC⟩, ⟨hSW, hRS⟩, hCU, hCM, hsv, hfl, hCX, hCN, hCB, hLS⟩ := id hC
  have h7 := hT.2.1
  have h5 := hT.1
  have hLr : L = 109 ∨ L = 113 := by omega
  have h128 : 2 ^ tP T ≤ 128 := Nat.pow_le_pow_right (n := 2) (by decide) h7
  rcases ix_cases v (2 ^ tP T) (by omega) with hv | ⟨a, ha, rfl⟩
  · exact ⟨-1000000001, (T, N, (U, pu), (im, is, kp), sv, fl, (tn, tx), (kn, kw, ki), (bn, bo, bi)), c_hasAll_f hRC hT hv ⟨fun _ => CK_s hC rfl, fun h => absurd rfl h⟩, fun M1 hM => m_isSet_f hM.1 hT hv ⟨fun _ => MK_s hM rfl, fun h => absurd rfl h⟩⟩
  rcases ix_cases w (2 ^ tP T) (by omega) with hv | ⟨b, hb, rfl⟩
  · exact ⟨-1000000001, (T, N, (U, pu), (im, is, kp), sv, fl, (tn, tx), (kn, kw, ki), (bn, bo, bi)), c_hasAll_t hRC hT ha ⟨fun h => absurd h (by decide), fun _ => c_hasAll_f hRC hT hv ⟨fun h => absurd rfl h, fun _ => CK_s hC rfl⟩⟩, fun M1 hM => m_isSet_t hM.1 hT ha ⟨fun h => absurd h (by decide), fun _ => m_isSet_f hM.1 hT hv ⟨fun h => absurd rfl h, fun _ => MK_s hM rfl⟩⟩⟩
  have go : ∀ r : Int32, (∀ h, h < 41 → Ph T (opn T N) (bs (sd N) 7) (nI a) (nI b) h → (∀ j, j < h → ¬ Ph T (opn T N) (bs (sd N) 7) (nI a) (nI b) j) → r = nI h) → ((∀ h, h < 41 → ¬ Ph T (opn T N) (bs (sd N) 7) (nI a) (nI b) h) → r = -1) → Pair L S M (T, N, (U, pu), (im, is, kp), sv, fl, (tn, tx), (kn, kw, ki), (bn, bo, bi)) (wp_X7_sides L (nI a) (nI b)) (wp_X8_sides (nI a) (nI b)) := by
    intro r hr1 hr2
    have hs0 : bs (sd N) 7 < 128 := bs_lt _ 7
    refine ⟨r, (T, N, (U, pu), (im, is, kp), sv, fl, (tn, tx), (kn, kw, ki), (bn, bo, bi)), c_hasAll_t hRC hT ha ⟨fun h => absurd h (by decide), fun _ => c_hasAll_t hRC hT hb ⟨fun _ => c_openGates hRC hT hRS hSW ?_, fun h => absurd h (by decide)⟩⟩, fun M1 hM => m_isSet_t hM.1 hT ha ⟨fun h => absurd h (by decide), fun _ => m_isSet_t hM.1 hT hb ⟨fun _ => ?_, fun h => absurd h (by decide)⟩⟩⟩
    · rw [hRS.2.2.2.1]
      refine c_fewest hLr hT (by unfold opn; omega) hs0 hRC hr1 hr2 (fun M' hf => ⟨rfl, CI_of hC (fun k hk => hf k (fun e => hk (by unfold scr; omega)) (fun e => hk (by unfold scr; omega))), fun k hk => hf k (by omega) (by omega)⟩)
    · refine m_findMasks hM.1 hM.2.1 hT hM.2.2.1 hSW (fun M14 n cd hf hF hall => ?_)
      have hcd : ∀ k, k < n → cd k < 10648 ∧ kOk T (opn T N) (cd k) := fun k hk => ⟨(hF.2.2 k hk).1, (hF.2.2 k hk).2.1⟩
      generalize hmost : opn T N = most at hr1 hr2 hF hall hcd
      generalize hs : bs (sd N) 7 = s0 at hr1 hr2 hs0
      have fin : ∀ (M3 : kg_M) (x : Int32), frS M1 M3 → x = r → MK M1 r (T, N, (U, pu), (im, is, kp), sv, fl, (tn, tx), (kn, kw, ki), (bn, bo, bi)) x M3 := fun M3 x hf3 e => ⟨e, MI_of hM (fun k hk => hf3.1 k (by omega) (by omega) (by omega) (by omega) (by omega) (by omega)) (fun j hj => hf3.2 j (by omega)), fun k hk => hf3.1 k (by omega) (by omega) (by omega) (by omega) (by omega) (by omega)⟩
      have es0 : bs (fun p => N (0 + p) == 1) (tP T) = s0 := by
        rw [← hs]
        rw [bs_cut (c := sd N) h7 (fun p h1 h2 => by unfold sd; rw [hSW.2.1 p h1 h2]; rfl)]
        exact bs_cong (fun p _ => by unfold sd; rw [Nat.zero_add])
      refine ⟨_, for_loop (fun f (M' : kg_M) i => wL_X8_sides_25 _ _ f (nI a) (nI b) i M') (fun k M' => (∀ j, j ≠ 134 → M' j = M14 j) ∧ ∀ s, s < k → M' 134 s = if s = s0 then 1 else 0) 128 M14 ⟨fun _ _ => rfl, fun s hs => absurd hs (Nat.not_lt_zero _)⟩ (fun f M' hi => ?_) (fun f k M' hk hi ih => ?_)⟩
      · rw [wL_X8_sides_25]
        refine ⟨fun _ => ?_, fun h => absurd (by decide) h⟩
        have f' : frS M1 M' := frS_tr hf ⟨fun k _ _ _ _ x _ => hi.1 k x, fun j _ => by rw [hi.1 117 (by decide)]⟩
        have hF' : MF T most n cd M' := by unfold MF at *; rw [hi.1 117 (by decide), hi.1 133 (by decide), hi.1 132 (by decide)]; exact hF
        have hA0 : CA (Rh T most s0 0) (M' 134) := fun s hs => by
          rw [hi.2 s hs]
          exact ⟨fun h => by rw [if_pos (show s = s0 from h)], fun h => by rw [if_neg (show ¬ s = s0 from h)]⟩
        have lp : ∀ (x : Int32), (Ph T most s0 (nI a) (nI b) 0 → x = 1) → (¬ Ph T most s0 (nI a) (nI b) 0 → x = 0) → ∃ g, wL_X8_sides_68 (fun (v3 : Int32) (v4 : Int32) (M : kg_M) => wJ_X8_sides_97 (MK M1 r (T, N, (U, pu), (im, is, kp), sv, fl, (tn, tx), (kn, kw, ki), (bn, bo, bi))) v3 v4 M) (MK M1 r (T, N, (U, pu), (im, is, kp), sv, fl, (tn, tx), (kn, kw, ki), (bn, bo, bi))) g (nI a) (nI b) 0 x M' := by
          intro x hx1 hx0
          refine ⟨_, for_loop (fun f (st : Int32 × kg_M) i => wL_X8_sides_68 (fun (v3 : Int32) (v4 : Int32) (M : kg_M) => wJ_X8_sides_97 (MK M1 r (T, N, (U, pu), (im, is, kp), sv, fl, (tn, tx), (kn, kw, ki), (bn, bo, bi))) v3 v4 M) (MK M1 r (T, N, (U, pu), (im, is, kp), sv, fl, (tn, tx), (kn, kw, ki), (bn, bo, bi))) f (nI a) (nI b) i st.1 st.2) (fun h st => frS M1 st.2 ∧ MF T most n cd st.2 ∧ CA (Rh T most s0 h) (st.2 134) ∧ (Ph T most s0 (nI a) (nI b) h → st.1 = 1) ∧ (¬ Ph T most s0 (nI a) (nI b) h → st.1 = 0) ∧ ∀ j, j < h → ¬ Ph T most s0 (nI a) (nI b) j) 40 (x, M') ⟨f', hF', hA0, hx1, hx0, fun j hj => absurd hj (Nat.not_lt_zero _)⟩ (fun f st hst => ?_) (fun f h st hh hst ih => ?_)⟩
          · obtain ⟨g1, g2, g3, g4, g5, g6⟩ := hst
            rw [wL_X8_sides_68]
            rcases Classical.em (Ph T most s0 (nI a) (nI b) 40) with hP | hP
            · rw [g4 hP]
              exact ⟨fun _ => ⟨fun h => absurd h (by decide), fun _ => fin _ _ g1 (hr1 40 (by decide) hP g6).symm⟩, fun h => absurd h (by decide)⟩
            · rw [g5 hP]
              refine ⟨fun h => absurd rfl h, fun _ => ⟨fun _ => ⟨fun _ => fin _ _ g1 (hr2 (fun j hj hPj => ?_)).symm, fun h => absurd rfl h⟩, fun h => absurd (by decide) h⟩⟩
              rcases Nat.lt_or_ge j 40 with q | q
              · exact g6 j q hPj
              · rw [show j = 40 by omega] at hPj; exact hP hPj
          · obtain ⟨g1, g2, g3, g4, g5, g6⟩ := hst
            rw [wL_X8_sides_68, nI_1 h]
            rcases Classical.em (Ph T most s0 (nI a) (nI b) h) with hP | hP
            · rw [g4 hP]
              exact ⟨fun _ => ⟨fun h => absurd h (by decide), fun _ => fin _ _ g1 (hr1 h (by omega) hP g6).symm⟩, fun h => absurd h (by decide)⟩
            · rw [g5 hP]
              obtain ⟨u1, u2, u3⟩ := RS3 hM.1 hM.2.1 hM.2.2.1 g1
              refine ⟨fun h => absurd rfl h, fun _ => ⟨fun h40 => absurd h40 (nI_ge (a := h) (b := 40) hh (by decide)), fun _ => m_anHour u1 u2 hT g2 g3 (fun M45 r45 hc45 => ?_)⟩⟩
              have f45 : frS M1 M45 := frS_tr g1 ⟨fun k _ y1 _ _ y2 y3 => r45 k y1 y2 y3, fun j _ => by rw [r45 117 (by decide) (by decide) (by decide)]⟩
              have hF45 : MF T most n cd M45 := by unfold MF at *; rw [r45 117 (by decide) (by decide) (by decide), r45 133 (by decide) (by decide) (by decide), r45 132 (by decide) (by decide) (by decide)]; exact g2
              have hA45 : CA (Rh T most s0 (h + 1)) (M45 134) := CA_iff hc45 (fun s _ => (Rh_codes hT hs0 hcd hall s).symm)
              have nx : ∀ j, j < h + 1 → ¬ Ph T most s0 (nI a) (nI b) j := fun j hj => by
                rcases Nat.lt_or_ge j h with q | q
                · exact g6 j q
                · rw [show j = h by omega]; exact hP
              exact m_isThere hA45 (fun hy => ih (1, M45) ⟨f45, hF45, hA45, fun _ => rfl, fun hn => absurd hy hn, nx⟩) (fun hy => ih (0, M45) ⟨f45, hF45, hA45, fun hn => absurd hn hy, fun _ => rfl, nx⟩)
        exact m_isThere hA0 (fun hy => lp 1 (fun _ => rfl) (fun hn => absurd hy hn)) (fun hy => lp 0 (fun hn => absurd hn hy) (fun _ => rfl))
      · have f' : frS M1 M' := frS_tr hf ⟨fun k _ _ _ _ x _ => hi.1 k x, fun j _ => by rw [hi.1 117 (by decide)]⟩
        obtain ⟨u1, u2, u3⟩ := RS3 hM.1 hM.2.1 hM.2.2.1 f'
        have J : ∀ x : Int32, x = (if k = s0 then 1 else 0) → ∀ (Kb : Int32 → Int32 → Int32 → kg_M → Prop) (Kx : Int32 → Int32 → kg_M → Prop) (K : Int32 → kg_M → Prop), (∀ s', ((∀ j, j ≠ 134 → s' j = M14 j) ∧ ∀ s, s < k + 1 → s' 134 s = if s = s0 then 1 else 0) → Kb (nI a) (nI b) (nI (k + 1)) s') → wJ_X8_sides_51 Kb Kx K (nI a) (nI b) (nI k) (nI k) x M' := by
          intro x hx Kb Kx K hKb
          unfold wJ_X8_sides_51
          rw [nI_1 k, cl_nI (by omega)]
          refine ⟨in_nI hk (by decide), ?_, fun M31 e31 => hKb M31 ⟨fun j hj => by rw [e31, kg_row_ne _ _ hj, hi.1 j hj], fun s hs => ?_⟩⟩
          · rw [hx]; split
            · exact Or.inr rfl
            · exact Or.inl rfl
          · rw [e31, kg_row_eq]
            by_cases e : s = k
            · rw [e, upd_eq]; exact hx
            · rw [upd_ne e]; exact hi.2 s (by omega)
        rw [wL_X8_sides_25]
        refine ⟨fun h => absurd h (nI_ge (a := k) (b := 128) hk (by decide)), fun _ => m_allWith (a := 0) (by omega) u1 hT u3 ?_⟩
        rw [es0]
        refine ⟨fun h => J 0 ?_ _ _ _ ih, fun h => J 1 ?_ _ _ _ ih⟩
        · rw [if_neg (fun e => h (by rw [e]))]
        · rw [if_pos (nI_inj (by omega) (by omega) h)]
  rcases least_cases (Ph T (opn T N) (bs (sd N) 7) (nI a) (nI b)) 41 with h | ⟨k, h1, h2, h3⟩
  · exact go (-1) (fun j hj hP => absurd hP (h j hj)) (fun _ => rfl)
  · refine go (nI k) (fun j hj hP hno => ?_) (fun hn => absurd h2 (hn k h1))
    rcases Nat.lt_or_ge j k with q | q
    · exact absurd hP (h3 j q)
    · rcases Nat.lt_or_ge k j with q2 | q2
      · exact absurd h2 (hno k q2)
      · rw [show j = k by omega]
end P24
