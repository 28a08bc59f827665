/-! ===== loops from a place on; the first place ===== -/
theorem for_from {σ : Type} (F : Nat → σ → Int32 → Prop) (I : Nat → σ → Prop) (a n : Nat) (hn : a ≤ n) (s0 : σ) (h0 : I a s0) (done : ∀ f s, I n s → F (f + 1) s (nI n)) (step : ∀ f k s, a ≤ k → k < n → I k s → (∀ s', I (k + 1) s' → F f s' (nI (k + 1))) → F (f + 1) s (nI k)) : F (n - a + 1) s0 (nI a) := by
  have H : ∀ j k s, a ≤ k → k + j = n → I k s → F (j + 1) s (nI k) := by
    intro j
    induction j with
    | zero => intro k s _ hk hi; rw [Nat.add_zero] at hk; subst hk; exact done 0 s hi
    | succ j ih => intro k s ha hk hi; exact step (j + 1) k s ha (by omega) hi (fun s' hi' => ih (k + 1) s' (by omega) (by omega) hi')
  exact H (n - a) a s0 (Nat.le_refl _) (by omega) h0
theorem first_cases (c : Nat → Bool) (n : Nat) : (∀ j, j < n → c j = false) ∨ ∃ k, k < n ∧ c k = true ∧ ∀ j, j < k → c j = false := by
  by_cases h : ∃ j, j < n ∧ c j = true
  · obtain ⟨k, ⟨h1, h2⟩, h3⟩ := pk_least (fun j => j < n ∧ c j = true) h
    refine Or.inr ⟨k, h1, h2, fun j hj => ?_⟩
    cases hc : c j
    · rfl
    · exact absurd ⟨by omega, hc⟩ (h3 j hj)
  · refine Or.inl (fun j hj => ?_)
    cases hc : c j
    · rfl
    · exact absurd ⟨j, hj, hc⟩ h
theorem find_loop (F : Nat → Int32 → Prop) (c : Nat → Bool) (n : Nat) (done : (∀ j, j < n → c j = false) → ∀ f, F (f + 1) (nI n)) (hit : ∀ f k, k < n → c k = true → (∀ j, j < k → c j = false) → F (f + 1) (nI k)) (step : ∀ f k, k < n → c k = false → F f (nI (k + 1)) → F (f + 1) (nI k)) : F (n + 1) 0 := by
  refine for_loop (fun f (_ : Unit) i => F f i) (fun k _ => ∀ j, j < k → c j = false) n () (fun j hj => absurd hj (by omega)) (fun f _ h => done h f) (fun f k _ hk h ih => ?_)
  cases hc : c k
  · refine step f k hk hc (ih () (fun j hj => ?_))
    rcases Nat.lt_or_ge j k with q | q
    · exact h j q
    · rw [show j = k by omega]; exact hc
  · exact hit f k hk hc h
/-! ===== the 21 pairs, in their order ===== -/
def stt (p : Nat) : Nat := [0, 6, 11, 15, 18, 20, 21, 21].getD p 21
def ix (p q : Nat) : Nat := stt p + (q - p - 1)
theorem ix_ok : ∀ p, p < 7 → ∀ q, q < 7 → p < q → pO (ix p q) = p ∧ pT (ix p q) = q ∧ ix p q < 21 := by decide +kernel
theorem ix_of : ∀ k, k < 21 → pO k < pT k ∧ pT k < 7 ∧ ix (pO k) (pT k) = k := by decide +kernel
theorem ix_next : ∀ p, p < 7 → ix p 7 = stt (p + 1) := by decide +kernel
theorem ix_first (p : Nat) : ix p (p + 1) = stt p := by unfold ix; omega
theorem ix_succ {p q : Nat} (h : p < q) : ix p (q + 1) = ix p q + 1 := by unfold ix; omega
theorem skip_row {σ : Type} {I : Nat → σ → Prop} {n : Nat} (hI : ∀ k s, k < 21 → n ≤ pT k → I k s → I (k + 1) s) {p : Nat} (hp : p < n) (hn : n ≤ 7) {s : σ} (h : I (ix p n) s) : I (stt (p + 1)) s := by
  have H : ∀ j q, p < q → n ≤ q → q + j = 7 → I (ix p q) s → I (ix p 7) s := by
    intro j
    induction j with
    | zero => intro q _ _ e h; rw [Nat.add_zero] at e; subst e; exact h
    | succ j ih =>
      intro q h1 h2 e h
      refine ih (q + 1) (by omega) (by omega) (by omega) ?_
      obtain ⟨-, g2, g3⟩ := ix_ok p (by omega) q (by omega) h1
      rw [ix_succ h1]
      exact hI _ s g3 (by rw [g2]; exact h2) h
  rw [← ix_next p (by omega)]
  exact H (7 - n) n hp (Nat.le_refl _) (by omega) h
theorem skip_end {σ : Type} {I : Nat → σ → Prop} {n : Nat} (hI : ∀ k s, k < 21 → n ≤ pT k → I k s → I (k + 1) s) (hn : n ≤ 7) {s : σ} (h : I (stt n) s) : I 21 s := by
  have hk : ∀ k, stt n ≤ k → k < 21 → n ≤ pT k := by
    have : ∀ n, n ≤ 7 → ∀ k, k < 21 → stt n ≤ k → n ≤ pT k := by decide +kernel
    exact fun k h1 h2 => this n hn k h2 h1
  have hs : stt n ≤ 21 := (by decide +kernel : ∀ n, n ≤ 7 → stt n ≤ 21) n hn
  have H : ∀ j k, stt n ≤ k → k + j = 21 → I k s → I 21 s := by
    intro j
    induction j with
    | zero => intro k _ e h; rw [Nat.add_zero] at e; subst e; exact h
    | succ j ih => intro k h1 e h; exact ih (k + 1) (by omega) (by omega) (hI k s (by omega) (hk k h1 (by omega)) h)
  exact H (21 - stt n) (stt n) (Nat.le_refl _) (by omega) h
/-! ===== judge ===== -/
section P4
variable {M : kg_M} {L S : Nat} {T : kT} {N : Nat → Int32} {K : Int32 → kg_M → Prop}
theorem p_judge {σ : kS} (hC : CI M L S σ) : Pair L S M σ (wp_X7_judge L) wp_X8_judge := by
  obtain ⟨T, N, ⟨U, pu⟩, ⟨im, is, kp⟩, sv, fl, ⟨tn, tx⟩, ⟨kn, kw, ki⟩, ⟨bn, bo, bi⟩⟩ := σ
  obtain ⟨⟨hT, hRC⟩, ⟨hSW, hRS⟩, hCU, hCM, hsv, hfl, hCX, hCN, hCB, hLS⟩ := id hC
  have h7 := hT.2.1
  obtain ⟨r, hr1, hr2⟩ : ∃ r : Int32, ((∀ j, j < bn → (!(N (bo j) == bi j)) = false) → r = -1) ∧ ∀ k, k < bn → (!(N (bo k) == bi k)) = true → (∀ j, j < k → (!(N (bo j) == bi j)) = false) → r = nI k := by
    rcases first_cases (fun j => !(N (bo j) == bi j)) bn with h | ⟨k, h1, h2, h3⟩
    · exact ⟨-1, fun _ => rfl, fun k hk hc _ => absurd (h k hk) (by rw [hc]; decide)⟩
    · refine ⟨nI k, fun h => absurd (h k h1) (by rw [h2]; decide), fun k' g1 g2 g3 => ?_⟩
      rcases Nat.lt_trichotomy k k' with q | q | q
      · exact absurd (g3 k q) (by rw [h2]; decide)
      · rw [q]
      · exact absurd (h3 k' q) (by rw [g2]; decide)
  refine ⟨r, (T, N, (U, pu), (im, is, kp), sv, fl, (tn, tx), (kn, kw, ki), (bn, bo, bi)), ⟨_, find_loop (fun f i => wL_X2_firstWrong_2 _ _ _ f (M 3 3) i M) (fun j => !(N (bo j) == bi j)) bn (fun h f => ?_) (fun f k hk hc h => ?_) (fun f k hk hc h => ?_)⟩, fun M1 hM => ⟨_, find_loop (fun f i => wL_X8_judge_2 _ _ _ f i M1) (fun j => !(N (bo j) == bi j)) bn (fun h f => ?_) (fun f k hk hc h => ?_) (fun f k hk hc h => ?_)⟩⟩
  · rw [wL_X2_firstWrong_2, hCB.2.1]
    exact ⟨fun _ => CK_s hC (hr1 h).symm, fun h => absurd (nI_le (Nat.le_refl _) (by have := hCB.1; omega)) h⟩
  all_goals have hb := hCB.1
  · obtain ⟨b1, b2, b3, b4⟩ := hCB.2.2 k hk
    rw [wL_X2_firstWrong_2, hCB.2.1, cl_nI (by omega), b2, b3, hRS.2.2.2.1, bs_has (by decide) (by omega)]
    have e : (if sd N (bo k) = true then (1 : Int32) else 0) = N (bo k) := (n01 (hSW.1 _ (by omega))).symm
    rw [e]
    refine ⟨fun h => absurd h (nI_ge hk (by omega)), fun _ => ⟨in_nI (by omega) (by decide), in_nI (by omega) (by decide), fun e => ?_, fun _ => CK_s hC (hr2 k hk hc h).symm⟩⟩
    rw [e] at hc; simp at hc
  · obtain ⟨b1, b2, b3, b4⟩ := hCB.2.2 k hk
    rw [wL_X2_firstWrong_2, hCB.2.1, cl_nI (by omega), b2, b3, hRS.2.2.2.1, bs_has (by decide) (by omega), nI_1]
    have e : (if sd N (bo k) = true then (1 : Int32) else 0) = N (bo k) := (n01 (hSW.1 _ (by omega))).symm
    rw [e]
    rw [hRS.2.2.2.1] at h
    exact ⟨fun h => absurd h (nI_ge hk (by omega)), fun _ => ⟨in_nI (by omega) (by decide), in_nI (by omega) (by decide), fun _ => h, fun e => absurd (by simpa using hc) e⟩⟩
  · rw [wL_X8_judge_2, hM.2.2.2.2.2.2.2.2.2.1]
    exact ⟨fun _ => MK_s hM (hr1 h).symm, fun h => absurd (nI_le (Nat.le_refl _) (by omega)) h⟩
  · obtain ⟨b1, -⟩ := hCB.2.2 k hk
    obtain ⟨b2, b3⟩ := hM.2.2.2.2.2.2.2.2.2.2 k hk
    rw [wL_X8_judge_2, hM.2.2.2.2.2.2.2.2.2.1, cl_nI (by omega), b2, b3, cl_nI (by omega), hM.2.2.1 _ (by omega)]
    refine ⟨fun h => absurd h (nI_ge hk (by omega)), fun _ => ⟨in_nI (by omega) (by decide), in_nI (by omega) (by decide), in_nI (by omega) (by decide), fun e => ?_, fun _ => MK_s hM (hr2 k hk hc h).symm⟩⟩
    rw [e] at hc; simp at hc
  · obtain ⟨b1, -⟩ := hCB.2.2 k hk
    obtain ⟨b2, b3⟩ := hM.2.2.2.2.2.2.2.2.2.2 k hk
    rw [wL_X8_judge_2, hM.2.2.2.2.2.2.2.2.2.1, cl_nI (by omega), b2, b3, cl_nI (by omega), hM.2.2.1 _ (by omega), nI_1]
    exact ⟨fun h => absurd h (nI_ge hk (by omega)), fun _ => ⟨in_nI (by omega) (by decide), in_nI (by omega) (by decide), in_nI (by omega) (by decide), fun _ => h, fun e => absurd (by simpa using hc) e⟩⟩
/-! ===== tear, ill, write ===== -/
theorem knS_0 (kw : Nat → Nat) (ki : Nat → Bool) (b : Bool) : bs (knS 0 kw ki b) 7 = 0 := (bs_cong (c' := fun _ => false) (fun p _ => decide_eq_false (fun ⟨k, hk, _⟩ => absurd hk (Nat.not_lt_zero k)))).trans (bs_zero 7)
theorem p_tear {σ : kS} (hC : CI M L S σ) : Pair L S M σ (wp_X7_tear L) wp_X8_tear := by
  obtain ⟨T, N, ⟨U, pu⟩, ⟨im, is, kp⟩, sv, fl, ⟨tn, tx⟩, ⟨kn, kw, ki⟩, ⟨bn, bo, bi⟩⟩ := σ
  obtain ⟨⟨hT, hRC⟩, ⟨hSW, hRS⟩, hCU, hCM, hsv, hfl, hCX, hCN, hCB, hLS⟩ := id hC
  refine ⟨nI kn + nI bn, (T, N, (U, pu), (im, is, kp), sv, fl, (tn, tx), (0, kw, ki), (0, bo, bi)), ?_, fun M1 hM => ?_⟩
  · unfold wp_X7_tear wp_X2_forget
    intro M2 e2 M5 e5 M8 e8 M11 e11
    have r : ∀ k, k ≠ 89 → M11 k = M k := fun k hk => by rw [e11, kg_row_ne M8 _ hk, e8, kg_row_ne M5 _ hk, e5, kg_row_ne M2 _ hk, e2, kg_row_ne M _ hk]
    have e : M11 89 = upd (upd (upd (upd (M 89) 0 0) 1 0) 2 0) 3 0 := by rw [e11, kg_row_eq, e8, kg_row_eq, e5, kg_row_eq, e2, kg_row_eq]
    refine ⟨by rw [hCN.2.2.1, hCB.2.1], ⟨⟨hT, RCL_of hLS hRC (fun k h1 h2 => r k (by omega))⟩, ⟨hSW, RS_of (r _ (by omega)) (r _ (by omega)) (r _ (by omega)) (r _ (by omega)) hRS⟩, ?_, CM_of hCM (fun k h1 h2 => r k (by omega)), by rw [r 0 (by omega)]; exact hsv, by rw [r 0 (by omega)]; exact hfl, CX_of hCX (fun k hk => r k (by omega)), ⟨by omega, fun k hk => absurd hk (by omega), by rw [e]; rfl, by rw [e, knS_0]; rfl, by rw [e, knS_0]; rfl⟩, ⟨by omega, by rw [e]; rfl, fun k hk => absurd hk (by omega)⟩, hLS⟩, fun k hk => r k (by omega)⟩
    exact CU_of hCU (fun k h1 h2 => r k (by omega))
  · intro M2 e2 M5 e5
    have r : ∀ k, k ≠ 117 → M5 k = M1 k := fun k hk => by rw [e5, kg_row_ne M2 _ hk, e2, kg_row_ne M1 _ hk]
    have e : M5 117 = upd (upd (M1 117) 32 0) 35 0 := by rw [e5, kg_row_eq, e2, kg_row_eq]
    have s1 : ∀ j, j ≠ 32 → j ≠ 35 → M5 117 j = M1 117 j := fun j h1 h2 => by rw [e]; simp [upd, h1, h2]
    obtain ⟨a1, a2, a3, a4, a5, a6, a7, a8, a9, a10⟩ := hM
    exact ⟨by rw [a9.1, a10.1], ⟨RT_of a1 (s1 0 (by decide) (by decide)) (s1 2 (by decide) (by decide)) (fun k hk => r k (by omega)), RP_of a2 (fun k hk => r k (by omega)), RN_of a3 (r 120 (by decide)), MU_of a4 (s1 20 (by decide) (by decide)) (r 128 (by decide)), MM_of a5 (fun k hk => r k (by omega)), (s1 5 (by decide) (by decide)).trans a6, (s1 10 (by decide) (by decide)).trans a7, MX_of a8 (s1 9 (by decide) (by decide)) (r 123 (by decide)), ⟨by rw [e]; rfl, fun k hk => absurd hk (by omega)⟩, ⟨by rw [e]; rfl, fun k hk => absurd hk (by omega)⟩⟩, fun k hk => r k (by omega)⟩
theorem or_bit {c : Nat → Bool} {p : Nat} (hp : p < 7) : nI (bs c 7) ||| ((1 : Int32) <<< (nI p &&& 31)) = nI (bs (fun i => c i || i == p) 7) := by rw [shl_one hp (by decide), bs_ior]
theorem knS_add {kn : Nat} {kw : Nat → Nat} {ki : Nat → Bool} {p : Nat} {b : Bool} (c : Bool) : bs (knS (kn + 1) (fun k => if k = kn then p else kw k) (fun k => if k = kn then b else ki k) c) 7 = bs (fun i => knS kn kw ki c i || (i == p && b == c)) 7 := by
  apply bs_cong
  intro i _
  unfold knS
  by_cases h1 : ∃ k, k < kn ∧ kw k = i ∧ ki k = c
  · rw [decide_eq_true h1, Bool.true_or]
    obtain ⟨k, hk, e1, e2⟩ := h1
    refine decide_eq_true ⟨k, by omega, ?_, ?_⟩
    · show (if k = kn then p else kw k) = i
      rw [if_neg (by omega)]; exact e1
    · show (if k = kn then b else ki k) = c
      rw [if_neg (by omega)]; exact e2
  · rw [decide_eq_false h1, Bool.false_or]
    by_cases h2 : i = p ∧ b = c
    · rw [h2.1, h2.2]
      simp only [beq_self_eq_true, Bool.and_self]
      exact decide_eq_true ⟨kn, by omega, by simp, by simp⟩
    · have e : (i == p && b == c) = false := by
        cases hb : (i == p && b == c)
        · rfl
        · simp at hb; exact absurd hb h2
      rw [e]
      refine decide_eq_false ?_
      rintro ⟨k, hk, e1, e2⟩
      dsimp only at e1 e2
      by_cases hkn : k = kn
      · rw [if_pos hkn] at e1 e2
        exact h2 ⟨e1.symm, e2⟩
      · rw [if_neg hkn] at e1 e2
        exact h1 ⟨k, by omega, e1, e2⟩
theorem p_ill {σ : kS} (v w : Int32) (hw : w = 0 ∨ w = 1) (hC : CI M L S σ) : Pair L S M σ (wp_X7_ill L v w) (wp_X8_ill v w) := by
  obtain ⟨T, N, ⟨U, pu⟩, ⟨im, is, kp⟩, sv, fl, ⟨tn, tx⟩, ⟨kn, kw, ki⟩, ⟨bn, bo, bi⟩⟩ := σ
  obtain ⟨⟨hT, hRC⟩, ⟨hSW, hRS⟩, hCU, hCM, hsv, hfl, hCX, hCN, hCB, hLS⟩ := id hC
  have h7 := hT.2.1
  obtain ⟨h6, hkw, k0, k1, k2⟩ := id hCN
  rcases ix_cases v (tP T) (by omega) with hv | ⟨p, hp, rfl⟩
  · exact ⟨-1000000001, _, c_hasPerson_f hRC hv ⟨fun h => absurd rfl h, fun _ => CK_s hC rfl⟩, fun M1 hM => m_isPerson_f hM.1 hT hv ⟨fun h => absurd rfl h, fun _ => MK_s hM rfl⟩⟩
  by_cases hf : kn = 6
  · refine ⟨-1000000004, (T, N, (U, pu), (im, is, kp), sv, fl, (tn, tx), (kn, kw, ki), (bn, bo, bi)), c_hasPerson_t hRC hT hp ⟨fun _ => ⟨fun h => ?_, fun _ => CK_s hC rfl⟩, fun h => absurd h (by decide)⟩, fun M1 hM => m_isPerson_t hM.1 hT hp ⟨fun _ => ⟨fun h => absurd (by rw [hM.2.2.2.2.2.2.2.2.1.1, hf]; rfl) h, fun _ => MK_s hM rfl⟩, fun h => absurd h (by decide)⟩⟩
    rw [k0, hf] at h
    exact absurd h (by decide)
  have hlt : kn < 6 := by omega
  refine ⟨nI (kn + 1), (T, N, (U, pu), (im, is, kp), sv, fl, (tn, tx), (kn + 1, (fun k => if k = kn then p else kw k), (fun k => if k = kn then (w == 1) else ki k)), (bn, bo, bi)), c_hasPerson_t hRC hT hp ⟨fun _ => ⟨fun _ => ?_, fun h => absurd (by rw [k0]; exact nI_lt (b := 6) hlt (by decide)) h⟩, fun h => absurd h (by decide)⟩, fun M1 hM => m_isPerson_t hM.1 hT hp ⟨fun _ => ⟨fun _ => ?_, fun h => ?_⟩, fun h => absurd h (by decide)⟩⟩
  · have fin : ∀ M5 M9 : kg_M, (∀ k, k ≠ 89 → M5 k = M k) → M5 89 0 = M 89 0 → M5 89 3 = M 89 3 → M5 89 1 = nI (bs (knS (kn + 1) (fun k => if k = kn then p else kw k) (fun k => if k = kn then (w == 1) else ki k) true) 7) → M5 89 2 = nI (bs (knS (kn + 1) (fun k => if k = kn then p else kw k) (fun k => if k = kn then (w == 1) else ki k) false) 7) → M9 = kg_row M5 89 (upd (M5 89) 0 ((M5 89 0) + (1 : Int32))) → CK L S M (nI (kn + 1)) (T, N, (U, pu), (im, is, kp), sv, fl, (tn, tx), (kn + 1, (fun k => if k = kn then p else kw k), (fun k => if k = kn then (w == 1) else ki k)), (bn, bo, bi)) (M9 89 0) M9 := by
      intro M5 M9 r5 g0 g3 g1 g2 e9
      have r : ∀ k, k ≠ 89 → M9 k = M k := fun k hk => by rw [e9, kg_row_ne M5 _ hk, r5 k hk]
      have e : M9 89 = upd (M5 89) 0 (nI (kn + 1)) := by rw [e9, kg_row_eq, g0, k0, nI_1]
      refine ⟨by rw [e]; rfl, ⟨⟨hT, RCL_of hLS hRC (fun k h1 h2 => r k (by omega))⟩, ⟨hSW, RS_of (r _ (by omega)) (r _ (by omega)) (r _ (by omega)) (r _ (by omega)) hRS⟩, CU_of hCU (fun k h1 h2 => r k (by omega)), CM_of hCM (fun k h1 h2 => r k (by omega)), by rw [r 0 (by omega)]; exact hsv, by rw [r 0 (by omega)]; exact hfl, CX_of hCX (fun k hk => r k (by omega)), ⟨by omega, fun k hk => ?_, by rw [e]; rfl, by rw [e]; exact g1, by rw [e]; exact g2⟩, CB_of hCB (by rw [e]; exact g3) (fun k hk => r k (by omega)), hLS⟩, fun k hk => r k (by omega)⟩
      show (if k = kn then p else kw k) < tP T
      split
      · exact hp
      · exact hkw k (by omega)
    unfold wp_X2_learn wJ_X2_learn_31
    refine ⟨fun h0 M5 e5 M9 e9 => ?_, fun h0 M5 e5 M9 e9 => ?_⟩
    · have e : M5 89 = upd (M 89) 2 (nI (bs (fun i => knS kn kw ki false i || i == p) 7)) := by rw [e5, kg_row_eq, k2, or_bit (by omega)]
      refine fin M5 M9 (fun k hk => by rw [e5, kg_row_ne M _ hk]) (by rw [e]; rfl) (by rw [e]; rfl) ?_ ?_ e9
      · rw [e, knS_add, h0]
        show M 89 1 = _
        rw [k1]
        congr 1
        exact bs_cong (fun i _ => by simp)
      · rw [e, knS_add, h0]
        show nI _ = _
        congr 1
        exact bs_cong (fun i _ => by simp)
    · have h1 : w = 1 := hw.resolve_left h0
      have e : M5 89 = upd (M 89) 1 (nI (bs (fun i => knS kn kw ki true i || i == p) 7)) := by rw [e5, kg_row_eq, k1, or_bit (by omega)]
      refine fin M5 M9 (fun k hk => by rw [e5, kg_row_ne M _ hk]) (by rw [e]; rfl) (by rw [e]; rfl) ?_ ?_ e9
      · rw [e, knS_add, h1]
        show nI _ = _
        congr 1
        exact bs_cong (fun i _ => by simp)
      · rw [e, knS_add, h1]
        show M 89 2 = _
        rw [k2]
        congr 1
        exact bs_cong (fun i _ => by simp)
  · obtain ⟨a1, a2, a3, a4, a5, a6, a7, a8, a9, a10⟩ := id hM
    rw [a9.1, cl_nI (by omega)]
    refine ⟨in_nI (by omega) (by decide), fun M13 e13 => ?_⟩
    have g13 : M13 117 32 = nI kn := by rw [e13, kg_row_ne M1 _ (by decide)]; exact a9.1
    rw [g13, cl_nI (by omega)]
    refine ⟨in_nI (by omega) (by decide), hw, fun M19 e19 M22 e22 => ?_⟩
    have r : ∀ k, k ≠ 117 → k ≠ 136 → k ≠ 137 → M22 k = M1 k := fun k h1 h2 h3 => by rw [e22, kg_row_ne M19 _ h1, e19, kg_row_ne M13 _ h3, e13, kg_row_ne M1 _ h2]
    have e : M22 117 = upd (M1 117) 32 (nI (kn + 1)) := by
      have : M19 117 = M1 117 := by rw [e19, kg_row_ne M13 _ (by decide), e13, kg_row_ne M1 _ (by decide)]
      rw [e22, kg_row_eq, this, a9.1, nI_1]
    have e136 : M22 136 = upd (M1 136) kn (nI p) := by rw [e22, kg_row_ne M19 _ (by decide), e19, kg_row_ne M13 _ (by decide), e13, kg_row_eq]
    have e137 : M22 137 = upd (M1 137) kn w := by rw [e22, kg_row_ne M19 _ (by decide), e19, kg_row_eq, e13, kg_row_ne M1 _ (by decide)]
    have s1 : ∀ j, j ≠ 32 → M22 117 j = M1 117 j := fun j h1 => by rw [e]; simp [upd, h1]
    refine ⟨by rw [e]; rfl, ⟨RT_of a1 (s1 0 (by decide)) (s1 2 (by decide)) (fun k hk => r k (by omega) (by omega) (by omega)), RP_of a2 (fun k hk => r k (by omega) (by omega) (by omega)), RN_of a3 (r 120 (by decide) (by decide) (by decide)), MU_of a4 (s1 20 (by decide)) (r 128 (by decide) (by decide) (by decide)), MM_of a5 (fun k hk => r k (by omega) (by omega) (by omega)), (s1 5 (by decide)).trans a6, (s1 10 (by decide)).trans a7, MX_of a8 (s1 9 (by decide)) (r 123 (by decide) (by decide) (by decide)), ⟨by rw [e]; rfl, fun k hk => ?_⟩, MB_of a10 (s1 35 (by decide)) (fun k hk => r k (by omega) (by omega) (by omega))⟩, fun k hk => r k (by omega) (by omega) (by omega)⟩
    rw [e136, e137]
    by_cases hkn : k = kn
    · subst hkn
      simp only [upd, if_true]
      refine ⟨trivial, ?_⟩
      rcases hw with h | h <;> rw [h] <;> rfl
    · simp only [upd, if_neg hkn]
      exact a9.2 k (by omega)
  · rw [hM.2.2.2.2.2.2.2.2.1.1] at h
    exact absurd (nI_inj (b := 6) (by omega) (by decide) h) hf
theorem p_write {σ : kS} (v w : Int32) (hC : CI M L S σ) : Pair L S M σ (wp_X7_write L v w) (wp_X8_write v w) := by
  obtain ⟨T, N, ⟨U, pu⟩, ⟨im, is, kp⟩, sv, fl, ⟨tn, tx⟩, ⟨kn, kw, ki⟩, ⟨bn, bo, bi⟩⟩ := σ
  obtain ⟨⟨hT, hRC⟩, ⟨hSW, hRS⟩, hCU, hCM, hsv, hfl, hCX, hCN, hCB, hLS⟩ := id hC
  have h7 := hT.2.1
  obtain ⟨h15, b3, hb⟩ := id hCB
  rcases ix_cases v (tP T) (by omega) with hv | ⟨p, hp, rfl⟩
  · exact ⟨-1000000001, _, c_hasPerson_f hRC hv ⟨fun h => absurd rfl h, fun _ => CK_s hC rfl⟩, fun M1 hM => m_isPerson_f hM.1 hT hv ⟨fun h => absurd rfl h, fun _ => MK_s hM rfl⟩⟩
  by_cases hw : w = 0 ∨ w = 1
  · have hc : ∀ K : Int32 → kg_M → Prop, wJ_X7_write_26 L K (nI p) w M → wp_X7_write L (nI p) w M K := fun K h => c_hasPerson_t hRC hT hp ⟨fun _ => ⟨fun _ => h, fun h0 => ⟨fun _ => h, fun h1 => absurd (hw.resolve_left h0) h1⟩⟩, fun h => absurd h (by decide)⟩
    have hm : ∀ {M1 : kg_M} {K : Int32 → kg_M → Prop}, K 1 M1 → wp_X8_in w.toInt64 0 1 M1 K := fun {M1 K} hK => m_inL 0 1 rfl rfl (fun _ _ => hK) (fun h => by
      rcases hw with e | e <;> rw [e] at h <;> exact absurd h (by decide))
    by_cases hf : bn = 15
    · refine ⟨-1000000004, (T, N, (U, pu), (im, is, kp), sv, fl, (tn, tx), (kn, kw, ki), (bn, bo, bi)), hc _ ⟨fun h => ?_, fun _ => CK_s hC rfl⟩, fun M1 hM => m_isPerson_t hM.1 hT hp ⟨fun _ => hm ⟨fun _ => ⟨fun h => absurd (by rw [hM.2.2.2.2.2.2.2.2.2.1, hf]; rfl) h, fun _ => MK_s hM rfl⟩, fun h => absurd h (by decide)⟩, fun h => absurd h (by decide)⟩⟩
      rw [b3, hf] at h
      exact absurd h (by decide)
    have hlt : bn < 15 := by omega
    refine ⟨nI (bn + 1), (T, N, (U, pu), (im, is, kp), sv, fl, (tn, tx), (kn, kw, ki), (bn + 1, (fun k => if k = bn then p else bo k), upd bi bn w)), hc _ ⟨fun _ => ?_, fun h => absurd (by rw [b3]; exact nI_lt (b := 15) hlt (by decide)) h⟩, fun M1 hM => m_isPerson_t hM.1 hT hp ⟨fun _ => hm ⟨fun _ => ⟨fun _ => ?_, fun h => ?_⟩, fun h => absurd h (by decide)⟩, fun h => absurd h (by decide)⟩⟩
    · unfold wp_X2_enter
      rw [b3, cl_nI (by omega)]
      refine ⟨fun h => absurd h (nI_ge (b := 15) hlt (by decide)), fun _ => ⟨in_nI hlt (by decide), fun M7 e7 => ?_⟩⟩
      have g7 : M7 89 3 = nI bn := by rw [e7, kg_row_ne M _ (by decide)]; exact b3
      rw [g7, cl_nI (by omega)]
      refine ⟨in_nI hlt (by decide), fun M12 e12 M15 e15 => ?_⟩
      have r : ∀ k, k ≠ 89 → k ≠ 90 → k ≠ 91 → M15 k = M k := fun k h1 h2 h3 => by rw [e15, kg_row_ne M12 _ h1, e12, kg_row_ne M7 _ h3, e7, kg_row_ne M _ h2]
      have e : M15 89 = upd (M 89) 3 (nI (bn + 1)) := by
        have : M12 89 = M 89 := by rw [e12, kg_row_ne M7 _ (by decide), e7, kg_row_ne M _ (by decide)]
        rw [e15, kg_row_eq, this, b3, nI_1]
      have e90 : M15 90 = upd (M 90) bn (nI p) := by rw [e15, kg_row_ne M12 _ (by decide), e12, kg_row_ne M7 _ (by decide), e7, kg_row_eq]
      have e91 : M15 91 = upd (M 91) bn w := by rw [e15, kg_row_ne M12 _ (by decide), e12, kg_row_eq, e7, kg_row_ne M _ (by decide)]
      refine ⟨by rw [e]; rfl, ⟨⟨hT, RCL_of hLS hRC (fun k h1 h2 => r k (by omega) (by omega) (by omega))⟩, ⟨hSW, RS_of (r _ (by omega) (by omega) (by omega)) (r _ (by omega) (by omega) (by omega)) (r _ (by omega) (by omega) (by omega)) (r _ (by omega) (by omega) (by omega)) hRS⟩, CU_of hCU (fun k h1 h2 => r k (by omega) (by omega) (by omega)), CM_of hCM (fun k h1 h2 => r k (by omega) (by omega) (by omega)), by rw [r 0 (by omega) (by omega) (by omega)]; exact hsv, by rw [r 0 (by omega) (by omega) (by omega)]; exact hfl, CX_of hCX (fun k hk => r k (by omega) (by omega) (by omega)), CN_of hCN (fun j hj => by rw [e]; simp [upd, show ¬ j = 3 by omega]), ⟨by omega, by rw [e]; rfl, fun k hk => ?_⟩, hLS⟩, fun k hk => r k (by omega) (by omega) (by omega)⟩
      rw [e90, e91]
      by_cases hkn : k = bn
      · subst hkn
        simp only [upd, if_true]
        exact ⟨hp, trivial, trivial, hw⟩
      · simp only [upd, if_neg hkn]
        exact hb k (by omega)
    · obtain ⟨a1, a2, a3, a4, a5, a6, a7, a8, a9, a10⟩ := id hM
      rw [a10.1, cl_nI (by omega)]
      refine ⟨in_nI (by omega) (by decide), fun M13 e13 => ?_⟩
      have g13 : M13 117 35 = nI bn := by rw [e13, kg_row_ne M1 _ (by decide)]; exact a10.1
      rw [g13, cl_nI (by omega)]
      refine ⟨in_nI (by omega) (by decide), fun M19 e19 M22 e22 => ?_⟩
      have r : ∀ k, k ≠ 117 → k ≠ 138 → k ≠ 139 → M22 k = M1 k := fun k h1 h2 h3 => by rw [e22, kg_row_ne M19 _ h1, e19, kg_row_ne M13 _ h3, e13, kg_row_ne M1 _ h2]
      have e : M22 117 = upd (M1 117) 35 (nI (bn + 1)) := by
        have : M19 117 = M1 117 := by rw [e19, kg_row_ne M13 _ (by decide), e13, kg_row_ne M1 _ (by decide)]
        rw [e22, kg_row_eq, this, a10.1, nI_1]
      have e136 : M22 138 = upd (M1 138) bn (nI p) := by rw [e22, kg_row_ne M19 _ (by decide), e19, kg_row_ne M13 _ (by decide), e13, kg_row_eq]
      have e137 : M22 139 = upd (M1 139) bn w := by rw [e22, kg_row_ne M19 _ (by decide), e19, kg_row_eq, e13, kg_row_ne M1 _ (by decide)]
      have s1 : ∀ j, j ≠ 35 → M22 117 j = M1 117 j := fun j h1 => by rw [e]; simp [upd, h1]
      refine ⟨by rw [e]; rfl, ⟨RT_of a1 (s1 0 (by decide)) (s1 2 (by decide)) (fun k hk => r k (by omega) (by omega) (by omega)), RP_of a2 (fun k hk => r k (by omega) (by omega) (by omega)), RN_of a3 (r 120 (by decide) (by decide) (by decide)), MU_of a4 (s1 20 (by decide)) (r 128 (by decide) (by decide) (by decide)), MM_of a5 (fun k hk => r k (by omega) (by omega) (by omega)), (s1 5 (by decide)).trans a6, (s1 10 (by decide)).trans a7, MX_of a8 (s1 9 (by decide)) (r 123 (by decide) (by decide) (by decide)), MN_of a9 (s1 32 (by decide)) (fun k hk => r k (by omega) (by omega) (by omega)), ⟨by rw [e]; rfl, fun k hk => ?_⟩⟩, fun k hk => r k (by omega) (by omega) (by omega)⟩
      rw [e136, e137]
      by_cases hkn : k = bn
      · subst hkn
        simp only [upd, if_true]
        exact ⟨trivial, trivial⟩
      · simp only [upd, if_neg hkn]
        exact a10.2 k (by omega)
    · rw [hM.2.2.2.2.2.2.2.2.2.1] at h
      exact absurd (nI_inj (b := 15) (by omega) (by decide) h) hf
  · have h0 : ¬ w = 0 := fun e => hw (Or.inl e)
    have h1 : ¬ w = 1 := fun e => hw (Or.inr e)
    exact ⟨-1000000002, _, c_hasPerson_t hRC hT hp ⟨fun _ => ⟨fun h => absurd h h0, fun _ => ⟨fun h => absurd h h1, fun _ => CK_s hC rfl⟩⟩, fun h => absurd h (by decide)⟩, fun M1 hM => m_isPerson_t hM.1 hT hp ⟨fun _ => m_inL 0 1 rfl rfl (fun g1 g2 => by
      rcases ix_cases w 2 (by decide) with h | ⟨j, hj, e⟩
      · rcases h with h | h
        · exact absurd g1 (fa_of_lt h).2.1
        · exact absurd (Int32.le_trans h g2) (by decide)
      · rcases (show j = 0 ∨ j = 1 by omega) with rfl | rfl
        · exact absurd e h0
        · exact absurd e h1) (fun _ => ⟨fun h => absurd rfl h, fun _ => MK_s hM rfl⟩), fun h => absurd h (by decide)⟩⟩
end P4
