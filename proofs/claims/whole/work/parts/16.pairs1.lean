/-! ===== pairs: class and reference answer alike, and hold the same behind it ===== -/
def CK (L S : Nat) (M : kg_M) (r : Int32) (σ : kS) : Int32 → kg_M → Prop := fun x M' => x = r ∧ CI M' L S σ ∧ ∀ k, 117 ≤ k → M' k = M k
def MK (M : kg_M) (r : Int32) (σ : kS) : Int32 → kg_M → Prop := fun x M' => x = r ∧ MI M' σ ∧ ∀ k, k < 117 → M' k = M k
def Pair (L S : Nat) (M : kg_M) (σ : kS) (wc wm : kg_M → (Int32 → kg_M → Prop) → Prop) : Prop := ∃ (r : Int32) (σ' : kS), wc M (CK L S M r σ') ∧ ∀ M1, MI M1 σ → wm M1 (MK M1 r σ')
theorem CK_s {L S : Nat} {M : kg_M} {σ : kS} (h : CI M L S σ) {r x : Int32} (e : x = r) : CK L S M r σ x M := ⟨e, h, fun _ _ => rfl⟩
theorem MK_s {M : kg_M} {σ : kS} (h : MI M σ) {r x : Int32} (e : x = r) : MK M r σ x M := ⟨e, h, fun _ _ => rfl⟩
theorem lit_cl (n : Nat) (h : n < 2 ^ 31) : (OfNat.ofNat n : Int32).toNatClampNeg = n := nI_clamp h
theorem lit_in (n N : Nat) (h : n < N) (hN : N < 2 ^ 31) : vp_in (OfNat.ofNat n : Int32) N := vp_in_nI h hN
section P1
variable {M : kg_M} {L S : Nat} {σ : kS}
theorem fa_le_nlt {a b : Int32} (h : a ≤ b) : ¬ b < a := fun h2 => (fa_of_lt h2).2.1 h
theorem p_fault (hC : CI M L S σ) : Pair L S M σ (wp_X7_fault L) (wp_X8_fault) := by
  obtain ⟨T, N, ⟨U, pu⟩, ⟨im, is, kp⟩, sv, fl, ⟨tn, tx⟩, ⟨kn, kw, ki⟩, ⟨bn, bo, bi⟩⟩ := σ
  refine ⟨fl, _, CK_s hC hC.2.2.2.2.2.1, fun M1 hM => MK_s hM hM.2.2.2.2.2.2.1⟩
theorem p_told (v : Int32) (hC : CI M L S σ) : Pair L S M σ (wp_X7_told L v) (wp_X8_told v) := by
  obtain ⟨T, N, ⟨U, pu⟩, ⟨im, is, kp⟩, sv, fl, ⟨tn, tx⟩, ⟨kn, kw, ki⟩, ⟨bn, bo, bi⟩⟩ := σ
  obtain ⟨⟨hT, hRC⟩, ⟨hSW, hRS⟩, hCU, hCM, hsv, hfl, hCX, hCN, hCB, hLS⟩ := id hC
  have h7 := hT.2.1
  by_cases h0 : v = 0
  · subst h0
    exact ⟨nI (tG T), _, ⟨fun _ => CK_s hC hRC.1, fun h => absurd rfl h⟩, fun M1 hM => ⟨fun _ => MK_s hM hM.1.1, fun h => absurd rfl h⟩⟩
  by_cases h1 : v = 1
  · subst h1
    exact ⟨nI (tP T), _, ⟨fun h => absurd h (by decide), fun _ => ⟨fun _ => CK_s hC hRC.2.1, fun h => absurd rfl h⟩⟩, fun M1 hM => ⟨fun h => absurd h (by decide), fun _ => ⟨fun _ => MK_s hM hM.1.2.1, fun h => absurd rfl h⟩⟩⟩
  by_cases h2 : v = 2
  · subst h2
    exact ⟨nI tn, _, ⟨fun h => absurd h (by decide), fun _ => ⟨fun h => absurd h (by decide), fun _ => ⟨fun _ => CK_s hC hCX.2.1, fun h => absurd rfl h⟩⟩⟩, fun M1 hM => ⟨fun h => absurd h (by decide), fun _ => ⟨fun h => absurd h (by decide), fun _ => ⟨fun _ => MK_s hM hM.2.2.2.2.2.2.2.1.1, fun h => absurd rfl h⟩⟩⟩⟩
  by_cases h3 : v = 3
  · subst h3
    exact ⟨N 31, _, ⟨fun h => absurd h (by decide), fun _ => ⟨fun h => absurd h (by decide), fun _ => ⟨fun h => absurd h (by decide), fun _ => ⟨fun _ => CK_s hC hRS.1, fun h => absurd rfl h⟩⟩⟩⟩, fun M1 hM => ⟨fun h => absurd h (by decide), fun _ => ⟨fun h => absurd h (by decide), fun _ => ⟨fun h => absurd h (by decide), fun _ => ⟨fun _ => ⟨lit_in 31 55 (by decide) (by decide), MK_s hM (by rw [lit_cl 31 (by decide)]; exact hM.2.2.1 31 (by decide))⟩, fun h => absurd rfl h⟩⟩⟩⟩⟩
  by_cases h4 : v = 4
  · subst h4
    exact ⟨N 32, _, ⟨fun h => absurd h (by decide), fun _ => ⟨fun h => absurd h (by decide), fun _ => ⟨fun h => absurd h (by decide), fun _ => ⟨fun h => absurd h (by decide), fun _ => ⟨fun _ => CK_s hC hRS.2.1, fun h => absurd rfl h⟩⟩⟩⟩⟩, fun M1 hM => ⟨fun h => absurd h (by decide), fun _ => ⟨fun h => absurd h (by decide), fun _ => ⟨fun h => absurd h (by decide), fun _ => ⟨fun h => absurd h (by decide), fun _ => ⟨fun _ => ⟨lit_in 32 55 (by decide) (by decide), MK_s hM (by rw [lit_cl 32 (by decide)]; exact hM.2.2.1 32 (by decide))⟩, fun h => absurd rfl h⟩⟩⟩⟩⟩⟩
  by_cases h5 : v = 5
  · subst h5
    exact ⟨N 33, _, ⟨fun h => absurd h (by decide), fun _ => ⟨fun h => absurd h (by decide), fun _ => ⟨fun h => absurd h (by decide), fun _ => ⟨fun h => absurd h (by decide), fun _ => ⟨fun h => absurd h (by decide), fun _ => ⟨fun _ => CK_s hC hRS.2.2.1, fun h => absurd rfl h⟩⟩⟩⟩⟩⟩, fun M1 hM => ⟨fun h => absurd h (by decide), fun _ => ⟨fun h => absurd h (by decide), fun _ => ⟨fun h => absurd h (by decide), fun _ => ⟨fun h => absurd h (by decide), fun _ => ⟨fun h => absurd h (by decide), fun _ => ⟨fun _ => ⟨lit_in 33 55 (by decide) (by decide), MK_s hM (by rw [lit_cl 33 (by decide)]; exact hM.2.2.1 33 (by decide))⟩, fun h => absurd rfl h⟩⟩⟩⟩⟩⟩⟩
  by_cases h6 : v = 6
  · subst h6
    exact ⟨nI (bs (sd N) 7), _, ⟨fun h => absurd h (by decide), fun _ => ⟨fun h => absurd h (by decide), fun _ => ⟨fun h => absurd h (by decide), fun _ => ⟨fun h => absurd h (by decide), fun _ => ⟨fun h => absurd h (by decide), fun _ => ⟨fun h => absurd h (by decide), fun _ => ⟨fun _ => CK_s hC hRS.2.2.2.1, fun h => absurd rfl h⟩⟩⟩⟩⟩⟩⟩, fun M1 hM => ⟨fun h => absurd h (by decide), fun _ => ⟨fun h => absurd h (by decide), fun _ => ⟨fun h => absurd h (by decide), fun _ => ⟨fun h => absurd h (by decide), fun _ => ⟨fun h => absurd h (by decide), fun _ => ⟨fun h => absurd h (by decide), fun _ => ⟨fun _ => m_allWith (a := 0) (N := N) (by decide) hM.1 hT hM.2.2.1 (MK_s hM (by rw [bs_cut (n := tP T) (k := 7) h7 (fun p h1 h2 => by unfold sd; rw [hSW.2.1 p h1 h2]; rfl)]; congr 1; exact bs_cong (fun p _ => by unfold sd; rw [Nat.zero_add]))), fun h => absurd rfl h⟩⟩⟩⟩⟩⟩⟩⟩
  by_cases h7 : v = 7
  · subst h7
    exact ⟨nI (bs (cd N) 7), _, ⟨fun h => absurd h (by decide), fun _ => ⟨fun h => absurd h (by decide), fun _ => ⟨fun h => absurd h (by decide), fun _ => ⟨fun h => absurd h (by decide), fun _ => ⟨fun h => absurd h (by decide), fun _ => ⟨fun h => absurd h (by decide), fun _ => ⟨fun h => absurd h (by decide), fun _ => ⟨fun _ => CK_s hC hRS.2.2.2.2.1, fun h => absurd rfl h⟩⟩⟩⟩⟩⟩⟩⟩, fun M1 hM => ⟨fun h => absurd h (by decide), fun _ => ⟨fun h => absurd h (by decide), fun _ => ⟨fun h => absurd h (by decide), fun _ => ⟨fun h => absurd h (by decide), fun _ => ⟨fun h => absurd h (by decide), fun _ => ⟨fun h => absurd h (by decide), fun _ => ⟨fun h => absurd h (by decide), fun _ => ⟨fun _ => m_allWith (a := 14) (N := N) (by decide) hM.1 hT hM.2.2.1 (MK_s hM (by rw [bs_cut (n := tP T) (k := 7) h7 (fun p h1 h2 => by unfold cd; rw [hSW.2.2.2.2.2.1 p h1 h2]; rfl)]; rfl)), fun h => absurd rfl h⟩⟩⟩⟩⟩⟩⟩⟩⟩
  by_cases h8 : v = 8
  · subst h8
    exact ⟨nI (bs (fun p => !(N (7 + p) == -1)) (tP T)), _, ⟨fun h => absurd h (by decide), fun _ => ⟨fun h => absurd h (by decide), fun _ => ⟨fun h => absurd h (by decide), fun _ => ⟨fun h => absurd h (by decide), fun _ => ⟨fun h => absurd h (by decide), fun _ => ⟨fun h => absurd h (by decide), fun _ => ⟨fun h => absurd h (by decide), fun _ => ⟨fun h => absurd h (by decide), fun _ => ⟨fun _ => c_waiting hRC hT hRS (CK_s hC rfl), fun h => absurd rfl h⟩⟩⟩⟩⟩⟩⟩⟩⟩, fun M1 hM => ⟨fun h => absurd h (by decide), fun _ => ⟨fun h => absurd h (by decide), fun _ => ⟨fun h => absurd h (by decide), fun _ => ⟨fun h => absurd h (by decide), fun _ => ⟨fun h => absurd h (by decide), fun _ => ⟨fun h => absurd h (by decide), fun _ => ⟨fun h => absurd h (by decide), fun _ => ⟨fun h => absurd h (by decide), fun _ => ⟨fun _ => m_waiting hM.1 hT hM.2.2.1 hSW (MK_s hM rfl), fun h => absurd rfl h⟩⟩⟩⟩⟩⟩⟩⟩⟩⟩
  by_cases h9 : v = 9
  · subst h9
    exact ⟨nI (bs (fun g => N (26 + g) == 1) (tG T)), _, ⟨fun h => absurd h (by decide), fun _ => ⟨fun h => absurd h (by decide), fun _ => ⟨fun h => absurd h (by decide), fun _ => ⟨fun h => absurd h (by decide), fun _ => ⟨fun h => absurd h (by decide), fun _ => ⟨fun h => absurd h (by decide), fun _ => ⟨fun h => absurd h (by decide), fun _ => ⟨fun h => absurd h (by decide), fun _ => ⟨fun h => absurd h (by decide), fun _ => ⟨fun _ => c_rusted hRC hT hRS hSW (CK_s hC rfl), fun h => absurd rfl h⟩⟩⟩⟩⟩⟩⟩⟩⟩⟩, fun M1 hM => ⟨fun h => absurd h (by decide), fun _ => ⟨fun h => absurd h (by decide), fun _ => ⟨fun h => absurd h (by decide), fun _ => ⟨fun h => absurd h (by decide), fun _ => ⟨fun h => absurd h (by decide), fun _ => ⟨fun h => absurd h (by decide), fun _ => ⟨fun h => absurd h (by decide), fun _ => ⟨fun h => absurd h (by decide), fun _ => ⟨fun h => absurd h (by decide), fun _ => ⟨fun _ => m_rusted hM.1 hT hM.2.2.1 (MK_s hM rfl), fun h => absurd rfl h⟩⟩⟩⟩⟩⟩⟩⟩⟩⟩⟩
  by_cases h10 : v = 10
  · subst h10
    exact ⟨N 34, _, ⟨fun h => absurd h (by decide), fun _ => ⟨fun h => absurd h (by decide), fun _ => ⟨fun h => absurd h (by decide), fun _ => ⟨fun h => absurd h (by decide), fun _ => ⟨fun h => absurd h (by decide), fun _ => ⟨fun h => absurd h (by decide), fun _ => ⟨fun h => absurd h (by decide), fun _ => ⟨fun h => absurd h (by decide), fun _ => ⟨fun h => absurd h (by decide), fun _ => ⟨fun h => absurd h (by decide), fun _ => ⟨fun _ => CK_s hC hRS.2.2.2.2.2.1, fun h => absurd rfl h⟩⟩⟩⟩⟩⟩⟩⟩⟩⟩⟩, fun M1 hM => ⟨fun h => absurd h (by decide), fun _ => ⟨fun h => absurd h (by decide), fun _ => ⟨fun h => absurd h (by decide), fun _ => ⟨fun h => absurd h (by decide), fun _ => ⟨fun h => absurd h (by decide), fun _ => ⟨fun h => absurd h (by decide), fun _ => ⟨fun h => absurd h (by decide), fun _ => ⟨fun h => absurd h (by decide), fun _ => ⟨fun h => absurd h (by decide), fun _ => ⟨fun h => absurd h (by decide), fun _ => ⟨fun _ => ⟨lit_in 34 55 (by decide) (by decide), MK_s hM (by rw [lit_cl 34 (by decide)]; exact hM.2.2.1 34 (by decide))⟩, fun h => absurd rfl h⟩⟩⟩⟩⟩⟩⟩⟩⟩⟩⟩⟩
  by_cases h11 : v = 11
  · subst h11
    exact ⟨nI kn, _, ⟨fun h => absurd h (by decide), fun _ => ⟨fun h => absurd h (by decide), fun _ => ⟨fun h => absurd h (by decide), fun _ => ⟨fun h => absurd h (by decide), fun _ => ⟨fun h => absurd h (by decide), fun _ => ⟨fun h => absurd h (by decide), fun _ => ⟨fun h => absurd h (by decide), fun _ => ⟨fun h => absurd h (by decide), fun _ => ⟨fun h => absurd h (by decide), fun _ => ⟨fun h => absurd h (by decide), fun _ => ⟨fun h => absurd h (by decide), fun _ => ⟨fun _ => CK_s hC hCN.2.2.1, fun h => absurd rfl h⟩⟩⟩⟩⟩⟩⟩⟩⟩⟩⟩⟩, fun M1 hM => ⟨fun h => absurd h (by decide), fun _ => ⟨fun h => absurd h (by decide), fun _ => ⟨fun h => absurd h (by decide), fun _ => ⟨fun h => absurd h (by decide), fun _ => ⟨fun h => absurd h (by decide), fun _ => ⟨fun h => absurd h (by decide), fun _ => ⟨fun h => absurd h (by decide), fun _ => ⟨fun h => absurd h (by decide), fun _ => ⟨fun h => absurd h (by decide), fun _ => ⟨fun h => absurd h (by decide), fun _ => ⟨fun h => absurd h (by decide), fun _ => ⟨fun _ => MK_s hM hM.2.2.2.2.2.2.2.2.1.1, fun h => absurd rfl h⟩⟩⟩⟩⟩⟩⟩⟩⟩⟩⟩⟩⟩
  by_cases h12 : v = 12
  · subst h12
    exact ⟨nI bn, _, ⟨fun h => absurd h (by decide), fun _ => ⟨fun h => absurd h (by decide), fun _ => ⟨fun h => absurd h (by decide), fun _ => ⟨fun h => absurd h (by decide), fun _ => ⟨fun h => absurd h (by decide), fun _ => ⟨fun h => absurd h (by decide), fun _ => ⟨fun h => absurd h (by decide), fun _ => ⟨fun h => absurd h (by decide), fun _ => ⟨fun h => absurd h (by decide), fun _ => ⟨fun h => absurd h (by decide), fun _ => ⟨fun h => absurd h (by decide), fun _ => ⟨fun h => absurd h (by decide), fun _ => ⟨fun _ => CK_s hC hCB.2.1, fun h => absurd rfl h⟩⟩⟩⟩⟩⟩⟩⟩⟩⟩⟩⟩⟩, fun M1 hM => ⟨fun h => absurd h (by decide), fun _ => ⟨fun h => absurd h (by decide), fun _ => ⟨fun h => absurd h (by decide), fun _ => ⟨fun h => absurd h (by decide), fun _ => ⟨fun h => absurd h (by decide), fun _ => ⟨fun h => absurd h (by decide), fun _ => ⟨fun h => absurd h (by decide), fun _ => ⟨fun h => absurd h (by decide), fun _ => ⟨fun h => absurd h (by decide), fun _ => ⟨fun h => absurd h (by decide), fun _ => ⟨fun h => absurd h (by decide), fun _ => ⟨fun h => absurd h (by decide), fun _ => ⟨fun _ => MK_s hM hM.2.2.2.2.2.2.2.2.2.1, fun h => absurd rfl h⟩⟩⟩⟩⟩⟩⟩⟩⟩⟩⟩⟩⟩⟩
  by_cases h13 : v = 13
  · subst h13
    exact ⟨nI U, _, ⟨fun h => absurd h (by decide), fun _ => ⟨fun h => absurd h (by decide), fun _ => ⟨fun h => absurd h (by decide), fun _ => ⟨fun h => absurd h (by decide), fun _ => ⟨fun h => absurd h (by decide), fun _ => ⟨fun h => absurd h (by decide), fun _ => ⟨fun h => absurd h (by decide), fun _ => ⟨fun h => absurd h (by decide), fun _ => ⟨fun h => absurd h (by decide), fun _ => ⟨fun h => absurd h (by decide), fun _ => ⟨fun h => absurd h (by decide), fun _ => ⟨fun h => absurd h (by decide), fun _ => ⟨fun h => absurd h (by decide), fun _ => ⟨fun _ => CK_s hC hCU.2.1, fun h => absurd rfl h⟩⟩⟩⟩⟩⟩⟩⟩⟩⟩⟩⟩⟩⟩, fun M1 hM => ⟨fun h => absurd h (by decide), fun _ => ⟨fun h => absurd h (by decide), fun _ => ⟨fun h => absurd h (by decide), fun _ => ⟨fun h => absurd h (by decide), fun _ => ⟨fun h => absurd h (by decide), fun _ => ⟨fun h => absurd h (by decide), fun _ => ⟨fun h => absurd h (by decide), fun _ => ⟨fun h => absurd h (by decide), fun _ => ⟨fun h => absurd h (by decide), fun _ => ⟨fun h => absurd h (by decide), fun _ => ⟨fun h => absurd h (by decide), fun _ => ⟨fun h => absurd h (by decide), fun _ => ⟨fun h => absurd h (by decide), fun _ => ⟨fun _ => MK_s hM hM.2.2.2.1.1, fun h => absurd rfl h⟩⟩⟩⟩⟩⟩⟩⟩⟩⟩⟩⟩⟩⟩⟩
  exact ⟨-1000000002, _, ⟨fun h => absurd h h0, fun _ => ⟨fun h => absurd h h1, fun _ => ⟨fun h => absurd h h2, fun _ => ⟨fun h => absurd h h3, fun _ => ⟨fun h => absurd h h4, fun _ => ⟨fun h => absurd h h5, fun _ => ⟨fun h => absurd h h6, fun _ => ⟨fun h => absurd h h7, fun _ => ⟨fun h => absurd h h8, fun _ => ⟨fun h => absurd h h9, fun _ => ⟨fun h => absurd h h10, fun _ => ⟨fun h => absurd h h11, fun _ => ⟨fun h => absurd h h12, fun _ => ⟨fun h => absurd h h13, fun _ => CK_s hC rfl⟩⟩⟩⟩⟩⟩⟩⟩⟩⟩⟩⟩⟩⟩, fun M1 hM => ⟨fun h => absurd h h0, fun _ => ⟨fun h => absurd h h1, fun _ => ⟨fun h => absurd h h2, fun _ => ⟨fun h => absurd h h3, fun _ => ⟨fun h => absurd h h4, fun _ => ⟨fun h => absurd h h5, fun _ => ⟨fun h => absurd h h6, fun _ => ⟨fun h => absurd h h7, fun _ => ⟨fun h => absurd h h8, fun _ => ⟨fun h => absurd h h9, fun _ => ⟨fun h => absurd h h10, fun _ => ⟨fun h => absurd h h11, fun _ => ⟨fun h => absurd h h12, fun _ => ⟨fun h => absurd h h13, fun _ => MK_s hM rfl⟩⟩⟩⟩⟩⟩⟩⟩⟩⟩⟩⟩⟩⟩⟩
theorem p_gate (v w : Int32) (hC : CI M L S σ) : Pair L S M σ (wp_X7_gate L v w) (wp_X8_gate v w) := by
  obtain ⟨T, N, ⟨U, pu⟩, ⟨im, is, kp⟩, sv, fl, ⟨tn, tx⟩, ⟨kn, kw, ki⟩, ⟨bn, bo, bi⟩⟩ := σ
  obtain ⟨⟨hT, hRC⟩, ⟨hSW, hRS⟩, hCU, hCM, hsv, hfl, hCX, hCN, hCB, hLS⟩ := id hC
  have h5 := hT.1
  rcases ix_cases v (tG T) (by omega) with hv | ⟨g, hg, rfl⟩
  · exact ⟨-1000000001, _, c_hasGate_f hRC hv ⟨fun h => absurd rfl h, fun _ => CK_s hC rfl⟩, fun M1 hM => m_isGate_f hM.1 hT hv ⟨fun h => absurd rfl h, fun _ => MK_s hM rfl⟩⟩
  by_cases h0 : w = 0
  · subst h0
    exact ⟨nI (tB T g), _, c_hasGate_t hRC hT hg ⟨fun _ => ⟨fun _ => ⟨in_nI (by omega) (by decide), CK_s hC (by rw [cl_nI (by omega)]; exact hRC.2.2.1 g hg)⟩, fun h => absurd rfl h⟩, fun h => absurd h (by decide)⟩, fun M1 hM => m_isGate_t hM.1 hT hg ⟨fun _ => ⟨fun _ => ⟨in_nI (by omega) (by decide), MK_s hM (by rw [cl_nI (by omega)]; exact hM.1.2.2.1 g hg)⟩, fun h => absurd rfl h⟩, fun h => absurd h (by decide)⟩⟩
  by_cases h1 : w = 1
  · subst h1
    exact ⟨N (21 + g), _, c_hasGate_t hRC hT hg ⟨fun _ => ⟨fun h => absurd h (by decide), fun _ => ⟨fun _ => ⟨in_nI (by omega) (by decide), CK_s hC (by rw [cl_nI (by omega)]; exact hRS.2.2.2.2.2.2.2.1 g (by omega))⟩, fun h => absurd rfl h⟩⟩, fun h => absurd h (by decide)⟩, fun M1 hM => m_isGate_t hM.1 hT hg ⟨fun _ => ⟨fun h => absurd h (by decide), fun _ => ⟨fun _ => ⟨in_add (a := 21) (by omega) (by decide), MK_s hM (by rw [show (21 : Int32) = nI 21 from rfl, cl_add (by omega)]; exact hM.2.2.1 (21 + g) (by omega))⟩, fun h => absurd rfl h⟩⟩, fun h => absurd h (by decide)⟩⟩
  by_cases h2 : w = 2
  · subst h2
    exact ⟨N (26 + g), _, c_hasGate_t hRC hT hg ⟨fun _ => ⟨fun h => absurd h (by decide), fun _ => ⟨fun h => absurd h (by decide), fun _ => ⟨fun _ => c_isRusted hRC hT hRS hSW hg ⟨fun h => CK_s hC h.symm, fun h => CK_s hC ((rust_01 hSW hg).resolve_left h).symm⟩, fun h => absurd rfl h⟩⟩⟩, fun h => absurd h (by decide)⟩, fun M1 hM => m_isGate_t hM.1 hT hg ⟨fun _ => ⟨fun h => absurd h (by decide), fun _ => ⟨fun h => absurd h (by decide), fun _ => ⟨fun _ => ⟨in_add (a := 26) (by omega) (by decide), MK_s hM (by rw [show (26 : Int32) = nI 26 from rfl, cl_add (by omega)]; exact hM.2.2.1 (26 + g) (by omega))⟩, fun h => absurd rfl h⟩⟩⟩, fun h => absurd h (by decide)⟩⟩
  by_cases h3 : w = 3
  · subst h3
    exact ⟨nI (bs (fun p => N (7 + p) == nI g) (tP T)), _, c_hasGate_t hRC hT hg ⟨fun _ => ⟨fun h => absurd h (by decide), fun _ => ⟨fun h => absurd h (by decide), fun _ => ⟨fun h => absurd h (by decide), fun _ => ⟨fun _ => c_waitingAt hRC hT hRS (CK_s hC rfl), fun h => absurd rfl h⟩⟩⟩⟩, fun h => absurd h (by decide)⟩, fun M1 hM => m_isGate_t hM.1 hT hg ⟨fun _ => ⟨fun h => absurd h (by decide), fun _ => ⟨fun h => absurd h (by decide), fun _ => ⟨fun h => absurd h (by decide), fun _ => ⟨fun _ => m_waitingAt hM.1 hT hM.2.2.1 (MK_s hM rfl), fun h => absurd rfl h⟩⟩⟩⟩, fun h => absurd h (by decide)⟩⟩
  exact ⟨-1000000002, _, c_hasGate_t hRC hT hg ⟨fun _ => ⟨fun h => absurd h h0, fun _ => ⟨fun h => absurd h h1, fun _ => ⟨fun h => absurd h h2, fun _ => ⟨fun h => absurd h h3, fun _ => CK_s hC rfl⟩⟩⟩⟩, fun h => absurd h (by decide)⟩, fun M1 hM => m_isGate_t hM.1 hT hg ⟨fun _ => ⟨fun h => absurd h h0, fun _ => ⟨fun h => absurd h h1, fun _ => ⟨fun h => absurd h h2, fun _ => ⟨fun h => absurd h h3, fun _ => MK_s hM rfl⟩⟩⟩⟩, fun h => absurd h (by decide)⟩⟩
theorem n01 {N : Nat → Int32} {a : Nat} (h : N a = 0 ∨ N a = 1) : N a = if (N a == 1) = true then 1 else 0 := by rcases h with h | h <;> rw [h] <;> rfl
theorem p_person (v w : Int32) (hC : CI M L S σ) : Pair L S M σ (wp_X7_person L v w) (wp_X8_person v w) := by
  obtain ⟨T, N, ⟨U, pu⟩, ⟨im, is, kp⟩, sv, fl, ⟨tn, tx⟩, ⟨kn, kw, ki⟩, ⟨bn, bo, bi⟩⟩ := σ
  obtain ⟨⟨hT, hRC⟩, ⟨hSW, hRS⟩, hCU, hCM, hsv, hfl, hCX, hCN, hCB, hLS⟩ := id hC
  have h7 := hT.2.1
  rcases ix_cases v (tP T) (by omega) with hv | ⟨p, hp, rfl⟩
  · exact ⟨-1000000001, _, c_hasPerson_f hRC hv ⟨fun h => absurd rfl h, fun _ => CK_s hC rfl⟩, fun M1 hM => m_isPerson_f hM.1 hT hv ⟨fun h => absurd rfl h, fun _ => MK_s hM rfl⟩⟩
  by_cases h0 : w = 0
  · subst h0
    exact ⟨N p, _, c_hasPerson_t hRC hT hp ⟨fun _ => ⟨fun _ => CK_s hC (by rw [hRS.2.2.2.1, bs_has (by decide) (by omega)]; exact (n01 (hSW.1 p (by omega))).symm), fun h => absurd rfl h⟩, fun h => absurd h (by decide)⟩, fun M1 hM => m_isPerson_t hM.1 hT hp ⟨fun _ => ⟨fun _ => ⟨in_nI (by omega) (by decide), MK_s hM (by rw [cl_nI (by omega)]; exact hM.2.2.1 p (by omega))⟩, fun h => absurd rfl h⟩, fun h => absurd h (by decide)⟩⟩
  by_cases h1 : w = 1
  · subst h1
    exact ⟨N (7 + p), _, c_hasPerson_t hRC hT hp ⟨fun _ => ⟨fun h => absurd h (by decide), fun _ => ⟨fun _ => ⟨in_nI (by omega) (by decide), CK_s hC (by rw [cl_nI (by omega)]; exact hRS.2.2.2.2.2.2.1 p (by omega))⟩, fun h => absurd rfl h⟩⟩, fun h => absurd h (by decide)⟩, fun M1 hM => m_isPerson_t hM.1 hT hp ⟨fun _ => ⟨fun h => absurd h (by decide), fun _ => ⟨fun _ => ⟨in_add (a := 7) (by omega) (by decide), MK_s hM (by rw [show (7 : Int32) = nI 7 from rfl, cl_add (by omega)]; exact hM.2.2.1 (7 + p) (by omega))⟩, fun h => absurd rfl h⟩⟩, fun h => absurd h (by decide)⟩⟩
  by_cases h2 : w = 2
  · subst h2
    exact ⟨N (14 + p), _, c_hasPerson_t hRC hT hp ⟨fun _ => ⟨fun h => absurd h (by decide), fun _ => ⟨fun h => absurd h (by decide), fun _ => ⟨fun _ => CK_s hC (by rw [hRS.2.2.2.2.1, bs_has (by decide) (by omega)]; exact (n01 (hSW.2.2.2.2.1 p (by omega))).symm), fun h => absurd rfl h⟩⟩⟩, fun h => absurd h (by decide)⟩, fun M1 hM => m_isPerson_t hM.1 hT hp ⟨fun _ => ⟨fun h => absurd h (by decide), fun _ => ⟨fun h => absurd h (by decide), fun _ => ⟨fun _ => ⟨in_add (a := 14) (by omega) (by decide), MK_s hM (by rw [show (14 : Int32) = nI 14 from rfl, cl_add (by omega)]; exact hM.2.2.1 (14 + p) (by omega))⟩, fun h => absurd rfl h⟩⟩⟩, fun h => absurd h (by decide)⟩⟩
  by_cases h3 : w = 3
  · subst h3
    exact ⟨nI (bs (wd T N p) 7), _, c_hasPerson_t hRC hT hp ⟨fun _ => ⟨fun h => absurd h (by decide), fun _ => ⟨fun h => absurd h (by decide), fun _ => ⟨fun h => absurd h (by decide), fun _ => ⟨fun _ => (by rw [hRS.2.2.2.1]; exact c_wouldMeet hRC (by omega) (CK_s hC rfl)), fun h => absurd rfl h⟩⟩⟩⟩, fun h => absurd h (by decide)⟩, fun M1 hM => m_isPerson_t hM.1 hT hp ⟨fun _ => ⟨fun h => absurd h (by decide), fun _ => ⟨fun h => absurd h (by decide), fun _ => ⟨fun h => absurd h (by decide), fun _ => ⟨fun _ => m_whomWould hM.1 hT hM.2.2.1 hSW (by omega) (MK_s hM (by rw [bs_cut (n := tP T) (k := 7) h7 (fun q h1 h2 => by unfold wd; rw [fo_out hT (by omega)]; rfl)])), fun h => absurd rfl h⟩⟩⟩⟩, fun h => absurd h (by decide)⟩⟩
  exact ⟨-1000000002, _, c_hasPerson_t hRC hT hp ⟨fun _ => ⟨fun h => absurd h h0, fun _ => ⟨fun h => absurd h h1, fun _ => ⟨fun h => absurd h h2, fun _ => ⟨fun h => absurd h h3, fun _ => CK_s hC rfl⟩⟩⟩⟩, fun h => absurd h (by decide)⟩, fun M1 hM => m_isPerson_t hM.1 hT hp ⟨fun _ => ⟨fun h => absurd h h0, fun _ => ⟨fun h => absurd h h1, fun _ => ⟨fun h => absurd h h2, fun _ => ⟨fun h => absurd h h3, fun _ => MK_s hM rfl⟩⟩⟩⟩, fun h => absurd h (by decide)⟩⟩
theorem p_likes (v w : Int32) (hC : CI M L S σ) : Pair L S M σ (wp_X7_likes L v w) (wp_X8_likes v w) := by
  obtain ⟨T, N, ⟨U, pu⟩, ⟨im, is, kp⟩, sv, fl, ⟨tn, tx⟩, ⟨kn, kw, ki⟩, ⟨bn, bo, bi⟩⟩ := σ
  obtain ⟨⟨hT, hRC⟩, ⟨hSW, hRS⟩, hCU, hCM, hsv, hfl, hCX, hCN, hCB, hLS⟩ := id hC
  have h7 := hT.2.1
  rcases ix_cases v (tP T) (by omega) with hv | ⟨p, hp, rfl⟩
  · exact ⟨-1000000001, _, c_hasPerson_f hRC hv ⟨fun _ => CK_s hC rfl, fun h => absurd rfl h⟩, fun M1 hM => m_isPerson_f hM.1 hT hv ⟨fun _ => MK_s hM rfl, fun h => absurd rfl h⟩⟩
  rcases ix_cases w (tP T) (by omega) with hw | ⟨q, hq, rfl⟩
  · exact ⟨-1000000001, _, c_hasPerson_t hRC hT hp ⟨fun h => absurd h (by decide), fun _ => c_hasPerson_f hRC hw ⟨fun _ => CK_s hC rfl, fun h => absurd rfl h⟩⟩, fun M1 hM => m_isPerson_t hM.1 hT hp ⟨fun h => absurd h (by decide), fun _ => m_isPerson_f hM.1 hT hw ⟨fun _ => MK_s hM rfl, fun h => absurd rfl h⟩⟩⟩
  by_cases e : nI p = nI q
  · exact ⟨-1000000001, _, c_hasPerson_t hRC hT hp ⟨fun h => absurd h (by decide), fun _ => c_hasPerson_t hRC hT hq ⟨fun h => absurd h (by decide), fun _ => ⟨fun h => absurd e h, fun _ => CK_s hC rfl⟩⟩⟩, fun M1 hM => m_isPerson_t hM.1 hT hp ⟨fun h => absurd h (by decide), fun _ => m_isPerson_t hM.1 hT hq ⟨fun h => absurd h (by decide), fun _ => ⟨fun _ => MK_s hM rfl, fun h => absurd e h⟩⟩⟩⟩
  · exact ⟨nI (tL T p q), _, c_hasPerson_t hRC hT hp ⟨fun h => absurd h (by decide), fun _ => c_hasPerson_t hRC hT hq ⟨fun h => absurd h (by decide), fun _ => ⟨fun _ => c_liking hRC hT hp hq (CK_s hC rfl), fun h => absurd h e⟩⟩⟩, fun M1 hM => m_isPerson_t hM.1 hT hp ⟨fun h => absurd h (by decide), fun _ => m_isPerson_t hM.1 hT hq ⟨fun h => absurd h (by decide), fun _ => ⟨fun h => absurd h e, fun _ => ⟨by rw [nI_7]; exact in_nI (by omega) (by decide), MK_s hM (by rw [nI_7, cl_nI (by omega)]; exact hM.1.2.2.2 p q (by omega) (by omega))⟩⟩⟩⟩⟩
theorem p_logged (v : Int32) (hC : CI M L S σ) : Pair L S M σ (wp_X7_logged L v) (wp_X8_logged v) := by
  obtain ⟨T, N, ⟨U, pu⟩, ⟨im, is, kp⟩, sv, fl, ⟨tn, tx⟩, ⟨kn, kw, ki⟩, ⟨bn, bo, bi⟩⟩ := σ
  obtain ⟨⟨hT, hRC⟩, ⟨hSW, hRS⟩, hCU, hCM, hsv, hfl, hCX, hCN, hCB, hLS⟩ := id hC
  obtain ⟨c, hc, h34, -⟩ := hSW.2.2.2.2.2.2.2
  have e5 : M 3 5 = nI c := hRS.2.2.2.2.2.1.trans h34
  rcases ix_cases v c (by omega) with hv | ⟨i, hi, rfl⟩
  · refine ⟨-1, (T, N, (U, pu), (im, is, kp), sv, fl, (tn, tx), (kn, kw, ki), (bn, bo, bi)), ?_, fun M1 hM => ?_⟩
    · unfold wp_X7_logged
      rw [e5]
      exact ⟨fun _ => CK_s hC rfl, fun h => ⟨fun h1 => absurd h1 (fa_le_nlt (hv.resolve_left h)), fun _ => CK_s hC rfl⟩⟩
    · unfold wp_X8_logged
      have e6 : M1 120 (34 : Int32).toNatClampNeg = nI c := by rw [lit_cl 34 (by decide)]; exact (hM.2.2.1 34 (by decide)).trans h34
      rw [e6]
      refine ⟨lit_in 34 55 (by decide) (by decide), m_idx (by omega) (fun j hj e => ?_) (fun _ => ⟨fun _ => MK_s hM rfl, fun h => absurd rfl h⟩)⟩
      subst e
      rcases hv with h | h
      · exact absurd h (nI_pos (by omega))
      · exact absurd h (nI_ge hj (by omega))
  · have e1 : nI c - 1 - nI i = nI (c - 1 - i) := by
      rw [show (1 : Int32) = nI 1 from rfl, pk_sub (by omega), pk_sub (by omega)]
    refine ⟨N (35 + (c - 1 - i)), (T, N, (U, pu), (im, is, kp), sv, fl, (tn, tx), (kn, kw, ki), (bn, bo, bi)), ?_, fun M1 hM => ?_⟩
    · unfold wp_X7_logged
      rw [e5, e1]
      exact ⟨fun h => absurd h (nI_pos (by omega)), fun _ => ⟨fun _ => ⟨in_nI (by omega) (by decide), CK_s hC (by rw [cl_nI (by omega)]; exact hRS.2.2.2.2.2.2.2.2 _ c hc h34 (by omega))⟩, fun h => absurd (nI_lt hi (by omega)) h⟩⟩
    · unfold wp_X8_logged
      have e6 : M1 120 (34 : Int32).toNatClampNeg = nI c := by rw [lit_cl 34 (by decide)]; exact (hM.2.2.1 34 (by decide)).trans h34
      have e7 : (35 : Int32) + nI c - 1 - nI i = nI (35 + (c - 1 - i)) := by
        rw [show (35 : Int32) = nI 35 from rfl, show (1 : Int32) = nI 1 from rfl, nI_add, pk_sub (by omega), pk_sub (by omega)]
        congr 1
        omega
      rw [e6]
      refine ⟨lit_in 34 55 (by decide) (by decide), m_idx (by omega) (fun j hj e => ⟨fun h => absurd h (by decide), fun _ => ?_⟩) (fun h => ?_)⟩
      · rw [e6, e7]
        exact ⟨lit_in 34 55 (by decide) (by decide), in_nI (by omega) (by decide), MK_s hM (by rw [cl_nI (by omega)]; exact hM.2.2.1 _ (by omega))⟩
      · rcases h with h | h
        · exact absurd h (nI_pos (by omega))
        · exact absurd h (nI_ge hi (by omega))
theorem row0 {M : kg_M} {j : Nat} {v : Int32} {k : Nat} (h : k ≠ 0) : kg_row M 0 (upd (M 0) j v) k = M k := kg_row_ne M _ h
theorem p_seed (v : Int32) (hC : CI M L S σ) : Pair L S M σ (wp_X7_seed L v) (wp_X8_seed v) := by
  obtain ⟨T, N, ⟨U, pu⟩, ⟨im, is, kp⟩, sv, fl, ⟨tn, tx⟩, ⟨kn, kw, ki⟩, ⟨bn, bo, bi⟩⟩ := σ
  obtain ⟨⟨hT, hRC⟩, ⟨hSW, hRS⟩, hCU, hCM, hsv, hfl, hCX, hCN, hCB, hLS⟩ := id hC
  by_cases h0 : 0 ≤ v
  · refine ⟨sv, (T, N, (U, pu), (im, is, kp), v, fl, (tn, tx), (kn, kw, ki), (bn, bo, bi)), ⟨fun _ => ?_, fun h => absurd h0 h⟩, fun M1 hM => ⟨fun _ => ?_, fun h => absurd h0 h⟩⟩
    · intro M5 e
      have hr : ∀ k, k ≠ 0 → M5 k = M k := fun k hk => by rw [e]; exact kg_row_ne M _ hk
      have h00 : M5 0 = upd (M 0) 13 v := by rw [e, kg_row_eq]
      refine ⟨hsv.2, ?_, fun k hk => hr k (by omega)⟩
      refine ⟨⟨hT, RC_of (hr _ (by omega)) (hr _ (by omega)) (hr _ (by omega)) (hr _ (by omega)) hRC⟩, ⟨hSW, RS_of (hr _ (by omega)) (hr _ (by omega)) (hr _ (by omega)) (hr _ (by omega)) hRS⟩, CU_of hCU (fun k h1 h2 => hr k (by omega)), CM_of hCM (fun k h1 h2 => hr k (by omega)), ⟨h0, by rw [h00]; rfl⟩, by rw [h00]; exact hfl, ?_, ?_, ?_, hLS⟩
      · unfold CX at *; rw [hr 1 (by omega), hr 2 (by omega)]; exact hCX
      · unfold CN at *; rw [hr 89 (by omega)]; exact hCN
      · unfold CB at *; rw [hr 89 (by omega), hr 90 (by omega), hr 91 (by omega)]; exact hCB
    · intro M5 e
      have hr : ∀ k, k ≠ 117 → M5 k = M1 k := fun k hk => by rw [e]; exact kg_row_ne M1 _ hk
      have h00 : M5 117 = upd (M1 117) 5 v := by rw [e, kg_row_eq]
      refine ⟨hM.2.2.2.2.2.1, ?_, fun k hk => hr k (by omega)⟩
      have hs : ∀ j, j ≠ 5 → M5 117 j = M1 117 j := fun j hj => by rw [h00]; simp [upd, hj]
      unfold MI RT RP RN MU MM MX MN MB at *
      dsimp only at hM ⊢
      rw [hs 0 (by omega), hs 2 (by omega), hs 9 (by omega), hs 10 (by omega), hs 20 (by omega), hs 32 (by omega), hs 35 (by omega), hr 118 (by omega), hr 119 (by omega), hr 120 (by omega), hr 121 (by omega), hr 122 (by omega), hr 123 (by omega), hr 128 (by omega), hr 136 (by omega), hr 137 (by omega), hr 138 (by omega), hr 139 (by omega), hr 140 (by omega), hr 141 (by omega)]
      obtain ⟨a1, a2, a3, a4, a5, a6, a7⟩ := hM
      exact ⟨a1, a2, a3, a4, a5, by rw [h00]; rfl, a7⟩
  · exact ⟨-1000000002, _, ⟨fun h => absurd h h0, fun _ => CK_s hC rfl⟩, fun M1 hM => ⟨fun h => absurd h h0, fun _ => MK_s hM rfl⟩⟩
/-! the parts of MI, by their rows -/
theorem RT_of {M M' : kg_M} {T : kT} (h : RT M T) (h0 : M' 117 0 = M 117 0) (h2 : M' 117 2 = M 117 2) (hr : ∀ k, k = 118 ∨ k = 119 → M' k = M k) : RT M' T := by
  unfold RT at *
  rw [h0, h2, hr 118 (by omega), hr 119 (by omega)]
  exact h
theorem RP_of {M M' : kg_M} (h : RP M) (hr : ∀ k, k = 121 ∨ k = 122 → M' k = M k) : RP M' := by
  unfold RP at *
  rw [hr 121 (by omega), hr 122 (by omega)]
  exact h
theorem RN_of {M M' : kg_M} {N : Nat → Int32} (h : RN M N) (hr : M' 120 = M 120) : RN M' N := by unfold RN at *; rw [hr]; exact h
theorem MU_of {M M' : kg_M} {U : Nat} {pu : Nat → Nat → Int32} (h : MU M U pu) (h0 : M' 117 20 = M 117 20) (hr : M' 128 = M 128) : MU M' U pu := by unfold MU at *; rw [h0, hr]; exact h
theorem MM_of {M M' : kg_M} {im : Nat → Nat → Int32} {is : Nat → Int32} {kp : Nat → Bool} (h : MM M im is kp) (hr : ∀ k, k = 140 ∨ k = 141 → M' k = M k) : MM M' im is kp := by unfold MM at *; rw [hr 140 (by omega), hr 141 (by omega)]; exact h
theorem MX_of {M M' : kg_M} {tn : Nat} {tx : Nat → Int32} (h : MX M tn tx) (h0 : M' 117 9 = M 117 9) (hr : M' 123 = M 123) : MX M' tn tx := by unfold MX at *; rw [h0, hr]; exact h
theorem MN_of {M M' : kg_M} {kn : Nat} {kw : Nat → Nat} {ki : Nat → Bool} (h : MN M kn kw ki) (h0 : M' 117 32 = M 117 32) (hr : ∀ k, k = 136 ∨ k = 137 → M' k = M k) : MN M' kn kw ki := by unfold MN at *; rw [h0, hr 136 (by omega), hr 137 (by omega)]; exact h
theorem MB_of {M M' : kg_M} {bn : Nat} {bo : Nat → Nat} {bi : Nat → Int32} (h : MB M bn bo bi) (h0 : M' 117 35 = M 117 35) (hr : ∀ k, k = 138 ∨ k = 139 → M' k = M k) : MB M' bn bo bi := by unfold MB at *; rw [h0, hr 138 (by omega), hr 139 (by omega)]; exact h
theorem CX_of {M M' : kg_M} {tn : Nat} {tx : Nat → Int32} (h : CX M tn tx) (hr : ∀ k, k = 1 ∨ k = 2 → M' k = M k) : CX M' tn tx := by unfold CX at *; rw [hr 1 (by omega), hr 2 (by omega)]; exact h
theorem CN_of {M M' : kg_M} {T : kT} {kn : Nat} {kw : Nat → Nat} {ki : Nat → Bool} (h : CN M T kn kw ki) (hr : ∀ j, j < 3 → M' 89 j = M 89 j) : CN M' T kn kw ki := by unfold CN at *; rw [hr 0 (by omega), hr 1 (by omega), hr 2 (by omega)]; exact h
theorem CB_of {M M' : kg_M} {T : kT} {bn : Nat} {bo : Nat → Nat} {bi : Nat → Int32} (h : CB M T bn bo bi) (h0 : M' 89 3 = M 89 3) (hr : ∀ k, k = 90 ∨ k = 91 → M' k = M k) : CB M' T bn bo bi := by unfold CB at *; rw [h0, hr 90 (by omega), hr 91 (by omega)]; exact h
theorem RCL_of {M M' : kg_M} {L S : Nat} {T : kT} (hLS : (L = 109 ∧ S = 113) ∨ (L = 113 ∧ S = 109)) (h : RC M L T) (hr : ∀ k, 109 ≤ k → k < 117 → M' k = M k) : RC M' L T := RC_of (hr _ (by omega) (by omega)) (hr _ (by omega) (by omega)) (hr _ (by omega) (by omega)) (hr _ (by omega) (by omega)) h
end P1
