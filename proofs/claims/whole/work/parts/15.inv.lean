/-! ===== all that class and reference hold: sigma ===== -/
/-- the common; now; what can be undone; images (now, seed, kept); the seed; the fault; the text; what is known; the book -/
abbrev kS : Type := kT × (Nat → Int32) × (Nat × (Nat → Nat → Int32)) × ((Nat → Nat → Int32) × (Nat → Int32) × (Nat → Bool)) × Int32 × Int32 × (Nat × (Nat → Int32)) × (Nat × (Nat → Nat) × (Nat → Bool)) × (Nat × (Nat → Nat) × (Nat → Int32))
def ring (nx U u : Nat) : Nat := 9 + 4 * ((nx + 20 - U + u) % 20)
/-- the class's part of what can be undone -/
def CU (M : kg_M) (T : kT) (U : Nat) (pu : Nat → Nat → Int32) : Prop := U ≤ 20 ∧ M 7 2 = nI U ∧ ∃ nx, nx < 20 ∧ M 7 1 = nI nx ∧ ∀ u, u < U → RS M (ring nx U u) (pu u) ∧ SW T (pu u)
def CM (M : kg_M) (T : kT) (im : Nat → Nat → Int32) (is : Nat → Int32) (kp : Nat → Bool) : Prop := ∀ i, i < 2 → M 106 i = (if kp i = true then 1 else 0) ∧ (kp i = true → RS M (98 + 4 * i) (im i) ∧ SW T (im i) ∧ M 107 i = is i ∧ 0 ≤ is i)
def CX (M : kg_M) (tn : Nat) (tx : Nat → Int32) : Prop := tn ≤ 240 ∧ M 1 1 = nI tn ∧ ∀ i, i < tn → M 2 i = tx i ∧ 0 ≤ tx i
/-- of the known: who is said to be ill (b true), or not -/
def knS (kn : Nat) (kw : Nat → Nat) (ki : Nat → Bool) (b : Bool) (p : Nat) : Bool := decide (∃ k, k < kn ∧ kw k = p ∧ ki k = b)
def CN (M : kg_M) (T : kT) (kn : Nat) (kw : Nat → Nat) (ki : Nat → Bool) : Prop := kn ≤ 6 ∧ (∀ k, k < kn → kw k < tP T) ∧ M 89 0 = nI kn ∧ M 89 1 = nI (bs (knS kn kw ki true) 7) ∧ M 89 2 = nI (bs (knS kn kw ki false) 7)
def CB (M : kg_M) (T : kT) (bn : Nat) (bo : Nat → Nat) (bi : Nat → Int32) : Prop := bn ≤ 15 ∧ M 89 3 = nI bn ∧ ∀ k, k < bn → bo k < tP T ∧ M 90 k = nI (bo k) ∧ M 91 k = bi k ∧ (bi k = 0 ∨ bi k = 1)
def CI (M : kg_M) (L S : Nat) (σ : kS) : Prop := match σ with
  | (T, N, (U, pu), (im, is, kp), sv, fl, (tn, tx), (kn, kw, ki), (bn, bo, bi)) =>
    (LW T ∧ RC M L T) ∧ (SW T N ∧ RS M 3 N) ∧ CU M T U pu ∧ CM M T im is kp ∧ (0 ≤ sv ∧ M 0 13 = sv) ∧ M 0 12 = fl ∧ CX M tn tx ∧ CN M T kn kw ki ∧ CB M T bn bo bi ∧ ((L = 109 ∧ S = 113) ∨ (L = 113 ∧ S = 109))
/-- the reference's -/
def MU (M : kg_M) (U : Nat) (pu : Nat → Nat → Int32) : Prop := M 117 20 = nI U ∧ ∀ u, u < U → ∀ k, k < 55 → M 128 (55 * u + k) = pu u k
def MM (M : kg_M) (im : Nat → Nat → Int32) (is : Nat → Int32) (kp : Nat → Bool) : Prop := ∀ i, i < 2 → M 141 i = (if kp i = true then 1 else 0) ∧ (kp i = true → (∀ k, k < 55 → M 140 (56 * i + k) = im i k) ∧ M 140 (56 * i + 55) = is i)
def MX (M : kg_M) (tn : Nat) (tx : Nat → Int32) : Prop := M 117 9 = nI tn ∧ ∀ i, i < tn → M 123 i = tx i
def MN (M : kg_M) (kn : Nat) (kw : Nat → Nat) (ki : Nat → Bool) : Prop := M 117 32 = nI kn ∧ ∀ k, k < kn → M 136 k = nI (kw k) ∧ M 137 k = (if ki k = true then 1 else 0)
def MB (M : kg_M) (bn : Nat) (bo : Nat → Nat) (bi : Nat → Int32) : Prop := M 117 35 = nI bn ∧ ∀ k, k < bn → M 138 k = nI (bo k) ∧ M 139 k = bi k
/-- what holds of sigma by itself -/
def SI (σ : kS) : Prop := match σ with
  | (T, N, (U, pu), (im, is, kp), sv, _, (tn, _), (kn, kw, _), (bn, bo, bi)) =>
    LW T ∧ SW T N ∧ (U ≤ 20 ∧ ∀ u, u < U → SW T (pu u)) ∧ (∀ i, i < 2 → kp i = true → SW T (im i) ∧ 0 ≤ is i) ∧ 0 ≤ sv ∧ tn ≤ 240 ∧ (kn ≤ 6 ∧ ∀ k, k < kn → kw k < tP T) ∧ (bn ≤ 15 ∧ ∀ k, k < bn → bo k < tP T ∧ (bi k = 0 ∨ bi k = 1))
def MI (M : kg_M) (σ : kS) : Prop := match σ with
  | (T, N, (U, pu), (im, is, kp), sv, fl, (tn, tx), (kn, kw, ki), (bn, bo, bi)) =>
    RT M T ∧ RP M ∧ RN M N ∧ MU M U pu ∧ MM M im is kp ∧ M 117 5 = sv ∧ M 117 10 = fl ∧ MX M tn tx ∧ MN M kn kw ki ∧ MB M bn bo bi
theorem CI_SI {M : kg_M} {L S : Nat} {σ : kS} (h : CI M L S σ) : SI σ := by
  obtain ⟨T, N, ⟨U, pu⟩, ⟨im, is, kp⟩, sv, fl, ⟨tn, tx⟩, ⟨kn, kw, ki⟩, ⟨bn, bo, bi⟩⟩ := σ
  obtain ⟨h1, h2, h3, h4, h5, h6, h7, h8, h9, h10⟩ := h
  obtain ⟨hU, -, nx, -, -, hu⟩ := h3
  exact ⟨h1.1, h2.1, ⟨hU, fun u h => (hu u h).2⟩, fun i hi hk => ⟨((h4 i hi).2 hk).2.1, ((h4 i hi).2 hk).2.2.2⟩, h5.1, h7.1, ⟨h8.1, h8.2.1⟩, ⟨h9.1, fun k hk => ⟨(h9.2.2 k hk).1, (h9.2.2 k hk).2.2.2⟩⟩⟩
/-! ===== what other rows do is no matter ===== -/
theorem RS_of {M M' : kg_M} {o : Nat} {N : Nat → Int32} (h0 : M' o = M o) (h1 : M' (o + 1) = M (o + 1)) (h2 : M' (o + 2) = M (o + 2)) (h3 : M' (o + 3) = M (o + 3)) (h : RS M o N) : RS M' o N := by
  unfold RS at *
  rw [h0, h1, h2, h3]
  exact h
theorem RC_of {M M' : kg_M} {o : Nat} {T : kT} (h0 : M' o = M o) (h1 : M' (o + 1) = M (o + 1)) (h2 : M' (o + 2) = M (o + 2)) (h3 : M' (o + 3) = M (o + 3)) (h : RC M o T) : RC M' o T := by
  unfold RC at *
  rw [h0, h1, h2, h3]
  exact h
theorem ring_lt {nx U u : Nat} : 9 ≤ ring nx U u ∧ ring nx U u + 3 < 89 := by
  unfold ring
  have := Nat.mod_lt (nx + 20 - U + u) (show 0 < 20 by decide)
  omega
theorem CU_of {M M' : kg_M} {T : kT} {U : Nat} {pu : Nat → Nat → Int32} (h : CU M T U pu) (hr : ∀ k, 7 ≤ k → k < 89 → M' k = M k) : CU M' T U pu := by
  obtain ⟨h1, h2, nx, h3, h4, h5⟩ := h
  refine ⟨h1, by rw [hr 7 (by omega) (by omega)]; exact h2, nx, h3, by rw [hr 7 (by omega) (by omega)]; exact h4, fun u hu => ⟨?_, (h5 u hu).2⟩⟩
  have hb := @ring_lt nx U u
  exact RS_of (hr _ (by omega) (by omega)) (hr _ (by omega) (by omega)) (hr _ (by omega) (by omega)) (hr _ (by omega) (by omega)) (h5 u hu).1
theorem CM_of {M M' : kg_M} {T : kT} {im : Nat → Nat → Int32} {is : Nat → Int32} {kp : Nat → Bool} (h : CM M T im is kp) (hr : ∀ k, 98 ≤ k → k < 108 → M' k = M k) : CM M' T im is kp := by
  intro i hi
  obtain ⟨h1, h2⟩ := h i hi
  refine ⟨by rw [hr 106 (by omega) (by omega)]; exact h1, fun hk => ?_⟩
  obtain ⟨g1, g2, g3, g4⟩ := h2 hk
  refine ⟨RS_of (hr _ (by omega) (by omega)) (hr _ (by omega) (by omega)) (hr _ (by omega) (by omega)) (hr _ (by omega) (by omega)) g1, g2, by rw [hr 107 (by omega) (by omega)]; exact g3, g4⟩
/-- the class's scratch rows: of pairing, crossing, madeIll, the spare common -/
def scr (S k : Nat) : Prop := (92 ≤ k ∧ k ≤ 97) ∨ k = 108 ∨ (S ≤ k ∧ k < S + 4) ∨ 117 ≤ k ∨ k = 8
theorem CI_of {M M' : kg_M} {L S : Nat} {σ : kS} (h : CI M L S σ) (hr : ∀ k, ¬ scr S k → M' k = M k) : CI M' L S σ := by
  obtain ⟨T, N, ⟨U, pu⟩, ⟨im, is, kp⟩, sv, fl, ⟨tn, tx⟩, ⟨kn, kw, ki⟩, ⟨bn, bo, bi⟩⟩ := σ
  obtain ⟨h1, h2, h3, h4, h5, h6, h7, h8, h9, h10⟩ := h
  unfold scr at hr
  have hL : ∀ j, j < 4 → M' (L + j) = M (L + j) := fun j hj => hr _ (by omega)
  refine ⟨⟨h1.1, RC_of (hL 0 (by omega)) (hL 1 (by omega)) (hL 2 (by omega)) (hL 3 (by omega)) h1.2⟩, ⟨h2.1, RS_of (hr _ (by omega)) (hr _ (by omega)) (hr _ (by omega)) (hr _ (by omega)) h2.2⟩, ?_, ?_, ?_, ?_, ?_, ?_, ?_, h10⟩
  · obtain ⟨g1, g2, nx, g3, g4, g5⟩ := h3
    refine ⟨g1, by rw [hr 7 (by omega)]; exact g2, nx, g3, by rw [hr 7 (by omega)]; exact g4, fun u hu => ⟨?_, (g5 u hu).2⟩⟩
    have hb := @ring_lt nx U u
    have h8 : ∀ j, j < 4 → ring nx U u + j ≠ 8 := fun j _ => by omega
    exact RS_of (hr _ (by omega)) (hr _ (by omega)) (hr _ (by omega)) (hr _ (by omega)) (g5 u hu).1
  · exact CM_of h4 (fun k h1 h2 => hr k (by omega))
  · rw [hr 0 (by omega)]; exact h5
  · rw [hr 0 (by omega)]; exact h6
  · exact ⟨h7.1, by rw [hr 1 (by omega)]; exact h7.2.1, fun i hi => by rw [hr 2 (by omega)]; exact h7.2.2 i hi⟩
  · unfold CN at *; rw [hr 89 (by omega)]; exact h8
  · unfold CB at *; rw [hr 89 (by omega), hr 90 (by omega), hr 91 (by omega)]; exact h9
/-- the reference's rows that matter -/
theorem MI_of {M M' : kg_M} {σ : kS} (h : MI M σ) (hr : ∀ k, (118 ≤ k ∧ k ≤ 123) ∨ k = 128 ∨ (136 ≤ k ∧ k ≤ 141) → M' k = M k) (hs : ∀ j, j = 0 ∨ j = 2 ∨ j = 5 ∨ j = 9 ∨ j = 10 ∨ j = 20 ∨ j = 32 ∨ j = 35 → M' 117 j = M 117 j) : MI M' σ := by
  obtain ⟨T, N, ⟨U, pu⟩, ⟨im, is, kp⟩, sv, fl, ⟨tn, tx⟩, ⟨kn, kw, ki⟩, ⟨bn, bo, bi⟩⟩ := σ
  unfold MI RT RP RN MU MM MX MN MB at *
  dsimp only at h ⊢
  rw [hs 0 (by omega), hs 2 (by omega), hs 5 (by omega), hs 9 (by omega), hs 10 (by omega), hs 20 (by omega), hs 32 (by omega), hs 35 (by omega), hr 118 (by omega), hr 119 (by omega), hr 120 (by omega), hr 121 (by omega), hr 122 (by omega), hr 123 (by omega), hr 128 (by omega), hr 136 (by omega), hr 137 (by omega), hr 138 (by omega), hr 139 (by omega), hr 140 (by omega), hr 141 (by omega)]
  exact h
theorem MI_rows {M M' : kg_M} {σ : kS} (h : MI M σ) (hr : ∀ k, 117 ≤ k → M' k = M k) : MI M' σ := MI_of h (fun k hk => hr k (by omega)) (fun j _ => by rw [hr 117 (by omega)])
