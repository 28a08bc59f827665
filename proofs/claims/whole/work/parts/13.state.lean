/-! ===== what a state is: the common (T: gates, persons, rust, likes), and N: the 55 numbers of section 2 (sides, waits 7.., colds 14.., unused 21.., rusted 26.., hours 31, meetings 32, holes 33, logged 34, log 35..) ===== -/
abbrev kT : Type := Nat × Nat × (Nat → Nat) × (Nat → Nat → Nat)
abbrev tG (T : kT) : Nat := T.1
abbrev tP (T : kT) : Nat := T.2.1
abbrev tB (T : kT) : Nat → Nat := T.2.2.1
abbrev tL (T : kT) : Nat → Nat → Nat := T.2.2.2
def LW (T : kT) : Prop := tG T ≤ 5 ∧ tP T ≤ 7 ∧ (∀ g, g < tG T → 1 ≤ tB T g ∧ tB T g ≤ 99) ∧ (∀ p q, tL T p q ≤ 9) ∧ (∀ p q, ¬ (p < tP T ∧ q < tP T ∧ p ≠ q) → tL T p q = 0)
/-- who is inside, who has a cold -/
def sd (N : Nat → Int32) (p : Nat) : Bool := N p == 1
def cd (N : Nat → Int32) (p : Nat) : Bool := N (14 + p) == 1
/-- they like each other; they would meet -/
def fo (T : kT) (p q : Nat) : Bool := decide (1 ≤ tL T p q) && decide (1 ≤ tL T q p)
def wd (T : kT) (N : Nat → Int32) (p q : Nat) : Bool := fo T p q && (sd N p != sd N q)
def SW (T : kT) (N : Nat → Int32) : Prop :=
  (∀ p, p < 7 → N p = 0 ∨ N p = 1) ∧ (∀ p, tP T ≤ p → p < 7 → N p = 0) ∧
  (∀ p, p < 7 → N (7 + p) = -1 ∨ ∃ g, g < tG T ∧ N (7 + p) = nI g) ∧ (∀ p, tP T ≤ p → p < 7 → N (7 + p) = -1) ∧
  (∀ p, p < 7 → N (14 + p) = 0 ∨ N (14 + p) = 1) ∧ (∀ p, tP T ≤ p → p < 7 → N (14 + p) = 0) ∧
  (∀ g, g < tG T → ∃ u, u ≤ tB T g ∧ N (21 + g) = nI u ∧ N (26 + g) = if tB T g ≤ u then 1 else 0) ∧
  (∃ c, c ≤ 20 ∧ N 34 = nI c ∧ ∀ i, i < c → ∃ p q, p < q ∧ q < tP T ∧ N (35 + i) = nI (10 * p + q))
/-- a State of the class holds N -/
def RS (M : kg_M) (o : Nat) (N : Nat → Int32) : Prop :=
  M o 0 = N 31 ∧ M o 1 = N 32 ∧ M o 2 = N 33 ∧ M o 3 = nI (bs (sd N) 7) ∧ M o 4 = nI (bs (cd N) 7) ∧ M o 5 = N 34 ∧
  (∀ p, p < 7 → M (o + 1) p = N (7 + p)) ∧ (∀ g, g < 5 → M (o + 2) g = N (21 + g)) ∧ (∀ i c, c ≤ 20 → N 34 = nI c → i < c → M (o + 3) i = N (35 + i))
/-- a Common of the class holds T -/
def RC (M : kg_M) (L : Nat) (T : kT) : Prop :=
  M L 0 = nI (tG T) ∧ M L 1 = nI (tP T) ∧ (∀ g, g < tG T → M (L + 1) g = nI (tB T g)) ∧
  (∀ p q, p < 7 → q < 7 → M (L + 2) (7 * p + q) = nI (tL T p q) ∨ (M (L + 2) (7 * p + q) = -1 ∧ tL T p q = 0)) ∧
  (∀ p, p < 7 → M (L + 3) p = nI (bs (fo T p) 7))
/-- the reference holds T; its list of pairs -/
def pO (k : Nat) : Nat := [0, 0, 0, 0, 0, 0, 1, 1, 1, 1, 1, 2, 2, 2, 2, 3, 3, 3, 4, 4, 5].getD k 0
def pT (k : Nat) : Nat := [1, 2, 3, 4, 5, 6, 2, 3, 4, 5, 6, 3, 4, 5, 6, 4, 5, 6, 5, 6, 6].getD k 0
def RT (M : kg_M) (T : kT) : Prop :=
  M 117 0 = nI (tG T) ∧ M 117 2 = nI (tP T) ∧ (∀ g, g < tG T → M 118 g = nI (tB T g)) ∧ (∀ p q, p < 7 → q < 7 → M 119 (7 * p + q) = nI (tL T p q))
def RP (M : kg_M) : Prop := ∀ k, k < 21 → M 121 k = nI (pO k) ∧ M 122 k = nI (pT k)
/-- the reference's now holds N -/
def RN (M : kg_M) (N : Nat → Int32) : Prop := ∀ k, k < 55 → M 120 k = N k
/-! ===== small things ===== -/
theorem nI_lt' {a : Nat} (h : a < 2 ^ 31) : ¬ nI a < 0 := nI_pos h
theorem cl_nI {a : Nat} (h : a < 2 ^ 31) : (nI a).toNatClampNeg = a := nI_clamp h
theorem in_nI {a n : Nat} (h : a < n) (hn : n < 2 ^ 31) : vp_in (nI a) n := vp_in_nI h hn
theorem nI_7 (p q : Nat) : (7 : Int32) * nI p + nI q = nI (7 * p + q) := by
  rw [show (7 : Int32) = nI 7 from rfl, pk_mul, nI_add]
theorem nI_7' (p q : Nat) : nI p * (7 : Int32) + nI q = nI (7 * p + q) := by
  rw [show (7 : Int32) = nI 7 from rfl, pk_mul, nI_add, Nat.mul_comm]
theorem m1_ne_nI {a : Nat} (h : a < 2 ^ 31) : ¬ nI a = -1 := by
  intro e
  have h1 := nI_pos h
  rw [e] at h1
  exact h1 (by decide)
theorem ix_cases (x : Int32) (n : Nat) (hn : n < 2 ^ 31) : (x < 0 ∨ nI n ≤ x) ∨ ∃ j : Nat, j < n ∧ x = nI j := by
  rcases pk_ix x hn with h | h | h
  · exact Or.inl (Or.inl h)
  · exact Or.inl (Or.inr h)
  · exact Or.inr h
theorem fo_comm (T : kT) (p q : Nat) : fo T p q = fo T q p := by unfold fo; rw [Bool.and_comm]
theorem fo_out {T : kT} (hT : LW T) {p q : Nat} (h : ¬ (p < tP T ∧ q < tP T ∧ p ≠ q)) : fo T p q = false := by
  unfold fo
  rw [hT.2.2.2.2 p q h]
  rfl
/-! ===== the class's Common ===== -/
section CC
variable {M : kg_M} {L : Nat} {T : kT} {K : Int32 → kg_M → Prop}
theorem c_hasPerson_t {p : Nat} (hL : RC M L T) (hT : LW T) (hp : p < tP T) (hK : K 1 M) : wp_X0_hasPerson L (nI p) M K := by
  have h7 := hT.2.1
  unfold wp_X0_hasPerson
  rw [hL.2.1]
  exact ⟨fun h => absurd h (nI_pos (by omega)), fun _ => ⟨fun h => absurd h (nI_ge hp (by omega)), fun _ => hK⟩⟩
theorem c_hasPerson_f {v : Int32} (hL : RC M L T) (h : v < 0 ∨ nI (tP T) ≤ v) (hK : K 0 M) : wp_X0_hasPerson L v M K := by
  unfold wp_X0_hasPerson
  rw [hL.2.1]
  exact ⟨fun _ => hK, fun h0 => ⟨fun _ => hK, fun h1 => absurd (h.resolve_left h0) h1⟩⟩
theorem c_hasGate_t {g : Nat} (hL : RC M L T) (hT : LW T) (hg : g < tG T) (hK : K 1 M) : wp_X0_hasGate L (nI g) M K := by
  have h7 := hT.1
  unfold wp_X0_hasGate
  rw [hL.1]
  exact ⟨fun h => absurd h (nI_pos (by omega)), fun _ => ⟨fun h => absurd h (nI_ge hg (by omega)), fun _ => hK⟩⟩
theorem c_hasGate_f {v : Int32} (hL : RC M L T) (h : v < 0 ∨ nI (tG T) ≤ v) (hK : K 0 M) : wp_X0_hasGate L v M K := by
  unfold wp_X0_hasGate
  rw [hL.1]
  exact ⟨fun _ => hK, fun h0 => ⟨fun _ => hK, fun h1 => absurd (h.resolve_left h0) h1⟩⟩
theorem c_liking {p q : Nat} (hL : RC M L T) (hT : LW T) (hp : p < tP T) (hq : q < tP T) (hK : K (nI (tL T p q)) M) : wp_X0_liking L (nI p) (nI q) M K := by
  have h7 := hT.2.1
  have hin : vp_in (nI p * 7 + nI q) 49 := by rw [nI_7']; exact in_nI (by omega) (by omega)
  have hcl : (nI p * 7 + nI q).toNatClampNeg = 7 * p + q := by rw [nI_7']; exact cl_nI (by omega)
  unfold wp_X0_liking wp_X0_isTold
  refine c_hasPerson_t hL hT hp ⟨fun h => absurd h (by decide), fun _ => ?_⟩
  refine c_hasPerson_t hL hT hq ⟨fun h => absurd h (by decide), fun _ => ⟨hin, ?_⟩⟩
  rw [hcl]
  have h9 := hT.2.2.2.1 p q
  rcases hL.2.2.2.1 p q (by omega) (by omega) with e | ⟨e, e0⟩
  · rw [e]
    refine ⟨fun h => absurd h (m1_ne_nI (by omega)), fun _ => ⟨fun h => absurd h (by decide), fun _ => ⟨hin, ?_⟩⟩⟩
    rw [e]
    exact hK
  · rw [e]
    rw [e0] at hK
    exact ⟨fun _ => ⟨fun _ => hK, fun h => absurd rfl h⟩, fun h => absurd rfl h⟩
theorem c_together {p q : Nat} (hL : RC M L T) (hT : LW T) (hp : p < tP T) (hq : q < tP T) (hK : K (nI (tL T p q + tL T q p)) M) : wp_X0_together L (nI p) (nI q) M K := by
  unfold wp_X0_together
  refine c_liking hL hT hp hq (c_liking hL hT hq hp ?_)
  rw [nI_add]
  exact hK
theorem c_wouldMeet {p : Nat} {s : Nat → Bool} (hL : RC M L T) (hp : p < 7) (hK : K (nI (bs (fun q => fo T p q && (s p != s q)) 7)) M) : wp_X0_wouldMeet L (nI p) (nI (bs s 7)) M K := by
  unfold wp_X0_wouldMeet
  rw [bs_has (by omega) hp]
  unfold wJ_X0_wouldMeet_14
  rw [cl_nI (by omega), hL.2.2.2.2 p hp]
  cases hs : s p with
  | true =>
    refine ⟨fun h => absurd rfl h, fun _ => ⟨in_nI hp (by omega), fun h => absurd h (by decide), fun _ => ?_⟩⟩
    rw [bs_not s (fo T p) (by omega)]
    rw [hs] at hK
    simpa using hK
  | false =>
    refine ⟨fun _ => ⟨in_nI hp (by omega), fun _ => ?_, fun h => absurd rfl h⟩, fun h => absurd h (by decide)⟩
    rw [bs_and]
    rw [hs] at hK
    simpa using hK
end CC
