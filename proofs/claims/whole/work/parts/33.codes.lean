/-! ===== the reference's codes: three pairs, 21 for none ===== -/
def bk (k : Nat) : Nat := if k = 21 then 0 else 2 ^ pO k ||| 2 ^ pT k
def okS (a b c : Nat) : Bool := (b == 21 || (decide (a < b) && (bk a &&& bk b == 0))) && (c == 21 || (decide (b < c) && ((bk a ||| bk b) &&& bk c == 0)))
def st1 (w : Nat → Nat) (k : Nat) : Nat → Nat := if k = 21 then w else fun j => if j = pT k then pO k else if j = pO k then pT k else w j
def wS (a b c : Nat) : Nat → Nat := st1 (st1 (st1 (fun _ => 7) a) b) c
def wB (a b c : Nat) : Nat := bk a ||| bk b ||| bk c
def isP (k p q : Nat) : Bool := decide (k < 21) && ((pO k == p && pT k == q) || (pT k == p && pO k == q))
def nz (k : Nat) : Nat := if k = 21 then 0 else 1
def ckW (a b c : Nat) : Bool := !okS a b c || (
  (List.range 7).all (fun p => (wS a b c p == 7 || (decide (wS a b c p < 7) && wS a b c (wS a b c p) == p && (isP a p (wS a b c p) || isP b p (wS a b c p) || isP c p (wS a b c p)))) && ((wB a b c).testBit p == !(wS a b c p == 7)))
  && (a == 21 || wS a b c (pO a) == pT a) && (b == 21 || wS a b c (pO b) == pT b) && (c == 21 || wS a b c (pO c) == pT c) && decide (wB a b c < 128) && cn (wS a b c) == 2 * (nz a + nz b + nz c))
theorem ckW_all : (List.range 22).all (fun a => (List.range 22).all (fun b => (List.range 22).all (fun c => ckW a b c))) = true := by decide +kernel
theorem ckW_ok {a b c : Nat} (ha : a < 22) (hb : b < 22) (hc : c < 22) (h : okS a b c = true) :
    (∀ p, p < 7 → (wS a b c p = 7 ∨ (wS a b c p < 7 ∧ wS a b c (wS a b c p) = p ∧ (isP a p (wS a b c p) = true ∨ isP b p (wS a b c p) = true ∨ isP c p (wS a b c p) = true))) ∧ (wB a b c).testBit p = !(wS a b c p == 7))
    ∧ (a = 21 ∨ wS a b c (pO a) = pT a) ∧ (b = 21 ∨ wS a b c (pO b) = pT b) ∧ (c = 21 ∨ wS a b c (pO c) = pT c) ∧ wB a b c < 128 ∧ cn (wS a b c) = 2 * (nz a + nz b + nz c) := by
  have h1 := List.all_eq_true.mp (List.all_eq_true.mp (List.all_eq_true.mp ckW_all a (List.mem_range.mpr ha)) b (List.mem_range.mpr hb)) c (List.mem_range.mpr hc)
  unfold ckW at h1
  rw [h] at h1
  simp only [Bool.not_true, Bool.false_or, Bool.and_eq_true, List.all_eq_true, List.mem_range, Bool.or_eq_true, beq_iff_eq, decide_eq_true_eq] at h1
  obtain ⟨⟨⟨⟨⟨x1, x2⟩, x3⟩, x4⟩, x5⟩, x6⟩ := h1
  refine ⟨fun p hp => ?_, x2, x3, x4, x5, x6⟩
  obtain ⟨y1, y2⟩ := x1 p hp
  refine ⟨?_, y2⟩
  rcases y1 with y | ⟨⟨y3, y4⟩, y5⟩
  · exact Or.inl y
  · refine Or.inr ⟨y3, y4, ?_⟩
    rcases y5 with (y | y) | y
    · exact Or.inl y
    · exact Or.inr (Or.inl y)
    · exact Or.inr (Or.inr y)
/-! every matching has its code: tried, person by person -/
def gdo (l : List Nat) (v : Nat) : Bool := if l.contains l.length then (decide (v < l.length) && l.getD v 7 == l.length) else (v == 7 || (decide (l.length < v) && !l.contains v))
def ksO (l : List Nat) : List Nat := (List.range 21).filter (fun k => l.getD (pO k) 7 == pT k)
def lfo (l : List Nat) : Bool := decide ((ksO l).getD 0 21 < 22) && decide ((ksO l).getD 1 21 < 22) && decide ((ksO l).getD 2 21 < 22) && okS ((ksO l).getD 0 21) ((ksO l).getD 1 21) ((ksO l).getD 2 21) && (List.range 7).all (fun p => wS ((ksO l).getD 0 21) ((ksO l).getD 1 21) ((ksO l).getD 2 21) p == l.getD p 7)
def en7 : Nat → List Nat → Bool
  | 0, l => lfo l
  | k + 1, l => (List.range 8).all (fun v => !gdo l v || en7 k (l ++ [v]))
theorem en7_all : en7 7 [] = true := by decide +kernel
def pfx (w : Nat → Nat) (i : Nat) : List Nat := (List.range i).map w
theorem pfx_len (w : Nat → Nat) (i : Nat) : (pfx w i).length = i := by unfold pfx; simp
theorem pfx_get (w : Nat → Nat) {i j : Nat} (h : j < i) : (pfx w i).getD j 7 = w j := by unfold pfx; simp [List.getD_eq_getElem?_getD, List.getElem?_range, h]
theorem pfx_succ (w : Nat → Nat) (i : Nat) : pfx w i ++ [w i] = pfx w (i + 1) := by unfold pfx; simp [List.range_succ]
theorem pfx_mem (w : Nat → Nat) (i v : Nat) : (pfx w i).contains v = true ↔ ∃ j, j < i ∧ w j = v := by unfold pfx; simp
theorem en7_w {D : Nat → Nat → Bool} {n : Nat} (hD : DW n D) {w : Nat → Nat} (hw : Mt D w) : ∀ k i, i + k = 7 → en7 k (pfx w i) = true → lfo (pfx w 7) = true
  | 0, i, hi, h => by rw [show i = 7 by omega] at h; exact h
  | k + 1, i, hi, h => by
    rw [en7, List.all_eq_true] at h
    have hle := Mt_le hw (show i < 7 by omega)
    have h1 := h (w i) (List.mem_range.mpr (by omega))
    have hg : gdo (pfx w i) (w i) = true := by
      unfold gdo
      rw [pfx_len]
      by_cases hc : (pfx w i).contains i = true
      · rw [if_pos hc]
        obtain ⟨j, hj, e⟩ := (pfx_mem w i i).mp hc
        obtain ⟨a1, a2, a3⟩ := (hw j (by omega)).resolve_left (by omega)
        rw [e] at a2
        rw [a2, pfx_get w hj, e]
        simp [hj]
      · rw [if_neg hc]
        rcases hw i (by omega) with e | ⟨a1, a2, a3⟩
        · rw [e]; rfl
        · have hne := (hD.2 _ _ a3).2.2
          have h2 : i < w i := by
            rcases Nat.lt_or_ge i (w i) with q | q
            · exact q
            · exact absurd ((pfx_mem w i i).mpr ⟨w i, by omega, a2⟩) hc
          have h3 : (pfx w i).contains (w i) = false := by
            cases e : (pfx w i).contains (w i) with
            | false => rfl
            | true =>
              obtain ⟨j, hj, e2⟩ := (pfx_mem w i _).mp e
              obtain ⟨b1, b2, b3⟩ := (hw j (by omega)).resolve_left (by omega)
              rw [e2, a2] at b2
              omega
          rw [h3, decide_eq_true h2]
          simp
    rw [hg, Bool.not_true, Bool.false_or, pfx_succ] at h1
    exact en7_w hD hw k (i + 1) (by omega) h1
theorem code_of {D : Nat → Nat → Bool} {n : Nat} (hD : DW n D) {w : Nat → Nat} (hw : Mt D w) : ∃ a b c, a < 22 ∧ b < 22 ∧ c < 22 ∧ okS a b c = true ∧ ∀ p, p < 7 → wS a b c p = w p := by
  have h := en7_w hD hw 7 0 rfl en7_all
  unfold lfo at h
  simp only [Bool.and_eq_true, List.all_eq_true, List.mem_range, beq_iff_eq, decide_eq_true_eq] at h
  obtain ⟨⟨⟨⟨h1, h2⟩, h3⟩, h4⟩, h5⟩ := h
  exact ⟨_, _, _, h1, h2, h3, h4, fun p hp => by rw [h5 p hp, pfx_get w hp]⟩
/-! of whom a code speaks -/
def okL (D : Nat → Nat → Bool) (k : Nat) : Bool := k == 21 || D (pO k) (pT k)
theorem code_Mt {D : Nat → Nat → Bool} {n : Nat} (hD : DW n D) {a b c : Nat} (ha : a < 22) (hb : b < 22) (hc : c < 22) (h : okS a b c = true) : (okL D a = true ∧ okL D b = true ∧ okL D c = true) ↔ Mt D (wS a b c) := by
  obtain ⟨h1, h2, h3, h4, -, -⟩ := ckW_ok ha hb hc h
  have key : ∀ k, isP k = isP k → okL D k = true → ∀ p q, isP k p q = true → D p q = true := by
    intro k _ hk p q hp
    unfold isP at hp
    unfold okL at hk
    simp only [Bool.and_eq_true, Bool.or_eq_true, beq_iff_eq, decide_eq_true_eq] at hp hk
    have hk' := hk.resolve_left (by omega)
    rcases hp.2 with ⟨e1, e2⟩ | ⟨e1, e2⟩
    · rw [← e1, ← e2]; exact hk'
    · rw [← e1, ← e2, hD.1]; exact hk'
  constructor
  · rintro ⟨a1, a2, a3⟩ p hp
    rcases (h1 p hp).1 with e | ⟨e1, e2, e3⟩
    · exact Or.inl e
    · refine Or.inr ⟨e1, e2, ?_⟩
      rcases e3 with e | e | e
      · exact key a rfl a1 _ _ e
      · exact key b rfl a2 _ _ e
      · exact key c rfl a3 _ _ e
  · intro hm
    have one : ∀ k, k < 22 → (k = 21 ∨ wS a b c (pO k) = pT k) → okL D k = true := by
      intro k hk hp
      unfold okL
      by_cases e : k = 21
      · rw [e]; rfl
      · obtain ⟨o1, o2, -⟩ := ix_of k (by omega)
        have hp' := hp.resolve_left e
        obtain ⟨b1, b2, b3⟩ := (hm (pO k) (by omega)).resolve_left (by omega)
        rw [hp'] at b3
        rw [b3, Bool.or_true]
    exact ⟨one a ha h2, one b hb h3, one c hc h4⟩
