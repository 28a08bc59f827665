/-! ===== reading the text ===== -/
def sk (tn : Nat) (tx : Nat → Int32) : Nat → Nat → Nat
  | 0, a => a
  | f + 1, a => if tx a = 32 then sk tn tx f (a + 1) else a
/-- the next letter that is no blank, or the end -/
def skp (tn : Nat) (tx : Nat → Int32) (a : Nat) : Nat := sk tn tx (tn - a) a
def dgt (tx : Nat → Int32) (a : Nat) : Bool := decide (48 ≤ tx a) && decide (tx a ≤ 57)
def dd (tx : Nat → Int32) : Nat → Nat → Nat
  | 0, a => a
  | f + 1, a => if dgt tx a = true then dd tx f (a + 1) else a
/-- the end of the figures that begin at a -/
def dEn (tn : Nat) (tx : Nat → Int32) (a : Nat) : Nat := dd tx (tn - a) a
/-- the number of the first figures, three at most -/
def cv (tx : Nat → Int32) (a : Nat) : Nat → Nat
  | 0 => 0
  | i + 1 => if i < 3 then 10 * cv tx a i + ((tx (a + i)).toNatClampNeg - 48) else cv tx a i
def numR (tn : Nat) (tx : Nat → Int32) (p lo hb : Nat) : Except (Nat × Nat) (Nat × Nat × Nat) :=
  if dEn tn tx (skp tn tx p) = skp tn tx p then Except.error (1, skp tn tx p)
  else if 3 < dEn tn tx (skp tn tx p) - skp tn tx p ∨ cv tx (skp tn tx p) (dEn tn tx (skp tn tx p) - skp tn tx p) < lo ∨ hb ≤ cv tx (skp tn tx p) (dEn tn tx (skp tn tx p) - skp tn tx p) then Except.error (2, skp tn tx p)
  else Except.ok (cv tx (skp tn tx p) (dEn tn tx (skp tn tx p) - skp tn tx p), dEn tn tx (skp tn tx p), skp tn tx p)
def endR (tn : Nat) (tx : Nat → Int32) (p : Nat) : Except (Nat × Nat) Nat := if skp tn tx p < tn ∧ tx (skp tn tx p) = 59 then Except.ok (skp tn tx p + 1) else Except.error (1, skp tn tx p)
/-- what has been read: the place, gates, persons, what gates bear, sides, colds, likes (10: untold) -/
abbrev pS : Type := Nat × Nat × Nat × (Nat → Nat) × (Nat → Nat) × (Nat → Nat) × (Nat → Nat → Nat)
def gateR (tn : Nat) (tx : Nat → Int32) (s : pS) : Except (Nat × Nat) pS := match s with
  | (p, G, P, B, I, C, K) => if 5 ≤ G then Except.error (3, p) else match numR tn tx (p + 1) 1 100 with
    | Except.error e => Except.error e
    | Except.ok (v, e, _) => match endR tn tx e with
      | Except.error e => Except.error e
      | Except.ok p' => Except.ok (p', G + 1, P, (fun g => if g = G then v else B g), I, C, K)
def persR (tn : Nat) (tx : Nat → Int32) (s : pS) : Except (Nat × Nat) pS := match s with
  | (p, G, P, B, I, C, K) => if 7 ≤ P then Except.error (3, p) else match numR tn tx (p + 1) 0 2 with
    | Except.error e => Except.error e
    | Except.ok (v, e, _) => match numR tn tx e 0 2 with
      | Except.error e => Except.error e
      | Except.ok (w, e2, _) => match endR tn tx e2 with
        | Except.error e => Except.error e
        | Except.ok p' => Except.ok (p', G, P + 1, B, (fun q => if q = P then v else I q), (fun q => if q = P then w else C q), K)
def likeR (tn : Nat) (tx : Nat → Int32) (s : pS) : Except (Nat × Nat) pS := match s with
  | (p, G, P, B, I, C, K) => match numR tn tx (p + 1) 0 P with
    | Except.error e => Except.error e
    | Except.ok (v, e, _) => match numR tn tx e 0 P with
      | Except.error e => Except.error e
      | Except.ok (w, e2, a2) => if v = w ∨ K v w ≠ 10 then Except.error (4, a2) else match numR tn tx e2 0 10 with
        | Except.error e => Except.error e
        | Except.ok (m, e3, _) => match endR tn tx e3 with
          | Except.error e => Except.error e
          | Except.ok p' => Except.ok (p', G, P, B, I, C, (fun x y => if x = v ∧ y = w then m else K x y))
def clauseR (tn : Nat) (tx : Nat → Int32) (s : pS) : Except (Nat × Nat) pS :=
  if tx s.1 = 103 then gateR tn tx s else if tx s.1 = 112 then persR tn tx s else if tx s.1 = 108 then likeR tn tx s else Except.error (1, s.1)
def prs (tn : Nat) (tx : Nat → Int32) : Nat → Except (Nat × Nat) pS
  | 0 => Except.ok (skp tn tx 0, 0, 0, (fun _ => 0), (fun _ => 0), (fun _ => 0), (fun _ _ => 10))
  | k + 1 => match prs tn tx k with
    | Except.error e => Except.error e
    | Except.ok s => if tn ≤ s.1 then Except.ok s else match clauseR tn tx s with
      | Except.error e => Except.error e
      | Except.ok s' => Except.ok (skp tn tx s'.1, s'.2)
section T1
variable {tn : Nat} {tx : Nat → Int32}
theorem skp_end {a : Nat} (h : tn ≤ a) : skp tn tx a = a := by unfold skp; rw [show tn - a = 0 by omega]; rfl
theorem skp_go {a : Nat} (h : a < tn) (h2 : tx a = 32) : skp tn tx a = skp tn tx (a + 1) := by
  unfold skp
  rw [show tn - a = (tn - (a + 1)) + 1 by omega, sk, if_pos h2]
theorem skp_st {a : Nat} (h2 : ¬ tx a = 32) : skp tn tx a = a := by
  unfold skp
  cases tn - a with
  | zero => rfl
  | succ n => rw [sk, if_neg h2]
theorem skp_ind {P : Nat → Prop} (h0 : ∀ a, tn ≤ a → P a) (h1 : ∀ a, a < tn → ¬ tx a = 32 → P a) (h2 : ∀ a, a < tn → tx a = 32 → P (a + 1) → P a) : ∀ a, P a := by
  have go : ∀ d a, tn ≤ a + d → P a := by
    intro d
    induction d with
    | zero => intro a h; exact h0 a h
    | succ d ih =>
      intro a h
      rcases Nat.lt_or_ge a tn with q | q
      · by_cases e : tx a = 32
        · exact h2 a q e (ih (a + 1) (by omega))
        · exact h1 a q e
      · exact h0 a q
  exact fun a => go tn a (by omega)
theorem skp_bd (a : Nat) : a ≤ skp tn tx a ∧ (a ≤ tn → skp tn tx a ≤ tn) ∧ (skp tn tx a < tn → ¬ tx (skp tn tx a) = 32) := by
  refine skp_ind (tn := tn) (tx := tx) (P := fun a => a ≤ skp tn tx a ∧ (a ≤ tn → skp tn tx a ≤ tn) ∧ (skp tn tx a < tn → ¬ tx (skp tn tx a) = 32)) (fun a h => ?_) (fun a h e => ?_) (fun a h e ih => ?_) a
  · rw [skp_end h]; omega
  · rw [skp_st e]; exact ⟨by omega, id, fun _ => e⟩
  · rw [skp_go h e]
    exact ⟨by omega, fun _ => ih.2.1 (by omega), ih.2.2⟩
theorem skp_idem (a : Nat) : skp tn tx (skp tn tx a) = skp tn tx a := by
  rcases Nat.lt_or_ge (skp tn tx a) tn with h | h
  · exact skp_st ((skp_bd a).2.2 h)
  · exact skp_end h
theorem dEn_end {a : Nat} (h : tn ≤ a) : dEn tn tx a = a := by unfold dEn; rw [show tn - a = 0 by omega]; rfl
theorem dEn_go {a : Nat} (h : a < tn) (h2 : dgt tx a = true) : dEn tn tx a = dEn tn tx (a + 1) := by
  unfold dEn
  rw [show tn - a = (tn - (a + 1)) + 1 by omega, dd, if_pos h2]
theorem dEn_st {a : Nat} (h2 : dgt tx a = false) : dEn tn tx a = a := by
  unfold dEn
  cases tn - a with
  | zero => rfl
  | succ n => rw [dd, if_neg (by rw [h2]; decide)]
theorem dEn_ind {P : Nat → Prop} (h0 : ∀ a, tn ≤ a → P a) (h1 : ∀ a, a < tn → dgt tx a = false → P a) (h2 : ∀ a, a < tn → dgt tx a = true → P (a + 1) → P a) : ∀ a, P a := by
  have go : ∀ d a, tn ≤ a + d → P a := by
    intro d
    induction d with
    | zero => intro a h; exact h0 a h
    | succ d ih =>
      intro a h
      rcases Nat.lt_or_ge a tn with q | q
      · cases e : dgt tx a with
        | true => exact h2 a q e (ih (a + 1) (by omega))
        | false => exact h1 a q e
      · exact h0 a q
  exact fun a => go tn a (by omega)
theorem dEn_bd (a : Nat) : a ≤ dEn tn tx a ∧ (a ≤ tn → dEn tn tx a ≤ tn) := by
  refine dEn_ind (tn := tn) (tx := tx) (P := fun a => a ≤ dEn tn tx a ∧ (a ≤ tn → dEn tn tx a ≤ tn)) (fun a h => ?_) (fun a h e => ?_) (fun a h e ih => ?_) a
  · rw [dEn_end h]; omega
  · rw [dEn_st e]; exact ⟨by omega, id⟩
  · rw [dEn_go h e]
    exact ⟨by omega, fun _ => ih.2 (by omega)⟩
theorem dgt_v {a : Nat} (h : dgt tx a = true) : ∃ d, d ≤ 9 ∧ tx a = nI (48 + d) ∧ (tx a).toNatClampNeg - 48 = d := by
  unfold dgt at h
  simp only [Bool.and_eq_true, decide_eq_true_eq] at h
  obtain ⟨j, hj, e⟩ := nI_of2 (x := tx a) (M := 57) (n := 57) rfl (fun h0 => absurd (Int32.le_trans h.1 (fa_of_lt h0).1) (by decide)) h.2
  have h1 := h.1
  rw [e, show (48 : Int32) = nI 48 from rfl] at h1
  have := (nI_leI (by omega) (by omega)).mp h1
  exact ⟨j - 48, by omega, by rw [e]; congr 1; omega, by rw [e, cl_nI (by omega)]⟩
theorem cv_bd (a : Nat) : ∀ i, (∀ j, j < i → dgt tx (a + j) = true) → cv tx a i ≤ 999 ∧ (i ≤ 2 → cv tx a i ≤ 99) ∧ (i ≤ 1 → cv tx a i ≤ 9) ∧ (i = 0 → cv tx a i = 0)
  | 0, _ => by rw [cv]; omega
  | i + 1, h => by
    obtain ⟨b1, b2, b3, b4⟩ := cv_bd a i (fun j hj => h j (by omega))
    obtain ⟨d, hd, -, e⟩ := dgt_v (h i (by omega))
    rw [cv, e]
    by_cases hi : i < 3
    · rw [if_pos hi]; omega
    · rw [if_neg hi]; omega
/-- where numbers end -/
theorem numR_bd {p lo hb : Nat} (hp : p ≤ tn) : match numR tn tx p lo hb with
    | Except.error (f, pl) => (f = 1 ∨ f = 2) ∧ pl ≤ tn
    | Except.ok (v, e, a) => lo ≤ v ∧ v < hb ∧ e ≤ tn ∧ a ≤ tn ∧ p ≤ e := by
  have h1 := skp_bd (tn := tn) (tx := tx) p
  have h2 := dEn_bd (tn := tn) (tx := tx) (skp tn tx p)
  have h3 := h1.2.1 hp
  unfold numR
  by_cases c1 : dEn tn tx (skp tn tx p) = skp tn tx p
  · rw [if_pos c1]; exact ⟨Or.inl rfl, h3⟩
  · rw [if_neg c1]
    by_cases c2 : 3 < dEn tn tx (skp tn tx p) - skp tn tx p ∨ cv tx (skp tn tx p) (dEn tn tx (skp tn tx p) - skp tn tx p) < lo ∨ hb ≤ cv tx (skp tn tx p) (dEn tn tx (skp tn tx p) - skp tn tx p)
    · rw [if_pos c2]; exact ⟨Or.inr rfl, h3⟩
    · rw [if_neg c2]
      have := h2.2 h3
      exact ⟨by omega, by omega, this, h3, by omega⟩
theorem endR_bd {p : Nat} (hp : p ≤ tn) : match endR tn tx p with
    | Except.error (f, pl) => f = 1 ∧ pl ≤ tn
    | Except.ok q => q ≤ tn ∧ p < q := by
  have h1 := skp_bd (tn := tn) (tx := tx) p
  have h3 := h1.2.1 hp
  unfold endR
  by_cases c1 : skp tn tx p < tn ∧ tx (skp tn tx p) = 59
  · rw [if_pos c1]; exact ⟨by omega, by omega⟩
  · rw [if_neg c1]; exact ⟨rfl, h3⟩
def WF : pS → Prop
  | (_, G, P, B, I, C, K) => G ≤ 5 ∧ P ≤ 7 ∧ (∀ g, g < G → 1 ≤ B g ∧ B g ≤ 99) ∧ (∀ p, I p ≤ 1) ∧ (∀ p, C p ≤ 1) ∧ (∀ p, P ≤ p → I p = 0 ∧ C p = 0) ∧ (∀ p q, K p q ≤ 10) ∧ ∀ p q, ¬ (p < P ∧ q < P ∧ p ≠ q) → K p q = 10
def Gd (tn p : Nat) : Except (Nat × Nat) pS → Prop
  | Except.error e => (1 ≤ e.1 ∧ e.1 ≤ 4) ∧ e.2 ≤ tn
  | Except.ok s => p < s.1 ∧ s.1 ≤ tn ∧ WF s
theorem Gd_e {p f pl : Nat} (h : 1 ≤ f ∧ f ≤ 4) (h2 : pl ≤ tn) : Gd tn p (Except.error (f, pl)) := ⟨h, h2⟩
theorem num_e {p lo hb : Nat} {e : Nat × Nat} (hp : p ≤ tn) (h : numR tn tx p lo hb = Except.error e) : (1 ≤ e.1 ∧ e.1 ≤ 4) ∧ e.2 ≤ tn := by
  have := numR_bd (tn := tn) (tx := tx) (lo := lo) (hb := hb) hp
  rw [h] at this
  obtain ⟨f, pl⟩ := e
  have h1 : (f = 1 ∨ f = 2) ∧ pl ≤ tn := this
  exact ⟨⟨show 1 ≤ f by omega, show f ≤ 4 by omega⟩, h1.2⟩
theorem num_o {p lo hb v e a : Nat} (hp : p ≤ tn) (h : numR tn tx p lo hb = Except.ok (v, e, a)) : lo ≤ v ∧ v < hb ∧ e ≤ tn ∧ a ≤ tn ∧ p ≤ e := by
  have := numR_bd (tn := tn) (tx := tx) (lo := lo) (hb := hb) hp
  rw [h] at this
  exact this
theorem end_e {p : Nat} {e : Nat × Nat} (hp : p ≤ tn) (h : endR tn tx p = Except.error e) : (1 ≤ e.1 ∧ e.1 ≤ 4) ∧ e.2 ≤ tn := by
  have := endR_bd (tn := tn) (tx := tx) hp
  rw [h] at this
  obtain ⟨f, pl⟩ := e
  have h1 : f = 1 ∧ pl ≤ tn := this
  exact ⟨⟨show 1 ≤ f by omega, show f ≤ 4 by omega⟩, h1.2⟩
theorem end_o {p q : Nat} (hp : p ≤ tn) (h : endR tn tx p = Except.ok q) : q ≤ tn ∧ p < q := by
  have := endR_bd (tn := tn) (tx := tx) hp
  rw [h] at this
  exact this
section T2
variable {p G P : Nat} {B I C : Nat → Nat} {K : Nat → Nat → Nat}
theorem gateR_gd (h : WF (p, G, P, B, I, C, K)) (hp : p < tn) : Gd tn p (gateR tn tx (p, G, P, B, I, C, K)) := by
  obtain ⟨w1, w2, w3, w4, w5, w6, w7, w8⟩ := h
  by_cases c : 5 ≤ G
  · simp only [gateR, if_pos c]
    exact Gd_e (by decide) (Nat.le_of_lt hp)
  cases hn : numR tn tx (p + 1) 1 100 with
  | error e =>
    simp only [gateR, if_neg c, hn]
    exact num_e (by omega) hn
  | ok x =>
    obtain ⟨v, e, a⟩ := x
    have ho := num_o (by omega) hn
    cases he : endR tn tx e with
    | error e' =>
      simp only [gateR, if_neg c, hn, he]
      exact end_e (by omega) he
    | ok q =>
      have hq := end_o (by omega) he
      simp only [gateR, if_neg c, hn, he]
      refine ⟨show p < q by omega, hq.1, show G + 1 ≤ 5 by omega, w2, fun g hg => ?_, w4, w5, w6, w7, w8⟩
      dsimp only
      by_cases e : g = G
      · rw [if_pos e]; omega
      · rw [if_neg e]; exact w3 g (by omega)
theorem persR_gd (h : WF (p, G, P, B, I, C, K)) (hp : p < tn) : Gd tn p (persR tn tx (p, G, P, B, I, C, K)) := by
  obtain ⟨w1, w2, w3, w4, w5, w6, w7, w8⟩ := h
  by_cases c : 7 ≤ P
  · simp only [persR, if_pos c]
    exact Gd_e (by decide) (Nat.le_of_lt hp)
  cases hn : numR tn tx (p + 1) 0 2 with
  | error e =>
    simp only [persR, if_neg c, hn]
    exact num_e (by omega) hn
  | ok x =>
    obtain ⟨v, e, a⟩ := x
    have ho := num_o (by omega) hn
    cases hn2 : numR tn tx e 0 2 with
    | error e' =>
      simp only [persR, if_neg c, hn, hn2]
      exact num_e (by omega) hn2
    | ok x =>
      obtain ⟨v2, e2, a2⟩ := x
      have ho2 := num_o (by omega) hn2
      cases he : endR tn tx e2 with
      | error e' =>
        simp only [persR, if_neg c, hn, hn2, he]
        exact end_e (by omega) he
      | ok q =>
        have hq := end_o (by omega) he
        simp only [persR, if_neg c, hn, hn2, he]
        refine ⟨show p < q by omega, hq.1, w1, show P + 1 ≤ 7 by omega, w3, fun g => ?_, fun g => ?_, fun g hg => ?_, w7, fun x y hxy => w8 x y (by omega)⟩
        · dsimp only
          by_cases e : g = P
          · rw [if_pos e]; omega
          · rw [if_neg e]; exact w4 g
        · dsimp only
          by_cases e : g = P
          · rw [if_pos e]; omega
          · rw [if_neg e]; exact w5 g
        · dsimp only
          rw [if_neg (by omega), if_neg (by omega)]; exact w6 g (by omega)
theorem likeR_gd (h : WF (p, G, P, B, I, C, K)) (hp : p < tn) : Gd tn p (likeR tn tx (p, G, P, B, I, C, K)) := by
  obtain ⟨w1, w2, w3, w4, w5, w6, w7, w8⟩ := h
  cases hn : numR tn tx (p + 1) 0 P with
  | error e =>
    simp only [likeR, hn]
    exact num_e (by omega) hn
  | ok x =>
    obtain ⟨v, e, a⟩ := x
    have ho := num_o (by omega) hn
    cases hn2 : numR tn tx e 0 P with
    | error e' =>
      simp only [likeR, hn, hn2]
      exact num_e (by omega) hn2
    | ok x =>
      obtain ⟨v2, e2, a2⟩ := x
      have ho2 := num_o (by omega) hn2
      by_cases c : v = v2 ∨ K v v2 ≠ 10
      · simp only [likeR, hn, hn2, if_pos c]
        exact Gd_e (by decide) ho2.2.2.2.1
      cases hn3 : numR tn tx e2 0 10 with
      | error e' =>
        simp only [likeR, hn, hn2, hn3, if_neg c]
        exact num_e (by omega) hn3
      | ok x =>
        obtain ⟨v3, e3, a3⟩ := x
        have ho3 := num_o (by omega) hn3
        cases he : endR tn tx e3 with
        | error e' =>
          simp only [likeR, hn, hn2, hn3, he, if_neg c]
          exact end_e (by omega) he
        | ok q =>
          have hq := end_o (by omega) he
          simp only [likeR, hn, hn2, hn3, he, if_neg c]
          refine ⟨show p < q by omega, hq.1, w1, w2, w3, w4, w5, w6, fun x y => ?_, fun x y hxy => ?_⟩
          · dsimp only
            by_cases e : x = v ∧ y = v2
            · rw [if_pos e]; omega
            · rw [if_neg e]; exact w7 x y
          · dsimp only
            rw [if_neg (by omega)]; exact w8 x y hxy
theorem clauseR_gd (h : WF (p, G, P, B, I, C, K)) (hp : p < tn) : Gd tn p (clauseR tn tx (p, G, P, B, I, C, K)) := by
  unfold clauseR
  by_cases c1 : tx p = 103
  · rw [if_pos c1]; exact gateR_gd h hp
  · rw [if_neg c1]
    by_cases c2 : tx p = 112
    · rw [if_pos c2]; exact persR_gd h hp
    · rw [if_neg c2]
      by_cases c3 : tx p = 108
      · rw [if_pos c3]; exact likeR_gd h hp
      · rw [if_neg c3]; exact Gd_e (by decide) (Nat.le_of_lt hp)
end T2
theorem prs_gd : ∀ k, match prs tn tx k with
    | Except.error e => (1 ≤ e.1 ∧ e.1 ≤ 4) ∧ e.2 ≤ tn
    | Except.ok s => s.1 ≤ tn ∧ WF s ∧ skp tn tx s.1 = s.1 ∧ (k ≤ s.1 ∨ tn ≤ s.1)
  | 0 => by
    rw [prs]
    refine ⟨(skp_bd 0).2.1 (Nat.zero_le _), ⟨by omega, by omega, fun g hg => absurd hg (Nat.not_lt_zero _), fun _ => Nat.zero_le _, fun _ => Nat.zero_le _, fun _ _ => ⟨rfl, rfl⟩, fun _ _ => Nat.le_refl _, fun _ _ _ => rfl⟩, skp_idem 0, Or.inl (Nat.zero_le _)⟩
  | k + 1 => by
    have ih := prs_gd k
    rw [prs]
    cases hk : prs tn tx k with
    | error e => rw [hk] at ih; exact ih
    | ok s =>
      rw [hk] at ih
      obtain ⟨p, G, P, B, I, C, K⟩ := s
      have h1 : p ≤ tn := ih.1
      have h2 := ih.2.1
      have h3 : k ≤ p ∨ tn ≤ p := ih.2.2.2
      dsimp only
      by_cases c : tn ≤ p
      · rw [if_pos c]
        exact ⟨ih.1, ih.2.1, ih.2.2.1, Or.inr c⟩
      · rw [if_neg c]
        have hg := clauseR_gd (tn := tn) (tx := tx) h2 (by omega)
        cases hc : clauseR tn tx (p, G, P, B, I, C, K) with
        | error e => rw [hc] at hg; exact hg
        | ok s' =>
          rw [hc] at hg
          obtain ⟨p', s'⟩ := s'
          have g1 : p < p' := hg.1
          have g2 : p' ≤ tn := hg.2.1
          have hs := skp_bd (tn := tn) (tx := tx) p'
          refine ⟨hs.2.1 g2, hg.2.2, skp_idem p', Or.inl (show k + 1 ≤ skp tn tx p' by omega)⟩
theorem prs_e {k : Nat} {e : Nat × Nat} (h : prs tn tx k = Except.error e) : ∀ j, prs tn tx (k + j) = Except.error e
  | 0 => h
  | j + 1 => by rw [← Nat.add_assoc, prs, prs_e h j]
theorem prs_d {k : Nat} {s : pS} (h : prs tn tx k = Except.ok s) (hs : tn ≤ s.1) : ∀ j, prs tn tx (k + j) = Except.ok s
  | 0 => h
  | j + 1 => by rw [← Nat.add_assoc, prs, prs_d h hs j]; dsimp only; rw [if_pos hs]
end T1
