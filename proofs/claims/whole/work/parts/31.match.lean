/-! ===== matchings: w p is with whom p goes, 7: nobody ===== -/
def sm (f : Nat → Nat) : Nat → Nat
  | 0 => 0
  | k + 1 => sm f k + f k
theorem sm_le {f g : Nat → Nat} : ∀ {k : Nat}, (∀ j, j < k → f j ≤ g j) → sm f k ≤ sm g k
  | 0, _ => Nat.le_refl 0
  | k + 1, h => Nat.add_le_add (sm_le (fun j hj => h j (by omega))) (h k (by omega))
theorem sm_eq {f g : Nat → Nat} : ∀ {k : Nat}, (∀ j, j < k → f j = g j) → sm f k = sm g k
  | 0, _ => rfl
  | k + 1, h => by rw [sm, sm, sm_eq (fun j hj => h j (by omega)), h k (by omega)]
theorem sm_one {f g : Nat → Nat} {p : Nat} : ∀ {k : Nat}, p < k → (∀ j, j < k → j ≠ p → g j = f j) → sm g k + f p = sm f k + g p
  | 0, hp, _ => absurd hp (Nat.not_lt_zero _)
  | k + 1, hp, h => by
    rw [sm, sm]
    rcases Nat.lt_or_ge p k with hk | hk
    · have := sm_one (k := k) hk (fun j hj => h j (by omega))
      have := h k (by omega) (by omega)
      omega
    · have e : p = k := by omega
      subst e
      have := sm_eq (f := g) (g := f) (k := p) (fun j hj => h j (by omega) (by omega))
      omega
theorem sm_bd {f : Nat → Nat} {c : Nat} : ∀ {k : Nat}, (∀ j, j < k → f j ≤ c) → sm f k ≤ c * k
  | 0, _ => by rw [sm]; omega
  | k + 1, h => by
    have := sm_bd (k := k) (fun j hj => h j (by omega))
    have := h k (by omega)
    rw [sm, Nat.mul_succ]
    omega
theorem sm_cut {f : Nat → Nat} {n : Nat} : ∀ {k : Nat}, n ≤ k → (∀ j, n ≤ j → j < k → f j = 0) → sm f k = sm f n
  | 0, h, _ => by rw [show n = 0 by omega]
  | k + 1, h, hf => by
    rcases Nat.lt_or_ge n (k + 1) with h1 | h1
    · rw [sm, hf k (by omega) (by omega), sm_cut (by omega) (fun j a b => hf j a (by omega))]; rfl
    · rw [show n = k + 1 by omega]
def c1 (w : Nat → Nat) (p : Nat) : Nat := if w p = 7 then 0 else 1
def m1 (L : Nat → Nat → Nat) (w : Nat → Nat) (p : Nat) : Nat := if w p = 7 then 0 else L p (w p)
def cn (w : Nat → Nat) : Nat := sm (c1 w) 7
def mu (L : Nat → Nat → Nat) (w : Nat → Nat) : Nat := sm (m1 L w) 7
def lx (w : Nat → Nat) : Nat → Nat
  | 0 => 0
  | k + 1 => 8 * lx w k + w k
theorem lx_bd {w : Nat → Nat} : ∀ {k : Nat}, (∀ j, j < k → w j ≤ 7) → lx w k < 8 ^ k
  | 0, _ => by rw [lx]; decide
  | k + 1, h => by
    have h1 := lx_bd (k := k) (fun j hj => h j (by omega))
    have h2 := h k (by omega)
    rw [lx, Nat.pow_succ]
    omega
theorem lx_eq {w w' : Nat → Nat} : ∀ {k : Nat}, (∀ j, j < k → w j = w' j) → lx w k = lx w' k
  | 0, _ => rfl
  | k + 1, h => by rw [lx, lx, lx_eq (fun j hj => h j (by omega)), h k (by omega)]
theorem lx_mono {w w' : Nat → Nat} {m : Nat} (h : lx w m < lx w' m) : ∀ d, (∀ j, j < m + d → w j ≤ 7) → lx w (m + d) < lx w' (m + d)
  | 0, _ => h
  | d + 1, hb => by
    have h1 := lx_mono h d (fun j hj => hb j (by omega))
    have h2 := hb (m + d) (by omega)
    rw [← Nat.add_assoc, lx, lx]
    omega
theorem lx_first {w w' : Nat → Nat} {i k : Nat} (hi : i < k) (he : ∀ j, j < i → w j = w' j) (h : w i < w' i) (hb : ∀ j, j < k → w j ≤ 7) : lx w k < lx w' k := by
  have h1 : lx w (i + 1) < lx w' (i + 1) := by rw [lx, lx, lx_eq he]; omega
  have := lx_mono h1 (k - (i + 1)) (fun j hj => hb j (by omega))
  rw [show i + 1 + (k - (i + 1)) = k by omega] at this
  exact this
theorem lx_inj {w w' : Nat → Nat} : ∀ {k : Nat}, (∀ j, j < k → w j ≤ 7) → (∀ j, j < k → w' j ≤ 7) → lx w k = lx w' k → ∀ j, j < k → w j = w' j
  | 0, _, _, _ => fun j hj => absurd hj (Nat.not_lt_zero _)
  | k + 1, h1, h2, h => by
    rw [lx, lx] at h
    have a := h1 k (by omega)
    have b := h2 k (by omega)
    intro j hj
    rcases Nat.lt_or_ge j k with hk | hk
    · exact lx_inj (fun j hj => h1 j (by omega)) (fun j hj => h2 j (by omega)) (by omega) j hk
    · rw [show j = k by omega]; omega
def Vl (L : Nat → Nat → Nat) (w : Nat → Nat) : Nat := (cn w * 1000 + mu L w) * 2097152 + (2097151 - lx w 7)
/-- who may go with whom: symmetric, and of persons that there are -/
def DW (n : Nat) (D : Nat → Nat → Bool) : Prop := (∀ p q, D p q = D q p) ∧ ∀ p q, D p q = true → p < n ∧ q < n ∧ p ≠ q
def Mt (D : Nat → Nat → Bool) (w : Nat → Nat) : Prop := ∀ p, p < 7 → w p = 7 ∨ (w p < 7 ∧ w (w p) = p ∧ D p (w p) = true)
theorem Mt_le {D : Nat → Nat → Bool} {w : Nat → Nat} (h : Mt D w) {p : Nat} (hp : p < 7) : w p ≤ 7 := by
  rcases h p hp with h | h <;> omega
theorem mu_bd {L : Nat → Nat → Nat} {w : Nat → Nat} (hL : ∀ p q, L p q ≤ 9) : mu L w ≤ 63 := sm_bd (c := 9) (fun j _ => by unfold m1; split; omega; exact hL _ _)
theorem cn_bd {w : Nat → Nat} : cn w ≤ 7 := by
  have := sm_bd (f := c1 w) (c := 1) (k := 7) (fun j _ => by unfold c1; split <;> omega)
  exact this
theorem Vl_uniq {L : Nat → Nat → Nat} {D : Nat → Nat → Bool} {w w' : Nat → Nat} (hL : ∀ p q, L p q ≤ 9) (h : Mt D w) (h' : Mt D w') (e1 : Vl L w ≤ Vl L w') (e2 : Vl L w' ≤ Vl L w) : (∀ p, p < 7 → w p = w' p) ∧ cn w = cn w' ∧ mu L w = mu L w' := by
  have a1 := mu_bd (w := w) hL
  have a2 := mu_bd (w := w') hL
  have b1 : lx w 7 < 2097152 := lx_bd (fun j hj => Mt_le h hj)
  have b2 : lx w' 7 < 2097152 := lx_bd (fun j hj => Mt_le h' hj)
  unfold Vl at e1 e2
  exact ⟨lx_inj (k := 7) (fun j hj => Mt_le h hj) (fun j hj => Mt_le h' hj) (by omega), by omega, by omega⟩
/-! ===== trials: t is decided for those before p ===== -/
def Iv (D : Nat → Nat → Bool) (t : Nat → Nat) (p : Nat) : Prop := Mt D t ∧ ∀ j, p ≤ j → j < 7 → t j = 7 ∨ t j < p
def Cp (D : Nat → Nat → Bool) (most : Nat) (t : Nat → Nat) (p : Nat) (w : Nat → Nat) : Prop := Mt D w ∧ cn w ≤ 2 * most ∧ ∀ j, j < p → w j = t j
def t2 (t : Nat → Nat) (p q : Nat) : Nat → Nat := fun j => if j = p then q else if j = q then p else t j
section MP
variable {D : Nat → Nat → Bool} {n most : Nat} {t w : Nat → Nat} {p q : Nat}
theorem cp_all (hI : Iv D t p) (hw : Cp D most t p w) (hp : p ≤ 7) {j : Nat} (hj : j < 7) (h : t j ≠ 7) : w j = t j := by
  rcases Nat.lt_or_ge j p with h1 | h1
  · exact hw.2.2 j h1
  · have h2 := (hI.2 j h1 hj).resolve_left h
    obtain ⟨a1, a2, a3⟩ := (hI.1 j hj).resolve_left h
    have h3 : w (t j) = j := by rw [hw.2.2 _ h2, a2]
    obtain ⟨b1, b2, b3⟩ := (hw.1 (t j) a1).resolve_left (by omega)
    rw [h3] at b2
    exact b2
theorem t2_p : t2 t p q p = q := by unfold t2; rw [if_pos rfl]
theorem t2_q (h : p ≠ q) : t2 t p q q = p := by unfold t2; rw [if_neg (fun e => h e.symm), if_pos rfl]
theorem t2_o {j : Nat} (h1 : j ≠ p) (h2 : j ≠ q) : t2 t p q j = t j := by unfold t2; rw [if_neg h1, if_neg h2]
theorem Iv_t2 (hD : DW n D) (hI : Iv D t p) (hpq : p < q) (hq : q < 7) (h1 : t p = 7) (h2 : t q = 7) (hd : D p q = true) : Iv D (t2 t p q) (p + 1) := by
  refine ⟨fun j hj => ?_, fun j h3 hj => ?_⟩
  · by_cases a : j = p
    · subst a; rw [t2_p, t2_q (by omega)]; exact Or.inr ⟨hq, rfl, hd⟩
    · by_cases b : j = q
      · subst b; rw [t2_q (by omega), t2_p]; exact Or.inr ⟨by omega, rfl, by rw [hD.1]; exact hd⟩
      · rw [t2_o a b]
        rcases hI.1 j hj with h | ⟨c1, c2, c3⟩
        · exact Or.inl h
        · refine Or.inr ⟨c1, ?_, c3⟩
          rw [t2_o (fun e => by rw [e] at c2; omega) (fun e => by rw [e] at c2; omega)]
          exact c2
  · by_cases b : j = q
    · subst b; rw [t2_q (by omega)]; omega
    · rw [t2_o (by omega) b]; have := hI.2 j (by omega) hj; omega
theorem Iv_next (hI : Iv D t p) : Iv D t (p + 1) := ⟨hI.1, fun j h3 hj => by have := hI.2 j (by omega) hj; omega⟩
theorem sum_t2 {f : (Nat → Nat) → Nat → Nat} (hf : ∀ t t' j, t j = t' j → f t j = f t' j) (hpq : p < q) (hq : q < 7) (h1 : t p = 7) (h2 : t q = 7) (h0 : ∀ t j, t j = 7 → f t j = 0) : sm (f (t2 t p q)) 7 = sm (f t) 7 + f (t2 t p q) p + f (t2 t p q) q := by
  let u : Nat → Nat := fun j => if j = p then q else t j
  have a := sm_one (f := f t) (g := f u) (p := p) (k := 7) (by omega) (fun j hj hne => hf _ _ j (by show (if j = p then q else t j) = t j; rw [if_neg hne]))
  have b := sm_one (f := f u) (g := f (t2 t p q)) (p := q) (k := 7) hq (fun j hj hne => hf _ _ j (by
    show t2 t p q j = (if j = p then q else t j)
    unfold t2
    by_cases e : j = p
    · rw [if_pos e, if_pos e]
    · rw [if_neg e, if_neg e, if_neg hne]))
  have c : f u p = f (t2 t p q) p := hf _ _ p (by show (if p = p then q else t p) = _; rw [if_pos rfl, t2_p])
  have d : f u q = 0 := h0 _ _ (by show (if q = p then q else t q) = 7; rw [if_neg (by omega)]; exact h2)
  have e := h0 t p h1
  omega
theorem cn_t2 (hpq : p < q) (hq : q < 7) (h1 : t p = 7) (h2 : t q = 7) : cn (t2 t p q) = cn t + 2 := by
  have := sum_t2 (f := c1) (t := t) (fun t t' j e => by unfold c1; rw [e]) hpq hq h1 h2 (fun t j e => by unfold c1; rw [if_pos e])
  unfold cn
  have a : c1 (t2 t p q) p = 1 := by unfold c1; rw [t2_p, if_neg (by omega)]
  have b : c1 (t2 t p q) q = 1 := by unfold c1; rw [t2_q (by omega), if_neg (by omega)]
  omega
theorem mu_t2 {L : Nat → Nat → Nat} (hpq : p < q) (hq : q < 7) (h1 : t p = 7) (h2 : t q = 7) : mu L (t2 t p q) = mu L t + (L p q + L q p) := by
  have := sum_t2 (f := m1 L) (t := t) (fun t t' j e => by unfold m1; rw [e]) hpq hq h1 h2 (fun t j e => by unfold m1; rw [if_pos e])
  unfold mu
  have a : m1 L (t2 t p q) p = L p q := by unfold m1; rw [t2_p, if_neg (by omega)]
  have b : m1 L (t2 t p q) q = L q p := by unfold m1; rw [t2_q (by omega), if_neg (by omega)]
  omega
/-- a completion that gives p another one -/
theorem cp_new (hD : DW n D) (hI : Iv D t p) (hw : Cp D most t p w) (hp : p < 7) (h : w p ≠ t p) : t p = 7 ∧ p < w p ∧ w p < n ∧ t (w p) = 7 ∧ D p (w p) = true ∧ cn t + 2 ≤ 2 * most := by
  have ht : t p = 7 := by
    by_cases e : t p = 7
    · exact e
    · exact absurd (cp_all hI hw (by omega) hp e) h
  obtain ⟨a1, a2, a3⟩ := (hw.1 p hp).resolve_left (by omega)
  obtain ⟨d1, d2, d3⟩ := hD.2 _ _ a3
  have hlt : p < w p := by
    rcases Nat.lt_or_ge p (w p) with q | q
    · exact q
    · have e := hw.2.2 (w p) (by omega)
      rw [a2] at e
      have := cp_all hI hw (by omega) a1 (by omega)
      obtain ⟨b1, b2, b3⟩ := (hI.1 (w p) a1).resolve_left (by omega)
      rw [← e] at b2
      omega
  have htq : t (w p) = 7 := by
    by_cases e : t (w p) = 7
    · exact e
    · have e2 := cp_all hI hw (by omega) a1 e
      rw [a2] at e2
      obtain ⟨b1, b2, b3⟩ := (hI.1 (w p) a1).resolve_left e
      rw [← e2] at b2
      omega
  refine ⟨ht, hlt, d2, htq, a3, ?_⟩
  have h2 : cn (t2 t p (w p)) ≤ cn w := sm_le (fun j hj => by
    unfold c1
    by_cases e1 : j = p
    · subst e1; rw [t2_p]; exact Nat.le_refl _
    · by_cases e2 : j = w p
      · rw [e2, a2, if_neg (c := p = 7) (by omega)]; split <;> omega
      · rw [t2_o e1 e2]
        by_cases e3 : t j = 7
        · rw [if_pos e3]; omega
        · rw [if_neg e3, cp_all hI hw (by omega) hj e3, if_neg e3]; omega)
  rw [cn_t2 hlt a1 ht htq] at h2
  have := hw.2.1
  omega
theorem cp_t2 (hpq : p < q) : Cp D most (t2 t p q) (p + 1) w ↔ (Cp D most t p w ∧ w p = q) := by
  constructor
  · intro h
    exact ⟨⟨h.1, h.2.1, fun j hj => by rw [h.2.2 j (by omega), t2_o (by omega) (by omega)]⟩, by rw [h.2.2 p (by omega), t2_p]⟩
  · intro h
    refine ⟨h.1.1, h.1.2.1, fun j hj => ?_⟩
    by_cases e : j = p
    · rw [e, h.2, t2_p]
    · rw [t2_o e (by omega)]; exact h.1.2.2 j (by omega)
theorem cp_next : Cp D most t (p + 1) w ↔ (Cp D most t p w ∧ w p = t p) := by
  constructor
  · intro h
    exact ⟨⟨h.1, h.2.1, fun j hj => h.2.2 j (by omega)⟩, h.2.2 p (by omega)⟩
  · intro h
    refine ⟨h.1.1, h.1.2.1, fun j hj => ?_⟩
    by_cases e : j = p
    · rw [e]; exact h.2
    · exact h.1.2.2 j (by omega)
/-- all are decided -/
theorem cp_leaf (hD : DW n D) (hI : Iv D t p) (hw : Cp D most t p w) (hp : n ≤ p) {j : Nat} (hj : j < 7) : w j = t j := by
  rcases Nat.lt_or_ge j p with h | h
  · exact hw.2.2 j h
  · have a : w j = 7 := by
      rcases hw.1 j hj with e | ⟨_, _, e⟩
      · exact e
      · have := hD.2 _ _ e; omega
    have b : t j = 7 := by
      rcases hI.1 j hj with e | ⟨_, _, e⟩
      · exact e
      · have := hD.2 _ _ e; omega
    omega
end MP
theorem Vl_eq {L : Nat → Nat → Nat} {w w' : Nat → Nat} (h : ∀ p, p < 7 → w p = w' p) : Vl L w = Vl L w' := by
  have a : cn w = cn w' := sm_eq (fun j hj => by unfold c1; rw [h j hj])
  have b : mu L w = mu L w' := sm_eq (fun j hj => by unfold m1; rw [h j hj])
  have c : lx w 7 = lx w' 7 := lx_eq h
  unfold Vl
  rw [a, b, c]
/-! ===== the best so far ===== -/
def Rs (L : Nat → Nat → Nat) (C : (Nat → Nat) → Prop) (b b' : Option (Nat → Nat)) : Prop := (b' = b ∨ ∃ w, b' = some w ∧ C w) ∧ (∀ w, C w → ∃ w', b' = some w' ∧ Vl L w ≤ Vl L w') ∧ (∀ w, b = some w → ∃ w', b' = some w' ∧ Vl L w ≤ Vl L w')
theorem Rs_0 {L : Nat → Nat → Nat} {C : (Nat → Nat) → Prop} {b : Option (Nat → Nat)} (h : ∀ w, ¬ C w) : Rs L C b b := ⟨Or.inl rfl, fun w hw => absurd hw (h w), fun w hw => ⟨w, hw, Nat.le_refl _⟩⟩
theorem Rs_tr {L : Nat → Nat → Nat} {C C2 C3 : (Nat → Nat) → Prop} {b b1 b2 : Option (Nat → Nat)} (h : Rs L C b b1) (h2 : Rs L C2 b1 b2) (hc : ∀ w, C3 w ↔ (C w ∨ C2 w)) : Rs L C3 b b2 := by
  have up : ∀ w x, (b1 = some x ∧ Vl L w ≤ Vl L x) → ∃ w', b2 = some w' ∧ Vl L w ≤ Vl L w' := fun w x hx => by
    obtain ⟨y, hy, hle⟩ := h2.2.2 x hx.1
    exact ⟨y, hy, Nat.le_trans hx.2 hle⟩
  refine ⟨?_, fun w hw => ?_, fun w hw => ?_⟩
  · rcases h2.1 with e | ⟨w, e, hw⟩
    · rcases h.1 with e1 | ⟨w, e1, hw⟩
      · exact Or.inl (e.trans e1)
      · exact Or.inr ⟨w, e.trans e1, (hc w).mpr (Or.inl hw)⟩
    · exact Or.inr ⟨w, e, (hc w).mpr (Or.inr hw)⟩
  · rcases (hc w).mp hw with h3 | h3
    · obtain ⟨x, hx⟩ := h.2.1 w h3
      exact up w x hx
    · exact h2.2.1 w h3
  · obtain ⟨x, hx⟩ := h.2.2 w hw
    exact up w x hx
def Pr (C : (Nat → Nat) → Prop) (b : Option (Nat → Nat)) : Prop := ∀ wb, b = some wb → ∀ w, C w → lx wb 7 < lx w 7
theorem wd_DW {T : kT} {N : Nat → Int32} (hT : LW T) : DW (tP T) (wd T N) := by
  refine ⟨fun p q => ?_, fun p q h => ?_⟩
  · unfold wd; rw [fo_comm]; congr 1; cases sd N p <;> cases sd N q <;> rfl
  · by_cases e : p < tP T ∧ q < tP T ∧ p ≠ q
    · exact e
    · unfold wd at h; rw [fo_out hT e, Bool.false_and] at h; exact absurd h (by decide)
