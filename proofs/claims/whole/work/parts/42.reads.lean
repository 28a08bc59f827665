/-! ===== the class reads the text ===== -/
/-- no fault as yet, the place is p -/
def TX (M : kg_M) (tn : Nat) (tx : Nat → Int32) (p : Nat) : Prop := tn ≤ 240 ∧ p ≤ tn ∧ M 1 1 = nI tn ∧ (∀ i, i < tn → M 2 i = tx i) ∧ M 1 2 = nI p ∧ M 1 4 = 0 ∧ M 1 5 = -1
/-- fault f at pl -/
def TE (M : kg_M) (tn : Nat) (tx : Nat → Int32) (e : Nat × Nat) : Prop := tn ≤ 240 ∧ (∃ p, p ≤ tn ∧ M 1 2 = nI p) ∧ M 1 1 = nI tn ∧ (∀ i, i < tn → M 2 i = tx i) ∧ (1 ≤ e.1 ∧ e.1 ≤ 4) ∧ M 1 4 = nI e.1 ∧ e.2 ≤ tn ∧ M 1 5 = nI e.2
def fr1 (M M' : kg_M) : Prop := ∀ k, k ≠ 1 → M' k = M k
theorem fr1_t {M M' M'' : kg_M} (h : fr1 M M') (h2 : fr1 M' M'') : fr1 M M'' := fun k hk => by rw [h2 k hk, h k hk]
section C6
variable {M : kg_M} {tn : Nat} {tx : Nat → Int32}
theorem c_skip0 {K : kg_M → Prop} (hn : tn ≤ 240) : ∀ d p (M : kg_M), p + d = tn → M 1 1 = nI tn → (∀ i, i < tn → M 2 i = tx i) → M 1 2 = nI p → (∀ M' : kg_M, fr1 M M' → (∀ j, j ≠ 2 → M' 1 j = M 1 j) → M' 1 2 = nI (skp tn tx p) → K M') → wL_X6_skipBlanks_0 (fun (M : kg_M) => K M) K (d + 1) M := by
  intro d
  induction d with
  | zero =>
    intro p M hp h1 hx h2 hK
    rw [wL_X6_skipBlanks_0, h1, h2]
    exact ⟨fun _ => hK M (fun _ _ => rfl) (fun _ _ => rfl) (by rw [h2, skp_end (by omega)]), fun h => absurd (nI_le (by omega) (by omega)) h⟩
  | succ d ih =>
    intro p M hp h1 hx h2 hK
    rw [wL_X6_skipBlanks_0, h1, h2, cl_nI (by omega), hx p (by omega)]
    refine ⟨fun h => absurd h (nI_ge (by omega) (by omega)), fun _ => ⟨in_nI (by omega) (by omega), fun h => hK M (fun _ _ => rfl) (fun _ _ => rfl) (by rw [h2, skp_st h]), fun h M11 e11 => ?_⟩⟩
    have r : fr1 M M11 := fun k hk => by rw [e11, kg_row_ne _ _ hk]
    have s : ∀ j, j ≠ 2 → M11 1 j = M 1 j := fun j hj => by rw [e11, kg_row_eq, upd_ne hj]
    refine ih (p + 1) M11 (by omega) (by rw [s 1 (by decide)]; exact h1) (fun i hi => by rw [r 2 (by decide)]; exact hx i hi) (by rw [e11, kg_row_eq, upd_eq, nI_1 p]) (fun M' r' s' h' => hK M' (fr1_t r r') (fun j hj => by rw [s' j hj, s j hj]) (by rw [h', skp_go (by omega) h]))
theorem c_skipX {p : Nat} {K : kg_M → Prop} (h : TX M tn tx p) (hK : ∀ M' : kg_M, fr1 M M' → TX M' tn tx (skp tn tx p) → (∀ j, j ≠ 2 → M' 1 j = M 1 j) → K M') : wp_X6_skipBlanks M K := by
  obtain ⟨hn, hp, h1, hx, h2, h4⟩ := h
  refine ⟨_, c_skip0 hn (tn - p) p M (by omega) h1 hx h2 (fun M' r s e => hK M' r ⟨hn, (skp_bd p).2.1 hp, by rw [s 1 (by decide)]; exact h1, fun i hi => by rw [r 2 (by decide)]; exact hx i hi, e, by rw [s 4 (by decide), s 5 (by decide)]; exact h4⟩ s)⟩
theorem c_skipE {e : Nat × Nat} {K : kg_M → Prop} (h : TE M tn tx e) (hK : ∀ M' : kg_M, fr1 M M' → TE M' tn tx e → K M') : wp_X6_skipBlanks M K := by
  obtain ⟨hn, ⟨p, hp, h2⟩, h1, hx, hf, h4, hl, h5⟩ := h
  refine ⟨_, c_skip0 hn (tn - p) p M (by omega) h1 hx h2 (fun M' r s e => hK M' r ⟨hn, ⟨_, (skp_bd p).2.1 hp, e⟩, by rw [s 1 (by decide)]; exact h1, fun i hi => by rw [r 2 (by decide)]; exact hx i hi, hf, by rw [s 4 (by decide)]; exact h4, hl, by rw [s 5 (by decide)]; exact h5⟩)⟩
theorem TE_ne {e : Nat × Nat} (h : TE M tn tx e) : ¬ M 1 4 = 0 := by
  have hf := h.2.2.2.2.1
  rw [h.2.2.2.2.2.1]
  intro e
  have := nI_inj (a := _) (b := 0) (by omega) (by omega) e
  omega
theorem TX_fr {M' : kg_M} {p : Nat} (h : TX M tn tx p) (h1 : M' 1 = M 1) (h2 : M' 2 = M 2) : TX M' tn tx p := by
  unfold TX at *
  rw [h1, h2]
  exact h
theorem TE_fr {M' : kg_M} {e : Nat × Nat} (h : TE M tn tx e) (h1 : M' 1 = M 1) (h2 : M' 2 = M 2) : TE M' tn tx e := by
  unfold TE at *
  rw [h1, h2]
  exact h
theorem c_blameX {p f pl : Nat} {K : kg_M → Prop} (h : TX M tn tx p) (hf : 1 ≤ f ∧ f ≤ 4) (hl : pl ≤ tn) (hK : ∀ M' : kg_M, fr1 M M' → TE M' tn tx (f, pl) → K M') : wp_X6_blame (nI f) (nI pl) M K := by
  obtain ⟨hn, hp, h1, hx, h2, h4⟩ := h
  refine ⟨fun h => absurd h4.1 h, fun _ M5 e5 M8 e8 => ?_⟩
  have r : fr1 M M8 := fun k hk => by rw [e8, kg_row_ne _ _ hk, e5, kg_row_ne _ _ hk]
  have q : M8 1 = upd (upd (M 1) 4 (nI f)) 5 (nI pl) := by rw [e8, kg_row_eq, e5, kg_row_eq]
  refine hK M8 r ⟨hn, ⟨p, hp, by rw [q, upd_ne (by decide), upd_ne (by decide)]; exact h2⟩, by rw [q, upd_ne (by decide), upd_ne (by decide)]; exact h1, fun i hi => by rw [r 2 (by decide)]; exact hx i hi, hf, by rw [q, upd_ne (by decide), upd_eq], hl, by rw [q, upd_eq]⟩
theorem c_blameE {e : Nat × Nat} {v1 v2 : Int32} {K : kg_M → Prop} (h : TE M tn tx e) (hK : K M) : wp_X6_blame v1 v2 M K := ⟨fun _ => hK, fun h0 => absurd h0 (TE_ne h)⟩
theorem c_numE {e : Nat × Nat} {v1 v2 : Int32} {K : Int32 → kg_M → Prop} (h : TE M tn tx e) (hK : K 0 M) : wp_X6_readNumber v1 v2 M K := ⟨fun h0 => absurd h0 (TE_ne h), fun _ => hK⟩
theorem c_endE {e : Nat × Nat} {K : Int32 → kg_M → Prop} (h : TE M tn tx e) (hK : K 0 M) : wp_X6_readEnd M K := ⟨fun h0 => absurd h0 (TE_ne h), fun _ => hK⟩
theorem c_endX {p : Nat} {K : Int32 → kg_M → Prop} (h : TX M tn tx p) (hE : ∀ e, endR tn tx p = Except.error e → ∀ M' : kg_M, fr1 M M' → TE M' tn tx e → K 0 M') (hO : ∀ q, endR tn tx p = Except.ok q → ∀ M' : kg_M, fr1 M M' → TX M' tn tx q → K 1 M') : wp_X6_readEnd M K := by
  refine ⟨fun _ => c_skipX h (fun M5 r5 t5 _ => ?_), fun h0 => absurd h.2.2.2.2.2.1 h0⟩
  obtain ⟨hn, hp, h1, hx, h2, h4⟩ := id t5
  have bl : ¬ (skp tn tx p < tn ∧ tx (skp tn tx p) = 59) → wJ_X6_readEnd_38 K M5 := fun hc => by
    unfold wJ_X6_readEnd_38
    rw [h2]
    exact c_blameX (f := 1) t5 (by decide) hp (fun M' r' t' => hE _ (by unfold endR; rw [if_neg hc]) M' (fr1_t r5 r') t')
  rw [h1, h2]
  refine ⟨fun hc => bl (fun h0 => absurd hc (nI_ge h0.1 (by omega))), fun hc => ?_⟩
  have hlt : skp tn tx p < tn := by
    rcases Nat.lt_or_ge (skp tn tx p) tn with h | h
    · exact h
    · exact absurd (nI_le h (by omega)) hc
  rw [cl_nI (by omega), hx _ hlt]
  refine ⟨in_nI (by omega) (by omega), fun h59 M20 e20 => ?_, fun h59 => bl (fun h0 => h59 h0.2)⟩
  have r : fr1 M5 M20 := fun k hk => by rw [e20, kg_row_ne _ _ hk]
  have s : ∀ j, j ≠ 2 → M20 1 j = M5 1 j := fun j hj => by rw [e20, kg_row_eq, upd_ne hj]
  exact hO (skp tn tx p + 1) (by unfold endR; rw [if_pos ⟨hlt, h59⟩]) M20 (fr1_t r5 r) ⟨hn, by omega, by rw [s 1 (by decide)]; exact h1, fun i hi => by rw [r 2 (by decide)]; exact hx i hi, by rw [e20, kg_row_eq, upd_eq, nI_1], by rw [s 4 (by decide), s 5 (by decide)]; exact h4⟩
/-- the figures -/
theorem c_fig {a : Nat} {v1 v2 : Int32} {Kx : Int32 → Int32 → Int32 → kg_M → Prop} {K : Int32 → kg_M → Prop} : ∀ d i (M : kg_M), a + i + d = tn → TX M tn tx (a + i) → M 1 3 = nI a → (∀ j, j < i → dgt tx (a + j) = true) → dEn tn tx (a + i) = dEn tn tx a → (∀ M' : kg_M, fr1 M M' → TX M' tn tx (dEn tn tx a) → M' 1 3 = nI a → (∀ j, j < dEn tn tx a - a → dgt tx (a + j) = true) → Kx v1 v2 (nI (cv tx a (dEn tn tx a - a))) M') → wL_X6_readNumber_23 Kx K (d + 1) v1 v2 (nI (cv tx a i)) M := by
  intro d
  induction d with
  | zero =>
    intro i M hd h h3 hj he hK
    have hz : dEn tn tx a = a + i := by rw [← he, dEn_end (by omega)]
    rw [wL_X6_readNumber_23]
    obtain ⟨hn, hp, h1, hx, h2, h4⟩ := id h
    rw [h1, h2]
    have e1 : dEn tn tx a - a = i := by omega
    rw [e1, hz] at hK
    exact ⟨fun _ => hK M (fun _ _ => rfl) h h3 hj, fun h0 => absurd (nI_le (by omega) (by omega)) h0⟩
  | succ d ih =>
    intro i M hd h h3 hj he hK
    obtain ⟨hn, hp, h1, hx, h2, h4⟩ := id h
    rw [wL_X6_readNumber_23, h1, h2, h3, cl_nI (by omega), hx _ (by omega), pk_sub (by omega), show a + i - a = i by omega]
    have st : dgt tx (a + i) = false → Kx v1 v2 (nI (cv tx a i)) M := fun hd0 => by
      have hz : dEn tn tx a = a + i := by rw [← he, dEn_st hd0]
      have e1 : dEn tn tx a - a = i := by omega
      rw [e1, hz] at hK
      exact hK M (fun _ _ => rfl) h h3 hj
    refine ⟨fun h0 => absurd h0 (nI_ge (by omega) (by omega)), fun _ => ⟨in_nI (by omega) (by omega), fun h48 => st ?_, fun h48 => ⟨in_nI (by omega) (by omega), fun h57 => st ?_, fun h57 => ?_⟩⟩⟩
    · unfold dgt; rw [decide_eq_false (fa_of_lt h48).2.1]; rfl
    · unfold dgt; rw [decide_eq_false (p := tx (a + i) ≤ 57) (fa_of_lt h57).2.1, Bool.and_false]
    · have hd1 : dgt tx (a + i) = true := by
        unfold dgt
        rw [decide_eq_true (fa_of_nlt h48), decide_eq_true (fa_of_nlt h57)]; rfl
      have J : wJ_X6_readNumber_93 (wL_X6_readNumber_23 Kx K (d + 1)) Kx K v1 v2 (nI (cv tx a (i + 1))) M := by
        intro M24 e24
        have r : fr1 M M24 := fun k hk => by rw [e24, kg_row_ne _ _ hk]
        have s : ∀ j, j ≠ 2 → M24 1 j = M 1 j := fun j hj => by rw [e24, kg_row_eq, upd_ne hj]
        refine ih (i + 1) M24 (by omega) ⟨hn, by omega, by rw [s 1 (by decide)]; exact h1, fun i hi => by rw [r 2 (by decide)]; exact hx i hi, ?_, by rw [s 4 (by decide), s 5 (by decide)]; exact h4⟩ (by rw [s 3 (by decide)]; exact h3) (fun j hj' => ?_) ?_ (fun M' r' t' => hK M' (fr1_t r r') t')
        · rw [e24, kg_row_eq, upd_eq, h2, nI_1]; rfl
        · by_cases e : j = i
          · rw [e]; exact hd1
          · exact hj j (by omega)
        · rw [← Nat.add_assoc, ← dEn_go (by omega) hd1]; exact he
      obtain ⟨dg, hdg, e, e'⟩ := dgt_v hd1
      refine ⟨fun h0 => ?_, fun h0 => ⟨in_nI (by omega) (by omega), ?_⟩⟩
      · have : 3 ≤ i := (nI_leI (a := 3) (by decide) (by omega)).mp h0
        rw [cv, if_neg (by omega)] at J
        exact J
      · have : i < 3 := by
          rcases Nat.lt_or_ge i 3 with h | h
          · exact h
          · exact absurd (nI_le (a := 3) h (by omega)) h0
        rw [cv, if_pos this, e'] at J
        have hb := (cv_bd a i hj).1
        rw [e, show (10 : Int32) = nI 10 from rfl, pk_mul, nI_add, show (48 : Int32) = nI 48 from rfl, pk_sub (by omega), show 10 * cv tx a i + (48 + dg) - 48 = 10 * cv tx a i + dg by omega]
        exact J
theorem c_numX {p lo hb : Nat} {v2 : Int32} {K : Int32 → kg_M → Prop} (h : TX M tn tx p) (hlo : lo ≤ 1) (h2 : ∀ v, v ≤ 999 → (nI v ≤ v2 ↔ v < hb)) (hE : ∀ e, numR tn tx p lo hb = Except.error e → ∀ v (M' : kg_M), fr1 M M' → TE M' tn tx e → K v M') (hO : ∀ v e a, numR tn tx p lo hb = Except.ok (v, e, a) → ∀ M' : kg_M, fr1 M M' → TX M' tn tx e → M' 1 3 = nI a → K (nI v) M') : wp_X6_readNumber (nI lo) v2 M K := by
  refine ⟨fun _ => c_skipX h (fun M5 r5 t5 s5 M8 e8 => ?_), fun h0 => absurd h.2.2.2.2.2.1 h0⟩
  obtain ⟨hn, hp, h1, hx, h22, h4⟩ := id t5
  have r8 : fr1 M5 M8 := fun k hk => by rw [e8, kg_row_ne _ _ hk]
  have s8 : ∀ j, j ≠ 3 → M8 1 j = M5 1 j := fun j hj => by rw [e8, kg_row_eq, upd_ne hj]
  have t8 : TX M8 tn tx (skp tn tx p) := ⟨hn, hp, by rw [s8 1 (by decide)]; exact h1, fun i hi => by rw [r8 2 (by decide)]; exact hx i hi, by rw [s8 2 (by decide)]; exact h22, by rw [s8 4 (by decide), s8 5 (by decide)]; exact h4⟩
  refine ⟨_, c_fig (a := skp tn tx p) (tn - skp tn tx p) 0 M8 (by omega) t8 (by rw [e8, kg_row_eq, upd_eq, h22]) (fun j hj => absurd hj (Nat.not_lt_zero _)) rfl (fun M9 r9 t9 h93 hdg => ?_)⟩
  have hr := fr1_t (fr1_t r5 r8) r9
  have hcv := (cv_bd (tx := tx) (skp tn tx p) _ hdg).1
  obtain ⟨-, hq, -, -, h92, -⟩ := id t9
  have hge := (dEn_bd (tn := tn) (tx := tx) (skp tn tx p)).1
  have b2 : dEn tn tx (skp tn tx p) ≠ skp tn tx p → (3 < dEn tn tx (skp tn tx p) - skp tn tx p ∨ cv tx (skp tn tx p) (dEn tn tx (skp tn tx p) - skp tn tx p) < lo ∨ hb ≤ cv tx (skp tn tx p) (dEn tn tx (skp tn tx p) - skp tn tx p)) → wJ_X6_readNumber_152 K (nI (cv tx (skp tn tx p) (dEn tn tx (skp tn tx p) - skp tn tx p))) M9 := by
    intro c1 c2
    unfold wJ_X6_readNumber_152
    rw [h93]
    exact c_blameX (f := 2) t9 (by decide) hp (fun M' r' t' => hE _ (by unfold numR; rw [if_neg c1, if_pos c2]) _ M' (fr1_t hr r') t')
  unfold wJ_X6_readNumber_106
  rw [h92, h93]
  refine ⟨fun c => ?_, fun c => ?_⟩
  · have c1 : dEn tn tx (skp tn tx p) ≠ skp tn tx p := fun e => c (by rw [e])
    rw [pk_sub hge]
    refine ⟨fun h3 => b2 c1 (Or.inl ((nI_ltI (a := 3) (by decide) (by omega)).mp h3)), fun h3 => ⟨fun h5 => b2 c1 (Or.inr (Or.inl ((nI_ltI (by omega) (by omega)).mp h5))), fun h5 => ⟨fun h6 => ?_, fun h6 => b2 c1 (Or.inr (Or.inr ?_))⟩⟩⟩
    · have q3 := (not_congr (nI_ltI (a := 3) (by decide) (by omega))).mp h3
      have q5 := (not_congr (nI_ltI (by omega) (by omega))).mp h5
      have q6 := (h2 _ hcv).mp h6
      exact hO _ _ _ (by unfold numR; rw [if_neg c1, if_neg (by omega)]) M9 hr t9 h93
    · have q6 := (not_congr (h2 _ hcv)).mp h6
      omega
  · have c1 : dEn tn tx (skp tn tx p) = skp tn tx p := nI_inj (by omega) (by omega) c
    rw [c1] at t9 ⊢
    exact c_blameX (f := 1) t9 (by decide) hp (fun M' r' t' => hE _ (by unfold numR; rw [if_pos c1]) _ M' (fr1_t hr r') t')
end C6
