/-! ===== the reference reads the text ===== -/
def TM (M : kg_M) (tn : Nat) (tx : Nat → Int32) (p : Nat) : Prop := tn ≤ 240 ∧ p ≤ tn ∧ M 117 9 = nI tn ∧ (∀ i, i < tn → M 123 i = tx i ∧ 0 ≤ tx i) ∧ M 117 11 = nI p ∧ M 117 10 = -1
/-- what numbers touch -/
def fn (M M' : kg_M) : Prop := (∀ k, k ≠ 117 → M' k = M k) ∧ ∀ j, (j < 10 ∨ 13 < j) → M' 117 j = M 117 j
theorem fn_r (M : kg_M) : fn M M := ⟨fun _ _ => rfl, fun _ _ => rfl⟩
theorem fn_t {M M' M'' : kg_M} (h : fn M M') (h2 : fn M' M'') : fn M M'' := ⟨fun k hk => by rw [h2.1 k hk, h.1 k hk], fun j hj => by rw [h2.2 j hj, h.2 j hj]⟩
theorem fn_1 {M M' : kg_M} {j : Nat} {x : Int32} (hj : 10 ≤ j ∧ j ≤ 13) (e : M' = kg_row M 117 (upd (M 117) j x)) : fn M M' := ⟨fun k hk => by rw [e, kg_row_ne _ _ hk], fun i hi => by rw [e, kg_row_eq, upd_ne (by omega)]⟩
def hr (tn : Nat) (tx : Nat → Int32) (p : Nat) : Int32 := if p < tn then tx p else -1
section M1
variable {M : kg_M} {tn : Nat} {tx : Nat → Int32}
theorem TM_at {M' : kg_M} {p q : Nat} {x : Int32} (h : TM M tn tx p) (hq : q ≤ tn) (hx : x = nI q) (e : M' = kg_row M 117 (upd (M 117) 11 x)) : TM M' tn tx q := by
  obtain ⟨h0, h1, h2, h3, h4, h5⟩ := h
  refine ⟨h0, hq, by rw [e, kg_row_eq, upd_ne (by decide)]; exact h2, fun i hi => by rw [e, kg_row_ne _ _ (by decide)]; exact h3 i hi, by rw [e, kg_row_eq, upd_eq]; exact hx, by rw [e, kg_row_eq, upd_ne (by decide)]; exact h5⟩
theorem TM_ot {M' : kg_M} {p j : Nat} {x : Int32} (h : TM M tn tx p) (hj : j ≠ 9 ∧ j ≠ 10 ∧ j ≠ 11) (e : M' = kg_row M 117 (upd (M 117) j x)) : TM M' tn tx p := by
  obtain ⟨h0, h1, h2, h3, h4, h5⟩ := h
  refine ⟨h0, h1, by rw [e, kg_row_eq, upd_ne (by omega)]; exact h2, fun i hi => by rw [e, kg_row_ne _ _ (by decide)]; exact h3 i hi, by rw [e, kg_row_eq, upd_ne (by omega)]; exact h4, by rw [e, kg_row_eq, upd_ne (by omega)]; exact h5⟩
theorem TM_row {M' : kg_M} {p : Nat} (h : TM M tn tx p) (e1 : M' 117 = M 117) (e2 : M' 123 = M 123) : TM M' tn tx p := by
  unfold TM at *
  rw [e1, e2]
  exact h
theorem m_here0 {K : Int32 → kg_M → Prop} : ∀ d p (M : kg_M), p + d = tn → TM M tn tx p → (∀ M' : kg_M, fn M M' → TM M' tn tx (skp tn tx p) → (∀ j, j ≠ 11 → M' 117 j = M 117 j) → K (hr tn tx (skp tn tx p)) M') → wL_X8_here_0 (fun (M : kg_M) => wJ_X8_here_38 K M) K (d + 1) M := by
  have ex : ∀ p (M : kg_M), TM M tn tx p → K (hr tn tx p) M → wJ_X8_here_38 K M := by
    intro p M h h0
    obtain ⟨hn, hp, h1, h2, h3, h4⟩ := h
    unfold wJ_X8_here_38
    rw [h1, h3]
    unfold hr at h0
    refine ⟨fun c => ?_, fun c => ?_⟩
    · have := (nI_leI (by omega) (by omega)).mp c
      rw [if_neg (by omega)] at h0
      exact h0
    · have : p < tn := by
        rcases Nat.lt_or_ge p tn with q | q
        · exact q
        · exact absurd (nI_le q (by omega)) c
      rw [if_pos this] at h0
      rw [cl_nI (by omega), (h2 p this).1]
      exact ⟨in_nI (by omega) (by omega), h0⟩
  intro d
  induction d with
  | zero =>
    intro p M hp h hK
    have e : skp tn tx p = p := skp_end (by omega)
    rw [e] at hK
    have := ex p M h (hK M (fn_r M) h (fun _ _ => rfl))
    rw [wL_X8_here_0]
    obtain ⟨hn, _, h1, h2, h3, h4⟩ := h
    rw [h1, h3]
    exact ⟨fun _ => this, fun h => absurd (nI_le (by omega) (by omega)) h⟩
  | succ d ih =>
    intro p M hp h hK
    obtain ⟨hn, _, h1, h2, h3, h4⟩ := id h
    rw [wL_X8_here_0, h1, h3, cl_nI (by omega), (h2 p (by omega)).1]
    refine ⟨fun h => absurd h (nI_ge (by omega) (by omega)), fun _ => ⟨in_nI (by omega) (by omega), fun c => ?_, fun c M11 e11 => ?_⟩⟩
    · have e : skp tn tx p = p := skp_st c
      rw [e] at hK
      exact ex p M h (hK M (fn_r M) h (fun _ _ => rfl))
    · rw [skp_go (by omega) c] at hK
      refine ih (p + 1) M11 (by omega) (TM_at h (by omega) (nI_1 p) e11) (fun M' r' t' s' => hK M' (fn_t (fn_1 (by omega) e11) r') t' (fun j hj => by rw [s' j hj, e11, kg_row_eq, upd_ne hj]))
theorem m_here {p : Nat} {K : Int32 → kg_M → Prop} (h : TM M tn tx p) (hK : ∀ M' : kg_M, fn M M' → TM M' tn tx (skp tn tx p) → (∀ j, j ≠ 11 → M' 117 j = M 117 j) → K (hr tn tx (skp tn tx p)) M') : wp_X8_here M K := ⟨_, m_here0 (tn - p) p M (by have := h.2.1; omega) h hK⟩
theorem m_dgt {a : Nat} {K : Int32 → kg_M → Prop} (ht : dgt tx a = true → K 1 M) (hf : dgt tx a = false → K 0 M) : wp_X8_in (tx a).toInt64 (48 : Int64) (57 : Int64) M K := by
  refine m_inI (lo := 48) (hi := 57) (fun h1 h2 => ht ?_) (fun h => hf ?_)
  · unfold dgt; rw [decide_eq_true h1, decide_eq_true h2]; rfl
  · unfold dgt
    rcases h with h | h
    · rw [decide_eq_false (fa_of_lt h).2.1]; rfl
    · rw [decide_eq_false (p := tx a ≤ 57) (fa_of_lt h).2.1, Bool.and_false]
theorem m_fig {a : Nat} {v1 v2 : Int32} {Kx : Int32 → Int32 → kg_M → Prop} {K : Int32 → kg_M → Prop} : ∀ d i x (M : kg_M), a + i + d = tn → TM M tn tx (a + i) → M 117 13 = nI a → M 117 12 = nI x → x ≤ 100009 → (i ≤ 3 → x = cv tx a i) → (∀ j, j < i → dgt tx (a + j) = true) → dEn tn tx (a + i) = dEn tn tx a → (∀ (M' : kg_M) x', fn M M' → TM M' tn tx (dEn tn tx a) → M' 117 13 = nI a → M' 117 12 = nI x' → x' ≤ 100009 → (dEn tn tx a - a ≤ 3 → x' = cv tx a (dEn tn tx a - a)) → (∀ j, j < dEn tn tx a - a → dgt tx (a + j) = true) → Kx v1 v2 M') → wL_X8_takeNumber_42 Kx K (d + 1) v1 v2 M := by
  intro d
  induction d with
  | zero =>
    intro i x M hd h h13 h12 hx hc hj he hK
    have hz : dEn tn tx a = a + i := by rw [← he, dEn_end (by omega)]
    rw [wL_X8_takeNumber_42]
    have e1 : dEn tn tx a - a = i := by omega
    rw [e1, hz] at hK
    have hh := hK M x (fn_r M) h h13 h12 hx hc hj
    obtain ⟨hn, hp, h1, hx, h2, h4⟩ := h
    rw [h1, h2]
    exact ⟨fun _ => hh, fun h0 => absurd (nI_le (by omega) (by omega)) h0⟩
  | succ d ih =>
    intro i x M hd h h13 h12 hx hc hj he hK
    obtain ⟨hn, hp, h1, hxx, h2, h4⟩ := id h
    rw [wL_X8_takeNumber_42, h1, h2, cl_nI (by omega), (hxx (a + i) (by omega)).1]
    refine ⟨fun h0 => absurd h0 (nI_ge (by omega) (by omega)), fun _ => ⟨in_nI (by omega) (by omega), m_dgt (fun hd1 => ⟨fun h => absurd h (by decide), fun _ => ?_⟩) (fun hd0 => ⟨fun _ => ?_, fun h => absurd rfl h⟩)⟩⟩
    · have J : ∀ x', x' ≤ 100009 → (i + 1 ≤ 3 → x' = cv tx a (i + 1)) → wJ_X8_takeNumber_113 (wL_X8_takeNumber_42 Kx K (d + 1)) Kx K v1 v2 (nI x') M := by
        intro x' hx' hc' M35 e35 M38 e38
        have t35 := TM_ot h (by decide) e35
        have q11 : M35 117 11 = nI (a + i) := t35.2.2.2.2.1
        rw [q11] at e38
        refine ih (i + 1) x' M38 (by omega) (TM_at t35 (by omega) (nI_1 (a + i)) e38) ?_ ?_ hx' hc' (fun j hj' => ?_) ?_ (fun M' x'' r' => hK M' x'' (fn_t (fn_t (fn_1 (by decide) e35) (fn_1 (by decide) e38)) r'))
        · rw [e38, kg_row_eq, upd_ne (by decide), e35, kg_row_eq, upd_ne (by decide)]; exact h13
        · rw [e38, kg_row_eq, upd_ne (by decide), e35, kg_row_eq, upd_eq]
        · by_cases e : j = i
          · rw [e]; exact hd1
          · exact hj j (by omega)
        · rw [← Nat.add_assoc, ← dEn_go (by omega) hd1]; exact he
      obtain ⟨dg, hdg, e, e'⟩ := dgt_v hd1
      rw [h12]
      refine ⟨fun c => ⟨by rw [h2]; exact in_nI (by omega) (by omega), ?_⟩, fun c => J x hx (fun h3 => ?_)⟩
      · have hle : x ≤ 10000 := (nI_leI (b := 10000) (by omega) (by decide)).mp c
        rw [h2, cl_nI (by omega), (hxx (a + i) (by omega)).1, e, show (10 : Int32) = nI 10 from rfl, pk_mul, nI_add, show (48 : Int32) = nI 48 from rfl, pk_sub (by omega), show 10 * x + (48 + dg) - 48 = 10 * x + dg by omega]
        refine J _ (by omega) (fun h3 => ?_)
        rw [cv, if_pos (by omega), e', hc (by omega)]
      · have := (cv_bd a i hj).1
        have e3 := hc (by omega)
        exact absurd (nI_le (b := 10000) (by omega) (by decide)) c
    · have hz : dEn tn tx a = a + i := by rw [← he, dEn_st hd0]
      have e1 : dEn tn tx a - a = i := by omega
      rw [e1, hz] at hK
      exact hK M x (fn_r M) h h13 h12 hx hc hj
theorem m_fails {f pl : Nat} {K : Int32 → kg_M → Prop} (hK : ∀ M' : kg_M, fn M M' → M' 117 10 = nI pl → K (nI f) M') : wp_X8_fails (nI f) (nI pl) M K := fun M2 e2 => hK M2 (fn_1 (by decide) e2) (by rw [e2, kg_row_eq, upd_eq])
theorem m_num {p lo hb : Nat} {v2 : Int32} {K : Int32 → kg_M → Prop} (h : TM M tn tx p) (hlo : lo ≤ 1) (h2 : ∀ v, v ≤ 999 → (nI v ≤ v2 ↔ v < hb)) (hE : ∀ e, numR tn tx p lo hb = Except.error e → ∀ M' : kg_M, fn M M' → M' 117 10 = nI e.2 → K (nI e.1) M') (hO : ∀ v e a, numR tn tx p lo hb = Except.ok (v, e, a) → ∀ M' : kg_M, fn M M' → TM M' tn tx e → M' 117 12 = nI v → M' 117 13 = nI a → K 0 M') : wp_X8_takeNumber (nI lo) v2 M K := by
  refine m_here h (fun M2 r2 t2 _ => ?_)
  obtain ⟨hn, hp, h1, hx, h11, h10⟩ := id t2
  have er : dgt tx (skp tn tx p) = false ∨ ¬ skp tn tx p < tn → wp_X8_fails (1 : Int32) (M2 117 11) M2 (fun (r60 : Int32) (M58 : kg_M) => K r60 M58) := by
    intro c
    rw [h11]
    refine m_fails (f := 1) (fun M' r' e' => hE (1, skp tn tx p) ?_ M' (fn_t r2 r') e')
    unfold numR
    rw [if_pos]
    rcases c with c | c
    · exact dEn_st c
    · exact dEn_end (by omega)
  unfold hr
  by_cases hlt : skp tn tx p < tn
  · rw [if_pos hlt]
    refine m_dgt (fun hd => ⟨fun _ M11 e11 M14 e14 => ?_, fun h => absurd h (by decide)⟩) (fun hd => ⟨fun h => absurd rfl h, fun _ => er (Or.inl hd)⟩)
    have t11 := TM_ot t2 (by decide) e11
    have t14 := TM_ot t11 (by decide) e14
    have c1 : dEn tn tx (skp tn tx p) ≠ skp tn tx p := by
      rw [dEn_go hlt hd]
      have := (dEn_bd (tn := tn) (tx := tx) (skp tn tx p + 1)).1
      omega
    have hge := (dEn_bd (tn := tn) (tx := tx) (skp tn tx p)).1
    refine ⟨_, m_fig (a := skp tn tx p) (tn - skp tn tx p) 0 0 M14 (by omega) t14 ?_ ?_ (by omega) (fun _ => rfl) (fun j hj => absurd hj (Nat.not_lt_zero _)) rfl (fun M9 x r9 t9 h13 h12 hx9 hc hdg => ?_)⟩
    · rw [e14, kg_row_eq, upd_ne (by decide), e11, kg_row_eq, upd_eq, h11]
    · rw [e14, kg_row_eq, upd_eq]; rfl
    · have rr : fn M M9 := fn_t (fn_t (fn_t r2 (fn_1 (by decide) e11)) (fn_1 (by decide) e14)) r9
      have hcv := (cv_bd (tx := tx) (skp tn tx p) _ hdg).1
      have bd : (3 < dEn tn tx (skp tn tx p) - skp tn tx p ∨ cv tx (skp tn tx p) (dEn tn tx (skp tn tx p) - skp tn tx p) < lo ∨ hb ≤ cv tx (skp tn tx p) (dEn tn tx (skp tn tx p) - skp tn tx p)) → wJ_X8_takeNumber_157 K M9 := by
        intro c2
        unfold wJ_X8_takeNumber_157
        rw [h13]
        exact m_fails (f := 2) (fun M' r' e' => hE (2, skp tn tx p) (by unfold numR; rw [if_neg c1, if_pos c2]) M' (fn_t rr r') e')
      have hq := t9.2.1
      unfold wJ_X8_takeNumber_129
      rw [t9.2.2.2.2.1, h13, pk_sub hge, h12]
      refine ⟨fun c => bd (Or.inl ((nI_ltI (a := 3) (by decide) (by omega)).mp c)), fun c => ?_⟩
      have q3 := (not_congr (nI_ltI (a := 3) (by decide) (by omega))).mp c
      have ex := hc (by omega)
      rw [ex]
      refine m_inI (fun a1 a2 => ⟨fun _ => ?_, fun h => absurd h (by decide)⟩) (fun c => ⟨fun h => absurd rfl h, fun _ => bd ?_⟩)
      · have b1 := (nI_leI (by omega) (by omega)).mp a1
        have b2 := (h2 _ hcv).mp a2
        exact hO _ _ _ (by unfold numR; rw [if_neg c1, if_neg (by omega)]) M9 rr t9 (by rw [h12, ex]) h13
      · rcases c with c | c
        · exact Or.inr (Or.inl ((nI_ltI (by omega) (by omega)).mp c))
        · refine Or.inr (Or.inr ?_)
          rcases Nat.lt_or_ge (cv tx (skp tn tx p) (dEn tn tx (skp tn tx p) - skp tn tx p)) hb with q | q
          · exact absurd ((h2 _ hcv).mpr q) (fa_of_lt c).2.1
          · exact q
  · rw [if_neg hlt]
    refine m_inI (x := -1) (lo := 48) (hi := 57) (fun h => absurd h (by decide)) (fun _ => ⟨fun h => absurd rfl h, fun _ => er (Or.inr hlt)⟩)
end M1
