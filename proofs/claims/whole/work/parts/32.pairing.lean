/-! ===== the class's pairing ===== -/
def en (x : Nat) : Int32 := if x = 7 then -1 else nI x
theorem en_7 {x : Nat} (hx : x ≤ 7) : en x = -1 ↔ x = 7 := by
  unfold en
  by_cases h : x = 7
  · rw [if_pos h]; exact ⟨fun _ => h, fun _ => rfl⟩
  · rw [if_neg h]; exact ⟨fun e => absurd e (m1_ne_nI (by omega)), fun e => absurd e h⟩
/-- the best so far stands in rows 92, 93 -/
def HB (T : kT) (M : kg_M) (b : Option (Nat → Nat)) : Prop := match b with
  | none => M 92 2 = -1 ∧ M 92 3 = -1
  | some w => ∃ m, cn w = 2 * m ∧ M 92 2 = nI m ∧ M 92 3 = nI (mu (tL T) w) ∧ (∀ j, j < 7 → w j ≤ 7) ∧ ∀ j, j < 7 → M 93 j = en (w j)
def PQ (T : kT) (N : Nat → Int32) (L most : Nat) (M : kg_M) (t : Nat → Nat) (b : Option (Nat → Nat)) : Prop := RC M L T ∧ M 92 4 = nI (bs (sd N) 7) ∧ M 92 5 = nI most ∧ (∀ j, j < 7 → M 94 j = en (t j)) ∧ HB T M b
def fr3 (M M' : kg_M) : Prop := ∀ k, k ≠ 92 → k ≠ 93 → k ≠ 94 → M' k = M k
theorem fr3_tr {M M1 M2 : kg_M} (h : fr3 M M1) (h2 : fr3 M1 M2) : fr3 M M2 := fun k a b c => by rw [h2 k a b c, h k a b c]
theorem j_fill {a n : Nat} {v : Int32} {M : kg_M} {K : kg_M → Prop} (hn : n < 2 ^ 31) (hK : ∀ M', (∀ k, k ≠ a → M' k = M k) → (∀ j, j < n → M' a j = v) → K M') : wp_J7_fill_53178 a n v M K := by
  refine ⟨_, for_loop (fun f (M' : kg_M) i => wL_J7_fill_53178_5 a n _ K f v i (nI n) M') (fun k M' => (∀ j, j ≠ a → M' j = M j) ∧ ∀ j, j < k → M' a j = v) n M ⟨fun _ _ => rfl, fun j hj => absurd hj (Nat.not_lt_zero _)⟩ (fun f M' h => ?_) (fun f k M' hk h ih => ?_)⟩
  · rw [wL_J7_fill_53178_5]
    exact ⟨fun _ => hK M' h.1 h.2, fun h => absurd (nI_le (Nat.le_refl _) hn) h⟩
  · rw [wL_J7_fill_53178_5, nI_1 k, cl_nI (by omega)]
    refine ⟨fun h => absurd h (nI_ge hk hn), fun _ => ⟨in_nI hk hn, fun M8 e8 => ih M8 ⟨fun j hj => by rw [e8, kg_row_ne _ _ hj, h.1 j hj], fun j hj => ?_⟩⟩⟩
    rw [e8, kg_row_eq]
    by_cases e : j = k
    · rw [e, upd_eq]
    · rw [upd_ne e]; exact h.2 j (by omega)
section P17
variable {L : Nat} {T : kT} {N : Nat → Int32} {most : Nat}
theorem c_take {M : kg_M} {t : Nat → Nat} {b : Option (Nat → Nat)} {made p : Nat} {K : kg_M → Prop} (hLr : L = 109 ∨ L = 113) (hT : LW T) (hQ : PQ T N L most M t b) (hI : Iv (wd T N) t p) (hp : tP T ≤ p) (hm : cn t = 2 * made) (hmm : made ≤ most) (hPr : Pr (Cp (wd T N) most t p) b) (hK : ∀ M' b', PQ T N L most M' t b' → fr3 M M' → Rs (tL T) (Cp (wd T N) most t p) b b' → K M') : wp_X3_takeIfBetter (nI made) (nI (mu (tL T) t)) M K := by
  obtain ⟨q1, q2, q3, q4, q5⟩ := hQ
  have h9 : ∀ p q, tL T p q ≤ 9 := hT.2.2.2.1
  have hct : Cp (wd T N) most t p t := ⟨hI.1, by omega, fun _ _ => rfl⟩
  have hcn := cn_bd (w := t)
  have hmu := mu_bd (w := t) h9
  have lt1 : lx t 7 < 2097152 := lx_bd (k := 7) (fun j hj => Mt_le hI.1 hj)
  have eqV : ∀ w, Cp (wd T N) most t p w → Vl (tL T) w = Vl (tL T) t := fun w hw => Vl_eq (fun j hj => cp_leaf (wd_DW hT) hI hw hp hj)
  have tk : (∀ wb, b = some wb → Vl (tL T) wb ≤ Vl (tL T) t) → wJ_X3_takeIfBetter_24 K (nI made) (nI (mu (tL T) t)) M := by
    intro hb M6 e6 M9 e9 M12 e12
    have r : ∀ k, k ≠ 92 → k ≠ 93 → M12 k = M k := fun k a c => by rw [e12, kg_row_ne _ _ c, e9, kg_row_ne _ _ a, e6, kg_row_ne _ _ a]
    have q92 : M12 92 = upd (upd (M 92) 2 (nI made)) 3 (nI (mu (tL T) t)) := by rw [e12, kg_row_ne _ _ (by decide), e9, kg_row_eq, e6, kg_row_eq]
    refine hK M12 (some t) ⟨RC_of (r _ (by omega) (by omega)) (r _ (by omega) (by omega)) (r _ (by omega) (by omega)) (r _ (by omega) (by omega)) q1, by rw [q92, upd_ne (by decide), upd_ne (by decide)]; exact q2, by rw [q92, upd_ne (by decide), upd_ne (by decide)]; exact q3, fun j hj => by rw [r 94 (by decide) (by decide)]; exact q4 j hj, ⟨made, hm, by rw [q92]; rfl, by rw [q92]; rfl, fun j hj => Mt_le hI.1 hj, fun j hj => ?_⟩⟩ (fun k a b _ => r k a b) ⟨Or.inr ⟨t, rfl, hct⟩, fun w hw => ⟨t, rfl, Nat.le_of_eq (eqV w hw)⟩, fun w hw => ⟨t, rfl, hb w hw⟩⟩
    rw [e12, kg_row_eq, lit_cl 0 (by decide), lit_cl 7 (by decide), pk_cpy_in (by omega) (by omega), e9, kg_row_ne _ _ (by decide), e6, kg_row_ne _ _ (by decide), show 0 + (j - 0) = j by omega]
    exact q4 j hj
  cases b with
  | none =>
    refine ⟨fun _ => tk (fun wb h => by simp at h), fun h => absurd ?_ h⟩
    rw [q5.1, Int32.lt_iff_toInt_lt]
    have : (nI made).toInt = (made : Int) := nI_toInt (by omega)
    rw [this, show (-1 : Int32).toInt = -1 by decide]
    omega
  | some wb =>
    obtain ⟨m, g1, g2, g3, g4, g5⟩ := q5
    have hwb := mu_bd (w := wb) h9
    have hcb := cn_bd (w := wb)
    have lt2 : lx wb 7 < 2097152 := lx_bd (k := 7) g4
    have hlx := hPr wb rfl t hct
    have same : Vl (tL T) t ≤ Vl (tL T) wb → K M := fun hv => hK M (some wb) ⟨q1, q2, q3, q4, m, g1, g2, g3, g4, g5⟩ (fun _ _ _ _ => rfl) ⟨Or.inl rfl, fun w hw => ⟨wb, rfl, by rw [eqV w hw]; exact hv⟩, fun w hw => ⟨w, hw, Nat.le_refl _⟩⟩
    have tk' : Vl (tL T) wb ≤ Vl (tL T) t → wJ_X3_takeIfBetter_24 K (nI made) (nI (mu (tL T) t)) M := fun hv => tk (fun w hw => by cases hw; exact hv)
    unfold wp_X3_takeIfBetter
    rw [g2, g3]
    refine ⟨fun h => tk' ?_, fun h => ⟨fun h2 => same ?_, fun h2 => ⟨fun h3 => same ?_, fun h3 => tk' ?_⟩⟩⟩
    · have := (nI_ltI (by omega) (by omega)).mp h
      unfold Vl; omega
    · have a : ¬ m < made := fun c => h ((nI_ltI (by omega) (by omega)).mpr c)
      have c : made ≠ m := fun e => h2 (by rw [e])
      unfold Vl; omega
    · have a := (nI_eq (by omega) (by omega)).mp h2
      have c := (nI_leI (by omega) (by omega)).mp h3
      unfold Vl; omega
    · have a := (nI_eq (by omega) (by omega)).mp h2
      have c : ¬ mu (tL T) t ≤ mu (tL T) wb := fun c => h3 ((nI_leI (by omega) (by omega)).mpr c)
      unfold Vl; omega
theorem c_pairLoop {f : Nat} {M : kg_M} {t : Nat → Nat} {b : Option (Nat → Nat)} {made p : Nat} {o : Nat → Bool} {K : kg_M → Prop} (hLr : L = 109 ∨ L = 113) (hT : LW T) (hp : p < tP T) (hQ : PQ T N L most M t b) (hI : Iv (wd T N) t p) (hm : cn t = 2 * made) (hmm : made ≤ most) (h5 : most ≤ 5) (hPr : Pr (Cp (wd T N) most t p) b)
    (ih : ∀ (t : Nat → Nat) (b : Option (Nat → Nat)) (made : Nat) (M : kg_M) (K : kg_M → Prop), PQ T N L most M t b → Iv (wd T N) t (p + 1) → cn t = 2 * made → made ≤ most → Pr (Cp (wd T N) most t (p + 1)) b → (∀ M' b', PQ T N L most M' t b' → fr3 M M' → Rs (tL T) (Cp (wd T N) most t (p + 1)) b b' → K M') → wR_X3_pairFrom f L (nI (p + 1)) (nI made) (nI (mu (tL T) t)) M K)
    (ho : ∀ q, o q = true → t p = 7 ∧ made < most ∧ wd T N p q = true) (ho2 : ∀ q, t p = 7 → made < most → wd T N p q = true → o q = true)
    (hK : ∀ M' b', PQ T N L most M' t b' → fr3 M M' → Rs (tL T) (Cp (wd T N) most t p) b b' → K M') : ∃ g, wL_X3_pairFrom_54 (wR_X3_pairFrom f) L (fun (v2 : Int32) (v3 : Int32) (v4 : Int32) (M : kg_M) => wR_X3_pairFrom f L (v2 + (1 : Int32)) v3 v4 M (fun (M49 : kg_M) => K M49)) K g (nI p) (nI made) (nI (mu (tL T) t)) (nI (bs o 7)) (nI p + (1 : Int32)) M := by
  have h7 := hT.2.1
  have hD := wd_DW (N := N) hT
  have h9 : ∀ p q, tL T p q ≤ 9 := hT.2.2.2.1
  rw [nI_1 p]
  refine ⟨_, for_from (fun f2 (M' : kg_M) i => wL_X3_pairFrom_54 (wR_X3_pairFrom f) L (fun (v2 : Int32) (v3 : Int32) (v4 : Int32) (M : kg_M) => wR_X3_pairFrom f L (v2 + (1 : Int32)) v3 v4 M (fun (M49 : kg_M) => K M49)) K f2 (nI p) (nI made) (nI (mu (tL T) t)) (nI (bs o 7)) i M') (fun q M' => ∃ b', PQ T N L most M' t b' ∧ fr3 M M' ∧ Rs (tL T) (fun w => Cp (wd T N) most t p w ∧ p < w p ∧ w p < q) b b') (p + 1) (tP T) (by omega) M ⟨b, hQ, fun _ _ _ _ => rfl, Rs_0 (fun w hw => by omega)⟩ (fun f2 M' h => ?_) (fun f2 q M' hq1 hq2 h ihl => ?_)⟩
  · obtain ⟨b', hQ', hf', hR⟩ := h
    rw [wL_X3_pairFrom_54, hQ'.1.2.1]
    refine ⟨fun _ => ?_, fun h => absurd (nI_le (Nat.le_refl _) (by omega)) h⟩
    rw [nI_1 p]
    refine ih t b' made M' _ hQ' (Iv_next hI) hm hmm (fun wb hwb w hw => ?_) (fun M2 b2 hQ2 hf2 hR2 => hK M2 b2 hQ2 (fr3_tr hf' hf2) (Rs_tr hR hR2 (fun w => ?_)))
    · have hw' := cp_next.mp hw
      rcases hR.1 with e | ⟨w1, e, hc, h1, h2⟩
      · exact hPr wb (e.symm.trans hwb) w hw'.1
      · have e2 : w1 = wb := by rw [e] at hwb; exact Option.some.inj hwb
        subst e2
        have hne : w1 p ≠ t p := fun e3 => by
          by_cases e4 : t p = 7
          · omega
          · have := (hI.2 p (Nat.le_refl _) (by omega)).resolve_left e4; omega
        have hn := cp_new hD hI hc (by omega) hne
        refine lx_first (i := p) (by omega) (fun j hj => by rw [hc.2.2 j hj, hw'.1.2.2 j hj]) (by omega) (fun j hj => Mt_le hc.1 hj)
    · constructor
      · intro hw
        by_cases e : w p = t p
        · exact Or.inr (cp_next.mpr ⟨hw, e⟩)
        · have hn := cp_new hD hI hw (by omega) e
          exact Or.inl ⟨hw, hn.2.1, hn.2.2.1⟩
      · rintro (⟨hw, -⟩ | hw)
        · exact hw
        · exact (cp_next.mp hw).1
  · obtain ⟨b', hQ', hf', hR⟩ := h
    have hq7 : q < 7 := by omega
    have same : (∀ w, Cp (wd T N) most t p w → w p ≠ q) → ∃ b', PQ T N L most M' t b' ∧ fr3 M M' ∧ Rs (tL T) (fun w => Cp (wd T N) most t p w ∧ p < w p ∧ w p < q + 1) b b' := fun hno => ⟨b', hQ', hf', Rs_tr hR (Rs_0 (C := fun _ => False) (fun _ h => h)) (fun w => ⟨fun ⟨a, c, d⟩ => Or.inl ⟨a, c, by have := hno w a; omega⟩, fun h => by
      rcases h with ⟨a, c, d⟩ | h
      · exact ⟨a, c, by omega⟩
      · exact absurd h id⟩)⟩
    rw [wL_X3_pairFrom_54, hQ'.1.2.1, bs_has (by omega) hq7, nI_1 q, cl_nI (a := q) (by omega), cl_nI (a := p) (by omega), hQ'.2.2.2.1 q hq7, nI_1 p, nI_1 made]
    refine ⟨fun h => absurd h (nI_ge hq2 (by omega)), fun _ => ⟨fun h0 => ihl M' (same fun w hw e => ?_), fun h0 => ⟨in_nI hq7 (by decide), fun h1 => ihl M' (same fun w hw e => ?_), fun h1 => ?_⟩⟩⟩
    · have hne : w p ≠ t p := fun e3 => by
          by_cases e4 : t p = 7
          · omega
          · have := (hI.2 p (Nat.le_refl _) (by omega)).resolve_left e4; omega
      have hn := cp_new hD hI hw (by omega) hne
      rw [← e, ho2 (w p) hn.1 (by omega) hn.2.2.2.2.1] at h0
      exact absurd rfl h0
    · have hne : w p ≠ t p := fun e3 => by
          by_cases e4 : t p = 7
          · omega
          · have := (hI.2 p (Nat.le_refl _) (by omega)).resolve_left e4; omega
      have hn := cp_new hD hI hw (by omega) hne
      rw [← e, hn.2.2.2.1] at h1
      exact absurd rfl h1
    · have hoq : o q = true := by
        cases e : o q with
        | true => rfl
        | false => rw [e] at h0; exact absurd h0 (by decide)
      obtain ⟨tp, mm, wpq⟩ := ho q hoq
      have tq : t q = 7 := (en_7 (Mt_le hI.1 hq7)).mp h1
      have hpq : p < q := by omega
      have hI2 := Iv_t2 hD hI hpq hq7 tp tq wpq
      have hc2 : cn (t2 t p q) = 2 * (made + 1) := by rw [cn_t2 hpq hq7 tp tq]; omega
      have hm2 : mu (tL T) (t2 t p q) = mu (tL T) t + (tL T p q + tL T q p) := mu_t2 hpq hq7 tp tq
      refine ⟨in_nI (by omega) (by decide), fun M24 e24 => ⟨in_nI hq7 (by decide), fun M29 e29 => ?_⟩⟩
      have r29 : ∀ k, k ≠ 94 → M29 k = M' k := fun k hk => by rw [e29, kg_row_ne _ _ hk, e24, kg_row_ne _ _ hk]
      have hL29 : RC M29 L T := RC_of (r29 _ (by omega)) (r29 _ (by omega)) (r29 _ (by omega)) (r29 _ (by omega)) hQ'.1
      have q29 : M29 94 = upd (upd (M' 94) p (nI q)) q (nI p) := by rw [e29, kg_row_eq, e24, kg_row_eq]
      have hB29 : HB T M29 b' := by
        have h92 := r29 92 (by decide)
        have h93 := r29 93 (by decide)
        have := hQ'.2.2.2.2
        cases b' with
        | none => unfold HB at *; rw [h92]; exact this
        | some w => unfold HB at *; rw [h92, h93]; exact this
      have hQ29 : PQ T N L most M29 (t2 t p q) b' := by
        refine ⟨hL29, by rw [r29 92 (by decide)]; exact hQ'.2.1, by rw [r29 92 (by decide)]; exact hQ'.2.2.1, fun j hj => ?_, hB29⟩
        rw [q29]
        by_cases a : j = q
        · rw [a, upd_eq, t2_q (by omega)]; unfold en; rw [if_neg (by omega)]
        · rw [upd_ne a]
          by_cases c : j = p
          · rw [c, upd_eq, t2_p]; unfold en; rw [if_neg (by omega)]
          · rw [upd_ne c, t2_o c a]; exact hQ'.2.2.2.1 j hj
      refine c_together hL29 hT hp hq2 ?_
      rw [nI_add, ← hm2]
      refine ih (t2 t p q) b' (made + 1) M29 _ hQ29 hI2 hc2 (by omega) (fun wb hwb w hw => ?_) (fun M35 b2 hQ2 hf2 hR2 => ⟨in_nI (by omega) (by decide), fun M40 e40 => ⟨in_nI hq7 (by decide), fun M45 e45 => ihl M45 ⟨b2, ?_, ?_, Rs_tr hR hR2 (fun w => ?_)⟩⟩⟩)
      · have hw' := (cp_t2 hpq).mp hw
        rcases hR.1 with e | ⟨w1, e, hc, h1, h2⟩
        · exact hPr wb (e.symm.trans hwb) w hw'.1
        · have e2 : w1 = wb := by rw [e] at hwb; exact Option.some.inj hwb
          subst e2
          exact lx_first (i := p) (by omega) (fun j hj => by rw [hc.2.2 j hj, hw'.1.2.2 j hj]) (by omega) (fun j hj => Mt_le hc.1 hj)
      · have r45 : ∀ k, k ≠ 94 → M45 k = M35 k := fun k hk => by rw [e45, kg_row_ne _ _ hk, e40, kg_row_ne _ _ hk]
        have q45 : M45 94 = upd (upd (M35 94) p (-1)) q (-1) := by rw [e45, kg_row_eq, e40, kg_row_eq]
        refine ⟨RC_of (r45 _ (by omega)) (r45 _ (by omega)) (r45 _ (by omega)) (r45 _ (by omega)) hQ2.1, by rw [r45 92 (by decide)]; exact hQ2.2.1, by rw [r45 92 (by decide)]; exact hQ2.2.2.1, fun j hj => ?_, ?_⟩
        · rw [q45]
          by_cases a : j = q
          · rw [a, upd_eq, tq]; rfl
          · rw [upd_ne a]
            by_cases c : j = p
            · rw [c, upd_eq, tp]; rfl
            · rw [upd_ne c, hQ2.2.2.2.1 j hj, t2_o c a]
        · have h92 := r45 92 (by decide)
          have h93 := r45 93 (by decide)
          have := hQ2.2.2.2.2
          cases b2 with
          | none => unfold HB at *; rw [h92]; exact this
          | some w => unfold HB at *; rw [h92, h93]; exact this
      · exact fun k a b c => by rw [e45, kg_row_ne _ _ c, e40, kg_row_ne _ _ c, hf2 k a b c, r29 k c, hf' k a b c]
      · rw [cp_t2 hpq]
        constructor
        · rintro ⟨a, c, d⟩
          by_cases e : w p = q
          · exact Or.inr ⟨a, e⟩
          · exact Or.inl ⟨a, c, by omega⟩
        · rintro (⟨a, c, d⟩ | ⟨a, e⟩)
          · exact ⟨a, c, by omega⟩
          · exact ⟨a, by omega, by omega⟩
theorem c_pairFrom (hLr : L = 109 ∨ L = 113) (hT : LW T) (h5 : most ≤ 5) : ∀ (f p : Nat), tP T < p + f → p ≤ tP T → ∀ (t : Nat → Nat) (b : Option (Nat → Nat)) (made : Nat) (M : kg_M) (K : kg_M → Prop), PQ T N L most M t b → Iv (wd T N) t p → cn t = 2 * made → made ≤ most → Pr (Cp (wd T N) most t p) b → (∀ M' b', PQ T N L most M' t b' → fr3 M M' → Rs (tL T) (Cp (wd T N) most t p) b b' → K M') → wR_X3_pairFrom f L (nI p) (nI made) (nI (mu (tL T) t)) M K
  | 0, p, h1, h2 => absurd h1 (by omega)
  | f + 1, p, h1, h2 => by
    intro t b made M K hQ hI hm hmm hPr hK
    have h7 := hT.2.1
    have ih := c_pairFrom hLr hT h5 f (p + 1) (by omega)
    show wE_X3_pairFrom (wR_X3_pairFrom f) L (nI p) (nI made) (nI (mu (tL T) t)) M K
    unfold wE_X3_pairFrom
    rw [hQ.1.2.1]
    refine ⟨fun h => ?_, fun h => ?_⟩
    · have hp : p < tP T := (nI_ltI (by omega) (by omega)).mp h
      have ih' := ih (by omega)
      rw [cl_nI (by omega), hQ.2.2.2.1 p (by omega), hQ.2.2.1, hQ.2.1]
      have no : ∀ (o : Nat → Bool), (∀ q, o q = false) → (¬ t p = 7 ∨ most ≤ made) → ∃ g, wL_X3_pairFrom_54 (wR_X3_pairFrom f) L (fun (v2 : Int32) (v3 : Int32) (v4 : Int32) (M : kg_M) => wR_X3_pairFrom f L (v2 + (1 : Int32)) v3 v4 M (fun (M49 : kg_M) => K M49)) K g (nI p) (nI made) (nI (mu (tL T) t)) (nI (bs o 7)) (nI p + (1 : Int32)) M := fun o h0 h => c_pairLoop (o := o) hLr hT hp hQ hI hm hmm h5 hPr ih' (fun q e => by rw [h0 q] at e; exact absurd e (by decide)) (fun q e1 e2 => by omega) hK
      have z : nI (bs (fun _ => false) 7) = 0 := by rw [bs_zero]; rfl
      have no' := no (fun _ => false) (fun _ => rfl)
      rw [z] at no'
      refine ⟨in_nI (by omega) (by decide), fun h0 => no' (Or.inl fun e => h0 (by rw [e]; rfl)), fun h0 => ⟨fun h3 => no' (Or.inr ((nI_leI (by omega) (by omega)).mp h3)), fun h3 => c_wouldMeet hQ.1 (by omega) ?_⟩⟩
      have tp : t p = 7 := (en_7 (Mt_le hI.1 (by omega))).mp h0
      have mm : made < most := by
        rcases Nat.lt_or_ge made most with q | q
        · exact q
        · exact absurd (nI_le q (by omega)) h3
      exact c_pairLoop (o := wd T N p) hLr hT hp hQ hI hm hmm h5 hPr ih' (fun q e => ⟨tp, mm, e⟩) (fun q _ _ e => e) hK
    · have hp : tP T ≤ p := by
        rcases Nat.lt_or_ge p (tP T) with q | q
        · exact absurd ((nI_ltI (by omega) (by omega)).mpr q) h
        · exact q
      exact c_take hLr hT hQ hI hp hm hmm hPr hK
/-- AT ONCE, the class -/
theorem c_find {M : kg_M} {K : kg_M → Prop} (hLr : L = 109 ∨ L = 113) (hT : LW T) (h5 : most ≤ 5) (hL : RC M L T) (hK : ∀ M' w, fr3 M M' → HB T M' (some w) → Cp (wd T N) most (fun _ => 7) 0 w → (∀ w', Cp (wd T N) most (fun _ => 7) 0 w' → Vl (tL T) w' ≤ Vl (tL T) w) → K M') : wp_X3_find L (nI (bs (sd N) 7)) (nI most) M K := by
  intro M2 e2 M5 e5 M8 e8 M11 e11
  have r11 : ∀ k, k ≠ 92 → M11 k = M k := fun k hk => by rw [e11, kg_row_ne _ _ hk, e8, kg_row_ne _ _ hk, e5, kg_row_ne _ _ hk, e2, kg_row_ne _ _ hk]
  have q92 : M11 92 = upd (upd (upd (upd (M 92) 4 (nI (bs (sd N) 7))) 5 (nI most)) 2 (-1)) 3 (-1) := by rw [e11, kg_row_eq, e8, kg_row_eq, e5, kg_row_eq, e2, kg_row_eq]
  refine j_fill (n := 7) (by decide) (fun M14 r14 f14 => ?_)
  have q14 : M14 92 = M11 92 := r14 92 (by decide)
  have rr : ∀ k, k ≠ 92 → k ≠ 94 → M14 k = M k := fun k a c => by rw [r14 k c, r11 k a]
  have hI : Iv (wd T N) (fun _ => 7) 0 := ⟨fun _ _ => Or.inl rfl, fun _ _ _ => Or.inl rfl⟩
  have hcn : cn (fun _ => 7) = 2 * 0 := rfl
  have hQ : PQ T N L most M14 (fun _ => 7) none := ⟨RC_of (rr _ (by omega) (by omega)) (rr _ (by omega) (by omega)) (rr _ (by omega) (by omega)) (rr _ (by omega) (by omega)) hL, by rw [q14, q92]; rfl, by rw [q14, q92]; rfl, fun j hj => f14 j hj, by unfold HB; rw [q14, q92]; exact ⟨rfl, rfl⟩⟩
  refine c_pairFrom hLr hT h5 10 0 (by have := hT.2.1; omega) (by omega) (fun _ => 7) none 0 M14 _ hQ hI hcn (by omega) (fun wb h => by simp at h) (fun M17 b' hQ' hf hR => ?_)
  have hct : Cp (wd T N) most (fun _ => 7) 0 (fun _ => 7) := ⟨hI.1, by rw [hcn]; omega, fun _ _ => rfl⟩
  obtain ⟨w, hw, -⟩ := hR.2.1 _ hct
  subst hw
  refine hK M17 w (fun k a b c => by rw [hf k a b c, rr k a c]) hQ'.2.2.2.2 ?_ (fun w' hw' => ?_)
  · rcases hR.1 with e | ⟨x, e, hx⟩
    · simp at e
    · rw [Option.some.inj e]; exact hx
  · obtain ⟨x, e, hx⟩ := hR.2.1 w' hw'
    rw [Option.some.inj e]; exact hx
end P17
