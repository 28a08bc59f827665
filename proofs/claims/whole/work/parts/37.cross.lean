/-! ===== SIDES: who can be where behind h hours ===== -/
def gof (F : Nat → Bool) (w : Nat → Nat) : Nat := bs (fun i => F i ^^ !(w i == 7)) 7
def DF (T : kT) (F : Nat → Bool) (p q : Nat) : Bool := fo T p q && (F p != F q)
/-- in an hour they can come from s to s' -/
def hStp (T : kT) (most s s' : Nat) : Prop := ∃ w, Cp (DF T (fun i => s.testBit i)) most (fun _ => 7) 0 w ∧ s' = gof (fun i => s.testBit i) w
def Rh (T : kT) (most s0 : Nat) : Nat → Nat → Prop
  | 0, s => s = s0
  | h + 1, s => Rh T most s0 h s ∨ ∃ x, Rh T most s0 h x ∧ hStp T most x s
theorem gof_lt (F : Nat → Bool) (w : Nat → Nat) : gof F w < 128 := bs_lt _ 7
theorem DF_DW {T : kT} (hT : LW T) (F : Nat → Bool) : DW (tP T) (DF T F) := by
  refine ⟨fun p q => ?_, fun p q h => ?_⟩
  · unfold DF; rw [fo_comm]; congr 1; cases F p <;> cases F q <;> rfl
  · by_cases e : p < tP T ∧ q < tP T ∧ p ≠ q
    · exact e
    · unfold DF at h; rw [fo_out hT e, Bool.false_and] at h; exact absurd h (by decide)
theorem Rh_lt {T : kT} {most s0 : Nat} (h0 : s0 < 128) : ∀ h s, Rh T most s0 h s → s < 128
  | 0, s, h => by rw [Rh] at h; omega
  | h + 1, s, hh => by
    rcases hh with hh | ⟨x, hx, w, hw, e⟩
    · exact Rh_lt h0 h s hh
    · rw [e]; exact gof_lt _ _
theorem Rh_mono {T : kT} {most s0 s : Nat} {a : Nat} : ∀ {d : Nat}, Rh T most s0 a s → Rh T most s0 (a + d) s
  | 0, h => h
  | d + 1, h => Or.inl (Rh_mono (d := d) h)
theorem Rh_le {T : kT} {most s0 s a b : Nat} (h : a ≤ b) (hr : Rh T most s0 a s) : Rh T most s0 b s := by
  have := Rh_mono (d := b - a) hr
  rw [show a + (b - a) = b by omega] at this
  exact this
/-- nothing new comes: never anything new -/
theorem Rh_stop {T : kT} {most s0 h : Nat} (hs : ∀ s, Rh T most s0 (h + 1) s → Rh T most s0 h s) : ∀ d s, Rh T most s0 (h + d) s → Rh T most s0 h s
  | 0, s, hr => hr
  | d + 1, s, hr => by
    rcases hr with hr | ⟨x, hx, hst⟩
    · exact Rh_stop hs d s hr
    · exact hs s (Or.inr ⟨x, Rh_stop hs d x hx, hst⟩)
/-- all are decided, for no more can go -/
theorem cp_full {D : Nat → Nat → Bool} {most p : Nat} {t w : Nat → Nat} (hI : Iv D t p) (hw : Cp D most t p w) (hp : p ≤ 7) (hm : cn t = 2 * most) {j : Nat} (hj : j < 7) : w j = t j := by
  by_cases e : t j = 7
  · by_cases e2 : w j = 7
    · rw [e, e2]
    · obtain ⟨u, hu1, hu2⟩ : ∃ u : Nat → Nat, u j = 0 ∧ ∀ i, i ≠ j → u i = t i := ⟨fun i => if i = j then 0 else t i, if_pos rfl, fun i h => if_neg h⟩
      have h1 := sm_one (f := c1 t) (g := c1 u) (p := j) (k := 7) hj (fun i hi hne => by unfold c1; rw [hu2 i hne])
      have h2 : sm (c1 u) 7 ≤ cn w := sm_le (fun i hi => by
        by_cases e3 : i = j
        · subst e3; unfold c1; rw [hu1, if_neg e2]; decide
        · unfold c1
          rw [hu2 i e3]
          by_cases e4 : t i = 7
          · rw [if_pos e4]; omega
          · rw [if_neg e4, cp_all hI hw hp hi e4, if_neg e4]; omega)
      have h3 : c1 t j = 0 := by unfold c1; rw [if_pos e]
      have h4 : c1 u j = 1 := by unfold c1; rw [hu1]; rfl
      have h5 : sm (c1 t) 7 = cn t := rfl
      have := hw.2.1
      omega
  · exact cp_all hI hw hp hj e
theorem gof_eq {F : Nat → Bool} {w w' : Nat → Nat} (h : ∀ j, j < 7 → w j = w' j) : gof F w = gof F w' := bs_cong (fun p hp => by rw [h p hp])
/-! the class: what row 96 holds in the hour h; B: as the hour began; A: what was reached in it -/
def BI (B : Nat → Int32) (h : Nat) (A : Nat → Prop) (M : kg_M) : Prop := (∀ s, s < 128 → (¬ B s = -1 → M 96 s = B s) ∧ (B s = -1 → A s → M 96 s = nI (h + 1)) ∧ (B s = -1 → ¬ A s → M 96 s = -1)) ∧ ((M 95 1 = 0 ∧ ∀ s, s < 128 → B s = -1 → ¬ A s) ∨ (M 95 1 = 1 ∧ ∃ s, s < 128 ∧ B s = -1 ∧ A s))
theorem BI_iff {B : Nat → Int32} {h : Nat} {A A' : Nat → Prop} {M : kg_M} (hb : BI B h A M) (hi : ∀ s, s < 128 → (A s ↔ A' s)) : BI B h A' M := by
  refine ⟨fun s hs => ⟨(hb.1 s hs).1, fun h1 h2 => (hb.1 s hs).2.1 h1 ((hi s hs).mpr h2), fun h1 h2 => (hb.1 s hs).2.2 h1 (fun h3 => h2 ((hi s hs).mp h3))⟩, ?_⟩
  rcases hb.2 with ⟨h1, h2⟩ | ⟨h1, s, h2, h3, h4⟩
  · exact Or.inl ⟨h1, fun s hs h3 h4 => h2 s hs h3 ((hi s hs).mpr h4)⟩
  · exact Or.inr ⟨h1, s, h2, h3, (hi s h2).mp h4⟩
def frX (M M' : kg_M) : Prop := ∀ k, k ≠ 95 → k ≠ 96 → M' k = M k
theorem frX_tr {M M1 M2 : kg_M} (h : frX M M1) (h2 : frX M1 M2) : frX M M2 := fun k a b => by rw [h2 k a b, h k a b]
section P21
variable {L : Nat} {T : kT} {most : Nat} {B : Nat → Int32} {h : Nat}
theorem c_reach {M : kg_M} {A : Nat → Prop} {K : kg_M → Prop} {f s : Nat} (hh : h < 100) (hf : f < 128) (hs : s < 128) (hB : B f = nI h) (hb : BI B h A M) (hK : ∀ M', frX M M' → BI B h (fun x => A x ∨ x = s) M' → K M') : wp_X1_reach (nI f) (nI s) M K := by
  unfold wp_X1_reach
  have hmf : M 96 f = nI h := by rw [(hb.1 f hf).1 (by rw [hB]; exact m1_ne_nI (by omega))]; exact hB
  rw [cl_nI (by omega), cl_nI (by omega), hmf, nI_1 h]
  refine ⟨fun h => absurd h (nI_pos (by omega)), fun _ => ⟨fun h => absurd h (nI_ge (a := s) (b := 128) hs (by decide)), fun _ => ⟨in_nI hs (by decide), fun h0 => hK M (fun _ _ _ => rfl) ?_, fun h0 => ⟨in_nI hf (by decide), in_nI hs (by decide), fun M17 e17 M20 e20 => hK M20 (fun k a b => by rw [e20, kg_row_ne _ _ a, e17, kg_row_ne _ _ b]) ?_⟩⟩⟩⟩
  · have hA : B s = -1 → A s := fun hB1 => by
      rcases Classical.em (A s) with h1 | h1
      · exact h1
      · exact absurd ((hb.1 s hs).2.2 hB1 h1) h0
    refine ⟨fun x hx => ⟨(hb.1 x hx).1, fun h1 h2 => ?_, fun h1 h2 => (hb.1 x hx).2.2 h1 (fun h3 => h2 (Or.inl h3))⟩, ?_⟩
    · refine (hb.1 x hx).2.1 h1 (h2.elim id (fun e => ?_))
      rw [e] at h1 ⊢; exact hA h1
    · rcases hb.2 with ⟨h1, h2⟩ | ⟨h1, x, h2, h3, h4⟩
      · refine Or.inl ⟨h1, fun x hx h3 h4 => h2 x hx h3 (h4.elim id (fun e => ?_))⟩
        rw [e] at h3 ⊢; exact hA h3
      · exact Or.inr ⟨h1, x, h2, h3, Or.inl h4⟩
  · have hBs : B s = -1 := by
      rcases Classical.em (B s = -1) with h1 | h1
      · exact h1
      · have := (hb.1 s hs).1 h1; rw [h0] at this; exact this.symm
    have q96 : M20 96 = upd (M 96) s (nI (h + 1)) := by rw [e20, kg_row_ne _ _ (by decide), e17, kg_row_eq]
    have q95 : M20 95 1 = 1 := by rw [e20, kg_row_eq, upd_eq]
    refine ⟨fun x hx => ?_, Or.inr ⟨q95, s, hs, hBs, Or.inr rfl⟩⟩
    rw [q96]
    by_cases e : x = s
    · subst e
      rw [upd_eq]
      exact ⟨fun h1 => absurd hBs h1, fun _ _ => rfl, fun _ h2 => absurd (Or.inr rfl) h2⟩
    · rw [upd_ne e]
      exact ⟨(hb.1 x hx).1, fun h1 h2 => (hb.1 x hx).2.1 h1 (h2.resolve_right e), fun h1 h2 => (hb.1 x hx).2.2 h1 (fun h3 => h2 (Or.inl h3))⟩
/-- what comes behind the trial t -/
def Sx (T : kT) (most : Nat) (F : Nat → Bool) (A : Nat → Prop) (C : (Nat → Nat) → Prop) (x : Nat) : Prop := A x ∨ ∃ w, C w ∧ x = gof F w
theorem c_cross (hLr : L = 109 ∨ L = 113) (hT : LW T) (h5 : most ≤ 5) (hh : h < 100) {F : Nat → Bool} (hB : B (bs F 7) = nI h) : ∀ (f p : Nat), tP T < p + f → p ≤ tP T → ∀ (t : Nat → Nat) (made : Nat) (A : Nat → Prop) (M : kg_M) (K : kg_M → Prop), RC M L T → BI B h A M → Iv (DF T F) t p → cn t = 2 * made → made ≤ most → (∀ M', frX M M' → BI B h (Sx T most F A (Cp (DF T F) most t p)) M' → K M') → wR_X1_cross f L (nI (bs F 7)) (nI (gof F t)) (nI p) (nI (most - made)) M K
  | 0, p, h1, h2 => absurd h1 (by omega)
  | f + 1, p, h1, h2 => by
    intro t made A M K hL hb hI hm hmm hK
    have h7 := hT.2.1
    have hD := DF_DW hT F
    have ih := c_cross hLr hT h5 hh hB f (p + 1) (by omega)
    have hct : Cp (DF T F) most t p t := ⟨hI.1, by omega, fun _ _ => rfl⟩
    have lf : (∀ w, Cp (DF T F) most t p w → ∀ j, j < 7 → w j = t j) → wp_X1_reach (nI (bs F 7)) (nI (gof F t)) M K := fun hw => c_reach hh (bs_lt F 7) (gof_lt F t) hB hb (fun M' hf' hb' => hK M' hf' (BI_iff hb' (fun s _ => ⟨fun h => h.imp id (fun e => ⟨t, hct, e⟩), fun h => h.imp id (fun ⟨w, hw', e⟩ => by rw [e]; exact gof_eq (hw w hw'))⟩)))
    show wE_X1_cross (wR_X1_cross f) L (nI (bs F 7)) (nI (gof F t)) (nI p) (nI (most - made)) M K
    unfold wE_X1_cross
    have e23 : nI (bs F 7) ^^^ nI (gof F t) = nI (bs (fun i => !(t i == 7)) 7) := by
      unfold gof
      rw [bs_xor]
      refine congrArg nI (bs_cong (fun i _ => ?_))
      cases F i <;> cases (t i == 7) <;> rfl
    rw [hL.2.1, e23]
    refine ⟨fun hp => ?_, fun hp => ⟨fun hl => ?_, fun hl => ?_⟩⟩
    · have hp' : tP T ≤ p := (nI_leI (by omega) (by omega)).mp hp
      exact lf (fun w hw j hj => cp_leaf hD hI hw hp' hj)
    · have hp' : p < tP T := by
        rcases Nat.lt_or_ge p (tP T) with q | q
        · exact q
        · exact absurd (nI_le q (by omega)) hp
      have hlt : made < most := by
        rcases Nat.lt_or_ge made most with q | q
        · exact q
        · rw [show most - made = 0 by omega] at hl; exact absurd hl (by decide)
      have ih' := ih (by omega)
      have loop : ∀ (o : Nat → Bool), (∀ q, o q = true → t p = 7 ∧ t q = 7 ∧ DF T F p q = true) → (∀ q, t p = 7 → t q = 7 → DF T F p q = true → q < 7 → o q = true) → ∃ g, wL_X1_cross_60 (wR_X1_cross f) L (fun (v2 : Int32) (v3 : Int32) (v4 : Int32) (v5 : Int32) (M : kg_M) => wR_X1_cross f L v2 v3 (v4 + (1 : Int32)) v5 M (fun (M26 : kg_M) => K M26)) K g (nI (bs F 7)) (nI (gof F t)) (nI p) (nI (most - made)) (nI (bs o 7)) (nI p + (1 : Int32)) M := by
        intro o ho ho2
        rw [nI_1 p]
        refine ⟨_, for_from (fun f2 (M' : kg_M) i => wL_X1_cross_60 (wR_X1_cross f) L (fun (v2 : Int32) (v3 : Int32) (v4 : Int32) (v5 : Int32) (M : kg_M) => wR_X1_cross f L v2 v3 (v4 + (1 : Int32)) v5 M (fun (M26 : kg_M) => K M26)) K f2 (nI (bs F 7)) (nI (gof F t)) (nI p) (nI (most - made)) (nI (bs o 7)) i M') (fun q M' => frX M M' ∧ BI B h (Sx T most F A (fun w => Cp (DF T F) most t p w ∧ p < w p ∧ w p < q)) M') (p + 1) (tP T) (by omega) M ⟨fun _ _ _ => rfl, BI_iff hb (fun s _ => ⟨Or.inl, fun h => h.elim id (fun ⟨w, hw, _⟩ => by omega)⟩)⟩ (fun f2 M' hi => ?_) (fun f2 q M' hq1 hq2 hi ihl => ?_)⟩
        · have hL' : RC M' L T := RC_of (hi.1 _ (by omega) (by omega)) (hi.1 _ (by omega) (by omega)) (hi.1 _ (by omega) (by omega)) (hi.1 _ (by omega) (by omega)) hL
          rw [wL_X1_cross_60, hL'.2.1]
          refine ⟨fun _ => ?_, fun h => absurd (nI_le (Nat.le_refl _) (by omega)) h⟩
          rw [nI_1 p]
          refine ih' t made _ M' _ hL' hi.2 (Iv_next hI) hm hmm (fun M2 hf2 hb2 => hK M2 (frX_tr hi.1 hf2) (BI_iff hb2 (fun s _ => ?_)))
          constructor
          · rintro ((ha | ⟨w, hw, e⟩) | ⟨w, hw, e⟩)
            · exact Or.inl ha
            · exact Or.inr ⟨w, hw.1, e⟩
            · exact Or.inr ⟨w, (cp_next.mp hw).1, e⟩
          · rintro (ha | ⟨w, hw, e⟩)
            · exact Or.inl (Or.inl ha)
            · by_cases e2 : w p = t p
              · exact Or.inr ⟨w, cp_next.mpr ⟨hw, e2⟩, e⟩
              · have hn := cp_new hD hI hw (by omega) e2
                exact Or.inl (Or.inr ⟨w, ⟨hw, hn.2.1, hn.2.2.1⟩, e⟩)
        · have hL' : RC M' L T := RC_of (hi.1 _ (by omega) (by omega)) (hi.1 _ (by omega) (by omega)) (hi.1 _ (by omega) (by omega)) (hi.1 _ (by omega) (by omega)) hL
          have hq7 : q < 7 := by omega
          rw [wL_X1_cross_60, hL'.2.1, bs_has (by omega) hq7, nI_1 q, nI_1 p]
          refine ⟨fun h => absurd h (nI_ge hq2 (by omega)), fun _ => ⟨fun h0 => ihl M' ⟨hi.1, BI_iff hi.2 (fun s _ => ?_)⟩, fun h0 => ?_⟩⟩
          · constructor
            · rintro (ha | ⟨w, hw, e⟩)
              · exact Or.inl ha
              · exact Or.inr ⟨w, ⟨hw.1, hw.2.1, by omega⟩, e⟩
            · rintro (ha | ⟨w, hw, e⟩)
              · exact Or.inl ha
              · refine Or.inr ⟨w, ⟨hw.1, hw.2.1, ?_⟩, e⟩
                rcases Nat.lt_or_ge (w p) q with z | z
                · exact z
                · exfalso
                  have ew : w p = q := by omega
                  have hne : w p ≠ t p := fun e3 => by
                    by_cases e4 : t p = 7
                    · omega
                    · have := (hI.2 p (Nat.le_refl _) (by omega)).resolve_left e4; omega
                  have hn := cp_new hD hI hw.1 (by omega) hne
                  rw [← ew, ho2 (w p) hn.1 hn.2.2.2.1 hn.2.2.2.2.1 (by omega)] at h0
                  exact absurd rfl h0
          · have hoq : o q = true := by
              cases e : o q with
              | true => rfl
              | false => rw [e] at h0; exact absurd h0 (by decide)
            obtain ⟨tp, tq, wpq⟩ := ho q hoq
            have hpq : p < q := by omega
            have hI2 := Iv_t2 hD hI hpq hq7 tp tq wpq
            have hc2 : cn (t2 t p q) = 2 * (made + 1) := by rw [cn_t2 hpq hq7 tp tq]; omega
            have eg : (nI (gof F t) ^^^ ((1 : Int32) <<< (nI p &&& 31))) ^^^ ((1 : Int32) <<< (nI q &&& 31)) = nI (gof F (t2 t p q)) := by
              unfold gof
              rw [shl_one (show p < 7 by omega) (by decide), shl_one hq7 (by decide), bs_xor, bs_xor]
              refine congrArg nI (bs_cong (fun i _ => ?_))
              by_cases a : i = p
              · subst a
                have hb1 : (i == q) = false := by simp; omega
                have hb2 : (t2 t i q i == 7) = false := by rw [t2_p]; simp; omega
                rw [tp, hb1, hb2]
                cases F i <;> simp
              · by_cases c : i = q
                · subst c
                  have hb1 : (i == p) = false := by simp; omega
                  have hb2 : (t2 t p i i == 7) = false := by rw [t2_q (by omega)]; simp; omega
                  rw [tq, hb1, hb2]
                  cases F i <;> simp
                · have hb1 : (i == p) = false := by simp; omega
                  have hb2 : (i == q) = false := by simp; omega
                  rw [t2_o a c, hb1, hb2, Bool.xor_false, Bool.xor_false]
            have el : nI (most - made) - (1 : Int32) = nI (most - (made + 1)) := by rw [show (1 : Int32) = nI 1 from rfl, pk_sub (by omega), show most - made - 1 = most - (made + 1) by omega]
            rw [eg, el]
            refine ih' (t2 t p q) (made + 1) _ M' _ hL' hi.2 hI2 hc2 (by omega) (fun M2 hf2 hb2 => ihl M2 ⟨frX_tr hi.1 hf2, BI_iff hb2 (fun s _ => ?_)⟩)
            constructor
            · rintro ((ha | ⟨w, hw, e⟩) | ⟨w, hw, e⟩)
              · exact Or.inl ha
              · exact Or.inr ⟨w, ⟨hw.1, hw.2.1, by omega⟩, e⟩
              · have := (cp_t2 hpq).mp hw
                exact Or.inr ⟨w, ⟨this.1, by omega, by omega⟩, e⟩
            · rintro (ha | ⟨w, hw, e⟩)
              · exact Or.inl (Or.inl ha)
              · by_cases e2 : w p = q
                · exact Or.inr ⟨w, (cp_t2 hpq).mpr ⟨hw.1, e2⟩, e⟩
                · exact Or.inl (Or.inr ⟨w, ⟨hw.1, hw.2.1, by omega⟩, e⟩)
      rw [bs_has (by decide) (show p < 7 by omega)]
      have z : nI (bs (fun _ => false) 7) = 0 := by rw [bs_zero]; rfl
      refine ⟨fun h0 => ?_, fun h0 => c_wouldMeet hL (by omega) ?_⟩
      · have htp : ¬ t p = 7 := fun e => h0 (by rw [e]; rfl)
        have := loop (fun _ => false) (fun q e => absurd e (by decide)) (fun q e1 => absurd e1 htp)
        rw [z] at this
        exact this
      · have htp : t p = 7 := by
          by_cases e : t p = 7
          · exact e
          · have : (t p == 7) = false := by simp [e]
            rw [this] at h0; exact absurd h0 (by decide)
        rw [bs_not (fun i => !(t i == 7)) _ (by decide)]
        refine loop (fun q => (fo T p q && (F p != F q)) && !(!(t q == 7))) (fun q e => ?_) (fun q e1 e2 e3 _ => ?_)
        · simp only [Bool.and_eq_true, Bool.not_not, beq_iff_eq] at e
          refine ⟨htp, e.2, ?_⟩
          unfold DF
          simp only [Bool.and_eq_true]
          exact e.1
        · unfold DF at e3
          rw [e3, e2]; rfl
    · have hle : made = most := by
        rcases Nat.lt_or_ge made most with q | q
        · refine absurd ?_ hl
          rw [show (0 : Int32) = nI 0 from rfl]
          exact (nI_ltI (by omega) (by omega)).mpr (by omega)
        · omega
      exact lf (fun w hw j hj => cp_full hI hw (by omega) (by omega) hj)
end P21
