/-! ===== the fewest hours, the class ===== -/
def Gs (vs vw : Int32) (s : Nat) : Prop := (nI s &&& vs) = (vw &&& vs)
theorem G_xor (x y z : Int32) : ((x ^^^ y) &&& z) = 0 ↔ (x &&& z) = (y &&& z) := by
  constructor
  · intro h
    refine b_ext (fun i _ => ?_)
    have := congrArg (fun v => bt v i) h
    simp only [b_and, b_xor, b_0] at this
    rw [b_and, b_and]
    revert this
    cases bt x i <;> cases bt y i <;> cases bt z i <;> simp
  · intro h
    refine b_ext (fun i _ => ?_)
    have := congrArg (fun v => bt v i) h
    simp only [b_and] at this
    rw [b_and, b_xor, b_0]
    revert this
    cases bt x i <;> cases bt y i <;> cases bt z i <;> simp
theorem least_cases (P : Nat → Prop) : ∀ n, (∀ j, j < n → ¬ P j) ∨ ∃ k, k < n ∧ P k ∧ ∀ j, j < k → ¬ P j
  | 0 => Or.inl (fun j hj => absurd hj (Nat.not_lt_zero _))
  | n + 1 => by
    rcases least_cases P n with h | ⟨k, h1, h2, h3⟩
    · rcases Classical.em (P n) with hp | hp
      · exact Or.inr ⟨n, by omega, hp, h⟩
      · exact Or.inl (fun j hj => by
          rcases Nat.lt_or_ge j n with q | q
          · exact h j q
          · rw [show j = n by omega]; exact hp)
    · exact Or.inr ⟨k, by omega, h2, h3⟩
/-- behind h hours somebody wanted is there -/
def Ph (T : kT) (most s0 : Nat) (vs vw : Int32) (h : Nat) : Prop := ∃ s, s < 128 ∧ Rh T most s0 h s ∧ Gs vs vw s
/-- row 96: behind how many hours -/
def DI (T : kT) (most s0 : Nat) (h : Nat) (M : kg_M) : Prop := (∀ s, s < 128 → (¬ Rh T most s0 h s → M 96 s = -1) ∧ (Rh T most s0 h s → ∃ d, d ≤ h ∧ M 96 s = nI d ∧ Rh T most s0 d s ∧ ∀ e, e < d → ¬ Rh T most s0 e s)) ∧ (M 95 1 = 1 ∨ (M 95 1 = 0 ∧ ∃ g, h = g + 1 ∧ ∀ s, Rh T most s0 (g + 1) s → Rh T most s0 g s))
section P22
variable {L : Nat} {T : kT} {most s0 : Nat} {vs vw : Int32}
theorem c_isThere {M : kg_M} {h : Nat} {K : Int32 → kg_M → Prop} (ht : ∀ s, s < 128 → M 96 s = nI h → Gs vs vw s → K 1 M) (hf : (∀ s, s < 128 → M 96 s = nI h → ¬ Gs vs vw s) → K 0 M) : wp_X1_isThere (nI h) vs vw M K := by
  refine ⟨_, find_loop (fun f i => wL_X1_isThere_3 _ _ K f (nI h) vs vw i M) (fun s => decide (M 96 s = nI h ∧ (nI s &&& vs) = (vw &&& vs))) 128 (fun hn f => ?_) (fun f k hk hc hb => ?_) (fun f k hk hc ih => ?_)⟩
  · rw [wL_X1_isThere_3]
    refine ⟨fun _ => hf (fun s hs h1 h2 => ?_), fun h => absurd (by decide) h⟩
    exact of_decide_eq_false (hn s hs) ⟨h1, h2⟩
  · have := of_decide_eq_true hc
    rw [wL_X1_isThere_3, cl_nI (by omega)]
    exact ⟨fun h => absurd h (nI_ge (a := k) (b := 128) hk (by decide)), fun _ => ⟨in_nI hk (by decide), fun h => absurd this.1 h, fun h1 => ⟨fun h => absurd ((G_xor _ _ _).mpr this.2) h, fun _ => ht k hk this.1 this.2⟩⟩⟩
  · have := of_decide_eq_false hc
    rw [wL_X1_isThere_3, cl_nI (by omega), nI_1 k]
    exact ⟨fun h => absurd h (nI_ge (a := k) (b := 128) hk (by decide)), fun _ => ⟨in_nI hk (by decide), fun _ => ih, fun h1 => ⟨fun _ => ih, fun h2 => absurd ⟨h1, (G_xor _ _ _).mp h2⟩ this⟩⟩⟩
theorem gof_none (F : Nat → Bool) : gof F (fun _ => 7) = bs F 7 := bs_cong (fun i _ => by cases F i <;> rfl)
theorem c_hourX {M : kg_M} {h : Nat} {K : Int32 → kg_M → Prop} {Kx : Int32 → Int32 → Int32 → Int32 → kg_M → Prop} (hLr : L = 109 ∨ L = 113) (hT : LW T) (h5 : most ≤ 5) (hh : h < 100) (hs0 : s0 < 128) (hL : RC M L T) (hD : DI T most s0 h M) (hK : ∀ M', frX M M' → DI T most s0 (h + 1) M' → Kx (nI most) vs vw (nI h) M') : ∀ M32 : kg_M, M32 = kg_row M 95 (upd (M 95) 1 (0 : Int32)) → ∃ g, wL_X1_fewestHours_74 L Kx K g (nI most) vs vw (nI h) 0 M32 := by
  intro M32 e32
  have f32 : frX M M32 := fun k a b => by rw [e32, kg_row_ne _ _ a]
  have r96 : M32 96 = M 96 := by rw [e32, kg_row_ne _ _ (by decide)]
  have z95 : M32 95 1 = 0 := by rw [e32, kg_row_eq, upd_eq]
  have hB0 : ∀ s, s < 128 → (M 96 s = -1 ↔ ¬ Rh T most s0 h s) := fun s hs => by
    constructor
    · intro e hr
      obtain ⟨d, h1, h2, -⟩ := (hD.1 s hs).2 hr
      rw [e] at h2; exact absurd h2.symm (m1_ne_nI (by omega))
    · exact (hD.1 s hs).1
  have hBh : ∀ s, s < 128 → M 96 s = nI h → Rh T most s0 h s := fun s hs e => by
    rcases Classical.em (Rh T most s0 h s) with q | q
    · exact q
    · rw [(hD.1 s hs).1 q] at e; exact absurd e.symm (m1_ne_nI (by omega))
  refine ⟨_, for_loop (fun f (M' : kg_M) i => wL_X1_fewestHours_74 L Kx K f (nI most) vs vw (nI h) i M') (fun k M' => frX M M' ∧ BI (M 96) h (fun x => ∃ y, y < k ∧ M 96 y = nI h ∧ hStp T most y x) M') 128 M32 ⟨f32, fun s hs => by rw [r96]; exact ⟨fun _ => rfl, fun _ ⟨y, hy, _⟩ => absurd hy (Nat.not_lt_zero _), fun h1 _ => h1⟩, Or.inl ⟨z95, fun s _ _ ⟨y, hy, _⟩ => absurd hy (Nat.not_lt_zero _)⟩⟩ (fun f M' hi => ?_) (fun f k M' hk hi ih => ?_)⟩
  · rw [wL_X1_fewestHours_74]
    refine ⟨fun _ => hK M' hi.1 ⟨fun s hs => ?_, ?_⟩, fun h => absurd (by decide) h⟩
    · obtain ⟨b1, b2, b3⟩ := hi.2.1 s hs
      rcases Classical.em (Rh T most s0 h s) with hr | hr
      · have e := b1 (fun e => (hB0 s hs).mp e hr)
        refine ⟨fun hn => absurd (Or.inl hr) hn, fun _ => ?_⟩
        obtain ⟨d, d1, d2, d3, d4⟩ := (hD.1 s hs).2 hr
        exact ⟨d, by omega, by rw [e]; exact d2, d3, d4⟩
      · have e := (hB0 s hs).mpr hr
        refine ⟨fun hn => b3 e (fun ⟨y, hy, hyh, hst⟩ => hn (Or.inr ⟨y, hBh y hy hyh, hst⟩)), fun hr1 => ?_⟩
        rcases hr1 with hr1 | ⟨x, hx, hst⟩
        · exact absurd hr1 hr
        · have hx128 := Rh_lt hs0 h x hx
          obtain ⟨d, d1, d2, d3, d4⟩ := (hD.1 x hx128).2 hx
          have hdh : d = h := by
            rcases Nat.lt_or_ge d h with q | q
            · exact absurd (Rh_le (a := d + 1) (b := h) (by omega) (Or.inr ⟨x, d3, hst⟩)) hr
            · omega
          subst hdh
          exact ⟨d + 1, Nat.le_refl _, b2 e ⟨x, hx128, d2, hst⟩, Or.inr ⟨x, hx, hst⟩, fun e' he' hre => hr (Rh_le (by omega) hre)⟩
    · rcases hi.2.2 with ⟨h1, h2⟩ | ⟨h1, -⟩
      · refine Or.inr ⟨h1, h, rfl, fun s hs => ?_⟩
        rcases Classical.em (Rh T most s0 h s) with hr | hr
        · exact hr
        · have hs128 := Rh_lt hs0 (h + 1) s hs
          rcases hs with hs | ⟨x, hx, hst⟩
          · exact hs
          · have hx128 := Rh_lt hs0 h x hx
            obtain ⟨d, d1, d2, d3, d4⟩ := (hD.1 x hx128).2 hx
            rcases Nat.lt_or_ge d h with q | q
            · exact Rh_le (a := d + 1) (b := h) (by omega) (Or.inr ⟨x, d3, hst⟩)
            · have e : d = h := by omega
              subst e
              exact absurd ⟨x, hx128, d2, hst⟩ (h2 s hs128 ((hB0 s hs128).mpr hr))
      · exact Or.inl h1
  · have hL' : RC M' L T := RC_of (hi.1 _ (by omega) (by omega)) (hi.1 _ (by omega) (by omega)) (hi.1 _ (by omega) (by omega)) (hi.1 _ (by omega) (by omega)) hL
    obtain ⟨b1, b2, b3⟩ := hi.2.1 k hk
    have hiff : M' 96 k = nI h ↔ M 96 k = nI h := by
      by_cases e : M 96 k = -1
      · constructor
        · intro e1
          rcases Classical.em (∃ y, y < k ∧ M 96 y = nI h ∧ hStp T most y k) with ha | ha
          · rw [b2 e ha] at e1
            have := nI_inj (by omega) (by omega) e1
            omega
          · rw [b3 e ha] at e1; exact absurd e1.symm (m1_ne_nI (by omega))
        · intro e1; rw [e] at e1; exact absurd e1.symm (m1_ne_nI (by omega))
      · rw [b1 e]
    rw [wL_X1_fewestHours_74, cl_nI (by omega), nI_1 k]
    refine ⟨fun h => absurd h (nI_ge (a := k) (b := 128) hk (by decide)), fun _ => ⟨in_nI hk (by decide), fun h0 => ih M' ⟨hi.1, BI_iff hi.2 (fun s _ => ?_)⟩, fun h0 => ?_⟩⟩
    · constructor
      · rintro ⟨y, hy, h1, h2⟩; exact ⟨y, by omega, h1, h2⟩
      · rintro ⟨y, hy, h1, h2⟩
        rcases Nat.lt_or_ge y k with q | q
        · exact ⟨y, q, h1, h2⟩
        · have e : y = k := by omega
          subst e; exact absurd (hiff.mpr h1) h0
    · have hkh := hiff.mp h0
      have ek : bs (fun i => k.testBit i) 7 = k := bs_of k 7 (by omega)
      have hI : Iv (DF T (fun i => k.testBit i)) (fun _ => 7) 0 := ⟨fun _ _ => Or.inl rfl, fun _ _ _ => Or.inl rfl⟩
      have := c_cross (B := M 96) (h := h) (most := most) (F := fun i => k.testBit i) hLr hT h5 hh (by rw [ek]; exact hkh) 10 0 (by have := hT.2.1; omega) (by omega) (fun _ => 7) 0 _ M' (fun (M44 : kg_M) => wL_X1_fewestHours_74 L Kx K f (nI most) vs vw (nI h) (nI (k + 1)) M44) hL' hi.2 hI rfl (by omega) (fun M2 hf2 hb2 => ih M2 ⟨frX_tr hi.1 hf2, BI_iff hb2 (fun s _ => ?_)⟩)
      · rw [gof_none, ek] at this
        exact this
      · constructor
        · rintro (⟨y, hy, h1, h2⟩ | ⟨w, hw, e⟩)
          · exact ⟨y, by omega, h1, h2⟩
          · exact ⟨k, by omega, hkh, w, hw, e⟩
        · rintro ⟨y, hy, h1, h2⟩
          rcases Nat.lt_or_ge y k with q | q
          · exact Or.inl ⟨y, q, h1, h2⟩
          · have e : y = k := by omega
            subst e
            obtain ⟨w, hw, e⟩ := h2
            exact Or.inr ⟨w, hw, e⟩
theorem c_fewest {M : kg_M} {r : Int32} {K : Int32 → kg_M → Prop} (hLr : L = 109 ∨ L = 113) (hT : LW T) (h5 : most ≤ 5) (hs0 : s0 < 128) (hL : RC M L T) (hr1 : ∀ h, h < 41 → Ph T most s0 vs vw h → (∀ j, j < h → ¬ Ph T most s0 vs vw j) → r = nI h) (hr2 : (∀ h, h < 41 → ¬ Ph T most s0 vs vw h) → r = -1) (hK : ∀ M', frX M M' → K r M') : wp_X1_fewestHours L (nI s0) (nI most) vs vw M K := by
  refine j_fill (n := 128) (by decide) (fun M2 r2 f2 => ⟨fun h => absurd h (nI_pos (by omega)), fun _ => ⟨fun _ => ⟨in_nI hs0 (by decide), fun M13 e13 M16 e16 => ?_⟩, fun h => absurd ((nI_ltI (b := 128) (by omega) (by decide)).mpr hs0) h⟩⟩)
  rw [cl_nI (by omega)] at e13
  have f16 : frX M M16 := fun k a b => by rw [e16, kg_row_ne _ _ a, e13, kg_row_ne _ _ b, r2 k b]
  have q96 : M16 96 = upd (M2 96) s0 0 := by rw [e16, kg_row_ne _ _ (by decide), e13, kg_row_eq]
  have q95 : M16 95 1 = 1 := by rw [e16, kg_row_eq, upd_eq]
  refine ⟨_, for_loop (fun f (M' : kg_M) i => wL_X1_fewestHours_36 L _ _ K f (nI most) vs vw i M') (fun h M' => frX M M' ∧ DI T most s0 h M' ∧ ∀ j, j < h → ¬ Ph T most s0 vs vw j) 41 M16 ⟨f16, ⟨fun s hs => ?_, Or.inl q95⟩, fun j hj => absurd hj (Nat.not_lt_zero _)⟩ (fun f M' hi => ?_) (fun f h M' hh hi ih => ?_)⟩
  · rw [q96]
    by_cases e : s = s0
    · subst e
      exact ⟨fun hn => absurd rfl hn, fun _ => ⟨0, Nat.le_refl _, by rw [upd_eq]; rfl, rfl, fun e' he' => absurd he' (Nat.not_lt_zero _)⟩⟩
    · exact ⟨fun _ => by rw [upd_ne e]; exact f2 s hs, fun hr => absurd hr e⟩
  · rw [wL_X1_fewestHours_36]
    refine ⟨fun _ => ?_, fun h => absurd (by decide) h⟩
    rw [← hr2 hi.2.2]
    exact hK M' hi.1
  · obtain ⟨hf, hD, hno⟩ := hi
    rw [wL_X1_fewestHours_36]
    refine ⟨fun h40 => absurd h40 ?_, fun _ => ⟨fun h0 => ?_, fun h0 => c_isThere (fun s hs e hG => ⟨fun h => absurd h (by decide), fun _ => ?_⟩) (fun hn => ⟨fun _ => ?_, fun h => absurd rfl h⟩)⟩⟩
    · intro h40
      have := (nI_ltI (a := 40) (b := h) (by decide) (by omega)).mp h40
      omega
    · rcases hD.2 with e | ⟨-, g, e, hst⟩
      · rw [e] at h0; exact absurd h0 (by decide)
      · rw [← hr2 (fun j hj hP => ?_)]
        · exact hK M' hf
        · rcases Nat.lt_or_ge j h with q | q
          · exact hno j q hP
          · obtain ⟨s, hs, hR, hG⟩ := hP
            have : Rh T most s0 g s := Rh_stop hst (j - g) s (by rw [show g + (j - g) = j by omega]; exact hR)
            exact hno g (by omega) ⟨s, hs, this, hG⟩
    · have hR : Rh T most s0 h s := by
        rcases Classical.em (Rh T most s0 h s) with q | q
        · exact q
        · rw [(hD.1 s hs).1 q] at e; exact absurd e.symm (m1_ne_nI (by omega))
      rw [← hr1 h hh ⟨s, hs, hR, hG⟩ hno]
      exact hK M' hf
    · have hL' : RC M' L T := RC_of (hf _ (by omega) (by omega)) (hf _ (by omega) (by omega)) (hf _ (by omega) (by omega)) (hf _ (by omega) (by omega)) hL
      refine c_hourX hLr hT h5 (by omega) hs0 hL' hD (fun M3 hf3 hD3 => ?_)
      rw [nI_1 h]
      refine ih M3 ⟨frX_tr hf hf3, hD3, fun j hj hP => ?_⟩
      rcases Nat.lt_or_ge j h with q | q
      · exact hno j q hP
      · have e : j = h := by omega
        subst e
        obtain ⟨s, hs, hR, hG⟩ := hP
        obtain ⟨d, d1, d2, d3, d4⟩ := (hD.1 s hs).2 hR
        rcases Nat.lt_or_ge d j with q2 | q2
        · exact hno d q2 ⟨s, hs, d3, hG⟩
        · rw [show d = j by omega] at d2
          exact hn s hs d2 hG
end P22
