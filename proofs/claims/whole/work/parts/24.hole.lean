section P9
variable {M : kg_M} {L S : Nat} {T : kT} {N : Nat → Int32}
theorem one_sub {x : Int32} (h : x = 0 ∨ x = 1) : ((1 : Int32) - x = 0 ∨ (1 : Int32) - x = 1) ∧ (((1 : Int32) - x == 1) = !(x == 1)) := by rcases h with rfl | rfl <;> decide
/-- N behind a hole -/
def nHole (N : Nat → Int32) (p : Nat) : Nat → Int32 := upd (upd N p ((1 : Int32) - N p)) 33 (N 33 + 1)
theorem nHole_ne {N : Nat → Int32} {p b : Nat} (h1 : b ≠ p) (h2 : b ≠ 33) : nHole N p b = N b := by unfold nHole; rw [upd_ne h2, upd_ne h1]
theorem SW_hole {p : Nat} (hp : p < tP T) (hT : LW T) (h : SW T N) : SW T (nHole N p) := by
  have h7 := hT.2.1
  have h5 := hT.1
  have e : ∀ b, b ≠ p → b ≠ 33 → nHole N p b = N b := fun b => nHole_ne
  obtain ⟨w1, w2, w3, w4, w5, w6, w7, c, w8, w9, w10⟩ := h
  refine ⟨fun q hq => ?_, fun q h1 h2 => by rw [e _ (by omega) (by omega)]; exact w2 q h1 h2, fun q hq => by rw [e _ (by omega) (by omega)]; exact w3 q hq, fun q h1 h2 => by rw [e _ (by omega) (by omega)]; exact w4 q h1 h2, fun q hq => by rw [e _ (by omega) (by omega)]; exact w5 q hq, fun q h1 h2 => by rw [e _ (by omega) (by omega)]; exact w6 q h1 h2, fun g hg => by rw [e _ (by omega) (by omega), e _ (by omega) (by omega)]; exact w7 g hg, c, w8, by rw [e _ (by omega) (by omega)]; exact w9, fun i hi => by rw [e _ (by omega) (by omega)]; exact w10 i hi⟩
  by_cases hqp : q = p
  · subst hqp
    unfold nHole
    rw [upd_ne (by omega), upd_eq]
    exact (one_sub (w1 q hq)).1
  · rw [e _ hqp (by omega)]; exact w1 q hq
theorem flip_sd {p : Nat} (hp : p < 7) (h : SW T N) : nI (bs (sd N) 7) ^^^ ((1 : Int32) <<< (nI p &&& 31)) = nI (bs (sd (nHole N p)) 7) := by
  rw [shl_one hp (by decide), bs_xor]
  congr 1
  apply bs_cong
  intro q hq
  unfold sd
  by_cases hqp : q = p
  · subst hqp
    unfold nHole
    rw [upd_ne (by omega), upd_eq, (one_sub (h.1 q hq)).2]
    simp
  · rw [nHole_ne hqp (by omega)]
    have h2 : (q == p) = false := beq_eq_false_iff_ne.mpr hqp
    rw [h2]
    cases (N q == 1) <;> rfl
theorem p_hole {σ : kS} (v : Int32) (hC : CI M L S σ) : Pair L S M σ (wp_X7_hole L v) (wp_X8_hole v) := by
  obtain ⟨T, N, ⟨U, pu⟩, ⟨im, is, kp⟩, sv, fl, ⟨tn, tx⟩, ⟨kn, kw, ki⟩, ⟨bn, bo, bi⟩⟩ := σ
  obtain ⟨⟨hT, hRC⟩, ⟨hSW, hRS⟩, hCU, hCM, hsv, hfl, hCX, hCN, hCB, hLS⟩ := id hC
  have h7 := hT.2.1
  have h5 := hT.1
  rcases ix_cases v (tP T) (by omega) with hv | ⟨p, hp, rfl⟩
  · exact ⟨-1000000001, _, c_hasPerson_f hRC hv ⟨fun h => absurd rfl h, fun _ => CK_s hC rfl⟩, fun M1 hM => m_isPerson_f hM.1 hT hv ⟨fun h => absurd rfl h, fun _ => MK_s hM rfl⟩⟩
  have ec : M 4 (nI p).toNatClampNeg = N (7 + p) := by rw [cl_nI (by omega)]; exact hRS.2.2.2.2.2.2.1 p (by omega)
  have e7 : ∀ M1, RN M1 N → M1 120 ((7 : Int32) + nI p).toNatClampNeg = N (7 + p) := fun M1 hN => by rw [show (7 : Int32) = nI 7 from rfl, cl_add (by omega)]; exact hN _ (by omega)
  have i7 : vp_in ((7 : Int32) + nI p) 55 := in_add (a := 7) (by omega) (by decide)
  have ip : vp_in (nI p) 55 := in_nI (by omega) (by decide)
  have i33 : vp_in (33 : Int32) 55 := lit_in 33 55 (by decide) (by decide)
  have hneg := wt_neg hT hSW (show p < 7 by omega)
  have hW' : SW T (nHole N p) := SW_hole hp hT hSW
  by_cases hw : N (7 + p) = -1
  · refine ⟨nHole N p p, (T, nHole N p, (nU U, npu U pu N), (im, is, kp), sv, fl, (tn, tx), (kn, kw, ki), (bn, bo, bi)), c_hasPerson_t hRC hT hp ⟨fun _ => ⟨in_nI (by omega) (by decide), fun _ => c_remember hCU hRS hSW (fun M' r hU M16 e16 M19 e19 => ?_), fun h => absurd (ec.trans hw) h⟩, fun h => absurd h (by decide)⟩, fun M1 hM => m_isPerson_t hM.1 hT hp ⟨fun _ => ⟨i7, fun _ => m_remember hCU.1 hM.2.2.2.1 hM.2.2.1 (fun M' r s hU => ⟨ip, ip, fun M20 e20 => ⟨i33, i33, fun M27 e27 => ⟨ip, ?_⟩⟩⟩), fun h => ?_⟩, fun h => absurd h (by decide)⟩⟩
    · have r19 : ∀ k, k ≠ 3 → M19 k = M' k := fun k hk => by rw [e19, kg_row_ne _ _ hk, e16, kg_row_ne _ _ hk]
      have r3 : M' 3 = M 3 := r 3 (by decide) (by omega)
      have q3 : M19 3 = upd (upd (M 3) 3 (nI (bs (sd (nHole N p)) 7))) 2 (N 33 + 1) := by
        rw [e19, kg_row_eq, e16, kg_row_eq, r3, hRS.2.2.2.1, flip_sd (by omega) hSW]
        congr 1
        show M 3 2 + 1 = _
        rw [hRS.2.2.1]
      have e : ∀ b, b ≠ p → b ≠ 33 → nHole N p b = N b := fun b => nHole_ne
      have hS' : RS M19 3 (nHole N p) := by
        obtain ⟨g0, g1, g2, g3, g4, g5, g6, g7, g8⟩ := hRS
        unfold RS
        rw [q3, r19 (3 + 1) (by decide), r19 (3 + 2) (by decide), r19 (3 + 3) (by decide), r (3 + 1) (by decide) (by omega), r (3 + 2) (by decide) (by omega), r (3 + 3) (by decide) (by omega), e 31 (by omega) (by omega), e 32 (by omega) (by omega), e 34 (by omega) (by omega)]
        refine ⟨g0, g1, ?_, rfl, ?_, g5, fun q hq => ?_, fun g hg => ?_, fun i c hc hn hi => ?_⟩
        · unfold nHole; rw [upd_eq]; rfl
        · show M 3 4 = _
          rw [g4]; congr 1; exact bs_cong (fun q hq => by unfold cd; rw [e (14 + q) (by omega) (by omega)])
        · rw [e _ (by omega) (by omega)]; exact g6 q hq
        · rw [e _ (by omega) (by omega)]; exact g7 g hg
        · rw [e _ (by omega) (by omega)]; exact g8 i c hc hn hi
      refine ⟨?_, CI_st hC (M' := M19) (sv' := sv) (fun k h1 h2 => by rw [r19 k (by omega), r k (by omega) (by omega)]) (by rw [r19 0 (by decide), r 0 (by decide) (by omega)]) ⟨hsv.1, by rw [r19 0 (by decide), r 0 (by decide) (by omega)]; exact hsv.2⟩ hS' hW' (CU_of hU (fun k h1 h2 => r19 k (by omega))), fun k hk => by rw [r19 k (by omega), r k (by omega) (by omega)]⟩
      rw [hS'.2.2.2.1, bs_has (by decide) (by omega)]
      exact (n01 (hW'.1 p (by omega))).symm
    · have r27 : ∀ k, k ≠ 120 → M27 k = M' k := fun k hk => by rw [e27, kg_row_ne _ _ hk, e20, kg_row_ne _ _ hk]
      have hNp : M' 120 p = N p := by rw [r 120 (by decide) (by decide)]; exact hM.2.2.1 p (by omega)
      have hN20 : RN M20 (upd N p ((1 : Int32) - N p)) := RN_upd hM.2.2.1 (by rw [e20, kg_row_eq, cl_nI (by omega), hNp, r 120 (by decide) (by decide)])
      have hN' : RN M27 (nHole N p) := by
        refine RN_upd hN20 ?_
        rw [e27, kg_row_eq, lit_cl 33 (by decide), hN20 33 (by decide), upd_ne (by omega)]
      exact ⟨by rw [cl_nI (by omega)]; exact hN' p (by omega), MI_st hM (M' := M27) (sv' := sv) (fun k h1 h2 h3 => by rw [r27 k h2, r k h1 h3]) (fun j hj _ => by rw [r27 117 (by decide), s j hj]) (by rw [r27 117 (by decide), s 5 (by decide)]; exact hM.2.2.2.2.2.1) hN' (MU_of hU (by rw [r27 117 (by decide)]) (r27 128 (by decide))), fun k hk => by rw [r27 k (by omega), r k (by omega) (by omega)]⟩
    · rw [e7 M1 hM.2.2.1, hw] at h
      exact absurd (by decide) h
  · refine ⟨-1000000003, (T, N, (U, pu), (im, is, kp), sv, fl, (tn, tx), (kn, kw, ki), (bn, bo, bi)), c_hasPerson_t hRC hT hp ⟨fun _ => ⟨in_nI (by omega) (by decide), fun h => absurd (ec.symm.trans h) hw, fun _ => CK_s hC rfl⟩, fun h => absurd h (by decide)⟩, fun M1 hM => m_isPerson_t hM.1 hT hp ⟨fun _ => ⟨i7, fun h => ?_, fun _ => MK_s hM rfl⟩, fun h => absurd h (by decide)⟩⟩
    rw [e7 M1 hM.2.2.1] at h
    exact absurd (hneg.mp h) hw
/-! oil -/
def nOil (N : Nat → Int32) (g : Nat) : Nat → Int32 := upd (upd N (26 + g) 0) (21 + g) 0
theorem nOil_ne {N : Nat → Int32} {g b : Nat} (h1 : b ≠ 26 + g) (h2 : b ≠ 21 + g) : nOil N g b = N b := by unfold nOil; rw [upd_ne h2, upd_ne h1]
theorem SW_oil {g : Nat} (hg : g < tG T) (hT : LW T) (h : SW T N) : SW T (nOil N g) := by
  have h7 := hT.2.1
  have h5 := hT.1
  have e : ∀ b, b ≠ 26 + g → b ≠ 21 + g → nOil N g b = N b := fun b => nOil_ne
  obtain ⟨w1, w2, w3, w4, w5, w6, w7, c, w8, w9, w10⟩ := h
  refine ⟨fun q hq => by rw [e _ (by omega) (by omega)]; exact w1 q hq, fun q h1 h2 => by rw [e _ (by omega) (by omega)]; exact w2 q h1 h2, fun q hq => by rw [e _ (by omega) (by omega)]; exact w3 q hq, fun q h1 h2 => by rw [e _ (by omega) (by omega)]; exact w4 q h1 h2, fun q hq => by rw [e _ (by omega) (by omega)]; exact w5 q hq, fun q h1 h2 => by rw [e _ (by omega) (by omega)]; exact w6 q h1 h2, fun x hx => ?_, c, w8, by rw [e _ (by omega) (by omega)]; exact w9, fun i hi => by rw [e _ (by omega) (by omega)]; exact w10 i hi⟩
  by_cases hxg : x = g
  · subst hxg
    refine ⟨0, by omega, ?_, ?_⟩
    · unfold nOil; rw [upd_eq]; rfl
    · unfold nOil
      have := (hT.2.2.1 x hg).1
      rw [upd_ne (by omega), upd_eq, if_neg (by omega)]
  · rw [e _ (by omega) (by omega), e _ (by omega) (by omega)]; exact w7 x hx
theorem p_oil {σ : kS} (v : Int32) (hC : CI M L S σ) : Pair L S M σ (wp_X7_oil L v) (wp_X8_oil v) := by
  obtain ⟨T, N, ⟨U, pu⟩, ⟨im, is, kp⟩, sv, fl, ⟨tn, tx⟩, ⟨kn, kw, ki⟩, ⟨bn, bo, bi⟩⟩ := σ
  obtain ⟨⟨hT, hRC⟩, ⟨hSW, hRS⟩, hCU, hCM, hsv, hfl, hCX, hCN, hCB, hLS⟩ := id hC
  have h7 := hT.2.1
  have h5 := hT.1
  rcases ix_cases v (tG T) (by omega) with hv | ⟨g, hg, rfl⟩
  · exact ⟨-1000000001, _, c_hasGate_f hRC hv ⟨fun h => absurd rfl h, fun _ => CK_s hC rfl⟩, fun M1 hM => m_isGate_f hM.1 hT hv ⟨fun h => absurd rfl h, fun _ => MK_s hM rfl⟩⟩
  have i26 : vp_in ((26 : Int32) + nI g) 55 := in_add (a := 26) (by omega) (by decide)
  have i21 : vp_in ((21 : Int32) + nI g) 55 := in_add (a := 21) (by omega) (by decide)
  have e26 : ((26 : Int32) + nI g).toNatClampNeg = 26 + g := by rw [show (26 : Int32) = nI 26 from rfl, cl_add (by omega)]
  have e21 : ((21 : Int32) + nI g).toNatClampNeg = 21 + g := by rw [show (21 : Int32) = nI 21 from rfl, cl_add (by omega)]
  have hW' : SW T (nOil N g) := SW_oil hg hT hSW
  have cj : ∀ s0 : Int32, s0 = N (26 + g) → wJ_X7_oil_34 L (CK L S M (N (26 + g)) (T, nOil N g, (nU U, npu U pu N), (im, is, kp), sv, fl, (tn, tx), (kn, kw, ki), (bn, bo, bi))) (nI g) s0 M := by
    intro s0 hs0
    refine c_remember hCU hRS hSW (fun M' r hU => ⟨in_nI (by omega) (by decide), fun M20 e20 => ?_⟩)
    have r20 : ∀ k, k ≠ 5 → M20 k = M' k := fun k hk => by rw [e20, kg_row_ne _ _ hk]
    have q5 : M20 5 = upd (M 5) g 0 := by rw [e20, kg_row_eq, cl_nI (by omega), r 5 (by decide) (by omega)]
    have e : ∀ b, b ≠ 26 + g → b ≠ 21 + g → nOil N g b = N b := fun b => nOil_ne
    have hS' : RS M20 3 (nOil N g) := by
      obtain ⟨g0, g1, g2, g3, g4, g5, g6, g7, g8⟩ := hRS
      unfold RS
      rw [r20 3 (by decide), r20 (3 + 1) (by decide), show (3 + 2) = 5 from rfl, q5, r20 (3 + 3) (by decide), r 3 (by decide) (by omega), r (3 + 1) (by decide) (by omega), r (3 + 3) (by decide) (by omega), e 31 (by omega) (by omega), e 32 (by omega) (by omega), e 33 (by omega) (by omega), e 34 (by omega) (by omega)]
      refine ⟨g0, g1, g2, ?_, ?_, g5, fun q hq => ?_, fun x hx => ?_, fun i c hc hn hi => ?_⟩
      · rw [g3]; congr 1; exact bs_cong (fun q hq => by unfold sd; rw [e q (by omega) (by omega)])
      · rw [g4]; congr 1; exact bs_cong (fun q hq => by unfold cd; rw [e (14 + q) (by omega) (by omega)])
      · rw [e _ (by omega) (by omega)]; exact g6 q hq
      · by_cases hxg : x = g
        · subst hxg; unfold nOil; rw [upd_eq, upd_eq]
        · rw [upd_ne hxg, e _ (by omega) (by omega)]; exact g7 x hx
      · rw [e _ (by omega) (by omega)]; exact g8 i c hc hn hi
    exact ⟨hs0, CI_st hC (M' := M20) (sv' := sv) (fun k h1 h2 => by rw [r20 k (by omega), r k (by omega) (by omega)]) (by rw [r20 0 (by decide), r 0 (by decide) (by omega)]) ⟨hsv.1, by rw [r20 0 (by decide), r 0 (by decide) (by omega)]; exact hsv.2⟩ hS' hW' (CU_of hU (fun k h1 h2 => r20 k (by omega))), fun k hk => by rw [r20 k (by omega), r k (by omega) (by omega)]⟩
  refine ⟨N (26 + g), (T, nOil N g, (nU U, npu U pu N), (im, is, kp), sv, fl, (tn, tx), (kn, kw, ki), (bn, bo, bi)), c_hasGate_t hRC hT hg ⟨fun _ => c_isRusted hRC hT hRS hSW hg ⟨fun h => cj 0 h.symm, fun h => cj 1 ((rust_01 hSW hg).resolve_left h).symm⟩, fun h => absurd h (by decide)⟩, fun M1 hM => m_isGate_t hM.1 hT hg ⟨fun _ => m_remember hCU.1 hM.2.2.2.1 hM.2.2.1 (fun M' r s hU => ⟨i26, i26, fun M15 e15 => ⟨i21, fun M20 e20 => ?_⟩⟩), fun h => absurd h (by decide)⟩⟩
  have r20 : ∀ k, k ≠ 120 → M20 k = M' k := fun k hk => by rw [e20, kg_row_ne _ _ hk, e15, kg_row_ne _ _ hk]
  have hN15 : RN M15 (upd N (26 + g) 0) := RN_upd hM.2.2.1 (by rw [e15, kg_row_eq, e26, r 120 (by decide) (by decide)])
  have hN' : RN M20 (nOil N g) := RN_upd hN15 (by rw [e20, kg_row_eq, e21])
  exact ⟨by rw [e26, r 120 (by decide) (by decide)]; exact hM.2.2.1 _ (by omega), MI_st hM (M' := M20) (sv' := sv) (fun k h1 h2 h3 => by rw [r20 k h2, r k h1 h3]) (fun j hj _ => by rw [r20 117 (by decide), s j hj]) (by rw [r20 117 (by decide), s 5 (by decide)]; exact hM.2.2.2.2.2.1) hN' (MU_of hU (by rw [r20 117 (by decide)]) (r20 128 (by decide))), fun k hk => by rw [r20 k (by omega), r k (by omega) (by omega)]⟩
/-! well -/
theorem SW_well {p : Nat} (hp : p < tP T) (hT : LW T) (h : SW T N) : SW T (upd N (14 + p) 0) := by
  have h7 := hT.2.1
  have h5 := hT.1
  have e : ∀ b, b ≠ 14 + p → upd N (14 + p) 0 b = N b := fun b hb => upd_ne hb
  obtain ⟨w1, w2, w3, w4, w5, w6, w7, c, w8, w9, w10⟩ := h
  refine ⟨fun q hq => by rw [e _ (by omega)]; exact w1 q hq, fun q h1 h2 => by rw [e _ (by omega)]; exact w2 q h1 h2, fun q hq => by rw [e _ (by omega)]; exact w3 q hq, fun q h1 h2 => by rw [e _ (by omega)]; exact w4 q h1 h2, fun q hq => ?_, fun q h1 h2 => by rw [e _ (by omega)]; exact w6 q h1 h2, fun x hx => by rw [e _ (by omega), e _ (by omega)]; exact w7 x hx, c, w8, by rw [e _ (by omega)]; exact w9, fun i hi => by rw [e _ (by omega)]; exact w10 i hi⟩
  by_cases hqp : q = p
  · subst hqp; rw [upd_eq]; exact Or.inl rfl
  · rw [e _ (by omega)]; exact w5 q hq
theorem p_well {σ : kS} (v : Int32) (hC : CI M L S σ) : Pair L S M σ (wp_X7_well L v) (wp_X8_well v) := by
  obtain ⟨T, N, ⟨U, pu⟩, ⟨im, is, kp⟩, sv, fl, ⟨tn, tx⟩, ⟨kn, kw, ki⟩, ⟨bn, bo, bi⟩⟩ := σ
  obtain ⟨⟨hT, hRC⟩, ⟨hSW, hRS⟩, hCU, hCM, hsv, hfl, hCX, hCN, hCB, hLS⟩ := id hC
  have h7 := hT.2.1
  have h5 := hT.1
  rcases ix_cases v (tP T) (by omega) with hv | ⟨p, hp, rfl⟩
  · exact ⟨-1000000001, _, c_hasPerson_f hRC hv ⟨fun h => absurd rfl h, fun _ => CK_s hC rfl⟩, fun M1 hM => m_isPerson_f hM.1 hT hv ⟨fun h => absurd rfl h, fun _ => MK_s hM rfl⟩⟩
  have i14 : vp_in ((14 : Int32) + nI p) 55 := in_add (a := 14) (by omega) (by decide)
  have e14 : ((14 : Int32) + nI p).toNatClampNeg = 14 + p := by rw [show (14 : Int32) = nI 14 from rfl, cl_add (by omega)]
  have hW' : SW T (upd N (14 + p) 0) := SW_well hp hT hSW
  have e : ∀ b, b ≠ 14 + p → upd N (14 + p) 0 b = N b := fun b hb => upd_ne hb
  refine ⟨N (14 + p), (T, upd N (14 + p) 0, (nU U, npu U pu N), (im, is, kp), sv, fl, (tn, tx), (kn, kw, ki), (bn, bo, bi)), c_hasPerson_t hRC hT hp ⟨fun _ => c_remember hCU hRS hSW (fun M' r hU M11 e11 => ?_), fun h => absurd h (by decide)⟩, fun M1 hM => m_isPerson_t hM.1 hT hp ⟨fun _ => m_remember hCU.1 hM.2.2.2.1 hM.2.2.1 (fun M' r s hU => ⟨i14, i14, fun M15 e15 => ?_⟩), fun h => absurd h (by decide)⟩⟩
  · have r11 : ∀ k, k ≠ 3 → M11 k = M' k := fun k hk => by rw [e11, kg_row_ne _ _ hk]
    have q3 : M11 3 = upd (M 3) 4 (nI (bs (cd (upd N (14 + p) 0)) 7)) := by
      rw [e11, kg_row_eq, r 3 (by decide) (by omega), hRS.2.2.2.2.1, shl_one (show p < 7 by omega) (by decide), bs_not (fun i => i == p) (cd N) (by decide)]
      congr 2
      apply bs_cong
      intro q hq
      unfold cd
      by_cases hqp : q = p
      · subst hqp; rw [upd_eq]; simp
      · rw [e _ (by omega)]; simp [hqp]
    have hS' : RS M11 3 (upd N (14 + p) 0) := by
      obtain ⟨g0, g1, g2, g3, g4, g5, g6, g7, g8⟩ := hRS
      unfold RS
      rw [q3, r11 (3 + 1) (by decide), r11 (3 + 2) (by decide), r11 (3 + 3) (by decide), r (3 + 1) (by decide) (by omega), r (3 + 2) (by decide) (by omega), r (3 + 3) (by decide) (by omega), e 31 (by omega), e 32 (by omega), e 33 (by omega), e 34 (by omega)]
      refine ⟨g0, g1, g2, ?_, rfl, g5, fun q hq => ?_, fun g hg => ?_, fun i c hc hn hi => ?_⟩
      · show M 3 3 = _
        rw [g3]; congr 1; exact bs_cong (fun q hq => by unfold sd; rw [e q (by omega)])
      · rw [e _ (by omega)]; exact g6 q hq
      · rw [e _ (by omega)]; exact g7 g hg
      · rw [e _ (by omega)]; exact g8 i c hc hn hi
    refine ⟨?_, CI_st hC (M' := M11) (sv' := sv) (fun k h1 h2 => by rw [r11 k (by omega), r k (by omega) (by omega)]) (by rw [r11 0 (by decide), r 0 (by decide) (by omega)]) ⟨hsv.1, by rw [r11 0 (by decide), r 0 (by decide) (by omega)]; exact hsv.2⟩ hS' hW' (CU_of hU (fun k h1 h2 => r11 k (by omega))), fun k hk => by rw [r11 k (by omega), r k (by omega) (by omega)]⟩
    rw [hRS.2.2.2.2.1, bs_has (by decide) (by omega)]
    exact (n01 (hSW.2.2.2.2.1 p (by omega))).symm
  · have r15 : ∀ k, k ≠ 120 → M15 k = M' k := fun k hk => by rw [e15, kg_row_ne _ _ hk]
    have hN' : RN M15 (upd N (14 + p) 0) := RN_upd hM.2.2.1 (by rw [e15, kg_row_eq, e14, r 120 (by decide) (by decide)])
    exact ⟨by rw [e14, r 120 (by decide) (by decide)]; exact hM.2.2.1 _ (by omega), MI_st hM (M' := M15) (sv' := sv) (fun k h1 h2 h3 => by rw [r15 k h2, r k h1 h3]) (fun j hj _ => by rw [r15 117 (by decide), s j hj]) (by rw [r15 117 (by decide), s 5 (by decide)]; exact hM.2.2.2.2.2.1) hN' (MU_of hU (by rw [r15 117 (by decide)]) (r15 128 (by decide))), fun k hk => by rw [r15 k (by omega), r k (by omega) (by omega)]⟩
/-! undo -/
theorem p_undo {σ : kS} (hC : CI M L S σ) : Pair L S M σ (wp_X7_undo L) wp_X8_undo := by
  obtain ⟨T, N, ⟨U, pu⟩, ⟨im, is, kp⟩, sv, fl, ⟨tn, tx⟩, ⟨kn, kw, ki⟩, ⟨bn, bo, bi⟩⟩ := σ
  obtain ⟨⟨hT, hRC⟩, ⟨hSW, hRS⟩, hCU, hCM, hsv, hfl, hCX, hCN, hCB, hLS⟩ := id hC
  have h7 := hT.2.1
  have h5 := hT.1
  obtain ⟨h20, hu, nx, hnx, e1, hr⟩ := id hCU
  rcases Nat.eq_zero_or_pos U with h0 | h0
  · subst h0
    exact ⟨-1000000003, _, ⟨fun h => absurd hu h, fun _ => CK_s hC rfl⟩, fun M1 hM => ⟨fun h => absurd hM.2.2.2.1.1 h, fun _ => MK_s hM rfl⟩⟩
  have hWu := (hr (U - 1) (by omega)).2
  refine ⟨nI (U - 1), (T, pu (U - 1), (U - 1, pu), (im, is, kp), sv, fl, (tn, tx), (kn, kw, ki), (bn, bo, bi)), ⟨fun _ => ?_, fun h => ?_⟩, fun M1 hM => ⟨fun _ M5 e5 => ?_, fun h => ?_⟩⟩
  · have fin : ∀ nx', nx' < 20 → nx' = (nx + 19) % 20 → wJ_X4_restore_26 3 (fun (M5 : kg_M) => CK L S M (nI (U - 1)) (T, pu (U - 1), (U - 1, pu), (im, is, kp), sv, fl, (tn, tx), (kn, kw, ki), (bn, bo, bi)) (M5 7 2) M5) (nI nx') M := by
      intro nx' hn1 hn2 M9 e9 M12 e12
      have r12 : ∀ k, k ≠ 7 → M12 k = M k := fun k hk => by rw [e12, kg_row_ne _ _ hk, e9, kg_row_ne _ _ hk]
      have q7 : M12 7 = upd (upd (M 7) 1 (nI nx')) 2 (nI (U - 1)) := by
        have g2 : M9 7 2 = nI U := by rw [e9, kg_row_eq]; exact hu
        rw [e12, kg_row_eq, g2, e9, kg_row_eq, show (1 : Int32) = nI 1 from rfl, pk_sub (by omega)]
      have q71 : M12 7 1 = nI nx' := by rw [q7]; rfl
      rw [q71, cl_nI (by omega)]
      refine ⟨in_nI hn1 (by decide), c_copyFrom (by omega) (fun M17 r17 c17 => ?_)⟩
      have er : 9 + 4 * nx' = ring nx U (U - 1) := by unfold ring; omega
      have hS' : RS M17 3 (pu (U - 1)) := by
        refine c17 _ ?_
        rw [er]
        have hl := @ring_lt nx U (U - 1)
        exact RS_of (r12 _ (by omega)) (r12 _ (by omega)) (r12 _ (by omega)) (r12 _ (by omega)) (hr (U - 1) (by omega)).1
      have e7 : M17 7 = M12 7 := r17 7 (by omega)
      refine ⟨by rw [e7, q7]; rfl, CI_st hC (M' := M17) (sv' := sv) (fun k h1 h2 => by rw [r17 k (by omega), r12 k (by omega)]) (by rw [r17 0 (by omega), r12 0 (by decide)]) ⟨hsv.1, by rw [r17 0 (by omega), r12 0 (by decide)]; exact hsv.2⟩ hS' hWu ⟨by omega, by rw [e7, q7]; rfl, nx', hn1, by rw [e7, q7]; rfl, fun u hu' => ?_⟩, fun k hk => by rw [r17 k (by omega), r12 k (by omega)]⟩
      have e : ring nx' (U - 1) u = ring nx U u := by unfold ring; omega
      have hl := @ring_lt nx U u
      rw [e]
      refine ⟨RS_of ?_ ?_ ?_ ?_ (hr u (by omega)).1, (hr u (by omega)).2⟩
      all_goals (rw [r17 _ (by omega), r12 _ (by omega)])
    unfold wp_X4_restore
    rw [hu, e1]
    refine ⟨fun h => absurd h (nI_nle h0 (by omega)), fun _ => ⟨fun h => fin 19 (by omega) ?_, fun h => ?_⟩⟩
    · rcases Nat.eq_zero_or_pos nx with q | q
      · omega
      · exact absurd h (nI_nle q (by omega))
    · have hn0 : 0 < nx := by
        rcases Nat.eq_zero_or_pos nx with q | q
        · rw [q] at h; exact absurd (by decide) h
        · exact q
      rw [show (1 : Int32) = nI 1 from rfl, pk_sub (by omega)]
      exact fin (nx - 1) (by omega) (by omega)
  · rw [hu] at h
    exact absurd (nI_inj (b := 0) (by omega) (by decide) h) (by omega)
  · have hmu := hM.2.2.2.1
    have q5 : M5 117 = upd (M1 117) 20 (nI (U - 1)) := by rw [e5, kg_row_eq, hmu.1, show (1 : Int32) = nI 1 from rfl, pk_sub (by omega)]
    have r5 : ∀ k, k ≠ 117 → M5 k = M1 k := fun k hk => by rw [e5, kg_row_ne _ _ hk]
    refine ⟨_, for_loop (fun f (M' : kg_M) i => wL_X8_undo_22 _ _ f i M') (fun k M' => (∀ x, x ≠ 120 → M' x = M5 x) ∧ ∀ j, j < k → M' 120 j = pu (U - 1) j) 55 M5 ⟨fun _ _ => rfl, fun j hj => absurd hj (by omega)⟩ (fun f M' h => ?_) (fun f k M' hk h ih => ?_)⟩
    · rw [wL_X8_undo_22]
      refine ⟨fun _ => ⟨by rw [h.1 117 (by decide), q5]; rfl, MI_st hM (M' := M') (sv' := sv) (fun k h1 h2 h3 => by rw [h.1 k h2, r5 k h1]) (fun j hj _ => by rw [h.1 117 (by decide), q5, upd_ne hj]) (by rw [h.1 117 (by decide), q5, upd_ne (by decide)]; exact hM.2.2.2.2.2.1) (fun k hk => h.2 k hk) ⟨by rw [h.1 117 (by decide), q5]; rfl, fun u hu' k hk => by rw [h.1 128 (by decide), r5 128 (by decide)]; exact hmu.2 u (by omega) k hk⟩, fun k hk => by rw [h.1 k (by omega), r5 k (by omega)]⟩, fun h => absurd (nI_le (a := 55) (b := 55) (Nat.le_refl _) (by decide)) h⟩
    · have e20 : M' 117 20 = nI (U - 1) := by rw [h.1 117 (by decide), q5]; rfl
      have ei : (55 : Int32) * nI (U - 1) + nI k = nI (55 * (U - 1) + k) := by rw [show (55 : Int32) = nI 55 from rfl, pk_mul, nI_add]
      rw [wL_X8_undo_22, e20, ei, cl_nI (by omega), cl_nI (by omega), nI_1]
      refine ⟨fun h => absurd h (nI_ge (b := 55) hk (by decide)), fun _ => ⟨in_nI (by omega) (by decide), in_nI (by omega) (by decide), fun M16 e16 => ih M16 ⟨fun x hx => by rw [e16, kg_row_ne _ _ hx, h.1 x hx], fun j hj => ?_⟩⟩⟩
      rw [e16, kg_row_eq, h.1 128 (by decide), r5 128 (by decide), hmu.2 (U - 1) (by omega) k hk]
      by_cases hjk : j = k
      · subst hjk; rw [upd_eq]
      · rw [upd_ne hjk]; exact h.2 j (by omega)
  · rw [hM.2.2.2.1.1] at h
    exact absurd (nI_inj (b := 0) (by omega) (by decide) h) (by omega)
end P9
