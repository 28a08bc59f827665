section P8
variable {M : kg_M} {L S : Nat} {T : kT} {N : Nat → Int32}
theorem upd_ne {f : Nat → Int32} {a b : Nat} {v : Int32} (h : b ≠ a) : upd f a v b = f b := by simp [upd, h]
theorem upd_eq {f : Nat → Int32} {a : Nat} {v : Int32} : upd f a v a = v := by simp [upd]
/-- a wait is changed -/
theorem RS_wait {M' : kg_M} {p : Nat} {v : Int32} (hp : p < 7) (h : RS M 3 N) (h3 : M' 3 = M 3) (h4 : M' 4 = upd (M 4) p v) (h5 : M' 5 = M 5) (h6 : M' 6 = M 6) : RS M' 3 (upd N (7 + p) v) := by
  obtain ⟨g0, g1, g2, g3, g4, g5, g6, g7, g8⟩ := h
  have e : ∀ b, b ≠ 7 + p → upd N (7 + p) v b = N b := fun b hb => upd_ne hb
  unfold RS
  rw [h3, show (3 + 1) = 4 from rfl, show (3 + 2) = 5 from rfl, show (3 + 3) = 6 from rfl, h4, h5, h6, e 31 (by omega), e 32 (by omega), e 33 (by omega), e 34 (by omega)]
  refine ⟨g0, g1, g2, ?_, ?_, g5, fun q hq => ?_, fun g hg => ?_, fun i c hc hn hi => ?_⟩
  · rw [g3]; congr 1; exact bs_cong (fun q hq => by unfold sd; rw [e q (by omega)])
  · rw [g4]; congr 1; exact bs_cong (fun q hq => by unfold cd; rw [e (14 + q) (by omega)])
  · by_cases hqp : q = p
    · subst hqp; rw [upd_eq, upd_eq]
    · rw [upd_ne hqp, e _ (by omega)]; exact g6 q hq
  · rw [e _ (by omega)]; exact g7 g hg
  · rw [e _ (by omega)]; exact g8 i c hc hn hi
theorem SW_wait {p : Nat} {v : Int32} (hp : p < tP T) (hT : LW T) (h : SW T N) (hv : v = -1 ∨ ∃ g, g < tG T ∧ v = nI g) : SW T (upd N (7 + p) v) := by
  have h7 := hT.2.1
  have h5 := hT.1
  have e : ∀ b, b ≠ 7 + p → upd N (7 + p) v b = N b := fun b hb => upd_ne hb
  obtain ⟨w1, w2, w3, w4, w5, w6, w7, c, w8, w9, w10⟩ := h
  refine ⟨fun q hq => by rw [e _ (by omega)]; exact w1 q hq, fun q h1 h2 => by rw [e _ (by omega)]; exact w2 q h1 h2, fun q hq => ?_, fun q h1 h2 => by rw [e _ (by omega)]; exact w4 q h1 h2, fun q hq => by rw [e _ (by omega)]; exact w5 q hq, fun q h1 h2 => by rw [e _ (by omega)]; exact w6 q h1 h2, fun g hg => by rw [e _ (by omega), e _ (by omega)]; exact w7 g hg, c, w8, by rw [e _ (by omega)]; exact w9, fun i hi => by rw [e _ (by omega)]; exact w10 i hi⟩
  by_cases hqp : q = p
  · subst hqp; rw [upd_eq]; exact hv
  · rw [e _ (by omega)]; exact w3 q hq
theorem RN_upd {M M' : kg_M} {N : Nat → Int32} {a : Nat} {v : Int32} (h : RN M N) (h2 : M' 120 = upd (M 120) a v) : RN M' (upd N a v) := by
  intro k hk
  rw [h2]
  by_cases hka : k = a
  · subst hka; rw [upd_eq, upd_eq]
  · rw [upd_ne hka, upd_ne hka]; exact h k hk
theorem p_come {σ : kS} (v w : Int32) (hC : CI M L S σ) : Pair L S M σ (wp_X7_come L v w) (wp_X8_come v w) := by
  obtain ⟨T, N, ⟨U, pu⟩, ⟨im, is, kp⟩, sv, fl, ⟨tn, tx⟩, ⟨kn, kw, ki⟩, ⟨bn, bo, bi⟩⟩ := σ
  obtain ⟨⟨hT, hRC⟩, ⟨hSW, hRS⟩, hCU, hCM, hsv, hfl, hCX, hCN, hCB, hLS⟩ := id hC
  have h7 := hT.2.1
  have h5 := hT.1
  rcases ix_cases v (tP T) (by omega) with hv | ⟨p, hp, rfl⟩
  · exact ⟨-1000000001, _, c_hasPerson_f hRC hv ⟨fun _ => CK_s hC rfl, fun h => absurd rfl h⟩, fun M1 hM => m_isPerson_f hM.1 hT hv ⟨fun _ => MK_s hM rfl, fun h => absurd rfl h⟩⟩
  rcases ix_cases w (tG T) (by omega) with hw | ⟨g, hg, rfl⟩
  · exact ⟨-1000000001, _, c_hasPerson_t hRC hT hp ⟨fun h => absurd h (by decide), fun _ => c_hasGate_f hRC hw ⟨fun h => absurd rfl h, fun _ => CK_s hC rfl⟩⟩, fun M1 hM => m_isPerson_t hM.1 hT hp ⟨fun h => absurd h (by decide), fun _ => m_isGate_f hM.1 hT hw ⟨fun h => absurd rfl h, fun _ => MK_s hM rfl⟩⟩⟩
  have ec : M 4 (nI p).toNatClampNeg = N (7 + p) := by rw [cl_nI (by omega)]; exact hRS.2.2.2.2.2.2.1 p (by omega)
  have e26 : ∀ M1, RN M1 N → M1 120 ((26 : Int32) + nI g).toNatClampNeg = N (26 + g) := fun M1 hN => by rw [show (26 : Int32) = nI 26 from rfl, cl_add (by omega)]; exact hN _ (by omega)
  have e7 : ∀ M1, RN M1 N → M1 120 ((7 : Int32) + nI p).toNatClampNeg = N (7 + p) := fun M1 hN => by rw [show (7 : Int32) = nI 7 from rfl, cl_add (by omega)]; exact hN _ (by omega)
  have i26 : vp_in ((26 : Int32) + nI g) 55 := in_add (a := 26) (by omega) (by decide)
  have i7 : vp_in ((7 : Int32) + nI p) 55 := in_add (a := 7) (by omega) (by decide)
  have cw : ∀ K : Int32 → kg_M → Prop, wp_X5_isRusted L (nI g) M (fun (r16 : Int32) (M14 : kg_M) => (¬ r16 = 0 → K (-1000000003 : Int32) M14) ∧ (r16 = 0 → vp_in (nI p) 7 ∧ ((¬ (M14 4 (nI p).toNatClampNeg) = (nI g) → wp_X4_remember 3 M14 (fun (M25 : kg_M) => vp_in (nI p) 7 ∧ (∀ M30 : kg_M, M30 = kg_row M25 4 (upd (M25 4) (nI p).toNatClampNeg (nI g)) → (wp_X5_waitingAt L (nI g) M30 (fun (r35 : Int32) (M33 : kg_M) => K r35 M33))))) ∧ ((M14 4 (nI p).toNatClampNeg) = (nI g) → K (-1000000003 : Int32) M14)))) → wp_X7_come L (nI p) (nI g) M K := fun K h => c_hasPerson_t hRC hT hp ⟨fun h => absurd h (by decide), fun _ => c_hasGate_t hRC hT hg ⟨fun _ => h, fun h => absurd h (by decide)⟩⟩
  have mw : ∀ (M1 : kg_M) (K : Int32 → kg_M → Prop), MI M1 (T, N, (U, pu), (im, is, kp), sv, fl, (tn, tx), (kn, kw, ki), (bn, bo, bi)) → wp_X8_canCome (nI p) (nI g) M1 (fun (r16 : Int32) (M14 : kg_M) => (¬ r16 = 0 → wp_X8_remember  M14 (fun (M20 : kg_M) => vp_in ((7 : Int32) + nI p) 55 ∧ (∀ M25 : kg_M, M25 = kg_row M20 120 (upd (M20 120) ((7 : Int32) + nI p).toNatClampNeg (nI g)) → (wp_X8_waitingAt (nI g) M25 (fun (r30 : Int32) (M28 : kg_M) => K r30 M28))))) ∧ (r16 = 0 → K (-1000000003 : Int32) M14)) → wp_X8_come (nI p) (nI g) M1 K := fun M1 K hM h => m_isPerson_t hM.1 hT hp ⟨fun h => absurd h (by decide), fun _ => m_isGate_t hM.1 hT hg ⟨fun _ => h, fun h => absurd h (by decide)⟩⟩
  by_cases hr : N (26 + g) = 1
  · refine ⟨-1000000003, (T, N, (U, pu), (im, is, kp), sv, fl, (tn, tx), (kn, kw, ki), (bn, bo, bi)), cw _ (c_isRusted hRC hT hRS hSW hg ⟨fun _ => CK_s hC rfl, fun h => absurd (hr.symm.trans h) (by decide)⟩), fun M1 hM => mw M1 _ hM ⟨i26, ?_⟩⟩
    rw [e26 M1 hM.2.2.1, hr]
    exact ⟨fun _ => ⟨fun h => absurd rfl h, fun _ => MK_s hM rfl⟩, fun h => absurd h (by decide)⟩
  have hr0 : N (26 + g) = 0 := (rust_01 hSW hg).resolve_right hr
  by_cases hw : N (7 + p) = nI g
  · refine ⟨-1000000003, (T, N, (U, pu), (im, is, kp), sv, fl, (tn, tx), (kn, kw, ki), (bn, bo, bi)), cw _ (c_isRusted hRC hT hRS hSW hg ⟨fun h => absurd hr0 h, fun _ => ⟨in_nI (by omega) (by decide), fun h => absurd (ec.trans hw) h, fun _ => CK_s hC rfl⟩⟩), fun M1 hM => mw M1 _ hM ⟨i26, ?_⟩⟩
    rw [e26 M1 hM.2.2.1, hr0, e7 M1 hM.2.2.1, hw]
    exact ⟨fun h => absurd rfl h, fun _ => ⟨i7, fun _ => ⟨fun h => absurd rfl h, fun _ => MK_s hM rfl⟩, fun h => absurd rfl h⟩⟩
  have hW' : SW T (upd N (7 + p) (nI g)) := SW_wait hp hT hSW (Or.inr ⟨g, hg, rfl⟩)
  refine ⟨nI (bs (fun q => upd N (7 + p) (nI g) (7 + q) == nI g) (tP T)), (T, upd N (7 + p) (nI g), (nU U, npu U pu N), (im, is, kp), sv, fl, (tn, tx), (kn, kw, ki), (bn, bo, bi)), cw _ (c_isRusted hRC hT hRS hSW hg ⟨fun h => absurd hr0 h, fun _ => ⟨in_nI (by omega) (by decide), fun _ => c_remember hCU hRS hSW (fun M' r hU => ⟨in_nI (by omega) (by decide), fun M30 e30 => ?_⟩), fun h => absurd (ec.symm.trans h) hw⟩⟩), fun M1 hM => mw M1 _ hM ⟨i26, ?_⟩⟩
  · have r30 : ∀ k, k ≠ 4 → M30 k = M' k := fun k hk => by rw [e30, kg_row_ne _ _ hk]
    have e4 : M30 4 = upd (M 4) p (nI g) := by rw [e30, kg_row_eq, cl_nI (by omega), r 4 (by decide) (by omega)]
    have hS' : RS M30 3 (upd N (7 + p) (nI g)) := RS_wait (by omega) hRS (by rw [r30 3 (by decide), r 3 (by decide) (by omega)]) e4 (by rw [r30 5 (by decide), r 5 (by decide) (by omega)]) (by rw [r30 6 (by decide), r 6 (by decide) (by omega)])
    have hci := CI_st hC (M' := M30) (sv' := sv) (fun k h1 h2 => by rw [r30 k (by omega), r k (by omega) (by omega)]) (by rw [r30 0 (by decide), r 0 (by decide) (by omega)]) ⟨hsv.1, by rw [r30 0 (by decide), r 0 (by decide) (by omega)]; exact hsv.2⟩ hS' hW' (CU_of hU (fun k h1 h2 => r30 k (by omega)))
    exact c_waitingAt hci.1.2 hT hS' ⟨rfl, hci, fun k hk => by rw [r30 k (by omega), r k (by omega) (by omega)]⟩
  · rw [e26 M1 hM.2.2.1, hr0, e7 M1 hM.2.2.1]
    refine ⟨fun h => absurd rfl h, fun _ => ⟨i7, fun h => absurd h hw, fun _ => ⟨fun _ => m_remember hCU.1 hM.2.2.2.1 hM.2.2.1 (fun M' r s hU => ⟨i7, fun M25 e25 => ?_⟩), fun h => absurd h (by decide)⟩⟩⟩
    have r25 : ∀ k, k ≠ 120 → M25 k = M' k := fun k hk => by rw [e25, kg_row_ne _ _ hk]
    have hN' : RN M25 (upd N (7 + p) (nI g)) := RN_upd hM.2.2.1 (by rw [e25, kg_row_eq, show (7 : Int32) = nI 7 from rfl, cl_add (by omega), r 120 (by decide) (by decide)])
    have hmi := MI_st hM (M' := M25) (sv' := sv) (fun k h1 h2 h3 => by rw [r25 k h2, r k h1 h3]) (fun j hj _ => by rw [r25 117 (by decide), s j hj]) (by rw [r25 117 (by decide), s 5 (by decide)]; exact hM.2.2.2.2.2.1) hN' (MU_of hU (by rw [r25 117 (by decide)]) (r25 128 (by decide)))
    exact m_waitingAt hmi.1 hT hN' ⟨rfl, hmi, fun k hk => by rw [r25 k (by omega), r k (by omega) (by omega)]⟩
theorem p_goOff {σ : kS} (v : Int32) (hC : CI M L S σ) : Pair L S M σ (wp_X7_goOff L v) (wp_X8_goOff v) := by
  obtain ⟨T, N, ⟨U, pu⟩, ⟨im, is, kp⟩, sv, fl, ⟨tn, tx⟩, ⟨kn, kw, ki⟩, ⟨bn, bo, bi⟩⟩ := σ
  obtain ⟨⟨hT, hRC⟩, ⟨hSW, hRS⟩, hCU, hCM, hsv, hfl, hCX, hCN, hCB, hLS⟩ := id hC
  have h7 := hT.2.1
  have h5 := hT.1
  rcases ix_cases v (tP T) (by omega) with hv | ⟨p, hp, rfl⟩
  · exact ⟨-1000000001, _, c_hasPerson_f hRC hv ⟨fun h => absurd rfl h, fun _ => CK_s hC rfl⟩, fun M1 hM => m_isPerson_f hM.1 hT hv ⟨fun h => absurd rfl h, fun _ => MK_s hM rfl⟩⟩
  have ec : M 4 (nI p).toNatClampNeg = N (7 + p) := by rw [cl_nI (by omega)]; exact hRS.2.2.2.2.2.2.1 p (by omega)
  have e7 : ∀ M1, RN M1 N → M1 120 ((7 : Int32) + nI p).toNatClampNeg = N (7 + p) := fun M1 hN => by rw [show (7 : Int32) = nI 7 from rfl, cl_add (by omega)]; exact hN _ (by omega)
  have i7 : vp_in ((7 : Int32) + nI p) 55 := in_add (a := 7) (by omega) (by decide)
  have hneg := wt_neg hT hSW (show p < 7 by omega)
  by_cases hw : N (7 + p) = -1
  · refine ⟨-1000000003, (T, N, (U, pu), (im, is, kp), sv, fl, (tn, tx), (kn, kw, ki), (bn, bo, bi)), c_hasPerson_t hRC hT hp ⟨fun _ => ⟨in_nI (by omega) (by decide), fun h => absurd (ec.trans hw) h, fun _ => CK_s hC rfl⟩, fun h => absurd h (by decide)⟩, fun M1 hM => m_isPerson_t hM.1 hT hp ⟨fun _ => ⟨i7, fun h => ?_, fun _ => MK_s hM rfl⟩, fun h => absurd h (by decide)⟩⟩
    rw [e7 M1 hM.2.2.1, hw] at h
    exact absurd h (by decide)
  have hW' : SW T (upd N (7 + p) (-1)) := SW_wait hp hT hSW (Or.inl rfl)
  refine ⟨N (7 + p), (T, upd N (7 + p) (-1), (nU U, npu U pu N), (im, is, kp), sv, fl, (tn, tx), (kn, kw, ki), (bn, bo, bi)), c_hasPerson_t hRC hT hp ⟨fun _ => ⟨in_nI (by omega) (by decide), fun _ => c_remember hCU hRS hSW (fun M' r hU => ⟨in_nI (by omega) (by decide), fun M30 e30 => ?_⟩), fun h => absurd (ec.symm.trans h) hw⟩, fun h => absurd h (by decide)⟩, fun M1 hM => m_isPerson_t hM.1 hT hp ⟨fun _ => ⟨i7, fun _ => m_remember hCU.1 hM.2.2.2.1 hM.2.2.1 (fun M' r s hU => ⟨i7, i7, fun M25 e25 => ?_⟩), fun h => ?_⟩, fun h => absurd h (by decide)⟩⟩
  · have r30 : ∀ k, k ≠ 4 → M30 k = M' k := fun k hk => by rw [e30, kg_row_ne _ _ hk]
    have e4 : M30 4 = upd (M 4) p (-1) := by rw [e30, kg_row_eq, cl_nI (by omega), r 4 (by decide) (by omega)]
    have hS' : RS M30 3 (upd N (7 + p) (-1)) := RS_wait (by omega) hRS (by rw [r30 3 (by decide), r 3 (by decide) (by omega)]) e4 (by rw [r30 5 (by decide), r 5 (by decide) (by omega)]) (by rw [r30 6 (by decide), r 6 (by decide) (by omega)])
    exact ⟨ec, CI_st hC (M' := M30) (sv' := sv) (fun k h1 h2 => by rw [r30 k (by omega), r k (by omega) (by omega)]) (by rw [r30 0 (by decide), r 0 (by decide) (by omega)]) ⟨hsv.1, by rw [r30 0 (by decide), r 0 (by decide) (by omega)]; exact hsv.2⟩ hS' hW' (CU_of hU (fun k h1 h2 => r30 k (by omega))), fun k hk => by rw [r30 k (by omega), r k (by omega) (by omega)]⟩
  · have r25 : ∀ k, k ≠ 120 → M25 k = M' k := fun k hk => by rw [e25, kg_row_ne _ _ hk]
    have hN' : RN M25 (upd N (7 + p) (-1)) := RN_upd hM.2.2.1 (by rw [e25, kg_row_eq, show (7 : Int32) = nI 7 from rfl, cl_add (by omega), r 120 (by decide) (by decide)])
    exact ⟨e7 M' (RN_of hM.2.2.1 (r 120 (by decide) (by decide))), MI_st hM (M' := M25) (sv' := sv) (fun k h1 h2 h3 => by rw [r25 k h2, r k h1 h3]) (fun j hj _ => by rw [r25 117 (by decide), s j hj]) (by rw [r25 117 (by decide), s 5 (by decide)]; exact hM.2.2.2.2.2.1) hN' (MU_of hU (by rw [r25 117 (by decide)]) (r25 128 (by decide))), fun k hk => by rw [r25 k (by omega), r k (by omega) (by omega)]⟩
  · rw [e7 M1 hM.2.2.1] at h
    exact absurd (hneg.mp (fa_of_nle h)) hw
end P8
