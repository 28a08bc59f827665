/-! ===== an hour ===== -/
/-- nobody goes through gate g -/
def nIdle (T : kT) (N : Nat → Int32) (g : Nat) : Nat → Int32 := upd (upd N (21 + g) (N (21 + g) + 1)) (26 + g) (if nI (tB T g) ≤ N (21 + g) + 1 then 1 else 0)
def nGate (T : kT) (N : Nat → Int32) (g : Nat) : Nat → Int32 := if N (26 + g) = 0 then (match pb T N g 21 with
  | some b => upd (nMeet N (pO b) (pT b)) (21 + g) 0
  | none => nIdle T N g) else N
def nGs (T : kT) (N : Nat → Int32) : Nat → Nat → Int32
  | 0 => N
  | g + 1 => nGate T (nGs T N g) g
def nPass (T : kT) (N : Nat → Int32) : Nat → Int32 := upd (nGs T N (tG T)) 31 (nGs T N (tG T) 31 + 1)
def nH (T : kT) (N : Nat → Int32) : Nat → Nat → Int32
  | 0 => N
  | i + 1 => nPass T (nH T N i)
section P13
variable {M : kg_M} {L S : Nat} {T : kT} {N : Nat → Int32}
theorem SW_g {g : Nat} {u : Nat} {v w : Int32} (hg : g < tG T) (hT : LW T) (h : SW T N) (hu : u ≤ tB T g) (hv : v = nI u) (hw : w = if tB T g ≤ u then 1 else 0) : SW T (upd (upd N (21 + g) v) (26 + g) w) := by
  have h7 := hT.2.1
  have h5 := hT.1
  have e : ∀ b, b ≠ 26 + g → b ≠ 21 + g → upd (upd N (21 + g) v) (26 + g) w b = N b := fun b h1 h2 => by rw [upd_ne h1, upd_ne h2]
  obtain ⟨w1, w2, w3, w4, w5, w6, w7, c, w8, w9, w10⟩ := h
  refine ⟨fun q hq => by rw [e _ (by omega) (by omega)]; exact w1 q hq, fun q h1 h2 => by rw [e _ (by omega) (by omega)]; exact w2 q h1 h2, fun q hq => by rw [e _ (by omega) (by omega)]; exact w3 q hq, fun q h1 h2 => by rw [e _ (by omega) (by omega)]; exact w4 q h1 h2, fun q hq => by rw [e _ (by omega) (by omega)]; exact w5 q hq, fun q h1 h2 => by rw [e _ (by omega) (by omega)]; exact w6 q h1 h2, fun x hx => ?_, c, w8, by rw [e _ (by omega) (by omega)]; exact w9, fun i hi => by rw [e _ (by omega) (by omega)]; exact w10 i hi⟩
  by_cases hxg : x = g
  · subst hxg
    exact ⟨u, hu, by rw [upd_ne (by omega), upd_eq]; exact hv, by rw [upd_eq]; exact hw⟩
  · rw [e _ (by omega) (by omega), e _ (by omega) (by omega)]; exact w7 x hx
/-- row 5 of the class, place g, becomes v: N's place 21 + g does, and 26 + g is no matter -/
theorem RS_g {M' : kg_M} {g : Nat} {v w : Int32} (hg : g < 5) (h : RS M 3 N) (h3 : M' 3 = M 3) (h4 : M' 4 = M 4) (h5 : M' 5 = upd (M 5) g v) (h6 : M' 6 = M 6) : RS M' 3 (upd (upd N (21 + g) v) (26 + g) w) := by
  obtain ⟨g0, g1, g2, g3, g4, g5, g6, g7, g8⟩ := h
  have e : ∀ b, b ≠ 26 + g → b ≠ 21 + g → upd (upd N (21 + g) v) (26 + g) w b = N b := fun b h1 h2 => by rw [upd_ne h1, upd_ne h2]
  unfold RS
  rw [h3, show (3 + 1) = 4 from rfl, show (3 + 2) = 5 from rfl, show (3 + 3) = 6 from rfl, h4, h5, h6, e 31 (by omega) (by omega), e 32 (by omega) (by omega), e 33 (by omega) (by omega), e 34 (by omega) (by omega)]
  refine ⟨g0, g1, g2, ?_, ?_, g5, fun q hq => ?_, fun x hx => ?_, fun i c hc hn hi => ?_⟩
  · rw [g3]; congr 1; exact bs_cong (fun q hq => by unfold sd; rw [e q (by omega) (by omega)])
  · rw [g4]; congr 1; exact bs_cong (fun q hq => by unfold cd; rw [e (14 + q) (by omega) (by omega)])
  · rw [e _ (by omega) (by omega)]; exact g6 q hq
  · by_cases hxg : x = g
    · subst hxg; rw [upd_eq, upd_ne (by omega), upd_eq]
    · rw [upd_ne hxg, e _ (by omega) (by omega)]; exact g7 x hx
  · rw [e _ (by omega) (by omega)]; exact g8 i c hc hn hi
theorem upd_same {f : Nat → Int32} {a : Nat} {v : Int32} (h : f a = v) : upd f a v = f := by
  funext k
  by_cases hk : k = a
  · subst hk; rw [upd_eq]; exact h.symm
  · rw [upd_ne hk]
/-- a gate that isn't rusted keeps 0 at its flag behind the meeting -/
theorem nMeet_flag {p q g : Nat} (hp : p < 7) (hq : q < 7) (hg : g < 5) : nMeet N p q (26 + g) = N (26 + g) ∧ nMeet N p q (21 + g) = N (21 + g) := by
  have lo : ∀ k, k < 34 → nMeet N p q k = nM1 N p q k := fun k hk => nLog_lo hk
  exact ⟨by rw [lo _ (by omega), nM1_hi hp hq (by omega) (by omega)], by rw [lo _ (by omega), nM1_hi hp hq (by omega) (by omega)]⟩
theorem gate_some {g b : Nat} (hg : g < 5) (h0 : N (26 + g) = 0) (hb : b < 21) : upd (nMeet N (pO b) (pT b)) (21 + g) 0 = upd (upd (nMeet N (pO b) (pT b)) (21 + g) 0) (26 + g) 0 := by
  obtain ⟨o1, o2, -⟩ := ix_of b hb
  refine (upd_same ?_).symm
  rw [upd_ne (by omega), (nMeet_flag (by omega) (by omega) hg).1, h0]
theorem idle_val (hT : LW T) (hW : SW T N) {g : Nat} (hg : g < tG T) (h0 : N (26 + g) = 0) : ∃ u, u ≤ tB T g ∧ N (21 + g) + 1 = nI u ∧ (if nI (tB T g) ≤ N (21 + g) + 1 then (1 : Int32) else 0) = if tB T g ≤ u then 1 else 0 := by
  obtain ⟨u, h1, h2, h3⟩ := hW.2.2.2.2.2.2.1 g hg
  have hb := hT.2.2.1 g hg
  have hlt : u < tB T g := by
    rcases Nat.lt_or_ge u (tB T g) with q | q
    · exact q
    · rw [if_pos q] at h3; rw [h3] at h0; exact absurd h0 (by decide)
  refine ⟨u + 1, by omega, by rw [h2, nI_1], ?_⟩
  rw [h2, nI_1]
  by_cases h : tB T g ≤ u + 1
  · rw [if_pos h, if_pos (nI_le h (by omega))]
  · rw [if_neg h, if_neg (nI_ge (by omega) (by omega))]
theorem SW_gate (hT : LW T) (hW : SW T N) {g : Nat} (hg : g < tG T) : SW T (nGate T N g) := by
  have h5 := hT.1
  unfold nGate
  by_cases h0 : N (26 + g) = 0
  · rw [if_pos h0]
    cases hb : pb T N g 21 with
    | some b =>
      have hlt := pb_lt T N g 21 b hb
      obtain ⟨o1, o2, -⟩ := ix_of b hlt.1
      have hpt : pT b < tP T := by have := hlt.2; unfold cand at this; simp at this; exact this.1.1
      dsimp only
      rw [gate_some (by omega) h0 hlt.1]
      exact SW_g hg hT (SW_meet o1 hpt hT hW) (Nat.zero_le _) rfl (by rw [if_neg (by have := (hT.2.2.1 g hg).1; omega)])
    | none =>
      obtain ⟨u, u1, u2, u3⟩ := idle_val hT hW hg h0
      exact SW_g hg hT hW u1 u2 u3
  · rw [if_neg h0]; exact hW
theorem SW_gs (hT : LW T) (hW : SW T N) : ∀ g, g ≤ tG T → SW T (nGs T N g)
  | 0, _ => hW
  | g + 1, h => SW_gate hT (SW_gs hT hW g (by omega)) (by omega)
theorem SW_31 {v : Int32} (hT : LW T) (h : SW T N) : SW T (upd N 31 v) := by
  have h7 := hT.2.1
  have h5 := hT.1
  have e : ∀ b, b ≠ 31 → upd N 31 v b = N b := fun b hb => upd_ne hb
  obtain ⟨w1, w2, w3, w4, w5, w6, w7, c, w8, w9, w10⟩ := h
  exact ⟨fun q hq => by rw [e _ (by omega)]; exact w1 q hq, fun q h1 h2 => by rw [e _ (by omega)]; exact w2 q h1 h2, fun q hq => by rw [e _ (by omega)]; exact w3 q hq, fun q h1 h2 => by rw [e _ (by omega)]; exact w4 q h1 h2, fun q hq => by rw [e _ (by omega)]; exact w5 q hq, fun q h1 h2 => by rw [e _ (by omega)]; exact w6 q h1 h2, fun x hx => by rw [e _ (by omega), e _ (by omega)]; exact w7 x hx, c, w8, by rw [e _ (by omega)]; exact w9, fun i hi => by rw [e _ (by omega)]; exact w10 i hi⟩
theorem SW_pass (hT : LW T) (hW : SW T N) : SW T (nPass T N) := SW_31 hT (SW_gs hT hW _ (Nat.le_refl _))
theorem SW_h (hT : LW T) (hW : SW T N) : ∀ i, SW T (nH T N i)
  | 0 => hW
  | i + 1 => SW_pass hT (SW_h hT hW i)
theorem c_passHour {K : kg_M → Prop} (hRL : L = 109 ∨ L = 113) (hL : RC M L T) (hT : LW T) (hS : RS M 3 N) (hW : SW T N) (hK : ∀ M', (∀ k, (k < 3 ∨ 6 < k) → M' k = M k) → RS M' 3 (nPass T N) → K M') : wp_X5_passHour L M K := by
  have h5 := hT.1
  refine ⟨_, for_loop (fun f (M' : kg_M) i => wL_X5_passHour_2 L _ K f i M') (fun g M' => (∀ k, (k < 3 ∨ 6 < k) → M' k = M k) ∧ RS M' 3 (nGs T N g)) (tG T) M ⟨fun _ _ => rfl, hS⟩ (fun f M' h => ?_) (fun f g M' hg h ih => ?_)⟩
  · have hL' : RC M' L T := RC_of (h.1 _ (by omega)) (h.1 _ (by omega)) (h.1 _ (by omega)) (h.1 _ (by omega)) hL
    rw [wL_X5_passHour_2, hL'.1]
    refine ⟨fun _ M27 e27 => hK M27 (fun k hk => by rw [e27, kg_row_ne _ _ (by omega), h.1 k hk]) ?_, fun h => absurd (nI_le (Nat.le_refl _) (by omega)) h⟩
    obtain ⟨g0, g1, g2, g3, g4, g5, g6, g7, g8⟩ := h.2
    have e : ∀ b, b ≠ 31 → nPass T N b = nGs T N (tG T) b := fun b hb => upd_ne hb
    have q3 : M27 3 = upd (M' 3) 0 (nGs T N (tG T) 31 + 1) := by rw [e27, kg_row_eq, g0]
    have r : ∀ k, k ≠ 3 → M27 k = M' k := fun k hk => by rw [e27, kg_row_ne _ _ hk]
    unfold RS
    rw [q3, r (3 + 1) (by decide), r (3 + 2) (by decide), r (3 + 3) (by decide), e 32 (by omega), e 33 (by omega), e 34 (by omega)]
    refine ⟨?_, g1, g2, ?_, ?_, g5, fun q hq => ?_, fun x hx => ?_, fun i c hc hn hi => ?_⟩
    · unfold nPass; rw [upd_eq, upd_eq]
    · rw [upd_ne (by decide), g3]; exact congrArg nI (bs_cong (fun q hq => show sd _ q = sd _ q by unfold sd; rw [e q (by omega)]))
    · rw [upd_ne (by decide), g4]; exact congrArg nI (bs_cong (fun q hq => show cd _ q = cd _ q by unfold cd; rw [e (14 + q) (by omega)]))
    · rw [e _ (by omega)]; exact g6 q hq
    · rw [e _ (by omega)]; exact g7 x hx
    · rw [e _ (by omega)]; exact g8 i c hc hn hi
  · have hL' : RC M' L T := RC_of (h.1 _ (by omega)) (h.1 _ (by omega)) (h.1 _ (by omega)) (h.1 _ (by omega)) hL
    have hWg := SW_gs hT hW g (by omega)
    rw [wL_X5_passHour_2, hL'.1]
    refine ⟨fun h => absurd h (nI_ge hg (by omega)), fun _ => c_isRusted hL' hT h.2 hWg hg ⟨fun h0 => ?_, fun h0 => c_meetAt hL' hT h.2 hWg hg (fun hb => ⟨fun _ => ⟨in_nI (by omega) (by decide), ?_⟩, fun h => absurd rfl h⟩) (fun b hb M2 r2 hS2 => ⟨fun h => absurd h (by decide), fun _ => ?_⟩)⟩⟩
    · rw [nI_1]
      refine ih M' ⟨h.1, ?_⟩
      rw [nGs]; unfold nGate; rw [if_neg h0]; exact h.2
    · unfold wJ_X5_passHour_45
      rw [cl_nI (by omega), nI_1 g]
      refine ⟨in_nI (by omega) (by decide), fun M23 e23 => ih M23 ⟨fun k hk => by rw [e23, kg_row_ne _ _ (by omega), h.1 k hk], ?_⟩⟩
      rw [nGs]; unfold nGate; rw [if_pos h0, hb]
      have v5 : M' 5 g = nGs T N g (21 + g) := h.2.2.2.2.2.2.2.2.1 g (by omega)
      have r : ∀ k, k ≠ 5 → M23 k = M' k := fun k hk => by rw [e23, kg_row_ne _ _ hk]
      exact RS_g (by omega) h.2 (r 3 (by decide)) (r 4 (by decide)) (by rw [e23, kg_row_eq, v5]) (r 6 (by decide))
    · unfold wJ_X5_passHour_45
      rw [cl_nI (by omega), nI_1 g]
      refine ⟨in_nI (by omega) (by decide), fun M23 e23 => ih M23 ⟨fun k hk => by rw [e23, kg_row_ne _ _ (by omega), r2 k (by omega) (by omega) (by omega), h.1 k hk], ?_⟩⟩
      have hlt := pb_lt T (nGs T N g) g 21 b hb
      rw [nGs]; unfold nGate; rw [if_pos h0, hb]; dsimp only
      rw [gate_some (by omega) h0 hlt.1]
      have r : ∀ k, k ≠ 5 → M23 k = M2 k := fun k hk => by rw [e23, kg_row_ne _ _ hk]
      exact RS_g (by omega) hS2 (r 3 (by decide)) (r 4 (by decide)) (by rw [e23, kg_row_eq]) (r 6 (by decide))
theorem m_pass {K : kg_M → Prop} (hR : RT M T) (hP : RP M) (hT : LW T) (hN : RN M N) (hW : SW T N) (hK : ∀ M', (∀ k, k ≠ 120 → M' k = M k) → RN M' (nPass T N) → K M') : wp_X8_pass M K := by
  have h5 := hT.1
  refine ⟨_, for_loop (fun f (M' : kg_M) i => wL_X8_pass_2 _ K f i M') (fun g M' => (∀ k, k ≠ 120 → M' k = M k) ∧ RN M' (nGs T N g)) (tG T) M ⟨fun _ _ => rfl, hN⟩ (fun f M' h => ?_) (fun f g M' hg h ih => ?_)⟩
  · rw [wL_X8_pass_2, h.1 117 (by decide), hR.1, lit_cl 31 (by decide)]
    have i31 : vp_in (31 : Int32) 55 := lit_in 31 55 (by decide) (by decide)
    refine ⟨fun _ => ⟨i31, i31, fun M54 e54 => hK M54 (fun k hk => by rw [e54, kg_row_ne _ _ hk, h.1 k hk]) ?_⟩, fun h => absurd (nI_le (Nat.le_refl _) (by omega)) h⟩
    exact RN_upd h.2 (by rw [e54, kg_row_eq, h.2 31 (by decide)])
  · have hWg := SW_gs hT hW g (by omega)
    have hR' : RT M' T := RT_of hR (by rw [h.1 117 (by decide)]) (by rw [h.1 117 (by decide)]) (fun k hk => h.1 k (by omega))
    have hP' : RP M' := RP_of hP (fun k hk => h.1 k (by omega))
    have i26 : vp_in ((26 : Int32) + nI g) 55 := in_add (a := 26) (by omega) (by decide)
    have i21 : vp_in ((21 : Int32) + nI g) 55 := in_add (a := 21) (by omega) (by decide)
    have e26 : ((26 : Int32) + nI g).toNatClampNeg = 26 + g := by rw [show (26 : Int32) = nI 26 from rfl, cl_add (by omega)]
    have e21 : ((21 : Int32) + nI g).toNatClampNeg = 21 + g := by rw [show (21 : Int32) = nI 21 from rfl, cl_add (by omega)]
    rw [wL_X8_pass_2, hR'.1, e26, e21, h.2 (26 + g) (by omega), nI_1 g, cl_nI (by omega)]
    refine ⟨fun h => absurd h (nI_ge hg (by omega)), fun _ => ⟨i26, fun h0 => ih M' ⟨h.1, ?_⟩, fun h0 => m_pairAt hR' hP' hT h.2 hWg hg ⟨fun hneg => ⟨i21, i21, fun M21 e21' => ⟨i21, in_nI (by omega) (by decide), ?_⟩⟩, fun hneg => ?_⟩⟩⟩
    · rw [nGs]; unfold nGate; rw [if_neg h0]; exact h.2
    · have hb : pb T (nGs T N g) g 21 = none := by
        cases hb : pb T (nGs T N g) g 21 with
        | none => rfl
        | some b => rw [hb] at hneg; have := (pb_lt T _ g 21 b hb).1; exact absurd hneg (nI_pos (by omega))
      have n21 : RN M21 (upd (nGs T N g) (21 + g) (nGs T N g (21 + g) + 1)) := RN_upd h.2 (by rw [e21', kg_row_eq, h.2 (21 + g) (by omega)])
      have v118 : M21 118 g = nI (tB T g) := by rw [e21', kg_row_ne _ _ (by decide)]; exact hR'.2.2.1 g hg
      have v21 : M21 120 (21 + g) = nGs T N g (21 + g) + 1 := by rw [n21 (21 + g) (by omega), upd_eq]
      have J : ∀ (Kb : Int32 → kg_M → Prop) (Kx : kg_M → Prop) (w : Int32), w = (if nI (tB T g) ≤ nGs T N g (21 + g) + 1 then 1 else 0) → (∀ M34, ((∀ k, k ≠ 120 → M34 k = M k) ∧ RN M34 (nGs T N (g + 1))) → Kb (nI (g + 1)) M34) → wJ_X8_pass_105 Kb Kx K (nI g) ((26 : Int32) + nI g) w M21 := by
        intro Kb Kx w hw ihh
        unfold wJ_X8_pass_105
        rw [e26, nI_1 g]
        refine ⟨i26, fun M34 e34 => ihh M34 ⟨fun k hk => by rw [e34, kg_row_ne _ _ hk, e21', kg_row_ne _ _ hk, h.1 k hk], ?_⟩⟩
        rw [nGs]; unfold nGate; rw [if_pos h0, hb]
        refine RN_upd n21 ?_
        rw [e34, kg_row_eq, hw]
      rw [v118, v21]
      refine ⟨fun h6 => J _ _ 0 ?_ ih, fun h6 => J _ _ 1 ?_ ih⟩
      · rw [if_neg (fa_of_lt h6).2.1]
      · rw [if_pos (fa_of_nlt h6)]
    · cases hb : pb T (nGs T N g) g 21 with
      | none => rw [hb] at hneg; exact absurd (by decide) hneg
      | some b =>
        have hlt := pb_lt T (nGs T N g) g 21 b hb
        obtain ⟨o1, o2, -⟩ := ix_of b hlt.1
        obtain ⟨p1, p2⟩ := hP' b hlt.1
        have ib : vp_in (nI b) 21 := in_nI hlt.1 (by decide)
        show vp_in (nI b) 21 ∧ vp_in (nI b) 21 ∧ wp_X8_meet (M' 121 (nI b).toNatClampNeg) (M' 122 (nI b).toNatClampNeg) M' _
        rw [cl_nI (by omega), p1, p2]
        refine ⟨ib, ib, m_meet o1 o2 hWg h.2 (fun M41 r41 n41 => ⟨i21, fun M46 e46 => ih M46 ⟨fun k hk => by rw [e46, kg_row_ne _ _ hk, r41 k hk, h.1 k hk], ?_⟩⟩)⟩
        rw [nGs]; unfold nGate; rw [if_pos h0, hb]
        exact RN_upd n41 (by rw [e46, kg_row_eq])
/-! the refusals of hour and drift -/
theorem p_refuse (v : Int32) (hL : RC M L T) (hT : LW T) (hS : RS M 3 N) : (∃ r : Int32, ¬ r = 0 ∧ (∀ K : Int32 → kg_M → Prop, K r M → wp_X7_refusalOfHours L v M K) ∧ ∀ (M1 : kg_M) (K : Int32 → kg_M → Prop), RT M1 T → RN M1 N → K r M1 → wp_X8_hoursRefused v M1 K) ∨ (∃ n : Nat, 1 ≤ n ∧ n ≤ 60 ∧ v = nI n ∧ 1 ≤ tG T ∧ (∀ K : Int32 → kg_M → Prop, K 0 M → wp_X7_refusalOfHours L v M K) ∧ ∀ (M1 : kg_M) (K : Int32 → kg_M → Prop), RT M1 T → RN M1 N → K 0 M1 → wp_X8_hoursRefused v M1 K) := by
  have h5 := hT.1
  have i31 : vp_in (31 : Int32) 55 := lit_in 31 55 (by decide) (by decide)
  by_cases h1 : v < 1
  · refine Or.inl ⟨-1000000002, by decide, fun K hK => ⟨fun _ => hK, fun h => absurd h1 h⟩, fun M1 K hR hN hK => m_inL 1 60 rfl rfl (fun h => absurd h (fa_of_lt h1).2.1) (fun _ => ⟨fun h => absurd rfl h, fun _ => hK⟩)⟩
  by_cases h2 : v ≤ 60
  · have hm : ∀ (M1 : kg_M) (K : Int32 → kg_M → Prop), K 1 M1 → wp_X8_in v.toInt64 1 60 M1 K := fun M1 K hK => m_inL 1 60 rfl rfl (fun _ _ => hK) (fun h => absurd h (fun h => h.elim h1 (fun h => (fa_of_lt h).2.1 h2)))
    rcases Nat.eq_zero_or_pos (tG T) with hz | hz
    · refine Or.inl ⟨-1000000003, by decide, fun K hK => ⟨fun h => absurd h h1, fun _ => ⟨fun _ => ⟨fun h => absurd (by rw [hL.1, hz]; rfl) h, fun _ => hK⟩, fun h => absurd h2 h⟩⟩, fun M1 K hR hN hK => hm M1 _ ⟨fun _ => ⟨fun h => absurd (by rw [hR.1, hz]; rfl) h, fun _ => hK⟩, fun h => absurd h (by decide)⟩⟩
    · have hg0 : ¬ nI (tG T) = 0 := nI_ne0 hz (by omega)
      have e31 : ∀ M1, RN M1 N → M1 120 (31 : Int32).toNatClampNeg = N 31 := fun M1 hN => by rw [lit_cl 31 (by decide)]; exact hN 31 (by decide)
      by_cases h3 : N 31 ≤ 9000
      · obtain ⟨n, hn, e⟩ : ∃ n : Nat, n ≤ 60 ∧ v = nI n := nI_of2 (M := 60) rfl (fun h => h1 (Int32.lt_trans h (by decide))) h2
        have hn1 : 1 ≤ n := by
          rcases Nat.eq_zero_or_pos n with q | q
          · rw [e, q] at h1; exact absurd (by decide) h1
          · exact q
        refine Or.inr ⟨n, hn1, hn, e, hz, fun K hK => ⟨fun h => absurd h h1, fun _ => ⟨fun _ => ⟨fun _ => ⟨fun _ => hK, fun h => absurd (by rw [hS.1]; exact h3) h⟩, fun h => absurd (hL.1.symm.trans h) hg0⟩, fun h => absurd h2 h⟩⟩, fun M1 K hR hN hK => hm M1 _ ⟨fun _ => ⟨fun _ => ⟨i31, fun _ => hK, fun h => absurd (by rw [e31 M1 hN]; exact h3) h⟩, fun h => absurd (hR.1.symm.trans h) hg0⟩, fun h => absurd h (by decide)⟩⟩
      · refine Or.inl ⟨-1000000004, by decide, fun K hK => ⟨fun h => absurd h h1, fun _ => ⟨fun _ => ⟨fun _ => ⟨fun h => absurd (by rw [← hS.1]; exact h) h3, fun _ => hK⟩, fun h => absurd (hL.1.symm.trans h) hg0⟩, fun h => absurd h2 h⟩⟩, fun M1 K hR hN hK => hm M1 _ ⟨fun _ => ⟨fun _ => ⟨i31, fun h => absurd (by rw [← e31 M1 hN]; exact h) h3, fun _ => hK⟩, fun h => absurd (hR.1.symm.trans h) hg0⟩, fun h => absurd h (by decide)⟩⟩
  · refine Or.inl ⟨-1000000002, by decide, fun K hK => ⟨fun h => absurd h h1, fun _ => ⟨fun h => absurd h h2, fun _ => hK⟩⟩, fun M1 K hR hN hK => m_inL 1 60 rfl rfl (fun _ h => absurd h h2) (fun _ => ⟨fun h => absurd rfl h, fun _ => hK⟩)⟩
theorem p_hour {σ : kS} (v : Int32) (hC : CI M L S σ) : Pair L S M σ (wp_X7_hour L v) (wp_X8_hour v) := by
  obtain ⟨T, N, ⟨U, pu⟩, ⟨im, is, kp⟩, sv, fl, ⟨tn, tx⟩, ⟨kn, kw, ki⟩, ⟨bn, bo, bi⟩⟩ := σ
  obtain ⟨⟨hT, hRC⟩, ⟨hSW, hRS⟩, hCU, hCM, hsv, hfl, hCX, hCN, hCB, hLS⟩ := id hC
  have h7 := hT.2.1
  have h5 := hT.1
  have hLr : L = 109 ∨ L = 113 := by omega
  rcases p_refuse v hRC hT hRS with ⟨r, hr, hc, hm⟩ | ⟨n, hn1, hn, rfl, hg, hc, hm⟩
  · exact ⟨r, (T, N, (U, pu), (im, is, kp), sv, fl, (tn, tx), (kn, kw, ki), (bn, bo, bi)), hc _ ⟨fun h => absurd h hr, fun _ => CK_s hC rfl⟩, fun M1 hM => hm M1 _ hM.1 hM.2.2.1 ⟨fun h => absurd h hr, fun _ => MK_s hM rfl⟩⟩
  refine ⟨nH T N n 31, (T, nH T N n, (nU U, npu U pu N), (im, is, kp), sv, fl, (tn, tx), (kn, kw, ki), (bn, bo, bi)), hc _ ⟨fun _ => c_remember hCU hRS hSW (fun M8 r8 hU => ⟨_, for_loop (fun f (M' : kg_M) i => wL_X7_hour_25 L _ _ f (nI n) i M') (fun i M' => (∀ k, (k < 3 ∨ 6 < k) → M' k = M8 k) ∧ RS M' 3 (nH T N i)) n M8 ⟨fun _ _ => rfl, RS_of (r8 _ (by omega) (by omega)) (r8 _ (by omega) (by omega)) (r8 _ (by omega) (by omega)) (r8 _ (by omega) (by omega)) hRS⟩ (fun f M' h => ?_) (fun f i M' hi h ih => ?_)⟩), fun h => absurd rfl h⟩, fun M1 hM => hm M1 _ hM.1 hM.2.2.1 ⟨fun _ => m_remember hCU.1 hM.2.2.2.1 hM.2.2.1 (fun M8 r8 s8 hU => ⟨_, for_loop (fun f (M' : kg_M) i => wL_X8_hour_18 _ _ f (nI n) i M') (fun i M' => (∀ k, k ≠ 120 → M' k = M8 k) ∧ RN M' (nH T N i)) n M8 ⟨fun _ _ => rfl, RN_of hM.2.2.1 (r8 120 (by decide) (by decide))⟩ (fun f M' h => ?_) (fun f i M' hi h ih => ?_)⟩), fun h => absurd rfl h⟩⟩
  · rw [wL_X7_hour_25]
    refine ⟨fun _ => ⟨h.2.1, CI_st hC (M' := M') (sv' := sv) (fun k h1 h2 => by rw [h.1 k (by omega), r8 k (by omega) (by omega)]) (by rw [h.1 0 (by omega), r8 0 (by decide) (by omega)]) ⟨hsv.1, by rw [h.1 0 (by omega), r8 0 (by decide) (by omega)]; exact hsv.2⟩ h.2 (SW_h hT hSW n) (CU_of hU (fun k h1 h2 => h.1 k (by omega))), fun k hk => by rw [h.1 k (by omega), r8 k (by omega) (by omega)]⟩, fun h => absurd (nI_le (Nat.le_refl _) (by omega)) h⟩
  · have hRC' : RC M' L T := RC_of (by rw [h.1 _ (by omega), r8 _ (by omega) (by omega)]) (by rw [h.1 _ (by omega), r8 _ (by omega) (by omega)]) (by rw [h.1 _ (by omega), r8 _ (by omega) (by omega)]) (by rw [h.1 _ (by omega), r8 _ (by omega) (by omega)]) hRC
    rw [wL_X7_hour_25, nI_1]
    exact ⟨fun h => absurd h (nI_ge hi (by omega)), fun _ => c_passHour hLr hRC' hT h.2 (SW_h hT hSW i) (fun M2 r2 h2 => ih M2 ⟨fun k hk => by rw [r2 k hk, h.1 k hk], h2⟩)⟩
  · rw [wL_X8_hour_18]
    refine ⟨fun _ => ⟨lit_in 31 55 (by decide) (by decide), by rw [lit_cl 31 (by decide)]; exact h.2 31 (by decide), MI_st hM (M' := M') (sv' := sv) (fun k h1 h2 h3 => by rw [h.1 k h2, r8 k h1 h3]) (fun j hj _ => by rw [h.1 117 (by decide), s8 j hj]) (by rw [h.1 117 (by decide), s8 5 (by decide)]; exact hM.2.2.2.2.2.1) h.2 (MU_of hU (by rw [h.1 117 (by decide)]) (h.1 128 (by decide))), fun k hk => by rw [h.1 k (by omega), r8 k (by omega) (by omega)]⟩, fun h => absurd (nI_le (Nat.le_refl _) (by omega)) h⟩
  · have hR' : RT M' T := RT_of hM.1 (by rw [h.1 117 (by decide), s8 0 (by decide)]) (by rw [h.1 117 (by decide), s8 2 (by decide)]) (fun k hk => by rw [h.1 k (by omega), r8 k (by omega) (by omega)])
    have hP' : RP M' := RP_of hM.2.1 (fun k hk => by rw [h.1 k (by omega), r8 k (by omega) (by omega)])
    rw [wL_X8_hour_18, nI_1]
    exact ⟨fun h => absurd h (nI_ge hi (by omega)), fun _ => m_pass hR' hP' hT h.2 (SW_h hT hSW i) (fun M2 r2 h2 => ih M2 ⟨fun k hk => by rw [r2 k hk, h.1 k hk], h2⟩)⟩
end P13
