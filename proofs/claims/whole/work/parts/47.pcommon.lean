/-! ===== common, class and reference ===== -/
def wp_X7_common (S : Nat) (M : kg_M) (K0 K1 : Int32 → kg_M → Prop) : Prop :=
  wp_X6_readInto S M (fun (r : Int32) (M2 : kg_M) => ∀ M5 : kg_M, M5 = kg_row M2 0 (upd (M2 0) 12 (M2 1 5)) → ∀ M8 : kg_M, M8 = kg_row M5 1 (upd (M5 1) 1 (0 : Int32)) → (¬ r = 0 → K0 ((-10 : Int32) - r) M8) ∧ (r = 0 → wp_X5_begin S M8 (fun (Ma : kg_M) => wp_X4_forget Ma (fun (Mb : kg_M) => wp_X2_forget Mb (fun (Mc : kg_M) => ∀ Md : kg_M, Md = kg_row Mc 106 (upd (Mc 106) 0 (0 : Int32)) → ∀ Me : kg_M, Me = kg_row Md 106 (upd (Md 106) 1 (0 : Int32)) → K1 (Me S 1) Me)))))
theorem knS_z {kw : Nat → Nat} {ki : Nat → Bool} {b : Bool} : bs (knS 0 kw ki b) 7 = 0 := by
  rw [show bs (knS 0 kw ki b) 7 = bs (fun _ => false) 7 from bs_cong (fun p _ => by unfold knS; exact decide_eq_false (fun ⟨k, h, _⟩ => absurd h (Nat.not_lt_zero _))), bs_zero]
theorem nI_beq {x : Nat} (h : x ≤ 1) : (nI x == 1) = (x == 1) := by
  rcases Nat.lt_or_ge x 1 with q | q
  · rw [show x = 0 by omega]; rfl
  · rw [show x = 1 by omega]; rfl
theorem RS_new {M : kg_M} {s : pS} (hw : WF s) (h0 : M 3 0 = 0) (h1 : M 3 1 = 0) (h2 : M 3 2 = 0) (h3 : M 3 3 = nI (bs (fun p => s.2.2.2.2.1 p == 1) 7)) (h4 : M 3 4 = nI (bs (fun p => s.2.2.2.2.2.1 p == 1) 7)) (h5 : M 3 5 = 0) (ha : ∀ j, j < 7 → M 4 j = -1) (hb : ∀ j, j < 5 → M 5 j = 0) : RS M 3 (nOf s) := by
  obtain ⟨p, G, P, B, I, C, K⟩ := s
  obtain ⟨w1, w2, w3, w4, w5, w6, w7, w8⟩ := hw
  have nA : ∀ x, x < 7 → nOf (p, G, P, B, I, C, K) x = nI (I x) := fun x hx => by rw [nOf_eq, if_pos hx]
  have nB : ∀ x, x < 7 → nOf (p, G, P, B, I, C, K) (7 + x) = -1 := fun x hx => by rw [nOf_eq, if_neg (by omega), if_pos (by omega)]
  have nC : ∀ x, x < 7 → nOf (p, G, P, B, I, C, K) (14 + x) = nI (C x) := fun x hx => by rw [nOf_eq, if_neg (by omega), if_neg (by omega), if_pos (by omega), show 14 + x - 14 = x by omega]
  have nD : ∀ x, 21 ≤ x → nOf (p, G, P, B, I, C, K) x = 0 := fun x hx => by rw [nOf_eq, if_neg (by omega), if_neg (by omega), if_neg (by omega)]
  refine ⟨by rw [h0, nD _ (by omega)], by rw [h1, nD _ (by omega)], by rw [h2, nD _ (by omega)], ?_, ?_, by rw [h5, nD _ (by omega)], fun x hx => ?_, fun g hg => ?_, fun i c hc e hi => ?_⟩
  · rw [h3]
    congr 1
    refine bs_cong (fun x hx => ?_)
    unfold sd
    rw [nA x hx, nI_beq (w4 x)]
  · rw [h4]
    congr 1
    refine bs_cong (fun x hx => ?_)
    unfold cd
    rw [nC x hx, nI_beq (w5 x)]
  · rw [nB x hx]; exact ha x hx
  · rw [nD _ (by omega)]; exact hb g hg
  · rw [nD _ (by omega)] at e
    have := nI_inj (a := 0) (b := c) (by omega) (by omega) e
    omega
section P47
variable {M : kg_M} {L S : Nat}
theorem p_common {σ : kS} (hC : CI M L S σ) : ∃ (r : Int32) (σ' : kS), wp_X7_common S M (CK L S M r σ') (CK S L M r σ') ∧ ∀ M1, MI M1 σ → wp_X8_common M1 (MK M1 r σ') := by
  obtain ⟨T, N, ⟨U, pu⟩, ⟨im, is, kp⟩, sv, fl, ⟨tn, tx⟩, ⟨kn, kw, ki⟩, ⟨bn, bo, bi⟩⟩ := σ
  obtain ⟨⟨hT, hL⟩, ⟨hW, hS⟩, hU, hM, ⟨hsv, h13⟩, h12, ⟨hn, h11, hx⟩, hN, hB, hLS⟩ := hC
  have hSS : S = 109 ∨ S = 113 := by omega
  obtain ⟨n, e240⟩ : ∃ n : Nat, n = 240 := ⟨_, rfl⟩
  have hgd := prs_gd (tn := tn) (tx := tx) n
  cases hp : prs tn tx n with
  | error e =>
    rw [hp] at hgd
    refine ⟨(-10 : Int32) - nI e.1, (T, N, (U, pu), (im, is, kp), sv, nI e.2, (0, tx), (kn, kw, ki), (bn, bo, bi)), ?_, fun M1 hMI => ?_⟩
    · refine c_readInto e240 hSS hn h11 (fun i hi => (hx i hi).1) (fun M2 r2 z2 => ?_)
      rw [hp] at z2
      have hne := TE_ne z2
      obtain ⟨-, -, g11, -, -, g4, -, g5⟩ := z2
      intro M5 e5 M8 e8
      refine ⟨fun _ => ⟨by rw [g4], ?_, fun k hk => ?_⟩, fun h => absurd h hne⟩
      · have r : ∀ k, k ≠ 0 → k ≠ 1 → (k < S ∨ S + 4 ≤ k) → M8 k = M k := fun k a b c => by rw [e8, kg_row_ne _ _ b, e5, kg_row_ne _ _ a, r2 k b c]
        have q0 : M8 0 = upd (M 0) 12 (nI e.2) := by rw [e8, kg_row_ne _ _ (by decide), e5, kg_row_eq, g5, r2 0 (by decide) (by omega)]
        have q1 : M8 1 1 = 0 := by rw [e8, kg_row_eq, upd_eq]
        refine ⟨⟨hT, RC_of (r _ (by omega) (by omega) (by omega)) (r _ (by omega) (by omega) (by omega)) (r _ (by omega) (by omega) (by omega)) (r _ (by omega) (by omega) (by omega)) hL⟩, ⟨hW, RS_of (r _ (by omega) (by omega) (by omega)) (r _ (by omega) (by omega) (by omega)) (r _ (by omega) (by omega) (by omega)) (r _ (by omega) (by omega) (by omega)) hS⟩, CU_of hU (fun k a b => r k (by omega) (by omega) (by omega)), CM_of hM (fun k a b => r k (by omega) (by omega) (by omega)), ⟨hsv, by rw [q0, upd_ne (by decide)]; exact h13⟩, by rw [q0, upd_eq], ⟨by omega, q1, fun i hi => absurd hi (Nat.not_lt_zero _)⟩, ?_, ?_, hLS⟩
        · unfold CN at *; rw [r 89 (by omega) (by omega) (by omega)]; exact hN
        · unfold CB at *; rw [r 89 (by omega) (by omega) (by omega), r 90 (by omega) (by omega) (by omega), r 91 (by omega) (by omega) (by omega)]; exact hB
      · rw [e8, kg_row_ne _ _ (by omega), e5, kg_row_ne _ _ (by omega), r2 k (by omega) (by omega)]
    · obtain ⟨m1, m2, m3, m4, m5, m6, m7, ⟨m8, m8'⟩, m9, m10⟩ := hMI
      refine m_read e240 hn m8 (fun i hi => ⟨m8' i hi, (hx i hi).2⟩) (fun r M2 f2 z2 => ?_)
      rw [hp] at z2
      obtain ⟨z, z10⟩ := z2
      intro M39 e39
      have r : ∀ k, k ≠ 117 → (k < 124 ∨ 127 < k) → M39 k = M1 k := fun k a b => by rw [e39, kg_row_ne _ _ a, f2.1 k a b]
      have q : ∀ j, j ≠ 9 → (j < 10 ∨ 16 < j) → M39 117 j = M1 117 j := fun j a b => by rw [e39, kg_row_eq, upd_ne a, f2.2 j b]
      rw [z]
      refine ⟨fun h => absurd h (e_nle hgd.1), fun _ => ⟨rfl, ?_, fun k hk => r k (by omega) (by omega)⟩⟩
      unfold MI RT RP RN MU MM MX MN MB at *
      dsimp only at *
      rw [q 0 (by decide) (by decide), q 2 (by decide) (by decide), q 5 (by decide) (by decide), q 20 (by decide) (by decide), q 32 (by decide) (by decide), q 35 (by decide) (by decide), r 118 (by decide) (by decide), r 119 (by decide) (by decide), r 120 (by decide) (by decide), r 121 (by decide) (by decide), r 122 (by decide) (by decide), r 123 (by decide) (by decide), r 128 (by decide) (by decide), r 136 (by decide) (by decide), r 137 (by decide) (by decide), r 138 (by decide) (by decide), r 139 (by decide) (by decide), r 140 (by decide) (by decide), r 141 (by decide) (by decide)]
      refine ⟨m1, m2, m3, m4, m5, m6, ?_, ⟨?_, fun i hi => absurd hi (Nat.not_lt_zero _)⟩, m9, m10⟩
      · rw [e39, kg_row_eq, upd_ne (by decide)]; exact z10
      · rw [e39, kg_row_eq, upd_eq]; rfl
  | ok s =>
    rw [hp] at hgd
    obtain ⟨hle, hwf, -, -⟩ := hgd
    refine ⟨nI (tP (tOf s)), (tOf s, nOf s, (0, pu), (im, is, (fun _ => false)), sv, -1, (0, tx), (0, kw, ki), (0, bo, bi)), ?_, fun M1 hMI => ?_⟩
    · refine c_readInto e240 hSS hn h11 (fun i hi => (hx i hi).1) (fun M2 r2 z2 => ?_)
      rw [hp] at z2
      obtain ⟨⟨-, -, g11, -, -, g4, g5⟩, hd⟩ := z2
      intro M5 e5 M8 e8
      have r : ∀ k, k ≠ 0 → k ≠ 1 → M8 k = M2 k := fun k a b => by rw [e8, kg_row_ne _ _ b, e5, kg_row_ne _ _ a]
      have q0 : M8 0 = upd (M 0) 12 (-1) := by rw [e8, kg_row_ne _ _ (by decide), e5, kg_row_eq, g5, r2 0 (by decide) (by omega)]
      have q1 : M8 1 1 = 0 := by rw [e8, kg_row_eq, upd_eq]
      refine ⟨fun h => absurd g4 h, fun _ Ba ea Bb eb Bc ec Bd ed Be ee Bf ef => ?_⟩
      have rf : ∀ k, k ≠ 3 → Bf k = M8 k := fun k a => by rw [ef, kg_row_ne _ _ a, ee, kg_row_ne _ _ a, ed, kg_row_ne _ _ a, ec, kg_row_ne _ _ a, eb, kg_row_ne _ _ a, ea, kg_row_ne _ _ a]
      have cS : ∀ j, Bc S j = M2 S j := fun j => by rw [ec, kg_row_ne _ _ (by omega), eb, kg_row_ne _ _ (by omega), ea, kg_row_ne _ _ (by omega), r S (by omega) (by omega)]
      have dS : ∀ j, Bd S j = M2 S j := fun j => by rw [ed, kg_row_ne _ _ (by omega)]; exact cS j
      have q3 : Bf 3 = upd (upd (upd (upd (upd (upd (M8 3) 0 0) 1 0) 2 0) 3 (M2 S 2)) 4 (M2 S 3)) 5 0 := by rw [ef, kg_row_eq, ee, kg_row_eq, dS, ed, kg_row_eq, cS, ec, kg_row_eq, eb, kg_row_eq, ea, kg_row_eq]
      refine j_fill (by decide) (fun Bg rg fg => j_fill (by decide) (fun Bh rh fh => ?_))
      intro Bi ei Bj ej Bk ek Bl el Bm em Bn en' Bo eo
      have rh' : ∀ k, k ≠ 3 → k ≠ 4 → k ≠ 5 → Bh k = M8 k := fun k a b c => by rw [rh k c, rg k b, rf k a]
      have rm : ∀ k, k ≠ 7 → k ≠ 89 → k ≠ 106 → Bo k = Bh k := fun k a b c => by rw [eo, kg_row_ne _ _ c, en', kg_row_ne _ _ c, em, kg_row_ne _ _ b, el, kg_row_ne _ _ b, ek, kg_row_ne _ _ b, ej, kg_row_ne _ _ b, ei, kg_row_ne _ _ a]
      have q7 : Bo 7 = upd (M 7) 2 0 := by
        rw [eo, kg_row_ne _ _ (by decide), en', kg_row_ne _ _ (by decide), em, kg_row_ne _ _ (by decide), el, kg_row_ne _ _ (by decide), ek, kg_row_ne _ _ (by decide), ej, kg_row_ne _ _ (by decide), ei, kg_row_eq, rh' 7 (by decide) (by decide) (by decide), r 7 (by decide) (by decide), r2 7 (by decide) (by omega)]
      have q89 : ∀ j, j < 4 → Bo 89 j = 0 := by
        intro j hj
        rw [eo, kg_row_ne _ _ (by decide), en', kg_row_ne _ _ (by decide), em, kg_row_eq]
        by_cases j3 : j = 3
        · rw [j3, upd_eq]
        · rw [upd_ne j3, el, kg_row_eq]
          by_cases j2 : j = 2
          · rw [j2, upd_eq]
          · rw [upd_ne j2, ek, kg_row_eq]
            by_cases j1 : j = 1
            · rw [j1, upd_eq]
            · rw [upd_ne j1, ej, kg_row_eq, show j = 0 by omega, upd_eq]
      have q106 : ∀ j, j < 2 → Bo 106 j = 0 := by
        intro j hj
        rw [eo, kg_row_eq]
        by_cases j1 : j = 1
        · rw [j1, upd_eq]
        · rw [upd_ne j1, en', kg_row_eq, show j = 0 by omega, upd_eq]
      have rS : ∀ j, j < 4 → Bo (S + j) = M2 (S + j) := fun j hj => by rw [rm _ (by omega) (by omega) (by omega), rh' _ (by omega) (by omega) (by omega), r _ (by omega) (by omega)]
      have hRC := RC_of (rS 0 (by omega)) (rS 1 (by omega)) (rS 2 (by omega)) (rS 3 (by omega)) (RD_RC hwf hd)
      have q0' : Bo 0 = upd (M 0) 12 (-1) := by rw [rm 0 (by decide) (by decide) (by decide), rh' 0 (by decide) (by decide) (by decide)]; exact q0
      refine ⟨hRC.2.1, ?_, fun k hk => ?_⟩
      · have b3 : Bo 3 = Bf 3 := by rw [rm 3 (by decide) (by decide) (by decide), rh 3 (by decide), rg 3 (by decide)]
        obtain ⟨uU, -, nx, hnx, hnx1, -⟩ := hU
        refine ⟨⟨WF_LW hwf, hRC⟩, ⟨WF_SW hwf, RS_new hwf (by rw [b3, q3]; rfl) (by rw [b3, q3]; rfl) (by rw [b3, q3]; rfl) ?_ ?_ (by rw [b3, q3]; rfl) (fun j hj => ?_) (fun j hj => ?_)⟩, ⟨by omega, by rw [q7, upd_eq]; rfl, nx, hnx, by rw [q7, upd_ne (by decide)]; exact hnx1, fun u hu => absurd hu (Nat.not_lt_zero _)⟩, fun i hi => ⟨by rw [q106 i hi]; rfl, fun h => Bool.noConfusion h⟩, ⟨hsv, by rw [q0', upd_ne (by decide)]; exact h13⟩, by rw [q0', upd_eq], ⟨by omega, ?_, fun i hi => absurd hi (Nat.not_lt_zero _)⟩, ⟨by omega, fun k hk => absurd hk (Nat.not_lt_zero _), q89 0 (by omega), by rw [q89 1 (by omega), knS_z]; rfl, by rw [q89 2 (by omega), knS_z]; rfl⟩, ⟨by omega, q89 3 (by omega), fun k hk => absurd hk (Nat.not_lt_zero _)⟩, by omega⟩
        · rw [b3, q3, upd_ne (by decide), upd_ne (by decide), upd_eq]
          obtain ⟨p, G, P, B, I, C, K⟩ := s
          exact hd.2.2.1
        · rw [b3, q3, upd_ne (by decide), upd_eq]
          obtain ⟨p, G, P, B, I, C, K⟩ := s
          exact hd.2.2.2.1
        · rw [rm 4 (by decide) (by decide) (by decide), rh 4 (by decide)]; exact fg j hj
        · rw [rm 5 (by decide) (by decide) (by decide)]; exact fh j hj
        · rw [rm 1 (by decide) (by decide) (by decide), rh' 1 (by decide) (by decide) (by decide)]; exact q1
      · rw [rm k (by omega) (by omega) (by omega), rh' k (by omega) (by omega) (by omega), r k (by omega) (by omega), r2 k (by omega) (by omega)]
    · obtain ⟨m1, m2, m3, m4, m5, m6, m7, ⟨m8, m8'⟩, m9, m10⟩ := hMI
      refine m_read e240 hn m8 (fun i hi => ⟨m8' i hi, (hx i hi).2⟩) (fun r M2 f2 z2 => ?_)
      rw [hp] at z2
      obtain ⟨z, z10, zd⟩ := z2
      intro M39 e39
      rw [z]
      refine ⟨fun _ => ?_, fun h => absurd (by decide) h⟩
      have zd' : RM M39 s := by
        obtain ⟨p, G, P, B, I, C, K⟩ := s
        unfold RM at *
        rw [e39, kg_row_eq, upd_ne (by decide), upd_ne (by decide), kg_row_ne _ _ (by decide), kg_row_ne _ _ (by decide), kg_row_ne _ _ (by decide), kg_row_ne _ _ (by decide)]
        exact zd
      refine m_takeRead hwf zd' (fun M45 hRT hRN r45 s45 M48 e48 M51 e51 M54 e54 => ⟨lit_in 0 2 (by decide) (by decide), fun M59 e59 => ⟨lit_in 1 2 (by decide) (by decide), fun M64 e64 => ?_⟩⟩)
      have r : ∀ k, k ≠ 117 → k ≠ 141 → M64 k = M45 k := fun k a b => by rw [e64, kg_row_ne _ _ b, e59, kg_row_ne _ _ b, e54, kg_row_ne _ _ a, e51, kg_row_ne _ _ a, e48, kg_row_ne _ _ a]
      have q : M64 117 = upd (upd (upd (M45 117) 32 0) 35 0) 20 0 := by rw [e64, kg_row_ne _ _ (by decide), e59, kg_row_ne _ _ (by decide), e54, kg_row_eq, e51, kg_row_eq, e48, kg_row_eq]
      have q' : ∀ j, j ≠ 32 → j ≠ 35 → j ≠ 20 → M64 117 j = M45 117 j := fun j a b c => by rw [q, upd_ne c, upd_ne b, upd_ne a]
      have q141 : ∀ j, j < 2 → M64 141 j = 0 := by
        intro j hj
        rw [e64, kg_row_eq, lit_cl 1 (by decide)]
        by_cases j1 : j = 1
        · rw [j1, upd_eq]
        · rw [upd_ne j1, e59, kg_row_eq, show j = 0 by omega]; rfl
      have t39 : ∀ j, j ≠ 9 → (j < 10 ∨ 16 < j) → M39 117 j = M1 117 j := fun j a b => by rw [e39, kg_row_eq, upd_ne a, f2.2 j b]
      have rr : ∀ k, k ≠ 117 → k ≠ 118 → k ≠ 119 → k ≠ 120 → k ≠ 141 → (k < 124 ∨ 127 < k) → M64 k = M1 k := fun k a b c d e f => by rw [r k a e, r45 k a b c d, e39, kg_row_ne _ _ a, f2.1 k a f]
      have hq2 : M64 117 2 = nI (tP (tOf s)) := by rw [q' 2 (by decide) (by decide) (by decide)]; exact hRT.2.1
      refine ⟨hq2, ?_, fun k hk => rr k (by omega) (by omega) (by omega) (by omega) (by omega) (by omega)⟩
      unfold MI RT RP RN MU MM MX MN MB at *
      dsimp only at *
      refine ⟨⟨?_, hq2, ?_, ?_⟩, ?_, ?_, ⟨?_, fun u hu => absurd hu (Nat.not_lt_zero _)⟩, fun i hi => ⟨by rw [q141 i hi]; rfl, fun h => Bool.noConfusion h⟩, ?_, ?_, ⟨?_, fun i hi => absurd hi (Nat.not_lt_zero _)⟩, ⟨?_, fun i hi => absurd hi (Nat.not_lt_zero _)⟩, ⟨?_, fun i hi => absurd hi (Nat.not_lt_zero _)⟩⟩
      · rw [q' 0 (by decide) (by decide) (by decide)]; exact hRT.1
      · rw [r 118 (by decide) (by decide)]; exact hRT.2.2.1
      · rw [r 119 (by decide) (by decide)]; exact hRT.2.2.2
      · rw [rr 121 (by decide) (by decide) (by decide) (by decide) (by decide) (by decide), rr 122 (by decide) (by decide) (by decide) (by decide) (by decide) (by decide)]; exact m2
      · rw [r 120 (by decide) (by decide)]; exact hRN
      · rw [q, upd_eq]; rfl
      · rw [q' 5 (by decide) (by decide) (by decide), s45 5 (by decide) (by decide), t39 5 (by decide) (by decide)]; exact m6
      · rw [q' 10 (by decide) (by decide) (by decide), s45 10 (by decide) (by decide), e39, kg_row_eq, upd_ne (by decide)]; exact z10
      · rw [q' 9 (by decide) (by decide) (by decide), s45 9 (by decide) (by decide), e39, kg_row_eq, upd_eq]; rfl
      · rw [q, upd_ne (by decide), upd_ne (by decide), upd_eq]; rfl
      · rw [q, upd_ne (by decide), upd_eq]; rfl
end P47
