/-! ===== atOnce, steady ===== -/
theorem best_ex {T : kT} (hT : LW T) (D : Nat → Nat → Bool) (most : Nat) : ∃ w, Cp D most (fun _ => 7) 0 w ∧ ∀ w', Cp D most (fun _ => 7) 0 w' → Vl (tL T) w' ≤ Vl (tL T) w := by
  have h9 : ∀ p q, tL T p q ≤ 9 := hT.2.2.2.1
  have go : ∀ d w, Cp D most (fun _ => 7) 0 w → 20000000000 ≤ Vl (tL T) w + d → ∃ w, Cp D most (fun _ => 7) 0 w ∧ ∀ w', Cp D most (fun _ => 7) 0 w' → Vl (tL T) w' ≤ Vl (tL T) w := by
    intro d
    induction d with
    | zero =>
      intro w hw hv
      have a := mu_bd (w := w) h9
      have b := cn_bd (w := w)
      unfold Vl at hv
      omega
    | succ d ih =>
      intro w hw hv
      rcases Classical.em (∃ w', Cp D most (fun _ => 7) 0 w' ∧ Vl (tL T) w < Vl (tL T) w') with ⟨w', h1, h2⟩ | h
      · exact ih w' h1 (by omega)
      · exact ⟨w, hw, fun w' hw' => by
          rcases Nat.lt_or_ge (Vl (tL T) w) (Vl (tL T) w') with q | q
          · exact absurd ⟨w', hw', q⟩ h
          · exact q⟩
  exact go 20000000000 (fun _ => 7) ⟨fun _ _ => Or.inl rfl, by show 0 ≤ _; omega, fun _ _ => rfl⟩ (by omega)
section P20
variable {M : kg_M} {L S : Nat} {T : kT} {N : Nat → Int32}
/-- the two searches, with the best given ahead -/
theorem c_find' {w : Nat → Nat} {K : kg_M → Prop} (hLr : L = 109 ∨ L = 113) (hT : LW T) (hL : RC M L T) (hw : Cp (wd T N) (opn T N) (fun _ => 7) 0 w) (hb : ∀ w', Cp (wd T N) (opn T N) (fun _ => 7) 0 w' → Vl (tL T) w' ≤ Vl (tL T) w) (hK : ∀ M', fr3 M M' → M' 92 2 = nI (cn w / 2) → M' 92 3 = nI (mu (tL T) w) → (∀ j, j < 7 → M' 93 j = en (w j)) → K M') : wp_X3_find L (nI (bs (sd N) 7)) (nI (opn T N)) M K := by
  refine c_find hLr hT (by have := hT.1; unfold opn; omega) hL (fun M' w' hf hB hC hm => ?_)
  obtain ⟨m, g1, g2, g3, g4, g5⟩ := hB
  obtain ⟨u1, u2, u3⟩ := Vl_uniq hT.2.2.2.1 hC.1 hw.1 (hb w' hC) (hm w hw)
  exact hK M' hf (by rw [g2, ← u2, g1, show 2 * m / 2 = m by omega]) (by rw [g3, u3]) (fun j hj => by rw [g5 j hj, u1 j hj])
theorem m_find' {w : Nat → Nat} {K : kg_M → Prop} (hR : RT M T) (hP : RP M) (hT : LW T) (hN : RN M N) (hW : SW T N) (hw : Cp (wd T N) (opn T N) (fun _ => 7) 0 w) (hb : ∀ w', Cp (wd T N) (opn T N) (fun _ => 7) 0 w' → Vl (tL T) w' ≤ Vl (tL T) w) (hK : ∀ M', frM M M' → M' 117 25 = nI (cn w / 2) → M' 117 26 = nI (mu (tL T) w) → (∀ j, j < 7 → M' 131 j = nI (w j)) → K M') : wp_X8_findAtOnce M K := by
  refine m_findAtOnce hR hP hT hN hW (fun M' w' hf hB hC hm => ?_)
  obtain ⟨m, g1, g2, g3, g5⟩ := hB
  obtain ⟨u1, u2, u3⟩ := Vl_uniq hT.2.2.2.1 hC.1 hw.1 (hb w' hC) (hm w hw)
  exact hK M' hf (by rw [g2, ← u2, g1, show 2 * m / 2 = m by omega]) (by rw [g3, u3]) (fun j hj => by rw [g5 j hj, u1 j hj])
theorem MI_fr {M' : kg_M} {σ : kS} (h : MI M σ) (hf : frM M M') : MI M' σ := MI_of h (fun k hk => hf.1 k (by omega) (by omega) (by omega) (by omega)) (fun j hj => hf.2 j (by omega) (by omega))
theorem CI_fr {M' : kg_M} {σ : kS} (h : CI M L S σ) (hf : fr3 M M') : CI M' L S σ := CI_of h (fun k hk => hf k (fun e => hk (by unfold scr; omega)) (fun e => hk (by unfold scr; omega)) (fun e => hk (by unfold scr; omega)))
theorem p_atOnce {σ : kS} (v : Int32) (hC : CI M L S σ) : Pair L S M σ (wp_X7_atOnce L v) (wp_X8_atOnce v) := by
  obtain ⟨T, N, ⟨U, pu⟩, ⟨im, is, kp⟩, sv, fl, ⟨tn, tx⟩, ⟨kn, kw, ki⟩, ⟨bn, bo, bi⟩⟩ := σ
  obtain ⟨⟨hT, hRC⟩, ⟨hSW, hRS⟩, hCU, hCM, hsv, hfl, hCX, hCN, hCB, hLS⟩ := id hC
  have h7 := hT.2.1
  have h5 := hT.1
  have hLr : L = 109 ∨ L = 113 := by omega
  obtain ⟨w, hw, hb⟩ := best_ex hT (wd T N) (opn T N)
  have cj : ∀ r : Int32, (∀ M' : kg_M, (v = -1 → M' 92 2 = nI (cn w / 2) → M' 92 2 = r) ∧ (v = -2 → M' 92 3 = nI (mu (tL T) w) → M' 92 3 = r) ∧ (¬ v = -1 → ¬ v = -2 → (∀ j, j < 7 → M' 93 j = en (w j)) → vp_in v 7 ∧ M' 93 v.toNatClampNeg = r)) → wJ_X7_atOnce_25 L (CK L S M r (T, N, (U, pu), (im, is, kp), sv, fl, (tn, tx), (kn, kw, ki), (bn, bo, bi))) v M := by
    intro r hr
    refine c_openGates hRC hT hRS hSW ?_
    rw [hRS.2.2.2.1]
    refine c_find' hLr hT hRC hw hb (fun M9 hf e2 e3 e93 => ?_)
    obtain ⟨r1, r2, r3⟩ := hr M9
    have hCI := CI_fr hC hf
    have fk : ∀ k, 117 ≤ k → M9 k = M k := fun k hk => hf k (by omega) (by omega) (by omega)
    exact ⟨fun a => ⟨fun b => ⟨(r3 a b e93).1, (r3 a b e93).2, hCI, fk⟩, fun b => ⟨r2 b e3, hCI, fk⟩⟩, fun a => ⟨r1 a e2, hCI, fk⟩⟩
  have mj : ∀ r : Int32, (∀ M' : kg_M, (v = -1 → M' 117 25 = nI (cn w / 2) → M' 117 25 = r) ∧ (v = -2 → M' 117 26 = nI (mu (tL T) w) → M' 117 26 = r) ∧ (¬ v = -1 → ¬ v = -2 → (∀ j, j < 7 → M' 131 j = nI (w j)) → vp_in v 7 ∧ (¬ M' 131 v.toNatClampNeg = 7 → M' 131 v.toNatClampNeg = r) ∧ (M' 131 v.toNatClampNeg = 7 → -1 = r))) → ∀ M1, MI M1 (T, N, (U, pu), (im, is, kp), sv, fl, (tn, tx), (kn, kw, ki), (bn, bo, bi)) → wJ_X8_atOnce_22 (MK M1 r (T, N, (U, pu), (im, is, kp), sv, fl, (tn, tx), (kn, kw, ki), (bn, bo, bi))) v M1 := by
    intro r hr M1 hM
    refine m_find' hM.1 hM.2.1 hT hM.2.2.1 hSW hw hb (fun M6 hf e25 e26 e131 => ?_)
    obtain ⟨r1, r2, r3⟩ := hr M6
    have hMI := MI_fr hM hf
    have fk : ∀ k, k < 117 → M6 k = M1 k := fun k hk => hf.1 k (by omega) (by omega) (by omega) (by omega)
    exact ⟨fun a => ⟨fun b => ⟨(r3 a b e131).1, fun c => ⟨(r3 a b e131).1, (r3 a b e131).2.1 c, hMI, fk⟩, fun c => ⟨(r3 a b e131).2.2 c, hMI, fk⟩⟩, fun b => ⟨r2 b e26, hMI, fk⟩⟩, fun a => ⟨r1 a e25, hMI, fk⟩⟩
  by_cases e1 : v = -1
  · refine ⟨nI (cn w / 2), (T, N, (U, pu), (im, is, kp), sv, fl, (tn, tx), (kn, kw, ki), (bn, bo, bi)), ⟨fun _ => cj _ (fun M' => ⟨fun _ h => h, fun h => absurd (e1.symm.trans h) (by decide), fun h => absurd e1 h⟩), fun h => absurd e1 h⟩, fun M1 hM => ⟨fun _ => mj _ (fun M' => ⟨fun _ h => h, fun h => absurd (e1.symm.trans h) (by decide), fun h => absurd e1 h⟩) M1 hM, fun h => absurd e1 h⟩⟩
  by_cases e2 : v = -2
  · refine ⟨nI (mu (tL T) w), (T, N, (U, pu), (im, is, kp), sv, fl, (tn, tx), (kn, kw, ki), (bn, bo, bi)), ⟨fun h => absurd h e1, fun _ => ⟨fun _ => cj _ (fun M' => ⟨fun h => absurd h e1, fun _ h => h, fun _ h => absurd e2 h⟩), fun h => absurd e2 h⟩⟩, fun M1 hM => ⟨fun h => absurd h e1, fun _ => ⟨fun _ => mj _ (fun M' => ⟨fun h => absurd h e1, fun _ h => h, fun _ h => absurd e2 h⟩) M1 hM, fun h => absurd e2 h⟩⟩⟩
  rcases ix_cases v (tP T) (by omega) with hv | ⟨p, hp, rfl⟩
  · exact ⟨-1000000001, (T, N, (U, pu), (im, is, kp), sv, fl, (tn, tx), (kn, kw, ki), (bn, bo, bi)), ⟨fun h => absurd h e1, fun _ => ⟨fun h => absurd h e2, fun _ => c_hasPerson_f hRC hv ⟨fun h => absurd rfl h, fun _ => CK_s hC rfl⟩⟩⟩, fun M1 hM => ⟨fun h => absurd h e1, fun _ => ⟨fun h => absurd h e2, fun _ => m_isPerson_f hM.1 hT hv ⟨fun h => absurd rfl h, fun _ => MK_s hM rfl⟩⟩⟩⟩
  have ip : vp_in (nI p) 7 := in_nI (by omega) (by decide)
  have wl := Mt_le hw.1 (show p < 7 by omega)
  refine ⟨en (w p), (T, N, (U, pu), (im, is, kp), sv, fl, (tn, tx), (kn, kw, ki), (bn, bo, bi)), ⟨fun h => absurd h e1, fun _ => ⟨fun h => absurd h e2, fun _ => c_hasPerson_t hRC hT hp ⟨fun _ => cj _ (fun M' => ⟨fun h => absurd h e1, fun h => absurd h e2, fun _ _ h => ⟨ip, by rw [cl_nI (by omega)]; exact h p (by omega)⟩⟩), fun h => absurd h (by decide)⟩⟩⟩, fun M1 hM => ⟨fun h => absurd h e1, fun _ => ⟨fun h => absurd h e2, fun _ => m_isPerson_t hM.1 hT hp ⟨fun _ => mj _ (fun M' => ⟨fun h => absurd h e1, fun h => absurd h e2, fun _ _ h => ?_⟩) M1 hM, fun h => absurd h (by decide)⟩⟩⟩⟩
  rw [cl_nI (by omega), h p (by omega)]
  refine ⟨ip, fun h2 => ?_, fun h2 => ?_⟩
  · have : w p ≠ 7 := fun e => h2 (by rw [e]; rfl)
    unfold en; rw [if_neg this]
  · have : w p = 7 := (nI_eq (b := 7) (by omega) (by decide)).mp h2
    unfold en; rw [if_pos this]
/-! steady -/
def bad (T : kT) (N : Nat → Int32) (w : Nat → Nat) (p q : Nat) : Bool := wd T N p q && decide (m1 (tL T) w p < tL T p q) && decide (m1 (tL T) w q < tL T q p)
theorem c_wouldRather {w : Nat → Nat} {p q : Nat} {K : Int32 → kg_M → Prop} (hL : RC M L T) (hT : LW T) (hw : Mt (wd T N) w) (h93 : ∀ j, j < 7 → M 93 j = en (w j)) (hp : p < tP T) (hq : q < tP T) (ht : m1 (tL T) w p < tL T p q → K 1 M) (hf : ¬ m1 (tL T) w p < tL T p q → K 0 M) : wp_X7_wouldRather L (nI p) (nI q) M K := by
  have h7 := hT.2.1
  have h9 := hT.2.2.2.1
  have J : ∀ s0, s0 = nI (m1 (tL T) w p) → wJ_X7_wouldRather_28 L K (nI p) (nI q) s0 M := by
    intro s0 hs
    have hm : m1 (tL T) w p ≤ 9 := by unfold m1; split; omega; exact h9 _ _
    have := h9 p q
    rw [hs]
    refine c_liking hL hT hp hq ⟨fun h => hf ?_, fun h => ht ?_⟩
    · have := (nI_leI (by omega) (by omega)).mp h; omega
    · rcases Nat.lt_or_ge (m1 (tL T) w p) (tL T p q) with z | z
      · exact z
      · exact absurd (nI_le z (by omega)) h
  have wl := Mt_le hw (show p < 7 by omega)
  unfold wp_X7_wouldRather
  rw [cl_nI (by omega), h93 p (by omega)]
  refine ⟨in_nI (by omega) (by decide), fun h => ?_, fun h => ?_⟩
  · have hne : w p ≠ 7 := fun e => h ((en_7 wl).mpr e)
    obtain ⟨a1, a2, a3⟩ := (hw p (by omega)).resolve_left hne
    have hlt := ((wd_DW hT).2 _ _ a3).2.1
    have e : en (w p) = nI (w p) := by unfold en; rw [if_neg hne]
    rw [e]
    refine c_liking hL hT hp hlt (J _ ?_)
    unfold m1; rw [if_neg hne]
  · have he : w p = 7 := (en_7 wl).mp h
    exact J _ (by unfold m1; rw [if_pos he]; rfl)
theorem m_likesNow {w : Nat → Nat} {p : Nat} {K : Int32 → kg_M → Prop} (hR : RT M T) (hw : Mt (wd T N) w) (h131 : ∀ j, j < 7 → M 131 j = nI (w j)) (hp : p < 7) (hK : K (nI (m1 (tL T) w p)) M) : wp_X8_likesNow (nI p) M K := by
  have wl := Mt_le hw hp
  have ip : vp_in (nI p) 7 := in_nI hp (by decide)
  unfold wp_X8_likesNow
  rw [cl_nI (a := p) (by omega), h131 p hp, nI_7]
  unfold m1 at hK
  by_cases e : w p = 7
  · rw [if_pos e] at hK
    exact ⟨ip, fun h => absurd (by rw [e]; rfl) h, fun _ => hK⟩
  · rw [if_neg e] at hK
    rw [cl_nI (by omega), hR.2.2.2 p (w p) hp (by omega)]
    exact ⟨ip, fun _ => ⟨ip, in_nI (by omega) (by decide), hK⟩, fun h => absurd ((nI_eq (b := 7) (by omega) (by decide)).mp h) e⟩
theorem p_steady {σ : kS} (hC : CI M L S σ) : Pair L S M σ (wp_X7_steady L) wp_X8_steady := by
  obtain ⟨T, N, ⟨U, pu⟩, ⟨im, is, kp⟩, sv, fl, ⟨tn, tx⟩, ⟨kn, kw, ki⟩, ⟨bn, bo, bi⟩⟩ := σ
  obtain ⟨⟨hT, hRC⟩, ⟨hSW, hRS⟩, hCU, hCM, hsv, hfl, hCX, hCN, hCB, hLS⟩ := id hC
  have h7 := hT.2.1
  have h5 := hT.1
  have hLr : L = 109 ∨ L = 113 := by omega
  have h9 := hT.2.2.2.1
  obtain ⟨w, hw, hb⟩ := best_ex hT (wd T N) (opn T N)
  have hD := wd_DW (N := N) hT
  have m9 : ∀ p, m1 (tL T) w p ≤ 9 := fun p => by unfold m1; split; omega; exact h9 _ _
  have go : ∀ r : Int32, ((∃ p q, p < q ∧ q < tP T ∧ bad T N w p q = true) → r = 0) → ((∀ p q, p < q → q < tP T → bad T N w p q = false) → r = 1) → Pair L S M (T, N, (U, pu), (im, is, kp), sv, fl, (tn, tx), (kn, kw, ki), (bn, bo, bi)) (wp_X7_steady L) wp_X8_steady := by
    intro r hr0 hr1
    refine ⟨r, (T, N, (U, pu), (im, is, kp), sv, fl, (tn, tx), (kn, kw, ki), (bn, bo, bi)), c_openGates hRC hT hRS hSW ?_, fun M1 hM => m_find' hM.1 hM.2.1 hT hM.2.2.1 hSW hw hb (fun M2 hf e25 e26 e131 => ?_)⟩
    · rw [hRS.2.2.2.1]
      refine c_find' hLr hT hRC hw hb (fun M5 hf e2 e3 e93 => ?_)
      have hCI := CI_fr hC hf
      have fk : ∀ k, 117 ≤ k → M5 k = M k := fun k hk => hf k (by omega) (by omega) (by omega)
      have fL : ∀ k, k ≠ 92 → k ≠ 93 → k ≠ 94 → M5 k = M k := hf
      have hL5 : RC M5 L T := RC_of (hf _ (by omega) (by omega) (by omega)) (hf _ (by omega) (by omega) (by omega)) (hf _ (by omega) (by omega) (by omega)) (hf _ (by omega) (by omega) (by omega)) hRC
      have e33 : M5 3 3 = nI (bs (sd N) 7) := by rw [hf 3 (by decide) (by decide) (by decide)]; exact hRS.2.2.2.1
      refine ⟨_, for_loop (fun f (_ : Unit) i => wL_X7_steady_24 L _ _ _ f i M5) (fun p _ => ∀ a q, a < p → a < q → q < tP T → bad T N w a q = false) (tP T) () (fun a q h => absurd h (Nat.not_lt_zero _)) (fun f _ h => ?_) (fun f p _ hp h ih => ?_)⟩
      · rw [wL_X7_steady_24, hL5.2.1]
        exact ⟨fun _ => ⟨(hr1 (fun p q h1 h2 => h p q (by omega) h1 h2)).symm, hCI, fk⟩, fun h => absurd (nI_le (Nat.le_refl _) (by omega)) h⟩
      · rw [wL_X7_steady_24, hL5.2.1, e33, nI_1 p]
        refine ⟨fun h => absurd h (nI_ge hp (by omega)), fun _ => c_wouldMeet hL5 (by omega) ⟨_, for_from (fun f2 (_ : Unit) i => wL_X7_steady_55 L _ _ _ f2 (nI p) (nI (bs (wd T N p) 7)) i M5) (fun q _ => ∀ x, p < x → x < q → bad T N w p x = false) (p + 1) (tP T) (by omega) () (fun x h1 h2 => by omega) (fun f2 _ h2 => ?_) (fun f2 q _ hq1 hq2 h2 ih2 => ?_)⟩⟩
        · rw [wL_X7_steady_55, hL5.2.1]
          refine ⟨fun _ => ?_, fun h => absurd (nI_le (Nat.le_refl _) (by omega)) h⟩
          rw [nI_1 p]
          exact ih () (fun a q h3 h4 h5 => by
            rcases Nat.lt_or_ge a p with z | z
            · exact h a q z h4 h5
            · have e : a = p := by omega
              subst e; exact h2 q h4 h5)
        · rw [wL_X7_steady_55, hL5.2.1, bs_has (by omega) (show q < 7 by omega), nI_1 q]
          have nx : bad T N w p q = false → wL_X7_steady_55 L (fun (M_1 : kg_M) => CK L S M r (T, N, (U, pu), (im, is, kp), sv, fl, (tn, tx), (kn, kw, ki), (bn, bo, bi)) 0 M_1) (fun (v1 : Int32) (M_1 : kg_M) => wL_X7_steady_24 L (fun (M_2 : kg_M) => CK L S M r (T, N, (U, pu), (im, is, kp), sv, fl, (tn, tx), (kn, kw, ki), (bn, bo, bi)) 0 M_2) (fun (M_2 : kg_M) => CK L S M r (T, N, (U, pu), (im, is, kp), sv, fl, (tn, tx), (kn, kw, ki), (bn, bo, bi)) 1 M_2) (CK L S M r (T, N, (U, pu), (im, is, kp), sv, fl, (tn, tx), (kn, kw, ki), (bn, bo, bi))) f (v1 + (1 : Int32)) M_1) (CK L S M r (T, N, (U, pu), (im, is, kp), sv, fl, (tn, tx), (kn, kw, ki), (bn, bo, bi))) f2 (nI p) (nI (bs (wd T N p) 7)) (nI (q + 1)) M5 := fun hbad => ih2 () (fun x h3 h4 => by
            rcases Nat.lt_or_ge x q with z | z
            · exact h2 x h3 z
            · have e : x = q := by omega
              subst e; exact hbad)
          refine ⟨fun h => absurd h (nI_ge hq2 (by omega)), fun _ => ⟨fun h => nx ?_, fun hwd => c_wouldRather hL5 hT hw.1 e93 hp hq2 (fun a1 => ⟨fun h => absurd h (by decide), fun _ => c_wouldRather hL5 hT hw.1 e93 hq2 hp (fun a2 => ⟨fun h => absurd h (by decide), fun _ => ?_⟩) (fun a2 => ⟨fun _ => nx ?_, fun h => absurd rfl h⟩)⟩) (fun a1 => ⟨fun _ => nx ?_, fun h => absurd rfl h⟩)⟩⟩
          · cases e : wd T N p q with
            | true => rw [e] at h; exact absurd rfl h
            | false => unfold bad; rw [e]; rfl
          · have hwd' : wd T N p q = true := by
              cases e : wd T N p q with
              | true => rfl
              | false => rw [e] at hwd; exact absurd hwd (by decide)
            exact ⟨(hr0 ⟨p, q, by omega, hq2, by unfold bad; rw [hwd', decide_eq_true a1, decide_eq_true a2]; rfl⟩).symm, hCI, fk⟩
          · unfold bad; rw [decide_eq_false a2, Bool.and_false]
          · unfold bad; rw [decide_eq_false a1, Bool.and_false, Bool.false_and]
    · have hMI := MI_fr hM hf
      have fk : ∀ k, k < 117 → M2 k = M1 k := fun k hk => hf.1 k (by omega) (by omega) (by omega) (by omega)
      obtain ⟨u1, u2, u3, -⟩ := id hMI
      refine ⟨_, find_loop (fun f i => wL_X8_steady_6 _ _ _ f i M2) (fun k => bad T N w (pO k) (pT k)) 21 (fun h f => ?_) (fun f k hk hc hbf => ?_) (fun f k hk hc ih => ?_)⟩
      · rw [wL_X8_steady_6]
        refine ⟨fun _ => ⟨(hr1 (fun p q h1 h2 => ?_)).symm, hMI, fk⟩, fun h => absurd (by decide) h⟩
        obtain ⟨i1, i2, i3⟩ := ix_ok p (by omega) q (by omega) h1
        have := h (ix p q) i3
        rw [i1, i2] at this
        exact this
      · obtain ⟨o1, o2, -⟩ := ix_of k hk
        obtain ⟨p1, p2⟩ := u2 k hk
        have hbk : bad T N w (pO k) (pT k) = true := hc
        unfold bad at hbk
        simp only [Bool.and_eq_true, decide_eq_true_eq] at hbk
        obtain ⟨⟨x1, x2⟩, x3⟩ := hbk
        have hlt := hD.2 _ _ x1
        have g1 := h9 (pO k) (pT k)
        have g2 := h9 (pT k) (pO k)
        have g3 := m9 (pO k)
        have g4 := m9 (pT k)
        rw [wL_X8_steady_6, cl_nI (by omega), p1, p2, nI_7, nI_7, cl_nI (by omega), cl_nI (by omega)]
        refine ⟨fun h => absurd h (nI_ge (a := k) (b := 21) hk (by decide)), fun _ => ⟨in_nI hk (by decide), in_nI hk (by decide), m_would u1 hT u3 hSW (by omega) (by omega) (by omega) (fun _ => ⟨fun h => absurd h (by decide), fun _ => ⟨in_nI (by omega) (by decide), m_likesNow u1 hw.1 e131 (by omega) ?_⟩⟩) (fun e => by rw [x1] at e; exact absurd e (by decide))⟩⟩
        rw [u1.2.2.2 (pO k) (pT k) (by omega) (by omega)]
        refine ⟨fun h => absurd h (nI_ge x2 (by omega)), fun _ => ⟨in_nI (by omega) (by decide), m_likesNow u1 hw.1 e131 (by omega) ?_⟩⟩
        rw [u1.2.2.2 (pT k) (pO k) (by omega) (by omega)]
        exact ⟨fun h => absurd h (nI_ge x3 (by omega)), fun _ => ⟨(hr0 ⟨pO k, pT k, o1, hlt.2.1, hc⟩).symm, hMI, fk⟩⟩
      · obtain ⟨o1, o2, -⟩ := ix_of k hk
        obtain ⟨p1, p2⟩ := u2 k hk
        have g1 := h9 (pO k) (pT k)
        have g2 := h9 (pT k) (pO k)
        have g3 := m9 (pO k)
        have g4 := m9 (pT k)
        rw [wL_X8_steady_6, cl_nI (by omega), p1, p2, nI_7, nI_7, cl_nI (by omega), cl_nI (by omega), nI_1 k]
        refine ⟨fun h => absurd h (nI_ge (a := k) (b := 21) hk (by decide)), fun _ => ⟨in_nI hk (by decide), in_nI hk (by decide), m_would u1 hT u3 hSW (by omega) (by omega) (by omega) (fun x1 => ⟨fun h => absurd h (by decide), fun _ => ⟨in_nI (by omega) (by decide), m_likesNow u1 hw.1 e131 (by omega) ?_⟩⟩) (fun e => ⟨fun _ => ih, fun h => absurd rfl h⟩)⟩⟩
        rw [u1.2.2.2 (pO k) (pT k) (by omega) (by omega)]
        refine ⟨fun _ => ih, fun h => ⟨in_nI (by omega) (by decide), m_likesNow u1 hw.1 e131 (by omega) ?_⟩⟩
        rw [u1.2.2.2 (pT k) (pO k) (by omega) (by omega)]
        refine ⟨fun _ => ih, fun h2 => ?_⟩
        have x2 : m1 (tL T) w (pO k) < tL T (pO k) (pT k) := by
          rcases Nat.lt_or_ge (m1 (tL T) w (pO k)) (tL T (pO k) (pT k)) with z | z
          · exact z
          · exact absurd (nI_le z (by omega)) h
        have x3 : m1 (tL T) w (pT k) < tL T (pT k) (pO k) := by
          rcases Nat.lt_or_ge (m1 (tL T) w (pT k)) (tL T (pT k) (pO k)) with z | z
          · exact z
          · exact absurd (nI_le z (by omega)) h2
        have : bad T N w (pO k) (pT k) = true := by unfold bad; rw [x1, decide_eq_true x2, decide_eq_true x3]; rfl
        have hc' : bad T N w (pO k) (pT k) = false := hc
        rw [this] at hc'
        exact absurd hc' (by decide)
  rcases Classical.em (∃ p q, p < q ∧ q < tP T ∧ bad T N w p q = true) with h | h
  · obtain ⟨p, q, h1, h2, h3⟩ := h
    exact go 0 (fun _ => rfl) (fun hall => by rw [hall p q h1 h2] at h3; exact absurd h3 (by decide))
  · exact go 1 (fun hx => absurd hx h) (fun _ => rfl)
end P20
