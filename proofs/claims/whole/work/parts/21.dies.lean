/-! ===== dies ===== -/
def lf (T : kT) (N : Nat → Int32) (g : Nat) : Nat := tB T g - (N (21 + g)).toNatClampNeg
/-- the gate that rusts next, of those below k -/
def bd (T : kT) (N : Nat → Int32) : Nat → Option Nat
  | 0 => none
  | k + 1 => if N (26 + k) = 0 then (match bd T N k with
    | none => some k
    | some b => if lf T N k < lf T N b then some k else some b) else bd T N k
def oI (x : Option Nat) : Int32 := match x with
  | none => -1
  | some b => nI b
theorem bd_lt (T : kT) (N : Nat → Int32) : ∀ k b, bd T N k = some b → b < k ∧ N (26 + b) = 0
  | 0, b, h => by cases h
  | k + 1, b, h => by
    rw [bd] at h
    split at h
    · next hr =>
      cases hb : bd T N k with
      | none => rw [hb] at h; cases h; exact ⟨by omega, hr⟩
      | some c =>
        rw [hb] at h
        dsimp only at h
        split at h
        · cases h; exact ⟨by omega, hr⟩
        · have e := Option.some.inj h
          rw [← e]
          have := bd_lt T N k c hb
          exact ⟨by omega, this.2⟩
    · have := bd_lt T N k b h; exact ⟨by omega, this.2⟩
section P6
variable {M : kg_M} {L S : Nat} {T : kT} {N : Nat → Int32} {K : Int32 → kg_M → Prop}
theorem left_val (hT : LW T) (hW : SW T N) {g : Nat} (hg : g < tG T) : nI (tB T g) - N (21 + g) = nI (lf T N g) ∧ (N (26 + g) = 0 ↔ 1 ≤ lf T N g) ∧ lf T N g ≤ 99 := by
  obtain ⟨u, h1, h2, h3⟩ := hW.2.2.2.2.2.2.1 g hg
  have hb := hT.2.2.1 g hg
  have e : lf T N g = tB T g - u := by unfold lf; rw [h2, cl_nI (by omega)]
  rw [e, h2, h3, pk_sub h1]
  refine ⟨rfl, ?_, by omega⟩
  by_cases h : tB T g ≤ u
  · rw [if_pos h]; constructor
    · intro h0; exact absurd h0 (by decide)
    · intro h0; omega
  · rw [if_neg h]; constructor
    · intro _; omega
    · intro _; rfl
theorem c_dies {v : Int32} (hL : RC M L T) (hT : LW T) (hS : RS M 3 N) (hW : SW T N) {Kx : Int32 → Int32 → Int32 → kg_M → Prop} (hK : Kx v (oI (bd T N (tG T))) (match bd T N (tG T) with | none => -1 | some b => nI (lf T N b)) M) : ∃ g, wL_X7_dies_19 L Kx K g v (-1) (-1) 0 M := by
  have h5 := hT.1
  refine ⟨_, for_loop (fun f (s : Int32 × Int32) i => wL_X7_dies_19 L Kx K f v s.1 s.2 i M) (fun k s => s.1 = oI (bd T N k) ∧ s.2 = (match bd T N k with | none => -1 | some b => nI (lf T N b))) (tG T) (-1, -1) ⟨rfl, rfl⟩ (fun f s h => ?_) (fun f k s hk h ih => ?_)⟩
  · rw [wL_X7_dies_19, hL.1, h.1, h.2]
    exact ⟨fun _ => hK, fun h => absurd (nI_le (Nat.le_refl _) (by omega)) h⟩
  · obtain ⟨e1, e2, e3⟩ := left_val hT hW hk
    rw [wL_X7_dies_19, hL.1, cl_nI (by omega), hL.2.2.1 k hk, hS.2.2.2.2.2.2.2.1 k (by omega), e1, nI_1]
    refine ⟨fun h => absurd h (nI_ge hk (by omega)), fun _ => ⟨in_nI (by omega) (by decide), in_nI (by omega) (by decide), fun h0 => ?_, fun h0 => ?_⟩⟩
    · have hr : ¬ N (26 + k) = 0 := fun e => by
        have := e2.mp e
        exact absurd h0 (nI_nle this (by omega))
      exact ih s (by rw [bd, if_neg hr]; exact h)
    · have hr : N (26 + k) = 0 := e2.mpr (by
        rcases Nat.eq_zero_or_pos (lf T N k) with e | e
        · rw [e] at h0; exact absurd (by decide) h0
        · exact e)
      cases hb : bd T N k with
      | none =>
        rw [hb] at h
        have hn : bd T N (k + 1) = some k := by rw [bd, if_pos hr, hb]
        refine ⟨fun _ => ih (nI k, nI (lf T N k)) (by rw [hn]; exact ⟨rfl, rfl⟩), fun h2 => absurd h.1 h2⟩
      | some b =>
        rw [hb] at h
        have hbk := (bd_lt T N k b hb).1
        obtain ⟨-, -, f3⟩ := left_val hT hW (show b < tG T by omega)
        refine ⟨fun h2 => ?_, fun _ => ?_⟩
        · rw [h.1] at h2; exact absurd h2 (m1_ne_nI (by omega))
        · have hsn : s.2 = nI (lf T N b) := h.2
          rw [hsn, nI_leI (by omega) (by omega)]
          refine ⟨fun h3 => ih (s.1, nI (lf T N b)) ?_, fun h3 => ih (nI k, nI (lf T N k)) ?_⟩
          · have hn : bd T N (k + 1) = some b := by rw [bd, if_pos hr, hb]; dsimp only; rw [if_neg (by omega)]
            rw [hn]; exact ⟨h.1, rfl⟩
          · have hn : bd T N (k + 1) = some k := by rw [bd, if_pos hr, hb]; dsimp only; rw [if_pos (by omega)]
            rw [hn]; exact ⟨rfl, rfl⟩
theorem m_dies {v : Int32} (hR : RT M T) (hT : LW T) (hN : RN M N) (hW : SW T N) {Kx : Int32 → Int32 → kg_M → Prop} (hK : Kx v (oI (bd T N (tG T))) M) : ∃ g, wL_X8_dies_17 Kx K g v (-1) 0 M := by
  have h5 := hT.1
  refine ⟨_, for_loop (fun f (s : Int32) i => wL_X8_dies_17 Kx K f v s i M) (fun k s => s = oI (bd T N k)) (tG T) (-1) rfl (fun f s h => ?_) (fun f k s hk h ih => ?_)⟩
  · rw [wL_X8_dies_17, hR.1, h]
    exact ⟨fun _ => hK, fun h => absurd (nI_le (Nat.le_refl _) (by omega)) h⟩
  · have hJ : ∀ s0 : Int32, (N (26 + k) = 0 → s0 = 0 → bd T N (k + 1) = bd T N k) → (N (26 + k) = 0 → ¬ s0 = 0 → bd T N (k + 1) = some k) → wJ_X8_dies_69 (wL_X8_dies_17 Kx K f) Kx K v s (nI k) s0 M := by
      intro s0 a1 a2
      unfold wJ_X8_dies_69
      rw [show (26 : Int32) = nI 26 from rfl, cl_add (by omega), hN (26 + k) (by omega), nI_1]
      refine ⟨in_add (by omega) (by decide), fun h0 => ih s (by rw [bd, if_neg h0]; exact h), fun h0 => ⟨fun h1 => ih s (by rw [a1 h0 h1]; exact h), fun h1 => ih _ (by rw [a2 h0 h1]; rfl)⟩⟩
    rw [wL_X8_dies_17, hR.1]
    refine ⟨fun h => absurd h (nI_ge hk (by omega)), fun _ => ⟨fun h0 => hJ 1 (fun _ e => absurd e (by decide)) (fun hr _ => ?_), fun h0 => ?_⟩⟩
    · cases hb : bd T N k with
      | none => rw [bd, if_pos hr, hb]
      | some b =>
        have hbk := (bd_lt T N k b hb).1
        rw [h, hb] at h0
        exact absurd h0 (nI_pos (by omega))
    · cases hb : bd T N k with
      | none => rw [h, hb] at h0; exact absurd (by decide) h0
      | some b =>
        have hbk := (bd_lt T N k b hb).1
        obtain ⟨e1, -, e3⟩ := left_val hT hW hk
        obtain ⟨f1, -, f3⟩ := left_val hT hW (show b < tG T by omega)
        have es : s = nI b := by rw [h, hb]; rfl
        rw [es, cl_nI (by omega), cl_nI (by omega), hR.2.2.1 k hk, hR.2.2.1 b (by omega), show (21 : Int32) = nI 21 from rfl, cl_add (by omega), cl_add (by omega), hN (21 + k) (by omega), hN (21 + b) (by omega), e1, f1, nI_leI (by omega) (by omega)]
        rw [es] at hJ
        refine ⟨in_nI (by omega) (by decide), in_add (by omega) (by decide), in_nI (by omega) (by decide), in_add (by omega) (by decide), fun h3 => hJ 0 (fun hr _ => ?_) (fun _ e => absurd rfl e), fun h3 => hJ 1 (fun _ e => absurd e (by decide)) (fun hr _ => ?_)⟩
        · rw [bd, if_pos hr, hb]; dsimp only; rw [if_neg (by omega)]
        · rw [bd, if_pos hr, hb]; dsimp only; rw [if_pos (by omega)]
theorem p_dies {σ : kS} (v : Int32) (hC : CI M L S σ) : Pair L S M σ (wp_X7_dies L v) (wp_X8_dies v) := by
  obtain ⟨T, N, ⟨U, pu⟩, ⟨im, is, kp⟩, sv, fl, ⟨tn, tx⟩, ⟨kn, kw, ki⟩, ⟨bn, bo, bi⟩⟩ := σ
  obtain ⟨⟨hT, hRC⟩, ⟨hSW, hRS⟩, hCU, hCM, hsv, hfl, hCX, hCN, hCB, hLS⟩ := id hC
  have h5 := hT.1
  by_cases h0 : v = 0
  · subst h0
    refine ⟨oI (bd T N (tG T)), (T, N, (U, pu), (im, is, kp), sv, fl, (tn, tx), (kn, kw, ki), (bn, bo, bi)), ⟨fun _ => c_dies hRC hT hRS hSW ⟨fun h => absurd rfl h, fun _ => CK_s hC rfl⟩, fun h => absurd rfl h⟩, fun M1 hM => m_inL 0 1 rfl rfl (fun _ _ => ⟨fun _ => m_dies hM.1 hT hM.2.2.1 hSW ⟨fun _ => MK_s hM rfl, fun _ => ⟨fun h => absurd rfl h, fun _ => MK_s hM rfl⟩⟩, fun h => absurd h (by decide)⟩) (fun h => absurd h (by decide))⟩
  by_cases h1 : v = 1
  · subst h1
    refine ⟨(match bd T N (tG T) with | none => -1 | some b => nI (lf T N b)), (T, N, (U, pu), (im, is, kp), sv, fl, (tn, tx), (kn, kw, ki), (bn, bo, bi)), ⟨fun h => absurd h h0, fun _ => ⟨fun _ => c_dies hRC hT hRS hSW ⟨fun _ => CK_s hC rfl, fun h => absurd h (by decide)⟩, fun h => absurd rfl h⟩⟩, fun M1 hM => m_inL 0 1 rfl rfl (fun _ _ => ⟨fun _ => m_dies hM.1 hT hM.2.2.1 hSW ?_, fun h => absurd h (by decide)⟩) (fun h => absurd h (by decide))⟩
    cases hb : bd T N (tG T) with
    | none => exact ⟨fun _ => MK_s hM rfl, fun h => absurd (by decide) h⟩
    | some b =>
      have hbk := (bd_lt T N _ b hb).1
      obtain ⟨f1, -, f3⟩ := left_val hT hSW hbk
      refine ⟨fun h => absurd h (nI_pos (by omega)), fun _ => ⟨fun _ => ⟨in_nI (by omega) (by decide), in_add (a := 21) (by omega) (by decide), MK_s hM ?_⟩, fun h => absurd h (by decide)⟩⟩
      show M1 118 (nI b).toNatClampNeg - M1 120 ((21 : Int32) + nI b).toNatClampNeg = nI (lf T N b)
      rw [cl_nI (by omega), hM.1.2.2.1 b hbk, show (21 : Int32) = nI 21 from rfl, cl_add (by omega), hM.2.2.1 (21 + b) (by omega), f1]
  · exact ⟨-1000000002, _, ⟨fun h => absurd h h0, fun _ => ⟨fun h => absurd h h1, fun _ => CK_s hC rfl⟩⟩, fun M1 hM => m_inL 0 1 rfl rfl (fun g1 g2 => by
      rcases ix_cases v 2 (by decide) with h | ⟨j, hj, e⟩
      · rcases h with h | h
        · exact absurd g1 (fa_of_lt h).2.1
        · exact absurd (Int32.le_trans h g2) (by decide)
      · rcases (show j = 0 ∨ j = 1 by omega) with rfl | rfl
        · exact absurd e h0
        · exact absurd e h1) (fun _ => ⟨fun h => absurd rfl h, fun _ => MK_s hM rfl⟩)⟩
/-! ===== oil ===== -/
def osn (b u : Nat) : Nat → Nat × Nat
  | 0 => (0, u)
  | i + 1 => if b ≤ (osn b u i).2 then ((osn b u i).1 + 1, 1) else ((osn b u i).1, (osn b u i).2 + 1)
theorem osn_le (b u : Nat) : ∀ i, (osn b u i).1 ≤ i ∧ (osn b u i).2 ≤ u + i + 1
  | 0 => by simp [osn]
  | i + 1 => by
    have := osn_le b u i
    rw [osn]
    split <;> simp <;> omega
def otn (T : kT) (N : Nat → Int32) (n : Nat) : Nat → Nat
  | 0 => 0
  | k + 1 => otn T N n k + (osn (tB T k) (N (21 + k)).toNatClampNeg n).1
theorem otn_le (T : kT) (N : Nat → Int32) (n : Nat) : ∀ k, otn T N n k ≤ k * n
  | 0 => by simp [otn]
  | k + 1 => by
    have h1 := otn_le T N n k
    have h2 := (osn_le (tB T k) (N (21 + k)).toNatClampNeg n).1
    rw [otn, Nat.succ_mul]
    omega
theorem p_oilFor {σ : kS} (v : Int32) (hC : CI M L S σ) : Pair L S M σ (wp_X7_oilFor L v) (wp_X8_oilFor v) := by
  obtain ⟨T, N, ⟨U, pu⟩, ⟨im, is, kp⟩, sv, fl, ⟨tn, tx⟩, ⟨kn, kw, ki⟩, ⟨bn, bo, bi⟩⟩ := σ
  obtain ⟨⟨hT, hRC⟩, ⟨hSW, hRS⟩, hCU, hCM, hsv, hfl, hCX, hCN, hCB, hLS⟩ := id hC
  have h5 := hT.1
  by_cases h0 : v < 0
  · exact ⟨-1000000002, _, ⟨fun _ => CK_s hC rfl, fun h => absurd h0 h⟩, fun M1 hM => m_inL 0 200 rfl rfl (fun h => absurd h (fa_of_lt h0).2.1) (fun _ => ⟨fun h => absurd rfl h, fun _ => MK_s hM rfl⟩)⟩
  by_cases h1 : v ≤ 200
  · obtain ⟨n, hn, rfl⟩ : ∃ n : Nat, n ≤ 200 ∧ v = nI n := nI_of2 (M := 200) rfl h0 h1
    refine ⟨nI (otn T N n (tG T)), (T, N, (U, pu), (im, is, kp), sv, fl, (tn, tx), (kn, kw, ki), (bn, bo, bi)), ⟨fun h => absurd h h0, fun _ => ⟨fun _ => ⟨_, for_loop (fun f s i => wL_X7_oilFor_18 L _ _ f (nI n) s i M) (fun k s => s = nI (otn T N n k)) (tG T) 0 rfl (fun f s h => ?_) (fun f k s hk h ih => ?_)⟩, fun h => absurd h1 h⟩⟩, fun M1 hM => m_inL 0 200 rfl rfl (fun _ _ => ⟨fun _ => ⟨_, for_loop (fun f s i => wL_X8_oilFor_19 _ _ f (nI n) s i M1) (fun k s => s = nI (otn T N n k)) (tG T) 0 rfl (fun f s h => ?_) (fun f k s hk h ih => ?_)⟩, fun h => absurd h (by decide)⟩) (fun h => ?_)⟩
    · rw [wL_X7_oilFor_18, hRC.1, h]
      exact ⟨fun _ => CK_s hC rfl, fun h => absurd (nI_le (Nat.le_refl _) (by omega)) h⟩
    · obtain ⟨u, u1, u2, u3⟩ := hSW.2.2.2.2.2.2.1 k hk
      have hb := hT.2.2.1 k hk
      have eu : (N (21 + k)).toNatClampNeg = u := by rw [u2, cl_nI (by omega)]
      rw [wL_X7_oilFor_18, hRC.1, nI_1]
      refine ⟨fun h => absurd h (nI_ge hk (by omega)), fun _ => ?_⟩
      unfold wp_X7_oilings
      rw [cl_nI (by omega), hRS.2.2.2.2.2.2.2.1 k (by omega), u2]
      refine ⟨in_nI (by omega) (by decide), _, for_loop (fun f2 (s : Int32 × Int32) i => wL_X7_oilings_16 L _ _ f2 (nI k) (nI n) s.1 s.2 i M) (fun j s => s.1 = nI (osn (tB T k) u j).1 ∧ s.2 = nI (osn (tB T k) u j).2) n (0, nI u) ⟨rfl, rfl⟩ (fun f2 s2 h2 => ?_) (fun f2 j s2 hj h2 ih2 => ?_)⟩
      · rw [wL_X7_oilings_16, h2.1]
        refine ⟨fun _ => ih _ ?_, fun h => absurd (nI_le (Nat.le_refl _) (by omega)) h⟩
        rw [h, nI_add, otn, eu]
      · have hj2 := osn_le (tB T k) u j
        rw [wL_X7_oilings_16, cl_nI (by omega), hRC.2.2.1 k hk, h2.1, h2.2, nI_1 j, nI_1, nI_1, nI_ltI (by omega) (by omega)]
        refine ⟨fun h => absurd h (nI_ge hj (by omega)), fun _ => ⟨in_nI (by omega) (by decide), fun h3 => ih2 (nI (osn (tB T k) u j).1, nI ((osn (tB T k) u j).2 + 1)) ⟨?_, ?_⟩, fun h3 => ih2 (nI ((osn (tB T k) u j).1 + 1), 0 + 1) ⟨?_, ?_⟩⟩⟩
        · rw [osn, if_neg (by omega)]
        · rw [osn, if_neg (by omega)]
        · rw [osn, if_pos (by omega)]
        · rw [osn, if_pos (by omega)]; rfl
    · rw [wL_X8_oilFor_19, hM.1.1, h]
      exact ⟨fun _ => MK_s hM rfl, fun h => absurd (nI_le (Nat.le_refl _) (by omega)) h⟩
    · obtain ⟨u, u1, u2, u3⟩ := hSW.2.2.2.2.2.2.1 k hk
      have hb := hT.2.2.1 k hk
      have eu : (N (21 + k)).toNatClampNeg = u := by rw [u2, cl_nI (by omega)]
      have ob := otn_le T N n k
      have ob2 : k * n ≤ 5 * 200 := Nat.mul_le_mul (by omega) hn
      have inner : ∀ s5 : Int32, s5 = (if tB T k ≤ u then 1 else 0) → ∃ g, wL_X8_oilFor_61 (fun (v1 : Int32) (v2 : Int32) (v3 : Int32) (M : kg_M) => wL_X8_oilFor_19 (fun (v2 : Int32) (M : kg_M) => MK M1 (nI (otn T N n (tG T))) (T, N, (U, pu), (im, is, kp), sv, fl, (tn, tx), (kn, kw, ki), (bn, bo, bi)) v2 M) (MK M1 (nI (otn T N n (tG T))) (T, N, (U, pu), (im, is, kp), sv, fl, (tn, tx), (kn, kw, ki), (bn, bo, bi))) f v1 v2 (v3 + (1 : Int32)) M) (MK M1 (nI (otn T N n (tG T))) (T, N, (U, pu), (im, is, kp), sv, fl, (tn, tx), (kn, kw, ki), (bn, bo, bi))) g (nI n) s (nI k) (nI u) s5 0 M1 := by
        intro s5 hs5
        refine ⟨_, for_loop (fun f2 (x : Int32 × Int32 × Int32) i => wL_X8_oilFor_61 _ _ f2 (nI n) x.1 (nI k) x.2.1 x.2.2 i M1) (fun j x => x.1 = nI (otn T N n k + (osn (tB T k) u j).1) ∧ x.2.1 = nI (osn (tB T k) u j).2 ∧ x.2.2 = (if tB T k ≤ (osn (tB T k) u j).2 then 1 else 0)) n (s, nI u, s5) ⟨h, rfl, hs5⟩ (fun f2 x h2 => ?_) (fun f2 j x hj h2 ih2 => ?_)⟩
        · rw [wL_X8_oilFor_61, h2.1, nI_1]
          refine ⟨fun _ => ih _ ?_, fun h => absurd (nI_le (Nat.le_refl _) (by omega)) h⟩
          rw [otn, eu]
        · have hj2 := osn_le (tB T k) u j
          have hj3 := osn_le (tB T k) u (j + 1)
          have h93 : ∀ y t : Nat, y < 2 ^ 31 → (t = otn T N n k + (osn (tB T k) u (j + 1)).1) → (y = (osn (tB T k) u (j + 1)).2) → wJ_X8_oilFor_93 (wL_X8_oilFor_61 (fun (v1 : Int32) (v2 : Int32) (v3 : Int32) (M : kg_M) => wL_X8_oilFor_19 (fun (v2 : Int32) (M : kg_M) => MK M1 (nI (otn T N n (tG T))) (T, N, (U, pu), (im, is, kp), sv, fl, (tn, tx), (kn, kw, ki), (bn, bo, bi)) v2 M) (MK M1 (nI (otn T N n (tG T))) (T, N, (U, pu), (im, is, kp), sv, fl, (tn, tx), (kn, kw, ki), (bn, bo, bi))) f v1 v2 (v3 + (1 : Int32)) M) (MK M1 (nI (otn T N n (tG T))) (T, N, (U, pu), (im, is, kp), sv, fl, (tn, tx), (kn, kw, ki), (bn, bo, bi))) f2) (fun (v1 : Int32) (v2 : Int32) (v3 : Int32) (M : kg_M) => wL_X8_oilFor_19 (fun (v2 : Int32) (M : kg_M) => MK M1 (nI (otn T N n (tG T))) (T, N, (U, pu), (im, is, kp), sv, fl, (tn, tx), (kn, kw, ki), (bn, bo, bi)) v2 M) (MK M1 (nI (otn T N n (tG T))) (T, N, (U, pu), (im, is, kp), sv, fl, (tn, tx), (kn, kw, ki), (bn, bo, bi))) f v1 v2 (v3 + (1 : Int32)) M) (MK M1 (nI (otn T N n (tG T))) (T, N, (U, pu), (im, is, kp), sv, fl, (tn, tx), (kn, kw, ki), (bn, bo, bi))) (nI n) (nI t) (nI k) (nI j) (nI y) M1 := by
            intro y t hy et ey
            unfold wJ_X8_oilFor_93
            rw [cl_nI (by omega), hM.1.2.2.1 k hk, nI_1 j, nI_ltI hy (by omega)]
            refine ⟨in_nI (by omega) (by decide), fun h3 => ih2 (nI t, nI y, 0) ⟨by rw [et], by rw [ey], ?_⟩, fun h3 => ih2 (nI t, nI y, 1) ⟨by rw [et], by rw [ey], ?_⟩⟩
            · rw [if_neg (by omega)]
            · rw [if_pos (by omega)]
          rw [wL_X8_oilFor_61, h2.1, h2.2.1, h2.2.2]
          unfold wJ_X8_oilFor_78
          refine ⟨fun h => absurd h (nI_ge hj (by omega)), fun _ => ⟨fun h3 => ⟨fun _ => ?_, fun h4 => absurd h3 h4⟩, fun h3 => ⟨fun h4 => absurd h4 h3, fun _ => ?_⟩⟩⟩
          · have hl : ¬ tB T k ≤ (osn (tB T k) u j).2 := fun e => by rw [if_pos e] at h3; exact absurd h3 (by decide)
            rw [nI_1, show nI (otn T N n k + (osn (tB T k) u j).1) + 0 = nI (otn T N n k + (osn (tB T k) u j).1) from nI_add _ 0]
            exact h93 _ _ (by omega) (by rw [osn, if_neg hl]) (by rw [osn, if_neg hl])
          · have hl : tB T k ≤ (osn (tB T k) u j).2 := by
              by_cases e : tB T k ≤ (osn (tB T k) u j).2
              · exact e
              · rw [if_neg e] at h3; exact absurd rfl h3
            rw [nI_1]
            exact h93 1 _ (by omega) (by rw [osn, if_pos hl, Nat.add_assoc]) (by rw [osn, if_pos hl])
      rw [wL_X8_oilFor_19, hM.1.1, show (21 : Int32) = nI 21 from rfl, show (26 : Int32) = nI 26 from rfl, cl_add (by omega), cl_add (by omega), hM.2.2.1 (21 + k) (by omega), hM.2.2.1 (26 + k) (by omega), u2, u3]
      refine ⟨fun h => absurd h (nI_ge hk (by omega)), fun _ => ⟨in_add (by omega) (by decide), in_add (by omega) (by decide), fun h3 => inner 0 ?_, fun h3 => inner 1 h3.symm⟩⟩
      by_cases e : tB T k ≤ u
      · rw [if_pos e] at h3; exact absurd rfl h3
      · rw [if_neg e]
    · rcases h with h | h
      · exact absurd h h0
      · exact absurd h1 (fa_of_lt h).2.1
  · exact ⟨-1000000002, _, ⟨fun h => absurd h h0, fun _ => ⟨fun h => absurd h h1, fun _ => CK_s hC rfl⟩⟩, fun M1 hM => m_inL 0 200 rfl rfl (fun _ h => absurd h h1) (fun _ => ⟨fun h => absurd rfl h, fun _ => MK_s hM rfl⟩)⟩
end P6
