/-! ===== the reference reads clauses ===== -/
def RM (M : kg_M) : pS → Prop
  | (_, G, P, B, I, C, K) => M 117 14 = nI G ∧ M 117 16 = nI P ∧ (∀ g, g < G → M 124 g = nI (B g)) ∧ (∀ p, p < P → M 125 p = nI (I p)) ∧ (∀ p, p < P → M 126 p = nI (C p)) ∧ ∀ p q, p < 7 → q < 7 → M 127 (7 * p + q) = if K p q = 10 then -1 else nI (K p q)
def fm (M M' : kg_M) : Prop := (∀ k, k ≠ 117 → (k < 124 ∨ 127 < k) → M' k = M k) ∧ ∀ j, (j < 10 ∨ 16 < j) → M' 117 j = M 117 j
theorem fm_t {M M' M'' : kg_M} (h : fm M M') (h2 : fm M' M'') : fm M M'' := ⟨fun k hk hs => by rw [h2.1 k hk hs, h.1 k hk hs], fun j hj => by rw [h2.2 j hj, h.2 j hj]⟩
theorem fn_m {M M' : kg_M} (h : fn M M') : fm M M' := ⟨fun k hk _ => h.1 k hk, fun j hj => h.2 j (by omega)⟩
theorem fm_1 {M M' : kg_M} {j : Nat} {x : Int32} (hj : 10 ≤ j ∧ j ≤ 16) (e : M' = kg_row M 117 (upd (M 117) j x)) : fm M M' := ⟨fun k hk _ => by rw [e, kg_row_ne _ _ hk], fun i hi => by rw [e, kg_row_eq, upd_ne (by omega)]⟩
theorem fm_a {M M' : kg_M} {a : Nat} {f : Nat → Int32} (ha : 124 ≤ a ∧ a ≤ 127) (e : M' = kg_row M a f) : fm M M' := ⟨fun k hk hs => by rw [e, kg_row_ne _ _ (by omega)], fun i hi => by rw [e, kg_row_ne _ _ (by omega)]⟩
theorem RM_fn {M M' : kg_M} {s : pS} (h : fn M M') (hd : RM M s) : RM M' s := by
  obtain ⟨p, G, P, B, I, C, K⟩ := s
  unfold RM at *
  rw [h.2 14 (by omega), h.2 16 (by omega), h.1 124 (by omega), h.1 125 (by omega), h.1 126 (by omega), h.1 127 (by omega)]
  exact hd
/-- what comes out -/
def Rr (M : kg_M) (tn : Nat) (tx : Nat → Int32) (r : Int32) : Except (Nat × Nat) pS → Prop
  | Except.error e => r = nI e.1 ∧ M 117 10 = nI e.2
  | Except.ok s => r = 0 ∧ TM M tn tx s.1 ∧ RM M s
section M2
variable {M : kg_M} {tn : Nat} {tx : Nat → Int32} {p G P : Nat} {B I C : Nat → Nat} {Kk : Nat → Nat → Nat}
/-- a clause's end -/
theorem m_end {e : Nat} {K : Int32 → kg_M → Prop} (h : TM M tn tx e) (hE : ∀ x, endR tn tx e = Except.error x → ∀ M' : kg_M, fn M M' → M' 117 10 = nI x.2 → K (nI x.1) M') (hO : ∀ q, endR tn tx e = Except.ok q → ∀ M' : kg_M, fn M M' → TM M' tn tx q → K 0 M') : wJ_X8_takeClause_124 K 0 M := by
  refine ⟨fun h => absurd rfl h, fun _ => m_here h (fun M1 r1 t1 _ => ?_)⟩
  obtain ⟨hn, hp, h1, hx, h11, h10⟩ := id t1
  have er : ¬ (skp tn tx e < tn ∧ tx (skp tn tx e) = 59) → wp_X8_fails (1 : Int32) (M1 117 11) M1 (fun (r54 : Int32) (M52 : kg_M) => K r54 M52) := by
    intro c
    rw [h11]
    exact m_fails (f := 1) (fun M' r' e' => hE (1, skp tn tx e) (by unfold endR; rw [if_neg c]) M' (fn_t r1 r') e')
  unfold hr
  by_cases hlt : skp tn tx e < tn
  · rw [if_pos hlt]
    refine ⟨fun c M43 e43 => ?_, fun c => er (fun h => c h.2)⟩
    rw [h11] at e43
    exact hO (skp tn tx e + 1) (by unfold endR; rw [if_pos ⟨hlt, c⟩]) M43 (fn_t r1 (fn_1 (by decide) e43)) (TM_at t1 (by omega) (nI_1 _) e43)
  · rw [if_neg hlt]
    exact ⟨fun c => absurd c (by decide), fun c => er (fun h => hlt h.1)⟩
/-- a number into a row -/
theorem m_into {a n i p lo hb : Nat} {v2 : Int32} {K : Int32 → kg_M → Prop} (ha : a ≠ 117) (hi : i < n) (hn : n < 1000) (h : TM M tn tx p) (hlo : lo ≤ 1) (h2 : ∀ v, v ≤ 999 → (nI v ≤ v2 ↔ v < hb)) (hE : ∀ e, numR tn tx p lo hb = Except.error e → ∀ M1 M' : kg_M, fn M M1 → M' = kg_row M1 a (upd (M1 a) i (M1 117 12)) → M' 117 10 = nI e.2 → K (nI e.1) M') (hO : ∀ v e b, numR tn tx p lo hb = Except.ok (v, e, b) → ∀ M1 M' : kg_M, fn M M1 → TM M1 tn tx e → M' = kg_row M1 a (upd (M1 a) i (nI v)) → K 0 M') : wp_X8_into a n (nI i) (nI lo) v2 M K := by
  unfold wp_X8_into
  rw [cl_nI (by omega)]
  refine m_num h hlo h2 (fun e he M1 r1 h10 => ⟨in_nI hi (by omega), fun M7 e7 => hE e he M1 M7 r1 e7 (by rw [e7, kg_row_ne _ _ (fun h => ha h.symm)]; exact h10)⟩) (fun v e b he M1 r1 t1 h12 _ => ⟨in_nI hi (by omega), fun M7 e7 => ?_⟩)
  rw [h12] at e7
  exact hO v e b he M1 M7 r1 t1 e7
theorem e_ne {e : Nat × Nat} (h : 1 ≤ e.1 ∧ e.1 ≤ 4) : ¬ nI e.1 = 0 := by
  intro h0
  have := nI_inj (a := _) (b := 0) (by omega) (by omega) h0
  omega
theorem e_nle {e : Nat × Nat} (h : 1 ≤ e.1 ∧ e.1 ≤ 4) : ¬ nI e.1 ≤ 0 := nI_nle (by omega) (by omega)
/-- behind a fault the place goes on, and that is no matter -/
theorem m_124E {e : Nat × Nat} {K : Int32 → kg_M → Prop} (h : 1 ≤ e.1 ∧ e.1 ≤ 4) (h10 : M 117 10 = nI e.2) (hK : ∀ M' : kg_M, fn M M' → M' 117 10 = nI e.2 → K (nI e.1) M') : wJ_X8_takeClause_124 K (nI e.1) M := by
  refine ⟨fun _ M43 e43 => hK M43 (fn_1 (by decide) e43) (by rw [e43, kg_row_eq, upd_ne (by decide)]; exact h10), fun h0 => absurd h0 (e_ne h)⟩
theorem m_gate {K : Int32 → kg_M → Prop} (hw : WF (p, G, P, B, I, C, Kk)) (hp : p < tn) (hG : G < 5) (ht : TM M tn tx (p + 1)) (hd : RM M (p, G, P, B, I, C, Kk)) (hK : ∀ (r : Int32) (M' : kg_M), fm M M' → Rr M' tn tx r (gateR tn tx (p, G, P, B, I, C, Kk)) → K r M') : wp_X8_takeGate M (fun (r60 : Int32) (M58 : kg_M) => wJ_X8_takeClause_124 K r60 M58) := by
  intro M2 e2
  obtain ⟨d0, d1, d2, d3, d4, d5⟩ := id hd
  rw [d0] at e2 ⊢
  have c : ¬ 5 ≤ G := by omega
  have f2 := fm_1 (j := 14) (by decide) e2
  refine m_into (lo := 1) (hb := 100) (by decide) (by omega) (by omega) (TM_ot ht (by decide) e2) (by omega) (fun v hv => v99 hv) (fun e he M3 M4 r3 e4 h10 => ?_) (fun v e b he M3 M4 r3 t3 e4 => ?_)
  · have hb := num_e (by omega) he
    refine m_124E hb.1 h10 (fun M' r' h' => hK _ M' (fm_t (fm_t (fm_t f2 (fn_m r3)) (fm_a (by decide) e4)) (fn_m r')) ?_)
    simp only [gateR, if_neg c, he]
    exact ⟨rfl, h'⟩
  · have t4 : TM M4 tn tx e := TM_row t3 (by rw [e4, kg_row_ne _ _ (by decide)]) (by rw [e4, kg_row_ne _ _ (by decide)])
    have f4 := fm_t (fm_t f2 (fn_m r3)) (fm_a (by decide) e4)
    have hv := num_o (by omega) he
    refine m_end t4 (fun x hx M' r' h' => hK _ M' (fm_t f4 (fn_m r')) ?_) (fun q hq M' r' t' => hK _ M' (fm_t f4 (fn_m r')) ?_)
    · simp only [gateR, if_neg c, he, hx]
      exact ⟨rfl, h'⟩
    · simp only [gateR, if_neg c, he, hq]
      refine ⟨rfl, t', RM_fn r' ⟨?_, ?_, fun g hg => ?_, fun x hx => ?_, fun x hx => ?_, fun x y hx hy => ?_⟩⟩
      · rw [e4, kg_row_ne _ _ (by decide), r3.2 14 (by omega), e2, kg_row_eq, upd_eq, nI_1]
      · rw [e4, kg_row_ne _ _ (by decide), r3.2 16 (by omega), e2, kg_row_eq, upd_ne (by decide)]; exact d1
      · rw [e4, kg_row_eq]
        dsimp only
        by_cases e : g = G
        · rw [e, upd_eq, if_pos rfl]
        · rw [upd_ne e, if_neg e, r3.1 124 (by decide), e2, kg_row_ne _ _ (by decide)]; exact d2 g (by omega)
      · rw [e4, kg_row_ne _ _ (by decide), r3.1 125 (by decide), e2, kg_row_ne _ _ (by decide)]; exact d3 x hx
      · rw [e4, kg_row_ne _ _ (by decide), r3.1 126 (by decide), e2, kg_row_ne _ _ (by decide)]; exact d4 x hx
      · rw [e4, kg_row_ne _ _ (by decide), r3.1 127 (by decide), e2, kg_row_ne _ _ (by decide)]; exact d5 x y hx hy
theorem m_pers {K : Int32 → kg_M → Prop} (hw : WF (p, G, P, B, I, C, Kk)) (hp : p < tn) (hP : P < 7) (ht : TM M tn tx (p + 1)) (hd : RM M (p, G, P, B, I, C, Kk)) (hK : ∀ (r : Int32) (M' : kg_M), fm M M' → Rr M' tn tx r (persR tn tx (p, G, P, B, I, C, Kk)) → K r M') : wp_X8_takePerson M (fun (r57 : Int32) (M55 : kg_M) => wJ_X8_takeClause_124 K r57 M55) := by
  intro M2 e2
  obtain ⟨d0, d1, d2, d3, d4, d5⟩ := id hd
  rw [d1] at e2 ⊢
  have c : ¬ 7 ≤ P := by omega
  have f2 := fm_1 (j := 16) (by decide) e2
  refine m_into (lo := 0) (hb := 2) (by decide) (by omega) (by omega) (TM_ot ht (by decide) e2) (by omega) (fun v hv => v1' hv) (fun e he M3 M4 r3 e4 h10 => ?_) (fun v e b he M3 M4 r3 t3 e4 => ⟨fun _ => ?_, fun h => absurd (by decide) h⟩)
  · have hb := num_e (by omega) he
    refine ⟨fun h => absurd h (e_nle hb.1), fun _ => m_124E hb.1 h10 (fun M' r' h' => hK _ M' (fm_t (fm_t (fm_t f2 (fn_m r3)) (fm_a (by decide) e4)) (fn_m r')) ?_)⟩
    simp only [persR, if_neg c, he]
    exact ⟨rfl, h'⟩
  · have t4 : TM M4 tn tx e := TM_row t3 (by rw [e4, kg_row_ne _ _ (by decide)]) (by rw [e4, kg_row_ne _ _ (by decide)])
    have f4 := fm_t (fm_t f2 (fn_m r3)) (fm_a (by decide) e4)
    have hv := num_o (by omega) he
    refine m_into (lo := 0) (hb := 2) (by decide) (by omega) (by omega) t4 (by omega) (fun v hv => v1' hv) (fun e' he' M5 M6 r5 e6 h10 => ?_) (fun v' e' b' he' M5 M6 r5 t5 e6 => ?_)
    · have hb := num_e (by omega) he'
      refine m_124E hb.1 h10 (fun M' r' h' => hK _ M' (fm_t (fm_t (fm_t f4 (fn_m r5)) (fm_a (by decide) e6)) (fn_m r')) ?_)
      simp only [persR, if_neg c, he, he']
      exact ⟨rfl, h'⟩
    · have t6 : TM M6 tn tx e' := TM_row t5 (by rw [e6, kg_row_ne _ _ (by decide)]) (by rw [e6, kg_row_ne _ _ (by decide)])
      have f6 := fm_t (fm_t f4 (fn_m r5)) (fm_a (by decide) e6)
      have hv' := num_o (by omega) he'
      refine m_end t6 (fun x hx M' r' h' => hK _ M' (fm_t f6 (fn_m r')) ?_) (fun q hq M' r' t' => hK _ M' (fm_t f6 (fn_m r')) ?_)
      · simp only [persR, if_neg c, he, he', hx]
        exact ⟨rfl, h'⟩
      · simp only [persR, if_neg c, he, he', hq]
        refine ⟨rfl, t', RM_fn r' ⟨?_, ?_, fun g hg => ?_, fun x hx => ?_, fun x hx => ?_, fun x y hx hy => ?_⟩⟩
        · rw [e6, kg_row_ne _ _ (by decide), r5.2 14 (by omega), e4, kg_row_ne _ _ (by decide), r3.2 14 (by omega), e2, kg_row_eq, upd_ne (by decide)]; exact d0
        · rw [e6, kg_row_ne _ _ (by decide), r5.2 16 (by omega), e4, kg_row_ne _ _ (by decide), r3.2 16 (by omega), e2, kg_row_eq, upd_eq, nI_1]
        · rw [e6, kg_row_ne _ _ (by decide), r5.1 124 (by decide), e4, kg_row_ne _ _ (by decide), r3.1 124 (by decide), e2, kg_row_ne _ _ (by decide)]; exact d2 g hg
        · rw [e6, kg_row_ne _ _ (by decide), r5.1 125 (by decide), e4, kg_row_eq]
          dsimp only
          by_cases e : x = P
          · rw [e, upd_eq, if_pos rfl]
          · rw [upd_ne e, if_neg e, r3.1 125 (by decide), e2, kg_row_ne _ _ (by decide)]; exact d3 x (by omega)
        · rw [e6, kg_row_eq]
          dsimp only
          by_cases e : x = P
          · rw [e, upd_eq, if_pos rfl]
          · rw [upd_ne e, if_neg e, r5.1 126 (by decide), e4, kg_row_ne _ _ (by decide), r3.1 126 (by decide), e2, kg_row_ne _ _ (by decide)]; exact d4 x (by omega)
        · rw [e6, kg_row_ne _ _ (by decide), r5.1 127 (by decide), e4, kg_row_ne _ _ (by decide), r3.1 127 (by decide), e2, kg_row_ne _ _ (by decide)]; exact d5 x y hx hy
theorem m_likes' {K : Int32 → kg_M → Prop} (hw : WF (p, G, P, B, I, C, Kk)) (hp : p < tn) (ht : TM M tn tx (p + 1)) (hd : RM M (p, G, P, B, I, C, Kk)) (hK : ∀ (r : Int32) (M' : kg_M), fm M M' → Rr M' tn tx r (likeR tn tx (p, G, P, B, I, C, Kk)) → K r M') : wp_X8_takeLikes M (fun (r37 : Int32) (M35 : kg_M) => wJ_X8_takeClause_124 K r37 M35) := by
  obtain ⟨d0, d1, d2, d3, d4, d5⟩ := id hd
  obtain ⟨w1, w2, w3, w4, w5, w6, w7, w8⟩ := id hw
  unfold wp_X8_takeLikes
  rw [d1]
  have eE : ∀ (M1 : kg_M) (v : Int32) (e : Nat × Nat), (1 ≤ e.1 ∧ e.1 ≤ 4) → M1 117 10 = nI e.2 → (∀ M' : kg_M, fn M1 M' → M' 117 10 = nI e.2 → K (nI e.1) M') → wJ_X8_takeLikes_36 (fun (r37 : Int32) (M35 : kg_M) => wJ_X8_takeClause_124 K r37 M35) v (nI e.1) M1 := fun M1 v e hb h10 h0 => ⟨fun h => absurd h (e_nle hb), fun _ => m_124E hb h10 h0⟩
  refine m_num (lo := 0) (hb := P) ht (by omega) (fun v hv => vP hv w2) (fun e he M1 r1 h10 => ?_) (fun v e a he M1 r1 t1 h12 _ => ⟨fun _ => ?_, fun h => absurd (by decide) h⟩)
  · have hb := num_e (by omega) he
    refine ⟨fun h => absurd h (e_nle hb.1), fun _ => eE M1 _ e hb.1 h10 (fun M' r' h' => hK _ M' (fm_t (fn_m r1) (fn_m r')) ?_)⟩
    simp only [likeR, he]
    exact ⟨rfl, h'⟩
  · have hv := num_o (by omega) he
    rw [r1.2 16 (by omega), d1, h12]
    refine m_num (lo := 0) (hb := P) t1 (by omega) (fun v hv => vP hv w2) (fun e2 he2 M2 r2 h10 => ?_) (fun v2 e2 a2 he2 M2 r2 t2 h22 h23 => ?_)
    · have hb := num_e (by omega) he2
      refine eE M2 _ e2 hb.1 h10 (fun M' r' h' => hK _ M' (fm_t (fm_t (fn_m r1) (fn_m r2)) (fn_m r')) ?_)
      simp only [likeR, he, he2]
      exact ⟨rfl, h'⟩
    · have hv2 := num_o (by omega) he2
      have hd2 := RM_fn (fn_t r1 r2) hd
      have f2 : fm M M2 := fm_t (fn_m r1) (fn_m r2)
      refine ⟨fun _ => ?_, fun h => absurd (by decide) h⟩
      have bl : (v = v2 ∨ Kk v v2 ≠ 10) → wJ_X8_takeLikes_67 (fun (r37 : Int32) (M35 : kg_M) => wJ_X8_takeClause_124 K r37 M35) M2 := by
        intro c
        unfold wJ_X8_takeLikes_67
        rw [h23]
        refine m_fails (f := 4) (fun M3 r3 h3 => m_124E (e := (4, a2)) ⟨show 1 ≤ 4 by decide, show 4 ≤ 4 by decide⟩ h3 (fun M' r' h' => hK _ M' (fm_t (fm_t f2 (fn_m r3)) (fn_m r')) ?_))
        simp only [likeR, he, he2, if_pos c]
        exact ⟨rfl, h'⟩
      rw [h22]
      refine ⟨fun h => bl (Or.inl (nI_inj (by omega) (by omega) h)), fun h => ?_⟩
      have hne : v ≠ v2 := fun e => h (by rw [e])
      rw [nI_7, cl_nI (by omega), hd2.2.2.2.2.2 v v2 (by omega) (by omega)]
      refine ⟨in_nI (by omega) (by omega), fun c => ?_, fun c => bl (Or.inr (fun h => c (by rw [if_pos h]; decide)))⟩
      have c10 : Kk v v2 = 10 := by
        by_cases h : Kk v v2 = 10
        · exact h
        · rw [if_neg h] at c
          have := w7 v v2
          exact absurd c (nI_pos (by omega))
      have hc : ¬ (v = v2 ∨ Kk v v2 ≠ 10) := by omega
      refine m_into (lo := 0) (hb := 10) (by decide) (by omega) (by omega) t2 (by omega) (fun v hv => v9 hv) (fun e3 he3 M3 M4 r3 e4 h10 => ?_) (fun v3 e3 a3 he3 M3 M4 r3 t3 e4 => ?_)
      · have hb := num_e (by omega) he3
        refine m_124E hb.1 h10 (fun M' r' h' => hK _ M' (fm_t (fm_t (fm_t f2 (fn_m r3)) (fm_a (by decide) e4)) (fn_m r')) ?_)
        simp only [likeR, he, he2, he3, if_neg hc]
        exact ⟨rfl, h'⟩
      · have t4 : TM M4 tn tx e3 := TM_row t3 (by rw [e4, kg_row_ne _ _ (by decide)]) (by rw [e4, kg_row_ne _ _ (by decide)])
        have f4 := fm_t (fm_t f2 (fn_m r3)) (fm_a (by decide) e4)
        have hv3 := num_o (by omega) he3
        have hd3 := RM_fn r3 hd2
        obtain ⟨g0, g1, g2, g3, g4, g5⟩ := hd3
        refine m_end t4 (fun x hx M' r' h' => hK _ M' (fm_t f4 (fn_m r')) ?_) (fun q hq M' r' t' => hK _ M' (fm_t f4 (fn_m r')) ?_)
        · simp only [likeR, he, he2, he3, hx, if_neg hc]
          exact ⟨rfl, h'⟩
        · simp only [likeR, he, he2, he3, hq, if_neg hc]
          refine ⟨rfl, t', RM_fn r' ⟨?_, ?_, fun g hg => ?_, fun x hx => ?_, fun x hx => ?_, fun x y hx hy => ?_⟩⟩
          · rw [e4, kg_row_ne _ _ (by decide)]; exact g0
          · rw [e4, kg_row_ne _ _ (by decide)]; exact g1
          · rw [e4, kg_row_ne _ _ (by decide)]; exact g2 g hg
          · rw [e4, kg_row_ne _ _ (by decide)]; exact g3 x hx
          · rw [e4, kg_row_ne _ _ (by decide)]; exact g4 x hx
          · rw [e4, kg_row_eq]
            have key : ∀ z : Nat, z = (if x = v ∧ y = v2 then v3 else Kk x y) → upd (M3 127) (7 * v + v2) (nI v3) (7 * x + y) = if z = 10 then -1 else nI z := by
              intro z hz
              by_cases e : x = v ∧ y = v2
              · rw [if_pos e] at hz
                rw [e.1, e.2, upd_eq, if_neg (by omega), hz]
              · rw [if_neg e] at hz
                rw [upd_ne (by omega), hz]
                exact g5 x y hx hy
            exact key _ rfl
theorem m_clause {K : Int32 → kg_M → Prop} (hw : WF (p, G, P, B, I, C, Kk)) (hp : p < tn) (hs : skp tn tx p = p) (ht : TM M tn tx p) (hd : RM M (p, G, P, B, I, C, Kk)) (hK : ∀ (r : Int32) (M' : kg_M), fm M M' → Rr M' tn tx r (clauseR tn tx (p, G, P, B, I, C, Kk)) → K r M') : wp_X8_takeClause M K := by
  obtain ⟨w1, w2, w3, w4, w5, w6, w7, w8⟩ := id hw
  refine m_here ht (fun M1 r1 t1 _ => ?_)
  rw [hs] at t1 ⊢
  unfold hr
  rw [if_pos hp]
  have hd1 := RM_fn r1 hd
  obtain ⟨hn, -, h1, hx, h11, h10⟩ := id t1
  unfold clauseR at hK
  have er : ∀ f : Nat, (Rr · tn tx (nI f) (if tx p = 103 then gateR tn tx (p, G, P, B, I, C, Kk) else if tx p = 112 then persR tn tx (p, G, P, B, I, C, Kk) else if tx p = 108 then likeR tn tx (p, G, P, B, I, C, Kk) else Except.error (1, p))) = (Rr · tn tx (nI f) (Except.error (f, p))) → wp_X8_fails (nI f) (M1 117 11) M1 (fun (r67 : Int32) (M65 : kg_M) => K r67 M65) := by
    intro f e
    rw [h11]
    refine m_fails (fun M' r' h' => hK _ M' (fm_t (fn_m r1) (fn_m r')) ?_)
    have e' := congrFun e M'
    dsimp only at e' ⊢
    rw [e']
    exact ⟨rfl, h'⟩
  have go : ∀ v : Int32, (v = 0 → tx p = 103 ∧ G < 5) → (v = 1 → ¬ tx p = 103 ∧ tx p = 112 ∧ P < 7) → (¬ v = 0 → ¬ v = 1 → ¬ tx p = 103 ∧ ¬ tx p = 112 ∧ tx p = 108) → wJ_X8_takeClause_87 K v M1 := by
    intro v c0 c1 c2 M26 e26
    rw [h11] at e26
    have f26 : fm M M26 := fm_t (fn_m r1) (fm_1 (by decide) e26)
    have t26 := TM_at t1 (show p + 1 ≤ tn by omega) (nI_1 p) e26
    have hd26 := RM_fn (fn_1 (by decide) e26) hd1
    refine ⟨fun h0 => ⟨fun h1 => m_likes' hw hp t26 hd26 (fun r M' f' z => hK r M' (fm_t f26 f') ?_), fun h1 => m_pers hw hp (c1 h1).2.2 t26 hd26 (fun r M' f' z => hK r M' (fm_t f26 f') ?_)⟩, fun h0 => m_gate hw hp (c0 h0).2 t26 hd26 (fun r M' f' z => hK r M' (fm_t f26 f') ?_)⟩
    · obtain ⟨q1, q2, q3⟩ := c2 h0 h1
      rw [if_neg q1, if_neg q2, if_pos q3]; exact z
    · rw [if_neg (c1 h1).1, if_pos (c1 h1).2.1]; exact z
    · rw [if_pos (c0 h0).1]; exact z
  refine ⟨fun c1 => ⟨fun c2 => ⟨fun c3 => ?_, fun c3 => ?_⟩, fun c2 => ?_⟩, fun c1 => ?_⟩
  · refine ⟨fun h => absurd h (by decide), fun _ => er 1 ?_⟩
    rw [if_neg c1, if_neg c2, if_neg c3]
  · exact ⟨fun _ => ⟨fun _ => ⟨fun _ => go 2 (fun h => absurd h (by decide)) (fun h => absurd h (by decide)) (fun _ _ => ⟨c1, c2, c3⟩), fun h => absurd h (by decide)⟩, fun h => absurd h (by decide)⟩, fun h => absurd (by decide) h⟩
  · refine ⟨fun _ => ⟨fun _ => ⟨fun h => absurd rfl h, fun _ => ?_⟩, fun h => absurd h (by decide)⟩, fun h => absurd (by decide) h⟩
    have q16 : M1 117 16 = nI P := hd1.2.1
    rw [q16]
    refine ⟨fun h => go 1 (fun h => absurd h (by decide)) (fun _ => ⟨c1, c2, ?_⟩) (fun _ h => absurd rfl h), fun h => er 3 ?_⟩
    · rcases Nat.lt_or_ge P 7 with q | q
      · exact q
      · exact absurd (show nI P = nI 7 by rw [show P = 7 by omega]) h
    · have e7 : P = 7 := nI_inj (b := 7) (by omega) (by decide) h
      rw [if_neg c1, if_pos c2]
      have : 7 ≤ P := by omega
      simp only [persR, if_pos this]
  · refine ⟨fun _ => ⟨fun h => absurd rfl h, fun _ => ?_⟩, fun h => absurd (by decide) h⟩
    have q14 : M1 117 14 = nI G := hd1.1
    rw [q14]
    refine ⟨fun h => er 3 ?_, fun h => ⟨fun _ => go 0 (fun _ => ⟨c1, ?_⟩) (fun h => absurd h (by decide)) (fun h => absurd rfl h), fun h => absurd h (by decide)⟩⟩
    · have e7 : G = 5 := nI_inj (b := 5) (by omega) (by decide) h
      rw [if_pos c1]
      have : 5 ≤ G := by omega
      simp only [gateR, if_pos this]
    · rcases Nat.lt_or_ge G 5 with q | q
      · exact q
      · exact absurd (show nI G = nI 5 by rw [show G = 5 by omega]) h
end M2
