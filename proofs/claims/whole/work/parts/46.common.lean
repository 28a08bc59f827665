/-! ===== common ===== -/
def tOf : pS → kT
  | (_, G, P, B, _, _, K) => (G, P, B, fun p q => if K p q = 10 then 0 else K p q)
def nOf : pS → Nat → Int32
  | (_, _, _, _, I, C, _), k => if k < 7 then nI (I k) else if k < 14 then -1 else if k < 21 then nI (C (k - 14)) else 0
theorem nOf_eq {p G P : Nat} {B I C : Nat → Nat} {K : Nat → Nat → Nat} (k : Nat) : nOf (p, G, P, B, I, C, K) k = if k < 7 then nI (I k) else if k < 14 then -1 else if k < 21 then nI (C (k - 14)) else 0 := rfl
theorem WF_LW {s : pS} (h : WF s) : LW (tOf s) := by
  obtain ⟨p, G, P, B, I, C, K⟩ := s
  obtain ⟨w1, w2, w3, w4, w5, w6, w7, w8⟩ := h
  refine ⟨w1, w2, w3, fun x y => ?_, fun x y hxy => ?_⟩
  · show (if K x y = 10 then 0 else K x y) ≤ 9
    have := w7 x y
    split <;> omega
  · show (if K x y = 10 then 0 else K x y) = 0
    rw [if_pos (w8 x y hxy)]
theorem WF_SW {s : pS} (h : WF s) : SW (tOf s) (nOf s) := by
  obtain ⟨p, G, P, B, I, C, K⟩ := s
  obtain ⟨w1, w2, w3, w4, w5, w6, w7, w8⟩ := h
  have b01 : ∀ x : Nat, x ≤ 1 → nI x = 0 ∨ nI x = 1 := fun x hx => by
    rcases Nat.lt_or_ge x 1 with q | q
    · left; rw [show x = 0 by omega]; rfl
    · right; rw [show x = 1 by omega]; rfl
  have nA : ∀ x, x < 7 → nOf (p, G, P, B, I, C, K) x = nI (I x) := fun x hx => by rw [nOf_eq, if_pos hx]
  have nB : ∀ x, x < 7 → nOf (p, G, P, B, I, C, K) (7 + x) = -1 := fun x hx => by rw [nOf_eq, if_neg (by omega), if_pos (by omega)]
  have nC : ∀ x, x < 7 → nOf (p, G, P, B, I, C, K) (14 + x) = nI (C x) := fun x hx => by rw [nOf_eq, if_neg (by omega), if_neg (by omega), if_pos (by omega), show 14 + x - 14 = x by omega]
  have nD : ∀ x, 21 ≤ x → nOf (p, G, P, B, I, C, K) x = 0 := fun x hx => by rw [nOf_eq, if_neg (by omega), if_neg (by omega), if_neg (by omega)]
  refine ⟨fun x hx => ?_, fun x h1 h2 => ?_, fun x hx => Or.inl (nB x hx), fun x h1 h2 => nB x h2, fun x hx => ?_, fun x h1 h2 => ?_, fun g hg => ⟨0, Nat.zero_le _, ?_, ?_⟩, 0, by omega, ?_, fun i hi => absurd hi (Nat.not_lt_zero _)⟩
  · rw [nA x hx]; exact b01 _ (w4 x)
  · rw [nA x h2, (w6 x h1).1]; rfl
  · rw [nC x hx]; exact b01 _ (w5 x)
  · rw [nC x h2, (w6 x h1).2]; rfl
  · rw [nD _ (by omega)]; rfl
  · have hb := (w3 g hg).1
    rw [nD _ (by omega)]
    show (0 : Int32) = if B g ≤ 0 then 1 else 0
    rw [if_neg (by omega)]
  · rw [nD _ (by omega)]; rfl
theorem RD_RC {M : kg_M} {S : Nat} {s : pS} (h : WF s) (hd : RD M S s) : RC M S (tOf s) := by
  obtain ⟨p, G, P, B, I, C, K⟩ := s
  obtain ⟨w1, w2, w3, w4, w5, w6, w7, w8⟩ := h
  obtain ⟨d0, d1, d2, d3, d4, d5, d6⟩ := hd
  refine ⟨d0, d1, d4, fun x y hx hy => ?_, fun x hx => ?_⟩
  · show M (S + 2) (7 * x + y) = nI (if K x y = 10 then 0 else K x y) ∨ (M (S + 2) (7 * x + y) = -1 ∧ (if K x y = 10 then 0 else K x y) = 0)
    rw [d5 x y hx hy]
    by_cases c : K x y = 10
    · rw [if_pos c, if_pos c]; exact Or.inr ⟨rfl, rfl⟩
    · rw [if_neg c, if_neg c]; exact Or.inl rfl
  · rw [d6 x hx]
    congr 1
    refine bs_cong (fun y _ => ?_)
    show fk K x y = (decide (1 ≤ (if K x y = 10 then 0 else K x y)) && decide (1 ≤ (if K y x = 10 then 0 else K y x)))
    have gd : ∀ z : Nat, z ≤ 10 → (decide (1 ≤ z) && decide (z ≤ 9)) = decide (1 ≤ (if z = 10 then 0 else z)) := by
      intro z hz
      by_cases c : z = 10
      · subst c; rfl
      · rw [if_neg c, decide_eq_true (show z ≤ 9 by omega), Bool.and_true]
    unfold fk
    rw [gd _ (w7 x y), gd _ (w7 y x)]
section M3
variable {M : kg_M} {tn : Nat} {tx : Nat → Int32}
/-- what the reference took over -/
theorem m_takeRead {s : pS} {K : kg_M → Prop} (hw : WF s) (hd : RM M s) (hK : ∀ M' : kg_M, RT M' (tOf s) → RN M' (nOf s) → (∀ k, k ≠ 117 → k ≠ 118 → k ≠ 119 → k ≠ 120 → M' k = M k) → (∀ j, j ≠ 0 → j ≠ 2 → M' 117 j = M 117 j) → K M') : wp_X8_takeRead M K := by
  obtain ⟨p, G, P, B, I, C, Kk⟩ := s
  obtain ⟨w1, w2, w3, w4, w5, w6, w7, w8⟩ := hw
  obtain ⟨d0, d1, d2, d3, d4, d5⟩ := hd
  intro M2 e2 M5 e5
  have r5 : ∀ k, k ≠ 117 → M5 k = M k := fun k hk => by rw [e5, kg_row_ne _ _ hk, e2, kg_row_ne _ _ hk]
  have s5 : ∀ j, j ≠ 0 → j ≠ 2 → M5 117 j = M 117 j := fun j a b => by rw [e5, kg_row_eq, upd_ne b, e2, kg_row_eq, upd_ne a]
  have q0 : M5 117 0 = nI G := by rw [e5, kg_row_eq, upd_ne (by decide), e2, kg_row_eq, upd_eq]; exact d0
  have q2 : M5 117 2 = nI P := by rw [e5, kg_row_eq, upd_eq, e2, kg_row_eq, upd_ne (by decide)]; exact d1
  refine ⟨_, for_loop (fun f (M' : kg_M) i => wL_X8_takeRead_18 _ K f i M') (fun k M' => (∀ j, j ≠ 118 → M' j = M5 j) ∧ ∀ j, j < k → M' 118 j = nI (B j)) G M5 ⟨fun _ _ => rfl, fun j hj => absurd hj (Nat.not_lt_zero _)⟩ (fun f Ma h => ?_) (fun f k M' hk h ih => ?_)⟩
  case refine_2 =>
    rw [wL_X8_takeRead_18, h.1 117 (by decide), q0, nI_1 k, cl_nI (by omega), h.1 124 (by decide), r5 124 (by decide), d2 k hk]
    refine ⟨fun h => absurd h (nI_ge hk (by omega)), fun _ => ⟨in_nI (by omega) (by omega), in_nI (by omega) (by omega), fun M8 e8 => ih M8 ⟨fun j hj => by rw [e8, kg_row_ne _ _ hj, h.1 j hj], fun j hj => ?_⟩⟩⟩
    rw [e8, kg_row_eq]
    by_cases e : j = k
    · rw [e, upd_eq]
    · rw [upd_ne e]; exact h.2 j (by omega)
  rw [wL_X8_takeRead_18, h.1 117 (by decide), q0]
  refine ⟨fun _ => ?_, fun h => absurd (nI_le (Nat.le_refl _) (by omega)) h⟩
  obtain ⟨ra, ha⟩ := h
  refine ⟨_, for_loop (fun f (M' : kg_M) i => wL_X8_takeRead_46 _ K f i M') (fun k M' => (∀ j, j ≠ 119 → M' j = Ma j) ∧ ∀ j, j < k → M' 119 j = (if M 127 j ≤ 0 then 0 else M 127 j)) 49 Ma ⟨fun _ _ => rfl, fun j hj => absurd hj (Nat.not_lt_zero _)⟩ (fun f Mb h => ?_) (fun f k M' hk h ih => ?_)⟩
  case refine_2 =>
    have J : ∀ x : Int32, x = (if M 127 k ≤ 0 then 0 else M 127 k) → wJ_X8_takeRead_76 (wL_X8_takeRead_46 (fun (M : kg_M) => ∃ g : Nat, wL_X8_takeRead_85 (fun (M : kg_M) => ∃ g : Nat, wL_X8_takeRead_106 (fun (M : kg_M) => K M) K g (0 : Int32) M) K g (0 : Int32) M) K f) (fun (M : kg_M) => ∃ g : Nat, wL_X8_takeRead_85 (fun (M : kg_M) => ∃ g : Nat, wL_X8_takeRead_106 (fun (M : kg_M) => K M) K g (0 : Int32) M) K g (0 : Int32) M) K (nI k) (nI k) x M' := by
      intro x hx
      unfold wJ_X8_takeRead_76
      rw [cl_nI (by omega), nI_1 k]
      refine ⟨in_nI (by omega) (by omega), fun M8 e8 => ih M8 ⟨fun j hj => by rw [e8, kg_row_ne _ _ hj, h.1 j hj], fun j hj => ?_⟩⟩
      rw [e8, kg_row_eq]
      by_cases e : j = k
      · rw [e, upd_eq, hx]
      · rw [upd_ne e]; exact h.2 j (by omega)
    rw [wL_X8_takeRead_46, cl_nI (by omega), h.1 127 (by decide), ra 127 (by decide), r5 127 (by decide)]
    exact ⟨fun h => absurd h (nI_ge (b := 49) hk (by decide)), fun _ => ⟨in_nI (by omega) (by omega), fun c => J 0 (by rw [if_pos c]), fun c => ⟨in_nI (by omega) (by omega), J _ (by rw [if_neg c])⟩⟩⟩
  rw [wL_X8_takeRead_46]
  refine ⟨fun _ => ?_, fun h => absurd (nI_le (a := 49) (b := 49) (Nat.le_refl _) (by decide)) h⟩
  obtain ⟨rb, hb⟩ := h
  refine ⟨_, for_loop (fun f (M' : kg_M) i => wL_X8_takeRead_85 _ K f i M') (fun k M' => (∀ j, j ≠ 120 → M' j = Mb j) ∧ ∀ j, j < k → M' 120 j = 0) 55 Mb ⟨fun _ _ => rfl, fun j hj => absurd hj (Nat.not_lt_zero _)⟩ (fun f Mc h => ?_) (fun f k M' hk h ih => ?_)⟩
  case refine_2 =>
    rw [wL_X8_takeRead_85, cl_nI (by omega), nI_1 k]
    refine ⟨fun h => absurd h (nI_ge (b := 55) hk (by decide)), fun _ => ⟨in_nI (by omega) (by omega), fun M8 e8 => ih M8 ⟨fun j hj => by rw [e8, kg_row_ne _ _ hj, h.1 j hj], fun j hj => ?_⟩⟩⟩
    rw [e8, kg_row_eq]
    by_cases e : j = k
    · rw [e, upd_eq]
    · rw [upd_ne e]; exact h.2 j (by omega)
  rw [wL_X8_takeRead_85]
  refine ⟨fun _ => ?_, fun h => absurd (nI_le (a := 55) (b := 55) (Nat.le_refl _) (by decide)) h⟩
  obtain ⟨rc, hc⟩ := h
  have r2 : ∀ M' : kg_M, (∀ j, j ≠ 120 → M' j = Mc j) → ∀ k, k ≠ 118 → k ≠ 119 → k ≠ 120 → M' k = M5 k := fun M' h k a b c => by rw [h k c, rc k c, rb k b, ra k a]
  refine ⟨_, for_loop (fun f (M' : kg_M) i => wL_X8_takeRead_106 _ K f i M') (fun k M' => (∀ j, j ≠ 120 → M' j = Mc j) ∧ ∀ j, j < 55 → M' 120 j = if j < k then nI (I j) else if 7 ≤ j ∧ j < 7 + k then -1 else if 14 ≤ j ∧ j < 14 + k then nI (C (j - 14)) else 0) 7 Mc ⟨fun _ _ => rfl, fun j hj => by rw [hc j hj, if_neg (by omega), if_neg (by omega), if_neg (by omega)]⟩ (fun f Md h => ?_) (fun f k M' hk h ih => ?_)⟩
  case refine_2 =>
    have q2' : M' 117 2 = nI P := by rw [r2 M' h.1 117 (by decide) (by decide) (by decide)]; exact q2
    have J2 : ∀ M3 M4 : kg_M, M3 = kg_row M' 120 (upd (M' 120) k (nI (I k))) → M4 = kg_row M3 120 (upd (M3 120) (7 + k) (-1)) → wJ_X8_takeRead_172 (wL_X8_takeRead_106 (fun (M : kg_M) => K M) K f) (fun (M : kg_M) => K M) K (nI k) ((14 : Int32) + nI k) (nI (C k)) M4 := by
      intro M3 M4 e3 e4
      unfold wJ_X8_takeRead_172
      rw [show (14 : Int32) = nI 14 from rfl, nI_add, cl_nI (by omega), nI_1 k]
      refine ⟨in_nI (by omega) (by omega), fun M8 e8 => ih M8 ⟨fun j hj => by rw [e8, kg_row_ne _ _ hj, e4, kg_row_ne _ _ hj, e3, kg_row_ne _ _ hj, h.1 j hj], fun j hj => ?_⟩⟩
      rw [e8, kg_row_eq, e4, kg_row_eq, e3, kg_row_eq]
      by_cases c1 : j = 14 + k
      · rw [c1, upd_eq, if_neg (by omega), if_neg (by omega), if_pos (by omega), show 14 + k - 14 = k by omega]
      · rw [upd_ne c1]
        by_cases c2 : j = 7 + k
        · rw [c2, upd_eq, if_neg (by omega), if_pos (by omega)]
        · rw [upd_ne c2]
          by_cases c3 : j = k
          · rw [c3, upd_eq, if_pos (by omega)]
          · rw [upd_ne c3, h.2 j hj]
            by_cases t1 : j < k
            · rw [if_pos t1, if_pos (by omega)]
            · rw [if_neg t1, if_neg (show ¬ j < k + 1 by omega)]
              by_cases t2 : 7 ≤ j ∧ j < 7 + k
              · rw [if_pos t2, if_pos (by omega)]
              · rw [if_neg t2, if_neg (show ¬ (7 ≤ j ∧ j < 7 + (k + 1)) by omega)]
                by_cases t3 : 14 ≤ j ∧ j < 14 + k
                · rw [if_pos t3, if_pos (by omega)]
                · rw [if_neg t3, if_neg (by omega)]
    have J1 : wJ_X8_takeRead_135 (wL_X8_takeRead_106 (fun (M : kg_M) => K M) K f) (fun (M : kg_M) => K M) K (nI k) (nI k) (nI (I k)) M' := by
      unfold wJ_X8_takeRead_135
      rw [show (7 : Int32) = nI 7 from rfl, nI_add, cl_nI (by omega), cl_nI (by omega)]
      refine ⟨in_nI (by omega) (by omega), fun M3 e3 => ⟨in_nI (by omega) (by omega), fun M4 e4 => ?_⟩⟩
      have s4 : M4 117 2 = nI P := by rw [e4, kg_row_ne _ _ (by decide), e3, kg_row_ne _ _ (by decide)]; exact q2'
      rw [s4]
      refine ⟨fun c => ?_, fun c => ⟨in_nI (by omega) (by omega), ?_⟩⟩
      · have hle := (nI_leI (by omega) (by omega)).mp c
        have := J2 M3 M4 e3 e4
        rw [(w6 k hle).2] at this
        exact this
      · have hlt : k < P := by
          rcases Nat.lt_or_ge k P with q | q
          · exact q
          · exact absurd (nI_le q (by omega)) c
        rw [e4, kg_row_ne _ _ (show (126 : Nat) ≠ 120 by decide), e3, kg_row_ne _ _ (show (126 : Nat) ≠ 120 by decide), r2 M' h.1 126 (by decide) (by decide) (by decide), r5 126 (by decide), d4 k hlt, ← e3, ← e4]
        exact J2 M3 M4 e3 e4
    rw [wL_X8_takeRead_106, q2', cl_nI (by omega)]
    refine ⟨fun h => absurd h (nI_ge (b := 7) hk (by decide)), fun _ => ⟨fun c => ?_, fun c => ⟨in_nI (by omega) (by omega), ?_⟩⟩⟩
    · have hle := (nI_leI (by omega) (by omega)).mp c
      rw [(w6 k hle).1] at J1
      exact J1
    · have hlt : k < P := by
        rcases Nat.lt_or_ge k P with q | q
        · exact q
        · exact absurd (nI_le q (by omega)) c
      rw [r2 M' h.1 125 (by decide) (by decide) (by decide), r5 125 (by decide), d3 k hlt]
      exact J1
  rw [wL_X8_takeRead_106]
  refine ⟨fun _ => ?_, fun h => absurd (nI_le (a := 7) (b := 7) (Nat.le_refl _) (by decide)) h⟩
  obtain ⟨rd, hd⟩ := h
  have fin := r2 Md rd
  refine hK Md ⟨by rw [fin 117 (by decide) (by decide) (by decide)]; exact q0, by rw [fin 117 (by decide) (by decide) (by decide)]; exact q2, fun g hg => ?_, fun x y hx hy => ?_⟩ (fun k hk => ?_) (fun k a b c d => by rw [fin k b c d, r5 k a]) (fun j a b => by rw [fin 117 (by decide) (by decide) (by decide), s5 j a b])
  · rw [rd 118 (by decide), rc 118 (by decide), rb 118 (by decide)]; exact ha g hg
  · rw [rd 119 (by decide), rc 119 (by decide), hb _ (by omega), d5 x y hx hy]
    show _ = nI (if Kk x y = 10 then 0 else Kk x y)
    have h10 := w7 x y
    by_cases c : Kk x y = 10
    · rw [if_pos c, if_pos c]; rfl
    · rw [if_neg c, if_neg c]
      by_cases z : Kk x y = 0
      · rw [z]; rfl
      · rw [if_neg (nI_nle (by omega) (by omega))]
  · rw [hd k hk]
    rw [nOf_eq]
    by_cases t1 : k < 7
    · rw [if_pos t1, if_pos t1]
    · rw [if_neg t1, if_neg t1]
      by_cases t2 : k < 14
      · rw [if_pos (show 7 ≤ k ∧ k < 7 + 7 by omega), if_pos t2]
      · rw [if_neg (show ¬ (7 ≤ k ∧ k < 7 + 7) by omega), if_neg t2]
        by_cases t3 : k < 21
        · rw [if_pos (show 14 ≤ k ∧ k < 14 + 7 by omega), if_pos t3]
        · rw [if_neg (show ¬ (14 ≤ k ∧ k < 14 + 7) by omega), if_neg t3]
theorem m_read {n : Nat} {K : Int32 → kg_M → Prop} (e240 : n = 240) (hn : tn ≤ 240) (h9 : M 117 9 = nI tn) (hx : ∀ i, i < tn → M 123 i = tx i ∧ 0 ≤ tx i) (hK : ∀ (r : Int32) (M' : kg_M), fm M M' → (match prs tn tx n with
    | Except.error e => r = nI e.1 ∧ M' 117 10 = nI e.2
    | Except.ok s => r = 0 ∧ M' 117 10 = -1 ∧ RM M' s) → wJ_X8_common_62 K r M') : wp_X8_common M K := by
  intro M2 e2 M5 e5 M8 e8 M11 e11
  have f11 : fm M M11 := fm_t (fm_t (fm_t (fm_1 (by decide) e2) (fm_1 (by decide) e5)) (fm_1 (by decide) e8)) (fm_1 (by decide) e11)
  have q11 : M11 117 = upd (upd (upd (upd (M 117) 10 (-1)) 11 0) 14 0) 16 0 := by rw [e11, kg_row_eq, e8, kg_row_eq, e5, kg_row_eq, e2, kg_row_eq]
  refine ⟨_, for_loop (fun f (M' : kg_M) i => wL_X8_common_22 _ K f i M') (fun k M' => (∀ j, j ≠ 127 → M' j = M11 j) ∧ ∀ j, j < k → M' 127 j = -1) 49 M11 ⟨fun _ _ => rfl, fun j hj => absurd hj (Nat.not_lt_zero _)⟩ (fun f Ma h => ?_) (fun f k M' hk h ih => ?_)⟩
  case refine_2 =>
    rw [wL_X8_common_22, cl_nI (by omega), nI_1 k]
    refine ⟨fun h => absurd h (nI_ge (b := 49) hk (by decide)), fun _ => ⟨in_nI (by omega) (by omega), fun M8 e8 => ih M8 ⟨fun j hj => by rw [e8, kg_row_ne _ _ hj, h.1 j hj], fun j hj => ?_⟩⟩⟩
    rw [e8, kg_row_eq]
    by_cases e : j = k
    · rw [e, upd_eq]
    · rw [upd_ne e]; exact h.2 j (by omega)
  rw [wL_X8_common_22]
  refine ⟨fun _ => ⟨n + 2, ?_⟩, fun h => absurd (nI_le (a := 49) (b := 49) (Nat.le_refl _) (by decide)) h⟩
  obtain ⟨ra, ha⟩ := h
  have fa : fm M Ma := fm_t f11 ⟨fun k a b => ra k (by omega), fun j hj => by rw [ra 117 (by decide)]⟩
  have ta : TM Ma tn tx 0 := by
    refine ⟨hn, Nat.zero_le _, ?_, fun i hi => by rw [fa.1 123 (by decide) (by decide)]; exact hx i hi, ?_, ?_⟩
    · rw [fa.2 9 (by decide)]; exact h9
    · rw [ra 117 (by decide), q11]; rfl
    · rw [ra 117 (by decide), q11]; rfl
  have da : RM Ma (0, 0, 0, (fun _ => 0), (fun _ => 0), (fun _ => 0), (fun _ _ => 10)) := by
    refine ⟨?_, ?_, fun g hg => absurd hg (Nat.not_lt_zero _), fun g hg => absurd hg (Nat.not_lt_zero _), fun g hg => absurd hg (Nat.not_lt_zero _), fun x y hx hy => ?_⟩
    · rw [ra 117 (by decide), q11]; rfl
    · rw [ra 117 (by decide), q11]; rfl
    · rw [if_pos rfl]; exact ha _ (by omega)
  have go : ∀ d k (M' : kg_M) (s : pS) p, k + d = n → prs tn tx k = Except.ok s → fm M M' → TM M' tn tx p → skp tn tx p = s.1 → RM M' s → wL_X8_common_43 (fun (v1 : Int32) (M : kg_M) => wJ_X8_common_62 K v1 M) K (d + 2) 0 M' := by
    intro d
    induction d with
    | zero =>
      intro k M' s p hk hp hf ht hs hd
      have hgd := prs_gd (tn := tn) (tx := tx) k
      rw [hp] at hgd
      have hge : tn ≤ s.1 := by
        rcases hgd.2.2.2 with q | q
        · omega
        · exact q
      rw [wL_X8_common_43]
      refine ⟨fun h => absurd rfl h, fun _ => m_here ht (fun M1 r1 t1 _ => ?_)⟩
      rw [hs] at t1 ⊢
      unfold hr
      rw [if_neg (by omega)]
      refine ⟨fun _ => hK 0 M1 (fm_t hf (fn_m r1)) ?_, fun h => absurd (by decide) h⟩
      rw [show n = k by omega, hp]
      exact ⟨rfl, t1.2.2.2.2.2, RM_fn r1 hd⟩
    | succ d ih =>
      intro k M' s p hk hp hf ht hs hd
      have hgd := prs_gd (tn := tn) (tx := tx) k
      rw [hp] at hgd
      rw [wL_X8_common_43]
      refine ⟨fun h => absurd rfl h, fun _ => m_here ht (fun M1 r1 t1 _ => ?_)⟩
      rw [hs] at t1 ⊢
      unfold hr
      have hd1 := RM_fn r1 hd
      have f1 := fm_t hf (fn_m r1)
      by_cases hlt : s.1 < tn
      · rw [if_pos hlt]
        refine ⟨fun h => absurd (t1.2.2.2.1 s.1 hlt).2 (fa_of_lt h).2.1, fun _ => ?_⟩
        obtain ⟨p0, G, P, B, I, C, Kk⟩ := s
        refine m_clause hgd.2.1 hlt hgd.2.2.1 t1 hd1 (fun r M2 f2 z2 => ?_)
        have hstep : prs tn tx (k + 1) = match clauseR tn tx (p0, G, P, B, I, C, Kk) with
          | Except.error e => Except.error e
          | Except.ok s' => Except.ok (skp tn tx s'.1, s'.2) := by
          rw [prs, hp]
          dsimp only
          rw [if_neg (Nat.not_le.mpr hlt)]
          rfl
        cases hc : clauseR tn tx (p0, G, P, B, I, C, Kk) with
        | error e =>
          rw [hc] at z2 hstep
          have hst : prs tn tx (k + 1) = Except.error e := hstep
          have hg2 := prs_gd (tn := tn) (tx := tx) (k + 1)
          rw [hst] at hg2
          have hfin := prs_e hst d
          rw [show k + 1 + d = n by omega] at hfin
          rw [wL_X8_common_43]
          refine ⟨fun _ => hK r M2 (fm_t f1 f2) ?_, fun h => absurd (by rw [← z2.1]; exact h) (e_ne hg2.1)⟩
          rw [hfin]
          exact z2
        | ok s' =>
          rw [hc] at z2 hstep
          obtain ⟨z0, z1, zd⟩ := z2
          rw [z0]
          obtain ⟨p', G', P', B', I', C', K'⟩ := s'
          exact ih (k + 1) M2 (skp tn tx p', G', P', B', I', C', K') p' (by omega) hstep (fm_t f1 f2) z1 rfl zd
      · rw [if_neg hlt]
        refine ⟨fun _ => hK 0 M1 f1 ?_, fun h => absurd (by decide) h⟩
        have hfin := prs_d hp (by omega) (d + 1)
        rw [hk] at hfin
        rw [hfin]
        exact ⟨rfl, t1.2.2.2.2.2, hd1⟩
  exact go n 0 Ma (skp tn tx 0, 0, 0, (fun _ => 0), (fun _ => 0), (fun _ => 0), (fun _ _ => 10)) 0 (by omega) rfl fa ta rfl da
end M3
