/-! ===== the reference's AT ONCE ===== -/
theorem bk_lt : ∀ k, k < 22 → bk k < 128 := by decide +kernel
def okC (T : kT) (a b c : Nat) : Bool := okS a b c && okL (fo T) a && okL (fo T) b && okL (fo T) c
def cA (c : Nat) : Nat := c / 484
def cB (c : Nat) : Nat := c / 22 % 22
def cC (c : Nat) : Nat := c % 22
theorem code_abc {a b c : Nat} (ha : a < 22) (hb : b < 22) (hc : c < 22) : a * 484 + b * 22 + c < 10648 ∧ cA (a * 484 + b * 22 + c) = a ∧ cB (a * 484 + b * 22 + c) = b ∧ cC (a * 484 + b * 22 + c) = c := by
  unfold cA cB cC
  omega
theorem code_lt {c : Nat} (h : c < 10648) : cA c < 22 ∧ cB c < 22 ∧ cC c < 22 := by
  unfold cA cB cC
  omega
section P18
variable {M : kg_M} {T : kT} {N : Nat → Int32}
theorem m_pairBits {k : Nat} {K : Int32 → kg_M → Prop} (hP : RP M) (hk : k < 22) (hK : K (nI (bk k)) M) : wp_X8_pairBits (nI k) M K := by
  unfold wp_X8_pairBits
  by_cases e : k = 21
  · subst e
    exact ⟨fun h => absurd rfl h, fun _ => hK⟩
  · obtain ⟨o1, o2, -⟩ := ix_of k (by omega)
    obtain ⟨p1, p2⟩ := hP k (by omega)
    rw [cl_nI (by omega), p1, p2, one_shl (by omega), one_shl (by omega), fa_or]
    have hb : bk k = 2 ^ pO k ||| 2 ^ pT k := by unfold bk; rw [if_neg e]
    rw [hb] at hK
    exact ⟨fun _ => ⟨in_nI (by omega) (by decide), in_nI (by omega) (by decide), hK⟩, fun h => absurd ((nI_eq (b := 21) (by omega) (by decide)).mp h) e⟩
theorem m_j111 {Kb : Int32 → Int32 → kg_M → Prop} {Kx162 : kg_M → Prop} {Kx179 : Int32 → kg_M → Prop} {K : Int32 → kg_M → Prop} {s k : Nat} {v3 r n : Int32} (hR : RT M T) (hP : RP M) (hT : LW T) (hk : k < 22) (hs : s < 128) (hok : ¬ r = 0 → n = 0 → s &&& bk k = 0 → okL (fo T) k = true → Kb (nI (s ||| bk k)) (v3 + 1) M) (hno : (r = 0 ∨ ¬ n = 0 ∨ ¬ (s &&& bk k = 0) ∨ okL (fo T) k = false) → Kx162 M) : wJ_X8_choose_111 Kb Kx162 Kx179 K (nI s) v3 (nI k) r n M := by
  have J : ¬ r = 0 → n = 0 → s &&& bk k = 0 → okL (fo T) k = true → wJ_X8_choose_164 Kb Kx162 Kx179 K (nI s) v3 (nI k) M := by
    intro h1 h2 h3 h4
    refine m_pairBits hP hk ?_
    rw [fa_or]
    exact hok h1 h2 h3 h4
  refine ⟨fun h => hno (Or.inl h), fun h1 => ⟨fun h => hno (Or.inr (Or.inl h)), fun h2 => m_pairBits hP hk ⟨fun h => hno (Or.inr (Or.inr (Or.inl (fun e => h ((and0 hs).mpr e))))), fun h3 => ⟨fun h4 => J h1 h2 ((and0 hs).mp h3) ?_, fun h4 => ?_⟩⟩⟩⟩
  · have : 21 ≤ k := (nI_leI (a := 21) (by decide) (by omega)).mp h4
    unfold okL; rw [show k = 21 by omega]; rfl
  · have hlt : k < 21 := by
      rcases Nat.lt_or_ge k 21 with q | q
      · exact q
      · exact absurd (nI_le (a := 21) q (by omega)) h4
    obtain ⟨o1, o2, -⟩ := ix_of k hlt
    obtain ⟨p1, p2⟩ := hP k hlt
    rw [cl_nI (by omega), p1, p2]
    refine ⟨in_nI hlt (by decide), in_nI hlt (by decide), m_like hR hT (by omega) (by omega) (fun e => ⟨fun _ => J h1 h2 ((and0 hs).mp h3) (by unfold okL; rw [e, Bool.or_true]), fun h => absurd h (by decide)⟩) (fun e => ⟨fun h => absurd rfl h, fun _ => hno (Or.inr (Or.inr (Or.inr ?_)))⟩) (by omega)⟩
    unfold okL
    have : (k == 21) = false := by simp; omega
    rw [e, this]; rfl
theorem m_ch0 {Kx162 : kg_M → Prop} {Kx179 : Int32 → kg_M → Prop} {K : Int32 → kg_M → Prop} {f k : Nat} (hR : RT M T) (hP : RP M) (hT : LW T) (hk : k < 22) (e0 : M 129 0 = nI k) (hok : okL (fo T) k = true → wL_X8_choose_38 Kx162 Kx179 K f (nI (bk k)) 1 M) (hno : okL (fo T) k = false → Kx162 M) : wL_X8_choose_38 Kx162 Kx179 K (f + 1) 0 0 M := by
  rw [wL_X8_choose_38, lit_cl 0 (by decide), e0]
  have J : wJ_X8_choose_111 (wL_X8_choose_38 Kx162 Kx179 K f) Kx162 Kx179 K 0 0 (nI k) 1 0 M := m_j111 (s := 0) hR hP hT hk (by decide) (fun _ _ _ h => by rw [Nat.zero_or]; exact hok h) (fun h => by
    rcases h with h | h | h | h
    · exact absurd h (by decide)
    · exact absurd rfl h
    · exact absurd (Nat.zero_and _) h
    · exact hno h)
  exact ⟨fun h => absurd h (by decide), fun _ => ⟨lit_in 0 3 (by decide) (by decide), fun _ => ⟨fun _ => J, fun _ => ⟨fun _ => J, fun h => absurd (by decide) h⟩⟩, fun h => absurd rfl h⟩⟩
theorem m_chi {Kx162 : kg_M → Prop} {Kx179 : Int32 → kg_M → Prop} {K : Int32 → kg_M → Prop} {f i k pr s : Nat} (hR : RT M T) (hP : RP M) (hT : LW T) (hi : 1 ≤ i) (hi3 : i < 3) (hk : k < 22) (hpr : pr < 22) (hs : s < 128) (e0 : M 129 i = nI k) (e1 : M 129 (i - 1) = nI pr) (hok : (k = 21 ∨ pr < k) → s &&& bk k = 0 → okL (fo T) k = true → wL_X8_choose_38 Kx162 Kx179 K f (nI (s ||| bk k)) (nI (i + 1)) M) (hno : ((¬ k = 21 ∧ ¬ pr < k) ∨ ¬ (s &&& bk k = 0) ∨ okL (fo T) k = false) → Kx162 M) : wL_X8_choose_38 Kx162 Kx179 K (f + 1) (nI s) (nI i) M := by
  have ei : (nI i - (1 : Int32)) = nI (i - 1) := by rw [show (1 : Int32) = nI 1 from rfl, pk_sub hi]
  rw [wL_X8_choose_38, cl_nI (a := i) (by omega), e0, ei, cl_nI (a := i - 1) (by omega), e1]
  have i0 : ¬ nI i = 0 := nI_ne0 hi (by omega)
  have in1 : vp_in (nI (i - 1)) 3 := in_nI (by omega) (by decide)
  have i0' : ¬ nI i ≤ 0 := nI_ge (b := i) (a := 0) hi (by omega)
  refine ⟨fun h => absurd h (nI_ge (a := i) (b := 3) hi3 (by decide)), fun _ => ⟨in_nI hi3 (by decide), fun h => absurd h i0, fun _ => ⟨fun h => ?_, fun h => ⟨in1, fun h2 => ?_, fun h2 => ?_⟩⟩⟩⟩
  · have hk21 : k = 21 := (nI_eq (b := 21) (by omega) (by decide)).mp h
    have J : wJ_X8_choose_111 (wL_X8_choose_38 Kx162 Kx179 K f) Kx162 Kx179 K (nI s) (nI i) (nI k) 1 0 M := m_j111 hR hP hT hk hs (fun _ _ h3 h4 => by rw [nI_1]; exact hok (Or.inl hk21) h3 h4) (fun h => by
      rcases h with h | h | h | h
      · exact absurd h (by decide)
      · exact absurd rfl h
      · exact hno (Or.inr (Or.inl h))
      · exact hno (Or.inr (Or.inr h)))
    exact ⟨fun _ => J, fun h => absurd (nI_le (a := 21) (b := k) (by omega) (by omega)) h⟩
  · have hne : k ≠ 21 := fun e => h (by rw [e]; rfl)
    have hle : k ≤ pr := (nI_leI (by omega) (by omega)).mp h2
    have J : ∀ n, wJ_X8_choose_111 (wL_X8_choose_38 Kx162 Kx179 K f) Kx162 Kx179 K (nI s) (nI i) (nI k) 0 n M := fun n => m_j111 hR hP hT hk hs (fun h => absurd rfl h) (fun _ => hno (Or.inl ⟨hne, by omega⟩))
    refine ⟨fun _ => J _, fun _ => ⟨fun _ => J _, fun _ => ?_⟩⟩
    rw [ei, cl_nI (a := i - 1) (by omega), e1]
    exact ⟨in1, fun _ => J _, fun _ => J _⟩
  · have hne : k ≠ 21 := fun e => h (by rw [e]; rfl)
    have hlt : pr < k := by
      rcases Nat.lt_or_ge pr k with q | q
      · exact q
      · exact absurd (nI_le q (by omega)) h2
    have J : wJ_X8_choose_111 (wL_X8_choose_38 Kx162 Kx179 K f) Kx162 Kx179 K (nI s) (nI i) (nI k) 1 0 M := m_j111 hR hP hT hk hs (fun _ _ h3 h4 => by rw [nI_1]; exact hok (Or.inr hlt) h3 h4) (fun h => by
      rcases h with h | h | h | h
      · exact absurd h (by decide)
      · exact absurd rfl h
      · exact hno (Or.inr (Or.inl h))
      · exact hno (Or.inr (Or.inr h)))
    refine ⟨fun h => absurd h (nI_ge (a := k) (b := 21) (by omega) (by decide)), fun _ => ⟨fun _ => J, fun _ => ?_⟩⟩
    rw [ei, cl_nI (a := i - 1) (by omega), e1]
    exact ⟨in1, fun _ => J, fun h => absurd ((nI_eq (b := 21) (by omega) (by decide)).mp h) (by omega)⟩
theorem m_choose {c : Nat} {K : Int32 → kg_M → Prop} (hR : RT M T) (hP : RP M) (hT : LW T) (hc : c < 10648) (hK : ∀ M', (∀ k, k ≠ 129 → M' k = M k) → M' 129 0 = nI (cA c) → M' 129 1 = nI (cB c) → M' 129 2 = nI (cC c) → (okC T (cA c) (cB c) (cC c) = true → K (nI (wB (cA c) (cB c) (cC c))) M') ∧ (okC T (cA c) (cB c) (cC c) = false → K (-1) M')) : wp_X8_choose (nI c) M K := by
  obtain ⟨l1, l2, l3⟩ := code_lt hc
  refine ⟨lit_in 0 3 (by decide) (by decide), fun M4 e4 => ⟨lit_in 1 3 (by decide) (by decide), fun M9 e9 => ⟨lit_in 2 3 (by decide) (by decide), fun M14 e14 => ?_⟩⟩⟩
  rw [show (484 : Int32) = nI 484 from rfl, pk_div (by omega) (by decide) (by decide), lit_cl 0 (by decide)] at e4
  rw [show (22 : Int32) = nI 22 from rfl, pk_div (by omega) (by decide) (by decide), pk_rem (by have := Nat.div_le_self c 22; omega) (by decide) (by decide), lit_cl 1 (by decide)] at e9
  rw [show (22 : Int32) = nI 22 from rfl, pk_rem (by omega) (by decide) (by decide), lit_cl 2 (by decide)] at e14
  have r : ∀ k, k ≠ 129 → M14 k = M k := fun k hk => by rw [e14, kg_row_ne _ _ hk, e9, kg_row_ne _ _ hk, e4, kg_row_ne _ _ hk]
  have q : M14 129 = upd (upd (upd (M 129) 0 (nI (cA c))) 1 (nI (cB c))) 2 (nI (cC c)) := by rw [e14, kg_row_eq, e9, kg_row_eq, e4, kg_row_eq]; rfl
  have q0 : M14 129 0 = nI (cA c) := by rw [q]; rfl
  have q1 : M14 129 1 = nI (cB c) := by rw [q]; rfl
  have q2 : M14 129 2 = nI (cC c) := by rw [q]; rfl
  have hK' := hK M14 r q0 q1 q2
  have hR' : RT M14 T := RT_of hR (by rw [r 117 (by decide)]) (by rw [r 117 (by decide)]) (fun k hk => r k (by omega))
  have hP' : RP M14 := RP_of hP (fun k hk => r k (by omega))
  have b1 := bk_lt _ l1
  have b2 := bk_lt _ l2
  have b12 : bk (cA c) ||| bk (cB c) < 128 := Nat.or_lt_two_pow (n := 7) b1 b2
  refine ⟨4, m_ch0 hR' hP' hT l1 q0 (fun o1 => m_chi (i := 1) (s := bk (cA c)) hR' hP' hT (by decide) (by decide) l2 l1 b1 q1 q0 (fun x1 x2 o2 => m_chi (i := 2) hR' hP' hT (by decide) (by decide) l3 l2 b12 q2 q1 (fun y1 y2 o3 => ?_) (fun h => hK'.2 ?_)) (fun h => hK'.2 ?_)) (fun h => hK'.2 ?_)⟩
  · rw [wL_X8_choose_38]
    refine ⟨fun _ => hK'.1 ?_, fun h => absurd (by decide) h⟩
    unfold okC okS
    rw [o1, o2, o3]
    simp only [Bool.and_true, Bool.and_eq_true, Bool.or_eq_true, beq_iff_eq, decide_eq_true_eq]
    exact ⟨x1.elim Or.inl (fun h => Or.inr ⟨h, x2⟩), y1.elim Or.inl (fun h => Or.inr ⟨h, y2⟩)⟩
  · unfold okC okS
    cases hh : ((cC c == 21 || (decide (cB c < cC c) && ((bk (cA c) ||| bk (cB c)) &&& bk (cC c) == 0))) && okL (fo T) (cC c)) with
    | false =>
      simp only [Bool.and_eq_false_iff] at hh ⊢
      rcases hh with hh | hh
      · exact Or.inl (Or.inl (Or.inl (Or.inr hh)))
      · exact Or.inr hh
    | true =>
      simp only [Bool.and_eq_true, Bool.or_eq_true, beq_iff_eq, decide_eq_true_eq] at hh
      rcases h with ⟨h1, h2⟩ | h | h
      · rcases hh.1 with e | e
        · exact absurd e h1
        · exact absurd e.1 h2
      · rcases hh.1 with e | e
        · rw [e] at h; exact absurd (Nat.and_zero _) h
        · exact absurd e.2 h
      · rw [hh.2] at h; exact absurd h (by decide)
  · unfold okC okS
    cases hh : ((cB c == 21 || (decide (cA c < cB c) && (bk (cA c) &&& bk (cB c) == 0))) && okL (fo T) (cB c)) with
    | false =>
      simp only [Bool.and_eq_false_iff] at hh ⊢
      rcases hh with hh | hh
      · exact Or.inl (Or.inl (Or.inl (Or.inl hh)))
      · exact Or.inl (Or.inr hh)
    | true =>
      simp only [Bool.and_eq_true, Bool.or_eq_true, beq_iff_eq, decide_eq_true_eq] at hh
      rcases h with ⟨h1, h2⟩ | h | h
      · rcases hh.1 with e | e
        · exact absurd e h1
        · exact absurd e.1 h2
      · rcases hh.1 with e | e
        · rw [e] at h; exact absurd (Nat.and_zero _) h
        · exact absurd e.2 h
      · rw [hh.2] at h; exact absurd h (by decide)
  · unfold okC
    rw [h]
    simp
theorem m_puStep {Kx113 : Int32 → kg_M → Prop} {K : Int32 → kg_M → Prop} {f i k : Nat} {w : Nat → Nat} {al : Bool} {v : Int32} (hR : RT M T) (hP : RP M) (hT : LW T) (hN : RN M N) (hW : SW T N) (hi : i < 3) (hk : k < 22) (e0 : M 129 i = nI k) (hw : ∀ p, p < 7 → M 130 p = nI (w p)) (hv : v = if al = true then 1 else 0) (hK : ∀ M' v', (∀ j, j ≠ 130 → M' j = M j) → (∀ p, p < 7 → M' 130 p = nI (st1 w k p)) → v' = (if (al && okL (wd T N) k) = true then 1 else 0) → wL_X8_pairUp_26 Kx113 K f v' (nI (i + 1)) M') : wL_X8_pairUp_26 Kx113 K (f + 1) v (nI i) M := by
  rw [wL_X8_pairUp_26, cl_nI (a := i) (by omega), e0, nI_1 i]
  refine ⟨fun h => absurd h (nI_ge (a := i) (b := 3) hi (by decide)), fun _ => ⟨in_nI hi (by decide), fun h => ?_, fun h => ?_⟩⟩
  · have e : k = 21 := by have := (nI_leI (a := 21) (b := k) (by decide) (by omega)).mp h; omega
    subst e
    exact hK M v (fun _ _ => rfl) (fun p hp => by unfold st1; rw [if_pos rfl]; exact hw p hp) (by unfold okL; simpa using hv)
  · have hlt : k < 21 := by
      rcases Nat.lt_or_ge k 21 with q | q
      · exact q
      · exact absurd (nI_le (a := 21) q (by omega)) h
    obtain ⟨o1, o2, -⟩ := ix_of k hlt
    obtain ⟨p1, p2⟩ := hP k hlt
    have ik : vp_in (nI k) 21 := in_nI hlt (by decide)
    rw [cl_nI (a := k) (by omega), p1, p2, cl_nI (a := pO k) (by omega)]
    refine ⟨ik, ik, in_nI (by omega) (by decide), fun M27 e27 => ⟨ik, ik, ?_⟩⟩
    rw [show M27 122 k = nI (pT k) by rw [e27, kg_row_ne _ _ (by decide)]; exact p2, show M27 121 k = nI (pO k) by rw [e27, kg_row_ne _ _ (by decide)]; exact p1, cl_nI (a := pT k) (by omega)]
    refine ⟨in_nI (by omega) (by decide), fun M36 e36 => ?_⟩
    have r : ∀ j, j ≠ 130 → M36 j = M j := fun j hj => by rw [e36, kg_row_ne _ _ hj, e27, kg_row_ne _ _ hj]
    have q : M36 130 = upd (upd (M 130) (pO k) (nI (pT k))) (pT k) (nI (pO k)) := by rw [e36, kg_row_eq, e27, kg_row_eq]
    have hw' : ∀ p, p < 7 → M36 130 p = nI (st1 w k p) := fun p hp => by
      unfold st1
      rw [if_neg (by omega), q]
      by_cases a : p = pT k
      · rw [if_pos a, a, upd_eq]
      · rw [if_neg a, upd_ne a]
        by_cases b : p = pO k
        · rw [if_pos b, b, upd_eq]
        · rw [if_neg b, upd_ne b]; exact hw p hp
    have hR' : RT M36 T := RT_of hR (by rw [r 117 (by decide)]) (by rw [r 117 (by decide)]) (fun k hk => r k (by omega))
    have hN' : RN M36 N := RN_of hN (r 120 (by decide))
    have hkk : okL (wd T N) k = wd T N (pO k) (pT k) := by
      unfold okL
      have : (k == 21) = false := by simp; omega
      rw [this, Bool.false_or]
    rw [show M36 121 k = nI (pO k) by rw [r 121 (by decide)]; exact p1, show M36 122 k = nI (pT k) by rw [r 122 (by decide)]; exact p2]
    rw [hkk] at hK
    refine ⟨fun h0 => hK M36 0 r hw' ?_, fun h0 => ⟨ik, ik, m_would hR' hT hN' hW (by omega) (by omega) (by omega) (fun e => ⟨fun h => absurd h (by decide), fun _ => hK M36 1 r hw' ?_⟩) (fun e => ⟨fun _ => hK M36 0 r hw' ?_, fun h => absurd rfl h⟩)⟩⟩
    · cases al with
      | true => rw [hv] at h0; exact absurd h0 (by decide)
      | false => rfl
    · cases al with
      | true => rw [e]; rfl
      | false => rw [hv] at h0; exact absurd rfl h0
    · rw [e, Bool.and_false]; rfl
theorem m_pairUp {a b c : Nat} {K : Int32 → kg_M → Prop} (hR : RT M T) (hP : RP M) (hT : LW T) (hN : RN M N) (hW : SW T N) (ha : a < 22) (hb : b < 22) (hc : c < 22) (e0 : M 129 0 = nI a) (e1 : M 129 1 = nI b) (e2 : M 129 2 = nI c) (hK : ∀ M', (∀ j, j ≠ 130 → M' j = M j) → (∀ p, p < 7 → M' 130 p = nI (wS a b c p)) → K (if (okL (wd T N) a && okL (wd T N) b && okL (wd T N) c) = true then 1 else 0) M') : wp_X8_pairUp M K := by
  refine ⟨_, for_loop (fun f (M' : kg_M) i => wL_X8_pairUp_4 _ K f 1 i M') (fun k M' => (∀ j, j ≠ 130 → M' j = M j) ∧ ∀ p, p < k → M' 130 p = nI 7) 7 M ⟨fun _ _ => rfl, fun p hp => absurd hp (Nat.not_lt_zero _)⟩ (fun f M' h => ?_) (fun f k M' hk h ih => ?_)⟩
  · rw [wL_X8_pairUp_4]
    refine ⟨fun _ => ?_, fun h => absurd (by decide) h⟩
    have RR : ∀ M2 : kg_M, (∀ j, j ≠ 130 → M2 j = M j) → RT M2 T ∧ RP M2 ∧ RN M2 N := fun M2 r => ⟨RT_of hR (by rw [r 117 (by decide)]) (by rw [r 117 (by decide)]) (fun k hk => r k (by omega)), RP_of hP (fun k hk => r k (by omega)), RN_of hN (r 120 (by decide))⟩
    obtain ⟨x1, x2, x3⟩ := RR M' h.1
    refine ⟨4, m_puStep (i := 0) (w := fun _ => 7) (al := true) x1 x2 hT x3 hW (by decide) ha (by rw [h.1 129 (by decide)]; exact e0) h.2 rfl (fun M1 v1 r1 w1 hv1 => ?_)⟩
    have r1' : ∀ j, j ≠ 130 → M1 j = M j := fun j hj => by rw [r1 j hj, h.1 j hj]
    obtain ⟨y1, y2, y3⟩ := RR M1 r1'
    refine m_puStep (i := 1) y1 y2 hT y3 hW (by decide) hb (by rw [r1' 129 (by decide)]; exact e1) w1 hv1 (fun M2 v2 r2 w2 hv2 => ?_)
    have r2' : ∀ j, j ≠ 130 → M2 j = M j := fun j hj => by rw [r2 j hj, r1' j hj]
    obtain ⟨z1, z2, z3⟩ := RR M2 r2'
    refine m_puStep (i := 2) z1 z2 hT z3 hW (by decide) hc (by rw [r2' 129 (by decide)]; exact e2) w2 hv2 (fun M3 v3 r3 w3 hv3 => ?_)
    rw [wL_X8_pairUp_26]
    refine ⟨fun _ => ⟨?_, ?_⟩, fun h => absurd (by decide) h⟩
    · rw [hv3]; split
      · exact Or.inr rfl
      · exact Or.inl rfl
    · rw [hv3, Bool.true_and]
      exact hK M3 (fun j hj => by rw [r3 j hj, r2' j hj]) w3
  · rw [wL_X8_pairUp_4, nI_1 k, cl_nI (a := k) (by omega)]
    refine ⟨fun h => absurd h (nI_ge (a := k) (b := 7) hk (by decide)), fun _ => ⟨in_nI hk (by decide), fun M8 e8 => ih M8 ⟨fun j hj => by rw [e8, kg_row_ne _ _ hj, h.1 j hj], fun p hp => ?_⟩⟩⟩
    rw [e8, kg_row_eq]
    by_cases e : p = k
    · rw [e, upd_eq]; rfl
    · rw [upd_ne e]; exact h.2 p (by omega)
theorem m_isFirst {w w' : Nat → Nat} {K : Int32 → kg_M → Prop} (hR : RT M T) (hT : LW T) (hw : ∀ p, p < 7 → M 130 p = nI (w p)) (hw' : ∀ p, p < 7 → M 131 p = nI (w' p)) (b1 : ∀ p, p < 7 → w p ≤ 7) (b2 : ∀ p, p < 7 → w' p ≤ 7) (hn : ∀ p, tP T ≤ p → p < 7 → w p = w' p) (ht : lx w 7 < lx w' 7 → K 1 M) (hf : ¬ lx w 7 < lx w' 7 → K 0 M) : wp_X8_isFirst M K := by
  have h7 := hT.2.1
  refine ⟨_, find_loop (fun f i => wL_X8_isFirst_2 _ _ K f i M) (fun p => !(w p == w' p)) (tP T) (fun h f => ?_) (fun f k hk hc hb => ?_) (fun f k hk hc ih => ?_)⟩
  · rw [wL_X8_isFirst_2, hR.2.1]
    refine ⟨fun _ => hf ?_, fun h => absurd (nI_le (Nat.le_refl _) (by omega)) h⟩
    rw [lx_eq (w := w) (w' := w') (k := 7) (fun j hj => ?_)]
    · omega
    · rcases Nat.lt_or_ge j (tP T) with q | q
      · have := h j q; simpa using this
      · exact hn j q hj
  · have hne : w k ≠ w' k := by simpa using hc
    have he : ∀ j, j < k → w j = w' j := fun j hj => by have := hb j hj; simpa using this
    have c1 := b1 k (by omega)
    have c2 := b2 k (by omega)
    rw [wL_X8_isFirst_2, hR.2.1, cl_nI (by omega), hw k (by omega), hw' k (by omega)]
    refine ⟨fun h => absurd h (nI_ge hk (by omega)), fun _ => ⟨in_nI (by omega) (by decide), in_nI (by omega) (by decide), fun h => absurd ((nI_eq (by omega) (by omega)).mp h) hne, fun _ => ⟨in_nI (by omega) (by decide), in_nI (by omega) (by decide), ?_⟩⟩⟩
    refine ⟨fun h => hf ?_, fun h => ht ?_⟩
    · have h2 := (nI_leI (by omega) (by omega)).mp h
      have := lx_first (w := w') (w' := w) (i := k) (k := 7) (by omega) (fun j hj => (he j hj).symm) (by omega) b2
      omega
    · have h2 : w k < w' k := by
        rcases Nat.lt_or_ge (w k) (w' k) with q | q
        · exact q
        · exact absurd (nI_le q (by omega)) h
      exact lx_first (i := k) (k := 7) (by omega) he h2 b1
  · have he : w k = w' k := by simpa using hc
    rw [wL_X8_isFirst_2, hR.2.1, cl_nI (by omega), hw k (by omega), hw' k (by omega), nI_1 k]
    exact ⟨fun h => absurd h (nI_ge hk (by omega)), fun _ => ⟨in_nI (by omega) (by decide), in_nI (by omega) (by decide), fun _ => ih, fun h => absurd (by rw [he]) h⟩⟩
end P18
