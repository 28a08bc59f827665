/-! ===== two meet ===== -/
def cnt (N : Nat → Int32) : Nat := (N 34).toNatClampNeg
def nLog (N : Nat → Int32) (x : Int32) : Nat → Int32 := if cnt N = 20 then upd (fun k => if 35 ≤ k ∧ k < 54 then N (k + 1) else N k) 54 x else upd (upd N (35 + cnt N) x) 34 (nI (cnt N + 1))
def cvM (N : Nat → Int32) (p q : Nat) : Int32 := if N (14 + p) = 1 ∨ N (14 + q) = 1 then 1 else 0
def nM1 (N : Nat → Int32) (p q : Nat) : Nat → Int32 := upd (upd (upd (upd (upd (upd (upd N p ((1 : Int32) - N p)) q ((1 : Int32) - N q)) (7 + p) (-1)) (7 + q) (-1)) (14 + p) (cvM N p q)) (14 + q) (cvM N p q)) 32 (N 32 + 1)
def nMeet (N : Nat → Int32) (p q : Nat) : Nat → Int32 := nLog (nM1 N p q) (nI (10 * p + q))
theorem nLog_lo {N : Nat → Int32} {x : Int32} {k : Nat} (h : k < 34) : nLog N x k = N k := by
  unfold nLog
  split
  · rw [upd_ne (by omega), if_neg (by omega)]
  · rw [upd_ne (by omega), upd_ne (by omega)]
theorem nM1_hi {N : Nat → Int32} {p q k : Nat} (hp : p < 7) (hq : q < 7) (h : 21 ≤ k) (h2 : k ≠ 32) : nM1 N p q k = N k := by
  unfold nM1
  rw [upd_ne h2, upd_ne (by omega), upd_ne (by omega), upd_ne (by omega), upd_ne (by omega), upd_ne (by omega), upd_ne (by omega)]
theorem nM1_side {N : Nat → Int32} {p q k : Nat} (hp : p < 7) (hq : q < 7) (hpq : p ≠ q) (h : k < 7) : nM1 N p q k = if k = p ∨ k = q then (1 : Int32) - N k else N k := by
  unfold nM1
  rw [upd_ne (by omega), upd_ne (by omega), upd_ne (by omega), upd_ne (by omega), upd_ne (by omega)]
  by_cases h1 : k = q
  · subst h1; rw [upd_eq, if_pos (Or.inr rfl)]
  · rw [upd_ne h1]
    by_cases h2 : k = p
    · subst h2; rw [upd_eq, if_pos (Or.inl rfl)]
    · rw [upd_ne h2, if_neg (by omega)]
theorem nM1_wait {N : Nat → Int32} {p q k : Nat} (hp : p < 7) (hq : q < 7) (h : k < 7) : nM1 N p q (7 + k) = if k = p ∨ k = q then -1 else N (7 + k) := by
  unfold nM1
  rw [upd_ne (by omega), upd_ne (by omega), upd_ne (by omega)]
  by_cases h1 : k = q
  · subst h1; rw [upd_eq, if_pos (Or.inr rfl)]
  · rw [upd_ne (by omega)]
    by_cases h2 : k = p
    · subst h2; rw [upd_eq, if_pos (Or.inl rfl)]
    · rw [upd_ne (by omega), upd_ne (by omega), upd_ne (by omega), if_neg (by omega)]
theorem nM1_cold {N : Nat → Int32} {p q k : Nat} (hp : p < 7) (hq : q < 7) (h : k < 7) : nM1 N p q (14 + k) = if k = p ∨ k = q then cvM N p q else N (14 + k) := by
  unfold nM1
  rw [upd_ne (by omega)]
  by_cases h1 : k = q
  · subst h1; rw [upd_eq, if_pos (Or.inr rfl)]
  · rw [upd_ne (by omega)]
    by_cases h2 : k = p
    · subst h2; rw [upd_eq, if_pos (Or.inl rfl)]
    · rw [upd_ne (by omega), upd_ne (by omega), upd_ne (by omega), upd_ne (by omega), upd_ne (by omega), if_neg (by omega)]
theorem nM1_32 {N : Nat → Int32} {p q : Nat} : nM1 N p q 32 = N 32 + 1 := by unfold nM1; rw [upd_eq]
theorem cvM_01 (N : Nat → Int32) (p q : Nat) : cvM N p q = 0 ∨ cvM N p q = 1 := by unfold cvM; split <;> simp
section P10
variable {M : kg_M} {L S : Nat} {T : kT} {N : Nat → Int32}
theorem nM1_cnt {p q c : Nat} (hp : p < 7) (hq : q < 7) (hc : c ≤ 20) (h : N 34 = nI c) : nM1 N p q 34 = nI c ∧ cnt (nM1 N p q) = c := by
  have e : nM1 N p q 34 = nI c := by rw [nM1_hi hp hq (by omega) (by omega)]; exact h
  exact ⟨e, by unfold cnt; rw [e, cl_nI (by omega)]⟩
/-- the log behind the meeting -/
theorem nMeet_log {p q c : Nat} (hp : p < 7) (hq : q < 7) (hc : c ≤ 20) (h : N 34 = nI c) : nMeet N p q 34 = nI (if c = 20 then 20 else c + 1) ∧ ∀ i, i < 20 → nMeet N p q (35 + i) = if c = 20 then (if i = 19 then nI (10 * p + q) else N (36 + i)) else (if i = c then nI (10 * p + q) else N (35 + i)) := by
  obtain ⟨e1, e2⟩ := nM1_cnt (N := N) hp hq hc h
  unfold nMeet nLog
  rw [e2]
  by_cases hc2 : c = 20
  · rw [if_pos hc2]
    refine ⟨by rw [upd_ne (by omega), if_neg (by omega), e1, hc2]; rfl, fun i hi => ?_⟩
    rw [if_pos hc2]
    by_cases hi2 : i = 19
    · subst hi2; rw [upd_eq, if_pos rfl]
    · rw [upd_ne (by omega), if_pos (by omega), if_neg hi2, nM1_hi hp hq (by omega) (by omega), show 35 + i + 1 = 36 + i by omega]
  · rw [if_neg hc2]
    refine ⟨by rw [upd_eq, if_neg hc2], fun i hi => ?_⟩
    rw [if_neg hc2, upd_ne (by omega)]
    by_cases hi2 : i = c
    · subst hi2; rw [upd_eq, if_pos rfl]
    · rw [upd_ne (by omega), if_neg hi2, nM1_hi hp hq (by omega) (by omega)]
theorem SW_meet {p q : Nat} (hpq : p < q) (hq : q < tP T) (hT : LW T) (h : SW T N) : SW T (nMeet N p q) := by
  have h7 := hT.2.1
  have h5 := hT.1
  have lo : ∀ k, k < 34 → nMeet N p q k = nM1 N p q k := fun k hk => nLog_lo hk
  obtain ⟨w1, w2, w3, w4, w5, w6, w7, c, w8, w9, w10⟩ := h
  obtain ⟨g1, g2⟩ := nMeet_log (N := N) (p := p) (q := q) (by omega) (by omega) w8 w9
  refine ⟨fun x hx => ?_, fun x h1 h2 => ?_, fun x hx => ?_, fun x h1 h2 => ?_, fun x hx => ?_, fun x h1 h2 => ?_, fun g hg => ?_, (if c = 20 then 20 else c + 1), by split <;> omega, g1, fun i hi => ?_⟩
  · rw [lo _ (by omega), nM1_side (by omega) (by omega) (by omega) hx]
    split
    · exact (one_sub (w1 x hx)).1
    · exact w1 x hx
  · rw [lo _ (by omega), nM1_side (by omega) (by omega) (by omega) h2, if_neg (by omega)]; exact w2 x h1 h2
  · rw [lo _ (by omega), nM1_wait (by omega) (by omega) hx]
    split
    · exact Or.inl rfl
    · exact w3 x hx
  · rw [lo _ (by omega), nM1_wait (by omega) (by omega) h2, if_neg (by omega)]; exact w4 x h1 h2
  · rw [lo _ (by omega), nM1_cold (by omega) (by omega) hx]
    split
    · exact cvM_01 N p q
    · exact w5 x hx
  · rw [lo _ (by omega), nM1_cold (by omega) (by omega) h2, if_neg (by omega)]; exact w6 x h1 h2
  · rw [lo _ (by omega), lo _ (by omega), nM1_hi (by omega) (by omega) (by omega) (by omega), nM1_hi (by omega) (by omega) (by omega) (by omega)]; exact w7 g hg
  · have hi20 : i < 20 := by split at hi <;> omega
    rw [g2 i hi20]
    by_cases hc2 : c = 20
    · rw [if_pos hc2]
      split
      · exact ⟨p, q, hpq, hq, rfl⟩
      · rw [show 36 + i = 35 + (i + 1) by omega]; exact w10 (i + 1) (by omega)
    · rw [if_neg hc2]
      rw [if_neg hc2] at hi
      split
      · exact ⟨p, q, hpq, hq, rfl⟩
      · exact w10 i (by omega)
theorem c_meet {p q : Nat} {K : kg_M → Prop} (hpq : p < q) (hq : q < 7) (hW : SW T N) (hS : RS M 3 N) (hK : ∀ M', (∀ k, k ≠ 3 → k ≠ 4 → k ≠ 6 → M' k = M k) → RS M' 3 (nMeet N p q) → K M') : wp_X5_meet (nI p) (nI q) M K := by
  obtain ⟨c, hc, h34, -⟩ := id hW.2.2.2.2.2.2.2
  obtain ⟨g0, g1, g2, g3, g4, g5, g6, g7, g8⟩ := hS
  have lo : ∀ k, k < 34 → nMeet N p q k = nM1 N p q k := fun k hk => nLog_lo hk
  obtain ⟨l1, l2⟩ := nMeet_log (N := N) (p := p) (q := q) (by omega) (by omega) hc h34
  have hb : ((1 : Int32) <<< (nI p &&& 31)) ||| ((1 : Int32) <<< (nI q &&& 31)) = nI (bs (fun i => i == p || i == q) 7) := by rw [shl_one (show p < 7 by omega) (by decide), shl_one hq (by decide), bs_ior]
  have hside : nI (bs (sd N) 7) ^^^ nI (bs (fun i => i == p || i == q) 7) = nI (bs (sd (nMeet N p q)) 7) := by
    rw [bs_xor]; congr 1
    apply bs_cong
    intro k hk
    unfold sd
    rw [lo k (by omega), nM1_side (by omega) (by omega) (by omega) hk]
    by_cases h : k = p ∨ k = q
    · rw [if_pos h, (one_sub (hW.1 k hk)).2]
      have : (k == p || k == q) = true := by rcases h with h | h <;> subst h <;> simp
      rw [this]; simp
    · rw [if_neg h]
      have : (k == p || k == q) = false := by
        have h1 : (k == p) = false := beq_eq_false_iff_ne.mpr (fun e => h (Or.inl e))
        have h2 : (k == q) = false := beq_eq_false_iff_ne.mpr (fun e => h (Or.inr e))
        rw [h1, h2]; rfl
      rw [this]; simp
  -- behind the colds
  have J37 : ∀ M2 : kg_M, (∀ k, k ≠ 3 → M2 k = M k) → M2 3 0 = N 31 → M2 3 1 = N 32 → M2 3 2 = N 33 → M2 3 3 = nI (bs (sd (nMeet N p q)) 7) → M2 3 4 = nI (bs (cd (nMeet N p q)) 7) → M2 3 5 = N 34 → wJ_X5_meet_37 K (nI p) (nI q) M2 := by
    intro M2 r2 a0 a1 a2 a3 a4 a5
    have J91 : ∀ (M3 : kg_M) (d : Nat), d < 20 → d + 1 = (if c = 20 then 20 else c + 1) → (∀ k, k ≠ 3 → k ≠ 4 → k ≠ 6 → M3 k = M k) → M3 3 0 = N 31 → M3 3 1 = N 32 + 1 → M3 3 2 = N 33 → M3 3 3 = nI (bs (sd (nMeet N p q)) 7) → M3 3 4 = nI (bs (cd (nMeet N p q)) 7) → M3 3 5 = nI d → (∀ x, x < 7 → M3 4 x = nMeet N p q (7 + x)) → (∀ i, i < d → M3 6 i = nMeet N p q (35 + i)) → nMeet N p q (35 + d) = nI (10 * p + q) → wJ_X5_meet_91 K (nI p) (nI q) M3 := by
      intro M3 d hd hd2 r3 b0 b1 b2 b3 b4 b5 b6 b7 b8
      unfold wJ_X5_meet_91
      rw [b5, cl_nI (by omega), show (10 : Int32) * nI p + nI q = nI (10 * p + q) from by rw [show (10 : Int32) = nI 10 from rfl, pk_mul, nI_add]]
      refine ⟨in_nI hd (by decide), fun M28 e28 M31 e31 => ?_⟩
      have r31 : ∀ k, k ≠ 3 → k ≠ 6 → M31 k = M3 k := fun k h1 h2 => by rw [e31, kg_row_ne _ _ h1, e28, kg_row_ne _ _ h2]
      have q3 : M31 3 = upd (M3 3) 5 (nI (d + 1)) := by
        have : M28 3 = M3 3 := by rw [e28, kg_row_ne _ _ (by decide)]
        rw [e31, kg_row_eq, this, b5, nI_1]
      have q6 : M31 6 = upd (M3 6) d (nI (10 * p + q)) := by rw [e31, kg_row_ne _ _ (by decide), e28, kg_row_eq]
      refine hK M31 (fun k h1 h2 h3 => by rw [r31 k h1 h3, r3 k h1 h2 h3]) ?_
      unfold RS
      rw [q3, show (3 + 3) = 6 from rfl, q6, r31 (3 + 1) (by decide) (by decide), r31 (3 + 2) (by decide) (by decide), lo 31 (by omega), lo 32 (by omega), lo 33 (by omega), nM1_hi (by omega) (by omega) (by omega) (by omega), nM1_32, nM1_hi (by omega) (by omega) (by omega) (by omega), l1, ← hd2]
      refine ⟨b0, b1, b2, b3, b4, rfl, b6, fun g hg => ?_, fun i c' hc' hn hi => ?_⟩
      · rw [lo _ (by omega), nM1_hi (by omega) (by omega) (by omega) (by omega), r3 (3 + 2) (by decide) (by decide) (by decide)]; exact g7 g hg
      · have hcd : c' = d + 1 := nI_inj (by omega) (by omega) hn.symm
        by_cases hid : i = d
        · subst hid; rw [upd_eq]; exact b8.symm
        · rw [upd_ne hid]; exact b7 i (by omega)
    unfold wJ_X5_meet_37
    rw [cl_nI (by omega), cl_nI (by omega)]
    refine ⟨in_nI (by omega) (by decide), fun M11 e11 => ⟨in_nI (by omega) (by decide), fun M16 e16 M19 e19 => ?_⟩⟩
    have r19 : ∀ k, k ≠ 3 → k ≠ 4 → M19 k = M k := fun k h1 h2 => by rw [e19, kg_row_ne _ _ h1, e16, kg_row_ne _ _ h2, e11, kg_row_ne _ _ h2, r2 k h1]
    have m16 : M16 3 = M2 3 := by rw [e16, kg_row_ne _ _ (by decide), e11, kg_row_ne _ _ (by decide)]
    have q3 : M19 3 = upd (M2 3) 1 (N 32 + 1) := by rw [e19, kg_row_eq, m16, a1]
    have q4 : M19 4 = upd (upd (M 4) p (-1)) q (-1) := by rw [e19, kg_row_ne _ _ (by decide), e16, kg_row_eq, e11, kg_row_eq, r2 4 (by decide)]
    have b6 : ∀ x, x < 7 → M19 4 x = nMeet N p q (7 + x) := by
      intro x hx
      rw [q4, lo _ (by omega), nM1_wait (by omega) (by omega) hx]
      by_cases h1 : x = q
      · subst h1; rw [upd_eq, if_pos (Or.inr rfl)]
      · rw [upd_ne h1]
        by_cases h2 : x = p
        · subst h2; rw [upd_eq, if_pos (Or.inl rfl)]
        · rw [upd_ne h2, if_neg (by omega)]; exact g6 x hx
    have q5 : M19 3 5 = nI c := by rw [q3, upd_ne (by decide), a5]; exact h34
    refine ⟨fun h => ?_, fun h M34 e34 M37 e37 => ?_⟩
    · have hc2 : c < 20 := by
        rcases Nat.lt_or_ge c 20 with x | x
        · exact x
        · rw [q5, show c = 20 by omega] at h; exact absurd h (by decide)
      refine J91 M19 c hc2 (by rw [if_neg (by omega)]) (fun k h1 h2 _ => r19 k h1 h2) (by rw [q3, upd_ne (by decide)]; exact a0) (by rw [q3, upd_eq]) (by rw [q3, upd_ne (by decide)]; exact a2) (by rw [q3, upd_ne (by decide)]; exact a3) (by rw [q3, upd_ne (by decide)]; exact a4) q5 b6 (fun i hi => ?_) ?_
      · rw [l2 i (by omega), if_neg (by omega), if_neg (by omega), r19 6 (by decide) (by decide)]; exact g8 i c hc h34 hi
      · rw [l2 c hc2, if_neg (by omega), if_pos rfl]
    · have hc2 : c = 20 := by
        rcases Nat.lt_or_ge c 20 with x | x
        · exact absurd (by rw [q5]; exact nI_lt (b := 20) x (by decide)) h
        · omega
      have r37 : ∀ k, k ≠ 3 → k ≠ 6 → M37 k = M19 k := fun k h1 h2 => by rw [e37, kg_row_ne _ _ h1, e34, kg_row_ne _ _ h2]
      have p3 : M37 3 = upd (M19 3) 5 (nI 19) := by rw [e37, kg_row_eq, e34, kg_row_ne _ _ (by decide)]; rfl
      have p6 : ∀ i, i < 19 → M37 6 i = M 6 (1 + i) := by
        intro i hi
        rw [e37, kg_row_ne _ _ (by decide), e34, kg_row_eq, r19 6 (by decide) (by decide)]
        show va_cpy (M 6) (M 6) 1 0 19 i = _
        unfold va_cpy
        rw [if_pos ⟨by omega, by omega⟩]; congr 1
      refine J91 M37 19 (by decide) (by rw [if_pos hc2]) (fun k h1 h2 h3 => by rw [r37 k h1 h3, r19 k h1 h2]) (by rw [p3, upd_ne (by decide), q3, upd_ne (by decide)]; exact a0) (by rw [p3, upd_ne (by decide), q3, upd_eq]) (by rw [p3, upd_ne (by decide), q3, upd_ne (by decide)]; exact a2) (by rw [p3, upd_ne (by decide), q3, upd_ne (by decide)]; exact a3) (by rw [p3, upd_ne (by decide), q3, upd_ne (by decide)]; exact a4) (by rw [p3, upd_eq]) (fun x hx => by rw [r37 4 (by decide) (by decide)]; exact b6 x hx) (fun i hi => ?_) ?_
      · rw [l2 i (by omega), if_pos hc2, if_neg (by omega), p6 i hi, show 36 + i = 35 + (1 + i) by omega]; exact g8 (1 + i) c hc h34 (by omega)
      · rw [l2 19 (by decide), if_pos hc2, if_pos rfl]
  unfold wp_X5_meet
  intro M2 e2
  rw [hb] at e2 ⊢
  have q2 : M2 3 = upd (M 3) 3 (nI (bs (sd (nMeet N p q)) 7)) := by rw [e2, kg_row_eq, g3, hside]
  have r2 : ∀ k, k ≠ 3 → M2 k = M k := fun k hk => by rw [e2, kg_row_ne _ _ hk]
  have c4 : M2 3 4 = nI (bs (cd N) 7) := by rw [q2, upd_ne (by decide)]; exact g4
  have hcold : ∀ k, k < 7 → cd (nMeet N p q) k = if k = p ∨ k = q then (cd N p || cd N q) else cd N k := by
    intro k hk
    have ecv : (cvM N p q == 1) = (cd N p || cd N q) := by
      unfold cvM cd
      by_cases h1 : N (14 + p) = 1
      · rw [if_pos (Or.inl h1), h1]; rfl
      · by_cases h2 : N (14 + q) = 1
        · rw [if_pos (Or.inr h2), h2]; simp
        · rw [if_neg (by simp [h1, h2])]; simp [h1, h2]
    have el : cd (nMeet N p q) k = (nM1 N p q (14 + k) == 1) := by unfold cd; rw [lo _ (by omega)]
    rw [el, nM1_cold (by omega) (by omega) hk]
    by_cases h : k = p ∨ k = q
    · rw [if_pos h, if_pos h]; exact ecv
    · rw [if_neg h, if_neg h]; rfl
  rw [c4, bs_and, bs_ior]
  refine ⟨fun h => ?_, fun h M40 e40 => ?_⟩
  · rw [show (0 : Int32) = nI (bs (fun _ => false) 7) from by rw [bs_zero]; rfl, bs_nIeq (by decide)] at h
    have hp0 : cd N p = false := by have := h p (by omega); simpa using this
    have hq0 : cd N q = false := by have := h q (by omega); simpa using this
    refine J37 M2 r2 (by rw [q2, upd_ne (by decide)]; exact g0) (by rw [q2, upd_ne (by decide)]; exact g1) (by rw [q2, upd_ne (by decide)]; exact g2) (by rw [q2, upd_eq]) ?_ (by rw [q2, upd_ne (by decide)]; exact g5)
    rw [c4]; congr 1
    apply bs_cong
    intro k hk
    rw [hcold k hk]
    by_cases hk2 : k = p ∨ k = q
    · rw [if_pos hk2, hp0, hq0]
      rcases hk2 with e | e
      · rw [e, hp0]; rfl
      · rw [e, hq0]; rfl
    · rw [if_neg hk2]
  · have hor : (cd N p || cd N q) = true := by
      cases h1 : cd N p
      · cases h2 : cd N q
        · refine absurd ?_ h
          rw [show (0 : Int32) = nI (bs (fun _ => false) 7) from by rw [bs_zero]; rfl, bs_nIeq (by decide)]
          intro k hk
          by_cases e1 : k = p
          · rw [e1, h1]; rfl
          · by_cases e2 : k = q
            · rw [e2, h2]; rfl
            · simp [e1, e2]
        · rfl
      · rfl
    have q40 : M40 3 = upd (M2 3) 4 (nI (bs (cd (nMeet N p q)) 7)) := by
      rw [e40, kg_row_eq]
      congr 2
      apply bs_cong
      intro k hk
      rw [hcold k hk]
      by_cases hk2 : k = p ∨ k = q
      · rw [if_pos hk2, hor]
        rcases hk2 with e | e
        · rw [e]; simp
        · rw [e]; simp
      · rw [if_neg hk2]
        have h1 : (k == p) = false := beq_eq_false_iff_ne.mpr (fun e => hk2 (Or.inl e))
        have h2 : (k == q) = false := beq_eq_false_iff_ne.mpr (fun e => hk2 (Or.inr e))
        rw [h1, h2]; simp
    exact J37 M40 (fun k hk => by rw [e40, kg_row_ne _ _ hk, r2 k hk]) (by rw [q40, upd_ne (by decide), q2, upd_ne (by decide)]; exact g0) (by rw [q40, upd_ne (by decide), q2, upd_ne (by decide)]; exact g1) (by rw [q40, upd_ne (by decide), q2, upd_ne (by decide)]; exact g2) (by rw [q40, upd_ne (by decide), q2, upd_eq]) (by rw [q40, upd_eq]) (by rw [q40, upd_ne (by decide), q2, upd_ne (by decide)]; exact g5)
end P10
