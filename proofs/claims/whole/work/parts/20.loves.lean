/-! ===== loves ===== -/
def lkb (T : kT) (p q : Nat) : Bool := decide (1 ≤ tL T p q ∧ ∀ r, r < tP T → tL T p r ≤ tL T p q)
def lov (T : kT) (k : Nat) : Bool := lkb T (pO k) (pT k) && lkb T (pT k) (pO k)
def mx (T : kT) (p : Nat) : Nat → Nat
  | 0 => 0
  | k + 1 => if tL T p k ≤ mx T p k then mx T p k else tL T p k
theorem mx_ge (T : kT) (p : Nat) : ∀ k r, r < k → tL T p r ≤ mx T p k
  | 0, r, h => absurd h (Nat.not_lt_zero r)
  | k + 1, r, h => by
    rw [mx]
    have ih := mx_ge T p k
    split
    · rcases Nat.lt_or_ge r k with q | q
      · exact ih r q
      · rw [show r = k by omega]; assumption
    · rcases Nat.lt_or_ge r k with q | q
      · exact Nat.le_trans (ih r q) (by omega)
      · rw [show r = k by omega]; exact Nat.le_refl _
theorem mx_is (T : kT) (p : Nat) : ∀ k, mx T p k = 0 ∨ ∃ r, r < k ∧ tL T p r = mx T p k
  | 0 => Or.inl rfl
  | k + 1 => by
    rw [mx]
    split
    · rcases mx_is T p k with h | ⟨r, h1, h2⟩
      · exact Or.inl h
      · exact Or.inr ⟨r, by omega, h2⟩
    · exact Or.inr ⟨k, by omega, rfl⟩
theorem lkb_iff {T : kT} {p q : Nat} (hq : q < tP T) : lkb T p q = true ↔ (1 ≤ tL T p q ∧ tL T p q = mx T p (tP T)) := by
  unfold lkb
  rw [decide_eq_true_iff]
  constructor
  · intro ⟨h1, h2⟩
    refine ⟨h1, Nat.le_antisymm (mx_ge T p _ q hq) ?_⟩
    rcases mx_is T p (tP T) with h | ⟨r, h3, h4⟩
    · omega
    · rw [← h4]; exact h2 r h3
  · intro ⟨h1, h2⟩
    exact ⟨h1, fun r hr => by rw [h2]; exact mx_ge T p _ r hr⟩
theorem lov_out {T : kT} (hT : LW T) {k : Nat} (hk : k < 21) (h : tP T ≤ pT k) : lov T k = false := by
  unfold lov lkb
  rw [hT.2.2.2.2 (pO k) (pT k) (by omega)]
  simp
section P5
variable {M : kg_M} {L S : Nat} {T : kT} {N : Nat → Int32} {K : Int32 → kg_M → Prop}
theorem c_likesBest {p q : Nat} (hL : RC M L T) (hT : LW T) (hp : p < tP T) (hq : q < tP T) (ht : lkb T p q = true → K 1 M) (hf : lkb T p q = false → K 0 M) : wp_X0_likesBest L (nI p) (nI q) M K := by
  have h7 := hT.2.1
  have h9 := hT.2.2.2.1
  unfold wp_X0_likesBest
  refine c_liking hL hT hp hq ⟨fun h1 => ?_, fun h1 => hf (decide_eq_false fun e => h1 (nI_le (a := 1) e.1 (by have := h9 p q; omega)))⟩
  have h1' : 1 ≤ tL T p q := by
    rcases Nat.eq_zero_or_pos (tL T p q) with e | e
    · rw [e] at h1; exact absurd h1 (by decide)
    · exact e
  refine ⟨_, find_loop (fun f i => wL_X0_likesBest_17 L _ _ K f (nI p) (nI (tL T p q)) i M) (fun r => !decide (tL T p r ≤ tL T p q)) (tP T) (fun h f => ?_) (fun f k hk hc _ => ?_) (fun f k hk hc h => ?_)⟩
  · rw [wL_X0_likesBest_17, hL.2.1]
    exact ⟨fun _ => ht (decide_eq_true ⟨h1', fun r hr => by simpa using h r hr⟩), fun h => absurd (nI_le (Nat.le_refl _) (by omega)) h⟩
  · have hlt : ¬ tL T p k ≤ tL T p q := by simpa using hc
    rw [wL_X0_likesBest_17, hL.2.1]
    refine ⟨fun h => absurd h (nI_ge hk (by omega)), fun _ => c_liking hL hT hp hk ⟨fun h => ?_, fun _ => hf (decide_eq_false fun e => hlt (e.2 k hk))⟩⟩
    rw [nI_leI (by have := h9 p k; omega) (by have := h9 p q; omega)] at h
    exact absurd h hlt
  · have hle : tL T p k ≤ tL T p q := by simpa using hc
    rw [wL_X0_likesBest_17, hL.2.1, nI_1]
    exact ⟨fun h => absurd h (nI_ge hk (by omega)), fun _ => c_liking hL hT hp hk ⟨fun _ => h, fun h => absurd (nI_le hle (by have := h9 p q; omega)) h⟩⟩
theorem m_mostLiked {p : Nat} (hR : RT M T) (hT : LW T) (hp : p < 7) (hK : K (nI (mx T p (tP T))) M) : wp_X8_mostLiked (nI p) M K := by
  have h7 := hT.2.1
  have h9 := hT.2.2.2.1
  have hb : ∀ k, mx T p k ≤ 9 := fun k => by
    rcases mx_is T p k with h | ⟨r, -, h⟩
    · omega
    · rw [← h]; exact h9 p r
  refine ⟨_, for_loop (fun f s i => wL_X8_mostLiked_4 _ K f (nI p) s i M) (fun k s => s = nI (mx T p k)) (tP T) 0 rfl (fun f s h => ?_) (fun f k s hk h ih => ?_)⟩
  · rw [wL_X8_mostLiked_4, hR.2.1, h]
    exact ⟨fun _ => hK, fun h => absurd (nI_le (Nat.le_refl _) (by omega)) h⟩
  · have hi : vp_in ((7 : Int32) * nI p + nI k) 49 := by rw [nI_7]; exact in_nI (by omega) (by decide)
    have := hb k
    have := h9 p k
    rw [wL_X8_mostLiked_4, hR.2.1, nI_1, nI_7, cl_nI (by omega), hR.2.2.2 p k hp (by omega), h, nI_leI (a := tL T p k) (b := mx T p k) (by omega) (by omega)]
    rw [nI_7] at hi
    refine ⟨fun h => absurd h (nI_ge hk (by omega)), fun _ => ⟨hi, fun h => ih _ ?_, fun h => ⟨hi, ih _ ?_⟩⟩⟩
    · rw [mx, if_pos h]
    · rw [mx, if_neg h]
theorem p_loves {σ : kS} (v : Int32) (hC : CI M L S σ) : Pair L S M σ (wp_X7_loves L v) (wp_X8_loves v) := by
  obtain ⟨T, N, ⟨U, pu⟩, ⟨im, is, kp⟩, sv, fl, ⟨tn, tx⟩, ⟨kn, kw, ki⟩, ⟨bn, bo, bi⟩⟩ := σ
  obtain ⟨⟨hT, hRC⟩, ⟨hSW, hRS⟩, hCU, hCM, hsv, hfl, hCX, hCN, hCB, hLS⟩ := id hC
  have h7 := hT.2.1
  have h9 := hT.2.2.2.1
  have hcl : ∀ k, k ≤ 21 → ct (lov T) k < 2 ^ 31 := fun k hk => by have := ct_le (lov T) k; omega
  obtain ⟨r, hr1, hr2⟩ : ∃ r : Int32, ((∀ j, j < 21 → (lov T j && (nI (ct (lov T) j) == v)) = false) → r = if v = -1 then nI (ct (lov T) 21) else -1) ∧ ∀ k, k < 21 → (lov T k && (nI (ct (lov T) k) == v)) = true → (∀ j, j < k → (lov T j && (nI (ct (lov T) j) == v)) = false) → r = nI (10 * pO k + pT k) := by
    rcases first_cases (fun j => lov T j && (nI (ct (lov T) j) == v)) 21 with h | ⟨k, h1, h2, h3⟩
    · exact ⟨_, fun _ => rfl, fun k hk hc _ => absurd (h k hk) (by rw [hc]; decide)⟩
    · refine ⟨nI (10 * pO k + pT k), fun h => absurd (h k h1) (by rw [h2]; decide), fun k' g1 g2 g3 => ?_⟩
      rcases Nat.lt_trichotomy k k' with q | q | q
      · exact absurd (g3 k q) (by rw [h2]; decide)
      · rw [q]
      · exact absurd (h3 k' q) (by rw [g2]; decide)
  -- the count so far, and no hit so far
  have hI0 : (fun (k : Nat) (s : Int32) => s = nI (ct (lov T) k) ∧ ∀ j, j < k → (lov T j && (nI (ct (lov T) j) == v)) = false) 0 0 := ⟨rfl, fun j hj => absurd hj (Nat.not_lt_zero j)⟩
  have hsk : ∀ k (s : Int32), k < 21 → tP T ≤ pT k → (fun (k : Nat) (s : Int32) => s = nI (ct (lov T) k) ∧ ∀ j, j < k → (lov T j && (nI (ct (lov T) j) == v)) = false) k s → (fun (k : Nat) (s : Int32) => s = nI (ct (lov T) k) ∧ ∀ j, j < k → (lov T j && (nI (ct (lov T) j) == v)) = false) (k + 1) s := by
    intro k s hk hp h
    have ho := lov_out hT hk hp
    refine ⟨by rw [h.1, ct, ho]; simp, fun j hj => ?_⟩
    rcases Nat.lt_or_ge j k with q | q
    · exact h.2 j q
    · rw [show j = k by omega, ho]; rfl
  have hno : ∀ k (s : Int32), k < 21 → lov T k = false → (s = nI (ct (lov T) k) ∧ ∀ j, j < k → (lov T j && (nI (ct (lov T) j) == v)) = false) → (s = nI (ct (lov T) (k + 1)) ∧ ∀ j, j < k + 1 → (lov T j && (nI (ct (lov T) j) == v)) = false) := by
    intro k s hk ho h
    refine ⟨by rw [h.1, ct, ho]; simp, fun j hj => ?_⟩
    rcases Nat.lt_or_ge j k with q | q
    · exact h.2 j q
    · rw [show j = k by omega, ho]; rfl
  have hyes : ∀ k (s : Int32), k < 21 → lov T k = true → ¬ s = v → (s = nI (ct (lov T) k) ∧ ∀ j, j < k → (lov T j && (nI (ct (lov T) j) == v)) = false) → (s + 1 = nI (ct (lov T) (k + 1)) ∧ ∀ j, j < k + 1 → (lov T j && (nI (ct (lov T) j) == v)) = false) := by
    intro k s hk ho hne h
    refine ⟨by rw [h.1, ct, ho, nI_1]; simp, fun j hj => ?_⟩
    rcases Nat.lt_or_ge j k with q | q
    · exact h.2 j q
    · rw [show j = k by omega, ho, ← h.1]; simpa using hne
  have hend : ∀ (s : Int32), (s = nI (ct (lov T) 21) ∧ ∀ j, j < 21 → (lov T j && (nI (ct (lov T) j) == v)) = false) → (¬ v = -1 → (-1 : Int32) = r) ∧ (v = -1 → s = r) := by
    intro s h
    have := hr1 h.2
    refine ⟨fun h0 => ?_, fun h0 => ?_⟩
    · rw [this, if_neg h0]
    · rw [this, if_pos h0]; exact h.1
  have hhit : ∀ k (s : Int32), k < 21 → lov T k = true → s = v → (s = nI (ct (lov T) k) ∧ ∀ j, j < k → (lov T j && (nI (ct (lov T) j) == v)) = false) → nI (10 * pO k + pT k) = r := by
    intro k s hk ho he h
    refine (hr2 k hk ?_ h.2).symm
    rw [ho, ← h.1, he]; simp
  have ten : ∀ a b : Nat, (10 : Int32) * nI a + nI b = nI (10 * a + b) := fun a b => by rw [show (10 : Int32) = nI 10 from rfl, pk_mul, nI_add]
  refine ⟨r, (T, N, (U, pu), (im, is, kp), sv, fl, (tn, tx), (kn, kw, ki), (bn, bo, bi)), ⟨_, for_loop (fun f s i => wL_X7_loves_4 L _ _ _ f v s i M) (fun p s => (fun (k : Nat) (s : Int32) => s = nI (ct (lov T) k) ∧ ∀ j, j < k → (lov T j && (nI (ct (lov T) j) == v)) = false) (stt p) s) (tP T) 0 hI0 (fun f s h => ?_) (fun f p s hp h ih => ?_)⟩, fun M1 hM => ⟨_, for_loop (fun f s i => wL_X8_loves_4 _ _ _ f v s i M1) (fun k s => s = nI (ct (lov T) k) ∧ ∀ j, j < k → (lov T j && (nI (ct (lov T) j) == v)) = false) 21 0 hI0 (fun f s h => ?_) (fun f k s hk h ih => ?_)⟩⟩
  · rw [wL_X7_loves_4, hRC.2.1]
    have he := hend s (skip_end hsk h7 h)
    exact ⟨fun _ => ⟨fun h0 => CK_s hC (he.1 h0), fun h0 => CK_s hC (he.2 h0)⟩, fun h => absurd (nI_le (Nat.le_refl _) (by omega)) h⟩
  · rw [wL_X7_loves_4, hRC.2.1, nI_1]
    refine ⟨fun h => absurd h (nI_ge hp (by omega)), fun _ => ⟨_, for_from (fun f2 s i => wL_X7_loves_20 L _ _ _ f2 v s (nI p) i M) (fun q s => (fun (k : Nat) (s : Int32) => s = nI (ct (lov T) k) ∧ ∀ j, j < k → (lov T j && (nI (ct (lov T) j) == v)) = false) (ix p q) s) (p + 1) (tP T) (by omega) s (by rw [ix_first]; exact h) (fun f2 s h => ?_) (fun f2 q s hq1 hq h ih2 => ?_)⟩⟩
    · rw [wL_X7_loves_20, hRC.2.1, nI_1]
      exact ⟨fun _ => ih s (skip_row hsk hp h7 h), fun h => absurd (nI_le (Nat.le_refl _) (by omega)) h⟩
    · obtain ⟨g1, g2, g3⟩ := ix_ok p (by omega) q (by omega) (by omega)
      have hs := ix_succ (show p < q by omega)
      have hlv : lov T (ix p q) = (lkb T p q && lkb T q p) := by unfold lov; rw [g1, g2]
      rw [wL_X7_loves_20, hRC.2.1, nI_1 q]
      have hskip : lov T (ix p q) = false → wL_X7_loves_20 L _ _ _ f2 v s (nI p) (nI (q + 1)) M := fun ho => ih2 s (by rw [hs]; exact hno _ s g3 ho h)
      refine ⟨fun h => absurd h (nI_ge hq (by omega)), fun _ => c_likesBest hRC hT hp hq (fun b1 => ⟨fun h0 => absurd h0 (by decide), fun _ => c_likesBest hRC hT hq hp (fun b2 => ⟨fun h0 => absurd h0 (by decide), fun _ => ⟨fun hne => ih2 _ (by rw [hs]; exact hyes _ s g3 (by rw [hlv, b1, b2]; rfl) hne h), fun he => CK_s hC ?_⟩⟩) (fun b2 => ⟨fun _ => hskip (by rw [hlv, b2]; simp), fun h0 => absurd rfl h0⟩)⟩) (fun b1 => ⟨fun _ => hskip (by rw [hlv, b1]; rfl), fun h0 => absurd rfl h0⟩)⟩
      rw [ten, ← hhit _ s g3 (by rw [hlv, b1, b2]; rfl) he h, g1, g2]
  · rw [wL_X8_loves_4]
    have he := hend s h
    exact ⟨fun _ => ⟨fun h0 => MK_s hM (he.1 h0), fun h0 => MK_s hM (he.2 h0)⟩, fun h => absurd (nI_le (a := 21) (b := 21) (Nat.le_refl _) (by decide)) h⟩
  · obtain ⟨g1, g2, g3⟩ := ix_of k hk
    obtain ⟨o1, o2⟩ := hM.2.1 k hk
    have i1 : vp_in (nI k) 21 := in_nI hk (by decide)
    have i2 : vp_in ((7 : Int32) * nI (pO k) + nI (pT k)) 49 := by rw [nI_7]; exact in_nI (by omega) (by decide)
    have i3 : vp_in ((7 : Int32) * nI (pT k) + nI (pO k)) 49 := by rw [nI_7]; exact in_nI (by omega) (by decide)
    have v1 : M1 119 ((7 : Int32) * nI (pO k) + nI (pT k)).toNatClampNeg = nI (tL T (pO k) (pT k)) := by rw [nI_7, cl_nI (by omega)]; exact hM.1.2.2.2 _ _ (by omega) (by omega)
    have v2 : M1 119 ((7 : Int32) * nI (pT k) + nI (pO k)).toNatClampNeg = nI (tL T (pT k) (pO k)) := by rw [nI_7, cl_nI (by omega)]; exact hM.1.2.2.2 _ _ (by omega) (by omega)
    have hskip : lov T k = false → wL_X8_loves_4 _ _ _ f v s (nI (k + 1)) M1 := fun ho => ih s (hno k s hk ho h)
    have hmb : ∀ p, mx T p (tP T) ≤ 9 := fun p => by
      rcases mx_is T p (tP T) with h | ⟨r, -, h⟩
      · omega
      · rw [← h]; exact h9 p r
    rw [wL_X8_loves_4, cl_nI (by omega), o1, o2, nI_1 k]
    refine ⟨fun h => absurd h (nI_ge (b := 21) hk (by decide)), fun _ => ⟨i1, i1, m_like hM.1 hT (by omega) (by omega) (fun hf => ⟨fun h0 => absurd h0 (by decide), fun _ => ⟨i2, ?_⟩⟩) (fun hf => ⟨fun _ => hskip ?_, fun h0 => absurd rfl h0⟩) (by omega)⟩⟩
    · have hin : pO k < tP T ∧ pT k < tP T := by
        by_cases e : pO k < tP T ∧ pT k < tP T ∧ pO k ≠ pT k
        · exact ⟨e.1, e.2.1⟩
        · rw [fo_out hT e] at hf; exact absurd hf (by decide)
      have hfo : 1 ≤ tL T (pO k) (pT k) ∧ 1 ≤ tL T (pT k) (pO k) := by unfold fo at hf; simpa using hf
      rw [v1]
      refine m_mostLiked hM.1 hT (by omega) ⟨fun h1 => hskip ?_, fun h1 => ⟨i3, ?_⟩⟩
      · unfold lov
        cases hb : lkb T (pO k) (pT k)
        · rfl
        · exact absurd (by rw [((lkb_iff hin.2).mp hb).2]) h1
      · rw [v2]
        have h1' := nI_inj (by have := h9 (pO k) (pT k); omega) (by have := hmb (pO k); omega) h1
        refine m_mostLiked hM.1 hT (by omega) ⟨fun h2 => hskip ?_, fun h2 => ?_⟩
        · unfold lov
          cases hb : lkb T (pT k) (pO k)
          · simp
          · exact absurd (by rw [((lkb_iff hin.1).mp hb).2]) h2
        · have h2' := nI_inj (by have := h9 (pT k) (pO k); omega) (by have := hmb (pT k); omega) h2
          have hl : lov T k = true := by
            unfold lov
            rw [(lkb_iff hin.2).mpr ⟨hfo.1, h1'⟩, (lkb_iff hin.1).mpr ⟨hfo.2, h2'⟩]; rfl
          exact ⟨fun hne => ih _ (hyes k s hk hl hne h), fun he => MK_s hM (by rw [ten, hhit k s hk hl he h])⟩
    · unfold lov
      cases hb1 : lkb T (pO k) (pT k)
      · rfl
      · cases hb2 : lkb T (pT k) (pO k)
        · rfl
        · have e1 := (of_decide_eq_true hb1).1
          have e2 := (of_decide_eq_true hb2).1
          unfold fo at hf
          rw [decide_eq_true e1, decide_eq_true e2] at hf
          exact absurd hf (by decide)
end P5
