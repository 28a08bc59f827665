/-! ===== the class reads clauses into its spare Common ===== -/
def fk (K : Nat → Nat → Nat) (p q : Nat) : Bool := (decide (1 ≤ K p q) && decide (K p q ≤ 9)) && (decide (1 ≤ K q p) && decide (K q p ≤ 9))
/-- the Common at S holds what has been read -/
def RD (M : kg_M) (S : Nat) : pS → Prop
  | (_, G, P, B, I, C, K) => M S 0 = nI G ∧ M S 1 = nI P ∧ M S 2 = nI (bs (fun p => I p == 1) 7) ∧ M S 3 = nI (bs (fun p => C p == 1) 7) ∧ (∀ g, g < G → M (S + 1) g = nI (B g)) ∧ (∀ p q, p < 7 → q < 7 → M (S + 2) (7 * p + q) = if K p q = 10 then -1 else nI (K p q)) ∧ (∀ p, p < 7 → M (S + 3) p = nI (bs (fk K p) 7))
def Rz (M : kg_M) (tn : Nat) (tx : Nat → Int32) (S : Nat) : Except (Nat × Nat) pS → Prop
  | Except.error e => TE M tn tx e
  | Except.ok s => TX M tn tx s.1 ∧ RD M S s
def fr5 (S : Nat) (M M' : kg_M) : Prop := ∀ k, k ≠ 1 → (k < S ∨ S + 4 ≤ k) → M' k = M k
theorem fr5_t {S : Nat} {M M' M'' : kg_M} (h : fr5 S M M') (h2 : fr5 S M' M'') : fr5 S M M'' := fun k hk hs => by rw [h2 k hk hs, h k hk hs]
theorem fr1_5 {S : Nat} {M M' : kg_M} (h : fr1 M M') : fr5 S M M' := fun k hk _ => h k hk
theorem RD_fr {M M' : kg_M} {S : Nat} {s : pS} (hS : S = 109 ∨ S = 113) (h : fr1 M M') (hd : RD M S s) : RD M' S s := by
  obtain ⟨p, G, P, B, I, C, K⟩ := s
  unfold RD at *
  rw [h S (by omega), h (S + 1) (by omega), h (S + 2) (by omega), h (S + 3) (by omega)]
  exact hd
theorem bs_add {I : Nat → Nat} {P v : Nat} (hP : P < 7) (hv : v < 2) (hI : I P = 0) : nI (bs (fun p => I p == 1) 7) ||| (nI v <<< (nI P &&& 31)) = nI (bs (fun q => (if q = P then v else I q) == 1) 7) := by
  rcases Nat.lt_or_ge v 1 with h | h
  · have e : v = 0 := by omega
    subst e
    have z : nI 0 <<< (nI P &&& 31) = 0 := b_ext (fun i hi => by rw [b_shl P (by omega) _ hi, show nI 0 = 0 from rfl, b_0, b_0, Bool.and_false])
    rw [z, or0]
    congr 1
    refine bs_cong (fun q _ => ?_)
    by_cases e : q = P
    · rw [if_pos e, e, hI]
    · rw [if_neg e]
  · have e : v = 1 := by omega
    subst e
    rw [show nI 1 = 1 from rfl, shl_one (k := 7) hP (by omega), bs_ior]
    congr 1
    refine bs_cong (fun q _ => ?_)
    by_cases e : q = P
    · rw [if_pos e, e, hI]; simp
    · rw [if_neg e]; simp [e]
theorem fk_add {K : Nat → Nat → Nat} {v w m : Nat} (hvw : v ≠ w) (hm : 1 ≤ m ∧ m ≤ 9) (hr : 1 ≤ K w v ∧ K w v ≤ 9) (p q : Nat) : fk (fun x y => if x = v ∧ y = w then m else K x y) p q = (fk K p q || ((p == v && q == w) || (p == w && q == v))) := by
  unfold fk
  by_cases h1 : p = v ∧ q = w
  · obtain ⟨rfl, rfl⟩ := h1
    have h2 : ¬ (q = p ∧ p = q) := fun h => hvw h.2
    simp [h2, hm, hr]
  · by_cases h2 : p = w ∧ q = v
    · obtain ⟨rfl, rfl⟩ := h2
      simp [h1, hm, hr]
    · have h3 : ¬ (q = v ∧ p = w) := fun h => h2 ⟨h.2, h.1⟩
      have e1 : ((p == v && q == w) || (p == w && q == v)) = false := by
        cases hb : ((p == v && q == w) || (p == w && q == v)) with
        | false => rfl
        | true =>
          simp only [Bool.or_eq_true, Bool.and_eq_true, beq_iff_eq] at hb
          rcases hb with h | h
          · exact absurd h h1
          · exact absurd h h2
      simp only [if_neg h1, if_neg h3, e1, Bool.or_false]
theorem fk_same {K : Nat → Nat → Nat} {v w m : Nat} (hvw : v ≠ w) (hk : K v w = 10) (hm : ¬ (1 ≤ m ∧ 1 ≤ K w v ∧ K w v ≤ 9)) (p q : Nat) : fk (fun x y => if x = v ∧ y = w then m else K x y) p q = fk K p q := by
  unfold fk
  by_cases h1 : p = v ∧ q = w
  · obtain ⟨rfl, rfl⟩ := h1
    have h2 : ¬ (q = p ∧ p = q) := fun h => hvw h.2
    simp only [h2, if_true, if_false, and_self, hk]
    by_cases h3 : 1 ≤ m
    · have : ¬ (1 ≤ K q p ∧ K q p ≤ 9) := fun h => hm ⟨h3, h.1, h.2⟩
      simp; omega
    · simp; omega
  · by_cases h2 : p = w ∧ q = v
    · obtain ⟨rfl, rfl⟩ := h2
      simp only [h1, if_true, if_false, and_self, hk]
      by_cases h3 : 1 ≤ m
      · have : ¬ (1 ≤ K p q ∧ K p q ≤ 9) := fun h => hm ⟨h3, h.1, h.2⟩
        simp; omega
      · simp; omega
    · have h3 : ¬ (q = v ∧ p = w) := fun h => h2 ⟨h.2, h.1⟩
      simp only [if_neg h1, if_neg h3]
section C7
variable {M : kg_M} {tn : Nat} {tx : Nat → Int32} {S p G P : Nat} {B I C : Nat → Nat} {Kk : Nat → Nat → Nat}
theorem hp_t {q : Nat} {K : Int32 → kg_M → Prop} (h1 : M S 1 = nI P) (h7 : P ≤ 7) (hq : q < P) (hK : K 1 M) : wp_X0_hasPerson S (nI q) M K := by
  unfold wp_X0_hasPerson
  rw [h1]
  exact ⟨fun h => absurd h (nI_pos (by omega)), fun _ => ⟨fun h => absurd h (nI_ge hq (by omega)), fun _ => hK⟩⟩
theorem told_any {v w : Int32} {K : Int32 → kg_M → Prop} (h1 : M S 1 = nI P) (h7 : P ≤ 7) (h0 : K 0 M) (h01 : K 1 M) : wp_X0_isTold S v w M K := by
  unfold wp_X0_isTold
  rcases ix_cases v P (by omega) with h | ⟨j, hj, e⟩
  · unfold wp_X0_hasPerson
    rw [h1]
    exact ⟨fun _ => ⟨fun _ => h0, fun h => absurd rfl h⟩, fun a => ⟨fun _ => ⟨fun _ => h0, fun h => absurd rfl h⟩, fun b => absurd (h.resolve_left a) b⟩⟩
  · subst e
    refine hp_t h1 h7 hj ⟨fun h => absurd h (by decide), fun _ => ?_⟩
    rcases ix_cases w P (by omega) with h | ⟨i, hi, e⟩
    · unfold wp_X0_hasPerson
      rw [h1]
      exact ⟨fun _ => ⟨fun _ => h0, fun h => absurd rfl h⟩, fun a => ⟨fun _ => ⟨fun _ => h0, fun h => absurd rfl h⟩, fun b => absurd (h.resolve_left a) b⟩⟩
    · subst e
      refine hp_t h1 h7 hi ⟨fun h => absurd h (by decide), fun _ => ⟨?_, fun _ => h0, fun _ => h01⟩⟩
      rw [nI_7']; exact in_nI (by omega) (by omega)
theorem told_t {v w : Nat} {K : Int32 → kg_M → Prop} (h1 : M S 1 = nI P) (h7 : P ≤ 7) (hv : v < P) (hw : w < P) (hm : M (S + 2) (7 * v + w) = if Kk v w = 10 then -1 else nI (Kk v w)) (h10 : Kk v w ≤ 10) (h0 : Kk v w = 10 → K 0 M) (h01 : Kk v w ≠ 10 → K 1 M) : wp_X0_isTold S (nI v) (nI w) M K := by
  unfold wp_X0_isTold
  refine hp_t h1 h7 hv ⟨fun h => absurd h (by decide), fun _ => hp_t h1 h7 hw ⟨fun h => absurd h (by decide), fun _ => ⟨by rw [nI_7']; exact in_nI (by omega) (by omega), ?_⟩⟩⟩
  rw [nI_7', cl_nI (by omega), hm]
  by_cases c : Kk v w = 10
  · rw [if_pos c]; exact ⟨fun _ => h0 c, fun h => absurd rfl h⟩
  · rw [if_neg c]; exact ⟨fun h => absurd h (m1_ne_nI (by omega)), fun _ => h01 c⟩
theorem c_addGate {v : Nat} {K : kg_M → Prop} (hS : S = 109 ∨ S = 113) (hd : RD M S (p, G, P, B, I, C, Kk)) (hG : G < 5) (hK : ∀ M' : kg_M, (∀ k, k ≠ S → k ≠ S + 1 → M' k = M k) → (∀ q, RD M' S (q, G + 1, P, (fun g => if g = G then v else B g), I, C, Kk)) → K M') : wp_X0_addGate S (nI v) M K := by
  obtain ⟨d0, d1, d2, d3, d4, d5, d6⟩ := hd
  unfold wp_X0_addGate
  rw [d0]
  refine ⟨fun h => absurd h (nI_ge (b := 5) hG (by decide)), fun _ => ⟨in_nI hG (by omega), fun M7 e7 M10 e10 => ?_⟩⟩
  have r : ∀ k, k ≠ S → k ≠ S + 1 → M10 k = M k := fun k a b => by rw [e10, kg_row_ne _ _ a, e7, kg_row_ne _ _ b]
  have a0 : M10 S = upd (M S) 0 (nI (G + 1)) := by rw [e10, kg_row_eq, e7, kg_row_ne _ _ (by omega), d0, nI_1]
  have a1 : M10 (S + 1) = upd (M (S + 1)) G (nI v) := by rw [e10, kg_row_ne _ _ (by omega), e7, kg_row_eq, cl_nI (by omega)]
  refine hK M10 r (fun q => ⟨by rw [a0, upd_eq], by rw [a0, upd_ne (by decide)]; exact d1, by rw [a0, upd_ne (by decide)]; exact d2, by rw [a0, upd_ne (by decide)]; exact d3, fun g hg => ?_, fun x y hx hy => by rw [r (S + 2) (by omega) (by omega)]; exact d5 x y hx hy, fun x hx => by rw [r (S + 3) (by omega) (by omega)]; exact d6 x hx⟩)
  dsimp only
  by_cases e : g = G
  · rw [a1, e, upd_eq, if_pos rfl]
  · rw [a1, upd_ne e, if_neg e]; exact d4 g (by omega)
theorem c_addPerson {v w : Nat} {K : kg_M → Prop} (hS : S = 109 ∨ S = 113) (hd : RD M S (p, G, P, B, I, C, Kk)) (hP : P < 7) (hv : v < 2) (hw : w < 2) (hI : I P = 0 ∧ C P = 0) (hK : ∀ M' : kg_M, (∀ k, k ≠ S → M' k = M k) → (∀ q, RD M' S (q, G, P + 1, B, (fun q => if q = P then v else I q), (fun q => if q = P then w else C q), Kk)) → K M') : wp_X0_addPerson S (nI v) (nI w) M K := by
  obtain ⟨d0, d1, d2, d3, d4, d5, d6⟩ := hd
  unfold wp_X0_addPerson
  rw [d1, d2]
  refine ⟨fun h => absurd h (nI_ge (b := 7) hP (by decide)), fun _ M5 e5 M8 e8 M11 e11 => ?_⟩
  have r : ∀ k, k ≠ S → M11 k = M k := fun k a => by rw [e11, kg_row_ne _ _ a, e8, kg_row_ne _ _ a, e5, kg_row_ne _ _ a]
  have a5 : M5 S = upd (M S) 2 (nI (bs (fun q => (if q = P then v else I q) == 1) 7)) := by rw [e5, kg_row_eq, bs_add hP hv hI.1]
  have a8 : M8 S = upd (M5 S) 3 (nI (bs (fun q => (if q = P then w else C q) == 1) 7)) := by
    rw [e8, kg_row_eq, show M5 S 3 = nI (bs (fun p => C p == 1) 7) by rw [a5, upd_ne (by decide)]; exact d3, show M5 S 1 = nI P by rw [a5, upd_ne (by decide)]; exact d1, bs_add hP hw hI.2]
  have a11 : M11 S = upd (M8 S) 1 (nI (P + 1)) := by
    rw [e11, kg_row_eq, show M8 S 1 = nI P by rw [a8, upd_ne (by decide), a5, upd_ne (by decide)]; exact d1, nI_1]
  refine hK M11 r (fun q => ⟨by rw [a11, upd_ne (by decide), a8, upd_ne (by decide), a5, upd_ne (by decide)]; exact d0, by rw [a11, upd_eq], by rw [a11, upd_ne (by decide), a8, upd_ne (by decide), a5, upd_eq], by rw [a11, upd_ne (by decide), a8, upd_eq], fun g hg => by rw [r (S + 1) (by omega)]; exact d4 g hg, fun x y hx hy => by rw [r (S + 2) (by omega)]; exact d5 x y hx hy, fun x hx => by rw [r (S + 3) (by omega)]; exact d6 x hx⟩)
theorem c_addLiking {v w m : Nat} {K : kg_M → Prop} (hS : S = 109 ∨ S = 113) (hd : RD M S (p, G, P, B, I, C, Kk)) (hP : P ≤ 7) (hv : v < P) (hw : w < P) (hvw : v ≠ w) (hk : Kk v w = 10) (hm : m < 10) (h10 : ∀ x y, Kk x y ≤ 10) (hK : ∀ M' : kg_M, (∀ k, k ≠ S + 2 → k ≠ S + 3 → M' k = M k) → (∀ q, RD M' S (q, G, P, B, I, C, (fun x y => if x = v ∧ y = w then m else Kk x y))) → K M') : wp_X0_addLiking S (nI v) (nI w) (nI m) M K := by
  obtain ⟨d0, d1, d2, d3, d4, d5, d6⟩ := hd
  unfold wp_X0_addLiking
  refine hp_t d1 hP hv ⟨fun h => absurd h (by decide), fun _ => hp_t d1 hP hw ⟨fun h => absurd h (by decide), fun _ => ⟨by rw [nI_7']; exact in_nI (by omega) (by omega), ?_⟩⟩⟩
  rw [nI_7', cl_nI (by omega)]
  intro M16 e16
  have r : ∀ k, k ≠ S + 2 → M16 k = M k := fun k a => by rw [e16, kg_row_ne _ _ a]
  have t2 : ∀ x y, x < 7 → y < 7 → M16 (S + 2) (7 * x + y) = if (if x = v ∧ y = w then m else Kk x y) = 10 then -1 else nI (if x = v ∧ y = w then m else Kk x y) := by
    intro x y hx hy
    rw [e16, kg_row_eq]
    by_cases c : x = v ∧ y = w
    · rw [if_pos c, c.1, c.2, upd_eq, if_neg (by omega)]
    · rw [if_neg c, upd_ne (by omega)]; exact d5 x y hx hy
  have sm : (¬ (1 ≤ m ∧ 1 ≤ Kk w v ∧ Kk w v ≤ 9)) → K M16 := by
    intro hno
    refine hK M16 (fun k a _ => r k a) (fun q => ⟨by rw [r S (by omega)]; exact d0, by rw [r S (by omega)]; exact d1, by rw [r S (by omega)]; exact d2, by rw [r S (by omega)]; exact d3, fun g hg => by rw [r (S + 1) (by omega)]; exact d4 g hg, t2, fun x hx => ?_⟩)
    rw [r (S + 3) (by omega), d6 x hx]
    congr 1
    exact bs_cong (fun y _ => (fk_same hvw hk hno x y).symm)
  refine ⟨fun h => sm (fun h0 => absurd h0.1 (by
    have := (nI_ltI (b := 1) (by omega) (by decide)).mp h
    omega)), fun h => ?_⟩
  have hm1 : 1 ≤ m := by
    rcases Nat.lt_or_ge m 1 with c | c
    · exact absurd (nI_lt (b := 1) c (by decide)) h
    · exact c
  unfold wp_X0_liking
  have q1 : M16 S 1 = nI P := by rw [r S (by omega)]; exact d1
  have hwv : ¬ (w = v ∧ v = w) := fun h => hvw h.2
  have t3 : M16 (S + 2) (7 * w + v) = if Kk w v = 10 then -1 else nI (Kk w v) := by rw [t2 w v (by omega) (by omega), if_neg hwv]
  refine told_t (Kk := Kk) q1 hP hw hv t3 (h10 w v) (fun c => ⟨fun _ => ⟨fun _ => sm (by omega), fun h => absurd (by decide) h⟩, fun h => absurd rfl h⟩) (fun c => ⟨fun h => absurd h (by decide), fun _ => ⟨by rw [nI_7']; exact in_nI (by omega) (by omega), ?_⟩⟩)
  have hkk := h10 w v
  dsimp only
  rw [nI_7', cl_nI (by omega), t3, if_neg c]
  refine ⟨fun h => sm (fun h0 => absurd h0.2.1 (by
    have := (nI_ltI (b := 1) (by omega) (by decide)).mp h
    omega)), fun h => ⟨in_nI (by omega) (by omega), in_nI (by omega) (by omega), fun M32 e32 => ⟨in_nI (by omega) (by omega), in_nI (by omega) (by omega), fun M39 e39 => ?_⟩⟩⟩
  have hr1 : 1 ≤ Kk w v := by
    rcases Nat.lt_or_ge (Kk w v) 1 with c | c
    · exact absurd (nI_lt (b := 1) c (by decide)) h
    · exact c
  rw [cl_nI (by omega)] at e32
  rw [cl_nI (a := w) (by omega)] at e39
  have a32 : M32 (S + 3) = upd (M (S + 3)) v (nI (bs (fun i => fk Kk v i || (i == w)) 7)) := by
    rw [e32, kg_row_eq, r (S + 3) (by omega), d6 v (by omega), shl_one (k := 7) (by omega) (by omega), bs_ior]
  have a39 : M39 (S + 3) = upd (M32 (S + 3)) w (nI (bs (fun i => fk Kk w i || (i == v)) 7)) := by
    rw [e39, kg_row_eq, show M32 (S + 3) w = nI (bs (fk Kk w) 7) by rw [a32, upd_ne (fun e => hvw e.symm)]; exact d6 w (by omega), shl_one (k := 7) (by omega) (by omega), bs_ior]
  have r' : ∀ k, k ≠ S + 3 → M39 k = M16 k := fun k a => by rw [e39, kg_row_ne _ _ a, e32, kg_row_ne _ _ a]
  refine hK M39 (fun k a b => by rw [r' k b, r k a]) (fun q => ⟨by rw [r' S (by omega), r S (by omega)]; exact d0, by rw [r' S (by omega), r S (by omega)]; exact d1, by rw [r' S (by omega), r S (by omega)]; exact d2, by rw [r' S (by omega), r S (by omega)]; exact d3, fun g hg => by rw [r' (S + 1) (by omega), r (S + 1) (by omega)]; exact d4 g hg, fun x y hx hy => by rw [r' (S + 2) (by omega)]; exact t2 x y hx hy, fun x hx => ?_⟩)
  have ha := fk_add (K := Kk) hvw ⟨hm1, by omega⟩ ⟨hr1, by omega⟩
  by_cases c1 : x = w
  · rw [a39, c1, upd_eq]
    congr 1
    refine bs_cong (fun y _ => ?_)
    rw [ha w y]
    have n1 : (w == v) = false := by simp; exact fun e => hvw e.symm
    simp [n1]
  · rw [a39, upd_ne c1, a32]
    by_cases c2 : x = v
    · rw [c2, upd_eq]
      congr 1
      refine bs_cong (fun y _ => ?_)
      rw [ha v y]
      have n1 : (v == w) = false := by simp; exact hvw
      simp [n1]
    · rw [upd_ne c2, d6 x hx]
      congr 1
      refine bs_cong (fun y _ => ?_)
      rw [ha x y]
      simp [c1, c2]
theorem v99 {v : Nat} (h : v ≤ 999) : nI v ≤ (99 : Int32) ↔ v < 100 := by
  rw [show (99 : Int32) = nI 99 from rfl, nI_leI (by omega) (by omega)]; omega
theorem v1' {v : Nat} (h : v ≤ 999) : nI v ≤ (1 : Int32) ↔ v < 2 := by
  rw [show (1 : Int32) = nI 1 from rfl, nI_leI (by omega) (by omega)]; omega
theorem v9 {v : Nat} (h : v ≤ 999) : nI v ≤ (9 : Int32) ↔ v < 10 := by
  rw [show (9 : Int32) = nI 9 from rfl, nI_leI (by omega) (by omega)]; omega
theorem vP {v : Nat} (h : v ≤ 999) (hP : P ≤ 7) : nI v ≤ nI P - 1 ↔ v < P := by
  have h1 := pred_lt (n := P) (by omega) (nI v)
  rw [nI_leI (a := P) (b := v) (by omega) (by omega)] at h1
  constructor
  · intro h2
    rcases Nat.lt_or_ge v P with c | c
    · exact c
    · exact absurd h2 (fa_of_lt (h1.mpr c)).2.1
  · intro h2
    exact fa_of_nlt (fun h3 => by have := h1.mp h3; omega)
theorem c_gate {K : kg_M → Prop} (hS : S = 109 ∨ S = 113) (hw : WF (p, G, P, B, I, C, Kk)) (hp : p < tn) (ht : TX M tn tx (p + 1)) (hd : RD M S (p, G, P, B, I, C, Kk)) (hK : ∀ M' : kg_M, fr5 S M M' → Rz M' tn tx S (gateR tn tx (p, G, P, B, I, C, Kk)) → K M') : wp_X6_readGate S (nI p) M K := by
  have hE : ∀ (M1 : kg_M) e, TE M1 tn tx e → K M1 → wJ_X6_readGate_14 S K M1 := fun M1 e h h0 => c_numE h (c_endE h ⟨fun _ => h0, fun h => absurd rfl h⟩)
  obtain ⟨d0, d1, d2, d3, d4, d5, d6⟩ := id hd
  obtain ⟨w1, w2, w3, w4, w5, w6, w7, w8⟩ := id hw
  unfold wp_X6_readGate
  rw [d0]
  refine ⟨fun h => ?_, fun h => ?_⟩
  · have c : ¬ 5 ≤ G := fun c => absurd h (fun h => by
      have := (nI_ltI (b := 5) (by omega) (by decide)).mp h
      omega)
    refine c_numX (lo := 1) (hb := 100) ht (by omega) (fun v hv => v99 hv) (fun e he v M1 r1 t1 => ?_) (fun v e a he M1 r1 t1 _ => ?_)
    · refine c_endE t1 ⟨fun _ => hK M1 (fr1_5 r1) ?_, fun h => absurd rfl h⟩
      simp only [gateR, if_neg c, he]
      exact t1
    · refine c_endX t1 (fun e2 he2 M2 r2 t2 => ⟨fun _ => hK M2 (fr5_t (fr1_5 r1) (fr1_5 r2)) ?_, fun h => absurd rfl h⟩) (fun q hq M2 r2 t2 => ⟨fun h => absurd h (by decide), fun _ => c_addGate hS (RD_fr hS r2 (RD_fr hS r1 hd)) (by omega) (fun M3 r3 hd3 => hK M3 (fr5_t (fr5_t (fr1_5 r1) (fr1_5 r2)) (fun k a b => r3 k (by omega) (by omega))) ?_)⟩)
      · simp only [gateR, if_neg c, he, he2]
        exact t2
      · simp only [gateR, if_neg c, he, hq]
        exact ⟨TX_fr t2 (r3 1 (by omega) (by omega)) (r3 2 (by omega) (by omega)), hd3 q⟩
  · have c : 5 ≤ G := by
      rcases Nat.lt_or_ge G 5 with c | c
      · exact absurd (nI_lt (b := 5) c (by decide)) h
      · exact c
    refine c_blameX (f := 3) ht (by decide) (by omega) (fun M1 r1 t1 => hE M1 _ t1 (hK M1 (fr1_5 r1) ?_))
    simp only [gateR, if_pos c]
    exact t1
theorem c_pers {K : kg_M → Prop} (hS : S = 109 ∨ S = 113) (hw : WF (p, G, P, B, I, C, Kk)) (hp : p < tn) (ht : TX M tn tx (p + 1)) (hd : RD M S (p, G, P, B, I, C, Kk)) (hK : ∀ M' : kg_M, fr5 S M M' → Rz M' tn tx S (persR tn tx (p, G, P, B, I, C, Kk)) → K M') : wp_X6_readPerson S (nI p) M K := by
  obtain ⟨d0, d1, d2, d3, d4, d5, d6⟩ := id hd
  obtain ⟨w1, w2, w3, w4, w5, w6, w7, w8⟩ := id hw
  unfold wp_X6_readPerson
  rw [d1]
  refine ⟨fun h => ?_, fun h => ?_⟩
  · have c : ¬ 7 ≤ P := fun c => absurd h (fun h => by
      have := (nI_ltI (b := 7) (by omega) (by decide)).mp h
      omega)
    refine c_numX (lo := 0) (hb := 2) ht (by omega) (fun v hv => v1' hv) (fun e he v M1 r1 t1 => ?_) (fun v e a he M1 r1 t1 _ => ?_)
    · refine c_numE t1 (c_endE t1 ⟨fun _ => hK M1 (fr1_5 r1) ?_, fun h => absurd rfl h⟩)
      simp only [persR, if_neg c, he]
      exact t1
    · have hv := num_o (by omega) he
      refine c_numX (lo := 0) (hb := 2) t1 (by omega) (fun v hv => v1' hv) (fun e2 he2 v2 M2 r2 t2 => ?_) (fun v2 e2 a2 he2 M2 r2 t2 _ => ?_)
      · refine c_endE t2 ⟨fun _ => hK M2 (fr5_t (fr1_5 r1) (fr1_5 r2)) ?_, fun h => absurd rfl h⟩
        simp only [persR, if_neg c, he, he2]
        exact t2
      · have hv2 := num_o (by omega) he2
        refine c_endX t2 (fun e3 he3 M3 r3 t3 => ⟨fun _ => hK M3 (fr5_t (fr5_t (fr1_5 r1) (fr1_5 r2)) (fr1_5 r3)) ?_, fun h => absurd rfl h⟩) (fun q hq M3 r3 t3 => ⟨fun h => absurd h (by decide), fun _ => c_addPerson hS (RD_fr hS r3 (RD_fr hS r2 (RD_fr hS r1 hd))) (by omega) (by omega) (by omega) (w6 P (Nat.le_refl _)) (fun M4 r4 hd4 => hK M4 (fr5_t (fr5_t (fr5_t (fr1_5 r1) (fr1_5 r2)) (fr1_5 r3)) (fun k a b => r4 k (by omega))) ?_)⟩)
        · simp only [persR, if_neg c, he, he2, he3]
          exact t3
        · simp only [persR, if_neg c, he, he2, hq]
          exact ⟨TX_fr t3 (r4 1 (by omega)) (r4 2 (by omega)), hd4 q⟩
  · have c : 7 ≤ P := by
      rcases Nat.lt_or_ge P 7 with c | c
      · exact absurd (nI_lt (b := 7) c (by decide)) h
      · exact c
    refine c_blameX (f := 3) ht (by decide) (by omega) (fun M1 r1 t1 => c_numE t1 (c_numE t1 (c_endE t1 ⟨fun _ => hK M1 (fr1_5 r1) ?_, fun h => absurd rfl h⟩)))
    simp only [persR, if_pos c]
    exact t1
theorem c_like {K : kg_M → Prop} (hS : S = 109 ∨ S = 113) (hw : WF (p, G, P, B, I, C, Kk)) (hp : p < tn) (ht : TX M tn tx (p + 1)) (hd : RD M S (p, G, P, B, I, C, Kk)) (hK : ∀ M' : kg_M, fr5 S M M' → Rz M' tn tx S (likeR tn tx (p, G, P, B, I, C, Kk)) → K M') : wp_X6_readLiking S M K := by
  have hE : ∀ (M1 : kg_M) e v w, TE M1 tn tx e → K M1 → wJ_X6_readLiking_47 S K v w M1 := fun M1 e _ _ h h0 => c_numE h (c_endE h ⟨fun _ => h0, fun h => absurd rfl h⟩)
  have hE2 : ∀ (M1 : kg_M) e v w, TE M1 tn tx e → K M1 → wJ_X6_readLiking_38 S K v w M1 := fun M1 e v w h h0 => c_blameE h (hE M1 e v w h h0)
  obtain ⟨d0, d1, d2, d3, d4, d5, d6⟩ := id hd
  obtain ⟨w1, w2, w3, w4, w5, w6, w7, w8⟩ := id hw
  have eK : ∀ (M1 : kg_M) e v w, TE M1 tn tx e → M1 S 1 = nI P → K M1 → (v = w → wJ_X6_readLiking_38 S K v w M1) ∧ (¬ v = w → wp_X0_isTold S v w M1 (fun (r30 : Int32) (M28 : kg_M) => (r30 = 0 → wJ_X6_readLiking_47 S K v w M28) ∧ (¬ r30 = 0 → wJ_X6_readLiking_38 S K v w M28))) := fun M1 e v w h h1 h0 => ⟨fun _ => hE2 M1 e v w h h0, fun _ => told_any h1 w2 ⟨fun _ => hE M1 e v w h h0, fun h => absurd rfl h⟩ ⟨fun h => absurd h (by decide), fun _ => hE2 M1 e v w h h0⟩⟩
  unfold wp_X6_readLiking
  rw [d1]
  refine c_numX (lo := 0) (hb := P) ht (by omega) (fun v hv => vP hv w2) (fun e he v M1 r1 t1 => ?_) (fun v e a he M1 r1 t1 _ => ?_)
  · refine c_numE t1 (eK M1 e v 0 t1 (by rw [r1 S (by omega)]; exact d1) (hK M1 (fr1_5 r1) ?_))
    simp only [likeR, he]
    exact t1
  · have hv := num_o (by omega) he
    rw [show M1 S 1 = nI P by rw [r1 S (by omega)]; exact d1]
    refine c_numX (lo := 0) (hb := P) t1 (by omega) (fun v hv => vP hv w2) (fun e2 he2 v2 M2 r2 t2 => ?_) (fun v2 e2 a2 he2 M2 r2 t2 h23 => ?_)
    · refine eK M2 e2 (nI v) v2 t2 (by rw [r2 S (by omega), r1 S (by omega)]; exact d1) (hK M2 (fr5_t (fr1_5 r1) (fr1_5 r2)) ?_)
      simp only [likeR, he, he2]
      exact t2
    · have hv2 := num_o (by omega) he2
      have hd2 := RD_fr hS r2 (RD_fr hS r1 hd)
      have f2 : fr5 S M M2 := fr5_t (fr1_5 r1) (fr1_5 r2)
      have bl : (v = v2 ∨ Kk v v2 ≠ 10) → wJ_X6_readLiking_38 S K (nI v) (nI v2) M2 := by
        intro c
        unfold wJ_X6_readLiking_38
        rw [h23]
        refine c_blameX (f := 4) t2 (by decide) hv2.2.2.2.1 (fun M3 r3 t3 => hE M3 _ _ _ t3 (hK M3 (fr5_t f2 (fr1_5 r3)) ?_))
        simp only [likeR, he, he2, if_pos c]
        exact t3
      refine ⟨fun h => bl (Or.inl (nI_inj (by omega) (by omega) h)), fun h => ?_⟩
      have hne : v ≠ v2 := fun e => h (by rw [e])
      refine told_t (Kk := Kk) (show M2 S 1 = nI P from hd2.2.1) w2 hv.2.1 hv2.2.1 (hd2.2.2.2.2.2.1 v v2 (by omega) (by omega)) (w7 v v2) (fun c => ⟨fun _ => ?_, fun h => absurd rfl h⟩) (fun c => ⟨fun h => absurd h (by decide), fun _ => bl (Or.inr c)⟩)
      have hc : ¬ (v = v2 ∨ Kk v v2 ≠ 10) := by omega
      refine c_numX (lo := 0) (hb := 10) t2 (by omega) (fun v hv => v9 hv) (fun e3 he3 v3 M3 r3 t3 => ?_) (fun v3 e3 a3 he3 M3 r3 t3 _ => ?_)
      · refine c_endE t3 ⟨fun _ => hK M3 (fr5_t f2 (fr1_5 r3)) ?_, fun h => absurd rfl h⟩
        simp only [likeR, he, he2, he3, if_neg hc]
        exact t3
      · have hv3 := num_o (by omega) he3
        refine c_endX t3 (fun e4 he4 M4 r4 t4 => ⟨fun _ => hK M4 (fr5_t (fr5_t f2 (fr1_5 r3)) (fr1_5 r4)) ?_, fun h => absurd rfl h⟩) (fun q hq M4 r4 t4 => ⟨fun h => absurd h (by decide), fun _ => c_addLiking hS (RD_fr hS r4 (RD_fr hS r3 hd2)) w2 hv.2.1 hv2.2.1 hne c hv3.2.1 w7 (fun M5 r5 hd5 => hK M5 (fr5_t (fr5_t (fr5_t f2 (fr1_5 r3)) (fr1_5 r4)) (fun k a b => r5 k (by omega) (by omega))) ?_)⟩)
        · simp only [likeR, he, he2, he3, he4, if_neg hc]
          exact t4
        · simp only [likeR, he, he2, he3, hq, if_neg hc]
          exact ⟨TX_fr t4 (r5 1 (by omega) (by omega)) (r5 2 (by omega) (by omega)), hd5 q⟩
theorem c_clause {K : kg_M → Prop} (hS : S = 109 ∨ S = 113) (hw : WF (p, G, P, B, I, C, Kk)) (hp : p < tn) (ht : TX M tn tx p) (hd : RD M S (p, G, P, B, I, C, Kk)) (hK : ∀ M' : kg_M, fr5 S M M' → Rz M' tn tx S (clauseR tn tx (p, G, P, B, I, C, Kk)) → K M') : wp_X6_readClause S M K := by
  intro M2 e2
  obtain ⟨hn, -, h1, hx, h2, h4⟩ := id ht
  have r : fr1 M M2 := fun k hk => by rw [e2, kg_row_ne _ _ hk]
  have s : ∀ j, j ≠ 2 → M2 1 j = M 1 j := fun j hj => by rw [e2, kg_row_eq, upd_ne hj]
  have t2 : TX M2 tn tx (p + 1) := ⟨hn, hp, by rw [s 1 (by decide)]; exact h1, fun i hi => by rw [r 2 (by decide)]; exact hx i hi, by rw [e2, kg_row_eq, upd_eq, h2, nI_1], by rw [s 4 (by decide), s 5 (by decide)]; exact h4⟩
  have hd2 := RD_fr hS r hd
  rw [h2, cl_nI (by omega), t2.2.2.2.1 p hp]
  unfold clauseR at hK
  refine ⟨in_nI (by omega) (by omega), fun c => c_gate hS hw hp t2 hd2 (fun M' r' z => hK M' (fr5_t (fr1_5 r) r') ?_), fun c => ⟨fun c2 => c_like hS hw hp t2 hd2 (fun M' r' z => hK M' (fr5_t (fr1_5 r) r') ?_), fun c2 => ⟨fun c3 => c_pers hS hw hp t2 hd2 (fun M' r' z => hK M' (fr5_t (fr1_5 r) r') ?_), fun c3 => c_blameX (f := 1) t2 (by decide) (by omega) (fun M' r' z => hK M' (fr5_t (fr1_5 r) (fr1_5 r')) ?_)⟩⟩⟩
  · rw [if_pos c]; exact z
  · rw [if_neg c, if_neg (by rw [c2]; decide), if_pos c2]; exact z
  · rw [if_neg c, if_pos c3]; exact z
  · rw [if_neg c, if_neg c3, if_neg c2]; exact z
theorem Rz_sk {e : Nat × Nat} {K : kg_M → Prop} (hz : TE M tn tx e) (hK : ∀ M' : kg_M, fr1 M M' → TE M' tn tx e → K M') : wp_X6_skipBlanks M K := c_skipE hz hK
theorem c_readInto {n : Nat} {K : Int32 → kg_M → Prop} (e240 : n = 240) (hS : S = 109 ∨ S = 113) (hn : tn ≤ 240) (h1 : M 1 1 = nI tn) (hx : ∀ i, i < tn → M 2 i = tx i) (hK : ∀ M' : kg_M, fr5 S M M' → Rz M' tn tx S (prs tn tx n) → K (M' 1 4) M') : wp_X6_readInto S M K := by
  intro M2 e2 M5 e5 M8 e8 Ma ea Mb eb Mc ec Md ed
  have r8 : fr1 M M8 := fun k hk => by rw [e8, kg_row_ne _ _ hk, e5, kg_row_ne _ _ hk, e2, kg_row_ne _ _ hk]
  have q8 : M8 1 = upd (upd (upd (M 1) 2 0) 4 0) 5 (-1) := by rw [e8, kg_row_eq, e5, kg_row_eq, e2, kg_row_eq]
  have rd : ∀ k, k ≠ S → Md k = M8 k := fun k hk => by rw [ed, kg_row_ne _ _ hk, ec, kg_row_ne _ _ hk, eb, kg_row_ne _ _ hk, ea, kg_row_ne _ _ hk]
  have qd : Md S = upd (upd (upd (upd (M8 S) 0 0) 1 0) 2 0) 3 0 := by rw [ed, kg_row_eq, ec, kg_row_eq, eb, kg_row_eq, ea, kg_row_eq]
  refine j_fill (by decide) (fun M14 r14 f14 => j_fill (by decide) (fun M17 r17 f17 => ?_))
  have t17 : TX M17 tn tx 0 := by
    refine ⟨hn, Nat.zero_le _, ?_, fun i hi => ?_, ?_, ?_, ?_⟩
    · rw [r17 1 (by omega), r14 1 (by omega), rd 1 (by omega), q8, upd_ne (by decide), upd_ne (by decide), upd_ne (by decide)]; exact h1
    · rw [r17 2 (by omega), r14 2 (by omega), rd 2 (by omega), r8 2 (by omega)]; exact hx i hi
    · rw [r17 1 (by omega), r14 1 (by omega), rd 1 (by omega), q8]; rfl
    · rw [r17 1 (by omega), r14 1 (by omega), rd 1 (by omega), q8]; rfl
    · rw [r17 1 (by omega), r14 1 (by omega), rd 1 (by omega), q8]; rfl
  have d17 : RD M17 S (0, 0, 0, (fun _ => 0), (fun _ => 0), (fun _ => 0), (fun _ _ => 10)) := by
    have e : M17 S = Md S := by rw [r17 S (by omega), r14 S (by omega)]
    refine ⟨by rw [e, qd]; rfl, by rw [e, qd]; rfl, ?_, ?_, fun g hg => absurd hg (Nat.not_lt_zero _), fun x y hx hy => ?_, fun x hx => ?_⟩
    · rw [e, qd]; rfl
    · rw [e, qd]; rfl
    · rw [if_pos rfl, r17 (S + 2) (by omega)]; exact f14 _ (by omega)
    · rw [f17 x hx]
      have : bs (fk (fun _ _ => 10) x) 7 = bs (fun _ => false) 7 := bs_cong (fun y _ => by unfold fk; rfl)
      rw [this, bs_zero]; rfl
  have r0 : fr5 S M M17 := fun k a b => by rw [r17 k (by omega), r14 k (by omega), rd k (by omega), r8 k a]
  refine c_skipX t17 (fun M20 r20 t20 _ => ⟨241, ?_⟩)
  have go : ∀ d k (M' : kg_M), k + d = n → fr5 S M M' → Rz M' tn tx S (prs tn tx k) → wL_X6_readInto_25 S (fun (M : kg_M) => K (M 1 4) M) K (d + 1) (nI k) M' := by
    intro d
    induction d with
    | zero =>
      intro k M' hk hr hz
      have e : k = n := by omega
      have hh := hK M' hr (by rw [← e]; exact hz)
      rw [wL_X6_readInto_25]
      exact ⟨fun _ => hh, fun h => absurd (nI_le (a := 240) (b := k) (by omega) (by omega)) h⟩
    | succ d ih =>
      intro k M' hk hr hz
      rw [wL_X6_readInto_25]
      refine ⟨fun h => absurd h (nI_ge (b := 240) (by omega) (by decide)), fun _ => ?_⟩
      have hgd := prs_gd (tn := tn) (tx := tx) k
      cases hk' : prs tn tx k with
      | error e =>
        rw [hk'] at hz
        have hne := TE_ne hz
        have := prs_e hk' (d + 1)
        rw [hk] at this
        exact ⟨fun _ => hK M' hr (by rw [this]; exact hz), fun h => absurd h hne⟩
      | ok s =>
        rw [hk'] at hz hgd
        obtain ⟨p, G, P, B, I, C, Kk⟩ := s
        obtain ⟨ht, hd⟩ := hz
        obtain ⟨-, hp, g1, gx, g2, g4⟩ := id ht
        rw [g1, g2, g4.1]
        refine ⟨fun h => absurd rfl h, fun _ => ⟨fun h => ?_, fun h => ?_⟩⟩
        · have hle : tn ≤ p := (nI_leI (by omega) (by omega)).mp h
          have := prs_d hk' hle (d + 1)
          rw [hk] at this
          have hh := hK M' hr (by rw [this]; exact ⟨ht, hd⟩)
          rw [g4.1] at hh
          exact hh
        · have hlt : ¬ tn ≤ p := fun c => h (nI_le c (by omega))
          refine c_clause hS hgd.2.1 (by omega) ht hd (fun M3 r3 z3 => ?_)
          have hstep : prs tn tx (k + 1) = match clauseR tn tx (p, G, P, B, I, C, Kk) with
            | Except.error e => Except.error e
            | Except.ok s' => Except.ok (skp tn tx s'.1, s'.2) := by
            rw [prs, hk']
            dsimp only
            rw [if_neg hlt]
            rfl
          cases hc : clauseR tn tx (p, G, P, B, I, C, Kk) with
          | error e =>
            rw [hc] at z3 hstep
            refine c_skipE z3 (fun M4 r4 z4 => ?_)
            rw [nI_1]
            exact ih (k + 1) M4 (by omega) (fr5_t (fr5_t hr r3) (fr1_5 r4)) (by rw [hstep]; exact z4)
          | ok s' =>
            rw [hc] at z3 hstep
            refine c_skipX z3.1 (fun M4 r4 z4 _ => ?_)
            rw [nI_1]
            have hrd := RD_fr hS r4 z3.2
            obtain ⟨p', G', P', B', I', C', K'⟩ := s'
            exact ih (k + 1) M4 (by omega) (fr5_t (fr5_t hr r3) (fr1_5 r4)) (by rw [hstep]; exact ⟨z4, hrd⟩)
  refine go 240 0 M20 (by omega) (fr5_t r0 (fr1_5 r20)) ?_
  rw [prs]
  refine ⟨t20, ?_⟩
  have := RD_fr hS r20 d17
  exact this
end C7
