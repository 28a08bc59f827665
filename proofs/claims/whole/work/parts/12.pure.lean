/-! ===== Int32 by its bits: bt x i ===== -/
def bt (x : Int32) (i : Nat) : Bool := x.toBitVec.getLsbD i
theorem b_ext {x y : Int32} (h : ∀ i, i < 32 → bt x i = bt y i) : x = y := Int32.toBitVec_inj.mp (BitVec.eq_of_getLsbD_eq (fun i hi => h i hi))
theorem b_or (x y : Int32) (i : Nat) : bt (x ||| y) i = (bt x i || bt y i) := by unfold bt; rw [Int32.toBitVec_or, BitVec.getLsbD_or]
theorem b_and (x y : Int32) (i : Nat) : bt (x &&& y) i = (bt x i && bt y i) := by unfold bt; rw [Int32.toBitVec_and, BitVec.getLsbD_and]
theorem b_xor (x y : Int32) (i : Nat) : bt (x ^^^ y) i = (bt x i ^^ bt y i) := by unfold bt; rw [Int32.toBitVec_xor, BitVec.getLsbD_xor]
theorem b_big {x : Int32} {i : Nat} (h : 32 ≤ i) : bt x i = false := BitVec.getLsbD_of_ge _ _ h
theorem b_255 (i : Nat) : bt 255 i = decide (i < 8) := by
  rcases Nat.lt_or_ge i 32 with h | h
  · exact (by decide +kernel : ∀ i, i < 32 → bt 255 i = decide (i < 8)) i h
  · rw [b_big h, decide_eq_false (by omega)]
theorem b_65535 (i : Nat) : bt 65535 i = decide (i < 16) := by
  rcases Nat.lt_or_ge i 32 with h | h
  · exact (by decide +kernel : ∀ i, i < 32 → bt 65535 i = decide (i < 16)) i h
  · rw [b_big h, decide_eq_false (by omega)]
theorem b_m1 : ∀ i, i < 32 → bt (-1) i = true := by decide +kernel
theorem b_0 (i : Nat) : bt 0 i = false := BitVec.getLsbD_zero
theorem s_l : ∀ n, n < 32 → ((nI n &&& 31).toBitVec.smod 32).toNat = n := by decide +kernel
theorem s_u : ∀ n, n < 32 → (((nI n).toUInt32 &&& Int32.toUInt32 31).toBitVec % 32).toNat = n := by decide +kernel
theorem b_shl (n : Nat) (hn : n < 32) (x : Int32) {i : Nat} (hi : i < 32) : bt (x <<< (nI n &&& 31)) i = (decide (n ≤ i) && bt x (i - n)) := by
  unfold bt
  rw [Int32.toBitVec_shiftLeft]
  show (x.toBitVec <<< ((nI n &&& 31).toBitVec.smod 32).toNat).getLsbD i = _
  rw [s_l n hn, BitVec.getLsbD_shiftLeft]
  rcases Nat.lt_or_ge i n with h | h
  · simp [h, Nat.not_le.mpr h]
  · simp [hi, h, Nat.not_lt.mpr h]
theorem b_ushr (n : Nat) (hn : n < 32) (x : Int32) (i : Nat) : bt ((x.toUInt32 >>> ((nI n).toUInt32 &&& Int32.toUInt32 31)).toInt32) i = bt x (n + i) := by
  show (x.toUInt32 >>> ((nI n).toUInt32 &&& Int32.toUInt32 31)).toBitVec.getLsbD i = x.toUInt32.toBitVec.getLsbD (n + i)
  rw [UInt32.toBitVec_shiftRight]
  show (x.toUInt32.toBitVec >>> (((nI n).toUInt32 &&& Int32.toUInt32 31).toBitVec % 32).toNat).getLsbD i = _
  rw [s_u n hn, BitVec.getLsbD_ushiftRight]
theorem b_sshr (n : Nat) (hn : n < 32) (x : Int32) {i : Nat} (hi : i < 32) : bt (x >>> (nI n &&& 31)) i = if n + i < 32 then bt x (n + i) else bt x 31 := by
  unfold bt
  rw [Int32.toBitVec_shiftRight]
  show (x.toBitVec.sshiftRight ((nI n &&& 31).toBitVec.smod 32).toNat).getLsbD i = _
  rw [s_l n hn, BitVec.getLsbD_sshiftRight, BitVec.msb_eq_getLsbD_last]
  simp [hi]
theorem b_shl8 (x : Int32) {i : Nat} (hi : i < 32) : bt (x <<< ((8 : Int32) &&& 31)) i = (decide (8 ≤ i) && bt x (i - 8)) := b_shl 8 (by omega) x hi
theorem b_shl16 (x : Int32) {i : Nat} (hi : i < 32) : bt (x <<< ((16 : Int32) &&& 31)) i = (decide (16 ≤ i) && bt x (i - 16)) := b_shl 16 (by omega) x hi
theorem b_shl24 (x : Int32) {i : Nat} (hi : i < 32) : bt (x <<< ((24 : Int32) &&& 31)) i = (decide (24 ≤ i) && bt x (i - 24)) := b_shl 24 (by omega) x hi
theorem b_sshr8 (x : Int32) {i : Nat} (hi : i < 32) : bt (x >>> ((8 : Int32) &&& 31)) i = if 8 + i < 32 then bt x (8 + i) else bt x 31 := b_sshr 8 (by omega) x hi
/-! ===== order of ints, in all its forms, and through longs ===== -/
theorem fa_lt (a b : Int32) : a < b ↔ a.toInt < b.toInt := Int32.lt_iff_toInt_lt
theorem fa_le (a b : Int32) : a ≤ b ↔ a.toInt ≤ b.toInt := Int32.le_iff_toInt_le
theorem fa_eq (a b : Int32) : a = b ↔ a.toInt = b.toInt := Int32.toInt_inj.symm
theorem fa_lt64 (a b : Int64) : a < b ↔ a.toInt < b.toInt := Int64.lt_iff_toInt_lt
theorem fa_le64 (a b : Int64) : a ≤ b ↔ a.toInt ≤ b.toInt := Int64.le_iff_toInt_le
theorem fa_eq64 (a b : Int64) : a = b ↔ a.toInt = b.toInt := Int64.toInt_inj.symm
/-- a comparison of two ints taken as longs -/
theorem fa_wide_lt (a b : Int32) : a.toInt64 < b.toInt64 ↔ a < b := by rw [fa_lt64, fa_lt, Int32.toInt_toInt64, Int32.toInt_toInt64]
theorem fa_wide_le (a b : Int32) : a.toInt64 ≤ b.toInt64 ↔ a ≤ b := by rw [fa_le64, fa_le, Int32.toInt_toInt64, Int32.toInt_toInt64]
theorem fa_wide_eq (a b : Int32) : a.toInt64 = b.toInt64 ↔ a = b := by rw [fa_eq64, fa_eq, Int32.toInt_toInt64, Int32.toInt_toInt64]
/-- one strict comparison gives all the others -/
theorem fa_of_lt {a b : Int32} (h : a < b) : a ≤ b ∧ ¬ b ≤ a ∧ ¬ b < a ∧ a ≠ b ∧ b ≠ a := by
  rw [fa_lt] at h
  refine ⟨?_, ?_, ?_, ?_, ?_⟩
  · rw [fa_le]; omega
  · rw [fa_le]; omega
  · rw [fa_lt]; omega
  · intro e; rw [fa_eq] at e; omega
  · intro e; rw [fa_eq] at e; omega
theorem fa_of_nlt {a b : Int32} (h : ¬ a < b) : b ≤ a := by
  rw [fa_lt] at h
  rw [fa_le]
  omega
theorem fa_of_nle {a b : Int32} (h : ¬ a ≤ b) : b < a := by
  rw [fa_le] at h
  rw [fa_lt]
  omega
theorem fa_le_ne {a b : Int32} (h : a ≤ b) (h2 : a ≠ b) : a < b := by
  rw [fa_le] at h
  rw [fa_lt]
  have h3 : a.toInt ≠ b.toInt := fun e => h2 ((fa_eq a b).mpr e)
  omega
theorem fa_three (a b : Int32) : a < b ∨ a = b ∨ b < a := by
  rw [fa_lt, fa_lt, fa_eq]
  omega
theorem fa_trans {a b c : Int32} (h : a < b) (h2 : b ≤ c) : a < c := by
  rw [fa_lt] at *
  rw [fa_le] at h2
  omega
/-! ===== small literals as numbers ===== -/
theorem fa_lit (n : Nat) : (OfNat.ofNat n : Int32) = nI n := rfl
theorem fa_litL (n : Nat) : (OfNat.ofNat n : Int64) = lN n := rfl
/-! ===== bits of a number: 'or', masks, one bit ===== -/
theorem fa_and (a b : Nat) : nI a &&& nI b = nI (a &&& b) := by
  apply Int32.toBitVec_inj.1
  show BitVec.ofNat 32 a &&& BitVec.ofNat 32 b = BitVec.ofNat 32 (a &&& b)
  apply BitVec.eq_of_getLsbD_eq
  intro i hi
  simp [hi]
theorem fa_or (a b : Nat) : nI a ||| nI b = nI (a ||| b) := by
  apply Int32.toBitVec_inj.1
  show BitVec.ofNat 32 a ||| BitVec.ofNat 32 b = BitVec.ofNat 32 (a ||| b)
  apply BitVec.eq_of_getLsbD_eq
  intro i hi
  simp [hi]
/-- a remainder by a power of two, as a mask -/
theorem fa_mask (n k : Nat) : nI n &&& nI (2 ^ k - 1) = nI (n % 2 ^ k) := by rw [fa_and, Nat.and_two_pow_sub_one_eq_mod]
/-- 'or' of a high part and a low one that don't meet is their sum -/
theorem fa_or_sum {a k : Nat} (b : Nat) (h : a < 2 ^ k) : nI (2 ^ k * b) ||| nI a = nI (2 ^ k * b + a) := by rw [fa_or, Nat.two_pow_add_eq_or_of_lt h]
/-- one bit, by 'and' with a power of two -/
theorem fa_bit {n j : Nat} (hj : j < 31) : nI n &&& nI (2 ^ j) = 0 ↔ n.testBit j = false := by
  have h2 : (2 : Nat) ^ j < 2 ^ 31 := Nat.pow_lt_pow_right (by decide) hj
  have hle : n &&& 2 ^ j ≤ 2 ^ j := Nat.and_le_right
  have e : n &&& 2 ^ j = 0 ↔ n.testBit j = false := by
    constructor
    · intro h
      have h1 : (n &&& 2 ^ j).testBit j = false := by rw [h]; simp
      rw [Nat.testBit_and] at h1
      first | simpa using h1 | simpa [Nat.testBit_two_pow_self] using h1 | simpa [Nat.testBit_two_pow] using h1
    · intro h
      apply Nat.eq_of_testBit_eq
      intro i
      rw [Nat.testBit_and]
      by_cases hi : j = i
      · subst hi; simp [h]
      · first | (simp [Nat.testBit_two_pow, hi]; done) | (simp [Nat.testBit_two_pow_of_ne hi]; done)
  rw [fa_and]
  constructor
  · intro h
    apply e.mp
    rcases Nat.eq_zero_or_pos (n &&& 2 ^ j) with z | z
    · exact z
    · exact absurd h (nI_ne0 z (Nat.lt_of_le_of_lt hle h2))
  · intro h
    rw [e.mpr h]; exact nI_0
/-- a remainder by a power of two of a number that isn't negative, as Java divides -/
theorem fa_rem {a k : Nat} (ha : a < 2 ^ 31) (hk : k < 31) : nI a - nI a / nI (2 ^ k) * nI (2 ^ k) = nI (a % 2 ^ k) := pk_rem ha (Nat.two_pow_pos k) (Nat.pow_lt_pow_right (by decide) hk)
/-! ===== sets of persons as numbers ===== -/
/-- the number whose bit p, of those below k, is c p -/
def bs (c : Nat → Bool) : Nat → Nat
  | 0 => 0
  | k + 1 => bs c k + (if c k = true then 2 ^ k else 0)
theorem bs_lt (c : Nat → Bool) : ∀ k, bs c k < 2 ^ k
  | 0 => Nat.one_pos
  | k + 1 => by
    have h := bs_lt c k
    rw [bs, Nat.pow_succ]
    split <;> omega
theorem bs_cong {c c' : Nat → Bool} : ∀ {k : Nat}, (∀ p, p < k → c p = c' p) → bs c k = bs c' k
  | 0, _ => rfl
  | k + 1, h => by rw [bs, bs, bs_cong (fun p hp => h p (by omega)), h k (by omega)]
theorem bs_bit (c : Nat → Bool) (i : Nat) : ∀ k, (bs c k).testBit i = (decide (i < k) && c i)
  | 0 => by simp [bs]
  | k + 1 => by
    have ih := bs_bit c i k
    have hl := bs_lt c k
    rw [bs]
    by_cases hc : c k = true
    · rw [if_pos hc, Nat.add_comm]
      by_cases hik : i = k
      · subst hik
        rw [Nat.testBit_two_pow_add_eq, ih, hc]
        simp
      · rcases Nat.lt_or_ge i k with h | h
        · rw [Nat.testBit_two_pow_add_gt h, ih]
          simp [h, Nat.lt_succ_of_lt h]
        · have h2 : k < i := by omega
          have e1 : (2 ^ k + bs c k).testBit i = false := by
            apply Nat.testBit_lt_two_pow
            have : 2 ^ (k + 1) ≤ 2 ^ i := Nat.pow_le_pow_right (by decide) h2
            rw [Nat.pow_succ] at this
            omega
          rw [e1]
          have : ¬ i < k + 1 := by omega
          simp [this]
    · rw [if_neg hc, Nat.add_zero, ih]
      by_cases hik : i = k
      · subst hik
        simp at hc
        simp [hc]
      · by_cases h : i < k
        · simp [h, Nat.lt_succ_of_lt h]
        · have : ¬ i < k + 1 := by omega
          simp [h, this]
theorem bs_inj {c c' : Nat → Bool} {k : Nat} (h : bs c k = bs c' k) {p : Nat} (hp : p < k) : c p = c' p := by
  have h1 := bs_bit c p k
  rw [h, bs_bit c' p k] at h1
  simpa [hp] using h1.symm
theorem bs_of (s : Nat) : ∀ k, s < 2 ^ k → bs (fun p => s.testBit p) k = s := by
  intro k h
  apply Nat.eq_of_testBit_eq
  intro i
  rw [bs_bit]
  rcases Nat.lt_or_ge i k with hi | hi
  · simp [hi]
  · have : s.testBit i = false := Nat.testBit_lt_two_pow (Nat.lt_of_lt_of_le h (Nat.pow_le_pow_right (by decide) hi))
    simp [this]
theorem bs_eq {s k : Nat} {c : Nat → Bool} (hs : s < 2 ^ k) (h : ∀ p, p < k → s.testBit p = c p) : s = bs c k := by
  rw [← bs_of s k hs]
  exact bs_cong h
/-- below the greatest bit: what is beyond n has none -/
theorem bs_cut {c : Nat → Bool} {n : Nat} : ∀ {k : Nat}, n ≤ k → (∀ p, n ≤ p → p < k → c p = false) → bs c k = bs c n
  | 0, h, _ => by rw [show n = 0 by omega]
  | k + 1, h, hc => by
    rcases Nat.lt_or_ge n (k + 1) with h1 | h1
    · rw [bs, hc k (by omega) (by omega), bs_cut (by omega) (fun p a b => hc p a (by omega))]
      simp
    · rw [show n = k + 1 by omega]
theorem one_shl {k : Nat} (hk : k < 31) : (1 : Int32) <<< (nI k &&& 31) = nI (2 ^ k) := by
  have h := pk_shlN (n := 1) (nI k &&& 31) k (s_l k (by omega)) (by rw [Nat.one_mul]; exact Nat.pow_lt_pow_right (by decide) (by omega))
  rw [Nat.one_mul] at h
  exact h
theorem bs_or {c : Nat → Bool} {k : Nat} (hk : k < 31) : nI (bs c k) ||| ((1 : Int32) <<< (nI k &&& 31)) = nI (bs c k + 2 ^ k) := by
  rw [one_shl hk, fa_or]
  congr 1
  have h := Nat.two_pow_add_eq_or_of_lt (bs_lt c k) 1
  rw [Nat.mul_one] at h
  rw [Nat.or_comm, ← h, Nat.add_comm]
theorem bs_t {c : Nat → Bool} {k : Nat} (h : c k = true) : bs c (k + 1) = bs c k + 2 ^ k := by rw [bs, if_pos h]
theorem bs_f {c : Nat → Bool} {k : Nat} (h : c k = false) : bs c (k + 1) = bs c k := by rw [bs, if_neg (by rw [h]; decide), Nat.add_zero]
theorem nI_shr {s p : Nat} (hs : s < 2 ^ 31) (hp : p < 31) : nI s >>> (nI p &&& 31) = nI (s / 2 ^ p) := pk_shrN hs _ p (s_l p (by omega))
theorem nI_and1 (n : Nat) : nI n &&& 1 = nI (n % 2) := by
  have h := fa_mask n 1
  exact h
/-- one bit read: (s >> p) & 1 -/
theorem nI_bit {s p : Nat} (hs : s < 2 ^ 31) (hp : p < 31) : (nI s >>> (nI p &&& 31)) &&& 1 = if s.testBit p then 1 else 0 := by
  rw [nI_shr hs hp, nI_and1]
  have h : s / 2 ^ p % 2 = if s.testBit p then 1 else 0 := by
    rw [Nat.testBit_eq_decide_div_mod_eq]
    by_cases h : s / 2 ^ p % 2 = 1
    · simp [h]
    · have : s / 2 ^ p % 2 = 0 := by omega
      simp [this]
  rw [h]
  split <;> rfl
theorem bs_has {c : Nat → Bool} {k p : Nat} (hk : k ≤ 31) (hp : p < k) : (nI (bs c k) >>> (nI p &&& 31)) &&& 1 = if c p then 1 else 0 := by
  have h := Nat.lt_of_lt_of_le (bs_lt c k) (Nat.pow_le_pow_right (show 0 < 2 by decide) hk)
  rw [nI_bit h (by omega), bs_bit]
  simp [hp]
theorem bs_and (c c' : Nat → Bool) (k : Nat) : nI (bs c k) &&& nI (bs c' k) = nI (bs (fun p => c p && c' p) k) := by
  rw [fa_and]
  congr 1
  apply Nat.eq_of_testBit_eq
  intro i
  rw [Nat.testBit_and, bs_bit, bs_bit, bs_bit]
  by_cases h : i < k <;> simp [h]
theorem bs_ior (c c' : Nat → Bool) (k : Nat) : nI (bs c k) ||| nI (bs c' k) = nI (bs (fun p => c p || c' p) k) := by
  rw [fa_or]
  congr 1
  apply Nat.eq_of_testBit_eq
  intro i
  rw [Nat.testBit_or, bs_bit, bs_bit, bs_bit]
  by_cases h : i < k <;> simp [h]
theorem bs_xor (c c' : Nat → Bool) (k : Nat) : nI (bs c k) ^^^ nI (bs c' k) = nI (bs (fun p => c p ^^ c' p) k) := by
  rw [show nI (bs c k) ^^^ nI (bs c' k) = nI (bs c k ^^^ bs c' k) from by
    apply Int32.toBitVec_inj.1
    show BitVec.ofNat 32 _ ^^^ BitVec.ofNat 32 _ = BitVec.ofNat 32 _
    apply BitVec.eq_of_getLsbD_eq
    intro i hi
    simp [hi]]
  congr 1
  apply Nat.eq_of_testBit_eq
  intro i
  rw [Nat.testBit_xor, bs_bit, bs_bit, bs_bit]
  by_cases h : i < k <;> simp [h]
theorem bs_one {p k : Nat} (hp : p < k) : 2 ^ p = bs (fun i => i == p) k := by
  apply Nat.eq_of_testBit_eq
  intro i
  rw [bs_bit, Nat.testBit_two_pow]
  by_cases h : i = p
  · subst h; simp [hp]
  · have h2 : ¬ p = i := fun e => h e.symm
    simp [h, h2]
theorem shl_one {p k : Nat} (hp : p < k) (hk : k ≤ 31) : (1 : Int32) <<< (nI p &&& 31) = nI (bs (fun i => i == p) k) := by
  rw [one_shl (by omega), ← bs_one hp]
theorem nI_inj {a b : Nat} (ha : a < 2 ^ 31) (hb : b < 2 ^ 31) (h : nI a = nI b) : a = b := (nI_eq ha hb).mp h
theorem bs_nIeq {c c' : Nat → Bool} {k : Nat} (hk : k ≤ 30) : nI (bs c k) = nI (bs c' k) ↔ ∀ p, p < k → c p = c' p := by
  have h1 : ∀ c : Nat → Bool, bs c k < 2 ^ 31 := fun c => Nat.lt_of_lt_of_le (bs_lt c k) (Nat.pow_le_pow_right (by decide) (by omega))
  constructor
  · intro h p hp
    exact bs_inj (nI_inj (h1 c) (h1 c') h) hp
  · intro h
    rw [bs_cong h]
theorem bs_zero (k : Nat) : bs (fun _ => false) k = 0 := by
  induction k with
  | zero => rfl
  | succ k ih => rw [bs_f rfl, ih]
theorem bs_not (c : Nat → Bool) {k : Nat} (x : Nat → Bool) (hk : k ≤ 31) : nI (bs x k) &&& (nI (bs c k) ^^^ (-1)) = nI (bs (fun p => x p && !c p) k) := by
  apply b_ext
  intro i hi
  have hb : ∀ m : Nat, bt (nI m) i = m.testBit i := by
    intro m
    unfold bt
    show (BitVec.ofNat 32 m).getLsbD i = _
    rw [BitVec.getLsbD_ofNat]
    simp [hi]
  rw [b_and, b_xor, hb, hb, hb, b_m1 i hi, bs_bit, bs_bit, bs_bit]
  by_cases h : i < k <;> simp [h]
/-- how many of those below k -/
def ct (c : Nat → Bool) : Nat → Nat
  | 0 => 0
  | k + 1 => ct c k + (if c k = true then 1 else 0)
theorem ct_le (c : Nat → Bool) : ∀ k, ct c k ≤ k
  | 0 => Nat.le_refl 0
  | k + 1 => by
    have := ct_le c k
    rw [ct]
    split <;> omega
theorem ct_cong {c c' : Nat → Bool} : ∀ {k : Nat}, (∀ p, p < k → c p = c' p) → ct c k = ct c' k
  | 0, _ => rfl
  | k + 1, h => by rw [ct, ct, ct_cong (fun p hp => h p (by omega)), h k (by omega)]
theorem ct_cut {c : Nat → Bool} {n : Nat} : ∀ {k : Nat}, n ≤ k → (∀ p, n ≤ p → p < k → c p = false) → ct c k = ct c n
  | 0, h, _ => by rw [show n = 0 by omega]
  | k + 1, h, hc => by
    rcases Nat.lt_or_ge n (k + 1) with h1 | h1
    · rw [ct, hc k (by omega) (by omega), ct_cut (by omega) (fun p a b => hc p a (by omega))]
      simp
    · rw [show n = k + 1 by omega]
