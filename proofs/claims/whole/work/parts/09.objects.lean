def kg_O0 (R : kg_R) (n o : Nat) : Prop := kg_SH o = .inl 0 ∧ o + 4 ≤ n ∧ kg_SH (o + 1) = .inr (0, 5) ∧ kg_SH (o + 2) = .inr (0, 49) ∧ kg_SH (o + 3) = .inr (0, 7) ∧ R o 4 = some (o + 1) ∧ R o 5 = some (o + 2) ∧ R o 6 = some (o + 3)
theorem kg_o0a {R : kg_R} {n o : Nat} (h : kg_O0 R n o) : kg_SH o = .inl 0 := h.1
theorem kg_o0n {R : kg_R} {n o : Nat} (h : kg_O0 R n o) : o < n := by have := h.2.1; omega
theorem kg_o0s4 {R : kg_R} {n o : Nat} (h : kg_O0 R n o) : kg_SH (o + 1) = .inr (0, 5) := h.2.2.1
theorem kg_o0m4 {R : kg_R} {n o : Nat} (h : kg_O0 R n o) : o + 1 < n := by have := h.2.1; omega
theorem kg_o0r4 {R : kg_R} {n o : Nat} (h : kg_O0 R n o) : R o 4 = some (o + 1) := h.2.2.2.2.2.1
theorem kg_o0s5 {R : kg_R} {n o : Nat} (h : kg_O0 R n o) : kg_SH (o + 2) = .inr (0, 49) := h.2.2.2.1
theorem kg_o0m5 {R : kg_R} {n o : Nat} (h : kg_O0 R n o) : o + 2 < n := by have := h.2.1; omega
theorem kg_o0r5 {R : kg_R} {n o : Nat} (h : kg_O0 R n o) : R o 5 = some (o + 2) := h.2.2.2.2.2.2.1
theorem kg_o0s6 {R : kg_R} {n o : Nat} (h : kg_O0 R n o) : kg_SH (o + 3) = .inr (0, 7) := h.2.2.2.2.1
theorem kg_o0m6 {R : kg_R} {n o : Nat} (h : kg_O0 R n o) : o + 3 < n := by have := h.2.1; omega
theorem kg_o0r6 {R : kg_R} {n o : Nat} (h : kg_O0 R n o) : R o 6 = some (o + 3) := h.2.2.2.2.2.2.2
def kg_O1 (R : kg_R) (n o : Nat) : Prop := kg_SH o = .inl 1 ∧ o + 2 ≤ n ∧ kg_SH (o + 1) = .inr (0, 128) ∧ R o 0 = some (o + 1)
theorem kg_o1a {R : kg_R} {n o : Nat} (h : kg_O1 R n o) : kg_SH o = .inl 1 := h.1
theorem kg_o1n {R : kg_R} {n o : Nat} (h : kg_O1 R n o) : o < n := by have := h.2.1; omega
theorem kg_o1s0 {R : kg_R} {n o : Nat} (h : kg_O1 R n o) : kg_SH (o + 1) = .inr (0, 128) := h.2.2.1
theorem kg_o1m0 {R : kg_R} {n o : Nat} (h : kg_O1 R n o) : o + 1 < n := by have := h.2.1; omega
theorem kg_o1r0 {R : kg_R} {n o : Nat} (h : kg_O1 R n o) : R o 0 = some (o + 1) := h.2.2.2
def kg_O2 (R : kg_R) (n o : Nat) : Prop := kg_SH o = .inl 2 ∧ o + 3 ≤ n ∧ kg_SH (o + 1) = .inr (0, 15) ∧ kg_SH (o + 2) = .inr (0, 15) ∧ R o 4 = some (o + 1) ∧ R o 5 = some (o + 2)
theorem kg_o2a {R : kg_R} {n o : Nat} (h : kg_O2 R n o) : kg_SH o = .inl 2 := h.1
theorem kg_o2n {R : kg_R} {n o : Nat} (h : kg_O2 R n o) : o < n := by have := h.2.1; omega
theorem kg_o2s4 {R : kg_R} {n o : Nat} (h : kg_O2 R n o) : kg_SH (o + 1) = .inr (0, 15) := h.2.2.1
theorem kg_o2m4 {R : kg_R} {n o : Nat} (h : kg_O2 R n o) : o + 1 < n := by have := h.2.1; omega
theorem kg_o2r4 {R : kg_R} {n o : Nat} (h : kg_O2 R n o) : R o 4 = some (o + 1) := h.2.2.2.2.1
theorem kg_o2s5 {R : kg_R} {n o : Nat} (h : kg_O2 R n o) : kg_SH (o + 2) = .inr (0, 15) := h.2.2.2.1
theorem kg_o2m5 {R : kg_R} {n o : Nat} (h : kg_O2 R n o) : o + 2 < n := by have := h.2.1; omega
theorem kg_o2r5 {R : kg_R} {n o : Nat} (h : kg_O2 R n o) : R o 5 = some (o + 2) := h.2.2.2.2.2
def kg_O3 (R : kg_R) (n o : Nat) : Prop := kg_SH o = .inl 3 ∧ o + 3 ≤ n ∧ kg_SH (o + 1) = .inr (0, 7) ∧ kg_SH (o + 2) = .inr (0, 7) ∧ R o 0 = some (o + 1) ∧ R o 1 = some (o + 2)
theorem kg_o3a {R : kg_R} {n o : Nat} (h : kg_O3 R n o) : kg_SH o = .inl 3 := h.1
theorem kg_o3n {R : kg_R} {n o : Nat} (h : kg_O3 R n o) : o < n := by have := h.2.1; omega
theorem kg_o3s0 {R : kg_R} {n o : Nat} (h : kg_O3 R n o) : kg_SH (o + 1) = .inr (0, 7) := h.2.2.1
theorem kg_o3m0 {R : kg_R} {n o : Nat} (h : kg_O3 R n o) : o + 1 < n := by have := h.2.1; omega
theorem kg_o3r0 {R : kg_R} {n o : Nat} (h : kg_O3 R n o) : R o 0 = some (o + 1) := h.2.2.2.2.1
theorem kg_o3s1 {R : kg_R} {n o : Nat} (h : kg_O3 R n o) : kg_SH (o + 2) = .inr (0, 7) := h.2.2.2.1
theorem kg_o3m1 {R : kg_R} {n o : Nat} (h : kg_O3 R n o) : o + 2 < n := by have := h.2.1; omega
theorem kg_o3r1 {R : kg_R} {n o : Nat} (h : kg_O3 R n o) : R o 1 = some (o + 2) := h.2.2.2.2.2
def kg_O5 (R : kg_R) (n o : Nat) : Prop := kg_SH o = .inl 5 ∧ o + 4 ≤ n ∧ kg_SH (o + 1) = .inr (0, 7) ∧ kg_SH (o + 2) = .inr (0, 5) ∧ kg_SH (o + 3) = .inr (0, 20) ∧ R o 6 = some (o + 1) ∧ R o 7 = some (o + 2) ∧ R o 8 = some (o + 3)
theorem kg_o5a {R : kg_R} {n o : Nat} (h : kg_O5 R n o) : kg_SH o = .inl 5 := h.1
theorem kg_o5n {R : kg_R} {n o : Nat} (h : kg_O5 R n o) : o < n := by have := h.2.1; omega
theorem kg_o5s6 {R : kg_R} {n o : Nat} (h : kg_O5 R n o) : kg_SH (o + 1) = .inr (0, 7) := h.2.2.1
theorem kg_o5m6 {R : kg_R} {n o : Nat} (h : kg_O5 R n o) : o + 1 < n := by have := h.2.1; omega
theorem kg_o5r6 {R : kg_R} {n o : Nat} (h : kg_O5 R n o) : R o 6 = some (o + 1) := h.2.2.2.2.2.1
theorem kg_o5s7 {R : kg_R} {n o : Nat} (h : kg_O5 R n o) : kg_SH (o + 2) = .inr (0, 5) := h.2.2.2.1
theorem kg_o5m7 {R : kg_R} {n o : Nat} (h : kg_O5 R n o) : o + 2 < n := by have := h.2.1; omega
theorem kg_o5r7 {R : kg_R} {n o : Nat} (h : kg_O5 R n o) : R o 7 = some (o + 2) := h.2.2.2.2.2.2.1
theorem kg_o5s8 {R : kg_R} {n o : Nat} (h : kg_O5 R n o) : kg_SH (o + 3) = .inr (0, 20) := h.2.2.2.2.1
theorem kg_o5m8 {R : kg_R} {n o : Nat} (h : kg_O5 R n o) : o + 3 < n := by have := h.2.1; omega
theorem kg_o5r8 {R : kg_R} {n o : Nat} (h : kg_O5 R n o) : R o 8 = some (o + 3) := h.2.2.2.2.2.2.2
def kg_O6 (R : kg_R) (n o : Nat) : Prop := kg_SH o = .inl 6 ∧ o + 2 ≤ n ∧ kg_SH (o + 1) = .inr (0, 240) ∧ R o 0 = some (o + 1)
theorem kg_o6a {R : kg_R} {n o : Nat} (h : kg_O6 R n o) : kg_SH o = .inl 6 := h.1
theorem kg_o6n {R : kg_R} {n o : Nat} (h : kg_O6 R n o) : o < n := by have := h.2.1; omega
theorem kg_o6s0 {R : kg_R} {n o : Nat} (h : kg_O6 R n o) : kg_SH (o + 1) = .inr (0, 240) := h.2.2.1
theorem kg_o6m0 {R : kg_R} {n o : Nat} (h : kg_O6 R n o) : o + 1 < n := by have := h.2.1; omega
theorem kg_o6r0 {R : kg_R} {n o : Nat} (h : kg_O6 R n o) : R o 0 = some (o + 1) := h.2.2.2
def kg_O8 (R : kg_R) (n o : Nat) : Prop := kg_SH o = .inl 8 ∧ o + 25 ≤ n ∧ kg_SH (o + 1) = .inr (0, 5) ∧ kg_SH (o + 2) = .inr (0, 49) ∧ kg_SH (o + 3) = .inr (0, 55) ∧ kg_SH (o + 4) = .inr (0, 21) ∧ kg_SH (o + 5) = .inr (0, 21) ∧ kg_SH (o + 6) = .inr (0, 240) ∧ kg_SH (o + 7) = .inr (0, 5) ∧ kg_SH (o + 8) = .inr (0, 7) ∧ kg_SH (o + 9) = .inr (0, 7) ∧ kg_SH (o + 10) = .inr (0, 49) ∧ kg_SH (o + 11) = .inr (0, 1100) ∧ kg_SH (o + 12) = .inr (0, 3) ∧ kg_SH (o + 13) = .inr (0, 7) ∧ kg_SH (o + 14) = .inr (0, 7) ∧ kg_SH (o + 15) = .inr (0, 10648) ∧ kg_SH (o + 16) = .inr (0, 10648) ∧ kg_SH (o + 17) = .inr (1, 128) ∧ kg_SH (o + 18) = .inr (1, 128) ∧ kg_SH (o + 19) = .inr (0, 6) ∧ kg_SH (o + 20) = .inr (1, 6) ∧ kg_SH (o + 21) = .inr (0, 15) ∧ kg_SH (o + 22) = .inr (0, 15) ∧ kg_SH (o + 23) = .inr (0, 112) ∧ kg_SH (o + 24) = .inr (1, 2) ∧ R o 1 = some (o + 1) ∧ R o 3 = some (o + 2) ∧ R o 4 = some (o + 3) ∧ R o 6 = some (o + 4) ∧ R o 7 = some (o + 5) ∧ R o 8 = some (o + 6) ∧ R o 15 = some (o + 7) ∧ R o 17 = some (o + 8) ∧ R o 18 = some (o + 9) ∧ R o 19 = some (o + 10) ∧ R o 21 = some (o + 11) ∧ R o 22 = some (o + 12) ∧ R o 23 = some (o + 13) ∧ R o 24 = some (o + 14) ∧ R o 27 = some (o + 15) ∧ R o 28 = some (o + 16) ∧ R o 30 = some (o + 17) ∧ R o 31 = some (o + 18) ∧ R o 33 = some (o + 19) ∧ R o 34 = some (o + 20) ∧ R o 36 = some (o + 21) ∧ R o 37 = some (o + 22) ∧ R o 38 = some (o + 23) ∧ R o 39 = some (o + 24)
theorem kg_o8a {R : kg_R} {n o : Nat} (h : kg_O8 R n o) : kg_SH o = .inl 8 := h.1
theorem kg_o8n {R : kg_R} {n o : Nat} (h : kg_O8 R n o) : o < n := by have := h.2.1; omega
theorem kg_o8s1 {R : kg_R} {n o : Nat} (h : kg_O8 R n o) : kg_SH (o + 1) = .inr (0, 5) := h.2.2.1
theorem kg_o8m1 {R : kg_R} {n o : Nat} (h : kg_O8 R n o) : o + 1 < n := by have := h.2.1; omega
theorem kg_o8r1 {R : kg_R} {n o : Nat} (h : kg_O8 R n o) : R o 1 = some (o + 1) := h.2.2.2.2.2.2.2.2.2.2.2.2.2.2.2.2.2.2.2.2.2.2.2.2.2.2.1
theorem kg_o8s3 {R : kg_R} {n o : Nat} (h : kg_O8 R n o) : kg_SH (o + 2) = .inr (0, 49) := h.2.2.2.1
theorem kg_o8m3 {R : kg_R} {n o : Nat} (h : kg_O8 R n o) : o + 2 < n := by have := h.2.1; omega
theorem kg_o8r3 {R : kg_R} {n o : Nat} (h : kg_O8 R n o) : R o 3 = some (o + 2) := h.2.2.2.2.2.2.2.2.2.2.2.2.2.2.2.2.2.2.2.2.2.2.2.2.2.2.2.1
theorem kg_o8s4 {R : kg_R} {n o : Nat} (h : kg_O8 R n o) : kg_SH (o + 3) = .inr (0, 55) := h.2.2.2.2.1
theorem kg_o8m4 {R : kg_R} {n o : Nat} (h : kg_O8 R n o) : o + 3 < n := by have := h.2.1; omega
theorem kg_o8r4 {R : kg_R} {n o : Nat} (h : kg_O8 R n o) : R o 4 = some (o + 3) := h.2.2.2.2.2.2.2.2.2.2.2.2.2.2.2.2.2.2.2.2.2.2.2.2.2.2.2.2.1
theorem kg_o8s6 {R : kg_R} {n o : Nat} (h : kg_O8 R n o) : kg_SH (o + 4) = .inr (0, 21) := h.2.2.2.2.2.1
theorem kg_o8m6 {R : kg_R} {n o : Nat} (h : kg_O8 R n o) : o + 4 < n := by have := h.2.1; omega
theorem kg_o8r6 {R : kg_R} {n o : Nat} (h : kg_O8 R n o) : R o 6 = some (o + 4) := h.2.2.2.2.2.2.2.2.2.2.2.2.2.2.2.2.2.2.2.2.2.2.2.2.2.2.2.2.2.1
theorem kg_o8s7 {R : kg_R} {n o : Nat} (h : kg_O8 R n o) : kg_SH (o + 5) = .inr (0, 21) := h.2.2.2.2.2.2.1
theorem kg_o8m7 {R : kg_R} {n o : Nat} (h : kg_O8 R n o) : o + 5 < n := by have := h.2.1; omega
theorem kg_o8r7 {R : kg_R} {n o : Nat} (h : kg_O8 R n o) : R o 7 = some (o + 5) := h.2.2.2.2.2.2.2.2.2.2.2.2.2.2.2.2.2.2.2.2.2.2.2.2.2.2.2.2.2.2.1
theorem kg_o8s8 {R : kg_R} {n o : Nat} (h : kg_O8 R n o) : kg_SH (o + 6) = .inr (0, 240) := h.2.2.2.2.2.2.2.1
theorem kg_o8m8 {R : kg_R} {n o : Nat} (h : kg_O8 R n o) : o + 6 < n := by have := h.2.1; omega
theorem kg_o8r8 {R : kg_R} {n o : Nat} (h : kg_O8 R n o) : R o 8 = some (o + 6) := h.2.2.2.2.2.2.2.2.2.2.2.2.2.2.2.2.2.2.2.2.2.2.2.2.2.2.2.2.2.2.2.1
theorem kg_o8s15 {R : kg_R} {n o : Nat} (h : kg_O8 R n o) : kg_SH (o + 7) = .inr (0, 5) := h.2.2.2.2.2.2.2.2.1
theorem kg_o8m15 {R : kg_R} {n o : Nat} (h : kg_O8 R n o) : o + 7 < n := by have := h.2.1; omega
theorem kg_o8r15 {R : kg_R} {n o : Nat} (h : kg_O8 R n o) : R o 15 = some (o + 7) := h.2.2.2.2.2.2.2.2.2.2.2.2.2.2.2.2.2.2.2.2.2.2.2.2.2.2.2.2.2.2.2.2.1
theorem kg_o8s17 {R : kg_R} {n o : Nat} (h : kg_O8 R n o) : kg_SH (o + 8) = .inr (0, 7) := h.2.2.2.2.2.2.2.2.2.1
theorem kg_o8m17 {R : kg_R} {n o : Nat} (h : kg_O8 R n o) : o + 8 < n := by have := h.2.1; omega
theorem kg_o8r17 {R : kg_R} {n o : Nat} (h : kg_O8 R n o) : R o 17 = some (o + 8) := h.2.2.2.2.2.2.2.2.2.2.2.2.2.2.2.2.2.2.2.2.2.2.2.2.2.2.2.2.2.2.2.2.2.1
theorem kg_o8s18 {R : kg_R} {n o : Nat} (h : kg_O8 R n o) : kg_SH (o + 9) = .inr (0, 7) := h.2.2.2.2.2.2.2.2.2.2.1
theorem kg_o8m18 {R : kg_R} {n o : Nat} (h : kg_O8 R n o) : o + 9 < n := by have := h.2.1; omega
theorem kg_o8r18 {R : kg_R} {n o : Nat} (h : kg_O8 R n o) : R o 18 = some (o + 9) := h.2.2.2.2.2.2.2.2.2.2.2.2.2.2.2.2.2.2.2.2.2.2.2.2.2.2.2.2.2.2.2.2.2.2.1
theorem kg_o8s19 {R : kg_R} {n o : Nat} (h : kg_O8 R n o) : kg_SH (o + 10) = .inr (0, 49) := h.2.2.2.2.2.2.2.2.2.2.2.1
theorem kg_o8m19 {R : kg_R} {n o : Nat} (h : kg_O8 R n o) : o + 10 < n := by have := h.2.1; omega
theorem kg_o8r19 {R : kg_R} {n o : Nat} (h : kg_O8 R n o) : R o 19 = some (o + 10) := h.2.2.2.2.2.2.2.2.2.2.2.2.2.2.2.2.2.2.2.2.2.2.2.2.2.2.2.2.2.2.2.2.2.2.2.1
theorem kg_o8s21 {R : kg_R} {n o : Nat} (h : kg_O8 R n o) : kg_SH (o + 11) = .inr (0, 1100) := h.2.2.2.2.2.2.2.2.2.2.2.2.1
theorem kg_o8m21 {R : kg_R} {n o : Nat} (h : kg_O8 R n o) : o + 11 < n := by have := h.2.1; omega
theorem kg_o8r21 {R : kg_R} {n o : Nat} (h : kg_O8 R n o) : R o 21 = some (o + 11) := h.2.2.2.2.2.2.2.2.2.2.2.2.2.2.2.2.2.2.2.2.2.2.2.2.2.2.2.2.2.2.2.2.2.2.2.2.1
theorem kg_o8s22 {R : kg_R} {n o : Nat} (h : kg_O8 R n o) : kg_SH (o + 12) = .inr (0, 3) := h.2.2.2.2.2.2.2.2.2.2.2.2.2.1
theorem kg_o8m22 {R : kg_R} {n o : Nat} (h : kg_O8 R n o) : o + 12 < n := by have := h.2.1; omega
theorem kg_o8r22 {R : kg_R} {n o : Nat} (h : kg_O8 R n o) : R o 22 = some (o + 12) := h.2.2.2.2.2.2.2.2.2.2.2.2.2.2.2.2.2.2.2.2.2.2.2.2.2.2.2.2.2.2.2.2.2.2.2.2.2.1
theorem kg_o8s23 {R : kg_R} {n o : Nat} (h : kg_O8 R n o) : kg_SH (o + 13) = .inr (0, 7) := h.2.2.2.2.2.2.2.2.2.2.2.2.2.2.1
theorem kg_o8m23 {R : kg_R} {n o : Nat} (h : kg_O8 R n o) : o + 13 < n := by have := h.2.1; omega
theorem kg_o8r23 {R : kg_R} {n o : Nat} (h : kg_O8 R n o) : R o 23 = some (o + 13) := h.2.2.2.2.2.2.2.2.2.2.2.2.2.2.2.2.2.2.2.2.2.2.2.2.2.2.2.2.2.2.2.2.2.2.2.2.2.2.1
theorem kg_o8s24 {R : kg_R} {n o : Nat} (h : kg_O8 R n o) : kg_SH (o + 14) = .inr (0, 7) := h.2.2.2.2.2.2.2.2.2.2.2.2.2.2.2.1
theorem kg_o8m24 {R : kg_R} {n o : Nat} (h : kg_O8 R n o) : o + 14 < n := by have := h.2.1; omega
theorem kg_o8r24 {R : kg_R} {n o : Nat} (h : kg_O8 R n o) : R o 24 = some (o + 14) := h.2.2.2.2.2.2.2.2.2.2.2.2.2.2.2.2.2.2.2.2.2.2.2.2.2.2.2.2.2.2.2.2.2.2.2.2.2.2.2.1
theorem kg_o8s27 {R : kg_R} {n o : Nat} (h : kg_O8 R n o) : kg_SH (o + 15) = .inr (0, 10648) := h.2.2.2.2.2.2.2.2.2.2.2.2.2.2.2.2.1
theorem kg_o8m27 {R : kg_R} {n o : Nat} (h : kg_O8 R n o) : o + 15 < n := by have := h.2.1; omega
theorem kg_o8r27 {R : kg_R} {n o : Nat} (h : kg_O8 R n o) : R o 27 = some (o + 15) := h.2.2.2.2.2.2.2.2.2.2.2.2.2.2.2.2.2.2.2.2.2.2.2.2.2.2.2.2.2.2.2.2.2.2.2.2.2.2.2.2.1
theorem kg_o8s28 {R : kg_R} {n o : Nat} (h : kg_O8 R n o) : kg_SH (o + 16) = .inr (0, 10648) := h.2.2.2.2.2.2.2.2.2.2.2.2.2.2.2.2.2.1
theorem kg_o8m28 {R : kg_R} {n o : Nat} (h : kg_O8 R n o) : o + 16 < n := by have := h.2.1; omega
theorem kg_o8r28 {R : kg_R} {n o : Nat} (h : kg_O8 R n o) : R o 28 = some (o + 16) := h.2.2.2.2.2.2.2.2.2.2.2.2.2.2.2.2.2.2.2.2.2.2.2.2.2.2.2.2.2.2.2.2.2.2.2.2.2.2.2.2.2.1
theorem kg_o8s30 {R : kg_R} {n o : Nat} (h : kg_O8 R n o) : kg_SH (o + 17) = .inr (1, 128) := h.2.2.2.2.2.2.2.2.2.2.2.2.2.2.2.2.2.2.1
theorem kg_o8m30 {R : kg_R} {n o : Nat} (h : kg_O8 R n o) : o + 17 < n := by have := h.2.1; omega
theorem kg_o8r30 {R : kg_R} {n o : Nat} (h : kg_O8 R n o) : R o 30 = some (o + 17) := h.2.2.2.2.2.2.2.2.2.2.2.2.2.2.2.2.2.2.2.2.2.2.2.2.2.2.2.2.2.2.2.2.2.2.2.2.2.2.2.2.2.2.1
theorem kg_o8s31 {R : kg_R} {n o : Nat} (h : kg_O8 R n o) : kg_SH (o + 18) = .inr (1, 128) := h.2.2.2.2.2.2.2.2.2.2.2.2.2.2.2.2.2.2.2.1
theorem kg_o8m31 {R : kg_R} {n o : Nat} (h : kg_O8 R n o) : o + 18 < n := by have := h.2.1; omega
theorem kg_o8r31 {R : kg_R} {n o : Nat} (h : kg_O8 R n o) : R o 31 = some (o + 18) := h.2.2.2.2.2.2.2.2.2.2.2.2.2.2.2.2.2.2.2.2.2.2.2.2.2.2.2.2.2.2.2.2.2.2.2.2.2.2.2.2.2.2.2.1
theorem kg_o8s33 {R : kg_R} {n o : Nat} (h : kg_O8 R n o) : kg_SH (o + 19) = .inr (0, 6) := h.2.2.2.2.2.2.2.2.2.2.2.2.2.2.2.2.2.2.2.2.1
theorem kg_o8m33 {R : kg_R} {n o : Nat} (h : kg_O8 R n o) : o + 19 < n := by have := h.2.1; omega
theorem kg_o8r33 {R : kg_R} {n o : Nat} (h : kg_O8 R n o) : R o 33 = some (o + 19) := h.2.2.2.2.2.2.2.2.2.2.2.2.2.2.2.2.2.2.2.2.2.2.2.2.2.2.2.2.2.2.2.2.2.2.2.2.2.2.2.2.2.2.2.2.1
theorem kg_o8s34 {R : kg_R} {n o : Nat} (h : kg_O8 R n o) : kg_SH (o + 20) = .inr (1, 6) := h.2.2.2.2.2.2.2.2.2.2.2.2.2.2.2.2.2.2.2.2.2.1
theorem kg_o8m34 {R : kg_R} {n o : Nat} (h : kg_O8 R n o) : o + 20 < n := by have := h.2.1; omega
theorem kg_o8r34 {R : kg_R} {n o : Nat} (h : kg_O8 R n o) : R o 34 = some (o + 20) := h.2.2.2.2.2.2.2.2.2.2.2.2.2.2.2.2.2.2.2.2.2.2.2.2.2.2.2.2.2.2.2.2.2.2.2.2.2.2.2.2.2.2.2.2.2.1
theorem kg_o8s36 {R : kg_R} {n o : Nat} (h : kg_O8 R n o) : kg_SH (o + 21) = .inr (0, 15) := h.2.2.2.2.2.2.2.2.2.2.2.2.2.2.2.2.2.2.2.2.2.2.1
theorem kg_o8m36 {R : kg_R} {n o : Nat} (h : kg_O8 R n o) : o + 21 < n := by have := h.2.1; omega
theorem kg_o8r36 {R : kg_R} {n o : Nat} (h : kg_O8 R n o) : R o 36 = some (o + 21) := h.2.2.2.2.2.2.2.2.2.2.2.2.2.2.2.2.2.2.2.2.2.2.2.2.2.2.2.2.2.2.2.2.2.2.2.2.2.2.2.2.2.2.2.2.2.2.1
theorem kg_o8s37 {R : kg_R} {n o : Nat} (h : kg_O8 R n o) : kg_SH (o + 22) = .inr (0, 15) := h.2.2.2.2.2.2.2.2.2.2.2.2.2.2.2.2.2.2.2.2.2.2.2.1
theorem kg_o8m37 {R : kg_R} {n o : Nat} (h : kg_O8 R n o) : o + 22 < n := by have := h.2.1; omega
theorem kg_o8r37 {R : kg_R} {n o : Nat} (h : kg_O8 R n o) : R o 37 = some (o + 22) := h.2.2.2.2.2.2.2.2.2.2.2.2.2.2.2.2.2.2.2.2.2.2.2.2.2.2.2.2.2.2.2.2.2.2.2.2.2.2.2.2.2.2.2.2.2.2.2.1
theorem kg_o8s38 {R : kg_R} {n o : Nat} (h : kg_O8 R n o) : kg_SH (o + 23) = .inr (0, 112) := h.2.2.2.2.2.2.2.2.2.2.2.2.2.2.2.2.2.2.2.2.2.2.2.2.1
theorem kg_o8m38 {R : kg_R} {n o : Nat} (h : kg_O8 R n o) : o + 23 < n := by have := h.2.1; omega
theorem kg_o8r38 {R : kg_R} {n o : Nat} (h : kg_O8 R n o) : R o 38 = some (o + 23) := h.2.2.2.2.2.2.2.2.2.2.2.2.2.2.2.2.2.2.2.2.2.2.2.2.2.2.2.2.2.2.2.2.2.2.2.2.2.2.2.2.2.2.2.2.2.2.2.2.1
theorem kg_o8s39 {R : kg_R} {n o : Nat} (h : kg_O8 R n o) : kg_SH (o + 24) = .inr (1, 2) := h.2.2.2.2.2.2.2.2.2.2.2.2.2.2.2.2.2.2.2.2.2.2.2.2.2.1
theorem kg_o8m39 {R : kg_R} {n o : Nat} (h : kg_O8 R n o) : o + 24 < n := by have := h.2.1; omega
theorem kg_o8r39 {R : kg_R} {n o : Nat} (h : kg_O8 R n o) : R o 39 = some (o + 24) := h.2.2.2.2.2.2.2.2.2.2.2.2.2.2.2.2.2.2.2.2.2.2.2.2.2.2.2.2.2.2.2.2.2.2.2.2.2.2.2.2.2.2.2.2.2.2.2.2.2
def kg_O4 (R : kg_R) (n o : Nat) : Prop := kg_SH o = .inl 4 ∧ o + 2 ≤ n ∧ kg_SH (o + 1) = .inr (2, 20) ∧ R o 0 = some (o + 1) ∧ (∀ i : Nat, i < 20 → R (o + 1) i = some (o + 2 + 4 * i) ∧ kg_O5 R n (o + 2 + 4 * i))
theorem kg_o4a {R : kg_R} {n o : Nat} (h : kg_O4 R n o) : kg_SH o = .inl 4 := h.1
theorem kg_o4n {R : kg_R} {n o : Nat} (h : kg_O4 R n o) : o < n := by have := h.2.1; omega
theorem kg_o4s0 {R : kg_R} {n o : Nat} (h : kg_O4 R n o) : kg_SH (o + 1) = .inr (2, 20) := h.2.2.1
theorem kg_o4m0 {R : kg_R} {n o : Nat} (h : kg_O4 R n o) : o + 1 < n := by have := h.2.1; omega
theorem kg_o4r0 {R : kg_R} {n o : Nat} (h : kg_O4 R n o) : R o 0 = some (o + 1) := h.2.2.2.1
def kg_O7 (R : kg_R) (n L S : Nat) : Prop := 117 ≤ n ∧ R 0 0 = some 1 ∧ R 0 1 = some 3 ∧ R 0 2 = some 7 ∧ R 0 3 = some 89 ∧ R 0 4 = some 92 ∧ R 0 5 = some 95 ∧ R 0 10 = some L ∧ R 0 11 = some S ∧ R 0 6 = some 97 ∧ R 0 7 = some 106 ∧ R 0 8 = some 107 ∧ R 0 9 = some 108 ∧ kg_O6 R n 1 ∧ kg_O5 R n 3 ∧ kg_O4 R n 7 ∧ kg_O2 R n 89 ∧ kg_O3 R n 92 ∧ kg_O1 R n 95 ∧ kg_O0 R n L ∧ kg_O0 R n S ∧ (∀ i : Nat, i < 2 → R 97 i = some (98 + 4 * i) ∧ kg_O5 R n (98 + 4 * i)) ∧ L ≠ S
theorem kg_o7r0 {R : kg_R} {n L S : Nat} (h : kg_O7 R n L S) : R 0 0 = some 1 := h.2.1
theorem kg_o7r1 {R : kg_R} {n L S : Nat} (h : kg_O7 R n L S) : R 0 1 = some 3 := h.2.2.1
theorem kg_o7r2 {R : kg_R} {n L S : Nat} (h : kg_O7 R n L S) : R 0 2 = some 7 := h.2.2.2.1
theorem kg_o7r3 {R : kg_R} {n L S : Nat} (h : kg_O7 R n L S) : R 0 3 = some 89 := h.2.2.2.2.1
theorem kg_o7r4 {R : kg_R} {n L S : Nat} (h : kg_O7 R n L S) : R 0 4 = some 92 := h.2.2.2.2.2.1
theorem kg_o7r5 {R : kg_R} {n L S : Nat} (h : kg_O7 R n L S) : R 0 5 = some 95 := h.2.2.2.2.2.2.1
theorem kg_o7r10 {R : kg_R} {n L S : Nat} (h : kg_O7 R n L S) : R 0 10 = some L := h.2.2.2.2.2.2.2.1
theorem kg_o7r11 {R : kg_R} {n L S : Nat} (h : kg_O7 R n L S) : R 0 11 = some S := h.2.2.2.2.2.2.2.2.1
theorem kg_o7r6 {R : kg_R} {n L S : Nat} (h : kg_O7 R n L S) : R 0 6 = some 97 := h.2.2.2.2.2.2.2.2.2.1
theorem kg_o7r7 {R : kg_R} {n L S : Nat} (h : kg_O7 R n L S) : R 0 7 = some 106 := h.2.2.2.2.2.2.2.2.2.2.1
theorem kg_o7r8 {R : kg_R} {n L S : Nat} (h : kg_O7 R n L S) : R 0 8 = some 107 := h.2.2.2.2.2.2.2.2.2.2.2.1
theorem kg_o7r9 {R : kg_R} {n L S : Nat} (h : kg_O7 R n L S) : R 0 9 = some 108 := h.2.2.2.2.2.2.2.2.2.2.2.2.1
theorem kg_o7_text {R : kg_R} {n L S : Nat} (h : kg_O7 R n L S) : kg_O6 R n 1 := h.2.2.2.2.2.2.2.2.2.2.2.2.2.1
theorem kg_o7_state {R : kg_R} {n L S : Nat} (h : kg_O7 R n L S) : kg_O5 R n 3 := h.2.2.2.2.2.2.2.2.2.2.2.2.2.2.1
theorem kg_o7_past {R : kg_R} {n L S : Nat} (h : kg_O7 R n L S) : kg_O4 R n 7 := h.2.2.2.2.2.2.2.2.2.2.2.2.2.2.2.1
theorem kg_o7_notes {R : kg_R} {n L S : Nat} (h : kg_O7 R n L S) : kg_O2 R n 89 := h.2.2.2.2.2.2.2.2.2.2.2.2.2.2.2.2.1
theorem kg_o7_pairing {R : kg_R} {n L S : Nat} (h : kg_O7 R n L S) : kg_O3 R n 92 := h.2.2.2.2.2.2.2.2.2.2.2.2.2.2.2.2.2.1
theorem kg_o7_crossing {R : kg_R} {n L S : Nat} (h : kg_O7 R n L S) : kg_O1 R n 95 := h.2.2.2.2.2.2.2.2.2.2.2.2.2.2.2.2.2.2.1
theorem kg_o7_land {R : kg_R} {n L S : Nat} (h : kg_O7 R n L S) : kg_O0 R n L := h.2.2.2.2.2.2.2.2.2.2.2.2.2.2.2.2.2.2.2.1
theorem kg_o7_spare {R : kg_R} {n L S : Nat} (h : kg_O7 R n L S) : kg_O0 R n S := h.2.2.2.2.2.2.2.2.2.2.2.2.2.2.2.2.2.2.2.2.1
theorem kg_o7i {R : kg_R} {n L S : Nat} (h : kg_O7 R n L S) : ∀ i : Nat, i < 2 → R 97 i = some (98 + 4 * i) ∧ kg_O5 R n (98 + 4 * i) := h.2.2.2.2.2.2.2.2.2.2.2.2.2.2.2.2.2.2.2.2.2.1
theorem kg_o7a {R : kg_R} {n L S : Nat} (h : kg_O7 R n L S) : kg_SH 0 = .inl 7 := rfl
theorem kg_o7n {R : kg_R} {n L S : Nat} (h : kg_O7 R n L S) : 0 < n := by have := h.1; omega
theorem kg_o7s6 {R : kg_R} {n L S : Nat} (h : kg_O7 R n L S) : kg_SH 97 = .inr (2, 2) := rfl
theorem kg_o7m6 {R : kg_R} {n L S : Nat} (h : kg_O7 R n L S) : 97 < n := by have := h.1; omega
theorem kg_o7s7 {R : kg_R} {n L S : Nat} (h : kg_O7 R n L S) : kg_SH 106 = .inr (1, 2) := rfl
theorem kg_o7m7 {R : kg_R} {n L S : Nat} (h : kg_O7 R n L S) : 106 < n := by have := h.1; omega
theorem kg_o7s8 {R : kg_R} {n L S : Nat} (h : kg_O7 R n L S) : kg_SH 107 = .inr (0, 2) := rfl
theorem kg_o7m8 {R : kg_R} {n L S : Nat} (h : kg_O7 R n L S) : 107 < n := by have := h.1; omega
theorem kg_o7s9 {R : kg_R} {n L S : Nat} (h : kg_O7 R n L S) : kg_SH 108 = .inr (0, 7) := rfl
theorem kg_o7m9 {R : kg_R} {n L S : Nat} (h : kg_O7 R n L S) : 108 < n := by have := h.1; omega
theorem kg_arrP {R : kg_R} {n o : Nat} {i : Int32} (h : kg_O4 R n o) (hi : vp_in i 20) : R (o + 1) i.toNatClampNeg = some (o + 1 + 1 + 4 * i.toNatClampNeg) ∧ kg_O5 R n (o + 1 + 1 + 4 * i.toNatClampNeg) := h.2.2.2.2 _ (Nat.not_le.mp fun q => hi (Or.inr q))
theorem kg_arrI {R : kg_R} {n L S : Nat} {i : Int32} (h : kg_O7 R n L S) (hi : vp_in i 2) : R 97 i.toNatClampNeg = some (98 + 4 * i.toNatClampNeg) ∧ kg_O5 R n (98 + 4 * i.toNatClampNeg) := kg_o7i h _ (Nat.not_le.mp fun q => hi (Or.inr q))
theorem kg_nz {v : Int32} (h : v = 0 ∨ v = 1) : vp_nar .boolean v = v := by rcases h with rfl | rfl <;> rfl
theorem kg_nz2 {v : Int32} (h : v = 0 ∨ v = 1) : narrow .boolean (.int v) = .int v := by rcases h with rfl | rfl <;> rfl
def kg_I (R : kg_R) (n : Nat) (K : Int32 → kg_M → Prop) : kg_Post := fun r M' R' n' => R' = R ∧ n' = n ∧ ∃ x : Int32, r = some x ∧ K x M'
def kg_Z (R : kg_R) (n : Nat) (K : Int32 → kg_M → Prop) : kg_Post := fun r M' R' n' => R' = R ∧ n' = n ∧ ∃ x : Int32, r = some x ∧ (x = 0 ∨ x = 1) ∧ K x M'
def kg_V (R : kg_R) (n : Nat) (K : kg_M → Prop) : kg_Post := fun r M' R' n' => R' = R ∧ n' = n ∧ r = none ∧ K M'
theorem kg_rtI {y : kg_q} {R : kg_R} {n : Nat} {K : Int32 → kg_M → Prop} (h : y.2.2.2 = some .int) : kg_rt y (kg_I R n K) := ⟨fun x M R n h2 => ⟨_, h, rfl⟩, fun M R n h2 => by obtain ⟨-, -, x, h3, -⟩ := h2; cases h3⟩
theorem kg_rtZ {y : kg_q} {R : kg_R} {n : Nat} {K : Int32 → kg_M → Prop} (h : y.2.2.2 = some .boolean) : kg_rt y (kg_Z R n K) := ⟨fun x M R n h2 => ⟨_, h, by obtain ⟨-, -, x, h3, h4, -⟩ := h2; cases h3; exact kg_nz2 h4⟩, fun M R n h2 => by obtain ⟨-, -, x, h3, -⟩ := h2; cases h3⟩
theorem kg_rtV {y : kg_q} {R : kg_R} {n : Nat} {K : kg_M → Prop} (h : y.2.2.2 = none) : kg_rt y (kg_V R n K) := ⟨fun x M R n h2 => (by obtain ⟨-, -, h3, -⟩ := h2; cases h3), fun M R n h2 => h⟩
section KN
variable {G : kg_G} {E : State → Array Value → Prop} {q : kg_q} {d pc : Nat} {lv : List (Nat × Value)} {st : List Value} {M : kg_M} {R : kg_R} {n kc ks : Nat} {Post : kg_Post}
theorem kr_sub (is : List Nat) (lv' : List (Nat × Value)) (hl2 : lv_pick lv is = lv') (k : kg_Run G E q d pc lv' st M R n kc ks Post) : kg_Run G E q d pc lv st M R n kc ks Post := by
  intro p e Ro s m args below meth c Q mc ms C hE hm1 hm2 hR H locs cells slots ls hH hS hc hs hl
  exact k p e Ro s m args below meth c Q mc ms C hE hm1 hm2 hR H locs cells slots ls hH hS hc hs (lv_sub hl is hl2)
theorem kn_putI {ci N i : Nat} {Cn : String} {T : u_T} {ty : Nat → FieldType} {a : Nat} {v : Int32} (j : Nat) (hC : kg_CK ci Cn T N ty) (hlk : Cond.fieldLink q.1.cls i (T j).1 (T j).2.1 (T j).2.2.1 ∈ kg_T) (hkd : (kg_kd.getD ci [])[j]? = some false) (hfin : (T j).2.2.2 = false) (hn : narrow (ty j) (.int v) = .int v) (hfit : fits (ty j) (.int v) = true) (hsh : kg_SH a = .inl ci) (han : a < n) (hd : decode q.2.1 pc = .ok (.putfield i, 3)) (k : ∀ M1 : kg_M, M1 = kg_row M a (upd (M a) j v) → kg_Run G E q d (pc + 3) lv st M1 R n kc ks Post) : kg_Run G E q d pc lv (.int v :: .ref (kg_b G + a) :: st) M R n kc ks Post := kr_putI j hC hlk hkd hfin hn hfit hsh han hd (k _ rfl)
theorem kn_iast {a N : Nat} {i v : Int32} (hsh : kg_SH a = .inr (0, N)) (han : a < n) (hi : vp_in i N) (hd : decode q.2.1 pc = .ok (.iastore, 1)) (k : ∀ M1 : kg_M, M1 = kg_row M a (upd (M a) i.toNatClampNeg v) → kg_Run G E q d (pc + 1) lv st M1 R n kc ks Post) : kg_Run G E q d pc lv (.int v :: .int i :: .ref (kg_b G + a) :: st) M R n kc ks Post := kr_iast hsh han hi hd (k _ rfl)
theorem kn_zast {a N : Nat} {i v : Int32} (hsh : kg_SH a = .inr (1, N)) (han : a < n) (hi : vp_in i N) (hv : vp_nar .boolean v = v) (hd : decode q.2.1 pc = .ok (.bastore, 1)) (k : ∀ M1 : kg_M, M1 = kg_row M a (upd (M a) i.toNatClampNeg v) → kg_Run G E q d (pc + 1) lv st M1 R n kc ks Post) : kg_Run G E q d pc lv (.int v :: .int i :: .ref (kg_b G + a) :: st) M R n kc ks Post := kr_zast hsh han hi hv hd (k _ rfl)
theorem kn_copy {a b N1 N2 i : Nat} {sp dp len : Int32} (hn : ¬ n < kg_all) (hlk : Cond.methodLink q.1.cls i arraycopyName ∈ kg_T) (h1 : kg_SH a = .inr (0, N1)) (h2 : kg_SH b = .inr (0, N2)) (ha : a < n) (hb2 : b < n) (g1 : ¬ sp < 0) (g2 : ¬ dp < 0) (g3 : ¬ len < 0) (g4 : sp.toNatClampNeg + len.toNatClampNeg ≤ N1) (g5 : dp.toNatClampNeg + len.toNatClampNeg ≤ N2) (hst : (st.map fun v => v.category).sum ≤ 8) (hd : decode q.2.1 pc = .ok (.invokestatic i, 3)) (k : ∀ M1 : kg_M, M1 = kg_row M b (va_cpy (M a) (M b) sp.toNatClampNeg dp.toNatClampNeg len.toNatClampNeg) → kg_Run G E q d (pc + 3) lv st M1 R n kc ks Post) : kg_Run G E q d pc lv (.int len :: .int dp :: .ref (kg_b G + b) :: .int sp :: .ref (kg_b G + a) :: st) M R n kc ks Post := kr_copy hn hlk h1 h2 ha hb2 g1 g2 g3 g4 g5 hst hd (k _ rfl)
theorem kn_callVi {y : kg_q} {N d' i a ci : Nat} {K' : Int32 → kg_M → Prop} (As rest : List Value) (hm : kg_MV y N) (hlk : Cond.methodLink q.1.cls i y.1 ∈ kg_T) (hsh : kg_SH a = .inl ci) (hci : (vwCl[ci]?).map (fun w => w.1) = some y.1.cls) (han : a < n) (hd : decode q.2.1 pc = .ok (.invokevirtual i, 3)) (hrun : kg_Run G kg_E0 y d' 0 (lv_args 0 (.ref (kg_b G + a) :: As)) [] M R n 0 0 (kg_I R n K')) (k : ∀ (x : Int32) (M' : kg_M), K' x M' → kg_Run G E q d (pc + 3) lv (.int x :: rest) M' R n kc ks Post) (hret : y.2.2.2 = some .int := by rfl) (hst : st = As.reverse ++ .ref (kg_b G + a) :: rest := by rfl) (hd' : d' + 1 ≤ d := by decide) (hlen : As.length = N := by rfl) (hav : (lg_sl (.ref (kg_b G + a) :: As)).length ≤ y.2.2.1 := by exact Nat.le_of_ble_eq_true rfl) (hrest : (rest.map fun v => v.category).sum ≤ 8 := by exact Nat.le_of_ble_eq_true rfl) : kg_Run G E q d pc lv st M R n kc ks Post :=
  kr_callV As rest hm hlk hsh hci han hd (kg_rtI hret) hrun (fun r M' R' n' hp => by obtain ⟨rfl, rfl, x, rfl, h⟩ := hp; exact k x M' h) hst hd' hlen hav hrest
theorem kn_callVz {y : kg_q} {N d' i a ci : Nat} {K' : Int32 → kg_M → Prop} (As rest : List Value) (hm : kg_MV y N) (hlk : Cond.methodLink q.1.cls i y.1 ∈ kg_T) (hsh : kg_SH a = .inl ci) (hci : (vwCl[ci]?).map (fun w => w.1) = some y.1.cls) (han : a < n) (hd : decode q.2.1 pc = .ok (.invokevirtual i, 3)) (hrun : kg_Run G kg_E0 y d' 0 (lv_args 0 (.ref (kg_b G + a) :: As)) [] M R n 0 0 (kg_Z R n K')) (k : ∀ (x : Int32) (M' : kg_M), (x = 0 ∨ x = 1) → K' x M' → kg_Run G E q d (pc + 3) lv (.int x :: rest) M' R n kc ks Post) (hret : y.2.2.2 = some .boolean := by rfl) (hst : st = As.reverse ++ .ref (kg_b G + a) :: rest := by rfl) (hd' : d' + 1 ≤ d := by decide) (hlen : As.length = N := by rfl) (hav : (lg_sl (.ref (kg_b G + a) :: As)).length ≤ y.2.2.1 := by exact Nat.le_of_ble_eq_true rfl) (hrest : (rest.map fun v => v.category).sum ≤ 8 := by exact Nat.le_of_ble_eq_true rfl) : kg_Run G E q d pc lv st M R n kc ks Post :=
  kr_callV As rest hm hlk hsh hci han hd (kg_rtZ hret) hrun (fun r M' R' n' hp => by obtain ⟨rfl, rfl, x, rfl, hz, h⟩ := hp; exact k x M' hz h) hst hd' hlen hav hrest
theorem kn_callVv {y : kg_q} {N d' i a ci : Nat} {K' : kg_M → Prop} (As rest : List Value) (hm : kg_MV y N) (hlk : Cond.methodLink q.1.cls i y.1 ∈ kg_T) (hsh : kg_SH a = .inl ci) (hci : (vwCl[ci]?).map (fun w => w.1) = some y.1.cls) (han : a < n) (hd : decode q.2.1 pc = .ok (.invokevirtual i, 3)) (hrun : kg_Run G kg_E0 y d' 0 (lv_args 0 (.ref (kg_b G + a) :: As)) [] M R n 0 0 (kg_V R n K')) (k : ∀ (M' : kg_M), K' M' → kg_Run G E q d (pc + 3) lv (rest) M' R n kc ks Post) (hret : y.2.2.2 = none := by rfl) (hst : st = As.reverse ++ .ref (kg_b G + a) :: rest := by rfl) (hd' : d' + 1 ≤ d := by decide) (hlen : As.length = N := by rfl) (hav : (lg_sl (.ref (kg_b G + a) :: As)).length ≤ y.2.2.1 := by exact Nat.le_of_ble_eq_true rfl) (hrest : (rest.map fun v => v.category).sum ≤ 8 := by exact Nat.le_of_ble_eq_true rfl) : kg_Run G E q d pc lv st M R n kc ks Post :=
  kr_callV As rest hm hlk hsh hci han hd (kg_rtV hret) hrun (fun r M' R' n' hp => by obtain ⟨rfl, rfl, rfl, h⟩ := hp; exact k M' h) hst hd' hlen hav hrest
theorem kn_callSi {y : kg_q} {N d' i : Nat} {K' : Int32 → kg_M → Prop} (As rest : List Value) (hm : kg_MS y N) (hlk : Cond.methodLink q.1.cls i y.1 ∈ kg_T) (hd : decode q.2.1 pc = .ok (.invokestatic i, 3)) (hrun : kg_Run G kg_E0 y d' 0 (lv_args 0 As) [] M R n 0 0 (kg_I R n K')) (k : ∀ (x : Int32) (M' : kg_M), K' x M' → kg_Run G E q d (pc + 3) lv (.int x :: rest) M' R n kc ks Post) (hret : y.2.2.2 = some .int := by rfl) (hst : st = As.reverse ++ rest := by rfl) (hd' : d' + 1 ≤ d := by decide) (hlen : As.length = N := by rfl) (hav : (lg_sl As).length ≤ y.2.2.1 := by exact Nat.le_of_ble_eq_true rfl) (hrest : (rest.map fun v => v.category).sum ≤ 8 := by exact Nat.le_of_ble_eq_true rfl) : kg_Run G E q d pc lv st M R n kc ks Post :=
  kr_callS As rest hm hlk hd (kg_rtI hret) hrun (fun r M' R' n' hp => by obtain ⟨rfl, rfl, x, rfl, h⟩ := hp; exact k x M' h) hst hd' hlen hav hrest
theorem kn_callSz {y : kg_q} {N d' i : Nat} {K' : Int32 → kg_M → Prop} (As rest : List Value) (hm : kg_MS y N) (hlk : Cond.methodLink q.1.cls i y.1 ∈ kg_T) (hd : decode q.2.1 pc = .ok (.invokestatic i, 3)) (hrun : kg_Run G kg_E0 y d' 0 (lv_args 0 As) [] M R n 0 0 (kg_Z R n K')) (k : ∀ (x : Int32) (M' : kg_M), (x = 0 ∨ x = 1) → K' x M' → kg_Run G E q d (pc + 3) lv (.int x :: rest) M' R n kc ks Post) (hret : y.2.2.2 = some .boolean := by rfl) (hst : st = As.reverse ++ rest := by rfl) (hd' : d' + 1 ≤ d := by decide) (hlen : As.length = N := by rfl) (hav : (lg_sl As).length ≤ y.2.2.1 := by exact Nat.le_of_ble_eq_true rfl) (hrest : (rest.map fun v => v.category).sum ≤ 8 := by exact Nat.le_of_ble_eq_true rfl) : kg_Run G E q d pc lv st M R n kc ks Post :=
  kr_callS As rest hm hlk hd (kg_rtZ hret) hrun (fun r M' R' n' hp => by obtain ⟨rfl, rfl, x, rfl, hz, h⟩ := hp; exact k x M' hz h) hst hd' hlen hav hrest
theorem kn_callSv {y : kg_q} {N d' i : Nat} {K' : kg_M → Prop} (As rest : List Value) (hm : kg_MS y N) (hlk : Cond.methodLink q.1.cls i y.1 ∈ kg_T) (hd : decode q.2.1 pc = .ok (.invokestatic i, 3)) (hrun : kg_Run G kg_E0 y d' 0 (lv_args 0 As) [] M R n 0 0 (kg_V R n K')) (k : ∀ (M' : kg_M), K' M' → kg_Run G E q d (pc + 3) lv (rest) M' R n kc ks Post) (hret : y.2.2.2 = none := by rfl) (hst : st = As.reverse ++ rest := by rfl) (hd' : d' + 1 ≤ d := by decide) (hlen : As.length = N := by rfl) (hav : (lg_sl As).length ≤ y.2.2.1 := by exact Nat.le_of_ble_eq_true rfl) (hrest : (rest.map fun v => v.category).sum ≤ 8 := by exact Nat.le_of_ble_eq_true rfl) : kg_Run G E q d pc lv st M R n kc ks Post :=
  kr_callS As rest hm hlk hd (kg_rtV hret) hrun (fun r M' R' n' hp => by obtain ⟨rfl, rfl, rfl, h⟩ := hp; exact k M' h) hst hd' hlen hav hrest
end KN
