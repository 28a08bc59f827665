def wp_J6_bitCount_0f7a4 (v0 : Int32) (M : kg_M) (K : Int32 → kg_M → Prop) : Prop :=
  K ((((((((v0 - (((v0.toUInt32 >>> ((1 : Int32).toUInt32 &&& Int32.toUInt32 31)).toInt32) &&& (1431655765 : Int32))) &&& (858993459 : Int32)) + ((((v0 - (((v0.toUInt32 >>> ((1 : Int32).toUInt32 &&& Int32.toUInt32 31)).toInt32) &&& (1431655765 : Int32))).toUInt32 >>> ((2 : Int32).toUInt32 &&& Int32.toUInt32 31)).toInt32) &&& (858993459 : Int32))) + (((((v0 - (((v0.toUInt32 >>> ((1 : Int32).toUInt32 &&& Int32.toUInt32 31)).toInt32) &&& (1431655765 : Int32))) &&& (858993459 : Int32)) + ((((v0 - (((v0.toUInt32 >>> ((1 : Int32).toUInt32 &&& Int32.toUInt32 31)).toInt32) &&& (1431655765 : Int32))).toUInt32 >>> ((2 : Int32).toUInt32 &&& Int32.toUInt32 31)).toInt32) &&& (858993459 : Int32))).toUInt32 >>> ((4 : Int32).toUInt32 &&& Int32.toUInt32 31)).toInt32)) &&& (252645135 : Int32)) + (((((((v0 - (((v0.toUInt32 >>> ((1 : Int32).toUInt32 &&& Int32.toUInt32 31)).toInt32) &&& (1431655765 : Int32))) &&& (858993459 : Int32)) + ((((v0 - (((v0.toUInt32 >>> ((1 : Int32).toUInt32 &&& Int32.toUInt32 31)).toInt32) &&& (1431655765 : Int32))).toUInt32 >>> ((2 : Int32).toUInt32 &&& Int32.toUInt32 31)).toInt32) &&& (858993459 : Int32))) + (((((v0 - (((v0.toUInt32 >>> ((1 : Int32).toUInt32 &&& Int32.toUInt32 31)).toInt32) &&& (1431655765 : Int32))) &&& (858993459 : Int32)) + ((((v0 - (((v0.toUInt32 >>> ((1 : Int32).toUInt32 &&& Int32.toUInt32 31)).toInt32) &&& (1431655765 : Int32))).toUInt32 >>> ((2 : Int32).toUInt32 &&& Int32.toUInt32 31)).toInt32) &&& (858993459 : Int32))).toUInt32 >>> ((4 : Int32).toUInt32 &&& Int32.toUInt32 31)).toInt32)) &&& (252645135 : Int32)).toUInt32 >>> ((8 : Int32).toUInt32 &&& Int32.toUInt32 31)).toInt32)) + ((((((((v0 - (((v0.toUInt32 >>> ((1 : Int32).toUInt32 &&& Int32.toUInt32 31)).toInt32) &&& (1431655765 : Int32))) &&& (858993459 : Int32)) + ((((v0 - (((v0.toUInt32 >>> ((1 : Int32).toUInt32 &&& Int32.toUInt32 31)).toInt32) &&& (1431655765 : Int32))).toUInt32 >>> ((2 : Int32).toUInt32 &&& Int32.toUInt32 31)).toInt32) &&& (858993459 : Int32))) + (((((v0 - (((v0.toUInt32 >>> ((1 : Int32).toUInt32 &&& Int32.toUInt32 31)).toInt32) &&& (1431655765 : Int32))) &&& (858993459 : Int32)) + ((((v0 - (((v0.toUInt32 >>> ((1 : Int32).toUInt32 &&& Int32.toUInt32 31)).toInt32) &&& (1431655765 : Int32))).toUInt32 >>> ((2 : Int32).toUInt32 &&& Int32.toUInt32 31)).toInt32) &&& (858993459 : Int32))).toUInt32 >>> ((4 : Int32).toUInt32 &&& Int32.toUInt32 31)).toInt32)) &&& (252645135 : Int32)) + (((((((v0 - (((v0.toUInt32 >>> ((1 : Int32).toUInt32 &&& Int32.toUInt32 31)).toInt32) &&& (1431655765 : Int32))) &&& (858993459 : Int32)) + ((((v0 - (((v0.toUInt32 >>> ((1 : Int32).toUInt32 &&& Int32.toUInt32 31)).toInt32) &&& (1431655765 : Int32))).toUInt32 >>> ((2 : Int32).toUInt32 &&& Int32.toUInt32 31)).toInt32) &&& (858993459 : Int32))) + (((((v0 - (((v0.toUInt32 >>> ((1 : Int32).toUInt32 &&& Int32.toUInt32 31)).toInt32) &&& (1431655765 : Int32))) &&& (858993459 : Int32)) + ((((v0 - (((v0.toUInt32 >>> ((1 : Int32).toUInt32 &&& Int32.toUInt32 31)).toInt32) &&& (1431655765 : Int32))).toUInt32 >>> ((2 : Int32).toUInt32 &&& Int32.toUInt32 31)).toInt32) &&& (858993459 : Int32))).toUInt32 >>> ((4 : Int32).toUInt32 &&& Int32.toUInt32 31)).toInt32)) &&& (252645135 : Int32)).toUInt32 >>> ((8 : Int32).toUInt32 &&& Int32.toUInt32 31)).toInt32)).toUInt32 >>> ((16 : Int32).toUInt32 &&& Int32.toUInt32 31)).toInt32)) &&& (63 : Int32)) M
def wL_J7_fill_53178_5 (a0 : Nat) (N0 : Nat) (Kx20 : kg_M → Prop) (K : kg_M → Prop) : Nat → Int32 → Int32 → Int32 → kg_M → Prop
  | 0, _, _, _, _ => False
  | f + 1, v1, v2, v3, M => (v3 ≤ v2 → Kx20  M) ∧ (¬ v3 ≤ v2 → vp_in v2 N0 ∧ (∀ M8 : kg_M, M8 = kg_row M a0 (upd (M a0) v2.toNatClampNeg v1) → (wL_J7_fill_53178_5 a0 N0 Kx20 K f v1 (v2 + (1 : Int32)) v3 M8)))
def wp_J7_fill_53178 (a0 : Nat) (N0 : Nat) (v1 : Int32) (M : kg_M) (K : kg_M → Prop) : Prop :=
  ∃ g : Nat, wL_J7_fill_53178_5 a0 N0 (fun (M : kg_M) => K M) K g v1 (0 : Int32) (nI N0) M
def wp_X0_addGate (o : Nat) (v1 : Int32) (M : kg_M) (K : kg_M → Prop) : Prop :=
  ((5 : Int32) ≤ (M o 0) → K M) ∧ (¬ (5 : Int32) ≤ (M o 0) → vp_in (M o 0) 5 ∧ (∀ M7 : kg_M, M7 = kg_row M (o + 1) (upd (M (o + 1)) (M o 0).toNatClampNeg v1) → (∀ M10 : kg_M, M10 = kg_row M7 o (upd (M7 o) 0 ((M7 o 0) + (1 : Int32))) → (K M10))))
def wp_X0_hasPerson (o : Nat) (v1 : Int32) (M : kg_M) (K : Int32 → kg_M → Prop) : Prop :=
  (v1 < 0 → K (0 : Int32) M) ∧ (¬ v1 < 0 → ((M o 1) ≤ v1 → K (0 : Int32) M) ∧ (¬ (M o 1) ≤ v1 → K (1 : Int32) M))
def wp_X0_isTold (o : Nat) (v1 : Int32) (v2 : Int32) (M : kg_M) (K : Int32 → kg_M → Prop) : Prop :=
  wp_X0_hasPerson o v1 M (fun (r4 : Int32) (M2 : kg_M) => (r4 = 0 → K (0 : Int32) M2) ∧ (¬ r4 = 0 → wp_X0_hasPerson o v2 M2 (fun (r10 : Int32) (M8 : kg_M) => (r10 = 0 → K (0 : Int32) M8) ∧ (¬ r10 = 0 → vp_in ((v1 * (7 : Int32)) + v2) 49 ∧ (((M8 (o + 2) ((v1 * (7 : Int32)) + v2).toNatClampNeg) = (-1 : Int32) → K (0 : Int32) M8) ∧ (¬ (M8 (o + 2) ((v1 * (7 : Int32)) + v2).toNatClampNeg) = (-1 : Int32) → K (1 : Int32) M8))))))
def wp_X0_liking (o : Nat) (v1 : Int32) (v2 : Int32) (M : kg_M) (K : Int32 → kg_M → Prop) : Prop :=
  wp_X0_isTold o v1 v2 M (fun (r4 : Int32) (M2 : kg_M) => (r4 = 0 → K (0 : Int32) M2) ∧ (¬ r4 = 0 → vp_in ((v1 * (7 : Int32)) + v2) 49 ∧ (K (M2 (o + 2) ((v1 * (7 : Int32)) + v2).toNatClampNeg) M2)))
def wp_X0_addLiking (o : Nat) (v1 : Int32) (v2 : Int32) (v3 : Int32) (M : kg_M) (K : kg_M → Prop) : Prop :=
  wp_X0_hasPerson o v1 M (fun (r4 : Int32) (M2 : kg_M) => (r4 = 0 → K M2) ∧ (¬ r4 = 0 → wp_X0_hasPerson o v2 M2 (fun (r10 : Int32) (M8 : kg_M) => (r10 = 0 → K M8) ∧ (¬ r10 = 0 → vp_in ((v1 * (7 : Int32)) + v2) 49 ∧ (∀ M16 : kg_M, M16 = kg_row M8 (o + 2) (upd (M8 (o + 2)) ((v1 * (7 : Int32)) + v2).toNatClampNeg v3) → ((v3 < (1 : Int32) → K M16) ∧ (¬ v3 < (1 : Int32) → wp_X0_liking o v2 v1 M16 (fun (r24 : Int32) (M22 : kg_M) => (r24 < (1 : Int32) → K M22) ∧ (¬ r24 < (1 : Int32) → vp_in v1 7 ∧ (vp_in v1 7 ∧ (∀ M32 : kg_M, M32 = kg_row M22 (o + 3) (upd (M22 (o + 3)) v1.toNatClampNeg ((M22 (o + 3) v1.toNatClampNeg) ||| ((1 : Int32) <<< (v2 &&& 31)))) → (vp_in v2 7 ∧ (vp_in v2 7 ∧ (∀ M39 : kg_M, M39 = kg_row M32 (o + 3) (upd (M32 (o + 3)) v2.toNatClampNeg ((M32 (o + 3) v2.toNatClampNeg) ||| ((1 : Int32) <<< (v1 &&& 31)))) → (K M39)))))))))))))))
def wp_X0_addPerson (o : Nat) (v1 : Int32) (v2 : Int32) (M : kg_M) (K : kg_M → Prop) : Prop :=
  ((7 : Int32) ≤ (M o 1) → K M) ∧ (¬ (7 : Int32) ≤ (M o 1) → ∀ M5 : kg_M, M5 = kg_row M o (upd (M o) 2 ((M o 2) ||| (v1 <<< ((M o 1) &&& 31)))) → (∀ M8 : kg_M, M8 = kg_row M5 o (upd (M5 o) 3 ((M5 o 3) ||| (v2 <<< ((M5 o 1) &&& 31)))) → (∀ M11 : kg_M, M11 = kg_row M8 o (upd (M8 o) 1 ((M8 o 1) + (1 : Int32))) → (K M11))))
def wp_X0_empty (o : Nat) (M : kg_M) (K : kg_M → Prop) : Prop :=
  ∀ M2 : kg_M, M2 = kg_row M o (upd (M o) 0 (0 : Int32)) → (∀ M5 : kg_M, M5 = kg_row M2 o (upd (M2 o) 1 (0 : Int32)) → (∀ M8 : kg_M, M8 = kg_row M5 o (upd (M5 o) 2 (0 : Int32)) → (∀ M11 : kg_M, M11 = kg_row M8 o (upd (M8 o) 3 (0 : Int32)) → (wp_J7_fill_53178 (o + 2) 49 (-1 : Int32) M11 (fun (M14 : kg_M) => wp_J7_fill_53178 (o + 3) 7 (0 : Int32) M14 (fun (M17 : kg_M) => K M17))))))
def wp_X0_hasAll (o : Nat) (v1 : Int32) (M : kg_M) (K : Int32 → kg_M → Prop) : Prop :=
  (¬ ((v1.toUInt32 >>> ((M o 1).toUInt32 &&& Int32.toUInt32 31)).toInt32) = 0 → K (0 : Int32) M) ∧ (((v1.toUInt32 >>> ((M o 1).toUInt32 &&& Int32.toUInt32 31)).toInt32) = 0 → K (1 : Int32) M)
def wp_X0_hasGate (o : Nat) (v1 : Int32) (M : kg_M) (K : Int32 → kg_M → Prop) : Prop :=
  (v1 < 0 → K (0 : Int32) M) ∧ (¬ v1 < 0 → ((M o 0) ≤ v1 → K (0 : Int32) M) ∧ (¬ (M o 0) ≤ v1 → K (1 : Int32) M))
def wL_X0_likesBest_17 (o : Nat) (Kx37 : kg_M → Prop) (Kx45 : kg_M → Prop) (K : Int32 → kg_M → Prop) : Nat → Int32 → Int32 → Int32 → kg_M → Prop
  | 0, _, _, _, _ => False
  | f + 1, v1, v3, v4, M => ((M o 1) ≤ v4 → Kx45  M) ∧ (¬ (M o 1) ≤ v4 → wp_X0_liking o v1 v4 M (fun (r14 : Int32) (M12 : kg_M) => (r14 ≤ v3 → wL_X0_likesBest_17 o Kx37 Kx45 K f v1 v3 (v4 + (1 : Int32)) M12) ∧ (¬ r14 ≤ v3 → Kx37  M12)))
def wp_X0_likesBest (o : Nat) (v1 : Int32) (v2 : Int32) (M : kg_M) (K : Int32 → kg_M → Prop) : Prop :=
  wp_X0_liking o v1 v2 M (fun (r4 : Int32) (M2 : kg_M) => ((1 : Int32) ≤ r4 → ∃ g : Nat, wL_X0_likesBest_17 o (fun (M : kg_M) => K (0 : Int32) M) (fun (M : kg_M) => K (1 : Int32) M) K g v1 r4 (0 : Int32) M2) ∧ (¬ (1 : Int32) ≤ r4 → K (0 : Int32) M2))
def wp_X0_together (o : Nat) (v1 : Int32) (v2 : Int32) (M : kg_M) (K : Int32 → kg_M → Prop) : Prop :=
  wp_X0_liking o v1 v2 M (fun (r4 : Int32) (M2 : kg_M) => wp_X0_liking o v2 v1 M2 (fun (r7 : Int32) (M5 : kg_M) => K (r4 + r7) M5))
def wJ_X0_wouldMeet_14 (o : Nat) (K : Int32 → kg_M → Prop) (v1 : Int32) (v2 : Int32) (s0 : Int32) (M : kg_M) : Prop :=
  vp_in v1 7 ∧ ((s0 = 0 → K ((M (o + 3) v1.toNatClampNeg) &&& v2) M) ∧ (¬ s0 = 0 → K ((M (o + 3) v1.toNatClampNeg) &&& (v2 ^^^ (-1 : Int32))) M))
def wp_X0_wouldMeet (o : Nat) (v1 : Int32) (v2 : Int32) (M : kg_M) (K : Int32 → kg_M → Prop) : Prop :=
  (¬ ((v2 >>> (v1 &&& 31)) &&& (1 : Int32)) = (1 : Int32) → wJ_X0_wouldMeet_14 o K v1 v2 (0 : Int32) M) ∧ (((v2 >>> (v1 &&& 31)) &&& (1 : Int32)) = (1 : Int32) → wJ_X0_wouldMeet_14 o K v1 v2 (1 : Int32) M)
def wp_X1_reach (v1 : Int32) (v2 : Int32) (M : kg_M) (K : kg_M → Prop) : Prop :=
  (v2 < 0 → K M) ∧ (¬ v2 < 0 → ((128 : Int32) ≤ v2 → K M) ∧ (¬ (128 : Int32) ≤ v2 → vp_in v2 128 ∧ ((¬ (M 96 v2.toNatClampNeg) = (-1 : Int32) → K M) ∧ ((M 96 v2.toNatClampNeg) = (-1 : Int32) → vp_in v1 128 ∧ (vp_in v2 128 ∧ (∀ M17 : kg_M, M17 = kg_row M 96 (upd (M 96) v2.toNatClampNeg ((M 96 v1.toNatClampNeg) + (1 : Int32))) → (∀ M20 : kg_M, M20 = kg_row M17 95 (upd (M17 95) 1 (1 : Int32)) → (K M20))))))))
def wJ_X1_cross_14 (rc : Nat → Int32 → Int32 → Int32 → Int32 → kg_M → (kg_M → Prop) → Prop) (o1 : Nat) (K : kg_M → Prop) (v2 : Int32) (v3 : Int32) (M : kg_M) : Prop :=
  wp_X1_reach v2 v3 M (fun (M6 : kg_M) => K M6)
def wL_X1_cross_60 (rc : Nat → Int32 → Int32 → Int32 → Int32 → kg_M → (kg_M → Prop) → Prop) (o1 : Nat) (Kx111 : Int32 → Int32 → Int32 → Int32 → kg_M → Prop) (K : kg_M → Prop) : Nat → Int32 → Int32 → Int32 → Int32 → Int32 → Int32 → kg_M → Prop
  | 0, _, _, _, _, _, _, _ => False
  | f + 1, v2, v3, v4, v5, v7, v8, M => ((M o1 1) ≤ v8 → Kx111 v2 v3 v4 v5 M) ∧ (¬ (M o1 1) ≤ v8 → (¬ ((v7 >>> (v8 &&& 31)) &&& (1 : Int32)) = (1 : Int32) → wL_X1_cross_60 rc o1 Kx111 K f v2 v3 v4 v5 v7 (v8 + (1 : Int32)) M) ∧ (((v7 >>> (v8 &&& 31)) &&& (1 : Int32)) = (1 : Int32) → rc o1 v2 ((v3 ^^^ ((1 : Int32) <<< (v4 &&& 31))) ^^^ ((1 : Int32) <<< (v8 &&& 31))) (v4 + (1 : Int32)) (v5 - (1 : Int32)) M (fun (M22 : kg_M) => wL_X1_cross_60 rc o1 Kx111 K f v2 v3 v4 v5 v7 (v8 + (1 : Int32)) M22)))
def wE_X1_cross (rc : Nat → Int32 → Int32 → Int32 → Int32 → kg_M → (kg_M → Prop) → Prop) (o1 : Nat) (v2 : Int32) (v3 : Int32) (v4 : Int32) (v5 : Int32) (M : kg_M) (K : kg_M → Prop) : Prop :=
  ((M o1 1) ≤ v4 → wJ_X1_cross_14 rc o1 K v2 v3 M) ∧ (¬ (M o1 1) ≤ v4 → (0 < v5 → (¬ (((v2 ^^^ v3) >>> (v4 &&& 31)) &&& (1 : Int32)) = 0 → ∃ g : Nat, wL_X1_cross_60 rc o1 (fun (v2 : Int32) (v3 : Int32) (v4 : Int32) (v5 : Int32) (M : kg_M) => rc o1 v2 v3 (v4 + (1 : Int32)) v5 M (fun (M26 : kg_M) => K M26)) K g v2 v3 v4 v5 (0 : Int32) (v4 + (1 : Int32)) M) ∧ ((((v2 ^^^ v3) >>> (v4 &&& 31)) &&& (1 : Int32)) = 0 → wp_X0_wouldMeet o1 v4 v2 M (fun (r33 : Int32) (M31 : kg_M) => ∃ g : Nat, wL_X1_cross_60 rc o1 (fun (v2 : Int32) (v3 : Int32) (v4 : Int32) (v5 : Int32) (M : kg_M) => rc o1 v2 v3 (v4 + (1 : Int32)) v5 M (fun (M35 : kg_M) => K M35)) K g v2 v3 v4 v5 (r33 &&& ((v2 ^^^ v3) ^^^ (-1 : Int32))) (v4 + (1 : Int32)) M31))) ∧ (¬ 0 < v5 → wJ_X1_cross_14 rc o1 K v2 v3 M))
def wR_X1_cross : Nat → Nat → Int32 → Int32 → Int32 → Int32 → kg_M → (kg_M → Prop) → Prop
  | 0 => fun _ _ _ _ _ _ _ => False
  | f + 1 => fun o1 v2 v3 v4 v5 M K => wE_X1_cross (wR_X1_cross f) o1 v2 v3 v4 v5 M K
def wp_X1_cross (o1 : Nat) (v2 : Int32) (v3 : Int32) (v4 : Int32) (v5 : Int32) (M : kg_M) (K : kg_M → Prop) : Prop := wR_X1_cross 10 o1 v2 v3 v4 v5 M K
def wL_X1_isThere_3  (Kx31 : kg_M → Prop) (Kx39 : kg_M → Prop) (K : Int32 → kg_M → Prop) : Nat → Int32 → Int32 → Int32 → Int32 → kg_M → Prop
  | 0, _, _, _, _, _ => False
  | f + 1, v1, v2, v3, v4, M => ((128 : Int32) ≤ v4 → Kx39  M) ∧ (¬ (128 : Int32) ≤ v4 → vp_in v4 128 ∧ ((¬ (M 96 v4.toNatClampNeg) = v1 → wL_X1_isThere_3  Kx31 Kx39 K f v1 v2 v3 (v4 + (1 : Int32)) M) ∧ ((M 96 v4.toNatClampNeg) = v1 → (¬ ((v4 ^^^ v3) &&& v2) = 0 → wL_X1_isThere_3  Kx31 Kx39 K f v1 v2 v3 (v4 + (1 : Int32)) M) ∧ (((v4 ^^^ v3) &&& v2) = 0 → Kx31  M))))
def wp_X1_isThere (v1 : Int32) (v2 : Int32) (v3 : Int32) (M : kg_M) (K : Int32 → kg_M → Prop) : Prop :=
  ∃ g : Nat, wL_X1_isThere_3  (fun (M : kg_M) => K (1 : Int32) M) (fun (M : kg_M) => K (0 : Int32) M) K g v1 v2 v3 (0 : Int32) M
def wL_X1_fewestHours_74 (o1 : Nat) (Kx111 : Int32 → Int32 → Int32 → Int32 → kg_M → Prop) (K : Int32 → kg_M → Prop) : Nat → Int32 → Int32 → Int32 → Int32 → Int32 → kg_M → Prop
  | 0, _, _, _, _, _, _ => False
  | f + 1, v3, v4, v5, v6, v7, M => ((128 : Int32) ≤ v7 → Kx111 v3 v4 v5 v6 M) ∧ (¬ (128 : Int32) ≤ v7 → vp_in v7 128 ∧ ((¬ (M 96 v7.toNatClampNeg) = v6 → wL_X1_fewestHours_74 o1 Kx111 K f v3 v4 v5 v6 (v7 + (1 : Int32)) M) ∧ ((M 96 v7.toNatClampNeg) = v6 → wp_X1_cross o1 v7 v7 (0 : Int32) v3 M (fun (M44 : kg_M) => wL_X1_fewestHours_74 o1 Kx111 K f v3 v4 v5 v6 (v7 + (1 : Int32)) M44))))
def wL_X1_fewestHours_36 (o1 : Nat) (Kx63 : Int32 → kg_M → Prop) (Kx117 : kg_M → Prop) (K : Int32 → kg_M → Prop) : Nat → Int32 → Int32 → Int32 → Int32 → kg_M → Prop
  | 0, _, _, _, _, _ => False
  | f + 1, v3, v4, v5, v6, M => ((40 : Int32) < v6 → Kx117  M) ∧ (¬ (40 : Int32) < v6 → ((M 95 1) = 0 → Kx117  M) ∧ (¬ (M 95 1) = 0 → wp_X1_isThere v6 v4 v5 M (fun (r28 : Int32) (M26 : kg_M) => (r28 = 0 → ∀ M32 : kg_M, M32 = kg_row M26 95 (upd (M26 95) 1 (0 : Int32)) → (∃ g : Nat, wL_X1_fewestHours_74 o1 (fun (v3 : Int32) (v4 : Int32) (v5 : Int32) (v6 : Int32) (M : kg_M) => wL_X1_fewestHours_36 o1 Kx63 Kx117 K f v3 v4 v5 (v6 + (1 : Int32)) M) K g v3 v4 v5 v6 (0 : Int32) M32)) ∧ (¬ r28 = 0 → Kx63 v6 M26))))
def wp_X1_fewestHours (o1 : Nat) (v2 : Int32) (v3 : Int32) (v4 : Int32) (v5 : Int32) (M : kg_M) (K : Int32 → kg_M → Prop) : Prop :=
  wp_J7_fill_53178 96 128 (-1 : Int32) M (fun (M2 : kg_M) => (v2 < 0 → K (-1 : Int32) M2) ∧ (¬ v2 < 0 → (v2 < (128 : Int32) → vp_in v2 128 ∧ (∀ M13 : kg_M, M13 = kg_row M2 96 (upd (M2 96) v2.toNatClampNeg (0 : Int32)) → (∀ M16 : kg_M, M16 = kg_row M13 95 (upd (M13 95) 1 (1 : Int32)) → (∃ g : Nat, wL_X1_fewestHours_36 o1 (fun (v6 : Int32) (M : kg_M) => K v6 M) (fun (M : kg_M) => K (-1 : Int32) M) K g v3 v4 v5 (0 : Int32) M16)))) ∧ (¬ v2 < (128 : Int32) → K (-1 : Int32) M2)))
def wp_X2_allows (v1 : Int32) (M : kg_M) (K : Int32 → kg_M → Prop) : Prop :=
  (¬ (v1 &&& (M 89 1)) = (M 89 1) → K (0 : Int32) M) ∧ ((v1 &&& (M 89 1)) = (M 89 1) → (¬ (v1 &&& (M 89 2)) = 0 → K (0 : Int32) M) ∧ ((v1 &&& (M 89 2)) = 0 → K (1 : Int32) M))
def wp_X2_enter (v1 : Int32) (v2 : Int32) (M : kg_M) (K : Int32 → kg_M → Prop) : Prop :=
  ((15 : Int32) ≤ (M 89 3) → K (M 89 3) M) ∧ (¬ (15 : Int32) ≤ (M 89 3) → vp_in (M 89 3) 15 ∧ (∀ M7 : kg_M, M7 = kg_row M 90 (upd (M 90) (M 89 3).toNatClampNeg v1) → (vp_in (M7 89 3) 15 ∧ (∀ M12 : kg_M, M12 = kg_row M7 91 (upd (M7 91) (M7 89 3).toNatClampNeg v2) → (∀ M15 : kg_M, M15 = kg_row M12 89 (upd (M12 89) 3 ((M12 89 3) + (1 : Int32))) → (K (M15 89 3) M15))))))
def wL_X2_firstWrong_2  (Kx29 : Int32 → kg_M → Prop) (Kx37 : kg_M → Prop) (K : Int32 → kg_M → Prop) : Nat → Int32 → Int32 → kg_M → Prop
  | 0, _, _, _ => False
  | f + 1, v1, v2, M => ((M 89 3) ≤ v2 → Kx37  M) ∧ (¬ (M 89 3) ≤ v2 → vp_in v2 15 ∧ (vp_in v2 15 ∧ ((((v1 >>> ((M 90 v2.toNatClampNeg) &&& 31)) &&& (1 : Int32)) = (M 91 v2.toNatClampNeg) → wL_X2_firstWrong_2  Kx29 Kx37 K f v1 (v2 + (1 : Int32)) M) ∧ (¬ ((v1 >>> ((M 90 v2.toNatClampNeg) &&& 31)) &&& (1 : Int32)) = (M 91 v2.toNatClampNeg) → Kx29 v2 M))))
def wp_X2_firstWrong (v1 : Int32) (M : kg_M) (K : Int32 → kg_M → Prop) : Prop :=
  ∃ g : Nat, wL_X2_firstWrong_2  (fun (v2 : Int32) (M : kg_M) => K v2 M) (fun (M : kg_M) => K (-1 : Int32) M) K g v1 (0 : Int32) M
def wp_X2_forget  (M : kg_M) (K : kg_M → Prop) : Prop :=
  ∀ M2 : kg_M, M2 = kg_row M 89 (upd (M 89) 0 (0 : Int32)) → (∀ M5 : kg_M, M5 = kg_row M2 89 (upd (M2 89) 1 (0 : Int32)) → (∀ M8 : kg_M, M8 = kg_row M5 89 (upd (M5 89) 2 (0 : Int32)) → (∀ M11 : kg_M, M11 = kg_row M8 89 (upd (M8 89) 3 (0 : Int32)) → (K M11))))
def wJ_X2_learn_31  (K : Int32 → kg_M → Prop) (M : kg_M) : Prop :=
  ∀ M9 : kg_M, M9 = kg_row M 89 (upd (M 89) 0 ((M 89 0) + (1 : Int32))) → (K (M9 89 0) M9)
def wp_X2_learn (v1 : Int32) (v2 : Int32) (M : kg_M) (K : Int32 → kg_M → Prop) : Prop :=
  (v2 = 0 → ∀ M5 : kg_M, M5 = kg_row M 89 (upd (M 89) 2 ((M 89 2) ||| ((1 : Int32) <<< (v1 &&& 31)))) → (wJ_X2_learn_31  K  M5)) ∧ (¬ v2 = 0 → ∀ M12 : kg_M, M12 = kg_row M 89 (upd (M 89) 1 ((M 89 1) ||| ((1 : Int32) <<< (v1 &&& 31)))) → (wJ_X2_learn_31  K  M12))
def wJ_X3_takeIfBetter_24  (K : kg_M → Prop) (v1 : Int32) (v2 : Int32) (M : kg_M) : Prop :=
  ∀ M6 : kg_M, M6 = kg_row M 92 (upd (M 92) 2 v1) → (∀ M9 : kg_M, M9 = kg_row M6 92 (upd (M6 92) 3 v2) → (∀ M12 : kg_M, M12 = kg_row M9 93 (va_cpy (M9 94) (M9 93) (0 : Int32).toNatClampNeg (0 : Int32).toNatClampNeg (7 : Int32).toNatClampNeg) → (K M12)))
def wp_X3_takeIfBetter (v1 : Int32) (v2 : Int32) (M : kg_M) (K : kg_M → Prop) : Prop :=
  ((M 92 2) < v1 → wJ_X3_takeIfBetter_24  K v1 v2 M) ∧ (¬ (M 92 2) < v1 → (¬ v1 = (M 92 2) → K M) ∧ (v1 = (M 92 2) → (v2 ≤ (M 92 3) → K M) ∧ (¬ v2 ≤ (M 92 3) → wJ_X3_takeIfBetter_24  K v1 v2 M)))
def wL_X3_pairFrom_54 (rc : Nat → Int32 → Int32 → Int32 → kg_M → (kg_M → Prop) → Prop) (o1 : Nat) (Kx143 : Int32 → Int32 → Int32 → kg_M → Prop) (K : kg_M → Prop) : Nat → Int32 → Int32 → Int32 → Int32 → Int32 → kg_M → Prop
  | 0, _, _, _, _, _, _ => False
  | f + 1, v2, v3, v4, v5, v6, M => ((M o1 1) ≤ v6 → Kx143 v2 v3 v4 M) ∧ (¬ (M o1 1) ≤ v6 → (¬ ((v5 >>> (v6 &&& 31)) &&& (1 : Int32)) = (1 : Int32) → wL_X3_pairFrom_54 rc o1 Kx143 K f v2 v3 v4 v5 (v6 + (1 : Int32)) M) ∧ (((v5 >>> (v6 &&& 31)) &&& (1 : Int32)) = (1 : Int32) → vp_in v6 7 ∧ ((¬ (M 94 v6.toNatClampNeg) = (-1 : Int32) → wL_X3_pairFrom_54 rc o1 Kx143 K f v2 v3 v4 v5 (v6 + (1 : Int32)) M) ∧ ((M 94 v6.toNatClampNeg) = (-1 : Int32) → vp_in v2 7 ∧ (∀ M24 : kg_M, M24 = kg_row M 94 (upd (M 94) v2.toNatClampNeg v6) → (vp_in v6 7 ∧ (∀ M29 : kg_M, M29 = kg_row M24 94 (upd (M24 94) v6.toNatClampNeg v2) → (wp_X0_together o1 v2 v6 M29 (fun (r34 : Int32) (M32 : kg_M) => rc o1 (v2 + (1 : Int32)) (v3 + (1 : Int32)) (v4 + r34) M32 (fun (M35 : kg_M) => vp_in v2 7 ∧ (∀ M40 : kg_M, M40 = kg_row M35 94 (upd (M35 94) v2.toNatClampNeg (-1 : Int32)) → (vp_in v6 7 ∧ (∀ M45 : kg_M, M45 = kg_row M40 94 (upd (M40 94) v6.toNatClampNeg (-1 : Int32)) → (wL_X3_pairFrom_54 rc o1 Kx143 K f v2 v3 v4 v5 (v6 + (1 : Int32)) M45))))))))))))))
def wE_X3_pairFrom (rc : Nat → Int32 → Int32 → Int32 → kg_M → (kg_M → Prop) → Prop) (o1 : Nat) (v2 : Int32) (v3 : Int32) (v4 : Int32) (M : kg_M) (K : kg_M → Prop) : Prop :=
  (v2 < (M o1 1) → vp_in v2 7 ∧ ((¬ (M 94 v2.toNatClampNeg) = (-1 : Int32) → ∃ g : Nat, wL_X3_pairFrom_54 rc o1 (fun (v2 : Int32) (v3 : Int32) (v4 : Int32) (M : kg_M) => rc o1 (v2 + (1 : Int32)) v3 v4 M (fun (M49 : kg_M) => K M49)) K g v2 v3 v4 (0 : Int32) (v2 + (1 : Int32)) M) ∧ ((M 94 v2.toNatClampNeg) = (-1 : Int32) → ((M 92 5) ≤ v3 → ∃ g : Nat, wL_X3_pairFrom_54 rc o1 (fun (v2 : Int32) (v3 : Int32) (v4 : Int32) (M : kg_M) => rc o1 (v2 + (1 : Int32)) v3 v4 M (fun (M58 : kg_M) => K M58)) K g v2 v3 v4 (0 : Int32) (v2 + (1 : Int32)) M) ∧ (¬ (M 92 5) ≤ v3 → wp_X0_wouldMeet o1 v2 (M 92 4) M (fun (r65 : Int32) (M63 : kg_M) => ∃ g : Nat, wL_X3_pairFrom_54 rc o1 (fun (v2 : Int32) (v3 : Int32) (v4 : Int32) (M : kg_M) => rc o1 (v2 + (1 : Int32)) v3 v4 M (fun (M67 : kg_M) => K M67)) K g v2 v3 v4 r65 (v2 + (1 : Int32)) M63))))) ∧ (¬ v2 < (M o1 1) → wp_X3_takeIfBetter v3 v4 M (fun (M72 : kg_M) => K M72))
def wR_X3_pairFrom : Nat → Nat → Int32 → Int32 → Int32 → kg_M → (kg_M → Prop) → Prop
  | 0 => fun _ _ _ _ _ _ => False
  | f + 1 => fun o1 v2 v3 v4 M K => wE_X3_pairFrom (wR_X3_pairFrom f) o1 v2 v3 v4 M K
def wp_X3_pairFrom (o1 : Nat) (v2 : Int32) (v3 : Int32) (v4 : Int32) (M : kg_M) (K : kg_M → Prop) : Prop := wR_X3_pairFrom 10 o1 v2 v3 v4 M K
def wp_X3_find (o1 : Nat) (v2 : Int32) (v3 : Int32) (M : kg_M) (K : kg_M → Prop) : Prop :=
  ∀ M2 : kg_M, M2 = kg_row M 92 (upd (M 92) 4 v2) → (∀ M5 : kg_M, M5 = kg_row M2 92 (upd (M2 92) 5 v3) → (∀ M8 : kg_M, M8 = kg_row M5 92 (upd (M5 92) 2 (-1 : Int32)) → (∀ M11 : kg_M, M11 = kg_row M8 92 (upd (M8 92) 3 (-1 : Int32)) → (wp_J7_fill_53178 94 7 (-1 : Int32) M11 (fun (M14 : kg_M) => wp_X3_pairFrom o1 (0 : Int32) (0 : Int32) (0 : Int32) M14 (fun (M17 : kg_M) => K M17))))))
def wp_X4_forget  (M : kg_M) (K : kg_M → Prop) : Prop :=
  ∀ M2 : kg_M, M2 = kg_row M 7 (upd (M 7) 2 (0 : Int32)) → (K M2)
def wp_X5_copyFrom (o : Nat) (o1 : Nat) (M : kg_M) (K : kg_M → Prop) : Prop :=
  ∀ M2 : kg_M, M2 = kg_row M o (upd (M o) 0 (M o1 0)) → (∀ M5 : kg_M, M5 = kg_row M2 o (upd (M2 o) 1 (M2 o1 1)) → (∀ M8 : kg_M, M8 = kg_row M5 o (upd (M5 o) 2 (M5 o1 2)) → (∀ M11 : kg_M, M11 = kg_row M8 o (upd (M8 o) 3 (M8 o1 3)) → (∀ M14 : kg_M, M14 = kg_row M11 o (upd (M11 o) 4 (M11 o1 4)) → (∀ M17 : kg_M, M17 = kg_row M14 o (upd (M14 o) 5 (M14 o1 5)) → (∀ M20 : kg_M, M20 = kg_row M17 (o + 1) (va_cpy (M17 (o1 + 1)) (M17 (o + 1)) (0 : Int32).toNatClampNeg (0 : Int32).toNatClampNeg (7 : Int32).toNatClampNeg) → (∀ M23 : kg_M, M23 = kg_row M20 (o + 2) (va_cpy (M20 (o1 + 2)) (M20 (o + 2)) (0 : Int32).toNatClampNeg (0 : Int32).toNatClampNeg (5 : Int32).toNatClampNeg) → (∀ M26 : kg_M, M26 = kg_row M23 (o + 3) (va_cpy (M23 (o1 + 3)) (M23 (o + 3)) (0 : Int32).toNatClampNeg (0 : Int32).toNatClampNeg (20 : Int32).toNatClampNeg) → (K M26)))))))))
def wJ_X4_remember_35 (o1 : Nat) (K : kg_M → Prop) (s1 : Int32) (M : kg_M) : Prop :=
  ∀ M11 : kg_M, M11 = kg_row M 7 (upd (M 7) 1 s1) → (∀ M14 : kg_M, M14 = kg_row M11 7 (upd (M11 7) 2 (if (20 : Int32) < ((M11 7 2) + (1 : Int32)) then (20 : Int32) else ((M11 7 2) + (1 : Int32)))) → (K M14))
def wp_X4_remember (o1 : Nat) (M : kg_M) (K : kg_M → Prop) : Prop :=
  vp_in (M 7 1) 20 ∧ (wp_X5_copyFrom (9 + 4 * (M 7 1).toNatClampNeg) o1 M (fun (M4 : kg_M) => ((20 : Int32) ≤ ((M4 7 1) + (1 : Int32)) → wJ_X4_remember_35 o1 K (0 : Int32) M4) ∧ (¬ (20 : Int32) ≤ ((M4 7 1) + (1 : Int32)) → wJ_X4_remember_35 o1 K ((M4 7 1) + (1 : Int32)) M4)))
def wJ_X4_restore_26 (o1 : Nat) (K : kg_M → Prop) (s1 : Int32) (M : kg_M) : Prop :=
  ∀ M9 : kg_M, M9 = kg_row M 7 (upd (M 7) 1 s1) → (∀ M12 : kg_M, M12 = kg_row M9 7 (upd (M9 7) 2 ((M9 7 2) - (1 : Int32))) → (vp_in (M12 7 1) 20 ∧ (wp_X5_copyFrom o1 (9 + 4 * (M12 7 1).toNatClampNeg) M12 (fun (M17 : kg_M) => K M17))))
def wp_X4_restore (o1 : Nat) (M : kg_M) (K : kg_M → Prop) : Prop :=
  ((M 7 2) ≤ 0 → K M) ∧ (¬ (M 7 2) ≤ 0 → ((M 7 1) ≤ 0 → wJ_X4_restore_26 o1 K (19 : Int32) M) ∧ (¬ (M 7 1) ≤ 0 → wJ_X4_restore_26 o1 K ((M 7 1) - (1 : Int32)) M))
def wp_X5_begin (o1 : Nat) (M : kg_M) (K : kg_M → Prop) : Prop :=
  ∀ M2 : kg_M, M2 = kg_row M 3 (upd (M 3) 0 (0 : Int32)) → (∀ M5 : kg_M, M5 = kg_row M2 3 (upd (M2 3) 1 (0 : Int32)) → (∀ M8 : kg_M, M8 = kg_row M5 3 (upd (M5 3) 2 (0 : Int32)) → (∀ M11 : kg_M, M11 = kg_row M8 3 (upd (M8 3) 3 (M8 o1 2)) → (∀ M14 : kg_M, M14 = kg_row M11 3 (upd (M11 3) 4 (M11 o1 3)) → (∀ M17 : kg_M, M17 = kg_row M14 3 (upd (M14 3) 5 (0 : Int32)) → (wp_J7_fill_53178 4 7 (-1 : Int32) M17 (fun (M20 : kg_M) => wp_J7_fill_53178 5 5 (0 : Int32) M20 (fun (M23 : kg_M) => K M23))))))))
def wp_X5_isRusted (o1 : Nat) (v2 : Int32) (M : kg_M) (K : Int32 → kg_M → Prop) : Prop :=
  vp_in v2 5 ∧ (vp_in v2 5 ∧ (((M 5 v2.toNatClampNeg) < (M (o1 + 1) v2.toNatClampNeg) → K (0 : Int32) M) ∧ (¬ (M 5 v2.toNatClampNeg) < (M (o1 + 1) v2.toNatClampNeg) → K (1 : Int32) M)))
def wL_X5_madeIllBy_6  (Kx57 : Int32 → kg_M → Prop) (K : Int32 → kg_M → Prop) : Nat → Int32 → Int32 → kg_M → Prop
  | 0, _, _, _ => False
  | f + 1, v2, v3, M => ((M 3 5) ≤ v3 → Kx57 v2 M) ∧ (¬ (M 3 5) ≤ v3 → vp_in v3 20 ∧ (vp_in v3 20 ∧ (((v2 &&& (((1 : Int32) <<< (((M 6 v3.toNatClampNeg) / (10 : Int32)) &&& 31)) ||| ((1 : Int32) <<< (((M 6 v3.toNatClampNeg) - (M 6 v3.toNatClampNeg) / (10 : Int32) * (10 : Int32)) &&& 31)))) = 0 → wL_X5_madeIllBy_6  Kx57 K f v2 (v3 + (1 : Int32)) M) ∧ (¬ (v2 &&& (((1 : Int32) <<< (((M 6 v3.toNatClampNeg) / (10 : Int32)) &&& 31)) ||| ((1 : Int32) <<< (((M 6 v3.toNatClampNeg) - (M 6 v3.toNatClampNeg) / (10 : Int32) * (10 : Int32)) &&& 31)))) = 0 → wL_X5_madeIllBy_6  Kx57 K f (v2 ||| (((1 : Int32) <<< (((M 6 v3.toNatClampNeg) / (10 : Int32)) &&& 31)) ||| ((1 : Int32) <<< (((M 6 v3.toNatClampNeg) - (M 6 v3.toNatClampNeg) / (10 : Int32) * (10 : Int32)) &&& 31)))) (v3 + (1 : Int32)) M))))
def wp_X5_madeIllBy (v1 : Int32) (M : kg_M) (K : Int32 → kg_M → Prop) : Prop :=
  ∃ g : Nat, wL_X5_madeIllBy_6  (fun (v2 : Int32) (M : kg_M) => K v2 M) K g ((1 : Int32) <<< (v1 &&& 31)) (0 : Int32) M
def wJ_X5_meet_91  (K : kg_M → Prop) (v1 : Int32) (v2 : Int32) (M : kg_M) : Prop :=
  vp_in (M 3 5) 20 ∧ (∀ M28 : kg_M, M28 = kg_row M 6 (upd (M 6) (M 3 5).toNatClampNeg (((10 : Int32) * v1) + v2)) → (∀ M31 : kg_M, M31 = kg_row M28 3 (upd (M28 3) 5 ((M28 3 5) + (1 : Int32))) → (K M31)))
def wJ_X5_meet_37  (K : kg_M → Prop) (v1 : Int32) (v2 : Int32) (M : kg_M) : Prop :=
  vp_in v1 7 ∧ (∀ M11 : kg_M, M11 = kg_row M 4 (upd (M 4) v1.toNatClampNeg (-1 : Int32)) → (vp_in v2 7 ∧ (∀ M16 : kg_M, M16 = kg_row M11 4 (upd (M11 4) v2.toNatClampNeg (-1 : Int32)) → (∀ M19 : kg_M, M19 = kg_row M16 3 (upd (M16 3) 1 ((M16 3 1) + (1 : Int32))) → (((M19 3 5) < (20 : Int32) → wJ_X5_meet_91  K v1 v2 M19) ∧ (¬ (M19 3 5) < (20 : Int32) → ∀ M34 : kg_M, M34 = kg_row M19 6 (va_cpy (M19 6) (M19 6) (1 : Int32).toNatClampNeg (0 : Int32).toNatClampNeg (19 : Int32).toNatClampNeg) → (∀ M37 : kg_M, M37 = kg_row M34 3 (upd (M34 3) 5 (19 : Int32)) → (wJ_X5_meet_91  K v1 v2 M37))))))))
def wp_X5_meet (v1 : Int32) (v2 : Int32) (M : kg_M) (K : kg_M → Prop) : Prop :=
  ∀ M2 : kg_M, M2 = kg_row M 3 (upd (M 3) 3 ((M 3 3) ^^^ (((1 : Int32) <<< (v1 &&& 31)) ||| ((1 : Int32) <<< (v2 &&& 31))))) → ((((M2 3 4) &&& (((1 : Int32) <<< (v1 &&& 31)) ||| ((1 : Int32) <<< (v2 &&& 31)))) = 0 → wJ_X5_meet_37  K v1 v2 M2) ∧ (¬ ((M2 3 4) &&& (((1 : Int32) <<< (v1 &&& 31)) ||| ((1 : Int32) <<< (v2 &&& 31)))) = 0 → ∀ M40 : kg_M, M40 = kg_row M2 3 (upd (M2 3) 4 ((M2 3 4) ||| (((1 : Int32) <<< (v1 &&& 31)) ||| ((1 : Int32) <<< (v2 &&& 31))))) → (wJ_X5_meet_37  K v1 v2 M40)))
def wL_X5_waitingAt_5 (o1 : Nat) (Kx38 : Int32 → kg_M → Prop) (K : Int32 → kg_M → Prop) : Nat → Int32 → Int32 → Int32 → kg_M → Prop
  | 0, _, _, _, _ => False
  | f + 1, v2, v3, v4, M => ((M o1 1) ≤ v4 → Kx38 v3 M) ∧ (¬ (M o1 1) ≤ v4 → vp_in v4 7 ∧ ((¬ (M 4 v4.toNatClampNeg) = v2 → wL_X5_waitingAt_5 o1 Kx38 K f v2 v3 (v4 + (1 : Int32)) M) ∧ ((M 4 v4.toNatClampNeg) = v2 → wL_X5_waitingAt_5 o1 Kx38 K f v2 (v3 ||| ((1 : Int32) <<< (v4 &&& 31))) (v4 + (1 : Int32)) M)))
def wp_X5_waitingAt (o1 : Nat) (v2 : Int32) (M : kg_M) (K : Int32 → kg_M → Prop) : Prop :=
  ∃ g : Nat, wL_X5_waitingAt_5 o1 (fun (v3 : Int32) (M : kg_M) => K v3 M) K g v2 (0 : Int32) (0 : Int32) M
def wL_X5_meetAt_62 (o1 : Nat) (Kx119 : Int32 → Int32 → Int32 → Int32 → Int32 → kg_M → Prop) (K : Int32 → kg_M → Prop) : Nat → Int32 → Int32 → Int32 → Int32 → Int32 → Int32 → Int32 → kg_M → Prop
  | 0, _, _, _, _, _, _, _, _ => False
  | f + 1, v3, v4, v5, v6, v7, v8, v9, M => ((M o1 1) ≤ v9 → Kx119 v3 v4 v5 v6 v7 M) ∧ (¬ (M o1 1) ≤ v9 → (¬ ((v8 >>> (v9 &&& 31)) &&& (1 : Int32)) = (1 : Int32) → wL_X5_meetAt_62 o1 Kx119 K f v3 v4 v5 v6 v7 v8 (v9 + (1 : Int32)) M) ∧ (((v8 >>> (v9 &&& 31)) &&& (1 : Int32)) = (1 : Int32) → wp_X0_together o1 v7 v9 M (fun (r21 : Int32) (M19 : kg_M) => (r21 ≤ v6 → wL_X5_meetAt_62 o1 Kx119 K f v3 v4 v5 v6 v7 v8 (v9 + (1 : Int32)) M19) ∧ (¬ r21 ≤ v6 → wp_X0_together o1 v7 v9 M19 (fun (r27 : Int32) (M25 : kg_M) => wL_X5_meetAt_62 o1 Kx119 K f v3 v7 v9 r27 v7 v8 (v9 + (1 : Int32)) M25)))))
def wL_X5_meetAt_19 (o1 : Nat) (Kx125 : Int32 → Int32 → kg_M → Prop) (K : Int32 → kg_M → Prop) : Nat → Int32 → Int32 → Int32 → Int32 → Int32 → kg_M → Prop
  | 0, _, _, _, _, _, _ => False
  | f + 1, v3, v4, v5, v6, v7, M => ((M o1 1) ≤ v7 → Kx125 v4 v5 M) ∧ (¬ (M o1 1) ≤ v7 → (¬ ((v3 >>> (v7 &&& 31)) &&& (1 : Int32)) = (1 : Int32) → ∃ g : Nat, wL_X5_meetAt_62 o1 (fun (v3 : Int32) (v4 : Int32) (v5 : Int32) (v6 : Int32) (v7 : Int32) (M : kg_M) => wL_X5_meetAt_19 o1 Kx125 K f v3 v4 v5 v6 (v7 + (1 : Int32)) M) K g v3 v4 v5 v6 v7 (0 : Int32) (v7 + (1 : Int32)) M) ∧ (((v3 >>> (v7 &&& 31)) &&& (1 : Int32)) = (1 : Int32) → wp_X0_wouldMeet o1 v7 (M 3 3) M (fun (r33 : Int32) (M31 : kg_M) => ∃ g : Nat, wL_X5_meetAt_62 o1 (fun (v3 : Int32) (v4 : Int32) (v5 : Int32) (v6 : Int32) (v7 : Int32) (M : kg_M) => wL_X5_meetAt_19 o1 Kx125 K f v3 v4 v5 v6 (v7 + (1 : Int32)) M) K g v3 v4 v5 v6 v7 (v3 &&& r33) (v7 + (1 : Int32)) M31)))
def wp_X5_meetAt (o1 : Nat) (v2 : Int32) (M : kg_M) (K : Int32 → kg_M → Prop) : Prop :=
  wp_X5_waitingAt o1 v2 M (fun (r4 : Int32) (M2 : kg_M) => ∃ g : Nat, wL_X5_meetAt_19 o1 (fun (v4 : Int32) (v5 : Int32) (M : kg_M) => (v4 = (-1 : Int32) → K (0 : Int32) M) ∧ (¬ v4 = (-1 : Int32) → (¬ v5 = (-1 : Int32) → wp_X5_meet v4 v5 M (fun (M44 : kg_M) => K (1 : Int32) M44)) ∧ (v5 = (-1 : Int32) → K (0 : Int32) M))) K g r4 (-1 : Int32) (-1 : Int32) (0 : Int32) (0 : Int32) M2)
def wJ_X5_passHour_45 (o1 : Nat) (Kb : Int32 → kg_M → Prop) (Kx52 : kg_M → Prop) (K : kg_M → Prop) (v2 : Int32) (s1 : Int32) (s2 : Int32) (M : kg_M) : Prop :=
  vp_in s1 5 ∧ (∀ M23 : kg_M, M23 = kg_row M 5 (upd (M 5) s1.toNatClampNeg s2) → (Kb (v2 + (1 : Int32)) M23))
def wL_X5_passHour_2 (o1 : Nat) (Kx52 : kg_M → Prop) (K : kg_M → Prop) : Nat → Int32 → kg_M → Prop
  | 0, _, _ => False
  | f + 1, v2, M => ((M o1 0) ≤ v2 → Kx52  M) ∧ (¬ (M o1 0) ≤ v2 → wp_X5_isRusted o1 v2 M (fun (r8 : Int32) (M6 : kg_M) => (¬ r8 = 0 → wL_X5_passHour_2 o1 Kx52 K f (v2 + (1 : Int32)) M6) ∧ (r8 = 0 → wp_X5_meetAt o1 v2 M6 (fun (r14 : Int32) (M12 : kg_M) => (r14 = 0 → vp_in v2 5 ∧ (wJ_X5_passHour_45 o1 (wL_X5_passHour_2 o1 Kx52 K f) Kx52 K v2 v2 ((M12 5 v2.toNatClampNeg) + (1 : Int32)) M12)) ∧ (¬ r14 = 0 → wJ_X5_passHour_45 o1 (wL_X5_passHour_2 o1 Kx52 K f) Kx52 K v2 v2 (0 : Int32) M12)))))
def wp_X5_passHour (o1 : Nat) (M : kg_M) (K : kg_M → Prop) : Prop :=
  ∃ g : Nat, wL_X5_passHour_2 o1 (fun (M : kg_M) => ∀ M27 : kg_M, M27 = kg_row M 3 (upd (M 3) 0 ((M 3 0) + (1 : Int32))) → (K M27)) K g (0 : Int32) M
def wL_X5_rusted_4 (o1 : Nat) (Kx33 : Int32 → kg_M → Prop) (K : Int32 → kg_M → Prop) : Nat → Int32 → Int32 → kg_M → Prop
  | 0, _, _, _ => False
  | f + 1, v2, v3, M => ((M o1 0) ≤ v3 → Kx33 v2 M) ∧ (¬ (M o1 0) ≤ v3 → wp_X5_isRusted o1 v3 M (fun (r8 : Int32) (M6 : kg_M) => (r8 = 0 → wL_X5_rusted_4 o1 Kx33 K f v2 (v3 + (1 : Int32)) M6) ∧ (¬ r8 = 0 → wL_X5_rusted_4 o1 Kx33 K f (v2 ||| ((1 : Int32) <<< (v3 &&& 31))) (v3 + (1 : Int32)) M6)))
def wp_X5_rusted (o1 : Nat) (M : kg_M) (K : Int32 → kg_M → Prop) : Prop :=
  ∃ g : Nat, wL_X5_rusted_4 o1 (fun (v2 : Int32) (M : kg_M) => K v2 M) K g (0 : Int32) (0 : Int32) M
def wL_X5_waiting_4 (o1 : Nat) (Kx34 : Int32 → kg_M → Prop) (K : Int32 → kg_M → Prop) : Nat → Int32 → Int32 → kg_M → Prop
  | 0, _, _, _ => False
  | f + 1, v2, v3, M => ((M o1 1) ≤ v3 → Kx34 v2 M) ∧ (¬ (M o1 1) ≤ v3 → vp_in v3 7 ∧ (((M 4 v3.toNatClampNeg) = (-1 : Int32) → wL_X5_waiting_4 o1 Kx34 K f v2 (v3 + (1 : Int32)) M) ∧ (¬ (M 4 v3.toNatClampNeg) = (-1 : Int32) → wL_X5_waiting_4 o1 Kx34 K f (v2 ||| ((1 : Int32) <<< (v3 &&& 31))) (v3 + (1 : Int32)) M)))
def wp_X5_waiting (o1 : Nat) (M : kg_M) (K : Int32 → kg_M → Prop) : Prop :=
  ∃ g : Nat, wL_X5_waiting_4 o1 (fun (v2 : Int32) (M : kg_M) => K v2 M) K g (0 : Int32) (0 : Int32) M
def wp_X6_append (v1 : Int32) (M : kg_M) (K : Int32 → kg_M → Prop) : Prop :=
  ((240 : Int32) ≤ (M 1 1) → K (M 1 1) M) ∧ (¬ (240 : Int32) ≤ (M 1 1) → vp_in (M 1 1) 240 ∧ (∀ M7 : kg_M, M7 = kg_row M 2 (upd (M 2) (M 1 1).toNatClampNeg v1) → (∀ M10 : kg_M, M10 = kg_row M7 1 (upd (M7 1) 1 ((M7 1 1) + (1 : Int32))) → (K (M10 1 1) M10))))
def wp_X6_blame (v1 : Int32) (v2 : Int32) (M : kg_M) (K : kg_M → Prop) : Prop :=
  (¬ (M 1 4) = 0 → K M) ∧ ((M 1 4) = 0 → ∀ M5 : kg_M, M5 = kg_row M 1 (upd (M 1) 4 v1) → (∀ M8 : kg_M, M8 = kg_row M5 1 (upd (M5 1) 5 v2) → (K M8)))
def wL_X6_skipBlanks_0  (Kx38 : kg_M → Prop) (K : kg_M → Prop) : Nat → kg_M → Prop
  | 0, _ => False
  | f + 1, M => ((M 1 1) ≤ (M 1 2) → Kx38  M) ∧ (¬ (M 1 1) ≤ (M 1 2) → vp_in (M 1 2) 240 ∧ ((¬ (M 2 (M 1 2).toNatClampNeg) = (32 : Int32) → Kx38  M) ∧ ((M 2 (M 1 2).toNatClampNeg) = (32 : Int32) → ∀ M11 : kg_M, M11 = kg_row M 1 (upd (M 1) 2 ((M 1 2) + (1 : Int32))) → (wL_X6_skipBlanks_0  Kx38 K f  M11))))
def wp_X6_skipBlanks  (M : kg_M) (K : kg_M → Prop) : Prop :=
  ∃ g : Nat, wL_X6_skipBlanks_0  (fun (M : kg_M) => K M) K g  M
def wJ_X6_readEnd_38  (K : Int32 → kg_M → Prop) (M : kg_M) : Prop :=
  wp_X6_blame (1 : Int32) (M 1 2) M (fun (M12 : kg_M) => K (0 : Int32) M12)
def wp_X6_readEnd  (M : kg_M) (K : Int32 → kg_M → Prop) : Prop :=
  ((M 1 4) = 0 → wp_X6_skipBlanks  M (fun (M5 : kg_M) => ((M5 1 1) ≤ (M5 1 2) → wJ_X6_readEnd_38  K  M5) ∧ (¬ (M5 1 1) ≤ (M5 1 2) → vp_in (M5 1 2) 240 ∧ (((M5 2 (M5 1 2).toNatClampNeg) = (59 : Int32) → ∀ M20 : kg_M, M20 = kg_row M5 1 (upd (M5 1) 2 ((M5 1 2) + (1 : Int32))) → (K (1 : Int32) M20)) ∧ (¬ (M5 2 (M5 1 2).toNatClampNeg) = (59 : Int32) → wJ_X6_readEnd_38  K  M5))))) ∧ (¬ (M 1 4) = 0 → K (0 : Int32) M)
def wJ_X6_readNumber_93  (Kb : Int32 → Int32 → Int32 → kg_M → Prop) (Kx106 : Int32 → Int32 → Int32 → kg_M → Prop) (K : Int32 → kg_M → Prop) (v1 : Int32) (v2 : Int32) (v3 : Int32) (M : kg_M) : Prop :=
  ∀ M29 : kg_M, M29 = kg_row M 1 (upd (M 1) 2 ((M 1 2) + (1 : Int32))) → (Kb v1 v2 v3 M29)
def wL_X6_readNumber_23  (Kx106 : Int32 → Int32 → Int32 → kg_M → Prop) (K : Int32 → kg_M → Prop) : Nat → Int32 → Int32 → Int32 → kg_M → Prop
  | 0, _, _, _, _ => False
  | f + 1, v1, v2, v3, M => ((M 1 1) ≤ (M 1 2) → Kx106 v1 v2 v3 M) ∧ (¬ (M 1 1) ≤ (M 1 2) → vp_in (M 1 2) 240 ∧ (((M 2 (M 1 2).toNatClampNeg) < (48 : Int32) → Kx106 v1 v2 v3 M) ∧ (¬ (M 2 (M 1 2).toNatClampNeg) < (48 : Int32) → vp_in (M 1 2) 240 ∧ (((57 : Int32) < (M 2 (M 1 2).toNatClampNeg) → Kx106 v1 v2 v3 M) ∧ (¬ (57 : Int32) < (M 2 (M 1 2).toNatClampNeg) → ((3 : Int32) ≤ ((M 1 2) - (M 1 3)) → wJ_X6_readNumber_93  (wL_X6_readNumber_23  Kx106 K f) Kx106 K v1 v2 v3 M) ∧ (¬ (3 : Int32) ≤ ((M 1 2) - (M 1 3)) → vp_in (M 1 2) 240 ∧ (wJ_X6_readNumber_93  (wL_X6_readNumber_23  Kx106 K f) Kx106 K v1 v2 ((((10 : Int32) * v3) + (M 2 (M 1 2).toNatClampNeg)) - (48 : Int32)) M)))))))
def wJ_X6_readNumber_152  (K : Int32 → kg_M → Prop) (v3 : Int32) (M : kg_M) : Prop :=
  wp_X6_blame (2 : Int32) (M 1 3) M (fun (M43 : kg_M) => K v3 M43)
def wJ_X6_readNumber_106  (K : Int32 → kg_M → Prop) (v1 : Int32) (v2 : Int32) (v3 : Int32) (M : kg_M) : Prop :=
  (¬ (M 1 2) = (M 1 3) → ((3 : Int32) < ((M 1 2) - (M 1 3)) → wJ_X6_readNumber_152  K v3 M) ∧ (¬ (3 : Int32) < ((M 1 2) - (M 1 3)) → (v3 < v1 → wJ_X6_readNumber_152  K v3 M) ∧ (¬ v3 < v1 → (v3 ≤ v2 → K v3 M) ∧ (¬ v3 ≤ v2 → wJ_X6_readNumber_152  K v3 M)))) ∧ ((M 1 2) = (M 1 3) → wp_X6_blame (1 : Int32) (M 1 2) M (fun (M52 : kg_M) => K v3 M52))
def wp_X6_readNumber (v1 : Int32) (v2 : Int32) (M : kg_M) (K : Int32 → kg_M → Prop) : Prop :=
  ((M 1 4) = 0 → wp_X6_skipBlanks  M (fun (M5 : kg_M) => ∀ M8 : kg_M, M8 = kg_row M5 1 (upd (M5 1) 3 (M5 1 2)) → (∃ g : Nat, wL_X6_readNumber_23  (fun (v1 : Int32) (v2 : Int32) (v3 : Int32) (M : kg_M) => wJ_X6_readNumber_106  K v1 v2 v3 M) K g v1 v2 (0 : Int32) M8))) ∧ (¬ (M 1 4) = 0 → K (0 : Int32) M)
def wJ_X6_readGate_14 (o1 : Nat) (K : kg_M → Prop) (M : kg_M) : Prop :=
  wp_X6_readNumber (1 : Int32) (99 : Int32) M (fun (r8 : Int32) (M6 : kg_M) => wp_X6_readEnd  M6 (fun (r11 : Int32) (M9 : kg_M) => (r11 = 0 → K M9) ∧ (¬ r11 = 0 → wp_X0_addGate o1 r8 M9 (fun (M15 : kg_M) => K M15))))
def wp_X6_readGate (o1 : Nat) (v2 : Int32) (M : kg_M) (K : kg_M → Prop) : Prop :=
  ((M o1 0) < (5 : Int32) → wJ_X6_readGate_14 o1 K  M) ∧ (¬ (M o1 0) < (5 : Int32) → wp_X6_blame (3 : Int32) v2 M (fun (M18 : kg_M) => wJ_X6_readGate_14 o1 K  M18))
def wJ_X6_readLiking_47 (o1 : Nat) (K : kg_M → Prop) (v2 : Int32) (v3 : Int32) (M : kg_M) : Prop :=
  wp_X6_readNumber (0 : Int32) (9 : Int32) M (fun (r18 : Int32) (M16 : kg_M) => wp_X6_readEnd  M16 (fun (r21 : Int32) (M19 : kg_M) => (r21 = 0 → K M19) ∧ (¬ r21 = 0 → wp_X0_addLiking o1 v2 v3 r18 M19 (fun (M25 : kg_M) => K M25))))
def wJ_X6_readLiking_38 (o1 : Nat) (K : kg_M → Prop) (v2 : Int32) (v3 : Int32) (M : kg_M) : Prop :=
  wp_X6_blame (4 : Int32) (M 1 3) M (fun (M12 : kg_M) => wJ_X6_readLiking_47 o1 K v2 v3 M12)
def wp_X6_readLiking (o1 : Nat) (M : kg_M) (K : kg_M → Prop) : Prop :=
  wp_X6_readNumber (0 : Int32) ((M o1 1) - (1 : Int32)) M (fun (r4 : Int32) (M2 : kg_M) => wp_X6_readNumber (0 : Int32) ((M2 o1 1) - (1 : Int32)) M2 (fun (r7 : Int32) (M5 : kg_M) => (r4 = r7 → wJ_X6_readLiking_38 o1 K r4 r7 M5) ∧ (¬ r4 = r7 → wp_X0_isTold o1 r4 r7 M5 (fun (r30 : Int32) (M28 : kg_M) => (r30 = 0 → wJ_X6_readLiking_47 o1 K r4 r7 M28) ∧ (¬ r30 = 0 → wJ_X6_readLiking_38 o1 K r4 r7 M28)))))
def wJ_X6_readPerson_15 (o1 : Nat) (K : kg_M → Prop) (M : kg_M) : Prop :=
  wp_X6_readNumber (0 : Int32) (1 : Int32) M (fun (r8 : Int32) (M6 : kg_M) => wp_X6_readNumber (0 : Int32) (1 : Int32) M6 (fun (r11 : Int32) (M9 : kg_M) => wp_X6_readEnd  M9 (fun (r14 : Int32) (M12 : kg_M) => (r14 = 0 → K M12) ∧ (¬ r14 = 0 → wp_X0_addPerson o1 r8 r11 M12 (fun (M18 : kg_M) => K M18)))))
def wp_X6_readPerson (o1 : Nat) (v2 : Int32) (M : kg_M) (K : kg_M → Prop) : Prop :=
  ((M o1 1) < (7 : Int32) → wJ_X6_readPerson_15 o1 K  M) ∧ (¬ (M o1 1) < (7 : Int32) → wp_X6_blame (3 : Int32) v2 M (fun (M21 : kg_M) => wJ_X6_readPerson_15 o1 K  M21))
def wp_X6_readClause (o1 : Nat) (M : kg_M) (K : kg_M → Prop) : Prop :=
  ∀ M2 : kg_M, M2 = kg_row M 1 (upd (M 1) 2 ((M 1 2) + (1 : Int32))) → (vp_in (M 1 2) 240 ∧ (((M2 2 (M 1 2).toNatClampNeg) = (103 : Int32) → wp_X6_readGate o1 (M 1 2) M2 (fun (M11 : kg_M) => K M11)) ∧ (¬ (M2 2 (M 1 2).toNatClampNeg) = (103 : Int32) → ((M2 2 (M 1 2).toNatClampNeg) = (108 : Int32) → wp_X6_readLiking o1 M2 (fun (M17 : kg_M) => K M17)) ∧ (¬ (M2 2 (M 1 2).toNatClampNeg) = (108 : Int32) → ((M2 2 (M 1 2).toNatClampNeg) = (112 : Int32) → wp_X6_readPerson o1 (M 1 2) M2 (fun (M23 : kg_M) => K M23)) ∧ (¬ (M2 2 (M 1 2).toNatClampNeg) = (112 : Int32) → wp_X6_blame (1 : Int32) (M 1 2) M2 (fun (M27 : kg_M) => K M27))))))
def wL_X6_readInto_25 (o1 : Nat) (Kx65 : kg_M → Prop) (K : Int32 → kg_M → Prop) : Nat → Int32 → kg_M → Prop
  | 0, _, _ => False
  | f + 1, v2, M => ((240 : Int32) ≤ v2 → Kx65  M) ∧ (¬ (240 : Int32) ≤ v2 → (¬ (M 1 4) = 0 → Kx65  M) ∧ ((M 1 4) = 0 → ((M 1 1) ≤ (M 1 2) → Kx65  M) ∧ (¬ (M 1 1) ≤ (M 1 2) → wp_X6_readClause o1 M (fun (M27 : kg_M) => wp_X6_skipBlanks  M27 (fun (M30 : kg_M) => wL_X6_readInto_25 o1 Kx65 K f (v2 + (1 : Int32)) M30)))))
def wp_X6_readInto (o1 : Nat) (M : kg_M) (K : Int32 → kg_M → Prop) : Prop :=
  ∀ M2 : kg_M, M2 = kg_row M 1 (upd (M 1) 2 (0 : Int32)) → (∀ M5 : kg_M, M5 = kg_row M2 1 (upd (M2 1) 4 (0 : Int32)) → (∀ M8 : kg_M, M8 = kg_row M5 1 (upd (M5 1) 5 (-1 : Int32)) → (wp_X0_empty o1 M8 (fun (M11 : kg_M) => wp_X6_skipBlanks  M11 (fun (M14 : kg_M) => ∃ g : Nat, wL_X6_readInto_25 o1 (fun (M : kg_M) => K (M 1 4) M) K g (0 : Int32) M14)))))
def wL_X7_greatestPart_5 (L : Nat) (Kx51 : Int32 → Int32 → kg_M → Prop) (K : Int32 → kg_M → Prop) : Nat → Int32 → Int32 → Int32 → Int32 → kg_M → Prop
  | 0, _, _, _, _, _ => False
  | f + 1, v1, v2, v3, v4, M => ((M L 1) ≤ v4 → Kx51 v1 v3 M) ∧ (¬ (M L 1) ≤ v4 → (¬ ((v1 >>> (v4 &&& 31)) &&& (1 : Int32)) = (1 : Int32) → wL_X7_greatestPart_5 L Kx51 K f v1 v2 v3 (v4 + (1 : Int32)) M) ∧ (((v1 >>> (v4 &&& 31)) &&& (1 : Int32)) = (1 : Int32) → vp_in v4 7 ∧ ((¬ (((M 108 v4.toNatClampNeg) >>> (v2 &&& 31)) &&& (1 : Int32)) = (1 : Int32) → wL_X7_greatestPart_5 L Kx51 K f v1 v2 v3 (v4 + (1 : Int32)) M) ∧ ((((M 108 v4.toNatClampNeg) >>> (v2 &&& 31)) &&& (1 : Int32)) = (1 : Int32) → wL_X7_greatestPart_5 L Kx51 K f v1 v2 (v3 + (1 : Int32)) (v4 + (1 : Int32)) M))))
def wp_X7_greatestPart (L : Nat) (v1 : Int32) (v2 : Int32) (M : kg_M) (K : Int32 → kg_M → Prop) : Prop :=
  ∃ g : Nat, wL_X7_greatestPart_5 L (fun (v1 : Int32) (v3 : Int32) (M : kg_M) => wp_J6_bitCount_0f7a4 v1 M (fun (r17 : Int32) (M15 : kg_M) => K (if v3 < (r17 - v3) then (r17 - v3) else v3) M15)) K g v1 v2 (0 : Int32) (0 : Int32) M
def wL_X7_mayBe_4 (L : Nat) (Kx45 : Int32 → kg_M → Prop) (K : Int32 → kg_M → Prop) : Nat → Int32 → Int32 → kg_M → Prop
  | 0, _, _, _ => False
  | f + 1, v1, v2, M => ((M L 1) ≤ v2 → Kx45 v1 M) ∧ (¬ (M L 1) ≤ v2 → wp_X5_madeIllBy v2 M (fun (r8 : Int32) (M6 : kg_M) => wp_X2_allows r8 M6 (fun (r11 : Int32) (M9 : kg_M) => (r11 = 0 → wL_X7_mayBe_4 L Kx45 K f v1 (v2 + (1 : Int32)) M9) ∧ (¬ r11 = 0 → wL_X7_mayBe_4 L Kx45 K f (v1 ||| ((1 : Int32) <<< (v2 &&& 31))) (v2 + (1 : Int32)) M9))))
def wp_X7_mayBe (L : Nat) (M : kg_M) (K : Int32 → kg_M → Prop) : Prop :=
  ∃ g : Nat, wL_X7_mayBe_4 L (fun (v1 : Int32) (M : kg_M) => K v1 M) K g (0 : Int32) (0 : Int32) M
def wL_X7_ask_7 (L : Nat) (Kx38 : Int32 → kg_M → Prop) (K : Int32 → kg_M → Prop) : Nat → Int32 → Int32 → kg_M → Prop
  | 0, _, _, _ => False
  | f + 1, v1, v2, M => ((M L 1) ≤ v2 → Kx38 v1 M) ∧ (¬ (M L 1) ≤ v2 → wp_X5_madeIllBy v2 M (fun (r11 : Int32) (M9 : kg_M) => vp_in v2 7 ∧ (∀ M14 : kg_M, M14 = kg_row M9 108 (upd (M9 108) v2.toNatClampNeg r11) → (wL_X7_ask_7 L Kx38 K f v1 (v2 + (1 : Int32)) M14))))
def wL_X7_ask_48 (L : Nat) (Kx87 : Int32 → kg_M → Prop) (K : Int32 → kg_M → Prop) : Nat → Int32 → Int32 → Int32 → Int32 → kg_M → Prop
  | 0, _, _, _, _, _ => False
  | f + 1, v1, v2, v3, v4, M => ((M L 1) ≤ v4 → Kx87 v2 M) ∧ (¬ (M L 1) ≤ v4 → wp_X7_greatestPart L v1 v4 M (fun (r27 : Int32) (M25 : kg_M) => (v3 ≤ r27 → wL_X7_ask_48 L Kx87 K f v1 v2 v3 (v4 + (1 : Int32)) M25) ∧ (¬ v3 ≤ r27 → wL_X7_ask_48 L Kx87 K f v1 v4 r27 (v4 + (1 : Int32)) M25)))
def wp_X7_ask (L : Nat) (M : kg_M) (K : Int32 → kg_M → Prop) : Prop :=
  wp_X7_mayBe L M (fun (r4 : Int32) (M2 : kg_M) => ∃ g : Nat, wL_X7_ask_7 L (fun (v1 : Int32) (M : kg_M) => wp_J6_bitCount_0f7a4 v1 M (fun (r20 : Int32) (M18 : kg_M) => ∃ g : Nat, wL_X7_ask_48 L (fun (v2 : Int32) (M : kg_M) => K v2 M) K g v1 (-1 : Int32) r20 (0 : Int32) M18)) K g r4 (0 : Int32) M2)
def wp_X7_openGates (L : Nat) (M : kg_M) (K : Int32 → kg_M → Prop) : Prop :=
  wp_X5_rusted L M (fun (r4 : Int32) (M2 : kg_M) => wp_J6_bitCount_0f7a4 r4 M2 (fun (r7 : Int32) (M5 : kg_M) => K ((M L 0) - r7) M5))
def wJ_X7_atOnce_25 (L : Nat) (K : Int32 → kg_M → Prop) (v1 : Int32) (M : kg_M) : Prop :=
  wp_X7_openGates L M (fun (r8 : Int32) (M6 : kg_M) => wp_X3_find L (M 3 3) r8 M6 (fun (M9 : kg_M) => (¬ v1 = (-1 : Int32) → (¬ v1 = (-2 : Int32) → vp_in v1 7 ∧ (K (M9 93 v1.toNatClampNeg) M9)) ∧ (v1 = (-2 : Int32) → K (M9 92 3) M9)) ∧ (v1 = (-1 : Int32) → K (M9 92 2) M9)))
def wp_X7_atOnce (L : Nat) (v1 : Int32) (M : kg_M) (K : Int32 → kg_M → Prop) : Prop :=
  (v1 = (-1 : Int32) → wJ_X7_atOnce_25 L K v1 M) ∧ (¬ v1 = (-1 : Int32) → (v1 = (-2 : Int32) → wJ_X7_atOnce_25 L K v1 M) ∧ (¬ v1 = (-2 : Int32) → wp_X0_hasPerson L v1 M (fun (r25 : Int32) (M23 : kg_M) => (¬ r25 = 0 → wJ_X7_atOnce_25 L K v1 M23) ∧ (r25 = 0 → K (-1000000001 : Int32) M23))))
def wp_X7_come (L : Nat) (v1 : Int32) (v2 : Int32) (M : kg_M) (K : Int32 → kg_M → Prop) : Prop :=
  wp_X0_hasPerson L v1 M (fun (r4 : Int32) (M2 : kg_M) => (r4 = 0 → K (-1000000001 : Int32) M2) ∧ (¬ r4 = 0 → wp_X0_hasGate L v2 M2 (fun (r10 : Int32) (M8 : kg_M) => (¬ r10 = 0 → wp_X5_isRusted L v2 M8 (fun (r16 : Int32) (M14 : kg_M) => (¬ r16 = 0 → K (-1000000003 : Int32) M14) ∧ (r16 = 0 → vp_in v1 7 ∧ ((¬ (M14 4 v1.toNatClampNeg) = v2 → wp_X4_remember 3 M14 (fun (M25 : kg_M) => vp_in v1 7 ∧ (∀ M30 : kg_M, M30 = kg_row M25 4 (upd (M25 4) v1.toNatClampNeg v2) → (wp_X5_waitingAt L v2 M30 (fun (r35 : Int32) (M33 : kg_M) => K r35 M33))))) ∧ ((M14 4 v1.toNatClampNeg) = v2 → K (-1000000003 : Int32) M14))))) ∧ (r10 = 0 → K (-1000000001 : Int32) M8))))
def wp_X7_draw (L : Nat) (v1 : Int32) (M : kg_M) (K : Int32 → kg_M → Prop) : Prop :=
  ∀ M2 : kg_M, M2 = kg_row M 0 (upd (M 0) 13 ((((M 0 13) * (1103515245 : Int32)) + (12345 : Int32)) &&& (2147483647 : Int32))) → ((v1 ≤ 0 → K (0 : Int32) M2) ∧ (¬ v1 ≤ 0 → ¬ v1 = 0 ∧ (K (((M2 0 13) / (65536 : Int32)) - ((M2 0 13) / (65536 : Int32)) / v1 * v1) M2)))
def wp_X7_comeByDraw (L : Nat) (M : kg_M) (K : kg_M → Prop) : Prop :=
  ((M L 1) = 0 → K M) ∧ (¬ (M L 1) = 0 → (¬ (M L 0) = 0 → wp_X7_draw L (M L 1) M (fun (r10 : Int32) (M8 : kg_M) => wp_X7_draw L (M8 L 0) M8 (fun (r13 : Int32) (M11 : kg_M) => wp_X5_isRusted L r13 M11 (fun (r16 : Int32) (M14 : kg_M) => (¬ r16 = 0 → K M14) ∧ (r16 = 0 → vp_in r10 7 ∧ (∀ M22 : kg_M, M22 = kg_row M14 4 (upd (M14 4) r10.toNatClampNeg r13) → (K M22))))))) ∧ ((M L 0) = 0 → K M))
def wL_X7_dies_19 (L : Nat) (Kx82 : Int32 → Int32 → Int32 → kg_M → Prop) (K : Int32 → kg_M → Prop) : Nat → Int32 → Int32 → Int32 → Int32 → kg_M → Prop
  | 0, _, _, _, _, _ => False
  | f + 1, v1, v2, v3, v4, M => ((M L 0) ≤ v4 → Kx82 v1 v2 v3 M) ∧ (¬ (M L 0) ≤ v4 → vp_in v4 5 ∧ (vp_in v4 5 ∧ ((((M (L + 1) v4.toNatClampNeg) - (M 5 v4.toNatClampNeg)) ≤ 0 → wL_X7_dies_19 L Kx82 K f v1 v2 v3 (v4 + (1 : Int32)) M) ∧ (¬ ((M (L + 1) v4.toNatClampNeg) - (M 5 v4.toNatClampNeg)) ≤ 0 → (v2 = (-1 : Int32) → wL_X7_dies_19 L Kx82 K f v1 v4 ((M (L + 1) v4.toNatClampNeg) - (M 5 v4.toNatClampNeg)) (v4 + (1 : Int32)) M) ∧ (¬ v2 = (-1 : Int32) → (v3 ≤ ((M (L + 1) v4.toNatClampNeg) - (M 5 v4.toNatClampNeg)) → wL_X7_dies_19 L Kx82 K f v1 v2 v3 (v4 + (1 : Int32)) M) ∧ (¬ v3 ≤ ((M (L + 1) v4.toNatClampNeg) - (M 5 v4.toNatClampNeg)) → wL_X7_dies_19 L Kx82 K f v1 v4 ((M (L + 1) v4.toNatClampNeg) - (M 5 v4.toNatClampNeg)) (v4 + (1 : Int32)) M))))))
def wp_X7_dies (L : Nat) (v1 : Int32) (M : kg_M) (K : Int32 → kg_M → Prop) : Prop :=
  (v1 = 0 → ∃ g : Nat, wL_X7_dies_19 L (fun (v1 : Int32) (v2 : Int32) (v3 : Int32) (M : kg_M) => (¬ v1 = 0 → K v3 M) ∧ (v1 = 0 → K v2 M)) K g v1 (-1 : Int32) (-1 : Int32) (0 : Int32) M) ∧ (¬ v1 = 0 → (v1 = (1 : Int32) → ∃ g : Nat, wL_X7_dies_19 L (fun (v1 : Int32) (v2 : Int32) (v3 : Int32) (M : kg_M) => (¬ v1 = 0 → K v3 M) ∧ (v1 = 0 → K v2 M)) K g v1 (-1 : Int32) (-1 : Int32) (0 : Int32) M) ∧ (¬ v1 = (1 : Int32) → K (-1000000002 : Int32) M))
def wp_X7_refusalOfHours (L : Nat) (v1 : Int32) (M : kg_M) (K : Int32 → kg_M → Prop) : Prop :=
  (v1 < (1 : Int32) → K (-1000000002 : Int32) M) ∧ (¬ v1 < (1 : Int32) → (v1 ≤ (60 : Int32) → (¬ (M L 0) = 0 → ((M 3 0) ≤ (9000 : Int32) → K (0 : Int32) M) ∧ (¬ (M 3 0) ≤ (9000 : Int32) → K (-1000000004 : Int32) M)) ∧ ((M L 0) = 0 → K (-1000000003 : Int32) M)) ∧ (¬ v1 ≤ (60 : Int32) → K (-1000000002 : Int32) M))
def wL_X7_drift_25 (L : Nat) (Kx51 : kg_M → Prop) (K : Int32 → kg_M → Prop) : Nat → Int32 → Int32 → kg_M → Prop
  | 0, _, _, _ => False
  | f + 1, v1, v3, M => (v1 ≤ v3 → Kx51  M) ∧ (¬ v1 ≤ v3 → wp_X7_comeByDraw L M (fun (M15 : kg_M) => wp_X5_passHour L M15 (fun (M18 : kg_M) => wL_X7_drift_25 L Kx51 K f v1 (v3 + (1 : Int32)) M18)))
def wp_X7_drift (L : Nat) (v1 : Int32) (M : kg_M) (K : Int32 → kg_M → Prop) : Prop :=
  wp_X7_refusalOfHours L v1 M (fun (r4 : Int32) (M2 : kg_M) => (r4 = 0 → wp_X4_remember 3 M2 (fun (M8 : kg_M) => ∃ g : Nat, wL_X7_drift_25 L (fun (M : kg_M) => K (M 3 1) M) K g v1 (0 : Int32) M8)) ∧ (¬ r4 = 0 → K r4 M2))
def wL_X7_dry_30 (L : Nat) (Kx54 : Int64 → kg_M → Prop) (K : Int32 → kg_M → Prop) : Nat → Int32 → Int32 → Int64 → Int32 → kg_M → Prop
  | 0, _, _, _, _, _ => False
  | f + 1, v1, v2, v3, v5, M => (v1 ≤ v5 → Kx54 v3 M) ∧ (¬ v1 ≤ v5 → wL_X7_dry_30 L Kx54 K f v1 v2 ((v3 * (((100 : Int32) - v2).toInt64)) / (100 : Int64)) (v5 + (1 : Int32)) M)
def wp_X7_dry (L : Nat) (v1 : Int32) (v2 : Int32) (M : kg_M) (K : Int32 → kg_M → Prop) : Prop :=
  (v1 < 0 → K (-1000000002 : Int32) M) ∧ (¬ v1 < 0 → ((60 : Int32) < v1 → K (-1000000002 : Int32) M) ∧ (¬ (60 : Int32) < v1 → (v2 < 0 → K (-1000000002 : Int32) M) ∧ (¬ v2 < 0 → (v2 ≤ (100 : Int32) → ∃ g : Nat, wL_X7_dry_30 L (fun (v3 : Int64) (M : kg_M) => K v3.toInt32 M) K g v1 v2 (1000000000 : Int64) (0 : Int32) M) ∧ (¬ v2 ≤ (100 : Int32) → K (-1000000002 : Int32) M))))
def wp_X7_evening (L : Nat) (v1 : Int32) (M : kg_M) (K : Int32 → kg_M → Prop) : Prop :=
  wp_X0_hasPerson L v1 M (fun (r4 : Int32) (M2 : kg_M) => (¬ r4 = 0 → vp_in v1 7 ∧ ((¬ (M2 4 v1.toNatClampNeg) = (-1 : Int32) → wp_X0_wouldMeet L v1 (M2 3 3) M2 (fun (r15 : Int32) (M13 : kg_M) => wp_X5_waitingAt L (M2 4 v1.toNatClampNeg) M13 (fun (r18 : Int32) (M16 : kg_M) => wp_J6_bitCount_0f7a4 (r15 &&& r18) M16 (fun (r21 : Int32) (M19 : kg_M) => K (if (0 : Int32) < ((10 : Int32) - r21) then ((10 : Int32) - r21) else (0 : Int32)) M19)))) ∧ ((M2 4 v1.toNatClampNeg) = (-1 : Int32) → K (-1000000003 : Int32) M2))) ∧ (r4 = 0 → K (-1000000001 : Int32) M2))
def wp_X7_fault (L : Nat) (M : kg_M) (K : Int32 → kg_M → Prop) : Prop :=
  K (M 0 12) M
def wp_X7_feed (L : Nat) (v1 : Int32) (M : kg_M) (K : Int32 → kg_M → Prop) : Prop :=
  (v1 < 0 → K (-1000000002 : Int32) M) ∧ (¬ v1 < 0 → (v1 ≤ (255 : Int32) → ((M 1 1) < (240 : Int32) → wp_X6_append v1 M (fun (r13 : Int32) (M11 : kg_M) => K r13 M11)) ∧ (¬ (M 1 1) < (240 : Int32) → K (-1000000004 : Int32) M)) ∧ (¬ v1 ≤ (255 : Int32) → K (-1000000002 : Int32) M))
def wL_X7_first_4 (L : Nat) (Kx45 : Int32 → kg_M → Prop) (K : Int32 → kg_M → Prop) : Nat → Int32 → Int32 → kg_M → Prop
  | 0, _, _, _ => False
  | f + 1, v1, v2, M => ((M L 1) ≤ v2 → Kx45 v1 M) ∧ (¬ (M L 1) ≤ v2 → wp_X5_madeIllBy v2 M (fun (r8 : Int32) (M6 : kg_M) => (¬ r8 = (M6 3 4) → wL_X7_first_4 L Kx45 K f v1 (v2 + (1 : Int32)) M6) ∧ (r8 = (M6 3 4) → wL_X7_first_4 L Kx45 K f (v1 ||| ((1 : Int32) <<< (v2 &&& 31))) (v2 + (1 : Int32)) M6)))
def wp_X7_first (L : Nat) (M : kg_M) (K : Int32 → kg_M → Prop) : Prop :=
  ∃ g : Nat, wL_X7_first_4 L (fun (v1 : Int32) (M : kg_M) => K v1 M) K g (0 : Int32) (0 : Int32) M
def wp_X7_gate (L : Nat) (v1 : Int32) (v2 : Int32) (M : kg_M) (K : Int32 → kg_M → Prop) : Prop :=
  wp_X0_hasGate L v1 M (fun (r4 : Int32) (M2 : kg_M) => (¬ r4 = 0 → (v2 = (0 : Int32) → vp_in v1 5 ∧ (K (M2 (L + 1) v1.toNatClampNeg) M2)) ∧ (¬ v2 = (0 : Int32) → (v2 = (1 : Int32) → vp_in v1 5 ∧ (K (M2 5 v1.toNatClampNeg) M2)) ∧ (¬ v2 = (1 : Int32) → (v2 = (2 : Int32) → wp_X5_isRusted L v1 M2 (fun (r24 : Int32) (M22 : kg_M) => (r24 = 0 → K (0 : Int32) M22) ∧ (¬ r24 = 0 → K (1 : Int32) M22))) ∧ (¬ v2 = (2 : Int32) → (v2 = (3 : Int32) → wp_X5_waitingAt L v1 M2 (fun (r33 : Int32) (M31 : kg_M) => K r33 M31)) ∧ (¬ v2 = (3 : Int32) → K (-1000000002 : Int32) M2))))) ∧ (r4 = 0 → K (-1000000001 : Int32) M2))
def wp_X7_goBack (L : Nat) (v1 : Int32) (M : kg_M) (K : Int32 → kg_M → Prop) : Prop :=
  (v1 < 0 → K (-1000000001 : Int32) M) ∧ (¬ v1 < 0 → (v1 < (2 : Int32) → vp_in v1 2 ∧ ((¬ (M 106 v1.toNatClampNeg) = 0 → vp_in v1 2 ∧ (wp_X5_copyFrom 3 (98 + 4 * v1.toNatClampNeg) M (fun (M15 : kg_M) => vp_in v1 2 ∧ (∀ M20 : kg_M, M20 = kg_row M15 0 (upd (M15 0) 13 (M15 107 v1.toNatClampNeg)) → (wp_X4_forget  M20 (fun (M23 : kg_M) => K (1 : Int32) M23)))))) ∧ ((M 106 v1.toNatClampNeg) = 0 → K (-1000000003 : Int32) M))) ∧ (¬ v1 < (2 : Int32) → K (-1000000001 : Int32) M))
def wp_X7_goOff (L : Nat) (v1 : Int32) (M : kg_M) (K : Int32 → kg_M → Prop) : Prop :=
  wp_X0_hasPerson L v1 M (fun (r4 : Int32) (M2 : kg_M) => (¬ r4 = 0 → vp_in v1 7 ∧ ((¬ (M2 4 v1.toNatClampNeg) = (-1 : Int32) → wp_X4_remember 3 M2 (fun (M13 : kg_M) => vp_in v1 7 ∧ (∀ M18 : kg_M, M18 = kg_row M13 4 (upd (M13 4) v1.toNatClampNeg (-1 : Int32)) → (K (M2 4 v1.toNatClampNeg) M18)))) ∧ ((M2 4 v1.toNatClampNeg) = (-1 : Int32) → K (-1000000003 : Int32) M2))) ∧ (r4 = 0 → K (-1000000001 : Int32) M2))
def wp_X7_hole (L : Nat) (v1 : Int32) (M : kg_M) (K : Int32 → kg_M → Prop) : Prop :=
  wp_X0_hasPerson L v1 M (fun (r4 : Int32) (M2 : kg_M) => (¬ r4 = 0 → vp_in v1 7 ∧ (((M2 4 v1.toNatClampNeg) = (-1 : Int32) → wp_X4_remember 3 M2 (fun (M13 : kg_M) => ∀ M16 : kg_M, M16 = kg_row M13 3 (upd (M13 3) 3 ((M13 3 3) ^^^ ((1 : Int32) <<< (v1 &&& 31)))) → (∀ M19 : kg_M, M19 = kg_row M16 3 (upd (M16 3) 2 ((M16 3 2) + (1 : Int32))) → (K (((M19 3 3) >>> (v1 &&& 31)) &&& (1 : Int32)) M19)))) ∧ (¬ (M2 4 v1.toNatClampNeg) = (-1 : Int32) → K (-1000000003 : Int32) M2))) ∧ (r4 = 0 → K (-1000000001 : Int32) M2))
def wL_X7_hour_25 (L : Nat) (Kx47 : kg_M → Prop) (K : Int32 → kg_M → Prop) : Nat → Int32 → Int32 → kg_M → Prop
  | 0, _, _, _ => False
  | f + 1, v1, v3, M => (v1 ≤ v3 → Kx47  M) ∧ (¬ v1 ≤ v3 → wp_X5_passHour L M (fun (M15 : kg_M) => wL_X7_hour_25 L Kx47 K f v1 (v3 + (1 : Int32)) M15))
def wp_X7_hour (L : Nat) (v1 : Int32) (M : kg_M) (K : Int32 → kg_M → Prop) : Prop :=
  wp_X7_refusalOfHours L v1 M (fun (r4 : Int32) (M2 : kg_M) => (r4 = 0 → wp_X4_remember 3 M2 (fun (M8 : kg_M) => ∃ g : Nat, wL_X7_hour_25 L (fun (M : kg_M) => K (M 3 0) M) K g v1 (0 : Int32) M8)) ∧ (¬ r4 = 0 → K r4 M2))
def wp_X7_ill (L : Nat) (v1 : Int32) (v2 : Int32) (M : kg_M) (K : Int32 → kg_M → Prop) : Prop :=
  wp_X0_hasPerson L v1 M (fun (r4 : Int32) (M2 : kg_M) => (¬ r4 = 0 → ((M2 89 0) < (6 : Int32) → wp_X2_learn v1 v2 M2 (fun (r13 : Int32) (M11 : kg_M) => K r13 M11)) ∧ (¬ (M2 89 0) < (6 : Int32) → K (-1000000004 : Int32) M2)) ∧ (r4 = 0 → K (-1000000001 : Int32) M2))
def wp_X7_judge (L : Nat) (M : kg_M) (K : Int32 → kg_M → Prop) : Prop :=
  wp_X2_firstWrong (M 3 3) M (fun (r4 : Int32) (M2 : kg_M) => K r4 M2)
def wp_X7_keep (L : Nat) (v1 : Int32) (M : kg_M) (K : Int32 → kg_M → Prop) : Prop :=
  (v1 < 0 → K (-1000000001 : Int32) M) ∧ (¬ v1 < 0 → (v1 < (2 : Int32) → vp_in v1 2 ∧ (wp_X5_copyFrom (98 + 4 * v1.toNatClampNeg) 3 M (fun (M10 : kg_M) => vp_in v1 2 ∧ (∀ M15 : kg_M, M15 = kg_row M10 107 (upd (M10 107) v1.toNatClampNeg (M10 0 13)) → (vp_in v1 2 ∧ (∀ M20 : kg_M, M20 = kg_row M15 106 (upd (M15 106) v1.toNatClampNeg (1 : Int32)) → (wp_X4_forget  M20 (fun (M23 : kg_M) => K (1 : Int32) M23)))))))) ∧ (¬ v1 < (2 : Int32) → K (-1000000001 : Int32) M))
def wp_X7_likes (L : Nat) (v1 : Int32) (v2 : Int32) (M : kg_M) (K : Int32 → kg_M → Prop) : Prop :=
  wp_X0_hasPerson L v1 M (fun (r4 : Int32) (M2 : kg_M) => (r4 = 0 → K (-1000000001 : Int32) M2) ∧ (¬ r4 = 0 → wp_X0_hasPerson L v2 M2 (fun (r10 : Int32) (M8 : kg_M) => (r10 = 0 → K (-1000000001 : Int32) M8) ∧ (¬ r10 = 0 → (¬ v1 = v2 → wp_X0_liking L v1 v2 M8 (fun (r19 : Int32) (M17 : kg_M) => K r19 M17)) ∧ (v1 = v2 → K (-1000000001 : Int32) M8)))))
def wp_X7_logged (L : Nat) (v1 : Int32) (M : kg_M) (K : Int32 → kg_M → Prop) : Prop :=
  (v1 < 0 → K (-1 : Int32) M) ∧ (¬ v1 < 0 → (v1 < (M 3 5) → vp_in (((M 3 5) - (1 : Int32)) - v1) 20 ∧ (K (M 6 (((M 3 5) - (1 : Int32)) - v1).toNatClampNeg) M)) ∧ (¬ v1 < (M 3 5) → K (-1 : Int32) M))
def wL_X7_loves_20 (L : Nat) (Kx63 : Int32 → Int32 → kg_M → Prop) (Kx80 : Int32 → Int32 → Int32 → kg_M → Prop) (K : Int32 → kg_M → Prop) : Nat → Int32 → Int32 → Int32 → Int32 → kg_M → Prop
  | 0, _, _, _, _, _ => False
  | f + 1, v1, v2, v3, v4, M => ((M L 1) ≤ v4 → Kx80 v1 v2 v3 M) ∧ (¬ (M L 1) ≤ v4 → wp_X0_likesBest L v3 v4 M (fun (r12 : Int32) (M10 : kg_M) => (r12 = 0 → wL_X7_loves_20 L Kx63 Kx80 K f v1 v2 v3 (v4 + (1 : Int32)) M10) ∧ (¬ r12 = 0 → wp_X0_likesBest L v4 v3 M10 (fun (r18 : Int32) (M16 : kg_M) => (r18 = 0 → wL_X7_loves_20 L Kx63 Kx80 K f v1 v2 v3 (v4 + (1 : Int32)) M16) ∧ (¬ r18 = 0 → (¬ v2 = v1 → wL_X7_loves_20 L Kx63 Kx80 K f v1 (v2 + (1 : Int32)) v3 (v4 + (1 : Int32)) M16) ∧ (v2 = v1 → Kx63 v3 v4 M16))))))
def wL_X7_loves_4 (L : Nat) (Kx63 : Int32 → Int32 → kg_M → Prop) (Kx86 : Int32 → Int32 → kg_M → Prop) (K : Int32 → kg_M → Prop) : Nat → Int32 → Int32 → Int32 → kg_M → Prop
  | 0, _, _, _, _ => False
  | f + 1, v1, v2, v3, M => ((M L 1) ≤ v3 → Kx86 v1 v2 M) ∧ (¬ (M L 1) ≤ v3 → ∃ g : Nat, wL_X7_loves_20 L (fun (v3 : Int32) (v4 : Int32) (M : kg_M) => Kx63 v3 v4 M) (fun (v1 : Int32) (v2 : Int32) (v3 : Int32) (M : kg_M) => wL_X7_loves_4 L Kx63 Kx86 K f v1 v2 (v3 + (1 : Int32)) M) K g v1 v2 v3 (v3 + (1 : Int32)) M)
def wp_X7_loves (L : Nat) (v1 : Int32) (M : kg_M) (K : Int32 → kg_M → Prop) : Prop :=
  ∃ g : Nat, wL_X7_loves_4 L (fun (v3 : Int32) (v4 : Int32) (M : kg_M) => K (((10 : Int32) * v3) + v4) M) (fun (v1 : Int32) (v2 : Int32) (M : kg_M) => (¬ v1 = (-1 : Int32) → K (-1 : Int32) M) ∧ (v1 = (-1 : Int32) → K v2 M)) K g v1 (0 : Int32) (0 : Int32) M
def wJ_X7_oil_34 (L : Nat) (K : Int32 → kg_M → Prop) (v1 : Int32) (s0 : Int32) (M : kg_M) : Prop :=
  wp_X4_remember 3 M (fun (M15 : kg_M) => vp_in v1 5 ∧ (∀ M20 : kg_M, M20 = kg_row M15 5 (upd (M15 5) v1.toNatClampNeg (0 : Int32)) → (K s0 M20)))
def wp_X7_oil (L : Nat) (v1 : Int32) (M : kg_M) (K : Int32 → kg_M → Prop) : Prop :=
  wp_X0_hasGate L v1 M (fun (r4 : Int32) (M2 : kg_M) => (¬ r4 = 0 → wp_X5_isRusted L v1 M2 (fun (r10 : Int32) (M8 : kg_M) => (r10 = 0 → wJ_X7_oil_34 L K v1 (0 : Int32) M8) ∧ (¬ r10 = 0 → wJ_X7_oil_34 L K v1 (1 : Int32) M8))) ∧ (r4 = 0 → K (-1000000001 : Int32) M2))
def wL_X7_oilings_16 (L : Nat) (Kx51 : Int32 → kg_M → Prop) (K : Int32 → kg_M → Prop) : Nat → Int32 → Int32 → Int32 → Int32 → Int32 → kg_M → Prop
  | 0, _, _, _, _, _, _ => False
  | f + 1, v1, v2, v3, v4, v5, M => (v2 ≤ v5 → Kx51 v3 M) ∧ (¬ v2 ≤ v5 → vp_in v1 5 ∧ ((v4 < (M (L + 1) v1.toNatClampNeg) → wL_X7_oilings_16 L Kx51 K f v1 v2 v3 (v4 + (1 : Int32)) (v5 + (1 : Int32)) M) ∧ (¬ v4 < (M (L + 1) v1.toNatClampNeg) → wL_X7_oilings_16 L Kx51 K f v1 v2 (v3 + (1 : Int32)) ((0 : Int32) + (1 : Int32)) (v5 + (1 : Int32)) M)))
def wp_X7_oilings (L : Nat) (v1 : Int32) (v2 : Int32) (M : kg_M) (K : Int32 → kg_M → Prop) : Prop :=
  vp_in v1 5 ∧ (∃ g : Nat, wL_X7_oilings_16 L (fun (v3 : Int32) (M : kg_M) => K v3 M) K g v1 v2 (0 : Int32) (M 5 v1.toNatClampNeg) (0 : Int32) M)
def wL_X7_oilFor_18 (L : Nat) (Kx44 : Int32 → kg_M → Prop) (K : Int32 → kg_M → Prop) : Nat → Int32 → Int32 → Int32 → kg_M → Prop
  | 0, _, _, _, _ => False
  | f + 1, v1, v2, v3, M => ((M L 0) ≤ v3 → Kx44 v2 M) ∧ (¬ (M L 0) ≤ v3 → wp_X7_oilings L v3 v1 M (fun (r14 : Int32) (M12 : kg_M) => wL_X7_oilFor_18 L Kx44 K f v1 (v2 + r14) (v3 + (1 : Int32)) M12))
def wp_X7_oilFor (L : Nat) (v1 : Int32) (M : kg_M) (K : Int32 → kg_M → Prop) : Prop :=
  (v1 < 0 → K (-1000000002 : Int32) M) ∧ (¬ v1 < 0 → (v1 ≤ (200 : Int32) → ∃ g : Nat, wL_X7_oilFor_18 L (fun (v2 : Int32) (M : kg_M) => K v2 M) K g v1 (0 : Int32) (0 : Int32) M) ∧ (¬ v1 ≤ (200 : Int32) → K (-1000000002 : Int32) M))
def wp_X7_person (L : Nat) (v1 : Int32) (v2 : Int32) (M : kg_M) (K : Int32 → kg_M → Prop) : Prop :=
  wp_X0_hasPerson L v1 M (fun (r4 : Int32) (M2 : kg_M) => (¬ r4 = 0 → (v2 = (0 : Int32) → K (((M2 3 3) >>> (v1 &&& 31)) &&& (1 : Int32)) M2) ∧ (¬ v2 = (0 : Int32) → (v2 = (1 : Int32) → vp_in v1 7 ∧ (K (M2 4 v1.toNatClampNeg) M2)) ∧ (¬ v2 = (1 : Int32) → (v2 = (2 : Int32) → K (((M2 3 4) >>> (v1 &&& 31)) &&& (1 : Int32)) M2) ∧ (¬ v2 = (2 : Int32) → (v2 = (3 : Int32) → wp_X0_wouldMeet L v1 (M2 3 3) M2 (fun (r25 : Int32) (M23 : kg_M) => K r25 M23)) ∧ (¬ v2 = (3 : Int32) → K (-1000000002 : Int32) M2))))) ∧ (r4 = 0 → K (-1000000001 : Int32) M2))
def wp_X7_seed (L : Nat) (v1 : Int32) (M : kg_M) (K : Int32 → kg_M → Prop) : Prop :=
  (0 ≤ v1 → ∀ M5 : kg_M, M5 = kg_row M 0 (upd (M 0) 13 v1) → (K (M 0 13) M5)) ∧ (¬ 0 ≤ v1 → K (-1000000002 : Int32) M)
def wp_X7_sides (L : Nat) (v1 : Int32) (v2 : Int32) (M : kg_M) (K : Int32 → kg_M → Prop) : Prop :=
  wp_X0_hasAll L v1 M (fun (r4 : Int32) (M2 : kg_M) => (r4 = 0 → K (-1000000001 : Int32) M2) ∧ (¬ r4 = 0 → wp_X0_hasAll L v2 M2 (fun (r10 : Int32) (M8 : kg_M) => (¬ r10 = 0 → wp_X7_openGates L M8 (fun (r16 : Int32) (M14 : kg_M) => wp_X1_fewestHours L (M8 3 3) r16 v1 v2 M14 (fun (r19 : Int32) (M17 : kg_M) => K r19 M17))) ∧ (r10 = 0 → K (-1000000001 : Int32) M8))))
def wJ_X7_wouldRather_28 (L : Nat) (K : Int32 → kg_M → Prop) (v1 : Int32) (v2 : Int32) (s0 : Int32) (M : kg_M) : Prop :=
  wp_X0_liking L v1 v2 M (fun (r13 : Int32) (M11 : kg_M) => (r13 ≤ s0 → K (0 : Int32) M11) ∧ (¬ r13 ≤ s0 → K (1 : Int32) M11))
def wp_X7_wouldRather (L : Nat) (v1 : Int32) (v2 : Int32) (M : kg_M) (K : Int32 → kg_M → Prop) : Prop :=
  vp_in v1 7 ∧ ((¬ (M 93 v1.toNatClampNeg) = (-1 : Int32) → wp_X0_liking L v1 (M 93 v1.toNatClampNeg) M (fun (r9 : Int32) (M7 : kg_M) => wJ_X7_wouldRather_28 L K v1 v2 r9 M7)) ∧ ((M 93 v1.toNatClampNeg) = (-1 : Int32) → wJ_X7_wouldRather_28 L K v1 v2 (0 : Int32) M))
def wL_X7_steady_55 (L : Nat) (Kx93 : kg_M → Prop) (Kx101 : Int32 → kg_M → Prop) (K : Int32 → kg_M → Prop) : Nat → Int32 → Int32 → Int32 → kg_M → Prop
  | 0, _, _, _, _ => False
  | f + 1, v1, v2, v3, M => ((M L 1) ≤ v3 → Kx101 v1 M) ∧ (¬ (M L 1) ≤ v3 → (¬ ((v2 >>> (v3 &&& 31)) &&& (1 : Int32)) = (1 : Int32) → wL_X7_steady_55 L Kx93 Kx101 K f v1 v2 (v3 + (1 : Int32)) M) ∧ (((v2 >>> (v3 &&& 31)) &&& (1 : Int32)) = (1 : Int32) → wp_X7_wouldRather L v1 v3 M (fun (r24 : Int32) (M22 : kg_M) => (r24 = 0 → wL_X7_steady_55 L Kx93 Kx101 K f v1 v2 (v3 + (1 : Int32)) M22) ∧ (¬ r24 = 0 → wp_X7_wouldRather L v3 v1 M22 (fun (r30 : Int32) (M28 : kg_M) => (r30 = 0 → wL_X7_steady_55 L Kx93 Kx101 K f v1 v2 (v3 + (1 : Int32)) M28) ∧ (¬ r30 = 0 → Kx93  M28))))))
def wL_X7_steady_24 (L : Nat) (Kx93 : kg_M → Prop) (Kx107 : kg_M → Prop) (K : Int32 → kg_M → Prop) : Nat → Int32 → kg_M → Prop
  | 0, _, _ => False
  | f + 1, v1, M => ((M L 1) ≤ v1 → Kx107  M) ∧ (¬ (M L 1) ≤ v1 → wp_X0_wouldMeet L v1 (M 3 3) M (fun (r14 : Int32) (M12 : kg_M) => ∃ g : Nat, wL_X7_steady_55 L (fun (M : kg_M) => Kx93  M) (fun (v1 : Int32) (M : kg_M) => wL_X7_steady_24 L Kx93 Kx107 K f (v1 + (1 : Int32)) M) K g v1 r14 (v1 + (1 : Int32)) M12))
def wp_X7_steady (L : Nat) (M : kg_M) (K : Int32 → kg_M → Prop) : Prop :=
  wp_X7_openGates L M (fun (r4 : Int32) (M2 : kg_M) => wp_X3_find L (M 3 3) r4 M2 (fun (M5 : kg_M) => ∃ g : Nat, wL_X7_steady_24 L (fun (M : kg_M) => K (0 : Int32) M) (fun (M : kg_M) => K (1 : Int32) M) K g (0 : Int32) M5))
def wp_X7_tear (L : Nat) (M : kg_M) (K : Int32 → kg_M → Prop) : Prop :=
  wp_X2_forget  M (fun (M2 : kg_M) => K ((M 89 0) + (M 89 3)) M2)
def wp_X7_told (L : Nat) (v1 : Int32) (M : kg_M) (K : Int32 → kg_M → Prop) : Prop :=
  (v1 = (0 : Int32) → K (M L 0) M) ∧ (¬ v1 = (0 : Int32) → (v1 = (1 : Int32) → K (M L 1) M) ∧ (¬ v1 = (1 : Int32) → (v1 = (2 : Int32) → K (M 1 1) M) ∧ (¬ v1 = (2 : Int32) → (v1 = (3 : Int32) → K (M 3 0) M) ∧ (¬ v1 = (3 : Int32) → (v1 = (4 : Int32) → K (M 3 1) M) ∧ (¬ v1 = (4 : Int32) → (v1 = (5 : Int32) → K (M 3 2) M) ∧ (¬ v1 = (5 : Int32) → (v1 = (6 : Int32) → K (M 3 3) M) ∧ (¬ v1 = (6 : Int32) → (v1 = (7 : Int32) → K (M 3 4) M) ∧ (¬ v1 = (7 : Int32) → (v1 = (8 : Int32) → wp_X5_waiting L M (fun (r32 : Int32) (M30 : kg_M) => K r32 M30)) ∧ (¬ v1 = (8 : Int32) → (v1 = (9 : Int32) → wp_X5_rusted L M (fun (r38 : Int32) (M36 : kg_M) => K r38 M36)) ∧ (¬ v1 = (9 : Int32) → (v1 = (10 : Int32) → K (M 3 5) M) ∧ (¬ v1 = (10 : Int32) → (v1 = (11 : Int32) → K (M 89 0) M) ∧ (¬ v1 = (11 : Int32) → (v1 = (12 : Int32) → K (M 89 3) M) ∧ (¬ v1 = (12 : Int32) → (v1 = (13 : Int32) → K (M 7 2) M) ∧ (¬ v1 = (13 : Int32) → K (-1000000002 : Int32) M))))))))))))))
def wp_X7_undo (L : Nat) (M : kg_M) (K : Int32 → kg_M → Prop) : Prop :=
  (¬ (M 7 2) = 0 → wp_X4_restore 3 M (fun (M5 : kg_M) => K (M5 7 2) M5)) ∧ ((M 7 2) = 0 → K (-1000000003 : Int32) M)
def wp_X7_well (L : Nat) (v1 : Int32) (M : kg_M) (K : Int32 → kg_M → Prop) : Prop :=
  wp_X0_hasPerson L v1 M (fun (r4 : Int32) (M2 : kg_M) => (¬ r4 = 0 → wp_X4_remember 3 M2 (fun (M8 : kg_M) => ∀ M11 : kg_M, M11 = kg_row M8 3 (upd (M8 3) 4 ((M8 3 4) &&& (((1 : Int32) <<< (v1 &&& 31)) ^^^ (-1 : Int32)))) → (K (((M2 3 4) >>> (v1 &&& 31)) &&& (1 : Int32)) M11))) ∧ (r4 = 0 → K (-1000000001 : Int32) M2))
def wJ_X7_write_26 (L : Nat) (K : Int32 → kg_M → Prop) (v1 : Int32) (v2 : Int32) (M : kg_M) : Prop :=
  ((M 89 3) < (15 : Int32) → wp_X2_enter v1 v2 M (fun (r17 : Int32) (M15 : kg_M) => K r17 M15)) ∧ (¬ (M 89 3) < (15 : Int32) → K (-1000000004 : Int32) M)
def wp_X7_write (L : Nat) (v1 : Int32) (v2 : Int32) (M : kg_M) (K : Int32 → kg_M → Prop) : Prop :=
  wp_X0_hasPerson L v1 M (fun (r4 : Int32) (M2 : kg_M) => (¬ r4 = 0 → (v2 = 0 → wJ_X7_write_26 L K v1 v2 M2) ∧ (¬ v2 = 0 → (v2 = (1 : Int32) → wJ_X7_write_26 L K v1 v2 M2) ∧ (¬ v2 = (1 : Int32) → K (-1000000002 : Int32) M2))) ∧ (r4 = 0 → K (-1000000001 : Int32) M2))
def wL_X8_allWith_4  (Kx40 : Int32 → kg_M → Prop) (K : Int32 → kg_M → Prop) : Nat → Int32 → Int32 → Int32 → kg_M → Prop
  | 0, _, _, _, _ => False
  | f + 1, v1, v2, v3, M => ((M 117 2) ≤ v3 → Kx40 v2 M) ∧ (¬ (M 117 2) ≤ v3 → vp_in (v1 + v3) 55 ∧ ((¬ (M 120 (v1 + v3).toNatClampNeg) = (1 : Int32) → wL_X8_allWith_4  Kx40 K f v1 (v2 ||| (0 : Int32)) (v3 + (1 : Int32)) M) ∧ ((M 120 (v1 + v3).toNatClampNeg) = (1 : Int32) → wL_X8_allWith_4  Kx40 K f v1 (v2 ||| ((1 : Int32) <<< (v3 &&& 31))) (v3 + (1 : Int32)) M)))
def wp_X8_allWith (v1 : Int32) (M : kg_M) (K : Int32 → kg_M → Prop) : Prop :=
  ∃ g : Nat, wL_X8_allWith_4  (fun (v2 : Int32) (M : kg_M) => K v2 M) K g v1 (0 : Int32) (0 : Int32) M
def wp_X8_has (v0 : Int32) (v1 : Int32) (M : kg_M) (K : Int32 → kg_M → Prop) : Prop :=
  (¬ ((v0 >>> (v1 &&& 31)) &&& (1 : Int32)) = (1 : Int32) → K (0 : Int32) M) ∧ (((v0 >>> (v1 &&& 31)) &&& (1 : Int32)) = (1 : Int32) → K (1 : Int32) M)
def wp_X8_apart (v0 : Int32) (v1 : Int32) (v2 : Int32) (M : kg_M) (K : Int32 → kg_M → Prop) : Prop :=
  wp_X8_has v0 v1 M (fun (r4 : Int32) (M2 : kg_M) => wp_X8_has v0 v2 M2 (fun (r7 : Int32) (M5 : kg_M) => (r4 = r7 → K (0 : Int32) M5) ∧ (¬ r4 = r7 → K (1 : Int32) M5)))
def wp_X8_like (v1 : Int32) (v2 : Int32) (M : kg_M) (K : Int32 → kg_M → Prop) : Prop :=
  ((M 117 2) ≤ v1 → K (0 : Int32) M) ∧ (¬ (M 117 2) ≤ v1 → ((M 117 2) ≤ v2 → K (0 : Int32) M) ∧ (¬ (M 117 2) ≤ v2 → vp_in (((7 : Int32) * v1) + v2) 49 ∧ (((M 119 (((7 : Int32) * v1) + v2).toNatClampNeg) ≤ 0 → K (0 : Int32) M) ∧ (¬ (M 119 (((7 : Int32) * v1) + v2).toNatClampNeg) ≤ 0 → vp_in (((7 : Int32) * v2) + v1) 49 ∧ (((M 119 (((7 : Int32) * v2) + v1).toNatClampNeg) ≤ 0 → K (0 : Int32) M) ∧ (¬ (M 119 (((7 : Int32) * v2) + v1).toNatClampNeg) ≤ 0 → K (1 : Int32) M))))))
def wp_X8_pairBits (v1 : Int32) (M : kg_M) (K : Int32 → kg_M → Prop) : Prop :=
  (¬ v1 = (21 : Int32) → vp_in v1 21 ∧ (vp_in v1 21 ∧ (K (((1 : Int32) <<< ((M 121 v1.toNatClampNeg) &&& 31)) ||| ((1 : Int32) <<< ((M 122 v1.toNatClampNeg) &&& 31))) M))) ∧ (v1 = (21 : Int32) → K (0 : Int32) M)
def wJ_X8_choose_164  (Kb : Int32 → Int32 → kg_M → Prop) (Kx162 : kg_M → Prop) (Kx179 : Int32 → kg_M → Prop) (K : Int32 → kg_M → Prop) (v2 : Int32) (v3 : Int32) (v4 : Int32) (M : kg_M) : Prop :=
  wp_X8_pairBits v4 M (fun (r49 : Int32) (M47 : kg_M) => Kb (v2 ||| r49) (v3 + (1 : Int32)) M47)
def wJ_X8_choose_111  (Kb : Int32 → Int32 → kg_M → Prop) (Kx162 : kg_M → Prop) (Kx179 : Int32 → kg_M → Prop) (K : Int32 → kg_M → Prop) (v2 : Int32) (v3 : Int32) (v4 : Int32) (v5 : Int32) (s0 : Int32) (M : kg_M) : Prop :=
  (v5 = 0 → Kx162  M) ∧ (¬ v5 = 0 → (¬ s0 = 0 → Kx162  M) ∧ (s0 = 0 → wp_X8_pairBits v4 M (fun (r39 : Int32) (M37 : kg_M) => (¬ (v2 &&& r39) = 0 → Kx162  M37) ∧ ((v2 &&& r39) = 0 → ((21 : Int32) ≤ v4 → wJ_X8_choose_164  Kb Kx162 Kx179 K v2 v3 v4 M37) ∧ (¬ (21 : Int32) ≤ v4 → vp_in v4 21 ∧ (vp_in v4 21 ∧ (wp_X8_like (M37 121 v4.toNatClampNeg) (M37 122 v4.toNatClampNeg) M37 (fun (r56 : Int32) (M54 : kg_M) => (¬ r56 = 0 → wJ_X8_choose_164  Kb Kx162 Kx179 K v2 v3 v4 M54) ∧ (r56 = 0 → Kx162  M54)))))))))
def wJ_X8_choose_80  (Kb : Int32 → Int32 → kg_M → Prop) (Kx162 : kg_M → Prop) (Kx179 : Int32 → kg_M → Prop) (K : Int32 → kg_M → Prop) (v2 : Int32) (v3 : Int32) (v4 : Int32) (s0 : Int32) (M : kg_M) : Prop :=
  ((21 : Int32) ≤ v4 → wJ_X8_choose_111  Kb Kx162 Kx179 K v2 v3 v4 s0 (0 : Int32) M) ∧ (¬ (21 : Int32) ≤ v4 → (v3 ≤ 0 → wJ_X8_choose_111  Kb Kx162 Kx179 K v2 v3 v4 s0 (0 : Int32) M) ∧ (¬ v3 ≤ 0 → vp_in (v3 - (1 : Int32)) 3 ∧ ((¬ (M 129 (v3 - (1 : Int32)).toNatClampNeg) = (21 : Int32) → wJ_X8_choose_111  Kb Kx162 Kx179 K v2 v3 v4 s0 (0 : Int32) M) ∧ ((M 129 (v3 - (1 : Int32)).toNatClampNeg) = (21 : Int32) → wJ_X8_choose_111  Kb Kx162 Kx179 K v2 v3 v4 s0 (1 : Int32) M))))
def wL_X8_choose_38  (Kx162 : kg_M → Prop) (Kx179 : Int32 → kg_M → Prop) (K : Int32 → kg_M → Prop) : Nat → Int32 → Int32 → kg_M → Prop
  | 0, _, _, _ => False
  | f + 1, v2, v3, M => ((3 : Int32) ≤ v3 → Kx179 v2 M) ∧ (¬ (3 : Int32) ≤ v3 → vp_in v3 3 ∧ ((v3 = 0 → wJ_X8_choose_80  (wL_X8_choose_38  Kx162 Kx179 K f) Kx162 Kx179 K v2 v3 (M 129 v3.toNatClampNeg) (1 : Int32) M) ∧ (¬ v3 = 0 → ((M 129 v3.toNatClampNeg) = (21 : Int32) → wJ_X8_choose_80  (wL_X8_choose_38  Kx162 Kx179 K f) Kx162 Kx179 K v2 v3 (M 129 v3.toNatClampNeg) (1 : Int32) M) ∧ (¬ (M 129 v3.toNatClampNeg) = (21 : Int32) → vp_in (v3 - (1 : Int32)) 3 ∧ (((M 129 v3.toNatClampNeg) ≤ (M 129 (v3 - (1 : Int32)).toNatClampNeg) → wJ_X8_choose_80  (wL_X8_choose_38  Kx162 Kx179 K f) Kx162 Kx179 K v2 v3 (M 129 v3.toNatClampNeg) (0 : Int32) M) ∧ (¬ (M 129 v3.toNatClampNeg) ≤ (M 129 (v3 - (1 : Int32)).toNatClampNeg) → wJ_X8_choose_80  (wL_X8_choose_38  Kx162 Kx179 K f) Kx162 Kx179 K v2 v3 (M 129 v3.toNatClampNeg) (1 : Int32) M))))))
def wp_X8_choose (v1 : Int32) (M : kg_M) (K : Int32 → kg_M → Prop) : Prop :=
  vp_in (0 : Int32) 3 ∧ (∀ M4 : kg_M, M4 = kg_row M 129 (upd (M 129) (0 : Int32).toNatClampNeg (v1 / (484 : Int32))) → (vp_in (1 : Int32) 3 ∧ (∀ M9 : kg_M, M9 = kg_row M4 129 (upd (M4 129) (1 : Int32).toNatClampNeg ((v1 / (22 : Int32)) - (v1 / (22 : Int32)) / (22 : Int32) * (22 : Int32))) → (vp_in (2 : Int32) 3 ∧ (∀ M14 : kg_M, M14 = kg_row M9 129 (upd (M9 129) (2 : Int32).toNatClampNeg (v1 - v1 / (22 : Int32) * (22 : Int32))) → (∃ g : Nat, wL_X8_choose_38  (fun (M : kg_M) => K (-1 : Int32) M) (fun (v2 : Int32) (M : kg_M) => K v2 M) K g (0 : Int32) (0 : Int32) M14))))))
def wL_X8_canMeet_20  (Kx81 : Int32 → kg_M → Prop) (K : Int32 → kg_M → Prop) : Nat → Int32 → Int32 → Int32 → kg_M → Prop
  | 0, _, _, _, _ => False
  | f + 1, v1, v4, v5, M => ((3 : Int32) ≤ v5 → Kx81 v4 M) ∧ (¬ (3 : Int32) ≤ v5 → vp_in v5 3 ∧ ((v4 = 0 → wL_X8_canMeet_20  Kx81 K f v1 (0 : Int32) (v5 + (1 : Int32)) M) ∧ (¬ v4 = 0 → ((M 129 v5.toNatClampNeg) = (21 : Int32) → wL_X8_canMeet_20  Kx81 K f v1 (1 : Int32) (v5 + (1 : Int32)) M) ∧ (¬ (M 129 v5.toNatClampNeg) = (21 : Int32) → vp_in (M 129 v5.toNatClampNeg) 21 ∧ (vp_in (M 129 v5.toNatClampNeg) 21 ∧ (wp_X8_apart v1 (M 121 (M 129 v5.toNatClampNeg).toNatClampNeg) (M 122 (M 129 v5.toNatClampNeg).toNatClampNeg) M (fun (r26 : Int32) (M24 : kg_M) => (r26 = 0 → wL_X8_canMeet_20  Kx81 K f v1 (0 : Int32) (v5 + (1 : Int32)) M24) ∧ (¬ r26 = 0 → wL_X8_canMeet_20  Kx81 K f v1 (1 : Int32) (v5 + (1 : Int32)) M24))))))))
def wp_X8_canMeet (v1 : Int32) (v2 : Int32) (M : kg_M) (K : Int32 → kg_M → Prop) : Prop :=
  wp_X8_choose v2 M (fun (r4 : Int32) (M2 : kg_M) => (r4 < 0 → ∃ g : Nat, wL_X8_canMeet_20  (fun (v4 : Int32) (M : kg_M) => (v4 = 0 ∨ v4 = 1) ∧ K v4 M) K g v1 (0 : Int32) (0 : Int32) M2) ∧ (¬ r4 < 0 → ∃ g : Nat, wL_X8_canMeet_20  (fun (v4 : Int32) (M : kg_M) => (v4 = 0 ∨ v4 = 1) ∧ K v4 M) K g v1 (1 : Int32) (0 : Int32) M2))
def wL_X8_anHour_2  (Kx27 : kg_M → Prop) (K : kg_M → Prop) : Nat → Int32 → kg_M → Prop
  | 0, _, _ => False
  | f + 1, v1, M => ((128 : Int32) ≤ v1 → Kx27  M) ∧ (¬ (128 : Int32) ≤ v1 → vp_in v1 128 ∧ (vp_in v1 128 ∧ ((M 134 v1.toNatClampNeg) = 0 ∨ (M 134 v1.toNatClampNeg) = 1) ∧ (∀ M11 : kg_M, M11 = kg_row M 135 (upd (M 135) v1.toNatClampNeg (M 134 v1.toNatClampNeg)) → (wL_X8_anHour_2  Kx27 K f (v1 + (1 : Int32)) M11))))
def wJ_X8_anHour_76  (Kb : Int32 → Int32 → kg_M → Prop) (Kx115 : Int32 → kg_M → Prop) (K : kg_M → Prop) (v1 : Int32) (v2 : Int32) (s0 : Int32) (M : kg_M) : Prop :=
  (s0 = 0 → Kb v1 (v2 + (1 : Int32)) M) ∧ (¬ s0 = 0 → vp_in v2 10648 ∧ (wp_X8_canMeet v1 (M 133 v2.toNatClampNeg) M (fun (r43 : Int32) (M41 : kg_M) => (r43 = 0 → Kb v1 (v2 + (1 : Int32)) M41) ∧ (¬ r43 = 0 → vp_in v2 10648 ∧ (vp_in (v1 ^^^ (M41 132 v2.toNatClampNeg)) 128 ∧ (∀ M51 : kg_M, M51 = kg_row M41 135 (upd (M41 135) (v1 ^^^ (M41 132 v2.toNatClampNeg)).toNatClampNeg (1 : Int32)) → (Kb v1 (v2 + (1 : Int32)) M51)))))))
def wL_X8_anHour_38  (Kx115 : Int32 → kg_M → Prop) (K : kg_M → Prop) : Nat → Int32 → Int32 → kg_M → Prop
  | 0, _, _, _ => False
  | f + 1, v1, v2, M => ((M 117 29) ≤ v2 → Kx115 v1 M) ∧ (¬ (M 117 29) ≤ v2 → vp_in v1 128 ∧ (((M 134 v1.toNatClampNeg) = 0 → Kx115 v1 M) ∧ (¬ (M 134 v1.toNatClampNeg) = 0 → vp_in v2 10648 ∧ (vp_in (v1 ^^^ (M 132 v2.toNatClampNeg)) 128 ∧ ((¬ (M 135 (v1 ^^^ (M 132 v2.toNatClampNeg)).toNatClampNeg) = 0 → wJ_X8_anHour_76  (wL_X8_anHour_38  Kx115 K f) Kx115 K v1 v2 (0 : Int32) M) ∧ ((M 135 (v1 ^^^ (M 132 v2.toNatClampNeg)).toNatClampNeg) = 0 → wJ_X8_anHour_76  (wL_X8_anHour_38  Kx115 K f) Kx115 K v1 v2 (1 : Int32) M))))))
def wL_X8_anHour_29  (Kx121 : kg_M → Prop) (K : kg_M → Prop) : Nat → Int32 → kg_M → Prop
  | 0, _, _ => False
  | f + 1, v1, M => ((128 : Int32) ≤ v1 → Kx121  M) ∧ (¬ (128 : Int32) ≤ v1 → ∃ g : Nat, wL_X8_anHour_38  (fun (v1 : Int32) (M : kg_M) => wL_X8_anHour_29  Kx121 K f (v1 + (1 : Int32)) M) K g v1 (0 : Int32) M)
def wL_X8_anHour_123  (Kx148 : kg_M → Prop) (K : kg_M → Prop) : Nat → Int32 → kg_M → Prop
  | 0, _, _ => False
  | f + 1, v1, M => ((128 : Int32) ≤ v1 → Kx148  M) ∧ (¬ (128 : Int32) ≤ v1 → vp_in v1 128 ∧ (vp_in v1 128 ∧ ((M 135 v1.toNatClampNeg) = 0 ∨ (M 135 v1.toNatClampNeg) = 1) ∧ (∀ M67 : kg_M, M67 = kg_row M 134 (upd (M 134) v1.toNatClampNeg (M 135 v1.toNatClampNeg)) → (wL_X8_anHour_123  Kx148 K f (v1 + (1 : Int32)) M67))))
def wp_X8_anHour  (M : kg_M) (K : kg_M → Prop) : Prop :=
  ∃ g : Nat, wL_X8_anHour_2  (fun (M : kg_M) => ∃ g : Nat, wL_X8_anHour_29  (fun (M : kg_M) => ∃ g : Nat, wL_X8_anHour_123  (fun (M : kg_M) => K M) K g (0 : Int32) M) K g (0 : Int32) M) K g (0 : Int32) M
def wL_X8_bits_4  (Kx24 : Int32 → kg_M → Prop) (K : Int32 → kg_M → Prop) : Nat → Int32 → Int32 → Int32 → kg_M → Prop
  | 0, _, _, _, _ => False
  | f + 1, v0, v1, v2, M => ((7 : Int32) ≤ v2 → Kx24 v1 M) ∧ (¬ (7 : Int32) ≤ v2 → wL_X8_bits_4  Kx24 K f v0 (v1 + ((v0 >>> (v2 &&& 31)) &&& (1 : Int32))) (v2 + (1 : Int32)) M)
def wp_X8_bits (v0 : Int32) (M : kg_M) (K : Int32 → kg_M → Prop) : Prop :=
  ∃ g : Nat, wL_X8_bits_4  (fun (v1 : Int32) (M : kg_M) => K v1 M) K g v0 (0 : Int32) (0 : Int32) M
def wL_X8_madeIll_6  (Kx70 : Int32 → kg_M → Prop) (K : Int32 → kg_M → Prop) : Nat → Int32 → Int32 → kg_M → Prop
  | 0, _, _, _ => False
  | f + 1, v2, v3, M => vp_in (34 : Int32) 55 ∧ (((M 120 (34 : Int32).toNatClampNeg) ≤ v3 → Kx70 v2 M) ∧ (¬ (M 120 (34 : Int32).toNatClampNeg) ≤ v3 → vp_in ((35 : Int32) + v3) 55 ∧ (vp_in ((35 : Int32) + v3) 55 ∧ (((v2 &&& (((1 : Int32) <<< (((M 120 ((35 : Int32) + v3).toNatClampNeg) / (10 : Int32)) &&& 31)) ||| ((1 : Int32) <<< (((M 120 ((35 : Int32) + v3).toNatClampNeg) - (M 120 ((35 : Int32) + v3).toNatClampNeg) / (10 : Int32) * (10 : Int32)) &&& 31)))) = 0 → wL_X8_madeIll_6  Kx70 K f (v2 ||| (0 : Int32)) (v3 + (1 : Int32)) M) ∧ (¬ (v2 &&& (((1 : Int32) <<< (((M 120 ((35 : Int32) + v3).toNatClampNeg) / (10 : Int32)) &&& 31)) ||| ((1 : Int32) <<< (((M 120 ((35 : Int32) + v3).toNatClampNeg) - (M 120 ((35 : Int32) + v3).toNatClampNeg) / (10 : Int32) * (10 : Int32)) &&& 31)))) = 0 → wL_X8_madeIll_6  Kx70 K f (v2 ||| (((1 : Int32) <<< (((M 120 ((35 : Int32) + v3).toNatClampNeg) / (10 : Int32)) &&& 31)) ||| ((1 : Int32) <<< (((M 120 ((35 : Int32) + v3).toNatClampNeg) - (M 120 ((35 : Int32) + v3).toNatClampNeg) / (10 : Int32) * (10 : Int32)) &&& 31)))) (v3 + (1 : Int32)) M)))))
def wp_X8_madeIll (v1 : Int32) (M : kg_M) (K : Int32 → kg_M → Prop) : Prop :=
  ∃ g : Nat, wL_X8_madeIll_6  (fun (v2 : Int32) (M : kg_M) => K v2 M) K g ((1 : Int32) <<< (v1 &&& 31)) (0 : Int32) M
def wL_X8_couldBe_17  (Kx67 : Int32 → Int32 → Int32 → kg_M → Prop) (K : Int32 → kg_M → Prop) : Nat → Int32 → Int32 → Int32 → Int32 → kg_M → Prop
  | 0, _, _, _, _, _ => False
  | f + 1, v1, v2, v3, v4, M => ((M 117 32) ≤ v4 → Kx67 v1 v2 v3 M) ∧ (¬ (M 117 32) ≤ v4 → (v3 = 0 → wL_X8_couldBe_17  Kx67 K f v1 v2 (0 : Int32) (v4 + (1 : Int32)) M) ∧ (¬ v3 = 0 → wp_X8_madeIll v2 M (fun (r15 : Int32) (M13 : kg_M) => vp_in v4 6 ∧ (wp_X8_has r15 (M13 136 v4.toNatClampNeg) M13 (fun (r20 : Int32) (M18 : kg_M) => vp_in v4 6 ∧ ((¬ r20 = (M18 137 v4.toNatClampNeg) → wL_X8_couldBe_17  Kx67 K f v1 v2 (0 : Int32) (v4 + (1 : Int32)) M18) ∧ (r20 = (M18 137 v4.toNatClampNeg) → wL_X8_couldBe_17  Kx67 K f v1 v2 (1 : Int32) (v4 + (1 : Int32)) M18)))))))
def wL_X8_couldBe_4  (Kx87 : Int32 → kg_M → Prop) (K : Int32 → kg_M → Prop) : Nat → Int32 → Int32 → kg_M → Prop
  | 0, _, _, _ => False
  | f + 1, v1, v2, M => ((M 117 2) ≤ v2 → Kx87 v1 M) ∧ (¬ (M 117 2) ≤ v2 → ∃ g : Nat, wL_X8_couldBe_17  (fun (v1 : Int32) (v2 : Int32) (v3 : Int32) (M : kg_M) => (v3 = 0 → wL_X8_couldBe_4  Kx87 K f (v1 ||| (0 : Int32)) (v2 + (1 : Int32)) M) ∧ (¬ v3 = 0 → wL_X8_couldBe_4  Kx87 K f (v1 ||| ((1 : Int32) <<< (v2 &&& 31))) (v2 + (1 : Int32)) M)) K g v1 v2 (1 : Int32) (0 : Int32) M)
def wp_X8_couldBe  (M : kg_M) (K : Int32 → kg_M → Prop) : Prop :=
  ∃ g : Nat, wL_X8_couldBe_4  (fun (v1 : Int32) (M : kg_M) => K v1 M) K g (0 : Int32) (0 : Int32) M
def wL_X8_ask_33  (Kx81 : Int32 → Int32 → Int32 → Int32 → Int32 → Int32 → kg_M → Prop) (K : Int32 → kg_M → Prop) : Nat → Int32 → Int32 → Int32 → Int32 → Int32 → Int32 → Int32 → kg_M → Prop
  | 0, _, _, _, _, _, _, _, _ => False
  | f + 1, v1, v2, v3, v4, v5, v6, v7, M => ((M 117 2) ≤ v7 → Kx81 v1 v2 v3 v4 v5 v6 M) ∧ (¬ (M 117 2) ≤ v7 → wp_X8_has v1 v7 M (fun (r18 : Int32) (M16 : kg_M) => (r18 = 0 → wL_X8_ask_33  Kx81 K f v1 v2 v3 v4 v5 (v6 + (0 : Int32)) (v7 + (1 : Int32)) M16) ∧ (¬ r18 = 0 → wp_X8_madeIll v7 M16 (fun (r24 : Int32) (M22 : kg_M) => wp_X8_has r24 v5 M22 (fun (r27 : Int32) (M25 : kg_M) => (r27 = 0 → wL_X8_ask_33  Kx81 K f v1 v2 v3 v4 v5 (v6 + (0 : Int32)) (v7 + (1 : Int32)) M25) ∧ (¬ r27 = 0 → wL_X8_ask_33  Kx81 K f v1 v2 v3 v4 v5 (v6 + (1 : Int32)) (v7 + (1 : Int32)) M25))))))
def wJ_X8_ask_114  (Kb : Int32 → Int32 → Int32 → Int32 → Int32 → kg_M → Prop) (Kx137 : Int32 → kg_M → Prop) (K : Int32 → kg_M → Prop) (v1 : Int32) (v2 : Int32) (v4 : Int32) (v5 : Int32) (v7 : Int32) (s0 : Int32) (M : kg_M) : Prop :=
  (v4 ≤ v7 → Kb v1 v2 s0 v4 (v5 + (1 : Int32)) M) ∧ (¬ v4 ≤ v7 → Kb v1 v2 s0 v7 (v5 + (1 : Int32)) M)
def wJ_X8_ask_99  (Kb : Int32 → Int32 → Int32 → Int32 → Int32 → kg_M → Prop) (Kx137 : Int32 → kg_M → Prop) (K : Int32 → kg_M → Prop) (v1 : Int32) (v2 : Int32) (v3 : Int32) (v4 : Int32) (v5 : Int32) (s0 : Int32) (M : kg_M) : Prop :=
  (v4 ≤ s0 → wJ_X8_ask_114  Kb Kx137 K v1 v2 v4 v5 s0 v3 M) ∧ (¬ v4 ≤ s0 → wJ_X8_ask_114  Kb Kx137 K v1 v2 v4 v5 s0 v5 M)
def wL_X8_ask_18  (Kx137 : Int32 → kg_M → Prop) (K : Int32 → kg_M → Prop) : Nat → Int32 → Int32 → Int32 → Int32 → Int32 → kg_M → Prop
  | 0, _, _, _, _, _, _ => False
  | f + 1, v1, v2, v3, v4, v5, M => ((M 117 2) ≤ v5 → Kx137 v3 M) ∧ (¬ (M 117 2) ≤ v5 → ∃ g : Nat, wL_X8_ask_33  (fun (v1 : Int32) (v2 : Int32) (v3 : Int32) (v4 : Int32) (v5 : Int32) (v6 : Int32) (M : kg_M) => (v6 ≤ (v2 - v6) → wJ_X8_ask_99  (wL_X8_ask_18  Kx137 K f) Kx137 K v1 v2 v3 v4 v5 (v2 - v6) M) ∧ (¬ v6 ≤ (v2 - v6) → wJ_X8_ask_99  (wL_X8_ask_18  Kx137 K f) Kx137 K v1 v2 v3 v4 v5 v6 M)) K g v1 v2 v3 v4 v5 (0 : Int32) (0 : Int32) M)
def wp_X8_ask  (M : kg_M) (K : Int32 → kg_M → Prop) : Prop :=
  wp_X8_couldBe  M (fun (r4 : Int32) (M2 : kg_M) => wp_X8_bits r4 M2 (fun (r7 : Int32) (M5 : kg_M) => ∃ g : Nat, wL_X8_ask_18  (fun (v3 : Int32) (M : kg_M) => K v3 M) K g r4 r7 (-1 : Int32) r7 (0 : Int32) M5))
def wL_X8_isFirst_2  (Kx25 : Int32 → kg_M → Prop) (Kx52 : kg_M → Prop) (K : Int32 → kg_M → Prop) : Nat → Int32 → kg_M → Prop
  | 0, _, _ => False
  | f + 1, v1, M => ((M 117 2) ≤ v1 → Kx52  M) ∧ (¬ (M 117 2) ≤ v1 → vp_in v1 7 ∧ (vp_in v1 7 ∧ (((M 130 v1.toNatClampNeg) = (M 131 v1.toNatClampNeg) → wL_X8_isFirst_2  Kx25 Kx52 K f (v1 + (1 : Int32)) M) ∧ (¬ (M 130 v1.toNatClampNeg) = (M 131 v1.toNatClampNeg) → Kx25 v1 M))))
def wp_X8_isFirst  (M : kg_M) (K : Int32 → kg_M → Prop) : Prop :=
  ∃ g : Nat, wL_X8_isFirst_2  (fun (v1 : Int32) (M : kg_M) => vp_in v1 7 ∧ (vp_in v1 7 ∧ (((M 131 v1.toNatClampNeg) ≤ (M 130 v1.toNatClampNeg) → K (0 : Int32) M) ∧ (¬ (M 131 v1.toNatClampNeg) ≤ (M 130 v1.toNatClampNeg) → K (1 : Int32) M)))) (fun (M : kg_M) => K (0 : Int32) M) K g (0 : Int32) M
def wL_X8_rusted_4  (Kx41 : Int32 → kg_M → Prop) (K : Int32 → kg_M → Prop) : Nat → Int32 → Int32 → kg_M → Prop
  | 0, _, _, _ => False
  | f + 1, v1, v2, M => ((M 117 0) ≤ v2 → Kx41 v1 M) ∧ (¬ (M 117 0) ≤ v2 → vp_in ((26 : Int32) + v2) 55 ∧ ((¬ (M 120 ((26 : Int32) + v2).toNatClampNeg) = (1 : Int32) → wL_X8_rusted_4  Kx41 K f (v1 ||| (0 : Int32)) (v2 + (1 : Int32)) M) ∧ ((M 120 ((26 : Int32) + v2).toNatClampNeg) = (1 : Int32) → wL_X8_rusted_4  Kx41 K f (v1 ||| ((1 : Int32) <<< (v2 &&& 31))) (v2 + (1 : Int32)) M)))
def wp_X8_rusted  (M : kg_M) (K : Int32 → kg_M → Prop) : Prop :=
  ∃ g : Nat, wL_X8_rusted_4  (fun (v1 : Int32) (M : kg_M) => K v1 M) K g (0 : Int32) (0 : Int32) M
def wp_X8_openGates  (M : kg_M) (K : Int32 → kg_M → Prop) : Prop :=
  wp_X8_rusted  M (fun (r4 : Int32) (M2 : kg_M) => wp_X8_bits r4 M2 (fun (r7 : Int32) (M5 : kg_M) => K ((M 117 0) - r7) M5))
def wp_X8_would (v1 : Int32) (v2 : Int32) (M : kg_M) (K : Int32 → kg_M → Prop) : Prop :=
  wp_X8_like v1 v2 M (fun (r4 : Int32) (M2 : kg_M) => (r4 = 0 → K (0 : Int32) M2) ∧ (¬ r4 = 0 → vp_in v1 55 ∧ (vp_in v2 55 ∧ (((M2 120 v1.toNatClampNeg) = (M2 120 v2.toNatClampNeg) → K (0 : Int32) M2) ∧ (¬ (M2 120 v1.toNatClampNeg) = (M2 120 v2.toNatClampNeg) → K (1 : Int32) M2)))))
def wL_X8_pairUp_4  (Kx24 : Int32 → kg_M → Prop) (K : Int32 → kg_M → Prop) : Nat → Int32 → Int32 → kg_M → Prop
  | 0, _, _, _ => False
  | f + 1, v1, v2, M => ((7 : Int32) ≤ v2 → Kx24 v1 M) ∧ (¬ (7 : Int32) ≤ v2 → vp_in v2 7 ∧ (∀ M8 : kg_M, M8 = kg_row M 130 (upd (M 130) v2.toNatClampNeg (7 : Int32)) → (wL_X8_pairUp_4  Kx24 K f v1 (v2 + (1 : Int32)) M8)))
def wL_X8_pairUp_26  (Kx113 : Int32 → kg_M → Prop) (K : Int32 → kg_M → Prop) : Nat → Int32 → Int32 → kg_M → Prop
  | 0, _, _, _ => False
  | f + 1, v1, v2, M => ((3 : Int32) ≤ v2 → Kx113 v1 M) ∧ (¬ (3 : Int32) ≤ v2 → vp_in v2 3 ∧ (((21 : Int32) ≤ (M 129 v2.toNatClampNeg) → wL_X8_pairUp_26  Kx113 K f v1 (v2 + (1 : Int32)) M) ∧ (¬ (21 : Int32) ≤ (M 129 v2.toNatClampNeg) → vp_in (M 129 v2.toNatClampNeg) 21 ∧ (vp_in (M 129 v2.toNatClampNeg) 21 ∧ (vp_in (M 121 (M 129 v2.toNatClampNeg).toNatClampNeg) 7 ∧ (∀ M27 : kg_M, M27 = kg_row M 130 (upd (M 130) (M 121 (M 129 v2.toNatClampNeg).toNatClampNeg).toNatClampNeg (M 122 (M 129 v2.toNatClampNeg).toNatClampNeg)) → (vp_in (M 129 v2.toNatClampNeg) 21 ∧ (vp_in (M 129 v2.toNatClampNeg) 21 ∧ (vp_in (M27 122 (M 129 v2.toNatClampNeg).toNatClampNeg) 7 ∧ (∀ M36 : kg_M, M36 = kg_row M27 130 (upd (M27 130) (M27 122 (M 129 v2.toNatClampNeg).toNatClampNeg).toNatClampNeg (M27 121 (M 129 v2.toNatClampNeg).toNatClampNeg)) → ((v1 = 0 → wL_X8_pairUp_26  Kx113 K f (0 : Int32) (v2 + (1 : Int32)) M36) ∧ (¬ v1 = 0 → vp_in (M 129 v2.toNatClampNeg) 21 ∧ (vp_in (M 129 v2.toNatClampNeg) 21 ∧ (wp_X8_would (M36 121 (M 129 v2.toNatClampNeg).toNatClampNeg) (M36 122 (M 129 v2.toNatClampNeg).toNatClampNeg) M36 (fun (r48 : Int32) (M46 : kg_M) => (r48 = 0 → wL_X8_pairUp_26  Kx113 K f (0 : Int32) (v2 + (1 : Int32)) M46) ∧ (¬ r48 = 0 → wL_X8_pairUp_26  Kx113 K f (1 : Int32) (v2 + (1 : Int32)) M46))))))))))))))))
def wp_X8_pairUp  (M : kg_M) (K : Int32 → kg_M → Prop) : Prop :=
  ∃ g : Nat, wL_X8_pairUp_4  (fun (v1 : Int32) (M : kg_M) => ∃ g : Nat, wL_X8_pairUp_26  (fun (v1 : Int32) (M : kg_M) => (v1 = 0 ∨ v1 = 1) ∧ K v1 M) K g v1 (0 : Int32) M) K g (1 : Int32) (0 : Int32) M
def wL_X8_findAtOnce_79  (Kx133 : Int32 → Int32 → Int32 → Int32 → kg_M → Prop) (K : kg_M → Prop) : Nat → Int32 → Int32 → Int32 → Int32 → Int32 → kg_M → Prop
  | 0, _, _, _, _, _, _ => False
  | f + 1, v1, v2, v4, v5, v6, M => ((M 117 2) ≤ v6 → Kx133 v1 v2 v4 v5 M) ∧ (¬ (M 117 2) ≤ v6 → vp_in v6 7 ∧ (((7 : Int32) ≤ (M 130 v6.toNatClampNeg) → wL_X8_findAtOnce_79  Kx133 K f v1 v2 v4 (v5 + (0 : Int32)) (v6 + (1 : Int32)) M) ∧ (¬ (7 : Int32) ≤ (M 130 v6.toNatClampNeg) → vp_in v6 7 ∧ (vp_in (((7 : Int32) * v6) + (M 130 v6.toNatClampNeg)) 49 ∧ (wL_X8_findAtOnce_79  Kx133 K f v1 v2 v4 (v5 + (M 119 (((7 : Int32) * v6) + (M 130 v6.toNatClampNeg)).toNatClampNeg)) (v6 + (1 : Int32)) M)))))
def wL_X8_findAtOnce_194  (Kx221 : Int32 → Int32 → kg_M → Prop) (K : kg_M → Prop) : Nat → Int32 → Int32 → Int32 → kg_M → Prop
  | 0, _, _, _, _ => False
  | f + 1, v1, v2, v7, M => ((7 : Int32) ≤ v7 → Kx221 v1 v2 M) ∧ (¬ (7 : Int32) ≤ v7 → vp_in v7 7 ∧ (vp_in v7 7 ∧ (∀ M76 : kg_M, M76 = kg_row M 131 (upd (M 131) v7.toNatClampNeg (M 130 v7.toNatClampNeg)) → (wL_X8_findAtOnce_194  Kx221 K f v1 v2 (v7 + (1 : Int32)) M76))))
def wJ_X8_findAtOnce_179  (Kb : Int32 → Int32 → kg_M → Prop) (Kx227 : kg_M → Prop) (K : kg_M → Prop) (v1 : Int32) (v2 : Int32) (v4 : Int32) (v5 : Int32) (M : kg_M) : Prop :=
  ∀ M62 : kg_M, M62 = kg_row M 117 (upd (M 117) 25 v4) → (∀ M65 : kg_M, M65 = kg_row M62 117 (upd (M62 117) 26 v5) → (∃ g : Nat, wL_X8_findAtOnce_194  (fun (v1 : Int32) (v2 : Int32) (M : kg_M) => Kb v1 (v2 + (1 : Int32)) M) K g v1 v2 (0 : Int32) M65))
def wJ_X8_findAtOnce_156  (Kb : Int32 → Int32 → kg_M → Prop) (Kx227 : kg_M → Prop) (K : kg_M → Prop) (v1 : Int32) (v2 : Int32) (v4 : Int32) (v5 : Int32) (s0 : Int32) (M : kg_M) : Prop :=
  (¬ s0 = 0 → wJ_X8_findAtOnce_179  Kb Kx227 K v1 v2 v4 v5 M) ∧ (s0 = 0 → (¬ v5 = (M 117 26) → Kb v1 (v2 + (1 : Int32)) M) ∧ (v5 = (M 117 26) → wp_X8_isFirst  M (fun (r87 : Int32) (M85 : kg_M) => (r87 = 0 → Kb v1 (v2 + (1 : Int32)) M85) ∧ (¬ r87 = 0 → wJ_X8_findAtOnce_179  Kb Kx227 K v1 v2 v4 v5 M85))))
def wJ_X8_findAtOnce_44  (Kb : Int32 → Int32 → kg_M → Prop) (Kx227 : kg_M → Prop) (K : kg_M → Prop) (v1 : Int32) (v2 : Int32) (s0 : Int32) (M : kg_M) : Prop :=
  (s0 < 0 → Kb v1 (v2 + (1 : Int32)) M) ∧ (¬ s0 < 0 → (v1 < s0 → Kb v1 (v2 + (1 : Int32)) M) ∧ (¬ v1 < s0 → (s0 < (M 117 25) → Kb v1 (v2 + (1 : Int32)) M) ∧ (¬ s0 < (M 117 25) → wp_X8_pairUp  M (fun (r36 : Int32) (M34 : kg_M) => (r36 = 0 → Kb v1 (v2 + (1 : Int32)) M34) ∧ (¬ r36 = 0 → ∃ g : Nat, wL_X8_findAtOnce_79  (fun (v1 : Int32) (v2 : Int32) (v4 : Int32) (v5 : Int32) (M : kg_M) => ((M 117 25) < v4 → wJ_X8_findAtOnce_156  Kb Kx227 K v1 v2 v4 v5 (1 : Int32) M) ∧ (¬ (M 117 25) < v4 → (v5 ≤ (M 117 26) → wJ_X8_findAtOnce_156  Kb Kx227 K v1 v2 v4 v5 (0 : Int32) M) ∧ (¬ v5 ≤ (M 117 26) → wJ_X8_findAtOnce_156  Kb Kx227 K v1 v2 v4 v5 (1 : Int32) M))) K g v1 v2 s0 (0 : Int32) (0 : Int32) M34)))))
def wL_X8_findAtOnce_17  (Kx227 : kg_M → Prop) (K : kg_M → Prop) : Nat → Int32 → Int32 → kg_M → Prop
  | 0, _, _, _ => False
  | f + 1, v1, v2, M => ((10648 : Int32) ≤ v2 → Kx227  M) ∧ (¬ (10648 : Int32) ≤ v2 → wp_X8_choose v2 M (fun (r17 : Int32) (M15 : kg_M) => (0 ≤ r17 → wp_X8_bits r17 M15 (fun (r23 : Int32) (M21 : kg_M) => wJ_X8_findAtOnce_44  (wL_X8_findAtOnce_17  Kx227 K f) Kx227 K v1 v2 (r23 / (2 : Int32)) M21)) ∧ (¬ 0 ≤ r17 → wJ_X8_findAtOnce_44  (wL_X8_findAtOnce_17  Kx227 K f) Kx227 K v1 v2 (-1 : Int32) M15)))
def wp_X8_findAtOnce  (M : kg_M) (K : kg_M → Prop) : Prop :=
  ∀ M2 : kg_M, M2 = kg_row M 117 (upd (M 117) 25 (-1 : Int32)) → (∀ M5 : kg_M, M5 = kg_row M2 117 (upd (M2 117) 26 (0 : Int32)) → (wp_X8_openGates  M5 (fun (r10 : Int32) (M8 : kg_M) => ∃ g : Nat, wL_X8_findAtOnce_17  (fun (M : kg_M) => K M) K g r10 (0 : Int32) M8)))
def wp_X8_in (v0 : Int64) (v2 : Int64) (v4 : Int64) (M : kg_M) (K : Int32 → kg_M → Prop) : Prop :=
  ((lg_cmp v0 v2) < 0 → K (0 : Int32) M) ∧ (¬ (lg_cmp v0 v2) < 0 → (0 < (lg_cmp v0 v4) → K (0 : Int32) M) ∧ (¬ 0 < (lg_cmp v0 v4) → K (1 : Int32) M))
def wp_X8_isPerson (v1 : Int32) (M : kg_M) (K : Int32 → kg_M → Prop) : Prop :=
  wp_X8_in v1.toInt64 (0 : Int64) (((M 117 2) - (1 : Int32)).toInt64) M (fun (r4 : Int32) (M2 : kg_M) => (r4 = 0 ∨ r4 = 1) ∧ K r4 M2)
def wJ_X8_atOnce_22  (K : Int32 → kg_M → Prop) (v1 : Int32) (M : kg_M) : Prop :=
  wp_X8_findAtOnce  M (fun (M6 : kg_M) => (¬ v1 = (-1 : Int32) → (¬ v1 = (-2 : Int32) → vp_in v1 7 ∧ ((¬ (M6 131 v1.toNatClampNeg) = (7 : Int32) → vp_in v1 7 ∧ (K (M6 131 v1.toNatClampNeg) M6)) ∧ ((M6 131 v1.toNatClampNeg) = (7 : Int32) → K (-1 : Int32) M6))) ∧ (v1 = (-2 : Int32) → K (M6 117 26) M6)) ∧ (v1 = (-1 : Int32) → K (M6 117 25) M6))
def wp_X8_atOnce (v1 : Int32) (M : kg_M) (K : Int32 → kg_M → Prop) : Prop :=
  (v1 = (-1 : Int32) → wJ_X8_atOnce_22  K v1 M) ∧ (¬ v1 = (-1 : Int32) → (v1 = (-2 : Int32) → wJ_X8_atOnce_22  K v1 M) ∧ (¬ v1 = (-2 : Int32) → wp_X8_isPerson v1 M (fun (r27 : Int32) (M25 : kg_M) => (¬ r27 = 0 → wJ_X8_atOnce_22  K v1 M25) ∧ (r27 = 0 → K (-1000000001 : Int32) M25))))
def wp_X8_both (v1 : Int32) (v2 : Int32) (M : kg_M) (K : Int32 → kg_M → Prop) : Prop :=
  vp_in (((7 : Int32) * v1) + v2) 49 ∧ (vp_in (((7 : Int32) * v2) + v1) 49 ∧ (K ((M 119 (((7 : Int32) * v1) + v2).toNatClampNeg) + (M 119 (((7 : Int32) * v2) + v1).toNatClampNeg)) M))
def wp_X8_canCome (v1 : Int32) (v2 : Int32) (M : kg_M) (K : Int32 → kg_M → Prop) : Prop :=
  vp_in ((26 : Int32) + v2) 55 ∧ ((¬ (M 120 ((26 : Int32) + v2).toNatClampNeg) = 0 → K (0 : Int32) M) ∧ ((M 120 ((26 : Int32) + v2).toNatClampNeg) = 0 → vp_in ((7 : Int32) + v1) 55 ∧ (((M 120 ((7 : Int32) + v1).toNatClampNeg) = v2 → K (0 : Int32) M) ∧ (¬ (M 120 ((7 : Int32) + v1).toNatClampNeg) = v2 → K (1 : Int32) M))))
def wp_X8_draw (v1 : Int32) (M : kg_M) (K : Int32 → kg_M → Prop) : Prop :=
  ∀ M2 : kg_M, M2 = kg_row M 117 (upd (M 117) 5 ((((((M 117 5).toInt64) * (1103515245 : Int64)) + (12345 : Int64)) - ((((M 117 5).toInt64) * (1103515245 : Int64)) + (12345 : Int64)) / (2147483648 : Int64) * (2147483648 : Int64)).toInt32)) → (¬ v1 = 0 ∧ (K (((M2 117 5) / (65536 : Int32)) - ((M2 117 5) / (65536 : Int32)) / v1 * v1) M2))
def wJ_X8_chance_48  (K : kg_M → Prop) (s1 : Int32) (s2 : Int32) (M : kg_M) : Prop :=
  vp_in s1 55 ∧ (∀ M19 : kg_M, M19 = kg_row M 120 (upd (M 120) s1.toNatClampNeg s2) → (K M19))
def wp_X8_chance  (M : kg_M) (K : kg_M → Prop) : Prop :=
  wp_X8_draw (M 117 2) M (fun (r4 : Int32) (M2 : kg_M) => wp_X8_draw (M2 117 0) M2 (fun (r7 : Int32) (M5 : kg_M) => wp_X8_canCome r4 r7 M5 (fun (r10 : Int32) (M8 : kg_M) => (r10 = 0 → vp_in ((7 : Int32) + r4) 55 ∧ (wJ_X8_chance_48  K ((7 : Int32) + r4) (M8 120 ((7 : Int32) + r4).toNatClampNeg) M8)) ∧ (¬ r10 = 0 → wJ_X8_chance_48  K ((7 : Int32) + r4) r7 M8))))
def wp_X8_isGate (v1 : Int32) (M : kg_M) (K : Int32 → kg_M → Prop) : Prop :=
  wp_X8_in v1.toInt64 (0 : Int64) (((M 117 0) - (1 : Int32)).toInt64) M (fun (r4 : Int32) (M2 : kg_M) => (r4 = 0 ∨ r4 = 1) ∧ K r4 M2)
def wL_X8_remember_52  (Kx84 : kg_M → Prop) (K : kg_M → Prop) : Nat → Int32 → kg_M → Prop
  | 0, _, _ => False
  | f + 1, v1, M => ((55 : Int32) ≤ v1 → Kx84  M) ∧ (¬ (55 : Int32) ≤ v1 → vp_in v1 55 ∧ (vp_in (((55 : Int32) * (M 117 20)) + v1) 1100 ∧ (∀ M13 : kg_M, M13 = kg_row M 128 (upd (M 128) (((55 : Int32) * (M 117 20)) + v1).toNatClampNeg (M 120 v1.toNatClampNeg)) → (wL_X8_remember_52  Kx84 K f (v1 + (1 : Int32)) M13))))
def wL_X8_remember_12  (Kx40 : kg_M → Prop) (K : kg_M → Prop) : Nat → Int32 → kg_M → Prop
  | 0, _, _ => False
  | f + 1, v1, M => ((1100 : Int32) ≤ v1 → Kx40  M) ∧ (¬ (1100 : Int32) ≤ v1 → vp_in v1 1100 ∧ (vp_in (v1 - (55 : Int32)) 1100 ∧ (∀ M30 : kg_M, M30 = kg_row M 128 (upd (M 128) (v1 - (55 : Int32)).toNatClampNeg (M 128 v1.toNatClampNeg)) → (wL_X8_remember_12  Kx40 K f (v1 + (1 : Int32)) M30))))
def wp_X8_remember  (M : kg_M) (K : kg_M → Prop) : Prop :=
  (¬ (M 117 20) = (20 : Int32) → ∃ g : Nat, wL_X8_remember_52  (fun (M : kg_M) => ∀ M17 : kg_M, M17 = kg_row M 117 (upd (M 117) 20 ((M 117 20) + (1 : Int32))) → (K M17)) K g (0 : Int32) M) ∧ ((M 117 20) = (20 : Int32) → ∃ g : Nat, wL_X8_remember_12  (fun (M : kg_M) => ∀ M34 : kg_M, M34 = kg_row M 117 (upd (M 117) 20 ((M 117 20) - (1 : Int32))) → (∃ g : Nat, wL_X8_remember_52  (fun (M : kg_M) => ∀ M38 : kg_M, M38 = kg_row M 117 (upd (M 117) 20 ((M 117 20) + (1 : Int32))) → (K M38)) K g (0 : Int32) M34)) K g (55 : Int32) M)
def wL_X8_waitingAt_4  (Kx41 : Int32 → kg_M → Prop) (K : Int32 → kg_M → Prop) : Nat → Int32 → Int32 → Int32 → kg_M → Prop
  | 0, _, _, _, _ => False
  | f + 1, v1, v2, v3, M => ((M 117 2) ≤ v3 → Kx41 v2 M) ∧ (¬ (M 117 2) ≤ v3 → vp_in ((7 : Int32) + v3) 55 ∧ ((¬ (M 120 ((7 : Int32) + v3).toNatClampNeg) = v1 → wL_X8_waitingAt_4  Kx41 K f v1 (v2 ||| (0 : Int32)) (v3 + (1 : Int32)) M) ∧ ((M 120 ((7 : Int32) + v3).toNatClampNeg) = v1 → wL_X8_waitingAt_4  Kx41 K f v1 (v2 ||| ((1 : Int32) <<< (v3 &&& 31))) (v3 + (1 : Int32)) M)))
def wp_X8_waitingAt (v1 : Int32) (M : kg_M) (K : Int32 → kg_M → Prop) : Prop :=
  ∃ g : Nat, wL_X8_waitingAt_4  (fun (v2 : Int32) (M : kg_M) => K v2 M) K g v1 (0 : Int32) (0 : Int32) M
def wp_X8_come (v1 : Int32) (v2 : Int32) (M : kg_M) (K : Int32 → kg_M → Prop) : Prop :=
  wp_X8_isPerson v1 M (fun (r4 : Int32) (M2 : kg_M) => (r4 = 0 → K (-1000000001 : Int32) M2) ∧ (¬ r4 = 0 → wp_X8_isGate v2 M2 (fun (r10 : Int32) (M8 : kg_M) => (¬ r10 = 0 → wp_X8_canCome v1 v2 M8 (fun (r16 : Int32) (M14 : kg_M) => (¬ r16 = 0 → wp_X8_remember  M14 (fun (M20 : kg_M) => vp_in ((7 : Int32) + v1) 55 ∧ (∀ M25 : kg_M, M25 = kg_row M20 120 (upd (M20 120) ((7 : Int32) + v1).toNatClampNeg v2) → (wp_X8_waitingAt v2 M25 (fun (r30 : Int32) (M28 : kg_M) => K r30 M28))))) ∧ (r16 = 0 → K (-1000000003 : Int32) M14))) ∧ (r10 = 0 → K (-1000000001 : Int32) M8))))
def wL_X8_here_0  (Kx38 : kg_M → Prop) (K : Int32 → kg_M → Prop) : Nat → kg_M → Prop
  | 0, _ => False
  | f + 1, M => ((M 117 9) ≤ (M 117 11) → Kx38  M) ∧ (¬ (M 117 9) ≤ (M 117 11) → vp_in (M 117 11) 240 ∧ ((¬ (M 123 (M 117 11).toNatClampNeg) = (32 : Int32) → Kx38  M) ∧ ((M 123 (M 117 11).toNatClampNeg) = (32 : Int32) → ∀ M11 : kg_M, M11 = kg_row M 117 (upd (M 117) 11 ((M 117 11) + (1 : Int32))) → (wL_X8_here_0  Kx38 K f  M11))))
def wJ_X8_here_38  (K : Int32 → kg_M → Prop) (M : kg_M) : Prop :=
  ((M 117 9) ≤ (M 117 11) → K (-1 : Int32) M) ∧ (¬ (M 117 9) ≤ (M 117 11) → vp_in (M 117 11) 240 ∧ (K (M 123 (M 117 11).toNatClampNeg) M))
def wp_X8_here  (M : kg_M) (K : Int32 → kg_M → Prop) : Prop :=
  ∃ g : Nat, wL_X8_here_0  (fun (M : kg_M) => wJ_X8_here_38  K  M) K g  M
def wp_X8_fails (v1 : Int32) (v2 : Int32) (M : kg_M) (K : Int32 → kg_M → Prop) : Prop :=
  ∀ M2 : kg_M, M2 = kg_row M 117 (upd (M 117) 10 v2) → (K v1 M2)
def wJ_X8_takeNumber_113  (Kb : Int32 → Int32 → kg_M → Prop) (Kx129 : Int32 → Int32 → kg_M → Prop) (K : Int32 → kg_M → Prop) (v1 : Int32) (v2 : Int32) (s1 : Int32) (M : kg_M) : Prop :=
  ∀ M35 : kg_M, M35 = kg_row M 117 (upd (M 117) 12 s1) → (∀ M38 : kg_M, M38 = kg_row M35 117 (upd (M35 117) 11 ((M35 117 11) + (1 : Int32))) → (Kb v1 v2 M38))
def wL_X8_takeNumber_42  (Kx129 : Int32 → Int32 → kg_M → Prop) (K : Int32 → kg_M → Prop) : Nat → Int32 → Int32 → kg_M → Prop
  | 0, _, _, _ => False
  | f + 1, v1, v2, M => ((M 117 9) ≤ (M 117 11) → Kx129 v1 v2 M) ∧ (¬ (M 117 9) ≤ (M 117 11) → vp_in (M 117 11) 240 ∧ (wp_X8_in ((M 123 (M 117 11).toNatClampNeg).toInt64) (48 : Int64) (57 : Int64) M (fun (r25 : Int32) (M23 : kg_M) => (r25 = 0 → Kx129 v1 v2 M23) ∧ (¬ r25 = 0 → ((M23 117 12) ≤ (10000 : Int32) → vp_in (M23 117 11) 240 ∧ (wJ_X8_takeNumber_113  (wL_X8_takeNumber_42  Kx129 K f) Kx129 K v1 v2 ((((10 : Int32) * (M23 117 12)) + (M23 123 (M23 117 11).toNatClampNeg)) - (48 : Int32)) M23)) ∧ (¬ (M23 117 12) ≤ (10000 : Int32) → wJ_X8_takeNumber_113  (wL_X8_takeNumber_42  Kx129 K f) Kx129 K v1 v2 (M23 117 12) M23)))))
def wJ_X8_takeNumber_157  (K : Int32 → kg_M → Prop) (M : kg_M) : Prop :=
  wp_X8_fails (2 : Int32) (M 117 13) M (fun (r49 : Int32) (M47 : kg_M) => K r49 M47)
def wJ_X8_takeNumber_129  (K : Int32 → kg_M → Prop) (v1 : Int32) (v2 : Int32) (M : kg_M) : Prop :=
  ((3 : Int32) < ((M 117 11) - (M 117 13)) → wJ_X8_takeNumber_157  K  M) ∧ (¬ (3 : Int32) < ((M 117 11) - (M 117 13)) → wp_X8_in ((M 117 12).toInt64) v1.toInt64 v2.toInt64 M (fun (r52 : Int32) (M50 : kg_M) => (¬ r52 = 0 → K (0 : Int32) M50) ∧ (r52 = 0 → wJ_X8_takeNumber_157  K  M50)))
def wp_X8_takeNumber (v1 : Int32) (v2 : Int32) (M : kg_M) (K : Int32 → kg_M → Prop) : Prop :=
  wp_X8_here  M (fun (r4 : Int32) (M2 : kg_M) => wp_X8_in r4.toInt64 (48 : Int64) (57 : Int64) M2 (fun (r7 : Int32) (M5 : kg_M) => (¬ r7 = 0 → ∀ M11 : kg_M, M11 = kg_row M5 117 (upd (M5 117) 13 (M5 117 11)) → (∀ M14 : kg_M, M14 = kg_row M11 117 (upd (M11 117) 12 (0 : Int32)) → (∃ g : Nat, wL_X8_takeNumber_42  (fun (v1 : Int32) (v2 : Int32) (M : kg_M) => wJ_X8_takeNumber_129  K v1 v2 M) K g v1 v2 M14))) ∧ (r7 = 0 → wp_X8_fails (1 : Int32) (M5 117 11) M5 (fun (r60 : Int32) (M58 : kg_M) => K r60 M58))))
def wp_X8_into (a1 : Nat) (N1 : Nat) (v2 : Int32) (v3 : Int32) (v4 : Int32) (M : kg_M) (K : Int32 → kg_M → Prop) : Prop :=
  wp_X8_takeNumber v3 v4 M (fun (r4 : Int32) (M2 : kg_M) => vp_in v2 N1 ∧ (∀ M7 : kg_M, M7 = kg_row M2 a1 (upd (M2 a1) v2.toNatClampNeg (M2 117 12)) → (K r4 M7)))
def wp_X8_takeGate  (M : kg_M) (K : Int32 → kg_M → Prop) : Prop :=
  ∀ M2 : kg_M, M2 = kg_row M 117 (upd (M 117) 14 ((M 117 14) + (1 : Int32))) → (wp_X8_into 124 5 (M 117 14) (1 : Int32) (99 : Int32) M2 (fun (r7 : Int32) (M5 : kg_M) => K r7 M5))
def wJ_X8_takeLikes_67  (K : Int32 → kg_M → Prop) (M : kg_M) : Prop :=
  wp_X8_fails (4 : Int32) (M 117 13) M (fun (r21 : Int32) (M19 : kg_M) => K r21 M19)
def wJ_X8_takeLikes_36  (K : Int32 → kg_M → Prop) (v2 : Int32) (s0 : Int32) (M : kg_M) : Prop :=
  (s0 ≤ 0 → (v2 = (M 117 12) → wJ_X8_takeLikes_67  K  M) ∧ (¬ v2 = (M 117 12) → vp_in (((7 : Int32) * v2) + (M 117 12)) 49 ∧ (((M 127 (((7 : Int32) * v2) + (M 117 12)).toNatClampNeg) < 0 → wp_X8_into 127 49 (((7 : Int32) * v2) + (M 117 12)) (0 : Int32) (9 : Int32) M (fun (r29 : Int32) (M27 : kg_M) => K r29 M27)) ∧ (¬ (M 127 (((7 : Int32) * v2) + (M 117 12)).toNatClampNeg) < 0 → wJ_X8_takeLikes_67  K  M)))) ∧ (¬ s0 ≤ 0 → K s0 M)
def wp_X8_takeLikes  (M : kg_M) (K : Int32 → kg_M → Prop) : Prop :=
  wp_X8_takeNumber (0 : Int32) ((M 117 16) - (1 : Int32)) M (fun (r4 : Int32) (M2 : kg_M) => (r4 ≤ 0 → wp_X8_takeNumber (0 : Int32) ((M2 117 16) - (1 : Int32)) M2 (fun (r10 : Int32) (M8 : kg_M) => wJ_X8_takeLikes_36  K (M2 117 12) r10 M8)) ∧ (¬ r4 ≤ 0 → wJ_X8_takeLikes_36  K (M2 117 12) r4 M2))
def wp_X8_takePerson  (M : kg_M) (K : Int32 → kg_M → Prop) : Prop :=
  ∀ M2 : kg_M, M2 = kg_row M 117 (upd (M 117) 16 ((M 117 16) + (1 : Int32))) → (wp_X8_into 125 7 (M 117 16) (0 : Int32) (1 : Int32) M2 (fun (r7 : Int32) (M5 : kg_M) => (r7 ≤ 0 → wp_X8_into 126 7 (M 117 16) (0 : Int32) (1 : Int32) M5 (fun (r13 : Int32) (M11 : kg_M) => K r13 M11)) ∧ (¬ r7 ≤ 0 → K r7 M5)))
def wJ_X8_takeClause_148  (K : Int32 → kg_M → Prop) (v3 : Int32) (M : kg_M) : Prop :=
  ∀ M43 : kg_M, M43 = kg_row M 117 (upd (M 117) 11 ((M 117 11) + (1 : Int32))) → (K v3 M43)
def wJ_X8_takeClause_124  (K : Int32 → kg_M → Prop) (s0 : Int32) (M : kg_M) : Prop :=
  (¬ s0 = 0 → wJ_X8_takeClause_148  K s0 M) ∧ (s0 = 0 → wp_X8_here  M (fun (r48 : Int32) (M46 : kg_M) => (r48 = (59 : Int32) → wJ_X8_takeClause_148  K s0 M46) ∧ (¬ r48 = (59 : Int32) → wp_X8_fails (1 : Int32) (M46 117 11) M46 (fun (r54 : Int32) (M52 : kg_M) => K r54 M52))))
def wJ_X8_takeClause_87  (K : Int32 → kg_M → Prop) (v2 : Int32) (M : kg_M) : Prop :=
  ∀ M26 : kg_M, M26 = kg_row M 117 (upd (M 117) 11 ((M 117 11) + (1 : Int32))) → ((¬ v2 = 0 → (¬ v2 = (1 : Int32) → wp_X8_takeLikes  M26 (fun (r37 : Int32) (M35 : kg_M) => wJ_X8_takeClause_124  K r37 M35)) ∧ (v2 = (1 : Int32) → wp_X8_takePerson  M26 (fun (r57 : Int32) (M55 : kg_M) => wJ_X8_takeClause_124  K r57 M55))) ∧ (v2 = 0 → wp_X8_takeGate  M26 (fun (r60 : Int32) (M58 : kg_M) => wJ_X8_takeClause_124  K r60 M58)))
def wJ_X8_takeClause_77  (K : Int32 → kg_M → Prop) (M : kg_M) : Prop :=
  wp_X8_fails (3 : Int32) (M 117 11) M (fun (r67 : Int32) (M65 : kg_M) => K r67 M65)
def wJ_X8_takeClause_63  (K : Int32 → kg_M → Prop) (v2 : Int32) (M : kg_M) : Prop :=
  (¬ v2 = (1 : Int32) → wJ_X8_takeClause_87  K v2 M) ∧ (v2 = (1 : Int32) → (¬ (M 117 16) = (7 : Int32) → wJ_X8_takeClause_87  K v2 M) ∧ ((M 117 16) = (7 : Int32) → wJ_X8_takeClause_77  K  M))
def wJ_X8_takeClause_36  (K : Int32 → kg_M → Prop) (s0 : Int32) (M : kg_M) : Prop :=
  (0 ≤ s0 → (¬ s0 = 0 → wJ_X8_takeClause_63  K s0 M) ∧ (s0 = 0 → ((M 117 14) = (5 : Int32) → wJ_X8_takeClause_77  K  M) ∧ (¬ (M 117 14) = (5 : Int32) → wJ_X8_takeClause_63  K s0 M))) ∧ (¬ 0 ≤ s0 → wp_X8_fails (1 : Int32) (M 117 11) M (fun (r73 : Int32) (M71 : kg_M) => K r73 M71))
def wp_X8_takeClause  (M : kg_M) (K : Int32 → kg_M → Prop) : Prop :=
  wp_X8_here  M (fun (r4 : Int32) (M2 : kg_M) => (¬ r4 = (103 : Int32) → (¬ r4 = (112 : Int32) → (¬ r4 = (108 : Int32) → wJ_X8_takeClause_36  K (-1 : Int32) M2) ∧ (r4 = (108 : Int32) → wJ_X8_takeClause_36  K (2 : Int32) M2)) ∧ (r4 = (112 : Int32) → wJ_X8_takeClause_36  K (1 : Int32) M2)) ∧ (r4 = (103 : Int32) → wJ_X8_takeClause_36  K (0 : Int32) M2))
def wL_X8_takeRead_18  (Kx44 : kg_M → Prop) (K : kg_M → Prop) : Nat → Int32 → kg_M → Prop
  | 0, _, _ => False
  | f + 1, v1, M => ((M 117 0) ≤ v1 → Kx44  M) ∧ (¬ (M 117 0) ≤ v1 → vp_in v1 5 ∧ (vp_in v1 5 ∧ (∀ M16 : kg_M, M16 = kg_row M 118 (upd (M 118) v1.toNatClampNeg (M 124 v1.toNatClampNeg)) → (wL_X8_takeRead_18  Kx44 K f (v1 + (1 : Int32)) M16))))
def wJ_X8_takeRead_76  (Kb : Int32 → kg_M → Prop) (Kx83 : kg_M → Prop) (K : kg_M → Prop) (v1 : Int32) (s1 : Int32) (s2 : Int32) (M : kg_M) : Prop :=
  vp_in s1 49 ∧ (∀ M32 : kg_M, M32 = kg_row M 119 (upd (M 119) s1.toNatClampNeg s2) → (Kb (v1 + (1 : Int32)) M32))
def wL_X8_takeRead_46  (Kx83 : kg_M → Prop) (K : kg_M → Prop) : Nat → Int32 → kg_M → Prop
  | 0, _, _ => False
  | f + 1, v1, M => ((49 : Int32) ≤ v1 → Kx83  M) ∧ (¬ (49 : Int32) ≤ v1 → vp_in v1 49 ∧ (((M 127 v1.toNatClampNeg) ≤ 0 → wJ_X8_takeRead_76  (wL_X8_takeRead_46  Kx83 K f) Kx83 K v1 v1 (0 : Int32) M) ∧ (¬ (M 127 v1.toNatClampNeg) ≤ 0 → vp_in v1 49 ∧ (wJ_X8_takeRead_76  (wL_X8_takeRead_46  Kx83 K f) Kx83 K v1 v1 (M 127 v1.toNatClampNeg) M))))
def wL_X8_takeRead_85  (Kx104 : kg_M → Prop) (K : kg_M → Prop) : Nat → Int32 → kg_M → Prop
  | 0, _, _ => False
  | f + 1, v1, M => ((55 : Int32) ≤ v1 → Kx104  M) ∧ (¬ (55 : Int32) ≤ v1 → vp_in v1 55 ∧ (∀ M44 : kg_M, M44 = kg_row M 120 (upd (M 120) v1.toNatClampNeg (0 : Int32)) → (wL_X8_takeRead_85  Kx104 K f (v1 + (1 : Int32)) M44)))
def wJ_X8_takeRead_172  (Kb : Int32 → kg_M → Prop) (Kx179 : kg_M → Prop) (K : kg_M → Prop) (v1 : Int32) (s1 : Int32) (s2 : Int32) (M : kg_M) : Prop :=
  vp_in s1 55 ∧ (∀ M72 : kg_M, M72 = kg_row M 120 (upd (M 120) s1.toNatClampNeg s2) → (Kb (v1 + (1 : Int32)) M72))
def wJ_X8_takeRead_135  (Kb : Int32 → kg_M → Prop) (Kx179 : kg_M → Prop) (K : kg_M → Prop) (v1 : Int32) (s1 : Int32) (s2 : Int32) (M : kg_M) : Prop :=
  vp_in s1 55 ∧ (∀ M58 : kg_M, M58 = kg_row M 120 (upd (M 120) s1.toNatClampNeg s2) → (vp_in ((7 : Int32) + v1) 55 ∧ (∀ M63 : kg_M, M63 = kg_row M58 120 (upd (M58 120) ((7 : Int32) + v1).toNatClampNeg (-1 : Int32)) → (((M63 117 2) ≤ v1 → wJ_X8_takeRead_172  Kb Kx179 K v1 ((14 : Int32) + v1) (0 : Int32) M63) ∧ (¬ (M63 117 2) ≤ v1 → vp_in v1 7 ∧ (wJ_X8_takeRead_172  Kb Kx179 K v1 ((14 : Int32) + v1) (M63 126 v1.toNatClampNeg) M63))))))
def wL_X8_takeRead_106  (Kx179 : kg_M → Prop) (K : kg_M → Prop) : Nat → Int32 → kg_M → Prop
  | 0, _, _ => False
  | f + 1, v1, M => ((7 : Int32) ≤ v1 → Kx179  M) ∧ (¬ (7 : Int32) ≤ v1 → ((M 117 2) ≤ v1 → wJ_X8_takeRead_135  (wL_X8_takeRead_106  Kx179 K f) Kx179 K v1 v1 (0 : Int32) M) ∧ (¬ (M 117 2) ≤ v1 → vp_in v1 7 ∧ (wJ_X8_takeRead_135  (wL_X8_takeRead_106  Kx179 K f) Kx179 K v1 v1 (M 125 v1.toNatClampNeg) M)))
def wp_X8_takeRead  (M : kg_M) (K : kg_M → Prop) : Prop :=
  ∀ M2 : kg_M, M2 = kg_row M 117 (upd (M 117) 0 (M 117 14)) → (∀ M5 : kg_M, M5 = kg_row M2 117 (upd (M2 117) 2 (M2 117 16)) → (∃ g : Nat, wL_X8_takeRead_18  (fun (M : kg_M) => ∃ g : Nat, wL_X8_takeRead_46  (fun (M : kg_M) => ∃ g : Nat, wL_X8_takeRead_85  (fun (M : kg_M) => ∃ g : Nat, wL_X8_takeRead_106  (fun (M : kg_M) => K M) K g (0 : Int32) M) K g (0 : Int32) M) K g (0 : Int32) M) K g (0 : Int32) M5))
def wL_X8_common_22  (Kx41 : kg_M → Prop) (K : Int32 → kg_M → Prop) : Nat → Int32 → kg_M → Prop
  | 0, _, _ => False
  | f + 1, v1, M => ((49 : Int32) ≤ v1 → Kx41  M) ∧ (¬ (49 : Int32) ≤ v1 → vp_in v1 49 ∧ (∀ M20 : kg_M, M20 = kg_row M 127 (upd (M 127) v1.toNatClampNeg (-1 : Int32)) → (wL_X8_common_22  Kx41 K f (v1 + (1 : Int32)) M20)))
def wL_X8_common_43  (Kx62 : Int32 → kg_M → Prop) (K : Int32 → kg_M → Prop) : Nat → Int32 → kg_M → Prop
  | 0, _, _ => False
  | f + 1, v1, M => (¬ v1 = 0 → Kx62 v1 M) ∧ (v1 = 0 → wp_X8_here  M (fun (r30 : Int32) (M28 : kg_M) => (r30 < 0 → Kx62 v1 M28) ∧ (¬ r30 < 0 → wp_X8_takeClause  M28 (fun (r36 : Int32) (M34 : kg_M) => wL_X8_common_43  Kx62 K f r36 M34))))
def wJ_X8_common_62  (K : Int32 → kg_M → Prop) (v1 : Int32) (M : kg_M) : Prop :=
  ∀ M39 : kg_M, M39 = kg_row M 117 (upd (M 117) 9 (0 : Int32)) → ((v1 ≤ 0 → wp_X8_takeRead  M39 (fun (M45 : kg_M) => ∀ M48 : kg_M, M48 = kg_row M45 117 (upd (M45 117) 32 (0 : Int32)) → (∀ M51 : kg_M, M51 = kg_row M48 117 (upd (M48 117) 35 (0 : Int32)) → (∀ M54 : kg_M, M54 = kg_row M51 117 (upd (M51 117) 20 (0 : Int32)) → (vp_in (0 : Int32) 2 ∧ (∀ M59 : kg_M, M59 = kg_row M54 141 (upd (M54 141) (0 : Int32).toNatClampNeg (0 : Int32)) → (vp_in (1 : Int32) 2 ∧ (∀ M64 : kg_M, M64 = kg_row M59 141 (upd (M59 141) (1 : Int32).toNatClampNeg (0 : Int32)) → (K (M64 117 2) M64))))))))) ∧ (¬ v1 ≤ 0 → K ((-10 : Int32) - v1) M39))
def wp_X8_common  (M : kg_M) (K : Int32 → kg_M → Prop) : Prop :=
  ∀ M2 : kg_M, M2 = kg_row M 117 (upd (M 117) 10 (-1 : Int32)) → (∀ M5 : kg_M, M5 = kg_row M2 117 (upd (M2 117) 11 (0 : Int32)) → (∀ M8 : kg_M, M8 = kg_row M5 117 (upd (M5 117) 14 (0 : Int32)) → (∀ M11 : kg_M, M11 = kg_row M8 117 (upd (M8 117) 16 (0 : Int32)) → (∃ g : Nat, wL_X8_common_22  (fun (M : kg_M) => ∃ g : Nat, wL_X8_common_43  (fun (v1 : Int32) (M : kg_M) => wJ_X8_common_62  K v1 M) K g (0 : Int32) M) K g (0 : Int32) M11))))
def wJ_X8_dies_69  (Kb : Int32 → Int32 → Int32 → kg_M → Prop) (Kx100 : Int32 → Int32 → kg_M → Prop) (K : Int32 → kg_M → Prop) (v1 : Int32) (v2 : Int32) (v3 : Int32) (s0 : Int32) (M : kg_M) : Prop :=
  vp_in ((26 : Int32) + v3) 55 ∧ ((¬ (M 120 ((26 : Int32) + v3).toNatClampNeg) = 0 → Kb v1 v2 (v3 + (1 : Int32)) M) ∧ ((M 120 ((26 : Int32) + v3).toNatClampNeg) = 0 → (s0 = 0 → Kb v1 v2 (v3 + (1 : Int32)) M) ∧ (¬ s0 = 0 → Kb v1 v3 (v3 + (1 : Int32)) M)))
def wL_X8_dies_17  (Kx100 : Int32 → Int32 → kg_M → Prop) (K : Int32 → kg_M → Prop) : Nat → Int32 → Int32 → Int32 → kg_M → Prop
  | 0, _, _, _, _ => False
  | f + 1, v1, v2, v3, M => ((M 117 0) ≤ v3 → Kx100 v1 v2 M) ∧ (¬ (M 117 0) ≤ v3 → (v2 < 0 → wJ_X8_dies_69  (wL_X8_dies_17  Kx100 K f) Kx100 K v1 v2 v3 (1 : Int32) M) ∧ (¬ v2 < 0 → vp_in v3 5 ∧ (vp_in ((21 : Int32) + v3) 55 ∧ (vp_in v2 5 ∧ (vp_in ((21 : Int32) + v2) 55 ∧ ((((M 118 v2.toNatClampNeg) - (M 120 ((21 : Int32) + v2).toNatClampNeg)) ≤ ((M 118 v3.toNatClampNeg) - (M 120 ((21 : Int32) + v3).toNatClampNeg)) → wJ_X8_dies_69  (wL_X8_dies_17  Kx100 K f) Kx100 K v1 v2 v3 (0 : Int32) M) ∧ (¬ ((M 118 v2.toNatClampNeg) - (M 120 ((21 : Int32) + v2).toNatClampNeg)) ≤ ((M 118 v3.toNatClampNeg) - (M 120 ((21 : Int32) + v3).toNatClampNeg)) → wJ_X8_dies_69  (wL_X8_dies_17  Kx100 K f) Kx100 K v1 v2 v3 (1 : Int32) M)))))))
def wp_X8_dies (v1 : Int32) (M : kg_M) (K : Int32 → kg_M → Prop) : Prop :=
  wp_X8_in v1.toInt64 (0 : Int64) (1 : Int64) M (fun (r4 : Int32) (M2 : kg_M) => (¬ r4 = 0 → ∃ g : Nat, wL_X8_dies_17  (fun (v1 : Int32) (v2 : Int32) (M : kg_M) => (v2 < 0 → K v2 M) ∧ (¬ v2 < 0 → (¬ v1 = 0 → vp_in v2 5 ∧ (vp_in ((21 : Int32) + v2) 55 ∧ (K ((M 118 v2.toNatClampNeg) - (M 120 ((21 : Int32) + v2).toNatClampNeg)) M))) ∧ (v1 = 0 → K v2 M))) K g v1 (-1 : Int32) (0 : Int32) M2) ∧ (r4 = 0 → K (-1000000002 : Int32) M2))
def wp_X8_hoursRefused (v1 : Int32) (M : kg_M) (K : Int32 → kg_M → Prop) : Prop :=
  wp_X8_in v1.toInt64 (1 : Int64) (60 : Int64) M (fun (r4 : Int32) (M2 : kg_M) => (¬ r4 = 0 → (¬ (M2 117 0) = 0 → vp_in (31 : Int32) 55 ∧ (((M2 120 (31 : Int32).toNatClampNeg) ≤ (9000 : Int32) → K (0 : Int32) M2) ∧ (¬ (M2 120 (31 : Int32).toNatClampNeg) ≤ (9000 : Int32) → K (-1000000004 : Int32) M2))) ∧ ((M2 117 0) = 0 → K (-1000000003 : Int32) M2)) ∧ (r4 = 0 → K (-1000000002 : Int32) M2))
def wJ_X8_log_52  (K : kg_M → Prop) (v1 : Int32) (M : kg_M) : Prop :=
  vp_in (34 : Int32) 55 ∧ (vp_in ((35 : Int32) + (M 120 (34 : Int32).toNatClampNeg)) 55 ∧ (∀ M12 : kg_M, M12 = kg_row M 120 (upd (M 120) ((35 : Int32) + (M 120 (34 : Int32).toNatClampNeg)).toNatClampNeg v1) → (vp_in (34 : Int32) 55 ∧ (vp_in (34 : Int32) 55 ∧ (∀ M19 : kg_M, M19 = kg_row M12 120 (upd (M12 120) (34 : Int32).toNatClampNeg ((M12 120 (34 : Int32).toNatClampNeg) + (1 : Int32))) → (K M19))))))
def wL_X8_log_15  (Kx41 : Int32 → kg_M → Prop) (K : kg_M → Prop) : Nat → Int32 → Int32 → kg_M → Prop
  | 0, _, _, _ => False
  | f + 1, v1, v2, M => ((55 : Int32) ≤ v2 → Kx41 v1 M) ∧ (¬ (55 : Int32) ≤ v2 → vp_in v2 55 ∧ (vp_in (v2 - (1 : Int32)) 55 ∧ (∀ M30 : kg_M, M30 = kg_row M 120 (upd (M 120) (v2 - (1 : Int32)).toNatClampNeg (M 120 v2.toNatClampNeg)) → (wL_X8_log_15  Kx41 K f v1 (v2 + (1 : Int32)) M30))))
def wp_X8_log (v1 : Int32) (M : kg_M) (K : kg_M → Prop) : Prop :=
  vp_in (34 : Int32) 55 ∧ ((¬ (M 120 (34 : Int32).toNatClampNeg) = (20 : Int32) → wJ_X8_log_52  K v1 M) ∧ ((M 120 (34 : Int32).toNatClampNeg) = (20 : Int32) → ∃ g : Nat, wL_X8_log_15  (fun (v1 : Int32) (M : kg_M) => vp_in (34 : Int32) 55 ∧ (vp_in (34 : Int32) 55 ∧ (∀ M38 : kg_M, M38 = kg_row M 120 (upd (M 120) (34 : Int32).toNatClampNeg ((M 120 (34 : Int32).toNatClampNeg) - (1 : Int32))) → (wJ_X8_log_52  K v1 M38)))) K g v1 (36 : Int32) M))
def wJ_X8_meet_79  (K : kg_M → Prop) (v1 : Int32) (v2 : Int32) (s0 : Int32) (M : kg_M) : Prop :=
  vp_in ((14 : Int32) + v1) 55 ∧ (∀ M34 : kg_M, M34 = kg_row M 120 (upd (M 120) ((14 : Int32) + v1).toNatClampNeg s0) → (vp_in ((14 : Int32) + v2) 55 ∧ (∀ M39 : kg_M, M39 = kg_row M34 120 (upd (M34 120) ((14 : Int32) + v2).toNatClampNeg s0) → (vp_in (32 : Int32) 55 ∧ (vp_in (32 : Int32) 55 ∧ (∀ M46 : kg_M, M46 = kg_row M39 120 (upd (M39 120) (32 : Int32).toNatClampNeg ((M39 120 (32 : Int32).toNatClampNeg) + (1 : Int32))) → (wp_X8_log (((10 : Int32) * v1) + v2) M46 (fun (M49 : kg_M) => K M49))))))))
def wp_X8_meet (v1 : Int32) (v2 : Int32) (M : kg_M) (K : kg_M → Prop) : Prop :=
  vp_in v1 55 ∧ (vp_in v1 55 ∧ (∀ M6 : kg_M, M6 = kg_row M 120 (upd (M 120) v1.toNatClampNeg ((1 : Int32) - (M 120 v1.toNatClampNeg))) → (vp_in v2 55 ∧ (vp_in v2 55 ∧ (∀ M13 : kg_M, M13 = kg_row M6 120 (upd (M6 120) v2.toNatClampNeg ((1 : Int32) - (M6 120 v2.toNatClampNeg))) → (vp_in ((7 : Int32) + v1) 55 ∧ (∀ M18 : kg_M, M18 = kg_row M13 120 (upd (M13 120) ((7 : Int32) + v1).toNatClampNeg (-1 : Int32)) → (vp_in ((7 : Int32) + v2) 55 ∧ (∀ M23 : kg_M, M23 = kg_row M18 120 (upd (M18 120) ((7 : Int32) + v2).toNatClampNeg (-1 : Int32)) → (vp_in ((14 : Int32) + v1) 55 ∧ (((M23 120 ((14 : Int32) + v1).toNatClampNeg) = (1 : Int32) → wJ_X8_meet_79  K v1 v2 (1 : Int32) M23) ∧ (¬ (M23 120 ((14 : Int32) + v1).toNatClampNeg) = (1 : Int32) → vp_in ((14 : Int32) + v2) 55 ∧ ((¬ (M23 120 ((14 : Int32) + v2).toNatClampNeg) = (1 : Int32) → wJ_X8_meet_79  K v1 v2 (0 : Int32) M23) ∧ ((M23 120 ((14 : Int32) + v2).toNatClampNeg) = (1 : Int32) → wJ_X8_meet_79  K v1 v2 (1 : Int32) M23))))))))))))))
def wJ_X8_pairAt_159  (Kb : Int32 → Int32 → Int32 → kg_M → Prop) (Kx178 : Int32 → kg_M → Prop) (K : Int32 → kg_M → Prop) (v1 : Int32) (v2 : Int32) (v3 : Int32) (s0 : Int32) (M : kg_M) : Prop :=
  (s0 = 0 → Kb v1 v2 (v3 + (1 : Int32)) M) ∧ (¬ s0 = 0 → Kb v1 v3 (v3 + (1 : Int32)) M)
def wJ_X8_pairAt_108  (Kb : Int32 → Int32 → Int32 → kg_M → Prop) (Kx178 : Int32 → kg_M → Prop) (K : Int32 → kg_M → Prop) (v1 : Int32) (v2 : Int32) (v3 : Int32) (s0 : Int32) (M : kg_M) : Prop :=
  (s0 = 0 → wJ_X8_pairAt_159  Kb Kx178 K v1 v2 v3 (0 : Int32) M) ∧ (¬ s0 = 0 → (v2 < 0 → wJ_X8_pairAt_159  Kb Kx178 K v1 v2 v3 (1 : Int32) M) ∧ (¬ v2 < 0 → vp_in v3 21 ∧ (vp_in v3 21 ∧ (wp_X8_both (M 121 v3.toNatClampNeg) (M 122 v3.toNatClampNeg) M (fun (r32 : Int32) (M30 : kg_M) => vp_in v2 21 ∧ (vp_in v2 21 ∧ (wp_X8_both (M30 121 v2.toNatClampNeg) (M30 122 v2.toNatClampNeg) M30 (fun (r39 : Int32) (M37 : kg_M) => (r32 ≤ r39 → wJ_X8_pairAt_159  Kb Kx178 K v1 v2 v3 (0 : Int32) M37) ∧ (¬ r32 ≤ r39 → wJ_X8_pairAt_159  Kb Kx178 K v1 v2 v3 (1 : Int32) M37)))))))))
def wJ_X8_pairAt_77  (Kb : Int32 → Int32 → Int32 → kg_M → Prop) (Kx178 : Int32 → kg_M → Prop) (K : Int32 → kg_M → Prop) (v1 : Int32) (v2 : Int32) (v3 : Int32) (s0 : Int32) (M : kg_M) : Prop :=
  (s0 = 0 → wJ_X8_pairAt_108  Kb Kx178 K v1 v2 v3 (0 : Int32) M) ∧ (¬ s0 = 0 → vp_in v3 21 ∧ (vp_in v3 21 ∧ (wp_X8_would (M 121 v3.toNatClampNeg) (M 122 v3.toNatClampNeg) M (fun (r49 : Int32) (M47 : kg_M) => (r49 = 0 → wJ_X8_pairAt_108  Kb Kx178 K v1 v2 v3 (0 : Int32) M47) ∧ (¬ r49 = 0 → wJ_X8_pairAt_108  Kb Kx178 K v1 v2 v3 (1 : Int32) M47)))))
def wL_X8_pairAt_4  (Kx178 : Int32 → kg_M → Prop) (K : Int32 → kg_M → Prop) : Nat → Int32 → Int32 → Int32 → kg_M → Prop
  | 0, _, _, _, _ => False
  | f + 1, v1, v2, v3, M => ((21 : Int32) ≤ v3 → Kx178 v2 M) ∧ (¬ (21 : Int32) ≤ v3 → vp_in v3 21 ∧ (((M 117 2) ≤ (M 121 v3.toNatClampNeg) → wJ_X8_pairAt_77  (wL_X8_pairAt_4  Kx178 K f) Kx178 K v1 v2 v3 (0 : Int32) M) ∧ (¬ (M 117 2) ≤ (M 121 v3.toNatClampNeg) → vp_in v3 21 ∧ (((M 117 2) ≤ (M 122 v3.toNatClampNeg) → wJ_X8_pairAt_77  (wL_X8_pairAt_4  Kx178 K f) Kx178 K v1 v2 v3 (0 : Int32) M) ∧ (¬ (M 117 2) ≤ (M 122 v3.toNatClampNeg) → vp_in v3 21 ∧ (vp_in ((7 : Int32) + (M 121 v3.toNatClampNeg)) 55 ∧ ((¬ (M 120 ((7 : Int32) + (M 121 v3.toNatClampNeg)).toNatClampNeg) = v1 → wJ_X8_pairAt_77  (wL_X8_pairAt_4  Kx178 K f) Kx178 K v1 v2 v3 (0 : Int32) M) ∧ ((M 120 ((7 : Int32) + (M 121 v3.toNatClampNeg)).toNatClampNeg) = v1 → vp_in v3 21 ∧ (vp_in ((7 : Int32) + (M 122 v3.toNatClampNeg)) 55 ∧ ((¬ (M 120 ((7 : Int32) + (M 122 v3.toNatClampNeg)).toNatClampNeg) = v1 → wJ_X8_pairAt_77  (wL_X8_pairAt_4  Kx178 K f) Kx178 K v1 v2 v3 (0 : Int32) M) ∧ ((M 120 ((7 : Int32) + (M 122 v3.toNatClampNeg)).toNatClampNeg) = v1 → wJ_X8_pairAt_77  (wL_X8_pairAt_4  Kx178 K f) Kx178 K v1 v2 v3 (1 : Int32) M)))))))))))
def wp_X8_pairAt (v1 : Int32) (M : kg_M) (K : Int32 → kg_M → Prop) : Prop :=
  ∃ g : Nat, wL_X8_pairAt_4  (fun (v2 : Int32) (M : kg_M) => K v2 M) K g v1 (-1 : Int32) (0 : Int32) M
def wJ_X8_pass_105  (Kb : Int32 → kg_M → Prop) (Kx112 : kg_M → Prop) (K : kg_M → Prop) (v1 : Int32) (s1 : Int32) (s2 : Int32) (M : kg_M) : Prop :=
  vp_in s1 55 ∧ (∀ M34 : kg_M, M34 = kg_row M 120 (upd (M 120) s1.toNatClampNeg s2) → (Kb (v1 + (1 : Int32)) M34))
def wL_X8_pass_2  (Kx112 : kg_M → Prop) (K : kg_M → Prop) : Nat → Int32 → kg_M → Prop
  | 0, _, _ => False
  | f + 1, v1, M => ((M 117 0) ≤ v1 → Kx112  M) ∧ (¬ (M 117 0) ≤ v1 → vp_in ((26 : Int32) + v1) 55 ∧ ((¬ (M 120 ((26 : Int32) + v1).toNatClampNeg) = 0 → wL_X8_pass_2  Kx112 K f (v1 + (1 : Int32)) M) ∧ ((M 120 ((26 : Int32) + v1).toNatClampNeg) = 0 → wp_X8_pairAt v1 M (fun (r13 : Int32) (M11 : kg_M) => (r13 < 0 → vp_in ((21 : Int32) + v1) 55 ∧ (vp_in ((21 : Int32) + v1) 55 ∧ (∀ M21 : kg_M, M21 = kg_row M11 120 (upd (M11 120) ((21 : Int32) + v1).toNatClampNeg ((M11 120 ((21 : Int32) + v1).toNatClampNeg) + (1 : Int32))) → (vp_in ((21 : Int32) + v1) 55 ∧ (vp_in v1 5 ∧ (((M21 120 ((21 : Int32) + v1).toNatClampNeg) < (M21 118 v1.toNatClampNeg) → wJ_X8_pass_105  (wL_X8_pass_2  Kx112 K f) Kx112 K v1 ((26 : Int32) + v1) (0 : Int32) M21) ∧ (¬ (M21 120 ((21 : Int32) + v1).toNatClampNeg) < (M21 118 v1.toNatClampNeg) → wJ_X8_pass_105  (wL_X8_pass_2  Kx112 K f) Kx112 K v1 ((26 : Int32) + v1) (1 : Int32) M21))))))) ∧ (¬ r13 < 0 → vp_in r13 21 ∧ (vp_in r13 21 ∧ (wp_X8_meet (M11 121 r13.toNatClampNeg) (M11 122 r13.toNatClampNeg) M11 (fun (M41 : kg_M) => vp_in ((21 : Int32) + v1) 55 ∧ (∀ M46 : kg_M, M46 = kg_row M41 120 (upd (M41 120) ((21 : Int32) + v1).toNatClampNeg (0 : Int32)) → (wL_X8_pass_2  Kx112 K f (v1 + (1 : Int32)) M46))))))))))
def wp_X8_pass  (M : kg_M) (K : kg_M → Prop) : Prop :=
  ∃ g : Nat, wL_X8_pass_2  (fun (M : kg_M) => vp_in (31 : Int32) 55 ∧ (vp_in (31 : Int32) 55 ∧ (∀ M54 : kg_M, M54 = kg_row M 120 (upd (M 120) (31 : Int32).toNatClampNeg ((M 120 (31 : Int32).toNatClampNeg) + (1 : Int32))) → (K M54)))) K g (0 : Int32) M
def wJ_X8_drift_34  (Kb : Int32 → Int32 → kg_M → Prop) (Kx44 : kg_M → Prop) (K : Int32 → kg_M → Prop) (v1 : Int32) (v3 : Int32) (M : kg_M) : Prop :=
  wp_X8_pass  M (fun (M19 : kg_M) => Kb v1 (v3 + (1 : Int32)) M19)
def wL_X8_drift_18  (Kx44 : kg_M → Prop) (K : Int32 → kg_M → Prop) : Nat → Int32 → Int32 → kg_M → Prop
  | 0, _, _, _ => False
  | f + 1, v1, v3, M => (v1 ≤ v3 → Kx44  M) ∧ (¬ v1 ≤ v3 → ((M 117 2) ≤ 0 → wJ_X8_drift_34  (wL_X8_drift_18  Kx44 K f) Kx44 K v1 v3 M) ∧ (¬ (M 117 2) ≤ 0 → wp_X8_chance  M (fun (M22 : kg_M) => wJ_X8_drift_34  (wL_X8_drift_18  Kx44 K f) Kx44 K v1 v3 M22)))
def wp_X8_drift (v1 : Int32) (M : kg_M) (K : Int32 → kg_M → Prop) : Prop :=
  wp_X8_hoursRefused v1 M (fun (r4 : Int32) (M2 : kg_M) => (r4 = 0 → wp_X8_remember  M2 (fun (M8 : kg_M) => ∃ g : Nat, wL_X8_drift_18  (fun (M : kg_M) => vp_in (32 : Int32) 55 ∧ (K (M 120 (32 : Int32).toNatClampNeg) M)) K g v1 (0 : Int32) M8)) ∧ (¬ r4 = 0 → K r4 M2))
def wL_X8_dry_34  (Kx58 : Int64 → kg_M → Prop) (K : Int32 → kg_M → Prop) : Nat → Int32 → Int32 → Int64 → Int32 → kg_M → Prop
  | 0, _, _, _, _, _ => False
  | f + 1, v1, v2, v3, v5, M => (v1 ≤ v5 → Kx58 v3 M) ∧ (¬ v1 ≤ v5 → wL_X8_dry_34  Kx58 K f v1 v2 ((v3 * (((100 : Int32) - v2).toInt64)) / (100 : Int64)) (v5 + (1 : Int32)) M)
def wp_X8_dry (v1 : Int32) (v2 : Int32) (M : kg_M) (K : Int32 → kg_M → Prop) : Prop :=
  wp_X8_in v1.toInt64 (0 : Int64) (60 : Int64) M (fun (r4 : Int32) (M2 : kg_M) => (r4 = 0 → K (-1000000002 : Int32) M2) ∧ (¬ r4 = 0 → wp_X8_in v2.toInt64 (0 : Int64) (100 : Int64) M2 (fun (r10 : Int32) (M8 : kg_M) => (¬ r10 = 0 → ∃ g : Nat, wL_X8_dry_34  (fun (v3 : Int64) (M : kg_M) => K v3.toInt32 M) K g v1 v2 (1000000000 : Int64) (0 : Int32) M8) ∧ (r10 = 0 → K (-1000000002 : Int32) M8))))
def wL_X8_whomWould_4  (Kx42 : Int32 → kg_M → Prop) (K : Int32 → kg_M → Prop) : Nat → Int32 → Int32 → Int32 → kg_M → Prop
  | 0, _, _, _, _ => False
  | f + 1, v1, v2, v3, M => ((M 117 2) ≤ v3 → Kx42 v2 M) ∧ (¬ (M 117 2) ≤ v3 → (v3 = v1 → wL_X8_whomWould_4  Kx42 K f v1 (v2 ||| (0 : Int32)) (v3 + (1 : Int32)) M) ∧ (¬ v3 = v1 → wp_X8_would v1 v3 M (fun (r11 : Int32) (M9 : kg_M) => (r11 = 0 → wL_X8_whomWould_4  Kx42 K f v1 (v2 ||| (0 : Int32)) (v3 + (1 : Int32)) M9) ∧ (¬ r11 = 0 → wL_X8_whomWould_4  Kx42 K f v1 (v2 ||| ((1 : Int32) <<< (v3 &&& 31))) (v3 + (1 : Int32)) M9))))
def wp_X8_whomWould (v1 : Int32) (M : kg_M) (K : Int32 → kg_M → Prop) : Prop :=
  ∃ g : Nat, wL_X8_whomWould_4  (fun (v2 : Int32) (M : kg_M) => K v2 M) K g v1 (0 : Int32) (0 : Int32) M
def wp_X8_evening (v1 : Int32) (M : kg_M) (K : Int32 → kg_M → Prop) : Prop :=
  wp_X8_isPerson v1 M (fun (r4 : Int32) (M2 : kg_M) => (¬ r4 = 0 → vp_in ((7 : Int32) + v1) 55 ∧ ((0 ≤ (M2 120 ((7 : Int32) + v1).toNatClampNeg) → wp_X8_whomWould v1 M2 (fun (r15 : Int32) (M13 : kg_M) => vp_in ((7 : Int32) + v1) 55 ∧ (wp_X8_waitingAt (M13 120 ((7 : Int32) + v1).toNatClampNeg) M13 (fun (r20 : Int32) (M18 : kg_M) => wp_X8_bits (r15 &&& r20) M18 (fun (r23 : Int32) (M21 : kg_M) => K ((10 : Int32) - r23) M21))))) ∧ (¬ 0 ≤ (M2 120 ((7 : Int32) + v1).toNatClampNeg) → K (-1000000003 : Int32) M2))) ∧ (r4 = 0 → K (-1000000001 : Int32) M2))
def wp_X8_fault  (M : kg_M) (K : Int32 → kg_M → Prop) : Prop :=
  K (M 117 10) M
def wp_X8_feed (v1 : Int32) (M : kg_M) (K : Int32 → kg_M → Prop) : Prop :=
  wp_X8_in v1.toInt64 (0 : Int64) (255 : Int64) M (fun (r4 : Int32) (M2 : kg_M) => (¬ r4 = 0 → (¬ (M2 117 9) = (240 : Int32) → vp_in (M2 117 9) 240 ∧ (∀ M13 : kg_M, M13 = kg_row M2 123 (upd (M2 123) (M2 117 9).toNatClampNeg v1) → (∀ M16 : kg_M, M16 = kg_row M13 117 (upd (M13 117) 9 ((M13 117 9) + (1 : Int32))) → (K (M16 117 9) M16)))) ∧ ((M2 117 9) = (240 : Int32) → K (-1000000004 : Int32) M2)) ∧ (r4 = 0 → K (-1000000002 : Int32) M2))
def wL_X8_findMasks_12  (Kx75 : kg_M → Prop) (K : kg_M → Prop) : Nat → Int32 → Int32 → kg_M → Prop
  | 0, _, _, _ => False
  | f + 1, v1, v2, M => ((10648 : Int32) ≤ v2 → Kx75  M) ∧ (¬ (10648 : Int32) ≤ v2 → wp_X8_choose v2 M (fun (r14 : Int32) (M12 : kg_M) => (r14 ≤ 0 → wL_X8_findMasks_12  Kx75 K f v1 (v2 + (1 : Int32)) M12) ∧ (¬ r14 ≤ 0 → wp_X8_bits r14 M12 (fun (r20 : Int32) (M18 : kg_M) => (v1 < (r20 / (2 : Int32)) → wL_X8_findMasks_12  Kx75 K f v1 (v2 + (1 : Int32)) M18) ∧ (¬ v1 < (r20 / (2 : Int32)) → vp_in (M18 117 29) 10648 ∧ (∀ M26 : kg_M, M26 = kg_row M18 132 (upd (M18 132) (M18 117 29).toNatClampNeg r14) → (vp_in (M26 117 29) 10648 ∧ (∀ M31 : kg_M, M31 = kg_row M26 133 (upd (M26 133) (M26 117 29).toNatClampNeg v2) → (∀ M34 : kg_M, M34 = kg_row M31 117 (upd (M31 117) 29 ((M31 117 29) + (1 : Int32))) → (wL_X8_findMasks_12  Kx75 K f v1 (v2 + (1 : Int32)) M34))))))))))
def wp_X8_findMasks  (M : kg_M) (K : kg_M → Prop) : Prop :=
  ∀ M2 : kg_M, M2 = kg_row M 117 (upd (M 117) 29 (0 : Int32)) → (wp_X8_openGates  M2 (fun (r7 : Int32) (M5 : kg_M) => ∃ g : Nat, wL_X8_findMasks_12  (fun (M : kg_M) => K M) K g r7 (0 : Int32) M5))
def wL_X8_first_11  (Kx44 : Int32 → kg_M → Prop) (K : Int32 → kg_M → Prop) : Nat → Int32 → Int32 → Int32 → kg_M → Prop
  | 0, _, _, _, _ => False
  | f + 1, v1, v2, v3, M => ((M 117 2) ≤ v3 → Kx44 v2 M) ∧ (¬ (M 117 2) ≤ v3 → wp_X8_madeIll v3 M (fun (r11 : Int32) (M9 : kg_M) => (¬ r11 = v1 → wL_X8_first_11  Kx44 K f v1 (v2 ||| (0 : Int32)) (v3 + (1 : Int32)) M9) ∧ (r11 = v1 → wL_X8_first_11  Kx44 K f v1 (v2 ||| ((1 : Int32) <<< (v3 &&& 31))) (v3 + (1 : Int32)) M9)))
def wp_X8_first  (M : kg_M) (K : Int32 → kg_M → Prop) : Prop :=
  wp_X8_allWith (14 : Int32) M (fun (r4 : Int32) (M2 : kg_M) => ∃ g : Nat, wL_X8_first_11  (fun (v2 : Int32) (M : kg_M) => K v2 M) K g r4 (0 : Int32) (0 : Int32) M2)
def wp_X8_gate (v1 : Int32) (v2 : Int32) (M : kg_M) (K : Int32 → kg_M → Prop) : Prop :=
  wp_X8_isGate v1 M (fun (r4 : Int32) (M2 : kg_M) => (¬ r4 = 0 → (v2 = (0 : Int32) → vp_in v1 5 ∧ (K (M2 118 v1.toNatClampNeg) M2)) ∧ (¬ v2 = (0 : Int32) → (v2 = (1 : Int32) → vp_in ((21 : Int32) + v1) 55 ∧ (K (M2 120 ((21 : Int32) + v1).toNatClampNeg) M2)) ∧ (¬ v2 = (1 : Int32) → (v2 = (2 : Int32) → vp_in ((26 : Int32) + v1) 55 ∧ (K (M2 120 ((26 : Int32) + v1).toNatClampNeg) M2)) ∧ (¬ v2 = (2 : Int32) → (v2 = (3 : Int32) → wp_X8_waitingAt v1 M2 (fun (r29 : Int32) (M27 : kg_M) => K r29 M27)) ∧ (¬ v2 = (3 : Int32) → K (-1000000002 : Int32) M2))))) ∧ (r4 = 0 → K (-1000000001 : Int32) M2))
def wL_X8_goBack_27  (Kx56 : Int32 → kg_M → Prop) (K : Int32 → kg_M → Prop) : Nat → Int32 → Int32 → kg_M → Prop
  | 0, _, _, _ => False
  | f + 1, v1, v2, M => ((55 : Int32) ≤ v2 → Kx56 v1 M) ∧ (¬ (55 : Int32) ≤ v2 → vp_in (((56 : Int32) * v1) + v2) 112 ∧ (vp_in v2 55 ∧ (∀ M21 : kg_M, M21 = kg_row M 120 (upd (M 120) v2.toNatClampNeg (M 140 (((56 : Int32) * v1) + v2).toNatClampNeg)) → (wL_X8_goBack_27  Kx56 K f v1 (v2 + (1 : Int32)) M21))))
def wp_X8_goBack (v1 : Int32) (M : kg_M) (K : Int32 → kg_M → Prop) : Prop :=
  wp_X8_in v1.toInt64 (0 : Int64) (1 : Int64) M (fun (r4 : Int32) (M2 : kg_M) => (¬ r4 = 0 → vp_in v1 2 ∧ ((¬ (M2 141 v1.toNatClampNeg) = 0 → ∃ g : Nat, wL_X8_goBack_27  (fun (v1 : Int32) (M : kg_M) => vp_in (((56 : Int32) * v1) + (55 : Int32)) 112 ∧ (∀ M27 : kg_M, M27 = kg_row M 117 (upd (M 117) 5 (M 140 (((56 : Int32) * v1) + (55 : Int32)).toNatClampNeg)) → (∀ M30 : kg_M, M30 = kg_row M27 117 (upd (M27 117) 20 (0 : Int32)) → (K (1 : Int32) M30)))) K g v1 (0 : Int32) M2) ∧ ((M2 141 v1.toNatClampNeg) = 0 → K (-1000000003 : Int32) M2))) ∧ (r4 = 0 → K (-1000000001 : Int32) M2))
def wp_X8_goOff (v1 : Int32) (M : kg_M) (K : Int32 → kg_M → Prop) : Prop :=
  wp_X8_isPerson v1 M (fun (r4 : Int32) (M2 : kg_M) => (¬ r4 = 0 → vp_in ((7 : Int32) + v1) 55 ∧ ((0 ≤ (M2 120 ((7 : Int32) + v1).toNatClampNeg) → wp_X8_remember  M2 (fun (M13 : kg_M) => vp_in ((7 : Int32) + v1) 55 ∧ (vp_in ((7 : Int32) + v1) 55 ∧ (∀ M20 : kg_M, M20 = kg_row M13 120 (upd (M13 120) ((7 : Int32) + v1).toNatClampNeg (-1 : Int32)) → (K (M13 120 ((7 : Int32) + v1).toNatClampNeg) M20))))) ∧ (¬ 0 ≤ (M2 120 ((7 : Int32) + v1).toNatClampNeg) → K (-1000000003 : Int32) M2))) ∧ (r4 = 0 → K (-1000000001 : Int32) M2))
def wp_X8_hole (v1 : Int32) (M : kg_M) (K : Int32 → kg_M → Prop) : Prop :=
  wp_X8_isPerson v1 M (fun (r4 : Int32) (M2 : kg_M) => (¬ r4 = 0 → vp_in ((7 : Int32) + v1) 55 ∧ (((M2 120 ((7 : Int32) + v1).toNatClampNeg) < 0 → wp_X8_remember  M2 (fun (M13 : kg_M) => vp_in v1 55 ∧ (vp_in v1 55 ∧ (∀ M20 : kg_M, M20 = kg_row M13 120 (upd (M13 120) v1.toNatClampNeg ((1 : Int32) - (M13 120 v1.toNatClampNeg))) → (vp_in (33 : Int32) 55 ∧ (vp_in (33 : Int32) 55 ∧ (∀ M27 : kg_M, M27 = kg_row M20 120 (upd (M20 120) (33 : Int32).toNatClampNeg ((M20 120 (33 : Int32).toNatClampNeg) + (1 : Int32))) → (vp_in v1 55 ∧ (K (M27 120 v1.toNatClampNeg) M27))))))))) ∧ (¬ (M2 120 ((7 : Int32) + v1).toNatClampNeg) < 0 → K (-1000000003 : Int32) M2))) ∧ (r4 = 0 → K (-1000000001 : Int32) M2))
def wL_X8_hour_18  (Kx33 : kg_M → Prop) (K : Int32 → kg_M → Prop) : Nat → Int32 → Int32 → kg_M → Prop
  | 0, _, _, _ => False
  | f + 1, v1, v3, M => (v1 ≤ v3 → Kx33  M) ∧ (¬ v1 ≤ v3 → wp_X8_pass  M (fun (M15 : kg_M) => wL_X8_hour_18  Kx33 K f v1 (v3 + (1 : Int32)) M15))
def wp_X8_hour (v1 : Int32) (M : kg_M) (K : Int32 → kg_M → Prop) : Prop :=
  wp_X8_hoursRefused v1 M (fun (r4 : Int32) (M2 : kg_M) => (r4 = 0 → wp_X8_remember  M2 (fun (M8 : kg_M) => ∃ g : Nat, wL_X8_hour_18  (fun (M : kg_M) => vp_in (31 : Int32) 55 ∧ (K (M 120 (31 : Int32).toNatClampNeg) M)) K g v1 (0 : Int32) M8)) ∧ (¬ r4 = 0 → K r4 M2))
def wp_X8_ill (v1 : Int32) (v2 : Int32) (M : kg_M) (K : Int32 → kg_M → Prop) : Prop :=
  wp_X8_isPerson v1 M (fun (r4 : Int32) (M2 : kg_M) => (¬ r4 = 0 → (¬ (M2 117 32) = (6 : Int32) → vp_in (M2 117 32) 6 ∧ (∀ M13 : kg_M, M13 = kg_row M2 136 (upd (M2 136) (M2 117 32).toNatClampNeg v1) → (vp_in (M13 117 32) 6 ∧ (v2 = 0 ∨ v2 = 1) ∧ (∀ M19 : kg_M, M19 = kg_row M13 137 (upd (M13 137) (M13 117 32).toNatClampNeg v2) → (∀ M22 : kg_M, M22 = kg_row M19 117 (upd (M19 117) 32 ((M19 117 32) + (1 : Int32))) → (K (M22 117 32) M22)))))) ∧ ((M2 117 32) = (6 : Int32) → K (-1000000004 : Int32) M2)) ∧ (r4 = 0 → K (-1000000001 : Int32) M2))
def wp_X8_isSet (v1 : Int32) (M : kg_M) (K : Int32 → kg_M → Prop) : Prop :=
  wp_X8_in v1.toInt64 (0 : Int64) ((((1 : Int32) <<< ((M 117 2) &&& 31)) - (1 : Int32)).toInt64) M (fun (r4 : Int32) (M2 : kg_M) => (r4 = 0 ∨ r4 = 1) ∧ K r4 M2)
def wL_X8_isThere_2  (Kx27 : kg_M → Prop) (Kx35 : kg_M → Prop) (K : Int32 → kg_M → Prop) : Nat → Int32 → Int32 → Int32 → kg_M → Prop
  | 0, _, _, _, _ => False
  | f + 1, v1, v2, v3, M => ((128 : Int32) ≤ v3 → Kx35  M) ∧ (¬ (128 : Int32) ≤ v3 → vp_in v3 128 ∧ (((M 134 v3.toNatClampNeg) = 0 → wL_X8_isThere_2  Kx27 Kx35 K f v1 v2 (v3 + (1 : Int32)) M) ∧ (¬ (M 134 v3.toNatClampNeg) = 0 → (¬ (v3 &&& v1) = (v2 &&& v1) → wL_X8_isThere_2  Kx27 Kx35 K f v1 v2 (v3 + (1 : Int32)) M) ∧ ((v3 &&& v1) = (v2 &&& v1) → Kx27  M))))
def wp_X8_isThere (v1 : Int32) (v2 : Int32) (M : kg_M) (K : Int32 → kg_M → Prop) : Prop :=
  ∃ g : Nat, wL_X8_isThere_2  (fun (M : kg_M) => K (1 : Int32) M) (fun (M : kg_M) => K (0 : Int32) M) K g v1 v2 (0 : Int32) M
def wL_X8_judge_2  (Kx30 : Int32 → kg_M → Prop) (Kx38 : kg_M → Prop) (K : Int32 → kg_M → Prop) : Nat → Int32 → kg_M → Prop
  | 0, _, _ => False
  | f + 1, v1, M => ((M 117 35) ≤ v1 → Kx38  M) ∧ (¬ (M 117 35) ≤ v1 → vp_in v1 15 ∧ (vp_in (M 138 v1.toNatClampNeg) 55 ∧ (vp_in v1 15 ∧ (((M 120 (M 138 v1.toNatClampNeg).toNatClampNeg) = (M 139 v1.toNatClampNeg) → wL_X8_judge_2  Kx30 Kx38 K f (v1 + (1 : Int32)) M) ∧ (¬ (M 120 (M 138 v1.toNatClampNeg).toNatClampNeg) = (M 139 v1.toNatClampNeg) → Kx30 v1 M)))))
def wp_X8_judge  (M : kg_M) (K : Int32 → kg_M → Prop) : Prop :=
  ∃ g : Nat, wL_X8_judge_2  (fun (v1 : Int32) (M : kg_M) => K v1 M) (fun (M : kg_M) => K (-1 : Int32) M) K g (0 : Int32) M
def wL_X8_keep_15  (Kx44 : Int32 → kg_M → Prop) (K : Int32 → kg_M → Prop) : Nat → Int32 → Int32 → kg_M → Prop
  | 0, _, _, _ => False
  | f + 1, v1, v2, M => ((55 : Int32) ≤ v2 → Kx44 v1 M) ∧ (¬ (55 : Int32) ≤ v2 → vp_in v2 55 ∧ (vp_in (((56 : Int32) * v1) + v2) 112 ∧ (∀ M16 : kg_M, M16 = kg_row M 140 (upd (M 140) (((56 : Int32) * v1) + v2).toNatClampNeg (M 120 v2.toNatClampNeg)) → (wL_X8_keep_15  Kx44 K f v1 (v2 + (1 : Int32)) M16))))
def wp_X8_keep (v1 : Int32) (M : kg_M) (K : Int32 → kg_M → Prop) : Prop :=
  wp_X8_in v1.toInt64 (0 : Int64) (1 : Int64) M (fun (r4 : Int32) (M2 : kg_M) => (¬ r4 = 0 → ∃ g : Nat, wL_X8_keep_15  (fun (v1 : Int32) (M : kg_M) => vp_in (((56 : Int32) * v1) + (55 : Int32)) 112 ∧ (∀ M22 : kg_M, M22 = kg_row M 140 (upd (M 140) (((56 : Int32) * v1) + (55 : Int32)).toNatClampNeg (M 117 5)) → (vp_in v1 2 ∧ (∀ M27 : kg_M, M27 = kg_row M22 141 (upd (M22 141) v1.toNatClampNeg (1 : Int32)) → (∀ M30 : kg_M, M30 = kg_row M27 117 (upd (M27 117) 20 (0 : Int32)) → (K (1 : Int32) M30)))))) K g v1 (0 : Int32) M2) ∧ (r4 = 0 → K (-1000000001 : Int32) M2))
def wp_X8_likes (v1 : Int32) (v2 : Int32) (M : kg_M) (K : Int32 → kg_M → Prop) : Prop :=
  wp_X8_isPerson v1 M (fun (r4 : Int32) (M2 : kg_M) => (r4 = 0 → K (-1000000001 : Int32) M2) ∧ (¬ r4 = 0 → wp_X8_isPerson v2 M2 (fun (r10 : Int32) (M8 : kg_M) => (r10 = 0 → K (-1000000001 : Int32) M8) ∧ (¬ r10 = 0 → (v1 = v2 → K (-1000000001 : Int32) M8) ∧ (¬ v1 = v2 → vp_in (((7 : Int32) * v1) + v2) 49 ∧ (K (M8 119 (((7 : Int32) * v1) + v2).toNatClampNeg) M8))))))
def wp_X8_likesNow (v1 : Int32) (M : kg_M) (K : Int32 → kg_M → Prop) : Prop :=
  vp_in v1 7 ∧ ((¬ (M 131 v1.toNatClampNeg) = (7 : Int32) → vp_in v1 7 ∧ (vp_in (((7 : Int32) * v1) + (M 131 v1.toNatClampNeg)) 49 ∧ (K (M 119 (((7 : Int32) * v1) + (M 131 v1.toNatClampNeg)).toNatClampNeg) M))) ∧ ((M 131 v1.toNatClampNeg) = (7 : Int32) → K (0 : Int32) M))
def wp_X8_logged (v1 : Int32) (M : kg_M) (K : Int32 → kg_M → Prop) : Prop :=
  vp_in (34 : Int32) 55 ∧ (wp_X8_in v1.toInt64 (0 : Int64) (((M 120 (34 : Int32).toNatClampNeg) - (1 : Int32)).toInt64) M (fun (r6 : Int32) (M4 : kg_M) => (r6 = 0 → K (-1 : Int32) M4) ∧ (¬ r6 = 0 → vp_in (34 : Int32) 55 ∧ (vp_in ((((35 : Int32) + (M4 120 (34 : Int32).toNatClampNeg)) - (1 : Int32)) - v1) 55 ∧ (K (M4 120 ((((35 : Int32) + (M4 120 (34 : Int32).toNatClampNeg)) - (1 : Int32)) - v1).toNatClampNeg) M4)))))
def wL_X8_mostLiked_4  (Kx49 : Int32 → kg_M → Prop) (K : Int32 → kg_M → Prop) : Nat → Int32 → Int32 → Int32 → kg_M → Prop
  | 0, _, _, _, _ => False
  | f + 1, v1, v2, v3, M => ((M 117 2) ≤ v3 → Kx49 v2 M) ∧ (¬ (M 117 2) ≤ v3 → vp_in (((7 : Int32) * v1) + v3) 49 ∧ (((M 119 (((7 : Int32) * v1) + v3).toNatClampNeg) ≤ v2 → wL_X8_mostLiked_4  Kx49 K f v1 v2 (v3 + (1 : Int32)) M) ∧ (¬ (M 119 (((7 : Int32) * v1) + v3).toNatClampNeg) ≤ v2 → vp_in (((7 : Int32) * v1) + v3) 49 ∧ (wL_X8_mostLiked_4  Kx49 K f v1 (M 119 (((7 : Int32) * v1) + v3).toNatClampNeg) (v3 + (1 : Int32)) M))))
def wp_X8_mostLiked (v1 : Int32) (M : kg_M) (K : Int32 → kg_M → Prop) : Prop :=
  ∃ g : Nat, wL_X8_mostLiked_4  (fun (v2 : Int32) (M : kg_M) => K v2 M) K g v1 (0 : Int32) (0 : Int32) M
def wL_X8_loves_4  (Kx86 : Int32 → Int32 → kg_M → Prop) (Kx104 : Int32 → Int32 → kg_M → Prop) (K : Int32 → kg_M → Prop) : Nat → Int32 → Int32 → Int32 → kg_M → Prop
  | 0, _, _, _, _ => False
  | f + 1, v1, v2, v3, M => ((21 : Int32) ≤ v3 → Kx104 v1 v2 M) ∧ (¬ (21 : Int32) ≤ v3 → vp_in v3 21 ∧ (vp_in v3 21 ∧ (wp_X8_like (M 121 v3.toNatClampNeg) (M 122 v3.toNatClampNeg) M (fun (r12 : Int32) (M10 : kg_M) => (r12 = 0 → wL_X8_loves_4  Kx86 Kx104 K f v1 v2 (v3 + (1 : Int32)) M10) ∧ (¬ r12 = 0 → vp_in (((7 : Int32) * (M 121 v3.toNatClampNeg)) + (M 122 v3.toNatClampNeg)) 49 ∧ (wp_X8_mostLiked (M 121 v3.toNatClampNeg) M10 (fun (r20 : Int32) (M18 : kg_M) => (¬ (M10 119 (((7 : Int32) * (M 121 v3.toNatClampNeg)) + (M 122 v3.toNatClampNeg)).toNatClampNeg) = r20 → wL_X8_loves_4  Kx86 Kx104 K f v1 v2 (v3 + (1 : Int32)) M18) ∧ ((M10 119 (((7 : Int32) * (M 121 v3.toNatClampNeg)) + (M 122 v3.toNatClampNeg)).toNatClampNeg) = r20 → vp_in (((7 : Int32) * (M 122 v3.toNatClampNeg)) + (M 121 v3.toNatClampNeg)) 49 ∧ (wp_X8_mostLiked (M 122 v3.toNatClampNeg) M18 (fun (r28 : Int32) (M26 : kg_M) => (¬ (M18 119 (((7 : Int32) * (M 122 v3.toNatClampNeg)) + (M 121 v3.toNatClampNeg)).toNatClampNeg) = r28 → wL_X8_loves_4  Kx86 Kx104 K f v1 v2 (v3 + (1 : Int32)) M26) ∧ ((M18 119 (((7 : Int32) * (M 122 v3.toNatClampNeg)) + (M 121 v3.toNatClampNeg)).toNatClampNeg) = r28 → (¬ v2 = v1 → wL_X8_loves_4  Kx86 Kx104 K f v1 (v2 + (1 : Int32)) (v3 + (1 : Int32)) M26) ∧ (v2 = v1 → Kx86 (M 121 v3.toNatClampNeg) (M 122 v3.toNatClampNeg) M26))))))))))))
def wp_X8_loves (v1 : Int32) (M : kg_M) (K : Int32 → kg_M → Prop) : Prop :=
  ∃ g : Nat, wL_X8_loves_4  (fun (v4 : Int32) (v5 : Int32) (M : kg_M) => K (((10 : Int32) * v4) + v5) M) (fun (v1 : Int32) (v2 : Int32) (M : kg_M) => (¬ v1 = (-1 : Int32) → K (-1 : Int32) M) ∧ (v1 = (-1 : Int32) → K v2 M)) K g v1 (0 : Int32) (0 : Int32) M
def wp_X8_mayBe  (M : kg_M) (K : Int32 → kg_M → Prop) : Prop :=
  wp_X8_couldBe  M (fun (r4 : Int32) (M2 : kg_M) => K r4 M2)
def wp_X8_oil (v1 : Int32) (M : kg_M) (K : Int32 → kg_M → Prop) : Prop :=
  wp_X8_isGate v1 M (fun (r4 : Int32) (M2 : kg_M) => (¬ r4 = 0 → wp_X8_remember  M2 (fun (M8 : kg_M) => vp_in ((26 : Int32) + v1) 55 ∧ (vp_in ((26 : Int32) + v1) 55 ∧ (∀ M15 : kg_M, M15 = kg_row M8 120 (upd (M8 120) ((26 : Int32) + v1).toNatClampNeg (0 : Int32)) → (vp_in ((21 : Int32) + v1) 55 ∧ (∀ M20 : kg_M, M20 = kg_row M15 120 (upd (M15 120) ((21 : Int32) + v1).toNatClampNeg (0 : Int32)) → (K (M8 120 ((26 : Int32) + v1).toNatClampNeg) M20))))))) ∧ (r4 = 0 → K (-1000000001 : Int32) M2))
def wJ_X8_oilFor_93  (Kb : Int32 → Int32 → Int32 → Int32 → Int32 → Int32 → kg_M → Prop) (Kx119 : Int32 → Int32 → Int32 → kg_M → Prop) (K : Int32 → kg_M → Prop) (v1 : Int32) (v2 : Int32) (v3 : Int32) (v6 : Int32) (s0 : Int32) (M : kg_M) : Prop :=
  vp_in v3 5 ∧ ((s0 < (M 118 v3.toNatClampNeg) → Kb v1 v2 v3 s0 (0 : Int32) (v6 + (1 : Int32)) M) ∧ (¬ s0 < (M 118 v3.toNatClampNeg) → Kb v1 v2 v3 s0 (1 : Int32) (v6 + (1 : Int32)) M))
def wJ_X8_oilFor_78  (Kb : Int32 → Int32 → Int32 → Int32 → Int32 → Int32 → kg_M → Prop) (Kx119 : Int32 → Int32 → Int32 → kg_M → Prop) (K : Int32 → kg_M → Prop) (v1 : Int32) (v3 : Int32) (v4 : Int32) (v5 : Int32) (v6 : Int32) (s0 : Int32) (s1 : Int32) (M : kg_M) : Prop :=
  (v5 = 0 → wJ_X8_oilFor_93  Kb Kx119 K v1 (s0 + s1) v3 v6 (v4 + (1 : Int32)) M) ∧ (¬ v5 = 0 → wJ_X8_oilFor_93  Kb Kx119 K v1 (s0 + s1) v3 v6 (1 : Int32) M)
def wL_X8_oilFor_61  (Kx119 : Int32 → Int32 → Int32 → kg_M → Prop) (K : Int32 → kg_M → Prop) : Nat → Int32 → Int32 → Int32 → Int32 → Int32 → Int32 → kg_M → Prop
  | 0, _, _, _, _, _, _, _ => False
  | f + 1, v1, v2, v3, v4, v5, v6, M => (v1 ≤ v6 → Kx119 v1 v2 v3 M) ∧ (¬ v1 ≤ v6 → (v5 = 0 → wJ_X8_oilFor_78  (wL_X8_oilFor_61  Kx119 K f) Kx119 K v1 v3 v4 v5 v6 v2 (0 : Int32) M) ∧ (¬ v5 = 0 → wJ_X8_oilFor_78  (wL_X8_oilFor_61  Kx119 K f) Kx119 K v1 v3 v4 v5 v6 v2 (1 : Int32) M))
def wL_X8_oilFor_19  (Kx125 : Int32 → kg_M → Prop) (K : Int32 → kg_M → Prop) : Nat → Int32 → Int32 → Int32 → kg_M → Prop
  | 0, _, _, _, _ => False
  | f + 1, v1, v2, v3, M => ((M 117 0) ≤ v3 → Kx125 v2 M) ∧ (¬ (M 117 0) ≤ v3 → vp_in ((21 : Int32) + v3) 55 ∧ (vp_in ((26 : Int32) + v3) 55 ∧ ((¬ (M 120 ((26 : Int32) + v3).toNatClampNeg) = (1 : Int32) → ∃ g : Nat, wL_X8_oilFor_61  (fun (v1 : Int32) (v2 : Int32) (v3 : Int32) (M : kg_M) => wL_X8_oilFor_19  Kx125 K f v1 v2 (v3 + (1 : Int32)) M) K g v1 v2 v3 (M 120 ((21 : Int32) + v3).toNatClampNeg) (0 : Int32) (0 : Int32) M) ∧ ((M 120 ((26 : Int32) + v3).toNatClampNeg) = (1 : Int32) → ∃ g : Nat, wL_X8_oilFor_61  (fun (v1 : Int32) (v2 : Int32) (v3 : Int32) (M : kg_M) => wL_X8_oilFor_19  Kx125 K f v1 v2 (v3 + (1 : Int32)) M) K g v1 v2 v3 (M 120 ((21 : Int32) + v3).toNatClampNeg) (1 : Int32) (0 : Int32) M))))
def wp_X8_oilFor (v1 : Int32) (M : kg_M) (K : Int32 → kg_M → Prop) : Prop :=
  wp_X8_in v1.toInt64 (0 : Int64) (200 : Int64) M (fun (r4 : Int32) (M2 : kg_M) => (¬ r4 = 0 → ∃ g : Nat, wL_X8_oilFor_19  (fun (v2 : Int32) (M : kg_M) => K v2 M) K g v1 (0 : Int32) (0 : Int32) M2) ∧ (r4 = 0 → K (-1000000002 : Int32) M2))
def wp_X8_person (v1 : Int32) (v2 : Int32) (M : kg_M) (K : Int32 → kg_M → Prop) : Prop :=
  wp_X8_isPerson v1 M (fun (r4 : Int32) (M2 : kg_M) => (¬ r4 = 0 → (v2 = (0 : Int32) → vp_in v1 55 ∧ (K (M2 120 v1.toNatClampNeg) M2)) ∧ (¬ v2 = (0 : Int32) → (v2 = (1 : Int32) → vp_in ((7 : Int32) + v1) 55 ∧ (K (M2 120 ((7 : Int32) + v1).toNatClampNeg) M2)) ∧ (¬ v2 = (1 : Int32) → (v2 = (2 : Int32) → vp_in ((14 : Int32) + v1) 55 ∧ (K (M2 120 ((14 : Int32) + v1).toNatClampNeg) M2)) ∧ (¬ v2 = (2 : Int32) → (v2 = (3 : Int32) → wp_X8_whomWould v1 M2 (fun (r29 : Int32) (M27 : kg_M) => K r29 M27)) ∧ (¬ v2 = (3 : Int32) → K (-1000000002 : Int32) M2))))) ∧ (r4 = 0 → K (-1000000001 : Int32) M2))
def wp_X8_seed (v1 : Int32) (M : kg_M) (K : Int32 → kg_M → Prop) : Prop :=
  (0 ≤ v1 → ∀ M5 : kg_M, M5 = kg_row M 117 (upd (M 117) 5 v1) → (K (M 117 5) M5)) ∧ (¬ 0 ≤ v1 → K (-1000000002 : Int32) M)
def wJ_X8_sides_51  (Kb : Int32 → Int32 → Int32 → kg_M → Prop) (Kx58 : Int32 → Int32 → kg_M → Prop) (K : Int32 → kg_M → Prop) (v1 : Int32) (v2 : Int32) (v3 : Int32) (s1 : Int32) (s2 : Int32) (M : kg_M) : Prop :=
  vp_in s1 128 ∧ (s2 = 0 ∨ s2 = 1) ∧ (∀ M31 : kg_M, M31 = kg_row M 134 (upd (M 134) s1.toNatClampNeg s2) → (Kb v1 v2 (v3 + (1 : Int32)) M31))
def wL_X8_sides_25  (Kx58 : Int32 → Int32 → kg_M → Prop) (K : Int32 → kg_M → Prop) : Nat → Int32 → Int32 → Int32 → kg_M → Prop
  | 0, _, _, _, _ => False
  | f + 1, v1, v2, v3, M => ((128 : Int32) ≤ v3 → Kx58 v1 v2 M) ∧ (¬ (128 : Int32) ≤ v3 → wp_X8_allWith (0 : Int32) M (fun (r23 : Int32) (M21 : kg_M) => (¬ v3 = r23 → wJ_X8_sides_51  (wL_X8_sides_25  Kx58 K f) Kx58 K v1 v2 v3 v3 (0 : Int32) M21) ∧ (v3 = r23 → wJ_X8_sides_51  (wL_X8_sides_25  Kx58 K f) Kx58 K v1 v2 v3 v3 (1 : Int32) M21)))
def wL_X8_sides_68  (Kx97 : Int32 → Int32 → kg_M → Prop) (K : Int32 → kg_M → Prop) : Nat → Int32 → Int32 → Int32 → Int32 → kg_M → Prop
  | 0, _, _, _, _, _ => False
  | f + 1, v1, v2, v3, v4, M => (¬ v4 = 0 → Kx97 v3 v4 M) ∧ (v4 = 0 → ((40 : Int32) ≤ v3 → Kx97 v3 v4 M) ∧ (¬ (40 : Int32) ≤ v3 → wp_X8_anHour  M (fun (M45 : kg_M) => wp_X8_isThere v1 v2 M45 (fun (r50 : Int32) (M48 : kg_M) => wL_X8_sides_68  Kx97 K f v1 v2 (v3 + (1 : Int32)) r50 M48))))
def wJ_X8_sides_97  (K : Int32 → kg_M → Prop) (v3 : Int32) (v4 : Int32) (M : kg_M) : Prop :=
  (v4 = 0 → K (-1 : Int32) M) ∧ (¬ v4 = 0 → K v3 M)
def wp_X8_sides (v1 : Int32) (v2 : Int32) (M : kg_M) (K : Int32 → kg_M → Prop) : Prop :=
  wp_X8_isSet v1 M (fun (r4 : Int32) (M2 : kg_M) => (r4 = 0 → K (-1000000001 : Int32) M2) ∧ (¬ r4 = 0 → wp_X8_isSet v2 M2 (fun (r10 : Int32) (M8 : kg_M) => (¬ r10 = 0 → wp_X8_findMasks  M8 (fun (M14 : kg_M) => ∃ g : Nat, wL_X8_sides_25  (fun (v1 : Int32) (v2 : Int32) (M : kg_M) => wp_X8_isThere v1 v2 M (fun (r37 : Int32) (M35 : kg_M) => ∃ g : Nat, wL_X8_sides_68  (fun (v3 : Int32) (v4 : Int32) (M : kg_M) => wJ_X8_sides_97  K v3 v4 M) K g v1 v2 (0 : Int32) r37 M35)) K g v1 v2 (0 : Int32) M14)) ∧ (r10 = 0 → K (-1000000001 : Int32) M8))))
def wL_X8_steady_6  (Kx73 : kg_M → Prop) (Kx81 : kg_M → Prop) (K : Int32 → kg_M → Prop) : Nat → Int32 → kg_M → Prop
  | 0, _, _ => False
  | f + 1, v1, M => ((21 : Int32) ≤ v1 → Kx81  M) ∧ (¬ (21 : Int32) ≤ v1 → vp_in v1 21 ∧ (vp_in v1 21 ∧ (wp_X8_would (M 121 v1.toNatClampNeg) (M 122 v1.toNatClampNeg) M (fun (r15 : Int32) (M13 : kg_M) => (r15 = 0 → wL_X8_steady_6  Kx73 Kx81 K f (v1 + (1 : Int32)) M13) ∧ (¬ r15 = 0 → vp_in (((7 : Int32) * (M 121 v1.toNatClampNeg)) + (M 122 v1.toNatClampNeg)) 49 ∧ (wp_X8_likesNow (M 121 v1.toNatClampNeg) M13 (fun (r23 : Int32) (M21 : kg_M) => ((M13 119 (((7 : Int32) * (M 121 v1.toNatClampNeg)) + (M 122 v1.toNatClampNeg)).toNatClampNeg) ≤ r23 → wL_X8_steady_6  Kx73 Kx81 K f (v1 + (1 : Int32)) M21) ∧ (¬ (M13 119 (((7 : Int32) * (M 121 v1.toNatClampNeg)) + (M 122 v1.toNatClampNeg)).toNatClampNeg) ≤ r23 → vp_in (((7 : Int32) * (M 122 v1.toNatClampNeg)) + (M 121 v1.toNatClampNeg)) 49 ∧ (wp_X8_likesNow (M 122 v1.toNatClampNeg) M21 (fun (r31 : Int32) (M29 : kg_M) => ((M21 119 (((7 : Int32) * (M 122 v1.toNatClampNeg)) + (M 121 v1.toNatClampNeg)).toNatClampNeg) ≤ r31 → wL_X8_steady_6  Kx73 Kx81 K f (v1 + (1 : Int32)) M29) ∧ (¬ (M21 119 (((7 : Int32) * (M 122 v1.toNatClampNeg)) + (M 121 v1.toNatClampNeg)).toNatClampNeg) ≤ r31 → Kx73  M29)))))))))))
def wp_X8_steady  (M : kg_M) (K : Int32 → kg_M → Prop) : Prop :=
  wp_X8_findAtOnce  M (fun (M2 : kg_M) => ∃ g : Nat, wL_X8_steady_6  (fun (M : kg_M) => K (0 : Int32) M) (fun (M : kg_M) => K (1 : Int32) M) K g (0 : Int32) M2)
def wp_X8_tear  (M : kg_M) (K : Int32 → kg_M → Prop) : Prop :=
  ∀ M2 : kg_M, M2 = kg_row M 117 (upd (M 117) 32 (0 : Int32)) → (∀ M5 : kg_M, M5 = kg_row M2 117 (upd (M2 117) 35 (0 : Int32)) → (K ((M 117 32) + (M 117 35)) M5))
def wL_X8_waiting_4  (Kx40 : Int32 → kg_M → Prop) (K : Int32 → kg_M → Prop) : Nat → Int32 → Int32 → kg_M → Prop
  | 0, _, _, _ => False
  | f + 1, v1, v2, M => ((M 117 2) ≤ v2 → Kx40 v1 M) ∧ (¬ (M 117 2) ≤ v2 → vp_in ((7 : Int32) + v2) 55 ∧ (((M 120 ((7 : Int32) + v2).toNatClampNeg) < 0 → wL_X8_waiting_4  Kx40 K f (v1 ||| (0 : Int32)) (v2 + (1 : Int32)) M) ∧ (¬ (M 120 ((7 : Int32) + v2).toNatClampNeg) < 0 → wL_X8_waiting_4  Kx40 K f (v1 ||| ((1 : Int32) <<< (v2 &&& 31))) (v2 + (1 : Int32)) M)))
def wp_X8_waiting  (M : kg_M) (K : Int32 → kg_M → Prop) : Prop :=
  ∃ g : Nat, wL_X8_waiting_4  (fun (v1 : Int32) (M : kg_M) => K v1 M) K g (0 : Int32) (0 : Int32) M
def wp_X8_told (v1 : Int32) (M : kg_M) (K : Int32 → kg_M → Prop) : Prop :=
  (v1 = (0 : Int32) → K (M 117 0) M) ∧ (¬ v1 = (0 : Int32) → (v1 = (1 : Int32) → K (M 117 2) M) ∧ (¬ v1 = (1 : Int32) → (v1 = (2 : Int32) → K (M 117 9) M) ∧ (¬ v1 = (2 : Int32) → (v1 = (3 : Int32) → vp_in (31 : Int32) 55 ∧ (K (M 120 (31 : Int32).toNatClampNeg) M)) ∧ (¬ v1 = (3 : Int32) → (v1 = (4 : Int32) → vp_in (32 : Int32) 55 ∧ (K (M 120 (32 : Int32).toNatClampNeg) M)) ∧ (¬ v1 = (4 : Int32) → (v1 = (5 : Int32) → vp_in (33 : Int32) 55 ∧ (K (M 120 (33 : Int32).toNatClampNeg) M)) ∧ (¬ v1 = (5 : Int32) → (v1 = (6 : Int32) → wp_X8_allWith (0 : Int32) M (fun (r32 : Int32) (M30 : kg_M) => K r32 M30)) ∧ (¬ v1 = (6 : Int32) → (v1 = (7 : Int32) → wp_X8_allWith (14 : Int32) M (fun (r38 : Int32) (M36 : kg_M) => K r38 M36)) ∧ (¬ v1 = (7 : Int32) → (v1 = (8 : Int32) → wp_X8_waiting  M (fun (r44 : Int32) (M42 : kg_M) => K r44 M42)) ∧ (¬ v1 = (8 : Int32) → (v1 = (9 : Int32) → wp_X8_rusted  M (fun (r50 : Int32) (M48 : kg_M) => K r50 M48)) ∧ (¬ v1 = (9 : Int32) → (v1 = (10 : Int32) → vp_in (34 : Int32) 55 ∧ (K (M 120 (34 : Int32).toNatClampNeg) M)) ∧ (¬ v1 = (10 : Int32) → (v1 = (11 : Int32) → K (M 117 32) M) ∧ (¬ v1 = (11 : Int32) → (v1 = (12 : Int32) → K (M 117 35) M) ∧ (¬ v1 = (12 : Int32) → (v1 = (13 : Int32) → K (M 117 20) M) ∧ (¬ v1 = (13 : Int32) → K (-1000000002 : Int32) M))))))))))))))
def wL_X8_undo_22  (Kx54 : kg_M → Prop) (K : Int32 → kg_M → Prop) : Nat → Int32 → kg_M → Prop
  | 0, _, _ => False
  | f + 1, v1, M => ((55 : Int32) ≤ v1 → Kx54  M) ∧ (¬ (55 : Int32) ≤ v1 → vp_in (((55 : Int32) * (M 117 20)) + v1) 1100 ∧ (vp_in v1 55 ∧ (∀ M16 : kg_M, M16 = kg_row M 120 (upd (M 120) v1.toNatClampNeg (M 128 (((55 : Int32) * (M 117 20)) + v1).toNatClampNeg)) → (wL_X8_undo_22  Kx54 K f (v1 + (1 : Int32)) M16))))
def wp_X8_undo  (M : kg_M) (K : Int32 → kg_M → Prop) : Prop :=
  (¬ (M 117 20) = 0 → ∀ M5 : kg_M, M5 = kg_row M 117 (upd (M 117) 20 ((M 117 20) - (1 : Int32))) → (∃ g : Nat, wL_X8_undo_22  (fun (M : kg_M) => K (M 117 20) M) K g (0 : Int32) M5)) ∧ ((M 117 20) = 0 → K (-1000000003 : Int32) M)
def wp_X8_well (v1 : Int32) (M : kg_M) (K : Int32 → kg_M → Prop) : Prop :=
  wp_X8_isPerson v1 M (fun (r4 : Int32) (M2 : kg_M) => (¬ r4 = 0 → wp_X8_remember  M2 (fun (M8 : kg_M) => vp_in ((14 : Int32) + v1) 55 ∧ (vp_in ((14 : Int32) + v1) 55 ∧ (∀ M15 : kg_M, M15 = kg_row M8 120 (upd (M8 120) ((14 : Int32) + v1).toNatClampNeg (0 : Int32)) → (K (M8 120 ((14 : Int32) + v1).toNatClampNeg) M15))))) ∧ (r4 = 0 → K (-1000000001 : Int32) M2))
def wp_X8_write (v1 : Int32) (v2 : Int32) (M : kg_M) (K : Int32 → kg_M → Prop) : Prop :=
  wp_X8_isPerson v1 M (fun (r4 : Int32) (M2 : kg_M) => (¬ r4 = 0 → wp_X8_in v2.toInt64 (0 : Int64) (1 : Int64) M2 (fun (r10 : Int32) (M8 : kg_M) => (¬ r10 = 0 → (¬ (M8 117 35) = (15 : Int32) → vp_in (M8 117 35) 15 ∧ (∀ M19 : kg_M, M19 = kg_row M8 138 (upd (M8 138) (M8 117 35).toNatClampNeg v1) → (vp_in (M19 117 35) 15 ∧ (∀ M24 : kg_M, M24 = kg_row M19 139 (upd (M19 139) (M19 117 35).toNatClampNeg v2) → (∀ M27 : kg_M, M27 = kg_row M24 117 (upd (M24 117) 35 ((M24 117 35) + (1 : Int32))) → (K (M27 117 35) M27)))))) ∧ ((M8 117 35) = (15 : Int32) → K (-1000000004 : Int32) M8)) ∧ (r10 = 0 → K (-1000000002 : Int32) M8))) ∧ (r4 = 0 → K (-1000000001 : Int32) M2))
