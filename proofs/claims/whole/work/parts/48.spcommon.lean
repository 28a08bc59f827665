/-! ===== the class's common, by rows ===== -/
theorem kg_O0_r {R R' : kg_R} {n o : Nat} (h : kg_O0 R n o) (e : R' o = R o) : kg_O0 R' n o := by unfold kg_O0 at *; rw [e]; exact h
theorem kg_O1_r {R R' : kg_R} {n o : Nat} (h : kg_O1 R n o) (e : R' o = R o) : kg_O1 R' n o := by unfold kg_O1 at *; rw [e]; exact h
theorem kg_O2_r {R R' : kg_R} {n o : Nat} (h : kg_O2 R n o) (e : R' o = R o) : kg_O2 R' n o := by unfold kg_O2 at *; rw [e]; exact h
theorem kg_O3_r {R R' : kg_R} {n o : Nat} (h : kg_O3 R n o) (e : R' o = R o) : kg_O3 R' n o := by unfold kg_O3 at *; rw [e]; exact h
theorem kg_O5_r {R R' : kg_R} {n o : Nat} (h : kg_O5 R n o) (e : R' o = R o) : kg_O5 R' n o := by unfold kg_O5 at *; rw [e]; exact h
theorem kg_O6_r {R R' : kg_R} {n o : Nat} (h : kg_O6 R n o) (e : R' o = R o) : kg_O6 R' n o := by unfold kg_O6 at *; rw [e]; exact h
theorem kg_O8_r {R R' : kg_R} {n o : Nat} (h : kg_O8 R n o) (e : R' o = R o) : kg_O8 R' n o := by unfold kg_O8 at *; rw [e]; exact h
theorem kg_O4_r {R R' : kg_R} {n o : Nat} (h : kg_O4 R n o) (e : ∀ k, o ≤ k → R' k = R k) : kg_O4 R' n o := by
  obtain ⟨h1, h2, h3, h4, h5⟩ := h
  exact ⟨h1, h2, h3, by rw [e o (Nat.le_refl _)]; exact h4, fun i hi => ⟨by rw [e (o + 1) (by omega)]; exact (h5 i hi).1, kg_O5_r (h5 i hi).2 (e _ (by omega))⟩⟩
theorem kg_O7_swap {R R' : kg_R} {n L S : Nat} (h : kg_O7 R n L S) (hl : L ≠ 0) (hs : S ≠ 0) (e : ∀ k, k ≠ 0 → R' k = R k) (e0 : ∀ j, j ≠ 10 → j ≠ 11 → R' 0 j = R 0 j) (e10 : R' 0 10 = some S) (e11 : R' 0 11 = some L) : kg_O7 R' n S L := by
  obtain ⟨h0, h1, h2, h3, h4, h5, h6, h7, h8, h9, h10, h11, h12, h13, h14, h15, h16, h17, h18, h19, h20, h21, h22⟩ := h
  refine ⟨h0, by rw [e0 0 (by decide) (by decide)]; exact h1, by rw [e0 1 (by decide) (by decide)]; exact h2, by rw [e0 2 (by decide) (by decide)]; exact h3, by rw [e0 3 (by decide) (by decide)]; exact h4, by rw [e0 4 (by decide) (by decide)]; exact h5, by rw [e0 5 (by decide) (by decide)]; exact h6, e10, e11, by rw [e0 6 (by decide) (by decide)]; exact h9, by rw [e0 7 (by decide) (by decide)]; exact h10, by rw [e0 8 (by decide) (by decide)]; exact h11, by rw [e0 9 (by decide) (by decide)]; exact h12, kg_O6_r h13 (e _ (by decide)), kg_O5_r h14 (e _ (by decide)), kg_O4_r h15 (fun k hk => e _ (by omega)), kg_O2_r h16 (e _ (by decide)), kg_O3_r h17 (e _ (by decide)), kg_O1_r h18 (e _ (by decide)), kg_O0_r h20 (e _ hs), kg_O0_r h19 (e _ hl), fun i hi => ⟨by rw [e 97 (by decide)]; exact (h21 i hi).1, kg_O5_r (h21 i hi).2 (e _ (by omega))⟩, fun h => h22 h.symm⟩
def kg_C (R : kg_R) (n L S : Nat) (K0 K1 : Int32 → kg_M → Prop) : kg_Post := fun r M' R' n' => n' = n ∧ ∃ x : Int32, r = some x ∧ ((R' = R ∧ K0 x M') ∨ (kg_O7 R' n S L ∧ (∀ k, k ≠ 0 → R' k = R k) ∧ K1 x M'))
theorem ru_eq {f : Nat → Option Nat} {k : Nat} {v : Option Nat} : va_up f k v k = v := by simp [va_up]
theorem ru_ne {f : Nat → Option Nat} {k j : Nat} {v : Option Nat} (h : j ≠ k) : va_up f k v j = f j := by simp [va_up, h]
set_option maxRecDepth 100000 in
set_option maxHeartbeats 4000000 in
theorem sp_X7_common {G : kg_G} {E : State → Array Value → Prop} {R : kg_R} {n : Nat} {L S : Nat} {K0 K1 : Int32 → kg_M → Prop} (hk : kg_O7 R n L S) (hl : L ≠ 0) (hs : S ≠ 0) {M : kg_M} (h1 : wp_X7_common S M K0 K1) : kg_Run G E qX7_common 7 0 [(0, .ref (kg_b G + 0))] [] M R n 0 0 (kg_C R n L S K0 K1) := by
  unfold wp_X7_common at h1
  refine kr_aload_n 0 dX7_common_0 rfl (k := ?_)
  refine kr_getR 0 ckX7 lkF_X7_10 rfl (kg_o7a hk) (kg_o7n hk) (kg_o7r0 hk) dX7_common_1 (k := ?_)
  refine kr_aload_n 0 dX7_common_4 rfl (k := ?_)
  refine kr_getR 11 ckX7 lkF_X7_73 rfl (kg_o7a hk) (kg_o7n hk) (kg_o7r11 hk) dX7_common_5 (k := ?_)
  refine kn_callVi [.ref (kg_b G + S)] [] mvX6_readInto lkM_X7_99 (kg_o6a (kg_o7_text hk)) rfl (kg_o6n (kg_o7_text hk)) dX7_common_8 (sp_X6_readInto (kg_o7_text hk) (kg_o7_spare hk) h1) (fun r M2 h2 => ?_)
  refine kr_istore_n [(1, .int r), (0, .ref (kg_b G + 0))] dX7_common_11 (k := ?_)
  refine kr_aload_n 1 dX7_common_12 rfl (k := ?_)
  refine kr_aload_n 1 dX7_common_13 rfl (k := ?_)
  refine kr_getR 0 ckX7 lkF_X7_10 rfl (kg_o7a hk) (kg_o7n hk) (kg_o7r0 hk) dX7_common_14 (k := ?_)
  refine kr_getI 5 ckX6 lkF_X7_103 rfl (kg_o6a (kg_o7_text hk)) (kg_o6n (kg_o7_text hk)) dX7_common_17 (k := ?_)
  refine kn_putI 12 ckX7 lkF_X7_83 rfl rfl rfl rfl (kg_o7a hk) (kg_o7n hk) dX7_common_20 (fun M5 e5 => ?_)
  have h5 := h2 M5 e5
  refine kr_aload_n 1 dX7_common_23 rfl (k := ?_)
  refine kr_getR 0 ckX7 lkF_X7_10 rfl (kg_o7a hk) (kg_o7n hk) (kg_o7r0 hk) dX7_common_24 (k := ?_)
  refine kr_iconst (0 : Int32) dX7_common_27 (k := ?_)
  refine kn_putI 1 ckX6 lkF_X7_91 rfl rfl rfl rfl (kg_o6a (kg_o7_text hk)) (kg_o6n (kg_o7_text hk)) dX7_common_28 (fun M8 e8 => ?_)
  have h8 := h5 M8 e8
  refine kr_iload_n 0 dX7_common_31 rfl (k := ?_)
  refine kr_if_eq 40 dX7_common_32 (fun c => ?_) (fun c => ?_)
  · have h9 := h8.2 c
    refine kr_aload_n 1 dX7_common_40 rfl (k := ?_)
    refine kr_getR 10 ckX7 lkF_X7_69 rfl (kg_o7a hk) (kg_o7n hk) (kg_o7r10 hk) dX7_common_41 (k := ?_)
    refine kr_astore_n [(2, .ref (kg_b G + L)), (1, .int r), (0, .ref (kg_b G + 0))] dX7_common_44 (k := ?_)
    refine kr_aload_n 2 dX7_common_45 rfl (k := ?_)
    refine kr_aload_n 2 dX7_common_46 rfl (k := ?_)
    refine kr_getR 11 ckX7 lkF_X7_73 rfl (kg_o7a hk) (kg_o7n hk) (kg_o7r11 hk) dX7_common_47 (k := ?_)
    refine kr_putR 10 ckX7 lkF_X7_69 rfl (Or.inl rfl) (fun _ => rfl) (fun _ => rfl) (kg_o7a hk) (kg_o7n hk) dX7_common_50 (k := ?_)
    refine kr_aload_n 2 dX7_common_53 rfl (k := ?_)
    refine kr_aload_n 0 dX7_common_54 rfl (k := ?_)
    refine kr_putR 11 ckX7 lkF_X7_73 rfl (Or.inl rfl) (fun _ => rfl) (fun _ => rfl) (kg_o7a hk) (kg_o7n hk) dX7_common_55 (k := ?_)
    generalize hR' : kg_rrow (kg_rrow R 0 (va_up (R 0) 10 (some S))) 0 (va_up (kg_rrow R 0 (va_up (R 0) 10 (some S)) 0) 11 (some L)) = R'
    have er : ∀ k, k ≠ 0 → R' k = R k := fun k hk => by rw [← hR', kg_rrow_ne _ _ hk, kg_rrow_ne _ _ hk]
    have e0 : R' 0 = va_up (va_up (R 0) 10 (some S)) 11 (some L) := by rw [← hR', kg_rrow_eq, kg_rrow_eq]
    have hk2 : kg_O7 R' n S L := kg_O7_swap hk hl hs er (fun j a b => by rw [e0, ru_ne b, ru_ne a]) (by rw [e0, ru_ne (by decide), ru_eq]) (by rw [e0, ru_eq])
    refine kr_aload_n 2 dX7_common_58 rfl (k := ?_)
    refine kr_getR 1 ckX7 lkF_X7_19 rfl (kg_o7a hk2) (kg_o7n hk2) (kg_o7r1 hk2) dX7_common_59 (k := ?_)
    refine kr_aload_n 2 dX7_common_62 rfl (k := ?_)
    refine kr_getR 10 ckX7 lkF_X7_69 rfl (kg_o7a hk2) (kg_o7n hk2) (kg_o7r10 hk2) dX7_common_63 (k := ?_)
    refine kn_callVv [.ref (kg_b G + S)] [] mvX5_begin lkM_X7_79 (kg_o5a (kg_o7_state hk2)) rfl (kg_o5n (kg_o7_state hk2)) dX7_common_66 (sp_X5_begin (kg_o7_state hk2) (kg_o7_land hk2) h9) (fun Ma ha => ?_)
    refine kr_aload_n 2 dX7_common_69 rfl (k := ?_)
    refine kr_getR 2 ckX7 lkF_X7_26 rfl (kg_o7a hk2) (kg_o7n hk2) (kg_o7r2 hk2) dX7_common_70 (k := ?_)
    refine kn_callVv [] [] mvX4_forget lkM_X7_106 (kg_o4a (kg_o7_past hk2)) rfl (kg_o4n (kg_o7_past hk2)) dX7_common_73 (sp_X4_forget (kg_o7_past hk2) ha) (fun Mb hb => ?_)
    refine kr_aload_n 2 dX7_common_76 rfl (k := ?_)
    refine kr_getR 3 ckX7 lkF_X7_33 rfl (kg_o7a hk2) (kg_o7n hk2) (kg_o7r3 hk2) dX7_common_77 (k := ?_)
    refine kn_callVv [] [] mvX2_forget lkM_X7_109 (kg_o2a (kg_o7_notes hk2)) rfl (kg_o2n (kg_o7_notes hk2)) dX7_common_80 (sp_X2_forget (kg_o7_notes hk2) hb) (fun Mc hc => ?_)
    refine kr_iconst (0 : Int32) dX7_common_83 (k := ?_)
    refine kr_istore_n [(3, .int 0), (2, .ref (kg_b G + L)), (1, .int r), (0, .ref (kg_b G + 0))] dX7_common_84 (k := ?_)
    refine kr_iload_n 0 dX7_common_85 rfl (k := ?_)
    refine kr_iconst (2 : Int32) dX7_common_86 (k := ?_)
    refine kr_icmp_ge 103 dX7_common_87 (fun c => absurd c (by decide)) (fun _ => ?_)
    refine kr_aload_n 3 dX7_common_90 rfl (k := ?_)
    refine kr_getR 7 ckX7 lkF_X7_55 rfl (kg_o7a hk2) (kg_o7n hk2) (kg_o7r7 hk2) dX7_common_91 (k := ?_)
    refine kr_iload_n 0 dX7_common_94 rfl (k := ?_)
    refine kr_iconst (0 : Int32) dX7_common_95 (k := ?_)
    refine kn_zast (kg_o7s7 hk2) (kg_o7m7 hk2) (lit_in 0 2 (by decide) (by decide)) rfl dX7_common_96 (fun Md ed => ?_)
    have hd := hc Md ed
    refine kr_iinc (1 : Int32) 0 [(3, .int (0 + 1)), (2, .ref (kg_b G + L)), (1, .int r), (0, .ref (kg_b G + 0))] dX7_common_97 rfl (k := ?_)
    refine kr_goto 85 dX7_common_100 ?_
    refine kr_iload_n 0 dX7_common_85 rfl (k := ?_)
    refine kr_iconst (2 : Int32) dX7_common_86 (k := ?_)
    refine kr_icmp_ge 103 dX7_common_87 (fun c => absurd c (by decide)) (fun _ => ?_)
    refine kr_aload_n 3 dX7_common_90 rfl (k := ?_)
    refine kr_getR 7 ckX7 lkF_X7_55 rfl (kg_o7a hk2) (kg_o7n hk2) (kg_o7r7 hk2) dX7_common_91 (k := ?_)
    refine kr_iload_n 0 dX7_common_94 rfl (k := ?_)
    refine kr_iconst (0 : Int32) dX7_common_95 (k := ?_)
    refine kn_zast (kg_o7s7 hk2) (kg_o7m7 hk2) (lit_in 1 2 (by decide) (by decide)) rfl dX7_common_96 (fun Me ee => ?_)
    have he := hd Me ee
    refine kr_iinc (1 : Int32) 0 [(3, .int (0 + 1 + 1)), (2, .ref (kg_b G + L)), (1, .int r), (0, .ref (kg_b G + 0))] dX7_common_97 rfl (k := ?_)
    refine kr_goto 85 dX7_common_100 ?_
    refine kr_iload_n 0 dX7_common_85 rfl (k := ?_)
    refine kr_iconst (2 : Int32) dX7_common_86 (k := ?_)
    refine kr_icmp_ge 103 dX7_common_87 (fun _ => ?_) (fun c => absurd (by decide) c)
    refine kr_aload_n 3 dX7_common_103 rfl (k := ?_)
    refine kr_getR 10 ckX7 lkF_X7_69 rfl (kg_o7a hk2) (kg_o7n hk2) (kg_o7r10 hk2) dX7_common_104 (k := ?_)
    refine kr_getI 1 ckX0 lkF_X7_110 rfl (kg_o0a (kg_o7_land hk2)) (kg_o0n (kg_o7_land hk2)) dX7_common_107 (k := ?_)
    exact kr_ireturn dX7_common_110 ⟨rfl, _, rfl, Or.inr ⟨hk2, er, he⟩⟩
  · have h9 := h8.1 c
    refine kr_bipush (-10 : Int32) dX7_common_35 (k := ?_)
    refine kr_iload_n 0 dX7_common_37 rfl (k := ?_)
    refine kr_isub dX7_common_38 (k := ?_)
    exact kr_ireturn dX7_common_39 ⟨rfl, _, rfl, Or.inl ⟨rfl, h9⟩⟩
