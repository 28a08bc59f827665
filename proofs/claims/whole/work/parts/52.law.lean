/-! ===== the law's loop ===== -/
abbrev qL_law : kg_q := (yL_law, cL_law, 4, (some .boolean))
def kg_EX (G : kg_G) (b L : Nat) (xs : Nat → Int32) : State → Array Value → Prop := fun s _ => va_X b L xs s s.heap ∧ b < s.heap.size ∧ b < kg_b G
/-- between calls -/
def kg_LI (M : kg_M) (R : kg_R) (L S : Nat) (σ : kS) : Prop := kg_O7 R 142 L S ∧ kg_O8 R 142 117 ∧ CI M L S σ ∧ MI M σ
theorem scr_no {S k : Nat} (h : ¬ scr S k) : k < 117 := by unfold scr at h; omega
theorem kg_LI_n {M1 M2 : kg_M} {R : kg_R} {L S : Nat} {σ : kS} (h7 : kg_O7 R 142 L S) (h8 : kg_O8 R 142 117) (hC : CI M1 L S σ) (hM : MI M2 σ) (hr : ∀ k, k < 117 → M2 k = M1 k) : kg_LI M2 R L S σ := ⟨h7, h8, CI_of hC (fun k hk => hr k (scr_no hk)), hM⟩
theorem kg_rtC {y : kg_q} {R : kg_R} {n L S : Nat} {K0 K1 : Int32 → kg_M → Prop} (h : y.2.2.2 = some .int) : kg_rt y (kg_C R n L S K0 K1) := ⟨fun x M R n h2 => ⟨_, h, rfl⟩, fun M R n h2 => by obtain ⟨-, x, h3, -⟩ := h2; cases h3⟩
theorem nhn : ¬ 142 < kg_all := by decide
set_option maxRecDepth 100000 in
set_option maxHeartbeats 4000000 in
theorem lc_0 {G : kg_G} {b L i : Nat} {xs : Nat → Int32} {M : kg_M} {R : kg_R} {l0 s0 : Nat} {σ : kS} {Post : kg_Post} (hL : L ≤ 192) (hi : i + 3 ≤ L) (hI : kg_LI M R l0 s0 σ) (nx : ∀ (M' : kg_M) (R' : kg_R) (l' s' : Nat) (σ' : kS), kg_LI M' R' l' s' σ' → kg_Run G (kg_EX G b L xs) qL_law 20 972 [(3, .int (nI i)), (2, .ref (kg_b G + 117)), (1, .ref (kg_b G + 0)), (0, .ref b)] [] M' R' 142 0 0 Post) {x : Int32} (hc : x = (0 : Int32)) : kg_Run G (kg_EX G b L xs) qL_law 20 32 [(3, .int (nI i)), (2, .ref (kg_b G + 117)), (1, .ref (kg_b G + 0)), (0, .ref b)] [.int x] M R 142 0 0 Post := by
  obtain ⟨h7, h8, hC, hM⟩ := hI
  have i1 : vp_in (nI i + 1) L := by rw [nI_1]; exact in_nI (by omega) (by omega)
  have i2 : vp_in (nI i + 2) L := by rw [show (2 : Int32) = nI 2 from rfl, nI_add]; exact in_nI (by omega) (by omega)
  obtain ⟨r, σ', hw, hm⟩ := p_feed (xs (nI i + 1).toNatClampNeg) hC
  refine kr_tableIn (off := 152) 184 dL_law_32 (by rw [hc]; decide) (by rw [hc]; decide) (by rw [hc]; decide) (by decide) ?_
  refine kr_aload_n 2 dL_law_184 rfl (k := ?_)
  refine kr_aload_n 3 dL_law_185 rfl (k := ?_)
  refine kr_iload_n 0 dL_law_186 rfl (k := ?_)
  refine kr_iconst (1 : Int32) dL_law_187 (k := ?_)
  refine kr_iadd dL_law_188 (k := ?_)
  refine kr_sld (fun _ _ h => h) i1 dL_law_189 (k := ?_)
  refine kn_callVi [.int (xs (nI i + 1).toNatClampNeg)] [] mvX7_feed lkM_L_13 (kg_o7a h7) rfl (kg_o7n h7) dL_law_190 (sp_X7_feed h7 hw) (fun x1 M1 h1 => ?_)
  obtain ⟨e1, hC1, hr1⟩ := h1
  refine kr_aload_n 1 dL_law_193 rfl (k := ?_)
  refine kr_aload_n 3 dL_law_194 rfl (k := ?_)
  refine kr_iload_n 0 dL_law_195 rfl (k := ?_)
  refine kr_iconst (1 : Int32) dL_law_196 (k := ?_)
  refine kr_iadd dL_law_197 (k := ?_)
  refine kr_sld (fun _ _ h => h) i1 dL_law_198 (k := ?_)
  refine kn_callVi [.int (xs (nI i + 1).toNatClampNeg)] [.int x1] mvX8_feed lkM_L_17 (kg_o8a h8) rfl (kg_o8n h8) dL_law_199 (sp_X8_feed h8 (hm M1 (MI_rows hM hr1))) (fun x2 M2 h2 => ?_)
  obtain ⟨e2, hM2, hr2⟩ := h2
  exact kr_icmp_eq 972 dL_law_202 (fun _ => nx M2 R l0 s0 σ' (kg_LI_n h7 h8 hC1 hM2 hr2)) (fun c => absurd (e1.trans e2.symm) c)
set_option maxRecDepth 100000 in
set_option maxHeartbeats 4000000 in
theorem lc_1 {G : kg_G} {b L i : Nat} {xs : Nat → Int32} {M : kg_M} {R : kg_R} {l0 s0 : Nat} {σ : kS} {Post : kg_Post} (hL : L ≤ 192) (hi : i + 3 ≤ L) (hI : kg_LI M R l0 s0 σ) (nx : ∀ (M' : kg_M) (R' : kg_R) (l' s' : Nat) (σ' : kS), kg_LI M' R' l' s' σ' → kg_Run G (kg_EX G b L xs) qL_law 20 972 [(3, .int (nI i)), (2, .ref (kg_b G + 117)), (1, .ref (kg_b G + 0)), (0, .ref b)] [] M' R' 142 0 0 Post) {x : Int32} (hc : x = (1 : Int32)) : kg_Run G (kg_EX G b L xs) qL_law 20 32 [(3, .int (nI i)), (2, .ref (kg_b G + 117)), (1, .ref (kg_b G + 0)), (0, .ref b)] [.int x] M R 142 0 0 Post := by
  obtain ⟨h7, h8, hC, hM⟩ := hI
  have i1 : vp_in (nI i + 1) L := by rw [nI_1]; exact in_nI (by omega) (by omega)
  have i2 : vp_in (nI i + 2) L := by rw [show (2 : Int32) = nI 2 from rfl, nI_add]; exact in_nI (by omega) (by omega)
  obtain ⟨r, σ', hw, hm⟩ := p_common hC
  have hls : (l0 ≠ 0) ∧ (s0 ≠ 0) := by obtain ⟨T, N, ⟨U, pu⟩, ⟨im, is, kp⟩, sv, fl, ⟨tn, tx⟩, ⟨kn, kw, ki⟩, ⟨bn, bo, bi⟩⟩ := σ; have := hC.2.2.2.2.2.2.2.2.2; omega
  refine kr_tableIn (off := 175) 207 dL_law_32 (by rw [hc]; decide) (by rw [hc]; decide) (by rw [hc]; decide) (by decide) ?_
  refine kr_aload_n 2 dL_law_207 rfl (k := ?_)
  refine kr_callV (kc := 0) (ks := 0) (kc' := 0) (ks' := 0) [] [] mvX7_common lkM_L_18 (kg_o7a h7) rfl (kg_o7n h7) dL_law_208 (kg_rtC rfl) (sp_X7_common h7 hls.1 hls.2 hw) (fun x M1 R1 n1 hp => ?_) (hav := Nat.le_of_ble_eq_true rfl) (hrest := Nat.le_of_ble_eq_true rfl)
  obtain ⟨en, x1, ex, hp⟩ := hp
  subst en ex
  refine kr_aload_n 1 dL_law_211 rfl (k := ?_)
  rcases hp with ⟨eR, e1, hC1, hr1⟩ | ⟨h7b, eR, e1, hC1, hr1⟩
  · subst eR
    refine kn_callVi [] [.int x1] mvX8_common lkM_L_22 (kg_o8a h8) rfl (kg_o8n h8) dL_law_212 (sp_X8_common h8 (hm M1 (MI_rows hM hr1))) (fun x2 M2 h2 => ?_)
    obtain ⟨e2, hM2, hr2⟩ := h2
    exact kr_icmp_eq 972 dL_law_215 (fun _ => nx M2 R1 l0 s0 σ' (kg_LI_n h7 h8 hC1 hM2 hr2)) (fun c => absurd (e1.trans e2.symm) c)
  · have h8b := kg_O8_r h8 (eR 117 (by decide))
    refine kn_callVi [] [.int x1] mvX8_common lkM_L_22 (kg_o8a h8b) rfl (kg_o8n h8b) dL_law_212 (sp_X8_common h8b (hm M1 (MI_rows hM hr1))) (fun x2 M2 h2 => ?_)
    obtain ⟨e2, hM2, hr2⟩ := h2
    exact kr_icmp_eq 972 dL_law_215 (fun _ => nx M2 R1 s0 l0 σ' (kg_LI_n h7b h8b hC1 hM2 hr2)) (fun c => absurd (e1.trans e2.symm) c)
set_option maxRecDepth 100000 in
set_option maxHeartbeats 4000000 in
theorem lc_2 {G : kg_G} {b L i : Nat} {xs : Nat → Int32} {M : kg_M} {R : kg_R} {l0 s0 : Nat} {σ : kS} {Post : kg_Post} (hL : L ≤ 192) (hi : i + 3 ≤ L) (hI : kg_LI M R l0 s0 σ) (nx : ∀ (M' : kg_M) (R' : kg_R) (l' s' : Nat) (σ' : kS), kg_LI M' R' l' s' σ' → kg_Run G (kg_EX G b L xs) qL_law 20 972 [(3, .int (nI i)), (2, .ref (kg_b G + 117)), (1, .ref (kg_b G + 0)), (0, .ref b)] [] M' R' 142 0 0 Post) {x : Int32} (hc : x = (2 : Int32)) : kg_Run G (kg_EX G b L xs) qL_law 20 32 [(3, .int (nI i)), (2, .ref (kg_b G + 117)), (1, .ref (kg_b G + 0)), (0, .ref b)] [.int x] M R 142 0 0 Post := by
  obtain ⟨h7, h8, hC, hM⟩ := hI
  have i1 : vp_in (nI i + 1) L := by rw [nI_1]; exact in_nI (by omega) (by omega)
  have i2 : vp_in (nI i + 2) L := by rw [show (2 : Int32) = nI 2 from rfl, nI_add]; exact in_nI (by omega) (by omega)
  obtain ⟨r, σ', hw, hm⟩ := p_fault  hC
  refine kr_tableIn (off := 188) 220 dL_law_32 (by rw [hc]; decide) (by rw [hc]; decide) (by rw [hc]; decide) (by decide) ?_
  refine kr_aload_n 2 dL_law_220 rfl (k := ?_)
  refine kn_callVi [] [] mvX7_fault lkM_L_23 (kg_o7a h7) rfl (kg_o7n h7) dL_law_221 (sp_X7_fault h7 hw) (fun x1 M1 h1 => ?_)
  obtain ⟨e1, hC1, hr1⟩ := h1
  refine kr_aload_n 1 dL_law_224 rfl (k := ?_)
  refine kn_callVi [] [.int x1] mvX8_fault lkM_L_26 (kg_o8a h8) rfl (kg_o8n h8) dL_law_225 (sp_X8_fault h8 (hm M1 (MI_rows hM hr1))) (fun x2 M2 h2 => ?_)
  obtain ⟨e2, hM2, hr2⟩ := h2
  exact kr_icmp_eq 972 dL_law_228 (fun _ => nx M2 R l0 s0 σ' (kg_LI_n h7 h8 hC1 hM2 hr2)) (fun c => absurd (e1.trans e2.symm) c)
set_option maxRecDepth 100000 in
set_option maxHeartbeats 4000000 in
theorem lc_3 {G : kg_G} {b L i : Nat} {xs : Nat → Int32} {M : kg_M} {R : kg_R} {l0 s0 : Nat} {σ : kS} {Post : kg_Post} (hL : L ≤ 192) (hi : i + 3 ≤ L) (hI : kg_LI M R l0 s0 σ) (nx : ∀ (M' : kg_M) (R' : kg_R) (l' s' : Nat) (σ' : kS), kg_LI M' R' l' s' σ' → kg_Run G (kg_EX G b L xs) qL_law 20 972 [(3, .int (nI i)), (2, .ref (kg_b G + 117)), (1, .ref (kg_b G + 0)), (0, .ref b)] [] M' R' 142 0 0 Post) {x : Int32} (hc : x = (3 : Int32)) : kg_Run G (kg_EX G b L xs) qL_law 20 32 [(3, .int (nI i)), (2, .ref (kg_b G + 117)), (1, .ref (kg_b G + 0)), (0, .ref b)] [.int x] M R 142 0 0 Post := by
  obtain ⟨h7, h8, hC, hM⟩ := hI
  have i1 : vp_in (nI i + 1) L := by rw [nI_1]; exact in_nI (by omega) (by omega)
  have i2 : vp_in (nI i + 2) L := by rw [show (2 : Int32) = nI 2 from rfl, nI_add]; exact in_nI (by omega) (by omega)
  obtain ⟨r, σ', hw, hm⟩ := p_told (xs (nI i + 1).toNatClampNeg) hC
  refine kr_tableIn (off := 201) 233 dL_law_32 (by rw [hc]; decide) (by rw [hc]; decide) (by rw [hc]; decide) (by decide) ?_
  refine kr_aload_n 2 dL_law_233 rfl (k := ?_)
  refine kr_aload_n 3 dL_law_234 rfl (k := ?_)
  refine kr_iload_n 0 dL_law_235 rfl (k := ?_)
  refine kr_iconst (1 : Int32) dL_law_236 (k := ?_)
  refine kr_iadd dL_law_237 (k := ?_)
  refine kr_sld (fun _ _ h => h) i1 dL_law_238 (k := ?_)
  refine kn_callVi [.int (xs (nI i + 1).toNatClampNeg)] [] mvX7_told lkM_L_27 (kg_o7a h7) rfl (kg_o7n h7) dL_law_239 (sp_X7_told h7 hw) (fun x1 M1 h1 => ?_)
  obtain ⟨e1, hC1, hr1⟩ := h1
  refine kr_aload_n 1 dL_law_242 rfl (k := ?_)
  refine kr_aload_n 3 dL_law_243 rfl (k := ?_)
  refine kr_iload_n 0 dL_law_244 rfl (k := ?_)
  refine kr_iconst (1 : Int32) dL_law_245 (k := ?_)
  refine kr_iadd dL_law_246 (k := ?_)
  refine kr_sld (fun _ _ h => h) i1 dL_law_247 (k := ?_)
  refine kn_callVi [.int (xs (nI i + 1).toNatClampNeg)] [.int x1] mvX8_told lkM_L_30 (kg_o8a h8) rfl (kg_o8n h8) dL_law_248 (sp_X8_told h8 (hm M1 (MI_rows hM hr1))) (fun x2 M2 h2 => ?_)
  obtain ⟨e2, hM2, hr2⟩ := h2
  exact kr_icmp_eq 972 dL_law_251 (fun _ => nx M2 R l0 s0 σ' (kg_LI_n h7 h8 hC1 hM2 hr2)) (fun c => absurd (e1.trans e2.symm) c)
set_option maxRecDepth 100000 in
set_option maxHeartbeats 4000000 in
theorem lc_4 {G : kg_G} {b L i : Nat} {xs : Nat → Int32} {M : kg_M} {R : kg_R} {l0 s0 : Nat} {σ : kS} {Post : kg_Post} (hL : L ≤ 192) (hi : i + 3 ≤ L) (hI : kg_LI M R l0 s0 σ) (nx : ∀ (M' : kg_M) (R' : kg_R) (l' s' : Nat) (σ' : kS), kg_LI M' R' l' s' σ' → kg_Run G (kg_EX G b L xs) qL_law 20 972 [(3, .int (nI i)), (2, .ref (kg_b G + 117)), (1, .ref (kg_b G + 0)), (0, .ref b)] [] M' R' 142 0 0 Post) {x : Int32} (hc : x = (4 : Int32)) : kg_Run G (kg_EX G b L xs) qL_law 20 32 [(3, .int (nI i)), (2, .ref (kg_b G + 117)), (1, .ref (kg_b G + 0)), (0, .ref b)] [.int x] M R 142 0 0 Post := by
  obtain ⟨h7, h8, hC, hM⟩ := hI
  have i1 : vp_in (nI i + 1) L := by rw [nI_1]; exact in_nI (by omega) (by omega)
  have i2 : vp_in (nI i + 2) L := by rw [show (2 : Int32) = nI 2 from rfl, nI_add]; exact in_nI (by omega) (by omega)
  obtain ⟨r, σ', hw, hm⟩ := p_gate (xs (nI i + 1).toNatClampNeg) (xs (nI i + 2).toNatClampNeg) hC
  refine kr_tableIn (off := 224) 256 dL_law_32 (by rw [hc]; decide) (by rw [hc]; decide) (by rw [hc]; decide) (by decide) ?_
  refine kr_aload_n 2 dL_law_256 rfl (k := ?_)
  refine kr_aload_n 3 dL_law_257 rfl (k := ?_)
  refine kr_iload_n 0 dL_law_258 rfl (k := ?_)
  refine kr_iconst (1 : Int32) dL_law_259 (k := ?_)
  refine kr_iadd dL_law_260 (k := ?_)
  refine kr_sld (fun _ _ h => h) i1 dL_law_261 (k := ?_)
  refine kr_aload_n 3 dL_law_262 rfl (k := ?_)
  refine kr_iload_n 0 dL_law_263 rfl (k := ?_)
  refine kr_iconst (2 : Int32) dL_law_264 (k := ?_)
  refine kr_iadd dL_law_265 (k := ?_)
  refine kr_sld (fun _ _ h => h) i2 dL_law_266 (k := ?_)
  refine kn_callVi [.int (xs (nI i + 1).toNatClampNeg), .int (xs (nI i + 2).toNatClampNeg)] [] mvX7_gate lkM_L_31 (kg_o7a h7) rfl (kg_o7n h7) dL_law_267 (sp_X7_gate h7 hw) (fun x1 M1 h1 => ?_)
  obtain ⟨e1, hC1, hr1⟩ := h1
  refine kr_aload_n 1 dL_law_270 rfl (k := ?_)
  refine kr_aload_n 3 dL_law_271 rfl (k := ?_)
  refine kr_iload_n 0 dL_law_272 rfl (k := ?_)
  refine kr_iconst (1 : Int32) dL_law_273 (k := ?_)
  refine kr_iadd dL_law_274 (k := ?_)
  refine kr_sld (fun _ _ h => h) i1 dL_law_275 (k := ?_)
  refine kr_aload_n 3 dL_law_276 rfl (k := ?_)
  refine kr_iload_n 0 dL_law_277 rfl (k := ?_)
  refine kr_iconst (2 : Int32) dL_law_278 (k := ?_)
  refine kr_iadd dL_law_279 (k := ?_)
  refine kr_sld (fun _ _ h => h) i2 dL_law_280 (k := ?_)
  refine kn_callVi [.int (xs (nI i + 1).toNatClampNeg), .int (xs (nI i + 2).toNatClampNeg)] [.int x1] mvX8_gate lkM_L_35 (kg_o8a h8) rfl (kg_o8n h8) dL_law_281 (sp_X8_gate h8 (hm M1 (MI_rows hM hr1))) (fun x2 M2 h2 => ?_)
  obtain ⟨e2, hM2, hr2⟩ := h2
  exact kr_icmp_eq 972 dL_law_284 (fun _ => nx M2 R l0 s0 σ' (kg_LI_n h7 h8 hC1 hM2 hr2)) (fun c => absurd (e1.trans e2.symm) c)
set_option maxRecDepth 100000 in
set_option maxHeartbeats 4000000 in
theorem lc_5 {G : kg_G} {b L i : Nat} {xs : Nat → Int32} {M : kg_M} {R : kg_R} {l0 s0 : Nat} {σ : kS} {Post : kg_Post} (hL : L ≤ 192) (hi : i + 3 ≤ L) (hI : kg_LI M R l0 s0 σ) (nx : ∀ (M' : kg_M) (R' : kg_R) (l' s' : Nat) (σ' : kS), kg_LI M' R' l' s' σ' → kg_Run G (kg_EX G b L xs) qL_law 20 972 [(3, .int (nI i)), (2, .ref (kg_b G + 117)), (1, .ref (kg_b G + 0)), (0, .ref b)] [] M' R' 142 0 0 Post) {x : Int32} (hc : x = (5 : Int32)) : kg_Run G (kg_EX G b L xs) qL_law 20 32 [(3, .int (nI i)), (2, .ref (kg_b G + 117)), (1, .ref (kg_b G + 0)), (0, .ref b)] [.int x] M R 142 0 0 Post := by
  obtain ⟨h7, h8, hC, hM⟩ := hI
  have i1 : vp_in (nI i + 1) L := by rw [nI_1]; exact in_nI (by omega) (by omega)
  have i2 : vp_in (nI i + 2) L := by rw [show (2 : Int32) = nI 2 from rfl, nI_add]; exact in_nI (by omega) (by omega)
  obtain ⟨r, σ', hw, hm⟩ := p_person (xs (nI i + 1).toNatClampNeg) (xs (nI i + 2).toNatClampNeg) hC
  refine kr_tableIn (off := 257) 289 dL_law_32 (by rw [hc]; decide) (by rw [hc]; decide) (by rw [hc]; decide) (by decide) ?_
  refine kr_aload_n 2 dL_law_289 rfl (k := ?_)
  refine kr_aload_n 3 dL_law_290 rfl (k := ?_)
  refine kr_iload_n 0 dL_law_291 rfl (k := ?_)
  refine kr_iconst (1 : Int32) dL_law_292 (k := ?_)
  refine kr_iadd dL_law_293 (k := ?_)
  refine kr_sld (fun _ _ h => h) i1 dL_law_294 (k := ?_)
  refine kr_aload_n 3 dL_law_295 rfl (k := ?_)
  refine kr_iload_n 0 dL_law_296 rfl (k := ?_)
  refine kr_iconst (2 : Int32) dL_law_297 (k := ?_)
  refine kr_iadd dL_law_298 (k := ?_)
  refine kr_sld (fun _ _ h => h) i2 dL_law_299 (k := ?_)
  refine kn_callVi [.int (xs (nI i + 1).toNatClampNeg), .int (xs (nI i + 2).toNatClampNeg)] [] mvX7_person lkM_L_36 (kg_o7a h7) rfl (kg_o7n h7) dL_law_300 (sp_X7_person h7 hw) (fun x1 M1 h1 => ?_)
  obtain ⟨e1, hC1, hr1⟩ := h1
  refine kr_aload_n 1 dL_law_303 rfl (k := ?_)
  refine kr_aload_n 3 dL_law_304 rfl (k := ?_)
  refine kr_iload_n 0 dL_law_305 rfl (k := ?_)
  refine kr_iconst (1 : Int32) dL_law_306 (k := ?_)
  refine kr_iadd dL_law_307 (k := ?_)
  refine kr_sld (fun _ _ h => h) i1 dL_law_308 (k := ?_)
  refine kr_aload_n 3 dL_law_309 rfl (k := ?_)
  refine kr_iload_n 0 dL_law_310 rfl (k := ?_)
  refine kr_iconst (2 : Int32) dL_law_311 (k := ?_)
  refine kr_iadd dL_law_312 (k := ?_)
  refine kr_sld (fun _ _ h => h) i2 dL_law_313 (k := ?_)
  refine kn_callVi [.int (xs (nI i + 1).toNatClampNeg), .int (xs (nI i + 2).toNatClampNeg)] [.int x1] mvX8_person lkM_L_39 (kg_o8a h8) rfl (kg_o8n h8) dL_law_314 (sp_X8_person h8 (hm M1 (MI_rows hM hr1))) (fun x2 M2 h2 => ?_)
  obtain ⟨e2, hM2, hr2⟩ := h2
  exact kr_icmp_eq 972 dL_law_317 (fun _ => nx M2 R l0 s0 σ' (kg_LI_n h7 h8 hC1 hM2 hr2)) (fun c => absurd (e1.trans e2.symm) c)
set_option maxRecDepth 100000 in
set_option maxHeartbeats 4000000 in
theorem lc_6 {G : kg_G} {b L i : Nat} {xs : Nat → Int32} {M : kg_M} {R : kg_R} {l0 s0 : Nat} {σ : kS} {Post : kg_Post} (hL : L ≤ 192) (hi : i + 3 ≤ L) (hI : kg_LI M R l0 s0 σ) (nx : ∀ (M' : kg_M) (R' : kg_R) (l' s' : Nat) (σ' : kS), kg_LI M' R' l' s' σ' → kg_Run G (kg_EX G b L xs) qL_law 20 972 [(3, .int (nI i)), (2, .ref (kg_b G + 117)), (1, .ref (kg_b G + 0)), (0, .ref b)] [] M' R' 142 0 0 Post) {x : Int32} (hc : x = (6 : Int32)) : kg_Run G (kg_EX G b L xs) qL_law 20 32 [(3, .int (nI i)), (2, .ref (kg_b G + 117)), (1, .ref (kg_b G + 0)), (0, .ref b)] [.int x] M R 142 0 0 Post := by
  obtain ⟨h7, h8, hC, hM⟩ := hI
  have i1 : vp_in (nI i + 1) L := by rw [nI_1]; exact in_nI (by omega) (by omega)
  have i2 : vp_in (nI i + 2) L := by rw [show (2 : Int32) = nI 2 from rfl, nI_add]; exact in_nI (by omega) (by omega)
  obtain ⟨r, σ', hw, hm⟩ := p_likes (xs (nI i + 1).toNatClampNeg) (xs (nI i + 2).toNatClampNeg) hC
  refine kr_tableIn (off := 290) 322 dL_law_32 (by rw [hc]; decide) (by rw [hc]; decide) (by rw [hc]; decide) (by decide) ?_
  refine kr_aload_n 2 dL_law_322 rfl (k := ?_)
  refine kr_aload_n 3 dL_law_323 rfl (k := ?_)
  refine kr_iload_n 0 dL_law_324 rfl (k := ?_)
  refine kr_iconst (1 : Int32) dL_law_325 (k := ?_)
  refine kr_iadd dL_law_326 (k := ?_)
  refine kr_sld (fun _ _ h => h) i1 dL_law_327 (k := ?_)
  refine kr_aload_n 3 dL_law_328 rfl (k := ?_)
  refine kr_iload_n 0 dL_law_329 rfl (k := ?_)
  refine kr_iconst (2 : Int32) dL_law_330 (k := ?_)
  refine kr_iadd dL_law_331 (k := ?_)
  refine kr_sld (fun _ _ h => h) i2 dL_law_332 (k := ?_)
  refine kn_callVi [.int (xs (nI i + 1).toNatClampNeg), .int (xs (nI i + 2).toNatClampNeg)] [] mvX7_likes lkM_L_40 (kg_o7a h7) rfl (kg_o7n h7) dL_law_333 (sp_X7_likes h7 hw) (fun x1 M1 h1 => ?_)
  obtain ⟨e1, hC1, hr1⟩ := h1
  refine kr_aload_n 1 dL_law_336 rfl (k := ?_)
  refine kr_aload_n 3 dL_law_337 rfl (k := ?_)
  refine kr_iload_n 0 dL_law_338 rfl (k := ?_)
  refine kr_iconst (1 : Int32) dL_law_339 (k := ?_)
  refine kr_iadd dL_law_340 (k := ?_)
  refine kr_sld (fun _ _ h => h) i1 dL_law_341 (k := ?_)
  refine kr_aload_n 3 dL_law_342 rfl (k := ?_)
  refine kr_iload_n 0 dL_law_343 rfl (k := ?_)
  refine kr_iconst (2 : Int32) dL_law_344 (k := ?_)
  refine kr_iadd dL_law_345 (k := ?_)
  refine kr_sld (fun _ _ h => h) i2 dL_law_346 (k := ?_)
  refine kn_callVi [.int (xs (nI i + 1).toNatClampNeg), .int (xs (nI i + 2).toNatClampNeg)] [.int x1] mvX8_likes lkM_L_43 (kg_o8a h8) rfl (kg_o8n h8) dL_law_347 (sp_X8_likes h8 (hm M1 (MI_rows hM hr1))) (fun x2 M2 h2 => ?_)
  obtain ⟨e2, hM2, hr2⟩ := h2
  exact kr_icmp_eq 972 dL_law_350 (fun _ => nx M2 R l0 s0 σ' (kg_LI_n h7 h8 hC1 hM2 hr2)) (fun c => absurd (e1.trans e2.symm) c)
set_option maxRecDepth 100000 in
set_option maxHeartbeats 4000000 in
theorem lc_7 {G : kg_G} {b L i : Nat} {xs : Nat → Int32} {M : kg_M} {R : kg_R} {l0 s0 : Nat} {σ : kS} {Post : kg_Post} (hL : L ≤ 192) (hi : i + 3 ≤ L) (hI : kg_LI M R l0 s0 σ) (nx : ∀ (M' : kg_M) (R' : kg_R) (l' s' : Nat) (σ' : kS), kg_LI M' R' l' s' σ' → kg_Run G (kg_EX G b L xs) qL_law 20 972 [(3, .int (nI i)), (2, .ref (kg_b G + 117)), (1, .ref (kg_b G + 0)), (0, .ref b)] [] M' R' 142 0 0 Post) {x : Int32} (hc : x = (7 : Int32)) : kg_Run G (kg_EX G b L xs) qL_law 20 32 [(3, .int (nI i)), (2, .ref (kg_b G + 117)), (1, .ref (kg_b G + 0)), (0, .ref b)] [.int x] M R 142 0 0 Post := by
  obtain ⟨h7, h8, hC, hM⟩ := hI
  have i1 : vp_in (nI i + 1) L := by rw [nI_1]; exact in_nI (by omega) (by omega)
  have i2 : vp_in (nI i + 2) L := by rw [show (2 : Int32) = nI 2 from rfl, nI_add]; exact in_nI (by omega) (by omega)
  obtain ⟨r, σ', hw, hm⟩ := p_logged (xs (nI i + 1).toNatClampNeg) hC
  refine kr_tableIn (off := 323) 355 dL_law_32 (by rw [hc]; decide) (by rw [hc]; decide) (by rw [hc]; decide) (by decide) ?_
  refine kr_aload_n 2 dL_law_355 rfl (k := ?_)
  refine kr_aload_n 3 dL_law_356 rfl (k := ?_)
  refine kr_iload_n 0 dL_law_357 rfl (k := ?_)
  refine kr_iconst (1 : Int32) dL_law_358 (k := ?_)
  refine kr_iadd dL_law_359 (k := ?_)
  refine kr_sld (fun _ _ h => h) i1 dL_law_360 (k := ?_)
  refine kn_callVi [.int (xs (nI i + 1).toNatClampNeg)] [] mvX7_logged lkM_L_44 (kg_o7a h7) rfl (kg_o7n h7) dL_law_361 (sp_X7_logged h7 hw) (fun x1 M1 h1 => ?_)
  obtain ⟨e1, hC1, hr1⟩ := h1
  refine kr_aload_n 1 dL_law_364 rfl (k := ?_)
  refine kr_aload_n 3 dL_law_365 rfl (k := ?_)
  refine kr_iload_n 0 dL_law_366 rfl (k := ?_)
  refine kr_iconst (1 : Int32) dL_law_367 (k := ?_)
  refine kr_iadd dL_law_368 (k := ?_)
  refine kr_sld (fun _ _ h => h) i1 dL_law_369 (k := ?_)
  refine kn_callVi [.int (xs (nI i + 1).toNatClampNeg)] [.int x1] mvX8_logged lkM_L_47 (kg_o8a h8) rfl (kg_o8n h8) dL_law_370 (sp_X8_logged h8 (hm M1 (MI_rows hM hr1))) (fun x2 M2 h2 => ?_)
  obtain ⟨e2, hM2, hr2⟩ := h2
  exact kr_icmp_eq 972 dL_law_373 (fun _ => nx M2 R l0 s0 σ' (kg_LI_n h7 h8 hC1 hM2 hr2)) (fun c => absurd (e1.trans e2.symm) c)
set_option maxRecDepth 100000 in
set_option maxHeartbeats 4000000 in
theorem lc_8 {G : kg_G} {b L i : Nat} {xs : Nat → Int32} {M : kg_M} {R : kg_R} {l0 s0 : Nat} {σ : kS} {Post : kg_Post} (hL : L ≤ 192) (hi : i + 3 ≤ L) (hI : kg_LI M R l0 s0 σ) (nx : ∀ (M' : kg_M) (R' : kg_R) (l' s' : Nat) (σ' : kS), kg_LI M' R' l' s' σ' → kg_Run G (kg_EX G b L xs) qL_law 20 972 [(3, .int (nI i)), (2, .ref (kg_b G + 117)), (1, .ref (kg_b G + 0)), (0, .ref b)] [] M' R' 142 0 0 Post) {x : Int32} (hc : x = (8 : Int32)) : kg_Run G (kg_EX G b L xs) qL_law 20 32 [(3, .int (nI i)), (2, .ref (kg_b G + 117)), (1, .ref (kg_b G + 0)), (0, .ref b)] [.int x] M R 142 0 0 Post := by
  obtain ⟨h7, h8, hC, hM⟩ := hI
  have i1 : vp_in (nI i + 1) L := by rw [nI_1]; exact in_nI (by omega) (by omega)
  have i2 : vp_in (nI i + 2) L := by rw [show (2 : Int32) = nI 2 from rfl, nI_add]; exact in_nI (by omega) (by omega)
  obtain ⟨r, σ', hw, hm⟩ := p_hour (xs (nI i + 1).toNatClampNeg) hC
  refine kr_tableIn (off := 346) 378 dL_law_32 (by rw [hc]; decide) (by rw [hc]; decide) (by rw [hc]; decide) (by decide) ?_
  refine kr_aload_n 2 dL_law_378 rfl (k := ?_)
  refine kr_aload_n 3 dL_law_379 rfl (k := ?_)
  refine kr_iload_n 0 dL_law_380 rfl (k := ?_)
  refine kr_iconst (1 : Int32) dL_law_381 (k := ?_)
  refine kr_iadd dL_law_382 (k := ?_)
  refine kr_sld (fun _ _ h => h) i1 dL_law_383 (k := ?_)
  refine kn_callVi [.int (xs (nI i + 1).toNatClampNeg)] [] mvX7_hour lkM_L_48 (kg_o7a h7) rfl (kg_o7n h7) dL_law_384 (sp_X7_hour h7 nhn hw) (fun x1 M1 h1 => ?_)
  obtain ⟨e1, hC1, hr1⟩ := h1
  refine kr_aload_n 1 dL_law_387 rfl (k := ?_)
  refine kr_aload_n 3 dL_law_388 rfl (k := ?_)
  refine kr_iload_n 0 dL_law_389 rfl (k := ?_)
  refine kr_iconst (1 : Int32) dL_law_390 (k := ?_)
  refine kr_iadd dL_law_391 (k := ?_)
  refine kr_sld (fun _ _ h => h) i1 dL_law_392 (k := ?_)
  refine kn_callVi [.int (xs (nI i + 1).toNatClampNeg)] [.int x1] mvX8_hour lkM_L_51 (kg_o8a h8) rfl (kg_o8n h8) dL_law_393 (sp_X8_hour h8 (hm M1 (MI_rows hM hr1))) (fun x2 M2 h2 => ?_)
  obtain ⟨e2, hM2, hr2⟩ := h2
  exact kr_icmp_eq 972 dL_law_396 (fun _ => nx M2 R l0 s0 σ' (kg_LI_n h7 h8 hC1 hM2 hr2)) (fun c => absurd (e1.trans e2.symm) c)
set_option maxRecDepth 100000 in
set_option maxHeartbeats 4000000 in
theorem lc_9 {G : kg_G} {b L i : Nat} {xs : Nat → Int32} {M : kg_M} {R : kg_R} {l0 s0 : Nat} {σ : kS} {Post : kg_Post} (hL : L ≤ 192) (hi : i + 3 ≤ L) (hI : kg_LI M R l0 s0 σ) (nx : ∀ (M' : kg_M) (R' : kg_R) (l' s' : Nat) (σ' : kS), kg_LI M' R' l' s' σ' → kg_Run G (kg_EX G b L xs) qL_law 20 972 [(3, .int (nI i)), (2, .ref (kg_b G + 117)), (1, .ref (kg_b G + 0)), (0, .ref b)] [] M' R' 142 0 0 Post) {x : Int32} (hc : x = (9 : Int32)) : kg_Run G (kg_EX G b L xs) qL_law 20 32 [(3, .int (nI i)), (2, .ref (kg_b G + 117)), (1, .ref (kg_b G + 0)), (0, .ref b)] [.int x] M R 142 0 0 Post := by
  obtain ⟨h7, h8, hC, hM⟩ := hI
  have i1 : vp_in (nI i + 1) L := by rw [nI_1]; exact in_nI (by omega) (by omega)
  have i2 : vp_in (nI i + 2) L := by rw [show (2 : Int32) = nI 2 from rfl, nI_add]; exact in_nI (by omega) (by omega)
  obtain ⟨r, σ', hw, hm⟩ := p_come (xs (nI i + 1).toNatClampNeg) (xs (nI i + 2).toNatClampNeg) hC
  refine kr_tableIn (off := 369) 401 dL_law_32 (by rw [hc]; decide) (by rw [hc]; decide) (by rw [hc]; decide) (by decide) ?_
  refine kr_aload_n 2 dL_law_401 rfl (k := ?_)
  refine kr_aload_n 3 dL_law_402 rfl (k := ?_)
  refine kr_iload_n 0 dL_law_403 rfl (k := ?_)
  refine kr_iconst (1 : Int32) dL_law_404 (k := ?_)
  refine kr_iadd dL_law_405 (k := ?_)
  refine kr_sld (fun _ _ h => h) i1 dL_law_406 (k := ?_)
  refine kr_aload_n 3 dL_law_407 rfl (k := ?_)
  refine kr_iload_n 0 dL_law_408 rfl (k := ?_)
  refine kr_iconst (2 : Int32) dL_law_409 (k := ?_)
  refine kr_iadd dL_law_410 (k := ?_)
  refine kr_sld (fun _ _ h => h) i2 dL_law_411 (k := ?_)
  refine kn_callVi [.int (xs (nI i + 1).toNatClampNeg), .int (xs (nI i + 2).toNatClampNeg)] [] mvX7_come lkM_L_52 (kg_o7a h7) rfl (kg_o7n h7) dL_law_412 (sp_X7_come h7 nhn hw) (fun x1 M1 h1 => ?_)
  obtain ⟨e1, hC1, hr1⟩ := h1
  refine kr_aload_n 1 dL_law_415 rfl (k := ?_)
  refine kr_aload_n 3 dL_law_416 rfl (k := ?_)
  refine kr_iload_n 0 dL_law_417 rfl (k := ?_)
  refine kr_iconst (1 : Int32) dL_law_418 (k := ?_)
  refine kr_iadd dL_law_419 (k := ?_)
  refine kr_sld (fun _ _ h => h) i1 dL_law_420 (k := ?_)
  refine kr_aload_n 3 dL_law_421 rfl (k := ?_)
  refine kr_iload_n 0 dL_law_422 rfl (k := ?_)
  refine kr_iconst (2 : Int32) dL_law_423 (k := ?_)
  refine kr_iadd dL_law_424 (k := ?_)
  refine kr_sld (fun _ _ h => h) i2 dL_law_425 (k := ?_)
  refine kn_callVi [.int (xs (nI i + 1).toNatClampNeg), .int (xs (nI i + 2).toNatClampNeg)] [.int x1] mvX8_come lkM_L_55 (kg_o8a h8) rfl (kg_o8n h8) dL_law_426 (sp_X8_come h8 (hm M1 (MI_rows hM hr1))) (fun x2 M2 h2 => ?_)
  obtain ⟨e2, hM2, hr2⟩ := h2
  exact kr_icmp_eq 972 dL_law_429 (fun _ => nx M2 R l0 s0 σ' (kg_LI_n h7 h8 hC1 hM2 hr2)) (fun c => absurd (e1.trans e2.symm) c)
set_option maxRecDepth 100000 in
set_option maxHeartbeats 4000000 in
theorem lc_10 {G : kg_G} {b L i : Nat} {xs : Nat → Int32} {M : kg_M} {R : kg_R} {l0 s0 : Nat} {σ : kS} {Post : kg_Post} (hL : L ≤ 192) (hi : i + 3 ≤ L) (hI : kg_LI M R l0 s0 σ) (nx : ∀ (M' : kg_M) (R' : kg_R) (l' s' : Nat) (σ' : kS), kg_LI M' R' l' s' σ' → kg_Run G (kg_EX G b L xs) qL_law 20 972 [(3, .int (nI i)), (2, .ref (kg_b G + 117)), (1, .ref (kg_b G + 0)), (0, .ref b)] [] M' R' 142 0 0 Post) {x : Int32} (hc : x = (10 : Int32)) : kg_Run G (kg_EX G b L xs) qL_law 20 32 [(3, .int (nI i)), (2, .ref (kg_b G + 117)), (1, .ref (kg_b G + 0)), (0, .ref b)] [.int x] M R 142 0 0 Post := by
  obtain ⟨h7, h8, hC, hM⟩ := hI
  have i1 : vp_in (nI i + 1) L := by rw [nI_1]; exact in_nI (by omega) (by omega)
  have i2 : vp_in (nI i + 2) L := by rw [show (2 : Int32) = nI 2 from rfl, nI_add]; exact in_nI (by omega) (by omega)
  obtain ⟨r, σ', hw, hm⟩ := p_goOff (xs (nI i + 1).toNatClampNeg) hC
  refine kr_tableIn (off := 402) 434 dL_law_32 (by rw [hc]; decide) (by rw [hc]; decide) (by rw [hc]; decide) (by decide) ?_
  refine kr_aload_n 2 dL_law_434 rfl (k := ?_)
  refine kr_aload_n 3 dL_law_435 rfl (k := ?_)
  refine kr_iload_n 0 dL_law_436 rfl (k := ?_)
  refine kr_iconst (1 : Int32) dL_law_437 (k := ?_)
  refine kr_iadd dL_law_438 (k := ?_)
  refine kr_sld (fun _ _ h => h) i1 dL_law_439 (k := ?_)
  refine kn_callVi [.int (xs (nI i + 1).toNatClampNeg)] [] mvX7_goOff lkM_L_56 (kg_o7a h7) rfl (kg_o7n h7) dL_law_440 (sp_X7_goOff h7 nhn hw) (fun x1 M1 h1 => ?_)
  obtain ⟨e1, hC1, hr1⟩ := h1
  refine kr_aload_n 1 dL_law_443 rfl (k := ?_)
  refine kr_aload_n 3 dL_law_444 rfl (k := ?_)
  refine kr_iload_n 0 dL_law_445 rfl (k := ?_)
  refine kr_iconst (1 : Int32) dL_law_446 (k := ?_)
  refine kr_iadd dL_law_447 (k := ?_)
  refine kr_sld (fun _ _ h => h) i1 dL_law_448 (k := ?_)
  refine kn_callVi [.int (xs (nI i + 1).toNatClampNeg)] [.int x1] mvX8_goOff lkM_L_59 (kg_o8a h8) rfl (kg_o8n h8) dL_law_449 (sp_X8_goOff h8 (hm M1 (MI_rows hM hr1))) (fun x2 M2 h2 => ?_)
  obtain ⟨e2, hM2, hr2⟩ := h2
  exact kr_icmp_eq 972 dL_law_452 (fun _ => nx M2 R l0 s0 σ' (kg_LI_n h7 h8 hC1 hM2 hr2)) (fun c => absurd (e1.trans e2.symm) c)
set_option maxRecDepth 100000 in
set_option maxHeartbeats 4000000 in
theorem lc_11 {G : kg_G} {b L i : Nat} {xs : Nat → Int32} {M : kg_M} {R : kg_R} {l0 s0 : Nat} {σ : kS} {Post : kg_Post} (hL : L ≤ 192) (hi : i + 3 ≤ L) (hI : kg_LI M R l0 s0 σ) (nx : ∀ (M' : kg_M) (R' : kg_R) (l' s' : Nat) (σ' : kS), kg_LI M' R' l' s' σ' → kg_Run G (kg_EX G b L xs) qL_law 20 972 [(3, .int (nI i)), (2, .ref (kg_b G + 117)), (1, .ref (kg_b G + 0)), (0, .ref b)] [] M' R' 142 0 0 Post) {x : Int32} (hc : x = (11 : Int32)) : kg_Run G (kg_EX G b L xs) qL_law 20 32 [(3, .int (nI i)), (2, .ref (kg_b G + 117)), (1, .ref (kg_b G + 0)), (0, .ref b)] [.int x] M R 142 0 0 Post := by
  obtain ⟨h7, h8, hC, hM⟩ := hI
  have i1 : vp_in (nI i + 1) L := by rw [nI_1]; exact in_nI (by omega) (by omega)
  have i2 : vp_in (nI i + 2) L := by rw [show (2 : Int32) = nI 2 from rfl, nI_add]; exact in_nI (by omega) (by omega)
  obtain ⟨r, σ', hw, hm⟩ := p_hole (xs (nI i + 1).toNatClampNeg) hC
  refine kr_tableIn (off := 425) 457 dL_law_32 (by rw [hc]; decide) (by rw [hc]; decide) (by rw [hc]; decide) (by decide) ?_
  refine kr_aload_n 2 dL_law_457 rfl (k := ?_)
  refine kr_aload_n 3 dL_law_458 rfl (k := ?_)
  refine kr_iload_n 0 dL_law_459 rfl (k := ?_)
  refine kr_iconst (1 : Int32) dL_law_460 (k := ?_)
  refine kr_iadd dL_law_461 (k := ?_)
  refine kr_sld (fun _ _ h => h) i1 dL_law_462 (k := ?_)
  refine kn_callVi [.int (xs (nI i + 1).toNatClampNeg)] [] mvX7_hole lkM_L_60 (kg_o7a h7) rfl (kg_o7n h7) dL_law_463 (sp_X7_hole h7 nhn hw) (fun x1 M1 h1 => ?_)
  obtain ⟨e1, hC1, hr1⟩ := h1
  refine kr_aload_n 1 dL_law_466 rfl (k := ?_)
  refine kr_aload_n 3 dL_law_467 rfl (k := ?_)
  refine kr_iload_n 0 dL_law_468 rfl (k := ?_)
  refine kr_iconst (1 : Int32) dL_law_469 (k := ?_)
  refine kr_iadd dL_law_470 (k := ?_)
  refine kr_sld (fun _ _ h => h) i1 dL_law_471 (k := ?_)
  refine kn_callVi [.int (xs (nI i + 1).toNatClampNeg)] [.int x1] mvX8_hole lkM_L_63 (kg_o8a h8) rfl (kg_o8n h8) dL_law_472 (sp_X8_hole h8 (hm M1 (MI_rows hM hr1))) (fun x2 M2 h2 => ?_)
  obtain ⟨e2, hM2, hr2⟩ := h2
  exact kr_icmp_eq 972 dL_law_475 (fun _ => nx M2 R l0 s0 σ' (kg_LI_n h7 h8 hC1 hM2 hr2)) (fun c => absurd (e1.trans e2.symm) c)
set_option maxRecDepth 100000 in
set_option maxHeartbeats 4000000 in
theorem lc_12 {G : kg_G} {b L i : Nat} {xs : Nat → Int32} {M : kg_M} {R : kg_R} {l0 s0 : Nat} {σ : kS} {Post : kg_Post} (hL : L ≤ 192) (hi : i + 3 ≤ L) (hI : kg_LI M R l0 s0 σ) (nx : ∀ (M' : kg_M) (R' : kg_R) (l' s' : Nat) (σ' : kS), kg_LI M' R' l' s' σ' → kg_Run G (kg_EX G b L xs) qL_law 20 972 [(3, .int (nI i)), (2, .ref (kg_b G + 117)), (1, .ref (kg_b G + 0)), (0, .ref b)] [] M' R' 142 0 0 Post) {x : Int32} (hc : x = (12 : Int32)) : kg_Run G (kg_EX G b L xs) qL_law 20 32 [(3, .int (nI i)), (2, .ref (kg_b G + 117)), (1, .ref (kg_b G + 0)), (0, .ref b)] [.int x] M R 142 0 0 Post := by
  obtain ⟨h7, h8, hC, hM⟩ := hI
  have i1 : vp_in (nI i + 1) L := by rw [nI_1]; exact in_nI (by omega) (by omega)
  have i2 : vp_in (nI i + 2) L := by rw [show (2 : Int32) = nI 2 from rfl, nI_add]; exact in_nI (by omega) (by omega)
  obtain ⟨r, σ', hw, hm⟩ := p_oil (xs (nI i + 1).toNatClampNeg) hC
  refine kr_tableIn (off := 448) 480 dL_law_32 (by rw [hc]; decide) (by rw [hc]; decide) (by rw [hc]; decide) (by decide) ?_
  refine kr_aload_n 2 dL_law_480 rfl (k := ?_)
  refine kr_aload_n 3 dL_law_481 rfl (k := ?_)
  refine kr_iload_n 0 dL_law_482 rfl (k := ?_)
  refine kr_iconst (1 : Int32) dL_law_483 (k := ?_)
  refine kr_iadd dL_law_484 (k := ?_)
  refine kr_sld (fun _ _ h => h) i1 dL_law_485 (k := ?_)
  refine kn_callVi [.int (xs (nI i + 1).toNatClampNeg)] [] mvX7_oil lkM_L_64 (kg_o7a h7) rfl (kg_o7n h7) dL_law_486 (sp_X7_oil h7 nhn hw) (fun x1 M1 h1 => ?_)
  obtain ⟨e1, hC1, hr1⟩ := h1
  refine kr_aload_n 1 dL_law_489 rfl (k := ?_)
  refine kr_aload_n 3 dL_law_490 rfl (k := ?_)
  refine kr_iload_n 0 dL_law_491 rfl (k := ?_)
  refine kr_iconst (1 : Int32) dL_law_492 (k := ?_)
  refine kr_iadd dL_law_493 (k := ?_)
  refine kr_sld (fun _ _ h => h) i1 dL_law_494 (k := ?_)
  refine kn_callVi [.int (xs (nI i + 1).toNatClampNeg)] [.int x1] mvX8_oil lkM_L_67 (kg_o8a h8) rfl (kg_o8n h8) dL_law_495 (sp_X8_oil h8 (hm M1 (MI_rows hM hr1))) (fun x2 M2 h2 => ?_)
  obtain ⟨e2, hM2, hr2⟩ := h2
  exact kr_icmp_eq 972 dL_law_498 (fun _ => nx M2 R l0 s0 σ' (kg_LI_n h7 h8 hC1 hM2 hr2)) (fun c => absurd (e1.trans e2.symm) c)
set_option maxRecDepth 100000 in
set_option maxHeartbeats 4000000 in
theorem lc_13 {G : kg_G} {b L i : Nat} {xs : Nat → Int32} {M : kg_M} {R : kg_R} {l0 s0 : Nat} {σ : kS} {Post : kg_Post} (hL : L ≤ 192) (hi : i + 3 ≤ L) (hI : kg_LI M R l0 s0 σ) (nx : ∀ (M' : kg_M) (R' : kg_R) (l' s' : Nat) (σ' : kS), kg_LI M' R' l' s' σ' → kg_Run G (kg_EX G b L xs) qL_law 20 972 [(3, .int (nI i)), (2, .ref (kg_b G + 117)), (1, .ref (kg_b G + 0)), (0, .ref b)] [] M' R' 142 0 0 Post) {x : Int32} (hc : x = (13 : Int32)) : kg_Run G (kg_EX G b L xs) qL_law 20 32 [(3, .int (nI i)), (2, .ref (kg_b G + 117)), (1, .ref (kg_b G + 0)), (0, .ref b)] [.int x] M R 142 0 0 Post := by
  obtain ⟨h7, h8, hC, hM⟩ := hI
  have i1 : vp_in (nI i + 1) L := by rw [nI_1]; exact in_nI (by omega) (by omega)
  have i2 : vp_in (nI i + 2) L := by rw [show (2 : Int32) = nI 2 from rfl, nI_add]; exact in_nI (by omega) (by omega)
  obtain ⟨r, σ', hw, hm⟩ := p_well (xs (nI i + 1).toNatClampNeg) hC
  refine kr_tableIn (off := 471) 503 dL_law_32 (by rw [hc]; decide) (by rw [hc]; decide) (by rw [hc]; decide) (by decide) ?_
  refine kr_aload_n 2 dL_law_503 rfl (k := ?_)
  refine kr_aload_n 3 dL_law_504 rfl (k := ?_)
  refine kr_iload_n 0 dL_law_505 rfl (k := ?_)
  refine kr_iconst (1 : Int32) dL_law_506 (k := ?_)
  refine kr_iadd dL_law_507 (k := ?_)
  refine kr_sld (fun _ _ h => h) i1 dL_law_508 (k := ?_)
  refine kn_callVi [.int (xs (nI i + 1).toNatClampNeg)] [] mvX7_well lkM_L_68 (kg_o7a h7) rfl (kg_o7n h7) dL_law_509 (sp_X7_well h7 nhn hw) (fun x1 M1 h1 => ?_)
  obtain ⟨e1, hC1, hr1⟩ := h1
  refine kr_aload_n 1 dL_law_512 rfl (k := ?_)
  refine kr_aload_n 3 dL_law_513 rfl (k := ?_)
  refine kr_iload_n 0 dL_law_514 rfl (k := ?_)
  refine kr_iconst (1 : Int32) dL_law_515 (k := ?_)
  refine kr_iadd dL_law_516 (k := ?_)
  refine kr_sld (fun _ _ h => h) i1 dL_law_517 (k := ?_)
  refine kn_callVi [.int (xs (nI i + 1).toNatClampNeg)] [.int x1] mvX8_well lkM_L_71 (kg_o8a h8) rfl (kg_o8n h8) dL_law_518 (sp_X8_well h8 (hm M1 (MI_rows hM hr1))) (fun x2 M2 h2 => ?_)
  obtain ⟨e2, hM2, hr2⟩ := h2
  exact kr_icmp_eq 972 dL_law_521 (fun _ => nx M2 R l0 s0 σ' (kg_LI_n h7 h8 hC1 hM2 hr2)) (fun c => absurd (e1.trans e2.symm) c)
set_option maxRecDepth 100000 in
set_option maxHeartbeats 4000000 in
theorem lc_14 {G : kg_G} {b L i : Nat} {xs : Nat → Int32} {M : kg_M} {R : kg_R} {l0 s0 : Nat} {σ : kS} {Post : kg_Post} (hL : L ≤ 192) (hi : i + 3 ≤ L) (hI : kg_LI M R l0 s0 σ) (nx : ∀ (M' : kg_M) (R' : kg_R) (l' s' : Nat) (σ' : kS), kg_LI M' R' l' s' σ' → kg_Run G (kg_EX G b L xs) qL_law 20 972 [(3, .int (nI i)), (2, .ref (kg_b G + 117)), (1, .ref (kg_b G + 0)), (0, .ref b)] [] M' R' 142 0 0 Post) {x : Int32} (hc : x = (14 : Int32)) : kg_Run G (kg_EX G b L xs) qL_law 20 32 [(3, .int (nI i)), (2, .ref (kg_b G + 117)), (1, .ref (kg_b G + 0)), (0, .ref b)] [.int x] M R 142 0 0 Post := by
  obtain ⟨h7, h8, hC, hM⟩ := hI
  have i1 : vp_in (nI i + 1) L := by rw [nI_1]; exact in_nI (by omega) (by omega)
  have i2 : vp_in (nI i + 2) L := by rw [show (2 : Int32) = nI 2 from rfl, nI_add]; exact in_nI (by omega) (by omega)
  obtain ⟨r, σ', hw, hm⟩ := p_drift (xs (nI i + 1).toNatClampNeg) hC
  refine kr_tableIn (off := 494) 526 dL_law_32 (by rw [hc]; decide) (by rw [hc]; decide) (by rw [hc]; decide) (by decide) ?_
  refine kr_aload_n 2 dL_law_526 rfl (k := ?_)
  refine kr_aload_n 3 dL_law_527 rfl (k := ?_)
  refine kr_iload_n 0 dL_law_528 rfl (k := ?_)
  refine kr_iconst (1 : Int32) dL_law_529 (k := ?_)
  refine kr_iadd dL_law_530 (k := ?_)
  refine kr_sld (fun _ _ h => h) i1 dL_law_531 (k := ?_)
  refine kn_callVi [.int (xs (nI i + 1).toNatClampNeg)] [] mvX7_drift lkM_L_72 (kg_o7a h7) rfl (kg_o7n h7) dL_law_532 (sp_X7_drift h7 nhn hw) (fun x1 M1 h1 => ?_)
  obtain ⟨e1, hC1, hr1⟩ := h1
  refine kr_aload_n 1 dL_law_535 rfl (k := ?_)
  refine kr_aload_n 3 dL_law_536 rfl (k := ?_)
  refine kr_iload_n 0 dL_law_537 rfl (k := ?_)
  refine kr_iconst (1 : Int32) dL_law_538 (k := ?_)
  refine kr_iadd dL_law_539 (k := ?_)
  refine kr_sld (fun _ _ h => h) i1 dL_law_540 (k := ?_)
  refine kn_callVi [.int (xs (nI i + 1).toNatClampNeg)] [.int x1] mvX8_drift lkM_L_75 (kg_o8a h8) rfl (kg_o8n h8) dL_law_541 (sp_X8_drift h8 (hm M1 (MI_rows hM hr1))) (fun x2 M2 h2 => ?_)
  obtain ⟨e2, hM2, hr2⟩ := h2
  exact kr_icmp_eq 972 dL_law_544 (fun _ => nx M2 R l0 s0 σ' (kg_LI_n h7 h8 hC1 hM2 hr2)) (fun c => absurd (e1.trans e2.symm) c)
set_option maxRecDepth 100000 in
set_option maxHeartbeats 4000000 in
theorem lc_15 {G : kg_G} {b L i : Nat} {xs : Nat → Int32} {M : kg_M} {R : kg_R} {l0 s0 : Nat} {σ : kS} {Post : kg_Post} (hL : L ≤ 192) (hi : i + 3 ≤ L) (hI : kg_LI M R l0 s0 σ) (nx : ∀ (M' : kg_M) (R' : kg_R) (l' s' : Nat) (σ' : kS), kg_LI M' R' l' s' σ' → kg_Run G (kg_EX G b L xs) qL_law 20 972 [(3, .int (nI i)), (2, .ref (kg_b G + 117)), (1, .ref (kg_b G + 0)), (0, .ref b)] [] M' R' 142 0 0 Post) {x : Int32} (hc : x = (15 : Int32)) : kg_Run G (kg_EX G b L xs) qL_law 20 32 [(3, .int (nI i)), (2, .ref (kg_b G + 117)), (1, .ref (kg_b G + 0)), (0, .ref b)] [.int x] M R 142 0 0 Post := by
  obtain ⟨h7, h8, hC, hM⟩ := hI
  have i1 : vp_in (nI i + 1) L := by rw [nI_1]; exact in_nI (by omega) (by omega)
  have i2 : vp_in (nI i + 2) L := by rw [show (2 : Int32) = nI 2 from rfl, nI_add]; exact in_nI (by omega) (by omega)
  obtain ⟨r, σ', hw, hm⟩ := p_undo  hC
  refine kr_tableIn (off := 517) 549 dL_law_32 (by rw [hc]; decide) (by rw [hc]; decide) (by rw [hc]; decide) (by decide) ?_
  refine kr_aload_n 2 dL_law_549 rfl (k := ?_)
  refine kn_callVi [] [] mvX7_undo lkM_L_76 (kg_o7a h7) rfl (kg_o7n h7) dL_law_550 (sp_X7_undo h7 nhn hw) (fun x1 M1 h1 => ?_)
  obtain ⟨e1, hC1, hr1⟩ := h1
  refine kr_aload_n 1 dL_law_553 rfl (k := ?_)
  refine kn_callVi [] [.int x1] mvX8_undo lkM_L_79 (kg_o8a h8) rfl (kg_o8n h8) dL_law_554 (sp_X8_undo h8 (hm M1 (MI_rows hM hr1))) (fun x2 M2 h2 => ?_)
  obtain ⟨e2, hM2, hr2⟩ := h2
  exact kr_icmp_eq 972 dL_law_557 (fun _ => nx M2 R l0 s0 σ' (kg_LI_n h7 h8 hC1 hM2 hr2)) (fun c => absurd (e1.trans e2.symm) c)
set_option maxRecDepth 100000 in
set_option maxHeartbeats 4000000 in
theorem lc_16 {G : kg_G} {b L i : Nat} {xs : Nat → Int32} {M : kg_M} {R : kg_R} {l0 s0 : Nat} {σ : kS} {Post : kg_Post} (hL : L ≤ 192) (hi : i + 3 ≤ L) (hI : kg_LI M R l0 s0 σ) (nx : ∀ (M' : kg_M) (R' : kg_R) (l' s' : Nat) (σ' : kS), kg_LI M' R' l' s' σ' → kg_Run G (kg_EX G b L xs) qL_law 20 972 [(3, .int (nI i)), (2, .ref (kg_b G + 117)), (1, .ref (kg_b G + 0)), (0, .ref b)] [] M' R' 142 0 0 Post) {x : Int32} (hc : x = (16 : Int32)) : kg_Run G (kg_EX G b L xs) qL_law 20 32 [(3, .int (nI i)), (2, .ref (kg_b G + 117)), (1, .ref (kg_b G + 0)), (0, .ref b)] [.int x] M R 142 0 0 Post := by
  obtain ⟨h7, h8, hC, hM⟩ := hI
  have i1 : vp_in (nI i + 1) L := by rw [nI_1]; exact in_nI (by omega) (by omega)
  have i2 : vp_in (nI i + 2) L := by rw [show (2 : Int32) = nI 2 from rfl, nI_add]; exact in_nI (by omega) (by omega)
  obtain ⟨r, σ', hw, hm⟩ := p_atOnce (xs (nI i + 1).toNatClampNeg) hC
  refine kr_tableIn (off := 530) 562 dL_law_32 (by rw [hc]; decide) (by rw [hc]; decide) (by rw [hc]; decide) (by decide) ?_
  refine kr_aload_n 2 dL_law_562 rfl (k := ?_)
  refine kr_aload_n 3 dL_law_563 rfl (k := ?_)
  refine kr_iload_n 0 dL_law_564 rfl (k := ?_)
  refine kr_iconst (1 : Int32) dL_law_565 (k := ?_)
  refine kr_iadd dL_law_566 (k := ?_)
  refine kr_sld (fun _ _ h => h) i1 dL_law_567 (k := ?_)
  refine kn_callVi [.int (xs (nI i + 1).toNatClampNeg)] [] mvX7_atOnce lkM_L_80 (kg_o7a h7) rfl (kg_o7n h7) dL_law_568 (sp_X7_atOnce h7 nhn hw) (fun x1 M1 h1 => ?_)
  obtain ⟨e1, hC1, hr1⟩ := h1
  refine kr_aload_n 1 dL_law_571 rfl (k := ?_)
  refine kr_aload_n 3 dL_law_572 rfl (k := ?_)
  refine kr_iload_n 0 dL_law_573 rfl (k := ?_)
  refine kr_iconst (1 : Int32) dL_law_574 (k := ?_)
  refine kr_iadd dL_law_575 (k := ?_)
  refine kr_sld (fun _ _ h => h) i1 dL_law_576 (k := ?_)
  refine kn_callVi [.int (xs (nI i + 1).toNatClampNeg)] [.int x1] mvX8_atOnce lkM_L_83 (kg_o8a h8) rfl (kg_o8n h8) dL_law_577 (sp_X8_atOnce h8 (hm M1 (MI_rows hM hr1))) (fun x2 M2 h2 => ?_)
  obtain ⟨e2, hM2, hr2⟩ := h2
  exact kr_icmp_eq 972 dL_law_580 (fun _ => nx M2 R l0 s0 σ' (kg_LI_n h7 h8 hC1 hM2 hr2)) (fun c => absurd (e1.trans e2.symm) c)
set_option maxRecDepth 100000 in
set_option maxHeartbeats 4000000 in
theorem lc_17 {G : kg_G} {b L i : Nat} {xs : Nat → Int32} {M : kg_M} {R : kg_R} {l0 s0 : Nat} {σ : kS} {Post : kg_Post} (hL : L ≤ 192) (hi : i + 3 ≤ L) (hI : kg_LI M R l0 s0 σ) (nx : ∀ (M' : kg_M) (R' : kg_R) (l' s' : Nat) (σ' : kS), kg_LI M' R' l' s' σ' → kg_Run G (kg_EX G b L xs) qL_law 20 972 [(3, .int (nI i)), (2, .ref (kg_b G + 117)), (1, .ref (kg_b G + 0)), (0, .ref b)] [] M' R' 142 0 0 Post) {x : Int32} (hc : x = (17 : Int32)) : kg_Run G (kg_EX G b L xs) qL_law 20 32 [(3, .int (nI i)), (2, .ref (kg_b G + 117)), (1, .ref (kg_b G + 0)), (0, .ref b)] [.int x] M R 142 0 0 Post := by
  obtain ⟨h7, h8, hC, hM⟩ := hI
  have i1 : vp_in (nI i + 1) L := by rw [nI_1]; exact in_nI (by omega) (by omega)
  have i2 : vp_in (nI i + 2) L := by rw [show (2 : Int32) = nI 2 from rfl, nI_add]; exact in_nI (by omega) (by omega)
  obtain ⟨r, σ', hw, hm⟩ := p_sides (xs (nI i + 1).toNatClampNeg) (xs (nI i + 2).toNatClampNeg) hC
  refine kr_tableIn (off := 553) 585 dL_law_32 (by rw [hc]; decide) (by rw [hc]; decide) (by rw [hc]; decide) (by decide) ?_
  refine kr_aload_n 2 dL_law_585 rfl (k := ?_)
  refine kr_aload_n 3 dL_law_586 rfl (k := ?_)
  refine kr_iload_n 0 dL_law_587 rfl (k := ?_)
  refine kr_iconst (1 : Int32) dL_law_588 (k := ?_)
  refine kr_iadd dL_law_589 (k := ?_)
  refine kr_sld (fun _ _ h => h) i1 dL_law_590 (k := ?_)
  refine kr_aload_n 3 dL_law_591 rfl (k := ?_)
  refine kr_iload_n 0 dL_law_592 rfl (k := ?_)
  refine kr_iconst (2 : Int32) dL_law_593 (k := ?_)
  refine kr_iadd dL_law_594 (k := ?_)
  refine kr_sld (fun _ _ h => h) i2 dL_law_595 (k := ?_)
  refine kn_callVi [.int (xs (nI i + 1).toNatClampNeg), .int (xs (nI i + 2).toNatClampNeg)] [] mvX7_sides lkM_L_84 (kg_o7a h7) rfl (kg_o7n h7) dL_law_596 (sp_X7_sides h7 hw) (fun x1 M1 h1 => ?_)
  obtain ⟨e1, hC1, hr1⟩ := h1
  refine kr_aload_n 1 dL_law_599 rfl (k := ?_)
  refine kr_aload_n 3 dL_law_600 rfl (k := ?_)
  refine kr_iload_n 0 dL_law_601 rfl (k := ?_)
  refine kr_iconst (1 : Int32) dL_law_602 (k := ?_)
  refine kr_iadd dL_law_603 (k := ?_)
  refine kr_sld (fun _ _ h => h) i1 dL_law_604 (k := ?_)
  refine kr_aload_n 3 dL_law_605 rfl (k := ?_)
  refine kr_iload_n 0 dL_law_606 rfl (k := ?_)
  refine kr_iconst (2 : Int32) dL_law_607 (k := ?_)
  refine kr_iadd dL_law_608 (k := ?_)
  refine kr_sld (fun _ _ h => h) i2 dL_law_609 (k := ?_)
  refine kn_callVi [.int (xs (nI i + 1).toNatClampNeg), .int (xs (nI i + 2).toNatClampNeg)] [.int x1] mvX8_sides lkM_L_87 (kg_o8a h8) rfl (kg_o8n h8) dL_law_610 (sp_X8_sides h8 (hm M1 (MI_rows hM hr1))) (fun x2 M2 h2 => ?_)
  obtain ⟨e2, hM2, hr2⟩ := h2
  exact kr_icmp_eq 972 dL_law_613 (fun _ => nx M2 R l0 s0 σ' (kg_LI_n h7 h8 hC1 hM2 hr2)) (fun c => absurd (e1.trans e2.symm) c)
set_option maxRecDepth 100000 in
set_option maxHeartbeats 4000000 in
theorem lc_18 {G : kg_G} {b L i : Nat} {xs : Nat → Int32} {M : kg_M} {R : kg_R} {l0 s0 : Nat} {σ : kS} {Post : kg_Post} (hL : L ≤ 192) (hi : i + 3 ≤ L) (hI : kg_LI M R l0 s0 σ) (nx : ∀ (M' : kg_M) (R' : kg_R) (l' s' : Nat) (σ' : kS), kg_LI M' R' l' s' σ' → kg_Run G (kg_EX G b L xs) qL_law 20 972 [(3, .int (nI i)), (2, .ref (kg_b G + 117)), (1, .ref (kg_b G + 0)), (0, .ref b)] [] M' R' 142 0 0 Post) {x : Int32} (hc : x = (18 : Int32)) : kg_Run G (kg_EX G b L xs) qL_law 20 32 [(3, .int (nI i)), (2, .ref (kg_b G + 117)), (1, .ref (kg_b G + 0)), (0, .ref b)] [.int x] M R 142 0 0 Post := by
  obtain ⟨h7, h8, hC, hM⟩ := hI
  have i1 : vp_in (nI i + 1) L := by rw [nI_1]; exact in_nI (by omega) (by omega)
  have i2 : vp_in (nI i + 2) L := by rw [show (2 : Int32) = nI 2 from rfl, nI_add]; exact in_nI (by omega) (by omega)
  obtain ⟨r, σ', hw, hm⟩ := p_steady  hC
  refine kr_tableIn (off := 586) 618 dL_law_32 (by rw [hc]; decide) (by rw [hc]; decide) (by rw [hc]; decide) (by decide) ?_
  refine kr_aload_n 2 dL_law_618 rfl (k := ?_)
  refine kn_callVi [] [] mvX7_steady lkM_L_88 (kg_o7a h7) rfl (kg_o7n h7) dL_law_619 (sp_X7_steady h7 nhn hw) (fun x1 M1 h1 => ?_)
  obtain ⟨e1, hC1, hr1⟩ := h1
  refine kr_aload_n 1 dL_law_622 rfl (k := ?_)
  refine kn_callVi [] [.int x1] mvX8_steady lkM_L_91 (kg_o8a h8) rfl (kg_o8n h8) dL_law_623 (sp_X8_steady h8 (hm M1 (MI_rows hM hr1))) (fun x2 M2 h2 => ?_)
  obtain ⟨e2, hM2, hr2⟩ := h2
  exact kr_icmp_eq 972 dL_law_626 (fun _ => nx M2 R l0 s0 σ' (kg_LI_n h7 h8 hC1 hM2 hr2)) (fun c => absurd (e1.trans e2.symm) c)
set_option maxRecDepth 100000 in
set_option maxHeartbeats 4000000 in
theorem lc_19 {G : kg_G} {b L i : Nat} {xs : Nat → Int32} {M : kg_M} {R : kg_R} {l0 s0 : Nat} {σ : kS} {Post : kg_Post} (hL : L ≤ 192) (hi : i + 3 ≤ L) (hI : kg_LI M R l0 s0 σ) (nx : ∀ (M' : kg_M) (R' : kg_R) (l' s' : Nat) (σ' : kS), kg_LI M' R' l' s' σ' → kg_Run G (kg_EX G b L xs) qL_law 20 972 [(3, .int (nI i)), (2, .ref (kg_b G + 117)), (1, .ref (kg_b G + 0)), (0, .ref b)] [] M' R' 142 0 0 Post) {x : Int32} (hc : x = (19 : Int32)) : kg_Run G (kg_EX G b L xs) qL_law 20 32 [(3, .int (nI i)), (2, .ref (kg_b G + 117)), (1, .ref (kg_b G + 0)), (0, .ref b)] [.int x] M R 142 0 0 Post := by
  obtain ⟨h7, h8, hC, hM⟩ := hI
  have i1 : vp_in (nI i + 1) L := by rw [nI_1]; exact in_nI (by omega) (by omega)
  have i2 : vp_in (nI i + 2) L := by rw [show (2 : Int32) = nI 2 from rfl, nI_add]; exact in_nI (by omega) (by omega)
  obtain ⟨r, σ', hw, hm⟩ := p_loves (xs (nI i + 1).toNatClampNeg) hC
  refine kr_tableIn (off := 599) 631 dL_law_32 (by rw [hc]; decide) (by rw [hc]; decide) (by rw [hc]; decide) (by decide) ?_
  refine kr_aload_n 2 dL_law_631 rfl (k := ?_)
  refine kr_aload_n 3 dL_law_632 rfl (k := ?_)
  refine kr_iload_n 0 dL_law_633 rfl (k := ?_)
  refine kr_iconst (1 : Int32) dL_law_634 (k := ?_)
  refine kr_iadd dL_law_635 (k := ?_)
  refine kr_sld (fun _ _ h => h) i1 dL_law_636 (k := ?_)
  refine kn_callVi [.int (xs (nI i + 1).toNatClampNeg)] [] mvX7_loves lkM_L_92 (kg_o7a h7) rfl (kg_o7n h7) dL_law_637 (sp_X7_loves h7 hw) (fun x1 M1 h1 => ?_)
  obtain ⟨e1, hC1, hr1⟩ := h1
  refine kr_aload_n 1 dL_law_640 rfl (k := ?_)
  refine kr_aload_n 3 dL_law_641 rfl (k := ?_)
  refine kr_iload_n 0 dL_law_642 rfl (k := ?_)
  refine kr_iconst (1 : Int32) dL_law_643 (k := ?_)
  refine kr_iadd dL_law_644 (k := ?_)
  refine kr_sld (fun _ _ h => h) i1 dL_law_645 (k := ?_)
  refine kn_callVi [.int (xs (nI i + 1).toNatClampNeg)] [.int x1] mvX8_loves lkM_L_95 (kg_o8a h8) rfl (kg_o8n h8) dL_law_646 (sp_X8_loves h8 (hm M1 (MI_rows hM hr1))) (fun x2 M2 h2 => ?_)
  obtain ⟨e2, hM2, hr2⟩ := h2
  exact kr_icmp_eq 972 dL_law_649 (fun _ => nx M2 R l0 s0 σ' (kg_LI_n h7 h8 hC1 hM2 hr2)) (fun c => absurd (e1.trans e2.symm) c)
set_option maxRecDepth 100000 in
set_option maxHeartbeats 4000000 in
theorem lc_20 {G : kg_G} {b L i : Nat} {xs : Nat → Int32} {M : kg_M} {R : kg_R} {l0 s0 : Nat} {σ : kS} {Post : kg_Post} (hL : L ≤ 192) (hi : i + 3 ≤ L) (hI : kg_LI M R l0 s0 σ) (nx : ∀ (M' : kg_M) (R' : kg_R) (l' s' : Nat) (σ' : kS), kg_LI M' R' l' s' σ' → kg_Run G (kg_EX G b L xs) qL_law 20 972 [(3, .int (nI i)), (2, .ref (kg_b G + 117)), (1, .ref (kg_b G + 0)), (0, .ref b)] [] M' R' 142 0 0 Post) {x : Int32} (hc : x = (20 : Int32)) : kg_Run G (kg_EX G b L xs) qL_law 20 32 [(3, .int (nI i)), (2, .ref (kg_b G + 117)), (1, .ref (kg_b G + 0)), (0, .ref b)] [.int x] M R 142 0 0 Post := by
  obtain ⟨h7, h8, hC, hM⟩ := hI
  have i1 : vp_in (nI i + 1) L := by rw [nI_1]; exact in_nI (by omega) (by omega)
  have i2 : vp_in (nI i + 2) L := by rw [show (2 : Int32) = nI 2 from rfl, nI_add]; exact in_nI (by omega) (by omega)
  obtain ⟨r, σ', hw, hm⟩ := p_first  hC
  refine kr_tableIn (off := 622) 654 dL_law_32 (by rw [hc]; decide) (by rw [hc]; decide) (by rw [hc]; decide) (by decide) ?_
  refine kr_aload_n 2 dL_law_654 rfl (k := ?_)
  refine kn_callVi [] [] mvX7_first lkM_L_96 (kg_o7a h7) rfl (kg_o7n h7) dL_law_655 (sp_X7_first h7 hw) (fun x1 M1 h1 => ?_)
  obtain ⟨e1, hC1, hr1⟩ := h1
  refine kr_aload_n 1 dL_law_658 rfl (k := ?_)
  refine kn_callVi [] [.int x1] mvX8_first lkM_L_99 (kg_o8a h8) rfl (kg_o8n h8) dL_law_659 (sp_X8_first h8 (hm M1 (MI_rows hM hr1))) (fun x2 M2 h2 => ?_)
  obtain ⟨e2, hM2, hr2⟩ := h2
  exact kr_icmp_eq 972 dL_law_662 (fun _ => nx M2 R l0 s0 σ' (kg_LI_n h7 h8 hC1 hM2 hr2)) (fun c => absurd (e1.trans e2.symm) c)
set_option maxRecDepth 100000 in
set_option maxHeartbeats 4000000 in
theorem lc_21 {G : kg_G} {b L i : Nat} {xs : Nat → Int32} {M : kg_M} {R : kg_R} {l0 s0 : Nat} {σ : kS} {Post : kg_Post} (hL : L ≤ 192) (hi : i + 3 ≤ L) (hI : kg_LI M R l0 s0 σ) (nx : ∀ (M' : kg_M) (R' : kg_R) (l' s' : Nat) (σ' : kS), kg_LI M' R' l' s' σ' → kg_Run G (kg_EX G b L xs) qL_law 20 972 [(3, .int (nI i)), (2, .ref (kg_b G + 117)), (1, .ref (kg_b G + 0)), (0, .ref b)] [] M' R' 142 0 0 Post) {x : Int32} (hc : x = (21 : Int32)) : kg_Run G (kg_EX G b L xs) qL_law 20 32 [(3, .int (nI i)), (2, .ref (kg_b G + 117)), (1, .ref (kg_b G + 0)), (0, .ref b)] [.int x] M R 142 0 0 Post := by
  obtain ⟨h7, h8, hC, hM⟩ := hI
  have i1 : vp_in (nI i + 1) L := by rw [nI_1]; exact in_nI (by omega) (by omega)
  have i2 : vp_in (nI i + 2) L := by rw [show (2 : Int32) = nI 2 from rfl, nI_add]; exact in_nI (by omega) (by omega)
  obtain ⟨r, σ', hw, hm⟩ := p_dies (xs (nI i + 1).toNatClampNeg) hC
  refine kr_tableIn (off := 635) 667 dL_law_32 (by rw [hc]; decide) (by rw [hc]; decide) (by rw [hc]; decide) (by decide) ?_
  refine kr_aload_n 2 dL_law_667 rfl (k := ?_)
  refine kr_aload_n 3 dL_law_668 rfl (k := ?_)
  refine kr_iload_n 0 dL_law_669 rfl (k := ?_)
  refine kr_iconst (1 : Int32) dL_law_670 (k := ?_)
  refine kr_iadd dL_law_671 (k := ?_)
  refine kr_sld (fun _ _ h => h) i1 dL_law_672 (k := ?_)
  refine kn_callVi [.int (xs (nI i + 1).toNatClampNeg)] [] mvX7_dies lkM_L_100 (kg_o7a h7) rfl (kg_o7n h7) dL_law_673 (sp_X7_dies h7 hw) (fun x1 M1 h1 => ?_)
  obtain ⟨e1, hC1, hr1⟩ := h1
  refine kr_aload_n 1 dL_law_676 rfl (k := ?_)
  refine kr_aload_n 3 dL_law_677 rfl (k := ?_)
  refine kr_iload_n 0 dL_law_678 rfl (k := ?_)
  refine kr_iconst (1 : Int32) dL_law_679 (k := ?_)
  refine kr_iadd dL_law_680 (k := ?_)
  refine kr_sld (fun _ _ h => h) i1 dL_law_681 (k := ?_)
  refine kn_callVi [.int (xs (nI i + 1).toNatClampNeg)] [.int x1] mvX8_dies lkM_L_103 (kg_o8a h8) rfl (kg_o8n h8) dL_law_682 (sp_X8_dies h8 (hm M1 (MI_rows hM hr1))) (fun x2 M2 h2 => ?_)
  obtain ⟨e2, hM2, hr2⟩ := h2
  exact kr_icmp_eq 972 dL_law_685 (fun _ => nx M2 R l0 s0 σ' (kg_LI_n h7 h8 hC1 hM2 hr2)) (fun c => absurd (e1.trans e2.symm) c)
set_option maxRecDepth 100000 in
set_option maxHeartbeats 4000000 in
theorem lc_22 {G : kg_G} {b L i : Nat} {xs : Nat → Int32} {M : kg_M} {R : kg_R} {l0 s0 : Nat} {σ : kS} {Post : kg_Post} (hL : L ≤ 192) (hi : i + 3 ≤ L) (hI : kg_LI M R l0 s0 σ) (nx : ∀ (M' : kg_M) (R' : kg_R) (l' s' : Nat) (σ' : kS), kg_LI M' R' l' s' σ' → kg_Run G (kg_EX G b L xs) qL_law 20 972 [(3, .int (nI i)), (2, .ref (kg_b G + 117)), (1, .ref (kg_b G + 0)), (0, .ref b)] [] M' R' 142 0 0 Post) {x : Int32} (hc : x = (22 : Int32)) : kg_Run G (kg_EX G b L xs) qL_law 20 32 [(3, .int (nI i)), (2, .ref (kg_b G + 117)), (1, .ref (kg_b G + 0)), (0, .ref b)] [.int x] M R 142 0 0 Post := by
  obtain ⟨h7, h8, hC, hM⟩ := hI
  have i1 : vp_in (nI i + 1) L := by rw [nI_1]; exact in_nI (by omega) (by omega)
  have i2 : vp_in (nI i + 2) L := by rw [show (2 : Int32) = nI 2 from rfl, nI_add]; exact in_nI (by omega) (by omega)
  obtain ⟨r, σ', hw, hm⟩ := p_oilFor (xs (nI i + 1).toNatClampNeg) hC
  refine kr_tableIn (off := 658) 690 dL_law_32 (by rw [hc]; decide) (by rw [hc]; decide) (by rw [hc]; decide) (by decide) ?_
  refine kr_aload_n 2 dL_law_690 rfl (k := ?_)
  refine kr_aload_n 3 dL_law_691 rfl (k := ?_)
  refine kr_iload_n 0 dL_law_692 rfl (k := ?_)
  refine kr_iconst (1 : Int32) dL_law_693 (k := ?_)
  refine kr_iadd dL_law_694 (k := ?_)
  refine kr_sld (fun _ _ h => h) i1 dL_law_695 (k := ?_)
  refine kn_callVi [.int (xs (nI i + 1).toNatClampNeg)] [] mvX7_oilFor lkM_L_104 (kg_o7a h7) rfl (kg_o7n h7) dL_law_696 (sp_X7_oilFor h7 hw) (fun x1 M1 h1 => ?_)
  obtain ⟨e1, hC1, hr1⟩ := h1
  refine kr_aload_n 1 dL_law_699 rfl (k := ?_)
  refine kr_aload_n 3 dL_law_700 rfl (k := ?_)
  refine kr_iload_n 0 dL_law_701 rfl (k := ?_)
  refine kr_iconst (1 : Int32) dL_law_702 (k := ?_)
  refine kr_iadd dL_law_703 (k := ?_)
  refine kr_sld (fun _ _ h => h) i1 dL_law_704 (k := ?_)
  refine kn_callVi [.int (xs (nI i + 1).toNatClampNeg)] [.int x1] mvX8_oilFor lkM_L_107 (kg_o8a h8) rfl (kg_o8n h8) dL_law_705 (sp_X8_oilFor h8 (hm M1 (MI_rows hM hr1))) (fun x2 M2 h2 => ?_)
  obtain ⟨e2, hM2, hr2⟩ := h2
  exact kr_icmp_eq 972 dL_law_708 (fun _ => nx M2 R l0 s0 σ' (kg_LI_n h7 h8 hC1 hM2 hr2)) (fun c => absurd (e1.trans e2.symm) c)
set_option maxRecDepth 100000 in
set_option maxHeartbeats 4000000 in
theorem lc_23 {G : kg_G} {b L i : Nat} {xs : Nat → Int32} {M : kg_M} {R : kg_R} {l0 s0 : Nat} {σ : kS} {Post : kg_Post} (hL : L ≤ 192) (hi : i + 3 ≤ L) (hI : kg_LI M R l0 s0 σ) (nx : ∀ (M' : kg_M) (R' : kg_R) (l' s' : Nat) (σ' : kS), kg_LI M' R' l' s' σ' → kg_Run G (kg_EX G b L xs) qL_law 20 972 [(3, .int (nI i)), (2, .ref (kg_b G + 117)), (1, .ref (kg_b G + 0)), (0, .ref b)] [] M' R' 142 0 0 Post) {x : Int32} (hc : x = (23 : Int32)) : kg_Run G (kg_EX G b L xs) qL_law 20 32 [(3, .int (nI i)), (2, .ref (kg_b G + 117)), (1, .ref (kg_b G + 0)), (0, .ref b)] [.int x] M R 142 0 0 Post := by
  obtain ⟨h7, h8, hC, hM⟩ := hI
  have i1 : vp_in (nI i + 1) L := by rw [nI_1]; exact in_nI (by omega) (by omega)
  have i2 : vp_in (nI i + 2) L := by rw [show (2 : Int32) = nI 2 from rfl, nI_add]; exact in_nI (by omega) (by omega)
  obtain ⟨r, σ', hw, hm⟩ := p_evening (xs (nI i + 1).toNatClampNeg) hC
  refine kr_tableIn (off := 681) 713 dL_law_32 (by rw [hc]; decide) (by rw [hc]; decide) (by rw [hc]; decide) (by decide) ?_
  refine kr_aload_n 2 dL_law_713 rfl (k := ?_)
  refine kr_aload_n 3 dL_law_714 rfl (k := ?_)
  refine kr_iload_n 0 dL_law_715 rfl (k := ?_)
  refine kr_iconst (1 : Int32) dL_law_716 (k := ?_)
  refine kr_iadd dL_law_717 (k := ?_)
  refine kr_sld (fun _ _ h => h) i1 dL_law_718 (k := ?_)
  refine kn_callVi [.int (xs (nI i + 1).toNatClampNeg)] [] mvX7_evening lkM_L_108 (kg_o7a h7) rfl (kg_o7n h7) dL_law_719 (sp_X7_evening h7 hw) (fun x1 M1 h1 => ?_)
  obtain ⟨e1, hC1, hr1⟩ := h1
  refine kr_aload_n 1 dL_law_722 rfl (k := ?_)
  refine kr_aload_n 3 dL_law_723 rfl (k := ?_)
  refine kr_iload_n 0 dL_law_724 rfl (k := ?_)
  refine kr_iconst (1 : Int32) dL_law_725 (k := ?_)
  refine kr_iadd dL_law_726 (k := ?_)
  refine kr_sld (fun _ _ h => h) i1 dL_law_727 (k := ?_)
  refine kn_callVi [.int (xs (nI i + 1).toNatClampNeg)] [.int x1] mvX8_evening lkM_L_111 (kg_o8a h8) rfl (kg_o8n h8) dL_law_728 (sp_X8_evening h8 (hm M1 (MI_rows hM hr1))) (fun x2 M2 h2 => ?_)
  obtain ⟨e2, hM2, hr2⟩ := h2
  exact kr_icmp_eq 972 dL_law_731 (fun _ => nx M2 R l0 s0 σ' (kg_LI_n h7 h8 hC1 hM2 hr2)) (fun c => absurd (e1.trans e2.symm) c)
set_option maxRecDepth 100000 in
set_option maxHeartbeats 4000000 in
theorem lc_24 {G : kg_G} {b L i : Nat} {xs : Nat → Int32} {M : kg_M} {R : kg_R} {l0 s0 : Nat} {σ : kS} {Post : kg_Post} (hL : L ≤ 192) (hi : i + 3 ≤ L) (hI : kg_LI M R l0 s0 σ) (nx : ∀ (M' : kg_M) (R' : kg_R) (l' s' : Nat) (σ' : kS), kg_LI M' R' l' s' σ' → kg_Run G (kg_EX G b L xs) qL_law 20 972 [(3, .int (nI i)), (2, .ref (kg_b G + 117)), (1, .ref (kg_b G + 0)), (0, .ref b)] [] M' R' 142 0 0 Post) {x : Int32} (hc : x = (24 : Int32)) : kg_Run G (kg_EX G b L xs) qL_law 20 32 [(3, .int (nI i)), (2, .ref (kg_b G + 117)), (1, .ref (kg_b G + 0)), (0, .ref b)] [.int x] M R 142 0 0 Post := by
  obtain ⟨h7, h8, hC, hM⟩ := hI
  have i1 : vp_in (nI i + 1) L := by rw [nI_1]; exact in_nI (by omega) (by omega)
  have i2 : vp_in (nI i + 2) L := by rw [show (2 : Int32) = nI 2 from rfl, nI_add]; exact in_nI (by omega) (by omega)
  obtain ⟨r, σ', hw, hm⟩ := p_dry (xs (nI i + 1).toNatClampNeg) (xs (nI i + 2).toNatClampNeg) hC
  refine kr_tableIn (off := 704) 736 dL_law_32 (by rw [hc]; decide) (by rw [hc]; decide) (by rw [hc]; decide) (by decide) ?_
  refine kr_aload_n 2 dL_law_736 rfl (k := ?_)
  refine kr_aload_n 3 dL_law_737 rfl (k := ?_)
  refine kr_iload_n 0 dL_law_738 rfl (k := ?_)
  refine kr_iconst (1 : Int32) dL_law_739 (k := ?_)
  refine kr_iadd dL_law_740 (k := ?_)
  refine kr_sld (fun _ _ h => h) i1 dL_law_741 (k := ?_)
  refine kr_aload_n 3 dL_law_742 rfl (k := ?_)
  refine kr_iload_n 0 dL_law_743 rfl (k := ?_)
  refine kr_iconst (2 : Int32) dL_law_744 (k := ?_)
  refine kr_iadd dL_law_745 (k := ?_)
  refine kr_sld (fun _ _ h => h) i2 dL_law_746 (k := ?_)
  refine kn_callVi [.int (xs (nI i + 1).toNatClampNeg), .int (xs (nI i + 2).toNatClampNeg)] [] mvX7_dry lkM_L_112 (kg_o7a h7) rfl (kg_o7n h7) dL_law_747 (sp_X7_dry h7 hw) (fun x1 M1 h1 => ?_)
  obtain ⟨e1, hC1, hr1⟩ := h1
  refine kr_aload_n 1 dL_law_750 rfl (k := ?_)
  refine kr_aload_n 3 dL_law_751 rfl (k := ?_)
  refine kr_iload_n 0 dL_law_752 rfl (k := ?_)
  refine kr_iconst (1 : Int32) dL_law_753 (k := ?_)
  refine kr_iadd dL_law_754 (k := ?_)
  refine kr_sld (fun _ _ h => h) i1 dL_law_755 (k := ?_)
  refine kr_aload_n 3 dL_law_756 rfl (k := ?_)
  refine kr_iload_n 0 dL_law_757 rfl (k := ?_)
  refine kr_iconst (2 : Int32) dL_law_758 (k := ?_)
  refine kr_iadd dL_law_759 (k := ?_)
  refine kr_sld (fun _ _ h => h) i2 dL_law_760 (k := ?_)
  refine kn_callVi [.int (xs (nI i + 1).toNatClampNeg), .int (xs (nI i + 2).toNatClampNeg)] [.int x1] mvX8_dry lkM_L_115 (kg_o8a h8) rfl (kg_o8n h8) dL_law_761 (sp_X8_dry h8 (hm M1 (MI_rows hM hr1))) (fun x2 M2 h2 => ?_)
  obtain ⟨e2, hM2, hr2⟩ := h2
  exact kr_icmp_eq 972 dL_law_764 (fun _ => nx M2 R l0 s0 σ' (kg_LI_n h7 h8 hC1 hM2 hr2)) (fun c => absurd (e1.trans e2.symm) c)
set_option maxRecDepth 100000 in
set_option maxHeartbeats 4000000 in
theorem lc_25 {G : kg_G} {b L i : Nat} {xs : Nat → Int32} {M : kg_M} {R : kg_R} {l0 s0 : Nat} {σ : kS} {Post : kg_Post} (hL : L ≤ 192) (hi : i + 3 ≤ L) (hI : kg_LI M R l0 s0 σ) (nx : ∀ (M' : kg_M) (R' : kg_R) (l' s' : Nat) (σ' : kS), kg_LI M' R' l' s' σ' → kg_Run G (kg_EX G b L xs) qL_law 20 972 [(3, .int (nI i)), (2, .ref (kg_b G + 117)), (1, .ref (kg_b G + 0)), (0, .ref b)] [] M' R' 142 0 0 Post) {x : Int32} (hc : x = (25 : Int32)) : kg_Run G (kg_EX G b L xs) qL_law 20 32 [(3, .int (nI i)), (2, .ref (kg_b G + 117)), (1, .ref (kg_b G + 0)), (0, .ref b)] [.int x] M R 142 0 0 Post := by
  obtain ⟨h7, h8, hC, hM⟩ := hI
  have i1 : vp_in (nI i + 1) L := by rw [nI_1]; exact in_nI (by omega) (by omega)
  have i2 : vp_in (nI i + 2) L := by rw [show (2 : Int32) = nI 2 from rfl, nI_add]; exact in_nI (by omega) (by omega)
  refine kr_tableIn (off := 737) 769 dL_law_32 (by rw [hc]; decide) (by rw [hc]; decide) (by rw [hc]; decide) (by decide) ?_
  refine kr_aload_n 2 dL_law_769 rfl (k := ?_)
  refine kr_aload_n 3 dL_law_770 rfl (k := ?_)
  refine kr_iload_n 0 dL_law_771 rfl (k := ?_)
  refine kr_iconst (1 : Int32) dL_law_772 (k := ?_)
  refine kr_iadd dL_law_773 (k := ?_)
  refine kr_sld (fun _ _ h => h) i1 dL_law_774 (k := ?_)
  refine kr_aload_n 3 dL_law_775 rfl (k := ?_)
  refine kr_iload_n 0 dL_law_776 rfl (k := ?_)
  refine kr_iconst (2 : Int32) dL_law_777 (k := ?_)
  refine kr_iadd dL_law_778 (k := ?_)
  refine kr_sld (fun _ _ h => h) i2 dL_law_779 (k := ?_)
  refine kr_if_eq 787 dL_law_780 (fun ce => ?_) (fun ce => ?_)
  · refine kr_iconst (0 : Int32) dL_law_787 (k := ?_)
    obtain ⟨r, σ', hw, hm⟩ := p_ill (xs (nI i + 1).toNatClampNeg) (0 : Int32) (Or.inl rfl) hC
    refine kn_callVi [.int (xs (nI i + 1).toNatClampNeg), .int (0 : Int32)] [] mvX7_ill lkM_L_116 (kg_o7a h7) rfl (kg_o7n h7) dL_law_788 (sp_X7_ill h7 hw) (fun x1 M1 h1 => ?_)
    obtain ⟨e1, hC1, hr1⟩ := h1
    refine kr_aload_n 1 dL_law_791 rfl (k := ?_)
    refine kr_aload_n 3 dL_law_792 rfl (k := ?_)
    refine kr_iload_n 0 dL_law_793 rfl (k := ?_)
    refine kr_iconst (1 : Int32) dL_law_794 (k := ?_)
    refine kr_iadd dL_law_795 (k := ?_)
    refine kr_sld (fun _ _ h => h) i1 dL_law_796 (k := ?_)
    refine kr_aload_n 3 dL_law_797 rfl (k := ?_)
    refine kr_iload_n 0 dL_law_798 rfl (k := ?_)
    refine kr_iconst (2 : Int32) dL_law_799 (k := ?_)
    refine kr_iadd dL_law_800 (k := ?_)
    refine kr_sld (fun _ _ h => h) i2 dL_law_801 (k := ?_)
    refine kr_if_eq 809 dL_law_802 (fun _ => ?_) (fun c2 => absurd ce c2)
    refine kr_iconst (0 : Int32) dL_law_809 (k := ?_)
    refine kn_callVi [.int (xs (nI i + 1).toNatClampNeg), .int (0 : Int32)] [.int x1] mvX8_ill lkM_L_120 (kg_o8a h8) rfl (kg_o8n h8) dL_law_810 (sp_X8_ill h8 (hm M1 (MI_rows hM hr1))) (fun x2 M2 h2 => ?_)
    obtain ⟨e2, hM2, hr2⟩ := h2
    exact kr_icmp_eq 972 dL_law_813 (fun _ => nx M2 R l0 s0 σ' (kg_LI_n h7 h8 hC1 hM2 hr2)) (fun c => absurd (e1.trans e2.symm) c)
  · refine kr_iconst (1 : Int32) dL_law_783 (k := ?_)
    refine kr_goto 788 dL_law_784 ?_
    obtain ⟨r, σ', hw, hm⟩ := p_ill (xs (nI i + 1).toNatClampNeg) (1 : Int32) (Or.inr rfl) hC
    refine kn_callVi [.int (xs (nI i + 1).toNatClampNeg), .int (1 : Int32)] [] mvX7_ill lkM_L_116 (kg_o7a h7) rfl (kg_o7n h7) dL_law_788 (sp_X7_ill h7 hw) (fun x1 M1 h1 => ?_)
    obtain ⟨e1, hC1, hr1⟩ := h1
    refine kr_aload_n 1 dL_law_791 rfl (k := ?_)
    refine kr_aload_n 3 dL_law_792 rfl (k := ?_)
    refine kr_iload_n 0 dL_law_793 rfl (k := ?_)
    refine kr_iconst (1 : Int32) dL_law_794 (k := ?_)
    refine kr_iadd dL_law_795 (k := ?_)
    refine kr_sld (fun _ _ h => h) i1 dL_law_796 (k := ?_)
    refine kr_aload_n 3 dL_law_797 rfl (k := ?_)
    refine kr_iload_n 0 dL_law_798 rfl (k := ?_)
    refine kr_iconst (2 : Int32) dL_law_799 (k := ?_)
    refine kr_iadd dL_law_800 (k := ?_)
    refine kr_sld (fun _ _ h => h) i2 dL_law_801 (k := ?_)
    refine kr_if_eq 809 dL_law_802 (fun c2 => absurd c2 ce) (fun _ => ?_)
    refine kr_iconst (1 : Int32) dL_law_805 (k := ?_)
    refine kr_goto 810 dL_law_806 ?_
    refine kn_callVi [.int (xs (nI i + 1).toNatClampNeg), .int (1 : Int32)] [.int x1] mvX8_ill lkM_L_120 (kg_o8a h8) rfl (kg_o8n h8) dL_law_810 (sp_X8_ill h8 (hm M1 (MI_rows hM hr1))) (fun x2 M2 h2 => ?_)
    obtain ⟨e2, hM2, hr2⟩ := h2
    exact kr_icmp_eq 972 dL_law_813 (fun _ => nx M2 R l0 s0 σ' (kg_LI_n h7 h8 hC1 hM2 hr2)) (fun c => absurd (e1.trans e2.symm) c)
set_option maxRecDepth 100000 in
set_option maxHeartbeats 4000000 in
theorem lc_26 {G : kg_G} {b L i : Nat} {xs : Nat → Int32} {M : kg_M} {R : kg_R} {l0 s0 : Nat} {σ : kS} {Post : kg_Post} (hL : L ≤ 192) (hi : i + 3 ≤ L) (hI : kg_LI M R l0 s0 σ) (nx : ∀ (M' : kg_M) (R' : kg_R) (l' s' : Nat) (σ' : kS), kg_LI M' R' l' s' σ' → kg_Run G (kg_EX G b L xs) qL_law 20 972 [(3, .int (nI i)), (2, .ref (kg_b G + 117)), (1, .ref (kg_b G + 0)), (0, .ref b)] [] M' R' 142 0 0 Post) {x : Int32} (hc : x = (26 : Int32)) : kg_Run G (kg_EX G b L xs) qL_law 20 32 [(3, .int (nI i)), (2, .ref (kg_b G + 117)), (1, .ref (kg_b G + 0)), (0, .ref b)] [.int x] M R 142 0 0 Post := by
  obtain ⟨h7, h8, hC, hM⟩ := hI
  have i1 : vp_in (nI i + 1) L := by rw [nI_1]; exact in_nI (by omega) (by omega)
  have i2 : vp_in (nI i + 2) L := by rw [show (2 : Int32) = nI 2 from rfl, nI_add]; exact in_nI (by omega) (by omega)
  obtain ⟨r, σ', hw, hm⟩ := p_mayBe  hC
  refine kr_tableIn (off := 786) 818 dL_law_32 (by rw [hc]; decide) (by rw [hc]; decide) (by rw [hc]; decide) (by decide) ?_
  refine kr_aload_n 2 dL_law_818 rfl (k := ?_)
  refine kn_callVi [] [] mvX7_mayBe lkM_L_121 (kg_o7a h7) rfl (kg_o7n h7) dL_law_819 (sp_X7_mayBe h7 hw) (fun x1 M1 h1 => ?_)
  obtain ⟨e1, hC1, hr1⟩ := h1
  refine kr_aload_n 1 dL_law_822 rfl (k := ?_)
  refine kn_callVi [] [.int x1] mvX8_mayBe lkM_L_124 (kg_o8a h8) rfl (kg_o8n h8) dL_law_823 (sp_X8_mayBe h8 (hm M1 (MI_rows hM hr1))) (fun x2 M2 h2 => ?_)
  obtain ⟨e2, hM2, hr2⟩ := h2
  exact kr_icmp_eq 972 dL_law_826 (fun _ => nx M2 R l0 s0 σ' (kg_LI_n h7 h8 hC1 hM2 hr2)) (fun c => absurd (e1.trans e2.symm) c)
set_option maxRecDepth 100000 in
set_option maxHeartbeats 4000000 in
theorem lc_27 {G : kg_G} {b L i : Nat} {xs : Nat → Int32} {M : kg_M} {R : kg_R} {l0 s0 : Nat} {σ : kS} {Post : kg_Post} (hL : L ≤ 192) (hi : i + 3 ≤ L) (hI : kg_LI M R l0 s0 σ) (nx : ∀ (M' : kg_M) (R' : kg_R) (l' s' : Nat) (σ' : kS), kg_LI M' R' l' s' σ' → kg_Run G (kg_EX G b L xs) qL_law 20 972 [(3, .int (nI i)), (2, .ref (kg_b G + 117)), (1, .ref (kg_b G + 0)), (0, .ref b)] [] M' R' 142 0 0 Post) {x : Int32} (hc : x = (27 : Int32)) : kg_Run G (kg_EX G b L xs) qL_law 20 32 [(3, .int (nI i)), (2, .ref (kg_b G + 117)), (1, .ref (kg_b G + 0)), (0, .ref b)] [.int x] M R 142 0 0 Post := by
  obtain ⟨h7, h8, hC, hM⟩ := hI
  have i1 : vp_in (nI i + 1) L := by rw [nI_1]; exact in_nI (by omega) (by omega)
  have i2 : vp_in (nI i + 2) L := by rw [show (2 : Int32) = nI 2 from rfl, nI_add]; exact in_nI (by omega) (by omega)
  obtain ⟨r, σ', hw, hm⟩ := p_ask  hC
  refine kr_tableIn (off := 799) 831 dL_law_32 (by rw [hc]; decide) (by rw [hc]; decide) (by rw [hc]; decide) (by decide) ?_
  refine kr_aload_n 2 dL_law_831 rfl (k := ?_)
  refine kn_callVi [] [] mvX7_ask lkM_L_125 (kg_o7a h7) rfl (kg_o7n h7) dL_law_832 (sp_X7_ask h7 hw) (fun x1 M1 h1 => ?_)
  obtain ⟨e1, hC1, hr1⟩ := h1
  refine kr_aload_n 1 dL_law_835 rfl (k := ?_)
  refine kn_callVi [] [.int x1] mvX8_ask lkM_L_128 (kg_o8a h8) rfl (kg_o8n h8) dL_law_836 (sp_X8_ask h8 (hm M1 (MI_rows hM hr1))) (fun x2 M2 h2 => ?_)
  obtain ⟨e2, hM2, hr2⟩ := h2
  exact kr_icmp_eq 972 dL_law_839 (fun _ => nx M2 R l0 s0 σ' (kg_LI_n h7 h8 hC1 hM2 hr2)) (fun c => absurd (e1.trans e2.symm) c)
set_option maxRecDepth 100000 in
set_option maxHeartbeats 4000000 in
theorem lc_28 {G : kg_G} {b L i : Nat} {xs : Nat → Int32} {M : kg_M} {R : kg_R} {l0 s0 : Nat} {σ : kS} {Post : kg_Post} (hL : L ≤ 192) (hi : i + 3 ≤ L) (hI : kg_LI M R l0 s0 σ) (nx : ∀ (M' : kg_M) (R' : kg_R) (l' s' : Nat) (σ' : kS), kg_LI M' R' l' s' σ' → kg_Run G (kg_EX G b L xs) qL_law 20 972 [(3, .int (nI i)), (2, .ref (kg_b G + 117)), (1, .ref (kg_b G + 0)), (0, .ref b)] [] M' R' 142 0 0 Post) {x : Int32} (hc : x = (28 : Int32)) : kg_Run G (kg_EX G b L xs) qL_law 20 32 [(3, .int (nI i)), (2, .ref (kg_b G + 117)), (1, .ref (kg_b G + 0)), (0, .ref b)] [.int x] M R 142 0 0 Post := by
  obtain ⟨h7, h8, hC, hM⟩ := hI
  have i1 : vp_in (nI i + 1) L := by rw [nI_1]; exact in_nI (by omega) (by omega)
  have i2 : vp_in (nI i + 2) L := by rw [show (2 : Int32) = nI 2 from rfl, nI_add]; exact in_nI (by omega) (by omega)
  obtain ⟨r, σ', hw, hm⟩ := p_write (xs (nI i + 1).toNatClampNeg) (xs (nI i + 2).toNatClampNeg) hC
  refine kr_tableIn (off := 812) 844 dL_law_32 (by rw [hc]; decide) (by rw [hc]; decide) (by rw [hc]; decide) (by decide) ?_
  refine kr_aload_n 2 dL_law_844 rfl (k := ?_)
  refine kr_aload_n 3 dL_law_845 rfl (k := ?_)
  refine kr_iload_n 0 dL_law_846 rfl (k := ?_)
  refine kr_iconst (1 : Int32) dL_law_847 (k := ?_)
  refine kr_iadd dL_law_848 (k := ?_)
  refine kr_sld (fun _ _ h => h) i1 dL_law_849 (k := ?_)
  refine kr_aload_n 3 dL_law_850 rfl (k := ?_)
  refine kr_iload_n 0 dL_law_851 rfl (k := ?_)
  refine kr_iconst (2 : Int32) dL_law_852 (k := ?_)
  refine kr_iadd dL_law_853 (k := ?_)
  refine kr_sld (fun _ _ h => h) i2 dL_law_854 (k := ?_)
  refine kn_callVi [.int (xs (nI i + 1).toNatClampNeg), .int (xs (nI i + 2).toNatClampNeg)] [] mvX7_write lkM_L_129 (kg_o7a h7) rfl (kg_o7n h7) dL_law_855 (sp_X7_write h7 hw) (fun x1 M1 h1 => ?_)
  obtain ⟨e1, hC1, hr1⟩ := h1
  refine kr_aload_n 1 dL_law_858 rfl (k := ?_)
  refine kr_aload_n 3 dL_law_859 rfl (k := ?_)
  refine kr_iload_n 0 dL_law_860 rfl (k := ?_)
  refine kr_iconst (1 : Int32) dL_law_861 (k := ?_)
  refine kr_iadd dL_law_862 (k := ?_)
  refine kr_sld (fun _ _ h => h) i1 dL_law_863 (k := ?_)
  refine kr_aload_n 3 dL_law_864 rfl (k := ?_)
  refine kr_iload_n 0 dL_law_865 rfl (k := ?_)
  refine kr_iconst (2 : Int32) dL_law_866 (k := ?_)
  refine kr_iadd dL_law_867 (k := ?_)
  refine kr_sld (fun _ _ h => h) i2 dL_law_868 (k := ?_)
  refine kn_callVi [.int (xs (nI i + 1).toNatClampNeg), .int (xs (nI i + 2).toNatClampNeg)] [.int x1] mvX8_write lkM_L_132 (kg_o8a h8) rfl (kg_o8n h8) dL_law_869 (sp_X8_write h8 (hm M1 (MI_rows hM hr1))) (fun x2 M2 h2 => ?_)
  obtain ⟨e2, hM2, hr2⟩ := h2
  exact kr_icmp_eq 972 dL_law_872 (fun _ => nx M2 R l0 s0 σ' (kg_LI_n h7 h8 hC1 hM2 hr2)) (fun c => absurd (e1.trans e2.symm) c)
set_option maxRecDepth 100000 in
set_option maxHeartbeats 4000000 in
theorem lc_29 {G : kg_G} {b L i : Nat} {xs : Nat → Int32} {M : kg_M} {R : kg_R} {l0 s0 : Nat} {σ : kS} {Post : kg_Post} (hL : L ≤ 192) (hi : i + 3 ≤ L) (hI : kg_LI M R l0 s0 σ) (nx : ∀ (M' : kg_M) (R' : kg_R) (l' s' : Nat) (σ' : kS), kg_LI M' R' l' s' σ' → kg_Run G (kg_EX G b L xs) qL_law 20 972 [(3, .int (nI i)), (2, .ref (kg_b G + 117)), (1, .ref (kg_b G + 0)), (0, .ref b)] [] M' R' 142 0 0 Post) {x : Int32} (hc : x = (29 : Int32)) : kg_Run G (kg_EX G b L xs) qL_law 20 32 [(3, .int (nI i)), (2, .ref (kg_b G + 117)), (1, .ref (kg_b G + 0)), (0, .ref b)] [.int x] M R 142 0 0 Post := by
  obtain ⟨h7, h8, hC, hM⟩ := hI
  have i1 : vp_in (nI i + 1) L := by rw [nI_1]; exact in_nI (by omega) (by omega)
  have i2 : vp_in (nI i + 2) L := by rw [show (2 : Int32) = nI 2 from rfl, nI_add]; exact in_nI (by omega) (by omega)
  obtain ⟨r, σ', hw, hm⟩ := p_tear  hC
  refine kr_tableIn (off := 845) 877 dL_law_32 (by rw [hc]; decide) (by rw [hc]; decide) (by rw [hc]; decide) (by decide) ?_
  refine kr_aload_n 2 dL_law_877 rfl (k := ?_)
  refine kn_callVi [] [] mvX7_tear lkM_L_133 (kg_o7a h7) rfl (kg_o7n h7) dL_law_878 (sp_X7_tear h7 hw) (fun x1 M1 h1 => ?_)
  obtain ⟨e1, hC1, hr1⟩ := h1
  refine kr_aload_n 1 dL_law_881 rfl (k := ?_)
  refine kn_callVi [] [.int x1] mvX8_tear lkM_L_136 (kg_o8a h8) rfl (kg_o8n h8) dL_law_882 (sp_X8_tear h8 (hm M1 (MI_rows hM hr1))) (fun x2 M2 h2 => ?_)
  obtain ⟨e2, hM2, hr2⟩ := h2
  exact kr_icmp_eq 972 dL_law_885 (fun _ => nx M2 R l0 s0 σ' (kg_LI_n h7 h8 hC1 hM2 hr2)) (fun c => absurd (e1.trans e2.symm) c)
set_option maxRecDepth 100000 in
set_option maxHeartbeats 4000000 in
theorem lc_30 {G : kg_G} {b L i : Nat} {xs : Nat → Int32} {M : kg_M} {R : kg_R} {l0 s0 : Nat} {σ : kS} {Post : kg_Post} (hL : L ≤ 192) (hi : i + 3 ≤ L) (hI : kg_LI M R l0 s0 σ) (nx : ∀ (M' : kg_M) (R' : kg_R) (l' s' : Nat) (σ' : kS), kg_LI M' R' l' s' σ' → kg_Run G (kg_EX G b L xs) qL_law 20 972 [(3, .int (nI i)), (2, .ref (kg_b G + 117)), (1, .ref (kg_b G + 0)), (0, .ref b)] [] M' R' 142 0 0 Post) {x : Int32} (hc : x = (30 : Int32)) : kg_Run G (kg_EX G b L xs) qL_law 20 32 [(3, .int (nI i)), (2, .ref (kg_b G + 117)), (1, .ref (kg_b G + 0)), (0, .ref b)] [.int x] M R 142 0 0 Post := by
  obtain ⟨h7, h8, hC, hM⟩ := hI
  have i1 : vp_in (nI i + 1) L := by rw [nI_1]; exact in_nI (by omega) (by omega)
  have i2 : vp_in (nI i + 2) L := by rw [show (2 : Int32) = nI 2 from rfl, nI_add]; exact in_nI (by omega) (by omega)
  obtain ⟨r, σ', hw, hm⟩ := p_judge  hC
  refine kr_tableIn (off := 858) 890 dL_law_32 (by rw [hc]; decide) (by rw [hc]; decide) (by rw [hc]; decide) (by decide) ?_
  refine kr_aload_n 2 dL_law_890 rfl (k := ?_)
  refine kn_callVi [] [] mvX7_judge lkM_L_137 (kg_o7a h7) rfl (kg_o7n h7) dL_law_891 (sp_X7_judge h7 hw) (fun x1 M1 h1 => ?_)
  obtain ⟨e1, hC1, hr1⟩ := h1
  refine kr_aload_n 1 dL_law_894 rfl (k := ?_)
  refine kn_callVi [] [.int x1] mvX8_judge lkM_L_140 (kg_o8a h8) rfl (kg_o8n h8) dL_law_895 (sp_X8_judge h8 (hm M1 (MI_rows hM hr1))) (fun x2 M2 h2 => ?_)
  obtain ⟨e2, hM2, hr2⟩ := h2
  exact kr_icmp_eq 972 dL_law_898 (fun _ => nx M2 R l0 s0 σ' (kg_LI_n h7 h8 hC1 hM2 hr2)) (fun c => absurd (e1.trans e2.symm) c)
set_option maxRecDepth 100000 in
set_option maxHeartbeats 4000000 in
theorem lc_31 {G : kg_G} {b L i : Nat} {xs : Nat → Int32} {M : kg_M} {R : kg_R} {l0 s0 : Nat} {σ : kS} {Post : kg_Post} (hL : L ≤ 192) (hi : i + 3 ≤ L) (hI : kg_LI M R l0 s0 σ) (nx : ∀ (M' : kg_M) (R' : kg_R) (l' s' : Nat) (σ' : kS), kg_LI M' R' l' s' σ' → kg_Run G (kg_EX G b L xs) qL_law 20 972 [(3, .int (nI i)), (2, .ref (kg_b G + 117)), (1, .ref (kg_b G + 0)), (0, .ref b)] [] M' R' 142 0 0 Post) {x : Int32} (hc : x = (31 : Int32)) : kg_Run G (kg_EX G b L xs) qL_law 20 32 [(3, .int (nI i)), (2, .ref (kg_b G + 117)), (1, .ref (kg_b G + 0)), (0, .ref b)] [.int x] M R 142 0 0 Post := by
  obtain ⟨h7, h8, hC, hM⟩ := hI
  have i1 : vp_in (nI i + 1) L := by rw [nI_1]; exact in_nI (by omega) (by omega)
  have i2 : vp_in (nI i + 2) L := by rw [show (2 : Int32) = nI 2 from rfl, nI_add]; exact in_nI (by omega) (by omega)
  obtain ⟨r, σ', hw, hm⟩ := p_seed (xs (nI i + 1).toNatClampNeg) hC
  refine kr_tableIn (off := 871) 903 dL_law_32 (by rw [hc]; decide) (by rw [hc]; decide) (by rw [hc]; decide) (by decide) ?_
  refine kr_aload_n 2 dL_law_903 rfl (k := ?_)
  refine kr_aload_n 3 dL_law_904 rfl (k := ?_)
  refine kr_iload_n 0 dL_law_905 rfl (k := ?_)
  refine kr_iconst (1 : Int32) dL_law_906 (k := ?_)
  refine kr_iadd dL_law_907 (k := ?_)
  refine kr_sld (fun _ _ h => h) i1 dL_law_908 (k := ?_)
  refine kn_callVi [.int (xs (nI i + 1).toNatClampNeg)] [] mvX7_seed lkM_L_141 (kg_o7a h7) rfl (kg_o7n h7) dL_law_909 (sp_X7_seed h7 hw) (fun x1 M1 h1 => ?_)
  obtain ⟨e1, hC1, hr1⟩ := h1
  refine kr_aload_n 1 dL_law_912 rfl (k := ?_)
  refine kr_aload_n 3 dL_law_913 rfl (k := ?_)
  refine kr_iload_n 0 dL_law_914 rfl (k := ?_)
  refine kr_iconst (1 : Int32) dL_law_915 (k := ?_)
  refine kr_iadd dL_law_916 (k := ?_)
  refine kr_sld (fun _ _ h => h) i1 dL_law_917 (k := ?_)
  refine kn_callVi [.int (xs (nI i + 1).toNatClampNeg)] [.int x1] mvX8_seed lkM_L_144 (kg_o8a h8) rfl (kg_o8n h8) dL_law_918 (sp_X8_seed h8 (hm M1 (MI_rows hM hr1))) (fun x2 M2 h2 => ?_)
  obtain ⟨e2, hM2, hr2⟩ := h2
  exact kr_icmp_eq 972 dL_law_921 (fun _ => nx M2 R l0 s0 σ' (kg_LI_n h7 h8 hC1 hM2 hr2)) (fun c => absurd (e1.trans e2.symm) c)
set_option maxRecDepth 100000 in
set_option maxHeartbeats 4000000 in
theorem lc_32 {G : kg_G} {b L i : Nat} {xs : Nat → Int32} {M : kg_M} {R : kg_R} {l0 s0 : Nat} {σ : kS} {Post : kg_Post} (hL : L ≤ 192) (hi : i + 3 ≤ L) (hI : kg_LI M R l0 s0 σ) (nx : ∀ (M' : kg_M) (R' : kg_R) (l' s' : Nat) (σ' : kS), kg_LI M' R' l' s' σ' → kg_Run G (kg_EX G b L xs) qL_law 20 972 [(3, .int (nI i)), (2, .ref (kg_b G + 117)), (1, .ref (kg_b G + 0)), (0, .ref b)] [] M' R' 142 0 0 Post) {x : Int32} (hc : x = (32 : Int32)) : kg_Run G (kg_EX G b L xs) qL_law 20 32 [(3, .int (nI i)), (2, .ref (kg_b G + 117)), (1, .ref (kg_b G + 0)), (0, .ref b)] [.int x] M R 142 0 0 Post := by
  obtain ⟨h7, h8, hC, hM⟩ := hI
  have i1 : vp_in (nI i + 1) L := by rw [nI_1]; exact in_nI (by omega) (by omega)
  have i2 : vp_in (nI i + 2) L := by rw [show (2 : Int32) = nI 2 from rfl, nI_add]; exact in_nI (by omega) (by omega)
  obtain ⟨r, σ', hw, hm⟩ := p_keep (xs (nI i + 1).toNatClampNeg) hC
  refine kr_tableIn (off := 894) 926 dL_law_32 (by rw [hc]; decide) (by rw [hc]; decide) (by rw [hc]; decide) (by decide) ?_
  refine kr_aload_n 2 dL_law_926 rfl (k := ?_)
  refine kr_aload_n 3 dL_law_927 rfl (k := ?_)
  refine kr_iload_n 0 dL_law_928 rfl (k := ?_)
  refine kr_iconst (1 : Int32) dL_law_929 (k := ?_)
  refine kr_iadd dL_law_930 (k := ?_)
  refine kr_sld (fun _ _ h => h) i1 dL_law_931 (k := ?_)
  refine kn_callVi [.int (xs (nI i + 1).toNatClampNeg)] [] mvX7_keep lkM_L_145 (kg_o7a h7) rfl (kg_o7n h7) dL_law_932 (sp_X7_keep h7 nhn hw) (fun x1 M1 h1 => ?_)
  obtain ⟨e1, hC1, hr1⟩ := h1
  refine kr_aload_n 1 dL_law_935 rfl (k := ?_)
  refine kr_aload_n 3 dL_law_936 rfl (k := ?_)
  refine kr_iload_n 0 dL_law_937 rfl (k := ?_)
  refine kr_iconst (1 : Int32) dL_law_938 (k := ?_)
  refine kr_iadd dL_law_939 (k := ?_)
  refine kr_sld (fun _ _ h => h) i1 dL_law_940 (k := ?_)
  refine kn_callVi [.int (xs (nI i + 1).toNatClampNeg)] [.int x1] mvX8_keep lkM_L_148 (kg_o8a h8) rfl (kg_o8n h8) dL_law_941 (sp_X8_keep h8 (hm M1 (MI_rows hM hr1))) (fun x2 M2 h2 => ?_)
  obtain ⟨e2, hM2, hr2⟩ := h2
  exact kr_icmp_eq 972 dL_law_944 (fun _ => nx M2 R l0 s0 σ' (kg_LI_n h7 h8 hC1 hM2 hr2)) (fun c => absurd (e1.trans e2.symm) c)
set_option maxRecDepth 100000 in
set_option maxHeartbeats 4000000 in
theorem lc_33 {G : kg_G} {b L i : Nat} {xs : Nat → Int32} {M : kg_M} {R : kg_R} {l0 s0 : Nat} {σ : kS} {Post : kg_Post} (hL : L ≤ 192) (hi : i + 3 ≤ L) (hI : kg_LI M R l0 s0 σ) (nx : ∀ (M' : kg_M) (R' : kg_R) (l' s' : Nat) (σ' : kS), kg_LI M' R' l' s' σ' → kg_Run G (kg_EX G b L xs) qL_law 20 972 [(3, .int (nI i)), (2, .ref (kg_b G + 117)), (1, .ref (kg_b G + 0)), (0, .ref b)] [] M' R' 142 0 0 Post) {x : Int32} (hc : x = (33 : Int32)) : kg_Run G (kg_EX G b L xs) qL_law 20 32 [(3, .int (nI i)), (2, .ref (kg_b G + 117)), (1, .ref (kg_b G + 0)), (0, .ref b)] [.int x] M R 142 0 0 Post := by
  obtain ⟨h7, h8, hC, hM⟩ := hI
  have i1 : vp_in (nI i + 1) L := by rw [nI_1]; exact in_nI (by omega) (by omega)
  have i2 : vp_in (nI i + 2) L := by rw [show (2 : Int32) = nI 2 from rfl, nI_add]; exact in_nI (by omega) (by omega)
  obtain ⟨r, σ', hw, hm⟩ := p_goBack (xs (nI i + 1).toNatClampNeg) hC
  refine kr_tableIn (off := 917) 949 dL_law_32 (by rw [hc]; decide) (by rw [hc]; decide) (by rw [hc]; decide) (by decide) ?_
  refine kr_aload_n 2 dL_law_949 rfl (k := ?_)
  refine kr_aload_n 3 dL_law_950 rfl (k := ?_)
  refine kr_iload_n 0 dL_law_951 rfl (k := ?_)
  refine kr_iconst (1 : Int32) dL_law_952 (k := ?_)
  refine kr_iadd dL_law_953 (k := ?_)
  refine kr_sld (fun _ _ h => h) i1 dL_law_954 (k := ?_)
  refine kn_callVi [.int (xs (nI i + 1).toNatClampNeg)] [] mvX7_goBack lkM_L_149 (kg_o7a h7) rfl (kg_o7n h7) dL_law_955 (sp_X7_goBack h7 nhn hw) (fun x1 M1 h1 => ?_)
  obtain ⟨e1, hC1, hr1⟩ := h1
  refine kr_aload_n 1 dL_law_958 rfl (k := ?_)
  refine kr_aload_n 3 dL_law_959 rfl (k := ?_)
  refine kr_iload_n 0 dL_law_960 rfl (k := ?_)
  refine kr_iconst (1 : Int32) dL_law_961 (k := ?_)
  refine kr_iadd dL_law_962 (k := ?_)
  refine kr_sld (fun _ _ h => h) i1 dL_law_963 (k := ?_)
  refine kn_callVi [.int (xs (nI i + 1).toNatClampNeg)] [.int x1] mvX8_goBack lkM_L_152 (kg_o8a h8) rfl (kg_o8n h8) dL_law_964 (sp_X8_goBack h8 (hm M1 (MI_rows hM hr1))) (fun x2 M2 h2 => ?_)
  obtain ⟨e2, hM2, hr2⟩ := h2
  exact kr_icmp_eq 972 dL_law_967 (fun _ => nx M2 R l0 s0 σ' (kg_LI_n h7 h8 hC1 hM2 hr2)) (fun c => absurd (e1.trans e2.symm) c)
set_option maxRecDepth 100000 in
set_option maxHeartbeats 4000000 in
theorem lc_d {G : kg_G} {b L i : Nat} {xs : Nat → Int32} {M : kg_M} {R : kg_R} {l0 s0 : Nat} {σ : kS} {Post : kg_Post} (hL : L ≤ 192) (hi : i + 3 ≤ L) (hI : kg_LI M R l0 s0 σ) (nx : ∀ (M' : kg_M) (R' : kg_R) (l' s' : Nat) (σ' : kS), kg_LI M' R' l' s' σ' → kg_Run G (kg_EX G b L xs) qL_law 20 972 [(3, .int (nI i)), (2, .ref (kg_b G + 117)), (1, .ref (kg_b G + 0)), (0, .ref b)] [] M' R' 142 0 0 Post) {x : Int32} (hc : x.toInt < 0 ∨ 33 < x.toInt) : kg_Run G (kg_EX G b L xs) qL_law 20 32 [(3, .int (nI i)), (2, .ref (kg_b G + 117)), (1, .ref (kg_b G + 0)), (0, .ref b)] [.int x] M R 142 0 0 Post := kr_tableOut 972 dL_law_32 hc (by decide) (nx M R l0 s0 σ hI)
theorem lc_all {G : kg_G} {b L i : Nat} {xs : Nat → Int32} {M : kg_M} {R : kg_R} {l0 s0 : Nat} {σ : kS} {Post : kg_Post} (hL : L ≤ 192) (hi : i + 3 ≤ L) (hI : kg_LI M R l0 s0 σ) (nx : ∀ (M' : kg_M) (R' : kg_R) (l' s' : Nat) (σ' : kS), kg_LI M' R' l' s' σ' → kg_Run G (kg_EX G b L xs) qL_law 20 972 [(3, .int (nI i)), (2, .ref (kg_b G + 117)), (1, .ref (kg_b G + 0)), (0, .ref b)] [] M' R' 142 0 0 Post) (x : Int32) : kg_Run G (kg_EX G b L xs) qL_law 20 32 [(3, .int (nI i)), (2, .ref (kg_b G + 117)), (1, .ref (kg_b G + 0)), (0, .ref b)] [.int x] M R 142 0 0 Post := by
  by_cases hr : x.toInt < 0 ∨ 33 < x.toInt
  · exact lc_d hL hi hI nx hr
  · obtain ⟨k, hk, e⟩ : ∃ k : Nat, k < 34 ∧ x = nI k := by
      refine ⟨x.toInt.toNat, by omega, ?_⟩
      rw [fa_eq, nI_toInt (by omega)]; omega
    match k, hk, e with
    | 0, _, e => exact lc_0 hL hi hI nx e
    | 1, _, e => exact lc_1 hL hi hI nx e
    | 2, _, e => exact lc_2 hL hi hI nx e
    | 3, _, e => exact lc_3 hL hi hI nx e
    | 4, _, e => exact lc_4 hL hi hI nx e
    | 5, _, e => exact lc_5 hL hi hI nx e
    | 6, _, e => exact lc_6 hL hi hI nx e
    | 7, _, e => exact lc_7 hL hi hI nx e
    | 8, _, e => exact lc_8 hL hi hI nx e
    | 9, _, e => exact lc_9 hL hi hI nx e
    | 10, _, e => exact lc_10 hL hi hI nx e
    | 11, _, e => exact lc_11 hL hi hI nx e
    | 12, _, e => exact lc_12 hL hi hI nx e
    | 13, _, e => exact lc_13 hL hi hI nx e
    | 14, _, e => exact lc_14 hL hi hI nx e
    | 15, _, e => exact lc_15 hL hi hI nx e
    | 16, _, e => exact lc_16 hL hi hI nx e
    | 17, _, e => exact lc_17 hL hi hI nx e
    | 18, _, e => exact lc_18 hL hi hI nx e
    | 19, _, e => exact lc_19 hL hi hI nx e
    | 20, _, e => exact lc_20 hL hi hI nx e
    | 21, _, e => exact lc_21 hL hi hI nx e
    | 22, _, e => exact lc_22 hL hi hI nx e
    | 23, _, e => exact lc_23 hL hi hI nx e
    | 24, _, e => exact lc_24 hL hi hI nx e
    | 25, _, e => exact lc_25 hL hi hI nx e
    | 26, _, e => exact lc_26 hL hi hI nx e
    | 27, _, e => exact lc_27 hL hi hI nx e
    | 28, _, e => exact lc_28 hL hi hI nx e
    | 29, _, e => exact lc_29 hL hi hI nx e
    | 30, _, e => exact lc_30 hL hi hI nx e
    | 31, _, e => exact lc_31 hL hi hI nx e
    | 32, _, e => exact lc_32 hL hi hI nx e
    | 33, _, e => exact lc_33 hL hi hI nx e
    | k + 34, hk, _ => exact absurd hk (by omega)
