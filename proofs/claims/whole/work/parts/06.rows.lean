/-! ===== the memory: rows of ints (M) and of references (R) by a cell's number; n cells stand, cell k at b0 + k ===== -/
abbrev kg_M : Type := Nat → Nat → Int32
abbrev kg_R : Type := Nat → Nat → Option Nat
/-- classes' numbers and slots, the three array classes, where our cells begin, the launch -/
abbrev kg_G : Type := va_G × (ClassId × ClassId × ClassId) × Nat × Launch
abbrev kg_q : Type := MethodName × ByteArray × Nat × Option FieldType
abbrev kg_b (G : kg_G) : Nat := G.2.2.1
def kg_row (M : kg_M) (k : Nat) (f : Nat → Int32) : kg_M := fun a => if a = k then f else M a
def kg_rrow (R : kg_R) (k : Nat) (f : Nat → Option Nat) : kg_R := fun a => if a = k then f else R a
theorem kg_row_eq (M : kg_M) (k : Nat) (f : Nat → Int32) : kg_row M k f k = f := by simp [kg_row]
theorem kg_row_ne (M : kg_M) {k a : Nat} (f : Nat → Int32) (h : a ≠ k) : kg_row M k f a = M a := by simp [kg_row, h]
theorem kg_rrow_eq (R : kg_R) (k : Nat) (f : Nat → Option Nat) : kg_rrow R k f k = f := by simp [kg_rrow]
theorem kg_rrow_ne (R : kg_R) {k a : Nat} (f : Nat → Option Nat) (h : a ≠ k) : kg_rrow R k f a = R a := by simp [kg_rrow, h]
theorem kg_row_row (M : kg_M) (k : Nat) (f g : Nat → Int32) : kg_row (kg_row M k f) k g = kg_row M k g := by
  funext a; by_cases h : a = k <;> simp [kg_row, h]
theorem kg_row_self (M : kg_M) (k : Nat) : kg_row M k (M k) = M := by
  funext a; by_cases h : a = k <;> simp [kg_row, h]
def kg_fs (b0 : Nat) (M : kg_M) (R : kg_R) (k : Nat) : List Bool → Nat → List Value
  | [], _ => []
  | r :: rs, j => (if r = true then va_rf ((R k j).map (b0 + ·)) else Value.int (M k j)) :: kg_fs b0 M R k rs (j + 1)
theorem kg_fs_get (b0 : Nat) (M : kg_M) (R : kg_R) (k : Nat) : ∀ (ks : List Bool) (j i : Nat), (kg_fs b0 M R k ks j)[i]? = ks[i]?.map (fun r => if r = true then va_rf ((R k (j + i)).map (b0 + ·)) else Value.int (M k (j + i)))
  | [], _, _ => by simp [kg_fs]
  | r :: rs, j, 0 => by simp [kg_fs]
  | r :: rs, j, i + 1 => by
    rw [kg_fs, List.getElem?_cons_succ, List.getElem?_cons_succ, kg_fs_get b0 M R k rs (j + 1) i, show j + 1 + i = j + (i + 1) by omega]
theorem kg_fs_len (b0 : Nat) (M : kg_M) (R : kg_R) (k : Nat) : ∀ (ks : List Bool) (j : Nat), (kg_fs b0 M R k ks j).length = ks.length
  | [], _ => rfl
  | r :: rs, j => by rw [kg_fs, List.length_cons, List.length_cons, kg_fs_len b0 M R k rs (j + 1)]
theorem kg_fs_congr (b0 : Nat) {M M' : kg_M} {R R' : kg_R} {k : Nat} (ks : List Bool) (j : Nat) (hM : M' k = M k) (hR : R' k = R k) : kg_fs b0 M' R' k ks j = kg_fs b0 M R k ks j := by
  apply List.ext_getElem?
  intro i
  rw [kg_fs_get, kg_fs_get, hM, hR]
theorem kg_fs_setI (b0 : Nat) (M : kg_M) (R : kg_R) (k : Nat) (ks : List Bool) {i : Nat} (v : Int32) (h : ks[i]? = some false) : (kg_fs b0 M R k ks 0).set i (.int v) = kg_fs b0 (kg_row M k (upd (M k) i v)) R k ks 0 := by
  apply List.ext_getElem?
  intro x
  rw [kg_fs_get, List.getElem?_set, kg_fs_get, kg_fs_len]
  have hi : i < ks.length := (List.getElem?_eq_some_iff.mp h).1
  by_cases hx : i = x
  · subst hx
    rw [if_pos rfl, if_pos hi, h]
    simp [kg_row, upd]
  · rw [if_neg hx, kg_row_eq]
    have h2 : ¬ x = i := fun e => hx e.symm
    simp [upd, h2]
theorem kg_fs_setR (b0 : Nat) (M : kg_M) (R : kg_R) (k : Nat) (ks : List Bool) {i : Nat} (v : Option Nat) (h : ks[i]? = some true) : (kg_fs b0 M R k ks 0).set i (va_rf (v.map (b0 + ·))) = kg_fs b0 M (kg_rrow R k (va_up (R k) i v)) k ks 0 := by
  apply List.ext_getElem?
  intro x
  rw [kg_fs_get, List.getElem?_set, kg_fs_get, kg_fs_len]
  have hi : i < ks.length := (List.getElem?_eq_some_iff.mp h).1
  by_cases hx : i = x
  · subst hx
    rw [if_pos rfl, if_pos hi, h]
    simp [kg_rrow, va_up]
  · rw [if_neg hx, kg_rrow_eq]
    have h2 : ¬ x = i := fun e => hx e.symm
    simp [va_up, h2]
def kg_cell (G : kg_G) (M : kg_M) (R : kg_R) (k : Nat) : va_E := match kg_SH k with
  | .inl ci => .inr (ci, kg_fs (kg_b G) M R k (kg_kd.getD ci []) 0)
  | .inr x => if x.1 = 0 then .inl (G.2.1.1, x.2, .inl (M k)) else if x.1 = 1 then .inl (G.2.1.2.1, x.2, .inl (M k)) else .inl (G.2.1.2.2, x.2, .inr (.inr (.inr (.inr (fun j => (R k j).map (kg_b G + ·))))))
theorem kg_cell_congr (G : kg_G) {M M' : kg_M} {R R' : kg_R} {k : Nat} (hM : M' k = M k) (hR : R' k = R k) : kg_cell G M' R' k = kg_cell G M R k := by
  unfold kg_cell
  rw [hM, hR]
  cases kg_SH k with
  | inl ci => simp only [kg_fs_congr (kg_b G) (kg_kd.getD ci []) 0 hM hR]
  | inr x => rfl
theorem kg_cell_o (G : kg_G) (M : kg_M) (R : kg_R) {k ci : Nat} (h : kg_SH k = .inl ci) : kg_cell G M R k = .inr (ci, kg_fs (kg_b G) M R k (kg_kd.getD ci []) 0) := by
  unfold kg_cell; rw [h]
theorem kg_cell_i (G : kg_G) (M : kg_M) (R : kg_R) {k n : Nat} (h : kg_SH k = .inr (0, n)) : kg_cell G M R k = .inl (G.2.1.1, n, .inl (M k)) := by
  unfold kg_cell; rw [h]; rfl
theorem kg_cell_z (G : kg_G) (M : kg_M) (R : kg_R) {k n : Nat} (h : kg_SH k = .inr (1, n)) : kg_cell G M R k = .inl (G.2.1.2.1, n, .inl (M k)) := by
  unfold kg_cell; rw [h]; rfl
theorem kg_cell_r (G : kg_G) (M : kg_M) (R : kg_R) {k n : Nat} (h : kg_SH k = .inr (2, n)) : kg_cell G M R k = .inl (G.2.1.2.2, n, .inr (.inr (.inr (.inr (fun j => (R k j).map (kg_b G + ·)))))) := by
  unfold kg_cell; rw [h]; rfl
def kg_w (G : kg_G) (M : kg_M) (R : kg_R) (n : Nat) : va_W := (List.range n).map fun k => (kg_b G + k, kg_cell G M R k)
theorem kg_w_get (G : kg_G) (M : kg_M) (R : kg_R) {n k : Nat} (h : k < n) : (kg_w G M R n)[k]? = some (kg_b G + k, kg_cell G M R k) := by
  simp [kg_w, h]
theorem kg_w_inv {G : kg_G} {M : kg_M} {R : kg_R} {n k : Nat} {x : Nat × va_E} (h : (kg_w G M R n)[k]? = some x) : k < n ∧ x = (kg_b G + k, kg_cell G M R k) := by
  have h1 : k < n := by
    have := (List.getElem?_eq_some_iff.mp h).1
    simpa [kg_w] using this
  rw [kg_w_get G M R h1] at h
  exact ⟨h1, (Option.some.inj h).symm⟩
theorem kg_w_set (G : kg_G) {M M' : kg_M} {R R' : kg_R} {n k : Nat} {e : va_E} (h : k < n) (hM : ∀ a, a ≠ k → M' a = M a) (hR : ∀ a, a ≠ k → R' a = R a) (he : kg_cell G M' R' k = e) : (kg_w G M R n).set k (kg_b G + k, e) = kg_w G M' R' n := by
  apply List.ext_getElem?
  intro i
  rw [List.getElem?_set]
  by_cases hi : k = i
  · subst hi
    rw [if_pos rfl, if_pos (by simp [kg_w, h]), kg_w_get G M' R' h, he]
  · rw [if_neg hi]
    by_cases hn : i < n
    · rw [kg_w_get G M R hn, kg_w_get G M' R' hn, kg_cell_congr G (hM i (fun e => hi e.symm)) (hR i (fun e => hi e.symm))]
    · simp [kg_w, hn]
theorem kg_w_push (G : kg_G) {M M' : kg_M} {R R' : kg_R} {n : Nat} {e : va_E} (hM : ∀ a, a ≠ n → M' a = M a) (hR : ∀ a, a ≠ n → R' a = R a) (he : kg_cell G M' R' n = e) : kg_w G M R n ++ [(kg_b G + n, e)] = kg_w G M' R' (n + 1) := by
  unfold kg_w
  rw [List.range_succ, List.map_append, List.map_singleton, he]
  congr 1
  apply List.map_congr_left
  intro a ha
  have h1 : a ≠ n := Nat.ne_of_lt (List.mem_range.mp ha)
  rw [kg_cell_congr G (hM a h1) (hR a h1)]
def kg_H (G : kg_G) (M : kg_M) (R : kg_R) (n : Nat) (H : Heap) : Prop := (n < kg_all → H.size = kg_b G + n) ∧ va_P G.1 vwCl (kg_w G M R n) H
abbrev kg_A (G : kg_G) : Nat → Prop := fun a => kg_b G ≤ a
theorem kg_D (G : kg_G) (M : kg_M) (R : kg_R) (n : Nat) : va_D (kg_A G) (kg_w G M R n) := by
  refine ⟨fun i j x y hx hy e => ?_, fun k x hx => ?_⟩
  · rw [(kg_w_inv hx).2, (kg_w_inv hy).2] at e
    exact Nat.add_left_cancel e
  · rw [(kg_w_inv hx).2]
    exact Nat.le_add_right _ _
theorem kg_good {y : MethodName} {cc : ByteArray} {nL : Nat} {ret : Option FieldType} (h : Cond.code y cc nL ret ∈ kg_T) : GoodIn kg_T (Cond.code y cc nL ret :: kg_T) := by
  intro w hw
  rcases List.mem_cons.mp hw with rfl | hw
  · exact ⟨h, good_of_word (List.mem_filter.mp h).2⟩
  · exact ⟨hw, good_of_word (List.mem_filter.mp hw).2⟩
def kg_tys (G : kg_G) : List (ClassId × FieldType) := [(G.2.1.1, .int), (G.2.1.2.1, .boolean), (G.2.1.2.2, .object "KissGates$State")]
def kg_KK (G : kg_G) (U : State) : Prop := va_K G.1 vwCl (kg_tys G) U ∧ (∀ x ∈ kg_nest, va_Nw (.methodLinkNest x.1 x.2.1 x.2.2.1 x.2.2.2) U) ∧ va_AO "KissGates$State" U
theorem kg_KK.warm {G : kg_G} {s U : State} (h : kg_KK G s) (hW : s.WarmedH U.vm) : kg_KK G U := ⟨va_K.moved hW.alike h.1, fun x hx => va_Nw.warmM hW (h.2.1 x hx), va_AO.moved hW.alike h.2.2⟩
theorem kg_KK.same {G : kg_G} {s U : State} (h : kg_KK G s) (hv : s.vm = U.vm) : kg_KK G U := ⟨va_K.moved (by rw [hv]; exact Vm.Alike.refl _) h.1, fun x hx => va_Nw.same rfl hv (h.2.1 x hx), va_AO.moved (by rw [hv]; exact Vm.Alike.refl _) h.2.2⟩
def kg_Cx (G : kg_G) (q : kg_q) (d : Nat) (p : Program) (Ro : Room) (s : State) (m : MethodId) (args : Array Value) (meth : Method) (c : Code) : Prop :=
  p.tables.exec = Jvm.exec ∧ c.code = q.2.1 ∧ c.maxLocals = q.2.2.1 ∧ s.vm.findClass q.1.cls = some m.cls ∧ (∀ w ∈ kg_T, w.before args s = true) ∧ kg_KK G s ∧ kg_b G ≤ s.heap.size ∧ d + 1 ≤ Ro.frames ∧ 60 * d + 60 ≤ Ro.locals ∧ (q.1.name = "<init>" → meth.name = "<init>")
abbrev kg_Post : Type := Option Int32 → kg_M → kg_R → Nat → Prop
def kg_Ret (G : kg_G) (q : kg_q) (p : Program) (e : Env) (Ro : Room) (s : State) (m : MethodId) (args : Array Value) (below : List Frame) (meth : Method) (c : Code) (Q : State → Prop) (mc ms : Nat) (Post : kg_Post) : Prop :=
  (∀ (pc : Nat) (ls : Array Slot) (r : Int32) (M : kg_M) (R : kg_R) (n : Nat) (H : Heap) (locs : List Loc) (cells slots : Nat), decode q.2.1 pc = .ok (.ireturn, 1) → Post (some r) M R n → kg_H G M R n H → va_S (kg_A G) s.heap H locs → cells ≤ mc → slots ≤ ms → W p G.2.2.2 e Ro s m args below meth c H locs cells slots Q (F0 m pc ls [.int r])) ∧
  (∀ (pc : Nat) (ls : Array Slot) (M : kg_M) (R : kg_R) (n : Nat) (H : Heap) (locs : List Loc) (cells slots : Nat), decode q.2.1 pc = .ok (.return_, 1) → Post none M R n → kg_H G M R n H → va_S (kg_A G) s.heap H locs → cells ≤ mc → slots ≤ ms → W p G.2.2.2 e Ro s m args below meth c H locs cells slots Q (F0 m pc ls []))
/-- from this frame of method q, with this memory, the method comes to its end with Post -/
def kg_Run (G : kg_G) (E : State → Array Value → Prop) (q : kg_q) (d pc : Nat) (lv : List (Nat × Value)) (st : List Value) (M : kg_M) (R : kg_R) (n kc ks : Nat) (Post : kg_Post) : Prop :=
  ∀ (p : Program) (e : Env) (Ro : Room) (s : State) (m : MethodId) (args : Array Value) (below : List Frame) (meth : Method) (c : Code) (Q : State → Prop) (mc ms : Nat), kg_Cx G q d p Ro s m args meth c → E s args → mc ≤ Ro.cells → ms ≤ Ro.slots → kg_Ret G q p e Ro s m args below meth c Q mc ms Post →
    ∀ (H : Heap) (locs : List Loc) (cells slots : Nat) (ls : Array Slot), kg_H G M R n H → va_S (kg_A G) s.heap H locs → cells + kc ≤ mc → slots + ks ≤ ms → lv_has ls q.2.2.1 lv → W p G.2.2.2 e Ro s m args below meth c H locs cells slots Q (F0 m pc ls st)
abbrev kg_E0 : State → Array Value → Prop := fun _ _ => True
theorem kg_Run.mono {G : kg_G} {E : State → Array Value → Prop} {q : kg_q} {d d' pc : Nat} {lv : List (Nat × Value)} {st : List Value} {M : kg_M} {R : kg_R} {n kc ks : Nat} {Post : kg_Post} (h : kg_Run G E q d pc lv st M R n kc ks Post) (hd : d ≤ d') : kg_Run G E q d' pc lv st M R n kc ks Post := by
  intro p e Ro s m args below meth c Q mc ms C
  obtain ⟨h1, h2, h3, h4, h5, h6, h7, h8, h9, h10⟩ := C
  exact h p e Ro s m args below meth c Q mc ms ⟨h1, h2, h3, h4, h5, h6, h7, by omega, by omega, h10⟩
theorem kg_Run.weaken {G : kg_G} {E : State → Array Value → Prop} {q : kg_q} {d pc : Nat} {lv : List (Nat × Value)} {st : List Value} {M : kg_M} {R : kg_R} {n kc ks : Nat} {Post Post' : kg_Post} (h : kg_Run G E q d pc lv st M R n kc ks Post) (hp : ∀ r M R n, Post r M R n → Post' r M R n) : kg_Run G E q d pc lv st M R n kc ks Post' := by
  intro p e Ro s m args below meth c Q mc ms C hE h1 h2 hR
  exact h p e Ro s m args below meth c Q mc ms C hE h1 h2 ⟨fun pc ls r M R n H locs cells slots a b => hR.1 pc ls r M R n H locs cells slots a (hp _ _ _ _ b), fun pc ls M R n H locs cells slots a b => hR.2 pc ls M R n H locs cells slots a (hp _ _ _ _ b)⟩
section KR
variable {G : kg_G} {E : State → Array Value → Prop} {q : kg_q} {d pc : Nat} {lv : List (Nat × Value)} {st : List Value} {M : kg_M} {R : kg_R} {n kc ks : Nat} {Post : kg_Post}
theorem kr_iconst {x : Int} (v : Int32) (hd : decode q.2.1 pc = .ok (.iconst x, 1)) (hv : Int32.ofInt x = v := by decide) (k : kg_Run G E q d (pc + 1) lv (.int v :: st) M R n kc ks Post) : kg_Run G E q d pc lv (st) M R n kc ks Post := by
  intro p e Ro s m args below meth c Q mc ms C hE hm1 hm2 hR H locs cells slots ls hH hS hc hs hl
  obtain ⟨hx, hb, hml, hown, hts, hK, hbs, hfr, hlo, hin⟩ := id C
  exact lv_iconst hx hb hd hv (k p e Ro s m args below meth c Q mc ms C hE hm1 hm2 hR H locs cells slots ls hH hS hc hs hl)
theorem kr_bipush {x : Int} (v : Int32) (hd : decode q.2.1 pc = .ok (.bipush x, 2)) (hv : (Int8.ofInt x).toInt32 = v := by decide) (k : kg_Run G E q d (pc + 2) lv (.int v :: st) M R n kc ks Post) : kg_Run G E q d pc lv (st) M R n kc ks Post := by
  intro p e Ro s m args below meth c Q mc ms C hE hm1 hm2 hR H locs cells slots ls hH hS hc hs hl
  obtain ⟨hx, hb, hml, hown, hts, hK, hbs, hfr, hlo, hin⟩ := id C
  exact lv_bipush hx hb hd hv (k p e Ro s m args below meth c Q mc ms C hE hm1 hm2 hR H locs cells slots ls hH hS hc hs hl)
theorem kr_sipush {x : Int} (v : Int32) (hd : decode q.2.1 pc = .ok (.sipush x, 3)) (hv : (Int16.ofInt x).toInt32 = v := by decide) (k : kg_Run G E q d (pc + 3) lv (.int v :: st) M R n kc ks Post) : kg_Run G E q d pc lv (st) M R n kc ks Post := by
  intro p e Ro s m args below meth c Q mc ms C hE hm1 hm2 hR H locs cells slots ls hH hS hc hs hl
  obtain ⟨hx, hb, hml, hown, hts, hK, hbs, hfr, hlo, hin⟩ := id C
  exact lv_sipush hx hb hd hv (k p e Ro s m args below meth c Q mc ms C hE hm1 hm2 hR H locs cells slots ls hH hS hc hs hl)
theorem kr_ldc {i : Nat} {v : Int32} (hd : decode q.2.1 pc = .ok (.ldc i, 2)) (hv : Cond.constant q.1.cls i v ∈ kg_T) (k : kg_Run G E q d (pc + 2) lv (.int v :: st) M R n kc ks Post) : kg_Run G E q d pc lv (st) M R n kc ks Post := by
  intro p e Ro s m args below meth c Q mc ms C hE hm1 hm2 hR H locs cells slots ls hH hS hc hs hl
  obtain ⟨hx, hb, hml, hown, hts, hK, hbs, hfr, hlo, hin⟩ := id C
  exact lv_ldc hx hb hown (hts _ hv) hd (k p e Ro s m args below meth c Q mc ms C hE hm1 hm2 hR H locs cells slots ls hH hS hc hs hl)
theorem kr_ldcw {i : Nat} {v : Int32} (hd : decode q.2.1 pc = .ok (.ldc_w i, 3)) (hv : Cond.constant q.1.cls i v ∈ kg_T) (k : kg_Run G E q d (pc + 3) lv (.int v :: st) M R n kc ks Post) : kg_Run G E q d pc lv (st) M R n kc ks Post := by
  intro p e Ro s m args below meth c Q mc ms C hE hm1 hm2 hR H locs cells slots ls hH hS hc hs hl
  obtain ⟨hx, hb, hml, hown, hts, hK, hbs, hfr, hlo, hin⟩ := id C
  exact lv_ldcw hx hb hown (hts _ hv) hd (k p e Ro s m args below meth c Q mc ms C hE hm1 hm2 hR H locs cells slots ls hH hS hc hs hl)
theorem kr_ldc2 {i : Nat} {v : Int64} (hd : decode q.2.1 pc = .ok (.ldc2_w i, 3)) (hv : Cond.constantLong q.1.cls i v ∈ kg_T) (k : kg_Run G E q d (pc + 3) lv (.long v :: st) M R n kc ks Post) : kg_Run G E q d pc lv (st) M R n kc ks Post := by
  intro p e Ro s m args below meth c Q mc ms C hE hm1 hm2 hR H locs cells slots ls hH hS hc hs hl
  obtain ⟨hx, hb, hml, hown, hts, hK, hbs, hfr, hlo, hin⟩ := id C
  exact lv_ldc2 hx hb hown (hts _ hv) hd (k p e Ro s m args below meth c Q mc ms C hE hm1 hm2 hR H locs cells slots ls hH hS hc hs hl)
theorem kr_lconst {x : Fin 2} (v : Int64) (hd : decode q.2.1 pc = .ok (.lconst x, 1)) (hv : Int64.ofNat (x : Nat) = v := by decide) (k : kg_Run G E q d (pc + 1) lv (.long v :: st) M R n kc ks Post) : kg_Run G E q d pc lv (st) M R n kc ks Post := by
  intro p e Ro s m args below meth c Q mc ms C hE hm1 hm2 hR H locs cells slots ls hH hS hc hs hl
  obtain ⟨hx, hb, hml, hown, hts, hK, hbs, hfr, hlo, hin⟩ := id C
  exact lv_lconst hx hb hd hv (k p e Ro s m args below meth c Q mc ms C hE hm1 hm2 hR H locs cells slots ls hH hS hc hs hl)
theorem kr_iload_n {x : Fin 4} {i : Nat} {v : Int32} (j : Nat) (hd : decode q.2.1 pc = .ok (.iload_n x, 1)) (hj : lv[j]? = some (i, .int v)) (hi : (x : Nat) = i := by rfl) (k : kg_Run G E q d (pc + 1) lv (.int v :: st) M R n kc ks Post) : kg_Run G E q d pc lv (st) M R n kc ks Post := by
  intro p e Ro s m args below meth c Q mc ms C hE hm1 hm2 hR H locs cells slots ls hH hS hc hs hl
  obtain ⟨hx, hb, hml, hown, hts, hK, hbs, hfr, hlo, hin⟩ := id C
  exact lv_iload_n hx hb hd hi (lv_at hl j hj) (k p e Ro s m args below meth c Q mc ms C hE hm1 hm2 hR H locs cells slots ls hH hS hc hs hl)
theorem kr_iload {i : Nat} {v : Int32} (j : Nat) (hd : decode q.2.1 pc = .ok (.iload i, 2)) (hj : lv[j]? = some (i, .int v)) (k : kg_Run G E q d (pc + 2) lv (.int v :: st) M R n kc ks Post) : kg_Run G E q d pc lv (st) M R n kc ks Post := by
  intro p e Ro s m args below meth c Q mc ms C hE hm1 hm2 hR H locs cells slots ls hH hS hc hs hl
  obtain ⟨hx, hb, hml, hown, hts, hK, hbs, hfr, hlo, hin⟩ := id C
  exact lv_iload hx hb hd (lv_at hl j hj) (k p e Ro s m args below meth c Q mc ms C hE hm1 hm2 hR H locs cells slots ls hH hS hc hs hl)
theorem kr_lload_n {x : Fin 4} {i : Nat} {v : Int64} (j : Nat) (hd : decode q.2.1 pc = .ok (.lload_n x, 1)) (hj : lv[j]? = some (i, .long v)) (hi : (x : Nat) = i := by rfl) (k : kg_Run G E q d (pc + 1) lv (.long v :: st) M R n kc ks Post) : kg_Run G E q d pc lv (st) M R n kc ks Post := by
  intro p e Ro s m args below meth c Q mc ms C hE hm1 hm2 hR H locs cells slots ls hH hS hc hs hl
  obtain ⟨hx, hb, hml, hown, hts, hK, hbs, hfr, hlo, hin⟩ := id C
  exact lv_lload_n hx hb hd hi (lv_at hl j hj) (k p e Ro s m args below meth c Q mc ms C hE hm1 hm2 hR H locs cells slots ls hH hS hc hs hl)
theorem kr_lload {i : Nat} {v : Int64} (j : Nat) (hd : decode q.2.1 pc = .ok (.lload i, 2)) (hj : lv[j]? = some (i, .long v)) (k : kg_Run G E q d (pc + 2) lv (.long v :: st) M R n kc ks Post) : kg_Run G E q d pc lv (st) M R n kc ks Post := by
  intro p e Ro s m args below meth c Q mc ms C hE hm1 hm2 hR H locs cells slots ls hH hS hc hs hl
  obtain ⟨hx, hb, hml, hown, hts, hK, hbs, hfr, hlo, hin⟩ := id C
  exact lv_lload hx hb hd (lv_at hl j hj) (k p e Ro s m args below meth c Q mc ms C hE hm1 hm2 hR H locs cells slots ls hH hS hc hs hl)
theorem kr_aload_n {x : Fin 4} {i : Nat} {v : Nat} (j : Nat) (hd : decode q.2.1 pc = .ok (.aload_n x, 1)) (hj : lv[j]? = some (i, .ref v)) (hi : (x : Nat) = i := by rfl) (k : kg_Run G E q d (pc + 1) lv (.ref v :: st) M R n kc ks Post) : kg_Run G E q d pc lv (st) M R n kc ks Post := by
  intro p e Ro s m args below meth c Q mc ms C hE hm1 hm2 hR H locs cells slots ls hH hS hc hs hl
  obtain ⟨hx, hb, hml, hown, hts, hK, hbs, hfr, hlo, hin⟩ := id C
  exact lv_aload_n hx hb hd hi (lv_at hl j hj) (k p e Ro s m args below meth c Q mc ms C hE hm1 hm2 hR H locs cells slots ls hH hS hc hs hl)
theorem kr_aload {i : Nat} {v : Nat} (j : Nat) (hd : decode q.2.1 pc = .ok (.aload i, 2)) (hj : lv[j]? = some (i, .ref v)) (k : kg_Run G E q d (pc + 2) lv (.ref v :: st) M R n kc ks Post) : kg_Run G E q d pc lv (st) M R n kc ks Post := by
  intro p e Ro s m args below meth c Q mc ms C hE hm1 hm2 hR H locs cells slots ls hH hS hc hs hl
  obtain ⟨hx, hb, hml, hown, hts, hK, hbs, hfr, hlo, hin⟩ := id C
  exact lv_aload hx hb hd (lv_at hl j hj) (k p e Ro s m args below meth c Q mc ms C hE hm1 hm2 hR H locs cells slots ls hH hS hc hs hl)
theorem kr_istore_n {x : Fin 4} {i : Nat} {v : Int32} (lv' : List (Nat × Value)) (hd : decode q.2.1 pc = .ok (.istore_n x, 1)) (hi : (x : Nat) = i := by rfl) (hl2 : (i, Value.int v) :: lv.filter (fun w => !(w.1 == i) && !(w.1 + 1 == i && w.2.category == 2)) = lv' := by rfl) (hi2 : i < q.2.2.1 := by decide) (k : kg_Run G E q d (pc + 1) lv' st M R n kc ks Post) : kg_Run G E q d pc lv (.int v :: st) M R n kc ks Post := by
  intro p e Ro s m args below meth c Q mc ms C hE hm1 hm2 hR H locs cells slots ls hH hS hc hs hl
  obtain ⟨hx, hb, hml, hown, hts, hK, hbs, hfr, hlo, hin⟩ := id C
  exact lv_istore_n hx hb hd hi hl hi2 hl2 (fun ls hl => k p e Ro s m args below meth c Q mc ms C hE hm1 hm2 hR H locs cells slots ls hH hS hc hs hl)
theorem kr_istore {i : Nat} {v : Int32} (lv' : List (Nat × Value)) (hd : decode q.2.1 pc = .ok (.istore i, 2)) (hl2 : (i, Value.int v) :: lv.filter (fun w => !(w.1 == i) && !(w.1 + 1 == i && w.2.category == 2)) = lv' := by rfl) (hi2 : i < q.2.2.1 := by decide) (k : kg_Run G E q d (pc + 2) lv' st M R n kc ks Post) : kg_Run G E q d pc lv (.int v :: st) M R n kc ks Post := by
  intro p e Ro s m args below meth c Q mc ms C hE hm1 hm2 hR H locs cells slots ls hH hS hc hs hl
  obtain ⟨hx, hb, hml, hown, hts, hK, hbs, hfr, hlo, hin⟩ := id C
  exact lv_istore hx hb hd hl hi2 hl2 (fun ls hl => k p e Ro s m args below meth c Q mc ms C hE hm1 hm2 hR H locs cells slots ls hH hS hc hs hl)
theorem kr_astore_n {x : Fin 4} {i : Nat} {v : Nat} (lv' : List (Nat × Value)) (hd : decode q.2.1 pc = .ok (.astore_n x, 1)) (hi : (x : Nat) = i := by rfl) (hl2 : (i, Value.ref v) :: lv.filter (fun w => !(w.1 == i) && !(w.1 + 1 == i && w.2.category == 2)) = lv' := by rfl) (hi2 : i < q.2.2.1 := by decide) (k : kg_Run G E q d (pc + 1) lv' st M R n kc ks Post) : kg_Run G E q d pc lv (.ref v :: st) M R n kc ks Post := by
  intro p e Ro s m args below meth c Q mc ms C hE hm1 hm2 hR H locs cells slots ls hH hS hc hs hl
  obtain ⟨hx, hb, hml, hown, hts, hK, hbs, hfr, hlo, hin⟩ := id C
  exact lv_astore_n hx hb hd hi hl hi2 hl2 (fun ls hl => k p e Ro s m args below meth c Q mc ms C hE hm1 hm2 hR H locs cells slots ls hH hS hc hs hl)
theorem kr_lstore_n {x : Fin 4} {i : Nat} {v : Int64} (lv' : List (Nat × Value)) (hd : decode q.2.1 pc = .ok (.lstore_n x, 1)) (hi : (x : Nat) = i := by rfl) (hl2 : (i, Value.long v) :: lv.filter (fun w => !(w.1 == i) && (!(w.1 == i + 1) && !(w.1 + 1 == i && w.2.category == 2))) = lv' := by rfl) (hi2 : i + 1 < q.2.2.1 := by decide) (k : kg_Run G E q d (pc + 1) lv' st M R n kc ks Post) : kg_Run G E q d pc lv (.long v :: st) M R n kc ks Post := by
  intro p e Ro s m args below meth c Q mc ms C hE hm1 hm2 hR H locs cells slots ls hH hS hc hs hl
  obtain ⟨hx, hb, hml, hown, hts, hK, hbs, hfr, hlo, hin⟩ := id C
  exact lv_lstore_n hx hb hd hi hl hi2 hl2 (fun ls hl => k p e Ro s m args below meth c Q mc ms C hE hm1 hm2 hR H locs cells slots ls hH hS hc hs hl)
theorem kr_iinc {i : Nat} {x : Int} {v : Int32} (w : Int32) (j : Nat) (lv' : List (Nat × Value)) (hd : decode q.2.1 pc = .ok (.iinc i x, 3)) (hj : lv[j]? = some (i, .int v)) (hl2 : (i, Value.int (v + w)) :: lv.filter (fun w => !(w.1 == i) && !(w.1 + 1 == i && w.2.category == 2)) = lv' := by rfl) (hv : Int32.ofInt x = w := by decide) (hi2 : i < q.2.2.1 := by decide) (k : kg_Run G E q d (pc + 3) lv' st M R n kc ks Post) : kg_Run G E q d pc lv st M R n kc ks Post := by
  intro p e Ro s m args below meth c Q mc ms C hE hm1 hm2 hR H locs cells slots ls hH hS hc hs hl
  obtain ⟨hx, hb, hml, hown, hts, hK, hbs, hfr, hlo, hin⟩ := id C
  exact lv_iinc hx hb hd hl hj (by rw [hv]) hi2 hl2 (fun ls hl => k p e Ro s m args below meth c Q mc ms C hE hm1 hm2 hR H locs cells slots ls hH hS hc hs hl)
theorem kr_iadd {x y : Int32} (hd : decode q.2.1 pc = .ok (.iadd, 1)) (k : kg_Run G E q d (pc + 1) lv (.int (x + y) :: st) M R n kc ks Post) : kg_Run G E q d pc lv (.int y :: .int x :: st) M R n kc ks Post := by
  intro p e Ro s m args below meth c Q mc ms C hE hm1 hm2 hR H locs cells slots ls hH hS hc hs hl
  obtain ⟨hx, hb, hml, hown, hts, hK, hbs, hfr, hlo, hin⟩ := id C
  exact lv_iadd hx hb hd (k p e Ro s m args below meth c Q mc ms C hE hm1 hm2 hR H locs cells slots ls hH hS hc hs hl)
theorem kr_isub {x y : Int32} (hd : decode q.2.1 pc = .ok (.isub, 1)) (k : kg_Run G E q d (pc + 1) lv (.int (x - y) :: st) M R n kc ks Post) : kg_Run G E q d pc lv (.int y :: .int x :: st) M R n kc ks Post := by
  intro p e Ro s m args below meth c Q mc ms C hE hm1 hm2 hR H locs cells slots ls hH hS hc hs hl
  obtain ⟨hx, hb, hml, hown, hts, hK, hbs, hfr, hlo, hin⟩ := id C
  exact lv_isub hx hb hd (k p e Ro s m args below meth c Q mc ms C hE hm1 hm2 hR H locs cells slots ls hH hS hc hs hl)
theorem kr_imul {x y : Int32} (hd : decode q.2.1 pc = .ok (.imul, 1)) (k : kg_Run G E q d (pc + 1) lv (.int (x * y) :: st) M R n kc ks Post) : kg_Run G E q d pc lv (.int y :: .int x :: st) M R n kc ks Post := by
  intro p e Ro s m args below meth c Q mc ms C hE hm1 hm2 hR H locs cells slots ls hH hS hc hs hl
  obtain ⟨hx, hb, hml, hown, hts, hK, hbs, hfr, hlo, hin⟩ := id C
  exact lv_imul hx hb hd (k p e Ro s m args below meth c Q mc ms C hE hm1 hm2 hR H locs cells slots ls hH hS hc hs hl)
theorem kr_iand {x y : Int32} (hd : decode q.2.1 pc = .ok (.iand, 1)) (k : kg_Run G E q d (pc + 1) lv (.int (x &&& y) :: st) M R n kc ks Post) : kg_Run G E q d pc lv (.int y :: .int x :: st) M R n kc ks Post := by
  intro p e Ro s m args below meth c Q mc ms C hE hm1 hm2 hR H locs cells slots ls hH hS hc hs hl
  obtain ⟨hx, hb, hml, hown, hts, hK, hbs, hfr, hlo, hin⟩ := id C
  exact lv_iand hx hb hd (k p e Ro s m args below meth c Q mc ms C hE hm1 hm2 hR H locs cells slots ls hH hS hc hs hl)
theorem kr_ior {x y : Int32} (hd : decode q.2.1 pc = .ok (.ior, 1)) (k : kg_Run G E q d (pc + 1) lv (.int (x ||| y) :: st) M R n kc ks Post) : kg_Run G E q d pc lv (.int y :: .int x :: st) M R n kc ks Post := by
  intro p e Ro s m args below meth c Q mc ms C hE hm1 hm2 hR H locs cells slots ls hH hS hc hs hl
  obtain ⟨hx, hb, hml, hown, hts, hK, hbs, hfr, hlo, hin⟩ := id C
  exact lv_ior hx hb hd (k p e Ro s m args below meth c Q mc ms C hE hm1 hm2 hR H locs cells slots ls hH hS hc hs hl)
theorem kr_ixor {x y : Int32} (hd : decode q.2.1 pc = .ok (.ixor, 1)) (k : kg_Run G E q d (pc + 1) lv (.int (x ^^^ y) :: st) M R n kc ks Post) : kg_Run G E q d pc lv (.int y :: .int x :: st) M R n kc ks Post := by
  intro p e Ro s m args below meth c Q mc ms C hE hm1 hm2 hR H locs cells slots ls hH hS hc hs hl
  obtain ⟨hx, hb, hml, hown, hts, hK, hbs, hfr, hlo, hin⟩ := id C
  exact lv_ixor hx hb hd (k p e Ro s m args below meth c Q mc ms C hE hm1 hm2 hR H locs cells slots ls hH hS hc hs hl)
theorem kr_ishl {x y : Int32} (hd : decode q.2.1 pc = .ok (.ishl, 1)) (k : kg_Run G E q d (pc + 1) lv (.int (x <<< (y &&& 31)) :: st) M R n kc ks Post) : kg_Run G E q d pc lv (.int y :: .int x :: st) M R n kc ks Post := by
  intro p e Ro s m args below meth c Q mc ms C hE hm1 hm2 hR H locs cells slots ls hH hS hc hs hl
  obtain ⟨hx, hb, hml, hown, hts, hK, hbs, hfr, hlo, hin⟩ := id C
  exact lv_ishl hx hb hd (k p e Ro s m args below meth c Q mc ms C hE hm1 hm2 hR H locs cells slots ls hH hS hc hs hl)
theorem kr_ishr {x y : Int32} (hd : decode q.2.1 pc = .ok (.ishr, 1)) (k : kg_Run G E q d (pc + 1) lv (.int (x >>> (y &&& 31)) :: st) M R n kc ks Post) : kg_Run G E q d pc lv (.int y :: .int x :: st) M R n kc ks Post := by
  intro p e Ro s m args below meth c Q mc ms C hE hm1 hm2 hR H locs cells slots ls hH hS hc hs hl
  obtain ⟨hx, hb, hml, hown, hts, hK, hbs, hfr, hlo, hin⟩ := id C
  exact lv_ishr hx hb hd (k p e Ro s m args below meth c Q mc ms C hE hm1 hm2 hR H locs cells slots ls hH hS hc hs hl)
theorem kr_iushr {x y : Int32} (hd : decode q.2.1 pc = .ok (.iushr, 1)) (k : kg_Run G E q d (pc + 1) lv (.int ((x.toUInt32 >>> (y.toUInt32 &&& Int32.toUInt32 31)).toInt32) :: st) M R n kc ks Post) : kg_Run G E q d pc lv (.int y :: .int x :: st) M R n kc ks Post := by
  intro p e Ro s m args below meth c Q mc ms C hE hm1 hm2 hR H locs cells slots ls hH hS hc hs hl
  obtain ⟨hx, hb, hml, hown, hts, hK, hbs, hfr, hlo, hin⟩ := id C
  exact lv_iushr hx hb hd rfl (k p e Ro s m args below meth c Q mc ms C hE hm1 hm2 hR H locs cells slots ls hH hS hc hs hl)
theorem kr_idiv {x y : Int32} (hd : decode q.2.1 pc = .ok (.idiv, 1)) (hne : ¬ y = 0) (k : kg_Run G E q d (pc + 1) lv (.int (x / y) :: st) M R n kc ks Post) : kg_Run G E q d pc lv (.int y :: .int x :: st) M R n kc ks Post := by
  intro p e Ro s m args below meth c Q mc ms C hE hm1 hm2 hR H locs cells slots ls hH hS hc hs hl
  obtain ⟨hx, hb, hml, hown, hts, hK, hbs, hfr, hlo, hin⟩ := id C
  exact lv_idiv hx hb hd hne (k p e Ro s m args below meth c Q mc ms C hE hm1 hm2 hR H locs cells slots ls hH hS hc hs hl)
theorem kr_irem {x y : Int32} (hd : decode q.2.1 pc = .ok (.irem, 1)) (hne : ¬ y = 0) (k : kg_Run G E q d (pc + 1) lv (.int (x - x / y * y) :: st) M R n kc ks Post) : kg_Run G E q d pc lv (.int y :: .int x :: st) M R n kc ks Post := by
  intro p e Ro s m args below meth c Q mc ms C hE hm1 hm2 hR H locs cells slots ls hH hS hc hs hl
  obtain ⟨hx, hb, hml, hown, hts, hK, hbs, hfr, hlo, hin⟩ := id C
  exact lv_irem hx hb hd hne (k p e Ro s m args below meth c Q mc ms C hE hm1 hm2 hR H locs cells slots ls hH hS hc hs hl)
theorem kr_ladd {x y : Int64} (hd : decode q.2.1 pc = .ok (.ladd, 1)) (k : kg_Run G E q d (pc + 1) lv (.long (x + y) :: st) M R n kc ks Post) : kg_Run G E q d pc lv (.long y :: .long x :: st) M R n kc ks Post := by
  intro p e Ro s m args below meth c Q mc ms C hE hm1 hm2 hR H locs cells slots ls hH hS hc hs hl
  obtain ⟨hx, hb, hml, hown, hts, hK, hbs, hfr, hlo, hin⟩ := id C
  exact lv_ladd hx hb hd (k p e Ro s m args below meth c Q mc ms C hE hm1 hm2 hR H locs cells slots ls hH hS hc hs hl)
theorem kr_lmul {x y : Int64} (hd : decode q.2.1 pc = .ok (.lmul, 1)) (k : kg_Run G E q d (pc + 1) lv (.long (x * y) :: st) M R n kc ks Post) : kg_Run G E q d pc lv (.long y :: .long x :: st) M R n kc ks Post := by
  intro p e Ro s m args below meth c Q mc ms C hE hm1 hm2 hR H locs cells slots ls hH hS hc hs hl
  obtain ⟨hx, hb, hml, hown, hts, hK, hbs, hfr, hlo, hin⟩ := id C
  exact lv_lmul hx hb hd (k p e Ro s m args below meth c Q mc ms C hE hm1 hm2 hR H locs cells slots ls hH hS hc hs hl)
theorem kr_ldiv {x y : Int64} (hd : decode q.2.1 pc = .ok (.ldiv, 1)) (hne : ¬ y = 0) (k : kg_Run G E q d (pc + 1) lv (.long (x / y) :: st) M R n kc ks Post) : kg_Run G E q d pc lv (.long y :: .long x :: st) M R n kc ks Post := by
  intro p e Ro s m args below meth c Q mc ms C hE hm1 hm2 hR H locs cells slots ls hH hS hc hs hl
  obtain ⟨hx, hb, hml, hown, hts, hK, hbs, hfr, hlo, hin⟩ := id C
  exact lv_ldiv hx hb hd hne (k p e Ro s m args below meth c Q mc ms C hE hm1 hm2 hR H locs cells slots ls hH hS hc hs hl)
theorem kr_lrem {x y : Int64} (hd : decode q.2.1 pc = .ok (.lrem, 1)) (hne : ¬ y = 0) (k : kg_Run G E q d (pc + 1) lv (.long (x - x / y * y) :: st) M R n kc ks Post) : kg_Run G E q d pc lv (.long y :: .long x :: st) M R n kc ks Post := by
  intro p e Ro s m args below meth c Q mc ms C hE hm1 hm2 hR H locs cells slots ls hH hS hc hs hl
  obtain ⟨hx, hb, hml, hown, hts, hK, hbs, hfr, hlo, hin⟩ := id C
  exact lv_lrem hx hb hd hne (k p e Ro s m args below meth c Q mc ms C hE hm1 hm2 hR H locs cells slots ls hH hS hc hs hl)
theorem kr_lcmp {x y : Int64} (hd : decode q.2.1 pc = .ok (.lcmp, 1)) (k : kg_Run G E q d (pc + 1) lv (.int (lg_cmp x y) :: st) M R n kc ks Post) : kg_Run G E q d pc lv (.long y :: .long x :: st) M R n kc ks Post := by
  intro p e Ro s m args below meth c Q mc ms C hE hm1 hm2 hR H locs cells slots ls hH hS hc hs hl
  obtain ⟨hx, hb, hml, hown, hts, hK, hbs, hfr, hlo, hin⟩ := id C
  exact W.lcmp hx hb hd (k p e Ro s m args below meth c Q mc ms C hE hm1 hm2 hR H locs cells slots ls hH hS hc hs hl)
theorem kr_i2l {x : Int32} (hd : decode q.2.1 pc = .ok (.i2l, 1)) (k : kg_Run G E q d (pc + 1) lv (.long x.toInt64 :: st) M R n kc ks Post) : kg_Run G E q d pc lv (.int x :: st) M R n kc ks Post := by
  intro p e Ro s m args below meth c Q mc ms C hE hm1 hm2 hR H locs cells slots ls hH hS hc hs hl
  obtain ⟨hx, hb, hml, hown, hts, hK, hbs, hfr, hlo, hin⟩ := id C
  exact lv_i2l hx hb hd rfl (k p e Ro s m args below meth c Q mc ms C hE hm1 hm2 hR H locs cells slots ls hH hS hc hs hl)
theorem kr_l2i {x : Int64} (hd : decode q.2.1 pc = .ok (.l2i, 1)) (k : kg_Run G E q d (pc + 1) lv (.int x.toInt32 :: st) M R n kc ks Post) : kg_Run G E q d pc lv (.long x :: st) M R n kc ks Post := by
  intro p e Ro s m args below meth c Q mc ms C hE hm1 hm2 hR H locs cells slots ls hH hS hc hs hl
  obtain ⟨hx, hb, hml, hown, hts, hK, hbs, hfr, hlo, hin⟩ := id C
  exact lv_l2i hx hb hd rfl (k p e Ro s m args below meth c Q mc ms C hE hm1 hm2 hR H locs cells slots ls hH hS hc hs hl)
theorem kr_dup {va : Value} (hd : decode q.2.1 pc = .ok (.dup, 1)) (h1 : va.category = 1 := by rfl) (k : kg_Run G E q d (pc + 1) lv (va :: va :: st) M R n kc ks Post) : kg_Run G E q d pc lv (va :: st) M R n kc ks Post := by
  intro p e Ro s m args below meth c Q mc ms C hE hm1 hm2 hR H locs cells slots ls hH hS hc hs hl
  obtain ⟨hx, hb, hml, hown, hts, hK, hbs, hfr, hlo, hin⟩ := id C
  exact lv_dup hx hb hd h1 (k p e Ro s m args below meth c Q mc ms C hE hm1 hm2 hR H locs cells slots ls hH hS hc hs hl)
theorem kr_dup2 {va vb : Value} (hd : decode q.2.1 pc = .ok (.dup2, 1)) (h1 : va.category = 1 := by rfl) (h2 : vb.category = 1 := by rfl) (k : kg_Run G E q d (pc + 1) lv (va :: vb :: va :: vb :: st) M R n kc ks Post) : kg_Run G E q d pc lv (va :: vb :: st) M R n kc ks Post := by
  intro p e Ro s m args below meth c Q mc ms C hE hm1 hm2 hR H locs cells slots ls hH hS hc hs hl
  obtain ⟨hx, hb, hml, hown, hts, hK, hbs, hfr, hlo, hin⟩ := id C
  exact lv_dup2_11 hx hb hd h1 h2 (k p e Ro s m args below meth c Q mc ms C hE hm1 hm2 hR H locs cells slots ls hH hS hc hs hl)
theorem kr_if_eq {x : Int32} {off : Int} (tgt : Nat) (hd : decode q.2.1 pc = .ok (.ifCond .eq off, 3)) (kt : x = 0 → kg_Run G E q d tgt lv st M R n kc ks Post) (kf : ¬ x = 0 → kg_Run G E q d (pc + 3) lv st M R n kc ks Post) (ht : (pc : Int) + off = (tgt : Int) := by decide) : kg_Run G E q d pc lv (.int x :: st) M R n kc ks Post := by
  intro p e Ro s m args below meth c Q mc ms C hE hm1 hm2 hR H locs cells slots ls hH hS hc hs hl
  obtain ⟨hx, hb, hml, hown, hts, hK, hbs, hfr, hlo, hin⟩ := id C
  exact lv_if_eq hx hb hd ht (fun h => kt h p e Ro s m args below meth c Q mc ms C hE hm1 hm2 hR H locs cells slots ls hH hS hc hs hl) (fun h => kf h p e Ro s m args below meth c Q mc ms C hE hm1 hm2 hR H locs cells slots ls hH hS hc hs hl)
theorem kr_icmp_eq {x y : Int32} {off : Int} (tgt : Nat) (hd : decode q.2.1 pc = .ok (.if_icmp .eq off, 3)) (kt : x = y → kg_Run G E q d tgt lv st M R n kc ks Post) (kf : ¬ x = y → kg_Run G E q d (pc + 3) lv st M R n kc ks Post) (ht : (pc : Int) + off = (tgt : Int) := by decide) : kg_Run G E q d pc lv (.int y :: .int x :: st) M R n kc ks Post := by
  intro p e Ro s m args below meth c Q mc ms C hE hm1 hm2 hR H locs cells slots ls hH hS hc hs hl
  obtain ⟨hx, hb, hml, hown, hts, hK, hbs, hfr, hlo, hin⟩ := id C
  exact lv_icmp_eq hx hb hd ht (fun h => kt h p e Ro s m args below meth c Q mc ms C hE hm1 hm2 hR H locs cells slots ls hH hS hc hs hl) (fun h => kf h p e Ro s m args below meth c Q mc ms C hE hm1 hm2 hR H locs cells slots ls hH hS hc hs hl)
theorem kr_if_ne {x : Int32} {off : Int} (tgt : Nat) (hd : decode q.2.1 pc = .ok (.ifCond .ne off, 3)) (kt : ¬ x = 0 → kg_Run G E q d tgt lv st M R n kc ks Post) (kf : x = 0 → kg_Run G E q d (pc + 3) lv st M R n kc ks Post) (ht : (pc : Int) + off = (tgt : Int) := by decide) : kg_Run G E q d pc lv (.int x :: st) M R n kc ks Post := by
  intro p e Ro s m args below meth c Q mc ms C hE hm1 hm2 hR H locs cells slots ls hH hS hc hs hl
  obtain ⟨hx, hb, hml, hown, hts, hK, hbs, hfr, hlo, hin⟩ := id C
  exact lv_if_ne hx hb hd ht (fun h => kt h p e Ro s m args below meth c Q mc ms C hE hm1 hm2 hR H locs cells slots ls hH hS hc hs hl) (fun h => kf h p e Ro s m args below meth c Q mc ms C hE hm1 hm2 hR H locs cells slots ls hH hS hc hs hl)
theorem kr_icmp_ne {x y : Int32} {off : Int} (tgt : Nat) (hd : decode q.2.1 pc = .ok (.if_icmp .ne off, 3)) (kt : ¬ x = y → kg_Run G E q d tgt lv st M R n kc ks Post) (kf : x = y → kg_Run G E q d (pc + 3) lv st M R n kc ks Post) (ht : (pc : Int) + off = (tgt : Int) := by decide) : kg_Run G E q d pc lv (.int y :: .int x :: st) M R n kc ks Post := by
  intro p e Ro s m args below meth c Q mc ms C hE hm1 hm2 hR H locs cells slots ls hH hS hc hs hl
  obtain ⟨hx, hb, hml, hown, hts, hK, hbs, hfr, hlo, hin⟩ := id C
  exact lv_icmp_ne hx hb hd ht (fun h => kt h p e Ro s m args below meth c Q mc ms C hE hm1 hm2 hR H locs cells slots ls hH hS hc hs hl) (fun h => kf h p e Ro s m args below meth c Q mc ms C hE hm1 hm2 hR H locs cells slots ls hH hS hc hs hl)
theorem kr_if_lt {x : Int32} {off : Int} (tgt : Nat) (hd : decode q.2.1 pc = .ok (.ifCond .lt off, 3)) (kt : x < 0 → kg_Run G E q d tgt lv st M R n kc ks Post) (kf : ¬ x < 0 → kg_Run G E q d (pc + 3) lv st M R n kc ks Post) (ht : (pc : Int) + off = (tgt : Int) := by decide) : kg_Run G E q d pc lv (.int x :: st) M R n kc ks Post := by
  intro p e Ro s m args below meth c Q mc ms C hE hm1 hm2 hR H locs cells slots ls hH hS hc hs hl
  obtain ⟨hx, hb, hml, hown, hts, hK, hbs, hfr, hlo, hin⟩ := id C
  exact lv_if_lt hx hb hd ht (fun h => kt h p e Ro s m args below meth c Q mc ms C hE hm1 hm2 hR H locs cells slots ls hH hS hc hs hl) (fun h => kf h p e Ro s m args below meth c Q mc ms C hE hm1 hm2 hR H locs cells slots ls hH hS hc hs hl)
theorem kr_icmp_lt {x y : Int32} {off : Int} (tgt : Nat) (hd : decode q.2.1 pc = .ok (.if_icmp .lt off, 3)) (kt : x < y → kg_Run G E q d tgt lv st M R n kc ks Post) (kf : ¬ x < y → kg_Run G E q d (pc + 3) lv st M R n kc ks Post) (ht : (pc : Int) + off = (tgt : Int) := by decide) : kg_Run G E q d pc lv (.int y :: .int x :: st) M R n kc ks Post := by
  intro p e Ro s m args below meth c Q mc ms C hE hm1 hm2 hR H locs cells slots ls hH hS hc hs hl
  obtain ⟨hx, hb, hml, hown, hts, hK, hbs, hfr, hlo, hin⟩ := id C
  exact lv_icmp_lt hx hb hd ht (fun h => kt h p e Ro s m args below meth c Q mc ms C hE hm1 hm2 hR H locs cells slots ls hH hS hc hs hl) (fun h => kf h p e Ro s m args below meth c Q mc ms C hE hm1 hm2 hR H locs cells slots ls hH hS hc hs hl)
theorem kr_if_ge {x : Int32} {off : Int} (tgt : Nat) (hd : decode q.2.1 pc = .ok (.ifCond .ge off, 3)) (kt : 0 ≤ x → kg_Run G E q d tgt lv st M R n kc ks Post) (kf : ¬ 0 ≤ x → kg_Run G E q d (pc + 3) lv st M R n kc ks Post) (ht : (pc : Int) + off = (tgt : Int) := by decide) : kg_Run G E q d pc lv (.int x :: st) M R n kc ks Post := by
  intro p e Ro s m args below meth c Q mc ms C hE hm1 hm2 hR H locs cells slots ls hH hS hc hs hl
  obtain ⟨hx, hb, hml, hown, hts, hK, hbs, hfr, hlo, hin⟩ := id C
  exact lv_if_ge hx hb hd ht (fun h => kt h p e Ro s m args below meth c Q mc ms C hE hm1 hm2 hR H locs cells slots ls hH hS hc hs hl) (fun h => kf h p e Ro s m args below meth c Q mc ms C hE hm1 hm2 hR H locs cells slots ls hH hS hc hs hl)
theorem kr_icmp_ge {x y : Int32} {off : Int} (tgt : Nat) (hd : decode q.2.1 pc = .ok (.if_icmp .ge off, 3)) (kt : y ≤ x → kg_Run G E q d tgt lv st M R n kc ks Post) (kf : ¬ y ≤ x → kg_Run G E q d (pc + 3) lv st M R n kc ks Post) (ht : (pc : Int) + off = (tgt : Int) := by decide) : kg_Run G E q d pc lv (.int y :: .int x :: st) M R n kc ks Post := by
  intro p e Ro s m args below meth c Q mc ms C hE hm1 hm2 hR H locs cells slots ls hH hS hc hs hl
  obtain ⟨hx, hb, hml, hown, hts, hK, hbs, hfr, hlo, hin⟩ := id C
  exact lv_icmp_ge hx hb hd ht (fun h => kt h p e Ro s m args below meth c Q mc ms C hE hm1 hm2 hR H locs cells slots ls hH hS hc hs hl) (fun h => kf h p e Ro s m args below meth c Q mc ms C hE hm1 hm2 hR H locs cells slots ls hH hS hc hs hl)
theorem kr_if_gt {x : Int32} {off : Int} (tgt : Nat) (hd : decode q.2.1 pc = .ok (.ifCond .gt off, 3)) (kt : 0 < x → kg_Run G E q d tgt lv st M R n kc ks Post) (kf : ¬ 0 < x → kg_Run G E q d (pc + 3) lv st M R n kc ks Post) (ht : (pc : Int) + off = (tgt : Int) := by decide) : kg_Run G E q d pc lv (.int x :: st) M R n kc ks Post := by
  intro p e Ro s m args below meth c Q mc ms C hE hm1 hm2 hR H locs cells slots ls hH hS hc hs hl
  obtain ⟨hx, hb, hml, hown, hts, hK, hbs, hfr, hlo, hin⟩ := id C
  exact lv_if_gt hx hb hd ht (fun h => kt h p e Ro s m args below meth c Q mc ms C hE hm1 hm2 hR H locs cells slots ls hH hS hc hs hl) (fun h => kf h p e Ro s m args below meth c Q mc ms C hE hm1 hm2 hR H locs cells slots ls hH hS hc hs hl)
theorem kr_icmp_gt {x y : Int32} {off : Int} (tgt : Nat) (hd : decode q.2.1 pc = .ok (.if_icmp .gt off, 3)) (kt : y < x → kg_Run G E q d tgt lv st M R n kc ks Post) (kf : ¬ y < x → kg_Run G E q d (pc + 3) lv st M R n kc ks Post) (ht : (pc : Int) + off = (tgt : Int) := by decide) : kg_Run G E q d pc lv (.int y :: .int x :: st) M R n kc ks Post := by
  intro p e Ro s m args below meth c Q mc ms C hE hm1 hm2 hR H locs cells slots ls hH hS hc hs hl
  obtain ⟨hx, hb, hml, hown, hts, hK, hbs, hfr, hlo, hin⟩ := id C
  exact lv_icmp_gt hx hb hd ht (fun h => kt h p e Ro s m args below meth c Q mc ms C hE hm1 hm2 hR H locs cells slots ls hH hS hc hs hl) (fun h => kf h p e Ro s m args below meth c Q mc ms C hE hm1 hm2 hR H locs cells slots ls hH hS hc hs hl)
theorem kr_if_le {x : Int32} {off : Int} (tgt : Nat) (hd : decode q.2.1 pc = .ok (.ifCond .le off, 3)) (kt : x ≤ 0 → kg_Run G E q d tgt lv st M R n kc ks Post) (kf : ¬ x ≤ 0 → kg_Run G E q d (pc + 3) lv st M R n kc ks Post) (ht : (pc : Int) + off = (tgt : Int) := by decide) : kg_Run G E q d pc lv (.int x :: st) M R n kc ks Post := by
  intro p e Ro s m args below meth c Q mc ms C hE hm1 hm2 hR H locs cells slots ls hH hS hc hs hl
  obtain ⟨hx, hb, hml, hown, hts, hK, hbs, hfr, hlo, hin⟩ := id C
  exact lv_if_le hx hb hd ht (fun h => kt h p e Ro s m args below meth c Q mc ms C hE hm1 hm2 hR H locs cells slots ls hH hS hc hs hl) (fun h => kf h p e Ro s m args below meth c Q mc ms C hE hm1 hm2 hR H locs cells slots ls hH hS hc hs hl)
theorem kr_icmp_le {x y : Int32} {off : Int} (tgt : Nat) (hd : decode q.2.1 pc = .ok (.if_icmp .le off, 3)) (kt : x ≤ y → kg_Run G E q d tgt lv st M R n kc ks Post) (kf : ¬ x ≤ y → kg_Run G E q d (pc + 3) lv st M R n kc ks Post) (ht : (pc : Int) + off = (tgt : Int) := by decide) : kg_Run G E q d pc lv (.int y :: .int x :: st) M R n kc ks Post := by
  intro p e Ro s m args below meth c Q mc ms C hE hm1 hm2 hR H locs cells slots ls hH hS hc hs hl
  obtain ⟨hx, hb, hml, hown, hts, hK, hbs, hfr, hlo, hin⟩ := id C
  exact lv_icmp_le hx hb hd ht (fun h => kt h p e Ro s m args below meth c Q mc ms C hE hm1 hm2 hR H locs cells slots ls hH hS hc hs hl) (fun h => kf h p e Ro s m args below meth c Q mc ms C hE hm1 hm2 hR H locs cells slots ls hH hS hc hs hl)
theorem kr_goto {off : Int} (tgt : Nat) (hd : decode q.2.1 pc = .ok (.goto off, 3)) (k : kg_Run G E q d tgt lv st M R n kc ks Post) (ht : (pc : Int) + off = (tgt : Int) := by decide) : kg_Run G E q d pc lv st M R n kc ks Post := by
  intro p e Ro s m args below meth c Q mc ms C hE hm1 hm2 hR H locs cells slots ls hH hS hc hs hl
  obtain ⟨hx, hb, hml, hown, hts, hK, hbs, hfr, hlo, hin⟩ := id C
  exact lv_goto hx hb hd ht (k p e Ro s m args below meth c Q mc ms C hE hm1 hm2 hR H locs cells slots ls hH hS hc hs hl)
theorem kr_tableIn {dflt lo hi : Int} {offs : Array Int} {len : Nat} {x : Int32} {off : Int} (tgt : Nat) (hd : decode q.2.1 pc = .ok (.tableswitch dflt lo hi offs, len)) (h1 : ¬ x.toInt < lo) (h2 : ¬ hi < x.toInt) (ho : offs[(x.toInt - lo).toNat]? = some off) (ht : (pc : Int) + off = (tgt : Int)) (k : kg_Run G E q d tgt lv st M R n kc ks Post) : kg_Run G E q d pc lv (.int x :: st) M R n kc ks Post := by
  intro p e Ro s m args below meth c Q mc ms C hE hm1 hm2 hR H locs cells slots ls hH hS hc hs hl
  obtain ⟨hx, hb, hml, hown, hts, hK, hbs, hfr, hlo, hin⟩ := id C
  exact lv_tableIn hx hb hd h1 h2 ho ht (k p e Ro s m args below meth c Q mc ms C hE hm1 hm2 hR H locs cells slots ls hH hS hc hs hl)
theorem kr_tableOut {dflt lo hi : Int} {offs : Array Int} {len : Nat} {x : Int32} (tgt : Nat) (hd : decode q.2.1 pc = .ok (.tableswitch dflt lo hi offs, len)) (h : x.toInt < lo ∨ hi < x.toInt) (ht : (pc : Int) + dflt = (tgt : Int)) (k : kg_Run G E q d tgt lv st M R n kc ks Post) : kg_Run G E q d pc lv (.int x :: st) M R n kc ks Post := by
  intro p e Ro s m args below meth c Q mc ms C hE hm1 hm2 hR H locs cells slots ls hH hS hc hs hl
  obtain ⟨hx, hb, hml, hown, hts, hK, hbs, hfr, hlo, hin⟩ := id C
  exact lv_tableOut hx hb hd h ht (k p e Ro s m args below meth c Q mc ms C hE hm1 hm2 hR H locs cells slots ls hH hS hc hs hl)
theorem kr_lookup {dflt : Int} {ps : Array (Int × Int)} {len : Nat} {x : Int32} {off : Int} (tgt : Nat) (hd : decode q.2.1 pc = .ok (.lookupswitch dflt ps, len)) (hp : (ps.toList.zip (ps.toList.drop 1)).all (fun (a, next) => a.1 < next.1) = true) (ho : Op.lookupswitch.offset ps.toList dflt x.toInt = off) (ht : (pc : Int) + off = (tgt : Int)) (k : kg_Run G E q d tgt lv st M R n kc ks Post) : kg_Run G E q d pc lv (.int x :: st) M R n kc ks Post := by
  intro p e Ro s m args below meth c Q mc ms C hE hm1 hm2 hR H locs cells slots ls hH hS hc hs hl
  obtain ⟨hx, hb, hml, hown, hts, hK, hbs, hfr, hlo, hin⟩ := id C
  exact lv_lookup hx hb hd hp ho ht (k p e Ro s m args below meth c Q mc ms C hE hm1 hm2 hR H locs cells slots ls hH hS hc hs hl)
theorem kr_ireturn {r : Int32} (hd : decode q.2.1 pc = .ok (.ireturn, 1)) (hp : Post (some r) M R n) : kg_Run G E q d pc lv [.int r] M R n kc ks Post := by
  intro p e Ro s m args below meth c Q mc ms C hE hm1 hm2 hR H locs cells slots ls hH hS hc hs hl
  obtain ⟨hx, hb, hml, hown, hts, hK, hbs, hfr, hlo, hin⟩ := id C
  exact hR.1 pc ls r M R n H locs cells slots hd hp hH hS (by omega) (by omega)
theorem kr_return (hd : decode q.2.1 pc = .ok (.return_, 1)) (hp : Post none M R n) : kg_Run G E q d pc lv [] M R n kc ks Post := by
  intro p e Ro s m args below meth c Q mc ms C hE hm1 hm2 hR H locs cells slots ls hH hS hc hs hl
  obtain ⟨hx, hb, hml, hown, hts, hK, hbs, hfr, hlo, hin⟩ := id C
  exact hR.2 pc ls M R n H locs cells slots hd hp hH hS (by omega) (by omega)
/-- what is fixed of a class: its row, its words, its fields' types and names, which fields are references -/
def kg_CK (ci : Nat) (Cn : String) (T : u_T) (N : Nat) (ty : Nat → FieldType) : Prop :=
  vwCl[ci]? = some (Cn, T, N) ∧ (∀ w ∈ u_ws Cn T N, w ∈ kg_T) ∧ (∀ k, k < N → parseFieldDescriptor (T k).2.2.1 = some (ty k)) ∧ (∀ a, a < N → ∀ b, b < N → a ≠ b → (T a).2.1 ≠ (T b).2.1) ∧ (kg_kd.getD ci []).length = N ∧ Cond.instantiable Cn N ∈ kg_T ∧ Cond.initialized Cn ∈ kg_T ∧ (∀ k, k < N → defaultValue (ty k) = if (kg_kd.getD ci [])[k]? = some true then Value.null else Value.int 0)
theorem kr_getI {ci N i : Nat} {Cn : String} {T : u_T} {ty : Nat → FieldType} {a : Nat} (j : Nat) (hC : kg_CK ci Cn T N ty) (hlk : Cond.fieldLink q.1.cls i (T j).1 (T j).2.1 (T j).2.2.1 ∈ kg_T) (hkd : (kg_kd.getD ci [])[j]? = some false) (hsh : kg_SH a = .inl ci) (han : a < n) (hd : decode q.2.1 pc = .ok (.getfield i, 3)) (k : kg_Run G E q d (pc + 3) lv (.int (M a j) :: st) M R n kc ks Post) : kg_Run G E q d pc lv (.ref (kg_b G + a) :: st) M R n kc ks Post := by
  intro p e Ro s m args below meth c Q mc ms C hE hm1 hm2 hR H locs cells slots ls hH hS hc hs hl
  obtain ⟨hx, hb, hml, hown, hts, hK, hbs, hfr, hlo, hin⟩ := id C
  have hj : j < N := by rw [← hC.2.2.2.2.1]; exact (List.getElem?_eq_some_iff.mp hkd).1
  exact va_get (D := G.1) (v := .int (M a j)) hx hb hts hC.2.1 hown hK.1 hH.2 a (by rw [kg_w_get G M R han, kg_cell_o G M R hsh]) hC.1 j hj (hts _ hlk) (fun _ h9 => h9) (by rw [kg_fs_get, hkd]; simp) hd (k p e Ro s m args below meth c Q mc ms C hE hm1 hm2 hR H locs cells slots ls hH hS hc hs hl)
theorem kr_getR {ci N i : Nat} {Cn : String} {T : u_T} {ty : Nat → FieldType} {a : Nat} (j : Nat) {v : Nat} (hC : kg_CK ci Cn T N ty) (hlk : Cond.fieldLink q.1.cls i (T j).1 (T j).2.1 (T j).2.2.1 ∈ kg_T) (hkd : (kg_kd.getD ci [])[j]? = some true) (hsh : kg_SH a = .inl ci) (han : a < n) (hv : R a j = some v) (hd : decode q.2.1 pc = .ok (.getfield i, 3)) (k : kg_Run G E q d (pc + 3) lv (.ref (kg_b G + v) :: st) M R n kc ks Post) : kg_Run G E q d pc lv (.ref (kg_b G + a) :: st) M R n kc ks Post := by
  intro p e Ro s m args below meth c Q mc ms C hE hm1 hm2 hR H locs cells slots ls hH hS hc hs hl
  obtain ⟨hx, hb, hml, hown, hts, hK, hbs, hfr, hlo, hin⟩ := id C
  have hj : j < N := by rw [← hC.2.2.2.2.1]; exact (List.getElem?_eq_some_iff.mp hkd).1
  exact va_get (D := G.1) (v := .ref (kg_b G + v)) hx hb hts hC.2.1 hown hK.1 hH.2 a (by rw [kg_w_get G M R han, kg_cell_o G M R hsh]) hC.1 j hj (hts _ hlk) (fun _ h9 => h9) (by rw [kg_fs_get, hkd]; simp [hv, va_rf]) hd (k p e Ro s m args below meth c Q mc ms C hE hm1 hm2 hR H locs cells slots ls hH hS hc hs hl)
theorem kg_putH {H1 : Heap} {a j ci : Nat} {v : Int32} (hsh : kg_SH a = .inl ci) (hkd : (kg_kd.getD ci [])[j]? = some false) (han : a < n) (hP : va_P G.1 vwCl ((kg_w G M R n).set a (kg_b G + a, .inr (ci, (kg_fs (kg_b G) M R a (kg_kd.getD ci []) 0).set j (.int v)))) H1) : va_P G.1 vwCl (kg_w G (kg_row M a (upd (M a) j v)) R n) H1 := by
  rw [kg_fs_setI _ _ _ _ _ _ hkd] at hP
  rw [← kg_w_set G (M := M) (R := R) (R' := R) (M' := kg_row M a (upd (M a) j v)) han (fun x hx => kg_row_ne M _ hx) (fun _ _ => rfl) (kg_cell_o G _ _ hsh)]
  exact hP
theorem kg_putHR {H1 : Heap} {a j ci : Nat} {v : Nat} (hsh : kg_SH a = .inl ci) (hkd : (kg_kd.getD ci [])[j]? = some true) (han : a < n) (hP : va_P G.1 vwCl ((kg_w G M R n).set a (kg_b G + a, .inr (ci, (kg_fs (kg_b G) M R a (kg_kd.getD ci []) 0).set j (.ref (kg_b G + v))))) H1) : va_P G.1 vwCl (kg_w G M (kg_rrow R a (va_up (R a) j (some v))) n) H1 := by
  rw [show Value.ref (kg_b G + v) = va_rf ((some v).map (kg_b G + ·)) from rfl, kg_fs_setR _ _ _ _ _ _ hkd] at hP
  rw [← kg_w_set G (M := M) (R := R) (M' := M) (R' := kg_rrow R a (va_up (R a) j (some v))) han (fun _ _ => rfl) (fun x hx => kg_rrow_ne R _ hx) (kg_cell_o G _ _ hsh)]
  exact hP
end KR
section KP
variable {p : Program} {l : Launch} {e : Env} {R : Room} {s : State} {m : MethodId} {args : Array Value} {below : List Frame} {meth : Method} {c : Code} {H : Heap} {locs : List Loc} {cells slots : Nat} {Q : State → Prop}
variable {cc : ByteArray} {pc : Nat} {ls : Array Slot} {rest : List Value} {D : va_G} {cl : List vw_C} {A : Nat → Prop} {a : Nat} {tys : List (ClassId × FieldType)} {ws : va_W} {H0 : Heap}
/-- a field is written; the heap's size stays -/
theorem kg_put (hexec : p.tables.exec = Jvm.exec) (hb : c.code = cc) {own C : String} {T : u_T} {N ci index : Nat} {Ts : List Cond} (hts : ∀ w ∈ Ts, w.before args s = true) (hin : ∀ w ∈ u_ws C T N, w ∈ Ts) (ty0 : Nat → FieldType) (hty : ∀ k, k < N → parseFieldDescriptor (T k).2.2.1 = some (ty0 k)) (hnm : ∀ a, a < N → ∀ b, b < N → a ≠ b → (T a).2.1 ≠ (T b).2.1) (hown : s.vm.findClass own = some m.cls) (hK : va_K D cl tys s) (hP : va_P D cl ws H) (hD : va_D A ws) (hS0 : va_S A H0 H locs) (q0 : Nat) {fs : List Value} (he : ws[q0]? = some (a, .inr (ci, fs))) (hc : cl[ci]? = some (C, T, N)) (k : Nat) (hk : k < N) (hlink : (Cond.fieldLink own index (T k).1 (T k).2.1 (T k).2.2.1).before args s = true) (hfin : (T k).2.2.2 = false ∨ ((T k).2.2.2 = true ∧ meth.name = "<init>" ∧ (T k).1 = own)) {v : Value} (hn : narrow (ty0 k) v = v) (hfit : fits (ty0 k) v = true) (hl : k < fs.length)
    (hdg : decode cc pc = .ok (.putfield index, 3)) (kk : ∀ (H1 : Heap) (locs1 : List Loc), va_P D cl (ws.set q0 (a, .inr (ci, fs.set k v))) H1 → H1.size = H.size → va_S A H0 H1 locs1 → W p l e R s m args below meth c H1 locs1 cells slots Q (F0 m (pc + 3) ls rest)) : W p l e R s m args below meth c H locs cells slots Q (F0 m pc ls (v :: .ref a :: rest)) := by
  have hap := va_apart (own := own) hts hin ty0 hty hnm hK hc
  obtain ⟨r, h1, cell, q1, q2, q3, q4⟩ := hP q0 _ he
  have hr : r = (C, T, N) := Option.some.inj (h1.symm.trans hc)
  subst hr
  obtain ⟨hS, hfc, kC, hkC, hkind⟩ := hK.1 ci _ hc
  obtain ⟨cf, kf, fi, f, hi, hsl⟩ := hS k hk
  have hlay := hts _ (hin _ (u_in_lay hk))
  unfold u_lay at hlay
  have hst := (u_facts hfc hkC (u_lays hts hin hk) hi).1
  rcases hfin with hfin | ⟨hfin, hin2, hdecl⟩
  · rw [if_neg (by rw [hfin]; decide)] at hlay
    have h6 := u_store hfc hkC hkind hlay hi (hty k hk) hn hfit
    refine W.putK hexec hb (f := f) ⟨hown, hlink, ⟨_, _, _, hi⟩, hst⟩ (by rw [q2]; exact h6) q1 q3 (by rw [hsl]; exact k2_hasslot (q4 k hk)) rfl rfl hdg fun H' e1 e2 e3 => ?_
    rw [hsl] at e1 ⊢
    exact kk H' _ (hP.set hD he ⟨_, hc, t_OB.to (V := updV (vp_V fs) k v) ⟨_, e1, q2, q3, t_set q4 hap hk v⟩ (fun j _ => vp_updV_set hl v j)⟩ e3) e2 (hS0.put e2 e3 (hD.2 q0 _ he))
  · rw [if_pos hfin] at hlay
    have hcf : m.cls = cf := by
      obtain ⟨_, _, c', _, _, _, -, -, hf', -, -, -, hown2, -⟩ := Cond.laysFinal_spec hlay
      have e1 : c' = cf := by have := hi.symm.trans hf'; simp at this; exact this.1.symm
      rw [hdecl] at hown2
      rw [← e1]; exact Option.some.inj (hown.symm.trans hown2)
    have h6 := u_fits hfc hkC hkind (Or.inr hlay) hi (hty k hk) hn hfit
    refine W.putFinK hexec hb hown hlink hi hst hcf hin2 (by rw [q2]; exact h6) q1 q3 (by rw [hsl]; exact k2_hasslot (q4 k hk)) rfl rfl hdg fun H' e1 e2 e3 => ?_
    rw [hsl] at e1 ⊢
    exact kk H' _ (hP.set hD he ⟨_, hc, t_OB.to (V := updV (vp_V fs) k v) ⟨_, e1, q2, q3, t_set q4 hap hk v⟩ (fun j _ => vp_updV_set hl v j)⟩ e3) e2 (hS0.put e2 e3 (hD.2 q0 _ he))
theorem kg_iast (hexec : p.tables.exec = Jvm.exec) (hb : c.code = cc) (hK : va_K D cl tys s) (hP : va_P D cl ws H) (hD : va_D A ws) (hS : va_S A H0 H locs) (q0 t0 : Nat) {cA : ClassId} {n : Nat} {f : Nat → Int32} (ha : ws[q0]? = some (a, .inl (cA, n, .inl f))) (ht : tys[t0]? = some (cA, .int)) {i : Int32} {x : Int32} (hin : vp_in i n) (hdg : decode cc pc = .ok (.iastore, 1))
    (kk : ∀ (H1 : Heap) (locs1 : List Loc), va_P D cl (ws.set q0 (a, .inl (cA, n, .inl (upd f i.toNatClampNeg x)))) H1 → H1.size = H.size → va_S A H0 H1 locs1 → W p l e R s m args below meth c H1 locs1 cells slots Q (F0 m (pc + 1) ls rest)) : W p l e R s m args below meth c H locs cells slots Q (F0 m pc ls (.int x :: .int i :: .ref a :: rest)) := by
  refine W.iast hexec hb (hP q0 _ ha) ((hK.2 t0 _ ht).1 n (fun j => .int (f j))) (fun q => by cases q) (by show ¬ (i < 0 ∨ (arrV _ _ _).slots.size ≤ _); rw [arrV_size]; exact hin) rfl rfl hdg fun H1 e z oq => ?_
  refine kk H1 _ (hP.set hD ha ?_ oq) z (hS.put z oq (hD.2 q0 _ ha))
  show H1[a]? = some (vp_cell _ _)
  rw [e, vp_cell_i, vp_cell_i, arrV_store]
  congr 2
  funext q
  by_cases hq : q = i.toNatClampNeg
  · subst hq
    simp [updV, upd]
  · simp [updV, upd, hq]
theorem kg_zast (hexec : p.tables.exec = Jvm.exec) (hb : c.code = cc) (hK : va_K D cl tys s) (hP : va_P D cl ws H) (hD : va_D A ws) (hS : va_S A H0 H locs) (q0 t0 : Nat) {cA : ClassId} {n : Nat} {f : Nat → Int32} (ha : ws[q0]? = some (a, .inl (cA, n, .inl f))) (ht : tys[t0]? = some (cA, .boolean)) {i : Int32} {x : Int32} (hin : vp_in i n) (hdg : decode cc pc = .ok (.bastore, 1))
    (kk : ∀ (H1 : Heap) (locs1 : List Loc), va_P D cl (ws.set q0 (a, .inl (cA, n, .inl (upd f i.toNatClampNeg (vp_nar .boolean x))))) H1 → H1.size = H.size → va_S A H0 H1 locs1 → W p l e R s m args below meth c H1 locs1 cells slots Q (F0 m (pc + 1) ls rest)) : W p l e R s m args below meth c H locs cells slots Q (F0 m pc ls (.int x :: .int i :: .ref a :: rest)) := by
  refine W.zast hexec hb (hP q0 _ ha) ((hK.2 t0 _ ht).1 n (fun j => .int (f j))) (fun q => by cases q) (by show ¬ (i < 0 ∨ (arrV _ _ _).slots.size ≤ _); rw [arrV_size]; exact hin) rfl rfl hdg fun H1 e z oq => ?_
  refine kk H1 _ (hP.set hD ha ?_ oq) z (hS.put z oq (hD.2 q0 _ ha))
  show H1[a]? = some (vp_cell _ _)
  rw [e, vp_cell_i, vp_cell_i, arrV_store]
  congr 2
  funext q
  by_cases hq : q = i.toNatClampNeg
  · subst hq
    simp [updV, upd, vp_nar]
    try rfl
  · simp [updV, upd, hq]
theorem kg_aast (hexec : p.tables.exec = Jvm.exec) (hb : c.code = cc) (hK : va_K D cl tys s) (hP : va_P D cl ws H) (hD : va_D A ws) (hS : va_S A H0 H locs) (q0 t0 qk ci : Nat) {cA : ClassId} {r : vw_C} {n v : Nat} {vs : List Value} {f : Nat → Option Nat} (ha : ws[q0]? = some (a, .inl (cA, n, .inr (.inr (.inr (.inr f)))))) (ht : tys[t0]? = some (cA, .object r.1)) (hv : ws[qk]? = some (v, .inr (ci, vs))) (hc : cl[ci]? = some r) {i : Int32} (hin : vp_in i n) (hdg : decode cc pc = .ok (.aastore, 1))
    (kk : ∀ (H1 : Heap) (locs1 : List Loc), va_P D cl (ws.set q0 (a, .inl (cA, n, .inr (.inr (.inr (.inr (va_up f i.toNatClampNeg (some v)))))))) H1 → H1.size = H.size → va_S A H0 H1 locs1 → W p l e R s m args below meth c H1 locs1 cells slots Q (F0 m (pc + 1) ls rest)) : W p l e R s m args below meth c H locs cells slots Q (F0 m pc ls (.ref v :: .int i :: .ref a :: rest)) := by
  have hlt : i.toNatClampNeg < n := Nat.not_le.mp fun q => hin (Or.inr q)
  have h0 : ¬ i < 0 := fun q => hin (Or.inl q)
  obtain ⟨r', hr', cellV, g1, g2, g3, -⟩ := hP qk _ hv
  have hcls := (hK.1 ci r hc).2
  obtain ⟨kA, comp, k1, k2, k3, -⟩ := (hK.2 t0 _ ht).2
  have hcomp : comp = D.1 ci := Option.some.inj (k3.symm.trans hcls.1)
  subst hcomp
  obtain ⟨kC, hkC, -⟩ := hcls.2
  refine W.aast hexec hb (hP q0 _ ha) (fun q h => by cases h) (fun h => by cases h) k1 k2 rfl hkC ⟨h0, by show _ < (arrV _ _ _).slots.size; rw [arrV_size]; exact hlt⟩ g1 (fun q h => by rw [g3] at h; cases h) (by rw [g2]; exact hkC) (by rw [g2]; exact va_assign hcls) rfl rfl hdg fun H1 e z oq => ?_
  refine kk H1 _ (hP.set hD ha ?_ oq) z (hS.put z oq (hD.2 q0 _ ha))
  show H1[a]? = some (vp_cell _ _)
  rw [e, vp_cell_q, vp_cell_q, arrV_store]
  congr 2
  funext q
  by_cases hq : q = i.toNatClampNeg
  · subst hq
    simp [updV, va_up, va_rf]
  · simp [updV, va_up, hq]
end KP
section KR
variable {G : kg_G} {E : State → Array Value → Prop} {q : kg_q} {d pc : Nat} {lv : List (Nat × Value)} {st : List Value} {M : kg_M} {R : kg_R} {n kc ks : Nat} {Post : kg_Post}

theorem kr_putI {ci N i : Nat} {Cn : String} {T : u_T} {ty : Nat → FieldType} {a : Nat} {v : Int32} (j : Nat) (hC : kg_CK ci Cn T N ty) (hlk : Cond.fieldLink q.1.cls i (T j).1 (T j).2.1 (T j).2.2.1 ∈ kg_T) (hkd : (kg_kd.getD ci [])[j]? = some false) (hfin : (T j).2.2.2 = false) (hn : narrow (ty j) (.int v) = .int v) (hfit : fits (ty j) (.int v) = true) (hsh : kg_SH a = .inl ci) (han : a < n) (hd : decode q.2.1 pc = .ok (.putfield i, 3)) (k : kg_Run G E q d (pc + 3) lv st (kg_row M a (upd (M a) j v)) R n kc ks Post) : kg_Run G E q d pc lv (.int v :: .ref (kg_b G + a) :: st) M R n kc ks Post := by
  intro p e Ro s m args below meth c Q mc ms C hE hm1 hm2 hR H locs cells slots ls hH hS hc hs hl
  obtain ⟨hx, hb, hml, hown, hts, hK, hbs, hfr, hlo, hin⟩ := id C
  have hj : j < (kg_kd.getD ci []).length := (List.getElem?_eq_some_iff.mp hkd).1
  refine kg_put (D := G.1) hx hb hts hC.2.1 ty hC.2.2.1 hC.2.2.2.1 hown hK.1 hH.2 (kg_D G M R n) hS a (by rw [kg_w_get G M R han, kg_cell_o G M R hsh]) hC.1 j (by rw [← hC.2.2.2.2.1]; exact hj) (hts _ hlk) (Or.inl hfin) hn hfit (by rw [kg_fs_len]; exact hj) hd (fun H1 locs1 hP1 z1 hS1 => ?_)
  exact k p e Ro s m args below meth c Q mc ms C hE hm1 hm2 hR H1 locs1 cells slots ls ⟨fun h => by rw [z1]; exact hH.1 h, kg_putH hsh hkd han hP1⟩ hS1 hc hs hl
theorem kr_putR {ci N i : Nat} {Cn : String} {T : u_T} {ty : Nat → FieldType} {a v : Nat} (j : Nat) (hC : kg_CK ci Cn T N ty) (hlk : Cond.fieldLink q.1.cls i (T j).1 (T j).2.1 (T j).2.2.1 ∈ kg_T) (hkd : (kg_kd.getD ci [])[j]? = some true) (hfin : (T j).2.2.2 = false ∨ ((T j).2.2.2 = true ∧ q.1.name = "<init>" ∧ (T j).1 = q.1.cls)) (hn : ∀ x : Nat, narrow (ty j) (.ref x) = .ref x) (hfit : ∀ x : Nat, fits (ty j) (.ref x) = true) (hsh : kg_SH a = .inl ci) (han : a < n) (hd : decode q.2.1 pc = .ok (.putfield i, 3)) (k : kg_Run G E q d (pc + 3) lv st M (kg_rrow R a (va_up (R a) j (some v))) n kc ks Post) : kg_Run G E q d pc lv (.ref (kg_b G + v) :: .ref (kg_b G + a) :: st) M R n kc ks Post := by
  intro p e Ro s m args below meth c Q mc ms C hE hm1 hm2 hR H locs cells slots ls hH hS hc hs hl
  obtain ⟨hx, hb, hml, hown, hts, hK, hbs, hfr, hlo, hin⟩ := id C
  have hj : j < (kg_kd.getD ci []).length := (List.getElem?_eq_some_iff.mp hkd).1
  refine kg_put (D := G.1) hx hb hts hC.2.1 ty hC.2.2.1 hC.2.2.2.1 hown hK.1 hH.2 (kg_D G M R n) hS a (by rw [kg_w_get G M R han, kg_cell_o G M R hsh]) hC.1 j (by rw [← hC.2.2.2.2.1]; exact hj) (hts _ hlk) (hfin.elim Or.inl (fun h => Or.inr ⟨h.1, hin h.2.1, h.2.2⟩)) (hn _) (hfit _) (by rw [kg_fs_len]; exact hj) hd (fun H1 locs1 hP1 z1 hS1 => ?_)
  exact k p e Ro s m args below meth c Q mc ms C hE hm1 hm2 hR H1 locs1 cells slots ls ⟨fun h => by rw [z1]; exact hH.1 h, kg_putHR hsh hkd han hP1⟩ hS1 hc hs hl
theorem kr_iald {a N : Nat} {i : Int32} (hsh : kg_SH a = .inr (0, N)) (han : a < n) (hi : vp_in i N) (hd : decode q.2.1 pc = .ok (.iaload, 1)) (k : kg_Run G E q d (pc + 1) lv (.int (M a i.toNatClampNeg) :: st) M R n kc ks Post) : kg_Run G E q d pc lv (.int i :: .ref (kg_b G + a) :: st) M R n kc ks Post := by
  intro p e Ro s m args below meth c Q mc ms C hE hm1 hm2 hR H locs cells slots ls hH hS hc hs hl
  obtain ⟨hx, hb, hml, hown, hts, hK, hbs, hfr, hlo, hin⟩ := id C
  exact va_iald (D := G.1) hx hb hK.1 hH.2 a 0 (by rw [kg_w_get G M R han, kg_cell_i G M R hsh]) rfl hi hd (k p e Ro s m args below meth c Q mc ms C hE hm1 hm2 hR H locs cells slots ls hH hS hc hs hl)
theorem kr_zald {a N : Nat} {i : Int32} (hsh : kg_SH a = .inr (1, N)) (han : a < n) (hi : vp_in i N) (hd : decode q.2.1 pc = .ok (.baload, 1)) (k : kg_Run G E q d (pc + 1) lv (.int (M a i.toNatClampNeg) :: st) M R n kc ks Post) : kg_Run G E q d pc lv (.int i :: .ref (kg_b G + a) :: st) M R n kc ks Post := by
  intro p e Ro s m args below meth c Q mc ms C hE hm1 hm2 hR H locs cells slots ls hH hS hc hs hl
  obtain ⟨hx, hb, hml, hown, hts, hK, hbs, hfr, hlo, hin⟩ := id C
  exact va_zald (D := G.1) hx hb hK.1 hH.2 a 1 (by rw [kg_w_get G M R han, kg_cell_z G M R hsh]) rfl hi hd (k p e Ro s m args below meth c Q mc ms C hE hm1 hm2 hR H locs cells slots ls hH hS hc hs hl)
theorem kr_aald {a N v : Nat} {i : Int32} (hsh : kg_SH a = .inr (2, N)) (han : a < n) (hi : vp_in i N) (hv : R a i.toNatClampNeg = some v) (hd : decode q.2.1 pc = .ok (.aaload, 1)) (k : kg_Run G E q d (pc + 1) lv (.ref (kg_b G + v) :: st) M R n kc ks Post) : kg_Run G E q d pc lv (.int i :: .ref (kg_b G + a) :: st) M R n kc ks Post := by
  intro p e Ro s m args below meth c Q mc ms C hE hm1 hm2 hR H locs cells slots ls hH hS hc hs hl
  obtain ⟨hx, hb, hml, hown, hts, hK, hbs, hfr, hlo, hin⟩ := id C
  refine va_aldq (D := G.1) hx hb hK.1 hH.2 a 2 (by rw [kg_w_get G M R han, kg_cell_r G M R hsh]) rfl hi hd ?_
  rw [hv]
  exact k p e Ro s m args below meth c Q mc ms C hE hm1 hm2 hR H locs cells slots ls hH hS hc hs hl
theorem kr_iast {a N : Nat} {i v : Int32} (hsh : kg_SH a = .inr (0, N)) (han : a < n) (hi : vp_in i N) (hd : decode q.2.1 pc = .ok (.iastore, 1)) (k : kg_Run G E q d (pc + 1) lv st (kg_row M a (upd (M a) i.toNatClampNeg v)) R n kc ks Post) : kg_Run G E q d pc lv (.int v :: .int i :: .ref (kg_b G + a) :: st) M R n kc ks Post := by
  intro p e Ro s m args below meth c Q mc ms C hE hm1 hm2 hR H locs cells slots ls hH hS hc hs hl
  obtain ⟨hx, hb, hml, hown, hts, hK, hbs, hfr, hlo, hin⟩ := id C
  refine kg_iast (D := G.1) hx hb hK.1 hH.2 (kg_D G M R n) hS a 0 (by rw [kg_w_get G M R han, kg_cell_i G M R hsh]) rfl hi hd (fun H1 locs1 hP1 z1 hS1 => ?_)
  rw [kg_w_set G (M' := kg_row M a (upd (M a) i.toNatClampNeg v)) (R' := R) han (fun x hx => kg_row_ne M _ hx) (fun _ _ => rfl) (by rw [kg_cell_i G _ _ hsh, kg_row_eq])] at hP1
  exact k p e Ro s m args below meth c Q mc ms C hE hm1 hm2 hR H1 locs1 cells slots ls ⟨fun h => by rw [z1]; exact hH.1 h, hP1⟩ hS1 hc hs hl
theorem kr_zast {a N : Nat} {i v : Int32} (hsh : kg_SH a = .inr (1, N)) (han : a < n) (hi : vp_in i N) (hv : vp_nar .boolean v = v) (hd : decode q.2.1 pc = .ok (.bastore, 1)) (k : kg_Run G E q d (pc + 1) lv st (kg_row M a (upd (M a) i.toNatClampNeg v)) R n kc ks Post) : kg_Run G E q d pc lv (.int v :: .int i :: .ref (kg_b G + a) :: st) M R n kc ks Post := by
  intro p e Ro s m args below meth c Q mc ms C hE hm1 hm2 hR H locs cells slots ls hH hS hc hs hl
  obtain ⟨hx, hb, hml, hown, hts, hK, hbs, hfr, hlo, hin⟩ := id C
  refine kg_zast (D := G.1) hx hb hK.1 hH.2 (kg_D G M R n) hS a 1 (by rw [kg_w_get G M R han, kg_cell_z G M R hsh]) rfl hi hd (fun H1 locs1 hP1 z1 hS1 => ?_)
  rw [hv, kg_w_set G (M' := kg_row M a (upd (M a) i.toNatClampNeg v)) (R' := R) han (fun x hx => kg_row_ne M _ hx) (fun _ _ => rfl) (by rw [kg_cell_z G _ _ hsh, kg_row_eq])] at hP1
  exact k p e Ro s m args below meth c Q mc ms C hE hm1 hm2 hR H1 locs1 cells slots ls ⟨fun h => by rw [z1]; exact hH.1 h, hP1⟩ hS1 hc hs hl
theorem kr_aast {a b N : Nat} {i : Int32} (hsh : kg_SH a = .inr (2, N)) (han : a < n) (hi : vp_in i N) (hsb : kg_SH b = .inl 5) (hbn : b < n) (hd : decode q.2.1 pc = .ok (.aastore, 1)) (k : kg_Run G E q d (pc + 1) lv st M (kg_rrow R a (va_up (R a) i.toNatClampNeg (some b))) n kc ks Post) : kg_Run G E q d pc lv (.ref (kg_b G + b) :: .int i :: .ref (kg_b G + a) :: st) M R n kc ks Post := by
  intro p e Ro s m args below meth c Q mc ms C hE hm1 hm2 hR H locs cells slots ls hH hS hc hs hl
  obtain ⟨hx, hb, hml, hown, hts, hK, hbs, hfr, hlo, hin⟩ := id C
  refine kg_aast (D := G.1) (r := (RX5, TX5, 9)) hx hb hK.1 hH.2 (kg_D G M R n) hS a 2 b 5 (by rw [kg_w_get G M R han, kg_cell_r G M R hsh]) rfl (by rw [kg_w_get G M R hbn, kg_cell_o G M R hsb]) rfl hi hd (fun H1 locs1 hP1 z1 hS1 => ?_)
  rw [kg_w_set G (M' := M) (R' := kg_rrow R a (va_up (R a) i.toNatClampNeg (some b))) han (fun _ _ => rfl) (fun x hx => kg_rrow_ne R _ hx) ?_] at hP1
  · exact k p e Ro s m args below meth c Q mc ms C hE hm1 hm2 hR H1 locs1 cells slots ls ⟨fun h => by rw [z1]; exact hH.1 h, hP1⟩ hS1 hc hs hl
  · rw [kg_cell_r G _ _ hsh, kg_rrow_eq]
    congr 7
    funext j
    by_cases hj : j = i.toNatClampNeg <;> simp [va_up, hj]
theorem kr_alen {a N : Nat} (hsh : kg_SH a = .inr (0, N)) (han : a < n) (hd : decode q.2.1 pc = .ok (.arraylength, 1)) (k : kg_Run G E q d (pc + 1) lv (.int (nI N) :: st) M R n kc ks Post) : kg_Run G E q d pc lv (.ref (kg_b G + a) :: st) M R n kc ks Post := by
  intro p e Ro s m args below meth c Q mc ms C hE hm1 hm2 hR H locs cells slots ls hH hS hc hs hl
  obtain ⟨hx, hb, hml, hown, hts, hK, hbs, hfr, hlo, hin⟩ := id C
  exact va_alen (D := G.1) (x := (N, .inl (M a))) (ty := .int) (v := nI N) hx hb hK.1 hH.2 a 0 (by rw [kg_w_get G M R han, kg_cell_i G M R hsh]) rfl rfl hd (k p e Ro s m args below meth c Q mc ms C hE hm1 hm2 hR H locs cells slots ls hH hS hc hs hl)
theorem kr_copy {a b N1 N2 i : Nat} {sp dp len : Int32} (hn : ¬ n < kg_all) (hlk : Cond.methodLink q.1.cls i arraycopyName ∈ kg_T) (h1 : kg_SH a = .inr (0, N1)) (h2 : kg_SH b = .inr (0, N2)) (ha : a < n) (hb2 : b < n) (g1 : ¬ sp < 0) (g2 : ¬ dp < 0) (g3 : ¬ len < 0) (g4 : sp.toNatClampNeg + len.toNatClampNeg ≤ N1) (g5 : dp.toNatClampNeg + len.toNatClampNeg ≤ N2) (hst : (st.map fun v => v.category).sum ≤ 8) (hd : decode q.2.1 pc = .ok (.invokestatic i, 3)) (k : kg_Run G E q d (pc + 3) lv st (kg_row M b (va_cpy (M a) (M b) sp.toNatClampNeg dp.toNatClampNeg len.toNatClampNeg)) R n kc ks Post) : kg_Run G E q d pc lv (.int len :: .int dp :: .ref (kg_b G + b) :: .int sp :: .ref (kg_b G + a) :: st) M R n kc ks Post := by
  intro p e Ro s m args below meth c Q mc ms C hE hm1 hm2 hR H locs cells slots ls hH hS hc hs hl
  obtain ⟨hx, hb, hml, hown, hts, hK, hbs, hfr, hlo, hin⟩ := id C
  refine va_copyi (D := G.1) (ty := .int) hx hb (by rw [hml]; exact hl.1.symm) hown (hts _ hlk) (hts _ kg_tNat) (hts _ kg_tStat) (hts _ kg_tSys) hK.1 hH.2 (kg_D G M R n) hS a b 0 0 (by rw [kg_w_get G M R ha, kg_cell_i G M R h1]) (by rw [kg_w_get G M R hb2, kg_cell_i G M R h2]) rfl rfl rfl g1 g2 g3 g4 g5 (fun _ _ => rfl) (by omega) ?_ hd (fun H1 locs1 hP1 hD1 hS1 => ?_)
  · have hw : nativeFrameWords "java/lang/System" "arraycopy" 5 + 11 ≤ 50 := by decide +kernel
    omega
  rw [kg_w_set G (M' := kg_row M b (va_cpy (M a) (M b) sp.toNatClampNeg dp.toNatClampNeg len.toNatClampNeg)) (R' := R) hb2 (fun x hx => kg_row_ne M _ hx) (fun _ _ => rfl) (by rw [kg_cell_i G _ _ h2, kg_row_eq])] at hP1
  exact k p e Ro s m args below meth c Q mc ms C hE hm1 hm2 hR H1 locs1 cells slots ls ⟨fun h => absurd h hn, hP1⟩ hS1 hc hs hl
theorem kr_objInit {a i : Nat} (hlk : Cond.methodLink q.1.cls i Lib.objectInit ∈ kg_T) (hst : (st.map fun v => v.category).sum ≤ 8) (hd : decode q.2.1 pc = .ok (.invokespecial i, 3)) (k : kg_Run G E q d (pc + 3) lv st M R n kc ks Post) : kg_Run G E q d pc lv (.ref a :: st) M R n kc ks Post := by
  intro p e Ro s m args below meth c Q mc ms C hE hm1 hm2 hR H locs cells slots ls hH hS hc hs hl
  obtain ⟨hx, hb, hml, hown, hts, hK, hbs, hfr, hlo, hin⟩ := id C
  refine W.objInit hx hb hown (hts _ hlk) (hts _ kg_tOi) (hts _ kg_tOc) rfl (by rw [hml]; exact hl.1) rfl hd (by omega) ?_ (k p e Ro s m args below meth c Q mc ms C hE hm1 hm2 hR H locs cells slots ls hH hS hc hs hl)
  show 2 * 0 + (st.map fun v => v.category).sum + 12 ≤ Ro.locals
  omega
theorem kr_new {ci N i : Nat} {Cn : String} {T : u_T} {ty : Nat → FieldType} (hC : kg_CK ci Cn T N ty) (hlk : Cond.classLink q.1.cls i Cn ∈ kg_T) (hsh : kg_SH n = .inl ci) (hn : n < kg_all) (hd : decode q.2.1 pc = .ok (.new i, 3)) (k : kg_Run G E q d (pc + 3) lv (.ref (kg_b G + n) :: st) (kg_row M n (fun _ => 0)) (kg_rrow R n (fun _ => none)) (n + 1) kc ks Post) : kg_Run G E q d pc lv st M R n (kc + 1) (ks + N) Post := by
  intro p e Ro s m args below meth c Q mc ms C hE hm1 hm2 hR H locs cells slots ls hH hS hc hs hl
  obtain ⟨hx, hb, hml, hown, hts, hK, hbs, hfr, hlo, hin⟩ := id C
  obtain ⟨k1, k2, k3, k4, k5, k6, k7, k8⟩ := hC
  have hKn := hK.1.1 ci _ k1
  have hsz := hH.1 hn
  refine W.newcK hx hb hown (hts _ hlk) (hts _ k6) (hts _ k7) rfl hd (by omega) (by omega) hKn.2.1 rfl fun H1 kC hkC e1 z1 o1 => ?_
  have hk : ∀ (k : Nat) (x : Nat × va_E), (kg_w G M R n)[k]? = some x → H1[x.1]? = H[x.1]? := fun k x hx => o1 x.1 ((hH.2 k x hx).lt)
  rw [hsz] at z1 e1 ⊢
  refine k p e Ro s m args below meth c Q mc ms C hE hm1 hm2 hR H1 locs (cells + 1) (slots + N) ls ⟨fun _ => by rw [z1]; omega, ?_⟩ ⟨by rw [z1]; have := hS.1; omega, fun x h1 h2 => (o1 x (by have := hS.1; omega)).trans (hS.2.1 x h1 h2), hS.2.2⟩ (by omega) (by omega) hl
  rw [← kg_w_push G (M := M) (R := R) (fun x hx => kg_row_ne M _ hx) (fun x hx => kg_rrow_ne R _ hx) (kg_cell_o G _ _ hsh)]
  refine (hH.2.kept hk).app (fun k x hx => ?_)
  have hz : k < 1 := (List.getElem?_eq_some_iff.mp hx).1
  rw [show k = 0 by omega] at hx
  cases hx
  refine ⟨_, k1, (u_born ty hts k2 hKn hkC e1 k3).to (fun j hj => ?_)⟩
  rw [k8 j hj]
  have hjl : j < (kg_kd.getD ci []).length := by rw [k5]; exact hj
  have hg : (kg_kd.getD ci [])[j]? = some ((kg_kd.getD ci [])[j]) := List.getElem?_eq_getElem hjl
  have hfs : (kg_fs (kg_b G) (kg_row M n (fun _ => 0)) (kg_rrow R n (fun _ => none)) n (kg_kd.getD ci []) 0)[j]? = some (if (kg_kd.getD ci [])[j]? = some true then Value.null else Value.int 0) := by
    rw [kg_fs_get, hg, kg_row_eq, kg_rrow_eq]
    cases (kg_kd.getD ci [])[j] <;> simp [va_rf]
  show _ = ((kg_fs (kg_b G) (kg_row M n (fun _ => 0)) (kg_rrow R n (fun _ => none)) n (kg_kd.getD ci []) 0)[j]?).getD .null
  rw [hfs]
  rfl
theorem kr_newi {N : Nat} {len : Int32} (hsh : kg_SH n = .inr (0, N)) (hn : n < kg_all) (h0 : ¬ len < 0) (hN : len.toNatClampNeg = N) (hB : N ≤ 20000) (hd : decode q.2.1 pc = .ok (.newarray .int, 2)) (k : kg_Run G E q d (pc + 2) lv (.ref (kg_b G + n) :: st) (kg_row M n (fun _ => 0)) (kg_rrow R n (fun _ => none)) (n + 1) kc ks Post) : kg_Run G E q d pc lv (.int len :: st) M R n (kc + 1) (ks + N) Post := by
  intro p e Ro s m args below meth c Q mc ms C hE hm1 hm2 hR H locs cells slots ls hH hS hc hs hl
  obtain ⟨hx, hb, hml, hown, hts, hK, hbs, hfr, hlo, hin⟩ := id C
  have hsz := hH.1 hn
  refine va_newaK hx hb (hts _ kg_tArr0) rfl hd rfl h0 hN ?_ (by omega) (by omega) hsz fun H1 cA e1 z1 o1 hAr hNm => ?_
  · have : componentBytes (newarray.typeOf .int) ≤ 8 := by decide +kernel
    exact Nat.le_trans (Nat.mul_le_mul hB this) (by decide)
  have hcA : cA = G.2.1.1 := Option.some.inj (hNm.symm.trans ((hK.1.2 0 _ rfl).2))
  subst hcA
  have hk : ∀ (k : Nat) (x : Nat × va_E), (kg_w G M R n)[k]? = some x → H1[x.1]? = H[x.1]? := fun k x hx => o1 x.1 (by have := (hH.2 k x hx).lt; omega)
  refine k p e Ro s m args below meth c Q mc ms C hE hm1 hm2 hR H1 locs (cells + 1) (slots + N) ls ⟨fun _ => by rw [z1]; omega, ?_⟩ ⟨by rw [z1]; have := hS.1; omega, fun x h1 h2 => (o1 x (by have := hS.1; omega)).trans (hS.2.1 x h1 h2), hS.2.2⟩ (by omega) (by omega) hl
  rw [← kg_w_push G (M := M) (R := R) (fun x hx => kg_row_ne M _ hx) (fun x hx => kg_rrow_ne R _ hx) (kg_cell_i G _ _ hsh)]
  refine (hH.2.kept hk).app (fun k x hx => ?_)
  have hz : k < 1 := (List.getElem?_eq_some_iff.mp hx).1
  rw [show k = 0 by omega] at hx
  cases hx
  show H1[kg_b G + n]? = some (vp_cell _ _)
  rw [e1, kg_row_eq]
  rfl
theorem kr_newz {N : Nat} {len : Int32} (hsh : kg_SH n = .inr (1, N)) (hn : n < kg_all) (h0 : ¬ len < 0) (hN : len.toNatClampNeg = N) (hB : N ≤ 20000) (hd : decode q.2.1 pc = .ok (.newarray .boolean, 2)) (k : kg_Run G E q d (pc + 2) lv (.ref (kg_b G + n) :: st) (kg_row M n (fun _ => 0)) (kg_rrow R n (fun _ => none)) (n + 1) kc ks Post) : kg_Run G E q d pc lv (.int len :: st) M R n (kc + 1) (ks + N) Post := by
  intro p e Ro s m args below meth c Q mc ms C hE hm1 hm2 hR H locs cells slots ls hH hS hc hs hl
  obtain ⟨hx, hb, hml, hown, hts, hK, hbs, hfr, hlo, hin⟩ := id C
  have hsz := hH.1 hn
  refine va_newaK hx hb (hts _ kg_tArr1) rfl hd rfl h0 hN ?_ (by omega) (by omega) hsz fun H1 cA e1 z1 o1 hAr hNm => ?_
  · have : componentBytes (newarray.typeOf .boolean) ≤ 8 := by decide +kernel
    exact Nat.le_trans (Nat.mul_le_mul hB this) (by decide)
  have hcA : cA = G.2.1.2.1 := Option.some.inj (hNm.symm.trans ((hK.1.2 1 _ rfl).2))
  subst hcA
  have hk : ∀ (k : Nat) (x : Nat × va_E), (kg_w G M R n)[k]? = some x → H1[x.1]? = H[x.1]? := fun k x hx => o1 x.1 (by have := (hH.2 k x hx).lt; omega)
  refine k p e Ro s m args below meth c Q mc ms C hE hm1 hm2 hR H1 locs (cells + 1) (slots + N) ls ⟨fun _ => by rw [z1]; omega, ?_⟩ ⟨by rw [z1]; have := hS.1; omega, fun x h1 h2 => (o1 x (by have := hS.1; omega)).trans (hS.2.1 x h1 h2), hS.2.2⟩ (by omega) (by omega) hl
  rw [← kg_w_push G (M := M) (R := R) (fun x hx => kg_row_ne M _ hx) (fun x hx => kg_rrow_ne R _ hx) (kg_cell_z G _ _ hsh)]
  refine (hH.2.kept hk).app (fun k x hx => ?_)
  have hz : k < 1 := (List.getElem?_eq_some_iff.mp hx).1
  rw [show k = 0 by omega] at hx
  cases hx
  show H1[kg_b G + n]? = some (vp_cell _ _)
  rw [e1, kg_row_eq]
  rfl
theorem kr_newa {N i : Nat} {len : Int32} (hlk : Cond.classLink q.1.cls i "KissGates$State" ∈ kg_T) (hsh : kg_SH n = .inr (2, N)) (hn : n < kg_all) (h0 : ¬ len < 0) (hN : len.toNatClampNeg = N) (hB : N ≤ 20000) (hd : decode q.2.1 pc = .ok (.anewarray i, 3)) (k : kg_Run G E q d (pc + 3) lv (.ref (kg_b G + n) :: st) (kg_row M n (fun _ => 0)) (kg_rrow R n (fun _ => none)) (n + 1) kc ks Post) : kg_Run G E q d pc lv (.int len :: st) M R n (kc + 1) (ks + N) Post := by
  intro p e Ro s m args below meth c Q mc ms C hE hm1 hm2 hR H locs cells slots ls hH hS hc hs hl
  obtain ⟨hx, hb, hml, hown, hts, hK, hbs, hfr, hlo, hin⟩ := id C
  have hsz := hH.1 hn
  subst hN
  refine W.anew hx hb hown (hts _ hlk) (va_AO.use hK.2.2) rfl hd rfl h0 (by omega) (by omega) (by omega) fun cA kA comp f1 f2 f3 f4 => ?_
  obtain ⟨kA2, comp2, j1, j2, j3, j4⟩ := (hK.1.2 2 _ rfl).2
  have hcA : cA = G.2.1.2.2 := Option.some.inj (f1.symm.trans j4)
  subst hcA
  generalize hH1 : H.push ({ cls := G.2.1.2.2, slots := Array.replicate len.toNatClampNeg .null, vm := .none } : Cell) = H1
  have z1 : H1.size = H.size + 1 := by rw [← hH1, Array.size_push]
  have e1 : H1[H.size]? = some (arrV G.2.1.2.2 len.toNatClampNeg (fun _ => .null)) := by rw [← hH1, Array.getElem?_push_size, ← arrV_new]
  have o1 : ∀ q : Nat, q < H.size → H1[q]? = H[q]? := fun q hq => by rw [← hH1, Array.getElem?_push, if_neg (Nat.ne_of_lt hq)]
  rw [hsz] at z1 e1 ⊢
  have hk : ∀ (k : Nat) (x : Nat × va_E), (kg_w G M R n)[k]? = some x → H1[x.1]? = H[x.1]? := fun k x hx => o1 x.1 ((hH.2 k x hx).lt)
  refine k p e Ro s m args below meth c Q mc ms C hE hm1 hm2 hR H1 locs (cells + 1) (slots + len.toNatClampNeg) ls ⟨fun _ => by rw [z1]; omega, ?_⟩ ⟨by rw [z1]; have := hS.1; omega, fun x h1 h2 => (o1 x (by have := hS.1; omega)).trans (hS.2.1 x h1 h2), hS.2.2⟩ (by omega) (by omega) hl
  rw [← kg_w_push G (M := M) (R := R) (fun x hx => kg_row_ne M _ hx) (fun x hx => kg_rrow_ne R _ hx) (kg_cell_r G _ _ hsh)]
  refine (hH.2.kept hk).app (fun k x hx => ?_)
  have hz : k < 1 := (List.getElem?_eq_some_iff.mp hx).1
  rw [show k = 0 by omega] at hx
  cases hx
  show H1[kg_b G + n]? = some (vp_cell _ _)
  rw [e1, kg_rrow_eq]
  rfl
end KR
/-! ===== calls: a method's Run from its entry is its contract ===== -/
def kg_Qc (G : kg_G) (Post : kg_Post) : Array Value → State → Outcome → State → Prop := fun _ st oc t => (∃ (r : Option Int32) (M' : kg_M) (R' : kg_R) (n' : Nat), oc = .returned (r.map Value.int) ∧ Post r M' R' n' ∧ kg_H G M' R' n' t.heap) ∧ va_F (kg_A G) st t
/-- the answer is of the method's type -/
def kg_rt (y : kg_q) (Post : kg_Post) : Prop := (∀ (x : Int32) (M : kg_M) (R : kg_R) (n : Nat), Post (some x) M R n → ∃ ty, y.2.2.2 = some ty ∧ narrow ty (.int x) = .int x) ∧ ∀ (M : kg_M) (R : kg_R) (n : Nat), Post none M R n → y.2.2.2 = none
theorem kg_met {G : kg_G} {y : kg_q} {d n kc ks : Nat} {av : List Value} {M : kg_M} {R : kg_R} {Post : kg_Post} (hp : plainName y.1.cls = true) (hav : (lg_sl av).length ≤ y.2.2.1) (hrt : kg_rt y Post) (h : kg_Run G kg_E0 y d 0 (lv_args 0 av) [] M R n kc ks Post) :
    Met G.2.2.2 y.1 (Cond.code y.1 y.2.1 y.2.2.1 y.2.2.2 :: kg_T) ({ frames := d + 1, cells := kc, slots := ks, locals := 60 * d + 60 }) (va_Pc av (fun U => kg_b G ≤ U.heap.size ∧ kg_H G M R n U.heap ∧ kg_KK G U)) (kg_Qc G Post) kc ks (kg_A G) := by
  refine Met.ofW (cc := y.2.1) (maxL := y.2.2.1) (ret := y.2.2.2) hp rfl ?_
  intro p e s m args below meth c s₁ B hml hv
  obtain ⟨rfl, hbs, hH, hK⟩ := hv
  have hts := atoms_spec (ws := Cond.code y.1 y.2.1 y.2.2.1 y.2.2.2 :: kg_T) B.pre
  have hl := lv_entry av (n := y.2.2.1) hav
  rw [lg_entry_eq]
  have hlocks := B.notSynchronized
  refine h p e _ s m _ below meth c _ kc ks ⟨B.exec, B.bytes, hml, findClass_of_methodNamed B.named, fun w hw => hts w (List.mem_cons_of_mem _ hw), hK, hbs, Nat.le_refl _, Nat.le_refl _, fun hn => (name_of_methodNamed B.named B.method).1.trans hn⟩ trivial (Nat.le_refl _) (Nat.le_refl _) ⟨?_, ?_⟩ s.heap [] 0 0 _ hH va_S.rf (by omega) (by omega) hl
  · intro pc ls r M' R' n' H locs cells slots hd hP hH' hS hc hs
    obtain ⟨ty, h1, h2⟩ := hrt.1 _ _ _ _ hP
    refine W.widen hc hs ?_
    exact W.zret B.exec B.bytes (B.returns.trans h1) h2 (fun t ht hW => ⟨⟨some r, M', R', n', rfl, hP, by rw [ht]; exact hH'⟩, hS.F ht⟩) hS.2.2 hd hlocks
  · intro pc ls M' R' n' H locs cells slots hd hP hH' hS hc hs
    refine W.widen hc hs ?_
    exact W.vret B.exec B.bytes (B.returns.trans (hrt.2 _ _ _ hP)) (fun t ht hW => ⟨⟨none, M', R', n', rfl, hP, by rw [ht]; exact hH'⟩, hS.F ht⟩) hS.2.2 hd hlocks
theorem kg_call {G : kg_G} {p : Program} {e : Env} {Ro : Room} {s : State} {m : MethodId} {args : Array Value} {below : List Frame} {meth : Method} {c : Code} {H H0 : Heap} {locs : List Loc} {cells slots mc ms pc : Nat} {Q : State → Prop} {ls : Array Slot} {rest st0 : List Value} {a : Array Value} {Post : kg_Post}
    (hr : va_Run p G.2.2.2 e Ro s m args below meth c H locs cells slots mc ms (F0 m pc ls st0) rest (kg_Qc G Post a) (kg_A G)) (hS : va_S (kg_A G) H0 H locs)
    (kk : ∀ (r : Option Int32) (M' : kg_M) (R' : kg_R) (n' : Nat) (H1 : Heap) (locs1 : List Loc), Post r M' R' n' → kg_H G M' R' n' H1 → va_S (kg_A G) H0 H1 locs1 → W p G.2.2.2 e Ro s m args below meth c H1 locs1 (cells + mc) (slots + ms) Q (F0 m (pc + 3) ls ((r.map Value.int).toList ++ rest))) : W p G.2.2.2 e Ro s m args below meth c H locs cells slots Q (F0 m pc ls st0) := by
  intro T hT X
  obtain ⟨v, st₀, t, T', L, h0, X', hL, e1, e2, ⟨⟨r, M', R', n', hv, hp, hH'⟩, hz, hk⟩, st⟩ := hr T hT X
  have hv2 : v = r.map Value.int := Outcome.returned.inj hv
  subst hv2
  rw [h0] at hz hk
  obtain ⟨t2, a1, b1⟩ := kk r M' R' n' T'.heap (locs ++ L) hp (by rw [e1]; exact hH')
    ⟨Nat.le_trans hS.1 (by rw [e1]; exact hz), fun q h1 h2 => by rw [e1, hk q (Nat.lt_of_lt_of_le h1 hS.1) h2]; exact hS.2.1 q h1 h2, fun q hq => by
      rcases List.mem_append.mp hq with h | h
      · exact hS.2.2 q h
      · exact hL q h⟩ T' rfl X'
  exact ⟨t2, st t2 a1, b1⟩
/-- what is fixed of a method -/
def kg_MB (y : kg_q) (N : Nat) : Prop := Cond.code y.1 y.2.1 y.2.2.1 y.2.2.2 ∈ kg_T ∧ Cond.initialized y.1.cls ∈ kg_T ∧ (y.1.cls ≠ "java/lang/invoke/MethodHandle" ∧ y.1.cls ≠ "java/lang/invoke/VarHandle" ∧ (parseMethodDescriptor y.1.desc).map (fun d => d.parameters.length) = some N) ∧ plainName y.1.cls = true ∧ y.2.2.1 ≤ 40
def kg_MV (y : kg_q) (N : Nat) : Prop := kg_MB y N ∧ Cond.instanceMethod y.1 ∈ kg_T ∧ Cond.selects y.1.cls y.1 y.1 ∈ kg_T
def kg_MS (y : kg_q) (N : Nat) : Prop := kg_MB y N ∧ Cond.static y.1 ∈ kg_T
def kg_MI (y : kg_q) (N : Nat) : Prop := kg_MB y N ∧ Cond.instanceMethod y.1 ∈ kg_T ∧ y.1.name = "<init>" ∧ y.2.2.2 = none
theorem kg_blind {G : kg_G} {M : kg_M} {R : kg_R} {n : Nat} {av : List Value} : FrameBlind (va_Pc av (fun U => kg_b G ≤ U.heap.size ∧ kg_H G M R n U.heap ∧ kg_KK G U)) := fun a U g mk h => ⟨h.1, h.2.1, h.2.2.1, kg_KK.same h.2.2.2 rfl⟩
section KC
variable {G : kg_G} {E : State → Array Value → Prop} {q : kg_q} {d pc : Nat} {lv : List (Nat × Value)} {st : List Value} {M : kg_M} {R : kg_R} {n kc ks : Nat} {Post : kg_Post}
theorem kr_callV {y : kg_q} {N d' i a ci kc' ks' : Nat} {Post' : kg_Post} (As rest : List Value) (hm : kg_MV y N) (hlk : Cond.methodLink q.1.cls i y.1 ∈ kg_T) (hsh : kg_SH a = .inl ci) (hci : (vwCl[ci]?).map (fun w => w.1) = some y.1.cls) (han : a < n) (hd : decode q.2.1 pc = .ok (.invokevirtual i, 3)) (hrt : kg_rt y Post') (hrun : kg_Run G kg_E0 y d' 0 (lv_args 0 (.ref (kg_b G + a) :: As)) [] M R n kc' ks' Post') (k : ∀ (r : Option Int32) (M' : kg_M) (R' : kg_R) (n' : Nat), Post' r M' R' n' → kg_Run G E q d (pc + 3) lv ((r.map Value.int).toList ++ rest) M' R' n' kc ks Post) (hst : st = As.reverse ++ .ref (kg_b G + a) :: rest := by rfl) (hd' : d' + 1 ≤ d := by decide) (hlen : As.length = N := by rfl) (hav : (lg_sl (.ref (kg_b G + a) :: As)).length ≤ y.2.2.1 := by decide) (hrest : (rest.map fun v => v.category).sum ≤ 8 := by decide) : kg_Run G E q d pc lv st M R n (kc + kc') (ks + ks') Post := by
  intro p e Ro s m args below meth c Q mc ms C hE hm1 hm2 hR H locs cells slots ls hH hS hc hs hl
  obtain ⟨hx, hb, hml, hown, hts, hK, hbs, hfr, hlo, hin⟩ := id C
  subst hst
  have hM := kg_met (d := d') hm.1.2.2.2.1 hav hrt hrun
  have hmx := hm.1.2.2.2.2
  obtain ⟨cq, hc1, hc2⟩ := Option.map_eq_some_iff.mp hci
  have hrv := va_recv hK.1 hH.2 hc1 (by rw [kg_w_get G M R han, kg_cell_o G M R hsh])
  rw [hc2] at hrv
  exact kg_call (va_runV (C := y.1.cls) (As := As) (rest := rest) ⟨hx, hb, hml, hown, hts⟩ hM ⟨callB_of N hts (kg_good hm.1.1) rfl rfl rfl (hts _ hm.1.2.1) (hts _ hlk) hm.1.2.2.1 ⟨by show d' + 1 + 1 ≤ Ro.frames; omega, by show 8 + (y.2.2.1 + 11) + (60 * d' + 60) ≤ Ro.locals; omega⟩, hts _ hm.2.1, hts _ hm.2.2⟩ ⟨kg_blind, hrv, fun U hU hW => ⟨rfl, by rw [hU]; exact Nat.le_trans hbs hS.1, by rw [hU]; exact hH, kg_KK.warm hK hW⟩⟩ rfl hlen hl.1 rfl (lv_room hrest) hd ⟨by omega, by omega⟩) hS (fun r M' R' n' H1 locs1 hp hH1 hS1 => k r M' R' n' hp p e Ro s m args below meth c Q mc ms C hE hm1 hm2 hR H1 locs1 (cells + kc') (slots + ks') ls hH1 hS1 (by omega) (by omega) hl)
theorem kr_callS {y : kg_q} {N d' i kc' ks' : Nat} {Post' : kg_Post} (As rest : List Value) (hm : kg_MS y N) (hlk : Cond.methodLink q.1.cls i y.1 ∈ kg_T) (hd : decode q.2.1 pc = .ok (.invokestatic i, 3)) (hrt : kg_rt y Post') (hrun : kg_Run G kg_E0 y d' 0 (lv_args 0 As) [] M R n kc' ks' Post') (k : ∀ (r : Option Int32) (M' : kg_M) (R' : kg_R) (n' : Nat), Post' r M' R' n' → kg_Run G E q d (pc + 3) lv ((r.map Value.int).toList ++ rest) M' R' n' kc ks Post) (hst : st = As.reverse ++ rest := by rfl) (hd' : d' + 1 ≤ d := by decide) (hlen : As.length = N := by rfl) (hav : (lg_sl As).length ≤ y.2.2.1 := by decide) (hrest : (rest.map fun v => v.category).sum ≤ 8 := by decide) : kg_Run G E q d pc lv st M R n (kc + kc') (ks + ks') Post := by
  intro p e Ro s m args below meth c Q mc ms C hE hm1 hm2 hR H locs cells slots ls hH hS hc hs hl
  obtain ⟨hx, hb, hml, hown, hts, hK, hbs, hfr, hlo, hin⟩ := id C
  subst hst
  have hM := kg_met (d := d') hm.1.2.2.2.1 hav hrt hrun
  have hmx := hm.1.2.2.2.2
  exact kg_call (va_runS (As := As) (rest := rest) ⟨hx, hb, hml, hown, hts⟩ hM ⟨callB_of N hts (kg_good hm.1.1) rfl rfl rfl (hts _ hm.1.2.1) (hts _ hlk) hm.1.2.2.1 ⟨by show d' + 1 + 1 ≤ Ro.frames; omega, by show 8 + (y.2.2.1 + 11) + (60 * d' + 60) ≤ Ro.locals; omega⟩, hts _ hm.2⟩ ⟨kg_blind, fun U hU hW => ⟨rfl, by rw [hU]; exact Nat.le_trans hbs hS.1, by rw [hU]; exact hH, kg_KK.warm hK hW⟩⟩ rfl hlen hl.1 rfl (lv_room hrest) hd ⟨by omega, by omega⟩) hS (fun r M' R' n' H1 locs1 hp hH1 hS1 => k r M' R' n' hp p e Ro s m args below meth c Q mc ms C hE hm1 hm2 hR H1 locs1 (cells + kc') (slots + ks') ls hH1 hS1 (by omega) (by omega) hl)
theorem kr_callI {y : kg_q} {N d' i a kc' ks' : Nat} {Post' : kg_Post} (As rest : List Value) (hm : kg_MI y N) (hlk : Cond.methodLink q.1.cls i y.1 ∈ kg_T) (hd : decode q.2.1 pc = .ok (.invokespecial i, 3)) (hrt : kg_rt y Post') (hrun : kg_Run G kg_E0 y d' 0 (lv_args 0 (.ref (kg_b G + a) :: As)) [] M R n kc' ks' Post') (k : ∀ (r : Option Int32) (M' : kg_M) (R' : kg_R) (n' : Nat), Post' r M' R' n' → kg_Run G E q d (pc + 3) lv ((r.map Value.int).toList ++ rest) M' R' n' kc ks Post) (hst : st = As.reverse ++ .ref (kg_b G + a) :: rest := by rfl) (hd' : d' + 1 ≤ d := by decide) (hlen : As.length = N := by rfl) (hav : (lg_sl (.ref (kg_b G + a) :: As)).length ≤ y.2.2.1 := by decide) (hrest : (rest.map fun v => v.category).sum ≤ 8 := by decide) : kg_Run G E q d pc lv st M R n (kc + kc') (ks + ks') Post := by
  intro p e Ro s m args below meth c Q mc ms C hE hm1 hm2 hR H locs cells slots ls hH hS hc hs hl
  obtain ⟨hx, hb, hml, hown, hts, hK, hbs, hfr, hlo, hin⟩ := id C
  subst hst
  have hyr := hm.2.2.2
  have hgd := kg_good hm.1.1
  have hM := kg_met (d := d') hm.1.2.2.2.1 hav hrt hrun
  rw [hyr] at hM hgd
  have hmx := hm.1.2.2.2.2
  exact kg_call (va_runI (As := As) (rest := rest) ⟨hx, hb, hml, hown, hts⟩ hM ⟨callB_of (ret := none) N hts hgd rfl rfl rfl (hts _ hm.1.2.1) (hts _ hlk) hm.1.2.2.1 ⟨by show d' + 1 + 1 ≤ Ro.frames; omega, by show 8 + (y.2.2.1 + 11) + (60 * d' + 60) ≤ Ro.locals; omega⟩, hm.2.2.1, hts _ hm.2.1⟩ ⟨kg_blind, fun U hU hW => ⟨rfl, by rw [hU]; exact Nat.le_trans hbs hS.1, by rw [hU]; exact hH, kg_KK.warm hK hW⟩⟩ rfl hlen hl.1 rfl (lv_room hrest) hd ⟨by omega, by omega⟩) hS (fun r M' R' n' H1 locs1 hp hH1 hS1 => k r M' R' n' hp p e Ro s m args below meth c Q mc ms C hE hm1 hm2 hR H1 locs1 (cells + kc') (slots + ks') ls hH1 hS1 (by omega) (by omega) hl)
theorem kr_callIN {y : kg_q} {host : String} {N d' i a kc' ks' : Nat} {Post' : kg_Post} (As rest : List Value) (hm : kg_MI y N) (hlk : (q.1.cls, i, y.1, host) ∈ kg_nest) (hd : decode q.2.1 pc = .ok (.invokespecial i, 3)) (hrt : kg_rt y Post') (hrun : kg_Run G kg_E0 y d' 0 (lv_args 0 (.ref (kg_b G + a) :: As)) [] M R n kc' ks' Post') (k : ∀ (r : Option Int32) (M' : kg_M) (R' : kg_R) (n' : Nat), Post' r M' R' n' → kg_Run G E q d (pc + 3) lv ((r.map Value.int).toList ++ rest) M' R' n' kc ks Post) (hst : st = As.reverse ++ .ref (kg_b G + a) :: rest := by rfl) (hd' : d' + 1 ≤ d := by decide) (hlen : As.length = N := by rfl) (hav : (lg_sl (.ref (kg_b G + a) :: As)).length ≤ y.2.2.1 := by decide) (hrest : (rest.map fun v => v.category).sum ≤ 8 := by decide) : kg_Run G E q d pc lv st M R n (kc + kc') (ks + ks') Post := by
  intro p e Ro s m args below meth c Q mc ms C hE hm1 hm2 hR H locs cells slots ls hH hS hc hs hl
  obtain ⟨hx, hb, hml, hown, hts, hK, hbs, hfr, hlo, hin⟩ := id C
  subst hst
  have hyr := hm.2.2.2
  have hgd := kg_good hm.1.1
  have hM := kg_met (d := d') hm.1.2.2.2.1 hav hrt hrun
  rw [hyr] at hM hgd
  have hmx := hm.1.2.2.2.2
  exact kg_call (va_runIN (As := As) (rest := rest) ⟨hx, hb, hml, hown, hts⟩ hM ⟨va_cnB (ret := none) N hts hgd rfl rfl rfl (hK.2.1 (q.1.cls, i, y.1, host) hlk) (hts _ hm.1.2.1) hm.1.2.2.1 ⟨by show d' + 1 + 1 ≤ Ro.frames; omega, by show 8 + (y.2.2.1 + 11) + (60 * d' + 60) ≤ Ro.locals; omega⟩, hm.2.2.1, hts _ hm.2.1⟩ ⟨kg_blind, fun U hU hW => ⟨rfl, by rw [hU]; exact Nat.le_trans hbs hS.1, by rw [hU]; exact hH, kg_KK.warm hK hW⟩⟩ rfl hlen hl.1 rfl (lv_room hrest) hd ⟨by omega, by omega⟩) hS (fun r M' R' n' H1 locs1 hp hH1 hS1 => k r M' R' n' hp p e Ro s m args below meth c Q mc ms C hE hm1 hm2 hR H1 locs1 (cells + kc') (slots + ks') ls hH1 hS1 (by omega) (by omega) hl)
end KC
