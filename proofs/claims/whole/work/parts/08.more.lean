theorem kg_mmax1 : Cond.static Lib.Math.max.name ∈ kg_T := kg_inT 659 (by decide +kernel) rfl
theorem kg_mmax2 : Cond.code Lib.Math.max.name Lib.Math.max.code 2 (some .int) ∈ kg_T := kg_inT 660 (by decide +kernel) rfl
theorem kg_mmin1 : Cond.static Lib.Math.min.name ∈ kg_T := kg_inT 499 (by decide +kernel) rfl
theorem kg_mmin2 : Cond.code Lib.Math.min.name Lib.Math.min.code 2 (some .int) ∈ kg_T := kg_inT 500 (by decide +kernel) rfl
theorem kg_tMath : Cond.initialized "java/lang/Math" ∈ kg_T := kg_inT 77 (by decide +kernel) rfl
section KX
variable {G : kg_G} {E : State → Array Value → Prop} {q : kg_q} {d pc : Nat} {lv : List (Nat × Value)} {st : List Value} {M : kg_M} {R : kg_R} {n kc ks : Nat} {Post : kg_Post}
theorem kr_mmax {i : Nat} {x y : Int32} (hlk : Cond.methodLink q.1.cls i Lib.Math.max.name ∈ kg_T) (hst : (st.map fun v => v.category).sum ≤ 8) (hd : decode q.2.1 pc = .ok (.invokestatic i, 3)) (k : kg_Run G E q d (pc + 3) lv (.int (if x < y then y else x) :: st) M R n kc ks Post) : kg_Run G E q d pc lv (.int y :: .int x :: st) M R n kc ks Post := by
  intro p e Ro s m args below meth c Q mc ms C hE hm1 hm2 hR H locs cells slots ls hH hS hc hs hl
  obtain ⟨hx, hb, hml, hown, hts, hK, hbs, hfr, hlo, hin⟩ := id C
  exact va_mmax hx hb (by rw [hml]; exact hl.1.symm) hown (hts _ hlk) (hts _ kg_mmax1) (hts _ kg_tMath) (hts _ kg_mmax2) (by omega) (by omega) (by omega) (by omega) hd (k p e Ro s m args below meth c Q mc ms C hE hm1 hm2 hR H locs cells slots ls hH hS hc hs hl)
theorem kr_mmin {i : Nat} {x y : Int32} (hlk : Cond.methodLink q.1.cls i Lib.Math.min.name ∈ kg_T) (hst : (st.map fun v => v.category).sum ≤ 8) (hd : decode q.2.1 pc = .ok (.invokestatic i, 3)) (k : kg_Run G E q d (pc + 3) lv (.int (if y < x then y else x) :: st) M R n kc ks Post) : kg_Run G E q d pc lv (.int y :: .int x :: st) M R n kc ks Post := by
  intro p e Ro s m args below meth c Q mc ms C hE hm1 hm2 hR H locs cells slots ls hH hS hc hs hl
  obtain ⟨hx, hb, hml, hown, hts, hK, hbs, hfr, hlo, hin⟩ := id C
  exact va_mmin hx hb (by rw [hml]; exact hl.1.symm) hown (hts _ hlk) (hts _ kg_mmin1) (hts _ kg_tMath) (hts _ kg_mmin2) (by omega) (by omega) (by omega) (by omega) hd (k p e Ro s m args below meth c Q mc ms C hE hm1 hm2 hR H locs cells slots ls hH hS hc hs hl)
theorem kr_sld {b L : Nat} {xs : Nat → Int32} {i : Int32} (hE2 : ∀ s args, E s args → va_X b L xs s s.heap ∧ b < s.heap.size ∧ b < kg_b G) (hi : vp_in i L) (hd : decode q.2.1 pc = .ok (.iaload, 1)) (k : kg_Run G E q d (pc + 1) lv (.int (xs i.toNatClampNeg) :: st) M R n kc ks Post) : kg_Run G E q d pc lv (.int i :: .ref b :: st) M R n kc ks Post := by
  intro p e Ro s m args below meth c Q mc ms C hE hm1 hm2 hR H locs cells slots ls hH hS hc hs hl
  obtain ⟨hx, hb, hml, hown, hts, hK, hbs, hfr, hlo, hin⟩ := id C
  obtain ⟨hX, hb1, hb2⟩ := hE2 s args hE
  exact va_sld (A := kg_A G) hx hb hX hb1 (Nat.not_le.mpr hb2) hS hi hd (k p e Ro s m args below meth c Q mc ms C hE hm1 hm2 hR H locs cells slots ls hH hS hc hs hl)
theorem kr_slen {b L : Nat} {xs : Nat → Int32} (hE2 : ∀ s args, E s args → va_X b L xs s s.heap ∧ b < s.heap.size ∧ b < kg_b G) (hd : decode q.2.1 pc = .ok (.arraylength, 1)) (k : kg_Run G E q d (pc + 1) lv (.int (nI L) :: st) M R n kc ks Post) : kg_Run G E q d pc lv (.ref b :: st) M R n kc ks Post := by
  intro p e Ro s m args below meth c Q mc ms C hE hm1 hm2 hR H locs cells slots ls hH hS hc hs hl
  obtain ⟨hx, hb, hml, hown, hts, hK, hbs, hfr, hlo, hin⟩ := id C
  obtain ⟨hX, hb1, hb2⟩ := hE2 s args hE
  exact va_slen (A := kg_A G) hx hb hX hb1 (Nat.not_le.mpr hb2) hS hd (k p e Ro s m args below meth c Q mc ms C hE hm1 hm2 hR H locs cells slots ls hH hS hc hs hl)
end KX
