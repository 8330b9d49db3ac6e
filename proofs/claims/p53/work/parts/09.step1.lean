/-! AN INSTRUCTION OF THE INTERPRETER IS ONE OF THE MACHINE: stack, locals, numbers, jumps. -/
section STEP1
variable {p : Program} {l : Launch} {e : Env} {R : Room} {s : State} {m : MethodId} {args : Array Value} {below : List Frame} {meth : Method} {c : Code} {H : Heap} {locs : List Loc} {cells slots : Nat} {Q : State → Prop}
variable {A : Nat → Prop} {D : va_G} {cA : Nat → ClassId} {sA ρ : Nat → Nat} {M : Nat} {ls : Array Slot} {L st : List Value} {σ : xS} {pc nx a b : Nat} {v : Value}
/-- what is owed behind a step: the machine goes on as the interpreter does -/
def x_K (A : Nat → Prop) (D : va_G) (cA : Nat → ClassId) (sA ρ : Nat → Nat) (M : Nat) (p : Program) (l : Launch) (e : Env) (R : Room) (s : State) (m : MethodId) (args : Array Value) (below : List Frame) (meth : Method) (c : Code) (cells slots : Nat) (Q : State → Prop) (σ : xS) (g : xGo) : Prop :=
  ∀ (ρ' : Nat → Nat) (ls' : Array Slot) (H' : Heap) (locs' : List Loc) (cells' slots' : Nat), x_ag σ.1.length ρ ρ' → cells' + σ.2.1 = cells + g.2.2.2.2.1 → slots' + σ.2.2 = slots + g.2.2.2.2.2 → x_at A D cA sA ρ' M s H' locs' ls' g.2.1 g.2.2.2 →
    W p l e R s m args below meth c H' locs' cells' slots' Q (F0 m g.1 ls' (g.2.2.1.map (x_v ρ')))
theorem x_K.same {g : xGo} (hk : x_K A D cA sA ρ M p l e R s m args below meth c cells slots Q σ g) (hs : g.2.2.2 = σ) (hat : x_at A D cA sA ρ M s H locs ls g.2.1 σ) : W p l e R s m args below meth c H locs cells slots Q (F0 m g.1 ls (g.2.2.1.map (x_v ρ))) :=
  hk ρ ls H locs cells slots x_ag.rf (by rw [hs]) (by rw [hs]) (by rw [hs]; exact hat)
theorem xone_of {i : Instr} (h : xone M pc i nx) : nx = pc + 1 := h.2
theorem x_cats (r : List Value) : ((r.map (x_v ρ)).map fun v => v.category).sum = xcat r := by
  induction r with
  | nil => rfl
  | cons v r ih => simp only [List.map_cons, List.sum_cons, ih, xcat, x_v_cat]
theorem x_load (F : x_F A D cA sA M p s m args meth c) (hat : x_at A D cA sA ρ M s H locs ls L σ) {i t : Nat} {w : Value} (hw : L[i]? = some w) (ht : xsort w = t) (h6 : t ≠ 6) : ls[i]? = some (.val (x_v ρ w)) := by
  refine hat.2.2.2.1.at (i := i) (v := x_v ρ w) (by rw [List.getElem?_map, hw]; rfl) (fun q => ?_)
  rw [x_v_no] at q
  rw [q] at ht
  exact h6 ht.symm
theorem x_put1 (hat : x_at A D cA sA ρ M s H locs ls L σ) {i : Nat} {w : Value} {ls' : Array Slot} (hc : w.category = 1) (h : lv_has ls' (xm M).2.2.1 ((i, x_v ρ w) :: (xpr 0 (L.map (x_v ρ))).filter (fun q => !(q.1 == i) && !(q.1 + 1 == i && q.2.category == 2)))) : x_at A D cA sA ρ M s H locs ls' (xput L i w) σ := by
  have h2 := x_L.of1 hat.2.2.2.1.1 (by rw [x_v_cat]; exact hc) h
  rw [xput_map] at h2
  exact ⟨hat.1, hat.2.1, hat.2.2.1, h2, hat.2.2.2.2⟩
theorem x_put2 (hat : x_at A D cA sA ρ M s H locs ls L σ) {i : Nat} {w : Value} {ls' : Array Slot} (hc : w.category = 2) (h : lv_has ls' (xm M).2.2.1 ((i, x_v ρ w) :: (xpr 0 (L.map (x_v ρ))).filter (fun q => !(q.1 == i) && (!(q.1 == i + 1) && !(q.1 + 1 == i && q.2.category == 2))))) : x_at A D cA sA ρ M s H locs ls' (xput L i w) σ := by
  have h2 := x_L.of2 hat.2.2.2.1.1 (by rw [x_v_cat]; exact hc) h
  rw [xput_map] at h2
  exact ⟨hat.1, hat.2.1, hat.2.2.1, h2, hat.2.2.2.2⟩
theorem x_len (hat : x_at A D cA sA ρ M s H locs ls L σ) : L.length = (xm M).2.2.1 := by
  have := hat.2.2.2.1.1
  rwa [List.length_map] at this
/-- two ways on -/
theorem x_if {cd : ClassFile.Cond} {x y : Int32} {a b : Option xA} {g : xGo} (h : xif cd x y a b = some (.inl g)) : (Op.if_icmp.holds cd x y = true ∧ a = some (.inl g)) ∨ (Op.if_icmp.holds cd x y = false ∧ b = some (.inl g)) := by
  unfold xif at h
  cases cd <;> simp only [Op.if_icmp.holds] at h ⊢ <;> split at h <;> rename_i q
  · exact Or.inl ⟨by simpa using q, h⟩
  · exact Or.inr ⟨by simpa using q, h⟩
  · exact Or.inr ⟨by simpa using q, h⟩
  · exact Or.inl ⟨by simpa using q, h⟩
  · exact Or.inl ⟨by simpa using q, h⟩
  · exact Or.inr ⟨by simpa using q, h⟩
  · exact Or.inr ⟨by simpa using q, h⟩
  · exact Or.inl ⟨by simpa using q, h⟩
  · exact Or.inl ⟨by simpa using q, h⟩
  · exact Or.inr ⟨by simpa using q, h⟩
  · exact Or.inr ⟨by simpa using q, h⟩
  · exact Or.inl ⟨by simpa using q, h⟩
theorem x_ifW {cc : ByteArray} {rest : List Value} (hexec : p.tables.exec = Jvm.exec) (hb : c.code = cc) {cd : ClassFile.Cond} {x : Int32} {off : Int} {tgt : Nat} (hdg : decode cc pc = .ok (.ifCond cd off, 3)) (ht : (pc : Int) + off = (tgt : Int))
    (kt : Op.if_icmp.holds cd x 0 = true → W p l e R s m args below meth c H locs cells slots Q (F0 m tgt ls rest)) (kf : Op.if_icmp.holds cd x 0 = false → W p l e R s m args below meth c H locs cells slots Q (F0 m (pc + 3) ls rest)) : W p l e R s m args below meth c H locs cells slots Q (F0 m pc ls (.int x :: rest)) := by
  cases cd
  · exact lv_if_eq hexec hb hdg ht (fun q => kt (by simpa [Op.if_icmp.holds] using q)) (fun q => kf (by simpa [Op.if_icmp.holds] using q))
  · exact lv_if_ne hexec hb hdg ht (fun q => kt (by simpa [Op.if_icmp.holds] using q)) (fun q => kf (by simpa [Op.if_icmp.holds] using q))
  · exact lv_if_lt hexec hb hdg ht (fun q => kt (by simpa [Op.if_icmp.holds] using q)) (fun q => kf (by simpa [Op.if_icmp.holds] using q))
  · exact lv_if_ge hexec hb hdg ht (fun q => kt (by simpa [Op.if_icmp.holds] using q)) (fun q => kf (by simpa [Op.if_icmp.holds] using q))
  · exact lv_if_gt hexec hb hdg ht (fun q => kt (by simpa [Op.if_icmp.holds] using q)) (fun q => kf (by simpa [Op.if_icmp.holds] using q))
  · exact lv_if_le hexec hb hdg ht (fun q => kt (by simpa [Op.if_icmp.holds] using q)) (fun q => kf (by simpa [Op.if_icmp.holds] using q))
theorem x_icmpW {cc : ByteArray} {rest : List Value} (hexec : p.tables.exec = Jvm.exec) (hb : c.code = cc) {cd : ClassFile.Cond} {x y : Int32} {off : Int} {tgt : Nat} (hdg : decode cc pc = .ok (.if_icmp cd off, 3)) (ht : (pc : Int) + off = (tgt : Int))
    (kt : Op.if_icmp.holds cd x y = true → W p l e R s m args below meth c H locs cells slots Q (F0 m tgt ls rest)) (kf : Op.if_icmp.holds cd x y = false → W p l e R s m args below meth c H locs cells slots Q (F0 m (pc + 3) ls rest)) : W p l e R s m args below meth c H locs cells slots Q (F0 m pc ls (.int y :: .int x :: rest)) := by
  cases cd
  · exact lv_icmp_eq hexec hb hdg ht (fun q => kt (by simpa [Op.if_icmp.holds] using q)) (fun q => kf (by simpa [Op.if_icmp.holds] using q))
  · exact lv_icmp_ne hexec hb hdg ht (fun q => kt (by simpa [Op.if_icmp.holds] using q)) (fun q => kf (by simpa [Op.if_icmp.holds] using q))
  · exact lv_icmp_lt hexec hb hdg ht (fun q => kt (by simpa [Op.if_icmp.holds] using q)) (fun q => kf (by simpa [Op.if_icmp.holds] using q))
  · exact lv_icmp_ge hexec hb hdg ht (fun q => kt (by simpa [Op.if_icmp.holds] using q)) (fun q => kf (by simpa [Op.if_icmp.holds] using q))
  · exact lv_icmp_gt hexec hb hdg ht (fun q => kt (by simpa [Op.if_icmp.holds] using q)) (fun q => kf (by simpa [Op.if_icmp.holds] using q))
  · exact lv_icmp_le hexec hb hdg ht (fun q => kt (by simpa [Op.if_icmp.holds] using q)) (fun q => kf (by simpa [Op.if_icmp.holds] using q))
end STEP1
