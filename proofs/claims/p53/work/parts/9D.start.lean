/-! THE CLAIM OUT OF ONE WALK OF THE LAW'S BODY. Your part is whole_start (and what it stands on); all else here is the same for every law, but numbers. -/
def R_law : String := "RingKilnLaw"
def lw_P (b : Addr) (xs : List Int32) (args : Array Value) (s : State) : Prop := args = #[.ref b] ∧ s.IntsAt b xs ∧ xs.length ≤ 260 ∧ (Jvm.Cond.and given_1 narrow_1).before args s = true
/-- what a walk over the start with the record d0 says of its end, said of the start itself -/
theorem lw_closed {s t : State} {o : Outcome} {d0 : Drawn} {L : List Loc} {k n : Nat} (hd0 : s.drawn.sameBut d0 lw_cs) (hv : ∃ v, o = .returned v) (hW : (s.setDrawn d0).WarmedH t.vm) (hs : (s.setDrawn d0).sameButNew ({ t with vm := s.vm } : State) L k n) : State.butDraws s t lw_cs (fun t1 => Framed s o t1 L k n) := by
  have h2 : t.drawn = d0 := congrArg State.drawn hs.1
  refine ⟨⟨hv, hW, State.sameButNew.setDrawn hs s.drawn⟩, ?_, by decide⟩
  rw [h2]
  exact hd0
def lw_Q (_ : Array Value) (s : State) (o : Outcome) (t : State) : Prop := o = .returned (some (.int 1)) ∧ State.butDraws s t lw_cs (fun t1 => Framed s o t1 [] 602900 7281466)
def lw_Z (below : List Frame) (a : Array Value) (s : State) : State → Prop := fun t => ∃ o, t.status = .running ∧ Ended t below o ∧ lw_Q a s o t
/-- what holds at the law's entry: the machine, the code, the tables' words (any of lw_tbl by 'hts w (by decide +kernel)'), the script of L ints xs at the cell b, what the Statement gives of the start (any of its parts by flat_of_before) -/
def lw_At (p : Program) (s : State) (m : MethodId) (meth : Method) (c : Code) (b L : Nat) (xs : Nat → Int32) : Prop :=
  p.tables.exec = Jvm.exec ∧ c.code = code ∧ meth.sig.returnType = ret ∧ c.maxLocals = 8 ∧ s.vm.findClass R_law = some m.cls ∧ (∀ w ∈ lw_tbl, w.before #[Value.ref b] s = true) ∧ va_X b L xs s s.heap ∧ b < s.heap.size ∧ meth.locks = false ∧ (Jvm.Cond.and given_1 narrow_1).before #[Value.ref b] s = true ∧ meth.name = x.name ∧ c.exceptionTable.toList = []
section START
variable {args : Array Value} {s : State} {b L : Nat} {xs : Nat → Int32}
/-- the constants' addresses at the start, and the script's own number, length and ints -/
def stA (args : Array Value) (s : State) (b L : Nat) (xs : Nat → Int32) (a : Nat) : Nat :=
  if xSp + 2 ≤ a then (xs (a - (xSp + 2))).toUInt32.toNat else if a = xSp + 1 then L else if a = xSp then b else
  match (stT a).eval args s none [] s with
  | some (.ref t) => t
  | _ => 0
theorem stA_of {a t : Nat} (ha : a < xSp) (h : (stT a).eval args s none [] s = some (.ref t)) : stA args s b L xs a = t := by
  have ha : a < 2000000 := ha
  unfold stA
  rw [if_neg (show ¬ 2000000 + 2 ≤ a by omega), if_neg (show ¬ a = 2000000 + 1 by omega), if_neg (show ¬ a = 2000000 by omega), h]
theorem stA_b : stA args s b L xs xSp = b := by
  unfold stA
  rw [if_neg (by decide), if_neg (by decide), if_pos rfl]
theorem stA_L : stA args s b L xs (xSp + 1) = L := by
  unfold stA
  rw [if_neg (by decide), if_pos rfl]
theorem stA_x (j : Nat) : stA args s b L xs (xSp + 2 + j) = (xs j).toUInt32.toNat := by
  unfold stA
  rw [if_pos (Nat.le_add_right _ _), Nat.add_sub_cancel_left]
theorem stE (hs : ∀ w ∈ stF, w.before args s = true) (a : Nat) (ha : stK.contains a = true) : (stT a).eval args s none [] s = some (.ref (stA args s b L xs a)) := by
  have hm : a ∈ stK := List.contains_iff_mem.mp ha
  rcases List.mem_append.mp hm with hm | hm
  · obtain ⟨q, hq, rfl⟩ := List.mem_map.mp hm
    obtain ⟨t, c, cA, kA, q1, -⟩ := Cond.exactly_spec (args := args) (first := s) (o := none) (s := s) (idx := []) (t := stT q.1) (cls := xcn q.2) (hs _ (st_ex q hq).1)
    rw [stA_of (st_ex q hq).2 q1]
    exact q1
  · obtain ⟨q, hq, rfl⟩ := List.mem_map.mp hm
    obtain ⟨t, cell, ht, -⟩ := Term.length_spec (va_eqt (hs _ (st_le q hq).1))
    rw [stA_of (st_le q hq).2.2 ht]
    exact ht
theorem stEv (hs : ∀ w ∈ stF, w.before args s = true) {v : Value} (hv : stVk v = true) : (stV v).eval args s none [] s = some (x_v (stA args s b L xs) v) := by
  cases v with
  | int z => rfl
  | ref a => exact stE hs a hv
  | _ => cases hv
theorem st_eqv {t u : Term} {v : Value} {ρ : Nat → Nat} (h : (Cond.eq t u).before args s = true) (hv : stVk v = true) (hu : u.eval args s none [] s = some (x_v ρ v)) : t.eval args s none [] s = some (x_v ρ v) := by
  cases ht : t.eval args s none [] s with
  | none => simp [Cond.before, Cond.holds, Cond.value, ht] at h
  | some w =>
    simp only [Cond.before, Cond.holds, Cond.value, ht, hu] at h
    cases v with
    | int z => cases w <;> simp_all [x_v]
    | ref a => cases w <;> simp_all [x_v]
    | _ => cases hv
theorem stK_c {q : Nat × Nat} (hq : q ∈ xcoT) : stK.contains q.1 = true := List.contains_iff_mem.mpr (List.mem_append_left _ (List.mem_map_of_mem (f := fun q : Nat × Nat => q.1) hq))
theorem st_cf (hts : ∀ w ∈ lw_tbl, w.before args s = true) (hs : ∀ w ∈ stF, w.before args s = true) (hX : va_X b L xs s s.heap) (hb : b < s.heap.size) : x_CF (fun q => s.heap.size ≤ q) (stA args s b L xs) s := by
  have hA : ∀ a : Nat, a < s.heap.size → ¬ (fun q : Nat => s.heap.size ≤ q) a := fun a h => Nat.not_le.mpr h
  refine ⟨fun q hq => ?_, fun q hq => ?_, fun q hq => ?_, fun q hq => ?_, fun q hq => ?_, fun q hq => va_Nw.of rfl (hts _ (st_nf q hq)), fun q hq => va_Nw.of rfl (hts _ (st_nm q hq)), fun q hq => va_AO.of (hts _ (st_ao q hq)), fun q hq => va_AOA.of (hts _ (st_aa q hq)), ?_, ?_, fun q h => h,
    fun q hq => va_Nw.of rfl (hts _ (st_ca q hq)), fun q hq => va_Nw.of rfl (hts _ (st_de q hq)), fun q hq => va_Nc.of (hs _ (st_nc q hq)), ?_, ?_⟩
  · obtain ⟨h1, h2, h3⟩ := st_zs q hq
    refine va_Zof (hts _ h1) (hts _ h2) ?_ hA
    obtain ⟨C, n, d, v⟩ := q
    cases v with
    | int z => exact va_eqi (hs _ (of_decide_eq_true h3))
    | ref a =>
      have h3 := Bool.and_eq_true_iff.mp h3
      have e : stT a = Term.static C n d := of_decide_eq_true h3.1
      show (Term.static C n d).eval args s none [] s = _
      rw [← e]
      exact stE hs a h3.2
    | _ => cases h3
  · obtain ⟨q0, hq0, rfl⟩ := List.mem_map.mp hq
    exact va_Oof (hs _ (st_ex q0 hq0).1) (stE hs _ (stK_c hq0)) hA
  · rcases List.mem_append.mp (show q ∈ xof0.map (fun q => (q.1, "java/lang/String", "value", "[B", q.2)) ++ stO1 from hq) with hq | hq
    · obtain ⟨⟨a0, v⟩, hq0, rfl⟩ := List.mem_map.mp hq
      have h := st_o0 _ hq0
      cases v with
      | ref a =>
        have h := Bool.and_eq_true_iff.mp h
        have k := Bool.and_eq_true_iff.mp h.2
        have e : stT a = Term.field (stT a0) "java/lang/String" "value" "[B" := of_decide_eq_true h.1
        refine vk_OFof (t := stT a0) (stE hs a0 k.2) ?_ hA
        show (Term.field (stT a0) "java/lang/String" "value" "[B").eval args s none [] s = _
        rw [← e]
        exact stE hs a k.1
      | _ => cases h
    · obtain ⟨h1, h2, h3⟩ := st_o1 q hq
      exact vk_OFof (t := stT q.1) (stE hs _ h2) (st_eqv (hs _ h1) h3 (stEv hs h3)) hA
  · obtain ⟨q0, hq0, rfl⟩ := List.mem_map.mp hq
    obtain ⟨h1, h2, h3⟩ := st_le q0 hq0
    obtain ⟨t, ht, hT⟩ := va_Tof (tm := stT q0.1) (ty := xarK q0.2.1) (N := q0.2.2.length) (f := fun j => x_v (stA args s b L xs) (q0.2.2.getD j .null)) (A := fun q => s.heap.size ≤ q) h2 (hs _ (st_ar q0 hq0)) (va_eqt (hs _ h1)) (fun j hj => by
      have hv := st_va q0 hq0 (q0.2.2.getD j .null) (by
        rw [List.getD_eq_getElem?_getD, List.getElem?_eq_getElem hj]
        exact List.getElem_mem hj)
      exact st_eqv (hs _ (stOk_of _ _ st_el q0 hq0 j hj)) hv (stEv hs hv)) hA
    show va_T (xarK q0.2.1) (stA args s b L xs q0.1) q0.2.2.length (fun j => x_v (stA args s b L xs) (q0.2.2.getD j .null)) _ s s.heap
    rw [stA_of h3 ht]
    exact hT
  · obtain ⟨h1, h2, h3, h4⟩ := st_st q hq
    obtain ⟨t, c, cA, kA, q1, -⟩ := Cond.exactly_spec (args := args) (first := s) (o := none) (s := s) (idx := []) (t := stT q.2.2.2) (cls := "java/lang/String") (hs _ h1)
    rw [stA_of h2 q1]
    refine vk_R.of (A := args) (hts _ h4) ?_
    rw [← h3]
    exact q1
  · obtain ⟨h1, h2, h3⟩ := st_qq _ (List.mem_of_getElem? (i := 0) rfl)
    exact vx_Zqof (hts _ h1) (hts _ h2) (hs _ h3) hA
  · obtain ⟨h1, h2, h3⟩ := st_qq _ (List.mem_of_getElem? (i := 1) rfl)
    exact vx_Zqof (hts _ h1) (hts _ h2) (hs _ h3) hA
  · obtain ⟨scr, h1, h2, h3, h4, h5⟩ := hX
    rw [stA_b, stA_L]
    refine ⟨scr, h1, h2, h3, Nat.le_of_eq h4.symm, by rw [h4], fun j hj => ?_, hA b hb⟩
    show scr.slots[j]? = some (.int (xS32 (stA args s b L xs (xSp + 2 + j))))
    rw [stA_x, h5 j hj]
    simp [xS32]
  · obtain ⟨h1, h2, h3⟩ := st_qq _ (List.mem_of_getElem? (i := 2) rfl)
    exact va_Zqof (hts _ h1) (hts _ h2) (hs _ h3) hA
theorem st_sel {i y : MethodName} (hy : y.cls ≠ "java/lang/invoke/MethodHandle" ∧ y.cls ≠ "java/lang/invoke/VarHandle") (hic : i.cls = y.cls) (hi : (Cond.selects "java/lang/StringBuilder" i i).before args s = true) (hpriv : (Cond.privateMethod y).before args s = true) (hinst : (Cond.instanceMethod y).before args s = true) : (Cond.selects "java/lang/StringBuilder" y y).before args s = true := by
  obtain ⟨c, r, m, h1, h2, h3, h4, mk, h5, h6⟩ := Cond.selects_spec (args := args) (first := s) (o := none) (s := s) (idx := []) hi
  obtain ⟨mk', methM, hnamed, hmethM, -, -⟩ := Cond.instanceMethod_spec hinst
  have hfound : s.methodFound? y.cls y.name y.desc = some mk' := State.methodFound?_of_named hnamed hy
  have hcls : mk'.cls = m.cls := Option.some.inj ((findClass_of_methodNamed hnamed).symm.trans (by rw [← hic]; exact findClass_of_methodNamed h3))
  have hsel : selectMethod {} s.vm c mk' = .method mk' := selectMethod_private hmethM (Cond.privateMethod_at hpriv mk' methM hnamed hmethM)
  simp only [Cond.before, Cond.holds, Cond.value, h1, hfound, hnamed, hsel, hcls, h5]
  simp [h6]
theorem st_xw (hts : ∀ w ∈ lw_tbl, w.before args s = true) : ∀ w ∈ xWA, w.before args s = true := by
  intro w hw
  rcases List.mem_append.mp (List.mem_filter.mp hw).1 with h | h
  · rcases List.mem_cons.mp h with rfl | h
    · obtain ⟨p1, p2⟩ := st_pv _ (List.mem_of_getElem? (i := 0) rfl)
      exact st_sel (i := ⟨"java/lang/AbstractStringBuilder", "isLatin1", "()Z"⟩) ⟨by decide +kernel, by decide +kernel⟩ rfl (hts _ st_il) (hts _ p1) (hts _ p2)
    · rcases List.mem_cons.mp h with rfl | h
      · obtain ⟨p1, p2⟩ := st_pv _ (List.mem_of_getElem? (i := 1) rfl)
        exact st_sel (i := ⟨"java/lang/AbstractStringBuilder", "isLatin1", "()Z"⟩) ⟨by decide +kernel, by decide +kernel⟩ rfl (hts _ st_il) (hts _ p1) (hts _ p2)
      · exact absurd h List.not_mem_nil
  · exact hts w h
theorem st_ws : ∀ q ∈ vwCl, ∀ w ∈ u_ws q.1 q.2.1 q.2.2, w ∈ lw_tbl := by
  have h : (vwCl.all (fun q => (u_ws q.1 q.2.1 q.2.2).all (fun w => lw_tbl.contains w))) = true := by decide +kernel
  intro q hq w hw
  exact List.contains_iff_mem.mp (List.all_eq_true.mp (List.all_eq_true.mp h q hq) w hw)
theorem st_av : Cond.arrayClass .int ∈ lw_tbl ∧ Cond.arrayClass .char ∈ lw_tbl ∧ Cond.arrayClass .byte ∈ lw_tbl ∧ Cond.arrayClass .long ∈ lw_tbl := by decide +kernel
theorem st_K (hts : ∀ w ∈ lw_tbl, w.before args s = true) : ∃ (D : va_G) (cA : Nat → ClassId), va_K D vwCl (xtys cA) s := by
  have h : ∀ i : Nat, ∃ d : ClassId × (Nat → Nat), ∀ q, vwCl[i]? = some q → u_Kn s q.1 q.2.1 q.2.2 d.1 d.2 := by
    intro i
    cases hi : vwCl[i]? with
    | none => exact ⟨(0, fun _ => 0), fun q h => by cases h⟩
    | some q =>
      have hm := List.mem_of_getElem? hi
      obtain ⟨n, hn⟩ := st_cl q hm
      obtain ⟨c, f, hk⟩ := u_known (C := q.1) (T := q.2.1) (N := q.2.2) (n := n) hts (st_ws q hm) (hts _ hn)
      exact ⟨(c, f), fun q' h => by cases h; exact hk⟩
  obtain ⟨f, hf⟩ := Classical.axiomOfChoice h
  have hprim : ∀ ty : FieldType, (Cond.arrayClass ty).before args s = true → ∃ c, ArrOfT s c ty ∧ s.vm.findClass ("[" ++ ty.toString) = some c := by
    intro ty h
    obtain ⟨c, k, comp, h1, h2, h3⟩ := Cond.arrayClass_spec (args := args) (first := s) (o := none) (s := s) (idx := []) h
    exact ⟨c, fun n z => ⟨fun k h => (by cases h), k, h2, comp, h3⟩, h1⟩
  have hobj : ∀ C : String, (Cond.arrayOver (.object C)).before args s = true → ∃ c, ArrOfT s c (.object C) ∧ va_RA s c (.object C) := by
    intro C h
    obtain ⟨comp, c, k, h1, h2, h3, h4, h5⟩ := Cond.arrayOver_spec (args := args) (first := s) (o := none) (idx := []) (s := s) h
    exact ⟨c, fun n z => ⟨fun k h => (by cases h), k, h3, comp, h4⟩, k, comp, h3, h4, h1, h5⟩
  have harr : ∀ ty : FieldType, (Cond.arrayOver (.array ty)).before args s = true → ∃ c, ArrOfT s c (.array ty) ∧ va_RA s c (.array ty) := by
    intro ty h
    obtain ⟨comp, c, k, h1, h2, h3, h4, h5⟩ := x_aoS h
    exact ⟨c, fun n z => ⟨fun k h => (by cases h), k, h3, comp, h4⟩, h5⟩
  have g : ∀ t : Nat, ∃ c : ClassId, t < 8 → ArrOfT s c (xkt t) ∧ va_RA s c (xkt t) := by
    intro t
    match t with
    | 0 => obtain ⟨c, h1, h2⟩ := hprim .int (hts _ st_av.1); exact ⟨c, fun _ => ⟨h1, h2⟩⟩
    | 1 => obtain ⟨c, h1, h2⟩ := hprim .char (hts _ st_av.2.1); exact ⟨c, fun _ => ⟨h1, h2⟩⟩
    | 2 => obtain ⟨c, h1, h2⟩ := hprim .byte (hts _ st_av.2.2.1); exact ⟨c, fun _ => ⟨h1, h2⟩⟩
    | 3 => obtain ⟨c, h1, h2⟩ := hprim .long (hts _ st_av.2.2.2); exact ⟨c, fun _ => ⟨h1, h2⟩⟩
    | 4 => obtain ⟨c, h⟩ := hobj RX4 (hts _ (st_ao RX4 (List.mem_of_getElem? (i := 0) rfl))); exact ⟨c, fun _ => h⟩
    | 5 => obtain ⟨c, h⟩ := hobj RX1 (hts _ (st_ao RX1 (List.mem_of_getElem? (i := 1) rfl))); exact ⟨c, fun _ => h⟩
    | 6 => obtain ⟨c, h⟩ := harr .int (hts _ (st_aa .int (List.mem_of_getElem? (i := 0) rfl))); exact ⟨c, fun _ => h⟩
    | 7 => obtain ⟨c, h⟩ := harr .long (hts _ (st_aa .long (List.mem_of_getElem? (i := 1) rfl))); exact ⟨c, fun _ => h⟩
    | _ + 8 => exact ⟨0, fun h => absurd h (by omega)⟩
  obtain ⟨cA, hcA⟩ := Classical.axiomOfChoice g
  refine ⟨(fun i => (f i).1, fun i => (f i).2), cA, fun c q hq => hf c q hq, fun k q hq => ?_⟩
  have hk : k < 8 := by
    have := (List.getElem?_eq_some_iff.mp hq).1
    simpa [xtys] using this
  have e : (xtys cA)[k]? = some (cA k, xkt k) := by
    show ((List.range 8).map (fun t => (cA t, xkt t)))[k]? = _
    rw [List.getElem?_map, List.getElem?_range hk]
    rfl
  cases e.symm.trans hq
  exact hcA k hk
end START
/-- from the entry, for every script of at most 260 ints, the law comes to its end with true -/
theorem whole_start {p : Program} {e : Env} {s : State} {m : MethodId} {below : List Frame} {meth : Method} {c : Code} (l : Launch) (hflags : l.flags = flags0) {b L : Nat} {xs : Nat → Int32} (hL : L ≤ 260) (C0 : lw_At p s m meth c b L xs) : W p l e room_1 s m #[Value.ref b] below meth c s.heap [] 0 0 (lw_Z below #[Value.ref b] s) (entryFrame m ([Value.ref b] : List Value).toArray 8) := by
  obtain ⟨hx, hb, hr, hml, hown, hts, hX, hbl, hlocks, hgv, hnm, htab⟩ := id C0
  have hs : ∀ w ∈ stF, w.before #[Value.ref b] s = true := flat_of_before _ hgv
  obtain ⟨D, cA, hK⟩ := st_K hts
  have hCF := st_cf (b := b) (L := L) (xs := xs) hts hs hX hbl
  have hw := st_xw hts
  have e0 : (([Value.ref xSp] : List Value).map (x_v (stA #[Value.ref b] s b L xs))) = [.ref b] := by
    show [Value.ref (stA #[Value.ref b] s b L xs xSp)] = _
    rw [stA_b]
  have eL : (xscr (stA #[Value.ref b] s b L xs)).length < 2 ^ 31 := by
    unfold xscr
    rw [List.length_map, List.length_range, stA_L]
    omega
  generalize stA #[Value.ref b] s b L xs = sA at hCF e0 eL
  have F : x_F (fun q => s.heap.size ≤ q) D cA sA 153 p s m #[Value.ref b] meth c := ⟨hx, hb, hml, hown, hnm, hr, hlocks, hw, hK, hCF, htab⟩
  obtain ⟨q, hq, s2, hs2, rfl⟩ := o_law (S := xscr sA) (d := 39 + 1) (by omega) eL
  have hl : l.stackTraces = false := by
    unfold Launch.stackTraces
    rw [hflags]
    decide +kernel
  have hwd : x_wd (fun q => s.heap.size ≤ q) D cA sA sA (([], 0, 0) : xS) s.heap := ⟨fun k q h => (by cases h), ⟨fun i j p q h => (by cases h), fun k q h => (by cases h)⟩, fun a _ => rfl⟩
  have key := x_start (R := room_1) (Q := lw_Z below #[Value.ref b] s) (l := l) (e := e) (below := below) (A := fun q => s.heap.size ≤ q) xgood_all hl (fun a vs σ q ρ => x_E xgood_all hl 39 a vs σ q ρ) hq (fun c hc => absurd hc List.not_mem_nil) (fun v hv a ha => (by
    rcases List.mem_cons.mp hv with rfl | hv
    · cases ha; exact Or.inr (by decide)
    · exact absurd hv List.not_mem_nil)) F hwd (by decide) (by decide) (Nat.le_trans hs2.1 (by decide)) (Nat.le_trans hs2.2 (by decide)) ⟨fun H locs cells slots g hloc hc hn k => ?_, fun E hE => (by cases hE)⟩
  · rw [e0] at key
    exact key
  · refine va_forget (fun q hq => hloc q hq) ?_
    have k1 := k [] cells slots (fun _ => False) (fun q hq => absurd hq List.not_mem_nil)
    intro T hT X
    obtain ⟨t, a1, o, b1, b2, b3, Lo, b4, b5⟩ := k1 T hT X
    obtain ⟨⟨w, ρ', e1, e2, -, -⟩, -⟩ := b3
    have hLo : Lo = [] := List.eq_nil_iff_forall_not_mem.mpr (fun q hq => b5 q hq)
    subst hLo
    have e3 : w = some (.int 1) := (Sum.inl.inj e2).symm
    subst e3
    obtain ⟨g1, g2, g3⟩ := b4
    refine ⟨t, a1, o, b1, b2, e1, ?_⟩
    have hc : cells ≤ 602900 := Nat.le_trans (show cells ≤ s2.2.1 from Nat.le_of_eq hc) (Nat.le_trans hs2.1 (by decide))
    have hn : slots ≤ 7281466 := Nat.le_trans (show slots ≤ s2.2.2 from Nat.le_of_eq hn) (Nat.le_trans hs2.2 (by decide))
    exact lw_closed (d0 := s.drawn) (Drawn.sameBut.refl s.drawn lw_cs) g1 g2 (State.sameButNew.mono g3 hc hn)
