/-! WHAT THE START HOLDS: statics, constant objects and arrays, texts; words that are no words of the tables. They stay through every call. -/
/-- THE SCRIPT, the law's own array: its number, its length and its ints as the numbering sA tells them. -/
abbrev xSp : Nat := 2000000
def xS32 (n : Nat) : Int32 := (UInt32.ofNat n).toInt32
def xscr (sA : Nat → Nat) : List Int32 := (List.range (sA (xSp + 1))).map (fun j => xS32 (sA (xSp + 2 + j)))
def x_sc (A : Nat → Prop) (sA : Nat → Nat) (U : State) : Prop := va_T .int (sA xSp) (sA (xSp + 1)) (fun j => .int (xS32 (sA (xSp + 2 + j)))) A U U.heap ∧ va_Zq "jdk/internal/util/Preconditions" "SIOOBE_FORMATTER" "Ljava/util/function/BiFunction;" A U U.heap
def x_CF (A : Nat → Prop) (sA : Nat → Nat) (U : State) : Prop :=
  (∀ q ∈ xzs, va_Z q.1 q.2.1 q.2.2.1 (x_v sA q.2.2.2) A U U.heap) ∧
  (∀ q ∈ xobs, va_O q.2 (sA q.1) A U U.heap) ∧
  (∀ q ∈ xofs, va_OF q.2.1 q.2.2.1 q.2.2.2.1 (x_v sA q.2.2.2.2) (sA q.1) A U U.heap) ∧
  (∀ q ∈ xars, va_T q.2.1 (sA q.1) q.2.2.length (fun j => x_v sA (q.2.2.getD j .null)) A U U.heap) ∧
  (∀ q ∈ xsts, vk_R q.1 q.2.1 q.2.2.1 (sA q.2.2.2) U) ∧
  (∀ q ∈ xnfs, va_Nw (.fieldLinkNest q.1 q.2.1 q.2.2.1 q.2.2.2.1 q.2.2.2.2.1 q.2.2.2.2.2) U) ∧
  (∀ q ∈ xnms, va_Nw (.methodLinkNest q.1 q.2.1 q.2.2.1 q.2.2.2) U) ∧
  (∀ q ∈ xaos, va_AO q U) ∧ (∀ q ∈ xaas, va_AOA q U) ∧
  vx_Zq Bundle.tN "UNASSIGNED_STACK" Bundle.steD A U U.heap ∧ vx_Zq Bundle.tN "SUPPRESSED_SENTINEL" Bundle.listD A U U.heap ∧ (∀ q, U.heap.size ≤ q → A q) ∧
  (∀ q ∈ xcas, va_Nw (.castable q.1 q.2) U) ∧ (∀ q ∈ xdes, va_Nw (.declares q) U) ∧ (∀ q ∈ xncs, va_Nc q.1 q.2 U) ∧ x_sc A sA U
theorem x_aoS {args : Array Value} {s : State} {t : FieldType} (h : (Cond.arrayOver (.array t)).before args s = true) :
    ∃ comp c k, s.vm.findClass (FieldType.array t).toString = some comp ∧ (s.vm.classes.findIdx? fun (x : Class) => match x.kind with | .array component _ => component == comp | _ => false) = some c ∧ s.vm.classes[c]? = some k ∧ k.kind = .array comp (.array t) ∧ s.vm.findClass ("[" ++ (FieldType.array t).toString) = some c := by
  simp only [Cond.before, Cond.holds, Cond.value, beq_iff_eq] at h
  cases hc : s.vm.findClass (FieldType.array t).toString with
  | none => simp [hc] at h
  | some comp =>
    simp only [hc, Option.bind_some, Option.bind_eq_some_iff, Option.map_eq_some_iff] at h
    obtain ⟨c, hi, k, hk, hb⟩ := h
    obtain ⟨hlt, hp, -⟩ := Array.findIdx?_eq_some_iff_getElem.mp hi
    have hkk : s.vm.classes[c] = k := (Array.getElem?_eq_some_iff.mp hk).2
    rw [hkk] at hp
    cases hkind : k.kind with
    | array component ty =>
      rw [hkind] at hb hp
      simp at hb hp
      exact ⟨comp, c, k, rfl, hi, hk, by rw [hkind, hp, hb.1], hb.2⟩
    | _ => rw [hkind] at hb; simp at hb
theorem va_AOA.moved {ty : FieldType} {u U : State} (hvm : u.vm.Alike U.vm) (h : va_AOA ty u) : va_AOA ty U := by
  obtain ⟨comp, c, k, h1, h2, h3, h4, h5⟩ := x_aoS h
  obtain ⟨k', hk', he⟩ := hvm.2.2 _ _ h3
  have hi : (U.vm.classes.findIdx? fun (x : Class) => match x.kind with | .array component _ => component == comp | _ => false) = some c := by
    rw [hvm.findIdx_congr _ (fun _ _ _ _ => rfl)]
    exact h2
  have hkind : k'.kind = .array comp (.array ty) := by rw [he]; exact h4
  have f1 : U.vm.findClass (FieldType.array ty).toString = some comp := by rw [hvm.findClass]; exact h1
  have f2 : U.vm.findClass ("[" ++ (FieldType.array ty).toString) = some c := by rw [hvm.findClass]; exact h5
  unfold va_AOA Cond.before Cond.holds
  simp only [Cond.value]
  rw [f1, Option.bind_some]
  refine (congrArg (fun o : Option Nat => (o.bind (fun c => (U.vm.classes[c]?).map fun (k : Class) => match k.kind with | .array _ ty' => decide (ty' = FieldType.array ty) && decide (U.vm.findClass ("[" ++ (FieldType.array ty).toString) = some c) | _ => false) == some true)) hi).trans ?_
  simp [hk', hkind, f2]
theorem x_CF.moved {A : Nat → Prop} {sA : Nat → Nat} {s U : State} (h : x_CF A sA s) (hW : s.WarmedH U.vm) (hz : s.heap.size ≤ U.heap.size) (hk : ∀ q : Nat, q < s.heap.size → ¬ A q → U.heap[q]? = s.heap[q]?) : x_CF A sA U := by
  have hvm := hW.alike
  obtain ⟨h1, h2, h3, h4, h5, h6, h7, h8, h9, h10, h11, h12, h13, h14, h15, h16⟩ := h
  exact ⟨fun q hq => va_Z.moved hvm ((h1 q hq).kept hk), fun q hq => va_O.moved hvm ((h2 q hq).kept hk), fun q hq => va_OF.moved hvm ((h3 q hq).kept hk), fun q hq => va_T.moved hvm ((h4 q hq).kept hk),
    fun q hq => vk_R.warm hW (h5 q hq), fun q hq => va_Nw.warmF hW (h6 q hq), fun q hq => va_Nw.warmM hW (h7 q hq), fun q hq => va_AO.moved hvm (h8 q hq), fun q hq => va_AOA.moved hvm (h9 q hq),
    vx_Zq.moved hvm (h10.kept hk), vx_Zq.moved hvm (h11.kept hk), fun q hq => h12 q (Nat.le_trans hz hq), fun q hq => va_Nw.warmC hW (h13 q hq), fun q hq => va_Nw.warmD hW (h14 q hq), fun q hq => va_Nc.moved hvm (h15 q hq), va_T.moved hvm (h16.1.kept hk), va_Zq.moved hvm (h16.2.kept hk)⟩
/-- the words that every method is given: those of the tables that stay -/
def xWA : List Cond := (xpv ++ lw_tbl).filter goodWord
theorem xw (i : Nat) {w : Cond} (h : (xpv ++ lw_tbl)[i]? = some w) (hg : goodWord w = true) : w ∈ xWA := List.mem_filter.mpr ⟨List.mem_of_getElem? h, hg⟩
theorem xWA_good {l : List Cond} (h : ∀ w ∈ l, w ∈ xWA) : GoodIn xWA l := fun w hw => ⟨h w hw, good_of_word (List.mem_filter.mp (h w hw)).2⟩
/-- where a method's standing facts are collected: the machine, the code, the words, the constants -/
def x_F (A : Nat → Prop) (D : va_G) (cA : Nat → ClassId) (sA : Nat → Nat) (M : Nat) (p : Program) (s : State) (m : MethodId) (args : Array Value) (meth : Method) (c : Code) : Prop :=
  p.tables.exec = Jvm.exec ∧ c.code = (xm M).2.1 ∧ c.maxLocals = (xm M).2.2.1 ∧ s.vm.findClass (xm M).1.cls = some m.cls ∧ meth.name = (xm M).1.name ∧ meth.sig.returnType = (xm M).2.2.2.1 ∧ meth.locks = false ∧
  (∀ w ∈ xWA, w.before args s = true) ∧ va_K D vwCl (xtys cA) s ∧ x_CF A sA s ∧ c.exceptionTable.toList = tableOf (xm M).2.2.2.2
/-- how the machine stands: the world in the heap, the locals -/
def x_at (A : Nat → Prop) (D : va_G) (cA : Nat → ClassId) (sA : Nat → Nat) (ρ : Nat → Nat) (M : Nat) (s : State) (H : Heap) (locs : List Loc) (ls : Array Slot) (L : List Value) (σ : xS) : Prop :=
  va_P D vwCl (x_ws cA ρ σ.1) H ∧ va_D A (x_ws cA ρ σ.1) ∧ va_S A s.heap H locs ∧ x_L ls (xm M).2.2.1 (L.map (x_v ρ)) ∧ ∀ a, xB ≤ a → ρ a = sA a
