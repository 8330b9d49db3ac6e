section
-- ===== PART A: goes FIRST, ahead of the names: the tables' words, and 'selects' of the private methods out of them =====
/-- a private method of a class that the tables say can be made, by its rows of tables_1 -/
def lw_okq (q : MethodName × Nat) : Prop := (q.1.cls ≠ "java/lang/invoke/MethodHandle" ∧ q.1.cls ≠ "java/lang/invoke/VarHandle") ∧ Cond.instantiable q.1.cls q.2 ∈ tables_1 ∧ Cond.privateMethod q.1 ∈ tables_1 ∧ Cond.instanceMethod q.1 ∈ tables_1
theorem lw_p0 : lw_okq (⟨"RingKiln$Courses", "addCoursesEndingWith", "(II)V"⟩, 7) := ⟨⟨by decide +kernel, by decide +kernel⟩, List.mem_of_getElem? (i := 163) (by decide +kernel), List.mem_of_getElem? (i := 173) (by decide +kernel), List.mem_of_getElem? (i := 174) (by decide +kernel)⟩
theorem lw_p1 : lw_okq (⟨"java/lang/Throwable", "fillInStackTrace", "(I)Ljava/lang/Throwable;"⟩, 6) := ⟨⟨by decide +kernel, by decide +kernel⟩, List.mem_of_getElem? (i := 364) (by decide +kernel), List.mem_of_getElem? (i := 362) (by decide +kernel), List.mem_of_getElem? (i := 363) (by decide +kernel)⟩
theorem lw_p2 : lw_okq (⟨"RingKiln", "change", "(LRingKiln$Command;II)I"⟩, 12) := ⟨⟨by decide +kernel, by decide +kernel⟩, List.mem_of_getElem? (i := 33) (by decide +kernel), List.mem_of_getElem? (i := 419) (by decide +kernel), List.mem_of_getElem? (i := 420) (by decide +kernel)⟩
theorem lw_p3 : lw_okq (⟨"RingKiln", "carryOut", "(LRingKiln$Command;II)I"⟩, 12) := ⟨⟨by decide +kernel, by decide +kernel⟩, List.mem_of_getElem? (i := 33) (by decide +kernel), List.mem_of_getElem? (i := 423) (by decide +kernel), List.mem_of_getElem? (i := 424) (by decide +kernel)⟩
theorem lw_p4 : lw_okq (⟨"RingKiln$Kiln", "isCool", "(I)Z"⟩, 17) := ⟨⟨by decide +kernel, by decide +kernel⟩, List.mem_of_getElem? (i := 41) (by decide +kernel), List.mem_of_getElem? (i := 446) (by decide +kernel), List.mem_of_getElem? (i := 447) (by decide +kernel)⟩
theorem lw_p5 : lw_okq (⟨"RingKiln$Mixer", "considerMixture", "(III[I)V"⟩, 5) := ⟨⟨by decide +kernel, by decide +kernel⟩, List.mem_of_getElem? (i := 136) (by decide +kernel), List.mem_of_getElem? (i := 504) (by decide +kernel), List.mem_of_getElem? (i := 505) (by decide +kernel)⟩
theorem lw_p6 : lw_okq (⟨"RingKiln$Mixer", "isBetter", "(IIII)Z"⟩, 5) := ⟨⟨by decide +kernel, by decide +kernel⟩, List.mem_of_getElem? (i := 136) (by decide +kernel), List.mem_of_getElem? (i := 508) (by decide +kernel), List.mem_of_getElem? (i := 509) (by decide +kernel)⟩
theorem lw_p7 : lw_okq (⟨"RingKiln$Kiln", "passOneHour", "()V"⟩, 17) := ⟨⟨by decide +kernel, by decide +kernel⟩, List.mem_of_getElem? (i := 41) (by decide +kernel), List.mem_of_getElem? (i := 516) (by decide +kernel), List.mem_of_getElem? (i := 517) (by decide +kernel)⟩
theorem lw_p8 : lw_okq (⟨"RingKiln$Kiln", "heatChambers", "()V"⟩, 17) := ⟨⟨by decide +kernel, by decide +kernel⟩, List.mem_of_getElem? (i := 41) (by decide +kernel), List.mem_of_getElem? (i := 520) (by decide +kernel), List.mem_of_getElem? (i := 521) (by decide +kernel)⟩
theorem lw_p9 : lw_okq (⟨"RingKiln$Kiln", "coolChambers", "()V"⟩, 17) := ⟨⟨by decide +kernel, by decide +kernel⟩, List.mem_of_getElem? (i := 41) (by decide +kernel), List.mem_of_getElem? (i := 528) (by decide +kernel), List.mem_of_getElem? (i := 529) (by decide +kernel)⟩
theorem lw_p10 : lw_okq (⟨"RingKiln$Kiln", "finishChamber", "()V"⟩, 17) := ⟨⟨by decide +kernel, by decide +kernel⟩, List.mem_of_getElem? (i := 41) (by decide +kernel), List.mem_of_getElem? (i := 532) (by decide +kernel), List.mem_of_getElem? (i := 533) (by decide +kernel)⟩
theorem lw_p11 : lw_okq (⟨"RingKiln$Courses", "addCourseToFewest", "([II)V"⟩, 7) := ⟨⟨by decide +kernel, by decide +kernel⟩, List.mem_of_getElem? (i := 163) (by decide +kernel), List.mem_of_getElem? (i := 553) (by decide +kernel), List.mem_of_getElem? (i := 554) (by decide +kernel)⟩
theorem lw_p12 : lw_okq (⟨"RingKiln$Program", "readCommand", "()Z"⟩, 9) := ⟨⟨by decide +kernel, by decide +kernel⟩, List.mem_of_getElem? (i := 201) (by decide +kernel), List.mem_of_getElem? (i := 685) (by decide +kernel), List.mem_of_getElem? (i := 686) (by decide +kernel)⟩
theorem lw_p13 : lw_okq (⟨"RingKiln$Program", "followPattern", "(Ljava/lang/String;)Z"⟩, 9) := ⟨⟨by decide +kernel, by decide +kernel⟩, List.mem_of_getElem? (i := 201) (by decide +kernel), List.mem_of_getElem? (i := 691) (by decide +kernel), List.mem_of_getElem? (i := 692) (by decide +kernel)⟩
theorem lw_p14 : lw_okq (⟨"RingKiln$Program", "readNumber", "()Z"⟩, 9) := ⟨⟨by decide +kernel, by decide +kernel⟩, List.mem_of_getElem? (i := 201) (by decide +kernel), List.mem_of_getElem? (i := 742) (by decide +kernel), List.mem_of_getElem? (i := 743) (by decide +kernel)⟩
theorem lw_p15 : lw_okq (⟨"RingKiln$Program", "addValue", "(I)V"⟩, 9) := ⟨⟨by decide +kernel, by decide +kernel⟩, List.mem_of_getElem? (i := 201) (by decide +kernel), List.mem_of_getElem? (i := 749) (by decide +kernel), List.mem_of_getElem? (i := 750) (by decide +kernel)⟩
def lw_privs_1 : List (MethodName × Nat) := [(⟨"RingKiln$Courses", "addCoursesEndingWith", "(II)V"⟩, 7), (⟨"java/lang/Throwable", "fillInStackTrace", "(I)Ljava/lang/Throwable;"⟩, 6), (⟨"RingKiln", "change", "(LRingKiln$Command;II)I"⟩, 12), (⟨"RingKiln", "carryOut", "(LRingKiln$Command;II)I"⟩, 12), (⟨"RingKiln$Kiln", "isCool", "(I)Z"⟩, 17), (⟨"RingKiln$Mixer", "considerMixture", "(III[I)V"⟩, 5), (⟨"RingKiln$Mixer", "isBetter", "(IIII)Z"⟩, 5), (⟨"RingKiln$Kiln", "passOneHour", "()V"⟩, 17), (⟨"RingKiln$Kiln", "heatChambers", "()V"⟩, 17), (⟨"RingKiln$Kiln", "coolChambers", "()V"⟩, 17), (⟨"RingKiln$Kiln", "finishChamber", "()V"⟩, 17), (⟨"RingKiln$Courses", "addCourseToFewest", "([II)V"⟩, 7), (⟨"RingKiln$Program", "readCommand", "()Z"⟩, 9), (⟨"RingKiln$Program", "followPattern", "(Ljava/lang/String;)Z"⟩, 9), (⟨"RingKiln$Program", "readNumber", "()Z"⟩, 9), (⟨"RingKiln$Program", "addValue", "(I)V"⟩, 9)]
theorem lw_r1 : ∀ q ∈ lw_privs_1, lw_okq q := List.forall_mem_cons.mpr ⟨lw_p0, List.forall_mem_cons.mpr ⟨lw_p1, List.forall_mem_cons.mpr ⟨lw_p2, List.forall_mem_cons.mpr ⟨lw_p3, List.forall_mem_cons.mpr ⟨lw_p4, List.forall_mem_cons.mpr ⟨lw_p5, List.forall_mem_cons.mpr ⟨lw_p6, List.forall_mem_cons.mpr ⟨lw_p7, List.forall_mem_cons.mpr ⟨lw_p8, List.forall_mem_cons.mpr ⟨lw_p9, List.forall_mem_cons.mpr ⟨lw_p10, List.forall_mem_cons.mpr ⟨lw_p11, List.forall_mem_cons.mpr ⟨lw_p12, List.forall_mem_cons.mpr ⟨lw_p13, List.forall_mem_cons.mpr ⟨lw_p14, List.forall_mem_cons.mpr ⟨lw_p15, fun _ h => absurd h List.not_mem_nil⟩⟩⟩⟩⟩⟩⟩⟩⟩⟩⟩⟩⟩⟩⟩⟩
theorem lw_p16 : lw_okq (⟨"RingKiln$Program", "readCharacter", "(C)Z"⟩, 9) := ⟨⟨by decide +kernel, by decide +kernel⟩, List.mem_of_getElem? (i := 201) (by decide +kernel), List.mem_of_getElem? (i := 753) (by decide +kernel), List.mem_of_getElem? (i := 754) (by decide +kernel)⟩
theorem lw_p17 : lw_okq (⟨"RingKiln$Program", "keepCommand", "(LRingKiln$Command;)V"⟩, 9) := ⟨⟨by decide +kernel, by decide +kernel⟩, List.mem_of_getElem? (i := 201) (by decide +kernel), List.mem_of_getElem? (i := 758) (by decide +kernel), List.mem_of_getElem? (i := 759) (by decide +kernel)⟩
theorem lw_p18 : lw_okq (⟨"RingKiln", "carryOutCommands", "()I"⟩, 12) := ⟨⟨by decide +kernel, by decide +kernel⟩, List.mem_of_getElem? (i := 33) (by decide +kernel), List.mem_of_getElem? (i := 768) (by decide +kernel), List.mem_of_getElem? (i := 769) (by decide +kernel)⟩
theorem lw_p19 : lw_okq (⟨"RingKiln", "costByTable", "(I)I"⟩, 12) := ⟨⟨by decide +kernel, by decide +kernel⟩, List.mem_of_getElem? (i := 33) (by decide +kernel), List.mem_of_getElem? (i := 974) (by decide +kernel), List.mem_of_getElem? (i := 975) (by decide +kernel)⟩
theorem lw_p20 : lw_okq (⟨"RingKiln$Mixer", "extendTable", "(IIII)V"⟩, 5) := ⟨⟨by decide +kernel, by decide +kernel⟩, List.mem_of_getElem? (i := 136) (by decide +kernel), List.mem_of_getElem? (i := 983) (by decide +kernel), List.mem_of_getElem? (i := 984) (by decide +kernel)⟩
theorem lw_p21 : lw_okq (⟨"RingKiln", "costByTrying", "(I)I"⟩, 12) := ⟨⟨by decide +kernel, by decide +kernel⟩, List.mem_of_getElem? (i := 33) (by decide +kernel), List.mem_of_getElem? (i := 987) (by decide +kernel), List.mem_of_getElem? (i := 988) (by decide +kernel)⟩
theorem lw_p22 : lw_okq (⟨"RingKiln$Courses", "addCourseToWays", "([II)V"⟩, 7) := ⟨⟨by decide +kernel, by decide +kernel⟩, List.mem_of_getElem? (i := 163) (by decide +kernel), List.mem_of_getElem? (i := 996) (by decide +kernel), List.mem_of_getElem? (i := 997) (by decide +kernel)⟩
theorem lw_p23 : lw_okq (⟨"RingKiln$Kiln", "rankOf", "(I)I"⟩, 17) := ⟨⟨by decide +kernel, by decide +kernel⟩, List.mem_of_getElem? (i := 41) (by decide +kernel), List.mem_of_getElem? (i := 1030) (by decide +kernel), List.mem_of_getElem? (i := 1031) (by decide +kernel)⟩
theorem lw_p24 : lw_okq (⟨"RingKiln$Kiln", "comesBefore", "(II)Z"⟩, 17) := ⟨⟨by decide +kernel, by decide +kernel⟩, List.mem_of_getElem? (i := 41) (by decide +kernel), List.mem_of_getElem? (i := 1034) (by decide +kernel), List.mem_of_getElem? (i := 1035) (by decide +kernel)⟩
def lw_privs_2 : List (MethodName × Nat) := [(⟨"RingKiln$Program", "readCharacter", "(C)Z"⟩, 9), (⟨"RingKiln$Program", "keepCommand", "(LRingKiln$Command;)V"⟩, 9), (⟨"RingKiln", "carryOutCommands", "()I"⟩, 12), (⟨"RingKiln", "costByTable", "(I)I"⟩, 12), (⟨"RingKiln$Mixer", "extendTable", "(IIII)V"⟩, 5), (⟨"RingKiln", "costByTrying", "(I)I"⟩, 12), (⟨"RingKiln$Courses", "addCourseToWays", "([II)V"⟩, 7), (⟨"RingKiln$Kiln", "rankOf", "(I)I"⟩, 17), (⟨"RingKiln$Kiln", "comesBefore", "(II)Z"⟩, 17)]
theorem lw_r2 : ∀ q ∈ lw_privs_2, lw_okq q := List.forall_mem_cons.mpr ⟨lw_p16, List.forall_mem_cons.mpr ⟨lw_p17, List.forall_mem_cons.mpr ⟨lw_p18, List.forall_mem_cons.mpr ⟨lw_p19, List.forall_mem_cons.mpr ⟨lw_p20, List.forall_mem_cons.mpr ⟨lw_p21, List.forall_mem_cons.mpr ⟨lw_p22, List.forall_mem_cons.mpr ⟨lw_p23, List.forall_mem_cons.mpr ⟨lw_p24, fun _ h => absurd h List.not_mem_nil⟩⟩⟩⟩⟩⟩⟩⟩⟩
def lw_privs : List (MethodName × Nat) := lw_privs_1 ++ (lw_privs_2)
def lw_tbl : List Cond := k2_sels lw_privs ++ tables_1
theorem lw_privs_ok : ∀ q ∈ lw_privs, lw_okq q := by
  show ∀ q ∈ lw_privs_1 ++ (lw_privs_2), lw_okq q
  exact List.forall_mem_append.mpr ⟨lw_r1, lw_r2⟩
/-- the streams that the claim lets the run draw from -/
abbrev lw_cs : List Choice := [Jvm.Choice.named "NaN.bits"]
theorem lw_bits : nanBits ∈ lw_cs := by first | decide | exact List.mem_cons_self | simp [lw_cs, nanBits]
/-! ===== BEGIN words of one list among another's, by their places ===== -/
theorem goodIn_r {big : List Cond} (ws : List Cond) (ps : List Nat) (hp : ws = ps.filterMap (fun i => big[i]?)) (h : ws.all goodWord = true) : GoodIn big ws := by
  intro w hw
  have h1 := List.all_eq_true.mp h w hw
  rw [hp] at hw
  obtain ⟨i, -, hi⟩ := List.mem_filterMap.mp hw
  have hm : w ∈ big := by first | exact List.mem_of_getElem? hi | exact List.getElem?_mem hi
  exact ⟨hm, good_of_word h1⟩
theorem goodIn_app {big a b : List Cond} (ha : GoodIn big a) (hb : GoodIn big b) : GoodIn big (a ++ b) := fun w h => (List.mem_append.mp h).elim (ha w) (hb w)
theorem goodIn_ca {big a b : List Cond} {c : Cond} (ha : GoodIn big (c :: a)) (hb : GoodIn big b) : GoodIn big (c :: (a ++ b)) := fun w h => (List.mem_cons.mp h).elim (fun e => ha w (List.mem_cons.mpr (Or.inl e))) (fun h => (List.mem_append.mp h).elim (fun h => ha w (List.mem_cons.mpr (Or.inr h))) (hb w))
theorem goodIn_sub {big ws : List Cond} (hm : ∀ w ∈ ws, w ∈ big) (h : ws.all goodWord = true) : GoodIn big ws := fun w hw => ⟨hm w hw, good_of_word (List.all_eq_true.mp h w hw)⟩
/-! ===== END ===== -/

/-- an array of arrays: its class is known (the printed text names these words, but doesn't hold them) -/
def va_AOA (ty : FieldType) (U : State) : Prop := (Cond.arrayOver (.array ty)).before #[] U = true
theorem va_AOA.of {ty : FieldType} {A : Array Value} {U : State} (h : (Cond.arrayOver (.array ty)).before A U = true) : va_AOA ty U := h
theorem va_AOA.use {ty : FieldType} {A : Array Value} {U : State} (h : va_AOA ty U) : (Cond.arrayOver (.array ty)).before A U = true := h

/-! ===== BEGIN new T[n][m]: the outer array a place, the inner ones among the pooled ===== -/
/-- f, but v at every address of l -/
def vr_up {α : Type} (f : Nat → α) (l : List Nat) (v : α) : Nat → α := fun a => if a ∈ l then v else f a
theorem vr_up_in {α : Type} {f : Nat → α} {l : List Nat} {v : α} {a : Nat} (h : a ∈ l) : vr_up f l v a = v := if_pos h
theorem vr_up_ne {α : Type} {f : Nat → α} {l : List Nat} {v : α} {a : Nat} (h : a ∉ l) : vr_up f l v a = f a := if_neg h
theorem vr_rows {L l : List Nat} {f : Nat → va_E} {e : va_E} (h : ∀ a, a ∈ l → a ∉ L) : va_pl L f ++ l.map (fun a => (a, e)) = va_pl (L ++ l) (vr_up f l e) := by
  unfold va_pl
  rw [List.map_append]
  congr 1
  · apply List.map_congr_left
    intro a ha
    rw [vr_up_ne (fun q => h a q ha)]
  · apply List.map_congr_left
    intro a ha
    rw [vr_up_in ha]
theorem vr_lay {X rows : va_W} {x : Nat × va_E} {pl : va_W} {D : va_G} {cl : List vw_C} {H : Heap} (hP : va_P D cl (((X ++ pl) ++ [x]) ++ rows) H) : va_P D cl ((X ++ [x]) ++ (pl ++ rows)) H := by
  rw [List.append_assoc (X ++ pl)] at hP
  have h := va_P.swap hP
  rw [← List.append_assoc X] at h
  have h2 := va_P.swap h
  rw [List.append_assoc (X ++ [x])] at h2
  exact h2
theorem vr_layD {X rows : va_W} {x : Nat × va_E} {pl : va_W} {A : Nat → Prop} (hD : va_D A (((X ++ pl) ++ [x]) ++ rows)) : va_D A ((X ++ [x]) ++ (pl ++ rows)) := by
  rw [List.append_assoc (X ++ pl)] at hD
  have h := va_D.swap hD
  rw [← List.append_assoc X] at h
  have h2 := va_D.swap h
  rw [List.append_assoc (X ++ [x])] at h2
  exact h2
theorem vr_outer (c : ClassId) (N h0 : Nat) : ∀ i : Nat, Jvm.Free.Multi.outerC c N h0 i = arrV c N (fun j => va_rf (if j < i then some (h0 + 1 + j) else none))
  | 0 => by
    show ({ cls := c, slots := Array.replicate N .null, vm := .none } : Cell) = _
    rw [arrV_new]
    refine congrArg (arrV c N) (funext fun j => ?_)
    simp [va_rf]
  | i + 1 => by
    show (Jvm.Free.Multi.outerC c N h0 i).setSlot i (.ref (h0 + 1 + i)) = _
    rw [vr_outer c N h0 i, arrV_store]
    refine congrArg (arrV c N) (funext fun j => ?_)
    by_cases e : j = i
    · subst e
      simp [updV, va_rf]
    · by_cases h : j < i
      · simp [updV, e, h, Nat.lt_succ_of_lt h]
      · simp [updV, e, h, show ¬ j < i + 1 by omega]
section VGM
variable {p : Program} {l : Launch} {e : Env} {R : Room} {s : State} {m : MethodId} {args : Array Value} {below : List Frame} {meth : Method} {c : Code} {H : Heap} {locs : List Loc} {cells slots : Nat} {Q : State → Prop}
variable {cc : ByteArray} {pc : Nat} {ls : Array Slot} {rest : List Value} {D : va_G} {cl : List vw_C} {A : Nat → Prop} {a : Nat} {tys : List (ClassId × FieldType)} {ws : va_W} {H0 : Heap}
theorem va_mna {X : va_W} {L : List Nat} {f : Nat → va_E} {cc : ByteArray} (hexec : p.tables.exec = Jvm.exec) (hb : c.code = cc) {own : String} {index : Nat} {ty : FieldType} {cy : ClassId} (hown : s.vm.findClass own = some m.cls) (hclink : (Cond.classLink own index ("[" ++ (FieldType.array ty).toString)).before args s = true) (hover : va_AOA ty s) (harr : (Cond.arrayClass ty).before args s = true) (hcy : s.vm.findClass (FieldType.array ty).toString = some cy)
    (hK : va_K D cl tys s) (hP : va_P D cl (X ++ va_pl L f) H) (hD : va_D A (X ++ va_pl L f)) (hS : va_S A H0 H locs) (hA : ∀ q, H0.size ≤ q → A q) {n k : Int32} {N' K' : Nat} {z : vp_A} (hn : ¬ n < 0) (hk : ¬ k < 0) (hN : n.toNatClampNeg = N') (hM : k.toNatClampNeg = K')
    (hb1 : N' * 4 ≤ 536870912) (hb2 : K' * componentBytes ty ≤ 536870912) (hb3 : K' ≤ 536870912) (hdf : fits ty (defaultValue ty) = true) (hdd : (defaultValue ty).isDefault = true) (hcells : cells + (1 + N') ≤ R.cells) (hslots : slots + (N' + N' * K') ≤ R.slots) (hz : ∀ c : ClassId, Jvm.Free.Multi.innerC c K' (defaultValue ty) = vp_cell c z) (hdg : decode cc pc = .ok (.multianewarray index 2, 4))
    (kk : ∀ (q : Nat) (r : Nat → Nat) (cA : ClassId) (H1 : Heap), (∀ i j : Nat, i < N' → j < N' → r i = r j → i = j) → (∀ i : Nat, i < N' → r i ∉ L) → va_K D cl (tys ++ [(cA, .array ty)]) s →
      va_P D cl ((X ++ [(q, .inl (cA, N', .inr (.inr (.inr (.inr (fun i => if i < N' then some (r i) else none))))))]) ++ va_pl (L ++ (List.range N').map r) (vr_up f ((List.range N').map r) (.inl (cy, z)))) H1 → va_D A ((X ++ [(q, .inl (cA, N', .inr (.inr (.inr (.inr (fun i => if i < N' then some (r i) else none))))))]) ++ va_pl (L ++ (List.range N').map r) (vr_up f ((List.range N').map r) (.inl (cy, z)))) → va_S A H0 H1 locs →
      W p l e R s m args below meth c H1 locs (cells + 1 + N') (slots + N' + N' * K') Q (F0 m (pc + 4) ls (.ref q :: rest))) : W p l e R s m args below meth c H locs cells slots Q (F0 m pc ls (.int k :: .int n :: rest)) := by
  subst hN
  subst hM
  intro T hT Xs
  obtain ⟨vm₁, cA, comp, -, fA, fC, hO, -, X', step⟩ := Xs.multianewarray2F hexec hown hclink (va_AOA.use hover) harr (g := F0 m pc ls (.int k :: .int n :: rest)) rfl (by rw [hb]; exact hdg) rfl hn hk hb1 hb2 hb3 hdf hdd hcells hslots
  have ec : some cy = some comp := hcy.symm.trans fC
  cases ec
  generalize hF : Jvm.Free.Multi.fill (T.setVm vm₁) cA cy n.toNatClampNeg k.toNatClampNeg (defaultValue ty) n.toNatClampNeg = F at X' step
  have hTh : (T.setVm vm₁).heap = H := hT
  obtain ⟨f1, f2, -, -⟩ := Jvm.Free.Multi.fill_facts (T.setVm vm₁) cA cy n.toNatClampNeg k.toNatClampNeg (defaultValue ty) n.toNatClampNeg
  rw [hF, hTh] at f1 f2
  have hold : ∀ x : Nat, x < H.size → F.heap[x]? = H[x]? := fun x hx => by
    have := Jvm.Free.Multi.fill_old (T.setVm vm₁) cA cy n.toNatClampNeg k.toNatClampNeg (defaultValue ty) (a := x) (by rw [hTh]; exact hx) n.toNatClampNeg
    rw [hF, hTh] at this
    exact this
  have hrow : ∀ j : Nat, j < n.toNatClampNeg → F.heap[H.size + 1 + j]? = some (vp_cell cy z) := fun j hj => by
    have := Jvm.Free.Multi.fill_inner (T.setVm vm₁) cA cy n.toNatClampNeg k.toNatClampNeg (defaultValue ty) n.toNatClampNeg j hj
    rw [hF, hTh, hz] at this
    exact this
  have hout : Jvm.Free.Multi.outerC cA n.toNatClampNeg H.size n.toNatClampNeg = vp_cell cA (n.toNatClampNeg, .inr (.inr (.inr (.inr (fun i => if i < n.toNatClampNeg then some (H.size + 1 + i) else none))))) := by
    rw [vp_cell_q]
    exact vr_outer cA n.toNatClampNeg H.size n.toNatClampNeg
  rw [hout] at f2
  have hlt : ∀ a, a ∈ L → a < H.size := fun a ha => by
    obtain ⟨k9, hk9⟩ := va_pl_get (X := X) (f := f) ha
    exact (hP k9 _ hk9).lt
  have hnl : ∀ i : Nat, i < n.toNatClampNeg → H.size + 1 + i ∉ L := fun i _ h => by
    have := hlt _ h
    omega
  have hnm : ∀ a, a ∈ (List.range n.toNatClampNeg).map (fun i => H.size + 1 + i) → a ∉ L := fun a ha h => by
    obtain ⟨i, -, rfl⟩ := List.mem_map.mp ha
    have := hlt _ h
    omega
  have hP0 : va_P D cl (X ++ va_pl L f) F.heap := hP.kept (fun k9 x hx => hold x.1 ((hP k9 x hx).lt))
  have hP1 : va_P D cl ((X ++ va_pl L f) ++ [(H.size, .inl (cA, n.toNatClampNeg, .inr (.inr (.inr (.inr (fun i => if i < n.toNatClampNeg then some (H.size + 1 + i) else none))))))]) F.heap := hP0.app (fun k9 x hx => by
    have h0 : k9 < 1 := (List.getElem?_eq_some_iff.mp hx).1
    rw [show k9 = 0 by omega] at hx
    cases hx
    exact f2)
  have hP2 : va_P D cl (((X ++ va_pl L f) ++ [(H.size, .inl (cA, n.toNatClampNeg, .inr (.inr (.inr (.inr (fun i => if i < n.toNatClampNeg then some (H.size + 1 + i) else none))))))]) ++ ((List.range n.toNatClampNeg).map (fun i => H.size + 1 + i)).map (fun a => (a, .inl (cy, z)))) F.heap := hP1.app (fun k9 x hx => by
    obtain ⟨a, ha, rfl⟩ := List.mem_map.mp (List.mem_of_getElem? hx)
    obtain ⟨i, hi, rfl⟩ := List.mem_map.mp ha
    exact hrow i (List.mem_range.mp hi))
  have hD2 : va_D A (((X ++ va_pl L f) ++ [(H.size, .inl (cA, n.toNatClampNeg, .inr (.inr (.inr (.inr (fun i => if i < n.toNatClampNeg then some (H.size + 1 + i) else none))))))]) ++ ((List.range n.toNatClampNeg).map (fun i => H.size + 1 + i)).map (fun a => (a, .inl (cy, z)))) := by
    have hD1 := hD.push (e := .inl (cA, n.toNatClampNeg, .inr (.inr (.inr (.inr (fun i => if i < n.toNatClampNeg then some (H.size + 1 + i) else none)))))) hP rfl (hA _ hS.1)
    generalize hW1 : (X ++ va_pl L f) ++ [(H.size, .inl (cA, n.toNatClampNeg, .inr (.inr (.inr (.inr (fun i => if i < n.toNatClampNeg then some (H.size + 1 + i) else none))))))] = W1 at hD1 hP1 ⊢
    have hle : ∀ (k9 : Nat) (x : Nat × va_E), W1[k9]? = some x → x.1 ≤ H.size := fun k9 x hx => by
      rw [← hW1] at hx
      by_cases hl : k9 < (X ++ va_pl L f).length
      · rw [List.getElem?_append_left hl] at hx
        exact Nat.le_of_lt ((hP k9 x hx).lt)
      · rw [List.getElem?_append_right (by omega)] at hx
        have h0 : k9 - (X ++ va_pl L f).length < 1 := (List.getElem?_eq_some_iff.mp hx).1
        rw [show k9 - (X ++ va_pl L f).length = 0 by omega] at hx
        cases hx
        exact Nat.le_refl _
    have hr : ∀ (k9 : Nat) (x : Nat × va_E), (((List.range n.toNatClampNeg).map (fun i => H.size + 1 + i)).map (fun a => ((a, .inl (cy, z)) : Nat × va_E)))[k9]? = some x → x.1 = H.size + 1 + k9 := fun k9 x hx => by
      rw [List.getElem?_map, List.getElem?_map] at hx
      by_cases h9 : k9 < n.toNatClampNeg
      · rw [List.getElem?_range h9] at hx
        cases hx
        rfl
      · have hn0 : (List.range n.toNatClampNeg)[k9]? = none := List.getElem?_eq_none (by rw [List.length_range]; omega)
        rw [hn0] at hx
        cases hx
    refine ⟨fun i j x y hi hj hxy => ?_, fun k9 x hx => ?_⟩
    · by_cases h1 : i < W1.length <;> by_cases h2 : j < W1.length
      · rw [List.getElem?_append_left h1] at hi
        rw [List.getElem?_append_left h2] at hj
        exact hD1.1 i j x y hi hj hxy
      · rw [List.getElem?_append_left h1] at hi
        rw [List.getElem?_append_right (by omega)] at hj
        have := hle _ _ hi
        have := hr _ _ hj
        omega
      · rw [List.getElem?_append_right (by omega)] at hi
        rw [List.getElem?_append_left h2] at hj
        have := hle _ _ hj
        have := hr _ _ hi
        omega
      · rw [List.getElem?_append_right (by omega)] at hi hj
        have := hr _ _ hi
        have := hr _ _ hj
        omega
    · by_cases h1 : k9 < W1.length
      · rw [List.getElem?_append_left h1] at hx
        exact hD1.2 k9 x hx
      · rw [List.getElem?_append_right (by omega)] at hx
        have := hr _ _ hx
        exact hA _ (by have := hS.1; omega)
  have hAr : ArrOfT s cA (.array ty) := fun N9 z9 => by
    obtain ⟨-, k9, hk9, cm9, hkk9⟩ := (hO 0 0 0).1
    exact ⟨(fun q hq => by cases hq), k9, hk9, cm9, hkk9⟩
  have hK2 : va_K D cl (tys ++ [(cA, .array ty)]) s := ⟨hK.1, fun k9 x hx => by
    by_cases hl : k9 < tys.length
    · rw [List.getElem?_append_left hl] at hx
      exact hK.2 k9 x hx
    · rw [List.getElem?_append_right (by omega)] at hx
      have h0 : k9 - tys.length < 1 := (List.getElem?_eq_some_iff.mp hx).1
      rw [show k9 - tys.length = 0 by omega] at hx
      cases hx
      exact ⟨hAr, fA⟩⟩
  obtain ⟨t, a1, b1⟩ := kk H.size (fun i => H.size + 1 + i) cA F.heap (fun i j _ _ h => by have h9 : H.size + 1 + i = H.size + 1 + j := h; omega) hnl hK2 (by rw [← vr_rows hnm]; exact vr_lay hP2) (by rw [← vr_rows hnm]; exact vr_layD hD2) ⟨by rw [f1]; have := hS.1; omega, fun x h1 h2 => (hold x (Nat.lt_of_lt_of_le h1 hS.1)).trans (hS.2.1 x h1 h2), hS.2.2⟩ F rfl X'
  refine ⟨t, step t ?_, b1⟩
  have e : T.heap.size = H.size := by rw [hT]
  rw [e]
  exact a1
end VGM
/-! ===== END ===== -/

/-! ===== BEGIN exceptions that leave a method, and their catching by the caller (launches without stack traces) ===== -/
section VXA
/-! The laws vx_back, vx_callV, vx_callS, vx_callSW, vx_throw0, vx_throwS follow proofs of the library, with one case more: JvmDerived/Free/Laws.lean (Back.of_free), Shelf42/LK1.lean (callV, callS), Shelf/KitTraced.lean (throwNew0V, throwNewS). -/
/-- where a method has thrown q: the class by its name, the cell, what was written, the world -/
def vx_T (XC : String → State → State → Prop) (st : State) (q : Addr) (t : State) (mc ms : Nat) (free : Addr → Prop) : Prop :=
  ∃ (E : String) (ce : Cell) (L : List Loc), XC E st t ∧ t.heap[q]? = some ce ∧ ce.vm = .none ∧ st.vm.findClass E = some ce.cls ∧ st.WarmedH t.vm ∧ st.sameButNew ({ t with vm := st.vm } : State) L mc ms ∧ ∀ z ∈ L, free z.base
def vx_Q (Qc : Array Value → State → Outcome → State → Prop) (XC : String → State → State → Prop) (mc ms : Nat) (free : Addr → Prop) : Array Value → State → Outcome → State → Prop := fun a st o t =>
  (Qc a st o t ∧ ∃ L, FrameEnd st o t L mc ms ∧ ∀ q ∈ L, free q.base) ∨ ∃ q, o = .threw q ∧ vx_T XC st q t mc ms free
/-- a callee that returns or throws -/
def vx_Met (l : Launch) (y : MethodName) (ws : List Cond) (rm : Room) (Pc : Array Value → State → Prop) (Qc : Array Value → State → Outcome → State → Prop) (XC : String → State → State → Prop) (mc ms : Nat) (free : Addr → Prop) : Prop :=
  MetFree l y (headSpec ws rm) Pc (fun _ _ _ _ _ => True) (vx_Q Qc XC mc ms free)
def vx_Post (XC : String → State → State → Prop) (mc ms : Nat) (free : Addr → Prop) : Pt → Array Value → Addr → Pt → Prop := fun A a q B =>
  ∃ (g : JFrame) (mk : MethodId) (t : State) (L : List Loc) (E : String) (ce : Cell), B.U.heap = t.heap ∧ B.U.vm = t.vm ∧ XC E (A.U.calling g mk a) t ∧ t.heap[q]? = some ce ∧ ce.vm = .none ∧ A.U.vm.findClass E = some ce.cls ∧ B.locs = A.locs ++ L ∧ (∀ z ∈ L, free z.base) ∧ B.cells = A.cells + mc ∧ B.slots = A.slots + ms
def vx_Back (l : Launch) (R : Room) (p : Program) (e : Env) (below : List Frame) (s : State) (sargs : Array Value) (y : MethodName) (len W9 : Nat)
    (Pre : Pt → Array Value → Prop) (Post : Pt → Array Value → Option Value → Pt → Prop) (PostX : Pt → Array Value → Addr → Pt → Prop) : Prop :=
  ∀ (m : MethodId) (meth : Method) (c : Code) (A : Pt) (g : JFrame) (ig : Instr) (mk : MethodId) (a : Array Value),
    Stand p l e R s m sargs below meth c A.U A.locs A.cells A.slots → g.method = m → g.locals.size = c.maxLocals → decode c.code g.pc = .ok (ig, len) →
    2 * g.monitorRoom + (g.stack.map fun v => v.category).sum ≤ W9 → A.U.methodNamed? y = some mk → Pre A a →
    (∃ (v : Option Value) (B : Pt), Stand p l e R s m sargs below meth c B.U B.locs B.cells B.slots ∧ Post A a v B ∧
      Steps p.tables e below (doInvoke e (A.U.setTop g) [] mk a).1 (B.U.setTop { g with pc := g.pc + len, stack := v.toList ++ g.stack })) ∨
    (∃ (q : Addr) (B : Pt), Stand p l e R s m sargs below meth c B.U B.locs B.cells B.slots ∧ PostX A a q B ∧
      Steps p.tables e below (doInvoke e (A.U.setTop g) [] mk a).1 ((B.U.setTop g).pushFrame (.throwing q)))
section Payer
variable {l : Launch} {R : Room} {p : Program} {e : Env} {below : List Frame} {s : State} {sargs : Array Value} {y : MethodName} {len W9 : Nat}
theorem vx_back {ws : List Cond} {rm : Room} {Pc : Array Value → State → Prop} {Qc : Array Value → State → Outcome → State → Prop} {XC : String → State → State → Prop} {mc ms : Nat} {free : Addr → Prop} {bytes : ByteArray} {maxL : Nat} {ret : Option FieldType}
    (hM : vx_Met l y ws rm Pc Qc XC mc ms free) (hblind : FrameBlind Pc) (hrc : rm.cells = mc) (hrs : rm.slots = ms)
    (hframes : rm.frames + 1 ≤ R.frames) (hlocals : W9 + (maxL + 11) + rm.locals ≤ R.locals)
    (hws : ∀ w ∈ ws, ∀ a' U, s.WarmedH U.vm → w.before a' U = true) (hcode : Cond.code y bytes maxL ret ∈ ws) (hinit : ∀ a' U, s.WarmedH U.vm → (Cond.initialized y.cls).before a' U = true) :
    vx_Back l R p e below s sargs y len W9 (PreOf R mc ms Pc) (PostOf Qc mc ms free) (vx_Post XC mc ms free) := by
  intro m meth c A g ig mk a X hg hsize hdg hW hn hp
  have h1 : (headSpec ws rm).pre.before a A.U = true := atoms_intro fun w hw => hws w hw _ _ X.warmed
  have h2 : (Cond.code y bytes maxL ret).before a A.U = true := hws _ hcode _ _ X.warmed
  have h3 : (Cond.initialized y.cls).before a A.U = true := hinit _ _ X.warmed
  have h4 : A.cells + (headSpec ws rm).room.cells ≤ R.cells := by rw [show (headSpec ws rm).room.cells = mc from hrc]; exact hp.1
  have h5 : A.slots + (headSpec ws rm).room.slots ≤ R.slots := by rw [show (headSpec ws rm).room.slots = ms from hrs]; exact hp.2.1
  have hPc : Pc a (A.U.calling g mk a) := hblind _ _ _ _ hp.2.2
  obtain ⟨U, Ls, c0, s0⟩ := A
  dsimp only [Pt.U, Pt.locs, Pt.cells, Pt.slots] at h1 h2 h3 h4 h5 X hn hPc ⊢
  obtain ⟨methY, cY, hmY, hcY, -, hlY, -, -, -, -⟩ := Cond.code_spec hn h2
  obtain ⟨kY, hkY, -⟩ := className_of_methodNamed hn
  have hinitY : kY.init = .initialized := Cond.initialized_spec (findClass_of_methodNamed hn) hkY h3
  have h : At U g.method c below := by rw [hg]; exact X.here
  have hlocals9 : W9 + (maxL + 11) + (headSpec ws rm).room.locals ≤ R.locals := hlocals
  have happ : (headSpec ws rm).appliesLoose y e.platform (U.calling g mk a) = true :=
    Spec.appliesLoose_calling (g := g) h hdg hn hkY hinitY
      (X.room_calling (g := g) (R' := (headSpec ws rm).room) hsize hmY hcY hframes (by rw [hlY]; omega) h4 h5) h1
  obtain ⟨mid, hmid⟩ := h.above
  have hfr : (U.setTop g).frames = (.java g :: mid) ++ below := by rw [State.frames_setTop' g h.top, hmid]; rfl
  obtain ⟨o, s₂, hsteps, -, hend, hq⟩ := Steps.callFree hM p X.admits X.cas X.clock (acts := []) hfr happ hPc trivial
  have hq' : vx_Q Qc XC mc ms free a (U.calling g mk a) o s₂ := hq
  rw [State.frames_setTop' g h.top] at hend
  obtain ⟨g₀, hg0⟩ := Option.isSome_iff_exists.mp h.top
  obtain ⟨r, hr⟩ := State.topJava?_eq_some.mp hg0
  have hr' : (({ U with heap := s₂.heap, slotsUsed := s₂.slotsUsed } : State).setVm s₂.vm).frames = .java g₀ :: r := hr
  rcases hq' with ⟨hqc, L, hfe, hL⟩ | ⟨q, rfl, E, ce, L, hx, hce, hcv, hcl, hW₂, hsm, hL⟩
  · obtain ⟨⟨v, rfl⟩, hW₂, e2, q2, q3, q4, q5, q6⟩ := id hfe
    have e3 : s₂ = ({ (U.calling g mk a).setFrames s₂.frames with heap := s₂.heap, slotsUsed := s₂.slotsUsed } : State).setVm s₂.vm := by
      have : s₂ = ({ s₂ with vm := (U.calling g mk a).vm } : State).setVm s₂.vm := rfl
      rw [e2] at this
      exact this
    obtain ⟨c₂, i₂, len₂, hc₂, hd₂, hf₂⟩ := hend
    have hW' : U.WarmedH s₂.vm := hW₂
    have hcc : c₂ = c := by
      have h1 : s₂.code? g.method = U.code? g.method := by
        rw [State.code?_eq, State.code?_eq, hW'.alike.method?]
      exact Option.some.inj (hc₂.symm.trans (h1.trans h.code))
    subst hcc
    have hlen : len₂ = len := by rw [hdg] at hd₂; cases hd₂; rfl
    subst hlen
    have hs₂ : s₂ = (({ U with heap := s₂.heap, slotsUsed := s₂.slotsUsed } : State).setVm s₂.vm).setTop { g with pc := g.pc + len₂, stack := v.toList ++ g.stack } := by
      refine e3.trans ?_
      rw [hf₂, State.calling_eq h.top, State.setFrames_setFrames, State.setTop_of_frames _ hr', hr]
      rfl
    have hsame : U.sameButNew ({ U with heap := s₂.heap, slotsUsed := s₂.slotsUsed } : State) L mc ms := by
      refine ⟨?_, q2, q3, q4, q5, q6⟩
      obtain ⟨t, ht, -⟩ := State.frames_cons hr
      show ({ U with heap := s₂.heap, slotsUsed := s₂.slotsUsed } : State) = { U.setFrames U.frames with heap := s₂.heap, slotsUsed := s₂.slotsUsed }
      rw [State.setFrames_self ht]
    subst hg
    refine Or.inl ⟨v, ⟨(({ U with heap := s₂.heap, slotsUsed := s₂.slotsUsed } : State).setVm s₂.vm), Ls ++ L, c0 + mc, s0 + ms⟩,
      ⟨X.admits, X.cas, X.clock, X.frames, X.room, X.hears, X.method, X.code, (X.here.setHeapUsed s₂.heap s₂.slotsUsed).setVm hW'.alike, X.tail, State.WarmedH.trans X.warmed hW', X.limits, X.bytes, X.same.trans (hsame.setVm s.vm)⟩,
      ⟨g, mk, s₂, L, rfl, rfl, hqc, rfl, hL, rfl, rfl⟩, ?_⟩
    show Steps p.tables e below _ ((({ U with heap := s₂.heap, slotsUsed := s₂.slotsUsed } : State).setVm s₂.vm).setTop { g with pc := g.pc + len₂, stack := v.toList ++ g.stack })
    rw [← hs₂]
    exact hsteps
  · obtain ⟨e2, q2, q3, q4, q5, q6⟩ := id hsm
    have e3 : s₂ = ({ (U.calling g mk a).setFrames s₂.frames with heap := s₂.heap, slotsUsed := s₂.slotsUsed } : State).setVm s₂.vm := by
      have : s₂ = ({ s₂ with vm := (U.calling g mk a).vm } : State).setVm s₂.vm := rfl
      rw [e2] at this
      exact this
    have hf₂ : s₂.frames = .throwing q :: .java g :: U.frames.tail := hend
    have hW' : U.WarmedH s₂.vm := hW₂
    have hs₂ : s₂ = ((({ U with heap := s₂.heap, slotsUsed := s₂.slotsUsed } : State).setVm s₂.vm).setTop g).pushFrame (.throwing q) := by
      refine e3.trans ?_
      rw [hf₂, State.calling_eq h.top, State.setFrames_setFrames, State.pushFrame, State.frames_setTop _ hr', State.setTop_of_frames _ hr', State.setFrames_setFrames, hr]
      rfl
    have hsame : U.sameButNew ({ U with heap := s₂.heap, slotsUsed := s₂.slotsUsed } : State) L mc ms := by
      refine ⟨?_, q2, q3, q4, q5, q6⟩
      obtain ⟨t, ht, -⟩ := State.frames_cons hr
      show ({ U with heap := s₂.heap, slotsUsed := s₂.slotsUsed } : State) = { U.setFrames U.frames with heap := s₂.heap, slotsUsed := s₂.slotsUsed }
      rw [State.setFrames_self ht]
    subst hg
    refine Or.inr ⟨q, ⟨(({ U with heap := s₂.heap, slotsUsed := s₂.slotsUsed } : State).setVm s₂.vm), Ls ++ L, c0 + mc, s0 + ms⟩,
      ⟨X.admits, X.cas, X.clock, X.frames, X.room, X.hears, X.method, X.code, (X.here.setHeapUsed s₂.heap s₂.slotsUsed).setVm hW'.alike, X.tail, State.WarmedH.trans X.warmed hW', X.limits, X.bytes, X.same.trans (hsame.setVm s.vm)⟩,
      ⟨g, mk, s₂, L, E, ce, rfl, rfl, hx, hce, hcv, hcl, rfl, hL, rfl, rfl⟩, ?_⟩
    show Steps p.tables e below _ (((({ U with heap := s₂.heap, slotsUsed := s₂.slotsUsed } : State).setVm s₂.vm).setTop g).pushFrame (.throwing q))
    rw [← hs₂]
    exact hsteps
end Payer
section Calls
variable {p : Program} {l : Launch} {e : Env} {R : Room} {s : State} {m : MethodId} {args : Array Value} {below : List Frame} {meth : Method} {c : Code} {T : State} {locs : List Loc} {cells slots : Nat}
theorem vx_callV (X : Stand p l e R s m args below meth c T locs cells slots) (hexec : p.tables.exec = Jvm.exec) {own C : String} {index : Nat} {y : MethodName} {bytes : ByteArray} {maxL : Nat} {ret : Option FieldType}
    (hown : s.vm.findClass own = some m.cls) (hlink : (Cond.methodLink own index y).before args s = true) (hinst : (Cond.instanceMethod y).before args s = true) (hsel : (Cond.selects C y y).before args s = true)
    (hcode : (Cond.code y bytes maxL ret).before args s = true) (hy : y.cls ≠ "java/lang/invoke/MethodHandle" ∧ y.cls ≠ "java/lang/invoke/VarHandle")
    {W9 : Nat} {Pre : Pt → Array Value → Prop} {Post : Pt → Array Value → Option Value → Pt → Prop} {PostX : Pt → Array Value → Addr → Pt → Prop} (hK : vx_Back l R p e below s args y 3 W9 Pre Post PostX)
    {b : Addr} {cellB : Cell} (hcell : T.heap[b]? = some cellB) (hobj : cellB.vm.isStatics = false) (hcls : s.vm.findClass C = some cellB.cls)
    {g : JFrame} (hg : g.method = m) (hsize : g.locals.size = c.maxLocals) {argsL rest : List Value} (hlen : ∀ sig, parseMethodDescriptor y.desc = some sig → argsL.length = sig.parameters.length)
    (hstack : g.stack = argsL.reverse ++ .ref b :: rest) (hW : 2 * g.monitorRoom + (rest.map fun v => v.category).sum ≤ W9) (hdg : decode c.code g.pc = .ok (.invokevirtual index, 3))
    (hpre : ∀ vm₁, s.WarmedH vm₁ → Pre ⟨T.setVm vm₁, locs, cells, slots⟩ (Value.ref b :: argsL).toArray) :
    (∃ (v : Option Value) (vm₁ : Vm) (B : Pt), s.WarmedH vm₁ ∧ Stand p l e R s m args below meth c B.U B.locs B.cells B.slots ∧ Post ⟨T.setVm vm₁, locs, cells, slots⟩ (Value.ref b :: argsL).toArray v B ∧
      ∀ target, Steps p.tables e below (B.U.setTop { g with pc := g.pc + 3, stack := v.toList ++ rest }) target → Steps p.tables e below (T.setTop g) target) ∨
    (∃ (q : Addr) (vm₁ : Vm) (B : Pt), s.WarmedH vm₁ ∧ Stand p l e R s m args below meth c B.U B.locs B.cells B.slots ∧ PostX ⟨T.setVm vm₁, locs, cells, slots⟩ (Value.ref b :: argsL).toArray q B ∧
      Steps p.tables e below (T.setTop g) ((B.U.setTop { g with stack := rest }).pushFrame (.throwing q))) := by
  obtain ⟨mk, methM, hnamed, hmethM, hstM, habM⟩ := Cond.instanceMethod_spec hinst
  obtain ⟨methM', cM, hmethM', -, -, -, -, -, -, hsigM⟩ := Cond.code_spec hnamed hcode
  cases hmethM.symm.trans hmethM'
  obtain ⟨c2, r2, m2, q1, q2, q3, q4, kP, hkP, hkPi⟩ := Cond.selects_spec hsel
  cases hcls.symm.trans q1
  cases (State.methodFound?_of_named hnamed hy).symm.trans q2
  cases hnamed.symm.trans q3
  have hselP : selectMethod e.platform s.vm cellB.cls mk = .method mk := by rw [Launch.admits_selectMethod X.admits]; exact q4
  obtain ⟨vm₁, X₁, hstep₁⟩ := X.invokevirtual hexec hown hlink hnamed hmethM hstM hkP hkPi hy (a := b) (cell := cellB) hcell
    (fun z h => by rw [h] at hobj; cases hobj) hselP hmethM habM hkP hkPi (g := g) hg (argsL := argsL) (rest := rest) (hlen _ hsigM) hstack hdg
  rcases hK m meth c ⟨T.setVm vm₁, locs, cells, slots⟩ { g with stack := rest } (.invokevirtual index) mk (Value.ref b :: argsL).toArray X₁ hg hsize hdg hW (X₁.named hnamed) (hpre vm₁ X₁.warmed) with ⟨v, B, X', hpost, hsteps⟩ | ⟨q, B, X', hpost, hsteps⟩
  · exact Or.inl ⟨v, vm₁, B, X₁.warmed, X', hpost, fun target h => hstep₁ _ fun acts => by rw [doInvoke_state]; exact hsteps.trans h⟩
  · exact Or.inr ⟨q, vm₁, B, X₁.warmed, X', hpost, hstep₁ _ fun acts => by rw [doInvoke_state]; exact hsteps⟩
theorem vx_callS (X : Stand p l e R s m args below meth c T locs cells slots) (hexec : p.tables.exec = Jvm.exec) {own : String} {index : Nat} {y : MethodName} {bytes : ByteArray} {maxL : Nat} {ret : Option FieldType}
    (hown : s.vm.findClass own = some m.cls) (hlink : (Cond.methodLink own index y).before args s = true) (hstat : (Cond.static y).before args s = true) (hinit : (Cond.initialized y.cls).before args s = true)
    (hcode : (Cond.code y bytes maxL ret).before args s = true) (hy : y.cls ≠ "java/lang/invoke/MethodHandle" ∧ y.cls ≠ "java/lang/invoke/VarHandle")
    {W9 : Nat} {Pre : Pt → Array Value → Prop} {Post : Pt → Array Value → Option Value → Pt → Prop} {PostX : Pt → Array Value → Addr → Pt → Prop} (hK : vx_Back l R p e below s args y 3 W9 Pre Post PostX)
    {g : JFrame} (hg : g.method = m) (hsize : g.locals.size = c.maxLocals) {argsL rest : List Value} (hlen : ∀ sig, parseMethodDescriptor y.desc = some sig → argsL.length = sig.parameters.length)
    (hstack : g.stack = argsL.reverse ++ rest) (hW : 2 * g.monitorRoom + (rest.map fun v => v.category).sum ≤ W9) (hdg : decode c.code g.pc = .ok (.invokestatic index, 3))
    (hpre : ∀ vm₁, s.WarmedH vm₁ → Pre ⟨T.setVm vm₁, locs, cells, slots⟩ argsL.toArray) :
    (∃ (v : Option Value) (vm₁ : Vm) (B : Pt), s.WarmedH vm₁ ∧ Stand p l e R s m args below meth c B.U B.locs B.cells B.slots ∧ Post ⟨T.setVm vm₁, locs, cells, slots⟩ argsL.toArray v B ∧
      ∀ target, Steps p.tables e below (B.U.setTop { g with pc := g.pc + 3, stack := v.toList ++ rest }) target → Steps p.tables e below (T.setTop g) target) ∨
    (∃ (q : Addr) (vm₁ : Vm) (B : Pt), s.WarmedH vm₁ ∧ Stand p l e R s m args below meth c B.U B.locs B.cells B.slots ∧ PostX ⟨T.setVm vm₁, locs, cells, slots⟩ argsL.toArray q B ∧
      Steps p.tables e below (T.setTop g) ((B.U.setTop { g with stack := rest }).pushFrame (.throwing q))) := by
  obtain ⟨mk, hnamed⟩ := Cond.code_named hcode
  obtain ⟨methM, cM, hmethM, -, -, -, -, -, -, hsigM⟩ := Cond.code_spec hnamed hcode
  have hstatic : methM.isStatic = true := Cond.static_spec hnamed hmethM hstat
  obtain ⟨kP, hkP, -⟩ := className_of_methodNamed hnamed
  have hinitP : kP.init = .initialized := Cond.initialized_spec (findClass_of_methodNamed hnamed) hkP hinit
  obtain ⟨vm₁, X₁, hstep₁⟩ := X.invokestatic hexec hown hlink hnamed hmethM hstatic hkP hinitP hy (g := g) hg (argsL := argsL) (rest := rest) (hlen _ hsigM) hstack hdg
  rcases hK m meth c ⟨T.setVm vm₁, locs, cells, slots⟩ { g with stack := rest } (.invokestatic index) mk argsL.toArray X₁ hg hsize hdg hW (X₁.named hnamed) (hpre vm₁ X₁.warmed) with ⟨v, B, X', hpost, hsteps⟩ | ⟨q, B, X', hpost, hsteps⟩
  · exact Or.inl ⟨v, vm₁, B, X₁.warmed, X', hpost, fun target h => hstep₁ _ fun acts => by rw [doInvoke_state]; exact hsteps.trans h⟩
  · exact Or.inr ⟨q, vm₁, B, X₁.warmed, X', hpost, hstep₁ _ fun acts => by rw [doInvoke_state]; exact hsteps⟩
end Calls
theorem vx_cls {s : State} {T : State} {vm₁ : Vm} {E : String} {k : ClassId} (hW : s.WarmedH vm₁) (h : (T.setVm vm₁).vm.findClass E = some k) : s.vm.findClass E = some k := by
  have h1 : vm₁.findClass E = some k := h
  rw [hW.alike.findClass] at h1
  exact h1
/-- the method's frame g, with q thrown over it -/
def vx_W (p : Program) (l : Launch) (e : Env) (R : Room) (s : State) (m : MethodId) (args : Array Value) (below : List Frame) (meth : Method) (c : Code) (H : Heap) (locs : List Loc) (cells slots : Nat) (Q : State → Prop) (g : JFrame) (q : Addr) : Prop :=
  ∀ T : State, T.heap = H → Stand p l e R s m args below meth c T locs cells slots → ∃ t, Steps p.tables e below ((T.setTop g).pushFrame (.throwing q)) t ∧ Q t
def vx_Run (p : Program) (l : Launch) (e : Env) (R : Room) (s : State) (m : MethodId) (args : Array Value) (below : List Frame) (meth : Method) (c : Code) (H : Heap) (locs : List Loc) (cells slots mc ms : Nat) (g : JFrame) (rest : List Value) (Qa : State → Outcome → State → Prop) (XC : String → State → State → Prop) (free : Addr → Prop) : Prop :=
  ∀ T : State, T.heap = H → Stand p l e R s m args below meth c T locs cells slots →
    (∃ (v : Option Value) (st₀ t T' : State) (L : List Loc), st₀.heap = H ∧ Stand p l e R s m args below meth c T' (locs ++ L) (cells + mc) (slots + ms) ∧ (∀ q ∈ L, free q.base) ∧ T'.heap = t.heap ∧ T'.vm = t.vm ∧ Qa st₀ (.returned v) t ∧
      Goes p e below T g T' { g with pc := g.pc + 3, stack := v.toList ++ rest }) ∨
    (∃ (q : Addr) (st₀ t T' : State) (L : List Loc) (E : String) (ce : Cell), st₀.heap = H ∧ Stand p l e R s m args below meth c T' (locs ++ L) (cells + mc) (slots + ms) ∧ (∀ z ∈ L, free z.base) ∧ T'.heap = t.heap ∧ T'.vm = t.vm ∧ XC E st₀ t ∧ t.heap[q]? = some ce ∧ ce.vm = .none ∧ s.vm.findClass E = some ce.cls ∧
      Steps p.tables e below (T.setTop g) ((T'.setTop { g with stack := rest }).pushFrame (.throwing q)))
def vx_X {S : Type} (px : S → Prop) (B : String → S → State → Prop) (A : Nat → Prop) : String → State → State → Prop := fun E st t => ∃ u : S, px u ∧ B E u t ∧ va_F A st t
section Runs
variable {p : Program} {l : Launch} {e : Env} {R : Room} {s : State} {m : MethodId} {args : Array Value} {below : List Frame} {meth : Method} {c : Code} {H : Heap} {locs : List Loc} {cells slots : Nat}
variable {y : MethodName} {bytes cc : ByteArray} {maxL nL mc ms n index : Nat} {ret : Option FieldType} {ws : List Cond} {rm : Room} {Pc : Array Value → State → Prop} {Qc : Array Value → State → Outcome → State → Prop} {XC : String → State → State → Prop} {free : Addr → Prop} {Ts : List Cond} {own C : String} {b : Addr} {As rest : List Value} {g : JFrame}
theorem vx_callBack (cb : CallB R s args own index y bytes maxL ret ws rm mc ms n) (hM : vx_Met l y ws rm Pc Qc XC mc ms free) (hbl : FrameBlind Pc) : vx_Back l R p e below s args y 3 8 (PreOf R mc ms Pc) (PostOf Qc mc ms free) (vx_Post XC mc ms free) := by
  obtain ⟨hrc, hrs, hfr, hlo, hws, hcw, -, hini, -⟩ := cb
  exact vx_back (bytes := bytes) (maxL := maxL) (ret := ret) hM hbl hrc hrs hfr hlo hws hcw (fun a' U hW => word_at hW (Or.inl (by first | rfl | simp [Cond.onTables, Cond.keeps, Cond.steady])) hini)
theorem vx_runV (S : CallFix p m c cc nL s args Ts own) (hM : vx_Met l y ws rm Pc Qc XC mc ms free) (cw : CallW R s args own C index y bytes maxL ret ws rm mc ms n) (hp : PreV s H C b Pc As)
    (hg : g.method = m) (hn : As.length = n) (hsize : g.locals.size = nL) (hstack : g.stack = As.reverse ++ .ref b :: rest) (hW : 2 * g.monitorRoom + (rest.map fun v => v.category).sum ≤ 8) (hdg : decode cc g.pc = .ok (.invokevirtual index, 3)) (hf : cells + mc ≤ R.cells ∧ slots + ms ≤ R.slots) :
    vx_Run p l e R s m args below meth c H locs cells slots mc ms g rest (Qc (Value.ref b :: As).toArray) XC free := by
  have hK : vx_Back l R p e below s args y 3 8 (PreOf R mc ms Pc) (PostOf Qc mc ms free) (vx_Post XC mc ms free) := vx_callBack cw.1 hM hp.1
  obtain ⟨⟨-, -, -, -, -, -, hcode, -, hy, hlen, hl⟩, hin, hse⟩ := cw
  obtain ⟨hx, hb, hml, ho, -⟩ := S
  obtain ⟨-, ⟨cellB, hcB, hoB, hclB⟩, hPc⟩ := hp
  intro T hT X
  rcases vx_callV X hx (C := C) (bytes := bytes) (maxL := maxL) (ret := ret) ho hl hin hse hcode hy hK (by rw [hT]; exact hcB) hoB hclB hg (hsize.trans hml.symm) (argsL := As) (rest := rest) (fun sig h => hn.trans (hlen sig h)) hstack hW (by rw [hb]; exact hdg)
    (fun vm₁ hW₁ => ⟨hf.1, hf.2, hPc (T.setVm vm₁) hT hW₁⟩) with ⟨v, vm₁, ⟨U', l2, c2, s2⟩, hW₁, X', ⟨g', mk, t, L, e1, e2, hq, h1, hL, h2, h3⟩, st⟩ | ⟨q, vm₁, ⟨U', l2, c2, s2⟩, hW₁, X', ⟨g', mk, t, L, E, ce, e1, e2, hq, hce, hcv, hcl, h1, hL, h2, h3⟩, st⟩
  · dsimp only [Pt.U, Pt.locs, Pt.cells, Pt.slots] at X' e1 e2 h1 h2 h3 st
    subst h1; subst h2; subst h3
    exact Or.inl ⟨v, (T.setVm vm₁).calling g' mk (Value.ref b :: As).toArray, t, U', L, hT, X', hL, e1, e2, hq, st⟩
  · dsimp only [Pt.U, Pt.locs, Pt.cells, Pt.slots] at X' e1 e2 h1 h2 h3 st hcl
    subst h1; subst h2; subst h3
    exact Or.inr ⟨q, (T.setVm vm₁).calling g' mk (Value.ref b :: As).toArray, t, U', L, E, ce, hT, X', hL, e1, e2, hq, hce, hcv, vx_cls hW₁ hcl, st⟩
theorem vx_runS (S : CallFix p m c cc nL s args Ts own) (hM : vx_Met l y ws rm Pc Qc XC mc ms free) (cw : CallB R s args own index y bytes maxL ret ws rm mc ms n ∧ (Cond.static y).before args s = true) (hp : PreS s H Pc As)
    (hg : g.method = m) (hn : As.length = n) (hsize : g.locals.size = nL) (hstack : g.stack = As.reverse ++ rest) (hW : 2 * g.monitorRoom + (rest.map fun v => v.category).sum ≤ 8) (hdg : decode cc g.pc = .ok (.invokestatic index, 3)) (hf : cells + mc ≤ R.cells ∧ slots + ms ≤ R.slots) :
    vx_Run p l e R s m args below meth c H locs cells slots mc ms g rest (Qc As.toArray) XC free := by
  have hK : vx_Back l R p e below s args y 3 8 (PreOf R mc ms Pc) (PostOf Qc mc ms free) (vx_Post XC mc ms free) := vx_callBack cw.1 hM hp.1
  obtain ⟨⟨-, -, -, -, -, -, hcode, hini, hy, hlen, hl⟩, hstt⟩ := cw
  obtain ⟨hx, hb, hml, ho, -⟩ := S
  intro T hT X
  rcases vx_callS X hx (bytes := bytes) (maxL := maxL) (ret := ret) ho hl hstt hini hcode hy hK hg (hsize.trans hml.symm) (argsL := As) (rest := rest) (fun sig h => hn.trans (hlen sig h)) hstack hW (by rw [hb]; exact hdg)
    (fun vm₁ hW₁ => ⟨hf.1, hf.2, hp.2 (T.setVm vm₁) hT hW₁⟩) with ⟨v, vm₁, ⟨U', l2, c2, s2⟩, hW₁, X', ⟨g', mk, t, L, e1, e2, hq, h1, hL, h2, h3⟩, st⟩ | ⟨q, vm₁, ⟨U', l2, c2, s2⟩, hW₁, X', ⟨g', mk, t, L, E, ce, e1, e2, hq, hce, hcv, hcl, h1, hL, h2, h3⟩, st⟩
  · dsimp only [Pt.U, Pt.locs, Pt.cells, Pt.slots] at X' e1 e2 h1 h2 h3 st
    subst h1; subst h2; subst h3
    exact Or.inl ⟨v, (T.setVm vm₁).calling g' mk As.toArray, t, U', L, hT, X', hL, e1, e2, hq, st⟩
  · dsimp only [Pt.U, Pt.locs, Pt.cells, Pt.slots] at X' e1 e2 h1 h2 h3 st hcl
    subst h1; subst h2; subst h3
    exact Or.inr ⟨q, (T.setVm vm₁).calling g' mk As.toArray, t, U', L, E, ce, hT, X', hL, e1, e2, hq, hce, hcv, vx_cls hW₁ hcl, st⟩
end Runs
section Rows
variable {p : Program} {l : Launch} {e : Env} {R : Room} {s : State} {m : MethodId} {args : Array Value} {below : List Frame} {meth : Method} {c : Code} {H : Heap} {locs : List Loc} {cells slots : Nat} {Q : State → Prop}
variable {mc ms : Nat} {free : Addr → Prop} {A0 A1 : Nat → Prop} {H0 : Heap} {a : Array Value} {pc : Nat} {ls : Array Slot} {st0 rest : List Value}
theorem vx_keep {st₀ t T' : State} {L : List Loc} (h0 : st₀.heap = H) (e1 : T'.heap = t.heap) (hS : va_S A0 H0 H locs) (hA : ∀ q, q < H.size → A1 q → A0 q) (hf : ∀ q, free q → A0 q) (hL : ∀ q ∈ L, free q.base) (hF : va_F A1 st₀ t) :
    H.size ≤ T'.heap.size ∧ (∀ q : Nat, q < H.size → ¬ A1 q → T'.heap[q]? = H[q]?) ∧ va_S A0 H0 T'.heap (locs ++ L) := by
  obtain ⟨hz, hk⟩ := hF
  rw [h0] at hz hk
  exact ⟨by rw [e1]; exact hz, fun q h1 h2 => by rw [e1]; exact hk q h1 h2,
    ⟨Nat.le_trans hS.1 (by rw [e1]; exact hz), fun q h1 h2 => by rw [e1, hk q (Nat.lt_of_lt_of_le h1 hS.1) (fun z => h2 (hA q (Nat.lt_of_lt_of_le h1 hS.1) z))]; exact hS.2.1 q h1 h2, fun q hq => by
      rcases List.mem_append.mp hq with h | h
      · exact hS.2.2 q h
      · exact hf _ (hL q h)⟩⟩
theorem vx_calli {S SX : Type} {post : Int32 → S → Prop} {px : SX → Prop} {B : S → State → Prop} {BX : String → SX → State → Prop} {AX : Nat → Prop} (hr : vx_Run p l e R s m args below meth c H locs cells slots mc ms (F0 m pc ls st0) rest (va_Qi post B A1 a) (vx_X px BX AX) free) (hS : va_S A0 H0 H locs) (hA : ∀ q, q < H.size → A1 q → A0 q) (hf : ∀ q, free q → A0 q) (hAX : ∀ q, q < H.size → AX q → A0 q)
    (kx : ∀ (E : String) (ce : Cell) (q9 : Addr) (u : SX) (t : State) (H1 : Heap) (locs1 : List Loc), t.heap = H1 → s.vm.Alike t.vm → px u → BX E u t → H.size ≤ H1.size → (∀ q : Nat, q < H.size → ¬ AX q → H1[q]? = H[q]?) → va_S A0 H0 H1 locs1 → H1[q9]? = some ce → ce.vm = .none → s.vm.findClass E = some ce.cls → vx_W p l e R s m args below meth c H1 locs1 (cells + mc) (slots + ms) Q (F0 m pc ls rest) q9)
    (kk : ∀ (r : Int32) (u : S) (t : State) (H1 : Heap) (locs1 : List Loc), t.heap = H1 → s.vm.Alike t.vm → post r u → B u t → H.size ≤ H1.size → (∀ q : Nat, q < H.size → ¬ A1 q → H1[q]? = H[q]?) → va_S A0 H0 H1 locs1 → W p l e R s m args below meth c H1 locs1 (cells + mc) (slots + ms) Q (F0 m (pc + 3) ls (.int r :: rest))) : W p l e R s m args below meth c H locs cells slots Q (F0 m pc ls st0) := by
  intro T hT X
  rcases hr T hT X with ⟨v, st₀, t, T', L, h0, X', hL, e1, e2, ⟨⟨r, u, hv, hp, hb⟩, hF⟩, st⟩ | ⟨q, st₀, t, T', L, E, ce, h0, X', hL, e1, e2, ⟨u, hp, hb, hF⟩, hce, hcv, hcl, st⟩
  · cases hv
    obtain ⟨k1, k2, k3⟩ := vx_keep h0 e1 hS hA hf hL hF
    obtain ⟨t2, a1, b1⟩ := kk r u t T'.heap (locs ++ L) e1.symm (by rw [← e2]; exact X'.warmed.alike) hp hb k1 k2 k3 T' rfl X'
    exact ⟨t2, st t2 a1, b1⟩
  · obtain ⟨k1, k2, k3⟩ := vx_keep h0 e1 hS hAX hf hL hF
    obtain ⟨t2, a1, b1⟩ := kx E ce q u t T'.heap (locs ++ L) e1.symm (by rw [← e2]; exact X'.warmed.alike) hp hb k1 k2 k3 (by rw [e1]; exact hce) hcv hcl T' rfl X'
    exact ⟨t2, st.trans a1, b1⟩
theorem vx_calll {S SX : Type} {post : Int64 → S → Prop} {px : SX → Prop} {B : S → State → Prop} {BX : String → SX → State → Prop} {AX : Nat → Prop} (hr : vx_Run p l e R s m args below meth c H locs cells slots mc ms (F0 m pc ls st0) rest (va_Ql post B A1 a) (vx_X px BX AX) free) (hS : va_S A0 H0 H locs) (hA : ∀ q, q < H.size → A1 q → A0 q) (hf : ∀ q, free q → A0 q) (hAX : ∀ q, q < H.size → AX q → A0 q)
    (kx : ∀ (E : String) (ce : Cell) (q9 : Addr) (u : SX) (t : State) (H1 : Heap) (locs1 : List Loc), t.heap = H1 → s.vm.Alike t.vm → px u → BX E u t → H.size ≤ H1.size → (∀ q : Nat, q < H.size → ¬ AX q → H1[q]? = H[q]?) → va_S A0 H0 H1 locs1 → H1[q9]? = some ce → ce.vm = .none → s.vm.findClass E = some ce.cls → vx_W p l e R s m args below meth c H1 locs1 (cells + mc) (slots + ms) Q (F0 m pc ls rest) q9)
    (kk : ∀ (r : Int64) (u : S) (t : State) (H1 : Heap) (locs1 : List Loc), t.heap = H1 → s.vm.Alike t.vm → post r u → B u t → H.size ≤ H1.size → (∀ q : Nat, q < H.size → ¬ A1 q → H1[q]? = H[q]?) → va_S A0 H0 H1 locs1 → W p l e R s m args below meth c H1 locs1 (cells + mc) (slots + ms) Q (F0 m (pc + 3) ls (.long r :: rest))) : W p l e R s m args below meth c H locs cells slots Q (F0 m pc ls st0) := by
  intro T hT X
  rcases hr T hT X with ⟨v, st₀, t, T', L, h0, X', hL, e1, e2, ⟨⟨r, u, hv, hp, hb⟩, hF⟩, st⟩ | ⟨q, st₀, t, T', L, E, ce, h0, X', hL, e1, e2, ⟨u, hp, hb, hF⟩, hce, hcv, hcl, st⟩
  · cases hv
    obtain ⟨k1, k2, k3⟩ := vx_keep h0 e1 hS hA hf hL hF
    obtain ⟨t2, a1, b1⟩ := kk r u t T'.heap (locs ++ L) e1.symm (by rw [← e2]; exact X'.warmed.alike) hp hb k1 k2 k3 T' rfl X'
    exact ⟨t2, st t2 a1, b1⟩
  · obtain ⟨k1, k2, k3⟩ := vx_keep h0 e1 hS hAX hf hL hF
    obtain ⟨t2, a1, b1⟩ := kx E ce q u t T'.heap (locs ++ L) e1.symm (by rw [← e2]; exact X'.warmed.alike) hp hb k1 k2 k3 (by rw [e1]; exact hce) hcv hcl T' rfl X'
    exact ⟨t2, st.trans a1, b1⟩
theorem vx_callf {S SX : Type} {post : UInt32 → S → Prop} {px : SX → Prop} {B : S → State → Prop} {BX : String → SX → State → Prop} {AX : Nat → Prop} (hr : vx_Run p l e R s m args below meth c H locs cells slots mc ms (F0 m pc ls st0) rest (va_Qf post B A1 a) (vx_X px BX AX) free) (hS : va_S A0 H0 H locs) (hA : ∀ q, q < H.size → A1 q → A0 q) (hf : ∀ q, free q → A0 q) (hAX : ∀ q, q < H.size → AX q → A0 q)
    (kx : ∀ (E : String) (ce : Cell) (q9 : Addr) (u : SX) (t : State) (H1 : Heap) (locs1 : List Loc), t.heap = H1 → s.vm.Alike t.vm → px u → BX E u t → H.size ≤ H1.size → (∀ q : Nat, q < H.size → ¬ AX q → H1[q]? = H[q]?) → va_S A0 H0 H1 locs1 → H1[q9]? = some ce → ce.vm = .none → s.vm.findClass E = some ce.cls → vx_W p l e R s m args below meth c H1 locs1 (cells + mc) (slots + ms) Q (F0 m pc ls rest) q9)
    (kk : ∀ (r : UInt32) (u : S) (t : State) (H1 : Heap) (locs1 : List Loc), t.heap = H1 → s.vm.Alike t.vm → post r u → B u t → H.size ≤ H1.size → (∀ q : Nat, q < H.size → ¬ A1 q → H1[q]? = H[q]?) → va_S A0 H0 H1 locs1 → W p l e R s m args below meth c H1 locs1 (cells + mc) (slots + ms) Q (F0 m (pc + 3) ls (.float r :: rest))) : W p l e R s m args below meth c H locs cells slots Q (F0 m pc ls st0) := by
  intro T hT X
  rcases hr T hT X with ⟨v, st₀, t, T', L, h0, X', hL, e1, e2, ⟨⟨r, u, hv, hp, hb⟩, hF⟩, st⟩ | ⟨q, st₀, t, T', L, E, ce, h0, X', hL, e1, e2, ⟨u, hp, hb, hF⟩, hce, hcv, hcl, st⟩
  · cases hv
    obtain ⟨k1, k2, k3⟩ := vx_keep h0 e1 hS hA hf hL hF
    obtain ⟨t2, a1, b1⟩ := kk r u t T'.heap (locs ++ L) e1.symm (by rw [← e2]; exact X'.warmed.alike) hp hb k1 k2 k3 T' rfl X'
    exact ⟨t2, st t2 a1, b1⟩
  · obtain ⟨k1, k2, k3⟩ := vx_keep h0 e1 hS hAX hf hL hF
    obtain ⟨t2, a1, b1⟩ := kx E ce q u t T'.heap (locs ++ L) e1.symm (by rw [← e2]; exact X'.warmed.alike) hp hb k1 k2 k3 (by rw [e1]; exact hce) hcv hcl T' rfl X'
    exact ⟨t2, st.trans a1, b1⟩
theorem vx_calld {S SX : Type} {post : UInt64 → S → Prop} {px : SX → Prop} {B : S → State → Prop} {BX : String → SX → State → Prop} {AX : Nat → Prop} (hr : vx_Run p l e R s m args below meth c H locs cells slots mc ms (F0 m pc ls st0) rest (va_Qd post B A1 a) (vx_X px BX AX) free) (hS : va_S A0 H0 H locs) (hA : ∀ q, q < H.size → A1 q → A0 q) (hf : ∀ q, free q → A0 q) (hAX : ∀ q, q < H.size → AX q → A0 q)
    (kx : ∀ (E : String) (ce : Cell) (q9 : Addr) (u : SX) (t : State) (H1 : Heap) (locs1 : List Loc), t.heap = H1 → s.vm.Alike t.vm → px u → BX E u t → H.size ≤ H1.size → (∀ q : Nat, q < H.size → ¬ AX q → H1[q]? = H[q]?) → va_S A0 H0 H1 locs1 → H1[q9]? = some ce → ce.vm = .none → s.vm.findClass E = some ce.cls → vx_W p l e R s m args below meth c H1 locs1 (cells + mc) (slots + ms) Q (F0 m pc ls rest) q9)
    (kk : ∀ (r : UInt64) (u : S) (t : State) (H1 : Heap) (locs1 : List Loc), t.heap = H1 → s.vm.Alike t.vm → post r u → B u t → H.size ≤ H1.size → (∀ q : Nat, q < H.size → ¬ A1 q → H1[q]? = H[q]?) → va_S A0 H0 H1 locs1 → W p l e R s m args below meth c H1 locs1 (cells + mc) (slots + ms) Q (F0 m (pc + 3) ls (.double r :: rest))) : W p l e R s m args below meth c H locs cells slots Q (F0 m pc ls st0) := by
  intro T hT X
  rcases hr T hT X with ⟨v, st₀, t, T', L, h0, X', hL, e1, e2, ⟨⟨r, u, hv, hp, hb⟩, hF⟩, st⟩ | ⟨q, st₀, t, T', L, E, ce, h0, X', hL, e1, e2, ⟨u, hp, hb, hF⟩, hce, hcv, hcl, st⟩
  · cases hv
    obtain ⟨k1, k2, k3⟩ := vx_keep h0 e1 hS hA hf hL hF
    obtain ⟨t2, a1, b1⟩ := kk r u t T'.heap (locs ++ L) e1.symm (by rw [← e2]; exact X'.warmed.alike) hp hb k1 k2 k3 T' rfl X'
    exact ⟨t2, st t2 a1, b1⟩
  · obtain ⟨k1, k2, k3⟩ := vx_keep h0 e1 hS hAX hf hL hF
    obtain ⟨t2, a1, b1⟩ := kx E ce q u t T'.heap (locs ++ L) e1.symm (by rw [← e2]; exact X'.warmed.alike) hp hb k1 k2 k3 (by rw [e1]; exact hce) hcv hcl T' rfl X'
    exact ⟨t2, st.trans a1, b1⟩
theorem vx_callv {S SX : Type} {post : S → Prop} {px : SX → Prop} {B : S → State → Prop} {BX : String → SX → State → Prop} {AX : Nat → Prop} (hr : vx_Run p l e R s m args below meth c H locs cells slots mc ms (F0 m pc ls st0) rest (va_Qv post B A1 a) (vx_X px BX AX) free) (hS : va_S A0 H0 H locs) (hA : ∀ q, q < H.size → A1 q → A0 q) (hf : ∀ q, free q → A0 q) (hAX : ∀ q, q < H.size → AX q → A0 q)
    (kx : ∀ (E : String) (ce : Cell) (q9 : Addr) (u : SX) (t : State) (H1 : Heap) (locs1 : List Loc), t.heap = H1 → s.vm.Alike t.vm → px u → BX E u t → H.size ≤ H1.size → (∀ q : Nat, q < H.size → ¬ AX q → H1[q]? = H[q]?) → va_S A0 H0 H1 locs1 → H1[q9]? = some ce → ce.vm = .none → s.vm.findClass E = some ce.cls → vx_W p l e R s m args below meth c H1 locs1 (cells + mc) (slots + ms) Q (F0 m pc ls rest) q9)
    (kk : ∀ (u : S) (t : State) (H1 : Heap) (locs1 : List Loc), t.heap = H1 → s.vm.Alike t.vm → post u → B u t → H.size ≤ H1.size → (∀ q : Nat, q < H.size → ¬ A1 q → H1[q]? = H[q]?) → va_S A0 H0 H1 locs1 → W p l e R s m args below meth c H1 locs1 (cells + mc) (slots + ms) Q (F0 m (pc + 3) ls (rest))) : W p l e R s m args below meth c H locs cells slots Q (F0 m pc ls st0) := by
  intro T hT X
  rcases hr T hT X with ⟨v, st₀, t, T', L, h0, X', hL, e1, e2, ⟨⟨u, hv, hp, hb⟩, hF⟩, st⟩ | ⟨q, st₀, t, T', L, E, ce, h0, X', hL, e1, e2, ⟨u, hp, hb, hF⟩, hce, hcv, hcl, st⟩
  · cases hv
    obtain ⟨k1, k2, k3⟩ := vx_keep h0 e1 hS hA hf hL hF
    obtain ⟨t2, a1, b1⟩ := kk u t T'.heap (locs ++ L) e1.symm (by rw [← e2]; exact X'.warmed.alike) hp hb k1 k2 k3 T' rfl X'
    exact ⟨t2, st t2 a1, b1⟩
  · obtain ⟨k1, k2, k3⟩ := vx_keep h0 e1 hS hAX hf hL hF
    obtain ⟨t2, a1, b1⟩ := kx E ce q u t T'.heap (locs ++ L) e1.symm (by rw [← e2]; exact X'.warmed.alike) hp hb k1 k2 k3 (by rw [e1]; exact hce) hcv hcl T' rfl X'
    exact ⟨t2, st.trans a1, b1⟩
/-- caught by the row x of this method's table; the rows ahead don't take it -/
theorem vx_catch {own name : String} {E : String} {ce : Cell} {q : Addr} (hown : s.vm.findClass own = some m.cls) (pre : List ExceptionTableEntry) (x : ExceptionTableEntry) (suf : List ExceptionTableEntry) (hsplit : c.exceptionTable.toList = pre ++ x :: suf)
    (hpass : ∀ z ∈ pre, covers z pc = false ∨ (z.catchType ≠ 0 ∧ ∃ nm : String, (Cond.classLink own z.catchType nm).before args s = true ∧ va_Nc E nm s)) (hx : covers x pc = true) (h0 : x.catchType ≠ 0)
    (hlink : (Cond.classLink own x.catchType name).before args s = true) (hcast : (Cond.castable E name).before args s = true) (hcell : H[q]? = some ce) (hv : ce.vm = .none) (hcl : s.vm.findClass E = some ce.cls)
    (kk : W p l e R s m args below meth c H locs cells slots Q (F0 m x.handlerPc ls [.ref q])) : vx_W p l e R s m args below meth c H locs cells slots Q (F0 m pc ls rest) q := by
  intro T hT X
  have hpl : e.platform.magicAccessors = ({} : Platform).magicAccessors := by rw [X.admits.platform]
  obtain ⟨c3, c4, hc3, hc4, hasg⟩ := Cond.castable_spec hcast
  cases Option.some.inj (hc3.symm.trans hcl)
  obtain ⟨c5, hc5, hcl5⟩ := Cond.classLink_spec hown hlink e.platform hpl
  cases Option.some.inj (hc4.symm.trans hc5)
  obtain ⟨vm', X', st⟩ := X.thenCaughtThrough q (g := F0 m pc ls rest) rfl (Steps.refl _) (by rw [hT]; exact hcell) (by rw [hv]; rfl) (by obtain ⟨k9, h9, -⟩ := Vm.findClass_spec hcl; exact ⟨k9, h9⟩) pre x suf hsplit
    (fun z hz => by
      rcases hpass z hz with h | ⟨hz0, nm, hl1, hn1⟩
      · exact Or.inl h
      · obtain ⟨c6, hc6, hcl6⟩ := Cond.classLink_spec hown hl1 e.platform hpl
        obtain ⟨a8, b8, h1, h2, h3⟩ := hn1
        cases Option.some.inj (h1.symm.trans hcl)
        cases Option.some.inj (h2.symm.trans hc6)
        exact Or.inr ⟨hz0, _, hcl6, h3⟩) hx (Or.inr ⟨h0, c4, hcl5, hasg⟩)
  obtain ⟨t, a1, b1⟩ := kk (T.setVm vm') hT X'
  exact ⟨t, st.trans a1, b1⟩
end Rows
section Ends
variable {p : Program} {l : Launch} {e : Env} {R : Room} {s : State} {m : MethodId} {args : Array Value} {below : List Frame} {meth : Method} {c : Code} {H : Heap} {locs : List Loc} {cells slots : Nat} {Q : State → Prop}
variable {mc ms : Nat} {free : Addr → Prop} {A0 A1 : Nat → Prop} {H0 : Heap} {a : Array Value} {ls : Array Slot} {st0 rest : List Value}
variable {Qc : Array Value → State → Outcome → State → Prop} {XC : String → State → State → Prop}
/-- what a body that may throw owes at its end -/
def vx_MQ (below : List Frame) (Qc : Array Value → State → Outcome → State → Prop) (XC : String → State → State → Prop) (a : Array Value) (s : State) (mc ms : Nat) (free : Addr → Prop) : State → Prop := fun t =>
  ∃ o, t.status = .running ∧ Ended t below o ∧ vx_Q Qc XC mc ms free a s o t
theorem vx_ret {g : JFrame} {mc ms : Nat} (k : W p l e R s m args below meth c H locs cells slots (MQ below Qc args s mc ms free) g) : W p l e R s m args below meth c H locs cells slots (vx_MQ below Qc XC args s mc ms free) g := by
  intro T hT X
  obtain ⟨t, a1, o, b1, b2, b3, b4⟩ := k T hT X
  exact ⟨t, a1, o, b1, b2, Or.inl ⟨b3, b4⟩⟩
/-- not caught here: it goes on to the caller -/
theorem vx_widen {g : JFrame} {q : Addr} {k n : Nat} (h1 : cells ≤ k) (h2 : slots ≤ n) (kk : vx_W p l e R s m args below meth c H locs k n Q g q) : vx_W p l e R s m args below meth c H locs cells slots Q g q := fun T hT X => kk T hT (stand_widen X h1 h2)
theorem vx_out {pc : Nat} {E : String} {ce : Cell} {q : Addr} {mc ms : Nat} (hout : ∀ x ∈ c.exceptionTable.toList, covers x pc = false) (hlocks : meth.locks = false) (hcell : H[q]? = some ce) (hv : ce.vm = .none) (hcl : s.vm.findClass E = some ce.cls)
    (hx : ∀ t : State, t.heap = H → s.vm.Alike t.vm → XC E s t) (hf : ∀ z ∈ locs, free z.base) (hc : cells ≤ mc) (hs : slots ≤ ms) :
    vx_W p l e R s m args below meth c H locs cells slots (vx_MQ below Qc XC args s mc ms free) (F0 m pc ls rest) q := by
  intro T hT X
  obtain ⟨st1, hrun, hend, hW, hsm⟩ := X.leaveThrown q (g := F0 m pc ls rest) rfl rfl rfl hout hlocks
  have hcell9 : (T.setFrames (.throwing q :: below)).heap[q]? = some ce := by
    show T.heap[q]? = some ce
    rw [hT]; exact hcell
  exact ⟨_, st1, .threw q, hrun, hend, Or.inr ⟨q, rfl, E, ce, locs, hx _ hT hW.alike, hcell9, hv, hcl, hW, hsm.mono hc hs, hf⟩⟩
theorem vx_frame {U : State} {k n : Nat} (h : s.sameButNew ({ U with vm := s.vm } : State) locs k n) : s.heap.size ≤ U.heap.size ∧ ∀ q : Nat, q < s.heap.size → (∀ z ∈ locs, z.base ≠ q) → U.heap[q]? = s.heap[q]? := by
  obtain ⟨-, h2, -, -, -, h6⟩ := h
  refine ⟨h2, fun q hq hz => ?_⟩
  obtain ⟨c9, e1, e2, e3, e4⟩ := h6 q _ (Array.getElem?_eq_getElem hq)
  have hs : c9.slots = (s.heap[q]).slots := Array.ext_getElem? fun i => e4 i fun hm => hz _ hm rfl
  have h9 : c9 = s.heap[q] := by
    rw [hs] at e2
    exact e2
  have e5 : U.heap[q]? = some c9 := e1
  rw [e5, h9, Array.getElem?_eq_getElem hq]
/-- the words of a throw but the four that speak of the heap -/
def vx_no (w : Cond) : Bool := decide (w ≠ .isRef (.static Bundle.tN "UNASSIGNED_STACK" Bundle.steD)) && decide (w ≠ .isRef (.static Bundle.tN "SUPPRESSED_SENTINEL" Bundle.listD)) && decide (w ≠ .laysStatic Bundle.tN "UNASSIGNED_STACK" Bundle.steD) && decide (w ≠ .laysStatic Bundle.tN "SUPPRESSED_SENTINEL" Bundle.listD)
def vx_at0 (own : String) (ic : Nat) (X : String) (names : List String) : List Cond := (Bundle.ownAtoms0 own ic X names).filter vx_no
def vx_atS (own : String) (ic : Nat) (X : String) (names : List String) : List Cond := (Bundle.ownAtoms own ic X names).filter vx_no
/-- a word that the tables alone decide, or a good one -/
def vx_ot (w : Cond) : Bool := w.onTables || goodWord w
theorem vx_ot_at {args a' : Array Value} {s U : State} {w : Cond} (hW : s.WarmedH U.vm) (hvm : s.vm = U.vm) (hg : vx_ot w = true) (h : w.before args s = true) : w.before a' U = true := by
  simp only [vx_ot, Bool.or_eq_true] at hg
  rcases hg with hg | hg
  · exact va_tabs hg hvm h
  · exact word_at hW (good_of_word hg) h
/-- a list's words: the good ones out of the method's own list, the others by premises of their own -/
theorem vx_hat {args : Array Value} {s : State} {L B : List Cond} (h1 : ∀ w ∈ L.filter goodWord, w.before args s = true) (h2 : ∀ w ∈ L.filter (fun w => !goodWord w), w ∈ B) (h3 : ∀ w ∈ B, w.before args s = true) : ∀ w ∈ L, w.before args s = true := by
  intro w hw
  by_cases g : goodWord w = true
  · exact h1 w (List.mem_filter.mpr ⟨hw, g⟩)
  · refine h3 w (h2 w (List.mem_filter.mpr ⟨hw, ?_⟩))
    show (!goodWord w) = true
    cases hgw : goodWord w
    · rfl
    · exact absurd hgw g
theorem vx_c {args : Array Value} {s : State} {w : Cond} {B : List Cond} (h : w.before args s = true) (t : ∀ w ∈ B, w.before args s = true) : ∀ w' ∈ w :: B, w'.before args s = true := fun w' h' => (List.mem_cons.mp h').elim (fun e => by rw [e]; exact h) (t w')
theorem vx_n {args : Array Value} {s : State} : ∀ w ∈ ([] : List Cond), w.before args s = true := fun _ h => nomatch h
theorem vx_own {args : Array Value} {s : State} {L : List Cond} (h1 : ∀ w ∈ L.filter vx_no, w.before args s = true)
    (hU : (Cond.isRef (.static Bundle.tN "UNASSIGNED_STACK" Bundle.steD)).before args s = true) (hN : (Cond.isRef (.static Bundle.tN "SUPPRESSED_SENTINEL" Bundle.listD)).before args s = true)
    (lU : (Cond.laysStatic Bundle.tN "UNASSIGNED_STACK" Bundle.steD).before args s = true) (lN : (Cond.laysStatic Bundle.tN "SUPPRESSED_SENTINEL" Bundle.listD).before args s = true) : ∀ w ∈ L, w.before args s = true := by
  intro w hw
  by_cases e1 : w = .isRef (.static Bundle.tN "UNASSIGNED_STACK" Bundle.steD)
  · rw [e1]; exact hU
  · by_cases e2 : w = .isRef (.static Bundle.tN "SUPPRESSED_SENTINEL" Bundle.listD)
    · rw [e2]; exact hN
    · by_cases e3 : w = .laysStatic Bundle.tN "UNASSIGNED_STACK" Bundle.steD
      · rw [e3]; exact lU
      · by_cases e4 : w = .laysStatic Bundle.tN "SUPPRESSED_SENTINEL" Bundle.listD
        · rw [e4]; exact lN
        · exact h1 w (List.mem_filter.mpr ⟨hw, by unfold vx_no; rw [decide_eq_true e1, decide_eq_true e2, decide_eq_true e3, decide_eq_true e4]; rfl⟩)
/-- where a static field lies, its class's statics cell in H -/
def vx_L (C n d : String) (A : Nat → Prop) (U : State) (H : Heap) : Prop := ∃ (c : ClassId) (k : Class) (i : Nat) (f : Field) (a : Nat) (cell : Cell), U.vm.findClass C = some c ∧ U.fieldFound? C n d = some (c, k, i, f) ∧ f.isStatic = true ∧ k.statics = some a ∧ H[a]? = some cell ∧ cell.vm.isStatics = true ∧ cell.cls = c ∧ f.slot < cell.slots.size ∧ k.staticTypes[f.slot]? = some f.type ∧ ¬ A a
theorem vx_L.moved {C n d : String} {A : Nat → Prop} {u U : State} {H : Heap} (hvm : u.vm.Alike U.vm) (h : vx_L C n d A u H) : vx_L C n d A U H := by
  obtain ⟨c, k, i, f, a, cell, h1, h2, h3, h4, h5, h6, h7, h8, h9, h10⟩ := h
  obtain ⟨k', hi', he⟩ := State.fieldFound?_setVm hvm h2
  exact ⟨c, k', i, f, a, cell, by rw [hvm.findClass]; exact h1, hi', h3, by rw [he]; exact h4, h5, h6, h7, h8, by rw [he]; exact h9, h10⟩
theorem vx_L.kept {C n d : String} {A : Nat → Prop} {U : State} {H H1 : Heap} (h : vx_L C n d A U H) (hq : ∀ a : Nat, a < H.size → ¬ A a → H1[a]? = H[a]?) : vx_L C n d A U H1 := by
  obtain ⟨c, k, i, f, a, cell, h1, h2, h3, h4, h5, h6, h7, h8, h9, h10⟩ := h
  exact ⟨c, k, i, f, a, cell, h1, h2, h3, h4, by rw [hq a (Array.getElem?_eq_some_iff.mp h5).1 h10]; exact h5, h6, h7, h8, h9, h10⟩
theorem vx_L.narrow {C n d : String} {A B : Nat → Prop} {U : State} {H : Heap} (h : vx_L C n d A U H) (hAB : ∀ q, B q → A q) : vx_L C n d B U H := by
  obtain ⟨c, k, i, f, a, cell, h1, h2, h3, h4, h5, h6, h7, h8, h9, h10⟩ := h
  exact ⟨c, k, i, f, a, cell, h1, h2, h3, h4, h5, h6, h7, h8, h9, fun z => h10 (hAB _ z)⟩
theorem vx_L.word {C n d : String} {A : Nat → Prop} {s : State} {args : Array Value} (h : vx_L C n d A s s.heap) : (Cond.laysStatic C n d).before args s = true := by
  obtain ⟨c, k, i, f, a, cell, h1, h2, h3, h4, h5, h6, h7, h8, h9, -⟩ := h
  show (Cond.laysStatic C n d).holds args s none s [] = true
  exact Cond.laysStatic_of h1 h2 h3 h4 h5 h6 h7 h8 h9
/-- .. and what it holds: null or some reference -/
def vx_Zq (C n d : String) (A : Nat → Prop) (U : State) (H : Heap) : Prop := va_Zq C n d A U H ∧ vx_L C n d A U H
theorem vx_Zq.moved {C n d : String} {A : Nat → Prop} {u U : State} {H : Heap} (hvm : u.vm.Alike U.vm) (h : vx_Zq C n d A u H) : vx_Zq C n d A U H := ⟨va_Zq.moved hvm h.1, vx_L.moved hvm h.2⟩
theorem vx_Zq.kept {C n d : String} {A : Nat → Prop} {U : State} {H H1 : Heap} (h : vx_Zq C n d A U H) (hq : ∀ a : Nat, a < H.size → ¬ A a → H1[a]? = H[a]?) : vx_Zq C n d A U H1 := ⟨va_Zq.kept h.1 hq, vx_L.kept h.2 hq⟩
theorem vx_Zq.narrow {C n d : String} {A B : Nat → Prop} {U : State} {H : Heap} (h : vx_Zq C n d A U H) (hAB : ∀ q, B q → A q) : vx_Zq C n d B U H := ⟨va_Zq.narrow h.1 hAB, vx_L.narrow h.2 hAB⟩
theorem vx_Zqof {args : Array Value} {s : State} {C n d : String} {A : Nat → Prop} (hl : (Cond.laysStatic C n d).before args s = true) (hini : (Cond.initialized C).before args s = true) (h : (Cond.isRef (.static C n d)).before args s = true) (hA : ∀ a : Nat, a < s.heap.size → ¬ A a) : vx_Zq C n d A s s.heap := by
  refine ⟨va_Zqof hl hini h hA, ?_⟩
  obtain ⟨c, k, i, f, a, cell, h1, h2, h3, h4, h5, h6, h7, h8, h9⟩ := Cond.laysStatic_spec hl
  exact ⟨c, k, i, f, a, cell, h1, h2, h3, h4, h5, h6, h7, h8, h9, hA a (Array.getElem?_eq_some_iff.mp h5).1⟩
theorem vx_isRef {C n d : String} {v : Value} {A : Nat → Prop} {s : State} {args : Array Value} (h : va_Z C n d v A s s.heap) (hv : v.isRef = true) : (Cond.isRef (.static C n d)).before args s = true := by
  obtain ⟨cf, kf, fi, f, a, cell, h1, h2, h3, h4, h5, h6, h7, -⟩ := h
  have he : (Term.static C n d).eval args s none [] s = some v := by
    simp [Term.eval, State.fieldNamed?, h1, h2, h4, h5, h6, h7]
  simp only [Cond.before, Cond.holds, Cond.value, he]
  cases v <;> simp_all [Value.isRef]
theorem vx_isRefq {C n d : String} {A : Nat → Prop} {s : State} {args : Array Value} (h : va_Zq C n d A s s.heap) : (Cond.isRef (.static C n d)).before args s = true := by
  rcases h with h | ⟨t, h⟩
  · exact vx_isRef h rfl
  · exact vx_isRef h rfl
/-- the same frame, seen from here: as if the method were called anew in this heap -/
theorem vx_rebase {T : State} (X : Stand p l e R s m args below meth c T locs cells slots) {R' : Room} (hf : R'.frames ≤ R.frames) (hl : R'.locals ≤ R.locals) (hc : cells + R'.cells ≤ R.cells) (hs : slots + R'.slots ≤ R.slots) :
    Stand p l e R' ((T.setVm s.vm).setFrames (.invoking m args :: below)) m args below meth c T [] 0 0 := by
  have htop : (T.setVm s.vm).topJava?.isSome := X.here.top
  have hF : ((T.setVm s.vm).setFrames (.invoking m args :: below)).frames = .invoking m args :: below := State.frames_setFrames _ (State.cur_lt_of_top htop)
  obtain ⟨g₀, hg0⟩ := Option.isSome_iff_exists.mp htop
  obtain ⟨r, hr⟩ := State.topJava?_eq_some.mp hg0
  have hl9 : e.platform.stackLimits (T.setVm s.vm).me = e.platform.stackLimits s.me := X.limits
  have hb9 : (T.setVm s.vm).me.stackBytes = s.me.stackBytes := X.bytes
  refine ⟨X.admits, X.cas, X.clock, hF, ?_, X.hears, X.method, X.code, X.here, X.tail, X.warmed, ?_, ?_, ?_⟩
  · have h := X.room
    have hU : ((T.setVm s.vm).setFrames (.invoking m args :: below)).localsInUse = s.localsInUse := by
      rw [State.localsInUse_invoking hF (meth := meth) (c := c) X.method X.code, State.localsInUse_invoking X.frames X.method X.code]
    simp only [State.hasRoom, Bool.and_eq_true, decide_eq_true_eq] at h ⊢
    obtain ⟨⟨⟨⟨h1, h2, h3, h4, h5, h6⟩, h7⟩, h8⟩, h9⟩ := h
    rw [X.frames, List.length_cons] at h2 h3
    have q1 := X.heapSize
    have q2 := X.used
    simp only [hF, hU, List.length_cons, State.stackLimits_setFrames, State.stackBytes_setFrames, hl9, hb9]
    refine ⟨⟨⟨⟨by omega, by omega, by omega, by omega, by omega, h6⟩, ?_⟩, ?_⟩, X.book⟩
    · show T.heap.size + R'.cells ≤ e.platform.maxCells
      omega
    · show T.slotsUsed + R'.slots ≤ e.platform.maxSlots
      omega
  · rw [State.stackLimits_setFrames]; rfl
  · rw [State.stackBytes_setFrames]; rfl
  · refine ⟨?_, Nat.le_refl _, Nat.le_refl _, ?_, ?_, fun a c9 h9 => ⟨c9, h9, rfl, rfl, fun _ _ => rfl⟩⟩
    · obtain ⟨t, ht, -⟩ := State.frames_cons hr
      show T.setVm s.vm = { ((T.setVm s.vm).setFrames (.invoking m args :: below)).setFrames (T.setVm s.vm).frames with heap := T.heap, slotsUsed := T.slotsUsed }
      rw [State.setFrames_setFrames, State.setFrames_self ht]
      rfl
    · show T.slotsUsed = T.slotsUsed + ((T.heap.toList.drop T.heap.size).map (·.slots.size)).sum
      rw [List.drop_eq_nil_of_le (Nat.le_of_eq Array.length_toList)]
      rfl
    · show ((T.heap.toList.drop T.heap.size).map (·.slots.size)).sum ≤ 0
      rw [List.drop_eq_nil_of_le (Nat.le_of_eq Array.length_toList)]
      exact Nat.le_refl _
/-- 'throw new E()': new; dup; invokespecial; athrow -/
theorem vx_throw0 {cc : ByteArray} {pc : Nat} (hexec : p.tables.exec = Jvm.exec) (hb : c.code = cc) (hl : l.stackTraces = false) {own cls : String} {names : List String} {ik ic mc ms : Nat} {A : Nat → Prop}
    (hown : s.vm.findClass own = some m.cls) (hcls : Bundle.fit cls = true) (hnames : ∀ n ∈ names, Bundle.fit n = true)
    (hk : (Cond.classLink own ik cls).before args s = true) (hini : (Cond.initialized cls).before args s = true) (hat : ∀ w ∈ vx_at0 own ic cls names, w.before args s = true)
    (hgood : ∀ w ∈ Cond.classLink own ik cls :: Cond.initialized cls :: vx_at0 own ic cls names, vx_ot w = true)
    (hU : vx_Zq Bundle.tN "UNASSIGNED_STACK" Bundle.steD A s s.heap) (hN : vx_Zq Bundle.tN "SUPPRESSED_SENTINEL" Bundle.listD A s s.heap) (hS : va_S A s.heap H locs) (hsize : ls.size = c.maxLocals)
    (d0 : decode cc pc = .ok (.new ik, 3)) (d3 : decode cc (pc + 3) = .ok (.dup, 1)) (d4 : decode cc (pc + 4) = .ok (.invokespecial ic, 3)) (d7 : decode cc (pc + 7) = .ok (.athrow, 1))
    (hout : ∀ x ∈ c.exceptionTable.toList, covers x (pc + 7) = false)
    (hRframes : names.length + 3 < R.frames) (hRlocals : (rest.map fun v => v.category).sum + (13 * (names.length + 1) + 42) ≤ R.locals) (hRcells : cells + 1 ≤ R.cells) (hRslots : slots + 6 ≤ R.slots) (hlocks : meth.locks = false)
    (hx : ∀ t : State, s.vm.Alike t.vm → H.size ≤ t.heap.size → (∀ q : Nat, q < H.size → t.heap[q]? = H[q]?) → XC cls s t)
    (hf : ∀ z ∈ locs, free z.base) (hc : cells + 1 ≤ mc) (hs : slots + 6 ≤ ms) :
    W p l e R s m args below meth c H locs cells slots (vx_MQ below Qc XC args s mc ms free) (F0 m pc ls rest) := by
  intro T hT X
  have htr : e.platform.stackTraces = false := (show e.platform.stackTraces = l.stackTraces by rw [X.admits.platform]).trans hl
  have Y := vx_rebase X (R' := { frames := R.frames, locals := R.locals, cells := 1, slots := 6 }) (Nat.le_refl _) (Nat.le_refl _) hRcells hRslots
  obtain ⟨s', hA⟩ : ∃ z, z = (T.setVm s.vm).setFrames (.invoking m args :: below) := ⟨_, rfl⟩
  rw [← hA] at Y
  have hvm : s'.vm = s.vm := by rw [hA]; rfl
  have hhp : s'.heap = H := by rw [hA]; exact hT
  have hW0 : s.WarmedH s'.vm := by rw [hvm]; exact State.WarmedH.refl s
  have hat' : ∀ w ∈ vx_at0 own ic cls names, w.before args s' = true := fun w hw => vx_ot_at hW0 hvm.symm (hgood w (List.mem_cons_of_mem _ (List.mem_cons_of_mem _ hw))) (hat w hw)
  have hk' : (Cond.classLink own ik cls).before args s' = true := vx_ot_at hW0 hvm.symm (hgood _ List.mem_cons_self) hk
  have hini' : (Cond.initialized cls).before args s' = true := vx_ot_at hW0 hvm.symm (hgood _ (List.mem_cons_of_mem _ List.mem_cons_self)) hini
  have hU' : vx_Zq Bundle.tN "UNASSIGNED_STACK" Bundle.steD A s' s'.heap := by rw [hhp]; exact vx_Zq.moved hW0.alike (hU.kept hS.2.1)
  have hN' : vx_Zq Bundle.tN "SUPPRESSED_SENTINEL" Bundle.listD A s' s'.heap := by rw [hhp]; exact vx_Zq.moved hW0.alike (hN.kept hS.2.1)
  have h : ∀ w ∈ Bundle.ownAtoms0 own ic cls names, w.before args s' = true := vx_own hat' (vx_isRefq hU'.1) (vx_isRefq hN'.1) hU'.2.word hN'.2.word
  have hown' : s'.vm.findClass own = some m.cls := by rw [hvm]; exact hown
  have hins : (Cond.instantiable cls 6).before args s' = true := h _ (by simp [Bundle.ownAtoms0])
  obtain ⟨vm₁, cX, kX, hfX, hkX, -, -, X₁, st1⟩ := Y.newCold hexec (own := own) (C := cls) (index := ik) (n := 6) hown' hk' hins hini'
    (g := F0 m pc ls rest) rfl (by rw [hb]; exact d0) (Nat.le_refl _) (Nat.le_refl _)
  generalize hT1 : (T.setVm vm₁).pushCell { cls := cX, slots := kX.instanceTypes.map defaultValue, vm := .none } = T1 at X₁ st1
  have hcat : (Value.ref T.heap.size).category = 1 := rfl
  have hcellA : T1.heap[T.heap.size]? = some (freshCell cX kX) := by rw [← hT1]; exact State.heap_pushCell_size _ _
  have d3' : decode c.code (pc + 3) = .ok (.dup, 1) := by rw [hb]; exact d3
  obtain ⟨U, hsteps, hrun, hend, hW, hsame, ce, hce, hO⟩ := X₁.ctorThrow0 hexec htr (own := own) (cls := cls) (names := names) (ic := ic) hown' hcls hnames h (fun x hx => nomatch hx) hfX hkX hcellA (by rw [hhp, hT]; exact Nat.le_refl _)
    (g := { method := m, pc := pc + 4, locals := ls, stack := .ref T.heap.size :: .ref T.heap.size :: rest, locked := none }) rfl hsize rfl rfl (rest := rest) rfl
    (by rw [hb]; exact d4) (by rw [hb]; exact d7) hout hRframes (by simp only [List.map_cons, List.sum_cons, hcat]; omega) hlocks
  obtain ⟨f1, f2⟩ := vx_frame hsame
  rw [hhp] at f1 f2
  have hWs : s.WarmedH U.vm := State.WarmedH.trans hW0 hW
  have hcl : s.vm.findClass cls = some ce.cls := by
    have h9 := hO.cls
    rw [hvm] at h9
    exact h9
  have hall : s.sameButNew ({ U with vm := s.vm } : State) locs mc ms := by
    subst hA
    obtain ⟨e1, e2⟩ := hsame
    rw [State.setFrames_setFrames] at e1
    have h2 : (T.setVm s.vm).sameButNew ({ U with vm := s.vm } : State) [] (0 + 1) (0 + 6) := ⟨e1, e2⟩
    have h3 := X.same.trans h2
    rw [List.append_nil] at h3
    exact h3.mono hc hs
  refine ⟨U, ?_, .threw T.heap.size, hrun, hend, Or.inr ⟨T.heap.size, rfl, cls, ce, locs, hx U hWs.alike f1 (fun q hq => f2 q hq (fun z hz => nomatch hz)), hce, hO.vm, hcl, hWs, hall, hf⟩⟩
  refine st1 _ ?_
  show Steps p.tables e below (T1.setTop { method := m, pc := pc + 3, locals := ls, stack := .ref T.heap.size :: rest, locked := none }) _
  jvm_step X₁.here [X₁.here.top, hexec, d3', Value.category]
  exact hsteps
/-- 'throw new E("text")': new; dup; ldc; invokespecial; athrow -/
theorem vx_throwS {cc : ByteArray} {pc : Nat} (hexec : p.tables.exec = Jvm.exec) (hb : c.code = cc) (hl : l.stackTraces = false) {own cls text : String} {names : List String} {ik is ic mc ms sa : Nat} {A : Nat → Prop}
    (hown : s.vm.findClass own = some m.cls) (hcls : Bundle.fit cls = true) (hnames : ∀ n ∈ names, Bundle.fit n = true)
    (hk : (Cond.classLink own ik cls).before args s = true) (hini : (Cond.initialized cls).before args s = true) (hstr : vk_R own is text sa s) (hat : ∀ w ∈ vx_atS own ic cls names, w.before args s = true)
    (hgood : ∀ w ∈ Cond.classLink own ik cls :: Cond.initialized cls :: vx_atS own ic cls names, vx_ot w = true)
    (hU : vx_Zq Bundle.tN "UNASSIGNED_STACK" Bundle.steD A s s.heap) (hN : vx_Zq Bundle.tN "SUPPRESSED_SENTINEL" Bundle.listD A s s.heap) (hS : va_S A s.heap H locs) (hsize : ls.size = c.maxLocals)
    (d0 : decode cc pc = .ok (.new ik, 3)) (d3 : decode cc (pc + 3) = .ok (.dup, 1)) (d4 : decode cc (pc + 4) = .ok (.ldc is, 2)) (d6 : decode cc (pc + 6) = .ok (.invokespecial ic, 3)) (d9 : decode cc (pc + 9) = .ok (.athrow, 1))
    (hout : ∀ x ∈ c.exceptionTable.toList, covers x (pc + 9) = false)
    (hRframes : names.length + 3 < R.frames) (hRlocals : (rest.map fun v => v.category).sum + (13 * (names.length + 1) + 43) ≤ R.locals) (hRcells : cells + 1 ≤ R.cells) (hRslots : slots + 6 ≤ R.slots) (hlocks : meth.locks = false)
    (hx : ∀ t : State, s.vm.Alike t.vm → H.size ≤ t.heap.size → (∀ q : Nat, q < H.size → t.heap[q]? = H[q]?) → XC cls s t)
    (hf : ∀ z ∈ locs, free z.base) (hc : cells + 1 ≤ mc) (hs : slots + 6 ≤ ms) :
    W p l e R s m args below meth c H locs cells slots (vx_MQ below Qc XC args s mc ms free) (F0 m pc ls rest) := by
  intro T hT X
  have htr : e.platform.stackTraces = false := (show e.platform.stackTraces = l.stackTraces by rw [X.admits.platform]).trans hl
  have Y := vx_rebase X (R' := { frames := R.frames, locals := R.locals, cells := 1, slots := 6 }) (Nat.le_refl _) (Nat.le_refl _) hRcells hRslots
  obtain ⟨s', hA⟩ : ∃ z, z = (T.setVm s.vm).setFrames (.invoking m args :: below) := ⟨_, rfl⟩
  rw [← hA] at Y
  have hvm : s'.vm = s.vm := by rw [hA]; rfl
  have hhp : s'.heap = H := by rw [hA]; exact hT
  have hW0 : s.WarmedH s'.vm := by rw [hvm]; exact State.WarmedH.refl s
  have hat' : ∀ w ∈ vx_atS own ic cls names, w.before args s' = true := fun w hw => vx_ot_at hW0 hvm.symm (hgood w (List.mem_cons_of_mem _ (List.mem_cons_of_mem _ hw))) (hat w hw)
  have hk' : (Cond.classLink own ik cls).before args s' = true := vx_ot_at hW0 hvm.symm (hgood _ List.mem_cons_self) hk
  have hini' : (Cond.initialized cls).before args s' = true := vx_ot_at hW0 hvm.symm (hgood _ (List.mem_cons_of_mem _ List.mem_cons_self)) hini
  have hU' : vx_Zq Bundle.tN "UNASSIGNED_STACK" Bundle.steD A s' s'.heap := by rw [hhp]; exact vx_Zq.moved hW0.alike (hU.kept hS.2.1)
  have hN' : vx_Zq Bundle.tN "SUPPRESSED_SENTINEL" Bundle.listD A s' s'.heap := by rw [hhp]; exact vx_Zq.moved hW0.alike (hN.kept hS.2.1)
  have h : ∀ w ∈ Bundle.ownAtoms own ic cls names, w.before args s' = true := vx_own hat' (vx_isRefq hU'.1) (vx_isRefq hN'.1) hU'.2.word hN'.2.word
  have hown' : s'.vm.findClass own = some m.cls := by rw [hvm]; exact hown
  have hins : (Cond.instantiable cls 6).before args s' = true := h _ (by simp [Bundle.ownAtoms])
  obtain ⟨vm₁, cX, kX, hfX, hkX, -, -, X₁, st1⟩ := Y.newCold hexec (own := own) (C := cls) (index := ik) (n := 6) hown' hk' hins hini'
    (g := F0 m pc ls rest) rfl (by rw [hb]; exact d0) (Nat.le_refl _) (Nat.le_refl _)
  generalize hT1 : (T.setVm vm₁).pushCell { cls := cX, slots := kX.instanceTypes.map defaultValue, vm := .none } = T1 at X₁ st1
  have hcat : (Value.ref T.heap.size).category = 1 := rfl
  have hcellA : T1.heap[T.heap.size]? = some (freshCell cX kX) := by rw [← hT1]; exact State.heap_pushCell_size _ _
  have d3' : decode c.code (pc + 3) = .ok (.dup, 1) := by rw [hb]; exact d3
  have d4' : decode c.code (pc + 4) = .ok (.ldc is, 2) := by rw [hb]; exact d4
  have hstr' : vk_R own is text sa s' := vk_R.warm hW0 hstr
  obtain ⟨U, hsteps, hrun, hend, hW, hsame, ce, hce, hO⟩ := X₁.ctorThrowS hexec htr (own := own) (cls := cls) (names := names) (ic := ic) hown' hcls hnames h (fun x hx => nomatch hx) hfX hkX hcellA (by rw [hhp, hT]; exact Nat.le_refl _) (msg := .ref sa) rfl
    (g := { method := m, pc := pc + 6, locals := ls, stack := .ref sa :: .ref T.heap.size :: .ref T.heap.size :: rest, locked := none }) rfl hsize rfl rfl (rest := rest) rfl
    (by rw [hb]; exact d6) (by rw [hb]; exact d9) hout hRframes (by simp only [List.map_cons, List.sum_cons, hcat]; omega) hlocks
  obtain ⟨f1, f2⟩ := vx_frame hsame
  rw [hhp] at f1 f2
  have hWs : s.WarmedH U.vm := State.WarmedH.trans hW0 hW
  have hcl : s.vm.findClass cls = some ce.cls := by
    have h9 := hO.cls
    rw [hvm] at h9
    exact h9
  have hall : s.sameButNew ({ U with vm := s.vm } : State) locs mc ms := by
    subst hA
    obtain ⟨e1, e2⟩ := hsame
    rw [State.setFrames_setFrames] at e1
    have h2 : (T.setVm s.vm).sameButNew ({ U with vm := s.vm } : State) [] (0 + 1) (0 + 6) := ⟨e1, e2⟩
    have h3 := X.same.trans h2
    rw [List.append_nil] at h3
    exact h3.mono hc hs
  refine ⟨U, ?_, .threw T.heap.size, hrun, hend, Or.inr ⟨T.heap.size, rfl, cls, ce, locs, hx U hWs.alike f1 (fun q hq => f2 q hq (fun z hz => nomatch hz)), hce, hO.vm, hcl, hWs, hall, hf⟩⟩
  refine st1 _ ?_
  show Steps p.tables e below (T1.setTop { method := m, pc := pc + 3, locals := ls, stack := .ref T.heap.size :: rest, locked := none }) _
  jvm_step X₁.here [X₁.here.top, hexec, d3', Value.category]
  exact X₁.ldcString hexec (own := own) (text := text) (index := is) (a := sa) hown' hstr'.1 hstr'.2
    (g := { method := m, pc := pc + 4, locals := ls, stack := .ref T.heap.size :: .ref T.heap.size :: rest, locked := none }) rfl d4' _ hsteps
/-- 'throw new E("text")', the text by a wide index -/
theorem vx_throwSW {cc : ByteArray} {pc : Nat} (hexec : p.tables.exec = Jvm.exec) (hb : c.code = cc) (hl : l.stackTraces = false) {own cls text : String} {names : List String} {ik is ic mc ms sa : Nat} {A : Nat → Prop}
    (hown : s.vm.findClass own = some m.cls) (hcls : Bundle.fit cls = true) (hnames : ∀ n ∈ names, Bundle.fit n = true)
    (hk : (Cond.classLink own ik cls).before args s = true) (hini : (Cond.initialized cls).before args s = true) (hstr : vk_R own is text sa s) (hat : ∀ w ∈ vx_atS own ic cls names, w.before args s = true)
    (hgood : ∀ w ∈ Cond.classLink own ik cls :: Cond.initialized cls :: vx_atS own ic cls names, vx_ot w = true)
    (hU : vx_Zq Bundle.tN "UNASSIGNED_STACK" Bundle.steD A s s.heap) (hN : vx_Zq Bundle.tN "SUPPRESSED_SENTINEL" Bundle.listD A s s.heap) (hS : va_S A s.heap H locs) (hsize : ls.size = c.maxLocals)
    (d0 : decode cc pc = .ok (.new ik, 3)) (d3 : decode cc (pc + 3) = .ok (.dup, 1)) (d4 : decode cc (pc + 4) = .ok (.ldc_w is, 3)) (d7 : decode cc (pc + 7) = .ok (.invokespecial ic, 3)) (d10 : decode cc (pc + 10) = .ok (.athrow, 1))
    (hout : ∀ x ∈ c.exceptionTable.toList, covers x (pc + 10) = false)
    (hRframes : names.length + 3 < R.frames) (hRlocals : (rest.map fun v => v.category).sum + (13 * (names.length + 1) + 43) ≤ R.locals) (hRcells : cells + 1 ≤ R.cells) (hRslots : slots + 6 ≤ R.slots) (hlocks : meth.locks = false)
    (hx : ∀ t : State, s.vm.Alike t.vm → H.size ≤ t.heap.size → (∀ q : Nat, q < H.size → t.heap[q]? = H[q]?) → XC cls s t)
    (hf : ∀ z ∈ locs, free z.base) (hc : cells + 1 ≤ mc) (hs : slots + 6 ≤ ms) :
    W p l e R s m args below meth c H locs cells slots (vx_MQ below Qc XC args s mc ms free) (F0 m pc ls rest) := by
  intro T hT X
  have htr : e.platform.stackTraces = false := (show e.platform.stackTraces = l.stackTraces by rw [X.admits.platform]).trans hl
  have Y := vx_rebase X (R' := { frames := R.frames, locals := R.locals, cells := 1, slots := 6 }) (Nat.le_refl _) (Nat.le_refl _) hRcells hRslots
  obtain ⟨s', hA⟩ : ∃ z, z = (T.setVm s.vm).setFrames (.invoking m args :: below) := ⟨_, rfl⟩
  rw [← hA] at Y
  have hvm : s'.vm = s.vm := by rw [hA]; rfl
  have hhp : s'.heap = H := by rw [hA]; exact hT
  have hW0 : s.WarmedH s'.vm := by rw [hvm]; exact State.WarmedH.refl s
  have hat' : ∀ w ∈ vx_atS own ic cls names, w.before args s' = true := fun w hw => vx_ot_at hW0 hvm.symm (hgood w (List.mem_cons_of_mem _ (List.mem_cons_of_mem _ hw))) (hat w hw)
  have hk' : (Cond.classLink own ik cls).before args s' = true := vx_ot_at hW0 hvm.symm (hgood _ List.mem_cons_self) hk
  have hini' : (Cond.initialized cls).before args s' = true := vx_ot_at hW0 hvm.symm (hgood _ (List.mem_cons_of_mem _ List.mem_cons_self)) hini
  have hU' : vx_Zq Bundle.tN "UNASSIGNED_STACK" Bundle.steD A s' s'.heap := by rw [hhp]; exact vx_Zq.moved hW0.alike (hU.kept hS.2.1)
  have hN' : vx_Zq Bundle.tN "SUPPRESSED_SENTINEL" Bundle.listD A s' s'.heap := by rw [hhp]; exact vx_Zq.moved hW0.alike (hN.kept hS.2.1)
  have h : ∀ w ∈ Bundle.ownAtoms own ic cls names, w.before args s' = true := vx_own hat' (vx_isRefq hU'.1) (vx_isRefq hN'.1) hU'.2.word hN'.2.word
  have hown' : s'.vm.findClass own = some m.cls := by rw [hvm]; exact hown
  have hins : (Cond.instantiable cls 6).before args s' = true := h _ (by simp [Bundle.ownAtoms])
  obtain ⟨vm₁, cX, kX, hfX, hkX, -, -, X₁, st1⟩ := Y.newCold hexec (own := own) (C := cls) (index := ik) (n := 6) hown' hk' hins hini'
    (g := F0 m pc ls rest) rfl (by rw [hb]; exact d0) (Nat.le_refl _) (Nat.le_refl _)
  generalize hT1 : (T.setVm vm₁).pushCell { cls := cX, slots := kX.instanceTypes.map defaultValue, vm := .none } = T1 at X₁ st1
  have hcat : (Value.ref T.heap.size).category = 1 := rfl
  have hcellA : T1.heap[T.heap.size]? = some (freshCell cX kX) := by rw [← hT1]; exact State.heap_pushCell_size _ _
  have d3' : decode c.code (pc + 3) = .ok (.dup, 1) := by rw [hb]; exact d3
  have d4' : decode c.code (pc + 4) = .ok (.ldc_w is, 3) := by rw [hb]; exact d4
  have hstr' : vk_R own is text sa s' := vk_R.warm hW0 hstr
  obtain ⟨U, hsteps, hrun, hend, hW, hsame, ce, hce, hO⟩ := X₁.ctorThrowS hexec htr (own := own) (cls := cls) (names := names) (ic := ic) hown' hcls hnames h (fun x hx => nomatch hx) hfX hkX hcellA (by rw [hhp, hT]; exact Nat.le_refl _) (msg := .ref sa) rfl
    (g := { method := m, pc := pc + 7, locals := ls, stack := .ref sa :: .ref T.heap.size :: .ref T.heap.size :: rest, locked := none }) rfl hsize rfl rfl (rest := rest) rfl
    (by rw [hb]; exact d7) (by rw [hb]; exact d10) hout hRframes (by simp only [List.map_cons, List.sum_cons, hcat]; omega) hlocks
  obtain ⟨f1, f2⟩ := vx_frame hsame
  rw [hhp] at f1 f2
  have hWs : s.WarmedH U.vm := State.WarmedH.trans hW0 hW
  have hcl : s.vm.findClass cls = some ce.cls := by
    have h9 := hO.cls
    rw [hvm] at h9
    exact h9
  have hall : s.sameButNew ({ U with vm := s.vm } : State) locs mc ms := by
    subst hA
    obtain ⟨e1, e2⟩ := hsame
    rw [State.setFrames_setFrames] at e1
    have h2 : (T.setVm s.vm).sameButNew ({ U with vm := s.vm } : State) [] (0 + 1) (0 + 6) := ⟨e1, e2⟩
    have h3 := X.same.trans h2
    rw [List.append_nil] at h3
    exact h3.mono hc hs
  refine ⟨U, ?_, .threw T.heap.size, hrun, hend, Or.inr ⟨T.heap.size, rfl, cls, ce, locs, hx U hWs.alike f1 (fun q hq => f2 q hq (fun z hz => nomatch hz)), hce, hO.vm, hcl, hWs, hall, hf⟩⟩
  refine st1 _ ?_
  show Steps p.tables e below (T1.setTop { method := m, pc := pc + 3, locals := ls, stack := .ref T.heap.size :: rest, locked := none }) _
  jvm_step X₁.here [X₁.here.top, hexec, d3', Value.category]
  exact X₁.ldcStringW hexec (own := own) (text := text) (index := is) (a := sa) hown' hstr'.1 hstr'.2
    (g := { method := m, pc := pc + 4, locals := ls, stack := .ref T.heap.size :: .ref T.heap.size :: rest, locked := none }) rfl d4' _ hsteps
end Ends
section Bodies
variable {l : Launch}
theorem vx_ofW {y : MethodName} {ws ws' : List Cond} {rm : Room} {Pc : Array Value → State → Prop} {Qc : Array Value → State → Outcome → State → Prop} {XC : String → State → State → Prop} {mc ms : Nat} {free : Addr → Prop} {cc : ByteArray} {maxL : Nat} {ret : Option FieldType}
    (hy : plainName y.cls = true) (hw : ws = Cond.code y cc maxL ret :: ws')
    (body : ∀ p e s m args below meth c s₁, BodyLoose p l y (headSpec ws rm) cc maxL ret e s m args below meth c s₁ → c.maxLocals = maxL → (∀ x ∈ c.exceptionTable.toList, False) → Pc args s →
      W p l e (headSpec ws rm).room s m args below meth c s.heap [] 0 0 (vx_MQ below Qc XC args s mc ms free) (entryFrame m args maxL)) : vx_Met l y ws rm Pc Qc XC mc ms free := by
  refine MetFree.of_bodyS (code := cc) (maxLocals := maxL) (ret := ret) hy ?_ ?_
  · intro args s m h hn
    obtain ⟨meth, c, h1, h2, h3, h4, h5, h6, -, -⟩ := Cond.code_spec hn (atoms_spec (ws := ws) h _ (by rw [hw]; exact List.mem_cons_self))
    exact ⟨meth, c, h1, h2, h3, h4, h5, h6⟩
  · intro p e s m args below meth c s₁ B hml hP _
    have hh0 : s₁.heap = s.heap := by rw [B.state]; rfl
    have ht : ∀ x ∈ c.exceptionTable.toList, False := by
      obtain ⟨meth9, c9, h1, h2, -, -, -, -, h7, -⟩ := Cond.code_spec B.named (atoms_spec (ws := ws) B.pre _ (by rw [hw]; exact List.mem_cons_self))
      cases Option.some.inj (h1.symm.trans B.method)
      cases Option.some.inj (h2.symm.trans (Stand.of_body B).code)
      intro x hx
      rw [Array.isEmpty_iff.mp h7] at hx
      cases hx
    obtain ⟨t, a1, o, b1, b2, b3⟩ := body p e s m args below meth c s₁ B hml ht hP s₁ hh0 (Stand.of_body B)
    exact ⟨t, o, a1, b1, b2, b3⟩
/-- the table of a body with handlers -/
theorem vx_table {p : Program} {x y : MethodName} {S : Spec} {cc bytes : ByteArray} {maxL maxL' : Nat} {ret ret' : Option FieldType} {e : Env} {s s₁ : State} {m : MethodId} {args : Array Value} {below : List Frame} {meth : Method} {c : Code} {hh : List (Nat × Nat × Nat × Nat)}
    (B : BodyLoose p l y S cc maxL ret e s m args below meth c s₁) (h : (Cond.codeWith y bytes maxL' ret' hh).before args s = true) : c.exceptionTable.toList = tableOf hh := by
  obtain ⟨m9, meth9, c9, hn9, h1, h2, -, -, h6, -⟩ := Cond.codeWith_spec h
  cases Option.some.inj (hn9.symm.trans B.named)
  cases Option.some.inj (h1.symm.trans B.method)
  cases Option.some.inj (h2.symm.trans (Stand.of_body B).code)
  rw [← h6, table_eq]
end Bodies
end VXA
/-! ===== END ===== -/
/-! ===== BEGIN a static call of a method with an exception table ===== -/
section VXS
variable {p : Program} {l : Launch} {e : Env} {R : Room} {s : State} {m : MethodId} {args : Array Value} {below : List Frame} {meth : Method} {c : Code} {T : State} {H : Heap} {locs : List Loc} {cells slots : Nat}
abbrev vx_CSW (R : Room) (s : State) (args : Array Value) (own : String) (index : Nat) (y : MethodName) (bytes : ByteArray) (maxL : Nat) (ret : Option FieldType) (hh : List (Nat × Nat × Nat × Nat)) (ws : List Cond) (rm : Room) (mc ms n : Nat) : Prop :=
  (rm.cells = mc ∧ rm.slots = ms ∧ rm.frames + 1 ≤ R.frames ∧ 8 + (maxL + 11) + rm.locals ≤ R.locals ∧ (∀ w ∈ ws, ∀ (a' : Array Value) (U : State), s.WarmedH U.vm → w.before a' U = true) ∧ Cond.codeWith y bytes maxL ret hh ∈ ws) ∧
  (Cond.codeWith y bytes maxL ret hh).before args s = true ∧ (Cond.initialized y.cls).before args s = true ∧ (y.cls ≠ "java/lang/invoke/MethodHandle" ∧ y.cls ≠ "java/lang/invoke/VarHandle") ∧
  (∀ sig, parseMethodDescriptor y.desc = some sig → n = sig.parameters.length) ∧ (Cond.methodLink own index y).before args s = true ∧ (Cond.static y).before args s = true
theorem vx_cwSW {own : String} {index maxL mc ms : Nat} {y : MethodName} {bytes : ByteArray} {ret : Option FieldType} {hh : List (Nat × Nat × Nat × Nat)} {Ts ws ws' : List Cond} {rm : Room} (n : Nat) (ht : ∀ w ∈ Ts, w.before args s = true) (hT : GoodIn Ts (va_wsS own index y ws)) (hw : ws = Cond.codeWith y bytes maxL ret hh :: ws') (hrc : rm.cells = mc) (hrs : rm.slots = ms)
    (hd : y.cls ≠ "java/lang/invoke/MethodHandle" ∧ y.cls ≠ "java/lang/invoke/VarHandle" ∧ (parseMethodDescriptor y.desc).map (fun d => d.parameters.length) = some n) (hR : rm.frames + 1 ≤ R.frames ∧ 8 + (maxL + 11) + rm.locals ≤ R.locals) :
    vx_CSW R s args own index y bytes maxL ret hh ws rm mc ms n := by
  have ok : ∀ w ∈ va_wsS own index y ws, w.before args s = true := fun w h => ht w (hT w h).1
  have hG : GoodIn Ts ws := fun w h => hT w (by unfold va_wsS; exact List.mem_append_right _ h)
  have hc : Cond.codeWith y bytes maxL ret hh ∈ ws := by rw [hw]; exact List.mem_cons_self
  refine ⟨⟨hrc, hrs, hR.1, hR.2, pay_in ht hG, hc⟩, ht _ (hG _ hc).1, ok _ (by simp [va_wsS]), ⟨hd.1, hd.2.1⟩, fun sig h => ?_, ok _ (by simp [va_wsS]), ok _ (by simp [va_wsS])⟩
  have h2 := hd.2.2
  rw [h] at h2
  exact (Option.some.inj h2).symm
theorem vx_callSW (X : Stand p l e R s m args below meth c T locs cells slots) (hexec : p.tables.exec = Jvm.exec) {own : String} {index : Nat} {y : MethodName} {bytes : ByteArray} {maxL : Nat} {ret : Option FieldType} {hh : List (Nat × Nat × Nat × Nat)}
    (hown : s.vm.findClass own = some m.cls) (hlink : (Cond.methodLink own index y).before args s = true) (hstat : (Cond.static y).before args s = true) (hinit : (Cond.initialized y.cls).before args s = true)
    (hcode : (Cond.codeWith y bytes maxL ret hh).before args s = true) (hy : y.cls ≠ "java/lang/invoke/MethodHandle" ∧ y.cls ≠ "java/lang/invoke/VarHandle")
    {W9 : Nat} {Pre : Pt → Array Value → Prop} {Post : Pt → Array Value → Option Value → Pt → Prop} (hK : Back l R p e below s args y 3 W9 Pre Post)
    {g : JFrame} (hg : g.method = m) (hsize : g.locals.size = c.maxLocals) {argsL rest : List Value} (hlen : ∀ sig, parseMethodDescriptor y.desc = some sig → argsL.length = sig.parameters.length)
    (hstack : g.stack = argsL.reverse ++ rest) (hW : 2 * g.monitorRoom + (rest.map fun v => v.category).sum ≤ W9) (hdg : decode c.code g.pc = .ok (.invokestatic index, 3))
    (hpre : ∀ vm₁, s.WarmedH vm₁ → Pre ⟨T.setVm vm₁, locs, cells, slots⟩ argsL.toArray) :
    ∃ (v : Option Value) (vm₁ : Vm) (B : Pt), s.WarmedH vm₁ ∧ Stand p l e R s m args below meth c B.U B.locs B.cells B.slots ∧ Post ⟨T.setVm vm₁, locs, cells, slots⟩ argsL.toArray v B ∧
      ∀ target, Steps p.tables e below (B.U.setTop { g with pc := g.pc + 3, stack := v.toList ++ rest }) target → Steps p.tables e below (T.setTop g) target := by
  obtain ⟨mk, methM, cM, hnamed, hmethM, -, -, -, -, -, -, hsigM⟩ := Cond.codeWith_spec hcode
  have hstatic : methM.isStatic = true := Cond.static_spec hnamed hmethM hstat
  obtain ⟨kP, hkP, -⟩ := className_of_methodNamed hnamed
  have hinitP : kP.init = .initialized := Cond.initialized_spec (findClass_of_methodNamed hnamed) hkP hinit
  obtain ⟨vm₁, X₁, hstep₁⟩ := X.invokestatic hexec hown hlink hnamed hmethM hstatic hkP hinitP hy (g := g) hg (argsL := argsL) (rest := rest) (hlen _ hsigM) hstack hdg
  obtain ⟨v, B, X', hpost, hsteps⟩ := hK m meth c ⟨T.setVm vm₁, locs, cells, slots⟩ { g with stack := rest } (.invokestatic index) mk argsL.toArray X₁ hg hsize hdg hW (X₁.named hnamed) (hpre vm₁ X₁.warmed)
  exact ⟨v, vm₁, B, X₁.warmed, X', hpost, fun target h => hstep₁ _ fun acts => by rw [doInvoke_state]; exact hsteps.trans h⟩
theorem vx_runSW {y : MethodName} {bytes cc : ByteArray} {maxL nL mc ms n index : Nat} {ret : Option FieldType} {hh : List (Nat × Nat × Nat × Nat)} {ws : List Cond} {rm : Room} {Pc : Array Value → State → Prop} {Qc : Array Value → State → Outcome → State → Prop} {free : Addr → Prop} {Ts : List Cond} {own : String} {As rest : List Value} {g : JFrame}
    (S : CallFix p m c cc nL s args Ts own) (hM : Met l y ws rm Pc Qc mc ms free) (cw : vx_CSW R s args own index y bytes maxL ret hh ws rm mc ms n) (hp : PreS s H Pc As)
    (hg : g.method = m) (hn : As.length = n) (hsize : g.locals.size = nL) (hstack : g.stack = As.reverse ++ rest) (hW : 2 * g.monitorRoom + (rest.map fun v => v.category).sum ≤ 8) (hdg : decode cc g.pc = .ok (.invokestatic index, 3)) (hf : cells + mc ≤ R.cells ∧ slots + ms ≤ R.slots) :
    va_Run p l e R s m args below meth c H locs cells slots mc ms g rest (Qc As.toArray) (free) := by
  obtain ⟨⟨hrc, hrs, hfr, hlo, hws, hcw⟩, hcode, hini, hy, hlen, hl, hstt⟩ := cw
  have hK : Back l R p e below s args y 3 8 (PreOf R mc ms Pc) (PostOf Qc mc ms free) := va_backW (hh := hh) (bytes := bytes) (maxL := maxL) (ret := ret) hM hp.1 hrc hrs hfr hlo hws hcw (fun a' U hW => word_at hW (Or.inl (by first | rfl | simp [Cond.onTables, Cond.keeps, Cond.steady])) hini)
  obtain ⟨hx, hb, hml, ho, -⟩ := S
  intro T hT X
  obtain ⟨v, vm₁, ⟨U', l2, c2, s2⟩, hW₁, X', ⟨g', mk, t, L, e1, e2, hq, h1, hL, h2, h3⟩, st⟩ := vx_callSW X hx (hh := hh) (bytes := bytes) (maxL := maxL) (ret := ret) ho hl hstt hini hcode hy hK hg (hsize.trans hml.symm) (argsL := As) (rest := rest) (fun sig h => hn.trans (hlen sig h)) hstack hW (by rw [hb]; exact hdg)
    (fun vm₁ hW₁ => ⟨hf.1, hf.2, hp.2 (T.setVm vm₁) hT hW₁⟩)
  dsimp only [Pt.U, Pt.locs, Pt.cells, Pt.slots] at X' e1 e2 h1 h2 h3 st
  subst h1; subst h2; subst h3
  exact ⟨v, (T.setVm vm₁).calling g' mk As.toArray, t, U', L, hT, X', hL, e1, e2, hq, st⟩
/-- not caught here, past rows that name other classes: it goes on to the caller -/
theorem vx_outP {p : Program} {l : Launch} {e : Env} {R : Room} {s : State} {m : MethodId} {args : Array Value} {below : List Frame} {meth : Method} {c : Code} {H : Heap} {locs : List Loc} {cells slots : Nat} {free : Addr → Prop} {ls : Array Slot} {rest : List Value} {Qc : Array Value → State → Outcome → State → Prop} {XC : String → State → State → Prop}
    {pc : Nat} {own E : String} {ce : Cell} {q : Addr} {mc ms : Nat} (hown : s.vm.findClass own = some m.cls) (hlocks : meth.locks = false)
    (hpass : ∀ z ∈ c.exceptionTable.toList, covers z pc = false ∨ (z.catchType ≠ 0 ∧ ∃ nm : String, (Cond.classLink own z.catchType nm).before args s = true ∧ va_Nc E nm s)) (hcell : H[q]? = some ce) (hv : ce.vm = .none) (hcl : s.vm.findClass E = some ce.cls)
    (hx : ∀ t : State, t.heap = H → s.vm.Alike t.vm → XC E s t) (hf : ∀ z ∈ locs, free z.base) (hc : cells ≤ mc) (hs : slots ≤ ms) :
    vx_W p l e R s m args below meth c H locs cells slots (vx_MQ below Qc XC args s mc ms free) (F0 m pc ls rest) q := by
  intro T hT X
  have hpl : e.platform.magicAccessors = ({} : Platform).magicAccessors := by rw [X.admits.platform]
  obtain ⟨vm', hW', X', st⟩ := X.outThrough hlocks q (g := F0 m pc ls rest) rfl rfl rfl (cell := ce) (by rw [hT]; exact hcell) (by rw [hv]; rfl)
    (by obtain ⟨k9, h9, -⟩ := Vm.findClass_spec hcl; exact ⟨k9, h9⟩) (fun z hz => by
      rcases hpass z hz with h | ⟨hz0, nm, hl1, hn1⟩
      · exact Or.inl h
      · obtain ⟨c6, hc6, hcl6⟩ := Cond.classLink_spec hown hl1 e.platform hpl
        obtain ⟨a8, b8, h1, h2, h3⟩ := hn1
        cases Option.some.inj (h1.symm.trans hcl)
        cases Option.some.inj (h2.symm.trans hc6)
        exact Or.inr ⟨hz0, _, hcl6, h3⟩)
  obtain ⟨g₀, hfr⟩ := X'.frames_eq
  have hcell9 : ((T.setVm vm').setFrames (.throwing q :: below)).heap[q]? = some ce := by
    show T.heap[q]? = some ce
    rw [hT]; exact hcell
  have hend : Ended ((T.setVm vm').setFrames (.throwing q :: below)) below (.threw q) := State.frames_setFrames _ (State.cur_lt_of_frames hfr)
  refine ⟨(T.setVm vm').setFrames (.throwing q :: below), ?_, .threw q, X'.here.running, hend, Or.inr ⟨q, rfl, E, ce, locs, hx _ hT (X'.ends _).1.alike, hcell9, hv, hcl, (X'.ends _).1, (X'.ends _).2.mono hc hs, hf⟩⟩
  rw [X.pushThrowing_eq]
  exact st
/-- a thing of a world lies in the heap -/
theorem vx_lt {D : va_G} {cl : List vw_C} {ws : va_W} {H1 : Heap} (h : va_P D cl ws H1) {k : Nat} {q : Nat × va_E} (hk : ws[k]? = some q) : q.1 < H1.size := (h k q hk).lt
end VXS
/-! ===== END ===== -/
/-! ===== BEGIN methods with a table of their own: called by a name, returning or throwing ===== -/
section VXH
/-! vx_backW, vx_callVX, vx_callSX, vx_callVW, vx_runVW, vx_runVX, vx_runSX, vx_ofWH follow the same proofs as their sisters above (Free/Laws.lean, Shelf42/LK1.lean); vx_outP calls Shelf42/NT130.lean (outThrough). -/
section
variable {l : Launch} {R : Room} {p : Program} {e : Env} {below : List Frame} {s : State} {sargs : Array Value} {y : MethodName} {len W9 : Nat}
theorem vx_backW {ws : List Cond} {rm : Room} {Pc : Array Value → State → Prop} {Qc : Array Value → State → Outcome → State → Prop} {XC : String → State → State → Prop} {mc ms : Nat} {free : Addr → Prop} {bytes : ByteArray} {maxL : Nat} {ret : Option FieldType} {hh : List (Nat × Nat × Nat × Nat)}
    (hM : vx_Met l y ws rm Pc Qc XC mc ms free) (hblind : FrameBlind Pc) (hrc : rm.cells = mc) (hrs : rm.slots = ms)
    (hframes : rm.frames + 1 ≤ R.frames) (hlocals : W9 + (maxL + 11) + rm.locals ≤ R.locals)
    (hws : ∀ w ∈ ws, ∀ a' U, s.WarmedH U.vm → w.before a' U = true) (hcode : Cond.codeWith y bytes maxL ret hh ∈ ws) (hinit : ∀ a' U, s.WarmedH U.vm → (Cond.initialized y.cls).before a' U = true) :
    vx_Back l R p e below s sargs y len W9 (PreOf R mc ms Pc) (PostOf Qc mc ms free) (vx_Post XC mc ms free) := by
  intro m meth c A g ig mk a X hg hsize hdg hW hn hp
  have h1 : (headSpec ws rm).pre.before a A.U = true := atoms_intro fun w hw => hws w hw _ _ X.warmed
  have h2 : (Cond.codeWith y bytes maxL ret hh).before a A.U = true := hws _ hcode _ _ X.warmed
  have h3 : (Cond.initialized y.cls).before a A.U = true := hinit _ _ X.warmed
  have h4 : A.cells + (headSpec ws rm).room.cells ≤ R.cells := by rw [show (headSpec ws rm).room.cells = mc from hrc]; exact hp.1
  have h5 : A.slots + (headSpec ws rm).room.slots ≤ R.slots := by rw [show (headSpec ws rm).room.slots = ms from hrs]; exact hp.2.1
  have hPc : Pc a (A.U.calling g mk a) := hblind _ _ _ _ hp.2.2
  obtain ⟨U, Ls, c0, s0⟩ := A
  dsimp only [Pt.U, Pt.locs, Pt.cells, Pt.slots] at h1 h2 h3 h4 h5 X hn hPc ⊢
  obtain ⟨m9, methY, cY, hn9, hmY, hcY, -, hlY, -⟩ := Cond.codeWith_spec h2
  cases Option.some.inj (hn9.symm.trans hn)
  obtain ⟨kY, hkY, -⟩ := className_of_methodNamed hn
  have hinitY : kY.init = .initialized := Cond.initialized_spec (findClass_of_methodNamed hn) hkY h3
  have h : At U g.method c below := by rw [hg]; exact X.here
  have hlocals9 : W9 + (maxL + 11) + (headSpec ws rm).room.locals ≤ R.locals := hlocals
  have happ : (headSpec ws rm).appliesLoose y e.platform (U.calling g mk a) = true :=
    Spec.appliesLoose_calling (g := g) h hdg hn hkY hinitY
      (X.room_calling (g := g) (R' := (headSpec ws rm).room) hsize hmY hcY hframes (by rw [hlY]; omega) h4 h5) h1
  obtain ⟨mid, hmid⟩ := h.above
  have hfr : (U.setTop g).frames = (.java g :: mid) ++ below := by rw [State.frames_setTop' g h.top, hmid]; rfl
  obtain ⟨o, s₂, hsteps, -, hend, hq⟩ := Steps.callFree hM p X.admits X.cas X.clock (acts := []) hfr happ hPc trivial
  have hq' : vx_Q Qc XC mc ms free a (U.calling g mk a) o s₂ := hq
  rw [State.frames_setTop' g h.top] at hend
  obtain ⟨g₀, hg0⟩ := Option.isSome_iff_exists.mp h.top
  obtain ⟨r, hr⟩ := State.topJava?_eq_some.mp hg0
  have hr' : (({ U with heap := s₂.heap, slotsUsed := s₂.slotsUsed } : State).setVm s₂.vm).frames = .java g₀ :: r := hr
  rcases hq' with ⟨hqc, L, hfe, hL⟩ | ⟨q, rfl, E, ce, L, hx, hce, hcv, hcl, hW₂, hsm, hL⟩
  · obtain ⟨⟨v, rfl⟩, hW₂, e2, q2, q3, q4, q5, q6⟩ := id hfe
    have e3 : s₂ = ({ (U.calling g mk a).setFrames s₂.frames with heap := s₂.heap, slotsUsed := s₂.slotsUsed } : State).setVm s₂.vm := by
      have : s₂ = ({ s₂ with vm := (U.calling g mk a).vm } : State).setVm s₂.vm := rfl
      rw [e2] at this
      exact this
    obtain ⟨c₂, i₂, len₂, hc₂, hd₂, hf₂⟩ := hend
    have hW' : U.WarmedH s₂.vm := hW₂
    have hcc : c₂ = c := by
      have h1 : s₂.code? g.method = U.code? g.method := by
        rw [State.code?_eq, State.code?_eq, hW'.alike.method?]
      exact Option.some.inj (hc₂.symm.trans (h1.trans h.code))
    subst hcc
    have hlen : len₂ = len := by rw [hdg] at hd₂; cases hd₂; rfl
    subst hlen
    have hs₂ : s₂ = (({ U with heap := s₂.heap, slotsUsed := s₂.slotsUsed } : State).setVm s₂.vm).setTop { g with pc := g.pc + len₂, stack := v.toList ++ g.stack } := by
      refine e3.trans ?_
      rw [hf₂, State.calling_eq h.top, State.setFrames_setFrames, State.setTop_of_frames _ hr', hr]
      rfl
    have hsame : U.sameButNew ({ U with heap := s₂.heap, slotsUsed := s₂.slotsUsed } : State) L mc ms := by
      refine ⟨?_, q2, q3, q4, q5, q6⟩
      obtain ⟨t, ht, -⟩ := State.frames_cons hr
      show ({ U with heap := s₂.heap, slotsUsed := s₂.slotsUsed } : State) = { U.setFrames U.frames with heap := s₂.heap, slotsUsed := s₂.slotsUsed }
      rw [State.setFrames_self ht]
    subst hg
    refine Or.inl ⟨v, ⟨(({ U with heap := s₂.heap, slotsUsed := s₂.slotsUsed } : State).setVm s₂.vm), Ls ++ L, c0 + mc, s0 + ms⟩,
      ⟨X.admits, X.cas, X.clock, X.frames, X.room, X.hears, X.method, X.code, (X.here.setHeapUsed s₂.heap s₂.slotsUsed).setVm hW'.alike, X.tail, State.WarmedH.trans X.warmed hW', X.limits, X.bytes, X.same.trans (hsame.setVm s.vm)⟩,
      ⟨g, mk, s₂, L, rfl, rfl, hqc, rfl, hL, rfl, rfl⟩, ?_⟩
    show Steps p.tables e below _ ((({ U with heap := s₂.heap, slotsUsed := s₂.slotsUsed } : State).setVm s₂.vm).setTop { g with pc := g.pc + len₂, stack := v.toList ++ g.stack })
    rw [← hs₂]
    exact hsteps
  · obtain ⟨e2, q2, q3, q4, q5, q6⟩ := id hsm
    have e3 : s₂ = ({ (U.calling g mk a).setFrames s₂.frames with heap := s₂.heap, slotsUsed := s₂.slotsUsed } : State).setVm s₂.vm := by
      have : s₂ = ({ s₂ with vm := (U.calling g mk a).vm } : State).setVm s₂.vm := rfl
      rw [e2] at this
      exact this
    have hf₂ : s₂.frames = .throwing q :: .java g :: U.frames.tail := hend
    have hW' : U.WarmedH s₂.vm := hW₂
    have hs₂ : s₂ = ((({ U with heap := s₂.heap, slotsUsed := s₂.slotsUsed } : State).setVm s₂.vm).setTop g).pushFrame (.throwing q) := by
      refine e3.trans ?_
      rw [hf₂, State.calling_eq h.top, State.setFrames_setFrames, State.pushFrame, State.frames_setTop _ hr', State.setTop_of_frames _ hr', State.setFrames_setFrames, hr]
      rfl
    have hsame : U.sameButNew ({ U with heap := s₂.heap, slotsUsed := s₂.slotsUsed } : State) L mc ms := by
      refine ⟨?_, q2, q3, q4, q5, q6⟩
      obtain ⟨t, ht, -⟩ := State.frames_cons hr
      show ({ U with heap := s₂.heap, slotsUsed := s₂.slotsUsed } : State) = { U.setFrames U.frames with heap := s₂.heap, slotsUsed := s₂.slotsUsed }
      rw [State.setFrames_self ht]
    subst hg
    refine Or.inr ⟨q, ⟨(({ U with heap := s₂.heap, slotsUsed := s₂.slotsUsed } : State).setVm s₂.vm), Ls ++ L, c0 + mc, s0 + ms⟩,
      ⟨X.admits, X.cas, X.clock, X.frames, X.room, X.hears, X.method, X.code, (X.here.setHeapUsed s₂.heap s₂.slotsUsed).setVm hW'.alike, X.tail, State.WarmedH.trans X.warmed hW', X.limits, X.bytes, X.same.trans (hsame.setVm s.vm)⟩,
      ⟨g, mk, s₂, L, E, ce, rfl, rfl, hx, hce, hcv, hcl, rfl, hL, rfl, rfl⟩, ?_⟩
    show Steps p.tables e below _ (((({ U with heap := s₂.heap, slotsUsed := s₂.slotsUsed } : State).setVm s₂.vm).setTop g).pushFrame (.throwing q))
    rw [← hs₂]
    exact hsteps
end
variable {p : Program} {l : Launch} {e : Env} {R : Room} {s : State} {m : MethodId} {args : Array Value} {below : List Frame} {meth : Method} {c : Code} {T : State} {H : Heap} {locs : List Loc} {cells slots : Nat}
theorem vx_callVX (X : Stand p l e R s m args below meth c T locs cells slots) (hexec : p.tables.exec = Jvm.exec) {own C : String} {index : Nat} {y : MethodName} {bytes : ByteArray} {maxL : Nat} {ret : Option FieldType} {hh : List (Nat × Nat × Nat × Nat)}
    (hown : s.vm.findClass own = some m.cls) (hlink : (Cond.methodLink own index y).before args s = true) (hinst : (Cond.instanceMethod y).before args s = true) (hsel : (Cond.selects C y y).before args s = true)
    (hcode : (Cond.codeWith y bytes maxL ret hh).before args s = true) (hy : y.cls ≠ "java/lang/invoke/MethodHandle" ∧ y.cls ≠ "java/lang/invoke/VarHandle")
    {W9 : Nat} {Pre : Pt → Array Value → Prop} {Post : Pt → Array Value → Option Value → Pt → Prop} {PostX : Pt → Array Value → Addr → Pt → Prop} (hK : vx_Back l R p e below s args y 3 W9 Pre Post PostX)
    {b : Addr} {cellB : Cell} (hcell : T.heap[b]? = some cellB) (hobj : cellB.vm.isStatics = false) (hcls : s.vm.findClass C = some cellB.cls)
    {g : JFrame} (hg : g.method = m) (hsize : g.locals.size = c.maxLocals) {argsL rest : List Value} (hlen : ∀ sig, parseMethodDescriptor y.desc = some sig → argsL.length = sig.parameters.length)
    (hstack : g.stack = argsL.reverse ++ .ref b :: rest) (hW : 2 * g.monitorRoom + (rest.map fun v => v.category).sum ≤ W9) (hdg : decode c.code g.pc = .ok (.invokevirtual index, 3))
    (hpre : ∀ vm₁, s.WarmedH vm₁ → Pre ⟨T.setVm vm₁, locs, cells, slots⟩ (Value.ref b :: argsL).toArray) :
    (∃ (v : Option Value) (vm₁ : Vm) (B : Pt), s.WarmedH vm₁ ∧ Stand p l e R s m args below meth c B.U B.locs B.cells B.slots ∧ Post ⟨T.setVm vm₁, locs, cells, slots⟩ (Value.ref b :: argsL).toArray v B ∧
      ∀ target, Steps p.tables e below (B.U.setTop { g with pc := g.pc + 3, stack := v.toList ++ rest }) target → Steps p.tables e below (T.setTop g) target) ∨
    (∃ (q : Addr) (vm₁ : Vm) (B : Pt), s.WarmedH vm₁ ∧ Stand p l e R s m args below meth c B.U B.locs B.cells B.slots ∧ PostX ⟨T.setVm vm₁, locs, cells, slots⟩ (Value.ref b :: argsL).toArray q B ∧
      Steps p.tables e below (T.setTop g) ((B.U.setTop { g with stack := rest }).pushFrame (.throwing q))) := by
  obtain ⟨mk, methM, hnamed, hmethM, hstM, habM⟩ := Cond.instanceMethod_spec hinst
  obtain ⟨m8, methM', cM, hn8, hmethM', -, -, -, -, -, -, hsigM⟩ := Cond.codeWith_spec hcode
  cases Option.some.inj (hn8.symm.trans hnamed)
  cases hmethM.symm.trans hmethM'
  obtain ⟨c2, r2, m2, q1, q2, q3, q4, kP, hkP, hkPi⟩ := Cond.selects_spec hsel
  cases hcls.symm.trans q1
  cases (State.methodFound?_of_named hnamed hy).symm.trans q2
  cases hnamed.symm.trans q3
  have hselP : selectMethod e.platform s.vm cellB.cls mk = .method mk := by rw [Launch.admits_selectMethod X.admits]; exact q4
  obtain ⟨vm₁, X₁, hstep₁⟩ := X.invokevirtual hexec hown hlink hnamed hmethM hstM hkP hkPi hy (a := b) (cell := cellB) hcell
    (fun z h => by rw [h] at hobj; cases hobj) hselP hmethM habM hkP hkPi (g := g) hg (argsL := argsL) (rest := rest) (hlen _ hsigM) hstack hdg
  rcases hK m meth c ⟨T.setVm vm₁, locs, cells, slots⟩ { g with stack := rest } (.invokevirtual index) mk (Value.ref b :: argsL).toArray X₁ hg hsize hdg hW (X₁.named hnamed) (hpre vm₁ X₁.warmed) with ⟨v, B, X', hpost, hsteps⟩ | ⟨q, B, X', hpost, hsteps⟩
  · exact Or.inl ⟨v, vm₁, B, X₁.warmed, X', hpost, fun target h => hstep₁ _ fun acts => by rw [doInvoke_state]; exact hsteps.trans h⟩
  · exact Or.inr ⟨q, vm₁, B, X₁.warmed, X', hpost, hstep₁ _ fun acts => by rw [doInvoke_state]; exact hsteps⟩
theorem vx_callSX (X : Stand p l e R s m args below meth c T locs cells slots) (hexec : p.tables.exec = Jvm.exec) {own : String} {index : Nat} {y : MethodName} {bytes : ByteArray} {maxL : Nat} {ret : Option FieldType} {hh : List (Nat × Nat × Nat × Nat)}
    (hown : s.vm.findClass own = some m.cls) (hlink : (Cond.methodLink own index y).before args s = true) (hstat : (Cond.static y).before args s = true) (hinit : (Cond.initialized y.cls).before args s = true)
    (hcode : (Cond.codeWith y bytes maxL ret hh).before args s = true) (hy : y.cls ≠ "java/lang/invoke/MethodHandle" ∧ y.cls ≠ "java/lang/invoke/VarHandle")
    {W9 : Nat} {Pre : Pt → Array Value → Prop} {Post : Pt → Array Value → Option Value → Pt → Prop} {PostX : Pt → Array Value → Addr → Pt → Prop} (hK : vx_Back l R p e below s args y 3 W9 Pre Post PostX)
    {g : JFrame} (hg : g.method = m) (hsize : g.locals.size = c.maxLocals) {argsL rest : List Value} (hlen : ∀ sig, parseMethodDescriptor y.desc = some sig → argsL.length = sig.parameters.length)
    (hstack : g.stack = argsL.reverse ++ rest) (hW : 2 * g.monitorRoom + (rest.map fun v => v.category).sum ≤ W9) (hdg : decode c.code g.pc = .ok (.invokestatic index, 3))
    (hpre : ∀ vm₁, s.WarmedH vm₁ → Pre ⟨T.setVm vm₁, locs, cells, slots⟩ argsL.toArray) :
    (∃ (v : Option Value) (vm₁ : Vm) (B : Pt), s.WarmedH vm₁ ∧ Stand p l e R s m args below meth c B.U B.locs B.cells B.slots ∧ Post ⟨T.setVm vm₁, locs, cells, slots⟩ argsL.toArray v B ∧
      ∀ target, Steps p.tables e below (B.U.setTop { g with pc := g.pc + 3, stack := v.toList ++ rest }) target → Steps p.tables e below (T.setTop g) target) ∨
    (∃ (q : Addr) (vm₁ : Vm) (B : Pt), s.WarmedH vm₁ ∧ Stand p l e R s m args below meth c B.U B.locs B.cells B.slots ∧ PostX ⟨T.setVm vm₁, locs, cells, slots⟩ argsL.toArray q B ∧
      Steps p.tables e below (T.setTop g) ((B.U.setTop { g with stack := rest }).pushFrame (.throwing q))) := by
  obtain ⟨mk, methM, cM, hnamed, hmethM, -, -, -, -, -, -, hsigM⟩ := Cond.codeWith_spec hcode
  have hstatic : methM.isStatic = true := Cond.static_spec hnamed hmethM hstat
  obtain ⟨kP, hkP, -⟩ := className_of_methodNamed hnamed
  have hinitP : kP.init = .initialized := Cond.initialized_spec (findClass_of_methodNamed hnamed) hkP hinit
  obtain ⟨vm₁, X₁, hstep₁⟩ := X.invokestatic hexec hown hlink hnamed hmethM hstatic hkP hinitP hy (g := g) hg (argsL := argsL) (rest := rest) (hlen _ hsigM) hstack hdg
  rcases hK m meth c ⟨T.setVm vm₁, locs, cells, slots⟩ { g with stack := rest } (.invokestatic index) mk argsL.toArray X₁ hg hsize hdg hW (X₁.named hnamed) (hpre vm₁ X₁.warmed) with ⟨v, B, X', hpost, hsteps⟩ | ⟨q, B, X', hpost, hsteps⟩
  · exact Or.inl ⟨v, vm₁, B, X₁.warmed, X', hpost, fun target h => hstep₁ _ fun acts => by rw [doInvoke_state]; exact hsteps.trans h⟩
  · exact Or.inr ⟨q, vm₁, B, X₁.warmed, X', hpost, hstep₁ _ fun acts => by rw [doInvoke_state]; exact hsteps⟩
theorem vx_callVW (X : Stand p l e R s m args below meth c T locs cells slots) (hexec : p.tables.exec = Jvm.exec) {own C : String} {index : Nat} {y : MethodName} {bytes : ByteArray} {maxL : Nat} {ret : Option FieldType} {hh : List (Nat × Nat × Nat × Nat)}
    (hown : s.vm.findClass own = some m.cls) (hlink : (Cond.methodLink own index y).before args s = true) (hinst : (Cond.instanceMethod y).before args s = true) (hsel : (Cond.selects C y y).before args s = true)
    (hcode : (Cond.codeWith y bytes maxL ret hh).before args s = true) (hy : y.cls ≠ "java/lang/invoke/MethodHandle" ∧ y.cls ≠ "java/lang/invoke/VarHandle")
    {W9 : Nat} {Pre : Pt → Array Value → Prop} {Post : Pt → Array Value → Option Value → Pt → Prop} (hK : Back l R p e below s args y 3 W9 Pre Post)
    {b : Addr} {cellB : Cell} (hcell : T.heap[b]? = some cellB) (hobj : cellB.vm.isStatics = false) (hcls : s.vm.findClass C = some cellB.cls)
    {g : JFrame} (hg : g.method = m) (hsize : g.locals.size = c.maxLocals) {argsL rest : List Value} (hlen : ∀ sig, parseMethodDescriptor y.desc = some sig → argsL.length = sig.parameters.length)
    (hstack : g.stack = argsL.reverse ++ .ref b :: rest) (hW : 2 * g.monitorRoom + (rest.map fun v => v.category).sum ≤ W9) (hdg : decode c.code g.pc = .ok (.invokevirtual index, 3))
    (hpre : ∀ vm₁, s.WarmedH vm₁ → Pre ⟨T.setVm vm₁, locs, cells, slots⟩ (Value.ref b :: argsL).toArray) :
    ∃ (v : Option Value) (vm₁ : Vm) (B : Pt), s.WarmedH vm₁ ∧ Stand p l e R s m args below meth c B.U B.locs B.cells B.slots ∧ Post ⟨T.setVm vm₁, locs, cells, slots⟩ (Value.ref b :: argsL).toArray v B ∧
      ∀ target, Steps p.tables e below (B.U.setTop { g with pc := g.pc + 3, stack := v.toList ++ rest }) target → Steps p.tables e below (T.setTop g) target := by
  obtain ⟨mk, methM, hnamed, hmethM, hstM, habM⟩ := Cond.instanceMethod_spec hinst
  obtain ⟨m8, methM', cM, hn8, hmethM', -, -, -, -, -, -, hsigM⟩ := Cond.codeWith_spec hcode
  cases Option.some.inj (hn8.symm.trans hnamed)
  cases hmethM.symm.trans hmethM'
  obtain ⟨c2, r2, m2, q1, q2, q3, q4, kP, hkP, hkPi⟩ := Cond.selects_spec hsel
  cases hcls.symm.trans q1
  cases (State.methodFound?_of_named hnamed hy).symm.trans q2
  cases hnamed.symm.trans q3
  have hselP : selectMethod e.platform s.vm cellB.cls mk = .method mk := by rw [Launch.admits_selectMethod X.admits]; exact q4
  obtain ⟨vm₁, X₁, hstep₁⟩ := X.invokevirtual hexec hown hlink hnamed hmethM hstM hkP hkPi hy (a := b) (cell := cellB) hcell
    (fun z h => by rw [h] at hobj; cases hobj) hselP hmethM habM hkP hkPi (g := g) hg (argsL := argsL) (rest := rest) (hlen _ hsigM) hstack hdg
  obtain ⟨v, B, X', hpost, hsteps⟩ := hK m meth c ⟨T.setVm vm₁, locs, cells, slots⟩ { g with stack := rest } (.invokevirtual index) mk (Value.ref b :: argsL).toArray X₁ hg hsize hdg hW (X₁.named hnamed) (hpre vm₁ X₁.warmed)
  exact ⟨v, vm₁, B, X₁.warmed, X', hpost, fun target h => hstep₁ _ fun acts => by rw [doInvoke_state]; exact hsteps.trans h⟩
abbrev vx_CVW (R : Room) (s : State) (args : Array Value) (own C : String) (index : Nat) (y : MethodName) (bytes : ByteArray) (maxL : Nat) (ret : Option FieldType) (hh : List (Nat × Nat × Nat × Nat)) (ws : List Cond) (rm : Room) (mc ms n : Nat) : Prop :=
  (rm.cells = mc ∧ rm.slots = ms ∧ rm.frames + 1 ≤ R.frames ∧ 8 + (maxL + 11) + rm.locals ≤ R.locals ∧ (∀ w ∈ ws, ∀ (a' : Array Value) (U : State), s.WarmedH U.vm → w.before a' U = true) ∧ Cond.codeWith y bytes maxL ret hh ∈ ws) ∧
  (Cond.codeWith y bytes maxL ret hh).before args s = true ∧ (Cond.initialized y.cls).before args s = true ∧ (y.cls ≠ "java/lang/invoke/MethodHandle" ∧ y.cls ≠ "java/lang/invoke/VarHandle") ∧
  (∀ sig, parseMethodDescriptor y.desc = some sig → n = sig.parameters.length) ∧ (Cond.methodLink own index y).before args s = true ∧ (Cond.instanceMethod y).before args s = true ∧ (Cond.selects C y y).before args s = true
theorem vx_cwVW {own C : String} {index maxL mc ms : Nat} {y : MethodName} {bytes : ByteArray} {ret : Option FieldType} {hh : List (Nat × Nat × Nat × Nat)} {Ts ws ws' : List Cond} {rm : Room} (n : Nat) (ht : ∀ w ∈ Ts, w.before args s = true) (hT : GoodIn Ts (wsV own index C y ws)) (hw : ws = Cond.codeWith y bytes maxL ret hh :: ws') (hrc : rm.cells = mc) (hrs : rm.slots = ms)
    (hd : y.cls = C ∧ y.cls ≠ "java/lang/invoke/MethodHandle" ∧ y.cls ≠ "java/lang/invoke/VarHandle" ∧ (parseMethodDescriptor y.desc).map (fun d => d.parameters.length) = some n) (hR : rm.frames + 1 ≤ R.frames ∧ 8 + (maxL + 11) + rm.locals ≤ R.locals) :
    vx_CVW R s args own C index y bytes maxL ret hh ws rm mc ms n := by
  obtain ⟨hC, hd⟩ := hd
  subst hC
  have ok : ∀ w ∈ wsV own index y.cls y ws, w.before args s = true := fun w h => ht w (hT w h).1
  have hG : GoodIn Ts ws := fun w h => hT w (by unfold wsV; exact List.mem_append_right _ h)
  have hc : Cond.codeWith y bytes maxL ret hh ∈ ws := by rw [hw]; exact List.mem_cons_self
  refine ⟨⟨hrc, hrs, hR.1, hR.2, pay_in ht hG, hc⟩, ht _ (hG _ hc).1, ok _ (by simp [wsV]), ⟨hd.1, hd.2.1⟩, fun sig h => ?_, ok _ (by simp [wsV]), ok _ (by simp [wsV]), ok _ (by simp [wsV])⟩
  have h2 := hd.2.2
  rw [h] at h2
  exact (Option.some.inj h2).symm
theorem vx_runVW {y : MethodName} {bytes cc : ByteArray} {maxL nL mc ms n index : Nat} {ret : Option FieldType} {hh : List (Nat × Nat × Nat × Nat)} {ws : List Cond} {rm : Room} {Pc : Array Value → State → Prop} {Qc : Array Value → State → Outcome → State → Prop} {free : Addr → Prop} {Ts : List Cond} {own C : String} {b : Addr} {As rest : List Value} {g : JFrame}
    (S : CallFix p m c cc nL s args Ts own) (hM : Met l y ws rm Pc Qc mc ms free) (cw : vx_CVW R s args own C index y bytes maxL ret hh ws rm mc ms n) (hp : PreV s H C b Pc As)
    (hg : g.method = m) (hn : As.length = n) (hsize : g.locals.size = nL) (hstack : g.stack = As.reverse ++ .ref b :: rest) (hW : 2 * g.monitorRoom + (rest.map fun v => v.category).sum ≤ 8) (hdg : decode cc g.pc = .ok (.invokevirtual index, 3)) (hf : cells + mc ≤ R.cells ∧ slots + ms ≤ R.slots) :
    va_Run p l e R s m args below meth c H locs cells slots mc ms g rest (Qc (Value.ref b :: As).toArray) free := by
  obtain ⟨⟨hrc, hrs, hfr, hlo, hws, hcw⟩, hcode, hini, hy, hlen, hl, hin, hse⟩ := cw
  have hK : Back l R p e below s args y 3 8 (PreOf R mc ms Pc) (PostOf Qc mc ms free) := va_backW (hh := hh) (bytes := bytes) (maxL := maxL) (ret := ret) hM hp.1 hrc hrs hfr hlo hws hcw (fun a' U hW => word_at hW (Or.inl (by first | rfl | simp [Cond.onTables, Cond.keeps, Cond.steady])) hini)
  obtain ⟨hx, hb, hml, ho, -⟩ := S
  obtain ⟨-, ⟨cellB, hcB, hoB, hclB⟩, hPc⟩ := hp
  intro T hT X
  obtain ⟨v, vm₁, ⟨U', l2, c2, s2⟩, hW₁, X', ⟨g', mk, t, L, e1, e2, hq, h1, hL, h2, h3⟩, st⟩ := vx_callVW X hx (C := C) (hh := hh) (bytes := bytes) (maxL := maxL) (ret := ret) ho hl hin hse hcode hy hK (by rw [hT]; exact hcB) hoB hclB hg (hsize.trans hml.symm) (argsL := As) (rest := rest) (fun sig h => hn.trans (hlen sig h)) hstack hW (by rw [hb]; exact hdg)
    (fun vm₁ hW₁ => ⟨hf.1, hf.2, hPc (T.setVm vm₁) hT hW₁⟩)
  dsimp only [Pt.U, Pt.locs, Pt.cells, Pt.slots] at X' e1 e2 h1 h2 h3 st
  subst h1; subst h2; subst h3
  exact ⟨v, (T.setVm vm₁).calling g' mk (Value.ref b :: As).toArray, t, U', L, hT, X', hL, e1, e2, hq, st⟩
section
variable {y : MethodName} {bytes cc : ByteArray} {maxL nL mc ms n index : Nat} {ret : Option FieldType} {ws : List Cond} {rm : Room} {Pc : Array Value → State → Prop} {Qc : Array Value → State → Outcome → State → Prop} {XC : String → State → State → Prop} {free : Addr → Prop} {Ts : List Cond} {own C : String} {b : Addr} {As rest : List Value} {g : JFrame}
theorem vx_runVX {hh : List (Nat × Nat × Nat × Nat)} (S : CallFix p m c cc nL s args Ts own) (hM : vx_Met l y ws rm Pc Qc XC mc ms free) (cw : vx_CVW R s args own C index y bytes maxL ret hh ws rm mc ms n) (hp : PreV s H C b Pc As)
    (hg : g.method = m) (hn : As.length = n) (hsize : g.locals.size = nL) (hstack : g.stack = As.reverse ++ .ref b :: rest) (hW : 2 * g.monitorRoom + (rest.map fun v => v.category).sum ≤ 8) (hdg : decode cc g.pc = .ok (.invokevirtual index, 3)) (hf : cells + mc ≤ R.cells ∧ slots + ms ≤ R.slots) :
    vx_Run p l e R s m args below meth c H locs cells slots mc ms g rest (Qc (Value.ref b :: As).toArray) XC free := by
  obtain ⟨⟨hrc, hrs, hfr, hlo, hws, hcw⟩, hcode, hini, hy, hlen, hl, hin, hse⟩ := cw
  have hK : vx_Back l R p e below s args y 3 8 (PreOf R mc ms Pc) (PostOf Qc mc ms free) (vx_Post XC mc ms free) := vx_backW (hh := hh) (bytes := bytes) (maxL := maxL) (ret := ret) hM hp.1 hrc hrs hfr hlo hws hcw (fun a' U hW => word_at hW (Or.inl (by first | rfl | simp [Cond.onTables, Cond.keeps, Cond.steady])) hini)
  obtain ⟨hx, hb, hml, ho, -⟩ := S
  obtain ⟨-, ⟨cellB, hcB, hoB, hclB⟩, hPc⟩ := hp
  intro T hT X
  rcases vx_callVX X hx (C := C) (hh := hh) (bytes := bytes) (maxL := maxL) (ret := ret) ho hl hin hse hcode hy hK (by rw [hT]; exact hcB) hoB hclB hg (hsize.trans hml.symm) (argsL := As) (rest := rest) (fun sig h => hn.trans (hlen sig h)) hstack hW (by rw [hb]; exact hdg)
    (fun vm₁ hW₁ => ⟨hf.1, hf.2, hPc (T.setVm vm₁) hT hW₁⟩) with ⟨v, vm₁, ⟨U', l2, c2, s2⟩, hW₁, X', ⟨g', mk, t, L, e1, e2, hq, h1, hL, h2, h3⟩, st⟩ | ⟨q, vm₁, ⟨U', l2, c2, s2⟩, hW₁, X', ⟨g', mk, t, L, E, ce, e1, e2, hq, hce, hcv, hcl, h1, hL, h2, h3⟩, st⟩
  · dsimp only [Pt.U, Pt.locs, Pt.cells, Pt.slots] at X' e1 e2 h1 h2 h3 st
    subst h1; subst h2; subst h3
    exact Or.inl ⟨v, (T.setVm vm₁).calling g' mk (Value.ref b :: As).toArray, t, U', L, hT, X', hL, e1, e2, hq, st⟩
  · dsimp only [Pt.U, Pt.locs, Pt.cells, Pt.slots] at X' e1 e2 h1 h2 h3 st hcl
    subst h1; subst h2; subst h3
    exact Or.inr ⟨q, (T.setVm vm₁).calling g' mk (Value.ref b :: As).toArray, t, U', L, E, ce, hT, X', hL, e1, e2, hq, hce, hcv, vx_cls hW₁ hcl, st⟩
theorem vx_runSX {hh : List (Nat × Nat × Nat × Nat)} (S : CallFix p m c cc nL s args Ts own) (hM : vx_Met l y ws rm Pc Qc XC mc ms free) (cw : vx_CSW R s args own index y bytes maxL ret hh ws rm mc ms n) (hp : PreS s H Pc As)
    (hg : g.method = m) (hn : As.length = n) (hsize : g.locals.size = nL) (hstack : g.stack = As.reverse ++ rest) (hW : 2 * g.monitorRoom + (rest.map fun v => v.category).sum ≤ 8) (hdg : decode cc g.pc = .ok (.invokestatic index, 3)) (hf : cells + mc ≤ R.cells ∧ slots + ms ≤ R.slots) :
    vx_Run p l e R s m args below meth c H locs cells slots mc ms g rest (Qc As.toArray) XC free := by
  obtain ⟨⟨hrc, hrs, hfr, hlo, hws, hcw⟩, hcode, hini, hy, hlen, hl, hstt⟩ := cw
  have hK : vx_Back l R p e below s args y 3 8 (PreOf R mc ms Pc) (PostOf Qc mc ms free) (vx_Post XC mc ms free) := vx_backW (hh := hh) (bytes := bytes) (maxL := maxL) (ret := ret) hM hp.1 hrc hrs hfr hlo hws hcw (fun a' U hW => word_at hW (Or.inl (by first | rfl | simp [Cond.onTables, Cond.keeps, Cond.steady])) hini)
  obtain ⟨hx, hb, hml, ho, -⟩ := S
  intro T hT X
  rcases vx_callSX X hx (hh := hh) (bytes := bytes) (maxL := maxL) (ret := ret) ho hl hstt hini hcode hy hK hg (hsize.trans hml.symm) (argsL := As) (rest := rest) (fun sig h => hn.trans (hlen sig h)) hstack hW (by rw [hb]; exact hdg)
    (fun vm₁ hW₁ => ⟨hf.1, hf.2, hp.2 (T.setVm vm₁) hT hW₁⟩) with ⟨v, vm₁, ⟨U', l2, c2, s2⟩, hW₁, X', ⟨g', mk, t, L, e1, e2, hq, h1, hL, h2, h3⟩, st⟩ | ⟨q, vm₁, ⟨U', l2, c2, s2⟩, hW₁, X', ⟨g', mk, t, L, E, ce, e1, e2, hq, hce, hcv, hcl, h1, hL, h2, h3⟩, st⟩
  · dsimp only [Pt.U, Pt.locs, Pt.cells, Pt.slots] at X' e1 e2 h1 h2 h3 st
    subst h1; subst h2; subst h3
    exact Or.inl ⟨v, (T.setVm vm₁).calling g' mk As.toArray, t, U', L, hT, X', hL, e1, e2, hq, st⟩
  · dsimp only [Pt.U, Pt.locs, Pt.cells, Pt.slots] at X' e1 e2 h1 h2 h3 st hcl
    subst h1; subst h2; subst h3
    exact Or.inr ⟨q, (T.setVm vm₁).calling g' mk As.toArray, t, U', L, E, ce, hT, X', hL, e1, e2, hq, hce, hcv, vx_cls hW₁ hcl, st⟩
end
end VXH
theorem vx_ofWH {l : Launch} {y : MethodName} {ws ws' : List Cond} {rm : Room} {Pc : Array Value → State → Prop} {Qc : Array Value → State → Outcome → State → Prop} {XC : String → State → State → Prop} {mc ms : Nat} {free : Addr → Prop} {cc : ByteArray} {maxL : Nat} {ret : Option FieldType} {hh : List (Nat × Nat × Nat × Nat)}
    (hy : plainName y.cls = true) (hw : ws = Cond.codeWith y cc maxL ret hh :: ws')
    (body : ∀ p e s m args below meth c s₁, BodyLoose p l y (headSpec ws rm) cc maxL ret e s m args below meth c s₁ → c.maxLocals = maxL → Pc args s →
      W p l e (headSpec ws rm).room s m args below meth c s.heap [] 0 0 (vx_MQ below Qc XC args s mc ms free) (entryFrame m args maxL)) : vx_Met l y ws rm Pc Qc XC mc ms free := by
  refine MetFree.of_bodyS (code := cc) (maxLocals := maxL) (ret := ret) hy ?_ ?_
  · intro args s m h hn
    obtain ⟨m9, meth, c, hn9, h1, h2, h3, h4, -, h5, h6, -⟩ := Cond.codeWith_spec (atoms_spec (ws := ws) h _ (by rw [hw]; exact List.mem_cons_self))
    cases hn.symm.trans hn9
    exact ⟨meth, c, h1, h2, h3, h4, h5, h6⟩
  · intro p e s m args below meth c s₁ B hml hP _
    have hh0 : s₁.heap = s.heap := by rw [B.state]; rfl
    obtain ⟨t, a1, o, b1, b2, b3⟩ := body p e s m args below meth c s₁ B hml hP s₁ hh0 (Stand.of_body B)
    exact ⟨t, o, a1, b1, b2, b3⟩
/-! ===== END ===== -/
end
section
def RX0 : String := "RingKiln$1"
def TX0 : u_T := fun k => match k with
  | _ => ("", "", "", false)
def tyX0 : Nat → FieldType := fun k => match k with
  | _ => .int
abbrev wsX00 : List Cond := u_ws RX0 TX0 0
theorem nmX0 : ∀ a, a < 0 → ∀ b, b < 0 → a ≠ b → (TX0 a).2.1 ≠ (TX0 b).2.1 := by decide +kernel
theorem tyX0_ok : ∀ k, k < 0 → parseFieldDescriptor (TX0 k).2.2.1 = some (tyX0 k) := by decide +kernel
def RX1 : String := "RingKiln$Command"
def TX1 : u_T := fun k => match k with
  | _ => ("", "", "", false)
def tyX1 : Nat → FieldType := fun k => match k with
  | _ => .int
abbrev wsX10 : List Cond := u_ws RX1 TX1 0
theorem nmX1 : ∀ a, a < 0 → ∀ b, b < 0 → a ≠ b → (TX1 a).2.1 ≠ (TX1 b).2.1 := by decide +kernel
theorem tyX1_ok : ∀ k, k < 0 → parseFieldDescriptor (TX1 k).2.2.1 = some (tyX1 k) := by decide +kernel
def RX2 : String := "RingKiln$Courses"
def TX2 : u_T := fun k => match k with
  | 0 => ("RingKiln$Courses", "joints", "[[I", true)
  | 1 => ("RingKiln$Courses", "counts", "[I", true)
  | 2 => ("RingKiln$Courses", "ways", "[J", false)
  | 3 => ("RingKiln$Courses", "waysAbove", "[J", false)
  | 4 => ("RingKiln$Courses", "fewest", "[I", false)
  | 5 => ("RingKiln$Courses", "fewestAbove", "[I", false)
  | _ => ("RingKiln$Courses", "memory", "[[J", true)
def tyX2 : Nat → FieldType := fun k => match k with
  | 0 => .array (.array .int)
  | 1 => .array .int
  | 2 => .array .long
  | 3 => .array .long
  | 4 => .array .int
  | 5 => .array .int
  | _ => .array (.array .long)
abbrev wsX20 : List Cond := u_ws RX2 TX2 7
theorem nmX2 : ∀ a, a < 7 → ∀ b, b < 7 → a ≠ b → (TX2 a).2.1 ≠ (TX2 b).2.1 := by decide +kernel
theorem tyX2_ok : ∀ k, k < 7 → parseFieldDescriptor (TX2 k).2.2.1 = some (tyX2 k) := by decide +kernel
abbrev cX2_init : ByteArray := prog_4_method_1_code
def yX2_init : MethodName := ⟨RX2, "<init>", "()V"⟩
abbrev cX2_addCoursesEndingWith : ByteArray := prog_4_method_2_code
def yX2_addCoursesEndingWith : MethodName := ⟨RX2, "addCoursesEndingWith", "(II)V"⟩
abbrev cX2_canLie : ByteArray := prog_4_method_3_code
def yX2_canLie : MethodName := ⟨RX2, "canLie", "(II)Z"⟩
abbrev cX2_countByTable : ByteArray := prog_4_method_4_code
def yX2_countByTable : MethodName := ⟨RX2, "countByTable", "(II)J"⟩
abbrev cX2_addCourseToWays : ByteArray := prog_4_method_5_code
def yX2_addCourseToWays : MethodName := ⟨RX2, "addCourseToWays", "([II)V"⟩
abbrev cX2_countByMemory : ByteArray := prog_4_method_6_code
def yX2_countByMemory : MethodName := ⟨RX2, "countByMemory", "(II)J"⟩
abbrev cX2_countAbove : ByteArray := prog_4_method_7_code
def yX2_countAbove : MethodName := ⟨RX2, "countAbove", "([IIII[[J)J"⟩
abbrev cX2_leastBricks : ByteArray := prog_4_method_8_code
def yX2_leastBricks : MethodName := ⟨RX2, "leastBricks", "(II)I"⟩
abbrev cX2_addCourseToFewest : ByteArray := prog_4_method_9_code
def yX2_addCourseToFewest : MethodName := ⟨RX2, "addCourseToFewest", "([II)V"⟩
abbrev cX2_bricksIn : ByteArray := prog_4_method_10_code
def yX2_bricksIn : MethodName := ⟨RX2, "bricksIn", "(I)I"⟩
def RX3 : String := "RingKiln$History"
def TX3 : u_T := fun k => match k with
  | 0 => ("RingKiln$History", "states", "[LRingKiln$Kiln;", true)
  | 1 => ("RingKiln$History", "oldest", "I", false)
  | _ => ("RingKiln$History", "size", "I", false)
def tyX3 : Nat → FieldType := fun k => match k with
  | 0 => .array (.object "RingKiln$Kiln")
  | 1 => .int
  | _ => .int
abbrev wsX30 : List Cond := u_ws RX3 TX3 3
theorem nmX3 : ∀ a, a < 3 → ∀ b, b < 3 → a ≠ b → (TX3 a).2.1 ≠ (TX3 b).2.1 := by decide +kernel
theorem tyX3_ok : ∀ k, k < 3 → parseFieldDescriptor (TX3 k).2.2.1 = some (tyX3 k) := by decide +kernel
abbrev cX3_init : ByteArray := prog_5_method_1_code
def yX3_init : MethodName := ⟨RX3, "<init>", "()V"⟩
abbrev cX3_remember : ByteArray := prog_5_method_2_code
def yX3_remember : MethodName := ⟨RX3, "remember", "(LRingKiln$Kiln;)V"⟩
abbrev cX3_takeBack : ByteArray := prog_5_method_3_code
def yX3_takeBack : MethodName := ⟨RX3, "takeBack", "(LRingKiln$Kiln;)I"⟩
abbrev cX3_forget : ByteArray := prog_5_method_4_code
def yX3_forget : MethodName := ⟨RX3, "forget", "()V"⟩
def RX4 : String := "RingKiln$Kiln"
def TX4 : u_T := fun k => match k with
  | 0 => ("RingKiln$Kiln", "time", "I", false)
  | 1 => ("RingKiln$Kiln", "fire", "I", false)
  | 2 => ("RingKiln$Kiln", "heat", "I", false)
  | 3 => ("RingKiln$Kiln", "draught", "I", false)
  | 4 => ("RingKiln$Kiln", "states", "[C", true)
  | 5 => ("RingKiln$Kiln", "bricks", "[I", true)
  | 6 => ("RingKiln$Kiln", "temperatures", "[I", true)
  | 7 => ("RingKiln$Kiln", "pieces", "[I", true)
  | 8 => ("RingKiln$Kiln", "prices", "[I", true)
  | 9 => ("RingKiln$Kiln", "stock", "I", false)
  | 10 => ("RingKiln$Kiln", "walls", "I", false)
  | 11 => ("RingKiln$Kiln", "loaded", "I", false)
  | 12 => ("RingKiln$Kiln", "fired", "I", false)
  | 13 => ("RingKiln$Kiln", "used", "I", false)
  | 14 => ("RingKiln$Kiln", "paid", "I", false)
  | 15 => ("RingKiln$Kiln", "fedHeat", "I", false)
  | _ => ("RingKiln$Kiln", "burntHeat", "I", false)
def tyX4 : Nat → FieldType := fun k => match k with
  | 0 => .int
  | 1 => .int
  | 2 => .int
  | 3 => .int
  | 4 => .array .char
  | 5 => .array .int
  | 6 => .array .int
  | 7 => .array .int
  | 8 => .array .int
  | 9 => .int
  | 10 => .int
  | 11 => .int
  | 12 => .int
  | 13 => .int
  | 14 => .int
  | 15 => .int
  | _ => .int
abbrev wsX40 : List Cond := u_ws RX4 TX4 17
theorem nmX4 : ∀ a, a < 17 → ∀ b, b < 17 → a ≠ b → (TX4 a).2.1 ≠ (TX4 b).2.1 := by decide +kernel
theorem tyX4_ok : ∀ k, k < 17 → parseFieldDescriptor (TX4 k).2.2.1 = some (tyX4 k) := by decide +kernel
abbrev cX4_init : ByteArray := prog_6_method_1_code
def yX4_init : MethodName := ⟨RX4, "<init>", "()V"⟩
abbrev cX4_copyFrom : ByteArray := prog_6_method_2_code
def yX4_copyFrom : MethodName := ⟨RX4, "copyFrom", "(LRingKiln$Kiln;)V"⟩
abbrev cX4_fireIsLit : ByteArray := prog_6_method_3_code
def yX4_fireIsLit : MethodName := ⟨RX4, "fireIsLit", "()Z"⟩
abbrev cX4_isCool : ByteArray := prog_6_method_4_code
def yX4_isCool : MethodName := ⟨RX4, "isCool", "(I)Z"⟩
abbrev cX4_countIn : ByteArray := prog_6_method_5_code
def yX4_countIn : MethodName := ⟨RX4, "countIn", "(C)I"⟩
abbrev cX4_bricksInSight : ByteArray := prog_6_method_6_code
def yX4_bricksInSight : MethodName := ⟨RX4, "bricksInSight", "()I"⟩
abbrev cX4_sumOfTemperatures : ByteArray := prog_6_method_7_code
def yX4_sumOfTemperatures : MethodName := ⟨RX4, "sumOfTemperatures", "()I"⟩
abbrev cX4_chamberRanked : ByteArray := prog_6_method_8_code
def yX4_chamberRanked : MethodName := ⟨RX4, "chamberRanked", "(I)I"⟩
abbrev cX4_rankOf : ByteArray := prog_6_method_9_code
def yX4_rankOf : MethodName := ⟨RX4, "rankOf", "(I)I"⟩
abbrev cX4_comesBefore : ByteArray := prog_6_method_10_code
def yX4_comesBefore : MethodName := ⟨RX4, "comesBefore", "(II)Z"⟩
abbrev cX4_writeChamber : ByteArray := prog_6_method_11_code
def yX4_writeChamber : MethodName := ⟨RX4, "writeChamber", "(ILjava/lang/StringBuilder;)V"⟩
abbrev cX4_fillChamber : ByteArray := prog_6_method_12_code
def yX4_fillChamber : MethodName := ⟨RX4, "fillChamber", "(II)I"⟩
abbrev cX4_emptyChamber : ByteArray := prog_6_method_13_code
def yX4_emptyChamber : MethodName := ⟨RX4, "emptyChamber", "(I)I"⟩
abbrev cX4_lightFire : ByteArray := prog_6_method_14_code
def yX4_lightFire : MethodName := ⟨RX4, "lightFire", "(I)I"⟩
abbrev cX4_putFireOut : ByteArray := prog_6_method_15_code
def yX4_putFireOut : MethodName := ⟨RX4, "putFireOut", "()I"⟩
abbrev cX4_changeDraught : ByteArray := prog_6_method_16_code
def yX4_changeDraught : MethodName := ⟨RX4, "changeDraught", "(I)I"⟩
abbrev cX4_addPieces : ByteArray := prog_6_method_17_code
def yX4_addPieces : MethodName := ⟨RX4, "addPieces", "(II)I"⟩
abbrev cX4_changePrice : ByteArray := prog_6_method_18_code
def yX4_changePrice : MethodName := ⟨RX4, "changePrice", "(II)I"⟩
abbrev cX4_burnMixture : ByteArray := prog_6_method_19_code
def yX4_burnMixture : MethodName := ⟨RX4, "burnMixture", "(ILRingKiln$Mixer;)I"⟩
abbrev cX4_layWall : ByteArray := prog_6_method_20_code
def yX4_layWall : MethodName := ⟨RX4, "layWall", "(IILRingKiln$Courses;)I"⟩
abbrev cX4_hoursTillFireIsOut : ByteArray := prog_6_method_21_code
def yX4_hoursTillFireIsOut : MethodName := ⟨RX4, "hoursTillFireIsOut", "()I"⟩
abbrev cX4_hoursTillCool : ByteArray := prog_6_method_22_code
def yX4_hoursTillCool : MethodName := ⟨RX4, "hoursTillCool", "(I)I"⟩
abbrev cX4_letHoursPass : ByteArray := prog_6_method_23_code
def yX4_letHoursPass : MethodName := ⟨RX4, "letHoursPass", "(I)I"⟩
abbrev cX4_passOneHour : ByteArray := prog_6_method_24_code
def yX4_passOneHour : MethodName := ⟨RX4, "passOneHour", "()V"⟩
abbrev cX4_heatChambers : ByteArray := prog_6_method_25_code
def yX4_heatChambers : MethodName := ⟨RX4, "heatChambers", "()V"⟩
abbrev cX4_coolChambers : ByteArray := prog_6_method_26_code
def yX4_coolChambers : MethodName := ⟨RX4, "coolChambers", "()V"⟩
abbrev cX4_finishChamber : ByteArray := prog_6_method_27_code
def yX4_finishChamber : MethodName := ⟨RX4, "finishChamber", "()V"⟩
abbrev cX4_chamberAfter : ByteArray := prog_6_method_28_code
def yX4_chamberAfter : MethodName := ⟨RX4, "chamberAfter", "(I)I"⟩
def RX5 : String := "RingKiln$Mixer"
def TX5 : u_T := fun k => match k with
  | 0 => ("RingKiln$Mixer", "lowest", "[I", true)
  | 1 => ("RingKiln$Mixer", "best", "[I", true)
  | 2 => ("RingKiln$Mixer", "bestCost", "I", false)
  | 3 => ("RingKiln$Mixer", "bestHeat", "I", false)
  | _ => ("RingKiln$Mixer", "found", "Z", false)
def tyX5 : Nat → FieldType := fun k => match k with
  | 0 => .array .int
  | 1 => .array .int
  | 2 => .int
  | 3 => .int
  | _ => .boolean
abbrev wsX50 : List Cond := u_ws RX5 TX5 5
theorem nmX5 : ∀ a, a < 5 → ∀ b, b < 5 → a ≠ b → (TX5 a).2.1 ≠ (TX5 b).2.1 := by decide +kernel
theorem tyX5_ok : ∀ k, k < 5 → parseFieldDescriptor (TX5 k).2.2.1 = some (tyX5 k) := by decide +kernel
abbrev cX5_init : ByteArray := prog_7_method_1_code
def yX5_init : MethodName := ⟨RX5, "<init>", "()V"⟩
abbrev cX5_cheapestByTable : ByteArray := prog_7_method_2_code
def yX5_cheapestByTable : MethodName := ⟨RX5, "cheapestByTable", "([I[II)I"⟩
abbrev cX5_extendTable : ByteArray := prog_7_method_3_code
def yX5_extendTable : MethodName := ⟨RX5, "extendTable", "(IIII)V"⟩
abbrev cX5_findBest : ByteArray := prog_7_method_4_code
def yX5_findBest : MethodName := ⟨RX5, "findBest", "([I[II)Z"⟩
abbrev cX5_piecesFor : ByteArray := prog_7_method_5_code
def yX5_piecesFor : MethodName := ⟨RX5, "piecesFor", "(II)I"⟩
abbrev cX5_considerMixture : ByteArray := prog_7_method_6_code
def yX5_considerMixture : MethodName := ⟨RX5, "considerMixture", "(III[I)V"⟩
abbrev cX5_isBetter : ByteArray := prog_7_method_7_code
def yX5_isBetter : MethodName := ⟨RX5, "isBetter", "(IIII)Z"⟩
def RX6 : String := "RingKiln$Program"
def TX6 : u_T := fun k => match k with
  | 0 => ("RingKiln$Program", "text", "[C", true)
  | 1 => ("RingKiln$Program", "length", "I", false)
  | 2 => ("RingKiln$Program", "position", "I", false)
  | 3 => ("RingKiln$Program", "commands", "[LRingKiln$Command;", true)
  | 4 => ("RingKiln$Program", "firsts", "[I", true)
  | 5 => ("RingKiln$Program", "seconds", "[I", true)
  | 6 => ("RingKiln$Program", "count", "I", false)
  | 7 => ("RingKiln$Program", "values", "[I", true)
  | _ => ("RingKiln$Program", "valueCount", "I", false)
def tyX6 : Nat → FieldType := fun k => match k with
  | 0 => .array .char
  | 1 => .int
  | 2 => .int
  | 3 => .array (.object "RingKiln$Command")
  | 4 => .array .int
  | 5 => .array .int
  | 6 => .int
  | 7 => .array .int
  | _ => .int
abbrev wsX60 : List Cond := u_ws RX6 TX6 9
theorem nmX6 : ∀ a, a < 9 → ∀ b, b < 9 → a ≠ b → (TX6 a).2.1 ≠ (TX6 b).2.1 := by decide +kernel
theorem tyX6_ok : ∀ k, k < 9 → parseFieldDescriptor (TX6 k).2.2.1 = some (tyX6 k) := by decide +kernel
abbrev cX6_init : ByteArray := prog_8_method_1_code
def yX6_init : MethodName := ⟨RX6, "<init>", "()V"⟩
abbrev cX6_addCharacter : ByteArray := prog_8_method_2_code
def yX6_addCharacter : MethodName := ⟨RX6, "addCharacter", "(C)I"⟩
abbrev cX6_clearText : ByteArray := prog_8_method_3_code
def yX6_clearText : MethodName := ⟨RX6, "clearText", "()V"⟩
abbrev cX6_readText : ByteArray := prog_8_method_4_code
def yX6_readText : MethodName := ⟨RX6, "readText", "()Z"⟩
abbrev cX6_readCommand : ByteArray := prog_8_method_5_code
def yX6_readCommand : MethodName := ⟨RX6, "readCommand", "()Z"⟩
abbrev cX6_keepCommand : ByteArray := prog_8_method_6_code
def yX6_keepCommand : MethodName := ⟨RX6, "keepCommand", "(LRingKiln$Command;)V"⟩
abbrev cX6_followPattern : ByteArray := prog_8_method_7_code
def yX6_followPattern : MethodName := ⟨RX6, "followPattern", "(Ljava/lang/String;)Z"⟩
abbrev cX6_readCharacter : ByteArray := prog_8_method_8_code
def yX6_readCharacter : MethodName := ⟨RX6, "readCharacter", "(C)Z"⟩
abbrev cX6_readNumber : ByteArray := prog_8_method_9_code
def yX6_readNumber : MethodName := ⟨RX6, "readNumber", "()Z"⟩
abbrev cX6_isDigit : ByteArray := prog_8_method_10_code
def yX6_isDigit : MethodName := ⟨RX6, "isDigit", "(C)Z"⟩
abbrev cX6_addValue : ByteArray := prog_8_method_11_code
def yX6_addValue : MethodName := ⟨RX6, "addValue", "(I)V"⟩
def RX7 : String := "RingKiln"
def TX7 : u_T := fun k => match k with
  | 0 => ("RingKiln", "kiln", "LRingKiln$Kiln;", true)
  | 1 => ("RingKiln", "before", "LRingKiln$Kiln;", true)
  | 2 => ("RingKiln", "forecast", "LRingKiln$Kiln;", true)
  | 3 => ("RingKiln", "saved", "LRingKiln$Kiln;", true)
  | 4 => ("RingKiln", "hasSaved", "Z", false)
  | 5 => ("RingKiln", "history", "LRingKiln$History;", true)
  | 6 => ("RingKiln", "mixer", "LRingKiln$Mixer;", true)
  | 7 => ("RingKiln", "courseBook", "LRingKiln$Courses;", true)
  | 8 => ("RingKiln", "program", "LRingKiln$Program;", true)
  | 9 => ("RingKiln", "line", "Ljava/lang/StringBuilder;", true)
  | 10 => ("RingKiln", "lastErrorPosition", "I", false)
  | _ => ("RingKiln", "lastFailedCommand", "I", false)
def tyX7 : Nat → FieldType := fun k => match k with
  | 0 => .object "RingKiln$Kiln"
  | 1 => .object "RingKiln$Kiln"
  | 2 => .object "RingKiln$Kiln"
  | 3 => .object "RingKiln$Kiln"
  | 4 => .boolean
  | 5 => .object "RingKiln$History"
  | 6 => .object "RingKiln$Mixer"
  | 7 => .object "RingKiln$Courses"
  | 8 => .object "RingKiln$Program"
  | 9 => .object "java/lang/StringBuilder"
  | 10 => .int
  | _ => .int
abbrev wsX70 : List Cond := u_ws RX7 TX7 12
theorem nmX7 : ∀ a, a < 12 → ∀ b, b < 12 → a ≠ b → (TX7 a).2.1 ≠ (TX7 b).2.1 := by decide +kernel
theorem tyX7_ok : ∀ k, k < 12 → parseFieldDescriptor (TX7 k).2.2.1 = some (tyX7 k) := by decide +kernel
abbrev cX7_init : ByteArray := prog_1_method_1_code
def yX7_init : MethodName := ⟨RX7, "<init>", "()V"⟩
abbrev cX7_load : ByteArray := prog_1_method_2_code
def yX7_load : MethodName := ⟨RX7, "load", "(II)I"⟩
abbrev cX7_unload : ByteArray := prog_1_method_3_code
def yX7_unload : MethodName := ⟨RX7, "unload", "(I)I"⟩
abbrev cX7_light : ByteArray := prog_1_method_4_code
def yX7_light : MethodName := ⟨RX7, "light", "(I)I"⟩
abbrev cX7_quench : ByteArray := prog_1_method_5_code
def yX7_quench : MethodName := ⟨RX7, "quench", "()I"⟩
abbrev cX7_setDraught : ByteArray := prog_1_method_6_code
def yX7_setDraught : MethodName := ⟨RX7, "setDraught", "(I)I"⟩
abbrev cX7_passHours : ByteArray := prog_1_method_7_code
def yX7_passHours : MethodName := ⟨RX7, "passHours", "(I)I"⟩
abbrev cX7_addFuel : ByteArray := prog_1_method_8_code
def yX7_addFuel : MethodName := ⟨RX7, "addFuel", "(CI)I"⟩
abbrev cX7_setPrice : ByteArray := prog_1_method_9_code
def yX7_setPrice : MethodName := ⟨RX7, "setPrice", "(CI)I"⟩
abbrev cX7_feed : ByteArray := prog_1_method_10_code
def yX7_feed : MethodName := ⟨RX7, "feed", "(I)I"⟩
abbrev cX7_buildWall : ByteArray := prog_1_method_11_code
def yX7_buildWall : MethodName := ⟨RX7, "buildWall", "(II)I"⟩
abbrev cX7_time : ByteArray := prog_1_method_12_code
def yX7_time : MethodName := ⟨RX7, "time", "()I"⟩
abbrev cX7_isLit : ByteArray := prog_1_method_13_code
def yX7_isLit : MethodName := ⟨RX7, "isLit", "()Z"⟩
abbrev cX7_fireChamber : ByteArray := prog_1_method_14_code
def yX7_fireChamber : MethodName := ⟨RX7, "fireChamber", "()I"⟩
abbrev cX7_heat : ByteArray := prog_1_method_15_code
def yX7_heat : MethodName := ⟨RX7, "heat", "()I"⟩
abbrev cX7_draught : ByteArray := prog_1_method_16_code
def yX7_draught : MethodName := ⟨RX7, "draught", "()I"⟩
abbrev cX7_state : ByteArray := prog_1_method_17_code
def yX7_state : MethodName := ⟨RX7, "state", "(I)C"⟩
abbrev cX7_bricks : ByteArray := prog_1_method_18_code
def yX7_bricks : MethodName := ⟨RX7, "bricks", "(I)I"⟩
abbrev cX7_temperature : ByteArray := prog_1_method_19_code
def yX7_temperature : MethodName := ⟨RX7, "temperature", "(I)I"⟩
abbrev cX7_chamberAtRank : ByteArray := prog_1_method_20_code
def yX7_chamberAtRank : MethodName := ⟨RX7, "chamberAtRank", "(I)I"⟩
abbrev cX7_chambersIn : ByteArray := prog_1_method_21_code
def yX7_chambersIn : MethodName := ⟨RX7, "chambersIn", "(C)I"⟩
abbrev cX7_hoursUntilOut : ByteArray := prog_1_method_22_code
def yX7_hoursUntilOut : MethodName := ⟨RX7, "hoursUntilOut", "()I"⟩
abbrev cX7_hoursUntilCool : ByteArray := prog_1_method_23_code
def yX7_hoursUntilCool : MethodName := ⟨RX7, "hoursUntilCool", "(I)I"⟩
abbrev cX7_firedIn : ByteArray := prog_1_method_24_code
def yX7_firedIn : MethodName := ⟨RX7, "firedIn", "(I)I"⟩
abbrev cX7_fuel : ByteArray := prog_1_method_25_code
def yX7_fuel : MethodName := ⟨RX7, "fuel", "(C)I"⟩
abbrev cX7_price : ByteArray := prog_1_method_26_code
def yX7_price : MethodName := ⟨RX7, "price", "(C)I"⟩
abbrev cX7_lowestCost : ByteArray := prog_1_method_27_code
def yX7_lowestCost : MethodName := ⟨RX7, "lowestCost", "(I)I"⟩
abbrev cX7_lowestCostByTrying : ByteArray := prog_1_method_28_code
def yX7_lowestCostByTrying : MethodName := ⟨RX7, "lowestCostByTrying", "(I)I"⟩
abbrev cX7_piecesInMixture : ByteArray := prog_1_method_29_code
def yX7_piecesInMixture : MethodName := ⟨RX7, "piecesInMixture", "(CI)I"⟩
abbrev cX7_courseCount : ByteArray := prog_1_method_30_code
def yX7_courseCount : MethodName := ⟨RX7, "courseCount", "(I)I"⟩
abbrev cX7_wallCount : ByteArray := prog_1_method_31_code
def yX7_wallCount : MethodName := ⟨RX7, "wallCount", "(II)J"⟩
abbrev cX7_wallCountByMemory : ByteArray := prog_1_method_32_code
def yX7_wallCountByMemory : MethodName := ⟨RX7, "wallCountByMemory", "(II)J"⟩
abbrev cX7_fewestBricks : ByteArray := prog_1_method_33_code
def yX7_fewestBricks : MethodName := ⟨RX7, "fewestBricks", "(II)I"⟩
abbrev cX7_stock : ByteArray := prog_1_method_34_code
def yX7_stock : MethodName := ⟨RX7, "stock", "()I"⟩
abbrev cX7_walls : ByteArray := prog_1_method_35_code
def yX7_walls : MethodName := ⟨RX7, "walls", "()I"⟩
abbrev cX7_brickTotal : ByteArray := prog_1_method_36_code
def yX7_brickTotal : MethodName := ⟨RX7, "brickTotal", "()I"⟩
abbrev cX7_brickTotalByAccounts : ByteArray := prog_1_method_37_code
def yX7_brickTotalByAccounts : MethodName := ⟨RX7, "brickTotalByAccounts", "()I"⟩
abbrev cX7_paidTotal : ByteArray := prog_1_method_38_code
def yX7_paidTotal : MethodName := ⟨RX7, "paidTotal", "()I"⟩
abbrev cX7_meanTemperature : ByteArray := prog_1_method_39_code
def yX7_meanTemperature : MethodName := ⟨RX7, "meanTemperature", "()D"⟩
abbrev cX7_isConsistent : ByteArray := prog_1_method_41_code
def yX7_isConsistent : MethodName := ⟨RX7, "isConsistent", "()Z"⟩
abbrev cX7_append : ByteArray := prog_1_method_42_code
def yX7_append : MethodName := ⟨RX7, "append", "(C)I"⟩
abbrev cX7_run : ByteArray := prog_1_method_43_code
def yX7_run : MethodName := ⟨RX7, "run", "()I"⟩
abbrev cX7_failedCommand : ByteArray := prog_1_method_45_code
def yX7_failedCommand : MethodName := ⟨RX7, "failedCommand", "()I"⟩
abbrev cX7_writeRing : ByteArray := prog_1_method_46_code
def yX7_writeRing : MethodName := ⟨RX7, "writeRing", "()I"⟩
abbrev cX7_undo : ByteArray := prog_1_method_49_code
def yX7_undo : MethodName := ⟨RX7, "undo", "()I"⟩
abbrev cX7_save : ByteArray := prog_1_method_50_code
def yX7_save : MethodName := ⟨RX7, "save", "()V"⟩
abbrev cX7_restore : ByteArray := prog_1_method_51_code
def yX7_restore : MethodName := ⟨RX7, "restore", "()V"⟩
abbrev cX7_isOutside : ByteArray := prog_1_method_52_code
def yX7_isOutside : MethodName := ⟨RX7, "isOutside", "(III)Z"⟩
abbrev cX7_needWithin : ByteArray := prog_1_method_53_code
def yX7_needWithin : MethodName := ⟨RX7, "needWithin", "(III)V"⟩
abbrev cX7_needWidth : ByteArray := prog_1_method_54_code
def yX7_needWidth : MethodName := ⟨RX7, "needWidth", "(I)V"⟩
abbrev cX7_needChamber : ByteArray := prog_1_method_55_code
def yX7_needChamber : MethodName := ⟨RX7, "needChamber", "(I)V"⟩
abbrev cX7_isChamber : ByteArray := prog_1_method_56_code
def yX7_isChamber : MethodName := ⟨RX7, "isChamber", "(I)Z"⟩
abbrev cX7_neededKind : ByteArray := prog_1_method_57_code
def yX7_neededKind : MethodName := ⟨RX7, "neededKind", "(C)I"⟩
abbrev cX7_kindIndex : ByteArray := prog_1_method_58_code
def yX7_kindIndex : MethodName := ⟨RX7, "kindIndex", "(I)I"⟩
abbrev cX7_answerOf : ByteArray := prog_1_method_59_code
def yX7_answerOf : MethodName := ⟨RX7, "answerOf", "(I)I"⟩
abbrev cX7_change : ByteArray := prog_1_method_60_code
def yX7_change : MethodName := ⟨RX7, "change", "(LRingKiln$Command;II)I"⟩
abbrev cX7_carryOut : ByteArray := prog_1_method_61_code
def yX7_carryOut : MethodName := ⟨RX7, "carryOut", "(LRingKiln$Command;II)I"⟩
abbrev cX7_carryOutCommands : ByteArray := prog_1_method_62_code
def yX7_carryOutCommands : MethodName := ⟨RX7, "carryOutCommands", "()I"⟩
abbrev cX7_costByTable : ByteArray := prog_1_method_63_code
def yX7_costByTable : MethodName := ⟨RX7, "costByTable", "(I)I"⟩
abbrev cX7_costByTrying : ByteArray := prog_1_method_64_code
def yX7_costByTrying : MethodName := ⟨RX7, "costByTrying", "(I)I"⟩
def RX8 : String := "RingKilnModel"
def TX8 : u_T := fun k => match k with
  | _ => ("", "", "", false)
def tyX8 : Nat → FieldType := fun k => match k with
  | _ => .int
abbrev wsX80 : List Cond := u_ws RX8 TX8 0
theorem nmX8 : ∀ a, a < 0 → ∀ b, b < 0 → a ≠ b → (TX8 a).2.1 ≠ (TX8 b).2.1 := by decide +kernel
theorem tyX8_ok : ∀ k, k < 0 → parseFieldDescriptor (TX8 k).2.2.1 = some (tyX8 k) := by decide +kernel
def RJx145de : String := "java/io/Serializable"
def TJx145de : u_T := fun k => match k with
  | _ => ("", "", "", false)
def tyJx145de : Nat → FieldType := fun k => match k with
  | _ => .int
abbrev wsJx145de0 : List Cond := u_ws RJx145de TJx145de 0
theorem nmJx145de : ∀ a, a < 0 → ∀ b, b < 0 → a ≠ b → (TJx145de a).2.1 ≠ (TJx145de b).2.1 := by decide +kernel
theorem tyJx145de_ok : ∀ k, k < 0 → parseFieldDescriptor (TJx145de k).2.2.1 = some (tyJx145de k) := by decide +kernel
def RJ5 : String := "java/lang/AbstractStringBuilder"
def TJ5 : u_T := fun k => match k with
  | _ => ("", "", "", false)
def tyJ5 : Nat → FieldType := fun k => match k with
  | _ => .int
abbrev wsJ50 : List Cond := u_ws RJ5 TJ5 0
theorem nmJ5 : ∀ a, a < 0 → ∀ b, b < 0 → a ≠ b → (TJ5 a).2.1 ≠ (TJ5 b).2.1 := by decide +kernel
theorem tyJ5_ok : ∀ k, k < 0 → parseFieldDescriptor (TJ5 k).2.2.1 = some (tyJ5 k) := by decide +kernel
abbrev cJ5_init_d00df : ByteArray := prog_12_method_2_code
def yJ5_init_d00df : MethodName := ⟨RJ5, "<init>", "(I)V"⟩
abbrev cJ5_length_8abf5 : ByteArray := prog_12_method_6_code
def yJ5_length_8abf5 : MethodName := ⟨RJ5, "length", "()I"⟩
abbrev cJ5_ensureCapacityInternal_d00df : ByteArray := prog_12_method_9_code
def yJ5_ensureCapacityInternal_d00df : MethodName := ⟨RJ5, "ensureCapacityInternal", "(I)V"⟩
abbrev cJ5_newCapacity_0f7a4 : ByteArray := prog_12_method_10_code
def yJ5_newCapacity_0f7a4 : MethodName := ⟨RJ5, "newCapacity", "(I)I"⟩
abbrev cJ5_inflate_da8c8 : ByteArray := prog_12_method_11_code
def yJ5_inflate_da8c8 : MethodName := ⟨RJ5, "inflate", "()V"⟩
abbrev cJ5_setLength_d00df : ByteArray := prog_12_method_13_code
def yJ5_setLength_d00df : MethodName := ⟨RJ5, "setLength", "(I)V"⟩
abbrev cJ5_append_cf1ce : ByteArray := prog_12_method_22_code
def yJ5_append_cf1ce : MethodName := ⟨RJ5, "append", "(Ljava/lang/String;)Ljava/lang/AbstractStringBuilder;"⟩
abbrev cJ5_appendNull_278bc : ByteArray := prog_12_method_26_code
def yJ5_appendNull_278bc : MethodName := ⟨RJ5, "appendNull", "()Ljava/lang/AbstractStringBuilder;"⟩
abbrev cJ5_append_3fe6f : ByteArray := prog_12_method_31_code
def yJ5_append_3fe6f : MethodName := ⟨RJ5, "append", "(C)Ljava/lang/AbstractStringBuilder;"⟩
abbrev cJ5_append_c97b9 : ByteArray := prog_12_method_32_code
def yJ5_append_c97b9 : MethodName := ⟨RJ5, "append", "(I)Ljava/lang/AbstractStringBuilder;"⟩
abbrev cJ5_getValue_6d5f1 : ByteArray := prog_12_method_64_code
def yJ5_getValue_6d5f1 : MethodName := ⟨RJ5, "getValue", "()[B"⟩
abbrev cJ5_isLatin1_aae02 : ByteArray := prog_12_method_68_code
def yJ5_isLatin1_aae02 : MethodName := ⟨RJ5, "isLatin1", "()Z"⟩
abbrev cJ5_inflateIfNeededFor_a7421 : ByteArray := prog_12_method_71_code
def yJ5_inflateIfNeededFor_a7421 : MethodName := ⟨RJ5, "inflateIfNeededFor", "(Ljava/lang/String;)V"⟩
abbrev cJ5_putStringAt_47b60 : ByteArray := prog_12_method_73_code
def yJ5_putStringAt_47b60 : MethodName := ⟨RJ5, "putStringAt", "(ILjava/lang/String;)V"⟩
def RJx2cfe8 : String := "java/lang/Appendable"
def TJx2cfe8 : u_T := fun k => match k with
  | _ => ("", "", "", false)
def tyJx2cfe8 : Nat → FieldType := fun k => match k with
  | _ => .int
abbrev wsJx2cfe80 : List Cond := u_ws RJx2cfe8 TJx2cfe8 0
theorem nmJx2cfe8 : ∀ a, a < 0 → ∀ b, b < 0 → a ≠ b → (TJx2cfe8 a).2.1 ≠ (TJx2cfe8 b).2.1 := by decide +kernel
theorem tyJx2cfe8_ok : ∀ k, k < 0 → parseFieldDescriptor (TJx2cfe8 k).2.2.1 = some (tyJx2cfe8 k) := by decide +kernel
def RJx00060 : String := "java/lang/ArrayIndexOutOfBoundsException"
def TJx00060 : u_T := fun k => match k with
  | 0 => ("java/lang/Throwable", "backtrace", "Ljava/lang/Object;", false)
  | 1 => ("java/lang/Throwable", "detailMessage", "Ljava/lang/String;", false)
  | 2 => ("java/lang/Throwable", "cause", "Ljava/lang/Throwable;", false)
  | 3 => ("java/lang/Throwable", "stackTrace", "[Ljava/lang/StackTraceElement;", false)
  | 4 => ("java/lang/Throwable", "depth", "I", false)
  | _ => ("java/lang/Throwable", "suppressedExceptions", "Ljava/util/List;", false)
def tyJx00060 : Nat → FieldType := fun k => match k with
  | 0 => .object "java/lang/Object"
  | 1 => .object "java/lang/String"
  | 2 => .object "java/lang/Throwable"
  | 3 => .array (.object "java/lang/StackTraceElement")
  | 4 => .int
  | _ => .object "java/util/List"
abbrev wsJx000600 : List Cond := u_ws RJx00060 TJx00060 6
theorem nmJx00060 : ∀ a, a < 6 → ∀ b, b < 6 → a ≠ b → (TJx00060 a).2.1 ≠ (TJx00060 b).2.1 := by decide +kernel
theorem tyJx00060_ok : ∀ k, k < 6 → parseFieldDescriptor (TJx00060 k).2.2.1 = some (tyJx00060 k) := by decide +kernel
abbrev cJx00060_init_a7421 : ByteArray := prog_14_method_2_code
def yJx00060_init_a7421 : MethodName := ⟨RJx00060, "<init>", "(Ljava/lang/String;)V"⟩
abbrev cJx00060_init_d00df : ByteArray := prog_14_method_3_code
def yJx00060_init_d00df : MethodName := ⟨RJx00060, "<init>", "(I)V"⟩
def RJx9f9b0 : String := "java/lang/CharSequence"
def TJx9f9b0 : u_T := fun k => match k with
  | _ => ("", "", "", false)
def tyJx9f9b0 : Nat → FieldType := fun k => match k with
  | _ => .int
abbrev wsJx9f9b00 : List Cond := u_ws RJx9f9b0 TJx9f9b0 0
theorem nmJx9f9b0 : ∀ a, a < 0 → ∀ b, b < 0 → a ≠ b → (TJx9f9b0 a).2.1 ≠ (TJx9f9b0 b).2.1 := by decide +kernel
theorem tyJx9f9b0_ok : ∀ k, k < 0 → parseFieldDescriptor (TJx9f9b0 k).2.2.1 = some (tyJx9f9b0 k) := by decide +kernel
def RJx8e188 : String := "java/lang/Cloneable"
def TJx8e188 : u_T := fun k => match k with
  | _ => ("", "", "", false)
def tyJx8e188 : Nat → FieldType := fun k => match k with
  | _ => .int
abbrev wsJx8e1880 : List Cond := u_ws RJx8e188 TJx8e188 0
theorem nmJx8e188 : ∀ a, a < 0 → ∀ b, b < 0 → a ≠ b → (TJx8e188 a).2.1 ≠ (TJx8e188 b).2.1 := by decide +kernel
theorem tyJx8e188_ok : ∀ k, k < 0 → parseFieldDescriptor (TJx8e188 k).2.2.1 = some (tyJx8e188 k) := by decide +kernel
def RJxb160c : String := "java/lang/Comparable"
def TJxb160c : u_T := fun k => match k with
  | _ => ("", "", "", false)
def tyJxb160c : Nat → FieldType := fun k => match k with
  | _ => .int
abbrev wsJxb160c0 : List Cond := u_ws RJxb160c TJxb160c 0
theorem nmJxb160c : ∀ a, a < 0 → ∀ b, b < 0 → a ≠ b → (TJxb160c a).2.1 ≠ (TJxb160c b).2.1 := by decide +kernel
theorem tyJxb160c_ok : ∀ k, k < 0 → parseFieldDescriptor (TJxb160c k).2.2.1 = some (tyJxb160c k) := by decide +kernel
def RJx29ce0 : String := "java/lang/Enum"
def TJx29ce0 : u_T := fun k => match k with
  | _ => ("", "", "", false)
def tyJx29ce0 : Nat → FieldType := fun k => match k with
  | _ => .int
abbrev wsJx29ce00 : List Cond := u_ws RJx29ce0 TJx29ce0 0
theorem nmJx29ce0 : ∀ a, a < 0 → ∀ b, b < 0 → a ≠ b → (TJx29ce0 a).2.1 ≠ (TJx29ce0 b).2.1 := by decide +kernel
theorem tyJx29ce0_ok : ∀ k, k < 0 → parseFieldDescriptor (TJx29ce0 k).2.2.1 = some (tyJx29ce0 k) := by decide +kernel
abbrev cJx29ce0_ordinal_8abf5 : ByteArray := prog_18_method_2_code
def yJx29ce0_ordinal_8abf5 : MethodName := ⟨RJx29ce0, "ordinal", "()I"⟩
def RJ6 : String := "java/lang/Integer"
def TJ6 : u_T := fun k => match k with
  | _ => ("", "", "", false)
def tyJ6 : Nat → FieldType := fun k => match k with
  | _ => .int
abbrev wsJ60 : List Cond := u_ws RJ6 TJ6 0
theorem nmJ6 : ∀ a, a < 0 → ∀ b, b < 0 → a ≠ b → (TJ6 a).2.1 ≠ (TJ6 b).2.1 := by decide +kernel
theorem tyJ6_ok : ∀ k, k < 0 → parseFieldDescriptor (TJ6 k).2.2.1 = some (tyJ6 k) := by decide +kernel
abbrev cJ6_getChars_ba4f3 : ByteArray := prog_23_method_12_code
def yJ6_getChars_ba4f3 : MethodName := ⟨RJ6, "getChars", "(II[B)I"⟩
abbrev cJ6_stringSize_0f7a4 : ByteArray := prog_23_method_13_code
def yJ6_stringSize_0f7a4 : MethodName := ⟨RJ6, "stringSize", "(I)I"⟩
abbrev cJ6_bitCount_0f7a4 : ByteArray := prog_23_method_49_code
def yJ6_bitCount_0f7a4 : MethodName := ⟨RJ6, "bitCount", "(I)I"⟩
def RJ9 : String := "java/lang/Math"
def TJ9 : u_T := fun k => match k with
  | _ => ("", "", "", false)
def tyJ9 : Nat → FieldType := fun k => match k with
  | _ => .int
abbrev wsJ90 : List Cond := u_ws RJ9 TJ9 0
theorem nmJ9 : ∀ a, a < 0 → ∀ b, b < 0 → a ≠ b → (TJ9 a).2.1 ≠ (TJ9 b).2.1 := by decide +kernel
theorem tyJ9_ok : ∀ k, k < 0 → parseFieldDescriptor (TJ9 k).2.2.1 = some (tyJ9 k) := by decide +kernel
abbrev cJ9_max_7cf53 : ByteArray := prog_24_method_65_code
def yJ9_max_7cf53 : MethodName := ⟨RJ9, "max", "(II)I"⟩
abbrev cJ9_min_7cf53 : ByteArray := prog_24_method_69_code
def yJ9_min_7cf53 : MethodName := ⟨RJ9, "min", "(II)I"⟩
def RJxd2413 : String := "java/lang/Number"
def TJxd2413 : u_T := fun k => match k with
  | _ => ("", "", "", false)
def tyJxd2413 : Nat → FieldType := fun k => match k with
  | _ => .int
abbrev wsJxd24130 : List Cond := u_ws RJxd2413 TJxd2413 0
theorem nmJxd2413 : ∀ a, a < 0 → ∀ b, b < 0 → a ≠ b → (TJxd2413 a).2.1 ≠ (TJxd2413 b).2.1 := by decide +kernel
theorem tyJxd2413_ok : ∀ k, k < 0 → parseFieldDescriptor (TJxd2413 k).2.2.1 = some (tyJxd2413 k) := by decide +kernel
def RJ0 : String := "java/lang/String"
def TJ0 : u_T := fun k => match k with
  | 0 => ("java/lang/String", "value", "[B", true)
  | 1 => ("java/lang/String", "coder", "B", true)
  | 2 => ("java/lang/String", "hash", "I", false)
  | _ => ("java/lang/String", "hashIsZero", "Z", false)
def tyJ0 : Nat → FieldType := fun k => match k with
  | 0 => .array .byte
  | 1 => .byte
  | 2 => .int
  | _ => .boolean
abbrev wsJ00 : List Cond := u_ws RJ0 TJ0 4
theorem nmJ0 : ∀ a, a < 4 → ∀ b, b < 4 → a ≠ b → (TJ0 a).2.1 ≠ (TJ0 b).2.1 := by decide +kernel
theorem tyJ0_ok : ∀ k, k < 4 → parseFieldDescriptor (TJ0 k).2.2.1 = some (tyJ0 k) := by decide +kernel
abbrev cJ0_init_81219 : ByteArray := prog_27_method_53_code
def yJ0_init_81219 : MethodName := ⟨RJ0, "<init>", "(Ljava/lang/StringBuilder;)V"⟩
abbrev cJ0_length_8abf5 : ByteArray := prog_27_method_54_code
def yJ0_length_8abf5 : MethodName := ⟨RJ0, "length", "()I"⟩
abbrev cJ0_charAt_5068e : ByteArray := prog_27_method_56_code
def yJ0_charAt_5068e : MethodName := ⟨RJ0, "charAt", "(I)C"⟩
abbrev cJ0_getBytes_840e7 : ByteArray := prog_27_method_147_code
def yJ0_getBytes_840e7 : MethodName := ⟨RJ0, "getBytes", "([BIB)V"⟩
abbrev cJ0_init_db425 : ByteArray := prog_27_method_150_code
def yJ0_init_db425 : MethodName := ⟨RJ0, "<init>", "(Ljava/lang/AbstractStringBuilder;Ljava/lang/Void;)V"⟩
abbrev cJ0_coder_7d493 : ByteArray := prog_27_method_152_code
def yJ0_coder_7d493 : MethodName := ⟨RJ0, "coder", "()B"⟩
abbrev cJ0_isLatin1_aae02 : ByteArray := prog_27_method_154_code
def yJ0_isLatin1_aae02 : MethodName := ⟨RJ0, "isLatin1", "()Z"⟩
abbrev cJ0_checkIndex_df160 : ByteArray := prog_27_method_155_code
def yJ0_checkIndex_df160 : MethodName := ⟨RJ0, "checkIndex", "(II)V"⟩
abbrev cJ0_checkBoundsOffCount_cabcc : ByteArray := prog_27_method_157_code
def yJ0_checkBoundsOffCount_cabcc : MethodName := ⟨RJ0, "checkBoundsOffCount", "(III)I"⟩
abbrev cJ0_checkBoundsBeginEnd_23922 : ByteArray := prog_27_method_158_code
def yJ0_checkBoundsBeginEnd_23922 : MethodName := ⟨RJ0, "checkBoundsBeginEnd", "(III)V"⟩
def RJ4 : String := "java/lang/StringBuilder"
def TJ4 : u_T := fun k => match k with
  | 0 => ("java/lang/AbstractStringBuilder", "value", "[B", false)
  | 1 => ("java/lang/AbstractStringBuilder", "coder", "B", false)
  | 2 => ("java/lang/AbstractStringBuilder", "maybeLatin1", "Z", false)
  | _ => ("java/lang/AbstractStringBuilder", "count", "I", false)
def tyJ4 : Nat → FieldType := fun k => match k with
  | 0 => .array .byte
  | 1 => .byte
  | 2 => .boolean
  | _ => .int
abbrev wsJ40 : List Cond := u_ws RJ4 TJ4 4
theorem nmJ4 : ∀ a, a < 4 → ∀ b, b < 4 → a ≠ b → (TJ4 a).2.1 ≠ (TJ4 b).2.1 := by decide +kernel
theorem tyJ4_ok : ∀ k, k < 4 → parseFieldDescriptor (TJ4 k).2.2.1 = some (tyJ4 k) := by decide +kernel
abbrev cJ4_init_da8c8 : ByteArray := prog_28_method_1_code
def yJ4_init_da8c8 : MethodName := ⟨RJ4, "<init>", "()V"⟩
abbrev cJ4_append_15ec4 : ByteArray := prog_28_method_7_code
def yJ4_append_15ec4 : MethodName := ⟨RJ4, "append", "(Ljava/lang/String;)Ljava/lang/StringBuilder;"⟩
abbrev cJ4_append_cf468 : ByteArray := prog_28_method_14_code
def yJ4_append_cf468 : MethodName := ⟨RJ4, "append", "(C)Ljava/lang/StringBuilder;"⟩
abbrev cJ4_append_bf812 : ByteArray := prog_28_method_15_code
def yJ4_append_bf812 : MethodName := ⟨RJ4, "append", "(I)Ljava/lang/StringBuilder;"⟩
abbrev cJ4_toString_0e30d : ByteArray := prog_28_method_42_code
def yJ4_toString_0e30d : MethodName := ⟨RJ4, "toString", "()Ljava/lang/String;"⟩
abbrev cJ4_setLength_d00df : ByteArray := prog_28_method_89_code
def yJ4_setLength_d00df : MethodName := ⟨RJ4, "setLength", "(I)V"⟩
abbrev cJ4_length_8abf5 : ByteArray := prog_28_method_93_code
def yJ4_length_8abf5 : MethodName := ⟨RJ4, "length", "()I"⟩
def RJx7c733 : String := "java/lang/StringIndexOutOfBoundsException"
def TJx7c733 : u_T := fun k => match k with
  | 0 => ("java/lang/Throwable", "backtrace", "Ljava/lang/Object;", false)
  | 1 => ("java/lang/Throwable", "detailMessage", "Ljava/lang/String;", false)
  | 2 => ("java/lang/Throwable", "cause", "Ljava/lang/Throwable;", false)
  | 3 => ("java/lang/Throwable", "stackTrace", "[Ljava/lang/StackTraceElement;", false)
  | 4 => ("java/lang/Throwable", "depth", "I", false)
  | _ => ("java/lang/Throwable", "suppressedExceptions", "Ljava/util/List;", false)
def tyJx7c733 : Nat → FieldType := fun k => match k with
  | 0 => .object "java/lang/Object"
  | 1 => .object "java/lang/String"
  | 2 => .object "java/lang/Throwable"
  | 3 => .array (.object "java/lang/StackTraceElement")
  | 4 => .int
  | _ => .object "java/util/List"
abbrev wsJx7c7330 : List Cond := u_ws RJx7c733 TJx7c733 6
theorem nmJx7c733 : ∀ a, a < 6 → ∀ b, b < 6 → a ≠ b → (TJx7c733 a).2.1 ≠ (TJx7c733 b).2.1 := by decide +kernel
theorem tyJx7c733_ok : ∀ k, k < 6 → parseFieldDescriptor (TJx7c733 k).2.2.1 = some (tyJx7c733 k) := by decide +kernel
abbrev cJx7c733_init_d00df : ByteArray := prog_29_method_3_code
def yJx7c733_init_d00df : MethodName := ⟨RJx7c733, "<init>", "(I)V"⟩
def RJ1 : String := "java/lang/StringLatin1"
def TJ1 : u_T := fun k => match k with
  | _ => ("", "", "", false)
def tyJ1 : Nat → FieldType := fun k => match k with
  | _ => .int
abbrev wsJ10 : List Cond := u_ws RJ1 TJ1 0
theorem nmJ1 : ∀ a, a < 0 → ∀ b, b < 0 → a ≠ b → (TJ1 a).2.1 ≠ (TJ1 b).2.1 := by decide +kernel
theorem tyJ1_ok : ∀ k, k < 0 → parseFieldDescriptor (TJ1 k).2.2.1 = some (tyJ1 k) := by decide +kernel
abbrev cJ1_charAt_3b067 : ByteArray := prog_30_method_2_code
def yJ1_charAt_3b067 : MethodName := ⟨RJ1, "charAt", "([BI)C"⟩
abbrev cJ1_canEncode_fc78d : ByteArray := prog_30_method_3_code
def yJ1_canEncode_fc78d : MethodName := ⟨RJ1, "canEncode", "(C)Z"⟩
abbrev cJ1_fillNull_b72d1 : ByteArray := prog_30_method_48_code
def yJ1_fillNull_b72d1 : MethodName := ⟨RJ1, "fillNull", "([BII)V"⟩
abbrev cJ1_inflate_0e8fd : ByteArray := prog_30_method_50_code
def yJ1_inflate_0e8fd : MethodName := ⟨RJ1, "inflate", "([BI[BII)V"⟩
def RJ2 : String := "java/lang/StringUTF16"
def TJ2 : u_T := fun k => match k with
  | _ => ("", "", "", false)
def tyJ2 : Nat → FieldType := fun k => match k with
  | _ => .int
abbrev wsJ20 : List Cond := u_ws RJ2 TJ2 0
theorem nmJ2 : ∀ a, a < 0 → ∀ b, b < 0 → a ≠ b → (TJ2 a).2.1 ≠ (TJ2 b).2.1 := by decide +kernel
theorem tyJ2_ok : ∀ k, k < 0 → parseFieldDescriptor (TJ2 k).2.2.1 = some (tyJ2 k) := by decide +kernel
abbrev cJ2_newBytesFor_77867 : ByteArray := prog_31_method_2_code
def yJ2_newBytesFor_77867 : MethodName := ⟨RJ2, "newBytesFor", "(I)[B"⟩
abbrev cJ2_newBytesLength_0f7a4 : ByteArray := prog_31_method_3_code
def yJ2_newBytesLength_0f7a4 : MethodName := ⟨RJ2, "newBytesLength", "(I)I"⟩
abbrev cJ2_putChar_b72d1 : ByteArray := prog_31_method_4_code
def yJ2_putChar_b72d1 : MethodName := ⟨RJ2, "putChar", "([BII)V"⟩
abbrev cJ2_getChar_3b067 : ByteArray := prog_31_method_5_code
def yJ2_getChar_3b067 : MethodName := ⟨RJ2, "getChar", "([BI)C"⟩
abbrev cJ2_length_9d52b : ByteArray := prog_31_method_6_code
def yJ2_length_9d52b : MethodName := ⟨RJ2, "length", "([B)I"⟩
abbrev cJ2_coderFromArrayLen_85cad : ByteArray := prog_31_method_15_code
def yJ2_coderFromArrayLen_85cad : MethodName := ⟨RJ2, "coderFromArrayLen", "([BI)B"⟩
abbrev cJ2_compress_39247 : ByteArray := prog_31_method_17_code
def yJ2_compress_39247 : MethodName := ⟨RJ2, "compress", "([BII)[B"⟩
abbrev cJ2_compress_5af95 : ByteArray := prog_31_method_22_code
def yJ2_compress_5af95 : MethodName := ⟨RJ2, "compress", "([BI[BII)I"⟩
abbrev cJ2_fillNull_b72d1 : ByteArray := prog_31_method_70_code
def yJ2_fillNull_b72d1 : MethodName := ⟨RJ2, "fillNull", "([BII)V"⟩
abbrev cJ2_putCharSB_b72d1 : ByteArray := prog_31_method_71_code
def yJ2_putCharSB_b72d1 : MethodName := ⟨RJ2, "putCharSB", "([BII)V"⟩
abbrev cJ2_getChars_46870 : ByteArray := prog_31_method_77_code
def yJ2_getChars_46870 : MethodName := ⟨RJ2, "getChars", "(III[B)I"⟩
abbrev cJ2_putCharsAt_cd4e5 : ByteArray := prog_31_method_81_code
def yJ2_putCharsAt_cd4e5 : MethodName := ⟨RJ2, "putCharsAt", "([BICCCC)I"⟩
abbrev cJ2_charAt_3b067 : ByteArray := prog_31_method_83_code
def yJ2_charAt_3b067 : MethodName := ⟨RJ2, "charAt", "([BI)C"⟩
abbrev cJ2_inflate_0e8fd : ByteArray := prog_31_method_86_code
def yJ2_inflate_0e8fd : MethodName := ⟨RJ2, "inflate", "([BI[BII)V"⟩
abbrev cJ2_getChars_ba4f3 : ByteArray := prog_31_method_89_code
def yJ2_getChars_ba4f3 : MethodName := ⟨RJ2, "getChars", "(II[B)I"⟩
abbrev cJ2_checkIndex_2214a : ByteArray := prog_31_method_91_code
def yJ2_checkIndex_2214a : MethodName := ⟨RJ2, "checkIndex", "(I[B)V"⟩
abbrev cJ2_checkBoundsBeginEnd_d044e : ByteArray := prog_31_method_93_code
def yJ2_checkBoundsBeginEnd_d044e : MethodName := ⟨RJ2, "checkBoundsBeginEnd", "(II[B)V"⟩
abbrev cJ2_checkBoundsOffCount_d044e : ByteArray := prog_31_method_94_code
def yJ2_checkBoundsOffCount_d044e : MethodName := ⟨RJ2, "checkBoundsOffCount", "(II[B)V"⟩
def RJ10 : String := "java/lang/System"
def TJ10 : u_T := fun k => match k with
  | _ => ("", "", "", false)
def tyJ10 : Nat → FieldType := fun k => match k with
  | _ => .int
abbrev wsJ100 : List Cond := u_ws RJ10 TJ10 0
theorem nmJ10 : ∀ a, a < 0 → ∀ b, b < 0 → a ≠ b → (TJ10 a).2.1 ≠ (TJ10 b).2.1 := by decide +kernel
theorem tyJ10_ok : ∀ k, k < 0 → parseFieldDescriptor (TJ10 k).2.2.1 = some (tyJ10 k) := by decide +kernel
def RJxfd54e : String := "java/lang/constant/Constable"
def TJxfd54e : u_T := fun k => match k with
  | _ => ("", "", "", false)
def tyJxfd54e : Nat → FieldType := fun k => match k with
  | _ => .int
abbrev wsJxfd54e0 : List Cond := u_ws RJxfd54e TJxfd54e 0
theorem nmJxfd54e : ∀ a, a < 0 → ∀ b, b < 0 → a ≠ b → (TJxfd54e a).2.1 ≠ (TJxfd54e b).2.1 := by decide +kernel
theorem tyJxfd54e_ok : ∀ k, k < 0 → parseFieldDescriptor (TJxfd54e k).2.2.1 = some (tyJxfd54e k) := by decide +kernel
def RJx3cf43 : String := "java/lang/constant/ConstantDesc"
def TJx3cf43 : u_T := fun k => match k with
  | _ => ("", "", "", false)
def tyJx3cf43 : Nat → FieldType := fun k => match k with
  | _ => .int
abbrev wsJx3cf430 : List Cond := u_ws RJx3cf43 TJx3cf43 0
theorem nmJx3cf43 : ∀ a, a < 0 → ∀ b, b < 0 → a ≠ b → (TJx3cf43 a).2.1 ≠ (TJx3cf43 b).2.1 := by decide +kernel
theorem tyJx3cf43_ok : ∀ k, k < 0 → parseFieldDescriptor (TJx3cf43 k).2.2.1 = some (tyJx3cf43 k) := by decide +kernel
def RJ7 : String := "java/util/Arrays"
def TJ7 : u_T := fun k => match k with
  | _ => ("", "", "", false)
def tyJ7 : Nat → FieldType := fun k => match k with
  | _ => .int
abbrev wsJ70 : List Cond := u_ws RJ7 TJ7 0
theorem nmJ7 : ∀ a, a < 0 → ∀ b, b < 0 → a ≠ b → (TJ7 a).2.1 ≠ (TJ7 b).2.1 := by decide +kernel
theorem tyJ7_ok : ∀ k, k < 0 → parseFieldDescriptor (TJ7 k).2.2.1 = some (tyJ7 k) := by decide +kernel
abbrev cJ7_rangeCheck_23922 : ByteArray := prog_37_method_30_code
def yJ7_rangeCheck_23922 : MethodName := ⟨RJ7, "rangeCheck", "(III)V"⟩
abbrev cJ7_fill_eb02e : ByteArray := prog_37_method_110_code
def yJ7_fill_eb02e : MethodName := ⟨RJ7, "fill", "([BIIB)V"⟩
abbrev cJ7_copyOf_9075b : ByteArray := prog_37_method_121_code
def yJ7_copyOf_9075b : MethodName := ⟨RJ7, "copyOf", "([BI)[B"⟩
abbrev cJ7_checkLength_df160 : ByteArray := prog_37_method_131_code
def yJ7_checkLength_df160 : MethodName := ⟨RJ7, "checkLength", "(II)V"⟩
abbrev cJ7_copyOfRange_39247 : ByteArray := prog_37_method_132_code
def yJ7_copyOfRange_39247 : MethodName := ⟨RJ7, "copyOfRange", "([BII)[B"⟩
abbrev cJ7_copyOfRangeByte_39247 : ByteArray := prog_37_method_133_code
def yJ7_copyOfRangeByte_39247 : MethodName := ⟨RJ7, "copyOfRangeByte", "([BII)[B"⟩
def RJ8 : String := "jdk/internal/util/ArraysSupport"
def TJ8 : u_T := fun k => match k with
  | _ => ("", "", "", false)
def tyJ8 : Nat → FieldType := fun k => match k with
  | _ => .int
abbrev wsJ80 : List Cond := u_ws RJ8 TJ8 0
theorem nmJ8 : ∀ a, a < 0 → ∀ b, b < 0 → a ≠ b → (TJ8 a).2.1 ≠ (TJ8 b).2.1 := by decide +kernel
theorem tyJ8_ok : ∀ k, k < 0 → parseFieldDescriptor (TJ8 k).2.2.1 = some (tyJ8 k) := by decide +kernel
abbrev cJ8_newLength_cabcc : ByteArray := prog_39_method_27_code
def yJ8_newLength_cabcc : MethodName := ⟨RJ8, "newLength", "(III)I"⟩
abbrev cJ8_hugeLength_7cf53 : ByteArray := prog_39_method_28_code
def yJ8_hugeLength_7cf53 : MethodName := ⟨RJ8, "hugeLength", "(II)I"⟩
def RJ3 : String := "jdk/internal/util/Preconditions"
def TJ3 : u_T := fun k => match k with
  | _ => ("", "", "", false)
def tyJ3 : Nat → FieldType := fun k => match k with
  | _ => .int
abbrev wsJ30 : List Cond := u_ws RJ3 TJ3 0
theorem nmJ3 : ∀ a, a < 0 → ∀ b, b < 0 → a ≠ b → (TJ3 a).2.1 ≠ (TJ3 b).2.1 := by decide +kernel
theorem tyJ3_ok : ∀ k, k < 0 → parseFieldDescriptor (TJ3 k).2.2.1 = some (tyJ3 k) := by decide +kernel
abbrev cJ3_checkIndex_8e157 : ByteArray := prog_40_method_11_code
def yJ3_checkIndex_8e157 : MethodName := ⟨RJ3, "checkIndex", "(IILjava/util/function/BiFunction;)I"⟩
abbrev cJ3_checkFromToIndex_8c36e : ByteArray := prog_40_method_12_code
def yJ3_checkFromToIndex_8c36e : MethodName := ⟨RJ3, "checkFromToIndex", "(IIILjava/util/function/BiFunction;)I"⟩
abbrev cJ3_checkFromIndexSize_8c36e : ByteArray := prog_40_method_13_code
def yJ3_checkFromIndexSize_8c36e : MethodName := ⟨RJ3, "checkFromIndexSize", "(IIILjava/util/function/BiFunction;)I"⟩
def RL : String := "RingKilnLaw"
abbrev cL_cell : ByteArray := method_2_code
def yL_cell : MethodName := ⟨RL, "cell", "([II)I"⟩
abbrev cL_load : ByteArray := method_3_code
def yL_load : MethodName := ⟨RL, "load", "(LRingKiln;II)I"⟩
abbrev cL_unload : ByteArray := method_4_code
def yL_unload : MethodName := ⟨RL, "unload", "(LRingKiln;I)I"⟩
abbrev cL_light : ByteArray := method_5_code
def yL_light : MethodName := ⟨RL, "light", "(LRingKiln;I)I"⟩
abbrev cL_quench : ByteArray := method_6_code
def yL_quench : MethodName := ⟨RL, "quench", "(LRingKiln;)I"⟩
abbrev cL_setDraught : ByteArray := method_7_code
def yL_setDraught : MethodName := ⟨RL, "setDraught", "(LRingKiln;I)I"⟩
abbrev cL_passHours : ByteArray := method_8_code
def yL_passHours : MethodName := ⟨RL, "passHours", "(LRingKiln;I)I"⟩
abbrev cL_addFuel : ByteArray := method_9_code
def yL_addFuel : MethodName := ⟨RL, "addFuel", "(LRingKiln;CI)I"⟩
abbrev cL_setPrice : ByteArray := method_10_code
def yL_setPrice : MethodName := ⟨RL, "setPrice", "(LRingKiln;CI)I"⟩
abbrev cL_feed : ByteArray := method_11_code
def yL_feed : MethodName := ⟨RL, "feed", "(LRingKiln;I)I"⟩
abbrev cL_buildWall : ByteArray := method_12_code
def yL_buildWall : MethodName := ⟨RL, "buildWall", "(LRingKiln;II)I"⟩
abbrev cL_fireChamber : ByteArray := method_13_code
def yL_fireChamber : MethodName := ⟨RL, "fireChamber", "(LRingKiln;)I"⟩
abbrev cL_chamberAtRank : ByteArray := method_14_code
def yL_chamberAtRank : MethodName := ⟨RL, "chamberAtRank", "(LRingKiln;I)I"⟩
abbrev cL_hoursUntilOut : ByteArray := method_15_code
def yL_hoursUntilOut : MethodName := ⟨RL, "hoursUntilOut", "(LRingKiln;)I"⟩
abbrev cL_hoursUntilCool : ByteArray := method_16_code
def yL_hoursUntilCool : MethodName := ⟨RL, "hoursUntilCool", "(LRingKiln;I)I"⟩
abbrev cL_lowestCost : ByteArray := method_17_code
def yL_lowestCost : MethodName := ⟨RL, "lowestCost", "(LRingKiln;I)I"⟩
abbrev cL_lowestCostByTrying : ByteArray := method_18_code
def yL_lowestCostByTrying : MethodName := ⟨RL, "lowestCostByTrying", "(LRingKiln;I)I"⟩
abbrev cL_piecesInMixture : ByteArray := method_19_code
def yL_piecesInMixture : MethodName := ⟨RL, "piecesInMixture", "(LRingKiln;CI)I"⟩
abbrev cL_fewestBricks : ByteArray := method_20_code
def yL_fewestBricks : MethodName := ⟨RL, "fewestBricks", "(LRingKiln;II)I"⟩
abbrev cL_run : ByteArray := method_22_code
def yL_run : MethodName := ⟨RL, "run", "(LRingKiln;)I"⟩
abbrev cL_failedCommand : ByteArray := method_23_code
def yL_failedCommand : MethodName := ⟨RL, "failedCommand", "(LRingKiln;)I"⟩
abbrev cL_undo : ByteArray := method_24_code
def yL_undo : MethodName := ⟨RL, "undo", "(LRingKiln;)I"⟩
abbrev cL_put : ByteArray := method_25_code
def yL_put : MethodName := ⟨RL, "put", "(LRingKiln;C)Z"⟩
abbrev cL_typed : ByteArray := method_26_code
def yL_typed : MethodName := ⟨RL, "typed", "(LRingKiln;Ljava/lang/String;)LRingKiln;"⟩
abbrev cL_saved : ByteArray := method_27_code
def yL_saved : MethodName := ⟨RL, "saved", "(LRingKiln;)I"⟩
abbrev cL_restored : ByteArray := method_28_code
def yL_restored : MethodName := ⟨RL, "restored", "(LRingKiln;)I"⟩
abbrev cL_act : ByteArray := method_29_code
def yL_act : MethodName := ⟨RL, "act", "(LRingKiln;I)I"⟩
abbrev cL_digest : ByteArray := method_30_code
def yL_digest : MethodName := ⟨RL, "digest", "(LRingKiln;)J"⟩
abbrev cL_areChambers : ByteArray := method_31_code
def yL_areChambers : MethodName := ⟨RL, "areChambers", "(LRingKiln;)Z"⟩
abbrev cL_isMixed : ByteArray := method_32_code
def yL_isMixed : MethodName := ⟨RL, "isMixed", "(LRingKiln;I)Z"⟩
abbrev cL_areWalls : ByteArray := method_33_code
def yL_areWalls : MethodName := ⟨RL, "areWalls", "(LRingKiln;II)Z"⟩
abbrev cL_isForetold : ByteArray := method_34_code
def yL_isForetold : MethodName := ⟨RL, "isForetold", "(LRingKiln;)Z"⟩
abbrev cL_isFit : ByteArray := method_35_code
def yL_isFit : MethodName := ⟨RL, "isFit", "(LRingKiln;)Z"⟩
abbrev cL_law : ByteArray := code
def yL_law : MethodName := ⟨RL, "law", "([I)Z"⟩
abbrev vwCl : List vw_C := [(RJ0, TJ0, 4), (RJ4, TJ4, 4), (RJx00060, TJx00060, 6), (RJx7c733, TJx7c733, 6), (RX2, TX2, 7), (RX3, TX3, 3), (RX4, TX4, 17), (RX5, TX5, 5), (RX6, TX6, 9), (RX7, TX7, 12)]
end
section
def xc : Nat → Nat → Option (Instr × (Nat × (Nat × (Nat × Value)))) := fun _ _ => none
def xm : Nat → MethodName × (ByteArray × (Nat × (Option FieldType × List (Nat × Nat × Nat × Nat)))) := fun _ => (yL_law, cL_law, 8, none, [])
def xh : Nat → Nat → String → Option (Nat × Nat) := fun _ _ _ => none
def xmc : Nat → Nat := fun _ => 0
def xfty : Nat → Nat → FieldType := fun _ _ => .int
def xdef : Nat → List Value := fun _ => []
def xcf : Nat → Nat → Option Value := fun _ _ => none
def xct : Nat → Option (Nat × List Value) := fun _ => none
def xco : Nat → Option Nat := fun _ => none
def xkc : Nat → Nat := fun _ => 0
def xsw : Nat → Nat → List (Int32 × Nat) := fun _ _ => []
def xen : Nat → String := fun _ => ""
def xzs : List (String × (String × (String × Value))) := []
def xobs : List (Nat × String) := []
def xofs : List (Nat × (String × (String × (String × Value)))) := []
def xars : List (Nat × (FieldType × List Value)) := []
def xsts : List (String × (Nat × (String × Nat))) := []
def xnfs : List (String × (Nat × (String × (String × (String × String))))) := []
def xnms : List (String × (Nat × (MethodName × String))) := []
def xaos : List String := []
def xaas : List FieldType := []
def xcn : Nat → String := fun _ => ""
def xcas : List (String × String) := []
def xdes : List MethodName := []
def xncs : List (String × String) := []
/-- the methods that may throw -/
def xmt : Nat → Bool := fun _ => false
end
section
/-! AN INTERPRETER OF THE BYTECODE, over numbered cells: pure, so that a method's answer is computed. What it says of the machine is proved once, in the parts behind. -/
/-- a cell: an object (its class's number, its fields), an array of ints, chars, bytes (its kind, what it holds), of longs, of references -/
abbrev xC : Type := (Nat × List Value) ⊕ ((Nat × List Int32) ⊕ ((Nat × List Int64) ⊕ (Nat × List (Option Nat))))
abbrev xH : Type := List xC
/-- the cells, how many cells and how many fields and places were made so far -/
abbrev xS : Type := xH × (Nat × Nat)
/-- what a method comes to: an answer, or an exception of a class -/
abbrev xR : Type := (Option Value ⊕ String) × xS
abbrev xGo : Type := Nat × (List Value × (List Value × xS))
abbrev xCa : Type := Nat × (List Value × (Nat × (List Value × (List Value × xS))))
abbrev xA : Type := xGo ⊕ (xCa ⊕ xR)
abbrev xno : Value := .retAddr 0
def xclr : List Value → List Value
  | [] => []
  | _ :: L => xno :: L
def xput : List Value → Nat → Value → List Value
  | [], _, _ => []
  | _ :: L, 0, v => v :: (if v.category = 2 then xclr L else L)
  | w :: L, 1, v => (if w.category = 2 then xno else w) :: xput L 0 v
  | w :: L, i + 2, v => w :: xput L (i + 1) v
/-- the locals at a method's entry: a long takes two places -/
def xargs : List Value → List Value
  | [] => []
  | v :: vs => v :: (if v.category = 2 then xno :: xargs vs else xargs vs)
def xentry (vs : List Value) (n : Nat) : List Value := xargs vs ++ List.replicate (n - (xargs vs).length) xno
def xcat : List Value → Nat
  | [] => 0
  | v :: vs => v.category + xcat vs
/-- numbers from here on are those of cells that the start holds -/
abbrev xB : Nat := 1000000
def xgo (nx : Nat) (L st : List Value) (s : xS) : Option xA := some (.inl (nx, L, st, s))
def x1i (st : List Value) (f : Int32 → List Value → Option xA) : Option xA := match st with
  | .int x :: r => f x r
  | _ => none
def x2i (st : List Value) (f : Int32 → Int32 → List Value → Option xA) : Option xA := match st with
  | .int y :: .int x :: r => f x y r
  | _ => none
def x2l (st : List Value) (f : Int64 → Int64 → List Value → Option xA) : Option xA := match st with
  | .long y :: .long x :: r => f x y r
  | _ => none
def x2d (st : List Value) (f : UInt64 → UInt64 → List Value → Option xA) : Option xA := match st with
  | .double y :: .double x :: r => f x y r
  | _ => none
/-- a load of the local i, which must be of the sort t (0 int, 1 long, 2 reference, 3 double) -/
def xsort : Value → Nat
  | .int _ => 0
  | .long _ => 1
  | .ref _ => 2
  | .double _ => 3
  | .null => 4
  | .float _ => 5
  | .retAddr _ => 6
def xload (t nx i : Nat) (L st : List Value) (s : xS) : Option xA := match L[i]? with
  | some v => if xsort v = t then xgo nx L (v :: st) s else none
  | none => none
def xstore (t nx i : Nat) (L st : List Value) (s : xS) : Option xA := match st with
  | v :: r => if xsort v = t ∧ i + (v.category - 1) < L.length then xgo nx (xput L i v) r s else none
  | _ => none
def xif (cd : ClassFile.Cond) (x y : Int32) (a b : Option xA) : Option xA := match cd with
  | .eq => if x = y then a else b
  | .ne => if x = y then b else a
  | .lt => if x < y then a else b
  | .ge => if x < y then b else a
  | .gt => if y < x then a else b
  | .le => if y < x then b else a
/-- a new array of a kind: 0 int, 1 char, 2 byte, 3 long, others references -/
def xzero (t n : Nat) : xC := if t < 3 then .inr (.inl (t, List.replicate n 0)) else if t = 3 then .inr (.inr (.inl (t, List.replicate n 0))) else .inr (.inr (.inr (t, List.replicate n none)))
def xlen : xC → Option Nat
  | .inl _ => none
  | .inr (.inl (_, l)) => some l.length
  | .inr (.inr (.inl (_, l))) => some l.length
  | .inr (.inr (.inr (_, l))) => some l.length
def xset (s : xS) (p : Nat) (c : xC) : xS := (s.1.set p c, s.2)
/-- a read of an array of ints, chars or bytes: one of the cells, or one that the start holds -/
def xald (t nx : Nat) (L st : List Value) (s : xS) : Option xA := match st with
  | .int i :: .ref p :: r => if i < 0 then none else match s.1[p]? with
    | some (.inr (.inl (t', l))) => if t' = t then (match l[i.toNatClampNeg]? with
      | some x => xgo nx L (.int x :: r) s
      | none => none) else none
    | some _ => none
    | none => (match xct p with
      | some (t', l) => if t' = t then (match l[i.toNatClampNeg]? with
        | some w => xgo nx L (w :: r) s
        | none => none) else none
      | none => none)
  | _ => none
def xnar (t : Nat) (x : Int32) : Int32 := if t = 1 then vp_nar .char x else if t = 2 then vp_nar .byte x else x
def xast (t nx : Nat) (L st : List Value) (s : xS) : Option xA := match st with
  | .int x :: .int i :: .ref p :: r => if i < 0 then none else match s.1[p]? with
    | some (.inr (.inl (t', l))) => if t' = t ∧ i.toNatClampNeg < l.length then xgo nx L r (xset s p (.inr (.inl (t, l.set i.toNatClampNeg (xnar t x))))) else none
    | _ => none
  | _ => none
/-- the class of the receiver: an object among the cells, or one that the start holds -/
def xrcv (k : Nat) (s : xS) : Value → Bool
  | .ref p => (match s.1[p]? with
    | some (.inl (c, _)) => c == k
    | some _ => false
    | none => xco p == some k)
  | _ => false
/-- what a receiver must be: 0 none asked, 1 of the method's class, 2 a reference -/
def xrq (vir a : Nat) (s : xS) (v : Value) : Bool := match vir with
  | 0 => true
  | 1 => xrcv (xmc a) s v
  | _ => (match v with
    | .ref _ => true
    | _ => false)
def xcall (vir : Nat) (nx a b : Nat) (L st : List Value) (s : xS) : Option xA :=
  if b ≤ st.length ∧ xcat (st.drop b) ≤ 8 ∧ xrq vir a s ((st.take b).reverse.headD .null) = true then some (.inr (.inl (a, (st.take b).reverse, nx, L, st.drop b, s))) else none
def xcopy (nx : Nat) (L st : List Value) (s : xS) : Option xA := match st with
  | .int n :: .int d :: .ref q :: .int b :: .ref p :: r => if n < 0 ∨ d < 0 ∨ b < 0 ∨ 8 < xcat r then none else match s.1[p]?, s.1[q]? with
    | some (.inr (.inl (t, f))), some (.inr (.inl (t', g))) => if t' = t ∧ b.toNatClampNeg + n.toNatClampNeg ≤ f.length ∧ d.toNatClampNeg + n.toNatClampNeg ≤ g.length then
        xgo nx L r (xset s q (.inr (.inl (t, g.take d.toNatClampNeg ++ ((f.drop b.toNatClampNeg).take n.toNatClampNeg ++ g.drop (d.toNatClampNeg + n.toNatClampNeg)))))) else none
    | _, _ => none
  | _ => none
def xfits (c k : Nat) (w : Value) : Bool := decide (narrow (xfty c k) w = w) && fits (xfty c k) w
/-- what an instruction does: goes on, calls, or ends. nx: where the next one stands; a, b, v: what the tables say of its operands -/
def xnext (m : Nat) (i : Instr) (nx a b : Nat) (v : Value) (L st : List Value) (s : xS) : Option xA := match i with
  | .iconst _ | .bipush _ | .sipush _ | .lconst _ | .aconst_null | .ldc _ | .ldc_w _ | .ldc2_w _ | .getstatic _ => xgo nx L (v :: st) s
  | .iload_n _ | .iload _ => xload 0 nx a L st s
  | .lload_n _ | .lload _ => xload 1 nx a L st s
  | .aload_n _ | .aload _ => xload 2 nx a L st s
  | .istore_n _ | .istore _ => xstore 0 nx a L st s
  | .lstore_n _ | .lstore _ => xstore 1 nx a L st s
  | .astore_n _ | .astore _ => xstore 2 nx a L st s
  | .iinc _ _ => (match L[a]?, v with
    | some (.int x), .int k => xgo nx (xput L a (.int (x + k))) st s
    | _, _ => none)
  | .iadd => x2i st fun x y r => xgo nx L (.int (x + y) :: r) s
  | .isub => x2i st fun x y r => xgo nx L (.int (x - y) :: r) s
  | .imul => x2i st fun x y r => xgo nx L (.int (x * y) :: r) s
  | .iand => x2i st fun x y r => xgo nx L (.int (x &&& y) :: r) s
  | .ior => x2i st fun x y r => xgo nx L (.int (x ||| y) :: r) s
  | .ishl => x2i st fun x y r => xgo nx L (.int (x <<< (y &&& 31)) :: r) s
  | .ishr => x2i st fun x y r => xgo nx L (.int (x >>> (y &&& 31)) :: r) s
  | .iushr => x2i st fun x y r => xgo nx L (.int ((x.toUInt32 >>> (y.toUInt32 &&& Int32.toUInt32 31)).toInt32) :: r) s
  | .idiv => x2i st fun x y r => if y = 0 then none else xgo nx L (.int (x / y) :: r) s
  | .irem => x2i st fun x y r => if y = 0 then none else xgo nx L (.int (x - x / y * y) :: r) s
  | .ineg => x1i st fun x r => xgo nx L (.int (-x) :: r) s
  | .i2l => x1i st fun x r => xgo nx L (.long x.toInt64 :: r) s
  | .i2b => x1i st fun x r => xgo nx L (.int x.toInt8.toInt32 :: r) s
  | .i2c => x1i st fun x r => xgo nx L (.int (x.toUInt32 % 65536).toInt32 :: r) s
  | .i2d => x1i st fun x r => xgo nx L (.double (FP.i2d x) :: r) s
  | .ladd => x2l st fun x y r => xgo nx L (.long (x + y) :: r) s
  | .lmul => x2l st fun x y r => xgo nx L (.long (x * y) :: r) s
  | .lcmp => x2l st fun x y r => xgo nx L (.int (lg_cmp x y) :: r) s
  | .ddiv => x2d st fun x y r => if FP.ddiv x y &&& 0x7fffffffffffffff ≤ 0x7ff0000000000000 then xgo nx L (.double (FP.ddiv x y) :: r) s else none
  | .dcmp op => x2d st fun x y r => xgo nx L (.int (Op.cmpValue (FP.dcmp x y) op) :: r) s
  | .dup => (match st with
    | w :: r => if w.category = 1 then xgo nx L (w :: w :: r) s else none
    | _ => none)
  | .dup_x1 => (match st with
    | w :: z :: r => if w.category = 1 ∧ z.category = 1 then xgo nx L (w :: z :: w :: r) s else none
    | _ => none)
  | .dup2 => (match st with
    | w :: z :: r => if w.category = 1 ∧ z.category = 1 then xgo nx L (w :: z :: w :: z :: r) s else none
    | _ => none)
  | .pop => (match st with
    | w :: r => if w.category = 1 then xgo nx L r s else none
    | _ => none)
  | .ifCond cd _ => x1i st fun x r => xif cd x 0 (xgo a L r s) (xgo nx L r s)
  | .if_icmp cd _ => x2i st fun x y r => xif cd x y (xgo a L r s) (xgo nx L r s)
  | .goto _ => xgo a L st s
  | .ifnonnull _ => (match st with
    | .ref _ :: r => xgo a L r s
    | _ => none)
  | .tableswitch _ lo hi _ => x1i st fun x r => (match (xsw m a).lookup x with
    | some t => xgo t L r s
    | none => if x.toInt < lo ∨ hi < x.toInt then xgo b L r s else none)
  | .lookupswitch _ _ => x1i st fun x r => (match (xsw m a).lookup x with
    | some t => xgo t L r s
    | none => xgo b L r s)
  | .getfield _ => (match st with
    | .ref p :: r => if a = 1000 then (match xcf p b with
        | some w => xgo nx L (w :: r) s
        | none => none) else (match s.1[p]? with
        | some (.inl (c, fs)) => if c = a then (match fs[b]? with
          | some w => xgo nx L (w :: r) s
          | none => none) else none
        | _ => none)
    | _ => none)
  | .putfield _ => (match st with
    | w :: .ref p :: r => (match s.1[p]? with
        | some (.inl (c, fs)) => if c = a ∧ b < fs.length ∧ xfits a b w = true then xgo nx L r (xset s p (.inl (a, fs.set b w))) else none
        | _ => none)
    | _ => none)
  | .iaload => xald 0 nx L st s
  | .caload => xald 1 nx L st s
  | .baload => xald 2 nx L st s
  | .iastore => xast 0 nx L st s
  | .castore => xast 1 nx L st s
  | .bastore => xast 2 nx L st s
  | .laload => (match st with
    | .int i :: .ref p :: r => if i < 0 then none else (match s.1[p]? with
      | some (.inr (.inr (.inl (_, l)))) => (match l[i.toNatClampNeg]? with
        | some x => xgo nx L (.long x :: r) s
        | none => none)
      | _ => none)
    | _ => none)
  | .lastore => (match st with
    | .long x :: .int i :: .ref p :: r => if i < 0 then none else (match s.1[p]? with
      | some (.inr (.inr (.inl (t, l)))) => if i.toNatClampNeg < l.length then xgo nx L r (xset s p (.inr (.inr (.inl (t, l.set i.toNatClampNeg x))))) else none
      | _ => none)
    | _ => none)
  | .aaload => (match st with
    | .int i :: .ref p :: r => if i < 0 then none else (match s.1[p]? with
      | some (.inr (.inr (.inr (_, l)))) => (match l[i.toNatClampNeg]? with
        | some w => xgo nx L (va_rf w :: r) s
        | none => none)
      | some _ => none
      | none => (match xct p with
        | some (t', l) => if 4 ≤ t' then (match l[i.toNatClampNeg]? with
          | some w => xgo nx L (w :: r) s
          | none => none) else none
        | none => none))
    | _ => none)
  | .aastore => (match st with
    | .ref w :: .int i :: .ref p :: r => if i < 0 then none else (match s.1[p]? with
      | some (.inr (.inr (.inr (t, l)))) => if t < 6 ∧ i.toNatClampNeg < l.length ∧ xrcv (xkc t) s (.ref w) = true then xgo nx L r (xset s p (.inr (.inr (.inr (t, l.set i.toNatClampNeg (some w)))))) else none
      | _ => none)
    | _ => none)
  | .arraylength => (match st with
    | .ref p :: r => (match s.1[p]? with
      | some c => (match xlen c with
        | some n => xgo nx L (.int (nI n) :: r) s
        | none => none)
      | none => (match xct p with
        | some (_, l) => xgo nx L (.int (nI l.length) :: r) s
        | none => none))
    | _ => none)
  | .new _ => if 2000 ≤ a then (if st = [] then some (.inr (.inr (.inr (xen (a - 2000)), s.1, s.2.1 + 1, s.2.2 + 6))) else none) else
      if s.1.length < xB then xgo nx L (.ref s.1.length :: st) (s.1 ++ [.inl (a, xdef a)], s.2.1 + 1, s.2.2 + (xdef a).length) else none
  | .newarray _ | .anewarray _ => x1i st fun n r => if n < 0 ∨ 100000 < n ∨ xB ≤ s.1.length then none else
      xgo nx L (.ref s.1.length :: r) (s.1 ++ [xzero a n.toNatClampNeg], s.2.1 + 1, s.2.2 + n.toNatClampNeg)
  | .multianewarray _ _ => x2i st fun n k r => if n < 0 ∨ 100000 < n ∨ k < 0 ∨ 100000 < k ∨ xB ≤ s.1.length + n.toNatClampNeg then none else
      xgo nx L (.ref s.1.length :: r) (s.1 ++ (.inr (.inr (.inr (b, (List.range n.toNatClampNeg).map (fun j => some (s.1.length + 1 + j))))) :: List.replicate n.toNatClampNeg (xzero a k.toNatClampNeg)), s.2.1 + 1 + n.toNatClampNeg, s.2.2 + n.toNatClampNeg + n.toNatClampNeg * k.toNatClampNeg)
  | .invokevirtual _ => xcall 1 nx a b L st s
  | .invokestatic _ => if a = 9000 then xcopy nx L st s
      else if a = 9001 then x2i st fun x y r => if 8 < xcat r then none else xgo nx L (.int (if y < x then y else x) :: r) s
      else if a = 9002 then x2i st fun x y r => if 8 < xcat r then none else xgo nx L (.int (if x < y then y else x) :: r) s
      else xcall 0 nx a b L st s
  | .invokespecial _ => if a = 9003 then (match st with
      | .ref _ :: r => if 8 < xcat r then none else xgo nx L r s
      | _ => none) else xcall (if xmc a = 5000 then 2 else 1) nx a b L st s
  | .ireturn => (match st with
    | [.int x] => (match (xm m).2.2.2.1 with
      | some ty => if narrow ty (.int x) = .int x then some (.inr (.inr (.inl (some (.int x)), s))) else none
      | none => none)
    | _ => none)
  | .lreturn => (match st with
    | [.long x] => some (.inr (.inr (.inl (some (.long x)), s)))
    | _ => none)
  | .dreturn => (match st with
    | [.double x] => some (.inr (.inr (.inl (some (.double x)), s)))
    | _ => none)
  | .areturn => (match st with
    | [.ref x] => some (.inr (.inr (.inl (some (.ref x)), s)))
    | _ => none)
  | .return_ => (match st with
    | [] => some (.inr (.inr (.inl none, s)))
    | _ => none)
  | _ => none
def xat (m : Nat) (g : xGo) : Option xA := match xc m g.1 with
  | some (i, nx, a, b, v) => xnext m i nx a b v g.2.1 g.2.2.1 g.2.2.2
  | none => none
/-- where a caller goes on behind a callee's end -/
def xcont (m pc : Nat) (K : xGo → Prop) (r : xR) (nx : Nat) (L rest : List Value) (q : xR) : Prop := match q with
  | (.inl (some w), s) => K (nx, L, w :: rest, s)
  | (.inl none, s) => K (nx, L, rest, s)
  | (.inr E, s) => (match xh m pc E with
    | some (nx', k) => k < L.length ∧ K (nx', xput L k xno, [], s)
    | none => r = (.inr E, s))
def xstep (C : Nat → List Value → xS → xR → Prop) (m pc : Nat) (K : xGo → Prop) (r : xR) (act : Option xA) : Prop := match act with
  | some (.inl g) => K g
  | some (.inr (.inl (a, args, nx, L, rest, s))) => ∃ q, C a args s q ∧ xcont m pc K r nx L rest q
  | some (.inr (.inr r0)) => r = r0
  | none => False
def xrun (C : Nat → List Value → xS → xR → Prop) (m : Nat) : Nat → xGo → xR → Prop
  | 0, _, _ => False
  | n + 1, g, r => xstep C m g.1 (fun g' => xrun C m n g' r) r (xat m g)
/-- the method m, called with args at s, comes to r; at most d calls are open at once -/
def xE : Nat → Nat → List Value → xS → xR → Prop
  | 0 => fun _ _ _ _ => False
  | d + 1 => fun m args s r => (xargs args).length ≤ (xm m).2.2.1 ∧ (∀ E, r.1 = .inr E → xmt m = true) ∧ ∃ n, xrun (xE d) m n (0, xentry args (xm m).2.2.1, [], s) r
def xX (C : Nat → List Value → xS → xR → Prop) (m : Nat) (g : xGo) (r : xR) : Prop := ∃ n, xrun C m n g r
theorem xcall_go {vir nx a b : Nat} {L st : List Value} {s : xS} {g : xGo} (h : xcall vir nx a b L st s = some (.inl g)) : False := by
  unfold xcall at h
  split at h <;> cases h
theorem xcall_end {vir nx a b : Nat} {L st : List Value} {s : xS} {r : xR} (h : xcall vir nx a b L st s = some (.inr (.inr r))) : False := by
  unfold xcall at h
  split at h <;> cases h
theorem xcall_in {vir nx a b a' nx' : Nat} {L st vs L' rest : List Value} {s s' : xS} (h : xcall vir nx a b L st s = some (.inr (.inl (a', vs, nx', L', rest, s')))) : b ≤ st.length ∧ xcat (st.drop b) ≤ 8 ∧ xrq vir a s ((st.take b).reverse.headD .null) = true ∧ a' = a ∧ vs = (st.take b).reverse ∧ nx' = nx ∧ L' = L ∧ rest = st.drop b ∧ s' = s := by
  unfold xcall at h
  split at h
  · rename_i hc
    cases h
    exact ⟨hc.1, hc.2.1, hc.2.2, rfl, rfl, rfl, rfl, rfl, rfl⟩
  · cases h
theorem xcont_mono {m pc : Nat} {K K' : xGo → Prop} (h : ∀ g, K g → K' g) {r : xR} {nx : Nat} {L rest : List Value} {q : xR} (hc : xcont m pc K r nx L rest q) : xcont m pc K' r nx L rest q := by
  obtain ⟨o, s⟩ := q
  cases o with
  | inl w => cases w with
    | none => exact h _ hc
    | some w => exact h _ hc
  | inr E =>
    simp only [xcont] at hc ⊢
    cases hx : xh m pc E with
    | none => rw [hx] at hc; exact hc
    | some z => rw [hx] at hc; exact ⟨hc.1, h _ hc.2⟩
theorem xX_step {C : Nat → List Value → xS → xR → Prop} {m : Nat} {g : xGo} {r : xR} : xX C m g r ↔ xstep C m g.1 (fun g' => xX C m g' r) r (xat m g) := by
  constructor
  · rintro ⟨n, hn⟩
    cases n with
    | zero => exact hn.elim
    | succ n =>
      simp only [xrun] at hn
      generalize xat m g = act at hn ⊢
      match act, hn with
      | some (.inl g'), hn => exact ⟨n, hn⟩
      | some (.inr (.inl (a, args, nx, L, rest, s))), hn =>
        obtain ⟨q, h1, h2⟩ := hn
        exact ⟨q, h1, xcont_mono (fun g' h => ⟨n, h⟩) h2⟩
      | some (.inr (.inr r0)), hn => exact hn
  · intro h
    have key : ∀ act, xat m g = act → xstep C m g.1 (fun g' => xX C m g' r) r act → ∃ n, xstep C m g.1 (fun g' => xrun C m n g' r) r act := by
      intro act _ h
      match act, h with
      | some (.inl g'), ⟨n, h⟩ => exact ⟨n, h⟩
      | some (.inr (.inl (a, args, nx, L, rest, s))), ⟨q, h1, h2⟩ =>
        obtain ⟨o, s'⟩ := q
        cases o with
        | inl w => cases w with
          | none => obtain ⟨n, h2⟩ := h2; exact ⟨n, _, h1, h2⟩
          | some w => obtain ⟨n, h2⟩ := h2; exact ⟨n, _, h1, h2⟩
        | inr E =>
          simp only [xcont] at h2
          cases hx : xh m g.1 E with
          | none => rw [hx] at h2; exact ⟨0, _, h1, by simp only [xcont, hx]; exact h2⟩
          | some z =>
            rw [hx] at h2
            obtain ⟨h3, n, h4⟩ := h2
            exact ⟨n, _, h1, by simp only [xcont, hx]; exact ⟨h3, h4⟩⟩
      | some (.inr (.inr r0)), h => exact ⟨0, h⟩
    obtain ⟨n, hn⟩ := key _ rfl h
    exact ⟨n + 1, hn⟩
theorem xE_succ {d m : Nat} {args : List Value} {s : xS} {r : xR} : xE (d + 1) m args s r ↔ (xargs args).length ≤ (xm m).2.2.1 ∧ (∀ E, r.1 = .inr E → xmt m = true) ∧ xX (xE d) m (0, xentry args (xm m).2.2.1, [], s) r := Iff.rfl
end
section
/-! WHAT THE INTERPRETER KEEPS: references name cells that are there, arrays hold what their kind holds, nothing is unmade. -/
abbrev xvok (n : Nat) (v : Value) : Prop := ∀ a, v = .ref a → a < n ∨ xB ≤ a
/-- the kinds of arrays: what they hold -/
def xkt (t : Nat) : FieldType := match t with
  | 0 => .int
  | 1 => .char
  | 2 => .byte
  | 3 => .long
  | 4 => .object RX4
  | 5 => .object RX1
  | 6 => .array .int
  | 7 => .array .long
  | _ => .object "java/lang/String"
def xcok (n : Nat) : xC → Prop
  | .inl (c, fs) => c < 1000 ∧ ∀ v ∈ fs, xvok n v
  | .inr (.inl (t, l)) => t < 3 ∧ ∀ x ∈ l, fits (xkt t) (.int x) = true
  | .inr (.inr (.inl (t, _))) => t = 3
  | .inr (.inr (.inr (t, l))) => 4 ≤ t ∧ t < 8 ∧ ∀ a, some a ∈ l → a < n ∨ xB ≤ a
def xsok (s : xS) : Prop := ∀ c ∈ s.1, xcok s.1.length c
def xlok (n : Nat) (L : List Value) : Prop := ∀ v ∈ L, xvok n v
def xgok (g : xGo) : Prop := xsok g.2.2.2 ∧ xlok g.2.2.2.1.length g.2.1 ∧ xlok g.2.2.2.1.length g.2.2.1
/-- later: nothing unmade -/
def xle (s s' : xS) : Prop := s.1.length ≤ s'.1.length ∧ s.2.1 ≤ s'.2.1 ∧ s.2.2 ≤ s'.2.2
def xrok (s : xS) (r : xR) : Prop := xsok r.2 ∧ xle s r.2 ∧ ∀ v, r.1 = .inl (some v) → xvok r.2.1.length v
theorem xle.rf (s : xS) : xle s s := ⟨Nat.le_refl _, Nat.le_refl _, Nat.le_refl _⟩
theorem xle.tr {a b c : xS} (h : xle a b) (k : xle b c) : xle a c := ⟨Nat.le_trans h.1 k.1, Nat.le_trans h.2.1 k.2.1, Nat.le_trans h.2.2 k.2.2⟩
theorem xvok.mono {n n' : Nat} (h : n ≤ n') {v : Value} (hv : xvok n v) : xvok n' v := fun a ha => (hv a ha).imp (fun q => Nat.lt_of_lt_of_le q h) id
theorem xlok.mono {n n' : Nat} (h : n ≤ n') {L : List Value} (hv : xlok n L) : xlok n' L := fun v hm => (hv v hm).mono h
theorem xcok.mono {n n' : Nat} (h : n ≤ n') {c : xC} (hc : xcok n c) : xcok n' c := by
  match c, hc with
  | .inl (_, fs), hc => exact ⟨hc.1, fun v hv => (hc.2 v hv).mono h⟩
  | .inr (.inl (t, l)), hc => exact hc
  | .inr (.inr (.inl (t, _))), hc => exact hc
  | .inr (.inr (.inr (t, l))), hc => exact ⟨hc.1, hc.2.1, fun a ha => (hc.2.2 a ha).imp (fun q => Nat.lt_of_lt_of_le q h) id⟩
theorem xvok.int (n : Nat) (x : Int32) : xvok n (.int x) := fun a h => by cases h
theorem xvok.long (n : Nat) (x : Int64) : xvok n (.long x) := fun a h => by cases h
theorem xvok.double (n : Nat) (x : UInt64) : xvok n (.double x) := fun a h => by cases h
theorem xvok.no (n : Nat) : xvok n xno := fun a h => by cases h
theorem xlok.nil (n : Nat) : xlok n [] := fun _ h => by cases h
theorem xlok.cons {n : Nat} {v : Value} {L : List Value} (h : xvok n v) (hL : xlok n L) : xlok n (v :: L) := fun w hw => by
  rcases List.mem_cons.mp hw with rfl | q
  · exact h
  · exact hL w q
theorem xlok.hd {n : Nat} {v : Value} {L : List Value} (h : xlok n (v :: L)) : xvok n v := h v List.mem_cons_self
theorem xlok.tl {n : Nat} {v : Value} {L : List Value} (h : xlok n (v :: L)) : xlok n L := fun w hw => h w (List.mem_cons_of_mem _ hw)
theorem xlok.clr {n : Nat} : ∀ {L : List Value}, xlok n L → xlok n (xclr L)
  | [], h => h
  | _ :: _, h => xlok.cons (xvok.no n) h.tl
theorem xlok.put {n : Nat} {v : Value} (hv : xvok n v) : ∀ {L : List Value} (i : Nat), xlok n L → xlok n (xput L i v)
  | [], _, h => by simpa [xput] using h
  | w :: L, 0, h => by
    simp only [xput]
    refine xlok.cons hv ?_
    split
    · exact h.tl.clr
    · exact h.tl
  | w :: L, 1, h => by
    simp only [xput]
    refine xlok.cons ?_ (xlok.put hv 0 h.tl)
    split
    · exact xvok.no n
    · exact h.hd
  | w :: L, i + 2, h => by
    simp only [xput]
    exact xlok.cons h.hd (xlok.put hv (i + 1) h.tl)
theorem xlok.drop {n k : Nat} {L : List Value} (h : xlok n L) : xlok n (L.drop k) := fun v hv => h v (List.mem_of_mem_drop hv)
theorem xlok.args {n k : Nat} {L : List Value} (h : xlok n L) : xlok n (L.take k).reverse := fun v hv => h v (List.mem_of_mem_take (List.mem_reverse.mp hv))
theorem xlok.at {n : Nat} {L : List Value} (h : xlok n L) {i : Nat} {v : Value} (hi : L[i]? = some v) : xvok n v := h v (List.mem_of_getElem? hi)
theorem xlok.xa {n : Nat} : ∀ {L : List Value}, xlok n L → xlok n (xargs L)
  | [], h => h
  | v :: L, h => by
    simp only [xargs]
    refine xlok.cons h.hd ?_
    split
    · exact xlok.cons (xvok.no n) (xlok.xa h.tl)
    · exact xlok.xa h.tl
theorem xlok.entry {n k : Nat} {L : List Value} (h : xlok n L) : xlok n (xentry L k) := fun v hv => by
  rcases List.mem_append.mp hv with q | q
  · exact xlok.xa h v q
  · rw [(List.mem_replicate.mp q).2]
    exact xvok.no n
/-- a cell is written -/
theorem xsok.set {s : xS} (h : xsok s) {p : Nat} {c : xC} (hc : xcok s.1.length c) : xsok (xset s p c) := by
  intro c' hc'
  show xcok (s.1.set p c).length c'
  rw [List.length_set]
  rcases List.mem_or_eq_of_mem_set hc' with q | q
  · exact h c' q
  · rw [q]; exact hc
theorem xle.set {s : xS} {p : Nat} {c : xC} : xle s (xset s p c) := ⟨Nat.le_of_eq List.length_set.symm, Nat.le_refl _, Nat.le_refl _⟩
theorem xlen_set {s : xS} {p : Nat} {c : xC} : (xset s p c).1.length = s.1.length := List.length_set
theorem xsok.at {s : xS} (h : xsok s) {p : Nat} {c : xC} (hp : s.1[p]? = some c) : xcok s.1.length c := h c (List.mem_of_getElem? hp)
/-- cells are made -/
theorem xsok.app {s : xS} (h : xsok s) {l : List xC} {k n : Nat} (hl : ∀ c ∈ l, xcok (s.1.length + l.length) c) : xsok (s.1 ++ l, k, n) := by
  intro c hc
  show xcok (s.1 ++ l).length c
  rw [List.length_append]
  rcases List.mem_append.mp hc with q | q
  · exact (h c q).mono (Nat.le_add_right _ _)
  · exact hl c q
/-- an action's own goodness -/
def xaok (s : xS) : xA → Prop
  | .inl g => xgok g ∧ xle s g.2.2.2
  | .inr (.inl (_, args, _, L, rest, s')) => s' = s ∧ xlok s.1.length args ∧ xlok s.1.length L ∧ xlok s.1.length rest
  | .inr (.inr r) => xrok s r
theorem xgo_ok {s : xS} {nx : Nat} {L st : List Value} {act : xA} (hs : xsok s) (hL : xlok s.1.length L) (hst : xlok s.1.length st) (h : xgo nx L st s = some act) : xaok s act := by
  cases h
  exact ⟨⟨hs, hL, hst⟩, xle.rf s⟩
theorem xgo_ok' {s s' : xS} {nx : Nat} {L st : List Value} {act : xA} (hs : xsok s') (hle : xle s s') (hL : xlok s'.1.length L) (hst : xlok s'.1.length st) (h : xgo nx L st s' = some act) : xaok s act := by
  cases h
  exact ⟨⟨hs, hL, hst⟩, hle⟩
theorem x1i_some {st : List Value} {f : Int32 → List Value → Option xA} {act : xA} (h : x1i st f = some act) : ∃ x r, st = .int x :: r ∧ f x r = some act := by
  unfold x1i at h
  split at h
  · exact ⟨_, _, rfl, h⟩
  · cases h
theorem x2i_some {st : List Value} {f : Int32 → Int32 → List Value → Option xA} {act : xA} (h : x2i st f = some act) : ∃ x y r, st = .int y :: .int x :: r ∧ f x y r = some act := by
  unfold x2i at h
  split at h
  · exact ⟨_, _, _, rfl, h⟩
  · cases h
theorem x2l_some {st : List Value} {f : Int64 → Int64 → List Value → Option xA} {act : xA} (h : x2l st f = some act) : ∃ x y r, st = .long y :: .long x :: r ∧ f x y r = some act := by
  unfold x2l at h
  split at h
  · exact ⟨_, _, _, rfl, h⟩
  · cases h
theorem x2d_some {st : List Value} {f : UInt64 → UInt64 → List Value → Option xA} {act : xA} (h : x2d st f = some act) : ∃ x y r, st = .double y :: .double x :: r ∧ f x y r = some act := by
  unfold x2d at h
  split at h
  · exact ⟨_, _, _, rfl, h⟩
  · cases h
theorem xif_some {cd : ClassFile.Cond} {x y : Int32} {a b : Option xA} {act : xA} (h : xif cd x y a b = some act) : a = some act ∨ b = some act := by
  unfold xif at h
  cases cd <;> simp only at h <;> split at h <;> first | exact Or.inl h | exact Or.inr h
theorem xload_ok {s : xS} {t nx i : Nat} {L st : List Value} {act : xA} (hs : xsok s) (hL : xlok s.1.length L) (hst : xlok s.1.length st) (h : xload t nx i L st s = some act) : xaok s act := by
  unfold xload at h
  split at h
  · rename_i v hv
    split at h
    · exact xgo_ok hs hL (xlok.cons (hL.at hv) hst) h
    · cases h
  · cases h
theorem xstore_ok {s : xS} {t nx i : Nat} {L st : List Value} {act : xA} (hs : xsok s) (hL : xlok s.1.length L) (hst : xlok s.1.length st) (h : xstore t nx i L st s = some act) : xaok s act := by
  unfold xstore at h
  split at h
  · split at h
    · exact xgo_ok hs (xlok.put hst.hd _ hL) hst.tl h
    · cases h
  · cases h
/-- the constant arrays hold good values -/
def xctok : Prop := ∀ p t l, xct p = some (t, l) → ∀ v ∈ l, xvok 0 v
theorem xald_ok (hct : xctok) {s : xS} {t nx : Nat} {L st : List Value} {act : xA} (hs : xsok s) (hL : xlok s.1.length L) (hst : xlok s.1.length st) (h : xald t nx L st s = some act) : xaok s act := by
  unfold xald at h
  split at h
  · split at h
    · cases h
    · split at h
      · split at h
        · split at h
          · exact xgo_ok hs hL (xlok.cons (xvok.int _ _) hst.tl.tl) h
          · cases h
        · cases h
      · cases h
      · split at h
        · rename_i t' l hl
          split at h
          · split at h
            · rename_i w hw
              exact xgo_ok hs hL (xlok.cons ((hct _ _ _ hl w (List.mem_of_getElem? hw)).mono (Nat.zero_le _)) hst.tl.tl) h
            · cases h
          · cases h
        · cases h
  · cases h
theorem xnar_fits {t : Nat} (ht : t < 3) (x : Int32) : fits (xkt t) (.int (xnar t x)) = true := by
  match t, ht with
  | 0, _ => rfl
  | 1, _ =>
    show fits .char (.int (vp_nar .char x)) = true
    have := pk_fc x
    exact this
  | 2, _ =>
    show fits .byte (.int (vp_nar .byte x)) = true
    exact pk_fb x
theorem xast_ok {s : xS} {t nx : Nat} {L st : List Value} {act : xA} (hs : xsok s) (hL : xlok s.1.length L) (hst : xlok s.1.length st) (h : xast t nx L st s = some act) : xaok s act := by
  unfold xast at h
  split at h
  · split at h
    · cases h
    · split at h
      · rename_i t' l hp
        split at h
        · rename_i hc
          obtain ⟨rfl, hi⟩ := hc
          have hcell := hs.at hp
          refine xgo_ok' (hs.set ?_) xle.set (by rw [xlen_set]; exact hL) (by rw [xlen_set]; exact hst.tl.tl.tl) h
          refine ⟨hcell.1, fun x hx => ?_⟩
          rcases List.mem_or_eq_of_mem_set hx with q | q
          · exact hcell.2 x q
          · rw [q]; exact xnar_fits hcell.1 _
        · cases h
      · cases h
  · cases h
theorem xcall_ok {vir : Nat} {s : xS} {nx a b : Nat} {L st : List Value} {act : xA} (hL : xlok s.1.length L) (hst : xlok s.1.length st) (h : xcall vir nx a b L st s = some act) : xaok s act := by
  unfold xcall at h
  split at h
  · cases h
    exact ⟨rfl, hst.args, hL, hst.drop⟩
  · cases h
theorem xcopy_ok {s : xS} {nx : Nat} {L st : List Value} {act : xA} (hs : xsok s) (hL : xlok s.1.length L) (hst : xlok s.1.length st) (h : xcopy nx L st s = some act) : xaok s act := by
  unfold xcopy at h
  split at h
  · split at h
    · cases h
    · split at h
      · rename_i t f t' g hp hq
        split at h
        · rename_i hc
          obtain ⟨rfl, h1, h2⟩ := hc
          refine xgo_ok' (hs.set ?_) xle.set (by rw [xlen_set]; exact hL) (by rw [xlen_set]; exact hst.tl.tl.tl.tl.tl) h
          refine ⟨(hs.at hp).1, fun x hx => ?_⟩
          rcases List.mem_append.mp hx with q | q
          · exact (hs.at hq).2 x (List.mem_of_mem_take q)
          · rcases List.mem_append.mp q with q | q
            · exact (hs.at hp).2 x (List.mem_of_mem_drop (List.mem_of_mem_take q))
            · exact (hs.at hq).2 x (List.mem_of_mem_drop q)
        · cases h
      · cases h
  · cases h
theorem xzero_ok {n t k : Nat} (ht : t < 8) : xcok n (xzero t k) := by
  unfold xzero
  split
  · rename_i h
    refine ⟨h, fun x hx => ?_⟩
    rw [(List.mem_replicate.mp hx).2]
    match t, h with
    | 0, _ => rfl
    | 1, _ => rfl
    | 2, _ => rfl
  · split
    · rename_i h; exact h
    · refine ⟨by omega, ht, fun a ha => ?_⟩
      have := (List.mem_replicate.mp ha).2
      cases this
end
section
/-- what the tables keep to -/
def xtok (i : Instr) (a b : Nat) (v : Value) : Prop := xvok 0 v ∧ match i with
  | .new _ => a < 1000 ∨ 2000 ≤ a
  | .newarray _ => a < 8
  | .anewarray _ => a < 8
  | .multianewarray _ _ => a < 8 ∧ 4 ≤ b ∧ b < 8
  | _ => True
def xtabs : Prop := (∀ m pc i nx a b v, xc m pc = some (i, nx, a, b, v) → xtok i a b v) ∧ xctok ∧ (∀ p b w, xcf p b = some w → xvok 0 w) ∧ ∀ a, ∀ v ∈ xdef a, xvok 0 v
theorem xnext_ok (hT : xtabs) {m : Nat} {i : Instr} {nx a b : Nat} {v : Value} (hi : xtok i a b v) {L st : List Value} {s : xS} {act : xA} (hs : xsok s) (hL : xlok s.1.length L) (hst : xlok s.1.length st) (h : xnext m i nx a b v L st s = some act) : xaok s act := by
  have hv : xvok s.1.length v := hi.1.mono (Nat.zero_le _)
  cases i
  case iconst => exact xgo_ok hs hL (xlok.cons hv hst) h
  case bipush => exact xgo_ok hs hL (xlok.cons hv hst) h
  case sipush => exact xgo_ok hs hL (xlok.cons hv hst) h
  case lconst => exact xgo_ok hs hL (xlok.cons hv hst) h
  case aconst_null => exact xgo_ok hs hL (xlok.cons hv hst) h
  case ldc => exact xgo_ok hs hL (xlok.cons hv hst) h
  case ldc_w => exact xgo_ok hs hL (xlok.cons hv hst) h
  case ldc2_w => exact xgo_ok hs hL (xlok.cons hv hst) h
  case getstatic => exact xgo_ok hs hL (xlok.cons hv hst) h
  case iload_n => exact xload_ok hs hL hst h
  case iload => exact xload_ok hs hL hst h
  case lload_n => exact xload_ok hs hL hst h
  case lload => exact xload_ok hs hL hst h
  case aload_n => exact xload_ok hs hL hst h
  case aload => exact xload_ok hs hL hst h
  case istore_n => exact xstore_ok hs hL hst h
  case istore => exact xstore_ok hs hL hst h
  case lstore_n => exact xstore_ok hs hL hst h
  case lstore => exact xstore_ok hs hL hst h
  case astore_n => exact xstore_ok hs hL hst h
  case astore => exact xstore_ok hs hL hst h
  case iinc =>
    simp only [xnext] at h
    split at h
    · exact xgo_ok hs (xlok.put (xvok.int _ _) _ hL) hst h
    · cases h
  case iadd => obtain ⟨x, y, r, rfl, h9⟩ := x2i_some h; exact xgo_ok hs hL (xlok.cons (xvok.int _ _) hst.tl.tl) h9
  case isub => obtain ⟨x, y, r, rfl, h9⟩ := x2i_some h; exact xgo_ok hs hL (xlok.cons (xvok.int _ _) hst.tl.tl) h9
  case imul => obtain ⟨x, y, r, rfl, h9⟩ := x2i_some h; exact xgo_ok hs hL (xlok.cons (xvok.int _ _) hst.tl.tl) h9
  case iand => obtain ⟨x, y, r, rfl, h9⟩ := x2i_some h; exact xgo_ok hs hL (xlok.cons (xvok.int _ _) hst.tl.tl) h9
  case ior => obtain ⟨x, y, r, rfl, h9⟩ := x2i_some h; exact xgo_ok hs hL (xlok.cons (xvok.int _ _) hst.tl.tl) h9
  case ishl => obtain ⟨x, y, r, rfl, h9⟩ := x2i_some h; exact xgo_ok hs hL (xlok.cons (xvok.int _ _) hst.tl.tl) h9
  case ishr => obtain ⟨x, y, r, rfl, h9⟩ := x2i_some h; exact xgo_ok hs hL (xlok.cons (xvok.int _ _) hst.tl.tl) h9
  case iushr => obtain ⟨x, y, r, rfl, h9⟩ := x2i_some h; exact xgo_ok hs hL (xlok.cons (xvok.int _ _) hst.tl.tl) h9
  case idiv =>
    obtain ⟨x, y, r, rfl, h9⟩ := x2i_some h
    split at h9
    · cases h9
    · exact xgo_ok hs hL (xlok.cons (xvok.int _ _) hst.tl.tl) h9
  case irem =>
    obtain ⟨x, y, r, rfl, h9⟩ := x2i_some h
    split at h9
    · cases h9
    · exact xgo_ok hs hL (xlok.cons (xvok.int _ _) hst.tl.tl) h9
  case ineg => obtain ⟨x, r, rfl, h9⟩ := x1i_some h; exact xgo_ok hs hL (xlok.cons (xvok.int _ _) hst.tl) h9
  case i2l => obtain ⟨x, r, rfl, h9⟩ := x1i_some h; exact xgo_ok hs hL (xlok.cons (xvok.long _ _) hst.tl) h9
  case i2b => obtain ⟨x, r, rfl, h9⟩ := x1i_some h; exact xgo_ok hs hL (xlok.cons (xvok.int _ _) hst.tl) h9
  case i2c => obtain ⟨x, r, rfl, h9⟩ := x1i_some h; exact xgo_ok hs hL (xlok.cons (xvok.int _ _) hst.tl) h9
  case i2d => obtain ⟨x, r, rfl, h9⟩ := x1i_some h; exact xgo_ok hs hL (xlok.cons (xvok.double _ _) hst.tl) h9
  case ladd => obtain ⟨x, y, r, rfl, h9⟩ := x2l_some h; exact xgo_ok hs hL (xlok.cons (xvok.long _ _) hst.tl.tl) h9
  case lmul => obtain ⟨x, y, r, rfl, h9⟩ := x2l_some h; exact xgo_ok hs hL (xlok.cons (xvok.long _ _) hst.tl.tl) h9
  case lcmp => obtain ⟨x, y, r, rfl, h9⟩ := x2l_some h; exact xgo_ok hs hL (xlok.cons (xvok.int _ _) hst.tl.tl) h9
  case ddiv =>
    obtain ⟨x, y, r, rfl, h9⟩ := x2d_some h
    split at h9
    · exact xgo_ok hs hL (xlok.cons (xvok.double _ _) hst.tl.tl) h9
    · cases h9
  case dcmp => obtain ⟨x, y, r, rfl, h9⟩ := x2d_some h; exact xgo_ok hs hL (xlok.cons (xvok.int _ _) hst.tl.tl) h9
  case dup =>
    simp only [xnext] at h
    split at h
    · split at h
      · exact xgo_ok hs hL (xlok.cons hst.hd hst) h
      · cases h
    · cases h
  case dup_x1 =>
    simp only [xnext] at h
    split at h
    · split at h
      · exact xgo_ok hs hL (xlok.cons hst.hd (xlok.cons hst.tl.hd (xlok.cons hst.hd hst.tl.tl))) h
      · cases h
    · cases h
  case dup2 =>
    simp only [xnext] at h
    split at h
    · split at h
      · exact xgo_ok hs hL (xlok.cons hst.hd (xlok.cons hst.tl.hd hst)) h
      · cases h
    · cases h
  case pop =>
    simp only [xnext] at h
    split at h
    · split at h
      · exact xgo_ok hs hL hst.tl h
      · cases h
    · cases h
  case ifCond =>
    obtain ⟨x, r, rfl, h9⟩ := x1i_some h
    rcases xif_some h with h9 | h9 <;> exact xgo_ok hs hL hst.tl h9
  case if_icmp =>
    obtain ⟨x, y, r, rfl, h9⟩ := x2i_some h
    rcases xif_some h with h9 | h9 <;> exact xgo_ok hs hL hst.tl.tl h9
  case goto => exact xgo_ok hs hL hst h
  case ifnonnull =>
    simp only [xnext] at h
    split at h
    · exact xgo_ok hs hL hst.tl h
    · cases h
  case tableswitch =>
    obtain ⟨x, r, rfl, h9⟩ := x1i_some h
    split at h9
    · exact xgo_ok hs hL hst.tl h9
    · split at h9
      · exact xgo_ok hs hL hst.tl h9
      · cases h9
  case lookupswitch =>
    obtain ⟨x, r, rfl, h9⟩ := x1i_some h
    split at h9
    · exact xgo_ok hs hL hst.tl h9
    · exact xgo_ok hs hL hst.tl h9
  case getfield =>
    simp only [xnext] at h
    split at h
    · split at h
      · split at h
        · rename_i w hw
          exact xgo_ok hs hL (xlok.cons ((hT.2.2.1 _ _ _ hw).mono (Nat.zero_le _)) hst.tl) h
        · cases h
      · split at h
        · rename_i c fs hp
          split at h
          · split at h
            · rename_i w hw
              exact xgo_ok hs hL (xlok.cons ((hs.at hp).2 w (List.mem_of_getElem? hw)) hst.tl) h
            · cases h
          · cases h
        · cases h
    · cases h
  case putfield =>
    simp only [xnext] at h
    split at h
    · split at h
      · rename_i c fs hp
        split at h
        · refine xgo_ok' (hs.set ?_) xle.set (by rw [xlen_set]; exact hL) (by rw [xlen_set]; exact hst.tl.tl) h
          rename_i hcd
          refine ⟨by rw [← hcd.1]; exact (hs.at hp).1, fun z hz => ?_⟩
          rcases List.mem_or_eq_of_mem_set hz with q | q
          · exact (hs.at hp).2 z q
          · rw [q]; exact hst.hd
        · cases h
      · cases h
    · cases h
  case iaload => exact xald_ok hT.2.1 hs hL hst h
  case caload => exact xald_ok hT.2.1 hs hL hst h
  case baload => exact xald_ok hT.2.1 hs hL hst h
  case iastore => exact xast_ok hs hL hst h
  case castore => exact xast_ok hs hL hst h
  case bastore => exact xast_ok hs hL hst h
  case laload =>
    simp only [xnext] at h
    split at h
    · split at h
      · cases h
      · split at h
        · split at h
          · exact xgo_ok hs hL (xlok.cons (xvok.long _ _) hst.tl.tl) h
          · cases h
        · cases h
    · cases h
  case lastore =>
    simp only [xnext] at h
    split at h
    · split at h
      · cases h
      · split at h
        · rename_i t l hp
          split at h
          · refine xgo_ok' (hs.set ?_) xle.set (by rw [xlen_set]; exact hL) (by rw [xlen_set]; exact hst.tl.tl.tl) h
            exact (show xcok s.1.length (.inr (.inr (.inl (t, l)))) from hs.at hp)
          · cases h
        · cases h
    · cases h
  case aaload =>
    simp only [xnext] at h
    split at h
    · split at h
      · cases h
      · split at h
        · rename_i t l hp
          split at h
          · rename_i w hw
            refine xgo_ok hs hL (xlok.cons ?_ hst.tl.tl) h
            intro q hq
            cases w with
            | none => cases hq
            | some w =>
              cases hq
              exact (hs.at hp).2.2 _ (List.mem_of_getElem? hw)
          · cases h
        · cases h
        · split at h
          · rename_i t' l hl
            split at h
            · split at h
              · rename_i w hw
                exact xgo_ok hs hL (xlok.cons ((hT.2.1 _ _ _ hl w (List.mem_of_getElem? hw)).mono (Nat.zero_le _)) hst.tl.tl) h
              · cases h
            · cases h
          · cases h
    · cases h
  case aastore =>
    simp only [xnext] at h
    split at h
    · split at h
      · cases h
      · split at h
        · rename_i w _ _ _ _ t l hp
          split at h
          · refine xgo_ok' (hs.set ?_) xle.set (by rw [xlen_set]; exact hL) (by rw [xlen_set]; exact hst.tl.tl.tl) h
            have hc := hs.at hp
            refine ⟨hc.1, hc.2.1, fun z hz => ?_⟩
            rcases List.mem_or_eq_of_mem_set hz with q | q
            · exact hc.2.2 z q
            · cases q; exact hst.hd _ rfl
          · cases h
        · cases h
    · cases h
  case arraylength =>
    simp only [xnext] at h
    split at h
    · split at h
      · split at h
        · exact xgo_ok hs hL (xlok.cons (xvok.int _ _) hst.tl) h
        · cases h
      · split at h
        · exact xgo_ok hs hL (xlok.cons (xvok.int _ _) hst.tl) h
        · cases h
    · cases h
  case new =>
    simp only [xnext] at h
    split at h
    · split at h
      · cases h
        exact ⟨hs, ⟨Nat.le_refl _, Nat.le_add_right _ _, Nat.le_add_right _ _⟩, fun _ q => by cases q⟩
      · cases h
    · split at h
      · refine xgo_ok' (hs.app (fun c hc => ?_)) ⟨?_, Nat.le_add_right _ _, Nat.le_add_right _ _⟩ ?_ ?_ h
        · rw [List.mem_singleton.mp hc]
          exact ⟨hi.2.resolve_right (by assumption), fun z hz => (hT.2.2.2 _ z hz).mono (Nat.zero_le _)⟩
        · simp
        · exact hL.mono (by simp)
        · refine xlok.cons (fun q hq => ?_) (hst.mono (by simp))
          cases hq
          left; simp
      · cases h
  case newarray =>
    obtain ⟨n, r, rfl, h9⟩ := x1i_some h
    split at h9
    · cases h9
    · refine xgo_ok' (hs.app (fun c hc => ?_)) ⟨?_, Nat.le_add_right _ _, Nat.le_add_right _ _⟩ ?_ ?_ h9
      · rw [List.mem_singleton.mp hc]
        exact xzero_ok hi.2
      · simp
      · exact hL.mono (by simp)
      · refine xlok.cons (fun q hq => ?_) (hst.tl.mono (by simp))
        cases hq
        left; simp
  case anewarray =>
    obtain ⟨n, r, rfl, h9⟩ := x1i_some h
    split at h9
    · cases h9
    · refine xgo_ok' (hs.app (fun c hc => ?_)) ⟨?_, Nat.le_add_right _ _, Nat.le_add_right _ _⟩ ?_ ?_ h9
      · rw [List.mem_singleton.mp hc]
        exact xzero_ok hi.2
      · simp
      · exact hL.mono (by simp)
      · refine xlok.cons (fun q hq => ?_) (hst.tl.mono (by simp))
        cases hq
        left; simp
  case multianewarray =>
    obtain ⟨n, k, r, rfl, h9⟩ := x2i_some h
    split at h9
    · cases h9
    · refine xgo_ok' (hs.app (fun c hc => ?_)) ⟨?_, ?_, ?_⟩ ?_ ?_ h9
      · rcases List.mem_cons.mp hc with rfl | hc
        · refine ⟨hi.2.2.1, hi.2.2.2, fun z hz => ?_⟩
          obtain ⟨j, hj, e⟩ := List.mem_map.mp hz
          cases e
          have := List.mem_range.mp hj
          left
          simp
          omega
        · rw [(List.mem_replicate.mp hc).2]
          exact xzero_ok hi.2.1
      · simp
      · simp only []; omega
      · simp only []; omega
      · exact hL.mono (by simp)
      · refine xlok.cons (fun q hq => ?_) (hst.tl.tl.mono (by simp))
        cases hq
        left; simp
  case invokevirtual => exact xcall_ok hL hst h
  case invokestatic =>
    simp only [xnext] at h
    split at h
    · exact xcopy_ok hs hL hst h
    · split at h
      · obtain ⟨x, y, r, rfl, h9⟩ := x2i_some h
        split at h9
        · cases h9
        · exact xgo_ok hs hL (xlok.cons (xvok.int _ _) hst.tl.tl) h9
      · split at h
        · obtain ⟨x, y, r, rfl, h9⟩ := x2i_some h
          split at h9
          · cases h9
          · exact xgo_ok hs hL (xlok.cons (xvok.int _ _) hst.tl.tl) h9
        · exact xcall_ok hL hst h
  case invokespecial =>
    simp only [xnext] at h
    split at h
    · split at h
      · split at h
        · cases h
        · exact xgo_ok hs hL hst.tl h
      · cases h
    · exact xcall_ok hL hst h
  case ireturn =>
    simp only [xnext] at h
    split at h
    · split at h
      · split at h
        · cases h
          exact ⟨hs, xle.rf s, fun _ q => by cases q; exact xvok.int _ _⟩
        · cases h
      · cases h
    · cases h
  case lreturn =>
    simp only [xnext] at h
    split at h
    · cases h
      exact ⟨hs, xle.rf s, fun _ q => by cases q; exact xvok.long _ _⟩
    · cases h
  case dreturn =>
    simp only [xnext] at h
    split at h
    · cases h
      exact ⟨hs, xle.rf s, fun _ q => by cases q; exact xvok.double _ _⟩
    · cases h
  case areturn =>
    simp only [xnext] at h
    split at h
    · cases h
      exact ⟨hs, xle.rf s, fun _ q => by cases q; exact hst.hd⟩
    · cases h
  case return_ =>
    simp only [xnext] at h
    split at h
    · cases h
      exact ⟨hs, xle.rf s, fun _ q => by cases q⟩
    · cases h
  all_goals exact absurd h (fun q => by cases q)
/-- a run keeps to it, if the callees do -/
def xEok (C : Nat → List Value → xS → xR → Prop) : Prop := ∀ m args s r, xsok s → xlok s.1.length args → C m args s r → xrok s r
theorem xrok.tr {s s' : xS} {r : xR} (h : xle s s') (hr : xrok s' r) : xrok s r := ⟨hr.1, h.tr hr.2.1, hr.2.2⟩
theorem xat_ok (hT : xtabs) {m : Nat} {g : xGo} {act : xA} (hg : xgok g) (h : xat m g = some act) : xaok g.2.2.2 act := by
  unfold xat at h
  split at h
  · rename_i i nx a b v hc
    exact xnext_ok hT (hT.1 _ _ _ _ _ _ _ hc) hg.1 hg.2.1 hg.2.2 h
  · cases h
theorem xrun_ok (hT : xtabs) {C : Nat → List Value → xS → xR → Prop} (hC : xEok C) {m : Nat} : ∀ (n : Nat) (g : xGo) (r : xR), xgok g → xrun C m n g r → xrok g.2.2.2 r
  | 0, _, _, _, h => h.elim
  | n + 1, g, r, hg, h => by
    simp only [xrun] at h
    cases hact : xat m g with
    | none => rw [hact] at h; exact h.elim
    | some act =>
      rw [hact] at h
      have ha := xat_ok hT hg hact
      match act, h, ha with
      | .inl g', h, ha => exact (xrun_ok hT hC n g' r ha.1 h).tr ha.2
      | .inr (.inl (a, args, nx, L, rest, s')), ⟨q, h1, h2⟩, ⟨e, k1, k2, k3⟩ =>
        subst e
        have hq := hC _ _ _ _ hg.1 k1 h1
        obtain ⟨o, s2⟩ := q
        have hle : g.2.2.2.1.length ≤ s2.1.length := hq.2.1.1
        cases o with
        | inl w => cases w with
          | none => exact (xrun_ok hT hC n _ r ⟨hq.1, k2.mono hle, k3.mono hle⟩ h2).tr hq.2.1
          | some w => exact (xrun_ok hT hC n _ r ⟨hq.1, k2.mono hle, xlok.cons (hq.2.2 w rfl) (k3.mono hle)⟩ h2).tr hq.2.1
        | inr E =>
          simp only [xcont] at h2
          cases hx : xh m g.1 E with
          | none =>
            rw [hx] at h2
            rw [h2]
            exact ⟨hq.1, hq.2.1, fun _ z => by cases z⟩
          | some z =>
            rw [hx] at h2
            exact (xrun_ok hT hC n _ r ⟨hq.1, (k2.mono hle).put (xvok.no _) _, xlok.nil _⟩ h2.2).tr hq.2.1
      | .inr (.inr r0), h, ha =>
        have e : r = r0 := h
        rw [e]; exact ha
theorem xE_ok (hT : xtabs) : ∀ d, xEok (xE d)
  | 0 => fun _ _ _ _ _ _ h => h.elim
  | d + 1 => fun m args s r hs ha ⟨_, _, n, h⟩ => xrun_ok hT (xE_ok hT d) n _ r ⟨hs, ha.entry, xlok.nil _⟩ h
end
section
/-! THE INTERPRETER'S WORLD IN THE MACHINE'S HEAP: the cell number k lies at the address ρ k. -/
def x_v (ρ : Nat → Nat) : Value → Value
  | .ref k => .ref (ρ k)
  | v => v
def x_c (cA : Nat → ClassId) (ρ : Nat → Nat) : xC → va_E
  | .inl (c, fs) => .inr (c, fs.map (x_v ρ))
  | .inr (.inl (t, l)) => .inl (cA t, l.length, .inl (fun j => l.getD j 0))
  | .inr (.inr (.inl (t, l))) => .inl (cA t, l.length, .inr (.inl (fun j => l.getD j 0)))
  | .inr (.inr (.inr (t, l))) => .inl (cA t, l.length, .inr (.inr (.inr (.inr (fun j => (l.getD j none).map ρ)))))
abbrev x_ws (cA : Nat → ClassId) (ρ : Nat → Nat) (h : xH) : va_W := h.mapIdx (fun i c => (ρ i, x_c cA ρ c))
/-- the array classes by their kinds -/
abbrev xtys (cA : Nat → ClassId) : List (ClassId × FieldType) := (List.range 8).map (fun t => (cA t, xkt t))
/-- two numberings say the same of n cells, and of those that the start holds -/
def x_ag (n : Nat) (ρ ρ' : Nat → Nat) : Prop := ∀ a, a < n ∨ xB ≤ a → ρ' a = ρ a
theorem x_ag.rf {n : Nat} {ρ : Nat → Nat} : x_ag n ρ ρ := fun _ _ => rfl
theorem x_ag.tr {n n' : Nat} {ρ ρ' ρ'' : Nat → Nat} (hn : n ≤ n') (h : x_ag n ρ ρ') (k : x_ag n' ρ' ρ'') : x_ag n ρ ρ'' := fun a ha => (k a (ha.imp (fun q => Nat.lt_of_lt_of_le q hn) id)).trans (h a ha)
theorem x_v_cat {ρ : Nat → Nat} (v : Value) : (x_v ρ v).category = v.category := by cases v <;> rfl
theorem x_v_no {ρ : Nat → Nat} (v : Value) : x_v ρ v = xno ↔ v = xno := by cases v <;> simp [x_v]
theorem x_v_ag {n : Nat} {ρ ρ' : Nat → Nat} (h : x_ag n ρ ρ') {v : Value} (hv : xvok n v) : x_v ρ' v = x_v ρ v := by
  cases v <;> try rfl
  rename_i a
  exact congrArg Value.ref (h a (hv a rfl))
theorem x_l_ag {n : Nat} {ρ ρ' : Nat → Nat} (h : x_ag n ρ ρ') {L : List Value} (hL : xlok n L) : L.map (x_v ρ') = L.map (x_v ρ) := List.map_congr_left fun v hv => x_v_ag h (hL v hv)
theorem x_c_ag {n : Nat} {cA : Nat → ClassId} {ρ ρ' : Nat → Nat} (h : x_ag n ρ ρ') {c : xC} (hc : xcok n c) : x_c cA ρ' c = x_c cA ρ c := by
  match c, hc with
  | .inl (k, fs), hc => exact congrArg (fun l => Sum.inr (k, l)) (x_l_ag h hc.2)
  | .inr (.inl (t, l)), _ => rfl
  | .inr (.inr (.inl (t, l))), _ => rfl
  | .inr (.inr (.inr (t, l))), hc =>
    show Sum.inl (cA t, l.length, Sum.inr (Sum.inr (Sum.inr (Sum.inr _)))) = _
    refine congrArg (fun f => Sum.inl (cA t, l.length, Sum.inr (Sum.inr (Sum.inr (Sum.inr f))))) (funext fun j => ?_)
    rw [List.getD_eq_getElem?_getD]
    cases hj : l[j]? with
    | none => rfl
    | some w =>
      cases w with
      | none => rfl
      | some a => exact congrArg some (h a (hc.2.2 a (List.mem_of_getElem? hj)))
theorem x_ws_at {cA : Nat → ClassId} {ρ : Nat → Nat} {h : xH} {p : Nat} {c : xC} (hp : h[p]? = some c) : (x_ws cA ρ h)[p]? = some (ρ p, x_c cA ρ c) := by
  rw [List.getElem?_mapIdx, hp]; rfl
theorem x_ws_set {cA : Nat → ClassId} {ρ : Nat → Nat} {h : xH} {p : Nat} {c : xC} : (x_ws cA ρ h).set p (ρ p, x_c cA ρ c) = x_ws cA ρ (h.set p c) := by
  refine List.ext_getElem? fun i => ?_
  simp only [List.getElem?_set, List.getElem?_mapIdx, List.length_mapIdx]
  by_cases hi : p = i
  · subst hi
    by_cases hl : p < h.length <;> simp [hl]
  · simp [hi]
theorem x_ws_ag {n : Nat} {cA : Nat → ClassId} {ρ ρ' : Nat → Nat} (hg : x_ag n ρ ρ') {h : xH} (hn : h.length ≤ n) (hc : ∀ c ∈ h, xcok n c) : x_ws cA ρ' h = x_ws cA ρ h := by
  refine List.ext_getElem? fun i => ?_
  simp only [List.getElem?_mapIdx]
  cases hi : h[i]? with
  | none => rfl
  | some c =>
    have hl : i < h.length := (List.getElem?_eq_some_iff.mp hi).1
    show some (ρ' i, x_c cA ρ' c) = some (ρ i, x_c cA ρ c)
    rw [hg i (Or.inl (Nat.lt_of_lt_of_le hl hn)), x_c_ag hg (hc c (List.mem_of_getElem? hi))]
/-- a new cell's number -/
def x_up (ρ : Nat → Nat) (n q : Nat) : Nat → Nat := fun a => if a = n then q else ρ a
theorem x_up_ag {ρ : Nat → Nat} {n q : Nat} (hn : n < xB) : x_ag n ρ (x_up ρ n q) := fun a ha => by
  unfold x_up
  rw [if_neg]
  rintro rfl
  omega
theorem x_up_self {ρ : Nat → Nat} {n q : Nat} : x_up ρ n q n = q := if_pos rfl
theorem x_ws_app {cA : Nat → ClassId} {ρ : Nat → Nat} {s : xS} (hs : xsok s) (hn : s.1.length < xB) {q : Nat} {c : xC} : x_ws cA (x_up ρ s.1.length q) (s.1 ++ [c]) = x_ws cA ρ s.1 ++ [(q, x_c cA (x_up ρ s.1.length q) c)] := by
  unfold x_ws
  rw [List.mapIdx_append]
  congr 1
  · exact x_ws_ag (x_up_ag hn) (Nat.le_refl _) hs
  · simp [x_up_self]
/-- the locals -/
def xpr : Nat → List Value → List (Nat × Value)
  | _, [] => []
  | k, v :: L => if v = xno then xpr (k + 1) L else (k, v) :: xpr (k + 1) L
theorem xpr_iff : ∀ (L : List Value) (k j : Nat) (w : Value), (j, w) ∈ xpr k L ↔ k ≤ j ∧ L[j - k]? = some w ∧ w ≠ xno
  | [], k, j, w => by simp [xpr]
  | v :: L, k, j, w => by
    have ih := xpr_iff L (k + 1) j w
    by_cases hj : j = k
    · subst hj
      by_cases hv : v = xno
      · simp only [xpr, if_pos hv, ih]
        simp [hv]
        constructor
        · intro h; omega
        · intro h; exact absurd h.1.symm h.2
      · simp only [xpr, if_neg hv, List.mem_cons, ih]
        simp
        constructor
        · rintro (h | h)
          · exact ⟨h.symm, by rw [h]; exact hv⟩
          · omega
        · intro h; exact Or.inl h.1.symm
    · have hd : k ≤ j → (v :: L)[j - k]? = L[j - (k + 1)]? := fun h => by
        obtain ⟨i, rfl⟩ : ∃ i, j = k + 1 + i := ⟨j - (k + 1), by omega⟩
        rw [show k + 1 + i - k = i + 1 by omega, show k + 1 + i - (k + 1) = i by omega]
        rfl
      have key : (j, w) ∈ xpr k (v :: L) ↔ (j, w) ∈ xpr (k + 1) L := by
        by_cases hv : v = xno
        · simp only [xpr, if_pos hv]
        · simp only [xpr, if_neg hv, List.mem_cons, Prod.mk.injEq]
          constructor
          · rintro (h | h)
            · exact absurd h.1 hj
            · exact h
          · exact Or.inr
      rw [key, ih]
      constructor
      · rintro ⟨h1, h2, h3⟩
        exact ⟨by omega, by rw [hd (by omega)]; exact h2, h3⟩
      · rintro ⟨h1, h2, h3⟩
        exact ⟨by omega, by rw [← hd h1]; exact h2, h3⟩
def x_L (ls : Array Slot) (nL : Nat) (M : List Value) : Prop := M.length = nL ∧ lv_has ls nL (xpr 0 M)
theorem x_L.at {ls : Array Slot} {nL : Nat} {M : List Value} (h : x_L ls nL M) {i : Nat} {v : Value} (hi : M[i]? = some v) (hv : v ≠ xno) : ls[i]? = some (.val v) := h.2.2.2 (i, v) ((xpr_iff M 0 i v).mpr ⟨Nat.zero_le _, hi, hv⟩)
theorem xclr_get : ∀ {L : List Value} {j : Nat} {w : Value}, (xclr L)[j]? = some w → w ≠ xno → L[j]? = some w ∧ j ≠ 0
  | [], _, _, h, _ => by simp [xclr] at h
  | _ :: L, 0, w, h, hw => absurd (by simpa [xclr] using h.symm) hw
  | _ :: L, j + 1, w, h, _ => ⟨by simpa [xclr] using h, by omega⟩
theorem xput_get (v : Value) : ∀ (L : List Value) (i j : Nat) (w : Value), (xput L i v)[j]? = some w → w ≠ xno → (j = i ∧ w = v) ∨ (L[j]? = some w ∧ j ≠ i ∧ ¬ (j + 1 = i ∧ w.category = 2) ∧ ¬ (j = i + 1 ∧ v.category = 2))
  | [], i, j, w, h, _ => by simp [xput] at h
  | z :: L, 0, 0, w, h, _ => by
    simp only [xput, List.getElem?_cons_zero] at h
    exact Or.inl ⟨rfl, (Option.some.inj h).symm⟩
  | z :: L, 0, j + 1, w, h, hw => by
    simp only [xput, List.getElem?_cons_succ] at h
    right
    by_cases hc : v.category = 2
    · rw [if_pos hc] at h
      obtain ⟨h1, h2⟩ := xclr_get h hw
      exact ⟨by simpa using h1, by omega, by omega, by omega⟩
    · rw [if_neg hc] at h
      exact ⟨by simpa using h, by omega, by omega, fun q => hc q.2⟩
  | z :: L, 1, 0, w, h, hw => by
    simp only [xput, List.getElem?_cons_zero] at h
    by_cases hc : z.category = 2
    · rw [if_pos hc] at h
      exact absurd (Option.some.inj h).symm hw
    · rw [if_neg hc] at h
      have e := Option.some.inj h
      subst e
      exact Or.inr ⟨by simp, by omega, fun q => hc q.2, by omega⟩
  | z :: L, 1, j + 1, w, h, hw => by
    simp only [xput, List.getElem?_cons_succ] at h
    rcases xput_get v L 0 j w h hw with ⟨h1, h2⟩ | ⟨h1, h2, h3, h4⟩
    · exact Or.inl ⟨by omega, h2⟩
    · exact Or.inr ⟨by simpa using h1, by omega, by omega, fun q => h4 ⟨by omega, q.2⟩⟩
  | z :: L, i + 2, 0, w, h, hw => by
    simp only [xput, List.getElem?_cons_zero] at h
    have e := Option.some.inj h
    subst e
    exact Or.inr ⟨by simp, by omega, by omega, by omega⟩
  | z :: L, i + 2, j + 1, w, h, hw => by
    simp only [xput, List.getElem?_cons_succ] at h
    rcases xput_get v L (i + 1) j w h hw with ⟨h1, h2⟩ | ⟨h1, h2, h3, h4⟩
    · exact Or.inl ⟨by omega, h2⟩
    · exact Or.inr ⟨by simpa using h1, by omega, fun q => h3 ⟨by omega, q.2⟩, fun q => h4 ⟨by omega, q.2⟩⟩
theorem xclr_len : ∀ L : List Value, (xclr L).length = L.length
  | [] => rfl
  | _ :: _ => rfl
theorem xput_len (v : Value) : ∀ (L : List Value) (i : Nat), (xput L i v).length = L.length
  | [], _ => by simp [xput]
  | z :: L, 0 => by simp only [xput]; split <;> simp [xclr_len]
  | z :: L, 1 => by simp [xput, xput_len v L 0]
  | z :: L, i + 2 => by simp [xput, xput_len v L (i + 1)]
theorem xclr_map (ρ : Nat → Nat) : ∀ L : List Value, xclr (L.map (x_v ρ)) = (xclr L).map (x_v ρ)
  | [] => rfl
  | _ :: _ => rfl
theorem xput_map (ρ : Nat → Nat) (v : Value) : ∀ (L : List Value) (i : Nat), xput (L.map (x_v ρ)) i (x_v ρ v) = (xput L i v).map (x_v ρ)
  | [], _ => by simp [xput]
  | z :: L, 0 => by simp only [xput, List.map_cons, x_v_cat]; split <;> simp [xclr_map]
  | z :: L, 1 => by
    simp only [xput, List.map_cons, x_v_cat, xput_map ρ v L 0]
    split <;> simp [x_v]
  | z :: L, i + 2 => by simp only [xput, List.map_cons, xput_map ρ v L (i + 1)]
theorem x_L.of1 {ls' : Array Slot} {nL i : Nat} {v : Value} {M : List Value} (hM : M.length = nL) (hc : v.category = 1) (h : lv_has ls' nL ((i, v) :: (xpr 0 M).filter (fun q => !(q.1 == i) && !(q.1 + 1 == i && q.2.category == 2)))) : x_L ls' nL (xput M i v) := by
  refine ⟨(xput_len v M i).trans hM, h.1, h.2.1, fun q hq => ?_⟩
  obtain ⟨j, w⟩ := q
  obtain ⟨-, h1, h2⟩ := (xpr_iff _ _ _ _).mp hq
  rcases xput_get v M i j w h1 h2 with ⟨rfl, rfl⟩ | ⟨k1, k2, k3, -⟩
  · exact h.2.2 _ List.mem_cons_self
  · refine h.2.2 _ (List.mem_cons_of_mem _ (List.mem_filter.mpr ⟨(xpr_iff _ _ _ _).mpr ⟨Nat.zero_le _, k1, h2⟩, ?_⟩))
    simp only [Bool.and_eq_true, Bool.not_eq_true', beq_eq_false_iff_ne, ne_eq, Bool.and_eq_false_imp, beq_iff_eq]
    exact ⟨k2, fun q1 => fun q2 => k3 ⟨q1, q2⟩⟩
theorem x_L.of2 {ls' : Array Slot} {nL i : Nat} {v : Value} {M : List Value} (hM : M.length = nL) (hc : v.category = 2) (h : lv_has ls' nL ((i, v) :: (xpr 0 M).filter (fun q => !(q.1 == i) && (!(q.1 == i + 1) && !(q.1 + 1 == i && q.2.category == 2))))) : x_L ls' nL (xput M i v) := by
  refine ⟨(xput_len v M i).trans hM, h.1, h.2.1, fun q hq => ?_⟩
  obtain ⟨j, w⟩ := q
  obtain ⟨-, h1, h2⟩ := (xpr_iff _ _ _ _).mp hq
  rcases xput_get v M i j w h1 h2 with ⟨rfl, rfl⟩ | ⟨k1, k2, k3, k4⟩
  · exact h.2.2 _ List.mem_cons_self
  · refine h.2.2 _ (List.mem_cons_of_mem _ (List.mem_filter.mpr ⟨(xpr_iff _ _ _ _).mpr ⟨Nat.zero_le _, k1, h2⟩, ?_⟩))
    simp only [Bool.and_eq_true, Bool.not_eq_true', beq_eq_false_iff_ne, ne_eq, Bool.and_eq_false_imp, beq_iff_eq]
    exact ⟨k2, fun q => k4 ⟨q, hc⟩, fun q1 => fun q2 => k3 ⟨q1, q2⟩⟩
theorem xargs_map (ρ : Nat → Nat) : ∀ L : List Value, xargs (L.map (x_v ρ)) = (xargs L).map (x_v ρ)
  | [] => rfl
  | v :: L => by
    simp only [xargs, List.map_cons, x_v_cat, xargs_map ρ L]
    split <;> simp [x_v]
theorem xentry_map (ρ : Nat → Nat) (L : List Value) (n : Nat) : xentry (L.map (x_v ρ)) n = (xentry L n).map (x_v ρ) := by
  simp [xentry, xargs_map, x_v]
theorem xargs_len : ∀ L : List Value, (xargs L).length = (lg_sl L).length
  | [] => rfl
  | v :: L => by
    have ih := xargs_len L
    simp only [xargs, lg_sl, List.flatMap_cons, List.length_append] at ih ⊢
    split <;> simp only [List.length_cons, List.length_nil] <;> omega
theorem xargs_get : ∀ (L : List Value) (k j : Nat) (w : Value), (xargs L)[j]? = some w → w ≠ xno → (k + j, w) ∈ lv_args k L
  | [], _, _, _, h, _ => by simp [xargs] at h
  | v :: L, k, 0, w, h, _ => by
    simp only [xargs, List.getElem?_cons_zero] at h
    rw [← Option.some.inj h]
    simp [lv_args]
  | v :: L, k, j + 1, w, h, hw => by
    simp only [xargs, List.getElem?_cons_succ] at h
    simp only [lv_args, List.mem_cons]
    right
    by_cases hc : v.category = 2
    · rw [if_pos hc] at h ⊢
      cases j with
      | zero => exact absurd (by simpa using h.symm) hw
      | succ j =>
        rw [List.getElem?_cons_succ] at h
        have := xargs_get L (k + 2) j w h hw
        rwa [show k + 2 + j = k + (j + 1 + 1) by omega] at this
    · rw [if_neg hc] at h ⊢
      have := xargs_get L (k + 1) j w h hw
      rwa [show k + 1 + j = k + (j + 1) by omega] at this
theorem x_L.entry {vs : List Value} {n : Nat} (h : (xargs vs).length ≤ n) : x_L ((lg_sl vs ++ List.replicate (n - (lg_sl vs).length) Slot.unset).toArray) n (xentry vs n) := by
  have h' : (lg_sl vs).length ≤ n := by rw [← xargs_len]; exact h
  have q := lv_entry vs h'
  refine ⟨by simp [xentry]; omega, q.1, q.2.1, fun z hz => ?_⟩
  obtain ⟨j, w⟩ := z
  obtain ⟨-, h1, h2⟩ := (xpr_iff _ _ _ _).mp hz
  refine q.2.2 _ ?_
  have h3 : (xargs vs)[j]? = some w := by
    simp only [xentry, Nat.sub_zero, List.getElem?_append] at h1
    split at h1
    · exact h1
    · rw [List.getElem?_replicate] at h1
      split at h1
      · exact absurd (Option.some.inj h1).symm h2
      · cases h1
  have := xargs_get vs 0 j w h3 h2
  rwa [Nat.zero_add] at this
end
section
/-! WHAT THE START HOLDS: statics, constant objects and arrays, texts; words that are no words of the tables. They stay through every call. -/
/-- THE SCRIPT, the law's own array: its number, its length and its ints as the numbering sA tells them. -/
abbrev xSp : Nat := 2000000
def xS32 (n : Nat) : Int32 := (UInt32.ofNat n).toInt32
def xscr (sA : Nat → Nat) : List Int32 := (List.range (sA (xSp + 1))).map (fun j => xS32 (sA (xSp + 2 + j)))
def x_sc (A : Nat → Prop) (sA : Nat → Nat) (U : State) : Prop := va_T .int (sA xSp) (sA (xSp + 1)) (fun j => .int (xS32 (sA (xSp + 2 + j)))) A U U.heap
def x_CF (A : Nat → Prop) (sA : Nat → Nat) (U : State) : Prop :=
  (∀ q ∈ xzs, va_Z q.1 q.2.1 q.2.2.1 (x_v sA q.2.2.2) A U U.heap) ∧
  (∀ q ∈ xobs, va_O q.2 (sA q.1) A U U.heap) ∧
  (∀ q ∈ xofs, va_OF q.2.1 q.2.2.1 q.2.2.2.1 (x_v sA q.2.2.2.2) (sA q.1) A U U.heap) ∧
  (∀ q ∈ xars, va_T q.2.1 (sA q.1) q.2.2.length (fun j => x_v sA (q.2.2.getD j .null)) A U U.heap) ∧
  (∀ q ∈ xsts, vk_R q.1 q.2.1 q.2.2.1 (sA q.2.2.2) U) ∧
  (∀ q ∈ xnfs, va_Nw (.fieldLinkNest q.1 q.2.1 q.2.2.1 q.2.2.2.1 q.2.2.2.2.1 q.2.2.2.2.2) U) ∧
  (∀ q ∈ xnms, va_Nw (.methodLinkNest q.1 q.2.1 q.2.2.1 q.2.2.2) U) ∧
  (∀ q ∈ xaos, va_AO q U) ∧ (∀ q ∈ xaas, va_AOA q U) ∧
  vx_Zq Bundle.tN "UNASSIGNED_STACK" Bundle.steD A U U.heap ∧ vx_Zq Bundle.tN "SUPPRESSED_SENTINEL" Bundle.listD A U U.heap ∧ (∀ q, U.heap.size ≤ q → A q) ∧
  (∀ q ∈ xcas, va_Nw (.castable q.1 q.2) U) ∧ (∀ q ∈ xdes, va_Nw (.declares q) U) ∧ (∀ q ∈ xncs, va_Nc q.1 q.2 U) ∧ x_sc A sA U
theorem x_aoS {args : Array Value} {s : State} {t : FieldType} (h : (Cond.arrayOver (.array t)).before args s = true) :
    ∃ comp c k, s.vm.findClass (FieldType.array t).toString = some comp ∧ (s.vm.classes.findIdx? fun (x : Class) => match x.kind with | .array component _ => component == comp | _ => false) = some c ∧ s.vm.classes[c]? = some k ∧ k.kind = .array comp (.array t) ∧ s.vm.findClass ("[" ++ (FieldType.array t).toString) = some c := by
  simp only [Cond.before, Cond.holds, Cond.value, beq_iff_eq] at h
  cases hc : s.vm.findClass (FieldType.array t).toString with
  | none => simp [hc] at h
  | some comp =>
    simp only [hc, Option.bind_some, Option.bind_eq_some_iff, Option.map_eq_some_iff] at h
    obtain ⟨c, hi, k, hk, hb⟩ := h
    obtain ⟨hlt, hp, -⟩ := Array.findIdx?_eq_some_iff_getElem.mp hi
    have hkk : s.vm.classes[c] = k := (Array.getElem?_eq_some_iff.mp hk).2
    rw [hkk] at hp
    cases hkind : k.kind with
    | array component ty =>
      rw [hkind] at hb hp
      simp at hb hp
      exact ⟨comp, c, k, rfl, hi, hk, by rw [hkind, hp, hb.1], hb.2⟩
    | _ => rw [hkind] at hb; simp at hb
theorem va_AOA.moved {ty : FieldType} {u U : State} (hvm : u.vm.Alike U.vm) (h : va_AOA ty u) : va_AOA ty U := by
  obtain ⟨comp, c, k, h1, h2, h3, h4, h5⟩ := x_aoS h
  obtain ⟨k', hk', he⟩ := hvm.2.2 _ _ h3
  have hi : (U.vm.classes.findIdx? fun (x : Class) => match x.kind with | .array component _ => component == comp | _ => false) = some c := by
    rw [hvm.findIdx_congr _ (fun _ _ _ _ => rfl)]
    exact h2
  have hkind : k'.kind = .array comp (.array ty) := by rw [he]; exact h4
  have f1 : U.vm.findClass (FieldType.array ty).toString = some comp := by rw [hvm.findClass]; exact h1
  have f2 : U.vm.findClass ("[" ++ (FieldType.array ty).toString) = some c := by rw [hvm.findClass]; exact h5
  unfold va_AOA Cond.before Cond.holds
  simp only [Cond.value]
  rw [f1, Option.bind_some]
  refine (congrArg (fun o : Option Nat => (o.bind (fun c => (U.vm.classes[c]?).map fun (k : Class) => match k.kind with | .array _ ty' => decide (ty' = FieldType.array ty) && decide (U.vm.findClass ("[" ++ (FieldType.array ty).toString) = some c) | _ => false) == some true)) hi).trans ?_
  simp [hk', hkind, f2]
theorem x_CF.moved {A : Nat → Prop} {sA : Nat → Nat} {s U : State} (h : x_CF A sA s) (hW : s.WarmedH U.vm) (hz : s.heap.size ≤ U.heap.size) (hk : ∀ q : Nat, q < s.heap.size → ¬ A q → U.heap[q]? = s.heap[q]?) : x_CF A sA U := by
  have hvm := hW.alike
  obtain ⟨h1, h2, h3, h4, h5, h6, h7, h8, h9, h10, h11, h12, h13, h14, h15, h16⟩ := h
  exact ⟨fun q hq => va_Z.moved hvm ((h1 q hq).kept hk), fun q hq => va_O.moved hvm ((h2 q hq).kept hk), fun q hq => va_OF.moved hvm ((h3 q hq).kept hk), fun q hq => va_T.moved hvm ((h4 q hq).kept hk),
    fun q hq => vk_R.warm hW (h5 q hq), fun q hq => va_Nw.warmF hW (h6 q hq), fun q hq => va_Nw.warmM hW (h7 q hq), fun q hq => va_AO.moved hvm (h8 q hq), fun q hq => va_AOA.moved hvm (h9 q hq),
    vx_Zq.moved hvm (h10.kept hk), vx_Zq.moved hvm (h11.kept hk), fun q hq => h12 q (Nat.le_trans hz hq), fun q hq => va_Nw.warmC hW (h13 q hq), fun q hq => va_Nw.warmD hW (h14 q hq), fun q hq => va_Nc.moved hvm (h15 q hq), va_T.moved hvm (h16.kept hk)⟩
/-- the words that every method is given: those of the tables that stay -/
def xWA : List Cond := lw_tbl.filter goodWord
theorem xWA_good {l : List Cond} (h : ∀ w ∈ l, w ∈ xWA) : GoodIn xWA l := fun w hw => ⟨h w hw, good_of_word (List.mem_filter.mp (h w hw)).2⟩
/-- where a method's standing facts are collected: the machine, the code, the words, the constants -/
def x_F (A : Nat → Prop) (D : va_G) (cA : Nat → ClassId) (sA : Nat → Nat) (M : Nat) (p : Program) (s : State) (m : MethodId) (args : Array Value) (meth : Method) (c : Code) : Prop :=
  p.tables.exec = Jvm.exec ∧ c.code = (xm M).2.1 ∧ c.maxLocals = (xm M).2.2.1 ∧ s.vm.findClass (xm M).1.cls = some m.cls ∧ meth.name = (xm M).1.name ∧ meth.sig.returnType = (xm M).2.2.2.1 ∧ meth.locks = false ∧
  (∀ w ∈ xWA, w.before args s = true) ∧ va_K D vwCl (xtys cA) s ∧ x_CF A sA s ∧ c.exceptionTable.toList = tableOf (xm M).2.2.2.2
/-- how the machine stands: the world in the heap, the locals -/
def x_at (A : Nat → Prop) (D : va_G) (cA : Nat → ClassId) (sA : Nat → Nat) (ρ : Nat → Nat) (M : Nat) (s : State) (H : Heap) (locs : List Loc) (ls : Array Slot) (L : List Value) (σ : xS) : Prop :=
  va_P D vwCl (x_ws cA ρ σ.1) H ∧ va_D A (x_ws cA ρ σ.1) ∧ va_S A s.heap H locs ∧ x_L ls (xm M).2.2.1 (L.map (x_v ρ)) ∧ ∀ a, xB ≤ a → ρ a = sA a
end
section
/-! WHAT THE TABLES MUST SAY OF AN INSTRUCTION (each checked by the kernel, in the parts behind the tables). -/
/-- a class of the pool: its fields, their words and types -/
def xcl (ci : Nat) (C : String) (T : u_T) (N : Nat) : Prop := vwCl[ci]? = some (C, T, N) ∧ (∀ w ∈ u_ws C T N, w ∈ xWA) ∧ (∀ k, k < N → parseFieldDescriptor (T k).2.2.1 = some (xfty ci k)) ∧ (∀ a, a < N → ∀ b, b < N → a ≠ b → (T a).2.1 ≠ (T b).2.1)
/-- a field's entry in a class file's pool -/
def xlk (own : String) (k : Nat) (r n d : String) : Prop := Cond.fieldLink own k r n d ∈ xWA ∨ ∃ host, (own, k, r, n, d, host) ∈ xnfs
/-- one-byte instructions without an operand of their own -/
def xone (M pc : Nat) (i : Instr) (nx : Nat) : Prop := decode (xm M).2.1 pc = .ok (i, 1) ∧ nx = pc + 1
/-- a throw: new, dup, the text, the constructor, athrow -/
def xthr (M pc k : Nat) (E : String) : Prop := (xm M).2.2.2.2 = [] ∧ ∃ (is ic sa : Nat) (text : String) (names : List String), Bundle.fit E = true ∧ (∀ n ∈ names, Bundle.fit n = true) ∧ Cond.classLink (xm M).1.cls k E ∈ xWA ∧ Cond.initialized E ∈ xWA ∧ ((xm M).1.cls, is, text, sa) ∈ xsts ∧
  (∀ w ∈ vx_atS (xm M).1.cls ic E names, w ∈ xWA ∨ (∃ C T, w = .castable C T ∧ (C, T) ∈ xcas) ∨ ∃ y, w = .declares y ∧ y ∈ xdes) ∧ names.length ≤ 8 ∧ decode (xm M).2.1 pc = .ok (.new k, 3) ∧ decode (xm M).2.1 (pc + 3) = .ok (.dup, 1) ∧
  ((decode (xm M).2.1 (pc + 4) = .ok (.ldc is, 2) ∧ decode (xm M).2.1 (pc + 6) = .ok (.invokespecial ic, 3) ∧ decode (xm M).2.1 (pc + 9) = .ok (.athrow, 1)) ∨
   (decode (xm M).2.1 (pc + 4) = .ok (.ldc_w is, 3) ∧ decode (xm M).2.1 (pc + 7) = .ok (.invokespecial ic, 3) ∧ decode (xm M).2.1 (pc + 10) = .ok (.athrow, 1)))
/-- a method's first word -/
def x_hd (a : Nat) : Cond := if (xm a).2.2.2.2 = [] then .code (xm a).1 (xm a).2.1 (xm a).2.2.1 (xm a).2.2.2.1 else .codeWith (xm a).1 (xm a).2.1 (xm a).2.2.1 (xm a).2.2.2.1 (xm a).2.2.2.2
def xgen (a n : Nat) : Prop := (xm a).1.cls ≠ "java/lang/invoke/MethodHandle" ∧ (xm a).1.cls ≠ "java/lang/invoke/VarHandle" ∧ (parseMethodDescriptor (xm a).1.desc).map (fun d => d.parameters.length) = some n
def xcaS (M k a b : Nat) : Prop := (xm a).2.2.1 ≤ 40 ∧ x_hd a ∈ xWA ∧ xgen a b ∧ Cond.static (xm a).1 ∈ xWA ∧ Cond.initialized (xm a).1.cls ∈ xWA ∧
  (Cond.methodLink (xm M).1.cls k (xm a).1 ∈ xWA ∨ ((xm a).2.2.2.2 = [] ∧ xmt a = false ∧ ∃ host, ((xm M).1.cls, k, (xm a).1, host) ∈ xnms))
def xrcl (k : Nat) (C : String) : Prop := (k < 1000 → ∃ T N, vwCl[k]? = some (C, T, N)) ∧ (1000 ≤ k → xcn k = C)
def xcaV (M k a b : Nat) : Prop := (xm a).2.2.1 ≤ 40 ∧ x_hd a ∈ xWA ∧ (xm a).2.2.2.2 = [] ∧ ∃ n C, b = n + 1 ∧ xrcl (xmc a) C ∧
  ((xgen a n ∧ (xm a).1.cls = C ∧ ∀ w ∈ wsV (xm M).1.cls k C (xm a).1 [], w ∈ xWA) ∨
   (xgen a n ∧ xmt a = false ∧ Cond.initialized (xm a).1.cls ∈ xWA ∧ Cond.instanceMethod (xm a).1 ∈ xWA ∧ Cond.selects C (xm a).1 (xm a).1 ∈ xWA ∧ ∃ host, ((xm M).1.cls, k, (xm a).1, host) ∈ xnms) ∨
   (xmt a = false ∧ ∃ owner x, (xm a).1 = ⟨owner, x.name, x.desc⟩ ∧ owner ≠ "java/lang/invoke/MethodHandle" ∧ owner ≠ "java/lang/invoke/VarHandle" ∧ (parseMethodDescriptor x.desc).map (fun d => d.parameters.length) = some n ∧ ∀ w ∈ va_wsU (xm M).1.cls k C owner x (xm a).1 [], w ∈ xWA))
def xcaI (M k a b : Nat) : Prop := (xm a).2.2.1 ≤ 40 ∧ x_hd a ∈ xWA ∧ (xm a).2.2.2.2 = [] ∧ xmt a = false ∧ ∃ n, b = n + 1 ∧
  (((xm a).1.name = "<init>" ∧ (xm a).2.2.2.1 = none ∧ xmc a = 5000 ∧ xgen a n ∧ Cond.methodLink (xm M).1.cls k (xm a).1 ∈ xWA ∧ Cond.instanceMethod (xm a).1 ∈ xWA ∧ Cond.initialized (xm a).1.cls ∈ xWA) ∨
   (xmc a ≠ 5000 ∧ (xm a).1.name ≠ "<init>" ∧ (parseMethodDescriptor (xm a).1.desc).map (fun d => d.parameters.length) = some n ∧ ∃ C N, xrcl (xmc a) C ∧ Cond.instantiable C N ∈ xWA ∧ ∀ w ∈ va_wsSU (xm M).1.cls k (xm a).1 [], w ∈ xWA))
def xok (M pc : Nat) (i : Instr) (nx a b : Nat) (v : Value) : Prop := match i with
  | .iconst n => xone M pc i nx ∧ v = .int (Int32.ofInt n)
  | .bipush n => decode (xm M).2.1 pc = .ok (i, 2) ∧ nx = pc + 2 ∧ v = .int (Int8.ofInt n).toInt32
  | .sipush n => decode (xm M).2.1 pc = .ok (i, 3) ∧ nx = pc + 3 ∧ v = .int (Int16.ofInt n).toInt32
  | .lconst n => xone M pc i nx ∧ v = .long (Int64.ofNat (n : Nat))
  | .aconst_null => xone M pc i nx ∧ v = .null
  | .ldc k => decode (xm M).2.1 pc = .ok (i, 2) ∧ nx = pc + 2 ∧ ((∃ c, v = .int c ∧ Cond.constant (xm M).1.cls k c ∈ xWA) ∨ ∃ tx p, v = .ref p ∧ xB ≤ p ∧ ((xm M).1.cls, k, tx, p) ∈ xsts)
  | .ldc_w k => decode (xm M).2.1 pc = .ok (i, 3) ∧ nx = pc + 3 ∧ ∃ c, v = .int c ∧ Cond.constant (xm M).1.cls k c ∈ xWA
  | .ldc2_w k => decode (xm M).2.1 pc = .ok (i, 3) ∧ nx = pc + 3 ∧ ((∃ c, v = .long c ∧ Cond.constantLong (xm M).1.cls k c ∈ xWA) ∨ ∃ c, v = .double c ∧ Cond.constantDouble (xm M).1.cls k c ∈ xWA)
  | .getstatic k => decode (xm M).2.1 pc = .ok (i, 3) ∧ nx = pc + 3 ∧ (∀ q, v = .ref q → xB ≤ q) ∧ ∃ C n d, (C, n, d, v) ∈ xzs ∧ xlk (xm M).1.cls k C n d
  | .iload_n k => xone M pc i nx ∧ a = (k : Nat)
  | .lload_n k => xone M pc i nx ∧ a = (k : Nat)
  | .aload_n k => xone M pc i nx ∧ a = (k : Nat)
  | .istore_n k => xone M pc i nx ∧ a = (k : Nat)
  | .lstore_n k => xone M pc i nx ∧ a = (k : Nat)
  | .astore_n k => xone M pc i nx ∧ a = (k : Nat)
  | .iload k => decode (xm M).2.1 pc = .ok (i, 2) ∧ nx = pc + 2 ∧ a = k
  | .lload k => decode (xm M).2.1 pc = .ok (i, 2) ∧ nx = pc + 2 ∧ a = k
  | .aload k => decode (xm M).2.1 pc = .ok (i, 2) ∧ nx = pc + 2 ∧ a = k
  | .istore k => decode (xm M).2.1 pc = .ok (i, 2) ∧ nx = pc + 2 ∧ a = k
  | .lstore k => decode (xm M).2.1 pc = .ok (i, 2) ∧ nx = pc + 2 ∧ a = k
  | .astore k => decode (xm M).2.1 pc = .ok (i, 2) ∧ nx = pc + 2 ∧ a = k
  | .iinc k n => decode (xm M).2.1 pc = .ok (i, 3) ∧ nx = pc + 3 ∧ a = k ∧ v = .int (Int32.ofInt n)
  | .ifCond _ off => decode (xm M).2.1 pc = .ok (i, 3) ∧ nx = pc + 3 ∧ (pc : Int) + off = (a : Int)
  | .if_icmp _ off => decode (xm M).2.1 pc = .ok (i, 3) ∧ nx = pc + 3 ∧ (pc : Int) + off = (a : Int)
  | .goto off => decode (xm M).2.1 pc = .ok (i, 3) ∧ (pc : Int) + off = (a : Int)
  | .ifnonnull off => decode (xm M).2.1 pc = .ok (i, 3) ∧ (pc : Int) + off = (a : Int)
  | .tableswitch d lo hi offs => (∃ len, decode (xm M).2.1 pc = .ok (i, len)) ∧ (pc : Int) + d = (b : Int) ∧ ∀ q ∈ xsw M a, ¬ q.1.toInt < lo ∧ ¬ hi < q.1.toInt ∧ ∃ off, offs[(q.1.toInt - lo).toNat]? = some off ∧ (pc : Int) + off = (q.2 : Int)
  | .lookupswitch d ps => (∃ len, decode (xm M).2.1 pc = .ok (i, len)) ∧ (pc : Int) + d = (b : Int) ∧ (ps.toList.zip (ps.toList.drop 1)).all (fun (a, next) => a.1 < next.1) = true ∧ ps.toList.map (fun q => (q.1, (pc : Int) + q.2)) = (xsw M a).map (fun q => (q.1.toInt, (q.2 : Int)))
  | .getfield k => decode (xm M).2.1 pc = .ok (i, 3) ∧ nx = pc + 3 ∧
      ((a = 1000 ∧ ∃ o n d, xlk (xm M).1.cls k o n d ∧ ∀ p w, xcf p b = some w → xB ≤ p ∧ (∀ q, w = .ref q → xB ≤ q) ∧ (p, o, n, d, w) ∈ xofs) ∨
       (a ≠ 1000 ∧ ∃ C T N, xcl a C T N ∧ b < N ∧ xlk (xm M).1.cls k (T b).1 (T b).2.1 (T b).2.2.1))
  | .putfield k => decode (xm M).2.1 pc = .ok (i, 3) ∧ nx = pc + 3 ∧ ∃ C T N, xcl a C T N ∧ b < N ∧
      (((T b).2.2.2 = false ∧ xlk (xm M).1.cls k (T b).1 (T b).2.1 (T b).2.2.1) ∨ ((T b).2.2.2 = true ∧ (xm M).1.name = "<init>" ∧ (T b).1 = (xm M).1.cls ∧ Cond.fieldLink (xm M).1.cls k (T b).1 (T b).2.1 (T b).2.2.1 ∈ xWA))
  | .newarray at_ => decode (xm M).2.1 pc = .ok (i, 2) ∧ nx = pc + 2 ∧ a < 4 ∧ newarray.typeOf at_ = xkt a ∧ Cond.arrayClass (newarray.typeOf at_) ∈ xWA
  | .anewarray k => decode (xm M).2.1 pc = .ok (i, 3) ∧ nx = pc + 3 ∧ (a = 4 ∨ a = 5) ∧ ∃ C, xkt a = .object C ∧ Cond.classLink (xm M).1.cls k C ∈ xWA ∧ C ∈ xaos
  | .multianewarray k n => decode (xm M).2.1 pc = .ok (i, 4) ∧ n = 2 ∧ nx = pc + 4 ∧ ((a = 0 ∧ b = 6) ∨ (a = 3 ∧ b = 7)) ∧ Cond.classLink (xm M).1.cls k ("[" ++ (FieldType.array (xkt a)).toString) ∈ xWA ∧ Cond.arrayClass (xkt a) ∈ xWA ∧ xkt a ∈ xaas
  | .new k => (2000 ≤ a → xthr M pc k (xen (a - 2000))) ∧ (a < 2000 → decode (xm M).2.1 pc = .ok (i, 3) ∧ nx = pc + 3 ∧ ∃ C T N, xcl a C T N ∧ (xdef a).length = N ∧ (∀ j, j < N → defaultValue (xfty a j) = vp_V (xdef a) j) ∧ (∀ v ∈ xdef a, ∀ q, v ≠ .ref q) ∧ Cond.classLink (xm M).1.cls k C ∈ xWA ∧ Cond.instantiable C N ∈ xWA ∧ Cond.initialized C ∈ xWA)
  | .invokestatic k => decode (xm M).2.1 pc = .ok (i, 3) ∧ nx = pc + 3 ∧
      (a = 9000 → Cond.methodLink (xm M).1.cls k arraycopyName ∈ xWA ∧ Cond.native arraycopyName ∈ xWA ∧ Cond.static arraycopyName ∈ xWA ∧ Cond.initialized "java/lang/System" ∈ xWA) ∧
      (a = 9001 → Cond.methodLink (xm M).1.cls k Lib.Math.min.name ∈ xWA ∧ Cond.static Lib.Math.min.name ∈ xWA ∧ Cond.initialized "java/lang/Math" ∈ xWA ∧ Cond.code Lib.Math.min.name Lib.Math.min.code 2 (some .int) ∈ xWA) ∧
      (a = 9002 → Cond.methodLink (xm M).1.cls k Lib.Math.max.name ∈ xWA ∧ Cond.static Lib.Math.max.name ∈ xWA ∧ Cond.initialized "java/lang/Math" ∈ xWA ∧ Cond.code Lib.Math.max.name Lib.Math.max.code 2 (some .int) ∈ xWA) ∧ (a ≠ 9000 → a ≠ 9001 → a ≠ 9002 → xcaS M k a b)
  | .invokespecial k => decode (xm M).2.1 pc = .ok (i, 3) ∧ nx = pc + 3 ∧
      (a = 9003 → Cond.methodLink (xm M).1.cls k objectInit ∈ xWA ∧ Cond.instanceMethod objectInit ∈ xWA ∧ Cond.code objectInit ⟨#[0xb1]⟩ 1 none ∈ xWA) ∧ (a ≠ 9003 → xcaI M k a b)
  | .invokevirtual k => decode (xm M).2.1 pc = .ok (i, 3) ∧ nx = pc + 3 ∧ xcaV M k a b
  | .lreturn => xone M pc i nx ∧ (xm M).2.2.2.1 = some .long
  | .dreturn => xone M pc i nx ∧ (xm M).2.2.2.1 = some .double
  | .areturn => xone M pc i nx ∧ ∃ rt, (xm M).2.2.2.1 = some rt ∧ ((∃ n, rt = .object n) ∨ ∃ t, rt = .array t)
  | .ireturn => xone M pc i nx
  | .return_ => decode (xm M).2.1 pc = .ok (i, 1) ∧ (xm M).2.2.2.1 = none
  | _ => xone M pc i nx
end
section
/-! AN INSTRUCTION OF THE INTERPRETER IS ONE OF THE MACHINE: stack, locals, numbers, jumps. -/
section STEP1
variable {p : Program} {l : Launch} {e : Env} {R : Room} {s : State} {m : MethodId} {args : Array Value} {below : List Frame} {meth : Method} {c : Code} {H : Heap} {locs : List Loc} {cells slots : Nat} {Q : State → Prop}
variable {A : Nat → Prop} {D : va_G} {cA : Nat → ClassId} {sA ρ : Nat → Nat} {M : Nat} {ls : Array Slot} {L st : List Value} {σ : xS} {pc nx a b : Nat} {v : Value}
/-- what is owed behind a step: the machine goes on as the interpreter does -/
def x_K (A : Nat → Prop) (D : va_G) (cA : Nat → ClassId) (sA ρ : Nat → Nat) (M : Nat) (p : Program) (l : Launch) (e : Env) (R : Room) (s : State) (m : MethodId) (args : Array Value) (below : List Frame) (meth : Method) (c : Code) (cells slots : Nat) (Q : State → Prop) (σ : xS) (g : xGo) : Prop :=
  ∀ (ρ' : Nat → Nat) (ls' : Array Slot) (H' : Heap) (locs' : List Loc) (cells' slots' : Nat), x_ag σ.1.length ρ ρ' → cells' + σ.2.1 = cells + g.2.2.2.2.1 → slots' + σ.2.2 = slots + g.2.2.2.2.2 → x_at A D cA sA ρ' M s H' locs' ls' g.2.1 g.2.2.2 →
    W p l e R s m args below meth c H' locs' cells' slots' Q (F0 m g.1 ls' (g.2.2.1.map (x_v ρ')))
theorem x_K.same {g : xGo} (hk : x_K A D cA sA ρ M p l e R s m args below meth c cells slots Q σ g) (hs : g.2.2.2 = σ) (hat : x_at A D cA sA ρ M s H locs ls g.2.1 σ) : W p l e R s m args below meth c H locs cells slots Q (F0 m g.1 ls (g.2.2.1.map (x_v ρ))) :=
  hk ρ ls H locs cells slots x_ag.rf (by rw [hs]) (by rw [hs]) (by rw [hs]; exact hat)
theorem xone_of {i : Instr} (h : xone M pc i nx) : nx = pc + 1 := h.2
theorem x_cats (r : List Value) : ((r.map (x_v ρ)).map fun v => v.category).sum = xcat r := by
  induction r with
  | nil => rfl
  | cons v r ih => simp only [List.map_cons, List.sum_cons, ih, xcat, x_v_cat]
theorem x_load (F : x_F A D cA sA M p s m args meth c) (hat : x_at A D cA sA ρ M s H locs ls L σ) {i t : Nat} {w : Value} (hw : L[i]? = some w) (ht : xsort w = t) (h6 : t ≠ 6) : ls[i]? = some (.val (x_v ρ w)) := by
  refine hat.2.2.2.1.at (i := i) (v := x_v ρ w) (by rw [List.getElem?_map, hw]; rfl) (fun q => ?_)
  rw [x_v_no] at q
  rw [q] at ht
  exact h6 ht.symm
theorem x_put1 (hat : x_at A D cA sA ρ M s H locs ls L σ) {i : Nat} {w : Value} {ls' : Array Slot} (hc : w.category = 1) (h : lv_has ls' (xm M).2.2.1 ((i, x_v ρ w) :: (xpr 0 (L.map (x_v ρ))).filter (fun q => !(q.1 == i) && !(q.1 + 1 == i && q.2.category == 2)))) : x_at A D cA sA ρ M s H locs ls' (xput L i w) σ := by
  have h2 := x_L.of1 hat.2.2.2.1.1 (by rw [x_v_cat]; exact hc) h
  rw [xput_map] at h2
  exact ⟨hat.1, hat.2.1, hat.2.2.1, h2, hat.2.2.2.2⟩
theorem x_put2 (hat : x_at A D cA sA ρ M s H locs ls L σ) {i : Nat} {w : Value} {ls' : Array Slot} (hc : w.category = 2) (h : lv_has ls' (xm M).2.2.1 ((i, x_v ρ w) :: (xpr 0 (L.map (x_v ρ))).filter (fun q => !(q.1 == i) && (!(q.1 == i + 1) && !(q.1 + 1 == i && q.2.category == 2))))) : x_at A D cA sA ρ M s H locs ls' (xput L i w) σ := by
  have h2 := x_L.of2 hat.2.2.2.1.1 (by rw [x_v_cat]; exact hc) h
  rw [xput_map] at h2
  exact ⟨hat.1, hat.2.1, hat.2.2.1, h2, hat.2.2.2.2⟩
theorem x_len (hat : x_at A D cA sA ρ M s H locs ls L σ) : L.length = (xm M).2.2.1 := by
  have := hat.2.2.2.1.1
  rwa [List.length_map] at this
/-- two ways on -/
theorem x_if {cd : ClassFile.Cond} {x y : Int32} {a b : Option xA} {g : xGo} (h : xif cd x y a b = some (.inl g)) : (Op.if_icmp.holds cd x y = true ∧ a = some (.inl g)) ∨ (Op.if_icmp.holds cd x y = false ∧ b = some (.inl g)) := by
  unfold xif at h
  cases cd <;> simp only [Op.if_icmp.holds] at h ⊢ <;> split at h <;> rename_i q
  · exact Or.inl ⟨by simpa using q, h⟩
  · exact Or.inr ⟨by simpa using q, h⟩
  · exact Or.inr ⟨by simpa using q, h⟩
  · exact Or.inl ⟨by simpa using q, h⟩
  · exact Or.inl ⟨by simpa using q, h⟩
  · exact Or.inr ⟨by simpa using q, h⟩
  · exact Or.inr ⟨by simpa using q, h⟩
  · exact Or.inl ⟨by simpa using q, h⟩
  · exact Or.inl ⟨by simpa using q, h⟩
  · exact Or.inr ⟨by simpa using q, h⟩
  · exact Or.inr ⟨by simpa using q, h⟩
  · exact Or.inl ⟨by simpa using q, h⟩
theorem x_ifW {cc : ByteArray} {rest : List Value} (hexec : p.tables.exec = Jvm.exec) (hb : c.code = cc) {cd : ClassFile.Cond} {x : Int32} {off : Int} {tgt : Nat} (hdg : decode cc pc = .ok (.ifCond cd off, 3)) (ht : (pc : Int) + off = (tgt : Int))
    (kt : Op.if_icmp.holds cd x 0 = true → W p l e R s m args below meth c H locs cells slots Q (F0 m tgt ls rest)) (kf : Op.if_icmp.holds cd x 0 = false → W p l e R s m args below meth c H locs cells slots Q (F0 m (pc + 3) ls rest)) : W p l e R s m args below meth c H locs cells slots Q (F0 m pc ls (.int x :: rest)) := by
  cases cd
  · exact lv_if_eq hexec hb hdg ht (fun q => kt (by simpa [Op.if_icmp.holds] using q)) (fun q => kf (by simpa [Op.if_icmp.holds] using q))
  · exact lv_if_ne hexec hb hdg ht (fun q => kt (by simpa [Op.if_icmp.holds] using q)) (fun q => kf (by simpa [Op.if_icmp.holds] using q))
  · exact lv_if_lt hexec hb hdg ht (fun q => kt (by simpa [Op.if_icmp.holds] using q)) (fun q => kf (by simpa [Op.if_icmp.holds] using q))
  · exact lv_if_ge hexec hb hdg ht (fun q => kt (by simpa [Op.if_icmp.holds] using q)) (fun q => kf (by simpa [Op.if_icmp.holds] using q))
  · exact lv_if_gt hexec hb hdg ht (fun q => kt (by simpa [Op.if_icmp.holds] using q)) (fun q => kf (by simpa [Op.if_icmp.holds] using q))
  · exact lv_if_le hexec hb hdg ht (fun q => kt (by simpa [Op.if_icmp.holds] using q)) (fun q => kf (by simpa [Op.if_icmp.holds] using q))
theorem x_icmpW {cc : ByteArray} {rest : List Value} (hexec : p.tables.exec = Jvm.exec) (hb : c.code = cc) {cd : ClassFile.Cond} {x y : Int32} {off : Int} {tgt : Nat} (hdg : decode cc pc = .ok (.if_icmp cd off, 3)) (ht : (pc : Int) + off = (tgt : Int))
    (kt : Op.if_icmp.holds cd x y = true → W p l e R s m args below meth c H locs cells slots Q (F0 m tgt ls rest)) (kf : Op.if_icmp.holds cd x y = false → W p l e R s m args below meth c H locs cells slots Q (F0 m (pc + 3) ls rest)) : W p l e R s m args below meth c H locs cells slots Q (F0 m pc ls (.int y :: .int x :: rest)) := by
  cases cd
  · exact lv_icmp_eq hexec hb hdg ht (fun q => kt (by simpa [Op.if_icmp.holds] using q)) (fun q => kf (by simpa [Op.if_icmp.holds] using q))
  · exact lv_icmp_ne hexec hb hdg ht (fun q => kt (by simpa [Op.if_icmp.holds] using q)) (fun q => kf (by simpa [Op.if_icmp.holds] using q))
  · exact lv_icmp_lt hexec hb hdg ht (fun q => kt (by simpa [Op.if_icmp.holds] using q)) (fun q => kf (by simpa [Op.if_icmp.holds] using q))
  · exact lv_icmp_ge hexec hb hdg ht (fun q => kt (by simpa [Op.if_icmp.holds] using q)) (fun q => kf (by simpa [Op.if_icmp.holds] using q))
  · exact lv_icmp_gt hexec hb hdg ht (fun q => kt (by simpa [Op.if_icmp.holds] using q)) (fun q => kf (by simpa [Op.if_icmp.holds] using q))
  · exact lv_icmp_le hexec hb hdg ht (fun q => kt (by simpa [Op.if_icmp.holds] using q)) (fun q => kf (by simpa [Op.if_icmp.holds] using q))
end STEP1
end
section
/-! STEPS: constants, locals, numbers, jumps. -/
section STEP2
variable {p : Program} {l : Launch} {e : Env} {R : Room} {s : State} {m : MethodId} {args : Array Value} {below : List Frame} {meth : Method} {c : Code} {H : Heap} {locs : List Loc} {cells slots : Nat} {Q : State → Prop}
variable {A : Nat → Prop} {D : va_G} {cA : Nat → ClassId} {sA ρ : Nat → Nat} {M : Nat} {ls : Array Slot} {L st : List Value} {σ : xS} {pc nx a b : Nat} {v : Value} {g : xGo}
theorem x_pin {t : Nat} (h : xload t nx a L st σ = some (.inl g)) : ∃ w, L[a]? = some w ∧ xsort w = t ∧ g = (nx, L, w :: st, σ) := by
  unfold xload at h
  split at h
  · rename_i w hw
    split at h
    · rename_i ht
      cases h
      exact ⟨w, hw, ht, rfl⟩
    · cases h
  · cases h
theorem x_pst {t : Nat} (h : xstore t nx a L st σ = some (.inl g)) : ∃ w r, st = w :: r ∧ xsort w = t ∧ a + (w.category - 1) < L.length ∧ g = (nx, xput L a w, r, σ) := by
  unfold xstore at h
  split at h
  · rename_i w r
    split at h
    · rename_i ht
      cases h
      exact ⟨w, r, rfl, ht.1, ht.2, rfl⟩
    · cases h
  · cases h
theorem x_s0 {w : Value} (h : xsort w = 0) : ∃ x, w = .int x := by cases w <;> first | exact ⟨_, rfl⟩ | cases h
theorem x_s1 {w : Value} (h : xsort w = 1) : ∃ x, w = .long x := by cases w <;> first | exact ⟨_, rfl⟩ | cases h
theorem x_s2 {w : Value} (h : xsort w = 2) : ∃ x, w = .ref x := by cases w <;> first | exact ⟨_, rfl⟩ | cases h
theorem x_st_iconst {n : Int} (F : x_F A D cA sA M p s m args meth c) (hat : x_at A D cA sA ρ M s H locs ls L σ) (ho : xok M pc (.iconst n) nx a b v) (h : xnext M (.iconst n) nx a b v L st σ = some (.inl g)) (hk : x_K A D cA sA ρ M p l e R s m args below meth c cells slots Q σ g) : W p l e R s m args below meth c H locs cells slots Q (F0 m pc ls (st.map (x_v ρ))) := by
  obtain ⟨⟨hd, rfl⟩, rfl⟩ := ho
  cases h
  exact lv_iconst F.1 F.2.1 hd rfl (hk.same rfl hat)
theorem x_st_bipush {n : Int} (F : x_F A D cA sA M p s m args meth c) (hat : x_at A D cA sA ρ M s H locs ls L σ) (ho : xok M pc (.bipush n) nx a b v) (h : xnext M (.bipush n) nx a b v L st σ = some (.inl g)) (hk : x_K A D cA sA ρ M p l e R s m args below meth c cells slots Q σ g) : W p l e R s m args below meth c H locs cells slots Q (F0 m pc ls (st.map (x_v ρ))) := by
  obtain ⟨hd, rfl, rfl⟩ := ho
  cases h
  exact lv_bipush F.1 F.2.1 hd rfl (hk.same rfl hat)
theorem x_st_sipush {n : Int} (F : x_F A D cA sA M p s m args meth c) (hat : x_at A D cA sA ρ M s H locs ls L σ) (ho : xok M pc (.sipush n) nx a b v) (h : xnext M (.sipush n) nx a b v L st σ = some (.inl g)) (hk : x_K A D cA sA ρ M p l e R s m args below meth c cells slots Q σ g) : W p l e R s m args below meth c H locs cells slots Q (F0 m pc ls (st.map (x_v ρ))) := by
  obtain ⟨hd, rfl, rfl⟩ := ho
  cases h
  exact lv_sipush F.1 F.2.1 hd rfl (hk.same rfl hat)
theorem x_st_lconst {n : Fin 2} (F : x_F A D cA sA M p s m args meth c) (hat : x_at A D cA sA ρ M s H locs ls L σ) (ho : xok M pc (.lconst n) nx a b v) (h : xnext M (.lconst n) nx a b v L st σ = some (.inl g)) (hk : x_K A D cA sA ρ M p l e R s m args below meth c cells slots Q σ g) : W p l e R s m args below meth c H locs cells slots Q (F0 m pc ls (st.map (x_v ρ))) := by
  obtain ⟨⟨hd, rfl⟩, rfl⟩ := ho
  cases h
  exact lv_lconst F.1 F.2.1 hd rfl (hk.same rfl hat)
theorem x_st_anull  (F : x_F A D cA sA M p s m args meth c) (hat : x_at A D cA sA ρ M s H locs ls L σ) (ho : xok M pc (.aconst_null) nx a b v) (h : xnext M (.aconst_null) nx a b v L st σ = some (.inl g)) (hk : x_K A D cA sA ρ M p l e R s m args below meth c cells slots Q σ g) : W p l e R s m args below meth c H locs cells slots Q (F0 m pc ls (st.map (x_v ρ))) := by
  obtain ⟨⟨hd, rfl⟩, rfl⟩ := ho
  cases h
  exact lv_null F.1 F.2.1 hd (hk.same rfl hat)
theorem x_st_ldc {k : Nat} (F : x_F A D cA sA M p s m args meth c) (hat : x_at A D cA sA ρ M s H locs ls L σ) (ho : xok M pc (.ldc k) nx a b v) (h : xnext M (.ldc k) nx a b v L st σ = some (.inl g)) (hk : x_K A D cA sA ρ M p l e R s m args below meth c cells slots Q σ g) : W p l e R s m args below meth c H locs cells slots Q (F0 m pc ls (st.map (x_v ρ))) := by
  obtain ⟨hd, rfl, ⟨n, rfl, hw⟩ | ⟨tx, q, rfl, hq, hm⟩⟩ := ho
  · cases h
    exact lv_ldc F.1 F.2.1 F.2.2.2.1 (F.2.2.2.2.2.2.2.1 _ hw) hd (hk.same rfl hat)
  · cases h
    have hZ := F.2.2.2.2.2.2.2.2.2.1.2.2.2.2.1 _ hm
    have := hk.same rfl hat
    refine va_ldcS F.1 F.2.1 F.2.2.2.1 hZ hd ?_
    have e : x_v ρ (.ref q) = .ref (sA q) := congrArg Value.ref (hat.2.2.2.2 q hq)
    rw [show (F0 m (pc + 2) ls (.ref (sA q) :: st.map (x_v ρ))) = F0 m (pc + 2) ls ((Value.ref q :: st).map (x_v ρ)) by rw [List.map_cons, e]]
    exact this
theorem x_st_ldc_w {k : Nat} (F : x_F A D cA sA M p s m args meth c) (hat : x_at A D cA sA ρ M s H locs ls L σ) (ho : xok M pc (.ldc_w k) nx a b v) (h : xnext M (.ldc_w k) nx a b v L st σ = some (.inl g)) (hk : x_K A D cA sA ρ M p l e R s m args below meth c cells slots Q σ g) : W p l e R s m args below meth c H locs cells slots Q (F0 m pc ls (st.map (x_v ρ))) := by
  obtain ⟨hd, rfl, n, rfl, hw⟩ := ho
  cases h
  exact lv_ldcw F.1 F.2.1 F.2.2.2.1 (F.2.2.2.2.2.2.2.1 _ hw) hd (hk.same rfl hat)
theorem x_st_ldc2_w {k : Nat} (F : x_F A D cA sA M p s m args meth c) (hat : x_at A D cA sA ρ M s H locs ls L σ) (ho : xok M pc (.ldc2_w k) nx a b v) (h : xnext M (.ldc2_w k) nx a b v L st σ = some (.inl g)) (hk : x_K A D cA sA ρ M p l e R s m args below meth c cells slots Q σ g) : W p l e R s m args below meth c H locs cells slots Q (F0 m pc ls (st.map (x_v ρ))) := by
  obtain ⟨hd, rfl, ⟨n, rfl, hw⟩ | ⟨n, rfl, hw⟩⟩ := ho
  · cases h
    exact lv_ldc2 F.1 F.2.1 F.2.2.2.1 (F.2.2.2.2.2.2.2.1 _ hw) hd (hk.same rfl hat)
  · cases h
    exact lv_ldc2d F.1 F.2.1 F.2.2.2.1 (F.2.2.2.2.2.2.2.1 _ hw) hd (hk.same rfl hat)
theorem x_st_getstatic {k : Nat} (F : x_F A D cA sA M p s m args meth c) (hat : x_at A D cA sA ρ M s H locs ls L σ) (ho : xok M pc (.getstatic k) nx a b v) (h : xnext M (.getstatic k) nx a b v L st σ = some (.inl g)) (hk : x_K A D cA sA ρ M p l e R s m args below meth c cells slots Q σ g) : W p l e R s m args below meth c H locs cells slots Q (F0 m pc ls (st.map (x_v ρ))) := by
  obtain ⟨hd, rfl, hv, C, n, d, hz, hl⟩ := ho
  cases h
  have hZ := F.2.2.2.2.2.2.2.2.2.1.1 _ hz
  have hthis := hk.same rfl hat
  have he : x_v ρ v = x_v sA v := by
    cases v with
    | ref q => exact congrArg Value.ref (hat.2.2.2.2 q (hv q rfl))
    | _ => rfl
  have hthis : W p l e R s m args below meth c H locs cells slots Q (F0 m (pc + 3) ls (x_v sA v :: st.map (x_v ρ))) := by rw [← he]; exact hthis
  rcases hl with hl | ⟨host, hl⟩
  · exact va_gets F.1 F.2.1 hZ hat.2.2.1 F.2.2.2.1 (F.2.2.2.2.2.2.2.1 _ hl) (fun _ h9 => h9) hd hthis
  · exact va_getsN F.1 F.2.1 hZ hat.2.2.1 F.2.2.2.1 ((F.2.2.2.2.2.2.2.2.2.1.2.2.2.2.2.1 _ hl).use rfl) (fun _ h9 => h9) hd hthis
theorem x_st_iload_n {k : Fin 4} (F : x_F A D cA sA M p s m args meth c) (hat : x_at A D cA sA ρ M s H locs ls L σ) (ho : xok M pc (.iload_n k) nx a b v) (h : xnext M (.iload_n k) nx a b v L st σ = some (.inl g)) (hk : x_K A D cA sA ρ M p l e R s m args below meth c cells slots Q σ g) : W p l e R s m args below meth c H locs cells slots Q (F0 m pc ls (st.map (x_v ρ))) := by
  obtain ⟨⟨hd, rfl⟩, rfl⟩ := ho
  obtain ⟨w, hw, ht, rfl⟩ := x_pin h
  have hl := x_load F hat hw ht (by decide)
  obtain ⟨x, rfl⟩ := x_s0 ht
  exact lv_iload_n F.1 F.2.1 hd rfl hl (hk.same rfl hat)
theorem x_st_iload {k : Nat} (F : x_F A D cA sA M p s m args meth c) (hat : x_at A D cA sA ρ M s H locs ls L σ) (ho : xok M pc (.iload k) nx a b v) (h : xnext M (.iload k) nx a b v L st σ = some (.inl g)) (hk : x_K A D cA sA ρ M p l e R s m args below meth c cells slots Q σ g) : W p l e R s m args below meth c H locs cells slots Q (F0 m pc ls (st.map (x_v ρ))) := by
  obtain ⟨hd, rfl, rfl⟩ := ho
  obtain ⟨w, hw, ht, rfl⟩ := x_pin h
  have hl := x_load F hat hw ht (by decide)
  obtain ⟨x, rfl⟩ := x_s0 ht
  exact lv_iload F.1 F.2.1 hd hl (hk.same rfl hat)
theorem x_st_lload_n {k : Fin 4} (F : x_F A D cA sA M p s m args meth c) (hat : x_at A D cA sA ρ M s H locs ls L σ) (ho : xok M pc (.lload_n k) nx a b v) (h : xnext M (.lload_n k) nx a b v L st σ = some (.inl g)) (hk : x_K A D cA sA ρ M p l e R s m args below meth c cells slots Q σ g) : W p l e R s m args below meth c H locs cells slots Q (F0 m pc ls (st.map (x_v ρ))) := by
  obtain ⟨⟨hd, rfl⟩, rfl⟩ := ho
  obtain ⟨w, hw, ht, rfl⟩ := x_pin h
  have hl := x_load F hat hw ht (by decide)
  obtain ⟨x, rfl⟩ := x_s1 ht
  exact lv_lload_n F.1 F.2.1 hd rfl hl (hk.same rfl hat)
theorem x_st_lload {k : Nat} (F : x_F A D cA sA M p s m args meth c) (hat : x_at A D cA sA ρ M s H locs ls L σ) (ho : xok M pc (.lload k) nx a b v) (h : xnext M (.lload k) nx a b v L st σ = some (.inl g)) (hk : x_K A D cA sA ρ M p l e R s m args below meth c cells slots Q σ g) : W p l e R s m args below meth c H locs cells slots Q (F0 m pc ls (st.map (x_v ρ))) := by
  obtain ⟨hd, rfl, rfl⟩ := ho
  obtain ⟨w, hw, ht, rfl⟩ := x_pin h
  have hl := x_load F hat hw ht (by decide)
  obtain ⟨x, rfl⟩ := x_s1 ht
  exact lv_lload F.1 F.2.1 hd hl (hk.same rfl hat)
theorem x_st_aload_n {k : Fin 4} (F : x_F A D cA sA M p s m args meth c) (hat : x_at A D cA sA ρ M s H locs ls L σ) (ho : xok M pc (.aload_n k) nx a b v) (h : xnext M (.aload_n k) nx a b v L st σ = some (.inl g)) (hk : x_K A D cA sA ρ M p l e R s m args below meth c cells slots Q σ g) : W p l e R s m args below meth c H locs cells slots Q (F0 m pc ls (st.map (x_v ρ))) := by
  obtain ⟨⟨hd, rfl⟩, rfl⟩ := ho
  obtain ⟨w, hw, ht, rfl⟩ := x_pin h
  have hl := x_load F hat hw ht (by decide)
  obtain ⟨x, rfl⟩ := x_s2 ht
  exact lv_aload_n F.1 F.2.1 hd rfl hl (hk.same rfl hat)
theorem x_st_aload {k : Nat} (F : x_F A D cA sA M p s m args meth c) (hat : x_at A D cA sA ρ M s H locs ls L σ) (ho : xok M pc (.aload k) nx a b v) (h : xnext M (.aload k) nx a b v L st σ = some (.inl g)) (hk : x_K A D cA sA ρ M p l e R s m args below meth c cells slots Q σ g) : W p l e R s m args below meth c H locs cells slots Q (F0 m pc ls (st.map (x_v ρ))) := by
  obtain ⟨hd, rfl, rfl⟩ := ho
  obtain ⟨w, hw, ht, rfl⟩ := x_pin h
  have hl := x_load F hat hw ht (by decide)
  obtain ⟨x, rfl⟩ := x_s2 ht
  exact lv_aload F.1 F.2.1 hd hl (hk.same rfl hat)
theorem x_st_istore_n {k : Fin 4} (F : x_F A D cA sA M p s m args meth c) (hat : x_at A D cA sA ρ M s H locs ls L σ) (ho : xok M pc (.istore_n k) nx a b v) (h : xnext M (.istore_n k) nx a b v L st σ = some (.inl g)) (hk : x_K A D cA sA ρ M p l e R s m args below meth c cells slots Q σ g) : W p l e R s m args below meth c H locs cells slots Q (F0 m pc ls (st.map (x_v ρ))) := by
  obtain ⟨⟨hd, rfl⟩, rfl⟩ := ho
  obtain ⟨w, r, rfl, ht, hlt, rfl⟩ := x_pst h
  obtain ⟨x, rfl⟩ := x_s0 ht
  rw [x_len hat] at hlt
  exact lv_istore_n F.1 F.2.1 hd rfl hat.2.2.2.1.2 hlt rfl (fun ls' hl' => hk.same rfl (x_put1 hat rfl hl'))
theorem x_st_istore {k : Nat} (F : x_F A D cA sA M p s m args meth c) (hat : x_at A D cA sA ρ M s H locs ls L σ) (ho : xok M pc (.istore k) nx a b v) (h : xnext M (.istore k) nx a b v L st σ = some (.inl g)) (hk : x_K A D cA sA ρ M p l e R s m args below meth c cells slots Q σ g) : W p l e R s m args below meth c H locs cells slots Q (F0 m pc ls (st.map (x_v ρ))) := by
  obtain ⟨hd, rfl, rfl⟩ := ho
  obtain ⟨w, r, rfl, ht, hlt, rfl⟩ := x_pst h
  obtain ⟨x, rfl⟩ := x_s0 ht
  rw [x_len hat] at hlt
  exact lv_istore F.1 F.2.1 hd hat.2.2.2.1.2 hlt rfl (fun ls' hl' => hk.same rfl (x_put1 hat rfl hl'))
theorem x_st_lstore_n {k : Fin 4} (F : x_F A D cA sA M p s m args meth c) (hat : x_at A D cA sA ρ M s H locs ls L σ) (ho : xok M pc (.lstore_n k) nx a b v) (h : xnext M (.lstore_n k) nx a b v L st σ = some (.inl g)) (hk : x_K A D cA sA ρ M p l e R s m args below meth c cells slots Q σ g) : W p l e R s m args below meth c H locs cells slots Q (F0 m pc ls (st.map (x_v ρ))) := by
  obtain ⟨⟨hd, rfl⟩, rfl⟩ := ho
  obtain ⟨w, r, rfl, ht, hlt, rfl⟩ := x_pst h
  obtain ⟨x, rfl⟩ := x_s1 ht
  rw [x_len hat] at hlt
  exact lv_lstore_n F.1 F.2.1 hd rfl hat.2.2.2.1.2 hlt rfl (fun ls' hl' => hk.same rfl (x_put2 hat rfl hl'))
theorem x_st_lstore {k : Nat} (F : x_F A D cA sA M p s m args meth c) (hat : x_at A D cA sA ρ M s H locs ls L σ) (ho : xok M pc (.lstore k) nx a b v) (h : xnext M (.lstore k) nx a b v L st σ = some (.inl g)) (hk : x_K A D cA sA ρ M p l e R s m args below meth c cells slots Q σ g) : W p l e R s m args below meth c H locs cells slots Q (F0 m pc ls (st.map (x_v ρ))) := by
  obtain ⟨hd, rfl, rfl⟩ := ho
  obtain ⟨w, r, rfl, ht, hlt, rfl⟩ := x_pst h
  obtain ⟨x, rfl⟩ := x_s1 ht
  rw [x_len hat] at hlt
  exact lv_lstore F.1 F.2.1 hd hat.2.2.2.1.2 hlt rfl (fun ls' hl' => hk.same rfl (x_put2 hat rfl hl'))
theorem x_st_astore_n {k : Fin 4} (F : x_F A D cA sA M p s m args meth c) (hat : x_at A D cA sA ρ M s H locs ls L σ) (ho : xok M pc (.astore_n k) nx a b v) (h : xnext M (.astore_n k) nx a b v L st σ = some (.inl g)) (hk : x_K A D cA sA ρ M p l e R s m args below meth c cells slots Q σ g) : W p l e R s m args below meth c H locs cells slots Q (F0 m pc ls (st.map (x_v ρ))) := by
  obtain ⟨⟨hd, rfl⟩, rfl⟩ := ho
  obtain ⟨w, r, rfl, ht, hlt, rfl⟩ := x_pst h
  obtain ⟨x, rfl⟩ := x_s2 ht
  rw [x_len hat] at hlt
  exact lv_astore_n F.1 F.2.1 hd rfl hat.2.2.2.1.2 hlt rfl (fun ls' hl' => hk.same rfl (x_put1 hat rfl hl'))
theorem x_st_astore {k : Nat} (F : x_F A D cA sA M p s m args meth c) (hat : x_at A D cA sA ρ M s H locs ls L σ) (ho : xok M pc (.astore k) nx a b v) (h : xnext M (.astore k) nx a b v L st σ = some (.inl g)) (hk : x_K A D cA sA ρ M p l e R s m args below meth c cells slots Q σ g) : W p l e R s m args below meth c H locs cells slots Q (F0 m pc ls (st.map (x_v ρ))) := by
  obtain ⟨hd, rfl, rfl⟩ := ho
  obtain ⟨w, r, rfl, ht, hlt, rfl⟩ := x_pst h
  obtain ⟨x, rfl⟩ := x_s2 ht
  rw [x_len hat] at hlt
  exact lv_astore F.1 F.2.1 hd hat.2.2.2.1.2 hlt rfl (fun ls' hl' => hk.same rfl (x_put1 hat rfl hl'))
theorem x_st_iinc {k : Nat} {n : Int} (F : x_F A D cA sA M p s m args meth c) (hat : x_at A D cA sA ρ M s H locs ls L σ) (ho : xok M pc (.iinc k n) nx a b v) (h : xnext M (.iinc k n) nx a b v L st σ = some (.inl g)) (hk : x_K A D cA sA ρ M p l e R s m args below meth c cells slots Q σ g) : W p l e R s m args below meth c H locs cells slots Q (F0 m pc ls (st.map (x_v ρ))) := by
  obtain ⟨hd, rfl, rfl, rfl⟩ := ho
  simp only [xnext] at h
  split at h
  · rename_i x k9 hx hk9
    cases hk9
    cases h
    have hlt : a < (xm M).2.2.1 := by rw [← x_len hat]; exact (List.getElem?_eq_some_iff.mp hx).1
    have hm : (a, Value.int x) ∈ xpr 0 (L.map (x_v ρ)) := (xpr_iff _ _ _ _).mpr ⟨Nat.zero_le _, by rw [Nat.sub_zero, List.getElem?_map, hx]; rfl, fun q => by cases q⟩
    obtain ⟨k8, hk8⟩ := List.getElem?_of_mem hm
    exact lv_iinc F.1 F.2.1 hd hat.2.2.2.1.2 hk8 rfl hlt rfl (fun ls' hl' => hk.same rfl (x_put1 hat rfl hl'))
  · cases h
theorem x_st_iadd  (F : x_F A D cA sA M p s m args meth c) (hat : x_at A D cA sA ρ M s H locs ls L σ) (ho : xok M pc (.iadd) nx a b v) (h : xnext M (.iadd) nx a b v L st σ = some (.inl g)) (hk : x_K A D cA sA ρ M p l e R s m args below meth c cells slots Q σ g) : W p l e R s m args below meth c H locs cells slots Q (F0 m pc ls (st.map (x_v ρ))) := by
  obtain ⟨hd, rfl⟩ := ho
  obtain ⟨x, y, r, rfl, h9⟩ := x2i_some h
  cases h9
  exact lv_iadd F.1 F.2.1 hd (hk.same rfl hat)
theorem x_st_isub  (F : x_F A D cA sA M p s m args meth c) (hat : x_at A D cA sA ρ M s H locs ls L σ) (ho : xok M pc (.isub) nx a b v) (h : xnext M (.isub) nx a b v L st σ = some (.inl g)) (hk : x_K A D cA sA ρ M p l e R s m args below meth c cells slots Q σ g) : W p l e R s m args below meth c H locs cells slots Q (F0 m pc ls (st.map (x_v ρ))) := by
  obtain ⟨hd, rfl⟩ := ho
  obtain ⟨x, y, r, rfl, h9⟩ := x2i_some h
  cases h9
  exact lv_isub F.1 F.2.1 hd (hk.same rfl hat)
theorem x_st_imul  (F : x_F A D cA sA M p s m args meth c) (hat : x_at A D cA sA ρ M s H locs ls L σ) (ho : xok M pc (.imul) nx a b v) (h : xnext M (.imul) nx a b v L st σ = some (.inl g)) (hk : x_K A D cA sA ρ M p l e R s m args below meth c cells slots Q σ g) : W p l e R s m args below meth c H locs cells slots Q (F0 m pc ls (st.map (x_v ρ))) := by
  obtain ⟨hd, rfl⟩ := ho
  obtain ⟨x, y, r, rfl, h9⟩ := x2i_some h
  cases h9
  exact lv_imul F.1 F.2.1 hd (hk.same rfl hat)
theorem x_st_iand  (F : x_F A D cA sA M p s m args meth c) (hat : x_at A D cA sA ρ M s H locs ls L σ) (ho : xok M pc (.iand) nx a b v) (h : xnext M (.iand) nx a b v L st σ = some (.inl g)) (hk : x_K A D cA sA ρ M p l e R s m args below meth c cells slots Q σ g) : W p l e R s m args below meth c H locs cells slots Q (F0 m pc ls (st.map (x_v ρ))) := by
  obtain ⟨hd, rfl⟩ := ho
  obtain ⟨x, y, r, rfl, h9⟩ := x2i_some h
  cases h9
  exact lv_iand F.1 F.2.1 hd (hk.same rfl hat)
theorem x_st_ior  (F : x_F A D cA sA M p s m args meth c) (hat : x_at A D cA sA ρ M s H locs ls L σ) (ho : xok M pc (.ior) nx a b v) (h : xnext M (.ior) nx a b v L st σ = some (.inl g)) (hk : x_K A D cA sA ρ M p l e R s m args below meth c cells slots Q σ g) : W p l e R s m args below meth c H locs cells slots Q (F0 m pc ls (st.map (x_v ρ))) := by
  obtain ⟨hd, rfl⟩ := ho
  obtain ⟨x, y, r, rfl, h9⟩ := x2i_some h
  cases h9
  exact lv_ior F.1 F.2.1 hd (hk.same rfl hat)
theorem x_st_ishl  (F : x_F A D cA sA M p s m args meth c) (hat : x_at A D cA sA ρ M s H locs ls L σ) (ho : xok M pc (.ishl) nx a b v) (h : xnext M (.ishl) nx a b v L st σ = some (.inl g)) (hk : x_K A D cA sA ρ M p l e R s m args below meth c cells slots Q σ g) : W p l e R s m args below meth c H locs cells slots Q (F0 m pc ls (st.map (x_v ρ))) := by
  obtain ⟨hd, rfl⟩ := ho
  obtain ⟨x, y, r, rfl, h9⟩ := x2i_some h
  cases h9
  exact lv_ishl F.1 F.2.1 hd (hk.same rfl hat)
theorem x_st_ishr  (F : x_F A D cA sA M p s m args meth c) (hat : x_at A D cA sA ρ M s H locs ls L σ) (ho : xok M pc (.ishr) nx a b v) (h : xnext M (.ishr) nx a b v L st σ = some (.inl g)) (hk : x_K A D cA sA ρ M p l e R s m args below meth c cells slots Q σ g) : W p l e R s m args below meth c H locs cells slots Q (F0 m pc ls (st.map (x_v ρ))) := by
  obtain ⟨hd, rfl⟩ := ho
  obtain ⟨x, y, r, rfl, h9⟩ := x2i_some h
  cases h9
  exact lv_ishr F.1 F.2.1 hd (hk.same rfl hat)
theorem x_st_iushr  (F : x_F A D cA sA M p s m args meth c) (hat : x_at A D cA sA ρ M s H locs ls L σ) (ho : xok M pc (.iushr) nx a b v) (h : xnext M (.iushr) nx a b v L st σ = some (.inl g)) (hk : x_K A D cA sA ρ M p l e R s m args below meth c cells slots Q σ g) : W p l e R s m args below meth c H locs cells slots Q (F0 m pc ls (st.map (x_v ρ))) := by
  obtain ⟨hd, rfl⟩ := ho
  obtain ⟨x, y, r, rfl, h9⟩ := x2i_some h
  cases h9
  exact lv_iushr F.1 F.2.1 hd rfl (hk.same rfl hat)
theorem x_st_idiv  (F : x_F A D cA sA M p s m args meth c) (hat : x_at A D cA sA ρ M s H locs ls L σ) (ho : xok M pc (.idiv) nx a b v) (h : xnext M (.idiv) nx a b v L st σ = some (.inl g)) (hk : x_K A D cA sA ρ M p l e R s m args below meth c cells slots Q σ g) : W p l e R s m args below meth c H locs cells slots Q (F0 m pc ls (st.map (x_v ρ))) := by
  obtain ⟨hd, rfl⟩ := ho
  obtain ⟨x, y, r, rfl, h9⟩ := x2i_some h
  split at h9
  · cases h9
  · rename_i hy
    cases h9
    exact lv_idiv F.1 F.2.1 hd hy (hk.same rfl hat)
theorem x_st_irem  (F : x_F A D cA sA M p s m args meth c) (hat : x_at A D cA sA ρ M s H locs ls L σ) (ho : xok M pc (.irem) nx a b v) (h : xnext M (.irem) nx a b v L st σ = some (.inl g)) (hk : x_K A D cA sA ρ M p l e R s m args below meth c cells slots Q σ g) : W p l e R s m args below meth c H locs cells slots Q (F0 m pc ls (st.map (x_v ρ))) := by
  obtain ⟨hd, rfl⟩ := ho
  obtain ⟨x, y, r, rfl, h9⟩ := x2i_some h
  split at h9
  · cases h9
  · rename_i hy
    cases h9
    exact lv_irem F.1 F.2.1 hd hy (hk.same rfl hat)
theorem x_st_ineg  (F : x_F A D cA sA M p s m args meth c) (hat : x_at A D cA sA ρ M s H locs ls L σ) (ho : xok M pc (.ineg) nx a b v) (h : xnext M (.ineg) nx a b v L st σ = some (.inl g)) (hk : x_K A D cA sA ρ M p l e R s m args below meth c cells slots Q σ g) : W p l e R s m args below meth c H locs cells slots Q (F0 m pc ls (st.map (x_v ρ))) := by
  obtain ⟨hd, rfl⟩ := ho
  obtain ⟨x, r, rfl, h9⟩ := x1i_some h
  cases h9
  exact lv_ineg F.1 F.2.1 hd (hk.same rfl hat)
theorem x_st_i2l  (F : x_F A D cA sA M p s m args meth c) (hat : x_at A D cA sA ρ M s H locs ls L σ) (ho : xok M pc (.i2l) nx a b v) (h : xnext M (.i2l) nx a b v L st σ = some (.inl g)) (hk : x_K A D cA sA ρ M p l e R s m args below meth c cells slots Q σ g) : W p l e R s m args below meth c H locs cells slots Q (F0 m pc ls (st.map (x_v ρ))) := by
  obtain ⟨hd, rfl⟩ := ho
  obtain ⟨x, r, rfl, h9⟩ := x1i_some h
  cases h9
  exact lv_i2l F.1 F.2.1 hd rfl (hk.same rfl hat)
theorem x_st_i2b  (F : x_F A D cA sA M p s m args meth c) (hat : x_at A D cA sA ρ M s H locs ls L σ) (ho : xok M pc (.i2b) nx a b v) (h : xnext M (.i2b) nx a b v L st σ = some (.inl g)) (hk : x_K A D cA sA ρ M p l e R s m args below meth c cells slots Q σ g) : W p l e R s m args below meth c H locs cells slots Q (F0 m pc ls (st.map (x_v ρ))) := by
  obtain ⟨hd, rfl⟩ := ho
  obtain ⟨x, r, rfl, h9⟩ := x1i_some h
  cases h9
  exact lv_i2b F.1 F.2.1 hd rfl (hk.same rfl hat)
theorem x_st_i2c  (F : x_F A D cA sA M p s m args meth c) (hat : x_at A D cA sA ρ M s H locs ls L σ) (ho : xok M pc (.i2c) nx a b v) (h : xnext M (.i2c) nx a b v L st σ = some (.inl g)) (hk : x_K A D cA sA ρ M p l e R s m args below meth c cells slots Q σ g) : W p l e R s m args below meth c H locs cells slots Q (F0 m pc ls (st.map (x_v ρ))) := by
  obtain ⟨hd, rfl⟩ := ho
  obtain ⟨x, r, rfl, h9⟩ := x1i_some h
  cases h9
  exact lv_i2c F.1 F.2.1 hd rfl (hk.same rfl hat)
theorem x_st_i2d  (F : x_F A D cA sA M p s m args meth c) (hat : x_at A D cA sA ρ M s H locs ls L σ) (ho : xok M pc (.i2d) nx a b v) (h : xnext M (.i2d) nx a b v L st σ = some (.inl g)) (hk : x_K A D cA sA ρ M p l e R s m args below meth c cells slots Q σ g) : W p l e R s m args below meth c H locs cells slots Q (F0 m pc ls (st.map (x_v ρ))) := by
  obtain ⟨hd, rfl⟩ := ho
  obtain ⟨x, r, rfl, h9⟩ := x1i_some h
  cases h9
  exact lv_i2d F.1 F.2.1 hd (hk.same rfl hat)
theorem x_st_ladd  (F : x_F A D cA sA M p s m args meth c) (hat : x_at A D cA sA ρ M s H locs ls L σ) (ho : xok M pc (.ladd) nx a b v) (h : xnext M (.ladd) nx a b v L st σ = some (.inl g)) (hk : x_K A D cA sA ρ M p l e R s m args below meth c cells slots Q σ g) : W p l e R s m args below meth c H locs cells slots Q (F0 m pc ls (st.map (x_v ρ))) := by
  obtain ⟨hd, rfl⟩ := ho
  obtain ⟨x, y, r, rfl, h9⟩ := x2l_some h
  cases h9
  exact lv_ladd F.1 F.2.1 hd (hk.same rfl hat)
theorem x_st_lmul  (F : x_F A D cA sA M p s m args meth c) (hat : x_at A D cA sA ρ M s H locs ls L σ) (ho : xok M pc (.lmul) nx a b v) (h : xnext M (.lmul) nx a b v L st σ = some (.inl g)) (hk : x_K A D cA sA ρ M p l e R s m args below meth c cells slots Q σ g) : W p l e R s m args below meth c H locs cells slots Q (F0 m pc ls (st.map (x_v ρ))) := by
  obtain ⟨hd, rfl⟩ := ho
  obtain ⟨x, y, r, rfl, h9⟩ := x2l_some h
  cases h9
  exact lv_lmul F.1 F.2.1 hd (hk.same rfl hat)
theorem x_st_lcmp  (F : x_F A D cA sA M p s m args meth c) (hat : x_at A D cA sA ρ M s H locs ls L σ) (ho : xok M pc (.lcmp) nx a b v) (h : xnext M (.lcmp) nx a b v L st σ = some (.inl g)) (hk : x_K A D cA sA ρ M p l e R s m args below meth c cells slots Q σ g) : W p l e R s m args below meth c H locs cells slots Q (F0 m pc ls (st.map (x_v ρ))) := by
  obtain ⟨hd, rfl⟩ := ho
  obtain ⟨x, y, r, rfl, h9⟩ := x2l_some h
  cases h9
  exact W.lcmp F.1 F.2.1 hd (hk.same rfl hat)
theorem x_st_ddiv  (F : x_F A D cA sA M p s m args meth c) (hat : x_at A D cA sA ρ M s H locs ls L σ) (ho : xok M pc (.ddiv) nx a b v) (h : xnext M (.ddiv) nx a b v L st σ = some (.inl g)) (hk : x_K A D cA sA ρ M p l e R s m args below meth c cells slots Q σ g) : W p l e R s m args below meth c H locs cells slots Q (F0 m pc ls (st.map (x_v ρ))) := by
  obtain ⟨hd, rfl⟩ := ho
  obtain ⟨x, y, r, rfl, h9⟩ := x2d_some h
  split at h9
  · rename_i hn
    cases h9
    exact lv_ddiv F.1 F.2.1 hd hn (hk.same rfl hat)
  · cases h9
theorem x_st_dcmp {op : ClassFile.CmpOp} (F : x_F A D cA sA M p s m args meth c) (hat : x_at A D cA sA ρ M s H locs ls L σ) (ho : xok M pc (.dcmp op) nx a b v) (h : xnext M (.dcmp op) nx a b v L st σ = some (.inl g)) (hk : x_K A D cA sA ρ M p l e R s m args below meth c cells slots Q σ g) : W p l e R s m args below meth c H locs cells slots Q (F0 m pc ls (st.map (x_v ρ))) := by
  obtain ⟨hd, rfl⟩ := ho
  obtain ⟨x, y, r, rfl, h9⟩ := x2d_some h
  cases h9
  exact lv_dcmp F.1 F.2.1 hd (hk.same rfl hat)
theorem x_st_dup  (F : x_F A D cA sA M p s m args meth c) (hat : x_at A D cA sA ρ M s H locs ls L σ) (ho : xok M pc (.dup) nx a b v) (h : xnext M (.dup) nx a b v L st σ = some (.inl g)) (hk : x_K A D cA sA ρ M p l e R s m args below meth c cells slots Q σ g) : W p l e R s m args below meth c H locs cells slots Q (F0 m pc ls (st.map (x_v ρ))) := by
  obtain ⟨hd, rfl⟩ := ho
  simp only [xnext] at h
  split at h
  · split at h
    · rename_i hc
      cases h
      exact lv_dup F.1 F.2.1 hd (by rw [x_v_cat]; exact hc) (hk.same rfl hat)
    · cases h
  · cases h
theorem x_st_pop  (F : x_F A D cA sA M p s m args meth c) (hat : x_at A D cA sA ρ M s H locs ls L σ) (ho : xok M pc (.pop) nx a b v) (h : xnext M (.pop) nx a b v L st σ = some (.inl g)) (hk : x_K A D cA sA ρ M p l e R s m args below meth c cells slots Q σ g) : W p l e R s m args below meth c H locs cells slots Q (F0 m pc ls (st.map (x_v ρ))) := by
  obtain ⟨hd, rfl⟩ := ho
  simp only [xnext] at h
  split at h
  · split at h
    · rename_i hc
      cases h
      exact lv_pop F.1 F.2.1 hd (by rw [x_v_cat]; exact hc) (hk.same rfl hat)
    · cases h
  · cases h
theorem x_st_dup_x1  (F : x_F A D cA sA M p s m args meth c) (hat : x_at A D cA sA ρ M s H locs ls L σ) (ho : xok M pc (.dup_x1) nx a b v) (h : xnext M (.dup_x1) nx a b v L st σ = some (.inl g)) (hk : x_K A D cA sA ρ M p l e R s m args below meth c cells slots Q σ g) : W p l e R s m args below meth c H locs cells slots Q (F0 m pc ls (st.map (x_v ρ))) := by
  obtain ⟨hd, rfl⟩ := ho
  simp only [xnext] at h
  split at h
  · split at h
    · rename_i hc
      cases h
      exact lv_dup_x1 F.1 F.2.1 hd (by rw [x_v_cat]; exact hc.1) (by rw [x_v_cat]; exact hc.2) (hk.same rfl hat)
    · cases h
  · cases h
theorem x_st_dup2  (F : x_F A D cA sA M p s m args meth c) (hat : x_at A D cA sA ρ M s H locs ls L σ) (ho : xok M pc (.dup2) nx a b v) (h : xnext M (.dup2) nx a b v L st σ = some (.inl g)) (hk : x_K A D cA sA ρ M p l e R s m args below meth c cells slots Q σ g) : W p l e R s m args below meth c H locs cells slots Q (F0 m pc ls (st.map (x_v ρ))) := by
  obtain ⟨hd, rfl⟩ := ho
  simp only [xnext] at h
  split at h
  · split at h
    · rename_i hc
      cases h
      exact lv_dup2_11 F.1 F.2.1 hd (by rw [x_v_cat]; exact hc.1) (by rw [x_v_cat]; exact hc.2) (hk.same rfl hat)
    · cases h
  · cases h
theorem x_st_ifCond {cd : ClassFile.Cond} {off : Int} (F : x_F A D cA sA M p s m args meth c) (hat : x_at A D cA sA ρ M s H locs ls L σ) (ho : xok M pc (.ifCond cd off) nx a b v) (h : xnext M (.ifCond cd off) nx a b v L st σ = some (.inl g)) (hk : x_K A D cA sA ρ M p l e R s m args below meth c cells slots Q σ g) : W p l e R s m args below meth c H locs cells slots Q (F0 m pc ls (st.map (x_v ρ))) := by
  obtain ⟨hd, rfl, ht⟩ := ho
  obtain ⟨x, r, rfl, h9⟩ := x1i_some h
  rcases x_if h9 with ⟨hc, h9⟩ | ⟨hc, h9⟩
  · cases h9
    exact x_ifW F.1 F.2.1 hd ht (fun _ => hk.same rfl hat) (fun q => by rw [hc] at q; cases q)
  · cases h9
    exact x_ifW F.1 F.2.1 hd ht (fun q => by rw [hc] at q; cases q) (fun _ => hk.same rfl hat)
theorem x_st_if_icmp {cd : ClassFile.Cond} {off : Int} (F : x_F A D cA sA M p s m args meth c) (hat : x_at A D cA sA ρ M s H locs ls L σ) (ho : xok M pc (.if_icmp cd off) nx a b v) (h : xnext M (.if_icmp cd off) nx a b v L st σ = some (.inl g)) (hk : x_K A D cA sA ρ M p l e R s m args below meth c cells slots Q σ g) : W p l e R s m args below meth c H locs cells slots Q (F0 m pc ls (st.map (x_v ρ))) := by
  obtain ⟨hd, rfl, ht⟩ := ho
  obtain ⟨x, y, r, rfl, h9⟩ := x2i_some h
  rcases x_if h9 with ⟨hc, h9⟩ | ⟨hc, h9⟩
  · cases h9
    exact x_icmpW F.1 F.2.1 hd ht (fun _ => hk.same rfl hat) (fun q => by rw [hc] at q; cases q)
  · cases h9
    exact x_icmpW F.1 F.2.1 hd ht (fun q => by rw [hc] at q; cases q) (fun _ => hk.same rfl hat)
theorem x_st_goto {off : Int} (F : x_F A D cA sA M p s m args meth c) (hat : x_at A D cA sA ρ M s H locs ls L σ) (ho : xok M pc (.goto off) nx a b v) (h : xnext M (.goto off) nx a b v L st σ = some (.inl g)) (hk : x_K A D cA sA ρ M p l e R s m args below meth c cells slots Q σ g) : W p l e R s m args below meth c H locs cells slots Q (F0 m pc ls (st.map (x_v ρ))) := by
  obtain ⟨hd, ht⟩ := ho
  cases h
  exact lv_goto F.1 F.2.1 hd ht (hk.same rfl hat)
theorem x_st_ifnonnull {off : Int} (F : x_F A D cA sA M p s m args meth c) (hat : x_at A D cA sA ρ M s H locs ls L σ) (ho : xok M pc (.ifnonnull off) nx a b v) (h : xnext M (.ifnonnull off) nx a b v L st σ = some (.inl g)) (hk : x_K A D cA sA ρ M p l e R s m args below meth c cells slots Q σ g) : W p l e R s m args below meth c H locs cells slots Q (F0 m pc ls (st.map (x_v ρ))) := by
  obtain ⟨hd, ht⟩ := ho
  simp only [xnext] at h
  split at h
  · cases h
    exact lv_ifnonnull F.1 F.2.1 hd ht (hk.same rfl hat)
  · cases h
theorem x_lookup {α : Type} : ∀ (l : List (Int32 × α)) (x : Int32) (t : α), l.lookup x = some t → (x, t) ∈ l
  | [], x, t, h => by cases h
  | (y, u) :: l, x, t, h => by
    rw [List.lookup_cons] at h
    split at h
    · rename_i q
      have e : x = y := by simpa using q
      cases h
      rw [e]; exact List.mem_cons_self
    · exact List.mem_cons_of_mem _ (x_lookup l x t h)
theorem x_lookupN {α : Type} : ∀ (l : List (Int32 × α)) (x : Int32), l.lookup x = none → ∀ q ∈ l, q.1 ≠ x
  | [], x, _, q, hq => by cases hq
  | (y, u) :: l, x, h, q, hq => by
    rw [List.lookup_cons] at h
    split at h
    · cases h
    · rename_i hxy
      rcases List.mem_cons.mp hq with rfl | hq
      · rintro rfl
        simp at hxy
      · exact x_lookupN l x h q hq
theorem x_off (pc : Nat) (d : Int) (x : Int32) : ∀ (ps : List (Int × Int)) (l : List (Int32 × Nat)), ps.map (fun q => (q.1, (pc : Int) + q.2)) = l.map (fun q => (q.1.toInt, (q.2 : Int))) →
    (∀ t, l.lookup x = some t → (pc : Int) + Op.lookupswitch.offset ps d x.toInt = (t : Int)) ∧ (l.lookup x = none → Op.lookupswitch.offset ps d x.toInt = d)
  | [], [], _ => ⟨fun t h => (nomatch h), fun _ => rfl⟩
  | [], _ :: _, h => by cases h
  | _ :: _, [], h => by cases h
  | (k, o) :: ps, (y, u) :: l, h => by
    simp only [List.map_cons, List.cons.injEq, Prod.mk.injEq] at h
    obtain ⟨⟨h1, h2⟩, h3⟩ := h
    have ih := x_off pc d x ps l h3
    by_cases hxy : x = y
    · subst hxy
      refine ⟨fun t ht => ?_, fun hn => ?_⟩
      · simp [List.lookup_cons] at ht
        simp [Op.lookupswitch.offset, h1, h2, ht]
      · simp [List.lookup_cons] at hn
    · have h4 : ¬ k = x.toInt := fun q => hxy (Int32.toInt_inj.mp (by rw [← q, h1]))
      have h5 : ((y, u) :: l).lookup x = l.lookup x := by
        rw [List.lookup_cons]
        have : (x == y) = false := by simpa using hxy
        rw [this]
      have h6 : Op.lookupswitch.offset ((k, o) :: ps) d x.toInt = Op.lookupswitch.offset ps d x.toInt := by
        simp [Op.lookupswitch.offset, h4]
      rw [h5, h6]
      exact ih
theorem x_st_tableswitch {d lo hi : Int} {offs : Array Int} (F : x_F A D cA sA M p s m args meth c) (hat : x_at A D cA sA ρ M s H locs ls L σ) (ho : xok M pc (.tableswitch d lo hi offs) nx a b v) (h : xnext M (.tableswitch d lo hi offs) nx a b v L st σ = some (.inl g)) (hk : x_K A D cA sA ρ M p l e R s m args below meth c cells slots Q σ g) : W p l e R s m args below meth c H locs cells slots Q (F0 m pc ls (st.map (x_v ρ))) := by
  obtain ⟨⟨len, hd⟩, hb, hall⟩ := ho
  obtain ⟨x, r, rfl, h9⟩ := x1i_some h
  split at h9
  · rename_i t hl
    cases h9
    obtain ⟨h1, h2, off, h3, h4⟩ := hall _ (x_lookup _ _ _ hl)
    exact lv_tableIn F.1 F.2.1 hd h1 h2 h3 h4 (hk.same rfl hat)
  · split at h9
    · rename_i hq
      cases h9
      exact lv_tableOut F.1 F.2.1 hd hq hb (hk.same rfl hat)
    · cases h9
theorem x_st_lookupswitch {d : Int} {ps : Array (Int × Int)} (F : x_F A D cA sA M p s m args meth c) (hat : x_at A D cA sA ρ M s H locs ls L σ) (ho : xok M pc (.lookupswitch d ps) nx a b v) (h : xnext M (.lookupswitch d ps) nx a b v L st σ = some (.inl g)) (hk : x_K A D cA sA ρ M p l e R s m args below meth c cells slots Q σ g) : W p l e R s m args below meth c H locs cells slots Q (F0 m pc ls (st.map (x_v ρ))) := by
  obtain ⟨⟨len, hd⟩, hb, hz, hm⟩ := ho
  obtain ⟨x, r, rfl, h9⟩ := x1i_some h
  have hx := x_off pc d x _ _ hm
  split at h9
  · rename_i t hl
    cases h9
    exact lv_lookup F.1 F.2.1 hd hz rfl (hx.1 t hl) (hk.same rfl hat)
  · rename_i hl
    cases h9
    exact lv_lookup F.1 F.2.1 hd hz (hx.2 hl) hb (hk.same rfl hat)
end STEP2
end
section
/-! STEPS: fields and arrays. -/
section STEP3
variable {p : Program} {l : Launch} {e : Env} {R : Room} {s : State} {m : MethodId} {args : Array Value} {below : List Frame} {meth : Method} {c : Code} {H : Heap} {locs : List Loc} {cells slots : Nat} {Q : State → Prop}
variable {A : Nat → Prop} {D : va_G} {cA : Nat → ClassId} {sA ρ : Nat → Nat} {M : Nat} {ls : Array Slot} {L st : List Value} {σ : xS} {pc nx a b : Nat} {v : Value} {g : xGo}
/-- a field of an object that the start holds, of a nest mate -/
theorem x_getfN {cc : ByteArray} {rest : List Value} (hexec : p.tables.exec = Jvm.exec) (hb : c.code = cc) {o n d own host : String} {index q : Nat} {v : Value} (hE : va_OF o n d v q A s s.heap) (hS : va_S A s.heap H locs) (hown : s.vm.findClass own = some m.cls) (hlink : (Cond.fieldLinkNest own index o n d host).before args s = true) (hdg : decode cc pc = .ok (.getfield index, 3))
    (kk : W p l e R s m args below meth c H locs cells slots Q (F0 m (pc + 3) ls (v :: rest))) : W p l e R s m args below meth c H locs cells slots Q (F0 m pc ls (.ref q :: rest)) := by
  obtain ⟨cf, k, i, f, cell, h1, h2, h3, h4, h5, h6⟩ := hE
  have hq : H[q]? = some cell := by rw [hS.2.1 q (Array.getElem?_eq_some_iff.mp h3).1 h6]; exact h3
  exact va_Wgetf hexec hb hown hlink h1 h2 hq h4 h5 rfl rfl hdg kk
theorem x_vin {i : Int32} {n : Nat} (h : ¬ i < 0) (k : i.toNatClampNeg < n) : vp_in i n := fun q => q.elim h (fun z => by omega)
theorem x_ty {t : Nat} (ht : t < 8) : (xtys cA)[t]? = some (cA t, xkt t) := by
  unfold xtys
  rw [List.getElem?_map, List.getElem?_range ht]; rfl
theorem x_cset {t i : Nat} {l : List Int32} {x : Int32} (hi : i < l.length) : x_c cA ρ (.inr (.inl (t, l.set i x))) = .inl (cA t, l.length, .inl (upd (fun j => l.getD j 0) i x)) := by
  show Sum.inl (cA t, (l.set i x).length, Sum.inl _) = _
  rw [List.length_set]
  refine congrArg (fun f => Sum.inl (cA t, l.length, Sum.inl f)) (funext fun j => ?_)
  simp only [List.getD_eq_getElem?_getD, List.getElem?_set, upd]
  by_cases hj : j = i
  · subst hj; simp [hi]
  · rw [if_neg (fun q => hj q.symm), if_neg hj]
theorem x_csetL {t i : Nat} {l : List Int64} {x : Int64} (hi : i < l.length) : x_c cA ρ (.inr (.inr (.inl (t, l.set i x)))) = .inl (cA t, l.length, .inr (.inl (vp_updL (fun j => l.getD j 0) i x))) := by
  show Sum.inl (cA t, (l.set i x).length, Sum.inr (Sum.inl _)) = _
  rw [List.length_set]
  refine congrArg (fun f => Sum.inl (cA t, l.length, Sum.inr (Sum.inl f))) (funext fun j => ?_)
  simp only [List.getD_eq_getElem?_getD, List.getElem?_set, vp_updL]
  by_cases hj : j = i
  · subst hj; simp [hi]
  · rw [if_neg (fun q => hj q.symm), if_neg hj]
theorem x_csetQ {t i x : Nat} {l : List (Option Nat)} (hi : i < l.length) : x_c cA ρ (.inr (.inr (.inr (t, l.set i (some x))))) = .inl (cA t, l.length, .inr (.inr (.inr (.inr (va_up (fun j => (l.getD j none).map ρ) i (some (ρ x))))))) := by
  show Sum.inl (cA t, (l.set i (some x)).length, Sum.inr (Sum.inr (Sum.inr (Sum.inr _)))) = _
  rw [List.length_set]
  refine congrArg (fun f => Sum.inl (cA t, l.length, Sum.inr (Sum.inr (Sum.inr (Sum.inr f))))) (funext fun j => ?_)
  simp only [List.getD_eq_getElem?_getD, List.getElem?_set, va_up]
  by_cases hj : j = i
  · subst hj; simp [hi]
  · rw [if_neg (fun q => hj q.symm), if_neg hj]
/-- a cell was written -/
theorem x_wr (hat : x_at A D cA sA ρ M s H locs ls L σ) {q : Nat} {cl : xC} {H1 : Heap} {locs1 : List Loc} (hP : va_P D vwCl ((x_ws cA ρ σ.1).set q (ρ q, x_c cA ρ cl)) H1) (hD : va_D A ((x_ws cA ρ σ.1).set q (ρ q, x_c cA ρ cl))) (hS : va_S A s.heap H1 locs1) : x_at A D cA sA ρ M s H1 locs1 ls L (xset σ q cl) := by
  rw [x_ws_set] at hP hD
  exact ⟨hP, hD, hS, hat.2.2.2.1, hat.2.2.2.2⟩
theorem x_st_getfield {k : Nat} (F : x_F A D cA sA M p s m args meth c) (hat : x_at A D cA sA ρ M s H locs ls L σ) (ho : xok M pc (.getfield k) nx a b v) (h : xnext M (.getfield k) nx a b v L st σ = some (.inl g))  (hk : x_K A D cA sA ρ M p l e R s m args below meth c cells slots Q σ g) : W p l e R s m args below meth c H locs cells slots Q (F0 m pc ls (st.map (x_v ρ))) := by
  obtain ⟨hd, rfl, ⟨rfl, o, n, d, hl, hx⟩ | ⟨ha, C, T, N, ⟨hc, hin, hty, hnm⟩, hb, hl⟩⟩ := ho
  · simp only [xnext] at h
    split at h
    · rename_i q r
      rw [if_pos trivial] at h
      split at h
      · rename_i w hw
        cases h
        obtain ⟨h1, h2, h3⟩ := hx _ _ hw
        have hE := F.2.2.2.2.2.2.2.2.2.1.2.2.1 _ h3
        have hthis := hk.same rfl hat
        have he : x_v ρ w = x_v sA w := by
          cases w with
          | ref z => exact congrArg Value.ref (hat.2.2.2.2 z (h2 z rfl))
          | _ => rfl
        have hq : x_v ρ (.ref q) = .ref (sA q) := congrArg Value.ref (hat.2.2.2.2 q h1)
        have hthis : W p l e R s m args below meth c H locs cells slots Q (F0 m (pc + 3) ls (x_v sA w :: r.map (x_v ρ))) := by rw [← he]; exact hthis
        rw [List.map_cons, hq]
        rcases hl with hl | ⟨host, hl⟩
        · exact vk_getf F.1 F.2.1 hE hat.2.2.1 F.2.2.2.1 (F.2.2.2.2.2.2.2.1 _ hl) (fun _ h9 => h9) hd hthis
        · exact x_getfN F.1 F.2.1 hE hat.2.2.1 F.2.2.2.1 ((F.2.2.2.2.2.2.2.2.2.1.2.2.2.2.2.1 _ hl).use rfl) hd hthis
      · cases h
    · cases h
  · simp only [xnext] at h
    split at h
    · rename_i q r
      rw [if_neg ha] at h
      split at h
      · rename_i c9 fs hp
        split at h
        · rename_i hca
          subst hca
          split at h
          · rename_i w hw
            cases h
            have hcell := x_ws_at (cA := cA) (ρ := ρ) hp
            have hv : (fs.map (x_v ρ))[b]? = some (x_v ρ w) := by rw [List.getElem?_map, hw]; rfl
            rcases hl with hl | ⟨host, hl⟩
            · exact va_get F.1 F.2.1 F.2.2.2.2.2.2.2.1 hin F.2.2.2.1 F.2.2.2.2.2.2.2.2.1 hat.1 q hcell hc b hb (F.2.2.2.2.2.2.2.1 _ hl) (fun _ h9 => h9) hv hd (hk.same rfl hat)
            · exact va_getN F.1 F.2.1 F.2.2.2.2.2.2.2.1 hin F.2.2.2.1 F.2.2.2.2.2.2.2.2.1 hat.1 q hcell hc b hb ((F.2.2.2.2.2.2.2.2.2.1.2.2.2.2.2.1 _ hl).use rfl) (fun _ h9 => h9) hv hd (hk.same rfl hat)
          · cases h
        · cases h
      · cases h
    · cases h
theorem x_narrow {ty : FieldType} {w : Value} (h : narrow ty w = w) : narrow ty (x_v ρ w) = x_v ρ w := by
  cases w <;> try exact h
  cases ty <;> rfl
theorem x_fits {ty : FieldType} {w : Value} : fits ty (x_v ρ w) = fits ty w := by
  cases w <;> try rfl
  cases ty <;> rfl
theorem x_st_putfield {k : Nat} (F : x_F A D cA sA M p s m args meth c) (hat : x_at A D cA sA ρ M s H locs ls L σ) (ho : xok M pc (.putfield k) nx a b v) (h : xnext M (.putfield k) nx a b v L st σ = some (.inl g))  (hk : x_K A D cA sA ρ M p l e R s m args below meth c cells slots Q σ g) : W p l e R s m args below meth c H locs cells slots Q (F0 m pc ls (st.map (x_v ρ))) := by
  obtain ⟨hd, rfl, C, T, N, ⟨hc, hin, hty, hnm⟩, hb, hl⟩ := ho
  simp only [xnext] at h
  split at h
  · rename_i w q r
    split at h
    · rename_i c9 fs hp
      split at h
      · rename_i hca
        obtain ⟨rfl, hlt, hf⟩ := hca
        cases h
        have hcell := x_ws_at (cA := cA) (ρ := ρ) hp
        simp only [xfits, Bool.and_eq_true, decide_eq_true_eq] at hf
        have hnar := x_narrow (ρ := ρ) hf.1
        have hfit : fits (xfty c9 b) (x_v ρ w) = true := by rw [x_fits]; exact hf.2
        have hlt' : b < (fs.map (x_v ρ)).length := by rw [List.length_map]; exact hlt
        have hset : (c9, (fs.map (x_v ρ)).set b (x_v ρ w)) = (c9, (fs.set b w).map (x_v ρ)) := by rw [List.map_set]
        have kk : ∀ (H1 : Heap) (locs1 : List Loc), va_P D vwCl ((x_ws cA ρ σ.1).set q (ρ q, .inr (c9, (fs.map (x_v ρ)).set b (x_v ρ w)))) H1 → va_D A ((x_ws cA ρ σ.1).set q (ρ q, .inr (c9, (fs.map (x_v ρ)).set b (x_v ρ w)))) → va_S A s.heap H1 locs1 → W p l e R s m args below meth c H1 locs1 cells slots Q (F0 m (pc + 3) ls (r.map (x_v ρ))) := by
          intro H1 locs1 hP hD hS
          rw [hset] at hP hD
          exact hk ρ ls H1 locs1 cells slots x_ag.rf rfl rfl (x_wr (cl := .inl (c9, fs.set b w)) hat hP hD hS)
        rcases hl with ⟨hfin, hl | ⟨host, hl⟩⟩ | ⟨hfin, hnm2, hdecl, hl⟩
        · exact va_put F.1 F.2.1 F.2.2.2.2.2.2.2.1 hin (xfty c9) hty hnm F.2.2.2.1 F.2.2.2.2.2.2.2.2.1 hat.1 hat.2.1 hat.2.2.1 q hcell hc b hb (F.2.2.2.2.2.2.2.1 _ hl) (fun _ h9 => h9) hfin (hty b hb) hnar hfit hlt' hd kk
        · exact va_putN F.1 F.2.1 F.2.2.2.2.2.2.2.1 hin (xfty c9) hty hnm F.2.2.2.1 F.2.2.2.2.2.2.2.2.1 hat.1 hat.2.1 hat.2.2.1 q hcell hc b hb ((F.2.2.2.2.2.2.2.2.2.1.2.2.2.2.2.1 _ hl).use rfl) (fun _ h9 => h9) hfin (hty b hb) hnar hfit hlt' hd kk
        · exact va_putF F.1 F.2.1 F.2.2.2.2.2.2.2.1 hin (xfty c9) hty hnm F.2.2.2.1 F.2.2.2.2.2.2.2.2.1 hat.1 hat.2.1 hat.2.2.1 q hcell hc b hb (F.2.2.2.2.2.2.2.1 _ hl) (fun _ h9 => h9) hfin (F.2.2.2.2.1.trans hnm2) hdecl (hty b hb) hnar hfit hlt' hd kk
      · cases h
    · cases h
  · cases h
theorem x_getD {α : Type} {l : List α} {i : Nat} {x d : α} (h : l[i]? = some x) : l.getD i d = x := by rw [List.getD_eq_getElem?_getD, h]; rfl
/-- the constant arrays of the tables -/
def xct_ok : Prop := ∀ q t l, xct q = some (t, l) → xB ≤ q ∧ (q, xkt t, l) ∈ xars ∧ (t < 3 ∨ t = 5 ∨ t = 8) ∧ ∀ w ∈ l, (∀ z, w = .ref z → xB ≤ z) ∧ (t < 3 → ∃ x, w = .int x)
theorem x_cv (hat : x_at A D cA sA ρ M s H locs ls L σ) {w : Value} (h : ∀ z, w = .ref z → xB ≤ z) : x_v ρ w = x_v sA w := by
  cases w with
  | ref z => exact congrArg Value.ref (hat.2.2.2.2 z (h z rfl))
  | _ => rfl
theorem x_st_iaload  (F : x_F A D cA sA M p s m args meth c) (hat : x_at A D cA sA ρ M s H locs ls L σ) (ho : xok M pc (.iaload) nx a b v) (h : xnext M (.iaload) nx a b v L st σ = some (.inl g)) (hct : xct_ok) (hk : x_K A D cA sA ρ M p l e R s m args below meth c cells slots Q σ g) : W p l e R s m args below meth c H locs cells slots Q (F0 m pc ls (st.map (x_v ρ))) := by
  obtain ⟨hd, rfl⟩ := ho
  simp only [xnext, xald] at h
  split at h
  · rename_i i q r
    split at h
    · cases h
    · rename_i hi
      split at h
      · rename_i t' l' hp
        split at h
        · rename_i ht
          subst ht
          split at h
          · rename_i x hx
            cases h
            have hcell := x_ws_at (cA := cA) (ρ := ρ) hp
            refine va_iald F.1 F.2.1 F.2.2.2.2.2.2.2.2.1 hat.1 q 0 hcell (x_ty (by decide)) (x_vin hi (List.getElem?_eq_some_iff.mp hx).1) hd ?_
            rw [x_getD hx]
            exact hk.same rfl hat
          · cases h
        · cases h
      · cases h
      · rename_i hp
        split at h
        · rename_i t' l' hl
          split at h
          · rename_i ht
            subst ht
            split at h
            · rename_i x hx
              cases h
              obtain ⟨h1, h2, -, h4⟩ := hct _ _ _ hl
              have hT := F.2.2.2.2.2.2.2.2.2.1.2.2.2.1 _ h2
              have hlt := (List.getElem?_eq_some_iff.mp hx).1
              have hq : x_v ρ (.ref q) = .ref (sA q) := congrArg Value.ref (hat.2.2.2.2 q h1)
              have hxv := x_cv hat (h4 x (List.mem_of_getElem? hx)).1
              rw [List.map_cons, List.map_cons, hq]
              refine va_ti F.1 F.2.1 hT hat.2.2.1 (x_vin hi hlt) (v := x_v ρ x) ?_ hd (hk.same rfl hat)
              rw [hxv]
              exact congrArg (x_v sA) (x_getD hx)
            · cases h
          · cases h
        · cases h
  · cases h
theorem x_st_caload  (F : x_F A D cA sA M p s m args meth c) (hat : x_at A D cA sA ρ M s H locs ls L σ) (ho : xok M pc (.caload) nx a b v) (h : xnext M (.caload) nx a b v L st σ = some (.inl g)) (hct : xct_ok) (hk : x_K A D cA sA ρ M p l e R s m args below meth c cells slots Q σ g) : W p l e R s m args below meth c H locs cells slots Q (F0 m pc ls (st.map (x_v ρ))) := by
  obtain ⟨hd, rfl⟩ := ho
  simp only [xnext, xald] at h
  split at h
  · rename_i i q r
    split at h
    · cases h
    · rename_i hi
      split at h
      · rename_i t' l' hp
        split at h
        · rename_i ht
          subst ht
          split at h
          · rename_i x hx
            cases h
            have hcell := x_ws_at (cA := cA) (ρ := ρ) hp
            refine va_cald F.1 F.2.1 F.2.2.2.2.2.2.2.2.1 hat.1 q 1 hcell (x_ty (by decide)) (x_vin hi (List.getElem?_eq_some_iff.mp hx).1) hd ?_
            rw [x_getD hx]
            exact hk.same rfl hat
          · cases h
        · cases h
      · cases h
      · rename_i hp
        split at h
        · rename_i t' l' hl
          split at h
          · rename_i ht
            subst ht
            split at h
            · rename_i x hx
              cases h
              obtain ⟨h1, h2, -, h4⟩ := hct _ _ _ hl
              have hT := F.2.2.2.2.2.2.2.2.2.1.2.2.2.1 _ h2
              have hlt := (List.getElem?_eq_some_iff.mp hx).1
              have hq : x_v ρ (.ref q) = .ref (sA q) := congrArg Value.ref (hat.2.2.2.2 q h1)
              have hxv := x_cv hat (h4 x (List.mem_of_getElem? hx)).1
              rw [List.map_cons, List.map_cons, hq]
              refine va_tc F.1 F.2.1 hT hat.2.2.1 (x_vin hi hlt) (v := x_v ρ x) ?_ hd (hk.same rfl hat)
              rw [hxv]
              exact congrArg (x_v sA) (x_getD hx)
            · cases h
          · cases h
        · cases h
  · cases h
theorem x_st_baload  (F : x_F A D cA sA M p s m args meth c) (hat : x_at A D cA sA ρ M s H locs ls L σ) (ho : xok M pc (.baload) nx a b v) (h : xnext M (.baload) nx a b v L st σ = some (.inl g)) (hct : xct_ok) (hk : x_K A D cA sA ρ M p l e R s m args below meth c cells slots Q σ g) : W p l e R s m args below meth c H locs cells slots Q (F0 m pc ls (st.map (x_v ρ))) := by
  obtain ⟨hd, rfl⟩ := ho
  simp only [xnext, xald] at h
  split at h
  · rename_i i q r
    split at h
    · cases h
    · rename_i hi
      split at h
      · rename_i t' l' hp
        split at h
        · rename_i ht
          subst ht
          split at h
          · rename_i x hx
            cases h
            have hcell := x_ws_at (cA := cA) (ρ := ρ) hp
            refine va_bald F.1 F.2.1 F.2.2.2.2.2.2.2.2.1 hat.1 q 2 hcell (x_ty (by decide)) (x_vin hi (List.getElem?_eq_some_iff.mp hx).1) hd ?_
            rw [x_getD hx]
            exact hk.same rfl hat
          · cases h
        · cases h
      · cases h
      · rename_i hp
        split at h
        · rename_i t' l' hl
          split at h
          · rename_i ht
            subst ht
            split at h
            · rename_i x hx
              cases h
              obtain ⟨h1, h2, -, h4⟩ := hct _ _ _ hl
              have hT := F.2.2.2.2.2.2.2.2.2.1.2.2.2.1 _ h2
              have hlt := (List.getElem?_eq_some_iff.mp hx).1
              have hq : x_v ρ (.ref q) = .ref (sA q) := congrArg Value.ref (hat.2.2.2.2 q h1)
              have hxv := x_cv hat (h4 x (List.mem_of_getElem? hx)).1
              rw [List.map_cons, List.map_cons, hq]
              refine va_tb F.1 F.2.1 hT hat.2.2.1 (x_vin hi hlt) (v := x_v ρ x) ?_ hd (hk.same rfl hat)
              rw [hxv]
              exact congrArg (x_v sA) (x_getD hx)
            · cases h
          · cases h
        · cases h
  · cases h
theorem x_st_iastore  (F : x_F A D cA sA M p s m args meth c) (hat : x_at A D cA sA ρ M s H locs ls L σ) (ho : xok M pc (.iastore) nx a b v) (h : xnext M (.iastore) nx a b v L st σ = some (.inl g))  (hk : x_K A D cA sA ρ M p l e R s m args below meth c cells slots Q σ g) : W p l e R s m args below meth c H locs cells slots Q (F0 m pc ls (st.map (x_v ρ))) := by
  obtain ⟨hd, rfl⟩ := ho
  simp only [xnext, xast] at h
  split at h
  · rename_i x i q r
    split at h
    · cases h
    · rename_i hi
      split at h
      · rename_i t' l' hp
        split at h
        · rename_i ht
          obtain ⟨rfl, hlt⟩ := ht
          cases h
          have hcell := x_ws_at (cA := cA) (ρ := ρ) hp
          refine va_iast F.1 F.2.1 F.2.2.2.2.2.2.2.2.1 hat.1 hat.2.1 hat.2.2.1 q 0 hcell (x_ty (by decide)) (x_vin hi hlt) hd (fun H1 locs1 hP hD hS => ?_)
          refine hk ρ ls H1 locs1 cells slots x_ag.rf rfl rfl (x_wr (cl := .inr (.inl (0, l'.set i.toNatClampNeg (xnar 0 x)))) hat ?_ ?_ hS)
          · rw [x_cset hlt]; exact hP
          · rw [x_cset hlt]; exact hD
        · cases h
      · cases h
  · cases h
theorem x_st_castore  (F : x_F A D cA sA M p s m args meth c) (hat : x_at A D cA sA ρ M s H locs ls L σ) (ho : xok M pc (.castore) nx a b v) (h : xnext M (.castore) nx a b v L st σ = some (.inl g))  (hk : x_K A D cA sA ρ M p l e R s m args below meth c cells slots Q σ g) : W p l e R s m args below meth c H locs cells slots Q (F0 m pc ls (st.map (x_v ρ))) := by
  obtain ⟨hd, rfl⟩ := ho
  simp only [xnext, xast] at h
  split at h
  · rename_i x i q r
    split at h
    · cases h
    · rename_i hi
      split at h
      · rename_i t' l' hp
        split at h
        · rename_i ht
          obtain ⟨rfl, hlt⟩ := ht
          cases h
          have hcell := x_ws_at (cA := cA) (ρ := ρ) hp
          refine va_cast F.1 F.2.1 F.2.2.2.2.2.2.2.2.1 hat.1 hat.2.1 hat.2.2.1 q 1 hcell (x_ty (by decide)) (x_vin hi hlt) hd (fun H1 locs1 hP hD hS => ?_)
          refine hk ρ ls H1 locs1 cells slots x_ag.rf rfl rfl (x_wr (cl := .inr (.inl (1, l'.set i.toNatClampNeg (xnar 1 x)))) hat ?_ ?_ hS)
          · rw [x_cset hlt]; exact hP
          · rw [x_cset hlt]; exact hD
        · cases h
      · cases h
  · cases h
theorem x_st_bastore  (F : x_F A D cA sA M p s m args meth c) (hat : x_at A D cA sA ρ M s H locs ls L σ) (ho : xok M pc (.bastore) nx a b v) (h : xnext M (.bastore) nx a b v L st σ = some (.inl g))  (hk : x_K A D cA sA ρ M p l e R s m args below meth c cells slots Q σ g) : W p l e R s m args below meth c H locs cells slots Q (F0 m pc ls (st.map (x_v ρ))) := by
  obtain ⟨hd, rfl⟩ := ho
  simp only [xnext, xast] at h
  split at h
  · rename_i x i q r
    split at h
    · cases h
    · rename_i hi
      split at h
      · rename_i t' l' hp
        split at h
        · rename_i ht
          obtain ⟨rfl, hlt⟩ := ht
          cases h
          have hcell := x_ws_at (cA := cA) (ρ := ρ) hp
          refine va_bast F.1 F.2.1 F.2.2.2.2.2.2.2.2.1 hat.1 hat.2.1 hat.2.2.1 q 2 hcell (x_ty (by decide)) (x_vin hi hlt) hd (fun H1 locs1 hP hD hS => ?_)
          refine hk ρ ls H1 locs1 cells slots x_ag.rf rfl rfl (x_wr (cl := .inr (.inl (2, l'.set i.toNatClampNeg (xnar 2 x)))) hat ?_ ?_ hS)
          · rw [x_cset hlt]; exact hP
          · rw [x_cset hlt]; exact hD
        · cases h
      · cases h
  · cases h
theorem x_st_laload  (F : x_F A D cA sA M p s m args meth c) (hat : x_at A D cA sA ρ M s H locs ls L σ) (ho : xok M pc (.laload) nx a b v) (h : xnext M (.laload) nx a b v L st σ = some (.inl g)) (hg : xgok (pc, L, st, σ)) (hk : x_K A D cA sA ρ M p l e R s m args below meth c cells slots Q σ g) : W p l e R s m args below meth c H locs cells slots Q (F0 m pc ls (st.map (x_v ρ))) := by
  obtain ⟨hd, rfl⟩ := ho
  simp only [xnext] at h
  split at h
  · rename_i i q r
    split at h
    · cases h
    · rename_i hi
      split at h
      · rename_i t' l' hp
        split at h
        · rename_i x hx
          cases h
          have ht : t' = 3 := hg.1.at hp
          subst ht
          have hcell := x_ws_at (cA := cA) (ρ := ρ) hp
          refine va_lald F.1 F.2.1 F.2.2.2.2.2.2.2.2.1 hat.1 q 3 hcell (x_ty (by decide)) (x_vin hi (List.getElem?_eq_some_iff.mp hx).1) hd ?_
          rw [x_getD hx]
          exact hk.same rfl hat
        · cases h
      · cases h
  · cases h
theorem x_st_lastore  (F : x_F A D cA sA M p s m args meth c) (hat : x_at A D cA sA ρ M s H locs ls L σ) (ho : xok M pc (.lastore) nx a b v) (h : xnext M (.lastore) nx a b v L st σ = some (.inl g)) (hg : xgok (pc, L, st, σ)) (hk : x_K A D cA sA ρ M p l e R s m args below meth c cells slots Q σ g) : W p l e R s m args below meth c H locs cells slots Q (F0 m pc ls (st.map (x_v ρ))) := by
  obtain ⟨hd, rfl⟩ := ho
  simp only [xnext] at h
  split at h
  · rename_i x i q r
    split at h
    · cases h
    · rename_i hi
      split at h
      · rename_i t' l' hp
        split at h
        · rename_i hlt
          cases h
          have ht : t' = 3 := hg.1.at hp
          subst ht
          have hcell := x_ws_at (cA := cA) (ρ := ρ) hp
          refine va_last F.1 F.2.1 F.2.2.2.2.2.2.2.2.1 hat.1 hat.2.1 hat.2.2.1 q 3 hcell (x_ty (by decide)) (x_vin hi hlt) hd (fun H1 locs1 hP hD hS => ?_)
          refine hk ρ ls H1 locs1 cells slots x_ag.rf rfl rfl (x_wr (cl := .inr (.inr (.inl (3, l'.set i.toNatClampNeg x)))) hat ?_ ?_ hS)
          · rw [x_csetL hlt]; exact hP
          · rw [x_csetL hlt]; exact hD
        · cases h
      · cases h
  · cases h
end STEP3
end
section
/-! STEPS: arrays of references, lengths, new cells, copies. -/
section STEP4
variable {p : Program} {l : Launch} {e : Env} {R : Room} {s : State} {m : MethodId} {args : Array Value} {below : List Frame} {meth : Method} {c : Code} {H : Heap} {locs : List Loc} {cells slots : Nat} {Q : State → Prop}
variable {A : Nat → Prop} {D : va_G} {cA : Nat → ClassId} {sA ρ : Nat → Nat} {M : Nat} {ls : Array Slot} {L st : List Value} {σ : xS} {pc nx a b : Nat} {v : Value} {g : xGo}
theorem x_aldr {cc : ByteArray} {rest : List Value} {tys : List (ClassId × FieldType)} {ws : va_W} {cl : List vw_C} {a9 : Nat} (hexec : p.tables.exec = Jvm.exec) (hb : c.code = cc) (hK : va_K D cl tys s) (hP : va_P D cl ws H) (q0 t0 : Nat) {cB : ClassId} {ty : FieldType} {n : Nat} {f : Nat → Option Nat} (ha : ws[q0]? = some (a9, .inl (cB, n, .inr (.inr (.inr (.inr f)))))) (ht : tys[t0]? = some (cB, ty)) (hr : ty.isReference = true) {i : Int32} (hin : vp_in i n) (hdg : decode cc pc = .ok (.aaload, 1))
    (kk : W p l e R s m args below meth c H locs cells slots Q (F0 m (pc + 1) ls (va_rf (f i.toNatClampNeg) :: rest))) : W p l e R s m args below meth c H locs cells slots Q (F0 m pc ls (.int i :: .ref a9 :: rest)) := by
  have hlt : i.toNatClampNeg < n := Nat.not_le.mp fun q => hin (Or.inr q)
  exact W.aald (v := va_rf (f i.toNatClampNeg)) (ty := ty) hexec hb (hP q0 _ ha) ((hK.2 t0 _ ht).1 n (fun j => va_rf (f j))) hr (fun q => by cases q) (by show ¬ (i < 0 ∨ (arrV _ _ _).slots.size ≤ _); rw [arrV_size]; exact hin) (by show (arrV _ _ _).slots[_]? = _; rw [arrV_read _ _ hlt]) rfl rfl hdg kk
theorem x_isref {t : Nat} (h : 4 ≤ t) (k : t < 8) : (xkt t).isReference = true := by
  match t, h, k with
  | 4, _, _ => rfl
  | 5, _, _ => rfl
  | 6, _, _ => rfl
  | 7, _, _ => rfl
theorem x_st_aaload  (F : x_F A D cA sA M p s m args meth c) (hat : x_at A D cA sA ρ M s H locs ls L σ) (ho : xok M pc (.aaload) nx a b v) (h : xnext M (.aaload) nx a b v L st σ = some (.inl g)) (hct : xct_ok) (hg : xgok (pc, L, st, σ)) (hk : x_K A D cA sA ρ M p l e R s m args below meth c cells slots Q σ g) : W p l e R s m args below meth c H locs cells slots Q (F0 m pc ls (st.map (x_v ρ))) := by
  obtain ⟨hd, rfl⟩ := ho
  simp only [xnext] at h
  split at h
  · rename_i i q r
    split at h
    · cases h
    · rename_i hi
      split at h
      · rename_i t' l' hp
        split at h
        · rename_i x hx
          cases h
          have hc := hg.1.at hp
          have hcell := x_ws_at (cA := cA) (ρ := ρ) hp
          refine x_aldr F.1 F.2.1 F.2.2.2.2.2.2.2.2.1 hat.1 q t' hcell (x_ty hc.2.1) (x_isref hc.1 hc.2.1) (x_vin hi (List.getElem?_eq_some_iff.mp hx).1) hd ?_
          have e9 : va_rf ((l'.getD i.toNatClampNeg none).map ρ) = x_v ρ (va_rf x) := by
            rw [x_getD hx]
            cases x <;> rfl
          have := hk.same rfl hat
          rw [List.map_cons, ← e9] at this
          exact this
        · cases h
      · cases h
      · rename_i hp
        split at h
        · rename_i t' l' hl
          split at h
          · rename_i ht
            split at h
            · rename_i x hx
              cases h
              obtain ⟨h1, h2, h3, h4⟩ := hct _ _ _ hl
              have hT := F.2.2.2.2.2.2.2.2.2.1.2.2.2.1 _ h2
              have hlt := (List.getElem?_eq_some_iff.mp hx).1
              have hq : x_v ρ (.ref q) = .ref (sA q) := congrArg Value.ref (hat.2.2.2.2 q h1)
              have hxv := x_cv hat (h4 x (List.mem_of_getElem? hx)).1
              have hre : x_v ρ x = x_v sA (l'.getD i.toNatClampNeg .null) := by rw [hxv, x_getD hx]
              rw [List.map_cons, List.map_cons, hq]
              rcases h3 with h3 | rfl | rfl
              · omega
              · exact vb_tq (C := RX1) F.1 F.2.1 hT hat.2.2.1 (x_vin hi hlt) (v := x_v ρ x) hre.symm hd (hk.same rfl hat)
              · exact vb_tq (C := "java/lang/String") F.1 F.2.1 hT hat.2.2.1 (x_vin hi hlt) (v := x_v ρ x) hre.symm hd (hk.same rfl hat)
            · cases h
          · cases h
        · cases h
  · cases h
/-- the classes of receivers: numbers below 1000 are the pool's, others the constants' -/
def xrc_ok : Prop := (∀ q k, xco q = some k → xB ≤ q ∧ 1000 ≤ k ∧ (q, xcn k) ∈ xobs) ∧ (xkc 4 < 1000 ∧ ∃ T N, vwCl[xkc 4]? = some (RX4, T, N)) ∧ xcn (xkc 5) = RX1 ∧ 1000 ≤ xkc 5
theorem x_rcv (F : x_F A D cA sA M p s m args meth c) (hat : x_at A D cA sA ρ M s H locs ls L σ) (hrc : xrc_ok) {q k : Nat} {C : String} (h : xrcv k σ (.ref q) = true) (hC : (k < 1000 → ∃ T N, vwCl[k]? = some (C, T, N)) ∧ (1000 ≤ k → xcn k = C)) (hk9 : ∀ (r : Nat) (cl : Nat) (fs : List Value), σ.1[r]? = some (.inl (cl, fs)) → cl < 1000) :
    ∃ cell : Cell, H[ρ q]? = some cell ∧ cell.vm.isStatics = false ∧ s.vm.findClass C = some cell.cls := by
  simp only [xrcv] at h
  split at h
  · rename_i c9 fs hp
    have e9 : c9 = k := by simpa using h
    subst e9
    obtain ⟨T, N, hc⟩ := hC.1 (hk9 _ _ _ hp)
    exact va_recv F.2.2.2.2.2.2.2.2.1 hat.1 hc (x_ws_at (cA := cA) (ρ := ρ) hp)
  · cases h
  · have e9 : xco q = some k := by simpa using h
    obtain ⟨h1, h2, h3⟩ := hrc.1 _ _ e9
    obtain ⟨cell, k1, k2, k3, k4⟩ := F.2.2.2.2.2.2.2.2.2.1.2.1 _ h3
    refine ⟨cell, ?_, k2, ?_⟩
    · rw [hat.2.2.2.2 q h1, hat.2.2.1.2.1 _ (Array.getElem?_eq_some_iff.mp k1).1 k4]; exact k1
    · rw [← hC.2 h2]; exact k3
theorem x_st_arraylength  (F : x_F A D cA sA M p s m args meth c) (hat : x_at A D cA sA ρ M s H locs ls L σ) (ho : xok M pc (.arraylength) nx a b v) (h : xnext M (.arraylength) nx a b v L st σ = some (.inl g)) (hct : xct_ok) (hg : xgok (pc, L, st, σ)) (hk : x_K A D cA sA ρ M p l e R s m args below meth c cells slots Q σ g) : W p l e R s m args below meth c H locs cells slots Q (F0 m pc ls (st.map (x_v ρ))) := by
  obtain ⟨hd, rfl⟩ := ho
  simp only [xnext] at h
  split at h
  · rename_i q r
    split at h
    · rename_i cl hp
      split at h
      · rename_i n hn
        cases h
        have hcell := x_ws_at (cA := cA) (ρ := ρ) hp
        have hc := hg.1.at hp
        match cl, hn, hc, hcell with
        | .inr (.inl (t, l')), hn, hc, hcell =>
          cases hn
          exact va_alen F.1 F.2.1 F.2.2.2.2.2.2.2.2.1 hat.1 q t hcell (x_ty (by have := hc.1; omega)) rfl hd (hk.same rfl hat)
        | .inr (.inr (.inl (t, l'))), hn, hc, hcell =>
          cases hn
          have ht : t = 3 := hc
          exact va_alen F.1 F.2.1 F.2.2.2.2.2.2.2.2.1 hat.1 q t hcell (x_ty (by omega)) rfl hd (hk.same rfl hat)
        | .inr (.inr (.inr (t, l'))), hn, hc, hcell =>
          cases hn
          exact va_alen F.1 F.2.1 F.2.2.2.2.2.2.2.2.1 hat.1 q t hcell (x_ty hc.2.1) rfl hd (hk.same rfl hat)
      · cases h
    · split at h
      · rename_i t' l' hl
        cases h
        obtain ⟨h1, h2, -, -⟩ := hct _ _ _ hl
        have hT := F.2.2.2.2.2.2.2.2.2.1.2.2.2.1 _ h2
        have hq : x_v ρ (.ref q) = .ref (sA q) := congrArg Value.ref (hat.2.2.2.2 q h1)
        rw [List.map_cons, hq]
        exact va_tlen F.1 F.2.1 hT hat.2.2.1 rfl hd (hk.same rfl hat)
      · cases h
  · cases h
theorem x_st_aastore  (F : x_F A D cA sA M p s m args meth c) (hat : x_at A D cA sA ρ M s H locs ls L σ) (ho : xok M pc (.aastore) nx a b v) (h : xnext M (.aastore) nx a b v L st σ = some (.inl g)) (hrc : xrc_ok) (hg : xgok (pc, L, st, σ)) (hk : x_K A D cA sA ρ M p l e R s m args below meth c cells slots Q σ g) : W p l e R s m args below meth c H locs cells slots Q (F0 m pc ls (st.map (x_v ρ))) := by
  obtain ⟨hd, rfl⟩ := ho
  simp only [xnext] at h
  split at h
  · rename_i z i q r
    split at h
    · cases h
    · rename_i hi
      split at h
      · rename_i t' l' hp
        split at h
        · rename_i hlt
          cases h
          have hcell := x_ws_at (cA := cA) (ρ := ρ) hp
          have hc := hg.1.at hp
          have kk : ∀ (H1 : Heap) (locs1 : List Loc), va_P D vwCl ((x_ws cA ρ σ.1).set q (ρ q, .inl (cA t', l'.length, .inr (.inr (.inr (.inr (va_up (fun j => (l'.getD j none).map ρ) i.toNatClampNeg (some (ρ z))))))))) H1 → va_D A ((x_ws cA ρ σ.1).set q (ρ q, .inl (cA t', l'.length, .inr (.inr (.inr (.inr (va_up (fun j => (l'.getD j none).map ρ) i.toNatClampNeg (some (ρ z))))))))) → va_S A s.heap H1 locs1 → W p l e R s m args below meth c H1 locs1 cells slots Q (F0 m (pc + 1) ls (r.map (x_v ρ))) := by
            intro H1 locs1 hP hD hS
            refine hk ρ ls H1 locs1 cells slots x_ag.rf rfl rfl (x_wr (cl := .inr (.inr (.inr (t', l'.set i.toNatClampNeg (some z))))) hat ?_ ?_ hS)
            · rw [x_csetQ hlt.2.1]; exact hP
            · rw [x_csetQ hlt.2.1]; exact hD
          have hk9 : ∀ (r : Nat) (cl : Nat) (fs : List Value), σ.1[r]? = some (.inl (cl, fs)) → cl < 1000 := fun r9 cl fs h9 => (hg.1.at h9).1
          rcases (show t' = 4 ∨ t' = 5 by have := hc.1; have := hlt.1; omega) with rfl | rfl
          · have hr := x_rcv F hat hrc (C := RX4) hlt.2.2 ⟨fun _ => hrc.2.1.2, fun q9 => absurd hrc.2.1.1 (by omega)⟩ hk9
            exact vb_astq F.1 F.2.1 F.2.2.2.2.2.2.2.2.1 hat.1 hat.2.1 hat.2.2.1 q 4 hcell (x_ty (by decide)) hr vb_asgS (x_vin hi hlt.2.1) hd kk
          · have hr := x_rcv F hat hrc (C := RX1) hlt.2.2 ⟨fun q9 => absurd hrc.2.2.2 (by omega), fun _ => hrc.2.2.1⟩ hk9
            exact vb_astq F.1 F.2.1 F.2.2.2.2.2.2.2.2.1 hat.1 hat.2.1 hat.2.2.1 q 5 hcell (x_ty (by decide)) hr vb_asgS (x_vin hi hlt.2.1) hd kk
        · cases h
      · cases h
  · cases h
end STEP4
end
section
/-! STEPS: new cells, copies, the least and the greatest. -/
section STEP5
variable {p : Program} {l : Launch} {e : Env} {R : Room} {s : State} {m : MethodId} {args : Array Value} {below : List Frame} {meth : Method} {c : Code} {H : Heap} {locs : List Loc} {cells slots : Nat} {Q : State → Prop}
variable {A : Nat → Prop} {D : va_G} {cA : Nat → ClassId} {sA ρ : Nat → Nat} {M : Nat} {ls : Array Slot} {L st : List Value} {σ : xS} {pc nx a b : Nat} {v : Value} {g : xGo}
/-- new cells were made -/
theorem x_more (hat : x_at A D cA sA ρ M s H locs ls L σ) (hs : xsok σ) (hL : xlok σ.1.length L) {ρ' : Nat → Nat} (hag : x_ag σ.1.length ρ ρ') {lc : List xC} {E : va_W} {k n : Nat} {H1 : Heap} {locs1 : List Loc} (hE : (lc.mapIdx fun i c => (ρ' (i + σ.1.length), x_c cA ρ' c)) = E) (hP : va_P D vwCl (x_ws cA ρ σ.1 ++ E) H1) (hD : va_D A (x_ws cA ρ σ.1 ++ E)) (hS : va_S A s.heap H1 locs1) : x_at A D cA sA ρ' M s H1 locs1 ls L (σ.1 ++ lc, k, n) := by
  have hw : x_ws cA ρ' (σ.1 ++ lc) = x_ws cA ρ σ.1 ++ E := by
    unfold x_ws
    rw [List.mapIdx_append, hE]
    congr 1
    exact x_ws_ag hag (Nat.le_refl _) hs
  refine ⟨by rw [hw]; exact hP, by rw [hw]; exact hD, hS, ?_, fun z hz => (hag z (Or.inr hz)).trans (hat.2.2.2.2 z hz)⟩
  rw [x_l_ag hag hL]
  exact hat.2.2.2.1
theorem x_stk {q : Nat} (hn : σ.1.length < xB) {r : List Value} (hr : xlok σ.1.length r) : (Value.ref σ.1.length :: r).map (x_v (x_up ρ σ.1.length q)) = .ref q :: r.map (x_v ρ) := by
  rw [List.map_cons, x_l_ag (x_up_ag hn) hr]
  show Value.ref _ :: _ = _
  rw [x_up_self]
theorem x_CF.hA {U : State} (h : x_CF A sA U) : ∀ q, U.heap.size ≤ q → A q := h.2.2.2.2.2.2.2.2.2.2.2.1
theorem x_big {n : Int32} (h : ¬ 100000 < n) : n.toNatClampNeg ≤ 100000 := by
  have h1 := Int32.not_lt.mp h
  have h2 : n.toInt ≤ 100000 := by simpa using Int32.le_iff_toInt_le.mp h1
  show n.toInt.toNat ≤ 100000
  omega
theorem x_RAu {U : State} {c1 c2 : ClassId} {ty : FieldType} (h1 : va_RA U c1 ty) (h2 : va_RA U c2 ty) : c1 = c2 := by
  cases ty with
  | object C =>
    obtain ⟨_, _, -, -, -, e1⟩ := h1
    obtain ⟨_, _, -, -, -, e2⟩ := h2
    exact Option.some.inj (e1.symm.trans e2)
  | _ => exact Option.some.inj (Eq.trans (Eq.symm h1) h2)
theorem x_KRA {ty : FieldType} {t : Nat} {c1 : ClassId} (hK0 : va_K D vwCl (xtys cA) s) (hK : va_K D vwCl (xtys cA ++ [(c1, ty)]) s) (ht : t < 8) (hty : xkt t = ty) : c1 = cA t := by
  have h1 := (hK.2 8 (c1, ty) (by rw [List.getElem?_append_right (by simp [xtys])]; simp [xtys])).2
  have h2 := (hK0.2 t _ (x_ty ht)).2
  rw [hty] at h2
  exact x_RAu h1 h2
theorem x_nr {l9 : List Value} {r9 : Nat → Nat} (h : ∀ v ∈ l9, ∀ q, v ≠ .ref q) : l9.map (x_v r9) = l9 := by
  refine (List.map_congr_left (g := id) fun z hz => ?_).trans (List.map_id _)
  cases z with
  | ref z => exact absurd rfl (h _ hz z)
  | _ => rfl
theorem x_st_new {k : Nat} (F : x_F A D cA sA M p s m args meth c) (hat : x_at A D cA sA ρ M s H locs ls L σ) (ho : xok M pc (.new k) nx a b v) (h : xnext M (.new k) nx a b v L st σ = some (.inl g)) (hT : xtabs) (hg : xgok (pc, L, st, σ)) (hr1 : cells + g.2.2.2.2.1 ≤ R.cells + σ.2.1) (hr2 : slots + g.2.2.2.2.2 ≤ R.slots + σ.2.2) (hk : x_K A D cA sA ρ M p l e R s m args below meth c cells slots Q σ g) : W p l e R s m args below meth c H locs cells slots Q (F0 m pc ls (st.map (x_v ρ))) := by
  simp only [xnext] at h
  split at h
  · split at h <;> cases h
  · rename_i ha
    split at h
    · rename_i hn
      cases h
      obtain ⟨hd, rfl, C, T, N, ⟨hc, hin, hty, hnm⟩, hlen, hdv, hnr, h1, h2, h3⟩ := ho.2 (Nat.not_le.mp ha)
      have hWA := F.2.2.2.2.2.2.2.1
      simp only [hlen] at hr1 hr2
      refine va_new F.1 F.2.1 hWA hin (xfty a) hty F.2.2.2.1 (hWA _ h1) (hWA _ h2) (hWA _ h3) F.2.2.2.2.2.2.2.2.1 hat.1 hat.2.1 hat.2.2.1 F.2.2.2.2.2.2.2.2.2.1.hA hc (fs := xdef a) hdv (by omega) (by omega) hd (fun q H1 hP hD hS => ?_)
      have hx := hk (x_up ρ σ.1.length q) ls H1 locs (cells + 1) (slots + N) (x_up_ag hn) (by simp only []; omega) (by simp only [hlen]; omega) (x_more hat hg.1 hg.2.1 (x_up_ag hn) ?_ hP hD hS)
      · rw [x_stk hn hg.2.2] at hx
        exact hx
      · show [(x_up ρ σ.1.length q (0 + σ.1.length), (Sum.inr (a, (xdef a).map (x_v _)) : va_E))] = _
        rw [Nat.zero_add, x_up_self, x_nr hnr]
    · cases h
theorem x_repl {α : Type} {n : Nat} {x d : α} (h : x = d) : (fun j => (List.replicate n x).getD j d) = fun _ => d := funext fun j => by
  subst h
  rw [List.getD_eq_getElem?_getD, List.getElem?_replicate]
  split <;> rfl
/-- what a new array of ints, chars, bytes or longs holds -/
def x_z (a n : Nat) : vp_A := if a < 3 then (n, .inl fun _ => 0) else (n, .inr (.inl fun _ => 0))
theorem x_z_cell {a n : Nat} (ha : a < 4) (c9 : ClassId) : vp_cell c9 (x_z a n) = arrV c9 n (fun _ => defaultValue (xkt a)) := by
  match a, ha with
  | 0, _ => rfl
  | 1, _ => rfl
  | 2, _ => rfl
  | 3, _ => rfl
theorem x_z_c {a n : Nat} (ha : a < 4) {ρ : Nat → Nat} : x_c cA ρ (xzero a n) = .inl (cA a, x_z a n) := by
  have e (t : Nat) : x_c cA ρ (.inr (.inl (t, List.replicate n 0))) = .inl (cA t, n, .inl fun _ => 0) := by
    show Sum.inl (cA t, (List.replicate n (0 : Int32)).length, Sum.inl (fun j => (List.replicate n (0 : Int32)).getD j 0)) = _
    rw [x_repl rfl, List.length_replicate]
  have e3 : x_c cA ρ (.inr (.inr (.inl (3, List.replicate n 0)))) = .inl (cA 3, n, .inr (.inl fun _ => 0)) := by
    show Sum.inl (cA 3, (List.replicate n (0 : Int64)).length, Sum.inr (Sum.inl (fun j => (List.replicate n (0 : Int64)).getD j 0))) = _
    rw [x_repl rfl, List.length_replicate]
  match a, ha with
  | 0, _ => exact e 0
  | 1, _ => exact e 1
  | 2, _ => exact e 2
  | 3, _ => exact e3
theorem x_qz {a n : Nat} (ha : 4 ≤ a) {ρ : Nat → Nat} : x_c cA ρ (xzero a n) = .inl (cA a, n, .inr (.inr (.inr (.inr fun _ => none)))) := by
  have e : xzero a n = .inr (.inr (.inr (a, List.replicate n none))) := by
    unfold xzero
    rw [if_neg (by omega), if_neg (by omega)]
  rw [e]
  show Sum.inl (cA a, (List.replicate n (none : Option Nat)).length, Sum.inr (Sum.inr (Sum.inr (Sum.inr (fun j => ((List.replicate n (none : Option Nat)).getD j none).map ρ))))) = _
  rw [List.length_replicate]
  refine congrArg (fun f => Sum.inl (cA a, n, Sum.inr (Sum.inr (Sum.inr (Sum.inr f))))) (funext fun j => ?_)
  rw [List.getD_eq_getElem?_getD, List.getElem?_replicate]
  split <;> rfl
theorem x_cb {a : Nat} (ha : a < 4) : componentBytes (xkt a) ≤ 8 := by
  match a, ha with
  | 0, _ => decide
  | 1, _ => decide
  | 2, _ => decide
  | 3, _ => decide
theorem x_st_newarray {at_ : ArrayType} (F : x_F A D cA sA M p s m args meth c) (hat : x_at A D cA sA ρ M s H locs ls L σ) (ho : xok M pc (.newarray at_) nx a b v) (h : xnext M (.newarray at_) nx a b v L st σ = some (.inl g)) (hg : xgok (pc, L, st, σ)) (hr1 : cells + g.2.2.2.2.1 ≤ R.cells + σ.2.1) (hr2 : slots + g.2.2.2.2.2 ≤ R.slots + σ.2.2) (hk : x_K A D cA sA ρ M p l e R s m args below meth c cells slots Q σ g) : W p l e R s m args below meth c H locs cells slots Q (F0 m pc ls (st.map (x_v ρ))) := by
  obtain ⟨hd, rfl, ha, hty, hw⟩ := ho
  obtain ⟨n, r, rfl, h9⟩ := x1i_some h
  split at h9
  · cases h9
  · rename_i hc
    cases h9
    have hn0 : ¬ n < 0 := fun q => hc (Or.inl q)
    have hn1 : n.toNatClampNeg ≤ 100000 := x_big fun q => hc (Or.inr (Or.inl q))
    have hn : σ.1.length < xB := Nat.not_le.mp fun q => hc (Or.inr (Or.inr q))
    have hcb := x_cb ha
    have hmul : n.toNatClampNeg * componentBytes (xkt a) ≤ 100000 * 8 := Nat.mul_le_mul hn1 hcb
    simp only [] at hr1 hr2
    refine va_newa F.1 F.2.1 (F.2.2.2.2.2.2.2.1 _ hw) hty F.2.2.2.2.2.2.2.2.1 hat.1 hat.2.1 hat.2.2.1 F.2.2.2.2.2.2.2.2.2.1.hA (a0 := x_z a n.toNatClampNeg) (x_z_cell ha) hn0 rfl (by omega) (by omega) (by omega) hd (fun q c1 H1 hK hP hD hS => ?_)
    have ec := x_KRA F.2.2.2.2.2.2.2.2.1 hK (by omega) rfl
    subst ec
    have hx := hk (x_up ρ σ.1.length q) ls H1 locs (cells + 1) (slots + n.toNatClampNeg) (x_up_ag hn) (by simp only []; omega) (by simp only []; omega) (x_more hat hg.1 hg.2.1 (x_up_ag hn) ?_ hP hD hS)
    · rw [x_stk hn hg.2.2.tl] at hx
      exact hx
    · show [(x_up ρ σ.1.length q (0 + σ.1.length), x_c cA _ (xzero a n.toNatClampNeg))] = _
      rw [Nat.zero_add, x_up_self, x_z_c ha]
theorem x_st_anewarray {k : Nat} (F : x_F A D cA sA M p s m args meth c) (hat : x_at A D cA sA ρ M s H locs ls L σ) (ho : xok M pc (.anewarray k) nx a b v) (h : xnext M (.anewarray k) nx a b v L st σ = some (.inl g)) (hg : xgok (pc, L, st, σ)) (hr1 : cells + g.2.2.2.2.1 ≤ R.cells + σ.2.1) (hr2 : slots + g.2.2.2.2.2 ≤ R.slots + σ.2.2) (hk : x_K A D cA sA ρ M p l e R s m args below meth c cells slots Q σ g) : W p l e R s m args below meth c H locs cells slots Q (F0 m pc ls (st.map (x_v ρ))) := by
  obtain ⟨hd, rfl, ha, C, hty, hw, hao⟩ := ho
  have ha' : 4 ≤ a ∧ a < 8 := by omega
  obtain ⟨n, r, rfl, h9⟩ := x1i_some h
  split at h9
  · cases h9
  · rename_i hc
    cases h9
    have hn0 : ¬ n < 0 := fun q => hc (Or.inl q)
    have hn1 : n.toNatClampNeg ≤ 100000 := x_big fun q => hc (Or.inr (Or.inl q))
    have hn : σ.1.length < xB := Nat.not_le.mp fun q => hc (Or.inr (Or.inr q))
    simp only [] at hr1 hr2
    refine va_newq F.1 F.2.1 F.2.2.2.1 (F.2.2.2.2.2.2.2.1 _ hw) (F.2.2.2.2.2.2.2.2.2.1.2.2.2.2.2.2.2.1 _ hao) F.2.2.2.2.2.2.2.2.1 hat.1 hat.2.1 hat.2.2.1 F.2.2.2.2.2.2.2.2.2.1.hA hn0 rfl (by omega) (by omega) (by omega) hd (fun q c1 H1 hK hP hD hS => ?_)
    have ec := x_KRA F.2.2.2.2.2.2.2.2.1 hK ha'.2 hty
    subst ec
    have hx := hk (x_up ρ σ.1.length q) ls H1 locs (cells + 1) (slots + n.toNatClampNeg) (x_up_ag hn) (by simp only []; omega) (by simp only []; omega) (x_more hat hg.1 hg.2.1 (x_up_ag hn) ?_ hP hD hS)
    · rw [x_stk hn hg.2.2.tl] at hx
      exact hx
    · show [(x_up ρ σ.1.length q (0 + σ.1.length), x_c cA _ (xzero a n.toNatClampNeg))] = _
      rw [Nat.zero_add, x_up_self, x_qz ha'.1]
/-- the numbers of an array's rows -/
def x_ups (ρ : Nat → Nat) (n q N : Nat) (r : Nat → Nat) : Nat → Nat := fun x => if x = n then q else if n < x ∧ x < n + 1 + N then r (x - (n + 1)) else ρ x
theorem x_ups_ag {n q N : Nat} {r : Nat → Nat} (h : n + N < xB) : x_ag n ρ (x_ups ρ n q N r) := fun z hz => by
  unfold x_ups
  rw [if_neg (by rintro rfl; omega), if_neg (by omega)]
theorem x_ups_self {n q N : Nat} {r : Nat → Nat} : x_ups ρ n q N r n = q := if_pos rfl
theorem x_ups_row {n q N j : Nat} {r : Nat → Nat} (hj : j < N) : x_ups ρ n q N r (n + 1 + j) = r j := by
  unfold x_ups
  rw [if_neg (by omega), if_pos (by omega)]
  congr 1
  omega
theorem x_cons {α : Type} {a b : α} {l l' : List α} (h : a = b) (k : l = l') : a :: l = b :: l' := by rw [h, k]
theorem x_st_multi {k n9 : Nat} (F : x_F A D cA sA M p s m args meth c) (hat : x_at A D cA sA ρ M s H locs ls L σ) (ho : xok M pc (.multianewarray k n9) nx a b v) (h : xnext M (.multianewarray k n9) nx a b v L st σ = some (.inl g)) (hg : xgok (pc, L, st, σ)) (hr1 : cells + g.2.2.2.2.1 ≤ R.cells + σ.2.1) (hr2 : slots + g.2.2.2.2.2 ≤ R.slots + σ.2.2) (hk : x_K A D cA sA ρ M p l e R s m args below meth c cells slots Q σ g) : W p l e R s m args below meth c H locs cells slots Q (F0 m pc ls (st.map (x_v ρ))) := by
  obtain ⟨hd, rfl, rfl, hab, hw1, hw2, hao⟩ := ho
  obtain ⟨n, K, r, rfl, h9⟩ := x2i_some h
  split at h9
  · cases h9
  · rename_i hc
    cases h9
    have hn0 : ¬ n < 0 := fun q => hc (Or.inl q)
    have hn1 : n.toNatClampNeg ≤ 100000 := x_big fun q => hc (Or.inr (Or.inl q))
    have hk0 : ¬ K < 0 := fun q => hc (Or.inr (Or.inr (Or.inl q)))
    have hk1 : K.toNatClampNeg ≤ 100000 := x_big fun q => hc (Or.inr (Or.inr (Or.inr (Or.inl q))))
    have hn : σ.1.length + n.toNatClampNeg < xB := Nat.not_le.mp fun q => hc (Or.inr (Or.inr (Or.inr (Or.inr q))))
    have ha : a < 4 := by omega
    have hb8 : b < 8 := by omega
    have hcb := x_cb ha
    have hmul : K.toNatClampNeg * componentBytes (xkt a) ≤ 100000 * 8 := Nat.mul_le_mul hk1 hcb
    have hkb : xkt b = .array (xkt a) := by
      rcases hab with ⟨rfl, rfl⟩ | ⟨rfl, rfl⟩ <;> rfl
    have hcy : s.vm.findClass (FieldType.array (xkt a)).toString = some (cA a) := by
      have h1 := (F.2.2.2.2.2.2.2.2.1.2 a _ (x_ty (by omega))).2
      rcases hab with ⟨rfl, rfl⟩ | ⟨rfl, rfl⟩ <;> exact h1
    have hdf : fits (xkt a) (defaultValue (xkt a)) = true ∧ (defaultValue (xkt a)).isDefault = true := by
      rcases hab with ⟨rfl, rfl⟩ | ⟨rfl, rfl⟩ <;> exact ⟨rfl, rfl⟩
    simp only [] at hr1 hr2
    refine va_mna (X := x_ws cA ρ σ.1) (L := []) (f := fun _ => .inr (0, [])) F.1 F.2.1 F.2.2.2.1 (F.2.2.2.2.2.2.2.1 _ hw1) (F.2.2.2.2.2.2.2.2.2.1.2.2.2.2.2.2.2.2.1 _ hao) (F.2.2.2.2.2.2.2.1 _ hw2) hcy F.2.2.2.2.2.2.2.2.1 (by simpa [va_pl] using hat.1) (by simpa [va_pl] using hat.2.1) hat.2.2.1 F.2.2.2.2.2.2.2.2.2.1.hA (z := x_z a K.toNatClampNeg) hn0 hk0 rfl rfl (by omega) (by omega) (by omega) hdf.1 hdf.2 (by omega) (by omega) (fun c9 => (arrV_new c9 _ _).trans (x_z_cell ha c9).symm) hd (fun q rr c1 H1 hinj _ hK hP hD hS => ?_)
    have ec := x_KRA F.2.2.2.2.2.2.2.2.1 hK hb8 hkb
    subst ec
    have hE : ((((Sum.inr (Sum.inr (Sum.inr (b, (List.range n.toNatClampNeg).map (fun j => some (σ.1.length + 1 + j))))) :: List.replicate n.toNatClampNeg (xzero a K.toNatClampNeg)) : List xC).mapIdx fun i c => (x_ups ρ σ.1.length q n.toNatClampNeg rr (i + σ.1.length), x_c cA (x_ups ρ σ.1.length q n.toNatClampNeg rr) c))) =
        [(q, ((.inl (cA b, n.toNatClampNeg, .inr (.inr (.inr (.inr (fun i => if i < n.toNatClampNeg then some (rr i) else none))))) : va_E)))] ++ va_pl ([] ++ (List.range n.toNatClampNeg).map rr) (vr_up (fun _ => .inr (0, [])) ((List.range n.toNatClampNeg).map rr) (.inl (cA a, x_z a K.toNatClampNeg))) := by
      rw [List.mapIdx_cons, List.singleton_append, List.nil_append]
      refine x_cons ?_ ?_
      · rw [Nat.zero_add, x_ups_self]
        refine congrArg (Prod.mk q) ?_
        show Sum.inl (cA b, ((List.range n.toNatClampNeg).map (fun j => some (σ.1.length + 1 + j))).length, Sum.inr (Sum.inr (Sum.inr (Sum.inr (fun j => (((List.range n.toNatClampNeg).map (fun j => some (σ.1.length + 1 + j))).getD j none).map _))))) = _
        rw [List.length_map, List.length_range]
        refine congrArg (fun f => Sum.inl (cA b, n.toNatClampNeg, Sum.inr (Sum.inr (Sum.inr (Sum.inr f))))) (funext fun j => ?_)
        rw [List.getD_eq_getElem?_getD, List.getElem?_map]
        by_cases hj : j < n.toNatClampNeg
        · rw [List.getElem?_range hj, if_pos hj]
          exact congrArg some (x_ups_row hj)
        · rw [if_neg hj, List.getElem?_eq_none (by simpa using hj)]
          rfl
      · refine List.ext_getElem? fun j => ?_
        rw [List.getElem?_mapIdx, List.getElem?_replicate]
        unfold va_pl
        rw [List.map_map, List.getElem?_map]
        by_cases hj : j < n.toNatClampNeg
        · rw [if_pos hj, List.getElem?_range hj]
          show some (x_ups ρ σ.1.length q n.toNatClampNeg rr (j + 1 + σ.1.length), x_c cA _ (xzero a K.toNatClampNeg)) = some (rr j, vr_up _ _ _ (rr j))
          rw [show j + 1 + σ.1.length = σ.1.length + 1 + j by omega, x_ups_row hj, x_z_c ha, vr_up_in (List.mem_map.mpr ⟨j, List.mem_range.mpr hj, rfl⟩)]
        · rw [if_neg hj, List.getElem?_eq_none (by simpa using hj)]
          rfl
    rw [List.append_assoc] at hP hD
    have hx := hk (x_ups ρ σ.1.length q n.toNatClampNeg rr) ls H1 locs (cells + 1 + n.toNatClampNeg) (slots + n.toNatClampNeg + n.toNatClampNeg * K.toNatClampNeg) (x_ups_ag hn) (by simp only []; omega) (by simp only []; omega) (x_more hat hg.1 hg.2.1 (x_ups_ag hn) hE hP hD hS)
    rw [List.map_cons, x_l_ag (x_ups_ag hn) hg.2.2.tl.tl] at hx
    have e0 : x_v (x_ups ρ σ.1.length q n.toNatClampNeg rr) (.ref σ.1.length) = .ref q := congrArg Value.ref x_ups_self
    rw [e0] at hx
    exact hx
theorem x_ccpy {t sp dp n : Nat} {f g : List Int32} (h1 : sp + n ≤ f.length) (h2 : dp + n ≤ g.length) : x_c cA ρ (.inr (.inl (t, g.take dp ++ ((f.drop sp).take n ++ g.drop (dp + n))))) = .inl (cA t, g.length, .inl (va_cpy (fun j => f.getD j 0) (fun j => g.getD j 0) sp dp n)) := by
  have hl : (g.take dp ++ ((f.drop sp).take n ++ g.drop (dp + n))).length = g.length := by
    simp only [List.length_append, List.length_take, List.length_drop]
    omega
  show Sum.inl (cA t, (g.take dp ++ ((f.drop sp).take n ++ g.drop (dp + n))).length, Sum.inl _) = _
  rw [hl]
  refine congrArg (fun z => Sum.inl (cA t, g.length, Sum.inl z)) (funext fun j => ?_)
  have l1 : (g.take dp).length = dp := by rw [List.length_take]; omega
  have l2 : ((f.drop sp).take n).length = n := by rw [List.length_take, List.length_drop]; omega
  simp only [List.getD_eq_getElem?_getD, va_cpy]
  by_cases h3 : j < dp
  · rw [if_neg (by omega), List.getElem?_append_left (by omega), List.getElem?_take_of_lt h3]
  · by_cases h4 : j < dp + n
    · rw [if_pos (by omega), List.getElem?_append_right (by omega), l1, List.getElem?_append_left (by omega), List.getElem?_take_of_lt (by omega), List.getElem?_drop]
    · rw [if_neg (by omega), List.getElem?_append_right (by omega), l1, List.getElem?_append_right (by omega), l2, List.getElem?_drop, show dp + n + (j - dp - n) = j by omega]
theorem x_prim {t : Nat} (h : t < 3) : refKind (xkt t) = false := by
  match t, h with
  | 0, _ => rfl
  | 1, _ => rfl
  | 2, _ => rfl
theorem x_st_static {k : Nat} (F : x_F A D cA sA M p s m args meth c) (hat : x_at A D cA sA ρ M s H locs ls L σ) (ho : xok M pc (.invokestatic k) nx a b v) (h : xnext M (.invokestatic k) nx a b v L st σ = some (.inl g)) (hg : xgok (pc, L, st, σ)) (hml : c.maxLocals = (xm M).2.2.1) (hRf : 1 ≤ R.frames) (hRl : 60 ≤ R.locals) (hr1 : cells + g.2.2.2.2.1 ≤ R.cells + σ.2.1) (hr2 : slots + g.2.2.2.2.2 ≤ R.slots + σ.2.2) (hk : x_K A D cA sA ρ M p l e R s m args below meth c cells slots Q σ g) : W p l e R s m args below meth c H locs cells slots Q (F0 m pc ls (st.map (x_v ρ))) := by
  obtain ⟨hd, rfl, o1, o2, o3, -⟩ := ho
  have hWA := F.2.2.2.2.2.2.2.1
  have hml' : c.maxLocals = ls.size := hml.trans hat.2.2.2.1.2.1.symm
  simp only [xnext] at h
  split at h
  · rename_i ha
    obtain ⟨w1, w2, w3, w4⟩ := o1 ha
    unfold xcopy at h
    split at h
    · rename_i n dp q sp p9 r
      split at h
      · cases h
      · rename_i hc
        split at h
        · rename_i t f t' g9 hp hq
          split at h
          · rename_i hb
            obtain ⟨rfl, h4, h5⟩ := hb
            cases h
            have hcp := hg.1.at hp
            have hcq := hg.1.at hq
            have hty : (xtys cA)[t']? = some (cA t', xkt t') := x_ty (by have := hcp.1; omega)
            have hfw : nativeFrameWords "java/lang/System" "arraycopy" 5 = 7 := by decide
            refine va_copyi F.1 F.2.1 hml' F.2.2.2.1 (hWA _ w1) (hWA _ w2) (hWA _ w3) (hWA _ w4) F.2.2.2.2.2.2.2.2.1 hat.1 hat.2.1 hat.2.2.1 p9 q t' t' (x_ws_at (cA := cA) (ρ := ρ) hp) (x_ws_at (cA := cA) (ρ := ρ) hq) hty hty (x_prim hcp.1) (fun z => hc (Or.inr (Or.inr (Or.inl z)))) (fun z => hc (Or.inr (Or.inl z))) (fun z => hc (Or.inl z)) h4 h5 (fun i hi => ?_) hRf ?_ hd (fun H1 locs1 hP hD hS => ?_)
            · have hlt : sp.toNatClampNeg + i < f.length := by omega
              show fits _ (.int (f.getD _ 0)) = true
              rw [List.getD_eq_getElem?_getD, List.getElem?_eq_getElem hlt]
              exact hcp.2 _ (List.getElem_mem hlt)
            · rw [x_cats, hfw]
              have : ¬ 8 < xcat r := fun z => hc (Or.inr (Or.inr (Or.inr z)))
              omega
            · rw [← x_ccpy (cA := cA) (ρ := ρ) h4 h5] at hP hD
              exact hk ρ ls H1 locs1 cells slots x_ag.rf rfl rfl (x_wr hat hP hD hS)
          · cases h
        · cases h
    · cases h
  · split at h
    · rename_i ha
      obtain ⟨w1, w2, w3, w4⟩ := o2 ha
      obtain ⟨x, y, r, rfl, h9⟩ := x2i_some h
      split at h9
      · cases h9
      · cases h9
        exact va_mmin F.1 F.2.1 hml' F.2.2.2.1 (hWA _ w1) (hWA _ w2) (hWA _ w3) (hWA _ w4) hRf (by rw [x_cats]; omega) (by simp only [] at hr1; omega) (by simp only [] at hr2; omega) hd (hk.same rfl hat)
    · split at h
      · rename_i ha
        obtain ⟨w1, w2, w3, w4⟩ := o3 ha
        obtain ⟨x, y, r, rfl, h9⟩ := x2i_some h
        split at h9
        · cases h9
        · cases h9
          exact va_mmax F.1 F.2.1 hml' F.2.2.2.1 (hWA _ w1) (hWA _ w2) (hWA _ w3) (hWA _ w4) hRf (by rw [x_cats]; omega) (by simp only [] at hr1; omega) (by simp only [] at hr2; omega) hd (hk.same rfl hat)
      · exact (xcall_go h).elim
theorem x_st_special {k : Nat} (F : x_F A D cA sA M p s m args meth c) (hat : x_at A D cA sA ρ M s H locs ls L σ) (ho : xok M pc (.invokespecial k) nx a b v) (h : xnext M (.invokespecial k) nx a b v L st σ = some (.inl g)) (hml : c.maxLocals = (xm M).2.2.1) (hRf : 1 ≤ R.frames) (hRl : 60 ≤ R.locals) (hk : x_K A D cA sA ρ M p l e R s m args below meth c cells slots Q σ g) : W p l e R s m args below meth c H locs cells slots Q (F0 m pc ls (st.map (x_v ρ))) := by
  obtain ⟨hd, rfl, o1, -⟩ := ho
  have hWA := F.2.2.2.2.2.2.2.1
  have hml' : c.maxLocals = ls.size := hml.trans hat.2.2.2.1.2.1.symm
  simp only [xnext] at h
  split at h
  · rename_i ha
    obtain ⟨w1, w2, w3⟩ := o1 ha
    split at h
    · rename_i q r
      split at h
      · cases h
      · cases h
        refine W.objInit F.1 F.2.1 F.2.2.2.1 (hWA _ w1) (hWA _ w2) (hWA _ w3) rfl hml'.symm rfl (by exact hd) hRf ?_ (hk.same rfl hat)
        show 2 * 0 + ((r.map (x_v ρ)).map fun v => v.category).sum + 12 ≤ R.locals
        rw [x_cats]
        omega
    · cases h
  · exact (xcall_go h).elim
end STEP5
end
section
/-! EVERY INSTRUCTION THAT GOES ON. -/
section GO
variable {p : Program} {l : Launch} {e : Env} {R : Room} {s : State} {m : MethodId} {args : Array Value} {below : List Frame} {meth : Method} {c : Code} {H : Heap} {locs : List Loc} {cells slots : Nat} {Q : State → Prop}
variable {A : Nat → Prop} {D : va_G} {cA : Nat → ClassId} {sA ρ : Nat → Nat} {M : Nat} {ls : Array Slot} {L st : List Value} {σ : xS} {pc nx a b : Nat} {v : Value} {g : xGo}
theorem x_go {i : Instr} (F : x_F A D cA sA M p s m args meth c) (hat : x_at A D cA sA ρ M s H locs ls L σ) (ho : xok M pc i nx a b v) (h : xnext M i nx a b v L st σ = some (.inl g)) (hT : xtabs) (hct : xct_ok) (hrc : xrc_ok) (hg : xgok (pc, L, st, σ)) (hRf : 1 ≤ R.frames) (hRl : 60 ≤ R.locals) (hr1 : cells + g.2.2.2.2.1 ≤ R.cells + σ.2.1) (hr2 : slots + g.2.2.2.2.2 ≤ R.slots + σ.2.2) (hk : x_K A D cA sA ρ M p l e R s m args below meth c cells slots Q σ g) : W p l e R s m args below meth c H locs cells slots Q (F0 m pc ls (st.map (x_v ρ))) := by
  cases i
  case iconst => exact x_st_iconst F hat ho h hk
  case bipush => exact x_st_bipush F hat ho h hk
  case sipush => exact x_st_sipush F hat ho h hk
  case lconst => exact x_st_lconst F hat ho h hk
  case ldc => exact x_st_ldc F hat ho h hk
  case ldc_w => exact x_st_ldc_w F hat ho h hk
  case ldc2_w => exact x_st_ldc2_w F hat ho h hk
  case getstatic => exact x_st_getstatic F hat ho h hk
  case iload_n => exact x_st_iload_n F hat ho h hk
  case iload => exact x_st_iload F hat ho h hk
  case lload_n => exact x_st_lload_n F hat ho h hk
  case lload => exact x_st_lload F hat ho h hk
  case aload_n => exact x_st_aload_n F hat ho h hk
  case aload => exact x_st_aload F hat ho h hk
  case istore_n => exact x_st_istore_n F hat ho h hk
  case istore => exact x_st_istore F hat ho h hk
  case lstore_n => exact x_st_lstore_n F hat ho h hk
  case lstore => exact x_st_lstore F hat ho h hk
  case astore_n => exact x_st_astore_n F hat ho h hk
  case astore => exact x_st_astore F hat ho h hk
  case iinc => exact x_st_iinc F hat ho h hk
  case iadd => exact x_st_iadd F hat ho h hk
  case isub => exact x_st_isub F hat ho h hk
  case imul => exact x_st_imul F hat ho h hk
  case iand => exact x_st_iand F hat ho h hk
  case ior => exact x_st_ior F hat ho h hk
  case ishl => exact x_st_ishl F hat ho h hk
  case ishr => exact x_st_ishr F hat ho h hk
  case iushr => exact x_st_iushr F hat ho h hk
  case idiv => exact x_st_idiv F hat ho h hk
  case irem => exact x_st_irem F hat ho h hk
  case ineg => exact x_st_ineg F hat ho h hk
  case i2l => exact x_st_i2l F hat ho h hk
  case i2b => exact x_st_i2b F hat ho h hk
  case i2c => exact x_st_i2c F hat ho h hk
  case i2d => exact x_st_i2d F hat ho h hk
  case ladd => exact x_st_ladd F hat ho h hk
  case lmul => exact x_st_lmul F hat ho h hk
  case lcmp => exact x_st_lcmp F hat ho h hk
  case ddiv => exact x_st_ddiv F hat ho h hk
  case dcmp => exact x_st_dcmp F hat ho h hk
  case dup => exact x_st_dup F hat ho h hk
  case pop => exact x_st_pop F hat ho h hk
  case dup_x1 => exact x_st_dup_x1 F hat ho h hk
  case dup2 => exact x_st_dup2 F hat ho h hk
  case ifCond => exact x_st_ifCond F hat ho h hk
  case if_icmp => exact x_st_if_icmp F hat ho h hk
  case goto => exact x_st_goto F hat ho h hk
  case ifnonnull => exact x_st_ifnonnull F hat ho h hk
  case tableswitch => exact x_st_tableswitch F hat ho h hk
  case lookupswitch => exact x_st_lookupswitch F hat ho h hk
  case getfield => exact x_st_getfield F hat ho h hk
  case putfield => exact x_st_putfield F hat ho h hk
  case iastore => exact x_st_iastore F hat ho h hk
  case castore => exact x_st_castore F hat ho h hk
  case bastore => exact x_st_bastore F hat ho h hk
  case aconst_null => exact x_st_anull F hat ho h hk
  case iaload => exact x_st_iaload F hat ho h hct hk
  case caload => exact x_st_caload F hat ho h hct hk
  case baload => exact x_st_baload F hat ho h hct hk
  case laload => exact x_st_laload F hat ho h hg hk
  case lastore => exact x_st_lastore F hat ho h hg hk
  case aaload => exact x_st_aaload F hat ho h hct hg hk
  case arraylength => exact x_st_arraylength F hat ho h hct hg hk
  case aastore => exact x_st_aastore F hat ho h hrc hg hk
  case new => exact x_st_new F hat ho h hT hg hr1 hr2 hk
  case newarray => exact x_st_newarray F hat ho h hg hr1 hr2 hk
  case anewarray => exact x_st_anewarray F hat ho h hg hr1 hr2 hk
  case multianewarray => exact x_st_multi F hat ho h hg hr1 hr2 hk
  case invokestatic => exact x_st_static F hat ho h hg F.2.2.1 hRf hRl hr1 hr2 hk
  case invokespecial => exact x_st_special F hat ho h F.2.2.1 hRf hRl hk
  case invokevirtual =>
    exact (xcall_go h).elim
  case ireturn =>
    simp only [xnext] at h
    split at h
    · split at h
      · split at h <;> cases h
      · cases h
    · cases h
  case lreturn =>
    simp only [xnext] at h
    split at h <;> cases h
  case dreturn =>
    simp only [xnext] at h
    split at h <;> cases h
  case areturn =>
    simp only [xnext] at h
    split at h <;> cases h
  case return_ =>
    simp only [xnext] at h
    split at h <;> cases h
  all_goals cases h
end GO
end
section
/-! CALLS: what a callee's end says, each kind of call. -/
def x_wd (A : Nat → Prop) (D : va_G) (cA : Nat → ClassId) (sA ρ : Nat → Nat) (σ : xS) (H : Heap) : Prop := va_P D vwCl (x_ws cA ρ σ.1) H ∧ va_D A (x_ws cA ρ σ.1) ∧ ∀ a, xB ≤ a → ρ a = sA a
def x_B (A : Nat → Prop) (D : va_G) (cA : Nat → ClassId) (sA ρ : Nat → Nat) (σ : xS) : State → Prop := fun U => va_K D vwCl (xtys cA) U ∧ x_CF A sA U ∧ x_wd A D cA sA ρ σ U.heap
def x_Q (A : Nat → Prop) (D : va_G) (cA : Nat → ClassId) (sA ρ : Nat → Nat) (σ : xS) (r : xR) : Array Value → State → Outcome → State → Prop := fun _ st o t =>
  (∃ (w : Option Value) (ρ' : Nat → Nat), o = .returned (w.map (x_v ρ')) ∧ r.1 = .inl w ∧ x_ag σ.1.length ρ ρ' ∧ x_wd A D cA sA ρ' r.2 t.heap) ∧ va_F A st t
def x_XC (A : Nat → Prop) (D : va_G) (cA : Nat → ClassId) (sA ρ : Nat → Nat) (σ : xS) (r : xR) : String → State → State → Prop := fun E st t =>
  (∃ ρ' : Nat → Nat, r.1 = .inr E ∧ x_ag σ.1.length ρ ρ' ∧ x_wd A D cA sA ρ' r.2 t.heap) ∧ va_F A st t
/-- the room at the depth d -/
def x_rm (d mc ms : Nat) : Room := { frames := d + 12, locals := 60 * d + 200, cells := mc, slots := ms }
/-- a method's contract at one call -/
def x_con (l : Launch) (A : Nat → Prop) (D : va_G) (cA : Nat → ClassId) (sA ρ : Nat → Nat) (d a : Nat) (vs : List Value) (σ : xS) (q : xR) : Prop :=
  (xmt a = true → vx_Met l (xm a).1 (x_hd a :: xWA) (x_rm d (q.2.2.1 - σ.2.1) (q.2.2.2 - σ.2.2)) (va_Pc (vs.map (x_v ρ)) (x_B A D cA sA ρ σ)) (x_Q A D cA sA ρ σ q) (x_XC A D cA sA ρ σ q) (q.2.2.1 - σ.2.1) (q.2.2.2 - σ.2.2) A) ∧
  (xmt a = false → Met l (xm a).1 (x_hd a :: xWA) (x_rm d (q.2.2.1 - σ.2.1) (q.2.2.2 - σ.2.2)) (va_Pc (vs.map (x_v ρ)) (x_B A D cA sA ρ σ)) (x_Q A D cA sA ρ σ q) (q.2.2.1 - σ.2.1) (q.2.2.2 - σ.2.2) A)
theorem x_blind {av : List Value} {A : Nat → Prop} {D : va_G} {cA : Nat → ClassId} {sA ρ : Nat → Nat} {σ : xS} : FrameBlind (va_Pc av (x_B A D cA sA ρ σ)) := fun _ _ _ _ h => h
section CALLS
variable {p : Program} {l : Launch} {e : Env} {R : Room} {s : State} {m : MethodId} {args : Array Value} {below : List Frame} {meth : Method} {c : Code} {H : Heap} {locs : List Loc} {cells slots : Nat} {Q : State → Prop}
variable {A : Nat → Prop} {D : va_G} {cA : Nat → ClassId} {sA ρ : Nat → Nat} {M : Nat} {ls : Array Slot} {L st : List Value} {σ : xS} {pc nx a b : Nat} {v : Value} {g : xGo}
theorem x_runX {mc ms : Nat} {g : JFrame} {rest : List Value} {Qa : State → Outcome → State → Prop} {XC : String → State → State → Prop} {free : Addr → Prop} (h : va_Run p l e R s m args below meth c H locs cells slots mc ms g rest Qa free) : vx_Run p l e R s m args below meth c H locs cells slots mc ms g rest Qa XC free := fun T hT X => Or.inl (h T hT X)
/-- the callee's start holds -/
theorem x_pre (F : x_F A D cA sA M p s m args meth c) (hat : x_at A D cA sA ρ M s H locs ls L σ) {vs : List Value} {U : State} (hU : U.heap = H) (hW : s.WarmedH U.vm) : va_Pc (vs.map (x_v ρ)) (x_B A D cA sA ρ σ) (vs.map (x_v ρ)).toArray U := by
  refine ⟨rfl, F.2.2.2.2.2.2.2.2.1.moved hW.alike, F.2.2.2.2.2.2.2.2.2.1.moved hW (by rw [hU]; exact hat.2.2.1.1) (fun q h1 h2 => by rw [hU]; exact hat.2.2.1.2.1 q h1 h2), ?_⟩
  rw [hU]
  exact ⟨hat.1, hat.2.1, hat.2.2.2.2⟩
theorem x_good (F : x_F A D cA sA M p s m args meth c) {l9 : List Cond} (h : ∀ w ∈ l9, w ∈ xWA) (hh : x_hd a ∈ xWA) : GoodIn xWA (l9 ++ (x_hd a :: xWA)) := xWA_good fun w hw => by
  rcases List.mem_append.mp hw with q | q
  · exact h w q
  · rcases List.mem_cons.mp q with rfl | q
    · exact hh
    · exact q
theorem x_wsC (F : x_F A D cA sA M p s m args meth c) (hh : x_hd a ∈ xWA) : GoodIn xWA (x_hd a :: xWA) := x_good (l9 := []) F (fun _ h => nomatch h) hh
theorem x_len2 {vs r : List Value} {b : Nat} (h : b ≤ st.length) (h1 : vs = (st.take b).reverse) (h2 : r = st.drop b) : st.map (x_v ρ) = (vs.map (x_v ρ)).reverse ++ r.map (x_v ρ) ∧ vs.length = b := by
  subst h1; subst h2
  refine ⟨?_, by rw [List.length_reverse, List.length_take]; omega⟩
  rw [← List.map_reverse, List.reverse_reverse, ← List.map_append, List.take_append_drop]
theorem x_callS {k : Nat} (F : x_F A D cA sA M p s m args meth c) (hat : x_at A D cA sA ρ M s H locs ls L σ) (hm0 : xmt a = true → (xm a).2.2.2.2 = []) (hd : decode (xm M).2.1 pc = .ok (.invokestatic k, 3)) (hc : xcaS M k a b) (hb : b ≤ st.length) (h8 : xcat (st.drop b) ≤ 8) {d : Nat} {q : xR} (hC : x_con l A D cA sA ρ d a (st.take b).reverse σ q) (hRf : d + 13 ≤ R.frames) (hRl : 60 * d + 260 ≤ R.locals) (hf : cells + (q.2.2.1 - σ.2.1) ≤ R.cells ∧ slots + (q.2.2.2 - σ.2.2) ≤ R.slots) : vx_Run p l e R s m args below meth c H locs cells slots (q.2.2.1 - σ.2.1) (q.2.2.2 - σ.2.2) (F0 m pc ls (st.map (x_v ρ))) ((st.drop b).map (x_v ρ)) (x_Q A D cA sA ρ σ q (((st.take b).reverse.map (x_v ρ)).toArray)) (x_XC A D cA sA ρ σ q) A := by
  obtain ⟨hmx, hhd, hgen, hst, hini, hk⟩ := hc
  have hWA := F.2.2.2.2.2.2.2.1
  obtain ⟨e1, e2⟩ := x_len2 (ρ := ρ) hb rfl rfl
  have S : CallFix p m c (xm M).2.1 (xm M).2.2.1 s args xWA (xm M).1.cls := ⟨F.1, F.2.1, F.2.2.1, F.2.2.2.1, hWA⟩
  have hsz : (F0 m pc ls (st.map (x_v ρ))).locals.size = (xm M).2.2.1 := hat.2.2.2.1.2.1
  have hW8 : 2 * (F0 m pc ls (st.map (x_v ρ))).monitorRoom + (((st.drop b).map (x_v ρ)).map fun v => v.category).sum ≤ 8 := by
    rw [x_cats]
    show 2 * 0 + _ ≤ 8
    omega
  have hR : (x_rm d (q.2.2.1 - σ.2.1) (q.2.2.2 - σ.2.2)).frames + 1 ≤ R.frames ∧ 8 + ((xm a).2.2.1 + 11) + (x_rm d (q.2.2.1 - σ.2.1) (q.2.2.2 - σ.2.2)).locals ≤ R.locals := by
    refine ⟨?_, ?_⟩
    · show d + 12 + 1 ≤ _
      omega
    · show _ + (60 * d + 200) ≤ _
      omega
  have hp : PreS s H (va_Pc ((st.take b).reverse.map (x_v ρ)) (x_B A D cA sA ρ σ)) ((st.take b).reverse.map (x_v ρ)) := ⟨x_blind, fun U hU hW => x_pre F hat hU hW⟩
  have hn : ((st.take b).reverse.map (x_v ρ)).length = b := by rw [List.length_map]; exact e2
  by_cases ht : (xm a).2.2.2.2 = []
  · have ehd : x_hd a = .code (xm a).1 (xm a).2.1 (xm a).2.2.1 (xm a).2.2.2.1 := if_pos ht
    rcases hk with hk | ⟨-, hmt, host, hk⟩
    · have hG := x_good (a := a) F (l9 := [.methodLink (xm M).1.cls k (xm a).1, .static (xm a).1, .initialized (xm a).1.cls]) (by simp only [List.mem_cons, List.not_mem_nil, or_false]; rintro w (rfl | rfl | rfl) <;> assumption) hhd
      cases hm : xmt a with
      | false => exact x_runX (va_runS S (hC.2 hm) (va_cwS b hWA hG (by rw [ehd]) rfl rfl hgen hR) hp rfl hn hsz e1 hW8 hd hf)
      | true => exact vx_runS S (hC.1 hm) (va_cwS b hWA hG (by rw [ehd]) rfl rfl hgen hR) hp rfl hn hsz e1 hW8 hd hf
    · exact x_runX (va_runSN S (hC.2 hmt) ⟨va_cnB b hWA (x_wsC F hhd) (by rw [ehd]) rfl rfl (F.2.2.2.2.2.2.2.2.2.1.2.2.2.2.2.2.1 _ hk) (hWA _ hini) hgen hR, hWA _ hst, trivial⟩ hp rfl hn hsz e1 hW8 hd hf)
  · have ehd : x_hd a = .codeWith (xm a).1 (xm a).2.1 (xm a).2.2.1 (xm a).2.2.2.1 (xm a).2.2.2.2 := if_neg ht
    have hmt : xmt a = false := by
      cases hm : xmt a with
      | false => rfl
      | true => exact absurd (hm0 hm) ht
    rcases hk with hk | ⟨h0, -⟩
    · have hG := x_good (a := a) F (l9 := [.methodLink (xm M).1.cls k (xm a).1, .static (xm a).1, .initialized (xm a).1.cls]) (by simp only [List.mem_cons, List.not_mem_nil, or_false]; rintro w (rfl | rfl | rfl) <;> assumption) hhd
      exact x_runX (vx_runSW S (hC.2 hmt) (vx_cwSW b hWA hG (by rw [ehd]) rfl rfl hgen hR) hp rfl hn hsz e1 hW8 hd hf)
    · exact absurd h0 ht
theorem x_callV {k : Nat} (F : x_F A D cA sA M p s m args meth c) (hat : x_at A D cA sA ρ M s H locs ls L σ) (hrc : xrc_ok) (hs : xsok σ) (hd : decode (xm M).2.1 pc = .ok (.invokevirtual k, 3)) (hc : xcaV M k a b) (hr : xrcv (xmc a) σ ((st.take b).reverse.headD .null) = true) (hb : b ≤ st.length) (h8 : xcat (st.drop b) ≤ 8) {d : Nat} {q : xR} (hC : x_con l A D cA sA ρ d a (st.take b).reverse σ q) (hRf : d + 13 ≤ R.frames) (hRl : 60 * d + 260 ≤ R.locals) (hf : cells + (q.2.2.1 - σ.2.1) ≤ R.cells ∧ slots + (q.2.2.2 - σ.2.2) ≤ R.slots) : vx_Run p l e R s m args below meth c H locs cells slots (q.2.2.1 - σ.2.1) (q.2.2.2 - σ.2.2) (F0 m pc ls (st.map (x_v ρ))) ((st.drop b).map (x_v ρ)) (x_Q A D cA sA ρ σ q (((st.take b).reverse.map (x_v ρ)).toArray)) (x_XC A D cA sA ρ σ q) A := by
  obtain ⟨hmx, hhd, ht, n, C, hbn, hcl, hk⟩ := hc
  have hWA := F.2.2.2.2.2.2.2.1
  obtain ⟨e1, e2⟩ := x_len2 (ρ := ρ) hb rfl rfl
  have S : CallFix p m c (xm M).2.1 (xm M).2.2.1 s args xWA (xm M).1.cls := ⟨F.1, F.2.1, F.2.2.1, F.2.2.2.1, hWA⟩
  have hsz : (F0 m pc ls (st.map (x_v ρ))).locals.size = (xm M).2.2.1 := hat.2.2.2.1.2.1
  have hW8 : 2 * (F0 m pc ls (st.map (x_v ρ))).monitorRoom + (((st.drop b).map (x_v ρ)).map fun v => v.category).sum ≤ 8 := by
    rw [x_cats]
    show 2 * 0 + _ ≤ 8
    omega
  have hR : (x_rm d (q.2.2.1 - σ.2.1) (q.2.2.2 - σ.2.2)).frames + 1 ≤ R.frames ∧ 8 + ((xm a).2.2.1 + 11) + (x_rm d (q.2.2.1 - σ.2.1) (q.2.2.2 - σ.2.2)).locals ≤ R.locals := by
    refine ⟨?_, ?_⟩
    · show d + 12 + 1 ≤ _
      omega
    · show _ + (60 * d + 200) ≤ _
      omega
  obtain ⟨z, As, hvs, hrv⟩ : ∃ z As, (st.take b).reverse = .ref z :: As ∧ xrcv (xmc a) σ (.ref z) = true := by
    cases hl : (st.take b).reverse with
    | nil => rw [hl] at hr; exact absurd hr (by simp [xrcv])
    | cons v9 As =>
      rw [hl] at hr
      cases v9 with
      | ref z => exact ⟨z, As, rfl, hr⟩
      | _ => exact absurd hr (by simp [xrcv])
  have hn : (As.map (x_v ρ)).length = n := by
    rw [hvs, List.length_cons] at e2
    rw [List.length_map]
    omega
  have ehd : x_hd a = .code (xm a).1 (xm a).2.1 (xm a).2.2.1 (xm a).2.2.2.1 := if_pos ht
  have hpV : ∀ C : String, xrcl (xmc a) C → PreV s H C (ρ z) (va_Pc ((st.take b).reverse.map (x_v ρ)) (x_B A D cA sA ρ σ)) (As.map (x_v ρ)) := fun C hC9 => ⟨x_blind, x_rcv F hat hrc hrv hC9 (fun r9 cl fs h9 => (hs.at h9).1), fun U hU hW => by
    have h9 := x_pre (vs := (st.take b).reverse) F hat hU hW
    rw [hvs] at h9 ⊢
    exact h9⟩
  have hstk : (F0 m pc ls (st.map (x_v ρ))).stack = (As.map (x_v ρ)).reverse ++ .ref (ρ z) :: (st.drop b).map (x_v ρ) := by
    show st.map (x_v ρ) = _
    rw [e1, hvs, List.map_cons, List.reverse_cons, List.append_assoc]
    rfl
  rw [hvs]
  rcases hk with ⟨hgen, hC1, hw⟩ | ⟨hgen, hmt, hini, hin, hse, host, hk⟩ | ⟨hmt, owner, x, hyx, ho1, ho2, hpar, hw⟩
  · have hG := x_good (a := a) F hw hhd
    have hd9 : (xm a).1.cls = C ∧ (xm a).1.cls ≠ "java/lang/invoke/MethodHandle" ∧ (xm a).1.cls ≠ "java/lang/invoke/VarHandle" ∧ (parseMethodDescriptor (xm a).1.desc).map (fun d => d.parameters.length) = some n := ⟨hC1, hgen⟩
    cases hm : xmt a with
    | false => exact x_runX (va_runV S (hC.2 hm) (cwV n hWA hG (by rw [ehd]) rfl rfl hd9 hR) (hpV C hcl) rfl hn hsz hstk hW8 hd hf)
    | true => exact vx_runV S (hC.1 hm) (cwV n hWA hG (by rw [ehd]) rfl rfl hd9 hR) (hpV C hcl) rfl hn hsz hstk hW8 hd hf
  · exact x_runX (va_runVN S (hC.2 hmt) ⟨va_cnB n hWA (x_wsC F hhd) (by rw [ehd]) rfl rfl (F.2.2.2.2.2.2.2.2.2.1.2.2.2.2.2.2.1 _ hk) (hWA _ hini) hgen hR, hWA _ hin, hWA _ hse⟩ (hpV C hcl) rfl hn hsz hstk hW8 hd hf)
  · exact x_runX (va_runU S (hC.2 hmt) (va_cwU n hWA (x_good (a := a) F hw hhd) (by rw [ehd]) rfl rfl hyx ⟨ho1, ho2, hpar⟩ hR) (hpV C hcl) rfl hn hsz hstk hW8 hd hf)
theorem x_callI {k : Nat} (F : x_F A D cA sA M p s m args meth c) (hat : x_at A D cA sA ρ M s H locs ls L σ) (hrc : xrc_ok) (hs : xsok σ) (hd : decode (xm M).2.1 pc = .ok (.invokespecial k, 3)) (hc : xcaI M k a b) (hr : xrq (if xmc a = 5000 then 2 else 1) a σ ((st.take b).reverse.headD .null) = true) (hb : b ≤ st.length) (h8 : xcat (st.drop b) ≤ 8) {d : Nat} {q : xR} (hC : x_con l A D cA sA ρ d a (st.take b).reverse σ q) (hRf : d + 13 ≤ R.frames) (hRl : 60 * d + 260 ≤ R.locals) (hf : cells + (q.2.2.1 - σ.2.1) ≤ R.cells ∧ slots + (q.2.2.2 - σ.2.2) ≤ R.slots) : vx_Run p l e R s m args below meth c H locs cells slots (q.2.2.1 - σ.2.1) (q.2.2.2 - σ.2.2) (F0 m pc ls (st.map (x_v ρ))) ((st.drop b).map (x_v ρ)) (x_Q A D cA sA ρ σ q (((st.take b).reverse.map (x_v ρ)).toArray)) (x_XC A D cA sA ρ σ q) A := by
  obtain ⟨hmx, hhd, ht, hmt, n, hbn, hk⟩ := hc
  have hWA := F.2.2.2.2.2.2.2.1
  obtain ⟨e1, e2⟩ := x_len2 (ρ := ρ) hb rfl rfl
  have S : CallFix p m c (xm M).2.1 (xm M).2.2.1 s args xWA (xm M).1.cls := ⟨F.1, F.2.1, F.2.2.1, F.2.2.2.1, hWA⟩
  have hsz : (F0 m pc ls (st.map (x_v ρ))).locals.size = (xm M).2.2.1 := hat.2.2.2.1.2.1
  have hW8 : 2 * (F0 m pc ls (st.map (x_v ρ))).monitorRoom + (((st.drop b).map (x_v ρ)).map fun v => v.category).sum ≤ 8 := by
    rw [x_cats]
    show 2 * 0 + _ ≤ 8
    omega
  have hR : (x_rm d (q.2.2.1 - σ.2.1) (q.2.2.2 - σ.2.2)).frames + 1 ≤ R.frames ∧ 8 + ((xm a).2.2.1 + 11) + (x_rm d (q.2.2.1 - σ.2.1) (q.2.2.2 - σ.2.2)).locals ≤ R.locals := by
    refine ⟨?_, ?_⟩
    · show d + 12 + 1 ≤ _
      omega
    · show _ + (60 * d + 200) ≤ _
      omega
  have ehd : x_hd a = .code (xm a).1 (xm a).2.1 (xm a).2.2.1 (xm a).2.2.2.1 := if_pos ht
  rcases hk with ⟨hnm, hret, hmc, hgen, hw1, hw2, hw3⟩ | ⟨hmc, hnm, hpar, C, N, hcl, hw0, hw⟩
  · rw [if_pos hmc] at hr
    obtain ⟨z, As, hvs⟩ : ∃ z As, (st.take b).reverse = .ref z :: As := by
      cases hl : (st.take b).reverse with
      | nil => rw [hl] at hr; exact absurd hr (by simp [xrq])
      | cons v9 As =>
        rw [hl] at hr
        cases v9 with
        | ref z => exact ⟨z, As, rfl⟩
        | _ => exact absurd hr (by simp [xrq])
    have hn : (As.map (x_v ρ)).length = n := by
      rw [hvs, List.length_cons] at e2
      rw [List.length_map]
      omega
    have hstk : (F0 m pc ls (st.map (x_v ρ))).stack = (As.map (x_v ρ)).reverse ++ .ref (ρ z) :: (st.drop b).map (x_v ρ) := by
      show st.map (x_v ρ) = _
      rw [e1, hvs, List.map_cons, List.reverse_cons, List.append_assoc]
      rfl
    have hp : PreS s H (va_Pc ((st.take b).reverse.map (x_v ρ)) (x_B A D cA sA ρ σ)) (.ref (ρ z) :: As.map (x_v ρ)) := ⟨x_blind, fun U hU hW => by
      have h9 := x_pre (vs := (st.take b).reverse) F hat hU hW
      rw [hvs] at h9 ⊢
      exact h9⟩
    rw [hvs]
    exact x_runX (va_runI S (hC.2 hmt) (cwI n hWA (x_wsC F hhd) (by rw [ehd, hret]) rfl rfl (hWA _ hw3) (hWA _ hw1) (hWA _ hw2) hnm hgen hR) hp rfl hn hsz hstk hW8 hd hf)
  · rw [if_neg hmc] at hr
    have hr : xrcv (xmc a) σ ((st.take b).reverse.headD .null) = true := hr
    obtain ⟨z, As, hvs, hrv⟩ : ∃ z As, (st.take b).reverse = .ref z :: As ∧ xrcv (xmc a) σ (.ref z) = true := by
      cases hl : (st.take b).reverse with
      | nil => rw [hl] at hr; exact absurd hr (by simp [xrcv])
      | cons v9 As =>
        rw [hl] at hr
        cases v9 with
        | ref z => exact ⟨z, As, rfl, hr⟩
        | _ => exact absurd hr (by simp [xrcv])
    have hn : (As.map (x_v ρ)).length = n := by
      rw [hvs, List.length_cons] at e2
      rw [List.length_map]
      omega
    have ehd : x_hd a = .code (xm a).1 (xm a).2.1 (xm a).2.2.1 (xm a).2.2.2.1 := if_pos ht
    have hpV : ∀ C : String, xrcl (xmc a) C → PreV s H C (ρ z) (va_Pc ((st.take b).reverse.map (x_v ρ)) (x_B A D cA sA ρ σ)) (As.map (x_v ρ)) := fun C hC9 => ⟨x_blind, x_rcv F hat hrc hrv hC9 (fun r9 cl fs h9 => (hs.at h9).1), fun U hU hW => by
      have h9 := x_pre (vs := (st.take b).reverse) F hat hU hW
      rw [hvs] at h9 ⊢
      exact h9⟩
    have hstk : (F0 m pc ls (st.map (x_v ρ))).stack = (As.map (x_v ρ)).reverse ++ .ref (ρ z) :: (st.drop b).map (x_v ρ) := by
      show st.map (x_v ρ) = _
      rw [e1, hvs, List.map_cons, List.reverse_cons, List.append_assoc]
      rfl
    rw [hvs]
    obtain ⟨cC, hcC⟩ := classAt_of (hWA _ hw0)
    exact x_runX (va_runSU hcC S (hC.2 hmt) (va_cwSU n hWA (x_good (a := a) F hw hhd) (by rw [ehd]) rfl rfl ⟨hnm, hpar⟩ hR) (hpV C hcl) rfl hn hsz hstk hW8 hd hf)
end CALLS
end
section
/-! A RUN OVER THE SCRIPT TOO: two instructions more, the script's length and its ints. -/
def yscr (S : List Int32) (m : Nat) (g : xGo) : Option xA := match xc m g.1 with
  | some (i, nx, _, _, _) => (match i with
    | .arraylength => (match g.2.2.1 with
      | .ref p :: r => if p = xSp then xgo nx g.2.1 (.int (nI S.length) :: r) g.2.2.2 else none
      | _ => none)
    | .iaload => (match g.2.2.1 with
      | .int k :: .ref p :: r => if p = xSp ∧ ¬ k < 0 then (match S[k.toNatClampNeg]? with
        | some x => xgo nx g.2.1 (.int x :: r) g.2.2.2
        | none => none) else none
      | _ => none)
    | _ => none)
  | none => none
def yat (S : List Int32) (m : Nat) (g : xGo) : Option xA := match xat m g with
  | some act => some act
  | none => yscr S m g
def yrun (S : List Int32) (C : Nat → List Value → xS → xR → Prop) (m : Nat) : Nat → xGo → xR → Prop
  | 0, _, _ => False
  | n + 1, g, r => xstep C m g.1 (fun g' => yrun S C m n g' r) r (yat S m g)
/-- the method m, called with args at s, comes to r, over the script S; at most d calls are open at once -/
def yE (S : List Int32) : Nat → Nat → List Value → xS → xR → Prop
  | 0 => fun _ _ _ _ => False
  | d + 1 => fun m args s r => (xargs args).length ≤ (xm m).2.2.1 ∧ (∀ E, r.1 = .inr E → xmt m = true) ∧ ∃ n, yrun S (yE S d) m n (0, xentry args (xm m).2.2.1, [], s) r
theorem yscr_ok {S : List Int32} {m : Nat} {g : xGo} {act : xA} (hg : xgok g) (h : yscr S m g = some act) : ∃ g', act = .inl g' ∧ g'.2.2.2 = g.2.2.2 ∧ xgok g' := by
  obtain ⟨pc, L, st, σ⟩ := g
  unfold yscr at h
  split at h
  · rename_i i nx a b v hc
    split at h
    · split at h
      · rename_i p r e
        split at h
        · cases h
          dsimp only at e
          subst e
          exact ⟨_, rfl, rfl, hg.1, hg.2.1, xlok.cons (xvok.int _ _) hg.2.2.tl⟩
        · cases h
      · cases h
    · split at h
      · rename_i k p r e
        dsimp only at e
        subst e
        split at h
        · split at h
          · cases h
            exact ⟨_, rfl, rfl, hg.1, hg.2.1, xlok.cons (xvok.int _ _) hg.2.2.tl.tl⟩
          · cases h
        · cases h
      · cases h
    · cases h
  · cases h
theorem yat_ok (hT : xtabs) {S : List Int32} {m : Nat} {g : xGo} {act : xA} (hg : xgok g) (h : yat S m g = some act) : xaok g.2.2.2 act := by
  unfold yat at h
  split at h
  · rename_i act' ha
    cases h
    exact xat_ok hT hg ha
  · obtain ⟨g', rfl, e, k⟩ := yscr_ok hg h
    exact ⟨k, by rw [e]; exact xle.rf _⟩
theorem yrun_ok (hT : xtabs) {S : List Int32} {C : Nat → List Value → xS → xR → Prop} (hC : xEok C) {m : Nat} : ∀ (n : Nat) (g : xGo) (r : xR), xgok g → yrun S C m n g r → xrok g.2.2.2 r
  | 0, _, _, _, h => h.elim
  | n + 1, g, r, hg, h => by
    simp only [yrun] at h
    cases hact : yat S m g with
    | none => rw [hact] at h; exact h.elim
    | some act =>
      rw [hact] at h
      have ha := yat_ok hT hg hact
      match act, h, ha with
      | .inl g', h, ha => exact (yrun_ok hT hC n g' r ha.1 h).tr ha.2
      | .inr (.inl (a, args, nx, L, rest, s')), ⟨q, h1, h2⟩, ⟨e, k1, k2, k3⟩ =>
        subst e
        have hq := hC _ _ _ _ hg.1 k1 h1
        obtain ⟨o, s2⟩ := q
        have hle : g.2.2.2.1.length ≤ s2.1.length := hq.2.1.1
        cases o with
        | inl w => cases w with
          | none => exact (yrun_ok hT hC n _ r ⟨hq.1, k2.mono hle, k3.mono hle⟩ h2).tr hq.2.1
          | some w => exact (yrun_ok hT hC n _ r ⟨hq.1, k2.mono hle, xlok.cons (hq.2.2 w rfl) (k3.mono hle)⟩ h2).tr hq.2.1
        | inr E =>
          simp only [xcont] at h2
          cases hx : xh m g.1 E with
          | none =>
            rw [hx] at h2
            rw [h2]
            exact ⟨hq.1, hq.2.1, fun _ z => by cases z⟩
          | some z =>
            rw [hx] at h2
            exact (yrun_ok hT hC n _ r ⟨hq.1, (k2.mono hle).put (xvok.no _) _, xlok.nil _⟩ h2.2).tr hq.2.1
      | .inr (.inr r0), h, ha =>
        have e : r = r0 := h
        rw [e]; exact ha
theorem yE_ok (hT : xtabs) {S : List Int32} : ∀ d, xEok (yE S d)
  | 0 => fun _ _ _ _ _ _ h => h.elim
  | d + 1 => fun m args s r hs ha ⟨_, _, n, h⟩ => yrun_ok hT (yE_ok hT d) n _ r ⟨hs, ha.entry, xlok.nil _⟩ h
/-! which instruction calls, which ends -/
theorem x_inv_call {M : Nat} {i : Instr} {nx a b : Nat} {v : Value} {L st : List Value} {σ : xS} {ca : xCa} (h : xnext M i nx a b v L st σ = some (.inr (.inl ca))) :
    (∃ k, i = .invokevirtual k ∧ xcall 1 nx a b L st σ = some (.inr (.inl ca))) ∨ (∃ k, i = .invokestatic k ∧ a ≠ 9000 ∧ a ≠ 9001 ∧ a ≠ 9002 ∧ xcall 0 nx a b L st σ = some (.inr (.inl ca))) ∨ (∃ k, i = .invokespecial k ∧ a ≠ 9003 ∧ xcall (if xmc a = 5000 then 2 else 1) nx a b L st σ = some (.inr (.inl ca))) := by
  cases i
  case invokevirtual k => exact Or.inl ⟨k, rfl, h⟩
  case invokestatic k =>
    simp only [xnext] at h
    split at h
    · exfalso
      unfold xcopy xgo at h
      repeat' split at h
      all_goals cases h
    · split at h
      · exfalso
        unfold x2i at h
        split at h
        · dsimp only at h
          split at h
          · cases h
          · cases h
        · cases h
      · split at h
        · exfalso
          unfold x2i at h
          split at h
          · dsimp only at h
            split at h
            · cases h
            · cases h
          · cases h
        · exact Or.inr (Or.inl ⟨k, rfl, ‹_›, ‹_›, ‹_›, h⟩)
  case invokespecial k =>
    simp only [xnext] at h
    split at h
    · exfalso
      unfold xgo at h
      repeat' split at h
      all_goals cases h
    · exact Or.inr (Or.inr ⟨k, rfl, ‹_›, h⟩)
  all_goals
    exfalso
    simp only [xnext, xgo, x1i, x2i, x2l, x2d, xif, xload, xstore, xald, xast] at h
    repeat' split at h
    all_goals cases h
theorem x_inv_end {M : Nat} {i : Instr} {nx a b : Nat} {v : Value} {L st : List Value} {σ : xS} {r : xR} (h : xnext M i nx a b v L st σ = some (.inr (.inr r))) :
    (∃ k, i = .new k ∧ 2000 ≤ a ∧ st = [] ∧ r = (.inr (xen (a - 2000)), σ.1, σ.2.1 + 1, σ.2.2 + 6)) ∨
    (∃ x ty, i = .ireturn ∧ st = [.int x] ∧ (xm M).2.2.2.1 = some ty ∧ narrow ty (.int x) = .int x ∧ r = (.inl (some (.int x)), σ)) ∨
    (∃ x, i = .lreturn ∧ st = [.long x] ∧ r = (.inl (some (.long x)), σ)) ∨
    (∃ x, i = .dreturn ∧ st = [.double x] ∧ r = (.inl (some (.double x)), σ)) ∨
    (∃ x, i = .areturn ∧ st = [.ref x] ∧ r = (.inl (some (.ref x)), σ)) ∨
    (i = .return_ ∧ st = [] ∧ r = (.inl none, σ)) := by
  cases i
  case new k =>
    simp only [xnext] at h
    split at h
    · split at h
      · cases h
        exact Or.inl ⟨k, rfl, ‹_›, ‹_›, rfl⟩
      · cases h
    · exfalso
      unfold xgo at h
      repeat' split at h
      all_goals cases h
  case ireturn =>
    simp only [xnext] at h
    split at h
    · split at h
      · rename_i ty hty
        split at h
        · rename_i hn
          cases h
          exact Or.inr (Or.inl ⟨_, ty, rfl, rfl, hty, hn, rfl⟩)
        · cases h
      · cases h
    · cases h
  case lreturn =>
    simp only [xnext] at h
    split at h
    · cases h
      exact Or.inr (Or.inr (Or.inl ⟨_, rfl, rfl, rfl⟩))
    · cases h
  case dreturn =>
    simp only [xnext] at h
    split at h
    · cases h
      exact Or.inr (Or.inr (Or.inr (Or.inl ⟨_, rfl, rfl, rfl⟩)))
    · cases h
  case areturn =>
    simp only [xnext] at h
    split at h
    · cases h
      exact Or.inr (Or.inr (Or.inr (Or.inr (Or.inl ⟨_, rfl, rfl, rfl⟩))))
    · cases h
  case return_ =>
    simp only [xnext] at h
    split at h
    · cases h
      exact Or.inr (Or.inr (Or.inr (Or.inr (Or.inr ⟨rfl, rfl, rfl⟩))))
    · cases h
  case invokevirtual k => exact (xcall_end h).elim
  case invokestatic k =>
    exfalso
    simp only [xnext] at h
    split at h
    · unfold xcopy xgo at h
      repeat' split at h
      all_goals cases h
    · split at h
      · unfold x2i at h
        split at h
        · dsimp only at h
          split at h
          · cases h
          · cases h
        · cases h
      · split at h
        · unfold x2i at h
          split at h
          · dsimp only at h
            split at h
            · cases h
            · cases h
          · cases h
        · exact xcall_end h
  case invokespecial k =>
    exfalso
    simp only [xnext] at h
    split at h
    · unfold xgo at h
      repeat' split at h
      all_goals cases h
    · exact xcall_end h
  all_goals
    exfalso
    simp only [xnext, xgo, x1i, x2i, x2l, x2d, xif, xload, xstore, xald, xast] at h
    repeat' split at h
    all_goals cases h
end
section
/-! WHAT STANDS BEHIND A CALL: the value returned, or what was thrown. -/
section BACK
variable {p : Program} {l : Launch} {e : Env} {R : Room} {s : State} {m : MethodId} {args : Array Value} {below : List Frame} {meth : Method} {c : Code} {H : Heap} {locs : List Loc} {cells slots : Nat} {Q : State → Prop}
variable {A : Nat → Prop} {D : va_G} {cA : Nat → ClassId} {sA ρ : Nat → Nat} {M : Nat} {ls : Array Slot} {L st : List Value} {σ : xS} {pc nx a b : Nat} {v : Value}
theorem x_back (hat : x_at A D cA sA ρ M s H locs ls L σ) (hL : xlok σ.1.length L) {q : xR} {mc ms : Nat} {st0 rest : List Value} {av : Array Value} (hr : vx_Run p l e R s m args below meth c H locs cells slots mc ms (F0 m pc ls st0) rest (x_Q A D cA sA ρ σ q av) (x_XC A D cA sA ρ σ q) A)
    (kk : ∀ (w : Option Value) (ρ' : Nat → Nat) (H1 : Heap) (locs1 : List Loc), q.1 = .inl w → x_ag σ.1.length ρ ρ' → x_at A D cA sA ρ' M s H1 locs1 ls L q.2 → W p l e R s m args below meth c H1 locs1 (cells + mc) (slots + ms) Q (F0 m (pc + 3) ls ((w.map (x_v ρ')).toList ++ rest)))
    (kx : ∀ (E : String) (ρ' : Nat → Nat) (H1 : Heap) (locs1 : List Loc) (ce : Cell) (q9 : Addr), q.1 = .inr E → x_ag σ.1.length ρ ρ' → x_at A D cA sA ρ' M s H1 locs1 ls L q.2 → H1[q9]? = some ce → ce.vm = .none → s.vm.findClass E = some ce.cls → vx_W p l e R s m args below meth c H1 locs1 (cells + mc) (slots + ms) Q (F0 m pc ls rest) q9) :
    W p l e R s m args below meth c H locs cells slots Q (F0 m pc ls st0) := by
  have key : ∀ (ρ' : Nat → Nat) (t T' : State) (L1 : List Loc), x_ag σ.1.length ρ ρ' → x_wd A D cA sA ρ' q.2 t.heap → T'.heap = t.heap → va_S A s.heap T'.heap (locs ++ L1) → x_at A D cA sA ρ' M s T'.heap (locs ++ L1) ls L q.2 := by
    intro ρ' t T' L1 hag hwd e1 hS
    refine ⟨by rw [e1]; exact hwd.1, hwd.2.1, hS, ?_, hwd.2.2⟩
    rw [x_l_ag hag hL]
    exact hat.2.2.2.1
  intro T hT X
  rcases hr T hT X with ⟨v, st₀, t, T', L1, h0, X', hL1, e1, e2, ⟨⟨w, ρ', ho, hw, hag, hwd⟩, hF⟩, st⟩ | ⟨q9, st₀, t, T', L1, E, ce, h0, X', hL1, e1, e2, ⟨⟨ρ', hE, hag, hwd⟩, hF⟩, hce, hcv, hcl, st⟩
  · cases ho
    obtain ⟨k1, k2, k3⟩ := vx_keep h0 e1 hat.2.2.1 (fun _ _ h => h) (fun _ h => h) hL1 hF
    obtain ⟨t2, a1, b1⟩ := kk w ρ' T'.heap (locs ++ L1) hw hag (key ρ' t T' L1 hag hwd e1 k3) T' rfl X'
    exact ⟨t2, st t2 a1, b1⟩
  · obtain ⟨k1, k2, k3⟩ := vx_keep h0 e1 hat.2.2.1 (fun _ _ h => h) (fun _ h => h) hL1 hF
    obtain ⟨t2, a1, b1⟩ := kx E ρ' T'.heap (locs ++ L1) ce q9 hE hag (key ρ' t T' L1 hag hwd e1 k3) (by rw [e1]; exact hce) hcv hcl T' rfl X'
    exact ⟨t2, st.trans a1, b1⟩
theorem x_L.of0 {ls' : Array Slot} {nL i : Nat} {w : Value} {M : List Value} (hM : M.length = nL) (h : lv_has ls' nL ((i, w) :: (xpr 0 M).filter (fun q => !(q.1 == i) && !(q.1 + 1 == i && q.2.category == 2)))) : x_L ls' nL (xput M i xno) := by
  refine ⟨(xput_len xno M i).trans hM, h.1, h.2.1, fun q hq => ?_⟩
  obtain ⟨j, w'⟩ := q
  obtain ⟨-, h1, h2⟩ := (xpr_iff _ _ _ _).mp hq
  rcases xput_get xno M i j w' h1 h2 with ⟨rfl, rfl⟩ | ⟨k1, k2, k3, -⟩
  · exact absurd rfl h2
  · refine h.2.2 _ (List.mem_cons_of_mem _ (List.mem_filter.mpr ⟨(xpr_iff _ _ _ _).mpr ⟨Nat.zero_le _, k1, h2⟩, ?_⟩))
    simp only [Bool.and_eq_true, Bool.not_eq_true', beq_eq_false_iff_ne, ne_eq, Bool.and_eq_false_imp, beq_iff_eq]
    exact ⟨k2, fun q1 => fun q2 => k3 ⟨q1, q2⟩⟩
/-- what the tables say of a handler -/
def xent (z : Nat × Nat × Nat × Nat) : ExceptionTableEntry := ⟨z.1, z.2.1, z.2.2.1, z.2.2.2⟩
def xh_at (m pc : Nat) (E : String) (nx k : Nat) : Prop := ∃ (pre : List (Nat × Nat × Nat × Nat)) (x : Nat × Nat × Nat × Nat) (suf : List (Nat × Nat × Nat × Nat)) (nm : String), (xm m).2.2.2.2 = pre ++ x :: suf ∧
  (∀ z ∈ pre, covers (xent z) pc = false ∨ (z.2.2.2 ≠ 0 ∧ ∃ nm9, Cond.classLink (xm m).1.cls z.2.2.2 nm9 ∈ xWA ∧ (E, nm9) ∈ xncs)) ∧ covers (xent x) pc = true ∧ x.2.2.2 ≠ 0 ∧ Cond.classLink (xm m).1.cls x.2.2.2 nm ∈ xWA ∧ (E, nm) ∈ xcas ∧
  ((∃ kk, decode (xm m).2.1 x.2.2.1 = .ok (.astore_n kk, 1) ∧ k = (kk : Nat) ∧ nx = x.2.2.1 + 1) ∨ (decode (xm m).2.1 x.2.2.1 = .ok (.astore k, 2) ∧ nx = x.2.2.1 + 2))
def xh_ok : Prop := ∀ m pc E nx k, xh m pc E = some (nx, k) → xh_at m pc E nx k
/-- caught -/
theorem x_caught (F : x_F A D cA sA M p s m args meth c) (hat : x_at A D cA sA ρ M s H locs ls L σ) {E : String} {k : Nat} {ce : Cell} {q9 : Addr} {rest : List Value} (hx : xh_at M pc E nx k) (hk : k < L.length) (hce : H[q9]? = some ce) (hcv : ce.vm = .none) (hcl : s.vm.findClass E = some ce.cls)
    (kk : ∀ ls' : Array Slot, x_at A D cA sA ρ M s H locs ls' (xput L k xno) σ → W p l e R s m args below meth c H locs cells slots Q (F0 m nx ls' [])) : vx_W p l e R s m args below meth c H locs cells slots Q (F0 m pc ls rest) q9 := by
  obtain ⟨pre, x, suf, nm, ht, hpass, hcov, h0, hlink, hcas, hst⟩ := hx
  have hWA := F.2.2.2.2.2.2.2.1
  have hCF := F.2.2.2.2.2.2.2.2.2.1
  have htab := F.2.2.2.2.2.2.2.2.2.2
  have hlen : L.length = (xm M).2.2.1 := x_len hat
  have hsplit : c.exceptionTable.toList = pre.map xent ++ xent x :: suf.map xent := by
    rw [htab, ht]
    show (pre ++ x :: suf).map xent = _
    rw [List.map_append, List.map_cons]
  refine vx_catch (name := nm) F.2.2.2.1 (pre.map xent) (xent x) (suf.map xent) hsplit (fun z hz => ?_) hcov h0 (hWA _ hlink) ((hCF.2.2.2.2.2.2.2.2.2.2.2.2.1 _ hcas).use rfl) hce hcv hcl ?_
  · obtain ⟨z', hz', rfl⟩ := List.mem_map.mp hz
    rcases hpass z' hz' with h | ⟨h1, nm9, h2, h3⟩
    · exact Or.inl h
    · exact Or.inr ⟨h1, nm9, hWA _ h2, hCF.2.2.2.2.2.2.2.2.2.2.2.2.2.2.1 _ h3⟩
  · have hM : (L.map (x_v ρ)).length = (xm M).2.2.1 := by rw [List.length_map]; exact hlen
    have fin : ∀ ls' : Array Slot, lv_has ls' (xm M).2.2.1 ((k, Value.ref q9) :: (xpr 0 (L.map (x_v ρ))).filter (fun q => !(q.1 == k) && !(q.1 + 1 == k && q.2.category == 2))) → W p l e R s m args below meth c H locs cells slots Q (F0 m nx ls' []) := by
      intro ls' h
      have h2 := x_L.of0 hM h
      refine kk ls' ⟨hat.1, hat.2.1, hat.2.2.1, ?_, hat.2.2.2.2⟩
      have e9 : xput (L.map (x_v ρ)) k xno = (xput L k xno).map (x_v ρ) := xput_map ρ xno L k
      rw [e9] at h2
      exact h2
    rcases hst with ⟨kn, hd, rfl, rfl⟩ | ⟨hd, rfl⟩
    · exact lv_astore_n F.1 F.2.1 hd rfl hat.2.2.2.1.2 (by omega) rfl fin
    · exact lv_astore F.1 F.2.1 hd hat.2.2.2.1.2 (by omega) rfl fin
end BACK
end
section
/-! THE RUN: what the interpreter computes, the machine does. -/
def xgood : Prop := (∀ m pc i nx a b v, xc m pc = some (i, nx, a, b, v) → xok m pc i nx a b v) ∧ xtabs ∧ xct_ok ∧ xrc_ok ∧ xh_ok ∧ (∀ a, xmt a = true → (xm a).2.2.2.2 = []) ∧ ∀ m, plainName (xm m).1.cls = true
section RUN
variable {p : Program} {l : Launch} {e : Env} {R : Room} {s : State} {m : MethodId} {args : Array Value} {below : List Frame} {meth : Method} {c : Code} {Q : State → Prop}
variable {A : Nat → Prop} {D : va_G} {cA : Nat → ClassId} {sA ρ0 : Nat → Nat} {M : Nat} {σ0 : xS}
/-- what a run owes at its end: the law's, or a method's; an end by 'throw' -/
def x_ends (A : Nat → Prop) (D : va_G) (cA : Nat → ClassId) (sA ρ0 : Nat → Nat) (σ0 : xS) (r : xR) (p : Program) (l : Launch) (e : Env) (R : Room) (s : State) (m : MethodId) (args : Array Value) (below : List Frame) (meth : Method) (c : Code) (Q : State → Prop) : Prop :=
  (∀ (H : Heap) (locs : List Loc) (cells slots : Nat) (g : JFrame), (∀ q ∈ locs, A q.base) → cells + σ0.2.1 = r.2.2.1 → slots + σ0.2.2 = r.2.2.2 → (∀ (locs' : List Loc) (c' n' : Nat) (free : Addr → Prop), (∀ q ∈ locs', free q.base) → W p l e R s m args below meth c H locs' c' n' (MQ below (x_Q A D cA sA ρ0 σ0 r) args s c' n' free) g) → W p l e R s m args below meth c H locs cells slots Q g) ∧
  ∀ E, r.1 = .inr E → ∃ mc ms, mc + σ0.2.1 = r.2.2.1 ∧ ms + σ0.2.2 = r.2.2.2 ∧ Q = vx_MQ below (x_Q A D cA sA ρ0 σ0 r) (x_XC A D cA sA ρ0 σ0 r) args s mc ms A
theorem x_retQ {ρ : Nat → Nat} {H : Heap} {locs : List Loc} {ls : Array Slot} {L : List Value} {σ : xS} (hat : x_at A D cA sA ρ M s H locs ls L σ) (hag : x_ag σ0.1.length ρ0 ρ) {w : Option Value} {r : xR} (hr : r = (.inl w, σ)) {t : State} (ht : t.heap = H) : x_Q A D cA sA ρ0 σ0 r args s (.returned (w.map (x_v ρ))) t := by
  subst hr
  refine ⟨⟨w, ρ, rfl, rfl, hag, ?_⟩, hat.2.2.1.F ht⟩
  rw [ht]
  exact ⟨hat.1, hat.2.1, hat.2.2.2.2⟩
theorem x_throw {ρ : Nat → Nat} {H : Heap} {locs : List Loc} {cells slots : Nat} {ls : Array Slot} {L : List Value} {σ : xS} {pc k : Nat} {E : String} {r : xR} (hl : l.stackTraces = false) (F : x_F A D cA sA M p s m args meth c) (hat : x_at A D cA sA ρ M s H locs ls L σ) (hag : x_ag σ0.1.length ρ0 ρ) (ht : xthr M pc k E) (hr : r = (.inr E, σ.1, σ.2.1 + 1, σ.2.2 + 6))
    (hc : cells + σ0.2.1 = σ.2.1) (hs : slots + σ0.2.2 = σ.2.2) (hR1 : r.2.2.1 ≤ R.cells + σ0.2.1) (hR2 : r.2.2.2 ≤ R.slots + σ0.2.2) (hRf : 13 ≤ R.frames) (hRl : 200 ≤ R.locals) (hends : x_ends A D cA sA ρ0 σ0 r p l e R s m args below meth c Q) :
    W p l e R s m args below meth c H locs cells slots Q (F0 m pc ls []) := by
  subst hr
  dsimp only at hR1 hR2
  obtain ⟨mc, ms, h1, h2, rfl⟩ := hends.2 E rfl
  dsimp only at h1 h2
  obtain ⟨htab, is, ic, sa, text, names, hfit, hnames, hlink, hini, hsts, hat9, hnl, d0, d3, d4⟩ := ht
  have hWA := F.2.2.2.2.2.2.2.1
  have hCF := F.2.2.2.2.2.2.2.2.2.1
  have hx2 : c.exceptionTable.toList = [] := by rw [F.2.2.2.2.2.2.2.2.2.2, htab]; rfl
  have hvs := hCF.2.2.2.2.1 _ hsts
  have hat1 : ∀ w ∈ vx_atS (xm M).1.cls ic E names, w.before args s = true := fun w hw => by
    rcases hat9 w hw with h | ⟨C, T, rfl, h⟩ | ⟨y, rfl, h⟩
    · exact hWA w h
    · exact (hCF.2.2.2.2.2.2.2.2.2.2.2.2.1 _ h).use rfl
    · exact (hCF.2.2.2.2.2.2.2.2.2.2.2.2.2.1 _ h).use rfl
  have hgood : ∀ w ∈ Cond.classLink (xm M).1.cls k E :: Cond.initialized E :: vx_atS (xm M).1.cls ic E names, vx_ot w = true := fun w hw => by
    rcases List.mem_cons.mp hw with rfl | hw
    · rfl
    · rcases List.mem_cons.mp hw with rfl | hw
      · have := (List.mem_filter.mp hini).2
        simp [vx_ot, this]
      · rcases hat9 w hw with h | ⟨C, T, rfl, h⟩ | ⟨y, rfl, h⟩
        · have := (List.mem_filter.mp h).2
          simp [vx_ot, this]
        · rfl
        · rfl
  have hsz : ls.size = c.maxLocals := by rw [F.2.2.1]; exact hat.2.2.2.1.2.1
  have hx : ∀ t : State, s.vm.Alike t.vm → H.size ≤ t.heap.size → (∀ q : Nat, q < H.size → t.heap[q]? = H[q]?) → x_XC A D cA sA ρ0 σ0 (.inr E, σ.1, σ.2.1 + 1, σ.2.2 + 6) E s t := fun t _ hz hk => by
    refine ⟨⟨ρ, rfl, hag, ?_, hat.2.1, hat.2.2.2.2⟩, Nat.le_trans hat.2.2.1.1 hz, fun q h3 h4 => ?_⟩
    · exact hat.1.kept fun i q hq => hk q.1 (vx_lt hat.1 hq)
    · rw [hk q (Nat.lt_of_lt_of_le h3 hat.2.2.1.1)]
      exact hat.2.2.1.2.1 q h3 h4
  have hR3 : names.length + 3 < R.frames := by omega
  have hR4 : (([] : List Value).map fun v => v.category).sum + (13 * (names.length + 1) + 43) ≤ R.locals := by
    simp only [List.map_nil, List.sum_nil]
    omega
  rcases d4 with ⟨d4, d6, d9⟩ | ⟨d4, d7, d10⟩
  · exact vx_throwS F.1 F.2.1 hl (names := names) F.2.2.2.1 hfit hnames (hWA _ hlink) (hWA _ hini) hvs hat1 hgood hCF.2.2.2.2.2.2.2.2.2.1 hCF.2.2.2.2.2.2.2.2.2.2.1 hat.2.2.1 hsz d0 d3 d4 d6 d9 (by rw [hx2]; exact fun _ h => nomatch h) hR3 hR4 (by omega) (by omega) F.2.2.2.2.2.2.1 hx hat.2.2.1.2.2 (by omega) (by omega)
  · exact vx_throwSW F.1 F.2.1 hl (names := names) F.2.2.2.1 hfit hnames (hWA _ hlink) (hWA _ hini) hvs hat1 hgood hCF.2.2.2.2.2.2.2.2.2.1 hCF.2.2.2.2.2.2.2.2.2.2.1 hat.2.2.1 hsz d0 d3 d4 d7 d10 (by rw [hx2]; exact fun _ h => nomatch h) hR3 hR4 (by omega) (by omega) F.2.2.2.2.2.2.1 hx hat.2.2.1.2.2 (by omega) (by omega)
/-- an end by a return -/
theorem x_ret {ρ : Nat → Nat} {H : Heap} {locs : List Loc} {cells slots : Nat} {ls : Array Slot} {L st : List Value} {σ : xS} {pc nx a b : Nat} {i : Instr} {v : Value} {r : xR} (F : x_F A D cA sA M p s m args meth c) (hat : x_at A D cA sA ρ M s H locs ls L σ) (hag : x_ag σ0.1.length ρ0 ρ) (ho : xok M pc i nx a b v) (hnew : ∀ k, i ≠ .new k) (h : xnext M i nx a b v L st σ = some (.inr (.inr r)))
    (hc : cells + σ0.2.1 = σ.2.1) (hs : slots + σ0.2.2 = σ.2.2) (hends : x_ends A D cA sA ρ0 σ0 r p l e R s m args below meth c Q) :
    W p l e R s m args below meth c H locs cells slots Q (F0 m pc ls (st.map (x_v ρ))) := by
  have hlocks := F.2.2.2.2.2.2.1
  have hret := F.2.2.2.2.2.1
  rcases x_inv_end h with ⟨k, rfl, -⟩ | ⟨x, ty, rfl, rfl, hty, hn, hr⟩ | ⟨x, rfl, rfl, hr⟩ | ⟨x, rfl, rfl, hr⟩ | ⟨x, rfl, rfl, hr⟩ | ⟨rfl, rfl, hr⟩
  · exact absurd rfl (hnew k)
  · refine hends.1 H locs cells slots _ hat.2.2.1.2.2 (by rw [hr]; exact hc) (by rw [hr]; exact hs) (fun locs' c' n' free hf => ?_)
    exact W.zret F.1 F.2.1 (hret.trans hty) hn (fun t ht hW => x_retQ (w := some (.int x)) hat hag hr ht) hf ho.1 hlocks
  · refine hends.1 H locs cells slots _ hat.2.2.1.2.2 (by rw [hr]; exact hc) (by rw [hr]; exact hs) (fun locs' c' n' free hf => ?_)
    exact W.lret F.1 F.2.1 (hret.trans ho.2) (fun t ht hW => x_retQ (w := some (.long x)) hat hag hr ht) hf ho.1.1 hlocks
  · refine hends.1 H locs cells slots _ hat.2.2.1.2.2 (by rw [hr]; exact hc) (by rw [hr]; exact hs) (fun locs' c' n' free hf => ?_)
    exact W.dret F.1 F.2.1 (hret.trans ho.2) (fun t ht hW => x_retQ (w := some (.double x)) hat hag hr ht) hf ho.1.1 hlocks
  · refine hends.1 H locs cells slots _ hat.2.2.1.2.2 (by rw [hr]; exact hc) (by rw [hr]; exact hs) (fun locs' c' n' free hf => ?_)
    obtain ⟨h1, rt, h2, h3⟩ := ho
    exact W.aret F.1 F.2.1 (hret.trans h2) h3 (Or.inr ⟨_, rfl⟩) (fun t ht hW => x_retQ (w := some (.ref x)) hat hag hr ht) hf h1.1 hlocks
  · refine hends.1 H locs cells slots _ hat.2.2.1.2.2 (by rw [hr]; exact hc) (by rw [hr]; exact hs) (fun locs' c' n' free hf => ?_)
    exact W.vret F.1 F.2.1 (hret.trans ho.2) (fun t ht hW => x_retQ (w := none) hat hag hr ht) hf ho.1 hlocks
/-- a step over the script -/
theorem x_scr {ρ : Nat → Nat} {H : Heap} {locs : List Loc} {cells slots : Nat} {ls : Array Slot} {L st : List Value} {σ : xS} {pc : Nat} {g : xGo} (hgood : ∀ m pc i nx a b v, xc m pc = some (i, nx, a, b, v) → xok m pc i nx a b v) (F : x_F A D cA sA M p s m args meth c) (hat : x_at A D cA sA ρ M s H locs ls L σ) (h : yscr (xscr sA) M (pc, L, st, σ) = some (.inl g)) (hk : x_K A D cA sA ρ M p l e R s m args below meth c cells slots Q σ g) :
    W p l e R s m args below meth c H locs cells slots Q (F0 m pc ls (st.map (x_v ρ))) := by
  have hT := F.2.2.2.2.2.2.2.2.2.1.2.2.2.2.2.2.2.2.2.2.2.2.2.2.2
  have hq : x_v ρ (.ref xSp) = .ref (sA xSp) := congrArg Value.ref (hat.2.2.2.2 xSp (by decide))
  unfold yscr at h
  split at h
  · rename_i i nx a b v hc
    have ho := hgood _ _ _ _ _ _ _ hc
    split at h
    · split at h
      · rename_i q r e9
        split at h
        · rename_i hp
          subst hp
          cases h
          dsimp only at e9
          subst e9
          obtain ⟨hd, rfl⟩ := ho
          rw [List.map_cons, hq]
          exact va_tlen F.1 F.2.1 hT hat.2.2.1 (by rw [xscr, List.length_map, List.length_range]; rfl) hd (hk.same rfl hat)
        · cases h
      · cases h
    · split at h
      · rename_i k q r e9
        dsimp only at e9
        subst e9
        split at h
        · rename_i hp
          obtain ⟨rfl, hp⟩ := hp
          split at h
          · rename_i x hx
            cases h
            obtain ⟨hd, rfl⟩ := ho
            have hlt := (List.getElem?_eq_some_iff.mp hx).1
            rw [xscr, List.length_map, List.length_range] at hlt
            rw [List.map_cons, List.map_cons, hq]
            refine va_ti F.1 F.2.1 hT hat.2.2.1 (x_vin hp hlt) (v := .int x) ?_ hd (hk.same rfl hat)
            simp only [xscr, List.getElem?_map, List.getElem?_range hlt, Option.map_some, Option.some.injEq] at hx
            rw [← hx]
          · cases h
        · cases h
      · cases h
    · cases h
  · cases h
theorem x_run {S : List Int32} (hS : S = xscr sA) (G : xgood) (hl : l.stackTraces = false) {d : Nat} {C : Nat → List Value → xS → xR → Prop} (hCok : xEok C) (hC : ∀ (a : Nat) (vs : List Value) (σ : xS) (q : xR) (ρ : Nat → Nat), C a vs σ q → xsok σ → xlok σ.1.length vs → (q.1.isRight = true → xmt a = true) ∧ x_con l A D cA sA ρ d a vs σ q)
    (F : x_F A D cA sA M p s m args meth c) (hRf : d + 13 ≤ R.frames) (hRl : 60 * d + 260 ≤ R.locals) {r : xR} (hmt : r.1.isRight = true → xmt M = true) (hR1 : r.2.2.1 ≤ R.cells + σ0.2.1) (hR2 : r.2.2.2 ≤ R.slots + σ0.2.2) (hends : x_ends A D cA sA ρ0 σ0 r p l e R s m args below meth c Q) :
    ∀ (n : Nat) (g : xGo), xgok g → yrun S C M n g r → σ0.1.length ≤ g.2.2.2.1.length → ∀ (ρ : Nat → Nat) (ls : Array Slot) (H : Heap) (locs : List Loc) (cells slots : Nat), x_ag σ0.1.length ρ0 ρ → cells + σ0.2.1 = g.2.2.2.2.1 → slots + σ0.2.2 = g.2.2.2.2.2 → x_at A D cA sA ρ M s H locs ls g.2.1 g.2.2.2 →
      W p l e R s m args below meth c H locs cells slots Q (F0 m g.1 ls (g.2.2.1.map (x_v ρ))) := by
  obtain ⟨hgood, hT, hct, hrc, hxh, hm0, hpl⟩ := G
  subst hS
  intro n
  induction n with
  | zero => intro g _ h; exact h.elim
  | succ n ih =>
    intro g hg h hlen ρ ls H locs cells slots hag hcc hss hat
    have hrun := h
    have hle := (yrun_ok hT hCok (n + 1) g r hg h).2.1
    simp only [yrun] at h
    obtain ⟨pc, L, st, σ⟩ := g
    dsimp only at hlen hcc hss hat hle ⊢
    have goK : ∀ g' : xGo, xgok g' → xle σ g'.2.2.2 → yrun (xscr sA) C M n g' r → x_K A D cA sA ρ M p l e R s m args below meth c cells slots Q σ g' := by
      intro g' hg' hle' hn ρ' ls' H' locs' cells' slots' hag' hc' hs' hat'
      exact ih g' hg' hn (Nat.le_trans hlen hle'.1) ρ' ls' H' locs' cells' slots' (hag.tr hlen hag') (by omega) (by omega) hat'
    cases hact : yat (xscr sA) M (pc, L, st, σ) with
    | none => rw [hact] at h; exact h.elim
    | some act =>
      rw [hact] at h
      have ha := yat_ok hT hg hact
      have hxs : xat M (pc, L, st, σ) = some act ∨ ∃ g', act = .inl g' ∧ yscr (xscr sA) M (pc, L, st, σ) = some (.inl g') := by
        unfold yat at hact
        split at hact
        · rename_i act' ha'
          cases hact
          exact Or.inl ha'
        · obtain ⟨g', rfl, -, -⟩ := yscr_ok hg hact
          exact Or.inr ⟨g', rfl, hact⟩
      rcases hxs with hx | ⟨g', rfl, hx⟩
      · simp only [xat] at hx
        split at hx
        · rename_i i nx a b v hcx
          have ho := hgood _ _ _ _ _ _ _ hcx
          match act, h, ha with
          | .inl g', h, ha =>
            have hg'1 := (yrun_ok hT hCok n g' r ha.1 h).2.1
            have q1 := ha.2.2.1
            have q2 := ha.2.2.2
            have q3 := hg'1.2.1
            have q4 := hg'1.2.2
            dsimp only at q1 q2
            exact x_go F hat ho hx hT hct hrc hg (by omega) (by omega) (by omega) (by omega) (goK g' ha.1 ha.2 h)
          | .inr (.inl (a', vs, nx', L', rest, s')), ⟨q, h1, h2⟩, ⟨e, k1, k2, k3⟩ =>
            dsimp only at e
            subst e
            obtain ⟨hmq, hcon⟩ := hC _ _ _ _ ρ h1 hg.1 k1
            have hq := hCok _ _ _ _ hg.1 k1 h1
            have hqr : xle q.2 r.2 := by
              obtain ⟨o, s2⟩ := q
              have hle2 : s'.1.length ≤ s2.1.length := hq.2.1.1
              cases o with
              | inl w => cases w with
                | none => exact (yrun_ok hT hCok n _ r ⟨hq.1, k2.mono hle2, k3.mono hle2⟩ h2).2.1
                | some w => exact (yrun_ok hT hCok n _ r ⟨hq.1, k2.mono hle2, xlok.cons (hq.2.2 w rfl) (k3.mono hle2)⟩ h2).2.1
              | inr E =>
                simp only [xcont] at h2
                cases hx9 : xh M pc E with
                | none =>
                  rw [hx9] at h2
                  rw [h2]
                  exact xle.rf _
                | some z =>
                  rw [hx9] at h2
                  exact (yrun_ok hT hCok n _ r ⟨hq.1, (k2.mono hle2).put (xvok.no _) _, xlok.nil _⟩ h2.2).2.1
            have z1 := hqr.2.1
            have z2 := hqr.2.2
            have z3 := hq.2.1.2.1
            have z4 := hq.2.1.2.2
            dsimp only at z3 z4
            have hf : cells + (q.2.2.1 - s'.2.1) ≤ R.cells ∧ slots + (q.2.2.2 - s'.2.2) ≤ R.slots := ⟨by omega, by omega⟩
            have hrun9 : ∃ (av : Array Value), nx' = pc + 3 ∧ L' = L ∧ vx_Run p l e R s m args below meth c H locs cells slots (q.2.2.1 - s'.2.1) (q.2.2.2 - s'.2.2) (F0 m pc ls (st.map (x_v ρ))) (rest.map (x_v ρ)) (x_Q A D cA sA ρ s' q av) (x_XC A D cA sA ρ s' q) A := by
              rcases x_inv_call hx with ⟨k, rfl, hx2⟩ | ⟨k, rfl, n0, n1, n2, hx2⟩ | ⟨k, rfl, n3, hx2⟩
              · obtain ⟨w1, w2, w3, rfl, rfl, rfl, rfl, rfl, -⟩ := xcall_in hx2
                obtain ⟨hd, rfl, hcv⟩ := ho
                exact ⟨_, rfl, rfl, x_callV F hat hrc hg.1 hd hcv w3 w1 w2 hcon (by omega) (by omega) hf⟩
              · obtain ⟨w1, w2, w3, rfl, rfl, rfl, rfl, rfl, -⟩ := xcall_in hx2
                obtain ⟨hd, rfl, -, -, -, hcs⟩ := ho
                exact ⟨_, rfl, rfl, x_callS F hat (hm0 _) hd (hcs n0 n1 n2) w1 w2 hcon (by omega) (by omega) hf⟩
              · obtain ⟨w1, w2, w3, rfl, rfl, rfl, rfl, rfl, -⟩ := xcall_in hx2
                obtain ⟨hd, rfl, -, hci⟩ := ho
                exact ⟨_, rfl, rfl, x_callI F hat hrc hg.1 hd (hci n3) w3 w1 w2 hcon (by omega) (by omega) hf⟩
            obtain ⟨av, rfl, rfl, hvr⟩ := hrun9
            refine x_back hat hg.2.1 hvr (fun w ρ' H1 locs1 hw hag' hat' => ?_) (fun E ρ' H1 locs1 ce q9 hE hag' hat' hce hcv hcl => ?_)
            · obtain ⟨o, s2⟩ := q
              dsimp only at hw hat' hq ⊢
              subst hw
              have hle2 : s'.1.length ≤ s2.1.length := hq.2.1.1
              have hrest : rest.map (x_v ρ) = rest.map (x_v ρ') := (x_l_ag hag' k3).symm
              cases w with
              | none =>
                have h3 := ih (pc + 3, L', rest, s2) ⟨hq.1, k2.mono hle2, k3.mono hle2⟩ h2 (Nat.le_trans hlen hle2) ρ' ls H1 locs1 (cells + (s2.2.1 - s'.2.1)) (slots + (s2.2.2 - s'.2.2)) (hag.tr hlen hag') (by dsimp only at z3 ⊢; omega) (by dsimp only at z4 ⊢; omega) hat'
                rw [hrest]
                exact h3
              | some w =>
                have h3 := ih (pc + 3, L', w :: rest, s2) ⟨hq.1, k2.mono hle2, xlok.cons (hq.2.2 w rfl) (k3.mono hle2)⟩ h2 (Nat.le_trans hlen hle2) ρ' ls H1 locs1 (cells + (s2.2.1 - s'.2.1)) (slots + (s2.2.2 - s'.2.2)) (hag.tr hlen hag') (by dsimp only at z3 ⊢; omega) (by dsimp only at z4 ⊢; omega) hat'
                rw [hrest]
                exact h3
            · obtain ⟨o, s2⟩ := q
              dsimp only at hE hat' hq ⊢
              subst hE
              have hle2 : s'.1.length ≤ s2.1.length := hq.2.1.1
              simp only [xcont] at h2
              cases hx9 : xh M pc E with
              | none =>
                rw [hx9] at h2
                subst h2
                obtain ⟨mc, ms, e1, e2, rfl⟩ := hends.2 E rfl
                have htab : c.exceptionTable.toList = [] := by
                  rw [F.2.2.2.2.2.2.2.2.2.2, hm0 _ (hmt rfl)]; rfl
                refine vx_out (by rw [htab]; exact fun _ h => nomatch h) F.2.2.2.2.2.2.1 hce hcv hcl (fun t ht hal => ?_) hat'.2.2.1.2.2 (by dsimp only at z3 e1 ⊢; omega) (by dsimp only at z4 e2 ⊢; omega)
                refine ⟨⟨ρ', rfl, hag.tr hlen hag', ?_⟩, hat'.2.2.1.F ht⟩
                rw [ht]
                exact ⟨hat'.1, hat'.2.1, hat'.2.2.2.2⟩
              | some z =>
                obtain ⟨nx9, k9⟩ := z
                rw [hx9] at h2
                obtain ⟨hk9, h2⟩ := h2
                refine x_caught F hat' (hxh _ _ _ _ _ hx9) hk9 hce hcv hcl (fun ls' hat9 => ?_)
                exact ih (nx9, xput L' k9 xno, [], s2) ⟨hq.1, (k2.mono hle2).put (xvok.no _) _, xlok.nil _⟩ h2 (Nat.le_trans hlen hle2) ρ' ls' H1 locs1 _ _ (hag.tr hlen hag') (by dsimp only at z3 ⊢; omega) (by dsimp only at z4 ⊢; omega) hat9
          | .inr (.inr r0), h, ha =>
            have e0 : r = r0 := h
            subst e0
            by_cases hnew : ∃ k, i = .new k
            · obtain ⟨k, rfl⟩ := hnew
              rcases x_inv_end hx with ⟨k', e1, e2, rfl, e4⟩ | ⟨x, ty, e1, -⟩ | ⟨x, e1, -⟩ | ⟨x, e1, -⟩ | ⟨x, e1, -⟩ | ⟨e1, -⟩
              · exact x_throw hl F hat hag (ho.1 e2) e4 hcc hss hR1 hR2 (by omega) (by omega) hends
              all_goals cases e1
            · exact x_ret F hat hag ho (fun k hk => hnew ⟨k, hk⟩) hx hcc hss hends
        · cases hx
      · exact x_scr hgood F hat hx (goK g' ha.1 ha.2 h)
end RUN
end
section
/-! EVERY METHOD'S CONTRACT: where the interpreter comes to q, the machine does. -/
section EMET
variable {l : Launch} {A : Nat → Prop} {D : va_G} {cA : Nat → ClassId} {sA : Nat → Nat}
theorem x_start {p : Program} {e : Env} {s : State} {m : MethodId} {args : Array Value} {below : List Frame} {meth : Method} {c : Code} {Q : State → Prop} {R : Room} (G : xgood) (hl : l.stackTraces = false) {d a : Nat} {vs : List Value} {σ : xS} {q : xR} {ρ : Nat → Nat}
    (hC : ∀ (a : Nat) (vs : List Value) (σ : xS) (q : xR) (ρ : Nat → Nat), yE (xscr sA) d a vs σ q → xsok σ → xlok σ.1.length vs → (q.1.isRight = true → xmt a = true) ∧ x_con l A D cA sA ρ d a vs σ q)
    (h : yE (xscr sA) (d + 1) a vs σ q) (hs : xsok σ) (hv : xlok σ.1.length vs) (F : x_F A D cA sA a p s m args meth c) (hwd : x_wd A D cA sA ρ σ s.heap) (hRf : d + 13 ≤ R.frames) (hRl : 60 * d + 260 ≤ R.locals) (hR1 : q.2.2.1 ≤ R.cells + σ.2.1) (hR2 : q.2.2.2 ≤ R.slots + σ.2.2)
    (hends : x_ends A D cA sA ρ σ q p l e R s m args below meth c Q) :
    W p l e R s m args below meth c s.heap [] 0 0 Q (entryFrame m (vs.map (x_v ρ)).toArray (xm a).2.2.1) := by
  obtain ⟨h1, h2, n, h3⟩ := h
  rw [lg_entry_eq]
  have hlen : (xargs (vs.map (x_v ρ))).length ≤ (xm a).2.2.1 := by rw [xargs_map, List.length_map]; exact h1
  have hL := x_L.entry hlen
  rw [xentry_map] at hL
  have hmt : q.1.isRight = true → xmt a = true := fun hq => by
    cases hq1 : q.1 with
    | inl w => rw [hq1] at hq; cases hq
    | inr E => exact h2 E hq1
  exact x_run rfl G hl (yE_ok G.2.1 d) hC F hRf hRl hmt hR1 hR2 hends n (0, xentry vs (xm a).2.2.1, [], σ) ⟨hs, hv.entry, xlok.nil _⟩ h3 (Nat.le_refl _) ρ _ s.heap [] 0 0 x_ag.rf (Nat.zero_add _) (Nat.zero_add _) ⟨hwd.1, hwd.2.1, va_S.rf, hL, hwd.2.2⟩
theorem x_E (G : xgood) (hl : l.stackTraces = false) : ∀ (d a : Nat) (vs : List Value) (σ : xS) (q : xR) (ρ : Nat → Nat), yE (xscr sA) d a vs σ q → xsok σ → xlok σ.1.length vs → (q.1.isRight = true → xmt a = true) ∧ x_con l A D cA sA ρ d a vs σ q
  | 0, _, _, _, _, _, h, _, _ => h.elim
  | d + 1, a, vs, σ, q, ρ, h, hs, hv => by
    have ih := x_E G hl d
    have hmt : ∀ E, q.1 = .inr E → xmt a = true := h.2.1
    have hok := yE_ok G.2.1 (d + 1) _ _ _ _ hs hv h
    have z1 := hok.2.1.2.1
    have z2 := hok.2.1.2.2
    refine ⟨fun hq => ?_, fun hm => ?_, fun hm => ?_⟩
    · cases hq1 : q.1 with
      | inl w => rw [hq1] at hq; cases hq
      | inr E => exact hmt E hq1
    · have ht := G.2.2.2.2.2.1 a hm
      have ehd : x_hd a = .code (xm a).1 (xm a).2.1 (xm a).2.2.1 (xm a).2.2.2.1 := if_pos ht
      refine vx_ofW (G.2.2.2.2.2.2 a) (by rw [ehd]) ?_
      intro p e s m args below meth c s₁ B hml hex hP
      obtain ⟨rfl, hK, hCF, hwd⟩ := hP
      have F : x_F A D cA sA a p s m (vs.map (x_v ρ)).toArray meth c := ⟨B.exec, B.bytes, hml, findClass_of_methodNamed B.named, (name_of_methodNamed B.named B.method).1, B.returns, B.notSynchronized, fun w hw => atoms_spec B.pre w (List.mem_cons_of_mem _ hw), hK, hCF, by rw [ht]; exact List.eq_nil_iff_forall_not_mem.mpr hex⟩
      refine x_start G hl ih h hs hv F hwd ?_ ?_ ?_ ?_ ⟨fun H locs cells slots g hloc hc hs9 k => ?_, fun E hE => ?_⟩
      · show d + 13 ≤ d + 1 + 12
        omega
      · show 60 * d + 260 ≤ 60 * (d + 1) + 200
        omega
      · show _ ≤ (q.2.2.1 - σ.2.1) + _
        omega
      · show _ ≤ (q.2.2.2 - σ.2.2) + _
        omega
      · have e1 : q.2.2.1 - σ.2.1 = cells := by omega
        have e2 : q.2.2.2 - σ.2.2 = slots := by omega
        rw [e1, e2] at k ⊢
        exact vx_ret (k locs cells slots A hloc)
      · exact ⟨q.2.2.1 - σ.2.1, q.2.2.2 - σ.2.2, by omega, by omega, rfl⟩
    · have body : ∀ (p : Program) (e : Env) (s : State) (m : MethodId) (args : Array Value) (below : List Frame) (meth : Method) (c : Code) (s₁ : State), BodyLoose p l (xm a).1 (headSpec (x_hd a :: xWA) (x_rm (d + 1) (q.2.2.1 - σ.2.1) (q.2.2.2 - σ.2.2))) (xm a).2.1 (xm a).2.2.1 (xm a).2.2.2.1 e s m args below meth c s₁ → c.maxLocals = (xm a).2.2.1 → c.exceptionTable.toList = tableOf (xm a).2.2.2.2 → va_Pc (vs.map (x_v ρ)) (x_B A D cA sA ρ σ) args s →
          W p l e (headSpec (x_hd a :: xWA) (x_rm (d + 1) (q.2.2.1 - σ.2.1) (q.2.2.2 - σ.2.2))).room s m args below meth c s.heap [] 0 0 (MQ below (x_Q A D cA sA ρ σ q) args s (q.2.2.1 - σ.2.1) (q.2.2.2 - σ.2.2) A) (entryFrame m args (xm a).2.2.1) := by
        intro p e s m args below meth c s₁ B hml hex hP
        obtain ⟨rfl, hK, hCF, hwd⟩ := hP
        have F : x_F A D cA sA a p s m (vs.map (x_v ρ)).toArray meth c := ⟨B.exec, B.bytes, hml, findClass_of_methodNamed B.named, (name_of_methodNamed B.named B.method).1, B.returns, B.notSynchronized, fun w hw => atoms_spec B.pre w (List.mem_cons_of_mem _ hw), hK, hCF, hex⟩
        refine x_start G hl ih h hs hv F hwd ?_ ?_ ?_ ?_ ⟨fun H locs cells slots g hloc hc hs9 k => ?_, fun E hE => ?_⟩
        · show d + 13 ≤ d + 1 + 12
          omega
        · show 60 * d + 260 ≤ 60 * (d + 1) + 200
          omega
        · show _ ≤ (q.2.2.1 - σ.2.1) + _
          omega
        · show _ ≤ (q.2.2.2 - σ.2.2) + _
          omega
        · have e1 : q.2.2.1 - σ.2.1 = cells := by omega
          have e2 : q.2.2.2 - σ.2.2 = slots := by omega
          rw [e1, e2] at k ⊢
          exact k locs cells slots A hloc
        · exact absurd (hmt E hE) (by rw [hm]; exact Bool.false_ne_true)
      by_cases ht : (xm a).2.2.2.2 = []
      · have ehd : x_hd a = .code (xm a).1 (xm a).2.1 (xm a).2.2.1 (xm a).2.2.2.1 := if_pos ht
        refine Met.ofW (G.2.2.2.2.2.2 a) (by rw [ehd]) ?_
        intro p e s m args below meth c s₁ B hml hP
        refine body p e s m args below meth c s₁ B hml ?_ hP
        obtain ⟨meth9, c9, h1, h2, -, -, -, -, h7, -⟩ := Cond.code_spec B.named (ehd ▸ atoms_spec B.pre (x_hd a) List.mem_cons_self)
        cases Option.some.inj (h1.symm.trans B.method)
        cases Option.some.inj (h2.symm.trans (Stand.of_body B).code)
        rw [ht]
        show c.exceptionTable.toList = []
        rw [Array.isEmpty_iff.mp h7]
      · have ehd : x_hd a = .codeWith (xm a).1 (xm a).2.1 (xm a).2.2.1 (xm a).2.2.2.1 (xm a).2.2.2.2 := if_neg ht
        refine va_MetW (G.2.2.2.2.2.2 a) (by rw [ehd]) ?_
        intro p e s m args below meth c s₁ B hml hP
        exact body p e s m args below meth c s₁ B hml (vx_table (x := (xm a).1) B (ehd ▸ atoms_spec B.pre (x_hd a) List.mem_cons_self)) hP
end EMET
end
