/-! AN INDEX LOOKED AT BY THE JDK: Preconditions.checkIndex where the index is one of the row's. -/
section CHECK
theorem x_pci (l : Launch) (i n : Int32) (f : Value) (hf : f = .null ∨ ∃ t, f = .ref t) (h0 : ¬ i < 0) (h1 : i < n) : Met l yJ3_checkIndex_8e157 [.code yJ3_checkIndex_8e157 cJ3_checkIndex_8e157 3 (some .int)] ({ frames := 0, cells := 0, slots := 0, locals := 0 }) (va_Pc [.int i, .int n, f] (fun _ => True)) (va_Qi (fun (r : Int32) (_ : Unit) => r = i) (fun _ _ => True) (fun _ => False)) 0 0 (fun _ => False) := by
  refine Met.ofW (cc := cJ3_checkIndex_8e157) (maxL := 3) (ret := some .int) (by decide) rfl ?_
  intro p e s m args below meth c s₁ B hml hv
  obtain ⟨rfl, -⟩ := hv
  have hx := B.exec
  have hb := B.bytes
  have hr := B.returns
  have hlocks := B.notSynchronized
  have hS : va_S (fun _ => False) s.heap s.heap [] := va_S.rf
  have key : ∀ ls : Array Slot, lv_has ls 3 [(0, .int i), (1, .int n), (2, f)] → W p l e (headSpec [Cond.code yJ3_checkIndex_8e157 cJ3_checkIndex_8e157 3 (some .int)] ({ frames := 0, cells := 0, slots := 0, locals := 0 })).room s m [.int i, .int n, f].toArray below meth c s.heap [] 0 0 (MQ below (va_Qi (fun (r : Int32) (_ : Unit) => r = i) (fun _ _ => True) (fun _ => False)) [.int i, .int n, f].toArray s 0 0 (fun _ => False)) (F0 m 0 ls []) := by
    intro ls hl
    refine lv_iload_n hx hb (by decide +kernel : decode cJ3_checkIndex_8e157 0 = .ok (.iload_n 0, 1)) rfl (lv_at hl 0 rfl) ?_
    refine lv_if_lt (tgt := 9) hx hb (by decide +kernel : decode cJ3_checkIndex_8e157 1 = .ok (.ifCond .lt 8, 3)) (by decide) (fun q => absurd q h0) (fun q => ?_)
    refine lv_iload_n hx hb (by decide +kernel : decode cJ3_checkIndex_8e157 4 = .ok (.iload_n 0, 1)) rfl (lv_at hl 0 rfl) ?_
    refine lv_iload_n hx hb (by decide +kernel : decode cJ3_checkIndex_8e157 5 = .ok (.iload_n 1, 1)) rfl (lv_at hl 1 rfl) ?_
    refine lv_icmp_lt (tgt := 16) hx hb (by decide +kernel : decode cJ3_checkIndex_8e157 6 = .ok (.if_icmp .lt 10, 3)) (by decide) (fun q => ?_) (fun q => absurd h1 q)
    refine lv_iload_n hx hb (by decide +kernel : decode cJ3_checkIndex_8e157 16 = .ok (.iload_n 0, 1)) rfl (lv_at hl 0 rfl) ?_
    exact W.iret (v := i) hx hb hr (fun t ht hW => ⟨⟨i, (), rfl, rfl, trivial⟩, hS.F ht⟩) (fun q h => nomatch h) (by decide +kernel : decode cJ3_checkIndex_8e157 17 = .ok (.ireturn, 1))
  rcases hf with rfl | ⟨t, rfl⟩
  · have hl := lv_entry ([.int i, .int n, .null]) (n := 3) (Nat.le_of_ble_eq_true rfl)
    rw [lg_entry_eq]
    exact key _ hl
  · have hl := lv_entry ([.int i, .int n, .ref t]) (n := 3) (Nat.le_of_ble_eq_true rfl)
    rw [lg_entry_eq]
    exact key _ hl
variable {p : Program} {l : Launch} {e : Env} {R : Room} {s : State} {m : MethodId} {args : Array Value} {below : List Frame} {meth : Method} {c : Code} {H : Heap} {locs : List Loc} {cells slots : Nat} {Q : State → Prop}
variable {A : Nat → Prop} {D : va_G} {cA : Nat → ClassId} {sA ρ : Nat → Nat} {ls : Array Slot} {L : List Value} {σ : xS}
theorem x_chk {i n : Int32} (F : x_F A D cA sA xCI p s m args meth c) (hat : x_at A D cA sA ρ xCI s H locs ls L σ) (h0 : ¬ i < 0) (h1 : i < n) (hRf : 13 ≤ R.frames) (hRl : 260 ≤ R.locals) (hRc : cells ≤ R.cells ∧ slots ≤ R.slots) (hk : x_K A D cA sA ρ xCI p l e R s m args below meth c cells slots Q σ (8, L, [.int i], σ)) : W p l e R s m args below meth c H locs cells slots Q (F0 m 2 ls [.int n, .int i]) := by
  have hq := F.2.2.2.2.2.2.2.2.2.1.2.2.2.2.2.2.2.2.2.2.2.2.2.2.2.2
  have hWA := F.2.2.2.2.2.2.2.1
  have hb : c.code = cJ0_checkIndex_df160 := F.2.1
  have hown : s.vm.findClass "java/lang/String" = some m.cls := F.2.2.2.1
  have hsz : (F0 m 5 ls ([] : List Value)).locals.size = (xm xCI).2.2.1 := hat.2.2.2.1.2.1
  have hG : GoodIn xWA (va_wsS "java/lang/String" 1059 yJ3_checkIndex_8e157 [.code yJ3_checkIndex_8e157 cJ3_checkIndex_8e157 3 (some .int)]) := xWA_good (List.forall_mem_cons.mpr ⟨xw 746 (by decide +kernel) rfl, List.forall_mem_cons.mpr ⟨xw 747 (by decide +kernel) rfl, List.forall_mem_cons.mpr ⟨xw 55 (by decide +kernel) rfl, List.forall_mem_cons.mpr ⟨xw 748 (by decide +kernel) rfl, fun _ h => absurd h List.not_mem_nil⟩⟩⟩⟩)
  have key : ∀ f : Value, (f = .null ∨ ∃ t, f = .ref t) → va_Z "jdk/internal/util/Preconditions" "SIOOBE_FORMATTER" "Ljava/util/function/BiFunction;" f A s s.heap → W p l e R s m args below meth c H locs cells slots Q (F0 m 2 ls [.int n, .int i]) := by
    intro f hf hZ
    refine va_gets F.1 hb hZ hat.2.2.1 hown (hWA _ (xw 744 (by decide +kernel) rfl : Cond.fieldLink "java/lang/String" 1053 "jdk/internal/util/Preconditions" "SIOOBE_FORMATTER" "Ljava/util/function/BiFunction;" ∈ xWA)) (fun _ h9 => h9) (by decide +kernel : decode cJ0_checkIndex_df160 2 = .ok (.getstatic 1053, 3)) ?_
    refine va_calli (pc := 5) (va_runS (rest := []) (As := [.int i, .int n, f]) ⟨F.1, hb, F.2.2.1, hown, hWA⟩ (x_pci l i n f hf h0 h1) (va_cwS 3 hWA hG rfl rfl rfl (by decide +kernel) ⟨?_, ?_⟩) ⟨fun _ _ _ _ h => h, fun U _ _ => ⟨rfl, trivial⟩⟩ rfl rfl hsz rfl (lv_room (Nat.le_of_ble_eq_true rfl)) (by decide +kernel : decode cJ0_checkIndex_df160 5 = .ok (.invokestatic 1059, 3)) hRc) hat.2.2.1 (fun _ _ h => h.elim) (fun _ h => h.elim) (fun r u t H1 locs1 ht hal hp hB hz hkeep hS1 => ?_)
    · show 0 + 1 ≤ R.frames
      omega
    · show 8 + (3 + 11) + 0 ≤ R.locals
      omega
    · subst hp
      exact hk ρ ls H1 locs1 cells slots x_ag.rf rfl rfl ⟨hat.1.kept (fun k q hq => hkeep q.1 (vx_lt hat.1 hq) (fun h => h)), hat.2.1, hS1, hat.2.2.2.1, hat.2.2.2.2⟩
  rcases hq with hZ | ⟨t, hZ⟩
  · exact key _ (Or.inl rfl) hZ
  · exact key _ (Or.inr ⟨t, rfl⟩) hZ
end CHECK
