/-! CONSTRUCTORS: cells at the heap's end. -/
theorem app_at {h cs : xH} {n i : Nat} {c : xC} (hn : h.length = n) (hi : cs[i]? = some c) : (h ++ cs)[n + i]? = some c := by
  subst hn
  rw [List.getElem?_append_right (Nat.le_add_right _ _), Nat.add_sub_cancel_left]
  exact hi
theorem app_set {h cs : xH} {n i : Nat} {c : xC} (hn : h.length = n) : (h ++ cs).set (n + i) c = h ++ cs.set i c := by
  subst hn
  rw [List.set_append_right _ _ (Nat.le_add_right _ _), Nat.add_sub_cancel_left]
section YT
variable {S : List Int32} {d m pc nx a b c i j k n q t : Nat} {ins : Instr} {v w : Value} {L st : List Value} {h cs cs' : xH} {k0 : Nat × Nat} {Q : xR → Prop}
theorem y_putT {i9 : Nat} {fs : List Value} (hc : xc m pc = some (.putfield i9, nx, c, b, v)) (hn : h.length = n) (hq : n + i = q) (hp : cs[i]? = some (.inl (c, fs))) (hb : b < fs.length) (hf : xfits c b w = true) (he : cs.set i (.inl (c, fs.set b w)) = cs') (kk : yW S d m (nx, L, st, (h ++ cs', k0)) Q) : yW S d m (pc, L, w :: .ref q :: st, (h ++ cs, k0)) Q := by
  subst hq; subst he
  refine y_putf hc (app_at hn hp) hb hf ?_
  show yW S d m (nx, L, st, ((h ++ cs).set (n + i) _, k0)) Q
  rw [app_set hn]
  exact kk
theorem y_newaT {x : Int32} (hc : xc m pc = some (ins, nx, a, b, v)) (hi : (∃ t, ins = .newarray t) ∨ ∃ t, ins = .anewarray t) (hk : xidx x j) (h5 : j ≤ 100000) (hB : n ≤ 1000) (hn : h.length = n) (hk2 : cs.length = k) (h9 : decide (k ≤ 1000) = true) (he : cs ++ [xzero a j] = cs') (kk : yW S d m (nx, L, .ref (n + k) :: st, (h ++ cs', k0.1 + 1, k0.2 + j)) Q) : yW S d m (pc, L, .int x :: st, (h ++ cs, k0)) Q := by
  have h9 := of_decide_eq_true h9
  refine y_newa (j := j) hc hi hk h5 (by show (h ++ cs).length < 1000000; rw [List.length_append]; omega) (q := n + k) (by show (h ++ cs).length = n + k; rw [List.length_append, hn, hk2]) ?_
  show yW S d m (nx, L, .ref (n + k) :: st, ((h ++ cs) ++ [xzero a j], k0.1 + 1, k0.2 + j)) Q
  rw [List.append_assoc, he]
  exact kk
theorem y_astT {l : List Int32} {x y z : Int32} (hc : xc m pc = some (ins, nx, a, b, v)) (hi : (ins = .iastore ∧ t = 0) ∨ (ins = .castore ∧ t = 1) ∨ (ins = .bastore ∧ t = 2)) (hn : h.length = n) (hq : n + i = q) (hp : cs[i]? = some (.inr (.inl (t, l)))) (hk : xidx z j) (hj : j < l.length) (hy : xnar t x = y) (he : cs.set i (.inr (.inl (t, l.set j y))) = cs') (kk : yW S d m (nx, L, st, (h ++ cs', k0)) Q) : yW S d m (pc, L, .int x :: .int z :: .ref q :: st, (h ++ cs, k0)) Q := by
  subst hq; subst he
  refine y_ast hc hi (app_at hn hp) hk hj hy ?_
  show yW S d m (nx, L, st, ((h ++ cs).set (n + i) _, k0)) Q
  rw [app_set hn]
  exact kk
end YT
/-- the kiln at first -/
def f0 (i : Nat) : Int32 := if i = 1 then -1 else if i = 3 then 1 else 0
def K0 : kK := (f0, [101, 101, 101, 101, 101, 101, 101, 101], [0, 0, 0, 0, 0, 0, 0, 0], [20, 20, 20, 20, 20, 20, 20, 20], [0, 0, 0], [1, 3, 5])
theorem s_initK {S : List Int32} {d : Nat} (hd : 2 ≤ d) {h : xH} {p : Nat} (hn : h.length = p) (hB : p ≤ 1000) (k0 : Nat × Nat) : yT S d 14 [.ref p] (h ++ [.inl (6, xdef 6)], k0) (· = (.inl none, (h ++ kC p K0, k0.1 + 5, k0.2 + 30))) := by
  obtain ⟨d, rfl⟩ : ∃ e, d = e + 1 := ⟨d - 1, by omega⟩
  refine yT_eq (Nat.le_of_ble_eq_true rfl) ?_
  show yW S d 14 (0, [.ref p, xno], [], (h ++ [.inl (6, [.int 0, .int 0, .int 0, .int 0, .null, .null, .null, .null, .null, .int 0, .int 0, .int 0, .int 0, .int 0, .int 0, .int 0, .int 0])], k0.1 + 0, k0.2 + 0)) _
  refine y_go rfl rfl ?_
  refine y_objinit rfl (Nat.le_of_ble_eq_true rfl) ?_
  refine y_go rfl rfl ?_
  refine y_go rfl rfl ?_
  refine y_putT (i := 0) (cs' := [.inl (6, [.int 0, .int 0, .int 0, .int 0, .null, .null, .null, .null, .null, .int 0, .int 0, .int 0, .int 0, .int 0, .int 0, .int 0, .int 0])]) rfl hn rfl rfl (Nat.le_of_ble_eq_true rfl) (xf_int rfl) rfl ?_
  refine y_go rfl rfl ?_
  refine y_go rfl rfl ?_
  refine y_putT (i := 0) (cs' := [.inl (6, [.int 0, .int (-1), .int 0, .int 0, .null, .null, .null, .null, .null, .int 0, .int 0, .int 0, .int 0, .int 0, .int 0, .int 0, .int 0])]) rfl hn rfl rfl (Nat.le_of_ble_eq_true rfl) (xf_int rfl) rfl ?_
  refine y_go rfl rfl ?_
  refine y_go rfl rfl ?_
  refine y_putT (i := 0) (cs' := [.inl (6, [.int 0, .int (-1), .int 0, .int 0, .null, .null, .null, .null, .null, .int 0, .int 0, .int 0, .int 0, .int 0, .int 0, .int 0, .int 0])]) rfl hn rfl rfl (Nat.le_of_ble_eq_true rfl) (xf_int rfl) rfl ?_
  refine y_go rfl rfl ?_
  refine y_go rfl rfl ?_
  refine y_putT (i := 0) (cs' := [.inl (6, [.int 0, .int (-1), .int 0, .int 1, .null, .null, .null, .null, .null, .int 0, .int 0, .int 0, .int 0, .int 0, .int 0, .int 0, .int 0])]) rfl hn rfl rfl (Nat.le_of_ble_eq_true rfl) (xf_int rfl) rfl ?_
  refine y_go rfl rfl ?_
  refine y_go rfl rfl ?_
  refine y_newaT (j := 8) (cs' := [.inl (6, [.int 0, .int (-1), .int 0, .int 1, .null, .null, .null, .null, .null, .int 0, .int 0, .int 0, .int 0, .int 0, .int 0, .int 0, .int 0]), .inr (.inl (1, [0, 0, 0, 0, 0, 0, 0, 0]))]) (k := 1) rfl (Or.inl ⟨_, rfl⟩) (by decide) (by decide) hB hn rfl rfl rfl ?_
  show yW S d 14 (29, [.ref p, xno], [.ref (p + 1), .ref p], ((h ++ [.inl (6, [.int 0, .int (-1), .int 0, .int 1, .null, .null, .null, .null, .null, .int 0, .int 0, .int 0, .int 0, .int 0, .int 0, .int 0, .int 0]), .inr (.inl (1, [0, 0, 0, 0, 0, 0, 0, 0]))]), k0.1 + 1, k0.2 + 8)) _
  refine y_putT (i := 0) (cs' := [.inl (6, [.int 0, .int (-1), .int 0, .int 1, .ref (p + 1), .null, .null, .null, .null, .int 0, .int 0, .int 0, .int 0, .int 0, .int 0, .int 0, .int 0]), .inr (.inl (1, [0, 0, 0, 0, 0, 0, 0, 0]))]) rfl hn rfl rfl (Nat.le_of_ble_eq_true rfl) (by first | exact xf_ref rfl | exact xf_obj rfl) rfl ?_
  refine y_go rfl rfl ?_
  refine y_go rfl rfl ?_
  refine y_newaT (j := 8) (cs' := [.inl (6, [.int 0, .int (-1), .int 0, .int 1, .ref (p + 1), .null, .null, .null, .null, .int 0, .int 0, .int 0, .int 0, .int 0, .int 0, .int 0, .int 0]), .inr (.inl (1, [0, 0, 0, 0, 0, 0, 0, 0])), .inr (.inl (0, [0, 0, 0, 0, 0, 0, 0, 0]))]) (k := 2) rfl (Or.inl ⟨_, rfl⟩) (by decide) (by decide) hB hn rfl rfl rfl ?_
  show yW S d 14 (37, [.ref p, xno], [.ref (p + 2), .ref p], ((h ++ [.inl (6, [.int 0, .int (-1), .int 0, .int 1, .ref (p + 1), .null, .null, .null, .null, .int 0, .int 0, .int 0, .int 0, .int 0, .int 0, .int 0, .int 0]), .inr (.inl (1, [0, 0, 0, 0, 0, 0, 0, 0])), .inr (.inl (0, [0, 0, 0, 0, 0, 0, 0, 0]))]), k0.1 + 2, k0.2 + 16)) _
  refine y_putT (i := 0) (cs' := [.inl (6, [.int 0, .int (-1), .int 0, .int 1, .ref (p + 1), .ref (p + 2), .null, .null, .null, .int 0, .int 0, .int 0, .int 0, .int 0, .int 0, .int 0, .int 0]), .inr (.inl (1, [0, 0, 0, 0, 0, 0, 0, 0])), .inr (.inl (0, [0, 0, 0, 0, 0, 0, 0, 0]))]) rfl hn rfl rfl (Nat.le_of_ble_eq_true rfl) (by first | exact xf_ref rfl | exact xf_obj rfl) rfl ?_
  refine y_go rfl rfl ?_
  refine y_go rfl rfl ?_
  refine y_newaT (j := 8) (cs' := [.inl (6, [.int 0, .int (-1), .int 0, .int 1, .ref (p + 1), .ref (p + 2), .null, .null, .null, .int 0, .int 0, .int 0, .int 0, .int 0, .int 0, .int 0, .int 0]), .inr (.inl (1, [0, 0, 0, 0, 0, 0, 0, 0])), .inr (.inl (0, [0, 0, 0, 0, 0, 0, 0, 0])), .inr (.inl (0, [0, 0, 0, 0, 0, 0, 0, 0]))]) (k := 3) rfl (Or.inl ⟨_, rfl⟩) (by decide) (by decide) hB hn rfl rfl rfl ?_
  show yW S d 14 (45, [.ref p, xno], [.ref (p + 3), .ref p], ((h ++ [.inl (6, [.int 0, .int (-1), .int 0, .int 1, .ref (p + 1), .ref (p + 2), .null, .null, .null, .int 0, .int 0, .int 0, .int 0, .int 0, .int 0, .int 0, .int 0]), .inr (.inl (1, [0, 0, 0, 0, 0, 0, 0, 0])), .inr (.inl (0, [0, 0, 0, 0, 0, 0, 0, 0])), .inr (.inl (0, [0, 0, 0, 0, 0, 0, 0, 0]))]), k0.1 + 3, k0.2 + 24)) _
  refine y_putT (i := 0) (cs' := [.inl (6, [.int 0, .int (-1), .int 0, .int 1, .ref (p + 1), .ref (p + 2), .ref (p + 3), .null, .null, .int 0, .int 0, .int 0, .int 0, .int 0, .int 0, .int 0, .int 0]), .inr (.inl (1, [0, 0, 0, 0, 0, 0, 0, 0])), .inr (.inl (0, [0, 0, 0, 0, 0, 0, 0, 0])), .inr (.inl (0, [0, 0, 0, 0, 0, 0, 0, 0]))]) rfl hn rfl rfl (Nat.le_of_ble_eq_true rfl) (by first | exact xf_ref rfl | exact xf_obj rfl) rfl ?_
  refine y_go rfl rfl ?_
  refine y_go rfl rfl ?_
  refine y_newaT (j := 3) (cs' := [.inl (6, [.int 0, .int (-1), .int 0, .int 1, .ref (p + 1), .ref (p + 2), .ref (p + 3), .null, .null, .int 0, .int 0, .int 0, .int 0, .int 0, .int 0, .int 0, .int 0]), .inr (.inl (1, [0, 0, 0, 0, 0, 0, 0, 0])), .inr (.inl (0, [0, 0, 0, 0, 0, 0, 0, 0])), .inr (.inl (0, [0, 0, 0, 0, 0, 0, 0, 0])), .inr (.inl (0, [0, 0, 0]))]) (k := 4) rfl (Or.inl ⟨_, rfl⟩) (by decide) (by decide) hB hn rfl rfl rfl ?_
  show yW S d 14 (52, [.ref p, xno], [.ref (p + 4), .ref p], ((h ++ [.inl (6, [.int 0, .int (-1), .int 0, .int 1, .ref (p + 1), .ref (p + 2), .ref (p + 3), .null, .null, .int 0, .int 0, .int 0, .int 0, .int 0, .int 0, .int 0, .int 0]), .inr (.inl (1, [0, 0, 0, 0, 0, 0, 0, 0])), .inr (.inl (0, [0, 0, 0, 0, 0, 0, 0, 0])), .inr (.inl (0, [0, 0, 0, 0, 0, 0, 0, 0])), .inr (.inl (0, [0, 0, 0]))]), k0.1 + 4, k0.2 + 27)) _
  refine y_putT (i := 0) (cs' := [.inl (6, [.int 0, .int (-1), .int 0, .int 1, .ref (p + 1), .ref (p + 2), .ref (p + 3), .ref (p + 4), .null, .int 0, .int 0, .int 0, .int 0, .int 0, .int 0, .int 0, .int 0]), .inr (.inl (1, [0, 0, 0, 0, 0, 0, 0, 0])), .inr (.inl (0, [0, 0, 0, 0, 0, 0, 0, 0])), .inr (.inl (0, [0, 0, 0, 0, 0, 0, 0, 0])), .inr (.inl (0, [0, 0, 0]))]) rfl hn rfl rfl (Nat.le_of_ble_eq_true rfl) (by first | exact xf_ref rfl | exact xf_obj rfl) rfl ?_
  refine y_go rfl rfl ?_
  refine y_go rfl rfl ?_
  refine y_newaT (j := 3) (cs' := [.inl (6, [.int 0, .int (-1), .int 0, .int 1, .ref (p + 1), .ref (p + 2), .ref (p + 3), .ref (p + 4), .null, .int 0, .int 0, .int 0, .int 0, .int 0, .int 0, .int 0, .int 0]), .inr (.inl (1, [0, 0, 0, 0, 0, 0, 0, 0])), .inr (.inl (0, [0, 0, 0, 0, 0, 0, 0, 0])), .inr (.inl (0, [0, 0, 0, 0, 0, 0, 0, 0])), .inr (.inl (0, [0, 0, 0])), .inr (.inl (0, [0, 0, 0]))]) (k := 5) rfl (Or.inl ⟨_, rfl⟩) (by decide) (by decide) hB hn rfl rfl rfl ?_
  show yW S d 14 (59, [.ref p, xno], [.ref (p + 5), .ref p], ((h ++ [.inl (6, [.int 0, .int (-1), .int 0, .int 1, .ref (p + 1), .ref (p + 2), .ref (p + 3), .ref (p + 4), .null, .int 0, .int 0, .int 0, .int 0, .int 0, .int 0, .int 0, .int 0]), .inr (.inl (1, [0, 0, 0, 0, 0, 0, 0, 0])), .inr (.inl (0, [0, 0, 0, 0, 0, 0, 0, 0])), .inr (.inl (0, [0, 0, 0, 0, 0, 0, 0, 0])), .inr (.inl (0, [0, 0, 0])), .inr (.inl (0, [0, 0, 0]))]), k0.1 + 5, k0.2 + 30)) _
  refine y_go rfl rfl ?_
  refine y_go rfl rfl ?_
  refine y_go rfl rfl ?_
  refine y_astT (t := 0) (i := 5) (j := 0) (cs' := [.inl (6, [.int 0, .int (-1), .int 0, .int 1, .ref (p + 1), .ref (p + 2), .ref (p + 3), .ref (p + 4), .null, .int 0, .int 0, .int 0, .int 0, .int 0, .int 0, .int 0, .int 0]), .inr (.inl (1, [0, 0, 0, 0, 0, 0, 0, 0])), .inr (.inl (0, [0, 0, 0, 0, 0, 0, 0, 0])), .inr (.inl (0, [0, 0, 0, 0, 0, 0, 0, 0])), .inr (.inl (0, [0, 0, 0])), .inr (.inl (0, [1, 0, 0]))]) rfl (Or.inl ⟨rfl, rfl⟩) hn rfl rfl (by decide) (Nat.le_of_ble_eq_true rfl) rfl rfl ?_
  refine y_go rfl rfl ?_
  refine y_go rfl rfl ?_
  refine y_go rfl rfl ?_
  refine y_astT (t := 0) (i := 5) (j := 1) (cs' := [.inl (6, [.int 0, .int (-1), .int 0, .int 1, .ref (p + 1), .ref (p + 2), .ref (p + 3), .ref (p + 4), .null, .int 0, .int 0, .int 0, .int 0, .int 0, .int 0, .int 0, .int 0]), .inr (.inl (1, [0, 0, 0, 0, 0, 0, 0, 0])), .inr (.inl (0, [0, 0, 0, 0, 0, 0, 0, 0])), .inr (.inl (0, [0, 0, 0, 0, 0, 0, 0, 0])), .inr (.inl (0, [0, 0, 0])), .inr (.inl (0, [1, 3, 0]))]) rfl (Or.inl ⟨rfl, rfl⟩) hn rfl rfl (by decide) (Nat.le_of_ble_eq_true rfl) rfl rfl ?_
  refine y_go rfl rfl ?_
  refine y_go rfl rfl ?_
  refine y_go rfl rfl ?_
  refine y_astT (t := 0) (i := 5) (j := 2) (cs' := [.inl (6, [.int 0, .int (-1), .int 0, .int 1, .ref (p + 1), .ref (p + 2), .ref (p + 3), .ref (p + 4), .null, .int 0, .int 0, .int 0, .int 0, .int 0, .int 0, .int 0, .int 0]), .inr (.inl (1, [0, 0, 0, 0, 0, 0, 0, 0])), .inr (.inl (0, [0, 0, 0, 0, 0, 0, 0, 0])), .inr (.inl (0, [0, 0, 0, 0, 0, 0, 0, 0])), .inr (.inl (0, [0, 0, 0])), .inr (.inl (0, [1, 3, 5]))]) rfl (Or.inl ⟨rfl, rfl⟩) hn rfl rfl (by decide) (Nat.le_of_ble_eq_true rfl) rfl rfl ?_
  refine y_putT (i := 0) (cs' := [.inl (6, [.int 0, .int (-1), .int 0, .int 1, .ref (p + 1), .ref (p + 2), .ref (p + 3), .ref (p + 4), .ref (p + 5), .int 0, .int 0, .int 0, .int 0, .int 0, .int 0, .int 0, .int 0]), .inr (.inl (1, [0, 0, 0, 0, 0, 0, 0, 0])), .inr (.inl (0, [0, 0, 0, 0, 0, 0, 0, 0])), .inr (.inl (0, [0, 0, 0, 0, 0, 0, 0, 0])), .inr (.inl (0, [0, 0, 0])), .inr (.inl (0, [1, 3, 5]))]) rfl hn rfl rfl (Nat.le_of_ble_eq_true rfl) (by first | exact xf_ref rfl | exact xf_obj rfl) rfl ?_
  refine y_go rfl rfl ?_
  refine y_go rfl rfl ?_
  refine y_putT (i := 0) (cs' := [.inl (6, [.int 0, .int (-1), .int 0, .int 1, .ref (p + 1), .ref (p + 2), .ref (p + 3), .ref (p + 4), .ref (p + 5), .int 0, .int 0, .int 0, .int 0, .int 0, .int 0, .int 0, .int 0]), .inr (.inl (1, [0, 0, 0, 0, 0, 0, 0, 0])), .inr (.inl (0, [0, 0, 0, 0, 0, 0, 0, 0])), .inr (.inl (0, [0, 0, 0, 0, 0, 0, 0, 0])), .inr (.inl (0, [0, 0, 0])), .inr (.inl (0, [1, 3, 5]))]) rfl hn rfl rfl (Nat.le_of_ble_eq_true rfl) (xf_int rfl) rfl ?_
  refine y_go rfl rfl ?_
  refine y_go rfl rfl ?_
  refine y_putT (i := 0) (cs' := [.inl (6, [.int 0, .int (-1), .int 0, .int 1, .ref (p + 1), .ref (p + 2), .ref (p + 3), .ref (p + 4), .ref (p + 5), .int 0, .int 0, .int 0, .int 0, .int 0, .int 0, .int 0, .int 0]), .inr (.inl (1, [0, 0, 0, 0, 0, 0, 0, 0])), .inr (.inl (0, [0, 0, 0, 0, 0, 0, 0, 0])), .inr (.inl (0, [0, 0, 0, 0, 0, 0, 0, 0])), .inr (.inl (0, [0, 0, 0])), .inr (.inl (0, [1, 3, 5]))]) rfl hn rfl rfl (Nat.le_of_ble_eq_true rfl) (xf_int rfl) rfl ?_
  refine y_go rfl rfl ?_
  refine y_go rfl rfl ?_
  refine y_putT (i := 0) (cs' := [.inl (6, [.int 0, .int (-1), .int 0, .int 1, .ref (p + 1), .ref (p + 2), .ref (p + 3), .ref (p + 4), .ref (p + 5), .int 0, .int 0, .int 0, .int 0, .int 0, .int 0, .int 0, .int 0]), .inr (.inl (1, [0, 0, 0, 0, 0, 0, 0, 0])), .inr (.inl (0, [0, 0, 0, 0, 0, 0, 0, 0])), .inr (.inl (0, [0, 0, 0, 0, 0, 0, 0, 0])), .inr (.inl (0, [0, 0, 0])), .inr (.inl (0, [1, 3, 5]))]) rfl hn rfl rfl (Nat.le_of_ble_eq_true rfl) (xf_int rfl) rfl ?_
  refine y_go rfl rfl ?_
  refine y_go rfl rfl ?_
  refine y_putT (i := 0) (cs' := [.inl (6, [.int 0, .int (-1), .int 0, .int 1, .ref (p + 1), .ref (p + 2), .ref (p + 3), .ref (p + 4), .ref (p + 5), .int 0, .int 0, .int 0, .int 0, .int 0, .int 0, .int 0, .int 0]), .inr (.inl (1, [0, 0, 0, 0, 0, 0, 0, 0])), .inr (.inl (0, [0, 0, 0, 0, 0, 0, 0, 0])), .inr (.inl (0, [0, 0, 0, 0, 0, 0, 0, 0])), .inr (.inl (0, [0, 0, 0])), .inr (.inl (0, [1, 3, 5]))]) rfl hn rfl rfl (Nat.le_of_ble_eq_true rfl) (xf_int rfl) rfl ?_
  refine y_go rfl rfl ?_
  refine y_go rfl rfl ?_
  refine y_putT (i := 0) (cs' := [.inl (6, [.int 0, .int (-1), .int 0, .int 1, .ref (p + 1), .ref (p + 2), .ref (p + 3), .ref (p + 4), .ref (p + 5), .int 0, .int 0, .int 0, .int 0, .int 0, .int 0, .int 0, .int 0]), .inr (.inl (1, [0, 0, 0, 0, 0, 0, 0, 0])), .inr (.inl (0, [0, 0, 0, 0, 0, 0, 0, 0])), .inr (.inl (0, [0, 0, 0, 0, 0, 0, 0, 0])), .inr (.inl (0, [0, 0, 0])), .inr (.inl (0, [1, 3, 5]))]) rfl hn rfl rfl (Nat.le_of_ble_eq_true rfl) (xf_int rfl) rfl ?_
  refine y_go rfl rfl ?_
  refine y_go rfl rfl ?_
  refine y_putT (i := 0) (cs' := [.inl (6, [.int 0, .int (-1), .int 0, .int 1, .ref (p + 1), .ref (p + 2), .ref (p + 3), .ref (p + 4), .ref (p + 5), .int 0, .int 0, .int 0, .int 0, .int 0, .int 0, .int 0, .int 0]), .inr (.inl (1, [0, 0, 0, 0, 0, 0, 0, 0])), .inr (.inl (0, [0, 0, 0, 0, 0, 0, 0, 0])), .inr (.inl (0, [0, 0, 0, 0, 0, 0, 0, 0])), .inr (.inl (0, [0, 0, 0])), .inr (.inl (0, [1, 3, 5]))]) rfl hn rfl rfl (Nat.le_of_ble_eq_true rfl) (xf_int rfl) rfl ?_
  refine y_go rfl rfl ?_
  refine y_go rfl rfl ?_
  refine y_putT (i := 0) (cs' := [.inl (6, [.int 0, .int (-1), .int 0, .int 1, .ref (p + 1), .ref (p + 2), .ref (p + 3), .ref (p + 4), .ref (p + 5), .int 0, .int 0, .int 0, .int 0, .int 0, .int 0, .int 0, .int 0]), .inr (.inl (1, [0, 0, 0, 0, 0, 0, 0, 0])), .inr (.inl (0, [0, 0, 0, 0, 0, 0, 0, 0])), .inr (.inl (0, [0, 0, 0, 0, 0, 0, 0, 0])), .inr (.inl (0, [0, 0, 0])), .inr (.inl (0, [1, 3, 5]))]) rfl hn rfl rfl (Nat.le_of_ble_eq_true rfl) (xf_int rfl) rfl ?_
  refine y_go rfl rfl ?_
  refine y_go rfl rfl ?_
  refine y_putT (i := 0) (cs' := [.inl (6, [.int 0, .int (-1), .int 0, .int 1, .ref (p + 1), .ref (p + 2), .ref (p + 3), .ref (p + 4), .ref (p + 5), .int 0, .int 0, .int 0, .int 0, .int 0, .int 0, .int 0, .int 0]), .inr (.inl (1, [0, 0, 0, 0, 0, 0, 0, 0])), .inr (.inl (0, [0, 0, 0, 0, 0, 0, 0, 0])), .inr (.inl (0, [0, 0, 0, 0, 0, 0, 0, 0])), .inr (.inl (0, [0, 0, 0])), .inr (.inl (0, [1, 3, 5]))]) rfl hn rfl rfl (Nat.le_of_ble_eq_true rfl) (xf_int rfl) rfl ?_
  refine y_go rfl rfl ?_
  refine y_go (g' := (116, [.ref p, .int 0], _, _)) rfl rfl ?_
  refine y_go rfl rfl ?_
  refine y_go rfl rfl ?_
  refine y_ic_ge rfl (fun c => absurd (by decide) c) (fun _ => ?_)
  refine y_go rfl rfl ?_
  refine y_getf (w := .ref (p + 1)) rfl rfl (app_at hn (i := 0) rfl) rfl ?_
  refine y_go rfl rfl ?_
  refine y_go rfl rfl ?_
  refine y_astT (t := 1) (i := 1) (j := 0) (cs' := [.inl (6, [.int 0, .int (-1), .int 0, .int 1, .ref (p + 1), .ref (p + 2), .ref (p + 3), .ref (p + 4), .ref (p + 5), .int 0, .int 0, .int 0, .int 0, .int 0, .int 0, .int 0, .int 0]), .inr (.inl (1, [101, 0, 0, 0, 0, 0, 0, 0])), .inr (.inl (0, [0, 0, 0, 0, 0, 0, 0, 0])), .inr (.inl (0, [0, 0, 0, 0, 0, 0, 0, 0])), .inr (.inl (0, [0, 0, 0])), .inr (.inl (0, [1, 3, 5]))]) rfl (Or.inr (Or.inl ⟨rfl, rfl⟩)) hn rfl rfl (by decide) (Nat.le_of_ble_eq_true rfl) rfl rfl ?_
  refine y_go rfl rfl ?_
  refine y_getf (w := .ref (p + 3)) rfl rfl (app_at hn (i := 0) rfl) rfl ?_
  refine y_go rfl rfl ?_
  refine y_go rfl rfl ?_
  refine y_astT (t := 0) (i := 3) (j := 0) (cs' := [.inl (6, [.int 0, .int (-1), .int 0, .int 1, .ref (p + 1), .ref (p + 2), .ref (p + 3), .ref (p + 4), .ref (p + 5), .int 0, .int 0, .int 0, .int 0, .int 0, .int 0, .int 0, .int 0]), .inr (.inl (1, [101, 0, 0, 0, 0, 0, 0, 0])), .inr (.inl (0, [0, 0, 0, 0, 0, 0, 0, 0])), .inr (.inl (0, [20, 0, 0, 0, 0, 0, 0, 0])), .inr (.inl (0, [0, 0, 0])), .inr (.inl (0, [1, 3, 5]))]) rfl (Or.inl ⟨rfl, rfl⟩) hn rfl rfl (by decide) (Nat.le_of_ble_eq_true rfl) rfl rfl ?_
  refine y_go (g' := (141, [.ref p, .int 1], _, _)) rfl rfl ?_
  refine y_go rfl rfl ?_
  refine y_go rfl rfl ?_
  refine y_go rfl rfl ?_
  refine y_ic_ge rfl (fun c => absurd (by decide) c) (fun _ => ?_)
  refine y_go rfl rfl ?_
  refine y_getf (w := .ref (p + 1)) rfl rfl (app_at hn (i := 0) rfl) rfl ?_
  refine y_go rfl rfl ?_
  refine y_go rfl rfl ?_
  refine y_astT (t := 1) (i := 1) (j := 1) (cs' := [.inl (6, [.int 0, .int (-1), .int 0, .int 1, .ref (p + 1), .ref (p + 2), .ref (p + 3), .ref (p + 4), .ref (p + 5), .int 0, .int 0, .int 0, .int 0, .int 0, .int 0, .int 0, .int 0]), .inr (.inl (1, [101, 101, 0, 0, 0, 0, 0, 0])), .inr (.inl (0, [0, 0, 0, 0, 0, 0, 0, 0])), .inr (.inl (0, [20, 0, 0, 0, 0, 0, 0, 0])), .inr (.inl (0, [0, 0, 0])), .inr (.inl (0, [1, 3, 5]))]) rfl (Or.inr (Or.inl ⟨rfl, rfl⟩)) hn rfl rfl (by decide) (Nat.le_of_ble_eq_true rfl) rfl rfl ?_
  refine y_go rfl rfl ?_
  refine y_getf (w := .ref (p + 3)) rfl rfl (app_at hn (i := 0) rfl) rfl ?_
  refine y_go rfl rfl ?_
  refine y_go rfl rfl ?_
  refine y_astT (t := 0) (i := 3) (j := 1) (cs' := [.inl (6, [.int 0, .int (-1), .int 0, .int 1, .ref (p + 1), .ref (p + 2), .ref (p + 3), .ref (p + 4), .ref (p + 5), .int 0, .int 0, .int 0, .int 0, .int 0, .int 0, .int 0, .int 0]), .inr (.inl (1, [101, 101, 0, 0, 0, 0, 0, 0])), .inr (.inl (0, [0, 0, 0, 0, 0, 0, 0, 0])), .inr (.inl (0, [20, 20, 0, 0, 0, 0, 0, 0])), .inr (.inl (0, [0, 0, 0])), .inr (.inl (0, [1, 3, 5]))]) rfl (Or.inl ⟨rfl, rfl⟩) hn rfl rfl (by decide) (Nat.le_of_ble_eq_true rfl) rfl rfl ?_
  refine y_go (g' := (141, [.ref p, .int 2], _, _)) rfl rfl ?_
  refine y_go rfl rfl ?_
  refine y_go rfl rfl ?_
  refine y_go rfl rfl ?_
  refine y_ic_ge rfl (fun c => absurd (by decide) c) (fun _ => ?_)
  refine y_go rfl rfl ?_
  refine y_getf (w := .ref (p + 1)) rfl rfl (app_at hn (i := 0) rfl) rfl ?_
  refine y_go rfl rfl ?_
  refine y_go rfl rfl ?_
  refine y_astT (t := 1) (i := 1) (j := 2) (cs' := [.inl (6, [.int 0, .int (-1), .int 0, .int 1, .ref (p + 1), .ref (p + 2), .ref (p + 3), .ref (p + 4), .ref (p + 5), .int 0, .int 0, .int 0, .int 0, .int 0, .int 0, .int 0, .int 0]), .inr (.inl (1, [101, 101, 101, 0, 0, 0, 0, 0])), .inr (.inl (0, [0, 0, 0, 0, 0, 0, 0, 0])), .inr (.inl (0, [20, 20, 0, 0, 0, 0, 0, 0])), .inr (.inl (0, [0, 0, 0])), .inr (.inl (0, [1, 3, 5]))]) rfl (Or.inr (Or.inl ⟨rfl, rfl⟩)) hn rfl rfl (by decide) (Nat.le_of_ble_eq_true rfl) rfl rfl ?_
  refine y_go rfl rfl ?_
  refine y_getf (w := .ref (p + 3)) rfl rfl (app_at hn (i := 0) rfl) rfl ?_
  refine y_go rfl rfl ?_
  refine y_go rfl rfl ?_
  refine y_astT (t := 0) (i := 3) (j := 2) (cs' := [.inl (6, [.int 0, .int (-1), .int 0, .int 1, .ref (p + 1), .ref (p + 2), .ref (p + 3), .ref (p + 4), .ref (p + 5), .int 0, .int 0, .int 0, .int 0, .int 0, .int 0, .int 0, .int 0]), .inr (.inl (1, [101, 101, 101, 0, 0, 0, 0, 0])), .inr (.inl (0, [0, 0, 0, 0, 0, 0, 0, 0])), .inr (.inl (0, [20, 20, 20, 0, 0, 0, 0, 0])), .inr (.inl (0, [0, 0, 0])), .inr (.inl (0, [1, 3, 5]))]) rfl (Or.inl ⟨rfl, rfl⟩) hn rfl rfl (by decide) (Nat.le_of_ble_eq_true rfl) rfl rfl ?_
  refine y_go (g' := (141, [.ref p, .int 3], _, _)) rfl rfl ?_
  refine y_go rfl rfl ?_
  refine y_go rfl rfl ?_
  refine y_go rfl rfl ?_
  refine y_ic_ge rfl (fun c => absurd (by decide) c) (fun _ => ?_)
  refine y_go rfl rfl ?_
  refine y_getf (w := .ref (p + 1)) rfl rfl (app_at hn (i := 0) rfl) rfl ?_
  refine y_go rfl rfl ?_
  refine y_go rfl rfl ?_
  refine y_astT (t := 1) (i := 1) (j := 3) (cs' := [.inl (6, [.int 0, .int (-1), .int 0, .int 1, .ref (p + 1), .ref (p + 2), .ref (p + 3), .ref (p + 4), .ref (p + 5), .int 0, .int 0, .int 0, .int 0, .int 0, .int 0, .int 0, .int 0]), .inr (.inl (1, [101, 101, 101, 101, 0, 0, 0, 0])), .inr (.inl (0, [0, 0, 0, 0, 0, 0, 0, 0])), .inr (.inl (0, [20, 20, 20, 0, 0, 0, 0, 0])), .inr (.inl (0, [0, 0, 0])), .inr (.inl (0, [1, 3, 5]))]) rfl (Or.inr (Or.inl ⟨rfl, rfl⟩)) hn rfl rfl (by decide) (Nat.le_of_ble_eq_true rfl) rfl rfl ?_
  refine y_go rfl rfl ?_
  refine y_getf (w := .ref (p + 3)) rfl rfl (app_at hn (i := 0) rfl) rfl ?_
  refine y_go rfl rfl ?_
  refine y_go rfl rfl ?_
  refine y_astT (t := 0) (i := 3) (j := 3) (cs' := [.inl (6, [.int 0, .int (-1), .int 0, .int 1, .ref (p + 1), .ref (p + 2), .ref (p + 3), .ref (p + 4), .ref (p + 5), .int 0, .int 0, .int 0, .int 0, .int 0, .int 0, .int 0, .int 0]), .inr (.inl (1, [101, 101, 101, 101, 0, 0, 0, 0])), .inr (.inl (0, [0, 0, 0, 0, 0, 0, 0, 0])), .inr (.inl (0, [20, 20, 20, 20, 0, 0, 0, 0])), .inr (.inl (0, [0, 0, 0])), .inr (.inl (0, [1, 3, 5]))]) rfl (Or.inl ⟨rfl, rfl⟩) hn rfl rfl (by decide) (Nat.le_of_ble_eq_true rfl) rfl rfl ?_
  refine y_go (g' := (141, [.ref p, .int 4], _, _)) rfl rfl ?_
  refine y_go rfl rfl ?_
  refine y_go rfl rfl ?_
  refine y_go rfl rfl ?_
  refine y_ic_ge rfl (fun c => absurd (by decide) c) (fun _ => ?_)
  refine y_go rfl rfl ?_
  refine y_getf (w := .ref (p + 1)) rfl rfl (app_at hn (i := 0) rfl) rfl ?_
  refine y_go rfl rfl ?_
  refine y_go rfl rfl ?_
  refine y_astT (t := 1) (i := 1) (j := 4) (cs' := [.inl (6, [.int 0, .int (-1), .int 0, .int 1, .ref (p + 1), .ref (p + 2), .ref (p + 3), .ref (p + 4), .ref (p + 5), .int 0, .int 0, .int 0, .int 0, .int 0, .int 0, .int 0, .int 0]), .inr (.inl (1, [101, 101, 101, 101, 101, 0, 0, 0])), .inr (.inl (0, [0, 0, 0, 0, 0, 0, 0, 0])), .inr (.inl (0, [20, 20, 20, 20, 0, 0, 0, 0])), .inr (.inl (0, [0, 0, 0])), .inr (.inl (0, [1, 3, 5]))]) rfl (Or.inr (Or.inl ⟨rfl, rfl⟩)) hn rfl rfl (by decide) (Nat.le_of_ble_eq_true rfl) rfl rfl ?_
  refine y_go rfl rfl ?_
  refine y_getf (w := .ref (p + 3)) rfl rfl (app_at hn (i := 0) rfl) rfl ?_
  refine y_go rfl rfl ?_
  refine y_go rfl rfl ?_
  refine y_astT (t := 0) (i := 3) (j := 4) (cs' := [.inl (6, [.int 0, .int (-1), .int 0, .int 1, .ref (p + 1), .ref (p + 2), .ref (p + 3), .ref (p + 4), .ref (p + 5), .int 0, .int 0, .int 0, .int 0, .int 0, .int 0, .int 0, .int 0]), .inr (.inl (1, [101, 101, 101, 101, 101, 0, 0, 0])), .inr (.inl (0, [0, 0, 0, 0, 0, 0, 0, 0])), .inr (.inl (0, [20, 20, 20, 20, 20, 0, 0, 0])), .inr (.inl (0, [0, 0, 0])), .inr (.inl (0, [1, 3, 5]))]) rfl (Or.inl ⟨rfl, rfl⟩) hn rfl rfl (by decide) (Nat.le_of_ble_eq_true rfl) rfl rfl ?_
  refine y_go (g' := (141, [.ref p, .int 5], _, _)) rfl rfl ?_
  refine y_go rfl rfl ?_
  refine y_go rfl rfl ?_
  refine y_go rfl rfl ?_
  refine y_ic_ge rfl (fun c => absurd (by decide) c) (fun _ => ?_)
  refine y_go rfl rfl ?_
  refine y_getf (w := .ref (p + 1)) rfl rfl (app_at hn (i := 0) rfl) rfl ?_
  refine y_go rfl rfl ?_
  refine y_go rfl rfl ?_
  refine y_astT (t := 1) (i := 1) (j := 5) (cs' := [.inl (6, [.int 0, .int (-1), .int 0, .int 1, .ref (p + 1), .ref (p + 2), .ref (p + 3), .ref (p + 4), .ref (p + 5), .int 0, .int 0, .int 0, .int 0, .int 0, .int 0, .int 0, .int 0]), .inr (.inl (1, [101, 101, 101, 101, 101, 101, 0, 0])), .inr (.inl (0, [0, 0, 0, 0, 0, 0, 0, 0])), .inr (.inl (0, [20, 20, 20, 20, 20, 0, 0, 0])), .inr (.inl (0, [0, 0, 0])), .inr (.inl (0, [1, 3, 5]))]) rfl (Or.inr (Or.inl ⟨rfl, rfl⟩)) hn rfl rfl (by decide) (Nat.le_of_ble_eq_true rfl) rfl rfl ?_
  refine y_go rfl rfl ?_
  refine y_getf (w := .ref (p + 3)) rfl rfl (app_at hn (i := 0) rfl) rfl ?_
  refine y_go rfl rfl ?_
  refine y_go rfl rfl ?_
  refine y_astT (t := 0) (i := 3) (j := 5) (cs' := [.inl (6, [.int 0, .int (-1), .int 0, .int 1, .ref (p + 1), .ref (p + 2), .ref (p + 3), .ref (p + 4), .ref (p + 5), .int 0, .int 0, .int 0, .int 0, .int 0, .int 0, .int 0, .int 0]), .inr (.inl (1, [101, 101, 101, 101, 101, 101, 0, 0])), .inr (.inl (0, [0, 0, 0, 0, 0, 0, 0, 0])), .inr (.inl (0, [20, 20, 20, 20, 20, 20, 0, 0])), .inr (.inl (0, [0, 0, 0])), .inr (.inl (0, [1, 3, 5]))]) rfl (Or.inl ⟨rfl, rfl⟩) hn rfl rfl (by decide) (Nat.le_of_ble_eq_true rfl) rfl rfl ?_
  refine y_go (g' := (141, [.ref p, .int 6], _, _)) rfl rfl ?_
  refine y_go rfl rfl ?_
  refine y_go rfl rfl ?_
  refine y_go rfl rfl ?_
  refine y_ic_ge rfl (fun c => absurd (by decide) c) (fun _ => ?_)
  refine y_go rfl rfl ?_
  refine y_getf (w := .ref (p + 1)) rfl rfl (app_at hn (i := 0) rfl) rfl ?_
  refine y_go rfl rfl ?_
  refine y_go rfl rfl ?_
  refine y_astT (t := 1) (i := 1) (j := 6) (cs' := [.inl (6, [.int 0, .int (-1), .int 0, .int 1, .ref (p + 1), .ref (p + 2), .ref (p + 3), .ref (p + 4), .ref (p + 5), .int 0, .int 0, .int 0, .int 0, .int 0, .int 0, .int 0, .int 0]), .inr (.inl (1, [101, 101, 101, 101, 101, 101, 101, 0])), .inr (.inl (0, [0, 0, 0, 0, 0, 0, 0, 0])), .inr (.inl (0, [20, 20, 20, 20, 20, 20, 0, 0])), .inr (.inl (0, [0, 0, 0])), .inr (.inl (0, [1, 3, 5]))]) rfl (Or.inr (Or.inl ⟨rfl, rfl⟩)) hn rfl rfl (by decide) (Nat.le_of_ble_eq_true rfl) rfl rfl ?_
  refine y_go rfl rfl ?_
  refine y_getf (w := .ref (p + 3)) rfl rfl (app_at hn (i := 0) rfl) rfl ?_
  refine y_go rfl rfl ?_
  refine y_go rfl rfl ?_
  refine y_astT (t := 0) (i := 3) (j := 6) (cs' := [.inl (6, [.int 0, .int (-1), .int 0, .int 1, .ref (p + 1), .ref (p + 2), .ref (p + 3), .ref (p + 4), .ref (p + 5), .int 0, .int 0, .int 0, .int 0, .int 0, .int 0, .int 0, .int 0]), .inr (.inl (1, [101, 101, 101, 101, 101, 101, 101, 0])), .inr (.inl (0, [0, 0, 0, 0, 0, 0, 0, 0])), .inr (.inl (0, [20, 20, 20, 20, 20, 20, 20, 0])), .inr (.inl (0, [0, 0, 0])), .inr (.inl (0, [1, 3, 5]))]) rfl (Or.inl ⟨rfl, rfl⟩) hn rfl rfl (by decide) (Nat.le_of_ble_eq_true rfl) rfl rfl ?_
  refine y_go (g' := (141, [.ref p, .int 7], _, _)) rfl rfl ?_
  refine y_go rfl rfl ?_
  refine y_go rfl rfl ?_
  refine y_go rfl rfl ?_
  refine y_ic_ge rfl (fun c => absurd (by decide) c) (fun _ => ?_)
  refine y_go rfl rfl ?_
  refine y_getf (w := .ref (p + 1)) rfl rfl (app_at hn (i := 0) rfl) rfl ?_
  refine y_go rfl rfl ?_
  refine y_go rfl rfl ?_
  refine y_astT (t := 1) (i := 1) (j := 7) (cs' := [.inl (6, [.int 0, .int (-1), .int 0, .int 1, .ref (p + 1), .ref (p + 2), .ref (p + 3), .ref (p + 4), .ref (p + 5), .int 0, .int 0, .int 0, .int 0, .int 0, .int 0, .int 0, .int 0]), .inr (.inl (1, [101, 101, 101, 101, 101, 101, 101, 101])), .inr (.inl (0, [0, 0, 0, 0, 0, 0, 0, 0])), .inr (.inl (0, [20, 20, 20, 20, 20, 20, 20, 0])), .inr (.inl (0, [0, 0, 0])), .inr (.inl (0, [1, 3, 5]))]) rfl (Or.inr (Or.inl ⟨rfl, rfl⟩)) hn rfl rfl (by decide) (Nat.le_of_ble_eq_true rfl) rfl rfl ?_
  refine y_go rfl rfl ?_
  refine y_getf (w := .ref (p + 3)) rfl rfl (app_at hn (i := 0) rfl) rfl ?_
  refine y_go rfl rfl ?_
  refine y_go rfl rfl ?_
  refine y_astT (t := 0) (i := 3) (j := 7) (cs' := [.inl (6, [.int 0, .int (-1), .int 0, .int 1, .ref (p + 1), .ref (p + 2), .ref (p + 3), .ref (p + 4), .ref (p + 5), .int 0, .int 0, .int 0, .int 0, .int 0, .int 0, .int 0, .int 0]), .inr (.inl (1, [101, 101, 101, 101, 101, 101, 101, 101])), .inr (.inl (0, [0, 0, 0, 0, 0, 0, 0, 0])), .inr (.inl (0, [20, 20, 20, 20, 20, 20, 20, 20])), .inr (.inl (0, [0, 0, 0])), .inr (.inl (0, [1, 3, 5]))]) rfl (Or.inl ⟨rfl, rfl⟩) hn rfl rfl (by decide) (Nat.le_of_ble_eq_true rfl) rfl rfl ?_
  refine y_go (g' := (141, [.ref p, .int 8], _, _)) rfl rfl ?_
  refine y_go rfl rfl ?_
  refine y_go rfl rfl ?_
  refine y_go rfl rfl ?_
  refine y_ic_ge rfl (fun _ => ?_) (fun c => absurd c (by decide))
  exact y_end rfl rfl rfl
theorem s_initM {S : List Int32} {d : Nat} (hd : 2 ≤ d) {h : xH} {p : Nat} (hn : h.length = p) (hB : p ≤ 1000) (k0 : Nat × Nat) : yT S d 42 [.ref p] (h ++ [.inl (7, xdef 7)], k0) (· = (.inl none, (h ++ [.inl (7, [.ref (p + 1), .ref (p + 2), .int 0, .int 0, .int 0]), .inr (.inl (0, List.replicate 212 0)), .inr (.inl (0, [0, 0, 0]))], k0.1 + 2, k0.2 + 215))) := by
  obtain ⟨d, rfl⟩ : ∃ e, d = e + 1 := ⟨d - 1, by omega⟩
  refine yT_eq (Nat.le_of_ble_eq_true rfl) ?_
  show yW S d 42 (0, [.ref p], [], (h ++ [.inl (7, [.null, .null, .int 0, .int 0, .int 0])], k0.1 + 0, k0.2 + 0)) _
  refine y_go rfl rfl ?_
  refine y_objinit rfl (Nat.le_of_ble_eq_true rfl) ?_
  refine y_go rfl rfl ?_
  refine y_go rfl rfl ?_
  refine y_newaT (j := 212) (cs' := [.inl (7, [.null, .null, .int 0, .int 0, .int 0]), .inr (.inl (0, List.replicate 212 0))]) (k := 1) rfl (Or.inl ⟨_, rfl⟩) (by decide) (by decide) hB hn rfl rfl rfl ?_
  show yW S d 42 (10, [.ref p], [.ref (p + 1), .ref p], ((h ++ [.inl (7, [.null, .null, .int 0, .int 0, .int 0]), .inr (.inl (0, List.replicate 212 0))]), k0.1 + 1, k0.2 + 212)) _
  refine y_putT (i := 0) (cs' := [.inl (7, [.ref (p + 1), .null, .int 0, .int 0, .int 0]), .inr (.inl (0, List.replicate 212 0))]) rfl hn rfl rfl (Nat.le_of_ble_eq_true rfl) (by first | exact xf_ref rfl | exact xf_obj rfl) rfl ?_
  refine y_go rfl rfl ?_
  refine y_go rfl rfl ?_
  refine y_newaT (j := 3) (cs' := [.inl (7, [.ref (p + 1), .null, .int 0, .int 0, .int 0]), .inr (.inl (0, List.replicate 212 0)), .inr (.inl (0, [0, 0, 0]))]) (k := 2) rfl (Or.inl ⟨_, rfl⟩) (by decide) (by decide) hB hn rfl rfl rfl ?_
  show yW S d 42 (17, [.ref p], [.ref (p + 2), .ref p], ((h ++ [.inl (7, [.ref (p + 1), .null, .int 0, .int 0, .int 0]), .inr (.inl (0, List.replicate 212 0)), .inr (.inl (0, [0, 0, 0]))]), k0.1 + 2, k0.2 + 215)) _
  refine y_putT (i := 0) (cs' := [.inl (7, [.ref (p + 1), .ref (p + 2), .int 0, .int 0, .int 0]), .inr (.inl (0, List.replicate 212 0)), .inr (.inl (0, [0, 0, 0]))]) rfl hn rfl rfl (Nat.le_of_ble_eq_true rfl) (by first | exact xf_ref rfl | exact xf_obj rfl) rfl ?_
  refine y_go rfl rfl ?_
  refine y_go rfl rfl ?_
  refine y_putT (i := 0) (cs' := [.inl (7, [.ref (p + 1), .ref (p + 2), .int 0, .int 0, .int 0]), .inr (.inl (0, List.replicate 212 0)), .inr (.inl (0, [0, 0, 0]))]) rfl hn rfl rfl (Nat.le_of_ble_eq_true rfl) (xf_int rfl) rfl ?_
  refine y_go rfl rfl ?_
  refine y_go rfl rfl ?_
  refine y_putT (i := 0) (cs' := [.inl (7, [.ref (p + 1), .ref (p + 2), .int 0, .int 0, .int 0]), .inr (.inl (0, List.replicate 212 0)), .inr (.inl (0, [0, 0, 0]))]) rfl hn rfl rfl (Nat.le_of_ble_eq_true rfl) (xf_int rfl) rfl ?_
  refine y_go rfl rfl ?_
  refine y_go rfl rfl ?_
  refine y_putT (i := 0) (cs' := [.inl (7, [.ref (p + 1), .ref (p + 2), .int 0, .int 0, .int 0]), .inr (.inl (0, List.replicate 212 0)), .inr (.inl (0, [0, 0, 0]))]) rfl hn rfl rfl (Nat.le_of_ble_eq_true rfl) rfl rfl ?_
  exact y_end rfl rfl rfl
theorem s_initP {S : List Int32} {d : Nat} (hd : 2 ≤ d) {h : xH} {p : Nat} (hn : h.length = p) (hB : p ≤ 1000) (k0 : Nat × Nat) : yT S d 49 [.ref p] (h ++ [.inl (8, xdef 8)], k0) (· = (.inl none, (h ++ [.inl (8, [.ref (p + 1), .int 0, .int 0, .ref (p + 2), .ref (p + 3), .ref (p + 4), .int 0, .ref (p + 5), .int 0]), .inr (.inl (1, List.replicate 60 0)), .inr (.inr (.inr (5, [none, none, none, none, none, none, none, none, none, none, none, none, none, none, none, none]))), .inr (.inl (0, [0, 0, 0, 0, 0, 0, 0, 0, 0, 0, 0, 0, 0, 0, 0, 0])), .inr (.inl (0, [0, 0, 0, 0, 0, 0, 0, 0, 0, 0, 0, 0, 0, 0, 0, 0])), .inr (.inl (0, [0, 0]))], k0.1 + 5, k0.2 + 110))) := by
  obtain ⟨d, rfl⟩ : ∃ e, d = e + 1 := ⟨d - 1, by omega⟩
  refine yT_eq (Nat.le_of_ble_eq_true rfl) ?_
  show yW S d 49 (0, [.ref p], [], (h ++ [.inl (8, [.null, .int 0, .int 0, .null, .null, .null, .int 0, .null, .int 0])], k0.1 + 0, k0.2 + 0)) _
  refine y_go rfl rfl ?_
  refine y_objinit rfl (Nat.le_of_ble_eq_true rfl) ?_
  refine y_go rfl rfl ?_
  refine y_go rfl rfl ?_
  refine y_newaT (j := 60) (cs' := [.inl (8, [.null, .int 0, .int 0, .null, .null, .null, .int 0, .null, .int 0]), .inr (.inl (1, List.replicate 60 0))]) (k := 1) rfl (Or.inl ⟨_, rfl⟩) (by decide) (by decide) hB hn rfl rfl rfl ?_
  show yW S d 49 (9, [.ref p], [.ref (p + 1), .ref p], ((h ++ [.inl (8, [.null, .int 0, .int 0, .null, .null, .null, .int 0, .null, .int 0]), .inr (.inl (1, List.replicate 60 0))]), k0.1 + 1, k0.2 + 60)) _
  refine y_putT (i := 0) (cs' := [.inl (8, [.ref (p + 1), .int 0, .int 0, .null, .null, .null, .int 0, .null, .int 0]), .inr (.inl (1, List.replicate 60 0))]) rfl hn rfl rfl (Nat.le_of_ble_eq_true rfl) (by first | exact xf_ref rfl | exact xf_obj rfl) rfl ?_
  refine y_go rfl rfl ?_
  refine y_go rfl rfl ?_
  refine y_putT (i := 0) (cs' := [.inl (8, [.ref (p + 1), .int 0, .int 0, .null, .null, .null, .int 0, .null, .int 0]), .inr (.inl (1, List.replicate 60 0))]) rfl hn rfl rfl (Nat.le_of_ble_eq_true rfl) (xf_int rfl) rfl ?_
  refine y_go rfl rfl ?_
  refine y_go rfl rfl ?_
  refine y_putT (i := 0) (cs' := [.inl (8, [.ref (p + 1), .int 0, .int 0, .null, .null, .null, .int 0, .null, .int 0]), .inr (.inl (1, List.replicate 60 0))]) rfl hn rfl rfl (Nat.le_of_ble_eq_true rfl) (xf_int rfl) rfl ?_
  refine y_go rfl rfl ?_
  refine y_go rfl rfl ?_
  refine y_newaT (j := 16) (cs' := [.inl (8, [.ref (p + 1), .int 0, .int 0, .null, .null, .null, .int 0, .null, .int 0]), .inr (.inl (1, List.replicate 60 0)), .inr (.inr (.inr (5, [none, none, none, none, none, none, none, none, none, none, none, none, none, none, none, none])))]) (k := 2) rfl (Or.inr ⟨_, rfl⟩) (by decide) (by decide) hB hn rfl rfl rfl ?_
  show yW S d 49 (28, [.ref p], [.ref (p + 2), .ref p], ((h ++ [.inl (8, [.ref (p + 1), .int 0, .int 0, .null, .null, .null, .int 0, .null, .int 0]), .inr (.inl (1, List.replicate 60 0)), .inr (.inr (.inr (5, [none, none, none, none, none, none, none, none, none, none, none, none, none, none, none, none])))]), k0.1 + 2, k0.2 + 76)) _
  refine y_putT (i := 0) (cs' := [.inl (8, [.ref (p + 1), .int 0, .int 0, .ref (p + 2), .null, .null, .int 0, .null, .int 0]), .inr (.inl (1, List.replicate 60 0)), .inr (.inr (.inr (5, [none, none, none, none, none, none, none, none, none, none, none, none, none, none, none, none])))]) rfl hn rfl rfl (Nat.le_of_ble_eq_true rfl) (by first | exact xf_ref rfl | exact xf_obj rfl) rfl ?_
  refine y_go rfl rfl ?_
  refine y_go rfl rfl ?_
  refine y_newaT (j := 16) (cs' := [.inl (8, [.ref (p + 1), .int 0, .int 0, .ref (p + 2), .null, .null, .int 0, .null, .int 0]), .inr (.inl (1, List.replicate 60 0)), .inr (.inr (.inr (5, [none, none, none, none, none, none, none, none, none, none, none, none, none, none, none, none]))), .inr (.inl (0, [0, 0, 0, 0, 0, 0, 0, 0, 0, 0, 0, 0, 0, 0, 0, 0]))]) (k := 3) rfl (Or.inl ⟨_, rfl⟩) (by decide) (by decide) hB hn rfl rfl rfl ?_
  show yW S d 49 (36, [.ref p], [.ref (p + 3), .ref p], ((h ++ [.inl (8, [.ref (p + 1), .int 0, .int 0, .ref (p + 2), .null, .null, .int 0, .null, .int 0]), .inr (.inl (1, List.replicate 60 0)), .inr (.inr (.inr (5, [none, none, none, none, none, none, none, none, none, none, none, none, none, none, none, none]))), .inr (.inl (0, [0, 0, 0, 0, 0, 0, 0, 0, 0, 0, 0, 0, 0, 0, 0, 0]))]), k0.1 + 3, k0.2 + 92)) _
  refine y_putT (i := 0) (cs' := [.inl (8, [.ref (p + 1), .int 0, .int 0, .ref (p + 2), .ref (p + 3), .null, .int 0, .null, .int 0]), .inr (.inl (1, List.replicate 60 0)), .inr (.inr (.inr (5, [none, none, none, none, none, none, none, none, none, none, none, none, none, none, none, none]))), .inr (.inl (0, [0, 0, 0, 0, 0, 0, 0, 0, 0, 0, 0, 0, 0, 0, 0, 0]))]) rfl hn rfl rfl (Nat.le_of_ble_eq_true rfl) (by first | exact xf_ref rfl | exact xf_obj rfl) rfl ?_
  refine y_go rfl rfl ?_
  refine y_go rfl rfl ?_
  refine y_newaT (j := 16) (cs' := [.inl (8, [.ref (p + 1), .int 0, .int 0, .ref (p + 2), .ref (p + 3), .null, .int 0, .null, .int 0]), .inr (.inl (1, List.replicate 60 0)), .inr (.inr (.inr (5, [none, none, none, none, none, none, none, none, none, none, none, none, none, none, none, none]))), .inr (.inl (0, [0, 0, 0, 0, 0, 0, 0, 0, 0, 0, 0, 0, 0, 0, 0, 0])), .inr (.inl (0, [0, 0, 0, 0, 0, 0, 0, 0, 0, 0, 0, 0, 0, 0, 0, 0]))]) (k := 4) rfl (Or.inl ⟨_, rfl⟩) (by decide) (by decide) hB hn rfl rfl rfl ?_
  show yW S d 49 (44, [.ref p], [.ref (p + 4), .ref p], ((h ++ [.inl (8, [.ref (p + 1), .int 0, .int 0, .ref (p + 2), .ref (p + 3), .null, .int 0, .null, .int 0]), .inr (.inl (1, List.replicate 60 0)), .inr (.inr (.inr (5, [none, none, none, none, none, none, none, none, none, none, none, none, none, none, none, none]))), .inr (.inl (0, [0, 0, 0, 0, 0, 0, 0, 0, 0, 0, 0, 0, 0, 0, 0, 0])), .inr (.inl (0, [0, 0, 0, 0, 0, 0, 0, 0, 0, 0, 0, 0, 0, 0, 0, 0]))]), k0.1 + 4, k0.2 + 108)) _
  refine y_putT (i := 0) (cs' := [.inl (8, [.ref (p + 1), .int 0, .int 0, .ref (p + 2), .ref (p + 3), .ref (p + 4), .int 0, .null, .int 0]), .inr (.inl (1, List.replicate 60 0)), .inr (.inr (.inr (5, [none, none, none, none, none, none, none, none, none, none, none, none, none, none, none, none]))), .inr (.inl (0, [0, 0, 0, 0, 0, 0, 0, 0, 0, 0, 0, 0, 0, 0, 0, 0])), .inr (.inl (0, [0, 0, 0, 0, 0, 0, 0, 0, 0, 0, 0, 0, 0, 0, 0, 0]))]) rfl hn rfl rfl (Nat.le_of_ble_eq_true rfl) (by first | exact xf_ref rfl | exact xf_obj rfl) rfl ?_
  refine y_go rfl rfl ?_
  refine y_go rfl rfl ?_
  refine y_putT (i := 0) (cs' := [.inl (8, [.ref (p + 1), .int 0, .int 0, .ref (p + 2), .ref (p + 3), .ref (p + 4), .int 0, .null, .int 0]), .inr (.inl (1, List.replicate 60 0)), .inr (.inr (.inr (5, [none, none, none, none, none, none, none, none, none, none, none, none, none, none, none, none]))), .inr (.inl (0, [0, 0, 0, 0, 0, 0, 0, 0, 0, 0, 0, 0, 0, 0, 0, 0])), .inr (.inl (0, [0, 0, 0, 0, 0, 0, 0, 0, 0, 0, 0, 0, 0, 0, 0, 0]))]) rfl hn rfl rfl (Nat.le_of_ble_eq_true rfl) (xf_int rfl) rfl ?_
  refine y_go rfl rfl ?_
  refine y_go rfl rfl ?_
  refine y_newaT (j := 2) (cs' := [.inl (8, [.ref (p + 1), .int 0, .int 0, .ref (p + 2), .ref (p + 3), .ref (p + 4), .int 0, .null, .int 0]), .inr (.inl (1, List.replicate 60 0)), .inr (.inr (.inr (5, [none, none, none, none, none, none, none, none, none, none, none, none, none, none, none, none]))), .inr (.inl (0, [0, 0, 0, 0, 0, 0, 0, 0, 0, 0, 0, 0, 0, 0, 0, 0])), .inr (.inl (0, [0, 0, 0, 0, 0, 0, 0, 0, 0, 0, 0, 0, 0, 0, 0, 0])), .inr (.inl (0, [0, 0]))]) (k := 5) rfl (Or.inl ⟨_, rfl⟩) (by decide) (by decide) hB hn rfl rfl rfl ?_
  show yW S d 49 (56, [.ref p], [.ref (p + 5), .ref p], ((h ++ [.inl (8, [.ref (p + 1), .int 0, .int 0, .ref (p + 2), .ref (p + 3), .ref (p + 4), .int 0, .null, .int 0]), .inr (.inl (1, List.replicate 60 0)), .inr (.inr (.inr (5, [none, none, none, none, none, none, none, none, none, none, none, none, none, none, none, none]))), .inr (.inl (0, [0, 0, 0, 0, 0, 0, 0, 0, 0, 0, 0, 0, 0, 0, 0, 0])), .inr (.inl (0, [0, 0, 0, 0, 0, 0, 0, 0, 0, 0, 0, 0, 0, 0, 0, 0])), .inr (.inl (0, [0, 0]))]), k0.1 + 5, k0.2 + 110)) _
  refine y_putT (i := 0) (cs' := [.inl (8, [.ref (p + 1), .int 0, .int 0, .ref (p + 2), .ref (p + 3), .ref (p + 4), .int 0, .ref (p + 5), .int 0]), .inr (.inl (1, List.replicate 60 0)), .inr (.inr (.inr (5, [none, none, none, none, none, none, none, none, none, none, none, none, none, none, none, none]))), .inr (.inl (0, [0, 0, 0, 0, 0, 0, 0, 0, 0, 0, 0, 0, 0, 0, 0, 0])), .inr (.inl (0, [0, 0, 0, 0, 0, 0, 0, 0, 0, 0, 0, 0, 0, 0, 0, 0])), .inr (.inl (0, [0, 0]))]) rfl hn rfl rfl (Nat.le_of_ble_eq_true rfl) (by first | exact xf_ref rfl | exact xf_obj rfl) rfl ?_
  refine y_go rfl rfl ?_
  refine y_go rfl rfl ?_
  refine y_putT (i := 0) (cs' := [.inl (8, [.ref (p + 1), .int 0, .int 0, .ref (p + 2), .ref (p + 3), .ref (p + 4), .int 0, .ref (p + 5), .int 0]), .inr (.inl (1, List.replicate 60 0)), .inr (.inr (.inr (5, [none, none, none, none, none, none, none, none, none, none, none, none, none, none, none, none]))), .inr (.inl (0, [0, 0, 0, 0, 0, 0, 0, 0, 0, 0, 0, 0, 0, 0, 0, 0])), .inr (.inl (0, [0, 0, 0, 0, 0, 0, 0, 0, 0, 0, 0, 0, 0, 0, 0, 0])), .inr (.inl (0, [0, 0]))]) rfl hn rfl rfl (Nat.le_of_ble_eq_true rfl) (xf_int rfl) rfl ?_
  exact y_end rfl rfl rfl
theorem s_initB0 {S : List Int32} {d : Nat} (hd : 2 ≤ d) {h : xH} {p : Nat} (hn : h.length = p) (hB : p ≤ 1000) (k0 : Nat × Nat) : yT S d 159 [.ref p, .int 16] (h ++ [.inl (1, xdef 1)], k0) (· = (.inl none, (h ++ [.inl (1, [.ref (p + 1), .int 0, .int 0, .int 0]), .inr (.inl (2, [0, 0, 0, 0, 0, 0, 0, 0, 0, 0, 0, 0, 0, 0, 0, 0]))], k0.1 + 1, k0.2 + 16))) := by
  obtain ⟨d, rfl⟩ : ∃ e, d = e + 1 := ⟨d - 1, by omega⟩
  refine yT_eq (Nat.le_of_ble_eq_true rfl) ?_
  show yW S d 159 (0, [.ref p, .int 16], [], (h ++ [.inl (1, [.null, .int 0, .int 0, .int 0])], k0.1 + 0, k0.2 + 0)) _
  refine y_go rfl rfl ?_
  refine y_objinit rfl (Nat.le_of_ble_eq_true rfl) ?_
  refine y_go rfl rfl ?_
  refine y_if_eq rfl (fun c => absurd c (by decide)) (fun _ => ?_)
  refine y_go rfl rfl ?_
  refine y_go rfl rfl ?_
  refine y_newaT (j := 16) (cs' := [.inl (1, [.null, .int 0, .int 0, .int 0]), .inr (.inl (2, [0, 0, 0, 0, 0, 0, 0, 0, 0, 0, 0, 0, 0, 0, 0, 0]))]) (k := 1) rfl (Or.inl ⟨_, rfl⟩) (by decide) (by decide) hB hn rfl rfl rfl ?_
  show yW S d 159 (14, [.ref p, .int 16], [.ref (p + 1), .ref p], ((h ++ [.inl (1, [.null, .int 0, .int 0, .int 0]), .inr (.inl (2, [0, 0, 0, 0, 0, 0, 0, 0, 0, 0, 0, 0, 0, 0, 0, 0]))]), k0.1 + 1, k0.2 + 16)) _
  refine y_putT (i := 0) (cs' := [.inl (1, [.ref (p + 1), .int 0, .int 0, .int 0]), .inr (.inl (2, [0, 0, 0, 0, 0, 0, 0, 0, 0, 0, 0, 0, 0, 0, 0, 0]))]) rfl hn rfl rfl (Nat.le_of_ble_eq_true rfl) (by first | exact xf_ref rfl | exact xf_obj rfl) rfl ?_
  refine y_go rfl rfl ?_
  refine y_go rfl rfl ?_
  refine y_putT (i := 0) (cs' := [.inl (1, [.ref (p + 1), .int 0, .int 0, .int 0]), .inr (.inl (2, [0, 0, 0, 0, 0, 0, 0, 0, 0, 0, 0, 0, 0, 0, 0, 0]))]) rfl hn rfl rfl (Nat.le_of_ble_eq_true rfl) rfl rfl ?_
  refine y_go rfl rfl ?_
  exact y_end rfl rfl rfl
theorem s_initB {S : List Int32} {d : Nat} (hd : 3 ≤ d) {h : xH} {p : Nat} (hn : h.length = p) (hB : p ≤ 1000) (k0 : Nat × Nat) : yT S d 154 [.ref p] (h ++ [.inl (1, xdef 1)], k0) (· = (.inl none, (h ++ [.inl (1, [.ref (p + 1), .int 0, .int 0, .int 0]), .inr (.inl (2, [0, 0, 0, 0, 0, 0, 0, 0, 0, 0, 0, 0, 0, 0, 0, 0]))], k0.1 + 1, k0.2 + 16))) := by
  obtain ⟨d, rfl⟩ : ∃ e, d = e + 1 := ⟨d - 1, by omega⟩
  refine yT_eq (Nat.le_of_ble_eq_true rfl) ?_
  show yW S d 154 (0, [.ref p], [], (h ++ [.inl (1, [.null, .int 0, .int 0, .int 0])], k0.1 + 0, k0.2 + 0)) _
  refine y_go rfl rfl ?_
  refine y_go rfl rfl ?_
  refine y_I0 rfl rfl (Nat.le_of_ble_eq_true rfl) (Nat.le_of_ble_eq_true rfl) rfl rfl rfl (s_initB0 (by omega) hn hB _) ?_
  exact y_end rfl rfl rfl
