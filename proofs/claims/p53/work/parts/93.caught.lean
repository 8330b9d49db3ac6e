/-! THE LAW: calls, their exceptions caught. -/
theorem c_load {S : List Int32} {d : Nat} {s : xS} {W1 W2 : xS → Prop} {v : Int32} {x y : Int32} (hrc : xrcv 9 s (.ref 0) = true) (hT : yT S d 61 [.ref 0, .int x, .int y] s (pubP ["java/lang/IndexOutOfBoundsException", "java/lang/IllegalArgumentException", "java/lang/IllegalStateException", "java/lang/UnsupportedOperationException"] v W1 W2)) : yT S (d + 1) 121 [.ref 0, .int x, .int y] s (fun r => (∃ s2, W1 s2 ∧ r = (.inl (some (.int v)), s2)) ∨ ∃ s2, W2 s2 ∧ r = (.inl (some (.int (-100000000))), s2)) := by
  refine yT_of (Nat.le_of_ble_eq_true rfl) ?_ (fun r hr hx => by rcases hr with ⟨s2, -, rfl⟩ | ⟨s2, -, rfl⟩ <;> cases hx)
  show yW S d 121 (0, [.ref 0, .int x, .int y, xno, xno], [], s) _
  refine y_go rfl rfl ?_
  refine y_go (g' := (3, [.ref 0, .int x, .int y, .int (-100000000), xno], _, _)) rfl rfl ?_
  refine y_go rfl rfl ?_
  refine y_go rfl rfl ?_
  refine y_go rfl rfl ?_
  refine y_callV rfl (Nat.le_of_ble_eq_true rfl) (Nat.le_of_ble_eq_true rfl) rfl rfl hrc hT fun q hq => ?_
  rcases hq with ⟨s2, hw, rfl⟩ | ⟨E, hE, s2, hw, rfl⟩
  · refine Or.inl ⟨_, rfl, ?_⟩
    show yW S d 121 (9, [.ref 0, .int x, .int y, .int (-100000000), xno], [.int v], s2) _
    refine y_go (g' := (10, [.ref 0, .int x, .int y, .int v, xno], _, _)) rfl rfl ?_
    refine y_go rfl rfl ?_
    refine y_go rfl rfl ?_
    exact y_ireturn rfl rfl rfl (Or.inl ⟨s2, hw, rfl⟩)
  · simp only [List.mem_cons, List.not_mem_nil, or_false] at hE
    rcases hE with rfl | rfl | rfl | rfl
    · refine Or.inr (Or.inr ⟨_, rfl, Or.inl ⟨15, 4, rfl, (Nat.le_of_ble_eq_true rfl), ?_⟩⟩)
      show yW S d 121 (15, [.ref 0, .int x, .int y, .int (-100000000), xno], [], s2) _
      refine y_go rfl rfl ?_
      exact y_ireturn rfl rfl rfl (Or.inr ⟨s2, hw, rfl⟩)
    · refine Or.inr (Or.inr ⟨_, rfl, Or.inl ⟨20, 4, rfl, (Nat.le_of_ble_eq_true rfl), ?_⟩⟩)
      show yW S d 121 (20, [.ref 0, .int x, .int y, .int (-100000000), xno], [], s2) _
      refine y_go rfl rfl ?_
      exact y_ireturn rfl rfl rfl (Or.inr ⟨s2, hw, rfl⟩)
    · refine Or.inr (Or.inr ⟨_, rfl, Or.inl ⟨25, 4, rfl, (Nat.le_of_ble_eq_true rfl), ?_⟩⟩)
      show yW S d 121 (25, [.ref 0, .int x, .int y, .int (-100000000), xno], [], s2) _
      refine y_go rfl rfl ?_
      exact y_ireturn rfl rfl rfl (Or.inr ⟨s2, hw, rfl⟩)
    · refine Or.inr (Or.inr ⟨_, rfl, Or.inl ⟨30, 4, rfl, (Nat.le_of_ble_eq_true rfl), ?_⟩⟩)
      show yW S d 121 (30, [.ref 0, .int x, .int y, .int (-100000000), xno], [], s2) _
      refine y_go rfl rfl ?_
      exact y_ireturn rfl rfl rfl (Or.inr ⟨s2, hw, rfl⟩)
theorem c_unload {S : List Int32} {d : Nat} {s : xS} {W1 W2 : xS → Prop} {v : Int32} {x : Int32} (hrc : xrcv 9 s (.ref 0) = true) (hT : yT S d 62 [.ref 0, .int x] s (pubP ["java/lang/IndexOutOfBoundsException", "java/lang/IllegalStateException", "java/lang/UnsupportedOperationException"] v W1 W2)) : yT S (d + 1) 122 [.ref 0, .int x] s (fun r => (∃ s2, W1 s2 ∧ r = (.inl (some (.int v)), s2)) ∨ ∃ s2, W2 s2 ∧ r = (.inl (some (.int (-100000000))), s2)) := by
  refine yT_of (Nat.le_of_ble_eq_true rfl) ?_ (fun r hr hx => by rcases hr with ⟨s2, -, rfl⟩ | ⟨s2, -, rfl⟩ <;> cases hx)
  show yW S d 122 (0, [.ref 0, .int x, xno, xno], [], s) _
  refine y_go rfl rfl ?_
  refine y_go (g' := (3, [.ref 0, .int x, .int (-100000000), xno], _, _)) rfl rfl ?_
  refine y_go rfl rfl ?_
  refine y_go rfl rfl ?_
  refine y_callV rfl (Nat.le_of_ble_eq_true rfl) (Nat.le_of_ble_eq_true rfl) rfl rfl hrc hT fun q hq => ?_
  rcases hq with ⟨s2, hw, rfl⟩ | ⟨E, hE, s2, hw, rfl⟩
  · refine Or.inl ⟨_, rfl, ?_⟩
    show yW S d 122 (8, [.ref 0, .int x, .int (-100000000), xno], [.int v], s2) _
    refine y_go (g' := (9, [.ref 0, .int x, .int v, xno], _, _)) rfl rfl ?_
    refine y_go rfl rfl ?_
    refine y_go rfl rfl ?_
    exact y_ireturn rfl rfl rfl (Or.inl ⟨s2, hw, rfl⟩)
  · simp only [List.mem_cons, List.not_mem_nil, or_false] at hE
    rcases hE with rfl | rfl | rfl
    · refine Or.inr (Or.inr ⟨_, rfl, Or.inl ⟨13, 3, rfl, (Nat.le_of_ble_eq_true rfl), ?_⟩⟩)
      show yW S d 122 (13, [.ref 0, .int x, .int (-100000000), xno], [], s2) _
      refine y_go rfl rfl ?_
      exact y_ireturn rfl rfl rfl (Or.inr ⟨s2, hw, rfl⟩)
    · refine Or.inr (Or.inr ⟨_, rfl, Or.inl ⟨17, 3, rfl, (Nat.le_of_ble_eq_true rfl), ?_⟩⟩)
      show yW S d 122 (17, [.ref 0, .int x, .int (-100000000), xno], [], s2) _
      refine y_go rfl rfl ?_
      exact y_ireturn rfl rfl rfl (Or.inr ⟨s2, hw, rfl⟩)
    · refine Or.inr (Or.inr ⟨_, rfl, Or.inl ⟨21, 3, rfl, (Nat.le_of_ble_eq_true rfl), ?_⟩⟩)
      show yW S d 122 (21, [.ref 0, .int x, .int (-100000000), xno], [], s2) _
      refine y_go rfl rfl ?_
      exact y_ireturn rfl rfl rfl (Or.inr ⟨s2, hw, rfl⟩)
theorem c_light {S : List Int32} {d : Nat} {s : xS} {W1 W2 : xS → Prop} {v : Int32} {x : Int32} (hrc : xrcv 9 s (.ref 0) = true) (hT : yT S d 63 [.ref 0, .int x] s (pubP ["java/lang/IndexOutOfBoundsException", "java/lang/IllegalStateException", "java/lang/UnsupportedOperationException"] v W1 W2)) : yT S (d + 1) 123 [.ref 0, .int x] s (fun r => (∃ s2, W1 s2 ∧ r = (.inl (some (.int v)), s2)) ∨ ∃ s2, W2 s2 ∧ r = (.inl (some (.int (-100000000))), s2)) := by
  refine yT_of (Nat.le_of_ble_eq_true rfl) ?_ (fun r hr hx => by rcases hr with ⟨s2, -, rfl⟩ | ⟨s2, -, rfl⟩ <;> cases hx)
  show yW S d 123 (0, [.ref 0, .int x, xno, xno], [], s) _
  refine y_go rfl rfl ?_
  refine y_go (g' := (3, [.ref 0, .int x, .int (-100000000), xno], _, _)) rfl rfl ?_
  refine y_go rfl rfl ?_
  refine y_go rfl rfl ?_
  refine y_callV rfl (Nat.le_of_ble_eq_true rfl) (Nat.le_of_ble_eq_true rfl) rfl rfl hrc hT fun q hq => ?_
  rcases hq with ⟨s2, hw, rfl⟩ | ⟨E, hE, s2, hw, rfl⟩
  · refine Or.inl ⟨_, rfl, ?_⟩
    show yW S d 123 (8, [.ref 0, .int x, .int (-100000000), xno], [.int v], s2) _
    refine y_go (g' := (9, [.ref 0, .int x, .int v, xno], _, _)) rfl rfl ?_
    refine y_go rfl rfl ?_
    refine y_go rfl rfl ?_
    exact y_ireturn rfl rfl rfl (Or.inl ⟨s2, hw, rfl⟩)
  · simp only [List.mem_cons, List.not_mem_nil, or_false] at hE
    rcases hE with rfl | rfl | rfl
    · refine Or.inr (Or.inr ⟨_, rfl, Or.inl ⟨13, 3, rfl, (Nat.le_of_ble_eq_true rfl), ?_⟩⟩)
      show yW S d 123 (13, [.ref 0, .int x, .int (-100000000), xno], [], s2) _
      refine y_go rfl rfl ?_
      exact y_ireturn rfl rfl rfl (Or.inr ⟨s2, hw, rfl⟩)
    · refine Or.inr (Or.inr ⟨_, rfl, Or.inl ⟨17, 3, rfl, (Nat.le_of_ble_eq_true rfl), ?_⟩⟩)
      show yW S d 123 (17, [.ref 0, .int x, .int (-100000000), xno], [], s2) _
      refine y_go rfl rfl ?_
      exact y_ireturn rfl rfl rfl (Or.inr ⟨s2, hw, rfl⟩)
    · refine Or.inr (Or.inr ⟨_, rfl, Or.inl ⟨21, 3, rfl, (Nat.le_of_ble_eq_true rfl), ?_⟩⟩)
      show yW S d 123 (21, [.ref 0, .int x, .int (-100000000), xno], [], s2) _
      refine y_go rfl rfl ?_
      exact y_ireturn rfl rfl rfl (Or.inr ⟨s2, hw, rfl⟩)
theorem c_quench {S : List Int32} {d : Nat} {s : xS} {W1 W2 : xS → Prop} {v : Int32} (hrc : xrcv 9 s (.ref 0) = true) (hT : yT S d 64 [.ref 0] s (pubP ["java/lang/IllegalStateException"] v W1 W2)) : yT S (d + 1) 124 [.ref 0] s (fun r => (∃ s2, W1 s2 ∧ r = (.inl (some (.int v)), s2)) ∨ ∃ s2, W2 s2 ∧ r = (.inl (some (.int (-100000000))), s2)) := by
  refine yT_of (Nat.le_of_ble_eq_true rfl) ?_ (fun r hr hx => by rcases hr with ⟨s2, -, rfl⟩ | ⟨s2, -, rfl⟩ <;> cases hx)
  show yW S d 124 (0, [.ref 0, xno, xno], [], s) _
  refine y_go rfl rfl ?_
  refine y_go (g' := (3, [.ref 0, .int (-100000000), xno], _, _)) rfl rfl ?_
  refine y_go rfl rfl ?_
  refine y_callV rfl (Nat.le_of_ble_eq_true rfl) (Nat.le_of_ble_eq_true rfl) rfl rfl hrc hT fun q hq => ?_
  rcases hq with ⟨s2, hw, rfl⟩ | ⟨E, hE, s2, hw, rfl⟩
  · refine Or.inl ⟨_, rfl, ?_⟩
    show yW S d 124 (7, [.ref 0, .int (-100000000), xno], [.int v], s2) _
    refine y_go (g' := (8, [.ref 0, .int v, xno], _, _)) rfl rfl ?_
    refine y_go rfl rfl ?_
    refine y_go rfl rfl ?_
    exact y_ireturn rfl rfl rfl (Or.inl ⟨s2, hw, rfl⟩)
  · simp only [List.mem_cons, List.not_mem_nil, or_false] at hE
    rcases hE with rfl
    · refine Or.inr (Or.inr ⟨_, rfl, Or.inl ⟨12, 2, rfl, (Nat.le_of_ble_eq_true rfl), ?_⟩⟩)
      show yW S d 124 (12, [.ref 0, .int (-100000000), xno], [], s2) _
      refine y_go rfl rfl ?_
      exact y_ireturn rfl rfl rfl (Or.inr ⟨s2, hw, rfl⟩)
theorem c_setDraught {S : List Int32} {d : Nat} {s : xS} {W1 W2 : xS → Prop} {v : Int32} {x : Int32} (hrc : xrcv 9 s (.ref 0) = true) (hT : yT S d 65 [.ref 0, .int x] s (pubP ["java/lang/IllegalArgumentException"] v W1 W2)) : yT S (d + 1) 125 [.ref 0, .int x] s (fun r => (∃ s2, W1 s2 ∧ r = (.inl (some (.int v)), s2)) ∨ ∃ s2, W2 s2 ∧ r = (.inl (some (.int (-100000000))), s2)) := by
  refine yT_of (Nat.le_of_ble_eq_true rfl) ?_ (fun r hr hx => by rcases hr with ⟨s2, -, rfl⟩ | ⟨s2, -, rfl⟩ <;> cases hx)
  show yW S d 125 (0, [.ref 0, .int x, xno, xno], [], s) _
  refine y_go rfl rfl ?_
  refine y_go (g' := (3, [.ref 0, .int x, .int (-100000000), xno], _, _)) rfl rfl ?_
  refine y_go rfl rfl ?_
  refine y_go rfl rfl ?_
  refine y_callV rfl (Nat.le_of_ble_eq_true rfl) (Nat.le_of_ble_eq_true rfl) rfl rfl hrc hT fun q hq => ?_
  rcases hq with ⟨s2, hw, rfl⟩ | ⟨E, hE, s2, hw, rfl⟩
  · refine Or.inl ⟨_, rfl, ?_⟩
    show yW S d 125 (8, [.ref 0, .int x, .int (-100000000), xno], [.int v], s2) _
    refine y_go (g' := (9, [.ref 0, .int x, .int v, xno], _, _)) rfl rfl ?_
    refine y_go rfl rfl ?_
    refine y_go rfl rfl ?_
    exact y_ireturn rfl rfl rfl (Or.inl ⟨s2, hw, rfl⟩)
  · simp only [List.mem_cons, List.not_mem_nil, or_false] at hE
    rcases hE with rfl
    · refine Or.inr (Or.inr ⟨_, rfl, Or.inl ⟨13, 3, rfl, (Nat.le_of_ble_eq_true rfl), ?_⟩⟩)
      show yW S d 125 (13, [.ref 0, .int x, .int (-100000000), xno], [], s2) _
      refine y_go rfl rfl ?_
      exact y_ireturn rfl rfl rfl (Or.inr ⟨s2, hw, rfl⟩)
theorem c_passHours {S : List Int32} {d : Nat} {s : xS} {W1 W2 : xS → Prop} {v : Int32} {x : Int32} (hrc : xrcv 9 s (.ref 0) = true) (hT : yT S d 66 [.ref 0, .int x] s (pubP ["java/lang/IllegalArgumentException"] v W1 W2)) : yT S (d + 1) 126 [.ref 0, .int x] s (fun r => (∃ s2, W1 s2 ∧ r = (.inl (some (.int v)), s2)) ∨ ∃ s2, W2 s2 ∧ r = (.inl (some (.int (-100000000))), s2)) := by
  refine yT_of (Nat.le_of_ble_eq_true rfl) ?_ (fun r hr hx => by rcases hr with ⟨s2, -, rfl⟩ | ⟨s2, -, rfl⟩ <;> cases hx)
  show yW S d 126 (0, [.ref 0, .int x, xno, xno], [], s) _
  refine y_go rfl rfl ?_
  refine y_go (g' := (3, [.ref 0, .int x, .int (-100000000), xno], _, _)) rfl rfl ?_
  refine y_go rfl rfl ?_
  refine y_go rfl rfl ?_
  refine y_callV rfl (Nat.le_of_ble_eq_true rfl) (Nat.le_of_ble_eq_true rfl) rfl rfl hrc hT fun q hq => ?_
  rcases hq with ⟨s2, hw, rfl⟩ | ⟨E, hE, s2, hw, rfl⟩
  · refine Or.inl ⟨_, rfl, ?_⟩
    show yW S d 126 (8, [.ref 0, .int x, .int (-100000000), xno], [.int v], s2) _
    refine y_go (g' := (9, [.ref 0, .int x, .int v, xno], _, _)) rfl rfl ?_
    refine y_go rfl rfl ?_
    refine y_go rfl rfl ?_
    exact y_ireturn rfl rfl rfl (Or.inl ⟨s2, hw, rfl⟩)
  · simp only [List.mem_cons, List.not_mem_nil, or_false] at hE
    rcases hE with rfl
    · refine Or.inr (Or.inr ⟨_, rfl, Or.inl ⟨13, 3, rfl, (Nat.le_of_ble_eq_true rfl), ?_⟩⟩)
      show yW S d 126 (13, [.ref 0, .int x, .int (-100000000), xno], [], s2) _
      refine y_go rfl rfl ?_
      exact y_ireturn rfl rfl rfl (Or.inr ⟨s2, hw, rfl⟩)
theorem c_addFuel {S : List Int32} {d : Nat} {s : xS} {W1 W2 : xS → Prop} {v : Int32} {x y : Int32} (hrc : xrcv 9 s (.ref 0) = true) (hT : yT S d 67 [.ref 0, .int x, .int y] s (pubP ["java/lang/IllegalArgumentException", "java/lang/IllegalStateException"] v W1 W2)) : yT S (d + 1) 127 [.ref 0, .int x, .int y] s (fun r => (∃ s2, W1 s2 ∧ r = (.inl (some (.int v)), s2)) ∨ ∃ s2, W2 s2 ∧ r = (.inl (some (.int (-100000000))), s2)) := by
  refine yT_of (Nat.le_of_ble_eq_true rfl) ?_ (fun r hr hx => by rcases hr with ⟨s2, -, rfl⟩ | ⟨s2, -, rfl⟩ <;> cases hx)
  show yW S d 127 (0, [.ref 0, .int x, .int y, xno, xno], [], s) _
  refine y_go rfl rfl ?_
  refine y_go (g' := (3, [.ref 0, .int x, .int y, .int (-100000000), xno], _, _)) rfl rfl ?_
  refine y_go rfl rfl ?_
  refine y_go rfl rfl ?_
  refine y_go rfl rfl ?_
  refine y_callV rfl (Nat.le_of_ble_eq_true rfl) (Nat.le_of_ble_eq_true rfl) rfl rfl hrc hT fun q hq => ?_
  rcases hq with ⟨s2, hw, rfl⟩ | ⟨E, hE, s2, hw, rfl⟩
  · refine Or.inl ⟨_, rfl, ?_⟩
    show yW S d 127 (9, [.ref 0, .int x, .int y, .int (-100000000), xno], [.int v], s2) _
    refine y_go (g' := (10, [.ref 0, .int x, .int y, .int v, xno], _, _)) rfl rfl ?_
    refine y_go rfl rfl ?_
    refine y_go rfl rfl ?_
    exact y_ireturn rfl rfl rfl (Or.inl ⟨s2, hw, rfl⟩)
  · simp only [List.mem_cons, List.not_mem_nil, or_false] at hE
    rcases hE with rfl | rfl
    · refine Or.inr (Or.inr ⟨_, rfl, Or.inl ⟨15, 4, rfl, (Nat.le_of_ble_eq_true rfl), ?_⟩⟩)
      show yW S d 127 (15, [.ref 0, .int x, .int y, .int (-100000000), xno], [], s2) _
      refine y_go rfl rfl ?_
      exact y_ireturn rfl rfl rfl (Or.inr ⟨s2, hw, rfl⟩)
    · refine Or.inr (Or.inr ⟨_, rfl, Or.inl ⟨20, 4, rfl, (Nat.le_of_ble_eq_true rfl), ?_⟩⟩)
      show yW S d 127 (20, [.ref 0, .int x, .int y, .int (-100000000), xno], [], s2) _
      refine y_go rfl rfl ?_
      exact y_ireturn rfl rfl rfl (Or.inr ⟨s2, hw, rfl⟩)
theorem c_setPrice {S : List Int32} {d : Nat} {s : xS} {W1 W2 : xS → Prop} {v : Int32} {x y : Int32} (hrc : xrcv 9 s (.ref 0) = true) (hT : yT S d 68 [.ref 0, .int x, .int y] s (pubP ["java/lang/IllegalArgumentException"] v W1 W2)) : yT S (d + 1) 128 [.ref 0, .int x, .int y] s (fun r => (∃ s2, W1 s2 ∧ r = (.inl (some (.int v)), s2)) ∨ ∃ s2, W2 s2 ∧ r = (.inl (some (.int (-100000000))), s2)) := by
  refine yT_of (Nat.le_of_ble_eq_true rfl) ?_ (fun r hr hx => by rcases hr with ⟨s2, -, rfl⟩ | ⟨s2, -, rfl⟩ <;> cases hx)
  show yW S d 128 (0, [.ref 0, .int x, .int y, xno, xno], [], s) _
  refine y_go rfl rfl ?_
  refine y_go (g' := (3, [.ref 0, .int x, .int y, .int (-100000000), xno], _, _)) rfl rfl ?_
  refine y_go rfl rfl ?_
  refine y_go rfl rfl ?_
  refine y_go rfl rfl ?_
  refine y_callV rfl (Nat.le_of_ble_eq_true rfl) (Nat.le_of_ble_eq_true rfl) rfl rfl hrc hT fun q hq => ?_
  rcases hq with ⟨s2, hw, rfl⟩ | ⟨E, hE, s2, hw, rfl⟩
  · refine Or.inl ⟨_, rfl, ?_⟩
    show yW S d 128 (9, [.ref 0, .int x, .int y, .int (-100000000), xno], [.int v], s2) _
    refine y_go (g' := (10, [.ref 0, .int x, .int y, .int v, xno], _, _)) rfl rfl ?_
    refine y_go rfl rfl ?_
    refine y_go rfl rfl ?_
    exact y_ireturn rfl rfl rfl (Or.inl ⟨s2, hw, rfl⟩)
  · simp only [List.mem_cons, List.not_mem_nil, or_false] at hE
    rcases hE with rfl
    · refine Or.inr (Or.inr ⟨_, rfl, Or.inl ⟨15, 4, rfl, (Nat.le_of_ble_eq_true rfl), ?_⟩⟩)
      show yW S d 128 (15, [.ref 0, .int x, .int y, .int (-100000000), xno], [], s2) _
      refine y_go rfl rfl ?_
      exact y_ireturn rfl rfl rfl (Or.inr ⟨s2, hw, rfl⟩)
theorem c_feed {S : List Int32} {d : Nat} {s : xS} {W1 W2 : xS → Prop} {v : Int32} {x : Int32} (hrc : xrcv 9 s (.ref 0) = true) (hT : yT S d 69 [.ref 0, .int x] s (pubP ["java/lang/IllegalArgumentException", "java/lang/UnsupportedOperationException", "java/lang/IllegalStateException"] v W1 W2)) : yT S (d + 1) 129 [.ref 0, .int x] s (fun r => (∃ s2, W1 s2 ∧ r = (.inl (some (.int v)), s2)) ∨ ∃ s2, W2 s2 ∧ r = (.inl (some (.int (-100000000))), s2)) := by
  refine yT_of (Nat.le_of_ble_eq_true rfl) ?_ (fun r hr hx => by rcases hr with ⟨s2, -, rfl⟩ | ⟨s2, -, rfl⟩ <;> cases hx)
  show yW S d 129 (0, [.ref 0, .int x, xno, xno], [], s) _
  refine y_go rfl rfl ?_
  refine y_go (g' := (3, [.ref 0, .int x, .int (-100000000), xno], _, _)) rfl rfl ?_
  refine y_go rfl rfl ?_
  refine y_go rfl rfl ?_
  refine y_callV rfl (Nat.le_of_ble_eq_true rfl) (Nat.le_of_ble_eq_true rfl) rfl rfl hrc hT fun q hq => ?_
  rcases hq with ⟨s2, hw, rfl⟩ | ⟨E, hE, s2, hw, rfl⟩
  · refine Or.inl ⟨_, rfl, ?_⟩
    show yW S d 129 (8, [.ref 0, .int x, .int (-100000000), xno], [.int v], s2) _
    refine y_go (g' := (9, [.ref 0, .int x, .int v, xno], _, _)) rfl rfl ?_
    refine y_go rfl rfl ?_
    refine y_go rfl rfl ?_
    exact y_ireturn rfl rfl rfl (Or.inl ⟨s2, hw, rfl⟩)
  · simp only [List.mem_cons, List.not_mem_nil, or_false] at hE
    rcases hE with rfl | rfl | rfl
    · refine Or.inr (Or.inr ⟨_, rfl, Or.inl ⟨13, 3, rfl, (Nat.le_of_ble_eq_true rfl), ?_⟩⟩)
      show yW S d 129 (13, [.ref 0, .int x, .int (-100000000), xno], [], s2) _
      refine y_go rfl rfl ?_
      exact y_ireturn rfl rfl rfl (Or.inr ⟨s2, hw, rfl⟩)
    · refine Or.inr (Or.inr ⟨_, rfl, Or.inl ⟨17, 3, rfl, (Nat.le_of_ble_eq_true rfl), ?_⟩⟩)
      show yW S d 129 (17, [.ref 0, .int x, .int (-100000000), xno], [], s2) _
      refine y_go rfl rfl ?_
      exact y_ireturn rfl rfl rfl (Or.inr ⟨s2, hw, rfl⟩)
    · refine Or.inr (Or.inr ⟨_, rfl, Or.inl ⟨21, 3, rfl, (Nat.le_of_ble_eq_true rfl), ?_⟩⟩)
      show yW S d 129 (21, [.ref 0, .int x, .int (-100000000), xno], [], s2) _
      refine y_go rfl rfl ?_
      exact y_ireturn rfl rfl rfl (Or.inr ⟨s2, hw, rfl⟩)
theorem c_buildWall {S : List Int32} {d : Nat} {s : xS} {W1 W2 : xS → Prop} {v : Int32} {x y : Int32} (hrc : xrcv 9 s (.ref 0) = true) (hT : yT S d 70 [.ref 0, .int x, .int y] s (pubP ["java/lang/IllegalArgumentException", "java/util/NoSuchElementException", "java/lang/IllegalStateException"] v W1 W2)) : yT S (d + 1) 130 [.ref 0, .int x, .int y] s (fun r => (∃ s2, W1 s2 ∧ r = (.inl (some (.int v)), s2)) ∨ ∃ s2, W2 s2 ∧ r = (.inl (some (.int (-100000000))), s2)) := by
  refine yT_of (Nat.le_of_ble_eq_true rfl) ?_ (fun r hr hx => by rcases hr with ⟨s2, -, rfl⟩ | ⟨s2, -, rfl⟩ <;> cases hx)
  show yW S d 130 (0, [.ref 0, .int x, .int y, xno, xno], [], s) _
  refine y_go rfl rfl ?_
  refine y_go (g' := (3, [.ref 0, .int x, .int y, .int (-100000000), xno], _, _)) rfl rfl ?_
  refine y_go rfl rfl ?_
  refine y_go rfl rfl ?_
  refine y_go rfl rfl ?_
  refine y_callV rfl (Nat.le_of_ble_eq_true rfl) (Nat.le_of_ble_eq_true rfl) rfl rfl hrc hT fun q hq => ?_
  rcases hq with ⟨s2, hw, rfl⟩ | ⟨E, hE, s2, hw, rfl⟩
  · refine Or.inl ⟨_, rfl, ?_⟩
    show yW S d 130 (9, [.ref 0, .int x, .int y, .int (-100000000), xno], [.int v], s2) _
    refine y_go (g' := (10, [.ref 0, .int x, .int y, .int v, xno], _, _)) rfl rfl ?_
    refine y_go rfl rfl ?_
    refine y_go rfl rfl ?_
    exact y_ireturn rfl rfl rfl (Or.inl ⟨s2, hw, rfl⟩)
  · simp only [List.mem_cons, List.not_mem_nil, or_false] at hE
    rcases hE with rfl | rfl | rfl
    · refine Or.inr (Or.inr ⟨_, rfl, Or.inl ⟨15, 4, rfl, (Nat.le_of_ble_eq_true rfl), ?_⟩⟩)
      show yW S d 130 (15, [.ref 0, .int x, .int y, .int (-100000000), xno], [], s2) _
      refine y_go rfl rfl ?_
      exact y_ireturn rfl rfl rfl (Or.inr ⟨s2, hw, rfl⟩)
    · refine Or.inr (Or.inr ⟨_, rfl, Or.inl ⟨20, 4, rfl, (Nat.le_of_ble_eq_true rfl), ?_⟩⟩)
      show yW S d 130 (20, [.ref 0, .int x, .int y, .int (-100000000), xno], [], s2) _
      refine y_go rfl rfl ?_
      exact y_ireturn rfl rfl rfl (Or.inr ⟨s2, hw, rfl⟩)
    · refine Or.inr (Or.inr ⟨_, rfl, Or.inl ⟨25, 4, rfl, (Nat.le_of_ble_eq_true rfl), ?_⟩⟩)
      show yW S d 130 (25, [.ref 0, .int x, .int y, .int (-100000000), xno], [], s2) _
      refine y_go rfl rfl ?_
      exact y_ireturn rfl rfl rfl (Or.inr ⟨s2, hw, rfl⟩)
theorem c_fireChamber {S : List Int32} {d : Nat} {s : xS} {W1 W2 : xS → Prop} {v : Int32} (hrc : xrcv 9 s (.ref 0) = true) (hT : yT S d 73 [.ref 0] s (pubP ["java/util/NoSuchElementException"] v W1 W2)) : yT S (d + 1) 131 [.ref 0] s (fun r => (∃ s2, W1 s2 ∧ r = (.inl (some (.int v)), s2)) ∨ ∃ s2, W2 s2 ∧ r = (.inl (some (.int (-1000))), s2)) := by
  refine yT_of (Nat.le_of_ble_eq_true rfl) ?_ (fun r hr hx => by rcases hr with ⟨s2, -, rfl⟩ | ⟨s2, -, rfl⟩ <;> cases hx)
  show yW S d 131 (0, [.ref 0, xno, xno], [], s) _
  refine y_go rfl rfl ?_
  refine y_go (g' := (4, [.ref 0, .int (-1000), xno], _, _)) rfl rfl ?_
  refine y_go rfl rfl ?_
  refine y_callV rfl (Nat.le_of_ble_eq_true rfl) (Nat.le_of_ble_eq_true rfl) rfl rfl hrc hT fun q hq => ?_
  rcases hq with ⟨s2, hw, rfl⟩ | ⟨E, hE, s2, hw, rfl⟩
  · refine Or.inl ⟨_, rfl, ?_⟩
    show yW S d 131 (8, [.ref 0, .int (-1000), xno], [.int v], s2) _
    refine y_go (g' := (9, [.ref 0, .int v, xno], _, _)) rfl rfl ?_
    refine y_go rfl rfl ?_
    refine y_go rfl rfl ?_
    exact y_ireturn rfl rfl rfl (Or.inl ⟨s2, hw, rfl⟩)
  · simp only [List.mem_cons, List.not_mem_nil, or_false] at hE
    rcases hE with rfl
    · refine Or.inr (Or.inr ⟨_, rfl, Or.inl ⟨13, 2, rfl, (Nat.le_of_ble_eq_true rfl), ?_⟩⟩)
      show yW S d 131 (13, [.ref 0, .int (-1000), xno], [], s2) _
      refine y_go rfl rfl ?_
      exact y_ireturn rfl rfl rfl (Or.inr ⟨s2, hw, rfl⟩)
theorem c_chamberAtRank {S : List Int32} {d : Nat} {s : xS} {W1 W2 : xS → Prop} {v : Int32} {x : Int32} (hrc : xrcv 9 s (.ref 0) = true) (hT : yT S d 79 [.ref 0, .int x] s (pubP ["java/util/NoSuchElementException"] v W1 W2)) : yT S (d + 1) 132 [.ref 0, .int x] s (fun r => (∃ s2, W1 s2 ∧ r = (.inl (some (.int v)), s2)) ∨ ∃ s2, W2 s2 ∧ r = (.inl (some (.int (-1000))), s2)) := by
  refine yT_of (Nat.le_of_ble_eq_true rfl) ?_ (fun r hr hx => by rcases hr with ⟨s2, -, rfl⟩ | ⟨s2, -, rfl⟩ <;> cases hx)
  show yW S d 132 (0, [.ref 0, .int x, xno, xno], [], s) _
  refine y_go rfl rfl ?_
  refine y_go (g' := (4, [.ref 0, .int x, .int (-1000), xno], _, _)) rfl rfl ?_
  refine y_go rfl rfl ?_
  refine y_go rfl rfl ?_
  refine y_callV rfl (Nat.le_of_ble_eq_true rfl) (Nat.le_of_ble_eq_true rfl) rfl rfl hrc hT fun q hq => ?_
  rcases hq with ⟨s2, hw, rfl⟩ | ⟨E, hE, s2, hw, rfl⟩
  · refine Or.inl ⟨_, rfl, ?_⟩
    show yW S d 132 (9, [.ref 0, .int x, .int (-1000), xno], [.int v], s2) _
    refine y_go (g' := (10, [.ref 0, .int x, .int v, xno], _, _)) rfl rfl ?_
    refine y_go rfl rfl ?_
    refine y_go rfl rfl ?_
    exact y_ireturn rfl rfl rfl (Or.inl ⟨s2, hw, rfl⟩)
  · simp only [List.mem_cons, List.not_mem_nil, or_false] at hE
    rcases hE with rfl
    · refine Or.inr (Or.inr ⟨_, rfl, Or.inl ⟨14, 3, rfl, (Nat.le_of_ble_eq_true rfl), ?_⟩⟩)
      show yW S d 132 (14, [.ref 0, .int x, .int (-1000), xno], [], s2) _
      refine y_go rfl rfl ?_
      exact y_ireturn rfl rfl rfl (Or.inr ⟨s2, hw, rfl⟩)
theorem c_hoursUntilOut {S : List Int32} {d : Nat} {s : xS} {W1 W2 : xS → Prop} {v : Int32} (hrc : xrcv 9 s (.ref 0) = true) (hT : yT S d 81 [.ref 0] s (pubP ["java/util/NoSuchElementException"] v W1 W2)) : yT S (d + 1) 133 [.ref 0] s (fun r => (∃ s2, W1 s2 ∧ r = (.inl (some (.int v)), s2)) ∨ ∃ s2, W2 s2 ∧ r = (.inl (some (.int (-1000))), s2)) := by
  refine yT_of (Nat.le_of_ble_eq_true rfl) ?_ (fun r hr hx => by rcases hr with ⟨s2, -, rfl⟩ | ⟨s2, -, rfl⟩ <;> cases hx)
  show yW S d 133 (0, [.ref 0, xno, xno], [], s) _
  refine y_go rfl rfl ?_
  refine y_go (g' := (4, [.ref 0, .int (-1000), xno], _, _)) rfl rfl ?_
  refine y_go rfl rfl ?_
  refine y_callV rfl (Nat.le_of_ble_eq_true rfl) (Nat.le_of_ble_eq_true rfl) rfl rfl hrc hT fun q hq => ?_
  rcases hq with ⟨s2, hw, rfl⟩ | ⟨E, hE, s2, hw, rfl⟩
  · refine Or.inl ⟨_, rfl, ?_⟩
    show yW S d 133 (8, [.ref 0, .int (-1000), xno], [.int v], s2) _
    refine y_go (g' := (9, [.ref 0, .int v, xno], _, _)) rfl rfl ?_
    refine y_go rfl rfl ?_
    refine y_go rfl rfl ?_
    exact y_ireturn rfl rfl rfl (Or.inl ⟨s2, hw, rfl⟩)
  · simp only [List.mem_cons, List.not_mem_nil, or_false] at hE
    rcases hE with rfl
    · refine Or.inr (Or.inr ⟨_, rfl, Or.inl ⟨13, 2, rfl, (Nat.le_of_ble_eq_true rfl), ?_⟩⟩)
      show yW S d 133 (13, [.ref 0, .int (-1000), xno], [], s2) _
      refine y_go rfl rfl ?_
      exact y_ireturn rfl rfl rfl (Or.inr ⟨s2, hw, rfl⟩)
theorem c_hoursUntilCool {S : List Int32} {d : Nat} {s : xS} {W1 W2 : xS → Prop} {v : Int32} {x : Int32} (hrc : xrcv 9 s (.ref 0) = true) (hT : yT S d 82 [.ref 0, .int x] s (pubP ["java/lang/IndexOutOfBoundsException", "java/util/NoSuchElementException"] v W1 W2)) : yT S (d + 1) 134 [.ref 0, .int x] s (fun r => (∃ s2, W1 s2 ∧ r = (.inl (some (.int v)), s2)) ∨ ∃ s2, W2 s2 ∧ r = (.inl (some (.int (-1000))), s2)) := by
  refine yT_of (Nat.le_of_ble_eq_true rfl) ?_ (fun r hr hx => by rcases hr with ⟨s2, -, rfl⟩ | ⟨s2, -, rfl⟩ <;> cases hx)
  show yW S d 134 (0, [.ref 0, .int x, xno, xno], [], s) _
  refine y_go rfl rfl ?_
  refine y_go (g' := (4, [.ref 0, .int x, .int (-1000), xno], _, _)) rfl rfl ?_
  refine y_go rfl rfl ?_
  refine y_go rfl rfl ?_
  refine y_callV rfl (Nat.le_of_ble_eq_true rfl) (Nat.le_of_ble_eq_true rfl) rfl rfl hrc hT fun q hq => ?_
  rcases hq with ⟨s2, hw, rfl⟩ | ⟨E, hE, s2, hw, rfl⟩
  · refine Or.inl ⟨_, rfl, ?_⟩
    show yW S d 134 (9, [.ref 0, .int x, .int (-1000), xno], [.int v], s2) _
    refine y_go (g' := (10, [.ref 0, .int x, .int v, xno], _, _)) rfl rfl ?_
    refine y_go rfl rfl ?_
    refine y_go rfl rfl ?_
    exact y_ireturn rfl rfl rfl (Or.inl ⟨s2, hw, rfl⟩)
  · simp only [List.mem_cons, List.not_mem_nil, or_false] at hE
    rcases hE with rfl | rfl
    · refine Or.inr (Or.inr ⟨_, rfl, Or.inl ⟨14, 3, rfl, (Nat.le_of_ble_eq_true rfl), ?_⟩⟩)
      show yW S d 134 (14, [.ref 0, .int x, .int (-1000), xno], [], s2) _
      refine y_go rfl rfl ?_
      exact y_ireturn rfl rfl rfl (Or.inr ⟨s2, hw, rfl⟩)
    · refine Or.inr (Or.inr ⟨_, rfl, Or.inl ⟨19, 3, rfl, (Nat.le_of_ble_eq_true rfl), ?_⟩⟩)
      show yW S d 134 (19, [.ref 0, .int x, .int (-1000), xno], [], s2) _
      refine y_go rfl rfl ?_
      exact y_ireturn rfl rfl rfl (Or.inr ⟨s2, hw, rfl⟩)
theorem c_lowestCost {S : List Int32} {d : Nat} {s : xS} {W1 W2 : xS → Prop} {v : Int32} {x : Int32} (hrc : xrcv 9 s (.ref 0) = true) (hT : yT S d 86 [.ref 0, .int x] s (pubP ["java/lang/IllegalArgumentException", "java/lang/UnsupportedOperationException"] v W1 W2)) : yT S (d + 1) 135 [.ref 0, .int x] s (fun r => (∃ s2, W1 s2 ∧ r = (.inl (some (.int v)), s2)) ∨ ∃ s2, W2 s2 ∧ r = (.inl (some (.int (-1000))), s2)) := by
  refine yT_of (Nat.le_of_ble_eq_true rfl) ?_ (fun r hr hx => by rcases hr with ⟨s2, -, rfl⟩ | ⟨s2, -, rfl⟩ <;> cases hx)
  show yW S d 135 (0, [.ref 0, .int x, xno, xno], [], s) _
  refine y_go rfl rfl ?_
  refine y_go (g' := (4, [.ref 0, .int x, .int (-1000), xno], _, _)) rfl rfl ?_
  refine y_go rfl rfl ?_
  refine y_go rfl rfl ?_
  refine y_callV rfl (Nat.le_of_ble_eq_true rfl) (Nat.le_of_ble_eq_true rfl) rfl rfl hrc hT fun q hq => ?_
  rcases hq with ⟨s2, hw, rfl⟩ | ⟨E, hE, s2, hw, rfl⟩
  · refine Or.inl ⟨_, rfl, ?_⟩
    show yW S d 135 (9, [.ref 0, .int x, .int (-1000), xno], [.int v], s2) _
    refine y_go (g' := (10, [.ref 0, .int x, .int v, xno], _, _)) rfl rfl ?_
    refine y_go rfl rfl ?_
    refine y_go rfl rfl ?_
    exact y_ireturn rfl rfl rfl (Or.inl ⟨s2, hw, rfl⟩)
  · simp only [List.mem_cons, List.not_mem_nil, or_false] at hE
    rcases hE with rfl | rfl
    · refine Or.inr (Or.inr ⟨_, rfl, Or.inl ⟨14, 3, rfl, (Nat.le_of_ble_eq_true rfl), ?_⟩⟩)
      show yW S d 135 (14, [.ref 0, .int x, .int (-1000), xno], [], s2) _
      refine y_go rfl rfl ?_
      exact y_ireturn rfl rfl rfl (Or.inr ⟨s2, hw, rfl⟩)
    · refine Or.inr (Or.inr ⟨_, rfl, Or.inl ⟨19, 3, rfl, (Nat.le_of_ble_eq_true rfl), ?_⟩⟩)
      show yW S d 135 (19, [.ref 0, .int x, .int (-1000), xno], [], s2) _
      refine y_go rfl rfl ?_
      exact y_ireturn rfl rfl rfl (Or.inr ⟨s2, hw, rfl⟩)
theorem c_lowestCostByTrying {S : List Int32} {d : Nat} {s : xS} {W1 W2 : xS → Prop} {v : Int32} {x : Int32} (hrc : xrcv 9 s (.ref 0) = true) (hT : yT S d 87 [.ref 0, .int x] s (pubP ["java/lang/IllegalArgumentException", "java/lang/UnsupportedOperationException"] v W1 W2)) : yT S (d + 1) 136 [.ref 0, .int x] s (fun r => (∃ s2, W1 s2 ∧ r = (.inl (some (.int v)), s2)) ∨ ∃ s2, W2 s2 ∧ r = (.inl (some (.int (-1000))), s2)) := by
  refine yT_of (Nat.le_of_ble_eq_true rfl) ?_ (fun r hr hx => by rcases hr with ⟨s2, -, rfl⟩ | ⟨s2, -, rfl⟩ <;> cases hx)
  show yW S d 136 (0, [.ref 0, .int x, xno, xno], [], s) _
  refine y_go rfl rfl ?_
  refine y_go (g' := (4, [.ref 0, .int x, .int (-1000), xno], _, _)) rfl rfl ?_
  refine y_go rfl rfl ?_
  refine y_go rfl rfl ?_
  refine y_callV rfl (Nat.le_of_ble_eq_true rfl) (Nat.le_of_ble_eq_true rfl) rfl rfl hrc hT fun q hq => ?_
  rcases hq with ⟨s2, hw, rfl⟩ | ⟨E, hE, s2, hw, rfl⟩
  · refine Or.inl ⟨_, rfl, ?_⟩
    show yW S d 136 (9, [.ref 0, .int x, .int (-1000), xno], [.int v], s2) _
    refine y_go (g' := (10, [.ref 0, .int x, .int v, xno], _, _)) rfl rfl ?_
    refine y_go rfl rfl ?_
    refine y_go rfl rfl ?_
    exact y_ireturn rfl rfl rfl (Or.inl ⟨s2, hw, rfl⟩)
  · simp only [List.mem_cons, List.not_mem_nil, or_false] at hE
    rcases hE with rfl | rfl
    · refine Or.inr (Or.inr ⟨_, rfl, Or.inl ⟨14, 3, rfl, (Nat.le_of_ble_eq_true rfl), ?_⟩⟩)
      show yW S d 136 (14, [.ref 0, .int x, .int (-1000), xno], [], s2) _
      refine y_go rfl rfl ?_
      exact y_ireturn rfl rfl rfl (Or.inr ⟨s2, hw, rfl⟩)
    · refine Or.inr (Or.inr ⟨_, rfl, Or.inl ⟨19, 3, rfl, (Nat.le_of_ble_eq_true rfl), ?_⟩⟩)
      show yW S d 136 (19, [.ref 0, .int x, .int (-1000), xno], [], s2) _
      refine y_go rfl rfl ?_
      exact y_ireturn rfl rfl rfl (Or.inr ⟨s2, hw, rfl⟩)
theorem c_piecesInMixture {S : List Int32} {d : Nat} {s : xS} {W1 W2 : xS → Prop} {v : Int32} {x y : Int32} (hrc : xrcv 9 s (.ref 0) = true) (hT : yT S d 88 [.ref 0, .int x, .int y] s (pubP ["java/lang/IllegalArgumentException", "java/lang/UnsupportedOperationException"] v W1 W2)) : yT S (d + 1) 137 [.ref 0, .int x, .int y] s (fun r => (∃ s2, W1 s2 ∧ r = (.inl (some (.int v)), s2)) ∨ ∃ s2, W2 s2 ∧ r = (.inl (some (.int (-1000))), s2)) := by
  refine yT_of (Nat.le_of_ble_eq_true rfl) ?_ (fun r hr hx => by rcases hr with ⟨s2, -, rfl⟩ | ⟨s2, -, rfl⟩ <;> cases hx)
  show yW S d 137 (0, [.ref 0, .int x, .int y, xno, xno], [], s) _
  refine y_go rfl rfl ?_
  refine y_go (g' := (4, [.ref 0, .int x, .int y, .int (-1000), xno], _, _)) rfl rfl ?_
  refine y_go rfl rfl ?_
  refine y_go rfl rfl ?_
  refine y_go rfl rfl ?_
  refine y_callV rfl (Nat.le_of_ble_eq_true rfl) (Nat.le_of_ble_eq_true rfl) rfl rfl hrc hT fun q hq => ?_
  rcases hq with ⟨s2, hw, rfl⟩ | ⟨E, hE, s2, hw, rfl⟩
  · refine Or.inl ⟨_, rfl, ?_⟩
    show yW S d 137 (10, [.ref 0, .int x, .int y, .int (-1000), xno], [.int v], s2) _
    refine y_go (g' := (11, [.ref 0, .int x, .int y, .int v, xno], _, _)) rfl rfl ?_
    refine y_go rfl rfl ?_
    refine y_go rfl rfl ?_
    exact y_ireturn rfl rfl rfl (Or.inl ⟨s2, hw, rfl⟩)
  · simp only [List.mem_cons, List.not_mem_nil, or_false] at hE
    rcases hE with rfl | rfl
    · refine Or.inr (Or.inr ⟨_, rfl, Or.inl ⟨16, 4, rfl, (Nat.le_of_ble_eq_true rfl), ?_⟩⟩)
      show yW S d 137 (16, [.ref 0, .int x, .int y, .int (-1000), xno], [], s2) _
      refine y_go rfl rfl ?_
      exact y_ireturn rfl rfl rfl (Or.inr ⟨s2, hw, rfl⟩)
    · refine Or.inr (Or.inr ⟨_, rfl, Or.inl ⟨22, 4, rfl, (Nat.le_of_ble_eq_true rfl), ?_⟩⟩)
      show yW S d 137 (22, [.ref 0, .int x, .int y, .int (-1000), xno], [], s2) _
      refine y_go rfl rfl ?_
      exact y_ireturn rfl rfl rfl (Or.inr ⟨s2, hw, rfl⟩)
theorem c_fewestBricks {S : List Int32} {d : Nat} {s : xS} {W1 W2 : xS → Prop} {v : Int32} {x y : Int32} (hrc : xrcv 9 s (.ref 0) = true) (hT : yT S d 92 [.ref 0, .int x, .int y] s (pubP ["java/lang/IllegalArgumentException", "java/util/NoSuchElementException"] v W1 W2)) : yT S (d + 1) 138 [.ref 0, .int x, .int y] s (fun r => (∃ s2, W1 s2 ∧ r = (.inl (some (.int v)), s2)) ∨ ∃ s2, W2 s2 ∧ r = (.inl (some (.int (-1000))), s2)) := by
  refine yT_of (Nat.le_of_ble_eq_true rfl) ?_ (fun r hr hx => by rcases hr with ⟨s2, -, rfl⟩ | ⟨s2, -, rfl⟩ <;> cases hx)
  show yW S d 138 (0, [.ref 0, .int x, .int y, xno, xno], [], s) _
  refine y_go rfl rfl ?_
  refine y_go (g' := (4, [.ref 0, .int x, .int y, .int (-1000), xno], _, _)) rfl rfl ?_
  refine y_go rfl rfl ?_
  refine y_go rfl rfl ?_
  refine y_go rfl rfl ?_
  refine y_callV rfl (Nat.le_of_ble_eq_true rfl) (Nat.le_of_ble_eq_true rfl) rfl rfl hrc hT fun q hq => ?_
  rcases hq with ⟨s2, hw, rfl⟩ | ⟨E, hE, s2, hw, rfl⟩
  · refine Or.inl ⟨_, rfl, ?_⟩
    show yW S d 138 (10, [.ref 0, .int x, .int y, .int (-1000), xno], [.int v], s2) _
    refine y_go (g' := (11, [.ref 0, .int x, .int y, .int v, xno], _, _)) rfl rfl ?_
    refine y_go rfl rfl ?_
    refine y_go rfl rfl ?_
    exact y_ireturn rfl rfl rfl (Or.inl ⟨s2, hw, rfl⟩)
  · simp only [List.mem_cons, List.not_mem_nil, or_false] at hE
    rcases hE with rfl | rfl
    · refine Or.inr (Or.inr ⟨_, rfl, Or.inl ⟨16, 4, rfl, (Nat.le_of_ble_eq_true rfl), ?_⟩⟩)
      show yW S d 138 (16, [.ref 0, .int x, .int y, .int (-1000), xno], [], s2) _
      refine y_go rfl rfl ?_
      exact y_ireturn rfl rfl rfl (Or.inr ⟨s2, hw, rfl⟩)
    · refine Or.inr (Or.inr ⟨_, rfl, Or.inl ⟨22, 4, rfl, (Nat.le_of_ble_eq_true rfl), ?_⟩⟩)
      show yW S d 138 (22, [.ref 0, .int x, .int y, .int (-1000), xno], [], s2) _
      refine y_go rfl rfl ?_
      exact y_ireturn rfl rfl rfl (Or.inr ⟨s2, hw, rfl⟩)
theorem c_run {S : List Int32} {d : Nat} {s : xS} {W1 W2 : xS → Prop} {v : Int32} (hrc : xrcv 9 s (.ref 0) = true) (hT : yT S d 101 [.ref 0] s (pubP ["java/lang/IllegalArgumentException", "java/lang/UnsupportedOperationException"] v W1 W2)) : yT S (d + 1) 139 [.ref 0] s (fun r => (∃ s2, W1 s2 ∧ r = (.inl (some (.int v)), s2)) ∨ ∃ s2, W2 s2 ∧ r = (.inl (some (.int (-100000000))), s2)) := by
  refine yT_of (Nat.le_of_ble_eq_true rfl) ?_ (fun r hr hx => by rcases hr with ⟨s2, -, rfl⟩ | ⟨s2, -, rfl⟩ <;> cases hx)
  show yW S d 139 (0, [.ref 0, xno, xno], [], s) _
  refine y_go rfl rfl ?_
  refine y_go (g' := (3, [.ref 0, .int (-100000000), xno], _, _)) rfl rfl ?_
  refine y_go rfl rfl ?_
  refine y_callV rfl (Nat.le_of_ble_eq_true rfl) (Nat.le_of_ble_eq_true rfl) rfl rfl hrc hT fun q hq => ?_
  rcases hq with ⟨s2, hw, rfl⟩ | ⟨E, hE, s2, hw, rfl⟩
  · refine Or.inl ⟨_, rfl, ?_⟩
    show yW S d 139 (7, [.ref 0, .int (-100000000), xno], [.int v], s2) _
    refine y_go (g' := (8, [.ref 0, .int v, xno], _, _)) rfl rfl ?_
    refine y_go rfl rfl ?_
    refine y_go rfl rfl ?_
    exact y_ireturn rfl rfl rfl (Or.inl ⟨s2, hw, rfl⟩)
  · simp only [List.mem_cons, List.not_mem_nil, or_false] at hE
    rcases hE with rfl | rfl
    · refine Or.inr (Or.inr ⟨_, rfl, Or.inl ⟨12, 2, rfl, (Nat.le_of_ble_eq_true rfl), ?_⟩⟩)
      show yW S d 139 (12, [.ref 0, .int (-100000000), xno], [], s2) _
      refine y_go rfl rfl ?_
      exact y_ireturn rfl rfl rfl (Or.inr ⟨s2, hw, rfl⟩)
    · refine Or.inr (Or.inr ⟨_, rfl, Or.inl ⟨16, 2, rfl, (Nat.le_of_ble_eq_true rfl), ?_⟩⟩)
      show yW S d 139 (16, [.ref 0, .int (-100000000), xno], [], s2) _
      refine y_go rfl rfl ?_
      exact y_ireturn rfl rfl rfl (Or.inr ⟨s2, hw, rfl⟩)
theorem c_failedCommand {S : List Int32} {d : Nat} {s : xS} {W1 W2 : xS → Prop} {v : Int32} (hrc : xrcv 9 s (.ref 0) = true) (hT : yT S d 102 [.ref 0] s (pubP ["java/util/NoSuchElementException"] v W1 W2)) : yT S (d + 1) 140 [.ref 0] s (fun r => (∃ s2, W1 s2 ∧ r = (.inl (some (.int v)), s2)) ∨ ∃ s2, W2 s2 ∧ r = (.inl (some (.int (-1000))), s2)) := by
  refine yT_of (Nat.le_of_ble_eq_true rfl) ?_ (fun r hr hx => by rcases hr with ⟨s2, -, rfl⟩ | ⟨s2, -, rfl⟩ <;> cases hx)
  show yW S d 140 (0, [.ref 0, xno, xno], [], s) _
  refine y_go rfl rfl ?_
  refine y_go (g' := (4, [.ref 0, .int (-1000), xno], _, _)) rfl rfl ?_
  refine y_go rfl rfl ?_
  refine y_callV rfl (Nat.le_of_ble_eq_true rfl) (Nat.le_of_ble_eq_true rfl) rfl rfl hrc hT fun q hq => ?_
  rcases hq with ⟨s2, hw, rfl⟩ | ⟨E, hE, s2, hw, rfl⟩
  · refine Or.inl ⟨_, rfl, ?_⟩
    show yW S d 140 (8, [.ref 0, .int (-1000), xno], [.int v], s2) _
    refine y_go (g' := (9, [.ref 0, .int v, xno], _, _)) rfl rfl ?_
    refine y_go rfl rfl ?_
    refine y_go rfl rfl ?_
    exact y_ireturn rfl rfl rfl (Or.inl ⟨s2, hw, rfl⟩)
  · simp only [List.mem_cons, List.not_mem_nil, or_false] at hE
    rcases hE with rfl
    · refine Or.inr (Or.inr ⟨_, rfl, Or.inl ⟨13, 2, rfl, (Nat.le_of_ble_eq_true rfl), ?_⟩⟩)
      show yW S d 140 (13, [.ref 0, .int (-1000), xno], [], s2) _
      refine y_go rfl rfl ?_
      exact y_ireturn rfl rfl rfl (Or.inr ⟨s2, hw, rfl⟩)
theorem c_undo {S : List Int32} {d : Nat} {s : xS} {W1 W2 : xS → Prop} {v : Int32} (hrc : xrcv 9 s (.ref 0) = true) (hT : yT S d 104 [.ref 0] s (pubP ["java/lang/IllegalStateException"] v W1 W2)) : yT S (d + 1) 141 [.ref 0] s (fun r => (∃ s2, W1 s2 ∧ r = (.inl (some (.int v)), s2)) ∨ ∃ s2, W2 s2 ∧ r = (.inl (some (.int (-100000000))), s2)) := by
  refine yT_of (Nat.le_of_ble_eq_true rfl) ?_ (fun r hr hx => by rcases hr with ⟨s2, -, rfl⟩ | ⟨s2, -, rfl⟩ <;> cases hx)
  show yW S d 141 (0, [.ref 0, xno, xno], [], s) _
  refine y_go rfl rfl ?_
  refine y_go (g' := (3, [.ref 0, .int (-100000000), xno], _, _)) rfl rfl ?_
  refine y_go rfl rfl ?_
  refine y_callV rfl (Nat.le_of_ble_eq_true rfl) (Nat.le_of_ble_eq_true rfl) rfl rfl hrc hT fun q hq => ?_
  rcases hq with ⟨s2, hw, rfl⟩ | ⟨E, hE, s2, hw, rfl⟩
  · refine Or.inl ⟨_, rfl, ?_⟩
    show yW S d 141 (7, [.ref 0, .int (-100000000), xno], [.int v], s2) _
    refine y_go (g' := (8, [.ref 0, .int v, xno], _, _)) rfl rfl ?_
    refine y_go rfl rfl ?_
    refine y_go rfl rfl ?_
    exact y_ireturn rfl rfl rfl (Or.inl ⟨s2, hw, rfl⟩)
  · simp only [List.mem_cons, List.not_mem_nil, or_false] at hE
    rcases hE with rfl
    · refine Or.inr (Or.inr ⟨_, rfl, Or.inl ⟨12, 2, rfl, (Nat.le_of_ble_eq_true rfl), ?_⟩⟩)
      show yW S d 141 (12, [.ref 0, .int (-100000000), xno], [], s2) _
      refine y_go rfl rfl ?_
      exact y_ireturn rfl rfl rfl (Or.inr ⟨s2, hw, rfl⟩)
def nv (x v : Int32) : Int32 := if xcode v = none then v else x
theorem nv_ok {x v : Int32} (h : xcode v = none) : nv x v = v := if_pos h
theorem nv_no {x v : Int32} (h : ¬ xcode v = none) : nv x v = x := if_neg h
theorem nv_nI {x : Int32} {j : Nat} (h : j < 2 ^ 31) : nv x (nI j) = nI j := nv_ok (xcode_pos (nI_pos h))
/-- answers, either way in the same world -/
theorem nv_of {x v : Int32} {W1 : xS → Prop} {r : xR} (h : (∃ s2, (xcode v = none ∧ W1 s2) ∧ r = (.inl (some (.int v)), s2)) ∨ ∃ s2, (¬ xcode v = none ∧ W1 s2) ∧ r = (.inl (some (.int x)), s2)) : ∃ s2, W1 s2 ∧ r = (.inl (some (.int (nv x v))), s2) := by
  rcases h with ⟨s2, ⟨h1, h2⟩, h3⟩ | ⟨s2, ⟨h1, h2⟩, h3⟩
  · exact ⟨s2, h2, by rw [nv_ok h1]; exact h3⟩
  · exact ⟨s2, h2, by rw [nv_no h1]; exact h3⟩
theorem ans_pub {e : Int32} {ol sz : Nat} {R : Nat → kK} {n : Nat} {f sv : Int32} {K V : kK} {H : List kK} {T : List Int32} {s : xS} {Es : List String} {v : Int32} {r : xR} (hv : ∀ E, xcode v = some E → E ∈ Es) (hh : hsR ol sz R H) (g1 : GK n K) (g2 : GK n V) (g3 : ∀ X, X ∈ H → GK n X) (c1 : s.2.1 ≤ 10 * n) (c2 : s.2.2 ≤ 150 * n) (h : ansP v (W2 e f sv K V ol sz R T) s.2 r) : pubP Es v (fun s2 => xcode v = none ∧ LW (n + 1) f sv K V H T s2) (fun s2 => ¬ xcode v = none ∧ LW (n + 1) f sv K V H T s2) r := by
  rcases h with ⟨hx, h2, hw, rfl⟩ | ⟨E, hx, h2, hw, rfl⟩
  · exact Or.inl ⟨(h2, s.2), ⟨hx, LW_mk (s := (h2, s.2)) hw hh (GK_mono (Nat.le_succ n) g1) (GK_mono (Nat.le_succ n) g2) (GKs g3) (ct_1 (k := 0) c1 (by decide)) (ct_1 (k := 0) c2 (by decide))⟩, rfl⟩
  · exact Or.inr ⟨E, hv E hx, xth (h2, s.2), ⟨(by rw [hx]; exact fun z => (by cases z)), LW_mk (s := xth (h2, s.2)) hw hh (GK_mono (Nat.le_succ n) g1) (GK_mono (Nat.le_succ n) g2) (GKs g3) (ct_1 c1 (by decide)) (ct_1 c2 (by decide))⟩, rfl⟩
theorem LW_up {e : Int32} {ol sz : Nat} {R : Nat → kK} {n : Nat} {f sv : Int32} {K V : kK} {H : List kK} {T : List Int32} {s : xS} {h2 : xH} (hw : W2 e f sv K V ol sz R T h2) (hh : hsR ol sz R H) (g1 : GK n K) (g2 : GK n V) (g3 : ∀ X, X ∈ H → GK n X) (c1 : s.2.1 ≤ 10 * n) (c2 : s.2.2 ≤ 150 * n) : LW (n + 1) f sv K V H T (h2, s.2) := LW_mk (s := (h2, s.2)) hw hh (GK_mono (Nat.le_succ n) g1) (GK_mono (Nat.le_succ n) g2) (GKs g3) (ct_1 (k := 0) c1 (by decide)) (ct_1 (k := 0) c2 (by decide))
theorem x5 {v : Int32} (h : v = -5 ∨ ∃ j : Nat, v = nI j ∧ j < 2 ^ 31) : ∀ E, xcode v = some E → E = "java/util/NoSuchElementException" := fun E hE => by
  rcases h with rfl | ⟨j, rfl, hj⟩
  · cases hE; rfl
  · rw [xcode_pos (nI_pos hj)] at hE; cases hE
theorem x4 {v : Int32} (h : v = -4 ∨ ∃ j : Nat, v = nI j ∧ j < 2 ^ 31) : ∀ E, xcode v = some E → E = "java/lang/UnsupportedOperationException" := fun E hE => by
  rcases h with rfl | ⟨j, rfl, hj⟩
  · cases hE; rfl
  · rw [xcode_pos (nI_pos hj)] at hE; cases hE
def fireV (K : kK) : Int32 := if K.1 1 = -1 then -5 else K.1 1
theorem fireV_v {K : kK} (hK : kv K) : fireV K = -5 ∨ ∃ j : Nat, fireV K = nI j ∧ j < 2 ^ 31 := by
  unfold fireV
  split
  · exact Or.inl rfl
  · rename_i c
    rcases hK.2.2.2.2.2 with h | ⟨j, hj, h⟩
    · exact absurd h c
    · exact Or.inr ⟨j, h, by omega⟩
theorem crk_v (ts bs : List Int32) (v : Int32) : ∀ n i, i + n = 8 → crk ts bs v n i = -5 ∨ ∃ j : Nat, crk ts bs v n i = nI j ∧ j < 2 ^ 31
  | 0, _, _ => Or.inl rfl
  | n + 1, i, h => by
    simp only [crk]
    split
    · exact Or.inr ⟨i, rfl, by omega⟩
    · exact crk_v ts bs v n (i + 1) (by omega)
theorem tillOut_v (K : kK) : (tillOut 101 0 K).1 = -5 ∨ ∃ j : Nat, (tillOut 101 0 K).1 = nI j ∧ j < 2 ^ 31 := by
  rcases tillOut_at 101 0 K with ⟨h, -⟩ | ⟨m, h1, h2, -⟩
  · exact Or.inl h
  · exact Or.inr ⟨_, h2, by omega⟩
theorem tillCool_v (j : Nat) (K : kK) : (tillCool j 101 0 K).1 = -5 ∨ ∃ i : Nat, (tillCool j 101 0 K).1 = nI i ∧ i < 2 ^ 31 := by
  rcases tillCool_at j 101 0 K with ⟨h, -⟩ | ⟨m, h1, h2, -⟩
  · exact Or.inl h
  · exact Or.inr ⟨_, h2, by omega⟩
theorem bcst_v {K : kK} (hp : kp K) (u : Nat) : bcst K u = -4 ∨ ∃ j : Nat, bcst K u = nI j ∧ j < 2 ^ 31 := by
  cases hb : bst K u with
  | none => exact Or.inl (bcst_none hb)
  | some m =>
    obtain ⟨w, c, oo⟩ := m
    have := (bst_facts hp hb).2.2.2.2.1
    exact Or.inr ⟨_, bcst_some hb, by omega⟩
theorem bpc_v {K : kK} (hp : kp K) (u : Nat) {k : Nat} (hk : k < 3) : bpc K u k = -4 ∨ ∃ j : Nat, bpc K u k = nI j ∧ j < 2 ^ 31 := by
  cases hb : bst K u with
  | none => exact Or.inl (bpc_none hb)
  | some m =>
    obtain ⟨w, c, oo⟩ := m
    obtain ⟨-, -, h1, h2, h3, -⟩ := kp_eq hp
    obtain ⟨b1, b2, b3, -⟩ := bst_facts hp hb
    rw [bpc_some hb]
    match k, hk with
    | 0, _ => exact Or.inr ⟨w, rfl, by omega⟩
    | 1, _ => exact Or.inr ⟨c, rfl, by omega⟩
    | 2, _ => exact Or.inr ⟨oo, rfl, by omega⟩
theorem fwb_v {w k : Nat} (hw : w < 19) (hk : k ≤ 8) : fwb w k = -5 ∨ ∃ j : Nat, fwb w k = nI j ∧ j < 2 ^ 31 := by
  rcases lbk_n (w := w) (n := xCn w) (k := k - 1) hw (xJ_ok.2 w hw).2.2 (by omega) with h | ⟨v, h1, h2⟩
  · exact Or.inl h
  · exact Or.inr ⟨v, h1, by omega⟩
theorem pub_mono {Es Es2 : List String} {v : Int32} {W1 W2 : xS → Prop} {r : xR} (he : Es.all (fun E => Es2.contains E) = true) (h : pubP Es v W1 W2 r) : pubP Es2 v W1 W2 r := by
  rcases h with h | ⟨E, hE, h⟩
  · exact Or.inl h
  · exact Or.inr ⟨E, by simpa using List.all_eq_true.mp he E hE, h⟩
theorem o_load {S : List Int32} {d : Nat} (hd : 12 ≤ d) {n : Nat} {f sv : Int32} {K V : kK} {H : List kK} {T : List Int32} {s : xS} (hW : LW n f sv K V H T s) (hn : n ≤ 1000000) (a : Nat) (ha : a ≤ 1000) (b : Nat) (hb : b ≤ 1000) : yT S d 121 [.ref 0, .int (nI a), .int (nI b)] s (fun r => ∃ s2, LW (n + 1) f sv ((cmdX 0 a b K).2) V (opH 0 a b K H) T s2 ∧ r = (.inl (some (.int (opV 0 a b K))), s2)) := by
  obtain ⟨d, rfl⟩ : ∃ e, d = e + 1 := ⟨d - 1, by omega⟩
  exact yT_mono (c_load (LW_rcv hW) (yT_mono (p_load (by omega) hW hn a ha b hb) fun r hr => pub_mono (Es2 := ["java/lang/IndexOutOfBoundsException", "java/lang/IllegalArgumentException", "java/lang/IllegalStateException", "java/lang/UnsupportedOperationException"]) (by decide) hr)) fun r hr => nv_of hr
theorem o_unload {S : List Int32} {d : Nat} (hd : 12 ≤ d) {n : Nat} {f sv : Int32} {K V : kK} {H : List kK} {T : List Int32} {s : xS} (hW : LW n f sv K V H T s) (hn : n ≤ 1000000) (a : Nat) (ha : a ≤ 1000) : yT S d 122 [.ref 0, .int (nI a)] s (fun r => ∃ s2, LW (n + 1) f sv ((cmdX 1 a 0 K).2) V (opH 1 a 0 K H) T s2 ∧ r = (.inl (some (.int (opV 1 a 0 K))), s2)) := by
  obtain ⟨d, rfl⟩ : ∃ e, d = e + 1 := ⟨d - 1, by omega⟩
  exact yT_mono (c_unload (LW_rcv hW) (yT_mono (p_unload (by omega) hW hn a ha) fun r hr => pub_mono (Es2 := ["java/lang/IndexOutOfBoundsException", "java/lang/IllegalStateException", "java/lang/UnsupportedOperationException"]) (by decide) hr)) fun r hr => nv_of hr
theorem o_light {S : List Int32} {d : Nat} (hd : 12 ≤ d) {n : Nat} {f sv : Int32} {K V : kK} {H : List kK} {T : List Int32} {s : xS} (hW : LW n f sv K V H T s) (hn : n ≤ 1000000) (a : Nat) (ha : a ≤ 1000) : yT S d 123 [.ref 0, .int (nI a)] s (fun r => ∃ s2, LW (n + 1) f sv ((cmdX 2 a 0 K).2) V (opH 2 a 0 K H) T s2 ∧ r = (.inl (some (.int (opV 2 a 0 K))), s2)) := by
  obtain ⟨d, rfl⟩ : ∃ e, d = e + 1 := ⟨d - 1, by omega⟩
  exact yT_mono (c_light (LW_rcv hW) (yT_mono (p_light (by omega) hW hn a ha) fun r hr => pub_mono (Es2 := ["java/lang/IndexOutOfBoundsException", "java/lang/IllegalStateException", "java/lang/UnsupportedOperationException"]) (by decide) hr)) fun r hr => nv_of hr
theorem o_quench {S : List Int32} {d : Nat} (hd : 12 ≤ d) {n : Nat} {f sv : Int32} {K V : kK} {H : List kK} {T : List Int32} {s : xS} (hW : LW n f sv K V H T s) (hn : n ≤ 1000000) : yT S d 124 [.ref 0] s (fun r => ∃ s2, LW (n + 1) f sv ((cmdX 3 0 0 K).2) V (opH 3 0 0 K H) T s2 ∧ r = (.inl (some (.int (opV 3 0 0 K))), s2)) := by
  obtain ⟨d, rfl⟩ : ∃ e, d = e + 1 := ⟨d - 1, by omega⟩
  exact yT_mono (c_quench (LW_rcv hW) (yT_mono (p_quench (by omega) hW hn) fun r hr => pub_mono (Es2 := ["java/lang/IllegalStateException"]) (by decide) hr)) fun r hr => nv_of hr
theorem o_setDraught {S : List Int32} {d : Nat} (hd : 12 ≤ d) {n : Nat} {f sv : Int32} {K V : kK} {H : List kK} {T : List Int32} {s : xS} (hW : LW n f sv K V H T s) (hn : n ≤ 1000000) (a : Nat) (ha : a ≤ 1000) : yT S d 125 [.ref 0, .int (nI a)] s (fun r => ∃ s2, LW (n + 1) f sv ((cmdX 4 a 0 K).2) V (opH 4 a 0 K H) T s2 ∧ r = (.inl (some (.int (opV 4 a 0 K))), s2)) := by
  obtain ⟨d, rfl⟩ : ∃ e, d = e + 1 := ⟨d - 1, by omega⟩
  exact yT_mono (c_setDraught (LW_rcv hW) (yT_mono (p_setDraught (by omega) hW hn a ha) fun r hr => pub_mono (Es2 := ["java/lang/IllegalArgumentException"]) (by decide) hr)) fun r hr => nv_of hr
theorem o_addFuel {S : List Int32} {d : Nat} (hd : 12 ≤ d) {n : Nat} {f sv : Int32} {K V : kK} {H : List kK} {T : List Int32} {s : xS} (hW : LW n f sv K V H T s) (hn : n ≤ 1000000) (a : Nat) (ha : a ≤ 1000) (b : Nat) (hb : b ≤ 1000) : yT S d 127 [.ref 0, .int (nI a), .int (nI b)] s (fun r => ∃ s2, LW (n + 1) f sv ((cmdX 5 a b K).2) V (opH 5 a b K H) T s2 ∧ r = (.inl (some (.int (opV 5 a b K))), s2)) := by
  obtain ⟨d, rfl⟩ : ∃ e, d = e + 1 := ⟨d - 1, by omega⟩
  exact yT_mono (c_addFuel (LW_rcv hW) (yT_mono (p_addFuel (by omega) hW hn a ha b hb) fun r hr => pub_mono (Es2 := ["java/lang/IllegalArgumentException", "java/lang/IllegalStateException"]) (by decide) hr)) fun r hr => nv_of hr
theorem o_setPrice {S : List Int32} {d : Nat} (hd : 12 ≤ d) {n : Nat} {f sv : Int32} {K V : kK} {H : List kK} {T : List Int32} {s : xS} (hW : LW n f sv K V H T s) (hn : n ≤ 1000000) (a : Nat) (ha : a ≤ 1000) (b : Nat) (hb : b ≤ 1000) : yT S d 128 [.ref 0, .int (nI a), .int (nI b)] s (fun r => ∃ s2, LW (n + 1) f sv ((cmdX 6 a b K).2) V (opH 6 a b K H) T s2 ∧ r = (.inl (some (.int (opV 6 a b K))), s2)) := by
  obtain ⟨d, rfl⟩ : ∃ e, d = e + 1 := ⟨d - 1, by omega⟩
  exact yT_mono (c_setPrice (LW_rcv hW) (yT_mono (p_setPrice (by omega) hW hn a ha b hb) fun r hr => pub_mono (Es2 := ["java/lang/IllegalArgumentException"]) (by decide) hr)) fun r hr => nv_of hr
theorem o_feed {S : List Int32} {d : Nat} (hd : 12 ≤ d) {n : Nat} {f sv : Int32} {K V : kK} {H : List kK} {T : List Int32} {s : xS} (hW : LW n f sv K V H T s) (hn : n ≤ 1000000) (a : Nat) (ha : a ≤ 1000) : yT S d 129 [.ref 0, .int (nI a)] s (fun r => ∃ s2, LW (n + 1) f sv ((cmdX 7 a 0 K).2) V (opH 7 a 0 K H) T s2 ∧ r = (.inl (some (.int (opV 7 a 0 K))), s2)) := by
  obtain ⟨d, rfl⟩ : ∃ e, d = e + 1 := ⟨d - 1, by omega⟩
  exact yT_mono (c_feed (LW_rcv hW) (yT_mono (p_feed (by omega) hW hn a ha) fun r hr => pub_mono (Es2 := ["java/lang/IllegalArgumentException", "java/lang/UnsupportedOperationException", "java/lang/IllegalStateException"]) (by decide) hr)) fun r hr => nv_of hr
theorem o_passHours {S : List Int32} {d : Nat} (hd : 12 ≤ d) {n : Nat} {f sv : Int32} {K V : kK} {H : List kK} {T : List Int32} {s : xS} (hW : LW n f sv K V H T s) (hn : n ≤ 1000000) (a : Nat) (ha : a ≤ 1000) : yT S d 126 [.ref 0, .int (nI a)] s (fun r => ∃ s2, LW (n + 1) f sv ((cmdX 8 a 0 K).2) V (opH 8 a 0 K H) T s2 ∧ r = (.inl (some (.int (opV 8 a 0 K))), s2)) := by
  obtain ⟨d, rfl⟩ : ∃ e, d = e + 1 := ⟨d - 1, by omega⟩
  exact yT_mono (c_passHours (LW_rcv hW) (yT_mono (p_passHours (by omega) hW hn a ha) fun r hr => pub_mono (Es2 := ["java/lang/IllegalArgumentException"]) (by decide) hr)) fun r hr => nv_of hr
theorem o_buildWall {S : List Int32} {d : Nat} (hd : 12 ≤ d) {n : Nat} {f sv : Int32} {K V : kK} {H : List kK} {T : List Int32} {s : xS} (hW : LW n f sv K V H T s) (hn : n ≤ 1000000) (a : Nat) (ha : a ≤ 1000) (b : Nat) (hb : b ≤ 1000) : yT S d 130 [.ref 0, .int (nI a), .int (nI b)] s (fun r => ∃ s2, LW (n + 1) f sv ((cmdX 9 a b K).2) V (opH 9 a b K H) T s2 ∧ r = (.inl (some (.int (opV 9 a b K))), s2)) := by
  obtain ⟨d, rfl⟩ : ∃ e, d = e + 1 := ⟨d - 1, by omega⟩
  exact yT_mono (c_buildWall (LW_rcv hW) (yT_mono (p_buildWall (by omega) hW hn a ha b hb) fun r hr => pub_mono (Es2 := ["java/lang/IllegalArgumentException", "java/util/NoSuchElementException", "java/lang/IllegalStateException"]) (by decide) hr)) fun r hr => nv_of hr
theorem q_fireV {S : List Int32} {d : Nat} (hd : 8 ≤ d) {e f sv : Int32} {K V : kK} {ol sz : Nat} {R : Nat → kK} {T : List Int32} {h : xH} (hW2 : W2 e f sv K V ol sz R T h) (k0 : Nat × Nat) : yT S d 73 [.ref 0] (h, k0) (ansP (fireV K) (W2 e f sv K V ol sz R T) k0) := by
  by_cases hf : K.1 1 = -1
  · rw [show fireV K = -5 from if_pos hf]; exact q_fire0 hd hW2 k0 hf
  · rw [show fireV K = K.1 1 from if_neg hf]; exact q_fire hd hW2 k0 hf
theorem o_fire {S : List Int32} {d : Nat} (hd : 12 ≤ d) {n : Nat} {f sv : Int32} {K V : kK} {H : List kK} {T : List Int32} {s : xS} (hW : LW n f sv K V H T s) : yT S d 131 [.ref 0] s (fun r => ∃ s2, LW (n + 1) f sv K V H T s2 ∧ r = (.inl (some (.int (nv (-1000) (fireV K)))), s2)) := by
  obtain ⟨d, rfl⟩ : ∃ e, d = e + 1 := ⟨d - 1, by omega⟩
  obtain ⟨⟨e, ol, sz, R, hw, hh⟩, g1, g2, g3, c1, c2⟩ := id hW
  exact yT_mono (c_fireChamber (LW_rcv hW) (yT_mono (q_fireV (by omega) hw s.2) fun r hr => ans_pub (s := s) (Es := ["java/util/NoSuchElementException"]) (fun E hE => by rw [x5 (fireV_v g1.1.1) E hE]; decide) hh g1 g2 g3 c1 c2 hr)) fun r hr => nv_of hr
theorem o_rank {S : List Int32} {d : Nat} (hd : 12 ≤ d) {n : Nat} {f sv : Int32} {K V : kK} {H : List kK} {T : List Int32} {s : xS} (hW : LW n f sv K V H T s) (x : Int32) : yT S d 132 [.ref 0, .int x] s (fun r => ∃ s2, LW (n + 1) f sv K V H T s2 ∧ r = (.inl (some (.int (nv (-1000) (crk K.2.2.2.1 K.2.2.1 x 8 0)))), s2)) := by
  obtain ⟨d, rfl⟩ : ∃ e, d = e + 1 := ⟨d - 1, by omega⟩
  obtain ⟨⟨e, ol, sz, R, hw, hh⟩, g1, g2, g3, c1, c2⟩ := id hW
  exact yT_mono (c_chamberAtRank (LW_rcv hW) (yT_mono (q_rank (by omega) hw s.2 x) fun r hr => ans_pub (s := s) (Es := ["java/util/NoSuchElementException"]) (fun E hE => by rw [x5 (crk_v _ _ _ 8 0 rfl) E hE]; decide) hh g1 g2 g3 c1 c2 hr)) fun r hr => nv_of hr
theorem o_out {S : List Int32} {d : Nat} (hd : 12 ≤ d) {n : Nat} {f sv : Int32} {K V : kK} {H : List kK} {T : List Int32} {s : xS} (hW : LW n f sv K V H T s) : yT S d 133 [.ref 0] s (fun r => ∃ s2, LW (n + 1) f sv K V H T s2 ∧ r = (.inl (some (.int (nv (-1000) ((tillOut 101 0 K).1)))), s2)) := by
  obtain ⟨d, rfl⟩ : ∃ e, d = e + 1 := ⟨d - 1, by omega⟩
  obtain ⟨⟨e, ol, sz, R, hw, hh⟩, g1, g2, g3, c1, c2⟩ := id hW
  exact yT_mono (c_hoursUntilOut (LW_rcv hW) (yT_mono (q_untilOut (by omega) hw s.2) fun r hr => ans_pub (s := s) (Es := ["java/util/NoSuchElementException"]) (fun E hE => by rw [x5 (tillOut_v K) E hE]; decide) hh g1 g2 g3 c1 c2 hr)) fun r hr => nv_of hr
theorem o_cool {S : List Int32} {d : Nat} (hd : 12 ≤ d) {n : Nat} {f sv : Int32} {K V : kK} {H : List kK} {T : List Int32} {s : xS} (hW : LW n f sv K V H T s) (j : Nat) (hj : j < 8) : yT S d 134 [.ref 0, .int (nI j)] s (fun r => ∃ s2, LW (n + 1) f sv K V H T s2 ∧ r = (.inl (some (.int (nv (-1000) ((tillCool j 101 0 K).1)))), s2)) := by
  obtain ⟨d, rfl⟩ : ∃ e, d = e + 1 := ⟨d - 1, by omega⟩
  obtain ⟨⟨e, ol, sz, R, hw, hh⟩, g1, g2, g3, c1, c2⟩ := id hW
  exact yT_mono (c_hoursUntilCool (LW_rcv hW) (yT_mono (q_untilCool (by omega) hw s.2 j hj) fun r hr => ans_pub (s := s) (Es := ["java/lang/IndexOutOfBoundsException", "java/util/NoSuchElementException"]) (fun E hE => by rw [x5 (tillCool_v j K) E hE]; decide) hh g1 g2 g3 c1 c2 hr)) fun r hr => nv_of hr
theorem o_cost {S : List Int32} {d : Nat} (hd : 12 ≤ d) {n : Nat} {f sv : Int32} {K V : kK} {H : List kK} {T : List Int32} {s : xS} (hW : LW n f sv K V H T s) (u : Nat) (hu : 1 ≤ u ∧ u ≤ 200) : yT S d 135 [.ref 0, .int (nI u)] s (fun r => ∃ s2, LW (n + 1) f sv K V H T s2 ∧ r = (.inl (some (.int (nv (-1000) (tbl K u)))), s2)) := by
  obtain ⟨d, rfl⟩ : ∃ e, d = e + 1 := ⟨d - 1, by omega⟩
  obtain ⟨⟨e, ol, sz, R, hw, hh⟩, g1, g2, g3, c1, c2⟩ := id hW
  exact yT_mono (c_lowestCost (LW_rcv hW) (yT_mono (q_lowest (by omega) hw s.2 u hu) fun r hr => ans_pub (s := s) (Es := ["java/lang/IllegalArgumentException", "java/lang/UnsupportedOperationException"]) (fun E hE => by rw [x4 (v := tbl K u) (by rw [tbl_eq g1.1.2 hu.1]; exact bcst_v g1.1.2 u) E hE]; decide) hh g1 g2 g3 c1 c2 hr)) fun r hr => nv_of hr
theorem o_costT {S : List Int32} {d : Nat} (hd : 12 ≤ d) {n : Nat} {f sv : Int32} {K V : kK} {H : List kK} {T : List Int32} {s : xS} (hW : LW n f sv K V H T s) (u : Nat) (hu : 1 ≤ u ∧ u ≤ 200) : yT S d 136 [.ref 0, .int (nI u)] s (fun r => ∃ s2, LW (n + 1) f sv K V H T s2 ∧ r = (.inl (some (.int (nv (-1000) (bcst K u)))), s2)) := by
  obtain ⟨d, rfl⟩ : ∃ e, d = e + 1 := ⟨d - 1, by omega⟩
  obtain ⟨⟨e, ol, sz, R, hw, hh⟩, g1, g2, g3, c1, c2⟩ := id hW
  exact yT_mono (c_lowestCostByTrying (LW_rcv hW) (yT_mono (q_lowestT (by omega) hw s.2 u hu) fun r hr => ans_pub (s := s) (Es := ["java/lang/IllegalArgumentException", "java/lang/UnsupportedOperationException"]) (fun E hE => by rw [x4 (bcst_v g1.1.2 u) E hE]; decide) hh g1 g2 g3 c1 c2 hr)) fun r hr => nv_of hr
theorem o_pieces0 {S : List Int32} {d : Nat} (hd : 12 ≤ d) {n : Nat} {f sv : Int32} {K V : kK} {H : List kK} {T : List Int32} {s : xS} (hW : LW n f sv K V H T s) (u : Nat) (hu : 1 ≤ u ∧ u ≤ 200) : yT S d 137 [.ref 0, .int 119, .int (nI u)] s (fun r => ∃ s2, LW (n + 1) f sv K V H T s2 ∧ r = (.inl (some (.int (nv (-1000) (bpc K u 0)))), s2)) := by
  obtain ⟨d, rfl⟩ : ∃ e, d = e + 1 := ⟨d - 1, by omega⟩
  obtain ⟨⟨e, ol, sz, R, hw, hh⟩, g1, g2, g3, c1, c2⟩ := id hW
  exact yT_mono (c_piecesInMixture (LW_rcv hW) (yT_mono (q_pieces0 (by omega) hw s.2 u hu) fun r hr => ans_pub (s := s) (Es := ["java/lang/IllegalArgumentException", "java/lang/UnsupportedOperationException"]) (fun E hE => by rw [x4 (bpc_v g1.1.2 u (by decide)) E hE]; decide) hh g1 g2 g3 c1 c2 hr)) fun r hr => nv_of hr
theorem o_pieces1 {S : List Int32} {d : Nat} (hd : 12 ≤ d) {n : Nat} {f sv : Int32} {K V : kK} {H : List kK} {T : List Int32} {s : xS} (hW : LW n f sv K V H T s) (u : Nat) (hu : 1 ≤ u ∧ u ≤ 200) : yT S d 137 [.ref 0, .int 99, .int (nI u)] s (fun r => ∃ s2, LW (n + 1) f sv K V H T s2 ∧ r = (.inl (some (.int (nv (-1000) (bpc K u 1)))), s2)) := by
  obtain ⟨d, rfl⟩ : ∃ e, d = e + 1 := ⟨d - 1, by omega⟩
  obtain ⟨⟨e, ol, sz, R, hw, hh⟩, g1, g2, g3, c1, c2⟩ := id hW
  exact yT_mono (c_piecesInMixture (LW_rcv hW) (yT_mono (q_pieces1 (by omega) hw s.2 u hu) fun r hr => ans_pub (s := s) (Es := ["java/lang/IllegalArgumentException", "java/lang/UnsupportedOperationException"]) (fun E hE => by rw [x4 (bpc_v g1.1.2 u (by decide)) E hE]; decide) hh g1 g2 g3 c1 c2 hr)) fun r hr => nv_of hr
theorem o_pieces2 {S : List Int32} {d : Nat} (hd : 12 ≤ d) {n : Nat} {f sv : Int32} {K V : kK} {H : List kK} {T : List Int32} {s : xS} (hW : LW n f sv K V H T s) (u : Nat) (hu : 1 ≤ u ∧ u ≤ 200) : yT S d 137 [.ref 0, .int 111, .int (nI u)] s (fun r => ∃ s2, LW (n + 1) f sv K V H T s2 ∧ r = (.inl (some (.int (nv (-1000) (bpc K u 2)))), s2)) := by
  obtain ⟨d, rfl⟩ : ∃ e, d = e + 1 := ⟨d - 1, by omega⟩
  obtain ⟨⟨e, ol, sz, R, hw, hh⟩, g1, g2, g3, c1, c2⟩ := id hW
  exact yT_mono (c_piecesInMixture (LW_rcv hW) (yT_mono (q_pieces2 (by omega) hw s.2 u hu) fun r hr => ans_pub (s := s) (Es := ["java/lang/IllegalArgumentException", "java/lang/UnsupportedOperationException"]) (fun E hE => by rw [x4 (bpc_v g1.1.2 u (by decide)) E hE]; decide) hh g1 g2 g3 c1 c2 hr)) fun r hr => nv_of hr
theorem o_fewest {S : List Int32} {d : Nat} (hd : 12 ≤ d) {n : Nat} {f sv : Int32} {K V : kK} {H : List kK} {T : List Int32} {s : xS} (hW : LW n f sv K V H T s) (w k : Nat) (hu : 2 ≤ w ∧ w ≤ 18) (hk : 1 ≤ k ∧ k ≤ 8) : yT S d 138 [.ref 0, .int (nI w), .int (nI k)] s (fun r => ∃ s2, LW (n + 1) f sv K V H T s2 ∧ r = (.inl (some (.int (nv (-1000) (fwb w k)))), s2)) := by
  obtain ⟨d, rfl⟩ : ∃ e, d = e + 1 := ⟨d - 1, by omega⟩
  obtain ⟨⟨e, ol, sz, R, hw, hh⟩, g1, g2, g3, c1, c2⟩ := id hW
  exact yT_mono (c_fewestBricks (LW_rcv hW) (yT_mono (q_fewest (by omega) hw s.2 w k hu hk) fun r hr => ans_pub (s := s) (Es := ["java/lang/IllegalArgumentException", "java/util/NoSuchElementException"]) (fun E hE => by rw [x5 (fwb_v (by omega) (by omega)) E hE]; decide) hh g1 g2 g3 c1 c2 hr)) fun r hr => nv_of hr
def failV (f : Int32) : Int32 := if f = -1 then -5 else f
theorem q_failV {S : List Int32} {d : Nat} (hd : 8 ≤ d) {e f sv : Int32} {K V : kK} {ol sz : Nat} {R : Nat → kK} {T : List Int32} {h : xH} (hW2 : W2 e f sv K V ol sz R T h) (k0 : Nat × Nat) : yT S d 102 [.ref 0] (h, k0) (ansP (failV f) (W2 e f sv K V ol sz R T) k0) := by
  by_cases hf : f = -1
  · rw [show failV f = -5 from if_pos hf]; exact q_failed0 hd hW2 k0 hf
  · rw [show failV f = f from if_neg hf]; exact q_failed hd hW2 k0 hf
theorem o_failed {S : List Int32} {d : Nat} (hd : 12 ≤ d) {n : Nat} {f sv : Int32} {K V : kK} {H : List kK} {T : List Int32} {s : xS} (hW : LW n f sv K V H T s) (hf : failV f = -5 ∨ ∃ j : Nat, failV f = nI j ∧ j < 2 ^ 31) : yT S d 140 [.ref 0] s (fun r => ∃ s2, LW (n + 1) f sv K V H T s2 ∧ r = (.inl (some (.int (nv (-1000) (failV f)))), s2)) := by
  obtain ⟨d, rfl⟩ : ∃ e, d = e + 1 := ⟨d - 1, by omega⟩
  obtain ⟨⟨e, ol, sz, R, hw, hh⟩, g1, g2, g3, c1, c2⟩ := id hW
  exact yT_mono (c_failedCommand (LW_rcv hW) (yT_mono (q_failV (by omega) hw s.2) fun r hr => ans_pub (s := s) (Es := ["java/util/NoSuchElementException"]) (fun E hE => by rw [x5 hf E hE]; decide) hh g1 g2 g3 c1 c2 hr)) fun r hr => nv_of hr
