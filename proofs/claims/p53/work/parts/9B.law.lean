/-! THE LAW as a whole. -/
theorem l_law4 {S : List Int32} {d : Nat} (hd : 28 ≤ d) {Q : xR → Prop} (hQ : ∀ s2 : xS, s2.2.1 ≤ 200000 → s2.2.2 ≤ 3000000 → Q (.inl (some (.int 1)), s2)) {f : Int32} {K : kK} {H : List kK} (a2 a6 : Int32) (x7 : Value) (s : xS) (hW : LW 10000 f 1 K K H [] s) : yW S d 153 (240, [.ref xSp, .ref 0, .int a2, .int 1, .long (dgs K), xno, .int a6, x7], [], s) Q := by
  refine y_go rfl rfl ?_
  refine y_go rfl rfl ?_
  refine y_go rfl rfl ?_
  refine y_S1e rfl rfl (Nat.le_of_ble_eq_true rfl) (Nat.le_of_ble_eq_true rfl) rfl rfl (o_addFuel (by omega) hW (by omega) 119 (by omega) 30 (by omega)) (fun s1 h1 => ?_)
  obtain ⟨K2, H2, h2⟩ : ∃ K9 H9, LW _ _ _ K9 _ H9 [] s1 := ⟨_, _, h1⟩
  refine y_go rfl rfl ?_
  refine y_go rfl rfl ?_
  refine y_go rfl rfl ?_
  refine y_S1e rfl rfl (Nat.le_of_ble_eq_true rfl) (Nat.le_of_ble_eq_true rfl) rfl rfl (o_feed (by omega) h2 (by omega) 80 (by omega)) (fun s3 h3 => ?_)
  obtain ⟨K4, H4, h4⟩ : ∃ K9 H9, LW _ _ _ K9 _ H9 [] s3 := ⟨_, _, h3⟩
  refine y_go rfl rfl ?_
  refine y_go rfl rfl ?_
  refine y_go rfl rfl ?_
  refine y_go rfl rfl ?_
  refine y_S1e rfl rfl (Nat.le_of_ble_eq_true rfl) (Nat.le_of_ble_eq_true rfl) rfl rfl (o_load (by omega) h4 (by omega) 3 (by omega) 9 (by omega)) (fun s5 h5 => ?_)
  obtain ⟨K6, H6, h6⟩ : ∃ K9 H9, LW _ _ _ K9 _ H9 [] s5 := ⟨_, _, h5⟩
  refine y_go rfl rfl ?_
  refine y_go rfl rfl ?_
  refine y_go rfl rfl ?_
  refine y_go rfl rfl ?_
  refine y_S1e rfl rfl (Nat.le_of_ble_eq_true rfl) (Nat.le_of_ble_eq_true rfl) rfl rfl (o_load (by omega) h6 (by omega) 4 (by omega) 9 (by omega)) (fun s7 h7 => ?_)
  obtain ⟨K8, H8, h8⟩ : ∃ K9 H9, LW _ _ _ K9 _ H9 [] s7 := ⟨_, _, h7⟩
  refine y_go rfl rfl ?_
  refine y_go rfl rfl ?_
  refine y_go rfl rfl ?_
  refine y_S1e rfl rfl (Nat.le_of_ble_eq_true rfl) (Nat.le_of_ble_eq_true rfl) rfl rfl (o_light (by omega) h8 (by omega) 3 (by omega)) (fun s9 h9 => ?_)
  obtain ⟨K10, H10, h10⟩ : ∃ K9 H9, LW _ _ _ K9 _ H9 [] s9 := ⟨_, _, h9⟩
  refine y_go rfl rfl ?_
  refine y_go rfl rfl ?_
  refine y_if_eq rfl (fun c => absurd c (by decide)) (fun _ => ?_)
  refine y_go rfl rfl ?_
  refine y_S1e rfl rfl (Nat.le_of_ble_eq_true rfl) (Nat.le_of_ble_eq_true rfl) rfl rfl (o_fit (by omega) h10 (by omega)) (fun s11 hz11 => ?_)
  obtain ⟨H11, h11⟩ := hz11
  refine y_if_eq rfl (fun c => absurd c (by decide)) (fun _ => ?_)
  refine y_go rfl rfl ?_
  refine y_go rfl rfl ?_
  refine y_go (g' := (295, [.ref xSp, .ref 0, .int a2, .int 1, .long (dgs K), xno, .int a6, x7], _, _)) rfl rfl ?_
  refine y_go rfl rfl ?_
  refine y_if_eq rfl (fun c => absurd c (by decide)) (fun _ => ?_)
  refine y_go rfl rfl ?_
  refine y_S1e rfl rfl (Nat.le_of_ble_eq_true rfl) (Nat.le_of_ble_eq_true rfl) rfl rfl (o_restored (by omega) h11 (by decide)) (fun s12 h12 => ?_)
  refine y_if_ne rfl (fun c => absurd (by decide) c) (fun _ => ?_)
  refine y_go rfl rfl ?_
  refine y_S1e rfl rfl (Nat.le_of_ble_eq_true rfl) (Nat.le_of_ble_eq_true rfl) rfl rfl (o_digest (by omega) h12) (fun s13 h13 => ?_)
  refine y_go rfl rfl ?_
  refine y_go (g' := (313, [.ref xSp, .ref 0, .int a2, .int 1, .long (dgs K), xno, .int a6, x7], [.int (lg_cmp (dgs K) (dgs K))], _)) rfl rfl ?_
  rw [lgc_0]
  refine y_if_ne rfl (fun c => absurd (by decide) c) (fun _ => ?_)
  refine y_go rfl rfl ?_
  refine y_S1e rfl rfl (Nat.le_of_ble_eq_true rfl) (Nat.le_of_ble_eq_true rfl) rfl rfl (o_undo0 (by omega) h13 rfl) (fun s14 h14 => ?_)
  refine y_go rfl rfl ?_
  refine y_ic_ne rfl (fun c => absurd (by decide) c) (fun _ => ?_)
  refine y_go rfl rfl ?_
  refine y_go rfl rfl ?_
  exact y_ireturn rfl rfl rfl (hQ _ (Nat.le_trans h14.2.2.2.2.1 (by omega)) (Nat.le_trans h14.2.2.2.2.2 (by omega)))
theorem l_law3 {S : List Int32} {d : Nat} (hd : 28 ≤ d) {Q : xR → Prop} (hQ : ∀ s2 : xS, s2.2.1 ≤ 200000 → s2.2.2 ≤ 3000000 → Q (.inl (some (.int 1)), s2)) {K : kK} (a2 : Int32) : ∀ (i0 i : Nat), i + i0 = 29 → ∀ (f : Int32) (H : List kK) (x7 : Value) (s : xS), LW (4900 + 170 * i) f 1 K K H [] s → yW S d 153 (159, [.ref xSp, .ref 0, .int a2, .int 1, .long (dgs K), xno, .int (nI i), x7], [], s) Q := by
  intro i0
  induction i0 with
  | zero =>
    intro i hi f H x7 s hW
    obtain rfl : i = 29 := by omega
    obtain ⟨ta, la, pa1, pa2, pa3, pa4⟩ := prg_arr
    refine y_go rfl rfl ?_
    refine y_if_eq rfl (fun c => absurd c (by decide)) (fun _ => ?_)
    refine y_go rfl rfl ?_
    refine y_go rfl rfl ?_
    refine y_alenc (n := 29) rfl (xnoh (LW_len hW) (by decide)) pa1 pa3 ?_
    refine y_ic_ge rfl (fun _ => ?_) (fun c => absurd c (nI_nlt (a := 29) (b := 29) (Nat.le_refl _) (by decide)))
    exact l_law4 hd hQ _ _ _ _ (LW_mono (by omega) hW)
  | succ i0 ih =>
    intro i hi f H x7 s hW
    have hlt : i < 29 := by omega
    obtain ⟨ta, la, pa1, pa2, pa3, pa4⟩ := prg_arr
    obtain ⟨N, s5, l5, r1, r2, r3, r4, r5, r6, r7⟩ := prg_all i hlt
    refine y_go rfl rfl ?_
    refine y_if_eq rfl (fun c => absurd c (by decide)) (fun _ => ?_)
    refine y_go rfl rfl ?_
    refine y_go rfl rfl ?_
    refine y_alenc (n := 29) rfl (xnoh (LW_len hW) (by decide)) pa1 pa3 ?_
    refine y_ic_ge rfl (fun c => absurd (nI_lt (a := i) (b := 29) hlt (by decide)) c) (fun _ => ?_)
    refine y_go rfl rfl ?_
    refine y_go rfl rfl ?_
    refine y_go rfl rfl ?_
    refine y_aaldc (j := i) rfl (xnoh (LW_len hW) (by decide)) pa1 pa2 (xidx_nI (by omega)) (pa4 i hlt) ?_
    refine y_S1e rfl rfl (Nat.le_of_ble_eq_true rfl) (Nat.le_of_ble_eq_true rfl) rfl rfl (o_typed (by omega) hW rfl N r2 r3 r1) (fun s1 h1 => ?_)
    refine y_callS rfl rfl (Nat.le_of_ble_eq_true rfl) (Nat.le_of_ble_eq_true rfl) rfl rfl (o_run (by omega) h1 (by omega) N rfl r3 s5 l5 r4 r5 r6 r7) (fun q hq => ?_)
    rcases hq with ⟨s2, ⟨K2, h2⟩, rfl⟩ | ⟨s2, ⟨j, hj, h2⟩, rfl⟩
    · refine Or.inl ⟨_, rfl, ?_⟩
      show yW S d 153 (185, [.ref xSp, .ref 0, .int a2, .int 1, .long (dgs K), xno, .int (nI i), x7], [.int (nI l5.length)], s2) Q
      refine y_go (g' := (187, [.ref xSp, .ref 0, .int a2, .int 1, .long (dgs K), xno, .int (nI i), .int (nI l5.length)], _, _)) rfl rfl ?_
      refine y_go rfl rfl ?_
      refine y_go rfl rfl ?_
      refine y_ic_ne rfl (fun _ => ?_) (fun c => absurd c (nI_big (by omega)))
      refine y_go rfl rfl ?_
      refine y_S1e rfl rfl (Nat.le_of_ble_eq_true rfl) (Nat.le_of_ble_eq_true rfl) rfl rfl (o_chambers (by omega) h2) (fun s3 h3 => ?_)
      refine y_if_eq rfl (fun c => absurd c (by decide)) (fun _ => ?_)
      refine y_go rfl rfl ?_
      refine y_S1e rfl rfl (Nat.le_of_ble_eq_true rfl) (Nat.le_of_ble_eq_true rfl) rfl rfl (o_undo (by omega) h3 K (H.take 7) rfl) (fun s4 h4 => ?_)
      refine y_if_lt rfl (fun c => absurd c (nI_pos (by rw [List.length_take]; omega))) (fun _ => ?_)
      refine y_go rfl rfl ?_
      refine y_S1e rfl rfl (Nat.le_of_ble_eq_true rfl) (Nat.le_of_ble_eq_true rfl) rfl rfl (o_digest (by omega) h4) (fun s5 h5 => ?_)
      refine y_go rfl rfl ?_
      refine y_go (g' := (225, [.ref xSp, .ref 0, .int a2, .int 1, .long (dgs K), xno, .int (nI i), .int (nI l5.length)], [.int (lg_cmp (dgs K) (dgs K))], _)) rfl rfl ?_
      rw [lgc_0]
      refine y_if_ne rfl (fun c => absurd (by decide) c) (fun _ => ?_)
      refine y_go rfl rfl ?_
      refine y_go rfl rfl ?_
      refine y_go (g' := (234, [.ref xSp, .ref 0, .int a2, .int 1, .long (dgs K), xno, .int (nI i), .int (nI l5.length)], _, _)) rfl rfl ?_
      refine y_go (g' := (237, [.ref xSp, .ref 0, .int a2, .int 1, .long (dgs K), xno, .int (nI (i + 1)), .int (nI l5.length)], _, _)) rfl (by rw [← nI_1 i]; rfl) ?_
      refine y_go rfl rfl ?_
      exact ih (i + 1) (by omega) _ _ _ _ (LW_mono (by omega) h5)
    · refine Or.inl ⟨_, rfl, ?_⟩
      show yW S d 153 (185, [.ref xSp, .ref 0, .int a2, .int 1, .long (dgs K), xno, .int (nI i), x7], [.int (-100000000)], s2) Q
      refine y_go (g' := (187, [.ref xSp, .ref 0, .int a2, .int 1, .long (dgs K), xno, .int (nI i), .int (-100000000)], _, _)) rfl rfl ?_
      refine y_go rfl rfl ?_
      refine y_go rfl rfl ?_
      refine y_ic_ne rfl (fun c => absurd (rfl) c) (fun _ => ?_)
      refine y_go rfl rfl ?_
      have ef : failV (nI j) = nI j := if_neg (fun z => nI_pos (n := j) (by omega) (by rw [z]; decide))
      refine y_S1e rfl rfl (Nat.le_of_ble_eq_true rfl) (Nat.le_of_ble_eq_true rfl) rfl rfl (o_failed (by omega) h2 (Or.inr ⟨j, ef, by omega⟩)) (fun s3 h3 => ?_)
      rw [ef, nv_nI (by omega)]
      refine y_if_lt rfl (fun c => absurd c (nI_pos (by omega))) (fun _ => ?_)
      refine y_go rfl rfl ?_
      refine y_go rfl rfl ?_
      refine y_S1e rfl rfl (Nat.le_of_ble_eq_true rfl) (Nat.le_of_ble_eq_true rfl) rfl rfl (o_digest (by omega) h3) (fun s4 h4 => ?_)
      refine y_go rfl rfl ?_
      refine y_go (g' := (225, [.ref xSp, .ref 0, .int a2, .int 1, .long (dgs K), xno, .int (nI i), .int (-100000000)], [.int (lg_cmp (dgs K) (dgs K))], _)) rfl rfl ?_
      rw [lgc_0]
      refine y_if_ne rfl (fun c => absurd (by decide) c) (fun _ => ?_)
      refine y_go rfl rfl ?_
      refine y_go rfl rfl ?_
      refine y_go (g' := (234, [.ref xSp, .ref 0, .int a2, .int 1, .long (dgs K), xno, .int (nI i), .int (-100000000)], _, _)) rfl rfl ?_
      refine y_go (g' := (237, [.ref xSp, .ref 0, .int a2, .int 1, .long (dgs K), xno, .int (nI (i + 1)), .int (-100000000)], _, _)) rfl (by rw [← nI_1 i]; rfl) ?_
      refine y_go rfl rfl ?_
      exact ih (i + 1) (by omega) _ _ _ _ (LW_mono (by omega) h4)
theorem l_law2 {S : List Int32} {d : Nat} (hd : 28 ≤ d) {Q : xR → Prop} (hQ : ∀ s2 : xS, s2.2.1 ≤ 200000 → s2.2.2 ≤ 3000000 → Q (.inl (some (.int 1)), s2)) {f sv : Int32} {K V : kK} {H : List kK} (a2 a3 : Int32) (x4 x5 : Value) (s : xS) (hW : LW 4000 f sv K V H [] s) : yW S d 153 (136, [.ref xSp, .ref 0, .int a2, .int a3, x4, x5, xno, xno], [], s) Q := by
  refine y_go rfl rfl ?_
  refine y_S1e rfl rfl (Nat.le_of_ble_eq_true rfl) (Nat.le_of_ble_eq_true rfl) rfl rfl (o_fit (by omega) hW (by omega)) (fun s1 hz1 => ?_)
  obtain ⟨H1, h1⟩ := hz1
  refine y_go (g' := (141, [.ref xSp, .ref 0, .int a2, .int 1, x4, x5, xno, xno], _, _)) rfl rfl ?_
  refine y_go rfl rfl ?_
  refine y_S1e rfl rfl (Nat.le_of_ble_eq_true rfl) (Nat.le_of_ble_eq_true rfl) rfl rfl (o_runBad (by omega) h1 [] rfl (fun i hi => absurd hi (Nat.not_lt_zero _)) _ _ prg_29 (by decide) (by decide)) (fun s2 h2 => ?_)
  refine y_go rfl rfl ?_
  refine y_go rfl rfl ?_
  refine y_S1e rfl rfl (Nat.le_of_ble_eq_true rfl) (Nat.le_of_ble_eq_true rfl) rfl rfl (o_digest (by omega) h2) (fun s3 h3 => ?_)
  refine y_go (g' := (152, [.ref xSp, .ref 0, .int a2, .int 1, .long (dgs K), xno, xno, xno], _, _)) rfl rfl ?_
  refine y_go rfl rfl ?_
  refine y_V0e rfl (Nat.le_of_ble_eq_true rfl) (Nat.le_of_ble_eq_true rfl) rfl rfl (LW_rcv h3) (t_save (by omega) h3) (fun s4 h4 => ?_)
  refine y_go rfl rfl ?_
  refine y_go (g' := (159, [.ref xSp, .ref 0, .int a2, .int 1, .long (dgs K), xno, .int 0, xno], _, _)) rfl rfl ?_
  exact l_law3 hd hQ _ 29 0 rfl _ _ _ _ (LW_mono (by omega) h4)
theorem l_law1 {S : List Int32} {d : Nat} (hd : 28 ≤ d) (hS : S.length < 2 ^ 31) {Q : xR → Prop} (hQ : ∀ s2 : xS, s2.2.1 ≤ 200000 → s2.2.2 ≤ 3000000 → Q (.inl (some (.int 1)), s2)) (ac : Nat) (hac : ac ≤ 36) : ∀ (i0 i : Nat), i + i0 = ac → ∀ (f sv : Int32) (K V : kK) (H : List kK) (x4 x5 : Value) (s : xS), LW (100 + 102 * i) f sv K V H [] s → yW S d 153 (93, [.ref xSp, .ref 0, .int (nI ac), .int (nI i), x4, x5, xno, xno], [], s) Q := by
  intro i0
  induction i0 with
  | zero =>
    intro i hi f sv K V H x4 x5 s hW
    obtain rfl : i = ac := by omega
    refine y_go rfl rfl ?_
    refine y_go rfl rfl ?_
    refine y_ic_ge rfl (fun _ => ?_) (fun c => absurd c (nI_nlt (Nat.le_refl _) (by omega)))
    exact l_law2 hd hQ _ _ _ _ _ (LW_mono (by omega) hW)
  | succ i0 ih =>
    intro i hi f sv K V H x4 x5 s hW
    have hlt : i < ac := by omega
    refine y_go rfl rfl ?_
    refine y_go rfl rfl ?_
    refine y_ic_ge rfl (fun c => absurd (nI_lt hlt (by omega)) c) (fun _ => ?_)
    refine y_go rfl rfl ?_
    refine y_S1e rfl rfl (Nat.le_of_ble_eq_true rfl) (Nat.le_of_ble_eq_true rfl) rfl rfl (o_digest (by omega) hW) (fun s1 h1 => ?_)
    refine y_go (g' := (104, [.ref xSp, .ref 0, .int (nI ac), .int (nI i), .long (dgs K), xno, xno, xno], _, _)) rfl rfl ?_
    refine y_go rfl rfl ?_
    refine y_go rfl rfl ?_
    refine y_go rfl rfl ?_
    obtain ⟨c2, e2⟩ := o_cell (S := S) (d := d) (by omega) hS (LW_len h1) i (by omega)
    refine y_S1 rfl rfl (Nat.le_of_ble_eq_true rfl) (Nat.le_of_ble_eq_true rfl) rfl rfl e2 ?_
    refine y_S1e rfl rfl (Nat.le_of_ble_eq_true rfl) (Nat.le_of_ble_eq_true rfl) rfl rfl (o_act (by omega) h1 (by omega) _) (fun z hz => ?_)
    obtain ⟨f2, sv2, K2, V2, H2, h9, hk9⟩ := hz
    obtain ⟨s9, v9⟩ := z
    dsimp only at h9 hk9
    show yW S d 153 (113, [.ref xSp, .ref 0, .int (nI ac), .int (nI i), .long (dgs K), xno, xno, xno], [.int v9], s9) Q
    by_cases q : v9 = -100000000
    · have hk8 := hk9 q
      subst hk8
      refine y_go rfl rfl ?_
      refine y_ic_ne rfl (fun c => absurd (q) c) (fun _ => ?_)
      refine y_go rfl rfl ?_
      refine y_S1e rfl rfl (Nat.le_of_ble_eq_true rfl) (Nat.le_of_ble_eq_true rfl) rfl rfl (o_digest (by omega) h9) (fun s21 h21 => ?_)
      refine y_go rfl rfl ?_
      refine y_go (g' := (125, [.ref xSp, .ref 0, .int (nI ac), .int (nI i), .long (dgs K2), xno, xno, xno], [.int (lg_cmp (dgs K2) (dgs K2))], _)) rfl rfl ?_
      rw [lgc_0]
      refine y_if_eq rfl (fun _ => ?_) (fun c => absurd (by decide) c)
      refine y_go (g' := (133, [.ref xSp, .ref 0, .int (nI ac), .int (nI (i + 1)), .long (dgs K2), xno, xno, xno], _, _)) rfl (by rw [← nI_1 i]; rfl) ?_
      refine y_go rfl rfl ?_
      exact ih (i + 1) (by omega) _ _ _ _ _ _ _ _ (LW_mono (by omega) h21)
    · refine y_go rfl rfl ?_
      refine y_ic_ne rfl (fun _ => ?_) (fun c => absurd c (q))
      refine y_go (g' := (133, [.ref xSp, .ref 0, .int (nI ac), .int (nI (i + 1)), .long (dgs K), xno, xno, xno], _, _)) rfl (by rw [← nI_1 i]; rfl) ?_
      refine y_go rfl rfl ?_
      exact ih (i + 1) (by omega) _ _ _ _ _ _ _ _ (LW_mono (by omega) h9)
theorem o_law {S : List Int32} {d : Nat} (hd : 30 ≤ d) (hS : S.length < 2 ^ 31) : yT S d 153 [.ref xSp] ([], 0, 0) (fun r => ∃ s2 : xS, (s2.2.1 ≤ 200000 ∧ s2.2.2 ≤ 3000000) ∧ r = (.inl (some (.int 1)), s2)) := by
  obtain ⟨d, rfl⟩ : ∃ e, d = e + 1 := ⟨d - 1, by omega⟩
  refine yT_e (Nat.le_of_ble_eq_true rfl) ?_
  generalize hQd : (fun r : xR => ∃ s2 : xS, (s2.2.1 ≤ 200000 ∧ s2.2.2 ≤ 3000000) ∧ r = (.inl (some (.int 1)), s2)) = Q
  have hQ : ∀ s2 : xS, s2.2.1 ≤ 200000 → s2.2.2 ≤ 3000000 → Q (.inl (some (.int 1)), s2) := fun s2 a b => by subst hQd; exact ⟨s2, ⟨a, b⟩, rfl⟩
  clear hQd
  show yW S d 153 (0, [.ref xSp, xno, xno, xno, xno, xno, xno, xno], [], ([], 0, 0)) _
  refine y_new (n := 0) (fs := xdef 9) (k := 12) rfl rfl (by decide) rfl rfl rfl ?_
  refine y_go rfl rfl ?_
  refine y_I0e rfl rfl (Nat.le_of_ble_eq_true rfl) (Nat.le_of_ble_eq_true rfl) rfl rfl rfl (s_made (by omega) (1, 12)) (fun z hz => ?_)
  obtain ⟨hw, hc1, hc2⟩ := hz
  have hW : LW 30 (-1) 0 K0 K0 [] [] z := LW_mk hw ⟨rfl, fun i hi => absurd hi (Nat.not_lt_zero _)⟩ (GK_mono (Nat.zero_le _) GK_K0) (GK_mono (Nat.zero_le _) GK_K0) (fun X hX => absurd hX List.not_mem_nil) (Nat.le_trans hc1 (by decide)) (Nat.le_trans hc2 (by decide))
  clear hw hc1 hc2
  refine y_go (g' := (8, [.ref xSp, .ref 0, xno, xno, xno, xno, xno, xno], _, _)) rfl rfl ?_
  refine y_go rfl rfl ?_
  refine y_go (g' := (10, [.ref xSp, .ref 0, .int 0, xno, xno, xno, xno, xno], _, _)) rfl rfl ?_
  refine y_go rfl rfl ?_
  refine y_go rfl rfl ?_
  refine y_ic_ge rfl (fun c => absurd (by decide) c) (fun _ => ?_)
  refine y_go rfl rfl ?_
  refine y_go rfl rfl ?_
  refine y_go rfl rfl ?_
  refine y_go rfl rfl ?_
  refine y_go rfl rfl ?_
  obtain ⟨c1, e1⟩ := o_cell (S := S) (d := d) (by omega) hS (LW_len hW) 0 (by omega)
  refine y_S1 rfl rfl (Nat.le_of_ble_eq_true rfl) (Nat.le_of_ble_eq_true rfl) rfl rfl e1 ?_
  refine y_go rfl rfl ?_
  refine y_go rfl rfl ?_
  refine y_go rfl rfl ?_
  obtain ⟨y2, l2, e2⟩ := pk_andE (c1 >>> (4 &&& 31)) (m := 31) 5 (by decide)
  refine y_go (g' := (28, [.ref xSp, .ref 0, .int 0, xno, xno, xno, xno, xno], [.int ((c1 >>> (4 &&& 31)) &&& 31), .int 5, .int 0, .ref 0], _)) rfl rfl ?_
  rw [e2]
  refine y_go (g' := (29, [.ref xSp, .ref 0, .int 0, xno, xno, xno, xno, xno], [.int (nI (5 + y2)), .int 0, .ref 0], _)) rfl (by rw [← nI_add 5 y2]; rfl) ?_
  refine y_S1e rfl rfl (Nat.le_of_ble_eq_true rfl) (Nat.le_of_ble_eq_true rfl) rfl rfl (o_load (by omega) hW (by omega) 0 (by omega) (5 + y2) (by omega)) (fun s3 h3 => ?_)
  obtain ⟨K4, H4, h4⟩ : ∃ K9 H9, LW _ _ _ K9 _ H9 [] s3 := ⟨_, _, h3⟩
  refine y_go rfl rfl ?_
  refine y_go rfl rfl ?_
  refine y_go rfl rfl ?_
  refine y_go rfl rfl ?_
  refine y_V1 (w := .int 119) rfl (Nat.le_of_ble_eq_true rfl) (Nat.le_of_ble_eq_true rfl) rfl rfl (xrcv_k (xnoh (LW_len h4) (by decide)) xstr_49.1) (s_charAt (by omega) (LW_len h4) xstr_49 0 (by decide)) ?_
  refine y_go rfl rfl ?_
  refine y_go rfl rfl ?_
  refine y_go rfl rfl ?_
  obtain ⟨c5, e5⟩ := o_cell (S := S) (d := d) (by omega) hS (LW_len h4) 0 (by omega)
  refine y_S1 rfl rfl (Nat.le_of_ble_eq_true rfl) (Nat.le_of_ble_eq_true rfl) rfl rfl e5 ?_
  refine y_go rfl rfl ?_
  refine y_go rfl rfl ?_
  refine y_go rfl rfl ?_
  obtain ⟨y6, l6, e6⟩ := pk_andE (c5 >>> (6 &&& 31)) (m := 31) 5 (by decide)
  refine y_go (g' := (52, [.ref xSp, .ref 0, .int 0, xno, xno, xno, xno, xno], [.int ((c5 >>> (6 &&& 31)) &&& 31), .int 5, .int 119, .ref 0], _)) rfl rfl ?_
  rw [e6]
  refine y_go (g' := (53, [.ref xSp, .ref 0, .int 0, xno, xno, xno, xno, xno], [.int (nI (5 + y6)), .int 119, .ref 0], _)) rfl (by rw [← nI_add 5 y6]; rfl) ?_
  refine y_S1e rfl rfl (Nat.le_of_ble_eq_true rfl) (Nat.le_of_ble_eq_true rfl) rfl rfl (o_addFuel (by omega) h4 (by omega) 119 (by omega) (5 + y6) (by omega)) (fun s7 h7 => ?_)
  obtain ⟨K8, H8, h8⟩ : ∃ K9 H9, LW _ _ _ K9 _ H9 [] s7 := ⟨_, _, h7⟩
  refine y_go rfl rfl ?_
  refine y_go (g' := (60, [.ref xSp, .ref 0, .int 1, xno, xno, xno, xno, xno], _, _)) rfl rfl ?_
  refine y_go rfl rfl ?_
  refine y_go rfl rfl ?_
  refine y_go rfl rfl ?_
  refine y_ic_ge rfl (fun c => absurd (by decide) c) (fun _ => ?_)
  refine y_go rfl rfl ?_
  refine y_go rfl rfl ?_
  refine y_go rfl rfl ?_
  refine y_go rfl rfl ?_
  refine y_go rfl rfl ?_
  obtain ⟨c9, e9⟩ := o_cell (S := S) (d := d) (by omega) hS (LW_len h8) 1 (by omega)
  refine y_S1 rfl rfl (Nat.le_of_ble_eq_true rfl) (Nat.le_of_ble_eq_true rfl) rfl rfl e9 ?_
  refine y_go rfl rfl ?_
  refine y_go rfl rfl ?_
  refine y_go rfl rfl ?_
  obtain ⟨y10, l10, e10⟩ := pk_andE (c9 >>> (4 &&& 31)) (m := 31) 5 (by decide)
  refine y_go (g' := (28, [.ref xSp, .ref 0, .int 1, xno, xno, xno, xno, xno], [.int ((c9 >>> (4 &&& 31)) &&& 31), .int 5, .int 1, .ref 0], _)) rfl rfl ?_
  rw [e10]
  refine y_go (g' := (29, [.ref xSp, .ref 0, .int 1, xno, xno, xno, xno, xno], [.int (nI (5 + y10)), .int 1, .ref 0], _)) rfl (by rw [← nI_add 5 y10]; rfl) ?_
  refine y_S1e rfl rfl (Nat.le_of_ble_eq_true rfl) (Nat.le_of_ble_eq_true rfl) rfl rfl (o_load (by omega) h8 (by omega) 1 (by omega) (5 + y10) (by omega)) (fun s11 h11 => ?_)
  obtain ⟨K12, H12, h12⟩ : ∃ K9 H9, LW _ _ _ K9 _ H9 [] s11 := ⟨_, _, h11⟩
  refine y_go rfl rfl ?_
  refine y_go rfl rfl ?_
  refine y_go rfl rfl ?_
  refine y_go rfl rfl ?_
  refine y_V1 (w := .int 99) rfl (Nat.le_of_ble_eq_true rfl) (Nat.le_of_ble_eq_true rfl) rfl rfl (xrcv_k (xnoh (LW_len h12) (by decide)) xstr_49.1) (s_charAt (by omega) (LW_len h12) xstr_49 1 (by decide)) ?_
  refine y_go rfl rfl ?_
  refine y_go rfl rfl ?_
  refine y_go rfl rfl ?_
  obtain ⟨c13, e13⟩ := o_cell (S := S) (d := d) (by omega) hS (LW_len h12) 1 (by omega)
  refine y_S1 rfl rfl (Nat.le_of_ble_eq_true rfl) (Nat.le_of_ble_eq_true rfl) rfl rfl e13 ?_
  refine y_go rfl rfl ?_
  refine y_go rfl rfl ?_
  refine y_go rfl rfl ?_
  obtain ⟨y14, l14, e14⟩ := pk_andE (c13 >>> (6 &&& 31)) (m := 31) 5 (by decide)
  refine y_go (g' := (52, [.ref xSp, .ref 0, .int 1, xno, xno, xno, xno, xno], [.int ((c13 >>> (6 &&& 31)) &&& 31), .int 5, .int 99, .ref 0], _)) rfl rfl ?_
  rw [e14]
  refine y_go (g' := (53, [.ref xSp, .ref 0, .int 1, xno, xno, xno, xno, xno], [.int (nI (5 + y14)), .int 99, .ref 0], _)) rfl (by rw [← nI_add 5 y14]; rfl) ?_
  refine y_S1e rfl rfl (Nat.le_of_ble_eq_true rfl) (Nat.le_of_ble_eq_true rfl) rfl rfl (o_addFuel (by omega) h12 (by omega) 99 (by omega) (5 + y14) (by omega)) (fun s15 h15 => ?_)
  obtain ⟨K16, H16, h16⟩ : ∃ K9 H9, LW _ _ _ K9 _ H9 [] s15 := ⟨_, _, h15⟩
  refine y_go rfl rfl ?_
  refine y_go (g' := (60, [.ref xSp, .ref 0, .int 2, xno, xno, xno, xno, xno], _, _)) rfl rfl ?_
  refine y_go rfl rfl ?_
  refine y_go rfl rfl ?_
  refine y_go rfl rfl ?_
  refine y_ic_ge rfl (fun c => absurd (by decide) c) (fun _ => ?_)
  refine y_go rfl rfl ?_
  refine y_go rfl rfl ?_
  refine y_go rfl rfl ?_
  refine y_go rfl rfl ?_
  refine y_go rfl rfl ?_
  obtain ⟨c17, e17⟩ := o_cell (S := S) (d := d) (by omega) hS (LW_len h16) 2 (by omega)
  refine y_S1 rfl rfl (Nat.le_of_ble_eq_true rfl) (Nat.le_of_ble_eq_true rfl) rfl rfl e17 ?_
  refine y_go rfl rfl ?_
  refine y_go rfl rfl ?_
  refine y_go rfl rfl ?_
  obtain ⟨y18, l18, e18⟩ := pk_andE (c17 >>> (4 &&& 31)) (m := 31) 5 (by decide)
  refine y_go (g' := (28, [.ref xSp, .ref 0, .int 2, xno, xno, xno, xno, xno], [.int ((c17 >>> (4 &&& 31)) &&& 31), .int 5, .int 2, .ref 0], _)) rfl rfl ?_
  rw [e18]
  refine y_go (g' := (29, [.ref xSp, .ref 0, .int 2, xno, xno, xno, xno, xno], [.int (nI (5 + y18)), .int 2, .ref 0], _)) rfl (by rw [← nI_add 5 y18]; rfl) ?_
  refine y_S1e rfl rfl (Nat.le_of_ble_eq_true rfl) (Nat.le_of_ble_eq_true rfl) rfl rfl (o_load (by omega) h16 (by omega) 2 (by omega) (5 + y18) (by omega)) (fun s19 h19 => ?_)
  obtain ⟨K20, H20, h20⟩ : ∃ K9 H9, LW _ _ _ K9 _ H9 [] s19 := ⟨_, _, h19⟩
  refine y_go rfl rfl ?_
  refine y_go rfl rfl ?_
  refine y_go rfl rfl ?_
  refine y_go rfl rfl ?_
  refine y_V1 (w := .int 111) rfl (Nat.le_of_ble_eq_true rfl) (Nat.le_of_ble_eq_true rfl) rfl rfl (xrcv_k (xnoh (LW_len h20) (by decide)) xstr_49.1) (s_charAt (by omega) (LW_len h20) xstr_49 2 (by decide)) ?_
  refine y_go rfl rfl ?_
  refine y_go rfl rfl ?_
  refine y_go rfl rfl ?_
  obtain ⟨c21, e21⟩ := o_cell (S := S) (d := d) (by omega) hS (LW_len h20) 2 (by omega)
  refine y_S1 rfl rfl (Nat.le_of_ble_eq_true rfl) (Nat.le_of_ble_eq_true rfl) rfl rfl e21 ?_
  refine y_go rfl rfl ?_
  refine y_go rfl rfl ?_
  refine y_go rfl rfl ?_
  obtain ⟨y22, l22, e22⟩ := pk_andE (c21 >>> (6 &&& 31)) (m := 31) 5 (by decide)
  refine y_go (g' := (52, [.ref xSp, .ref 0, .int 2, xno, xno, xno, xno, xno], [.int ((c21 >>> (6 &&& 31)) &&& 31), .int 5, .int 111, .ref 0], _)) rfl rfl ?_
  rw [e22]
  refine y_go (g' := (53, [.ref xSp, .ref 0, .int 2, xno, xno, xno, xno, xno], [.int (nI (5 + y22)), .int 111, .ref 0], _)) rfl (by rw [← nI_add 5 y22]; rfl) ?_
  refine y_S1e rfl rfl (Nat.le_of_ble_eq_true rfl) (Nat.le_of_ble_eq_true rfl) rfl rfl (o_addFuel (by omega) h20 (by omega) 111 (by omega) (5 + y22) (by omega)) (fun s23 h23 => ?_)
  obtain ⟨K24, H24, h24⟩ : ∃ K9 H9, LW _ _ _ K9 _ H9 [] s23 := ⟨_, _, h23⟩
  refine y_go rfl rfl ?_
  refine y_go (g' := (60, [.ref xSp, .ref 0, .int 3, xno, xno, xno, xno, xno], _, _)) rfl rfl ?_
  refine y_go rfl rfl ?_
  refine y_go rfl rfl ?_
  refine y_go rfl rfl ?_
  refine y_ic_ge rfl (fun _ => ?_) (fun c => absurd c (by decide))
  refine y_go rfl rfl ?_
  refine y_go rfl rfl ?_
  refine y_S1e rfl rfl (Nat.le_of_ble_eq_true rfl) (Nat.le_of_ble_eq_true rfl) rfl rfl (o_feed (by omega) h24 (by omega) 60 (by omega)) (fun s25 h25 => ?_)
  obtain ⟨K26, H26, h26⟩ : ∃ K9 H9, LW _ _ _ K9 _ H9 [] s25 := ⟨_, _, h25⟩
  refine y_go rfl rfl ?_
  refine y_go rfl rfl ?_
  refine y_go rfl rfl ?_
  refine y_S1e rfl rfl (Nat.le_of_ble_eq_true rfl) (Nat.le_of_ble_eq_true rfl) rfl rfl (o_light (by omega) h26 (by omega) 0 (by omega)) (fun s27 h27 => ?_)
  obtain ⟨K28, H28, h28⟩ : ∃ K9 H9, LW _ _ _ K9 _ H9 [] s27 := ⟨_, _, h27⟩
  refine y_go rfl rfl ?_
  refine y_go rfl rfl ?_
  refine y_slen rfl rfl (xnoh (LW_len h28) (by decide)) (by decide +kernel) ?_
  refine y_go rfl rfl ?_
  suffices k29 : yW S d 153 (90, [.ref xSp, .ref 0, .int 3, xno, xno, xno, xno, xno], [.int (if nI S.length < 36 then nI S.length else 36)], s27) Q by
    refine y_ic_ge rfl (fun c80 => ?_) (fun c80 => ?_)
    · refine y_go rfl rfl ?_
      rw [show ((if nI S.length < 36 then nI S.length else 36) : Int32) = 36 by rw [if_neg c80]] at k29
      exact k29
    · refine y_go rfl rfl ?_
      refine y_slen rfl rfl (xnoh (LW_len h28) (by decide)) (by decide +kernel) ?_
      refine y_go rfl rfl ?_
      rw [show ((if nI S.length < 36 then nI S.length else 36) : Int32) = nI S.length by rw [if_pos c80]] at k29
      exact k29
  have hac9 : ∃ ac : Nat, ac ≤ 36 ∧ (if nI S.length < 36 then nI S.length else (36 : Int32)) = nI ac := by
    by_cases q : S.length < 36
    · exact ⟨S.length, by omega, if_pos (nI_lt (b := 36) q (by decide))⟩
    · exact ⟨36, Nat.le_refl _, if_neg (nI_nlt (b := 36) (by omega) hS)⟩
  obtain ⟨ac, hac, eac⟩ := hac9
  rw [eac]
  refine y_go (g' := (91, [.ref xSp, .ref 0, .int (nI ac), xno, xno, xno, xno, xno], _, _)) rfl rfl ?_
  refine y_go rfl rfl ?_
  refine y_go (g' := (93, [.ref xSp, .ref 0, .int (nI ac), .int 0, xno, xno, xno, xno], _, _)) rfl rfl ?_
  exact l_law1 (by omega) hS hQ ac hac ac 0 (Nat.zero_add _) _ _ _ _ _ _ _ _ (LW_mono (by omega) h28)
