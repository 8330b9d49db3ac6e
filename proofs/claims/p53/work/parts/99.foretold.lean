/-! THE LAW: what is foretold. -/
theorem pass_yes {n : Nat} {K : kK} (hK : GK n K) {m : Nat} (hm : 1 ≤ m ∧ m ≤ 48) : ∃ j : Nat, j ≤ 60 * m ∧ (cmdX 8 m 0 K).1 = nI j ∧ (cmdX 8 m 0 K).2 = hoursK K m := by
  obtain ⟨j, h1, h2⟩ := GK_fired hK m
  have e : cmdX 8 m 0 K = ((hoursK K m).1 12 - K.1 12, hoursK K m) := if_pos hm
  rw [e]
  exact ⟨j, h2, h1, rfl⟩
theorem out_lt {K : kK} {m : Nat} (h : ∀ l, l < m → (hoursK K l).1 1 ≠ -1) (hm : 0 < m) : ¬ K.1 1 = -1 := h 0 hm
theorem out_40 {K : kK} {m : Nat} (h : (hoursK K m).1 1 = -1) (hm : m ≤ 40) : (hoursK K 40).1 1 = -1 := by
  have e := hoursK_add K m (40 - m)
  rw [show m + (40 - m) = 40 by omega] at e
  rw [e]
  exact hours_out h _
theorem l_for3 {S : List Int32} {d : Nat} (hd : 20 ≤ d) {n : Nat} {f sv : Int32} {K V : kK} {H : List kK} {T : List Int32} (x3 : Int32) (x5 : Int32) (s : xS) (hW : LW n f sv K V H T s) (hn : n ≤ 900000) {Q : xR → Prop} (hQ : ∀ s2, LWx (n + 10) f sv K V T s2 → Q (.inl (some (.int 1)), s2)) : yW S d 151 (184, [.ref 0, .long (dgs K), xno, .int x3, .int (nv (-1000) (tillCool 0 101 0 K).1), .int x5, .int 1], [], s) Q := by
  rcases tillCool_at 0 101 0 K with ⟨e1, -⟩ | ⟨m, e1, e2, e3, -⟩
  · rw [e1, show nv (-1000) (-5) = (-1000 : Int32) by decide]
    refine y_go rfl rfl ?_
    refine y_if_le rfl (fun _ => ?_) (fun c => absurd c (by decide))
    refine y_go rfl rfl ?_
    refine y_if_eq rfl (fun c => absurd c (by decide)) (fun _ => ?_)
    refine y_go rfl rfl ?_
    refine y_S1e rfl rfl (Nat.le_of_ble_eq_true rfl) (Nat.le_of_ble_eq_true rfl) rfl rfl (o_digest (by omega) hW) (fun s1 h1 => ?_)
    refine y_go rfl rfl ?_
    refine y_go (g' := (245, [.ref 0, .long (dgs K), xno, .int x3, .int (-1000), .int x5, .int 1], [.int (lg_cmp (dgs K) (dgs K))], _)) rfl rfl ?_
    rw [lgc_0]
    refine y_if_ne rfl (fun c => absurd (by decide) c) (fun _ => ?_)
    refine y_go rfl rfl ?_
    refine y_go rfl rfl ?_
    exact y_ireturn rfl rfl rfl (hQ _ ⟨_, LW_mono (by omega) h1⟩)
  · rw [e2, Nat.zero_add, nv_nI (by omega)]
    by_cases q1 : m = 0
    · refine y_go rfl rfl ?_
      refine y_if_le rfl (fun _ => ?_) (fun c => absurd c (nI_nlt (a := 0) (b := m) (by omega) (by decide)))
      refine y_go rfl rfl ?_
      refine y_if_eq rfl (fun c => absurd c (by decide)) (fun _ => ?_)
      refine y_go rfl rfl ?_
      refine y_S1e rfl rfl (Nat.le_of_ble_eq_true rfl) (Nat.le_of_ble_eq_true rfl) rfl rfl (o_digest (by omega) hW) (fun s2 h2 => ?_)
      refine y_go rfl rfl ?_
      refine y_go (g' := (245, [.ref 0, .long (dgs K), xno, .int x3, .int (nI m), .int x5, .int 1], [.int (lg_cmp (dgs K) (dgs K))], _)) rfl rfl ?_
      rw [lgc_0]
      refine y_if_ne rfl (fun c => absurd (by decide) c) (fun _ => ?_)
      refine y_go rfl rfl ?_
      refine y_go rfl rfl ?_
      exact y_ireturn rfl rfl rfl (hQ _ ⟨_, LW_mono (by omega) h2⟩)
    · by_cases q2 : m ≤ 48
      · refine y_go rfl rfl ?_
        refine y_if_le rfl (fun c => absurd (nI_lt (a := 0) (b := m) (by omega) (by omega)) c) (fun _ => ?_)
        refine y_go rfl rfl ?_
        refine y_go rfl rfl ?_
        refine y_ic_gt rfl (fun c => absurd c (nI_nlt (a := 48) (b := m) (by omega) (by decide))) (fun _ => ?_)
        refine y_go rfl rfl ?_
        refine y_if_eq rfl (fun c => absurd c (by decide)) (fun _ => ?_)
        refine y_go rfl rfl ?_
        refine y_go rfl rfl ?_
        have hg3 := hW.2.1
        refine y_S1e rfl rfl (Nat.le_of_ble_eq_true rfl) (Nat.le_of_ble_eq_true rfl) rfl rfl (o_passHours (by omega) hW (by omega) m (by omega)) (fun s3 h3 => ?_)
        obtain ⟨j3, ja3, jb3, jc3⟩ := pass_yes hg3 (m := m) (by omega)
        obtain ⟨v3, vv3⟩ := opV_yes jb3 (by omega)
        rw [v3]
        rw [vv3, jc3] at h3
        refine y_if_lt rfl (fun c => absurd c (nI_pos (by omega))) (fun _ => ?_)
        refine y_go rfl rfl ?_
        refine y_go rfl rfl ?_
        refine y_V1 rfl (Nat.le_of_ble_eq_true rfl) (Nat.le_of_ble_eq_true rfl) rfl rfl (LW_rcv h3) (t_temperature (by omega) h3 0 (by omega)) ?_
        refine y_go rfl rfl ?_
        refine y_ic_gt rfl (fun c => absurd c (e3)) (fun _ => ?_)
        refine y_go rfl rfl ?_
        refine y_S1e rfl rfl (Nat.le_of_ble_eq_true rfl) (Nat.le_of_ble_eq_true rfl) rfl rfl (o_undo (by omega) h3 K (H.take 7) rfl) (fun s4 h4 => ?_)
        refine y_if_lt rfl (fun c => absurd c (nI_pos (by rw [List.length_take]; omega))) (fun _ => ?_)
        refine y_go rfl rfl ?_
        refine y_go rfl rfl ?_
        refine y_go (g' := (234, [.ref 0, .long (dgs K), xno, .int x3, .int (nI m), .int x5, .int 1], _, _)) rfl rfl ?_
        refine y_go rfl rfl ?_
        refine y_if_eq rfl (fun c => absurd c (by decide)) (fun _ => ?_)
        refine y_go rfl rfl ?_
        refine y_S1e rfl rfl (Nat.le_of_ble_eq_true rfl) (Nat.le_of_ble_eq_true rfl) rfl rfl (o_digest (by omega) h4) (fun s5 h5 => ?_)
        refine y_go rfl rfl ?_
        refine y_go (g' := (245, [.ref 0, .long (dgs K), xno, .int x3, .int (nI m), .int x5, .int 1], [.int (lg_cmp (dgs K) (dgs K))], _)) rfl rfl ?_
        rw [lgc_0]
        refine y_if_ne rfl (fun c => absurd (by decide) c) (fun _ => ?_)
        refine y_go rfl rfl ?_
        refine y_go rfl rfl ?_
        exact y_ireturn rfl rfl rfl (hQ _ ⟨_, LW_mono (by omega) h5⟩)
      · refine y_go rfl rfl ?_
        refine y_if_le rfl (fun c => absurd (nI_lt (a := 0) (b := m) (by omega) (by omega)) c) (fun _ => ?_)
        refine y_go rfl rfl ?_
        refine y_go rfl rfl ?_
        refine y_ic_gt rfl (fun _ => ?_) (fun c => absurd (nI_lt (a := 48) (b := m) (by omega) (by omega)) c)
        refine y_go rfl rfl ?_
        refine y_if_eq rfl (fun c => absurd c (by decide)) (fun _ => ?_)
        refine y_go rfl rfl ?_
        refine y_S1e rfl rfl (Nat.le_of_ble_eq_true rfl) (Nat.le_of_ble_eq_true rfl) rfl rfl (o_digest (by omega) hW) (fun s6 h6 => ?_)
        refine y_go rfl rfl ?_
        refine y_go (g' := (245, [.ref 0, .long (dgs K), xno, .int x3, .int (nI m), .int x5, .int 1], [.int (lg_cmp (dgs K) (dgs K))], _)) rfl rfl ?_
        rw [lgc_0]
        refine y_if_ne rfl (fun c => absurd (by decide) c) (fun _ => ?_)
        refine y_go rfl rfl ?_
        refine y_go rfl rfl ?_
        exact y_ireturn rfl rfl rfl (hQ _ ⟨_, LW_mono (by omega) h6⟩)
theorem l_for2 {S : List Int32} {d : Nat} (hd : 20 ≤ d) {n : Nat} {f sv : Int32} {K V : kK} {H : List kK} {T : List Int32} (x3 x5 : Int32) (hx : (nv (-1000) (tillOut 101 0 K).1) = x3) (s : xS) (hW : LW n f sv K V H T s) (hn : n ≤ 850000) {Q : xR → Prop} (hQ : ∀ s2, LWx (n + 30) f sv K V T s2 → Q (.inl (some (.int 1)), s2)) : yW S d 151 (115, [.ref 0, .long (dgs K), xno, .int x3, .int (nv (-1000) (tillCool 0 101 0 K).1), .int x5, .int 1], [], s) Q := by
  subst hx
  rcases tillOut_at 101 0 K with ⟨e1, -⟩ | ⟨m, e1, e2, e3, e4⟩
  · rw [e1, show nv (-1000) (-5) = (-1000 : Int32) by decide]
    refine y_go rfl rfl ?_
    refine y_go rfl rfl ?_
    refine y_ic_le rfl (fun _ => ?_) (fun c => absurd c (by decide))
    exact l_for3 (by omega) _ _ _ hW (by omega) (fun s2 ⟨H2, hz⟩ => hQ s2 ⟨H2, LW_mono (by omega) hz⟩)
  · rw [e2, Nat.zero_add, nv_nI (by omega)]
    by_cases q1 : 1 < m ∧ m ≤ 48
    · have eh : hoursK (hoursK K (m - 1)) 1 = hoursK K m := by rw [← hoursK_add, show m - 1 + 1 = m by omega]
      refine y_go rfl rfl ?_
      refine y_go rfl rfl ?_
      refine y_ic_le rfl (fun c => absurd (nI_lt (a := 1) (b := m) (by omega) (by omega)) c) (fun _ => ?_)
      refine y_go rfl rfl ?_
      refine y_go rfl rfl ?_
      refine y_ic_gt rfl (fun c => absurd c (nI_nlt (a := 48) (b := m) (by omega) (by decide))) (fun _ => ?_)
      refine y_go rfl rfl ?_
      refine y_if_eq rfl (fun c => absurd c (by decide)) (fun _ => ?_)
      refine y_go rfl rfl ?_
      refine y_go rfl rfl ?_
      refine y_go rfl rfl ?_
      refine y_go rfl rfl ?_
      rw [show nI m - 1 = nI (m - 1) from nI_sub (b := 1) (by omega)]
      have hg1 := hW.2.1
      refine y_S1e rfl rfl (Nat.le_of_ble_eq_true rfl) (Nat.le_of_ble_eq_true rfl) rfl rfl (o_passHours (by omega) hW (by omega) (m - 1) (by omega)) (fun s1 h1 => ?_)
      obtain ⟨j1, ja1, jb1, jc1⟩ := pass_yes hg1 (m := (m - 1)) (by omega)
      obtain ⟨v1, vv1⟩ := opV_yes jb1 (by omega)
      rw [v1]
      rw [vv1, jc1] at h1
      refine y_if_lt rfl (fun c => absurd c (nI_pos (by omega))) (fun _ => ?_)
      refine y_go rfl rfl ?_
      refine y_V1 rfl (Nat.le_of_ble_eq_true rfl) (Nat.le_of_ble_eq_true rfl) rfl rfl (LW_rcv h1) (t_isLit (by omega) h1) ?_
      refine y_if_eq rfl (fun c => absurd c ((by rw [if_neg (e4 (m - 1) (by omega))]; decide))) (fun _ => ?_)
      refine y_go rfl rfl ?_
      refine y_go rfl rfl ?_
      have hg2 := h1.2.1
      refine y_S1e rfl rfl (Nat.le_of_ble_eq_true rfl) (Nat.le_of_ble_eq_true rfl) rfl rfl (o_passHours (by omega) h1 (by omega) 1 (by omega)) (fun s2 h2 => ?_)
      obtain ⟨j2, ja2, jb2, jc2⟩ := pass_yes hg2 (m := 1) (by omega)
      obtain ⟨v2, vv2⟩ := opV_yes jb2 (by omega)
      rw [v2]
      rw [vv2, jc2] at h2
      rw [eh] at h2
      refine y_if_lt rfl (fun c => absurd c (nI_pos (by omega))) (fun _ => ?_)
      refine y_go rfl rfl ?_
      refine y_V1 rfl (Nat.le_of_ble_eq_true rfl) (Nat.le_of_ble_eq_true rfl) rfl rfl (LW_rcv h2) (t_isLit (by omega) h2) ?_
      refine y_if_ne rfl (fun c => absurd (if_pos e3) c) (fun _ => ?_)
      refine y_go rfl rfl ?_
      refine y_S1e rfl rfl (Nat.le_of_ble_eq_true rfl) (Nat.le_of_ble_eq_true rfl) rfl rfl (o_undo (by omega) h2 (hoursK K (m - 1)) ((K :: H.take 7).take 7) rfl) (fun s3 h3 => ?_)
      refine y_if_lt rfl (fun c => absurd c (nI_pos (by rw [List.length_take]; omega))) (fun _ => ?_)
      refine y_go rfl rfl ?_
      refine y_S1e rfl rfl (Nat.le_of_ble_eq_true rfl) (Nat.le_of_ble_eq_true rfl) rfl rfl (o_undo (by omega) h3 K ((H.take 7).take 6) rfl) (fun s4 h4 => ?_)
      refine y_if_lt rfl (fun c => absurd c (nI_pos (by rw [List.length_take]; omega))) (fun _ => ?_)
      refine y_go rfl rfl ?_
      refine y_go rfl rfl ?_
      refine y_go (g' := (184, [.ref 0, .long (dgs K), xno, .int (nI m), .int (nv (-1000) (tillCool 0 101 0 K).1), .int x5, .int 1], _, _)) rfl rfl ?_
      exact l_for3 (by omega) _ _ _ h4 (by omega) (fun s2 ⟨H2, hz⟩ => hQ s2 ⟨H2, LW_mono (by omega) hz⟩)
    · by_cases q2 : 1 < m
      · refine y_go rfl rfl ?_
        refine y_go rfl rfl ?_
        refine y_ic_le rfl (fun c => absurd (nI_lt (a := 1) (b := m) (by omega) (by omega)) c) (fun _ => ?_)
        refine y_go rfl rfl ?_
        refine y_go rfl rfl ?_
        refine y_ic_gt rfl (fun _ => ?_) (fun c => absurd (nI_lt (a := 48) (b := m) (by omega) (by omega)) c)
        exact l_for3 (by omega) _ _ _ hW (by omega) (fun s2 ⟨H2, hz⟩ => hQ s2 ⟨H2, LW_mono (by omega) hz⟩)
      · refine y_go rfl rfl ?_
        refine y_go rfl rfl ?_
        refine y_ic_le rfl (fun _ => ?_) (fun c => absurd c (nI_nlt (a := 1) (b := m) (by omega) (by decide)))
        exact l_for3 (by omega) _ _ _ hW (by omega) (fun s2 ⟨H2, hz⟩ => hQ s2 ⟨H2, LW_mono (by omega) hz⟩)
theorem o_foretold {S : List Int32} {d : Nat} (hd : 21 ≤ d) {n : Nat} {f sv : Int32} {K V : kK} {H : List kK} {T : List Int32} {s : xS} (hW : LW n f sv K V H T s) (hn : n ≤ 800000) : yT S d 151 [.ref 0] s (fun r => ∃ s2, LWx (n + 170) f sv K V T s2 ∧ r = (.inl (some (.int 1)), s2)) := by
  obtain ⟨d, rfl⟩ : ∃ e, d = e + 1 := ⟨d - 1, by omega⟩
  have hG := hW.2.1
  refine yT_e (Nat.le_of_ble_eq_true rfl) ?_
  show yW S d 151 (0, [.ref 0, xno, xno, xno, xno, xno, xno], [], s) _
  refine y_go rfl rfl ?_
  refine y_S1e rfl rfl (Nat.le_of_ble_eq_true rfl) (Nat.le_of_ble_eq_true rfl) rfl rfl (o_digest (by omega) hW) (fun s1 h1 => ?_)
  refine y_go (g' := (5, [.ref 0, .long (dgs K), xno, xno, xno, xno, xno], _, _)) rfl rfl ?_
  refine y_go rfl rfl ?_
  refine y_S1e rfl rfl (Nat.le_of_ble_eq_true rfl) (Nat.le_of_ble_eq_true rfl) rfl rfl (o_out (by omega) h1) (fun s2 h2 => ?_)
  refine y_go (g' := (10, [.ref 0, .long (dgs K), xno, .int (nv (-1000) (tillOut 101 0 K).1), xno, xno, xno], _, _)) rfl rfl ?_
  refine y_go rfl rfl ?_
  refine y_go rfl rfl ?_
  refine y_S1e rfl rfl (Nat.le_of_ble_eq_true rfl) (Nat.le_of_ble_eq_true rfl) rfl rfl (o_cool (by omega) h2 0 (by omega)) (fun s3 h3 => ?_)
  refine y_go (g' := (17, [.ref 0, .long (dgs K), xno, .int (nv (-1000) (tillOut 101 0 K).1), .int (nv (-1000) (tillCool 0 101 0 K).1), xno, xno], _, _)) rfl rfl ?_
  refine y_go rfl rfl ?_
  refine y_go rfl rfl ?_
  refine y_V1e rfl (Nat.le_of_ble_eq_true rfl) (Nat.le_of_ble_eq_true rfl) rfl rfl (LW_rcv h3) (t_firedIn (by omega) h3 40 (by decide)) (fun s4 h4 => ?_)
  refine y_go (g' := (25, [.ref 0, .long (dgs K), xno, .int (nv (-1000) (tillOut 101 0 K).1), .int (nv (-1000) (tillCool 0 101 0 K).1), .int ((hoursK K 40).1 12 - K.1 12), xno], _, _)) rfl rfl ?_
  refine y_go rfl rfl ?_
  refine y_S1e rfl rfl (Nat.le_of_ble_eq_true rfl) (Nat.le_of_ble_eq_true rfl) rfl rfl (o_digest (by omega) h4) (fun s5 h5 => ?_)
  refine y_go rfl rfl ?_
  refine y_go (g' := (31, [.ref 0, .long (dgs K), xno, .int (nv (-1000) (tillOut 101 0 K).1), .int (nv (-1000) (tillCool 0 101 0 K).1), .int ((hoursK K 40).1 12 - K.1 12), xno], [.int (lg_cmp (dgs K) (dgs K))], _)) rfl rfl ?_
  rw [lgc_0]
  refine y_if_ne rfl (fun c => absurd (by decide) c) (fun _ => ?_)
  refine y_go rfl rfl ?_
  refine y_go rfl rfl ?_
  refine y_V1e rfl (Nat.le_of_ble_eq_true rfl) (Nat.le_of_ble_eq_true rfl) rfl rfl (LW_rcv h5) (t_firedIn (by omega) h5 0 (by decide)) (fun s6 h6 => ?_)
  rw [show (hoursK K 0).1 12 - K.1 12 = 0 from Int32.sub_self _]
  refine y_if_ne rfl (fun c => absurd (by decide) c) (fun _ => ?_)
  refine y_go rfl rfl ?_
  have eo : (nv (-1000) (tillOut 101 0 K).1) = (nv (-1000) (tillOut 101 0 K).1) := rfl
  rcases tillOut_at 101 0 K with ⟨e1, e2⟩ | ⟨m, e1, e2, e3, e4⟩
  · have eo9 : (nv (-1000) (tillOut 101 0 K).1) = -1000 := by rw [e1]; decide
    rw [eo9]
    refine y_if_ne rfl (fun _ => ?_) (fun c => absurd c (by decide))
    refine y_go rfl rfl ?_
    refine y_go rfl rfl ?_
    refine y_V1 rfl (Nat.le_of_ble_eq_true rfl) (Nat.le_of_ble_eq_true rfl) rfl rfl (LW_rcv h6) (t_isLit (by omega) h6) ?_
    refine y_ic_eq rfl (fun c => absurd c ((by rw [if_neg (show ¬ K.1 1 = -1 from e2 0 (by decide))]; decide))) (fun _ => ?_)
    refine y_go rfl rfl ?_
    refine y_go rfl rfl ?_
    have hg7 := h6.2.1
    refine y_S1e rfl rfl (Nat.le_of_ble_eq_true rfl) (Nat.le_of_ble_eq_true rfl) rfl rfl (o_passHours (by omega) h6 (by omega) 40 (by omega)) (fun s7 h7 => ?_)
    obtain ⟨j7, ja7, jb7, jc7⟩ := pass_yes hg7 (m := 40) (by omega)
    obtain ⟨v7, vv7⟩ := opV_yes jb7 (by omega)
    rw [v7]
    rw [vv7, jc7] at h7
    have ef : (hoursK K 40).1 12 - K.1 12 = nI j7 := jb7
    rw [ef]
    refine y_go rfl rfl ?_
    refine y_ic_ne rfl (fun c => absurd (rfl) c) (fun _ => ?_)
    refine y_go rfl rfl ?_
    refine y_V1 rfl (Nat.le_of_ble_eq_true rfl) (Nat.le_of_ble_eq_true rfl) rfl rfl (LW_rcv h7) (t_isLit (by omega) h7) ?_
    refine y_go rfl rfl ?_
    refine y_go rfl rfl ?_
    refine y_ic_gt rfl (fun c => absurd c (by decide)) (fun _ => ?_)
    refine y_go rfl rfl ?_
    refine y_go rfl rfl ?_
    refine y_ic_ne rfl (fun c => absurd (by decide) c) (fun _ => ?_)
    refine y_go rfl rfl ?_
    refine y_go rfl rfl ?_
    refine y_ic_ne rfl (fun c => absurd (if_neg (e2 40 (by decide))) c) (fun _ => ?_)
    refine y_go rfl rfl ?_
    refine y_S1e rfl rfl (Nat.le_of_ble_eq_true rfl) (Nat.le_of_ble_eq_true rfl) rfl rfl (o_chambers (by omega) h7) (fun s8 h8 => ?_)
    refine y_if_eq rfl (fun c => absurd c (by decide)) (fun _ => ?_)
    refine y_go rfl rfl ?_
    refine y_S1e rfl rfl (Nat.le_of_ble_eq_true rfl) (Nat.le_of_ble_eq_true rfl) rfl rfl (o_undo (by omega) h8 K (H.take 7) rfl) (fun s9 h9 => ?_)
    refine y_if_lt rfl (fun c => absurd c (nI_pos (by rw [List.length_take]; omega))) (fun _ => ?_)
    refine y_go rfl rfl ?_
    refine y_go rfl rfl ?_
    refine y_go (g' := (115, [.ref 0, .long (dgs K), xno, .int (-1000), .int (nv (-1000) (tillCool 0 101 0 K).1), .int (nI j7), .int 1], _, _)) rfl rfl ?_
    exact l_for2 (by omega) _ _ eo9 _ h9 (by omega) (fun s2 ⟨H2, hz⟩ => ⟨s2, ⟨H2, LW_mono (by omega) hz⟩, rfl⟩)
  · by_cases q0 : m = 0
    · have eo9 : (nv (-1000) (tillOut 101 0 K).1) = nI m := by rw [e2, Nat.zero_add, nv_nI (by omega)]
      rw [eo9]
      refine y_if_ne rfl (fun c => absurd ((by rw [q0]; rfl)) c) (fun _ => ?_)
      refine y_go rfl rfl ?_
      refine y_go rfl rfl ?_
      refine y_go rfl rfl ?_
      refine y_V1 rfl (Nat.le_of_ble_eq_true rfl) (Nat.le_of_ble_eq_true rfl) rfl rfl (LW_rcv h6) (t_isLit (by omega) h6) ?_
      refine y_ic_eq rfl (fun c => absurd c ((by rw [q0] at e3; rw [if_pos (show K.1 1 = -1 from e3)]; decide))) (fun _ => ?_)
      refine y_go rfl rfl ?_
      refine y_go rfl rfl ?_
      have hg10 := h6.2.1
      refine y_S1e rfl rfl (Nat.le_of_ble_eq_true rfl) (Nat.le_of_ble_eq_true rfl) rfl rfl (o_passHours (by omega) h6 (by omega) 40 (by omega)) (fun s10 h10 => ?_)
      obtain ⟨j10, ja10, jb10, jc10⟩ := pass_yes hg10 (m := 40) (by omega)
      obtain ⟨v10, vv10⟩ := opV_yes jb10 (by omega)
      rw [v10]
      rw [vv10, jc10] at h10
      have ef : (hoursK K 40).1 12 - K.1 12 = nI j10 := jb10
      rw [ef]
      refine y_go rfl rfl ?_
      refine y_ic_ne rfl (fun c => absurd (rfl) c) (fun _ => ?_)
      refine y_go rfl rfl ?_
      refine y_V1 rfl (Nat.le_of_ble_eq_true rfl) (Nat.le_of_ble_eq_true rfl) rfl rfl (LW_rcv h10) (t_isLit (by omega) h10) ?_
      refine y_go rfl rfl ?_
      refine y_go rfl rfl ?_
      refine y_ic_gt rfl (fun c => absurd c (nI_nlt (a := 40) (b := m) (by omega) (by decide))) (fun _ => ?_)
      refine y_go rfl rfl ?_
      refine y_go rfl rfl ?_
      refine y_ic_ne rfl (fun _ => ?_) (fun c => absurd c (nI_no1000 (by omega)))
      refine y_go rfl rfl ?_
      refine y_ic_ne rfl (fun c => absurd (if_pos (out_40 e3 (by omega))) c) (fun _ => ?_)
      refine y_go rfl rfl ?_
      refine y_S1e rfl rfl (Nat.le_of_ble_eq_true rfl) (Nat.le_of_ble_eq_true rfl) rfl rfl (o_chambers (by omega) h10) (fun s11 h11 => ?_)
      refine y_if_eq rfl (fun c => absurd c (by decide)) (fun _ => ?_)
      refine y_go rfl rfl ?_
      refine y_S1e rfl rfl (Nat.le_of_ble_eq_true rfl) (Nat.le_of_ble_eq_true rfl) rfl rfl (o_undo (by omega) h11 K (H.take 7) rfl) (fun s12 h12 => ?_)
      refine y_if_lt rfl (fun c => absurd c (nI_pos (by rw [List.length_take]; omega))) (fun _ => ?_)
      refine y_go rfl rfl ?_
      refine y_go rfl rfl ?_
      refine y_go (g' := (115, [.ref 0, .long (dgs K), xno, .int (nI m), .int (nv (-1000) (tillCool 0 101 0 K).1), .int (nI j10), .int 1], _, _)) rfl rfl ?_
      exact l_for2 (by omega) _ _ eo9 _ h12 (by omega) (fun s2 ⟨H2, hz⟩ => ⟨s2, ⟨H2, LW_mono (by omega) hz⟩, rfl⟩)
    · by_cases q1 : m ≤ 40
      · have eo9 : (nv (-1000) (tillOut 101 0 K).1) = nI m := by rw [e2, Nat.zero_add, nv_nI (by omega)]
        rw [eo9]
        refine y_if_ne rfl (fun _ => ?_) (fun c => absurd c (nI_ne0 (by omega) (by omega)))
        refine y_go rfl rfl ?_
        refine y_go rfl rfl ?_
        refine y_V1 rfl (Nat.le_of_ble_eq_true rfl) (Nat.le_of_ble_eq_true rfl) rfl rfl (LW_rcv h6) (t_isLit (by omega) h6) ?_
        refine y_ic_eq rfl (fun c => absurd c ((by rw [if_neg (out_lt e4 (by omega))]; decide))) (fun _ => ?_)
        refine y_go rfl rfl ?_
        refine y_go rfl rfl ?_
        have hg13 := h6.2.1
        refine y_S1e rfl rfl (Nat.le_of_ble_eq_true rfl) (Nat.le_of_ble_eq_true rfl) rfl rfl (o_passHours (by omega) h6 (by omega) 40 (by omega)) (fun s13 h13 => ?_)
        obtain ⟨j13, ja13, jb13, jc13⟩ := pass_yes hg13 (m := 40) (by omega)
        obtain ⟨v13, vv13⟩ := opV_yes jb13 (by omega)
        rw [v13]
        rw [vv13, jc13] at h13
        have ef : (hoursK K 40).1 12 - K.1 12 = nI j13 := jb13
        rw [ef]
        refine y_go rfl rfl ?_
        refine y_ic_ne rfl (fun c => absurd (rfl) c) (fun _ => ?_)
        refine y_go rfl rfl ?_
        refine y_V1 rfl (Nat.le_of_ble_eq_true rfl) (Nat.le_of_ble_eq_true rfl) rfl rfl (LW_rcv h13) (t_isLit (by omega) h13) ?_
        refine y_go rfl rfl ?_
        refine y_go rfl rfl ?_
        refine y_ic_gt rfl (fun c => absurd c (nI_nlt (a := 40) (b := m) (by omega) (by decide))) (fun _ => ?_)
        refine y_go rfl rfl ?_
        refine y_go rfl rfl ?_
        refine y_ic_ne rfl (fun _ => ?_) (fun c => absurd c (nI_no1000 (by omega)))
        refine y_go rfl rfl ?_
        refine y_ic_ne rfl (fun c => absurd (if_pos (out_40 e3 (by omega))) c) (fun _ => ?_)
        refine y_go rfl rfl ?_
        refine y_S1e rfl rfl (Nat.le_of_ble_eq_true rfl) (Nat.le_of_ble_eq_true rfl) rfl rfl (o_chambers (by omega) h13) (fun s14 h14 => ?_)
        refine y_if_eq rfl (fun c => absurd c (by decide)) (fun _ => ?_)
        refine y_go rfl rfl ?_
        refine y_S1e rfl rfl (Nat.le_of_ble_eq_true rfl) (Nat.le_of_ble_eq_true rfl) rfl rfl (o_undo (by omega) h14 K (H.take 7) rfl) (fun s15 h15 => ?_)
        refine y_if_lt rfl (fun c => absurd c (nI_pos (by rw [List.length_take]; omega))) (fun _ => ?_)
        refine y_go rfl rfl ?_
        refine y_go rfl rfl ?_
        refine y_go (g' := (115, [.ref 0, .long (dgs K), xno, .int (nI m), .int (nv (-1000) (tillCool 0 101 0 K).1), .int (nI j13), .int 1], _, _)) rfl rfl ?_
        exact l_for2 (by omega) _ _ eo9 _ h15 (by omega) (fun s2 ⟨H2, hz⟩ => ⟨s2, ⟨H2, LW_mono (by omega) hz⟩, rfl⟩)
      · have eo9 : (nv (-1000) (tillOut 101 0 K).1) = nI m := by rw [e2, Nat.zero_add, nv_nI (by omega)]
        rw [eo9]
        refine y_if_ne rfl (fun _ => ?_) (fun c => absurd c (nI_ne0 (by omega) (by omega)))
        refine y_go rfl rfl ?_
        refine y_go rfl rfl ?_
        refine y_V1 rfl (Nat.le_of_ble_eq_true rfl) (Nat.le_of_ble_eq_true rfl) rfl rfl (LW_rcv h6) (t_isLit (by omega) h6) ?_
        refine y_ic_eq rfl (fun c => absurd c ((by rw [if_neg (out_lt e4 (by omega))]; decide))) (fun _ => ?_)
        refine y_go rfl rfl ?_
        refine y_go rfl rfl ?_
        have hg16 := h6.2.1
        refine y_S1e rfl rfl (Nat.le_of_ble_eq_true rfl) (Nat.le_of_ble_eq_true rfl) rfl rfl (o_passHours (by omega) h6 (by omega) 40 (by omega)) (fun s16 h16 => ?_)
        obtain ⟨j16, ja16, jb16, jc16⟩ := pass_yes hg16 (m := 40) (by omega)
        obtain ⟨v16, vv16⟩ := opV_yes jb16 (by omega)
        rw [v16]
        rw [vv16, jc16] at h16
        have ef : (hoursK K 40).1 12 - K.1 12 = nI j16 := jb16
        rw [ef]
        refine y_go rfl rfl ?_
        refine y_ic_ne rfl (fun c => absurd (rfl) c) (fun _ => ?_)
        refine y_go rfl rfl ?_
        refine y_V1 rfl (Nat.le_of_ble_eq_true rfl) (Nat.le_of_ble_eq_true rfl) rfl rfl (LW_rcv h16) (t_isLit (by omega) h16) ?_
        refine y_go rfl rfl ?_
        refine y_go rfl rfl ?_
        refine y_ic_gt rfl (fun _ => ?_) (fun c => absurd (nI_lt (a := 40) (b := m) (by omega) (by omega)) c)
        refine y_go rfl rfl ?_
        refine y_go rfl rfl ?_
        refine y_ic_ne rfl (fun c => absurd (if_neg (e4 40 (by omega))) c) (fun _ => ?_)
        refine y_go rfl rfl ?_
        refine y_S1e rfl rfl (Nat.le_of_ble_eq_true rfl) (Nat.le_of_ble_eq_true rfl) rfl rfl (o_chambers (by omega) h16) (fun s17 h17 => ?_)
        refine y_if_eq rfl (fun c => absurd c (by decide)) (fun _ => ?_)
        refine y_go rfl rfl ?_
        refine y_S1e rfl rfl (Nat.le_of_ble_eq_true rfl) (Nat.le_of_ble_eq_true rfl) rfl rfl (o_undo (by omega) h17 K (H.take 7) rfl) (fun s18 h18 => ?_)
        refine y_if_lt rfl (fun c => absurd c (nI_pos (by rw [List.length_take]; omega))) (fun _ => ?_)
        refine y_go rfl rfl ?_
        refine y_go rfl rfl ?_
        refine y_go (g' := (115, [.ref 0, .long (dgs K), xno, .int (nI m), .int (nv (-1000) (tillCool 0 101 0 K).1), .int (nI j16), .int 1], _, _)) rfl rfl ?_
        exact l_for2 (by omega) _ _ eo9 _ h18 (by omega) (fun s2 ⟨H2, hz⟩ => ⟨s2, ⟨H2, LW_mono (by omega) hz⟩, rfl⟩)
