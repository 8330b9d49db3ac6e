/-! THE LAW: what is asked of the walls. -/
theorem wall_yes {K : kK} {w k F : Nat} (hw : 2 ≤ w ∧ w ≤ 18) (hk : 1 ≤ k ∧ k ≤ 8) (hF : fwb w k = nI F) (h5 : ¬ nI F = -5) : (K.1 9 < nI F ∧ cmdX 9 w k K = (-3, K)) ∨ (¬ K.1 9 < nI F ∧ (cmdX 9 w k K).1 = nI F ∧ (cmdX 9 w k K).2.1 9 = K.1 9 - nI F) := by
  have e : cmdX 9 w k K = wallX xJ xCn w k K := rfl
  unfold fwb at hF
  rw [e]
  unfold wallX
  rw [if_pos hw, if_pos hk, hF, if_neg h5]
  by_cases q : K.1 9 < nI F
  · rw [if_pos q]; exact Or.inl ⟨q, rfl⟩
  · rw [if_neg q]; exact Or.inr ⟨q, rfl, rfl⟩
theorem wall_no {K : kK} {w k : Nat} (hw : 2 ≤ w ∧ w ≤ 18) (hk : 1 ≤ k ∧ k ≤ 8) (hF : fwb w k = -5) : cmdX 9 w k K = (-5, K) := by
  have e : cmdX 9 w k K = wallX xJ xCn w k K := rfl
  unfold fwb at hF
  rw [e]
  unfold wallX
  rw [if_pos hw, if_pos hk, if_pos hF]
theorem wv_5_3 : wcn 5 3 = 2 ∧ wcn 5 2 = 2 ∧ wcn 5 1 = 2 ∧ fwb 5 3 = 6 ∧ xCn 5 = 2 := by decide +kernel
theorem o_walls_5_3 {S : List Int32} {d : Nat} (hd : 20 ≤ d) {n : Nat} {f sv : Int32} {K V : kK} {H : List kK} {T : List Int32} {s : xS} (hW : LW n f sv K V H T s) (hn : n ≤ 800000) : yT S d 150 [.ref 0, .int 5, .int 3] s (fun r => ∃ s2, LWx (n + 120) f sv K V T s2 ∧ r = (.inl (some (.int 1)), s2)) := by
  obtain ⟨d, rfl⟩ : ∃ e, d = e + 1 := ⟨d - 1, by omega⟩
  obtain ⟨w1, w2, w3, w4, w5⟩ := wv_5_3
  refine yT_e (Nat.le_of_ble_eq_true rfl) ?_
  show yW S d 150 (0, [.ref 0, .int 5, .int 3, xno, xno, xno, xno, xno, xno, xno, xno], [], s) _
  refine y_go rfl rfl ?_
  refine y_S1e rfl rfl (Nat.le_of_ble_eq_true rfl) (Nat.le_of_ble_eq_true rfl) rfl rfl (o_digest (by omega) hW) (fun s1 h1 => ?_)
  refine y_go (g' := (5, [.ref 0, .int 5, .int 3, .long (dgs K), xno, xno, xno, xno, xno, xno, xno], _, _)) rfl rfl ?_
  refine y_go rfl rfl ?_
  refine y_go rfl rfl ?_
  refine y_go rfl rfl ?_
  refine y_V1e rfl (Nat.le_of_ble_eq_true rfl) (Nat.le_of_ble_eq_true rfl) rfl rfl (LW_rcv h1) (t_wallCount (by omega) h1 5 3 (by decide) (by decide)) (fun s2 h2 => ?_)
  rw [w1]
  refine y_go (g' := (13, [.ref 0, .int 5, .int 3, .long (dgs K), xno, .long 2, xno, xno, xno, xno, xno], _, _)) rfl rfl ?_
  refine y_go rfl rfl ?_
  refine y_go rfl rfl ?_
  refine y_go rfl rfl ?_
  refine y_S1e rfl rfl (Nat.le_of_ble_eq_true rfl) (Nat.le_of_ble_eq_true rfl) rfl rfl (o_fewest (by omega) h2 5 3 (by decide) (by decide)) (fun s3 h3 => ?_)
  rw [w4, show nv (-1000) (6) = (6 : Int32) by decide]
  refine y_go (g' := (21, [.ref 0, .int 5, .int 3, .long (dgs K), xno, .long 2, xno, .int 6, xno, xno, xno], _, _)) rfl rfl ?_
  refine y_go rfl rfl ?_
  refine y_V1 rfl (Nat.le_of_ble_eq_true rfl) (Nat.le_of_ble_eq_true rfl) rfl rfl (LW_rcv h3) (t_stock (by omega) h3) ?_
  refine y_go (g' := (27, [.ref 0, .int 5, .int 3, .long (dgs K), xno, .long 2, xno, .int 6, .int (K.1 9), xno, xno], _, _)) rfl rfl ?_
  refine y_go rfl rfl ?_
  refine y_go rfl rfl ?_
  refine y_go rfl rfl ?_
  refine y_V1e rfl (Nat.le_of_ble_eq_true rfl) (Nat.le_of_ble_eq_true rfl) rfl rfl (LW_rcv h3) (t_wallMemory (by omega) h3 5 3 (by decide) (by decide)) (fun s4 h4 => ?_)
  rw [w1]
  refine y_go rfl rfl ?_
  refine y_go (g' := (36, [.ref 0, .int 5, .int 3, .long (dgs K), xno, .long 2, xno, .int 6, .int (K.1 9), xno, xno], [.int (lg_cmp 2 2)], _)) rfl rfl ?_
  rw [lgc_0]
  refine y_if_ne rfl (fun c => absurd (by decide) c) (fun _ => ?_)
  refine y_go rfl rfl ?_
  refine y_go rfl rfl ?_
  refine y_go rfl rfl ?_
  refine y_if_ne rfl (fun _ => ?_) (fun c => absurd c ((by decide)))
  refine y_go rfl rfl ?_
  refine y_go rfl rfl ?_
  refine y_go rfl rfl ?_
  refine y_ic_ne rfl (fun _ => ?_) (fun c => absurd c (by decide))
  refine y_go rfl rfl ?_
  refine y_ic_ne rfl (fun c => absurd (by decide) c) (fun _ => ?_)
  refine y_go rfl rfl ?_
  refine y_go rfl rfl ?_
  refine y_go rfl rfl ?_
  refine y_V1e rfl (Nat.le_of_ble_eq_true rfl) (Nat.le_of_ble_eq_true rfl) rfl rfl (LW_rcv h4) (t_wallCount (by omega) h4 5 1 (by decide) (by decide)) (fun s5 h5 => ?_)
  rw [w3]
  refine y_go rfl rfl ?_
  refine y_go rfl rfl ?_
  refine y_V1 rfl (Nat.le_of_ble_eq_true rfl) (Nat.le_of_ble_eq_true rfl) rfl rfl (LW_rcv h5) (t_courses (by omega) h5 5 (by decide)) ?_
  rw [w5, show nI 2 = (2 : Int32) from rfl]
  refine y_go rfl rfl ?_
  refine y_go rfl rfl ?_
  refine y_if_ne rfl (fun c => absurd ((by decide)) c) (fun _ => ?_)
  refine y_go rfl rfl ?_
  refine y_go rfl rfl ?_
  refine y_ic_eq rfl (fun c => absurd c (by decide)) (fun _ => ?_)
  refine y_go rfl rfl ?_
  refine y_go rfl rfl ?_
  refine y_go rfl rfl ?_
  refine y_go rfl rfl ?_
  refine y_go rfl rfl ?_
  rw [show (3 : Int32) - 1 = 2 by decide]
  refine y_V1e rfl (Nat.le_of_ble_eq_true rfl) (Nat.le_of_ble_eq_true rfl) rfl rfl (LW_rcv h5) (t_wallCount (by omega) h5 5 2 (by decide) (by decide)) (fun s6 h6 => ?_)
  rw [w2]
  refine y_go rfl rfl ?_
  refine y_go rfl rfl ?_
  refine y_if_gt rfl (fun _ => ?_) (fun c => absurd ((by decide)) c)
  refine y_go rfl rfl ?_
  refine y_go rfl rfl ?_
  refine y_go (g' := (115, [.ref 0, .int 5, .int 3, .long (dgs K), xno, .long 2, xno, .int 6, .int (K.1 9), .int 1, xno], _, _)) rfl rfl ?_
  refine y_go rfl rfl ?_
  refine y_if_eq rfl (fun c => absurd c (by decide)) (fun _ => ?_)
  refine y_go rfl rfl ?_
  refine y_go rfl rfl ?_
  refine y_ic_eq rfl (fun c => absurd c (by decide)) (fun _ => ?_)
  refine y_go rfl rfl ?_
  refine y_go rfl rfl ?_
  refine y_go rfl rfl ?_
  refine y_go rfl rfl ?_
  refine y_go rfl rfl ?_
  refine y_go rfl rfl ?_
  refine y_div rfl (by decide) (Or.inl ⟨rfl, rfl⟩) ?_
  refine y_go rfl rfl ?_
  refine y_ic_lt rfl (fun c => absurd c ((by decide))) (fun _ => ?_)
  refine y_go rfl rfl ?_
  refine y_go rfl rfl ?_
  refine y_go rfl rfl ?_
  refine y_go rfl rfl ?_
  refine y_div rfl (by decide) (Or.inl ⟨rfl, rfl⟩) ?_
  refine y_go rfl rfl ?_
  refine y_ic_gt rfl (fun c => absurd c ((by decide))) (fun _ => ?_)
  refine y_go rfl rfl ?_
  refine y_go rfl rfl ?_
  refine y_go (g' := (157, [.ref 0, .int 5, .int 3, .long (dgs K), xno, .long 2, xno, .int 6, .int (K.1 9), .int 1, xno], _, _)) rfl rfl ?_
  refine y_go rfl rfl ?_
  refine y_go rfl rfl ?_
  refine y_go rfl rfl ?_
  refine y_S1e rfl rfl (Nat.le_of_ble_eq_true rfl) (Nat.le_of_ble_eq_true rfl) rfl rfl (o_buildWall (by omega) h6 (by omega) 5 (by decide) 3 (by decide)) (fun s7 h7 => ?_)
  rcases wall_yes (K := K) (w := 5) (k := 3) (F := 6) (by decide) (by decide) w4 (by decide) with ⟨q1, q2⟩ | ⟨q1, q2, q3⟩
  · obtain ⟨v1, v2, v3⟩ := opV_no q2 rfl
    rw [v1]
    rw [v2, v3] at h7
    refine y_go (g' := (165, [.ref 0, .int 5, .int 3, .long (dgs K), xno, .long 2, xno, .int 6, .int (K.1 9), .int 1, .int (-100000000)], _, _)) rfl rfl ?_
    refine y_go rfl rfl ?_
    refine y_go rfl rfl ?_
    refine y_ic_ne rfl (fun c => absurd (by decide) c) (fun _ => ?_)
    refine y_go rfl rfl ?_
    refine y_if_eq rfl (fun c => absurd c (by decide)) (fun _ => ?_)
    refine y_go rfl rfl ?_
    refine y_go rfl rfl ?_
    refine y_ic_eq rfl (fun c => absurd c (by decide)) (fun _ => ?_)
    refine y_go rfl rfl ?_
    refine y_go rfl rfl ?_
    refine y_ic_ge rfl (fun c => absurd (q1) c) (fun _ => ?_)
    refine y_go rfl rfl ?_
    refine y_S1e rfl rfl (Nat.le_of_ble_eq_true rfl) (Nat.le_of_ble_eq_true rfl) rfl rfl (o_digest (by omega) h7) (fun s8 h8 => ?_)
    refine y_go rfl rfl ?_
    refine y_go (g' := (198, [.ref 0, .int 5, .int 3, .long (dgs K), xno, .long 2, xno, .int 6, .int (K.1 9), .int 1, .int (-100000000)], [.int (lg_cmp (dgs K) (dgs K))], _)) rfl rfl ?_
    rw [lgc_0]
    refine y_if_ne rfl (fun c => absurd (by decide) c) (fun _ => ?_)
    refine y_go rfl rfl ?_
    refine y_go rfl rfl ?_
    exact y_ireturn rfl rfl rfl ⟨_, ⟨_, LW_mono (by omega) h8⟩, rfl⟩
  · obtain ⟨v1, v3⟩ := opV_yes q2 (by decide)
    rw [v1]
    rw [v3] at h7
    rw [show nI 6 = 6 from rfl]
    generalize (cmdX 9 5 3 K).2 = K2 at h7 q3
    refine y_go (g' := (165, [.ref 0, .int 5, .int 3, .long (dgs K), xno, .long 2, xno, .int 6, .int (K.1 9), .int 1, .int 6], _, _)) rfl rfl ?_
    refine y_go rfl rfl ?_
    refine y_go rfl rfl ?_
    refine y_ic_ne rfl (fun _ => ?_) (fun c => absurd c (by decide))
    refine y_go rfl rfl ?_
    refine y_if_eq rfl (fun c => absurd c (by decide)) (fun _ => ?_)
    refine y_go rfl rfl ?_
    refine y_go rfl rfl ?_
    refine y_ic_ne rfl (fun c => absurd (by decide) c) (fun _ => ?_)
    refine y_go rfl rfl ?_
    refine y_V1 rfl (Nat.le_of_ble_eq_true rfl) (Nat.le_of_ble_eq_true rfl) rfl rfl (LW_rcv h7) (t_stock (by omega) h7) ?_
    refine y_go rfl rfl ?_
    refine y_go rfl rfl ?_
    refine y_go rfl rfl ?_
    refine y_ic_ne rfl (fun c => absurd (q3) c) (fun _ => ?_)
    refine y_go rfl rfl ?_
    refine y_S1e rfl rfl (Nat.le_of_ble_eq_true rfl) (Nat.le_of_ble_eq_true rfl) rfl rfl (o_chambers (by omega) h7) (fun s9 h9 => ?_)
    refine y_if_eq rfl (fun c => absurd c (by decide)) (fun _ => ?_)
    refine y_go rfl rfl ?_
    refine y_S1e rfl rfl (Nat.le_of_ble_eq_true rfl) (Nat.le_of_ble_eq_true rfl) rfl rfl (o_undo (by omega) h9 K (H.take 7) rfl) (fun s10 h10 => ?_)
    refine y_if_lt rfl (fun c => absurd c (nI_pos (by rw [List.length_take]; omega))) (fun _ => ?_)
    refine y_go rfl rfl ?_
    refine y_S1e rfl rfl (Nat.le_of_ble_eq_true rfl) (Nat.le_of_ble_eq_true rfl) rfl rfl (o_digest (by omega) h10) (fun s11 h11 => ?_)
    refine y_go rfl rfl ?_
    refine y_go (g' := (251, [.ref 0, .int 5, .int 3, .long (dgs K), xno, .long 2, xno, .int 6, .int (K.1 9), .int 1, .int 6], [.int (lg_cmp (dgs K) (dgs K))], _)) rfl rfl ?_
    rw [lgc_0]
    refine y_if_ne rfl (fun c => absurd (by decide) c) (fun _ => ?_)
    refine y_go rfl rfl ?_
    refine y_go rfl rfl ?_
    exact y_ireturn rfl rfl rfl ⟨_, ⟨_, LW_mono (by omega) h11⟩, rfl⟩
theorem wv_9_2 : wcn 9 2 = 6 ∧ wcn 9 1 = 5 ∧ wcn 9 1 = 5 ∧ fwb 9 2 = 7 ∧ xCn 9 = 5 := by decide +kernel
theorem o_walls_9_2 {S : List Int32} {d : Nat} (hd : 20 ≤ d) {n : Nat} {f sv : Int32} {K V : kK} {H : List kK} {T : List Int32} {s : xS} (hW : LW n f sv K V H T s) (hn : n ≤ 800000) : yT S d 150 [.ref 0, .int 9, .int 2] s (fun r => ∃ s2, LWx (n + 120) f sv K V T s2 ∧ r = (.inl (some (.int 1)), s2)) := by
  obtain ⟨d, rfl⟩ : ∃ e, d = e + 1 := ⟨d - 1, by omega⟩
  obtain ⟨w1, w2, w3, w4, w5⟩ := wv_9_2
  refine yT_e (Nat.le_of_ble_eq_true rfl) ?_
  show yW S d 150 (0, [.ref 0, .int 9, .int 2, xno, xno, xno, xno, xno, xno, xno, xno], [], s) _
  refine y_go rfl rfl ?_
  refine y_S1e rfl rfl (Nat.le_of_ble_eq_true rfl) (Nat.le_of_ble_eq_true rfl) rfl rfl (o_digest (by omega) hW) (fun s1 h1 => ?_)
  refine y_go (g' := (5, [.ref 0, .int 9, .int 2, .long (dgs K), xno, xno, xno, xno, xno, xno, xno], _, _)) rfl rfl ?_
  refine y_go rfl rfl ?_
  refine y_go rfl rfl ?_
  refine y_go rfl rfl ?_
  refine y_V1e rfl (Nat.le_of_ble_eq_true rfl) (Nat.le_of_ble_eq_true rfl) rfl rfl (LW_rcv h1) (t_wallCount (by omega) h1 9 2 (by decide) (by decide)) (fun s2 h2 => ?_)
  rw [w1]
  refine y_go (g' := (13, [.ref 0, .int 9, .int 2, .long (dgs K), xno, .long 6, xno, xno, xno, xno, xno], _, _)) rfl rfl ?_
  refine y_go rfl rfl ?_
  refine y_go rfl rfl ?_
  refine y_go rfl rfl ?_
  refine y_S1e rfl rfl (Nat.le_of_ble_eq_true rfl) (Nat.le_of_ble_eq_true rfl) rfl rfl (o_fewest (by omega) h2 9 2 (by decide) (by decide)) (fun s3 h3 => ?_)
  rw [w4, show nv (-1000) (7) = (7 : Int32) by decide]
  refine y_go (g' := (21, [.ref 0, .int 9, .int 2, .long (dgs K), xno, .long 6, xno, .int 7, xno, xno, xno], _, _)) rfl rfl ?_
  refine y_go rfl rfl ?_
  refine y_V1 rfl (Nat.le_of_ble_eq_true rfl) (Nat.le_of_ble_eq_true rfl) rfl rfl (LW_rcv h3) (t_stock (by omega) h3) ?_
  refine y_go (g' := (27, [.ref 0, .int 9, .int 2, .long (dgs K), xno, .long 6, xno, .int 7, .int (K.1 9), xno, xno], _, _)) rfl rfl ?_
  refine y_go rfl rfl ?_
  refine y_go rfl rfl ?_
  refine y_go rfl rfl ?_
  refine y_V1e rfl (Nat.le_of_ble_eq_true rfl) (Nat.le_of_ble_eq_true rfl) rfl rfl (LW_rcv h3) (t_wallMemory (by omega) h3 9 2 (by decide) (by decide)) (fun s4 h4 => ?_)
  rw [w1]
  refine y_go rfl rfl ?_
  refine y_go (g' := (36, [.ref 0, .int 9, .int 2, .long (dgs K), xno, .long 6, xno, .int 7, .int (K.1 9), xno, xno], [.int (lg_cmp 6 6)], _)) rfl rfl ?_
  rw [lgc_0]
  refine y_if_ne rfl (fun c => absurd (by decide) c) (fun _ => ?_)
  refine y_go rfl rfl ?_
  refine y_go rfl rfl ?_
  refine y_go rfl rfl ?_
  refine y_if_ne rfl (fun _ => ?_) (fun c => absurd c ((by decide)))
  refine y_go rfl rfl ?_
  refine y_go rfl rfl ?_
  refine y_go rfl rfl ?_
  refine y_ic_ne rfl (fun _ => ?_) (fun c => absurd c (by decide))
  refine y_go rfl rfl ?_
  refine y_ic_ne rfl (fun c => absurd (by decide) c) (fun _ => ?_)
  refine y_go rfl rfl ?_
  refine y_go rfl rfl ?_
  refine y_go rfl rfl ?_
  refine y_V1e rfl (Nat.le_of_ble_eq_true rfl) (Nat.le_of_ble_eq_true rfl) rfl rfl (LW_rcv h4) (t_wallCount (by omega) h4 9 1 (by decide) (by decide)) (fun s5 h5 => ?_)
  rw [w3]
  refine y_go rfl rfl ?_
  refine y_go rfl rfl ?_
  refine y_V1 rfl (Nat.le_of_ble_eq_true rfl) (Nat.le_of_ble_eq_true rfl) rfl rfl (LW_rcv h5) (t_courses (by omega) h5 9 (by decide)) ?_
  rw [w5, show nI 5 = (5 : Int32) from rfl]
  refine y_go rfl rfl ?_
  refine y_go rfl rfl ?_
  refine y_if_ne rfl (fun c => absurd ((by decide)) c) (fun _ => ?_)
  refine y_go rfl rfl ?_
  refine y_go rfl rfl ?_
  refine y_ic_eq rfl (fun c => absurd c (by decide)) (fun _ => ?_)
  refine y_go rfl rfl ?_
  refine y_go rfl rfl ?_
  refine y_go rfl rfl ?_
  refine y_go rfl rfl ?_
  refine y_go rfl rfl ?_
  rw [show (2 : Int32) - 1 = 1 by decide]
  refine y_V1e rfl (Nat.le_of_ble_eq_true rfl) (Nat.le_of_ble_eq_true rfl) rfl rfl (LW_rcv h5) (t_wallCount (by omega) h5 9 1 (by decide) (by decide)) (fun s6 h6 => ?_)
  rw [w2]
  refine y_go rfl rfl ?_
  refine y_go rfl rfl ?_
  refine y_if_gt rfl (fun _ => ?_) (fun c => absurd ((by decide)) c)
  refine y_go rfl rfl ?_
  refine y_go rfl rfl ?_
  refine y_go (g' := (115, [.ref 0, .int 9, .int 2, .long (dgs K), xno, .long 6, xno, .int 7, .int (K.1 9), .int 1, xno], _, _)) rfl rfl ?_
  refine y_go rfl rfl ?_
  refine y_if_eq rfl (fun c => absurd c (by decide)) (fun _ => ?_)
  refine y_go rfl rfl ?_
  refine y_go rfl rfl ?_
  refine y_ic_eq rfl (fun c => absurd c (by decide)) (fun _ => ?_)
  refine y_go rfl rfl ?_
  refine y_go rfl rfl ?_
  refine y_go rfl rfl ?_
  refine y_go rfl rfl ?_
  refine y_go rfl rfl ?_
  refine y_go rfl rfl ?_
  refine y_div rfl (by decide) (Or.inl ⟨rfl, rfl⟩) ?_
  refine y_go rfl rfl ?_
  refine y_ic_lt rfl (fun c => absurd c ((by decide))) (fun _ => ?_)
  refine y_go rfl rfl ?_
  refine y_go rfl rfl ?_
  refine y_go rfl rfl ?_
  refine y_go rfl rfl ?_
  refine y_div rfl (by decide) (Or.inl ⟨rfl, rfl⟩) ?_
  refine y_go rfl rfl ?_
  refine y_ic_gt rfl (fun c => absurd c ((by decide))) (fun _ => ?_)
  refine y_go rfl rfl ?_
  refine y_go rfl rfl ?_
  refine y_go (g' := (157, [.ref 0, .int 9, .int 2, .long (dgs K), xno, .long 6, xno, .int 7, .int (K.1 9), .int 1, xno], _, _)) rfl rfl ?_
  refine y_go rfl rfl ?_
  refine y_go rfl rfl ?_
  refine y_go rfl rfl ?_
  refine y_S1e rfl rfl (Nat.le_of_ble_eq_true rfl) (Nat.le_of_ble_eq_true rfl) rfl rfl (o_buildWall (by omega) h6 (by omega) 9 (by decide) 2 (by decide)) (fun s7 h7 => ?_)
  rcases wall_yes (K := K) (w := 9) (k := 2) (F := 7) (by decide) (by decide) w4 (by decide) with ⟨q1, q2⟩ | ⟨q1, q2, q3⟩
  · obtain ⟨v1, v2, v3⟩ := opV_no q2 rfl
    rw [v1]
    rw [v2, v3] at h7
    refine y_go (g' := (165, [.ref 0, .int 9, .int 2, .long (dgs K), xno, .long 6, xno, .int 7, .int (K.1 9), .int 1, .int (-100000000)], _, _)) rfl rfl ?_
    refine y_go rfl rfl ?_
    refine y_go rfl rfl ?_
    refine y_ic_ne rfl (fun c => absurd (by decide) c) (fun _ => ?_)
    refine y_go rfl rfl ?_
    refine y_if_eq rfl (fun c => absurd c (by decide)) (fun _ => ?_)
    refine y_go rfl rfl ?_
    refine y_go rfl rfl ?_
    refine y_ic_eq rfl (fun c => absurd c (by decide)) (fun _ => ?_)
    refine y_go rfl rfl ?_
    refine y_go rfl rfl ?_
    refine y_ic_ge rfl (fun c => absurd (q1) c) (fun _ => ?_)
    refine y_go rfl rfl ?_
    refine y_S1e rfl rfl (Nat.le_of_ble_eq_true rfl) (Nat.le_of_ble_eq_true rfl) rfl rfl (o_digest (by omega) h7) (fun s8 h8 => ?_)
    refine y_go rfl rfl ?_
    refine y_go (g' := (198, [.ref 0, .int 9, .int 2, .long (dgs K), xno, .long 6, xno, .int 7, .int (K.1 9), .int 1, .int (-100000000)], [.int (lg_cmp (dgs K) (dgs K))], _)) rfl rfl ?_
    rw [lgc_0]
    refine y_if_ne rfl (fun c => absurd (by decide) c) (fun _ => ?_)
    refine y_go rfl rfl ?_
    refine y_go rfl rfl ?_
    exact y_ireturn rfl rfl rfl ⟨_, ⟨_, LW_mono (by omega) h8⟩, rfl⟩
  · obtain ⟨v1, v3⟩ := opV_yes q2 (by decide)
    rw [v1]
    rw [v3] at h7
    rw [show nI 7 = 7 from rfl]
    generalize (cmdX 9 9 2 K).2 = K2 at h7 q3
    refine y_go (g' := (165, [.ref 0, .int 9, .int 2, .long (dgs K), xno, .long 6, xno, .int 7, .int (K.1 9), .int 1, .int 7], _, _)) rfl rfl ?_
    refine y_go rfl rfl ?_
    refine y_go rfl rfl ?_
    refine y_ic_ne rfl (fun _ => ?_) (fun c => absurd c (by decide))
    refine y_go rfl rfl ?_
    refine y_if_eq rfl (fun c => absurd c (by decide)) (fun _ => ?_)
    refine y_go rfl rfl ?_
    refine y_go rfl rfl ?_
    refine y_ic_ne rfl (fun c => absurd (by decide) c) (fun _ => ?_)
    refine y_go rfl rfl ?_
    refine y_V1 rfl (Nat.le_of_ble_eq_true rfl) (Nat.le_of_ble_eq_true rfl) rfl rfl (LW_rcv h7) (t_stock (by omega) h7) ?_
    refine y_go rfl rfl ?_
    refine y_go rfl rfl ?_
    refine y_go rfl rfl ?_
    refine y_ic_ne rfl (fun c => absurd (q3) c) (fun _ => ?_)
    refine y_go rfl rfl ?_
    refine y_S1e rfl rfl (Nat.le_of_ble_eq_true rfl) (Nat.le_of_ble_eq_true rfl) rfl rfl (o_chambers (by omega) h7) (fun s9 h9 => ?_)
    refine y_if_eq rfl (fun c => absurd c (by decide)) (fun _ => ?_)
    refine y_go rfl rfl ?_
    refine y_S1e rfl rfl (Nat.le_of_ble_eq_true rfl) (Nat.le_of_ble_eq_true rfl) rfl rfl (o_undo (by omega) h9 K (H.take 7) rfl) (fun s10 h10 => ?_)
    refine y_if_lt rfl (fun c => absurd c (nI_pos (by rw [List.length_take]; omega))) (fun _ => ?_)
    refine y_go rfl rfl ?_
    refine y_S1e rfl rfl (Nat.le_of_ble_eq_true rfl) (Nat.le_of_ble_eq_true rfl) rfl rfl (o_digest (by omega) h10) (fun s11 h11 => ?_)
    refine y_go rfl rfl ?_
    refine y_go (g' := (251, [.ref 0, .int 9, .int 2, .long (dgs K), xno, .long 6, xno, .int 7, .int (K.1 9), .int 1, .int 7], [.int (lg_cmp (dgs K) (dgs K))], _)) rfl rfl ?_
    rw [lgc_0]
    refine y_if_ne rfl (fun c => absurd (by decide) c) (fun _ => ?_)
    refine y_go rfl rfl ?_
    refine y_go rfl rfl ?_
    exact y_ireturn rfl rfl rfl ⟨_, ⟨_, LW_mono (by omega) h11⟩, rfl⟩
theorem wv_4_2 : wcn 4 2 = 0 ∧ wcn 4 1 = 1 ∧ wcn 4 1 = 1 ∧ fwb 4 2 = -5 ∧ xCn 4 = 1 := by decide +kernel
theorem o_walls_4_2 {S : List Int32} {d : Nat} (hd : 20 ≤ d) {n : Nat} {f sv : Int32} {K V : kK} {H : List kK} {T : List Int32} {s : xS} (hW : LW n f sv K V H T s) (hn : n ≤ 800000) : yT S d 150 [.ref 0, .int 4, .int 2] s (fun r => ∃ s2, LWx (n + 120) f sv K V T s2 ∧ r = (.inl (some (.int 1)), s2)) := by
  obtain ⟨d, rfl⟩ : ∃ e, d = e + 1 := ⟨d - 1, by omega⟩
  obtain ⟨w1, w2, w3, w4, w5⟩ := wv_4_2
  refine yT_e (Nat.le_of_ble_eq_true rfl) ?_
  show yW S d 150 (0, [.ref 0, .int 4, .int 2, xno, xno, xno, xno, xno, xno, xno, xno], [], s) _
  refine y_go rfl rfl ?_
  refine y_S1e rfl rfl (Nat.le_of_ble_eq_true rfl) (Nat.le_of_ble_eq_true rfl) rfl rfl (o_digest (by omega) hW) (fun s1 h1 => ?_)
  refine y_go (g' := (5, [.ref 0, .int 4, .int 2, .long (dgs K), xno, xno, xno, xno, xno, xno, xno], _, _)) rfl rfl ?_
  refine y_go rfl rfl ?_
  refine y_go rfl rfl ?_
  refine y_go rfl rfl ?_
  refine y_V1e rfl (Nat.le_of_ble_eq_true rfl) (Nat.le_of_ble_eq_true rfl) rfl rfl (LW_rcv h1) (t_wallCount (by omega) h1 4 2 (by decide) (by decide)) (fun s2 h2 => ?_)
  rw [w1]
  refine y_go (g' := (13, [.ref 0, .int 4, .int 2, .long (dgs K), xno, .long 0, xno, xno, xno, xno, xno], _, _)) rfl rfl ?_
  refine y_go rfl rfl ?_
  refine y_go rfl rfl ?_
  refine y_go rfl rfl ?_
  refine y_S1e rfl rfl (Nat.le_of_ble_eq_true rfl) (Nat.le_of_ble_eq_true rfl) rfl rfl (o_fewest (by omega) h2 4 2 (by decide) (by decide)) (fun s3 h3 => ?_)
  rw [w4, show nv (-1000) (-5) = (-1000 : Int32) by decide]
  refine y_go (g' := (21, [.ref 0, .int 4, .int 2, .long (dgs K), xno, .long 0, xno, .int (-1000), xno, xno, xno], _, _)) rfl rfl ?_
  refine y_go rfl rfl ?_
  refine y_V1 rfl (Nat.le_of_ble_eq_true rfl) (Nat.le_of_ble_eq_true rfl) rfl rfl (LW_rcv h3) (t_stock (by omega) h3) ?_
  refine y_go (g' := (27, [.ref 0, .int 4, .int 2, .long (dgs K), xno, .long 0, xno, .int (-1000), .int (K.1 9), xno, xno], _, _)) rfl rfl ?_
  refine y_go rfl rfl ?_
  refine y_go rfl rfl ?_
  refine y_go rfl rfl ?_
  refine y_V1e rfl (Nat.le_of_ble_eq_true rfl) (Nat.le_of_ble_eq_true rfl) rfl rfl (LW_rcv h3) (t_wallMemory (by omega) h3 4 2 (by decide) (by decide)) (fun s4 h4 => ?_)
  rw [w1]
  refine y_go rfl rfl ?_
  refine y_go (g' := (36, [.ref 0, .int 4, .int 2, .long (dgs K), xno, .long 0, xno, .int (-1000), .int (K.1 9), xno, xno], [.int (lg_cmp 0 0)], _)) rfl rfl ?_
  rw [lgc_0]
  refine y_if_ne rfl (fun c => absurd (by decide) c) (fun _ => ?_)
  refine y_go rfl rfl ?_
  refine y_go rfl rfl ?_
  refine y_go rfl rfl ?_
  refine y_if_ne rfl (fun c => absurd ((by decide)) c) (fun _ => ?_)
  refine y_go rfl rfl ?_
  refine y_go rfl rfl ?_
  refine y_go rfl rfl ?_
  refine y_go rfl rfl ?_
  refine y_ic_ne rfl (fun c => absurd (by decide) c) (fun _ => ?_)
  refine y_go rfl rfl ?_
  refine y_go rfl rfl ?_
  refine y_ic_ne rfl (fun c => absurd (by decide) c) (fun _ => ?_)
  refine y_go rfl rfl ?_
  refine y_go rfl rfl ?_
  refine y_go rfl rfl ?_
  refine y_V1e rfl (Nat.le_of_ble_eq_true rfl) (Nat.le_of_ble_eq_true rfl) rfl rfl (LW_rcv h4) (t_wallCount (by omega) h4 4 1 (by decide) (by decide)) (fun s5 h5 => ?_)
  rw [w3]
  refine y_go rfl rfl ?_
  refine y_go rfl rfl ?_
  refine y_V1 rfl (Nat.le_of_ble_eq_true rfl) (Nat.le_of_ble_eq_true rfl) rfl rfl (LW_rcv h5) (t_courses (by omega) h5 4 (by decide)) ?_
  rw [w5, show nI 1 = (1 : Int32) from rfl]
  refine y_go rfl rfl ?_
  refine y_go rfl rfl ?_
  refine y_if_ne rfl (fun c => absurd ((by decide)) c) (fun _ => ?_)
  refine y_go rfl rfl ?_
  refine y_go rfl rfl ?_
  refine y_ic_eq rfl (fun c => absurd c (by decide)) (fun _ => ?_)
  refine y_go rfl rfl ?_
  refine y_go rfl rfl ?_
  refine y_go rfl rfl ?_
  refine y_go rfl rfl ?_
  refine y_go rfl rfl ?_
  rw [show (2 : Int32) - 1 = 1 by decide]
  refine y_V1e rfl (Nat.le_of_ble_eq_true rfl) (Nat.le_of_ble_eq_true rfl) rfl rfl (LW_rcv h5) (t_wallCount (by omega) h5 4 1 (by decide) (by decide)) (fun s6 h6 => ?_)
  rw [w2]
  refine y_go rfl rfl ?_
  refine y_go rfl rfl ?_
  refine y_if_gt rfl (fun _ => ?_) (fun c => absurd ((by decide)) c)
  refine y_go rfl rfl ?_
  refine y_go rfl rfl ?_
  refine y_go (g' := (115, [.ref 0, .int 4, .int 2, .long (dgs K), xno, .long 0, xno, .int (-1000), .int (K.1 9), .int 1, xno], _, _)) rfl rfl ?_
  refine y_go rfl rfl ?_
  refine y_if_eq rfl (fun c => absurd c (by decide)) (fun _ => ?_)
  refine y_go rfl rfl ?_
  refine y_go rfl rfl ?_
  refine y_ic_eq rfl (fun _ => ?_) (fun c => absurd (by decide) c)
  refine y_go rfl rfl ?_
  refine y_go rfl rfl ?_
  refine y_go (g' := (157, [.ref 0, .int 4, .int 2, .long (dgs K), xno, .long 0, xno, .int (-1000), .int (K.1 9), .int 1, xno], _, _)) rfl rfl ?_
  refine y_go rfl rfl ?_
  refine y_go rfl rfl ?_
  refine y_go rfl rfl ?_
  refine y_S1e rfl rfl (Nat.le_of_ble_eq_true rfl) (Nat.le_of_ble_eq_true rfl) rfl rfl (o_buildWall (by omega) h6 (by omega) 4 (by decide) 2 (by decide)) (fun s7 h7 => ?_)
  obtain ⟨v1, v2, v3⟩ := opV_no (wall_no (K := K) (w := 4) (k := 2) (by decide) (by decide) w4) rfl
  rw [v1]
  rw [v2, v3] at h7
  refine y_go (g' := (165, [.ref 0, .int 4, .int 2, .long (dgs K), xno, .long 0, xno, .int (-1000), .int (K.1 9), .int 1, .int (-100000000)], _, _)) rfl rfl ?_
  refine y_go rfl rfl ?_
  refine y_go rfl rfl ?_
  refine y_ic_ne rfl (fun c => absurd (by decide) c) (fun _ => ?_)
  refine y_go rfl rfl ?_
  refine y_if_eq rfl (fun c => absurd c (by decide)) (fun _ => ?_)
  refine y_go rfl rfl ?_
  refine y_go rfl rfl ?_
  refine y_ic_eq rfl (fun _ => ?_) (fun c => absurd (by decide) c)
  refine y_go rfl rfl ?_
  refine y_S1e rfl rfl (Nat.le_of_ble_eq_true rfl) (Nat.le_of_ble_eq_true rfl) rfl rfl (o_digest (by omega) h7) (fun s8 h8 => ?_)
  refine y_go rfl rfl ?_
  refine y_go (g' := (198, [.ref 0, .int 4, .int 2, .long (dgs K), xno, .long 0, xno, .int (-1000), .int (K.1 9), .int 1, .int (-100000000)], [.int (lg_cmp (dgs K) (dgs K))], _)) rfl rfl ?_
  rw [lgc_0]
  refine y_if_ne rfl (fun c => absurd (by decide) c) (fun _ => ?_)
  refine y_go rfl rfl ?_
  refine y_go rfl rfl ?_
  exact y_ireturn rfl rfl rfl ⟨_, ⟨_, LW_mono (by omega) h8⟩, rfl⟩
theorem wv_12_4 : wcn 12 4 = 52 ∧ wcn 12 3 = 32 ∧ wcn 12 1 = 12 ∧ fwb 12 4 = 18 ∧ xCn 12 = 12 := by decide +kernel
theorem o_walls_12_4 {S : List Int32} {d : Nat} (hd : 20 ≤ d) {n : Nat} {f sv : Int32} {K V : kK} {H : List kK} {T : List Int32} {s : xS} (hW : LW n f sv K V H T s) (hn : n ≤ 800000) : yT S d 150 [.ref 0, .int 12, .int 4] s (fun r => ∃ s2, LWx (n + 120) f sv K V T s2 ∧ r = (.inl (some (.int 1)), s2)) := by
  obtain ⟨d, rfl⟩ : ∃ e, d = e + 1 := ⟨d - 1, by omega⟩
  obtain ⟨w1, w2, w3, w4, w5⟩ := wv_12_4
  refine yT_e (Nat.le_of_ble_eq_true rfl) ?_
  show yW S d 150 (0, [.ref 0, .int 12, .int 4, xno, xno, xno, xno, xno, xno, xno, xno], [], s) _
  refine y_go rfl rfl ?_
  refine y_S1e rfl rfl (Nat.le_of_ble_eq_true rfl) (Nat.le_of_ble_eq_true rfl) rfl rfl (o_digest (by omega) hW) (fun s1 h1 => ?_)
  refine y_go (g' := (5, [.ref 0, .int 12, .int 4, .long (dgs K), xno, xno, xno, xno, xno, xno, xno], _, _)) rfl rfl ?_
  refine y_go rfl rfl ?_
  refine y_go rfl rfl ?_
  refine y_go rfl rfl ?_
  refine y_V1e rfl (Nat.le_of_ble_eq_true rfl) (Nat.le_of_ble_eq_true rfl) rfl rfl (LW_rcv h1) (t_wallCount (by omega) h1 12 4 (by decide) (by decide)) (fun s2 h2 => ?_)
  rw [w1]
  refine y_go (g' := (13, [.ref 0, .int 12, .int 4, .long (dgs K), xno, .long 52, xno, xno, xno, xno, xno], _, _)) rfl rfl ?_
  refine y_go rfl rfl ?_
  refine y_go rfl rfl ?_
  refine y_go rfl rfl ?_
  refine y_S1e rfl rfl (Nat.le_of_ble_eq_true rfl) (Nat.le_of_ble_eq_true rfl) rfl rfl (o_fewest (by omega) h2 12 4 (by decide) (by decide)) (fun s3 h3 => ?_)
  rw [w4, show nv (-1000) (18) = (18 : Int32) by decide]
  refine y_go (g' := (21, [.ref 0, .int 12, .int 4, .long (dgs K), xno, .long 52, xno, .int 18, xno, xno, xno], _, _)) rfl rfl ?_
  refine y_go rfl rfl ?_
  refine y_V1 rfl (Nat.le_of_ble_eq_true rfl) (Nat.le_of_ble_eq_true rfl) rfl rfl (LW_rcv h3) (t_stock (by omega) h3) ?_
  refine y_go (g' := (27, [.ref 0, .int 12, .int 4, .long (dgs K), xno, .long 52, xno, .int 18, .int (K.1 9), xno, xno], _, _)) rfl rfl ?_
  refine y_go rfl rfl ?_
  refine y_go rfl rfl ?_
  refine y_go rfl rfl ?_
  refine y_V1e rfl (Nat.le_of_ble_eq_true rfl) (Nat.le_of_ble_eq_true rfl) rfl rfl (LW_rcv h3) (t_wallMemory (by omega) h3 12 4 (by decide) (by decide)) (fun s4 h4 => ?_)
  rw [w1]
  refine y_go rfl rfl ?_
  refine y_go (g' := (36, [.ref 0, .int 12, .int 4, .long (dgs K), xno, .long 52, xno, .int 18, .int (K.1 9), xno, xno], [.int (lg_cmp 52 52)], _)) rfl rfl ?_
  rw [lgc_0]
  refine y_if_ne rfl (fun c => absurd (by decide) c) (fun _ => ?_)
  refine y_go rfl rfl ?_
  refine y_go rfl rfl ?_
  refine y_go rfl rfl ?_
  refine y_if_ne rfl (fun _ => ?_) (fun c => absurd c ((by decide)))
  refine y_go rfl rfl ?_
  refine y_go rfl rfl ?_
  refine y_go rfl rfl ?_
  refine y_ic_ne rfl (fun _ => ?_) (fun c => absurd c (by decide))
  refine y_go rfl rfl ?_
  refine y_ic_ne rfl (fun c => absurd (by decide) c) (fun _ => ?_)
  refine y_go rfl rfl ?_
  refine y_go rfl rfl ?_
  refine y_go rfl rfl ?_
  refine y_V1e rfl (Nat.le_of_ble_eq_true rfl) (Nat.le_of_ble_eq_true rfl) rfl rfl (LW_rcv h4) (t_wallCount (by omega) h4 12 1 (by decide) (by decide)) (fun s5 h5 => ?_)
  rw [w3]
  refine y_go rfl rfl ?_
  refine y_go rfl rfl ?_
  refine y_V1 rfl (Nat.le_of_ble_eq_true rfl) (Nat.le_of_ble_eq_true rfl) rfl rfl (LW_rcv h5) (t_courses (by omega) h5 12 (by decide)) ?_
  rw [w5, show nI 12 = (12 : Int32) from rfl]
  refine y_go rfl rfl ?_
  refine y_go rfl rfl ?_
  refine y_if_ne rfl (fun c => absurd ((by decide)) c) (fun _ => ?_)
  refine y_go rfl rfl ?_
  refine y_go rfl rfl ?_
  refine y_ic_eq rfl (fun c => absurd c (by decide)) (fun _ => ?_)
  refine y_go rfl rfl ?_
  refine y_go rfl rfl ?_
  refine y_go rfl rfl ?_
  refine y_go rfl rfl ?_
  refine y_go rfl rfl ?_
  rw [show (4 : Int32) - 1 = 3 by decide]
  refine y_V1e rfl (Nat.le_of_ble_eq_true rfl) (Nat.le_of_ble_eq_true rfl) rfl rfl (LW_rcv h5) (t_wallCount (by omega) h5 12 3 (by decide) (by decide)) (fun s6 h6 => ?_)
  rw [w2]
  refine y_go rfl rfl ?_
  refine y_go rfl rfl ?_
  refine y_if_gt rfl (fun _ => ?_) (fun c => absurd ((by decide)) c)
  refine y_go rfl rfl ?_
  refine y_go rfl rfl ?_
  refine y_go (g' := (115, [.ref 0, .int 12, .int 4, .long (dgs K), xno, .long 52, xno, .int 18, .int (K.1 9), .int 1, xno], _, _)) rfl rfl ?_
  refine y_go rfl rfl ?_
  refine y_if_eq rfl (fun c => absurd c (by decide)) (fun _ => ?_)
  refine y_go rfl rfl ?_
  refine y_go rfl rfl ?_
  refine y_ic_eq rfl (fun c => absurd c (by decide)) (fun _ => ?_)
  refine y_go rfl rfl ?_
  refine y_go rfl rfl ?_
  refine y_go rfl rfl ?_
  refine y_go rfl rfl ?_
  refine y_go rfl rfl ?_
  refine y_go rfl rfl ?_
  refine y_div rfl (by decide) (Or.inl ⟨rfl, rfl⟩) ?_
  refine y_go rfl rfl ?_
  refine y_ic_lt rfl (fun c => absurd c ((by decide))) (fun _ => ?_)
  refine y_go rfl rfl ?_
  refine y_go rfl rfl ?_
  refine y_go rfl rfl ?_
  refine y_go rfl rfl ?_
  refine y_div rfl (by decide) (Or.inl ⟨rfl, rfl⟩) ?_
  refine y_go rfl rfl ?_
  refine y_ic_gt rfl (fun c => absurd c ((by decide))) (fun _ => ?_)
  refine y_go rfl rfl ?_
  refine y_go rfl rfl ?_
  refine y_go (g' := (157, [.ref 0, .int 12, .int 4, .long (dgs K), xno, .long 52, xno, .int 18, .int (K.1 9), .int 1, xno], _, _)) rfl rfl ?_
  refine y_go rfl rfl ?_
  refine y_go rfl rfl ?_
  refine y_go rfl rfl ?_
  refine y_S1e rfl rfl (Nat.le_of_ble_eq_true rfl) (Nat.le_of_ble_eq_true rfl) rfl rfl (o_buildWall (by omega) h6 (by omega) 12 (by decide) 4 (by decide)) (fun s7 h7 => ?_)
  rcases wall_yes (K := K) (w := 12) (k := 4) (F := 18) (by decide) (by decide) w4 (by decide) with ⟨q1, q2⟩ | ⟨q1, q2, q3⟩
  · obtain ⟨v1, v2, v3⟩ := opV_no q2 rfl
    rw [v1]
    rw [v2, v3] at h7
    refine y_go (g' := (165, [.ref 0, .int 12, .int 4, .long (dgs K), xno, .long 52, xno, .int 18, .int (K.1 9), .int 1, .int (-100000000)], _, _)) rfl rfl ?_
    refine y_go rfl rfl ?_
    refine y_go rfl rfl ?_
    refine y_ic_ne rfl (fun c => absurd (by decide) c) (fun _ => ?_)
    refine y_go rfl rfl ?_
    refine y_if_eq rfl (fun c => absurd c (by decide)) (fun _ => ?_)
    refine y_go rfl rfl ?_
    refine y_go rfl rfl ?_
    refine y_ic_eq rfl (fun c => absurd c (by decide)) (fun _ => ?_)
    refine y_go rfl rfl ?_
    refine y_go rfl rfl ?_
    refine y_ic_ge rfl (fun c => absurd (q1) c) (fun _ => ?_)
    refine y_go rfl rfl ?_
    refine y_S1e rfl rfl (Nat.le_of_ble_eq_true rfl) (Nat.le_of_ble_eq_true rfl) rfl rfl (o_digest (by omega) h7) (fun s8 h8 => ?_)
    refine y_go rfl rfl ?_
    refine y_go (g' := (198, [.ref 0, .int 12, .int 4, .long (dgs K), xno, .long 52, xno, .int 18, .int (K.1 9), .int 1, .int (-100000000)], [.int (lg_cmp (dgs K) (dgs K))], _)) rfl rfl ?_
    rw [lgc_0]
    refine y_if_ne rfl (fun c => absurd (by decide) c) (fun _ => ?_)
    refine y_go rfl rfl ?_
    refine y_go rfl rfl ?_
    exact y_ireturn rfl rfl rfl ⟨_, ⟨_, LW_mono (by omega) h8⟩, rfl⟩
  · obtain ⟨v1, v3⟩ := opV_yes q2 (by decide)
    rw [v1]
    rw [v3] at h7
    rw [show nI 18 = 18 from rfl]
    generalize (cmdX 9 12 4 K).2 = K2 at h7 q3
    refine y_go (g' := (165, [.ref 0, .int 12, .int 4, .long (dgs K), xno, .long 52, xno, .int 18, .int (K.1 9), .int 1, .int 18], _, _)) rfl rfl ?_
    refine y_go rfl rfl ?_
    refine y_go rfl rfl ?_
    refine y_ic_ne rfl (fun _ => ?_) (fun c => absurd c (by decide))
    refine y_go rfl rfl ?_
    refine y_if_eq rfl (fun c => absurd c (by decide)) (fun _ => ?_)
    refine y_go rfl rfl ?_
    refine y_go rfl rfl ?_
    refine y_ic_ne rfl (fun c => absurd (by decide) c) (fun _ => ?_)
    refine y_go rfl rfl ?_
    refine y_V1 rfl (Nat.le_of_ble_eq_true rfl) (Nat.le_of_ble_eq_true rfl) rfl rfl (LW_rcv h7) (t_stock (by omega) h7) ?_
    refine y_go rfl rfl ?_
    refine y_go rfl rfl ?_
    refine y_go rfl rfl ?_
    refine y_ic_ne rfl (fun c => absurd (q3) c) (fun _ => ?_)
    refine y_go rfl rfl ?_
    refine y_S1e rfl rfl (Nat.le_of_ble_eq_true rfl) (Nat.le_of_ble_eq_true rfl) rfl rfl (o_chambers (by omega) h7) (fun s9 h9 => ?_)
    refine y_if_eq rfl (fun c => absurd c (by decide)) (fun _ => ?_)
    refine y_go rfl rfl ?_
    refine y_S1e rfl rfl (Nat.le_of_ble_eq_true rfl) (Nat.le_of_ble_eq_true rfl) rfl rfl (o_undo (by omega) h9 K (H.take 7) rfl) (fun s10 h10 => ?_)
    refine y_if_lt rfl (fun c => absurd c (nI_pos (by rw [List.length_take]; omega))) (fun _ => ?_)
    refine y_go rfl rfl ?_
    refine y_S1e rfl rfl (Nat.le_of_ble_eq_true rfl) (Nat.le_of_ble_eq_true rfl) rfl rfl (o_digest (by omega) h10) (fun s11 h11 => ?_)
    refine y_go rfl rfl ?_
    refine y_go (g' := (251, [.ref 0, .int 12, .int 4, .long (dgs K), xno, .long 52, xno, .int 18, .int (K.1 9), .int 1, .int 18], [.int (lg_cmp (dgs K) (dgs K))], _)) rfl rfl ?_
    rw [lgc_0]
    refine y_if_ne rfl (fun c => absurd (by decide) c) (fun _ => ?_)
    refine y_go rfl rfl ?_
    refine y_go rfl rfl ?_
    exact y_ireturn rfl rfl rfl ⟨_, ⟨_, LW_mono (by omega) h11⟩, rfl⟩
