/-! THE LAW: what is asked of the mixtures. -/
theorem kp_gd {K : kK} (h : kp K) : (gd K.2.2.2.2.1 0 = nI (pN K 0) ∧ gd K.2.2.2.2.1 1 = nI (pN K 1) ∧ gd K.2.2.2.2.1 2 = nI (pN K 2)) ∧ gd K.2.2.2.2.2 0 = nI (rN K 0) ∧ gd K.2.2.2.2.2 1 = nI (rN K 1) ∧ gd K.2.2.2.2.2 2 = nI (rN K 2) := by
  obtain ⟨h1, h2, -⟩ := kp_eq h
  rw [h1, h2]
  exact ⟨⟨rfl, rfl, rfl⟩, rfl, rfl, rfl⟩
theorem heat_eq (w c o : Nat) : 3 * nI w + 8 * nI c + 12 * nI o = nI (mheat w c o) := by
  rw [show (3 : Int32) = nI 3 from rfl, show (8 : Int32) = nI 8 from rfl, show (12 : Int32) = nI 12 from rfl, nI_mul, nI_mul, nI_mul, nI_add, nI_add]
  unfold mheat
  congr 1
  omega
theorem cost_eq (a b e w c o : Nat) : nI (mcost a b e w c o) = nI w * nI a + nI c * nI b + nI o * nI e := by
  rw [nI_mul, nI_mul, nI_mul, nI_add, nI_add]
theorem feed_no {K : kK} (hp : kp K) {u : Nat} (hu : 1 ≤ u ∧ u ≤ 200) (hb : bst K u = none) : cmdX 7 u 0 K = (-4, K) := by
  obtain ⟨z1, z2, -⟩ := kp_eq hp
  show feedK u K = _
  unfold feedK
  rw [feedX_none hu hb, ← z1, ← z2]
theorem feed_yes {K : kK} (hp : kp K) {u : Nat} (hu : 1 ≤ u ∧ u ≤ 200) {w c o : Nat} (hb : bst K u = some (w, c, o)) : (999 < K.1 2 + nI (mheat w c o) ∧ cmdX 7 u 0 K = (-3, K)) ∨ (¬ 999 < K.1 2 + nI (mheat w c o) ∧ (cmdX 7 u 0 K).1 = nI (mcost (rN K 0) (rN K 1) (rN K 2) w c o) ∧ (cmdX 7 u 0 K).2.1 2 = K.1 2 + nI (mheat w c o) ∧ (cmdX 7 u 0 K).2.1 14 = K.1 14 + nI (mcost (rN K 0) (rN K 1) (rN K 2) w c o)) := by
  obtain ⟨z1, z2, -⟩ := kp_eq hp
  have e : cmdX 7 u 0 K = feedX u K.1 K.2.1 K.2.2.1 K.2.2.2.1 (pN K 0) (pN K 1) (pN K 2) (rN K 0) (rN K 1) (rN K 2) := rfl
  rw [e, feedX_some hu hb]
  unfold burnX
  by_cases q : 999 < K.1 2 + nI (mheat w c o)
  · rw [if_pos q]
    exact Or.inl ⟨q, by rw [← z1, ← z2]⟩
  · rw [if_neg q]
    exact Or.inr ⟨q, rfl, rfl, rfl⟩
theorem opV_no {c a b : Nat} {K : kK} {v : Int32} {E : String} (h : cmdX c a b K = (v, K)) (hv : xcode v = some E) : opV c a b K = -100000000 ∧ (cmdX c a b K).2 = K ∧ ∀ H, opH c a b K H = H := by
  unfold opV opH
  rw [h]
  have hx : ¬ xcode v = none := by rw [hv]; exact fun z => (by cases z)
  exact ⟨if_neg hx, rfl, fun H => if_neg hx⟩
theorem opV_yes {c a b : Nat} {K : kK} {v : Nat} (h : (cmdX c a b K).1 = nI v) (hv : v < 2 ^ 31) : opV c a b K = nI v ∧ ∀ H, opH c a b K H = K :: H.take 7 := by
  unfold opV opH
  have hx : xcode (nI v) = none := xcode_pos (nI_pos hv)
  rw [h]
  exact ⟨if_pos hx, fun H => by rw [if_pos hx]; rfl⟩
theorem lcmp_0 {x : Int64} : ¬ lg_cmp x x ≠ 0 := by rw [lgc_0]; decide
theorem nI_big {v : Nat} (h : v < 2 ^ 31) : ¬ nI v = -100000000 := fun q => nI_pos h (by rw [q]; decide)
theorem nI_no1000 {v : Nat} (h : v < 2 ^ 31) : ¬ nI v = -1000 := fun q => nI_pos h (by rw [q]; decide)
theorem tight_lt {m u k x : Nat} (hm : m ≤ 3000) (hu : u ≤ 200) (hkm : x ≠ 0 → k ≤ m) (h : x = 0 ∨ m < u + k) (hx : ¬ nI x = 0) : nI m - nI k < nI u := by
  have x0 : x ≠ 0 := fun z => hx (by rw [z]; rfl)
  rcases h with h | h
  · exact absurd h x0
  · have := hkm x0
    rw [nI_sub this]
    exact nI_lt (by omega) (by omega)
/-- the world again with some history -/
def LWx (n : Nat) (f sv : Int32) (K V : kK) (T : List Int32) (s : xS) : Prop := ∃ H, LW n f sv K V H T s
theorem l_mix2 {S : List Int32} {d : Nat} (hd : 15 ≤ d) {n : Nat} {f sv : Int32} {K V : kK} {H : List kK} {T : List Int32} (u : Nat) (hu : 1 ≤ u ∧ u ≤ 200) {w cl oo : Nat} (hb : bst K u = some (w, cl, oo)) (x10 : Value) (s : xS) (hW : LW n f sv K V H T s) (hn : n ≤ 900000) {Q : xR → Prop} (hQ : ∀ s2, LWx (n + 10) f sv K V T s2 → Q (.inl (some (.int 1)), s2)) : yW S d 149 (252, [.ref 0, .int (nI u), .long (dgs K), xno, .int (nI (mcost (rN K 0) (rN K 1) (rN K 2) w cl oo)), .int (K.1 2), .int (nI w), .int (nI cl), .int (nI oo), .int (nI (mheat w cl oo)), x10, xno, xno], [], s) Q := by
  have hp := hW.2.1.1.2
  obtain ⟨b1, b2, b3, b4, b5, b6, b7, b8, b9⟩ := bst_facts hp hb
  obtain ⟨z1, z2, z3, z4, z5, z6⟩ := (kp_eq hp).2.2
  refine y_go rfl rfl ?_
  refine y_go rfl rfl ?_
  refine y_go (g' := (259, [.ref 0, .int (nI u), .long (dgs K), xno, .int (nI (mcost (rN K 0) (rN K 1) (rN K 2) w cl oo)), .int (K.1 2), .int (nI w), .int (nI cl), .int (nI oo), .int (nI (mheat w cl oo)), .int 1, xno, xno], _, _)) rfl rfl ?_
  refine y_go rfl rfl ?_
  refine y_if_eq rfl (fun c => absurd c (by decide)) (fun _ => ?_)
  refine y_go rfl rfl ?_
  suffices k1 : yW S d 149 (277, [.ref 0, .int (nI u), .long (dgs K), xno, .int (nI (mcost (rN K 0) (rN K 1) (rN K 2) w cl oo)), .int (K.1 2), .int (nI w), .int (nI cl), .int (nI oo), .int (nI (mheat w cl oo)), .int 1, xno, xno], [], s) Q by
    refine y_if_eq rfl (fun c266 => ?_) (fun c266 => ?_)
    · exact k1
    · refine y_go rfl rfl ?_
      refine y_go rfl rfl ?_
      refine y_go rfl rfl ?_
      refine y_go rfl rfl ?_
      refine y_ic_ge rfl (fun c => absurd (tight_lt (k := 3) (by omega) (by omega) (fun z => by unfold mheat; omega) b7 c266) c) (fun _ => ?_)
      exact k1
  refine y_go rfl rfl ?_
  suffices k2 : yW S d 149 (291, [.ref 0, .int (nI u), .long (dgs K), xno, .int (nI (mcost (rN K 0) (rN K 1) (rN K 2) w cl oo)), .int (K.1 2), .int (nI w), .int (nI cl), .int (nI oo), .int (nI (mheat w cl oo)), .int 1, xno, xno], [], s) Q by
    refine y_if_eq rfl (fun c279 => ?_) (fun c279 => ?_)
    · exact k2
    · refine y_go rfl rfl ?_
      refine y_go rfl rfl ?_
      refine y_go rfl rfl ?_
      refine y_go rfl rfl ?_
      refine y_ic_ge rfl (fun c => absurd (tight_lt (k := 8) (by omega) (by omega) (fun z => by unfold mheat; omega) b8 c279) c) (fun _ => ?_)
      exact k2
  refine y_go rfl rfl ?_
  suffices k3 : yW S d 149 (305, [.ref 0, .int (nI u), .long (dgs K), xno, .int (nI (mcost (rN K 0) (rN K 1) (rN K 2) w cl oo)), .int (K.1 2), .int (nI w), .int (nI cl), .int (nI oo), .int (nI (mheat w cl oo)), .int 1, xno, xno], [], s) Q by
    refine y_if_eq rfl (fun c293 => ?_) (fun c293 => ?_)
    · exact k3
    · refine y_go rfl rfl ?_
      refine y_go rfl rfl ?_
      refine y_go rfl rfl ?_
      refine y_go rfl rfl ?_
      refine y_ic_ge rfl (fun c => absurd (tight_lt (k := 12) (by omega) (by omega) (fun z => by unfold mheat; omega) b9 c293) c) (fun _ => ?_)
      exact k3
  refine y_go rfl rfl ?_
  refine y_go rfl rfl ?_
  refine y_go (g' := (312, [.ref 0, .int (nI u), .long (dgs K), xno, .int (nI (mcost (rN K 0) (rN K 1) (rN K 2) w cl oo)), .int (K.1 2), .int (nI w), .int (nI cl), .int (nI oo), .int (nI (mheat w cl oo)), .int 1, xno, xno], _, _)) rfl rfl ?_
  refine y_go rfl rfl ?_
  refine y_V1 rfl (Nat.le_of_ble_eq_true rfl) (Nat.le_of_ble_eq_true rfl) rfl rfl (LW_rcv hW) (t_paid (by omega) hW) ?_
  refine y_go (g' := (318, [.ref 0, .int (nI u), .long (dgs K), xno, .int (nI (mcost (rN K 0) (rN K 1) (rN K 2) w cl oo)), .int (K.1 2), .int (nI w), .int (nI cl), .int (nI oo), .int (nI (mheat w cl oo)), .int 1, .int (K.1 14), xno], _, _)) rfl rfl ?_
  refine y_go rfl rfl ?_
  refine y_go rfl rfl ?_
  refine y_S1e rfl rfl (Nat.le_of_ble_eq_true rfl) (Nat.le_of_ble_eq_true rfl) rfl rfl (o_feed (by omega) hW (by omega) u (by omega)) (fun s4 h4 => ?_)
  rcases feed_yes hp hu hb with ⟨q1, q2⟩ | ⟨q1, q2, q3, q4⟩
  · obtain ⟨v1, v2, v3⟩ := opV_no q2 rfl
    rw [v1]
    rw [v2, v3] at h4
    refine y_go (g' := (325, [.ref 0, .int (nI u), .long (dgs K), xno, .int (nI (mcost (rN K 0) (rN K 1) (rN K 2) w cl oo)), .int (K.1 2), .int (nI w), .int (nI cl), .int (nI oo), .int (nI (mheat w cl oo)), .int 1, .int (K.1 14), .int (-100000000)], _, _)) rfl rfl ?_
    refine y_go rfl rfl ?_
    refine y_go rfl rfl ?_
    refine y_ic_ne rfl (fun c => absurd (by decide) c) (fun _ => ?_)
    refine y_go rfl rfl ?_
    refine y_if_eq rfl (fun c => absurd c (by decide)) (fun _ => ?_)
    refine y_go rfl rfl ?_
    refine y_go rfl rfl ?_
    refine y_go rfl rfl ?_
    refine y_go rfl rfl ?_
    refine y_ic_le rfl (fun c => absurd (q1) c) (fun _ => ?_)
    refine y_go rfl rfl ?_
    refine y_S1e rfl rfl (Nat.le_of_ble_eq_true rfl) (Nat.le_of_ble_eq_true rfl) rfl rfl (o_digest (by omega) h4) (fun s5 h5 => ?_)
    refine y_go rfl rfl ?_
    refine y_go (g' := (354, [.ref 0, .int (nI u), .long (dgs K), xno, .int (nI (mcost (rN K 0) (rN K 1) (rN K 2) w cl oo)), .int (K.1 2), .int (nI w), .int (nI cl), .int (nI oo), .int (nI (mheat w cl oo)), .int 1, .int (K.1 14), .int (-100000000)], [.int (lg_cmp (dgs K) (dgs K))], _)) rfl rfl ?_
    rw [lgc_0]
    refine y_if_ne rfl (fun c => absurd (by decide) c) (fun _ => ?_)
    refine y_go rfl rfl ?_
    refine y_go rfl rfl ?_
    exact y_ireturn rfl rfl rfl (hQ _ ⟨_, LW_mono (by omega) h5⟩)
  · obtain ⟨v1, v3⟩ := opV_yes q2 (by omega)
    rw [v1]
    rw [v3] at h4
    generalize (cmdX 7 u 0 K).2 = K2 at h4 q3 q4
    refine y_go (g' := (325, [.ref 0, .int (nI u), .long (dgs K), xno, .int (nI (mcost (rN K 0) (rN K 1) (rN K 2) w cl oo)), .int (K.1 2), .int (nI w), .int (nI cl), .int (nI oo), .int (nI (mheat w cl oo)), .int 1, .int (K.1 14), .int (nI (mcost (rN K 0) (rN K 1) (rN K 2) w cl oo))], _, _)) rfl rfl ?_
    refine y_go rfl rfl ?_
    refine y_go rfl rfl ?_
    refine y_ic_ne rfl (fun _ => ?_) (fun c => absurd c (nI_big (by omega)))
    refine y_go rfl rfl ?_
    refine y_if_eq rfl (fun c => absurd c (by decide)) (fun _ => ?_)
    refine y_go rfl rfl ?_
    refine y_go rfl rfl ?_
    refine y_ic_ne rfl (fun c => absurd (rfl) c) (fun _ => ?_)
    refine y_go rfl rfl ?_
    refine y_V1 rfl (Nat.le_of_ble_eq_true rfl) (Nat.le_of_ble_eq_true rfl) rfl rfl (LW_rcv h4) (t_heat (by omega) h4) ?_
    refine y_go rfl rfl ?_
    refine y_go rfl rfl ?_
    refine y_go rfl rfl ?_
    refine y_ic_ne rfl (fun c => absurd (q3) c) (fun _ => ?_)
    refine y_go rfl rfl ?_
    refine y_V1 rfl (Nat.le_of_ble_eq_true rfl) (Nat.le_of_ble_eq_true rfl) rfl rfl (LW_rcv h4) (t_paid (by omega) h4) ?_
    refine y_go rfl rfl ?_
    refine y_go rfl rfl ?_
    refine y_go rfl rfl ?_
    refine y_ic_ne rfl (fun c => absurd (q4) c) (fun _ => ?_)
    refine y_go rfl rfl ?_
    refine y_S1e rfl rfl (Nat.le_of_ble_eq_true rfl) (Nat.le_of_ble_eq_true rfl) rfl rfl (o_undo (by omega) h4 K (H.take 7) rfl) (fun s6 h6 => ?_)
    refine y_if_lt rfl (fun c => absurd c (nI_pos (by rw [List.length_take]; omega))) (fun _ => ?_)
    refine y_go rfl rfl ?_
    refine y_S1e rfl rfl (Nat.le_of_ble_eq_true rfl) (Nat.le_of_ble_eq_true rfl) rfl rfl (o_digest (by omega) h6) (fun s7 h7 => ?_)
    refine y_go rfl rfl ?_
    refine y_go (g' := (412, [.ref 0, .int (nI u), .long (dgs K), xno, .int (nI (mcost (rN K 0) (rN K 1) (rN K 2) w cl oo)), .int (K.1 2), .int (nI w), .int (nI cl), .int (nI oo), .int (nI (mheat w cl oo)), .int 1, .int (K.1 14), .int (nI (mcost (rN K 0) (rN K 1) (rN K 2) w cl oo))], [.int (lg_cmp (dgs K) (dgs K))], _)) rfl rfl ?_
    rw [lgc_0]
    refine y_if_ne rfl (fun c => absurd (by decide) c) (fun _ => ?_)
    refine y_go rfl rfl ?_
    refine y_go rfl rfl ?_
    exact y_ireturn rfl rfl rfl (hQ _ ⟨_, LW_mono (by omega) h7⟩)
theorem o_mixed {S : List Int32} {d : Nat} (hd : 16 ≤ d) {n : Nat} {f sv : Int32} {K V : kK} {H : List kK} {T : List Int32} {s : xS} (hW : LW n f sv K V H T s) (hn : n ≤ 800000) (u : Nat) (hu : 1 ≤ u ∧ u ≤ 200) : yT S d 149 [.ref 0, .int (nI u)] s (fun r => ∃ s2, LWx (n + 20) f sv K V T s2 ∧ r = (.inl (some (.int 1)), s2)) := by
  obtain ⟨d, rfl⟩ : ∃ e, d = e + 1 := ⟨d - 1, by omega⟩
  have hp := hW.2.1.1.2
  obtain ⟨⟨p1, p2, p3⟩, p4, p5, p6⟩ := kp_gd hp
  refine yT_e (Nat.le_of_ble_eq_true rfl) ?_
  show yW S d 149 (0, [.ref 0, .int (nI u), xno, xno, xno, xno, xno, xno, xno, xno, xno, xno, xno], [], s) _
  refine y_go rfl rfl ?_
  refine y_S1e rfl rfl (Nat.le_of_ble_eq_true rfl) (Nat.le_of_ble_eq_true rfl) rfl rfl (o_digest (by omega) hW) (fun s1 h1 => ?_)
  refine y_go (g' := (5, [.ref 0, .int (nI u), .long (dgs K), xno, xno, xno, xno, xno, xno, xno, xno, xno, xno], _, _)) rfl rfl ?_
  refine y_go rfl rfl ?_
  refine y_go rfl rfl ?_
  refine y_S1e rfl rfl (Nat.le_of_ble_eq_true rfl) (Nat.le_of_ble_eq_true rfl) rfl rfl (o_cost (by omega) h1 u (by omega)) (fun s2 h2 => ?_)
  rw [tbl_eq hp hu.1]
  cases hb : bst K u with
  | none =>
    rw [bcst_none hb, show nv (-1000) (-4) = (-1000 : Int32) by decide]
    have hlt := bst_none hp hb
    obtain ⟨z1, z2, z3, z4, z5, z6⟩ := (kp_eq hp).2.2
    obtain ⟨v1, v2, v3⟩ := opV_no (feed_no hp hu hb) rfl
    refine y_go (g' := (12, [.ref 0, .int (nI u), .long (dgs K), xno, .int (-1000), xno, xno, xno, xno, xno, xno, xno, xno], _, _)) rfl rfl ?_
    refine y_go rfl rfl ?_
    refine y_V1 rfl (Nat.le_of_ble_eq_true rfl) (Nat.le_of_ble_eq_true rfl) rfl rfl (LW_rcv h2) (t_heat (by omega) h2) ?_
    refine y_go (g' := (18, [.ref 0, .int (nI u), .long (dgs K), xno, .int (-1000), .int (K.1 2), xno, xno, xno, xno, xno, xno, xno], _, _)) rfl rfl ?_
    refine y_go rfl rfl ?_
    refine y_go rfl rfl ?_
    refine y_ic_ne rfl (fun c => absurd (by decide) c) (fun _ => ?_)
    refine y_go rfl rfl ?_
    refine y_go rfl rfl ?_
    refine y_S1e rfl rfl (Nat.le_of_ble_eq_true rfl) (Nat.le_of_ble_eq_true rfl) rfl rfl (o_costT (by omega) h2 u (by omega)) (fun s3 h3 => ?_)
    rw [bcst_none hb, show nv (-1000) (-4) = (-1000 : Int32) by decide]
    refine y_go rfl rfl ?_
    refine y_ic_ne rfl (fun c => absurd (by decide) c) (fun _ => ?_)
    refine y_go rfl rfl ?_
    refine y_go rfl rfl ?_
    refine y_go rfl rfl ?_
    refine y_S1e rfl rfl (Nat.le_of_ble_eq_true rfl) (Nat.le_of_ble_eq_true rfl) rfl rfl (o_pieces0 (by omega) h3 u (by omega)) (fun s4 h4 => ?_)
    rw [bpc_none hb, show nv (-1000) (-4) = (-1000 : Int32) by decide]
    refine y_go rfl rfl ?_
    refine y_ic_ne rfl (fun c => absurd (by decide) c) (fun _ => ?_)
    refine y_go rfl rfl ?_
    refine y_go rfl rfl ?_
    refine y_S1e rfl rfl (Nat.le_of_ble_eq_true rfl) (Nat.le_of_ble_eq_true rfl) rfl rfl (o_feed (by omega) h4 (by omega) u (by omega)) (fun s5 h5 => ?_)
    rw [v1]
    rw [v2, v3] at h5
    refine y_go rfl rfl ?_
    refine y_ic_ne rfl (fun c => absurd (by decide) c) (fun _ => ?_)
    refine y_go rfl rfl ?_
    refine y_go rfl rfl ?_
    refine y_go rfl rfl ?_
    refine y_V1 rfl (Nat.le_of_ble_eq_true rfl) (Nat.le_of_ble_eq_true rfl) rfl rfl (LW_rcv h5) (t_fuel0 (by omega) h5) ?_
    refine y_go rfl rfl ?_
    refine y_go rfl rfl ?_
    refine y_go rfl rfl ?_
    refine y_go rfl rfl ?_
    refine y_V1 rfl (Nat.le_of_ble_eq_true rfl) (Nat.le_of_ble_eq_true rfl) rfl rfl (LW_rcv h5) (t_fuel1 (by omega) h5) ?_
    refine y_go rfl rfl ?_
    refine y_go rfl rfl ?_
    refine y_go rfl rfl ?_
    refine y_go rfl rfl ?_
    refine y_go rfl rfl ?_
    refine y_V1 rfl (Nat.le_of_ble_eq_true rfl) (Nat.le_of_ble_eq_true rfl) rfl rfl (LW_rcv h5) (t_fuel2 (by omega) h5) ?_
    refine y_go rfl rfl ?_
    refine y_go rfl rfl ?_
    refine y_go rfl rfl ?_
    refine y_ic_ge rfl (fun c => absurd ((by rw [p1, p2, p3, heat_eq]; exact nI_lt hlt (by omega))) c) (fun _ => ?_)
    refine y_go rfl rfl ?_
    refine y_S1e rfl rfl (Nat.le_of_ble_eq_true rfl) (Nat.le_of_ble_eq_true rfl) rfl rfl (o_digest (by omega) h5) (fun s6 h6 => ?_)
    refine y_go rfl rfl ?_
    refine y_go (g' := (98, [.ref 0, .int (nI u), .long (dgs K), xno, .int (-1000), .int (K.1 2), xno, xno, xno, xno, xno, xno, xno], [.int (lg_cmp (dgs K) (dgs K))], _)) rfl rfl ?_
    rw [lgc_0]
    refine y_if_ne rfl (fun c => absurd (by decide) c) (fun _ => ?_)
    refine y_go rfl rfl ?_
    refine y_go rfl rfl ?_
    exact y_ireturn rfl rfl rfl ⟨_, ⟨_, LW_mono (by omega) h6⟩, rfl⟩
  | some m =>
    obtain ⟨w, cl, oo⟩ := m
    obtain ⟨b1, b2, b3, b4, b5, b6, -⟩ := bst_facts hp hb
    obtain ⟨z1, z2, z3, z4, z5, z6⟩ := (kp_eq hp).2.2
    rw [bcst_some hb, nv_nI (by omega)]
    refine y_go (g' := (12, [.ref 0, .int (nI u), .long (dgs K), xno, .int (nI (mcost (rN K 0) (rN K 1) (rN K 2) w cl oo)), xno, xno, xno, xno, xno, xno, xno, xno], _, _)) rfl rfl ?_
    refine y_go rfl rfl ?_
    refine y_V1 rfl (Nat.le_of_ble_eq_true rfl) (Nat.le_of_ble_eq_true rfl) rfl rfl (LW_rcv h2) (t_heat (by omega) h2) ?_
    refine y_go (g' := (18, [.ref 0, .int (nI u), .long (dgs K), xno, .int (nI (mcost (rN K 0) (rN K 1) (rN K 2) w cl oo)), .int (K.1 2), xno, xno, xno, xno, xno, xno, xno], _, _)) rfl rfl ?_
    refine y_go rfl rfl ?_
    refine y_go rfl rfl ?_
    refine y_ic_ne rfl (fun _ => ?_) (fun c => absurd c (nI_no1000 (by omega)))
    refine y_go rfl rfl ?_
    refine y_go rfl rfl ?_
    refine y_go rfl rfl ?_
    refine y_V1e rfl (Nat.le_of_ble_eq_true rfl) (Nat.le_of_ble_eq_true rfl) rfl rfl (LW_rcv h2) (t_pieces0 (by omega) h2 u (by omega) hb) (fun s7 h7 => ?_)
    refine y_go (g' := (116, [.ref 0, .int (nI u), .long (dgs K), xno, .int (nI (mcost (rN K 0) (rN K 1) (rN K 2) w cl oo)), .int (K.1 2), .int (nI w), xno, xno, xno, xno, xno, xno], _, _)) rfl rfl ?_
    refine y_go rfl rfl ?_
    refine y_go rfl rfl ?_
    refine y_go rfl rfl ?_
    refine y_V1e rfl (Nat.le_of_ble_eq_true rfl) (Nat.le_of_ble_eq_true rfl) rfl rfl (LW_rcv h7) (t_pieces1 (by omega) h7 u (by omega) hb) (fun s8 h8 => ?_)
    refine y_go (g' := (125, [.ref 0, .int (nI u), .long (dgs K), xno, .int (nI (mcost (rN K 0) (rN K 1) (rN K 2) w cl oo)), .int (K.1 2), .int (nI w), .int (nI cl), xno, xno, xno, xno, xno], _, _)) rfl rfl ?_
    refine y_go rfl rfl ?_
    refine y_go rfl rfl ?_
    refine y_go rfl rfl ?_
    refine y_V1e rfl (Nat.le_of_ble_eq_true rfl) (Nat.le_of_ble_eq_true rfl) rfl rfl (LW_rcv h8) (t_pieces2 (by omega) h8 u (by omega) hb) (fun s9 h9 => ?_)
    refine y_go (g' := (134, [.ref 0, .int (nI u), .long (dgs K), xno, .int (nI (mcost (rN K 0) (rN K 1) (rN K 2) w cl oo)), .int (K.1 2), .int (nI w), .int (nI cl), .int (nI oo), xno, xno, xno, xno], _, _)) rfl rfl ?_
    refine y_go rfl rfl ?_
    refine y_go rfl rfl ?_
    refine y_go rfl rfl ?_
    refine y_go rfl rfl ?_
    refine y_go rfl rfl ?_
    refine y_go rfl rfl ?_
    refine y_go rfl rfl ?_
    refine y_go rfl rfl ?_
    refine y_go rfl rfl ?_
    refine y_go rfl rfl ?_
    refine y_go rfl rfl ?_
    rw [heat_eq]
    refine y_go (g' := (152, [.ref 0, .int (nI u), .long (dgs K), xno, .int (nI (mcost (rN K 0) (rN K 1) (rN K 2) w cl oo)), .int (K.1 2), .int (nI w), .int (nI cl), .int (nI oo), .int (nI (mheat w cl oo)), xno, xno, xno], _, _)) rfl rfl ?_
    refine y_go rfl rfl ?_
    refine y_go rfl rfl ?_
    refine y_S1e rfl rfl (Nat.le_of_ble_eq_true rfl) (Nat.le_of_ble_eq_true rfl) rfl rfl (o_costT (by omega) h9 u (by omega)) (fun s10 h10 => ?_)
    rw [bcst_some hb, nv_nI (by omega)]
    refine y_go rfl rfl ?_
    refine y_ic_ne rfl (fun c => absurd (rfl) c) (fun _ => ?_)
    refine y_go rfl rfl ?_
    refine y_go rfl rfl ?_
    refine y_go rfl rfl ?_
    refine y_V1 rfl (Nat.le_of_ble_eq_true rfl) (Nat.le_of_ble_eq_true rfl) rfl rfl (LW_rcv h10) (t_fuel0 (by omega) h10) ?_
    refine y_ic_gt rfl (fun c => absurd c ((by rw [p1]; exact nI_nlt (by omega) (by omega)))) (fun _ => ?_)
    refine y_go rfl rfl ?_
    refine y_go rfl rfl ?_
    refine y_go rfl rfl ?_
    refine y_V1 rfl (Nat.le_of_ble_eq_true rfl) (Nat.le_of_ble_eq_true rfl) rfl rfl (LW_rcv h10) (t_fuel1 (by omega) h10) ?_
    refine y_ic_gt rfl (fun c => absurd c ((by rw [p2]; exact nI_nlt (by omega) (by omega)))) (fun _ => ?_)
    refine y_go rfl rfl ?_
    refine y_go rfl rfl ?_
    refine y_go rfl rfl ?_
    refine y_V1 rfl (Nat.le_of_ble_eq_true rfl) (Nat.le_of_ble_eq_true rfl) rfl rfl (LW_rcv h10) (t_fuel2 (by omega) h10) ?_
    refine y_ic_gt rfl (fun c => absurd c ((by rw [p3]; exact nI_nlt (by omega) (by omega)))) (fun _ => ?_)
    refine y_go rfl rfl ?_
    refine y_go rfl rfl ?_
    refine y_ic_lt rfl (fun c => absurd c (nI_nlt (by omega) (by omega))) (fun _ => ?_)
    refine y_go rfl rfl ?_
    refine y_go rfl rfl ?_
    refine y_go rfl rfl ?_
    refine y_go rfl rfl ?_
    refine y_V1 rfl (Nat.le_of_ble_eq_true rfl) (Nat.le_of_ble_eq_true rfl) rfl rfl (LW_rcv h10) (t_price0 (by omega) h10) ?_
    refine y_go rfl rfl ?_
    refine y_go rfl rfl ?_
    refine y_go rfl rfl ?_
    refine y_go rfl rfl ?_
    refine y_V1 rfl (Nat.le_of_ble_eq_true rfl) (Nat.le_of_ble_eq_true rfl) rfl rfl (LW_rcv h10) (t_price1 (by omega) h10) ?_
    refine y_go rfl rfl ?_
    refine y_go rfl rfl ?_
    refine y_go rfl rfl ?_
    refine y_go rfl rfl ?_
    refine y_go rfl rfl ?_
    refine y_V1 rfl (Nat.le_of_ble_eq_true rfl) (Nat.le_of_ble_eq_true rfl) rfl rfl (LW_rcv h10) (t_price2 (by omega) h10) ?_
    refine y_go rfl rfl ?_
    refine y_go rfl rfl ?_
    refine y_ic_ne rfl (fun c => absurd ((by rw [p4, p5, p6]; exact cost_eq _ _ _ _ _ _)) c) (fun _ => ?_)
    refine y_go rfl rfl ?_
    refine y_go rfl rfl ?_
    by_cases hu1 : u = 1
    · refine y_ic_eq rfl (fun _ => ?_) (fun c => absurd ((by rw [hu1]; rfl)) c)
      exact l_mix2 (by omega) u hu hb _ _ h10 (by omega) (fun s2 ⟨H2, hz⟩ => ⟨s2, ⟨H2, LW_mono (by omega) hz⟩, rfl⟩)
    · refine y_ic_eq rfl (fun c => absurd c (fun z => hu1 ((nI_eq (a := u) (b := 1) (by omega) (by decide)).mp z))) (fun _ => ?_)
      refine y_go rfl rfl ?_
      refine y_go rfl rfl ?_
      refine y_go rfl rfl ?_
      refine y_go rfl rfl ?_
      rw [show nI u - 1 = nI (u - 1) from nI_sub (b := 1) hu.1]
      refine y_S1e rfl rfl (Nat.le_of_ble_eq_true rfl) (Nat.le_of_ble_eq_true rfl) rfl rfl (o_cost (by omega) h10 (u - 1) (by omega)) (fun s11 h11 => ?_)
      obtain ⟨w', c', oo', m1, m2⟩ := bst_mono hp hb
      rw [tbl_eq hp (by omega), bcst_some m1, nv_nI (by omega)]
      refine y_go rfl rfl ?_
      refine y_ic_gt rfl (fun c => absurd c (nI_nlt m2 (by omega))) (fun _ => ?_)
      exact l_mix2 (by omega) u hu hb _ _ h11 (by omega) (fun s2 ⟨H2, hz⟩ => ⟨s2, ⟨H2, LW_mono (by omega) hz⟩, rfl⟩)
