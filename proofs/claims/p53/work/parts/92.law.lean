/-! THE LAW'S WORLD: the kiln, what is saved, the history as a list, what has been spent. -/
def hsR (ol sz : Nat) (R : Nat → kK) (H : List kK) : Prop := H.length = sz ∧ ∀ i, i < sz → H[i]? = some (R ((ol + (sz - 1 - i)) % 8))
def LW (n : Nat) (f sv : Int32) (K V : kK) (H : List kK) (T : List Int32) (s : xS) : Prop := (∃ e ol sz R, W2 e f sv K V ol sz R T s.1 ∧ hsR ol sz R H) ∧ GK n K ∧ GK n V ∧ (∀ X, X ∈ H → GK n X) ∧ s.2.1 ≤ 10 * n ∧ s.2.2 ≤ 150 * n
theorem LW_mono {n m : Nat} {f sv : Int32} {K V : kK} {H : List kK} {T : List Int32} {s : xS} (hm : n ≤ m) (h : LW n f sv K V H T s) : LW m f sv K V H T s := by
  obtain ⟨h1, h2, h3, h4, h5, h6⟩ := h
  exact ⟨h1, GK_mono hm h2, GK_mono hm h3, fun X hX => GK_mono hm (h4 X hX), Nat.le_trans h5 (Nat.mul_le_mul_left 10 hm), Nat.le_trans h6 (Nat.mul_le_mul_left 150 hm)⟩
theorem ct_1 {x n k m : Nat} (h : x ≤ m * n) (hk : k ≤ m) : x + k ≤ m * (n + 1) := by
  rw [Nat.mul_add, Nat.mul_one]; exact Nat.add_le_add h hk
theorem hsR_push {ol sz : Nat} {R : Nat → kK} {H : List kK} (hol : ol < 8) (hsz : sz ≤ 8) (h : hsR ol sz R H) (K : kK) : hsR (if sz < 8 then ol else (ol + 1) % 8) (if sz < 8 then sz + 1 else sz) (up R ((ol + sz) % 8) K) ((K :: H).take 8) := by
  obtain ⟨h1, h2⟩ := h
  by_cases c : sz < 8
  · rw [if_pos c, if_pos c]
    refine ⟨by rw [List.length_take, List.length_cons]; omega, fun i hi => ?_⟩
    rw [List.getElem?_take_of_lt (by omega)]
    cases i with
    | zero =>
      rw [show (ol + (sz + 1 - 1 - 0)) % 8 = (ol + sz) % 8 by omega, show up R ((ol + sz) % 8) K ((ol + sz) % 8) = K from if_pos rfl]
      rfl
    | succ i =>
      rw [show up R ((ol + sz) % 8) K ((ol + (sz + 1 - 1 - (i + 1))) % 8) = R ((ol + (sz + 1 - 1 - (i + 1))) % 8) from if_neg (by omega), show sz + 1 - 1 - (i + 1) = sz - 1 - i by omega, List.getElem?_cons_succ]
      exact h2 i (by omega)
  · have e : sz = 8 := by omega
    subst e
    rw [if_neg c, if_neg c]
    refine ⟨by rw [List.length_take, List.length_cons]; omega, fun i hi => ?_⟩
    rw [List.getElem?_take_of_lt (by omega)]
    cases i with
    | zero =>
      rw [show ((ol + 1) % 8 + (8 - 1 - 0)) % 8 = (ol + 8) % 8 by omega, show up R ((ol + 8) % 8) K ((ol + 8) % 8) = K from if_pos rfl]
      rfl
    | succ i =>
      rw [show up R ((ol + 8) % 8) K (((ol + 1) % 8 + (8 - 1 - (i + 1))) % 8) = R (((ol + 1) % 8 + (8 - 1 - (i + 1))) % 8) from if_neg (by omega), show ((ol + 1) % 8 + (8 - 1 - (i + 1))) % 8 = (ol + (8 - 1 - i)) % 8 by omega, List.getElem?_cons_succ]
      exact h2 i (by omega)
theorem mem_push {n : Nat} {H : List kK} {K : kK} (hK : GK n K) (hH : ∀ X, X ∈ H → GK n X) : ∀ X, X ∈ (K :: H).take 8 → GK n X := fun X hX => by
  rcases List.mem_cons.mp (List.mem_of_mem_take hX) with h | h
  · subst h; exact hK
  · exact hH X h
theorem W2_olsz {e f sv : Int32} {K V : kK} {ol sz : Nat} {R : Nat → kK} {T : List Int32} {h : xH} (hw : W2 e f sv K V ol sz R T h) : ol < 8 ∧ sz ≤ 8 := by
  obtain ⟨B, F, P, vp, ml, ln, D, -, -, -, -, -, -, h1, h2, -⟩ := hw
  exact ⟨h1, h2⟩
theorem LW_rcv {n : Nat} {f sv : Int32} {K V : kK} {H : List kK} {T : List Int32} {s : xS} (hW : LW n f sv K V H T s) : xrcv 9 s (.ref 0) = true := by
  obtain ⟨⟨e, ol, sz, R, hw, -⟩, -⟩ := hW
  obtain ⟨B, F, P, vp, ml, ln, D, ⟨M, G, hM, hG, hW⟩, -⟩ := hw
  obtain ⟨wl, wl2, wlM, wlP, wvp, w0, wK, wB, wF, wV, wH, wM, wG, wP, wL, wD, wR⟩ := hW
  exact xrcv_of (has_at w0 (i := 0) rfl)
theorem LW_mk {e : Int32} {ol sz : Nat} {R : Nat → kK} {n : Nat} {f sv : Int32} {K V : kK} {H : List kK} {T : List Int32} {s : xS} (hw : W2 e f sv K V ol sz R T s.1) (hh : hsR ol sz R H) (g1 : GK n K) (g2 : GK n V) (g3 : ∀ X, X ∈ H → GK n X) (c1 : s.2.1 ≤ 10 * n) (c2 : s.2.2 ≤ 150 * n) : LW n f sv K V H T s := ⟨⟨e, ol, sz, R, hw, hh⟩, g1, g2, g3, c1, c2⟩
theorem GKs {n : Nat} {H : List kK} (h : ∀ X, X ∈ H → GK n X) : ∀ X, X ∈ H → GK (n + 1) X := fun X hX => GK_mono (Nat.le_succ n) (h X hX)
/-- a public method answers v, or throws one of Es -/
def pubP (Es : List String) (v : Int32) (W1 W2 : xS → Prop) (r : xR) : Prop := (∃ s2, W1 s2 ∧ r = (.inl (some (.int v)), s2)) ∨ ∃ E, E ∈ Es ∧ ∃ s2, W2 s2 ∧ r = (.inr E, s2)
/-- a command's answer and the history as the law sees them -/
def opV (c a b : Nat) (K : kK) : Int32 := if xcode (cmdX c a b K).1 = none then (cmdX c a b K).1 else -100000000
def opH (c a b : Nat) (K : kK) (H : List kK) : List kK := if xcode (cmdX c a b K).1 = none then (K :: H).take 8 else H
/-- what changes the kiln -/
theorem p_change {S : List Int32} {d : Nat} (hd : 10 ≤ d) {n : Nat} {f sv : Int32} {K V : kK} {H : List kK} {T : List Int32} {s : xS} (hW : LW n f sv K V H T s) (hn : n ≤ 1000000) (c : Nat) (hc : c < 10) (a b : Nat) (ha : a ≤ 1000) (hb : b ≤ 1000) : yT S d 115 [.ref 0, .ref (1000000 + c), .int (nI a), .int (nI b)] s (fun r => (xcode (cmdX c a b K).1 = none ∧ ∃ s2, LW (n + 1) f sv ((cmdX c a b K).2) V (opH c a b K H) T s2 ∧ r = (.inl (some (.int (cmdX c a b K).1)), s2)) ∨ ∃ E, xcode (cmdX c a b K).1 = some E ∧ ∃ s2, LW (n + 1) f sv ((cmdX c a b K).2) V (opH c a b K H) T s2 ∧ r = (.inr E, s2)) := by
  obtain ⟨⟨e, ol, sz, R, hw, hh⟩, g1, g2, g3, c1, c2⟩ := hW
  have hq := cm_GK hc g1 hn ha hb
  obtain ⟨q1, q2⟩ := W2_olsz hw
  refine yT_mono (w_change hd hw s.2 c hc a b ha hb hq.1) fun r hr => ?_
  rcases hr with ⟨hx, h2, hw2, hr⟩ | ⟨E, hx, h2, hw2, hr⟩
  · refine Or.inl ⟨hx, (h2, s.2), ?_, hr⟩
    unfold opH
    rw [if_pos hx]
    exact LW_mk hw2 (hsR_push q1 q2 hh K) hq (GK_mono (Nat.le_succ n) g2) (mem_push (GK_mono (Nat.le_succ n) g1) (GKs g3)) (ct_1 (k := 0) c1 (by decide)) (ct_1 (k := 0) c2 (by decide))
  · refine Or.inr ⟨E, hx, xth (h2, s.2), ?_, hr⟩
    unfold opH
    rw [if_neg (by rw [hx]; exact fun z => by cases z)]
    exact LW_mk (s := xth (h2, s.2)) hw2 hh hq (GK_mono (Nat.le_succ n) g2) (GKs g3) (ct_1 c1 (by decide)) (ct_1 c2 (by decide))
/-- the exceptions of the refusals -/
theorem exI {c : Nat} {v : Int32} {E : String} (hm : v ∈ rfL c) (hx : xcode v = some E) : E ∈ (rfL c).filterMap xcode := List.mem_filterMap.mpr ⟨v, hm, hx⟩
theorem p_load {S : List Int32} {d : Nat} (hd : 11 ≤ d) {n : Nat} {f sv : Int32} {K V : kK} {H : List kK} {T : List Int32} {s : xS} (hW : LW n f sv K V H T s) (hn : n ≤ 1000000) (a : Nat) (ha : a ≤ 1000) (b : Nat) (hb : b ≤ 1000) : yT S d 61 [.ref 0, .int (nI a), .int (nI b)] s (pubP ["java/lang/IndexOutOfBoundsException", "java/lang/IllegalArgumentException", "java/lang/IllegalStateException", "java/lang/UnsupportedOperationException"] (cmdX 0 a b K).1 (fun s2 => xcode (cmdX 0 a b K).1 = none ∧ LW (n + 1) f sv ((cmdX 0 a b K).2) V (opH 0 a b K H) T s2) (fun s2 => ¬ xcode (cmdX 0 a b K).1 = none ∧ LW (n + 1) f sv ((cmdX 0 a b K).2) V (opH 0 a b K H) T s2)) := by
  have hrc := LW_rcv hW
  have hcm := cm_all (c := 0) (by decide) hW.2.1 hn (a := a) (b := b) ha hb
  obtain ⟨d, rfl⟩ : ∃ e, d = e + 1 := ⟨d - 1, by omega⟩
  refine yT_x rfl (Nat.le_of_ble_eq_true rfl) ?_
  show yW S d 61 (0, [.ref 0, .int (nI a), .int (nI b)], [], s) _
  refine y_go rfl rfl ?_
  refine y_go rfl rfl ?_
  refine y_go rfl rfl ?_
  refine y_go rfl rfl ?_
  refine y_callV rfl (Nat.le_of_ble_eq_true rfl) (Nat.le_of_ble_eq_true rfl) rfl rfl hrc (p_change (by omega) hW hn 0 (by decide) a b ha hb) fun q hq => ?_
  rcases hq with ⟨hx, s2, hw2, rfl⟩ | ⟨E, hx, s2, hw2, rfl⟩
  · exact Or.inl ⟨_, rfl, y_ireturn rfl rfl rfl (Or.inl ⟨s2, ⟨hx, hw2⟩, rfl⟩)⟩
  · refine Or.inr (Or.inr ⟨E, rfl, Or.inr ⟨rfl, Or.inr ⟨E, ?_, s2, ⟨(by rw [hx]; exact fun z => (by cases z)), hw2⟩, rfl⟩⟩⟩)
    rcases hcm with ⟨hm, -⟩ | ⟨⟨j, hj, hj2⟩, -⟩
    · generalize (cmdX 0 a b K).1 = v at hx hm
      exact exI hm hx
    · rw [hj, xcode_pos (nI_pos (by omega))] at hx; cases hx
theorem p_unload {S : List Int32} {d : Nat} (hd : 11 ≤ d) {n : Nat} {f sv : Int32} {K V : kK} {H : List kK} {T : List Int32} {s : xS} (hW : LW n f sv K V H T s) (hn : n ≤ 1000000) (a : Nat) (ha : a ≤ 1000) : yT S d 62 [.ref 0, .int (nI a)] s (pubP ["java/lang/IndexOutOfBoundsException", "java/lang/IllegalStateException", "java/lang/UnsupportedOperationException"] (cmdX 1 a 0 K).1 (fun s2 => xcode (cmdX 1 a 0 K).1 = none ∧ LW (n + 1) f sv ((cmdX 1 a 0 K).2) V (opH 1 a 0 K H) T s2) (fun s2 => ¬ xcode (cmdX 1 a 0 K).1 = none ∧ LW (n + 1) f sv ((cmdX 1 a 0 K).2) V (opH 1 a 0 K H) T s2)) := by
  have hrc := LW_rcv hW
  have hcm := cm_all (c := 1) (by decide) hW.2.1 hn (a := a) (b := 0) ha (by decide)
  obtain ⟨d, rfl⟩ : ∃ e, d = e + 1 := ⟨d - 1, by omega⟩
  refine yT_x rfl (Nat.le_of_ble_eq_true rfl) ?_
  show yW S d 62 (0, [.ref 0, .int (nI a)], [], s) _
  refine y_go rfl rfl ?_
  refine y_go rfl rfl ?_
  refine y_go rfl rfl ?_
  refine y_go rfl rfl ?_
  refine y_callV rfl (Nat.le_of_ble_eq_true rfl) (Nat.le_of_ble_eq_true rfl) rfl rfl hrc (p_change (by omega) hW hn 1 (by decide) a 0 ha (by decide)) fun q hq => ?_
  rcases hq with ⟨hx, s2, hw2, rfl⟩ | ⟨E, hx, s2, hw2, rfl⟩
  · exact Or.inl ⟨_, rfl, y_ireturn rfl rfl rfl (Or.inl ⟨s2, ⟨hx, hw2⟩, rfl⟩)⟩
  · refine Or.inr (Or.inr ⟨E, rfl, Or.inr ⟨rfl, Or.inr ⟨E, ?_, s2, ⟨(by rw [hx]; exact fun z => (by cases z)), hw2⟩, rfl⟩⟩⟩)
    rcases hcm with ⟨hm, -⟩ | ⟨⟨j, hj, hj2⟩, -⟩
    · generalize (cmdX 1 a 0 K).1 = v at hx hm
      exact exI hm hx
    · rw [hj, xcode_pos (nI_pos (by omega))] at hx; cases hx
theorem p_light {S : List Int32} {d : Nat} (hd : 11 ≤ d) {n : Nat} {f sv : Int32} {K V : kK} {H : List kK} {T : List Int32} {s : xS} (hW : LW n f sv K V H T s) (hn : n ≤ 1000000) (a : Nat) (ha : a ≤ 1000) : yT S d 63 [.ref 0, .int (nI a)] s (pubP ["java/lang/IndexOutOfBoundsException", "java/lang/IllegalStateException", "java/lang/UnsupportedOperationException"] (cmdX 2 a 0 K).1 (fun s2 => xcode (cmdX 2 a 0 K).1 = none ∧ LW (n + 1) f sv ((cmdX 2 a 0 K).2) V (opH 2 a 0 K H) T s2) (fun s2 => ¬ xcode (cmdX 2 a 0 K).1 = none ∧ LW (n + 1) f sv ((cmdX 2 a 0 K).2) V (opH 2 a 0 K H) T s2)) := by
  have hrc := LW_rcv hW
  have hcm := cm_all (c := 2) (by decide) hW.2.1 hn (a := a) (b := 0) ha (by decide)
  obtain ⟨d, rfl⟩ : ∃ e, d = e + 1 := ⟨d - 1, by omega⟩
  refine yT_x rfl (Nat.le_of_ble_eq_true rfl) ?_
  show yW S d 63 (0, [.ref 0, .int (nI a)], [], s) _
  refine y_go rfl rfl ?_
  refine y_go rfl rfl ?_
  refine y_go rfl rfl ?_
  refine y_go rfl rfl ?_
  refine y_callV rfl (Nat.le_of_ble_eq_true rfl) (Nat.le_of_ble_eq_true rfl) rfl rfl hrc (p_change (by omega) hW hn 2 (by decide) a 0 ha (by decide)) fun q hq => ?_
  rcases hq with ⟨hx, s2, hw2, rfl⟩ | ⟨E, hx, s2, hw2, rfl⟩
  · exact Or.inl ⟨_, rfl, y_ireturn rfl rfl rfl (Or.inl ⟨s2, ⟨hx, hw2⟩, rfl⟩)⟩
  · refine Or.inr (Or.inr ⟨E, rfl, Or.inr ⟨rfl, Or.inr ⟨E, ?_, s2, ⟨(by rw [hx]; exact fun z => (by cases z)), hw2⟩, rfl⟩⟩⟩)
    rcases hcm with ⟨hm, -⟩ | ⟨⟨j, hj, hj2⟩, -⟩
    · generalize (cmdX 2 a 0 K).1 = v at hx hm
      exact exI hm hx
    · rw [hj, xcode_pos (nI_pos (by omega))] at hx; cases hx
theorem p_quench {S : List Int32} {d : Nat} (hd : 11 ≤ d) {n : Nat} {f sv : Int32} {K V : kK} {H : List kK} {T : List Int32} {s : xS} (hW : LW n f sv K V H T s) (hn : n ≤ 1000000) : yT S d 64 [.ref 0] s (pubP ["java/lang/IllegalStateException"] (cmdX 3 0 0 K).1 (fun s2 => xcode (cmdX 3 0 0 K).1 = none ∧ LW (n + 1) f sv ((cmdX 3 0 0 K).2) V (opH 3 0 0 K H) T s2) (fun s2 => ¬ xcode (cmdX 3 0 0 K).1 = none ∧ LW (n + 1) f sv ((cmdX 3 0 0 K).2) V (opH 3 0 0 K H) T s2)) := by
  have hrc := LW_rcv hW
  have hcm := cm_all (c := 3) (by decide) hW.2.1 hn (a := 0) (b := 0) (by decide) (by decide)
  obtain ⟨d, rfl⟩ : ∃ e, d = e + 1 := ⟨d - 1, by omega⟩
  refine yT_x rfl (Nat.le_of_ble_eq_true rfl) ?_
  show yW S d 64 (0, [.ref 0], [], s) _
  refine y_go rfl rfl ?_
  refine y_go rfl rfl ?_
  refine y_go rfl rfl ?_
  refine y_go rfl rfl ?_
  refine y_callV rfl (Nat.le_of_ble_eq_true rfl) (Nat.le_of_ble_eq_true rfl) rfl rfl hrc (p_change (by omega) hW hn 3 (by decide) 0 0 (by decide) (by decide)) fun q hq => ?_
  rcases hq with ⟨hx, s2, hw2, rfl⟩ | ⟨E, hx, s2, hw2, rfl⟩
  · exact Or.inl ⟨_, rfl, y_ireturn rfl rfl rfl (Or.inl ⟨s2, ⟨hx, hw2⟩, rfl⟩)⟩
  · refine Or.inr (Or.inr ⟨E, rfl, Or.inr ⟨rfl, Or.inr ⟨E, ?_, s2, ⟨(by rw [hx]; exact fun z => (by cases z)), hw2⟩, rfl⟩⟩⟩)
    rcases hcm with ⟨hm, -⟩ | ⟨⟨j, hj, hj2⟩, -⟩
    · generalize (cmdX 3 0 0 K).1 = v at hx hm
      exact exI hm hx
    · rw [hj, xcode_pos (nI_pos (by omega))] at hx; cases hx
theorem p_setDraught {S : List Int32} {d : Nat} (hd : 11 ≤ d) {n : Nat} {f sv : Int32} {K V : kK} {H : List kK} {T : List Int32} {s : xS} (hW : LW n f sv K V H T s) (hn : n ≤ 1000000) (a : Nat) (ha : a ≤ 1000) : yT S d 65 [.ref 0, .int (nI a)] s (pubP ["java/lang/IllegalArgumentException"] (cmdX 4 a 0 K).1 (fun s2 => xcode (cmdX 4 a 0 K).1 = none ∧ LW (n + 1) f sv ((cmdX 4 a 0 K).2) V (opH 4 a 0 K H) T s2) (fun s2 => ¬ xcode (cmdX 4 a 0 K).1 = none ∧ LW (n + 1) f sv ((cmdX 4 a 0 K).2) V (opH 4 a 0 K H) T s2)) := by
  have hrc := LW_rcv hW
  have hcm := cm_all (c := 4) (by decide) hW.2.1 hn (a := a) (b := 0) ha (by decide)
  obtain ⟨d, rfl⟩ : ∃ e, d = e + 1 := ⟨d - 1, by omega⟩
  refine yT_x rfl (Nat.le_of_ble_eq_true rfl) ?_
  show yW S d 65 (0, [.ref 0, .int (nI a)], [], s) _
  refine y_go rfl rfl ?_
  refine y_go rfl rfl ?_
  refine y_go rfl rfl ?_
  refine y_go rfl rfl ?_
  refine y_callV rfl (Nat.le_of_ble_eq_true rfl) (Nat.le_of_ble_eq_true rfl) rfl rfl hrc (p_change (by omega) hW hn 4 (by decide) a 0 ha (by decide)) fun q hq => ?_
  rcases hq with ⟨hx, s2, hw2, rfl⟩ | ⟨E, hx, s2, hw2, rfl⟩
  · exact Or.inl ⟨_, rfl, y_ireturn rfl rfl rfl (Or.inl ⟨s2, ⟨hx, hw2⟩, rfl⟩)⟩
  · refine Or.inr (Or.inr ⟨E, rfl, Or.inr ⟨rfl, Or.inr ⟨E, ?_, s2, ⟨(by rw [hx]; exact fun z => (by cases z)), hw2⟩, rfl⟩⟩⟩)
    rcases hcm with ⟨hm, -⟩ | ⟨⟨j, hj, hj2⟩, -⟩
    · generalize (cmdX 4 a 0 K).1 = v at hx hm
      exact exI hm hx
    · rw [hj, xcode_pos (nI_pos (by omega))] at hx; cases hx
theorem p_addFuel {S : List Int32} {d : Nat} (hd : 11 ≤ d) {n : Nat} {f sv : Int32} {K V : kK} {H : List kK} {T : List Int32} {s : xS} (hW : LW n f sv K V H T s) (hn : n ≤ 1000000) (a : Nat) (ha : a ≤ 1000) (b : Nat) (hb : b ≤ 1000) : yT S d 67 [.ref 0, .int (nI a), .int (nI b)] s (pubP ["java/lang/IllegalArgumentException", "java/lang/IllegalStateException"] (cmdX 5 a b K).1 (fun s2 => xcode (cmdX 5 a b K).1 = none ∧ LW (n + 1) f sv ((cmdX 5 a b K).2) V (opH 5 a b K H) T s2) (fun s2 => ¬ xcode (cmdX 5 a b K).1 = none ∧ LW (n + 1) f sv ((cmdX 5 a b K).2) V (opH 5 a b K H) T s2)) := by
  have hrc := LW_rcv hW
  have hcm := cm_all (c := 5) (by decide) hW.2.1 hn (a := a) (b := b) ha hb
  obtain ⟨d, rfl⟩ : ∃ e, d = e + 1 := ⟨d - 1, by omega⟩
  refine yT_x rfl (Nat.le_of_ble_eq_true rfl) ?_
  show yW S d 67 (0, [.ref 0, .int (nI a), .int (nI b)], [], s) _
  refine y_go rfl rfl ?_
  refine y_go rfl rfl ?_
  refine y_go rfl rfl ?_
  refine y_go rfl rfl ?_
  refine y_callV rfl (Nat.le_of_ble_eq_true rfl) (Nat.le_of_ble_eq_true rfl) rfl rfl hrc (p_change (by omega) hW hn 5 (by decide) a b ha hb) fun q hq => ?_
  rcases hq with ⟨hx, s2, hw2, rfl⟩ | ⟨E, hx, s2, hw2, rfl⟩
  · exact Or.inl ⟨_, rfl, y_ireturn rfl rfl rfl (Or.inl ⟨s2, ⟨hx, hw2⟩, rfl⟩)⟩
  · refine Or.inr (Or.inr ⟨E, rfl, Or.inr ⟨rfl, Or.inr ⟨E, ?_, s2, ⟨(by rw [hx]; exact fun z => (by cases z)), hw2⟩, rfl⟩⟩⟩)
    rcases hcm with ⟨hm, -⟩ | ⟨⟨j, hj, hj2⟩, -⟩
    · generalize (cmdX 5 a b K).1 = v at hx hm
      exact exI hm hx
    · rw [hj, xcode_pos (nI_pos (by omega))] at hx; cases hx
theorem p_setPrice {S : List Int32} {d : Nat} (hd : 11 ≤ d) {n : Nat} {f sv : Int32} {K V : kK} {H : List kK} {T : List Int32} {s : xS} (hW : LW n f sv K V H T s) (hn : n ≤ 1000000) (a : Nat) (ha : a ≤ 1000) (b : Nat) (hb : b ≤ 1000) : yT S d 68 [.ref 0, .int (nI a), .int (nI b)] s (pubP ["java/lang/IllegalArgumentException"] (cmdX 6 a b K).1 (fun s2 => xcode (cmdX 6 a b K).1 = none ∧ LW (n + 1) f sv ((cmdX 6 a b K).2) V (opH 6 a b K H) T s2) (fun s2 => ¬ xcode (cmdX 6 a b K).1 = none ∧ LW (n + 1) f sv ((cmdX 6 a b K).2) V (opH 6 a b K H) T s2)) := by
  have hrc := LW_rcv hW
  have hcm := cm_all (c := 6) (by decide) hW.2.1 hn (a := a) (b := b) ha hb
  obtain ⟨d, rfl⟩ : ∃ e, d = e + 1 := ⟨d - 1, by omega⟩
  refine yT_x rfl (Nat.le_of_ble_eq_true rfl) ?_
  show yW S d 68 (0, [.ref 0, .int (nI a), .int (nI b)], [], s) _
  refine y_go rfl rfl ?_
  refine y_go rfl rfl ?_
  refine y_go rfl rfl ?_
  refine y_go rfl rfl ?_
  refine y_callV rfl (Nat.le_of_ble_eq_true rfl) (Nat.le_of_ble_eq_true rfl) rfl rfl hrc (p_change (by omega) hW hn 6 (by decide) a b ha hb) fun q hq => ?_
  rcases hq with ⟨hx, s2, hw2, rfl⟩ | ⟨E, hx, s2, hw2, rfl⟩
  · exact Or.inl ⟨_, rfl, y_ireturn rfl rfl rfl (Or.inl ⟨s2, ⟨hx, hw2⟩, rfl⟩)⟩
  · refine Or.inr (Or.inr ⟨E, rfl, Or.inr ⟨rfl, Or.inr ⟨E, ?_, s2, ⟨(by rw [hx]; exact fun z => (by cases z)), hw2⟩, rfl⟩⟩⟩)
    rcases hcm with ⟨hm, -⟩ | ⟨⟨j, hj, hj2⟩, -⟩
    · generalize (cmdX 6 a b K).1 = v at hx hm
      exact exI hm hx
    · rw [hj, xcode_pos (nI_pos (by omega))] at hx; cases hx
theorem p_feed {S : List Int32} {d : Nat} (hd : 11 ≤ d) {n : Nat} {f sv : Int32} {K V : kK} {H : List kK} {T : List Int32} {s : xS} (hW : LW n f sv K V H T s) (hn : n ≤ 1000000) (a : Nat) (ha : a ≤ 1000) : yT S d 69 [.ref 0, .int (nI a)] s (pubP ["java/lang/IllegalArgumentException", "java/lang/UnsupportedOperationException", "java/lang/IllegalStateException"] (cmdX 7 a 0 K).1 (fun s2 => xcode (cmdX 7 a 0 K).1 = none ∧ LW (n + 1) f sv ((cmdX 7 a 0 K).2) V (opH 7 a 0 K H) T s2) (fun s2 => ¬ xcode (cmdX 7 a 0 K).1 = none ∧ LW (n + 1) f sv ((cmdX 7 a 0 K).2) V (opH 7 a 0 K H) T s2)) := by
  have hrc := LW_rcv hW
  have hcm := cm_all (c := 7) (by decide) hW.2.1 hn (a := a) (b := 0) ha (by decide)
  obtain ⟨d, rfl⟩ : ∃ e, d = e + 1 := ⟨d - 1, by omega⟩
  refine yT_x rfl (Nat.le_of_ble_eq_true rfl) ?_
  show yW S d 69 (0, [.ref 0, .int (nI a)], [], s) _
  refine y_go rfl rfl ?_
  refine y_go rfl rfl ?_
  refine y_go rfl rfl ?_
  refine y_go rfl rfl ?_
  refine y_callV rfl (Nat.le_of_ble_eq_true rfl) (Nat.le_of_ble_eq_true rfl) rfl rfl hrc (p_change (by omega) hW hn 7 (by decide) a 0 ha (by decide)) fun q hq => ?_
  rcases hq with ⟨hx, s2, hw2, rfl⟩ | ⟨E, hx, s2, hw2, rfl⟩
  · exact Or.inl ⟨_, rfl, y_ireturn rfl rfl rfl (Or.inl ⟨s2, ⟨hx, hw2⟩, rfl⟩)⟩
  · refine Or.inr (Or.inr ⟨E, rfl, Or.inr ⟨rfl, Or.inr ⟨E, ?_, s2, ⟨(by rw [hx]; exact fun z => (by cases z)), hw2⟩, rfl⟩⟩⟩)
    rcases hcm with ⟨hm, -⟩ | ⟨⟨j, hj, hj2⟩, -⟩
    · generalize (cmdX 7 a 0 K).1 = v at hx hm
      exact exI hm hx
    · rw [hj, xcode_pos (nI_pos (by omega))] at hx; cases hx
theorem p_passHours {S : List Int32} {d : Nat} (hd : 11 ≤ d) {n : Nat} {f sv : Int32} {K V : kK} {H : List kK} {T : List Int32} {s : xS} (hW : LW n f sv K V H T s) (hn : n ≤ 1000000) (a : Nat) (ha : a ≤ 1000) : yT S d 66 [.ref 0, .int (nI a)] s (pubP ["java/lang/IllegalArgumentException"] (cmdX 8 a 0 K).1 (fun s2 => xcode (cmdX 8 a 0 K).1 = none ∧ LW (n + 1) f sv ((cmdX 8 a 0 K).2) V (opH 8 a 0 K H) T s2) (fun s2 => ¬ xcode (cmdX 8 a 0 K).1 = none ∧ LW (n + 1) f sv ((cmdX 8 a 0 K).2) V (opH 8 a 0 K H) T s2)) := by
  have hrc := LW_rcv hW
  have hcm := cm_all (c := 8) (by decide) hW.2.1 hn (a := a) (b := 0) ha (by decide)
  obtain ⟨d, rfl⟩ : ∃ e, d = e + 1 := ⟨d - 1, by omega⟩
  refine yT_x rfl (Nat.le_of_ble_eq_true rfl) ?_
  show yW S d 66 (0, [.ref 0, .int (nI a)], [], s) _
  refine y_go rfl rfl ?_
  refine y_go rfl rfl ?_
  refine y_go rfl rfl ?_
  refine y_go rfl rfl ?_
  refine y_callV rfl (Nat.le_of_ble_eq_true rfl) (Nat.le_of_ble_eq_true rfl) rfl rfl hrc (p_change (by omega) hW hn 8 (by decide) a 0 ha (by decide)) fun q hq => ?_
  rcases hq with ⟨hx, s2, hw2, rfl⟩ | ⟨E, hx, s2, hw2, rfl⟩
  · exact Or.inl ⟨_, rfl, y_ireturn rfl rfl rfl (Or.inl ⟨s2, ⟨hx, hw2⟩, rfl⟩)⟩
  · refine Or.inr (Or.inr ⟨E, rfl, Or.inr ⟨rfl, Or.inr ⟨E, ?_, s2, ⟨(by rw [hx]; exact fun z => (by cases z)), hw2⟩, rfl⟩⟩⟩)
    rcases hcm with ⟨hm, -⟩ | ⟨⟨j, hj, hj2⟩, -⟩
    · generalize (cmdX 8 a 0 K).1 = v at hx hm
      exact exI hm hx
    · rw [hj, xcode_pos (nI_pos (by omega))] at hx; cases hx
theorem p_buildWall {S : List Int32} {d : Nat} (hd : 11 ≤ d) {n : Nat} {f sv : Int32} {K V : kK} {H : List kK} {T : List Int32} {s : xS} (hW : LW n f sv K V H T s) (hn : n ≤ 1000000) (a : Nat) (ha : a ≤ 1000) (b : Nat) (hb : b ≤ 1000) : yT S d 70 [.ref 0, .int (nI a), .int (nI b)] s (pubP ["java/lang/IllegalArgumentException", "java/util/NoSuchElementException", "java/lang/IllegalStateException"] (cmdX 9 a b K).1 (fun s2 => xcode (cmdX 9 a b K).1 = none ∧ LW (n + 1) f sv ((cmdX 9 a b K).2) V (opH 9 a b K H) T s2) (fun s2 => ¬ xcode (cmdX 9 a b K).1 = none ∧ LW (n + 1) f sv ((cmdX 9 a b K).2) V (opH 9 a b K H) T s2)) := by
  have hrc := LW_rcv hW
  have hcm := cm_all (c := 9) (by decide) hW.2.1 hn (a := a) (b := b) ha hb
  obtain ⟨d, rfl⟩ : ∃ e, d = e + 1 := ⟨d - 1, by omega⟩
  refine yT_x rfl (Nat.le_of_ble_eq_true rfl) ?_
  show yW S d 70 (0, [.ref 0, .int (nI a), .int (nI b)], [], s) _
  refine y_go rfl rfl ?_
  refine y_go rfl rfl ?_
  refine y_go rfl rfl ?_
  refine y_go rfl rfl ?_
  refine y_callV rfl (Nat.le_of_ble_eq_true rfl) (Nat.le_of_ble_eq_true rfl) rfl rfl hrc (p_change (by omega) hW hn 9 (by decide) a b ha hb) fun q hq => ?_
  rcases hq with ⟨hx, s2, hw2, rfl⟩ | ⟨E, hx, s2, hw2, rfl⟩
  · exact Or.inl ⟨_, rfl, y_ireturn rfl rfl rfl (Or.inl ⟨s2, ⟨hx, hw2⟩, rfl⟩)⟩
  · refine Or.inr (Or.inr ⟨E, rfl, Or.inr ⟨rfl, Or.inr ⟨E, ?_, s2, ⟨(by rw [hx]; exact fun z => (by cases z)), hw2⟩, rfl⟩⟩⟩)
    rcases hcm with ⟨hm, -⟩ | ⟨⟨j, hj, hj2⟩, -⟩
    · generalize (cmdX 9 a b K).1 = v at hx hm
      exact exI hm hx
    · rw [hj, xcode_pos (nI_pos (by omega))] at hx; cases hx
