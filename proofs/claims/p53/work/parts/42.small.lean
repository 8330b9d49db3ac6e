/-! THE SMALL METHODS. -/
theorem s_isOutside {S : List Int32} {d : Nat} (hd : 1 ≤ d) (v lo hi : Int32) (s : xS) : yT S d 107 [.int v, .int lo, .int hi] s (· = (.inl (some (.int (if v < lo ∨ hi < v then 1 else 0))), s)) := by
  obtain ⟨d, rfl⟩ : ∃ e, d = e + 1 := ⟨d - 1, by omega⟩
  refine yT_eq (Nat.le_of_ble_eq_true rfl) ?_
  show yW S d 107 (0, [.int v, .int lo, .int hi], [], s) _
  refine y_go rfl rfl ?_
  refine y_go rfl rfl ?_
  refine y_ic_lt rfl (fun c2 => ?_) (fun c2 => ?_)
  · refine y_go rfl rfl ?_
    refine y_go rfl rfl ?_
    exact y_ireturn rfl rfl rfl (by simp [c2])
  · refine y_go rfl rfl ?_
    refine y_go rfl rfl ?_
    refine y_ic_le rfl (fun c7 => ?_) (fun c7 => ?_)
    · refine y_go rfl rfl ?_
      exact y_ireturn rfl rfl rfl (by simp [c2, c7])
    · refine y_go rfl rfl ?_
      refine y_go rfl rfl ?_
      exact y_ireturn rfl rfl rfl (by simp [c2, c7])
theorem s_needWithin {S : List Int32} {d : Nat} (hd : 2 ≤ d) (v lo hi : Int32) (h : ¬ (v < lo ∨ hi < v)) (s : xS) : yT S d 108 [.int v, .int lo, .int hi] s (· = (.inl none, s)) := by
  obtain ⟨d, rfl⟩ : ∃ e, d = e + 1 := ⟨d - 1, by omega⟩
  refine yT_eq (Nat.le_of_ble_eq_true rfl) ?_
  show yW S d 108 (0, [.int v, .int lo, .int hi], [], s) _
  refine y_go rfl rfl ?_
  refine y_go rfl rfl ?_
  refine y_go rfl rfl ?_
  refine y_S1 rfl rfl (Nat.le_of_ble_eq_true rfl) (Nat.le_of_ble_eq_true rfl) rfl rfl (s_isOutside (by omega) _ _ _ _) ?_
  refine y_if_eq rfl (fun _ => ?_) (fun c => absurd (if_neg h) c)
  exact y_end rfl rfl rfl
theorem s_needWithinX {S : List Int32} {d : Nat} (hd : 2 ≤ d) (v lo hi : Int32) (h : v < lo ∨ hi < v) (s : xS) : yT S d 108 [.int v, .int lo, .int hi] s (· = (.inr "java/lang/IllegalArgumentException", xth s)) := by
  obtain ⟨d, rfl⟩ : ∃ e, d = e + 1 := ⟨d - 1, by omega⟩
  refine yT_x rfl (Nat.le_of_ble_eq_true rfl) ?_
  show yW S d 108 (0, [.int v, .int lo, .int hi], [], s) _
  refine y_go rfl rfl ?_
  refine y_go rfl rfl ?_
  refine y_go rfl rfl ?_
  refine y_S1 rfl rfl (Nat.le_of_ble_eq_true rfl) (Nat.le_of_ble_eq_true rfl) rfl rfl (s_isOutside (by omega) _ _ _ _) ?_
  refine y_if_eq rfl (fun c => absurd c (by rw [if_pos h]; decide)) (fun _ => ?_)
  exact y_throw rfl rfl rfl rfl
theorem s_isChamber {S : List Int32} {d : Nat} (hd : 2 ≤ d) (v : Int32) (s : xS) : yT S d 111 [.int v] s (· = (.inl (some (.int (if v < 0 ∨ 7 < v then 0 else 1))), s)) := by
  obtain ⟨d, rfl⟩ : ∃ e, d = e + 1 := ⟨d - 1, by omega⟩
  refine yT_eq (Nat.le_of_ble_eq_true rfl) ?_
  show yW S d 111 (0, [.int v], [], s) _
  refine y_go rfl rfl ?_
  refine y_go rfl rfl ?_
  refine y_go rfl rfl ?_
  refine y_S1 rfl rfl (Nat.le_of_ble_eq_true rfl) (Nat.le_of_ble_eq_true rfl) rfl rfl (s_isOutside (by omega) _ _ _ _) ?_
  refine y_if_ne rfl (fun c7 => ?_) (fun c7 => ?_)
  · replace c7 : v < 0 ∨ 7 < v := xi_b c7
    refine y_go rfl rfl ?_
    exact y_ireturn rfl rfl rfl (by simp only [if_pos c7])
  · replace c7 : ¬ (v < 0 ∨ 7 < v) := xi_a c7
    refine y_go rfl rfl ?_
    refine y_go rfl rfl ?_
    exact y_ireturn rfl rfl rfl (by simp only [if_neg c7])
theorem s_needChamber {S : List Int32} {d : Nat} (hd : 3 ≤ d) (v : Int32) (h : ¬ (v < 0 ∨ 7 < v)) (s : xS) : yT S d 110 [.int v] s (· = (.inl none, s)) := by
  obtain ⟨d, rfl⟩ : ∃ e, d = e + 1 := ⟨d - 1, by omega⟩
  refine yT_eq (Nat.le_of_ble_eq_true rfl) ?_
  show yW S d 110 (0, [.int v], [], s) _
  refine y_go rfl rfl ?_
  refine y_S1 rfl rfl (Nat.le_of_ble_eq_true rfl) (Nat.le_of_ble_eq_true rfl) rfl rfl (s_isChamber (by omega) _ _) ?_
  refine y_if_ne rfl (fun _ => ?_) (fun c => absurd c (by rw [if_neg h]; decide))
  exact y_end rfl rfl rfl
theorem s_needChamberX {S : List Int32} {d : Nat} (hd : 3 ≤ d) (v : Int32) (h : v < 0 ∨ 7 < v) (s : xS) : yT S d 110 [.int v] s (· = (.inr "java/lang/IndexOutOfBoundsException", xth s)) := by
  obtain ⟨d, rfl⟩ : ∃ e, d = e + 1 := ⟨d - 1, by omega⟩
  refine yT_x rfl (Nat.le_of_ble_eq_true rfl) ?_
  show yW S d 110 (0, [.int v], [], s) _
  refine y_go rfl rfl ?_
  refine y_S1 rfl rfl (Nat.le_of_ble_eq_true rfl) (Nat.le_of_ble_eq_true rfl) rfl rfl (s_isChamber (by omega) _ _) ?_
  refine y_if_ne rfl (fun c => absurd (if_pos h) c) (fun _ => ?_)
  exact y_throw rfl rfl rfl rfl
theorem s_needWidth {S : List Int32} {d : Nat} (hd : 3 ≤ d) (v : Int32) (h : ¬ (v < 2 ∨ 18 < v)) (s : xS) : yT S d 109 [.int v] s (· = (.inl none, s)) := by
  obtain ⟨d, rfl⟩ : ∃ e, d = e + 1 := ⟨d - 1, by omega⟩
  refine yT_eq (Nat.le_of_ble_eq_true rfl) ?_
  show yW S d 109 (0, [.int v], [], s) _
  refine y_go rfl rfl ?_
  refine y_go rfl rfl ?_
  refine y_go rfl rfl ?_
  refine y_S0 rfl rfl (Nat.le_of_ble_eq_true rfl) (Nat.le_of_ble_eq_true rfl) rfl rfl (s_needWithin (by omega) _ _ _ (by assumption) _) ?_
  exact y_end rfl rfl rfl
theorem s_needWidthX {S : List Int32} {d : Nat} (hd : 3 ≤ d) (v : Int32) (h : v < 2 ∨ 18 < v) (s : xS) : yT S d 109 [.int v] s (· = (.inr "java/lang/IllegalArgumentException", xth s)) := by
  obtain ⟨d, rfl⟩ : ∃ e, d = e + 1 := ⟨d - 1, by omega⟩
  refine yT_x rfl (Nat.le_of_ble_eq_true rfl) ?_
  show yW S d 109 (0, [.int v], [], s) _
  refine y_go rfl rfl ?_
  refine y_go rfl rfl ?_
  refine y_go rfl rfl ?_
  exact y_Sx rfl rfl (Nat.le_of_ble_eq_true rfl) (Nat.le_of_ble_eq_true rfl) rfl (s_needWithinX (by omega) _ _ _ h _) rfl rfl
/-- the fuels' places -/
def xkind (v : Int32) : Int32 := if v = 119 then 0 else if v = 99 then 1 else if v = 111 then 2 else -1
theorem s_kindIndex {S : List Int32} {d : Nat} (hd : 1 ≤ d) (v : Int32) (s : xS) : yT S d 113 [.int v] s (· = (.inl (some (.int (xkind v))), s)) := by
  obtain ⟨d, rfl⟩ : ∃ e, d = e + 1 := ⟨d - 1, by omega⟩
  refine yT_eq (Nat.le_of_ble_eq_true rfl) ?_
  show yW S d 113 (0, [.int v], [], s) _
  refine y_go rfl rfl ?_
  by_cases h1 : v = 119
  · subst h1
    refine y_go rfl rfl ?_
    refine y_go rfl rfl ?_
    exact y_ireturn rfl rfl rfl rfl
  by_cases h2 : v = 99
  · subst h2
    refine y_go rfl rfl ?_
    refine y_go rfl rfl ?_
    exact y_ireturn rfl rfl rfl rfl
  by_cases h3 : v = 111
  · subst h3
    refine y_go rfl rfl ?_
    refine y_go rfl rfl ?_
    exact y_ireturn rfl rfl rfl rfl
  refine y_go (g' := (42, [.int v], [], s)) rfl ?_ ?_
  · have e1 : (v == 99) = false := by simpa using h2
    have e2 : (v == 111) = false := by simpa using h3
    have e3 : (v == 119) = false := by simpa using h1
    have e4 : xsw 113 1 = [(99, 38), (111, 40), (119, 36)] := rfl
    simp only [xnext, x1i, e4, List.lookup, e1, e2, e3, xgo]
  refine y_go rfl rfl ?_
  exact y_ireturn rfl rfl rfl (by simp [xkind, h1, h2, h3])
theorem s_neededKind {S : List Int32} {d : Nat} (hd : 2 ≤ d) (v : Int32) (h : ¬ xkind v < 0) (s : xS) : yT S d 112 [.int v] s (· = (.inl (some (.int (xkind v))), s)) := by
  obtain ⟨d, rfl⟩ : ∃ e, d = e + 1 := ⟨d - 1, by omega⟩
  refine yT_eq (Nat.le_of_ble_eq_true rfl) ?_
  show yW S d 112 (0, [.int v, xno], [], s) _
  refine y_go rfl rfl ?_
  refine y_S1 rfl rfl (Nat.le_of_ble_eq_true rfl) (Nat.le_of_ble_eq_true rfl) rfl rfl (s_kindIndex (by omega) _ _) ?_
  refine y_go (g' := (5, [.int v, .int (xkind v)], _, _)) rfl rfl ?_
  refine y_go rfl rfl ?_
  refine y_if_ge rfl (fun _ => ?_) (fun c => absurd c (h))
  refine y_go rfl rfl ?_
  exact y_ireturn rfl rfl rfl rfl
theorem s_neededKindX {S : List Int32} {d : Nat} (hd : 2 ≤ d) (v : Int32) (h : xkind v < 0) (s : xS) : yT S d 112 [.int v] s (· = (.inr "java/lang/IllegalArgumentException", xth s)) := by
  obtain ⟨d, rfl⟩ : ∃ e, d = e + 1 := ⟨d - 1, by omega⟩
  refine yT_x rfl (Nat.le_of_ble_eq_true rfl) ?_
  show yW S d 112 (0, [.int v, xno], [], s) _
  refine y_go rfl rfl ?_
  refine y_S1 rfl rfl (Nat.le_of_ble_eq_true rfl) (Nat.le_of_ble_eq_true rfl) rfl rfl (s_kindIndex (by omega) _ _) ?_
  refine y_go (g' := (5, [.int v, .int (xkind v)], _, _)) rfl rfl ?_
  refine y_go rfl rfl ?_
  refine y_if_ge rfl (fun c => absurd (h) c) (fun _ => ?_)
  exact y_throw rfl rfl rfl rfl
theorem xkv {v : Int32} (h : ¬ xkind v < 0) : xidx (xkind v) (xkind v).toNatClampNeg := ⟨h, rfl⟩
theorem xkb {v : Int32} (h : ¬ xkind v < 0) : (xkind v).toNatClampNeg < 3 := by
  unfold xkind at h ⊢
  split
  · decide
  · split
    · decide
    · split
      · decide
      · rename_i a b c
        rw [if_neg a, if_neg b, if_neg c] at h
        exact absurd (by decide) h
theorem s_answerOf {S : List Int32} {d : Nat} (hd : 1 ≤ d) (o : Int32) (s : xS) : yT S d 114 [.int o] s (· = xans o s) := by
  obtain ⟨d, rfl⟩ : ∃ e, d = e + 1 := ⟨d - 1, by omega⟩
  refine yT_x rfl (Nat.le_of_ble_eq_true rfl) ?_
  show yW S d 114 (0, [.int o], [], s) _
  refine y_go rfl rfl ?_
  by_cases h1 : o = -1
  · subst h1
    refine y_go rfl rfl ?_
    exact y_throw rfl rfl rfl rfl
  by_cases h2 : o = -2
  · subst h2
    refine y_go rfl rfl ?_
    exact y_throw rfl rfl rfl rfl
  by_cases h3 : o = -3
  · subst h3
    refine y_go rfl rfl ?_
    exact y_throw rfl rfl rfl rfl
  by_cases h4 : o = -4
  · subst h4
    refine y_go rfl rfl ?_
    exact y_throw rfl rfl rfl rfl
  by_cases h5 : o = -5
  · subst h5
    refine y_go rfl rfl ?_
    exact y_throw rfl rfl rfl rfl
  refine y_go (g' := (91, [.int o], [], s)) rfl ?_ ?_
  · have e1 : (o == -5) = false := by simpa using h5
    have e2 : (o == -4) = false := by simpa using h4
    have e3 : (o == -3) = false := by simpa using h3
    have e4 : (o == -2) = false := by simpa using h2
    have e5 : (o == -1) = false := by simpa using h1
    have e6 : xsw 114 1 = [(-5, 80), (-4, 69), (-3, 58), (-2, 47), (-1, 36)] := rfl
    have hr : o.toInt < -5 ∨ -1 < o.toInt := by
      refine Classical.byContradiction fun hn => ?_
      have hz : o.toInt = -5 ∨ o.toInt = -4 ∨ o.toInt = -3 ∨ o.toInt = -2 ∨ o.toInt = -1 := by omega
      rcases hz with hz | hz | hz | hz | hz
      · exact h5 (Int32.toInt_inj.mp hz)
      · exact h4 (Int32.toInt_inj.mp hz)
      · exact h3 (Int32.toInt_inj.mp hz)
      · exact h2 (Int32.toInt_inj.mp hz)
      · exact h1 (Int32.toInt_inj.mp hz)
    simp only [xnext, x1i, e6, List.lookup, e1, e2, e3, e4, e5]
    rw [if_pos hr]
    rfl
  refine y_go rfl rfl ?_
  refine y_ireturn rfl rfl rfl ?_
  simp [xans, xcode, h1, h2, h3, h4, h5]
