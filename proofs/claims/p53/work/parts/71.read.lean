/-! THE PROGRAM: a command is read. -/
def pats : List (List Nat) := [[108, 111, 97, 100, 32, 35, 32, 37], [116, 97, 107, 101, 32, 35], [108, 105, 103, 104, 116, 32, 35], [111, 117, 116], [100, 114, 97, 117, 103, 104, 116, 32, 35], [102, 117, 101, 108, 32, 64, 32, 37], [112, 114, 105, 99, 101, 32, 64, 32, 37], [102, 101, 101, 100, 32, 37], [112, 97, 115, 115, 32, 37], [119, 97, 108, 108, 32, 37, 32, 35]]
def patN (c : Nat) : List Nat := pats.getD c []
theorem pat_str : ∀ c, c < 10 → xstr (1000010 + c) ((patN c).map nI) := by
  intro c hc
  match c, hc with
  | 0, _ => exact xstr_10
  | 1, _ => exact xstr_11
  | 2, _ => exact xstr_12
  | 3, _ => exact xstr_13
  | 4, _ => exact xstr_14
  | 5, _ => exact xstr_15
  | 6, _ => exact xstr_16
  | 7, _ => exact xstr_17
  | 8, _ => exact xstr_18
  | 9, _ => exact xstr_19
theorem pat_b : ∀ c, c < 10 → (patN c).length < 100 ∧ ∀ i, i < (patN c).length → gn (patN c) i < 128 := by decide +kernel
theorem pat_f : ∀ c, c < 10 → xcf (1000000 + c) 3 = some (.ref (1000010 + c)) := by decide +kernel
theorem xct_cmds : xct 1000091 = some (5, (List.range 10).map (fun c => .ref (1000000 + c))) := by decide +kernel
theorem cmds_at {c : Nat} (h : c < 10) : ((List.range 10).map (fun c => Value.ref (1000000 + c)))[c]? = some (.ref (1000000 + c)) := by rw [List.getElem?_map, List.getElem?_range h]; rfl
/-- one of n commands is read from the place p0 on: which one (10: none), what follows; r is the farthest place -/
def rcm (N : List Nat) (p0 : Nat) : Nat → Nat → Nat → Nat × (Nat × Nat) → Nat × pV
  | 0, _, r, s => (10, r, s)
  | n + 1, c, r, s => if (foT N (patN c) (p0, 0, s.2)).1 = true then (c, (foT N (patN c) (p0, 0, s.2)).2) else rcm N p0 n (c + 1) (max r (foT N (patN c) (p0, 0, s.2)).2.1) (foT N (patN c) (p0, 0, s.2)).2.2
theorem imax_nI {a b : Nat} (ha : a < 2 ^ 31) (hb : b < 2 ^ 31) : imax (nI a) (nI b) = nI (max a b) := by
  unfold imax
  by_cases q : a < b
  · rw [if_pos (nI_lt q hb), Nat.max_eq_right (by omega)]
  · rw [if_neg (nI_nlt (by omega) ha), Nat.max_eq_left (by omega)]
theorem l_rcm {S : List Int32} {d : Nat} (hd : 5 ≤ d) {h : xH} (hl : 113 + 6 ≤ h.length) (k0 : Nat × Nat) (N : List Nat) (hN : N.length ≤ 60) (tx : List Int32) (ht : tx.length = 60) (hT : ∀ i, i < N.length → gd tx i = nI (gn N i)) (hB : ∀ i, i < N.length → gn N i < 128) (cm : List (Option Nat)) (fi se : List Int32) (cnt : Nat) (hl6 : h.length ≤ 1000000) (h1 : cm.length = 16) (h2 : fi.length = 16) (h3 : se.length = 16) (hcn : cnt < 16) (p0 : Nat) (hp0 : p0 ≤ 60) (R : Nat × pV) : ∀ (n i : Nat), i + n = 10 → ∀ (x6 : Value) (r0 ps : Nat) (s : Nat × (Nat × Nat)), r0 ≤ 60 → sOK (ps, s) → rcm N p0 n i r0 s = R → yW S d 53 (18, [.ref 113, .int (nI p0), .int (nI r0), .ref 1000091, .int 10, .int (nI i), x6], [], (put h 113 (prC (nI N.length) (nI ps) (nI cnt) (nI s.1) tx cm fi se [nI s.2.1, nI s.2.2]), k0)) (fun q => (R.1 < 10 ∧ q = (.inl (some (.int 1)), (put h 113 (prC (nI N.length) (nI R.2.1) (nI (cnt + 1)) (nI R.2.2.1) tx (cm.set cnt (some (1000000 + R.1))) (fi.set cnt (nI R.2.2.2.1)) (se.set cnt (nI R.2.2.2.2)) [nI R.2.2.2.1, nI R.2.2.2.2]), k0))) ∨ (R.1 = 10 ∧ q = (.inl (some (.int 0)), (put h 113 (prC (nI N.length) (nI R.2.1) (nI cnt) (nI R.2.2.1) tx cm fi se [nI R.2.2.2.1, nI R.2.2.2.2]), k0)))) := by
  intro n
  induction n with
  | zero =>
    intro i hi x6 r0 ps s hr hs e
    obtain rfl : i = 10 := by omega
    have e2 : R = (10, r0, s) := e.symm
    subst e2
    refine y_go rfl rfl ?_
    refine y_go rfl rfl ?_
    refine y_ic_ge rfl (fun _ => ?_) (fun c => absurd c (by decide))
    refine y_go rfl rfl ?_
    refine y_go rfl rfl ?_
    refine y_putR (j := 0) (cs' := (prC (nI N.length) (nI r0) (nI cnt) (nI s.1) tx cm fi se ([nI s.2.1, nI s.2.2]))) rfl hl rfl rfl (Nat.le_of_ble_eq_true rfl) (xf_int rfl) rfl ?_
    refine y_go rfl rfl ?_
    exact y_ireturn rfl rfl (by first | rfl | (split <;> rfl)) (Or.inr ⟨rfl, rfl⟩)
  | succ n ih =>
    intro i hi x6 r0 ps s hr hs e
    have hlt : i < 10 := by omega
    have hok := foT_ok hN hB (patN i) (p0, 0, s.2) ⟨hp0, Nat.zero_le _, hs.2.2⟩
    refine y_go rfl rfl ?_
    refine y_go rfl rfl ?_
    refine y_ic_ge rfl (fun c => absurd (nI_lt (a := i) (b := 10) hlt (by decide)) c) (fun _ => ?_)
    refine y_go rfl rfl ?_
    refine y_go rfl rfl ?_
    refine y_aaldc (t := 5) (j := i) (w := .ref (1000000 + i)) rfl (xnoh (by rw [put_len (cs := prC _ _ _ _ _ _ _ _ _) hl]; exact hl6) (by decide)) xct_cmds (by decide) (xidx_nI (by omega)) (cmds_at hlt) ?_
    refine y_go (g' := (31, [.ref 113, .int (nI p0), .int (nI r0), .ref 1000091, .int 10, .int (nI i), .ref (1000000 + i)], _, _)) rfl rfl ?_
    refine y_go rfl rfl ?_
    refine y_go rfl rfl ?_
    refine y_putR (j := 0) (cs' := (prC (nI N.length) (nI p0) (nI cnt) (nI s.1) tx cm fi se ([nI s.2.1, nI s.2.2]))) rfl hl rfl rfl (Nat.le_of_ble_eq_true rfl) (xf_int rfl) rfl ?_
    refine y_go rfl rfl ?_
    refine y_go rfl rfl ?_
    refine y_getc rfl (w := .ref (1000010 + i)) (pat_f i hlt) ?_
    refine y_V1 rfl (Nat.le_of_ble_eq_true rfl) (Nat.le_of_ble_eq_true rfl) rfl rfl (xrcvR (n := 0) hl rfl rfl) (s_follow (by omega) hl k0 N hN tx ht hT hB cm fi se cnt hl6 (pat_str i hlt) (pat_b i hlt).1 (pat_b i hlt).2 p0 s.1 s.2.1 s.2.2 ⟨hp0, Nat.zero_le _, hs.2.2⟩) ?_
    cases hf : (foT N (patN i) (p0, 0, s.2.1, s.2.2)).1 with
    | true =>
      show yW S d 53 (45, [.ref 113, .int (nI p0), .int (nI r0), .ref 1000091, .int 10, .int (nI i), .ref (1000000 + i)], [.int 1], ((put h 113 (prC (nI N.length) (nI (foT N (patN i) (p0, 0, s.2)).2.1) (nI cnt) (nI (foT N (patN i) (p0, 0, s.2)).2.2.1) tx cm fi se ([nI (foT N (patN i) (p0, 0, s.2)).2.2.2.1, nI (foT N (patN i) (p0, 0, s.2)).2.2.2.2]))), k0)) _
      have e2 : R = (i, (foT N (patN i) (p0, 0, s.2)).2) := e.symm.trans (if_pos hf)
      subst e2
      refine y_if_eq rfl (fun c => absurd c (by decide)) (fun _ => ?_)
      refine y_go rfl rfl ?_
      refine y_go rfl rfl ?_
      refine y_V0 rfl (Nat.le_of_ble_eq_true rfl) (Nat.le_of_ble_eq_true rfl) rfl rfl (xrcvR (n := 0) hl rfl rfl) (s_keep (by omega) hl hl6 k0 _ _ _ tx cm fi se cnt _ _ h1 h2 h3 hcn i hlt) ?_
      refine y_go rfl rfl ?_
      exact y_ireturn rfl rfl (by first | rfl | (split <;> rfl)) (Or.inl ⟨hlt, rfl⟩)
    | false =>
      show yW S d 53 (45, [.ref 113, .int (nI p0), .int (nI r0), .ref 1000091, .int 10, .int (nI i), .ref (1000000 + i)], [.int 0], ((put h 113 (prC (nI N.length) (nI (foT N (patN i) (p0, 0, s.2)).2.1) (nI cnt) (nI (foT N (patN i) (p0, 0, s.2)).2.2.1) tx cm fi se ([nI (foT N (patN i) (p0, 0, s.2)).2.2.2.1, nI (foT N (patN i) (p0, 0, s.2)).2.2.2.2]))), k0)) _
      have e2 : rcm N p0 n (i + 1) (max r0 (foT N (patN i) (p0, 0, s.2)).2.1) (foT N (patN i) (p0, 0, s.2)).2.2 = R := (if_neg (fun q => by rw [hf] at q; cases q)).symm.trans e
      refine y_if_eq rfl (fun _ => ?_) (fun c => absurd (by decide) c)
      refine y_go rfl rfl ?_
      refine y_go rfl rfl ?_
      refine y_getR (w := .int (nI (foT N (patN i) (p0, 0, s.2)).2.1)) (j := 0) rfl hl rfl rfl rfl rfl ?_
      refine y_max rfl (Nat.le_of_ble_eq_true rfl) rfl ?_
      rw [show imax (nI r0) (nI (foT N (patN i) (p0, 0, s.2)).2.1) = nI (max r0 (foT N (patN i) (p0, 0, s.2)).2.1) from imax_nI (by omega) (by have := hok.1; omega)]
      refine y_go (g' := (65, [.ref 113, .int (nI p0), .int (nI (max r0 (foT N (patN i) (p0, 0, s.2)).2.1)), .ref 1000091, .int 10, .int (nI i), .ref (1000000 + i)], _, _)) rfl rfl ?_
      refine y_go (g' := (68, [.ref 113, .int (nI p0), .int (nI (max r0 (foT N (patN i) (p0, 0, s.2)).2.1)), .ref 1000091, .int 10, .int (nI (i + 1)), .ref (1000000 + i)], _, _)) rfl (by rw [← nI_1 i]; rfl) ?_
      refine y_go rfl rfl ?_
      exact ih (i + 1) (by omega) _ _ _ _ (Nat.max_le.mpr ⟨hr, hok.1⟩) hok e2
theorem s_readCommand {S : List Int32} {d : Nat} (hd : 6 ≤ d) {h : xH} (hl : 113 + 6 ≤ h.length) (k0 : Nat × Nat) (N : List Nat) (hN : N.length ≤ 60) (tx : List Int32) (ht : tx.length = 60) (hT : ∀ i, i < N.length → gd tx i = nI (gn N i)) (hB : ∀ i, i < N.length → gn N i < 128) (cm : List (Option Nat)) (fi se : List Int32) (cnt : Nat) (hl6 : h.length ≤ 1000000) (h1 : cm.length = 16) (h2 : fi.length = 16) (h3 : se.length = 16) (hcn : cnt < 16) (pos vc v0 v1 : Nat) (hs : sOK (pos, vc, v0, v1)) : yT S d 53 [.ref 113] (put h 113 (prC (nI N.length) (nI pos) (nI cnt) (nI vc) tx cm fi se [nI v0, nI v1]), k0) (fun q => ((rcm N pos 10 0 pos (vc, v0, v1)).1 < 10 ∧ q = (.inl (some (.int 1)), (put h 113 (prC (nI N.length) (nI (rcm N pos 10 0 pos (vc, v0, v1)).2.1) (nI (cnt + 1)) (nI (rcm N pos 10 0 pos (vc, v0, v1)).2.2.1) tx (cm.set cnt (some (1000000 + (rcm N pos 10 0 pos (vc, v0, v1)).1))) (fi.set cnt (nI (rcm N pos 10 0 pos (vc, v0, v1)).2.2.2.1)) (se.set cnt (nI (rcm N pos 10 0 pos (vc, v0, v1)).2.2.2.2)) [nI (rcm N pos 10 0 pos (vc, v0, v1)).2.2.2.1, nI (rcm N pos 10 0 pos (vc, v0, v1)).2.2.2.2]), k0))) ∨ ((rcm N pos 10 0 pos (vc, v0, v1)).1 = 10 ∧ q = (.inl (some (.int 0)), (put h 113 (prC (nI N.length) (nI (rcm N pos 10 0 pos (vc, v0, v1)).2.1) (nI cnt) (nI (rcm N pos 10 0 pos (vc, v0, v1)).2.2.1) tx cm fi se [nI (rcm N pos 10 0 pos (vc, v0, v1)).2.2.2.1, nI (rcm N pos 10 0 pos (vc, v0, v1)).2.2.2.2]), k0)))) := by
  obtain ⟨d, rfl⟩ : ∃ e, d = e + 1 := ⟨d - 1, by omega⟩
  refine yT_of (Nat.le_of_ble_eq_true rfl) ?_ (fun r hr hx => by rcases hr with ⟨-, rfl⟩ | ⟨-, rfl⟩ <;> cases hx)
  show yW S d 53 (0, [.ref 113, xno, xno, xno, xno, xno, xno], [], (put h 113 (prC (nI N.length) (nI pos) (nI cnt) (nI vc) tx cm fi se [nI v0, nI v1]), k0)) _
  refine y_go rfl rfl ?_
  refine y_getR (w := .int (nI pos)) (j := 0) rfl hl rfl rfl rfl rfl ?_
  refine y_go (g' := (5, [.ref 113, .int (nI pos), xno, xno, xno, xno, xno], _, _)) rfl rfl ?_
  refine y_go rfl rfl ?_
  refine y_go (g' := (7, [.ref 113, .int (nI pos), .int (nI pos), xno, xno, xno, xno], _, _)) rfl rfl ?_
  refine y_go rfl rfl ?_
  refine y_go (g' := (11, [.ref 113, .int (nI pos), .int (nI pos), .ref 1000091, xno, xno, xno], _, _)) rfl rfl ?_
  refine y_go rfl rfl ?_
  refine y_alenc rfl (xnoh (by rw [put_len (cs := prC _ _ _ _ _ _ _ _ _) hl]; exact hl6) (by decide)) xct_cmds (n := 10) rfl ?_
  refine y_go (g' := (15, [.ref 113, .int (nI pos), .int (nI pos), .ref 1000091, .int 10, xno, xno], _, _)) rfl rfl ?_
  refine y_go rfl rfl ?_
  refine y_go (g' := (18, [.ref 113, .int (nI pos), .int (nI pos), .ref 1000091, .int 10, .int 0, xno], _, _)) rfl rfl ?_
  exact l_rcm (by omega) hl k0 N hN tx ht hT hB cm fi se cnt hl6 h1 h2 h3 hcn pos hs.1 _ 10 0 (by omega) _ pos pos (vc, v0, v1) hs.1 hs rfl
