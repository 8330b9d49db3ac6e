/-! THE MIXER: the best mixture by trying. -/
/-- how many pieces of the heat y give x -/
def pf (x y : Nat) : Nat := (x + y - 1) / y
theorem pf_le {x y : Nat} (hy : 0 < y) : pf x y ≤ x + y := Nat.le_trans (Nat.div_le_self _ _) (by omega)
theorem s_pf {S : List Int32} {d : Nat} (hd : 1 ≤ d) (u w : Nat) (W : Int32) (hW : W = nI w) (h0 : (W == 0) = false) (hw : 0 < w) (hu : u < 1000000) (hw2 : w < 1000000) (s : xS) : yT S d 46 [.int (nI u), .int W] s (· = (.inl (some (.int (nI (pf u w)))), s)) := by
  have h := s_piecesFor (S := S) hd (nI u) W h0 s
  have e : (nI u + W - 1) / W = nI (pf u w) := by
    rw [hW, nI_add, show (1 : Int32) = nI 1 by decide, nI_sub (by omega), nI_div (by omega) (by omega)]
    rfl
  rw [e] at h
  exact h
theorem mxs {u i k : Nat} {K : Int32} (hK : K = nI k) (hu : u < 2 ^ 31) (h : i * k < 2 ^ 31) : imax (nI u - nI i * K) 0 = nI (u - i * k) := by
  rw [hK, nI_mul, nI_sub0 hu h]
/-- the best of B and one mixture more -/
def considerB (a b e : Nat) (B : Option (Nat × (Nat × Nat))) (w c o : Nat) : Option (Nat × (Nat × Nat)) := match B with
  | none => some (w, c, o)
  | some (x, y, z) => if btr (nI x) (nI y) (nI z) (nI (mcost a b e x y z)) (nI (mheat x y z)) (nI (mcost a b e w c o)) (nI (mheat w c o)) (nI w) (nI c) = true then some (w, c, o) else some (x, y, z)
/-- the mixer holds B -/
def mixR (p : Nat) (lo : List Int32) (a b e : Nat) (B : Option (Nat × (Nat × Nat))) (cs : List xC) : Prop := match B with
  | none => ∃ x y z cc t, cs = mC p lo [x, y, z] cc t 0
  | some (w, c, o) => cs = mC p lo [nI w, nI c, nI o] (nI (mcost a b e w c o)) (nI (mheat w c o)) 1
theorem mixR_ex {p : Nat} {lo : List Int32} {a b e : Nat} {B : Option (Nat × (Nat × Nat))} {cs : List xC} (h : mixR p lo a b e B cs) : ∃ x y z cc t f, cs = mC p lo [x, y, z] cc t f := by
  cases B with
  | none => obtain ⟨x, y, z, cc, t, rfl⟩ := h; exact ⟨_, _, _, _, _, _, rfl⟩
  | some m => obtain ⟨w, c, o⟩ := m; exact ⟨_, _, _, _, _, _, h⟩
theorem mixR_len {p : Nat} {lo : List Int32} {a b e : Nat} {B : Option (Nat × (Nat × Nat))} {cs : List xC} (h : mixR p lo a b e B cs) : cs.length = 3 := by
  obtain ⟨_, _, _, _, _, _, rfl⟩ := mixR_ex h; rfl
theorem mixR_at {p : Nat} {lo : List Int32} {a b e : Nat} {B : Option (Nat × (Nat × Nat))} {cs : List xC} (h : mixR p lo a b e B cs) : ∃ fs, cs[0]? = some (.inl (7, fs)) := by
  obtain ⟨_, _, _, _, _, _, rfl⟩ := mixR_ex h; exact ⟨_, rfl⟩
theorem s_consider {S : List Int32} {d : Nat} (hd : 2 ≤ d) {h : xH} {p : Nat} (hl : p + 3 ≤ h.length) (hB : h.length ≤ 1000000) (k0 : Nat × Nat) (lo : List Int32) {q : Nat} (a b e : Nat) (hs : h[q]? = some (.inr (.inl (0, [nI a, nI b, nI e])))) (hq : q < p ∨ p + 3 ≤ q) (w c o : Nat) (B : Option (Nat × (Nat × Nat))) {cs : List xC} (hm : mixR p lo a b e B cs) :
    yT S d 47 [.ref p, .int (nI w), .int (nI c), .int (nI o), .ref q] (put h p cs, k0) (fun r => ∃ cs', mixR p lo a b e (considerB a b e B w c o) cs' ∧ r = (.inl none, (put h p cs', k0))) := by
  cases B with
  | none =>
    obtain ⟨x, y, z, cc, t, rfl⟩ := hm
    exact yT_mono (s_considerN hd hl hB k0 lo a b e hs hq w c o x y z cc t) fun r hr => ⟨_, rfl, hr⟩
  | some m =>
    obtain ⟨x, y, z⟩ := m
    have hm : cs = _ := hm
    subst hm
    refine yT_mono (s_considerS hd hl hB k0 lo a b e hs hq w c o _ _ _ _ _) fun r hr => ⟨_, ?_, hr⟩
    unfold considerB
    dsimp only
    split
    · rfl
    · rfl
/-- trying coal c pieces and fewer, beside o of oil -/
def tryC (W u a b e o : Nat) (B : Option (Nat × (Nat × Nat))) : Nat → Option (Nat × (Nat × Nat))
  | 0 => B
  | c + 1 => if W < pf (u - o * 12 - c * 8) 3 then tryC W u a b e o B c else considerB a b e (tryC W u a b e o B c) (pf (u - o * 12 - c * 8) 3) c o
def tryO (W C u a b e : Nat) : Nat → Option (Nat × (Nat × Nat))
  | 0 => none
  | o + 1 => tryC W u a b e o (tryO W C u a b e o) (min C (pf (u - o * 12) 8) + 1)
def bestM (W C O a b e u : Nat) : Option (Nat × (Nat × Nat)) := tryO W C u a b e (min O (pf u 12) + 1)
theorem l_coal {S : List Int32} {d : Nat} (hd : 2 ≤ d) {h : xH} {p : Nat} (hl : p + 3 ≤ h.length) (hB : h.length ≤ 1000000) (k0 : Nat × Nat) (lo : List Int32) {q1 q2 : Nat} (W C O a b e u : Nat) (hs1 : h[q1]? = some (.inr (.inl (0, [nI W, nI C, nI O])))) (hs2 : h[q2]? = some (.inr (.inl (0, [nI a, nI b, nI e])))) (hq1 : q1 < p ∨ p + 3 ≤ q1) (hq2 : q2 < p ∨ p + 3 ≤ q2) (hW : W ≤ 99) (hC : C ≤ 99) (hO : O ≤ 99) (hu : u ≤ 200) (mo o mc : Nat) (ho : o ≤ 99) (hmc : mc ≤ 99) (B : Option (Nat × (Nat × Nat))) {Q : xR → Prop} (k : ∀ (x9 : Value) (x10 : Value) (cs : List xC), mixR p lo a b e (tryC W u a b e o B (mc + 1)) cs → yW S d 45 (130, [.ref p, .ref q1, .ref q2, .int (nI u), .int (nI mo), .int (nI o), .int (nI (u - o * 12)), .int (nI mc), .int (nI (mc + 1)), x9, x10], [], ((put h p cs), k0)) Q) : ∀ (n i : Nat), i + n = (mc + 1) → ∀ (x9 : Value) (x10 : Value) (cs : List xC), mixR p lo a b e (tryC W u a b e o B i) cs → yW S d 45 (69, [.ref p, .ref q1, .ref q2, .int (nI u), .int (nI mo), .int (nI o), .int (nI (u - o * 12)), .int (nI mc), .int (nI i), x9, x10], [], ((put h p cs), k0)) Q := by
  intro n
  induction n with
  | zero =>
    intro i hi x9 x10 cs e_cs
    obtain rfl : i = (mc + 1) := by omega
    refine y_go rfl rfl ?_
    refine y_go rfl rfl ?_
    refine y_ic_gt rfl (fun _ => ?_) (fun c => absurd (nI_lt (a := mc) (b := (mc + 1)) (by omega) (by omega)) c)
    exact k _ _ _ e_cs
  | succ n ih =>
    intro i hi x9 x10 cs e_cs
    have hlt : i < (mc + 1) := by omega
    have hm9 := e_cs
    have hl9 : p + cs.length ≤ h.length := by rw [mixR_len e_cs]; exact hl
    have hq9 : q1 < p ∨ p + cs.length ≤ q1 := by rw [mixR_len e_cs]; exact hq1
    refine y_go rfl rfl ?_
    refine y_go rfl rfl ?_
    refine y_ic_gt rfl (fun c => absurd c (nI_nlt (a := mc) (b := i) (by omega) (by omega))) (fun _ => ?_)
    refine y_go rfl rfl ?_
    refine y_go rfl rfl ?_
    refine y_go rfl rfl ?_
    refine y_go rfl rfl ?_
    refine y_aldc (t := 0) (j := 1) (w := .int 8) rfl (Or.inl ⟨rfl, rfl⟩) (xnone hl9 hB (by decide)) xct_heats (by decide) rfl ?_
    refine y_go rfl rfl ?_
    refine y_go rfl rfl ?_
    refine y_go rfl rfl ?_
    refine y_max rfl (Nat.le_of_ble_eq_true rfl) rfl ?_
    rw [show (imax ((nI (u - o * 12)) - ((nI i) * 8)) 0) = nI (u - o * 12 - i * 8) from mxs (by decide) (by omega) (by omega)]
    refine y_go (g' := (93, [.ref p, .ref q1, .ref q2, .int (nI u), .int (nI mo), .int (nI o), .int (nI (u - o * 12)), .int (nI mc), .int (nI i), .int (nI (u - o * 12 - i * 8)), x10], _, _)) rfl rfl ?_
    refine y_go rfl rfl ?_
    refine y_go rfl rfl ?_
    refine y_go rfl rfl ?_
    refine y_aldc (t := 0) (j := 0) (w := .int 3) rfl (Or.inl ⟨rfl, rfl⟩) (xnone hl9 hB (by decide)) xct_heats (by decide) rfl ?_
    refine y_S1 rfl rfl (Nat.le_of_ble_eq_true rfl) (Nat.le_of_ble_eq_true rfl) rfl rfl (s_pf (by omega) (u - o * 12 - i * 8) 3 _ (by decide) (by decide) (by omega) (by omega) (by omega) _) ?_
    refine y_go (g' := (105, [.ref p, .ref q1, .ref q2, .int (nI u), .int (nI mo), .int (nI o), .int (nI (u - o * 12)), .int (nI mc), .int (nI i), .int (nI (u - o * 12 - i * 8)), .int (nI (pf (u - o * 12 - i * 8) 3))], _, _)) rfl rfl ?_
    refine y_go rfl rfl ?_
    refine y_go rfl rfl ?_
    refine y_go rfl rfl ?_
    refine y_ald (t := 0) (j := 0) (l := [nI W, nI C, nI O]) (x := (nI W)) rfl (Or.inl ⟨rfl, rfl⟩) (xso hl9 hs1 hq9) (by decide) rfl ?_
    refine y_ic_gt rfl (fun c110 => ?_) (fun c110 => ?_)
    · replace c110 : W < pf (u - o * 12 - i * 8) 3 := (nI_ltI (a := W) (b := pf (u - o * 12 - i * 8) 3) (by omega) (by have := pf_le (x := u - o * 12 - i * 8) (y := 3) (by omega); omega)).mp c110
      refine y_go (g' := (127, [.ref p, .ref q1, .ref q2, .int (nI u), .int (nI mo), .int (nI o), .int (nI (u - o * 12)), .int (nI mc), .int (nI (i + 1)), .int (nI (u - o * 12 - i * 8)), .int (nI (pf (u - o * 12 - i * 8) 3))], _, _)) rfl (by rw [← nI_1 i]; rfl) ?_
      refine y_go rfl rfl ?_
      exact ih (i + 1) (by omega) _ _ _ (by rw [show tryC W u a b e o B (i + 1) = _ from if_pos c110]; exact e_cs)
    · replace c110 : ¬ W < pf (u - o * 12 - i * 8) 3 := fun q => c110 ((nI_ltI (a := W) (b := pf (u - o * 12 - i * 8) 3) (by omega) (by have := pf_le (x := u - o * 12 - i * 8) (y := 3) (by omega); omega)).mpr q)
      refine y_go rfl rfl ?_
      refine y_go rfl rfl ?_
      refine y_go rfl rfl ?_
      refine y_go rfl rfl ?_
      refine y_go rfl rfl ?_
      refine y_V0e rfl (Nat.le_of_ble_eq_true rfl) (Nat.le_of_ble_eq_true rfl) rfl rfl (by obtain ⟨fs, hf⟩ := mixR_at hm9; exact xrcvR (n := 0) hl9 rfl hf) (s_consider (by omega) hl hB k0 lo a b e hs2 hq2 (pf (u - o * 12 - i * 8) 3) i o _ e_cs) (fun cs2 e_cs2 => ?_)
      refine y_go (g' := (127, [.ref p, .ref q1, .ref q2, .int (nI u), .int (nI mo), .int (nI o), .int (nI (u - o * 12)), .int (nI mc), .int (nI (i + 1)), .int (nI (u - o * 12 - i * 8)), .int (nI (pf (u - o * 12 - i * 8) 3))], _, _)) rfl (by rw [← nI_1 i]; rfl) ?_
      refine y_go rfl rfl ?_
      exact ih (i + 1) (by omega) _ _ _ (by rw [show tryC W u a b e o B (i + 1) = _ from if_neg c110]; exact e_cs2)
theorem l_oil {S : List Int32} {d : Nat} (hd : 2 ≤ d) {h : xH} {p : Nat} (hl : p + 3 ≤ h.length) (hB : h.length ≤ 1000000) (k0 : Nat × Nat) (lo : List Int32) {q1 q2 : Nat} (W C O a b e u : Nat) (hs1 : h[q1]? = some (.inr (.inl (0, [nI W, nI C, nI O])))) (hs2 : h[q2]? = some (.inr (.inl (0, [nI a, nI b, nI e])))) (hq1 : q1 < p ∨ p + 3 ≤ q1) (hq2 : q2 < p ∨ p + 3 ≤ q2) (hW : W ≤ 99) (hC : C ≤ 99) (hO : O ≤ 99) (hu : u ≤ 200) (mo : Nat) (hmo : mo ≤ 99) {Q : xR → Prop} (k : ∀ (x6 : Value) (x7 : Value) (x8 : Value) (x9 : Value) (x10 : Value) (cs : List xC), mixR p lo a b e (tryO W C u a b e (mo + 1)) cs → yW S d 45 (136, [.ref p, .ref q1, .ref q2, .int (nI u), .int (nI mo), .int (nI (mo + 1)), x6, x7, x8, x9, x10], [], ((put h p cs), k0)) Q) : ∀ (n i : Nat), i + n = (mo + 1) → ∀ (x6 : Value) (x7 : Value) (x8 : Value) (x9 : Value) (x10 : Value) (cs : List xC), mixR p lo a b e (tryO W C u a b e i) cs → yW S d 45 (25, [.ref p, .ref q1, .ref q2, .int (nI u), .int (nI mo), .int (nI i), x6, x7, x8, x9, x10], [], ((put h p cs), k0)) Q := by
  intro n
  induction n with
  | zero =>
    intro i hi x6 x7 x8 x9 x10 cs e_cs
    obtain rfl : i = (mo + 1) := by omega
    refine y_go rfl rfl ?_
    refine y_go rfl rfl ?_
    refine y_ic_gt rfl (fun _ => ?_) (fun c => absurd (nI_lt (a := mo) (b := (mo + 1)) (by omega) (by omega)) c)
    exact k _ _ _ _ _ _ e_cs
  | succ n ih =>
    intro i hi x6 x7 x8 x9 x10 cs e_cs
    have hlt : i < (mo + 1) := by omega
    have hm9 := e_cs
    have hl9 : p + cs.length ≤ h.length := by rw [mixR_len e_cs]; exact hl
    have hq9 : q1 < p ∨ p + cs.length ≤ q1 := by rw [mixR_len e_cs]; exact hq1
    refine y_go rfl rfl ?_
    refine y_go rfl rfl ?_
    refine y_ic_gt rfl (fun c => absurd c (nI_nlt (a := mo) (b := i) (by omega) (by omega))) (fun _ => ?_)
    refine y_go rfl rfl ?_
    refine y_go rfl rfl ?_
    refine y_go rfl rfl ?_
    refine y_go rfl rfl ?_
    refine y_aldc (t := 0) (j := 2) (w := .int 12) rfl (Or.inl ⟨rfl, rfl⟩) (xnone hl9 hB (by decide)) xct_heats (by decide) rfl ?_
    refine y_go rfl rfl ?_
    refine y_go rfl rfl ?_
    refine y_go rfl rfl ?_
    refine y_max rfl (Nat.le_of_ble_eq_true rfl) rfl ?_
    rw [show (imax ((nI u) - ((nI i) * 12)) 0) = nI (u - i * 12) from mxs (by decide) (by omega) (by omega)]
    refine y_go (g' := (48, [.ref p, .ref q1, .ref q2, .int (nI u), .int (nI mo), .int (nI i), .int (nI (u - i * 12)), x7, x8, x9, x10], _, _)) rfl rfl ?_
    refine y_go rfl rfl ?_
    refine y_go rfl rfl ?_
    refine y_ald (t := 0) (j := 1) (l := [nI W, nI C, nI O]) (x := (nI C)) rfl (Or.inl ⟨rfl, rfl⟩) (xso hl9 hs1 hq9) (by decide) rfl ?_
    refine y_go rfl rfl ?_
    refine y_go rfl rfl ?_
    refine y_go rfl rfl ?_
    refine y_aldc (t := 0) (j := 1) (w := .int 8) rfl (Or.inl ⟨rfl, rfl⟩) (xnone hl9 hB (by decide)) xct_heats (by decide) rfl ?_
    refine y_S1 rfl rfl (Nat.le_of_ble_eq_true rfl) (Nat.le_of_ble_eq_true rfl) rfl rfl (s_pf (by omega) (u - i * 12) 8 _ (by decide) (by decide) (by omega) (by omega) (by omega) _) ?_
    refine y_min rfl (Nat.le_of_ble_eq_true rfl) rfl ?_
    rw [show (imin (nI C) (nI (pf (u - i * 12) 8))) = nI (min C (pf (u - i * 12) 8)) from imin_nI (by omega) (by have := pf_le (x := u - i * 12) (y := 8) (by omega); omega)]
    refine y_go (g' := (66, [.ref p, .ref q1, .ref q2, .int (nI u), .int (nI mo), .int (nI i), .int (nI (u - i * 12)), .int (nI (min C (pf (u - i * 12) 8))), x8, x9, x10], _, _)) rfl rfl ?_
    refine y_go rfl rfl ?_
    refine y_go (g' := (69, [.ref p, .ref q1, .ref q2, .int (nI u), .int (nI mo), .int (nI i), .int (nI (u - i * 12)), .int (nI (min C (pf (u - i * 12) 8))), .int 0, x9, x10], _, _)) rfl rfl ?_
    refine l_coal (by omega) hl hB k0 lo W C O a b e u hs1 hs2 hq1 hq2 hW hC hO hu mo i (min C (pf (u - i * 12) 8)) (by omega) (by omega) (tryO W C u a b e i) (fun x9 x10 cs2 e_cs2 => ?_) (min C (pf (u - i * 12) 8) + 1) 0 (by omega) _ _ _ e_cs
    refine y_go (g' := (133, [.ref p, .ref q1, .ref q2, .int (nI u), .int (nI mo), .int (nI (i + 1)), .int (nI (u - i * 12)), .int (nI (min C (pf (u - i * 12) 8))), .int (nI (min C (pf (u - i * 12) 8) + 1)), x9, x10], _, _)) rfl (by rw [← nI_1 i]; rfl) ?_
    refine y_go rfl rfl ?_
    exact ih (i + 1) (by omega) _ _ _ _ _ _ (e_cs2)
theorem s_findBest {S : List Int32} {d : Nat} (hd : 3 ≤ d) {h : xH} {p : Nat} (hl : p + 3 ≤ h.length) (hB : h.length ≤ 1000000) (k0 : Nat × Nat) (lo : List Int32) {q1 q2 : Nat} (W C O a b e u : Nat) (hs1 : h[q1]? = some (.inr (.inl (0, [nI W, nI C, nI O])))) (hs2 : h[q2]? = some (.inr (.inl (0, [nI a, nI b, nI e])))) (hq1 : q1 < p ∨ p + 3 ≤ q1) (hq2 : q2 < p ∨ p + 3 ≤ q2) (hW : W ≤ 99) (hC : C ≤ 99) (hO : O ≤ 99) (hu : u ≤ 200) (x y z cc t fo : Int32) : yT S d 45 [.ref p, .ref q1, .ref q2, .int (nI u)] (put h p (mC p lo [x, y, z] cc t fo), k0) (fun r => ∃ cs, mixR p lo a b e (bestM W C O a b e u) cs ∧ r = (.inl (some (.int (if (bestM W C O a b e u).isSome = true then 1 else 0))), (put h p cs, k0))) := by
  obtain ⟨d, rfl⟩ : ∃ e, d = e + 1 := ⟨d - 1, by omega⟩
  refine yT_e (Nat.le_of_ble_eq_true rfl) ?_
  show yW S d 45 (0, [.ref p, .ref q1, .ref q2, .int (nI u), xno, xno, xno, xno, xno, xno, xno], [], ((put h p (mC p lo [x, y, z] cc t fo)), k0)) _
  refine y_go rfl rfl ?_
  refine y_go rfl rfl ?_
  refine y_putR (j := 0) (cs' := (mC p lo [x, y, z] cc t 0)) rfl hl rfl rfl (Nat.le_of_ble_eq_true rfl) rfl rfl ?_
  refine y_go rfl rfl ?_
  refine y_go rfl rfl ?_
  refine y_ald (t := 0) (j := 2) (l := [nI W, nI C, nI O]) (x := (nI O)) rfl (Or.inl ⟨rfl, rfl⟩) (xso hl hs1 hq1) (by decide) rfl ?_
  refine y_go rfl rfl ?_
  refine y_go rfl rfl ?_
  refine y_go rfl rfl ?_
  refine y_aldc (t := 0) (j := 2) (w := .int 12) rfl (Or.inl ⟨rfl, rfl⟩) (xnone hl hB (by decide)) xct_heats (by decide) rfl ?_
  refine y_S1 rfl rfl (Nat.le_of_ble_eq_true rfl) (Nat.le_of_ble_eq_true rfl) rfl rfl (s_pf (by omega) u 12 _ (by decide) (by decide) (by omega) (by omega) (by omega) _) ?_
  refine y_min rfl (Nat.le_of_ble_eq_true rfl) rfl ?_
  rw [show (imin (nI O) (nI (pf u 12))) = nI (min O (pf u 12)) from imin_nI (by omega) (by have := pf_le (x := u) (y := 12) (by omega); omega)]
  refine y_go (g' := (22, [.ref p, .ref q1, .ref q2, .int (nI u), .int (nI (min O (pf u 12))), xno, xno, xno, xno, xno, xno], _, _)) rfl rfl ?_
  refine y_go rfl rfl ?_
  refine y_go (g' := (25, [.ref p, .ref q1, .ref q2, .int (nI u), .int (nI (min O (pf u 12))), .int 0, xno, xno, xno, xno, xno], _, _)) rfl rfl ?_
  refine l_oil (by omega) hl hB k0 lo W C O a b e u hs1 hs2 hq1 hq2 hW hC hO hu (min O (pf u 12)) (by omega) (fun x6 x7 x8 x9 x10 cs e_cs => ?_) (min O (pf u 12) + 1) 0 (by omega) _ _ _ _ _ _ ⟨_, _, _, _, _, rfl⟩
  have e9 : tryO W C u a b e (min O (pf u 12) + 1) = bestM W C O a b e u := rfl
  rw [e9] at e_cs
  cases hb9 : bestM W C O a b e u with
  | none =>
    have e_c2 := e_cs
    rw [hb9] at e_c2
    have e_c3 := e_c2
    obtain ⟨x1, y1, z1, c1, t1, rfl⟩ := e_c2
    refine y_go rfl rfl ?_
    refine y_getR (w := .int 0) (j := 0) rfl hl rfl rfl rfl rfl ?_
    exact y_ireturn rfl rfl rfl ⟨_, e_c3, rfl⟩
  | some m =>
    have e_c2 := e_cs
    rw [hb9] at e_c2
    have e_c3 := e_c2
    obtain ⟨w1, c1, o1⟩ := m
    have e_c2 : cs = _ := e_c2
    subst e_c2
    refine y_go rfl rfl ?_
    refine y_getR (w := .int 1) (j := 0) rfl hl rfl rfl rfl rfl ?_
    exact y_ireturn rfl rfl rfl ⟨_, e_c3, rfl⟩
