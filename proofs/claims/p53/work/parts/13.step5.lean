/-! STEPS: new cells, copies, the least and the greatest. -/
section STEP5
variable {p : Program} {l : Launch} {e : Env} {R : Room} {s : State} {m : MethodId} {args : Array Value} {below : List Frame} {meth : Method} {c : Code} {H : Heap} {locs : List Loc} {cells slots : Nat} {Q : State → Prop}
variable {A : Nat → Prop} {D : va_G} {cA : Nat → ClassId} {sA ρ : Nat → Nat} {M : Nat} {ls : Array Slot} {L st : List Value} {σ : xS} {pc nx a b : Nat} {v : Value} {g : xGo}
/-- new cells were made -/
theorem x_more (hat : x_at A D cA sA ρ M s H locs ls L σ) (hs : xsok σ) (hL : xlok σ.1.length L) {ρ' : Nat → Nat} (hag : x_ag σ.1.length ρ ρ') {lc : List xC} {E : va_W} {k n : Nat} {H1 : Heap} {locs1 : List Loc} (hE : (lc.mapIdx fun i c => (ρ' (i + σ.1.length), x_c cA ρ' c)) = E) (hP : va_P D vwCl (x_ws cA ρ σ.1 ++ E) H1) (hD : va_D A (x_ws cA ρ σ.1 ++ E)) (hS : va_S A s.heap H1 locs1) : x_at A D cA sA ρ' M s H1 locs1 ls L (σ.1 ++ lc, k, n) := by
  have hw : x_ws cA ρ' (σ.1 ++ lc) = x_ws cA ρ σ.1 ++ E := by
    unfold x_ws
    rw [List.mapIdx_append, hE]
    congr 1
    exact x_ws_ag hag (Nat.le_refl _) hs
  refine ⟨by rw [hw]; exact hP, by rw [hw]; exact hD, hS, ?_, fun z hz => (hag z (Or.inr hz)).trans (hat.2.2.2.2 z hz)⟩
  rw [x_l_ag hag hL]
  exact hat.2.2.2.1
theorem x_stk {q : Nat} (hn : σ.1.length < xB) {r : List Value} (hr : xlok σ.1.length r) : (Value.ref σ.1.length :: r).map (x_v (x_up ρ σ.1.length q)) = .ref q :: r.map (x_v ρ) := by
  rw [List.map_cons, x_l_ag (x_up_ag hn) hr]
  show Value.ref _ :: _ = _
  rw [x_up_self]
theorem x_CF.hA {U : State} (h : x_CF A sA U) : ∀ q, U.heap.size ≤ q → A q := h.2.2.2.2.2.2.2.2.2.2.2.1
theorem x_big {n : Int32} (h : ¬ 100000 < n) : n.toNatClampNeg ≤ 100000 := by
  have h1 := Int32.not_lt.mp h
  have h2 : n.toInt ≤ 100000 := by simpa using Int32.le_iff_toInt_le.mp h1
  show n.toInt.toNat ≤ 100000
  omega
theorem x_RAu {U : State} {c1 c2 : ClassId} {ty : FieldType} (h1 : va_RA U c1 ty) (h2 : va_RA U c2 ty) : c1 = c2 := by
  cases ty with
  | object C =>
    obtain ⟨_, _, -, -, -, e1⟩ := h1
    obtain ⟨_, _, -, -, -, e2⟩ := h2
    exact Option.some.inj (e1.symm.trans e2)
  | _ => exact Option.some.inj (Eq.trans (Eq.symm h1) h2)
theorem x_KRA {ty : FieldType} {t : Nat} {c1 : ClassId} (hK0 : va_K D vwCl (xtys cA) s) (hK : va_K D vwCl (xtys cA ++ [(c1, ty)]) s) (ht : t < 8) (hty : xkt t = ty) : c1 = cA t := by
  have h1 := (hK.2 8 (c1, ty) (by rw [List.getElem?_append_right (by simp [xtys])]; simp [xtys])).2
  have h2 := (hK0.2 t _ (x_ty ht)).2
  rw [hty] at h2
  exact x_RAu h1 h2
theorem x_nr {l9 : List Value} {r9 : Nat → Nat} (h : ∀ v ∈ l9, ∀ q, v ≠ .ref q) : l9.map (x_v r9) = l9 := by
  refine (List.map_congr_left (g := id) fun z hz => ?_).trans (List.map_id _)
  cases z with
  | ref z => exact absurd rfl (h _ hz z)
  | _ => rfl
theorem x_st_new {k : Nat} (F : x_F A D cA sA M p s m args meth c) (hat : x_at A D cA sA ρ M s H locs ls L σ) (ho : xok M pc (.new k) nx a b v) (h : xnext M (.new k) nx a b v L st σ = some (.inl g)) (hT : xtabs) (hg : xgok (pc, L, st, σ)) (hr1 : cells + g.2.2.2.2.1 ≤ R.cells + σ.2.1) (hr2 : slots + g.2.2.2.2.2 ≤ R.slots + σ.2.2) (hk : x_K A D cA sA ρ M p l e R s m args below meth c cells slots Q σ g) : W p l e R s m args below meth c H locs cells slots Q (F0 m pc ls (st.map (x_v ρ))) := by
  simp only [xnext] at h
  split at h
  · split at h <;> cases h
  · rename_i ha
    split at h
    · rename_i hn
      cases h
      obtain ⟨hd, rfl, C, T, N, ⟨hc, hin, hty, hnm⟩, hlen, hdv, hnr, h1, h2, h3⟩ := ho.2 (Nat.not_le.mp ha)
      have hWA := F.2.2.2.2.2.2.2.1
      simp only [hlen] at hr1 hr2
      refine va_new F.1 F.2.1 hWA hin (xfty a) hty F.2.2.2.1 (hWA _ h1) (hWA _ h2) (hWA _ h3) F.2.2.2.2.2.2.2.2.1 hat.1 hat.2.1 hat.2.2.1 F.2.2.2.2.2.2.2.2.2.1.hA hc (fs := xdef a) hdv (by omega) (by omega) hd (fun q H1 hP hD hS => ?_)
      have hx := hk (x_up ρ σ.1.length q) ls H1 locs (cells + 1) (slots + N) (x_up_ag hn) (by simp only []; omega) (by simp only [hlen]; omega) (x_more hat hg.1 hg.2.1 (x_up_ag hn) ?_ hP hD hS)
      · rw [x_stk hn hg.2.2] at hx
        exact hx
      · show [(x_up ρ σ.1.length q (0 + σ.1.length), (Sum.inr (a, (xdef a).map (x_v _)) : va_E))] = _
        rw [Nat.zero_add, x_up_self, x_nr hnr]
    · cases h
theorem x_repl {α : Type} {n : Nat} {x d : α} (h : x = d) : (fun j => (List.replicate n x).getD j d) = fun _ => d := funext fun j => by
  subst h
  rw [List.getD_eq_getElem?_getD, List.getElem?_replicate]
  split <;> rfl
/-- what a new array of ints, chars, bytes or longs holds -/
def x_z (a n : Nat) : vp_A := if a < 3 then (n, .inl fun _ => 0) else (n, .inr (.inl fun _ => 0))
theorem x_z_cell {a n : Nat} (ha : a < 4) (c9 : ClassId) : vp_cell c9 (x_z a n) = arrV c9 n (fun _ => defaultValue (xkt a)) := by
  match a, ha with
  | 0, _ => rfl
  | 1, _ => rfl
  | 2, _ => rfl
  | 3, _ => rfl
theorem x_z_c {a n : Nat} (ha : a < 4) {ρ : Nat → Nat} : x_c cA ρ (xzero a n) = .inl (cA a, x_z a n) := by
  have e (t : Nat) : x_c cA ρ (.inr (.inl (t, List.replicate n 0))) = .inl (cA t, n, .inl fun _ => 0) := by
    show Sum.inl (cA t, (List.replicate n (0 : Int32)).length, Sum.inl (fun j => (List.replicate n (0 : Int32)).getD j 0)) = _
    rw [x_repl rfl, List.length_replicate]
  have e3 : x_c cA ρ (.inr (.inr (.inl (3, List.replicate n 0)))) = .inl (cA 3, n, .inr (.inl fun _ => 0)) := by
    show Sum.inl (cA 3, (List.replicate n (0 : Int64)).length, Sum.inr (Sum.inl (fun j => (List.replicate n (0 : Int64)).getD j 0))) = _
    rw [x_repl rfl, List.length_replicate]
  match a, ha with
  | 0, _ => exact e 0
  | 1, _ => exact e 1
  | 2, _ => exact e 2
  | 3, _ => exact e3
theorem x_qz {a n : Nat} (ha : 4 ≤ a) {ρ : Nat → Nat} : x_c cA ρ (xzero a n) = .inl (cA a, n, .inr (.inr (.inr (.inr fun _ => none)))) := by
  have e : xzero a n = .inr (.inr (.inr (a, List.replicate n none))) := by
    unfold xzero
    rw [if_neg (by omega), if_neg (by omega)]
  rw [e]
  show Sum.inl (cA a, (List.replicate n (none : Option Nat)).length, Sum.inr (Sum.inr (Sum.inr (Sum.inr (fun j => ((List.replicate n (none : Option Nat)).getD j none).map ρ))))) = _
  rw [List.length_replicate]
  refine congrArg (fun f => Sum.inl (cA a, n, Sum.inr (Sum.inr (Sum.inr (Sum.inr f))))) (funext fun j => ?_)
  rw [List.getD_eq_getElem?_getD, List.getElem?_replicate]
  split <;> rfl
theorem x_cb {a : Nat} (ha : a < 4) : componentBytes (xkt a) ≤ 8 := by
  match a, ha with
  | 0, _ => decide
  | 1, _ => decide
  | 2, _ => decide
  | 3, _ => decide
theorem x_st_newarray {at_ : ArrayType} (F : x_F A D cA sA M p s m args meth c) (hat : x_at A D cA sA ρ M s H locs ls L σ) (ho : xok M pc (.newarray at_) nx a b v) (h : xnext M (.newarray at_) nx a b v L st σ = some (.inl g)) (hg : xgok (pc, L, st, σ)) (hr1 : cells + g.2.2.2.2.1 ≤ R.cells + σ.2.1) (hr2 : slots + g.2.2.2.2.2 ≤ R.slots + σ.2.2) (hk : x_K A D cA sA ρ M p l e R s m args below meth c cells slots Q σ g) : W p l e R s m args below meth c H locs cells slots Q (F0 m pc ls (st.map (x_v ρ))) := by
  obtain ⟨hd, rfl, ha, hty, hw⟩ := ho
  obtain ⟨n, r, rfl, h9⟩ := x1i_some h
  split at h9
  · cases h9
  · rename_i hc
    cases h9
    have hn0 : ¬ n < 0 := fun q => hc (Or.inl q)
    have hn1 : n.toNatClampNeg ≤ 100000 := x_big fun q => hc (Or.inr (Or.inl q))
    have hn : σ.1.length < xB := Nat.not_le.mp fun q => hc (Or.inr (Or.inr q))
    have hcb := x_cb ha
    have hmul : n.toNatClampNeg * componentBytes (xkt a) ≤ 100000 * 8 := Nat.mul_le_mul hn1 hcb
    simp only [] at hr1 hr2
    refine va_newa F.1 F.2.1 (F.2.2.2.2.2.2.2.1 _ hw) hty F.2.2.2.2.2.2.2.2.1 hat.1 hat.2.1 hat.2.2.1 F.2.2.2.2.2.2.2.2.2.1.hA (a0 := x_z a n.toNatClampNeg) (x_z_cell ha) hn0 rfl (by omega) (by omega) (by omega) hd (fun q c1 H1 hK hP hD hS => ?_)
    have ec := x_KRA F.2.2.2.2.2.2.2.2.1 hK (by omega) rfl
    subst ec
    have hx := hk (x_up ρ σ.1.length q) ls H1 locs (cells + 1) (slots + n.toNatClampNeg) (x_up_ag hn) (by simp only []; omega) (by simp only []; omega) (x_more hat hg.1 hg.2.1 (x_up_ag hn) ?_ hP hD hS)
    · rw [x_stk hn hg.2.2.tl] at hx
      exact hx
    · show [(x_up ρ σ.1.length q (0 + σ.1.length), x_c cA _ (xzero a n.toNatClampNeg))] = _
      rw [Nat.zero_add, x_up_self, x_z_c ha]
theorem x_st_anewarray {k : Nat} (F : x_F A D cA sA M p s m args meth c) (hat : x_at A D cA sA ρ M s H locs ls L σ) (ho : xok M pc (.anewarray k) nx a b v) (h : xnext M (.anewarray k) nx a b v L st σ = some (.inl g)) (hg : xgok (pc, L, st, σ)) (hr1 : cells + g.2.2.2.2.1 ≤ R.cells + σ.2.1) (hr2 : slots + g.2.2.2.2.2 ≤ R.slots + σ.2.2) (hk : x_K A D cA sA ρ M p l e R s m args below meth c cells slots Q σ g) : W p l e R s m args below meth c H locs cells slots Q (F0 m pc ls (st.map (x_v ρ))) := by
  obtain ⟨hd, rfl, ha, C, hty, hw, hao⟩ := ho
  have ha' : 4 ≤ a ∧ a < 8 := by omega
  obtain ⟨n, r, rfl, h9⟩ := x1i_some h
  split at h9
  · cases h9
  · rename_i hc
    cases h9
    have hn0 : ¬ n < 0 := fun q => hc (Or.inl q)
    have hn1 : n.toNatClampNeg ≤ 100000 := x_big fun q => hc (Or.inr (Or.inl q))
    have hn : σ.1.length < xB := Nat.not_le.mp fun q => hc (Or.inr (Or.inr q))
    simp only [] at hr1 hr2
    refine va_newq F.1 F.2.1 F.2.2.2.1 (F.2.2.2.2.2.2.2.1 _ hw) (F.2.2.2.2.2.2.2.2.2.1.2.2.2.2.2.2.2.1 _ hao) F.2.2.2.2.2.2.2.2.1 hat.1 hat.2.1 hat.2.2.1 F.2.2.2.2.2.2.2.2.2.1.hA hn0 rfl (by omega) (by omega) (by omega) hd (fun q c1 H1 hK hP hD hS => ?_)
    have ec := x_KRA F.2.2.2.2.2.2.2.2.1 hK ha'.2 hty
    subst ec
    have hx := hk (x_up ρ σ.1.length q) ls H1 locs (cells + 1) (slots + n.toNatClampNeg) (x_up_ag hn) (by simp only []; omega) (by simp only []; omega) (x_more hat hg.1 hg.2.1 (x_up_ag hn) ?_ hP hD hS)
    · rw [x_stk hn hg.2.2.tl] at hx
      exact hx
    · show [(x_up ρ σ.1.length q (0 + σ.1.length), x_c cA _ (xzero a n.toNatClampNeg))] = _
      rw [Nat.zero_add, x_up_self, x_qz ha'.1]
/-- the numbers of an array's rows -/
def x_ups (ρ : Nat → Nat) (n q N : Nat) (r : Nat → Nat) : Nat → Nat := fun x => if x = n then q else if n < x ∧ x < n + 1 + N then r (x - (n + 1)) else ρ x
theorem x_ups_ag {n q N : Nat} {r : Nat → Nat} (h : n + N < xB) : x_ag n ρ (x_ups ρ n q N r) := fun z hz => by
  unfold x_ups
  rw [if_neg (by rintro rfl; omega), if_neg (by omega)]
theorem x_ups_self {n q N : Nat} {r : Nat → Nat} : x_ups ρ n q N r n = q := if_pos rfl
theorem x_ups_row {n q N j : Nat} {r : Nat → Nat} (hj : j < N) : x_ups ρ n q N r (n + 1 + j) = r j := by
  unfold x_ups
  rw [if_neg (by omega), if_pos (by omega)]
  congr 1
  omega
theorem x_cons {α : Type} {a b : α} {l l' : List α} (h : a = b) (k : l = l') : a :: l = b :: l' := by rw [h, k]
theorem x_st_multi {k n9 : Nat} (F : x_F A D cA sA M p s m args meth c) (hat : x_at A D cA sA ρ M s H locs ls L σ) (ho : xok M pc (.multianewarray k n9) nx a b v) (h : xnext M (.multianewarray k n9) nx a b v L st σ = some (.inl g)) (hg : xgok (pc, L, st, σ)) (hr1 : cells + g.2.2.2.2.1 ≤ R.cells + σ.2.1) (hr2 : slots + g.2.2.2.2.2 ≤ R.slots + σ.2.2) (hk : x_K A D cA sA ρ M p l e R s m args below meth c cells slots Q σ g) : W p l e R s m args below meth c H locs cells slots Q (F0 m pc ls (st.map (x_v ρ))) := by
  obtain ⟨hd, rfl, rfl, hab, hw1, hw2, hao⟩ := ho
  obtain ⟨n, K, r, rfl, h9⟩ := x2i_some h
  split at h9
  · cases h9
  · rename_i hc
    cases h9
    have hn0 : ¬ n < 0 := fun q => hc (Or.inl q)
    have hn1 : n.toNatClampNeg ≤ 100000 := x_big fun q => hc (Or.inr (Or.inl q))
    have hk0 : ¬ K < 0 := fun q => hc (Or.inr (Or.inr (Or.inl q)))
    have hk1 : K.toNatClampNeg ≤ 100000 := x_big fun q => hc (Or.inr (Or.inr (Or.inr (Or.inl q))))
    have hn : σ.1.length + n.toNatClampNeg < xB := Nat.not_le.mp fun q => hc (Or.inr (Or.inr (Or.inr (Or.inr q))))
    have ha : a < 4 := by omega
    have hb8 : b < 8 := by omega
    have hcb := x_cb ha
    have hmul : K.toNatClampNeg * componentBytes (xkt a) ≤ 100000 * 8 := Nat.mul_le_mul hk1 hcb
    have hkb : xkt b = .array (xkt a) := by
      rcases hab with ⟨rfl, rfl⟩ | ⟨rfl, rfl⟩ <;> rfl
    have hcy : s.vm.findClass (FieldType.array (xkt a)).toString = some (cA a) := by
      have h1 := (F.2.2.2.2.2.2.2.2.1.2 a _ (x_ty (by omega))).2
      rcases hab with ⟨rfl, rfl⟩ | ⟨rfl, rfl⟩ <;> exact h1
    have hdf : fits (xkt a) (defaultValue (xkt a)) = true ∧ (defaultValue (xkt a)).isDefault = true := by
      rcases hab with ⟨rfl, rfl⟩ | ⟨rfl, rfl⟩ <;> exact ⟨rfl, rfl⟩
    simp only [] at hr1 hr2
    refine va_mna (X := x_ws cA ρ σ.1) (L := []) (f := fun _ => .inr (0, [])) F.1 F.2.1 F.2.2.2.1 (F.2.2.2.2.2.2.2.1 _ hw1) (F.2.2.2.2.2.2.2.2.2.1.2.2.2.2.2.2.2.2.1 _ hao) (F.2.2.2.2.2.2.2.1 _ hw2) hcy F.2.2.2.2.2.2.2.2.1 (by simpa [va_pl] using hat.1) (by simpa [va_pl] using hat.2.1) hat.2.2.1 F.2.2.2.2.2.2.2.2.2.1.hA (z := x_z a K.toNatClampNeg) hn0 hk0 rfl rfl (by omega) (by omega) (by omega) hdf.1 hdf.2 (by omega) (by omega) (fun c9 => (arrV_new c9 _ _).trans (x_z_cell ha c9).symm) hd (fun q rr c1 H1 hinj _ hK hP hD hS => ?_)
    have ec := x_KRA F.2.2.2.2.2.2.2.2.1 hK hb8 hkb
    subst ec
    have hE : ((((Sum.inr (Sum.inr (Sum.inr (b, (List.range n.toNatClampNeg).map (fun j => some (σ.1.length + 1 + j))))) :: List.replicate n.toNatClampNeg (xzero a K.toNatClampNeg)) : List xC).mapIdx fun i c => (x_ups ρ σ.1.length q n.toNatClampNeg rr (i + σ.1.length), x_c cA (x_ups ρ σ.1.length q n.toNatClampNeg rr) c))) =
        [(q, ((.inl (cA b, n.toNatClampNeg, .inr (.inr (.inr (.inr (fun i => if i < n.toNatClampNeg then some (rr i) else none))))) : va_E)))] ++ va_pl ([] ++ (List.range n.toNatClampNeg).map rr) (vr_up (fun _ => .inr (0, [])) ((List.range n.toNatClampNeg).map rr) (.inl (cA a, x_z a K.toNatClampNeg))) := by
      rw [List.mapIdx_cons, List.singleton_append, List.nil_append]
      refine x_cons ?_ ?_
      · rw [Nat.zero_add, x_ups_self]
        refine congrArg (Prod.mk q) ?_
        show Sum.inl (cA b, ((List.range n.toNatClampNeg).map (fun j => some (σ.1.length + 1 + j))).length, Sum.inr (Sum.inr (Sum.inr (Sum.inr (fun j => (((List.range n.toNatClampNeg).map (fun j => some (σ.1.length + 1 + j))).getD j none).map _))))) = _
        rw [List.length_map, List.length_range]
        refine congrArg (fun f => Sum.inl (cA b, n.toNatClampNeg, Sum.inr (Sum.inr (Sum.inr (Sum.inr f))))) (funext fun j => ?_)
        rw [List.getD_eq_getElem?_getD, List.getElem?_map]
        by_cases hj : j < n.toNatClampNeg
        · rw [List.getElem?_range hj, if_pos hj]
          exact congrArg some (x_ups_row hj)
        · rw [if_neg hj, List.getElem?_eq_none (by simpa using hj)]
          rfl
      · refine List.ext_getElem? fun j => ?_
        rw [List.getElem?_mapIdx, List.getElem?_replicate]
        unfold va_pl
        rw [List.map_map, List.getElem?_map]
        by_cases hj : j < n.toNatClampNeg
        · rw [if_pos hj, List.getElem?_range hj]
          show some (x_ups ρ σ.1.length q n.toNatClampNeg rr (j + 1 + σ.1.length), x_c cA _ (xzero a K.toNatClampNeg)) = some (rr j, vr_up _ _ _ (rr j))
          rw [show j + 1 + σ.1.length = σ.1.length + 1 + j by omega, x_ups_row hj, x_z_c ha, vr_up_in (List.mem_map.mpr ⟨j, List.mem_range.mpr hj, rfl⟩)]
        · rw [if_neg hj, List.getElem?_eq_none (by simpa using hj)]
          rfl
    rw [List.append_assoc] at hP hD
    have hx := hk (x_ups ρ σ.1.length q n.toNatClampNeg rr) ls H1 locs (cells + 1 + n.toNatClampNeg) (slots + n.toNatClampNeg + n.toNatClampNeg * K.toNatClampNeg) (x_ups_ag hn) (by simp only []; omega) (by simp only []; omega) (x_more hat hg.1 hg.2.1 (x_ups_ag hn) hE hP hD hS)
    rw [List.map_cons, x_l_ag (x_ups_ag hn) hg.2.2.tl.tl] at hx
    have e0 : x_v (x_ups ρ σ.1.length q n.toNatClampNeg rr) (.ref σ.1.length) = .ref q := congrArg Value.ref x_ups_self
    rw [e0] at hx
    exact hx
theorem x_ccpy {t sp dp n : Nat} {f g : List Int32} (h1 : sp + n ≤ f.length) (h2 : dp + n ≤ g.length) : x_c cA ρ (.inr (.inl (t, g.take dp ++ ((f.drop sp).take n ++ g.drop (dp + n))))) = .inl (cA t, g.length, .inl (va_cpy (fun j => f.getD j 0) (fun j => g.getD j 0) sp dp n)) := by
  have hl : (g.take dp ++ ((f.drop sp).take n ++ g.drop (dp + n))).length = g.length := by
    simp only [List.length_append, List.length_take, List.length_drop]
    omega
  show Sum.inl (cA t, (g.take dp ++ ((f.drop sp).take n ++ g.drop (dp + n))).length, Sum.inl _) = _
  rw [hl]
  refine congrArg (fun z => Sum.inl (cA t, g.length, Sum.inl z)) (funext fun j => ?_)
  have l1 : (g.take dp).length = dp := by rw [List.length_take]; omega
  have l2 : ((f.drop sp).take n).length = n := by rw [List.length_take, List.length_drop]; omega
  simp only [List.getD_eq_getElem?_getD, va_cpy]
  by_cases h3 : j < dp
  · rw [if_neg (by omega), List.getElem?_append_left (by omega), List.getElem?_take_of_lt h3]
  · by_cases h4 : j < dp + n
    · rw [if_pos (by omega), List.getElem?_append_right (by omega), l1, List.getElem?_append_left (by omega), List.getElem?_take_of_lt (by omega), List.getElem?_drop]
    · rw [if_neg (by omega), List.getElem?_append_right (by omega), l1, List.getElem?_append_right (by omega), l2, List.getElem?_drop, show dp + n + (j - dp - n) = j by omega]
theorem x_prim {t : Nat} (h : t < 3) : refKind (xkt t) = false := by
  match t, h with
  | 0, _ => rfl
  | 1, _ => rfl
  | 2, _ => rfl
theorem x_st_static {k : Nat} (F : x_F A D cA sA M p s m args meth c) (hat : x_at A D cA sA ρ M s H locs ls L σ) (ho : xok M pc (.invokestatic k) nx a b v) (h : xnext M (.invokestatic k) nx a b v L st σ = some (.inl g)) (hg : xgok (pc, L, st, σ)) (hml : c.maxLocals = (xm M).2.2.1) (hRf : 1 ≤ R.frames) (hRl : 60 ≤ R.locals) (hr1 : cells + g.2.2.2.2.1 ≤ R.cells + σ.2.1) (hr2 : slots + g.2.2.2.2.2 ≤ R.slots + σ.2.2) (hk : x_K A D cA sA ρ M p l e R s m args below meth c cells slots Q σ g) : W p l e R s m args below meth c H locs cells slots Q (F0 m pc ls (st.map (x_v ρ))) := by
  obtain ⟨hd, rfl, o1, o2, o3, -⟩ := ho
  have hWA := F.2.2.2.2.2.2.2.1
  have hml' : c.maxLocals = ls.size := hml.trans hat.2.2.2.1.2.1.symm
  simp only [xnext] at h
  split at h
  · rename_i ha
    obtain ⟨w1, w2, w3, w4⟩ := o1 ha
    unfold xcopy at h
    split at h
    · rename_i n dp q sp p9 r
      split at h
      · cases h
      · rename_i hc
        split at h
        · rename_i t f t' g9 hp hq
          split at h
          · rename_i hb
            obtain ⟨rfl, h4, h5⟩ := hb
            cases h
            have hcp := hg.1.at hp
            have hcq := hg.1.at hq
            have hty : (xtys cA)[t']? = some (cA t', xkt t') := x_ty (by have := hcp.1; omega)
            have hfw : nativeFrameWords "java/lang/System" "arraycopy" 5 = 7 := by decide
            refine va_copyi F.1 F.2.1 hml' F.2.2.2.1 (hWA _ w1) (hWA _ w2) (hWA _ w3) (hWA _ w4) F.2.2.2.2.2.2.2.2.1 hat.1 hat.2.1 hat.2.2.1 p9 q t' t' (x_ws_at (cA := cA) (ρ := ρ) hp) (x_ws_at (cA := cA) (ρ := ρ) hq) hty hty (x_prim hcp.1) (fun z => hc (Or.inr (Or.inr (Or.inl z)))) (fun z => hc (Or.inr (Or.inl z))) (fun z => hc (Or.inl z)) h4 h5 (fun i hi => ?_) hRf ?_ hd (fun H1 locs1 hP hD hS => ?_)
            · have hlt : sp.toNatClampNeg + i < f.length := by omega
              show fits _ (.int (f.getD _ 0)) = true
              rw [List.getD_eq_getElem?_getD, List.getElem?_eq_getElem hlt]
              exact hcp.2 _ (List.getElem_mem hlt)
            · rw [x_cats, hfw]
              have : ¬ 8 < xcat r := fun z => hc (Or.inr (Or.inr (Or.inr z)))
              omega
            · rw [← x_ccpy (cA := cA) (ρ := ρ) h4 h5] at hP hD
              exact hk ρ ls H1 locs1 cells slots x_ag.rf rfl rfl (x_wr hat hP hD hS)
          · cases h
        · cases h
    · cases h
  · split at h
    · rename_i ha
      obtain ⟨w1, w2, w3, w4⟩ := o2 ha
      obtain ⟨x, y, r, rfl, h9⟩ := x2i_some h
      split at h9
      · cases h9
      · cases h9
        exact va_mmin F.1 F.2.1 hml' F.2.2.2.1 (hWA _ w1) (hWA _ w2) (hWA _ w3) (hWA _ w4) hRf (by rw [x_cats]; omega) (by simp only [] at hr1; omega) (by simp only [] at hr2; omega) hd (hk.same rfl hat)
    · split at h
      · rename_i ha
        obtain ⟨w1, w2, w3, w4⟩ := o3 ha
        obtain ⟨x, y, r, rfl, h9⟩ := x2i_some h
        split at h9
        · cases h9
        · cases h9
          exact va_mmax F.1 F.2.1 hml' F.2.2.2.1 (hWA _ w1) (hWA _ w2) (hWA _ w3) (hWA _ w4) hRf (by rw [x_cats]; omega) (by simp only [] at hr1; omega) (by simp only [] at hr2; omega) hd (hk.same rfl hat)
      · exact (xcall_go h).elim
theorem x_st_special {k : Nat} (F : x_F A D cA sA M p s m args meth c) (hat : x_at A D cA sA ρ M s H locs ls L σ) (ho : xok M pc (.invokespecial k) nx a b v) (h : xnext M (.invokespecial k) nx a b v L st σ = some (.inl g)) (hml : c.maxLocals = (xm M).2.2.1) (hRf : 1 ≤ R.frames) (hRl : 60 ≤ R.locals) (hk : x_K A D cA sA ρ M p l e R s m args below meth c cells slots Q σ g) : W p l e R s m args below meth c H locs cells slots Q (F0 m pc ls (st.map (x_v ρ))) := by
  obtain ⟨hd, rfl, o1, -⟩ := ho
  have hWA := F.2.2.2.2.2.2.2.1
  have hml' : c.maxLocals = ls.size := hml.trans hat.2.2.2.1.2.1.symm
  simp only [xnext] at h
  split at h
  · rename_i ha
    obtain ⟨w1, w2, w3⟩ := o1 ha
    split at h
    · rename_i q r
      split at h
      · cases h
      · cases h
        refine W.objInit F.1 F.2.1 F.2.2.2.1 (hWA _ w1) (hWA _ w2) (hWA _ w3) rfl hml'.symm rfl (by exact hd) hRf ?_ (hk.same rfl hat)
        show 2 * 0 + ((r.map (x_v ρ)).map fun v => v.category).sum + 12 ≤ R.locals
        rw [x_cats]
        omega
    · cases h
  · exact (xcall_go h).elim
end STEP5
