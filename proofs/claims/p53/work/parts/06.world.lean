/-! THE INTERPRETER'S WORLD IN THE MACHINE'S HEAP: the cell number k lies at the address ρ k. -/
def x_v (ρ : Nat → Nat) : Value → Value
  | .ref k => .ref (ρ k)
  | v => v
def x_c (cA : Nat → ClassId) (ρ : Nat → Nat) : xC → va_E
  | .inl (c, fs) => .inr (c, fs.map (x_v ρ))
  | .inr (.inl (t, l)) => .inl (cA t, l.length, .inl (fun j => l.getD j 0))
  | .inr (.inr (.inl (t, l))) => .inl (cA t, l.length, .inr (.inl (fun j => l.getD j 0)))
  | .inr (.inr (.inr (t, l))) => .inl (cA t, l.length, .inr (.inr (.inr (.inr (fun j => (l.getD j none).map ρ)))))
abbrev x_ws (cA : Nat → ClassId) (ρ : Nat → Nat) (h : xH) : va_W := h.mapIdx (fun i c => (ρ i, x_c cA ρ c))
/-- the array classes by their kinds -/
abbrev xtys (cA : Nat → ClassId) : List (ClassId × FieldType) := (List.range 8).map (fun t => (cA t, xkt t))
/-- two numberings say the same of n cells, and of those that the start holds -/
def x_ag (n : Nat) (ρ ρ' : Nat → Nat) : Prop := ∀ a, a < n ∨ xB ≤ a → ρ' a = ρ a
theorem x_ag.rf {n : Nat} {ρ : Nat → Nat} : x_ag n ρ ρ := fun _ _ => rfl
theorem x_ag.tr {n n' : Nat} {ρ ρ' ρ'' : Nat → Nat} (hn : n ≤ n') (h : x_ag n ρ ρ') (k : x_ag n' ρ' ρ'') : x_ag n ρ ρ'' := fun a ha => (k a (ha.imp (fun q => Nat.lt_of_lt_of_le q hn) id)).trans (h a ha)
theorem x_v_cat {ρ : Nat → Nat} (v : Value) : (x_v ρ v).category = v.category := by cases v <;> rfl
theorem x_v_no {ρ : Nat → Nat} (v : Value) : x_v ρ v = xno ↔ v = xno := by cases v <;> simp [x_v]
theorem x_v_ag {n : Nat} {ρ ρ' : Nat → Nat} (h : x_ag n ρ ρ') {v : Value} (hv : xvok n v) : x_v ρ' v = x_v ρ v := by
  cases v <;> try rfl
  rename_i a
  exact congrArg Value.ref (h a (hv a rfl))
theorem x_l_ag {n : Nat} {ρ ρ' : Nat → Nat} (h : x_ag n ρ ρ') {L : List Value} (hL : xlok n L) : L.map (x_v ρ') = L.map (x_v ρ) := List.map_congr_left fun v hv => x_v_ag h (hL v hv)
theorem x_c_ag {n : Nat} {cA : Nat → ClassId} {ρ ρ' : Nat → Nat} (h : x_ag n ρ ρ') {c : xC} (hc : xcok n c) : x_c cA ρ' c = x_c cA ρ c := by
  match c, hc with
  | .inl (k, fs), hc => exact congrArg (fun l => Sum.inr (k, l)) (x_l_ag h hc.2)
  | .inr (.inl (t, l)), _ => rfl
  | .inr (.inr (.inl (t, l))), _ => rfl
  | .inr (.inr (.inr (t, l))), hc =>
    show Sum.inl (cA t, l.length, Sum.inr (Sum.inr (Sum.inr (Sum.inr _)))) = _
    refine congrArg (fun f => Sum.inl (cA t, l.length, Sum.inr (Sum.inr (Sum.inr (Sum.inr f))))) (funext fun j => ?_)
    rw [List.getD_eq_getElem?_getD]
    cases hj : l[j]? with
    | none => rfl
    | some w =>
      cases w with
      | none => rfl
      | some a => exact congrArg some (h a (hc.2.2 a (List.mem_of_getElem? hj)))
theorem x_ws_at {cA : Nat → ClassId} {ρ : Nat → Nat} {h : xH} {p : Nat} {c : xC} (hp : h[p]? = some c) : (x_ws cA ρ h)[p]? = some (ρ p, x_c cA ρ c) := by
  rw [List.getElem?_mapIdx, hp]; rfl
theorem x_ws_set {cA : Nat → ClassId} {ρ : Nat → Nat} {h : xH} {p : Nat} {c : xC} : (x_ws cA ρ h).set p (ρ p, x_c cA ρ c) = x_ws cA ρ (h.set p c) := by
  refine List.ext_getElem? fun i => ?_
  simp only [List.getElem?_set, List.getElem?_mapIdx, List.length_mapIdx]
  by_cases hi : p = i
  · subst hi
    by_cases hl : p < h.length <;> simp [hl]
  · simp [hi]
theorem x_ws_ag {n : Nat} {cA : Nat → ClassId} {ρ ρ' : Nat → Nat} (hg : x_ag n ρ ρ') {h : xH} (hn : h.length ≤ n) (hc : ∀ c ∈ h, xcok n c) : x_ws cA ρ' h = x_ws cA ρ h := by
  refine List.ext_getElem? fun i => ?_
  simp only [List.getElem?_mapIdx]
  cases hi : h[i]? with
  | none => rfl
  | some c =>
    have hl : i < h.length := (List.getElem?_eq_some_iff.mp hi).1
    show some (ρ' i, x_c cA ρ' c) = some (ρ i, x_c cA ρ c)
    rw [hg i (Or.inl (Nat.lt_of_lt_of_le hl hn)), x_c_ag hg (hc c (List.mem_of_getElem? hi))]
/-- a new cell's number -/
def x_up (ρ : Nat → Nat) (n q : Nat) : Nat → Nat := fun a => if a = n then q else ρ a
theorem x_up_ag {ρ : Nat → Nat} {n q : Nat} (hn : n < xB) : x_ag n ρ (x_up ρ n q) := fun a ha => by
  unfold x_up
  rw [if_neg]
  rintro rfl
  omega
theorem x_up_self {ρ : Nat → Nat} {n q : Nat} : x_up ρ n q n = q := if_pos rfl
theorem x_ws_app {cA : Nat → ClassId} {ρ : Nat → Nat} {s : xS} (hs : xsok s) (hn : s.1.length < xB) {q : Nat} {c : xC} : x_ws cA (x_up ρ s.1.length q) (s.1 ++ [c]) = x_ws cA ρ s.1 ++ [(q, x_c cA (x_up ρ s.1.length q) c)] := by
  unfold x_ws
  rw [List.mapIdx_append]
  congr 1
  · exact x_ws_ag (x_up_ag hn) (Nat.le_refl _) hs
  · simp [x_up_self]
/-- the locals -/
def xpr : Nat → List Value → List (Nat × Value)
  | _, [] => []
  | k, v :: L => if v = xno then xpr (k + 1) L else (k, v) :: xpr (k + 1) L
theorem xpr_iff : ∀ (L : List Value) (k j : Nat) (w : Value), (j, w) ∈ xpr k L ↔ k ≤ j ∧ L[j - k]? = some w ∧ w ≠ xno
  | [], k, j, w => by simp [xpr]
  | v :: L, k, j, w => by
    have ih := xpr_iff L (k + 1) j w
    by_cases hj : j = k
    · subst hj
      by_cases hv : v = xno
      · simp only [xpr, if_pos hv, ih]
        simp [hv]
        constructor
        · intro h; omega
        · intro h; exact absurd h.1.symm h.2
      · simp only [xpr, if_neg hv, List.mem_cons, ih]
        simp
        constructor
        · rintro (h | h)
          · exact ⟨h.symm, by rw [h]; exact hv⟩
          · omega
        · intro h; exact Or.inl h.1.symm
    · have hd : k ≤ j → (v :: L)[j - k]? = L[j - (k + 1)]? := fun h => by
        obtain ⟨i, rfl⟩ : ∃ i, j = k + 1 + i := ⟨j - (k + 1), by omega⟩
        rw [show k + 1 + i - k = i + 1 by omega, show k + 1 + i - (k + 1) = i by omega]
        rfl
      have key : (j, w) ∈ xpr k (v :: L) ↔ (j, w) ∈ xpr (k + 1) L := by
        by_cases hv : v = xno
        · simp only [xpr, if_pos hv]
        · simp only [xpr, if_neg hv, List.mem_cons, Prod.mk.injEq]
          constructor
          · rintro (h | h)
            · exact absurd h.1 hj
            · exact h
          · exact Or.inr
      rw [key, ih]
      constructor
      · rintro ⟨h1, h2, h3⟩
        exact ⟨by omega, by rw [hd (by omega)]; exact h2, h3⟩
      · rintro ⟨h1, h2, h3⟩
        exact ⟨by omega, by rw [← hd h1]; exact h2, h3⟩
def x_L (ls : Array Slot) (nL : Nat) (M : List Value) : Prop := M.length = nL ∧ lv_has ls nL (xpr 0 M)
theorem x_L.at {ls : Array Slot} {nL : Nat} {M : List Value} (h : x_L ls nL M) {i : Nat} {v : Value} (hi : M[i]? = some v) (hv : v ≠ xno) : ls[i]? = some (.val v) := h.2.2.2 (i, v) ((xpr_iff M 0 i v).mpr ⟨Nat.zero_le _, hi, hv⟩)
theorem xclr_get : ∀ {L : List Value} {j : Nat} {w : Value}, (xclr L)[j]? = some w → w ≠ xno → L[j]? = some w ∧ j ≠ 0
  | [], _, _, h, _ => by simp [xclr] at h
  | _ :: L, 0, w, h, hw => absurd (by simpa [xclr] using h.symm) hw
  | _ :: L, j + 1, w, h, _ => ⟨by simpa [xclr] using h, by omega⟩
theorem xput_get (v : Value) : ∀ (L : List Value) (i j : Nat) (w : Value), (xput L i v)[j]? = some w → w ≠ xno → (j = i ∧ w = v) ∨ (L[j]? = some w ∧ j ≠ i ∧ ¬ (j + 1 = i ∧ w.category = 2) ∧ ¬ (j = i + 1 ∧ v.category = 2))
  | [], i, j, w, h, _ => by simp [xput] at h
  | z :: L, 0, 0, w, h, _ => by
    simp only [xput, List.getElem?_cons_zero] at h
    exact Or.inl ⟨rfl, (Option.some.inj h).symm⟩
  | z :: L, 0, j + 1, w, h, hw => by
    simp only [xput, List.getElem?_cons_succ] at h
    right
    by_cases hc : v.category = 2
    · rw [if_pos hc] at h
      obtain ⟨h1, h2⟩ := xclr_get h hw
      exact ⟨by simpa using h1, by omega, by omega, by omega⟩
    · rw [if_neg hc] at h
      exact ⟨by simpa using h, by omega, by omega, fun q => hc q.2⟩
  | z :: L, 1, 0, w, h, hw => by
    simp only [xput, List.getElem?_cons_zero] at h
    by_cases hc : z.category = 2
    · rw [if_pos hc] at h
      exact absurd (Option.some.inj h).symm hw
    · rw [if_neg hc] at h
      have e := Option.some.inj h
      subst e
      exact Or.inr ⟨by simp, by omega, fun q => hc q.2, by omega⟩
  | z :: L, 1, j + 1, w, h, hw => by
    simp only [xput, List.getElem?_cons_succ] at h
    rcases xput_get v L 0 j w h hw with ⟨h1, h2⟩ | ⟨h1, h2, h3, h4⟩
    · exact Or.inl ⟨by omega, h2⟩
    · exact Or.inr ⟨by simpa using h1, by omega, by omega, fun q => h4 ⟨by omega, q.2⟩⟩
  | z :: L, i + 2, 0, w, h, hw => by
    simp only [xput, List.getElem?_cons_zero] at h
    have e := Option.some.inj h
    subst e
    exact Or.inr ⟨by simp, by omega, by omega, by omega⟩
  | z :: L, i + 2, j + 1, w, h, hw => by
    simp only [xput, List.getElem?_cons_succ] at h
    rcases xput_get v L (i + 1) j w h hw with ⟨h1, h2⟩ | ⟨h1, h2, h3, h4⟩
    · exact Or.inl ⟨by omega, h2⟩
    · exact Or.inr ⟨by simpa using h1, by omega, fun q => h3 ⟨by omega, q.2⟩, fun q => h4 ⟨by omega, q.2⟩⟩
theorem xclr_len : ∀ L : List Value, (xclr L).length = L.length
  | [] => rfl
  | _ :: _ => rfl
theorem xput_len (v : Value) : ∀ (L : List Value) (i : Nat), (xput L i v).length = L.length
  | [], _ => by simp [xput]
  | z :: L, 0 => by simp only [xput]; split <;> simp [xclr_len]
  | z :: L, 1 => by simp [xput, xput_len v L 0]
  | z :: L, i + 2 => by simp [xput, xput_len v L (i + 1)]
theorem xclr_map (ρ : Nat → Nat) : ∀ L : List Value, xclr (L.map (x_v ρ)) = (xclr L).map (x_v ρ)
  | [] => rfl
  | _ :: _ => rfl
theorem xput_map (ρ : Nat → Nat) (v : Value) : ∀ (L : List Value) (i : Nat), xput (L.map (x_v ρ)) i (x_v ρ v) = (xput L i v).map (x_v ρ)
  | [], _ => by simp [xput]
  | z :: L, 0 => by simp only [xput, List.map_cons, x_v_cat]; split <;> simp [xclr_map]
  | z :: L, 1 => by
    simp only [xput, List.map_cons, x_v_cat, xput_map ρ v L 0]
    split <;> simp [x_v]
  | z :: L, i + 2 => by simp only [xput, List.map_cons, xput_map ρ v L (i + 1)]
theorem x_L.of1 {ls' : Array Slot} {nL i : Nat} {v : Value} {M : List Value} (hM : M.length = nL) (hc : v.category = 1) (h : lv_has ls' nL ((i, v) :: (xpr 0 M).filter (fun q => !(q.1 == i) && !(q.1 + 1 == i && q.2.category == 2)))) : x_L ls' nL (xput M i v) := by
  refine ⟨(xput_len v M i).trans hM, h.1, h.2.1, fun q hq => ?_⟩
  obtain ⟨j, w⟩ := q
  obtain ⟨-, h1, h2⟩ := (xpr_iff _ _ _ _).mp hq
  rcases xput_get v M i j w h1 h2 with ⟨rfl, rfl⟩ | ⟨k1, k2, k3, -⟩
  · exact h.2.2 _ List.mem_cons_self
  · refine h.2.2 _ (List.mem_cons_of_mem _ (List.mem_filter.mpr ⟨(xpr_iff _ _ _ _).mpr ⟨Nat.zero_le _, k1, h2⟩, ?_⟩))
    simp only [Bool.and_eq_true, Bool.not_eq_true', beq_eq_false_iff_ne, ne_eq, Bool.and_eq_false_imp, beq_iff_eq]
    exact ⟨k2, fun q1 => fun q2 => k3 ⟨q1, q2⟩⟩
theorem x_L.of2 {ls' : Array Slot} {nL i : Nat} {v : Value} {M : List Value} (hM : M.length = nL) (hc : v.category = 2) (h : lv_has ls' nL ((i, v) :: (xpr 0 M).filter (fun q => !(q.1 == i) && (!(q.1 == i + 1) && !(q.1 + 1 == i && q.2.category == 2))))) : x_L ls' nL (xput M i v) := by
  refine ⟨(xput_len v M i).trans hM, h.1, h.2.1, fun q hq => ?_⟩
  obtain ⟨j, w⟩ := q
  obtain ⟨-, h1, h2⟩ := (xpr_iff _ _ _ _).mp hq
  rcases xput_get v M i j w h1 h2 with ⟨rfl, rfl⟩ | ⟨k1, k2, k3, k4⟩
  · exact h.2.2 _ List.mem_cons_self
  · refine h.2.2 _ (List.mem_cons_of_mem _ (List.mem_filter.mpr ⟨(xpr_iff _ _ _ _).mpr ⟨Nat.zero_le _, k1, h2⟩, ?_⟩))
    simp only [Bool.and_eq_true, Bool.not_eq_true', beq_eq_false_iff_ne, ne_eq, Bool.and_eq_false_imp, beq_iff_eq]
    exact ⟨k2, fun q => k4 ⟨q, hc⟩, fun q1 => fun q2 => k3 ⟨q1, q2⟩⟩
theorem xargs_map (ρ : Nat → Nat) : ∀ L : List Value, xargs (L.map (x_v ρ)) = (xargs L).map (x_v ρ)
  | [] => rfl
  | v :: L => by
    simp only [xargs, List.map_cons, x_v_cat, xargs_map ρ L]
    split <;> simp [x_v]
theorem xentry_map (ρ : Nat → Nat) (L : List Value) (n : Nat) : xentry (L.map (x_v ρ)) n = (xentry L n).map (x_v ρ) := by
  simp [xentry, xargs_map, x_v]
theorem xargs_len : ∀ L : List Value, (xargs L).length = (lg_sl L).length
  | [] => rfl
  | v :: L => by
    have ih := xargs_len L
    simp only [xargs, lg_sl, List.flatMap_cons, List.length_append] at ih ⊢
    split <;> simp only [List.length_cons, List.length_nil] <;> omega
theorem xargs_get : ∀ (L : List Value) (k j : Nat) (w : Value), (xargs L)[j]? = some w → w ≠ xno → (k + j, w) ∈ lv_args k L
  | [], _, _, _, h, _ => by simp [xargs] at h
  | v :: L, k, 0, w, h, _ => by
    simp only [xargs, List.getElem?_cons_zero] at h
    rw [← Option.some.inj h]
    simp [lv_args]
  | v :: L, k, j + 1, w, h, hw => by
    simp only [xargs, List.getElem?_cons_succ] at h
    simp only [lv_args, List.mem_cons]
    right
    by_cases hc : v.category = 2
    · rw [if_pos hc] at h ⊢
      cases j with
      | zero => exact absurd (by simpa using h.symm) hw
      | succ j =>
        rw [List.getElem?_cons_succ] at h
        have := xargs_get L (k + 2) j w h hw
        rwa [show k + 2 + j = k + (j + 1 + 1) by omega] at this
    · rw [if_neg hc] at h ⊢
      have := xargs_get L (k + 1) j w h hw
      rwa [show k + 1 + j = k + (j + 1) by omega] at this
theorem x_L.entry {vs : List Value} {n : Nat} (h : (xargs vs).length ≤ n) : x_L ((lg_sl vs ++ List.replicate (n - (lg_sl vs).length) Slot.unset).toArray) n (xentry vs n) := by
  have h' : (lg_sl vs).length ≤ n := by rw [← xargs_len]; exact h
  have q := lv_entry vs h'
  refine ⟨by simp [xentry]; omega, q.1, q.2.1, fun z hz => ?_⟩
  obtain ⟨j, w⟩ := z
  obtain ⟨-, h1, h2⟩ := (xpr_iff _ _ _ _).mp hz
  refine q.2.2 _ ?_
  have h3 : (xargs vs)[j]? = some w := by
    simp only [xentry, Nat.sub_zero, List.getElem?_append] at h1
    split at h1
    · exact h1
    · rw [List.getElem?_replicate] at h1
      split at h1
      · exact absurd (Option.some.inj h1).symm h2
      · cases h1
  have := xargs_get vs 0 j w h3 h2
  rwa [Nat.zero_add] at this
