/-! STEPS: fields and arrays. -/
section STEP3
variable {p : Program} {l : Launch} {e : Env} {R : Room} {s : State} {m : MethodId} {args : Array Value} {below : List Frame} {meth : Method} {c : Code} {H : Heap} {locs : List Loc} {cells slots : Nat} {Q : State → Prop}
variable {A : Nat → Prop} {D : va_G} {cA : Nat → ClassId} {sA ρ : Nat → Nat} {M : Nat} {ls : Array Slot} {L st : List Value} {σ : xS} {pc nx a b : Nat} {v : Value} {g : xGo}
/-- a field of an object that the start holds, of a nest mate -/
theorem x_getfN {cc : ByteArray} {rest : List Value} (hexec : p.tables.exec = Jvm.exec) (hb : c.code = cc) {o n d own host : String} {index q : Nat} {v : Value} (hE : va_OF o n d v q A s s.heap) (hS : va_S A s.heap H locs) (hown : s.vm.findClass own = some m.cls) (hlink : (Cond.fieldLinkNest own index o n d host).before args s = true) (hdg : decode cc pc = .ok (.getfield index, 3))
    (kk : W p l e R s m args below meth c H locs cells slots Q (F0 m (pc + 3) ls (v :: rest))) : W p l e R s m args below meth c H locs cells slots Q (F0 m pc ls (.ref q :: rest)) := by
  obtain ⟨cf, k, i, f, cell, h1, h2, h3, h4, h5, h6⟩ := hE
  have hq : H[q]? = some cell := by rw [hS.2.1 q (Array.getElem?_eq_some_iff.mp h3).1 h6]; exact h3
  exact va_Wgetf hexec hb hown hlink h1 h2 hq h4 h5 rfl rfl hdg kk
theorem x_vin {i : Int32} {n : Nat} (h : ¬ i < 0) (k : i.toNatClampNeg < n) : vp_in i n := fun q => q.elim h (fun z => by omega)
theorem x_ty {t : Nat} (ht : t < 8) : (xtys cA)[t]? = some (cA t, xkt t) := by
  unfold xtys
  rw [List.getElem?_map, List.getElem?_range ht]; rfl
theorem x_cset {t i : Nat} {l : List Int32} {x : Int32} (hi : i < l.length) : x_c cA ρ (.inr (.inl (t, l.set i x))) = .inl (cA t, l.length, .inl (upd (fun j => l.getD j 0) i x)) := by
  show Sum.inl (cA t, (l.set i x).length, Sum.inl _) = _
  rw [List.length_set]
  refine congrArg (fun f => Sum.inl (cA t, l.length, Sum.inl f)) (funext fun j => ?_)
  simp only [List.getD_eq_getElem?_getD, List.getElem?_set, upd]
  by_cases hj : j = i
  · subst hj; simp [hi]
  · rw [if_neg (fun q => hj q.symm), if_neg hj]
theorem x_csetL {t i : Nat} {l : List Int64} {x : Int64} (hi : i < l.length) : x_c cA ρ (.inr (.inr (.inl (t, l.set i x)))) = .inl (cA t, l.length, .inr (.inl (vp_updL (fun j => l.getD j 0) i x))) := by
  show Sum.inl (cA t, (l.set i x).length, Sum.inr (Sum.inl _)) = _
  rw [List.length_set]
  refine congrArg (fun f => Sum.inl (cA t, l.length, Sum.inr (Sum.inl f))) (funext fun j => ?_)
  simp only [List.getD_eq_getElem?_getD, List.getElem?_set, vp_updL]
  by_cases hj : j = i
  · subst hj; simp [hi]
  · rw [if_neg (fun q => hj q.symm), if_neg hj]
theorem x_csetQ {t i x : Nat} {l : List (Option Nat)} (hi : i < l.length) : x_c cA ρ (.inr (.inr (.inr (t, l.set i (some x))))) = .inl (cA t, l.length, .inr (.inr (.inr (.inr (va_up (fun j => (l.getD j none).map ρ) i (some (ρ x))))))) := by
  show Sum.inl (cA t, (l.set i (some x)).length, Sum.inr (Sum.inr (Sum.inr (Sum.inr _)))) = _
  rw [List.length_set]
  refine congrArg (fun f => Sum.inl (cA t, l.length, Sum.inr (Sum.inr (Sum.inr (Sum.inr f))))) (funext fun j => ?_)
  simp only [List.getD_eq_getElem?_getD, List.getElem?_set, va_up]
  by_cases hj : j = i
  · subst hj; simp [hi]
  · rw [if_neg (fun q => hj q.symm), if_neg hj]
/-- a cell was written -/
theorem x_wr (hat : x_at A D cA sA ρ M s H locs ls L σ) {q : Nat} {cl : xC} {H1 : Heap} {locs1 : List Loc} (hP : va_P D vwCl ((x_ws cA ρ σ.1).set q (ρ q, x_c cA ρ cl)) H1) (hD : va_D A ((x_ws cA ρ σ.1).set q (ρ q, x_c cA ρ cl))) (hS : va_S A s.heap H1 locs1) : x_at A D cA sA ρ M s H1 locs1 ls L (xset σ q cl) := by
  rw [x_ws_set] at hP hD
  exact ⟨hP, hD, hS, hat.2.2.2.1, hat.2.2.2.2⟩
theorem x_st_getfield {k : Nat} (F : x_F A D cA sA M p s m args meth c) (hat : x_at A D cA sA ρ M s H locs ls L σ) (ho : xok M pc (.getfield k) nx a b v) (h : xnext M (.getfield k) nx a b v L st σ = some (.inl g))  (hk : x_K A D cA sA ρ M p l e R s m args below meth c cells slots Q σ g) : W p l e R s m args below meth c H locs cells slots Q (F0 m pc ls (st.map (x_v ρ))) := by
  obtain ⟨hd, rfl, ⟨rfl, o, n, d, hl, hx⟩ | ⟨ha, C, T, N, ⟨hc, hin, hty, hnm⟩, hb, hl⟩⟩ := ho
  · simp only [xnext] at h
    split at h
    · rename_i q r
      rw [if_pos trivial] at h
      split at h
      · rename_i w hw
        cases h
        obtain ⟨h1, h2, h3⟩ := hx _ _ hw
        have hE := F.2.2.2.2.2.2.2.2.2.1.2.2.1 _ h3
        have hthis := hk.same rfl hat
        have he : x_v ρ w = x_v sA w := by
          cases w with
          | ref z => exact congrArg Value.ref (hat.2.2.2.2 z (h2 z rfl))
          | _ => rfl
        have hq : x_v ρ (.ref q) = .ref (sA q) := congrArg Value.ref (hat.2.2.2.2 q h1)
        have hthis : W p l e R s m args below meth c H locs cells slots Q (F0 m (pc + 3) ls (x_v sA w :: r.map (x_v ρ))) := by rw [← he]; exact hthis
        rw [List.map_cons, hq]
        rcases hl with hl | ⟨host, hl⟩
        · exact vk_getf F.1 F.2.1 hE hat.2.2.1 F.2.2.2.1 (F.2.2.2.2.2.2.2.1 _ hl) (fun _ h9 => h9) hd hthis
        · exact x_getfN F.1 F.2.1 hE hat.2.2.1 F.2.2.2.1 ((F.2.2.2.2.2.2.2.2.2.1.2.2.2.2.2.1 _ hl).use rfl) hd hthis
      · cases h
    · cases h
  · simp only [xnext] at h
    split at h
    · rename_i q r
      rw [if_neg ha] at h
      split at h
      · rename_i c9 fs hp
        split at h
        · rename_i hca
          subst hca
          split at h
          · rename_i w hw
            cases h
            have hcell := x_ws_at (cA := cA) (ρ := ρ) hp
            have hv : (fs.map (x_v ρ))[b]? = some (x_v ρ w) := by rw [List.getElem?_map, hw]; rfl
            rcases hl with hl | ⟨host, hl⟩
            · exact va_get F.1 F.2.1 F.2.2.2.2.2.2.2.1 hin F.2.2.2.1 F.2.2.2.2.2.2.2.2.1 hat.1 q hcell hc b hb (F.2.2.2.2.2.2.2.1 _ hl) (fun _ h9 => h9) hv hd (hk.same rfl hat)
            · exact va_getN F.1 F.2.1 F.2.2.2.2.2.2.2.1 hin F.2.2.2.1 F.2.2.2.2.2.2.2.2.1 hat.1 q hcell hc b hb ((F.2.2.2.2.2.2.2.2.2.1.2.2.2.2.2.1 _ hl).use rfl) (fun _ h9 => h9) hv hd (hk.same rfl hat)
          · cases h
        · cases h
      · cases h
    · cases h
theorem x_narrow {ty : FieldType} {w : Value} (h : narrow ty w = w) : narrow ty (x_v ρ w) = x_v ρ w := by
  cases w <;> try exact h
  cases ty <;> rfl
theorem x_fits {ty : FieldType} {w : Value} : fits ty (x_v ρ w) = fits ty w := by
  cases w <;> try rfl
  cases ty <;> rfl
theorem x_st_putfield {k : Nat} (F : x_F A D cA sA M p s m args meth c) (hat : x_at A D cA sA ρ M s H locs ls L σ) (ho : xok M pc (.putfield k) nx a b v) (h : xnext M (.putfield k) nx a b v L st σ = some (.inl g))  (hk : x_K A D cA sA ρ M p l e R s m args below meth c cells slots Q σ g) : W p l e R s m args below meth c H locs cells slots Q (F0 m pc ls (st.map (x_v ρ))) := by
  obtain ⟨hd, rfl, C, T, N, ⟨hc, hin, hty, hnm⟩, hb, hl⟩ := ho
  simp only [xnext] at h
  split at h
  · rename_i w q r
    split at h
    · rename_i c9 fs hp
      split at h
      · rename_i hca
        obtain ⟨rfl, hlt, hf⟩ := hca
        cases h
        have hcell := x_ws_at (cA := cA) (ρ := ρ) hp
        simp only [xfits, Bool.and_eq_true, decide_eq_true_eq] at hf
        have hnar := x_narrow (ρ := ρ) hf.1
        have hfit : fits (xfty c9 b) (x_v ρ w) = true := by rw [x_fits]; exact hf.2
        have hlt' : b < (fs.map (x_v ρ)).length := by rw [List.length_map]; exact hlt
        have hset : (c9, (fs.map (x_v ρ)).set b (x_v ρ w)) = (c9, (fs.set b w).map (x_v ρ)) := by rw [List.map_set]
        have kk : ∀ (H1 : Heap) (locs1 : List Loc), va_P D vwCl ((x_ws cA ρ σ.1).set q (ρ q, .inr (c9, (fs.map (x_v ρ)).set b (x_v ρ w)))) H1 → va_D A ((x_ws cA ρ σ.1).set q (ρ q, .inr (c9, (fs.map (x_v ρ)).set b (x_v ρ w)))) → va_S A s.heap H1 locs1 → W p l e R s m args below meth c H1 locs1 cells slots Q (F0 m (pc + 3) ls (r.map (x_v ρ))) := by
          intro H1 locs1 hP hD hS
          rw [hset] at hP hD
          exact hk ρ ls H1 locs1 cells slots x_ag.rf rfl rfl (x_wr (cl := .inl (c9, fs.set b w)) hat hP hD hS)
        rcases hl with ⟨hfin, hl | ⟨host, hl⟩⟩ | ⟨hfin, hnm2, hdecl, hl⟩
        · exact va_put F.1 F.2.1 F.2.2.2.2.2.2.2.1 hin (xfty c9) hty hnm F.2.2.2.1 F.2.2.2.2.2.2.2.2.1 hat.1 hat.2.1 hat.2.2.1 q hcell hc b hb (F.2.2.2.2.2.2.2.1 _ hl) (fun _ h9 => h9) hfin (hty b hb) hnar hfit hlt' hd kk
        · exact va_putN F.1 F.2.1 F.2.2.2.2.2.2.2.1 hin (xfty c9) hty hnm F.2.2.2.1 F.2.2.2.2.2.2.2.2.1 hat.1 hat.2.1 hat.2.2.1 q hcell hc b hb ((F.2.2.2.2.2.2.2.2.2.1.2.2.2.2.2.1 _ hl).use rfl) (fun _ h9 => h9) hfin (hty b hb) hnar hfit hlt' hd kk
        · exact va_putF F.1 F.2.1 F.2.2.2.2.2.2.2.1 hin (xfty c9) hty hnm F.2.2.2.1 F.2.2.2.2.2.2.2.2.1 hat.1 hat.2.1 hat.2.2.1 q hcell hc b hb (F.2.2.2.2.2.2.2.1 _ hl) (fun _ h9 => h9) hfin (F.2.2.2.2.1.trans hnm2) hdecl (hty b hb) hnar hfit hlt' hd kk
      · cases h
    · cases h
  · cases h
theorem x_getD {α : Type} {l : List α} {i : Nat} {x d : α} (h : l[i]? = some x) : l.getD i d = x := by rw [List.getD_eq_getElem?_getD, h]; rfl
/-- the constant arrays of the tables -/
def xct_ok : Prop := ∀ q t l, xct q = some (t, l) → xB ≤ q ∧ (q, xkt t, l) ∈ xars ∧ (t < 3 ∨ t = 5 ∨ t = 8) ∧ ∀ w ∈ l, (∀ z, w = .ref z → xB ≤ z) ∧ (t < 3 → ∃ x, w = .int x)
theorem x_cv (hat : x_at A D cA sA ρ M s H locs ls L σ) {w : Value} (h : ∀ z, w = .ref z → xB ≤ z) : x_v ρ w = x_v sA w := by
  cases w with
  | ref z => exact congrArg Value.ref (hat.2.2.2.2 z (h z rfl))
  | _ => rfl
theorem x_st_iaload  (F : x_F A D cA sA M p s m args meth c) (hat : x_at A D cA sA ρ M s H locs ls L σ) (ho : xok M pc (.iaload) nx a b v) (h : xnext M (.iaload) nx a b v L st σ = some (.inl g)) (hct : xct_ok) (hk : x_K A D cA sA ρ M p l e R s m args below meth c cells slots Q σ g) : W p l e R s m args below meth c H locs cells slots Q (F0 m pc ls (st.map (x_v ρ))) := by
  obtain ⟨hd, rfl⟩ := ho
  simp only [xnext, xald] at h
  split at h
  · rename_i i q r
    split at h
    · cases h
    · rename_i hi
      split at h
      · rename_i t' l' hp
        split at h
        · rename_i ht
          subst ht
          split at h
          · rename_i x hx
            cases h
            have hcell := x_ws_at (cA := cA) (ρ := ρ) hp
            refine va_iald F.1 F.2.1 F.2.2.2.2.2.2.2.2.1 hat.1 q 0 hcell (x_ty (by decide)) (x_vin hi (List.getElem?_eq_some_iff.mp hx).1) hd ?_
            rw [x_getD hx]
            exact hk.same rfl hat
          · cases h
        · cases h
      · cases h
      · rename_i hp
        split at h
        · rename_i t' l' hl
          split at h
          · rename_i ht
            subst ht
            split at h
            · rename_i x hx
              cases h
              obtain ⟨h1, h2, -, h4⟩ := hct _ _ _ hl
              have hT := F.2.2.2.2.2.2.2.2.2.1.2.2.2.1 _ h2
              have hlt := (List.getElem?_eq_some_iff.mp hx).1
              have hq : x_v ρ (.ref q) = .ref (sA q) := congrArg Value.ref (hat.2.2.2.2 q h1)
              have hxv := x_cv hat (h4 x (List.mem_of_getElem? hx)).1
              rw [List.map_cons, List.map_cons, hq]
              refine va_ti F.1 F.2.1 hT hat.2.2.1 (x_vin hi hlt) (v := x_v ρ x) ?_ hd (hk.same rfl hat)
              rw [hxv]
              exact congrArg (x_v sA) (x_getD hx)
            · cases h
          · cases h
        · cases h
  · cases h
theorem x_st_caload  (F : x_F A D cA sA M p s m args meth c) (hat : x_at A D cA sA ρ M s H locs ls L σ) (ho : xok M pc (.caload) nx a b v) (h : xnext M (.caload) nx a b v L st σ = some (.inl g)) (hct : xct_ok) (hk : x_K A D cA sA ρ M p l e R s m args below meth c cells slots Q σ g) : W p l e R s m args below meth c H locs cells slots Q (F0 m pc ls (st.map (x_v ρ))) := by
  obtain ⟨hd, rfl⟩ := ho
  simp only [xnext, xald] at h
  split at h
  · rename_i i q r
    split at h
    · cases h
    · rename_i hi
      split at h
      · rename_i t' l' hp
        split at h
        · rename_i ht
          subst ht
          split at h
          · rename_i x hx
            cases h
            have hcell := x_ws_at (cA := cA) (ρ := ρ) hp
            refine va_cald F.1 F.2.1 F.2.2.2.2.2.2.2.2.1 hat.1 q 1 hcell (x_ty (by decide)) (x_vin hi (List.getElem?_eq_some_iff.mp hx).1) hd ?_
            rw [x_getD hx]
            exact hk.same rfl hat
          · cases h
        · cases h
      · cases h
      · rename_i hp
        split at h
        · rename_i t' l' hl
          split at h
          · rename_i ht
            subst ht
            split at h
            · rename_i x hx
              cases h
              obtain ⟨h1, h2, -, h4⟩ := hct _ _ _ hl
              have hT := F.2.2.2.2.2.2.2.2.2.1.2.2.2.1 _ h2
              have hlt := (List.getElem?_eq_some_iff.mp hx).1
              have hq : x_v ρ (.ref q) = .ref (sA q) := congrArg Value.ref (hat.2.2.2.2 q h1)
              have hxv := x_cv hat (h4 x (List.mem_of_getElem? hx)).1
              rw [List.map_cons, List.map_cons, hq]
              refine va_tc F.1 F.2.1 hT hat.2.2.1 (x_vin hi hlt) (v := x_v ρ x) ?_ hd (hk.same rfl hat)
              rw [hxv]
              exact congrArg (x_v sA) (x_getD hx)
            · cases h
          · cases h
        · cases h
  · cases h
theorem x_st_baload  (F : x_F A D cA sA M p s m args meth c) (hat : x_at A D cA sA ρ M s H locs ls L σ) (ho : xok M pc (.baload) nx a b v) (h : xnext M (.baload) nx a b v L st σ = some (.inl g)) (hct : xct_ok) (hk : x_K A D cA sA ρ M p l e R s m args below meth c cells slots Q σ g) : W p l e R s m args below meth c H locs cells slots Q (F0 m pc ls (st.map (x_v ρ))) := by
  obtain ⟨hd, rfl⟩ := ho
  simp only [xnext, xald] at h
  split at h
  · rename_i i q r
    split at h
    · cases h
    · rename_i hi
      split at h
      · rename_i t' l' hp
        split at h
        · rename_i ht
          subst ht
          split at h
          · rename_i x hx
            cases h
            have hcell := x_ws_at (cA := cA) (ρ := ρ) hp
            refine va_bald F.1 F.2.1 F.2.2.2.2.2.2.2.2.1 hat.1 q 2 hcell (x_ty (by decide)) (x_vin hi (List.getElem?_eq_some_iff.mp hx).1) hd ?_
            rw [x_getD hx]
            exact hk.same rfl hat
          · cases h
        · cases h
      · cases h
      · rename_i hp
        split at h
        · rename_i t' l' hl
          split at h
          · rename_i ht
            subst ht
            split at h
            · rename_i x hx
              cases h
              obtain ⟨h1, h2, -, h4⟩ := hct _ _ _ hl
              have hT := F.2.2.2.2.2.2.2.2.2.1.2.2.2.1 _ h2
              have hlt := (List.getElem?_eq_some_iff.mp hx).1
              have hq : x_v ρ (.ref q) = .ref (sA q) := congrArg Value.ref (hat.2.2.2.2 q h1)
              have hxv := x_cv hat (h4 x (List.mem_of_getElem? hx)).1
              rw [List.map_cons, List.map_cons, hq]
              refine va_tb F.1 F.2.1 hT hat.2.2.1 (x_vin hi hlt) (v := x_v ρ x) ?_ hd (hk.same rfl hat)
              rw [hxv]
              exact congrArg (x_v sA) (x_getD hx)
            · cases h
          · cases h
        · cases h
  · cases h
theorem x_st_iastore  (F : x_F A D cA sA M p s m args meth c) (hat : x_at A D cA sA ρ M s H locs ls L σ) (ho : xok M pc (.iastore) nx a b v) (h : xnext M (.iastore) nx a b v L st σ = some (.inl g))  (hk : x_K A D cA sA ρ M p l e R s m args below meth c cells slots Q σ g) : W p l e R s m args below meth c H locs cells slots Q (F0 m pc ls (st.map (x_v ρ))) := by
  obtain ⟨hd, rfl⟩ := ho
  simp only [xnext, xast] at h
  split at h
  · rename_i x i q r
    split at h
    · cases h
    · rename_i hi
      split at h
      · rename_i t' l' hp
        split at h
        · rename_i ht
          obtain ⟨rfl, hlt⟩ := ht
          cases h
          have hcell := x_ws_at (cA := cA) (ρ := ρ) hp
          refine va_iast F.1 F.2.1 F.2.2.2.2.2.2.2.2.1 hat.1 hat.2.1 hat.2.2.1 q 0 hcell (x_ty (by decide)) (x_vin hi hlt) hd (fun H1 locs1 hP hD hS => ?_)
          refine hk ρ ls H1 locs1 cells slots x_ag.rf rfl rfl (x_wr (cl := .inr (.inl (0, l'.set i.toNatClampNeg (xnar 0 x)))) hat ?_ ?_ hS)
          · rw [x_cset hlt]; exact hP
          · rw [x_cset hlt]; exact hD
        · cases h
      · cases h
  · cases h
theorem x_st_castore  (F : x_F A D cA sA M p s m args meth c) (hat : x_at A D cA sA ρ M s H locs ls L σ) (ho : xok M pc (.castore) nx a b v) (h : xnext M (.castore) nx a b v L st σ = some (.inl g))  (hk : x_K A D cA sA ρ M p l e R s m args below meth c cells slots Q σ g) : W p l e R s m args below meth c H locs cells slots Q (F0 m pc ls (st.map (x_v ρ))) := by
  obtain ⟨hd, rfl⟩ := ho
  simp only [xnext, xast] at h
  split at h
  · rename_i x i q r
    split at h
    · cases h
    · rename_i hi
      split at h
      · rename_i t' l' hp
        split at h
        · rename_i ht
          obtain ⟨rfl, hlt⟩ := ht
          cases h
          have hcell := x_ws_at (cA := cA) (ρ := ρ) hp
          refine va_cast F.1 F.2.1 F.2.2.2.2.2.2.2.2.1 hat.1 hat.2.1 hat.2.2.1 q 1 hcell (x_ty (by decide)) (x_vin hi hlt) hd (fun H1 locs1 hP hD hS => ?_)
          refine hk ρ ls H1 locs1 cells slots x_ag.rf rfl rfl (x_wr (cl := .inr (.inl (1, l'.set i.toNatClampNeg (xnar 1 x)))) hat ?_ ?_ hS)
          · rw [x_cset hlt]; exact hP
          · rw [x_cset hlt]; exact hD
        · cases h
      · cases h
  · cases h
theorem x_st_bastore  (F : x_F A D cA sA M p s m args meth c) (hat : x_at A D cA sA ρ M s H locs ls L σ) (ho : xok M pc (.bastore) nx a b v) (h : xnext M (.bastore) nx a b v L st σ = some (.inl g))  (hk : x_K A D cA sA ρ M p l e R s m args below meth c cells slots Q σ g) : W p l e R s m args below meth c H locs cells slots Q (F0 m pc ls (st.map (x_v ρ))) := by
  obtain ⟨hd, rfl⟩ := ho
  simp only [xnext, xast] at h
  split at h
  · rename_i x i q r
    split at h
    · cases h
    · rename_i hi
      split at h
      · rename_i t' l' hp
        split at h
        · rename_i ht
          obtain ⟨rfl, hlt⟩ := ht
          cases h
          have hcell := x_ws_at (cA := cA) (ρ := ρ) hp
          refine va_bast F.1 F.2.1 F.2.2.2.2.2.2.2.2.1 hat.1 hat.2.1 hat.2.2.1 q 2 hcell (x_ty (by decide)) (x_vin hi hlt) hd (fun H1 locs1 hP hD hS => ?_)
          refine hk ρ ls H1 locs1 cells slots x_ag.rf rfl rfl (x_wr (cl := .inr (.inl (2, l'.set i.toNatClampNeg (xnar 2 x)))) hat ?_ ?_ hS)
          · rw [x_cset hlt]; exact hP
          · rw [x_cset hlt]; exact hD
        · cases h
      · cases h
  · cases h
theorem x_st_laload  (F : x_F A D cA sA M p s m args meth c) (hat : x_at A D cA sA ρ M s H locs ls L σ) (ho : xok M pc (.laload) nx a b v) (h : xnext M (.laload) nx a b v L st σ = some (.inl g)) (hg : xgok (pc, L, st, σ)) (hk : x_K A D cA sA ρ M p l e R s m args below meth c cells slots Q σ g) : W p l e R s m args below meth c H locs cells slots Q (F0 m pc ls (st.map (x_v ρ))) := by
  obtain ⟨hd, rfl⟩ := ho
  simp only [xnext] at h
  split at h
  · rename_i i q r
    split at h
    · cases h
    · rename_i hi
      split at h
      · rename_i t' l' hp
        split at h
        · rename_i x hx
          cases h
          have ht : t' = 3 := hg.1.at hp
          subst ht
          have hcell := x_ws_at (cA := cA) (ρ := ρ) hp
          refine va_lald F.1 F.2.1 F.2.2.2.2.2.2.2.2.1 hat.1 q 3 hcell (x_ty (by decide)) (x_vin hi (List.getElem?_eq_some_iff.mp hx).1) hd ?_
          rw [x_getD hx]
          exact hk.same rfl hat
        · cases h
      · cases h
  · cases h
theorem x_st_lastore  (F : x_F A D cA sA M p s m args meth c) (hat : x_at A D cA sA ρ M s H locs ls L σ) (ho : xok M pc (.lastore) nx a b v) (h : xnext M (.lastore) nx a b v L st σ = some (.inl g)) (hg : xgok (pc, L, st, σ)) (hk : x_K A D cA sA ρ M p l e R s m args below meth c cells slots Q σ g) : W p l e R s m args below meth c H locs cells slots Q (F0 m pc ls (st.map (x_v ρ))) := by
  obtain ⟨hd, rfl⟩ := ho
  simp only [xnext] at h
  split at h
  · rename_i x i q r
    split at h
    · cases h
    · rename_i hi
      split at h
      · rename_i t' l' hp
        split at h
        · rename_i hlt
          cases h
          have ht : t' = 3 := hg.1.at hp
          subst ht
          have hcell := x_ws_at (cA := cA) (ρ := ρ) hp
          refine va_last F.1 F.2.1 F.2.2.2.2.2.2.2.2.1 hat.1 hat.2.1 hat.2.2.1 q 3 hcell (x_ty (by decide)) (x_vin hi hlt) hd (fun H1 locs1 hP hD hS => ?_)
          refine hk ρ ls H1 locs1 cells slots x_ag.rf rfl rfl (x_wr (cl := .inr (.inr (.inl (3, l'.set i.toNatClampNeg x)))) hat ?_ ?_ hS)
          · rw [x_csetL hlt]; exact hP
          · rw [x_csetL hlt]; exact hD
        · cases h
      · cases h
  · cases h
end STEP3
