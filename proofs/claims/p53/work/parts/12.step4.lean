/-! STEPS: arrays of references, lengths, new cells, copies. -/
section STEP4
variable {p : Program} {l : Launch} {e : Env} {R : Room} {s : State} {m : MethodId} {args : Array Value} {below : List Frame} {meth : Method} {c : Code} {H : Heap} {locs : List Loc} {cells slots : Nat} {Q : State → Prop}
variable {A : Nat → Prop} {D : va_G} {cA : Nat → ClassId} {sA ρ : Nat → Nat} {M : Nat} {ls : Array Slot} {L st : List Value} {σ : xS} {pc nx a b : Nat} {v : Value} {g : xGo}
theorem x_aldr {cc : ByteArray} {rest : List Value} {tys : List (ClassId × FieldType)} {ws : va_W} {cl : List vw_C} {a9 : Nat} (hexec : p.tables.exec = Jvm.exec) (hb : c.code = cc) (hK : va_K D cl tys s) (hP : va_P D cl ws H) (q0 t0 : Nat) {cB : ClassId} {ty : FieldType} {n : Nat} {f : Nat → Option Nat} (ha : ws[q0]? = some (a9, .inl (cB, n, .inr (.inr (.inr (.inr f)))))) (ht : tys[t0]? = some (cB, ty)) (hr : ty.isReference = true) {i : Int32} (hin : vp_in i n) (hdg : decode cc pc = .ok (.aaload, 1))
    (kk : W p l e R s m args below meth c H locs cells slots Q (F0 m (pc + 1) ls (va_rf (f i.toNatClampNeg) :: rest))) : W p l e R s m args below meth c H locs cells slots Q (F0 m pc ls (.int i :: .ref a9 :: rest)) := by
  have hlt : i.toNatClampNeg < n := Nat.not_le.mp fun q => hin (Or.inr q)
  exact W.aald (v := va_rf (f i.toNatClampNeg)) (ty := ty) hexec hb (hP q0 _ ha) ((hK.2 t0 _ ht).1 n (fun j => va_rf (f j))) hr (fun q => by cases q) (by show ¬ (i < 0 ∨ (arrV _ _ _).slots.size ≤ _); rw [arrV_size]; exact hin) (by show (arrV _ _ _).slots[_]? = _; rw [arrV_read _ _ hlt]) rfl rfl hdg kk
theorem x_isref {t : Nat} (h : 4 ≤ t) (k : t < 8) : (xkt t).isReference = true := by
  match t, h, k with
  | 4, _, _ => rfl
  | 5, _, _ => rfl
  | 6, _, _ => rfl
  | 7, _, _ => rfl
theorem x_st_aaload  (F : x_F A D cA sA M p s m args meth c) (hat : x_at A D cA sA ρ M s H locs ls L σ) (ho : xok M pc (.aaload) nx a b v) (h : xnext M (.aaload) nx a b v L st σ = some (.inl g)) (hct : xct_ok) (hg : xgok (pc, L, st, σ)) (hk : x_K A D cA sA ρ M p l e R s m args below meth c cells slots Q σ g) : W p l e R s m args below meth c H locs cells slots Q (F0 m pc ls (st.map (x_v ρ))) := by
  obtain ⟨hd, rfl⟩ := ho
  simp only [xnext] at h
  split at h
  · rename_i i q r
    split at h
    · cases h
    · rename_i hi
      split at h
      · rename_i t' l' hp
        split at h
        · rename_i x hx
          cases h
          have hc := hg.1.at hp
          have hcell := x_ws_at (cA := cA) (ρ := ρ) hp
          refine x_aldr F.1 F.2.1 F.2.2.2.2.2.2.2.2.1 hat.1 q t' hcell (x_ty hc.2.1) (x_isref hc.1 hc.2.1) (x_vin hi (List.getElem?_eq_some_iff.mp hx).1) hd ?_
          have e9 : va_rf ((l'.getD i.toNatClampNeg none).map ρ) = x_v ρ (va_rf x) := by
            rw [x_getD hx]
            cases x <;> rfl
          have := hk.same rfl hat
          rw [List.map_cons, ← e9] at this
          exact this
        · cases h
      · cases h
      · rename_i hp
        split at h
        · rename_i t' l' hl
          split at h
          · rename_i ht
            split at h
            · rename_i x hx
              cases h
              obtain ⟨h1, h2, h3, h4⟩ := hct _ _ _ hl
              have hT := F.2.2.2.2.2.2.2.2.2.1.2.2.2.1 _ h2
              have hlt := (List.getElem?_eq_some_iff.mp hx).1
              have hq : x_v ρ (.ref q) = .ref (sA q) := congrArg Value.ref (hat.2.2.2.2 q h1)
              have hxv := x_cv hat (h4 x (List.mem_of_getElem? hx)).1
              have hre : x_v ρ x = x_v sA (l'.getD i.toNatClampNeg .null) := by rw [hxv, x_getD hx]
              rw [List.map_cons, List.map_cons, hq]
              rcases h3 with h3 | rfl | rfl
              · omega
              · exact vb_tq (C := RX1) F.1 F.2.1 hT hat.2.2.1 (x_vin hi hlt) (v := x_v ρ x) hre.symm hd (hk.same rfl hat)
              · exact vb_tq (C := "java/lang/String") F.1 F.2.1 hT hat.2.2.1 (x_vin hi hlt) (v := x_v ρ x) hre.symm hd (hk.same rfl hat)
            · cases h
          · cases h
        · cases h
  · cases h
/-- the classes of receivers: numbers below 1000 are the pool's, others the constants' -/
def xrc_ok : Prop := (∀ q k, xco q = some k → xB ≤ q ∧ 1000 ≤ k ∧ (q, xcn k) ∈ xobs) ∧ (xkc 4 < 1000 ∧ ∃ T N, vwCl[xkc 4]? = some (RX4, T, N)) ∧ xcn (xkc 5) = RX1 ∧ 1000 ≤ xkc 5
theorem x_rcv (F : x_F A D cA sA M p s m args meth c) (hat : x_at A D cA sA ρ M s H locs ls L σ) (hrc : xrc_ok) {q k : Nat} {C : String} (h : xrcv k σ (.ref q) = true) (hC : (k < 1000 → ∃ T N, vwCl[k]? = some (C, T, N)) ∧ (1000 ≤ k → xcn k = C)) (hk9 : ∀ (r : Nat) (cl : Nat) (fs : List Value), σ.1[r]? = some (.inl (cl, fs)) → cl < 1000) :
    ∃ cell : Cell, H[ρ q]? = some cell ∧ cell.vm.isStatics = false ∧ s.vm.findClass C = some cell.cls := by
  simp only [xrcv] at h
  split at h
  · rename_i c9 fs hp
    have e9 : c9 = k := by simpa using h
    subst e9
    obtain ⟨T, N, hc⟩ := hC.1 (hk9 _ _ _ hp)
    exact va_recv F.2.2.2.2.2.2.2.2.1 hat.1 hc (x_ws_at (cA := cA) (ρ := ρ) hp)
  · cases h
  · have e9 : xco q = some k := by simpa using h
    obtain ⟨h1, h2, h3⟩ := hrc.1 _ _ e9
    obtain ⟨cell, k1, k2, k3, k4⟩ := F.2.2.2.2.2.2.2.2.2.1.2.1 _ h3
    refine ⟨cell, ?_, k2, ?_⟩
    · rw [hat.2.2.2.2 q h1, hat.2.2.1.2.1 _ (Array.getElem?_eq_some_iff.mp k1).1 k4]; exact k1
    · rw [← hC.2 h2]; exact k3
theorem x_st_arraylength  (F : x_F A D cA sA M p s m args meth c) (hat : x_at A D cA sA ρ M s H locs ls L σ) (ho : xok M pc (.arraylength) nx a b v) (h : xnext M (.arraylength) nx a b v L st σ = some (.inl g)) (hct : xct_ok) (hg : xgok (pc, L, st, σ)) (hk : x_K A D cA sA ρ M p l e R s m args below meth c cells slots Q σ g) : W p l e R s m args below meth c H locs cells slots Q (F0 m pc ls (st.map (x_v ρ))) := by
  obtain ⟨hd, rfl⟩ := ho
  simp only [xnext] at h
  split at h
  · rename_i q r
    split at h
    · rename_i cl hp
      split at h
      · rename_i n hn
        cases h
        have hcell := x_ws_at (cA := cA) (ρ := ρ) hp
        have hc := hg.1.at hp
        match cl, hn, hc, hcell with
        | .inr (.inl (t, l')), hn, hc, hcell =>
          cases hn
          exact va_alen F.1 F.2.1 F.2.2.2.2.2.2.2.2.1 hat.1 q t hcell (x_ty (by have := hc.1; omega)) rfl hd (hk.same rfl hat)
        | .inr (.inr (.inl (t, l'))), hn, hc, hcell =>
          cases hn
          have ht : t = 3 := hc
          exact va_alen F.1 F.2.1 F.2.2.2.2.2.2.2.2.1 hat.1 q t hcell (x_ty (by omega)) rfl hd (hk.same rfl hat)
        | .inr (.inr (.inr (t, l'))), hn, hc, hcell =>
          cases hn
          exact va_alen F.1 F.2.1 F.2.2.2.2.2.2.2.2.1 hat.1 q t hcell (x_ty hc.2.1) rfl hd (hk.same rfl hat)
      · cases h
    · split at h
      · rename_i t' l' hl
        cases h
        obtain ⟨h1, h2, -, -⟩ := hct _ _ _ hl
        have hT := F.2.2.2.2.2.2.2.2.2.1.2.2.2.1 _ h2
        have hq : x_v ρ (.ref q) = .ref (sA q) := congrArg Value.ref (hat.2.2.2.2 q h1)
        rw [List.map_cons, hq]
        exact va_tlen F.1 F.2.1 hT hat.2.2.1 rfl hd (hk.same rfl hat)
      · cases h
  · cases h
theorem x_st_aastore  (F : x_F A D cA sA M p s m args meth c) (hat : x_at A D cA sA ρ M s H locs ls L σ) (ho : xok M pc (.aastore) nx a b v) (h : xnext M (.aastore) nx a b v L st σ = some (.inl g)) (hrc : xrc_ok) (hg : xgok (pc, L, st, σ)) (hk : x_K A D cA sA ρ M p l e R s m args below meth c cells slots Q σ g) : W p l e R s m args below meth c H locs cells slots Q (F0 m pc ls (st.map (x_v ρ))) := by
  obtain ⟨hd, rfl⟩ := ho
  simp only [xnext] at h
  split at h
  · rename_i z i q r
    split at h
    · cases h
    · rename_i hi
      split at h
      · rename_i t' l' hp
        split at h
        · rename_i hlt
          cases h
          have hcell := x_ws_at (cA := cA) (ρ := ρ) hp
          have hc := hg.1.at hp
          have kk : ∀ (H1 : Heap) (locs1 : List Loc), va_P D vwCl ((x_ws cA ρ σ.1).set q (ρ q, .inl (cA t', l'.length, .inr (.inr (.inr (.inr (va_up (fun j => (l'.getD j none).map ρ) i.toNatClampNeg (some (ρ z))))))))) H1 → va_D A ((x_ws cA ρ σ.1).set q (ρ q, .inl (cA t', l'.length, .inr (.inr (.inr (.inr (va_up (fun j => (l'.getD j none).map ρ) i.toNatClampNeg (some (ρ z))))))))) → va_S A s.heap H1 locs1 → W p l e R s m args below meth c H1 locs1 cells slots Q (F0 m (pc + 1) ls (r.map (x_v ρ))) := by
            intro H1 locs1 hP hD hS
            refine hk ρ ls H1 locs1 cells slots x_ag.rf rfl rfl (x_wr (cl := .inr (.inr (.inr (t', l'.set i.toNatClampNeg (some z))))) hat ?_ ?_ hS)
            · rw [x_csetQ hlt.2.1]; exact hP
            · rw [x_csetQ hlt.2.1]; exact hD
          have hk9 : ∀ (r : Nat) (cl : Nat) (fs : List Value), σ.1[r]? = some (.inl (cl, fs)) → cl < 1000 := fun r9 cl fs h9 => (hg.1.at h9).1
          rcases (show t' = 4 ∨ t' = 5 by have := hc.1; have := hlt.1; omega) with rfl | rfl
          · have hr := x_rcv F hat hrc (C := RX4) hlt.2.2 ⟨fun _ => hrc.2.1.2, fun q9 => absurd hrc.2.1.1 (by omega)⟩ hk9
            exact vb_astq F.1 F.2.1 F.2.2.2.2.2.2.2.2.1 hat.1 hat.2.1 hat.2.2.1 q 4 hcell (x_ty (by decide)) hr vb_asgS (x_vin hi hlt.2.1) hd kk
          · have hr := x_rcv F hat hrc (C := RX1) hlt.2.2 ⟨fun q9 => absurd hrc.2.2.2 (by omega), fun _ => hrc.2.2.1⟩ hk9
            exact vb_astq F.1 F.2.1 F.2.2.2.2.2.2.2.2.1 hat.1 hat.2.1 hat.2.2.1 q 5 hcell (x_ty (by decide)) hr vb_asgS (x_vin hi hlt.2.1) hd kk
        · cases h
      · cases h
  · cases h
end STEP4
