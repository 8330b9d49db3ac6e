/-! THE PROGRAM: read and cleared in the world. -/
theorem w_readText {S : List Int32} {d : Nat} (hd : 7 ≤ d) {e f sv : Int32} {K B F V : kK} {ol sz : Nat} {R : Nat → kK} {M : List xC} {G : Nat → xC} {P : List xC} {vp : Nat} {ml ln : Int32} {D : List Int32} {h : xH} {k0 : Nat × Nat} (N : List Nat) (hN : N.length ≤ 60) (hB : ∀ i, i < N.length → gn N i < 128) (tx : List Int32) (ht : tx.length = 60) (hT : ∀ i, i < N.length → gd tx i = nI (gn N i)) (cm : List (Option Nat)) (fi se : List Int32) (h1 : cm.length = 16) (h2 : fi.length = 16) (h3 : se.length = 16) (ps cnt : Int32) (vc v0 v1 : Nat) (hs : sOK (0, vc, v0, v1)) (hP : P = (prC (nI N.length) ps cnt (nI vc) tx cm fi se [nI v0, nI v1])) (hW : W0 e f sv K B F V ol sz R M G P vp ml ln D h) : yT S d 52 [.ref 113] (h, k0) (fun r => ∃ h2, (∃ z : List (Option Nat) × (List Int32 × List Int32), cmR (rtx N 16 (0, 0, v0, v1) []).2.2 z.1 z.2.1 z.2.2 ∧ W0 e f sv K B F V ol sz R M G (prC (nI N.length) (nI (rtx N 16 (0, 0, v0, v1) []).2.1.1) (nI (rtx N 16 (0, 0, v0, v1) []).2.2.length) (nI (rtx N 16 (0, 0, v0, v1) []).2.1.2.1) tx z.1 z.2.1 z.2.2 [nI (rtx N 16 (0, 0, v0, v1) []).2.1.2.2.1, nI (rtx N 16 (0, 0, v0, v1) []).2.1.2.2.2]) vp ml ln D h2) ∧ r = (.inl (some (.int (if (rtx N 16 (0, 0, v0, v1) []).1 = true then 1 else 0))), (h2, k0))) := by
  subst hP
  obtain ⟨wl, wl2, wlM, wlP, wvp, w0, wK, wB, wF, wV, wH, wM, wG, wP, wL, wD, wR⟩ := id hW
  have lP : 113 + 6 ≤ h.length := has_len wP (by show 0 < 6; decide)
  have hT := s_readText (S := S) hd lP wl k0 N hN tx ht hT hB cm fi se h1 h2 h3 ps cnt vc v0 v1 hs
  rw [W_self wP (by show 0 < 6; decide)] at hT
  refine yT_mono hT fun r hr => ?_
  obtain ⟨z, hz, hr⟩ := hr
  exact ⟨_, ⟨z, hz, W_P rfl hW⟩, hr⟩
