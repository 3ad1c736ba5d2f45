/-! sign and link -/
theorem hasKey_c {D : Nat} {M N : Mm} (hD : RD D M N) (a1 a2 : Int32) : (∃ d s, d < D ∧ s < 2 ∧ a1 = nI d ∧ a2 = nI s ∧ N 13 (2 * d + s) ≠ 0 ∧ fX10_hasKey a1 a2 M = some 1) ∨ (fX10_hasKey a1 a2 M = some 0 ∧ ((∃ d s, d < D ∧ s < 2 ∧ a1 = nI d ∧ a2 = nI s ∧ N 13 (2 * d + s) = 0) ∨ (∃ d, d < D ∧ a1 = nI d ∧ (a2 < 0 ∨ (¬ a2 < 0 ∧ nI 2 ≤ a2))) ∨ (a1 < 0 ∨ (¬ a1 < 0 ∧ nI D ≤ a1)))) := by
  have hD20 := hD.1
  unfold fX10_hasKey
  rcases i_cases a1 (n := D) (by omega) with ⟨d, hd, rfl⟩ | h
  · rcases i_cases a2 (n := 2) (by omega) with ⟨s, hs, rfl⟩ | h
    · have ek := hD.2.2.2.2.2.2.2.2.1 d (by omega) s hs
      rw [(dom_y hD hd).1, bn1_e, if_neg (by decide), sel_y hs, bn1_e, if_neg (by decide), grd_n (by omega) (by omega), grd_n (by omega) (by omega), cN (by omega), cN (by omega), ek.1]
      by_cases hk : N 13 (2 * d + s) = 0
      · exact Or.inr ⟨if_pos hk, Or.inl ⟨d, s, hd, hs, rfl, rfl, hk⟩⟩
      · exact Or.inl ⟨d, s, hd, hs, rfl, rfl, hk, if_neg hk⟩
    · refine Or.inr ⟨?_, Or.inr (Or.inl ⟨d, hd, rfl, h⟩)⟩
      rw [(dom_y hD hd).1, bn1_e, if_neg (by decide), sel_n h, bn1_e, if_pos rfl]
  · refine Or.inr ⟨?_, Or.inr (Or.inr h)⟩
    rw [(dom_n hD h).1, bn1_e, if_pos rfl]
theorem RSg.k {D E k j : Nat} {M N M' N' : Mm} (hj : j < 7) (hjk : j ≠ k) (h : RSg D j M N) (hE : D ≤ E) (f : FK k M N M' N') : RSg E j M' N' := h.to hE (f.1 _ (by omega) (by omega) (by omega)) (fun t a b => f.2.2.1 t j (by omega) (by omega) hjk)
theorem sign_R {k D g : Nat} {M N M' N' : Mm} (hA : RA D k M N) (hg : g < 3) (e1 : M 243 10 = nI g) (e2 : N 0 29 = nI g) (hm : N 0 19 ≠ 0) (e4 : ∀ i, i < g → RSg D i M N) (hS : RSg D g M' N') (f : FK g M N M' N') : Rel (k + 1) (up2 M' 243 10 (nI (g + 1))) (up2 N' 0 29 (nI (g + 1))) := by
  obtain ⟨hD, hL, hC, hR, hT⟩ := hA
  obtain ⟨hw, hh, hb, -, hl⟩ := hL
  have mm : ∀ t, t ≠ 246 + 7 → t ≠ 254 + 7 → t ≠ 263 + g → t ≠ 243 → up2 M' 243 10 (nI (g + 1)) t = M t := fun t a b c d => by rw [up2_o d, f.1 t a b c]
  have m243 : ∀ j, j ≠ 10 → up2 M' 243 10 (nI (g + 1)) 243 j = M 243 j := fun j h => by rw [up2_k h, f.1 243 (by omega) (by omega) (by omega)]
  have nn : ∀ t, t ≠ 0 → t ≠ 32 → t < 22 ∨ 29 < t → up2 N' 0 29 (nI (g + 1)) t = N t := fun t a b c => by rw [up2_o a, f.2.1 t a b c]
  have n0 : ∀ j, j ≠ 41 → j ≠ 43 → j ≠ 1043 → j ≠ 29 → up2 N' 0 29 (nI (g + 1)) 0 j = N 0 j := fun j a b c d => by rw [up2_k d, f.2.2.2 j a b c]
  refine Rel.ml hD ⟨?_, ?_, ?_, ?_, ?_⟩ hC hR hT (fun t ht => mm t (by omega) (by omega) (by omega) (by omega)) (fun t ht => mm t (by omega) (by omega) (by omega) (by omega)) (fun j hj => n0 j (by omega) (by omega) (by omega) (by omega)) (fun j hj hj2 => n0 j (by omega) (by omega) (by omega) (by omega)) (fun t a b => nn t (by omega) (by omega) (by omega)) (fun t ht => nn t (by omega) (by omega) (by omega))
  · unfold RLw at *
    rw [m243 0 (by omega), m243 1 (by omega), m243 2 (by omega), m243 3 (by omega), n0 19 (by omega) (by omega) (by omega) (by omega), n0 20 (by omega) (by omega) (by omega) (by omega), n0 21 (by omega) (by omega) (by omega) (by omega), n0 22 (by omega) (by omega) (by omega) (by omega)]
    exact hw
  · obtain ⟨h, h6, f1, f2, f3, f4⟩ := hh
    refine ⟨h, h6, by rw [m243 6 (by omega)]; exact f1, by rw [n0 23 (by omega) (by omega) (by omega) (by omega)]; exact f2, by rw [n0 19 (by omega) (by omega) (by omega) (by omega)]; exact f3, fun i hi => ?_⟩
    rw [mm 244 (by omega) (by omega) (by omega) (by omega), mm (246 + i) (by omega) (by omega) (by omega) (by omega), mm (254 + i) (by omega) (by omega) (by omega) (by omega), nn 18 (by omega) (by omega) (by omega), nn 19 (by omega) (by omega) (by omega), nn 20 (by omega) (by omega) (by omega)]
    exact f4 i hi
  · obtain ⟨z, hz, f1, f2, f3⟩ := hb
    refine ⟨z, hz, by rw [mm _ (by omega) (by omega) (by omega) (by omega)]; exact f1, by rw [n0 27 (by omega) (by omega) (by omega) (by omega)]; exact f2, fun j hj => ?_⟩
    rw [mm _ (by omega) (by omega) (by omega) (by omega), nn 21 (by omega) (by omega) (by omega)]
    exact f3 j hj
  · refine ⟨g + 1, by omega, up2_e, up2_e, fun z => ?_, fun i hi => ?_⟩
    · rw [n0 19 (by omega) (by omega) (by omega) (by omega)] at z
      exact absurd z hm
    · have base : RSg D i M' N' := by
        by_cases hig : i = g
        · subst hig
          exact hS
        · exact (e4 i (by omega)).k (by omega) hig (Nat.le_refl _) f
      exact base.to (Nat.le_refl _) (up2_o (by omega)) (fun t a b => up2_t (by omega))
  · obtain ⟨q, hq, f1, f2, f3, f4⟩ := hl
    refine ⟨q, hq, by rw [m243 12 (by omega)]; exact f1, by rw [n0 38 (by omega) (by omega) (by omega) (by omega)]; exact f2, by rw [n0 19 (by omega) (by omega) (by omega) (by omega)]; exact f3, fun i hi => ⟨?_, ?_⟩⟩
    · exact ((f4 i hi).1.k (by omega) (by omega) (Nat.le_refl _) f).to (Nat.le_refl _) (up2_o (by omega)) (fun t a b => up2_t (by omega))
    · rw [mm (271 + i) (by omega) (by omega) (by omega) (by omega), nn 30 (by omega) (by omega) (by omega), nn 31 (by omega) (by omega) (by omega)]
      exact (f4 i hi).2
theorem how_c {u : Nat} (hu : u < 8) : nI u &&& 1 = nI (u % 2) ∧ nI u >>> ((1 : Int32) &&& 31) = nI (u / 2) ∧ nI u - nI u / (2 : Int32) * (2 : Int32) = nI (u % 2) ∧ nI u / (2 : Int32) = nI (u / 2) := by
  have h8 : u = 0 ∨ u = 1 ∨ u = 2 ∨ u = 3 ∨ u = 4 ∨ u = 5 ∨ u = 6 ∨ u = 7 := by omega
  rcases h8 with rfl | rfl | rfl | rfl | rfl | rfl | rfl | rfl <;> decide
theorem sign_key {D k q : Nat} {M N : Mm} (hk : k ≤ 512) (hA : RA D k M N) (hR : Rel k M N) (hm : N 0 19 ≠ 0) {d s w : Nat} {a2 nm lim lf : Int32} (hd : d < D) (hs : s < 2) (hw : w < 4) (hl : lim = -1 ∨ isN (2 ^ 31) lim) (hlf : lf = -1 ∨ isN 100001 lf) : ∃ (r : Int32) (M' N' : Mm), (if (nI w &&& (2 : Int32)) = 0 then (fX10_sign_90 (nI d) a2 nm lim lf (nI s) (nI w) (0 : Int32) lim M) else (fX10_sign_90 (nI d) a2 nm lim lf (nI s) (nI w) (1 : Int32) lim M)) = some (r, M') ∧ (bn2 (fX11_bodyLength (nI w) N) (fun v82 M82 => if lim ≤ v82 then (if (M82 0 29) = (3 : Int32) then (some ((-2 : Int32), M82)) else (if 0 ≤ lf then (fX11_sign_131 (nI d) a2 nm lim lf ((M82 0 18) + lf) lim nm (nI w) (nI s) (nI d) (M82 0 29) M82) else (fX11_sign_131 (nI d) a2 nm lim lf (-1 : Int32) lim nm (nI w) (nI s) (nI d) (M82 0 29) M82))) else (some ((-1 : Int32), M82)))) = some (r, N') ∧ Rel (k + 1) M' N' := by
  have hD20 := hA.1.1
  obtain ⟨z, hz, hB⟩ := hA.2.1.bs
  obtain ⟨a, ha, e1, e2⟩ : ∃ a, isB a ∧ (if (nI w &&& (2 : Int32)) = 0 then (fX10_sign_90 (nI d) a2 nm lim lf (nI s) (nI w) (0 : Int32) lim M) else (fX10_sign_90 (nI d) a2 nm lim lf (nI s) (nI w) (1 : Int32) lim M)) = fX10_sign_90 (nI d) a2 nm lim lf (nI s) (nI w) a lim M ∧ fX11_bodyLength (nI w) N = fX11_bodyLength_12 (nI w) a N := by
    unfold fX11_bodyLength
    by_cases h : (nI w &&& (2 : Int32)) = 0
    · exact ⟨0, Or.inl rfl, if_pos h, if_pos h⟩
    · exact ⟨1, Or.inr rfl, if_neg h, if_neg h⟩
  obtain ⟨M1, N1, c, g1, g2, hc, hC, f⟩ := bodyForm_eq ha hz hB
  have hA1 := hA.w f.w
  have hR1 := f.w.rel hR
  rw [e1, e2]
  unfold fX10_sign_90 fX11_bodyLength_12
  rw [g1, bn2_e, grd_lt (by omega), hC.1, g2, bn1_e, bn2_e, hC.2.1]
  by_cases hlim : lim ≤ nI c
  · rw [if_pos hlim, if_pos hlim]
    obtain ⟨g, hg, x1, x2, x3, x4⟩ := hA1.2.1.2.2.2.1
    have hm1 : N1 0 19 ≠ 0 := by rw [f.2.2 19 (by omega)]; exact hm
    unfold fX4_nextSignature
    rw [x1, x2]
    by_cases h3 : g = 3
    · subst h3
      rw [if_pos (by decide), bn1_e, opc_1, if_pos (by decide)]
      exact ⟨-2, M1, N1, rfl, rfl, hR1⟩
    · rw [if_neg (show ¬ (3 : Int32) ≤ nI g from nI_ge (b := 3) (by omega) (by omega)), grd_n (show g < 3 by omega) (by omega), bn1_e, opc_2, cN (by omega), grd_lt (by omega), if_neg (show ¬ nI g = (3 : Int32) from fun q => by have := (nI_eq (a := g) (b := 3) (by omega) (by omega)).mp q; omega)]
      obtain ⟨z1, hz1, hB1⟩ := hA1.2.1.bs
      obtain ⟨hc1, hc16, hX1⟩ := hA1.2.1.hx
      obtain ⟨t, ht, t1, t2⟩ := hA1.2.2.2.2
      have ek := hA1.1.2.2.2.2.2.2.2.2.1 d (by omega) s hs
      have fin : ∀ ex : Int32, (ex = -1 ∨ isN (2 ^ 31) ex) → ∃ (r : Int32) (M' N' : Mm), fX10_sign_145 (nI d) a2 nm lim lf (nI s) g ex lim nm (nI w) (nI s) (nI d) g M1 = some (r, M') ∧ fX11_sign_131 (nI d) a2 nm lim lf ex lim nm (nI w) (nI s) (nI d) (nI g) N1 = some (r, N') ∧ Rel (k + 1) M' N' := by
        intro ex hex
        obtain ⟨Mf, M2, N2, p1, p2, p3, p4, p5, p6, -⟩ := make_eq (nm := nm) (key := N1 13 (2 * d + s)) (show g < 7 by omega) hD20 hz1 hB1 hc16 hX1 hd hs hw hl hex rfl
        refine ⟨nI g, up2 M2 243 10 (nI (g + 1)), up2 N2 0 29 (nI (g + 1)), ?_, ?_, sign_R hA1 (by omega) x1 x2 hm1 x4 p5 p6⟩
        · unfold fX10_sign_145
          rw [p1, bn1_e, grd_n (show d < 20 by omega) (by omega), grd_n hs (by omega), cN (show d < 2 ^ 31 by omega), cN (show s < 2 ^ 31 by omega), p2 (202 + d) (by omega), ek.1, p3, bn1_e, nm_x, p6.1 243 (by omega) (by omega) (by omega), x1, nI_1, up2_e, nI_pred]
        · unfold fX11_sign_131
          rw [p4, bn1_e, nm_x, p6.2.2.2 29 (by omega) (by omega) (by omega), x2, nI_1, up2_e, nI_pred]
      rcases hlf with rfl | ⟨y, hy, rfl⟩
      · rw [if_pos rfl, if_neg (by decide)]
        exact fin (-1) (Or.inl rfl)
      · rw [if_neg (show ¬ nI y = -1 from fun q => nI_pos (n := y) (by omega) (q ▸ (by decide))), if_pos (nI_pos' (by omega)), t1, t2, nI_add]
        exact fin _ (Or.inr ⟨t + y, by omega, rfl⟩)
  · rw [if_neg hlim, if_neg hlim]
    exact ⟨-1, M1, N1, rfl, rfl, hR1⟩
