/-! a signature checked -/
theorem RSg.w {D k : Nat} {M N M' N' : Mm} (hk : k < 7) (h : RSg D k M N) (f : Fw M N M' N') : RSg D k M' N' := h.to (Nat.le_refl _) (f.1 _ (by omega) (by omega)) (fun t a b => by rw [f.2.1 t (by omega) (by omega)])
theorem BS.w {z : Nat} {M N M' N' : Mm} (h : BS z M N) (f : Fw M N M' N') : BS z M' N' := by
  unfold BS at *
  rw [f.1 (246 + 6) (by omega) (by omega), f.1 (254 + 6) (by omega) (by omega), f.2.1 21 (by omega) (by omega), f.2.2 27 (by omega) (by omega) (by omega)]
  exact h
theorem RMl.hx {D : Nat} {M N : Mm} (h : RMl D M N) : ∃ c, c ≤ 6 ∧ HX c M N := by
  obtain ⟨-, ⟨c, hc, e1, e2, e3, e4⟩, -⟩ := h
  exact ⟨c, hc, e1, e2, fun i hi => ⟨(e4 i hi).1, (e4 i hi).2.2⟩⟩
theorem RMl.bs {D : Nat} {M N : Mm} (h : RMl D M N) : ∃ z, z ≤ 90 ∧ BS z M N := by
  obtain ⟨-, -, ⟨z, hz, e⟩, -⟩ := h
  exact ⟨z, hz, e⟩
theorem check_eq {D k q : Nat} {M N : Mm} (hD : RD D M N) (hL : RMl D M N) (hT : RT q M N) (hq : q ≤ 600) (hk : k < 7) (hS : RSg D k M N) : ∃ r M' N', fX10_checkSignature k M = some (r, M') ∧ fX11_checkSignature (nI k) N = some (r, N') ∧ Fw M N M' N' := by
  have hD20 := hD.1
  obtain ⟨hc, hc6, hX⟩ := hL.hx
  obtain ⟨z, hz, hB⟩ := hL.bs
  obtain ⟨s0, ⟨d, hd, s1⟩, s2, ⟨s, hs, s3⟩, s4, s5, s6, s7, s8, s9, s10, s11, s12⟩ := id hS
  obtain ⟨t, ht, t1, t2⟩ := hT
  have eq := hD.2.2.2.2.1 d (by omega)
  have ek := hD.2.2.2.2.2.2.2.2.1 d (by omega) s hs
  -- the rest, once silence, key and time are right
  have rest : N 13 (2 * d + s) ≠ 0 → ∃ r M' N', fX10_checkSignature_55 k (N 13 (2 * d + s)) M = some (r, M') ∧ fX11_checkSignature_43 (nI k) 0 N = some (r, N') ∧ Fw M N M' N' := by
    intro hky
    obtain ⟨a, ha, e1, e2⟩ := relaxed_c s4
    obtain ⟨M1, N1, c, g1, g2, hc91, hC, f⟩ := bodyForm_eq ha hz hB
    have f1 := f.w
    have hM1 : M1 (263 + k) = M (263 + k) := f.1 (263 + k) (by omega) (by omega)
    have hN1 : ∀ t, 22 ≤ t → t < 30 → N1 t = N t := fun t a b => f.2.1 t (by omega) (by omega)
    have hS1 := hS.w hk f1
    have eM : fX10_checkSignature_55 k (N 13 (2 * d + s)) M = (if N 26 k ≤ nI c then (bn2 (fX4_bodyDigestFor k M1) (fun v88 M88 => if (N 28 k) = v88 then (bn2 (fX4_sealFor k (N 13 (2 * d + s)) M88) (fun v104 M104 => if (M88 (263 + k) 7) = v104 then (fX10_checkSignature_115 k (1 : Int32) M104) else (fX10_checkSignature_114 k M104))) else (fX10_checkSignature_114 k M88))) else (some ((6 : Int32), M1))) := by
      unfold fX10_checkSignature_55
      rw [e1, bn1_e, g1, bn2_e, grd_lt (by omega), s7, hC.1, hM1, s11]
    have eN : fX11_checkSignature_43 (nI k) 0 N = (if N 26 k ≤ nI c then (bn2 (fX11_bodyDigest (N 24 k) (N 26 k) N1) (fun v112 M112 => if (N 28 k) = v112 then (bn2 (fX11_sealOf (nI k) M112) (fun v128 M128 => if (M112 29 k) = v128 then (some ((1 : Int32), M128)) else (some ((2 : Int32), M128)))) else (some ((2 : Int32), M112)))) else (some ((6 : Int32), N1))) := by
      unfold fX11_checkSignature_43
      rw [cN (show k < 2 ^ 31 by omega)]
      simp only [grd_n hk (show 7 < 2 ^ 31 by omega)]
      rw [s1, s3, ix2, grd_n (by omega) (by omega), cN (show 2 * d + s < 2 ^ 31 by omega), if_neg hky, if_pos trivial, (e2 N).1]
      unfold fX11_bodyLength_12
      rw [g2, bn1_e, bn2_e, hC.2.1, hN1 24 (by omega) (by omega), hN1 26 (by omega) (by omega), hN1 28 (by omega) (by omega)]
    rw [eM, eN]
    by_cases hlim : N 26 k ≤ nI c
    · rw [if_pos hlim, if_pos hlim]
      obtain ⟨r1, M2, N2, q1, q2, f2⟩ := bodyDigest_eq (w := N 24 k) (l := N 26 k) hk hz (hB.w f1) (by rw [hM1]; exact s4) (by rw [hM1]; exact s7) s8
      rw [q1, q2, bn2_e, bn2_e]
      have fw2 := f1.tr f2
      by_cases hb : N 28 k = r1
      · rw [if_pos hb, if_pos hb]
        have hS2 := hS.w hk fw2
        obtain ⟨r2, M3, N3, w1, w2, f3⟩ := seal_eq (key := N 13 (2 * d + s)) hc6 hk (hX.w hc6 fw2) hS2.s7 hD20 (fun d' s' h1 h2 h3 h4 => by
          rw [fw2.2.1 22 (by omega) (by omega), s1] at h3
          rw [fw2.2.1 23 (by omega) (by omega), s3] at h4
          have i1 := (nI_eq (by omega) (by omega)).mp h3
          have i2 := (nI_eq (by omega) (by omega)).mp h4
          subst i1
          subst i2
          rw [fw2.2.1 13 (by omega) (by omega)])
        rw [w1, w2, bn2_e, bn2_e, hS2.2.2.2.2.2.2.2.2.2.2.2.2]
        by_cases hse : N2 29 k = r2
        · rw [if_pos hse, if_pos hse]
          exact ⟨1, M3, N3, rfl, rfl, fw2.tr f3⟩
        · rw [if_neg hse, if_neg hse]
          exact ⟨2, M3, N3, rfl, rfl, fw2.tr f3⟩
      · rw [if_neg hb, if_neg hb]
        exact ⟨2, M2, N2, rfl, rfl, fw2⟩
    · rw [if_neg hlim, if_neg hlim]
      exact ⟨6, M1, N1, rfl, rfl, f1⟩
  have e43 : N 13 (2 * d + s) = 0 → ∀ x, fX11_checkSignature_43 (nI k) x N = some (6, N) := by
    intro hky x
    unfold fX11_checkSignature_43
    rw [cN (show k < 2 ^ 31 by omega)]
    simp only [grd_n hk (show 7 < 2 ^ 31 by omega)]
    rw [s1, s3, ix2, grd_n (by omega) (by omega), cN (show 2 * d + s < 2 ^ 31 by omega), if_pos hky]
  have e43' : fX11_checkSignature_43 (nI k) 1 N = some (6, N) := by
    by_cases hky : N 13 (2 * d + s) = 0
    · exact e43 hky 1
    · unfold fX11_checkSignature_43
      rw [cN (show k < 2 ^ 31 by omega)]
      simp only [grd_n hk (show 7 < 2 ^ 31 by omega)]
      rw [s1, s3, ix2, grd_n (by omega) (by omega), cN (show 2 * d + s < 2 ^ 31 by omega), if_neg hky, if_neg (by decide)]
  have eM : fX10_checkSignature k M = (if N 3 d = 0 then (if N 13 (2 * d + s) = 0 then (some ((6 : Int32), M)) else (if N 27 k = (-1 : Int32) then (fX10_checkSignature_55 k (N 13 (2 * d + s)) M) else (if nI t < N 27 k then (fX10_checkSignature_55 k (N 13 (2 * d + s)) M) else (some ((6 : Int32), M))))) else (some ((5 : Int32), M))) := by
    unfold fX10_checkSignature
    rw [s0, s1, grd_n (by omega) (by omega), cN (show d < 2 ^ 31 by omega), eq.1, s2, s3, grd_n (by omega) (by omega), cN (show s < 2 ^ 31 by omega), nm_x, ek.1, s9, t1]
  have eN : fX11_checkSignature (nI k) N = (if N 3 d = 0 then (if N 27 k < 0 then (fX11_checkSignature_43 (nI k) 0 N) else (if nI t < N 27 k then (fX11_checkSignature_43 (nI k) 0 N) else (fX11_checkSignature_43 (nI k) 1 N))) else (some ((5 : Int32), N))) := by
    unfold fX11_checkSignature fX11_checkSignature_42
    rw [cN (show k < 2 ^ 31 by omega)]
    simp only [grd_n hk (show 7 < 2 ^ 31 by omega)]
    rw [s1, grd_n (by omega) (by omega), cN (show d < 2 ^ 31 by omega), t2]
  rw [eM, eN]
  by_cases hq0 : N 3 d = 0
  · rw [if_pos hq0, if_pos hq0]
    by_cases hky : N 13 (2 * d + s) = 0
    · rw [if_pos hky, e43 hky 0, e43 hky 1]
      refine ⟨6, M, N, rfl, ?_, FX.rf.w⟩
      simp only [ite_self]
    · rw [if_neg hky]
      rcases s10 with s10 | ⟨e, he, s10⟩
      · rw [s10, if_pos rfl, if_pos (by decide)]
        exact rest hky
      · rw [s10, if_neg (fun (z : nI e = -1) => nI_pos he (z ▸ (by decide))), if_neg (nI_pos he)]
        by_cases hte : nI t < nI e
        · rw [if_pos hte, if_pos hte]
          exact rest hky
        · rw [if_neg hte, if_neg hte, e43']
          exact ⟨6, M, N, rfl, rfl, FX.rf.w⟩
  · rw [if_neg hq0, if_neg hq0]
    exact ⟨5, M, N, rfl, rfl, FX.rf.w⟩
theorem op13 : Op13 := by
  intro k M N hk hR a1
  obtain ⟨D, hD, hL, hC, hRr, hT⟩ := id hR
  obtain ⟨hw, hh, hb, ⟨g, hg, e1, e2, e3, e4⟩, hl⟩ := id hL
  rcases i_cases a1 (n := g) (by omega) with ⟨y, hy, rfl⟩ | hx
  · have hm : N 0 19 ≠ 0 := fun q => by have := e3 q; omega
    obtain ⟨r, M', N', c1, c2, f⟩ := check_eq hD hL hT (by omega) (show y < 7 by omega) (e4 y hy)
    refine ⟨r, M', N', ?_, ?_, f.rel hR⟩
    · unfold fX10_signature fX10_isSignature
      rw [e1, within_N hy (by omega), bn1_e, grd_z1, bn1_e, if_neg (by decide), grd_n (by omega) (by omega), cN (by omega), c1, bn2_e]
    · unfold fX11_signature
      rw [if_neg hm, if_neg (nI_pos (by omega)), e2, if_pos (nI_lt hy (by omega)), c2, bn2_e]
  · refine ⟨-1, M, N, ?_, ?_, hR.up⟩
    · unfold fX10_signature fX10_isSignature
      rw [e1, within_N' (hx.elim Or.inl (fun q => Or.inr q.2)) (by omega), bn1_e, grd_z0, bn1_e, if_pos rfl]
    · unfold fX11_signature
      by_cases hm : N 0 19 = 0
      · rw [if_pos hm]
      · rw [if_neg hm]
        rcases hx with hx | ⟨h0, hx⟩
        · rw [if_pos hx]
        · rw [if_neg h0, e2, if_neg (by rw [Int32.not_lt]; exact hx)]
/-! the chain -/
theorem cv_loop {a key : Int32} {M : Mm} {i : Nat} (hi : i ≤ 4) : ∀ (n j : Nat) (h : Int64) (N : Mm), i < j + n → j ≤ i → (∀ q, q < i → M (271 + q) 2 = N 31 q) → rdL N 0 43 = h → ∃ r N', fX4_coverFor_70 (nI i) key M n h (nI j) = some r ∧ fX11_coverOf_75 (nI i) n (nI j) N = some (r, N') ∧ FX N N' := by
  intro n
  induction n with
  | zero => intro j h N h1 h2; omega
  | succ n ih =>
    intro j h N h1 h2 hv hr
    rw [fX4_coverFor_70, fX11_coverOf_75]
    by_cases hj : j = i
    · subst hj
      rw [if_pos (nI_le (Nat.le_refl _) (by omega)), if_pos (nI_le (Nat.le_refl _) (by omega)), dig_M, bn1_e, dig_N, bn1_e, hr]
      exact ⟨_, N, rfl, rfl, FX.rf⟩
    · rw [if_neg (nI_ge (by omega) (by omega)), if_neg (nI_ge (by omega) (by omega)), grd_n (show j < 4 by omega) (by omega), grd_n (show j < 4 by omega) (by omega), cN (by omega), hv j (by omega), mix_M, bn1_e]
      obtain ⟨N1, m1, m2, f1⟩ := mix_N N (N 31 j)
      obtain ⟨r, N', e1, e2, f2⟩ := ih (j + 1) (mx h (N 31 j)) N1 (by omega) (by omega) (fun q hq => by rw [f1.1 31 (by omega)]; exact hv q hq) (by rw [m2, hr])
      rw [m1, bn1_e, nI_1]
      exact ⟨r, N', e1, e2, f1.tr f2⟩
theorem cover_eq {D i : Nat} {key : Int32} {M N : Mm} (hD : D ≤ 20) (hi : i < 4) (hd0 : M (263 + (3 + i)) 0 = N 22 (3 + i)) (hd1 : isN D (N 22 (3 + i))) (hs0 : M (263 + (3 + i)) 1 = N 23 (3 + i)) (hs1 : isN 2 (N 23 (3 + i))) (hst : M (271 + i) 1 = N 30 i) (hse : M (263 + (3 + i)) 7 = N 29 (3 + i)) (hv : ∀ q, q < i → M (271 + q) 2 = N 31 q) (hkey : ∀ d s, d < 20 → s < 2 → N 22 (3 + i) = nI d → N 23 (3 + i) = nI s → N 13 (2 * d + s) = key) : ∃ r N', fX4_coverFor (nI i) key M = some r ∧ fX11_coverOf (nI i) N = some (r, N') ∧ FX N N' := by
  obtain ⟨d, hd, s1⟩ := hd1
  obtain ⟨s, hs, s3⟩ := hs1
  have hky := hkey d s (by omega) hs s1 s3
  obtain ⟨N1, a1, b1, f1⟩ := mix_N (wrL N 0 43 0) key
  obtain ⟨N2, a2, b2, f2⟩ := mix_N N1 (N 22 (3 + i))
  obtain ⟨N3, a3, b3, f3⟩ := mix_N N2 (N 23 (3 + i))
  obtain ⟨N4, a4, b4, f4⟩ := mix_N N3 (N 30 i)
  obtain ⟨N5, a5, b5, f5⟩ := mix_N N4 (N 29 (3 + i))
  have g0 := fx_wr N 0
  have g1 := g0.tr f1
  have g2 := g1.tr f2
  have g3 := g2.tr f3
  have g4 := g3.tr f4
  have g5 := g4.tr f5
  have hr5 : rdL N5 0 43 = mx (mx (mx (mx (mx 0 key) (N 22 (3 + i))) (N 23 (3 + i))) (N 30 i)) (N 29 (3 + i)) := by
    rw [b5, b4, b3, b2, b1, rd_wr]
  obtain ⟨r, N', e1, e2, fe⟩ := cv_loop (a := 0) (key := key) (M := M) (show i ≤ 4 by omega) FU 0 _ N5 (show i < 0 + 300 by omega) (by omega) (fun q hq => by rw [g5.1 31 (by omega)]; exact hv q hq) hr5
  refine ⟨r, N', ?_, ?_, g5.tr fe⟩
  · unfold fX4_coverFor
    rw [grd_n hi (by omega), cN (by omega), mix_M, bn1_e, hd0, mix_M, bn1_e, hs0, mix_M, bn1_e, hst, mix_M, bn1_e, hse, mix_M, bn1_e]
    exact e1
  · unfold fX11_coverOf
    rw [show (3 : Int32) = nI 3 from rfl, nI_add, nm_x, nm_x, cN (show 3 + i < 2 ^ 31 by omega), cN (show i < 2 ^ 31 by omega)]
    simp only [grd_n (show 3 + i < 7 by omega) (show 7 < 2 ^ 31 by omega), grd_n hi (show 4 < 2 ^ 31 by omega)]
    have w22 : wrL N 0 43 0 22 = N 22 := g0.1 22 (by omega)
    have w23 : wrL N 0 43 0 23 = N 23 := g0.1 23 (by omega)
    have w13 : wrL N 0 43 0 13 = N 13 := g0.1 13 (by omega)
    rw [w22, w23, w13, s1, s3, ix2, grd_n (by omega) (by omega), cN (show 2 * d + s < 2 ^ 31 by omega), hky, a1, bn1_e, g1.1 22 (by omega), a2, bn1_e, g2.1 23 (by omega), a3, bn1_e, g3.1 30 (by omega), a4, bn1_e, g4.1 29 (by omega), a5, bn1_e]
    exact e2
