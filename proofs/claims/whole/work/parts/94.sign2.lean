theorem how_out {x : Int32} (h : x < 0 ∨ (¬ x < 0 ∧ nI 8 ≤ x)) : fX10_isWithin (x >>> ((1 : Int32) &&& 31)) 0 3 = some 0 := by
  have e : (x >>> ((1 : Int32) &&& 31)).toInt = x.toInt >>> 1 := pk_shr x _ 1 (by decide)
  rw [Int.shiftRight_eq_div_pow] at e
  refine within_n ?_
  rcases h with h | ⟨-, h⟩
  · refine Or.inl (Int32.lt_iff_toInt_lt.mpr ?_)
    have t := Int32.lt_iff_toInt_lt.mp h
    rw [e]
    have t0 : x.toInt < 0 := t
    show x.toInt / ((2 ^ 1 : Nat) : Int) < 0
    omega
  · refine Or.inr (Int32.lt_iff_toInt_lt.mpr ?_)
    have t := Int32.le_iff_toInt_le.mp h
    have t0 : (8 : Int) ≤ x.toInt := t
    rw [e]
    show (3 : Int) < x.toInt / ((2 ^ 1 : Nat) : Int)
    omega
theorem ge_m1 {x : Int32} (h : ¬ x < -1) : x = -1 ∨ isN (2 ^ 31) x := by
  by_cases h0 : x < 0
  · refine Or.inl (Int32.toInt_inj.mp ?_)
    have t0 : x.toInt < 0 := Int32.lt_iff_toInt_lt.mp h0
    have t1 : ¬ x.toInt < -1 := fun q => h (Int32.lt_iff_toInt_lt.mpr q)
    show x.toInt = -1
    omega
  · obtain ⟨j, hj, e⟩ := nI_of h0
    exact Or.inr ⟨j, hj, e⟩
theorem op11 : Op11 := by
  intro k M N hk hR a1 a2 a3 a4 a5
  obtain ⟨D, hD, hL, hC, hRr, hT⟩ := id hR
  have hD20 := hD.1
  obtain ⟨w1, w2, w3⟩ := hL.1
  by_cases hm : N 0 19 = 0
  · refine ⟨-1, M, N, ?_, ?_, hR.up⟩
    · unfold fX10_sign
      rw [nm_x, nm_x, w1, if_pos hm]
    · unfold fX11_sign
      rw [if_pos hm]
  · rcases i_cases a2 (n := 8) (by omega) with ⟨u, hu, rfl⟩ | hx
    · obtain ⟨u1, u2, u3, u4⟩ := how_c hu
      have hw3 : fX10_isWithin (nI (u / 2)) 0 3 = some 1 := win_y (n := 3) (by omega) (by omega)
      rcases hasKey_c hD a1 (nI (u % 2)) with ⟨d, s, hd, hs, rfl, es, hky, hkm⟩ | ⟨hkm, hno⟩
      · obtain rfl : u % 2 = s := (nI_eq (by omega) (by omega)).mp es
        have eM : fX10_sign (nI d) (nI u) a3 a4 a5 M = (bn1 (fX10_isWithin a3 (0 : Int32) (255 : Int32)) (fun v47 => if v47 = 0 then (some ((-1 : Int32), M)) else (if a4 < (-1 : Int32) then (some ((-1 : Int32), M)) else (bn1 (fX10_isWithin a5 (-1 : Int32) (100000 : Int32)) (fun v64 => if v64 = 0 then (some ((-1 : Int32), M)) else (if (nI (u / 2) &&& (2 : Int32)) = 0 then (fX10_sign_90 (nI d) (nI u) a3 a4 a5 (nI (u % 2)) (nI (u / 2)) (0 : Int32) a4 M) else (fX10_sign_90 (nI d) (nI u) a3 a4 a5 (nI (u % 2)) (nI (u / 2)) (1 : Int32) a4 M))))))) := by
          unfold fX10_sign
          rw [nm_x, nm_x, u1, u2, w1, if_neg hm, hw3, bn1_e, if_neg (by decide), hkm, bn1_e, if_neg (by decide)]
        have eN : fX11_sign (nI d) (nI u) a3 a4 a5 N = (if a3 < 0 then (some ((-1 : Int32), N)) else (if (255 : Int32) < a3 then (some ((-1 : Int32), N)) else (if a4 < (-1 : Int32) then (some ((-1 : Int32), N)) else (if a5 < (-1 : Int32) then (some ((-1 : Int32), N)) else (if (100000 : Int32) < a5 then (some ((-1 : Int32), N)) else (bn2 (fX11_bodyLength (nI (u / 2)) N) (fun v82 M82 => if a4 ≤ v82 then (if (M82 0 29) = (3 : Int32) then (some ((-2 : Int32), M82)) else (if 0 ≤ a5 then (fX11_sign_131 (nI d) (nI u) a3 a4 a5 ((M82 0 18) + a5) a4 a3 (nI (u / 2)) (nI (u % 2)) (nI d) (M82 0 29) M82) else (fX11_sign_131 (nI d) (nI u) a3 a4 a5 (-1 : Int32) a4 a3 (nI (u / 2)) (nI (u % 2)) (nI d) (M82 0 29) M82))) else (some ((-1 : Int32), M82))))))))) := by
          unfold fX11_sign
          rw [if_neg hm, (dom_y hD hd).2, bn1_e, if_neg (by decide), if_neg (nI_pos (by omega)), if_neg (show ¬ (7 : Int32) < nI u from nI_nlt (a := 7) (by omega) (by omega)), u3, ix2, grd_n (by omega) (by omega), cN (by omega), if_neg hky, u4, nm_x]
        rw [eM, eN]
        rcases i_cases a3 (n := 256) (by omega) with ⟨y, hy, rfl⟩ | hx
        · rw [show fX10_isWithin (nI y) (0 : Int32) (255 : Int32) = some 1 from win_y (n := 255) (by omega) (by omega), bn1_e, if_neg (by decide), if_neg (nI_pos (by omega)), if_neg (show ¬ (255 : Int32) < nI y from nI_nlt (a := 255) (by omega) (by omega))]
          by_cases h4 : a4 < -1
          · rw [if_pos h4, if_pos h4]
            exact ⟨-1, M, N, rfl, rfl, hR.up⟩
          · rw [if_neg h4, if_neg h4]
            by_cases h5 : a5 < -1
            · rw [within_n (Or.inl h5), bn1_e, if_pos rfl, if_pos h5]
              exact ⟨-1, M, N, rfl, rfl, hR.up⟩
            · by_cases h6 : (100000 : Int32) < a5
              · rw [within_n (Or.inr h6), bn1_e, if_pos rfl, if_neg h5, if_pos h6]
                exact ⟨-1, M, N, rfl, rfl, hR.up⟩
              · rw [within_y (Int32.not_lt.mp h5) (Int32.not_lt.mp h6), bn1_e, if_neg (by decide), if_neg h5, if_neg h6]
                refine sign_key (q := 0) hk ⟨hD, hL, hC, hRr, hT⟩ hR hm hd hs (by omega) (ge_m1 h4) ?_
                rcases ge_m1 h5 with q | ⟨j, hj, rfl⟩
                · exact Or.inl q
                · refine Or.inr ⟨j, ?_, rfl⟩
                  by_cases hj2 : j < 100001
                  · exact hj2
                  · exact absurd (show (100000 : Int32) < nI j from nI_lt (a := 100000) (by omega) hj) h6
        · refine ⟨-1, M, N, ?_, ?_, hR.up⟩
          · rcases hx with hx | ⟨h0, hx⟩
            · rw [win_l hx, bn1_e, if_pos rfl]
            · rw [show fX10_isWithin a3 (0 : Int32) (255 : Int32) = some 0 from win_g (n := 255) (by omega) h0 hx, bn1_e, if_pos rfl]
          · rcases hx with hx | ⟨h0, hx⟩
            · rw [if_pos hx]
            · rw [if_neg h0, if_pos (show (255 : Int32) < a3 from gt_of (n := 255) (by omega) h0 hx)]
      · refine ⟨-1, M, N, ?_, ?_, hR.up⟩
        · unfold fX10_sign
          rw [nm_x, nm_x, u1, u2, w1, if_neg hm, hw3, bn1_e, if_neg (by decide), hkm, bn1_e, if_pos rfl]
        · unfold fX11_sign
          rw [if_neg hm]
          rcases hno with ⟨d, s, hd, hs, rfl, es, hky⟩ | ⟨d, hd, rfl, hx⟩ | hx
          · obtain rfl : u % 2 = s := (nI_eq (by omega) (by omega)).mp es
            rw [(dom_y hD hd).2, bn1_e, if_neg (by decide), if_neg (nI_pos (by omega)), if_neg (show ¬ (7 : Int32) < nI u from nI_nlt (a := 7) (by omega) (by omega)), u3, ix2, grd_n (by omega) (by omega), cN (by omega), if_pos hky]
          · exfalso
            rcases hx with hx | ⟨-, hx⟩
            · exact nI_pos (by omega) hx
            · exact nI_ge (b := 2) (by omega) (by omega) hx
          · rw [(dom_n hD hx).2, bn1_e, if_pos rfl]
    · refine ⟨-1, M, N, ?_, ?_, hR.up⟩
      · unfold fX10_sign
        rw [nm_x, nm_x, w1, if_neg hm, how_out hx, bn1_e, if_pos rfl]
      · unfold fX11_sign
        rw [if_neg hm]
        rcases i_cases a1 (n := D) (by omega) with ⟨d, hd, rfl⟩ | hy
        · rw [(dom_y hD hd).2, bn1_e, if_neg (by decide)]
          rcases hx with hx | ⟨h0, hx⟩
          · rw [if_pos hx]
          · rw [if_neg h0, if_pos (show (7 : Int32) < a2 from gt_of (n := 7) (by omega) h0 hx)]
        · rw [(dom_n hD hy).2, bn1_e, if_pos rfl]
/-! link -/
theorem link_R {k D q : Nat} {M N M1 N1 Nc : Mm} {st cv : Int32} (hA : RA D k M N) (hq : q < 4) (hX : LX D q M N) (hm : N 0 19 ≠ 0) (hS : RSg D (3 + q) M1 N1) (f : FK (3 + q) M N M1 N1) (fx : FX (up2 N1 30 q st) Nc) : Rel (k + 1) (up2 (up2 (up2 M1 (271 + q) 1 st) (271 + q) 2 cv) 243 12 (nI (q + 1))) (up2 (up2 Nc 31 q cv) 0 38 (nI (q + 1))) := by
  obtain ⟨hD, hL, hC, hR, hT⟩ := hA
  obtain ⟨hw, hh, hb, hs, -⟩ := hL
  have mm : ∀ t, t ≠ 246 + 7 → t ≠ 254 + 7 → t ≠ 263 + (3 + q) → t ≠ 243 → t ≠ 271 + q → up2 (up2 (up2 M1 (271 + q) 1 st) (271 + q) 2 cv) 243 12 (nI (q + 1)) t = M t := fun t a b c d e => by rw [up2_o d, up2_o e, up2_o e, f.1 t a b c]
  have m243 : ∀ j, j ≠ 12 → up2 (up2 (up2 M1 (271 + q) 1 st) (271 + q) 2 cv) 243 12 (nI (q + 1)) 243 j = M 243 j := fun j h => by rw [up2_k h, up2_t (by omega), up2_t (by omega), f.1 243 (by omega) (by omega) (by omega)]
  have nn : ∀ t, t ≠ 0 → t ≠ 32 → t < 22 ∨ 29 < t → t ≠ 30 → t ≠ 31 → up2 (up2 Nc 31 q cv) 0 38 (nI (q + 1)) t = N t := fun t a b c d e => by rw [up2_o a, up2_o e, fx.1 t a, up2_o d, f.2.1 t a b c]
  have n0 : ∀ j, j ≠ 41 → j ≠ 43 → j ≠ 1043 → j ≠ 38 → up2 (up2 Nc 31 q cv) 0 38 (nI (q + 1)) 0 j = N 0 j := fun j a b c d => by rw [up2_k d, up2_t (by omega), fx.2 j b c, up2_t (by omega), f.2.2.2 j a b c]
  have nS : ∀ t, 22 ≤ t → t < 30 → up2 (up2 Nc 31 q cv) 0 38 (nI (q + 1)) t = N1 t := fun t a b => by rw [up2_o (by omega), up2_o (by omega), fx.1 t (by omega), up2_o (by omega)]
  have mS : ∀ j, j < 7 → up2 (up2 (up2 M1 (271 + q) 1 st) (271 + q) 2 cv) 243 12 (nI (q + 1)) (263 + j) = M1 (263 + j) := fun j hj => by rw [up2_o (by omega), up2_o (by omega), up2_o (by omega)]
  refine Rel.ml hD ⟨?_, ?_, ?_, ?_, ?_⟩ hC hR hT (fun t ht => mm t (by omega) (by omega) (by omega) (by omega) (by omega)) (fun t ht => mm t (by omega) (by omega) (by omega) (by omega) (by omega)) (fun j hj => n0 j (by omega) (by omega) (by omega) (by omega)) (fun j hj hj2 => n0 j (by omega) (by omega) (by omega) (by omega)) (fun t a b => nn t (by omega) (by omega) (by omega) (by omega) (by omega)) (fun t ht => nn t (by omega) (by omega) (by omega) (by omega) (by omega))
  · unfold RLw at *
    rw [m243 0 (by omega), m243 1 (by omega), m243 2 (by omega), m243 3 (by omega), n0 19 (by omega) (by omega) (by omega) (by omega), n0 20 (by omega) (by omega) (by omega) (by omega), n0 21 (by omega) (by omega) (by omega) (by omega), n0 22 (by omega) (by omega) (by omega) (by omega)]
    exact hw
  · obtain ⟨h, h6, f1, f2, f3, f4⟩ := hh
    refine ⟨h, h6, by rw [m243 6 (by omega)]; exact f1, by rw [n0 23 (by omega) (by omega) (by omega) (by omega)]; exact f2, by rw [n0 19 (by omega) (by omega) (by omega) (by omega)]; exact f3, fun i hi => ?_⟩
    rw [mm 244 (by omega) (by omega) (by omega) (by omega) (by omega), mm (246 + i) (by omega) (by omega) (by omega) (by omega) (by omega), mm (254 + i) (by omega) (by omega) (by omega) (by omega) (by omega), nn 18 (by omega) (by omega) (by omega) (by omega) (by omega), nn 19 (by omega) (by omega) (by omega) (by omega) (by omega), nn 20 (by omega) (by omega) (by omega) (by omega) (by omega)]
    exact f4 i hi
  · obtain ⟨z, hz, f1, f2, f3⟩ := hb
    refine ⟨z, hz, by rw [mm _ (by omega) (by omega) (by omega) (by omega) (by omega)]; exact f1, by rw [n0 27 (by omega) (by omega) (by omega) (by omega)]; exact f2, fun j hj => ?_⟩
    rw [mm _ (by omega) (by omega) (by omega) (by omega) (by omega), nn 21 (by omega) (by omega) (by omega) (by omega) (by omega)]
    exact f3 j hj
  · obtain ⟨g, hg, f1, f2, f3, f4⟩ := hs
    refine ⟨g, hg, by rw [m243 10 (by omega)]; exact f1, by rw [n0 29 (by omega) (by omega) (by omega) (by omega)]; exact f2, by rw [n0 19 (by omega) (by omega) (by omega) (by omega)]; exact f3, fun i hi => ?_⟩
    exact ((f4 i hi).k (by omega) (by omega) (Nat.le_refl _) f).to (Nat.le_refl _) (mS i (by omega)) (fun t a b => by rw [nS t a b])
  · refine ⟨q + 1, by omega, up2_e, up2_e, fun z => ?_, fun i hi => ?_⟩
    · rw [n0 19 (by omega) (by omega) (by omega) (by omega)] at z
      exact absurd z hm
    · by_cases hiq : i = q
      · subst hiq
        refine ⟨hS.to (Nat.le_refl _) (mS _ (by omega)) (fun t a b => by rw [nS t a b]), ?_, ?_⟩
        · rw [up2_t (by omega), up2_k (by omega), up2_e, up2_t (by omega), up2_t (by omega), fx.1 30 (by omega), up2_e]
        · rw [up2_t (by omega), up2_e, up2_t (by omega), up2_e]
      · obtain ⟨l1, l2, l3⟩ := hX.2.2 i (by omega)
        refine ⟨(l1.k (by omega) (by omega) (Nat.le_refl _) f).to (Nat.le_refl _) (mS _ (by omega)) (fun t a b => by rw [nS t a b]), ?_, ?_⟩
        · rw [mm (271 + i) (by omega) (by omega) (by omega) (by omega) (by omega), up2_t (by omega), up2_t (by omega), fx.1 30 (by omega), up2_k hiq, f.2.1 30 (by omega) (by omega) (by omega)]
          exact l2
        · rw [mm (271 + i) (by omega) (by omega) (by omega) (by omega) (by omega), up2_t (by omega), up2_k hiq, fx.1 31 (by omega), up2_t (by omega), f.2.1 31 (by omega) (by omega) (by omega)]
          exact l3
theorem op17 : Op17 := by
  intro k M N hk hR a1 a2
  obtain ⟨D, hD, hL, hC, hRr, hT⟩ := id hR
  have hD20 := hD.1
  obtain ⟨w1, w2, w3⟩ := hL.1
  by_cases hm : N 0 19 = 0
  · refine ⟨-1, M, N, ?_, ?_, hR.up⟩
    · unfold fX10_link
      rw [w1, if_pos hm]
    · unfold fX11_link
      rw [if_pos hm]
  · rcases hasKey_c hD a1 a2 with ⟨d, s, hd, hs, rfl, rfl, hky, hkm⟩ | ⟨hkm, hno⟩
    · obtain ⟨st, M1, N1, c1, c2, f, hst⟩ := chain_eq (p := k) (by omega) ⟨hD, hL, hC, hRr, hT⟩
      have hA1 : RA D k M1 N1 := RA.w ⟨hD, hL, hC, hRr, hT⟩ f
      have hR1 := f.rel hR
      have hm1 : N1 0 19 ≠ 0 := by rw [f.2.2 19 (by omega) (by omega) (by omega)]; exact hm
      obtain ⟨q, hq, x1, x2, x3, x4⟩ := hA1.2.1.2.2.2.2
      have eM : fX10_link (nI d) (nI s) M = (if st = (2 : Int32) then (some ((-1 : Int32), M1)) else (bn2 (fX4_appendLink (nI d) (nI s) st (N1 13 (2 * d + s)) M1) (fun v51 M51 => some (v51, M51)))) := by
        unfold fX10_link
        rw [w1, if_neg hm, hkm, bn1_e, if_neg (by decide), c1, bn2_e, grd_n (by omega) (by omega), grd_n (by omega) (by omega), cN (by omega), cN (by omega), (hA1.1.2.2.2.2.2.2.2.2.1 d (by omega) s hs).1]
      have eN : fX11_link (nI d) (nI s) N = (if st = (2 : Int32) then (some ((-1 : Int32), N1)) else (if (N1 0 38) = (4 : Int32) then (some ((-2 : Int32), N1)) else (bn1 (fX11_make ((3 : Int32) + (N1 0 38)) (nI d) (nI s) (3 : Int32) (255 : Int32) (-1 : Int32) (-1 : Int32) N1) (fun M77 => grd (gin (M77 0 38) 4) (nm (up2 M77 30 (M77 0 38).toNatClampNeg st) (fun M89 => bn2 (fX11_coverOf (M89 0 38) M89) (fun v103 M103 => grd (gin (M89 0 38) 4) (nm (up2 M103 31 (M89 0 38).toNatClampNeg v103) (fun M106 => nm (up2 M106 0 38 ((M106 0 38) + (1 : Int32))) (fun M114 => some (((M114 0 38) - (1 : Int32)), M114))))))))))) := by
        unfold fX11_link
        rw [if_neg hm, (dom_y hD hd).2, bn1_e, if_neg (by decide), if_neg (nI_pos (by omega)), if_neg (show ¬ (1 : Int32) < nI s from nI_nlt (a := 1) (by omega) (by omega)), ix2, grd_n (by omega) (by omega), cN (by omega), if_neg hky, c2, bn2_e]
      rw [eM, eN]
      by_cases h2 : st = 2
      · rw [if_pos h2, if_pos h2]
        exact ⟨-1, M1, N1, rfl, rfl, hR1⟩
      · rw [if_neg h2, if_neg h2, x2]
        unfold fX4_appendLink
        rw [x1]
        by_cases h4 : q = 4
        · subst h4
          rw [if_neg (by decide), bn2_e, if_pos (by decide)]
          exact ⟨-2, M1, N1, rfl, rfl, hR1⟩
        · obtain ⟨z1, hz1, hB1⟩ := hA1.2.1.bs
          obtain ⟨hc1, hc16, hX1⟩ := hA1.2.1.hx
          obtain ⟨Mf, M2, N2, p1, p2, p3, p4, p5, p6, p7, p8⟩ := make_eq (w := 3) (nm := 255) (lim := -1) (ex := -1) (key := N1 13 (2 * d + s)) (show 3 + q < 7 by omega) hD20 hz1 hB1 hc16 hX1 hd hs (by omega) (Or.inl rfl) (Or.inl rfl) rfl
          have y1 : M2 243 12 = nI q := by rw [p6.1 243 (by omega) (by omega) (by omega)]; exact x1
          have y2 : N2 0 38 = nI q := by rw [p6.2.2.2 38 (by omega) (by omega) (by omega)]; exact x2
          obtain ⟨s0, s1, s2, s3, s4, s5, s6, s7, s8, s9, s10, s11, s12⟩ := id p5
          obtain ⟨cv, Nc, v1, v2, fx⟩ := cover_eq (D := D) (i := q) (key := N1 13 (2 * d + s)) (M := up2 M2 (271 + q) 1 st) (N := up2 N2 30 q st) hD20 (by omega)
            (by rw [up2_t (by omega), up2_t (by omega)]; exact s0) (by rw [up2_t (by omega)]; exact s1) (by rw [up2_t (by omega), up2_t (by omega)]; exact s2) (by rw [up2_t (by omega)]; exact s3) (by rw [up2_e, up2_e]) (by rw [up2_t (by omega), up2_t (by omega)]; exact s12)
            (fun j hj => by
              rw [up2_t (by omega), up2_t (by omega), p6.1 (271 + j) (by omega) (by omega) (by omega), p6.2.1 31 (by omega) (by omega) (by omega)]
              exact (x4 j hj).2.2)
            (fun d' s' h1 h2 h3 h4 => by
              rw [up2_t (by omega), p7] at h3
              rw [up2_t (by omega), p8] at h4
              have i1 := (nI_eq (by omega) (by omega)).mp h3
              have i2 := (nI_eq (by omega) (by omega)).mp h4
              subst i1
              subst i2
              rw [up2_t (by omega), p6.2.1 13 (by omega) (by omega) (by omega)])
          have z1' : up2 M2 (271 + q) 1 st 243 12 = nI q := by rw [up2_t (by omega)]; exact y1
          have z2' : up2 N2 30 q st 0 38 = nI q := by rw [up2_t (by omega)]; exact y2
          have z3' : up2 (up2 M2 (271 + q) 1 st) (271 + q) 2 cv 243 12 = nI q := by rw [up2_t (by omega)]; exact z1'
          have z4' : up2 Nc 31 q cv 0 38 = nI q := by rw [up2_t (by omega), fx.2 38 (by omega) (by omega)]; exact z2'
          refine ⟨nI q, _, _, ?_, ?_, link_R (st := st) (cv := cv) hA1 (by omega) ⟨x1, x2, x4⟩ hm1 p5 p6 fx⟩
          · rw [if_pos (show nI q < (4 : Int32) from nI_lt (b := 4) (by omega) (by omega)), grd_n (show q < 4 by omega) (by omega), cN (show q < 2 ^ 31 by omega)]
            have p1' : fX8_fill (3 + q) (nI d) (nI s) 3 255 (-1) (-1) M1 = some Mf := p1
            rw [p1', bn1_e, p3, bn1_e, nm_x, z1', v1, bn1_e, nm_x, nm_x, z3', nI_1, up2_e, nI_pred, bn2_e]
          · have p4' : fX11_make (nI (3 + q)) (nI d) (nI s) 3 255 (-1) (-1) N1 = some N2 := p4
            rw [if_neg (show ¬ nI q = (4 : Int32) from fun z => by have := (nI_eq (a := q) (b := 4) (by omega) (by omega)).mp z; omega), show (3 : Int32) + nI q = nI (3 + q) by rw [show (3 : Int32) = nI 3 from rfl, nI_add], p4', bn1_e, y2, grd_n (show q < 4 by omega) (by omega), cN (show q < 2 ^ 31 by omega), nm_x, z2', v2, bn2_e, grd_n (show q < 4 by omega) (by omega), cN (show q < 2 ^ 31 by omega), nm_x, nm_x, z4', nI_1, up2_e, nI_pred]
    · refine ⟨-1, M, N, ?_, ?_, hR.up⟩
      · unfold fX10_link
        rw [w1, if_neg hm, hkm, bn1_e, if_pos rfl]
      · unfold fX11_link
        rw [if_neg hm]
        rcases hno with ⟨d, s, hd, hs, rfl, rfl, hky⟩ | ⟨d, hd, rfl, hx⟩ | hx
        · rw [(dom_y hD hd).2, bn1_e, if_neg (by decide), if_neg (nI_pos (by omega)), if_neg (show ¬ (1 : Int32) < nI s from nI_nlt (a := 1) (by omega) (by omega)), ix2, grd_n (by omega) (by omega), cN (by omega), if_pos hky]
        · rw [(dom_y hD hd).2, bn1_e, if_neg (by decide)]
          rcases hx with hx | ⟨h0, hx⟩
          · rw [if_pos hx]
          · rw [if_neg h0, if_pos (show (1 : Int32) < a2 from gt_of (n := 1) (by omega) h0 hx)]
        · rw [(dom_n hD hx).2, bn1_e, if_pos rfl]
