/-! mail, header, spoil -/
/-- only the mail has changed -/
theorem Rel.ml {k D : Nat} {M N M' N' : Mm} (hD : RD D M N) (hL : RMl D M' N') (hC : RC M N) (hR : RR M N) (hT : RT k M N) (h1 : ∀ t, t < 243 → M' t = M t) (h2 : ∀ t, 275 ≤ t → M' t = M t) (h3 : ∀ j, j < 19 → N' 0 j = N 0 j) (h4 : ∀ j, 44 ≤ j → j < 1000 → N' 0 j = N 0 j) (h5 : ∀ t, 1 ≤ t → t < 18 → N' t = N t) (h6 : ∀ t, 35 ≤ t → N' t = N t) : Rel (k + 1) M' N' :=
  ⟨D, hD.to (by rw [h1 0 (by omega)]) (fun t _ b => h1 t b) (h3 0 (by omega)) h5, hL, hC.to (h2 275 (by omega)) (h4 44 (by omega) (by omega)) (h4 45 (by omega) (by omega)), hR.to (by rw [h1 0 (by omega)]) (fun t a _ => h2 t (by omega)) (h4 49 (by omega) (by omega)) (fun t a _ => h6 t a), hT.to (by rw [h1 0 (by omega)]) (h3 18 (by omega))⟩
def mlM (M : Mm) (a b c : Int32) : Mm := up2 (up2 (up2 (up2 (up2 (up2 (up2 (up2 M 243 1 a) 243 2 b) 243 3 c) 243 0 1) 243 6 0) (246 + 6) 1 0) 243 10 0) 243 12 0
def mlN (N : Mm) (a b c : Int32) : Mm := up2 (up2 (up2 (up2 (up2 (up2 (up2 (up2 N 0 19 1) 0 20 a) 0 21 b) 0 22 c) 0 23 0) 0 27 0) 0 29 0) 0 38 0
theorem op7 : Op7 := by
  intro k M N hk hR a1 a2 a3
  obtain ⟨D, hD, hL, hC, hRr, hT⟩ := id hR
  have hD20 := hD.1
  rcases i_cases a1 (n := D) (by omega) with ⟨d, hd, rfl⟩ | h
  · rcases i_cases a2 (n := D) (by omega) with ⟨e, he, rfl⟩ | h
    · refine ⟨1, mlM M (nI d) (nI e) a3, mlN N (nI d) (nI e) a3, ?_, ?_, Rel.ml hD ⟨⟨?_, ?_, ?_⟩, ?_, ?_, ?_, ?_⟩ hC hRr hT ?_ ?_ ?_ ?_ ?_ ?_⟩
      · unfold fX10_mail fX4_begin
        rw [(dom_y hD hd).1, bn1_e, if_neg (by decide), (dom_y hD he).1, bn1_e, if_neg (by decide)]
        rfl
      · unfold fX11_mail
        rw [(dom_y hD hd).2, bn1_e, if_neg (by decide), (dom_y hD he).2, bn1_e, if_neg (by decide)]
        rfl
      · simp [mlM, mlN, up2_if]
      · exact Or.inr (by simp [mlN, up2_if])
      · intro _
        refine ⟨⟨d, hd, by simp [mlN, up2_if]⟩, ⟨e, he, by simp [mlN, up2_if]⟩, ?_, ?_, ?_⟩
        · simp [mlM, mlN, up2_if]
        · simp [mlM, mlN, up2_if]
        · simp [mlM, mlN, up2_if]
      · exact ⟨0, by omega, by simp [mlM, up2_if, nI_0], by simp [mlN, up2_if, nI_0], fun _ => rfl, fun i hi => by omega⟩
      · exact ⟨0, by omega, by simp [mlM, up2_if, nI_0], by simp [mlN, up2_if, nI_0], fun i hi => by omega⟩
      · exact ⟨0, by omega, by simp [mlM, up2_if, nI_0], by simp [mlN, up2_if, nI_0], fun _ => rfl, fun i hi => by omega⟩
      · exact ⟨0, by omega, by simp [mlM, up2_if, nI_0], by simp [mlN, up2_if, nI_0], fun _ => rfl, fun i hi => by omega⟩
      · intro t ht
        unfold mlM
        rw [up2_o (by omega), up2_o (by omega), up2_o (by omega), up2_o (by omega), up2_o (by omega), up2_o (by omega), up2_o (by omega), up2_o (by omega)]
      · intro t ht
        unfold mlM
        rw [up2_o (by omega), up2_o (by omega), up2_o (by omega), up2_o (by omega), up2_o (by omega), up2_o (by omega), up2_o (by omega), up2_o (by omega)]
      · intro j hj
        unfold mlN
        rw [up2_k (by omega), up2_k (by omega), up2_k (by omega), up2_k (by omega), up2_k (by omega), up2_k (by omega), up2_k (by omega), up2_k (by omega)]
      · intro j hj _
        unfold mlN
        rw [up2_k (by omega), up2_k (by omega), up2_k (by omega), up2_k (by omega), up2_k (by omega), up2_k (by omega), up2_k (by omega), up2_k (by omega)]
      · intro t ht _
        unfold mlN
        rw [up2_o (by omega), up2_o (by omega), up2_o (by omega), up2_o (by omega), up2_o (by omega), up2_o (by omega), up2_o (by omega), up2_o (by omega)]
      · intro t ht
        unfold mlN
        rw [up2_o (by omega), up2_o (by omega), up2_o (by omega), up2_o (by omega), up2_o (by omega), up2_o (by omega), up2_o (by omega), up2_o (by omega)]
    · refine ⟨0, M, N, ?_, ?_, hR.up⟩
      · unfold fX10_mail
        rw [(dom_y hD hd).1, bn1_e, if_neg (by decide), (dom_n hD h).1, bn1_e, if_pos rfl]
      · unfold fX11_mail
        rw [(dom_y hD hd).2, bn1_e, if_neg (by decide), (dom_n hD h).2, bn1_e, if_pos rfl]
  · refine ⟨0, M, N, ?_, ?_, hR.up⟩
    · unfold fX10_mail
      rw [(dom_n hD h).1, bn1_e, if_pos rfl]
    · unfold fX11_mail
      rw [(dom_n hD h).2, bn1_e, if_pos rfl]
theorem op8 : Op8 := by
  intro k M N hk hR a1
  obtain ⟨D, hD, hL, hC, hRr, hT⟩ := id hR
  obtain ⟨⟨w1, w2, w3⟩, ⟨h, hh, e1, e2, e3, e4⟩, hb, hs, hl⟩ := hL
  by_cases hm : N 0 19 = 0
  · refine ⟨-1, M, N, ?_, ?_, hR.up⟩
    · unfold fX10_header
      rw [w1, if_pos hm]
    · unfold fX11_header
      rw [if_pos hm]
  · rcases i_cases a1 (n := 8) (by omega) with ⟨y, hy, rfl⟩ | hx
    · by_cases h6 : h < 6
      · have a1 : up2 (up2 M 244 h (nI y)) (246 + h) 1 0 243 6 = nI h := by rw [up2_t (by omega), up2_t (by omega)]; exact e1
        have a2 : up2 (up2 N 18 h (nI y)) 19 h 0 0 23 = nI h := by rw [up2_t (by omega), up2_t (by omega)]; exact e2
        have r1 : up2 (up2 (up2 M 244 h (nI y)) (246 + h) 1 0) 243 6 (nI (h + 1)) 244 = upd (M 244) h (nI y) := by rw [up2_o (by omega), up2_o (by omega), up2_s]
        have r2 : up2 (up2 (up2 M 244 h (nI y)) (246 + h) 1 0) 243 6 (nI (h + 1)) (246 + h) 1 = 0 := by rw [up2_t (by omega), up2_e]
        have r3 : ∀ t, t ≠ 243 → t ≠ 244 → t ≠ 246 + h → up2 (up2 (up2 M 244 h (nI y)) (246 + h) 1 0) 243 6 (nI (h + 1)) t = M t := fun t h1 h2 h3 => by rw [up2_o h1, up2_o h3, up2_o h2]
        have s1 : up2 (up2 (up2 N 18 h (nI y)) 19 h 0) 0 23 (nI (h + 1)) 18 = upd (N 18) h (nI y) := by rw [up2_o (by omega), up2_o (by omega), up2_s]
        have s2 : up2 (up2 (up2 N 18 h (nI y)) 19 h 0) 0 23 (nI (h + 1)) 19 = upd (N 19) h 0 := by rw [up2_o (by omega), up2_s, up2_o (by omega)]
        have s3 : ∀ t, t ≠ 0 → t ≠ 18 → t ≠ 19 → up2 (up2 (up2 N 18 h (nI y)) 19 h 0) 0 23 (nI (h + 1)) t = N t := fun t h1 h2 h3 => by rw [up2_o h1, up2_o h3, up2_o h2]
        refine ⟨nI h, up2 (up2 (up2 M 244 h (nI y)) (246 + h) 1 0) 243 6 (nI (h + 1)), up2 (up2 (up2 N 18 h (nI y)) 19 h 0) 0 23 (nI (h + 1)), ?_, ?_, Rel.ml hD ⟨⟨?_, ?_, ?_⟩, ?_, ?_, ?_, ?_⟩ hC hRr hT ?_ ?_ ?_ ?_ ?_ ?_⟩
        · unfold fX10_header fX4_appendHeader
          rw [w1, if_neg hm, show (7 : Int32) = nI 7 from rfl, win_y (by omega) (by omega), bn1_e, if_neg (by decide), e1, show (6 : Int32) = nI 6 from rfl, if_pos (nI_lt h6 (by omega)), grd_n h6 (by omega), nm_x, cN (by omega), up2_t (by omega), e1, grd_n h6 (by omega), cN (by omega), nm_x, nm_x, a1, nI_1, up2_e, nI_pred, bn2_e]
        · unfold fX11_header
          rw [if_neg hm, if_neg (nI_pos (by omega)), show (7 : Int32) = nI 7 from rfl, if_pos (nI_le (by omega) (by omega)), e2, show (6 : Int32) = nI 6 from rfl, if_neg (fun q => by have := (nI_eq (by omega) (by omega)).mp q; omega), grd_n h6 (by omega), nm_x, cN (by omega), up2_t (by omega), e2, grd_n h6 (by omega), cN (by omega), nm_x, nm_x, a2, nI_1, up2_e, nI_pred]
        · rw [up2_k (by omega), up2_t (by omega), up2_t (by omega), up2_k (by omega), up2_t (by omega), up2_t (by omega)]
          exact w1
        · rw [up2_k (by omega), up2_t (by omega), up2_t (by omega)]
          exact w2
        · rw [up2_k (by omega), up2_t (by omega), up2_t (by omega), up2_k (by omega), up2_t (by omega), up2_t (by omega), up2_k (by omega), up2_t (by omega), up2_t (by omega), up2_k (by omega), up2_t (by omega), up2_t (by omega), up2_k (by omega), up2_t (by omega), up2_t (by omega), up2_k (by omega), up2_t (by omega), up2_t (by omega), up2_k (by omega), up2_t (by omega), up2_t (by omega)]
          exact w3
        · refine ⟨h + 1, by omega, up2_e, up2_e, fun q => ?_, fun i hi => ?_⟩
          · rw [up2_k (by omega), up2_t (by omega), up2_t (by omega)] at q
            exact absurd q hm
          · rw [r1, s1, s2, s3 20 (by omega) (by omega) (by omega), r3 (254 + i) (by omega) (by omega) (by omega)]
            by_cases hih : i = h
            · subst hih
              rw [upd_s, upd_s, upd_s, r2]
              exact ⟨rfl, ⟨y, hy, rfl⟩, 0, by omega, nI_0.symm, nI_0.symm, fun j hj => by omega⟩
            · rw [upd_n hih, upd_n hih, upd_n hih, r3 (246 + i) (by omega) (by omega) (by omega)]
              exact e4 i (by omega)
        · obtain ⟨z, hz, f1, f2, f3⟩ := hb
          refine ⟨z, hz, ?_, ?_, fun j hj => ?_⟩
          · rw [up2_t (by omega), up2_t (by omega), up2_t (by omega)]
            exact f1
          · rw [up2_k (by omega), up2_t (by omega), up2_t (by omega)]
            exact f2
          · rw [up2_t (by omega), up2_t (by omega), up2_t (by omega), up2_t (by omega), up2_t (by omega), up2_t (by omega)]
            exact f3 j hj
        · obtain ⟨g, hg, f1, f2, f3, f4⟩ := hs
          refine ⟨g, hg, ?_, ?_, ?_, fun i hi => (f4 i hi).to (Nat.le_refl _) ?_ ?_⟩
          · rw [up2_k (by omega), up2_t (by omega), up2_t (by omega)]
            exact f1
          · rw [up2_k (by omega), up2_t (by omega), up2_t (by omega)]
            exact f2
          · rw [up2_k (by omega), up2_t (by omega), up2_t (by omega)]
            exact f3
          · rw [up2_o (by omega), up2_o (by omega), up2_o (by omega)]
          · intro t _ _
            rw [up2_t (by omega), up2_t (by omega), up2_t (by omega)]
        · obtain ⟨g, hg, f1, f2, f3, f4⟩ := hl
          refine ⟨g, hg, ?_, ?_, ?_, fun i hi => ⟨(f4 i hi).1.to (Nat.le_refl _) ?_ ?_, ?_⟩⟩
          · rw [up2_k (by omega), up2_t (by omega), up2_t (by omega)]
            exact f1
          · rw [up2_k (by omega), up2_t (by omega), up2_t (by omega)]
            exact f2
          · rw [up2_k (by omega), up2_t (by omega), up2_t (by omega)]
            exact f3
          · rw [up2_o (by omega), up2_o (by omega), up2_o (by omega)]
          · intro t _ _
            rw [up2_t (by omega), up2_t (by omega), up2_t (by omega)]
          · rw [up2_t (by omega), up2_t (by omega), up2_t (by omega), up2_t (by omega), up2_t (by omega), up2_t (by omega), up2_t (by omega), up2_t (by omega), up2_t (by omega), up2_t (by omega), up2_t (by omega), up2_t (by omega)]
            exact (f4 i hi).2
        · exact fun t ht => by rw [up2_o (by omega), up2_o (by omega), up2_o (by omega)]
        · exact fun t ht => by rw [up2_o (by omega), up2_o (by omega), up2_o (by omega)]
        · exact fun j hj => by rw [up2_k (by omega), up2_t (by omega), up2_t (by omega)]
        · exact fun j hj _ => by rw [up2_k (by omega), up2_t (by omega), up2_t (by omega)]
        · exact fun t ht _ => by rw [up2_o (by omega), up2_o (by omega), up2_o (by omega)]
        · exact fun t ht => by rw [up2_o (by omega), up2_o (by omega), up2_o (by omega)]
      · obtain rfl : h = 6 := by omega
        refine ⟨-2, M, N, ?_, ?_, hR.up⟩
        · unfold fX10_header fX4_appendHeader
          rw [w1, if_neg hm, show (7 : Int32) = nI 7 from rfl, win_y (by omega) (by omega), bn1_e, if_neg (by decide), e1, if_neg (by decide), bn2_e]
        · unfold fX11_header
          rw [if_neg hm, if_neg (nI_pos (by omega)), show (7 : Int32) = nI 7 from rfl, if_pos (nI_le (by omega) (by omega)), e2, if_pos (by decide)]
    · refine ⟨-1, M, N, ?_, ?_, hR.up⟩
      · unfold fX10_header
        rw [w1, if_neg hm]
        rcases hx with hx | ⟨h0, hx⟩
        · rw [win_l hx, bn1_e, if_pos rfl]
        · rw [show (7 : Int32) = nI 7 from rfl, win_g (by omega) h0 hx, bn1_e, if_pos rfl]
      · unfold fX11_header
        rw [if_neg hm]
        rcases hx with hx | ⟨h0, hx⟩
        · rw [if_pos hx]
        · rw [if_neg h0, show (7 : Int32) = nI 7 from rfl, if_neg (by rw [Int32.not_le]; exact gt_of (by omega) h0 hx)]
theorem op12 : Op12 := by
  intro k M N hk hR a1 a2
  obtain ⟨D, hD, hL, hC, hRr, hT⟩ := id hR
  obtain ⟨hw, hh, hb, ⟨g, hg, e1, e2, e3, e4⟩, hl⟩ := id hL
  rcases i_cases a1 (n := g) (by omega) with ⟨y, hy, rfl⟩ | hx
  · have hm : N 0 19 ≠ 0 := fun q => by have := e3 q; omega
    have es : M (263 + y) 7 = N 29 y := (e4 y hy).2.2.2.2.2.2.2.2.2.2.2.2
    refine ⟨1, up2 M (263 + y) 7 (M (263 + y) 7 + a2), up2 N 29 y (N 29 y + a2), ?_, ?_, Rel.ml hD ⟨?_, ?_, ?_, ?_, ?_⟩ hC hRr hT ?_ ?_ ?_ ?_ ?_ ?_⟩
    · unfold fX10_spoil fX10_isSignature
      rw [e1, within_N hy (by omega), bn1_e, grd_z1, bn1_e, if_neg (by decide), grd_n (by omega) (by omega), cN (by omega), nm_x]
    · unfold fX11_spoil
      rw [if_neg hm, if_neg (nI_pos (by omega)), e2, if_pos (nI_lt hy (by omega)), grd_n (by omega) (by omega), grd_n (by omega) (by omega), cN (by omega), nm_x]
    · unfold RLw at *
      rw [up2_t (by omega), up2_t (by omega), up2_t (by omega), up2_t (by omega), up2_t (by omega), up2_t (by omega), up2_t (by omega), up2_t (by omega)]
      exact hw
    · obtain ⟨z, hz, f1, f2, f3, f4⟩ := hh
      refine ⟨z, hz, by rw [up2_t (by omega)]; exact f1, by rw [up2_t (by omega)]; exact f2, by rw [up2_t (by omega)]; exact f3, fun i hi => ?_⟩
      rw [up2_o (by omega), up2_o (by omega), up2_o (by omega), up2_o (by omega), up2_o (by omega), up2_o (by omega)]
      exact f4 i hi
    · obtain ⟨z, hz, f1, f2, f3⟩ := hb
      refine ⟨z, hz, by rw [up2_o (by omega)]; exact f1, by rw [up2_t (by omega)]; exact f2, fun i hi => ?_⟩
      rw [up2_o (by omega), up2_o (by omega)]
      exact f3 i hi
    · refine ⟨g, hg, by rw [up2_t (by omega)]; exact e1, by rw [up2_t (by omega)]; exact e2, by rw [up2_t (by omega)]; exact e3, fun i hi => ?_⟩
      by_cases hiy : i = y
      · subst hiy
        obtain ⟨s0, s1, s2, s3, s4, s5, s6, s7, s8, s9, s10, s11, s12⟩ := e4 i hi
        unfold RSg
        rw [up2_k (by omega), up2_k (by omega), up2_k (by omega), up2_k (by omega), up2_k (by omega), up2_k (by omega), up2_k (by omega), up2_e, up2_t (by omega), up2_t (by omega), up2_t (by omega), up2_t (by omega), up2_t (by omega), up2_t (by omega), up2_t (by omega), up2_e]
        exact ⟨s0, s1, s2, s3, s4, s5, s6, s7, s8, s9, s10, s11, by rw [s12]⟩
      · exact (e4 i hi).to (Nat.le_refl _) (up2_o (by omega)) (fun t _ _ => up2_or (Or.inr hiy))
    · obtain ⟨z, hz, f1, f2, f3, f4⟩ := hl
      refine ⟨z, hz, by rw [up2_t (by omega)]; exact f1, by rw [up2_t (by omega)]; exact f2, by rw [up2_t (by omega)]; exact f3, fun i hi => ⟨(f4 i hi).1.to (Nat.le_refl _) (up2_o (by omega)) (fun t _ _ => up2_or (Or.inr (by omega))), ?_⟩⟩
      rw [up2_o (by omega), up2_o (by omega), up2_o (by omega)]
      exact (f4 i hi).2
    · exact fun t ht => up2_o (by omega)
    · exact fun t ht => up2_o (by omega)
    · exact fun j hj => up2_t (by omega)
    · exact fun j hj _ => up2_t (by omega)
    · exact fun t ht _ => up2_o (by omega)
    · exact fun t ht => up2_o (by omega)
  · refine ⟨0, M, N, ?_, ?_, hR.up⟩
    · unfold fX10_spoil fX10_isSignature
      rw [e1, within_N' (hx.elim Or.inl (fun q => Or.inr q.2)) (by omega), bn1_e, grd_z0, bn1_e, if_pos rfl]
    · unfold fX11_spoil
      by_cases hm : N 0 19 = 0
      · rw [if_pos hm]
      · rw [if_neg hm]
        rcases hx with hx | ⟨h0, hx⟩
        · rw [if_pos hx]
        · rw [if_neg h0, e2, if_neg (by rw [Int32.not_lt]; exact hx)]
