/-! calls on domains -/
/-- only what domains publish has changed -/
theorem Rel.dom {k D E : Nat} {M N M' N' : Mm} (hE : D ≤ E) (hD : RD E M' N') (hL : RMl D M N) (hC : RC M N) (hR : RR M N) (hT : RT k M N) (h1 : ∀ t, 243 ≤ t → M' t = M t) (h2 : ∀ j, 6 ≤ j → M' 0 j = M 0 j) (h3 : ∀ t, 18 ≤ t → N' t = N t) (h4 : ∀ j, 18 ≤ j → N' 0 j = N 0 j) : Rel (k + 1) M' N' :=
  ⟨E, hD, hL.to hE (fun k _ => by rw [h1 243 (by omega)]) (fun t a _ _ _ => h1 t (by omega)) (fun j a _ => h4 j (by omega)) (fun t a _ => h3 t a), hC.to (h1 275 (by omega)) (h4 44 (by omega)) (h4 45 (by omega)), hR.to (h2 6 (by omega)) (fun t a _ => h1 t (by omega)) (h4 49 (by omega)) (fun t a _ => h3 t (by omega)), hT.to (h2 7 (by omega)) (h4 18 (by omega))⟩
theorem op2 : Op2 := by
  intro k M N hk hR a1 a2 hz
  obtain ⟨D, hD, hL, hC, hRr, hT⟩ := id hR
  rcases i_cases a1 (n := D) (by have := hD.1; omega) with ⟨d, hd, rfl⟩ | h
  · have hD20 := hD.1
    refine ⟨1, up2 M (2 + d) 2 a2, up2 N 3 d a2, ?_, ?_, ?_⟩
    · unfold fX10_silent
      rw [(dom_y hD hd).1, bn1_e, if_neg (by decide), grd_n (by omega) (by omega), grd_zB hz, nm_x, cN (by omega)]
    · unfold fX11_silent
      rw [(dom_y hD hd).2, bn1_e, if_neg (by decide), grd_n (by omega) (by omega), grd_zB hz, nm_x, cN (by omega)]
    · obtain ⟨a, b, c, m, q, hh, r, dd, kk, p⟩ := hD
      refine Rel.dom (Nat.le_refl _) ⟨a, by rw [up2_t (by omega)]; exact b, by rw [up2_t (by omega)]; exact c, m.to a ?_ ?_ ?_, ?_, hh.to (Nat.le_refl _) ?_ ?_ ?_ ?_, r.to (Nat.le_refl _) ?_ ?_ ?_, dd.to a ?_ ?_, kk.to ?_ ?_, p.to a ?_ ?_⟩ hL hC hRr hT ?_ ?_ ?_ ?_
      · exact fun e he j hj => up2_or (Or.inr (by omega))
      · exact up2_o (by omega)
      · exact up2_o (by omega)
      · intro e he
        by_cases hed : e = d
        · subst hed
          rw [up2_e, up2_e]
          exact ⟨rfl, hz⟩
        · rw [up2_t (by omega), up2_k hed]
          exact q e he
      · exact fun i hi => up2_t (by omega)
      · exact fun i hi => up2_o (by omega)
      · exact up2_o (by omega)
      · exact up2_o (by omega)
      · exact fun e he j hj => up2_t (by omega)
      · exact fun t _ _ => up2_o (by omega)
      · exact fun t _ _ => up2_o (by omega)
      · exact fun e he => up2_t (by omega)
      · exact up2_o (by omega)
      · exact fun e he => up2_o (by omega)
      · exact up2_o (by omega)
      · exact fun e he => up2_o (by omega)
      · exact fun t _ _ => up2_o (by omega)
      · exact fun t _ => up2_o (by omega)
      · exact fun j _ => up2_t (by omega)
      · exact fun t _ => up2_o (by omega)
      · exact fun j _ => up2_t (by omega)
  · refine ⟨0, M, N, ?_, ?_, hR.up⟩
    · unfold fX10_silent
      rw [(dom_n hD h).1, bn1_e, if_pos rfl]
    · unfold fX11_silent
      rw [(dom_n hD h).2, bn1_e, if_pos rfl]
theorem ix2 {d j : Nat} : (2 : Int32) * nI d + nI j = nI (2 * d + j) := by
  rw [show (2 : Int32) = nI 2 from rfl, pk_mul, nI_add]
theorem sel_y {j : Nat} (h : j < 2) : fX10_isSelector (nI j) = some 1 := by
  unfold fX10_isSelector
  rw [show (1 : Int32) = nI 1 from rfl, win_y (by omega) (by omega), bn1_e]
  exact grd_z1
theorem sel_n {x : Int32} (h : x < 0 ∨ (¬ x < 0 ∧ nI 2 ≤ x)) : fX10_isSelector x = some 0 := by
  unfold fX10_isSelector
  rcases h with h | ⟨h0, h⟩
  · rw [win_l h, bn1_e, grd_z0]
  · rw [show (1 : Int32) = nI 1 from rfl, win_g (by omega) h0 h, bn1_e, grd_z0]
theorem op5 : Op5 := by
  intro k M N hk hR a1 a2 a3
  obtain ⟨D, hD, hL, hC, hRr, hT⟩ := id hR
  have hD20 := hD.1
  rcases i_cases a1 (n := D) (by omega) with ⟨d, hd, rfl⟩ | h
  · rcases i_cases a2 (n := 2) (by omega) with ⟨j, hj, rfl⟩ | h
    · rcases i_cases a3 (n := 1000001) (by omega) with ⟨y, hy, rfl⟩ | h
      · refine ⟨1, up2 M (202 + d) j (nI y), up2 N 13 (2 * d + j) (nI y), ?_, ?_, ?_⟩
        · unfold fX10_key
          rw [(dom_y hD hd).1, bn1_e, if_neg (by decide), sel_y hj, bn1_e, if_neg (by decide), show (1000000 : Int32) = nI 1000000 from rfl, win_y (by omega) (by omega), bn1_e, if_neg (by decide), grd_n (by omega) (by omega), grd_n (by omega) (by omega), nm_x, cN (by omega), cN (by omega)]
        · unfold fX11_key
          rw [(dom_y hD hd).2, bn1_e, if_neg (by decide), if_neg (nI_pos (by omega)), show (1 : Int32) = nI 1 from rfl, if_neg (nI_nlt (by omega) (by omega)), if_neg (nI_pos (by omega)), show (1000000 : Int32) = nI 1000000 from rfl, if_pos (nI_le (by omega) (by omega)), ix2, grd_n (by omega) (by omega), nm_x, cN (by omega)]
        · obtain ⟨a, b, c, m, q, hh, r, dd, kk, p⟩ := hD
          refine Rel.dom (Nat.le_refl _) ⟨a, by rw [up2_t (by omega)]; exact b, by rw [up2_t (by omega)]; exact c, m.to a ?_ ?_ ?_, q.to ?_ ?_, hh.to (Nat.le_refl _) ?_ ?_ ?_ ?_, r.to (Nat.le_refl _) ?_ ?_ ?_, dd.to a ?_ ?_, ?_, p.to a ?_ ?_⟩ hL hC hRr hT ?_ ?_ ?_ ?_
          · exact fun e he j hj => up2_t (by omega)
          · exact up2_o (by omega)
          · exact up2_o (by omega)
          · exact fun e he => up2_t (by omega)
          · exact up2_o (by omega)
          · exact fun i hi => up2_t (by omega)
          · exact fun i hi => up2_o (by omega)
          · exact up2_o (by omega)
          · exact up2_o (by omega)
          · exact fun e he j hj => up2_t (by omega)
          · exact fun t _ _ => up2_o (by omega)
          · exact fun t _ _ => up2_o (by omega)
          · exact fun e he => up2_t (by omega)
          · exact up2_o (by omega)
          · intro e he i hi
            by_cases hed : e = d ∧ i = j
            · obtain ⟨rfl, rfl⟩ := hed
              rw [up2_e, up2_e]
              exact ⟨rfl, y, hy, rfl⟩
            · rw [up2_or (by omega), up2_k (by omega)]
              exact kk e he i hi
          · exact fun e he => up2_o (by omega)
          · exact fun t _ _ => up2_o (by omega)
          · exact fun t _ => up2_o (by omega)
          · exact fun j _ => up2_t (by omega)
          · exact fun t _ => up2_o (by omega)
          · exact fun j _ => up2_t (by omega)
      · refine ⟨0, M, N, ?_, ?_, hR.up⟩
        · unfold fX10_key
          rw [(dom_y hD hd).1, bn1_e, if_neg (by decide), sel_y hj, bn1_e, if_neg (by decide)]
          rcases h with h | ⟨h0, h⟩
          · rw [win_l h, bn1_e, if_pos rfl]
          · rw [show (1000000 : Int32) = nI 1000000 from rfl, win_g (by omega) h0 h, bn1_e, if_pos rfl]
        · unfold fX11_key
          rw [(dom_y hD hd).2, bn1_e, if_neg (by decide), if_neg (nI_pos (by omega)), show (1 : Int32) = nI 1 from rfl, if_neg (nI_nlt (by omega) (by omega))]
          rcases h with h | ⟨h0, h⟩
          · rw [if_pos h]
          · rw [if_neg h0, show (1000000 : Int32) = nI 1000000 from rfl, if_neg (by rw [Int32.not_le]; exact gt_of (by omega) h0 h)]
    · refine ⟨0, M, N, ?_, ?_, hR.up⟩
      · unfold fX10_key
        rw [(dom_y hD hd).1, bn1_e, if_neg (by decide), sel_n h, bn1_e, if_pos rfl]
      · unfold fX11_key
        rw [(dom_y hD hd).2, bn1_e, if_neg (by decide)]
        rcases h with h | ⟨h0, h⟩
        · rw [if_pos h]
        · rw [if_neg h0, show (1 : Int32) = nI 1 from rfl, if_pos (gt_of (by omega) h0 h)]
  · refine ⟨0, M, N, ?_, ?_, hR.up⟩
    · unfold fX10_key
      rw [(dom_n hD h).1, bn1_e, if_pos rfl]
    · unfold fX11_key
      rw [(dom_n hD h).2, bn1_e, if_pos rfl]
