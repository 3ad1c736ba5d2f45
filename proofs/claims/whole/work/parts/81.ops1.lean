/-! the simple calls -/
theorem up2_if {M : Mm} {t k a j : Nat} {v : Int32} : up2 M t k v a j = if a = t ∧ j = k then v else M a j := by
  by_cases ha : a = t
  · subst ha
    rw [up2_s]
    by_cases hj : j = k
    · subst hj
      rw [upd_s, if_pos ⟨rfl, rfl⟩]
    · rw [upd_n hj, if_neg (fun q => hj q.2)]
  · rw [up2_n M k v ha, if_neg (fun q => ha q.1)]
theorem up2_o {M : Mm} {t a k : Nat} {v : Int32} (h : a ≠ t) : up2 M t k v a = M a := up2_n M k v h
theorem i_cases (x : Int32) {n : Nat} (hn : n < 2 ^ 31) : (∃ k, k < n ∧ x = nI k) ∨ x < 0 ∨ (¬ x < 0 ∧ nI n ≤ x) := by
  by_cases h0 : x < 0
  · exact Or.inr (Or.inl h0)
  · obtain ⟨j, hj, rfl⟩ := nI_of h0
    by_cases h : j < n
    · exact Or.inl ⟨j, h, rfl⟩
    · exact Or.inr (Or.inr ⟨h0, nI_le (by omega) hj⟩)
theorem gt_of {x : Int32} {n : Nat} (hn : n < 2 ^ 30) (h0 : ¬ x < 0) (h : nI (n + 1) ≤ x) : nI n < x := by
  obtain ⟨j, hj, rfl⟩ := nI_of h0
  have := (nI_leI (by omega) hj).mp h
  exact nI_lt (by omega) hj
theorem win_y {k n : Nat} (h : k ≤ n) (hn : n < 2 ^ 31) : fX10_isWithin (nI k) 0 (nI n) = some 1 := within_y (nI_pos' (by omega)) (nI_le h hn)
theorem win_l {x hi : Int32} (h : x < 0) : fX10_isWithin x 0 hi = some 0 := within_n (Or.inl h)
theorem win_g {x : Int32} {n : Nat} (hn : n < 2 ^ 30) (h0 : ¬ x < 0) (h : nI (n + 1) ≤ x) : fX10_isWithin x 0 (nI n) = some 0 := within_n (Or.inr (gt_of hn h0 h))
theorem dom_y {D k : Nat} {M N : Mm} (h : RD D M N) (hk : k < D) : fX10_isDomain (nI k) M = some 1 ∧ fX11_isDomain (nI k) N = some 1 := by
  obtain ⟨h1, h2, h3, -⟩ := h
  refine ⟨?_, ?_⟩
  · unfold fX10_isDomain
    rw [h2, within_N hk (by omega), bn1_e, grd_z1]
  · unfold fX11_isDomain
    rw [if_neg (nI_pos (by omega)), h3, if_neg (nI_ge hk (by omega))]
theorem dom_n {D : Nat} {M N : Mm} {x : Int32} (h : RD D M N) (hx : x < 0 ∨ (¬ x < 0 ∧ nI D ≤ x)) : fX10_isDomain x M = some 0 ∧ fX11_isDomain x N = some 0 := by
  obtain ⟨h1, h2, h3, -⟩ := h
  refine ⟨?_, ?_⟩
  · unfold fX10_isDomain
    rw [h2, within_N' (hx.elim Or.inl (fun q => Or.inr q.2)) (by omega), bn1_e, grd_z0]
  · unfold fX11_isDomain
    rcases hx with q | ⟨q, q2⟩
    · rw [if_pos q]
    · rw [if_neg q, h3, if_pos q2]
theorem op20 : Op20 := by
  intro k M N hk hR a1
  rcases i_cases a1 (n := 1001) (by omega) with ⟨j, hj, rfl⟩ | h | ⟨h0, h⟩
  · obtain ⟨D, hD, hL, hC, hRr, t, ht, e1, e2⟩ := hR
    refine ⟨nI (t + j), up2 M 0 7 (nI (t + j)), up2 N 0 18 (nI (t + j)), ?_, ?_, D, hD.to ?_ ?_ ?_ ?_, hL.to (Nat.le_refl _) ?_ ?_ ?_ ?_, hC.to ?_ ?_ ?_, hRr.to ?_ ?_ ?_ ?_, t + j, by omega, up2_e, up2_e⟩
    · unfold fX10_tick
      rw [show (1000 : Int32) = nI 1000 from rfl, win_y (by omega) (by omega), bn1_e, if_neg (by decide), nm_x, e1, nI_add, up2_e]
    · unfold fX11_tick
      rw [if_neg (nI_pos (by omega)), show (1000 : Int32) = nI 1000 from rfl, if_pos (nI_le (by omega) (by omega)), nm_x, e2, nI_add, up2_e]
    · exact up2_k (by omega)
    · exact fun t _ _ => up2_o (by omega)
    · exact up2_k (by omega)
    · exact fun t _ _ => up2_o (by omega)
    · exact fun k _ => up2_t (by omega)
    · exact fun t _ _ _ _ => up2_o (by omega)
    · exact fun k _ _ => up2_k (by omega)
    · exact fun t _ _ => up2_o (by omega)
    · exact up2_o (by omega)
    · exact up2_k (by omega)
    · exact up2_k (by omega)
    · exact up2_k (by omega)
    · exact fun t _ _ => up2_o (by omega)
    · exact up2_k (by omega)
    · exact fun t _ _ => up2_o (by omega)
  · refine ⟨-1, M, N, ?_, ?_, hR.up⟩
    · unfold fX10_tick
      rw [win_l h, bn1_e, if_pos rfl]
    · unfold fX11_tick
      rw [if_pos h]
  · refine ⟨-1, M, N, ?_, ?_, hR.up⟩
    · unfold fX10_tick
      rw [show (1000 : Int32) = nI 1000 from rfl, win_g (by omega) h0 h, bn1_e, if_pos rfl]
    · unfold fX11_tick
      rw [if_neg h0, show (1000 : Int32) = nI 1000 from rfl, if_neg (by rw [Int32.not_le]; exact gt_of (by omega) h0 h)]
theorem op15 : Op15 := by
  intro k M N hk hR a1
  have hC : RC M N := by
    obtain ⟨D, -, -, hC, -⟩ := hR
    exact hC
  by_cases h0 : a1 = 0
  · subst h0
    refine ⟨M 275 0, ?_, ?_, hR.up⟩
    · unfold fX10_counted
      rw [if_pos rfl]
    · unfold fX11_counted
      rw [if_pos rfl, hC.1]
  · by_cases h1 : a1 = 1
    · subst h1
      refine ⟨M 275 1, ?_, ?_, hR.up⟩
      · unfold fX10_counted
        rw [if_neg h0, if_pos rfl]
      · unfold fX11_counted
        rw [if_neg h0, if_pos rfl, hC.2]
    · refine ⟨0, ?_, ?_, hR.up⟩
      · unfold fX10_counted
        rw [if_neg h0, if_neg h1]
      · unfold fX11_counted
        rw [if_neg h0, if_neg h1]
theorem op19 : Op19 := by
  intro k M N hk hR a1 a2
  obtain ⟨n, hn, e1, e2, e3⟩ : RR M N := by
    obtain ⟨D, -, -, -, h, -⟩ := hR
    exact h
  rcases i_cases a1 (n := n) (by omega) with ⟨j, hj, rfl⟩ | h | ⟨h0, h⟩
  · have q1 : ∀ z, fX6_fieldAt j a2 M = some z → fX10_row (nI j) a2 M = some z := by
      intro z hz
      unfold fX10_row
      rw [e1, within_N hj (by omega), bn1_e, if_neg (by decide), grd_n (by omega) (by omega), cN (by omega), hz, bn1_e]
    obtain ⟨r0, r1, r2, r3, r4⟩ := e3 j hj
    rcases i_cases a2 (n := 5) (by omega) with ⟨w, hw, rfl⟩ | hb | ⟨hb0, hb⟩
    · have q2 : ∀ z, (if nI w = 0 then some (N 35 j) else if nI w = 1 then some (N 36 j) else if nI w = 2 then some (N 37 j) else if nI w = 3 then some (N 38 j) else some (N 39 j)) = some z → fX11_row (nI j) (nI w) N = some z := by
        intro z hz
        unfold fX11_row
        rw [if_neg (nI_pos (by omega)), e2, if_neg (nI_ge hj (by omega)), if_neg (nI_pos (by omega)), show (4 : Int32) = nI 4 from rfl, if_pos (nI_le (by omega) (by omega)), cN (by omega)]
        simp only [grd_n (show j < 12 by omega) (show 12 < 2 ^ 31 by omega)]
        exact hz
      have hw5 : w = 0 ∨ w = 1 ∨ w = 2 ∨ w = 3 ∨ w = 4 := by omega
      rcases hw5 with rfl | rfl | rfl | rfl | rfl
      · exact ⟨N 35 j, q1 _ (by unfold fX6_fieldAt; rw [if_pos (by decide), r0]), q2 _ (if_pos (by decide)), hR.up⟩
      · exact ⟨N 36 j, q1 _ (by unfold fX6_fieldAt; rw [if_neg (by decide), if_pos (by decide), r1]), q2 _ (by rw [if_neg (by decide), if_pos (by decide)]), hR.up⟩
      · exact ⟨N 37 j, q1 _ (by unfold fX6_fieldAt; rw [if_neg (by decide), if_neg (by decide), if_pos (by decide), r2]), q2 _ (by rw [if_neg (by decide), if_neg (by decide), if_pos (by decide)]), hR.up⟩
      · exact ⟨N 38 j, q1 _ (by unfold fX6_fieldAt; rw [if_neg (by decide), if_neg (by decide), if_neg (by decide), if_pos (by decide), r3]), q2 _ (by rw [if_neg (by decide), if_neg (by decide), if_neg (by decide), if_pos (by decide)]), hR.up⟩
      · exact ⟨N 39 j, q1 _ (by unfold fX6_fieldAt; rw [if_neg (by decide), if_neg (by decide), if_neg (by decide), if_neg (by decide), if_pos (by decide), r4]), q2 _ (by rw [if_neg (by decide), if_neg (by decide), if_neg (by decide), if_neg (by decide)]), hR.up⟩
    · have ne : ∀ w : Nat, w < 5 → a2 ≠ nI w := fun w hw q => nI_pos (n := w) (by omega) (q ▸ hb)
      refine ⟨-1, q1 _ ?_, ?_, hR.up⟩
      · unfold fX6_fieldAt
        rw [if_neg (show a2 ≠ 0 from ne 0 (by omega)), if_neg (show a2 ≠ 1 from ne 1 (by omega)), if_neg (show a2 ≠ 2 from ne 2 (by omega)), if_neg (show a2 ≠ 3 from ne 3 (by omega)), if_neg (show a2 ≠ 4 from ne 4 (by omega))]
      · unfold fX11_row
        rw [if_neg (nI_pos (by omega)), e2, if_neg (nI_ge hj (by omega)), if_pos hb]
    · have ne : ∀ w : Nat, w < 5 → a2 ≠ nI w := fun w hw q => nI_ge (a := w) (b := 5) hw (by omega) (q ▸ hb)
      refine ⟨-1, q1 _ ?_, ?_, hR.up⟩
      · unfold fX6_fieldAt
        rw [if_neg (show a2 ≠ 0 from ne 0 (by omega)), if_neg (show a2 ≠ 1 from ne 1 (by omega)), if_neg (show a2 ≠ 2 from ne 2 (by omega)), if_neg (show a2 ≠ 3 from ne 3 (by omega)), if_neg (show a2 ≠ 4 from ne 4 (by omega))]
      · unfold fX11_row
        rw [if_neg (nI_pos (by omega)), e2, if_neg (nI_ge hj (by omega)), if_neg hb0, show (4 : Int32) = nI 4 from rfl, if_neg (by rw [Int32.not_le]; exact gt_of (by omega) hb0 hb)]
  · refine ⟨-1, ?_, ?_, hR.up⟩
    · unfold fX10_row
      rw [e1, within_N' (Or.inl h) (by omega), bn1_e, if_pos rfl]
    · unfold fX11_row
      rw [if_pos h]
  · refine ⟨-1, ?_, ?_, hR.up⟩
    · unfold fX10_row
      rw [e1, within_N' (Or.inr h) (by omega), bn1_e, if_pos rfl]
    · unfold fX11_row
      rw [if_neg h0, e2, if_pos h]
