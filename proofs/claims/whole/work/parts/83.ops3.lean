/-! homes -/
theorem home_loop {D : Nat} {M N : Mm} (h : RD D M N) {d : Nat} (hd : d < D) (hs : N 2 d = 0) : ∀ (n q : Nat), q < n → q < D → N 2 q = 0 → fX11_homeOf_2 (nI d) N n (nI q) = some (M (2 + q) 1) := by
  intro n
  have hD := h.1
  induction n with
  | zero => intro q hq; omega
  | succ n ih =>
    intro q hq hqD hq0
    obtain ⟨-, g, hg, e1, e2⟩ := h.2.2.2.1 q hqD
    rcases e2 with ⟨e2, -⟩ | ⟨-, p, hp, e3, e4⟩
    · rw [hq0] at e2
      exact absurd e2 (by decide)
    · rw [fX11_homeOf_2, grd_n (by omega) (by omega), cN (show d < 2 ^ 31 by omega), if_pos hs, grd_n (by omega) (by omega), cN (show q < 2 ^ 31 by omega), e3, grd_n (by omega) (by omega), cN (show p < 2 ^ 31 by omega)]
      rcases e4 with ⟨e4, rfl⟩ | ⟨e4, e5⟩
      · rw [if_neg (by rw [e4]; decide), e1]
      · rw [if_pos e4, grd_n (by omega) (by omega), nm_x, ih p (by omega) (by omega) e4, e5, e1]
theorem home_eq {D : Nat} {M N : Mm} (h : RD D M N) {d : Nat} (hd : d < D) : fX11_homeOf (nI d) N = some (M (2 + d) 1) := by
  have hD := h.1
  obtain ⟨-, g, hg, e1, e2⟩ := h.2.2.2.1 d hd
  unfold fX11_homeOf
  rcases e2 with ⟨e2, rfl⟩ | ⟨e2, -⟩
  · show fX11_homeOf_2 (nI g) N (299 + 1) (nI g) = _
    rw [fX11_homeOf_2, grd_n (by omega) (by omega), cN (show g < 2 ^ 31 by omega), if_neg (by rw [e2]; decide), e1]
  · exact home_loop h hd e2 FU d (show d < 300 by omega) hd e2
theorem op1 : Op1 := by
  intro k M N hk hR a1
  obtain ⟨D, hD, hL, hC, hRr, hT⟩ := id hR
  have hD20 := hD.1
  rcases i_cases a1 (n := D) (by omega) with ⟨d, hd, rfl⟩ | h
  · refine ⟨M (2 + d) 1, ?_, ?_, hR.up⟩
    · unfold fX10_home
      rw [(dom_y hD hd).1, bn1_e, if_neg (by decide), grd_n (by omega) (by omega), cN (by omega)]
    · unfold fX11_home
      rw [(dom_y hD hd).2, bn1_e, if_neg (by decide), home_eq hD hd, bn1_e]
  · refine ⟨-1, ?_, ?_, hR.up⟩
    · unfold fX10_home
      rw [(dom_n hD h).1, bn1_e, if_pos rfl]
    · unfold fX11_home
      rw [(dom_n hD h).2, bn1_e, if_pos rfl]
/-! a new domain -/
def nwM (M : Mm) (D : Nat) (s v : Int32) : Mm := up2 (up2 (up2 M (2 + D) 0 s) (2 + D) 1 v) 0 1 (nI (D + 1))
def nwN (N : Mm) (D : Nat) (a s : Int32) : Mm := up2 (up2 (up2 (up2 (up2 N 1 D a) 2 D s) 12 D (-1)) 14 D (-1)) 0 0 (nI (D + 1))
theorem new_M {D : Nat} {M N : Mm} {a1 a2 s v : Int32} (h : RD D M N) (hD : D < 20) (hs : isB s) (hv : fX10_homeUnder a1 (nI D) (up2 M (2 + D) 0 s) = some v) : fX10_domain_52 a1 a2 (nI D) s D M = some (nI D, nwM M D s v) := by
  unfold fX10_domain_52
  rw [grd_zB hs, nm_x, grd_n hD (by omega), hv, bn1_e, nm_x, nm_x, cN (by omega), up2_t (by omega), up2_t (by omega), h.2.1, nI_1]
  rfl
theorem new_N {D : Nat} {M N : Mm} {a1 a2 s : Int32} (h : RD D M N) (hD : D < 20) (hs : isB s) : fX11_domain_59 a1 a2 s (nI D) (up2 N 1 D a1) = some (nI D, nwN N D a1 s) := by
  have e0 := h.2.2.1
  have e79 : up2 (up2 (up2 (up2 N 1 D a1) 2 D s) 12 D (-1)) 14 D (-1) 0 0 = nI D := by
    rw [up2_t (by omega), up2_t (by omega), up2_t (by omega), up2_t (by omega)]
    exact e0
  unfold fX11_domain_59
  rw [grd_n hD (by omega), grd_zB hs, nm_x, cN (by omega), up2_t (by omega), up2_t (by omega), e0, grd_n hD (by omega), cN (by omega), nm_x, up2_t (by omega), up2_t (by omega), up2_t (by omega), e0, grd_n hD (by omega), cN (by omega), nm_x, nm_x, e79, nI_1, up2_e, nI_pred]
  rfl
theorem new_R {k D : Nat} {M N : Mm} {a s : Int32} {g : Nat} (hD : RD D M N) (hL : RMl D M N) (hC : RC M N) (hR : RR M N) (hT : RT k M N) (h20 : D < 20) (hs : isB s) (hg : g ≤ D) (hh : (s = 1 ∧ g = D) ∨ (s = 0 ∧ ∃ p, p < D ∧ a = nI p ∧ ((N 2 p = 1 ∧ g = D) ∨ (N 2 p = 0 ∧ M (2 + p) 1 = nI g)))) : Rel (k + 1) (nwM M D s (nI g)) (nwN N D a s) := by
  have m1 : ∀ t j, t ≠ 0 → t ≠ 2 + D → nwM M D s (nI g) t j = M t j := fun t j h1 h2 => by
    unfold nwM
    rw [up2_t h1, up2_t h2, up2_t h2]
  have m1' : ∀ t, t ≠ 0 → t ≠ 2 + D → nwM M D s (nI g) t = M t := fun t h1 h2 => funext fun j => m1 t j h1 h2
  have m2 : ∀ j, 2 ≤ j → nwM M D s (nI g) (2 + D) j = M (2 + D) j := fun j hj => by
    unfold nwM
    rw [up2_t (by omega), up2_k (by omega), up2_k (by omega)]
  have m3 : ∀ j, j ≠ 1 → nwM M D s (nI g) 0 j = M 0 j := fun j hj => by
    unfold nwM
    rw [up2_k hj, up2_t (by omega), up2_t (by omega)]
  have n1 : ∀ t, t ≠ 0 → t ≠ 1 → t ≠ 2 → t ≠ 12 → t ≠ 14 → nwN N D a s t = N t := fun t h0 h1 h2 h3 h4 => by
    unfold nwN
    rw [up2_o h0, up2_o h4, up2_o h3, up2_o h2, up2_o h1]
  have n2 : ∀ t j, t ≠ 0 → j ≠ D → nwN N D a s t j = N t j := fun t j h0 hj => by
    unfold nwN
    rw [up2_t h0, up2_or (Or.inr hj), up2_or (Or.inr hj), up2_or (Or.inr hj), up2_or (Or.inr hj)]
  have n3 : ∀ j, j ≠ 0 → nwN N D a s 0 j = N 0 j := fun j hj => by
    unfold nwN
    rw [up2_k hj, up2_t (by omega), up2_t (by omega), up2_t (by omega), up2_t (by omega)]
  have n4 : nwN N D a s 1 D = a := by
    unfold nwN
    rw [up2_t (by omega), up2_t (by omega), up2_t (by omega), up2_t (by omega), up2_e]
  have n5 : nwN N D a s 2 D = s := by
    unfold nwN
    rw [up2_t (by omega), up2_t (by omega), up2_t (by omega), up2_e]
  have n6 : nwN N D a s 12 D = -1 := by
    unfold nwN
    rw [up2_t (by omega), up2_t (by omega), up2_e]
  have n7 : nwN N D a s 14 D = -1 := by
    unfold nwN
    rw [up2_t (by omega), up2_e]
  obtain ⟨x1, x2, x3, m, q, hh2, r, dd, kk, p⟩ := hD
  refine Rel.dom (D := D) (E := D + 1) (by omega) ⟨by omega, by unfold nwM; rw [up2_e], by unfold nwN; rw [up2_e], ?_, q.to ?_ ?_, hh2.to (by omega) ?_ ?_ ?_ ?_, r.to (by omega) ?_ ?_ ?_, ⟨?_, ?_⟩, kk.to ?_ ?_, ⟨?_, ?_, ?_⟩⟩ hL hC hR hT ?_ ?_ ?_ ?_
  · intro d hd
    by_cases hdD : d = D
    · subst hdD
      refine ⟨?_, g, hg, ?_, ?_⟩
      · rw [n5]
        unfold nwM
        rw [up2_t (by omega), up2_k (by omega), up2_e]
      · unfold nwM
        rw [up2_t (by omega), up2_e]
      · rw [n5, n4]
        rcases hh with hh | ⟨z0, p, hp, ep, z1⟩
        · exact Or.inl hh
        · refine Or.inr ⟨z0, p, hp, ep, ?_⟩
          rw [n2 2 p (by omega) (by omega), m1 (2 + p) 1 (by omega) (by omega)]
          exact z1
    · obtain ⟨e0, g', hg', e1, e2⟩ := m d (by omega)
      rw [m1 (2 + d) 0 (by omega) (by omega), m1 (2 + d) 1 (by omega) (by omega), n2 2 d (by omega) hdD, n2 1 d (by omega) hdD]
      refine ⟨e0, g', hg', e1, ?_⟩
      rcases e2 with e2 | ⟨e2, p, hp, e3, e4⟩
      · exact Or.inl e2
      · refine Or.inr ⟨e2, p, hp, e3, ?_⟩
        rw [n2 2 p (by omega) (by omega), m1 (2 + p) 1 (by omega) (by omega)]
        exact e4
  · intro d hd
    by_cases hdD : d = D
    · subst hdD
      exact m2 2 (by omega)
    · exact m1 (2 + d) 2 (by omega) (by omega)
  · exact n1 3 (by omega) (by omega) (by omega) (by omega) (by omega)
  · exact fun i hi => m1 _ _ (by omega) (by omega)
  · exact fun i hi => m1' _ (by omega) (by omega)
  · exact n1 4 (by omega) (by omega) (by omega) (by omega) (by omega)
  · exact n1 5 (by omega) (by omega) (by omega) (by omega) (by omega)
  · exact fun d hd j hj => m1 _ _ (by omega) (by omega)
  · exact fun t h1 h2 => m1' _ (by omega) (by omega)
  · exact fun t h1 h2 => n1 t (by omega) (by omega) (by omega) (by omega) (by omega)
  · intro d hd
    rw [m1 (102 + d) 6 (by omega) (by omega)]
    by_cases hdD : d = D
    · subst hdD
      rw [n6, dd.2 d (by omega) (by omega)]
      exact ⟨rfl, Or.inl rfl⟩
    · rw [n2 12 d (by omega) hdD]
      exact ⟨(dd.1 d (by omega)).1, (dd.1 d (by omega)).2.elim Or.inl (fun z => Or.inr (isN_mono (by omega) z))⟩
  · intro d h1 h2
    rw [m1 (102 + d) 6 (by omega) (by omega)]
    exact dd.2 d (by omega) h2
  · exact fun d hd => m1' _ (by omega) (by omega)
  · exact n1 13 (by omega) (by omega) (by omega) (by omega) (by omega)
  · intro d hd
    rw [m1' (222 + d) (by omega) (by omega)]
    by_cases hdD : d = D
    · subst hdD
      exact Or.inr ⟨p.2.1 d (by omega) (by omega), n7⟩
    · rw [n2 14 d (by omega) hdD, n2 15 d (by omega) hdD, n2 16 d (by omega) hdD, n2 17 d (by omega) hdD]
      exact p.1 d (by omega)
  · intro d h1 h2
    rw [m1' (222 + d) (by omega) (by omega)]
    exact p.2.1 d (by omega) h2
  · rw [m1' (222 + 20) (by omega) (by omega)]
    exact p.2.2
  · exact fun t ht => m1' t (by omega) (by omega)
  · exact fun j hj => m3 j (by omega)
  · exact fun t ht => n1 t (by omega) (by omega) (by omega) (by omega) (by omega)
  · exact fun j hj => n3 j (by omega)
theorem op0 : Op0 := by
  intro k M N hk hR a1 a2 hz
  obtain ⟨D, hD, hL, hC, hRr, hT⟩ := id hR
  have hD20 := hD.1
  -- what both do when the parent is right
  have key : (a1 = -1 ∨ ∃ p, p < D ∧ a1 = nI p) → ∃ (r : Int32) (M' N' : Mm), fX10_domain_15 a1 a2 M = some (r, M') ∧ fX11_domain_15 a1 a2 N = some (r, N') ∧ Rel (k + 1) M' N' := by
    intro hp
    by_cases h20 : D < 20
    · have eM : fX10_domain_15 a1 a2 M = (if a2 = 0 then (if a1 = (-1 : Int32) then fX10_domain_52 a1 a2 (nI D) 1 D M else fX10_domain_52 a1 a2 (nI D) 0 D M) else fX10_domain_52 a1 a2 (nI D) 1 D M) := by
        unfold fX10_domain_15 fX10_domain_47
        rw [hD.2.1, show (20 : Int32) = nI 20 from rfl, if_pos (nI_lt h20 (by omega)), nm_x, grd_n h20 (by omega), cN (by omega)]
      have eN : fX11_domain_15 a1 a2 N = (if a2 = 0 then (if a1 = (-1 : Int32) then fX11_domain_59 a1 a2 1 (nI D) (up2 N 1 D a1) else fX11_domain_59 a1 a2 0 (nI D) (up2 N 1 D a1)) else fX11_domain_59 a1 a2 1 (nI D) (up2 N 1 D a1)) := by
        unfold fX11_domain_15 fX11_domain_54
        rw [hD.2.2.1, show (20 : Int32) = nI 20 from rfl, if_neg (fun q => by have := (nI_eq (by omega) (by omega)).mp q; omega), nm_x, grd_n h20 (by omega), cN (by omega), up2_t (by omega), hD.2.2.1]
      by_cases hs : a2 = 0 ∧ a1 ≠ -1
      · obtain ⟨p, hpD, rfl⟩ : ∃ p, p < D ∧ a1 = nI p := hp.elim (fun q => absurd q hs.2) id
        rw [eM, eN, if_pos hs.1, if_pos hs.1, if_neg hs.2, if_neg hs.2]
        obtain ⟨e0, g, hg, e1, e2⟩ := hD.2.2.2.1 p hpD
        have es : N 2 p = 1 ∨ N 2 p = 0 := by
          rcases e2 with e2 | e2
          · exact Or.inl e2.1
          · exact Or.inr e2.1
        rcases es with es | es
        · have hv : fX10_homeUnder (nI p) (nI D) (up2 M (2 + D) 0 0) = some (nI D) := by
            unfold fX10_homeUnder
            rw [grd_n h20 (by omega), cN (show D < 2 ^ 31 by omega), up2_e, if_pos rfl, grd_n (by omega) (by omega), cN (show p < 2 ^ 31 by omega), up2_t (by omega), e0, if_neg (by rw [es]; decide)]
          exact ⟨_, _, _, new_M hD h20 (Or.inl rfl) hv, new_N hD h20 (Or.inl rfl), new_R hD hL hC hRr hT h20 (Or.inl rfl) (Nat.le_refl _) (Or.inr ⟨rfl, p, hpD, rfl, Or.inl ⟨es, rfl⟩⟩)⟩
        · have hv : fX10_homeUnder (nI p) (nI D) (up2 M (2 + D) 0 0) = some (nI g) := by
            unfold fX10_homeUnder
            rw [grd_n h20 (by omega), cN (show D < 2 ^ 31 by omega), up2_e, if_pos rfl, grd_n (by omega) (by omega), cN (show p < 2 ^ 31 by omega), up2_t (by omega), e0, if_pos es, grd_n (by omega) (by omega), up2_t (by omega), e1]
          exact ⟨_, _, _, new_M hD h20 (Or.inl rfl) hv, new_N hD h20 (Or.inl rfl), new_R hD hL hC hRr hT h20 (Or.inl rfl) (by omega) (Or.inr ⟨rfl, p, hpD, rfl, Or.inr ⟨es, e1⟩⟩)⟩
      · have hv : fX10_homeUnder a1 (nI D) (up2 M (2 + D) 0 1) = some (nI D) := by
          unfold fX10_homeUnder
          rw [grd_n h20 (by omega), cN (show D < 2 ^ 31 by omega), up2_e, if_neg (by decide)]
        have e1 : fX10_domain_15 a1 a2 M = fX10_domain_52 a1 a2 (nI D) 1 D M := by
          rw [eM]
          by_cases h0 : a2 = 0
          · rw [if_pos h0, if_pos (Decidable.byContradiction fun q => hs ⟨h0, q⟩)]
          · rw [if_neg h0]
        have e2 : fX11_domain_15 a1 a2 N = fX11_domain_59 a1 a2 1 (nI D) (up2 N 1 D a1) := by
          rw [eN]
          by_cases h0 : a2 = 0
          · rw [if_pos h0, if_pos (Decidable.byContradiction fun q => hs ⟨h0, q⟩)]
          · rw [if_neg h0]
        rw [e1, e2]
        exact ⟨_, _, _, new_M hD h20 (Or.inr rfl) hv, new_N hD h20 (Or.inr rfl), new_R hD hL hC hRr hT h20 (Or.inr rfl) (Nat.le_refl _) (Or.inl ⟨rfl, rfl⟩)⟩
    · obtain rfl : D = 20 := by omega
      refine ⟨-2, M, N, ?_, ?_, hR.up⟩
      · unfold fX10_domain_15
        rw [hD.2.1, if_neg (by decide)]
      · unfold fX11_domain_15
        rw [hD.2.2.1, if_pos (by decide)]
  by_cases h1 : a1 = -1
  · unfold fX10_domain fX11_domain
    rw [if_pos h1, if_pos h1]
    exact key (Or.inl h1)
  · unfold fX10_domain fX11_domain
    rw [if_neg h1, if_neg h1]
    rcases i_cases a1 (n := D) (by omega) with ⟨d, hd, rfl⟩ | h
    · rw [(dom_y hD hd).1, (dom_y hD hd).2, bn1_e, bn1_e, if_neg (by decide), if_neg (by decide)]
      exact key (Or.inr ⟨d, hd, rfl⟩)
    · refine ⟨-1, M, N, ?_, ?_, hR.up⟩
      · rw [(dom_n hD h).1, bn1_e, if_pos rfl]
      · rw [(dom_n hD h).2, bn1_e, if_pos rfl]
