/-! hosts -/
theorem host_M {i c : Nat} {M : Mm} {v : Int32} (hc : c < 2) (e : M (22 + i) 1 = nI c) : fX2_append i v M = some (nI (c + 1), up2 (up2 M (62 + i) c v) (22 + i) 1 (nI (c + 1))) := by
  have e' : up2 M (62 + i) c v (22 + i) 1 = nI c := by rw [up2_t (by omega)]; exact e
  unfold fX2_append
  rw [e, show (2 : Int32) = nI 2 from rfl, if_pos (nI_lt hc (by omega)), grd_n hc (by omega), nm_x, cN (by omega), nm_x, e', nI_1, up2_e]
theorem host_M2 {i : Nat} {M : Mm} {v : Int32} (e : M (22 + i) 1 = nI 2) : fX2_append i v M = some (-2, M) := by
  unfold fX2_append
  rw [e, if_neg (by decide)]
theorem host_N {d j c : Nat} {N : Mm} {v : Int32} (hd : d < 20) (hj : j < 2) (hc : c < 2) (e : N 5 (2 * d + j) = nI c) : fX11_host_32 (nI d) (nI j) v N = some (nI (c + 1), up2 (up2 N 4 (2 * (2 * d + j) + c) v) 5 (2 * d + j) (nI (c + 1))) := by
  unfold fX11_host_32
  rw [nm_x, ix2, grd_n (by omega) (by omega), cN (show 2 * d + j < 2 ^ 31 by omega), e, show (2 : Int32) = nI 2 from rfl, if_neg (fun q => by have := (nI_eq (by omega) (by omega)).mp q; omega), grd_n (by omega) (by omega), pk_mul, nI_add, grd_n (by omega) (by omega), cN (show 2 * (2 * d + j) + c < 2 ^ 31 by omega), nm_x, grd_n (by omega) (by omega), grd_n (by omega) (by omega), up2_t (by omega), e, nI_1, nm_x, grd_n (by omega) (by omega), up2_e]
theorem host_N2 {d j : Nat} {N : Mm} {v : Int32} (hd : d < 20) (hj : j < 2) (e : N 5 (2 * d + j) = nI 2) : fX11_host_32 (nI d) (nI j) v N = some (-2, N) := by
  unfold fX11_host_32
  rw [nm_x, ix2, grd_n (by omega) (by omega), cN (show 2 * d + j < 2 ^ 31 by omega), e, if_pos (by decide)]
theorem host_R {k D i c : Nat} {M N : Mm} {v : Int32} (hD : RD D M N) (hL : RMl D M N) (hC : RC M N) (hR : RR M N) (hT : RT k M N) (hi : i < 40) (hc : c < 2) (e1 : M (22 + i) 1 = nI c) (hv : i % 2 = 1 → isN D v) : Rel (k + 1) (up2 (up2 M (62 + i) c v) (22 + i) 1 (nI (c + 1))) (up2 (up2 N 4 (2 * i + c) v) 5 i (nI (c + 1))) := by
  have m1 : ∀ t, t ≠ 62 + i → t ≠ 22 + i → up2 (up2 M (62 + i) c v) (22 + i) 1 (nI (c + 1)) t = M t := fun t h1 h2 => by rw [up2_o h2, up2_o h1]
  have n1 : ∀ t, t ≠ 4 → t ≠ 5 → up2 (up2 N 4 (2 * i + c) v) 5 i (nI (c + 1)) t = N t := fun t h1 h2 => by rw [up2_o h2, up2_o h1]
  obtain ⟨x1, x2, x3, m, q, hh2, r, dd, kk, p⟩ := hD
  refine Rel.dom (Nat.le_refl _) ⟨x1, by rw [m1 0 (by omega) (by omega)]; exact x2, by rw [n1 0 (by omega) (by omega)]; exact x3, m.to x1 ?_ ?_ ?_, q.to ?_ ?_, ?_, r.to (Nat.le_refl _) ?_ ?_ ?_, dd.to x1 ?_ ?_, kk.to ?_ ?_, p.to x1 ?_ ?_⟩ hL hC hR hT ?_ ?_ ?_ ?_
  · exact fun e he j hj => by rw [m1 _ (by omega) (by omega)]
  · exact n1 1 (by omega) (by omega)
  · exact n1 2 (by omega) (by omega)
  · exact fun e he => by rw [m1 _ (by omega) (by omega)]
  · exact n1 3 (by omega) (by omega)
  · intro i' hi'
    by_cases hii : i' = i
    · subst hii
      refine ⟨c + 1, by omega, up2_e, up2_e, fun j hj => ?_⟩
      rw [show up2 (up2 M (62 + i') c v) (22 + i') 1 (nI (c + 1)) (62 + i') j = up2 M (62 + i') c v (62 + i') j from up2_t (by omega), show up2 (up2 N 4 (2 * i' + c) v) 5 i' (nI (c + 1)) 4 (2 * i' + j) = up2 N 4 (2 * i' + c) v 4 (2 * i' + j) from up2_t (by omega)]
      by_cases hjc : j = c
      · subst hjc
        rw [up2_e, up2_e]
        exact ⟨rfl, hv⟩
      · rw [up2_k hjc, up2_k (by omega)]
        obtain ⟨c', hc', f1, f2, f3⟩ := hh2 i' hi'
        have ec : c' = c := (nI_eq (by omega) (by omega)).mp (f1.symm.trans e1)
        subst ec
        exact f3 j (by omega)
    · obtain ⟨c', hc', f1, f2, f3⟩ := hh2 i' hi'
      refine ⟨c', hc', ?_, ?_, fun j hj => ?_⟩
      · rw [m1 _ (by omega) (by omega)]
        exact f1
      · rw [up2_k hii, up2_t (by omega)]
        exact f2
      · rw [m1 _ (by omega) (by omega), up2_t (by omega), up2_k (by omega)]
        exact f3 j hj
  · exact fun e he j hj => by rw [m1 _ (by omega) (by omega)]
  · exact fun t h1 h2 => m1 _ (by omega) (by omega)
  · exact fun t h1 h2 => n1 _ (by omega) (by omega)
  · exact fun e he => by rw [m1 _ (by omega) (by omega)]
  · exact n1 12 (by omega) (by omega)
  · exact fun e he => m1 _ (by omega) (by omega)
  · exact n1 13 (by omega) (by omega)
  · exact fun e he => m1 _ (by omega) (by omega)
  · exact fun t h1 h2 => n1 _ (by omega) (by omega)
  · exact fun t ht => m1 _ (by omega) (by omega)
  · exact fun j hj => by rw [m1 _ (by omega) (by omega)]
  · exact fun t ht => n1 _ (by omega) (by omega)
  · exact fun j hj => by rw [n1 _ (by omega) (by omega)]
theorem op3 : Op3 := by
  intro k M N hk hR a1 a2 a3
  obtain ⟨D, hD, hL, hC, hRr, hT⟩ := id hR
  have hD20 := hD.1
  rcases i_cases a1 (n := D) (by omega) with ⟨d, hd, rfl⟩ | h
  · rcases i_cases a2 (n := 2) (by omega) with ⟨j, hj, rfl⟩ | h
    · -- the common end
      have key : (j = 1 → isN D a3) → ∃ (r : Int32) (M' N' : Mm), fX2_append (2 * d + j) a3 M = some (r, M') ∧ fX11_host_32 (nI d) (nI j) a3 N = some (r, N') ∧ Rel (k + 1) M' N' := by
        intro hv
        obtain ⟨c, hc, f1, f2, f3⟩ := hD.2.2.2.2.2.1 (2 * d + j) (by omega)
        by_cases h2 : c < 2
        · exact ⟨_, _, _, host_M h2 f1, host_N (by omega) hj h2 f2, host_R hD hL hC hRr hT (by omega) h2 f1 (fun q => hv (by omega))⟩
        · obtain rfl : c = 2 := by omega
          exact ⟨_, _, _, host_M2 f1, host_N2 (by omega) hj f2, hR.up⟩
      have hj2 : j = 0 ∨ j = 1 := by omega
      rcases hj2 with rfl | rfl
      · obtain ⟨r, M', N', e1, e2, e3⟩ := key (fun q => by omega)
        refine ⟨r, M', N', ?_, ?_, e3⟩
        · unfold fX10_host
          rw [(dom_y hD hd).1, bn1_e, if_neg (by decide), show (1 : Int32) = nI 1 from rfl, win_y (by omega) (by omega), bn1_e, if_neg (by decide), if_pos (by decide), grd_n (by omega) (by omega), cN (by omega)]
          rw [Nat.add_zero] at e1
          rw [e1, bn2_e]
        · unfold fX11_host
          rw [(dom_y hD hd).2, bn1_e, if_neg (by decide), if_neg (by decide), if_neg (by decide), if_neg (by decide)]
          exact e2
      · rcases i_cases a3 (n := D) (by omega) with ⟨w, hw, rfl⟩ | h
        · obtain ⟨r, M', N', e1, e2, e3⟩ := key (fun _ => ⟨w, hw, rfl⟩)
          refine ⟨r, M', N', ?_, ?_, e3⟩
          · unfold fX10_host
            rw [(dom_y hD hd).1, bn1_e, if_neg (by decide), show (1 : Int32) = nI 1 from rfl, win_y (by omega) (by omega), bn1_e, if_neg (by decide), if_neg (by decide), (dom_y hD hw).1, bn1_e, if_neg (by decide), grd_n (by omega) (by omega), cN (by omega), e1, bn2_e]
          · unfold fX11_host
            rw [(dom_y hD hd).2, bn1_e, if_neg (by decide), if_neg (by decide), if_neg (by decide), if_pos (by decide), (dom_y hD hw).2, bn1_e, if_neg (by decide)]
            exact e2
        · refine ⟨-1, M, N, ?_, ?_, hR.up⟩
          · unfold fX10_host
            rw [(dom_y hD hd).1, bn1_e, if_neg (by decide), show (1 : Int32) = nI 1 from rfl, win_y (by omega) (by omega), bn1_e, if_neg (by decide), if_neg (by decide), (dom_n hD h).1, bn1_e, if_pos rfl]
          · unfold fX11_host
            rw [(dom_y hD hd).2, bn1_e, if_neg (by decide), if_neg (by decide), if_neg (by decide), if_pos (by decide), (dom_n hD h).2, bn1_e, if_pos rfl]
    · refine ⟨-1, M, N, ?_, ?_, hR.up⟩
      · unfold fX10_host
        rw [(dom_y hD hd).1, bn1_e, if_neg (by decide)]
        rcases h with h | ⟨h0, h⟩
        · rw [win_l h, bn1_e, if_pos rfl]
        · rw [show (1 : Int32) = nI 1 from rfl, win_g (by omega) h0 h, bn1_e, if_pos rfl]
      · unfold fX11_host
        rw [(dom_y hD hd).2, bn1_e, if_neg (by decide)]
        rcases h with h | ⟨h0, h⟩
        · rw [if_pos h]
        · rw [if_neg h0, show (1 : Int32) = nI 1 from rfl, if_pos (gt_of (by omega) h0 h)]
  · refine ⟨-1, M, N, ?_, ?_, hR.up⟩
    · unfold fX10_host
      rw [(dom_n hD h).1, bn1_e, if_pos rfl]
    · unfold fX11_host
      rw [(dom_n hD h).2, bn1_e, if_pos rfl]
/-! policies -/
theorem pol_R0 {k D d : Nat} {M N : Mm} {b s p : Int32} (hD : RD D M N) (hL : RMl D M N) (hC : RC M N) (hR : RR M N) (hT : RT k M N) (hd : d < D) : Rel (k + 1) (up2 M (222 + d) 0 0) (up2 (up2 (up2 (up2 N 14 d (-1)) 15 d b) 16 d s) 17 d p) := by
  have m1 : ∀ t, t ≠ 222 + d → up2 M (222 + d) 0 0 t = M t := fun t h => up2_o h
  have n1 : ∀ t, t < 14 ∨ 17 < t → up2 (up2 (up2 (up2 N 14 d (-1)) 15 d b) 16 d s) 17 d p t = N t := fun t h => by rw [up2_o (by omega), up2_o (by omega), up2_o (by omega), up2_o (by omega)]
  have n2 : ∀ t j, j ≠ d → up2 (up2 (up2 (up2 N 14 d (-1)) 15 d b) 16 d s) 17 d p t j = N t j := fun t j h => by rw [up2_or (Or.inr h), up2_or (Or.inr h), up2_or (Or.inr h), up2_or (Or.inr h)]
  obtain ⟨x1, x2, x3, m, q, hh2, r, dd, kk, pp⟩ := hD
  refine Rel.dom (Nat.le_refl _) ⟨x1, by rw [m1 0 (by omega)]; exact x2, by rw [n1 0 (by omega)]; exact x3, m.to x1 ?_ ?_ ?_, q.to ?_ ?_, hh2.to (Nat.le_refl _) ?_ ?_ ?_ ?_, r.to (Nat.le_refl _) ?_ ?_ ?_, dd.to x1 ?_ ?_, kk.to ?_ ?_, ⟨?_, ?_, ?_⟩⟩ hL hC hR hT ?_ ?_ ?_ ?_
  · exact fun e he j hj => by rw [m1 _ (by omega)]
  · exact n1 1 (by omega)
  · exact n1 2 (by omega)
  · exact fun e he => by rw [m1 _ (by omega)]
  · exact n1 3 (by omega)
  · exact fun e he => by rw [m1 _ (by omega)]
  · exact fun e he => m1 _ (by omega)
  · exact n1 4 (by omega)
  · exact n1 5 (by omega)
  · exact fun e he j hj => by rw [m1 _ (by omega)]
  · exact fun t h1 h2 => m1 _ (by omega)
  · exact fun t h1 h2 => n1 _ (by omega)
  · exact fun e he => by rw [m1 _ (by omega)]
  · exact n1 12 (by omega)
  · exact fun e he => m1 _ (by omega)
  · exact n1 13 (by omega)
  · intro e he
    by_cases hed : e = d
    · subst hed
      refine Or.inr ⟨up2_e, ?_⟩
      rw [up2_t (by omega), up2_t (by omega), up2_t (by omega), up2_e]
    · rw [m1 _ (by omega), n2 14 e hed, n2 15 e hed, n2 16 e hed, n2 17 e hed]
      exact pp.1 e he
  · intro e h1 h2
    rw [m1 _ (by omega)]
    exact pp.2.1 e h1 h2
  · rw [m1 _ (by omega)]
    exact pp.2.2
  · exact fun t ht => m1 _ (by omega)
  · exact fun j hj => by rw [m1 _ (by omega)]
  · exact fun t ht => n1 _ (by omega)
  · exact fun j hj => by rw [n1 _ (by omega)]
theorem pol_R1 {k D d : Nat} {M N : Mm} {o b s p : Nat} (hD : RD D M N) (hL : RMl D M N) (hC : RC M N) (hR : RR M N) (hT : RT k M N) (hd : d < D) (ho : o < 3) (hb : b < 3) (hs : s < 4) (hp : p < 101) : Rel (k + 1) (up2 (up2 (up2 (up2 (up2 M (222 + d) 1 (nI o)) (222 + d) 2 (nI b)) (222 + d) 3 (nI s)) (222 + d) 4 (nI p)) (222 + d) 0 1) (up2 (up2 (up2 (up2 N 14 d (nI o)) 15 d (nI b)) 16 d (nI s)) 17 d (nI p)) := by
  have m1 : ∀ t, t ≠ 222 + d → up2 (up2 (up2 (up2 (up2 M (222 + d) 1 (nI o)) (222 + d) 2 (nI b)) (222 + d) 3 (nI s)) (222 + d) 4 (nI p)) (222 + d) 0 1 t = M t := fun t h => by rw [up2_o h, up2_o h, up2_o h, up2_o h, up2_o h]
  have n1 : ∀ t, t < 14 ∨ 17 < t → up2 (up2 (up2 (up2 N 14 d (nI o)) 15 d (nI b)) 16 d (nI s)) 17 d (nI p) t = N t := fun t h => by rw [up2_o (by omega), up2_o (by omega), up2_o (by omega), up2_o (by omega)]
  have n2 : ∀ t j, j ≠ d → up2 (up2 (up2 (up2 N 14 d (nI o)) 15 d (nI b)) 16 d (nI s)) 17 d (nI p) t j = N t j := fun t j h => by rw [up2_or (Or.inr h), up2_or (Or.inr h), up2_or (Or.inr h), up2_or (Or.inr h)]
  obtain ⟨x1, x2, x3, m, q, hh2, r, dd, kk, pp⟩ := hD
  refine Rel.dom (Nat.le_refl _) ⟨x1, by rw [m1 0 (by omega)]; exact x2, by rw [n1 0 (by omega)]; exact x3, m.to x1 ?_ ?_ ?_, q.to ?_ ?_, hh2.to (Nat.le_refl _) ?_ ?_ ?_ ?_, r.to (Nat.le_refl _) ?_ ?_ ?_, dd.to x1 ?_ ?_, kk.to ?_ ?_, ⟨?_, ?_, ?_⟩⟩ hL hC hR hT ?_ ?_ ?_ ?_
  · exact fun e he j hj => by rw [m1 _ (by omega)]
  · exact n1 1 (by omega)
  · exact n1 2 (by omega)
  · exact fun e he => by rw [m1 _ (by omega)]
  · exact n1 3 (by omega)
  · exact fun e he => by rw [m1 _ (by omega)]
  · exact fun e he => m1 _ (by omega)
  · exact n1 4 (by omega)
  · exact n1 5 (by omega)
  · exact fun e he j hj => by rw [m1 _ (by omega)]
  · exact fun t h1 h2 => m1 _ (by omega)
  · exact fun t h1 h2 => n1 _ (by omega)
  · exact fun e he => by rw [m1 _ (by omega)]
  · exact n1 12 (by omega)
  · exact fun e he => m1 _ (by omega)
  · exact n1 13 (by omega)
  · intro e he
    by_cases hed : e = d
    · subst hed
      have y14 : up2 (up2 (up2 (up2 N 14 e (nI o)) 15 e (nI b)) 16 e (nI s)) 17 e (nI p) 14 e = nI o := by rw [up2_t (by omega), up2_t (by omega), up2_t (by omega), up2_e]
      have y15 : up2 (up2 (up2 (up2 N 14 e (nI o)) 15 e (nI b)) 16 e (nI s)) 17 e (nI p) 15 e = nI b := by rw [up2_t (by omega), up2_t (by omega), up2_e]
      have y16 : up2 (up2 (up2 (up2 N 14 e (nI o)) 15 e (nI b)) 16 e (nI s)) 17 e (nI p) 16 e = nI s := by rw [up2_t (by omega), up2_e]
      have y17 : up2 (up2 (up2 (up2 N 14 e (nI o)) 15 e (nI b)) 16 e (nI s)) 17 e (nI p) 17 e = nI p := by rw [up2_e]
      rw [y14, y15, y16, y17]
      refine Or.inl ⟨up2_e, ?_, ?_, ?_, ?_, ⟨o, ho, rfl⟩, ⟨b, hb, rfl⟩, ⟨s, hs, rfl⟩, ⟨p, hp, rfl⟩⟩
      · rw [up2_k (by omega), up2_k (by omega), up2_k (by omega), up2_k (by omega), up2_e]
      · rw [up2_k (by omega), up2_k (by omega), up2_k (by omega), up2_e]
      · rw [up2_k (by omega), up2_k (by omega), up2_e]
      · rw [up2_k (by omega), up2_e]
    · rw [m1 _ (by omega), n2 14 e hed, n2 15 e hed, n2 16 e hed, n2 17 e hed]
      exact pp.1 e he
  · intro e h1 h2
    rw [m1 _ (by omega)]
    exact pp.2.1 e h1 h2
  · rw [m1 _ (by omega)]
    exact pp.2.2
  · exact fun t ht => m1 _ (by omega)
  · exact fun j hj => by rw [m1 _ (by omega)]
  · exact fun t ht => n1 _ (by omega)
  · exact fun j hj => by rw [n1 _ (by omega)]
theorem pol_N {d : Nat} {N : Mm} {a2 a3 a4 a5 : Int32} (hd : d < 20) : fX11_policy_68 (nI d) a2 a3 a4 a5 N = some (1, up2 (up2 (up2 (up2 N 14 d a2) 15 d a3) 16 d a4) 17 d a5) := by
  unfold fX11_policy_68
  rw [cN (by omega)]
  simp only [grd_n (show d < 20 by omega) (show 20 < 2 ^ 31 by omega), nm_x]
theorem op6 : Op6 := by
  intro k M N hk hR a1 a2 a3 a4 a5
  obtain ⟨D, hD, hL, hC, hRr, hT⟩ := id hR
  have hD20 := hD.1
  rcases i_cases a1 (n := D) (by omega) with ⟨d, hd, rfl⟩ | h
  · have hM : fX10_policy (nI d) a2 a3 a4 a5 M = (if a2 = (-1 : Int32) then (nm (up2 M (222 + d) 0 (0 : Int32)) (fun M29 => some ((1 : Int32), M29))) else (bn1 (fX10_isWithin a2 (0 : Int32) (2 : Int32)) (fun v37 => if v37 = 0 then (some ((0 : Int32), M)) else (bn1 (fX10_isWithin a3 (0 : Int32) (2 : Int32)) (fun v46 => if v46 = 0 then (some ((0 : Int32), M)) else (bn1 (fX10_isWithin a4 (0 : Int32) (3 : Int32)) (fun v56 => if v56 = 0 then (some ((0 : Int32), M)) else (bn1 (fX10_isWithin a5 (0 : Int32) (100 : Int32)) (fun v67 => if v67 = 0 then (some ((0 : Int32), M)) else (bn1 (fX5_fill d a2 a3 a4 a5 M) (fun M83 => some ((1 : Int32), M83)))))))))))) := by
      unfold fX10_policy
      rw [(dom_y hD hd).1, bn1_e, if_neg (by decide), grd_n (by omega) (by omega), cN (by omega)]
    have h46 : ∀ s, fX11_policy_46 (nI d) a2 a3 a4 a5 s N = (if a2 = (-1 : Int32) then fX11_policy_68 (nI d) a2 a3 a4 a5 N else (if s = 0 then some (0, N) else fX11_policy_68 (nI d) a2 a3 a4 a5 N)) := by
      intro s
      unfold fX11_policy_46
      rw [(dom_y hD hd).2, bn1_e, if_neg (by decide)]
    by_cases hm : a2 = -1
    · subst hm
      refine ⟨1, up2 M (222 + d) 0 0, up2 (up2 (up2 (up2 N 14 d (-1)) 15 d a3) 16 d a4) 17 d a5, ?_, ?_, pol_R0 hD hL hC hRr hT hd⟩
      · rw [hM, if_pos rfl, nm_x]
      · unfold fX11_policy fX11_policy_45
        rw [if_pos (by decide), h46, if_pos rfl, pol_N (by omega)]
    · have no : fX11_policy_45 (nI d) a2 a3 a4 a5 N = some (0, N) := by
        unfold fX11_policy_45
        rw [h46, if_neg hm, if_pos rfl]
      have bad : ∀ {x : Int32} {n : Nat}, n < 2 ^ 30 → (x < 0 ∨ (¬ x < 0 ∧ nI (n + 1) ≤ x)) → fX10_isWithin x 0 (nI n) = some 0 := by
        intro x n hn h
        rcases h with h | ⟨h0, h⟩
        · exact win_l h
        · exact win_g hn h0 h
      rcases i_cases a2 (n := 3) (by omega) with ⟨o, ho, rfl⟩ | h
      · rcases i_cases a3 (n := 3) (by omega) with ⟨b, hb, rfl⟩ | h
        · rcases i_cases a4 (n := 4) (by omega) with ⟨s, hs, rfl⟩ | h
          · rcases i_cases a5 (n := 101) (by omega) with ⟨p, hp, rfl⟩ | h
            · refine ⟨1, _, _, ?_, ?_, pol_R1 hD hL hC hRr hT hd ho hb hs hp⟩
              · rw [hM, if_neg hm, show (2 : Int32) = nI 2 from rfl, show (3 : Int32) = nI 3 from rfl, show (100 : Int32) = nI 100 from rfl, win_y (by omega) (by omega), bn1_e, if_neg (by decide), win_y (by omega) (by omega), bn1_e, if_neg (by decide), win_y (by omega) (by omega), bn1_e, if_neg (by decide), win_y (by omega) (by omega), bn1_e, if_neg (by decide)]
                unfold fX5_fill
                rw [nm_x, nm_x, nm_x, nm_x, nm_x, bn1_e]
              · unfold fX11_policy
                rw [show (2 : Int32) = nI 2 from rfl, show (3 : Int32) = nI 3 from rfl, show (100 : Int32) = nI 100 from rfl, if_neg (nI_pos (by omega)), if_neg (nI_nlt (by omega) (by omega)), if_neg (nI_pos (by omega)), if_neg (nI_nlt (by omega) (by omega)), if_neg (nI_pos (by omega)), if_neg (nI_nlt (by omega) (by omega)), if_neg (nI_pos (by omega)), if_neg (nI_nlt (by omega) (by omega)), h46, if_neg hm, if_neg (by decide), pol_N (by omega)]
            · refine ⟨0, M, N, ?_, ?_, hR.up⟩
              · rw [hM, if_neg hm, show (2 : Int32) = nI 2 from rfl, show (3 : Int32) = nI 3 from rfl, show (100 : Int32) = nI 100 from rfl, win_y (by omega) (by omega), bn1_e, if_neg (by decide), win_y (by omega) (by omega), bn1_e, if_neg (by decide), win_y (by omega) (by omega), bn1_e, if_neg (by decide), bad (by omega) h, bn1_e, if_pos rfl]
              · unfold fX11_policy
                rw [show (2 : Int32) = nI 2 from rfl, show (3 : Int32) = nI 3 from rfl, show (100 : Int32) = nI 100 from rfl, if_neg (nI_pos (by omega)), if_neg (nI_nlt (by omega) (by omega)), if_neg (nI_pos (by omega)), if_neg (nI_nlt (by omega) (by omega)), if_neg (nI_pos (by omega)), if_neg (nI_nlt (by omega) (by omega)), no]
                rcases h with h | ⟨h0, h⟩
                · rw [if_pos h]
                · rw [if_neg h0, if_pos (gt_of (by omega) h0 h)]
          · refine ⟨0, M, N, ?_, ?_, hR.up⟩
            · rw [hM, if_neg hm, show (2 : Int32) = nI 2 from rfl, show (3 : Int32) = nI 3 from rfl, win_y (by omega) (by omega), bn1_e, if_neg (by decide), win_y (by omega) (by omega), bn1_e, if_neg (by decide), bad (by omega) h, bn1_e, if_pos rfl]
            · unfold fX11_policy
              rw [show (2 : Int32) = nI 2 from rfl, show (3 : Int32) = nI 3 from rfl, if_neg (nI_pos (by omega)), if_neg (nI_nlt (by omega) (by omega)), if_neg (nI_pos (by omega)), if_neg (nI_nlt (by omega) (by omega)), no]
              rcases h with h | ⟨h0, h⟩
              · rw [if_pos h]
              · rw [if_neg h0, if_pos (gt_of (by omega) h0 h)]
        · refine ⟨0, M, N, ?_, ?_, hR.up⟩
          · rw [hM, if_neg hm, show (2 : Int32) = nI 2 from rfl, win_y (by omega) (by omega), bn1_e, if_neg (by decide), bad (by omega) h, bn1_e, if_pos rfl]
          · unfold fX11_policy
            rw [show (2 : Int32) = nI 2 from rfl, if_neg (nI_pos (by omega)), if_neg (nI_nlt (by omega) (by omega)), no]
            rcases h with h | ⟨h0, h⟩
            · rw [if_pos h]
            · rw [if_neg h0, if_pos (gt_of (by omega) h0 h)]
      · refine ⟨0, M, N, ?_, ?_, hR.up⟩
        · rw [hM, if_neg hm, show (2 : Int32) = nI 2 from rfl, bad (by omega) h, bn1_e, if_pos rfl]
        · unfold fX11_policy
          rw [show (2 : Int32) = nI 2 from rfl, no]
          rcases h with h | ⟨h0, h⟩
          · rw [if_pos h]
          · rw [if_neg h0, if_pos (gt_of (by omega) h0 h)]
  · have no : ∀ s, fX11_policy_46 a1 a2 a3 a4 a5 s N = some (0, N) := by
      intro s
      unfold fX11_policy_46
      rw [(dom_n hD h).2, bn1_e, if_pos rfl]
    refine ⟨0, M, N, ?_, ?_, hR.up⟩
    · unfold fX10_policy
      rw [(dom_n hD h).1, bn1_e, if_pos rfl]
    · unfold fX11_policy fX11_policy_45
      simp only [no, ite_self]
