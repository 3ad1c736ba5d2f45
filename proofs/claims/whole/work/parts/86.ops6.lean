/-! rules -/
theorem ix6 {d j : Nat} : (6 : Int32) * nI d + nI j = nI (6 * d + j) := by
  rw [show (6 : Int32) = nI 6 from rfl, pk_mul, nI_add]
def rlM (M : Mm) (d c : Nat) (s k v b : Int32) : Mm := up2 (up2 (up2 (up2 (up2 (up2 M (122 + d) c s) (142 + d) c k) (162 + d) c v) (182 + d) c b) (102 + d) 1 (nI (c + 1))) (102 + d) 0 1
def rlN (N : Mm) (d c : Nat) (s k v b : Int32) : Mm := up2 (up2 (up2 (up2 (up2 (up2 N 8 (6 * d + c) s) 9 (6 * d + c) k) 10 (6 * d + c) v) 11 (6 * d + c) b) 6 d 1) 7 d (nI (c + 1))
theorem rule_M {d c : Nat} {M : Mm} {s k v b : Int32} (hd : d < 20) (hc : c < 6) (e : M (102 + d) 1 = nI c) : fX7_append d s k v b M = some (nI (c + 1), rlM M d c s k v b) := by
  unfold fX7_append
  rw [e, show (6 : Int32) = nI 6 from rfl, if_pos (nI_lt hc (by omega)), grd_n hc (by omega), nm_x, cN (by omega), up2_t (by omega), e, grd_n hc (by omega), nm_x, cN (by omega), up2_t (by omega), up2_t (by omega), e, grd_n hc (by omega), nm_x, cN (by omega), up2_t (by omega), up2_t (by omega), up2_t (by omega), e, grd_n hc (by omega), nm_x, cN (by omega), nm_x, up2_t (by omega), up2_t (by omega), up2_t (by omega), up2_t (by omega), e, nI_1, nm_x, up2_k (by omega), up2_e]
  rfl
theorem rule_M6 {d : Nat} {M : Mm} {s k v b : Int32} (e : M (102 + d) 1 = nI 6) : fX7_append d s k v b M = some (-2, M) := by
  unfold fX7_append
  rw [e, if_neg (by decide)]
theorem rule_N {d c : Nat} {N : Mm} {s k v b : Int32} (hd : d < 20) (hc : c < 6) (hk : k ≠ 6) (e : N 7 d = nI c) : fX11_rule_100 (nI d) s k v b 0 0 N = some (nI (c + 1), rlN N d c s k v b) := by
  unfold fX11_rule_100
  rw [if_pos rfl, if_pos rfl, if_neg hk, grd_n hd (by omega), cN (show d < 2 ^ 31 by omega), e, show (6 : Int32) = nI 6 from rfl, if_neg (fun q => by have := (nI_eq (by omega) (by omega)).mp q; omega), grd_n hd (by omega), pk_mul, nI_add, nm_x, cN (show 6 * d + c < 2 ^ 31 by omega)]
  simp only [grd_n (show 6 * d + c < 120 by omega) (show 120 < 2 ^ 31 by omega), grd_n hd (show 20 < 2 ^ 31 by omega), nm_x]
  have e' : up2 (up2 (up2 (up2 (up2 N 8 (6 * d + c) s) 9 (6 * d + c) k) 10 (6 * d + c) v) 11 (6 * d + c) b) 6 d 1 7 d = nI c := by
    rw [up2_t (by omega), up2_t (by omega), up2_t (by omega), up2_t (by omega), up2_t (by omega)]
    exact e
  rw [e', nI_1, up2_e]
  rfl
theorem rule_N6 {d : Nat} {N : Mm} {s k v b : Int32} (hd : d < 20) (hk : k ≠ 6) (e : N 7 d = nI 6) : fX11_rule_100 (nI d) s k v b 0 0 N = some (-2, N) := by
  unfold fX11_rule_100
  rw [if_pos rfl, if_pos rfl, if_neg hk, grd_n hd (by omega), cN (show d < 2 ^ 31 by omega), e, if_pos (by decide)]
theorem rule_R {k D d c : Nat} {M N : Mm} {s q : Nat} {v b : Int32} (hD : RD D M N) (hL : RMl D M N) (hC : RC M N) (hR : RR M N) (hT : RT k M N) (hd : d < 20) (hc : c < 6) (e1 : M (102 + d) 1 = nI c) (hs : s < 4) (hq : q < 6) (hv : 2 ≤ q → isN D v) : Rel (k + 1) (rlM M d c (nI s) (nI q) v b) (rlN N d c (nI s) (nI q) v b) := by
  have m1 : ∀ t, t ≠ 102 + d → t ≠ 122 + d → t ≠ 142 + d → t ≠ 162 + d → t ≠ 182 + d → rlM M d c (nI s) (nI q) v b t = M t := fun t h1 h2 h3 h4 h5 => by
    unfold rlM
    rw [up2_o h1, up2_o h1, up2_o h5, up2_o h4, up2_o h3, up2_o h2]
  have m2 : rlM M d c (nI s) (nI q) v b (102 + d) 6 = M (102 + d) 6 := by
    unfold rlM
    rw [up2_k (by omega), up2_k (by omega), up2_t (by omega), up2_t (by omega), up2_t (by omega), up2_t (by omega)]
  have n1 : ∀ t, t < 6 ∨ 11 < t → rlN N d c (nI s) (nI q) v b t = N t := fun t h => by
    unfold rlN
    rw [up2_o (by omega), up2_o (by omega), up2_o (by omega), up2_o (by omega), up2_o (by omega), up2_o (by omega)]
  obtain ⟨x1, x2, x3, m, qq, hh2, r, dd, kk, pp⟩ := hD
  refine Rel.dom (Nat.le_refl _) ⟨x1, by rw [m1 0 (by omega) (by omega) (by omega) (by omega) (by omega)]; exact x2, by rw [n1 0 (by omega)]; exact x3, m.to x1 ?_ ?_ ?_, qq.to ?_ ?_, hh2.to (Nat.le_refl _) ?_ ?_ ?_ ?_, ?_, dd.to x1 ?_ ?_, kk.to ?_ ?_, pp.to x1 ?_ ?_⟩ hL hC hR hT ?_ ?_ ?_ ?_
  · exact fun e he j hj => by rw [m1 _ (by omega) (by omega) (by omega) (by omega) (by omega)]
  · exact n1 1 (by omega)
  · exact n1 2 (by omega)
  · exact fun e he => by rw [m1 _ (by omega) (by omega) (by omega) (by omega) (by omega)]
  · exact n1 3 (by omega)
  · exact fun e he => by rw [m1 _ (by omega) (by omega) (by omega) (by omega) (by omega)]
  · exact fun e he => m1 _ (by omega) (by omega) (by omega) (by omega) (by omega)
  · exact n1 4 (by omega)
  · exact n1 5 (by omega)
  · intro e he
    by_cases hed : e = d
    · subst hed
      have z7 : rlN N e c (nI s) (nI q) v b 7 e = nI (c + 1) := by unfold rlN; rw [up2_e]
      have z6 : rlN N e c (nI s) (nI q) v b 6 e = 1 := by unfold rlN; rw [up2_t (by omega), up2_e]
      have y0 : rlM M e c (nI s) (nI q) v b (102 + e) 0 = 1 := by unfold rlM; rw [up2_e]
      have y1 : rlM M e c (nI s) (nI q) v b (102 + e) 1 = nI (c + 1) := by unfold rlM; rw [up2_k (by omega), up2_e]
      rw [z6, z7, y0, y1]
      refine ⟨rfl, Or.inr rfl, c + 1, by omega, rfl, rfl, fun j hj => ?_⟩
      by_cases hjc : j = c
      · subst hjc
        refine ⟨?_, ?_, ?_, ?_, ?_, q, hq, ?_, ?_⟩
        · unfold rlM rlN
          rw [up2_t (by omega), up2_t (by omega), up2_t (by omega), up2_t (by omega), up2_t (by omega), up2_e, up2_t (by omega), up2_t (by omega), up2_t (by omega), up2_t (by omega), up2_t (by omega), up2_e]
        · unfold rlM rlN
          rw [up2_t (by omega), up2_t (by omega), up2_t (by omega), up2_t (by omega), up2_e, up2_t (by omega), up2_t (by omega), up2_t (by omega), up2_t (by omega), up2_e]
        · unfold rlM rlN
          rw [up2_t (by omega), up2_t (by omega), up2_t (by omega), up2_e, up2_t (by omega), up2_t (by omega), up2_t (by omega), up2_e]
        · unfold rlM rlN
          rw [up2_t (by omega), up2_t (by omega), up2_e, up2_t (by omega), up2_t (by omega), up2_e]
        · unfold rlN
          rw [up2_t (by omega), up2_t (by omega), up2_t (by omega), up2_t (by omega), up2_t (by omega), up2_e]
          exact ⟨s, hs, rfl⟩
        · unfold rlN
          rw [up2_t (by omega), up2_t (by omega), up2_t (by omega), up2_t (by omega), up2_e]
        · unfold rlN
          rw [up2_t (by omega), up2_t (by omega), up2_t (by omega), up2_e]
          exact hv
      · obtain ⟨f1, f2, c', hc', f3, f4, f5⟩ := r e he
        have ec : c' = c := (nI_eq (by omega) (by omega)).mp (f3.symm.trans e1)
        subst ec
        have w1 : ∀ t, (t = 122 + e ∨ t = 142 + e ∨ t = 162 + e ∨ t = 182 + e) → rlM M e c' (nI s) (nI q) v b t j = M t j := fun t ht => by
          unfold rlM
          rw [up2_t (by omega), up2_t (by omega), up2_or (Or.inr hjc), up2_or (Or.inr hjc), up2_or (Or.inr hjc), up2_or (Or.inr hjc)]
        have w2 : ∀ t, 8 ≤ t → rlN N e c' (nI s) (nI q) v b t (6 * e + j) = N t (6 * e + j) := fun t ht => by
          unfold rlN
          rw [up2_t (by omega), up2_t (by omega), up2_or (Or.inr (by omega)), up2_or (Or.inr (by omega)), up2_or (Or.inr (by omega)), up2_or (Or.inr (by omega))]
        unfold RTm
        rw [w1 (122 + e) (by omega), w1 (142 + e) (by omega), w1 (162 + e) (by omega), w1 (182 + e) (by omega), w2 8 (by omega), w2 9 (by omega), w2 10 (by omega), w2 11 (by omega)]
        exact f5 j (by omega)
    · obtain ⟨f1, f2, c', hc', f3, f4, f5⟩ := r e he
      have z6 : rlN N d c (nI s) (nI q) v b 6 e = N 6 e := by
        unfold rlN
        rw [up2_t (by omega), up2_k hed, up2_t (by omega), up2_t (by omega), up2_t (by omega), up2_t (by omega)]
      have z7 : rlN N d c (nI s) (nI q) v b 7 e = N 7 e := by
        unfold rlN
        rw [up2_k hed, up2_t (by omega), up2_t (by omega), up2_t (by omega), up2_t (by omega), up2_t (by omega)]
      rw [z6, z7, m1 (102 + e) (by omega) (by omega) (by omega) (by omega) (by omega)]
      refine ⟨f1, f2, c', hc', f3, f4, fun j hj => ?_⟩
      have w2 : ∀ t, 8 ≤ t → rlN N d c (nI s) (nI q) v b t (6 * e + j) = N t (6 * e + j) := fun t ht => by
        unfold rlN
        rw [up2_t (by omega), up2_t (by omega), up2_or (Or.inr (by omega)), up2_or (Or.inr (by omega)), up2_or (Or.inr (by omega)), up2_or (Or.inr (by omega))]
      unfold RTm
      rw [m1 (122 + e) (by omega) (by omega) (by omega) (by omega) (by omega), m1 (142 + e) (by omega) (by omega) (by omega) (by omega) (by omega), m1 (162 + e) (by omega) (by omega) (by omega) (by omega) (by omega), m1 (182 + e) (by omega) (by omega) (by omega) (by omega) (by omega), w2 8 (by omega), w2 9 (by omega), w2 10 (by omega), w2 11 (by omega)]
      exact f5 j hj
  · intro e he
    by_cases hed : e = d
    · subst hed
      exact m2
    · rw [m1 _ (by omega) (by omega) (by omega) (by omega) (by omega)]
  · exact n1 12 (by omega)
  · exact fun e he => m1 _ (by omega) (by omega) (by omega) (by omega) (by omega)
  · exact n1 13 (by omega)
  · exact fun e he => m1 _ (by omega) (by omega) (by omega) (by omega) (by omega)
  · exact fun t h1 h2 => n1 _ (by omega)
  · exact fun t ht => m1 _ (by omega) (by omega) (by omega) (by omega) (by omega)
  · exact fun j hj => by rw [m1 _ (by omega) (by omega) (by omega) (by omega) (by omega)]
  · exact fun t ht => n1 _ (by omega)
  · exact fun j hj => by rw [n1 _ (by omega)]
theorem redir_R {k D d v : Nat} {M N : Mm} (hD : RD D M N) (hL : RMl D M N) (hC : RC M N) (hR : RR M N) (hT : RT k M N) (hd : d < D) (hv : v < D) : Rel (k + 1) (up2 (up2 M (102 + d) 6 (nI v)) (102 + d) 0 1) (up2 (up2 N 6 d 1) 12 d (nI v)) := by
  have m1 : ∀ t, t ≠ 102 + d → up2 (up2 M (102 + d) 6 (nI v)) (102 + d) 0 1 t = M t := fun t h => by rw [up2_o h, up2_o h]
  have n1 : ∀ t, t ≠ 6 → t ≠ 12 → up2 (up2 N 6 d 1) 12 d (nI v) t = N t := fun t h1 h2 => by rw [up2_o h2, up2_o h1]
  obtain ⟨x1, x2, x3, m, qq, hh2, r, dd, kk, pp⟩ := hD
  refine Rel.dom (Nat.le_refl _) ⟨x1, by rw [m1 0 (by omega)]; exact x2, by rw [n1 0 (by omega) (by omega)]; exact x3, m.to x1 ?_ ?_ ?_, qq.to ?_ ?_, hh2.to (Nat.le_refl _) ?_ ?_ ?_ ?_, ?_, ⟨?_, ?_⟩, kk.to ?_ ?_, pp.to x1 ?_ ?_⟩ hL hC hR hT ?_ ?_ ?_ ?_
  · exact fun e he j hj => by rw [m1 _ (by omega)]
  · exact n1 1 (by omega) (by omega)
  · exact n1 2 (by omega) (by omega)
  · exact fun e he => by rw [m1 _ (by omega)]
  · exact n1 3 (by omega) (by omega)
  · exact fun e he => by rw [m1 _ (by omega)]
  · exact fun e he => m1 _ (by omega)
  · exact n1 4 (by omega) (by omega)
  · exact n1 5 (by omega) (by omega)
  · intro e he
    obtain ⟨f1, f2, c', hc', f3, f4, f5⟩ := r e he
    have t1 : ∀ j, j < c' → RTm D e j (up2 (up2 M (102 + d) 6 (nI v)) (102 + d) 0 1) (up2 (up2 N 6 d 1) 12 d (nI v)) := fun j hj => (f5 j hj).to (Nat.le_refl _) he (fun t a b => m1 t (by omega)) (fun t a b => n1 t (by omega) (by omega))
    by_cases hed : e = d
    · subst hed
      refine ⟨?_, ?_, c', hc', ?_, ?_, t1⟩
      · rw [up2_e, up2_t (by omega), up2_e]
      · rw [up2_t (by omega), up2_e]
        exact Or.inr rfl
      · rw [up2_k (by omega), up2_k (by omega)]
        exact f3
      · rw [n1 7 (by omega) (by omega)]
        exact f4
    · refine ⟨?_, ?_, c', hc', ?_, ?_, t1⟩
      · rw [m1 _ (by omega), up2_t (by omega), up2_k hed]
        exact f1
      · rw [up2_t (by omega), up2_k hed]
        exact f2
      · rw [m1 _ (by omega)]
        exact f3
      · rw [n1 7 (by omega) (by omega)]
        exact f4
  · intro e he
    by_cases hed : e = d
    · subst hed
      rw [up2_k (by omega), up2_e, up2_e]
      exact ⟨rfl, Or.inr ⟨v, hv, rfl⟩⟩
    · rw [m1 _ (by omega), up2_k hed, up2_t (by omega)]
      exact dd.1 e he
  · intro e h1 h2
    rw [m1 _ (by omega)]
    exact dd.2 e h1 h2
  · exact fun e he => m1 _ (by omega)
  · exact n1 13 (by omega) (by omega)
  · exact fun e he => m1 _ (by omega)
  · exact fun t h1 h2 => n1 _ (by omega) (by omega)
  · exact fun t ht => m1 _ (by omega)
  · exact fun j hj => by rw [m1 _ (by omega)]
  · exact fun t ht => n1 _ (by omega) (by omega)
  · exact fun j hj => by rw [n1 _ (by omega) (by omega)]
/-- the reference's three words on a rule: a term, too far, lost -/
theorem rule_term {a1 a2 a3 a4 a5 : Int32} {N : Mm} {X : Option (Int32 × Mm)} (h : ∀ s, (s = 1 ∧ (∃ q, q < 6 ∧ a3 = nI q) ∧ (∃ g, g < 4 ∧ a2 = nI g)) ∨ (s = 0 ∧ ¬ ((∃ q, q < 6 ∧ a3 = nI q) ∧ (∃ g, g < 4 ∧ a2 = nI g))) → fX11_rule_23 a1 a2 a3 a4 a5 s N = X) : fX11_rule a1 a2 a3 a4 a5 N = X := by
  unfold fX11_rule fX11_rule_22
  have no3 : a3 < 0 ∨ (5 : Int32) < a3 → ¬ ∃ q, q < 6 ∧ a3 = nI q := by
    rintro hx ⟨q, hq, rfl⟩
    rcases hx with hx | hx
    · exact nI_pos (by omega) hx
    · exact nI_nlt (a := 5) (b := q) (by omega) (by omega) hx
  have no2 : a2 < 0 ∨ (3 : Int32) < a2 → ¬ ∃ q, q < 4 ∧ a2 = nI q := by
    rintro hx ⟨q, hq, rfl⟩
    rcases hx with hx | hx
    · exact nI_pos (by omega) hx
    · exact nI_nlt (a := 3) (b := q) (by omega) (by omega) hx
  have ys : ∀ {x : Int32} {n : Nat} (c : Int32), c = nI n → n < 2 ^ 30 → ¬ x < 0 → ¬ c < x → ∃ q, q < n + 1 ∧ x = nI q := by
    intro x n c hc hn h0 h1
    obtain ⟨j, hj, rfl⟩ := nI_of h0
    refine ⟨j, ?_, rfl⟩
    subst hc
    by_cases hjn : j < n + 1
    · exact hjn
    · exact absurd (nI_lt (by omega) hj) h1
  by_cases h1 : a3 < 0
  · rw [if_pos h1]
    exact h 0 (Or.inr ⟨rfl, fun q => no3 (Or.inl h1) q.1⟩)
  · rw [if_neg h1]
    by_cases h2 : (5 : Int32) < a3
    · rw [if_pos h2]
      exact h 0 (Or.inr ⟨rfl, fun q => no3 (Or.inr h2) q.1⟩)
    · rw [if_neg h2]
      by_cases h3 : a2 < 0
      · rw [if_pos h3]
        exact h 0 (Or.inr ⟨rfl, fun q => no2 (Or.inl h3) q.2⟩)
      · rw [if_neg h3]
        by_cases h4 : (3 : Int32) < a2
        · rw [if_pos h4]
          exact h 0 (Or.inr ⟨rfl, fun q => no2 (Or.inr h4) q.2⟩)
        · rw [if_neg h4]
          exact h 1 (Or.inl ⟨rfl, ys 5 rfl (by omega) h1 h2, ys 3 rfl (by omega) h3 h4⟩)
theorem op4 : Op4 := by
  intro k M N hk hR a1 a2 a3 a4 a5
  obtain ⟨D, hD, hL, hC, hRr, hT⟩ := id hR
  have hD20 := hD.1
  rcases i_cases a1 (n := D) (by omega) with ⟨d, hd, rfl⟩ | h
  · have h79 : ∀ x6 x7 s, fX11_rule_79 (nI d) a2 a3 a4 a5 x6 x7 s N = (if x6 = 0 then (if a3 = (6 : Int32) then (fX11_rule_100 (nI d) a2 a3 a4 a5 x7 s N) else (some ((-1 : Int32), N))) else (fX11_rule_100 (nI d) a2 a3 a4 a5 x7 s N)) := by
      intro x6 x7 s
      unfold fX11_rule_79
      rw [(dom_y hD hd).2, bn1_e, if_neg (by decide)]
    have h100 : ∀ s, fX11_rule_100 (nI d) a2 a3 a4 a5 0 1 N = some (-1, N) ∧ fX11_rule_100 (nI d) a2 a3 a4 a5 1 s N = some (-1, N) := by
      intro s
      unfold fX11_rule_100
      exact ⟨by rw [if_pos rfl, if_neg (by decide)], by rw [if_neg (by decide)]⟩
    have hMM : fX10_rule (nI d) a2 a3 a4 a5 M = (bn1 (fX10_isWithin a3 (0 : Int32) (6 : Int32)) (fun v12 => if v12 = 0 then (some ((-1 : Int32), M)) else (if a3 < (2 : Int32) then (fX10_rule_36 (nI d) a2 a3 a4 a5 M) else (bn1 (fX10_isDomain a4 M) (fun v28 => if v28 = 0 then (some ((-1 : Int32), M)) else (fX10_rule_36 (nI d) a2 a3 a4 a5 M)))))) := by
      unfold fX10_rule
      rw [(dom_y hD hd).1, bn1_e, if_neg (by decide)]
    have h36 : fX10_rule_36 (nI d) a2 a3 a4 a5 M = (if a3 = (6 : Int32) then (bn2 (fX7_redirectTo d a4 M) (fun v57 M57 => some (v57, M57))) else (bn1 (fX10_isWithin a2 (0 : Int32) (3 : Int32)) (fun v64 => if v64 = 0 then (some ((-1 : Int32), M)) else (bn1 (fX10_hasLength a3) (fun v71 => if v71 = 0 then (fX10_rule_90 (nI d) a2 a3 a4 a5 d M) else (bn1 (fX10_isWithin a5 (0 : Int32) (32 : Int32)) (fun v82 => if v82 = 0 then (some ((-1 : Int32), M)) else (fX10_rule_90 (nI d) a2 a3 a4 a5 d M)))))))) := by
      unfold fX10_rule_36
      rw [grd_n (by omega) (by omega), cN (by omega)]
    rcases i_cases a3 (n := 7) (by omega) with ⟨q, hq, rfl⟩ | h
    · -- what the length says
      have far : ∀ x6, q < 7 → (∃ s, fX11_rule_23 (nI d) a2 (nI q) a4 a5 x6 N = fX11_rule_52 (nI d) a2 (nI q) a4 a5 x6 s N ∧ ((s = 0 ∧ (fX10_hasLength (nI q) = some 0 ∨ (fX10_hasLength (nI q) = some 1 ∧ fX10_isWithin a5 0 32 = some 1))) ∨ (s = 1 ∧ fX10_hasLength (nI q) = some 1 ∧ fX10_isWithin a5 0 32 = some 0))) := by
        intro x6 hq7
        unfold fX11_rule_23 fX11_rule_51 fX11_rule_47
        by_cases hq1 : 1 ≤ q ∧ q ≤ 3
        · have hl : fX10_hasLength (nI q) = some 1 := by
            unfold fX10_hasLength
            rw [within_y (show (1 : Int32) ≤ nI q from nI_le (a := 1) (by omega) (by omega)) (show nI q ≤ (3 : Int32) from nI_le (b := 3) (by omega) (by omega)), bn1_e, grd_z1]
          rw [if_neg (show ¬ nI q < (1 : Int32) from nI_nlt (b := 1) (by omega) (by omega)), if_neg (show ¬ (3 : Int32) < nI q from nI_nlt (a := 3) (by omega) (by omega))]
          rcases i_cases a5 (n := 33) (by omega) with ⟨y, hy, rfl⟩ | hx | ⟨h0, hx⟩
          · rw [if_neg (nI_pos (by omega)), if_pos (show nI y ≤ (32 : Int32) from nI_le (b := 32) (by omega) (by omega))]
            exact ⟨0, rfl, Or.inl ⟨rfl, Or.inr ⟨hl, win_y (n := 32) (by omega) (by omega)⟩⟩⟩
          · rw [if_pos hx]
            exact ⟨1, rfl, Or.inr ⟨rfl, hl, win_l hx⟩⟩
          · rw [if_neg h0, if_neg (show ¬ a5 ≤ (32 : Int32) by rw [Int32.not_le]; exact gt_of (n := 32) (by omega) h0 hx)]
            exact ⟨1, rfl, Or.inr ⟨rfl, hl, win_g (n := 32) (by omega) h0 hx⟩⟩
        · have hl : fX10_hasLength (nI q) = some 0 := by
            unfold fX10_hasLength
            rw [within_n (by
              by_cases h1 : q < 1
              · exact Or.inl (show nI q < (1 : Int32) from nI_lt (b := 1) h1 (by omega))
              · exact Or.inr (show (3 : Int32) < nI q from nI_lt (a := 3) (by omega) (by omega))), bn1_e, grd_z0]
          refine ⟨0, ?_, Or.inl ⟨rfl, Or.inl hl⟩⟩
          by_cases h1 : q < 1
          · rw [if_pos (show nI q < (1 : Int32) from nI_lt (b := 1) h1 (by omega))]
          · rw [if_neg (show ¬ nI q < (1 : Int32) from nI_nlt (b := 1) (by omega) (by omega)), if_pos (show (3 : Int32) < nI q from nI_lt (a := 3) (by omega) (by omega))]
      have hw6 : fX10_isWithin (nI q) (0 : Int32) (6 : Int32) = some 1 := win_y (n := 6) (by omega) (by omega)
      rw [hw6, bn1_e, if_neg (by decide)] at hMM
      -- is the value lost
      have lost : (∀ x6 x7, fX11_rule_52 (nI d) a2 (nI q) a4 a5 x6 x7 N = fX11_rule_79 (nI d) a2 (nI q) a4 a5 x6 x7 0 N) ∧ fX10_rule (nI d) a2 (nI q) a4 a5 M = fX10_rule_36 (nI d) a2 (nI q) a4 a5 M ∧ (2 ≤ q → isN D a4) ∨ (∀ x6 x7, fX11_rule_52 (nI d) a2 (nI q) a4 a5 x6 x7 N = fX11_rule_79 (nI d) a2 (nI q) a4 a5 x6 x7 1 N) ∧ fX10_rule (nI d) a2 (nI q) a4 a5 M = some (-1, M) := by
        unfold fX11_rule_52 fX11_rule_78
        rw [hMM]
        by_cases h2 : q < 2
        · refine Or.inl ⟨fun x6 x7 => ?_, ?_, fun z => by omega⟩
          · rw [if_pos (show nI q < (2 : Int32) from nI_lt (b := 2) h2 (by omega))]
          · rw [if_pos (show nI q < (2 : Int32) from nI_lt (b := 2) h2 (by omega))]
        · rw [if_neg (show ¬ nI q < (2 : Int32) from nI_nlt (b := 2) (by omega) (by omega))]
          rcases i_cases a4 (n := D) (by omega) with ⟨w, hw, rfl⟩ | hx
          · refine Or.inl ⟨fun x6 x7 => ?_, ?_, fun _ => ⟨w, hw, rfl⟩⟩
            · rw [if_neg (show ¬ nI q < (2 : Int32) from nI_nlt (b := 2) (by omega) (by omega)), if_neg (show ¬ (6 : Int32) < nI q from nI_nlt (a := 6) (by omega) (by omega)), (dom_y hD hw).2, bn1_e, if_neg (by decide)]
            · rw [(dom_y hD hw).1, bn1_e, if_neg (by decide)]
          · refine Or.inr ⟨fun x6 x7 => ?_, ?_⟩
            · rw [if_neg (show ¬ nI q < (2 : Int32) from nI_nlt (b := 2) (by omega) (by omega)), if_neg (show ¬ (6 : Int32) < nI q from nI_nlt (a := 6) (by omega) (by omega)), (dom_n hD hx).2, bn1_e, if_pos rfl]
            · rw [(dom_n hD hx).1, bn1_e, if_pos rfl]
      rcases lost with ⟨l1, l2, l3⟩ | ⟨l1, l2⟩
      · by_cases h6 : q = 6
        · -- a redirect
          subst h6
          obtain ⟨v, hv, rfl⟩ := l3 (by omega)
          obtain ⟨f1, f2, c', hc', f3, f4, f5⟩ := hD.2.2.2.2.2.2.1 d (by omega)
          refine ⟨nI c', _, _, ?_, rule_term ?_, redir_R hD hL hC hRr hT hd hv⟩
          · rw [l2, h36, if_pos (by decide)]
            unfold fX7_redirectTo
            rw [nm_x, nm_x, up2_k (by omega), up2_k (by omega), f3, bn2_e]
          · rintro s (⟨rfl, ⟨q, hq6, e6⟩, -⟩ | ⟨rfl, -⟩)
            · have := (nI_eq (by omega) (by omega)).mp e6
              omega
            · obtain ⟨x, e1, e2⟩ := far 0 hq
              have hl : fX10_hasLength (nI 6) = some 0 := by decide
              have hx : x = 0 := by
                rcases e2 with e2 | e2
                · exact e2.1
                · rw [hl] at e2
                  exact absurd e2.2.1 (by decide)
              subst hx
              rw [e1, l1, h79, if_pos rfl, if_pos (by decide)]
              unfold fX11_rule_100
              rw [if_pos rfl, if_pos rfl, if_pos (by decide), cN (show d < 2 ^ 31 by omega)]
              simp only [grd_n (show d < 20 by omega) (show 20 < 2 ^ 31 by omega), nm_x]
              rw [up2_t (by omega), up2_t (by omega), f4]
        · have hq6 : nI q ≠ 6 := fun z => h6 ((nI_eq (a := q) (b := 6) (by omega) (by omega)).mp z)
          rw [if_neg hq6] at h36
          rcases i_cases a2 (n := 4) (by omega) with ⟨g, hg, rfl⟩ | hx
          · -- a term with a right sign
            have hw3 : fX10_isWithin (nI g) (0 : Int32) (3 : Int32) = some 1 := win_y (n := 3) (by omega) (by omega)
            rw [hw3, bn1_e, if_neg (by decide)] at h36
            obtain ⟨x, e1, e2⟩ := far 1 hq
            have hN : fX11_rule (nI d) (nI g) (nI q) a4 a5 N = fX11_rule_100 (nI d) (nI g) (nI q) a4 a5 x 0 N := by
              refine rule_term ?_
              rintro s (⟨rfl, -, -⟩ | ⟨rfl, z⟩)
              · rw [e1, l1, h79, if_neg (by decide)]
              · exact absurd ⟨⟨q, by omega, rfl⟩, ⟨g, hg, rfl⟩⟩ z
            rcases e2 with ⟨rfl, e2⟩ | ⟨rfl, e2, e3⟩
            · have hM2 : fX10_rule (nI d) (nI g) (nI q) a4 a5 M = fX10_rule_90 (nI d) (nI g) (nI q) a4 a5 d M := by
                rw [l2, h36]
                rcases e2 with e2 | ⟨e2, e3⟩
                · rw [e2, bn1_e, if_pos rfl]
                · rw [e2, bn1_e, if_neg (by decide), e3, bn1_e, if_neg (by decide)]
              obtain ⟨f1, f2, c', hc', f3, f4, f5⟩ := hD.2.2.2.2.2.2.1 d (by omega)
              by_cases hc6 : c' < 6
              · refine ⟨nI (c' + 1), _, _, ?_, ?_, rule_R (b := a5) hD hL hC hRr hT (by omega) hc6 f3 hg (by omega) l3⟩
                · rw [hM2]
                  unfold fX10_rule_90
                  rw [rule_M (by omega) hc6 f3, bn2_e]
                · rw [hN, rule_N (by omega) hc6 hq6 f4]
              · obtain rfl : c' = 6 := by omega
                refine ⟨-2, M, N, ?_, ?_, hR.up⟩
                · rw [hM2]
                  unfold fX10_rule_90
                  rw [rule_M6 f3, bn2_e]
                · rw [hN, rule_N6 (by omega) hq6 f4]
            · refine ⟨-1, M, N, ?_, ?_, hR.up⟩
              · rw [l2, h36, e2, bn1_e, if_neg (by decide), e3, bn1_e, if_pos rfl]
              · rw [hN, (h100 0).2]
          · refine ⟨-1, M, N, ?_, rule_term ?_, hR.up⟩
            · rw [l2, h36]
              rcases hx with hx | ⟨h0, hx⟩
              · rw [win_l hx, bn1_e, if_pos rfl]
              · rw [show (3 : Int32) = nI 3 from rfl, win_g (by omega) h0 hx, bn1_e, if_pos rfl]
            · rintro s (⟨rfl, -, g, hg, rfl⟩ | ⟨rfl, -⟩)
              · exfalso
                rcases hx with hx | ⟨h0, hx⟩
                · exact nI_pos (by omega) hx
                · exact nI_ge hg (by omega) hx
              · obtain ⟨x, e1, -⟩ := far 0 hq
                rw [e1, l1, h79, if_pos rfl, if_neg hq6]
      · refine ⟨-1, M, N, l2, rule_term ?_, hR.up⟩
        rintro s -
        obtain ⟨x, e1, e2⟩ := far s hq
        have hx : x = 0 ∨ x = 1 := by
          rcases e2 with e2 | e2
          · exact Or.inl e2.1
          · exact Or.inr e2.1
        have h1 : fX11_rule_100 (nI d) a2 (nI q) a4 a5 x 1 N = some (-1, N) := by
          rcases hx with rfl | rfl
          · exact (h100 0).1
          · exact (h100 1).2
        rw [e1, l1, h79, h1]
        by_cases hs : s = 0
        · rw [if_pos hs]
          by_cases h6 : nI q = 6
          · rw [if_pos h6]
          · rw [if_neg h6]
        · rw [if_neg hs]
    · refine ⟨-1, M, N, ?_, rule_term ?_, hR.up⟩
      · rw [hMM]
        rcases h with h | ⟨h0, h⟩
        · rw [win_l h, bn1_e, if_pos rfl]
        · rw [show (6 : Int32) = nI 6 from rfl, win_g (by omega) h0 h, bn1_e, if_pos rfl]
      · have n6 : a3 ≠ 6 := by
          rintro rfl
          rcases h with h | ⟨h0, h⟩
          · exact absurd h (by decide)
          · exact absurd h (by decide)
        have e52 : ∀ x6 x7, ∃ z, fX11_rule_52 (nI d) a2 a3 a4 a5 x6 x7 N = fX11_rule_79 (nI d) a2 a3 a4 a5 x6 x7 z N := by
          intro x6 x7
          unfold fX11_rule_52 fX11_rule_78
          by_cases z1 : a3 < (2 : Int32)
          · exact ⟨0, by rw [if_pos z1]⟩
          · rcases h with h | ⟨h0, h⟩
            · exact absurd (Int32.lt_trans h (by decide)) z1
            · exact ⟨0, by rw [if_neg z1, if_pos (show (6 : Int32) < a3 from gt_of (n := 6) (by omega) h0 h)]⟩
        have e23 : ∀ x6, ∃ x7, fX11_rule_23 (nI d) a2 a3 a4 a5 x6 N = fX11_rule_52 (nI d) a2 a3 a4 a5 x6 x7 N := by
          intro x6
          unfold fX11_rule_23 fX11_rule_51 fX11_rule_47
          by_cases z1 : a3 < (1 : Int32)
          · exact ⟨0, by rw [if_pos z1]⟩
          · rcases h with h | ⟨h0, h⟩
            · exact absurd (Int32.lt_trans h (by decide)) z1
            · refine ⟨0, by rw [if_neg z1, if_pos (show (3 : Int32) < a3 from Int32.lt_of_lt_of_le (show (3 : Int32) < nI 7 by decide) h)]⟩
        rintro s (⟨rfl, ⟨q, hq, rfl⟩, -⟩ | ⟨rfl, -⟩)
        · exfalso
          rcases h with h | ⟨h0, h⟩
          · exact nI_pos (by omega) h
          · exact nI_ge (b := 7) (by omega) (by omega) h
        · obtain ⟨x7, e1⟩ := e23 0
          obtain ⟨z, e2⟩ := e52 0 x7
          rw [e1, e2, h79, if_pos rfl, if_neg n6]
  · have h79 : ∀ x6 x7 s, fX11_rule_79 a1 a2 a3 a4 a5 x6 x7 s N = some (-1, N) := by
      intro x6 x7 s
      unfold fX11_rule_79
      rw [(dom_n hD h).2, bn1_e, if_pos rfl]
    refine ⟨-1, M, N, ?_, rule_term ?_, hR.up⟩
    · unfold fX10_rule
      rw [(dom_n hD h).1, bn1_e, if_pos rfl]
    · rintro s -
      have e52 : ∀ x6 x7, fX11_rule_52 a1 a2 a3 a4 a5 x6 x7 N = some (-1, N) := by
        intro x6 x7
        unfold fX11_rule_52 fX11_rule_78
        simp only [h79]
        by_cases z1 : a3 < (2 : Int32)
        · rw [if_pos z1]
        · rw [if_neg z1]
          by_cases z2 : (6 : Int32) < a3
          · rw [if_pos z2]
          · rw [if_neg z2]
            rcases i_cases a4 (n := D) (by omega) with ⟨w, hw, rfl⟩ | hx
            · rw [(dom_y hD hw).2, bn1_e, if_neg (by decide)]
            · rw [(dom_n hD hx).2, bn1_e, if_pos rfl]
      unfold fX11_rule_23 fX11_rule_51 fX11_rule_47
      simp only [e52, ite_self]
