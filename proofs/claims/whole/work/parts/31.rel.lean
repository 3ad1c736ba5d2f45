/-! the relation between the two memories: M the system's, N the reference's; D domains are there -/
/-- suffixes, parents, homes -/
def RDm (D : Nat) (M N : Mm) : Prop := ∀ d, d < D → M (2 + d) 0 = N 2 d ∧ ∃ h, h ≤ d ∧ M (2 + d) 1 = nI h ∧ ((N 2 d = 1 ∧ h = d) ∨ (N 2 d = 0 ∧ ∃ p, p < d ∧ N 1 d = nI p ∧ ((N 2 p = 1 ∧ h = d) ∨ (N 2 p = 0 ∧ M (2 + p) 1 = nI h))))
/-- silent domains -/
def RDq (M N : Mm) : Prop := ∀ d, d < 20 → M (2 + d) 2 = N 3 d ∧ isB (N 3 d)
/-- hosts: 2d addresses, 2d+1 exchangers, which are domains -/
def RDh (D : Nat) (M N : Mm) : Prop := ∀ i, i < 40 → ∃ c, c ≤ 2 ∧ M (22 + i) 1 = nI c ∧ N 5 i = nI c ∧ ∀ j, j < c → M (62 + i) j = N 4 (2 * i + j) ∧ (i % 2 = 1 → isN D (N 4 (2 * i + j)))
/-- one term of a rule -/
def RTm (D d j : Nat) (M N : Mm) : Prop := M (122 + d) j = N 8 (6 * d + j) ∧ M (142 + d) j = N 9 (6 * d + j) ∧ M (162 + d) j = N 10 (6 * d + j) ∧ M (182 + d) j = N 11 (6 * d + j) ∧ isN 4 (N 8 (6 * d + j)) ∧ ∃ k, k < 6 ∧ N 9 (6 * d + j) = nI k ∧ (2 ≤ k → isN D (N 10 (6 * d + j)))
def RDr (D : Nat) (M N : Mm) : Prop := ∀ d, d < 20 → M (102 + d) 0 = N 6 d ∧ isB (N 6 d) ∧ ∃ c, c ≤ 6 ∧ M (102 + d) 1 = nI c ∧ N 7 d = nI c ∧ ∀ j, j < c → RTm D d j M N
def RDd (D : Nat) (M N : Mm) : Prop := (∀ d, d < D → M (102 + d) 6 = N 12 d ∧ (N 12 d = -1 ∨ isN D (N 12 d))) ∧ ∀ d, D ≤ d → d < 20 → M (102 + d) 6 = -1
def RDk (M N : Mm) : Prop := ∀ d, d < 20 → ∀ j, j < 2 → M (202 + d) j = N 13 (2 * d + j) ∧ isN 1000001 (N 13 (2 * d + j))
def RDp (D : Nat) (M N : Mm) : Prop := (∀ d, d < D → (M (222 + d) 0 = 1 ∧ M (222 + d) 1 = N 14 d ∧ M (222 + d) 2 = N 15 d ∧ M (222 + d) 3 = N 16 d ∧ M (222 + d) 4 = N 17 d ∧ isN 3 (N 14 d) ∧ isN 3 (N 15 d) ∧ isN 4 (N 16 d) ∧ isN 101 (N 17 d)) ∨ (M (222 + d) 0 = 0 ∧ N 14 d = -1)) ∧ (∀ d, D ≤ d → d < 20 → M (222 + d) 0 = 0) ∧ M (222 + 20) 1 = 0 ∧ M (222 + 20) 2 = 0 ∧ M (222 + 20) 3 = 0 ∧ M (222 + 20) 4 = 100
def RD (D : Nat) (M N : Mm) : Prop := D ≤ 20 ∧ M 0 1 = nI D ∧ N 0 0 = nI D ∧ RDm D M N ∧ RDq M N ∧ RDh D M N ∧ RDr D M N ∧ RDd D M N ∧ RDk M N ∧ RDp D M N
/-- the mail: who, and headers, and body -/
def RLw (D : Nat) (M N : Mm) : Prop := M 243 0 = N 0 19 ∧ isB (N 0 19) ∧ (N 0 19 = 1 → isN D (N 0 20) ∧ isN D (N 0 21) ∧ M 243 1 = N 0 20 ∧ M 243 2 = N 0 21 ∧ M 243 3 = N 0 22)
def RLh (M N : Mm) : Prop := ∃ h, h ≤ 6 ∧ M 243 6 = nI h ∧ N 0 23 = nI h ∧ (N 0 19 = 0 → h = 0) ∧ ∀ i, i < h → M 244 i = N 18 i ∧ isN 8 (N 18 i) ∧ ∃ z, z ≤ 24 ∧ M (246 + i) 1 = nI z ∧ N 19 i = nI z ∧ ∀ j, j < z → M (254 + i) j = N 20 (24 * i + j) ∧ N 20 (24 * i + j) ≠ 10
def RLb (M N : Mm) : Prop := ∃ z, z ≤ 90 ∧ M (246 + 6) 1 = nI z ∧ N 0 27 = nI z ∧ ∀ j, j < z → M (254 + 6) j = N 21 j
/-- one signature, or one link's -/
def RSg (D k : Nat) (M N : Mm) : Prop := M (263 + k) 0 = N 22 k ∧ isN D (N 22 k) ∧ M (263 + k) 1 = N 23 k ∧ isN 2 (N 23 k) ∧ M (263 + k) 2 = N 24 k ∧ isN 4 (N 24 k) ∧ M (263 + k) 3 = N 25 k ∧ M (263 + k) 4 = N 26 k ∧ (N 26 k = -1 ∨ isN (2 ^ 31) (N 26 k)) ∧ M (263 + k) 5 = N 27 k ∧ (N 27 k = -1 ∨ isN (2 ^ 31) (N 27 k)) ∧ M (263 + k) 6 = N 28 k ∧ M (263 + k) 7 = N 29 k
def RLs (D : Nat) (M N : Mm) : Prop := ∃ g, g ≤ 3 ∧ M 243 10 = nI g ∧ N 0 29 = nI g ∧ (N 0 19 = 0 → g = 0) ∧ ∀ k, k < g → RSg D k M N
def RLk (D : Nat) (M N : Mm) : Prop := ∃ q, q ≤ 4 ∧ M 243 12 = nI q ∧ N 0 38 = nI q ∧ (N 0 19 = 0 → q = 0) ∧ ∀ k, k < q → RSg D (3 + k) M N ∧ M (271 + k) 1 = N 30 k ∧ M (271 + k) 2 = N 31 k
/-- the check's counts, the report, the time after k calls -/
def RC (M N : Mm) : Prop := M 275 0 = N 0 44 ∧ M 275 1 = N 0 45
def RR (M N : Mm) : Prop := ∃ n, n ≤ 12 ∧ M 0 6 = nI n ∧ N 0 49 = nI n ∧ ∀ k, k < n → M (277 + k) 0 = N 35 k ∧ M (277 + k) 1 = N 36 k ∧ M (277 + k) 2 = N 37 k ∧ M (277 + k) 3 = N 38 k ∧ M (277 + k) 4 = N 39 k
def RT (k : Nat) (M N : Mm) : Prop := ∃ t, t ≤ 1000 * k ∧ M 0 7 = nI t ∧ N 0 18 = nI t
def RMl (D : Nat) (M N : Mm) : Prop := RLw D M N ∧ RLh M N ∧ RLb M N ∧ RLs D M N ∧ RLk D M N
def Rel (k : Nat) (M N : Mm) : Prop := ∃ D, RD D M N ∧ RMl D M N ∧ RC M N ∧ RR M N ∧ RT k M N
/-! each part speaks of certain cells alone -/
theorem RDm.to {D : Nat} {M N M' N' : Mm} (h : RDm D M N) (hD : D ≤ 20) (h1 : ∀ d, d < 20 → ∀ k, k < 2 → M' (2 + d) k = M (2 + d) k) (h2 : N' 1 = N 1) (h3 : N' 2 = N 2) : RDm D M' N' := by
  intro d hd
  obtain ⟨e, q, hq, e1, e2⟩ := h d hd
  refine ⟨by rw [h1 d (by omega) 0 (by omega), h3]; exact e, q, hq, by rw [h1 d (by omega) 1 (by omega)]; exact e1, ?_⟩
  rw [h3]
  rcases e2 with e2 | ⟨e2, p, hp, e3, e4⟩
  · exact Or.inl e2
  · refine Or.inr ⟨e2, p, hp, by rw [h2]; exact e3, ?_⟩
    rcases e4 with e4 | ⟨e4, e5⟩
    · exact Or.inl e4
    · exact Or.inr ⟨e4, by rw [h1 p (by omega) 1 (by omega)]; exact e5⟩
theorem RDq.to {M N M' N' : Mm} (h : RDq M N) (h1 : ∀ d, d < 20 → M' (2 + d) 2 = M (2 + d) 2) (h2 : N' 3 = N 3) : RDq M' N' := by
  intro d hd
  rw [h1 d hd, h2]
  exact h d hd
theorem RDh.to {D E : Nat} {M N M' N' : Mm} (h : RDh D M N) (hE : D ≤ E) (h1 : ∀ i, i < 40 → M' (22 + i) 1 = M (22 + i) 1) (h2 : ∀ i, i < 40 → M' (62 + i) = M (62 + i)) (h3 : N' 4 = N 4) (h4 : N' 5 = N 5) : RDh E M' N' := by
  intro i hi
  obtain ⟨c, hc, e1, e2, e3⟩ := h i hi
  refine ⟨c, hc, by rw [h1 i hi]; exact e1, by rw [h4]; exact e2, fun j hj => ?_⟩
  rw [h2 i hi, h3]
  exact ⟨(e3 j hj).1, fun q => isN_mono hE ((e3 j hj).2 q)⟩
theorem RTm.to {D E d j : Nat} {M N M' N' : Mm} (h : RTm D d j M N) (hE : D ≤ E) (hd : d < 20) (h1 : ∀ t, 122 ≤ t → t < 202 → M' t = M t) (h2 : ∀ t, 8 ≤ t → t < 12 → N' t = N t) : RTm E d j M' N' := by
  unfold RTm at *
  rw [h1 (122 + d) (by omega) (by omega), h1 (142 + d) (by omega) (by omega), h1 (162 + d) (by omega) (by omega), h1 (182 + d) (by omega) (by omega), h2 8 (by omega) (by omega), h2 9 (by omega) (by omega), h2 10 (by omega) (by omega), h2 11 (by omega) (by omega)]
  obtain ⟨a, b, c, e, f, k, hk, ek, g⟩ := h
  exact ⟨a, b, c, e, f, k, hk, ek, fun q => isN_mono hE (g q)⟩
theorem RDr.to {D E : Nat} {M N M' N' : Mm} (h : RDr D M N) (hE : D ≤ E) (h1 : ∀ d, d < 20 → ∀ k, k < 2 → M' (102 + d) k = M (102 + d) k) (h2 : ∀ t, 122 ≤ t → t < 202 → M' t = M t) (h3 : ∀ t, 6 ≤ t → t < 12 → N' t = N t) : RDr E M' N' := by
  intro d hd
  obtain ⟨e1, e2, c, hc, e3, e4, e5⟩ := h d hd
  rw [h1 d hd 0 (by omega), h3 6 (by omega) (by omega), h1 d hd 1 (by omega), h3 7 (by omega) (by omega)]
  exact ⟨e1, e2, c, hc, e3, e4, fun j hj => (e5 j hj).to hE hd h2 (fun t a b => h3 t (by omega) b)⟩
theorem RDd.to {D : Nat} {M N M' N' : Mm} (h : RDd D M N) (hD : D ≤ 20) (h1 : ∀ d, d < 20 → M' (102 + d) 6 = M (102 + d) 6) (h2 : N' 12 = N 12) : RDd D M' N' := by
  refine ⟨fun d hd => ?_, fun d hd hd2 => ?_⟩
  · rw [h1 d (by omega), h2]
    exact h.1 d hd
  · rw [h1 d hd2]
    exact h.2 d hd hd2
theorem RDk.to {M N M' N' : Mm} (h : RDk M N) (h1 : ∀ d, d < 20 → M' (202 + d) = M (202 + d)) (h2 : N' 13 = N 13) : RDk M' N' := by
  intro d hd
  rw [h1 d hd, h2]
  exact h d hd
theorem RDp.to {D : Nat} {M N M' N' : Mm} (h : RDp D M N) (hD : D ≤ 20) (h1 : ∀ d, d < 21 → M' (222 + d) = M (222 + d)) (h2 : ∀ t, 14 ≤ t → t < 18 → N' t = N t) : RDp D M' N' := by
  refine ⟨fun d hd => ?_, fun d hd hd2 => ?_, ?_⟩
  · rw [h1 d (by omega), h2 14 (by omega) (by omega), h2 15 (by omega) (by omega), h2 16 (by omega) (by omega), h2 17 (by omega) (by omega)]
    exact h.1 d hd
  · rw [h1 d (by omega)]
    exact h.2.1 d hd hd2
  · rw [h1 20 (by omega)]
    exact h.2.2
/-- nothing of the domains has changed -/
theorem RD.to {D : Nat} {M N M' N' : Mm} (h : RD D M N) (h0 : M' 0 1 = M 0 1) (h1 : ∀ t, 2 ≤ t → t < 243 → M' t = M t) (h2 : N' 0 0 = N 0 0) (h3 : ∀ t, 1 ≤ t → t < 18 → N' t = N t) : RD D M' N' := by
  obtain ⟨a, b, c, m, q, hh, r, d, k, p⟩ := h
  refine ⟨a, by rw [h0]; exact b, by rw [h2]; exact c, m.to a (fun d hd k _ => by rw [h1 (2 + d) (by omega) (by omega)]) (h3 1 (by omega) (by omega)) (h3 2 (by omega) (by omega)), q.to (fun d hd => by rw [h1 (2 + d) (by omega) (by omega)]) (h3 3 (by omega) (by omega)), hh.to (Nat.le_refl _) (fun i hi => by rw [h1 (22 + i) (by omega) (by omega)]) (fun i hi => h1 (62 + i) (by omega) (by omega)) (h3 4 (by omega) (by omega)) (h3 5 (by omega) (by omega)), r.to (Nat.le_refl _) (fun d hd k _ => by rw [h1 (102 + d) (by omega) (by omega)]) (fun t a b => h1 t (by omega) (by omega)) (fun t a b => h3 t (by omega) (by omega)), d.to a (fun d hd => by rw [h1 (102 + d) (by omega) (by omega)]) (h3 12 (by omega) (by omega)), k.to (fun d hd => h1 (202 + d) (by omega) (by omega)) (h3 13 (by omega) (by omega)), p.to a (fun d hd => h1 (222 + d) (by omega) (by omega)) (fun t a b => h3 t (by omega) (by omega))⟩
theorem RSg.to {D E k : Nat} {M N M' N' : Mm} (h : RSg D k M N) (hE : D ≤ E) (h1 : M' (263 + k) = M (263 + k)) (h2 : ∀ t, 22 ≤ t → t < 30 → N' t k = N t k) : RSg E k M' N' := by
  unfold RSg at *
  rw [h1, h2 22 (by omega) (by omega), h2 23 (by omega) (by omega), h2 24 (by omega) (by omega), h2 25 (by omega) (by omega), h2 26 (by omega) (by omega), h2 27 (by omega) (by omega), h2 28 (by omega) (by omega), h2 29 (by omega) (by omega)]
  exact ⟨h.1, isN_mono hE h.2.1, h.2.2⟩
/-- nothing of the mail has changed; there may be more domains -/
theorem RMl.to {D E : Nat} {M N M' N' : Mm} (h : RMl D M N) (hE : D ≤ E) (h1 : ∀ k, k < 13 → M' 243 k = M 243 k) (h2 : ∀ t, 244 ≤ t → t < 275 → t ≠ 253 → t ≠ 261 → M' t = M t) (h3 : ∀ k, 19 ≤ k → k ≤ 38 → N' 0 k = N 0 k) (h4 : ∀ t, 18 ≤ t → t < 32 → N' t = N t) : RMl E M' N' := by
  obtain ⟨w, hh, b, s, k⟩ := h
  refine ⟨?_, ?_, ?_, ?_, ?_⟩
  · unfold RLw at *
    rw [h1 0 (by omega), h1 1 (by omega), h1 2 (by omega), h1 3 (by omega), h3 19 (by omega) (by omega), h3 20 (by omega) (by omega), h3 21 (by omega) (by omega), h3 22 (by omega) (by omega)]
    exact ⟨w.1, w.2.1, fun q => ⟨isN_mono hE (w.2.2 q).1, isN_mono hE (w.2.2 q).2.1, (w.2.2 q).2.2⟩⟩
  · obtain ⟨n, hn, e1, e2, e3, e4⟩ := hh
    refine ⟨n, hn, by rw [h1 6 (by omega)]; exact e1, by rw [h3 23 (by omega) (by omega)]; exact e2, by rw [h3 19 (by omega) (by omega)]; exact e3, fun i hi => ?_⟩
    rw [h2 244 (by omega) (by omega) (by omega) (by omega), h4 18 (by omega) (by omega), h2 (246 + i) (by omega) (by omega) (by omega) (by omega), h4 19 (by omega) (by omega), h2 (254 + i) (by omega) (by omega) (by omega) (by omega), h4 20 (by omega) (by omega)]
    exact e4 i hi
  · obtain ⟨n, hn, e1, e2, e3⟩ := b
    refine ⟨n, hn, by rw [h2 (246 + 6) (by omega) (by omega) (by omega) (by omega)]; exact e1, by rw [h3 27 (by omega) (by omega)]; exact e2, fun i hi => ?_⟩
    rw [h2 (254 + 6) (by omega) (by omega) (by omega) (by omega), h4 21 (by omega) (by omega)]
    exact e3 i hi
  · obtain ⟨n, hn, e1, e2, e3, e4⟩ := s
    exact ⟨n, hn, by rw [h1 10 (by omega)]; exact e1, by rw [h3 29 (by omega) (by omega)]; exact e2, by rw [h3 19 (by omega) (by omega)]; exact e3, fun i hi => (e4 i hi).to hE (h2 _ (by omega) (by omega) (by omega) (by omega)) (fun t a b => by rw [h4 t (by omega) (by omega)])⟩
  · obtain ⟨n, hn, e1, e2, e3, e4⟩ := k
    refine ⟨n, hn, by rw [h1 12 (by omega)]; exact e1, by rw [h3 38 (by omega) (by omega)]; exact e2, by rw [h3 19 (by omega) (by omega)]; exact e3, fun i hi => ⟨(e4 i hi).1.to hE (h2 _ (by omega) (by omega) (by omega) (by omega)) (fun t a b => by rw [h4 t (by omega) (by omega)]), ?_⟩⟩
    rw [h2 (271 + i) (by omega) (by omega) (by omega) (by omega), h4 30 (by omega) (by omega), h4 31 (by omega) (by omega)]
    exact (e4 i hi).2
theorem RC.to {M N M' N' : Mm} (h : RC M N) (h1 : M' 275 = M 275) (h2 : N' 0 44 = N 0 44) (h3 : N' 0 45 = N 0 45) : RC M' N' := by
  unfold RC at *
  rw [h1, h2, h3]
  exact h
theorem RR.to {M N M' N' : Mm} (h : RR M N) (h1 : M' 0 6 = M 0 6) (h2 : ∀ t, 277 ≤ t → t < 289 → M' t = M t) (h3 : N' 0 49 = N 0 49) (h4 : ∀ t, 35 ≤ t → t < 40 → N' t = N t) : RR M' N' := by
  obtain ⟨n, hn, e1, e2, e3⟩ := h
  refine ⟨n, hn, by rw [h1]; exact e1, by rw [h3]; exact e2, fun k hk => ?_⟩
  rw [h2 (277 + k) (by omega) (by omega), h4 35 (by omega) (by omega), h4 36 (by omega) (by omega), h4 37 (by omega) (by omega), h4 38 (by omega) (by omega), h4 39 (by omega) (by omega)]
  exact e3 k hk
theorem RT.to {k : Nat} {M N M' N' : Mm} (h : RT k M N) (h1 : M' 0 7 = M 0 7) (h2 : N' 0 18 = N 0 18) : RT (k + 1) M' N' := by
  obtain ⟨t, ht, e1, e2⟩ := h
  exact ⟨t, by omega, by rw [h1]; exact e1, by rw [h2]; exact e2⟩
