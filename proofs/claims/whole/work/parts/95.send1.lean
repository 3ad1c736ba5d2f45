/-! the sender: addresses, hosts, exchangers, single terms -/
theorem agree_eq {N : Mm} {ad : Int32} (h : N 0 22 = ad) (v len : Int32) : fX11_agrees v len N = fX10_agree v ad len ∧ (fX10_agree v ad len = some 0 ∨ fX10_agree v ad len = some 1) := by
  unfold fX11_agrees fX10_agree
  rw [h]
  refine ⟨rfl, ?_⟩
  by_cases h1 : len = 0
  · exact Or.inr (if_pos h1)
  · rw [if_neg h1]
    by_cases h2 : (ushr32 (v ^^^ ad) ((32 : Int32) - len)) = 0
    · exact Or.inr (if_pos h2)
    · exact Or.inl (if_neg h2)
theorem ix4 {x j : Nat} : (4 : Int32) * nI x + nI j = nI (4 * x + j) := by
  rw [show (4 : Int32) = nI 4 from rfl, pk_mul, nI_add]
theorem ix2a {x : Nat} : (2 : Int32) * nI x = nI (2 * x) := by
  rw [show (2 : Int32) = nI 2 from rfl, pk_mul]
theorem at_one {x c : Nat} {len : Int32} {N : Mm} (hx : x < 20) (hc : c ≤ 2) (e : N 5 (2 * x) = nI c) : ∀ (n j : Nat), c < j + n → j ≤ c → fX11_isAt_5 (nI x) len N n 1 (nI j) = some 1 := by
  intro n
  induction n with
  | zero => intro j h1 h2; omega
  | succ n ih =>
    intro j h1 h2
    rw [fX11_isAt_5, ix2a, grd_n (by omega) (by omega), cN (by omega), e]
    by_cases hj : j = c
    · subst hj
      rw [if_pos (nI_le (Nat.le_refl _) (by omega)), grd_z1]
    · rw [if_neg (nI_ge (by omega) (by omega)), if_neg (by decide)]
      unfold fX11_isAt_41 fX11_isAt_46
      rw [nI_1]
      exact ih (j + 1) (by omega) (by omega)
theorem at_eq {D x : Nat} {ad len : Int32} {M N : Mm} (hD : RD D M N) (hx : x < 20) (ha : N 0 22 = ad) : ∃ r, (r = 0 ∨ r = 1) ∧ fX2_holdOneLike (2 * x) ad len M = some r ∧ fX11_isAt (nI x) len N = some r := by
  obtain ⟨c, hc, e1, e2, e3⟩ := hD.2.2.2.2.2.1 (2 * x) (by omega)
  have loop : ∀ (n j : Nat), c < j + n → j ≤ c → ∃ r, (r = 0 ∨ r = 1) ∧ fX2_holdOneLike_2 (2 * x) ad len M n (nI j) = some r ∧ fX11_isAt_5 (nI x) len N n 0 (nI j) = some r := by
    intro n
    induction n with
    | zero => intro j h1 h2; omega
    | succ n ih =>
      intro j h1 h2
      rw [fX2_holdOneLike_2, fX11_isAt_5, ix2a, grd_n (show 2 * x < 40 by omega) (by omega), cN (show 2 * x < 2 ^ 31 by omega), e1, e2]
      by_cases hj : j = c
      · subst hj
        rw [if_pos (nI_le (Nat.le_refl _) (by omega)), if_pos (nI_le (Nat.le_refl _) (by omega)), grd_z0]
        exact ⟨0, Or.inl rfl, rfl, rfl⟩
      · rw [if_neg (nI_ge (by omega) (by omega)), if_neg (nI_ge (by omega) (by omega)), if_pos rfl, grd_n (show j < 2 by omega) (by omega), cN (show j < 2 ^ 31 by omega), (e3 j (by omega)).1, ix4, grd_n (by omega) (by omega), cN (show 4 * x + j < 2 ^ 31 by omega), show 2 * (2 * x) + j = 4 * x + j by omega]
        obtain ⟨g1, g2⟩ := agree_eq ha (N 4 (4 * x + j)) len
        rw [g1]
        unfold fX11_isAt_41 fX11_isAt_46
        rcases g2 with g2 | g2
        · rw [g2, bn1_e, bn1_e, if_pos rfl, if_pos rfl, nI_1]
          exact ih (j + 1) (by omega) (by omega)
        · rw [g2, bn1_e, bn1_e, if_neg (by decide), if_neg (by decide), nI_1, at_one hx hc e2 n (j + 1) (by omega) (by omega)]
          exact ⟨1, Or.inr rfl, rfl, rfl⟩
  exact loop FU 0 (show c < 0 + 300 by omega) (by omega)
theorem ex_eq {D v : Nat} {ad len : Int32} {M N : Mm} (hD : RD D M N) (hv : v < 20) (ha : N 0 22 = ad) : ∃ r, (r = 0 ∨ r = 1 ∨ r = 5) ∧ fX0_exchangers (2 * v + 1) ad len M = some r ∧ fX11_tryExchangers (nI v) len N = some r := by
  have hD20 := hD.1
  obtain ⟨c, hc, e1, e2, e3⟩ := hD.2.2.2.2.2.1 (2 * v + 1) (by omega)
  have loop : ∀ (n j : Nat), c < j + n → j ≤ c → ∃ r, (r = 0 ∨ r = 1 ∨ r = 5) ∧ fX0_exchangers_3 (2 * v + 1) ad len M n (nI j) = some r ∧ fX11_tryExchangers_2 (nI v) len N n (nI j) = some r := by
    intro n
    induction n with
    | zero => intro j h1 h2; omega
    | succ n ih =>
      intro j h1 h2
      rw [fX0_exchangers_3, fX11_tryExchangers_2, show (2 : Int32) * nI v + 1 = nI (2 * v + 1) from ix2 (j := 1), grd_n (show 2 * v + 1 < 40 by omega) (by omega), cN (show 2 * v + 1 < 2 ^ 31 by omega), e1, e2]
      by_cases hj : j = c
      · subst hj
        rw [if_pos (nI_le (Nat.le_refl _) (by omega)), if_pos (nI_le (Nat.le_refl _) (by omega))]
        exact ⟨0, Or.inl rfl, rfl, rfl⟩
      · obtain ⟨f1, f2⟩ := e3 j (by omega)
        obtain ⟨w, hw, ew⟩ := f2 (by omega)
        have ei : (4 : Int32) * nI v + 2 + nI j = nI (2 * (2 * v + 1) + j) := by
          rw [show (4 : Int32) * nI v + 2 = nI (4 * v + 2) from ix4 (j := 2), nI_add, show 4 * v + 2 + j = 2 * (2 * v + 1) + j by omega]
        rw [if_neg (nI_ge (by omega) (by omega)), if_neg (nI_ge (by omega) (by omega)), ei, grd_n (show j < 2 by omega) (by omega), cN (show j < 2 ^ 31 by omega), f1, grd_n (show 2 * (2 * v + 1) + j < 80 by omega) (by omega), cN (show 2 * (2 * v + 1) + j < 2 ^ 31 by omega), nm_x, ew, grd_n (show w < 20 by omega) (by omega), grd_n (show w < 20 by omega) (by omega), cN (show w < 2 ^ 31 by omega), (hD.2.2.2.2.1 w (by omega)).1]
        by_cases hq : N 3 w = 0
        · rw [if_pos hq, if_pos hq]
          obtain ⟨r, hr, g1, g2⟩ := at_eq (len := len) hD (show w < 20 by omega) ha
          rw [g1, g2, bn1_e, bn1_e]
          rcases hr with rfl | rfl
          · rw [if_pos rfl, if_pos rfl, nI_1]
            exact ih (j + 1) (by omega) (by omega)
          · rw [if_neg (by decide), if_neg (by decide)]
            exact ⟨1, Or.inr (Or.inl rfl), rfl, rfl⟩
        · rw [if_neg hq, if_neg hq]
          exact ⟨5, Or.inr (Or.inr rfl), rfl, rfl⟩
  exact loop FU 0 (show c < 0 + 300 by omega) (by omega)
/-- the counts -/
def CT (l e : Nat) (M N : Mm) : Prop := M 275 0 = nI l ∧ M 275 1 = nI e ∧ N 0 44 = nI l ∧ N 0 45 = nI e
/-- what a check may change; the reference's frames below s stay -/
def Fs (s : Nat) (M N M' N' : Mm) : Prop := (∀ t, t ≠ 275 → M' t = M t) ∧ (∀ t, t ≠ 0 → t ≠ 33 → t ≠ 34 → N' t = N t) ∧ (∀ j, j ≠ 44 → j ≠ 45 → j ≠ 46 → N' 0 j = N 0 j) ∧ ∀ p, p < s → N' 33 p = N 33 p ∧ N' 34 p = N 34 p
theorem Fs.rf {s : Nat} {M N : Mm} : Fs s M N M N := ⟨fun _ _ => rfl, fun _ _ _ _ => rfl, fun _ _ _ _ => rfl, fun _ _ => ⟨rfl, rfl⟩⟩
theorem Fs.tr {s : Nat} {M N M1 N1 M2 N2 : Mm} (a : Fs s M N M1 N1) (b : Fs s M1 N1 M2 N2) : Fs s M N M2 N2 := ⟨fun t h => (b.1 t h).trans (a.1 t h), fun t h1 h2 h3 => (b.2.1 t h1 h2 h3).trans (a.2.1 t h1 h2 h3), fun j h1 h2 h3 => (b.2.2.1 j h1 h2 h3).trans (a.2.2.1 j h1 h2 h3), fun p hp => ⟨(b.2.2.2 p hp).1.trans (a.2.2.2 p hp).1, (b.2.2.2 p hp).2.trans (a.2.2.2 p hp).2⟩⟩
theorem Fs.le {s q : Nat} {M N M1 N1 : Mm} (a : Fs s M N M1 N1) (h : q ≤ s) : Fs q M N M1 N1 := ⟨a.1, a.2.1, a.2.2.1, fun p hp => a.2.2.2 p (by omega)⟩
theorem RD.s {D s : Nat} {M N M' N' : Mm} (h : RD D M N) (f : Fs s M N M' N') : RD D M' N' := h.to (by rw [f.1 0 (by omega)]) (fun t a b => f.1 t (by omega)) (f.2.2.1 0 (by omega) (by omega) (by omega)) (fun t a b => f.2.1 t (by omega) (by omega) (by omega))
/-- one lookup more -/
theorem look_eq {l e s : Nat} {M N : Mm} (hC : CT l e M N) (hl : l ≤ 10) : ∃ M' N', CT (l + 1) e M' N' ∧ Fs s M N M' N' ∧ N' 0 46 = N 0 46 ∧ N' 33 = N 33 ∧ N' 34 = N 34 ∧ ((l < 10 ∧ fX0_isLookupTooMany M = some (0, M') ∧ fX11_lookup N = some (0, N')) ∨ (l = 10 ∧ fX0_isLookupTooMany M = some (1, M') ∧ fX11_lookup N = some (6, N'))) := by
  obtain ⟨c1, c2, c3, c4⟩ := hC
  refine ⟨up2 M 275 0 (nI (l + 1)), up2 N 0 44 (nI (l + 1)), ⟨up2_e, by rw [up2_k (by omega)]; exact c2, up2_e, by rw [up2_k (by omega)]; exact c4⟩, ⟨fun t h => up2_o h, fun t h _ _ => up2_o h, fun j h _ _ => up2_k h, fun p hp => ⟨by rw [up2_t (by omega)], by rw [up2_t (by omega)]⟩⟩, up2_k (by omega), up2_o (by omega), up2_o (by omega), ?_⟩
  unfold fX0_isLookupTooMany fX11_lookup
  rw [nm_x, nm_x, c1, c3, nI_1, up2_e, up2_e]
  by_cases h : l < 10
  · rw [if_pos (show nI (l + 1) ≤ (10 : Int32) from nI_le (b := 10) (by omega) (by omega)), if_neg (show ¬ nI (l + 1) = (11 : Int32) from fun q => by have := (nI_eq (a := l + 1) (b := 11) (by omega) (by omega)).mp q; omega)]
    exact Or.inl ⟨h, rfl, rfl⟩
  · obtain rfl : l = 10 := by omega
    rw [if_neg (by decide), if_pos (by decide)]
    exact Or.inr ⟨rfl, rfl, rfl⟩
theorem empty_eq {l e s : Nat} {M N : Mm} (hC : CT l e M N) (he : e ≤ 2) : ∃ o M' N', CT l (e + 1) M' N' ∧ Fs s M N M' N' ∧ N' 0 46 = N 0 46 ∧ N' 33 = N 33 ∧ N' 34 = N 34 ∧ ((o = 0 ∧ e + 1 ≤ 2) ∨ o = 6) ∧ fX0_empty M = some (o, M') ∧ fX11_empty N = some (o, N') := by
  obtain ⟨c1, c2, c3, c4⟩ := hC
  have key : ∀ o, (o = 0 ∧ e + 1 ≤ 2) ∨ o = 6 → fX0_empty M = some (o, up2 M 275 1 (nI (e + 1))) → fX11_empty N = some (o, up2 N 0 45 (nI (e + 1))) → ∃ o M' N', CT l (e + 1) M' N' ∧ Fs s M N M' N' ∧ N' 0 46 = N 0 46 ∧ N' 33 = N 33 ∧ N' 34 = N 34 ∧ ((o = 0 ∧ e + 1 ≤ 2) ∨ o = 6) ∧ fX0_empty M = some (o, M') ∧ fX11_empty N = some (o, N') := fun o h1 h2 h3 =>
    ⟨o, up2 M 275 1 (nI (e + 1)), up2 N 0 45 (nI (e + 1)), ⟨by rw [up2_k (by omega)]; exact c1, up2_e, by rw [up2_k (by omega)]; exact c3, up2_e⟩, ⟨fun t h => up2_o h, fun t h _ _ => up2_o h, fun j _ h _ => up2_k h, fun p hp => ⟨by rw [up2_t (by omega)], by rw [up2_t (by omega)]⟩⟩, up2_k (by omega), up2_o (by omega), up2_o (by omega), h1, h2, h3⟩
  by_cases h : e < 2
  · refine key 0 (Or.inl ⟨rfl, by omega⟩) ?_ ?_
    · unfold fX0_empty
      rw [nm_x, c2, nI_1, up2_e, if_pos (show nI (e + 1) ≤ (2 : Int32) from nI_le (b := 2) (by omega) (by omega))]
    · unfold fX11_empty
      rw [nm_x, c4, nI_1, up2_e, if_neg (show ¬ nI (e + 1) = (3 : Int32) from fun q => by have := (nI_eq (a := e + 1) (b := 3) (by omega) (by omega)).mp q; omega)]
  · obtain rfl : e = 2 := by omega
    refine key 6 (Or.inr rfl) ?_ ?_
    · unfold fX0_empty
      rw [nm_x, c2, nI_1, up2_e, if_neg (by decide)]
    · unfold fX11_empty
      rw [nm_x, c4, nI_1, up2_e, if_pos (by decide)]
/-- what a term's own check gives: no match, match, an error -/
def Trm (l e s : Nat) (M N : Mm) (cl rf : Option (Int32 × Mm)) : Prop := ∃ o M' N' e', cl = some (o, M') ∧ rf = some (o, N') ∧ CT l e' M' N' ∧ Fs s M N M' N' ∧ N' 0 46 = N 0 46 ∧ N' 33 = N 33 ∧ N' 34 = N 34 ∧ (((o = 0 ∨ o = 1) ∧ e' ≤ 2) ∨ o = 5 ∨ o = 6)
theorem Trm.same {l e s : Nat} {M N : Mm} {o : Int32} (hC : CT l e M N) (he : e ≤ 2) (h : o = 0 ∨ o = 1 ∨ o = 5 ∨ o = 6) : Trm l e s M N (some (o, M)) (some (o, N)) := by
  refine ⟨o, M, N, e, rfl, rfl, hC, Fs.rf, rfl, rfl, rfl, ?_⟩
  rcases h with h | h | h | h
  · exact Or.inl ⟨Or.inl h, he⟩
  · exact Or.inl ⟨Or.inr h, he⟩
  · exact Or.inr (Or.inl h)
  · exact Or.inr (Or.inr h)
theorem tl_eq {D d j l e s q w : Nat} {ad len : Int32} {a3 : Int32} {KR : Int32 → Int32 → Mm → Option (Int32 × Mm)} {M N : Mm} (hD : RD D M N) (hC : CT l e M N) (he : e ≤ 2) (ha : N 0 22 = ad) (hat : 6 * d + j < 120) (hk : N 9 (6 * d + j) = nI q) (hq : 2 ≤ q) (hq6 : q < 6) (hq4 : q ≠ 4) (hv : N 10 (6 * d + j) = nI w) (hw : w < D) (hb : N 11 (6 * d + j) = len) :
    Trm l e s M N (grd (gin (nI w) 20) (if (M (2 + (nI w).toNatClampNeg) 2) = 0 then (if nI q = (3 : Int32) then (grd (gin (nI w) 20) (fX0_outcomeOf_111 d a3 ad KR (nI q) len (2 * (nI w).toNatClampNeg + 1) M)) else (grd (gin (nI w) 20) (fX0_outcomeOf_111 d a3 ad KR (nI q) len (2 * (nI w).toNatClampNeg) M))) else (some ((5 : Int32), M)))) (fX11_tryTerm (nI (6 * d + j)) N) := by
  have hD20 := hD.1
  have n0 : nI q ≠ 0 := nI_ne0 (by omega) (by omega)
  have n1 : nI q ≠ 1 := fun z => by have := (nI_eq (a := q) (b := 1) (by omega) (by omega)).mp z; omega
  have eN : fX11_tryTerm (nI (6 * d + j)) N = (if N 3 w = 0 then (if nI q = (3 : Int32) then (if N 5 (2 * w + 1) = 0 then (bn2 (fX11_empty N) (fun v83 M83 => some (v83, M83))) else (bn1 (fX11_tryExchangers (nI w) len N) (fun v97 => some (v97, N)))) else (if N 5 (2 * w) = 0 then (bn2 (fX11_empty N) (fun v113 M113 => some (v113, M113))) else (if nI q = (5 : Int32) then (some ((1 : Int32), N)) else (bn1 (fX11_isAt (nI w) len N) (fun v135 => if v135 = 0 then (some ((0 : Int32), N)) else (some ((1 : Int32), N))))))) else (some ((5 : Int32), N))) := by
    unfold fX11_tryTerm
    rw [cN (show 6 * d + j < 2 ^ 31 by omega)]
    simp only [grd_n hat (show 120 < 2 ^ 31 by omega), nm_x]
    rw [hk, hv, hb, if_neg n0, if_neg n1, grd_n (show w < 20 by omega) (by omega), cN (show w < 2 ^ 31 by omega), show (2 : Int32) * nI w + 1 = nI (2 * w + 1) from ix2 (j := 1), ix2a, grd_n (show 2 * w + 1 < 40 by omega) (by omega), grd_n (show 2 * w < 40 by omega) (by omega), cN (show 2 * w + 1 < 2 ^ 31 by omega), cN (show 2 * w < 2 ^ 31 by omega)]
  have e111 : ∀ i, fX0_outcomeOf_111 d a3 ad KR (nI q) len i M = (if (M (22 + i) 1) = 0 then (bn2 (fX0_empty M) (fun v122 M122 => some (v122, M122))) else (if nI q = (3 : Int32) then (bn1 (fX0_exchangers i ad len M) (fun v140 => some (v140, M))) else (if nI q = (5 : Int32) then (some ((1 : Int32), M)) else (bn1 (fX2_holdOneLike i ad len M) (fun v156 => if v156 = 0 then (some ((0 : Int32), M)) else (some ((1 : Int32), M))))))) := by
    intro i
    unfold fX0_outcomeOf_111 fX0_outcomeOf_162 fX0_outcomeOf_167 fX0_matchIf
    rfl
  rw [eN, grd_n (show w < 20 by omega) (by omega), cN (show w < 2 ^ 31 by omega), (hD.2.2.2.2.1 w (by omega)).1]
  by_cases hs : N 3 w = 0
  · rw [if_pos hs, if_pos hs]
    by_cases h3 : nI q = (3 : Int32)
    · rw [if_pos h3, if_pos h3, grd_n (show w < 20 by omega) (by omega), e111]
      obtain ⟨c, hc, f1, f2, f3⟩ := hD.2.2.2.2.2.1 (2 * w + 1) (by omega)
      rw [f1, f2]
      by_cases h0 : nI c = 0
      · rw [if_pos h0, if_pos h0]
        obtain ⟨o, M', N', g1, g2, g3, g4, g5, g6, g7, g8⟩ := empty_eq (s := s) hC he
        rw [g7, g8, bn2_e, bn2_e]
        refine ⟨o, M', N', e + 1, rfl, rfl, g1, g2, g3, g4, g5, ?_⟩
        rcases g6 with ⟨g6, g6'⟩ | g6
        · exact Or.inl ⟨Or.inl g6, g6'⟩
        · exact Or.inr (Or.inr g6)
      · rw [if_neg h0, if_neg h0, if_pos h3]
        obtain ⟨r, hr, g1, g2⟩ := ex_eq (len := len) hD (show w < 20 by omega) ha
        rw [g1, g2, bn1_e, bn1_e]
        refine Trm.same hC he ?_
        rcases hr with h | h | h
        · exact Or.inl h
        · exact Or.inr (Or.inl h)
        · exact Or.inr (Or.inr (Or.inl h))
    · rw [if_neg h3, if_neg h3, grd_n (show w < 20 by omega) (by omega), e111]
      obtain ⟨c, hc, f1, f2, f3⟩ := hD.2.2.2.2.2.1 (2 * w) (by omega)
      rw [f1, f2]
      by_cases h0 : nI c = 0
      · rw [if_pos h0, if_pos h0]
        obtain ⟨o, M', N', g1, g2, g3, g4, g5, g6, g7, g8⟩ := empty_eq (s := s) hC he
        rw [g7, g8, bn2_e, bn2_e]
        refine ⟨o, M', N', e + 1, rfl, rfl, g1, g2, g3, g4, g5, ?_⟩
        rcases g6 with ⟨g6, g6'⟩ | g6
        · exact Or.inl ⟨Or.inl g6, g6'⟩
        · exact Or.inr (Or.inr g6)
      · rw [if_neg h0, if_neg h0, if_neg h3]
        by_cases h5 : nI q = (5 : Int32)
        · rw [if_pos h5, if_pos h5]
          exact Trm.same hC he (Or.inr (Or.inl rfl))
        · rw [if_neg h5, if_neg h5]
          obtain ⟨r, hr, g1, g2⟩ := at_eq (len := len) hD (show w < 20 by omega) ha
          rw [g1, g2, bn1_e, bn1_e]
          rcases hr with rfl | rfl
          · rw [if_pos rfl, if_pos rfl]
            exact Trm.same hC he (Or.inl rfl)
          · rw [if_neg (by decide), if_neg (by decide)]
            exact Trm.same hC he (Or.inr (Or.inl rfl))
  · rw [if_neg hs, if_neg hs]
    exact Trm.same hC he (Or.inr (Or.inr (Or.inl rfl)))
