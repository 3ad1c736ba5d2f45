/-! canonical forms: both sides write the same characters into their own room -/
def CF (c : Nat) (M N : Mm) : Prop := M (246 + 7) 1 = nI c ∧ N 0 41 = nI c ∧ ∀ j, j < c → M (254 + 7) j = N 32 j
/-- nothing but the forms' room, and the reference's mixed word, has changed -/
def Fr (M N M' N' : Mm) : Prop := (∀ t, t ≠ 246 + 7 → t ≠ 254 + 7 → M' t = M t) ∧ (∀ t, t ≠ 0 → t ≠ 32 → N' t = N t) ∧ ∀ j, j ≠ 41 → N' 0 j = N 0 j
theorem Fr.rf {M N : Mm} : Fr M N M N := ⟨fun _ _ _ => rfl, fun _ _ _ => rfl, fun _ _ => rfl⟩
theorem Fr.tr {M N M1 N1 M2 N2 : Mm} (a : Fr M N M1 N1) (b : Fr M1 N1 M2 N2) : Fr M N M2 N2 := ⟨fun t h1 h2 => (b.1 t h1 h2).trans (a.1 t h1 h2), fun t h1 h2 => (b.2.1 t h1 h2).trans (a.2.1 t h1 h2), fun j h1 => (b.2.2 j h1).trans (a.2.2 j h1)⟩
/-- nothing but the forms' room, and the reference's mixed word, has changed -/
def Fw (M N M' N' : Mm) : Prop := (∀ t, t ≠ 246 + 7 → t ≠ 254 + 7 → M' t = M t) ∧ (∀ t, t ≠ 0 → t ≠ 32 → N' t = N t) ∧ ∀ j, j ≠ 41 → j ≠ 43 → j ≠ 1043 → N' 0 j = N 0 j
theorem Fr.w {M N M' N' : Mm} (f : Fr M N M' N') : Fw M N M' N' := ⟨f.1, f.2.1, fun j h _ _ => f.2.2 j h⟩
theorem Fw.tr {M N M1 N1 M2 N2 : Mm} (a : Fw M N M1 N1) (b : Fw M1 N1 M2 N2) : Fw M N M2 N2 := ⟨fun t h1 h2 => (b.1 t h1 h2).trans (a.1 t h1 h2), fun t h1 h2 => (b.2.1 t h1 h2).trans (a.2.1 t h1 h2), fun j h1 h2 h3 => (b.2.2 j h1 h2 h3).trans (a.2.2 j h1 h2 h3)⟩
theorem Fw.parts {D k : Nat} {M N M' N' : Mm} (f : Fw M N M' N') (hD : RD D M N) (hL : RMl D M N) (hC : RC M N) (hR : RR M N) (hT : RT k M N) : RD D M' N' ∧ RMl D M' N' ∧ RC M' N' ∧ RR M' N' ∧ ∃ t, t ≤ 1000 * k ∧ M' 0 7 = nI t ∧ N' 0 18 = nI t := by
  refine ⟨hD.to (by rw [f.1 0 (by omega) (by omega)]) (fun t a b => f.1 t (by omega) (by omega)) (f.2.2 0 (by omega) (by omega) (by omega)) (fun t a b => f.2.1 t (by omega) (by omega)), hL.to (Nat.le_refl _) (fun j a => by rw [f.1 243 (by omega) (by omega)]) (fun t a b c d => f.1 t (by omega) (by omega)) (fun j a b => f.2.2 j (by omega) (by omega) (by omega)) (fun t a b => f.2.1 t (by omega) (by omega)), hC.to (f.1 275 (by omega) (by omega)) (f.2.2 44 (by omega) (by omega) (by omega)) (f.2.2 45 (by omega) (by omega) (by omega)), hR.to (by rw [f.1 0 (by omega) (by omega)]) (fun t a b => f.1 t (by omega) (by omega)) (f.2.2 49 (by omega) (by omega) (by omega)) (fun t a b => f.2.1 t (by omega) (by omega)), ?_⟩
  obtain ⟨t, ht, e1, e2⟩ := hT
  exact ⟨t, ht, by rw [f.1 0 (by omega) (by omega)]; exact e1, by rw [f.2.2 18 (by omega) (by omega) (by omega)]; exact e2⟩
theorem Fw.rel0 {k : Nat} {M N M' N' : Mm} (f : Fw M N M' N') (h : Rel k M N) : Rel k M' N' := by
  obtain ⟨D, hD, hL, hC, hR, hT⟩ := h
  obtain ⟨a, b, c, d, e⟩ := f.parts hD hL hC hR hT
  exact ⟨D, a, b, c, d, e⟩
theorem Fw.rel {k : Nat} {M N M' N' : Mm} (f : Fw M N M' N') (h : Rel k M N) : Rel (k + 1) M' N' := (f.rel0 h).up
theorem Fr.rel {k : Nat} {M N M' N' : Mm} (f : Fr M N M' N') (h : Rel k M N) : Rel (k + 1) M' N' := f.w.rel h
theorem cf_add {c : Nat} {M N : Mm} (x : Int32) (h : CF c M N) (hc : c < 91) : ∃ M' N', fX9_append 7 x M = some M' ∧ fX11_add x N = some N' ∧ CF (c + 1) M' N' ∧ Fr M N M' N' := by
  obtain ⟨h1, h2, h3⟩ := h
  have a1 : up2 M (254 + 7) c x (246 + 7) 1 = nI c := by rw [up2_t (by omega)]; exact h1
  have a2 : up2 N 32 c x 0 41 = nI c := by rw [up2_t (by omega)]; exact h2
  refine ⟨up2 (up2 M (254 + 7) c x) (246 + 7) 1 (nI (c + 1)), up2 (up2 N 32 c x) 0 41 (nI (c + 1)), ?_, ?_, ⟨up2_e, up2_e, fun j hj => ?_⟩, ?_, ?_, ?_⟩
  · unfold fX9_append
    rw [show tlen 7 = 91 from rfl, h1, if_neg (nI_ge hc (by omega)), grd_n hc (by omega), cN (by omega), nm_x, nm_x, a1, nI_1]
  · unfold fX11_add
    rw [h2, grd_n (show c < 92 by omega) (by omega), cN (by omega), nm_x, nm_x, a2, nI_1]
  · rw [show up2 (up2 M (254 + 7) c x) (246 + 7) 1 (nI (c + 1)) (254 + 7) j = up2 M (254 + 7) c x (254 + 7) j from up2_t (by omega), show up2 (up2 N 32 c x) 0 41 (nI (c + 1)) 32 j = up2 N 32 c x 32 j from up2_t (by omega)]
    by_cases hj : j = c
    · subst hj
      rw [up2_e, up2_e]
    · rw [up2_k hj, up2_k hj]
      exact h3 j (by omega)
  · exact fun t h1 h2 => by rw [up2_o h1, up2_o h2]
  · exact fun t h1 h2 => by rw [up2_o h1, up2_o h2]
  · exact fun j h1 => by rw [up2_k h1, up2_t (by omega)]
/-- the body, as both hold it -/
def BS (z : Nat) (M N : Mm) : Prop := M (246 + 6) 1 = nI z ∧ N 0 27 = nI z ∧ ∀ j, j < z → M (254 + 6) j = N 21 j
theorem BS.fr {z : Nat} {M N M' N' : Mm} (h : BS z M N) (f : Fr M N M' N') : BS z M' N' := by
  unfold BS at *
  rw [f.1 (246 + 6) (by omega) (by omega), f.1 (254 + 6) (by omega) (by omega), f.2.1 21 (by omega) (by omega), f.2.2 27 (by omega)]
  exact h
theorem body_s {z : Nat} (hz : z ≤ 90) : ∀ (n i : Nat) (M N : Mm), z < i + n → i ≤ z → BS z M N → CF i M N → ∃ M' N', fX9_becomeSimple_7 7 6 n (nI i) M = some M' ∧ fX11_makeBody_9 0 n 0 (nI i) N = fX11_makeBody_73 0 FU N' ∧ CF z M' N' ∧ Fr M N M' N' := by
  intro n
  induction n with
  | zero => intro i M N h1 h2; omega
  | succ n ih =>
    intro i M N h1 h2 hB hC
    by_cases hi : i = z
    · subst hi
      refine ⟨M, N, ?_, ?_, hC, Fr.rf⟩
      · rw [fX9_becomeSimple_7, hB.1, if_pos (nI_le (Nat.le_refl _) (by omega))]
      · rw [fX11_makeBody_9, hB.2.1, if_pos (nI_le (Nat.le_refl _) (by omega))]
    · obtain ⟨M1, N1, e1, e2, hC1, f1⟩ := cf_add (N 21 i) hC (by omega)
      obtain ⟨M2, N2, g1, g2, hC2, f2⟩ := ih (i + 1) M1 N1 (by omega) (by omega) (hB.fr f1) hC1
      refine ⟨M2, N2, ?_, ?_, hC2, f1.tr f2⟩
      · rw [fX9_becomeSimple_7, hB.1, if_neg (nI_ge (by omega) (by omega)), show tlen 6 = 90 from rfl, grd_n (by omega) (by omega), cN (by omega), hB.2.2 i (by omega), e1, bn1_e, nI_1]
        exact g1
      · rw [fX11_makeBody_9, hB.2.1, if_neg (nI_ge (by omega) (by omega)), grd_n (by omega) (by omega), cN (by omega), nm_x, if_pos rfl]
        unfold fX11_makeBody_42 fX11_makeBody_59 fX11_makeBody_67
        rw [if_pos rfl, e2, bn1_e, nI_1]
        exact g2
theorem blank_c (v : Int32) : (fX10_isBlank v = some 1 ∧ fX11_isBlank v = some 1) ∨ (fX10_isBlank v = some 0 ∧ fX11_isBlank v = some 0) := by
  unfold fX10_isBlank fX11_isBlank
  by_cases h1 : v = 9
  · exact Or.inl ⟨if_pos h1, if_pos h1⟩
  · by_cases h2 : v = 32
    · exact Or.inl ⟨(if_neg h1).trans (if_pos h2), (if_neg h1).trans (if_pos h2)⟩
    · exact Or.inr ⟨(if_neg h1).trans (if_neg h2), (if_neg h1).trans (if_neg h2)⟩
theorem body_r {z : Nat} (hz : z ≤ 90) : ∀ (n i c g : Nat) (M N : Mm), z < i + n → i ≤ z → g ≤ 1 → c + g ≤ i → BS z M N → CF c M N → ∃ M' N' c', fX9_becomeRelaxed_10 7 6 1 n (nI g) (nI i) M = some M' ∧ fX11_makeBody_9 1 n (nI g) (nI i) N = fX11_makeBody_73 1 FU N' ∧ c' ≤ z ∧ CF c' M' N' ∧ Fr M N M' N' := by
  intro n
  induction n with
  | zero => intro i c g M N h1 h2; omega
  | succ n ih =>
    intro i c g M N h1 h2 hg hc hB hC
    by_cases hi : i = z
    · subst hi
      refine ⟨M, N, c, ?_, ?_, by omega, hC, Fr.rf⟩
      · rw [fX9_becomeRelaxed_10, hB.1, if_pos (nI_le (Nat.le_refl _) (by omega))]
      · rw [fX11_makeBody_9, hB.2.1, if_pos (nI_le (Nat.le_refl _) (by omega))]
    · have s1 : fX9_becomeRelaxed_10 7 6 1 (n + 1) (nI g) (nI i) M = bn1 (fX10_isBlank (N 21 i)) (fun v30 => if v30 = 0 then (if nI g = 0 then (fX9_becomeRelaxed_69 7 6 1 (fX9_becomeRelaxed_10 7 6 1 n) (nI i) (N 21 i) M) else (if (N 21 i) = (10 : Int32) then (fX9_becomeRelaxed_69 7 6 1 (fX9_becomeRelaxed_10 7 6 1 n) (nI i) (N 21 i) M) else (fX9_becomeRelaxed_63 7 6 1 (fX9_becomeRelaxed_10 7 6 1 n) (nI i) (N 21 i) M))) else (fX9_becomeRelaxed_77 7 6 1 (fX9_becomeRelaxed_10 7 6 1 n) (1 : Int32) (nI i) M)) := by
        rw [fX9_becomeRelaxed_10, hB.1, if_neg (nI_ge (by omega) (by omega)), show tlen 6 = 90 from rfl, grd_n (by omega) (by omega), cN (by omega), nm_x, hB.2.2 i (by omega)]
        rfl
      have s2 : fX11_makeBody_9 1 (n + 1) (nI g) (nI i) N = bn1 (fX11_isBlank (N 21 i)) (fun v31 => if v31 = 0 then (fX11_makeBody_42 1 (fX11_makeBody_9 1 n) (nI g) (nI i) (N 21 i) N) else (fX11_makeBody_67 1 (fX11_makeBody_9 1 n) (1 : Int32) (nI i) N)) := by
        rw [fX11_makeBody_9, hB.2.1, if_neg (nI_ge (by omega) (by omega)), grd_n (by omega) (by omega), cN (by omega), nm_x, if_neg (by decide)]
      -- one character is added, and on
      have put : ∀ (c0 : Nat) (M0 N0 : Mm), c0 ≤ i → CF c0 M0 N0 → Fr M N M0 N0 → ∃ M' N' c', fX9_becomeRelaxed_69 7 6 1 (fX9_becomeRelaxed_10 7 6 1 n) (nI i) (N 21 i) M0 = some M' ∧ fX11_makeBody_59 1 (fX11_makeBody_9 1 n) (nI i) (N 21 i) N0 = fX11_makeBody_73 1 FU N' ∧ c' ≤ z ∧ CF c' M' N' ∧ Fr M N M' N' := by
        intro c0 M0 N0 hc0 hC0 f0
        obtain ⟨M1, N1, e1, e2, hC1, f1⟩ := cf_add (N 21 i) hC0 (by omega)
        obtain ⟨M2, N2, c2, g1, g2, hc2, hC2, f2⟩ := ih (i + 1) (c0 + 1) 0 M1 N1 (by omega) (by omega) (by omega) (by omega) (hB.fr (f0.tr f1)) hC1
        refine ⟨M2, N2, c2, ?_, ?_, hc2, hC2, (f0.tr f1).tr f2⟩
        · unfold fX9_becomeRelaxed_69 fX9_becomeRelaxed_77
          rw [e1, bn1_e, nI_1]
          exact g1
        · unfold fX11_makeBody_59 fX11_makeBody_67
          rw [e2, bn1_e, nI_1]
          exact g2
      rw [s1, s2]
      rcases blank_c (N 21 i) with ⟨b1, b2⟩ | ⟨b1, b2⟩
      · rw [b1, b2, bn1_e, bn1_e, if_neg (by decide), if_neg (by decide)]
        unfold fX9_becomeRelaxed_77 fX11_makeBody_67
        rw [nI_1]
        exact ih (i + 1) c 1 M N (by omega) (by omega) (by omega) (by omega) hB hC
      · rw [b1, b2, bn1_e, bn1_e, if_pos rfl, if_pos rfl]
        unfold fX11_makeBody_42
        by_cases hg0 : g = 0
        · subst hg0
          simp only [if_pos (show nI 0 = (0 : Int32) from rfl)]
          exact put c M N (by omega) hC Fr.rf
        · obtain rfl : g = 1 := by omega
          simp only [if_neg (show ¬ nI 1 = (0 : Int32) by decide)]
          by_cases hv : N 21 i = 10
          · simp only [if_pos hv]
            exact put c M N (by omega) hC Fr.rf
          · simp only [if_neg hv]
            obtain ⟨M1, N1, e1, e2, hC1, f1⟩ := cf_add 32 hC (by omega)
            unfold fX9_becomeRelaxed_63
            rw [e1, bn1_e, e2, bn1_e]
            exact put (c + 1) M1 N1 (by omega) hC1 f1
theorem strip {a : Int32} : ∀ (n c : Nat) (M N : Mm), c < n → c ≤ 90 → CF c M N → ∃ M' N' c', fX9_endWithOneLineEnd_0 7 n M = some M' ∧ fX11_makeBody_73 a n N = some N' ∧ c' ≤ 91 ∧ CF c' M' N' ∧ Fr M N M' N' := by
  intro n
  induction n with
  | zero => intro c M N h; omega
  | succ n ih =>
    intro c M N hn hc hC
    obtain ⟨h1, h2, h3⟩ := id hC
    have fin : ∃ M' N' c', fX9_endWithOneLineEnd_36 7 M = some M' ∧ fX11_makeBody_109 a N = some N' ∧ c' ≤ 91 ∧ CF c' M' N' ∧ Fr M N M' N' := by
      obtain ⟨M1, N1, e1, e2, hC1, f1⟩ := cf_add 10 hC (by omega)
      refine ⟨M1, N1, c + 1, ?_, ?_, by omega, hC1, f1⟩
      · unfold fX9_endWithOneLineEnd_36
        rw [e1, bn1_e]
      · unfold fX11_makeBody_109
        rw [e2, bn1_e]
    rw [fX9_endWithOneLineEnd_0, fX11_makeBody_73, h1, h2]
    by_cases hc0 : c = 0
    · subst hc0
      rw [if_pos (by decide), if_pos (by decide)]
      exact fin
    · obtain ⟨b, rfl⟩ : ∃ b, c = b + 1 := ⟨c - 1, by omega⟩
      rw [if_neg (nI_nle (by omega) (by omega)), if_neg (nI_nle (by omega) (by omega)), nI_pred, show tlen 7 = 91 from rfl, grd_n (by omega) (by omega), grd_n (by omega) (by omega), cN (by omega), h3 b (by omega)]
      by_cases hv : N 32 b = 10
      · rw [if_pos hv, if_pos hv, nm_x, nm_x]
        obtain ⟨M2, N2, c2, g1, g2, hc2, hC2, f2⟩ := ih b (up2 M (246 + 7) 1 (nI b)) (up2 N 0 41 (nI b)) (by omega) (by omega) ⟨up2_e, up2_e, fun j hj => by rw [up2_t (by omega), up2_t (by omega)]; exact h3 j (by omega)⟩
        refine ⟨M2, N2, c2, g1, g2, hc2, hC2, Fr.tr ⟨fun t a _ => up2_o a, fun t a _ => up2_o a, fun j a => up2_k a⟩ f2⟩
      · rw [if_neg hv, if_neg hv]
        exact fin
theorem bodyForm_eq {z : Nat} {M N : Mm} {a : Int32} (ha : isB a) (hz : z ≤ 90) (hB : BS z M N) : ∃ M' N' c, fX4_bodyForm a M = some (7, M') ∧ fX11_makeBody a N = some N' ∧ c ≤ 91 ∧ CF c M' N' ∧ Fr M N M' N' := by
  have f0 : Fr M N (up2 M (246 + 7) 1 0) (up2 N 0 41 0) := ⟨fun t a _ => up2_o a, fun t a _ => up2_o a, fun j a => up2_k a⟩
  have C0 : CF 0 (up2 M (246 + 7) 1 0) (up2 N 0 41 0) := ⟨up2_e, up2_e, fun j hj => by omega⟩
  rcases ha with rfl | rfl
  · obtain ⟨M1, N1, e1, e2, hC1, f1⟩ := body_s hz FU 0 _ _ (show z < 0 + 300 by omega) (by omega) (hB.fr f0) C0
    obtain ⟨M2, N2, c2, g1, g2, hc2, hC2, f2⟩ := strip (a := 0) FU z M1 N1 (show z < 300 by omega) hz hC1
    refine ⟨M2, N2, c2, ?_, ?_, hc2, hC2, (f0.tr f1).tr f2⟩
    · unfold fX4_bodyForm fX9_becomeSimple fX4_bodyForm_30 fX9_endWithOneLineEnd
      rw [if_pos rfl, nm_x, show (0 : Int32) = nI 0 from rfl] at *
      rw [e1, bn1_e, g1, bn1_e]
    · unfold fX11_makeBody
      rw [nm_x]
      exact e2.trans g2
  · obtain ⟨M1, N1, c1, e1, e2, hc1, hC1, f1⟩ := body_r hz FU 0 0 0 _ _ (show z < 0 + 300 by omega) (by omega) (by omega) (by omega) (hB.fr f0) C0
    obtain ⟨M2, N2, c2, g1, g2, hc2, hC2, f2⟩ := strip (a := 1) FU c1 M1 N1 (show c1 < 300 by omega) (by omega) hC1
    refine ⟨M2, N2, c2, ?_, ?_, hc2, hC2, (f0.tr f1).tr f2⟩
    · unfold fX4_bodyForm fX9_becomeRelaxed fX4_bodyForm_30 fX9_endWithOneLineEnd
      rw [if_neg (by decide), nm_x]
      have e1' : fX9_becomeRelaxed_10 7 6 1 FU 0 0 (up2 M (246 + 7) 1 0) = some M1 := e1
      rw [e1', bn1_e, g1, bn1_e]
    · unfold fX11_makeBody
      rw [nm_x]
      exact e2.trans g2
/-- a header, as both hold it -/
def HS (i z : Nat) (M N : Mm) : Prop := M (246 + i) 1 = nI z ∧ N 19 i = nI z ∧ ∀ j, j < z → M (254 + i) j = N 20 (24 * i + j) ∧ N 20 (24 * i + j) ≠ 10
theorem HS.fr {i z : Nat} {M N M' N' : Mm} (hi : i < 6) (h : HS i z M N) (f : Fr M N M' N') : HS i z M' N' := by
  unfold HS at *
  rw [f.1 (246 + i) (by omega) (by omega), f.1 (254 + i) (by omega) (by omega), f.2.1 19 (by omega) (by omega), f.2.1 20 (by omega) (by omega)]
  exact h
theorem ix24 {i j : Nat} : (24 : Int32) * nI i + nI j = nI (24 * i + j) := by
  rw [show (24 : Int32) = nI 24 from rfl, pk_mul, nI_add]
theorem tlen_h {i : Nat} (h : i < 6) : tlen i = 24 := if_pos h
theorem head_s {i z : Nat} (hi : i < 6) (hz : z ≤ 24) : ∀ (n j : Nat) (M N : Mm), z < j + n → j ≤ z → HS i z M N → CF j M N → ∃ M' N', fX9_becomeSimple_7 7 i n (nI j) M = some M' ∧ fX11_makeHeader_10 (nI i) 0 n 0 (nI j) N = some N' ∧ CF z M' N' ∧ Fr M N M' N' := by
  intro n
  induction n with
  | zero => intro i M N h1 h2; omega
  | succ n ih =>
    intro j M N h1 h2 hB hC
    by_cases hj : j = z
    · subst hj
      refine ⟨M, N, ?_, ?_, hC, Fr.rf⟩
      · rw [fX9_becomeSimple_7, hB.1, if_pos (nI_le (Nat.le_refl _) (by omega))]
      · rw [fX11_makeHeader_10, grd_n hi (by omega), cN (by omega), hB.2.1, if_pos (nI_le (Nat.le_refl _) (by omega))]
    · obtain ⟨M1, N1, e1, e2, hC1, f1⟩ := cf_add (N 20 (24 * i + j)) hC (by omega)
      obtain ⟨M2, N2, g1, g2, hC2, f2⟩ := ih (j + 1) M1 N1 (by omega) (by omega) (hB.fr hi f1) hC1
      refine ⟨M2, N2, ?_, ?_, hC2, f1.tr f2⟩
      · rw [fX9_becomeSimple_7, hB.1, if_neg (nI_ge (by omega) (by omega)), tlen_h hi, grd_n (by omega) (by omega), cN (by omega), (hB.2.2 j (by omega)).1, e1, bn1_e, nI_1]
        exact g1
      · rw [fX11_makeHeader_10, grd_n hi (by omega), cN (show i < 2 ^ 31 by omega), hB.2.1, if_neg (nI_ge (by omega) (by omega)), ix24, grd_n (by omega) (by omega), cN (by omega), nm_x, if_pos rfl]
        unfold fX11_makeHeader_63 fX11_makeHeader_73 fX11_makeHeader_81
        rw [if_pos rfl, e2, bn1_e, nI_1]
        exact g2
theorem head_r {i z : Nat} (hi : i < 6) (hz : z ≤ 24) : ∀ (n j c g w : Nat) (M N : Mm), z < j + n → j ≤ z → g ≤ 1 → c + g ≤ j → w = (if g = 1 ∧ 0 < c then 1 else 0) → HS i z M N → CF c M N → ∃ M' N' c', fX9_becomeRelaxed_10 7 i 0 n (nI g) (nI j) M = some M' ∧ fX11_makeHeader_10 (nI i) 1 n (nI w) (nI j) N = some N' ∧ c' ≤ z ∧ CF c' M' N' ∧ Fr M N M' N' := by
  intro n
  induction n with
  | zero => intro j c g w M N h1 h2; omega
  | succ n ih =>
    intro j c g w M N h1 h2 hg hc hw hB hC
    by_cases hj : j = z
    · subst hj
      refine ⟨M, N, c, ?_, ?_, by omega, hC, Fr.rf⟩
      · rw [fX9_becomeRelaxed_10, hB.1, if_pos (nI_le (Nat.le_refl _) (by omega))]
      · rw [fX11_makeHeader_10, grd_n hi (by omega), cN (by omega), hB.2.1, if_pos (nI_le (Nat.le_refl _) (by omega))]
    · obtain ⟨hv, hv10⟩ := hB.2.2 j (by omega)
      have s1 : fX9_becomeRelaxed_10 7 i 0 (n + 1) (nI g) (nI j) M = bn1 (fX10_isBlank (N 20 (24 * i + j))) (fun v30 => if v30 = 0 then (if nI g = 0 then (fX9_becomeRelaxed_69 7 i 0 (fX9_becomeRelaxed_10 7 i 0 n) (nI j) (N 20 (24 * i + j)) M) else (if nI c ≤ 0 then (fX9_becomeRelaxed_69 7 i 0 (fX9_becomeRelaxed_10 7 i 0 n) (nI j) (N 20 (24 * i + j)) M) else (fX9_becomeRelaxed_63 7 i 0 (fX9_becomeRelaxed_10 7 i 0 n) (nI j) (N 20 (24 * i + j)) M))) else (fX9_becomeRelaxed_77 7 i 0 (fX9_becomeRelaxed_10 7 i 0 n) (1 : Int32) (nI j) M)) := by
        rw [fX9_becomeRelaxed_10, hB.1, if_neg (nI_ge (by omega) (by omega)), tlen_h hi, grd_n (by omega) (by omega), cN (by omega), nm_x, hv, hC.1]
        simp only [if_neg hv10]
        rfl
      have s2 : fX11_makeHeader_10 (nI i) 1 (n + 1) (nI w) (nI j) N = bn1 (fX11_isBlank (N 20 (24 * i + j))) (fun v41 => if v41 = 0 then (fX11_makeHeader_63 (nI i) 1 (fX11_makeHeader_10 (nI i) 1 n) (nI w) (nI j) (N 20 (24 * i + j)) N) else (if nI c ≤ 0 then (fX11_makeHeader_59 (nI i) 1 (fX11_makeHeader_10 (nI i) 1 n) (nI j) (0 : Int32) N) else (fX11_makeHeader_59 (nI i) 1 (fX11_makeHeader_10 (nI i) 1 n) (nI j) (1 : Int32) N))) := by
        rw [fX11_makeHeader_10, grd_n hi (by omega), cN (show i < 2 ^ 31 by omega), hB.2.1, if_neg (nI_ge (by omega) (by omega)), ix24, grd_n (by omega) (by omega), cN (by omega), nm_x, if_neg (by decide), hC.2.1]
      have put : ∀ (c0 : Nat) (M0 N0 : Mm), c0 ≤ j → CF c0 M0 N0 → Fr M N M0 N0 → ∃ M' N' c', fX9_becomeRelaxed_69 7 i 0 (fX9_becomeRelaxed_10 7 i 0 n) (nI j) (N 20 (24 * i + j)) M0 = some M' ∧ fX11_makeHeader_73 (nI i) 1 (fX11_makeHeader_10 (nI i) 1 n) (nI j) (N 20 (24 * i + j)) N0 = some N' ∧ c' ≤ z ∧ CF c' M' N' ∧ Fr M N M' N' := by
        intro c0 M0 N0 hc0 hC0 f0
        obtain ⟨M1, N1, e1, e2, hC1, f1⟩ := cf_add (N 20 (24 * i + j)) hC0 (by omega)
        obtain ⟨M2, N2, c2, g1, g2, hc2, hC2, f2⟩ := ih (j + 1) (c0 + 1) 0 0 M1 N1 (by omega) (by omega) (by omega) (by omega) rfl (hB.fr hi (f0.tr f1)) hC1
        refine ⟨M2, N2, c2, ?_, ?_, hc2, hC2, (f0.tr f1).tr f2⟩
        · unfold fX9_becomeRelaxed_69 fX9_becomeRelaxed_77
          rw [e1, bn1_e, nI_1]
          exact g1
        · unfold fX11_makeHeader_73 fX11_makeHeader_81
          rw [e2, bn1_e, nI_1]
          exact g2
      rw [s1, s2]
      rcases blank_c (N 20 (24 * i + j)) with ⟨b1, b2⟩ | ⟨b1, b2⟩
      · rw [b1, b2, bn1_e, bn1_e, if_neg (by decide), if_neg (by decide)]
        unfold fX9_becomeRelaxed_77 fX11_makeHeader_59 fX11_makeHeader_81
        rw [nI_1]
        by_cases hc0 : c = 0
        · subst hc0
          rw [if_pos (by decide)]
          exact ih (j + 1) 0 1 0 M N (by omega) (by omega) (by omega) (by omega) (by simp) hB hC
        · rw [if_neg (nI_nle (by omega) (by omega))]
          exact ih (j + 1) c 1 1 M N (by omega) (by omega) (by omega) (by omega) (by rw [if_pos ⟨rfl, by omega⟩]) hB hC
      · rw [b1, b2, bn1_e, bn1_e, if_pos rfl, if_pos rfl]
        unfold fX11_makeHeader_63
        by_cases hg0 : g = 0
        · subst hg0
          have hw0 : w = 0 := by rw [hw, if_neg (by omega)]
          subst hw0
          simp only [if_pos (show nI 0 = (0 : Int32) from rfl)]
          exact put c M N (by omega) hC Fr.rf
        · obtain rfl : g = 1 := by omega
          rw [if_neg (show ¬ nI 1 = (0 : Int32) by decide)]
          by_cases hc0 : c = 0
          · subst hc0
            have hw0 : w = 0 := by rw [hw, if_neg (by omega)]
            subst hw0
            rw [if_pos (show nI 0 ≤ (0 : Int32) by decide), if_pos (show nI 0 = (0 : Int32) from rfl)]
            exact put 0 M N (by omega) hC Fr.rf
          · have hw1 : w = 1 := by rw [hw, if_pos ⟨rfl, by omega⟩]
            subst hw1
            rw [if_neg (nI_nle (by omega) (by omega)), if_neg (show ¬ nI 1 = (0 : Int32) by decide)]
            obtain ⟨M1, N1, e1, e2, hC1, f1⟩ := cf_add 32 hC (by omega)
            unfold fX9_becomeRelaxed_63
            rw [e1, bn1_e, e2, bn1_e]
            exact put (c + 1) M1 N1 (by omega) hC1 f1
theorem headerForm_eq {i z : Nat} {M N : Mm} {a : Int32} (ha : isB a) (hi : i < 6) (hz : z ≤ 24) (hB : HS i z M N) : ∃ M' N' c, fX4_headerForm i a M = some (7, M') ∧ fX11_makeHeader (nI i) a N = some N' ∧ c ≤ 24 ∧ CF c M' N' ∧ Fr M N M' N' := by
  have f0 : Fr M N (up2 M (246 + 7) 1 0) (up2 N 0 41 0) := ⟨fun t a _ => up2_o a, fun t a _ => up2_o a, fun j a => up2_k a⟩
  have C0 : CF 0 (up2 M (246 + 7) 1 0) (up2 N 0 41 0) := ⟨up2_e, up2_e, fun j hj => by omega⟩
  rcases ha with rfl | rfl
  · obtain ⟨M1, N1, e1, e2, hC1, f1⟩ := head_s hi hz FU 0 _ _ (show z < 0 + 300 by omega) (by omega) (hB.fr hi f0) C0
    refine ⟨M1, N1, z, ?_, ?_, hz, hC1, f0.tr f1⟩
    · unfold fX4_headerForm fX9_becomeSimple
      have e1' : fX9_becomeSimple_7 7 i FU 0 (up2 M (246 + 7) 1 0) = some M1 := e1
      rw [if_pos rfl, nm_x, e1', bn1_e]
    · unfold fX11_makeHeader
      rw [nm_x]
      exact e2
  · obtain ⟨M1, N1, c1, e1, e2, hc1, hC1, f1⟩ := head_r hi hz FU 0 0 0 0 _ _ (show z < 0 + 300 by omega) (by omega) (by omega) (by omega) rfl (hB.fr hi f0) C0
    refine ⟨M1, N1, c1, ?_, ?_, by omega, hC1, f0.tr f1⟩
    · unfold fX4_headerForm fX9_becomeRelaxed
      have e1' : fX9_becomeRelaxed_10 7 i 0 FU 0 0 (up2 M (246 + 7) 1 0) = some M1 := e1
      rw [if_neg (by decide), nm_x, e1', bn1_e]
    · unfold fX11_makeHeader
      rw [nm_x]
      exact e2
