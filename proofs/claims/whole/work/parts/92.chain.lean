/-! the chain's state -/
def RA (D q : Nat) (M N : Mm) : Prop := RD D M N ∧ RMl D M N ∧ RC M N ∧ RR M N ∧ RT q M N
theorem RA.w {D q : Nat} {M N M' N' : Mm} (h : RA D q M N) (f : Fw M N M' N') : RA D q M' N' := by
  obtain ⟨a, b, c, d, e⟩ := h
  exact f.parts a b c d e
def LX (D q : Nat) (M N : Mm) : Prop := M 243 12 = nI q ∧ N 0 38 = nI q ∧ ∀ j, j < q → RSg D (3 + j) M N ∧ M (271 + j) 1 = N 30 j ∧ M (271 + j) 2 = N 31 j
theorem LX.w {D q : Nat} {M N M' N' : Mm} (hq : q ≤ 4) (h : LX D q M N) (f : Fw M N M' N') : LX D q M' N' := by
  obtain ⟨a, b, c⟩ := h
  refine ⟨by rw [f.1 243 (by omega) (by omega)]; exact a, by rw [f.2.2 38 (by omega) (by omega) (by omega)]; exact b, fun j hj => ⟨(c j hj).1.w (by omega) f, ?_⟩⟩
  rw [f.1 (271 + j) (by omega) (by omega), f.2.1 30 (by omega) (by omega), f.2.1 31 (by omega) (by omega)]
  exact (c j hj).2
theorem ch_bad {q : Nat} (hq : q ≤ 4) : ∀ (n i : Nat) (N : Mm), q < i + n → i ≤ q → N 0 38 = nI q → fX11_chainState_13 n 0 (nI i) N = some (2, N) := by
  intro n
  induction n with
  | zero => intro i N h1 h2; omega
  | succ n ih =>
    intro i N h1 h2 e
    rw [fX11_chainState_13, e]
    by_cases hi : i = q
    · subst hi
      rw [if_pos (nI_le (Nat.le_refl _) (by omega)), if_pos rfl]
    · rw [if_neg (nI_ge (by omega) (by omega)), show (3 : Int32) = nI 3 from rfl, nI_add, grd_n (show 3 + i < 7 by omega) (by omega), nm_x, if_pos rfl]
      unfold fX11_chainState_99 fX11_chainState_100
      rw [nI_1]
      exact ih (i + 1) N (by omega) (by omega) e
theorem link_eq {D q i n : Nat} {M N : Mm} (hq : q ≤ 4) (hi : i < q) (hD : RD D M N) (hX : LX D q M N) : ∃ g N', (g = 0 ∨ g = 1) ∧ fX10_isLinkGood (nI i) M = some g ∧ fX11_chainState_13 (n + 1) 1 (nI i) N = fX11_chainState_13 n g (nI (i + 1)) N' ∧ FX N N' := by
  have hD20 := hD.1
  obtain ⟨x1, x2, x3⟩ := hX
  obtain ⟨hS, hst, hcv⟩ := x3 i hi
  obtain ⟨s0, ⟨d, hd, s1⟩, s2, ⟨s, hs, s3⟩, s4, s5, s6, s7, s8, s9, s10, s11, s12⟩ := id hS
  have eq := hD.2.2.2.2.1 d (by omega)
  have ek := hD.2.2.2.2.2.2.2.2.1 d (by omega) s hs
  obtain ⟨y, hy, ey⟩ := ek.2
  obtain ⟨r, N', c1, c2, fx⟩ := cover_eq (key := N 13 (2 * d + s)) hD20 (show i < 4 by omega) s0 ⟨d, hd, s1⟩ s2 ⟨s, hs, s3⟩ hst s12 (fun j hj => (x3 j (by omega)).2.2) (fun d' s' h1 h2 h3 h4 => by
    rw [s1] at h3
    rw [s3] at h4
    have i1 := (nI_eq (by omega) (by omega)).mp h3
    have i2 := (nI_eq (by omega) (by omega)).mp h4
    subst i1
    subst i2
    rfl)
  have due : ∃ u : Int32, fX10_isLinkGood (nI i) M = fX10_isLinkGood_46 (nI i) M i d (N 13 (2 * d + s)) u ∧ fX11_chainState_13 (n + 1) 1 (nI i) N = (if N 3 d = 0 then (if N 13 (2 * d + s) ≤ 0 then (fX11_chainState_99 (fX11_chainState_13 n) (nI i) N) else (fX11_chainState_78 (fX11_chainState_13 n) (nI i) u (N 30 i) N)) else (fX11_chainState_99 (fX11_chainState_13 n) (nI i) N)) := by
    have eM : fX10_isLinkGood (nI i) M = (if nI i = 0 then (fX10_isLinkGood_46 (nI i) M i d (N 13 (2 * d + s)) (0 : Int32)) else (fX10_isLinkGood_46 (nI i) M i d (N 13 (2 * d + s)) (1 : Int32))) := by
      unfold fX10_isLinkGood
      rw [grd_n (show i < 4 by omega) (by omega), cN (show i < 2 ^ 31 by omega), s0, s1, grd_n (by omega) (by omega), s2, s3, grd_n (by omega) (by omega), cN (show d < 2 ^ 31 by omega), cN (show s < 2 ^ 31 by omega), ek.1, nm_x]
    have eN : fX11_chainState_13 (n + 1) 1 (nI i) N = (if N 3 d = 0 then (if N 13 (2 * d + s) ≤ 0 then (fX11_chainState_99 (fX11_chainState_13 n) (nI i) N) else (if nI i = 0 then (fX11_chainState_78 (fX11_chainState_13 n) (nI i) 0 (N 30 i) N) else (fX11_chainState_78 (fX11_chainState_13 n) (nI i) 1 (N 30 i) N))) else (fX11_chainState_99 (fX11_chainState_13 n) (nI i) N)) := by
      rw [fX11_chainState_13, x2, if_neg (nI_ge hi (by omega)), show (3 : Int32) = nI 3 from rfl, nI_add, grd_n (show 3 + i < 7 by omega) (by omega), nm_x, cN (show 3 + i < 2 ^ 31 by omega), s1, if_neg (by decide), grd_n (by omega) (by omega), cN (show d < 2 ^ 31 by omega), grd_n (show 3 + i < 7 by omega) (by omega), s3, ix2, grd_n (by omega) (by omega), cN (show 2 * d + s < 2 ^ 31 by omega), grd_n (show i < 4 by omega) (by omega), cN (show i < 2 ^ 31 by omega)]
    by_cases h0 : nI i = 0
    · exact ⟨0, by rw [eM, if_pos h0], by rw [eN]; simp only [if_pos h0]⟩
    · exact ⟨1, by rw [eM, if_neg h0], by rw [eN]; simp only [if_neg h0]⟩
  obtain ⟨u, eM, eN⟩ := due
  rw [eM, eN]
  unfold fX10_isLinkGood_46 fX11_chainState_78 fX11_chainState_99 fX11_chainState_100
  rw [eq.1, hst, hcv, nI_1]
  by_cases hq0 : N 3 d = 0
  · rw [if_pos hq0, if_pos hq0]
    by_cases hk0 : y = 0
    · subst hk0
      rw [ey, if_pos (by decide), if_pos (by decide)]
      exact ⟨0, N, Or.inl rfl, rfl, rfl, FX.rf⟩
    · rw [if_neg (show ¬ N 13 (2 * d + s) = 0 by rw [ey]; exact nI_ne0 (by omega) (by omega)), if_neg (show ¬ N 13 (2 * d + s) ≤ 0 by rw [ey]; exact nI_nle (by omega) (by omega))]
      by_cases hu : N 30 i = u
      · rw [if_pos hu, if_pos hu, c1, bn1_e, grd_n (show i < 4 by omega) (by omega), c2, bn2_e, cN (show i < 2 ^ 31 by omega)]
        by_cases hr : N 31 i = r
        · rw [if_pos hr, if_pos hr]
          exact ⟨1, N', Or.inr rfl, rfl, rfl, fx⟩
        · rw [if_neg hr, if_neg hr]
          exact ⟨0, N', Or.inl rfl, rfl, rfl, fx⟩
      · rw [if_neg hu, if_neg hu]
        exact ⟨0, N, Or.inl rfl, rfl, rfl, FX.rf⟩
  · rw [if_neg hq0, if_neg hq0]
    exact ⟨0, N, Or.inl rfl, rfl, rfl, FX.rf⟩
theorem ch_loop {D q p : Nat} {M : Mm} (hq : q ≤ 4) (hq0 : 0 < q) (hp : p ≤ 600) : ∀ (n i : Nat) (N : Mm), q < i + n → i ≤ q → RA D p M N → LX D q M N → ∃ r M' N', fX10_chainState_14 n (nI i) M = some (r, M') ∧ fX11_chainState_13 n 1 (nI i) N = some (r, N') ∧ Fw M N M' N' ∧ (r = 1 ∨ r = 2) := by
  intro n
  induction n with
  | zero => intro i N h1 h2; omega
  | succ n ih =>
    intro i N h1 h2 hA hX
    by_cases hi : i = q
    · subst hi
      obtain ⟨b, rfl⟩ : ∃ b, i = b + 1 := ⟨i - 1, by omega⟩
      obtain ⟨r, M', N', c1, c2, f⟩ := check_eq hA.1 hA.2.1 hA.2.2.2.2 hp (show 3 + b < 7 by omega) (hX.2.2 b (by omega)).1
      rw [fX10_chainState_14, fX11_chainState_13, hX.1, hX.2.1, if_pos (nI_le (Nat.le_refl _) (by omega)), if_pos (nI_le (Nat.le_refl _) (by omega)), nI_pred, grd_n (show b < 4 by omega) (by omega), cN (by omega), c1, bn2_e, if_neg (show ¬ (1 : Int32) = 0 by decide), show (2 : Int32) + nI (b + 1) = nI (3 + b) by rw [show (2 : Int32) = nI 2 from rfl, nI_add, show 2 + (b + 1) = 3 + b by omega], c2, bn2_e]
      by_cases hr : r = 1
      · rw [if_pos hr, if_pos hr]
        exact ⟨1, M', N', rfl, rfl, f, Or.inl rfl⟩
      · rw [if_neg hr, if_neg hr]
        exact ⟨2, M', N', rfl, rfl, f, Or.inr rfl⟩
    · obtain ⟨g, N1, hg, e1, e2, fx⟩ := link_eq (n := n) hq (show i < q by omega) hA.1 hX
      have fw : Fw M N M N1 := fx.w
      rw [e2, fX10_chainState_14, hX.1, if_neg (nI_ge (show i < q by omega) (by omega)), e1, bn1_e]
      rcases hg with rfl | rfl
      · rw [if_pos rfl, ch_bad hq n (i + 1) N1 (by omega) (by omega) (by rw [fx.2 38 (by omega) (by omega)]; exact hX.2.1)]
        exact ⟨2, M, N1, rfl, rfl, fw, Or.inr rfl⟩
      · rw [if_neg (by decide), nI_1]
        obtain ⟨r, M', N', c1, c2, f, hr⟩ := ih (i + 1) N1 (by omega) (by omega) (hA.w fw) (hX.w hq fw)
        exact ⟨r, M', N', c1, c2, fw.tr f, hr⟩
theorem chain_eq {D p : Nat} {M N : Mm} (hp : p ≤ 600) (hA : RA D p M N) : ∃ r M' N', fX10_chainState M = some (r, M') ∧ fX11_chainState N = some (r, N') ∧ Fw M N M' N' ∧ (r = 0 ∨ r = 1 ∨ r = 2) := by
  obtain ⟨q, hq, e1, e2, e3, e4⟩ := hA.2.1.2.2.2.2
  unfold fX10_chainState fX11_chainState
  rw [e1, e2]
  by_cases h0 : q = 0
  · subst h0
    rw [if_pos (by decide), if_pos (by decide)]
    exact ⟨0, M, N, rfl, rfl, FX.rf.w, Or.inl rfl⟩
  · rw [if_neg (nI_ne0 (by omega) (by omega)), if_neg (nI_ne0 (by omega) (by omega))]
    obtain ⟨r, M', N', c1, c2, f, hr⟩ := ch_loop hq (by omega) hp FU 0 N (show q < 0 + 300 by omega) (by omega) hA ⟨e1, e2, e4⟩
    exact ⟨r, M', N', c1, c2, f, Or.inr hr⟩
theorem op16 : Op16 := by
  intro k M N hk hR
  obtain ⟨D, hD, hL, hC, hRr, hT⟩ := id hR
  obtain ⟨w1, w2, w3⟩ := hL.1
  unfold fX10_chain fX11_chain
  rw [w1]
  by_cases hm : N 0 19 = 0
  · rw [if_pos hm, if_pos hm]
    exact ⟨-1, M, N, rfl, rfl, hR.up⟩
  · rw [if_neg hm, if_neg hm]
    obtain ⟨r, M', N', c1, c2, f, -⟩ := chain_eq (p := k) (by omega) ⟨hD, hL, hC, hRr, hT⟩
    rw [c1, c2, bn2_e, bn2_e]
    exact ⟨r, M', N', rfl, rfl, f.rel hR⟩
/-! a signature made -/
def FK (k : Nat) (M N M' N' : Mm) : Prop := (∀ t, t ≠ 246 + 7 → t ≠ 254 + 7 → t ≠ 263 + k → M' t = M t) ∧ (∀ t, t ≠ 0 → t ≠ 32 → t < 22 ∨ 29 < t → N' t = N t) ∧ (∀ t j, t ≠ 0 → t ≠ 32 → j ≠ k → N' t j = N t j) ∧ ∀ j, j ≠ 41 → j ≠ 43 → j ≠ 1043 → N' 0 j = N 0 j
theorem make_eq {D k z hc d s w : Nat} {nm lim ex key : Int32} {M N : Mm} (hk : k < 7) (hD : D ≤ 20) (hz : z ≤ 90) (hB : BS z M N) (hc6 : hc ≤ 6) (hX : HX hc M N) (hd : d < D) (hs : s < 2) (hw : w < 4) (hl : lim = -1 ∨ isN (2 ^ 31) lim) (he : ex = -1 ∨ isN (2 ^ 31) ex) (hkey : N 13 (2 * d + s) = key) : ∃ Mf M' N', fX8_fill k (nI d) (nI s) (nI w) nm lim ex M = some Mf ∧ (∀ t, t ≠ 263 + k → Mf t = M t) ∧ fX4_seal k key Mf = some M' ∧ fX11_make (nI k) (nI d) (nI s) (nI w) nm lim ex N = some N' ∧ RSg D k M' N' ∧ FK k M N M' N' ∧ N' 22 k = nI d ∧ N' 23 k = nI s := by
  obtain ⟨Mf, eMf⟩ : ∃ Mf, Mf = up2 (up2 (up2 (up2 (up2 (up2 M (263 + k) 0 (nI d)) (263 + k) 1 (nI s)) (263 + k) 2 (nI w)) (263 + k) 3 nm) (263 + k) 4 lim) (263 + k) 5 ex := ⟨_, rfl⟩
  obtain ⟨Nf, eNf⟩ : ∃ Nf, Nf = up2 (up2 (up2 (up2 (up2 (up2 N 22 k (nI d)) 23 k (nI s)) 24 k (nI w)) 25 k nm) 26 k lim) 27 k ex := ⟨_, rfl⟩
  have fM : ∀ t, t ≠ 263 + k → Mf t = M t := fun t h => by rw [eMf, up2_o h, up2_o h, up2_o h, up2_o h, up2_o h, up2_o h]
  have fN : ∀ t, t < 22 ∨ 27 < t → Nf t = N t := fun t h => by rw [eNf, up2_o (by omega), up2_o (by omega), up2_o (by omega), up2_o (by omega), up2_o (by omega), up2_o (by omega)]
  have fNj : ∀ t j, j ≠ k → Nf t j = N t j := fun t j h => by rw [eNf, up2_or (Or.inr h), up2_or (Or.inr h), up2_or (Or.inr h), up2_or (Or.inr h), up2_or (Or.inr h), up2_or (Or.inr h)]
  have m0 : Mf (263 + k) 0 = nI d := by rw [eMf, up2_k (by omega), up2_k (by omega), up2_k (by omega), up2_k (by omega), up2_k (by omega), up2_e]
  have m1 : Mf (263 + k) 1 = nI s := by rw [eMf, up2_k (by omega), up2_k (by omega), up2_k (by omega), up2_k (by omega), up2_e]
  have m2 : Mf (263 + k) 2 = nI w := by rw [eMf, up2_k (by omega), up2_k (by omega), up2_k (by omega), up2_e]
  have m3 : Mf (263 + k) 3 = nm := by rw [eMf, up2_k (by omega), up2_k (by omega), up2_e]
  have m4 : Mf (263 + k) 4 = lim := by rw [eMf, up2_k (by omega), up2_e]
  have m5 : Mf (263 + k) 5 = ex := by rw [eMf, up2_e]
  have n0 : Nf 22 k = nI d := by rw [eNf, up2_t (by omega), up2_t (by omega), up2_t (by omega), up2_t (by omega), up2_t (by omega), up2_e]
  have n1 : Nf 23 k = nI s := by rw [eNf, up2_t (by omega), up2_t (by omega), up2_t (by omega), up2_t (by omega), up2_e]
  have n2 : Nf 24 k = nI w := by rw [eNf, up2_t (by omega), up2_t (by omega), up2_t (by omega), up2_e]
  have n3 : Nf 25 k = nm := by rw [eNf, up2_t (by omega), up2_t (by omega), up2_e]
  have n4 : Nf 26 k = lim := by rw [eNf, up2_t (by omega), up2_e]
  have n5 : Nf 27 k = ex := by rw [eNf, up2_e]
  have hBf : BS z Mf Nf := by
    unfold BS at *
    rw [fM _ (by omega), fM _ (by omega), fN 0 (by omega), fN 21 (by omega)]
    exact hB
  have hXf : HX hc Mf Nf := by
    unfold HX HS at *
    rw [fM 243 (by omega), fN 0 (by omega), fM 244 (by omega), fN 18 (by omega), fN 19 (by omega), fN 20 (by omega)]
    refine ⟨hX.1, hX.2.1, fun i hi => ?_⟩
    rw [fM (246 + i) (by omega), fM (254 + i) (by omega)]
    exact hX.2.2 i hi
  obtain ⟨r1, M1, N1, q1, q2, f1⟩ := bodyDigest_eq (w := nI w) (l := lim) hk hz hBf m2 m4 hl
  have g1 : ∀ j, M1 (263 + k) j = Mf (263 + k) j := fun j => by rw [f1.1 (263 + k) (by omega) (by omega)]
  have h1 : ∀ t, 22 ≤ t → t < 30 → N1 t = Nf t := fun t a b => f1.2.1 t (by omega) (by omega)
  have hX1 := hXf.w hc6 f1
  have hX2 : HX hc (up2 M1 (263 + k) 6 r1) (up2 N1 28 k r1) := by
    unfold HX HS at *
    rw [up2_o (show 243 ≠ 263 + k by omega), up2_o (show 0 ≠ 28 by omega), up2_o (show 244 ≠ 263 + k by omega), up2_o (show 18 ≠ 28 by omega), up2_o (show 19 ≠ 28 by omega), up2_o (show 20 ≠ 28 by omega)]
    refine ⟨hX1.1, hX1.2.1, fun i hi => ?_⟩
    rw [up2_o (show 246 + i ≠ 263 + k by omega), up2_o (show 254 + i ≠ 263 + k by omega)]
    exact hX1.2.2 i hi
  have hS2 : RS7 D k (up2 M1 (263 + k) 6 r1) (up2 N1 28 k r1) := by
    unfold RS7
    rw [up2_k (show 0 ≠ 6 by omega), up2_k (show 1 ≠ 6 by omega), up2_k (show 2 ≠ 6 by omega), up2_k (show 3 ≠ 6 by omega), up2_k (show 4 ≠ 6 by omega), up2_k (show 5 ≠ 6 by omega), up2_e, up2_t (show 22 ≠ 28 by omega), up2_t (show 23 ≠ 28 by omega), up2_t (show 24 ≠ 28 by omega), up2_t (show 25 ≠ 28 by omega), up2_t (show 26 ≠ 28 by omega), up2_t (show 27 ≠ 28 by omega), up2_e, g1, g1, g1, g1, g1, g1, h1 22 (by omega) (by omega), h1 23 (by omega) (by omega), h1 24 (by omega) (by omega), h1 25 (by omega) (by omega), h1 26 (by omega) (by omega), h1 27 (by omega) (by omega), m0, m1, m2, m3, m4, m5, n0, n1, n2, n3, n4, n5]
    exact ⟨rfl, ⟨d, hd, rfl⟩, rfl, ⟨s, hs, rfl⟩, rfl, ⟨w, hw, rfl⟩, rfl, rfl, hl, rfl, he, rfl⟩
  obtain ⟨r2, M3, N3, w1, w2, f3⟩ := seal_eq (key := key) hc6 hk hX2 hS2 hD (fun d' s' a1 a2 a3 a4 => by
    rw [up2_t (by omega), h1 22 (by omega) (by omega), n0] at a3
    rw [up2_t (by omega), h1 23 (by omega) (by omega), n1] at a4
    have i1 := (nI_eq (by omega) (by omega)).mp a3
    have i2 := (nI_eq (by omega) (by omega)).mp a4
    subst i1
    subst i2
    rw [up2_t (by omega), f1.2.1 13 (by omega) (by omega), fN 13 (by omega)]
    exact hkey)
  refine ⟨Mf, up2 M3 (263 + k) 7 r2, up2 N3 29 k r2, ?_, fM, ?_, ?_, ?_, ⟨?_, ?_, ?_, ?_⟩, ?_, ?_⟩
  · rw [eMf]
    rfl
  · unfold fX4_seal
    rw [q1, bn2_e, nm_x, w1, bn2_e, nm_x]
  · unfold fX11_make
    rw [cN (show k < 2 ^ 31 by omega)]
    simp only [grd_n hk (show 7 < 2 ^ 31 by omega), nm_x]
    rw [← eNf, q2, bn2_e, w2, bn2_e]
  · have e3 : ∀ j, M3 (263 + k) j = up2 M1 (263 + k) 6 r1 (263 + k) j := fun j => by rw [f3.1 (263 + k) (by omega) (by omega)]
    have e4 : ∀ t, 22 ≤ t → t < 30 → N3 t = up2 N1 28 k r1 t := fun t a b => f3.2.1 t (by omega) (by omega)
    obtain ⟨s0, s1, s2, s3, s4, s5, s6, s7, s8, s9, s10, s11⟩ := hS2
    unfold RSg
    rw [up2_k (show 0 ≠ 7 by omega), up2_k (show 1 ≠ 7 by omega), up2_k (show 2 ≠ 7 by omega), up2_k (show 3 ≠ 7 by omega), up2_k (show 4 ≠ 7 by omega), up2_k (show 5 ≠ 7 by omega), up2_k (show 6 ≠ 7 by omega), up2_e, up2_t (show 22 ≠ 29 by omega), up2_t (show 23 ≠ 29 by omega), up2_t (show 24 ≠ 29 by omega), up2_t (show 25 ≠ 29 by omega), up2_t (show 26 ≠ 29 by omega), up2_t (show 27 ≠ 29 by omega), up2_t (show 28 ≠ 29 by omega), up2_e, e3, e3, e3, e3, e3, e3, e3, e4 22 (by omega) (by omega), e4 23 (by omega) (by omega), e4 24 (by omega) (by omega), e4 25 (by omega) (by omega), e4 26 (by omega) (by omega), e4 27 (by omega) (by omega), e4 28 (by omega) (by omega)]
    exact ⟨s0, s1, s2, s3, s4, s5, s6, s7, s8, s9, s10, s11, rfl⟩
  · exact fun t a1 a2 a3 => by rw [up2_o a3, f3.1 t a1 a2, up2_o a3, f1.1 t a1 a2, fM t a3]
  · exact fun t a1 a2 a3 => by rw [up2_o (by omega), f3.2.1 t a1 a2, up2_o (by omega), f1.2.1 t a1 a2, fN t (by omega)]
  · exact fun t j a1 a2 a3 => by rw [up2_or (Or.inr a3), f3.2.1 t a1 a2, up2_or (Or.inr a3), f1.2.1 t a1 a2, fNj t j a3]
  · exact fun j a1 a2 a3 => by rw [up2_t (by omega), f3.2.2 j a1 a2 a3, up2_t (by omega), f1.2.2 j a1 a2 a3, fN 0 (by omega)]
  · rw [up2_t (by omega), f3.2.1 22 (by omega) (by omega), up2_t (by omega), h1 22 (by omega) (by omega), n0]
  · rw [up2_t (by omega), f3.2.1 23 (by omega) (by omega), up2_t (by omega), h1 23 (by omega) (by omega), n1]
