/-! digests -/
def mx (h : Int64) (x : Int32) : Int64 := ((h ^^^ x.toInt64) * (-7046029254386353131 : Int64)) ^^^ (ushr64 ((h ^^^ x.toInt64) * (-7046029254386353131 : Int64)) (30 : Int32))
def dg (h : Int64) : Int32 := (ushr64 h (33 : Int32)).toInt32
theorem mix_M (h : Int64) (x : Int32) : fX10_mix h x = some (mx h x) := rfl
theorem dig_M (h : Int64) : fX10_digestOf h = some (dg h) := rfl
theorem rd_wr (N : Mm) (v : Int64) : rdL (wrL N 0 43 v) 0 43 = v := by
  unfold rdL wrL
  rw [show up2 (up2 N 0 43 (hi64 v)) 0 (43 + 1000) (lo64 v) 0 43 = hi64 v by rw [up2_k (by omega), up2_e], up2_e, mk64_hl]
/-- nothing but the mixed word has changed -/
def FX (N N' : Mm) : Prop := (∀ t, t ≠ 0 → N' t = N t) ∧ ∀ j, j ≠ 43 → j ≠ 1043 → N' 0 j = N 0 j
theorem FX.rf {N : Mm} : FX N N := ⟨fun _ _ => rfl, fun _ _ _ => rfl⟩
theorem FX.tr {N N1 N2 : Mm} (a : FX N N1) (b : FX N1 N2) : FX N N2 := ⟨fun t h => (b.1 t h).trans (a.1 t h), fun j h1 h2 => (b.2 j h1 h2).trans (a.2 j h1 h2)⟩
theorem FX.w {M N N' : Mm} (f : FX N N') : Fw M N M N' := ⟨fun _ _ _ => rfl, fun t h _ => f.1 t h, fun j _ h1 h2 => f.2 j h1 h2⟩
theorem fx_wr (N : Mm) (v : Int64) : FX N (wrL N 0 43 v) := ⟨fun t h => by unfold wrL; rw [up2_o h, up2_o h], fun j h1 h2 => by unfold wrL; rw [up2_k (show j ≠ 43 + 1000 from h2), up2_k h1]⟩
theorem mix_N (N : Mm) (x : Int32) : ∃ N', fX11_mix x N = some N' ∧ rdL N' 0 43 = mx (rdL N 0 43) x ∧ FX N N' := ⟨wrL N 0 43 (mx (rdL N 0 43) x), rfl, rd_wr _ _, fx_wr _ _⟩
theorem dig_N (N : Mm) : fX11_digest N = some (dg (rdL N 0 43)) := rfl
theorem Fr.rd {M N M' N' : Mm} (f : Fr M N M' N') : rdL N' 0 43 = rdL N 0 43 := by
  unfold rdL
  rw [f.2.2 43 (by omega), f.2.2 (43 + 1000) (by omega)]
theorem CF.fx {c : Nat} {M N N' : Mm} (h : CF c M N) (f : FX N N') : CF c M N' := by
  unfold CF at *
  rw [f.1 32 (by omega), f.2 41 (by omega) (by omega)]
  exact h
theorem bd_loop {c : Nat} {M : Mm} {a0 : Int64} {A B w : Int32} (hc : c ≤ 91) (hl : (B = -1 ∧ A = nI c) ∨ ∃ l, l < 2 ^ 31 ∧ A = nI l ∧ B = nI l) : ∀ (n i : Nat) (h : Int64) (N : Mm), c < i + n → i ≤ c → CF c M N → rdL N 0 43 = h → ∃ h' N', fX10_mixText_6 a0 7 A M n h (nI i) = some h' ∧ fX11_bodyDigest_22 w B n (nI i) N = some (dg h', N') ∧ FX N N' := by
  intro n
  induction n with
  | zero => intro i h N h1 h2; omega
  | succ n ih =>
    intro i h N h1 h2 hC hr
    rw [fX10_mixText_6, fX11_bodyDigest_22, hC.1, hC.2.1]
    have stop : fX11_bodyDigest_55 w B N = some (dg h, N) := by
      unfold fX11_bodyDigest_55
      rw [dig_N, hr, bn1_e]
    by_cases hi : i = c
    · subst hi
      rw [if_pos (nI_le (Nat.le_refl _) (by omega) : nI i ≤ nI i), if_pos (nI_le (Nat.le_refl _) (by omega) : nI i ≤ nI i), stop]
      refine ⟨h, N, ?_, rfl, FX.rf⟩
      by_cases ha : A ≤ nI i
      · rw [if_pos ha]
      · rw [if_neg ha]
    · rw [if_neg (nI_ge (show i < c by omega) (by omega)), if_neg (nI_ge (show i < c by omega) (by omega))]
      have go : ∃ h' N', (grd (gin (nI i) (tlen 7)) (bn1 (fX10_mix h (M (254 + 7) (nI i).toNatClampNeg)) (fun v30 => (fX10_mixText_6 a0 7 A M n) v30 (nI i + 1)))) = some h' ∧ fX11_bodyDigest_39 w B (fX11_bodyDigest_22 w B n) (nI i) N = some (dg h', N') ∧ FX N N' := by
        obtain ⟨N1, m1, m2, f1⟩ := mix_N N (N 32 i)
        obtain ⟨h', N', e1, e2, f2⟩ := ih (i + 1) (mx h (N 32 i)) N1 (by omega) (by omega) (hC.fx f1) (by rw [m2, hr])
        refine ⟨h', N', ?_, ?_, f1.tr f2⟩
        · rw [show tlen 7 = 91 from rfl, grd_n (by omega) (by omega), cN (by omega), hC.2.2 i (by omega), mix_M, bn1_e, nI_1, e1]
        · unfold fX11_bodyDigest_39
          rw [grd_n (by omega) (by omega), cN (by omega), m1, bn1_e, nI_1, e2]
      rcases hl with ⟨rfl, rfl⟩ | ⟨l, hl, rfl, rfl⟩
      · rw [if_neg (nI_ge (show i < c by omega) (by omega)), if_pos (by decide)]
        exact go
      · rw [if_neg (nI_pos hl)]
        by_cases hli : l ≤ i
        · rw [if_pos (nI_le hli (by omega)), if_pos (nI_le hli (by omega)), stop]
          exact ⟨h, N, rfl, rfl, FX.rf⟩
        · rw [if_neg (nI_ge (by omega) hl), if_neg (nI_ge (by omega) hl)]
          exact go
theorem relaxed_c {k : Nat} {M : Mm} {w : Int32} (e : M (263 + k) 2 = w) : ∃ a, isB a ∧ fX8_isBodyRelaxed k M = some a ∧ ∀ N : Mm, fX11_bodyLength w N = fX11_bodyLength_12 w a N ∧ ∀ l, fX11_bodyDigest w l N = fX11_bodyDigest_12 w l a N := by
  unfold fX8_isBodyRelaxed fX11_bodyLength fX11_bodyDigest
  rw [e]
  by_cases h : (w &&& (2 : Int32)) = 0
  · exact ⟨0, Or.inl rfl, if_pos h, fun N => ⟨if_pos h, fun l => if_pos h⟩⟩
  · exact ⟨1, Or.inr rfl, if_neg h, fun N => ⟨if_neg h, fun l => if_neg h⟩⟩
theorem bodyDigest_eq {k z : Nat} {M N : Mm} {w l : Int32} (hk : k < 7) (hz : z ≤ 90) (hB : BS z M N) (hw : M (263 + k) 2 = w) (hl : M (263 + k) 4 = l) (hl2 : l = -1 ∨ isN (2 ^ 31) l) : ∃ r M' N', fX4_bodyDigestFor k M = some (r, M') ∧ fX11_bodyDigest w l N = some (r, N') ∧ Fw M N M' N' := by
  obtain ⟨a, ha, e1, e2⟩ := relaxed_c hw
  obtain ⟨M1, N1, c, g1, g2, hc, hC, f⟩ := bodyForm_eq ha hz hB
  have hl1 : M1 (263 + k) 4 = l := by rw [f.1 (263 + k) (by omega) (by omega)]; exact hl
  have key : ∀ A, ((l = -1 ∧ A = nI c) ∨ ∃ q, q < 2 ^ 31 ∧ A = nI q ∧ l = nI q) → ∃ r N', fX4_bodyDigestFor_30 k A 7 0 M1 = some (r, M1) ∧ fX11_bodyDigest w l N = some (r, N') ∧ Fw M N M1 N' := by
    intro A hA
    obtain ⟨h', N', m1, m2, fx⟩ := bd_loop (a0 := 0) (w := w) hc hA FU 0 0 (wrL N1 0 43 0) (show c < 0 + 300 by omega) (by omega) (hC.fx (fx_wr _ _)) (rd_wr _ _)
    refine ⟨dg h', N', ?_, ?_, f.w.tr (((fx_wr N1 0).tr fx).w)⟩
    · unfold fX4_bodyDigestFor_30 fX10_mixText
      have m1' : fX10_mixText_6 0 7 A M1 FU 0 0 = some h' := m1
      rw [m1', bn1_e, dig_M, bn1_e]
    · rw [(e2 N).2 l]
      unfold fX11_bodyDigest_12
      rw [g2, bn1_e, nm_x]
      exact m2
  unfold fX4_bodyDigestFor
  rw [e1, bn1_e, g1, bn2_e, grd_lt (by omega), hl1, hC.1]
  by_cases hm : l = -1
  · obtain ⟨r, N', q1, q2, q3⟩ := key (nI c) (Or.inl ⟨hm, rfl⟩)
    exact ⟨r, M1, N', by rw [if_pos hm]; exact q1, q2, q3⟩
  · obtain ⟨q, hq, rfl⟩ : isN (2 ^ 31) l := hl2.elim (fun z => absurd z hm) id
    obtain ⟨r, N', q1, q2, q3⟩ := key (nI q) (Or.inr ⟨q, hq, rfl, rfl⟩)
    exact ⟨r, M1, N', by rw [if_neg hm]; exact q1, q2, q3⟩
/-- the mail's headers, as both hold them -/
def HX (h : Nat) (M N : Mm) : Prop := M 243 6 = nI h ∧ N 0 23 = nI h ∧ ∀ i, i < h → M 244 i = N 18 i ∧ ∃ z, z ≤ 24 ∧ HS i z M N
theorem HX.w {h : Nat} {M N M' N' : Mm} (hh : h ≤ 6) (a : HX h M N) (f : Fw M N M' N') : HX h M' N' := by
  obtain ⟨a1, a2, a3⟩ := a
  refine ⟨by rw [f.1 243 (by omega) (by omega)]; exact a1, by rw [f.2.2 23 (by omega) (by omega) (by omega)]; exact a2, fun i hi => ?_⟩
  obtain ⟨b1, z, hz, b2, b3, b4⟩ := a3 i hi
  refine ⟨by rw [f.1 244 (by omega) (by omega), f.2.1 18 (by omega) (by omega)]; exact b1, z, hz, ?_⟩
  unfold HS
  rw [f.1 (246 + i) (by omega) (by omega), f.1 (254 + i) (by omega) (by omega), f.2.1 19 (by omega) (by omega), f.2.1 20 (by omega) (by omega)]
  exact ⟨b2, b3, b4⟩
theorem hd_loop {c : Nat} {M : Mm} {a0 : Int64} {s x2 : Int32} {K : Int32 → Mm → Option (Int32 × Mm)} (hc : c ≤ 24) : ∀ (n i : Nat) (h : Int64) (N : Mm), c < i + n → i ≤ c → CF c M N → rdL N 0 43 = h → ∃ h' N', fX10_mixText_6 a0 7 (nI c) M n h (nI i) = some h' ∧ rdL N' 0 43 = mx h' 0 ∧ fX11_sealOf_161 s K n x2 (nI i) N = fX11_sealOf_190 s K x2 N' ∧ FX N N' := by
  intro n
  induction n with
  | zero => intro i h N h1 h2; omega
  | succ n ih =>
    intro i h N h1 h2 hC hr
    rw [fX10_mixText_6, fX11_sealOf_161, hC.1, hC.2.1]
    by_cases hi : i = c
    · subst hi
      rw [if_pos (nI_le (Nat.le_refl _) (by omega) : nI i ≤ nI i), if_pos (nI_le (Nat.le_refl _) (by omega) : nI i ≤ nI i)]
      obtain ⟨N1, m1, m2, f1⟩ := mix_N N 0
      exact ⟨h, N1, rfl, by rw [m2, hr], by rw [m1, bn1_e], f1⟩
    · rw [if_neg (nI_ge (show i < c by omega) (by omega)), if_neg (nI_ge (show i < c by omega) (by omega)), if_neg (nI_ge (show i < c by omega) (by omega))]
      obtain ⟨N1, m1, m2, f1⟩ := mix_N N (N 32 i)
      obtain ⟨h', N', e1, e0, e2, f2⟩ := ih (i + 1) (mx h (N 32 i)) N1 (by omega) (by omega) (hC.fx f1) (by rw [m2, hr])
      refine ⟨h', N', ?_, e0, ?_, f1.tr f2⟩
      · rw [show tlen 7 = 91 from rfl, grd_n (by omega) (by omega), cN (by omega), hC.2.2 i (by omega), mix_M, bn1_e, nI_1, e1]
      · rw [grd_n (by omega) (by omega), cN (by omega), m1, bn1_e, nI_1, e2]
theorem and1 (x : Int32) : x &&& 1 = 0 ∨ x &&& 1 = 1 := by
  obtain ⟨j, hj, e⟩ := pk_andE x (m := 1) 1 (by decide)
  have : j = 0 ∨ j = 1 := by omega
  rcases this with rfl | rfl
  · exact Or.inl e
  · exact Or.inr e
theorem seal_loop {hc k : Nat} {key : Int32} (hh : hc ≤ 6) (hk : k < 7) : ∀ (n i : Nat) (h : Int64) (M N : Mm), hc < i + n → i ≤ hc → HX hc M N → M (263 + k) 3 = N 25 k → M (263 + k) 2 = N 24 k → rdL N 0 43 = h → ∃ r M' N', fX4_sealFor_72 k key n h (nI i) M = some (r, M') ∧ fX11_sealOf_101 (nI k) n (nI i) N = some (r, N') ∧ Fw M N M' N' := by
  intro n
  induction n with
  | zero => intro i h M N h1 h2; omega
  | succ n ih =>
    intro i h M N h1 h2 hX hn3 hn2 hr
    rw [fX4_sealFor_72, fX11_sealOf_101, hX.1, hX.2.1]
    by_cases hi : i = hc
    · subst hi
      rw [if_pos (nI_le (Nat.le_refl _) (by omega) : nI i ≤ nI i), if_pos (nI_le (Nat.le_refl _) (by omega) : nI i ≤ nI i), dig_M, bn1_e, dig_N, bn1_e, hr]
      exact ⟨_, M, N, rfl, rfl, FX.rf.w⟩
    · obtain ⟨n1, z, hz, hS⟩ := hX.2.2 i (by omega)
      rw [if_neg (nI_ge (show i < hc by omega) (by omega)), if_neg (nI_ge (show i < hc by omega) (by omega)), grd_n (show i < 6 by omega) (by omega), grd_n hk (by omega), grd_n (show i < 6 by omega) (by omega), cN (show i < 2 ^ 31 by omega), cN (show k < 2 ^ 31 by omega)]
      unfold fX8_hasName
      rw [hn3, n1]
      rcases and1 (N 25 k >>> (N 18 i &&& 31)) with q | q
      · rw [if_pos q, bn1_e, if_pos rfl, q, if_neg (by decide)]
        unfold fX4_sealFor_142 fX11_sealOf_190
        rw [nI_1, grd_n (show i < 6 by omega) (by omega)]
        exact ih (i + 1) h M N (by omega) (by omega) hX hn3 hn2 hr
      · rw [q, if_neg (by decide), bn1_e, if_neg (by decide), if_pos rfl, grd_n (show i < 6 by omega) (by omega), mix_M, bn1_e, grd_n (show i < 6 by omega) (by omega), grd_n hk (by omega)]
        have rel : ∃ a, isB a ∧ fX8_isHeaderRelaxed k M = some a ∧ (if (N 24 k &&& (1 : Int32)) = 0 then (fX11_sealOf_146 (nI k) (fX11_sealOf_101 (nI k) n) (nI i) (0 : Int32) (nI i) N) else (fX11_sealOf_146 (nI k) (fX11_sealOf_101 (nI k) n) (nI i) (1 : Int32) (nI i) N)) = fX11_sealOf_146 (nI k) (fX11_sealOf_101 (nI k) n) (nI i) a (nI i) N := by
          unfold fX8_isHeaderRelaxed
          rw [hn2]
          by_cases h0 : (N 24 k &&& (1 : Int32)) = 0
          · exact ⟨0, Or.inl rfl, if_pos h0, if_pos h0⟩
          · exact ⟨1, Or.inr rfl, if_neg h0, if_neg h0⟩
        obtain ⟨a, ha, r1, r2⟩ := rel
        obtain ⟨M1, N1, c, g1, g2, hc24, hC, f⟩ := headerForm_eq ha (show i < 6 by omega) hz hS
        obtain ⟨N2, m1, m2, fx2⟩ := mix_N N1 (N 18 i)
        have hr2 : rdL N2 0 43 = mx h (N 18 i) := by rw [m2, f.rd, hr]
        obtain ⟨h', N3, q1, q0, q2, fx3⟩ := hd_loop (a0 := mx h (N 18 i)) (s := nI k) (x2 := nI i) (K := fX11_sealOf_101 (nI k) n) hc24 FU 0 (mx h (N 18 i)) N2 (show c < 0 + 300 by omega) (by omega) (hC.fx fx2) hr2
        have fw : Fw M N M1 N3 := f.w.tr (fx2.tr fx3).w
        obtain ⟨r, M', N', e1, e2, fe⟩ := ih (i + 1) (mx h' 0) M1 N3 (by omega) (by omega) (hX.w hh fw) (by rw [fw.1 (263 + k) (by omega) (by omega), fw.2.1 25 (by omega) (by omega)]; exact hn3) (by rw [fw.1 (263 + k) (by omega) (by omega), fw.2.1 24 (by omega) (by omega)]; exact hn2) q0
        refine ⟨r, M', N', ?_, ?_, fw.tr fe⟩
        · rw [r1, bn1_e, g1, bn2_e, grd_lt (by omega), hC.1]
          unfold fX10_mixText
          have q1' : fX10_mixText_6 (mx h (N 18 i)) 7 (nI c) M1 FU (mx h (N 18 i)) 0 = some h' := q1
          rw [q1', bn1_e, mix_M, bn1_e]
          unfold fX4_sealFor_142
          rw [nI_1]
          exact e1
        · rw [r2]
          unfold fX11_sealOf_146
          have n18 : N1 18 i = N 18 i := by rw [f.2.1 18 (by omega) (by omega)]
          rw [g2, bn1_e, grd_n (show i < 6 by omega) (by omega), cN (show i < 2 ^ 31 by omega), n18, m1, bn1_e]
          have q2' : fX11_sealOf_161 (nI k) (fX11_sealOf_101 (nI k) n) FU (nI i) 0 N2 = fX11_sealOf_190 (nI k) (fX11_sealOf_101 (nI k) n) (nI i) N3 := q2
          rw [q2']
          unfold fX11_sealOf_190
          rw [nI_1]
          exact e2
/-- a signature but for its seal -/
def RS7 (D k : Nat) (M N : Mm) : Prop := M (263 + k) 0 = N 22 k ∧ isN D (N 22 k) ∧ M (263 + k) 1 = N 23 k ∧ isN 2 (N 23 k) ∧ M (263 + k) 2 = N 24 k ∧ isN 4 (N 24 k) ∧ M (263 + k) 3 = N 25 k ∧ M (263 + k) 4 = N 26 k ∧ (N 26 k = -1 ∨ isN (2 ^ 31) (N 26 k)) ∧ M (263 + k) 5 = N 27 k ∧ (N 27 k = -1 ∨ isN (2 ^ 31) (N 27 k)) ∧ M (263 + k) 6 = N 28 k
theorem RSg.s7 {D k : Nat} {M N : Mm} (h : RSg D k M N) : RS7 D k M N := by
  obtain ⟨s0, s1, s2, s3, s4, s5, s6, s7, s8, s9, s10, s11, s12⟩ := h
  exact ⟨s0, s1, s2, s3, s4, s5, s6, s7, s8, s9, s10, s11⟩
theorem seal_eq {hc k D : Nat} {key : Int32} {M N : Mm} (hh : hc ≤ 6) (hk : k < 7) (hX : HX hc M N) (hS : RS7 D k M N) (hD : D ≤ 20) (hkey : ∀ d s, d < 20 → s < 2 → N 22 k = nI d → N 23 k = nI s → N 13 (2 * d + s) = key) : ∃ r M' N', fX4_sealFor k key M = some (r, M') ∧ fX11_sealOf (nI k) N = some (r, N') ∧ Fw M N M' N' := by
  obtain ⟨s0, ⟨d, hd, s1⟩, s2, ⟨s, hs, s3⟩, s4, s5, s6, s7, s8, s9, s10, s11⟩ := hS
  have hky := hkey d s (by omega) hs s1 s3
  obtain ⟨N1, a1, b1, f1⟩ := mix_N (wrL N 0 43 0) key
  obtain ⟨N2, a2, b2, f2⟩ := mix_N N1 (N 22 k)
  obtain ⟨N3, a3, b3, f3⟩ := mix_N N2 (N 23 k)
  obtain ⟨N4, a4, b4, f4⟩ := mix_N N3 (N 24 k)
  obtain ⟨N5, a5, b5, f5⟩ := mix_N N4 (N 25 k)
  obtain ⟨N6, a6, b6, f6⟩ := mix_N N5 (N 26 k)
  obtain ⟨N7, a7, b7, f7⟩ := mix_N N6 (N 27 k)
  obtain ⟨N8, a8, b8, f8⟩ := mix_N N7 (N 28 k)
  have g0 := fx_wr N 0
  have g1 := g0.tr f1
  have g2 := g1.tr f2
  have g3 := g2.tr f3
  have g4 := g3.tr f4
  have g5 := g4.tr f5
  have g6 := g5.tr f6
  have g7 := g6.tr f7
  have g8 := g7.tr f8
  have hr8 : rdL N8 0 43 = mx (mx (mx (mx (mx (mx (mx (mx 0 key) (N 22 k)) (N 23 k)) (N 24 k)) (N 25 k)) (N 26 k)) (N 27 k)) (N 28 k) := by
    rw [b8, b7, b6, b5, b4, b3, b2, b1, rd_wr]
  obtain ⟨r, M', N', e1, e2, fe⟩ := seal_loop (key := key) hh hk FU 0 _ M N8 (show hc < 0 + 300 by omega) (by omega) (hX.w hh g8.w) (by rw [g8.1 25 (by omega)]; exact s6) (by rw [g8.1 24 (by omega)]; exact s4) hr8
  refine ⟨r, M', N', ?_, ?_, (g8.w (M := M)).tr fe⟩
  · unfold fX4_sealFor
    rw [mix_M, bn1_e, s0, mix_M, bn1_e, s2, mix_M, bn1_e, s4, mix_M, bn1_e, s6, mix_M, bn1_e, s7, mix_M, bn1_e, s9, mix_M, bn1_e, s11, mix_M, bn1_e]
    exact e1
  · unfold fX11_sealOf
    rw [nm_x, cN (show k < 2 ^ 31 by omega)]
    simp only [grd_n hk (show 7 < 2 ^ 31 by omega)]
    have w22 : wrL N 0 43 0 22 = N 22 := g0.1 22 (by omega)
    have w23 : wrL N 0 43 0 23 = N 23 := g0.1 23 (by omega)
    have w13 : wrL N 0 43 0 13 = N 13 := g0.1 13 (by omega)
    rw [w22, w23, w13, s1, s3, ix2, grd_n (by omega) (by omega), cN (show 2 * d + s < 2 ^ 31 by omega), hky, a1, bn1_e, g1.1 22 (by omega), a2, bn1_e, g2.1 23 (by omega), a3, bn1_e, g3.1 24 (by omega), a4, bn1_e, g4.1 25 (by omega), a5, bn1_e, g5.1 26 (by omega), a6, bn1_e, g6.1 27 (by omega), a7, bn1_e, g7.1 28 (by omega), a8, bn1_e]
    exact e2
