/-! the judgement: signatures, and the whole -/
theorem j_one {a1 x4 x5 x6 x7 : Int32} {g : Nat} (hg : g ≤ 3) {N : Mm} (e : N 0 29 = nI g) : ∀ (n i : Nat), g < i + n → i ≤ g → fX11_judge_200 a1 n x4 x5 x6 x7 1 (nI i) N = fX11_judge_292 a1 x7 1 0 N := by
  intro n
  induction n with
  | zero => intro i h1 h2; omega
  | succ n ih =>
    intro i h1 h2
    rw [fX11_judge_200, e]
    by_cases hi : i = g
    · subst hi
      rw [if_pos (nI_le (Nat.le_refl _) (by omega)), if_neg (by decide)]
      rfl
    · rw [if_neg (nI_ge (by omega) (by omega)), if_neg (by decide)]
      unfold fX11_judge_250 fX11_judge_255
      rw [nI_1]
      exact ih (i + 1) (by omega) (by omega)
theorem sig_eq {D q g a j : Nat} {a1 x4 x5 x6 x7 : Int32} (hq : q ≤ 600) (hg : g ≤ 3) (ha : a < D) : ∀ (n i : Nat) (M N : Mm), g < i + n → i ≤ g → RD D M N → RMl D M N → RT q M N → M 243 10 = nI g → N 0 29 = nI g → (∀ k, k < g → RSg D k M N) → M 243 2 = nI a → N 0 21 = nI a → ∃ v M' N', (v = 0 ∨ v = 1) ∧ fX10_signatureAgrees_17 j n (if (x4 &&& (1 : Int32)) = 0 then 0 else 1) (nI i) M = some (v, M') ∧ fX11_judge_200 a1 n x4 x5 x6 x7 0 (nI i) N = fX11_judge_292 a1 x7 v (if v = 0 then act a1 x5 x6 else 0) N' ∧ Fw M N M' N' := by
  intro n
  induction n with
  | zero => intro i M N h1 h2; omega
  | succ n ih =>
    intro i M N h1 h2 hD hL hT e1 e2 e3 e4 e5
    have hD20 := hD.1
    rw [fX10_signatureAgrees_17, fX11_judge_200, e1, e2]
    by_cases hi : i = g
    · subst hi
      rw [if_pos (nI_le (Nat.le_refl _) (by omega)), if_pos (nI_le (Nat.le_refl _) (by omega)), if_pos rfl]
      refine ⟨0, M, N, Or.inl rfl, rfl, ?_, ⟨fun _ _ _ => rfl, fun _ _ _ => rfl, fun _ _ _ _ => rfl⟩⟩
      rw [if_pos rfl]
      unfold fX11_judge_273 act
      by_cases h0 : x5 = 0
      · rw [if_pos h0, if_pos h0]
      · rw [if_neg h0, if_neg h0]
        by_cases h1 : a1 < x6
        · rw [if_pos h1, if_pos h1]
        · rw [if_neg h1, if_neg h1]
    · have hS := e3 i (by omega)
      obtain ⟨f1, ⟨d, hd, ed⟩, -⟩ := id hS
      rw [if_neg (nI_ge (by omega) (by omega)), if_neg (nI_ge (by omega) (by omega)), if_pos rfl, grd_n (show i < 3 by omega) (by omega), grd_n (show i < 7 by omega) (by omega), cN (show i < 2 ^ 31 by omega), f1, ed]
      have eif : (if (x4 &&& (1 : Int32)) = 0 then (fX11_judge_234 a1 (fX11_judge_200 a1 n) x4 x5 x6 x7 (nI i) (0 : Int32) (nI d) N) else (fX11_judge_234 a1 (fX11_judge_200 a1 n) x4 x5 x6 x7 (nI i) (1 : Int32) (nI d) N)) = fX11_judge_234 a1 (fX11_judge_200 a1 n) x4 x5 x6 x7 (nI i) (if (x4 &&& (1 : Int32)) = 0 then 0 else 1) (nI d) N := by
        by_cases z : (x4 &&& (1 : Int32)) = 0
        · rw [if_pos z, if_pos z]
        · rw [if_neg z, if_neg z]
      rw [eif]
      unfold fX11_judge_234 fX11_judge_254 fX11_judge_250 fX11_judge_255 fX10_signatureAgrees_64
      obtain ⟨r, hr, n1, n2⟩ := near_eq hD hd ha e4 e5 (if (x4 &&& (1 : Int32)) = 0 then 0 else 1)
      rw [n1, n2, bn1_e, bn1_e, nI_1]
      by_cases r0 : r = 0
      · rw [if_pos r0, if_pos r0]
        exact ih (i + 1) M N (by omega) (by omega) hD hL hT e1 e2 e3 e4 e5
      · rw [if_neg r0, if_neg r0]
        obtain ⟨v, M1, N1, c1, c2, f⟩ := check_eq hD hL hT hq (show i < 7 by omega) hS
        rw [c1, c2, bn2_e, bn2_e]
        have f243 : M1 243 = M 243 := f.1 243 (by omega) (by omega)
        by_cases hv : v = 1
        · rw [if_pos hv, if_pos hv]
          refine ⟨1, M1, N1, Or.inr rfl, rfl, ?_, f⟩
          rw [if_neg (by decide)]
          exact j_one hg ((f.2.2 29 (by omega) (by omega) (by omega)).trans e2) n (i + 1) (by omega) (by omega)
        · rw [if_neg hv, if_neg hv]
          have hD1 : RD D M1 N1 := hD.to (by rw [f.1 0 (by omega) (by omega)]) (fun t a b => f.1 t (by omega) (by omega)) (f.2.2 0 (by omega) (by omega) (by omega)) (fun t a b => f.2.1 t (by omega) (by omega))
          have hL1 : RMl D M1 N1 := hL.to (Nat.le_refl _) (fun j a => by rw [f243]) (fun t a b c d => f.1 t (by omega) (by omega)) (fun j a b => f.2.2 j (by omega) (by omega) (by omega)) (fun t a b => f.2.1 t (by omega) (by omega))
          have hT1 : RT q M1 N1 := by
            obtain ⟨t, ht, u1, u2⟩ := hT
            exact ⟨t, ht, by rw [f.1 0 (by omega) (by omega)]; exact u1, by rw [f.2.2 18 (by omega) (by omega) (by omega)]; exact u2⟩
          obtain ⟨w, M2, N2, b1, b2, b3, b4⟩ := ih (i + 1) M1 N1 (by omega) (by omega) hD1 hL1 hT1 (by rw [f243]; exact e1) ((f.2.2 29 (by omega) (by omega) (by omega)).trans e2) (fun k hk => (e3 k hk).to (Nat.le_refl _) (f.1 _ (by omega) (by omega)) (fun t a b => by rw [f.2.1 t (by omega) (by omega)])) (by rw [f243]; exact e4) ((f.2.2 21 (by omega) (by omega) (by omega)).trans e5)
          exact ⟨w, M2, N2, b1, b2, b3, f.tr b4⟩
theorem end_eq {D k a : Nat} {a1 x7 v s0 : Int32} {M N : Mm} (hD : RD D M N) (hL : RMl D M N) (hC : RC M N) (hR : RR M N) (hT : RT (k + 1) M N) (ha : a < D) (e1 : M 243 2 = nI a) (e2 : N 0 21 = nI a) (e3 : M 243 3 = N 0 22) : ∃ r M' N', fX10_judge_92 a1 x7 v s0 M = some (r, M') ∧ fX11_judge_292 a1 x7 v s0 N = some (r, N') ∧ Rel (k + 1) M' N' := by
  have hD20 := hD.1
  unfold fX10_judge_92 fX11_judge_292 fX10_report fX11_report
  rw [e1, e2, grd_n (show a < 20 by omega) (by omega), cN (show a < 2 ^ 31 by omega), home_eq hD ha, bn1_e, e3]
  obtain ⟨R, hR12, r1, r2, r3⟩ := hR
  obtain ⟨M', N', g1, g2, f, g3⟩ := rep_loop (h := M (2 + a) 1) (ip := N 0 22) (act := s0) (res := x7) hR12 r1 r2 r3 rfl FU 0 (show R < 0 + 300 by omega) (by omega)
  rw [show (0 : Int32) = nI 0 from rfl] at *
  rw [g1, g2, bn1_e, bn1_e]
  have hRel : Rel (k + 1) M' N' := ⟨D, hD.to (f.2.1 1 (by omega)) (fun t a b => f.1 t (by omega) (by omega)) (f.2.2.2 0 (by omega)) (fun t a b => f.2.2.1 t (by omega) (by omega)), hL.to (Nat.le_refl _) (fun j a => by rw [f.1 243 (by omega) (by omega)]) (fun t a b c d => f.1 t (by omega) (by omega)) (fun j a b => f.2.2.2 j (by omega)) (fun t a b => f.2.2.1 t (by omega) (by omega)), hC.to (f.1 275 (by omega) (by omega)) (f.2.2.2 44 (by omega)) (f.2.2.2 45 (by omega)), g3, by
    obtain ⟨t, ht, u1, u2⟩ := hT
    exact ⟨t, ht, by rw [f.2.1 7 (by omega)]; exact u1, by rw [f.2.2.2 18 (by omega)]; exact u2⟩⟩
  by_cases hv : v = nI 0
  · rw [if_pos hv, if_pos hv]
    exact ⟨_, _, _, rfl, rfl, hRel⟩
  · rw [if_neg hv, if_neg hv]
    exact ⟨_, _, _, rfl, rfl, hRel⟩
theorem op18 : Op18 := by
  intro k M N hk hR a1
  obtain ⟨D, hD, hL, hC, hRR, hT⟩ := id hR
  unfold fX10_judge fX11_judge
  obtain ⟨w1, w2, w3⟩ := hL.1
  rw [w1]
  by_cases h : N 0 19 = 0
  · rw [if_pos h, if_pos h]
    exact ⟨_, _, _, rfl, rfl, hR.up⟩
  · rw [if_neg h, if_neg h]
    obtain ⟨v1, ⟨a, ha, ea⟩, v3, v4, v5⟩ := w3 (w2.elim (fun q => absurd q h) id)
    rcases i_cases a1 (n := 100) (by omega) with ⟨y, hy, rfl⟩ | hx | ⟨hx0, hx⟩
    · rw [show fX10_isWithin (nI y) (0 : Int32) (99 : Int32) = some 1 from win_y (n := 99) (by omega) (by omega), bn1_e, if_neg (by decide), if_neg (nI_pos (by omega)), if_pos (show nI y ≤ (99 : Int32) from nI_le (b := 99) (by omega) (by omega))]
      obtain ⟨r, M1, N1, g1, g2, g3, g4⟩ := start_eq hD v1 v3 v5
      obtain ⟨p1, p2, p3, p4⟩ := g4.parts hD hL hRR hT
      have f243 : M1 243 = M 243 := g4.1 243 (by omega)
      have hDm : RD D M1 N := hD.to (by rw [g4.1 0 (by omega)]) (fun t a b => g4.1 t (by omega)) rfl (fun _ _ _ => rfl)
      have m2 : M1 243 2 = nI a := by rw [f243, v4]; exact ea
      have n2 : N1 0 21 = nI a := by rw [g4.2.2.1 21 (by omega) (by omega) (by omega)]; exact ea
      obtain ⟨j, x4, x5, x6, hj, q1, q2, q3, q4⟩ := pol_eq hDm ha m2 ea (nI y)
      rw [q4, g1, bn2_e, q1, bn1_e, grd_lt hj]
      unfold fX11_judge_153
      rw [g2, bn2_e]
      obtain ⟨w, hw, ew⟩ := id v1
      have m1 : M1 243 1 = nI w := by rw [f243, v3]; exact ew
      have n20 : N1 0 20 = nI w := by rw [g4.2.2.1 20 (by omega) (by omega) (by omega)]; exact ew
      have m3 : M1 243 3 = N1 0 22 := by rw [f243, g4.2.2.1 22 (by omega) (by omega) (by omega)]; exact v5
      unfold fX10_senderAgrees fX11_judge_184 fX11_judge_194 fX11_judge_195 fX10_judge_70 fX10_senderAgrees_27
      rw [m1, n20, q2]
      obtain ⟨gg, hgg, s1, s2, s3, s4⟩ := p2.2.2.2.1
      have sg : ∃ r' M' N', bn2 (fX10_signatureAgrees j M1) (fun v64 M64 => if v64 = 0 then (fX10_judge_75 (nI y) r j (0 : Int32) M64) else (fX10_judge_75 (nI y) r j (1 : Int32) M64)) = some (r', M') ∧ fX11_judge_200 (nI y) FU x4 x5 x6 r 0 0 N1 = some (r', N') ∧ Rel (k + 1) M' N' := by
        obtain ⟨v, M2, N2, hv, c1, c2, f⟩ := sig_eq (a1 := nI y) (x4 := x4) (x5 := x5) (x6 := x6) (x7 := r) (j := j) (show k + 1 ≤ 600 by omega) hgg ha FU 0 M1 N1 (show gg < 0 + 300 by omega) (by omega) p1 p2 p4 s1 s2 s4 m2 n2
        have c1' : fX10_signatureAgrees j M1 = some (v, M2) := by
          rw [← c1]
          unfold fX10_signatureAgrees fX10_signatureAgrees_14
          rw [q2]
          by_cases z : (x4 &&& (1 : Int32)) = 0
          · rw [if_pos z, if_pos z]; rfl
          · rw [if_neg z, if_neg z]; rfl
        rw [c1', bn2_e, show fX11_judge_200 (nI y) FU x4 x5 x6 r 0 0 N1 = _ from c2]
        obtain ⟨t1, t2, t3, t4, t5⟩ := f.parts p1 p2 g3 p3 p4
        have f243' : M2 243 = M1 243 := f.1 243 (by omega) (by omega)
        unfold fX10_judge_75
        rcases hv with rfl | rfl
        · rw [if_pos rfl, if_pos rfl, if_pos rfl, q3 M2 (fun t ht => f.1 t (by omega) (by omega)), bn1_e]
          exact end_eq t1 t2 t3 t4 t5 ha (by rw [f243']; exact m2) (by rw [f.2.2 21 (by omega) (by omega) (by omega)]; exact n2) (by rw [f243', f.2.2 22 (by omega) (by omega) (by omega)]; exact m3)
        · rw [if_neg (by decide), if_neg (by decide), if_neg (by decide)]
          exact end_eq t1 t2 t3 t4 t5 ha (by rw [f243']; exact m2) (by rw [f.2.2 21 (by omega) (by omega) (by omega)]; exact n2) (by rw [f243', f.2.2 22 (by omega) (by omega) (by omega)]; exact m3)
      have on : ∃ r' M' N', fX10_judge_75 (nI y) r j 1 M1 = some (r', M') ∧ fX11_judge_200 (nI y) FU x4 x5 x6 r 1 0 N1 = some (r', N') ∧ Rel (k + 1) M' N' := by
        rw [show fX11_judge_200 (nI y) FU x4 x5 x6 r 1 0 N1 = _ from j_one hgg s2 FU 0 (show gg < 0 + 300 by omega) (by omega)]
        unfold fX10_judge_75
        rw [if_neg (by decide)]
        exact end_eq p1 p2 g3 p3 p4 ha m2 n2 m3
      by_cases hr1 : r = 1
      · rw [if_pos hr1, if_pos hr1]
        by_cases z : (x4 &&& (2 : Int32)) = 0
        · rw [if_pos z, if_pos z]
          obtain ⟨b, hb, b1, b2⟩ := near_eq p1 hw ha m2 n2 0
          rw [b1, b2, bn1_e, bn1_e]
          rcases hb with rfl | rfl
          · rw [if_pos rfl, if_pos rfl, bn1_e, if_pos rfl]
            exact sg
          · rw [if_neg (by decide), if_neg (by decide), bn1_e, if_neg (by decide)]
            exact on
        · rw [if_neg z, if_neg z]
          obtain ⟨b, hb, b1, b2⟩ := near_eq p1 hw ha m2 n2 1
          rw [b1, b2, bn1_e, bn1_e]
          rcases hb with rfl | rfl
          · rw [if_pos rfl, if_pos rfl, bn1_e, if_pos rfl]
            exact sg
          · rw [if_neg (by decide), if_neg (by decide), bn1_e, if_neg (by decide)]
            exact on
      · rw [if_neg hr1, if_neg hr1, bn1_e, if_pos rfl]
        exact sg
    · rw [win_l hx, bn1_e, if_pos rfl, if_pos hx]
      exact ⟨_, _, _, rfl, rfl, hR.up⟩
    · rw [show fX10_isWithin a1 (0 : Int32) (99 : Int32) = some 0 from win_g (n := 99) (by omega) hx0 hx, bn1_e, if_pos rfl, if_neg hx0, if_neg (show ¬ a1 ≤ (99 : Int32) from by rw [Int32.not_le]; exact gt_of (n := 99) (by omega) hx0 hx)]
      exact ⟨_, _, _, rfl, rfl, hR.up⟩
