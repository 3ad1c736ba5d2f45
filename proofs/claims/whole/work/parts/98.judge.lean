/-! the judgement -/
def RP (M N M' N' : Mm) : Prop := (∀ t, t ≠ 0 → t < 277 → M' t = M t) ∧ (∀ j, j ≠ 6 → M' 0 j = M 0 j) ∧ (∀ t, t ≠ 0 → t < 35 → N' t = N t) ∧ ∀ j, j ≠ 49 → N' 0 j = N 0 j
theorem rep_loop {h ip act res : Int32} {R : Nat} (hR : R ≤ 12) {M N : Mm} (e1 : M 0 6 = nI R) (e2 : N 0 49 = nI R) (e3 : ∀ k, k < R → M (277 + k) 0 = N 35 k ∧ M (277 + k) 1 = N 36 k ∧ M (277 + k) 2 = N 37 k ∧ M (277 + k) 3 = N 38 k ∧ M (277 + k) 4 = N 39 k) (e22 : N 0 22 = ip) : ∀ (n j : Nat), R < j + n → j ≤ R → ∃ M' N', fX10_report_3 h ip act res n (nI j) M = some M' ∧ fX11_report_12 act res n h (nI j) N = some N' ∧ RP M N M' N' ∧ RR M' N' := by
  intro n
  induction n with
  | zero => intro j h1 h2; omega
  | succ n ih =>
    intro j h1 h2
    rw [fX10_report_3, fX11_report_12, e1, e2, e22]
    by_cases hj : j = R
    · subst hj
      rw [if_pos (nI_le (Nat.le_refl _) (by omega)), if_pos (nI_le (Nat.le_refl _) (by omega))]
      by_cases h12 : j = 12
      · rw [if_pos (show (12 : Int32) ≤ nI j from nI_le (a := 12) (by omega) (by omega)), if_pos (show (12 : Int32) ≤ nI j from nI_le (a := 12) (by omega) (by omega))]
        exact ⟨M, N, rfl, rfl, ⟨fun _ _ _ => rfl, fun _ _ => rfl, fun _ _ _ => rfl, fun _ _ => rfl⟩, j, hR, e1, e2, e3⟩
      · rw [if_neg (show ¬ (12 : Int32) ≤ nI j from nI_ge (b := 12) (by omega) (by omega)), if_neg (show ¬ (12 : Int32) ≤ nI j from nI_ge (b := 12) (by omega) (by omega)), grd_n (show j < 12 by omega) (by omega), grd_n (show j < 12 by omega) (by omega), cN (show j < 2 ^ 31 by omega)]
        unfold fX6_fill
        simp only [nm_x, bn1_e]
        have k1 : up2 N 35 j h 0 49 = nI j := by rw [up2_t (by omega)]; exact e2
        have k1' : up2 N 35 j h 0 22 = ip := by rw [up2_t (by omega)]; exact e22
        rw [k1, k1', grd_n (show j < 12 by omega) (by omega), cN (show j < 2 ^ 31 by omega)]
        have k2 : up2 (up2 N 35 j h) 36 j ip 0 49 = nI j := by rw [up2_t (by omega)]; exact k1
        rw [k2, grd_n (show j < 12 by omega) (by omega), cN (show j < 2 ^ 31 by omega)]
        have k3 : up2 (up2 (up2 N 35 j h) 36 j ip) 37 j act 0 49 = nI j := by rw [up2_t (by omega)]; exact k2
        rw [k3, grd_n (show j < 12 by omega) (by omega), cN (show j < 2 ^ 31 by omega)]
        have k4 : up2 (up2 (up2 (up2 N 35 j h) 36 j ip) 37 j act) 38 j res 0 49 = nI j := by rw [up2_t (by omega)]; exact k3
        rw [k4, grd_n (show j < 12 by omega) (by omega), cN (show j < 2 ^ 31 by omega)]
        have k5 : up2 (up2 (up2 (up2 (up2 N 35 j h) 36 j ip) 37 j act) 38 j res) 39 j 1 0 49 = nI j := by rw [up2_t (by omega)]; exact k4
        have m5 : up2 (up2 (up2 (up2 (up2 M (277 + j) 0 h) (277 + j) 1 ip) (277 + j) 2 act) (277 + j) 3 res) (277 + j) 4 1 0 6 = nI j := by rw [up2_t (by omega), up2_t (by omega), up2_t (by omega), up2_t (by omega), up2_t (by omega)]; exact e1
        rw [k5, m5, nI_1]
        refine ⟨_, _, rfl, rfl, ⟨fun t a b => by rw [up2_o a, up2_o (by omega), up2_o (by omega), up2_o (by omega), up2_o (by omega), up2_o (by omega)], fun i a => by rw [up2_k a, up2_t (by omega), up2_t (by omega), up2_t (by omega), up2_t (by omega), up2_t (by omega)], fun t a b => by rw [up2_o a, up2_o (by omega), up2_o (by omega), up2_o (by omega), up2_o (by omega), up2_o (by omega)], fun i a => by rw [up2_k a, up2_t (by omega), up2_t (by omega), up2_t (by omega), up2_t (by omega), up2_t (by omega)]⟩, j + 1, by omega, up2_e, up2_e, fun k hk => ?_⟩
        by_cases hkj : k = j
        · subst hkj
          simp only [up2_if]
          refine ⟨?_, ?_, ?_, ?_, ?_⟩ <;> simp
        · obtain ⟨a1, a2, a3, a4, a5⟩ := e3 k (by omega)
          simp only [up2_if]
          refine ⟨?_, ?_, ?_, ?_, ?_⟩
          · simp [hkj, a1]
          · simp [hkj, a2]
          · simp [hkj, a3]
          · simp [hkj, a4]
          · simp [hkj, a5]
    · obtain ⟨a1, a2, a3, a4, a5⟩ := e3 j (by omega)
      rw [if_neg (nI_ge (by omega) (by omega)), if_neg (nI_ge (by omega) (by omega)), cN (show j < 2 ^ 31 by omega)]
      simp only [grd_n (show j < 12 by omega) (show 12 < 2 ^ 31 by omega), nm_x]
      unfold fX6_isFor fX11_report_80
      rw [a1, a2, a3, a4, nI_1]
      have nx := ih (j + 1) (by omega) (by omega)
      by_cases c1 : N 35 j = h
      · rw [if_pos c1, if_pos c1]
        by_cases c2 : N 36 j = ip
        · rw [if_pos c2, if_pos c2]
          by_cases c3 : N 37 j = act
          · rw [if_pos c3, if_pos c3]
            by_cases c4 : N 38 j = res
            · rw [if_pos c4, if_pos c4, bn1_e, if_neg (by decide), a5]
              refine ⟨_, _, rfl, rfl, ⟨fun t a b => by rw [up2_o (by omega)], fun i a => by rw [up2_t (by omega)], fun t a b => by rw [up2_o (by omega)], fun i a => by rw [up2_t (by omega)]⟩, R, hR, by rw [up2_t (by omega)]; exact e1, by rw [up2_t (by omega)]; exact e2, fun k hk => ?_⟩
              obtain ⟨b1, b2, b3, b4, b5⟩ := e3 k hk
              by_cases hkj : k = j
              · subst hkj
                simp only [up2_if]
                refine ⟨?_, ?_, ?_, ?_, ?_⟩ <;> simp [b1, b2, b3, b4]
              · simp only [up2_if]
                refine ⟨?_, ?_, ?_, ?_, ?_⟩ <;> simp [b1, b2, b3, b4, b5, hkj]
            · rw [if_neg c4, if_neg c4, bn1_e, if_pos rfl]
              exact nx
          · rw [if_neg c3, if_neg c3, bn1_e, if_pos rfl]
            exact nx
        · rw [if_neg c2, if_neg c2, bn1_e, if_pos rfl]
          exact nx
      · rw [if_neg c1, if_neg c1, bn1_e, if_pos rfl]
        exact nx
theorem near_eq {D d a : Nat} {M N : Mm} (hD : RD D M N) (hd : d < D) (ha : a < D) (e1 : M 243 2 = nI a) (e2 : N 0 21 = nI a) (x : Int32) : ∃ r, (r = 0 ∨ r = 1) ∧ fX10_isAligned (nI d) x M = some r ∧ fX11_isNear (nI d) x N = some r := by
  have hD20 := hD.1
  unfold fX10_isAligned fX11_isNear
  rw [e1, e2]
  by_cases h1 : nI d = nI a
  · rw [if_pos h1, if_pos h1]
    exact ⟨1, Or.inr rfl, rfl, rfl⟩
  · rw [if_neg h1, if_neg h1]
    by_cases h2 : x = 0
    · rw [if_pos h2, if_pos h2, grd_n (show d < 20 by omega) (by omega), grd_n (show a < 20 by omega) (by omega), cN (by omega), cN (by omega), home_eq hD hd, home_eq hD ha, bn1_e, bn1_e]
      by_cases h3 : M (2 + d) 1 = M (2 + a) 1
      · rw [if_pos h3]
        exact ⟨1, Or.inr rfl, rfl, rfl⟩
      · rw [if_neg h3]
        exact ⟨0, Or.inl rfl, rfl, rfl⟩
    · rw [if_neg h2, if_neg h2]
      exact ⟨0, Or.inl rfl, rfl, rfl⟩
def act (a1 x5 x6 : Int32) : Int32 := if x5 = 0 then 0 else if a1 < x6 then x5 else x5 - 1
theorem act32 {j : Nat} {a1 x : Int32} {M : Mm} (hx : isN 3 x) : fX10_actionBy_32 j a1 M x = some (act a1 x (M (222 + j) 4)) := by
  unfold fX10_actionBy_32 act
  obtain ⟨k, hk, rfl⟩ := hx
  by_cases h0 : nI k = 0
  · rw [if_pos h0, h0]
    by_cases h1 : a1 < M (222 + j) 4
    · rw [if_pos h1]
    · rw [if_neg h1, if_pos (by decide)]
  · rw [if_neg h0]
    by_cases h1 : a1 < M (222 + j) 4
    · rw [if_pos h1, if_pos h1]
    · have hk0 : 0 < k := Nat.pos_of_ne_zero (fun q => h0 (by rw [q]; rfl))
      rw [if_neg h1, if_neg h1, if_neg (nI_nle hk0 (by omega))]
theorem isN0 {n : Nat} (h : 0 < n) : isN n 0 := ⟨0, h, rfl⟩
theorem pol_eq {D a : Nat} {M N : Mm} (hD : RD D M N) (ha : a < D) (e1 : M 243 2 = nI a) (e2 : N 0 21 = nI a) (a1 : Int32) : ∃ j x4 x5 x6, j < 21 ∧ fX10_policyOfAuthor M = some j ∧ M (222 + j) 3 = x4 ∧ (∀ M' : Mm, (∀ t, t < 244 → M' t = M t) → fX10_actionBy j a1 M' = some (act a1 x5 x6)) ∧ (bn1 (fX11_homeOf (N 0 21) N) (fun v24 => grd (gin (N 0 21) 20) (if (N 14 (N 0 21).toNatClampNeg) < 0 then (grd (gin v24 20) (if (N 14 v24.toNatClampNeg) < 0 then (fX11_judge_61 a1 v24 (-1 : Int32) N) else (fX11_judge_61 a1 v24 v24 N))) else (fX11_judge_61 a1 v24 (N 0 21) N)))) = fX11_judge_153 a1 x4 x5 x6 N := by
  have hD20 := hD.1
  obtain ⟨-, h, hh, eh, -⟩ := hD.2.2.2.1 a ha
  obtain ⟨p1, p2, p3, p4, p5, p6⟩ := hD.2.2.2.2.2.2.2.2.2
  have s1 := (hD.2.2.2.2.1 a (by omega)).1
  have s2 := (hD.2.2.2.2.1 h (by omega)).1
  have cl : fX10_policyOfAuthor M = (if N 3 a = 0 then (if N 3 h = 0 then (if M (222 + a) 0 = 0 then (if M (222 + h) 0 = 0 then some 20 else some h) else some a) else some 20) else some 20) := by
    unfold fX10_policyOfAuthor
    rw [e1, cN (show a < 2 ^ 31 by omega), eh, cN (show h < 2 ^ 31 by omega), s1, s2, grd_n (show a < 20 by omega) (by omega), grd_n (show h < 20 by omega) (by omega)]
  have a20 : ∀ M' : Mm, (∀ t, t < 244 → M' t = M t) → fX10_actionBy 20 a1 M' = some (act a1 0 100) := by
    intro M' f
    unfold fX10_actionBy
    rw [f 243 (by omega), e1, grd_n (show a < 20 by omega) (by omega), act32 (x := M' (222 + 20) 2) (by rw [f (222 + 20) (by omega), p4]; exact isN0 (by omega)), act32 (x := M' (222 + 20) 1) (by rw [f (222 + 20) (by omega), p3]; exact isN0 (by omega)), f (222 + 20) (by omega), p3, p4, p6, ite_self]
  have r61 : ∀ s0, fX11_judge_61 a1 (nI h) s0 N = (if N 3 a = 0 then (if N 3 h = 0 then fX11_judge_88 a1 s0 N else fX11_judge_153 a1 0 0 100 N) else fX11_judge_153 a1 0 0 100 N) := by
    intro s0
    have e83 : fX11_judge_83 a1 N = fX11_judge_153 a1 0 0 100 N := by
      unfold fX11_judge_83 fX11_judge_88 fX11_judge_103 fX11_judge_136
      simp only [if_neg (show ¬ (0 : Int32) ≤ -1 by decide)]
    unfold fX11_judge_61
    rw [e2, cN (show a < 2 ^ 31 by omega), cN (show h < 2 ^ 31 by omega), grd_n (show a < 20 by omega) (by omega), grd_n (show h < 20 by omega) (by omega), e83]
  have e88 : fX11_judge_88 a1 (-1) N = fX11_judge_153 a1 0 0 100 N := by
    unfold fX11_judge_88 fX11_judge_103 fX11_judge_136
    simp only [if_neg (show ¬ (0 : Int32) ≤ -1 by decide)]
  have n88 : ∀ d, d < 20 → fX11_judge_88 a1 (nI d) N = fX11_judge_153 a1 (N 16 d) (if nI d = nI a then N 14 d else N 15 d) (N 17 d) N := by
    intro d hd
    unfold fX11_judge_88 fX11_judge_103 fX11_judge_136
    simp only [if_pos (nI_pos' (show d < 2 ^ 31 by omega)), grd_n hd (show 20 < 2 ^ 31 by omega), cN (show d < 2 ^ 31 by omega), e2]
    by_cases q : nI d = nI a
    · rw [if_pos q, if_pos q]
    · rw [if_neg q, if_neg q]
  rw [e2, home_eq hD ha, bn1_e, eh, cN (show a < 2 ^ 31 by omega), cN (show h < 2 ^ 31 by omega), grd_n (show a < 20 by omega) (by omega), grd_n (show h < 20 by omega) (by omega), cl]
  simp only [r61]
  by_cases c1 : N 3 a = 0
  · simp only [if_pos c1]
    by_cases c2 : N 3 h = 0
    · simp only [if_pos c2]
      rcases p1 a ha with ⟨f0, f1, f2, f3, f4, f5, f6, f7, f8⟩ | ⟨f0, f1⟩
      · obtain ⟨u, hu, eu⟩ := f5
        have fx : ¬ N 14 a < 0 := by rw [eu]; exact nI_pos (by omega)
        rw [if_neg (show ¬ M (222 + a) 0 = 0 by rw [f0]; decide), if_neg fx, n88 a (by omega), if_pos rfl]
        refine ⟨a, _, _, _, by omega, rfl, f3, ?_, rfl⟩
        intro M' f
        unfold fX10_actionBy
        rw [f 243 (by omega), e1, grd_n (show a < 20 by omega) (by omega), cN (show a < 2 ^ 31 by omega), f (222 + a) (by omega), f0, if_neg (by decide), act32 (by rw [f1]; exact ⟨u, hu, eu⟩), f (222 + a) (by omega), f1, f4]
      · rw [if_pos f0, if_pos (show N 14 a < 0 by rw [f1]; decide)]
        rcases p1 h (by omega) with ⟨g0, g1, g2, g3, g4, g5, g6, g7, g8⟩ | ⟨g0, g1⟩
        · obtain ⟨u, hu, eu⟩ := g5
          have fx : ¬ N 14 h < 0 := by rw [eu]; exact nI_pos (by omega)
          have hah : ¬ nI h = nI a := fun q => by
            have := (nI_eq (by omega) (by omega)).mp q
            subst this
            rw [f0] at g0
            exact absurd g0 (by decide)
          rw [if_neg (show ¬ M (222 + h) 0 = 0 by rw [g0]; decide), if_neg fx, n88 h (by omega), if_neg hah]
          refine ⟨h, _, _, _, by omega, rfl, g3, ?_, rfl⟩
          intro M' f
          unfold fX10_actionBy
          rw [f 243 (by omega), e1, grd_n (show a < 20 by omega) (by omega), cN (show a < 2 ^ 31 by omega), f (222 + a) (by omega), f0, if_pos rfl, f (222 + h) (by omega), act32 (by rw [g2]; exact g6), f (222 + h) (by omega), g2, g4]
        · rw [if_pos g0, if_pos (show N 14 h < 0 by rw [g1]; decide), e88]
          exact ⟨20, 0, 0, 100, by omega, rfl, p5, a20, rfl⟩
    · simp only [if_neg c2, ite_self]
      exact ⟨20, 0, 0, 100, by omega, rfl, p5, a20, rfl⟩
  · simp only [if_neg c1, ite_self]
    exact ⟨20, 0, 0, 100, by omega, rfl, p5, a20, rfl⟩
