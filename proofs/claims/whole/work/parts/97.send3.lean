/-! the sender: a domain's terms, run by both -/
theorem rb_s {n w : Nat} {ad : Int32} {M : Mm} (hn : 1 ≤ n) (hw : w < 20) (h : M (2 + w) 2 ≠ 0) : fX0_resultBy n (nI w) ad M = some (5, M) := by
  obtain ⟨n, rfl⟩ : ∃ q, n = q + 1 := ⟨n - 1, by omega⟩
  rw [fX0_resultBy]
  unfold fX0_resultByB
  rw [grd_n hw (by omega), cN (by omega), if_neg h]
theorem rb_u {n w : Nat} {ad : Int32} {M : Mm} (hn : 1 ≤ n) (hw : w < 20) (h : M (2 + w) 2 = 0) (h2 : M (102 + w) 0 = 0) : fX0_resultBy n (nI w) ad M = some (0, M) := by
  obtain ⟨n, rfl⟩ : ∃ q, n = q + 1 := ⟨n - 1, by omega⟩
  rw [fX0_resultBy]
  unfold fX0_resultByB
  rw [grd_n hw (by omega), cN (by omega), if_pos h, grd_n hw (by omega), if_pos h2]
theorem rb_r {n w : Nat} {ad : Int32} {M : Mm} (hw : w < 20) (h : M (2 + w) 2 = 0) (h2 : M (102 + w) 0 ≠ 0) : fX0_resultBy (n + 1) (nI w) ad M = fX0_resultBy_32 (nI w) ad (fX0_resultBy n) FU w 0 M := by
  rw [fX0_resultBy]
  unfold fX0_resultByB
  rw [grd_n hw (by omega), cN (by omega), if_pos h, grd_n hw (by omega), if_neg h2]
def SCall (D : Nat) (ad : Int32) (n : Nat) : Prop := ∀ (l e s c w : Nat) (M N : Mm), RD D M N → w < D → CT l e M N → e ≤ 2 → l ≤ 10 → 12 ≤ l + n → s ≤ l → N 0 22 = ad → N 0 46 = nI (s + 1) → N 33 s = nI w → N 34 s = 0 → N 3 w = 0 → N 6 w ≠ 0 → c + 7 + 7 * (11 - l) ≤ 100 → Rn l s c (c + 7 + 7 * (11 - l)) M N (fX0_resultBy n (nI w) ad M)
def SRun (D : Nat) (ad : Int32) (n : Nat) : Prop := ∀ (k l e s c d j C : Nat) (a2 : Int32) (M N : Mm), RD D M N → d < D → CT l e M N → e ≤ 2 → l ≤ 10 → 11 ≤ l + n → s ≤ l → N 0 22 = ad → N 0 46 = nI (s + 1) → N 33 s = nI d → N 34 s = nI j → N 7 d = nI C → C ≤ 6 → j ≤ C → 7 ≤ j + k → c + (7 - j) + 7 * (11 - l) ≤ 100 → Rn l s c (c + (7 - j) + 7 * (11 - l)) M N (fX0_resultBy_32 a2 ad (fX0_resultBy n) k d (nI j) M)
theorem Rn.nz {l s c b : Nat} {M N : Mm} {cl : Option (Int32 × Mm)} (h : Rn l s c b M N cl) : bn2 cl (fun v14 M14 => if v14 = 0 then (some ((6 : Int32), M14)) else (some (v14, M14))) = cl := by
  obtain ⟨r, M', N', l', e', q1, q2, q3, q4⟩ := h
  have hr : r ≠ 0 := by
    rcases q4 with ⟨rfl | rfl, -⟩ | ⟨g, c', a1, rfl, -⟩
    · decide
    · decide
    · exact nI_ne0 (by omega) (by omega)
  rw [q1, bn2_e, if_neg hr]
theorem run_of {D : Nat} {ad : Int32} {n : Nat} (call : SCall D ad n) : SRun D ad n := by
  intro k
  induction k with
  | zero =>
    intro l e s c d j C a2 M N hD hd hC he hl hln hs ha e46 e33 e34 e7 hC6 hj hk hb
    have hD20 := hD.1
    omega
  | succ k ih =>
    intro l e s c d j C a2 M N hD hd hC he hl hln hs ha e46 e33 e34 e7 hC6 hj hk hb
    have hD20 := hD.1
    obtain ⟨r1, r2, C', hC', r3, r4, r5⟩ := hD.2.2.2.2.2.2.1 d (by omega)
    have hCC : C' = C := (nI_eq (by omega) (by omega)).mp (r4.symm.trans e7)
    subst hCC
    have st := stp (show s < 12 by omega) (show d < 20 by omega) e46 e33 e34
    rw [r4] at st
    rw [fX0_resultBy_32, r3]
    by_cases hjC : j = C'
    · subst hjC
      rw [if_pos (nI_le (Nat.le_refl _) (by omega))]
      rw [if_pos rfl] at st
      obtain ⟨d1, d2⟩ := hD.2.2.2.2.2.2.2.1.1 d hd
      rw [d1]
      rcases d2 with d2 | ⟨w, hw, d2⟩
      · rw [d2, if_pos rfl]
        rw [d2, if_neg (by decide)] at st
        exact ⟨4, M, N, l, e, rfl, hC, Fs.rf, Or.inr ⟨3, c, by omega, rfl, Nat.le_refl _, hl, he, e46, G_bk (by omega) st, by omega⟩⟩
      · rw [d2, if_neg (fun q => by have := nI_pos' (n := w) (by omega); rw [q] at this; exact absurd this (by decide)), bn2_i]
        rw [d2, if_pos (nI_pos' (by omega))] at st
        unfold fX0_redirected
        obtain ⟨M1, N1, hC1, hf1, h46, h33, h34, ⟨hl1, q1, q2⟩ | ⟨hl1, q1, q2⟩⟩ := look_eq (s := s) hC hl
        · rw [q1, bn2_e, if_pos rfl]
          have hD1 := hD.s hf1
          obtain ⟨s1, s2⟩ := hD1.2.2.2.2.1 w (by omega)
          obtain ⟨t1, t2, -⟩ := hD1.2.2.2.2.2.2.1 w (by omega)
          unfold fX11_sendOn fX11_sendOn_28 at st
          rw [q2, bn2_e, if_pos (by decide), h46, e46, nI_pred, cN (show w < 2 ^ 31 by omega), cN (show s < 2 ^ 31 by omega)] at st
          simp only [grd_n (show w < 20 by omega) (show 20 < 2 ^ 31 by omega), nm_x] at st
          rw [grd_n (show s < 12 by omega) (by omega)] at st
          by_cases hsl : N1 3 w = 0
          · rw [if_pos hsl] at st
            by_cases hru : N1 6 w = 0
            · rw [if_pos hru, if_pos hsl] at st
              rw [rb_u (by omega) (by omega) (s1.trans hsl) (t1.trans hru), bn2_e, if_pos rfl]
              exact Rn.err (by omega) (Or.inr rfl) hC1 hf1 st
            · rw [if_neg hru] at st
              have h46' : up2 N1 33 s (nI w) 0 46 = nI (s + 1) := by rw [up2_t (by omega), h46, e46]
              rw [h46', nI_pred, grd_n (show s < 12 by omega) (by omega), cN (show s < 2 ^ 31 by omega)] at st
              have hf2 : Fs s M1 N1 M1 (up2 (up2 N1 33 s (nI w)) 34 s 0) := ⟨fun _ _ => rfl, fun t _ a b => by rw [up2_o b, up2_o a], fun i _ _ _ => by rw [up2_t (by omega), up2_t (by omega)], fun p hp => ⟨by rw [up2_t (by omega), up2_k (by omega)], by rw [up2_k (by omega), up2_t (by omega)]⟩⟩
              have hR := call (l + 1) e s (c + 1) w M1 (up2 (up2 N1 33 s (nI w)) 34 s 0) (hD1.s hf2) hw ⟨hC1.1, hC1.2.1, by rw [up2_t (by omega), up2_t (by omega)]; exact hC1.2.2.1, by rw [up2_t (by omega), up2_t (by omega)]; exact hC1.2.2.2⟩ he (by omega) (by omega) (by omega) (by rw [up2_t (by omega), up2_t (by omega), hf1.2.2.1 22 (by omega) (by omega) (by omega)]; exact ha) (by rw [up2_t (by omega)]; exact h46') (by rw [up2_t (by omega), up2_e]) up2_e (by rw [up2_t (by omega), up2_t (by omega)]; exact hsl) (by rw [up2_t (by omega), up2_t (by omega)]; exact hru) (by omega)
              rw [hR.nz]
              exact hR.via (hf1.tr hf2) (G_on (by omega) st) (by omega) (by omega)
          · rw [if_neg hsl, if_neg hsl] at st
            rw [rb_s (by omega) (by omega) (fun q => hsl (s1.symm.trans q)), bn2_e, if_neg (by decide)]
            exact Rn.err (by omega) (Or.inl rfl) hC1 hf1 st
        · rw [q1, bn2_e, if_neg (by decide)]
          unfold fX11_sendOn at st
          rw [q2, bn2_e, if_neg (by decide)] at st
          exact Rn.err (by omega) (Or.inr rfl) hC1 hf1 st
    · have hat : 6 * d + j < 120 := by omega
      rw [if_neg (nI_ge (by omega) (by omega))]
      rw [if_neg (fun q => hjC ((nI_eq (by omega) (by omega)).mp q)), grd_n hat (by omega), cN (show 6 * d + j < 2 ^ 31 by omega)] at st
      have hT := r5 j (by omega)
      have hT' := hT
      obtain ⟨f1, f2, f3, f4, hsg, q, hq, ek, fD⟩ := hT'
      rw [ek] at st
      have hnext : ∀ l1, l ≤ l1 → l1 ≤ 10 → (l1 = l ∨ l1 = l + 1) → ∀ M2 N2 e2, RD D M2 N2 → CT l1 e2 M2 N2 → e2 ≤ 2 → N2 0 22 = ad → N2 0 46 = nI (s + 1) → N2 33 s = nI d → N2 34 s = nI (j + 1) → N2 7 = N 7 → Rn l1 s (c + 1) (c + 1 + (7 - (j + 1)) + 7 * (11 - l1)) M2 N2 (fX0_resultBy_32 a2 ad (fX0_resultBy n) k d (nI (j + 1)) M2) := by
        intro l1 a1 a2' a3 M2 N2 e2 b1 b2 b3 b4 b5 b6 b7 b8
        exact ih l1 e2 s (c + 1) d (j + 1) C' a2 M2 N2 b1 hd b2 b3 a2' (by omega) (by omega) b4 b5 b6 b7 (by rw [b8]; exact r4) hC6 (by omega) (by omega) (by omega)
      have oc : fX0_outcomeOf (fX0_resultBy n) d (nI j) ad M = (if nI q = 0 then (some ((1 : Int32), M)) else (if nI q = (1 : Int32) then (bn1 (fX10_agree (N 10 (6 * d + j)) ad (N 11 (6 * d + j))) (fun v43 => bn1 (fX0_matchIf v43) (fun v46 => some (v46, M)))) else (bn2 (fX0_isLookupTooMany M) (fun v51 M51 => if v51 = 0 then (if nI q = (4 : Int32) then (bn2 (fX0_including (fX0_resultBy n) (N 10 (6 * d + j)) ad M51) (fun v72 M72 => some (v72, M72))) else (grd (gin (N 10 (6 * d + j)) 20) (if (M51 (2 + (N 10 (6 * d + j)).toNatClampNeg) 2) = 0 then (if nI q = (3 : Int32) then (grd (gin (N 10 (6 * d + j)) 20) (fX0_outcomeOf_111 d (nI j) ad (fX0_resultBy n) (nI q) (N 11 (6 * d + j)) (2 * (N 10 (6 * d + j)).toNatClampNeg + 1) M51)) else (grd (gin (N 10 (6 * d + j)) 20) (fX0_outcomeOf_111 d (nI j) ad (fX0_resultBy n) (nI q) (N 11 (6 * d + j)) (2 * (N 10 (6 * d + j)).toNatClampNeg) M51))) else (some ((5 : Int32), M51))))) else (some ((6 : Int32), M51)))))) := by
        unfold fX0_outcomeOf
        rw [cN (show j < 2 ^ 31 by omega), f2, f3, f4, ek]
        simp only [grd_n (show j < 6 by omega) (show 6 < 2 ^ 31 by omega), nm_x]
      have n4 : ∀ z, q ≠ z → z < 10 → nI q ≠ nI z := fun z hz hz2 h => hz ((nI_eq (by omega) (by omega)).mp h)
      have tt : fX11_tryTerm (nI (6 * d + j)) N = (if nI q = 0 then (some ((1 : Int32), N)) else (if nI q = (1 : Int32) then (bn1 (fX11_agrees (N 10 (6 * d + j)) (N 11 (6 * d + j)) N) (fun v36 => if v36 = 0 then (some ((0 : Int32), N)) else (some ((1 : Int32), N)))) else fX11_tryTerm (nI (6 * d + j)) N)) := by
        by_cases z0 : nI q = 0
        · rw [if_pos z0]
          unfold fX11_tryTerm
          rw [cN (show 6 * d + j < 2 ^ 31 by omega), ek]
          simp only [grd_n hat (show 120 < 2 ^ 31 by omega), nm_x, if_pos z0]
        · rw [if_neg z0]
          by_cases z1 : nI q = 1
          · rw [if_pos z1]
            unfold fX11_tryTerm
            rw [cN (show 6 * d + j < 2 ^ 31 by omega), ek]
            simp only [grd_n hat (show 120 < 2 ^ 31 by omega), nm_x, if_neg z0, if_pos z1]
          · rw [if_neg z1]
      by_cases z0 : q = 0
      · subst z0
        rw [if_pos (by decide)] at st
        rw [if_pos (show nI 0 = 0 from rfl)] at oc tt
        refine trm_on (e := e) (hnext l (Nat.le_refl _) hl (Or.inl rfl)) hD hd (by omega) (by omega) (by omega) (Nat.le_refl _) hl ha e46 e33 e34 hT oc Fs.rf rfl rfl rfl (by rw [ek]; decide) st ?_
        rw [tt]
        exact Trm.same hC he (Or.inr (Or.inl rfl))
      · by_cases z1 : q = 1
        · subst z1
          rw [if_pos (by decide)] at st
          rw [if_neg (show ¬ nI 1 = 0 by decide), if_pos (show nI 1 = 1 from rfl)] at oc tt
          refine trm_on (e := e) (hnext l (Nat.le_refl _) hl (Or.inl rfl)) hD hd (by omega) (by omega) (by omega) (Nat.le_refl _) hl ha e46 e33 e34 hT oc Fs.rf rfl rfl rfl (by rw [ek]; decide) st ?_
          rw [tt]
          obtain ⟨g1, g2⟩ := agree_eq ha (N 10 (6 * d + j)) (N 11 (6 * d + j))
          rw [g1]
          rcases g2 with g2 | g2
          · rw [g2, bn1_e, bn1_e, if_pos rfl]
            exact Trm.same hC he (Or.inl rfl)
          · rw [g2, bn1_e, bn1_e, if_neg (by decide)]
            exact Trm.same hC he (Or.inr (Or.inl rfl))
        · obtain ⟨w, hw, ew⟩ := fD (by omega)
          rw [if_neg (show ¬ nI q ≤ (1 : Int32) from nI_ge (a := 1) (by omega) (by omega))] at st
          rw [if_neg (nI_ne0 (by omega) (by omega)), if_neg (show ¬ nI q = (1 : Int32) from n4 1 z1 (by omega)), ew] at oc
          obtain ⟨M1, N1, hC1, hf1, h46, h33, h34, ⟨hl1, q1, q2⟩ | ⟨hl1, q1, q2⟩⟩ := look_eq (s := s) hC hl
          · rw [q1, bn2_e, if_pos rfl] at oc
            rw [q2, bn2_e, if_pos (by decide)] at st
            have hD1 := hD.s hf1
            have a10 : N1 10 (6 * d + j) = nI w := by rw [hf1.2.1 10 (by omega) (by omega) (by omega)]; exact ew
            have a9 : N1 9 (6 * d + j) = nI q := by rw [hf1.2.1 9 (by omega) (by omega) (by omega)]; exact ek
            by_cases z4 : q = 4
            · subst z4
              rw [if_pos (show nI 4 = (4 : Int32) from rfl), bn2_i] at oc
              unfold fX0_including at oc
              unfold fX11_stepOn_89 fX11_stepOn_127 fX11_wait at st
              rw [grd_n hat (by omega), cN (show 6 * d + j < 2 ^ 31 by omega), a9, if_pos (show nI 4 = (4 : Int32) from rfl), grd_n hat (by omega), nm_x, a10, cN (show w < 2 ^ 31 by omega), h46, e46, cN (show s + 1 < 2 ^ 31 by omega)] at st
              simp only [grd_n (show w < 20 by omega) (show 20 < 2 ^ 31 by omega), nm_x] at st
              have h46' : up2 N1 33 (s + 1) (nI w) 0 46 = nI (s + 1) := by rw [up2_t (by omega), h46, e46]
              have h46'' : up2 (up2 N1 33 (s + 1) (nI w)) 34 (s + 1) 0 0 46 = nI (s + 1) := by rw [up2_t (by omega), h46']
              rw [grd_n (show s + 1 < 12 by omega) (by omega), h46', grd_n (show s + 1 < 12 by omega) (by omega), cN (show s + 1 < 2 ^ 31 by omega), h46'', nI_1, bn1_e] at st
              obtain ⟨s1, s2⟩ := hD1.2.2.2.2.1 w (by omega)
              obtain ⟨t1, t2, -⟩ := hD1.2.2.2.2.2.2.1 w (by omega)
              by_cases hsl : N1 3 w = 0
              · rw [if_pos hsl] at st
                by_cases hru : N1 6 w = 0
                · rw [if_pos hru, if_pos hsl] at st
                  rw [rb_u (by omega) (by omega) (s1.trans hsl) (t1.trans hru), bn2_e, if_pos rfl] at oc
                  rw [oc, bn2_e, if_neg (by decide), if_neg (by decide)]
                  exact Rn.err (by omega) (Or.inr rfl) hC1 hf1 st
                · rw [if_neg hru] at st
                  have hf2 : Fs (s + 1) M1 N1 M1 (up2 (up2 (up2 N1 33 (s + 1) (nI w)) 34 (s + 1) 0) 0 46 (nI (s + 1 + 1))) := ⟨fun _ _ => rfl, fun t z a b => by rw [up2_o z, up2_o b, up2_o a], fun i _ _ z => by rw [up2_k z, up2_t (by omega), up2_t (by omega)], fun p hp => ⟨by rw [up2_t (by omega), up2_t (by omega), up2_k (by omega)], by rw [up2_t (by omega), up2_k (by omega), up2_t (by omega)]⟩⟩
                  have hR := call (l + 1) e (s + 1) (c + 1) w M1 _ (hD1.s hf2) hw ⟨hC1.1, hC1.2.1, by rw [up2_k (by omega), up2_t (by omega), up2_t (by omega)]; exact hC1.2.2.1, by rw [up2_k (by omega), up2_t (by omega), up2_t (by omega)]; exact hC1.2.2.2⟩ he (by omega) (by omega) (by omega) (by rw [hf2.2.2.1 22 (by omega) (by omega) (by omega), hf1.2.2.1 22 (by omega) (by omega) (by omega)]; exact ha) up2_e (by rw [up2_t (by omega), up2_t (by omega), up2_e]) (by rw [up2_t (by omega), up2_e]) (by rw [hf2.2.1 3 (by omega) (by omega) (by omega)]; exact hsl) (by rw [hf2.2.1 6 (by omega) (by omega) (by omega)]; exact hru) (by omega)
                  have gon := G_on (c := c) (by omega) st
                  obtain ⟨r, M', N', l', e', g1, g2, g3, g4⟩ := hR
                  rw [g1, bn2_e] at oc
                  have hf3 : Fs s M N M' N' := hf1.tr ((hf2.tr g3).le (by omega))
                  rcases g4 with ⟨hr, g4⟩ | ⟨g, c', a1, a2', a3, a4, a5, a6, a7, a8⟩
                  · have oc' : fX0_outcomeOf (fX0_resultBy n) d (nI j) ad M = some (r, M') := by
                      rw [oc]
                      unfold fX0_including_30 fX0_including_35
                      rcases hr with rfl | rfl
                      · rw [if_neg (by decide), if_pos rfl, if_neg (by decide)]
                      · rw [if_neg (by decide), if_neg (by decide), if_pos rfl, if_neg (by decide)]
                    have hr1 : r ≠ 1 ∧ r ≠ 0 := by
                      rcases hr with rfl | rfl
                      · decide
                      · decide
                    rw [oc', bn2_e, if_neg hr1.1, if_neg hr1.2]
                    exact ⟨r, M', N', l', e', rfl, g2, hf3, Or.inl ⟨hr, gon.trans g4⟩⟩
                  · have f33 : N' 33 s = nI d := by rw [(g3.2.2.2 s (by omega)).1, (hf2.2.2.2 s (by omega)).1, h33]; exact e33
                    have f34 : N' 34 s = nI j := by rw [(g3.2.2.2 s (by omega)).2, (hf2.2.2.2 s (by omega)).2, h34]; exact e34
                    obtain ⟨g', hg', eg'⟩ := hsg
                    have f8 : N' 8 (6 * d + j) = nI g' := by rw [hf3.2.1 8 (by omega) (by omega) (by omega)]; exact eg'
                    have fM : M' (122 + d) j = nI g' := by rw [hf3.1 (122 + d) (by omega), f1]; exact eg'
                    subst a2'
                    unfold fX0_including_30 fX0_including_35 fX0_including_58 fX0_matchIf at oc
                    rw [if_neg (nI_ne0 (by omega) (by omega)), if_neg (show ¬ nI (g + 1) = (5 : Int32) from fun z => by have := (nI_eq (a := g + 1) (b := 5) (by omega) (by omega)).mp z; omega), if_neg (show ¬ nI (g + 1) = (6 : Int32) from fun z => by have := (nI_eq (a := g + 1) (b := 6) (by omega) (by omega)).mp z; omega), if_pos rfl] at oc
                    have hf4 : Fs s M' N' M' (up2 N' 0 46 (nI (s + 1))) := ⟨fun _ _ => rfl, fun t z _ _ => up2_o z, fun i _ _ z => up2_k z, fun p hp => ⟨up2_t (by omega), up2_t (by omega)⟩⟩
                    by_cases hg : g = 0
                    · subst hg
                      rw [if_pos (show nI (0 + 1) = (1 : Int32) from rfl), if_neg (by decide), bn1_e] at oc
                      rw [oc, bn2_e, if_pos rfl, grd_n (show j < 6 by omega) (by omega), cN (show j < 2 ^ 31 by omega), fM, one_add]
                      refine ⟨nI (g' + 1), M', up2 N' 0 46 (nI (s + 1)), l', e', rfl, ⟨g2.1, g2.2.1, by rw [up2_k (by omega)]; exact g2.2.2.1, by rw [up2_k (by omega)]; exact g2.2.2.2⟩, hf3.tr hf4, Or.inr ⟨g', c', hg', rfl, by omega, a4, a5, up2_e, ?_, by omega⟩⟩
                      rw [gon, a7]
                      exact Gb_1 (by omega) a6 f33 f34 hat f8
                    · have hg1 : ¬ nI (g + 1) = (1 : Int32) := fun z => by have := (nI_eq (a := g + 1) (b := 1) (by omega) (by omega)).mp z; omega
                      rw [if_neg hg1, if_pos rfl, bn1_e] at oc
                      rw [oc, bn2_e, if_neg (by decide), if_pos rfl, nI_1]
                      have hf5 : Fs s M' (up2 N' 0 46 (nI (s + 1))) M' (up2 (up2 N' 0 46 (nI (s + 1))) 34 s (nI (j + 1))) := ⟨fun _ _ => rfl, fun t _ _ z => up2_o z, fun i _ _ _ => up2_t (by omega), fun p hp => ⟨up2_t (by omega), up2_k (by omega)⟩⟩
                      have hf6 := (hf3.tr hf4).tr hf5
                      refine (ih l' e' s (c' + 1) d (j + 1) C' a2 M' _ (hD.s hf6) hd ⟨g2.1, g2.2.1, by rw [up2_t (by omega), up2_k (by omega)]; exact g2.2.2.1, by rw [up2_t (by omega), up2_k (by omega)]; exact g2.2.2.2⟩ a5 a4 (by omega) (by omega) (by rw [hf6.2.2.1 22 (by omega) (by omega) (by omega)]; exact ha) (by rw [up2_t (by omega), up2_e]) (by rw [up2_t (by omega), up2_t (by omega)]; exact f33) up2_e (by rw [hf6.2.1 7 (by omega) (by omega) (by omega)]; exact r4) hC6 (by omega) (by omega) (by omega)).via hf6 ?_ (by omega) (by omega)
                      rw [gon, a7]
                      exact Gb_0 hg1 (by omega) a6 f33 f34
              · rw [if_neg hsl, if_neg hsl] at st
                rw [rb_s (by omega) (by omega) (fun q => hsl (s1.symm.trans q)), bn2_e, if_neg (by decide), if_pos (by decide)] at oc
                unfold fX0_including_30 fX0_including_35 at oc
                rw [if_neg (by decide)] at oc
                rw [oc, bn2_e, if_neg (by decide), if_neg (by decide)]
                exact Rn.err (by omega) (Or.inl rfl) hC1 hf1 st
            · rw [if_neg (show ¬ nI q = (4 : Int32) from n4 4 z4 (by omega))] at oc
              exact trm_on (e := e) (hnext (l + 1) (by omega) (by omega) (Or.inr rfl)) hD hd (by omega) (by omega) (by omega) (by omega) (by omega) ha e46 e33 e34 hT oc hf1 h46 h33 h34 (by rw [ek]; exact n4 4 z4 (by omega)) st (tl_eq hD1 hC1 he (by rw [hf1.2.2.1 22 (by omega) (by omega) (by omega)]; exact ha) hat a9 (by omega) hq z4 a10 hw (by rw [hf1.2.1 11 (by omega) (by omega) (by omega)]))
          · rw [q1, bn2_e, if_neg (by decide)] at oc
            rw [q2, bn2_e, if_neg (by decide)] at st
            rw [oc, bn2_e, if_neg (by decide), if_neg (by decide)]
            exact Rn.err (by omega) (Or.inr rfl) hC1 hf1 st
theorem s_run {D : Nat} {ad : Int32} : ∀ n, SRun D ad n := by
  intro n
  induction n with
  | zero =>
    refine run_of ?_
    intro l e s c w M N hD hw hC he hl hln hs ha e46 e33 e34 h3 h6 hb
    omega
  | succ n ih =>
    refine run_of ?_
    intro l e s c w M N hD hw hC he hl hln hs ha e46 e33 e34 h3 h6 hb
    have hD20 := hD.1
    obtain ⟨s1, s2⟩ := hD.2.2.2.2.1 w (by omega)
    obtain ⟨t1, t2, C, hC6, t3, t4, t5⟩ := hD.2.2.2.2.2.2.1 w (by omega)
    rw [rb_r (by omega) (s1.trans h3) (fun q => h6 (t1.symm.trans q))]
    exact ih FU l e s c w 0 C (nI w) M N hD hw hC he hl (by omega) hs ha e46 e33 e34 t4 hC6 (by omega) (show 7 ≤ 0 + 300 by omega) hb
