/-! the sender: the whole check -/
theorem start_eq {D : Nat} {M N : Mm} (hD : RD D M N) (h1 : isN D (N 0 20)) (h2 : M 243 1 = N 0 20) (h3 : M 243 3 = N 0 22) : ∃ r M' N', fX0_start (M 243 1) (M 243 3) M = some (r, M') ∧ fX11_checkSender N = some (r, N') ∧ RC M' N' ∧ Fs 0 M N M' N' := by
  obtain ⟨w, hw, ew⟩ := h1
  have hD20 := hD.1
  rw [h2, h3, ew]
  unfold fX0_start fX11_checkSender
  simp only [nm_x, bn2_i]
  have hf0 : Fs 0 M N (up2 (up2 M 275 0 0) 275 1 0) (up2 (up2 N 0 44 0) 0 45 0) := ⟨fun t z => by rw [up2_o z, up2_o z], fun t z _ _ => by rw [up2_o z, up2_o z], fun j a b _ => by rw [up2_k b, up2_k a], fun p hp => by omega⟩
  have hD0 := hD.s hf0
  have hC0 : CT 0 0 (up2 (up2 M 275 0 0) 275 1 0) (up2 (up2 N 0 44 0) 0 45 0) := ⟨by rw [up2_k (by omega), up2_e]; rfl, by rw [up2_e]; rfl, by rw [up2_k (by omega), up2_e]; rfl, by rw [up2_e]; rfl⟩
  have e20 : up2 (up2 N 0 44 0) 0 45 0 0 20 = nI w := by rw [up2_k (by omega), up2_k (by omega)]; exact ew
  have e22 : up2 (up2 N 0 44 0) 0 45 0 0 22 = N 0 22 := by rw [up2_k (by omega), up2_k (by omega)]
  generalize up2 (up2 M 275 0 0) 275 1 0 = M0 at hf0 hD0 hC0 ⊢
  generalize up2 (up2 N 0 44 0) 0 45 0 = N0 at hf0 hD0 hC0 e20 e22 ⊢
  have hRC : ∀ {l e : Nat} {M N : Mm}, CT l e M N → RC M N := fun h => ⟨h.1.trans h.2.2.1.symm, h.2.1.trans h.2.2.2.symm⟩
  obtain ⟨s1, s2⟩ := hD0.2.2.2.2.1 w (by omega)
  obtain ⟨t1, t2, C, hC6, t3, t4, t5⟩ := hD0.2.2.2.2.2.2.1 w (by omega)
  unfold fX11_checkSender_34
  rw [e20, cN (show w < 2 ^ 31 by omega)]
  simp only [grd_n (show w < 20 by omega) (show 20 < 2 ^ 31 by omega)]
  by_cases hs : N0 3 w = 0
  · rw [if_pos hs]
    by_cases hr : N0 6 w = 0
    · rw [if_pos hr, if_pos hs, rb_u (by omega) (by omega) (s1.trans hs) (t1.trans hr)]
      exact ⟨0, M0, N0, rfl, rfl, hRC hC0, hf0⟩
    · rw [if_neg hr, rb_r (n := 11) (by omega) (s1.trans hs) (fun q => hr (t1.symm.trans q))]
      have b20 : up2 N0 0 46 0 0 20 = nI w := by rw [up2_k (by omega)]; exact e20
      have hwt : fX11_wait (nI w) (up2 N0 0 46 0) = some (up2 (up2 (up2 (up2 N0 0 46 0) 33 0 (nI w)) 34 0 0) 0 46 (nI 1)) := by
        unfold fX11_wait
        have z0 : up2 N0 0 46 0 0 46 = nI 0 := by rw [up2_e]; rfl
        have z1 : up2 (up2 N0 0 46 0) 33 0 (nI w) 0 46 = nI 0 := by rw [up2_t (by omega)]; exact z0
        have z2 : up2 (up2 (up2 N0 0 46 0) 33 0 (nI w)) 34 0 0 0 46 = nI 0 := by rw [up2_t (by omega)]; exact z1
        rw [z0, cN (show 0 < 2 ^ 31 by omega), grd_n (show 0 < 12 by omega) (by omega), nm_x, z1, cN (show 0 < 2 ^ 31 by omega), grd_n (show 0 < 12 by omega) (by omega), nm_x, z2, nI_1, nm_x]
      rw [b20, hwt, bn1_e]
      have hf1 : Fs 0 M0 N0 M0 (up2 (up2 (up2 (up2 N0 0 46 0) 33 0 (nI w)) 34 0 0) 0 46 (nI 1)) := ⟨fun _ _ => rfl, fun t a b c => by rw [up2_o a, up2_o c, up2_o b, up2_o a], fun j _ _ a => by rw [up2_k a, up2_t (by omega), up2_t (by omega), up2_k a], fun p hp => by omega⟩
      have c44 : ∀ j, j ≠ 46 → up2 (up2 (up2 (up2 N0 0 46 0) 33 0 (nI w)) 34 0 0) 0 46 (nI 1) 0 j = N0 0 j := fun j a => by rw [up2_k a, up2_t (by omega), up2_t (by omega), up2_k a]
      have hD1 := hD0.s hf1
      have hR := s_run 11 FU 0 0 0 0 w 0 C (nI w) M0 _ hD1 hw ⟨hC0.1, hC0.2.1, by rw [c44 44 (by omega)]; exact hC0.2.2.1, by rw [c44 45 (by omega)]; exact hC0.2.2.2⟩ (by omega) (by omega) (by omega) (by omega) ((c44 22 (by omega)).trans e22) up2_e (by rw [up2_t (by omega), up2_t (by omega), up2_e]) (by rw [up2_t (by omega), up2_e]; rfl) (by rw [hf1.2.1 7 (by omega) (by omega) (by omega)]; exact t4) hC6 (by omega) (show 7 ≤ 0 + 300 by omega) (by omega)
      obtain ⟨r, M', N', l', e', g1, g2, g3, g4⟩ := hR
      refine ⟨r, M', ?_⟩
      have hf2 := (hf0.tr hf1).tr g3
      rcases g4 with ⟨hr, g4⟩ | ⟨g, c', a1, a2', a3, a4, a5, a6, a7, a8⟩
      · exact ⟨N', g1, g4, hRC g2, hf2⟩
      · have hbk : fX11_back r N' = some (r, up2 N' 0 46 (nI 0)) := by
          unfold fX11_back
          rw [nm_x, a6, nI_pred, show FU = 299 + 1 from rfl, fX11_back_12, up2_e, if_pos (by decide)]
        refine ⟨up2 N' 0 46 (nI 0), g1, ?_, hRC (l := l') (e := e') ⟨g2.1, g2.2.1, by rw [up2_k (by omega)]; exact g2.2.2.1, by rw [up2_k (by omega)]; exact g2.2.2.2⟩, hf2.tr ⟨fun _ _ => rfl, fun t z _ _ => up2_o z, fun i _ _ z => up2_k z, fun p hp => by omega⟩⟩
        refine a7.trans ?_
        unfold Gb
        rw [hbk, bn2_e, G_x (by omega) (by rw [a2']; exact nI_pos' (by omega))]
  · rw [if_neg hs, if_neg hs, rb_s (by omega) (by omega) (fun q => hs (s1.symm.trans q))]
    exact ⟨5, M0, N0, rfl, rfl, hRC hC0, hf0⟩
/-- the relation after a check -/
theorem Fs.parts {k D : Nat} {M N M' N' : Mm} (f : Fs 0 M N M' N') (hD : RD D M N) (hL : RMl D M N) (hR : RR M N) (hT : RT k M N) : RD D M' N' ∧ RMl D M' N' ∧ RR M' N' ∧ RT (k + 1) M' N' :=
  ⟨hD.s f, hL.to (Nat.le_refl _) (fun i _ => by rw [f.1 243 (by omega)]) (fun t a b _ _ => f.1 t (by omega)) (fun j a b => f.2.2.1 j (by omega) (by omega) (by omega)) (fun t a b => f.2.1 t (by omega) (by omega) (by omega)), hR.to (by rw [f.1 0 (by omega)]) (fun t a b => f.1 t (by omega)) (f.2.2.1 49 (by omega) (by omega) (by omega)) (fun t a b => f.2.1 t (by omega) (by omega) (by omega)), hT.to (by rw [f.1 0 (by omega)]) (f.2.2.1 18 (by omega) (by omega) (by omega))⟩
theorem op14 : Op14 := by
  intro k M N hk hR
  have hR' := hR
  obtain ⟨D, hD, hL, hC, hRR, hT⟩ := hR'
  unfold fX10_sender fX11_sender
  obtain ⟨w1, w2, w3⟩ := hL.1
  rw [w1]
  by_cases h : N 0 19 = 0
  · rw [if_pos h, if_pos h]
    exact ⟨_, _, _, rfl, rfl, hR.up⟩
  · rw [if_neg h, if_neg h]
    obtain ⟨v1, v2, v3, v4, v5⟩ := w3 (w2.elim (fun q => absurd q h) id)
    obtain ⟨r, M', N', g1, g2, g3, g4⟩ := start_eq hD v1 v3 v5
    rw [g1, g2, bn2_e, bn2_e]
    obtain ⟨p1, p2, p3, p4⟩ := g4.parts hD hL hRR hT
    exact ⟨_, _, _, rfl, rfl, D, p1, p2, g3, p3, p4⟩
