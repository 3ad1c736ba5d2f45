/-! the sender: the reference's own steps -/
def G (c : Nat) (N : Mm) : Option (Int32 × Mm) := fX11_checkSender_69 (300 - c) (-1 : Int32) (nI c) N
def Gb (c : Nat) (r : Int32) (N : Mm) : Option (Int32 × Mm) := bn2 (fX11_back r N) (fun v N1 => fX11_checkSender_69 (299 - c) v (nI (c + 1)) N1)
theorem bn2_i {x : Option (Int32 × Mm)} : bn2 x (fun v M => some (v, M)) = x := by
  cases x with
  | none => rfl
  | some q => rfl
theorem G_e {c : Nat} {N : Mm} (h : c < 200) : G c N = bn2 (fX11_stepOn N) (fun v N1 => fX11_checkSender_69 (299 - c) v (nI (c + 1)) N1) := by
  unfold G
  rw [show 300 - c = (299 - c) + 1 by omega, fX11_checkSender_69, if_neg (show ¬ (200 : Int32) ≤ nI c from nI_ge (b := 200) h (by omega)), if_neg (by decide), nI_1]
theorem G_on {c : Nat} {N N1 : Mm} (h : c < 200) (e : fX11_stepOn N = some (-1, N1)) : G c N = G (c + 1) N1 := by
  rw [G_e h, e, bn2_e]
  unfold G
  rw [show 300 - (c + 1) = 299 - c by omega]
theorem G_bk {c : Nat} {r : Int32} {N N1 : Mm} (h : c < 200) (e : fX11_stepOn N = fX11_back r N1) : G c N = Gb c r N1 := by
  rw [G_e h, e]
  rfl
theorem G_x {c : Nat} {r : Int32} {N1 : Mm} (h : c < 200) (hr : 0 ≤ r) : fX11_checkSender_69 (299 - c) r (nI (c + 1)) N1 = some (r, N1) := by
  rw [show 299 - c = (298 - c) + 1 by omega, fX11_checkSender_69, if_pos hr]
  by_cases q : (200 : Int32) ≤ nI (c + 1)
  · rw [if_pos q]
  · rw [if_neg q]
theorem G_ot {c : Nat} {r : Int32} {N N1 : Mm} (h : c < 200) (hr : 0 ≤ r) (e : fX11_stepOn N = some (r, N1)) : G c N = some (r, N1) := by
  rw [G_e h, e, bn2_e, G_x h hr]
theorem back_fuel : ∀ (s n m : Nat) (a b r : Int32) (N : Mm), N 0 46 = nI s → s < 100 → s < n → s < m → fX11_back_12 a n r N = fX11_back_12 b m r N := by
  intro s
  induction s with
  | zero =>
    intro n m a b r N h _ hn hm
    obtain ⟨n, rfl⟩ : ∃ q, n = q + 1 := ⟨n - 1, by omega⟩
    obtain ⟨m, rfl⟩ : ∃ q, m = q + 1 := ⟨m - 1, by omega⟩
    rw [fX11_back_12, fX11_back_12, h, if_pos (by decide), if_pos (by decide)]
  | succ s ih =>
    intro n m a b r N h hs hn hm
    obtain ⟨n, rfl⟩ : ∃ q, n = q + 1 := ⟨n - 1, by omega⟩
    obtain ⟨m, rfl⟩ : ∃ q, m = q + 1 := ⟨m - 1, by omega⟩
    rw [fX11_back_12, fX11_back_12, h, nI_pred]
    have e : ∀ v : Int32, fX11_back_12 a n v (up2 N 0 46 (nI s)) = fX11_back_12 b m v (up2 N 0 46 (nI s)) := fun v => ih n m a b v _ up2_e (by omega) (by omega) (by omega)
    simp only [nm_x, e]
/-- back to the frame s = (d, j) -/
theorem Gb_1 {c s d j g : Nat} {N : Mm} (hs : s < 12) (e1 : N 0 46 = nI (s + 2)) (e2 : N 33 s = nI d) (e3 : N 34 s = nI j) (hat : 6 * d + j < 120) (e4 : N 8 (6 * d + j) = nI g) : Gb c 1 N = Gb c (nI (g + 1)) (up2 N 0 46 (nI (s + 1))) := by
  have e : fX11_back 1 N = fX11_back (nI (g + 1)) (up2 N 0 46 (nI (s + 1))) := by
    unfold fX11_back
    rw [nm_x, nm_x, e1, nI_pred, up2_e, nI_pred, show FU = 299 + 1 from rfl, fX11_back_12, up2_e, if_neg (nI_nle (by omega) (by omega)), nI_pred, cN (show s < 2 ^ 31 by omega), up2_t (by omega), up2_t (by omega), e2, e3, ix6, nm_x, if_pos rfl, grd_n hs (by omega), grd_n hs (by omega), grd_n hat (by omega), cN (show 6 * d + j < 2 ^ 31 by omega), up2_t (by omega), e4, nI_1, nm_x, nm_x]
    exact back_fuel s 299 (299 + 1) 1 (nI (g + 1)) (nI (g + 1)) _ up2_e (by omega) (by omega) (by omega)
  unfold Gb
  rw [e]
theorem Gb_0 {c s d j : Nat} {r : Int32} {N : Mm} (hr : r ≠ 1) (hs : s < 12) (e1 : N 0 46 = nI (s + 2)) (e2 : N 33 s = nI d) (e3 : N 34 s = nI j) : Gb c r N = G (c + 1) (up2 (up2 N 0 46 (nI (s + 1))) 34 s (nI (j + 1))) := by
  have e : fX11_back r N = some (-1, up2 (up2 N 0 46 (nI (s + 1))) 34 s (nI (j + 1))) := by
    unfold fX11_back
    rw [nm_x, e1, nI_pred, show FU = 299 + 1 from rfl, fX11_back_12, up2_e, if_neg (nI_nle (by omega) (by omega)), nI_pred, cN (show s < 2 ^ 31 by omega), up2_t (by omega), up2_t (by omega), e2, e3, ix6, nm_x, if_neg hr]
    simp only [grd_n hs (show 12 < 2 ^ 31 by omega), nm_x, nI_1]
  unfold Gb
  rw [e, bn2_e]
  unfold G
  rw [show 300 - (c + 1) = 299 - c by omega]
theorem stp {s d j : Nat} {N : Mm} (hs : s < 12) (hd : d < 20) (e1 : N 0 46 = nI (s + 1)) (e2 : N 33 s = nI d) (e3 : N 34 s = nI j) : fX11_stepOn N = (if nI j = N 7 d then (if 0 ≤ N 12 d then fX11_sendOn (N 12 d) N else fX11_back 4 N) else grd (gin (nI (6 * d + j)) 120) (if N 9 (nI (6 * d + j)).toNatClampNeg ≤ (1 : Int32) then fX11_stepOn_89 (nI (6 * d + j)) N else bn2 (fX11_lookup N) (fun v80 M80 => if v80 ≤ 0 then fX11_stepOn_89 (nI (6 * d + j)) M80 else some ((6 : Int32), M80)))) := by
  unfold fX11_stepOn
  rw [e1, nI_pred, cN (show s < 2 ^ 31 by omega), e2, e3]
  simp only [grd_n hs (show 12 < 2 ^ 31 by omega), nm_x, grd_n hd (show 20 < 2 ^ 31 by omega), cN (show d < 2 ^ 31 by omega), ix6, bn2_i]
/-- how a run of terms ends -/
def Rn (l s c b : Nat) (M N : Mm) (cl : Option (Int32 × Mm)) : Prop := ∃ r M' N' l' e', cl = some (r, M') ∧ CT l' e' M' N' ∧ Fs s M N M' N' ∧ (((r = 5 ∨ r = 6) ∧ G c N = some (r, N')) ∨ ∃ g c', g < 4 ∧ r = nI (g + 1) ∧ l ≤ l' ∧ l' ≤ 10 ∧ e' ≤ 2 ∧ N' 0 46 = nI (s + 1) ∧ G c N = Gb c' r N' ∧ c' + 1 + 7 * (11 - l') ≤ b)
theorem Rn.via {l l1 s c c1 b b1 : Nat} {M N M1 N1 : Mm} {cl : Option (Int32 × Mm)} (h : Rn l1 s c1 b1 M1 N1 cl) (hf : Fs s M N M1 N1) (hg : G c N = G c1 N1) (hl : l ≤ l1) (hb : b1 ≤ b) : Rn l s c b M N cl := by
  obtain ⟨r, M', N', l', e', q1, q2, q3, q4⟩ := h
  refine ⟨r, M', N', l', e', q1, q2, hf.tr q3, ?_⟩
  rw [hg]
  rcases q4 with q4 | ⟨g, c', a1, a2, a3, a4, a5, a6, a7, a8⟩
  · exact Or.inl q4
  · exact Or.inr ⟨g, c', a1, a2, by omega, a4, a5, a6, a7, by omega⟩
theorem Rn.err {l s c b l' e' : Nat} {M N M' N' : Mm} {r : Int32} (hc : c < 200) (hr : r = 5 ∨ r = 6) (hC : CT l' e' M' N') (hf : Fs s M N M' N') (e : fX11_stepOn N = some (r, N')) : Rn l s c b M N (some (r, M')) := by
  refine ⟨r, M', N', l', e', rfl, hC, hf, Or.inl ⟨hr, G_ot hc ?_ e⟩⟩
  rcases hr with rfl | rfl
  · decide
  · decide
theorem one_add {g : Nat} : (1 : Int32) + nI g = nI (g + 1) := by rw [Int32.add_comm, nI_1]
/-- a term that asks no other domain, once its own check is done -/
theorem trm_on {D n k l e s c d j l1 : Nat} {ad a2 : Int32} {M N M1 N1 : Mm} {cl : Option (Int32 × Mm)}
    (hn : ∀ M2 N2 e2, RD D M2 N2 → CT l1 e2 M2 N2 → e2 ≤ 2 → N2 0 22 = ad → N2 0 46 = nI (s + 1) → N2 33 s = nI d → N2 34 s = nI (j + 1) → N2 7 = N 7 → Rn l1 s (c + 1) (c + 1 + (7 - (j + 1)) + 7 * (11 - l1)) M2 N2 (fX0_resultBy_32 a2 ad (fX0_resultBy n) k d (nI (j + 1)) M2))
    (hD : RD D M N) (hd : d < D) (hs : s < 12) (hj : j < 6) (hc : c < 150) (hl : l ≤ l1) (hl1 : l1 ≤ 10) (ha : N 0 22 = ad) (e1 : N 0 46 = nI (s + 1)) (e2 : N 33 s = nI d) (e3 : N 34 s = nI j)
    (hR : RTm D d j M N) (hcl : fX0_outcomeOf (fX0_resultBy n) d (nI j) ad M = cl) (hf : Fs s M N M1 N1) (h46 : N1 0 46 = N 0 46) (h33 : N1 33 = N 33) (h34 : N1 34 = N 34) (h4 : N 9 (6 * d + j) ≠ 4) (hrf : fX11_stepOn N = fX11_stepOn_89 (nI (6 * d + j)) N1) (hT : Trm l1 e s M1 N1 cl (fX11_tryTerm (nI (6 * d + j)) N1)) :
    Rn l s c (c + (7 - j) + 7 * (11 - l)) M N (bn2 (fX0_outcomeOf (fX0_resultBy n) d (nI j) ad M) (fun v49 M49 => if v49 = (1 : Int32) then (grd (gin (nI j) 6) (some (((1 : Int32) + (M49 (122 + d) (nI j).toNatClampNeg)), M49))) else (if v49 = 0 then ((fX0_resultBy_32 a2 ad (fX0_resultBy n) k) d (nI j + 1) M49) else (some (v49, M49))))) := by
  have hD20 := hD.1
  obtain ⟨o, M2, N2, e', g1, g2, g3, g4, g5, g6, g7, g8⟩ := hT
  have hf2 := hf.tr g4
  obtain ⟨f1, f2, f3, f4, ⟨g, hg, eg⟩, -⟩ := hR
  have q8 : N2 8 (6 * d + j) = nI g := by rw [hf2.2.1 8 (by omega) (by omega) (by omega)]; exact eg
  have q46 : N2 0 46 = nI (s + 1) := by rw [g5, h46, e1]
  have qM : M2 (122 + d) j = nI g := by rw [hf2.1 (122 + d) (by omega), f1]; exact eg
  have hat : 6 * d + j < 120 := by omega
  have q34 : N2 34 s = nI j := by rw [g7, h34, e3]
  have st : fX11_stepOn N = (if o ≤ (1 : Int32) then (if o = (1 : Int32) then fX11_back (nI (g + 1)) N2 else some (-1, up2 N2 34 s (nI (j + 1)))) else some (o, N2)) := by
    rw [hrf]
    unfold fX11_stepOn_89
    rw [grd_n hat (by omega), cN (show 6 * d + j < 2 ^ 31 by omega), hf.2.1 9 (by omega) (by omega) (by omega), if_neg h4, g2, bn2_e, q8, q46, nI_pred, nI_1, grd_n hat (by omega), cN (show s < 2 ^ 31 by omega), grd_n hs (by omega), grd_n hs (by omega), nm_x, q34, nI_1, bn2_i]
  rw [hcl, g1, bn2_e]
  rcases g8 with ⟨g8 | g8, he⟩ | g8
  · subst g8
    rw [if_neg (by decide), if_pos rfl, nI_1]
    rw [if_pos (by decide), if_neg (by decide)] at st
    have hf3 : Fs s M2 N2 M2 (up2 N2 34 s (nI (j + 1))) := ⟨fun _ _ => rfl, fun t _ _ h => up2_o h, fun i _ _ _ => up2_t (by omega), fun p hp => ⟨up2_t (by omega), up2_k (by omega)⟩⟩
    refine (hn M2 (up2 N2 34 s (nI (j + 1))) e' ((hD.s hf2).s hf3) ?_ he ?_ ?_ ?_ up2_e (by rw [up2_o (by omega), hf2.2.1 7 (by omega) (by omega) (by omega)])).via (hf2.tr hf3) (G_on (by omega) st) hl (by omega)
    · exact ⟨g3.1, g3.2.1, by rw [up2_t (by omega)]; exact g3.2.2.1, by rw [up2_t (by omega)]; exact g3.2.2.2⟩
    · rw [up2_t (by omega), hf2.2.2.1 22 (by omega) (by omega) (by omega), ha]
    · rw [up2_t (by omega), q46]
    · rw [up2_t (by omega), g6, h33, e2]
  · subst g8
    rw [if_pos rfl, grd_n hj (by omega), cN (show j < 2 ^ 31 by omega), qM, one_add]
    rw [if_pos (by decide), if_pos rfl] at st
    exact ⟨nI (g + 1), M2, N2, l1, e', rfl, g3, hf2, Or.inr ⟨g, c, hg, rfl, hl, hl1, he, q46, G_bk (by omega) st, by omega⟩⟩
  · have ho : o ≠ 1 ∧ o ≠ 0 ∧ ¬ o ≤ (1 : Int32) := by
      rcases g8 with rfl | rfl
      · decide
      · decide
    rw [if_neg ho.1, if_neg ho.2.1]
    rw [if_neg ho.2.2] at st
    exact Rn.err (by omega) g8 g3 hf2 st
