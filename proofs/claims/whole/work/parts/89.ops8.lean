/-! type -/
def by8 (c : Int64) (k : Nat) : Int32 := (ushr64 c ((8 : Int32) * nI k)).toInt32 &&& 255
theorem by8_N (c : Int64) {k : Nat} (hk : k < 8) : ((shr64 c ((8 : Int32) * nI k)) &&& 255).toInt32 = by8 c k := (byte_eq c hk).symm
theorem by8_M (c : Int64) (k : Nat) : fX10_byteAt c (nI k) = some (by8 c k) := rfl
theorem sub1 (x : Int32) : x + (-1) = x - 1 := by rw [Int32.sub_eq_add_neg]
/-- what comes behind the reference's check of the characters -/
def tyT (a : Int32) (c : Int64) (nn : Nat) (N : Mm) : Option (Int32 × Mm) := if a = (-1 : Int32) then (fX11_type_118 a c (nI nn) (N 0 27) N) else (grd (gin a 6) (fX11_type_118 a c (nI nn) (N 19 a.toNatClampNeg) N))
theorem allowed {a b : Int32} {c : Int64} {nn : Nat} {N : Mm} (hn : nn ≤ 8) (hb : (a = -1 ∧ b = 1) ∨ (a ≠ -1 ∧ b = 0)) : ∀ (n i : Nat), nn < i + n → i ≤ nn →
    (fX10_areAllowed_3 c (nI nn) b n (nI i) = some 0 ∧ fX11_type_26 a c (nI nn) n (nI i) N = some (-1, N)) ∨
    (fX10_areAllowed_3 c (nI nn) b n (nI i) = some 1 ∧ fX11_type_26 a c (nI nn) n (nI i) N = tyT a c nn N ∧ (a ≠ -1 → ∀ k, i ≤ k → k < nn → by8 c k ≠ 10)) := by
  intro n
  induction n with
  | zero => intro i h1 h2; omega
  | succ n ih =>
    intro i h1 h2
    rw [fX10_areAllowed_3, fX11_type_26]
    by_cases hi : i = nn
    · subst hi
      rw [if_pos (nI_le (Nat.le_refl _) (by omega)), if_pos (nI_le (Nat.le_refl _) (by omega))]
      exact Or.inr ⟨rfl, rfl, fun _ k h3 h4 => by omega⟩
    · rw [if_neg (nI_ge (by omega) (by omega)), if_neg (nI_ge (by omega) (by omega)), by8_M, bn1_e, by8_N c (by omega), nm_x]
      have good : by8 c i ≠ 10 ∨ a = -1 → (fX10_areAllowed_3 c (nI nn) b n (nI i + 1) = some 0 ∧ fX11_type_26 a c (nI nn) n (nI i + 1) N = some (-1, N)) ∨ (fX10_areAllowed_3 c (nI nn) b n (nI i + 1) = some 1 ∧ fX11_type_26 a c (nI nn) n (nI i + 1) N = tyT a c nn N ∧ (a ≠ -1 → ∀ k, i ≤ k → k < nn → by8 c k ≠ 10)) := by
        intro hv
        rw [nI_1]
        rcases ih (i + 1) (by omega) (by omega) with h | ⟨g1, g2, g3⟩
        · exact Or.inl h
        · refine Or.inr ⟨g1, g2, fun ha k h3 h4 => ?_⟩
          by_cases hki : k = i
          · subst hki
            exact hv.elim id (fun q => absurd q ha)
          · exact g3 ha k (by omega) h4
      unfold fX10_areAllowed_53 fX11_type_80 fX11_type_66 fX11_type_80 fX11_type_84 fX11_type_85
      generalize by8 c i = v at good ⊢
      by_cases h9 : v = 9
      · subst h9
        rw [within_n (Or.inl (by decide)), bn1_e, if_pos rfl, if_pos rfl, if_pos rfl, if_neg (by decide)]
        exact good (Or.inl (by decide))
      · by_cases h10 : v = 10
        · subst h10
          rw [within_n (Or.inl (by decide)), bn1_e, if_pos rfl, if_neg h9, if_neg h9]
          rcases hb with ⟨rfl, rfl⟩ | ⟨ha, rfl⟩
          · rw [if_neg (by decide), if_pos rfl, if_pos rfl, if_pos rfl, if_neg (by decide)]
            exact good (Or.inr rfl)
          · rw [if_pos rfl, if_pos rfl, if_neg ha, if_pos (by decide), if_pos rfl]
            exact Or.inl ⟨rfl, rfl⟩
        · simp only [if_neg h9, if_neg h10]
          by_cases hlo : v < 32
          · rw [within_n (Or.inl hlo), bn1_e, if_pos rfl, if_pos hlo]
            refine Or.inl ⟨?_, if_pos trivial⟩
            by_cases hb0 : b = 0
            · rw [if_pos hb0]
            · rw [if_neg hb0]
          · by_cases hhi : 126 < v
            · rw [within_n (Or.inr hhi), bn1_e, if_pos rfl, if_neg hlo, if_pos hhi]
              refine Or.inl ⟨?_, if_pos trivial⟩
              by_cases hb0 : b = 0
              · rw [if_pos hb0]
              · rw [if_neg hb0]
            · rw [within_y (Int32.not_lt.mp hlo) (Int32.not_lt.mp hhi), bn1_e, if_neg (show ¬ (1 : Int32) = 0 by decide), if_neg hlo, if_neg hhi, if_neg (show ¬ (1 : Int32) = 0 by decide)]
              exact good (Or.inl h10)
/-- the body grows -/
def FrB (M N M' N' : Mm) : Prop := (∀ t, t ≠ 246 + 6 → t ≠ 254 + 6 → M' t = M t) ∧ (∀ t, t ≠ 0 → t ≠ 21 → N' t = N t) ∧ ∀ j, j ≠ 27 → N' 0 j = N 0 j
theorem grow_b {c : Int64} {nn : Int32} {x : Int32} : ∀ (n j z : Nat) (M N : Mm), j < n → j ≤ 8 → z + j ≤ 90 → BS z M N → ∃ M' N', fX9_appendBytes_22 6 c nn n (nI j - 1) M = some (nI (z + j), M') ∧ fX11_type_149 (-1) c nn n x (nI j - 1) N = some (x + nn, N') ∧ BS (z + j) M' N' ∧ FrB M N M' N' := by
  intro n
  induction n with
  | zero => intro j z M N h; omega
  | succ n ih =>
    intro j z M N hn h8 hz hB
    cases j with
    | zero =>
      refine ⟨M, N, ?_, ?_, hB, fun _ _ _ => rfl, fun _ _ _ => rfl, fun _ _ => rfl⟩
      · rw [fX9_appendBytes_22, if_pos (by decide), hB.1]
        rfl
      · rw [fX11_type_149, if_pos (by decide)]
    | succ j =>
      obtain ⟨b1, b2, b3⟩ := id hB
      have a1 : up2 M (254 + 6) z (by8 c j) (246 + 6) 1 = nI z := by rw [up2_t (by omega)]; exact b1
      have a2 : up2 N 21 z (by8 c j) 0 27 = nI z := by rw [up2_t (by omega)]; exact b2
      have B1 : BS (z + 1) (up2 (up2 M (254 + 6) z (by8 c j)) (246 + 6) 1 (nI (z + 1))) (up2 (up2 N 21 z (by8 c j)) 0 27 (nI (z + 1))) := by
        refine ⟨up2_e, up2_e, fun i hi => ?_⟩
        rw [show up2 (up2 M (254 + 6) z (by8 c j)) (246 + 6) 1 (nI (z + 1)) (254 + 6) i = up2 M (254 + 6) z (by8 c j) (254 + 6) i from up2_t (by omega), show up2 (up2 N 21 z (by8 c j)) 0 27 (nI (z + 1)) 21 i = up2 N 21 z (by8 c j) 21 i from up2_t (by omega)]
        by_cases hiz : i = z
        · subst hiz
          rw [up2_e, up2_e]
        · rw [up2_k hiz, up2_k hiz]
          exact b3 i (by omega)
      obtain ⟨M', N', e1, e2, hB', f⟩ := ih j (z + 1) _ _ (by omega) (by omega) (by omega) B1
      refine ⟨M', N', ?_, ?_, by rw [show z + (j + 1) = z + 1 + j by omega]; exact hB', ?_, ?_, ?_⟩
      · rw [fX9_appendBytes_22, nI_pred, if_neg (nI_pos (by omega)), by8_M, bn1_e]
        unfold fX9_append
        rw [show tlen 6 = 90 from rfl, b1, if_neg (nI_ge (by omega) (by omega)), grd_n (by omega) (by omega), cN (by omega), nm_x, nm_x, a1, nI_1, bn1_e, sub1, e1, show z + (j + 1) = z + 1 + j by omega]
      · rw [fX11_type_149, nI_pred, if_neg (nI_pos (by omega)), by8_N c (by omega), nm_x, if_pos rfl, b2, grd_n (by omega) (by omega), cN (by omega), nm_x, nm_x, a2, nI_1]
        unfold fX11_type_225
        rw [sub1]
        exact e2
      · exact fun t h1 h2 => by rw [f.1 t h1 h2, up2_o h1, up2_o h2]
      · exact fun t h1 h2 => by rw [f.2.1 t h1 h2, up2_o h1, up2_o h2]
      · exact fun i h1 => by rw [f.2.2 i h1, up2_k h1, up2_t (by omega)]
/-- a header grows -/
def FrH (i : Nat) (M N M' N' : Mm) : Prop := (∀ t, t ≠ 246 + i → t ≠ 254 + i → M' t = M t) ∧ (∀ t, t ≠ 19 → t ≠ 20 → N' t = N t) ∧ (∀ j, j ≠ i → N' 19 j = N 19 j) ∧ ∀ j, (j < 24 * i ∨ 24 * i + 24 ≤ j) → N' 20 j = N 20 j
theorem grow_h {c : Int64} {nn : Int32} {x : Int32} {i : Nat} (hi : i < 6) : ∀ (n j z : Nat) (M N : Mm), j < n → j ≤ 8 → z + j ≤ 24 → (∀ k, k < j → by8 c k ≠ 10) → HS i z M N → ∃ M' N', fX9_appendBytes_22 i c nn n (nI j - 1) M = some (nI (z + j), M') ∧ fX11_type_149 (nI i) c nn n x (nI j - 1) N = some (x + nn, N') ∧ HS i (z + j) M' N' ∧ FrH i M N M' N' := by
  have hne : nI i ≠ -1 := fun q => nI_pos (n := i) (by omega) (q ▸ (by decide))
  intro n
  induction n with
  | zero => intro j z M N h; omega
  | succ n ih =>
    intro j z M N hn h8 hz hch hB
    cases j with
    | zero =>
      refine ⟨M, N, ?_, ?_, hB, fun _ _ _ => rfl, fun _ _ _ => rfl, fun _ _ => rfl, fun _ _ => rfl⟩
      · rw [fX9_appendBytes_22, if_pos (by decide), hB.1]
        rfl
      · rw [fX11_type_149, if_pos (by decide)]
    | succ j =>
      obtain ⟨b1, b2, b3⟩ := id hB
      have a1 : up2 M (254 + i) z (by8 c j) (246 + i) 1 = nI z := by rw [up2_t (by omega)]; exact b1
      have a2 : up2 N 20 (24 * i + z) (by8 c j) 19 i = nI z := by rw [up2_t (by omega)]; exact b2
      have B1 : HS i (z + 1) (up2 (up2 M (254 + i) z (by8 c j)) (246 + i) 1 (nI (z + 1))) (up2 (up2 N 20 (24 * i + z) (by8 c j)) 19 i (nI (z + 1))) := by
        refine ⟨up2_e, up2_e, fun q hq => ?_⟩
        rw [show up2 (up2 M (254 + i) z (by8 c j)) (246 + i) 1 (nI (z + 1)) (254 + i) q = up2 M (254 + i) z (by8 c j) (254 + i) q from up2_t (by omega), show up2 (up2 N 20 (24 * i + z) (by8 c j)) 19 i (nI (z + 1)) 20 (24 * i + q) = up2 N 20 (24 * i + z) (by8 c j) 20 (24 * i + q) from up2_t (by omega)]
        by_cases hqz : q = z
        · subst hqz
          rw [up2_e, up2_e]
          exact ⟨rfl, hch j (by omega)⟩
        · rw [up2_k hqz, up2_k (by omega)]
          exact b3 q (by omega)
      obtain ⟨M', N', e1, e2, hB', f⟩ := ih j (z + 1) _ _ (by omega) (by omega) (by omega) (fun k hk => hch k (by omega)) B1
      refine ⟨M', N', ?_, ?_, by rw [show z + (j + 1) = z + 1 + j by omega]; exact hB', ?_, ?_, ?_, ?_⟩
      · rw [fX9_appendBytes_22, nI_pred, if_neg (nI_pos (by omega)), by8_M, bn1_e]
        unfold fX9_append
        rw [tlen_h hi, b1, if_neg (nI_ge (by omega) (by omega)), grd_n (by omega) (by omega), cN (by omega), nm_x, nm_x, a1, nI_1, bn1_e, sub1, e1, show z + (j + 1) = z + 1 + j by omega]
      · rw [fX11_type_149, nI_pred, if_neg (nI_pos (by omega)), by8_N c (by omega), nm_x, if_neg hne, grd_n hi (by omega), cN (show i < 2 ^ 31 by omega), b2, ix24, grd_n (by omega) (by omega), cN (by omega), nm_x, grd_n hi (by omega), grd_n hi (by omega), nm_x, a2, nI_1]
        unfold fX11_type_225
        rw [sub1]
        exact e2
      · exact fun t h1 h2 => by rw [f.1 t h1 h2, up2_o h1, up2_o h2]
      · exact fun t h1 h2 => by rw [f.2.1 t h1 h2, up2_o h1, up2_o h2]
      · exact fun q h1 => by rw [f.2.2.1 q h1, up2_k h1, up2_t (by omega)]
      · exact fun q h1 => by rw [f.2.2.2 q h1, up2_t (by omega), up2_k (by omega)]
theorem type_Rb {k D : Nat} {M N M' N' : Mm} {z : Nat} (hD : RD D M N) (hL : RMl D M N) (hC : RC M N) (hR : RR M N) (hT : RT k M N) (hz : z ≤ 90) (hB : BS z M' N') (f : FrB M N M' N') : Rel (k + 1) M' N' := by
  obtain ⟨hw, hh, hb, hs, hl⟩ := hL
  refine Rel.ml hD ⟨?_, ?_, ⟨z, hz, hB⟩, ?_, ?_⟩ hC hR hT (fun t ht => f.1 t (by omega) (by omega)) (fun t ht => f.1 t (by omega) (by omega)) (fun j hj => f.2.2 j (by omega)) (fun j hj _ => f.2.2 j (by omega)) (fun t h1 h2 => f.2.1 t (by omega) (by omega)) (fun t ht => f.2.1 t (by omega) (by omega))
  · unfold RLw at *
    rw [f.1 243 (by omega) (by omega), f.2.2 19 (by omega), f.2.2 20 (by omega), f.2.2 21 (by omega), f.2.2 22 (by omega)]
    exact hw
  · obtain ⟨h, hh6, f1, f2, f3, f4⟩ := hh
    refine ⟨h, hh6, by rw [f.1 243 (by omega) (by omega)]; exact f1, by rw [f.2.2 23 (by omega)]; exact f2, by rw [f.2.2 19 (by omega)]; exact f3, fun i hi => ?_⟩
    rw [f.1 244 (by omega) (by omega), f.1 (246 + i) (by omega) (by omega), f.1 (254 + i) (by omega) (by omega), f.2.1 18 (by omega) (by omega), f.2.1 19 (by omega) (by omega), f.2.1 20 (by omega) (by omega)]
    exact f4 i hi
  · obtain ⟨g, hg, f1, f2, f3, f4⟩ := hs
    exact ⟨g, hg, by rw [f.1 243 (by omega) (by omega)]; exact f1, by rw [f.2.2 29 (by omega)]; exact f2, by rw [f.2.2 19 (by omega)]; exact f3, fun i hi => (f4 i hi).to (Nat.le_refl _) (f.1 _ (by omega) (by omega)) (fun t h1 h2 => by rw [f.2.1 t (by omega) (by omega)])⟩
  · obtain ⟨g, hg, f1, f2, f3, f4⟩ := hl
    refine ⟨g, hg, by rw [f.1 243 (by omega) (by omega)]; exact f1, by rw [f.2.2 38 (by omega)]; exact f2, by rw [f.2.2 19 (by omega)]; exact f3, fun i hi => ⟨(f4 i hi).1.to (Nat.le_refl _) (f.1 _ (by omega) (by omega)) (fun t h1 h2 => by rw [f.2.1 t (by omega) (by omega)]), ?_⟩⟩
    rw [f.1 (271 + i) (by omega) (by omega), f.2.1 30 (by omega) (by omega), f.2.1 31 (by omega) (by omega)]
    exact (f4 i hi).2
theorem type_Rh {k D : Nat} {M N M' N' : Mm} {i z : Nat} (hi6 : i < 6) (hD : RD D M N) (hL : RMl D M N) (hC : RC M N) (hR : RR M N) (hT : RT k M N) (hz : z ≤ 24) (hB : HS i z M' N') (f : FrH i M N M' N') : Rel (k + 1) M' N' := by
  obtain ⟨hw, hh, hb, hs, hl⟩ := hL
  have fN0 : N' 0 = N 0 := f.2.1 0 (by omega) (by omega)
  refine Rel.ml hD ⟨?_, ?_, ?_, ?_, ?_⟩ hC hR hT (fun t ht => f.1 t (by omega) (by omega)) (fun t ht => f.1 t (by omega) (by omega)) (fun j hj => by rw [fN0]) (fun j hj _ => by rw [fN0]) (fun t h1 h2 => f.2.1 t (by omega) (by omega)) (fun t ht => f.2.1 t (by omega) (by omega))
  · unfold RLw at *
    rw [f.1 243 (by omega) (by omega), fN0]
    exact hw
  · obtain ⟨h, hh6, f1, f2, f3, f4⟩ := hh
    refine ⟨h, hh6, by rw [f.1 243 (by omega) (by omega)]; exact f1, by rw [fN0]; exact f2, by rw [fN0]; exact f3, fun q hq => ?_⟩
    rw [f.1 244 (by omega) (by omega), f.2.1 18 (by omega) (by omega)]
    obtain ⟨g1, g2, g3⟩ := f4 q hq
    refine ⟨g1, g2, ?_⟩
    by_cases hqi : q = i
    · subst hqi
      exact ⟨z, hz, hB⟩
    · obtain ⟨z2, hz2, g4, g5, g6⟩ := g3
      refine ⟨z2, hz2, by rw [f.1 (246 + q) (by omega) (by omega)]; exact g4, by rw [f.2.2.1 q hqi]; exact g5, fun j hj => ?_⟩
      rw [f.1 (254 + q) (by omega) (by omega), f.2.2.2 (24 * q + j) (by omega)]
      exact g6 j hj
  · obtain ⟨z2, hz2, g1, g2, g3⟩ := hb
    refine ⟨z2, hz2, by rw [f.1 (246 + 6) (by omega) (by omega)]; exact g1, by rw [fN0]; exact g2, fun j hj => ?_⟩
    rw [f.1 (254 + 6) (by omega) (by omega), f.2.1 21 (by omega) (by omega)]
    exact g3 j hj
  · obtain ⟨g, hg, f1, f2, f3, f4⟩ := hs
    exact ⟨g, hg, by rw [f.1 243 (by omega) (by omega)]; exact f1, by rw [fN0]; exact f2, by rw [fN0]; exact f3, fun i hi => (f4 i hi).to (Nat.le_refl _) (f.1 _ (by omega) (by omega)) (fun t h1 h2 => by rw [f.2.1 t (by omega) (by omega)])⟩
  · obtain ⟨g, hg, f1, f2, f3, f4⟩ := hl
    refine ⟨g, hg, by rw [f.1 243 (by omega) (by omega)]; exact f1, by rw [fN0]; exact f2, by rw [fN0]; exact f3, fun q hq => ⟨(f4 q hq).1.to (Nat.le_refl _) (f.1 _ (by omega) (by omega)) (fun t h1 h2 => by rw [f.2.1 t (by omega) (by omega)]), ?_⟩⟩
    rw [f.1 (271 + q) (by omega) (by omega), f.2.1 30 (by omega) (by omega), f.2.1 31 (by omega) (by omega)]
    exact (f4 q hq).2
theorem op9 : Op9 := by
  intro k M N hk hR a1 a2 a4
  obtain ⟨D, hD, hL, hC, hRr, hT⟩ := id hR
  have ew : ∀ nn, 1 ≤ nn → nn ≤ 8 → fX10_isWithin (nI nn) 1 8 = some 1 := fun nn h1 h2 => within_y (show nI 1 ≤ nI nn from nI_le h1 (by omega)) (show nI nn ≤ nI 8 from nI_le h2 (by omega))
  rcases part_c hL a1 with ⟨rfl, hm, p1, p2⟩ | ⟨i, z, hi, rfl, hz2, hB, p1, p2, -⟩ | ⟨p1, p2⟩
  · rcases i_cases a4 (n := 9) (by omega) with ⟨nn, hn, rfl⟩ | hx
    · by_cases h0 : nn = 0
      · subst h0
        refine ⟨-1, M, N, ?_, ?_, hR.up⟩
        · unfold fX10_type
          rw [p1, bn1_e, opc_2, grd_lt (by omega), within_n (Or.inl (by decide)), bn1_e, if_pos rfl]
        · unfold fX11_type
          rw [p2, bn1_e, if_neg (by decide), if_pos (by decide)]
      · have hM : fX10_type (-1) a2 (nI nn) M = bn1 (fX10_areAllowed_3 a2 (nI nn) 1 FU (nI 0)) (fun v39 => if v39 = 0 then (some ((-1 : Int32), M)) else (bn2 (fX9_appendBytes 6 a2 (nI nn) M) (fun v52 M52 => some (v52, M52)))) := by
          unfold fX10_type
          rw [p1, bn1_e, opc_2, grd_lt (by omega), ew nn (by omega) (by omega), bn1_e, if_neg (by decide), if_pos rfl]
          rfl
        have hN : fX11_type (-1) a2 (nI nn) N = fX11_type_26 (-1) a2 (nI nn) FU (nI 0) N := by
          unfold fX11_type
          rw [p2, bn1_e, if_neg (by decide), if_neg (show ¬ nI nn < (1 : Int32) from nI_nlt (b := 1) (by omega) (by omega)), if_pos (show nI nn ≤ (8 : Int32) from nI_le (b := 8) (by omega) (by omega))]
          rfl
        rcases allowed (a := -1) (b := 1) (c := a2) (nn := nn) (N := N) (by omega) (Or.inl ⟨rfl, rfl⟩) FU 0 (show nn < 0 + 300 by omega) (by omega) with ⟨g1, g2⟩ | ⟨g1, g2, -⟩
        · refine ⟨-1, M, N, ?_, ?_, hR.up⟩
          · rw [hM, g1, bn1_e, if_pos rfl]
          · rw [hN, g2]
        · obtain ⟨z, hz2, b1, b2, b3⟩ := hL.2.2.1
          by_cases hf : z + nn ≤ 90
          · obtain ⟨M', N', e1, e2, hB', f⟩ := grow_b (c := a2) (nn := nI nn) (x := nI z) FU nn z M N (show nn < 300 by omega) (by omega) hf ⟨b1, b2, b3⟩
            refine ⟨nI (z + nn), M', N', ?_, ?_, type_Rb hD hL hC hRr hT hf hB' f⟩
            · rw [hM, g1, bn1_e, if_neg (by decide)]
              unfold fX9_appendBytes
              rw [b1, nI_add, show tlen 6 = 90 from rfl, if_pos (nI_le hf (by omega)), nm_x, e1, bn2_e]
            · rw [hN, g2]
              unfold tyT fX11_type_118 fX11_type_137
              rw [if_pos rfl, if_pos rfl, b2, nI_add, if_pos (show nI (z + nn) ≤ (90 : Int32) from nI_le (b := 90) hf (by omega)), nm_x, e2, nI_add]
          · refine ⟨-2, M, N, ?_, ?_, hR.up⟩
            · rw [hM, g1, bn1_e, if_neg (by decide)]
              unfold fX9_appendBytes
              rw [b1, nI_add, show tlen 6 = 90 from rfl, if_neg (nI_ge (by omega) (by omega)), bn2_e]
            · rw [hN, g2]
              unfold tyT fX11_type_118 fX11_type_137
              rw [if_pos rfl, if_pos rfl, b2, nI_add, if_neg (show ¬ nI (z + nn) ≤ (90 : Int32) from nI_ge (a := 90) (by omega) (by omega))]
    · refine ⟨-1, M, N, ?_, ?_, hR.up⟩
      · unfold fX10_type
        rw [p1, bn1_e, opc_2, grd_lt (by omega), within_n (by
          rcases hx with hx | ⟨h0, hx⟩
          · exact Or.inl (Int32.lt_trans hx (by decide))
          · exact Or.inr (gt_of (n := 8) (by omega) h0 hx)), bn1_e, if_pos rfl]
      · unfold fX11_type
        rw [p2, bn1_e, if_neg (by decide)]
        rcases hx with hx | ⟨h0, hx⟩
        · rw [if_pos (Int32.lt_trans hx (by decide))]
        · rw [if_neg (fun q => absurd (Int32.lt_of_le_of_lt hx q) (by decide)), if_neg (show ¬ a4 ≤ (8 : Int32) by rw [Int32.not_le]; exact gt_of (n := 8) (by omega) h0 hx)]
  · have hne : nI i ≠ -1 := fun q => nI_pos (n := i) (by omega) (q ▸ (by decide))
    rcases i_cases a4 (n := 9) (by omega) with ⟨nn, hn, rfl⟩ | hx
    · by_cases h0 : nn = 0
      · subst h0
        refine ⟨-1, M, N, ?_, ?_, hR.up⟩
        · unfold fX10_type
          rw [p1, bn1_e, opc_2, grd_lt (by omega), within_n (Or.inl (by decide)), bn1_e, if_pos rfl]
        · unfold fX11_type
          rw [p2, bn1_e, if_neg (by decide), if_pos (by decide)]
      · have hM : fX10_type (nI i) a2 (nI nn) M = bn1 (fX10_areAllowed_3 a2 (nI nn) 0 FU (nI 0)) (fun v39 => if v39 = 0 then (some ((-1 : Int32), M)) else (bn2 (fX9_appendBytes i a2 (nI nn) M) (fun v52 M52 => some (v52, M52)))) := by
          unfold fX10_type
          rw [p1, bn1_e, opc_2, grd_lt (by omega), ew nn (by omega) (by omega), bn1_e, if_neg (by decide), if_neg hne]
          rfl
        have hN : fX11_type (nI i) a2 (nI nn) N = fX11_type_26 (nI i) a2 (nI nn) FU (nI 0) N := by
          unfold fX11_type
          rw [p2, bn1_e, if_neg (by decide), if_neg (show ¬ nI nn < (1 : Int32) from nI_nlt (b := 1) (by omega) (by omega)), if_pos (show nI nn ≤ (8 : Int32) from nI_le (b := 8) (by omega) (by omega))]
          rfl
        rcases allowed (a := nI i) (b := 0) (c := a2) (nn := nn) (N := N) (by omega) (Or.inr ⟨hne, rfl⟩) FU 0 (show nn < 0 + 300 by omega) (by omega) with ⟨g1, g2⟩ | ⟨g1, g2, g3⟩
        · refine ⟨-1, M, N, ?_, ?_, hR.up⟩
          · rw [hM, g1, bn1_e, if_pos rfl]
          · rw [hN, g2]
        · by_cases hf : z + nn ≤ 24
          · obtain ⟨M', N', e1, e2, hB', f⟩ := grow_h (c := a2) (nn := nI nn) (x := nI z) hi FU nn z M N (show nn < 300 by omega) (by omega) hf (fun q hq => g3 hne q (by omega) hq) hB
            refine ⟨nI (z + nn), M', N', ?_, ?_, type_Rh hi hD hL hC hRr hT hf hB' f⟩
            · rw [hM, g1, bn1_e, if_neg (by decide)]
              unfold fX9_appendBytes
              rw [hB.1, nI_add, tlen_h hi, if_pos (nI_le hf (by omega)), nm_x, e1, bn2_e]
            · rw [hN, g2]
              unfold tyT fX11_type_118 fX11_type_137
              rw [if_neg hne, grd_n hi (by omega), if_neg hne, cN (by omega), hB.2.1, nI_add, if_pos (show nI (z + nn) ≤ (24 : Int32) from nI_le (b := 24) hf (by omega)), nm_x, e2, nI_add]
          · refine ⟨-2, M, N, ?_, ?_, hR.up⟩
            · rw [hM, g1, bn1_e, if_neg (by decide)]
              unfold fX9_appendBytes
              rw [hB.1, nI_add, tlen_h hi, if_neg (nI_ge (by omega) (by omega)), bn2_e]
            · rw [hN, g2]
              unfold tyT fX11_type_118 fX11_type_137
              rw [if_neg hne, grd_n hi (by omega), if_neg hne, cN (by omega), hB.2.1, nI_add, if_neg (show ¬ nI (z + nn) ≤ (24 : Int32) from nI_ge (a := 24) (by omega) (by omega))]
    · refine ⟨-1, M, N, ?_, ?_, hR.up⟩
      · unfold fX10_type
        rw [p1, bn1_e, opc_2, grd_lt (by omega), within_n (by
          rcases hx with hx | ⟨h0, hx⟩
          · exact Or.inl (Int32.lt_trans hx (by decide))
          · exact Or.inr (gt_of (n := 8) (by omega) h0 hx)), bn1_e, if_pos rfl]
      · unfold fX11_type
        rw [p2, bn1_e, if_neg (by decide)]
        rcases hx with hx | ⟨h0, hx⟩
        · rw [if_pos (Int32.lt_trans hx (by decide))]
        · rw [if_neg (fun q => absurd (Int32.lt_of_le_of_lt hx q) (by decide)), if_neg (show ¬ a4 ≤ (8 : Int32) by rw [Int32.not_le]; exact gt_of (n := 8) (by omega) h0 hx)]
  · refine ⟨-1, M, N, ?_, ?_, hR.up⟩
    · unfold fX10_type
      rw [p1, bn1_e, opc_1]
    · unfold fX11_type
      rw [p2, bn1_e, if_pos rfl]
