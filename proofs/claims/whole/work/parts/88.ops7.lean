/-! length -/
theorem part_c {D : Nat} {M N : Mm} (hL : RMl D M N) (a : Int32) :
    (a = -1 ∧ N 0 19 ≠ 0 ∧ fX4_partAt a M = some (some 6) ∧ fX11_isThere a N = some 1) ∨
    (∃ i z, i < 6 ∧ a = nI i ∧ z ≤ 24 ∧ HS i z M N ∧ fX4_partAt a M = some (some i) ∧ fX11_isThere a N = some 1 ∧ ∃ h, i < h ∧ h ≤ 6 ∧ N 0 23 = nI h) ∨
    (fX4_partAt a M = some none ∧ fX11_isThere a N = some 0) := by
  obtain ⟨⟨w1, w2, w3⟩, ⟨h, hh, e1, e2, e3, e4⟩, -, -, -⟩ := hL
  have p17 : fX4_partAt_17 a M = bn1 (fX10_isWithin a 0 (nI h - 1)) (fun v25 => if v25 = 0 then (some none) else (grd (gin a 6) (some (some a.toNatClampNeg)))) := by
    unfold fX4_partAt_17
    rw [e1]
  by_cases hm : N 0 19 = 0
  · have h0 := e3 hm
    subst h0
    refine Or.inr (Or.inr ⟨?_, ?_⟩)
    · unfold fX4_partAt
      rw [w1, if_pos hm, p17]
      rcases nI_cases a (n := 0) (by omega) with ⟨j, hj, -⟩ | hx
      · omega
      · rw [within_N' hx (by omega), bn1_e, if_pos rfl]
    · unfold fX11_isThere
      rw [if_pos hm]
  · by_cases ha : a = -1
    · subst ha
      refine Or.inl ⟨rfl, hm, ?_, ?_⟩
      · unfold fX4_partAt
        rw [w1, if_neg hm, if_pos rfl]
      · unfold fX11_isThere
        rw [if_neg hm, if_neg (by decide), e2, if_neg (fun q => absurd (Int32.le_trans (nI_pos' (by omega)) q) (by decide))]
    · rcases i_cases a (n := h) (by omega) with ⟨i, hi, rfl⟩ | hx
      · obtain ⟨-, -, z, hz, f3, f4, f5⟩ := e4 i hi
        refine Or.inr (Or.inl ⟨i, z, by omega, rfl, hz, ⟨f3, f4, f5⟩, ?_, ?_, h, hi, hh, e2⟩)
        · unfold fX4_partAt
          rw [w1, if_neg hm, if_neg ha, p17, within_N hi (by omega), bn1_e, if_neg (by decide), grd_n (by omega) (by omega), cN (by omega)]
        · unfold fX11_isThere
          rw [if_neg hm, if_neg (fun q => nI_pos (n := i) (by omega) (Int32.lt_trans q (by decide))), e2, if_neg (nI_ge hi (by omega))]
      · refine Or.inr (Or.inr ⟨?_, ?_⟩)
        · unfold fX4_partAt
          rw [w1, if_neg hm, if_neg ha, p17, within_N' (hx.elim Or.inl (fun q => Or.inr q.2)) (by omega), bn1_e, if_pos rfl]
        · unfold fX11_isThere
          rw [if_neg hm]
          rcases hx with hx | ⟨h0, hx⟩
          · rw [if_pos]
            have t1 : a.toInt < 0 := Int32.lt_iff_toInt_lt.mp hx
            have t2 : a.toInt ≠ -1 := fun q => ha (Int32.toInt_inj.mp q)
            exact Int32.lt_iff_toInt_lt.mpr (show a.toInt < -1 by omega)
          · rw [if_neg (fun q => h0 (Int32.lt_trans q (by decide))), e2, if_pos hx]
theorem op10 : Op10 := by
  intro k M N hk hR a1 a2 hz
  obtain ⟨D, hD, hL, hC, hRr, hT⟩ := id hR
  rcases part_c hL a1 with ⟨rfl, hm, p1, p2⟩ | ⟨i, z, hi, rfl, hz2, hB, p1, p2, -⟩ | ⟨p1, p2⟩
  · obtain ⟨z, hz2, b1, b2, b3⟩ := hL.2.2.1
    obtain ⟨M', N', c, e1, e2, hc, hC2, f⟩ := bodyForm_eq hz hz2 ⟨b1, b2, b3⟩
    refine ⟨nI c, M', N', ?_, ?_, f.rel hR⟩
    · unfold fX10_length
      rw [p1, bn1_e, opc_2, grd_lt (by omega), if_pos rfl, e1, bn2_e, grd_lt (by omega), hC2.1]
    · unfold fX11_length
      rw [p2, bn1_e, if_neg (by decide), if_pos rfl, e2, bn1_e, hC2.2.1]
  · obtain ⟨M', N', c, e1, e2, hc, hC2, f⟩ := headerForm_eq hz hi hz2 hB
    have hne : nI i ≠ -1 := fun q => nI_pos (n := i) (by omega) (q ▸ (by decide))
    refine ⟨nI c, M', N', ?_, ?_, f.rel hR⟩
    · unfold fX10_length
      rw [p1, bn1_e, opc_2, grd_lt (by omega), if_neg hne, e1, bn2_e, grd_lt (by omega), hC2.1]
    · unfold fX11_length
      rw [p2, bn1_e, if_neg (by decide), if_neg hne, e2, bn1_e, hC2.2.1]
  · refine ⟨-1, M, N, ?_, ?_, hR.up⟩
    · unfold fX10_length
      rw [p1, bn1_e, opc_1]
    · unfold fX11_length
      rw [p2, bn1_e, if_pos rfl]
/-! type: bytes of a long -/
theorem byte_bits (c : Int64) (y : Int32) (s : Nat) (hs : s ≤ 56) (h1 : (y.toInt64.toUInt64 &&& Int64.toUInt64 63).toNat % 64 = s) (h2 : ((y.toInt64 &&& 63).toBitVec.smod 64).toNat = s) : (ushr64 c y).toInt32 &&& 255 = ((shr64 c y) &&& 255).toInt32 := by
  apply Int32.toBitVec_inj.mp
  have e1 : (ushr64 c y).toBitVec = c.toBitVec >>> s := by
    apply BitVec.eq_of_toNat_eq
    show (c.toUInt64 >>> (y.toInt64.toUInt64 &&& Int64.toUInt64 63)).toNat = _
    rw [UInt64.toNat_shiftRight, h1, BitVec.toNat_ushiftRight]
    rfl
  have e2 : (shr64 c y).toBitVec = c.toBitVec.sshiftRight s := by
    show c.toBitVec.sshiftRight ((y.toInt64 &&& 63).toBitVec.smod 64).toNat = _
    rw [h2]
  rw [Int32.toBitVec_and]
  show (BitVec.signExtend 32 (ushr64 c y).toBitVec) &&& 255#32 = BitVec.signExtend 32 ((shr64 c y).toBitVec &&& 255#64)
  rw [e1, e2]
  have m32 : ∀ i : Fin 32, (255#32).getLsbD i = decide (i.val < 8) := by decide
  have m64 : ∀ i : Fin 64, (255#64).getLsbD i = decide (i.val < 8) := by decide
  apply BitVec.eq_of_getLsbD_eq
  intro i hi
  have n32 := m32 ⟨i, hi⟩
  have n64 := m64 ⟨i, by omega⟩
  simp only at n32 n64
  rw [BitVec.getLsbD_and, n32, BitVec.getLsbD_signExtend, BitVec.getLsbD_signExtend, BitVec.getLsbD_and, n64, BitVec.getLsbD_ushiftRight, BitVec.getLsbD_sshiftRight]
  by_cases h8 : i < 8
  · simp [h8, hi, show i < 64 by omega, show s + i < 64 by omega, show ¬ 64 ≤ i by omega]
  · simp [h8]
    intro a b
    omega
theorem byte_eq (c : Int64) {k : Nat} (hk : k < 8) : (ushr64 c ((8 : Int32) * nI k)).toInt32 &&& 255 = ((shr64 c ((8 : Int32) * nI k)) &&& 255).toInt32 := by
  have h8 : k = 0 ∨ k = 1 ∨ k = 2 ∨ k = 3 ∨ k = 4 ∨ k = 5 ∨ k = 6 ∨ k = 7 := by omega
  rcases h8 with rfl | rfl | rfl | rfl | rfl | rfl | rfl | rfl
  · exact byte_bits c _ 0 (by omega) (by decide) (by decide)
  · exact byte_bits c _ 8 (by omega) (by decide) (by decide)
  · exact byte_bits c _ 16 (by omega) (by decide) (by decide)
  · exact byte_bits c _ 24 (by omega) (by decide) (by decide)
  · exact byte_bits c _ 32 (by omega) (by decide) (by decide)
  · exact byte_bits c _ 40 (by omega) (by decide) (by decide)
  · exact byte_bits c _ 48 (by omega) (by decide) (by decide)
  · exact byte_bits c _ 56 (by omega) (by decide) (by decide)
