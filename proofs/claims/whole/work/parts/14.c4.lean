def rmX2_holdOneLike : Room := { frames := 1, cells := 0, slots := 0, locals := 22 }
def fX2_holdOneLike_2 (i0 : Nat) (a1 : Int32) (a2 : Int32) (M : Mm) : Nat → Int32 → Option Int32
  | 0, _ => none
  | n + 1, x3 => if (M (22 + i0) 1) ≤ x3 then (some (0 : Int32)) else (grd (gin x3 2) (bn1 (fX10_agree (M (62 + i0) x3.toNatClampNeg) a1 a2) (fun v18 => if v18 = 0 then ((fX2_holdOneLike_2 i0 a1 a2 M n) (x3 + 1)) else (some (1 : Int32)))))
def fX2_holdOneLike (i0 : Nat) (a1 : Int32) (a2 : Int32) (M : Mm) : Option Int32 :=
  fX2_holdOneLike_2 i0 a1 a2 M FU (0 : Int32)
set_option maxRecDepth 100000 in
set_option maxHeartbeats 4000000 in
theorem kX2_holdOneLike (l : Launch) (D : va_G) (ad : Nat → Nat) (cA : Nat → ClassId) (A : Nat → Prop) {i0 : Nat} {a1 : Int32} {a2 : Int32} {M : Mm} {r : Int32} (hi0 : i0 < 40) (h : fX2_holdOneLike i0 a1 a2 M = some r) : Met l yX2_holdOneLike wsX2_holdOneLike rmX2_holdOneLike (gPc D (tyM cA) 289 (layM ad cA) ad A M [.ref (ad (22 + i0)), .int a1, .int a2]) (gQi D 289 (layM ad cA) ad A M r) 0 0 A := by
  refine Met.ofW (cc := cX2_holdOneLike) (maxL := 4) (ret := (some .boolean)) (by decide) rfl ?_
  intro p e s m args below meth c s₁ B hml hv
  obtain ⟨ha, hP, hK, hD, hN⟩ := hv
  have hx := B.exec
  have hb := B.bytes
  have hr := B.returns
  have hlk := B.notSynchronized
  have hts : ∀ w ∈ lw_g, w.before args s = true := fun w h => atoms_spec (ws := wsX2_holdOneLike) B.pre w (List.mem_cons_of_mem _ h)
  have hown : s.vm.findClass RX2 = some m.cls := findClass_of_methodNamed B.named
  have hS : va_S A s.heap s.heap [] := va_S.rf
  unfold fX2_holdOneLike at h
  have w15 := hts _ wm85
  have w9 := hts _ wm83
  have lp2 : ∀ (n : Nat) (x3 : Int32) (ls : Array Slot) (H : Heap) (locs : List Loc), lv_has ls 4 [(0, .ref (ad (22 + i0))), (1, .int a1), (2, .int a2), (3, .int x3)] → fX2_holdOneLike_2 i0 a1 a2 M n x3 = some r → va_P D vwCl (gw 289 (layM ad cA) ad M) H → va_S A s.heap H locs → W p l e (headSpec wsX2_holdOneLike rmX2_holdOneLike).room s m args below meth c H locs 0 0 (MQ below (gQi D 289 (layM ad cA) ad A M r) args s 0 0 A) (F0 m 2 ls []) := by
    intro n
    induction n with
    | zero =>
      intro x3 ls H locs hl h hP hS
      rw [fX2_holdOneLike_2] at h
      cases h
    | succ n ih2 =>
      intro x3 ls H locs hl h hP hS
      rw [fX2_holdOneLike_2] at h
      refine w_pc 2 rfl ?_
      refine lv_iload_n hx hb dX2_holdOneLike_2 rfl (lv_at hl 3 rfl) ?_
      refine lv_aload_n hx hb dX2_holdOneLike_3 rfl (lv_at hl 0 rfl) ?_
      refine gw_get (C := RX2) (T := TX2) (N := 2) (v := .int (M (22 + i0) 1)) hx hb hts hinX2 hown hK hP (by omega) (lyMHosts (by omega)) rfl 1 (by decide) w15 (fun _ h9 => h9) rfl dX2_holdOneLike_4 ?_
      refine w_pc 7 rfl ?_
      refine lv_icmp_ge (tgt := 32) hx hb dX2_holdOneLike_7 (by decide) (fun q7 => ?_) (fun q7 => ?_)
      · replace h := (if_pos q7).symm.trans h
        refine w_pc 32 rfl ?_
        refine lv_iconst (v := 0) hx hb dX2_holdOneLike_32 (by decide) ?_
        exact re_z hx hb hr hlk (Or.inl rfl) (sm_r h) hP hS dX2_holdOneLike_33
      · replace h := (if_neg q7).symm.trans h
        refine w_pc 10 rfl ?_
        refine lv_aload_n hx hb dX2_holdOneLike_10 rfl (lv_at hl 0 rfl) ?_
        refine gw_get (C := RX2) (T := TX2) (N := 2) (v := .ref (ad (62 + i0))) hx hb hts hinX2 hown hK hP (by omega) (lyMHosts (by omega)) rfl 0 (by decide) w9 (fun _ h9 => h9) rfl dX2_holdOneLike_11 ?_
        refine lv_iload_n hx hb dX2_holdOneLike_14 rfl (lv_at hl 3 rfl) ?_
        obtain ⟨g15, h⟩ := gd_in h
        refine gw_iald hx hb hK hP 0 (by omega) (lyMaHv (by omega)) rfl g15 dX2_holdOneLike_15 ?_
        refine lv_iload_n hx hb dX2_holdOneLike_16 rfl (lv_at hl 1 rfl) ?_
        refine lv_iload_n hx hb dX2_holdOneLike_17 rfl (lv_at hl 2 rfl) ?_
        refine w_pc 18 rfl ?_
        obtain ⟨v18, c18, h⟩ := bn1_some h
        refine cl_i (rn_sN (As := [.int (M (62 + i0) x3.toNatClampNeg), .int a1, .int a2]) (rest := []) ⟨hx, hb, hml, hown, hts⟩ (kX10_agree l D ad cA A (M := M) c18) ⟨va_cnB 3 hts (gdc wm613) rfl rfl rfl (hN _ nw17) (hts _ wm50) hdX10_agree ⟨Nat.le_of_ble_eq_true rfl, Nat.le_of_ble_eq_true rfl⟩, hts _ wm612, trivial⟩ hK hP hD hN rfl hl.1 rfl (lv_room (Nat.le_of_ble_eq_true rfl)) dX2_holdOneLike_18) hS (fun H locs hP hS => ?_)
        refine w_pc 21 rfl ?_
        refine w_pc 21 rfl ?_
        refine lv_if_eq (tgt := 26) hx hb dX2_holdOneLike_21 (by decide) (fun q21 => ?_) (fun q21 => ?_)
        · replace h := (if_pos q21).symm.trans h
          refine w_pc 26 rfl ?_
          refine lv_iinc (k := 3) (v := x3 + 1) (lv' := [(3, .int (x3 + 1)), (0, .ref (ad (22 + i0))), (1, .int a1), (2, .int a2)]) hx hb dX2_holdOneLike_26 hl rfl rfl (by decide) rfl (fun ls hl => ?_)
          refine lv_goto (tgt := 2) hx hb dX2_holdOneLike_29 (by decide) ?_
          exact ih2 (x3 + 1) ls _ _ (lv_sub hl [1, 2, 3, 0] rfl) h hP hS
        · replace h := (if_neg q21).symm.trans h
          refine w_pc 24 rfl ?_
          refine lv_iconst (v := 1) hx hb dX2_holdOneLike_24 (by decide) ?_
          exact re_z hx hb hr hlk (Or.inr rfl) (sm_r h) hP hS dX2_holdOneLike_25
  refine w_entry ha (Nat.le_of_ble_eq_true rfl) (fun ls hl => ?_)
  have hl : lv_has ls 4 [(0, .ref (ad (22 + i0))), (1, .int a1), (2, .int a2)] := hl
  refine w_pc 0 rfl ?_
  refine lv_iconst (v := 0) hx hb dX2_holdOneLike_0 (by decide) ?_
  refine lv_istore_n (lv' := [(3, .int (0 : Int32)), (0, .ref (ad (22 + i0))), (1, .int a1), (2, .int a2)]) hx hb dX2_holdOneLike_1 rfl hl (by decide) rfl (fun ls hl => ?_)
  exact lp2 FU (0 : Int32) ls _ _ (lv_sub hl [1, 2, 3, 0] rfl) h hP hS
def rmX0_exchangers : Room := { frames := 2, cells := 0, slots := 0, locals := 45 }
def fX0_exchangers_3 (i2 : Nat) (a3 : Int32) (a4 : Int32) (M : Mm) : Nat → Int32 → Option Int32
  | 0, _ => none
  | n + 1, x5 => if (M (22 + i2) 1) ≤ x5 then (some (0 : Int32)) else (grd (gin x5 2) (grd (gin (M (62 + i2) x5.toNatClampNeg) 20) (if (M (2 + (M (62 + i2) x5.toNatClampNeg).toNatClampNeg) 2) = 0 then (bn1 (fX2_holdOneLike (2 * (M (62 + i2) x5.toNatClampNeg).toNatClampNeg) a3 a4 M) (fun v41 => if v41 = 0 then ((fX0_exchangers_3 i2 a3 a4 M n) (x5 + 1)) else (some (1 : Int32)))) else (some (5 : Int32)))))
def fX0_exchangers (i2 : Nat) (a3 : Int32) (a4 : Int32) (M : Mm) : Option Int32 :=
  fX0_exchangers_3 i2 a3 a4 M FU (0 : Int32)
set_option maxRecDepth 100000 in
set_option maxHeartbeats 4000000 in
theorem kX0_exchangers (l : Launch) (D : va_G) (ad : Nat → Nat) (cA : Nat → ClassId) (A : Nat → Prop) {i2 : Nat} {a3 : Int32} {a4 : Int32} {M : Mm} {r : Int32} (hi2 : i2 < 40) (h : fX0_exchangers i2 a3 a4 M = some r) : Met l yX0_exchangers wsX0_exchangers rmX0_exchangers (gPc D (tyM cA) 289 (layM ad cA) ad A M [.ref (ad 275), .ref (ad 1), .ref (ad (22 + i2)), .int a3, .int a4]) (gQi D 289 (layM ad cA) ad A M r) 0 0 A := by
  refine Met.ofW (cc := cX0_exchangers) (maxL := 7) (ret := (some .int)) (by decide) rfl ?_
  intro p e s m args below meth c s₁ B hml hv
  obtain ⟨ha, hP, hK, hD, hN⟩ := hv
  have hx := B.exec
  have hb := B.bytes
  have hr := B.returns
  have hlk := B.notSynchronized
  have hts : ∀ w ∈ lw_g, w.before args s = true := fun w h => atoms_spec (ws := wsX0_exchangers) B.pre w (List.mem_cons_of_mem _ h)
  have hown : s.vm.findClass RX0 = some m.cls := findClass_of_methodNamed B.named
  have hS : va_S A s.heap s.heap [] := va_S.rf
  unfold fX0_exchangers at h
  have w85 := hts _ wm86
  have w99 := hts _ wm84
  have w22 := hts _ wm157
  have w82 := hts _ wm161
  have lp3 : ∀ (n : Nat) (x5 : Int32) (ls : Array Slot) (H : Heap) (locs : List Loc), lv_has ls 7 [(1, .ref (ad 1)), (2, .ref (ad (22 + i2))), (3, .int a3), (4, .int a4), (5, .int x5)] → fX0_exchangers_3 i2 a3 a4 M n x5 = some r → va_P D vwCl (gw 289 (layM ad cA) ad M) H → va_S A s.heap H locs → W p l e (headSpec wsX0_exchangers rmX0_exchangers).room s m args below meth c H locs 0 0 (MQ below (gQi D 289 (layM ad cA) ad A M r) args s 0 0 A) (F0 m 3 ls []) := by
    intro n
    induction n with
    | zero =>
      intro x5 ls H locs hl h hP hS
      rw [fX0_exchangers_3] at h
      cases h
    | succ n ih3 =>
      intro x5 ls H locs hl h hP hS
      rw [fX0_exchangers_3] at h
      refine w_pc 3 rfl ?_
      refine lv_iload hx hb dX0_exchangers_3 (lv_at hl 4 rfl) ?_
      refine lv_aload_n hx hb dX0_exchangers_5 rfl (lv_at hl 1 rfl) ?_
      refine gw_get (C := RX2) (T := TX2) (N := 2) (v := .int (M (22 + i2) 1)) hx hb hts hinX2 hown hK hP (by omega) (lyMHosts (by omega)) rfl 1 (by decide) w85 (fun _ h9 => h9) rfl dX0_exchangers_6 ?_
      refine w_pc 9 rfl ?_
      refine lv_icmp_ge (tgt := 55) hx hb dX0_exchangers_9 (by decide) (fun q9 => ?_) (fun q9 => ?_)
      · replace h := (if_pos q9).symm.trans h
        refine w_pc 55 rfl ?_
        refine lv_iconst (v := 0) hx hb dX0_exchangers_55 (by decide) ?_
        exact re_i hx hb hr hlk (sm_r h) hP hS dX0_exchangers_56
      · replace h := (if_neg q9).symm.trans h
        refine w_pc 12 rfl ?_
        refine lv_aload_n hx hb dX0_exchangers_12 rfl (lv_at hl 0 rfl) ?_
        refine lv_aload_n hx hb dX0_exchangers_13 rfl (lv_at hl 1 rfl) ?_
        refine gw_get (C := RX2) (T := TX2) (N := 2) (v := .ref (ad (62 + i2))) hx hb hts hinX2 hown hK hP (by omega) (lyMHosts (by omega)) rfl 0 (by decide) w99 (fun _ h9 => h9) rfl dX0_exchangers_14 ?_
        refine lv_iload hx hb dX0_exchangers_17 (lv_at hl 4 rfl) ?_
        obtain ⟨g19, h⟩ := gd_in h
        refine gw_iald hx hb hK hP 0 (by omega) (lyMaHv (by omega)) rfl g19 dX0_exchangers_19 ?_
        obtain ⟨g20, h⟩ := gd_in h
        have b20 := some_lo g20
        refine gw_aald hx hb hK hP 2 (by omega) lyMaDom rfl g20 dX0_exchangers_20 ?_
        refine lv_astore (lv' := [(6, .ref (ad (2 + (M (62 + i2) x5.toNatClampNeg).toNatClampNeg))), (1, .ref (ad 1)), (2, .ref (ad (22 + i2))), (3, .int a3), (4, .int a4), (5, .int x5)]) hx hb dX0_exchangers_21 hl (by decide) rfl (fun ls hl => ?_)
        refine w_pc 23 rfl ?_
        refine lv_aload hx hb dX0_exchangers_23 (lv_at hl 0 rfl) ?_
        refine gw_get (C := RX1) (T := TX1) (N := 8) (v := .int (M (2 + (M (62 + i2) x5.toNatClampNeg).toNatClampNeg) 2)) hx hb hts hinX1 hown hK hP (by omega) (lyMDom (by omega)) rfl 2 (by decide) w22 (fun _ h9 => h9) rfl dX0_exchangers_25 ?_
        refine w_pc 28 rfl ?_
        refine lv_if_eq (tgt := 33) hx hb dX0_exchangers_28 (by decide) (fun q28 => ?_) (fun q28 => ?_)
        · replace h := (if_pos q28).symm.trans h
          refine w_pc 33 rfl ?_
          refine lv_aload hx hb dX0_exchangers_33 (lv_at hl 0 rfl) ?_
          refine gw_get (C := RX1) (T := TX1) (N := 8) (v := .ref (ad (22 + (2 * (M (62 + i2) x5.toNatClampNeg).toNatClampNeg)))) hx hb hts hinX1 hown hK hP (by omega) (lyMDom (by omega)) rfl 3 (by decide) w82 (fun _ h9 => h9) rfl dX0_exchangers_35 ?_
          refine lv_iload_n hx hb dX0_exchangers_38 rfl (lv_at hl 3 rfl) ?_
          refine lv_iload hx hb dX0_exchangers_39 (lv_at hl 4 rfl) ?_
          refine w_pc 41 rfl ?_
          obtain ⟨v41, c41, h⟩ := bn1_some h
          refine cl_i (rn_v (As := [.int a3, .int a4]) (rest := []) ⟨hx, hb, hml, hown, hts⟩ (kX2_holdOneLike l D ad cA A (by omega) c41) ⟨callB_of 2 hts (gdc wm636) rfl rfl rfl (hts _ wm52) (hts _ wm633) hdX2_holdOneLike ⟨Nat.le_of_ble_eq_true rfl, Nat.le_of_ble_eq_true rfl⟩, hts _ wm634, hts _ wm635⟩ hK hP hD hN (by omega) (lyMHosts (by omega)) rfl rfl hl.1 rfl (lv_room (Nat.le_of_ble_eq_true rfl)) dX0_exchangers_41) hS (fun H locs hP hS => ?_)
          refine w_pc 44 rfl ?_
          refine w_pc 44 rfl ?_
          refine lv_if_eq (tgt := 49) hx hb dX0_exchangers_44 (by decide) (fun q44 => ?_) (fun q44 => ?_)
          · replace h := (if_pos q44).symm.trans h
            refine w_pc 49 rfl ?_
            refine lv_iinc (k := 5) (v := x5 + 1) (lv' := [(5, .int (x5 + 1)), (6, .ref (ad (2 + (M (62 + i2) x5.toNatClampNeg).toNatClampNeg))), (1, .ref (ad 1)), (2, .ref (ad (22 + i2))), (3, .int a3), (4, .int a4)]) hx hb dX0_exchangers_49 hl rfl rfl (by decide) rfl (fun ls hl => ?_)
            refine lv_goto (tgt := 3) hx hb dX0_exchangers_52 (by decide) ?_
            exact ih3 (x5 + 1) ls _ _ (lv_sub hl [2, 3, 4, 5, 0] rfl) h hP hS
          · replace h := (if_neg q44).symm.trans h
            refine w_pc 47 rfl ?_
            refine lv_iconst (v := 1) hx hb dX0_exchangers_47 (by decide) ?_
            exact re_i hx hb hr hlk (sm_r h) hP hS dX0_exchangers_48
        · replace h := (if_neg q28).symm.trans h
          refine w_pc 31 rfl ?_
          refine lv_iconst (v := 5) hx hb dX0_exchangers_31 (by decide) ?_
          exact re_i hx hb hr hlk (sm_r h) hP hS dX0_exchangers_32
  refine w_entry ha (Nat.le_of_ble_eq_true rfl) (fun ls hl => ?_)
  have hl : lv_has ls 7 [(0, .ref (ad 275)), (1, .ref (ad 1)), (2, .ref (ad (22 + i2))), (3, .int a3), (4, .int a4)] := hl
  refine w_pc 0 rfl ?_
  refine lv_iconst (v := 0) hx hb dX0_exchangers_0 (by decide) ?_
  refine lv_istore (lv' := [(5, .int (0 : Int32)), (0, .ref (ad 275)), (1, .ref (ad 1)), (2, .ref (ad (22 + i2))), (3, .int a3), (4, .int a4)]) hx hb dX0_exchangers_1 hl (by decide) rfl (fun ls hl => ?_)
  exact lp3 FU (0 : Int32) ls _ _ (lv_sub hl [2, 3, 4, 5, 0] rfl) h hP hS
def fX0_outcomeOf_167 (i2 : Nat) (a3 : Int32) (a4 : Int32) (KR : Int32 → Int32 → Mm → Option (Int32 × Mm)) (s0 : Int32) (M : Mm) : Option (Int32 × Mm) :=
  bn1 (fX0_matchIf s0) (fun v167 => some (v167, M))
def fX0_outcomeOf_162 (i2 : Nat) (a3 : Int32) (a4 : Int32) (KR : Int32 → Int32 → Mm → Option (Int32 × Mm)) (M : Mm) : Option (Int32 × Mm) :=
  fX0_outcomeOf_167 i2 a3 a4 KR (1 : Int32) M
def fX0_outcomeOf_111 (i2 : Nat) (a3 : Int32) (a4 : Int32) (KR : Int32 → Int32 → Mm → Option (Int32 × Mm)) (x5 : Int32) (x7 : Int32) (sj0 : Nat) (M : Mm) : Option (Int32 × Mm) :=
  if (M (22 + sj0) 1) = 0 then (bn2 (fX0_empty M) (fun v122 M122 => some (v122, M122))) else (if x5 = (3 : Int32) then (bn1 (fX0_exchangers sj0 a4 x7 M) (fun v140 => some (v140, M))) else (if x5 = (5 : Int32) then (fX0_outcomeOf_162 i2 a3 a4 KR M) else (bn1 (fX2_holdOneLike sj0 a4 x7 M) (fun v156 => if v156 = 0 then (fX0_outcomeOf_167 i2 a3 a4 KR (0 : Int32) M) else (fX0_outcomeOf_162 i2 a3 a4 KR M)))))
def fX0_outcomeOf (KR : Int32 → Int32 → Mm → Option (Int32 × Mm)) (i2 : Nat) (a3 : Int32) (a4 : Int32) (M : Mm) : Option (Int32 × Mm) :=
  grd (gin a3 6) (nm (M (142 + i2) a3.toNatClampNeg) (fun v6 => grd (gin a3 6) (nm (M (162 + i2) a3.toNatClampNeg) (fun v14 => grd (gin a3 6) (nm (M (182 + i2) a3.toNatClampNeg) (fun v22 => if v6 = 0 then (some ((1 : Int32), M)) else (if v6 = (1 : Int32) then (bn1 (fX10_agree v14 a4 v22) (fun v43 => bn1 (fX0_matchIf v43) (fun v46 => some (v46, M)))) else (bn2 (fX0_isLookupTooMany M) (fun v51 M51 => if v51 = 0 then (if v6 = (4 : Int32) then (bn2 (fX0_including KR v14 a4 M51) (fun v72 M72 => some (v72, M72))) else (grd (gin v14 20) (if (M51 (2 + v14.toNatClampNeg) 2) = 0 then (if v6 = (3 : Int32) then (grd (gin v14 20) (fX0_outcomeOf_111 i2 a3 a4 KR v6 v22 (2 * v14.toNatClampNeg + 1) M51)) else (grd (gin v14 20) (fX0_outcomeOf_111 i2 a3 a4 KR v6 v22 (2 * v14.toNatClampNeg) M51))) else (some ((5 : Int32), M51))))) else (some ((6 : Int32), M51)))))))))))
set_option maxRecDepth 100000 in
set_option maxHeartbeats 4000000 in
theorem kX0_outcomeOf (l : Launch) (D : va_G) (ad : Nat → Nat) (cA : Nat → ClassId) (A : Nat → Prop) (d : Nat) (KR : Int32 → Int32 → Mm → Option (Int32 × Mm)) (hKR : ∀ {a2 a3 : Int32} {M M1 : Mm} {r : Int32}, KR a2 a3 M = some (r, M1) → Met l yX0_resultBy wsX0_resultBy (rmX0_resultBy d) (gPc D (tyM cA) 289 (layM ad cA) ad A M [.ref (ad 275), .ref (ad 1), .int a2, .int a3]) (gQi D 289 (layM ad cA) ad A M1 r) 0 0 A) {i2 : Nat} {a3 : Int32} {a4 : Int32} {M M1 : Mm} {r : Int32} (hi2 : i2 < 20) (h : fX0_outcomeOf KR i2 a3 a4 M = some (r, M1)) : Met l yX0_outcomeOf wsX0_outcomeOf (rmX0_outcomeOf d) (gPc D (tyM cA) 289 (layM ad cA) ad A M [.ref (ad 275), .ref (ad 1), .ref (ad (102 + i2)), .int a3, .int a4]) (gQi D 289 (layM ad cA) ad A M1 r) 0 0 A := by
  refine Met.ofW (cc := cX0_outcomeOf) (maxL := 9) (ret := (some .int)) (by decide) rfl ?_
  intro p e s m args below meth c s₁ B hml hv
  obtain ⟨ha, hP, hK, hD, hN⟩ := hv
  have hx := B.exec
  have hb := B.bytes
  have hr := B.returns
  have hlk := B.notSynchronized
  have hts : ∀ w ∈ lw_g, w.before args s = true := fun w h => atoms_spec (ws := wsX0_outcomeOf) B.pre w (List.mem_cons_of_mem _ h)
  have hown : s.vm.findClass RX0 = some m.cls := findClass_of_methodNamed B.named
  have hS : va_S A s.heap s.heap [] := va_S.rf
  unfold fX0_outcomeOf at h
  have w58 := hts _ wm106
  have w61 := hts _ wm108
  have w64 := hts _ wm110
  have w22 := hts _ wm157
  have w78 := hts _ wm164
  have w82 := hts _ wm161
  have w85 := hts _ wm86
  have bk167 : ∀ (s0 : Int32) (M : Mm) (ls : Array Slot) (H : Heap) (locs : List Loc), lv_has ls 9 [] → fX0_outcomeOf_167 i2 a3 a4 KR s0 M = some (r, M1) → va_P D vwCl (gw 289 (layM ad cA) ad M) H → va_S A s.heap H locs → W p l e (headSpec wsX0_outcomeOf (rmX0_outcomeOf d)).room s m args below meth c H locs 0 0 (MQ below (gQi D 289 (layM ad cA) ad A M1 r) args s 0 0 A) (F0 m 167 ls [.int s0]) := by
    intro s0 M ls H locs hl h hP hS
    unfold fX0_outcomeOf_167 at h
    refine w_pc 167 rfl ?_
    refine w_pc 167 rfl ?_
    obtain ⟨v167, c167, h⟩ := bn1_some h
    refine cl_i (rn_s (As := [.int s0]) (rest := []) ⟨hx, hb, hml, hown, hts⟩ (kX0_matchIf l D ad cA A (M := M) c167) ⟨callB_of 1 hts (gdc wm616) rfl rfl rfl (hts _ wm59) (hts _ wm614) hdX0_matchIf ⟨show 0 + 1 ≤ 3 * d + 8 by omega, show 8 + (1 + 11) + (0) ≤ 103 * d + 451 by omega⟩, hts _ wm615⟩ hK hP hD hN rfl hl.1 rfl (lv_room (Nat.le_of_ble_eq_true rfl)) dX0_outcomeOf_167) hS (fun H locs hP hS => ?_)
    refine w_pc 170 rfl ?_
    exact re_i hx hb hr hlk h hP hS dX0_outcomeOf_170
  have bk162 : ∀ (M : Mm) (ls : Array Slot) (H : Heap) (locs : List Loc), lv_has ls 9 [] → fX0_outcomeOf_162 i2 a3 a4 KR M = some (r, M1) → va_P D vwCl (gw 289 (layM ad cA) ad M) H → va_S A s.heap H locs → W p l e (headSpec wsX0_outcomeOf (rmX0_outcomeOf d)).room s m args below meth c H locs 0 0 (MQ below (gQi D 289 (layM ad cA) ad A M1 r) args s 0 0 A) (F0 m 162 ls []) := by
    intro M ls H locs hl h hP hS
    unfold fX0_outcomeOf_162 at h
    refine w_pc 162 rfl ?_
    refine lv_iconst (v := 1) hx hb dX0_outcomeOf_162 (by decide) ?_
    refine lv_goto (tgt := 167) hx hb dX0_outcomeOf_163 (by decide) ?_
    exact bk167 (1 : Int32) M ls _ _ (lv_sub hl [] rfl) h hP hS
  have bk111 : ∀ (x5 : Int32) (x7 : Int32) (sj0 : Nat) (M : Mm) (ls : Array Slot) (H : Heap) (locs : List Loc), sj0 < 40 → lv_has ls 9 [(0, .ref (ad 275)), (1, .ref (ad 1)), (4, .int a4), (5, .int x5), (7, .int x7)] → fX0_outcomeOf_111 i2 a3 a4 KR x5 x7 sj0 M = some (r, M1) → va_P D vwCl (gw 289 (layM ad cA) ad M) H → va_S A s.heap H locs → W p l e (headSpec wsX0_outcomeOf (rmX0_outcomeOf d)).room s m args below meth c H locs 0 0 (MQ below (gQi D 289 (layM ad cA) ad A M1 r) args s 0 0 A) (F0 m 111 ls [.ref (ad (22 + sj0))]) := by
    intro x5 x7 sj0 M ls H locs hbsj0 hl h hP hS
    unfold fX0_outcomeOf_111 at h
    refine w_pc 111 rfl ?_
    refine lv_astore (lv' := [(8, .ref (ad (22 + sj0))), (0, .ref (ad 275)), (1, .ref (ad 1)), (4, .int a4), (5, .int x5), (7, .int x7)]) hx hb dX0_outcomeOf_111 hl (by decide) rfl (fun ls hl => ?_)
    refine lv_aload hx hb dX0_outcomeOf_113 (lv_at hl 0 rfl) ?_
    refine gw_get (C := RX2) (T := TX2) (N := 2) (v := .int (M (22 + sj0) 1)) hx hb hts hinX2 hown hK hP (by omega) (lyMHosts (by omega)) rfl 1 (by decide) w85 (fun _ h9 => h9) rfl dX0_outcomeOf_115 ?_
    refine w_pc 118 rfl ?_
    refine lv_if_ne (tgt := 126) hx hb dX0_outcomeOf_118 (by decide) (fun q118 => ?_) (fun q118 => ?_)
    · replace h := (if_neg q118).symm.trans h
      refine w_pc 126 rfl ?_
      refine lv_iload hx hb dX0_outcomeOf_126 (lv_at hl 4 rfl) ?_
      refine lv_iconst (v := 3) hx hb dX0_outcomeOf_128 (by decide) ?_
      refine w_pc 129 rfl ?_
      refine lv_icmp_ne (tgt := 144) hx hb dX0_outcomeOf_129 (by decide) (fun q129 => ?_) (fun q129 => ?_)
      · replace h := (if_neg q129).symm.trans h
        refine w_pc 144 rfl ?_
        refine lv_iload hx hb dX0_outcomeOf_144 (lv_at hl 4 rfl) ?_
        refine lv_iconst (v := 5) hx hb dX0_outcomeOf_146 (by decide) ?_
        refine w_pc 147 rfl ?_
        refine lv_icmp_eq (tgt := 162) hx hb dX0_outcomeOf_147 (by decide) (fun q147 => ?_) (fun q147 => ?_)
        · replace h := (if_pos q147).symm.trans h
          refine w_pc 162 rfl ?_
          exact bk162 M ls _ _ (lv_sub hl [] rfl) h hP hS
        · replace h := (if_neg q147).symm.trans h
          refine w_pc 150 rfl ?_
          refine lv_aload hx hb dX0_outcomeOf_150 (lv_at hl 0 rfl) ?_
          refine lv_iload hx hb dX0_outcomeOf_152 (lv_at hl 3 rfl) ?_
          refine lv_iload hx hb dX0_outcomeOf_154 (lv_at hl 5 rfl) ?_
          refine w_pc 156 rfl ?_
          obtain ⟨v156, c156, h⟩ := bn1_some h
          refine cl_i (rn_v (As := [.int a4, .int x7]) (rest := []) ⟨hx, hb, hml, hown, hts⟩ (kX2_holdOneLike l D ad cA A (by omega) c156) ⟨callB_of 2 hts (gdc wm636) rfl rfl rfl (hts _ wm52) (hts _ wm633) hdX2_holdOneLike ⟨show 1 + 1 ≤ 3 * d + 8 by omega, show 8 + (4 + 11) + (22) ≤ 103 * d + 451 by omega⟩, hts _ wm634, hts _ wm635⟩ hK hP hD hN (by omega) (lyMHosts (by omega)) rfl rfl hl.1 rfl (lv_room (Nat.le_of_ble_eq_true rfl)) dX0_outcomeOf_156) hS (fun H locs hP hS => ?_)
          refine w_pc 159 rfl ?_
          refine w_pc 159 rfl ?_
          refine lv_if_eq (tgt := 166) hx hb dX0_outcomeOf_159 (by decide) (fun q159 => ?_) (fun q159 => ?_)
          · replace h := (if_pos q159).symm.trans h
            refine w_pc 166 rfl ?_
            refine lv_iconst (v := 0) hx hb dX0_outcomeOf_166 (by decide) ?_
            exact bk167 (0 : Int32) M ls _ _ (lv_sub hl [] rfl) h hP hS
          · replace h := (if_neg q159).symm.trans h
            refine w_pc 162 rfl ?_
            exact bk162 M ls _ _ (lv_sub hl [] rfl) h hP hS
      · replace h := (if_pos q129).symm.trans h
        refine w_pc 132 rfl ?_
        refine lv_aload_n hx hb dX0_outcomeOf_132 rfl (lv_at hl 1 rfl) ?_
        refine lv_aload_n hx hb dX0_outcomeOf_133 rfl (lv_at hl 2 rfl) ?_
        refine lv_aload hx hb dX0_outcomeOf_134 (lv_at hl 0 rfl) ?_
        refine lv_iload hx hb dX0_outcomeOf_136 (lv_at hl 3 rfl) ?_
        refine lv_iload hx hb dX0_outcomeOf_138 (lv_at hl 5 rfl) ?_
        refine w_pc 140 rfl ?_
        obtain ⟨v140, c140, h⟩ := bn1_some h
        refine cl_i (rn_v (As := [.ref (ad 1), .ref (ad (22 + sj0)), .int a4, .int x7]) (rest := []) ⟨hx, hb, hml, hown, hts⟩ (kX0_exchangers l D ad cA A (by omega) c140) ⟨callB_of 4 hts (gdc wm632) rfl rfl rfl (hts _ wm59) (hts _ wm629) hdX0_exchangers ⟨show 2 + 1 ≤ 3 * d + 8 by omega, show 8 + (7 + 11) + (45) ≤ 103 * d + 451 by omega⟩, hts _ wm631, hts _ wm11⟩ hK hP hD hN (by omega) lyMChk rfl rfl hl.1 rfl (lv_room (Nat.le_of_ble_eq_true rfl)) dX0_outcomeOf_140) hS (fun H locs hP hS => ?_)
        refine w_pc 143 rfl ?_
        exact re_i hx hb hr hlk h hP hS dX0_outcomeOf_143
    · replace h := (if_pos q118).symm.trans h
      refine w_pc 121 rfl ?_
      refine lv_aload_n hx hb dX0_outcomeOf_121 rfl (lv_at hl 1 rfl) ?_
      refine w_pc 122 rfl ?_
      obtain ⟨v122, M122, c122, h⟩ := bn2_some h
      refine cl_i (rn_v (As := []) (rest := []) ⟨hx, hb, hml, hown, hts⟩ (kX0_empty l D ad cA A c122) ⟨callB_of 0 hts (gdc wm628) rfl rfl rfl (hts _ wm59) (hts _ wm625) hdX0_empty ⟨show 0 + 1 ≤ 3 * d + 8 by omega, show 8 + (1 + 11) + (0) ≤ 103 * d + 451 by omega⟩, hts _ wm627, hts _ wm10⟩ hK hP hD hN (by omega) lyMChk rfl rfl hl.1 rfl (lv_room (Nat.le_of_ble_eq_true rfl)) dX0_outcomeOf_122) hS (fun H locs hP hS => ?_)
      refine w_pc 125 rfl ?_
      exact re_i hx hb hr hlk h hP hS dX0_outcomeOf_125
  refine w_entry ha (Nat.le_of_ble_eq_true rfl) (fun ls hl => ?_)
  have hl : lv_has ls 9 [(0, .ref (ad 275)), (1, .ref (ad 1)), (2, .ref (ad (102 + i2))), (3, .int a3), (4, .int a4)] := hl
  refine w_pc 0 rfl ?_
  refine lv_aload_n hx hb dX0_outcomeOf_0 rfl (lv_at hl 2 rfl) ?_
  refine gw_get (C := RX7) (T := TX7) (N := 7) (v := .ref (ad (142 + i2))) hx hb hts hinX7 hown hK hP (by omega) (lyMRule (by omega)) rfl 3 (by decide) w58 (fun _ h9 => h9) rfl dX0_outcomeOf_1 ?_
  refine lv_iload_n hx hb dX0_outcomeOf_4 rfl (lv_at hl 3 rfl) ?_
  obtain ⟨g5, h⟩ := gd_in h
  refine gw_iald hx hb hK hP 0 (by omega) (lyMaKd (by omega)) rfl g5 dX0_outcomeOf_5 ?_
  obtain ⟨v6, e6, h⟩ := nm_some h
  refine w_ti e6 ?_
  refine lv_istore (lv' := [(5, .int v6), (0, .ref (ad 275)), (1, .ref (ad 1)), (2, .ref (ad (102 + i2))), (3, .int a3), (4, .int a4)]) hx hb dX0_outcomeOf_6 hl (by decide) rfl (fun ls hl => ?_)
  refine lv_aload_n hx hb dX0_outcomeOf_8 rfl (lv_at hl 3 rfl) ?_
  refine gw_get (C := RX7) (T := TX7) (N := 7) (v := .ref (ad (162 + i2))) hx hb hts hinX7 hown hK hP (by omega) (lyMRule (by omega)) rfl 4 (by decide) w61 (fun _ h9 => h9) rfl dX0_outcomeOf_9 ?_
  refine w_pc 12 rfl ?_
  refine lv_iload_n hx hb dX0_outcomeOf_12 rfl (lv_at hl 4 rfl) ?_
  obtain ⟨g13, h⟩ := gd_in h
  refine gw_iald hx hb hK hP 0 (by omega) (lyMaVl (by omega)) rfl g13 dX0_outcomeOf_13 ?_
  obtain ⟨v14, e14, h⟩ := nm_some h
  refine w_ti e14 ?_
  refine lv_istore (lv' := [(6, .int v14), (5, .int v6), (0, .ref (ad 275)), (1, .ref (ad 1)), (2, .ref (ad (102 + i2))), (3, .int a3), (4, .int a4)]) hx hb dX0_outcomeOf_14 hl (by decide) rfl (fun ls hl => ?_)
  refine lv_aload_n hx hb dX0_outcomeOf_16 rfl (lv_at hl 4 rfl) ?_
  refine gw_get (C := RX7) (T := TX7) (N := 7) (v := .ref (ad (182 + i2))) hx hb hts hinX7 hown hK hP (by omega) (lyMRule (by omega)) rfl 5 (by decide) w64 (fun _ h9 => h9) rfl dX0_outcomeOf_17 ?_
  refine lv_iload_n hx hb dX0_outcomeOf_20 rfl (lv_at hl 5 rfl) ?_
  obtain ⟨g21, h⟩ := gd_in h
  refine gw_iald hx hb hK hP 0 (by omega) (lyMaLn (by omega)) rfl g21 dX0_outcomeOf_21 ?_
  obtain ⟨v22, e22, h⟩ := nm_some h
  refine w_ti e22 ?_
  refine lv_istore (lv' := [(7, .int v22), (6, .int v14), (5, .int v6), (0, .ref (ad 275)), (1, .ref (ad 1)), (2, .ref (ad (102 + i2))), (3, .int a3), (4, .int a4)]) hx hb dX0_outcomeOf_22 hl (by decide) rfl (fun ls hl => ?_)
  refine w_pc 24 rfl ?_
  refine lv_iload hx hb dX0_outcomeOf_24 (lv_at hl 2 rfl) ?_
  refine w_pc 26 rfl ?_
  refine lv_if_ne (tgt := 31) hx hb dX0_outcomeOf_26 (by decide) (fun q26 => ?_) (fun q26 => ?_)
  · replace h := (if_neg q26).symm.trans h
    refine w_pc 31 rfl ?_
    refine lv_iload hx hb dX0_outcomeOf_31 (lv_at hl 2 rfl) ?_
    refine lv_iconst (v := 1) hx hb dX0_outcomeOf_33 (by decide) ?_
    refine w_pc 34 rfl ?_
    refine lv_icmp_ne (tgt := 50) hx hb dX0_outcomeOf_34 (by decide) (fun q34 => ?_) (fun q34 => ?_)
    · replace h := (if_neg q34).symm.trans h
      refine w_pc 50 rfl ?_
      refine lv_aload_n hx hb dX0_outcomeOf_50 rfl (lv_at hl 3 rfl) ?_
      refine w_pc 51 rfl ?_
      obtain ⟨v51, M51, c51, h⟩ := bn2_some h
      refine cl_i (rn_v (As := []) (rest := []) ⟨hx, hb, hml, hown, hts⟩ (kX0_isLookupTooMany l D ad cA A c51) ⟨callB_of 0 hts (gdc wm620) rfl rfl rfl (hts _ wm59) (hts _ wm617) hdX0_isLookupTooMany ⟨show 0 + 1 ≤ 3 * d + 8 by omega, show 8 + (1 + 11) + (0) ≤ 103 * d + 451 by omega⟩, hts _ wm619, hts _ wm8⟩ hK hP hD hN (by omega) lyMChk rfl rfl hl.1 rfl (lv_room (Nat.le_of_ble_eq_true rfl)) dX0_outcomeOf_51) hS (fun H locs hP hS => ?_)
      refine w_pc 54 rfl ?_
      refine w_pc 54 rfl ?_
      refine lv_if_eq (tgt := 60) hx hb dX0_outcomeOf_54 (by decide) (fun q54 => ?_) (fun q54 => ?_)
      · replace h := (if_pos q54).symm.trans h
        refine w_pc 60 rfl ?_
        refine lv_iload hx hb dX0_outcomeOf_60 (lv_at hl 2 rfl) ?_
        refine lv_iconst (v := 4) hx hb dX0_outcomeOf_62 (by decide) ?_
        refine w_pc 63 rfl ?_
        refine lv_icmp_ne (tgt := 76) hx hb dX0_outcomeOf_63 (by decide) (fun q63 => ?_) (fun q63 => ?_)
        · replace h := (if_neg q63).symm.trans h
          refine w_pc 76 rfl ?_
          refine lv_aload_n hx hb dX0_outcomeOf_76 rfl (lv_at hl 4 rfl) ?_
          refine lv_iload hx hb dX0_outcomeOf_77 (lv_at hl 1 rfl) ?_
          obtain ⟨g79, h⟩ := gd_in h
          have b79 := some_lo g79
          refine gw_aald hx hb hK hP 2 (by omega) lyMaDom rfl g79 dX0_outcomeOf_79 ?_
          refine gw_get (C := RX1) (T := TX1) (N := 8) (v := .int (M51 (2 + v14.toNatClampNeg) 2)) hx hb hts hinX1 hown hK hP (by omega) (lyMDom (by omega)) rfl 2 (by decide) w22 (fun _ h9 => h9) rfl dX0_outcomeOf_80 ?_
          refine w_pc 83 rfl ?_
          refine lv_if_eq (tgt := 88) hx hb dX0_outcomeOf_83 (by decide) (fun q83 => ?_) (fun q83 => ?_)
          · replace h := (if_pos q83).symm.trans h
            refine w_pc 88 rfl ?_
            refine lv_iload hx hb dX0_outcomeOf_88 (lv_at hl 2 rfl) ?_
            refine lv_iconst (v := 3) hx hb dX0_outcomeOf_90 (by decide) ?_
            refine w_pc 91 rfl ?_
            refine lv_icmp_ne (tgt := 104) hx hb dX0_outcomeOf_91 (by decide) (fun q91 => ?_) (fun q91 => ?_)
            · replace h := (if_neg q91).symm.trans h
              refine w_pc 104 rfl ?_
              refine lv_aload_n hx hb dX0_outcomeOf_104 rfl (lv_at hl 4 rfl) ?_
              refine lv_iload hx hb dX0_outcomeOf_105 (lv_at hl 1 rfl) ?_
              obtain ⟨g107, h⟩ := gd_in h
              have b107 := some_lo g107
              refine gw_aald hx hb hK hP 2 (by omega) lyMaDom rfl g107 dX0_outcomeOf_107 ?_
              refine gw_get (C := RX1) (T := TX1) (N := 8) (v := .ref (ad (22 + (2 * v14.toNatClampNeg)))) hx hb hts hinX1 hown hK hP (by omega) (lyMDom (by omega)) rfl 3 (by decide) w82 (fun _ h9 => h9) rfl dX0_outcomeOf_108 ?_
              exact bk111 v6 v22 (2 * v14.toNatClampNeg) M51 ls _ _ (by omega) (lv_sub hl [3, 4, 7, 2, 0] rfl) h hP hS
            · replace h := (if_pos q91).symm.trans h
              refine w_pc 94 rfl ?_
              refine lv_aload_n hx hb dX0_outcomeOf_94 rfl (lv_at hl 4 rfl) ?_
              refine lv_iload hx hb dX0_outcomeOf_95 (lv_at hl 1 rfl) ?_
              obtain ⟨g97, h⟩ := gd_in h
              have b97 := some_lo g97
              refine gw_aald hx hb hK hP 2 (by omega) lyMaDom rfl g97 dX0_outcomeOf_97 ?_
              refine gw_get (C := RX1) (T := TX1) (N := 8) (v := .ref (ad (22 + (2 * v14.toNatClampNeg + 1)))) hx hb hts hinX1 hown hK hP (by omega) (lyMDom (by omega)) rfl 4 (by decide) w78 (fun _ h9 => h9) rfl dX0_outcomeOf_98 ?_
              refine lv_goto (tgt := 111) hx hb dX0_outcomeOf_101 (by decide) ?_
              exact bk111 v6 v22 (2 * v14.toNatClampNeg + 1) M51 ls _ _ (by omega) (lv_sub hl [3, 4, 7, 2, 0] rfl) h hP hS
          · replace h := (if_neg q83).symm.trans h
            refine w_pc 86 rfl ?_
            refine lv_iconst (v := 5) hx hb dX0_outcomeOf_86 (by decide) ?_
            exact re_i hx hb hr hlk h hP hS dX0_outcomeOf_87
        · replace h := (if_pos q63).symm.trans h
          refine w_pc 66 rfl ?_
          refine lv_aload_n hx hb dX0_outcomeOf_66 rfl (lv_at hl 3 rfl) ?_
          refine lv_aload_n hx hb dX0_outcomeOf_67 rfl (lv_at hl 4 rfl) ?_
          refine lv_iload hx hb dX0_outcomeOf_68 (lv_at hl 1 rfl) ?_
          refine lv_iload hx hb dX0_outcomeOf_70 (lv_at hl 7 rfl) ?_
          refine w_pc 72 rfl ?_
          obtain ⟨v72, M72, c72, h⟩ := bn2_some h
          refine cl_i (rn_v (As := [.ref (ad 1), .int v14, .int a4]) (rest := []) ⟨hx, hb, hml, hown, hts⟩ (kX0_including l D ad cA A d KR hKR c72) ⟨callB_of 3 hts (gdc wm624) rfl rfl rfl (hts _ wm59) (hts _ wm621) hdX0_including ⟨show 3 * d + 7 + 1 ≤ 3 * d + 8 by omega, show 8 + (6 + 11) + (103 * d + 426) ≤ 103 * d + 451 by omega⟩, hts _ wm623, hts _ wm9⟩ hK hP hD hN (by omega) lyMChk rfl rfl hl.1 rfl (lv_room (Nat.le_of_ble_eq_true rfl)) dX0_outcomeOf_72) hS (fun H locs hP hS => ?_)
          refine w_pc 75 rfl ?_
          exact re_i hx hb hr hlk h hP hS dX0_outcomeOf_75
      · replace h := (if_neg q54).symm.trans h
        refine w_pc 57 rfl ?_
        refine lv_bipush (v := 6) hx hb dX0_outcomeOf_57 (by decide) ?_
        exact re_i hx hb hr hlk h hP hS dX0_outcomeOf_59
    · replace h := (if_pos q34).symm.trans h
      refine w_pc 37 rfl ?_
      refine lv_iload hx hb dX0_outcomeOf_37 (lv_at hl 1 rfl) ?_
      refine lv_iload hx hb dX0_outcomeOf_39 (lv_at hl 7 rfl) ?_
      refine lv_iload hx hb dX0_outcomeOf_41 (lv_at hl 0 rfl) ?_
      refine w_pc 43 rfl ?_
      obtain ⟨v43, c43, h⟩ := bn1_some h
      refine cl_i (rn_sN (As := [.int v14, .int a4, .int v22]) (rest := []) ⟨hx, hb, hml, hown, hts⟩ (kX10_agree l D ad cA A (M := M) c43) ⟨va_cnB 3 hts (gdc wm613) rfl rfl rfl (hN _ nw16) (hts _ wm50) hdX10_agree ⟨show 0 + 1 ≤ 3 * d + 8 by omega, show 8 + (3 + 11) + (0) ≤ 103 * d + 451 by omega⟩, hts _ wm612, trivial⟩ hK hP hD hN rfl hl.1 rfl (lv_room (Nat.le_of_ble_eq_true rfl)) dX0_outcomeOf_43) hS (fun H locs hP hS => ?_)
      refine w_pc 46 rfl ?_
      refine w_pc 46 rfl ?_
      obtain ⟨v46, c46, h⟩ := bn1_some h
      refine cl_i (rn_s (As := [.int v43]) (rest := []) ⟨hx, hb, hml, hown, hts⟩ (kX0_matchIf l D ad cA A (M := M) c46) ⟨callB_of 1 hts (gdc wm616) rfl rfl rfl (hts _ wm59) (hts _ wm614) hdX0_matchIf ⟨show 0 + 1 ≤ 3 * d + 8 by omega, show 8 + (1 + 11) + (0) ≤ 103 * d + 451 by omega⟩, hts _ wm615⟩ hK hP hD hN rfl hl.1 rfl (lv_room (Nat.le_of_ble_eq_true rfl)) dX0_outcomeOf_46) hS (fun H locs hP hS => ?_)
      refine w_pc 49 rfl ?_
      exact re_i hx hb hr hlk h hP hS dX0_outcomeOf_49
  · replace h := (if_pos q26).symm.trans h
    refine w_pc 29 rfl ?_
    refine lv_iconst (v := 1) hx hb dX0_outcomeOf_29 (by decide) ?_
    exact re_i hx hb hr hlk h hP hS dX0_outcomeOf_30
def fX0_redirected (KR : Int32 → Int32 → Mm → Option (Int32 × Mm)) (a2 : Int32) (a3 : Int32) (M : Mm) : Option (Int32 × Mm) :=
  bn2 (fX0_isLookupTooMany M) (fun v1 M1 => if v1 = 0 then (bn2 (KR a2 a3 M1) (fun v14 M14 => if v14 = 0 then (some ((6 : Int32), M14)) else (some (v14, M14)))) else (some ((6 : Int32), M1)))
set_option maxRecDepth 100000 in
set_option maxHeartbeats 4000000 in
theorem kX0_redirected (l : Launch) (D : va_G) (ad : Nat → Nat) (cA : Nat → ClassId) (A : Nat → Prop) (d : Nat) (KR : Int32 → Int32 → Mm → Option (Int32 × Mm)) (hKR : ∀ {a2 a3 : Int32} {M M1 : Mm} {r : Int32}, KR a2 a3 M = some (r, M1) → Met l yX0_resultBy wsX0_resultBy (rmX0_resultBy d) (gPc D (tyM cA) 289 (layM ad cA) ad A M [.ref (ad 275), .ref (ad 1), .int a2, .int a3]) (gQi D 289 (layM ad cA) ad A M1 r) 0 0 A) {a2 : Int32} {a3 : Int32} {M M1 : Mm} {r : Int32} (h : fX0_redirected KR a2 a3 M = some (r, M1)) : Met l yX0_redirected wsX0_redirected (rmX0_redirected d) (gPc D (tyM cA) 289 (layM ad cA) ad A M [.ref (ad 275), .ref (ad 1), .int a2, .int a3]) (gQi D 289 (layM ad cA) ad A M1 r) 0 0 A := by
  refine Met.ofW (cc := cX0_redirected) (maxL := 5) (ret := (some .int)) (by decide) rfl ?_
  intro p e s m args below meth c s₁ B hml hv
  obtain ⟨ha, hP, hK, hD, hN⟩ := hv
  have hx := B.exec
  have hb := B.bytes
  have hr := B.returns
  have hlk := B.notSynchronized
  have hts : ∀ w ∈ lw_g, w.before args s = true := fun w h => atoms_spec (ws := wsX0_redirected) B.pre w (List.mem_cons_of_mem _ h)
  have hown : s.vm.findClass RX0 = some m.cls := findClass_of_methodNamed B.named
  have hS : va_S A s.heap s.heap [] := va_S.rf
  unfold fX0_redirected at h
  refine w_entry ha (Nat.le_of_ble_eq_true rfl) (fun ls hl => ?_)
  have hl : lv_has ls 5 [(0, .ref (ad 275)), (1, .ref (ad 1)), (2, .int a2), (3, .int a3)] := hl
  refine w_pc 0 rfl ?_
  refine lv_aload_n hx hb dX0_redirected_0 rfl (lv_at hl 0 rfl) ?_
  refine w_pc 1 rfl ?_
  obtain ⟨v1, M1, c1, h⟩ := bn2_some h
  refine cl_i (rn_v (As := []) (rest := []) ⟨hx, hb, hml, hown, hts⟩ (kX0_isLookupTooMany l D ad cA A c1) ⟨callB_of 0 hts (gdc wm620) rfl rfl rfl (hts _ wm59) (hts _ wm617) hdX0_isLookupTooMany ⟨show 0 + 1 ≤ 3 * d + 7 by omega, show 8 + (1 + 11) + (0) ≤ 103 * d + 426 by omega⟩, hts _ wm619, hts _ wm8⟩ hK hP hD hN (by omega) lyMChk rfl rfl hl.1 rfl (lv_room (Nat.le_of_ble_eq_true rfl)) dX0_redirected_1) hS (fun H locs hP hS => ?_)
  refine w_pc 4 rfl ?_
  refine w_pc 4 rfl ?_
  refine lv_if_eq (tgt := 10) hx hb dX0_redirected_4 (by decide) (fun q4 => ?_) (fun q4 => ?_)
  · replace h := (if_pos q4).symm.trans h
    refine w_pc 10 rfl ?_
    refine lv_aload_n hx hb dX0_redirected_10 rfl (lv_at hl 0 rfl) ?_
    refine lv_aload_n hx hb dX0_redirected_11 rfl (lv_at hl 1 rfl) ?_
    refine lv_iload_n hx hb dX0_redirected_12 rfl (lv_at hl 2 rfl) ?_
    refine lv_iload_n hx hb dX0_redirected_13 rfl (lv_at hl 3 rfl) ?_
    refine w_pc 14 rfl ?_
    obtain ⟨v14, M14, c14, h⟩ := bn2_some h
    refine cl_i (rn_v (As := [.ref (ad 1), .int a2, .int a3]) (rest := []) ⟨hx, hb, hml, hown, hts⟩ (hKR c14) ⟨callB_of 3 hts (gdc wm606) rfl rfl rfl (hts _ wm59) (hts _ wm603) hdX0_resultBy ⟨show 3 * d + 6 + 1 ≤ 3 * d + 7 by omega, show 8 + (7 + 11) + (103 * d + 400) ≤ 103 * d + 426 by omega⟩, hts _ wm605, hts _ wm6⟩ hK hP hD hN (by omega) lyMChk rfl rfl hl.1 rfl (lv_room (Nat.le_of_ble_eq_true rfl)) dX0_redirected_14) hS (fun H locs hP hS => ?_)
    refine w_pc 17 rfl ?_
    refine lv_istore (lv' := [(4, .int v14), (0, .ref (ad 275)), (1, .ref (ad 1)), (2, .int a2), (3, .int a3)]) hx hb dX0_redirected_17 hl (by decide) rfl (fun ls hl => ?_)
    refine lv_iload hx hb dX0_redirected_19 (lv_at hl 0 rfl) ?_
    refine w_pc 21 rfl ?_
    refine lv_if_ne (tgt := 29) hx hb dX0_redirected_21 (by decide) (fun q21 => ?_) (fun q21 => ?_)
    · replace h := (if_neg q21).symm.trans h
      refine w_pc 29 rfl ?_
      refine lv_iload hx hb dX0_redirected_29 (lv_at hl 0 rfl) ?_
      exact re_i hx hb hr hlk h hP hS dX0_redirected_31
    · replace h := (if_pos q21).symm.trans h
      refine w_pc 24 rfl ?_
      refine lv_bipush (v := 6) hx hb dX0_redirected_24 (by decide) ?_
      refine lv_goto (tgt := 31) hx hb dX0_redirected_26 (by decide) ?_
      exact re_i hx hb hr hlk h hP hS dX0_redirected_31
  · replace h := (if_neg q4).symm.trans h
    refine w_pc 7 rfl ?_
    refine lv_bipush (v := 6) hx hb dX0_redirected_7 (by decide) ?_
    exact re_i hx hb hr hlk h hP hS dX0_redirected_9
def fX0_resultBy_32 (a2 : Int32) (a3 : Int32) (KR : Int32 → Int32 → Mm → Option (Int32 × Mm)) : Nat → Nat → Int32 → Mm → Option (Int32 × Mm)
  | 0, _, _, _ => none
  | n + 1, j4, x5, M => if (M (102 + j4) 1) ≤ x5 then (if (M (102 + j4) 6) = (-1 : Int32) then (some ((4 : Int32), M)) else (bn2 (fX0_redirected KR (M (102 + j4) 6) a3 M) (fun v106 M106 => some (v106, M106)))) else (bn2 (fX0_outcomeOf KR j4 x5 a3 M) (fun v49 M49 => if v49 = (1 : Int32) then (grd (gin x5 6) (some (((1 : Int32) + (M49 (122 + j4) x5.toNatClampNeg)), M49))) else (if v49 = 0 then ((fX0_resultBy_32 a2 a3 KR n) j4 (x5 + 1) M49) else (some (v49, M49)))))
def fX0_resultByB (KR : Int32 → Int32 → Mm → Option (Int32 × Mm)) (a2 : Int32) (a3 : Int32) (M : Mm) : Option (Int32 × Mm) :=
  grd (gin a2 20) (if (M (2 + a2.toNatClampNeg) 2) = 0 then (grd (gin a2 20) (if (M (102 + a2.toNatClampNeg) 0) = 0 then (some ((0 : Int32), M)) else (fX0_resultBy_32 a2 a3 KR FU a2.toNatClampNeg (0 : Int32) M))) else (some ((5 : Int32), M)))
def fX0_resultBy : Nat → Int32 → Int32 → Mm → Option (Int32 × Mm)
  | 0, _, _, _ => none
  | n + 1, x, y, M => fX0_resultByB (fX0_resultBy n) x y M
set_option maxRecDepth 100000 in
set_option maxHeartbeats 4000000 in
theorem kX0_resultByB (l : Launch) (D : va_G) (ad : Nat → Nat) (cA : Nat → ClassId) (A : Nat → Prop) (d : Nat) (KR : Int32 → Int32 → Mm → Option (Int32 × Mm)) (hKR : ∀ {a2 a3 : Int32} {M M1 : Mm} {r : Int32}, KR a2 a3 M = some (r, M1) → Met l yX0_resultBy wsX0_resultBy (rmX0_resultBy d) (gPc D (tyM cA) 289 (layM ad cA) ad A M [.ref (ad 275), .ref (ad 1), .int a2, .int a3]) (gQi D 289 (layM ad cA) ad A M1 r) 0 0 A) {a2 : Int32} {a3 : Int32} {M M1 : Mm} {r : Int32} (h : fX0_resultByB KR a2 a3 M = some (r, M1)) : Met l yX0_resultBy wsX0_resultBy (rmX0_resultBy (d + 1)) (gPc D (tyM cA) 289 (layM ad cA) ad A M [.ref (ad 275), .ref (ad 1), .int a2, .int a3]) (gQi D 289 (layM ad cA) ad A M1 r) 0 0 A := by
  refine Met.ofW (cc := cX0_resultBy) (maxL := 7) (ret := (some .int)) (by decide) rfl ?_
  intro p e s m args below meth c s₁ B hml hv
  obtain ⟨ha, hP, hK, hD, hN⟩ := hv
  have hx := B.exec
  have hb := B.bytes
  have hr := B.returns
  have hlk := B.notSynchronized
  have hts : ∀ w ∈ lw_g, w.before args s = true := fun w h => atoms_spec (ws := wsX0_resultBy) B.pre w (List.mem_cons_of_mem _ h)
  have hown : s.vm.findClass RX0 = some m.cls := findClass_of_methodNamed B.named
  have hS : va_S A s.heap s.heap [] := va_S.rf
  unfold fX0_resultByB at h
  have w22 := hts _ wm157
  have w28 := hts _ wm166
  have w32 := hts _ wm100
  have w37 := hts _ wm102
  have w44 := hts _ wm104
  have w48 := hts _ wm112
  have lp32 : ∀ (n : Nat) (j4 : Nat) (x5 : Int32) (M : Mm) (ls : Array Slot) (H : Heap) (locs : List Loc), j4 < 20 → lv_has ls 7 [(0, .ref (ad 275)), (1, .ref (ad 1)), (3, .int a3), (4, .ref (ad (102 + j4))), (5, .int x5)] → fX0_resultBy_32 a2 a3 KR n j4 x5 M = some (r, M1) → va_P D vwCl (gw 289 (layM ad cA) ad M) H → va_S A s.heap H locs → W p l e (headSpec wsX0_resultBy (rmX0_resultBy (d + 1))).room s m args below meth c H locs 0 0 (MQ below (gQi D 289 (layM ad cA) ad A M1 r) args s 0 0 A) (F0 m 32 ls []) := by
    intro n
    induction n with
    | zero =>
      intro j4 x5 M ls H locs hbj4 hl h hP hS
      rw [fX0_resultBy_32] at h
      cases h
    | succ n ih32 =>
      intro j4 x5 M ls H locs hbj4 hl h hP hS
      rw [fX0_resultBy_32] at h
      refine w_pc 32 rfl ?_
      refine lv_iload hx hb dX0_resultBy_32 (lv_at hl 4 rfl) ?_
      refine lv_aload hx hb dX0_resultBy_34 (lv_at hl 3 rfl) ?_
      refine gw_get (C := RX7) (T := TX7) (N := 7) (v := .int (M (102 + j4) 1)) hx hb hts hinX7 hown hK hP (by omega) (lyMRule (by omega)) rfl 1 (by decide) w37 (fun _ h9 => h9) rfl dX0_resultBy_36 ?_
      refine w_pc 39 rfl ?_
      refine lv_icmp_ge (tgt := 85) hx hb dX0_resultBy_39 (by decide) (fun q39 => ?_) (fun q39 => ?_)
      · replace h := (if_pos q39).symm.trans h
        refine w_pc 85 rfl ?_
        refine lv_aload hx hb dX0_resultBy_85 (lv_at hl 3 rfl) ?_
        refine gw_get (C := RX7) (T := TX7) (N := 7) (v := .int (M (102 + j4) 6)) hx hb hts hinX7 hown hK hP (by omega) (lyMRule (by omega)) rfl 6 (by decide) w48 (fun _ h9 => h9) rfl dX0_resultBy_87 ?_
        refine lv_iconst (v := -1) hx hb dX0_resultBy_90 (by decide) ?_
        refine w_pc 91 rfl ?_
        refine lv_icmp_ne (tgt := 98) hx hb dX0_resultBy_91 (by decide) (fun q91 => ?_) (fun q91 => ?_)
        · replace h := (if_neg q91).symm.trans h
          refine w_pc 98 rfl ?_
          refine lv_aload_n hx hb dX0_resultBy_98 rfl (lv_at hl 0 rfl) ?_
          refine lv_aload_n hx hb dX0_resultBy_99 rfl (lv_at hl 1 rfl) ?_
          refine lv_aload hx hb dX0_resultBy_100 (lv_at hl 3 rfl) ?_
          refine gw_get (C := RX7) (T := TX7) (N := 7) (v := .int (M (102 + j4) 6)) hx hb hts hinX7 hown hK hP (by omega) (lyMRule (by omega)) rfl 6 (by decide) w48 (fun _ h9 => h9) rfl dX0_resultBy_102 ?_
          refine lv_iload_n hx hb dX0_resultBy_105 rfl (lv_at hl 2 rfl) ?_
          refine w_pc 106 rfl ?_
          obtain ⟨v106, M106, c106, h⟩ := bn2_some h
          refine cl_i (rn_v (As := [.ref (ad 1), .int (M (102 + j4) 6), .int a3]) (rest := []) ⟨hx, hb, hml, hown, hts⟩ (kX0_redirected l D ad cA A d KR hKR c106) ⟨callB_of 3 hts (gdc wm641) rfl rfl rfl (hts _ wm59) (hts _ wm638) hdX0_redirected ⟨show 3 * d + 7 + 1 ≤ 3 * (d + 1) + 6 by omega, show 8 + (5 + 11) + (103 * d + 426) ≤ 103 * (d + 1) + 400 by omega⟩, hts _ wm640, hts _ wm12⟩ hK hP hD hN (by omega) lyMChk rfl rfl hl.1 rfl (lv_room (Nat.le_of_ble_eq_true rfl)) dX0_resultBy_106) hS (fun H locs hP hS => ?_)
          refine w_pc 109 rfl ?_
          exact re_i hx hb hr hlk h hP hS dX0_resultBy_109
        · replace h := (if_pos q91).symm.trans h
          refine w_pc 94 rfl ?_
          refine lv_iconst (v := 4) hx hb dX0_resultBy_94 (by decide) ?_
          refine lv_goto (tgt := 109) hx hb dX0_resultBy_95 (by decide) ?_
          exact re_i hx hb hr hlk h hP hS dX0_resultBy_109
      · replace h := (if_neg q39).symm.trans h
        refine w_pc 42 rfl ?_
        refine lv_aload_n hx hb dX0_resultBy_42 rfl (lv_at hl 0 rfl) ?_
        refine lv_aload_n hx hb dX0_resultBy_43 rfl (lv_at hl 1 rfl) ?_
        refine lv_aload hx hb dX0_resultBy_44 (lv_at hl 3 rfl) ?_
        refine lv_iload hx hb dX0_resultBy_46 (lv_at hl 4 rfl) ?_
        refine lv_iload_n hx hb dX0_resultBy_48 rfl (lv_at hl 2 rfl) ?_
        refine w_pc 49 rfl ?_
        obtain ⟨v49, M49, c49, h⟩ := bn2_some h
        refine cl_i (rn_v (As := [.ref (ad 1), .ref (ad (102 + j4)), .int x5, .int a3]) (rest := []) ⟨hx, hb, hml, hown, hts⟩ (kX0_outcomeOf l D ad cA A d KR hKR (by omega) c49) ⟨callB_of 4 hts (gdc wm610) rfl rfl rfl (hts _ wm59) (hts _ wm607) hdX0_outcomeOf ⟨show 3 * d + 8 + 1 ≤ 3 * (d + 1) + 6 by omega, show 8 + (9 + 11) + (103 * d + 451) ≤ 103 * (d + 1) + 400 by omega⟩, hts _ wm609, hts _ wm7⟩ hK hP hD hN (by omega) lyMChk rfl rfl hl.1 rfl (lv_room (Nat.le_of_ble_eq_true rfl)) dX0_resultBy_49) hS (fun H locs hP hS => ?_)
        refine w_pc 52 rfl ?_
        refine lv_istore (lv' := [(6, .int v49), (0, .ref (ad 275)), (1, .ref (ad 1)), (3, .int a3), (4, .ref (ad (102 + j4))), (5, .int x5)]) hx hb dX0_resultBy_52 hl (by decide) rfl (fun ls hl => ?_)
        refine lv_iload hx hb dX0_resultBy_54 (lv_at hl 0 rfl) ?_
        refine lv_iconst (v := 1) hx hb dX0_resultBy_56 (by decide) ?_
        refine w_pc 57 rfl ?_
        refine lv_icmp_ne (tgt := 71) hx hb dX0_resultBy_57 (by decide) (fun q57 => ?_) (fun q57 => ?_)
        · replace h := (if_neg q57).symm.trans h
          refine w_pc 71 rfl ?_
          refine lv_iload hx hb dX0_resultBy_71 (lv_at hl 0 rfl) ?_
          refine w_pc 73 rfl ?_
          refine lv_if_eq (tgt := 79) hx hb dX0_resultBy_73 (by decide) (fun q73 => ?_) (fun q73 => ?_)
          · replace h := (if_pos q73).symm.trans h
            refine w_pc 79 rfl ?_
            refine lv_iinc (k := 5) (v := x5 + 1) (lv' := [(5, .int (x5 + 1)), (6, .int v49), (0, .ref (ad 275)), (1, .ref (ad 1)), (3, .int a3), (4, .ref (ad (102 + j4)))]) hx hb dX0_resultBy_79 hl rfl rfl (by decide) rfl (fun ls hl => ?_)
            refine lv_goto (tgt := 32) hx hb dX0_resultBy_82 (by decide) ?_
            exact ih32 j4 (x5 + 1) M49 ls _ _ (by omega) (lv_sub hl [2, 3, 4, 5, 0] rfl) h hP hS
          · replace h := (if_neg q73).symm.trans h
            refine w_pc 76 rfl ?_
            refine lv_iload hx hb dX0_resultBy_76 (lv_at hl 0 rfl) ?_
            exact re_i hx hb hr hlk h hP hS dX0_resultBy_78
        · replace h := (if_pos q57).symm.trans h
          refine w_pc 60 rfl ?_
          refine lv_iconst (v := 1) hx hb dX0_resultBy_60 (by decide) ?_
          refine lv_aload hx hb dX0_resultBy_61 (lv_at hl 4 rfl) ?_
          refine gw_get (C := RX7) (T := TX7) (N := 7) (v := .ref (ad (122 + j4))) hx hb hts hinX7 hown hK hP (by omega) (lyMRule (by omega)) rfl 2 (by decide) w44 (fun _ h9 => h9) rfl dX0_resultBy_63 ?_
          refine lv_iload hx hb dX0_resultBy_66 (lv_at hl 5 rfl) ?_
          obtain ⟨g68, h⟩ := gd_in h
          refine gw_iald hx hb hK hP 0 (by omega) (lyMaSg (by omega)) rfl g68 dX0_resultBy_68 ?_
          refine lv_iadd hx hb dX0_resultBy_69 ?_
          exact re_i hx hb hr hlk h hP hS dX0_resultBy_70
  refine w_entry ha (Nat.le_of_ble_eq_true rfl) (fun ls hl => ?_)
  have hl : lv_has ls 7 [(0, .ref (ad 275)), (1, .ref (ad 1)), (2, .int a2), (3, .int a3)] := hl
  refine w_pc 0 rfl ?_
  refine lv_aload_n hx hb dX0_resultBy_0 rfl (lv_at hl 1 rfl) ?_
  refine lv_iload_n hx hb dX0_resultBy_1 rfl (lv_at hl 2 rfl) ?_
  obtain ⟨g2, h⟩ := gd_in h
  have b2 := some_lo g2
  refine gw_aald hx hb hK hP 2 (by omega) lyMaDom rfl g2 dX0_resultBy_2 ?_
  refine gw_get (C := RX1) (T := TX1) (N := 8) (v := .int (M (2 + a2.toNatClampNeg) 2)) hx hb hts hinX1 hown hK hP (by omega) (lyMDom (by omega)) rfl 2 (by decide) w22 (fun _ h9 => h9) rfl dX0_resultBy_3 ?_
  refine w_pc 6 rfl ?_
  refine lv_if_eq (tgt := 11) hx hb dX0_resultBy_6 (by decide) (fun q6 => ?_) (fun q6 => ?_)
  · replace h := (if_pos q6).symm.trans h
    refine w_pc 11 rfl ?_
    refine lv_aload_n hx hb dX0_resultBy_11 rfl (lv_at hl 1 rfl) ?_
    refine lv_iload_n hx hb dX0_resultBy_12 rfl (lv_at hl 2 rfl) ?_
    obtain ⟨g13, h⟩ := gd_in h
    have b13 := some_lo g13
    refine gw_aald hx hb hK hP 2 (by omega) lyMaDom rfl g13 dX0_resultBy_13 ?_
    refine gw_get (C := RX1) (T := TX1) (N := 8) (v := .ref (ad (102 + a2.toNatClampNeg))) hx hb hts hinX1 hown hK hP (by omega) (lyMDom (by omega)) rfl 5 (by decide) w28 (fun _ h9 => h9) rfl dX0_resultBy_14 ?_
    refine lv_astore (lv' := [(4, .ref (ad (102 + a2.toNatClampNeg))), (0, .ref (ad 275)), (1, .ref (ad 1)), (2, .int a2), (3, .int a3)]) hx hb dX0_resultBy_17 hl (by decide) rfl (fun ls hl => ?_)
    refine lv_aload hx hb dX0_resultBy_19 (lv_at hl 0 rfl) ?_
    refine gw_get (C := RX7) (T := TX7) (N := 7) (v := .int (M (102 + a2.toNatClampNeg) 0)) hx hb hts hinX7 hown hK hP (by omega) (lyMRule (by omega)) rfl 0 (by decide) w32 (fun _ h9 => h9) rfl dX0_resultBy_21 ?_
    refine w_pc 24 rfl ?_
    refine w_pc 24 rfl ?_
    refine lv_if_ne (tgt := 29) hx hb dX0_resultBy_24 (by decide) (fun q24 => ?_) (fun q24 => ?_)
    · replace h := (if_neg q24).symm.trans h
      refine w_pc 29 rfl ?_
      refine lv_iconst (v := 0) hx hb dX0_resultBy_29 (by decide) ?_
      refine lv_istore (lv' := [(5, .int (0 : Int32)), (4, .ref (ad (102 + a2.toNatClampNeg))), (0, .ref (ad 275)), (1, .ref (ad 1)), (2, .int a2), (3, .int a3)]) hx hb dX0_resultBy_30 hl (by decide) rfl (fun ls hl => ?_)
      exact lp32 FU a2.toNatClampNeg (0 : Int32) M ls _ _ (by omega) (lv_sub hl [2, 3, 5, 1, 0] rfl) h hP hS
    · replace h := (if_pos q24).symm.trans h
      refine w_pc 27 rfl ?_
      refine lv_iconst (v := 0) hx hb dX0_resultBy_27 (by decide) ?_
      exact re_i hx hb hr hlk h hP hS dX0_resultBy_28
  · replace h := (if_neg q6).symm.trans h
    refine w_pc 9 rfl ?_
    refine lv_iconst (v := 5) hx hb dX0_resultBy_9 (by decide) ?_
    exact re_i hx hb hr hlk h hP hS dX0_resultBy_10
theorem kX0_resultBy (l : Launch) (D : va_G) (ad : Nat → Nat) (cA : Nat → ClassId) (A : Nat → Prop) : ∀ (d : Nat) {a2 a3 : Int32} {M M1 : Mm} {r : Int32}, fX0_resultBy d a2 a3 M = some (r, M1) → Met l yX0_resultBy wsX0_resultBy (rmX0_resultBy d) (gPc D (tyM cA) 289 (layM ad cA) ad A M [.ref (ad 275), .ref (ad 1), .int a2, .int a3]) (gQi D 289 (layM ad cA) ad A M1 r) 0 0 A
  | 0 => fun h => by rw [fX0_resultBy] at h; cases h
  | d + 1 => fun h => by
    rw [fX0_resultBy] at h
    exact kX0_resultByB l D ad cA A d (fX0_resultBy d) (fun q => kX0_resultBy l D ad cA A d q) h
def rmX0_start : Room := { frames := 43, cells := 0, slots := 0, locals := 1662 }
def fX0_start (a2 : Int32) (a3 : Int32) (M : Mm) : Option (Int32 × Mm) :=
  nm (up2 M 275 0 (0 : Int32)) (fun M2 => nm (up2 M2 275 1 (0 : Int32)) (fun M7 => bn2 (fX0_resultBy 12 a2 a3 M7) (fun v14 M14 => some (v14, M14))))
set_option maxRecDepth 100000 in
set_option maxHeartbeats 4000000 in
theorem kX0_start (l : Launch) (D : va_G) (ad : Nat → Nat) (cA : Nat → ClassId) (A : Nat → Prop) {a2 : Int32} {a3 : Int32} {M M1 : Mm} {r : Int32} (h : fX0_start a2 a3 M = some (r, M1)) : Met l yX0_start wsX0_start rmX0_start (gPc D (tyM cA) 289 (layM ad cA) ad A M [.ref (ad 275), .ref (ad 1), .int a2, .int a3]) (gQi D 289 (layM ad cA) ad A M1 r) 0 0 A := by
  refine Met.ofW (cc := cX0_start) (maxL := 4) (ret := (some .int)) (by decide) rfl ?_
  intro p e s m args below meth c s₁ B hml hv
  obtain ⟨ha, hP, hK, hD, hN⟩ := hv
  have hx := B.exec
  have hb := B.bytes
  have hr := B.returns
  have hlk := B.notSynchronized
  have hts : ∀ w ∈ lw_g, w.before args s = true := fun w h => atoms_spec (ws := wsX0_start) B.pre w (List.mem_cons_of_mem _ h)
  have hown : s.vm.findClass RX0 = some m.cls := findClass_of_methodNamed B.named
  have hS : va_S A s.heap s.heap [] := va_S.rf
  unfold fX0_start at h
  have w9 := hts _ wm335
  have w15 := hts _ wm337
  refine w_entry ha (Nat.le_of_ble_eq_true rfl) (fun ls hl => ?_)
  have hl : lv_has ls 4 [(0, .ref (ad 275)), (1, .ref (ad 1)), (2, .int a2), (3, .int a3)] := hl
  refine w_pc 0 rfl ?_
  refine lv_aload_n hx hb dX0_start_0 rfl (lv_at hl 0 rfl) ?_
  refine lv_iconst (v := 0) hx hb dX0_start_1 (by decide) ?_
  obtain ⟨M2, eM2, h⟩ := nm_some h
  refine gw_put (C := RX0) (T := TX0) (N := 2) (ty := .int) hx hb hts hinX0 tyX0 tyX0_ok nmX0 hown hK hP hD hS (by omega) lyMChk rfl 0 (by decide) w9 (fun _ h9 => h9) rfl (by decide +kernel) rfl rfl (Nat.le_of_ble_eq_true rfl) rfl eM2 dX0_start_2 (fun H locs hP hS => ?_)
  refine lv_aload_n hx hb dX0_start_5 rfl (lv_at hl 0 rfl) ?_
  refine lv_iconst (v := 0) hx hb dX0_start_6 (by decide) ?_
  obtain ⟨M7, eM7, h⟩ := nm_some h
  refine gw_put (C := RX0) (T := TX0) (N := 2) (ty := .int) hx hb hts hinX0 tyX0 tyX0_ok nmX0 hown hK hP hD hS (by omega) lyMChk rfl 1 (by decide) w15 (fun _ h9 => h9) rfl (by decide +kernel) rfl rfl (Nat.le_of_ble_eq_true rfl) rfl eM7 dX0_start_7 (fun H locs hP hS => ?_)
  refine lv_aload_n hx hb dX0_start_10 rfl (lv_at hl 0 rfl) ?_
  refine w_pc 11 rfl ?_
  refine lv_aload_n hx hb dX0_start_11 rfl (lv_at hl 1 rfl) ?_
  refine lv_iload_n hx hb dX0_start_12 rfl (lv_at hl 2 rfl) ?_
  refine lv_iload_n hx hb dX0_start_13 rfl (lv_at hl 3 rfl) ?_
  refine w_pc 14 rfl ?_
  obtain ⟨v14, M14, c14, h⟩ := bn2_some h
  refine cl_i (rn_v (As := [.ref (ad 1), .int a2, .int a3]) (rest := []) ⟨hx, hb, hml, hown, hts⟩ (kX0_resultBy l D ad cA A 12 c14) ⟨callB_of 3 hts (gdc wm606) rfl rfl rfl (hts _ wm59) (hts _ wm603) hdX0_resultBy ⟨Nat.le_of_ble_eq_true rfl, Nat.le_of_ble_eq_true rfl⟩, hts _ wm605, hts _ wm6⟩ hK hP hD hN (by omega) lyMChk rfl rfl hl.1 rfl (lv_room (Nat.le_of_ble_eq_true rfl)) dX0_start_14) hS (fun H locs hP hS => ?_)
  refine w_pc 17 rfl ?_
  exact re_i hx hb hr hlk h hP hS dX0_start_17
def rmX10_sender : Room := { frames := 44, cells := 0, slots := 0, locals := 1685 }
def fX10_sender (M : Mm) : Option (Int32 × Mm) :=
  if (M 243 0) = 0 then (some ((-1 : Int32), M)) else (bn2 (fX0_start (M 243 1) (M 243 3) M) (fun v32 M32 => some (v32, M32)))
set_option maxRecDepth 100000 in
set_option maxHeartbeats 4000000 in
theorem kX10_sender (l : Launch) (D : va_G) (ad : Nat → Nat) (cA : Nat → ClassId) (A : Nat → Prop) {M M1 : Mm} {r : Int32} (h : fX10_sender M = some (r, M1)) : Met l yX10_sender wsX10_sender rmX10_sender (gPc D (tyM cA) 289 (layM ad cA) ad A M [.ref (ad 0)]) (gQi D 289 (layM ad cA) ad A M1 r) 0 0 A := by
  refine Met.ofW (cc := cX10_sender) (maxL := 1) (ret := (some .int)) (by decide) rfl ?_
  intro p e s m args below meth c s₁ B hml hv
  obtain ⟨ha, hP, hK, hD, hN⟩ := hv
  have hx := B.exec
  have hb := B.bytes
  have hr := B.returns
  have hlk := B.notSynchronized
  have hts : ∀ w ∈ lw_g, w.before args s = true := fun w h => atoms_spec (ws := wsX10_sender) B.pre w (List.mem_cons_of_mem _ h)
  have hown : s.vm.findClass RX10 = some m.cls := findClass_of_methodNamed B.named
  have hS : va_S A s.heap s.heap [] := va_S.rf
  unfold fX10_sender at h
  have w30 := hts _ wm371
  have w126 := hts _ wm282
  have w37 := hts _ wm372
  have w11 := hts _ wm368
  have w189 := hts _ wm284
  have w192 := hts _ wm288
  refine w_entry ha (Nat.le_of_ble_eq_true rfl) (fun ls hl => ?_)
  have hl : lv_has ls 1 [(0, .ref (ad 0))] := hl
  refine w_pc 0 rfl ?_
  refine lv_aload_n hx hb dX10_sender_0 rfl (lv_at hl 0 rfl) ?_
  refine gw_get (C := RX10) (T := TX10) (N := 8) (v := .ref (ad 243)) hx hb hts hinX10 hown hK hP (by omega) lyMMA rfl 3 (by decide) w30 (fun _ h9 => h9) rfl dX10_sender_1 ?_
  refine gw_get (C := RX4) (T := TX4) (N := 13) (v := .int (M 243 0)) hx hb hts hinX4 hown hK hP (by omega) lyMMail rfl 0 (by decide) w126 (fun _ h9 => h9) rfl dX10_sender_4 ?_
  refine w_pc 7 rfl ?_
  refine lv_if_eq (tgt := 38) hx hb dX10_sender_7 (by decide) (fun q7 => ?_) (fun q7 => ?_)
  · replace h := (if_pos q7).symm.trans h
    refine w_pc 38 rfl ?_
    refine lv_iconst (v := -1) hx hb dX10_sender_38 (by decide) ?_
    exact re_i hx hb hr hlk h hP hS dX10_sender_39
  · replace h := (if_neg q7).symm.trans h
    refine w_pc 10 rfl ?_
    refine lv_aload_n hx hb dX10_sender_10 rfl (lv_at hl 0 rfl) ?_
    refine gw_get (C := RX10) (T := TX10) (N := 8) (v := .ref (ad 275)) hx hb hts hinX10 hown hK hP (by omega) lyMMA rfl 4 (by decide) w37 (fun _ h9 => h9) rfl dX10_sender_11 ?_
    refine lv_aload_n hx hb dX10_sender_14 rfl (lv_at hl 0 rfl) ?_
    refine gw_get (C := RX10) (T := TX10) (N := 8) (v := .ref (ad 1)) hx hb hts hinX10 hown hK hP (by omega) lyMMA rfl 0 (by decide) w11 (fun _ h9 => h9) rfl dX10_sender_15 ?_
    refine lv_aload_n hx hb dX10_sender_18 rfl (lv_at hl 0 rfl) ?_
    refine gw_get (C := RX10) (T := TX10) (N := 8) (v := .ref (ad 243)) hx hb hts hinX10 hown hK hP (by omega) lyMMA rfl 3 (by decide) w30 (fun _ h9 => h9) rfl dX10_sender_19 ?_
    refine gw_get (C := RX4) (T := TX4) (N := 13) (v := .int (M 243 1)) hx hb hts hinX4 hown hK hP (by omega) lyMMail rfl 1 (by decide) w189 (fun _ h9 => h9) rfl dX10_sender_22 ?_
    refine w_pc 25 rfl ?_
    refine lv_aload_n hx hb dX10_sender_25 rfl (lv_at hl 0 rfl) ?_
    refine gw_get (C := RX10) (T := TX10) (N := 8) (v := .ref (ad 243)) hx hb hts hinX10 hown hK hP (by omega) lyMMA rfl 3 (by decide) w30 (fun _ h9 => h9) rfl dX10_sender_26 ?_
    refine gw_get (C := RX4) (T := TX4) (N := 13) (v := .int (M 243 3)) hx hb hts hinX4 hown hK hP (by omega) lyMMail rfl 3 (by decide) w192 (fun _ h9 => h9) rfl dX10_sender_29 ?_
    refine w_pc 32 rfl ?_
    obtain ⟨v32, M32, c32, h⟩ := bn2_some h
    refine cl_i (rn_v (As := [.ref (ad 1), .int (M 243 1), .int (M 243 3)]) (rest := []) ⟨hx, hb, hml, hown, hts⟩ (kX0_start l D ad cA A c32) ⟨callB_of 3 hts (gdc wm602) rfl rfl rfl (hts _ wm59) (hts _ wm599) hdX0_start ⟨Nat.le_of_ble_eq_true rfl, Nat.le_of_ble_eq_true rfl⟩, hts _ wm600, hts _ wm601⟩ hK hP hD hN (by omega) lyMChk rfl rfl hl.1 rfl (lv_room (Nat.le_of_ble_eq_true rfl)) dX10_sender_32) hS (fun H locs hP hS => ?_)
    refine w_pc 35 rfl ?_
    refine lv_goto (tgt := 39) hx hb dX10_sender_35 (by decide) ?_
    exact re_i hx hb hr hlk h hP hS dX10_sender_39
def rmX10_counted : Room := { frames := 0, cells := 0, slots := 0, locals := 0 }
def fX10_counted (a1 : Int32) (M : Mm) : Option Int32 :=
  if a1 = 0 then (some (M 275 0)) else (if a1 = 1 then (some (M 275 1)) else (some (0 : Int32)))
set_option maxRecDepth 100000 in
set_option maxHeartbeats 4000000 in
theorem kX10_counted (l : Launch) (D : va_G) (ad : Nat → Nat) (cA : Nat → ClassId) (A : Nat → Prop) {a1 : Int32} {M : Mm} {r : Int32} (h : fX10_counted a1 M = some r) : Met l yX10_counted wsX10_counted rmX10_counted (gPc D (tyM cA) 289 (layM ad cA) ad A M [.ref (ad 0), .int a1]) (gQi D 289 (layM ad cA) ad A M r) 0 0 A := by
  refine Met.ofW (cc := cX10_counted) (maxL := 2) (ret := (some .int)) (by decide) rfl ?_
  intro p e s m args below meth c s₁ B hml hv
  obtain ⟨ha, hP, hK, hD, hN⟩ := hv
  have hx := B.exec
  have hb := B.bytes
  have hr := B.returns
  have hlk := B.notSynchronized
  have hts : ∀ w ∈ lw_g, w.before args s = true := fun w h => atoms_spec (ws := wsX10_counted) B.pre w (List.mem_cons_of_mem _ h)
  have hown : s.vm.findClass RX10 = some m.cls := findClass_of_methodNamed B.named
  have hS : va_S A s.heap s.heap [] := va_S.rf
  unfold fX10_counted at h
  have w37 := hts _ wm372
  have w199 := hts _ wm336
  have w202 := hts _ wm338
  refine w_entry ha (Nat.le_of_ble_eq_true rfl) (fun ls hl => ?_)
  have hl : lv_has ls 2 [(0, .ref (ad 0)), (1, .int a1)] := hl
  refine w_pc 0 rfl ?_
  refine lv_iload_n hx hb dX10_counted_0 rfl (lv_at hl 1 rfl) ?_
  refine w_pc 1 rfl ?_
  by_cases q1_0 : a1 = 0
  · replace h := (if_pos q1_0).symm.trans h
    refine w_ti q1_0.symm ?_
    refine lv_lookup (tgt := 28) hx hb dX10_counted_1 (by decide) rfl (by decide) ?_
    refine w_pc 28 rfl ?_
    refine lv_aload_n hx hb dX10_counted_28 rfl (lv_at hl 0 rfl) ?_
    refine gw_get (C := RX10) (T := TX10) (N := 8) (v := .ref (ad 275)) hx hb hts hinX10 hown hK hP (by omega) lyMMA rfl 4 (by decide) w37 (fun _ h9 => h9) rfl dX10_counted_29 ?_
    refine gw_get (C := RX0) (T := TX0) (N := 2) (v := .int (M 275 0)) hx hb hts hinX0 hown hK hP (by omega) lyMChk rfl 0 (by decide) w199 (fun _ h9 => h9) rfl dX10_counted_32 ?_
    exact re_i hx hb hr hlk (sm_r h) hP hS dX10_counted_35
  replace h := (if_neg q1_0).symm.trans h
  by_cases q1_1 : a1 = 1
  · replace h := (if_pos q1_1).symm.trans h
    refine w_ti q1_1.symm ?_
    refine lv_lookup (tgt := 36) hx hb dX10_counted_1 (by decide) rfl (by decide) ?_
    refine w_pc 36 rfl ?_
    refine lv_aload_n hx hb dX10_counted_36 rfl (lv_at hl 0 rfl) ?_
    refine gw_get (C := RX10) (T := TX10) (N := 8) (v := .ref (ad 275)) hx hb hts hinX10 hown hK hP (by omega) lyMMA rfl 4 (by decide) w37 (fun _ h9 => h9) rfl dX10_counted_37 ?_
    refine gw_get (C := RX0) (T := TX0) (N := 2) (v := .int (M 275 1)) hx hb hts hinX0 hown hK hP (by omega) lyMChk rfl 1 (by decide) w202 (fun _ h9 => h9) rfl dX10_counted_40 ?_
    exact re_i hx hb hr hlk (sm_r h) hP hS dX10_counted_43
  replace h := (if_neg q1_1).symm.trans h
  refine lv_lookup (off := 43) (tgt := 44) hx hb dX10_counted_1 (by decide) ((lv_osw q1_0 (by decide)).trans <| (lv_osw q1_1 (by decide)).trans <| rfl) (by decide) ?_
  refine w_pc 44 rfl ?_
  refine lv_iconst (v := 0) hx hb dX10_counted_44 (by decide) ?_
  exact re_i hx hb hr hlk (sm_r h) hP hS dX10_counted_45
def rmX4_coverFor : Room := { frames := 1, cells := 0, slots := 0, locals := 24 }
def fX4_coverFor_70 (a1 : Int32) (a2 : Int32) (M : Mm) : Nat → Int64 → Int32 → Option Int32
  | 0, _, _ => none
  | n + 1, x4, x6 => if a1 ≤ x6 then (bn1 (fX10_digestOf x4) (fun v101 => some v101)) else (grd (gin x6 4) (bn1 (fX10_mix x4 (M (271 + x6.toNatClampNeg) 2)) (fun v88 => (fX4_coverFor_70 a1 a2 M n) v88 (x6 + 1))))
def fX4_coverFor (a1 : Int32) (a2 : Int32) (M : Mm) : Option Int32 :=
  grd (gin a1 4) (bn1 (fX10_mix (0 : Int64) a2) (fun v9 => bn1 (fX10_mix v9 (M (263 + (3 + a1.toNatClampNeg)) 0)) (fun v23 => bn1 (fX10_mix v23 (M (263 + (3 + a1.toNatClampNeg)) 1)) (fun v37 => bn1 (fX10_mix v37 (M (271 + a1.toNatClampNeg) 1)) (fun v48 => bn1 (fX10_mix v48 (M (263 + (3 + a1.toNatClampNeg)) 7)) (fun v62 => fX4_coverFor_70 a1 a2 M FU v62 (0 : Int32)))))))
set_option maxRecDepth 100000 in
set_option maxHeartbeats 4000000 in
theorem kX4_coverFor (l : Launch) (D : va_G) (ad : Nat → Nat) (cA : Nat → ClassId) (A : Nat → Prop) {a1 : Int32} {a2 : Int32} {M : Mm} {r : Int32} (h : fX4_coverFor a1 a2 M = some r) : Met l yX4_coverFor wsX4_coverFor rmX4_coverFor (gPc D (tyM cA) 289 (layM ad cA) ad A M [.ref (ad 243), .int a1, .int a2]) (gQi D 289 (layM ad cA) ad A M r) 0 0 A := by
  refine Met.ofW (cc := cX4_coverFor) (maxL := 7) (ret := (some .int)) (by decide) rfl ?_
  intro p e s m args below meth c s₁ B hml hv
  obtain ⟨ha, hP, hK, hD, hN⟩ := hv
  have hx := B.exec
  have hb := B.bytes
  have hr := B.returns
  have hlk := B.notSynchronized
  have hts : ∀ w ∈ lw_g, w.before args s = true := fun w h => atoms_spec (ws := wsX4_coverFor) B.pre w (List.mem_cons_of_mem _ h)
  have hown : s.vm.findClass RX4 = some m.cls := findClass_of_methodNamed B.named
  have hS : va_S A s.heap s.heap [] := va_S.rf
  unfold fX4_coverFor at h
  have w39 := hts _ wm298
  have w86 := hts _ wm268
  have w144 := hts _ wm224
  have w147 := hts _ wm227
  have w98 := hts _ wm270
  have w119 := hts _ wm241
  have w105 := hts _ wm272
  have lp70 : ∀ (n : Nat) (x4 : Int64) (x6 : Int32) (ls : Array Slot) (H : Heap) (locs : List Loc), lv_has ls 7 [(0, .ref (ad 243)), (1, .int a1), (4, .long x4), (6, .int x6)] → fX4_coverFor_70 a1 a2 M n x4 x6 = some r → va_P D vwCl (gw 289 (layM ad cA) ad M) H → va_S A s.heap H locs → W p l e (headSpec wsX4_coverFor rmX4_coverFor).room s m args below meth c H locs 0 0 (MQ below (gQi D 289 (layM ad cA) ad A M r) args s 0 0 A) (F0 m 70 ls []) := by
    intro n
    induction n with
    | zero =>
      intro x4 x6 ls H locs hl h hP hS
      rw [fX4_coverFor_70] at h
      cases h
    | succ n ih70 =>
      intro x4 x6 ls H locs hl h hP hS
      rw [fX4_coverFor_70] at h
      refine w_pc 70 rfl ?_
      refine lv_iload hx hb dX4_coverFor_70 (lv_at hl 3 rfl) ?_
      refine lv_iload_n hx hb dX4_coverFor_72 rfl (lv_at hl 1 rfl) ?_
      refine w_pc 73 rfl ?_
      refine lv_icmp_ge (tgt := 99) hx hb dX4_coverFor_73 (by decide) (fun q73 => ?_) (fun q73 => ?_)
      · replace h := (if_pos q73).symm.trans h
        refine w_pc 99 rfl ?_
        refine lv_lload hx hb dX4_coverFor_99 (lv_at hl 2 rfl) ?_
        refine w_pc 101 rfl ?_
        obtain ⟨v101, c101, h⟩ := bn1_some h
        refine cl_i (rn_sN (As := [.long x4]) (rest := []) ⟨hx, hb, hml, hown, hts⟩ (kX10_digestOf l D ad cA A (M := M) c101) ⟨va_cnB 1 hts (gdc wm561) rfl rfl rfl (hN _ nw14) (hts _ wm50) hdX10_digestOf ⟨Nat.le_of_ble_eq_true rfl, Nat.le_of_ble_eq_true rfl⟩, hts _ wm560, trivial⟩ hK hP hD hN rfl hl.1 rfl (lv_room (Nat.le_of_ble_eq_true rfl)) dX4_coverFor_101) hS (fun H locs hP hS => ?_)
        refine w_pc 104 rfl ?_
        exact re_i hx hb hr hlk (sm_r h) hP hS dX4_coverFor_104
      · replace h := (if_neg q73).symm.trans h
        refine w_pc 76 rfl ?_
        refine lv_lload hx hb dX4_coverFor_76 (lv_at hl 2 rfl) ?_
        refine lv_aload_n hx hb dX4_coverFor_78 rfl (lv_at hl 0 rfl) ?_
        refine gw_get (C := RX4) (T := TX4) (N := 13) (v := .ref (ad 270)) hx hb hts hinX4 hown hK hP (by omega) lyMMail rfl 11 (by decide) w39 (fun _ h9 => h9) rfl dX4_coverFor_79 ?_
        refine lv_iload hx hb dX4_coverFor_82 (lv_at hl 3 rfl) ?_
        obtain ⟨g84, h⟩ := gd_in h
        have b84 := some_lo g84
        refine gw_aald hx hb hK hP 6 (by omega) lyMaLk rfl g84 dX4_coverFor_84 ?_
        refine gw_get (C := RX3) (T := TX3) (N := 3) (v := .int (M (271 + x6.toNatClampNeg) 2)) hx hb hts hinX3 hown hK hP (by omega) (lyMLink (by omega)) rfl 2 (by decide) w105 (fun _ h9 => h9) rfl dX4_coverFor_85 ?_
        refine w_pc 88 rfl ?_
        obtain ⟨v88, c88, h⟩ := bn1_some h
        refine cl_l (rn_sN (As := [.long x4, .int (M (271 + x6.toNatClampNeg) 2)]) (rest := []) ⟨hx, hb, hml, hown, hts⟩ (kX10_mix l D ad cA A (M := M) c88) ⟨va_cnB 2 hts (gdc wm557) rfl rfl rfl (hN _ nw15) (hts _ wm50) hdX10_mix ⟨Nat.le_of_ble_eq_true rfl, Nat.le_of_ble_eq_true rfl⟩, hts _ wm556, trivial⟩ hK hP hD hN rfl hl.1 rfl (lv_room (Nat.le_of_ble_eq_true rfl)) dX4_coverFor_88) hS (fun H locs hP hS => ?_)
        refine w_pc 91 rfl ?_
        refine lv_lstore (lv' := [(4, .long v88), (0, .ref (ad 243)), (1, .int a1), (6, .int x6)]) hx hb dX4_coverFor_91 hl (by decide) rfl (fun ls hl => ?_)
        refine lv_iinc (k := 3) (v := x6 + 1) (lv' := [(6, .int (x6 + 1)), (4, .long v88), (0, .ref (ad 243)), (1, .int a1)]) hx hb dX4_coverFor_93 hl rfl rfl (by decide) rfl (fun ls hl => ?_)
        refine lv_goto (tgt := 70) hx hb dX4_coverFor_96 (by decide) ?_
        exact ih70 v88 (x6 + 1) ls _ _ (lv_sub hl [2, 3, 1, 0] rfl) h hP hS
  refine w_entry ha (Nat.le_of_ble_eq_true rfl) (fun ls hl => ?_)
  have hl : lv_has ls 7 [(0, .ref (ad 243)), (1, .int a1), (2, .int a2)] := hl
  refine w_pc 0 rfl ?_
  refine lv_aload_n hx hb dX4_coverFor_0 rfl (lv_at hl 0 rfl) ?_
  refine gw_get (C := RX4) (T := TX4) (N := 13) (v := .ref (ad 270)) hx hb hts hinX4 hown hK hP (by omega) lyMMail rfl 11 (by decide) w39 (fun _ h9 => h9) rfl dX4_coverFor_1 ?_
  refine lv_iload_n hx hb dX4_coverFor_4 rfl (lv_at hl 1 rfl) ?_
  obtain ⟨g5, h⟩ := gd_in h
  have b5 := some_lo g5
  refine gw_aald hx hb hK hP 6 (by omega) lyMaLk rfl g5 dX4_coverFor_5 ?_
  refine lv_astore_n (lv' := [(3, .ref (ad (271 + a1.toNatClampNeg))), (0, .ref (ad 243)), (1, .int a1), (2, .int a2)]) hx hb dX4_coverFor_6 rfl hl (by decide) rfl (fun ls hl => ?_)
  refine lv_lconst (v := 0) hx hb dX4_coverFor_7 (by decide) ?_
  refine lv_iload_n hx hb dX4_coverFor_8 rfl (lv_at hl 3 rfl) ?_
  refine w_pc 9 rfl ?_
  refine w_pc 9 rfl ?_
  obtain ⟨v9, c9, h⟩ := bn1_some h
  refine cl_l (rn_sN (As := [.long (0 : Int64), .int a2]) (rest := []) ⟨hx, hb, hml, hown, hts⟩ (kX10_mix l D ad cA A (M := M) c9) ⟨va_cnB 2 hts (gdc wm557) rfl rfl rfl (hN _ nw15) (hts _ wm50) hdX10_mix ⟨Nat.le_of_ble_eq_true rfl, Nat.le_of_ble_eq_true rfl⟩, hts _ wm556, trivial⟩ hK hP hD hN rfl hl.1 rfl (lv_room (Nat.le_of_ble_eq_true rfl)) dX4_coverFor_9) hS (fun H locs hP hS => ?_)
  refine w_pc 12 rfl ?_
  refine lv_lstore (lv' := [(4, .long v9), (3, .ref (ad (271 + a1.toNatClampNeg))), (0, .ref (ad 243)), (1, .int a1), (2, .int a2)]) hx hb dX4_coverFor_12 hl (by decide) rfl (fun ls hl => ?_)
  refine lv_lload hx hb dX4_coverFor_14 (lv_at hl 0 rfl) ?_
  refine lv_aload_n hx hb dX4_coverFor_16 rfl (lv_at hl 1 rfl) ?_
  refine gw_get (C := RX3) (T := TX3) (N := 3) (v := .ref (ad (263 + (3 + a1.toNatClampNeg)))) hx hb hts hinX3 hown hK hP (by omega) (lyMLink (by omega)) rfl 0 (by decide) w86 (fun _ h9 => h9) rfl dX4_coverFor_17 ?_
  refine gw_get (C := RX8) (T := TX8) (N := 8) (v := .int (M (263 + (3 + a1.toNatClampNeg)) 0)) hx hb hts hinX8 hown hK hP (by omega) (lyMSig (by omega)) rfl 0 (by decide) w144 (fun _ h9 => h9) rfl dX4_coverFor_20 ?_
  refine w_pc 23 rfl ?_
  obtain ⟨v23, c23, h⟩ := bn1_some h
  refine cl_l (rn_sN (As := [.long v9, .int (M (263 + (3 + a1.toNatClampNeg)) 0)]) (rest := []) ⟨hx, hb, hml, hown, hts⟩ (kX10_mix l D ad cA A (M := M) c23) ⟨va_cnB 2 hts (gdc wm557) rfl rfl rfl (hN _ nw15) (hts _ wm50) hdX10_mix ⟨Nat.le_of_ble_eq_true rfl, Nat.le_of_ble_eq_true rfl⟩, hts _ wm556, trivial⟩ hK hP hD hN rfl hl.1 rfl (lv_room (Nat.le_of_ble_eq_true rfl)) dX4_coverFor_23) hS (fun H locs hP hS => ?_)
  refine w_pc 26 rfl ?_
  refine lv_lstore (lv' := [(4, .long v23), (3, .ref (ad (271 + a1.toNatClampNeg))), (0, .ref (ad 243)), (1, .int a1), (2, .int a2)]) hx hb dX4_coverFor_26 hl (by decide) rfl (fun ls hl => ?_)
  refine lv_lload hx hb dX4_coverFor_28 (lv_at hl 0 rfl) ?_
  refine lv_aload_n hx hb dX4_coverFor_30 rfl (lv_at hl 1 rfl) ?_
  refine gw_get (C := RX3) (T := TX3) (N := 3) (v := .ref (ad (263 + (3 + a1.toNatClampNeg)))) hx hb hts hinX3 hown hK hP (by omega) (lyMLink (by omega)) rfl 0 (by decide) w86 (fun _ h9 => h9) rfl dX4_coverFor_31 ?_
  refine gw_get (C := RX8) (T := TX8) (N := 8) (v := .int (M (263 + (3 + a1.toNatClampNeg)) 1)) hx hb hts hinX8 hown hK hP (by omega) (lyMSig (by omega)) rfl 1 (by decide) w147 (fun _ h9 => h9) rfl dX4_coverFor_34 ?_
  refine w_pc 37 rfl ?_
  obtain ⟨v37, c37, h⟩ := bn1_some h
  refine cl_l (rn_sN (As := [.long v23, .int (M (263 + (3 + a1.toNatClampNeg)) 1)]) (rest := []) ⟨hx, hb, hml, hown, hts⟩ (kX10_mix l D ad cA A (M := M) c37) ⟨va_cnB 2 hts (gdc wm557) rfl rfl rfl (hN _ nw15) (hts _ wm50) hdX10_mix ⟨Nat.le_of_ble_eq_true rfl, Nat.le_of_ble_eq_true rfl⟩, hts _ wm556, trivial⟩ hK hP hD hN rfl hl.1 rfl (lv_room (Nat.le_of_ble_eq_true rfl)) dX4_coverFor_37) hS (fun H locs hP hS => ?_)
  refine w_pc 40 rfl ?_
  refine lv_lstore (lv' := [(4, .long v37), (3, .ref (ad (271 + a1.toNatClampNeg))), (0, .ref (ad 243)), (1, .int a1), (2, .int a2)]) hx hb dX4_coverFor_40 hl (by decide) rfl (fun ls hl => ?_)
  refine lv_lload hx hb dX4_coverFor_42 (lv_at hl 0 rfl) ?_
  refine lv_aload_n hx hb dX4_coverFor_44 rfl (lv_at hl 1 rfl) ?_
  refine gw_get (C := RX3) (T := TX3) (N := 3) (v := .int (M (271 + a1.toNatClampNeg) 1)) hx hb hts hinX3 hown hK hP (by omega) (lyMLink (by omega)) rfl 1 (by decide) w98 (fun _ h9 => h9) rfl dX4_coverFor_45 ?_
  refine w_pc 48 rfl ?_
  obtain ⟨v48, c48, h⟩ := bn1_some h
  refine cl_l (rn_sN (As := [.long v37, .int (M (271 + a1.toNatClampNeg) 1)]) (rest := []) ⟨hx, hb, hml, hown, hts⟩ (kX10_mix l D ad cA A (M := M) c48) ⟨va_cnB 2 hts (gdc wm557) rfl rfl rfl (hN _ nw15) (hts _ wm50) hdX10_mix ⟨Nat.le_of_ble_eq_true rfl, Nat.le_of_ble_eq_true rfl⟩, hts _ wm556, trivial⟩ hK hP hD hN rfl hl.1 rfl (lv_room (Nat.le_of_ble_eq_true rfl)) dX4_coverFor_48) hS (fun H locs hP hS => ?_)
  refine w_pc 51 rfl ?_
  refine lv_lstore (lv' := [(4, .long v48), (3, .ref (ad (271 + a1.toNatClampNeg))), (0, .ref (ad 243)), (1, .int a1), (2, .int a2)]) hx hb dX4_coverFor_51 hl (by decide) rfl (fun ls hl => ?_)
  refine lv_lload hx hb dX4_coverFor_53 (lv_at hl 0 rfl) ?_
  refine lv_aload_n hx hb dX4_coverFor_55 rfl (lv_at hl 1 rfl) ?_
  refine gw_get (C := RX3) (T := TX3) (N := 3) (v := .ref (ad (263 + (3 + a1.toNatClampNeg)))) hx hb hts hinX3 hown hK hP (by omega) (lyMLink (by omega)) rfl 0 (by decide) w86 (fun _ h9 => h9) rfl dX4_coverFor_56 ?_
  refine gw_get (C := RX8) (T := TX8) (N := 8) (v := .int (M (263 + (3 + a1.toNatClampNeg)) 7)) hx hb hts hinX8 hown hK hP (by omega) (lyMSig (by omega)) rfl 7 (by decide) w119 (fun _ h9 => h9) rfl dX4_coverFor_59 ?_
  refine w_pc 62 rfl ?_
  obtain ⟨v62, c62, h⟩ := bn1_some h
  refine cl_l (rn_sN (As := [.long v48, .int (M (263 + (3 + a1.toNatClampNeg)) 7)]) (rest := []) ⟨hx, hb, hml, hown, hts⟩ (kX10_mix l D ad cA A (M := M) c62) ⟨va_cnB 2 hts (gdc wm557) rfl rfl rfl (hN _ nw15) (hts _ wm50) hdX10_mix ⟨Nat.le_of_ble_eq_true rfl, Nat.le_of_ble_eq_true rfl⟩, hts _ wm556, trivial⟩ hK hP hD hN rfl hl.1 rfl (lv_room (Nat.le_of_ble_eq_true rfl)) dX4_coverFor_62) hS (fun H locs hP hS => ?_)
  refine w_pc 65 rfl ?_
  refine lv_lstore (lv' := [(4, .long v62), (3, .ref (ad (271 + a1.toNatClampNeg))), (0, .ref (ad 243)), (1, .int a1), (2, .int a2)]) hx hb dX4_coverFor_65 hl (by decide) rfl (fun ls hl => ?_)
  refine lv_iconst (v := 0) hx hb dX4_coverFor_67 (by decide) ?_
  refine lv_istore (lv' := [(6, .int (0 : Int32)), (4, .long v62), (3, .ref (ad (271 + a1.toNatClampNeg))), (0, .ref (ad 243)), (1, .int a1), (2, .int a2)]) hx hb dX4_coverFor_68 hl (by decide) rfl (fun ls hl => ?_)
  exact lp70 FU v62 (0 : Int32) ls _ _ (lv_sub hl [3, 4, 1, 0] rfl) h hP hS
