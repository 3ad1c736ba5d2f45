def rmX6_isFor : Room := { frames := 0, cells := 0, slots := 0, locals := 0 }
def fX6_isFor (i0 : Nat) (a1 : Int32) (a2 : Int32) (a3 : Int32) (a4 : Int32) (M : Mm) : Option Int32 :=
  if (M (277 + i0) 0) = a1 then (if (M (277 + i0) 1) = a2 then (if (M (277 + i0) 2) = a3 then (if (M (277 + i0) 3) = a4 then (some (1 : Int32)) else (some (0 : Int32))) else (some (0 : Int32))) else (some (0 : Int32))) else (some (0 : Int32))
set_option maxRecDepth 100000 in
set_option maxHeartbeats 4000000 in
theorem kX6_isFor (l : Launch) (D : va_G) (ad : Nat → Nat) (cA : Nat → ClassId) (A : Nat → Prop) {i0 : Nat} {a1 : Int32} {a2 : Int32} {a3 : Int32} {a4 : Int32} {M : Mm} {r : Int32} (hi0 : i0 < 12) (h : fX6_isFor i0 a1 a2 a3 a4 M = some r) : Met l yX6_isFor wsX6_isFor rmX6_isFor (gPc D (tyM cA) 289 (layM ad cA) ad A M [.ref (ad (277 + i0)), .int a1, .int a2, .int a3, .int a4]) (gQi D 289 (layM ad cA) ad A M r) 0 0 A := by
  refine Met.ofW (cc := cX6_isFor) (maxL := 5) (ret := (some .boolean)) (by decide) rfl ?_
  intro p e s m args below meth c s₁ B hml hv
  obtain ⟨ha, hP, hK, hD, hN⟩ := hv
  have hx := B.exec
  have hb := B.bytes
  have hr := B.returns
  have hlk := B.notSynchronized
  have hts : ∀ w ∈ lw_g, w.before args s = true := fun w h => atoms_spec (ws := wsX6_isFor) B.pre w (List.mem_cons_of_mem _ h)
  have hown : s.vm.findClass RX6 = some m.cls := findClass_of_methodNamed B.named
  have hS : va_S A s.heap s.heap [] := va_S.rf
  unfold fX6_isFor at h
  have w9 := hts _ wm351
  have w15 := hts _ wm352
  have w18 := hts _ wm353
  have w21 := hts _ wm354
  refine w_entry ha (Nat.le_of_ble_eq_true rfl) (fun ls hl => ?_)
  have hl : lv_has ls 5 [(0, .ref (ad (277 + i0))), (1, .int a1), (2, .int a2), (3, .int a3), (4, .int a4)] := hl
  refine w_pc 0 rfl ?_
  refine lv_aload_n hx hb dX6_isFor_0 rfl (lv_at hl 0 rfl) ?_
  refine gw_get (C := RX6) (T := TX6) (N := 5) (v := .int (M (277 + i0) 0)) hx hb hts hinX6 hown hK hP (by omega) (lyMRow (by omega)) rfl 0 (by decide) w9 (fun _ h9 => h9) rfl dX6_isFor_1 ?_
  refine lv_iload_n hx hb dX6_isFor_4 rfl (lv_at hl 1 rfl) ?_
  refine w_pc 5 rfl ?_
  refine lv_icmp_ne (tgt := 37) hx hb dX6_isFor_5 (by decide) (fun q5 => ?_) (fun q5 => ?_)
  · replace h := (if_neg q5).symm.trans h
    refine w_pc 37 rfl ?_
    refine lv_iconst (v := 0) hx hb dX6_isFor_37 (by decide) ?_
    exact re_z hx hb hr hlk (Or.inl rfl) (sm_r h) hP hS dX6_isFor_38
  · replace h := (if_pos q5).symm.trans h
    refine w_pc 8 rfl ?_
    refine lv_aload_n hx hb dX6_isFor_8 rfl (lv_at hl 0 rfl) ?_
    refine gw_get (C := RX6) (T := TX6) (N := 5) (v := .int (M (277 + i0) 1)) hx hb hts hinX6 hown hK hP (by omega) (lyMRow (by omega)) rfl 1 (by decide) w15 (fun _ h9 => h9) rfl dX6_isFor_9 ?_
    refine lv_iload_n hx hb dX6_isFor_12 rfl (lv_at hl 2 rfl) ?_
    refine w_pc 13 rfl ?_
    refine lv_icmp_ne (tgt := 37) hx hb dX6_isFor_13 (by decide) (fun q13 => ?_) (fun q13 => ?_)
    · replace h := (if_neg q13).symm.trans h
      refine w_pc 37 rfl ?_
      refine lv_iconst (v := 0) hx hb dX6_isFor_37 (by decide) ?_
      exact re_z hx hb hr hlk (Or.inl rfl) (sm_r h) hP hS dX6_isFor_38
    · replace h := (if_pos q13).symm.trans h
      refine w_pc 16 rfl ?_
      refine lv_aload_n hx hb dX6_isFor_16 rfl (lv_at hl 0 rfl) ?_
      refine gw_get (C := RX6) (T := TX6) (N := 5) (v := .int (M (277 + i0) 2)) hx hb hts hinX6 hown hK hP (by omega) (lyMRow (by omega)) rfl 2 (by decide) w18 (fun _ h9 => h9) rfl dX6_isFor_17 ?_
      refine lv_iload_n hx hb dX6_isFor_20 rfl (lv_at hl 3 rfl) ?_
      refine w_pc 21 rfl ?_
      refine lv_icmp_ne (tgt := 37) hx hb dX6_isFor_21 (by decide) (fun q21 => ?_) (fun q21 => ?_)
      · replace h := (if_neg q21).symm.trans h
        refine w_pc 37 rfl ?_
        refine lv_iconst (v := 0) hx hb dX6_isFor_37 (by decide) ?_
        exact re_z hx hb hr hlk (Or.inl rfl) (sm_r h) hP hS dX6_isFor_38
      · replace h := (if_pos q21).symm.trans h
        refine w_pc 24 rfl ?_
        refine lv_aload_n hx hb dX6_isFor_24 rfl (lv_at hl 0 rfl) ?_
        refine gw_get (C := RX6) (T := TX6) (N := 5) (v := .int (M (277 + i0) 3)) hx hb hts hinX6 hown hK hP (by omega) (lyMRow (by omega)) rfl 3 (by decide) w21 (fun _ h9 => h9) rfl dX6_isFor_25 ?_
        refine lv_iload hx hb dX6_isFor_28 (lv_at hl 4 rfl) ?_
        refine w_pc 30 rfl ?_
        refine lv_icmp_ne (tgt := 37) hx hb dX6_isFor_30 (by decide) (fun q30 => ?_) (fun q30 => ?_)
        · replace h := (if_neg q30).symm.trans h
          refine w_pc 37 rfl ?_
          refine lv_iconst (v := 0) hx hb dX6_isFor_37 (by decide) ?_
          exact re_z hx hb hr hlk (Or.inl rfl) (sm_r h) hP hS dX6_isFor_38
        · replace h := (if_pos q30).symm.trans h
          refine w_pc 33 rfl ?_
          refine lv_iconst (v := 1) hx hb dX6_isFor_33 (by decide) ?_
          refine lv_goto (tgt := 38) hx hb dX6_isFor_34 (by decide) ?_
          exact re_z hx hb hr hlk (Or.inr rfl) (sm_r h) hP hS dX6_isFor_38
def rmX6_fill : Room := { frames := 0, cells := 0, slots := 0, locals := 0 }
def fX6_fill (i0 : Nat) (a1 : Int32) (a2 : Int32) (a3 : Int32) (a4 : Int32) (M : Mm) : Option Mm :=
  nm (up2 M (277 + i0) 0 a1) (fun M2 => nm (up2 M2 (277 + i0) 1 a2) (fun M7 => nm (up2 M7 (277 + i0) 2 a3) (fun M12 => nm (up2 M12 (277 + i0) 3 a4) (fun M18 => nm (up2 M18 (277 + i0) 4 (1 : Int32)) (fun M23 => some M23)))))
set_option maxRecDepth 100000 in
set_option maxHeartbeats 4000000 in
theorem kX6_fill (l : Launch) (D : va_G) (ad : Nat → Nat) (cA : Nat → ClassId) (A : Nat → Prop) {i0 : Nat} {a1 : Int32} {a2 : Int32} {a3 : Int32} {a4 : Int32} {M M1 : Mm} (hi0 : i0 < 12) (h : fX6_fill i0 a1 a2 a3 a4 M = some M1) : Met l yX6_fill wsX6_fill rmX6_fill (gPc D (tyM cA) 289 (layM ad cA) ad A M [.ref (ad (277 + i0)), .int a1, .int a2, .int a3, .int a4]) (gQv D 289 (layM ad cA) ad A M1) 0 0 A := by
  refine Met.ofW (cc := cX6_fill) (maxL := 5) (ret := none) (by decide) rfl ?_
  intro p e s m args below meth c s₁ B hml hv
  obtain ⟨ha, hP, hK, hD, hN⟩ := hv
  have hx := B.exec
  have hb := B.bytes
  have hr := B.returns
  have hlk := B.notSynchronized
  have hts : ∀ w ∈ lw_g, w.before args s = true := fun w h => atoms_spec (ws := wsX6_fill) B.pre w (List.mem_cons_of_mem _ h)
  have hown : s.vm.findClass RX6 = some m.cls := findClass_of_methodNamed B.named
  have hS : va_S A s.heap s.heap [] := va_S.rf
  unfold fX6_fill at h
  have w9 := hts _ wm351
  have w15 := hts _ wm352
  have w18 := hts _ wm353
  have w21 := hts _ wm354
  have w24 := hts _ wm355
  refine w_entry ha (Nat.le_of_ble_eq_true rfl) (fun ls hl => ?_)
  have hl : lv_has ls 5 [(0, .ref (ad (277 + i0))), (1, .int a1), (2, .int a2), (3, .int a3), (4, .int a4)] := hl
  refine w_pc 0 rfl ?_
  refine lv_aload_n hx hb dX6_fill_0 rfl (lv_at hl 0 rfl) ?_
  refine lv_iload_n hx hb dX6_fill_1 rfl (lv_at hl 1 rfl) ?_
  obtain ⟨M2, eM2, h⟩ := nm_some h
  refine gw_put (C := RX6) (T := TX6) (N := 5) (ty := .int) hx hb hts hinX6 tyX6 tyX6_ok nmX6 hown hK hP hD hS (by omega) (lyMRow (by omega)) rfl 0 (by decide) w9 (fun _ h9 => h9) rfl (by decide +kernel) rfl rfl (Nat.le_of_ble_eq_true rfl) rfl eM2 dX6_fill_2 (fun H locs hP hS => ?_)
  refine lv_aload_n hx hb dX6_fill_5 rfl (lv_at hl 0 rfl) ?_
  refine lv_iload_n hx hb dX6_fill_6 rfl (lv_at hl 2 rfl) ?_
  obtain ⟨M7, eM7, h⟩ := nm_some h
  refine gw_put (C := RX6) (T := TX6) (N := 5) (ty := .int) hx hb hts hinX6 tyX6 tyX6_ok nmX6 hown hK hP hD hS (by omega) (lyMRow (by omega)) rfl 1 (by decide) w15 (fun _ h9 => h9) rfl (by decide +kernel) rfl rfl (Nat.le_of_ble_eq_true rfl) rfl eM7 dX6_fill_7 (fun H locs hP hS => ?_)
  refine lv_aload_n hx hb dX6_fill_10 rfl (lv_at hl 0 rfl) ?_
  refine w_pc 11 rfl ?_
  refine lv_iload_n hx hb dX6_fill_11 rfl (lv_at hl 3 rfl) ?_
  obtain ⟨M12, eM12, h⟩ := nm_some h
  refine gw_put (C := RX6) (T := TX6) (N := 5) (ty := .int) hx hb hts hinX6 tyX6 tyX6_ok nmX6 hown hK hP hD hS (by omega) (lyMRow (by omega)) rfl 2 (by decide) w18 (fun _ h9 => h9) rfl (by decide +kernel) rfl rfl (Nat.le_of_ble_eq_true rfl) rfl eM12 dX6_fill_12 (fun H locs hP hS => ?_)
  refine lv_aload_n hx hb dX6_fill_15 rfl (lv_at hl 0 rfl) ?_
  refine lv_iload hx hb dX6_fill_16 (lv_at hl 4 rfl) ?_
  obtain ⟨M18, eM18, h⟩ := nm_some h
  refine gw_put (C := RX6) (T := TX6) (N := 5) (ty := .int) hx hb hts hinX6 tyX6 tyX6_ok nmX6 hown hK hP hD hS (by omega) (lyMRow (by omega)) rfl 3 (by decide) w21 (fun _ h9 => h9) rfl (by decide +kernel) rfl rfl (Nat.le_of_ble_eq_true rfl) rfl eM18 dX6_fill_18 (fun H locs hP hS => ?_)
  refine lv_aload_n hx hb dX6_fill_21 rfl (lv_at hl 0 rfl) ?_
  refine lv_iconst (v := 1) hx hb dX6_fill_22 (by decide) ?_
  obtain ⟨M23, eM23, h⟩ := nm_some h
  refine gw_put (C := RX6) (T := TX6) (N := 5) (ty := .int) hx hb hts hinX6 tyX6 tyX6_ok nmX6 hown hK hP hD hS (by omega) (lyMRow (by omega)) rfl 4 (by decide) w24 (fun _ h9 => h9) rfl (by decide +kernel) rfl rfl (Nat.le_of_ble_eq_true rfl) rfl eM23 dX6_fill_23 (fun H locs hP hS => ?_)
  refine w_pc 26 rfl ?_
  exact re_v hx hb hr hlk h hP hS dX6_fill_26
def rmX10_report : Room := { frames := 1, cells := 0, slots := 0, locals := 24 }
def fX10_report_3 (a1 : Int32) (a2 : Int32) (a3 : Int32) (a4 : Int32) : Nat → Int32 → Mm → Option Mm
  | 0, _, _ => none
  | n + 1, x5, M => if (M 0 6) ≤ x5 then (if (12 : Int32) ≤ (M 0 6) then (some M) else (grd (gin (M 0 6) 12) (bn1 (fX6_fill ((M 0 6).toNatClampNeg) a1 a2 a3 a4 M) (fun M76 => nm (up2 M76 0 6 ((M76 0 6) + (1 : Int32))) (fun M86 => some M86))))) else (grd (gin x5 12) (bn1 (fX6_isFor x5.toNatClampNeg a1 a2 a3 a4 M) (fun v24 => if v24 = 0 then ((fX10_report_3 a1 a2 a3 a4 n) (x5 + 1) M) else (grd (gin x5 12) (nm (up2 M (277 + x5.toNatClampNeg) 4 ((M (277 + x5.toNatClampNeg) 4) + (1 : Int32))) (fun M43 => some M43))))))
def fX10_report (a1 : Int32) (a2 : Int32) (a3 : Int32) (a4 : Int32) (M : Mm) : Option Mm :=
  fX10_report_3 a1 a2 a3 a4 FU (0 : Int32) M
set_option maxRecDepth 100000 in
set_option maxHeartbeats 4000000 in
theorem kX10_report (l : Launch) (D : va_G) (ad : Nat → Nat) (cA : Nat → ClassId) (A : Nat → Prop) {a1 : Int32} {a2 : Int32} {a3 : Int32} {a4 : Int32} {M M1 : Mm} (h : fX10_report a1 a2 a3 a4 M = some M1) : Met l yX10_report wsX10_report rmX10_report (gPc D (tyM cA) 289 (layM ad cA) ad A M [.ref (ad 0), .int a1, .int a2, .int a3, .int a4]) (gQv D 289 (layM ad cA) ad A M1) 0 0 A := by
  refine Met.ofW (cc := cX10_report) (maxL := 6) (ret := none) (by decide) rfl ?_
  intro p e s m args below meth c s₁ B hml hv
  obtain ⟨ha, hP, hK, hD, hN⟩ := hv
  have hx := B.exec
  have hb := B.bytes
  have hr := B.returns
  have hlk := B.notSynchronized
  have hts : ∀ w ∈ lw_g, w.before args s = true := fun w h => atoms_spec (ws := wsX10_report) B.pre w (List.mem_cons_of_mem _ h)
  have hown : s.vm.findClass RX10 = some m.cls := findClass_of_methodNamed B.named
  have hS : va_S A s.heap s.heap [] := va_S.rf
  unfold fX10_report at h
  have w48 := hts _ wm374
  have w43 := hts _ wm373
  have w320 := hts _ wm356
  have lp3 : ∀ (n : Nat) (x5 : Int32) (M : Mm) (ls : Array Slot) (H : Heap) (locs : List Loc), lv_has ls 6 [(0, .ref (ad 0)), (1, .int a1), (2, .int a2), (3, .int a3), (4, .int a4), (5, .int x5)] → fX10_report_3 a1 a2 a3 a4 n x5 M = some M1 → va_P D vwCl (gw 289 (layM ad cA) ad M) H → va_S A s.heap H locs → W p l e (headSpec wsX10_report rmX10_report).room s m args below meth c H locs 0 0 (MQ below (gQv D 289 (layM ad cA) ad A M1) args s 0 0 A) (F0 m 3 ls []) := by
    intro n
    induction n with
    | zero =>
      intro x5 M ls H locs hl h hP hS
      rw [fX10_report_3] at h
      cases h
    | succ n ih3 =>
      intro x5 M ls H locs hl h hP hS
      rw [fX10_report_3] at h
      refine w_pc 3 rfl ?_
      refine lv_iload hx hb dX10_report_3 (lv_at hl 5 rfl) ?_
      refine lv_aload_n hx hb dX10_report_5 rfl (lv_at hl 0 rfl) ?_
      refine gw_get (C := RX10) (T := TX10) (N := 8) (v := .int (M 0 6)) hx hb hts hinX10 hown hK hP (by omega) lyMMA rfl 6 (by decide) w48 (fun _ h9 => h9) rfl dX10_report_6 ?_
      refine w_pc 9 rfl ?_
      refine lv_icmp_ge (tgt := 53) hx hb dX10_report_9 (by decide) (fun q9 => ?_) (fun q9 => ?_)
      · replace h := (if_pos q9).symm.trans h
        refine w_pc 53 rfl ?_
        refine lv_aload_n hx hb dX10_report_53 rfl (lv_at hl 0 rfl) ?_
        refine gw_get (C := RX10) (T := TX10) (N := 8) (v := .int (M 0 6)) hx hb hts hinX10 hown hK hP (by omega) lyMMA rfl 6 (by decide) w48 (fun _ h9 => h9) rfl dX10_report_54 ?_
        refine lv_bipush (v := 12) hx hb dX10_report_57 (by decide) ?_
        refine w_pc 59 rfl ?_
        refine lv_icmp_ge (tgt := 89) hx hb dX10_report_59 (by decide) (fun q59 => ?_) (fun q59 => ?_)
        · replace h := (if_pos q59).symm.trans h
          refine w_pc 89 rfl ?_
          exact re_v hx hb hr hlk h hP hS dX10_report_89
        · replace h := (if_neg q59).symm.trans h
          refine w_pc 62 rfl ?_
          refine lv_aload_n hx hb dX10_report_62 rfl (lv_at hl 0 rfl) ?_
          refine gw_get (C := RX10) (T := TX10) (N := 8) (v := .ref (ad 276)) hx hb hts hinX10 hown hK hP (by omega) lyMMA rfl 5 (by decide) w43 (fun _ h9 => h9) rfl dX10_report_63 ?_
          refine lv_aload_n hx hb dX10_report_66 rfl (lv_at hl 0 rfl) ?_
          refine gw_get (C := RX10) (T := TX10) (N := 8) (v := .int (M 0 6)) hx hb hts hinX10 hown hK hP (by omega) lyMMA rfl 6 (by decide) w48 (fun _ h9 => h9) rfl dX10_report_67 ?_
          obtain ⟨g70, h⟩ := gd_in h
          have b70 := some_lo g70
          refine gw_aald hx hb hK hP 3 (by omega) lyMaRow rfl g70 dX10_report_70 ?_
          refine lv_iload_n hx hb dX10_report_71 rfl (lv_at hl 1 rfl) ?_
          refine lv_iload_n hx hb dX10_report_72 rfl (lv_at hl 2 rfl) ?_
          refine w_pc 73 rfl ?_
          refine lv_iload_n hx hb dX10_report_73 rfl (lv_at hl 3 rfl) ?_
          refine lv_iload hx hb dX10_report_74 (lv_at hl 4 rfl) ?_
          refine w_pc 76 rfl ?_
          obtain ⟨M76, c76, h⟩ := bn1_some h
          refine cl_v (rn_v (As := [.int a1, .int a2, .int a3, .int a4]) (rest := []) ⟨hx, hb, hml, hown, hts⟩ (kX6_fill l D ad cA A (by omega) c76) ⟨callB_of 4 hts (gdc wm708) rfl rfl rfl (hts _ wm60) (hts _ wm705) hdX6_fill ⟨Nat.le_of_ble_eq_true rfl, Nat.le_of_ble_eq_true rfl⟩, hts _ wm706, hts _ wm707⟩ hK hP hD hN (by omega) (lyMRow (by omega)) rfl rfl hl.1 rfl (lv_room (Nat.le_of_ble_eq_true rfl)) dX10_report_76) hS (fun H locs hP hS => ?_)
          refine w_pc 79 rfl ?_
          refine lv_aload_n hx hb dX10_report_79 rfl (lv_at hl 0 rfl) ?_
          refine lv_dup hx hb dX10_report_80 rfl ?_
          refine gw_get (C := RX10) (T := TX10) (N := 8) (v := .int (M76 0 6)) hx hb hts hinX10 hown hK hP (by omega) lyMMA rfl 6 (by decide) w48 (fun _ h9 => h9) rfl dX10_report_81 ?_
          refine lv_iconst (v := 1) hx hb dX10_report_84 (by decide) ?_
          refine lv_iadd hx hb dX10_report_85 ?_
          obtain ⟨M86, eM86, h⟩ := nm_some h
          refine gw_put (C := RX10) (T := TX10) (N := 8) (ty := .int) hx hb hts hinX10 tyX10 tyX10_ok nmX10 hown hK hP hD hS (by omega) lyMMA rfl 6 (by decide) w48 (fun _ h9 => h9) rfl (by decide +kernel) rfl rfl (Nat.le_of_ble_eq_true rfl) rfl eM86 dX10_report_86 (fun H locs hP hS => ?_)
          exact re_v hx hb hr hlk h hP hS dX10_report_89
      · replace h := (if_neg q9).symm.trans h
        refine w_pc 12 rfl ?_
        refine lv_aload_n hx hb dX10_report_12 rfl (lv_at hl 0 rfl) ?_
        refine gw_get (C := RX10) (T := TX10) (N := 8) (v := .ref (ad 276)) hx hb hts hinX10 hown hK hP (by omega) lyMMA rfl 5 (by decide) w43 (fun _ h9 => h9) rfl dX10_report_13 ?_
        refine lv_iload hx hb dX10_report_16 (lv_at hl 5 rfl) ?_
        obtain ⟨g18, h⟩ := gd_in h
        have b18 := some_lo g18
        refine gw_aald hx hb hK hP 3 (by omega) lyMaRow rfl g18 dX10_report_18 ?_
        refine lv_iload_n hx hb dX10_report_19 rfl (lv_at hl 1 rfl) ?_
        refine lv_iload_n hx hb dX10_report_20 rfl (lv_at hl 2 rfl) ?_
        refine lv_iload_n hx hb dX10_report_21 rfl (lv_at hl 3 rfl) ?_
        refine w_pc 22 rfl ?_
        refine lv_iload hx hb dX10_report_22 (lv_at hl 4 rfl) ?_
        refine w_pc 24 rfl ?_
        obtain ⟨v24, c24, h⟩ := bn1_some h
        refine cl_i (rn_v (As := [.int a1, .int a2, .int a3, .int a4]) (rest := []) ⟨hx, hb, hml, hown, hts⟩ (kX6_isFor l D ad cA A (by omega) c24) ⟨callB_of 4 hts (gdc wm704) rfl rfl rfl (hts _ wm60) (hts _ wm701) hdX6_isFor ⟨Nat.le_of_ble_eq_true rfl, Nat.le_of_ble_eq_true rfl⟩, hts _ wm702, hts _ wm703⟩ hK hP hD hN (by omega) (lyMRow (by omega)) rfl rfl hl.1 rfl (lv_room (Nat.le_of_ble_eq_true rfl)) dX10_report_24) hS (fun H locs hP hS => ?_)
        refine w_pc 27 rfl ?_
        refine w_pc 27 rfl ?_
        refine lv_if_eq (tgt := 47) hx hb dX10_report_27 (by decide) (fun q27 => ?_) (fun q27 => ?_)
        · replace h := (if_pos q27).symm.trans h
          refine w_pc 47 rfl ?_
          refine lv_iinc (k := 5) (v := x5 + 1) (lv' := [(5, .int (x5 + 1)), (0, .ref (ad 0)), (1, .int a1), (2, .int a2), (3, .int a3), (4, .int a4)]) hx hb dX10_report_47 hl rfl rfl (by decide) rfl (fun ls hl => ?_)
          refine lv_goto (tgt := 3) hx hb dX10_report_50 (by decide) ?_
          exact ih3 (x5 + 1) M ls _ _ (lv_sub hl [1, 2, 3, 4, 5, 0] rfl) h hP hS
        · replace h := (if_neg q27).symm.trans h
          refine w_pc 30 rfl ?_
          refine lv_aload_n hx hb dX10_report_30 rfl (lv_at hl 0 rfl) ?_
          refine gw_get (C := RX10) (T := TX10) (N := 8) (v := .ref (ad 276)) hx hb hts hinX10 hown hK hP (by omega) lyMMA rfl 5 (by decide) w43 (fun _ h9 => h9) rfl dX10_report_31 ?_
          refine lv_iload hx hb dX10_report_34 (lv_at hl 5 rfl) ?_
          obtain ⟨g36, h⟩ := gd_in h
          have b36 := some_lo g36
          refine gw_aald hx hb hK hP 3 (by omega) lyMaRow rfl g36 dX10_report_36 ?_
          refine lv_dup hx hb dX10_report_37 rfl ?_
          refine gw_get (C := RX6) (T := TX6) (N := 5) (v := .int (M (277 + x5.toNatClampNeg) 4)) hx hb hts hinX6 hown hK hP (by omega) (lyMRow (by omega)) rfl 4 (by decide) w320 (fun _ h9 => h9) rfl dX10_report_38 ?_
          refine lv_iconst (v := 1) hx hb dX10_report_41 (by decide) ?_
          refine w_pc 42 rfl ?_
          refine lv_iadd hx hb dX10_report_42 ?_
          obtain ⟨M43, eM43, h⟩ := nm_some h
          refine gw_put (C := RX6) (T := TX6) (N := 5) (ty := .int) hx hb hts hinX6 tyX6 tyX6_ok nmX6 hown hK hP hD hS (by omega) (lyMRow (by omega)) rfl 4 (by decide) w320 (fun _ h9 => h9) rfl (by decide +kernel) rfl rfl (Nat.le_of_ble_eq_true rfl) rfl eM43 dX10_report_43 (fun H locs hP hS => ?_)
          exact re_v hx hb hr hlk h hP hS dX10_report_46
  refine w_entry ha (Nat.le_of_ble_eq_true rfl) (fun ls hl => ?_)
  have hl : lv_has ls 6 [(0, .ref (ad 0)), (1, .int a1), (2, .int a2), (3, .int a3), (4, .int a4)] := hl
  refine w_pc 0 rfl ?_
  refine lv_iconst (v := 0) hx hb dX10_report_0 (by decide) ?_
  refine lv_istore (lv' := [(5, .int (0 : Int32)), (0, .ref (ad 0)), (1, .int a1), (2, .int a2), (3, .int a3), (4, .int a4)]) hx hb dX10_report_1 hl (by decide) rfl (fun ls hl => ?_)
  exact lp3 FU (0 : Int32) M ls _ _ (lv_sub hl [1, 2, 3, 4, 5, 0] rfl) h hP hS
def rmX10_judge : Room := { frames := 44, cells := 0, slots := 0, locals := 1685 }
def fX10_judge_92 (a1 : Int32) (x2 : Int32) (x4 : Int32) (s0 : Int32) (M : Mm) : Option (Int32 × Mm) :=
  grd (gin (M 243 2) 20) (bn1 (fX10_report (M (2 + (M 243 2).toNatClampNeg) 1) (M 243 3) s0 x2 M) (fun M120 => if x4 = 0 then (some (s0, M120)) else (some ((s0 + (4 : Int32)), M120))))
def fX10_judge_75 (a1 : Int32) (x2 : Int32) (j3 : Nat) (s0 : Int32) (M : Mm) : Option (Int32 × Mm) :=
  if s0 = 0 then (bn1 (fX10_actionBy j3 a1 M) (fun v89 => fX10_judge_92 a1 x2 s0 v89 M)) else (fX10_judge_92 a1 x2 s0 (0 : Int32) M)
def fX10_judge_70 (a1 : Int32) (x2 : Int32) (j3 : Nat) (M : Mm) : Option (Int32 × Mm) :=
  fX10_judge_75 a1 x2 j3 (1 : Int32) M
def fX10_judge (a1 : Int32) (M : Mm) : Option (Int32 × Mm) :=
  if (M 243 0) = 0 then (some ((-1 : Int32), M)) else (bn1 (fX10_isWithin a1 (0 : Int32) (99 : Int32)) (fun v14 => if v14 = 0 then (some ((-1 : Int32), M)) else (bn2 (fX0_start (M 243 1) (M 243 3) M) (fun v44 M44 => bn1 (fX10_policyOfAuthor M44) (fun v49 => grd (decide (v49 < 21)) (bn1 (fX10_senderAgrees v44 v49 M44) (fun v56 => if v56 = 0 then (bn2 (fX10_signatureAgrees v49 M44) (fun v64 M64 => if v64 = 0 then (fX10_judge_75 a1 v44 v49 (0 : Int32) M64) else (fX10_judge_70 a1 v44 v49 M64))) else (fX10_judge_70 a1 v44 v49 M44))))))))
set_option maxRecDepth 100000 in
set_option maxHeartbeats 4000000 in
theorem kX10_judge (l : Launch) (D : va_G) (ad : Nat → Nat) (cA : Nat → ClassId) (A : Nat → Prop) {a1 : Int32} {M M1 : Mm} {r : Int32} (h : fX10_judge a1 M = some (r, M1)) : Met l yX10_judge wsX10_judge rmX10_judge (gPc D (tyM cA) 289 (layM ad cA) ad A M [.ref (ad 0), .int a1]) (gQi D 289 (layM ad cA) ad A M1 r) 0 0 A := by
  refine Met.ofW (cc := cX10_judge) (maxL := 6) (ret := (some .int)) (by decide) rfl ?_
  intro p e s m args below meth c s₁ B hml hv
  obtain ⟨ha, hP, hK, hD, hN⟩ := hv
  have hx := B.exec
  have hb := B.bytes
  have hr := B.returns
  have hlk := B.notSynchronized
  have hts : ∀ w ∈ lw_g, w.before args s = true := fun w h => atoms_spec (ws := wsX10_judge) B.pre w (List.mem_cons_of_mem _ h)
  have hown : s.vm.findClass RX10 = some m.cls := findClass_of_methodNamed B.named
  have hS : va_S A s.heap s.heap [] := va_S.rf
  unfold fX10_judge at h
  have w30 := hts _ wm371
  have w126 := hts _ wm282
  have w37 := hts _ wm372
  have w11 := hts _ wm368
  have w189 := hts _ wm284
  have w192 := hts _ wm288
  have w228 := hts _ wm286
  have w66 := hts _ wm156
  have bk92 : ∀ (x2 : Int32) (x4 : Int32) (s0 : Int32) (M : Mm) (ls : Array Slot) (H : Heap) (locs : List Loc), lv_has ls 6 [(0, .ref (ad 0)), (2, .int x2), (4, .int x4)] → fX10_judge_92 a1 x2 x4 s0 M = some (r, M1) → va_P D vwCl (gw 289 (layM ad cA) ad M) H → va_S A s.heap H locs → W p l e (headSpec wsX10_judge rmX10_judge).room s m args below meth c H locs 0 0 (MQ below (gQi D 289 (layM ad cA) ad A M1 r) args s 0 0 A) (F0 m 92 ls [.int s0]) := by
    intro x2 x4 s0 M ls H locs hl h hP hS
    unfold fX10_judge_92 at h
    refine w_pc 92 rfl ?_
    refine lv_istore (lv' := [(5, .int s0), (0, .ref (ad 0)), (2, .int x2), (4, .int x4)]) hx hb dX10_judge_92 hl (by decide) rfl (fun ls hl => ?_)
    refine lv_aload_n hx hb dX10_judge_94 rfl (lv_at hl 1 rfl) ?_
    refine lv_aload_n hx hb dX10_judge_95 rfl (lv_at hl 1 rfl) ?_
    refine gw_get (C := RX10) (T := TX10) (N := 8) (v := .ref (ad 1)) hx hb hts hinX10 hown hK hP (by omega) lyMMA rfl 0 (by decide) w11 (fun _ h9 => h9) rfl dX10_judge_96 ?_
    refine lv_aload_n hx hb dX10_judge_99 rfl (lv_at hl 1 rfl) ?_
    refine gw_get (C := RX10) (T := TX10) (N := 8) (v := .ref (ad 243)) hx hb hts hinX10 hown hK hP (by omega) lyMMA rfl 3 (by decide) w30 (fun _ h9 => h9) rfl dX10_judge_100 ?_
    refine gw_get (C := RX4) (T := TX4) (N := 13) (v := .int (M 243 2)) hx hb hts hinX4 hown hK hP (by omega) lyMMail rfl 2 (by decide) w228 (fun _ h9 => h9) rfl dX10_judge_103 ?_
    refine w_pc 106 rfl ?_
    obtain ⟨g106, h⟩ := gd_in h
    have b106 := some_lo g106
    refine gw_aald hx hb hK hP 2 (by omega) lyMaDom rfl g106 dX10_judge_106 ?_
    refine gw_get (C := RX1) (T := TX1) (N := 8) (v := .int (M (2 + (M 243 2).toNatClampNeg) 1)) hx hb hts hinX1 hown hK hP (by omega) (lyMDom (by omega)) rfl 1 (by decide) w66 (fun _ h9 => h9) rfl dX10_judge_107 ?_
    refine lv_aload_n hx hb dX10_judge_110 rfl (lv_at hl 1 rfl) ?_
    refine gw_get (C := RX10) (T := TX10) (N := 8) (v := .ref (ad 243)) hx hb hts hinX10 hown hK hP (by omega) lyMMA rfl 3 (by decide) w30 (fun _ h9 => h9) rfl dX10_judge_111 ?_
    refine gw_get (C := RX4) (T := TX4) (N := 13) (v := .int (M 243 3)) hx hb hts hinX4 hown hK hP (by omega) lyMMail rfl 3 (by decide) w192 (fun _ h9 => h9) rfl dX10_judge_114 ?_
    refine lv_iload hx hb dX10_judge_117 (lv_at hl 0 rfl) ?_
    refine lv_iload_n hx hb dX10_judge_119 rfl (lv_at hl 2 rfl) ?_
    refine w_pc 120 rfl ?_
    obtain ⟨M120, c120, h⟩ := bn1_some h
    refine cl_v (rn_v (As := [.int (M (2 + (M 243 2).toNatClampNeg) 1), .int (M 243 3), .int s0, .int x2]) (rest := []) ⟨hx, hb, hml, hown, hts⟩ (kX10_report l D ad cA A c120) ⟨callB_of 4 hts (gdc wm700) rfl rfl rfl (hts _ wm50) (hts _ wm697) hdX10_report ⟨Nat.le_of_ble_eq_true rfl, Nat.le_of_ble_eq_true rfl⟩, hts _ wm699, hts _ wm20⟩ hK hP hD hN (by omega) lyMMA rfl rfl hl.1 rfl (lv_room (Nat.le_of_ble_eq_true rfl)) dX10_judge_120) hS (fun H locs hP hS => ?_)
    refine w_pc 123 rfl ?_
    refine lv_iload hx hb dX10_judge_123 (lv_at hl 3 rfl) ?_
    refine w_pc 125 rfl ?_
    refine lv_if_eq (tgt := 135) hx hb dX10_judge_125 (by decide) (fun q125 => ?_) (fun q125 => ?_)
    · replace h := (if_pos q125).symm.trans h
      refine w_pc 135 rfl ?_
      refine lv_iload hx hb dX10_judge_135 (lv_at hl 0 rfl) ?_
      exact re_i hx hb hr hlk h hP hS dX10_judge_137
    · replace h := (if_neg q125).symm.trans h
      refine w_pc 128 rfl ?_
      refine lv_iload hx hb dX10_judge_128 (lv_at hl 0 rfl) ?_
      refine lv_iconst (v := 4) hx hb dX10_judge_130 (by decide) ?_
      refine lv_iadd hx hb dX10_judge_131 ?_
      refine lv_goto (tgt := 137) hx hb dX10_judge_132 (by decide) ?_
      exact re_i hx hb hr hlk h hP hS dX10_judge_137
  have bk75 : ∀ (x2 : Int32) (j3 : Nat) (s0 : Int32) (M : Mm) (ls : Array Slot) (H : Heap) (locs : List Loc), j3 < 21 → lv_has ls 6 [(0, .ref (ad 0)), (1, .int a1), (2, .int x2), (3, .ref (ad (222 + j3)))] → fX10_judge_75 a1 x2 j3 s0 M = some (r, M1) → va_P D vwCl (gw 289 (layM ad cA) ad M) H → va_S A s.heap H locs → W p l e (headSpec wsX10_judge rmX10_judge).room s m args below meth c H locs 0 0 (MQ below (gQi D 289 (layM ad cA) ad A M1 r) args s 0 0 A) (F0 m 75 ls [.int s0]) := by
    intro x2 j3 s0 M ls H locs hbj3 hl h hP hS
    unfold fX10_judge_75 at h
    refine w_pc 75 rfl ?_
    refine lv_istore (lv' := [(4, .int s0), (0, .ref (ad 0)), (1, .int a1), (2, .int x2), (3, .ref (ad (222 + j3)))]) hx hb dX10_judge_75 hl (by decide) rfl (fun ls hl => ?_)
    refine lv_iload hx hb dX10_judge_77 (lv_at hl 0 rfl) ?_
    refine w_pc 79 rfl ?_
    refine lv_if_eq (tgt := 86) hx hb dX10_judge_79 (by decide) (fun q79 => ?_) (fun q79 => ?_)
    · replace h := (if_pos q79).symm.trans h
      refine w_pc 86 rfl ?_
      refine lv_aload_n hx hb dX10_judge_86 rfl (lv_at hl 1 rfl) ?_
      refine lv_aload_n hx hb dX10_judge_87 rfl (lv_at hl 4 rfl) ?_
      refine lv_iload_n hx hb dX10_judge_88 rfl (lv_at hl 2 rfl) ?_
      refine w_pc 89 rfl ?_
      obtain ⟨v89, c89, h⟩ := bn1_some h
      refine cl_i (rn_v (As := [.ref (ad (222 + j3)), .int a1]) (rest := []) ⟨hx, hb, hml, hown, hts⟩ (kX10_actionBy l D ad cA A (by omega) c89) ⟨callB_of 2 hts (gdc wm696) rfl rfl rfl (hts _ wm50) (hts _ wm693) hdX10_actionBy ⟨Nat.le_of_ble_eq_true rfl, Nat.le_of_ble_eq_true rfl⟩, hts _ wm695, hts _ wm19⟩ hK hP hD hN (by omega) lyMMA rfl rfl hl.1 rfl (lv_room (Nat.le_of_ble_eq_true rfl)) dX10_judge_89) hS (fun H locs hP hS => ?_)
      refine w_pc 92 rfl ?_
      exact bk92 x2 s0 v89 M ls _ _ (lv_sub hl [1, 3, 0] rfl) h hP hS
    · replace h := (if_neg q79).symm.trans h
      refine w_pc 82 rfl ?_
      refine lv_iconst (v := 0) hx hb dX10_judge_82 (by decide) ?_
      refine lv_goto (tgt := 92) hx hb dX10_judge_83 (by decide) ?_
      exact bk92 x2 s0 (0 : Int32) M ls _ _ (lv_sub hl [1, 3, 0] rfl) h hP hS
  have bk70 : ∀ (x2 : Int32) (j3 : Nat) (M : Mm) (ls : Array Slot) (H : Heap) (locs : List Loc), j3 < 21 → lv_has ls 6 [(0, .ref (ad 0)), (1, .int a1), (2, .int x2), (3, .ref (ad (222 + j3)))] → fX10_judge_70 a1 x2 j3 M = some (r, M1) → va_P D vwCl (gw 289 (layM ad cA) ad M) H → va_S A s.heap H locs → W p l e (headSpec wsX10_judge rmX10_judge).room s m args below meth c H locs 0 0 (MQ below (gQi D 289 (layM ad cA) ad A M1 r) args s 0 0 A) (F0 m 70 ls []) := by
    intro x2 j3 M ls H locs hbj3 hl h hP hS
    unfold fX10_judge_70 at h
    refine w_pc 70 rfl ?_
    refine lv_iconst (v := 1) hx hb dX10_judge_70 (by decide) ?_
    refine lv_goto (tgt := 75) hx hb dX10_judge_71 (by decide) ?_
    exact bk75 x2 j3 (1 : Int32) M ls _ _ (by omega) (lv_sub hl [0, 1, 2, 3] rfl) h hP hS
  refine w_entry ha (Nat.le_of_ble_eq_true rfl) (fun ls hl => ?_)
  have hl : lv_has ls 6 [(0, .ref (ad 0)), (1, .int a1)] := hl
  refine w_pc 0 rfl ?_
  refine lv_aload_n hx hb dX10_judge_0 rfl (lv_at hl 0 rfl) ?_
  refine gw_get (C := RX10) (T := TX10) (N := 8) (v := .ref (ad 243)) hx hb hts hinX10 hown hK hP (by omega) lyMMA rfl 3 (by decide) w30 (fun _ h9 => h9) rfl dX10_judge_1 ?_
  refine gw_get (C := RX4) (T := TX4) (N := 13) (v := .int (M 243 0)) hx hb hts hinX4 hown hK hP (by omega) lyMMail rfl 0 (by decide) w126 (fun _ h9 => h9) rfl dX10_judge_4 ?_
  refine w_pc 7 rfl ?_
  refine lv_if_eq (tgt := 20) hx hb dX10_judge_7 (by decide) (fun q7 => ?_) (fun q7 => ?_)
  · replace h := (if_pos q7).symm.trans h
    refine w_pc 20 rfl ?_
    refine lv_iconst (v := -1) hx hb dX10_judge_20 (by decide) ?_
    exact re_i hx hb hr hlk h hP hS dX10_judge_21
  · replace h := (if_neg q7).symm.trans h
    refine w_pc 10 rfl ?_
    refine lv_iload_n hx hb dX10_judge_10 rfl (lv_at hl 1 rfl) ?_
    refine lv_iconst (v := 0) hx hb dX10_judge_11 (by decide) ?_
    refine lv_bipush (v := 99) hx hb dX10_judge_12 (by decide) ?_
    refine w_pc 14 rfl ?_
    obtain ⟨v14, c14, h⟩ := bn1_some h
    refine cl_i (rn_s (As := [.int a1, .int (0 : Int32), .int (99 : Int32)]) (rest := []) ⟨hx, hb, hml, hown, hts⟩ (kX10_isWithin l D ad cA A (M := M) c14) ⟨callB_of 3 hts (gdc wm403) rfl rfl rfl (hts _ wm50) (hts _ wm401) hdX10_isWithin ⟨Nat.le_of_ble_eq_true rfl, Nat.le_of_ble_eq_true rfl⟩, hts _ wm402⟩ hK hP hD hN rfl hl.1 rfl (lv_room (Nat.le_of_ble_eq_true rfl)) dX10_judge_14) hS (fun H locs hP hS => ?_)
    refine w_pc 17 rfl ?_
    refine w_pc 17 rfl ?_
    refine lv_if_ne (tgt := 22) hx hb dX10_judge_17 (by decide) (fun q17 => ?_) (fun q17 => ?_)
    · replace h := (if_neg q17).symm.trans h
      refine w_pc 22 rfl ?_
      refine lv_aload_n hx hb dX10_judge_22 rfl (lv_at hl 0 rfl) ?_
      refine gw_get (C := RX10) (T := TX10) (N := 8) (v := .ref (ad 275)) hx hb hts hinX10 hown hK hP (by omega) lyMMA rfl 4 (by decide) w37 (fun _ h9 => h9) rfl dX10_judge_23 ?_
      refine lv_aload_n hx hb dX10_judge_26 rfl (lv_at hl 0 rfl) ?_
      refine gw_get (C := RX10) (T := TX10) (N := 8) (v := .ref (ad 1)) hx hb hts hinX10 hown hK hP (by omega) lyMMA rfl 0 (by decide) w11 (fun _ h9 => h9) rfl dX10_judge_27 ?_
      refine lv_aload_n hx hb dX10_judge_30 rfl (lv_at hl 0 rfl) ?_
      refine gw_get (C := RX10) (T := TX10) (N := 8) (v := .ref (ad 243)) hx hb hts hinX10 hown hK hP (by omega) lyMMA rfl 3 (by decide) w30 (fun _ h9 => h9) rfl dX10_judge_31 ?_
      refine gw_get (C := RX4) (T := TX4) (N := 13) (v := .int (M 243 1)) hx hb hts hinX4 hown hK hP (by omega) lyMMail rfl 1 (by decide) w189 (fun _ h9 => h9) rfl dX10_judge_34 ?_
      refine w_pc 37 rfl ?_
      refine lv_aload_n hx hb dX10_judge_37 rfl (lv_at hl 0 rfl) ?_
      refine gw_get (C := RX10) (T := TX10) (N := 8) (v := .ref (ad 243)) hx hb hts hinX10 hown hK hP (by omega) lyMMA rfl 3 (by decide) w30 (fun _ h9 => h9) rfl dX10_judge_38 ?_
      refine gw_get (C := RX4) (T := TX4) (N := 13) (v := .int (M 243 3)) hx hb hts hinX4 hown hK hP (by omega) lyMMail rfl 3 (by decide) w192 (fun _ h9 => h9) rfl dX10_judge_41 ?_
      refine w_pc 44 rfl ?_
      obtain ⟨v44, M44, c44, h⟩ := bn2_some h
      refine cl_i (rn_v (As := [.ref (ad 1), .int (M 243 1), .int (M 243 3)]) (rest := []) ⟨hx, hb, hml, hown, hts⟩ (kX0_start l D ad cA A c44) ⟨callB_of 3 hts (gdc wm602) rfl rfl rfl (hts _ wm59) (hts _ wm599) hdX0_start ⟨Nat.le_of_ble_eq_true rfl, Nat.le_of_ble_eq_true rfl⟩, hts _ wm600, hts _ wm601⟩ hK hP hD hN (by omega) lyMChk rfl rfl hl.1 rfl (lv_room (Nat.le_of_ble_eq_true rfl)) dX10_judge_44) hS (fun H locs hP hS => ?_)
      refine w_pc 47 rfl ?_
      refine lv_istore_n (lv' := [(2, .int v44), (0, .ref (ad 0)), (1, .int a1)]) hx hb dX10_judge_47 rfl hl (by decide) rfl (fun ls hl => ?_)
      refine lv_aload_n hx hb dX10_judge_48 rfl (lv_at hl 1 rfl) ?_
      refine w_pc 49 rfl ?_
      obtain ⟨v49, c49, h⟩ := bn1_some h
      obtain ⟨g49, h⟩ := gd_lt h
      refine cl_r (rn_v (As := []) (rest := []) ⟨hx, hb, hml, hown, hts⟩ (kX10_policyOfAuthor l D ad cA A c49) ⟨callB_of 0 hts (gdc wm680) rfl rfl rfl (hts _ wm50) (hts _ wm677) hdX10_policyOfAuthor ⟨Nat.le_of_ble_eq_true rfl, Nat.le_of_ble_eq_true rfl⟩, hts _ wm679, hts _ wm15⟩ hK hP hD hN (by omega) lyMMA rfl rfl hl.1 rfl (lv_room (Nat.le_of_ble_eq_true rfl)) dX10_judge_49) hS (fun H locs hP hS => ?_)
      refine w_pc 52 rfl ?_
      refine lv_astore_n (lv' := [(3, .ref (ad (222 + v49))), (2, .int v44), (0, .ref (ad 0)), (1, .int a1)]) hx hb dX10_judge_52 rfl hl (by decide) rfl (fun ls hl => ?_)
      refine lv_aload_n hx hb dX10_judge_53 rfl (lv_at hl 2 rfl) ?_
      refine lv_iload_n hx hb dX10_judge_54 rfl (lv_at hl 1 rfl) ?_
      refine lv_aload_n hx hb dX10_judge_55 rfl (lv_at hl 0 rfl) ?_
      refine w_pc 56 rfl ?_
      obtain ⟨v56, c56, h⟩ := bn1_some h
      refine cl_i (rn_v (As := [.int v44, .ref (ad (222 + v49))]) (rest := []) ⟨hx, hb, hml, hown, hts⟩ (kX10_senderAgrees l D ad cA A (by omega) c56) ⟨callB_of 2 hts (gdc wm684) rfl rfl rfl (hts _ wm50) (hts _ wm681) hdX10_senderAgrees ⟨Nat.le_of_ble_eq_true rfl, Nat.le_of_ble_eq_true rfl⟩, hts _ wm683, hts _ wm16⟩ hK hP hD hN (by omega) lyMMA rfl rfl hl.1 rfl (lv_room (Nat.le_of_ble_eq_true rfl)) dX10_judge_56) hS (fun H locs hP hS => ?_)
      refine w_pc 59 rfl ?_
      refine w_pc 59 rfl ?_
      refine lv_if_ne (tgt := 70) hx hb dX10_judge_59 (by decide) (fun q59 => ?_) (fun q59 => ?_)
      · replace h := (if_neg q59).symm.trans h
        refine w_pc 70 rfl ?_
        exact bk70 v44 v49 M44 ls _ _ (by omega) (lv_sub hl [2, 3, 1, 0] rfl) h hP hS
      · replace h := (if_pos q59).symm.trans h
        refine w_pc 62 rfl ?_
        refine lv_aload_n hx hb dX10_judge_62 rfl (lv_at hl 2 rfl) ?_
        refine lv_aload_n hx hb dX10_judge_63 rfl (lv_at hl 0 rfl) ?_
        refine w_pc 64 rfl ?_
        obtain ⟨v64, M64, c64, h⟩ := bn2_some h
        refine cl_i (rn_v (As := [.ref (ad (222 + v49))]) (rest := []) ⟨hx, hb, hml, hown, hts⟩ (kX10_signatureAgrees l D ad cA A (by omega) c64) ⟨callB_of 1 hts (gdc wm692) rfl rfl rfl (hts _ wm50) (hts _ wm689) hdX10_signatureAgrees ⟨Nat.le_of_ble_eq_true rfl, Nat.le_of_ble_eq_true rfl⟩, hts _ wm691, hts _ wm18⟩ hK hP hD hN (by omega) lyMMA rfl rfl hl.1 rfl (lv_room (Nat.le_of_ble_eq_true rfl)) dX10_judge_64) hS (fun H locs hP hS => ?_)
        refine w_pc 67 rfl ?_
        refine w_pc 67 rfl ?_
        refine lv_if_eq (tgt := 74) hx hb dX10_judge_67 (by decide) (fun q67 => ?_) (fun q67 => ?_)
        · replace h := (if_pos q67).symm.trans h
          refine w_pc 74 rfl ?_
          refine lv_iconst (v := 0) hx hb dX10_judge_74 (by decide) ?_
          exact bk75 v44 v49 (0 : Int32) M64 ls _ _ (by omega) (lv_sub hl [2, 3, 1, 0] rfl) h hP hS
        · replace h := (if_neg q67).symm.trans h
          refine w_pc 70 rfl ?_
          exact bk70 v44 v49 M64 ls _ _ (by omega) (lv_sub hl [2, 3, 1, 0] rfl) h hP hS
    · replace h := (if_pos q17).symm.trans h
      refine w_pc 20 rfl ?_
      refine lv_iconst (v := -1) hx hb dX10_judge_20 (by decide) ?_
      exact re_i hx hb hr hlk h hP hS dX10_judge_21
def rmX6_fieldAt : Room := { frames := 0, cells := 0, slots := 0, locals := 0 }
def fX6_fieldAt (i0 : Nat) (a1 : Int32) (M : Mm) : Option Int32 :=
  if a1 = 0 then (some (M (277 + i0) 0)) else (if a1 = 1 then (some (M (277 + i0) 1)) else (if a1 = 2 then (some (M (277 + i0) 2)) else (if a1 = 3 then (some (M (277 + i0) 3)) else (if a1 = 4 then (some (M (277 + i0) 4)) else (some (-1 : Int32))))))
set_option maxRecDepth 100000 in
set_option maxHeartbeats 4000000 in
theorem kX6_fieldAt (l : Launch) (D : va_G) (ad : Nat → Nat) (cA : Nat → ClassId) (A : Nat → Prop) {i0 : Nat} {a1 : Int32} {M : Mm} {r : Int32} (hi0 : i0 < 12) (h : fX6_fieldAt i0 a1 M = some r) : Met l yX6_fieldAt wsX6_fieldAt rmX6_fieldAt (gPc D (tyM cA) 289 (layM ad cA) ad A M [.ref (ad (277 + i0)), .int a1]) (gQi D 289 (layM ad cA) ad A M r) 0 0 A := by
  refine Met.ofW (cc := cX6_fieldAt) (maxL := 2) (ret := (some .int)) (by decide) rfl ?_
  intro p e s m args below meth c s₁ B hml hv
  obtain ⟨ha, hP, hK, hD, hN⟩ := hv
  have hx := B.exec
  have hb := B.bytes
  have hr := B.returns
  have hlk := B.notSynchronized
  have hts : ∀ w ∈ lw_g, w.before args s = true := fun w h => atoms_spec (ws := wsX6_fieldAt) B.pre w (List.mem_cons_of_mem _ h)
  have hown : s.vm.findClass RX6 = some m.cls := findClass_of_methodNamed B.named
  have hS : va_S A s.heap s.heap [] := va_S.rf
  unfold fX6_fieldAt at h
  have w9 := hts _ wm351
  have w15 := hts _ wm352
  have w18 := hts _ wm353
  have w21 := hts _ wm354
  have w24 := hts _ wm355
  refine w_entry ha (Nat.le_of_ble_eq_true rfl) (fun ls hl => ?_)
  have hl : lv_has ls 2 [(0, .ref (ad (277 + i0))), (1, .int a1)] := hl
  refine w_pc 0 rfl ?_
  refine lv_iload_n hx hb dX6_fieldAt_0 rfl (lv_at hl 1 rfl) ?_
  refine w_pc 1 rfl ?_
  by_cases q1_0 : a1 = 0
  · replace h := (if_pos q1_0).symm.trans h
    refine w_ti q1_0.symm ?_
    refine lv_tableIn (tgt := 36) hx hb dX6_fieldAt_1 (by decide) (by decide) rfl (by decide) ?_
    refine w_pc 36 rfl ?_
    refine lv_aload_n hx hb dX6_fieldAt_36 rfl (lv_at hl 0 rfl) ?_
    refine gw_get (C := RX6) (T := TX6) (N := 5) (v := .int (M (277 + i0) 0)) hx hb hts hinX6 hown hK hP (by omega) (lyMRow (by omega)) rfl 0 (by decide) w9 (fun _ h9 => h9) rfl dX6_fieldAt_37 ?_
    exact re_i hx hb hr hlk (sm_r h) hP hS dX6_fieldAt_40
  replace h := (if_neg q1_0).symm.trans h
  by_cases q1_1 : a1 = 1
  · replace h := (if_pos q1_1).symm.trans h
    refine w_ti q1_1.symm ?_
    refine lv_tableIn (tgt := 41) hx hb dX6_fieldAt_1 (by decide) (by decide) rfl (by decide) ?_
    refine w_pc 41 rfl ?_
    refine lv_aload_n hx hb dX6_fieldAt_41 rfl (lv_at hl 0 rfl) ?_
    refine gw_get (C := RX6) (T := TX6) (N := 5) (v := .int (M (277 + i0) 1)) hx hb hts hinX6 hown hK hP (by omega) (lyMRow (by omega)) rfl 1 (by decide) w15 (fun _ h9 => h9) rfl dX6_fieldAt_42 ?_
    exact re_i hx hb hr hlk (sm_r h) hP hS dX6_fieldAt_45
  replace h := (if_neg q1_1).symm.trans h
  by_cases q1_2 : a1 = 2
  · replace h := (if_pos q1_2).symm.trans h
    refine w_ti q1_2.symm ?_
    refine lv_tableIn (tgt := 46) hx hb dX6_fieldAt_1 (by decide) (by decide) rfl (by decide) ?_
    refine w_pc 46 rfl ?_
    refine lv_aload_n hx hb dX6_fieldAt_46 rfl (lv_at hl 0 rfl) ?_
    refine gw_get (C := RX6) (T := TX6) (N := 5) (v := .int (M (277 + i0) 2)) hx hb hts hinX6 hown hK hP (by omega) (lyMRow (by omega)) rfl 2 (by decide) w18 (fun _ h9 => h9) rfl dX6_fieldAt_47 ?_
    exact re_i hx hb hr hlk (sm_r h) hP hS dX6_fieldAt_50
  replace h := (if_neg q1_2).symm.trans h
  by_cases q1_3 : a1 = 3
  · replace h := (if_pos q1_3).symm.trans h
    refine w_ti q1_3.symm ?_
    refine lv_tableIn (tgt := 51) hx hb dX6_fieldAt_1 (by decide) (by decide) rfl (by decide) ?_
    refine w_pc 51 rfl ?_
    refine lv_aload_n hx hb dX6_fieldAt_51 rfl (lv_at hl 0 rfl) ?_
    refine gw_get (C := RX6) (T := TX6) (N := 5) (v := .int (M (277 + i0) 3)) hx hb hts hinX6 hown hK hP (by omega) (lyMRow (by omega)) rfl 3 (by decide) w21 (fun _ h9 => h9) rfl dX6_fieldAt_52 ?_
    exact re_i hx hb hr hlk (sm_r h) hP hS dX6_fieldAt_55
  replace h := (if_neg q1_3).symm.trans h
  by_cases q1_4 : a1 = 4
  · replace h := (if_pos q1_4).symm.trans h
    refine w_ti q1_4.symm ?_
    refine lv_tableIn (tgt := 56) hx hb dX6_fieldAt_1 (by decide) (by decide) rfl (by decide) ?_
    refine w_pc 56 rfl ?_
    refine lv_aload_n hx hb dX6_fieldAt_56 rfl (lv_at hl 0 rfl) ?_
    refine gw_get (C := RX6) (T := TX6) (N := 5) (v := .int (M (277 + i0) 4)) hx hb hts hinX6 hown hK hP (by omega) (lyMRow (by omega)) rfl 4 (by decide) w24 (fun _ h9 => h9) rfl dX6_fieldAt_57 ?_
    exact re_i hx hb hr hlk (sm_r h) hP hS dX6_fieldAt_60
  replace h := (if_neg q1_4).symm.trans h
  refine lv_tableOut (tgt := 61) hx hb dX6_fieldAt_1 (by have := lv_neT (a := 0) q1_0 (by decide); have := lv_neT (a := 1) q1_1 (by decide); have := lv_neT (a := 2) q1_2 (by decide); have := lv_neT (a := 3) q1_3 (by decide); have := lv_neT (a := 4) q1_4 (by decide); omega) (by decide) ?_
  refine w_pc 61 rfl ?_
  refine lv_iconst (v := -1) hx hb dX6_fieldAt_61 (by decide) ?_
  exact re_i hx hb hr hlk (sm_r h) hP hS dX6_fieldAt_62
def rmX10_row : Room := { frames := 1, cells := 0, slots := 0, locals := 22 }
def fX10_row (a1 : Int32) (a2 : Int32) (M : Mm) : Option Int32 :=
  bn1 (fX10_isWithin a1 (0 : Int32) ((M 0 6) - (1 : Int32))) (fun v8 => if v8 = 0 then (some (-1 : Int32)) else (grd (gin a1 12) (bn1 (fX6_fieldAt a1.toNatClampNeg a2 M) (fun v21 => some v21))))
set_option maxRecDepth 100000 in
set_option maxHeartbeats 4000000 in
theorem kX10_row (l : Launch) (D : va_G) (ad : Nat → Nat) (cA : Nat → ClassId) (A : Nat → Prop) {a1 : Int32} {a2 : Int32} {M : Mm} {r : Int32} (h : fX10_row a1 a2 M = some r) : Met l yX10_row wsX10_row rmX10_row (gPc D (tyM cA) 289 (layM ad cA) ad A M [.ref (ad 0), .int a1, .int a2]) (gQi D 289 (layM ad cA) ad A M r) 0 0 A := by
  refine Met.ofW (cc := cX10_row) (maxL := 3) (ret := (some .int)) (by decide) rfl ?_
  intro p e s m args below meth c s₁ B hml hv
  obtain ⟨ha, hP, hK, hD, hN⟩ := hv
  have hx := B.exec
  have hb := B.bytes
  have hr := B.returns
  have hlk := B.notSynchronized
  have hts : ∀ w ∈ lw_g, w.before args s = true := fun w h => atoms_spec (ws := wsX10_row) B.pre w (List.mem_cons_of_mem _ h)
  have hown : s.vm.findClass RX10 = some m.cls := findClass_of_methodNamed B.named
  have hS : va_S A s.heap s.heap [] := va_S.rf
  unfold fX10_row at h
  have w48 := hts _ wm374
  have w43 := hts _ wm373
  refine w_entry ha (Nat.le_of_ble_eq_true rfl) (fun ls hl => ?_)
  have hl : lv_has ls 3 [(0, .ref (ad 0)), (1, .int a1), (2, .int a2)] := hl
  refine w_pc 0 rfl ?_
  refine lv_iload_n hx hb dX10_row_0 rfl (lv_at hl 1 rfl) ?_
  refine lv_iconst (v := 0) hx hb dX10_row_1 (by decide) ?_
  refine lv_aload_n hx hb dX10_row_2 rfl (lv_at hl 0 rfl) ?_
  refine gw_get (C := RX10) (T := TX10) (N := 8) (v := .int (M 0 6)) hx hb hts hinX10 hown hK hP (by omega) lyMMA rfl 6 (by decide) w48 (fun _ h9 => h9) rfl dX10_row_3 ?_
  refine lv_iconst (v := 1) hx hb dX10_row_6 (by decide) ?_
  refine lv_isub hx hb dX10_row_7 ?_
  refine w_pc 8 rfl ?_
  obtain ⟨v8, c8, h⟩ := bn1_some h
  refine cl_i (rn_s (As := [.int a1, .int (0 : Int32), .int ((M 0 6) - (1 : Int32))]) (rest := []) ⟨hx, hb, hml, hown, hts⟩ (kX10_isWithin l D ad cA A (M := M) c8) ⟨callB_of 3 hts (gdc wm403) rfl rfl rfl (hts _ wm50) (hts _ wm401) hdX10_isWithin ⟨Nat.le_of_ble_eq_true rfl, Nat.le_of_ble_eq_true rfl⟩, hts _ wm402⟩ hK hP hD hN rfl hl.1 rfl (lv_room (Nat.le_of_ble_eq_true rfl)) dX10_row_8) hS (fun H locs hP hS => ?_)
  refine w_pc 11 rfl ?_
  refine w_pc 11 rfl ?_
  refine lv_if_eq (tgt := 27) hx hb dX10_row_11 (by decide) (fun q11 => ?_) (fun q11 => ?_)
  · replace h := (if_pos q11).symm.trans h
    refine w_pc 27 rfl ?_
    refine lv_iconst (v := -1) hx hb dX10_row_27 (by decide) ?_
    exact re_i hx hb hr hlk (sm_r h) hP hS dX10_row_28
  · replace h := (if_neg q11).symm.trans h
    refine w_pc 14 rfl ?_
    refine lv_aload_n hx hb dX10_row_14 rfl (lv_at hl 0 rfl) ?_
    refine gw_get (C := RX10) (T := TX10) (N := 8) (v := .ref (ad 276)) hx hb hts hinX10 hown hK hP (by omega) lyMMA rfl 5 (by decide) w43 (fun _ h9 => h9) rfl dX10_row_15 ?_
    refine lv_iload_n hx hb dX10_row_18 rfl (lv_at hl 1 rfl) ?_
    obtain ⟨g19, h⟩ := gd_in h
    have b19 := some_lo g19
    refine gw_aald hx hb hK hP 3 (by omega) lyMaRow rfl g19 dX10_row_19 ?_
    refine lv_iload_n hx hb dX10_row_20 rfl (lv_at hl 2 rfl) ?_
    refine w_pc 21 rfl ?_
    obtain ⟨v21, c21, h⟩ := bn1_some h
    refine cl_i (rn_v (As := [.int a2]) (rest := []) ⟨hx, hb, hml, hown, hts⟩ (kX6_fieldAt l D ad cA A (by omega) c21) ⟨callB_of 1 hts (gdc wm716) rfl rfl rfl (hts _ wm60) (hts _ wm713) hdX6_fieldAt ⟨Nat.le_of_ble_eq_true rfl, Nat.le_of_ble_eq_true rfl⟩, hts _ wm714, hts _ wm715⟩ hK hP hD hN (by omega) (lyMRow (by omega)) rfl rfl hl.1 rfl (lv_room (Nat.le_of_ble_eq_true rfl)) dX10_row_21) hS (fun H locs hP hS => ?_)
    refine w_pc 24 rfl ?_
    refine lv_goto (tgt := 28) hx hb dX10_row_24 (by decide) ?_
    exact re_i hx hb hr hlk (sm_r h) hP hS dX10_row_28
def rmX10_tick : Room := { frames := 1, cells := 0, slots := 0, locals := 22 }
def fX10_tick (a1 : Int32) (M : Mm) : Option (Int32 × Mm) :=
  bn1 (fX10_isWithin a1 (0 : Int32) (1000 : Int32)) (fun v5 => if v5 = 0 then (some ((-1 : Int32), M)) else (nm (up2 M 0 7 ((M 0 7) + a1)) (fun M20 => some ((M20 0 7), M20))))
set_option maxRecDepth 100000 in
set_option maxHeartbeats 4000000 in
theorem kX10_tick (l : Launch) (D : va_G) (ad : Nat → Nat) (cA : Nat → ClassId) (A : Nat → Prop) {a1 : Int32} {M M1 : Mm} {r : Int32} (h : fX10_tick a1 M = some (r, M1)) : Met l yX10_tick wsX10_tick rmX10_tick (gPc D (tyM cA) 289 (layM ad cA) ad A M [.ref (ad 0), .int a1]) (gQi D 289 (layM ad cA) ad A M1 r) 0 0 A := by
  refine Met.ofW (cc := cX10_tick) (maxL := 2) (ret := (some .int)) (by decide) rfl ?_
  intro p e s m args below meth c s₁ B hml hv
  obtain ⟨ha, hP, hK, hD, hN⟩ := hv
  have hx := B.exec
  have hb := B.bytes
  have hr := B.returns
  have hlk := B.notSynchronized
  have hts : ∀ w ∈ lw_g, w.before args s = true := fun w h => atoms_spec (ws := wsX10_tick) B.pre w (List.mem_cons_of_mem _ h)
  have hown : s.vm.findClass RX10 = some m.cls := findClass_of_methodNamed B.named
  have hS : va_S A s.heap s.heap [] := va_S.rf
  unfold fX10_tick at h
  have w51 := hts _ wm375
  refine w_entry ha (Nat.le_of_ble_eq_true rfl) (fun ls hl => ?_)
  have hl : lv_has ls 2 [(0, .ref (ad 0)), (1, .int a1)] := hl
  refine w_pc 0 rfl ?_
  refine lv_iload_n hx hb dX10_tick_0 rfl (lv_at hl 1 rfl) ?_
  refine lv_iconst (v := 0) hx hb dX10_tick_1 (by decide) ?_
  refine lv_sipush (v := 1000) hx hb dX10_tick_2 (by decide) ?_
  refine w_pc 5 rfl ?_
  obtain ⟨v5, c5, h⟩ := bn1_some h
  refine cl_i (rn_s (As := [.int a1, .int (0 : Int32), .int (1000 : Int32)]) (rest := []) ⟨hx, hb, hml, hown, hts⟩ (kX10_isWithin l D ad cA A (M := M) c5) ⟨callB_of 3 hts (gdc wm403) rfl rfl rfl (hts _ wm50) (hts _ wm401) hdX10_isWithin ⟨Nat.le_of_ble_eq_true rfl, Nat.le_of_ble_eq_true rfl⟩, hts _ wm402⟩ hK hP hD hN rfl hl.1 rfl (lv_room (Nat.le_of_ble_eq_true rfl)) dX10_tick_5) hS (fun H locs hP hS => ?_)
  refine w_pc 8 rfl ?_
  refine w_pc 8 rfl ?_
  refine lv_if_ne (tgt := 13) hx hb dX10_tick_8 (by decide) (fun q8 => ?_) (fun q8 => ?_)
  · replace h := (if_neg q8).symm.trans h
    refine w_pc 13 rfl ?_
    refine lv_aload_n hx hb dX10_tick_13 rfl (lv_at hl 0 rfl) ?_
    refine lv_dup hx hb dX10_tick_14 rfl ?_
    refine gw_get (C := RX10) (T := TX10) (N := 8) (v := .int (M 0 7)) hx hb hts hinX10 hown hK hP (by omega) lyMMA rfl 7 (by decide) w51 (fun _ h9 => h9) rfl dX10_tick_15 ?_
    refine lv_iload_n hx hb dX10_tick_18 rfl (lv_at hl 1 rfl) ?_
    refine lv_iadd hx hb dX10_tick_19 ?_
    obtain ⟨M20, eM20, h⟩ := nm_some h
    refine gw_put (C := RX10) (T := TX10) (N := 8) (ty := .int) hx hb hts hinX10 tyX10 tyX10_ok nmX10 hown hK hP hD hS (by omega) lyMMA rfl 7 (by decide) w51 (fun _ h9 => h9) rfl (by decide +kernel) rfl rfl (Nat.le_of_ble_eq_true rfl) rfl eM20 dX10_tick_20 (fun H locs hP hS => ?_)
    refine lv_aload_n hx hb dX10_tick_23 rfl (lv_at hl 0 rfl) ?_
    refine w_pc 24 rfl ?_
    refine gw_get (C := RX10) (T := TX10) (N := 8) (v := .int (M20 0 7)) hx hb hts hinX10 hown hK hP (by omega) lyMMA rfl 7 (by decide) w51 (fun _ h9 => h9) rfl dX10_tick_24 ?_
    exact re_i hx hb hr hlk h hP hS dX10_tick_27
  · replace h := (if_pos q8).symm.trans h
    refine w_pc 11 rfl ?_
    refine lv_iconst (v := -1) hx hb dX10_tick_11 (by decide) ?_
    exact re_i hx hb hr hlk h hP hS dX10_tick_12
