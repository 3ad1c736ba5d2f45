def rmX5_fill : Room := { frames := 0, cells := 0, slots := 0, locals := 0 }
def fX5_fill (i0 : Nat) (a1 : Int32) (a2 : Int32) (a3 : Int32) (a4 : Int32) (M : Mm) : Option Mm :=
  nm (up2 M (222 + i0) 1 a1) (fun M2 => nm (up2 M2 (222 + i0) 2 a2) (fun M7 => nm (up2 M7 (222 + i0) 3 a3) (fun M12 => nm (up2 M12 (222 + i0) 4 a4) (fun M18 => nm (up2 M18 (222 + i0) 0 (1 : Int32)) (fun M23 => some M23)))))
set_option maxRecDepth 100000 in
set_option maxHeartbeats 4000000 in
theorem kX5_fill (l : Launch) (D : va_G) (ad : Nat → Nat) (cA : Nat → ClassId) (A : Nat → Prop) {i0 : Nat} {a1 : Int32} {a2 : Int32} {a3 : Int32} {a4 : Int32} {M M1 : Mm} (hi0 : i0 < 21) (h : fX5_fill i0 a1 a2 a3 a4 M = some M1) : Met l yX5_fill wsX5_fill rmX5_fill (gPc D (tyM cA) 289 (layM ad cA) ad A M [.ref (ad (222 + i0)), .int a1, .int a2, .int a3, .int a4]) (gQv D 289 (layM ad cA) ad A M1) 0 0 A := by
  refine Met.ofW (cc := cX5_fill) (maxL := 5) (ret := none) (by decide) rfl ?_
  intro p e s m args below meth c s₁ B hml hv
  obtain ⟨ha, hP, hK, hD, hN⟩ := hv
  have hx := B.exec
  have hb := B.bytes
  have hr := B.returns
  have hlk := B.notSynchronized
  have hts : ∀ w ∈ lw_g, w.before args s = true := fun w h => atoms_spec (ws := wsX5_fill) B.pre w (List.mem_cons_of_mem _ h)
  have hown : s.vm.findClass RX5 = some m.cls := findClass_of_methodNamed B.named
  have hS : va_S A s.heap s.heap [] := va_S.rf
  unfold fX5_fill at h
  have w9 := hts _ wm136
  have w15 := hts _ wm138
  have w21 := hts _ wm140
  have w18 := hts _ wm142
  have w24 := hts _ wm134
  refine w_entry ha (Nat.le_of_ble_eq_true rfl) (fun ls hl => ?_)
  have hl : lv_has ls 5 [(0, .ref (ad (222 + i0))), (1, .int a1), (2, .int a2), (3, .int a3), (4, .int a4)] := hl
  refine w_pc 0 rfl ?_
  refine lv_aload_n hx hb dX5_fill_0 rfl (lv_at hl 0 rfl) ?_
  refine lv_iload_n hx hb dX5_fill_1 rfl (lv_at hl 1 rfl) ?_
  obtain ⟨M2, eM2, h⟩ := nm_some h
  refine gw_put (C := RX5) (T := TX5) (N := 5) (ty := .int) hx hb hts hinX5 tyX5 tyX5_ok nmX5 hown hK hP hD hS (by omega) (lyMPol (by omega)) rfl 1 (by decide) w9 (fun _ h9 => h9) rfl (by decide +kernel) rfl rfl (Nat.le_of_ble_eq_true rfl) rfl eM2 dX5_fill_2 (fun H locs hP hS => ?_)
  refine lv_aload_n hx hb dX5_fill_5 rfl (lv_at hl 0 rfl) ?_
  refine lv_iload_n hx hb dX5_fill_6 rfl (lv_at hl 2 rfl) ?_
  obtain ⟨M7, eM7, h⟩ := nm_some h
  refine gw_put (C := RX5) (T := TX5) (N := 5) (ty := .int) hx hb hts hinX5 tyX5 tyX5_ok nmX5 hown hK hP hD hS (by omega) (lyMPol (by omega)) rfl 2 (by decide) w15 (fun _ h9 => h9) rfl (by decide +kernel) rfl rfl (Nat.le_of_ble_eq_true rfl) rfl eM7 dX5_fill_7 (fun H locs hP hS => ?_)
  refine lv_aload_n hx hb dX5_fill_10 rfl (lv_at hl 0 rfl) ?_
  refine w_pc 11 rfl ?_
  refine lv_iload_n hx hb dX5_fill_11 rfl (lv_at hl 3 rfl) ?_
  obtain ⟨M12, eM12, h⟩ := nm_some h
  refine gw_put (C := RX5) (T := TX5) (N := 5) (ty := .int) hx hb hts hinX5 tyX5 tyX5_ok nmX5 hown hK hP hD hS (by omega) (lyMPol (by omega)) rfl 3 (by decide) w21 (fun _ h9 => h9) rfl (by decide +kernel) rfl rfl (Nat.le_of_ble_eq_true rfl) rfl eM12 dX5_fill_12 (fun H locs hP hS => ?_)
  refine lv_aload_n hx hb dX5_fill_15 rfl (lv_at hl 0 rfl) ?_
  refine lv_iload hx hb dX5_fill_16 (lv_at hl 4 rfl) ?_
  obtain ⟨M18, eM18, h⟩ := nm_some h
  refine gw_put (C := RX5) (T := TX5) (N := 5) (ty := .int) hx hb hts hinX5 tyX5 tyX5_ok nmX5 hown hK hP hD hS (by omega) (lyMPol (by omega)) rfl 4 (by decide) w18 (fun _ h9 => h9) rfl (by decide +kernel) rfl rfl (Nat.le_of_ble_eq_true rfl) rfl eM18 dX5_fill_18 (fun H locs hP hS => ?_)
  refine lv_aload_n hx hb dX5_fill_21 rfl (lv_at hl 0 rfl) ?_
  refine lv_iconst (v := 1) hx hb dX5_fill_22 (by decide) ?_
  obtain ⟨M23, eM23, h⟩ := nm_some h
  refine gw_put (C := RX5) (T := TX5) (N := 5) (ty := .boolean) hx hb hts hinX5 tyX5 tyX5_ok nmX5 hown hK hP hD hS (by omega) (lyMPol (by omega)) rfl 0 (by decide) w24 (fun _ h9 => h9) rfl (by decide +kernel) (nz_n (Or.inr rfl)) (nz_f (Or.inr rfl)) (Nat.le_of_ble_eq_true rfl) rfl eM23 dX5_fill_23 (fun H locs hP hS => ?_)
  refine w_pc 26 rfl ?_
  exact re_v hx hb hr hlk h hP hS dX5_fill_26
def rmX10_policy : Room := { frames := 2, cells := 0, slots := 0, locals := 43 }
def fX10_policy (a1 : Int32) (a2 : Int32) (a3 : Int32) (a4 : Int32) (a5 : Int32) (M : Mm) : Option (Int32 × Mm) :=
  bn1 (fX10_isDomain a1 M) (fun v2 => if v2 = 0 then (some ((0 : Int32), M)) else (grd (gin a1 20) (if a2 = (-1 : Int32) then (nm (up2 M (222 + a1.toNatClampNeg) 0 (0 : Int32)) (fun M29 => some ((1 : Int32), M29))) else (bn1 (fX10_isWithin a2 (0 : Int32) (2 : Int32)) (fun v37 => if v37 = 0 then (some ((0 : Int32), M)) else (bn1 (fX10_isWithin a3 (0 : Int32) (2 : Int32)) (fun v46 => if v46 = 0 then (some ((0 : Int32), M)) else (bn1 (fX10_isWithin a4 (0 : Int32) (3 : Int32)) (fun v56 => if v56 = 0 then (some ((0 : Int32), M)) else (bn1 (fX10_isWithin a5 (0 : Int32) (100 : Int32)) (fun v67 => if v67 = 0 then (some ((0 : Int32), M)) else (bn1 (fX5_fill a1.toNatClampNeg a2 a3 a4 a5 M) (fun M83 => some ((1 : Int32), M83))))))))))))))
set_option maxRecDepth 100000 in
set_option maxHeartbeats 4000000 in
theorem kX10_policy (l : Launch) (D : va_G) (ad : Nat → Nat) (cA : Nat → ClassId) (A : Nat → Prop) {a1 : Int32} {a2 : Int32} {a3 : Int32} {a4 : Int32} {a5 : Int32} {M M1 : Mm} {r : Int32} (h : fX10_policy a1 a2 a3 a4 a5 M = some (r, M1)) : Met l yX10_policy wsX10_policy rmX10_policy (gPc D (tyM cA) 289 (layM ad cA) ad A M [.ref (ad 0), .int a1, .int a2, .int a3, .int a4, .int a5]) (gQi D 289 (layM ad cA) ad A M1 r) 0 0 A := by
  refine Met.ofW (cc := cX10_policy) (maxL := 7) (ret := (some .boolean)) (by decide) rfl ?_
  intro p e s m args below meth c s₁ B hml hv
  obtain ⟨ha, hP, hK, hD, hN⟩ := hv
  have hx := B.exec
  have hb := B.bytes
  have hr := B.returns
  have hlk := B.notSynchronized
  have hts : ∀ w ∈ lw_g, w.before args s = true := fun w h => atoms_spec (ws := wsX10_policy) B.pre w (List.mem_cons_of_mem _ h)
  have hown : s.vm.findClass RX10 = some m.cls := findClass_of_methodNamed B.named
  have hS : va_S A s.heap s.heap [] := va_S.rf
  unfold fX10_policy at h
  have w11 := hts _ wm368
  have w112 := hts _ wm171
  have w115 := hts _ wm135
  refine w_entry ha (Nat.le_of_ble_eq_true rfl) (fun ls hl => ?_)
  have hl : lv_has ls 7 [(0, .ref (ad 0)), (1, .int a1), (2, .int a2), (3, .int a3), (4, .int a4), (5, .int a5)] := hl
  refine w_pc 0 rfl ?_
  refine lv_aload_n hx hb dX10_policy_0 rfl (lv_at hl 0 rfl) ?_
  refine lv_iload_n hx hb dX10_policy_1 rfl (lv_at hl 1 rfl) ?_
  refine w_pc 2 rfl ?_
  obtain ⟨v2, c2, h⟩ := bn1_some h
  refine cl_i (rn_v (As := [.int a1]) (rest := []) ⟨hx, hb, hml, hown, hts⟩ (kX10_isDomain l D ad cA A c2) ⟨callB_of 1 hts (gdc wm400) rfl rfl rfl (hts _ wm50) (hts _ wm397) hdX10_isDomain ⟨Nat.le_of_ble_eq_true rfl, Nat.le_of_ble_eq_true rfl⟩, hts _ wm399, hts _ wm0⟩ hK hP hD hN (by omega) lyMMA rfl rfl hl.1 rfl (lv_room (Nat.le_of_ble_eq_true rfl)) dX10_policy_2) hS (fun H locs hP hS => ?_)
  refine w_pc 5 rfl ?_
  refine w_pc 5 rfl ?_
  refine lv_if_ne (tgt := 10) hx hb dX10_policy_5 (by decide) (fun q5 => ?_) (fun q5 => ?_)
  · replace h := (if_neg q5).symm.trans h
    refine w_pc 10 rfl ?_
    refine lv_aload_n hx hb dX10_policy_10 rfl (lv_at hl 0 rfl) ?_
    refine gw_get (C := RX10) (T := TX10) (N := 8) (v := .ref (ad 1)) hx hb hts hinX10 hown hK hP (by omega) lyMMA rfl 0 (by decide) w11 (fun _ h9 => h9) rfl dX10_policy_11 ?_
    refine lv_iload_n hx hb dX10_policy_14 rfl (lv_at hl 1 rfl) ?_
    obtain ⟨g15, h⟩ := gd_in h
    have b15 := some_lo g15
    refine gw_aald hx hb hK hP 2 (by omega) lyMaDom rfl g15 dX10_policy_15 ?_
    refine gw_get (C := RX1) (T := TX1) (N := 8) (v := .ref (ad (222 + a1.toNatClampNeg))) hx hb hts hinX1 hown hK hP (by omega) (lyMDom (by omega)) rfl 7 (by decide) w112 (fun _ h9 => h9) rfl dX10_policy_16 ?_
    refine lv_astore (lv' := [(6, .ref (ad (222 + a1.toNatClampNeg))), (0, .ref (ad 0)), (1, .int a1), (2, .int a2), (3, .int a3), (4, .int a4), (5, .int a5)]) hx hb dX10_policy_19 hl (by decide) rfl (fun ls hl => ?_)
    refine lv_iload_n hx hb dX10_policy_21 rfl (lv_at hl 3 rfl) ?_
    refine w_pc 22 rfl ?_
    refine lv_iconst (v := -1) hx hb dX10_policy_22 (by decide) ?_
    refine w_pc 23 rfl ?_
    refine lv_icmp_ne (tgt := 34) hx hb dX10_policy_23 (by decide) (fun q23 => ?_) (fun q23 => ?_)
    · replace h := (if_neg q23).symm.trans h
      refine w_pc 34 rfl ?_
      refine lv_iload_n hx hb dX10_policy_34 rfl (lv_at hl 3 rfl) ?_
      refine lv_iconst (v := 0) hx hb dX10_policy_35 (by decide) ?_
      refine lv_iconst (v := 2) hx hb dX10_policy_36 (by decide) ?_
      refine w_pc 37 rfl ?_
      obtain ⟨v37, c37, h⟩ := bn1_some h
      refine cl_i (rn_s (As := [.int a2, .int (0 : Int32), .int (2 : Int32)]) (rest := []) ⟨hx, hb, hml, hown, hts⟩ (kX10_isWithin l D ad cA A (M := M) c37) ⟨callB_of 3 hts (gdc wm403) rfl rfl rfl (hts _ wm50) (hts _ wm401) hdX10_isWithin ⟨Nat.le_of_ble_eq_true rfl, Nat.le_of_ble_eq_true rfl⟩, hts _ wm402⟩ hK hP hD hN rfl hl.1 rfl (lv_room (Nat.le_of_ble_eq_true rfl)) dX10_policy_37) hS (fun H locs hP hS => ?_)
      refine w_pc 40 rfl ?_
      refine w_pc 40 rfl ?_
      refine lv_if_eq (tgt := 73) hx hb dX10_policy_40 (by decide) (fun q40 => ?_) (fun q40 => ?_)
      · replace h := (if_pos q40).symm.trans h
        refine w_pc 73 rfl ?_
        refine lv_iconst (v := 0) hx hb dX10_policy_73 (by decide) ?_
        exact re_z hx hb hr hlk (Or.inl rfl) h hP hS dX10_policy_74
      · replace h := (if_neg q40).symm.trans h
        refine w_pc 43 rfl ?_
        refine lv_iload_n hx hb dX10_policy_43 rfl (lv_at hl 4 rfl) ?_
        refine lv_iconst (v := 0) hx hb dX10_policy_44 (by decide) ?_
        refine lv_iconst (v := 2) hx hb dX10_policy_45 (by decide) ?_
        refine w_pc 46 rfl ?_
        obtain ⟨v46, c46, h⟩ := bn1_some h
        refine cl_i (rn_s (As := [.int a3, .int (0 : Int32), .int (2 : Int32)]) (rest := []) ⟨hx, hb, hml, hown, hts⟩ (kX10_isWithin l D ad cA A (M := M) c46) ⟨callB_of 3 hts (gdc wm403) rfl rfl rfl (hts _ wm50) (hts _ wm401) hdX10_isWithin ⟨Nat.le_of_ble_eq_true rfl, Nat.le_of_ble_eq_true rfl⟩, hts _ wm402⟩ hK hP hD hN rfl hl.1 rfl (lv_room (Nat.le_of_ble_eq_true rfl)) dX10_policy_46) hS (fun H locs hP hS => ?_)
        refine w_pc 49 rfl ?_
        refine w_pc 49 rfl ?_
        refine lv_if_eq (tgt := 73) hx hb dX10_policy_49 (by decide) (fun q49 => ?_) (fun q49 => ?_)
        · replace h := (if_pos q49).symm.trans h
          refine w_pc 73 rfl ?_
          refine lv_iconst (v := 0) hx hb dX10_policy_73 (by decide) ?_
          exact re_z hx hb hr hlk (Or.inl rfl) h hP hS dX10_policy_74
        · replace h := (if_neg q49).symm.trans h
          refine w_pc 52 rfl ?_
          refine lv_iload hx hb dX10_policy_52 (lv_at hl 5 rfl) ?_
          refine lv_iconst (v := 0) hx hb dX10_policy_54 (by decide) ?_
          refine lv_iconst (v := 3) hx hb dX10_policy_55 (by decide) ?_
          refine w_pc 56 rfl ?_
          obtain ⟨v56, c56, h⟩ := bn1_some h
          refine cl_i (rn_s (As := [.int a4, .int (0 : Int32), .int (3 : Int32)]) (rest := []) ⟨hx, hb, hml, hown, hts⟩ (kX10_isWithin l D ad cA A (M := M) c56) ⟨callB_of 3 hts (gdc wm403) rfl rfl rfl (hts _ wm50) (hts _ wm401) hdX10_isWithin ⟨Nat.le_of_ble_eq_true rfl, Nat.le_of_ble_eq_true rfl⟩, hts _ wm402⟩ hK hP hD hN rfl hl.1 rfl (lv_room (Nat.le_of_ble_eq_true rfl)) dX10_policy_56) hS (fun H locs hP hS => ?_)
          refine w_pc 59 rfl ?_
          refine w_pc 59 rfl ?_
          refine lv_if_eq (tgt := 73) hx hb dX10_policy_59 (by decide) (fun q59 => ?_) (fun q59 => ?_)
          · replace h := (if_pos q59).symm.trans h
            refine w_pc 73 rfl ?_
            refine lv_iconst (v := 0) hx hb dX10_policy_73 (by decide) ?_
            exact re_z hx hb hr hlk (Or.inl rfl) h hP hS dX10_policy_74
          · replace h := (if_neg q59).symm.trans h
            refine w_pc 62 rfl ?_
            refine lv_iload hx hb dX10_policy_62 (lv_at hl 6 rfl) ?_
            refine lv_iconst (v := 0) hx hb dX10_policy_64 (by decide) ?_
            refine lv_bipush (v := 100) hx hb dX10_policy_65 (by decide) ?_
            refine w_pc 67 rfl ?_
            obtain ⟨v67, c67, h⟩ := bn1_some h
            refine cl_i (rn_s (As := [.int a5, .int (0 : Int32), .int (100 : Int32)]) (rest := []) ⟨hx, hb, hml, hown, hts⟩ (kX10_isWithin l D ad cA A (M := M) c67) ⟨callB_of 3 hts (gdc wm403) rfl rfl rfl (hts _ wm50) (hts _ wm401) hdX10_isWithin ⟨Nat.le_of_ble_eq_true rfl, Nat.le_of_ble_eq_true rfl⟩, hts _ wm402⟩ hK hP hD hN rfl hl.1 rfl (lv_room (Nat.le_of_ble_eq_true rfl)) dX10_policy_67) hS (fun H locs hP hS => ?_)
            refine w_pc 70 rfl ?_
            refine w_pc 70 rfl ?_
            refine lv_if_ne (tgt := 75) hx hb dX10_policy_70 (by decide) (fun q70 => ?_) (fun q70 => ?_)
            · replace h := (if_neg q70).symm.trans h
              refine w_pc 75 rfl ?_
              refine lv_aload hx hb dX10_policy_75 (lv_at hl 0 rfl) ?_
              refine lv_iload_n hx hb dX10_policy_77 rfl (lv_at hl 3 rfl) ?_
              refine lv_iload_n hx hb dX10_policy_78 rfl (lv_at hl 4 rfl) ?_
              refine lv_iload hx hb dX10_policy_79 (lv_at hl 5 rfl) ?_
              refine lv_iload hx hb dX10_policy_81 (lv_at hl 6 rfl) ?_
              refine w_pc 83 rfl ?_
              obtain ⟨M83, c83, h⟩ := bn1_some h
              refine cl_v (rn_v (As := [.int a2, .int a3, .int a4, .int a5]) (rest := []) ⟨hx, hb, hml, hown, hts⟩ (kX5_fill l D ad cA A (by omega) c83) ⟨callB_of 4 hts (gdc wm454) rfl rfl rfl (hts _ wm54) (hts _ wm451) hdX5_fill ⟨Nat.le_of_ble_eq_true rfl, Nat.le_of_ble_eq_true rfl⟩, hts _ wm452, hts _ wm453⟩ hK hP hD hN (by omega) (lyMPol (by omega)) rfl rfl hl.1 rfl (lv_room (Nat.le_of_ble_eq_true rfl)) dX10_policy_83) hS (fun H locs hP hS => ?_)
              refine w_pc 86 rfl ?_
              refine lv_iconst (v := 1) hx hb dX10_policy_86 (by decide) ?_
              exact re_z hx hb hr hlk (Or.inr rfl) h hP hS dX10_policy_87
            · replace h := (if_pos q70).symm.trans h
              refine w_pc 73 rfl ?_
              refine lv_iconst (v := 0) hx hb dX10_policy_73 (by decide) ?_
              exact re_z hx hb hr hlk (Or.inl rfl) h hP hS dX10_policy_74
    · replace h := (if_pos q23).symm.trans h
      refine w_pc 26 rfl ?_
      refine lv_aload hx hb dX10_policy_26 (lv_at hl 0 rfl) ?_
      refine lv_iconst (v := 0) hx hb dX10_policy_28 (by decide) ?_
      obtain ⟨M29, eM29, h⟩ := nm_some h
      refine gw_put (C := RX5) (T := TX5) (N := 5) (ty := .boolean) hx hb hts hinX5 tyX5 tyX5_ok nmX5 hown hK hP hD hS (by omega) (lyMPol (by omega)) rfl 0 (by decide) w115 (fun _ h9 => h9) rfl (by decide +kernel) (nz_n (Or.inl rfl)) (nz_f (Or.inl rfl)) (Nat.le_of_ble_eq_true rfl) rfl eM29 dX10_policy_29 (fun H locs hP hS => ?_)
      refine lv_iconst (v := 1) hx hb dX10_policy_32 (by decide) ?_
      exact re_z hx hb hr hlk (Or.inr rfl) h hP hS dX10_policy_33
  · replace h := (if_pos q5).symm.trans h
    refine w_pc 8 rfl ?_
    refine lv_iconst (v := 0) hx hb dX10_policy_8 (by decide) ?_
    exact re_z hx hb hr hlk (Or.inl rfl) h hP hS dX10_policy_9
def rmX4_begin : Room := { frames := 0, cells := 0, slots := 0, locals := 0 }
def fX4_begin (a1 : Int32) (a2 : Int32) (a3 : Int32) (M : Mm) : Option Mm :=
  nm (up2 M 243 1 a1) (fun M2 => nm (up2 M2 243 2 a2) (fun M7 => nm (up2 M7 243 3 a3) (fun M12 => nm (up2 M12 243 0 (1 : Int32)) (fun M17 => nm (up2 M17 243 6 (0 : Int32)) (fun M22 => nm (up2 M22 (246 + 6) 1 (0 : Int32)) (fun M30 => nm (up2 M30 243 10 (0 : Int32)) (fun M35 => nm (up2 M35 243 12 (0 : Int32)) (fun M40 => some M40))))))))
set_option maxRecDepth 100000 in
set_option maxHeartbeats 4000000 in
theorem kX4_begin (l : Launch) (D : va_G) (ad : Nat → Nat) (cA : Nat → ClassId) (A : Nat → Prop) {a1 : Int32} {a2 : Int32} {a3 : Int32} {M M1 : Mm} (h : fX4_begin a1 a2 a3 M = some M1) : Met l yX4_begin wsX4_begin rmX4_begin (gPc D (tyM cA) 289 (layM ad cA) ad A M [.ref (ad 243), .int a1, .int a2, .int a3]) (gQv D 289 (layM ad cA) ad A M1) 0 0 A := by
  refine Met.ofW (cc := cX4_begin) (maxL := 4) (ret := none) (by decide) rfl ?_
  intro p e s m args below meth c s₁ B hml hv
  obtain ⟨ha, hP, hK, hD, hN⟩ := hv
  have hx := B.exec
  have hb := B.bytes
  have hr := B.returns
  have hlk := B.notSynchronized
  have hts : ∀ w ∈ lw_g, w.before args s = true := fun w h => atoms_spec (ws := wsX4_begin) B.pre w (List.mem_cons_of_mem _ h)
  have hown : s.vm.findClass RX4 = some m.cls := findClass_of_methodNamed B.named
  have hS : va_S A s.heap s.heap [] := va_S.rf
  unfold fX4_begin at h
  have w45 := hts _ wm283
  have w49 := hts _ wm285
  have w52 := hts _ wm287
  have w55 := hts _ wm281
  have w59 := hts _ wm291
  have w24 := hts _ wm292
  have w62 := hts _ wm207
  have w65 := hts _ wm296
  have w68 := hts _ wm300
  refine w_entry ha (Nat.le_of_ble_eq_true rfl) (fun ls hl => ?_)
  have hl : lv_has ls 4 [(0, .ref (ad 243)), (1, .int a1), (2, .int a2), (3, .int a3)] := hl
  refine w_pc 0 rfl ?_
  refine lv_aload_n hx hb dX4_begin_0 rfl (lv_at hl 0 rfl) ?_
  refine lv_iload_n hx hb dX4_begin_1 rfl (lv_at hl 1 rfl) ?_
  obtain ⟨M2, eM2, h⟩ := nm_some h
  refine gw_put (C := RX4) (T := TX4) (N := 13) (ty := .int) hx hb hts hinX4 tyX4 tyX4_ok nmX4 hown hK hP hD hS (by omega) lyMMail rfl 1 (by decide) w45 (fun _ h9 => h9) rfl (by decide +kernel) rfl rfl (Nat.le_of_ble_eq_true rfl) rfl eM2 dX4_begin_2 (fun H locs hP hS => ?_)
  refine lv_aload_n hx hb dX4_begin_5 rfl (lv_at hl 0 rfl) ?_
  refine lv_iload_n hx hb dX4_begin_6 rfl (lv_at hl 2 rfl) ?_
  obtain ⟨M7, eM7, h⟩ := nm_some h
  refine gw_put (C := RX4) (T := TX4) (N := 13) (ty := .int) hx hb hts hinX4 tyX4 tyX4_ok nmX4 hown hK hP hD hS (by omega) lyMMail rfl 2 (by decide) w49 (fun _ h9 => h9) rfl (by decide +kernel) rfl rfl (Nat.le_of_ble_eq_true rfl) rfl eM7 dX4_begin_7 (fun H locs hP hS => ?_)
  refine lv_aload_n hx hb dX4_begin_10 rfl (lv_at hl 0 rfl) ?_
  refine w_pc 11 rfl ?_
  refine lv_iload_n hx hb dX4_begin_11 rfl (lv_at hl 3 rfl) ?_
  obtain ⟨M12, eM12, h⟩ := nm_some h
  refine gw_put (C := RX4) (T := TX4) (N := 13) (ty := .int) hx hb hts hinX4 tyX4 tyX4_ok nmX4 hown hK hP hD hS (by omega) lyMMail rfl 3 (by decide) w52 (fun _ h9 => h9) rfl (by decide +kernel) rfl rfl (Nat.le_of_ble_eq_true rfl) rfl eM12 dX4_begin_12 (fun H locs hP hS => ?_)
  refine lv_aload_n hx hb dX4_begin_15 rfl (lv_at hl 0 rfl) ?_
  refine lv_iconst (v := 1) hx hb dX4_begin_16 (by decide) ?_
  obtain ⟨M17, eM17, h⟩ := nm_some h
  refine gw_put (C := RX4) (T := TX4) (N := 13) (ty := .boolean) hx hb hts hinX4 tyX4 tyX4_ok nmX4 hown hK hP hD hS (by omega) lyMMail rfl 0 (by decide) w55 (fun _ h9 => h9) rfl (by decide +kernel) (nz_n (Or.inr rfl)) (nz_f (Or.inr rfl)) (Nat.le_of_ble_eq_true rfl) rfl eM17 dX4_begin_17 (fun H locs hP hS => ?_)
  refine lv_aload_n hx hb dX4_begin_20 rfl (lv_at hl 0 rfl) ?_
  refine lv_iconst (v := 0) hx hb dX4_begin_21 (by decide) ?_
  obtain ⟨M22, eM22, h⟩ := nm_some h
  refine gw_put (C := RX4) (T := TX4) (N := 13) (ty := .int) hx hb hts hinX4 tyX4 tyX4_ok nmX4 hown hK hP hD hS (by omega) lyMMail rfl 6 (by decide) w59 (fun _ h9 => h9) rfl (by decide +kernel) rfl rfl (Nat.le_of_ble_eq_true rfl) rfl eM22 dX4_begin_22 (fun H locs hP hS => ?_)
  refine w_pc 25 rfl ?_
  refine lv_aload_n hx hb dX4_begin_25 rfl (lv_at hl 0 rfl) ?_
  refine gw_get (C := RX4) (T := TX4) (N := 13) (v := .ref (ad (246 + 6))) hx hb hts hinX4 hown hK hP (by omega) lyMMail rfl 7 (by decide) w24 (fun _ h9 => h9) rfl dX4_begin_26 ?_
  refine lv_iconst (v := 0) hx hb dX4_begin_29 (by decide) ?_
  obtain ⟨M30, eM30, h⟩ := nm_some h
  refine gw_put (C := RX9) (T := TX9) (N := 2) (ty := .int) hx hb hts hinX9 tyX9 tyX9_ok nmX9 hown hK hP hD hS (by omega) (lyMText (by omega)) rfl 1 (by decide) w62 (fun _ h9 => h9) rfl (by decide +kernel) rfl rfl (Nat.le_of_ble_eq_true rfl) rfl eM30 dX4_begin_30 (fun H locs hP hS => ?_)
  refine lv_aload_n hx hb dX4_begin_33 rfl (lv_at hl 0 rfl) ?_
  refine lv_iconst (v := 0) hx hb dX4_begin_34 (by decide) ?_
  obtain ⟨M35, eM35, h⟩ := nm_some h
  refine gw_put (C := RX4) (T := TX4) (N := 13) (ty := .int) hx hb hts hinX4 tyX4 tyX4_ok nmX4 hown hK hP hD hS (by omega) lyMMail rfl 10 (by decide) w65 (fun _ h9 => h9) rfl (by decide +kernel) rfl rfl (Nat.le_of_ble_eq_true rfl) rfl eM35 dX4_begin_35 (fun H locs hP hS => ?_)
  refine lv_aload_n hx hb dX4_begin_38 rfl (lv_at hl 0 rfl) ?_
  refine w_pc 39 rfl ?_
  refine lv_iconst (v := 0) hx hb dX4_begin_39 (by decide) ?_
  obtain ⟨M40, eM40, h⟩ := nm_some h
  refine gw_put (C := RX4) (T := TX4) (N := 13) (ty := .int) hx hb hts hinX4 tyX4 tyX4_ok nmX4 hown hK hP hD hS (by omega) lyMMail rfl 12 (by decide) w68 (fun _ h9 => h9) rfl (by decide +kernel) rfl rfl (Nat.le_of_ble_eq_true rfl) rfl eM40 dX4_begin_40 (fun H locs hP hS => ?_)
  exact re_v hx hb hr hlk h hP hS dX4_begin_43
def rmX10_mail : Room := { frames := 2, cells := 0, slots := 0, locals := 43 }
def fX10_mail (a1 : Int32) (a2 : Int32) (a3 : Int32) (M : Mm) : Option (Int32 × Mm) :=
  bn1 (fX10_isDomain a1 M) (fun v2 => if v2 = 0 then (some ((0 : Int32), M)) else (bn1 (fX10_isDomain a2 M) (fun v10 => if v10 = 0 then (some ((0 : Int32), M)) else (bn1 (fX4_begin a1 a2 a3 M) (fun M25 => some ((1 : Int32), M25))))))
set_option maxRecDepth 100000 in
set_option maxHeartbeats 4000000 in
theorem kX10_mail (l : Launch) (D : va_G) (ad : Nat → Nat) (cA : Nat → ClassId) (A : Nat → Prop) {a1 : Int32} {a2 : Int32} {a3 : Int32} {M M1 : Mm} {r : Int32} (h : fX10_mail a1 a2 a3 M = some (r, M1)) : Met l yX10_mail wsX10_mail rmX10_mail (gPc D (tyM cA) 289 (layM ad cA) ad A M [.ref (ad 0), .int a1, .int a2, .int a3]) (gQi D 289 (layM ad cA) ad A M1 r) 0 0 A := by
  refine Met.ofW (cc := cX10_mail) (maxL := 4) (ret := (some .boolean)) (by decide) rfl ?_
  intro p e s m args below meth c s₁ B hml hv
  obtain ⟨ha, hP, hK, hD, hN⟩ := hv
  have hx := B.exec
  have hb := B.bytes
  have hr := B.returns
  have hlk := B.notSynchronized
  have hts : ∀ w ∈ lw_g, w.before args s = true := fun w h => atoms_spec (ws := wsX10_mail) B.pre w (List.mem_cons_of_mem _ h)
  have hown : s.vm.findClass RX10 = some m.cls := findClass_of_methodNamed B.named
  have hS : va_S A s.heap s.heap [] := va_S.rf
  unfold fX10_mail at h
  have w30 := hts _ wm371
  refine w_entry ha (Nat.le_of_ble_eq_true rfl) (fun ls hl => ?_)
  have hl : lv_has ls 4 [(0, .ref (ad 0)), (1, .int a1), (2, .int a2), (3, .int a3)] := hl
  refine w_pc 0 rfl ?_
  refine lv_aload_n hx hb dX10_mail_0 rfl (lv_at hl 0 rfl) ?_
  refine lv_iload_n hx hb dX10_mail_1 rfl (lv_at hl 1 rfl) ?_
  refine w_pc 2 rfl ?_
  obtain ⟨v2, c2, h⟩ := bn1_some h
  refine cl_i (rn_v (As := [.int a1]) (rest := []) ⟨hx, hb, hml, hown, hts⟩ (kX10_isDomain l D ad cA A c2) ⟨callB_of 1 hts (gdc wm400) rfl rfl rfl (hts _ wm50) (hts _ wm397) hdX10_isDomain ⟨Nat.le_of_ble_eq_true rfl, Nat.le_of_ble_eq_true rfl⟩, hts _ wm399, hts _ wm0⟩ hK hP hD hN (by omega) lyMMA rfl rfl hl.1 rfl (lv_room (Nat.le_of_ble_eq_true rfl)) dX10_mail_2) hS (fun H locs hP hS => ?_)
  refine w_pc 5 rfl ?_
  refine w_pc 5 rfl ?_
  refine lv_if_eq (tgt := 16) hx hb dX10_mail_5 (by decide) (fun q5 => ?_) (fun q5 => ?_)
  · replace h := (if_pos q5).symm.trans h
    refine w_pc 16 rfl ?_
    refine lv_iconst (v := 0) hx hb dX10_mail_16 (by decide) ?_
    exact re_z hx hb hr hlk (Or.inl rfl) h hP hS dX10_mail_17
  · replace h := (if_neg q5).symm.trans h
    refine w_pc 8 rfl ?_
    refine lv_aload_n hx hb dX10_mail_8 rfl (lv_at hl 0 rfl) ?_
    refine lv_iload_n hx hb dX10_mail_9 rfl (lv_at hl 2 rfl) ?_
    refine w_pc 10 rfl ?_
    obtain ⟨v10, c10, h⟩ := bn1_some h
    refine cl_i (rn_v (As := [.int a2]) (rest := []) ⟨hx, hb, hml, hown, hts⟩ (kX10_isDomain l D ad cA A c10) ⟨callB_of 1 hts (gdc wm400) rfl rfl rfl (hts _ wm50) (hts _ wm397) hdX10_isDomain ⟨Nat.le_of_ble_eq_true rfl, Nat.le_of_ble_eq_true rfl⟩, hts _ wm399, hts _ wm0⟩ hK hP hD hN (by omega) lyMMA rfl rfl hl.1 rfl (lv_room (Nat.le_of_ble_eq_true rfl)) dX10_mail_10) hS (fun H locs hP hS => ?_)
    refine w_pc 13 rfl ?_
    refine w_pc 13 rfl ?_
    refine lv_if_ne (tgt := 18) hx hb dX10_mail_13 (by decide) (fun q13 => ?_) (fun q13 => ?_)
    · replace h := (if_neg q13).symm.trans h
      refine w_pc 18 rfl ?_
      refine lv_aload_n hx hb dX10_mail_18 rfl (lv_at hl 0 rfl) ?_
      refine gw_get (C := RX10) (T := TX10) (N := 8) (v := .ref (ad 243)) hx hb hts hinX10 hown hK hP (by omega) lyMMA rfl 3 (by decide) w30 (fun _ h9 => h9) rfl dX10_mail_19 ?_
      refine lv_iload_n hx hb dX10_mail_22 rfl (lv_at hl 1 rfl) ?_
      refine lv_iload_n hx hb dX10_mail_23 rfl (lv_at hl 2 rfl) ?_
      refine lv_iload_n hx hb dX10_mail_24 rfl (lv_at hl 3 rfl) ?_
      refine w_pc 25 rfl ?_
      obtain ⟨M25, c25, h⟩ := bn1_some h
      refine cl_v (rn_v (As := [.int a1, .int a2, .int a3]) (rest := []) ⟨hx, hb, hml, hown, hts⟩ (kX4_begin l D ad cA A c25) ⟨callB_of 3 hts (gdc wm462) rfl rfl rfl (hts _ wm55) (hts _ wm459) hdX4_begin ⟨Nat.le_of_ble_eq_true rfl, Nat.le_of_ble_eq_true rfl⟩, hts _ wm460, hts _ wm461⟩ hK hP hD hN (by omega) lyMMail rfl rfl hl.1 rfl (lv_room (Nat.le_of_ble_eq_true rfl)) dX10_mail_25) hS (fun H locs hP hS => ?_)
      refine w_pc 28 rfl ?_
      refine lv_iconst (v := 1) hx hb dX10_mail_28 (by decide) ?_
      exact re_z hx hb hr hlk (Or.inr rfl) h hP hS dX10_mail_29
    · replace h := (if_pos q13).symm.trans h
      refine w_pc 16 rfl ?_
      refine lv_iconst (v := 0) hx hb dX10_mail_16 (by decide) ?_
      exact re_z hx hb hr hlk (Or.inl rfl) h hP hS dX10_mail_17
def rmX4_appendHeader : Room := { frames := 0, cells := 0, slots := 0, locals := 0 }
def fX4_appendHeader (a1 : Int32) (M : Mm) : Option (Int32 × Mm) :=
  if (M 243 6) < (6 : Int32) then (grd (gin (M 243 6) 6) (nm (up2 M 244 (M 243 6).toNatClampNeg a1) (fun M21 => grd (gin (M21 243 6) 6) (nm (up2 M21 (246 + (M21 243 6).toNatClampNeg) 1 (0 : Int32)) (fun M32 => nm (up2 M32 243 6 ((M32 243 6) + (1 : Int32))) (fun M42 => some (((M42 243 6) - (1 : Int32)), M42))))))) else (some ((-2 : Int32), M))
set_option maxRecDepth 100000 in
set_option maxHeartbeats 4000000 in
theorem kX4_appendHeader (l : Launch) (D : va_G) (ad : Nat → Nat) (cA : Nat → ClassId) (A : Nat → Prop) {a1 : Int32} {M M1 : Mm} {r : Int32} (h : fX4_appendHeader a1 M = some (r, M1)) : Met l yX4_appendHeader wsX4_appendHeader rmX4_appendHeader (gPc D (tyM cA) 289 (layM ad cA) ad A M [.ref (ad 243), .int a1]) (gQi D 289 (layM ad cA) ad A M1 r) 0 0 A := by
  refine Met.ofW (cc := cX4_appendHeader) (maxL := 2) (ret := (some .int)) (by decide) rfl ?_
  intro p e s m args below meth c s₁ B hml hv
  obtain ⟨ha, hP, hK, hD, hN⟩ := hv
  have hx := B.exec
  have hb := B.bytes
  have hr := B.returns
  have hlk := B.notSynchronized
  have hts : ∀ w ∈ lw_g, w.before args s = true := fun w h => atoms_spec (ws := wsX4_appendHeader) B.pre w (List.mem_cons_of_mem _ h)
  have hown : s.vm.findClass RX4 = some m.cls := findClass_of_methodNamed B.named
  have hS : va_S A s.heap s.heap [] := va_S.rf
  unfold fX4_appendHeader at h
  have w59 := hts _ wm291
  have w9 := hts _ wm289
  have w17 := hts _ wm290
  have w62 := hts _ wm207
  refine w_entry ha (Nat.le_of_ble_eq_true rfl) (fun ls hl => ?_)
  have hl : lv_has ls 2 [(0, .ref (ad 243)), (1, .int a1)] := hl
  refine w_pc 0 rfl ?_
  refine lv_aload_n hx hb dX4_appendHeader_0 rfl (lv_at hl 0 rfl) ?_
  refine gw_get (C := RX4) (T := TX4) (N := 13) (v := .int (M 243 6)) hx hb hts hinX4 hown hK hP (by omega) lyMMail rfl 6 (by decide) w59 (fun _ h9 => h9) rfl dX4_appendHeader_1 ?_
  refine lv_bipush (v := 6) hx hb dX4_appendHeader_4 (by decide) ?_
  refine w_pc 6 rfl ?_
  refine lv_icmp_lt (tgt := 12) hx hb dX4_appendHeader_6 (by decide) (fun q6 => ?_) (fun q6 => ?_)
  · replace h := (if_pos q6).symm.trans h
    refine w_pc 12 rfl ?_
    refine lv_aload_n hx hb dX4_appendHeader_12 rfl (lv_at hl 0 rfl) ?_
    refine gw_get (C := RX4) (T := TX4) (N := 13) (v := .ref (ad 244)) hx hb hts hinX4 hown hK hP (by omega) lyMMail rfl 4 (by decide) w9 (fun _ h9 => h9) rfl dX4_appendHeader_13 ?_
    refine lv_aload_n hx hb dX4_appendHeader_16 rfl (lv_at hl 0 rfl) ?_
    refine gw_get (C := RX4) (T := TX4) (N := 13) (v := .int (M 243 6)) hx hb hts hinX4 hown hK hP (by omega) lyMMail rfl 6 (by decide) w59 (fun _ h9 => h9) rfl dX4_appendHeader_17 ?_
    refine lv_iload_n hx hb dX4_appendHeader_20 rfl (lv_at hl 1 rfl) ?_
    obtain ⟨g21, h⟩ := gd_in h
    obtain ⟨M21, eM21, h⟩ := nm_some h
    refine gw_iast hx hb hK hP hD hS 0 (by omega) lyMaNm rfl g21 eM21 dX4_appendHeader_21 (fun H locs hP hS => ?_)
    refine lv_aload_n hx hb dX4_appendHeader_22 rfl (lv_at hl 0 rfl) ?_
    refine w_pc 23 rfl ?_
    refine gw_get (C := RX4) (T := TX4) (N := 13) (v := .ref (ad 245)) hx hb hts hinX4 hown hK hP (by omega) lyMMail rfl 5 (by decide) w17 (fun _ h9 => h9) rfl dX4_appendHeader_23 ?_
    refine lv_aload_n hx hb dX4_appendHeader_26 rfl (lv_at hl 0 rfl) ?_
    refine gw_get (C := RX4) (T := TX4) (N := 13) (v := .int (M21 243 6)) hx hb hts hinX4 hown hK hP (by omega) lyMMail rfl 6 (by decide) w59 (fun _ h9 => h9) rfl dX4_appendHeader_27 ?_
    obtain ⟨g30, h⟩ := gd_in h
    have b30 := some_lo g30
    refine gw_aald hx hb hK hP 4 (by omega) lyMaTx rfl g30 dX4_appendHeader_30 ?_
    refine lv_iconst (v := 0) hx hb dX4_appendHeader_31 (by decide) ?_
    obtain ⟨M32, eM32, h⟩ := nm_some h
    refine gw_put (C := RX9) (T := TX9) (N := 2) (ty := .int) hx hb hts hinX9 tyX9 tyX9_ok nmX9 hown hK hP hD hS (by omega) (lyMText (by omega)) rfl 1 (by decide) w62 (fun _ h9 => h9) rfl (by decide +kernel) rfl rfl (Nat.le_of_ble_eq_true rfl) rfl eM32 dX4_appendHeader_32 (fun H locs hP hS => ?_)
    refine lv_aload_n hx hb dX4_appendHeader_35 rfl (lv_at hl 0 rfl) ?_
    refine lv_dup hx hb dX4_appendHeader_36 rfl ?_
    refine w_pc 37 rfl ?_
    refine gw_get (C := RX4) (T := TX4) (N := 13) (v := .int (M32 243 6)) hx hb hts hinX4 hown hK hP (by omega) lyMMail rfl 6 (by decide) w59 (fun _ h9 => h9) rfl dX4_appendHeader_37 ?_
    refine lv_iconst (v := 1) hx hb dX4_appendHeader_40 (by decide) ?_
    refine lv_iadd hx hb dX4_appendHeader_41 ?_
    obtain ⟨M42, eM42, h⟩ := nm_some h
    refine gw_put (C := RX4) (T := TX4) (N := 13) (ty := .int) hx hb hts hinX4 tyX4 tyX4_ok nmX4 hown hK hP hD hS (by omega) lyMMail rfl 6 (by decide) w59 (fun _ h9 => h9) rfl (by decide +kernel) rfl rfl (Nat.le_of_ble_eq_true rfl) rfl eM42 dX4_appendHeader_42 (fun H locs hP hS => ?_)
    refine lv_aload_n hx hb dX4_appendHeader_45 rfl (lv_at hl 0 rfl) ?_
    refine gw_get (C := RX4) (T := TX4) (N := 13) (v := .int (M42 243 6)) hx hb hts hinX4 hown hK hP (by omega) lyMMail rfl 6 (by decide) w59 (fun _ h9 => h9) rfl dX4_appendHeader_46 ?_
    refine lv_iconst (v := 1) hx hb dX4_appendHeader_49 (by decide) ?_
    refine lv_isub hx hb dX4_appendHeader_50 ?_
    refine w_pc 51 rfl ?_
    exact re_i hx hb hr hlk h hP hS dX4_appendHeader_51
  · replace h := (if_neg q6).symm.trans h
    refine w_pc 9 rfl ?_
    refine lv_bipush (v := -2) hx hb dX4_appendHeader_9 (by decide) ?_
    exact re_i hx hb hr hlk h hP hS dX4_appendHeader_11
def rmX10_header : Room := { frames := 1, cells := 0, slots := 0, locals := 22 }
def fX10_header (a1 : Int32) (M : Mm) : Option (Int32 × Mm) :=
  if (M 243 0) = 0 then (some ((-1 : Int32), M)) else (bn1 (fX10_isWithin a1 (0 : Int32) (7 : Int32)) (fun v14 => if v14 = 0 then (some ((-1 : Int32), M)) else (bn2 (fX4_appendHeader a1 M) (fun v27 M27 => some (v27, M27)))))
set_option maxRecDepth 100000 in
set_option maxHeartbeats 4000000 in
theorem kX10_header (l : Launch) (D : va_G) (ad : Nat → Nat) (cA : Nat → ClassId) (A : Nat → Prop) {a1 : Int32} {M M1 : Mm} {r : Int32} (h : fX10_header a1 M = some (r, M1)) : Met l yX10_header wsX10_header rmX10_header (gPc D (tyM cA) 289 (layM ad cA) ad A M [.ref (ad 0), .int a1]) (gQi D 289 (layM ad cA) ad A M1 r) 0 0 A := by
  refine Met.ofW (cc := cX10_header) (maxL := 2) (ret := (some .int)) (by decide) rfl ?_
  intro p e s m args below meth c s₁ B hml hv
  obtain ⟨ha, hP, hK, hD, hN⟩ := hv
  have hx := B.exec
  have hb := B.bytes
  have hr := B.returns
  have hlk := B.notSynchronized
  have hts : ∀ w ∈ lw_g, w.before args s = true := fun w h => atoms_spec (ws := wsX10_header) B.pre w (List.mem_cons_of_mem _ h)
  have hown : s.vm.findClass RX10 = some m.cls := findClass_of_methodNamed B.named
  have hS : va_S A s.heap s.heap [] := va_S.rf
  unfold fX10_header at h
  have w30 := hts _ wm371
  have w126 := hts _ wm282
  refine w_entry ha (Nat.le_of_ble_eq_true rfl) (fun ls hl => ?_)
  have hl : lv_has ls 2 [(0, .ref (ad 0)), (1, .int a1)] := hl
  refine w_pc 0 rfl ?_
  refine lv_aload_n hx hb dX10_header_0 rfl (lv_at hl 0 rfl) ?_
  refine gw_get (C := RX10) (T := TX10) (N := 8) (v := .ref (ad 243)) hx hb hts hinX10 hown hK hP (by omega) lyMMA rfl 3 (by decide) w30 (fun _ h9 => h9) rfl dX10_header_1 ?_
  refine gw_get (C := RX4) (T := TX4) (N := 13) (v := .int (M 243 0)) hx hb hts hinX4 hown hK hP (by omega) lyMMail rfl 0 (by decide) w126 (fun _ h9 => h9) rfl dX10_header_4 ?_
  refine w_pc 7 rfl ?_
  refine lv_if_eq (tgt := 20) hx hb dX10_header_7 (by decide) (fun q7 => ?_) (fun q7 => ?_)
  · replace h := (if_pos q7).symm.trans h
    refine w_pc 20 rfl ?_
    refine lv_iconst (v := -1) hx hb dX10_header_20 (by decide) ?_
    exact re_i hx hb hr hlk h hP hS dX10_header_21
  · replace h := (if_neg q7).symm.trans h
    refine w_pc 10 rfl ?_
    refine lv_iload_n hx hb dX10_header_10 rfl (lv_at hl 1 rfl) ?_
    refine lv_iconst (v := 0) hx hb dX10_header_11 (by decide) ?_
    refine lv_bipush (v := 7) hx hb dX10_header_12 (by decide) ?_
    refine w_pc 14 rfl ?_
    obtain ⟨v14, c14, h⟩ := bn1_some h
    refine cl_i (rn_s (As := [.int a1, .int (0 : Int32), .int (7 : Int32)]) (rest := []) ⟨hx, hb, hml, hown, hts⟩ (kX10_isWithin l D ad cA A (M := M) c14) ⟨callB_of 3 hts (gdc wm403) rfl rfl rfl (hts _ wm50) (hts _ wm401) hdX10_isWithin ⟨Nat.le_of_ble_eq_true rfl, Nat.le_of_ble_eq_true rfl⟩, hts _ wm402⟩ hK hP hD hN rfl hl.1 rfl (lv_room (Nat.le_of_ble_eq_true rfl)) dX10_header_14) hS (fun H locs hP hS => ?_)
    refine w_pc 17 rfl ?_
    refine w_pc 17 rfl ?_
    refine lv_if_ne (tgt := 22) hx hb dX10_header_17 (by decide) (fun q17 => ?_) (fun q17 => ?_)
    · replace h := (if_neg q17).symm.trans h
      refine w_pc 22 rfl ?_
      refine lv_aload_n hx hb dX10_header_22 rfl (lv_at hl 0 rfl) ?_
      refine gw_get (C := RX10) (T := TX10) (N := 8) (v := .ref (ad 243)) hx hb hts hinX10 hown hK hP (by omega) lyMMA rfl 3 (by decide) w30 (fun _ h9 => h9) rfl dX10_header_23 ?_
      refine lv_iload_n hx hb dX10_header_26 rfl (lv_at hl 1 rfl) ?_
      refine w_pc 27 rfl ?_
      obtain ⟨v27, M27, c27, h⟩ := bn2_some h
      refine cl_i (rn_v (As := [.int a1]) (rest := []) ⟨hx, hb, hml, hown, hts⟩ (kX4_appendHeader l D ad cA A c27) ⟨callB_of 1 hts (gdc wm470) rfl rfl rfl (hts _ wm55) (hts _ wm467) hdX4_appendHeader ⟨Nat.le_of_ble_eq_true rfl, Nat.le_of_ble_eq_true rfl⟩, hts _ wm468, hts _ wm469⟩ hK hP hD hN (by omega) lyMMail rfl rfl hl.1 rfl (lv_room (Nat.le_of_ble_eq_true rfl)) dX10_header_27) hS (fun H locs hP hS => ?_)
      refine w_pc 30 rfl ?_
      exact re_i hx hb hr hlk h hP hS dX10_header_30
    · replace h := (if_pos q17).symm.trans h
      refine w_pc 20 rfl ?_
      refine lv_iconst (v := -1) hx hb dX10_header_20 (by decide) ?_
      exact re_i hx hb hr hlk h hP hS dX10_header_21
def rmX4_partAt : Room := { frames := 1, cells := 0, slots := 0, locals := 22 }
def fX4_partAt_17 (a1 : Int32) (M : Mm) : Option (Option Nat) :=
  bn1 (fX10_isWithin a1 (0 : Int32) ((M 243 6) - (1 : Int32))) (fun v25 => if v25 = 0 then (some none) else (grd (gin a1 6) (some (some a1.toNatClampNeg))))
def fX4_partAt (a1 : Int32) (M : Mm) : Option (Option Nat) :=
  if (M 243 0) = 0 then (fX4_partAt_17 a1 M) else (if a1 = (-1 : Int32) then (some (some 6)) else (fX4_partAt_17 a1 M))
set_option maxRecDepth 100000 in
set_option maxHeartbeats 4000000 in
theorem kX4_partAt (l : Launch) (D : va_G) (ad : Nat → Nat) (cA : Nat → ClassId) (A : Nat → Prop) {a1 : Int32} {M : Mm} {r : Option Nat} (h : fX4_partAt a1 M = some r) : Met l yX4_partAt wsX4_partAt rmX4_partAt (gPc D (tyM cA) 289 (layM ad cA) ad A M [.ref (ad 243), .int a1]) (gQq D 289 (layM ad cA) ad A M (r.map (fun j => ad (246 + j)))) 0 0 A := by
  refine Met.ofW (cc := cX4_partAt) (maxL := 2) (ret := (some (.object "MailArbiter$Text"))) (by decide) rfl ?_
  intro p e s m args below meth c s₁ B hml hv
  obtain ⟨ha, hP, hK, hD, hN⟩ := hv
  have hx := B.exec
  have hb := B.bytes
  have hr := B.returns
  have hlk := B.notSynchronized
  have hts : ∀ w ∈ lw_g, w.before args s = true := fun w h => atoms_spec (ws := wsX4_partAt) B.pre w (List.mem_cons_of_mem _ h)
  have hown : s.vm.findClass RX4 = some m.cls := findClass_of_methodNamed B.named
  have hS : va_S A s.heap s.heap [] := va_S.rf
  unfold fX4_partAt at h
  have w55 := hts _ wm281
  have w24 := hts _ wm292
  have w59 := hts _ wm291
  have w17 := hts _ wm290
  have bk17 : ∀ (ls : Array Slot) (H : Heap) (locs : List Loc), lv_has ls 2 [(0, .ref (ad 243)), (1, .int a1)] → fX4_partAt_17 a1 M = some r → va_P D vwCl (gw 289 (layM ad cA) ad M) H → va_S A s.heap H locs → W p l e (headSpec wsX4_partAt rmX4_partAt).room s m args below meth c H locs 0 0 (MQ below (gQq D 289 (layM ad cA) ad A M (r.map (fun j => ad (246 + j)))) args s 0 0 A) (F0 m 17 ls []) := by
    intro ls H locs hl h hP hS
    unfold fX4_partAt_17 at h
    refine w_pc 17 rfl ?_
    refine lv_iload_n hx hb dX4_partAt_17 rfl (lv_at hl 1 rfl) ?_
    refine lv_iconst (v := 0) hx hb dX4_partAt_18 (by decide) ?_
    refine lv_aload_n hx hb dX4_partAt_19 rfl (lv_at hl 0 rfl) ?_
    refine gw_get (C := RX4) (T := TX4) (N := 13) (v := .int (M 243 6)) hx hb hts hinX4 hown hK hP (by omega) lyMMail rfl 6 (by decide) w59 (fun _ h9 => h9) rfl dX4_partAt_20 ?_
    refine lv_iconst (v := 1) hx hb dX4_partAt_23 (by decide) ?_
    refine lv_isub hx hb dX4_partAt_24 ?_
    refine w_pc 25 rfl ?_
    obtain ⟨v25, c25, h⟩ := bn1_some h
    refine cl_i (rn_sN (As := [.int a1, .int (0 : Int32), .int ((M 243 6) - (1 : Int32))]) (rest := []) ⟨hx, hb, hml, hown, hts⟩ (kX10_isWithin l D ad cA A (M := M) c25) ⟨va_cnB 3 hts (gdc wm403) rfl rfl rfl (hN _ nw10) (hts _ wm50) hdX10_isWithin ⟨Nat.le_of_ble_eq_true rfl, Nat.le_of_ble_eq_true rfl⟩, hts _ wm402, trivial⟩ hK hP hD hN rfl hl.1 rfl (lv_room (Nat.le_of_ble_eq_true rfl)) dX4_partAt_25) hS (fun H locs hP hS => ?_)
    refine w_pc 28 rfl ?_
    refine w_pc 28 rfl ?_
    refine lv_if_eq (tgt := 40) hx hb dX4_partAt_28 (by decide) (fun q28 => ?_) (fun q28 => ?_)
    · replace h := (if_pos q28).symm.trans h
      refine w_pc 40 rfl ?_
      refine lv_null hx hb dX4_partAt_40 ?_
      exact re_n hx hb hr hlk (by cases h; rfl) hP hS dX4_partAt_41
    · replace h := (if_neg q28).symm.trans h
      refine w_pc 31 rfl ?_
      refine lv_aload_n hx hb dX4_partAt_31 rfl (lv_at hl 0 rfl) ?_
      refine gw_get (C := RX4) (T := TX4) (N := 13) (v := .ref (ad 245)) hx hb hts hinX4 hown hK hP (by omega) lyMMail rfl 5 (by decide) w17 (fun _ h9 => h9) rfl dX4_partAt_32 ?_
      refine lv_iload_n hx hb dX4_partAt_35 rfl (lv_at hl 1 rfl) ?_
      obtain ⟨g36, h⟩ := gd_in h
      have b36 := some_lo g36
      refine gw_aald hx hb hK hP 4 (by omega) lyMaTx rfl g36 dX4_partAt_36 ?_
      refine lv_goto (tgt := 41) hx hb dX4_partAt_37 (by decide) ?_
      exact re_a hx hb hr hlk (by cases h; rfl) hP hS dX4_partAt_41
  refine w_entry ha (Nat.le_of_ble_eq_true rfl) (fun ls hl => ?_)
  have hl : lv_has ls 2 [(0, .ref (ad 243)), (1, .int a1)] := hl
  refine w_pc 0 rfl ?_
  refine lv_aload_n hx hb dX4_partAt_0 rfl (lv_at hl 0 rfl) ?_
  refine gw_get (C := RX4) (T := TX4) (N := 13) (v := .int (M 243 0)) hx hb hts hinX4 hown hK hP (by omega) lyMMail rfl 0 (by decide) w55 (fun _ h9 => h9) rfl dX4_partAt_1 ?_
  refine w_pc 4 rfl ?_
  refine lv_if_eq (tgt := 17) hx hb dX4_partAt_4 (by decide) (fun q4 => ?_) (fun q4 => ?_)
  · replace h := (if_pos q4).symm.trans h
    refine w_pc 17 rfl ?_
    exact bk17 ls _ _ (lv_sub hl [0, 1] rfl) h hP hS
  · replace h := (if_neg q4).symm.trans h
    refine w_pc 7 rfl ?_
    refine lv_iload_n hx hb dX4_partAt_7 rfl (lv_at hl 1 rfl) ?_
    refine lv_iconst (v := -1) hx hb dX4_partAt_8 (by decide) ?_
    refine w_pc 9 rfl ?_
    refine lv_icmp_ne (tgt := 17) hx hb dX4_partAt_9 (by decide) (fun q9 => ?_) (fun q9 => ?_)
    · replace h := (if_neg q9).symm.trans h
      refine w_pc 17 rfl ?_
      exact bk17 ls _ _ (lv_sub hl [0, 1] rfl) h hP hS
    · replace h := (if_pos q9).symm.trans h
      refine w_pc 12 rfl ?_
      refine lv_aload_n hx hb dX4_partAt_12 rfl (lv_at hl 0 rfl) ?_
      refine gw_get (C := RX4) (T := TX4) (N := 13) (v := .ref (ad (246 + 6))) hx hb hts hinX4 hown hK hP (by omega) lyMMail rfl 7 (by decide) w24 (fun _ h9 => h9) rfl dX4_partAt_13 ?_
      exact re_a hx hb hr hlk (by cases h; rfl) hP hS dX4_partAt_16
def rmX10_byteAt : Room := { frames := 0, cells := 0, slots := 0, locals := 0 }
def fX10_byteAt (a0 : Int64) (a2 : Int32) : Option Int32 :=
  some (((ushr64 a0 ((8 : Int32) * a2)).toInt32) &&& (255 : Int32))
set_option maxRecDepth 100000 in
set_option maxHeartbeats 4000000 in
theorem kX10_byteAt (l : Launch) (D : va_G) (ad : Nat → Nat) (cA : Nat → ClassId) (A : Nat → Prop) {a0 : Int64} {a2 : Int32} {M : Mm} {r : Int32} (h : fX10_byteAt a0 a2 = some r) : Met l yX10_byteAt wsX10_byteAt rmX10_byteAt (gPc D (tyM cA) 289 (layM ad cA) ad A M [.long a0, .int a2]) (gQi D 289 (layM ad cA) ad A M r) 0 0 A := by
  refine Met.ofW (cc := cX10_byteAt) (maxL := 3) (ret := (some .int)) (by decide) rfl ?_
  intro p e s m args below meth c s₁ B hml hv
  obtain ⟨ha, hP, hK, hD, hN⟩ := hv
  have hx := B.exec
  have hb := B.bytes
  have hr := B.returns
  have hlk := B.notSynchronized
  have hts : ∀ w ∈ lw_g, w.before args s = true := fun w h => atoms_spec (ws := wsX10_byteAt) B.pre w (List.mem_cons_of_mem _ h)
  have hown : s.vm.findClass RX10 = some m.cls := findClass_of_methodNamed B.named
  have hS : va_S A s.heap s.heap [] := va_S.rf
  unfold fX10_byteAt at h
  refine w_entry ha (Nat.le_of_ble_eq_true rfl) (fun ls hl => ?_)
  have hl : lv_has ls 3 [(0, .long a0), (2, .int a2)] := hl
  refine w_pc 0 rfl ?_
  refine lv_lload_n hx hb dX10_byteAt_0 rfl (lv_at hl 0 rfl) ?_
  refine lv_bipush (v := 8) hx hb dX10_byteAt_1 (by decide) ?_
  refine lv_iload_n hx hb dX10_byteAt_3 rfl (lv_at hl 1 rfl) ?_
  refine lv_imul hx hb dX10_byteAt_4 ?_
  refine lv_lushr (v := ushr64 a0 ((8 : Int32) * a2)) hx hb dX10_byteAt_5 rfl ?_
  refine lv_l2i (v := (ushr64 a0 ((8 : Int32) * a2)).toInt32) hx hb dX10_byteAt_6 rfl ?_
  refine lv_sipush (v := 255) hx hb dX10_byteAt_7 (by decide) ?_
  refine w_pc 10 rfl ?_
  refine lv_iand hx hb dX10_byteAt_10 ?_
  exact re_i hx hb hr hlk (sm_r h) hP hS dX10_byteAt_11
def rmX10_areAllowed : Room := { frames := 1, cells := 0, slots := 0, locals := 22 }
def fX10_areAllowed_53 (a0 : Int64) (a2 : Int32) (a3 : Int32) (K3 : Int32 → Option Int32) (x4 : Int32) : Option Int32 :=
  K3 (x4 + 1)
def fX10_areAllowed_3 (a0 : Int64) (a2 : Int32) (a3 : Int32) : Nat → Int32 → Option Int32
  | 0, _ => none
  | n + 1, x4 => if a2 ≤ x4 then (some (1 : Int32)) else (bn1 (fX10_byteAt a0 x4) (fun v12 => bn1 (fX10_isWithin v12 (32 : Int32) (126 : Int32)) (fun v23 => if v23 = 0 then (if v12 = (9 : Int32) then (fX10_areAllowed_53 a0 a2 a3 (fX10_areAllowed_3 a0 a2 a3 n) x4) else (if a3 = 0 then (some (0 : Int32)) else (if v12 = (10 : Int32) then (fX10_areAllowed_53 a0 a2 a3 (fX10_areAllowed_3 a0 a2 a3 n) x4) else (some (0 : Int32))))) else (fX10_areAllowed_53 a0 a2 a3 (fX10_areAllowed_3 a0 a2 a3 n) x4))))
def fX10_areAllowed (a0 : Int64) (a2 : Int32) (a3 : Int32) : Option Int32 :=
  fX10_areAllowed_3 a0 a2 a3 FU (0 : Int32)
set_option maxRecDepth 100000 in
set_option maxHeartbeats 4000000 in
theorem kX10_areAllowed (l : Launch) (D : va_G) (ad : Nat → Nat) (cA : Nat → ClassId) (A : Nat → Prop) {a0 : Int64} {a2 : Int32} {a3 : Int32} {M : Mm} {r : Int32} (h : fX10_areAllowed a0 a2 a3 = some r) : Met l yX10_areAllowed wsX10_areAllowed rmX10_areAllowed (gPc D (tyM cA) 289 (layM ad cA) ad A M [.long a0, .int a2, .int a3]) (gQi D 289 (layM ad cA) ad A M r) 0 0 A := by
  refine Met.ofW (cc := cX10_areAllowed) (maxL := 7) (ret := (some .boolean)) (by decide) rfl ?_
  intro p e s m args below meth c s₁ B hml hv
  obtain ⟨ha, hP, hK, hD, hN⟩ := hv
  have hx := B.exec
  have hb := B.bytes
  have hr := B.returns
  have hlk := B.notSynchronized
  have hts : ∀ w ∈ lw_g, w.before args s = true := fun w h => atoms_spec (ws := wsX10_areAllowed) B.pre w (List.mem_cons_of_mem _ h)
  have hown : s.vm.findClass RX10 = some m.cls := findClass_of_methodNamed B.named
  have hS : va_S A s.heap s.heap [] := va_S.rf
  unfold fX10_areAllowed at h
  have lp3 : ∀ (n : Nat) (x4 : Int32) (ls : Array Slot) (H : Heap) (locs : List Loc), lv_has ls 7 [(0, .long a0), (2, .int a2), (3, .int a3), (4, .int x4)] → fX10_areAllowed_3 a0 a2 a3 n x4 = some r → va_P D vwCl (gw 289 (layM ad cA) ad M) H → va_S A s.heap H locs → W p l e (headSpec wsX10_areAllowed rmX10_areAllowed).room s m args below meth c H locs 0 0 (MQ below (gQi D 289 (layM ad cA) ad A M r) args s 0 0 A) (F0 m 3 ls []) := by
    intro n
    induction n with
    | zero =>
      intro x4 ls H locs hl h hP hS
      rw [fX10_areAllowed_3] at h
      cases h
    | succ n ih3 =>
      have bk53 : ∀ (x4 : Int32) (ls : Array Slot) (H : Heap) (locs : List Loc), lv_has ls 7 [(0, .long a0), (2, .int a2), (3, .int a3), (4, .int x4)] → fX10_areAllowed_53 a0 a2 a3 (fX10_areAllowed_3 a0 a2 a3 n) x4 = some r → va_P D vwCl (gw 289 (layM ad cA) ad M) H → va_S A s.heap H locs → W p l e (headSpec wsX10_areAllowed rmX10_areAllowed).room s m args below meth c H locs 0 0 (MQ below (gQi D 289 (layM ad cA) ad A M r) args s 0 0 A) (F0 m 53 ls []) := by
        intro x4 ls H locs hl h hP hS
        unfold fX10_areAllowed_53 at h
        refine w_pc 53 rfl ?_
        refine lv_iinc (k := 3) (v := x4 + 1) (lv' := [(4, .int (x4 + 1)), (0, .long a0), (2, .int a2), (3, .int a3)]) hx hb dX10_areAllowed_53 hl rfl rfl (by decide) rfl (fun ls hl => ?_)
        refine lv_goto (tgt := 3) hx hb dX10_areAllowed_56 (by decide) ?_
        exact ih3 (x4 + 1) ls _ _ (lv_sub hl [1, 2, 3, 0] rfl) h hP hS
      intro x4 ls H locs hl h hP hS
      rw [fX10_areAllowed_3] at h
      refine w_pc 3 rfl ?_
      refine lv_iload hx hb dX10_areAllowed_3 (lv_at hl 3 rfl) ?_
      refine lv_iload_n hx hb dX10_areAllowed_5 rfl (lv_at hl 1 rfl) ?_
      refine w_pc 6 rfl ?_
      refine lv_icmp_ge (tgt := 59) hx hb dX10_areAllowed_6 (by decide) (fun q6 => ?_) (fun q6 => ?_)
      · replace h := (if_pos q6).symm.trans h
        refine w_pc 59 rfl ?_
        refine lv_iconst (v := 1) hx hb dX10_areAllowed_59 (by decide) ?_
        exact re_z hx hb hr hlk (Or.inr rfl) (sm_r h) hP hS dX10_areAllowed_60
      · replace h := (if_neg q6).symm.trans h
        refine w_pc 9 rfl ?_
        refine lv_lload_n hx hb dX10_areAllowed_9 rfl (lv_at hl 0 rfl) ?_
        refine lv_iload hx hb dX10_areAllowed_10 (lv_at hl 3 rfl) ?_
        refine w_pc 12 rfl ?_
        obtain ⟨v12, c12, h⟩ := bn1_some h
        refine cl_i (rn_s (As := [.long a0, .int x4]) (rest := []) ⟨hx, hb, hml, hown, hts⟩ (kX10_byteAt l D ad cA A (M := M) c12) ⟨callB_of 2 hts (gdc wm485) rfl rfl rfl (hts _ wm50) (hts _ wm483) hdX10_byteAt ⟨Nat.le_of_ble_eq_true rfl, Nat.le_of_ble_eq_true rfl⟩, hts _ wm484⟩ hK hP hD hN rfl hl.1 rfl (lv_room (Nat.le_of_ble_eq_true rfl)) dX10_areAllowed_12) hS (fun H locs hP hS => ?_)
        refine w_pc 15 rfl ?_
        refine lv_istore (lv' := [(5, .int v12), (0, .long a0), (2, .int a2), (3, .int a3), (4, .int x4)]) hx hb dX10_areAllowed_15 hl (by decide) rfl (fun ls hl => ?_)
        refine lv_iload hx hb dX10_areAllowed_17 (lv_at hl 0 rfl) ?_
        refine lv_bipush (v := 32) hx hb dX10_areAllowed_19 (by decide) ?_
        refine lv_bipush (v := 126) hx hb dX10_areAllowed_21 (by decide) ?_
        refine w_pc 23 rfl ?_
        obtain ⟨v23, c23, h⟩ := bn1_some h
        refine cl_i (rn_s (As := [.int v12, .int (32 : Int32), .int (126 : Int32)]) (rest := []) ⟨hx, hb, hml, hown, hts⟩ (kX10_isWithin l D ad cA A (M := M) c23) ⟨callB_of 3 hts (gdc wm403) rfl rfl rfl (hts _ wm50) (hts _ wm401) hdX10_isWithin ⟨Nat.le_of_ble_eq_true rfl, Nat.le_of_ble_eq_true rfl⟩, hts _ wm402⟩ hK hP hD hN rfl hl.1 rfl (lv_room (Nat.le_of_ble_eq_true rfl)) dX10_areAllowed_23) hS (fun H locs hP hS => ?_)
        refine w_pc 26 rfl ?_
        refine lv_istore (lv' := [(6, .int v23), (5, .int v12), (0, .long a0), (2, .int a2), (3, .int a3), (4, .int x4)]) hx hb dX10_areAllowed_26 hl (by decide) rfl (fun ls hl => ?_)
        refine lv_iload hx hb dX10_areAllowed_28 (lv_at hl 0 rfl) ?_
        refine w_pc 30 rfl ?_
        refine lv_if_ne (tgt := 53) hx hb dX10_areAllowed_30 (by decide) (fun q30 => ?_) (fun q30 => ?_)
        · replace h := (if_neg q30).symm.trans h
          refine w_pc 53 rfl ?_
          exact bk53 x4 ls _ _ (lv_sub hl [2, 3, 4, 5] rfl) h hP hS
        · replace h := (if_pos q30).symm.trans h
          refine w_pc 33 rfl ?_
          refine lv_iload hx hb dX10_areAllowed_33 (lv_at hl 1 rfl) ?_
          refine lv_bipush (v := 9) hx hb dX10_areAllowed_35 (by decide) ?_
          refine w_pc 37 rfl ?_
          refine lv_icmp_eq (tgt := 53) hx hb dX10_areAllowed_37 (by decide) (fun q37 => ?_) (fun q37 => ?_)
          · replace h := (if_pos q37).symm.trans h
            refine w_pc 53 rfl ?_
            exact bk53 x4 ls _ _ (lv_sub hl [2, 3, 4, 5] rfl) h hP hS
          · replace h := (if_neg q37).symm.trans h
            refine w_pc 40 rfl ?_
            refine lv_iload_n hx hb dX10_areAllowed_40 rfl (lv_at hl 4 rfl) ?_
            refine w_pc 41 rfl ?_
            refine lv_if_eq (tgt := 51) hx hb dX10_areAllowed_41 (by decide) (fun q41 => ?_) (fun q41 => ?_)
            · replace h := (if_pos q41).symm.trans h
              refine w_pc 51 rfl ?_
              refine lv_iconst (v := 0) hx hb dX10_areAllowed_51 (by decide) ?_
              exact re_z hx hb hr hlk (Or.inl rfl) (sm_r h) hP hS dX10_areAllowed_52
            · replace h := (if_neg q41).symm.trans h
              refine w_pc 44 rfl ?_
              refine lv_iload hx hb dX10_areAllowed_44 (lv_at hl 1 rfl) ?_
              refine lv_bipush (v := 10) hx hb dX10_areAllowed_46 (by decide) ?_
              refine w_pc 48 rfl ?_
              refine lv_icmp_eq (tgt := 53) hx hb dX10_areAllowed_48 (by decide) (fun q48 => ?_) (fun q48 => ?_)
              · replace h := (if_pos q48).symm.trans h
                refine w_pc 53 rfl ?_
                exact bk53 x4 ls _ _ (lv_sub hl [2, 3, 4, 5] rfl) h hP hS
              · replace h := (if_neg q48).symm.trans h
                refine w_pc 51 rfl ?_
                refine lv_iconst (v := 0) hx hb dX10_areAllowed_51 (by decide) ?_
                exact re_z hx hb hr hlk (Or.inl rfl) (sm_r h) hP hS dX10_areAllowed_52
  refine w_entry ha (Nat.le_of_ble_eq_true rfl) (fun ls hl => ?_)
  have hl : lv_has ls 7 [(0, .long a0), (2, .int a2), (3, .int a3)] := hl
  refine w_pc 0 rfl ?_
  refine lv_iconst (v := 0) hx hb dX10_areAllowed_0 (by decide) ?_
  refine lv_istore (lv' := [(4, .int (0 : Int32)), (0, .long a0), (2, .int a2), (3, .int a3)]) hx hb dX10_areAllowed_1 hl (by decide) rfl (fun ls hl => ?_)
  exact lp3 FU (0 : Int32) ls _ _ (lv_sub hl [1, 2, 3, 0] rfl) h hP hS
def rmX9_append : Room := { frames := 0, cells := 0, slots := 0, locals := 0 }
def fX9_append (i0 : Nat) (a1 : Int32) (M : Mm) : Option Mm :=
  if (nI (tlen i0)) ≤ (M (246 + i0) 1) then (some M) else (grd (gin (M (246 + i0) 1) (tlen i0)) (nm (up2 M (254 + i0) (M (246 + i0) 1).toNatClampNeg a1) (fun M21 => nm (up2 M21 (246 + i0) 1 ((M21 (246 + i0) 1) + (1 : Int32))) (fun M29 => some M29))))
set_option maxRecDepth 100000 in
set_option maxHeartbeats 4000000 in
theorem kX9_append (l : Launch) (D : va_G) (ad : Nat → Nat) (cA : Nat → ClassId) (A : Nat → Prop) {i0 : Nat} {a1 : Int32} {M M1 : Mm} (hi0 : i0 < 8) (h : fX9_append i0 a1 M = some M1) : Met l yX9_append wsX9_append rmX9_append (gPc D (tyM cA) 289 (layM ad cA) ad A M [.ref (ad (246 + i0)), .int a1]) (gQv D 289 (layM ad cA) ad A M1) 0 0 A := by
  refine Met.ofW (cc := cX9_append) (maxL := 2) (ret := none) (by decide) rfl ?_
  intro p e s m args below meth c s₁ B hml hv
  obtain ⟨ha, hP, hK, hD, hN⟩ := hv
  have hx := B.exec
  have hb := B.bytes
  have hr := B.returns
  have hlk := B.notSynchronized
  have hts : ∀ w ∈ lw_g, w.before args s = true := fun w h => atoms_spec (ws := wsX9_append) B.pre w (List.mem_cons_of_mem _ h)
  have hown : s.vm.findClass RX9 = some m.cls := findClass_of_methodNamed B.named
  have hS : va_S A s.heap s.heap [] := va_S.rf
  unfold fX9_append at h
  have w15 := hts _ wm206
  have w9 := hts _ wm204
  refine w_entry ha (Nat.le_of_ble_eq_true rfl) (fun ls hl => ?_)
  have hl : lv_has ls 2 [(0, .ref (ad (246 + i0))), (1, .int a1)] := hl
  refine w_pc 0 rfl ?_
  refine lv_aload_n hx hb dX9_append_0 rfl (lv_at hl 0 rfl) ?_
  refine gw_get (C := RX9) (T := TX9) (N := 2) (v := .int (M (246 + i0) 1)) hx hb hts hinX9 hown hK hP (by omega) (lyMText (by omega)) rfl 1 (by decide) w15 (fun _ h9 => h9) rfl dX9_append_1 ?_
  refine lv_aload_n hx hb dX9_append_4 rfl (lv_at hl 0 rfl) ?_
  refine gw_get (C := RX9) (T := TX9) (N := 2) (v := .ref (ad (254 + i0))) hx hb hts hinX9 hown hK hP (by omega) (lyMText (by omega)) rfl 0 (by decide) w9 (fun _ h9 => h9) rfl dX9_append_5 ?_
  refine gw_alen hx hb hK hP 0 (by omega) (lyMaCh (by omega)) rfl dX9_append_8 ?_
  refine w_pc 9 rfl ?_
  refine lv_icmp_ge (tgt := 32) hx hb dX9_append_9 (by decide) (fun q9 => ?_) (fun q9 => ?_)
  · replace h := (if_pos q9).symm.trans h
    refine w_pc 32 rfl ?_
    exact re_v hx hb hr hlk h hP hS dX9_append_32
  · replace h := (if_neg q9).symm.trans h
    refine w_pc 12 rfl ?_
    refine lv_aload_n hx hb dX9_append_12 rfl (lv_at hl 0 rfl) ?_
    refine gw_get (C := RX9) (T := TX9) (N := 2) (v := .ref (ad (254 + i0))) hx hb hts hinX9 hown hK hP (by omega) (lyMText (by omega)) rfl 0 (by decide) w9 (fun _ h9 => h9) rfl dX9_append_13 ?_
    refine lv_aload_n hx hb dX9_append_16 rfl (lv_at hl 0 rfl) ?_
    refine gw_get (C := RX9) (T := TX9) (N := 2) (v := .int (M (246 + i0) 1)) hx hb hts hinX9 hown hK hP (by omega) (lyMText (by omega)) rfl 1 (by decide) w15 (fun _ h9 => h9) rfl dX9_append_17 ?_
    refine lv_iload_n hx hb dX9_append_20 rfl (lv_at hl 1 rfl) ?_
    obtain ⟨g21, h⟩ := gd_in h
    obtain ⟨M21, eM21, h⟩ := nm_some h
    refine gw_iast hx hb hK hP hD hS 0 (by omega) (lyMaCh (by omega)) rfl g21 eM21 dX9_append_21 (fun H locs hP hS => ?_)
    refine lv_aload_n hx hb dX9_append_22 rfl (lv_at hl 0 rfl) ?_
    refine w_pc 23 rfl ?_
    refine lv_dup hx hb dX9_append_23 rfl ?_
    refine gw_get (C := RX9) (T := TX9) (N := 2) (v := .int (M21 (246 + i0) 1)) hx hb hts hinX9 hown hK hP (by omega) (lyMText (by omega)) rfl 1 (by decide) w15 (fun _ h9 => h9) rfl dX9_append_24 ?_
    refine lv_iconst (v := 1) hx hb dX9_append_27 (by decide) ?_
    refine lv_iadd hx hb dX9_append_28 ?_
    obtain ⟨M29, eM29, h⟩ := nm_some h
    refine gw_put (C := RX9) (T := TX9) (N := 2) (ty := .int) hx hb hts hinX9 tyX9 tyX9_ok nmX9 hown hK hP hD hS (by omega) (lyMText (by omega)) rfl 1 (by decide) w15 (fun _ h9 => h9) rfl (by decide +kernel) rfl rfl (Nat.le_of_ble_eq_true rfl) rfl eM29 dX9_append_29 (fun H locs hP hS => ?_)
    exact re_v hx hb hr hlk h hP hS dX9_append_32
def rmX9_appendBytes : Room := { frames := 1, cells := 0, slots := 0, locals := 22 }
def fX9_appendBytes_22 (i0 : Nat) (a1 : Int64) (a3 : Int32) : Nat → Int32 → Mm → Option (Int32 × Mm)
  | 0, _, _ => none
  | n + 1, x4, M => if x4 < 0 then (some ((M (246 + i0) 1), M)) else (bn1 (fX10_byteAt a1 x4) (fun v31 => bn1 (fX9_append i0 v31 M) (fun M34 => (fX9_appendBytes_22 i0 a1 a3 n) (x4 + (-1)) M34)))
def fX9_appendBytes (i0 : Nat) (a1 : Int64) (a3 : Int32) (M : Mm) : Option (Int32 × Mm) :=
  if ((M (246 + i0) 1) + a3) ≤ (nI (tlen i0)) then (nm (a3 - (1 : Int32)) (fun v20 => fX9_appendBytes_22 i0 a1 a3 FU v20 M)) else (some ((-2 : Int32), M))
set_option maxRecDepth 100000 in
set_option maxHeartbeats 4000000 in
theorem kX9_appendBytes (l : Launch) (D : va_G) (ad : Nat → Nat) (cA : Nat → ClassId) (A : Nat → Prop) {i0 : Nat} {a1 : Int64} {a3 : Int32} {M M1 : Mm} {r : Int32} (hi0 : i0 < 8) (h : fX9_appendBytes i0 a1 a3 M = some (r, M1)) : Met l yX9_appendBytes wsX9_appendBytes rmX9_appendBytes (gPc D (tyM cA) 289 (layM ad cA) ad A M [.ref (ad (246 + i0)), .long a1, .int a3]) (gQi D 289 (layM ad cA) ad A M1 r) 0 0 A := by
  refine Met.ofW (cc := cX9_appendBytes) (maxL := 5) (ret := (some .int)) (by decide) rfl ?_
  intro p e s m args below meth c s₁ B hml hv
  obtain ⟨ha, hP, hK, hD, hN⟩ := hv
  have hx := B.exec
  have hb := B.bytes
  have hr := B.returns
  have hlk := B.notSynchronized
  have hts : ∀ w ∈ lw_g, w.before args s = true := fun w h => atoms_spec (ws := wsX9_appendBytes) B.pre w (List.mem_cons_of_mem _ h)
  have hown : s.vm.findClass RX9 = some m.cls := findClass_of_methodNamed B.named
  have hS : va_S A s.heap s.heap [] := va_S.rf
  unfold fX9_appendBytes at h
  have w15 := hts _ wm206
  have w9 := hts _ wm204
  have lp22 : ∀ (n : Nat) (x4 : Int32) (M : Mm) (ls : Array Slot) (H : Heap) (locs : List Loc), lv_has ls 5 [(0, .ref (ad (246 + i0))), (1, .long a1), (4, .int x4)] → fX9_appendBytes_22 i0 a1 a3 n x4 M = some (r, M1) → va_P D vwCl (gw 289 (layM ad cA) ad M) H → va_S A s.heap H locs → W p l e (headSpec wsX9_appendBytes rmX9_appendBytes).room s m args below meth c H locs 0 0 (MQ below (gQi D 289 (layM ad cA) ad A M1 r) args s 0 0 A) (F0 m 22 ls []) := by
    intro n
    induction n with
    | zero =>
      intro x4 M ls H locs hl h hP hS
      rw [fX9_appendBytes_22] at h
      cases h
    | succ n ih22 =>
      intro x4 M ls H locs hl h hP hS
      rw [fX9_appendBytes_22] at h
      refine w_pc 22 rfl ?_
      refine lv_iload hx hb dX9_appendBytes_22 (lv_at hl 2 rfl) ?_
      refine w_pc 24 rfl ?_
      refine lv_if_lt (tgt := 43) hx hb dX9_appendBytes_24 (by decide) (fun q24 => ?_) (fun q24 => ?_)
      · replace h := (if_pos q24).symm.trans h
        refine w_pc 43 rfl ?_
        refine lv_aload_n hx hb dX9_appendBytes_43 rfl (lv_at hl 0 rfl) ?_
        refine gw_get (C := RX9) (T := TX9) (N := 2) (v := .int (M (246 + i0) 1)) hx hb hts hinX9 hown hK hP (by omega) (lyMText (by omega)) rfl 1 (by decide) w15 (fun _ h9 => h9) rfl dX9_appendBytes_44 ?_
        exact re_i hx hb hr hlk h hP hS dX9_appendBytes_47
      · replace h := (if_neg q24).symm.trans h
        refine w_pc 27 rfl ?_
        refine lv_aload_n hx hb dX9_appendBytes_27 rfl (lv_at hl 0 rfl) ?_
        refine lv_lload_n hx hb dX9_appendBytes_28 rfl (lv_at hl 1 rfl) ?_
        refine lv_iload hx hb dX9_appendBytes_29 (lv_at hl 2 rfl) ?_
        refine w_pc 31 rfl ?_
        obtain ⟨v31, c31, h⟩ := bn1_some h
        refine cl_i (rn_sN (As := [.long a1, .int x4]) (rest := [.ref (ad (246 + i0))]) ⟨hx, hb, hml, hown, hts⟩ (kX10_byteAt l D ad cA A (M := M) c31) ⟨va_cnB 2 hts (gdc wm485) rfl rfl rfl (hN _ nw11) (hts _ wm50) hdX10_byteAt ⟨Nat.le_of_ble_eq_true rfl, Nat.le_of_ble_eq_true rfl⟩, hts _ wm484, trivial⟩ hK hP hD hN rfl hl.1 rfl (lv_room (Nat.le_of_ble_eq_true rfl)) dX9_appendBytes_31) hS (fun H locs hP hS => ?_)
        refine w_pc 34 rfl ?_
        refine w_pc 34 rfl ?_
        obtain ⟨M34, c34, h⟩ := bn1_some h
        refine cl_v (rn_v (As := [.int v31]) (rest := []) ⟨hx, hb, hml, hown, hts⟩ (kX9_append l D ad cA A (by omega) c34) ⟨callB_of 1 hts (gdc wm494) rfl rfl rfl (hts _ wm56) (hts _ wm491) hdX9_append ⟨Nat.le_of_ble_eq_true rfl, Nat.le_of_ble_eq_true rfl⟩, hts _ wm493, hts _ wm2⟩ hK hP hD hN (by omega) (lyMText (by omega)) rfl rfl hl.1 rfl (lv_room (Nat.le_of_ble_eq_true rfl)) dX9_appendBytes_34) hS (fun H locs hP hS => ?_)
        refine w_pc 37 rfl ?_
        refine lv_iinc (k := 2) (v := x4 + (-1)) (lv' := [(4, .int (x4 + (-1))), (0, .ref (ad (246 + i0))), (1, .long a1)]) hx hb dX9_appendBytes_37 hl rfl rfl (by decide) rfl (fun ls hl => ?_)
        refine lv_goto (tgt := 22) hx hb dX9_appendBytes_40 (by decide) ?_
        exact ih22 (x4 + (-1)) M34 ls _ _ (lv_sub hl [1, 2, 0] rfl) h hP hS
  refine w_entry ha (Nat.le_of_ble_eq_true rfl) (fun ls hl => ?_)
  have hl : lv_has ls 5 [(0, .ref (ad (246 + i0))), (1, .long a1), (3, .int a3)] := hl
  refine w_pc 0 rfl ?_
  refine lv_aload_n hx hb dX9_appendBytes_0 rfl (lv_at hl 0 rfl) ?_
  refine gw_get (C := RX9) (T := TX9) (N := 2) (v := .int (M (246 + i0) 1)) hx hb hts hinX9 hown hK hP (by omega) (lyMText (by omega)) rfl 1 (by decide) w15 (fun _ h9 => h9) rfl dX9_appendBytes_1 ?_
  refine lv_iload_n hx hb dX9_appendBytes_4 rfl (lv_at hl 2 rfl) ?_
  refine lv_iadd hx hb dX9_appendBytes_5 ?_
  refine lv_aload_n hx hb dX9_appendBytes_6 rfl (lv_at hl 0 rfl) ?_
  refine gw_get (C := RX9) (T := TX9) (N := 2) (v := .ref (ad (254 + i0))) hx hb hts hinX9 hown hK hP (by omega) (lyMText (by omega)) rfl 0 (by decide) w9 (fun _ h9 => h9) rfl dX9_appendBytes_7 ?_
  refine gw_alen hx hb hK hP 0 (by omega) (lyMaCh (by omega)) rfl dX9_appendBytes_10 ?_
  refine w_pc 11 rfl ?_
  refine w_pc 11 rfl ?_
  refine lv_icmp_le (tgt := 17) hx hb dX9_appendBytes_11 (by decide) (fun q11 => ?_) (fun q11 => ?_)
  · replace h := (if_pos q11).symm.trans h
    refine w_pc 17 rfl ?_
    refine lv_iload_n hx hb dX9_appendBytes_17 rfl (lv_at hl 2 rfl) ?_
    refine lv_iconst (v := 1) hx hb dX9_appendBytes_18 (by decide) ?_
    refine lv_isub hx hb dX9_appendBytes_19 ?_
    obtain ⟨v20, e20, h⟩ := nm_some h
    refine w_ti e20 ?_
    refine lv_istore (lv' := [(4, .int v20), (0, .ref (ad (246 + i0))), (1, .long a1), (3, .int a3)]) hx hb dX9_appendBytes_20 hl (by decide) rfl (fun ls hl => ?_)
    exact lp22 FU v20 M ls _ _ (lv_sub hl [1, 2, 0] rfl) h hP hS
  · replace h := (if_neg q11).symm.trans h
    refine w_pc 14 rfl ?_
    refine lv_bipush (v := -2) hx hb dX9_appendBytes_14 (by decide) ?_
    exact re_i hx hb hr hlk h hP hS dX9_appendBytes_16
def rmX10_type : Room := { frames := 2, cells := 0, slots := 0, locals := 48 }
def fX10_type_39 (a1 : Int32) (a2 : Int64) (a4 : Int32) (j5 : Nat) (s0 : Int32) (s1 : Int32) (s2 : Int64) (M : Mm) : Option (Int32 × Mm) :=
  bn1 (fX10_areAllowed s2 s1 s0) (fun v39 => if v39 = 0 then (some ((-1 : Int32), M)) else (bn2 (fX9_appendBytes j5 a2 a4 M) (fun v52 M52 => some (v52, M52))))
def fX10_type (a1 : Int32) (a2 : Int64) (a4 : Int32) (M : Mm) : Option (Int32 × Mm) :=
  bn1 (fX4_partAt a1 M) (fun v5 => opc v5 (some ((-1 : Int32), M)) (fun j5 => grd (decide (j5 < 8)) (bn1 (fX10_isWithin a4 (1 : Int32) (8 : Int32)) (fun v20 => if v20 = 0 then (some ((-1 : Int32), M)) else (if a1 = (-1 : Int32) then (fX10_type_39 a1 a2 a4 j5 (1 : Int32) a4 a2 M) else (fX10_type_39 a1 a2 a4 j5 (0 : Int32) a4 a2 M))))))
set_option maxRecDepth 100000 in
set_option maxHeartbeats 4000000 in
theorem kX10_type (l : Launch) (D : va_G) (ad : Nat → Nat) (cA : Nat → ClassId) (A : Nat → Prop) {a1 : Int32} {a2 : Int64} {a4 : Int32} {M M1 : Mm} {r : Int32} (h : fX10_type a1 a2 a4 M = some (r, M1)) : Met l yX10_type wsX10_type rmX10_type (gPc D (tyM cA) 289 (layM ad cA) ad A M [.ref (ad 0), .int a1, .long a2, .int a4]) (gQi D 289 (layM ad cA) ad A M1 r) 0 0 A := by
  refine Met.ofW (cc := cX10_type) (maxL := 6) (ret := (some .int)) (by decide) rfl ?_
  intro p e s m args below meth c s₁ B hml hv
  obtain ⟨ha, hP, hK, hD, hN⟩ := hv
  have hx := B.exec
  have hb := B.bytes
  have hr := B.returns
  have hlk := B.notSynchronized
  have hts : ∀ w ∈ lw_g, w.before args s = true := fun w h => atoms_spec (ws := wsX10_type) B.pre w (List.mem_cons_of_mem _ h)
  have hown : s.vm.findClass RX10 = some m.cls := findClass_of_methodNamed B.named
  have hS : va_S A s.heap s.heap [] := va_S.rf
  unfold fX10_type at h
  have w30 := hts _ wm371
  have bk39 : ∀ (j5 : Nat) (s0 : Int32) (s1 : Int32) (s2 : Int64) (M : Mm) (ls : Array Slot) (H : Heap) (locs : List Loc), j5 < 8 → lv_has ls 6 [(2, .long a2), (4, .int a4), (5, .ref (ad (246 + j5)))] → fX10_type_39 a1 a2 a4 j5 s0 s1 s2 M = some (r, M1) → va_P D vwCl (gw 289 (layM ad cA) ad M) H → va_S A s.heap H locs → W p l e (headSpec wsX10_type rmX10_type).room s m args below meth c H locs 0 0 (MQ below (gQi D 289 (layM ad cA) ad A M1 r) args s 0 0 A) (F0 m 39 ls [.int s0, .int s1, .long s2]) := by
    intro j5 s0 s1 s2 M ls H locs hbj5 hl h hP hS
    unfold fX10_type_39 at h
    refine w_pc 39 rfl ?_
    refine w_pc 39 rfl ?_
    obtain ⟨v39, c39, h⟩ := bn1_some h
    refine cl_i (rn_s (As := [.long s2, .int s1, .int s0]) (rest := []) ⟨hx, hb, hml, hown, hts⟩ (kX10_areAllowed l D ad cA A (M := M) c39) ⟨callB_of 3 hts (gdc wm482) rfl rfl rfl (hts _ wm50) (hts _ wm480) hdX10_areAllowed ⟨Nat.le_of_ble_eq_true rfl, Nat.le_of_ble_eq_true rfl⟩, hts _ wm481⟩ hK hP hD hN rfl hl.1 rfl (lv_room (Nat.le_of_ble_eq_true rfl)) dX10_type_39) hS (fun H locs hP hS => ?_)
    refine w_pc 42 rfl ?_
    refine w_pc 42 rfl ?_
    refine lv_if_ne (tgt := 47) hx hb dX10_type_42 (by decide) (fun q42 => ?_) (fun q42 => ?_)
    · replace h := (if_neg q42).symm.trans h
      refine w_pc 47 rfl ?_
      refine lv_aload hx hb dX10_type_47 (lv_at hl 2 rfl) ?_
      refine lv_lload_n hx hb dX10_type_49 rfl (lv_at hl 0 rfl) ?_
      refine lv_iload hx hb dX10_type_50 (lv_at hl 1 rfl) ?_
      refine w_pc 52 rfl ?_
      obtain ⟨v52, M52, c52, h⟩ := bn2_some h
      refine cl_i (rn_v (As := [.long a2, .int a4]) (rest := []) ⟨hx, hb, hml, hown, hts⟩ (kX9_appendBytes l D ad cA A (by omega) c52) ⟨callB_of 2 hts (gdc wm489) rfl rfl rfl (hts _ wm56) (hts _ wm486) hdX9_appendBytes ⟨Nat.le_of_ble_eq_true rfl, Nat.le_of_ble_eq_true rfl⟩, hts _ wm487, hts _ wm488⟩ hK hP hD hN (by omega) (lyMText (by omega)) rfl rfl hl.1 rfl (lv_room (Nat.le_of_ble_eq_true rfl)) dX10_type_52) hS (fun H locs hP hS => ?_)
      refine w_pc 55 rfl ?_
      exact re_i hx hb hr hlk h hP hS dX10_type_55
    · replace h := (if_pos q42).symm.trans h
      refine w_pc 45 rfl ?_
      refine lv_iconst (v := -1) hx hb dX10_type_45 (by decide) ?_
      exact re_i hx hb hr hlk h hP hS dX10_type_46
  refine w_entry ha (Nat.le_of_ble_eq_true rfl) (fun ls hl => ?_)
  have hl : lv_has ls 6 [(0, .ref (ad 0)), (1, .int a1), (2, .long a2), (4, .int a4)] := hl
  refine w_pc 0 rfl ?_
  refine lv_aload_n hx hb dX10_type_0 rfl (lv_at hl 0 rfl) ?_
  refine gw_get (C := RX10) (T := TX10) (N := 8) (v := .ref (ad 243)) hx hb hts hinX10 hown hK hP (by omega) lyMMA rfl 3 (by decide) w30 (fun _ h9 => h9) rfl dX10_type_1 ?_
  refine lv_iload_n hx hb dX10_type_4 rfl (lv_at hl 1 rfl) ?_
  refine w_pc 5 rfl ?_
  obtain ⟨v5, c5, h⟩ := bn1_some h
  cases v5 with
  | none =>
    replace h := opc_n h
    refine cl_n (rn_v (As := [.int a1]) (rest := []) ⟨hx, hb, hml, hown, hts⟩ (kX4_partAt l D ad cA A c5) ⟨callB_of 1 hts (gdc wm478) rfl rfl rfl (hts _ wm55) (hts _ wm475) hdX4_partAt ⟨Nat.le_of_ble_eq_true rfl, Nat.le_of_ble_eq_true rfl⟩, hts _ wm476, hts _ wm477⟩ hK hP hD hN (by omega) lyMMail rfl rfl hl.1 rfl (lv_room (Nat.le_of_ble_eq_true rfl)) dX10_type_5) hS (fun H locs hP hS => ?_)
    refine w_pc 8 rfl ?_
    refine lv_astoreN (lv' := [(5, .null), (0, .ref (ad 0)), (1, .int a1), (2, .long a2), (4, .int a4)]) hx hb dX10_type_8 hl (by decide) rfl (fun ls hl => ?_)
    refine lv_aloadN hx hb dX10_type_10 (lv_at hl 0 rfl) ?_
    refine lv_ifnullN (tgt := 45) hx hb dX10_type_12 (by decide) ?_
    refine lv_iconst (v := -1) hx hb dX10_type_45 (by decide) ?_
    exact re_i hx hb hr hlk h hP hS dX10_type_46
  | some j5 =>
    replace h := opc_s h
    obtain ⟨g5, h⟩ := gd_lt h
    refine cl_r (rn_v (As := [.int a1]) (rest := []) ⟨hx, hb, hml, hown, hts⟩ (kX4_partAt l D ad cA A c5) ⟨callB_of 1 hts (gdc wm478) rfl rfl rfl (hts _ wm55) (hts _ wm475) hdX4_partAt ⟨Nat.le_of_ble_eq_true rfl, Nat.le_of_ble_eq_true rfl⟩, hts _ wm476, hts _ wm477⟩ hK hP hD hN (by omega) lyMMail rfl rfl hl.1 rfl (lv_room (Nat.le_of_ble_eq_true rfl)) dX10_type_5) hS (fun H locs hP hS => ?_)
    refine w_pc 8 rfl ?_
    refine lv_astore (lv' := [(5, .ref (ad (246 + j5))), (0, .ref (ad 0)), (1, .int a1), (2, .long a2), (4, .int a4)]) hx hb dX10_type_8 hl (by decide) rfl (fun ls hl => ?_)
    refine lv_aload hx hb dX10_type_10 (lv_at hl 0 rfl) ?_
    refine lv_ifnull hx hb dX10_type_12 ?_
    refine lv_iload hx hb dX10_type_15 (lv_at hl 4 rfl) ?_
    refine lv_iconst (v := 1) hx hb dX10_type_17 (by decide) ?_
    refine lv_bipush (v := 8) hx hb dX10_type_18 (by decide) ?_
    refine w_pc 20 rfl ?_
    obtain ⟨v20, c20, h⟩ := bn1_some h
    refine cl_i (rn_s (As := [.int a4, .int (1 : Int32), .int (8 : Int32)]) (rest := []) ⟨hx, hb, hml, hown, hts⟩ (kX10_isWithin l D ad cA A (M := M) c20) ⟨callB_of 3 hts (gdc wm403) rfl rfl rfl (hts _ wm50) (hts _ wm401) hdX10_isWithin ⟨Nat.le_of_ble_eq_true rfl, Nat.le_of_ble_eq_true rfl⟩, hts _ wm402⟩ hK hP hD hN rfl hl.1 rfl (lv_room (Nat.le_of_ble_eq_true rfl)) dX10_type_20) hS (fun H locs hP hS => ?_)
    refine w_pc 23 rfl ?_
    refine w_pc 23 rfl ?_
    refine lv_if_eq (tgt := 45) hx hb dX10_type_23 (by decide) (fun q23 => ?_) (fun q23 => ?_)
    · replace h := (if_pos q23).symm.trans h
      refine w_pc 45 rfl ?_
      refine lv_iconst (v := -1) hx hb dX10_type_45 (by decide) ?_
      exact re_i hx hb hr hlk h hP hS dX10_type_46
    · replace h := (if_neg q23).symm.trans h
      refine w_pc 26 rfl ?_
      refine lv_lload_n hx hb dX10_type_26 rfl (lv_at hl 3 rfl) ?_
      refine lv_iload hx hb dX10_type_27 (lv_at hl 4 rfl) ?_
      refine lv_iload_n hx hb dX10_type_29 rfl (lv_at hl 2 rfl) ?_
      refine lv_iconst (v := -1) hx hb dX10_type_30 (by decide) ?_
      refine w_pc 31 rfl ?_
      refine lv_icmp_ne (tgt := 38) hx hb dX10_type_31 (by decide) (fun q31 => ?_) (fun q31 => ?_)
      · replace h := (if_neg q31).symm.trans h
        refine w_pc 38 rfl ?_
        refine lv_iconst (v := 0) hx hb dX10_type_38 (by decide) ?_
        exact bk39 j5 (0 : Int32) a4 a2 M ls _ _ (by omega) (lv_sub hl [3, 4, 0] rfl) h hP hS
      · replace h := (if_pos q31).symm.trans h
        refine w_pc 34 rfl ?_
        refine lv_iconst (v := 1) hx hb dX10_type_34 (by decide) ?_
        refine lv_goto (tgt := 39) hx hb dX10_type_35 (by decide) ?_
        exact bk39 j5 (1 : Int32) a4 a2 M ls _ _ (by omega) (lv_sub hl [3, 4, 0] rfl) h hP hS
def rmX10_isBlank : Room := { frames := 0, cells := 0, slots := 0, locals := 0 }
def fX10_isBlank (a0 : Int32) : Option Int32 :=
  if a0 = (9 : Int32) then (some (1 : Int32)) else (if a0 = (32 : Int32) then (some (1 : Int32)) else (some (0 : Int32)))
set_option maxRecDepth 100000 in
set_option maxHeartbeats 4000000 in
theorem kX10_isBlank (l : Launch) (D : va_G) (ad : Nat → Nat) (cA : Nat → ClassId) (A : Nat → Prop) {a0 : Int32} {M : Mm} {r : Int32} (h : fX10_isBlank a0 = some r) : Met l yX10_isBlank wsX10_isBlank rmX10_isBlank (gPc D (tyM cA) 289 (layM ad cA) ad A M [.int a0]) (gQi D 289 (layM ad cA) ad A M r) 0 0 A := by
  refine Met.ofW (cc := cX10_isBlank) (maxL := 1) (ret := (some .boolean)) (by decide) rfl ?_
  intro p e s m args below meth c s₁ B hml hv
  obtain ⟨ha, hP, hK, hD, hN⟩ := hv
  have hx := B.exec
  have hb := B.bytes
  have hr := B.returns
  have hlk := B.notSynchronized
  have hts : ∀ w ∈ lw_g, w.before args s = true := fun w h => atoms_spec (ws := wsX10_isBlank) B.pre w (List.mem_cons_of_mem _ h)
  have hown : s.vm.findClass RX10 = some m.cls := findClass_of_methodNamed B.named
  have hS : va_S A s.heap s.heap [] := va_S.rf
  unfold fX10_isBlank at h
  refine w_entry ha (Nat.le_of_ble_eq_true rfl) (fun ls hl => ?_)
  have hl : lv_has ls 1 [(0, .int a0)] := hl
  refine w_pc 0 rfl ?_
  refine lv_iload_n hx hb dX10_isBlank_0 rfl (lv_at hl 0 rfl) ?_
  refine lv_bipush (v := 9) hx hb dX10_isBlank_1 (by decide) ?_
  refine w_pc 3 rfl ?_
  refine lv_icmp_eq (tgt := 12) hx hb dX10_isBlank_3 (by decide) (fun q3 => ?_) (fun q3 => ?_)
  · replace h := (if_pos q3).symm.trans h
    refine w_pc 12 rfl ?_
    refine lv_iconst (v := 1) hx hb dX10_isBlank_12 (by decide) ?_
    refine lv_goto (tgt := 17) hx hb dX10_isBlank_13 (by decide) ?_
    exact re_z hx hb hr hlk (Or.inr rfl) (sm_r h) hP hS dX10_isBlank_17
  · replace h := (if_neg q3).symm.trans h
    refine w_pc 6 rfl ?_
    refine lv_iload_n hx hb dX10_isBlank_6 rfl (lv_at hl 0 rfl) ?_
    refine lv_bipush (v := 32) hx hb dX10_isBlank_7 (by decide) ?_
    refine w_pc 9 rfl ?_
    refine lv_icmp_ne (tgt := 16) hx hb dX10_isBlank_9 (by decide) (fun q9 => ?_) (fun q9 => ?_)
    · replace h := (if_neg q9).symm.trans h
      refine w_pc 16 rfl ?_
      refine lv_iconst (v := 0) hx hb dX10_isBlank_16 (by decide) ?_
      exact re_z hx hb hr hlk (Or.inl rfl) (sm_r h) hP hS dX10_isBlank_17
    · replace h := (if_pos q9).symm.trans h
      refine w_pc 12 rfl ?_
      refine lv_iconst (v := 1) hx hb dX10_isBlank_12 (by decide) ?_
      refine lv_goto (tgt := 17) hx hb dX10_isBlank_13 (by decide) ?_
      exact re_z hx hb hr hlk (Or.inr rfl) (sm_r h) hP hS dX10_isBlank_17
