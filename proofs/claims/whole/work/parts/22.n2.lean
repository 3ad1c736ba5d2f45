def rmX11_tryTerm : Room := { frames := 3, cells := 0, slots := 0, locals := 70 }
def fX11_tryTerm (a1 : Int32) (M : Mm) : Option (Int32 × Mm) :=
  grd (gin a1 120) (nm (M 10 a1.toNatClampNeg) (fun v6 => grd (gin a1 120) (if (M 9 a1.toNatClampNeg) = 0 then (some ((1 : Int32), M)) else (grd (gin a1 120) (if (M 9 a1.toNatClampNeg) = (1 : Int32) then (grd (gin a1 120) (bn1 (fX11_agrees v6 (M 11 a1.toNatClampNeg) M) (fun v36 => if v36 = 0 then (some ((0 : Int32), M)) else (some ((1 : Int32), M))))) else (grd (gin v6 20) (if (M 3 v6.toNatClampNeg) = 0 then (grd (gin a1 120) (if (M 9 a1.toNatClampNeg) = (3 : Int32) then (grd (gin (((2 : Int32) * v6) + (1 : Int32)) 40) (if (M 5 (((2 : Int32) * v6) + (1 : Int32)).toNatClampNeg) = 0 then (bn2 (fX11_empty M) (fun v83 M83 => some (v83, M83))) else (grd (gin a1 120) (bn1 (fX11_tryExchangers v6 (M 11 a1.toNatClampNeg) M) (fun v97 => some (v97, M)))))) else (grd (gin ((2 : Int32) * v6) 40) (if (M 5 ((2 : Int32) * v6).toNatClampNeg) = 0 then (bn2 (fX11_empty M) (fun v113 M113 => some (v113, M113))) else (grd (gin a1 120) (if (M 9 a1.toNatClampNeg) = (5 : Int32) then (some ((1 : Int32), M)) else (grd (gin a1 120) (bn1 (fX11_isAt v6 (M 11 a1.toNatClampNeg) M) (fun v135 => if v135 = 0 then (some ((0 : Int32), M)) else (some ((1 : Int32), M))))))))))) else (some ((5 : Int32), M)))))))))
set_option maxRecDepth 100000 in
set_option maxHeartbeats 4000000 in
theorem kX11_tryTerm (l : Launch) (D : va_G) (ad : Nat → Nat) (cA : Nat → ClassId) (A : Nat → Prop) {a1 : Int32} {M M1 : Mm} {r : Int32} (h : fX11_tryTerm a1 M = some (r, M1)) : Met l yX11_tryTerm wsX11_tryTerm rmX11_tryTerm (gPc D (tyM cA) 40 (layN ad cA) ad A M [.ref (ad 0), .int a1]) (gQi D 40 (layN ad cA) ad A M1 r) 0 0 A := by
  refine Met.ofW (cc := cX11_tryTerm) (maxL := 3) (ret := (some .int)) (by decide) rfl ?_
  intro p e s m args below meth c s₁ B hml hv
  obtain ⟨ha, hP, hK, hD, hN⟩ := hv
  have hx := B.exec
  have hb := B.bytes
  have hr := B.returns
  have hlk := B.notSynchronized
  have hts : ∀ w ∈ lw_g, w.before args s = true := fun w h => atoms_spec (ws := wsX11_tryTerm) B.pre w (List.mem_cons_of_mem _ h)
  have hown : s.vm.findClass RX11 = some m.cls := findClass_of_methodNamed B.named
  have hS : va_S A s.heap s.heap [] := va_S.rf
  unfold fX11_tryTerm at h
  have w38 := hts _ wm737
  have w35 := hts _ wm736
  have w41 := hts _ wm738
  have w17 := hts _ wm730
  have w23 := hts _ wm732
  refine w_entry ha (Nat.le_of_ble_eq_true rfl) (fun ls hl => ?_)
  have hl : lv_has ls 3 [(0, .ref (ad 0)), (1, .int a1)] := hl
  refine w_pc 0 rfl ?_
  refine lv_aload_n hx hb dX11_tryTerm_0 rfl (lv_at hl 0 rfl) ?_
  refine gw_get (C := RX11) (T := TX11) (N := 55) (v := .ref (ad 10)) hx hb hts hinX11 hown hK hP (by omega) lyNMM rfl 10 (by decide) w38 (fun _ h9 => h9) rfl dX11_tryTerm_1 ?_
  refine lv_iload_n hx hb dX11_tryTerm_4 rfl (lv_at hl 1 rfl) ?_
  obtain ⟨g5, h⟩ := gd_in h
  refine gw_iald hx hb hK hP 0 (by omega) lyNavalues rfl g5 dX11_tryTerm_5 ?_
  obtain ⟨v6, e6, h⟩ := nm_some h
  refine w_ti e6 ?_
  refine lv_istore_n (lv' := [(2, .int v6), (0, .ref (ad 0)), (1, .int a1)]) hx hb dX11_tryTerm_6 rfl hl (by decide) rfl (fun ls hl => ?_)
  refine lv_aload_n hx hb dX11_tryTerm_7 rfl (lv_at hl 1 rfl) ?_
  refine gw_get (C := RX11) (T := TX11) (N := 55) (v := .ref (ad 9)) hx hb hts hinX11 hown hK hP (by omega) lyNMM rfl 9 (by decide) w35 (fun _ h9 => h9) rfl dX11_tryTerm_8 ?_
  refine w_pc 11 rfl ?_
  refine lv_iload_n hx hb dX11_tryTerm_11 rfl (lv_at hl 2 rfl) ?_
  obtain ⟨g12, h⟩ := gd_in h
  refine gw_iald hx hb hK hP 0 (by omega) lyNakinds rfl g12 dX11_tryTerm_12 ?_
  refine w_pc 13 rfl ?_
  refine lv_if_ne (tgt := 18) hx hb dX11_tryTerm_13 (by decide) (fun q13 => ?_) (fun q13 => ?_)
  · replace h := (if_neg q13).symm.trans h
    refine w_pc 18 rfl ?_
    refine lv_aload_n hx hb dX11_tryTerm_18 rfl (lv_at hl 1 rfl) ?_
    refine gw_get (C := RX11) (T := TX11) (N := 55) (v := .ref (ad 9)) hx hb hts hinX11 hown hK hP (by omega) lyNMM rfl 9 (by decide) w35 (fun _ h9 => h9) rfl dX11_tryTerm_19 ?_
    refine lv_iload_n hx hb dX11_tryTerm_22 rfl (lv_at hl 2 rfl) ?_
    obtain ⟨g23, h⟩ := gd_in h
    refine gw_iald hx hb hK hP 0 (by omega) lyNakinds rfl g23 dX11_tryTerm_23 ?_
    refine lv_iconst (v := 1) hx hb dX11_tryTerm_24 (by decide) ?_
    refine w_pc 25 rfl ?_
    refine lv_icmp_ne (tgt := 48) hx hb dX11_tryTerm_25 (by decide) (fun q25 => ?_) (fun q25 => ?_)
    · replace h := (if_neg q25).symm.trans h
      refine w_pc 48 rfl ?_
      refine lv_aload_n hx hb dX11_tryTerm_48 rfl (lv_at hl 1 rfl) ?_
      refine gw_get (C := RX11) (T := TX11) (N := 55) (v := .ref (ad 3)) hx hb hts hinX11 hown hK hP (by omega) lyNMM rfl 3 (by decide) w17 (fun _ h9 => h9) rfl dX11_tryTerm_49 ?_
      refine lv_iload_n hx hb dX11_tryTerm_52 rfl (lv_at hl 0 rfl) ?_
      obtain ⟨g53, h⟩ := gd_in h
      refine gw_zald hx hb hK hP 1 (by omega) lyNasilents rfl g53 dX11_tryTerm_53 ?_
      refine w_pc 54 rfl ?_
      refine lv_if_eq (tgt := 59) hx hb dX11_tryTerm_54 (by decide) (fun q54 => ?_) (fun q54 => ?_)
      · replace h := (if_pos q54).symm.trans h
        refine w_pc 59 rfl ?_
        refine lv_aload_n hx hb dX11_tryTerm_59 rfl (lv_at hl 1 rfl) ?_
        refine gw_get (C := RX11) (T := TX11) (N := 55) (v := .ref (ad 9)) hx hb hts hinX11 hown hK hP (by omega) lyNMM rfl 9 (by decide) w35 (fun _ h9 => h9) rfl dX11_tryTerm_60 ?_
        refine lv_iload_n hx hb dX11_tryTerm_63 rfl (lv_at hl 2 rfl) ?_
        obtain ⟨g64, h⟩ := gd_in h
        refine gw_iald hx hb hK hP 0 (by omega) lyNakinds rfl g64 dX11_tryTerm_64 ?_
        refine lv_iconst (v := 3) hx hb dX11_tryTerm_65 (by decide) ?_
        refine w_pc 66 rfl ?_
        refine lv_icmp_ne (tgt := 101) hx hb dX11_tryTerm_66 (by decide) (fun q66 => ?_) (fun q66 => ?_)
        · replace h := (if_neg q66).symm.trans h
          refine w_pc 101 rfl ?_
          refine lv_aload_n hx hb dX11_tryTerm_101 rfl (lv_at hl 1 rfl) ?_
          refine gw_get (C := RX11) (T := TX11) (N := 55) (v := .ref (ad 5)) hx hb hts hinX11 hown hK hP (by omega) lyNMM rfl 5 (by decide) w23 (fun _ h9 => h9) rfl dX11_tryTerm_102 ?_
          refine lv_iconst (v := 2) hx hb dX11_tryTerm_105 (by decide) ?_
          refine lv_iload_n hx hb dX11_tryTerm_106 rfl (lv_at hl 0 rfl) ?_
          refine lv_imul hx hb dX11_tryTerm_107 ?_
          obtain ⟨g108, h⟩ := gd_in h
          refine gw_iald hx hb hK hP 0 (by omega) lyNahostMany rfl g108 dX11_tryTerm_108 ?_
          refine w_pc 109 rfl ?_
          refine lv_if_ne (tgt := 117) hx hb dX11_tryTerm_109 (by decide) (fun q109 => ?_) (fun q109 => ?_)
          · replace h := (if_neg q109).symm.trans h
            refine w_pc 117 rfl ?_
            refine lv_aload_n hx hb dX11_tryTerm_117 rfl (lv_at hl 1 rfl) ?_
            refine gw_get (C := RX11) (T := TX11) (N := 55) (v := .ref (ad 9)) hx hb hts hinX11 hown hK hP (by omega) lyNMM rfl 9 (by decide) w35 (fun _ h9 => h9) rfl dX11_tryTerm_118 ?_
            refine lv_iload_n hx hb dX11_tryTerm_121 rfl (lv_at hl 2 rfl) ?_
            obtain ⟨g122, h⟩ := gd_in h
            refine gw_iald hx hb hK hP 0 (by omega) lyNakinds rfl g122 dX11_tryTerm_122 ?_
            refine lv_iconst (v := 5) hx hb dX11_tryTerm_123 (by decide) ?_
            refine w_pc 124 rfl ?_
            refine lv_icmp_eq (tgt := 141) hx hb dX11_tryTerm_124 (by decide) (fun q124 => ?_) (fun q124 => ?_)
            · replace h := (if_pos q124).symm.trans h
              refine w_pc 141 rfl ?_
              refine lv_iconst (v := 1) hx hb dX11_tryTerm_141 (by decide) ?_
              refine lv_goto (tgt := 146) hx hb dX11_tryTerm_142 (by decide) ?_
              exact re_i hx hb hr hlk h hP hS dX11_tryTerm_146
            · replace h := (if_neg q124).symm.trans h
              refine w_pc 127 rfl ?_
              refine lv_aload_n hx hb dX11_tryTerm_127 rfl (lv_at hl 1 rfl) ?_
              refine lv_iload_n hx hb dX11_tryTerm_128 rfl (lv_at hl 0 rfl) ?_
              refine lv_aload_n hx hb dX11_tryTerm_129 rfl (lv_at hl 1 rfl) ?_
              refine gw_get (C := RX11) (T := TX11) (N := 55) (v := .ref (ad 11)) hx hb hts hinX11 hown hK hP (by omega) lyNMM rfl 11 (by decide) w41 (fun _ h9 => h9) rfl dX11_tryTerm_130 ?_
              refine lv_iload_n hx hb dX11_tryTerm_133 rfl (lv_at hl 2 rfl) ?_
              obtain ⟨g134, h⟩ := gd_in h
              refine gw_iald hx hb hK hP 0 (by omega) lyNabits rfl g134 dX11_tryTerm_134 ?_
              refine w_pc 135 rfl ?_
              obtain ⟨v135, c135, h⟩ := bn1_some h
              refine cl_i (rn_v (As := [.int v6, .int (M 11 a1.toNatClampNeg)]) (rest := []) ⟨hx, hb, hml, hown, hts⟩ (kX11_isAt l D ad cA A c135) ⟨callB_of 2 hts (gdc wm978) rfl rfl rfl (hts _ wm61) (hts _ wm975) hdX11_isAt ⟨Nat.le_of_ble_eq_true rfl, Nat.le_of_ble_eq_true rfl⟩, hts _ wm977, hts _ wm33⟩ hK hP hD hN (by omega) lyNMM rfl rfl hl.1 rfl (lv_room (Nat.le_of_ble_eq_true rfl)) dX11_tryTerm_135) hS (fun H locs hP hS => ?_)
              refine w_pc 138 rfl ?_
              refine w_pc 138 rfl ?_
              refine lv_if_eq (tgt := 145) hx hb dX11_tryTerm_138 (by decide) (fun q138 => ?_) (fun q138 => ?_)
              · replace h := (if_pos q138).symm.trans h
                refine w_pc 145 rfl ?_
                refine lv_iconst (v := 0) hx hb dX11_tryTerm_145 (by decide) ?_
                exact re_i hx hb hr hlk h hP hS dX11_tryTerm_146
              · replace h := (if_neg q138).symm.trans h
                refine w_pc 141 rfl ?_
                refine lv_iconst (v := 1) hx hb dX11_tryTerm_141 (by decide) ?_
                refine lv_goto (tgt := 146) hx hb dX11_tryTerm_142 (by decide) ?_
                exact re_i hx hb hr hlk h hP hS dX11_tryTerm_146
          · replace h := (if_pos q109).symm.trans h
            refine w_pc 112 rfl ?_
            refine lv_aload_n hx hb dX11_tryTerm_112 rfl (lv_at hl 1 rfl) ?_
            refine w_pc 113 rfl ?_
            obtain ⟨v113, M113, c113, h⟩ := bn2_some h
            refine cl_i (rn_v (As := []) (rest := []) ⟨hx, hb, hml, hown, hts⟩ (kX11_empty l D ad cA A c113) ⟨callB_of 0 hts (gdc wm970) rfl rfl rfl (hts _ wm61) (hts _ wm967) hdX11_empty ⟨Nat.le_of_ble_eq_true rfl, Nat.le_of_ble_eq_true rfl⟩, hts _ wm969, hts _ wm31⟩ hK hP hD hN (by omega) lyNMM rfl rfl hl.1 rfl (lv_room (Nat.le_of_ble_eq_true rfl)) dX11_tryTerm_113) hS (fun H locs hP hS => ?_)
            refine w_pc 116 rfl ?_
            exact re_i hx hb hr hlk h hP hS dX11_tryTerm_116
        · replace h := (if_pos q66).symm.trans h
          refine w_pc 69 rfl ?_
          refine lv_aload_n hx hb dX11_tryTerm_69 rfl (lv_at hl 1 rfl) ?_
          refine gw_get (C := RX11) (T := TX11) (N := 55) (v := .ref (ad 5)) hx hb hts hinX11 hown hK hP (by omega) lyNMM rfl 5 (by decide) w23 (fun _ h9 => h9) rfl dX11_tryTerm_70 ?_
          refine lv_iconst (v := 2) hx hb dX11_tryTerm_73 (by decide) ?_
          refine lv_iload_n hx hb dX11_tryTerm_74 rfl (lv_at hl 0 rfl) ?_
          refine lv_imul hx hb dX11_tryTerm_75 ?_
          refine lv_iconst (v := 1) hx hb dX11_tryTerm_76 (by decide) ?_
          refine lv_iadd hx hb dX11_tryTerm_77 ?_
          refine w_pc 78 rfl ?_
          obtain ⟨g78, h⟩ := gd_in h
          refine gw_iald hx hb hK hP 0 (by omega) lyNahostMany rfl g78 dX11_tryTerm_78 ?_
          refine w_pc 79 rfl ?_
          refine lv_if_ne (tgt := 89) hx hb dX11_tryTerm_79 (by decide) (fun q79 => ?_) (fun q79 => ?_)
          · replace h := (if_neg q79).symm.trans h
            refine w_pc 89 rfl ?_
            refine lv_aload_n hx hb dX11_tryTerm_89 rfl (lv_at hl 1 rfl) ?_
            refine lv_iload_n hx hb dX11_tryTerm_90 rfl (lv_at hl 0 rfl) ?_
            refine lv_aload_n hx hb dX11_tryTerm_91 rfl (lv_at hl 1 rfl) ?_
            refine gw_get (C := RX11) (T := TX11) (N := 55) (v := .ref (ad 11)) hx hb hts hinX11 hown hK hP (by omega) lyNMM rfl 11 (by decide) w41 (fun _ h9 => h9) rfl dX11_tryTerm_92 ?_
            refine lv_iload_n hx hb dX11_tryTerm_95 rfl (lv_at hl 2 rfl) ?_
            obtain ⟨g96, h⟩ := gd_in h
            refine gw_iald hx hb hK hP 0 (by omega) lyNabits rfl g96 dX11_tryTerm_96 ?_
            refine w_pc 97 rfl ?_
            obtain ⟨v97, c97, h⟩ := bn1_some h
            refine cl_i (rn_v (As := [.int v6, .int (M 11 a1.toNatClampNeg)]) (rest := []) ⟨hx, hb, hml, hown, hts⟩ (kX11_tryExchangers l D ad cA A c97) ⟨callB_of 2 hts (gdc wm974) rfl rfl rfl (hts _ wm61) (hts _ wm971) hdX11_tryExchangers ⟨Nat.le_of_ble_eq_true rfl, Nat.le_of_ble_eq_true rfl⟩, hts _ wm973, hts _ wm32⟩ hK hP hD hN (by omega) lyNMM rfl rfl hl.1 rfl (lv_room (Nat.le_of_ble_eq_true rfl)) dX11_tryTerm_97) hS (fun H locs hP hS => ?_)
            refine w_pc 100 rfl ?_
            exact re_i hx hb hr hlk h hP hS dX11_tryTerm_100
          · replace h := (if_pos q79).symm.trans h
            refine w_pc 82 rfl ?_
            refine lv_aload_n hx hb dX11_tryTerm_82 rfl (lv_at hl 1 rfl) ?_
            refine w_pc 83 rfl ?_
            obtain ⟨v83, M83, c83, h⟩ := bn2_some h
            refine cl_i (rn_v (As := []) (rest := []) ⟨hx, hb, hml, hown, hts⟩ (kX11_empty l D ad cA A c83) ⟨callB_of 0 hts (gdc wm970) rfl rfl rfl (hts _ wm61) (hts _ wm967) hdX11_empty ⟨Nat.le_of_ble_eq_true rfl, Nat.le_of_ble_eq_true rfl⟩, hts _ wm969, hts _ wm31⟩ hK hP hD hN (by omega) lyNMM rfl rfl hl.1 rfl (lv_room (Nat.le_of_ble_eq_true rfl)) dX11_tryTerm_83) hS (fun H locs hP hS => ?_)
            refine w_pc 86 rfl ?_
            refine lv_goto (tgt := 100) hx hb dX11_tryTerm_86 (by decide) ?_
            exact re_i hx hb hr hlk h hP hS dX11_tryTerm_100
      · replace h := (if_neg q54).symm.trans h
        refine w_pc 57 rfl ?_
        refine lv_iconst (v := 5) hx hb dX11_tryTerm_57 (by decide) ?_
        exact re_i hx hb hr hlk h hP hS dX11_tryTerm_58
    · replace h := (if_pos q25).symm.trans h
      refine w_pc 28 rfl ?_
      refine lv_aload_n hx hb dX11_tryTerm_28 rfl (lv_at hl 1 rfl) ?_
      refine lv_iload_n hx hb dX11_tryTerm_29 rfl (lv_at hl 0 rfl) ?_
      refine lv_aload_n hx hb dX11_tryTerm_30 rfl (lv_at hl 1 rfl) ?_
      refine gw_get (C := RX11) (T := TX11) (N := 55) (v := .ref (ad 11)) hx hb hts hinX11 hown hK hP (by omega) lyNMM rfl 11 (by decide) w41 (fun _ h9 => h9) rfl dX11_tryTerm_31 ?_
      refine lv_iload_n hx hb dX11_tryTerm_34 rfl (lv_at hl 2 rfl) ?_
      obtain ⟨g35, h⟩ := gd_in h
      refine gw_iald hx hb hK hP 0 (by omega) lyNabits rfl g35 dX11_tryTerm_35 ?_
      refine w_pc 36 rfl ?_
      obtain ⟨v36, c36, h⟩ := bn1_some h
      refine cl_i (rn_v (As := [.int v6, .int (M 11 a1.toNatClampNeg)]) (rest := []) ⟨hx, hb, hml, hown, hts⟩ (kX11_agrees l D ad cA A c36) ⟨callB_of 2 hts (gdc wm966) rfl rfl rfl (hts _ wm61) (hts _ wm963) hdX11_agrees ⟨Nat.le_of_ble_eq_true rfl, Nat.le_of_ble_eq_true rfl⟩, hts _ wm965, hts _ wm30⟩ hK hP hD hN (by omega) lyNMM rfl rfl hl.1 rfl (lv_room (Nat.le_of_ble_eq_true rfl)) dX11_tryTerm_36) hS (fun H locs hP hS => ?_)
      refine w_pc 39 rfl ?_
      refine w_pc 39 rfl ?_
      refine lv_if_eq (tgt := 46) hx hb dX11_tryTerm_39 (by decide) (fun q39 => ?_) (fun q39 => ?_)
      · replace h := (if_pos q39).symm.trans h
        refine w_pc 46 rfl ?_
        refine lv_iconst (v := 0) hx hb dX11_tryTerm_46 (by decide) ?_
        exact re_i hx hb hr hlk h hP hS dX11_tryTerm_47
      · replace h := (if_neg q39).symm.trans h
        refine w_pc 42 rfl ?_
        refine lv_iconst (v := 1) hx hb dX11_tryTerm_42 (by decide) ?_
        refine lv_goto (tgt := 47) hx hb dX11_tryTerm_43 (by decide) ?_
        exact re_i hx hb hr hlk h hP hS dX11_tryTerm_47
  · replace h := (if_pos q13).symm.trans h
    refine w_pc 16 rfl ?_
    refine lv_iconst (v := 1) hx hb dX11_tryTerm_16 (by decide) ?_
    exact re_i hx hb hr hlk h hP hS dX11_tryTerm_17
def rmX11_stepOn : Room := { frames := 4, cells := 0, slots := 0, locals := 92 }
def fX11_stepOn_127 (x4 : Int32) (M : Mm) : Option (Int32 × Mm) :=
  grd (gin x4 20) (if (M 3 x4.toNatClampNeg) = 0 then (some ((6 : Int32), M)) else (some ((5 : Int32), M)))
def fX11_stepOn_89 (x3 : Int32) (M : Mm) : Option (Int32 × Mm) :=
  grd (gin x3 120) (if (M 9 x3.toNatClampNeg) = (4 : Int32) then (grd (gin x3 120) (nm (M 10 x3.toNatClampNeg) (fun v105 => grd (gin v105 20) (if (M 3 v105.toNatClampNeg) = 0 then (grd (gin v105 20) (if (M 6 v105.toNatClampNeg) = 0 then (fX11_stepOn_127 v105 M) else (bn1 (fX11_wait v105 M) (fun M147 => some ((-1 : Int32), M147))))) else (fX11_stepOn_127 v105 M))))) else (bn2 (fX11_tryTerm x3 M) (fun v154 M154 => if v154 ≤ (1 : Int32) then (if v154 = (1 : Int32) then (grd (gin x3 120) (bn2 (fX11_back ((M154 8 x3.toNatClampNeg) + (1 : Int32)) M154) (fun v183 M183 => some (v183, M183)))) else (grd (gin ((M154 0 46) - (1 : Int32)) 12) (grd (gin ((M154 0 46) - (1 : Int32)) 12) (nm (up2 M154 34 ((M154 0 46) - (1 : Int32)).toNatClampNeg ((M154 34 ((M154 0 46) - (1 : Int32)).toNatClampNeg) + (1 : Int32))) (fun M201 => some ((-1 : Int32), M201)))))) else (some (v154, M154)))))
def fX11_stepOn (M : Mm) : Option (Int32 × Mm) :=
  grd (gin ((M 0 46) - (1 : Int32)) 12) (nm (M 33 ((M 0 46) - (1 : Int32)).toNatClampNeg) (fun v11 => grd (gin ((M 0 46) - (1 : Int32)) 12) (nm (M 34 ((M 0 46) - (1 : Int32)).toNatClampNeg) (fun v23 => grd (gin v11 20) (if v23 = (M 7 v11.toNatClampNeg) then (grd (gin v11 20) (if 0 ≤ (M 12 v11.toNatClampNeg) then (grd (gin v11 20) (bn2 (fX11_sendOn (M 12 v11.toNatClampNeg) M) (fun v58 M58 => some (v58, M58)))) else (bn2 (fX11_back (4 : Int32) M) (fun v45 M45 => some (v45, M45))))) else (nm (((6 : Int32) * v11) + v23) (fun v68 => grd (gin v68 120) (if (M 9 v68.toNatClampNeg) ≤ (1 : Int32) then (fX11_stepOn_89 v68 M) else (bn2 (fX11_lookup M) (fun v80 M80 => if v80 ≤ 0 then (fX11_stepOn_89 v68 M80) else (some ((6 : Int32), M80))))))))))))
set_option maxRecDepth 100000 in
set_option maxHeartbeats 4000000 in
theorem kX11_stepOn (l : Launch) (D : va_G) (ad : Nat → Nat) (cA : Nat → ClassId) (A : Nat → Prop) {M M1 : Mm} {r : Int32} (h : fX11_stepOn M = some (r, M1)) : Met l yX11_stepOn wsX11_stepOn rmX11_stepOn (gPc D (tyM cA) 40 (layN ad cA) ad A M [.ref (ad 0)]) (gQi D 40 (layN ad cA) ad A M1 r) 0 0 A := by
  refine Met.ofW (cc := cX11_stepOn) (maxL := 5) (ret := (some .int)) (by decide) rfl ?_
  intro p e s m args below meth c s₁ B hml hv
  obtain ⟨ha, hP, hK, hD, hN⟩ := hv
  have hx := B.exec
  have hb := B.bytes
  have hr := B.returns
  have hlk := B.notSynchronized
  have hts : ∀ w ∈ lw_g, w.before args s = true := fun w h => atoms_spec (ws := wsX11_stepOn) B.pre w (List.mem_cons_of_mem _ h)
  have hown : s.vm.findClass RX11 = some m.cls := findClass_of_methodNamed B.named
  have hS : va_S A s.heap s.heap [] := va_S.rf
  unfold fX11_stepOn at h
  have w107 := hts _ wm774
  have w165 := hts _ wm773
  have w110 := hts _ wm775
  have w29 := hts _ wm734
  have w44 := hts _ wm739
  have w35 := hts _ wm736
  have w38 := hts _ wm737
  have w17 := hts _ wm730
  have w26 := hts _ wm733
  have w32 := hts _ wm735
  have bk127 : ∀ (x4 : Int32) (M : Mm) (ls : Array Slot) (H : Heap) (locs : List Loc), lv_has ls 5 [(0, .ref (ad 0)), (4, .int x4)] → fX11_stepOn_127 x4 M = some (r, M1) → va_P D vwCl (gw 40 (layN ad cA) ad M) H → va_S A s.heap H locs → W p l e (headSpec wsX11_stepOn rmX11_stepOn).room s m args below meth c H locs 0 0 (MQ below (gQi D 40 (layN ad cA) ad A M1 r) args s 0 0 A) (F0 m 127 ls []) := by
    intro x4 M ls H locs hl h hP hS
    unfold fX11_stepOn_127 at h
    refine w_pc 127 rfl ?_
    refine lv_aload_n hx hb dX11_stepOn_127 rfl (lv_at hl 0 rfl) ?_
    refine gw_get (C := RX11) (T := TX11) (N := 55) (v := .ref (ad 3)) hx hb hts hinX11 hown hK hP (by omega) lyNMM rfl 3 (by decide) w17 (fun _ h9 => h9) rfl dX11_stepOn_128 ?_
    refine lv_iload hx hb dX11_stepOn_131 (lv_at hl 1 rfl) ?_
    obtain ⟨g133, h⟩ := gd_in h
    refine gw_zald hx hb hK hP 1 (by omega) lyNasilents rfl g133 dX11_stepOn_133 ?_
    refine w_pc 134 rfl ?_
    refine lv_if_eq (tgt := 141) hx hb dX11_stepOn_134 (by decide) (fun q134 => ?_) (fun q134 => ?_)
    · replace h := (if_pos q134).symm.trans h
      refine w_pc 141 rfl ?_
      refine lv_bipush (v := 6) hx hb dX11_stepOn_141 (by decide) ?_
      exact re_i hx hb hr hlk h hP hS dX11_stepOn_143
    · replace h := (if_neg q134).symm.trans h
      refine w_pc 137 rfl ?_
      refine lv_iconst (v := 5) hx hb dX11_stepOn_137 (by decide) ?_
      refine lv_goto (tgt := 143) hx hb dX11_stepOn_138 (by decide) ?_
      exact re_i hx hb hr hlk h hP hS dX11_stepOn_143
  have bk89 : ∀ (x3 : Int32) (M : Mm) (ls : Array Slot) (H : Heap) (locs : List Loc), lv_has ls 5 [(0, .ref (ad 0)), (3, .int x3)] → fX11_stepOn_89 x3 M = some (r, M1) → va_P D vwCl (gw 40 (layN ad cA) ad M) H → va_S A s.heap H locs → W p l e (headSpec wsX11_stepOn rmX11_stepOn).room s m args below meth c H locs 0 0 (MQ below (gQi D 40 (layN ad cA) ad A M1 r) args s 0 0 A) (F0 m 89 ls []) := by
    intro x3 M ls H locs hl h hP hS
    unfold fX11_stepOn_89 at h
    refine w_pc 89 rfl ?_
    refine lv_aload_n hx hb dX11_stepOn_89 rfl (lv_at hl 0 rfl) ?_
    refine gw_get (C := RX11) (T := TX11) (N := 55) (v := .ref (ad 9)) hx hb hts hinX11 hown hK hP (by omega) lyNMM rfl 9 (by decide) w35 (fun _ h9 => h9) rfl dX11_stepOn_90 ?_
    refine lv_iload_n hx hb dX11_stepOn_93 rfl (lv_at hl 1 rfl) ?_
    obtain ⟨g94, h⟩ := gd_in h
    refine gw_iald hx hb hK hP 0 (by omega) lyNakinds rfl g94 dX11_stepOn_94 ?_
    refine lv_iconst (v := 4) hx hb dX11_stepOn_95 (by decide) ?_
    refine w_pc 96 rfl ?_
    refine lv_icmp_ne (tgt := 152) hx hb dX11_stepOn_96 (by decide) (fun q96 => ?_) (fun q96 => ?_)
    · replace h := (if_neg q96).symm.trans h
      refine w_pc 152 rfl ?_
      refine lv_aload_n hx hb dX11_stepOn_152 rfl (lv_at hl 0 rfl) ?_
      refine lv_iload_n hx hb dX11_stepOn_153 rfl (lv_at hl 1 rfl) ?_
      refine w_pc 154 rfl ?_
      obtain ⟨v154, M154, c154, h⟩ := bn2_some h
      refine cl_i (rn_v (As := [.int x3]) (rest := []) ⟨hx, hb, hml, hown, hts⟩ (kX11_tryTerm l D ad cA A c154) ⟨callB_of 1 hts (gdc wm962) rfl rfl rfl (hts _ wm61) (hts _ wm959) hdX11_tryTerm ⟨Nat.le_of_ble_eq_true rfl, Nat.le_of_ble_eq_true rfl⟩, hts _ wm961, hts _ wm29⟩ hK hP hD hN (by omega) lyNMM rfl rfl hl.1 rfl (lv_room (Nat.le_of_ble_eq_true rfl)) dX11_stepOn_154) hS (fun H locs hP hS => ?_)
      refine w_pc 157 rfl ?_
      refine lv_istore (lv' := [(4, .int v154), (0, .ref (ad 0)), (3, .int x3)]) hx hb dX11_stepOn_157 hl (by decide) rfl (fun ls hl => ?_)
      refine lv_iload hx hb dX11_stepOn_159 (lv_at hl 0 rfl) ?_
      refine lv_iconst (v := 1) hx hb dX11_stepOn_161 (by decide) ?_
      refine w_pc 162 rfl ?_
      refine lv_icmp_le (tgt := 168) hx hb dX11_stepOn_162 (by decide) (fun q162 => ?_) (fun q162 => ?_)
      · replace h := (if_pos q162).symm.trans h
        refine w_pc 168 rfl ?_
        refine lv_iload hx hb dX11_stepOn_168 (lv_at hl 0 rfl) ?_
        refine lv_iconst (v := 1) hx hb dX11_stepOn_170 (by decide) ?_
        refine w_pc 171 rfl ?_
        refine lv_icmp_ne (tgt := 187) hx hb dX11_stepOn_171 (by decide) (fun q171 => ?_) (fun q171 => ?_)
        · replace h := (if_neg q171).symm.trans h
          refine w_pc 187 rfl ?_
          refine lv_aload_n hx hb dX11_stepOn_187 rfl (lv_at hl 1 rfl) ?_
          refine gw_get (C := RX11) (T := TX11) (N := 55) (v := .ref (ad 34)) hx hb hts hinX11 hown hK hP (by omega) lyNMM rfl 48 (by decide) w110 (fun _ h9 => h9) rfl dX11_stepOn_188 ?_
          refine lv_aload_n hx hb dX11_stepOn_191 rfl (lv_at hl 1 rfl) ?_
          refine gw_get (C := RX11) (T := TX11) (N := 55) (v := .int (M154 0 46)) hx hb hts hinX11 hown hK hP (by omega) lyNMM rfl 46 (by decide) w165 (fun _ h9 => h9) rfl dX11_stepOn_192 ?_
          refine lv_iconst (v := 1) hx hb dX11_stepOn_195 (by decide) ?_
          refine lv_isub hx hb dX11_stepOn_196 ?_
          refine lv_dup2_11 hx hb dX11_stepOn_197 rfl rfl ?_
          refine w_pc 198 rfl ?_
          obtain ⟨g198, h⟩ := gd_in h
          refine gw_iald hx hb hK hP 0 (by omega) lyNaplace rfl g198 dX11_stepOn_198 ?_
          refine lv_iconst (v := 1) hx hb dX11_stepOn_199 (by decide) ?_
          refine lv_iadd hx hb dX11_stepOn_200 ?_
          obtain ⟨g201, h⟩ := gd_in h
          obtain ⟨M201, eM201, h⟩ := nm_some h
          refine gw_iast hx hb hK hP hD hS 0 (by omega) lyNaplace rfl g201 eM201 dX11_stepOn_201 (fun H locs hP hS => ?_)
          refine lv_iconst (v := -1) hx hb dX11_stepOn_202 (by decide) ?_
          exact re_i hx hb hr hlk h hP hS dX11_stepOn_203
        · replace h := (if_pos q171).symm.trans h
          refine w_pc 174 rfl ?_
          refine lv_aload_n hx hb dX11_stepOn_174 rfl (lv_at hl 1 rfl) ?_
          refine lv_aload_n hx hb dX11_stepOn_175 rfl (lv_at hl 1 rfl) ?_
          refine gw_get (C := RX11) (T := TX11) (N := 55) (v := .ref (ad 8)) hx hb hts hinX11 hown hK hP (by omega) lyNMM rfl 8 (by decide) w32 (fun _ h9 => h9) rfl dX11_stepOn_176 ?_
          refine lv_iload_n hx hb dX11_stepOn_179 rfl (lv_at hl 2 rfl) ?_
          obtain ⟨g180, h⟩ := gd_in h
          refine gw_iald hx hb hK hP 0 (by omega) lyNasigns rfl g180 dX11_stepOn_180 ?_
          refine lv_iconst (v := 1) hx hb dX11_stepOn_181 (by decide) ?_
          refine lv_iadd hx hb dX11_stepOn_182 ?_
          refine w_pc 183 rfl ?_
          refine w_pc 183 rfl ?_
          obtain ⟨v183, M183, c183, h⟩ := bn2_some h
          refine cl_i (rn_v (As := [.int ((M154 8 x3.toNatClampNeg) + (1 : Int32))]) (rest := []) ⟨hx, hb, hml, hown, hts⟩ (kX11_back l D ad cA A c183) ⟨callB_of 1 hts (gdc wm950) rfl rfl rfl (hts _ wm61) (hts _ wm947) hdX11_back ⟨Nat.le_of_ble_eq_true rfl, Nat.le_of_ble_eq_true rfl⟩, hts _ wm949, hts _ wm26⟩ hK hP hD hN (by omega) lyNMM rfl rfl hl.1 rfl (lv_room (Nat.le_of_ble_eq_true rfl)) dX11_stepOn_183) hS (fun H locs hP hS => ?_)
          refine w_pc 186 rfl ?_
          exact re_i hx hb hr hlk h hP hS dX11_stepOn_186
      · replace h := (if_neg q162).symm.trans h
        refine w_pc 165 rfl ?_
        refine lv_iload hx hb dX11_stepOn_165 (lv_at hl 0 rfl) ?_
        exact re_i hx hb hr hlk h hP hS dX11_stepOn_167
    · replace h := (if_pos q96).symm.trans h
      refine w_pc 99 rfl ?_
      refine lv_aload_n hx hb dX11_stepOn_99 rfl (lv_at hl 0 rfl) ?_
      refine gw_get (C := RX11) (T := TX11) (N := 55) (v := .ref (ad 10)) hx hb hts hinX11 hown hK hP (by omega) lyNMM rfl 10 (by decide) w38 (fun _ h9 => h9) rfl dX11_stepOn_100 ?_
      refine lv_iload_n hx hb dX11_stepOn_103 rfl (lv_at hl 1 rfl) ?_
      obtain ⟨g104, h⟩ := gd_in h
      refine gw_iald hx hb hK hP 0 (by omega) lyNavalues rfl g104 dX11_stepOn_104 ?_
      obtain ⟨v105, e105, h⟩ := nm_some h
      refine w_ti e105 ?_
      refine lv_istore (lv' := [(4, .int v105), (0, .ref (ad 0)), (3, .int x3)]) hx hb dX11_stepOn_105 hl (by decide) rfl (fun ls hl => ?_)
      refine lv_aload_n hx hb dX11_stepOn_107 rfl (lv_at hl 1 rfl) ?_
      refine gw_get (C := RX11) (T := TX11) (N := 55) (v := .ref (ad 3)) hx hb hts hinX11 hown hK hP (by omega) lyNMM rfl 3 (by decide) w17 (fun _ h9 => h9) rfl dX11_stepOn_108 ?_
      refine w_pc 111 rfl ?_
      refine lv_iload hx hb dX11_stepOn_111 (lv_at hl 0 rfl) ?_
      obtain ⟨g113, h⟩ := gd_in h
      refine gw_zald hx hb hK hP 1 (by omega) lyNasilents rfl g113 dX11_stepOn_113 ?_
      refine w_pc 114 rfl ?_
      refine lv_if_ne (tgt := 127) hx hb dX11_stepOn_114 (by decide) (fun q114 => ?_) (fun q114 => ?_)
      · replace h := (if_neg q114).symm.trans h
        refine w_pc 127 rfl ?_
        exact bk127 v105 M ls _ _ (lv_sub hl [1, 0] rfl) h hP hS
      · replace h := (if_pos q114).symm.trans h
        refine w_pc 117 rfl ?_
        refine lv_aload_n hx hb dX11_stepOn_117 rfl (lv_at hl 1 rfl) ?_
        refine gw_get (C := RX11) (T := TX11) (N := 55) (v := .ref (ad 6)) hx hb hts hinX11 hown hK hP (by omega) lyNMM rfl 6 (by decide) w26 (fun _ h9 => h9) rfl dX11_stepOn_118 ?_
        refine lv_iload hx hb dX11_stepOn_121 (lv_at hl 0 rfl) ?_
        obtain ⟨g123, h⟩ := gd_in h
        refine gw_zald hx hb hK hP 1 (by omega) lyNaruled rfl g123 dX11_stepOn_123 ?_
        refine w_pc 124 rfl ?_
        refine lv_if_ne (tgt := 144) hx hb dX11_stepOn_124 (by decide) (fun q124 => ?_) (fun q124 => ?_)
        · replace h := (if_neg q124).symm.trans h
          refine w_pc 144 rfl ?_
          refine lv_aload_n hx hb dX11_stepOn_144 rfl (lv_at hl 1 rfl) ?_
          refine lv_iload hx hb dX11_stepOn_145 (lv_at hl 0 rfl) ?_
          refine w_pc 147 rfl ?_
          obtain ⟨M147, c147, h⟩ := bn1_some h
          refine cl_v (rn_v (As := [.int v105]) (rest := []) ⟨hx, hb, hml, hown, hts⟩ (kX11_wait l D ad cA A c147) ⟨callB_of 1 hts (gdc wm942) rfl rfl rfl (hts _ wm61) (hts _ wm939) hdX11_wait ⟨Nat.le_of_ble_eq_true rfl, Nat.le_of_ble_eq_true rfl⟩, hts _ wm941, hts _ wm24⟩ hK hP hD hN (by omega) lyNMM rfl rfl hl.1 rfl (lv_room (Nat.le_of_ble_eq_true rfl)) dX11_stepOn_147) hS (fun H locs hP hS => ?_)
          refine w_pc 150 rfl ?_
          refine lv_iconst (v := -1) hx hb dX11_stepOn_150 (by decide) ?_
          exact re_i hx hb hr hlk h hP hS dX11_stepOn_151
        · replace h := (if_pos q124).symm.trans h
          refine w_pc 127 rfl ?_
          exact bk127 v105 M ls _ _ (lv_sub hl [1, 0] rfl) h hP hS
  refine w_entry ha (Nat.le_of_ble_eq_true rfl) (fun ls hl => ?_)
  have hl : lv_has ls 5 [(0, .ref (ad 0))] := hl
  refine w_pc 0 rfl ?_
  refine lv_aload_n hx hb dX11_stepOn_0 rfl (lv_at hl 0 rfl) ?_
  refine gw_get (C := RX11) (T := TX11) (N := 55) (v := .ref (ad 33)) hx hb hts hinX11 hown hK hP (by omega) lyNMM rfl 47 (by decide) w107 (fun _ h9 => h9) rfl dX11_stepOn_1 ?_
  refine lv_aload_n hx hb dX11_stepOn_4 rfl (lv_at hl 0 rfl) ?_
  refine gw_get (C := RX11) (T := TX11) (N := 55) (v := .int (M 0 46)) hx hb hts hinX11 hown hK hP (by omega) lyNMM rfl 46 (by decide) w165 (fun _ h9 => h9) rfl dX11_stepOn_5 ?_
  refine lv_iconst (v := 1) hx hb dX11_stepOn_8 (by decide) ?_
  refine lv_isub hx hb dX11_stepOn_9 ?_
  obtain ⟨g10, h⟩ := gd_in h
  refine gw_iald hx hb hK hP 0 (by omega) lyNawho rfl g10 dX11_stepOn_10 ?_
  refine w_pc 11 rfl ?_
  obtain ⟨v11, e11, h⟩ := nm_some h
  refine w_ti e11 ?_
  refine lv_istore_n (lv' := [(1, .int v11), (0, .ref (ad 0))]) hx hb dX11_stepOn_11 rfl hl (by decide) rfl (fun ls hl => ?_)
  refine lv_aload_n hx hb dX11_stepOn_12 rfl (lv_at hl 1 rfl) ?_
  refine gw_get (C := RX11) (T := TX11) (N := 55) (v := .ref (ad 34)) hx hb hts hinX11 hown hK hP (by omega) lyNMM rfl 48 (by decide) w110 (fun _ h9 => h9) rfl dX11_stepOn_13 ?_
  refine lv_aload_n hx hb dX11_stepOn_16 rfl (lv_at hl 1 rfl) ?_
  refine gw_get (C := RX11) (T := TX11) (N := 55) (v := .int (M 0 46)) hx hb hts hinX11 hown hK hP (by omega) lyNMM rfl 46 (by decide) w165 (fun _ h9 => h9) rfl dX11_stepOn_17 ?_
  refine lv_iconst (v := 1) hx hb dX11_stepOn_20 (by decide) ?_
  refine lv_isub hx hb dX11_stepOn_21 ?_
  obtain ⟨g22, h⟩ := gd_in h
  refine gw_iald hx hb hK hP 0 (by omega) lyNaplace rfl g22 dX11_stepOn_22 ?_
  refine w_pc 23 rfl ?_
  obtain ⟨v23, e23, h⟩ := nm_some h
  refine w_ti e23 ?_
  refine lv_istore_n (lv' := [(2, .int v23), (1, .int v11), (0, .ref (ad 0))]) hx hb dX11_stepOn_23 rfl hl (by decide) rfl (fun ls hl => ?_)
  refine lv_iload_n hx hb dX11_stepOn_24 rfl (lv_at hl 0 rfl) ?_
  refine lv_aload_n hx hb dX11_stepOn_25 rfl (lv_at hl 2 rfl) ?_
  refine gw_get (C := RX11) (T := TX11) (N := 55) (v := .ref (ad 7)) hx hb hts hinX11 hown hK hP (by omega) lyNMM rfl 7 (by decide) w29 (fun _ h9 => h9) rfl dX11_stepOn_26 ?_
  refine lv_iload_n hx hb dX11_stepOn_29 rfl (lv_at hl 1 rfl) ?_
  obtain ⟨g30, h⟩ := gd_in h
  refine gw_iald hx hb hK hP 0 (by omega) lyNaterms rfl g30 dX11_stepOn_30 ?_
  refine w_pc 31 rfl ?_
  refine lv_icmp_ne (tgt := 62) hx hb dX11_stepOn_31 (by decide) (fun q31 => ?_) (fun q31 => ?_)
  · replace h := (if_neg q31).symm.trans h
    refine w_pc 62 rfl ?_
    refine lv_bipush (v := 6) hx hb dX11_stepOn_62 (by decide) ?_
    refine lv_iload_n hx hb dX11_stepOn_64 rfl (lv_at hl 1 rfl) ?_
    refine lv_imul hx hb dX11_stepOn_65 ?_
    refine lv_iload_n hx hb dX11_stepOn_66 rfl (lv_at hl 0 rfl) ?_
    refine lv_iadd hx hb dX11_stepOn_67 ?_
    obtain ⟨v68, e68, h⟩ := nm_some h
    refine w_ti e68 ?_
    refine lv_istore_n (lv' := [(3, .int v68), (2, .int v23), (1, .int v11), (0, .ref (ad 0))]) hx hb dX11_stepOn_68 rfl hl (by decide) rfl (fun ls hl => ?_)
    refine lv_aload_n hx hb dX11_stepOn_69 rfl (lv_at hl 3 rfl) ?_
    refine w_pc 70 rfl ?_
    refine gw_get (C := RX11) (T := TX11) (N := 55) (v := .ref (ad 9)) hx hb hts hinX11 hown hK hP (by omega) lyNMM rfl 9 (by decide) w35 (fun _ h9 => h9) rfl dX11_stepOn_70 ?_
    refine lv_iload_n hx hb dX11_stepOn_73 rfl (lv_at hl 0 rfl) ?_
    obtain ⟨g74, h⟩ := gd_in h
    refine gw_iald hx hb hK hP 0 (by omega) lyNakinds rfl g74 dX11_stepOn_74 ?_
    refine lv_iconst (v := 1) hx hb dX11_stepOn_75 (by decide) ?_
    refine w_pc 76 rfl ?_
    refine lv_icmp_le (tgt := 89) hx hb dX11_stepOn_76 (by decide) (fun q76 => ?_) (fun q76 => ?_)
    · replace h := (if_pos q76).symm.trans h
      refine w_pc 89 rfl ?_
      exact bk89 v68 M ls _ _ (lv_sub hl [3, 0] rfl) h hP hS
    · replace h := (if_neg q76).symm.trans h
      refine w_pc 79 rfl ?_
      refine lv_aload_n hx hb dX11_stepOn_79 rfl (lv_at hl 3 rfl) ?_
      refine w_pc 80 rfl ?_
      obtain ⟨v80, M80, c80, h⟩ := bn2_some h
      refine cl_i (rn_v (As := []) (rest := []) ⟨hx, hb, hml, hown, hts⟩ (kX11_lookup l D ad cA A c80) ⟨callB_of 0 hts (gdc wm958) rfl rfl rfl (hts _ wm61) (hts _ wm955) hdX11_lookup ⟨Nat.le_of_ble_eq_true rfl, Nat.le_of_ble_eq_true rfl⟩, hts _ wm957, hts _ wm28⟩ hK hP hD hN (by omega) lyNMM rfl rfl hl.1 rfl (lv_room (Nat.le_of_ble_eq_true rfl)) dX11_stepOn_80) hS (fun H locs hP hS => ?_)
      refine w_pc 83 rfl ?_
      refine w_pc 83 rfl ?_
      refine lv_if_le (tgt := 89) hx hb dX11_stepOn_83 (by decide) (fun q83 => ?_) (fun q83 => ?_)
      · replace h := (if_pos q83).symm.trans h
        refine w_pc 89 rfl ?_
        exact bk89 v68 M80 ls _ _ (lv_sub hl [3, 0] rfl) h hP hS
      · replace h := (if_neg q83).symm.trans h
        refine w_pc 86 rfl ?_
        refine lv_bipush (v := 6) hx hb dX11_stepOn_86 (by decide) ?_
        exact re_i hx hb hr hlk h hP hS dX11_stepOn_88
  · replace h := (if_pos q31).symm.trans h
    refine w_pc 34 rfl ?_
    refine lv_aload_n hx hb dX11_stepOn_34 rfl (lv_at hl 2 rfl) ?_
    refine gw_get (C := RX11) (T := TX11) (N := 55) (v := .ref (ad 12)) hx hb hts hinX11 hown hK hP (by omega) lyNMM rfl 12 (by decide) w44 (fun _ h9 => h9) rfl dX11_stepOn_35 ?_
    refine lv_iload_n hx hb dX11_stepOn_38 rfl (lv_at hl 1 rfl) ?_
    obtain ⟨g39, h⟩ := gd_in h
    refine gw_iald hx hb hK hP 0 (by omega) lyNaredirects rfl g39 dX11_stepOn_39 ?_
    refine w_pc 40 rfl ?_
    refine lv_if_ge (tgt := 51) hx hb dX11_stepOn_40 (by decide) (fun q40 => ?_) (fun q40 => ?_)
    · replace h := (if_pos q40).symm.trans h
      refine w_pc 51 rfl ?_
      refine lv_aload_n hx hb dX11_stepOn_51 rfl (lv_at hl 2 rfl) ?_
      refine lv_aload_n hx hb dX11_stepOn_52 rfl (lv_at hl 2 rfl) ?_
      refine gw_get (C := RX11) (T := TX11) (N := 55) (v := .ref (ad 12)) hx hb hts hinX11 hown hK hP (by omega) lyNMM rfl 12 (by decide) w44 (fun _ h9 => h9) rfl dX11_stepOn_53 ?_
      refine lv_iload_n hx hb dX11_stepOn_56 rfl (lv_at hl 1 rfl) ?_
      obtain ⟨g57, h⟩ := gd_in h
      refine gw_iald hx hb hK hP 0 (by omega) lyNaredirects rfl g57 dX11_stepOn_57 ?_
      refine w_pc 58 rfl ?_
      obtain ⟨v58, M58, c58, h⟩ := bn2_some h
      refine cl_i (rn_v (As := [.int (M 12 v11.toNatClampNeg)]) (rest := []) ⟨hx, hb, hml, hown, hts⟩ (kX11_sendOn l D ad cA A c58) ⟨callB_of 1 hts (gdc wm954) rfl rfl rfl (hts _ wm61) (hts _ wm951) hdX11_sendOn ⟨Nat.le_of_ble_eq_true rfl, Nat.le_of_ble_eq_true rfl⟩, hts _ wm953, hts _ wm27⟩ hK hP hD hN (by omega) lyNMM rfl rfl hl.1 rfl (lv_room (Nat.le_of_ble_eq_true rfl)) dX11_stepOn_58) hS (fun H locs hP hS => ?_)
      refine w_pc 61 rfl ?_
      exact re_i hx hb hr hlk h hP hS dX11_stepOn_61
    · replace h := (if_neg q40).symm.trans h
      refine w_pc 43 rfl ?_
      refine lv_aload_n hx hb dX11_stepOn_43 rfl (lv_at hl 2 rfl) ?_
      refine lv_iconst (v := 4) hx hb dX11_stepOn_44 (by decide) ?_
      refine w_pc 45 rfl ?_
      obtain ⟨v45, M45, c45, h⟩ := bn2_some h
      refine cl_i (rn_v (As := [.int (4 : Int32)]) (rest := []) ⟨hx, hb, hml, hown, hts⟩ (kX11_back l D ad cA A c45) ⟨callB_of 1 hts (gdc wm950) rfl rfl rfl (hts _ wm61) (hts _ wm947) hdX11_back ⟨Nat.le_of_ble_eq_true rfl, Nat.le_of_ble_eq_true rfl⟩, hts _ wm949, hts _ wm26⟩ hK hP hD hN (by omega) lyNMM rfl rfl hl.1 rfl (lv_room (Nat.le_of_ble_eq_true rfl)) dX11_stepOn_45) hS (fun H locs hP hS => ?_)
      refine w_pc 48 rfl ?_
      refine lv_goto (tgt := 61) hx hb dX11_stepOn_48 (by decide) ?_
      exact re_i hx hb hr hlk h hP hS dX11_stepOn_61
def rmX11_checkSender : Room := { frames := 5, cells := 0, slots := 0, locals := 116 }
def fX11_checkSender_69 : Nat → Int32 → Int32 → Mm → Option (Int32 × Mm)
  | 0, _, _, _ => none
  | n + 1, x1, x2, M => if (200 : Int32) ≤ x2 then (some (x1, M)) else (if 0 ≤ x1 then (some (x1, M)) else (bn2 (fX11_stepOn M) (fun v81 M81 => (fX11_checkSender_69 n) v81 (x2 + 1) M81)))
def fX11_checkSender_34 (M : Mm) : Option (Int32 × Mm) :=
  grd (gin (M 0 20) 20) (if (M 3 (M 0 20).toNatClampNeg) = 0 then (some ((0 : Int32), M)) else (some ((5 : Int32), M)))
def fX11_checkSender (M : Mm) : Option (Int32 × Mm) :=
  nm (up2 M 0 44 (0 : Int32)) (fun M2 => nm (up2 M2 0 45 (0 : Int32)) (fun M7 => grd (gin (M7 0 20) 20) (if (M7 3 (M7 0 20).toNatClampNeg) = 0 then (grd (gin (M7 0 20) 20) (if (M7 6 (M7 0 20).toNatClampNeg) = 0 then (fX11_checkSender_34 M7) else (nm (up2 M7 0 46 (0 : Int32)) (fun M54 => bn1 (fX11_wait (M54 0 20) M54) (fun M62 => fX11_checkSender_69 FU (-1 : Int32) (0 : Int32) M62))))) else (fX11_checkSender_34 M7))))
set_option maxRecDepth 100000 in
set_option maxHeartbeats 4000000 in
theorem kX11_checkSender (l : Launch) (D : va_G) (ad : Nat → Nat) (cA : Nat → ClassId) (A : Nat → Prop) {M M1 : Mm} {r : Int32} (h : fX11_checkSender M = some (r, M1)) : Met l yX11_checkSender wsX11_checkSender rmX11_checkSender (gPc D (tyM cA) 40 (layN ad cA) ad A M [.ref (ad 0)]) (gQi D 40 (layN ad cA) ad A M1 r) 0 0 A := by
  refine Met.ofW (cc := cX11_checkSender) (maxL := 3) (ret := (some .int)) (by decide) rfl ?_
  intro p e s m args below meth c s₁ B hml hv
  obtain ⟨ha, hP, hK, hD, hN⟩ := hv
  have hx := B.exec
  have hb := B.bytes
  have hr := B.returns
  have hlk := B.notSynchronized
  have hts : ∀ w ∈ lw_g, w.before args s = true := fun w h => atoms_spec (ws := wsX11_checkSender) B.pre w (List.mem_cons_of_mem _ h)
  have hown : s.vm.findClass RX11 = some m.cls := findClass_of_methodNamed B.named
  have hS : va_S A s.heap s.heap [] := va_S.rf
  unfold fX11_checkSender at h
  have w151 := hts _ wm771
  have w148 := hts _ wm772
  have w17 := hts _ wm730
  have w184 := hts _ wm747
  have w26 := hts _ wm733
  have w165 := hts _ wm773
  have lp69 : ∀ (n : Nat) (x1 : Int32) (x2 : Int32) (M : Mm) (ls : Array Slot) (H : Heap) (locs : List Loc), lv_has ls 3 [(0, .ref (ad 0)), (1, .int x1), (2, .int x2)] → fX11_checkSender_69 n x1 x2 M = some (r, M1) → va_P D vwCl (gw 40 (layN ad cA) ad M) H → va_S A s.heap H locs → W p l e (headSpec wsX11_checkSender rmX11_checkSender).room s m args below meth c H locs 0 0 (MQ below (gQi D 40 (layN ad cA) ad A M1 r) args s 0 0 A) (F0 m 69 ls []) := by
    intro n
    induction n with
    | zero =>
      intro x1 x2 M ls H locs hl h hP hS
      rw [fX11_checkSender_69] at h
      cases h
    | succ n ih69 =>
      intro x1 x2 M ls H locs hl h hP hS
      rw [fX11_checkSender_69] at h
      refine w_pc 69 rfl ?_
      refine lv_iload_n hx hb dX11_checkSender_69 rfl (lv_at hl 2 rfl) ?_
      refine lv_sipush (v := 200) hx hb dX11_checkSender_70 (by decide) ?_
      refine w_pc 73 rfl ?_
      refine lv_icmp_ge (tgt := 91) hx hb dX11_checkSender_73 (by decide) (fun q73 => ?_) (fun q73 => ?_)
      · replace h := (if_pos q73).symm.trans h
        refine w_pc 91 rfl ?_
        refine lv_iload_n hx hb dX11_checkSender_91 rfl (lv_at hl 1 rfl) ?_
        exact re_i hx hb hr hlk h hP hS dX11_checkSender_92
      · replace h := (if_neg q73).symm.trans h
        refine w_pc 76 rfl ?_
        refine lv_iload_n hx hb dX11_checkSender_76 rfl (lv_at hl 1 rfl) ?_
        refine w_pc 77 rfl ?_
        refine lv_if_ge (tgt := 91) hx hb dX11_checkSender_77 (by decide) (fun q77 => ?_) (fun q77 => ?_)
        · replace h := (if_pos q77).symm.trans h
          refine w_pc 91 rfl ?_
          refine lv_iload_n hx hb dX11_checkSender_91 rfl (lv_at hl 1 rfl) ?_
          exact re_i hx hb hr hlk h hP hS dX11_checkSender_92
        · replace h := (if_neg q77).symm.trans h
          refine w_pc 80 rfl ?_
          refine lv_aload_n hx hb dX11_checkSender_80 rfl (lv_at hl 0 rfl) ?_
          refine w_pc 81 rfl ?_
          obtain ⟨v81, M81, c81, h⟩ := bn2_some h
          refine cl_i (rn_v (As := []) (rest := []) ⟨hx, hb, hml, hown, hts⟩ (kX11_stepOn l D ad cA A c81) ⟨callB_of 0 hts (gdc wm946) rfl rfl rfl (hts _ wm61) (hts _ wm943) hdX11_stepOn ⟨Nat.le_of_ble_eq_true rfl, Nat.le_of_ble_eq_true rfl⟩, hts _ wm945, hts _ wm25⟩ hK hP hD hN (by omega) lyNMM rfl rfl hl.1 rfl (lv_room (Nat.le_of_ble_eq_true rfl)) dX11_checkSender_81) hS (fun H locs hP hS => ?_)
          refine w_pc 84 rfl ?_
          refine lv_istore_n (lv' := [(1, .int v81), (0, .ref (ad 0)), (2, .int x2)]) hx hb dX11_checkSender_84 rfl hl (by decide) rfl (fun ls hl => ?_)
          refine lv_iinc (k := 2) (v := x2 + 1) (lv' := [(2, .int (x2 + 1)), (1, .int v81), (0, .ref (ad 0))]) hx hb dX11_checkSender_85 hl rfl rfl (by decide) rfl (fun ls hl => ?_)
          refine lv_goto (tgt := 69) hx hb dX11_checkSender_88 (by decide) ?_
          exact ih69 v81 (x2 + 1) M81 ls _ _ (lv_sub hl [2, 1, 0] rfl) h hP hS
  have bk34 : ∀ (M : Mm) (ls : Array Slot) (H : Heap) (locs : List Loc), lv_has ls 3 [(0, .ref (ad 0))] → fX11_checkSender_34 M = some (r, M1) → va_P D vwCl (gw 40 (layN ad cA) ad M) H → va_S A s.heap H locs → W p l e (headSpec wsX11_checkSender rmX11_checkSender).room s m args below meth c H locs 0 0 (MQ below (gQi D 40 (layN ad cA) ad A M1 r) args s 0 0 A) (F0 m 34 ls []) := by
    intro M ls H locs hl h hP hS
    unfold fX11_checkSender_34 at h
    refine w_pc 34 rfl ?_
    refine lv_aload_n hx hb dX11_checkSender_34 rfl (lv_at hl 0 rfl) ?_
    refine gw_get (C := RX11) (T := TX11) (N := 55) (v := .ref (ad 3)) hx hb hts hinX11 hown hK hP (by omega) lyNMM rfl 3 (by decide) w17 (fun _ h9 => h9) rfl dX11_checkSender_35 ?_
    refine lv_aload_n hx hb dX11_checkSender_38 rfl (lv_at hl 0 rfl) ?_
    refine gw_get (C := RX11) (T := TX11) (N := 55) (v := .int (M 0 20)) hx hb hts hinX11 hown hK hP (by omega) lyNMM rfl 20 (by decide) w184 (fun _ h9 => h9) rfl dX11_checkSender_39 ?_
    obtain ⟨g42, h⟩ := gd_in h
    refine gw_zald hx hb hK hP 1 (by omega) lyNasilents rfl g42 dX11_checkSender_42 ?_
    refine w_pc 43 rfl ?_
    refine lv_if_eq (tgt := 50) hx hb dX11_checkSender_43 (by decide) (fun q43 => ?_) (fun q43 => ?_)
    · replace h := (if_pos q43).symm.trans h
      refine w_pc 50 rfl ?_
      refine lv_iconst (v := 0) hx hb dX11_checkSender_50 (by decide) ?_
      exact re_i hx hb hr hlk h hP hS dX11_checkSender_51
    · replace h := (if_neg q43).symm.trans h
      refine w_pc 46 rfl ?_
      refine lv_iconst (v := 5) hx hb dX11_checkSender_46 (by decide) ?_
      refine lv_goto (tgt := 51) hx hb dX11_checkSender_47 (by decide) ?_
      exact re_i hx hb hr hlk h hP hS dX11_checkSender_51
  refine w_entry ha (Nat.le_of_ble_eq_true rfl) (fun ls hl => ?_)
  have hl : lv_has ls 3 [(0, .ref (ad 0))] := hl
  refine w_pc 0 rfl ?_
  refine lv_aload_n hx hb dX11_checkSender_0 rfl (lv_at hl 0 rfl) ?_
  refine lv_iconst (v := 0) hx hb dX11_checkSender_1 (by decide) ?_
  obtain ⟨M2, eM2, h⟩ := nm_some h
  refine gw_put (C := RX11) (T := TX11) (N := 55) (ty := .int) hx hb hts hinX11 tyX11 tyX11_ok nmX11 hown hK hP hD hS (by omega) lyNMM rfl 44 (by decide) w151 (fun _ h9 => h9) rfl (by decide +kernel) rfl rfl (Nat.le_of_ble_eq_true rfl) rfl eM2 dX11_checkSender_2 (fun H locs hP hS => ?_)
  refine lv_aload_n hx hb dX11_checkSender_5 rfl (lv_at hl 0 rfl) ?_
  refine lv_iconst (v := 0) hx hb dX11_checkSender_6 (by decide) ?_
  obtain ⟨M7, eM7, h⟩ := nm_some h
  refine gw_put (C := RX11) (T := TX11) (N := 55) (ty := .int) hx hb hts hinX11 tyX11 tyX11_ok nmX11 hown hK hP hD hS (by omega) lyNMM rfl 45 (by decide) w148 (fun _ h9 => h9) rfl (by decide +kernel) rfl rfl (Nat.le_of_ble_eq_true rfl) rfl eM7 dX11_checkSender_7 (fun H locs hP hS => ?_)
  refine lv_aload_n hx hb dX11_checkSender_10 rfl (lv_at hl 0 rfl) ?_
  refine w_pc 11 rfl ?_
  refine gw_get (C := RX11) (T := TX11) (N := 55) (v := .ref (ad 3)) hx hb hts hinX11 hown hK hP (by omega) lyNMM rfl 3 (by decide) w17 (fun _ h9 => h9) rfl dX11_checkSender_11 ?_
  refine lv_aload_n hx hb dX11_checkSender_14 rfl (lv_at hl 0 rfl) ?_
  refine gw_get (C := RX11) (T := TX11) (N := 55) (v := .int (M7 0 20)) hx hb hts hinX11 hown hK hP (by omega) lyNMM rfl 20 (by decide) w184 (fun _ h9 => h9) rfl dX11_checkSender_15 ?_
  obtain ⟨g18, h⟩ := gd_in h
  refine gw_zald hx hb hK hP 1 (by omega) lyNasilents rfl g18 dX11_checkSender_18 ?_
  refine w_pc 19 rfl ?_
  refine lv_if_ne (tgt := 34) hx hb dX11_checkSender_19 (by decide) (fun q19 => ?_) (fun q19 => ?_)
  · replace h := (if_neg q19).symm.trans h
    refine w_pc 34 rfl ?_
    exact bk34 M7 ls _ _ (lv_sub hl [0] rfl) h hP hS
  · replace h := (if_pos q19).symm.trans h
    refine w_pc 22 rfl ?_
    refine lv_aload_n hx hb dX11_checkSender_22 rfl (lv_at hl 0 rfl) ?_
    refine gw_get (C := RX11) (T := TX11) (N := 55) (v := .ref (ad 6)) hx hb hts hinX11 hown hK hP (by omega) lyNMM rfl 6 (by decide) w26 (fun _ h9 => h9) rfl dX11_checkSender_23 ?_
    refine lv_aload_n hx hb dX11_checkSender_26 rfl (lv_at hl 0 rfl) ?_
    refine gw_get (C := RX11) (T := TX11) (N := 55) (v := .int (M7 0 20)) hx hb hts hinX11 hown hK hP (by omega) lyNMM rfl 20 (by decide) w184 (fun _ h9 => h9) rfl dX11_checkSender_27 ?_
    obtain ⟨g30, h⟩ := gd_in h
    refine gw_zald hx hb hK hP 1 (by omega) lyNaruled rfl g30 dX11_checkSender_30 ?_
    refine w_pc 31 rfl ?_
    refine lv_if_ne (tgt := 52) hx hb dX11_checkSender_31 (by decide) (fun q31 => ?_) (fun q31 => ?_)
    · replace h := (if_neg q31).symm.trans h
      refine w_pc 52 rfl ?_
      refine lv_aload_n hx hb dX11_checkSender_52 rfl (lv_at hl 0 rfl) ?_
      refine lv_iconst (v := 0) hx hb dX11_checkSender_53 (by decide) ?_
      obtain ⟨M54, eM54, h⟩ := nm_some h
      refine gw_put (C := RX11) (T := TX11) (N := 55) (ty := .int) hx hb hts hinX11 tyX11 tyX11_ok nmX11 hown hK hP hD hS (by omega) lyNMM rfl 46 (by decide) w165 (fun _ h9 => h9) rfl (by decide +kernel) rfl rfl (Nat.le_of_ble_eq_true rfl) rfl eM54 dX11_checkSender_54 (fun H locs hP hS => ?_)
      refine lv_aload_n hx hb dX11_checkSender_57 rfl (lv_at hl 0 rfl) ?_
      refine lv_aload_n hx hb dX11_checkSender_58 rfl (lv_at hl 0 rfl) ?_
      refine gw_get (C := RX11) (T := TX11) (N := 55) (v := .int (M54 0 20)) hx hb hts hinX11 hown hK hP (by omega) lyNMM rfl 20 (by decide) w184 (fun _ h9 => h9) rfl dX11_checkSender_59 ?_
      refine w_pc 62 rfl ?_
      obtain ⟨M62, c62, h⟩ := bn1_some h
      refine cl_v (rn_v (As := [.int (M54 0 20)]) (rest := []) ⟨hx, hb, hml, hown, hts⟩ (kX11_wait l D ad cA A c62) ⟨callB_of 1 hts (gdc wm942) rfl rfl rfl (hts _ wm61) (hts _ wm939) hdX11_wait ⟨Nat.le_of_ble_eq_true rfl, Nat.le_of_ble_eq_true rfl⟩, hts _ wm941, hts _ wm24⟩ hK hP hD hN (by omega) lyNMM rfl rfl hl.1 rfl (lv_room (Nat.le_of_ble_eq_true rfl)) dX11_checkSender_62) hS (fun H locs hP hS => ?_)
      refine w_pc 65 rfl ?_
      refine lv_iconst (v := -1) hx hb dX11_checkSender_65 (by decide) ?_
      refine lv_istore_n (lv' := [(1, .int (-1 : Int32)), (0, .ref (ad 0))]) hx hb dX11_checkSender_66 rfl hl (by decide) rfl (fun ls hl => ?_)
      refine lv_iconst (v := 0) hx hb dX11_checkSender_67 (by decide) ?_
      refine lv_istore_n (lv' := [(2, .int (0 : Int32)), (1, .int (-1 : Int32)), (0, .ref (ad 0))]) hx hb dX11_checkSender_68 rfl hl (by decide) rfl (fun ls hl => ?_)
      exact lp69 FU (-1 : Int32) (0 : Int32) M62 ls _ _ (lv_sub hl [2, 1, 0] rfl) h hP hS
    · replace h := (if_pos q31).symm.trans h
      refine w_pc 34 rfl ?_
      exact bk34 M7 ls _ _ (lv_sub hl [0] rfl) h hP hS
def rmX11_sender : Room := { frames := 6, cells := 0, slots := 0, locals := 138 }
def fX11_sender (M : Mm) : Option (Int32 × Mm) :=
  if (M 0 19) = 0 then (some ((-1 : Int32), M)) else (bn2 (fX11_checkSender M) (fun v8 M8 => some (v8, M8)))
set_option maxRecDepth 100000 in
set_option maxHeartbeats 4000000 in
theorem kX11_sender (l : Launch) (D : va_G) (ad : Nat → Nat) (cA : Nat → ClassId) (A : Nat → Prop) {M M1 : Mm} {r : Int32} (h : fX11_sender M = some (r, M1)) : Met l yX11_sender wsX11_sender rmX11_sender (gPc D (tyM cA) 40 (layN ad cA) ad A M [.ref (ad 0)]) (gQi D 40 (layN ad cA) ad A M1 r) 0 0 A := by
  refine Met.ofW (cc := cX11_sender) (maxL := 1) (ret := (some .int)) (by decide) rfl ?_
  intro p e s m args below meth c s₁ B hml hv
  obtain ⟨ha, hP, hK, hD, hN⟩ := hv
  have hx := B.exec
  have hb := B.bytes
  have hr := B.returns
  have hlk := B.notSynchronized
  have hts : ∀ w ∈ lw_g, w.before args s = true := fun w h => atoms_spec (ws := wsX11_sender) B.pre w (List.mem_cons_of_mem _ h)
  have hown : s.vm.findClass RX11 = some m.cls := findClass_of_methodNamed B.named
  have hS : va_S A s.heap s.heap [] := va_S.rf
  unfold fX11_sender at h
  have w190 := hts _ wm746
  refine w_entry ha (Nat.le_of_ble_eq_true rfl) (fun ls hl => ?_)
  have hl : lv_has ls 1 [(0, .ref (ad 0))] := hl
  refine w_pc 0 rfl ?_
  refine lv_aload_n hx hb dX11_sender_0 rfl (lv_at hl 0 rfl) ?_
  refine gw_get (C := RX11) (T := TX11) (N := 55) (v := .int (M 0 19)) hx hb hts hinX11 hown hK hP (by omega) lyNMM rfl 19 (by decide) w190 (fun _ h9 => h9) rfl dX11_sender_1 ?_
  refine w_pc 4 rfl ?_
  refine lv_if_eq (tgt := 14) hx hb dX11_sender_4 (by decide) (fun q4 => ?_) (fun q4 => ?_)
  · replace h := (if_pos q4).symm.trans h
    refine w_pc 14 rfl ?_
    refine lv_iconst (v := -1) hx hb dX11_sender_14 (by decide) ?_
    exact re_i hx hb hr hlk h hP hS dX11_sender_15
  · replace h := (if_neg q4).symm.trans h
    refine w_pc 7 rfl ?_
    refine lv_aload_n hx hb dX11_sender_7 rfl (lv_at hl 0 rfl) ?_
    refine w_pc 8 rfl ?_
    obtain ⟨v8, M8, c8, h⟩ := bn2_some h
    refine cl_i (rn_v (As := []) (rest := []) ⟨hx, hb, hml, hown, hts⟩ (kX11_checkSender l D ad cA A c8) ⟨callB_of 0 hts (gdc wm938) rfl rfl rfl (hts _ wm61) (hts _ wm935) hdX11_checkSender ⟨Nat.le_of_ble_eq_true rfl, Nat.le_of_ble_eq_true rfl⟩, hts _ wm937, hts _ wm23⟩ hK hP hD hN (by omega) lyNMM rfl rfl hl.1 rfl (lv_room (Nat.le_of_ble_eq_true rfl)) dX11_sender_8) hS (fun H locs hP hS => ?_)
    refine w_pc 11 rfl ?_
    refine lv_goto (tgt := 15) hx hb dX11_sender_11 (by decide) ?_
    exact re_i hx hb hr hlk h hP hS dX11_sender_15
def rmX11_counted : Room := { frames := 0, cells := 0, slots := 0, locals := 0 }
def fX11_counted (a1 : Int32) (M : Mm) : Option Int32 :=
  if a1 = 0 then (some (M 0 44)) else (if a1 = (1 : Int32) then (some (M 0 45)) else (some (0 : Int32)))
set_option maxRecDepth 100000 in
set_option maxHeartbeats 4000000 in
theorem kX11_counted (l : Launch) (D : va_G) (ad : Nat → Nat) (cA : Nat → ClassId) (A : Nat → Prop) {a1 : Int32} {M : Mm} {r : Int32} (h : fX11_counted a1 M = some r) : Met l yX11_counted wsX11_counted rmX11_counted (gPc D (tyM cA) 40 (layN ad cA) ad A M [.ref (ad 0), .int a1]) (gQi D 40 (layN ad cA) ad A M r) 0 0 A := by
  refine Met.ofW (cc := cX11_counted) (maxL := 2) (ret := (some .int)) (by decide) rfl ?_
  intro p e s m args below meth c s₁ B hml hv
  obtain ⟨ha, hP, hK, hD, hN⟩ := hv
  have hx := B.exec
  have hb := B.bytes
  have hr := B.returns
  have hlk := B.notSynchronized
  have hts : ∀ w ∈ lw_g, w.before args s = true := fun w h => atoms_spec (ws := wsX11_counted) B.pre w (List.mem_cons_of_mem _ h)
  have hown : s.vm.findClass RX11 = some m.cls := findClass_of_methodNamed B.named
  have hS : va_S A s.heap s.heap [] := va_S.rf
  unfold fX11_counted at h
  have w151 := hts _ wm771
  have w148 := hts _ wm772
  refine w_entry ha (Nat.le_of_ble_eq_true rfl) (fun ls hl => ?_)
  have hl : lv_has ls 2 [(0, .ref (ad 0)), (1, .int a1)] := hl
  refine w_pc 0 rfl ?_
  refine lv_iload_n hx hb dX11_counted_0 rfl (lv_at hl 1 rfl) ?_
  refine w_pc 1 rfl ?_
  refine lv_if_ne (tgt := 11) hx hb dX11_counted_1 (by decide) (fun q1 => ?_) (fun q1 => ?_)
  · replace h := (if_neg q1).symm.trans h
    refine w_pc 11 rfl ?_
    refine lv_iload_n hx hb dX11_counted_11 rfl (lv_at hl 1 rfl) ?_
    refine lv_iconst (v := 1) hx hb dX11_counted_12 (by decide) ?_
    refine w_pc 13 rfl ?_
    refine lv_icmp_ne (tgt := 23) hx hb dX11_counted_13 (by decide) (fun q13 => ?_) (fun q13 => ?_)
    · replace h := (if_neg q13).symm.trans h
      refine w_pc 23 rfl ?_
      refine lv_iconst (v := 0) hx hb dX11_counted_23 (by decide) ?_
      exact re_i hx hb hr hlk (sm_r h) hP hS dX11_counted_24
    · replace h := (if_pos q13).symm.trans h
      refine w_pc 16 rfl ?_
      refine lv_aload_n hx hb dX11_counted_16 rfl (lv_at hl 0 rfl) ?_
      refine gw_get (C := RX11) (T := TX11) (N := 55) (v := .int (M 0 45)) hx hb hts hinX11 hown hK hP (by omega) lyNMM rfl 45 (by decide) w148 (fun _ h9 => h9) rfl dX11_counted_17 ?_
      refine lv_goto (tgt := 24) hx hb dX11_counted_20 (by decide) ?_
      exact re_i hx hb hr hlk (sm_r h) hP hS dX11_counted_24
  · replace h := (if_pos q1).symm.trans h
    refine w_pc 4 rfl ?_
    refine lv_aload_n hx hb dX11_counted_4 rfl (lv_at hl 0 rfl) ?_
    refine gw_get (C := RX11) (T := TX11) (N := 55) (v := .int (M 0 44)) hx hb hts hinX11 hown hK hP (by omega) lyNMM rfl 44 (by decide) w151 (fun _ h9 => h9) rfl dX11_counted_5 ?_
    refine lv_goto (tgt := 24) hx hb dX11_counted_8 (by decide) ?_
    exact re_i hx hb hr hlk (sm_r h) hP hS dX11_counted_24
def rmX11_mail : Room := { frames := 1, cells := 0, slots := 0, locals := 21 }
def fX11_mail (a1 : Int32) (a2 : Int32) (a3 : Int32) (M : Mm) : Option (Int32 × Mm) :=
  bn1 (fX11_isDomain a1 M) (fun v2 => if v2 = 0 then (some ((0 : Int32), M)) else (bn1 (fX11_isDomain a2 M) (fun v10 => if v10 = 0 then (some ((0 : Int32), M)) else (nm (up2 M 0 19 (1 : Int32)) (fun M20 => nm (up2 M20 0 20 a1) (fun M25 => nm (up2 M25 0 21 a2) (fun M30 => nm (up2 M30 0 22 a3) (fun M35 => nm (up2 M35 0 23 (0 : Int32)) (fun M40 => nm (up2 M40 0 27 (0 : Int32)) (fun M45 => nm (up2 M45 0 29 (0 : Int32)) (fun M50 => nm (up2 M50 0 38 (0 : Int32)) (fun M55 => some ((1 : Int32), M55)))))))))))))
set_option maxRecDepth 100000 in
set_option maxHeartbeats 4000000 in
theorem kX11_mail (l : Launch) (D : va_G) (ad : Nat → Nat) (cA : Nat → ClassId) (A : Nat → Prop) {a1 : Int32} {a2 : Int32} {a3 : Int32} {M M1 : Mm} {r : Int32} (h : fX11_mail a1 a2 a3 M = some (r, M1)) : Met l yX11_mail wsX11_mail rmX11_mail (gPc D (tyM cA) 40 (layN ad cA) ad A M [.ref (ad 0), .int a1, .int a2, .int a3]) (gQi D 40 (layN ad cA) ad A M1 r) 0 0 A := by
  refine Met.ofW (cc := cX11_mail) (maxL := 4) (ret := (some .boolean)) (by decide) rfl ?_
  intro p e s m args below meth c s₁ B hml hv
  obtain ⟨ha, hP, hK, hD, hN⟩ := hv
  have hx := B.exec
  have hb := B.bytes
  have hr := B.returns
  have hlk := B.notSynchronized
  have hts : ∀ w ∈ lw_g, w.before args s = true := fun w h => atoms_spec (ws := wsX11_mail) B.pre w (List.mem_cons_of_mem _ h)
  have hown : s.vm.findClass RX11 = some m.cls := findClass_of_methodNamed B.named
  have hS : va_S A s.heap s.heap [] := va_S.rf
  unfold fX11_mail at h
  have w190 := hts _ wm746
  have w184 := hts _ wm747
  have w197 := hts _ wm748
  have w141 := hts _ wm749
  have w200 := hts _ wm750
  have w203 := hts _ wm754
  have w206 := hts _ wm756
  have w209 := hts _ wm765
  refine w_entry ha (Nat.le_of_ble_eq_true rfl) (fun ls hl => ?_)
  have hl : lv_has ls 4 [(0, .ref (ad 0)), (1, .int a1), (2, .int a2), (3, .int a3)] := hl
  refine w_pc 0 rfl ?_
  refine lv_aload_n hx hb dX11_mail_0 rfl (lv_at hl 0 rfl) ?_
  refine lv_iload_n hx hb dX11_mail_1 rfl (lv_at hl 1 rfl) ?_
  refine w_pc 2 rfl ?_
  obtain ⟨v2, c2, h⟩ := bn1_some h
  refine cl_i (rn_v (As := [.int a1]) (rest := []) ⟨hx, hb, hml, hown, hts⟩ (kX11_isDomain l D ad cA A c2) ⟨callB_of 1 hts (gdc wm901) rfl rfl rfl (hts _ wm61) (hts _ wm898) hdX11_isDomain ⟨Nat.le_of_ble_eq_true rfl, Nat.le_of_ble_eq_true rfl⟩, hts _ wm900, hts _ wm21⟩ hK hP hD hN (by omega) lyNMM rfl rfl hl.1 rfl (lv_room (Nat.le_of_ble_eq_true rfl)) dX11_mail_2) hS (fun H locs hP hS => ?_)
  refine w_pc 5 rfl ?_
  refine w_pc 5 rfl ?_
  refine lv_if_eq (tgt := 16) hx hb dX11_mail_5 (by decide) (fun q5 => ?_) (fun q5 => ?_)
  · replace h := (if_pos q5).symm.trans h
    refine w_pc 16 rfl ?_
    refine lv_iconst (v := 0) hx hb dX11_mail_16 (by decide) ?_
    exact re_z hx hb hr hlk (Or.inl rfl) h hP hS dX11_mail_17
  · replace h := (if_neg q5).symm.trans h
    refine w_pc 8 rfl ?_
    refine lv_aload_n hx hb dX11_mail_8 rfl (lv_at hl 0 rfl) ?_
    refine lv_iload_n hx hb dX11_mail_9 rfl (lv_at hl 2 rfl) ?_
    refine w_pc 10 rfl ?_
    obtain ⟨v10, c10, h⟩ := bn1_some h
    refine cl_i (rn_v (As := [.int a2]) (rest := []) ⟨hx, hb, hml, hown, hts⟩ (kX11_isDomain l D ad cA A c10) ⟨callB_of 1 hts (gdc wm901) rfl rfl rfl (hts _ wm61) (hts _ wm898) hdX11_isDomain ⟨Nat.le_of_ble_eq_true rfl, Nat.le_of_ble_eq_true rfl⟩, hts _ wm900, hts _ wm21⟩ hK hP hD hN (by omega) lyNMM rfl rfl hl.1 rfl (lv_room (Nat.le_of_ble_eq_true rfl)) dX11_mail_10) hS (fun H locs hP hS => ?_)
    refine w_pc 13 rfl ?_
    refine w_pc 13 rfl ?_
    refine lv_if_ne (tgt := 18) hx hb dX11_mail_13 (by decide) (fun q13 => ?_) (fun q13 => ?_)
    · replace h := (if_neg q13).symm.trans h
      refine w_pc 18 rfl ?_
      refine lv_aload_n hx hb dX11_mail_18 rfl (lv_at hl 0 rfl) ?_
      refine lv_iconst (v := 1) hx hb dX11_mail_19 (by decide) ?_
      obtain ⟨M20, eM20, h⟩ := nm_some h
      refine gw_put (C := RX11) (T := TX11) (N := 55) (ty := .boolean) hx hb hts hinX11 tyX11 tyX11_ok nmX11 hown hK hP hD hS (by omega) lyNMM rfl 19 (by decide) w190 (fun _ h9 => h9) rfl (by decide +kernel) (nz_n (Or.inr rfl)) (nz_f (Or.inr rfl)) (Nat.le_of_ble_eq_true rfl) rfl eM20 dX11_mail_20 (fun H locs hP hS => ?_)
      refine lv_aload_n hx hb dX11_mail_23 rfl (lv_at hl 0 rfl) ?_
      refine lv_iload_n hx hb dX11_mail_24 rfl (lv_at hl 1 rfl) ?_
      obtain ⟨M25, eM25, h⟩ := nm_some h
      refine gw_put (C := RX11) (T := TX11) (N := 55) (ty := .int) hx hb hts hinX11 tyX11 tyX11_ok nmX11 hown hK hP hD hS (by omega) lyNMM rfl 20 (by decide) w184 (fun _ h9 => h9) rfl (by decide +kernel) rfl rfl (Nat.le_of_ble_eq_true rfl) rfl eM25 dX11_mail_25 (fun H locs hP hS => ?_)
      refine lv_aload_n hx hb dX11_mail_28 rfl (lv_at hl 0 rfl) ?_
      refine w_pc 29 rfl ?_
      refine lv_iload_n hx hb dX11_mail_29 rfl (lv_at hl 2 rfl) ?_
      obtain ⟨M30, eM30, h⟩ := nm_some h
      refine gw_put (C := RX11) (T := TX11) (N := 55) (ty := .int) hx hb hts hinX11 tyX11 tyX11_ok nmX11 hown hK hP hD hS (by omega) lyNMM rfl 21 (by decide) w197 (fun _ h9 => h9) rfl (by decide +kernel) rfl rfl (Nat.le_of_ble_eq_true rfl) rfl eM30 dX11_mail_30 (fun H locs hP hS => ?_)
      refine lv_aload_n hx hb dX11_mail_33 rfl (lv_at hl 0 rfl) ?_
      refine lv_iload_n hx hb dX11_mail_34 rfl (lv_at hl 3 rfl) ?_
      obtain ⟨M35, eM35, h⟩ := nm_some h
      refine gw_put (C := RX11) (T := TX11) (N := 55) (ty := .int) hx hb hts hinX11 tyX11 tyX11_ok nmX11 hown hK hP hD hS (by omega) lyNMM rfl 22 (by decide) w141 (fun _ h9 => h9) rfl (by decide +kernel) rfl rfl (Nat.le_of_ble_eq_true rfl) rfl eM35 dX11_mail_35 (fun H locs hP hS => ?_)
      refine lv_aload_n hx hb dX11_mail_38 rfl (lv_at hl 0 rfl) ?_
      refine lv_iconst (v := 0) hx hb dX11_mail_39 (by decide) ?_
      obtain ⟨M40, eM40, h⟩ := nm_some h
      refine gw_put (C := RX11) (T := TX11) (N := 55) (ty := .int) hx hb hts hinX11 tyX11 tyX11_ok nmX11 hown hK hP hD hS (by omega) lyNMM rfl 23 (by decide) w200 (fun _ h9 => h9) rfl (by decide +kernel) rfl rfl (Nat.le_of_ble_eq_true rfl) rfl eM40 dX11_mail_40 (fun H locs hP hS => ?_)
      refine w_pc 43 rfl ?_
      refine lv_aload_n hx hb dX11_mail_43 rfl (lv_at hl 0 rfl) ?_
      refine lv_iconst (v := 0) hx hb dX11_mail_44 (by decide) ?_
      obtain ⟨M45, eM45, h⟩ := nm_some h
      refine gw_put (C := RX11) (T := TX11) (N := 55) (ty := .int) hx hb hts hinX11 tyX11 tyX11_ok nmX11 hown hK hP hD hS (by omega) lyNMM rfl 27 (by decide) w203 (fun _ h9 => h9) rfl (by decide +kernel) rfl rfl (Nat.le_of_ble_eq_true rfl) rfl eM45 dX11_mail_45 (fun H locs hP hS => ?_)
      refine lv_aload_n hx hb dX11_mail_48 rfl (lv_at hl 0 rfl) ?_
      refine lv_iconst (v := 0) hx hb dX11_mail_49 (by decide) ?_
      obtain ⟨M50, eM50, h⟩ := nm_some h
      refine gw_put (C := RX11) (T := TX11) (N := 55) (ty := .int) hx hb hts hinX11 tyX11 tyX11_ok nmX11 hown hK hP hD hS (by omega) lyNMM rfl 29 (by decide) w206 (fun _ h9 => h9) rfl (by decide +kernel) rfl rfl (Nat.le_of_ble_eq_true rfl) rfl eM50 dX11_mail_50 (fun H locs hP hS => ?_)
      refine lv_aload_n hx hb dX11_mail_53 rfl (lv_at hl 0 rfl) ?_
      refine lv_iconst (v := 0) hx hb dX11_mail_54 (by decide) ?_
      refine w_pc 55 rfl ?_
      obtain ⟨M55, eM55, h⟩ := nm_some h
      refine gw_put (C := RX11) (T := TX11) (N := 55) (ty := .int) hx hb hts hinX11 tyX11 tyX11_ok nmX11 hown hK hP hD hS (by omega) lyNMM rfl 38 (by decide) w209 (fun _ h9 => h9) rfl (by decide +kernel) rfl rfl (Nat.le_of_ble_eq_true rfl) rfl eM55 dX11_mail_55 (fun H locs hP hS => ?_)
      refine lv_iconst (v := 1) hx hb dX11_mail_58 (by decide) ?_
      exact re_z hx hb hr hlk (Or.inr rfl) h hP hS dX11_mail_59
    · replace h := (if_pos q13).symm.trans h
      refine w_pc 16 rfl ?_
      refine lv_iconst (v := 0) hx hb dX11_mail_16 (by decide) ?_
      exact re_z hx hb hr hlk (Or.inl rfl) h hP hS dX11_mail_17
