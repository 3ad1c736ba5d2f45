def rmX11_spoil : Room := { frames := 0, cells := 0, slots := 0, locals := 0 }
def fX11_spoil (a1 : Int32) (a2 : Int32) (M : Mm) : Option (Int32 × Mm) :=
  if (M 0 19) = 0 then (some ((0 : Int32), M)) else (if a1 < 0 then (some ((0 : Int32), M)) else (if a1 < (M 0 29) then (grd (gin a1 7) (grd (gin a1 7) (nm (up2 M 29 a1.toNatClampNeg ((M 29 a1.toNatClampNeg) + a2)) (fun M34 => some ((1 : Int32), M34))))) else (some ((0 : Int32), M))))
set_option maxRecDepth 100000 in
set_option maxHeartbeats 4000000 in
theorem kX11_spoil (l : Launch) (D : va_G) (ad : Nat → Nat) (cA : Nat → ClassId) (A : Nat → Prop) {a1 : Int32} {a2 : Int32} {M M1 : Mm} {r : Int32} (h : fX11_spoil a1 a2 M = some (r, M1)) : Met l yX11_spoil wsX11_spoil rmX11_spoil (gPc D (tyM cA) 40 (layN ad cA) ad A M [.ref (ad 0), .int a1, .int a2]) (gQi D 40 (layN ad cA) ad A M1 r) 0 0 A := by
  refine Met.ofW (cc := cX11_spoil) (maxL := 3) (ret := (some .boolean)) (by decide) rfl ?_
  intro p e s m args below meth c s₁ B hml hv
  obtain ⟨ha, hP, hK, hD, hN⟩ := hv
  have hx := B.exec
  have hb := B.bytes
  have hr := B.returns
  have hlk := B.notSynchronized
  have hts : ∀ w ∈ lw_g, w.before args s = true := fun w h => atoms_spec (ws := wsX11_spoil) B.pre w (List.mem_cons_of_mem _ h)
  have hown : s.vm.findClass RX11 = some m.cls := findClass_of_methodNamed B.named
  have hS : va_S A s.heap s.heap [] := va_S.rf
  unfold fX11_spoil at h
  have w190 := hts _ wm746
  have w206 := hts _ wm756
  have w95 := hts _ wm764
  refine w_entry ha (Nat.le_of_ble_eq_true rfl) (fun ls hl => ?_)
  have hl : lv_has ls 3 [(0, .ref (ad 0)), (1, .int a1), (2, .int a2)] := hl
  refine w_pc 0 rfl ?_
  refine lv_aload_n hx hb dX11_spoil_0 rfl (lv_at hl 0 rfl) ?_
  refine gw_get (C := RX11) (T := TX11) (N := 55) (v := .int (M 0 19)) hx hb hts hinX11 hown hK hP (by omega) lyNMM rfl 19 (by decide) w190 (fun _ h9 => h9) rfl dX11_spoil_1 ?_
  refine w_pc 4 rfl ?_
  refine lv_if_eq (tgt := 19) hx hb dX11_spoil_4 (by decide) (fun q4 => ?_) (fun q4 => ?_)
  · replace h := (if_pos q4).symm.trans h
    refine w_pc 19 rfl ?_
    refine lv_iconst (v := 0) hx hb dX11_spoil_19 (by decide) ?_
    exact re_z hx hb hr hlk (Or.inl rfl) h hP hS dX11_spoil_20
  · replace h := (if_neg q4).symm.trans h
    refine w_pc 7 rfl ?_
    refine lv_iload_n hx hb dX11_spoil_7 rfl (lv_at hl 1 rfl) ?_
    refine w_pc 8 rfl ?_
    refine lv_if_lt (tgt := 19) hx hb dX11_spoil_8 (by decide) (fun q8 => ?_) (fun q8 => ?_)
    · replace h := (if_pos q8).symm.trans h
      refine w_pc 19 rfl ?_
      refine lv_iconst (v := 0) hx hb dX11_spoil_19 (by decide) ?_
      exact re_z hx hb hr hlk (Or.inl rfl) h hP hS dX11_spoil_20
    · replace h := (if_neg q8).symm.trans h
      refine w_pc 11 rfl ?_
      refine lv_iload_n hx hb dX11_spoil_11 rfl (lv_at hl 1 rfl) ?_
      refine lv_aload_n hx hb dX11_spoil_12 rfl (lv_at hl 0 rfl) ?_
      refine gw_get (C := RX11) (T := TX11) (N := 55) (v := .int (M 0 29)) hx hb hts hinX11 hown hK hP (by omega) lyNMM rfl 29 (by decide) w206 (fun _ h9 => h9) rfl dX11_spoil_13 ?_
      refine w_pc 16 rfl ?_
      refine lv_icmp_lt (tgt := 21) hx hb dX11_spoil_16 (by decide) (fun q16 => ?_) (fun q16 => ?_)
      · replace h := (if_pos q16).symm.trans h
        refine w_pc 21 rfl ?_
        refine lv_aload_n hx hb dX11_spoil_21 rfl (lv_at hl 0 rfl) ?_
        refine gw_get (C := RX11) (T := TX11) (N := 55) (v := .ref (ad 29)) hx hb hts hinX11 hown hK hP (by omega) lyNMM rfl 37 (by decide) w95 (fun _ h9 => h9) rfl dX11_spoil_22 ?_
        refine lv_iload_n hx hb dX11_spoil_25 rfl (lv_at hl 1 rfl) ?_
        refine lv_aload_n hx hb dX11_spoil_26 rfl (lv_at hl 0 rfl) ?_
        refine gw_get (C := RX11) (T := TX11) (N := 55) (v := .ref (ad 29)) hx hb hts hinX11 hown hK hP (by omega) lyNMM rfl 37 (by decide) w95 (fun _ h9 => h9) rfl dX11_spoil_27 ?_
        refine lv_iload_n hx hb dX11_spoil_30 rfl (lv_at hl 1 rfl) ?_
        obtain ⟨g31, h⟩ := gd_in h
        refine gw_iald hx hb hK hP 0 (by omega) lyNaseals rfl g31 dX11_spoil_31 ?_
        refine w_pc 32 rfl ?_
        refine lv_iload_n hx hb dX11_spoil_32 rfl (lv_at hl 2 rfl) ?_
        refine lv_iadd hx hb dX11_spoil_33 ?_
        obtain ⟨g34, h⟩ := gd_in h
        obtain ⟨M34, eM34, h⟩ := nm_some h
        refine gw_iast hx hb hK hP hD hS 0 (by omega) lyNaseals rfl g34 eM34 dX11_spoil_34 (fun H locs hP hS => ?_)
        refine lv_iconst (v := 1) hx hb dX11_spoil_35 (by decide) ?_
        exact re_z hx hb hr hlk (Or.inr rfl) h hP hS dX11_spoil_36
      · replace h := (if_neg q16).symm.trans h
        refine w_pc 19 rfl ?_
        refine lv_iconst (v := 0) hx hb dX11_spoil_19 (by decide) ?_
        exact re_z hx hb hr hlk (Or.inl rfl) h hP hS dX11_spoil_20
def rmX11_checkSignature : Room := { frames := 3, cells := 0, slots := 0, locals := 69 }
def fX11_checkSignature_43 (a1 : Int32) (s0 : Int32) (M : Mm) : Option (Int32 × Mm) :=
  grd (gin a1 7) (grd (gin a1 7) (grd (gin (((2 : Int32) * (M 22 a1.toNatClampNeg)) + (M 23 a1.toNatClampNeg)) 40) (if (M 13 (((2 : Int32) * (M 22 a1.toNatClampNeg)) + (M 23 a1.toNatClampNeg)).toNatClampNeg) = 0 then (some ((6 : Int32), M)) else (if s0 = 0 then (grd (gin a1 7) (grd (gin a1 7) (bn2 (fX11_bodyLength (M 24 a1.toNatClampNeg) M) (fun v84 M84 => if (M 26 a1.toNatClampNeg) ≤ v84 then (grd (gin a1 7) (grd (gin a1 7) (grd (gin a1 7) (bn2 (fX11_bodyDigest (M84 24 a1.toNatClampNeg) (M84 26 a1.toNatClampNeg) M84) (fun v112 M112 => if (M84 28 a1.toNatClampNeg) = v112 then (grd (gin a1 7) (bn2 (fX11_sealOf a1 M112) (fun v128 M128 => if (M112 29 a1.toNatClampNeg) = v128 then (some ((1 : Int32), M128)) else (some ((2 : Int32), M128))))) else (some ((2 : Int32), M112))))))) else (some ((6 : Int32), M84)))))) else (some ((6 : Int32), M))))))
def fX11_checkSignature_42 (a1 : Int32) (M : Mm) : Option (Int32 × Mm) :=
  fX11_checkSignature_43 a1 (0 : Int32) M
def fX11_checkSignature (a1 : Int32) (M : Mm) : Option (Int32 × Mm) :=
  grd (gin a1 7) (grd (gin (M 22 a1.toNatClampNeg) 20) (if (M 3 (M 22 a1.toNatClampNeg).toNatClampNeg) = 0 then (grd (gin a1 7) (if (M 27 a1.toNatClampNeg) < 0 then (fX11_checkSignature_42 a1 M) else (grd (gin a1 7) (if (M 0 18) < (M 27 a1.toNatClampNeg) then (fX11_checkSignature_42 a1 M) else (fX11_checkSignature_43 a1 (1 : Int32) M))))) else (some ((5 : Int32), M))))
set_option maxRecDepth 100000 in
set_option maxHeartbeats 4000000 in
theorem kX11_checkSignature (l : Launch) (D : va_G) (ad : Nat → Nat) (cA : Nat → ClassId) (A : Nat → Prop) {a1 : Int32} {M M1 : Mm} {r : Int32} (h : fX11_checkSignature a1 M = some (r, M1)) : Met l yX11_checkSignature wsX11_checkSignature rmX11_checkSignature (gPc D (tyM cA) 40 (layN ad cA) ad A M [.ref (ad 0), .int a1]) (gQi D 40 (layN ad cA) ad A M1 r) 0 0 A := by
  refine Met.ofW (cc := cX11_checkSignature) (maxL := 3) (ret := (some .int)) (by decide) rfl ?_
  intro p e s m args below meth c s₁ B hml hv
  obtain ⟨ha, hP, hK, hD, hN⟩ := hv
  have hx := B.exec
  have hb := B.bytes
  have hr := B.returns
  have hlk := B.notSynchronized
  have hts : ∀ w ∈ lw_g, w.before args s = true := fun w h => atoms_spec (ws := wsX11_checkSignature) B.pre w (List.mem_cons_of_mem _ h)
  have hown : s.vm.findClass RX11 = some m.cls := findClass_of_methodNamed B.named
  have hS : va_S A s.heap s.heap [] := va_S.rf
  unfold fX11_checkSignature at h
  have w17 := hts _ wm730
  have w74 := hts _ wm757
  have w89 := hts _ wm762
  have w256 := hts _ wm745
  have w47 := hts _ wm740
  have w77 := hts _ wm758
  have w86 := hts _ wm761
  have w80 := hts _ wm759
  have w92 := hts _ wm763
  have w95 := hts _ wm764
  have bk43 : ∀ (s0 : Int32) (M : Mm) (ls : Array Slot) (H : Heap) (locs : List Loc), lv_has ls 3 [(0, .ref (ad 0)), (1, .int a1)] → fX11_checkSignature_43 a1 s0 M = some (r, M1) → va_P D vwCl (gw 40 (layN ad cA) ad M) H → va_S A s.heap H locs → W p l e (headSpec wsX11_checkSignature rmX11_checkSignature).room s m args below meth c H locs 0 0 (MQ below (gQi D 40 (layN ad cA) ad A M1 r) args s 0 0 A) (F0 m 43 ls [.int s0]) := by
    intro s0 M ls H locs hl h hP hS
    unfold fX11_checkSignature_43 at h
    refine w_pc 43 rfl ?_
    refine lv_istore_n (lv' := [(2, .int s0), (0, .ref (ad 0)), (1, .int a1)]) hx hb dX11_checkSignature_43 rfl hl (by decide) rfl (fun ls hl => ?_)
    refine lv_aload_n hx hb dX11_checkSignature_44 rfl (lv_at hl 1 rfl) ?_
    refine gw_get (C := RX11) (T := TX11) (N := 55) (v := .ref (ad 13)) hx hb hts hinX11 hown hK hP (by omega) lyNMM rfl 13 (by decide) w47 (fun _ h9 => h9) rfl dX11_checkSignature_45 ?_
    refine lv_iconst (v := 2) hx hb dX11_checkSignature_48 (by decide) ?_
    refine lv_aload_n hx hb dX11_checkSignature_49 rfl (lv_at hl 1 rfl) ?_
    refine gw_get (C := RX11) (T := TX11) (N := 55) (v := .ref (ad 22)) hx hb hts hinX11 hown hK hP (by omega) lyNMM rfl 30 (by decide) w74 (fun _ h9 => h9) rfl dX11_checkSignature_50 ?_
    refine lv_iload_n hx hb dX11_checkSignature_53 rfl (lv_at hl 2 rfl) ?_
    refine w_pc 54 rfl ?_
    obtain ⟨g54, h⟩ := gd_in h
    refine gw_iald hx hb hK hP 0 (by omega) lyNabyDomain rfl g54 dX11_checkSignature_54 ?_
    refine lv_imul hx hb dX11_checkSignature_55 ?_
    refine lv_aload_n hx hb dX11_checkSignature_56 rfl (lv_at hl 1 rfl) ?_
    refine gw_get (C := RX11) (T := TX11) (N := 55) (v := .ref (ad 23)) hx hb hts hinX11 hown hK hP (by omega) lyNMM rfl 31 (by decide) w77 (fun _ h9 => h9) rfl dX11_checkSignature_57 ?_
    refine lv_iload_n hx hb dX11_checkSignature_60 rfl (lv_at hl 2 rfl) ?_
    obtain ⟨g61, h⟩ := gd_in h
    refine gw_iald hx hb hK hP 0 (by omega) lyNabySelector rfl g61 dX11_checkSignature_61 ?_
    refine lv_iadd hx hb dX11_checkSignature_62 ?_
    obtain ⟨g63, h⟩ := gd_in h
    refine gw_iald hx hb hK hP 0 (by omega) lyNakeys rfl g63 dX11_checkSignature_63 ?_
    refine w_pc 64 rfl ?_
    refine w_pc 64 rfl ?_
    refine lv_if_eq (tgt := 90) hx hb dX11_checkSignature_64 (by decide) (fun q64 => ?_) (fun q64 => ?_)
    · replace h := (if_pos q64).symm.trans h
      refine w_pc 90 rfl ?_
      refine lv_bipush (v := 6) hx hb dX11_checkSignature_90 (by decide) ?_
      exact re_i hx hb hr hlk h hP hS dX11_checkSignature_92
    · replace h := (if_neg q64).symm.trans h
      refine w_pc 67 rfl ?_
      refine lv_iload_n hx hb dX11_checkSignature_67 rfl (lv_at hl 0 rfl) ?_
      refine w_pc 68 rfl ?_
      refine lv_if_ne (tgt := 90) hx hb dX11_checkSignature_68 (by decide) (fun q68 => ?_) (fun q68 => ?_)
      · replace h := (if_neg q68).symm.trans h
        refine w_pc 90 rfl ?_
        refine lv_bipush (v := 6) hx hb dX11_checkSignature_90 (by decide) ?_
        exact re_i hx hb hr hlk h hP hS dX11_checkSignature_92
      · replace h := (if_pos q68).symm.trans h
        refine w_pc 71 rfl ?_
        refine lv_aload_n hx hb dX11_checkSignature_71 rfl (lv_at hl 1 rfl) ?_
        refine gw_get (C := RX11) (T := TX11) (N := 55) (v := .ref (ad 26)) hx hb hts hinX11 hown hK hP (by omega) lyNMM rfl 34 (by decide) w86 (fun _ h9 => h9) rfl dX11_checkSignature_72 ?_
        refine lv_iload_n hx hb dX11_checkSignature_75 rfl (lv_at hl 2 rfl) ?_
        obtain ⟨g76, h⟩ := gd_in h
        refine gw_iald hx hb hK hP 0 (by omega) lyNalimits rfl g76 dX11_checkSignature_76 ?_
        refine lv_aload_n hx hb dX11_checkSignature_77 rfl (lv_at hl 1 rfl) ?_
        refine lv_aload_n hx hb dX11_checkSignature_78 rfl (lv_at hl 1 rfl) ?_
        refine gw_get (C := RX11) (T := TX11) (N := 55) (v := .ref (ad 24)) hx hb hts hinX11 hown hK hP (by omega) lyNMM rfl 32 (by decide) w80 (fun _ h9 => h9) rfl dX11_checkSignature_79 ?_
        refine w_pc 82 rfl ?_
        refine lv_iload_n hx hb dX11_checkSignature_82 rfl (lv_at hl 2 rfl) ?_
        obtain ⟨g83, h⟩ := gd_in h
        refine gw_iald hx hb hK hP 0 (by omega) lyNaways rfl g83 dX11_checkSignature_83 ?_
        refine w_pc 84 rfl ?_
        obtain ⟨v84, M84, c84, h⟩ := bn2_some h
        refine cl_i (rn_v (As := [.int (M 24 a1.toNatClampNeg)]) (rest := [.int (M 26 a1.toNatClampNeg)]) ⟨hx, hb, hml, hown, hts⟩ (kX11_bodyLength l D ad cA A c84) ⟨callB_of 1 hts (gdc wm1027) rfl rfl rfl (hts _ wm61) (hts _ wm1024) hdX11_bodyLength ⟨Nat.le_of_ble_eq_true rfl, Nat.le_of_ble_eq_true rfl⟩, hts _ wm1026, hts _ wm38⟩ hK hP hD hN (by omega) lyNMM rfl rfl hl.1 rfl (lv_room (Nat.le_of_ble_eq_true rfl)) dX11_checkSignature_84) hS (fun H locs hP hS => ?_)
        refine w_pc 87 rfl ?_
        refine w_pc 87 rfl ?_
        refine lv_icmp_le (tgt := 93) hx hb dX11_checkSignature_87 (by decide) (fun q87 => ?_) (fun q87 => ?_)
        · replace h := (if_pos q87).symm.trans h
          refine w_pc 93 rfl ?_
          refine lv_aload_n hx hb dX11_checkSignature_93 rfl (lv_at hl 1 rfl) ?_
          refine gw_get (C := RX11) (T := TX11) (N := 55) (v := .ref (ad 28)) hx hb hts hinX11 hown hK hP (by omega) lyNMM rfl 36 (by decide) w92 (fun _ h9 => h9) rfl dX11_checkSignature_94 ?_
          refine lv_iload_n hx hb dX11_checkSignature_97 rfl (lv_at hl 2 rfl) ?_
          obtain ⟨g98, h⟩ := gd_in h
          refine gw_iald hx hb hK hP 0 (by omega) lyNabodyDigests rfl g98 dX11_checkSignature_98 ?_
          refine lv_aload_n hx hb dX11_checkSignature_99 rfl (lv_at hl 1 rfl) ?_
          refine lv_aload_n hx hb dX11_checkSignature_100 rfl (lv_at hl 1 rfl) ?_
          refine gw_get (C := RX11) (T := TX11) (N := 55) (v := .ref (ad 24)) hx hb hts hinX11 hown hK hP (by omega) lyNMM rfl 32 (by decide) w80 (fun _ h9 => h9) rfl dX11_checkSignature_101 ?_
          refine w_pc 104 rfl ?_
          refine lv_iload_n hx hb dX11_checkSignature_104 rfl (lv_at hl 2 rfl) ?_
          obtain ⟨g105, h⟩ := gd_in h
          refine gw_iald hx hb hK hP 0 (by omega) lyNaways rfl g105 dX11_checkSignature_105 ?_
          refine lv_aload_n hx hb dX11_checkSignature_106 rfl (lv_at hl 1 rfl) ?_
          refine gw_get (C := RX11) (T := TX11) (N := 55) (v := .ref (ad 26)) hx hb hts hinX11 hown hK hP (by omega) lyNMM rfl 34 (by decide) w86 (fun _ h9 => h9) rfl dX11_checkSignature_107 ?_
          refine lv_iload_n hx hb dX11_checkSignature_110 rfl (lv_at hl 2 rfl) ?_
          obtain ⟨g111, h⟩ := gd_in h
          refine gw_iald hx hb hK hP 0 (by omega) lyNalimits rfl g111 dX11_checkSignature_111 ?_
          refine w_pc 112 rfl ?_
          obtain ⟨v112, M112, c112, h⟩ := bn2_some h
          refine cl_i (rn_v (As := [.int (M84 24 a1.toNatClampNeg), .int (M84 26 a1.toNatClampNeg)]) (rest := [.int (M84 28 a1.toNatClampNeg)]) ⟨hx, hb, hml, hown, hts⟩ (kX11_bodyDigest l D ad cA A c112) ⟨callB_of 2 hts (gdc wm1035) rfl rfl rfl (hts _ wm61) (hts _ wm1032) hdX11_bodyDigest ⟨Nat.le_of_ble_eq_true rfl, Nat.le_of_ble_eq_true rfl⟩, hts _ wm1034, hts _ wm40⟩ hK hP hD hN (by omega) lyNMM rfl rfl hl.1 rfl (lv_room (Nat.le_of_ble_eq_true rfl)) dX11_checkSignature_112) hS (fun H locs hP hS => ?_)
          refine w_pc 115 rfl ?_
          refine w_pc 115 rfl ?_
          refine lv_icmp_eq (tgt := 120) hx hb dX11_checkSignature_115 (by decide) (fun q115 => ?_) (fun q115 => ?_)
          · replace h := (if_pos q115).symm.trans h
            refine w_pc 120 rfl ?_
            refine lv_aload_n hx hb dX11_checkSignature_120 rfl (lv_at hl 1 rfl) ?_
            refine gw_get (C := RX11) (T := TX11) (N := 55) (v := .ref (ad 29)) hx hb hts hinX11 hown hK hP (by omega) lyNMM rfl 37 (by decide) w95 (fun _ h9 => h9) rfl dX11_checkSignature_121 ?_
            refine lv_iload_n hx hb dX11_checkSignature_124 rfl (lv_at hl 2 rfl) ?_
            obtain ⟨g125, h⟩ := gd_in h
            refine gw_iald hx hb hK hP 0 (by omega) lyNaseals rfl g125 dX11_checkSignature_125 ?_
            refine lv_aload_n hx hb dX11_checkSignature_126 rfl (lv_at hl 1 rfl) ?_
            refine lv_iload_n hx hb dX11_checkSignature_127 rfl (lv_at hl 2 rfl) ?_
            refine w_pc 128 rfl ?_
            obtain ⟨v128, M128, c128, h⟩ := bn2_some h
            refine cl_i (rn_v (As := [.int a1]) (rest := [.int (M112 29 a1.toNatClampNeg)]) ⟨hx, hb, hml, hown, hts⟩ (kX11_sealOf l D ad cA A c128) ⟨callB_of 1 hts (gdc wm1048) rfl rfl rfl (hts _ wm61) (hts _ wm1045) hdX11_sealOf ⟨Nat.le_of_ble_eq_true rfl, Nat.le_of_ble_eq_true rfl⟩, hts _ wm1047, hts _ wm43⟩ hK hP hD hN (by omega) lyNMM rfl rfl hl.1 rfl (lv_room (Nat.le_of_ble_eq_true rfl)) dX11_checkSignature_128) hS (fun H locs hP hS => ?_)
            refine w_pc 131 rfl ?_
            refine w_pc 131 rfl ?_
            refine lv_icmp_eq (tgt := 138) hx hb dX11_checkSignature_131 (by decide) (fun q131 => ?_) (fun q131 => ?_)
            · replace h := (if_pos q131).symm.trans h
              refine w_pc 138 rfl ?_
              refine lv_iconst (v := 1) hx hb dX11_checkSignature_138 (by decide) ?_
              exact re_i hx hb hr hlk h hP hS dX11_checkSignature_139
            · replace h := (if_neg q131).symm.trans h
              refine w_pc 134 rfl ?_
              refine lv_iconst (v := 2) hx hb dX11_checkSignature_134 (by decide) ?_
              refine lv_goto (tgt := 139) hx hb dX11_checkSignature_135 (by decide) ?_
              exact re_i hx hb hr hlk h hP hS dX11_checkSignature_139
          · replace h := (if_neg q115).symm.trans h
            refine w_pc 118 rfl ?_
            refine lv_iconst (v := 2) hx hb dX11_checkSignature_118 (by decide) ?_
            exact re_i hx hb hr hlk h hP hS dX11_checkSignature_119
        · replace h := (if_neg q87).symm.trans h
          refine w_pc 90 rfl ?_
          refine lv_bipush (v := 6) hx hb dX11_checkSignature_90 (by decide) ?_
          exact re_i hx hb hr hlk h hP hS dX11_checkSignature_92
  have bk42 : ∀ (M : Mm) (ls : Array Slot) (H : Heap) (locs : List Loc), lv_has ls 3 [(0, .ref (ad 0)), (1, .int a1)] → fX11_checkSignature_42 a1 M = some (r, M1) → va_P D vwCl (gw 40 (layN ad cA) ad M) H → va_S A s.heap H locs → W p l e (headSpec wsX11_checkSignature rmX11_checkSignature).room s m args below meth c H locs 0 0 (MQ below (gQi D 40 (layN ad cA) ad A M1 r) args s 0 0 A) (F0 m 42 ls []) := by
    intro M ls H locs hl h hP hS
    unfold fX11_checkSignature_42 at h
    refine w_pc 42 rfl ?_
    refine lv_iconst (v := 0) hx hb dX11_checkSignature_42 (by decide) ?_
    exact bk43 (0 : Int32) M ls _ _ (lv_sub hl [0, 1] rfl) h hP hS
  refine w_entry ha (Nat.le_of_ble_eq_true rfl) (fun ls hl => ?_)
  have hl : lv_has ls 3 [(0, .ref (ad 0)), (1, .int a1)] := hl
  refine w_pc 0 rfl ?_
  refine lv_aload_n hx hb dX11_checkSignature_0 rfl (lv_at hl 0 rfl) ?_
  refine gw_get (C := RX11) (T := TX11) (N := 55) (v := .ref (ad 3)) hx hb hts hinX11 hown hK hP (by omega) lyNMM rfl 3 (by decide) w17 (fun _ h9 => h9) rfl dX11_checkSignature_1 ?_
  refine lv_aload_n hx hb dX11_checkSignature_4 rfl (lv_at hl 0 rfl) ?_
  refine gw_get (C := RX11) (T := TX11) (N := 55) (v := .ref (ad 22)) hx hb hts hinX11 hown hK hP (by omega) lyNMM rfl 30 (by decide) w74 (fun _ h9 => h9) rfl dX11_checkSignature_5 ?_
  refine lv_iload_n hx hb dX11_checkSignature_8 rfl (lv_at hl 1 rfl) ?_
  obtain ⟨g9, h⟩ := gd_in h
  refine gw_iald hx hb hK hP 0 (by omega) lyNabyDomain rfl g9 dX11_checkSignature_9 ?_
  obtain ⟨g10, h⟩ := gd_in h
  refine gw_zald hx hb hK hP 1 (by omega) lyNasilents rfl g10 dX11_checkSignature_10 ?_
  refine w_pc 11 rfl ?_
  refine w_pc 11 rfl ?_
  refine lv_if_eq (tgt := 16) hx hb dX11_checkSignature_11 (by decide) (fun q11 => ?_) (fun q11 => ?_)
  · replace h := (if_pos q11).symm.trans h
    refine w_pc 16 rfl ?_
    refine lv_aload_n hx hb dX11_checkSignature_16 rfl (lv_at hl 0 rfl) ?_
    refine gw_get (C := RX11) (T := TX11) (N := 55) (v := .ref (ad 27)) hx hb hts hinX11 hown hK hP (by omega) lyNMM rfl 35 (by decide) w89 (fun _ h9 => h9) rfl dX11_checkSignature_17 ?_
    refine lv_iload_n hx hb dX11_checkSignature_20 rfl (lv_at hl 1 rfl) ?_
    obtain ⟨g21, h⟩ := gd_in h
    refine gw_iald hx hb hK hP 0 (by omega) lyNaends rfl g21 dX11_checkSignature_21 ?_
    refine w_pc 22 rfl ?_
    refine lv_if_lt (tgt := 42) hx hb dX11_checkSignature_22 (by decide) (fun q22 => ?_) (fun q22 => ?_)
    · replace h := (if_pos q22).symm.trans h
      refine w_pc 42 rfl ?_
      exact bk42 M ls _ _ (lv_sub hl [0, 1] rfl) h hP hS
    · replace h := (if_neg q22).symm.trans h
      refine w_pc 25 rfl ?_
      refine lv_aload_n hx hb dX11_checkSignature_25 rfl (lv_at hl 0 rfl) ?_
      refine gw_get (C := RX11) (T := TX11) (N := 55) (v := .ref (ad 27)) hx hb hts hinX11 hown hK hP (by omega) lyNMM rfl 35 (by decide) w89 (fun _ h9 => h9) rfl dX11_checkSignature_26 ?_
      refine lv_iload_n hx hb dX11_checkSignature_29 rfl (lv_at hl 1 rfl) ?_
      obtain ⟨g30, h⟩ := gd_in h
      refine gw_iald hx hb hK hP 0 (by omega) lyNaends rfl g30 dX11_checkSignature_30 ?_
      refine lv_aload_n hx hb dX11_checkSignature_31 rfl (lv_at hl 0 rfl) ?_
      refine gw_get (C := RX11) (T := TX11) (N := 55) (v := .int (M 0 18)) hx hb hts hinX11 hown hK hP (by omega) lyNMM rfl 18 (by decide) w256 (fun _ h9 => h9) rfl dX11_checkSignature_32 ?_
      refine w_pc 35 rfl ?_
      refine lv_icmp_gt (tgt := 42) hx hb dX11_checkSignature_35 (by decide) (fun q35 => ?_) (fun q35 => ?_)
      · replace h := (if_pos q35).symm.trans h
        refine w_pc 42 rfl ?_
        exact bk42 M ls _ _ (lv_sub hl [0, 1] rfl) h hP hS
      · replace h := (if_neg q35).symm.trans h
        refine w_pc 38 rfl ?_
        refine lv_iconst (v := 1) hx hb dX11_checkSignature_38 (by decide) ?_
        refine lv_goto (tgt := 43) hx hb dX11_checkSignature_39 (by decide) ?_
        exact bk43 (1 : Int32) M ls _ _ (lv_sub hl [0, 1] rfl) h hP hS
  · replace h := (if_neg q11).symm.trans h
    refine w_pc 14 rfl ?_
    refine lv_iconst (v := 5) hx hb dX11_checkSignature_14 (by decide) ?_
    exact re_i hx hb hr hlk h hP hS dX11_checkSignature_15
def rmX11_signature : Room := { frames := 4, cells := 0, slots := 0, locals := 91 }
def fX11_signature (a1 : Int32) (M : Mm) : Option (Int32 × Mm) :=
  if (M 0 19) = 0 then (some ((-1 : Int32), M)) else (if a1 < 0 then (some ((-1 : Int32), M)) else (if a1 < (M 0 29) then (bn2 (fX11_checkSignature a1 M) (fun v25 M25 => some (v25, M25))) else (some ((-1 : Int32), M))))
set_option maxRecDepth 100000 in
set_option maxHeartbeats 4000000 in
theorem kX11_signature (l : Launch) (D : va_G) (ad : Nat → Nat) (cA : Nat → ClassId) (A : Nat → Prop) {a1 : Int32} {M M1 : Mm} {r : Int32} (h : fX11_signature a1 M = some (r, M1)) : Met l yX11_signature wsX11_signature rmX11_signature (gPc D (tyM cA) 40 (layN ad cA) ad A M [.ref (ad 0), .int a1]) (gQi D 40 (layN ad cA) ad A M1 r) 0 0 A := by
  refine Met.ofW (cc := cX11_signature) (maxL := 2) (ret := (some .int)) (by decide) rfl ?_
  intro p e s m args below meth c s₁ B hml hv
  obtain ⟨ha, hP, hK, hD, hN⟩ := hv
  have hx := B.exec
  have hb := B.bytes
  have hr := B.returns
  have hlk := B.notSynchronized
  have hts : ∀ w ∈ lw_g, w.before args s = true := fun w h => atoms_spec (ws := wsX11_signature) B.pre w (List.mem_cons_of_mem _ h)
  have hown : s.vm.findClass RX11 = some m.cls := findClass_of_methodNamed B.named
  have hS : va_S A s.heap s.heap [] := va_S.rf
  unfold fX11_signature at h
  have w190 := hts _ wm746
  have w206 := hts _ wm756
  refine w_entry ha (Nat.le_of_ble_eq_true rfl) (fun ls hl => ?_)
  have hl : lv_has ls 2 [(0, .ref (ad 0)), (1, .int a1)] := hl
  refine w_pc 0 rfl ?_
  refine lv_aload_n hx hb dX11_signature_0 rfl (lv_at hl 0 rfl) ?_
  refine gw_get (C := RX11) (T := TX11) (N := 55) (v := .int (M 0 19)) hx hb hts hinX11 hown hK hP (by omega) lyNMM rfl 19 (by decide) w190 (fun _ h9 => h9) rfl dX11_signature_1 ?_
  refine w_pc 4 rfl ?_
  refine lv_if_eq (tgt := 19) hx hb dX11_signature_4 (by decide) (fun q4 => ?_) (fun q4 => ?_)
  · replace h := (if_pos q4).symm.trans h
    refine w_pc 19 rfl ?_
    refine lv_iconst (v := -1) hx hb dX11_signature_19 (by decide) ?_
    refine lv_goto (tgt := 28) hx hb dX11_signature_20 (by decide) ?_
    exact re_i hx hb hr hlk h hP hS dX11_signature_28
  · replace h := (if_neg q4).symm.trans h
    refine w_pc 7 rfl ?_
    refine lv_iload_n hx hb dX11_signature_7 rfl (lv_at hl 1 rfl) ?_
    refine w_pc 8 rfl ?_
    refine lv_if_lt (tgt := 19) hx hb dX11_signature_8 (by decide) (fun q8 => ?_) (fun q8 => ?_)
    · replace h := (if_pos q8).symm.trans h
      refine w_pc 19 rfl ?_
      refine lv_iconst (v := -1) hx hb dX11_signature_19 (by decide) ?_
      refine lv_goto (tgt := 28) hx hb dX11_signature_20 (by decide) ?_
      exact re_i hx hb hr hlk h hP hS dX11_signature_28
    · replace h := (if_neg q8).symm.trans h
      refine w_pc 11 rfl ?_
      refine lv_iload_n hx hb dX11_signature_11 rfl (lv_at hl 1 rfl) ?_
      refine lv_aload_n hx hb dX11_signature_12 rfl (lv_at hl 0 rfl) ?_
      refine gw_get (C := RX11) (T := TX11) (N := 55) (v := .int (M 0 29)) hx hb hts hinX11 hown hK hP (by omega) lyNMM rfl 29 (by decide) w206 (fun _ h9 => h9) rfl dX11_signature_13 ?_
      refine w_pc 16 rfl ?_
      refine lv_icmp_lt (tgt := 23) hx hb dX11_signature_16 (by decide) (fun q16 => ?_) (fun q16 => ?_)
      · replace h := (if_pos q16).symm.trans h
        refine w_pc 23 rfl ?_
        refine lv_aload_n hx hb dX11_signature_23 rfl (lv_at hl 0 rfl) ?_
        refine lv_iload_n hx hb dX11_signature_24 rfl (lv_at hl 1 rfl) ?_
        refine w_pc 25 rfl ?_
        obtain ⟨v25, M25, c25, h⟩ := bn2_some h
        refine cl_i (rn_v (As := [.int a1]) (rest := []) ⟨hx, hb, hml, hown, hts⟩ (kX11_checkSignature l D ad cA A c25) ⟨callB_of 1 hts (gdc wm1060) rfl rfl rfl (hts _ wm61) (hts _ wm1057) hdX11_checkSignature ⟨Nat.le_of_ble_eq_true rfl, Nat.le_of_ble_eq_true rfl⟩, hts _ wm1059, hts _ wm44⟩ hK hP hD hN (by omega) lyNMM rfl rfl hl.1 rfl (lv_room (Nat.le_of_ble_eq_true rfl)) dX11_signature_25) hS (fun H locs hP hS => ?_)
        refine w_pc 28 rfl ?_
        exact re_i hx hb hr hlk h hP hS dX11_signature_28
      · replace h := (if_neg q16).symm.trans h
        refine w_pc 19 rfl ?_
        refine lv_iconst (v := -1) hx hb dX11_signature_19 (by decide) ?_
        refine lv_goto (tgt := 28) hx hb dX11_signature_20 (by decide) ?_
        exact re_i hx hb hr hlk h hP hS dX11_signature_28
def rmX11_coverOf : Room := { frames := 1, cells := 0, slots := 0, locals := 23 }
def fX11_coverOf_75 (a1 : Int32) : Nat → Int32 → Mm → Option (Int32 × Mm)
  | 0, _, _ => none
  | n + 1, x3, M => if a1 ≤ x3 then (bn1 (fX11_digest M) (fun v97 => some (v97, M))) else (grd (gin x3 4) (bn1 (fX11_mix (M 31 x3.toNatClampNeg) M) (fun M87 => (fX11_coverOf_75 a1 n) (x3 + 1) M87)))
def fX11_coverOf (a1 : Int32) (M : Mm) : Option (Int32 × Mm) :=
  nm ((3 : Int32) + a1) (fun v3 => nm (wrL M 0 43 (0 : Int64)) (fun M6 => grd (gin v3 7) (grd (gin v3 7) (grd (gin (((2 : Int32) * (M6 22 v3.toNatClampNeg)) + (M6 23 v3.toNatClampNeg)) 40) (bn1 (fX11_mix (M6 13 (((2 : Int32) * (M6 22 v3.toNatClampNeg)) + (M6 23 v3.toNatClampNeg)).toNatClampNeg) M6) (fun M30 => grd (gin v3 7) (bn1 (fX11_mix (M30 22 v3.toNatClampNeg) M30) (fun M40 => grd (gin v3 7) (bn1 (fX11_mix (M40 23 v3.toNatClampNeg) M40) (fun M50 => grd (gin a1 4) (bn1 (fX11_mix (M50 30 a1.toNatClampNeg) M50) (fun M60 => grd (gin v3 7) (bn1 (fX11_mix (M60 29 v3.toNatClampNeg) M60) (fun M70 => fX11_coverOf_75 a1 FU (0 : Int32) M70))))))))))))))
set_option maxRecDepth 100000 in
set_option maxHeartbeats 4000000 in
theorem kX11_coverOf (l : Launch) (D : va_G) (ad : Nat → Nat) (cA : Nat → ClassId) (A : Nat → Prop) {a1 : Int32} {M M1 : Mm} {r : Int32} (h : fX11_coverOf a1 M = some (r, M1)) : Met l yX11_coverOf wsX11_coverOf rmX11_coverOf (gPc D (tyM cA) 40 (layN ad cA) ad A M [.ref (ad 0), .int a1]) (gQi D 40 (layN ad cA) ad A M1 r) 0 0 A := by
  refine Met.ofW (cc := cX11_coverOf) (maxL := 4) (ret := (some .int)) (by decide) rfl ?_
  intro p e s m args below meth c s₁ B hml hv
  obtain ⟨ha, hP, hK, hD, hN⟩ := hv
  have hx := B.exec
  have hb := B.bytes
  have hr := B.returns
  have hlk := B.notSynchronized
  have hts : ∀ w ∈ lw_g, w.before args s = true := fun w h => atoms_spec (ws := wsX11_coverOf) B.pre w (List.mem_cons_of_mem _ h)
  have hown : s.vm.findClass RX11 = some m.cls := findClass_of_methodNamed B.named
  have hS : va_S A s.heap s.heap [] := va_S.rf
  unfold fX11_coverOf at h
  have w234 := hts _ wm770
  have w47 := hts _ wm740
  have w74 := hts _ wm757
  have w77 := hts _ wm758
  have w98 := hts _ wm766
  have w95 := hts _ wm764
  have w101 := hts _ wm767
  have lp75 : ∀ (n : Nat) (x3 : Int32) (M : Mm) (ls : Array Slot) (H : Heap) (locs : List Loc), lv_has ls 4 [(0, .ref (ad 0)), (1, .int a1), (3, .int x3)] → fX11_coverOf_75 a1 n x3 M = some (r, M1) → va_P D vwCl (gw 40 (layN ad cA) ad M) H → va_S A s.heap H locs → W p l e (headSpec wsX11_coverOf rmX11_coverOf).room s m args below meth c H locs 0 0 (MQ below (gQi D 40 (layN ad cA) ad A M1 r) args s 0 0 A) (F0 m 75 ls []) := by
    intro n
    induction n with
    | zero =>
      intro x3 M ls H locs hl h hP hS
      rw [fX11_coverOf_75] at h
      cases h
    | succ n ih75 =>
      intro x3 M ls H locs hl h hP hS
      rw [fX11_coverOf_75] at h
      refine w_pc 75 rfl ?_
      refine lv_iload_n hx hb dX11_coverOf_75 rfl (lv_at hl 2 rfl) ?_
      refine lv_iload_n hx hb dX11_coverOf_76 rfl (lv_at hl 1 rfl) ?_
      refine w_pc 77 rfl ?_
      refine lv_icmp_ge (tgt := 96) hx hb dX11_coverOf_77 (by decide) (fun q77 => ?_) (fun q77 => ?_)
      · replace h := (if_pos q77).symm.trans h
        refine w_pc 96 rfl ?_
        refine lv_aload_n hx hb dX11_coverOf_96 rfl (lv_at hl 0 rfl) ?_
        refine w_pc 97 rfl ?_
        obtain ⟨v97, c97, h⟩ := bn1_some h
        refine cl_i (rn_v (As := []) (rest := []) ⟨hx, hb, hml, hown, hts⟩ (kX11_digest l D ad cA A c97) ⟨callB_of 0 hts (gdc wm1044) rfl rfl rfl (hts _ wm61) (hts _ wm1041) hdX11_digest ⟨Nat.le_of_ble_eq_true rfl, Nat.le_of_ble_eq_true rfl⟩, hts _ wm1043, hts _ wm42⟩ hK hP hD hN (by omega) lyNMM rfl rfl hl.1 rfl (lv_room (Nat.le_of_ble_eq_true rfl)) dX11_coverOf_97) hS (fun H locs hP hS => ?_)
        refine w_pc 100 rfl ?_
        exact re_i hx hb hr hlk h hP hS dX11_coverOf_100
      · replace h := (if_neg q77).symm.trans h
        refine w_pc 80 rfl ?_
        refine lv_aload_n hx hb dX11_coverOf_80 rfl (lv_at hl 0 rfl) ?_
        refine lv_aload_n hx hb dX11_coverOf_81 rfl (lv_at hl 0 rfl) ?_
        refine gw_get (C := RX11) (T := TX11) (N := 55) (v := .ref (ad 31)) hx hb hts hinX11 hown hK hP (by omega) lyNMM rfl 40 (by decide) w101 (fun _ h9 => h9) rfl dX11_coverOf_82 ?_
        refine lv_iload_n hx hb dX11_coverOf_85 rfl (lv_at hl 2 rfl) ?_
        obtain ⟨g86, h⟩ := gd_in h
        refine gw_iald hx hb hK hP 0 (by omega) lyNacovers rfl g86 dX11_coverOf_86 ?_
        refine w_pc 87 rfl ?_
        obtain ⟨M87, c87, h⟩ := bn1_some h
        refine cl_v (rn_v (As := [.int (M 31 x3.toNatClampNeg)]) (rest := []) ⟨hx, hb, hml, hown, hts⟩ (kX11_mix l D ad cA A c87) ⟨callB_of 1 hts (gdc wm1039) rfl rfl rfl (hts _ wm61) (hts _ wm1036) hdX11_mix ⟨Nat.le_of_ble_eq_true rfl, Nat.le_of_ble_eq_true rfl⟩, hts _ wm1038, hts _ wm41⟩ hK hP hD hN (by omega) lyNMM rfl rfl hl.1 rfl (lv_room (Nat.le_of_ble_eq_true rfl)) dX11_coverOf_87) hS (fun H locs hP hS => ?_)
        refine w_pc 90 rfl ?_
        refine lv_iinc (k := 2) (v := x3 + 1) (lv' := [(3, .int (x3 + 1)), (0, .ref (ad 0)), (1, .int a1)]) hx hb dX11_coverOf_90 hl rfl rfl (by decide) rfl (fun ls hl => ?_)
        refine lv_goto (tgt := 75) hx hb dX11_coverOf_93 (by decide) ?_
        exact ih75 (x3 + 1) M87 ls _ _ (lv_sub hl [1, 2, 0] rfl) h hP hS
  refine w_entry ha (Nat.le_of_ble_eq_true rfl) (fun ls hl => ?_)
  have hl : lv_has ls 4 [(0, .ref (ad 0)), (1, .int a1)] := hl
  refine w_pc 0 rfl ?_
  refine lv_iconst (v := 3) hx hb dX11_coverOf_0 (by decide) ?_
  refine lv_iload_n hx hb dX11_coverOf_1 rfl (lv_at hl 1 rfl) ?_
  refine lv_iadd hx hb dX11_coverOf_2 ?_
  obtain ⟨v3, e3, h⟩ := nm_some h
  refine w_ti e3 ?_
  refine lv_istore_n (lv' := [(2, .int v3), (0, .ref (ad 0)), (1, .int a1)]) hx hb dX11_coverOf_3 rfl hl (by decide) rfl (fun ls hl => ?_)
  refine lv_aload_n hx hb dX11_coverOf_4 rfl (lv_at hl 1 rfl) ?_
  refine lv_lconst (v := 0) hx hb dX11_coverOf_5 (by decide) ?_
  obtain ⟨M6, eM6, h⟩ := nm_some h
  refine gw_putL (C := RX11) (T := TX11) (N := 55) hx hb hts hinX11 tyX11 tyX11_ok nmX11 hown hK hP hD hS (by omega) lyNMM rfl 43 (by decide) w234 (fun _ h9 => h9) rfl (by decide +kernel) rfl rfl (Nat.le_of_ble_eq_true rfl) eM6 rfl dX11_coverOf_6 (fun H locs hP hS => ?_)
  refine w_pc 9 rfl ?_
  refine lv_aload_n hx hb dX11_coverOf_9 rfl (lv_at hl 1 rfl) ?_
  refine lv_aload_n hx hb dX11_coverOf_10 rfl (lv_at hl 1 rfl) ?_
  refine gw_get (C := RX11) (T := TX11) (N := 55) (v := .ref (ad 13)) hx hb hts hinX11 hown hK hP (by omega) lyNMM rfl 13 (by decide) w47 (fun _ h9 => h9) rfl dX11_coverOf_11 ?_
  refine lv_iconst (v := 2) hx hb dX11_coverOf_14 (by decide) ?_
  refine lv_aload_n hx hb dX11_coverOf_15 rfl (lv_at hl 1 rfl) ?_
  refine gw_get (C := RX11) (T := TX11) (N := 55) (v := .ref (ad 22)) hx hb hts hinX11 hown hK hP (by omega) lyNMM rfl 30 (by decide) w74 (fun _ h9 => h9) rfl dX11_coverOf_16 ?_
  refine lv_iload_n hx hb dX11_coverOf_19 rfl (lv_at hl 0 rfl) ?_
  obtain ⟨g20, h⟩ := gd_in h
  refine gw_iald hx hb hK hP 0 (by omega) lyNabyDomain rfl g20 dX11_coverOf_20 ?_
  refine w_pc 21 rfl ?_
  refine lv_imul hx hb dX11_coverOf_21 ?_
  refine lv_aload_n hx hb dX11_coverOf_22 rfl (lv_at hl 1 rfl) ?_
  refine gw_get (C := RX11) (T := TX11) (N := 55) (v := .ref (ad 23)) hx hb hts hinX11 hown hK hP (by omega) lyNMM rfl 31 (by decide) w77 (fun _ h9 => h9) rfl dX11_coverOf_23 ?_
  refine lv_iload_n hx hb dX11_coverOf_26 rfl (lv_at hl 0 rfl) ?_
  obtain ⟨g27, h⟩ := gd_in h
  refine gw_iald hx hb hK hP 0 (by omega) lyNabySelector rfl g27 dX11_coverOf_27 ?_
  refine lv_iadd hx hb dX11_coverOf_28 ?_
  obtain ⟨g29, h⟩ := gd_in h
  refine gw_iald hx hb hK hP 0 (by omega) lyNakeys rfl g29 dX11_coverOf_29 ?_
  refine w_pc 30 rfl ?_
  obtain ⟨M30, c30, h⟩ := bn1_some h
  refine cl_v (rn_v (As := [.int (M6 13 (((2 : Int32) * (M6 22 v3.toNatClampNeg)) + (M6 23 v3.toNatClampNeg)).toNatClampNeg)]) (rest := []) ⟨hx, hb, hml, hown, hts⟩ (kX11_mix l D ad cA A c30) ⟨callB_of 1 hts (gdc wm1039) rfl rfl rfl (hts _ wm61) (hts _ wm1036) hdX11_mix ⟨Nat.le_of_ble_eq_true rfl, Nat.le_of_ble_eq_true rfl⟩, hts _ wm1038, hts _ wm41⟩ hK hP hD hN (by omega) lyNMM rfl rfl hl.1 rfl (lv_room (Nat.le_of_ble_eq_true rfl)) dX11_coverOf_30) hS (fun H locs hP hS => ?_)
  refine w_pc 33 rfl ?_
  refine lv_aload_n hx hb dX11_coverOf_33 rfl (lv_at hl 1 rfl) ?_
  refine lv_aload_n hx hb dX11_coverOf_34 rfl (lv_at hl 1 rfl) ?_
  refine gw_get (C := RX11) (T := TX11) (N := 55) (v := .ref (ad 22)) hx hb hts hinX11 hown hK hP (by omega) lyNMM rfl 30 (by decide) w74 (fun _ h9 => h9) rfl dX11_coverOf_35 ?_
  refine lv_iload_n hx hb dX11_coverOf_38 rfl (lv_at hl 0 rfl) ?_
  obtain ⟨g39, h⟩ := gd_in h
  refine gw_iald hx hb hK hP 0 (by omega) lyNabyDomain rfl g39 dX11_coverOf_39 ?_
  refine w_pc 40 rfl ?_
  obtain ⟨M40, c40, h⟩ := bn1_some h
  refine cl_v (rn_v (As := [.int (M30 22 v3.toNatClampNeg)]) (rest := []) ⟨hx, hb, hml, hown, hts⟩ (kX11_mix l D ad cA A c40) ⟨callB_of 1 hts (gdc wm1039) rfl rfl rfl (hts _ wm61) (hts _ wm1036) hdX11_mix ⟨Nat.le_of_ble_eq_true rfl, Nat.le_of_ble_eq_true rfl⟩, hts _ wm1038, hts _ wm41⟩ hK hP hD hN (by omega) lyNMM rfl rfl hl.1 rfl (lv_room (Nat.le_of_ble_eq_true rfl)) dX11_coverOf_40) hS (fun H locs hP hS => ?_)
  refine w_pc 43 rfl ?_
  refine lv_aload_n hx hb dX11_coverOf_43 rfl (lv_at hl 1 rfl) ?_
  refine lv_aload_n hx hb dX11_coverOf_44 rfl (lv_at hl 1 rfl) ?_
  refine gw_get (C := RX11) (T := TX11) (N := 55) (v := .ref (ad 23)) hx hb hts hinX11 hown hK hP (by omega) lyNMM rfl 31 (by decide) w77 (fun _ h9 => h9) rfl dX11_coverOf_45 ?_
  refine lv_iload_n hx hb dX11_coverOf_48 rfl (lv_at hl 0 rfl) ?_
  obtain ⟨g49, h⟩ := gd_in h
  refine gw_iald hx hb hK hP 0 (by omega) lyNabySelector rfl g49 dX11_coverOf_49 ?_
  refine w_pc 50 rfl ?_
  obtain ⟨M50, c50, h⟩ := bn1_some h
  refine cl_v (rn_v (As := [.int (M40 23 v3.toNatClampNeg)]) (rest := []) ⟨hx, hb, hml, hown, hts⟩ (kX11_mix l D ad cA A c50) ⟨callB_of 1 hts (gdc wm1039) rfl rfl rfl (hts _ wm61) (hts _ wm1036) hdX11_mix ⟨Nat.le_of_ble_eq_true rfl, Nat.le_of_ble_eq_true rfl⟩, hts _ wm1038, hts _ wm41⟩ hK hP hD hN (by omega) lyNMM rfl rfl hl.1 rfl (lv_room (Nat.le_of_ble_eq_true rfl)) dX11_coverOf_50) hS (fun H locs hP hS => ?_)
  refine w_pc 53 rfl ?_
  refine lv_aload_n hx hb dX11_coverOf_53 rfl (lv_at hl 1 rfl) ?_
  refine lv_aload_n hx hb dX11_coverOf_54 rfl (lv_at hl 1 rfl) ?_
  refine gw_get (C := RX11) (T := TX11) (N := 55) (v := .ref (ad 30)) hx hb hts hinX11 hown hK hP (by omega) lyNMM rfl 39 (by decide) w98 (fun _ h9 => h9) rfl dX11_coverOf_55 ?_
  refine lv_iload_n hx hb dX11_coverOf_58 rfl (lv_at hl 2 rfl) ?_
  obtain ⟨g59, h⟩ := gd_in h
  refine gw_iald hx hb hK hP 0 (by omega) lyNastates rfl g59 dX11_coverOf_59 ?_
  refine w_pc 60 rfl ?_
  obtain ⟨M60, c60, h⟩ := bn1_some h
  refine cl_v (rn_v (As := [.int (M50 30 a1.toNatClampNeg)]) (rest := []) ⟨hx, hb, hml, hown, hts⟩ (kX11_mix l D ad cA A c60) ⟨callB_of 1 hts (gdc wm1039) rfl rfl rfl (hts _ wm61) (hts _ wm1036) hdX11_mix ⟨Nat.le_of_ble_eq_true rfl, Nat.le_of_ble_eq_true rfl⟩, hts _ wm1038, hts _ wm41⟩ hK hP hD hN (by omega) lyNMM rfl rfl hl.1 rfl (lv_room (Nat.le_of_ble_eq_true rfl)) dX11_coverOf_60) hS (fun H locs hP hS => ?_)
  refine w_pc 63 rfl ?_
  refine lv_aload_n hx hb dX11_coverOf_63 rfl (lv_at hl 1 rfl) ?_
  refine lv_aload_n hx hb dX11_coverOf_64 rfl (lv_at hl 1 rfl) ?_
  refine gw_get (C := RX11) (T := TX11) (N := 55) (v := .ref (ad 29)) hx hb hts hinX11 hown hK hP (by omega) lyNMM rfl 37 (by decide) w95 (fun _ h9 => h9) rfl dX11_coverOf_65 ?_
  refine lv_iload_n hx hb dX11_coverOf_68 rfl (lv_at hl 0 rfl) ?_
  obtain ⟨g69, h⟩ := gd_in h
  refine gw_iald hx hb hK hP 0 (by omega) lyNaseals rfl g69 dX11_coverOf_69 ?_
  refine w_pc 70 rfl ?_
  obtain ⟨M70, c70, h⟩ := bn1_some h
  refine cl_v (rn_v (As := [.int (M60 29 v3.toNatClampNeg)]) (rest := []) ⟨hx, hb, hml, hown, hts⟩ (kX11_mix l D ad cA A c70) ⟨callB_of 1 hts (gdc wm1039) rfl rfl rfl (hts _ wm61) (hts _ wm1036) hdX11_mix ⟨Nat.le_of_ble_eq_true rfl, Nat.le_of_ble_eq_true rfl⟩, hts _ wm1038, hts _ wm41⟩ hK hP hD hN (by omega) lyNMM rfl rfl hl.1 rfl (lv_room (Nat.le_of_ble_eq_true rfl)) dX11_coverOf_70) hS (fun H locs hP hS => ?_)
  refine w_pc 73 rfl ?_
  refine lv_iconst (v := 0) hx hb dX11_coverOf_73 (by decide) ?_
  refine lv_istore_n (lv' := [(3, .int (0 : Int32)), (2, .int v3), (0, .ref (ad 0)), (1, .int a1)]) hx hb dX11_coverOf_74 rfl hl (by decide) rfl (fun ls hl => ?_)
  exact lp75 FU (0 : Int32) M70 ls _ _ (lv_sub hl [2, 3, 0] rfl) h hP hS
def rmX11_chainState : Room := { frames := 4, cells := 0, slots := 0, locals := 91 }
def fX11_chainState_100 (K13 : Int32 → Int32 → Mm → Option (Int32 × Mm)) (x2 : Int32) (s0 : Int32) (M : Mm) : Option (Int32 × Mm) :=
  K13 s0 (x2 + 1) M
def fX11_chainState_99 (K13 : Int32 → Int32 → Mm → Option (Int32 × Mm)) (x2 : Int32) (M : Mm) : Option (Int32 × Mm) :=
  fX11_chainState_100 K13 x2 (0 : Int32) M
def fX11_chainState_78 (K13 : Int32 → Int32 → Mm → Option (Int32 × Mm)) (x2 : Int32) (s0 : Int32) (s1 : Int32) (M : Mm) : Option (Int32 × Mm) :=
  if s1 = s0 then (grd (gin x2 4) (bn2 (fX11_coverOf x2 M) (fun v89 M89 => if (M 31 x2.toNatClampNeg) = v89 then (fX11_chainState_100 K13 x2 (1 : Int32) M89) else (fX11_chainState_99 K13 x2 M89)))) else (fX11_chainState_99 K13 x2 M)
def fX11_chainState_13 : Nat → Int32 → Int32 → Mm → Option (Int32 × Mm)
  | 0, _, _, _ => none
  | n + 1, x1, x2, M => if (M 0 38) ≤ x2 then (if x1 = 0 then (some ((2 : Int32), M)) else (bn2 (fX11_checkSignature ((2 : Int32) + (M 0 38)) M) (fun v118 M118 => if v118 = (1 : Int32) then (some ((1 : Int32), M118)) else (some ((2 : Int32), M118))))) else (grd (gin ((3 : Int32) + x2) 7) (nm (M 22 ((3 : Int32) + x2).toNatClampNeg) (fun v29 => if x1 = 0 then (fX11_chainState_99 (fX11_chainState_13 n) x2 M) else (grd (gin v29 20) (if (M 3 v29.toNatClampNeg) = 0 then (grd (gin ((3 : Int32) + x2) 7) (grd (gin (((2 : Int32) * v29) + (M 23 ((3 : Int32) + x2).toNatClampNeg)) 40) (if (M 13 (((2 : Int32) * v29) + (M 23 ((3 : Int32) + x2).toNatClampNeg)).toNatClampNeg) ≤ 0 then (fX11_chainState_99 (fX11_chainState_13 n) x2 M) else (grd (gin x2 4) (if x2 = 0 then (fX11_chainState_78 (fX11_chainState_13 n) x2 (0 : Int32) (M 30 x2.toNatClampNeg) M) else (fX11_chainState_78 (fX11_chainState_13 n) x2 (1 : Int32) (M 30 x2.toNatClampNeg) M)))))) else (fX11_chainState_99 (fX11_chainState_13 n) x2 M))))))
def fX11_chainState (M : Mm) : Option (Int32 × Mm) :=
  if (M 0 38) = 0 then (some ((0 : Int32), M)) else (fX11_chainState_13 FU (1 : Int32) (0 : Int32) M)
set_option maxRecDepth 100000 in
set_option maxHeartbeats 4000000 in
theorem kX11_chainState (l : Launch) (D : va_G) (ad : Nat → Nat) (cA : Nat → ClassId) (A : Nat → Prop) {M M1 : Mm} {r : Int32} (h : fX11_chainState M = some (r, M1)) : Met l yX11_chainState wsX11_chainState rmX11_chainState (gPc D (tyM cA) 40 (layN ad cA) ad A M [.ref (ad 0)]) (gQi D 40 (layN ad cA) ad A M1 r) 0 0 A := by
  refine Met.ofW (cc := cX11_chainState) (maxL := 4) (ret := (some .int)) (by decide) rfl ?_
  intro p e s m args below meth c s₁ B hml hv
  obtain ⟨ha, hP, hK, hD, hN⟩ := hv
  have hx := B.exec
  have hb := B.bytes
  have hr := B.returns
  have hlk := B.notSynchronized
  have hts : ∀ w ∈ lw_g, w.before args s = true := fun w h => atoms_spec (ws := wsX11_chainState) B.pre w (List.mem_cons_of_mem _ h)
  have hown : s.vm.findClass RX11 = some m.cls := findClass_of_methodNamed B.named
  have hS : va_S A s.heap s.heap [] := va_S.rf
  unfold fX11_chainState at h
  have w209 := hts _ wm765
  have w74 := hts _ wm757
  have w17 := hts _ wm730
  have w47 := hts _ wm740
  have w77 := hts _ wm758
  have w98 := hts _ wm766
  have w101 := hts _ wm767
  have lp13 : ∀ (n : Nat) (x1 : Int32) (x2 : Int32) (M : Mm) (ls : Array Slot) (H : Heap) (locs : List Loc), lv_has ls 4 [(0, .ref (ad 0)), (1, .int x1), (2, .int x2)] → fX11_chainState_13 n x1 x2 M = some (r, M1) → va_P D vwCl (gw 40 (layN ad cA) ad M) H → va_S A s.heap H locs → W p l e (headSpec wsX11_chainState rmX11_chainState).room s m args below meth c H locs 0 0 (MQ below (gQi D 40 (layN ad cA) ad A M1 r) args s 0 0 A) (F0 m 13 ls []) := by
    intro n
    induction n with
    | zero =>
      intro x1 x2 M ls H locs hl h hP hS
      rw [fX11_chainState_13] at h
      cases h
    | succ n ih13 =>
      have bk100 : ∀ (x2 : Int32) (s0 : Int32) (M : Mm) (ls : Array Slot) (H : Heap) (locs : List Loc), lv_has ls 4 [(0, .ref (ad 0)), (2, .int x2)] → fX11_chainState_100 (fX11_chainState_13 n) x2 s0 M = some (r, M1) → va_P D vwCl (gw 40 (layN ad cA) ad M) H → va_S A s.heap H locs → W p l e (headSpec wsX11_chainState rmX11_chainState).room s m args below meth c H locs 0 0 (MQ below (gQi D 40 (layN ad cA) ad A M1 r) args s 0 0 A) (F0 m 100 ls [.int s0]) := by
        intro x2 s0 M ls H locs hl h hP hS
        unfold fX11_chainState_100 at h
        refine w_pc 100 rfl ?_
        refine lv_istore_n (lv' := [(1, .int s0), (0, .ref (ad 0)), (2, .int x2)]) hx hb dX11_chainState_100 rfl hl (by decide) rfl (fun ls hl => ?_)
        refine lv_iinc (k := 2) (v := x2 + 1) (lv' := [(2, .int (x2 + 1)), (1, .int s0), (0, .ref (ad 0))]) hx hb dX11_chainState_101 hl rfl rfl (by decide) rfl (fun ls hl => ?_)
        refine lv_goto (tgt := 13) hx hb dX11_chainState_104 (by decide) ?_
        exact ih13 s0 (x2 + 1) M ls _ _ (lv_sub hl [2, 1, 0] rfl) h hP hS
      have bk99 : ∀ (x2 : Int32) (M : Mm) (ls : Array Slot) (H : Heap) (locs : List Loc), lv_has ls 4 [(0, .ref (ad 0)), (2, .int x2)] → fX11_chainState_99 (fX11_chainState_13 n) x2 M = some (r, M1) → va_P D vwCl (gw 40 (layN ad cA) ad M) H → va_S A s.heap H locs → W p l e (headSpec wsX11_chainState rmX11_chainState).room s m args below meth c H locs 0 0 (MQ below (gQi D 40 (layN ad cA) ad A M1 r) args s 0 0 A) (F0 m 99 ls []) := by
        intro x2 M ls H locs hl h hP hS
        unfold fX11_chainState_99 at h
        refine w_pc 99 rfl ?_
        refine lv_iconst (v := 0) hx hb dX11_chainState_99 (by decide) ?_
        exact bk100 x2 (0 : Int32) M ls _ _ (lv_sub hl [0, 1] rfl) h hP hS
      have bk78 : ∀ (x2 : Int32) (s0 : Int32) (s1 : Int32) (M : Mm) (ls : Array Slot) (H : Heap) (locs : List Loc), lv_has ls 4 [(0, .ref (ad 0)), (2, .int x2)] → fX11_chainState_78 (fX11_chainState_13 n) x2 s0 s1 M = some (r, M1) → va_P D vwCl (gw 40 (layN ad cA) ad M) H → va_S A s.heap H locs → W p l e (headSpec wsX11_chainState rmX11_chainState).room s m args below meth c H locs 0 0 (MQ below (gQi D 40 (layN ad cA) ad A M1 r) args s 0 0 A) (F0 m 78 ls [.int s0, .int s1]) := by
        intro x2 s0 s1 M ls H locs hl h hP hS
        unfold fX11_chainState_78 at h
        refine w_pc 78 rfl ?_
        refine w_pc 78 rfl ?_
        refine lv_icmp_ne (tgt := 99) hx hb dX11_chainState_78 (by decide) (fun q78 => ?_) (fun q78 => ?_)
        · replace h := (if_neg q78).symm.trans h
          refine w_pc 99 rfl ?_
          exact bk99 x2 M ls _ _ (lv_sub hl [0, 1] rfl) h hP hS
        · replace h := (if_pos q78).symm.trans h
          refine w_pc 81 rfl ?_
          refine lv_aload_n hx hb dX11_chainState_81 rfl (lv_at hl 0 rfl) ?_
          refine gw_get (C := RX11) (T := TX11) (N := 55) (v := .ref (ad 31)) hx hb hts hinX11 hown hK hP (by omega) lyNMM rfl 40 (by decide) w101 (fun _ h9 => h9) rfl dX11_chainState_82 ?_
          refine lv_iload_n hx hb dX11_chainState_85 rfl (lv_at hl 1 rfl) ?_
          obtain ⟨g86, h⟩ := gd_in h
          refine gw_iald hx hb hK hP 0 (by omega) lyNacovers rfl g86 dX11_chainState_86 ?_
          refine lv_aload_n hx hb dX11_chainState_87 rfl (lv_at hl 0 rfl) ?_
          refine lv_iload_n hx hb dX11_chainState_88 rfl (lv_at hl 1 rfl) ?_
          refine w_pc 89 rfl ?_
          obtain ⟨v89, M89, c89, h⟩ := bn2_some h
          refine cl_i (rn_v (As := [.int x2]) (rest := [.int (M 31 x2.toNatClampNeg)]) ⟨hx, hb, hml, hown, hts⟩ (kX11_coverOf l D ad cA A c89) ⟨callB_of 1 hts (gdc wm1072) rfl rfl rfl (hts _ wm61) (hts _ wm1069) hdX11_coverOf ⟨Nat.le_of_ble_eq_true rfl, Nat.le_of_ble_eq_true rfl⟩, hts _ wm1071, hts _ wm46⟩ hK hP hD hN (by omega) lyNMM rfl rfl hl.1 rfl (lv_room (Nat.le_of_ble_eq_true rfl)) dX11_chainState_89) hS (fun H locs hP hS => ?_)
          refine w_pc 92 rfl ?_
          refine w_pc 92 rfl ?_
          refine lv_icmp_ne (tgt := 99) hx hb dX11_chainState_92 (by decide) (fun q92 => ?_) (fun q92 => ?_)
          · replace h := (if_neg q92).symm.trans h
            refine w_pc 99 rfl ?_
            exact bk99 x2 M89 ls _ _ (lv_sub hl [0, 1] rfl) h hP hS
          · replace h := (if_pos q92).symm.trans h
            refine w_pc 95 rfl ?_
            refine lv_iconst (v := 1) hx hb dX11_chainState_95 (by decide) ?_
            refine lv_goto (tgt := 100) hx hb dX11_chainState_96 (by decide) ?_
            exact bk100 x2 (1 : Int32) M89 ls _ _ (lv_sub hl [0, 1] rfl) h hP hS
      intro x1 x2 M ls H locs hl h hP hS
      rw [fX11_chainState_13] at h
      refine w_pc 13 rfl ?_
      refine lv_iload_n hx hb dX11_chainState_13 rfl (lv_at hl 2 rfl) ?_
      refine lv_aload_n hx hb dX11_chainState_14 rfl (lv_at hl 0 rfl) ?_
      refine gw_get (C := RX11) (T := TX11) (N := 55) (v := .int (M 0 38)) hx hb hts hinX11 hown hK hP (by omega) lyNMM rfl 38 (by decide) w209 (fun _ h9 => h9) rfl dX11_chainState_15 ?_
      refine w_pc 18 rfl ?_
      refine lv_icmp_ge (tgt := 107) hx hb dX11_chainState_18 (by decide) (fun q18 => ?_) (fun q18 => ?_)
      · replace h := (if_pos q18).symm.trans h
        refine w_pc 107 rfl ?_
        refine lv_iload_n hx hb dX11_chainState_107 rfl (lv_at hl 1 rfl) ?_
        refine w_pc 108 rfl ?_
        refine lv_if_eq (tgt := 129) hx hb dX11_chainState_108 (by decide) (fun q108 => ?_) (fun q108 => ?_)
        · replace h := (if_pos q108).symm.trans h
          refine w_pc 129 rfl ?_
          refine lv_iconst (v := 2) hx hb dX11_chainState_129 (by decide) ?_
          exact re_i hx hb hr hlk h hP hS dX11_chainState_130
        · replace h := (if_neg q108).symm.trans h
          refine w_pc 111 rfl ?_
          refine lv_aload_n hx hb dX11_chainState_111 rfl (lv_at hl 0 rfl) ?_
          refine lv_iconst (v := 2) hx hb dX11_chainState_112 (by decide) ?_
          refine lv_aload_n hx hb dX11_chainState_113 rfl (lv_at hl 0 rfl) ?_
          refine gw_get (C := RX11) (T := TX11) (N := 55) (v := .int (M 0 38)) hx hb hts hinX11 hown hK hP (by omega) lyNMM rfl 38 (by decide) w209 (fun _ h9 => h9) rfl dX11_chainState_114 ?_
          refine lv_iadd hx hb dX11_chainState_117 ?_
          refine w_pc 118 rfl ?_
          obtain ⟨v118, M118, c118, h⟩ := bn2_some h
          refine cl_i (rn_v (As := [.int ((2 : Int32) + (M 0 38))]) (rest := []) ⟨hx, hb, hml, hown, hts⟩ (kX11_checkSignature l D ad cA A c118) ⟨callB_of 1 hts (gdc wm1060) rfl rfl rfl (hts _ wm61) (hts _ wm1057) hdX11_checkSignature ⟨Nat.le_of_ble_eq_true rfl, Nat.le_of_ble_eq_true rfl⟩, hts _ wm1059, hts _ wm44⟩ hK hP hD hN (by omega) lyNMM rfl rfl hl.1 rfl (lv_room (Nat.le_of_ble_eq_true rfl)) dX11_chainState_118) hS (fun H locs hP hS => ?_)
          refine w_pc 121 rfl ?_
          refine lv_iconst (v := 1) hx hb dX11_chainState_121 (by decide) ?_
          refine w_pc 122 rfl ?_
          refine lv_icmp_ne (tgt := 129) hx hb dX11_chainState_122 (by decide) (fun q122 => ?_) (fun q122 => ?_)
          · replace h := (if_neg q122).symm.trans h
            refine w_pc 129 rfl ?_
            refine lv_iconst (v := 2) hx hb dX11_chainState_129 (by decide) ?_
            exact re_i hx hb hr hlk h hP hS dX11_chainState_130
          · replace h := (if_pos q122).symm.trans h
            refine w_pc 125 rfl ?_
            refine lv_iconst (v := 1) hx hb dX11_chainState_125 (by decide) ?_
            refine lv_goto (tgt := 130) hx hb dX11_chainState_126 (by decide) ?_
            exact re_i hx hb hr hlk h hP hS dX11_chainState_130
      · replace h := (if_neg q18).symm.trans h
        refine w_pc 21 rfl ?_
        refine lv_aload_n hx hb dX11_chainState_21 rfl (lv_at hl 0 rfl) ?_
        refine gw_get (C := RX11) (T := TX11) (N := 55) (v := .ref (ad 22)) hx hb hts hinX11 hown hK hP (by omega) lyNMM rfl 30 (by decide) w74 (fun _ h9 => h9) rfl dX11_chainState_22 ?_
        refine lv_iconst (v := 3) hx hb dX11_chainState_25 (by decide) ?_
        refine lv_iload_n hx hb dX11_chainState_26 rfl (lv_at hl 2 rfl) ?_
        refine lv_iadd hx hb dX11_chainState_27 ?_
        obtain ⟨g28, h⟩ := gd_in h
        refine gw_iald hx hb hK hP 0 (by omega) lyNabyDomain rfl g28 dX11_chainState_28 ?_
        obtain ⟨v29, e29, h⟩ := nm_some h
        refine w_ti e29 ?_
        refine lv_istore_n (lv' := [(3, .int v29), (0, .ref (ad 0)), (1, .int x1), (2, .int x2)]) hx hb dX11_chainState_29 rfl hl (by decide) rfl (fun ls hl => ?_)
        refine w_pc 30 rfl ?_
        refine lv_iload_n hx hb dX11_chainState_30 rfl (lv_at hl 2 rfl) ?_
        refine w_pc 31 rfl ?_
        refine lv_if_eq (tgt := 99) hx hb dX11_chainState_31 (by decide) (fun q31 => ?_) (fun q31 => ?_)
        · replace h := (if_pos q31).symm.trans h
          refine w_pc 99 rfl ?_
          exact bk99 x2 M ls _ _ (lv_sub hl [1, 3] rfl) h hP hS
        · replace h := (if_neg q31).symm.trans h
          refine w_pc 34 rfl ?_
          refine lv_aload_n hx hb dX11_chainState_34 rfl (lv_at hl 1 rfl) ?_
          refine gw_get (C := RX11) (T := TX11) (N := 55) (v := .ref (ad 3)) hx hb hts hinX11 hown hK hP (by omega) lyNMM rfl 3 (by decide) w17 (fun _ h9 => h9) rfl dX11_chainState_35 ?_
          refine lv_iload_n hx hb dX11_chainState_38 rfl (lv_at hl 0 rfl) ?_
          obtain ⟨g39, h⟩ := gd_in h
          refine gw_zald hx hb hK hP 1 (by omega) lyNasilents rfl g39 dX11_chainState_39 ?_
          refine w_pc 40 rfl ?_
          refine lv_if_ne (tgt := 99) hx hb dX11_chainState_40 (by decide) (fun q40 => ?_) (fun q40 => ?_)
          · replace h := (if_neg q40).symm.trans h
            refine w_pc 99 rfl ?_
            exact bk99 x2 M ls _ _ (lv_sub hl [1, 3] rfl) h hP hS
          · replace h := (if_pos q40).symm.trans h
            refine w_pc 43 rfl ?_
            refine lv_aload_n hx hb dX11_chainState_43 rfl (lv_at hl 1 rfl) ?_
            refine gw_get (C := RX11) (T := TX11) (N := 55) (v := .ref (ad 13)) hx hb hts hinX11 hown hK hP (by omega) lyNMM rfl 13 (by decide) w47 (fun _ h9 => h9) rfl dX11_chainState_44 ?_
            refine lv_iconst (v := 2) hx hb dX11_chainState_47 (by decide) ?_
            refine lv_iload_n hx hb dX11_chainState_48 rfl (lv_at hl 0 rfl) ?_
            refine lv_imul hx hb dX11_chainState_49 ?_
            refine lv_aload_n hx hb dX11_chainState_50 rfl (lv_at hl 1 rfl) ?_
            refine gw_get (C := RX11) (T := TX11) (N := 55) (v := .ref (ad 23)) hx hb hts hinX11 hown hK hP (by omega) lyNMM rfl 31 (by decide) w77 (fun _ h9 => h9) rfl dX11_chainState_51 ?_
            refine w_pc 54 rfl ?_
            refine lv_iconst (v := 3) hx hb dX11_chainState_54 (by decide) ?_
            refine lv_iload_n hx hb dX11_chainState_55 rfl (lv_at hl 3 rfl) ?_
            refine lv_iadd hx hb dX11_chainState_56 ?_
            obtain ⟨g57, h⟩ := gd_in h
            refine gw_iald hx hb hK hP 0 (by omega) lyNabySelector rfl g57 dX11_chainState_57 ?_
            refine lv_iadd hx hb dX11_chainState_58 ?_
            obtain ⟨g59, h⟩ := gd_in h
            refine gw_iald hx hb hK hP 0 (by omega) lyNakeys rfl g59 dX11_chainState_59 ?_
            refine w_pc 60 rfl ?_
            refine lv_if_le (tgt := 99) hx hb dX11_chainState_60 (by decide) (fun q60 => ?_) (fun q60 => ?_)
            · replace h := (if_pos q60).symm.trans h
              refine w_pc 99 rfl ?_
              exact bk99 x2 M ls _ _ (lv_sub hl [1, 3] rfl) h hP hS
            · replace h := (if_neg q60).symm.trans h
              refine w_pc 63 rfl ?_
              refine lv_aload_n hx hb dX11_chainState_63 rfl (lv_at hl 1 rfl) ?_
              refine gw_get (C := RX11) (T := TX11) (N := 55) (v := .ref (ad 30)) hx hb hts hinX11 hown hK hP (by omega) lyNMM rfl 39 (by decide) w98 (fun _ h9 => h9) rfl dX11_chainState_64 ?_
              refine lv_iload_n hx hb dX11_chainState_67 rfl (lv_at hl 3 rfl) ?_
              obtain ⟨g68, h⟩ := gd_in h
              refine gw_iald hx hb hK hP 0 (by omega) lyNastates rfl g68 dX11_chainState_68 ?_
              refine lv_iload_n hx hb dX11_chainState_69 rfl (lv_at hl 3 rfl) ?_
              refine w_pc 70 rfl ?_
              refine lv_if_ne (tgt := 77) hx hb dX11_chainState_70 (by decide) (fun q70 => ?_) (fun q70 => ?_)
              · replace h := (if_neg q70).symm.trans h
                refine w_pc 77 rfl ?_
                refine lv_iconst (v := 1) hx hb dX11_chainState_77 (by decide) ?_
                exact bk78 x2 (1 : Int32) (M 30 x2.toNatClampNeg) M ls _ _ (lv_sub hl [1, 3] rfl) h hP hS
              · replace h := (if_pos q70).symm.trans h
                refine w_pc 73 rfl ?_
                refine lv_iconst (v := 0) hx hb dX11_chainState_73 (by decide) ?_
                refine lv_goto (tgt := 78) hx hb dX11_chainState_74 (by decide) ?_
                exact bk78 x2 (0 : Int32) (M 30 x2.toNatClampNeg) M ls _ _ (lv_sub hl [1, 3] rfl) h hP hS
  refine w_entry ha (Nat.le_of_ble_eq_true rfl) (fun ls hl => ?_)
  have hl : lv_has ls 4 [(0, .ref (ad 0))] := hl
  refine w_pc 0 rfl ?_
  refine lv_aload_n hx hb dX11_chainState_0 rfl (lv_at hl 0 rfl) ?_
  refine gw_get (C := RX11) (T := TX11) (N := 55) (v := .int (M 0 38)) hx hb hts hinX11 hown hK hP (by omega) lyNMM rfl 38 (by decide) w209 (fun _ h9 => h9) rfl dX11_chainState_1 ?_
  refine w_pc 4 rfl ?_
  refine lv_if_ne (tgt := 9) hx hb dX11_chainState_4 (by decide) (fun q4 => ?_) (fun q4 => ?_)
  · replace h := (if_neg q4).symm.trans h
    refine w_pc 9 rfl ?_
    refine lv_iconst (v := 1) hx hb dX11_chainState_9 (by decide) ?_
    refine lv_istore_n (lv' := [(1, .int (1 : Int32)), (0, .ref (ad 0))]) hx hb dX11_chainState_10 rfl hl (by decide) rfl (fun ls hl => ?_)
    refine lv_iconst (v := 0) hx hb dX11_chainState_11 (by decide) ?_
    refine lv_istore_n (lv' := [(2, .int (0 : Int32)), (1, .int (1 : Int32)), (0, .ref (ad 0))]) hx hb dX11_chainState_12 rfl hl (by decide) rfl (fun ls hl => ?_)
    exact lp13 FU (1 : Int32) (0 : Int32) M ls _ _ (lv_sub hl [2, 1, 0] rfl) h hP hS
  · replace h := (if_pos q4).symm.trans h
    refine w_pc 7 rfl ?_
    refine lv_iconst (v := 0) hx hb dX11_chainState_7 (by decide) ?_
    exact re_i hx hb hr hlk h hP hS dX11_chainState_8
def rmX11_chain : Room := { frames := 5, cells := 0, slots := 0, locals := 114 }
def fX11_chain (M : Mm) : Option (Int32 × Mm) :=
  if (M 0 19) = 0 then (some ((-1 : Int32), M)) else (bn2 (fX11_chainState M) (fun v8 M8 => some (v8, M8)))
set_option maxRecDepth 100000 in
set_option maxHeartbeats 4000000 in
theorem kX11_chain (l : Launch) (D : va_G) (ad : Nat → Nat) (cA : Nat → ClassId) (A : Nat → Prop) {M M1 : Mm} {r : Int32} (h : fX11_chain M = some (r, M1)) : Met l yX11_chain wsX11_chain rmX11_chain (gPc D (tyM cA) 40 (layN ad cA) ad A M [.ref (ad 0)]) (gQi D 40 (layN ad cA) ad A M1 r) 0 0 A := by
  refine Met.ofW (cc := cX11_chain) (maxL := 1) (ret := (some .int)) (by decide) rfl ?_
  intro p e s m args below meth c s₁ B hml hv
  obtain ⟨ha, hP, hK, hD, hN⟩ := hv
  have hx := B.exec
  have hb := B.bytes
  have hr := B.returns
  have hlk := B.notSynchronized
  have hts : ∀ w ∈ lw_g, w.before args s = true := fun w h => atoms_spec (ws := wsX11_chain) B.pre w (List.mem_cons_of_mem _ h)
  have hown : s.vm.findClass RX11 = some m.cls := findClass_of_methodNamed B.named
  have hS : va_S A s.heap s.heap [] := va_S.rf
  unfold fX11_chain at h
  have w190 := hts _ wm746
  refine w_entry ha (Nat.le_of_ble_eq_true rfl) (fun ls hl => ?_)
  have hl : lv_has ls 1 [(0, .ref (ad 0))] := hl
  refine w_pc 0 rfl ?_
  refine lv_aload_n hx hb dX11_chain_0 rfl (lv_at hl 0 rfl) ?_
  refine gw_get (C := RX11) (T := TX11) (N := 55) (v := .int (M 0 19)) hx hb hts hinX11 hown hK hP (by omega) lyNMM rfl 19 (by decide) w190 (fun _ h9 => h9) rfl dX11_chain_1 ?_
  refine w_pc 4 rfl ?_
  refine lv_if_eq (tgt := 14) hx hb dX11_chain_4 (by decide) (fun q4 => ?_) (fun q4 => ?_)
  · replace h := (if_pos q4).symm.trans h
    refine w_pc 14 rfl ?_
    refine lv_iconst (v := -1) hx hb dX11_chain_14 (by decide) ?_
    exact re_i hx hb hr hlk h hP hS dX11_chain_15
  · replace h := (if_neg q4).symm.trans h
    refine w_pc 7 rfl ?_
    refine lv_aload_n hx hb dX11_chain_7 rfl (lv_at hl 0 rfl) ?_
    refine w_pc 8 rfl ?_
    obtain ⟨v8, M8, c8, h⟩ := bn2_some h
    refine cl_i (rn_v (As := []) (rest := []) ⟨hx, hb, hml, hown, hts⟩ (kX11_chainState l D ad cA A c8) ⟨callB_of 0 hts (gdc wm1068) rfl rfl rfl (hts _ wm61) (hts _ wm1065) hdX11_chainState ⟨Nat.le_of_ble_eq_true rfl, Nat.le_of_ble_eq_true rfl⟩, hts _ wm1067, hts _ wm45⟩ hK hP hD hN (by omega) lyNMM rfl rfl hl.1 rfl (lv_room (Nat.le_of_ble_eq_true rfl)) dX11_chain_8) hS (fun H locs hP hS => ?_)
    refine w_pc 11 rfl ?_
    refine lv_goto (tgt := 15) hx hb dX11_chain_11 (by decide) ?_
    exact re_i hx hb hr hlk h hP hS dX11_chain_15
def rmX11_link : Room := { frames := 5, cells := 0, slots := 0, locals := 114 }
def fX11_link (a1 : Int32) (a2 : Int32) (M : Mm) : Option (Int32 × Mm) :=
  if (M 0 19) = 0 then (some ((-1 : Int32), M)) else (bn1 (fX11_isDomain a1 M) (fun v9 => if v9 = 0 then (some ((-1 : Int32), M)) else (if a2 < 0 then (some ((-1 : Int32), M)) else (if (1 : Int32) < a2 then (some ((-1 : Int32), M)) else (grd (gin (((2 : Int32) * a1) + a2) 40) (if (M 13 (((2 : Int32) * a1) + a2).toNatClampNeg) = 0 then (some ((-1 : Int32), M)) else (bn2 (fX11_chainState M) (fun v40 M40 => if v40 = (2 : Int32) then (some ((-1 : Int32), M40)) else (if (M40 0 38) = (4 : Int32) then (some ((-2 : Int32), M40)) else (bn1 (fX11_make ((3 : Int32) + (M40 0 38)) a1 a2 (3 : Int32) (255 : Int32) (-1 : Int32) (-1 : Int32) M40) (fun M77 => grd (gin (M77 0 38) 4) (nm (up2 M77 30 (M77 0 38).toNatClampNeg v40) (fun M89 => bn2 (fX11_coverOf (M89 0 38) M89) (fun v103 M103 => grd (gin (M89 0 38) 4) (nm (up2 M103 31 (M89 0 38).toNatClampNeg v103) (fun M106 => nm (up2 M106 0 38 ((M106 0 38) + (1 : Int32))) (fun M114 => some (((M114 0 38) - (1 : Int32)), M114))))))))))))))))))
set_option maxRecDepth 100000 in
set_option maxHeartbeats 4000000 in
theorem kX11_link (l : Launch) (D : va_G) (ad : Nat → Nat) (cA : Nat → ClassId) (A : Nat → Prop) {a1 : Int32} {a2 : Int32} {M M1 : Mm} {r : Int32} (h : fX11_link a1 a2 M = some (r, M1)) : Met l yX11_link wsX11_link rmX11_link (gPc D (tyM cA) 40 (layN ad cA) ad A M [.ref (ad 0), .int a1, .int a2]) (gQi D 40 (layN ad cA) ad A M1 r) 0 0 A := by
  refine Met.ofW (cc := cX11_link) (maxL := 4) (ret := (some .int)) (by decide) rfl ?_
  intro p e s m args below meth c s₁ B hml hv
  obtain ⟨ha, hP, hK, hD, hN⟩ := hv
  have hx := B.exec
  have hb := B.bytes
  have hr := B.returns
  have hlk := B.notSynchronized
  have hts : ∀ w ∈ lw_g, w.before args s = true := fun w h => atoms_spec (ws := wsX11_link) B.pre w (List.mem_cons_of_mem _ h)
  have hown : s.vm.findClass RX11 = some m.cls := findClass_of_methodNamed B.named
  have hS : va_S A s.heap s.heap [] := va_S.rf
  unfold fX11_link at h
  have w190 := hts _ wm746
  have w47 := hts _ wm740
  have w209 := hts _ wm765
  have w98 := hts _ wm766
  have w101 := hts _ wm767
  refine w_entry ha (Nat.le_of_ble_eq_true rfl) (fun ls hl => ?_)
  have hl : lv_has ls 4 [(0, .ref (ad 0)), (1, .int a1), (2, .int a2)] := hl
  refine w_pc 0 rfl ?_
  refine lv_aload_n hx hb dX11_link_0 rfl (lv_at hl 0 rfl) ?_
  refine gw_get (C := RX11) (T := TX11) (N := 55) (v := .int (M 0 19)) hx hb hts hinX11 hown hK hP (by omega) lyNMM rfl 19 (by decide) w190 (fun _ h9 => h9) rfl dX11_link_1 ?_
  refine w_pc 4 rfl ?_
  refine lv_if_eq (tgt := 37) hx hb dX11_link_4 (by decide) (fun q4 => ?_) (fun q4 => ?_)
  · replace h := (if_pos q4).symm.trans h
    refine w_pc 37 rfl ?_
    refine lv_iconst (v := -1) hx hb dX11_link_37 (by decide) ?_
    exact re_i hx hb hr hlk h hP hS dX11_link_38
  · replace h := (if_neg q4).symm.trans h
    refine w_pc 7 rfl ?_
    refine lv_aload_n hx hb dX11_link_7 rfl (lv_at hl 0 rfl) ?_
    refine lv_iload_n hx hb dX11_link_8 rfl (lv_at hl 1 rfl) ?_
    refine w_pc 9 rfl ?_
    obtain ⟨v9, c9, h⟩ := bn1_some h
    refine cl_i (rn_v (As := [.int a1]) (rest := []) ⟨hx, hb, hml, hown, hts⟩ (kX11_isDomain l D ad cA A c9) ⟨callB_of 1 hts (gdc wm901) rfl rfl rfl (hts _ wm61) (hts _ wm898) hdX11_isDomain ⟨Nat.le_of_ble_eq_true rfl, Nat.le_of_ble_eq_true rfl⟩, hts _ wm900, hts _ wm21⟩ hK hP hD hN (by omega) lyNMM rfl rfl hl.1 rfl (lv_room (Nat.le_of_ble_eq_true rfl)) dX11_link_9) hS (fun H locs hP hS => ?_)
    refine w_pc 12 rfl ?_
    refine w_pc 12 rfl ?_
    refine lv_if_eq (tgt := 37) hx hb dX11_link_12 (by decide) (fun q12 => ?_) (fun q12 => ?_)
    · replace h := (if_pos q12).symm.trans h
      refine w_pc 37 rfl ?_
      refine lv_iconst (v := -1) hx hb dX11_link_37 (by decide) ?_
      exact re_i hx hb hr hlk h hP hS dX11_link_38
    · replace h := (if_neg q12).symm.trans h
      refine w_pc 15 rfl ?_
      refine lv_iload_n hx hb dX11_link_15 rfl (lv_at hl 2 rfl) ?_
      refine w_pc 16 rfl ?_
      refine lv_if_lt (tgt := 37) hx hb dX11_link_16 (by decide) (fun q16 => ?_) (fun q16 => ?_)
      · replace h := (if_pos q16).symm.trans h
        refine w_pc 37 rfl ?_
        refine lv_iconst (v := -1) hx hb dX11_link_37 (by decide) ?_
        exact re_i hx hb hr hlk h hP hS dX11_link_38
      · replace h := (if_neg q16).symm.trans h
        refine w_pc 19 rfl ?_
        refine lv_iload_n hx hb dX11_link_19 rfl (lv_at hl 2 rfl) ?_
        refine lv_iconst (v := 1) hx hb dX11_link_20 (by decide) ?_
        refine w_pc 21 rfl ?_
        refine lv_icmp_gt (tgt := 37) hx hb dX11_link_21 (by decide) (fun q21 => ?_) (fun q21 => ?_)
        · replace h := (if_pos q21).symm.trans h
          refine w_pc 37 rfl ?_
          refine lv_iconst (v := -1) hx hb dX11_link_37 (by decide) ?_
          exact re_i hx hb hr hlk h hP hS dX11_link_38
        · replace h := (if_neg q21).symm.trans h
          refine w_pc 24 rfl ?_
          refine lv_aload_n hx hb dX11_link_24 rfl (lv_at hl 0 rfl) ?_
          refine gw_get (C := RX11) (T := TX11) (N := 55) (v := .ref (ad 13)) hx hb hts hinX11 hown hK hP (by omega) lyNMM rfl 13 (by decide) w47 (fun _ h9 => h9) rfl dX11_link_25 ?_
          refine lv_iconst (v := 2) hx hb dX11_link_28 (by decide) ?_
          refine lv_iload_n hx hb dX11_link_29 rfl (lv_at hl 1 rfl) ?_
          refine lv_imul hx hb dX11_link_30 ?_
          refine lv_iload_n hx hb dX11_link_31 rfl (lv_at hl 2 rfl) ?_
          refine lv_iadd hx hb dX11_link_32 ?_
          refine w_pc 33 rfl ?_
          obtain ⟨g33, h⟩ := gd_in h
          refine gw_iald hx hb hK hP 0 (by omega) lyNakeys rfl g33 dX11_link_33 ?_
          refine w_pc 34 rfl ?_
          refine lv_if_ne (tgt := 39) hx hb dX11_link_34 (by decide) (fun q34 => ?_) (fun q34 => ?_)
          · replace h := (if_neg q34).symm.trans h
            refine w_pc 39 rfl ?_
            refine lv_aload_n hx hb dX11_link_39 rfl (lv_at hl 0 rfl) ?_
            refine w_pc 40 rfl ?_
            obtain ⟨v40, M40, c40, h⟩ := bn2_some h
            refine cl_i (rn_v (As := []) (rest := []) ⟨hx, hb, hml, hown, hts⟩ (kX11_chainState l D ad cA A c40) ⟨callB_of 0 hts (gdc wm1068) rfl rfl rfl (hts _ wm61) (hts _ wm1065) hdX11_chainState ⟨Nat.le_of_ble_eq_true rfl, Nat.le_of_ble_eq_true rfl⟩, hts _ wm1067, hts _ wm45⟩ hK hP hD hN (by omega) lyNMM rfl rfl hl.1 rfl (lv_room (Nat.le_of_ble_eq_true rfl)) dX11_link_40) hS (fun H locs hP hS => ?_)
            refine w_pc 43 rfl ?_
            refine lv_istore_n (lv' := [(3, .int v40), (0, .ref (ad 0)), (1, .int a1), (2, .int a2)]) hx hb dX11_link_43 rfl hl (by decide) rfl (fun ls hl => ?_)
            refine lv_iload_n hx hb dX11_link_44 rfl (lv_at hl 0 rfl) ?_
            refine lv_iconst (v := 2) hx hb dX11_link_45 (by decide) ?_
            refine w_pc 46 rfl ?_
            refine lv_icmp_ne (tgt := 51) hx hb dX11_link_46 (by decide) (fun q46 => ?_) (fun q46 => ?_)
            · replace h := (if_neg q46).symm.trans h
              refine w_pc 51 rfl ?_
              refine lv_aload_n hx hb dX11_link_51 rfl (lv_at hl 1 rfl) ?_
              refine gw_get (C := RX11) (T := TX11) (N := 55) (v := .int (M40 0 38)) hx hb hts hinX11 hown hK hP (by omega) lyNMM rfl 38 (by decide) w209 (fun _ h9 => h9) rfl dX11_link_52 ?_
              refine lv_iconst (v := 4) hx hb dX11_link_55 (by decide) ?_
              refine w_pc 56 rfl ?_
              refine lv_icmp_ne (tgt := 62) hx hb dX11_link_56 (by decide) (fun q56 => ?_) (fun q56 => ?_)
              · replace h := (if_neg q56).symm.trans h
                refine w_pc 62 rfl ?_
                refine lv_aload_n hx hb dX11_link_62 rfl (lv_at hl 1 rfl) ?_
                refine lv_iconst (v := 3) hx hb dX11_link_63 (by decide) ?_
                refine lv_aload_n hx hb dX11_link_64 rfl (lv_at hl 1 rfl) ?_
                refine gw_get (C := RX11) (T := TX11) (N := 55) (v := .int (M40 0 38)) hx hb hts hinX11 hown hK hP (by omega) lyNMM rfl 38 (by decide) w209 (fun _ h9 => h9) rfl dX11_link_65 ?_
                refine lv_iadd hx hb dX11_link_68 ?_
                refine lv_iload_n hx hb dX11_link_69 rfl (lv_at hl 2 rfl) ?_
                refine lv_iload_n hx hb dX11_link_70 rfl (lv_at hl 3 rfl) ?_
                refine w_pc 71 rfl ?_
                refine lv_iconst (v := 3) hx hb dX11_link_71 (by decide) ?_
                refine lv_sipush (v := 255) hx hb dX11_link_72 (by decide) ?_
                refine lv_iconst (v := -1) hx hb dX11_link_75 (by decide) ?_
                refine lv_iconst (v := -1) hx hb dX11_link_76 (by decide) ?_
                refine w_pc 77 rfl ?_
                obtain ⟨M77, c77, h⟩ := bn1_some h
                refine cl_v (rn_v (As := [.int ((3 : Int32) + (M40 0 38)), .int a1, .int a2, .int (3 : Int32), .int (255 : Int32), .int (-1 : Int32), .int (-1 : Int32)]) (rest := []) ⟨hx, hb, hml, hown, hts⟩ (kX11_make l D ad cA A c77) ⟨callB_of 7 hts (gdc wm1031) rfl rfl rfl (hts _ wm61) (hts _ wm1028) hdX11_make ⟨Nat.le_of_ble_eq_true rfl, Nat.le_of_ble_eq_true rfl⟩, hts _ wm1030, hts _ wm39⟩ hK hP hD hN (by omega) lyNMM rfl rfl hl.1 rfl (lv_room (Nat.le_of_ble_eq_true rfl)) dX11_link_77) hS (fun H locs hP hS => ?_)
                refine w_pc 80 rfl ?_
                refine lv_aload_n hx hb dX11_link_80 rfl (lv_at hl 1 rfl) ?_
                refine gw_get (C := RX11) (T := TX11) (N := 55) (v := .ref (ad 30)) hx hb hts hinX11 hown hK hP (by omega) lyNMM rfl 39 (by decide) w98 (fun _ h9 => h9) rfl dX11_link_81 ?_
                refine lv_aload_n hx hb dX11_link_84 rfl (lv_at hl 1 rfl) ?_
                refine gw_get (C := RX11) (T := TX11) (N := 55) (v := .int (M77 0 38)) hx hb hts hinX11 hown hK hP (by omega) lyNMM rfl 38 (by decide) w209 (fun _ h9 => h9) rfl dX11_link_85 ?_
                refine lv_iload_n hx hb dX11_link_88 rfl (lv_at hl 0 rfl) ?_
                obtain ⟨g89, h⟩ := gd_in h
                obtain ⟨M89, eM89, h⟩ := nm_some h
                refine gw_iast hx hb hK hP hD hS 0 (by omega) lyNastates rfl g89 eM89 dX11_link_89 (fun H locs hP hS => ?_)
                refine lv_aload_n hx hb dX11_link_90 rfl (lv_at hl 1 rfl) ?_
                refine w_pc 91 rfl ?_
                refine gw_get (C := RX11) (T := TX11) (N := 55) (v := .ref (ad 31)) hx hb hts hinX11 hown hK hP (by omega) lyNMM rfl 40 (by decide) w101 (fun _ h9 => h9) rfl dX11_link_91 ?_
                refine lv_aload_n hx hb dX11_link_94 rfl (lv_at hl 1 rfl) ?_
                refine gw_get (C := RX11) (T := TX11) (N := 55) (v := .int (M89 0 38)) hx hb hts hinX11 hown hK hP (by omega) lyNMM rfl 38 (by decide) w209 (fun _ h9 => h9) rfl dX11_link_95 ?_
                refine lv_aload_n hx hb dX11_link_98 rfl (lv_at hl 1 rfl) ?_
                refine lv_aload_n hx hb dX11_link_99 rfl (lv_at hl 1 rfl) ?_
                refine gw_get (C := RX11) (T := TX11) (N := 55) (v := .int (M89 0 38)) hx hb hts hinX11 hown hK hP (by omega) lyNMM rfl 38 (by decide) w209 (fun _ h9 => h9) rfl dX11_link_100 ?_
                refine w_pc 103 rfl ?_
                obtain ⟨v103, M103, c103, h⟩ := bn2_some h
                refine cl_i (rn_v (As := [.int (M89 0 38)]) (rest := [.int (M89 0 38), .ref (ad 31)]) ⟨hx, hb, hml, hown, hts⟩ (kX11_coverOf l D ad cA A c103) ⟨callB_of 1 hts (gdc wm1072) rfl rfl rfl (hts _ wm61) (hts _ wm1069) hdX11_coverOf ⟨Nat.le_of_ble_eq_true rfl, Nat.le_of_ble_eq_true rfl⟩, hts _ wm1071, hts _ wm46⟩ hK hP hD hN (by omega) lyNMM rfl rfl hl.1 rfl (lv_room (Nat.le_of_ble_eq_true rfl)) dX11_link_103) hS (fun H locs hP hS => ?_)
                refine w_pc 106 rfl ?_
                obtain ⟨g106, h⟩ := gd_in h
                obtain ⟨M106, eM106, h⟩ := nm_some h
                refine gw_iast hx hb hK hP hD hS 0 (by omega) lyNacovers rfl g106 eM106 dX11_link_106 (fun H locs hP hS => ?_)
                refine lv_aload_n hx hb dX11_link_107 rfl (lv_at hl 1 rfl) ?_
                refine lv_dup hx hb dX11_link_108 rfl ?_
                refine gw_get (C := RX11) (T := TX11) (N := 55) (v := .int (M106 0 38)) hx hb hts hinX11 hown hK hP (by omega) lyNMM rfl 38 (by decide) w209 (fun _ h9 => h9) rfl dX11_link_109 ?_
                refine lv_iconst (v := 1) hx hb dX11_link_112 (by decide) ?_
                refine lv_iadd hx hb dX11_link_113 ?_
                obtain ⟨M114, eM114, h⟩ := nm_some h
                refine gw_put (C := RX11) (T := TX11) (N := 55) (ty := .int) hx hb hts hinX11 tyX11 tyX11_ok nmX11 hown hK hP hD hS (by omega) lyNMM rfl 38 (by decide) w209 (fun _ h9 => h9) rfl (by decide +kernel) rfl rfl (Nat.le_of_ble_eq_true rfl) rfl eM114 dX11_link_114 (fun H locs hP hS => ?_)
                refine w_pc 117 rfl ?_
                refine lv_aload_n hx hb dX11_link_117 rfl (lv_at hl 1 rfl) ?_
                refine gw_get (C := RX11) (T := TX11) (N := 55) (v := .int (M114 0 38)) hx hb hts hinX11 hown hK hP (by omega) lyNMM rfl 38 (by decide) w209 (fun _ h9 => h9) rfl dX11_link_118 ?_
                refine lv_iconst (v := 1) hx hb dX11_link_121 (by decide) ?_
                refine lv_isub hx hb dX11_link_122 ?_
                exact re_i hx hb hr hlk h hP hS dX11_link_123
              · replace h := (if_pos q56).symm.trans h
                refine w_pc 59 rfl ?_
                refine lv_bipush (v := -2) hx hb dX11_link_59 (by decide) ?_
                exact re_i hx hb hr hlk h hP hS dX11_link_61
            · replace h := (if_pos q46).symm.trans h
              refine w_pc 49 rfl ?_
              refine lv_iconst (v := -1) hx hb dX11_link_49 (by decide) ?_
              exact re_i hx hb hr hlk h hP hS dX11_link_50
          · replace h := (if_pos q34).symm.trans h
            refine w_pc 37 rfl ?_
            refine lv_iconst (v := -1) hx hb dX11_link_37 (by decide) ?_
            exact re_i hx hb hr hlk h hP hS dX11_link_38
