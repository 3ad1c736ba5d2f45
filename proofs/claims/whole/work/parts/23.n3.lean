def rmX11_header : Room := { frames := 0, cells := 0, slots := 0, locals := 0 }
def fX11_header (a1 : Int32) (M : Mm) : Option (Int32 × Mm) :=
  if (M 0 19) = 0 then (some ((-1 : Int32), M)) else (if a1 < 0 then (some ((-1 : Int32), M)) else (if a1 ≤ (7 : Int32) then (if (M 0 23) = (6 : Int32) then (some ((-2 : Int32), M)) else (grd (gin (M 0 23) 6) (nm (up2 M 18 (M 0 23).toNatClampNeg a1) (fun M40 => grd (gin (M40 0 23) 6) (nm (up2 M40 19 (M40 0 23).toNatClampNeg (0 : Int32)) (fun M50 => nm (up2 M50 0 23 ((M50 0 23) + (1 : Int32))) (fun M58 => some (((M58 0 23) - (1 : Int32)), M58)))))))) else (some ((-1 : Int32), M))))
set_option maxRecDepth 100000 in
set_option maxHeartbeats 4000000 in
theorem kX11_header (l : Launch) (D : va_G) (ad : Nat → Nat) (cA : Nat → ClassId) (A : Nat → Prop) {a1 : Int32} {M M1 : Mm} {r : Int32} (h : fX11_header a1 M = some (r, M1)) : Met l yX11_header wsX11_header rmX11_header (gPc D (tyM cA) 40 (layN ad cA) ad A M [.ref (ad 0), .int a1]) (gQi D 40 (layN ad cA) ad A M1 r) 0 0 A := by
  refine Met.ofW (cc := cX11_header) (maxL := 2) (ret := (some .int)) (by decide) rfl ?_
  intro p e s m args below meth c s₁ B hml hv
  obtain ⟨ha, hP, hK, hD, hN⟩ := hv
  have hx := B.exec
  have hb := B.bytes
  have hr := B.returns
  have hlk := B.notSynchronized
  have hts : ∀ w ∈ lw_g, w.before args s = true := fun w h => atoms_spec (ws := wsX11_header) B.pre w (List.mem_cons_of_mem _ h)
  have hown : s.vm.findClass RX11 = some m.cls := findClass_of_methodNamed B.named
  have hS : va_S A s.heap s.heap [] := va_S.rf
  unfold fX11_header at h
  have w190 := hts _ wm746
  have w200 := hts _ wm750
  have w62 := hts _ wm751
  have w65 := hts _ wm752
  refine w_entry ha (Nat.le_of_ble_eq_true rfl) (fun ls hl => ?_)
  have hl : lv_has ls 2 [(0, .ref (ad 0)), (1, .int a1)] := hl
  refine w_pc 0 rfl ?_
  refine lv_aload_n hx hb dX11_header_0 rfl (lv_at hl 0 rfl) ?_
  refine gw_get (C := RX11) (T := TX11) (N := 55) (v := .int (M 0 19)) hx hb hts hinX11 hown hK hP (by omega) lyNMM rfl 19 (by decide) w190 (fun _ h9 => h9) rfl dX11_header_1 ?_
  refine w_pc 4 rfl ?_
  refine lv_if_eq (tgt := 17) hx hb dX11_header_4 (by decide) (fun q4 => ?_) (fun q4 => ?_)
  · replace h := (if_pos q4).symm.trans h
    refine w_pc 17 rfl ?_
    refine lv_iconst (v := -1) hx hb dX11_header_17 (by decide) ?_
    exact re_i hx hb hr hlk h hP hS dX11_header_18
  · replace h := (if_neg q4).symm.trans h
    refine w_pc 7 rfl ?_
    refine lv_iload_n hx hb dX11_header_7 rfl (lv_at hl 1 rfl) ?_
    refine w_pc 8 rfl ?_
    refine lv_if_lt (tgt := 17) hx hb dX11_header_8 (by decide) (fun q8 => ?_) (fun q8 => ?_)
    · replace h := (if_pos q8).symm.trans h
      refine w_pc 17 rfl ?_
      refine lv_iconst (v := -1) hx hb dX11_header_17 (by decide) ?_
      exact re_i hx hb hr hlk h hP hS dX11_header_18
    · replace h := (if_neg q8).symm.trans h
      refine w_pc 11 rfl ?_
      refine lv_iload_n hx hb dX11_header_11 rfl (lv_at hl 1 rfl) ?_
      refine lv_bipush (v := 7) hx hb dX11_header_12 (by decide) ?_
      refine w_pc 14 rfl ?_
      refine lv_icmp_le (tgt := 19) hx hb dX11_header_14 (by decide) (fun q14 => ?_) (fun q14 => ?_)
      · replace h := (if_pos q14).symm.trans h
        refine w_pc 19 rfl ?_
        refine lv_aload_n hx hb dX11_header_19 rfl (lv_at hl 0 rfl) ?_
        refine gw_get (C := RX11) (T := TX11) (N := 55) (v := .int (M 0 23)) hx hb hts hinX11 hown hK hP (by omega) lyNMM rfl 23 (by decide) w200 (fun _ h9 => h9) rfl dX11_header_20 ?_
        refine lv_bipush (v := 6) hx hb dX11_header_23 (by decide) ?_
        refine w_pc 25 rfl ?_
        refine lv_icmp_ne (tgt := 31) hx hb dX11_header_25 (by decide) (fun q25 => ?_) (fun q25 => ?_)
        · replace h := (if_neg q25).symm.trans h
          refine w_pc 31 rfl ?_
          refine lv_aload_n hx hb dX11_header_31 rfl (lv_at hl 0 rfl) ?_
          refine gw_get (C := RX11) (T := TX11) (N := 55) (v := .ref (ad 18)) hx hb hts hinX11 hown hK hP (by omega) lyNMM rfl 24 (by decide) w62 (fun _ h9 => h9) rfl dX11_header_32 ?_
          refine lv_aload_n hx hb dX11_header_35 rfl (lv_at hl 0 rfl) ?_
          refine gw_get (C := RX11) (T := TX11) (N := 55) (v := .int (M 0 23)) hx hb hts hinX11 hown hK hP (by omega) lyNMM rfl 23 (by decide) w200 (fun _ h9 => h9) rfl dX11_header_36 ?_
          refine lv_iload_n hx hb dX11_header_39 rfl (lv_at hl 1 rfl) ?_
          obtain ⟨g40, h⟩ := gd_in h
          obtain ⟨M40, eM40, h⟩ := nm_some h
          refine gw_iast hx hb hK hP hD hS 0 (by omega) lyNanames rfl g40 eM40 dX11_header_40 (fun H locs hP hS => ?_)
          refine lv_aload_n hx hb dX11_header_41 rfl (lv_at hl 0 rfl) ?_
          refine w_pc 42 rfl ?_
          refine gw_get (C := RX11) (T := TX11) (N := 55) (v := .ref (ad 19)) hx hb hts hinX11 hown hK hP (by omega) lyNMM rfl 25 (by decide) w65 (fun _ h9 => h9) rfl dX11_header_42 ?_
          refine lv_aload_n hx hb dX11_header_45 rfl (lv_at hl 0 rfl) ?_
          refine gw_get (C := RX11) (T := TX11) (N := 55) (v := .int (M40 0 23)) hx hb hts hinX11 hown hK hP (by omega) lyNMM rfl 23 (by decide) w200 (fun _ h9 => h9) rfl dX11_header_46 ?_
          refine lv_iconst (v := 0) hx hb dX11_header_49 (by decide) ?_
          obtain ⟨g50, h⟩ := gd_in h
          obtain ⟨M50, eM50, h⟩ := nm_some h
          refine gw_iast hx hb hK hP hD hS 0 (by omega) lyNasizes rfl g50 eM50 dX11_header_50 (fun H locs hP hS => ?_)
          refine lv_aload_n hx hb dX11_header_51 rfl (lv_at hl 0 rfl) ?_
          refine lv_dup hx hb dX11_header_52 rfl ?_
          refine gw_get (C := RX11) (T := TX11) (N := 55) (v := .int (M50 0 23)) hx hb hts hinX11 hown hK hP (by omega) lyNMM rfl 23 (by decide) w200 (fun _ h9 => h9) rfl dX11_header_53 ?_
          refine w_pc 56 rfl ?_
          refine lv_iconst (v := 1) hx hb dX11_header_56 (by decide) ?_
          refine lv_iadd hx hb dX11_header_57 ?_
          obtain ⟨M58, eM58, h⟩ := nm_some h
          refine gw_put (C := RX11) (T := TX11) (N := 55) (ty := .int) hx hb hts hinX11 tyX11 tyX11_ok nmX11 hown hK hP hD hS (by omega) lyNMM rfl 23 (by decide) w200 (fun _ h9 => h9) rfl (by decide +kernel) rfl rfl (Nat.le_of_ble_eq_true rfl) rfl eM58 dX11_header_58 (fun H locs hP hS => ?_)
          refine lv_aload_n hx hb dX11_header_61 rfl (lv_at hl 0 rfl) ?_
          refine gw_get (C := RX11) (T := TX11) (N := 55) (v := .int (M58 0 23)) hx hb hts hinX11 hown hK hP (by omega) lyNMM rfl 23 (by decide) w200 (fun _ h9 => h9) rfl dX11_header_62 ?_
          refine lv_iconst (v := 1) hx hb dX11_header_65 (by decide) ?_
          refine lv_isub hx hb dX11_header_66 ?_
          exact re_i hx hb hr hlk h hP hS dX11_header_67
        · replace h := (if_pos q25).symm.trans h
          refine w_pc 28 rfl ?_
          refine lv_bipush (v := -2) hx hb dX11_header_28 (by decide) ?_
          exact re_i hx hb hr hlk h hP hS dX11_header_30
      · replace h := (if_neg q14).symm.trans h
        refine w_pc 17 rfl ?_
        refine lv_iconst (v := -1) hx hb dX11_header_17 (by decide) ?_
        exact re_i hx hb hr hlk h hP hS dX11_header_18
def rmX11_isThere : Room := { frames := 0, cells := 0, slots := 0, locals := 0 }
def fX11_isThere (a1 : Int32) (M : Mm) : Option Int32 :=
  if (M 0 19) = 0 then (some (0 : Int32)) else (if a1 < (-1 : Int32) then (some (0 : Int32)) else (if (M 0 23) ≤ a1 then (some (0 : Int32)) else (some (1 : Int32))))
set_option maxRecDepth 100000 in
set_option maxHeartbeats 4000000 in
theorem kX11_isThere (l : Launch) (D : va_G) (ad : Nat → Nat) (cA : Nat → ClassId) (A : Nat → Prop) {a1 : Int32} {M : Mm} {r : Int32} (h : fX11_isThere a1 M = some r) : Met l yX11_isThere wsX11_isThere rmX11_isThere (gPc D (tyM cA) 40 (layN ad cA) ad A M [.ref (ad 0), .int a1]) (gQi D 40 (layN ad cA) ad A M r) 0 0 A := by
  refine Met.ofW (cc := cX11_isThere) (maxL := 2) (ret := (some .boolean)) (by decide) rfl ?_
  intro p e s m args below meth c s₁ B hml hv
  obtain ⟨ha, hP, hK, hD, hN⟩ := hv
  have hx := B.exec
  have hb := B.bytes
  have hr := B.returns
  have hlk := B.notSynchronized
  have hts : ∀ w ∈ lw_g, w.before args s = true := fun w h => atoms_spec (ws := wsX11_isThere) B.pre w (List.mem_cons_of_mem _ h)
  have hown : s.vm.findClass RX11 = some m.cls := findClass_of_methodNamed B.named
  have hS : va_S A s.heap s.heap [] := va_S.rf
  unfold fX11_isThere at h
  have w190 := hts _ wm746
  have w200 := hts _ wm750
  refine w_entry ha (Nat.le_of_ble_eq_true rfl) (fun ls hl => ?_)
  have hl : lv_has ls 2 [(0, .ref (ad 0)), (1, .int a1)] := hl
  refine w_pc 0 rfl ?_
  refine lv_aload_n hx hb dX11_isThere_0 rfl (lv_at hl 0 rfl) ?_
  refine gw_get (C := RX11) (T := TX11) (N := 55) (v := .int (M 0 19)) hx hb hts hinX11 hown hK hP (by omega) lyNMM rfl 19 (by decide) w190 (fun _ h9 => h9) rfl dX11_isThere_1 ?_
  refine w_pc 4 rfl ?_
  refine lv_if_eq (tgt := 24) hx hb dX11_isThere_4 (by decide) (fun q4 => ?_) (fun q4 => ?_)
  · replace h := (if_pos q4).symm.trans h
    refine w_pc 24 rfl ?_
    refine lv_iconst (v := 0) hx hb dX11_isThere_24 (by decide) ?_
    exact re_z hx hb hr hlk (Or.inl rfl) (sm_r h) hP hS dX11_isThere_25
  · replace h := (if_neg q4).symm.trans h
    refine w_pc 7 rfl ?_
    refine lv_iload_n hx hb dX11_isThere_7 rfl (lv_at hl 1 rfl) ?_
    refine lv_iconst (v := -1) hx hb dX11_isThere_8 (by decide) ?_
    refine w_pc 9 rfl ?_
    refine lv_icmp_lt (tgt := 24) hx hb dX11_isThere_9 (by decide) (fun q9 => ?_) (fun q9 => ?_)
    · replace h := (if_pos q9).symm.trans h
      refine w_pc 24 rfl ?_
      refine lv_iconst (v := 0) hx hb dX11_isThere_24 (by decide) ?_
      exact re_z hx hb hr hlk (Or.inl rfl) (sm_r h) hP hS dX11_isThere_25
    · replace h := (if_neg q9).symm.trans h
      refine w_pc 12 rfl ?_
      refine lv_iload_n hx hb dX11_isThere_12 rfl (lv_at hl 1 rfl) ?_
      refine lv_aload_n hx hb dX11_isThere_13 rfl (lv_at hl 0 rfl) ?_
      refine gw_get (C := RX11) (T := TX11) (N := 55) (v := .int (M 0 23)) hx hb hts hinX11 hown hK hP (by omega) lyNMM rfl 23 (by decide) w200 (fun _ h9 => h9) rfl dX11_isThere_14 ?_
      refine w_pc 17 rfl ?_
      refine lv_icmp_ge (tgt := 24) hx hb dX11_isThere_17 (by decide) (fun q17 => ?_) (fun q17 => ?_)
      · replace h := (if_pos q17).symm.trans h
        refine w_pc 24 rfl ?_
        refine lv_iconst (v := 0) hx hb dX11_isThere_24 (by decide) ?_
        exact re_z hx hb hr hlk (Or.inl rfl) (sm_r h) hP hS dX11_isThere_25
      · replace h := (if_neg q17).symm.trans h
        refine w_pc 20 rfl ?_
        refine lv_iconst (v := 1) hx hb dX11_isThere_20 (by decide) ?_
        refine lv_goto (tgt := 25) hx hb dX11_isThere_21 (by decide) ?_
        exact re_z hx hb hr hlk (Or.inr rfl) (sm_r h) hP hS dX11_isThere_25
def rmX11_type : Room := { frames := 1, cells := 0, slots := 0, locals := 21 }
def fX11_type_225 (a1 : Int32) (a2 : Int64) (a4 : Int32) (K149 : Int32 → Int32 → Mm → Option (Int32 × Mm)) (x5 : Int32) (x6 : Int32) (M : Mm) : Option (Int32 × Mm) :=
  K149 x5 (x6 + (-1)) M
def fX11_type_149 (a1 : Int32) (a2 : Int64) (a4 : Int32) : Nat → Int32 → Int32 → Mm → Option (Int32 × Mm)
  | 0, _, _, _ => none
  | n + 1, x5, x6, M => if x6 < 0 then (some ((x5 + a4), M)) else (nm (((shr64 a2 ((8 : Int32) * x6)) &&& (255 : Int64)).toInt32) (fun v166 => if a1 = (-1 : Int32) then (grd (gin (M 0 27) 90) (nm (up2 M 21 (M 0 27).toNatClampNeg v166) (fun M183 => nm (up2 M183 0 27 ((M183 0 27) + (1 : Int32))) (fun M191 => fX11_type_225 a1 a2 a4 (fX11_type_149 a1 a2 a4 n) x5 x6 M191)))) else (grd (gin a1 6) (grd (gin (((24 : Int32) * a1) + (M 19 a1.toNatClampNeg)) 144) (nm (up2 M 20 (((24 : Int32) * a1) + (M 19 a1.toNatClampNeg)).toNatClampNeg v166) (fun M214 => grd (gin a1 6) (grd (gin a1 6) (nm (up2 M214 19 a1.toNatClampNeg ((M214 19 a1.toNatClampNeg) + (1 : Int32))) (fun M224 => fX11_type_225 a1 a2 a4 (fX11_type_149 a1 a2 a4 n) x5 x6 M224)))))))))
def fX11_type_137 (a1 : Int32) (a2 : Int64) (a4 : Int32) (x5 : Int32) (s0 : Int32) (s1 : Int32) (M : Mm) : Option (Int32 × Mm) :=
  if s1 ≤ s0 then (nm (a4 - (1 : Int32)) (fun v147 => fX11_type_149 a1 a2 a4 FU x5 v147 M)) else (some ((-2 : Int32), M))
def fX11_type_118 (a1 : Int32) (a2 : Int64) (a4 : Int32) (s0 : Int32) (M : Mm) : Option (Int32 × Mm) :=
  if a1 = (-1 : Int32) then (fX11_type_137 a1 a2 a4 s0 (90 : Int32) (s0 + a4) M) else (fX11_type_137 a1 a2 a4 s0 (24 : Int32) (s0 + a4) M)
def fX11_type_85 (a1 : Int32) (a2 : Int64) (a4 : Int32) (K26 : Int32 → Mm → Option (Int32 × Mm)) (x5 : Int32) (s0 : Int32) (M : Mm) : Option (Int32 × Mm) :=
  if s0 = 0 then (some ((-1 : Int32), M)) else (K26 (x5 + 1) M)
def fX11_type_84 (a1 : Int32) (a2 : Int64) (a4 : Int32) (K26 : Int32 → Mm → Option (Int32 × Mm)) (x5 : Int32) (M : Mm) : Option (Int32 × Mm) :=
  fX11_type_85 a1 a2 a4 K26 x5 (0 : Int32) M
def fX11_type_80 (a1 : Int32) (a2 : Int64) (a4 : Int32) (K26 : Int32 → Mm → Option (Int32 × Mm)) (x5 : Int32) (M : Mm) : Option (Int32 × Mm) :=
  fX11_type_85 a1 a2 a4 K26 x5 (1 : Int32) M
def fX11_type_66 (a1 : Int32) (a2 : Int64) (a4 : Int32) (K26 : Int32 → Mm → Option (Int32 × Mm)) (x5 : Int32) (x6 : Int32) (M : Mm) : Option (Int32 × Mm) :=
  if x6 < (32 : Int32) then (fX11_type_84 a1 a2 a4 K26 x5 M) else (if (126 : Int32) < x6 then (fX11_type_84 a1 a2 a4 K26 x5 M) else (fX11_type_80 a1 a2 a4 K26 x5 M))
def fX11_type_26 (a1 : Int32) (a2 : Int64) (a4 : Int32) : Nat → Int32 → Mm → Option (Int32 × Mm)
  | 0, _, _ => none
  | n + 1, x5, M => if a4 ≤ x5 then (if a1 = (-1 : Int32) then (fX11_type_118 a1 a2 a4 (M 0 27) M) else (grd (gin a1 6) (fX11_type_118 a1 a2 a4 (M 19 a1.toNatClampNeg) M))) else (nm (((shr64 a2 ((8 : Int32) * x5)) &&& (255 : Int64)).toInt32) (fun v45 => if v45 = (9 : Int32) then (fX11_type_80 a1 a2 a4 (fX11_type_26 a1 a2 a4 n) x5 M) else (if v45 = (10 : Int32) then (if a1 = (-1 : Int32) then (fX11_type_80 a1 a2 a4 (fX11_type_26 a1 a2 a4 n) x5 M) else (fX11_type_66 a1 a2 a4 (fX11_type_26 a1 a2 a4 n) x5 v45 M)) else (fX11_type_66 a1 a2 a4 (fX11_type_26 a1 a2 a4 n) x5 v45 M))))
def fX11_type (a1 : Int32) (a2 : Int64) (a4 : Int32) (M : Mm) : Option (Int32 × Mm) :=
  bn1 (fX11_isThere a1 M) (fun v2 => if v2 = 0 then (some ((-1 : Int32), M)) else (if a4 < (1 : Int32) then (some ((-1 : Int32), M)) else (if a4 ≤ (8 : Int32) then (fX11_type_26 a1 a2 a4 FU (0 : Int32) M) else (some ((-1 : Int32), M)))))
set_option maxRecDepth 100000 in
set_option maxHeartbeats 4000000 in
theorem kX11_type (l : Launch) (D : va_G) (ad : Nat → Nat) (cA : Nat → ClassId) (A : Nat → Prop) {a1 : Int32} {a2 : Int64} {a4 : Int32} {M M1 : Mm} {r : Int32} (h : fX11_type a1 a2 a4 M = some (r, M1)) : Met l yX11_type wsX11_type rmX11_type (gPc D (tyM cA) 40 (layN ad cA) ad A M [.ref (ad 0), .int a1, .long a2, .int a4]) (gQi D 40 (layN ad cA) ad A M1 r) 0 0 A := by
  refine Met.ofW (cc := cX11_type) (maxL := 8) (ret := (some .int)) (by decide) rfl ?_
  intro p e s m args below meth c s₁ B hml hv
  obtain ⟨ha, hP, hK, hD, hN⟩ := hv
  have hx := B.exec
  have hb := B.bytes
  have hr := B.returns
  have hlk := B.notSynchronized
  have hts : ∀ w ∈ lw_g, w.before args s = true := fun w h => atoms_spec (ws := wsX11_type) B.pre w (List.mem_cons_of_mem _ h)
  have hown : s.vm.findClass RX11 = some m.cls := findClass_of_methodNamed B.named
  have hS : va_S A s.heap s.heap [] := va_S.rf
  unfold fX11_type at h
  have w203 := hts _ wm754
  have w65 := hts _ wm752
  have w71 := hts _ wm755
  have w68 := hts _ wm753
  have lp149 : ∀ (n : Nat) (x5 : Int32) (x6 : Int32) (M : Mm) (ls : Array Slot) (H : Heap) (locs : List Loc), lv_has ls 8 [(0, .ref (ad 0)), (1, .int a1), (2, .long a2), (4, .int a4), (5, .int x5), (6, .int x6)] → fX11_type_149 a1 a2 a4 n x5 x6 M = some (r, M1) → va_P D vwCl (gw 40 (layN ad cA) ad M) H → va_S A s.heap H locs → W p l e (headSpec wsX11_type rmX11_type).room s m args below meth c H locs 0 0 (MQ below (gQi D 40 (layN ad cA) ad A M1 r) args s 0 0 A) (F0 m 149 ls []) := by
    intro n
    induction n with
    | zero =>
      intro x5 x6 M ls H locs hl h hP hS
      rw [fX11_type_149] at h
      cases h
    | succ n ih149 =>
      have bk225 : ∀ (x5 : Int32) (x6 : Int32) (M : Mm) (ls : Array Slot) (H : Heap) (locs : List Loc), lv_has ls 8 [(0, .ref (ad 0)), (1, .int a1), (2, .long a2), (4, .int a4), (5, .int x5), (6, .int x6)] → fX11_type_225 a1 a2 a4 (fX11_type_149 a1 a2 a4 n) x5 x6 M = some (r, M1) → va_P D vwCl (gw 40 (layN ad cA) ad M) H → va_S A s.heap H locs → W p l e (headSpec wsX11_type rmX11_type).room s m args below meth c H locs 0 0 (MQ below (gQi D 40 (layN ad cA) ad A M1 r) args s 0 0 A) (F0 m 225 ls []) := by
        intro x5 x6 M ls H locs hl h hP hS
        unfold fX11_type_225 at h
        refine w_pc 225 rfl ?_
        refine lv_iinc (k := 5) (v := x6 + (-1)) (lv' := [(6, .int (x6 + (-1))), (0, .ref (ad 0)), (1, .int a1), (2, .long a2), (4, .int a4), (5, .int x5)]) hx hb dX11_type_225 hl rfl rfl (by decide) rfl (fun ls hl => ?_)
        refine lv_goto (tgt := 149) hx hb dX11_type_228 (by decide) ?_
        exact ih149 x5 (x6 + (-1)) M ls _ _ (lv_sub hl [1, 2, 3, 4, 5, 0] rfl) h hP hS
      intro x5 x6 M ls H locs hl h hP hS
      rw [fX11_type_149] at h
      refine w_pc 149 rfl ?_
      refine lv_iload hx hb dX11_type_149 (lv_at hl 5 rfl) ?_
      refine w_pc 151 rfl ?_
      refine lv_if_lt (tgt := 231) hx hb dX11_type_151 (by decide) (fun q151 => ?_) (fun q151 => ?_)
      · replace h := (if_pos q151).symm.trans h
        refine w_pc 231 rfl ?_
        refine lv_iload hx hb dX11_type_231 (lv_at hl 4 rfl) ?_
        refine lv_iload hx hb dX11_type_233 (lv_at hl 3 rfl) ?_
        refine lv_iadd hx hb dX11_type_235 ?_
        exact re_i hx hb hr hlk h hP hS dX11_type_236
      · replace h := (if_neg q151).symm.trans h
        refine w_pc 154 rfl ?_
        refine lv_lload_n hx hb dX11_type_154 rfl (lv_at hl 2 rfl) ?_
        refine lv_bipush (v := 8) hx hb dX11_type_155 (by decide) ?_
        refine lv_iload hx hb dX11_type_157 (lv_at hl 5 rfl) ?_
        refine lv_imul hx hb dX11_type_159 ?_
        refine lv_lshr (v := shr64 a2 ((8 : Int32) * x6)) hx hb dX11_type_160 rfl ?_
        refine lv_ldc2 (v := 255) hx hb hown (hts _ wm999) dX11_type_161 ?_
        refine lv_land hx hb dX11_type_164 ?_
        refine w_pc 165 rfl ?_
        refine lv_l2i (v := ((shr64 a2 ((8 : Int32) * x6)) &&& (255 : Int64)).toInt32) hx hb dX11_type_165 rfl ?_
        obtain ⟨v166, e166, h⟩ := nm_some h
        refine w_ti e166 ?_
        refine lv_istore (lv' := [(7, .int v166), (0, .ref (ad 0)), (1, .int a1), (2, .long a2), (4, .int a4), (5, .int x5), (6, .int x6)]) hx hb dX11_type_166 hl (by decide) rfl (fun ls hl => ?_)
        refine lv_iload_n hx hb dX11_type_168 rfl (lv_at hl 2 rfl) ?_
        refine lv_iconst (v := -1) hx hb dX11_type_169 (by decide) ?_
        refine w_pc 170 rfl ?_
        refine lv_icmp_ne (tgt := 197) hx hb dX11_type_170 (by decide) (fun q170 => ?_) (fun q170 => ?_)
        · replace h := (if_neg q170).symm.trans h
          refine w_pc 197 rfl ?_
          refine lv_aload_n hx hb dX11_type_197 rfl (lv_at hl 1 rfl) ?_
          refine gw_get (C := RX11) (T := TX11) (N := 55) (v := .ref (ad 20)) hx hb hts hinX11 hown hK hP (by omega) lyNMM rfl 26 (by decide) w68 (fun _ h9 => h9) rfl dX11_type_198 ?_
          refine lv_bipush (v := 24) hx hb dX11_type_201 (by decide) ?_
          refine lv_iload_n hx hb dX11_type_203 rfl (lv_at hl 2 rfl) ?_
          refine lv_imul hx hb dX11_type_204 ?_
          refine lv_aload_n hx hb dX11_type_205 rfl (lv_at hl 1 rfl) ?_
          refine gw_get (C := RX11) (T := TX11) (N := 55) (v := .ref (ad 19)) hx hb hts hinX11 hown hK hP (by omega) lyNMM rfl 25 (by decide) w65 (fun _ h9 => h9) rfl dX11_type_206 ?_
          refine w_pc 209 rfl ?_
          refine lv_iload_n hx hb dX11_type_209 rfl (lv_at hl 2 rfl) ?_
          obtain ⟨g210, h⟩ := gd_in h
          refine gw_iald hx hb hK hP 0 (by omega) lyNasizes rfl g210 dX11_type_210 ?_
          refine lv_iadd hx hb dX11_type_211 ?_
          refine lv_iload hx hb dX11_type_212 (lv_at hl 0 rfl) ?_
          obtain ⟨g214, h⟩ := gd_in h
          obtain ⟨M214, eM214, h⟩ := nm_some h
          refine gw_iast hx hb hK hP hD hS 0 (by omega) lyNatexts rfl g214 eM214 dX11_type_214 (fun H locs hP hS => ?_)
          refine lv_aload_n hx hb dX11_type_215 rfl (lv_at hl 1 rfl) ?_
          refine gw_get (C := RX11) (T := TX11) (N := 55) (v := .ref (ad 19)) hx hb hts hinX11 hown hK hP (by omega) lyNMM rfl 25 (by decide) w65 (fun _ h9 => h9) rfl dX11_type_216 ?_
          refine lv_iload_n hx hb dX11_type_219 rfl (lv_at hl 2 rfl) ?_
          refine w_pc 220 rfl ?_
          refine lv_dup2_11 hx hb dX11_type_220 rfl rfl ?_
          obtain ⟨g221, h⟩ := gd_in h
          refine gw_iald hx hb hK hP 0 (by omega) lyNasizes rfl g221 dX11_type_221 ?_
          refine lv_iconst (v := 1) hx hb dX11_type_222 (by decide) ?_
          refine lv_iadd hx hb dX11_type_223 ?_
          obtain ⟨g224, h⟩ := gd_in h
          obtain ⟨M224, eM224, h⟩ := nm_some h
          refine gw_iast hx hb hK hP hD hS 0 (by omega) lyNasizes rfl g224 eM224 dX11_type_224 (fun H locs hP hS => ?_)
          exact bk225 x5 x6 M224 ls _ _ (lv_sub hl [1, 2, 3, 4, 5, 6] rfl) h hP hS
        · replace h := (if_pos q170).symm.trans h
          refine w_pc 173 rfl ?_
          refine lv_aload_n hx hb dX11_type_173 rfl (lv_at hl 1 rfl) ?_
          refine gw_get (C := RX11) (T := TX11) (N := 55) (v := .ref (ad 21)) hx hb hts hinX11 hown hK hP (by omega) lyNMM rfl 28 (by decide) w71 (fun _ h9 => h9) rfl dX11_type_174 ?_
          refine lv_aload_n hx hb dX11_type_177 rfl (lv_at hl 1 rfl) ?_
          refine gw_get (C := RX11) (T := TX11) (N := 55) (v := .int (M 0 27)) hx hb hts hinX11 hown hK hP (by omega) lyNMM rfl 27 (by decide) w203 (fun _ h9 => h9) rfl dX11_type_178 ?_
          refine lv_iload hx hb dX11_type_181 (lv_at hl 0 rfl) ?_
          obtain ⟨g183, h⟩ := gd_in h
          obtain ⟨M183, eM183, h⟩ := nm_some h
          refine gw_iast hx hb hK hP hD hS 0 (by omega) lyNabody rfl g183 eM183 dX11_type_183 (fun H locs hP hS => ?_)
          refine lv_aload_n hx hb dX11_type_184 rfl (lv_at hl 1 rfl) ?_
          refine w_pc 185 rfl ?_
          refine lv_dup hx hb dX11_type_185 rfl ?_
          refine gw_get (C := RX11) (T := TX11) (N := 55) (v := .int (M183 0 27)) hx hb hts hinX11 hown hK hP (by omega) lyNMM rfl 27 (by decide) w203 (fun _ h9 => h9) rfl dX11_type_186 ?_
          refine lv_iconst (v := 1) hx hb dX11_type_189 (by decide) ?_
          refine lv_iadd hx hb dX11_type_190 ?_
          obtain ⟨M191, eM191, h⟩ := nm_some h
          refine gw_put (C := RX11) (T := TX11) (N := 55) (ty := .int) hx hb hts hinX11 tyX11 tyX11_ok nmX11 hown hK hP hD hS (by omega) lyNMM rfl 27 (by decide) w203 (fun _ h9 => h9) rfl (by decide +kernel) rfl rfl (Nat.le_of_ble_eq_true rfl) rfl eM191 dX11_type_191 (fun H locs hP hS => ?_)
          refine lv_goto (tgt := 225) hx hb dX11_type_194 (by decide) ?_
          exact bk225 x5 x6 M191 ls _ _ (lv_sub hl [1, 2, 3, 4, 5, 6] rfl) h hP hS
  have bk137 : ∀ (x5 : Int32) (s0 : Int32) (s1 : Int32) (M : Mm) (ls : Array Slot) (H : Heap) (locs : List Loc), lv_has ls 8 [(0, .ref (ad 0)), (1, .int a1), (2, .long a2), (4, .int a4), (5, .int x5)] → fX11_type_137 a1 a2 a4 x5 s0 s1 M = some (r, M1) → va_P D vwCl (gw 40 (layN ad cA) ad M) H → va_S A s.heap H locs → W p l e (headSpec wsX11_type rmX11_type).room s m args below meth c H locs 0 0 (MQ below (gQi D 40 (layN ad cA) ad A M1 r) args s 0 0 A) (F0 m 137 ls [.int s0, .int s1]) := by
    intro x5 s0 s1 M ls H locs hl h hP hS
    unfold fX11_type_137 at h
    refine w_pc 137 rfl ?_
    refine w_pc 137 rfl ?_
    refine lv_icmp_le (tgt := 143) hx hb dX11_type_137 (by decide) (fun q137 => ?_) (fun q137 => ?_)
    · replace h := (if_pos q137).symm.trans h
      refine w_pc 143 rfl ?_
      refine lv_iload hx hb dX11_type_143 (lv_at hl 3 rfl) ?_
      refine lv_iconst (v := 1) hx hb dX11_type_145 (by decide) ?_
      refine lv_isub hx hb dX11_type_146 ?_
      obtain ⟨v147, e147, h⟩ := nm_some h
      refine w_ti e147 ?_
      refine lv_istore (lv' := [(6, .int v147), (0, .ref (ad 0)), (1, .int a1), (2, .long a2), (4, .int a4), (5, .int x5)]) hx hb dX11_type_147 hl (by decide) rfl (fun ls hl => ?_)
      exact lp149 FU x5 v147 M ls _ _ (lv_sub hl [1, 2, 3, 4, 5, 0] rfl) h hP hS
    · replace h := (if_neg q137).symm.trans h
      refine w_pc 140 rfl ?_
      refine lv_bipush (v := -2) hx hb dX11_type_140 (by decide) ?_
      exact re_i hx hb hr hlk h hP hS dX11_type_142
  have bk118 : ∀ (s0 : Int32) (M : Mm) (ls : Array Slot) (H : Heap) (locs : List Loc), lv_has ls 8 [(0, .ref (ad 0)), (1, .int a1), (2, .long a2), (4, .int a4)] → fX11_type_118 a1 a2 a4 s0 M = some (r, M1) → va_P D vwCl (gw 40 (layN ad cA) ad M) H → va_S A s.heap H locs → W p l e (headSpec wsX11_type rmX11_type).room s m args below meth c H locs 0 0 (MQ below (gQi D 40 (layN ad cA) ad A M1 r) args s 0 0 A) (F0 m 118 ls [.int s0]) := by
    intro s0 M ls H locs hl h hP hS
    unfold fX11_type_118 at h
    refine w_pc 118 rfl ?_
    refine lv_istore (lv' := [(5, .int s0), (0, .ref (ad 0)), (1, .int a1), (2, .long a2), (4, .int a4)]) hx hb dX11_type_118 hl (by decide) rfl (fun ls hl => ?_)
    refine lv_iload hx hb dX11_type_120 (lv_at hl 0 rfl) ?_
    refine lv_iload hx hb dX11_type_122 (lv_at hl 4 rfl) ?_
    refine lv_iadd hx hb dX11_type_124 ?_
    refine lv_iload_n hx hb dX11_type_125 rfl (lv_at hl 2 rfl) ?_
    refine lv_iconst (v := -1) hx hb dX11_type_126 (by decide) ?_
    refine w_pc 127 rfl ?_
    refine lv_icmp_ne (tgt := 135) hx hb dX11_type_127 (by decide) (fun q127 => ?_) (fun q127 => ?_)
    · replace h := (if_neg q127).symm.trans h
      refine w_pc 135 rfl ?_
      refine lv_bipush (v := 24) hx hb dX11_type_135 (by decide) ?_
      exact bk137 s0 (24 : Int32) (s0 + a4) M ls _ _ (lv_sub hl [1, 2, 3, 4, 0] rfl) h hP hS
    · replace h := (if_pos q127).symm.trans h
      refine w_pc 130 rfl ?_
      refine lv_bipush (v := 90) hx hb dX11_type_130 (by decide) ?_
      refine lv_goto (tgt := 137) hx hb dX11_type_132 (by decide) ?_
      exact bk137 s0 (90 : Int32) (s0 + a4) M ls _ _ (lv_sub hl [1, 2, 3, 4, 0] rfl) h hP hS
  have lp26 : ∀ (n : Nat) (x5 : Int32) (M : Mm) (ls : Array Slot) (H : Heap) (locs : List Loc), lv_has ls 8 [(0, .ref (ad 0)), (1, .int a1), (2, .long a2), (4, .int a4), (5, .int x5)] → fX11_type_26 a1 a2 a4 n x5 M = some (r, M1) → va_P D vwCl (gw 40 (layN ad cA) ad M) H → va_S A s.heap H locs → W p l e (headSpec wsX11_type rmX11_type).room s m args below meth c H locs 0 0 (MQ below (gQi D 40 (layN ad cA) ad A M1 r) args s 0 0 A) (F0 m 26 ls []) := by
    intro n
    induction n with
    | zero =>
      intro x5 M ls H locs hl h hP hS
      rw [fX11_type_26] at h
      cases h
    | succ n ih26 =>
      have bk85 : ∀ (x5 : Int32) (s0 : Int32) (M : Mm) (ls : Array Slot) (H : Heap) (locs : List Loc), lv_has ls 8 [(0, .ref (ad 0)), (1, .int a1), (2, .long a2), (4, .int a4), (5, .int x5)] → fX11_type_85 a1 a2 a4 (fX11_type_26 a1 a2 a4 n) x5 s0 M = some (r, M1) → va_P D vwCl (gw 40 (layN ad cA) ad M) H → va_S A s.heap H locs → W p l e (headSpec wsX11_type rmX11_type).room s m args below meth c H locs 0 0 (MQ below (gQi D 40 (layN ad cA) ad A M1 r) args s 0 0 A) (F0 m 85 ls [.int s0]) := by
        intro x5 s0 M ls H locs hl h hP hS
        unfold fX11_type_85 at h
        refine w_pc 85 rfl ?_
        refine lv_istore (lv' := [(7, .int s0), (0, .ref (ad 0)), (1, .int a1), (2, .long a2), (4, .int a4), (5, .int x5)]) hx hb dX11_type_85 hl (by decide) rfl (fun ls hl => ?_)
        refine lv_iload hx hb dX11_type_87 (lv_at hl 0 rfl) ?_
        refine w_pc 89 rfl ?_
        refine lv_if_ne (tgt := 94) hx hb dX11_type_89 (by decide) (fun q89 => ?_) (fun q89 => ?_)
        · replace h := (if_neg q89).symm.trans h
          refine w_pc 94 rfl ?_
          refine lv_iinc (k := 5) (v := x5 + 1) (lv' := [(5, .int (x5 + 1)), (7, .int s0), (0, .ref (ad 0)), (1, .int a1), (2, .long a2), (4, .int a4)]) hx hb dX11_type_94 hl rfl rfl (by decide) rfl (fun ls hl => ?_)
          refine lv_goto (tgt := 26) hx hb dX11_type_97 (by decide) ?_
          exact ih26 (x5 + 1) M ls _ _ (lv_sub hl [2, 3, 4, 5, 0] rfl) h hP hS
        · replace h := (if_pos q89).symm.trans h
          refine w_pc 92 rfl ?_
          refine lv_iconst (v := -1) hx hb dX11_type_92 (by decide) ?_
          exact re_i hx hb hr hlk h hP hS dX11_type_93
      have bk84 : ∀ (x5 : Int32) (M : Mm) (ls : Array Slot) (H : Heap) (locs : List Loc), lv_has ls 8 [(0, .ref (ad 0)), (1, .int a1), (2, .long a2), (4, .int a4), (5, .int x5)] → fX11_type_84 a1 a2 a4 (fX11_type_26 a1 a2 a4 n) x5 M = some (r, M1) → va_P D vwCl (gw 40 (layN ad cA) ad M) H → va_S A s.heap H locs → W p l e (headSpec wsX11_type rmX11_type).room s m args below meth c H locs 0 0 (MQ below (gQi D 40 (layN ad cA) ad A M1 r) args s 0 0 A) (F0 m 84 ls []) := by
        intro x5 M ls H locs hl h hP hS
        unfold fX11_type_84 at h
        refine w_pc 84 rfl ?_
        refine lv_iconst (v := 0) hx hb dX11_type_84 (by decide) ?_
        exact bk85 x5 (0 : Int32) M ls _ _ (lv_sub hl [0, 1, 2, 3, 4] rfl) h hP hS
      have bk80 : ∀ (x5 : Int32) (M : Mm) (ls : Array Slot) (H : Heap) (locs : List Loc), lv_has ls 8 [(0, .ref (ad 0)), (1, .int a1), (2, .long a2), (4, .int a4), (5, .int x5)] → fX11_type_80 a1 a2 a4 (fX11_type_26 a1 a2 a4 n) x5 M = some (r, M1) → va_P D vwCl (gw 40 (layN ad cA) ad M) H → va_S A s.heap H locs → W p l e (headSpec wsX11_type rmX11_type).room s m args below meth c H locs 0 0 (MQ below (gQi D 40 (layN ad cA) ad A M1 r) args s 0 0 A) (F0 m 80 ls []) := by
        intro x5 M ls H locs hl h hP hS
        unfold fX11_type_80 at h
        refine w_pc 80 rfl ?_
        refine lv_iconst (v := 1) hx hb dX11_type_80 (by decide) ?_
        refine lv_goto (tgt := 85) hx hb dX11_type_81 (by decide) ?_
        exact bk85 x5 (1 : Int32) M ls _ _ (lv_sub hl [0, 1, 2, 3, 4] rfl) h hP hS
      have bk66 : ∀ (x5 : Int32) (x6 : Int32) (M : Mm) (ls : Array Slot) (H : Heap) (locs : List Loc), lv_has ls 8 [(0, .ref (ad 0)), (1, .int a1), (2, .long a2), (4, .int a4), (5, .int x5), (6, .int x6)] → fX11_type_66 a1 a2 a4 (fX11_type_26 a1 a2 a4 n) x5 x6 M = some (r, M1) → va_P D vwCl (gw 40 (layN ad cA) ad M) H → va_S A s.heap H locs → W p l e (headSpec wsX11_type rmX11_type).room s m args below meth c H locs 0 0 (MQ below (gQi D 40 (layN ad cA) ad A M1 r) args s 0 0 A) (F0 m 66 ls []) := by
        intro x5 x6 M ls H locs hl h hP hS
        unfold fX11_type_66 at h
        refine w_pc 66 rfl ?_
        refine lv_iload hx hb dX11_type_66 (lv_at hl 5 rfl) ?_
        refine lv_bipush (v := 32) hx hb dX11_type_68 (by decide) ?_
        refine w_pc 70 rfl ?_
        refine lv_icmp_lt (tgt := 84) hx hb dX11_type_70 (by decide) (fun q70 => ?_) (fun q70 => ?_)
        · replace h := (if_pos q70).symm.trans h
          refine w_pc 84 rfl ?_
          exact bk84 x5 M ls _ _ (lv_sub hl [0, 1, 2, 3, 4] rfl) h hP hS
        · replace h := (if_neg q70).symm.trans h
          refine w_pc 73 rfl ?_
          refine lv_iload hx hb dX11_type_73 (lv_at hl 5 rfl) ?_
          refine lv_bipush (v := 126) hx hb dX11_type_75 (by decide) ?_
          refine w_pc 77 rfl ?_
          refine lv_icmp_gt (tgt := 84) hx hb dX11_type_77 (by decide) (fun q77 => ?_) (fun q77 => ?_)
          · replace h := (if_pos q77).symm.trans h
            refine w_pc 84 rfl ?_
            exact bk84 x5 M ls _ _ (lv_sub hl [0, 1, 2, 3, 4] rfl) h hP hS
          · replace h := (if_neg q77).symm.trans h
            refine w_pc 80 rfl ?_
            exact bk80 x5 M ls _ _ (lv_sub hl [0, 1, 2, 3, 4] rfl) h hP hS
      intro x5 M ls H locs hl h hP hS
      rw [fX11_type_26] at h
      refine w_pc 26 rfl ?_
      refine lv_iload hx hb dX11_type_26 (lv_at hl 4 rfl) ?_
      refine lv_iload hx hb dX11_type_28 (lv_at hl 3 rfl) ?_
      refine w_pc 30 rfl ?_
      refine lv_icmp_ge (tgt := 100) hx hb dX11_type_30 (by decide) (fun q30 => ?_) (fun q30 => ?_)
      · replace h := (if_pos q30).symm.trans h
        refine w_pc 100 rfl ?_
        refine lv_iload_n hx hb dX11_type_100 rfl (lv_at hl 1 rfl) ?_
        refine lv_iconst (v := -1) hx hb dX11_type_101 (by decide) ?_
        refine w_pc 102 rfl ?_
        refine lv_icmp_ne (tgt := 112) hx hb dX11_type_102 (by decide) (fun q102 => ?_) (fun q102 => ?_)
        · replace h := (if_neg q102).symm.trans h
          refine w_pc 112 rfl ?_
          refine lv_aload_n hx hb dX11_type_112 rfl (lv_at hl 0 rfl) ?_
          refine gw_get (C := RX11) (T := TX11) (N := 55) (v := .ref (ad 19)) hx hb hts hinX11 hown hK hP (by omega) lyNMM rfl 25 (by decide) w65 (fun _ h9 => h9) rfl dX11_type_113 ?_
          refine lv_iload_n hx hb dX11_type_116 rfl (lv_at hl 1 rfl) ?_
          obtain ⟨g117, h⟩ := gd_in h
          refine gw_iald hx hb hK hP 0 (by omega) lyNasizes rfl g117 dX11_type_117 ?_
          exact bk118 (M 19 a1.toNatClampNeg) M ls _ _ (lv_sub hl [0, 1, 2, 3] rfl) h hP hS
        · replace h := (if_pos q102).symm.trans h
          refine w_pc 105 rfl ?_
          refine lv_aload_n hx hb dX11_type_105 rfl (lv_at hl 0 rfl) ?_
          refine gw_get (C := RX11) (T := TX11) (N := 55) (v := .int (M 0 27)) hx hb hts hinX11 hown hK hP (by omega) lyNMM rfl 27 (by decide) w203 (fun _ h9 => h9) rfl dX11_type_106 ?_
          refine lv_goto (tgt := 118) hx hb dX11_type_109 (by decide) ?_
          exact bk118 (M 0 27) M ls _ _ (lv_sub hl [0, 1, 2, 3] rfl) h hP hS
      · replace h := (if_neg q30).symm.trans h
        refine w_pc 33 rfl ?_
        refine lv_lload_n hx hb dX11_type_33 rfl (lv_at hl 2 rfl) ?_
        refine lv_bipush (v := 8) hx hb dX11_type_34 (by decide) ?_
        refine lv_iload hx hb dX11_type_36 (lv_at hl 4 rfl) ?_
        refine lv_imul hx hb dX11_type_38 ?_
        refine lv_lshr (v := shr64 a2 ((8 : Int32) * x5)) hx hb dX11_type_39 rfl ?_
        refine lv_ldc2 (v := 255) hx hb hown (hts _ wm999) dX11_type_40 ?_
        refine lv_land hx hb dX11_type_43 ?_
        refine w_pc 44 rfl ?_
        refine lv_l2i (v := ((shr64 a2 ((8 : Int32) * x5)) &&& (255 : Int64)).toInt32) hx hb dX11_type_44 rfl ?_
        obtain ⟨v45, e45, h⟩ := nm_some h
        refine w_ti e45 ?_
        refine lv_istore (lv' := [(6, .int v45), (0, .ref (ad 0)), (1, .int a1), (2, .long a2), (4, .int a4), (5, .int x5)]) hx hb dX11_type_45 hl (by decide) rfl (fun ls hl => ?_)
        refine lv_iload hx hb dX11_type_47 (lv_at hl 0 rfl) ?_
        refine lv_bipush (v := 9) hx hb dX11_type_49 (by decide) ?_
        refine w_pc 51 rfl ?_
        refine lv_icmp_eq (tgt := 80) hx hb dX11_type_51 (by decide) (fun q51 => ?_) (fun q51 => ?_)
        · replace h := (if_pos q51).symm.trans h
          refine w_pc 80 rfl ?_
          exact bk80 x5 M ls _ _ (lv_sub hl [1, 2, 3, 4, 5] rfl) h hP hS
        · replace h := (if_neg q51).symm.trans h
          refine w_pc 54 rfl ?_
          refine lv_iload hx hb dX11_type_54 (lv_at hl 0 rfl) ?_
          refine lv_bipush (v := 10) hx hb dX11_type_56 (by decide) ?_
          refine w_pc 58 rfl ?_
          refine lv_icmp_ne (tgt := 66) hx hb dX11_type_58 (by decide) (fun q58 => ?_) (fun q58 => ?_)
          · replace h := (if_neg q58).symm.trans h
            refine w_pc 66 rfl ?_
            exact bk66 x5 v45 M ls _ _ (lv_sub hl [1, 2, 3, 4, 5, 0] rfl) h hP hS
          · replace h := (if_pos q58).symm.trans h
            refine w_pc 61 rfl ?_
            refine lv_iload_n hx hb dX11_type_61 rfl (lv_at hl 2 rfl) ?_
            refine lv_iconst (v := -1) hx hb dX11_type_62 (by decide) ?_
            refine w_pc 63 rfl ?_
            refine lv_icmp_eq (tgt := 80) hx hb dX11_type_63 (by decide) (fun q63 => ?_) (fun q63 => ?_)
            · replace h := (if_pos q63).symm.trans h
              refine w_pc 80 rfl ?_
              exact bk80 x5 M ls _ _ (lv_sub hl [1, 2, 3, 4, 5] rfl) h hP hS
            · replace h := (if_neg q63).symm.trans h
              refine w_pc 66 rfl ?_
              exact bk66 x5 v45 M ls _ _ (lv_sub hl [1, 2, 3, 4, 5, 0] rfl) h hP hS
  refine w_entry ha (Nat.le_of_ble_eq_true rfl) (fun ls hl => ?_)
  have hl : lv_has ls 8 [(0, .ref (ad 0)), (1, .int a1), (2, .long a2), (4, .int a4)] := hl
  refine w_pc 0 rfl ?_
  refine lv_aload_n hx hb dX11_type_0 rfl (lv_at hl 0 rfl) ?_
  refine lv_iload_n hx hb dX11_type_1 rfl (lv_at hl 1 rfl) ?_
  refine w_pc 2 rfl ?_
  obtain ⟨v2, c2, h⟩ := bn1_some h
  refine cl_i (rn_v (As := [.int a1]) (rest := []) ⟨hx, hb, hml, hown, hts⟩ (kX11_isThere l D ad cA A c2) ⟨callB_of 1 hts (gdc wm998) rfl rfl rfl (hts _ wm61) (hts _ wm995) hdX11_isThere ⟨Nat.le_of_ble_eq_true rfl, Nat.le_of_ble_eq_true rfl⟩, hts _ wm997, hts _ wm34⟩ hK hP hD hN (by omega) lyNMM rfl rfl hl.1 rfl (lv_room (Nat.le_of_ble_eq_true rfl)) dX11_type_2) hS (fun H locs hP hS => ?_)
  refine w_pc 5 rfl ?_
  refine w_pc 5 rfl ?_
  refine lv_if_eq (tgt := 21) hx hb dX11_type_5 (by decide) (fun q5 => ?_) (fun q5 => ?_)
  · replace h := (if_pos q5).symm.trans h
    refine w_pc 21 rfl ?_
    refine lv_iconst (v := -1) hx hb dX11_type_21 (by decide) ?_
    exact re_i hx hb hr hlk h hP hS dX11_type_22
  · replace h := (if_neg q5).symm.trans h
    refine w_pc 8 rfl ?_
    refine lv_iload hx hb dX11_type_8 (lv_at hl 3 rfl) ?_
    refine lv_iconst (v := 1) hx hb dX11_type_10 (by decide) ?_
    refine w_pc 11 rfl ?_
    refine lv_icmp_lt (tgt := 21) hx hb dX11_type_11 (by decide) (fun q11 => ?_) (fun q11 => ?_)
    · replace h := (if_pos q11).symm.trans h
      refine w_pc 21 rfl ?_
      refine lv_iconst (v := -1) hx hb dX11_type_21 (by decide) ?_
      exact re_i hx hb hr hlk h hP hS dX11_type_22
    · replace h := (if_neg q11).symm.trans h
      refine w_pc 14 rfl ?_
      refine lv_iload hx hb dX11_type_14 (lv_at hl 3 rfl) ?_
      refine lv_bipush (v := 8) hx hb dX11_type_16 (by decide) ?_
      refine w_pc 18 rfl ?_
      refine lv_icmp_le (tgt := 23) hx hb dX11_type_18 (by decide) (fun q18 => ?_) (fun q18 => ?_)
      · replace h := (if_pos q18).symm.trans h
        refine w_pc 23 rfl ?_
        refine lv_iconst (v := 0) hx hb dX11_type_23 (by decide) ?_
        refine lv_istore (lv' := [(5, .int (0 : Int32)), (0, .ref (ad 0)), (1, .int a1), (2, .long a2), (4, .int a4)]) hx hb dX11_type_24 hl (by decide) rfl (fun ls hl => ?_)
        exact lp26 FU (0 : Int32) M ls _ _ (lv_sub hl [1, 2, 3, 4, 0] rfl) h hP hS
      · replace h := (if_neg q18).symm.trans h
        refine w_pc 21 rfl ?_
        refine lv_iconst (v := -1) hx hb dX11_type_21 (by decide) ?_
        exact re_i hx hb hr hlk h hP hS dX11_type_22
def rmX11_isBlank : Room := { frames := 0, cells := 0, slots := 0, locals := 0 }
def fX11_isBlank (a0 : Int32) : Option Int32 :=
  if a0 = (9 : Int32) then (some (1 : Int32)) else (if a0 = (32 : Int32) then (some (1 : Int32)) else (some (0 : Int32)))
set_option maxRecDepth 100000 in
set_option maxHeartbeats 4000000 in
theorem kX11_isBlank (l : Launch) (D : va_G) (ad : Nat → Nat) (cA : Nat → ClassId) (A : Nat → Prop) {a0 : Int32} {M : Mm} {r : Int32} (h : fX11_isBlank a0 = some r) : Met l yX11_isBlank wsX11_isBlank rmX11_isBlank (gPc D (tyM cA) 40 (layN ad cA) ad A M [.int a0]) (gQi D 40 (layN ad cA) ad A M r) 0 0 A := by
  refine Met.ofW (cc := cX11_isBlank) (maxL := 1) (ret := (some .boolean)) (by decide) rfl ?_
  intro p e s m args below meth c s₁ B hml hv
  obtain ⟨ha, hP, hK, hD, hN⟩ := hv
  have hx := B.exec
  have hb := B.bytes
  have hr := B.returns
  have hlk := B.notSynchronized
  have hts : ∀ w ∈ lw_g, w.before args s = true := fun w h => atoms_spec (ws := wsX11_isBlank) B.pre w (List.mem_cons_of_mem _ h)
  have hown : s.vm.findClass RX11 = some m.cls := findClass_of_methodNamed B.named
  have hS : va_S A s.heap s.heap [] := va_S.rf
  unfold fX11_isBlank at h
  refine w_entry ha (Nat.le_of_ble_eq_true rfl) (fun ls hl => ?_)
  have hl : lv_has ls 1 [(0, .int a0)] := hl
  refine w_pc 0 rfl ?_
  refine lv_iload_n hx hb dX11_isBlank_0 rfl (lv_at hl 0 rfl) ?_
  refine lv_bipush (v := 9) hx hb dX11_isBlank_1 (by decide) ?_
  refine w_pc 3 rfl ?_
  refine lv_icmp_eq (tgt := 12) hx hb dX11_isBlank_3 (by decide) (fun q3 => ?_) (fun q3 => ?_)
  · replace h := (if_pos q3).symm.trans h
    refine w_pc 12 rfl ?_
    refine lv_iconst (v := 1) hx hb dX11_isBlank_12 (by decide) ?_
    refine lv_goto (tgt := 17) hx hb dX11_isBlank_13 (by decide) ?_
    exact re_z hx hb hr hlk (Or.inr rfl) (sm_r h) hP hS dX11_isBlank_17
  · replace h := (if_neg q3).symm.trans h
    refine w_pc 6 rfl ?_
    refine lv_iload_n hx hb dX11_isBlank_6 rfl (lv_at hl 0 rfl) ?_
    refine lv_bipush (v := 32) hx hb dX11_isBlank_7 (by decide) ?_
    refine w_pc 9 rfl ?_
    refine lv_icmp_ne (tgt := 16) hx hb dX11_isBlank_9 (by decide) (fun q9 => ?_) (fun q9 => ?_)
    · replace h := (if_neg q9).symm.trans h
      refine w_pc 16 rfl ?_
      refine lv_iconst (v := 0) hx hb dX11_isBlank_16 (by decide) ?_
      exact re_z hx hb hr hlk (Or.inl rfl) (sm_r h) hP hS dX11_isBlank_17
    · replace h := (if_pos q9).symm.trans h
      refine w_pc 12 rfl ?_
      refine lv_iconst (v := 1) hx hb dX11_isBlank_12 (by decide) ?_
      refine lv_goto (tgt := 17) hx hb dX11_isBlank_13 (by decide) ?_
      exact re_z hx hb hr hlk (Or.inr rfl) (sm_r h) hP hS dX11_isBlank_17
def rmX11_add : Room := { frames := 0, cells := 0, slots := 0, locals := 0 }
def fX11_add (a1 : Int32) (M : Mm) : Option Mm :=
  grd (gin (M 0 41) 92) (nm (up2 M 32 (M 0 41).toNatClampNeg a1) (fun M9 => nm (up2 M9 0 41 ((M9 0 41) + (1 : Int32))) (fun M17 => some M17)))
set_option maxRecDepth 100000 in
set_option maxHeartbeats 4000000 in
theorem kX11_add (l : Launch) (D : va_G) (ad : Nat → Nat) (cA : Nat → ClassId) (A : Nat → Prop) {a1 : Int32} {M M1 : Mm} (h : fX11_add a1 M = some M1) : Met l yX11_add wsX11_add rmX11_add (gPc D (tyM cA) 40 (layN ad cA) ad A M [.ref (ad 0), .int a1]) (gQv D 40 (layN ad cA) ad A M1) 0 0 A := by
  refine Met.ofW (cc := cX11_add) (maxL := 2) (ret := none) (by decide) rfl ?_
  intro p e s m args below meth c s₁ B hml hv
  obtain ⟨ha, hP, hK, hD, hN⟩ := hv
  have hx := B.exec
  have hb := B.bytes
  have hr := B.returns
  have hlk := B.notSynchronized
  have hts : ∀ w ∈ lw_g, w.before args s = true := fun w h => atoms_spec (ws := wsX11_add) B.pre w (List.mem_cons_of_mem _ h)
  have hown : s.vm.findClass RX11 = some m.cls := findClass_of_methodNamed B.named
  have hS : va_S A s.heap s.heap [] := va_S.rf
  unfold fX11_add at h
  have w104 := hts _ wm769
  have w217 := hts _ wm768
  refine w_entry ha (Nat.le_of_ble_eq_true rfl) (fun ls hl => ?_)
  have hl : lv_has ls 2 [(0, .ref (ad 0)), (1, .int a1)] := hl
  refine w_pc 0 rfl ?_
  refine lv_aload_n hx hb dX11_add_0 rfl (lv_at hl 0 rfl) ?_
  refine gw_get (C := RX11) (T := TX11) (N := 55) (v := .ref (ad 32)) hx hb hts hinX11 hown hK hP (by omega) lyNMM rfl 42 (by decide) w104 (fun _ h9 => h9) rfl dX11_add_1 ?_
  refine lv_aload_n hx hb dX11_add_4 rfl (lv_at hl 0 rfl) ?_
  refine gw_get (C := RX11) (T := TX11) (N := 55) (v := .int (M 0 41)) hx hb hts hinX11 hown hK hP (by omega) lyNMM rfl 41 (by decide) w217 (fun _ h9 => h9) rfl dX11_add_5 ?_
  refine lv_iload_n hx hb dX11_add_8 rfl (lv_at hl 1 rfl) ?_
  obtain ⟨g9, h⟩ := gd_in h
  obtain ⟨M9, eM9, h⟩ := nm_some h
  refine gw_iast hx hb hK hP hD hS 0 (by omega) lyNacanon rfl g9 eM9 dX11_add_9 (fun H locs hP hS => ?_)
  refine lv_aload_n hx hb dX11_add_10 rfl (lv_at hl 0 rfl) ?_
  refine w_pc 11 rfl ?_
  refine lv_dup hx hb dX11_add_11 rfl ?_
  refine gw_get (C := RX11) (T := TX11) (N := 55) (v := .int (M9 0 41)) hx hb hts hinX11 hown hK hP (by omega) lyNMM rfl 41 (by decide) w217 (fun _ h9 => h9) rfl dX11_add_12 ?_
  refine lv_iconst (v := 1) hx hb dX11_add_15 (by decide) ?_
  refine lv_iadd hx hb dX11_add_16 ?_
  obtain ⟨M17, eM17, h⟩ := nm_some h
  refine gw_put (C := RX11) (T := TX11) (N := 55) (ty := .int) hx hb hts hinX11 tyX11 tyX11_ok nmX11 hown hK hP hD hS (by omega) lyNMM rfl 41 (by decide) w217 (fun _ h9 => h9) rfl (by decide +kernel) rfl rfl (Nat.le_of_ble_eq_true rfl) rfl eM17 dX11_add_17 (fun H locs hP hS => ?_)
  exact re_v hx hb hr hlk h hP hS dX11_add_20
def rmX11_makeBody : Room := { frames := 1, cells := 0, slots := 0, locals := 21 }
def fX11_makeBody_109 (a1 : Int32) (M : Mm) : Option Mm :=
  bn1 (fX11_add (10 : Int32) M) (fun M112 => some M112)
def fX11_makeBody_73 (a1 : Int32) : Nat → Mm → Option Mm
  | 0, _ => none
  | n + 1, M => if (M 0 41) ≤ 0 then (fX11_makeBody_109 a1 M) else (grd (gin ((M 0 41) - (1 : Int32)) 92) (if (M 32 ((M 0 41) - (1 : Int32)).toNatClampNeg) = (10 : Int32) then (nm (up2 M 0 41 ((M 0 41) - (1 : Int32))) (fun M103 => (fX11_makeBody_73 a1 n) M103)) else (fX11_makeBody_109 a1 M)))
def fX11_makeBody_67 (a1 : Int32) (K9 : Int32 → Int32 → Mm → Option Mm) (x2 : Int32) (x3 : Int32) (M : Mm) : Option Mm :=
  K9 x2 (x3 + 1) M
def fX11_makeBody_59 (a1 : Int32) (K9 : Int32 → Int32 → Mm → Option Mm) (x3 : Int32) (x4 : Int32) (M : Mm) : Option Mm :=
  bn1 (fX11_add x4 M) (fun M64 => fX11_makeBody_67 a1 K9 (0 : Int32) x3 M64)
def fX11_makeBody_42 (a1 : Int32) (K9 : Int32 → Int32 → Mm → Option Mm) (x2 : Int32) (x3 : Int32) (x4 : Int32) (M : Mm) : Option Mm :=
  if x2 = 0 then (fX11_makeBody_59 a1 K9 x3 x4 M) else (if x4 = (10 : Int32) then (fX11_makeBody_59 a1 K9 x3 x4 M) else (bn1 (fX11_add (32 : Int32) M) (fun M56 => fX11_makeBody_59 a1 K9 x3 x4 M56)))
def fX11_makeBody_9 (a1 : Int32) : Nat → Int32 → Int32 → Mm → Option Mm
  | 0, _, _, _ => none
  | n + 1, x2, x3, M => if (M 0 27) ≤ x3 then (fX11_makeBody_73 a1 FU M) else (grd (gin x3 90) (nm (M 21 x3.toNatClampNeg) (fun v23 => if a1 = 0 then (fX11_makeBody_42 a1 (fX11_makeBody_9 a1 n) x2 x3 v23 M) else (bn1 (fX11_isBlank v23) (fun v31 => if v31 = 0 then (fX11_makeBody_42 a1 (fX11_makeBody_9 a1 n) x2 x3 v23 M) else (fX11_makeBody_67 a1 (fX11_makeBody_9 a1 n) (1 : Int32) x3 M))))))
def fX11_makeBody (a1 : Int32) (M : Mm) : Option Mm :=
  nm (up2 M 0 41 (0 : Int32)) (fun M2 => fX11_makeBody_9 a1 FU (0 : Int32) (0 : Int32) M2)
set_option maxRecDepth 100000 in
set_option maxHeartbeats 4000000 in
theorem kX11_makeBody (l : Launch) (D : va_G) (ad : Nat → Nat) (cA : Nat → ClassId) (A : Nat → Prop) {a1 : Int32} {M M1 : Mm} (h : fX11_makeBody a1 M = some M1) : Met l yX11_makeBody wsX11_makeBody rmX11_makeBody (gPc D (tyM cA) 40 (layN ad cA) ad A M [.ref (ad 0), .int a1]) (gQv D 40 (layN ad cA) ad A M1) 0 0 A := by
  refine Met.ofW (cc := cX11_makeBody) (maxL := 5) (ret := none) (by decide) rfl ?_
  intro p e s m args below meth c s₁ B hml hv
  obtain ⟨ha, hP, hK, hD, hN⟩ := hv
  have hx := B.exec
  have hb := B.bytes
  have hr := B.returns
  have hlk := B.notSynchronized
  have hts : ∀ w ∈ lw_g, w.before args s = true := fun w h => atoms_spec (ws := wsX11_makeBody) B.pre w (List.mem_cons_of_mem _ h)
  have hown : s.vm.findClass RX11 = some m.cls := findClass_of_methodNamed B.named
  have hS : va_S A s.heap s.heap [] := va_S.rf
  unfold fX11_makeBody at h
  have w217 := hts _ wm768
  have w203 := hts _ wm754
  have w71 := hts _ wm755
  have w104 := hts _ wm769
  have bk109 : ∀ (M : Mm) (ls : Array Slot) (H : Heap) (locs : List Loc), lv_has ls 5 [(0, .ref (ad 0))] → fX11_makeBody_109 a1 M = some M1 → va_P D vwCl (gw 40 (layN ad cA) ad M) H → va_S A s.heap H locs → W p l e (headSpec wsX11_makeBody rmX11_makeBody).room s m args below meth c H locs 0 0 (MQ below (gQv D 40 (layN ad cA) ad A M1) args s 0 0 A) (F0 m 109 ls []) := by
    intro M ls H locs hl h hP hS
    unfold fX11_makeBody_109 at h
    refine w_pc 109 rfl ?_
    refine lv_aload_n hx hb dX11_makeBody_109 rfl (lv_at hl 0 rfl) ?_
    refine lv_bipush (v := 10) hx hb dX11_makeBody_110 (by decide) ?_
    refine w_pc 112 rfl ?_
    obtain ⟨M112, c112, h⟩ := bn1_some h
    refine cl_v (rn_v (As := [.int (10 : Int32)]) (rest := []) ⟨hx, hb, hml, hown, hts⟩ (kX11_add l D ad cA A c112) ⟨callB_of 1 hts (gdc wm1014) rfl rfl rfl (hts _ wm61) (hts _ wm1011) hdX11_add ⟨Nat.le_of_ble_eq_true rfl, Nat.le_of_ble_eq_true rfl⟩, hts _ wm1013, hts _ wm36⟩ hK hP hD hN (by omega) lyNMM rfl rfl hl.1 rfl (lv_room (Nat.le_of_ble_eq_true rfl)) dX11_makeBody_112) hS (fun H locs hP hS => ?_)
    refine w_pc 115 rfl ?_
    exact re_v hx hb hr hlk h hP hS dX11_makeBody_115
  have lp73 : ∀ (n : Nat) (M : Mm) (ls : Array Slot) (H : Heap) (locs : List Loc), lv_has ls 5 [(0, .ref (ad 0))] → fX11_makeBody_73 a1 n M = some M1 → va_P D vwCl (gw 40 (layN ad cA) ad M) H → va_S A s.heap H locs → W p l e (headSpec wsX11_makeBody rmX11_makeBody).room s m args below meth c H locs 0 0 (MQ below (gQv D 40 (layN ad cA) ad A M1) args s 0 0 A) (F0 m 73 ls []) := by
    intro n
    induction n with
    | zero =>
      intro M ls H locs hl h hP hS
      rw [fX11_makeBody_73] at h
      cases h
    | succ n ih73 =>
      intro M ls H locs hl h hP hS
      rw [fX11_makeBody_73] at h
      refine w_pc 73 rfl ?_
      refine lv_aload_n hx hb dX11_makeBody_73 rfl (lv_at hl 0 rfl) ?_
      refine gw_get (C := RX11) (T := TX11) (N := 55) (v := .int (M 0 41)) hx hb hts hinX11 hown hK hP (by omega) lyNMM rfl 41 (by decide) w217 (fun _ h9 => h9) rfl dX11_makeBody_74 ?_
      refine w_pc 77 rfl ?_
      refine lv_if_le (tgt := 109) hx hb dX11_makeBody_77 (by decide) (fun q77 => ?_) (fun q77 => ?_)
      · replace h := (if_pos q77).symm.trans h
        refine w_pc 109 rfl ?_
        exact bk109 M ls _ _ (lv_sub hl [0] rfl) h hP hS
      · replace h := (if_neg q77).symm.trans h
        refine w_pc 80 rfl ?_
        refine lv_aload_n hx hb dX11_makeBody_80 rfl (lv_at hl 0 rfl) ?_
        refine gw_get (C := RX11) (T := TX11) (N := 55) (v := .ref (ad 32)) hx hb hts hinX11 hown hK hP (by omega) lyNMM rfl 42 (by decide) w104 (fun _ h9 => h9) rfl dX11_makeBody_81 ?_
        refine lv_aload_n hx hb dX11_makeBody_84 rfl (lv_at hl 0 rfl) ?_
        refine gw_get (C := RX11) (T := TX11) (N := 55) (v := .int (M 0 41)) hx hb hts hinX11 hown hK hP (by omega) lyNMM rfl 41 (by decide) w217 (fun _ h9 => h9) rfl dX11_makeBody_85 ?_
        refine lv_iconst (v := 1) hx hb dX11_makeBody_88 (by decide) ?_
        refine lv_isub hx hb dX11_makeBody_89 ?_
        obtain ⟨g90, h⟩ := gd_in h
        refine gw_iald hx hb hK hP 0 (by omega) lyNacanon rfl g90 dX11_makeBody_90 ?_
        refine w_pc 91 rfl ?_
        refine lv_bipush (v := 10) hx hb dX11_makeBody_91 (by decide) ?_
        refine w_pc 93 rfl ?_
        refine lv_icmp_ne (tgt := 109) hx hb dX11_makeBody_93 (by decide) (fun q93 => ?_) (fun q93 => ?_)
        · replace h := (if_neg q93).symm.trans h
          refine w_pc 109 rfl ?_
          exact bk109 M ls _ _ (lv_sub hl [0] rfl) h hP hS
        · replace h := (if_pos q93).symm.trans h
          refine w_pc 96 rfl ?_
          refine lv_aload_n hx hb dX11_makeBody_96 rfl (lv_at hl 0 rfl) ?_
          refine lv_dup hx hb dX11_makeBody_97 rfl ?_
          refine gw_get (C := RX11) (T := TX11) (N := 55) (v := .int (M 0 41)) hx hb hts hinX11 hown hK hP (by omega) lyNMM rfl 41 (by decide) w217 (fun _ h9 => h9) rfl dX11_makeBody_98 ?_
          refine lv_iconst (v := 1) hx hb dX11_makeBody_101 (by decide) ?_
          refine lv_isub hx hb dX11_makeBody_102 ?_
          obtain ⟨M103, eM103, h⟩ := nm_some h
          refine gw_put (C := RX11) (T := TX11) (N := 55) (ty := .int) hx hb hts hinX11 tyX11 tyX11_ok nmX11 hown hK hP hD hS (by omega) lyNMM rfl 41 (by decide) w217 (fun _ h9 => h9) rfl (by decide +kernel) rfl rfl (Nat.le_of_ble_eq_true rfl) rfl eM103 dX11_makeBody_103 (fun H locs hP hS => ?_)
          refine lv_goto (tgt := 73) hx hb dX11_makeBody_106 (by decide) ?_
          exact ih73 M103 ls _ _ (lv_sub hl [0] rfl) h hP hS
  have lp9 : ∀ (n : Nat) (x2 : Int32) (x3 : Int32) (M : Mm) (ls : Array Slot) (H : Heap) (locs : List Loc), lv_has ls 5 [(0, .ref (ad 0)), (1, .int a1), (2, .int x2), (3, .int x3)] → fX11_makeBody_9 a1 n x2 x3 M = some M1 → va_P D vwCl (gw 40 (layN ad cA) ad M) H → va_S A s.heap H locs → W p l e (headSpec wsX11_makeBody rmX11_makeBody).room s m args below meth c H locs 0 0 (MQ below (gQv D 40 (layN ad cA) ad A M1) args s 0 0 A) (F0 m 9 ls []) := by
    intro n
    induction n with
    | zero =>
      intro x2 x3 M ls H locs hl h hP hS
      rw [fX11_makeBody_9] at h
      cases h
    | succ n ih9 =>
      have bk67 : ∀ (x2 : Int32) (x3 : Int32) (M : Mm) (ls : Array Slot) (H : Heap) (locs : List Loc), lv_has ls 5 [(0, .ref (ad 0)), (1, .int a1), (2, .int x2), (3, .int x3)] → fX11_makeBody_67 a1 (fX11_makeBody_9 a1 n) x2 x3 M = some M1 → va_P D vwCl (gw 40 (layN ad cA) ad M) H → va_S A s.heap H locs → W p l e (headSpec wsX11_makeBody rmX11_makeBody).room s m args below meth c H locs 0 0 (MQ below (gQv D 40 (layN ad cA) ad A M1) args s 0 0 A) (F0 m 67 ls []) := by
        intro x2 x3 M ls H locs hl h hP hS
        unfold fX11_makeBody_67 at h
        refine w_pc 67 rfl ?_
        refine lv_iinc (k := 3) (v := x3 + 1) (lv' := [(3, .int (x3 + 1)), (0, .ref (ad 0)), (1, .int a1), (2, .int x2)]) hx hb dX11_makeBody_67 hl rfl rfl (by decide) rfl (fun ls hl => ?_)
        refine lv_goto (tgt := 9) hx hb dX11_makeBody_70 (by decide) ?_
        exact ih9 x2 (x3 + 1) M ls _ _ (lv_sub hl [1, 2, 3, 0] rfl) h hP hS
      have bk59 : ∀ (x3 : Int32) (x4 : Int32) (M : Mm) (ls : Array Slot) (H : Heap) (locs : List Loc), lv_has ls 5 [(0, .ref (ad 0)), (1, .int a1), (3, .int x3), (4, .int x4)] → fX11_makeBody_59 a1 (fX11_makeBody_9 a1 n) x3 x4 M = some M1 → va_P D vwCl (gw 40 (layN ad cA) ad M) H → va_S A s.heap H locs → W p l e (headSpec wsX11_makeBody rmX11_makeBody).room s m args below meth c H locs 0 0 (MQ below (gQv D 40 (layN ad cA) ad A M1) args s 0 0 A) (F0 m 59 ls []) := by
        intro x3 x4 M ls H locs hl h hP hS
        unfold fX11_makeBody_59 at h
        refine w_pc 59 rfl ?_
        refine lv_iconst (v := 0) hx hb dX11_makeBody_59 (by decide) ?_
        refine lv_istore_n (lv' := [(2, .int (0 : Int32)), (0, .ref (ad 0)), (1, .int a1), (3, .int x3), (4, .int x4)]) hx hb dX11_makeBody_60 rfl hl (by decide) rfl (fun ls hl => ?_)
        refine lv_aload_n hx hb dX11_makeBody_61 rfl (lv_at hl 1 rfl) ?_
        refine lv_iload hx hb dX11_makeBody_62 (lv_at hl 4 rfl) ?_
        refine w_pc 64 rfl ?_
        obtain ⟨M64, c64, h⟩ := bn1_some h
        refine cl_v (rn_v (As := [.int x4]) (rest := []) ⟨hx, hb, hml, hown, hts⟩ (kX11_add l D ad cA A c64) ⟨callB_of 1 hts (gdc wm1014) rfl rfl rfl (hts _ wm61) (hts _ wm1011) hdX11_add ⟨Nat.le_of_ble_eq_true rfl, Nat.le_of_ble_eq_true rfl⟩, hts _ wm1013, hts _ wm36⟩ hK hP hD hN (by omega) lyNMM rfl rfl hl.1 rfl (lv_room (Nat.le_of_ble_eq_true rfl)) dX11_makeBody_64) hS (fun H locs hP hS => ?_)
        refine w_pc 67 rfl ?_
        exact bk67 (0 : Int32) x3 M64 ls _ _ (lv_sub hl [1, 2, 0, 3] rfl) h hP hS
      have bk42 : ∀ (x2 : Int32) (x3 : Int32) (x4 : Int32) (M : Mm) (ls : Array Slot) (H : Heap) (locs : List Loc), lv_has ls 5 [(0, .ref (ad 0)), (1, .int a1), (2, .int x2), (3, .int x3), (4, .int x4)] → fX11_makeBody_42 a1 (fX11_makeBody_9 a1 n) x2 x3 x4 M = some M1 → va_P D vwCl (gw 40 (layN ad cA) ad M) H → va_S A s.heap H locs → W p l e (headSpec wsX11_makeBody rmX11_makeBody).room s m args below meth c H locs 0 0 (MQ below (gQv D 40 (layN ad cA) ad A M1) args s 0 0 A) (F0 m 42 ls []) := by
        intro x2 x3 x4 M ls H locs hl h hP hS
        unfold fX11_makeBody_42 at h
        refine w_pc 42 rfl ?_
        refine lv_iload_n hx hb dX11_makeBody_42 rfl (lv_at hl 2 rfl) ?_
        refine w_pc 43 rfl ?_
        refine lv_if_eq (tgt := 59) hx hb dX11_makeBody_43 (by decide) (fun q43 => ?_) (fun q43 => ?_)
        · replace h := (if_pos q43).symm.trans h
          refine w_pc 59 rfl ?_
          exact bk59 x3 x4 M ls _ _ (lv_sub hl [0, 1, 3, 4] rfl) h hP hS
        · replace h := (if_neg q43).symm.trans h
          refine w_pc 46 rfl ?_
          refine lv_iload hx hb dX11_makeBody_46 (lv_at hl 4 rfl) ?_
          refine lv_bipush (v := 10) hx hb dX11_makeBody_48 (by decide) ?_
          refine w_pc 50 rfl ?_
          refine lv_icmp_eq (tgt := 59) hx hb dX11_makeBody_50 (by decide) (fun q50 => ?_) (fun q50 => ?_)
          · replace h := (if_pos q50).symm.trans h
            refine w_pc 59 rfl ?_
            exact bk59 x3 x4 M ls _ _ (lv_sub hl [0, 1, 3, 4] rfl) h hP hS
          · replace h := (if_neg q50).symm.trans h
            refine w_pc 53 rfl ?_
            refine lv_aload_n hx hb dX11_makeBody_53 rfl (lv_at hl 0 rfl) ?_
            refine lv_bipush (v := 32) hx hb dX11_makeBody_54 (by decide) ?_
            refine w_pc 56 rfl ?_
            obtain ⟨M56, c56, h⟩ := bn1_some h
            refine cl_v (rn_v (As := [.int (32 : Int32)]) (rest := []) ⟨hx, hb, hml, hown, hts⟩ (kX11_add l D ad cA A c56) ⟨callB_of 1 hts (gdc wm1014) rfl rfl rfl (hts _ wm61) (hts _ wm1011) hdX11_add ⟨Nat.le_of_ble_eq_true rfl, Nat.le_of_ble_eq_true rfl⟩, hts _ wm1013, hts _ wm36⟩ hK hP hD hN (by omega) lyNMM rfl rfl hl.1 rfl (lv_room (Nat.le_of_ble_eq_true rfl)) dX11_makeBody_56) hS (fun H locs hP hS => ?_)
            refine w_pc 59 rfl ?_
            exact bk59 x3 x4 M56 ls _ _ (lv_sub hl [0, 1, 3, 4] rfl) h hP hS
      intro x2 x3 M ls H locs hl h hP hS
      rw [fX11_makeBody_9] at h
      refine w_pc 9 rfl ?_
      refine lv_iload_n hx hb dX11_makeBody_9 rfl (lv_at hl 3 rfl) ?_
      refine lv_aload_n hx hb dX11_makeBody_10 rfl (lv_at hl 0 rfl) ?_
      refine gw_get (C := RX11) (T := TX11) (N := 55) (v := .int (M 0 27)) hx hb hts hinX11 hown hK hP (by omega) lyNMM rfl 27 (by decide) w203 (fun _ h9 => h9) rfl dX11_makeBody_11 ?_
      refine w_pc 14 rfl ?_
      refine lv_icmp_ge (tgt := 73) hx hb dX11_makeBody_14 (by decide) (fun q14 => ?_) (fun q14 => ?_)
      · replace h := (if_pos q14).symm.trans h
        refine w_pc 73 rfl ?_
        exact lp73 FU M ls _ _ (lv_sub hl [0] rfl) h hP hS
      · replace h := (if_neg q14).symm.trans h
        refine w_pc 17 rfl ?_
        refine lv_aload_n hx hb dX11_makeBody_17 rfl (lv_at hl 0 rfl) ?_
        refine gw_get (C := RX11) (T := TX11) (N := 55) (v := .ref (ad 21)) hx hb hts hinX11 hown hK hP (by omega) lyNMM rfl 28 (by decide) w71 (fun _ h9 => h9) rfl dX11_makeBody_18 ?_
        refine lv_iload_n hx hb dX11_makeBody_21 rfl (lv_at hl 3 rfl) ?_
        obtain ⟨g22, h⟩ := gd_in h
        refine gw_iald hx hb hK hP 0 (by omega) lyNabody rfl g22 dX11_makeBody_22 ?_
        obtain ⟨v23, e23, h⟩ := nm_some h
        refine w_ti e23 ?_
        refine lv_istore (lv' := [(4, .int v23), (0, .ref (ad 0)), (1, .int a1), (2, .int x2), (3, .int x3)]) hx hb dX11_makeBody_23 hl (by decide) rfl (fun ls hl => ?_)
        refine lv_iload_n hx hb dX11_makeBody_25 rfl (lv_at hl 2 rfl) ?_
        refine w_pc 26 rfl ?_
        refine lv_if_eq (tgt := 42) hx hb dX11_makeBody_26 (by decide) (fun q26 => ?_) (fun q26 => ?_)
        · replace h := (if_pos q26).symm.trans h
          refine w_pc 42 rfl ?_
          exact bk42 x2 x3 v23 M ls _ _ (lv_sub hl [1, 2, 3, 4, 0] rfl) h hP hS
        · replace h := (if_neg q26).symm.trans h
          refine w_pc 29 rfl ?_
          refine lv_iload hx hb dX11_makeBody_29 (lv_at hl 0 rfl) ?_
          refine w_pc 31 rfl ?_
          obtain ⟨v31, c31, h⟩ := bn1_some h
          refine cl_i (rn_s (As := [.int v23]) (rest := []) ⟨hx, hb, hml, hown, hts⟩ (kX11_isBlank l D ad cA A (M := M) c31) ⟨callB_of 1 hts (gdc wm1010) rfl rfl rfl (hts _ wm61) (hts _ wm1008) hdX11_isBlank ⟨Nat.le_of_ble_eq_true rfl, Nat.le_of_ble_eq_true rfl⟩, hts _ wm1009⟩ hK hP hD hN rfl hl.1 rfl (lv_room (Nat.le_of_ble_eq_true rfl)) dX11_makeBody_31) hS (fun H locs hP hS => ?_)
          refine w_pc 34 rfl ?_
          refine w_pc 34 rfl ?_
          refine lv_if_eq (tgt := 42) hx hb dX11_makeBody_34 (by decide) (fun q34 => ?_) (fun q34 => ?_)
          · replace h := (if_pos q34).symm.trans h
            refine w_pc 42 rfl ?_
            exact bk42 x2 x3 v23 M ls _ _ (lv_sub hl [1, 2, 3, 4, 0] rfl) h hP hS
          · replace h := (if_neg q34).symm.trans h
            refine w_pc 37 rfl ?_
            refine lv_iconst (v := 1) hx hb dX11_makeBody_37 (by decide) ?_
            refine lv_istore_n (lv' := [(2, .int (1 : Int32)), (4, .int v23), (0, .ref (ad 0)), (1, .int a1), (3, .int x3)]) hx hb dX11_makeBody_38 rfl hl (by decide) rfl (fun ls hl => ?_)
            refine lv_goto (tgt := 67) hx hb dX11_makeBody_39 (by decide) ?_
            exact bk67 (1 : Int32) x3 M ls _ _ (lv_sub hl [2, 3, 0, 4] rfl) h hP hS
  refine w_entry ha (Nat.le_of_ble_eq_true rfl) (fun ls hl => ?_)
  have hl : lv_has ls 5 [(0, .ref (ad 0)), (1, .int a1)] := hl
  refine w_pc 0 rfl ?_
  refine lv_aload_n hx hb dX11_makeBody_0 rfl (lv_at hl 0 rfl) ?_
  refine lv_iconst (v := 0) hx hb dX11_makeBody_1 (by decide) ?_
  obtain ⟨M2, eM2, h⟩ := nm_some h
  refine gw_put (C := RX11) (T := TX11) (N := 55) (ty := .int) hx hb hts hinX11 tyX11 tyX11_ok nmX11 hown hK hP hD hS (by omega) lyNMM rfl 41 (by decide) w217 (fun _ h9 => h9) rfl (by decide +kernel) rfl rfl (Nat.le_of_ble_eq_true rfl) rfl eM2 dX11_makeBody_2 (fun H locs hP hS => ?_)
  refine lv_iconst (v := 0) hx hb dX11_makeBody_5 (by decide) ?_
  refine lv_istore_n (lv' := [(2, .int (0 : Int32)), (0, .ref (ad 0)), (1, .int a1)]) hx hb dX11_makeBody_6 rfl hl (by decide) rfl (fun ls hl => ?_)
  refine lv_iconst (v := 0) hx hb dX11_makeBody_7 (by decide) ?_
  refine lv_istore_n (lv' := [(3, .int (0 : Int32)), (2, .int (0 : Int32)), (0, .ref (ad 0)), (1, .int a1)]) hx hb dX11_makeBody_8 rfl hl (by decide) rfl (fun ls hl => ?_)
  exact lp9 FU (0 : Int32) (0 : Int32) M2 ls _ _ (lv_sub hl [2, 3, 1, 0] rfl) h hP hS
def rmX11_makeHeader : Room := { frames := 1, cells := 0, slots := 0, locals := 21 }
def fX11_makeHeader_81 (a1 : Int32) (a2 : Int32) (K10 : Int32 → Int32 → Mm → Option Mm) (x3 : Int32) (x4 : Int32) (M : Mm) : Option Mm :=
  K10 x3 (x4 + 1) M
def fX11_makeHeader_73 (a1 : Int32) (a2 : Int32) (K10 : Int32 → Int32 → Mm → Option Mm) (x4 : Int32) (x5 : Int32) (M : Mm) : Option Mm :=
  bn1 (fX11_add x5 M) (fun M78 => fX11_makeHeader_81 a1 a2 K10 (0 : Int32) x4 M78)
def fX11_makeHeader_63 (a1 : Int32) (a2 : Int32) (K10 : Int32 → Int32 → Mm → Option Mm) (x3 : Int32) (x4 : Int32) (x5 : Int32) (M : Mm) : Option Mm :=
  if x3 = 0 then (fX11_makeHeader_73 a1 a2 K10 x4 x5 M) else (bn1 (fX11_add (32 : Int32) M) (fun M70 => fX11_makeHeader_73 a1 a2 K10 x4 x5 M70))
def fX11_makeHeader_59 (a1 : Int32) (a2 : Int32) (K10 : Int32 → Int32 → Mm → Option Mm) (x4 : Int32) (s0 : Int32) (M : Mm) : Option Mm :=
  fX11_makeHeader_81 a1 a2 K10 s0 x4 M
def fX11_makeHeader_10 (a1 : Int32) (a2 : Int32) : Nat → Int32 → Int32 → Mm → Option Mm
  | 0, _, _, _ => none
  | n + 1, x3, x4, M => grd (gin a1 6) (if (M 19 a1.toNatClampNeg) ≤ x4 then (some M) else (grd (gin (((24 : Int32) * a1) + x4) 144) (nm (M 20 (((24 : Int32) * a1) + x4).toNatClampNeg) (fun v33 => if a2 = 0 then (fX11_makeHeader_63 a1 a2 (fX11_makeHeader_10 a1 a2 n) x3 x4 v33 M) else (bn1 (fX11_isBlank v33) (fun v41 => if v41 = 0 then (fX11_makeHeader_63 a1 a2 (fX11_makeHeader_10 a1 a2 n) x3 x4 v33 M) else (if (M 0 41) ≤ 0 then (fX11_makeHeader_59 a1 a2 (fX11_makeHeader_10 a1 a2 n) x4 (0 : Int32) M) else (fX11_makeHeader_59 a1 a2 (fX11_makeHeader_10 a1 a2 n) x4 (1 : Int32) M))))))))
def fX11_makeHeader (a1 : Int32) (a2 : Int32) (M : Mm) : Option Mm :=
  nm (up2 M 0 41 (0 : Int32)) (fun M2 => fX11_makeHeader_10 a1 a2 FU (0 : Int32) (0 : Int32) M2)
set_option maxRecDepth 100000 in
set_option maxHeartbeats 4000000 in
theorem kX11_makeHeader (l : Launch) (D : va_G) (ad : Nat → Nat) (cA : Nat → ClassId) (A : Nat → Prop) {a1 : Int32} {a2 : Int32} {M M1 : Mm} (h : fX11_makeHeader a1 a2 M = some M1) : Met l yX11_makeHeader wsX11_makeHeader rmX11_makeHeader (gPc D (tyM cA) 40 (layN ad cA) ad A M [.ref (ad 0), .int a1, .int a2]) (gQv D 40 (layN ad cA) ad A M1) 0 0 A := by
  refine Met.ofW (cc := cX11_makeHeader) (maxL := 6) (ret := none) (by decide) rfl ?_
  intro p e s m args below meth c s₁ B hml hv
  obtain ⟨ha, hP, hK, hD, hN⟩ := hv
  have hx := B.exec
  have hb := B.bytes
  have hr := B.returns
  have hlk := B.notSynchronized
  have hts : ∀ w ∈ lw_g, w.before args s = true := fun w h => atoms_spec (ws := wsX11_makeHeader) B.pre w (List.mem_cons_of_mem _ h)
  have hown : s.vm.findClass RX11 = some m.cls := findClass_of_methodNamed B.named
  have hS : va_S A s.heap s.heap [] := va_S.rf
  unfold fX11_makeHeader at h
  have w217 := hts _ wm768
  have w65 := hts _ wm752
  have w68 := hts _ wm753
  have lp10 : ∀ (n : Nat) (x3 : Int32) (x4 : Int32) (M : Mm) (ls : Array Slot) (H : Heap) (locs : List Loc), lv_has ls 6 [(0, .ref (ad 0)), (1, .int a1), (2, .int a2), (3, .int x3), (4, .int x4)] → fX11_makeHeader_10 a1 a2 n x3 x4 M = some M1 → va_P D vwCl (gw 40 (layN ad cA) ad M) H → va_S A s.heap H locs → W p l e (headSpec wsX11_makeHeader rmX11_makeHeader).room s m args below meth c H locs 0 0 (MQ below (gQv D 40 (layN ad cA) ad A M1) args s 0 0 A) (F0 m 10 ls []) := by
    intro n
    induction n with
    | zero =>
      intro x3 x4 M ls H locs hl h hP hS
      rw [fX11_makeHeader_10] at h
      cases h
    | succ n ih10 =>
      have bk81 : ∀ (x3 : Int32) (x4 : Int32) (M : Mm) (ls : Array Slot) (H : Heap) (locs : List Loc), lv_has ls 6 [(0, .ref (ad 0)), (1, .int a1), (2, .int a2), (3, .int x3), (4, .int x4)] → fX11_makeHeader_81 a1 a2 (fX11_makeHeader_10 a1 a2 n) x3 x4 M = some M1 → va_P D vwCl (gw 40 (layN ad cA) ad M) H → va_S A s.heap H locs → W p l e (headSpec wsX11_makeHeader rmX11_makeHeader).room s m args below meth c H locs 0 0 (MQ below (gQv D 40 (layN ad cA) ad A M1) args s 0 0 A) (F0 m 81 ls []) := by
        intro x3 x4 M ls H locs hl h hP hS
        unfold fX11_makeHeader_81 at h
        refine w_pc 81 rfl ?_
        refine lv_iinc (k := 4) (v := x4 + 1) (lv' := [(4, .int (x4 + 1)), (0, .ref (ad 0)), (1, .int a1), (2, .int a2), (3, .int x3)]) hx hb dX11_makeHeader_81 hl rfl rfl (by decide) rfl (fun ls hl => ?_)
        refine lv_goto (tgt := 10) hx hb dX11_makeHeader_84 (by decide) ?_
        exact ih10 x3 (x4 + 1) M ls _ _ (lv_sub hl [1, 2, 3, 4, 0] rfl) h hP hS
      have bk73 : ∀ (x4 : Int32) (x5 : Int32) (M : Mm) (ls : Array Slot) (H : Heap) (locs : List Loc), lv_has ls 6 [(0, .ref (ad 0)), (1, .int a1), (2, .int a2), (4, .int x4), (5, .int x5)] → fX11_makeHeader_73 a1 a2 (fX11_makeHeader_10 a1 a2 n) x4 x5 M = some M1 → va_P D vwCl (gw 40 (layN ad cA) ad M) H → va_S A s.heap H locs → W p l e (headSpec wsX11_makeHeader rmX11_makeHeader).room s m args below meth c H locs 0 0 (MQ below (gQv D 40 (layN ad cA) ad A M1) args s 0 0 A) (F0 m 73 ls []) := by
        intro x4 x5 M ls H locs hl h hP hS
        unfold fX11_makeHeader_73 at h
        refine w_pc 73 rfl ?_
        refine lv_iconst (v := 0) hx hb dX11_makeHeader_73 (by decide) ?_
        refine lv_istore_n (lv' := [(3, .int (0 : Int32)), (0, .ref (ad 0)), (1, .int a1), (2, .int a2), (4, .int x4), (5, .int x5)]) hx hb dX11_makeHeader_74 rfl hl (by decide) rfl (fun ls hl => ?_)
        refine lv_aload_n hx hb dX11_makeHeader_75 rfl (lv_at hl 1 rfl) ?_
        refine lv_iload hx hb dX11_makeHeader_76 (lv_at hl 5 rfl) ?_
        refine w_pc 78 rfl ?_
        obtain ⟨M78, c78, h⟩ := bn1_some h
        refine cl_v (rn_v (As := [.int x5]) (rest := []) ⟨hx, hb, hml, hown, hts⟩ (kX11_add l D ad cA A c78) ⟨callB_of 1 hts (gdc wm1014) rfl rfl rfl (hts _ wm61) (hts _ wm1011) hdX11_add ⟨Nat.le_of_ble_eq_true rfl, Nat.le_of_ble_eq_true rfl⟩, hts _ wm1013, hts _ wm36⟩ hK hP hD hN (by omega) lyNMM rfl rfl hl.1 rfl (lv_room (Nat.le_of_ble_eq_true rfl)) dX11_makeHeader_78) hS (fun H locs hP hS => ?_)
        refine w_pc 81 rfl ?_
        exact bk81 (0 : Int32) x4 M78 ls _ _ (lv_sub hl [1, 2, 3, 0, 4] rfl) h hP hS
      have bk63 : ∀ (x3 : Int32) (x4 : Int32) (x5 : Int32) (M : Mm) (ls : Array Slot) (H : Heap) (locs : List Loc), lv_has ls 6 [(0, .ref (ad 0)), (1, .int a1), (2, .int a2), (3, .int x3), (4, .int x4), (5, .int x5)] → fX11_makeHeader_63 a1 a2 (fX11_makeHeader_10 a1 a2 n) x3 x4 x5 M = some M1 → va_P D vwCl (gw 40 (layN ad cA) ad M) H → va_S A s.heap H locs → W p l e (headSpec wsX11_makeHeader rmX11_makeHeader).room s m args below meth c H locs 0 0 (MQ below (gQv D 40 (layN ad cA) ad A M1) args s 0 0 A) (F0 m 63 ls []) := by
        intro x3 x4 x5 M ls H locs hl h hP hS
        unfold fX11_makeHeader_63 at h
        refine w_pc 63 rfl ?_
        refine lv_iload_n hx hb dX11_makeHeader_63 rfl (lv_at hl 3 rfl) ?_
        refine w_pc 64 rfl ?_
        refine lv_if_eq (tgt := 73) hx hb dX11_makeHeader_64 (by decide) (fun q64 => ?_) (fun q64 => ?_)
        · replace h := (if_pos q64).symm.trans h
          refine w_pc 73 rfl ?_
          exact bk73 x4 x5 M ls _ _ (lv_sub hl [0, 1, 2, 4, 5] rfl) h hP hS
        · replace h := (if_neg q64).symm.trans h
          refine w_pc 67 rfl ?_
          refine lv_aload_n hx hb dX11_makeHeader_67 rfl (lv_at hl 0 rfl) ?_
          refine lv_bipush (v := 32) hx hb dX11_makeHeader_68 (by decide) ?_
          refine w_pc 70 rfl ?_
          obtain ⟨M70, c70, h⟩ := bn1_some h
          refine cl_v (rn_v (As := [.int (32 : Int32)]) (rest := []) ⟨hx, hb, hml, hown, hts⟩ (kX11_add l D ad cA A c70) ⟨callB_of 1 hts (gdc wm1014) rfl rfl rfl (hts _ wm61) (hts _ wm1011) hdX11_add ⟨Nat.le_of_ble_eq_true rfl, Nat.le_of_ble_eq_true rfl⟩, hts _ wm1013, hts _ wm36⟩ hK hP hD hN (by omega) lyNMM rfl rfl hl.1 rfl (lv_room (Nat.le_of_ble_eq_true rfl)) dX11_makeHeader_70) hS (fun H locs hP hS => ?_)
          refine w_pc 73 rfl ?_
          exact bk73 x4 x5 M70 ls _ _ (lv_sub hl [0, 1, 2, 4, 5] rfl) h hP hS
      have bk59 : ∀ (x4 : Int32) (s0 : Int32) (M : Mm) (ls : Array Slot) (H : Heap) (locs : List Loc), lv_has ls 6 [(0, .ref (ad 0)), (1, .int a1), (2, .int a2), (4, .int x4)] → fX11_makeHeader_59 a1 a2 (fX11_makeHeader_10 a1 a2 n) x4 s0 M = some M1 → va_P D vwCl (gw 40 (layN ad cA) ad M) H → va_S A s.heap H locs → W p l e (headSpec wsX11_makeHeader rmX11_makeHeader).room s m args below meth c H locs 0 0 (MQ below (gQv D 40 (layN ad cA) ad A M1) args s 0 0 A) (F0 m 59 ls [.int s0]) := by
        intro x4 s0 M ls H locs hl h hP hS
        unfold fX11_makeHeader_59 at h
        refine w_pc 59 rfl ?_
        refine lv_istore_n (lv' := [(3, .int s0), (0, .ref (ad 0)), (1, .int a1), (2, .int a2), (4, .int x4)]) hx hb dX11_makeHeader_59 rfl hl (by decide) rfl (fun ls hl => ?_)
        refine lv_goto (tgt := 81) hx hb dX11_makeHeader_60 (by decide) ?_
        exact bk81 s0 x4 M ls _ _ (lv_sub hl [1, 2, 3, 0, 4] rfl) h hP hS
      intro x3 x4 M ls H locs hl h hP hS
      rw [fX11_makeHeader_10] at h
      refine w_pc 10 rfl ?_
      refine lv_iload hx hb dX11_makeHeader_10 (lv_at hl 4 rfl) ?_
      refine lv_aload_n hx hb dX11_makeHeader_12 rfl (lv_at hl 0 rfl) ?_
      refine gw_get (C := RX11) (T := TX11) (N := 55) (v := .ref (ad 19)) hx hb hts hinX11 hown hK hP (by omega) lyNMM rfl 25 (by decide) w65 (fun _ h9 => h9) rfl dX11_makeHeader_13 ?_
      refine lv_iload_n hx hb dX11_makeHeader_16 rfl (lv_at hl 1 rfl) ?_
      obtain ⟨g17, h⟩ := gd_in h
      refine gw_iald hx hb hK hP 0 (by omega) lyNasizes rfl g17 dX11_makeHeader_17 ?_
      refine w_pc 18 rfl ?_
      refine lv_icmp_ge (tgt := 87) hx hb dX11_makeHeader_18 (by decide) (fun q18 => ?_) (fun q18 => ?_)
      · replace h := (if_pos q18).symm.trans h
        refine w_pc 87 rfl ?_
        exact re_v hx hb hr hlk h hP hS dX11_makeHeader_87
      · replace h := (if_neg q18).symm.trans h
        refine w_pc 21 rfl ?_
        refine lv_aload_n hx hb dX11_makeHeader_21 rfl (lv_at hl 0 rfl) ?_
        refine gw_get (C := RX11) (T := TX11) (N := 55) (v := .ref (ad 20)) hx hb hts hinX11 hown hK hP (by omega) lyNMM rfl 26 (by decide) w68 (fun _ h9 => h9) rfl dX11_makeHeader_22 ?_
        refine lv_bipush (v := 24) hx hb dX11_makeHeader_25 (by decide) ?_
        refine lv_iload_n hx hb dX11_makeHeader_27 rfl (lv_at hl 1 rfl) ?_
        refine lv_imul hx hb dX11_makeHeader_28 ?_
        refine lv_iload hx hb dX11_makeHeader_29 (lv_at hl 4 rfl) ?_
        refine lv_iadd hx hb dX11_makeHeader_31 ?_
        refine w_pc 32 rfl ?_
        obtain ⟨g32, h⟩ := gd_in h
        refine gw_iald hx hb hK hP 0 (by omega) lyNatexts rfl g32 dX11_makeHeader_32 ?_
        obtain ⟨v33, e33, h⟩ := nm_some h
        refine w_ti e33 ?_
        refine lv_istore (lv' := [(5, .int v33), (0, .ref (ad 0)), (1, .int a1), (2, .int a2), (3, .int x3), (4, .int x4)]) hx hb dX11_makeHeader_33 hl (by decide) rfl (fun ls hl => ?_)
        refine lv_iload_n hx hb dX11_makeHeader_35 rfl (lv_at hl 3 rfl) ?_
        refine w_pc 36 rfl ?_
        refine lv_if_eq (tgt := 63) hx hb dX11_makeHeader_36 (by decide) (fun q36 => ?_) (fun q36 => ?_)
        · replace h := (if_pos q36).symm.trans h
          refine w_pc 63 rfl ?_
          exact bk63 x3 x4 v33 M ls _ _ (lv_sub hl [1, 2, 3, 4, 5, 0] rfl) h hP hS
        · replace h := (if_neg q36).symm.trans h
          refine w_pc 39 rfl ?_
          refine lv_iload hx hb dX11_makeHeader_39 (lv_at hl 0 rfl) ?_
          refine w_pc 41 rfl ?_
          obtain ⟨v41, c41, h⟩ := bn1_some h
          refine cl_i (rn_s (As := [.int v33]) (rest := []) ⟨hx, hb, hml, hown, hts⟩ (kX11_isBlank l D ad cA A (M := M) c41) ⟨callB_of 1 hts (gdc wm1010) rfl rfl rfl (hts _ wm61) (hts _ wm1008) hdX11_isBlank ⟨Nat.le_of_ble_eq_true rfl, Nat.le_of_ble_eq_true rfl⟩, hts _ wm1009⟩ hK hP hD hN rfl hl.1 rfl (lv_room (Nat.le_of_ble_eq_true rfl)) dX11_makeHeader_41) hS (fun H locs hP hS => ?_)
          refine w_pc 44 rfl ?_
          refine w_pc 44 rfl ?_
          refine lv_if_eq (tgt := 63) hx hb dX11_makeHeader_44 (by decide) (fun q44 => ?_) (fun q44 => ?_)
          · replace h := (if_pos q44).symm.trans h
            refine w_pc 63 rfl ?_
            exact bk63 x3 x4 v33 M ls _ _ (lv_sub hl [1, 2, 3, 4, 5, 0] rfl) h hP hS
          · replace h := (if_neg q44).symm.trans h
            refine w_pc 47 rfl ?_
            refine lv_aload_n hx hb dX11_makeHeader_47 rfl (lv_at hl 1 rfl) ?_
            refine gw_get (C := RX11) (T := TX11) (N := 55) (v := .int (M 0 41)) hx hb hts hinX11 hown hK hP (by omega) lyNMM rfl 41 (by decide) w217 (fun _ h9 => h9) rfl dX11_makeHeader_48 ?_
            refine w_pc 51 rfl ?_
            refine lv_if_le (tgt := 58) hx hb dX11_makeHeader_51 (by decide) (fun q51 => ?_) (fun q51 => ?_)
            · replace h := (if_pos q51).symm.trans h
              refine w_pc 58 rfl ?_
              refine lv_iconst (v := 0) hx hb dX11_makeHeader_58 (by decide) ?_
              exact bk59 x4 (0 : Int32) M ls _ _ (lv_sub hl [1, 2, 3, 5] rfl) h hP hS
            · replace h := (if_neg q51).symm.trans h
              refine w_pc 54 rfl ?_
              refine lv_iconst (v := 1) hx hb dX11_makeHeader_54 (by decide) ?_
              refine lv_goto (tgt := 59) hx hb dX11_makeHeader_55 (by decide) ?_
              exact bk59 x4 (1 : Int32) M ls _ _ (lv_sub hl [1, 2, 3, 5] rfl) h hP hS
  refine w_entry ha (Nat.le_of_ble_eq_true rfl) (fun ls hl => ?_)
  have hl : lv_has ls 6 [(0, .ref (ad 0)), (1, .int a1), (2, .int a2)] := hl
  refine w_pc 0 rfl ?_
  refine lv_aload_n hx hb dX11_makeHeader_0 rfl (lv_at hl 0 rfl) ?_
  refine lv_iconst (v := 0) hx hb dX11_makeHeader_1 (by decide) ?_
  obtain ⟨M2, eM2, h⟩ := nm_some h
  refine gw_put (C := RX11) (T := TX11) (N := 55) (ty := .int) hx hb hts hinX11 tyX11 tyX11_ok nmX11 hown hK hP hD hS (by omega) lyNMM rfl 41 (by decide) w217 (fun _ h9 => h9) rfl (by decide +kernel) rfl rfl (Nat.le_of_ble_eq_true rfl) rfl eM2 dX11_makeHeader_2 (fun H locs hP hS => ?_)
  refine lv_iconst (v := 0) hx hb dX11_makeHeader_5 (by decide) ?_
  refine lv_istore_n (lv' := [(3, .int (0 : Int32)), (0, .ref (ad 0)), (1, .int a1), (2, .int a2)]) hx hb dX11_makeHeader_6 rfl hl (by decide) rfl (fun ls hl => ?_)
  refine lv_iconst (v := 0) hx hb dX11_makeHeader_7 (by decide) ?_
  refine lv_istore (lv' := [(4, .int (0 : Int32)), (3, .int (0 : Int32)), (0, .ref (ad 0)), (1, .int a1), (2, .int a2)]) hx hb dX11_makeHeader_8 hl (by decide) rfl (fun ls hl => ?_)
  exact lp10 FU (0 : Int32) (0 : Int32) M2 ls _ _ (lv_sub hl [2, 3, 4, 1, 0] rfl) h hP hS
