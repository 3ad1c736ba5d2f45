def rmX4_seal : Room := { frames := 4, cells := 0, slots := 0, locals := 94 }
def fX4_seal (i1 : Nat) (a2 : Int32) (M : Mm) : Option Mm :=
  bn2 (fX4_bodyDigestFor i1 M) (fun v3 M3 => nm (up2 M3 (263 + i1) 6 v3) (fun M6 => bn2 (fX4_sealFor i1 a2 M6) (fun v13 M13 => nm (up2 M13 (263 + i1) 7 v13) (fun M16 => some M16))))
set_option maxRecDepth 100000 in
set_option maxHeartbeats 4000000 in
theorem kX4_seal (l : Launch) (D : va_G) (ad : Nat → Nat) (cA : Nat → ClassId) (A : Nat → Prop) {i1 : Nat} {a2 : Int32} {M M1 : Mm} (hi1 : i1 < 7) (h : fX4_seal i1 a2 M = some M1) : Met l yX4_seal wsX4_seal rmX4_seal (gPc D (tyM cA) 289 (layM ad cA) ad A M [.ref (ad 243), .ref (ad (263 + i1)), .int a2]) (gQv D 289 (layM ad cA) ad A M1) 0 0 A := by
  refine Met.ofW (cc := cX4_seal) (maxL := 3) (ret := none) (by decide) rfl ?_
  intro p e s m args below meth c s₁ B hml hv
  obtain ⟨ha, hP, hK, hD, hN⟩ := hv
  have hx := B.exec
  have hb := B.bytes
  have hr := B.returns
  have hlk := B.notSynchronized
  have hts : ∀ w ∈ lw_g, w.before args s = true := fun w h => atoms_spec (ws := wsX4_seal) B.pre w (List.mem_cons_of_mem _ h)
  have hown : s.vm.findClass RX4 = some m.cls := findClass_of_methodNamed B.named
  have hS : va_S A s.heap s.heap [] := va_S.rf
  unfold fX4_seal at h
  have w112 := hts _ wm239
  have w119 := hts _ wm241
  refine w_entry ha (Nat.le_of_ble_eq_true rfl) (fun ls hl => ?_)
  have hl : lv_has ls 3 [(0, .ref (ad 243)), (1, .ref (ad (263 + i1))), (2, .int a2)] := hl
  refine w_pc 0 rfl ?_
  refine lv_aload_n hx hb dX4_seal_0 rfl (lv_at hl 1 rfl) ?_
  refine lv_aload_n hx hb dX4_seal_1 rfl (lv_at hl 0 rfl) ?_
  refine lv_aload_n hx hb dX4_seal_2 rfl (lv_at hl 1 rfl) ?_
  refine w_pc 3 rfl ?_
  obtain ⟨v3, M3, c3, h⟩ := bn2_some h
  refine cl_i (rn_v (As := [.ref (ad (263 + i1))]) (rest := [.ref (ad (263 + i1))]) ⟨hx, hb, hml, hown, hts⟩ (kX4_bodyDigestFor l D ad cA A (by omega) c3) ⟨callB_of 1 hts (gdc wm546) rfl rfl rfl (hts _ wm55) (hts _ wm543) hdX4_bodyDigestFor ⟨Nat.le_of_ble_eq_true rfl, Nat.le_of_ble_eq_true rfl⟩, hts _ wm544, hts _ wm545⟩ hK hP hD hN (by omega) lyMMail rfl rfl hl.1 rfl (lv_room (Nat.le_of_ble_eq_true rfl)) dX4_seal_3) hS (fun H locs hP hS => ?_)
  refine w_pc 6 rfl ?_
  obtain ⟨M6, eM6, h⟩ := nm_some h
  refine gw_put (C := RX8) (T := TX8) (N := 8) (ty := .int) hx hb hts hinX8 tyX8 tyX8_ok nmX8 hown hK hP hD hS (by omega) (lyMSig (by omega)) rfl 6 (by decide) w112 (fun _ h9 => h9) rfl (by decide +kernel) rfl rfl (Nat.le_of_ble_eq_true rfl) rfl eM6 dX4_seal_6 (fun H locs hP hS => ?_)
  refine lv_aload_n hx hb dX4_seal_9 rfl (lv_at hl 1 rfl) ?_
  refine lv_aload_n hx hb dX4_seal_10 rfl (lv_at hl 0 rfl) ?_
  refine lv_aload_n hx hb dX4_seal_11 rfl (lv_at hl 1 rfl) ?_
  refine lv_iload_n hx hb dX4_seal_12 rfl (lv_at hl 2 rfl) ?_
  refine w_pc 13 rfl ?_
  obtain ⟨v13, M13, c13, h⟩ := bn2_some h
  refine cl_i (rn_v (As := [.ref (ad (263 + i1)), .int a2]) (rest := [.ref (ad (263 + i1))]) ⟨hx, hb, hml, hown, hts⟩ (kX4_sealFor l D ad cA A (by omega) c13) ⟨callB_of 2 hts (gdc wm565) rfl rfl rfl (hts _ wm55) (hts _ wm562) hdX4_sealFor ⟨Nat.le_of_ble_eq_true rfl, Nat.le_of_ble_eq_true rfl⟩, hts _ wm563, hts _ wm564⟩ hK hP hD hN (by omega) lyMMail rfl rfl hl.1 rfl (lv_room (Nat.le_of_ble_eq_true rfl)) dX4_seal_13) hS (fun H locs hP hS => ?_)
  refine w_pc 16 rfl ?_
  obtain ⟨M16, eM16, h⟩ := nm_some h
  refine gw_put (C := RX8) (T := TX8) (N := 8) (ty := .int) hx hb hts hinX8 tyX8 tyX8_ok nmX8 hown hK hP hD hS (by omega) (lyMSig (by omega)) rfl 7 (by decide) w119 (fun _ h9 => h9) rfl (by decide +kernel) rfl rfl (Nat.le_of_ble_eq_true rfl) rfl eM16 dX4_seal_16 (fun H locs hP hS => ?_)
  exact re_v hx hb hr hlk h hP hS dX4_seal_19
def rmX10_sign : Room := { frames := 5, cells := 0, slots := 0, locals := 116 }
def fX10_sign_145 (a1 : Int32) (a2 : Int32) (a3 : Int32) (a4 : Int32) (a5 : Int32) (x6 : Int32) (j8 : Nat) (s0 : Int32) (s1 : Int32) (s2 : Int32) (s3 : Int32) (s4 : Int32) (s5 : Int32) (sj6 : Nat) (M : Mm) : Option (Int32 × Mm) :=
  bn1 (fX8_fill sj6 s5 s4 s3 s2 s1 s0 M) (fun M145 => grd (gin a1 20) (grd (gin x6 2) (bn1 (fX4_seal j8 (M145 (202 + a1.toNatClampNeg) x6.toNatClampNeg) M145) (fun M166 => nm (up2 M166 243 10 ((M166 243 10) + (1 : Int32))) (fun M179 => some (((M179 243 10) - (1 : Int32)), M179))))))
def fX10_sign_90 (a1 : Int32) (a2 : Int32) (a3 : Int32) (a4 : Int32) (a5 : Int32) (x6 : Int32) (x7 : Int32) (s0 : Int32) (s2 : Int32) (M : Mm) : Option (Int32 × Mm) :=
  bn2 (fX4_bodyForm s0 M) (fun v90 M90 => grd (decide (v90 < 8)) (if s2 ≤ (M90 (246 + v90) 1) then (bn1 (fX4_nextSignature M90) (fun v105 => opc v105 (some ((-2 : Int32), M90)) (fun j105 => grd (decide (j105 < 7)) (if a5 = (-1 : Int32) then (fX10_sign_145 a1 a2 a3 a4 a5 x6 j105 (-1 : Int32) a4 a3 x7 x6 a1 j105 M90) else (fX10_sign_145 a1 a2 a3 a4 a5 x6 j105 ((M90 0 7) + a5) a4 a3 x7 x6 a1 j105 M90))))) else (some ((-1 : Int32), M90))))
def fX10_sign (a1 : Int32) (a2 : Int32) (a3 : Int32) (a4 : Int32) (a5 : Int32) (M : Mm) : Option (Int32 × Mm) :=
  nm (a2 &&& (1 : Int32)) (fun v3 => nm (a2 >>> ((1 : Int32) &&& 31)) (fun v8 => if (M 243 0) = 0 then (some ((-1 : Int32), M)) else (bn1 (fX10_isWithin v8 (0 : Int32) (3 : Int32)) (fun v24 => if v24 = 0 then (some ((-1 : Int32), M)) else (bn1 (fX10_hasKey a1 v3 M) (fun v34 => if v34 = 0 then (some ((-1 : Int32), M)) else (bn1 (fX10_isWithin a3 (0 : Int32) (255 : Int32)) (fun v47 => if v47 = 0 then (some ((-1 : Int32), M)) else (if a4 < (-1 : Int32) then (some ((-1 : Int32), M)) else (bn1 (fX10_isWithin a5 (-1 : Int32) (100000 : Int32)) (fun v64 => if v64 = 0 then (some ((-1 : Int32), M)) else (if (v8 &&& (2 : Int32)) = 0 then (fX10_sign_90 a1 a2 a3 a4 a5 v3 v8 (0 : Int32) a4 M) else (fX10_sign_90 a1 a2 a3 a4 a5 v3 v8 (1 : Int32) a4 M)))))))))))))
set_option maxRecDepth 100000 in
set_option maxHeartbeats 4000000 in
theorem kX10_sign (l : Launch) (D : va_G) (ad : Nat → Nat) (cA : Nat → ClassId) (A : Nat → Prop) {a1 : Int32} {a2 : Int32} {a3 : Int32} {a4 : Int32} {a5 : Int32} {M M1 : Mm} {r : Int32} (h : fX10_sign a1 a2 a3 a4 a5 M = some (r, M1)) : Met l yX10_sign wsX10_sign rmX10_sign (gPc D (tyM cA) 289 (layM ad cA) ad A M [.ref (ad 0), .int a1, .int a2, .int a3, .int a4, .int a5]) (gQi D 289 (layM ad cA) ad A M1 r) 0 0 A := by
  refine Met.ofW (cc := cX10_sign) (maxL := 9) (ret := (some .int)) (by decide) rfl ?_
  intro p e s m args below meth c s₁ B hml hv
  obtain ⟨ha, hP, hK, hD, hN⟩ := hv
  have hx := B.exec
  have hb := B.bytes
  have hr := B.returns
  have hlk := B.notSynchronized
  have hts : ∀ w ∈ lw_g, w.before args s = true := fun w h => atoms_spec (ws := wsX10_sign) B.pre w (List.mem_cons_of_mem _ h)
  have hown : s.vm.findClass RX10 = some m.cls := findClass_of_methodNamed B.named
  have hS : va_S A s.heap s.heap [] := va_S.rf
  unfold fX10_sign at h
  have w30 := hts _ wm371
  have w126 := hts _ wm282
  have w148 := hts _ wm208
  have w51 := hts _ wm375
  have w11 := hts _ wm368
  have w108 := hts _ wm169
  have w173 := hts _ wm297
  have bk145 : ∀ (x6 : Int32) (j8 : Nat) (s0 : Int32) (s1 : Int32) (s2 : Int32) (s3 : Int32) (s4 : Int32) (s5 : Int32) (sj6 : Nat) (M : Mm) (ls : Array Slot) (H : Heap) (locs : List Loc), j8 < 7 → sj6 < 7 → lv_has ls 9 [(0, .ref (ad 0)), (1, .int a1), (6, .int x6), (8, .ref (ad (263 + j8)))] → fX10_sign_145 a1 a2 a3 a4 a5 x6 j8 s0 s1 s2 s3 s4 s5 sj6 M = some (r, M1) → va_P D vwCl (gw 289 (layM ad cA) ad M) H → va_S A s.heap H locs → W p l e (headSpec wsX10_sign rmX10_sign).room s m args below meth c H locs 0 0 (MQ below (gQi D 289 (layM ad cA) ad A M1 r) args s 0 0 A) (F0 m 145 ls [.int s0, .int s1, .int s2, .int s3, .int s4, .int s5, .ref (ad (263 + sj6))]) := by
    intro x6 j8 s0 s1 s2 s3 s4 s5 sj6 M ls H locs hbj8 hbsj6 hl h hP hS
    unfold fX10_sign_145 at h
    refine w_pc 145 rfl ?_
    refine w_pc 145 rfl ?_
    obtain ⟨M145, c145, h⟩ := bn1_some h
    refine cl_v (rn_v (As := [.int s5, .int s4, .int s3, .int s2, .int s1, .int s0]) (rest := []) ⟨hx, hb, hml, hown, hts⟩ (kX8_fill l D ad cA A (by omega) c145) ⟨callB_of 6 hts (gdc wm538) rfl rfl rfl (hts _ wm57) (hts _ wm535) hdX8_fill ⟨Nat.le_of_ble_eq_true rfl, Nat.le_of_ble_eq_true rfl⟩, hts _ wm536, hts _ wm537⟩ hK hP hD hN (by omega) (lyMSig (by omega)) rfl rfl hl.1 rfl (lv_room (Nat.le_of_ble_eq_true rfl)) dX10_sign_145) hS (fun H locs hP hS => ?_)
    refine w_pc 148 rfl ?_
    refine lv_aload_n hx hb dX10_sign_148 rfl (lv_at hl 0 rfl) ?_
    refine gw_get (C := RX10) (T := TX10) (N := 8) (v := .ref (ad 243)) hx hb hts hinX10 hown hK hP (by omega) lyMMA rfl 3 (by decide) w30 (fun _ h9 => h9) rfl dX10_sign_149 ?_
    refine lv_aload hx hb dX10_sign_152 (lv_at hl 3 rfl) ?_
    refine lv_aload_n hx hb dX10_sign_154 rfl (lv_at hl 0 rfl) ?_
    refine gw_get (C := RX10) (T := TX10) (N := 8) (v := .ref (ad 1)) hx hb hts hinX10 hown hK hP (by omega) lyMMA rfl 0 (by decide) w11 (fun _ h9 => h9) rfl dX10_sign_155 ?_
    refine lv_iload_n hx hb dX10_sign_158 rfl (lv_at hl 1 rfl) ?_
    obtain ⟨g159, h⟩ := gd_in h
    have b159 := some_lo g159
    refine gw_aald hx hb hK hP 2 (by omega) lyMaDom rfl g159 dX10_sign_159 ?_
    refine w_pc 160 rfl ?_
    refine gw_get (C := RX1) (T := TX1) (N := 8) (v := .ref (ad (202 + a1.toNatClampNeg))) hx hb hts hinX1 hown hK hP (by omega) (lyMDom (by omega)) rfl 6 (by decide) w108 (fun _ h9 => h9) rfl dX10_sign_160 ?_
    refine lv_iload hx hb dX10_sign_163 (lv_at hl 2 rfl) ?_
    obtain ⟨g165, h⟩ := gd_in h
    refine gw_iald hx hb hK hP 0 (by omega) (lyMaKey (by omega)) rfl g165 dX10_sign_165 ?_
    refine w_pc 166 rfl ?_
    obtain ⟨M166, c166, h⟩ := bn1_some h
    refine cl_v (rn_v (As := [.ref (ad (263 + j8)), .int (M145 (202 + a1.toNatClampNeg) x6.toNatClampNeg)]) (rest := []) ⟨hx, hb, hml, hown, hts⟩ (kX4_seal l D ad cA A (by omega) c166) ⟨callB_of 2 hts (gdc wm542) rfl rfl rfl (hts _ wm55) (hts _ wm539) hdX4_seal ⟨Nat.le_of_ble_eq_true rfl, Nat.le_of_ble_eq_true rfl⟩, hts _ wm540, hts _ wm541⟩ hK hP hD hN (by omega) lyMMail rfl rfl hl.1 rfl (lv_room (Nat.le_of_ble_eq_true rfl)) dX10_sign_166) hS (fun H locs hP hS => ?_)
    refine w_pc 169 rfl ?_
    refine lv_aload_n hx hb dX10_sign_169 rfl (lv_at hl 0 rfl) ?_
    refine gw_get (C := RX10) (T := TX10) (N := 8) (v := .ref (ad 243)) hx hb hts hinX10 hown hK hP (by omega) lyMMA rfl 3 (by decide) w30 (fun _ h9 => h9) rfl dX10_sign_170 ?_
    refine lv_dup hx hb dX10_sign_173 rfl ?_
    refine gw_get (C := RX4) (T := TX4) (N := 13) (v := .int (M166 243 10)) hx hb hts hinX4 hown hK hP (by omega) lyMMail rfl 10 (by decide) w173 (fun _ h9 => h9) rfl dX10_sign_174 ?_
    refine lv_iconst (v := 1) hx hb dX10_sign_177 (by decide) ?_
    refine lv_iadd hx hb dX10_sign_178 ?_
    obtain ⟨M179, eM179, h⟩ := nm_some h
    refine gw_put (C := RX4) (T := TX4) (N := 13) (ty := .int) hx hb hts hinX4 tyX4 tyX4_ok nmX4 hown hK hP hD hS (by omega) lyMMail rfl 10 (by decide) w173 (fun _ h9 => h9) rfl (by decide +kernel) rfl rfl (Nat.le_of_ble_eq_true rfl) rfl eM179 dX10_sign_179 (fun H locs hP hS => ?_)
    refine w_pc 182 rfl ?_
    refine lv_aload_n hx hb dX10_sign_182 rfl (lv_at hl 0 rfl) ?_
    refine gw_get (C := RX10) (T := TX10) (N := 8) (v := .ref (ad 243)) hx hb hts hinX10 hown hK hP (by omega) lyMMA rfl 3 (by decide) w30 (fun _ h9 => h9) rfl dX10_sign_183 ?_
    refine gw_get (C := RX4) (T := TX4) (N := 13) (v := .int (M179 243 10)) hx hb hts hinX4 hown hK hP (by omega) lyMMail rfl 10 (by decide) w173 (fun _ h9 => h9) rfl dX10_sign_186 ?_
    refine lv_iconst (v := 1) hx hb dX10_sign_189 (by decide) ?_
    refine lv_isub hx hb dX10_sign_190 ?_
    exact re_i hx hb hr hlk h hP hS dX10_sign_191
  have bk90 : ∀ (x6 : Int32) (x7 : Int32) (s0 : Int32) (s2 : Int32) (M : Mm) (ls : Array Slot) (H : Heap) (locs : List Loc), lv_has ls 9 [(0, .ref (ad 0)), (1, .int a1), (3, .int a3), (4, .int a4), (5, .int a5), (6, .int x6), (7, .int x7)] → fX10_sign_90 a1 a2 a3 a4 a5 x6 x7 s0 s2 M = some (r, M1) → va_P D vwCl (gw 289 (layM ad cA) ad M) H → va_S A s.heap H locs → W p l e (headSpec wsX10_sign rmX10_sign).room s m args below meth c H locs 0 0 (MQ below (gQi D 289 (layM ad cA) ad A M1 r) args s 0 0 A) (F0 m 90 ls [.int s0, .ref (ad 243), .int s2]) := by
    intro x6 x7 s0 s2 M ls H locs hl h hP hS
    unfold fX10_sign_90 at h
    refine w_pc 90 rfl ?_
    refine w_pc 90 rfl ?_
    obtain ⟨v90, M90, c90, h⟩ := bn2_some h
    obtain ⟨g90, h⟩ := gd_lt h
    refine cl_r (rn_v (As := [.int s0]) (rest := [.int s2]) ⟨hx, hb, hml, hown, hts⟩ (kX4_bodyForm l D ad cA A c90) ⟨callB_of 1 hts (gdc wm502) rfl rfl rfl (hts _ wm55) (hts _ wm499) hdX4_bodyForm ⟨Nat.le_of_ble_eq_true rfl, Nat.le_of_ble_eq_true rfl⟩, hts _ wm500, hts _ wm501⟩ hK hP hD hN (by omega) lyMMail rfl rfl hl.1 rfl (lv_room (Nat.le_of_ble_eq_true rfl)) dX10_sign_90) hS (fun H locs hP hS => ?_)
    refine w_pc 93 rfl ?_
    refine gw_get (C := RX9) (T := TX9) (N := 2) (v := .int (M90 (246 + v90) 1)) hx hb hts hinX9 hown hK hP (by omega) (lyMText (by omega)) rfl 1 (by decide) w148 (fun _ h9 => h9) rfl dX10_sign_93 ?_
    refine w_pc 96 rfl ?_
    refine lv_icmp_le (tgt := 101) hx hb dX10_sign_96 (by decide) (fun q96 => ?_) (fun q96 => ?_)
    · replace h := (if_pos q96).symm.trans h
      refine w_pc 101 rfl ?_
      refine lv_aload_n hx hb dX10_sign_101 rfl (lv_at hl 0 rfl) ?_
      refine gw_get (C := RX10) (T := TX10) (N := 8) (v := .ref (ad 243)) hx hb hts hinX10 hown hK hP (by omega) lyMMA rfl 3 (by decide) w30 (fun _ h9 => h9) rfl dX10_sign_102 ?_
      refine w_pc 105 rfl ?_
      obtain ⟨v105, c105, h⟩ := bn1_some h
      cases v105 with
      | none =>
        replace h := opc_n h
        refine cl_n (rn_v (As := []) (rest := []) ⟨hx, hb, hml, hown, hts⟩ (kX4_nextSignature l D ad cA A c105) ⟨callB_of 0 hts (gdc wm534) rfl rfl rfl (hts _ wm55) (hts _ wm531) hdX4_nextSignature ⟨Nat.le_of_ble_eq_true rfl, Nat.le_of_ble_eq_true rfl⟩, hts _ wm532, hts _ wm533⟩ hK hP hD hN (by omega) lyMMail rfl rfl hl.1 rfl (lv_room (Nat.le_of_ble_eq_true rfl)) dX10_sign_105) hS (fun H locs hP hS => ?_)
        refine w_pc 108 rfl ?_
        refine lv_astoreN (lv' := [(8, .null), (0, .ref (ad 0)), (1, .int a1), (3, .int a3), (4, .int a4), (5, .int a5), (6, .int x6), (7, .int x7)]) hx hb dX10_sign_108 hl (by decide) rfl (fun ls hl => ?_)
        refine lv_aloadN hx hb dX10_sign_110 (lv_at hl 0 rfl) ?_
        refine lv_ifnonnullN hx hb dX10_sign_112 ?_
        refine lv_bipush (v := -2) hx hb dX10_sign_115 (by decide) ?_
        exact re_i hx hb hr hlk h hP hS dX10_sign_117
      | some j105 =>
        replace h := opc_s h
        obtain ⟨g105, h⟩ := gd_lt h
        refine cl_r (rn_v (As := []) (rest := []) ⟨hx, hb, hml, hown, hts⟩ (kX4_nextSignature l D ad cA A c105) ⟨callB_of 0 hts (gdc wm534) rfl rfl rfl (hts _ wm55) (hts _ wm531) hdX4_nextSignature ⟨Nat.le_of_ble_eq_true rfl, Nat.le_of_ble_eq_true rfl⟩, hts _ wm532, hts _ wm533⟩ hK hP hD hN (by omega) lyMMail rfl rfl hl.1 rfl (lv_room (Nat.le_of_ble_eq_true rfl)) dX10_sign_105) hS (fun H locs hP hS => ?_)
        refine w_pc 108 rfl ?_
        refine lv_astore (lv' := [(8, .ref (ad (263 + j105))), (0, .ref (ad 0)), (1, .int a1), (3, .int a3), (4, .int a4), (5, .int a5), (6, .int x6), (7, .int x7)]) hx hb dX10_sign_108 hl (by decide) rfl (fun ls hl => ?_)
        refine lv_aload hx hb dX10_sign_110 (lv_at hl 0 rfl) ?_
        refine lv_ifnonnull (tgt := 118) hx hb dX10_sign_112 (by decide) ?_
        refine lv_aload hx hb dX10_sign_118 (lv_at hl 0 rfl) ?_
        refine lv_iload_n hx hb dX10_sign_120 rfl (lv_at hl 2 rfl) ?_
        refine lv_iload hx hb dX10_sign_121 (lv_at hl 6 rfl) ?_
        refine lv_iload hx hb dX10_sign_123 (lv_at hl 7 rfl) ?_
        refine w_pc 125 rfl ?_
        refine lv_iload_n hx hb dX10_sign_125 rfl (lv_at hl 3 rfl) ?_
        refine lv_iload hx hb dX10_sign_126 (lv_at hl 4 rfl) ?_
        refine lv_iload hx hb dX10_sign_128 (lv_at hl 5 rfl) ?_
        refine lv_iconst (v := -1) hx hb dX10_sign_130 (by decide) ?_
        refine w_pc 131 rfl ?_
        refine lv_icmp_ne (tgt := 138) hx hb dX10_sign_131 (by decide) (fun q131 => ?_) (fun q131 => ?_)
        · replace h := (if_neg q131).symm.trans h
          refine w_pc 138 rfl ?_
          refine lv_aload_n hx hb dX10_sign_138 rfl (lv_at hl 1 rfl) ?_
          refine gw_get (C := RX10) (T := TX10) (N := 8) (v := .int (M90 0 7)) hx hb hts hinX10 hown hK hP (by omega) lyMMA rfl 7 (by decide) w51 (fun _ h9 => h9) rfl dX10_sign_139 ?_
          refine lv_iload hx hb dX10_sign_142 (lv_at hl 5 rfl) ?_
          refine lv_iadd hx hb dX10_sign_144 ?_
          exact bk145 x6 j105 ((M90 0 7) + a5) a4 a3 x7 x6 a1 j105 M90 ls _ _ (by omega) (by omega) (lv_sub hl [1, 2, 6, 0] rfl) h hP hS
        · replace h := (if_pos q131).symm.trans h
          refine w_pc 134 rfl ?_
          refine lv_iconst (v := -1) hx hb dX10_sign_134 (by decide) ?_
          refine lv_goto (tgt := 145) hx hb dX10_sign_135 (by decide) ?_
          exact bk145 x6 j105 (-1 : Int32) a4 a3 x7 x6 a1 j105 M90 ls _ _ (by omega) (by omega) (lv_sub hl [1, 2, 6, 0] rfl) h hP hS
    · replace h := (if_neg q96).symm.trans h
      refine w_pc 99 rfl ?_
      refine lv_iconst (v := -1) hx hb dX10_sign_99 (by decide) ?_
      exact re_i hx hb hr hlk h hP hS dX10_sign_100
  refine w_entry ha (Nat.le_of_ble_eq_true rfl) (fun ls hl => ?_)
  have hl : lv_has ls 9 [(0, .ref (ad 0)), (1, .int a1), (2, .int a2), (3, .int a3), (4, .int a4), (5, .int a5)] := hl
  refine w_pc 0 rfl ?_
  refine lv_iload_n hx hb dX10_sign_0 rfl (lv_at hl 2 rfl) ?_
  refine lv_iconst (v := 1) hx hb dX10_sign_1 (by decide) ?_
  refine lv_iand hx hb dX10_sign_2 ?_
  obtain ⟨v3, e3, h⟩ := nm_some h
  refine w_ti e3 ?_
  refine lv_istore (lv' := [(6, .int v3), (0, .ref (ad 0)), (1, .int a1), (2, .int a2), (3, .int a3), (4, .int a4), (5, .int a5)]) hx hb dX10_sign_3 hl (by decide) rfl (fun ls hl => ?_)
  refine lv_iload_n hx hb dX10_sign_5 rfl (lv_at hl 3 rfl) ?_
  refine lv_iconst (v := 1) hx hb dX10_sign_6 (by decide) ?_
  refine lv_ishr hx hb dX10_sign_7 ?_
  refine w_pc 8 rfl ?_
  obtain ⟨v8, e8, h⟩ := nm_some h
  refine w_ti e8 ?_
  refine lv_istore (lv' := [(7, .int v8), (6, .int v3), (0, .ref (ad 0)), (1, .int a1), (2, .int a2), (3, .int a3), (4, .int a4), (5, .int a5)]) hx hb dX10_sign_8 hl (by decide) rfl (fun ls hl => ?_)
  refine lv_aload_n hx hb dX10_sign_10 rfl (lv_at hl 2 rfl) ?_
  refine gw_get (C := RX10) (T := TX10) (N := 8) (v := .ref (ad 243)) hx hb hts hinX10 hown hK hP (by omega) lyMMA rfl 3 (by decide) w30 (fun _ h9 => h9) rfl dX10_sign_11 ?_
  refine gw_get (C := RX4) (T := TX4) (N := 13) (v := .int (M 243 0)) hx hb hts hinX4 hown hK hP (by omega) lyMMail rfl 0 (by decide) w126 (fun _ h9 => h9) rfl dX10_sign_14 ?_
  refine w_pc 17 rfl ?_
  refine lv_if_eq (tgt := 40) hx hb dX10_sign_17 (by decide) (fun q17 => ?_) (fun q17 => ?_)
  · replace h := (if_pos q17).symm.trans h
    refine w_pc 40 rfl ?_
    refine lv_iconst (v := -1) hx hb dX10_sign_40 (by decide) ?_
    exact re_i hx hb hr hlk h hP hS dX10_sign_41
  · replace h := (if_neg q17).symm.trans h
    refine w_pc 20 rfl ?_
    refine lv_iload hx hb dX10_sign_20 (lv_at hl 0 rfl) ?_
    refine lv_iconst (v := 0) hx hb dX10_sign_22 (by decide) ?_
    refine lv_iconst (v := 3) hx hb dX10_sign_23 (by decide) ?_
    refine w_pc 24 rfl ?_
    obtain ⟨v24, c24, h⟩ := bn1_some h
    refine cl_i (rn_s (As := [.int v8, .int (0 : Int32), .int (3 : Int32)]) (rest := []) ⟨hx, hb, hml, hown, hts⟩ (kX10_isWithin l D ad cA A (M := M) c24) ⟨callB_of 3 hts (gdc wm403) rfl rfl rfl (hts _ wm50) (hts _ wm401) hdX10_isWithin ⟨Nat.le_of_ble_eq_true rfl, Nat.le_of_ble_eq_true rfl⟩, hts _ wm402⟩ hK hP hD hN rfl hl.1 rfl (lv_room (Nat.le_of_ble_eq_true rfl)) dX10_sign_24) hS (fun H locs hP hS => ?_)
    refine w_pc 27 rfl ?_
    refine w_pc 27 rfl ?_
    refine lv_if_eq (tgt := 40) hx hb dX10_sign_27 (by decide) (fun q27 => ?_) (fun q27 => ?_)
    · replace h := (if_pos q27).symm.trans h
      refine w_pc 40 rfl ?_
      refine lv_iconst (v := -1) hx hb dX10_sign_40 (by decide) ?_
      exact re_i hx hb hr hlk h hP hS dX10_sign_41
    · replace h := (if_neg q27).symm.trans h
      refine w_pc 30 rfl ?_
      refine lv_aload_n hx hb dX10_sign_30 rfl (lv_at hl 2 rfl) ?_
      refine lv_iload_n hx hb dX10_sign_31 rfl (lv_at hl 3 rfl) ?_
      refine lv_iload hx hb dX10_sign_32 (lv_at hl 1 rfl) ?_
      refine w_pc 34 rfl ?_
      obtain ⟨v34, c34, h⟩ := bn1_some h
      refine cl_i (rn_v (As := [.int a1, .int v3]) (rest := []) ⟨hx, hb, hml, hown, hts⟩ (kX10_hasKey l D ad cA A c34) ⟨callB_of 2 hts (gdc wm529) rfl rfl rfl (hts _ wm50) (hts _ wm526) hdX10_hasKey ⟨Nat.le_of_ble_eq_true rfl, Nat.le_of_ble_eq_true rfl⟩, hts _ wm528, hts _ wm3⟩ hK hP hD hN (by omega) lyMMA rfl rfl hl.1 rfl (lv_room (Nat.le_of_ble_eq_true rfl)) dX10_sign_34) hS (fun H locs hP hS => ?_)
      refine w_pc 37 rfl ?_
      refine w_pc 37 rfl ?_
      refine lv_if_ne (tgt := 42) hx hb dX10_sign_37 (by decide) (fun q37 => ?_) (fun q37 => ?_)
      · replace h := (if_neg q37).symm.trans h
        refine w_pc 42 rfl ?_
        refine lv_iload_n hx hb dX10_sign_42 rfl (lv_at hl 5 rfl) ?_
        refine lv_iconst (v := 0) hx hb dX10_sign_43 (by decide) ?_
        refine lv_sipush (v := 255) hx hb dX10_sign_44 (by decide) ?_
        refine w_pc 47 rfl ?_
        obtain ⟨v47, c47, h⟩ := bn1_some h
        refine cl_i (rn_s (As := [.int a3, .int (0 : Int32), .int (255 : Int32)]) (rest := []) ⟨hx, hb, hml, hown, hts⟩ (kX10_isWithin l D ad cA A (M := M) c47) ⟨callB_of 3 hts (gdc wm403) rfl rfl rfl (hts _ wm50) (hts _ wm401) hdX10_isWithin ⟨Nat.le_of_ble_eq_true rfl, Nat.le_of_ble_eq_true rfl⟩, hts _ wm402⟩ hK hP hD hN rfl hl.1 rfl (lv_room (Nat.le_of_ble_eq_true rfl)) dX10_sign_47) hS (fun H locs hP hS => ?_)
        refine w_pc 50 rfl ?_
        refine w_pc 50 rfl ?_
        refine lv_if_eq (tgt := 70) hx hb dX10_sign_50 (by decide) (fun q50 => ?_) (fun q50 => ?_)
        · replace h := (if_pos q50).symm.trans h
          refine w_pc 70 rfl ?_
          refine lv_iconst (v := -1) hx hb dX10_sign_70 (by decide) ?_
          exact re_i hx hb hr hlk h hP hS dX10_sign_71
        · replace h := (if_neg q50).symm.trans h
          refine w_pc 53 rfl ?_
          refine lv_iload hx hb dX10_sign_53 (lv_at hl 6 rfl) ?_
          refine lv_iconst (v := -1) hx hb dX10_sign_55 (by decide) ?_
          refine w_pc 56 rfl ?_
          refine lv_icmp_lt (tgt := 70) hx hb dX10_sign_56 (by decide) (fun q56 => ?_) (fun q56 => ?_)
          · replace h := (if_pos q56).symm.trans h
            refine w_pc 70 rfl ?_
            refine lv_iconst (v := -1) hx hb dX10_sign_70 (by decide) ?_
            exact re_i hx hb hr hlk h hP hS dX10_sign_71
          · replace h := (if_neg q56).symm.trans h
            refine w_pc 59 rfl ?_
            refine lv_iload hx hb dX10_sign_59 (lv_at hl 7 rfl) ?_
            refine lv_iconst (v := -1) hx hb dX10_sign_61 (by decide) ?_
            refine lv_ldc (v := 100000) hx hb hown (hts _ wm530) dX10_sign_62 ?_
            refine w_pc 64 rfl ?_
            obtain ⟨v64, c64, h⟩ := bn1_some h
            refine cl_i (rn_s (As := [.int a5, .int (-1 : Int32), .int (100000 : Int32)]) (rest := []) ⟨hx, hb, hml, hown, hts⟩ (kX10_isWithin l D ad cA A (M := M) c64) ⟨callB_of 3 hts (gdc wm403) rfl rfl rfl (hts _ wm50) (hts _ wm401) hdX10_isWithin ⟨Nat.le_of_ble_eq_true rfl, Nat.le_of_ble_eq_true rfl⟩, hts _ wm402⟩ hK hP hD hN rfl hl.1 rfl (lv_room (Nat.le_of_ble_eq_true rfl)) dX10_sign_64) hS (fun H locs hP hS => ?_)
            refine w_pc 67 rfl ?_
            refine w_pc 67 rfl ?_
            refine lv_if_ne (tgt := 72) hx hb dX10_sign_67 (by decide) (fun q67 => ?_) (fun q67 => ?_)
            · replace h := (if_neg q67).symm.trans h
              refine w_pc 72 rfl ?_
              refine lv_iload hx hb dX10_sign_72 (lv_at hl 6 rfl) ?_
              refine lv_aload_n hx hb dX10_sign_74 rfl (lv_at hl 2 rfl) ?_
              refine gw_get (C := RX10) (T := TX10) (N := 8) (v := .ref (ad 243)) hx hb hts hinX10 hown hK hP (by omega) lyMMA rfl 3 (by decide) w30 (fun _ h9 => h9) rfl dX10_sign_75 ?_
              refine lv_iload hx hb dX10_sign_78 (lv_at hl 0 rfl) ?_
              refine lv_iconst (v := 2) hx hb dX10_sign_80 (by decide) ?_
              refine lv_iand hx hb dX10_sign_81 ?_
              refine w_pc 82 rfl ?_
              refine lv_if_eq (tgt := 89) hx hb dX10_sign_82 (by decide) (fun q82 => ?_) (fun q82 => ?_)
              · replace h := (if_pos q82).symm.trans h
                refine w_pc 89 rfl ?_
                refine lv_iconst (v := 0) hx hb dX10_sign_89 (by decide) ?_
                exact bk90 v3 v8 (0 : Int32) a4 M ls _ _ (lv_sub hl [2, 3, 5, 6, 7, 1, 0] rfl) h hP hS
              · replace h := (if_neg q82).symm.trans h
                refine w_pc 85 rfl ?_
                refine lv_iconst (v := 1) hx hb dX10_sign_85 (by decide) ?_
                refine lv_goto (tgt := 90) hx hb dX10_sign_86 (by decide) ?_
                exact bk90 v3 v8 (1 : Int32) a4 M ls _ _ (lv_sub hl [2, 3, 5, 6, 7, 1, 0] rfl) h hP hS
            · replace h := (if_pos q67).symm.trans h
              refine w_pc 70 rfl ?_
              refine lv_iconst (v := -1) hx hb dX10_sign_70 (by decide) ?_
              exact re_i hx hb hr hlk h hP hS dX10_sign_71
      · replace h := (if_pos q37).symm.trans h
        refine w_pc 40 rfl ?_
        refine lv_iconst (v := -1) hx hb dX10_sign_40 (by decide) ?_
        exact re_i hx hb hr hlk h hP hS dX10_sign_41
def rmX10_isSignature : Room := { frames := 1, cells := 0, slots := 0, locals := 22 }
def fX10_isSignature (a1 : Int32) (M : Mm) : Option Int32 :=
  bn1 (fX10_isWithin a1 (0 : Int32) ((M 243 10) - (1 : Int32))) (fun v11 => grd (gz v11) (some v11))
set_option maxRecDepth 100000 in
set_option maxHeartbeats 4000000 in
theorem kX10_isSignature (l : Launch) (D : va_G) (ad : Nat → Nat) (cA : Nat → ClassId) (A : Nat → Prop) {a1 : Int32} {M : Mm} {r : Int32} (h : fX10_isSignature a1 M = some r) : Met l yX10_isSignature wsX10_isSignature rmX10_isSignature (gPc D (tyM cA) 289 (layM ad cA) ad A M [.ref (ad 0), .int a1]) (gQi D 289 (layM ad cA) ad A M r) 0 0 A := by
  refine Met.ofW (cc := cX10_isSignature) (maxL := 2) (ret := (some .boolean)) (by decide) rfl ?_
  intro p e s m args below meth c s₁ B hml hv
  obtain ⟨ha, hP, hK, hD, hN⟩ := hv
  have hx := B.exec
  have hb := B.bytes
  have hr := B.returns
  have hlk := B.notSynchronized
  have hts : ∀ w ∈ lw_g, w.before args s = true := fun w h => atoms_spec (ws := wsX10_isSignature) B.pre w (List.mem_cons_of_mem _ h)
  have hown : s.vm.findClass RX10 = some m.cls := findClass_of_methodNamed B.named
  have hS : va_S A s.heap s.heap [] := va_S.rf
  unfold fX10_isSignature at h
  have w30 := hts _ wm371
  have w173 := hts _ wm297
  refine w_entry ha (Nat.le_of_ble_eq_true rfl) (fun ls hl => ?_)
  have hl : lv_has ls 2 [(0, .ref (ad 0)), (1, .int a1)] := hl
  refine w_pc 0 rfl ?_
  refine lv_iload_n hx hb dX10_isSignature_0 rfl (lv_at hl 1 rfl) ?_
  refine lv_iconst (v := 0) hx hb dX10_isSignature_1 (by decide) ?_
  refine lv_aload_n hx hb dX10_isSignature_2 rfl (lv_at hl 0 rfl) ?_
  refine gw_get (C := RX10) (T := TX10) (N := 8) (v := .ref (ad 243)) hx hb hts hinX10 hown hK hP (by omega) lyMMA rfl 3 (by decide) w30 (fun _ h9 => h9) rfl dX10_isSignature_3 ?_
  refine gw_get (C := RX4) (T := TX4) (N := 13) (v := .int (M 243 10)) hx hb hts hinX4 hown hK hP (by omega) lyMMail rfl 10 (by decide) w173 (fun _ h9 => h9) rfl dX10_isSignature_6 ?_
  refine lv_iconst (v := 1) hx hb dX10_isSignature_9 (by decide) ?_
  refine lv_isub hx hb dX10_isSignature_10 ?_
  refine w_pc 11 rfl ?_
  refine w_pc 11 rfl ?_
  obtain ⟨v11, c11, h⟩ := bn1_some h
  refine cl_i (rn_s (As := [.int a1, .int (0 : Int32), .int ((M 243 10) - (1 : Int32))]) (rest := []) ⟨hx, hb, hml, hown, hts⟩ (kX10_isWithin l D ad cA A (M := M) c11) ⟨callB_of 3 hts (gdc wm403) rfl rfl rfl (hts _ wm50) (hts _ wm401) hdX10_isWithin ⟨Nat.le_of_ble_eq_true rfl, Nat.le_of_ble_eq_true rfl⟩, hts _ wm402⟩ hK hP hD hN rfl hl.1 rfl (lv_room (Nat.le_of_ble_eq_true rfl)) dX10_isSignature_11) hS (fun H locs hP hS => ?_)
  refine w_pc 14 rfl ?_
  obtain ⟨z14, h⟩ := gd_z h
  exact re_z hx hb hr hlk z14 (sm_r h) hP hS dX10_isSignature_14
def rmX10_spoil : Room := { frames := 2, cells := 0, slots := 0, locals := 43 }
def fX10_spoil (a1 : Int32) (a2 : Int32) (M : Mm) : Option (Int32 × Mm) :=
  bn1 (fX10_isSignature a1 M) (fun v2 => if v2 = 0 then (some ((0 : Int32), M)) else (grd (gin a1 3) (nm (up2 M (263 + a1.toNatClampNeg) 7 ((M (263 + a1.toNatClampNeg) 7) + a2)) (fun M25 => some ((1 : Int32), M25)))))
set_option maxRecDepth 100000 in
set_option maxHeartbeats 4000000 in
theorem kX10_spoil (l : Launch) (D : va_G) (ad : Nat → Nat) (cA : Nat → ClassId) (A : Nat → Prop) {a1 : Int32} {a2 : Int32} {M M1 : Mm} {r : Int32} (h : fX10_spoil a1 a2 M = some (r, M1)) : Met l yX10_spoil wsX10_spoil rmX10_spoil (gPc D (tyM cA) 289 (layM ad cA) ad A M [.ref (ad 0), .int a1, .int a2]) (gQi D 289 (layM ad cA) ad A M1 r) 0 0 A := by
  refine Met.ofW (cc := cX10_spoil) (maxL := 3) (ret := (some .boolean)) (by decide) rfl ?_
  intro p e s m args below meth c s₁ B hml hv
  obtain ⟨ha, hP, hK, hD, hN⟩ := hv
  have hx := B.exec
  have hb := B.bytes
  have hr := B.returns
  have hlk := B.notSynchronized
  have hts : ∀ w ∈ lw_g, w.before args s = true := fun w h => atoms_spec (ws := wsX10_spoil) B.pre w (List.mem_cons_of_mem _ h)
  have hown : s.vm.findClass RX10 = some m.cls := findClass_of_methodNamed B.named
  have hS : va_S A s.heap s.heap [] := va_S.rf
  unfold fX10_spoil at h
  have w30 := hts _ wm371
  have w179 := hts _ wm295
  have w183 := hts _ wm242
  refine w_entry ha (Nat.le_of_ble_eq_true rfl) (fun ls hl => ?_)
  have hl : lv_has ls 3 [(0, .ref (ad 0)), (1, .int a1), (2, .int a2)] := hl
  refine w_pc 0 rfl ?_
  refine lv_aload_n hx hb dX10_spoil_0 rfl (lv_at hl 0 rfl) ?_
  refine lv_iload_n hx hb dX10_spoil_1 rfl (lv_at hl 1 rfl) ?_
  refine w_pc 2 rfl ?_
  obtain ⟨v2, c2, h⟩ := bn1_some h
  refine cl_i (rn_v (As := [.int a1]) (rest := []) ⟨hx, hb, hml, hown, hts⟩ (kX10_isSignature l D ad cA A c2) ⟨callB_of 1 hts (gdc wm583) rfl rfl rfl (hts _ wm50) (hts _ wm580) hdX10_isSignature ⟨Nat.le_of_ble_eq_true rfl, Nat.le_of_ble_eq_true rfl⟩, hts _ wm582, hts _ wm4⟩ hK hP hD hN (by omega) lyMMA rfl rfl hl.1 rfl (lv_room (Nat.le_of_ble_eq_true rfl)) dX10_spoil_2) hS (fun H locs hP hS => ?_)
  refine w_pc 5 rfl ?_
  refine w_pc 5 rfl ?_
  refine lv_if_ne (tgt := 10) hx hb dX10_spoil_5 (by decide) (fun q5 => ?_) (fun q5 => ?_)
  · replace h := (if_neg q5).symm.trans h
    refine w_pc 10 rfl ?_
    refine lv_aload_n hx hb dX10_spoil_10 rfl (lv_at hl 0 rfl) ?_
    refine gw_get (C := RX10) (T := TX10) (N := 8) (v := .ref (ad 243)) hx hb hts hinX10 hown hK hP (by omega) lyMMA rfl 3 (by decide) w30 (fun _ h9 => h9) rfl dX10_spoil_11 ?_
    refine gw_get (C := RX4) (T := TX4) (N := 13) (v := .ref (ad 262)) hx hb hts hinX4 hown hK hP (by omega) lyMMail rfl 9 (by decide) w179 (fun _ h9 => h9) rfl dX10_spoil_14 ?_
    refine lv_iload_n hx hb dX10_spoil_17 rfl (lv_at hl 1 rfl) ?_
    obtain ⟨g18, h⟩ := gd_in h
    have b18 := some_lo g18
    refine gw_aald hx hb hK hP 5 (by omega) lyMaSig rfl g18 dX10_spoil_18 ?_
    refine lv_dup hx hb dX10_spoil_19 rfl ?_
    refine gw_get (C := RX8) (T := TX8) (N := 8) (v := .int (M (263 + a1.toNatClampNeg) 7)) hx hb hts hinX8 hown hK hP (by omega) (lyMSig (by omega)) rfl 7 (by decide) w183 (fun _ h9 => h9) rfl dX10_spoil_20 ?_
    refine w_pc 23 rfl ?_
    refine lv_iload_n hx hb dX10_spoil_23 rfl (lv_at hl 2 rfl) ?_
    refine lv_iadd hx hb dX10_spoil_24 ?_
    obtain ⟨M25, eM25, h⟩ := nm_some h
    refine gw_put (C := RX8) (T := TX8) (N := 8) (ty := .int) hx hb hts hinX8 tyX8 tyX8_ok nmX8 hown hK hP hD hS (by omega) (lyMSig (by omega)) rfl 7 (by decide) w183 (fun _ h9 => h9) rfl (by decide +kernel) rfl rfl (Nat.le_of_ble_eq_true rfl) rfl eM25 dX10_spoil_25 (fun H locs hP hS => ?_)
    refine lv_iconst (v := 1) hx hb dX10_spoil_28 (by decide) ?_
    exact re_z hx hb hr hlk (Or.inr rfl) h hP hS dX10_spoil_29
  · replace h := (if_pos q5).symm.trans h
    refine w_pc 8 rfl ?_
    refine lv_iconst (v := 0) hx hb dX10_spoil_8 (by decide) ?_
    exact re_z hx hb hr hlk (Or.inl rfl) h hP hS dX10_spoil_9
def rmX10_checkSignature : Room := { frames := 4, cells := 0, slots := 0, locals := 94 }
def fX10_checkSignature_115 (i1 : Nat) (s0 : Int32) (M : Mm) : Option (Int32 × Mm) :=
  if s0 = 0 then (some ((2 : Int32), M)) else (some ((1 : Int32), M))
def fX10_checkSignature_114 (i1 : Nat) (M : Mm) : Option (Int32 × Mm) :=
  fX10_checkSignature_115 i1 (0 : Int32) M
def fX10_checkSignature_55 (i1 : Nat) (x3 : Int32) (M : Mm) : Option (Int32 × Mm) :=
  bn1 (fX8_isBodyRelaxed i1 M) (fun v64 => bn2 (fX4_bodyForm v64 M) (fun v67 M67 => grd (decide (v67 < 8)) (if (M (263 + i1) 4) ≤ (M67 (246 + v67) 1) then (bn2 (fX4_bodyDigestFor i1 M67) (fun v88 M88 => if (M67 (263 + i1) 6) = v88 then (bn2 (fX4_sealFor i1 x3 M88) (fun v104 M104 => if (M88 (263 + i1) 7) = v104 then (fX10_checkSignature_115 i1 (1 : Int32) M104) else (fX10_checkSignature_114 i1 M104))) else (fX10_checkSignature_114 i1 M88))) else (some ((6 : Int32), M67)))))
def fX10_checkSignature (i1 : Nat) (M : Mm) : Option (Int32 × Mm) :=
  grd (gin (M (263 + i1) 0) 20) (if (M (2 + (M (263 + i1) 0).toNatClampNeg) 2) = 0 then (grd (gin (M (263 + i1) 1) 2) (nm (M (202 + (M (263 + i1) 0).toNatClampNeg) (M (263 + i1) 1).toNatClampNeg) (fun v28 => if v28 = 0 then (some ((6 : Int32), M)) else (if (M (263 + i1) 5) = (-1 : Int32) then (fX10_checkSignature_55 i1 v28 M) else (if (M 0 7) < (M (263 + i1) 5) then (fX10_checkSignature_55 i1 v28 M) else (some ((6 : Int32), M))))))) else (some ((5 : Int32), M)))
set_option maxRecDepth 100000 in
set_option maxHeartbeats 4000000 in
theorem kX10_checkSignature (l : Launch) (D : va_G) (ad : Nat → Nat) (cA : Nat → ClassId) (A : Nat → Prop) {i1 : Nat} {M M1 : Mm} {r : Int32} (hi1 : i1 < 7) (h : fX10_checkSignature i1 M = some (r, M1)) : Met l yX10_checkSignature wsX10_checkSignature rmX10_checkSignature (gPc D (tyM cA) 289 (layM ad cA) ad A M [.ref (ad 0), .ref (ad (263 + i1))]) (gQi D 289 (layM ad cA) ad A M1 r) 0 0 A := by
  refine Met.ofW (cc := cX10_checkSignature) (maxL := 5) (ret := (some .int)) (by decide) rfl ?_
  intro p e s m args below meth c s₁ B hml hv
  obtain ⟨ha, hP, hK, hD, hN⟩ := hv
  have hx := B.exec
  have hb := B.bytes
  have hr := B.returns
  have hlk := B.notSynchronized
  have hts : ∀ w ∈ lw_g, w.before args s = true := fun w h => atoms_spec (ws := wsX10_checkSignature) B.pre w (List.mem_cons_of_mem _ h)
  have hown : s.vm.findClass RX10 = some m.cls := findClass_of_methodNamed B.named
  have hS : va_S A s.heap s.heap [] := va_S.rf
  unfold fX10_checkSignature at h
  have w11 := hts _ wm368
  have w249 := hts _ wm225
  have w69 := hts _ wm158
  have w108 := hts _ wm169
  have w252 := hts _ wm228
  have w255 := hts _ wm238
  have w51 := hts _ wm375
  have w258 := hts _ wm235
  have w30 := hts _ wm371
  have w148 := hts _ wm208
  have w265 := hts _ wm240
  have w183 := hts _ wm242
  have bk115 : ∀ (s0 : Int32) (M : Mm) (ls : Array Slot) (H : Heap) (locs : List Loc), lv_has ls 5 [] → fX10_checkSignature_115 i1 s0 M = some (r, M1) → va_P D vwCl (gw 289 (layM ad cA) ad M) H → va_S A s.heap H locs → W p l e (headSpec wsX10_checkSignature rmX10_checkSignature).room s m args below meth c H locs 0 0 (MQ below (gQi D 289 (layM ad cA) ad A M1 r) args s 0 0 A) (F0 m 115 ls [.int s0]) := by
    intro s0 M ls H locs hl h hP hS
    unfold fX10_checkSignature_115 at h
    refine w_pc 115 rfl ?_
    refine lv_istore (lv' := [(4, .int s0)]) hx hb dX10_checkSignature_115 hl (by decide) rfl (fun ls hl => ?_)
    refine lv_iload hx hb dX10_checkSignature_117 (lv_at hl 0 rfl) ?_
    refine w_pc 119 rfl ?_
    refine lv_if_eq (tgt := 126) hx hb dX10_checkSignature_119 (by decide) (fun q119 => ?_) (fun q119 => ?_)
    · replace h := (if_pos q119).symm.trans h
      refine w_pc 126 rfl ?_
      refine lv_iconst (v := 2) hx hb dX10_checkSignature_126 (by decide) ?_
      exact re_i hx hb hr hlk h hP hS dX10_checkSignature_127
    · replace h := (if_neg q119).symm.trans h
      refine w_pc 122 rfl ?_
      refine lv_iconst (v := 1) hx hb dX10_checkSignature_122 (by decide) ?_
      refine lv_goto (tgt := 127) hx hb dX10_checkSignature_123 (by decide) ?_
      exact re_i hx hb hr hlk h hP hS dX10_checkSignature_127
  have bk114 : ∀ (M : Mm) (ls : Array Slot) (H : Heap) (locs : List Loc), lv_has ls 5 [] → fX10_checkSignature_114 i1 M = some (r, M1) → va_P D vwCl (gw 289 (layM ad cA) ad M) H → va_S A s.heap H locs → W p l e (headSpec wsX10_checkSignature rmX10_checkSignature).room s m args below meth c H locs 0 0 (MQ below (gQi D 289 (layM ad cA) ad A M1 r) args s 0 0 A) (F0 m 114 ls []) := by
    intro M ls H locs hl h hP hS
    unfold fX10_checkSignature_114 at h
    refine w_pc 114 rfl ?_
    refine lv_iconst (v := 0) hx hb dX10_checkSignature_114 (by decide) ?_
    exact bk115 (0 : Int32) M ls _ _ (lv_sub hl [] rfl) h hP hS
  have bk55 : ∀ (x3 : Int32) (M : Mm) (ls : Array Slot) (H : Heap) (locs : List Loc), lv_has ls 5 [(0, .ref (ad 0)), (1, .ref (ad (263 + i1))), (3, .int x3)] → fX10_checkSignature_55 i1 x3 M = some (r, M1) → va_P D vwCl (gw 289 (layM ad cA) ad M) H → va_S A s.heap H locs → W p l e (headSpec wsX10_checkSignature rmX10_checkSignature).room s m args below meth c H locs 0 0 (MQ below (gQi D 289 (layM ad cA) ad A M1 r) args s 0 0 A) (F0 m 55 ls []) := by
    intro x3 M ls H locs hl h hP hS
    unfold fX10_checkSignature_55 at h
    refine w_pc 55 rfl ?_
    refine lv_aload_n hx hb dX10_checkSignature_55 rfl (lv_at hl 1 rfl) ?_
    refine gw_get (C := RX8) (T := TX8) (N := 8) (v := .int (M (263 + i1) 4)) hx hb hts hinX8 hown hK hP (by omega) (lyMSig (by omega)) rfl 4 (by decide) w258 (fun _ h9 => h9) rfl dX10_checkSignature_56 ?_
    refine lv_aload_n hx hb dX10_checkSignature_59 rfl (lv_at hl 0 rfl) ?_
    refine gw_get (C := RX10) (T := TX10) (N := 8) (v := .ref (ad 243)) hx hb hts hinX10 hown hK hP (by omega) lyMMA rfl 3 (by decide) w30 (fun _ h9 => h9) rfl dX10_checkSignature_60 ?_
    refine lv_aload_n hx hb dX10_checkSignature_63 rfl (lv_at hl 1 rfl) ?_
    refine w_pc 64 rfl ?_
    obtain ⟨v64, c64, h⟩ := bn1_some h
    refine cl_i (rn_v (As := []) (rest := [.ref (ad 243), .int (M (263 + i1) 4)]) ⟨hx, hb, hml, hown, hts⟩ (kX8_isBodyRelaxed l D ad cA A (by omega) c64) ⟨callB_of 0 hts (gdc wm550) rfl rfl rfl (hts _ wm57) (hts _ wm592) hdX8_isBodyRelaxed ⟨Nat.le_of_ble_eq_true rfl, Nat.le_of_ble_eq_true rfl⟩, hts _ wm548, hts _ wm549⟩ hK hP hD hN (by omega) (lyMSig (by omega)) rfl rfl hl.1 rfl (lv_room (Nat.le_of_ble_eq_true rfl)) dX10_checkSignature_64) hS (fun H locs hP hS => ?_)
    refine w_pc 67 rfl ?_
    refine w_pc 67 rfl ?_
    obtain ⟨v67, M67, c67, h⟩ := bn2_some h
    obtain ⟨g67, h⟩ := gd_lt h
    refine cl_r (rn_v (As := [.int v64]) (rest := [.int (M (263 + i1) 4)]) ⟨hx, hb, hml, hown, hts⟩ (kX4_bodyForm l D ad cA A c67) ⟨callB_of 1 hts (gdc wm502) rfl rfl rfl (hts _ wm55) (hts _ wm499) hdX4_bodyForm ⟨Nat.le_of_ble_eq_true rfl, Nat.le_of_ble_eq_true rfl⟩, hts _ wm500, hts _ wm501⟩ hK hP hD hN (by omega) lyMMail rfl rfl hl.1 rfl (lv_room (Nat.le_of_ble_eq_true rfl)) dX10_checkSignature_67) hS (fun H locs hP hS => ?_)
    refine w_pc 70 rfl ?_
    refine gw_get (C := RX9) (T := TX9) (N := 2) (v := .int (M67 (246 + v67) 1)) hx hb hts hinX9 hown hK hP (by omega) (lyMText (by omega)) rfl 1 (by decide) w148 (fun _ h9 => h9) rfl dX10_checkSignature_70 ?_
    refine w_pc 73 rfl ?_
    refine lv_icmp_le (tgt := 79) hx hb dX10_checkSignature_73 (by decide) (fun q73 => ?_) (fun q73 => ?_)
    · replace h := (if_pos q73).symm.trans h
      refine w_pc 79 rfl ?_
      refine lv_aload_n hx hb dX10_checkSignature_79 rfl (lv_at hl 1 rfl) ?_
      refine gw_get (C := RX8) (T := TX8) (N := 8) (v := .int (M67 (263 + i1) 6)) hx hb hts hinX8 hown hK hP (by omega) (lyMSig (by omega)) rfl 6 (by decide) w265 (fun _ h9 => h9) rfl dX10_checkSignature_80 ?_
      refine lv_aload_n hx hb dX10_checkSignature_83 rfl (lv_at hl 0 rfl) ?_
      refine gw_get (C := RX10) (T := TX10) (N := 8) (v := .ref (ad 243)) hx hb hts hinX10 hown hK hP (by omega) lyMMA rfl 3 (by decide) w30 (fun _ h9 => h9) rfl dX10_checkSignature_84 ?_
      refine lv_aload_n hx hb dX10_checkSignature_87 rfl (lv_at hl 1 rfl) ?_
      refine w_pc 88 rfl ?_
      obtain ⟨v88, M88, c88, h⟩ := bn2_some h
      refine cl_i (rn_v (As := [.ref (ad (263 + i1))]) (rest := [.int (M67 (263 + i1) 6)]) ⟨hx, hb, hml, hown, hts⟩ (kX4_bodyDigestFor l D ad cA A (by omega) c88) ⟨callB_of 1 hts (gdc wm546) rfl rfl rfl (hts _ wm55) (hts _ wm593) hdX4_bodyDigestFor ⟨Nat.le_of_ble_eq_true rfl, Nat.le_of_ble_eq_true rfl⟩, hts _ wm544, hts _ wm545⟩ hK hP hD hN (by omega) lyMMail rfl rfl hl.1 rfl (lv_room (Nat.le_of_ble_eq_true rfl)) dX10_checkSignature_88) hS (fun H locs hP hS => ?_)
      refine w_pc 91 rfl ?_
      refine w_pc 91 rfl ?_
      refine lv_icmp_ne (tgt := 114) hx hb dX10_checkSignature_91 (by decide) (fun q91 => ?_) (fun q91 => ?_)
      · replace h := (if_neg q91).symm.trans h
        refine w_pc 114 rfl ?_
        exact bk114 M88 ls _ _ (lv_sub hl [] rfl) h hP hS
      · replace h := (if_pos q91).symm.trans h
        refine w_pc 94 rfl ?_
        refine lv_aload_n hx hb dX10_checkSignature_94 rfl (lv_at hl 1 rfl) ?_
        refine gw_get (C := RX8) (T := TX8) (N := 8) (v := .int (M88 (263 + i1) 7)) hx hb hts hinX8 hown hK hP (by omega) (lyMSig (by omega)) rfl 7 (by decide) w183 (fun _ h9 => h9) rfl dX10_checkSignature_95 ?_
        refine lv_aload_n hx hb dX10_checkSignature_98 rfl (lv_at hl 0 rfl) ?_
        refine gw_get (C := RX10) (T := TX10) (N := 8) (v := .ref (ad 243)) hx hb hts hinX10 hown hK hP (by omega) lyMMA rfl 3 (by decide) w30 (fun _ h9 => h9) rfl dX10_checkSignature_99 ?_
        refine lv_aload_n hx hb dX10_checkSignature_102 rfl (lv_at hl 1 rfl) ?_
        refine lv_iload_n hx hb dX10_checkSignature_103 rfl (lv_at hl 2 rfl) ?_
        refine w_pc 104 rfl ?_
        obtain ⟨v104, M104, c104, h⟩ := bn2_some h
        refine cl_i (rn_v (As := [.ref (ad (263 + i1)), .int x3]) (rest := [.int (M88 (263 + i1) 7)]) ⟨hx, hb, hml, hown, hts⟩ (kX4_sealFor l D ad cA A (by omega) c104) ⟨callB_of 2 hts (gdc wm565) rfl rfl rfl (hts _ wm55) (hts _ wm594) hdX4_sealFor ⟨Nat.le_of_ble_eq_true rfl, Nat.le_of_ble_eq_true rfl⟩, hts _ wm563, hts _ wm564⟩ hK hP hD hN (by omega) lyMMail rfl rfl hl.1 rfl (lv_room (Nat.le_of_ble_eq_true rfl)) dX10_checkSignature_104) hS (fun H locs hP hS => ?_)
        refine w_pc 107 rfl ?_
        refine w_pc 107 rfl ?_
        refine lv_icmp_ne (tgt := 114) hx hb dX10_checkSignature_107 (by decide) (fun q107 => ?_) (fun q107 => ?_)
        · replace h := (if_neg q107).symm.trans h
          refine w_pc 114 rfl ?_
          exact bk114 M104 ls _ _ (lv_sub hl [] rfl) h hP hS
        · replace h := (if_pos q107).symm.trans h
          refine w_pc 110 rfl ?_
          refine lv_iconst (v := 1) hx hb dX10_checkSignature_110 (by decide) ?_
          refine lv_goto (tgt := 115) hx hb dX10_checkSignature_111 (by decide) ?_
          exact bk115 (1 : Int32) M104 ls _ _ (lv_sub hl [] rfl) h hP hS
    · replace h := (if_neg q73).symm.trans h
      refine w_pc 76 rfl ?_
      refine lv_bipush (v := 6) hx hb dX10_checkSignature_76 (by decide) ?_
      exact re_i hx hb hr hlk h hP hS dX10_checkSignature_78
  refine w_entry ha (Nat.le_of_ble_eq_true rfl) (fun ls hl => ?_)
  have hl : lv_has ls 5 [(0, .ref (ad 0)), (1, .ref (ad (263 + i1)))] := hl
  refine w_pc 0 rfl ?_
  refine lv_aload_n hx hb dX10_checkSignature_0 rfl (lv_at hl 0 rfl) ?_
  refine gw_get (C := RX10) (T := TX10) (N := 8) (v := .ref (ad 1)) hx hb hts hinX10 hown hK hP (by omega) lyMMA rfl 0 (by decide) w11 (fun _ h9 => h9) rfl dX10_checkSignature_1 ?_
  refine lv_aload_n hx hb dX10_checkSignature_4 rfl (lv_at hl 1 rfl) ?_
  refine gw_get (C := RX8) (T := TX8) (N := 8) (v := .int (M (263 + i1) 0)) hx hb hts hinX8 hown hK hP (by omega) (lyMSig (by omega)) rfl 0 (by decide) w249 (fun _ h9 => h9) rfl dX10_checkSignature_5 ?_
  obtain ⟨g8, h⟩ := gd_in h
  have b8 := some_lo g8
  refine gw_aald hx hb hK hP 2 (by omega) lyMaDom rfl g8 dX10_checkSignature_8 ?_
  refine lv_astore_n (lv' := [(2, .ref (ad (2 + (M (263 + i1) 0).toNatClampNeg))), (0, .ref (ad 0)), (1, .ref (ad (263 + i1)))]) hx hb dX10_checkSignature_9 rfl hl (by decide) rfl (fun ls hl => ?_)
  refine lv_aload_n hx hb dX10_checkSignature_10 rfl (lv_at hl 0 rfl) ?_
  refine w_pc 11 rfl ?_
  refine gw_get (C := RX1) (T := TX1) (N := 8) (v := .int (M (2 + (M (263 + i1) 0).toNatClampNeg) 2)) hx hb hts hinX1 hown hK hP (by omega) (lyMDom (by omega)) rfl 2 (by decide) w69 (fun _ h9 => h9) rfl dX10_checkSignature_11 ?_
  refine w_pc 14 rfl ?_
  refine lv_if_eq (tgt := 19) hx hb dX10_checkSignature_14 (by decide) (fun q14 => ?_) (fun q14 => ?_)
  · replace h := (if_pos q14).symm.trans h
    refine w_pc 19 rfl ?_
    refine lv_aload_n hx hb dX10_checkSignature_19 rfl (lv_at hl 0 rfl) ?_
    refine gw_get (C := RX1) (T := TX1) (N := 8) (v := .ref (ad (202 + (M (263 + i1) 0).toNatClampNeg))) hx hb hts hinX1 hown hK hP (by omega) (lyMDom (by omega)) rfl 6 (by decide) w108 (fun _ h9 => h9) rfl dX10_checkSignature_20 ?_
    refine lv_aload_n hx hb dX10_checkSignature_23 rfl (lv_at hl 2 rfl) ?_
    refine gw_get (C := RX8) (T := TX8) (N := 8) (v := .int (M (263 + i1) 1)) hx hb hts hinX8 hown hK hP (by omega) (lyMSig (by omega)) rfl 1 (by decide) w252 (fun _ h9 => h9) rfl dX10_checkSignature_24 ?_
    obtain ⟨g27, h⟩ := gd_in h
    refine gw_iald hx hb hK hP 0 (by omega) (lyMaKey (by omega)) rfl g27 dX10_checkSignature_27 ?_
    obtain ⟨v28, e28, h⟩ := nm_some h
    refine w_ti e28 ?_
    refine lv_istore_n (lv' := [(3, .int v28), (2, .ref (ad (2 + (M (263 + i1) 0).toNatClampNeg))), (0, .ref (ad 0)), (1, .ref (ad (263 + i1)))]) hx hb dX10_checkSignature_28 rfl hl (by decide) rfl (fun ls hl => ?_)
    refine lv_iload_n hx hb dX10_checkSignature_29 rfl (lv_at hl 0 rfl) ?_
    refine w_pc 30 rfl ?_
    refine w_pc 30 rfl ?_
    refine lv_if_eq (tgt := 52) hx hb dX10_checkSignature_30 (by decide) (fun q30 => ?_) (fun q30 => ?_)
    · replace h := (if_pos q30).symm.trans h
      refine w_pc 52 rfl ?_
      refine lv_bipush (v := 6) hx hb dX10_checkSignature_52 (by decide) ?_
      exact re_i hx hb hr hlk h hP hS dX10_checkSignature_54
    · replace h := (if_neg q30).symm.trans h
      refine w_pc 33 rfl ?_
      refine lv_aload_n hx hb dX10_checkSignature_33 rfl (lv_at hl 3 rfl) ?_
      refine gw_get (C := RX8) (T := TX8) (N := 8) (v := .int (M (263 + i1) 5)) hx hb hts hinX8 hown hK hP (by omega) (lyMSig (by omega)) rfl 5 (by decide) w255 (fun _ h9 => h9) rfl dX10_checkSignature_34 ?_
      refine lv_iconst (v := -1) hx hb dX10_checkSignature_37 (by decide) ?_
      refine w_pc 38 rfl ?_
      refine lv_icmp_eq (tgt := 55) hx hb dX10_checkSignature_38 (by decide) (fun q38 => ?_) (fun q38 => ?_)
      · replace h := (if_pos q38).symm.trans h
        refine w_pc 55 rfl ?_
        exact bk55 v28 M ls _ _ (lv_sub hl [2, 3, 0] rfl) h hP hS
      · replace h := (if_neg q38).symm.trans h
        refine w_pc 41 rfl ?_
        refine lv_aload_n hx hb dX10_checkSignature_41 rfl (lv_at hl 3 rfl) ?_
        refine gw_get (C := RX8) (T := TX8) (N := 8) (v := .int (M (263 + i1) 5)) hx hb hts hinX8 hown hK hP (by omega) (lyMSig (by omega)) rfl 5 (by decide) w255 (fun _ h9 => h9) rfl dX10_checkSignature_42 ?_
        refine lv_aload_n hx hb dX10_checkSignature_45 rfl (lv_at hl 2 rfl) ?_
        refine gw_get (C := RX10) (T := TX10) (N := 8) (v := .int (M 0 7)) hx hb hts hinX10 hown hK hP (by omega) lyMMA rfl 7 (by decide) w51 (fun _ h9 => h9) rfl dX10_checkSignature_46 ?_
        refine w_pc 49 rfl ?_
        refine lv_icmp_gt (tgt := 55) hx hb dX10_checkSignature_49 (by decide) (fun q49 => ?_) (fun q49 => ?_)
        · replace h := (if_pos q49).symm.trans h
          refine w_pc 55 rfl ?_
          exact bk55 v28 M ls _ _ (lv_sub hl [2, 3, 0] rfl) h hP hS
        · replace h := (if_neg q49).symm.trans h
          refine w_pc 52 rfl ?_
          refine lv_bipush (v := 6) hx hb dX10_checkSignature_52 (by decide) ?_
          exact re_i hx hb hr hlk h hP hS dX10_checkSignature_54
  · replace h := (if_neg q14).symm.trans h
    refine w_pc 17 rfl ?_
    refine lv_iconst (v := 5) hx hb dX10_checkSignature_17 (by decide) ?_
    exact re_i hx hb hr hlk h hP hS dX10_checkSignature_18
def rmX10_signature : Room := { frames := 5, cells := 0, slots := 0, locals := 118 }
def fX10_signature (a1 : Int32) (M : Mm) : Option (Int32 × Mm) :=
  bn1 (fX10_isSignature a1 M) (fun v2 => if v2 = 0 then (some ((-1 : Int32), M)) else (grd (gin a1 3) (bn2 (fX10_checkSignature a1.toNatClampNeg M) (fun v18 M18 => some (v18, M18)))))
set_option maxRecDepth 100000 in
set_option maxHeartbeats 4000000 in
theorem kX10_signature (l : Launch) (D : va_G) (ad : Nat → Nat) (cA : Nat → ClassId) (A : Nat → Prop) {a1 : Int32} {M M1 : Mm} {r : Int32} (h : fX10_signature a1 M = some (r, M1)) : Met l yX10_signature wsX10_signature rmX10_signature (gPc D (tyM cA) 289 (layM ad cA) ad A M [.ref (ad 0), .int a1]) (gQi D 289 (layM ad cA) ad A M1 r) 0 0 A := by
  refine Met.ofW (cc := cX10_signature) (maxL := 2) (ret := (some .int)) (by decide) rfl ?_
  intro p e s m args below meth c s₁ B hml hv
  obtain ⟨ha, hP, hK, hD, hN⟩ := hv
  have hx := B.exec
  have hb := B.bytes
  have hr := B.returns
  have hlk := B.notSynchronized
  have hts : ∀ w ∈ lw_g, w.before args s = true := fun w h => atoms_spec (ws := wsX10_signature) B.pre w (List.mem_cons_of_mem _ h)
  have hown : s.vm.findClass RX10 = some m.cls := findClass_of_methodNamed B.named
  have hS : va_S A s.heap s.heap [] := va_S.rf
  unfold fX10_signature at h
  have w30 := hts _ wm371
  have w179 := hts _ wm295
  refine w_entry ha (Nat.le_of_ble_eq_true rfl) (fun ls hl => ?_)
  have hl : lv_has ls 2 [(0, .ref (ad 0)), (1, .int a1)] := hl
  refine w_pc 0 rfl ?_
  refine lv_aload_n hx hb dX10_signature_0 rfl (lv_at hl 0 rfl) ?_
  refine lv_iload_n hx hb dX10_signature_1 rfl (lv_at hl 1 rfl) ?_
  refine w_pc 2 rfl ?_
  obtain ⟨v2, c2, h⟩ := bn1_some h
  refine cl_i (rn_v (As := [.int a1]) (rest := []) ⟨hx, hb, hml, hown, hts⟩ (kX10_isSignature l D ad cA A c2) ⟨callB_of 1 hts (gdc wm583) rfl rfl rfl (hts _ wm50) (hts _ wm580) hdX10_isSignature ⟨Nat.le_of_ble_eq_true rfl, Nat.le_of_ble_eq_true rfl⟩, hts _ wm582, hts _ wm4⟩ hK hP hD hN (by omega) lyMMA rfl rfl hl.1 rfl (lv_room (Nat.le_of_ble_eq_true rfl)) dX10_signature_2) hS (fun H locs hP hS => ?_)
  refine w_pc 5 rfl ?_
  refine w_pc 5 rfl ?_
  refine lv_if_eq (tgt := 24) hx hb dX10_signature_5 (by decide) (fun q5 => ?_) (fun q5 => ?_)
  · replace h := (if_pos q5).symm.trans h
    refine w_pc 24 rfl ?_
    refine lv_iconst (v := -1) hx hb dX10_signature_24 (by decide) ?_
    exact re_i hx hb hr hlk h hP hS dX10_signature_25
  · replace h := (if_neg q5).symm.trans h
    refine w_pc 8 rfl ?_
    refine lv_aload_n hx hb dX10_signature_8 rfl (lv_at hl 0 rfl) ?_
    refine lv_aload_n hx hb dX10_signature_9 rfl (lv_at hl 0 rfl) ?_
    refine gw_get (C := RX10) (T := TX10) (N := 8) (v := .ref (ad 243)) hx hb hts hinX10 hown hK hP (by omega) lyMMA rfl 3 (by decide) w30 (fun _ h9 => h9) rfl dX10_signature_10 ?_
    refine gw_get (C := RX4) (T := TX4) (N := 13) (v := .ref (ad 262)) hx hb hts hinX4 hown hK hP (by omega) lyMMail rfl 9 (by decide) w179 (fun _ h9 => h9) rfl dX10_signature_13 ?_
    refine lv_iload_n hx hb dX10_signature_16 rfl (lv_at hl 1 rfl) ?_
    obtain ⟨g17, h⟩ := gd_in h
    have b17 := some_lo g17
    refine gw_aald hx hb hK hP 5 (by omega) lyMaSig rfl g17 dX10_signature_17 ?_
    refine w_pc 18 rfl ?_
    obtain ⟨v18, M18, c18, h⟩ := bn2_some h
    refine cl_i (rn_v (As := [.ref (ad (263 + a1.toNatClampNeg))]) (rest := []) ⟨hx, hb, hml, hown, hts⟩ (kX10_checkSignature l D ad cA A (by omega) c18) ⟨callB_of 1 hts (gdc wm591) rfl rfl rfl (hts _ wm50) (hts _ wm588) hdX10_checkSignature ⟨Nat.le_of_ble_eq_true rfl, Nat.le_of_ble_eq_true rfl⟩, hts _ wm590, hts _ wm5⟩ hK hP hD hN (by omega) lyMMA rfl rfl hl.1 rfl (lv_room (Nat.le_of_ble_eq_true rfl)) dX10_signature_18) hS (fun H locs hP hS => ?_)
    refine w_pc 21 rfl ?_
    refine lv_goto (tgt := 25) hx hb dX10_signature_21 (by decide) ?_
    exact re_i hx hb hr hlk h hP hS dX10_signature_25
def rmX10_agree : Room := { frames := 0, cells := 0, slots := 0, locals := 0 }
def fX10_agree (a0 : Int32) (a1 : Int32) (a2 : Int32) : Option Int32 :=
  if a2 = 0 then (some (1 : Int32)) else (if (ushr32 (a0 ^^^ a1) ((32 : Int32) - a2)) = 0 then (some (1 : Int32)) else (some (0 : Int32)))
set_option maxRecDepth 100000 in
set_option maxHeartbeats 4000000 in
theorem kX10_agree (l : Launch) (D : va_G) (ad : Nat → Nat) (cA : Nat → ClassId) (A : Nat → Prop) {a0 : Int32} {a1 : Int32} {a2 : Int32} {M : Mm} {r : Int32} (h : fX10_agree a0 a1 a2 = some r) : Met l yX10_agree wsX10_agree rmX10_agree (gPc D (tyM cA) 289 (layM ad cA) ad A M [.int a0, .int a1, .int a2]) (gQi D 289 (layM ad cA) ad A M r) 0 0 A := by
  refine Met.ofW (cc := cX10_agree) (maxL := 3) (ret := (some .boolean)) (by decide) rfl ?_
  intro p e s m args below meth c s₁ B hml hv
  obtain ⟨ha, hP, hK, hD, hN⟩ := hv
  have hx := B.exec
  have hb := B.bytes
  have hr := B.returns
  have hlk := B.notSynchronized
  have hts : ∀ w ∈ lw_g, w.before args s = true := fun w h => atoms_spec (ws := wsX10_agree) B.pre w (List.mem_cons_of_mem _ h)
  have hown : s.vm.findClass RX10 = some m.cls := findClass_of_methodNamed B.named
  have hS : va_S A s.heap s.heap [] := va_S.rf
  unfold fX10_agree at h
  refine w_entry ha (Nat.le_of_ble_eq_true rfl) (fun ls hl => ?_)
  have hl : lv_has ls 3 [(0, .int a0), (1, .int a1), (2, .int a2)] := hl
  refine w_pc 0 rfl ?_
  refine lv_iload_n hx hb dX10_agree_0 rfl (lv_at hl 2 rfl) ?_
  refine w_pc 1 rfl ?_
  refine lv_if_eq (tgt := 15) hx hb dX10_agree_1 (by decide) (fun q1 => ?_) (fun q1 => ?_)
  · replace h := (if_pos q1).symm.trans h
    refine w_pc 15 rfl ?_
    refine lv_iconst (v := 1) hx hb dX10_agree_15 (by decide) ?_
    refine lv_goto (tgt := 20) hx hb dX10_agree_16 (by decide) ?_
    exact re_z hx hb hr hlk (Or.inr rfl) (sm_r h) hP hS dX10_agree_20
  · replace h := (if_neg q1).symm.trans h
    refine w_pc 4 rfl ?_
    refine lv_iload_n hx hb dX10_agree_4 rfl (lv_at hl 0 rfl) ?_
    refine lv_iload_n hx hb dX10_agree_5 rfl (lv_at hl 1 rfl) ?_
    refine lv_ixor hx hb dX10_agree_6 ?_
    refine lv_bipush (v := 32) hx hb dX10_agree_7 (by decide) ?_
    refine lv_iload_n hx hb dX10_agree_9 rfl (lv_at hl 2 rfl) ?_
    refine lv_isub hx hb dX10_agree_10 ?_
    refine lv_iushr (v := ushr32 (a0 ^^^ a1) ((32 : Int32) - a2)) hx hb dX10_agree_11 rfl ?_
    refine w_pc 12 rfl ?_
    refine w_pc 12 rfl ?_
    refine lv_if_ne (tgt := 19) hx hb dX10_agree_12 (by decide) (fun q12 => ?_) (fun q12 => ?_)
    · replace h := (if_neg q12).symm.trans h
      refine w_pc 19 rfl ?_
      refine lv_iconst (v := 0) hx hb dX10_agree_19 (by decide) ?_
      exact re_z hx hb hr hlk (Or.inl rfl) (sm_r h) hP hS dX10_agree_20
    · replace h := (if_pos q12).symm.trans h
      refine w_pc 15 rfl ?_
      refine lv_iconst (v := 1) hx hb dX10_agree_15 (by decide) ?_
      refine lv_goto (tgt := 20) hx hb dX10_agree_16 (by decide) ?_
      exact re_z hx hb hr hlk (Or.inr rfl) (sm_r h) hP hS dX10_agree_20
def rmX0_matchIf : Room := { frames := 0, cells := 0, slots := 0, locals := 0 }
def fX0_matchIf (a0 : Int32) : Option Int32 :=
  if a0 = 0 then (some (0 : Int32)) else (some (1 : Int32))
set_option maxRecDepth 100000 in
set_option maxHeartbeats 4000000 in
theorem kX0_matchIf (l : Launch) (D : va_G) (ad : Nat → Nat) (cA : Nat → ClassId) (A : Nat → Prop) {a0 : Int32} {M : Mm} {r : Int32} (h : fX0_matchIf a0 = some r) : Met l yX0_matchIf wsX0_matchIf rmX0_matchIf (gPc D (tyM cA) 289 (layM ad cA) ad A M [.int a0]) (gQi D 289 (layM ad cA) ad A M r) 0 0 A := by
  refine Met.ofW (cc := cX0_matchIf) (maxL := 1) (ret := (some .int)) (by decide) rfl ?_
  intro p e s m args below meth c s₁ B hml hv
  obtain ⟨ha, hP, hK, hD, hN⟩ := hv
  have hx := B.exec
  have hb := B.bytes
  have hr := B.returns
  have hlk := B.notSynchronized
  have hts : ∀ w ∈ lw_g, w.before args s = true := fun w h => atoms_spec (ws := wsX0_matchIf) B.pre w (List.mem_cons_of_mem _ h)
  have hown : s.vm.findClass RX0 = some m.cls := findClass_of_methodNamed B.named
  have hS : va_S A s.heap s.heap [] := va_S.rf
  unfold fX0_matchIf at h
  refine w_entry ha (Nat.le_of_ble_eq_true rfl) (fun ls hl => ?_)
  have hl : lv_has ls 1 [(0, .int a0)] := hl
  refine w_pc 0 rfl ?_
  refine lv_iload_n hx hb dX0_matchIf_0 rfl (lv_at hl 0 rfl) ?_
  refine w_pc 1 rfl ?_
  refine lv_if_eq (tgt := 8) hx hb dX0_matchIf_1 (by decide) (fun q1 => ?_) (fun q1 => ?_)
  · replace h := (if_pos q1).symm.trans h
    refine w_pc 8 rfl ?_
    refine lv_iconst (v := 0) hx hb dX0_matchIf_8 (by decide) ?_
    exact re_i hx hb hr hlk (sm_r h) hP hS dX0_matchIf_9
  · replace h := (if_neg q1).symm.trans h
    refine w_pc 4 rfl ?_
    refine lv_iconst (v := 1) hx hb dX0_matchIf_4 (by decide) ?_
    refine lv_goto (tgt := 9) hx hb dX0_matchIf_5 (by decide) ?_
    exact re_i hx hb hr hlk (sm_r h) hP hS dX0_matchIf_9
def rmX0_isLookupTooMany : Room := { frames := 0, cells := 0, slots := 0, locals := 0 }
def fX0_isLookupTooMany (M : Mm) : Option (Int32 × Mm) :=
  nm (up2 M 275 0 ((M 275 0) + (1 : Int32))) (fun M7 => if (M7 275 0) ≤ (10 : Int32) then (some ((0 : Int32), M7)) else (some ((1 : Int32), M7)))
set_option maxRecDepth 100000 in
set_option maxHeartbeats 4000000 in
theorem kX0_isLookupTooMany (l : Launch) (D : va_G) (ad : Nat → Nat) (cA : Nat → ClassId) (A : Nat → Prop) {M M1 : Mm} {r : Int32} (h : fX0_isLookupTooMany M = some (r, M1)) : Met l yX0_isLookupTooMany wsX0_isLookupTooMany rmX0_isLookupTooMany (gPc D (tyM cA) 289 (layM ad cA) ad A M [.ref (ad 275)]) (gQi D 289 (layM ad cA) ad A M1 r) 0 0 A := by
  refine Met.ofW (cc := cX0_isLookupTooMany) (maxL := 1) (ret := (some .boolean)) (by decide) rfl ?_
  intro p e s m args below meth c s₁ B hml hv
  obtain ⟨ha, hP, hK, hD, hN⟩ := hv
  have hx := B.exec
  have hb := B.bytes
  have hr := B.returns
  have hlk := B.notSynchronized
  have hts : ∀ w ∈ lw_g, w.before args s = true := fun w h => atoms_spec (ws := wsX0_isLookupTooMany) B.pre w (List.mem_cons_of_mem _ h)
  have hown : s.vm.findClass RX0 = some m.cls := findClass_of_methodNamed B.named
  have hS : va_S A s.heap s.heap [] := va_S.rf
  unfold fX0_isLookupTooMany at h
  have w9 := hts _ wm335
  refine w_entry ha (Nat.le_of_ble_eq_true rfl) (fun ls hl => ?_)
  have hl : lv_has ls 1 [(0, .ref (ad 275))] := hl
  refine w_pc 0 rfl ?_
  refine lv_aload_n hx hb dX0_isLookupTooMany_0 rfl (lv_at hl 0 rfl) ?_
  refine lv_dup hx hb dX0_isLookupTooMany_1 rfl ?_
  refine gw_get (C := RX0) (T := TX0) (N := 2) (v := .int (M 275 0)) hx hb hts hinX0 hown hK hP (by omega) lyMChk rfl 0 (by decide) w9 (fun _ h9 => h9) rfl dX0_isLookupTooMany_2 ?_
  refine lv_iconst (v := 1) hx hb dX0_isLookupTooMany_5 (by decide) ?_
  refine lv_iadd hx hb dX0_isLookupTooMany_6 ?_
  obtain ⟨M7, eM7, h⟩ := nm_some h
  refine gw_put (C := RX0) (T := TX0) (N := 2) (ty := .int) hx hb hts hinX0 tyX0 tyX0_ok nmX0 hown hK hP hD hS (by omega) lyMChk rfl 0 (by decide) w9 (fun _ h9 => h9) rfl (by decide +kernel) rfl rfl (Nat.le_of_ble_eq_true rfl) rfl eM7 dX0_isLookupTooMany_7 (fun H locs hP hS => ?_)
  refine lv_aload_n hx hb dX0_isLookupTooMany_10 rfl (lv_at hl 0 rfl) ?_
  refine w_pc 11 rfl ?_
  refine gw_get (C := RX0) (T := TX0) (N := 2) (v := .int (M7 275 0)) hx hb hts hinX0 hown hK hP (by omega) lyMChk rfl 0 (by decide) w9 (fun _ h9 => h9) rfl dX0_isLookupTooMany_11 ?_
  refine lv_bipush (v := 10) hx hb dX0_isLookupTooMany_14 (by decide) ?_
  refine w_pc 16 rfl ?_
  refine lv_icmp_le (tgt := 23) hx hb dX0_isLookupTooMany_16 (by decide) (fun q16 => ?_) (fun q16 => ?_)
  · replace h := (if_pos q16).symm.trans h
    refine w_pc 23 rfl ?_
    refine lv_iconst (v := 0) hx hb dX0_isLookupTooMany_23 (by decide) ?_
    exact re_z hx hb hr hlk (Or.inl rfl) h hP hS dX0_isLookupTooMany_24
  · replace h := (if_neg q16).symm.trans h
    refine w_pc 19 rfl ?_
    refine lv_iconst (v := 1) hx hb dX0_isLookupTooMany_19 (by decide) ?_
    refine lv_goto (tgt := 24) hx hb dX0_isLookupTooMany_20 (by decide) ?_
    exact re_z hx hb hr hlk (Or.inr rfl) h hP hS dX0_isLookupTooMany_24
def rmX0_including (d : Nat) : Room := { frames := 3 * d + 7, cells := 0, slots := 0, locals := 103 * d + 426 }
def rmX0_outcomeOf (d : Nat) : Room := { frames := 3 * d + 8, cells := 0, slots := 0, locals := 103 * d + 451 }
def rmX0_redirected (d : Nat) : Room := { frames := 3 * d + 7, cells := 0, slots := 0, locals := 103 * d + 426 }
def rmX0_resultBy (d : Nat) : Room := { frames := 3 * d + 6, cells := 0, slots := 0, locals := 103 * d + 400 }
def fX0_including_58 (a2 : Int32) (a3 : Int32) (KR : Int32 → Int32 → Mm → Option (Int32 × Mm)) (s0 : Int32) (M : Mm) : Option (Int32 × Mm) :=
  bn1 (fX0_matchIf s0) (fun v58 => some (v58, M))
def fX0_including_35 (a2 : Int32) (a3 : Int32) (KR : Int32 → Int32 → Mm → Option (Int32 × Mm)) (x4 : Int32) (s0 : Int32) (M : Mm) : Option (Int32 × Mm) :=
  if s0 = 0 then (if x4 = (1 : Int32) then (fX0_including_58 a2 a3 KR (1 : Int32) M) else (fX0_including_58 a2 a3 KR (0 : Int32) M)) else (some (x4, M))
def fX0_including_30 (a2 : Int32) (a3 : Int32) (KR : Int32 → Int32 → Mm → Option (Int32 × Mm)) (x4 : Int32) (M : Mm) : Option (Int32 × Mm) :=
  fX0_including_35 a2 a3 KR x4 (1 : Int32) M
def fX0_including (KR : Int32 → Int32 → Mm → Option (Int32 × Mm)) (a2 : Int32) (a3 : Int32) (M : Mm) : Option (Int32 × Mm) :=
  bn2 (KR a2 a3 M) (fun v4 M4 => if v4 = 0 then (some ((6 : Int32), M4)) else (if v4 = (5 : Int32) then (fX0_including_30 a2 a3 KR v4 M4) else (if v4 = (6 : Int32) then (fX0_including_30 a2 a3 KR v4 M4) else (fX0_including_35 a2 a3 KR v4 (0 : Int32) M4))))
set_option maxRecDepth 100000 in
set_option maxHeartbeats 4000000 in
theorem kX0_including (l : Launch) (D : va_G) (ad : Nat → Nat) (cA : Nat → ClassId) (A : Nat → Prop) (d : Nat) (KR : Int32 → Int32 → Mm → Option (Int32 × Mm)) (hKR : ∀ {a2 a3 : Int32} {M M1 : Mm} {r : Int32}, KR a2 a3 M = some (r, M1) → Met l yX0_resultBy wsX0_resultBy (rmX0_resultBy d) (gPc D (tyM cA) 289 (layM ad cA) ad A M [.ref (ad 275), .ref (ad 1), .int a2, .int a3]) (gQi D 289 (layM ad cA) ad A M1 r) 0 0 A) {a2 : Int32} {a3 : Int32} {M M1 : Mm} {r : Int32} (h : fX0_including KR a2 a3 M = some (r, M1)) : Met l yX0_including wsX0_including (rmX0_including d) (gPc D (tyM cA) 289 (layM ad cA) ad A M [.ref (ad 275), .ref (ad 1), .int a2, .int a3]) (gQi D 289 (layM ad cA) ad A M1 r) 0 0 A := by
  refine Met.ofW (cc := cX0_including) (maxL := 6) (ret := (some .int)) (by decide) rfl ?_
  intro p e s m args below meth c s₁ B hml hv
  obtain ⟨ha, hP, hK, hD, hN⟩ := hv
  have hx := B.exec
  have hb := B.bytes
  have hr := B.returns
  have hlk := B.notSynchronized
  have hts : ∀ w ∈ lw_g, w.before args s = true := fun w h => atoms_spec (ws := wsX0_including) B.pre w (List.mem_cons_of_mem _ h)
  have hown : s.vm.findClass RX0 = some m.cls := findClass_of_methodNamed B.named
  have hS : va_S A s.heap s.heap [] := va_S.rf
  unfold fX0_including at h
  have bk58 : ∀ (s0 : Int32) (M : Mm) (ls : Array Slot) (H : Heap) (locs : List Loc), lv_has ls 6 [] → fX0_including_58 a2 a3 KR s0 M = some (r, M1) → va_P D vwCl (gw 289 (layM ad cA) ad M) H → va_S A s.heap H locs → W p l e (headSpec wsX0_including (rmX0_including d)).room s m args below meth c H locs 0 0 (MQ below (gQi D 289 (layM ad cA) ad A M1 r) args s 0 0 A) (F0 m 58 ls [.int s0]) := by
    intro s0 M ls H locs hl h hP hS
    unfold fX0_including_58 at h
    refine w_pc 58 rfl ?_
    refine w_pc 58 rfl ?_
    obtain ⟨v58, c58, h⟩ := bn1_some h
    refine cl_i (rn_s (As := [.int s0]) (rest := []) ⟨hx, hb, hml, hown, hts⟩ (kX0_matchIf l D ad cA A (M := M) c58) ⟨callB_of 1 hts (gdc wm616) rfl rfl rfl (hts _ wm59) (hts _ wm614) hdX0_matchIf ⟨show 0 + 1 ≤ 3 * d + 7 by omega, show 8 + (1 + 11) + (0) ≤ 103 * d + 426 by omega⟩, hts _ wm615⟩ hK hP hD hN rfl hl.1 rfl (lv_room (Nat.le_of_ble_eq_true rfl)) dX0_including_58) hS (fun H locs hP hS => ?_)
    refine w_pc 61 rfl ?_
    exact re_i hx hb hr hlk h hP hS dX0_including_61
  have bk35 : ∀ (x4 : Int32) (s0 : Int32) (M : Mm) (ls : Array Slot) (H : Heap) (locs : List Loc), lv_has ls 6 [(4, .int x4)] → fX0_including_35 a2 a3 KR x4 s0 M = some (r, M1) → va_P D vwCl (gw 289 (layM ad cA) ad M) H → va_S A s.heap H locs → W p l e (headSpec wsX0_including (rmX0_including d)).room s m args below meth c H locs 0 0 (MQ below (gQi D 289 (layM ad cA) ad A M1 r) args s 0 0 A) (F0 m 35 ls [.int s0]) := by
    intro x4 s0 M ls H locs hl h hP hS
    unfold fX0_including_35 at h
    refine w_pc 35 rfl ?_
    refine lv_istore (lv' := [(5, .int s0), (4, .int x4)]) hx hb dX0_including_35 hl (by decide) rfl (fun ls hl => ?_)
    refine lv_iload hx hb dX0_including_37 (lv_at hl 0 rfl) ?_
    refine w_pc 39 rfl ?_
    refine lv_if_eq (tgt := 47) hx hb dX0_including_39 (by decide) (fun q39 => ?_) (fun q39 => ?_)
    · replace h := (if_pos q39).symm.trans h
      refine w_pc 47 rfl ?_
      refine lv_iload hx hb dX0_including_47 (lv_at hl 1 rfl) ?_
      refine lv_iconst (v := 1) hx hb dX0_including_49 (by decide) ?_
      refine w_pc 50 rfl ?_
      refine lv_icmp_ne (tgt := 57) hx hb dX0_including_50 (by decide) (fun q50 => ?_) (fun q50 => ?_)
      · replace h := (if_neg q50).symm.trans h
        refine w_pc 57 rfl ?_
        refine lv_iconst (v := 0) hx hb dX0_including_57 (by decide) ?_
        exact bk58 (0 : Int32) M ls _ _ (lv_sub hl [] rfl) h hP hS
      · replace h := (if_pos q50).symm.trans h
        refine w_pc 53 rfl ?_
        refine lv_iconst (v := 1) hx hb dX0_including_53 (by decide) ?_
        refine lv_goto (tgt := 58) hx hb dX0_including_54 (by decide) ?_
        exact bk58 (1 : Int32) M ls _ _ (lv_sub hl [] rfl) h hP hS
    · replace h := (if_neg q39).symm.trans h
      refine w_pc 42 rfl ?_
      refine lv_iload hx hb dX0_including_42 (lv_at hl 1 rfl) ?_
      refine lv_goto (tgt := 61) hx hb dX0_including_44 (by decide) ?_
      exact re_i hx hb hr hlk h hP hS dX0_including_61
  have bk30 : ∀ (x4 : Int32) (M : Mm) (ls : Array Slot) (H : Heap) (locs : List Loc), lv_has ls 6 [(4, .int x4)] → fX0_including_30 a2 a3 KR x4 M = some (r, M1) → va_P D vwCl (gw 289 (layM ad cA) ad M) H → va_S A s.heap H locs → W p l e (headSpec wsX0_including (rmX0_including d)).room s m args below meth c H locs 0 0 (MQ below (gQi D 289 (layM ad cA) ad A M1 r) args s 0 0 A) (F0 m 30 ls []) := by
    intro x4 M ls H locs hl h hP hS
    unfold fX0_including_30 at h
    refine w_pc 30 rfl ?_
    refine lv_iconst (v := 1) hx hb dX0_including_30 (by decide) ?_
    refine lv_goto (tgt := 35) hx hb dX0_including_31 (by decide) ?_
    exact bk35 x4 (1 : Int32) M ls _ _ (lv_sub hl [0] rfl) h hP hS
  refine w_entry ha (Nat.le_of_ble_eq_true rfl) (fun ls hl => ?_)
  have hl : lv_has ls 6 [(0, .ref (ad 275)), (1, .ref (ad 1)), (2, .int a2), (3, .int a3)] := hl
  refine w_pc 0 rfl ?_
  refine lv_aload_n hx hb dX0_including_0 rfl (lv_at hl 0 rfl) ?_
  refine lv_aload_n hx hb dX0_including_1 rfl (lv_at hl 1 rfl) ?_
  refine lv_iload_n hx hb dX0_including_2 rfl (lv_at hl 2 rfl) ?_
  refine lv_iload_n hx hb dX0_including_3 rfl (lv_at hl 3 rfl) ?_
  refine w_pc 4 rfl ?_
  obtain ⟨v4, M4, c4, h⟩ := bn2_some h
  refine cl_i (rn_v (As := [.ref (ad 1), .int a2, .int a3]) (rest := []) ⟨hx, hb, hml, hown, hts⟩ (hKR c4) ⟨callB_of 3 hts (gdc wm606) rfl rfl rfl (hts _ wm59) (hts _ wm603) hdX0_resultBy ⟨show 3 * d + 6 + 1 ≤ 3 * d + 7 by omega, show 8 + (7 + 11) + (103 * d + 400) ≤ 103 * d + 426 by omega⟩, hts _ wm605, hts _ wm6⟩ hK hP hD hN (by omega) lyMChk rfl rfl hl.1 rfl (lv_room (Nat.le_of_ble_eq_true rfl)) dX0_including_4) hS (fun H locs hP hS => ?_)
  refine w_pc 7 rfl ?_
  refine lv_istore (lv' := [(4, .int v4), (0, .ref (ad 275)), (1, .ref (ad 1)), (2, .int a2), (3, .int a3)]) hx hb dX0_including_7 hl (by decide) rfl (fun ls hl => ?_)
  refine lv_iload hx hb dX0_including_9 (lv_at hl 0 rfl) ?_
  refine w_pc 11 rfl ?_
  refine lv_if_ne (tgt := 17) hx hb dX0_including_11 (by decide) (fun q11 => ?_) (fun q11 => ?_)
  · replace h := (if_neg q11).symm.trans h
    refine w_pc 17 rfl ?_
    refine lv_iload hx hb dX0_including_17 (lv_at hl 0 rfl) ?_
    refine lv_iconst (v := 5) hx hb dX0_including_19 (by decide) ?_
    refine w_pc 20 rfl ?_
    refine lv_icmp_eq (tgt := 30) hx hb dX0_including_20 (by decide) (fun q20 => ?_) (fun q20 => ?_)
    · replace h := (if_pos q20).symm.trans h
      refine w_pc 30 rfl ?_
      exact bk30 v4 M4 ls _ _ (lv_sub hl [0] rfl) h hP hS
    · replace h := (if_neg q20).symm.trans h
      refine w_pc 23 rfl ?_
      refine lv_iload hx hb dX0_including_23 (lv_at hl 0 rfl) ?_
      refine lv_bipush (v := 6) hx hb dX0_including_25 (by decide) ?_
      refine w_pc 27 rfl ?_
      refine lv_icmp_ne (tgt := 34) hx hb dX0_including_27 (by decide) (fun q27 => ?_) (fun q27 => ?_)
      · replace h := (if_neg q27).symm.trans h
        refine w_pc 34 rfl ?_
        refine lv_iconst (v := 0) hx hb dX0_including_34 (by decide) ?_
        exact bk35 v4 (0 : Int32) M4 ls _ _ (lv_sub hl [0] rfl) h hP hS
      · replace h := (if_pos q27).symm.trans h
        refine w_pc 30 rfl ?_
        exact bk30 v4 M4 ls _ _ (lv_sub hl [0] rfl) h hP hS
  · replace h := (if_pos q11).symm.trans h
    refine w_pc 14 rfl ?_
    refine lv_bipush (v := 6) hx hb dX0_including_14 (by decide) ?_
    exact re_i hx hb hr hlk h hP hS dX0_including_16
def rmX0_empty : Room := { frames := 0, cells := 0, slots := 0, locals := 0 }
def fX0_empty (M : Mm) : Option (Int32 × Mm) :=
  nm (up2 M 275 1 ((M 275 1) + (1 : Int32))) (fun M7 => if (M7 275 1) ≤ (2 : Int32) then (some ((0 : Int32), M7)) else (some ((6 : Int32), M7)))
set_option maxRecDepth 100000 in
set_option maxHeartbeats 4000000 in
theorem kX0_empty (l : Launch) (D : va_G) (ad : Nat → Nat) (cA : Nat → ClassId) (A : Nat → Prop) {M M1 : Mm} {r : Int32} (h : fX0_empty M = some (r, M1)) : Met l yX0_empty wsX0_empty rmX0_empty (gPc D (tyM cA) 289 (layM ad cA) ad A M [.ref (ad 275)]) (gQi D 289 (layM ad cA) ad A M1 r) 0 0 A := by
  refine Met.ofW (cc := cX0_empty) (maxL := 1) (ret := (some .int)) (by decide) rfl ?_
  intro p e s m args below meth c s₁ B hml hv
  obtain ⟨ha, hP, hK, hD, hN⟩ := hv
  have hx := B.exec
  have hb := B.bytes
  have hr := B.returns
  have hlk := B.notSynchronized
  have hts : ∀ w ∈ lw_g, w.before args s = true := fun w h => atoms_spec (ws := wsX0_empty) B.pre w (List.mem_cons_of_mem _ h)
  have hown : s.vm.findClass RX0 = some m.cls := findClass_of_methodNamed B.named
  have hS : va_S A s.heap s.heap [] := va_S.rf
  unfold fX0_empty at h
  have w15 := hts _ wm337
  refine w_entry ha (Nat.le_of_ble_eq_true rfl) (fun ls hl => ?_)
  have hl : lv_has ls 1 [(0, .ref (ad 275))] := hl
  refine w_pc 0 rfl ?_
  refine lv_aload_n hx hb dX0_empty_0 rfl (lv_at hl 0 rfl) ?_
  refine lv_dup hx hb dX0_empty_1 rfl ?_
  refine gw_get (C := RX0) (T := TX0) (N := 2) (v := .int (M 275 1)) hx hb hts hinX0 hown hK hP (by omega) lyMChk rfl 1 (by decide) w15 (fun _ h9 => h9) rfl dX0_empty_2 ?_
  refine lv_iconst (v := 1) hx hb dX0_empty_5 (by decide) ?_
  refine lv_iadd hx hb dX0_empty_6 ?_
  obtain ⟨M7, eM7, h⟩ := nm_some h
  refine gw_put (C := RX0) (T := TX0) (N := 2) (ty := .int) hx hb hts hinX0 tyX0 tyX0_ok nmX0 hown hK hP hD hS (by omega) lyMChk rfl 1 (by decide) w15 (fun _ h9 => h9) rfl (by decide +kernel) rfl rfl (Nat.le_of_ble_eq_true rfl) rfl eM7 dX0_empty_7 (fun H locs hP hS => ?_)
  refine lv_aload_n hx hb dX0_empty_10 rfl (lv_at hl 0 rfl) ?_
  refine w_pc 11 rfl ?_
  refine gw_get (C := RX0) (T := TX0) (N := 2) (v := .int (M7 275 1)) hx hb hts hinX0 hown hK hP (by omega) lyMChk rfl 1 (by decide) w15 (fun _ h9 => h9) rfl dX0_empty_11 ?_
  refine lv_iconst (v := 2) hx hb dX0_empty_14 (by decide) ?_
  refine w_pc 15 rfl ?_
  refine lv_icmp_le (tgt := 23) hx hb dX0_empty_15 (by decide) (fun q15 => ?_) (fun q15 => ?_)
  · replace h := (if_pos q15).symm.trans h
    refine w_pc 23 rfl ?_
    refine lv_iconst (v := 0) hx hb dX0_empty_23 (by decide) ?_
    exact re_i hx hb hr hlk h hP hS dX0_empty_24
  · replace h := (if_neg q15).symm.trans h
    refine w_pc 18 rfl ?_
    refine lv_bipush (v := 6) hx hb dX0_empty_18 (by decide) ?_
    refine lv_goto (tgt := 24) hx hb dX0_empty_20 (by decide) ?_
    exact re_i hx hb hr hlk h hP hS dX0_empty_24
