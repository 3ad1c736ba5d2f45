def rmX10_isWithin : Room := { frames := 0, cells := 0, slots := 0, locals := 0 }
def fX10_isWithin (a0 : Int32) (a1 : Int32) (a2 : Int32) : Option Int32 :=
  if a0 < a1 then (some (0 : Int32)) else (if a2 < a0 then (some (0 : Int32)) else (some (1 : Int32)))
set_option maxRecDepth 100000 in
set_option maxHeartbeats 4000000 in
theorem kX10_isWithin (l : Launch) (D : va_G) (ad : Nat → Nat) (cA : Nat → ClassId) (A : Nat → Prop) {a0 : Int32} {a1 : Int32} {a2 : Int32} {M : Mm} {r : Int32} (h : fX10_isWithin a0 a1 a2 = some r) : Met l yX10_isWithin wsX10_isWithin rmX10_isWithin (gPc D (tyM cA) 289 (layM ad cA) ad A M [.int a0, .int a1, .int a2]) (gQi D 289 (layM ad cA) ad A M r) 0 0 A := by
  refine Met.ofW (cc := cX10_isWithin) (maxL := 3) (ret := (some .boolean)) (by decide) rfl ?_
  intro p e s m args below meth c s₁ B hml hv
  obtain ⟨ha, hP, hK, hD, hN⟩ := hv
  have hx := B.exec
  have hb := B.bytes
  have hr := B.returns
  have hlk := B.notSynchronized
  have hts : ∀ w ∈ lw_g, w.before args s = true := fun w h => atoms_spec (ws := wsX10_isWithin) B.pre w (List.mem_cons_of_mem _ h)
  have hown : s.vm.findClass RX10 = some m.cls := findClass_of_methodNamed B.named
  have hS : va_S A s.heap s.heap [] := va_S.rf
  unfold fX10_isWithin at h
  refine w_entry ha (Nat.le_of_ble_eq_true rfl) (fun ls hl => ?_)
  have hl : lv_has ls 3 [(0, .int a0), (1, .int a1), (2, .int a2)] := hl
  refine w_pc 0 rfl ?_
  refine lv_iload_n hx hb dX10_isWithin_0 rfl (lv_at hl 0 rfl) ?_
  refine lv_iload_n hx hb dX10_isWithin_1 rfl (lv_at hl 1 rfl) ?_
  refine w_pc 2 rfl ?_
  refine lv_icmp_lt (tgt := 14) hx hb dX10_isWithin_2 (by decide) (fun q2 => ?_) (fun q2 => ?_)
  · replace h := (if_pos q2).symm.trans h
    refine w_pc 14 rfl ?_
    refine lv_iconst (v := 0) hx hb dX10_isWithin_14 (by decide) ?_
    exact re_z hx hb hr hlk (Or.inl rfl) (sm_r h) hP hS dX10_isWithin_15
  · replace h := (if_neg q2).symm.trans h
    refine w_pc 5 rfl ?_
    refine lv_iload_n hx hb dX10_isWithin_5 rfl (lv_at hl 0 rfl) ?_
    refine lv_iload_n hx hb dX10_isWithin_6 rfl (lv_at hl 2 rfl) ?_
    refine w_pc 7 rfl ?_
    refine lv_icmp_gt (tgt := 14) hx hb dX10_isWithin_7 (by decide) (fun q7 => ?_) (fun q7 => ?_)
    · replace h := (if_pos q7).symm.trans h
      refine w_pc 14 rfl ?_
      refine lv_iconst (v := 0) hx hb dX10_isWithin_14 (by decide) ?_
      exact re_z hx hb hr hlk (Or.inl rfl) (sm_r h) hP hS dX10_isWithin_15
    · replace h := (if_neg q7).symm.trans h
      refine w_pc 10 rfl ?_
      refine lv_iconst (v := 1) hx hb dX10_isWithin_10 (by decide) ?_
      refine lv_goto (tgt := 15) hx hb dX10_isWithin_11 (by decide) ?_
      exact re_z hx hb hr hlk (Or.inr rfl) (sm_r h) hP hS dX10_isWithin_15
def rmX10_isDomain : Room := { frames := 1, cells := 0, slots := 0, locals := 22 }
def fX10_isDomain (a1 : Int32) (M : Mm) : Option Int32 :=
  bn1 (fX10_isWithin a1 (0 : Int32) ((M 0 1) - (1 : Int32))) (fun v8 => grd (gz v8) (some v8))
set_option maxRecDepth 100000 in
set_option maxHeartbeats 4000000 in
theorem kX10_isDomain (l : Launch) (D : va_G) (ad : Nat → Nat) (cA : Nat → ClassId) (A : Nat → Prop) {a1 : Int32} {M : Mm} {r : Int32} (h : fX10_isDomain a1 M = some r) : Met l yX10_isDomain wsX10_isDomain rmX10_isDomain (gPc D (tyM cA) 289 (layM ad cA) ad A M [.ref (ad 0), .int a1]) (gQi D 289 (layM ad cA) ad A M r) 0 0 A := by
  refine Met.ofW (cc := cX10_isDomain) (maxL := 2) (ret := (some .boolean)) (by decide) rfl ?_
  intro p e s m args below meth c s₁ B hml hv
  obtain ⟨ha, hP, hK, hD, hN⟩ := hv
  have hx := B.exec
  have hb := B.bytes
  have hr := B.returns
  have hlk := B.notSynchronized
  have hts : ∀ w ∈ lw_g, w.before args s = true := fun w h => atoms_spec (ws := wsX10_isDomain) B.pre w (List.mem_cons_of_mem _ h)
  have hown : s.vm.findClass RX10 = some m.cls := findClass_of_methodNamed B.named
  have hS : va_S A s.heap s.heap [] := va_S.rf
  unfold fX10_isDomain at h
  have w16 := hts _ wm369
  refine w_entry ha (Nat.le_of_ble_eq_true rfl) (fun ls hl => ?_)
  have hl : lv_has ls 2 [(0, .ref (ad 0)), (1, .int a1)] := hl
  refine w_pc 0 rfl ?_
  refine lv_iload_n hx hb dX10_isDomain_0 rfl (lv_at hl 1 rfl) ?_
  refine lv_iconst (v := 0) hx hb dX10_isDomain_1 (by decide) ?_
  refine lv_aload_n hx hb dX10_isDomain_2 rfl (lv_at hl 0 rfl) ?_
  refine gw_get (C := RX10) (T := TX10) (N := 8) (v := .int (M 0 1)) hx hb hts hinX10 hown hK hP (by omega) lyMMA rfl 1 (by decide) w16 (fun _ h9 => h9) rfl dX10_isDomain_3 ?_
  refine lv_iconst (v := 1) hx hb dX10_isDomain_6 (by decide) ?_
  refine lv_isub hx hb dX10_isDomain_7 ?_
  refine w_pc 8 rfl ?_
  obtain ⟨v8, c8, h⟩ := bn1_some h
  refine cl_i (rn_s (As := [.int a1, .int (0 : Int32), .int ((M 0 1) - (1 : Int32))]) (rest := []) ⟨hx, hb, hml, hown, hts⟩ (kX10_isWithin l D ad cA A (M := M) c8) ⟨callB_of 3 hts (gdc wm403) rfl rfl rfl (hts _ wm50) (hts _ wm401) hdX10_isWithin ⟨Nat.le_of_ble_eq_true rfl, Nat.le_of_ble_eq_true rfl⟩, hts _ wm402⟩ hK hP hD hN rfl hl.1 rfl (lv_room (Nat.le_of_ble_eq_true rfl)) dX10_isDomain_8) hS (fun H locs hP hS => ?_)
  refine w_pc 11 rfl ?_
  obtain ⟨z11, h⟩ := gd_z h
  exact re_z hx hb hr hlk z11 (sm_r h) hP hS dX10_isDomain_11
def rmX10_homeUnder : Room := { frames := 0, cells := 0, slots := 0, locals := 0 }
def fX10_homeUnder (a1 : Int32) (a2 : Int32) (M : Mm) : Option Int32 :=
  grd (gin a2 20) (if (M (2 + a2.toNatClampNeg) 0) = 0 then (grd (gin a1 20) (if (M (2 + a1.toNatClampNeg) 0) = 0 then (grd (gin a1 20) (some (M (2 + a1.toNatClampNeg) 1))) else (some a2))) else (some a2))
set_option maxRecDepth 100000 in
set_option maxHeartbeats 4000000 in
theorem kX10_homeUnder (l : Launch) (D : va_G) (ad : Nat → Nat) (cA : Nat → ClassId) (A : Nat → Prop) {a1 : Int32} {a2 : Int32} {M : Mm} {r : Int32} (h : fX10_homeUnder a1 a2 M = some r) : Met l yX10_homeUnder wsX10_homeUnder rmX10_homeUnder (gPc D (tyM cA) 289 (layM ad cA) ad A M [.ref (ad 0), .int a1, .int a2]) (gQi D 289 (layM ad cA) ad A M r) 0 0 A := by
  refine Met.ofW (cc := cX10_homeUnder) (maxL := 3) (ret := (some .int)) (by decide) rfl ?_
  intro p e s m args below meth c s₁ B hml hv
  obtain ⟨ha, hP, hK, hD, hN⟩ := hv
  have hx := B.exec
  have hb := B.bytes
  have hr := B.returns
  have hlk := B.notSynchronized
  have hts : ∀ w ∈ lw_g, w.before args s = true := fun w h => atoms_spec (ws := wsX10_homeUnder) B.pre w (List.mem_cons_of_mem _ h)
  have hown : s.vm.findClass RX10 = some m.cls := findClass_of_methodNamed B.named
  have hS : va_S A s.heap s.heap [] := va_S.rf
  unfold fX10_homeUnder at h
  have w11 := hts _ wm368
  have w58 := hts _ wm155
  have w66 := hts _ wm156
  refine w_entry ha (Nat.le_of_ble_eq_true rfl) (fun ls hl => ?_)
  have hl : lv_has ls 3 [(0, .ref (ad 0)), (1, .int a1), (2, .int a2)] := hl
  refine w_pc 0 rfl ?_
  refine lv_aload_n hx hb dX10_homeUnder_0 rfl (lv_at hl 0 rfl) ?_
  refine gw_get (C := RX10) (T := TX10) (N := 8) (v := .ref (ad 1)) hx hb hts hinX10 hown hK hP (by omega) lyMMA rfl 0 (by decide) w11 (fun _ h9 => h9) rfl dX10_homeUnder_1 ?_
  refine lv_iload_n hx hb dX10_homeUnder_4 rfl (lv_at hl 2 rfl) ?_
  obtain ⟨g5, h⟩ := gd_in h
  have b5 := some_lo g5
  refine gw_aald hx hb hK hP 2 (by omega) lyMaDom rfl g5 dX10_homeUnder_5 ?_
  refine gw_get (C := RX1) (T := TX1) (N := 8) (v := .int (M (2 + a2.toNatClampNeg) 0)) hx hb hts hinX1 hown hK hP (by omega) (lyMDom (by omega)) rfl 0 (by decide) w58 (fun _ h9 => h9) rfl dX10_homeUnder_6 ?_
  refine w_pc 9 rfl ?_
  refine lv_if_ne (tgt := 24) hx hb dX10_homeUnder_9 (by decide) (fun q9 => ?_) (fun q9 => ?_)
  · replace h := (if_neg q9).symm.trans h
    refine w_pc 24 rfl ?_
    refine lv_iload_n hx hb dX10_homeUnder_24 rfl (lv_at hl 2 rfl) ?_
    exact re_i hx hb hr hlk (sm_r h) hP hS dX10_homeUnder_25
  · replace h := (if_pos q9).symm.trans h
    refine w_pc 12 rfl ?_
    refine lv_aload_n hx hb dX10_homeUnder_12 rfl (lv_at hl 0 rfl) ?_
    refine gw_get (C := RX10) (T := TX10) (N := 8) (v := .ref (ad 1)) hx hb hts hinX10 hown hK hP (by omega) lyMMA rfl 0 (by decide) w11 (fun _ h9 => h9) rfl dX10_homeUnder_13 ?_
    refine lv_iload_n hx hb dX10_homeUnder_16 rfl (lv_at hl 1 rfl) ?_
    obtain ⟨g17, h⟩ := gd_in h
    have b17 := some_lo g17
    refine gw_aald hx hb hK hP 2 (by omega) lyMaDom rfl g17 dX10_homeUnder_17 ?_
    refine gw_get (C := RX1) (T := TX1) (N := 8) (v := .int (M (2 + a1.toNatClampNeg) 0)) hx hb hts hinX1 hown hK hP (by omega) (lyMDom (by omega)) rfl 0 (by decide) w58 (fun _ h9 => h9) rfl dX10_homeUnder_18 ?_
    refine w_pc 21 rfl ?_
    refine lv_if_eq (tgt := 26) hx hb dX10_homeUnder_21 (by decide) (fun q21 => ?_) (fun q21 => ?_)
    · replace h := (if_pos q21).symm.trans h
      refine w_pc 26 rfl ?_
      refine lv_aload_n hx hb dX10_homeUnder_26 rfl (lv_at hl 0 rfl) ?_
      refine gw_get (C := RX10) (T := TX10) (N := 8) (v := .ref (ad 1)) hx hb hts hinX10 hown hK hP (by omega) lyMMA rfl 0 (by decide) w11 (fun _ h9 => h9) rfl dX10_homeUnder_27 ?_
      refine lv_iload_n hx hb dX10_homeUnder_30 rfl (lv_at hl 1 rfl) ?_
      obtain ⟨g31, h⟩ := gd_in h
      have b31 := some_lo g31
      refine gw_aald hx hb hK hP 2 (by omega) lyMaDom rfl g31 dX10_homeUnder_31 ?_
      refine gw_get (C := RX1) (T := TX1) (N := 8) (v := .int (M (2 + a1.toNatClampNeg) 1)) hx hb hts hinX1 hown hK hP (by omega) (lyMDom (by omega)) rfl 1 (by decide) w66 (fun _ h9 => h9) rfl dX10_homeUnder_32 ?_
      exact re_i hx hb hr hlk (sm_r h) hP hS dX10_homeUnder_35
    · replace h := (if_neg q21).symm.trans h
      refine w_pc 24 rfl ?_
      refine lv_iload_n hx hb dX10_homeUnder_24 rfl (lv_at hl 2 rfl) ?_
      exact re_i hx hb hr hlk (sm_r h) hP hS dX10_homeUnder_25
def rmX10_domain : Room := { frames := 2, cells := 0, slots := 0, locals := 43 }
def fX10_domain_52 (a1 : Int32) (a2 : Int32) (x3 : Int32) (s0 : Int32) (sj1 : Nat) (M : Mm) : Option (Int32 × Mm) :=
  grd (gz s0) (nm (up2 M (2 + sj1) 0 s0) (fun M52 => grd (gin x3 20) (bn1 (fX10_homeUnder a1 x3 M52) (fun v64 => nm (up2 M52 (2 + x3.toNatClampNeg) 1 v64) (fun M67 => nm (up2 M67 0 1 ((M67 0 1) + (1 : Int32))) (fun M77 => some (x3, M77)))))))
def fX10_domain_47 (a1 : Int32) (a2 : Int32) (x3 : Int32) (sj0 : Nat) (M : Mm) : Option (Int32 × Mm) :=
  fX10_domain_52 a1 a2 x3 (1 : Int32) sj0 M
def fX10_domain_15 (a1 : Int32) (a2 : Int32) (M : Mm) : Option (Int32 × Mm) :=
  if (M 0 1) < (20 : Int32) then (nm (M 0 1) (fun v31 => grd (gin v31 20) (if a2 = 0 then (if a1 = (-1 : Int32) then (fX10_domain_47 a1 a2 v31 v31.toNatClampNeg M) else (fX10_domain_52 a1 a2 v31 (0 : Int32) v31.toNatClampNeg M)) else (fX10_domain_47 a1 a2 v31 v31.toNatClampNeg M)))) else (some ((-2 : Int32), M))
def fX10_domain (a1 : Int32) (a2 : Int32) (M : Mm) : Option (Int32 × Mm) :=
  if a1 = (-1 : Int32) then (fX10_domain_15 a1 a2 M) else (bn1 (fX10_isDomain a1 M) (fun v7 => if v7 = 0 then (some ((-1 : Int32), M)) else (fX10_domain_15 a1 a2 M)))
set_option maxRecDepth 100000 in
set_option maxHeartbeats 4000000 in
theorem kX10_domain (l : Launch) (D : va_G) (ad : Nat → Nat) (cA : Nat → ClassId) (A : Nat → Prop) {a1 : Int32} {a2 : Int32} {M M1 : Mm} {r : Int32} (h : fX10_domain a1 a2 M = some (r, M1)) : Met l yX10_domain wsX10_domain rmX10_domain (gPc D (tyM cA) 289 (layM ad cA) ad A M [.ref (ad 0), .int a1, .int a2]) (gQi D 289 (layM ad cA) ad A M1 r) 0 0 A := by
  refine Met.ofW (cc := cX10_domain) (maxL := 4) (ret := (some .int)) (by decide) rfl ?_
  intro p e s m args below meth c s₁ B hml hv
  obtain ⟨ha, hP, hK, hD, hN⟩ := hv
  have hx := B.exec
  have hb := B.bytes
  have hr := B.returns
  have hlk := B.notSynchronized
  have hts : ∀ w ∈ lw_g, w.before args s = true := fun w h => atoms_spec (ws := wsX10_domain) B.pre w (List.mem_cons_of_mem _ h)
  have hown : s.vm.findClass RX10 = some m.cls := findClass_of_methodNamed B.named
  have hS : va_S A s.heap s.heap [] := va_S.rf
  unfold fX10_domain at h
  have w16 := hts _ wm369
  have w11 := hts _ wm368
  have w58 := hts _ wm155
  have w66 := hts _ wm156
  have bk52 : ∀ (x3 : Int32) (s0 : Int32) (sj1 : Nat) (M : Mm) (ls : Array Slot) (H : Heap) (locs : List Loc), sj1 < 20 → lv_has ls 4 [(0, .ref (ad 0)), (1, .int a1), (3, .int x3)] → fX10_domain_52 a1 a2 x3 s0 sj1 M = some (r, M1) → va_P D vwCl (gw 289 (layM ad cA) ad M) H → va_S A s.heap H locs → W p l e (headSpec wsX10_domain rmX10_domain).room s m args below meth c H locs 0 0 (MQ below (gQi D 289 (layM ad cA) ad A M1 r) args s 0 0 A) (F0 m 52 ls [.int s0, .ref (ad (2 + sj1))]) := by
    intro x3 s0 sj1 M ls H locs hbsj1 hl h hP hS
    unfold fX10_domain_52 at h
    refine w_pc 52 rfl ?_
    obtain ⟨z52, h⟩ := gd_z h
    obtain ⟨M52, eM52, h⟩ := nm_some h
    refine gw_put (C := RX1) (T := TX1) (N := 8) (ty := .boolean) hx hb hts hinX1 tyX1 tyX1_ok nmX1 hown hK hP hD hS (by omega) (lyMDom (by omega)) rfl 0 (by decide) w58 (fun _ h9 => h9) rfl (by decide +kernel) (nz_n z52) (nz_f z52) (Nat.le_of_ble_eq_true rfl) rfl eM52 dX10_domain_52 (fun H locs hP hS => ?_)
    refine lv_aload_n hx hb dX10_domain_55 rfl (lv_at hl 0 rfl) ?_
    refine gw_get (C := RX10) (T := TX10) (N := 8) (v := .ref (ad 1)) hx hb hts hinX10 hown hK hP (by omega) lyMMA rfl 0 (by decide) w11 (fun _ h9 => h9) rfl dX10_domain_56 ?_
    refine lv_iload_n hx hb dX10_domain_59 rfl (lv_at hl 2 rfl) ?_
    obtain ⟨g60, h⟩ := gd_in h
    have b60 := some_lo g60
    refine gw_aald hx hb hK hP 2 (by omega) lyMaDom rfl g60 dX10_domain_60 ?_
    refine lv_aload_n hx hb dX10_domain_61 rfl (lv_at hl 0 rfl) ?_
    refine lv_iload_n hx hb dX10_domain_62 rfl (lv_at hl 1 rfl) ?_
    refine w_pc 63 rfl ?_
    refine lv_iload_n hx hb dX10_domain_63 rfl (lv_at hl 2 rfl) ?_
    refine w_pc 64 rfl ?_
    obtain ⟨v64, c64, h⟩ := bn1_some h
    refine cl_i (rn_v (As := [.int a1, .int x3]) (rest := [.ref (ad (2 + x3.toNatClampNeg))]) ⟨hx, hb, hml, hown, hts⟩ (kX10_homeUnder l D ad cA A c64) ⟨callB_of 2 hts (gdc wm407) rfl rfl rfl (hts _ wm50) (hts _ wm404) hdX10_homeUnder ⟨Nat.le_of_ble_eq_true rfl, Nat.le_of_ble_eq_true rfl⟩, hts _ wm406, hts _ wm1⟩ hK hP hD hN (by omega) lyMMA rfl rfl hl.1 rfl (lv_room (Nat.le_of_ble_eq_true rfl)) dX10_domain_64) hS (fun H locs hP hS => ?_)
    refine w_pc 67 rfl ?_
    obtain ⟨M67, eM67, h⟩ := nm_some h
    refine gw_put (C := RX1) (T := TX1) (N := 8) (ty := .int) hx hb hts hinX1 tyX1 tyX1_ok nmX1 hown hK hP hD hS (by omega) (lyMDom (by omega)) rfl 1 (by decide) w66 (fun _ h9 => h9) rfl (by decide +kernel) rfl rfl (Nat.le_of_ble_eq_true rfl) rfl eM67 dX10_domain_67 (fun H locs hP hS => ?_)
    refine lv_aload_n hx hb dX10_domain_70 rfl (lv_at hl 0 rfl) ?_
    refine lv_dup hx hb dX10_domain_71 rfl ?_
    refine gw_get (C := RX10) (T := TX10) (N := 8) (v := .int (M67 0 1)) hx hb hts hinX10 hown hK hP (by omega) lyMMA rfl 1 (by decide) w16 (fun _ h9 => h9) rfl dX10_domain_72 ?_
    refine lv_iconst (v := 1) hx hb dX10_domain_75 (by decide) ?_
    refine lv_iadd hx hb dX10_domain_76 ?_
    obtain ⟨M77, eM77, h⟩ := nm_some h
    refine gw_put (C := RX10) (T := TX10) (N := 8) (ty := .int) hx hb hts hinX10 tyX10 tyX10_ok nmX10 hown hK hP hD hS (by omega) lyMMA rfl 1 (by decide) w16 (fun _ h9 => h9) rfl (by decide +kernel) rfl rfl (Nat.le_of_ble_eq_true rfl) rfl eM77 dX10_domain_77 (fun H locs hP hS => ?_)
    refine w_pc 80 rfl ?_
    refine lv_iload_n hx hb dX10_domain_80 rfl (lv_at hl 2 rfl) ?_
    exact re_i hx hb hr hlk h hP hS dX10_domain_81
  have bk47 : ∀ (x3 : Int32) (sj0 : Nat) (M : Mm) (ls : Array Slot) (H : Heap) (locs : List Loc), sj0 < 20 → lv_has ls 4 [(0, .ref (ad 0)), (1, .int a1), (3, .int x3)] → fX10_domain_47 a1 a2 x3 sj0 M = some (r, M1) → va_P D vwCl (gw 289 (layM ad cA) ad M) H → va_S A s.heap H locs → W p l e (headSpec wsX10_domain rmX10_domain).room s m args below meth c H locs 0 0 (MQ below (gQi D 289 (layM ad cA) ad A M1 r) args s 0 0 A) (F0 m 47 ls [.ref (ad (2 + sj0))]) := by
    intro x3 sj0 M ls H locs hbsj0 hl h hP hS
    unfold fX10_domain_47 at h
    refine w_pc 47 rfl ?_
    refine lv_iconst (v := 1) hx hb dX10_domain_47 (by decide) ?_
    refine lv_goto (tgt := 52) hx hb dX10_domain_48 (by decide) ?_
    exact bk52 x3 (1 : Int32) sj0 M ls _ _ (by omega) (lv_sub hl [0, 1, 2] rfl) h hP hS
  have bk15 : ∀ (M : Mm) (ls : Array Slot) (H : Heap) (locs : List Loc), lv_has ls 4 [(0, .ref (ad 0)), (1, .int a1), (2, .int a2)] → fX10_domain_15 a1 a2 M = some (r, M1) → va_P D vwCl (gw 289 (layM ad cA) ad M) H → va_S A s.heap H locs → W p l e (headSpec wsX10_domain rmX10_domain).room s m args below meth c H locs 0 0 (MQ below (gQi D 289 (layM ad cA) ad A M1 r) args s 0 0 A) (F0 m 15 ls []) := by
    intro M ls H locs hl h hP hS
    unfold fX10_domain_15 at h
    refine w_pc 15 rfl ?_
    refine lv_aload_n hx hb dX10_domain_15 rfl (lv_at hl 0 rfl) ?_
    refine gw_get (C := RX10) (T := TX10) (N := 8) (v := .int (M 0 1)) hx hb hts hinX10 hown hK hP (by omega) lyMMA rfl 1 (by decide) w16 (fun _ h9 => h9) rfl dX10_domain_16 ?_
    refine lv_bipush (v := 20) hx hb dX10_domain_19 (by decide) ?_
    refine w_pc 21 rfl ?_
    refine lv_icmp_lt (tgt := 27) hx hb dX10_domain_21 (by decide) (fun q21 => ?_) (fun q21 => ?_)
    · replace h := (if_pos q21).symm.trans h
      refine w_pc 27 rfl ?_
      refine lv_aload_n hx hb dX10_domain_27 rfl (lv_at hl 0 rfl) ?_
      refine gw_get (C := RX10) (T := TX10) (N := 8) (v := .int (M 0 1)) hx hb hts hinX10 hown hK hP (by omega) lyMMA rfl 1 (by decide) w16 (fun _ h9 => h9) rfl dX10_domain_28 ?_
      obtain ⟨v31, e31, h⟩ := nm_some h
      refine w_ti e31 ?_
      refine lv_istore_n (lv' := [(3, .int v31), (0, .ref (ad 0)), (1, .int a1), (2, .int a2)]) hx hb dX10_domain_31 rfl hl (by decide) rfl (fun ls hl => ?_)
      refine lv_aload_n hx hb dX10_domain_32 rfl (lv_at hl 1 rfl) ?_
      refine gw_get (C := RX10) (T := TX10) (N := 8) (v := .ref (ad 1)) hx hb hts hinX10 hown hK hP (by omega) lyMMA rfl 0 (by decide) w11 (fun _ h9 => h9) rfl dX10_domain_33 ?_
      refine lv_iload_n hx hb dX10_domain_36 rfl (lv_at hl 0 rfl) ?_
      obtain ⟨g37, h⟩ := gd_in h
      have b37 := some_lo g37
      refine gw_aald hx hb hK hP 2 (by omega) lyMaDom rfl g37 dX10_domain_37 ?_
      refine w_pc 38 rfl ?_
      refine lv_iload_n hx hb dX10_domain_38 rfl (lv_at hl 3 rfl) ?_
      refine w_pc 39 rfl ?_
      refine lv_if_ne (tgt := 47) hx hb dX10_domain_39 (by decide) (fun q39 => ?_) (fun q39 => ?_)
      · replace h := (if_neg q39).symm.trans h
        refine w_pc 47 rfl ?_
        exact bk47 v31 v31.toNatClampNeg M ls _ _ (by omega) (lv_sub hl [1, 2, 0] rfl) h hP hS
      · replace h := (if_pos q39).symm.trans h
        refine w_pc 42 rfl ?_
        refine lv_iload_n hx hb dX10_domain_42 rfl (lv_at hl 2 rfl) ?_
        refine lv_iconst (v := -1) hx hb dX10_domain_43 (by decide) ?_
        refine w_pc 44 rfl ?_
        refine lv_icmp_ne (tgt := 51) hx hb dX10_domain_44 (by decide) (fun q44 => ?_) (fun q44 => ?_)
        · replace h := (if_neg q44).symm.trans h
          refine w_pc 51 rfl ?_
          refine lv_iconst (v := 0) hx hb dX10_domain_51 (by decide) ?_
          exact bk52 v31 (0 : Int32) v31.toNatClampNeg M ls _ _ (by omega) (lv_sub hl [1, 2, 0] rfl) h hP hS
        · replace h := (if_pos q44).symm.trans h
          refine w_pc 47 rfl ?_
          exact bk47 v31 v31.toNatClampNeg M ls _ _ (by omega) (lv_sub hl [1, 2, 0] rfl) h hP hS
    · replace h := (if_neg q21).symm.trans h
      refine w_pc 24 rfl ?_
      refine lv_bipush (v := -2) hx hb dX10_domain_24 (by decide) ?_
      exact re_i hx hb hr hlk h hP hS dX10_domain_26
  refine w_entry ha (Nat.le_of_ble_eq_true rfl) (fun ls hl => ?_)
  have hl : lv_has ls 4 [(0, .ref (ad 0)), (1, .int a1), (2, .int a2)] := hl
  refine w_pc 0 rfl ?_
  refine lv_iload_n hx hb dX10_domain_0 rfl (lv_at hl 1 rfl) ?_
  refine lv_iconst (v := -1) hx hb dX10_domain_1 (by decide) ?_
  refine w_pc 2 rfl ?_
  refine lv_icmp_eq (tgt := 15) hx hb dX10_domain_2 (by decide) (fun q2 => ?_) (fun q2 => ?_)
  · replace h := (if_pos q2).symm.trans h
    refine w_pc 15 rfl ?_
    exact bk15 M ls _ _ (lv_sub hl [0, 1, 2] rfl) h hP hS
  · replace h := (if_neg q2).symm.trans h
    refine w_pc 5 rfl ?_
    refine lv_aload_n hx hb dX10_domain_5 rfl (lv_at hl 0 rfl) ?_
    refine lv_iload_n hx hb dX10_domain_6 rfl (lv_at hl 1 rfl) ?_
    refine w_pc 7 rfl ?_
    obtain ⟨v7, c7, h⟩ := bn1_some h
    refine cl_i (rn_v (As := [.int a1]) (rest := []) ⟨hx, hb, hml, hown, hts⟩ (kX10_isDomain l D ad cA A c7) ⟨callB_of 1 hts (gdc wm400) rfl rfl rfl (hts _ wm50) (hts _ wm397) hdX10_isDomain ⟨Nat.le_of_ble_eq_true rfl, Nat.le_of_ble_eq_true rfl⟩, hts _ wm399, hts _ wm0⟩ hK hP hD hN (by omega) lyMMA rfl rfl hl.1 rfl (lv_room (Nat.le_of_ble_eq_true rfl)) dX10_domain_7) hS (fun H locs hP hS => ?_)
    refine w_pc 10 rfl ?_
    refine w_pc 10 rfl ?_
    refine lv_if_ne (tgt := 15) hx hb dX10_domain_10 (by decide) (fun q10 => ?_) (fun q10 => ?_)
    · replace h := (if_neg q10).symm.trans h
      refine w_pc 15 rfl ?_
      exact bk15 M ls _ _ (lv_sub hl [0, 1, 2] rfl) h hP hS
    · replace h := (if_pos q10).symm.trans h
      refine w_pc 13 rfl ?_
      refine lv_iconst (v := -1) hx hb dX10_domain_13 (by decide) ?_
      exact re_i hx hb hr hlk h hP hS dX10_domain_14
def rmX10_home : Room := { frames := 2, cells := 0, slots := 0, locals := 43 }
def fX10_home (a1 : Int32) (M : Mm) : Option Int32 :=
  bn1 (fX10_isDomain a1 M) (fun v2 => if v2 = 0 then (some (-1 : Int32)) else (grd (gin a1 20) (some (M (2 + a1.toNatClampNeg) 1))))
set_option maxRecDepth 100000 in
set_option maxHeartbeats 4000000 in
theorem kX10_home (l : Launch) (D : va_G) (ad : Nat → Nat) (cA : Nat → ClassId) (A : Nat → Prop) {a1 : Int32} {M : Mm} {r : Int32} (h : fX10_home a1 M = some r) : Met l yX10_home wsX10_home rmX10_home (gPc D (tyM cA) 289 (layM ad cA) ad A M [.ref (ad 0), .int a1]) (gQi D 289 (layM ad cA) ad A M r) 0 0 A := by
  refine Met.ofW (cc := cX10_home) (maxL := 2) (ret := (some .int)) (by decide) rfl ?_
  intro p e s m args below meth c s₁ B hml hv
  obtain ⟨ha, hP, hK, hD, hN⟩ := hv
  have hx := B.exec
  have hb := B.bytes
  have hr := B.returns
  have hlk := B.notSynchronized
  have hts : ∀ w ∈ lw_g, w.before args s = true := fun w h => atoms_spec (ws := wsX10_home) B.pre w (List.mem_cons_of_mem _ h)
  have hown : s.vm.findClass RX10 = some m.cls := findClass_of_methodNamed B.named
  have hS : va_S A s.heap s.heap [] := va_S.rf
  unfold fX10_home at h
  have w11 := hts _ wm368
  have w66 := hts _ wm156
  refine w_entry ha (Nat.le_of_ble_eq_true rfl) (fun ls hl => ?_)
  have hl : lv_has ls 2 [(0, .ref (ad 0)), (1, .int a1)] := hl
  refine w_pc 0 rfl ?_
  refine lv_aload_n hx hb dX10_home_0 rfl (lv_at hl 0 rfl) ?_
  refine lv_iload_n hx hb dX10_home_1 rfl (lv_at hl 1 rfl) ?_
  refine w_pc 2 rfl ?_
  obtain ⟨v2, c2, h⟩ := bn1_some h
  refine cl_i (rn_v (As := [.int a1]) (rest := []) ⟨hx, hb, hml, hown, hts⟩ (kX10_isDomain l D ad cA A c2) ⟨callB_of 1 hts (gdc wm400) rfl rfl rfl (hts _ wm50) (hts _ wm397) hdX10_isDomain ⟨Nat.le_of_ble_eq_true rfl, Nat.le_of_ble_eq_true rfl⟩, hts _ wm399, hts _ wm0⟩ hK hP hD hN (by omega) lyMMA rfl rfl hl.1 rfl (lv_room (Nat.le_of_ble_eq_true rfl)) dX10_home_2) hS (fun H locs hP hS => ?_)
  refine w_pc 5 rfl ?_
  refine w_pc 5 rfl ?_
  refine lv_if_eq (tgt := 20) hx hb dX10_home_5 (by decide) (fun q5 => ?_) (fun q5 => ?_)
  · replace h := (if_pos q5).symm.trans h
    refine w_pc 20 rfl ?_
    refine lv_iconst (v := -1) hx hb dX10_home_20 (by decide) ?_
    exact re_i hx hb hr hlk (sm_r h) hP hS dX10_home_21
  · replace h := (if_neg q5).symm.trans h
    refine w_pc 8 rfl ?_
    refine lv_aload_n hx hb dX10_home_8 rfl (lv_at hl 0 rfl) ?_
    refine gw_get (C := RX10) (T := TX10) (N := 8) (v := .ref (ad 1)) hx hb hts hinX10 hown hK hP (by omega) lyMMA rfl 0 (by decide) w11 (fun _ h9 => h9) rfl dX10_home_9 ?_
    refine lv_iload_n hx hb dX10_home_12 rfl (lv_at hl 1 rfl) ?_
    obtain ⟨g13, h⟩ := gd_in h
    have b13 := some_lo g13
    refine gw_aald hx hb hK hP 2 (by omega) lyMaDom rfl g13 dX10_home_13 ?_
    refine gw_get (C := RX1) (T := TX1) (N := 8) (v := .int (M (2 + a1.toNatClampNeg) 1)) hx hb hts hinX1 hown hK hP (by omega) (lyMDom (by omega)) rfl 1 (by decide) w66 (fun _ h9 => h9) rfl dX10_home_14 ?_
    refine lv_goto (tgt := 21) hx hb dX10_home_17 (by decide) ?_
    exact re_i hx hb hr hlk (sm_r h) hP hS dX10_home_21
def rmX10_silent : Room := { frames := 2, cells := 0, slots := 0, locals := 43 }
def fX10_silent (a1 : Int32) (a2 : Int32) (M : Mm) : Option (Int32 × Mm) :=
  bn1 (fX10_isDomain a1 M) (fun v2 => if v2 = 0 then (some ((0 : Int32), M)) else (grd (gin a1 20) (grd (gz a2) (nm (up2 M (2 + a1.toNatClampNeg) 2 a2) (fun M17 => some ((1 : Int32), M17))))))
set_option maxRecDepth 100000 in
set_option maxHeartbeats 4000000 in
theorem kX10_silent (l : Launch) (D : va_G) (ad : Nat → Nat) (cA : Nat → ClassId) (A : Nat → Prop) {a1 : Int32} {a2 : Int32} {M M1 : Mm} {r : Int32} (h : fX10_silent a1 a2 M = some (r, M1)) : Met l yX10_silent wsX10_silent rmX10_silent (gPc D (tyM cA) 289 (layM ad cA) ad A M [.ref (ad 0), .int a1, .int a2]) (gQi D 289 (layM ad cA) ad A M1 r) 0 0 A := by
  refine Met.ofW (cc := cX10_silent) (maxL := 3) (ret := (some .boolean)) (by decide) rfl ?_
  intro p e s m args below meth c s₁ B hml hv
  obtain ⟨ha, hP, hK, hD, hN⟩ := hv
  have hx := B.exec
  have hb := B.bytes
  have hr := B.returns
  have hlk := B.notSynchronized
  have hts : ∀ w ∈ lw_g, w.before args s = true := fun w h => atoms_spec (ws := wsX10_silent) B.pre w (List.mem_cons_of_mem _ h)
  have hown : s.vm.findClass RX10 = some m.cls := findClass_of_methodNamed B.named
  have hS : va_S A s.heap s.heap [] := va_S.rf
  unfold fX10_silent at h
  have w11 := hts _ wm368
  have w69 := hts _ wm158
  refine w_entry ha (Nat.le_of_ble_eq_true rfl) (fun ls hl => ?_)
  have hl : lv_has ls 3 [(0, .ref (ad 0)), (1, .int a1), (2, .int a2)] := hl
  refine w_pc 0 rfl ?_
  refine lv_aload_n hx hb dX10_silent_0 rfl (lv_at hl 0 rfl) ?_
  refine lv_iload_n hx hb dX10_silent_1 rfl (lv_at hl 1 rfl) ?_
  refine w_pc 2 rfl ?_
  obtain ⟨v2, c2, h⟩ := bn1_some h
  refine cl_i (rn_v (As := [.int a1]) (rest := []) ⟨hx, hb, hml, hown, hts⟩ (kX10_isDomain l D ad cA A c2) ⟨callB_of 1 hts (gdc wm400) rfl rfl rfl (hts _ wm50) (hts _ wm397) hdX10_isDomain ⟨Nat.le_of_ble_eq_true rfl, Nat.le_of_ble_eq_true rfl⟩, hts _ wm399, hts _ wm0⟩ hK hP hD hN (by omega) lyMMA rfl rfl hl.1 rfl (lv_room (Nat.le_of_ble_eq_true rfl)) dX10_silent_2) hS (fun H locs hP hS => ?_)
  refine w_pc 5 rfl ?_
  refine w_pc 5 rfl ?_
  refine lv_if_ne (tgt := 10) hx hb dX10_silent_5 (by decide) (fun q5 => ?_) (fun q5 => ?_)
  · replace h := (if_neg q5).symm.trans h
    refine w_pc 10 rfl ?_
    refine lv_aload_n hx hb dX10_silent_10 rfl (lv_at hl 0 rfl) ?_
    refine gw_get (C := RX10) (T := TX10) (N := 8) (v := .ref (ad 1)) hx hb hts hinX10 hown hK hP (by omega) lyMMA rfl 0 (by decide) w11 (fun _ h9 => h9) rfl dX10_silent_11 ?_
    refine lv_iload_n hx hb dX10_silent_14 rfl (lv_at hl 1 rfl) ?_
    obtain ⟨g15, h⟩ := gd_in h
    have b15 := some_lo g15
    refine gw_aald hx hb hK hP 2 (by omega) lyMaDom rfl g15 dX10_silent_15 ?_
    refine lv_iload_n hx hb dX10_silent_16 rfl (lv_at hl 2 rfl) ?_
    obtain ⟨z17, h⟩ := gd_z h
    obtain ⟨M17, eM17, h⟩ := nm_some h
    refine gw_put (C := RX1) (T := TX1) (N := 8) (ty := .boolean) hx hb hts hinX1 tyX1 tyX1_ok nmX1 hown hK hP hD hS (by omega) (lyMDom (by omega)) rfl 2 (by decide) w69 (fun _ h9 => h9) rfl (by decide +kernel) (nz_n z17) (nz_f z17) (Nat.le_of_ble_eq_true rfl) rfl eM17 dX10_silent_17 (fun H locs hP hS => ?_)
    refine lv_iconst (v := 1) hx hb dX10_silent_20 (by decide) ?_
    refine w_pc 21 rfl ?_
    exact re_z hx hb hr hlk (Or.inr rfl) h hP hS dX10_silent_21
  · replace h := (if_pos q5).symm.trans h
    refine w_pc 8 rfl ?_
    refine lv_iconst (v := 0) hx hb dX10_silent_8 (by decide) ?_
    exact re_z hx hb hr hlk (Or.inl rfl) h hP hS dX10_silent_9
def rmX2_append : Room := { frames := 0, cells := 0, slots := 0, locals := 0 }
def fX2_append (i0 : Nat) (a1 : Int32) (M : Mm) : Option (Int32 × Mm) :=
  if (M (22 + i0) 1) < (2 : Int32) then (grd (gin (M (22 + i0) 1) 2) (nm (up2 M (62 + i0) (M (22 + i0) 1).toNatClampNeg a1) (fun M20 => nm (up2 M20 (22 + i0) 1 ((M20 (22 + i0) 1) + (1 : Int32))) (fun M28 => some ((M28 (22 + i0) 1), M28))))) else (some ((-2 : Int32), M))
set_option maxRecDepth 100000 in
set_option maxHeartbeats 4000000 in
theorem kX2_append (l : Launch) (D : va_G) (ad : Nat → Nat) (cA : Nat → ClassId) (A : Nat → Prop) {i0 : Nat} {a1 : Int32} {M M1 : Mm} {r : Int32} (hi0 : i0 < 40) (h : fX2_append i0 a1 M = some (r, M1)) : Met l yX2_append wsX2_append rmX2_append (gPc D (tyM cA) 289 (layM ad cA) ad A M [.ref (ad (22 + i0)), .int a1]) (gQi D 289 (layM ad cA) ad A M1 r) 0 0 A := by
  refine Met.ofW (cc := cX2_append) (maxL := 2) (ret := (some .int)) (by decide) rfl ?_
  intro p e s m args below meth c s₁ B hml hv
  obtain ⟨ha, hP, hK, hD, hN⟩ := hv
  have hx := B.exec
  have hb := B.bytes
  have hr := B.returns
  have hlk := B.notSynchronized
  have hts : ∀ w ∈ lw_g, w.before args s = true := fun w h => atoms_spec (ws := wsX2_append) B.pre w (List.mem_cons_of_mem _ h)
  have hown : s.vm.findClass RX2 = some m.cls := findClass_of_methodNamed B.named
  have hS : va_S A s.heap s.heap [] := va_S.rf
  unfold fX2_append at h
  have w15 := hts _ wm85
  have w9 := hts _ wm83
  refine w_entry ha (Nat.le_of_ble_eq_true rfl) (fun ls hl => ?_)
  have hl : lv_has ls 2 [(0, .ref (ad (22 + i0))), (1, .int a1)] := hl
  refine w_pc 0 rfl ?_
  refine lv_aload_n hx hb dX2_append_0 rfl (lv_at hl 0 rfl) ?_
  refine gw_get (C := RX2) (T := TX2) (N := 2) (v := .int (M (22 + i0) 1)) hx hb hts hinX2 hown hK hP (by omega) (lyMHosts (by omega)) rfl 1 (by decide) w15 (fun _ h9 => h9) rfl dX2_append_1 ?_
  refine lv_iconst (v := 2) hx hb dX2_append_4 (by decide) ?_
  refine w_pc 5 rfl ?_
  refine lv_icmp_lt (tgt := 11) hx hb dX2_append_5 (by decide) (fun q5 => ?_) (fun q5 => ?_)
  · replace h := (if_pos q5).symm.trans h
    refine w_pc 11 rfl ?_
    refine lv_aload_n hx hb dX2_append_11 rfl (lv_at hl 0 rfl) ?_
    refine gw_get (C := RX2) (T := TX2) (N := 2) (v := .ref (ad (62 + i0))) hx hb hts hinX2 hown hK hP (by omega) (lyMHosts (by omega)) rfl 0 (by decide) w9 (fun _ h9 => h9) rfl dX2_append_12 ?_
    refine lv_aload_n hx hb dX2_append_15 rfl (lv_at hl 0 rfl) ?_
    refine gw_get (C := RX2) (T := TX2) (N := 2) (v := .int (M (22 + i0) 1)) hx hb hts hinX2 hown hK hP (by omega) (lyMHosts (by omega)) rfl 1 (by decide) w15 (fun _ h9 => h9) rfl dX2_append_16 ?_
    refine lv_iload_n hx hb dX2_append_19 rfl (lv_at hl 1 rfl) ?_
    obtain ⟨g20, h⟩ := gd_in h
    obtain ⟨M20, eM20, h⟩ := nm_some h
    refine gw_iast hx hb hK hP hD hS 0 (by omega) (lyMaHv (by omega)) rfl g20 eM20 dX2_append_20 (fun H locs hP hS => ?_)
    refine lv_aload_n hx hb dX2_append_21 rfl (lv_at hl 0 rfl) ?_
    refine w_pc 22 rfl ?_
    refine lv_dup hx hb dX2_append_22 rfl ?_
    refine gw_get (C := RX2) (T := TX2) (N := 2) (v := .int (M20 (22 + i0) 1)) hx hb hts hinX2 hown hK hP (by omega) (lyMHosts (by omega)) rfl 1 (by decide) w15 (fun _ h9 => h9) rfl dX2_append_23 ?_
    refine lv_iconst (v := 1) hx hb dX2_append_26 (by decide) ?_
    refine lv_iadd hx hb dX2_append_27 ?_
    obtain ⟨M28, eM28, h⟩ := nm_some h
    refine gw_put (C := RX2) (T := TX2) (N := 2) (ty := .int) hx hb hts hinX2 tyX2 tyX2_ok nmX2 hown hK hP hD hS (by omega) (lyMHosts (by omega)) rfl 1 (by decide) w15 (fun _ h9 => h9) rfl (by decide +kernel) rfl rfl (Nat.le_of_ble_eq_true rfl) rfl eM28 dX2_append_28 (fun H locs hP hS => ?_)
    refine lv_aload_n hx hb dX2_append_31 rfl (lv_at hl 0 rfl) ?_
    refine gw_get (C := RX2) (T := TX2) (N := 2) (v := .int (M28 (22 + i0) 1)) hx hb hts hinX2 hown hK hP (by omega) (lyMHosts (by omega)) rfl 1 (by decide) w15 (fun _ h9 => h9) rfl dX2_append_32 ?_
    exact re_i hx hb hr hlk h hP hS dX2_append_35
  · replace h := (if_neg q5).symm.trans h
    refine w_pc 8 rfl ?_
    refine lv_bipush (v := -2) hx hb dX2_append_8 (by decide) ?_
    exact re_i hx hb hr hlk h hP hS dX2_append_10
def rmX10_host : Room := { frames := 2, cells := 0, slots := 0, locals := 43 }
def fX10_host (a1 : Int32) (a2 : Int32) (a3 : Int32) (M : Mm) : Option (Int32 × Mm) :=
  bn1 (fX10_isDomain a1 M) (fun v2 => if v2 = 0 then (some ((-1 : Int32), M)) else (bn1 (fX10_isWithin a2 (0 : Int32) (1 : Int32)) (fun v11 => if v11 = 0 then (some ((-1 : Int32), M)) else (if a2 = 0 then (grd (gin a1 20) (bn2 (fX2_append (2 * a1.toNatClampNeg) a3 M) (fun v33 M33 => some (v33, M33)))) else (bn1 (fX10_isDomain a3 M) (fun v39 => if v39 = 0 then (some ((-1 : Int32), M)) else (grd (gin a1 20) (bn2 (fX2_append (2 * a1.toNatClampNeg + 1) a3 M) (fun v55 M55 => some (v55, M55))))))))))
set_option maxRecDepth 100000 in
set_option maxHeartbeats 4000000 in
theorem kX10_host (l : Launch) (D : va_G) (ad : Nat → Nat) (cA : Nat → ClassId) (A : Nat → Prop) {a1 : Int32} {a2 : Int32} {a3 : Int32} {M M1 : Mm} {r : Int32} (h : fX10_host a1 a2 a3 M = some (r, M1)) : Met l yX10_host wsX10_host rmX10_host (gPc D (tyM cA) 289 (layM ad cA) ad A M [.ref (ad 0), .int a1, .int a2, .int a3]) (gQi D 289 (layM ad cA) ad A M1 r) 0 0 A := by
  refine Met.ofW (cc := cX10_host) (maxL := 4) (ret := (some .int)) (by decide) rfl ?_
  intro p e s m args below meth c s₁ B hml hv
  obtain ⟨ha, hP, hK, hD, hN⟩ := hv
  have hx := B.exec
  have hb := B.bytes
  have hr := B.returns
  have hlk := B.notSynchronized
  have hts : ∀ w ∈ lw_g, w.before args s = true := fun w h => atoms_spec (ws := wsX10_host) B.pre w (List.mem_cons_of_mem _ h)
  have hown : s.vm.findClass RX10 = some m.cls := findClass_of_methodNamed B.named
  have hS : va_S A s.heap s.heap [] := va_S.rf
  unfold fX10_host at h
  have w11 := hts _ wm368
  have w76 := hts _ wm160
  have w86 := hts _ wm163
  refine w_entry ha (Nat.le_of_ble_eq_true rfl) (fun ls hl => ?_)
  have hl : lv_has ls 4 [(0, .ref (ad 0)), (1, .int a1), (2, .int a2), (3, .int a3)] := hl
  refine w_pc 0 rfl ?_
  refine lv_aload_n hx hb dX10_host_0 rfl (lv_at hl 0 rfl) ?_
  refine lv_iload_n hx hb dX10_host_1 rfl (lv_at hl 1 rfl) ?_
  refine w_pc 2 rfl ?_
  obtain ⟨v2, c2, h⟩ := bn1_some h
  refine cl_i (rn_v (As := [.int a1]) (rest := []) ⟨hx, hb, hml, hown, hts⟩ (kX10_isDomain l D ad cA A c2) ⟨callB_of 1 hts (gdc wm400) rfl rfl rfl (hts _ wm50) (hts _ wm397) hdX10_isDomain ⟨Nat.le_of_ble_eq_true rfl, Nat.le_of_ble_eq_true rfl⟩, hts _ wm399, hts _ wm0⟩ hK hP hD hN (by omega) lyMMA rfl rfl hl.1 rfl (lv_room (Nat.le_of_ble_eq_true rfl)) dX10_host_2) hS (fun H locs hP hS => ?_)
  refine w_pc 5 rfl ?_
  refine w_pc 5 rfl ?_
  refine lv_if_eq (tgt := 17) hx hb dX10_host_5 (by decide) (fun q5 => ?_) (fun q5 => ?_)
  · replace h := (if_pos q5).symm.trans h
    refine w_pc 17 rfl ?_
    refine lv_iconst (v := -1) hx hb dX10_host_17 (by decide) ?_
    exact re_i hx hb hr hlk h hP hS dX10_host_18
  · replace h := (if_neg q5).symm.trans h
    refine w_pc 8 rfl ?_
    refine lv_iload_n hx hb dX10_host_8 rfl (lv_at hl 2 rfl) ?_
    refine lv_iconst (v := 0) hx hb dX10_host_9 (by decide) ?_
    refine lv_iconst (v := 1) hx hb dX10_host_10 (by decide) ?_
    refine w_pc 11 rfl ?_
    obtain ⟨v11, c11, h⟩ := bn1_some h
    refine cl_i (rn_s (As := [.int a2, .int (0 : Int32), .int (1 : Int32)]) (rest := []) ⟨hx, hb, hml, hown, hts⟩ (kX10_isWithin l D ad cA A (M := M) c11) ⟨callB_of 3 hts (gdc wm403) rfl rfl rfl (hts _ wm50) (hts _ wm401) hdX10_isWithin ⟨Nat.le_of_ble_eq_true rfl, Nat.le_of_ble_eq_true rfl⟩, hts _ wm402⟩ hK hP hD hN rfl hl.1 rfl (lv_room (Nat.le_of_ble_eq_true rfl)) dX10_host_11) hS (fun H locs hP hS => ?_)
    refine w_pc 14 rfl ?_
    refine w_pc 14 rfl ?_
    refine lv_if_ne (tgt := 19) hx hb dX10_host_14 (by decide) (fun q14 => ?_) (fun q14 => ?_)
    · replace h := (if_neg q14).symm.trans h
      refine w_pc 19 rfl ?_
      refine lv_iload_n hx hb dX10_host_19 rfl (lv_at hl 2 rfl) ?_
      refine w_pc 20 rfl ?_
      refine lv_if_ne (tgt := 37) hx hb dX10_host_20 (by decide) (fun q20 => ?_) (fun q20 => ?_)
      · replace h := (if_neg q20).symm.trans h
        refine w_pc 37 rfl ?_
        refine lv_aload_n hx hb dX10_host_37 rfl (lv_at hl 0 rfl) ?_
        refine lv_iload_n hx hb dX10_host_38 rfl (lv_at hl 3 rfl) ?_
        refine w_pc 39 rfl ?_
        obtain ⟨v39, c39, h⟩ := bn1_some h
        refine cl_i (rn_v (As := [.int a3]) (rest := []) ⟨hx, hb, hml, hown, hts⟩ (kX10_isDomain l D ad cA A c39) ⟨callB_of 1 hts (gdc wm400) rfl rfl rfl (hts _ wm50) (hts _ wm397) hdX10_isDomain ⟨Nat.le_of_ble_eq_true rfl, Nat.le_of_ble_eq_true rfl⟩, hts _ wm399, hts _ wm0⟩ hK hP hD hN (by omega) lyMMA rfl rfl hl.1 rfl (lv_room (Nat.le_of_ble_eq_true rfl)) dX10_host_39) hS (fun H locs hP hS => ?_)
        refine w_pc 42 rfl ?_
        refine w_pc 42 rfl ?_
        refine lv_if_eq (tgt := 61) hx hb dX10_host_42 (by decide) (fun q42 => ?_) (fun q42 => ?_)
        · replace h := (if_pos q42).symm.trans h
          refine w_pc 61 rfl ?_
          refine lv_iconst (v := -1) hx hb dX10_host_61 (by decide) ?_
          exact re_i hx hb hr hlk h hP hS dX10_host_62
        · replace h := (if_neg q42).symm.trans h
          refine w_pc 45 rfl ?_
          refine lv_aload_n hx hb dX10_host_45 rfl (lv_at hl 0 rfl) ?_
          refine gw_get (C := RX10) (T := TX10) (N := 8) (v := .ref (ad 1)) hx hb hts hinX10 hown hK hP (by omega) lyMMA rfl 0 (by decide) w11 (fun _ h9 => h9) rfl dX10_host_46 ?_
          refine lv_iload_n hx hb dX10_host_49 rfl (lv_at hl 1 rfl) ?_
          obtain ⟨g50, h⟩ := gd_in h
          have b50 := some_lo g50
          refine gw_aald hx hb hK hP 2 (by omega) lyMaDom rfl g50 dX10_host_50 ?_
          refine gw_get (C := RX1) (T := TX1) (N := 8) (v := .ref (ad (22 + (2 * a1.toNatClampNeg + 1)))) hx hb hts hinX1 hown hK hP (by omega) (lyMDom (by omega)) rfl 4 (by decide) w86 (fun _ h9 => h9) rfl dX10_host_51 ?_
          refine lv_iload_n hx hb dX10_host_54 rfl (lv_at hl 3 rfl) ?_
          refine w_pc 55 rfl ?_
          obtain ⟨v55, M55, c55, h⟩ := bn2_some h
          refine cl_i (rn_v (As := [.int a3]) (rest := []) ⟨hx, hb, hml, hown, hts⟩ (kX2_append l D ad cA A (by omega) c55) ⟨callB_of 1 hts (gdc wm423) rfl rfl rfl (hts _ wm52) (hts _ wm420) hdX2_append ⟨Nat.le_of_ble_eq_true rfl, Nat.le_of_ble_eq_true rfl⟩, hts _ wm421, hts _ wm422⟩ hK hP hD hN (by omega) (lyMHosts (by omega)) rfl rfl hl.1 rfl (lv_room (Nat.le_of_ble_eq_true rfl)) dX10_host_55) hS (fun H locs hP hS => ?_)
          refine w_pc 58 rfl ?_
          refine lv_goto (tgt := 62) hx hb dX10_host_58 (by decide) ?_
          exact re_i hx hb hr hlk h hP hS dX10_host_62
      · replace h := (if_pos q20).symm.trans h
        refine w_pc 23 rfl ?_
        refine lv_aload_n hx hb dX10_host_23 rfl (lv_at hl 0 rfl) ?_
        refine gw_get (C := RX10) (T := TX10) (N := 8) (v := .ref (ad 1)) hx hb hts hinX10 hown hK hP (by omega) lyMMA rfl 0 (by decide) w11 (fun _ h9 => h9) rfl dX10_host_24 ?_
        refine lv_iload_n hx hb dX10_host_27 rfl (lv_at hl 1 rfl) ?_
        obtain ⟨g28, h⟩ := gd_in h
        have b28 := some_lo g28
        refine gw_aald hx hb hK hP 2 (by omega) lyMaDom rfl g28 dX10_host_28 ?_
        refine gw_get (C := RX1) (T := TX1) (N := 8) (v := .ref (ad (22 + (2 * a1.toNatClampNeg)))) hx hb hts hinX1 hown hK hP (by omega) (lyMDom (by omega)) rfl 3 (by decide) w76 (fun _ h9 => h9) rfl dX10_host_29 ?_
        refine lv_iload_n hx hb dX10_host_32 rfl (lv_at hl 3 rfl) ?_
        refine w_pc 33 rfl ?_
        obtain ⟨v33, M33, c33, h⟩ := bn2_some h
        refine cl_i (rn_v (As := [.int a3]) (rest := []) ⟨hx, hb, hml, hown, hts⟩ (kX2_append l D ad cA A (by omega) c33) ⟨callB_of 1 hts (gdc wm423) rfl rfl rfl (hts _ wm52) (hts _ wm420) hdX2_append ⟨Nat.le_of_ble_eq_true rfl, Nat.le_of_ble_eq_true rfl⟩, hts _ wm421, hts _ wm422⟩ hK hP hD hN (by omega) (lyMHosts (by omega)) rfl rfl hl.1 rfl (lv_room (Nat.le_of_ble_eq_true rfl)) dX10_host_33) hS (fun H locs hP hS => ?_)
        refine w_pc 36 rfl ?_
        exact re_i hx hb hr hlk h hP hS dX10_host_36
    · replace h := (if_pos q14).symm.trans h
      refine w_pc 17 rfl ?_
      refine lv_iconst (v := -1) hx hb dX10_host_17 (by decide) ?_
      exact re_i hx hb hr hlk h hP hS dX10_host_18
def rmX7_redirectTo : Room := { frames := 0, cells := 0, slots := 0, locals := 0 }
def fX7_redirectTo (i0 : Nat) (a1 : Int32) (M : Mm) : Option (Int32 × Mm) :=
  nm (up2 M (102 + i0) 6 a1) (fun M2 => nm (up2 M2 (102 + i0) 0 (1 : Int32)) (fun M7 => some ((M7 (102 + i0) 1), M7)))
set_option maxRecDepth 100000 in
set_option maxHeartbeats 4000000 in
theorem kX7_redirectTo (l : Launch) (D : va_G) (ad : Nat → Nat) (cA : Nat → ClassId) (A : Nat → Prop) {i0 : Nat} {a1 : Int32} {M M1 : Mm} {r : Int32} (hi0 : i0 < 20) (h : fX7_redirectTo i0 a1 M = some (r, M1)) : Met l yX7_redirectTo wsX7_redirectTo rmX7_redirectTo (gPc D (tyM cA) 289 (layM ad cA) ad A M [.ref (ad (102 + i0)), .int a1]) (gQi D 289 (layM ad cA) ad A M1 r) 0 0 A := by
  refine Met.ofW (cc := cX7_redirectTo) (maxL := 2) (ret := (some .int)) (by decide) rfl ?_
  intro p e s m args below meth c s₁ B hml hv
  obtain ⟨ha, hP, hK, hD, hN⟩ := hv
  have hx := B.exec
  have hb := B.bytes
  have hr := B.returns
  have hlk := B.notSynchronized
  have hts : ∀ w ∈ lw_g, w.before args s = true := fun w h => atoms_spec (ws := wsX7_redirectTo) B.pre w (List.mem_cons_of_mem _ h)
  have hown : s.vm.findClass RX7 = some m.cls := findClass_of_methodNamed B.named
  have hS : va_S A s.heap s.heap [] := va_S.rf
  unfold fX7_redirectTo at h
  have w24 := hts _ wm111
  have w31 := hts _ wm99
  have w28 := hts _ wm101
  refine w_entry ha (Nat.le_of_ble_eq_true rfl) (fun ls hl => ?_)
  have hl : lv_has ls 2 [(0, .ref (ad (102 + i0))), (1, .int a1)] := hl
  refine w_pc 0 rfl ?_
  refine lv_aload_n hx hb dX7_redirectTo_0 rfl (lv_at hl 0 rfl) ?_
  refine lv_iload_n hx hb dX7_redirectTo_1 rfl (lv_at hl 1 rfl) ?_
  obtain ⟨M2, eM2, h⟩ := nm_some h
  refine gw_put (C := RX7) (T := TX7) (N := 7) (ty := .int) hx hb hts hinX7 tyX7 tyX7_ok nmX7 hown hK hP hD hS (by omega) (lyMRule (by omega)) rfl 6 (by decide) w24 (fun _ h9 => h9) rfl (by decide +kernel) rfl rfl (Nat.le_of_ble_eq_true rfl) rfl eM2 dX7_redirectTo_2 (fun H locs hP hS => ?_)
  refine lv_aload_n hx hb dX7_redirectTo_5 rfl (lv_at hl 0 rfl) ?_
  refine lv_iconst (v := 1) hx hb dX7_redirectTo_6 (by decide) ?_
  obtain ⟨M7, eM7, h⟩ := nm_some h
  refine gw_put (C := RX7) (T := TX7) (N := 7) (ty := .boolean) hx hb hts hinX7 tyX7 tyX7_ok nmX7 hown hK hP hD hS (by omega) (lyMRule (by omega)) rfl 0 (by decide) w31 (fun _ h9 => h9) rfl (by decide +kernel) (nz_n (Or.inr rfl)) (nz_f (Or.inr rfl)) (Nat.le_of_ble_eq_true rfl) rfl eM7 dX7_redirectTo_7 (fun H locs hP hS => ?_)
  refine lv_aload_n hx hb dX7_redirectTo_10 rfl (lv_at hl 0 rfl) ?_
  refine w_pc 11 rfl ?_
  refine gw_get (C := RX7) (T := TX7) (N := 7) (v := .int (M7 (102 + i0) 1)) hx hb hts hinX7 hown hK hP (by omega) (lyMRule (by omega)) rfl 1 (by decide) w28 (fun _ h9 => h9) rfl dX7_redirectTo_11 ?_
  exact re_i hx hb hr hlk h hP hS dX7_redirectTo_14
def rmX10_hasLength : Room := { frames := 1, cells := 0, slots := 0, locals := 22 }
def fX10_hasLength (a0 : Int32) : Option Int32 :=
  bn1 (fX10_isWithin a0 (1 : Int32) (3 : Int32)) (fun v3 => grd (gz v3) (some v3))
set_option maxRecDepth 100000 in
set_option maxHeartbeats 4000000 in
theorem kX10_hasLength (l : Launch) (D : va_G) (ad : Nat → Nat) (cA : Nat → ClassId) (A : Nat → Prop) {a0 : Int32} {M : Mm} {r : Int32} (h : fX10_hasLength a0 = some r) : Met l yX10_hasLength wsX10_hasLength rmX10_hasLength (gPc D (tyM cA) 289 (layM ad cA) ad A M [.int a0]) (gQi D 289 (layM ad cA) ad A M r) 0 0 A := by
  refine Met.ofW (cc := cX10_hasLength) (maxL := 1) (ret := (some .boolean)) (by decide) rfl ?_
  intro p e s m args below meth c s₁ B hml hv
  obtain ⟨ha, hP, hK, hD, hN⟩ := hv
  have hx := B.exec
  have hb := B.bytes
  have hr := B.returns
  have hlk := B.notSynchronized
  have hts : ∀ w ∈ lw_g, w.before args s = true := fun w h => atoms_spec (ws := wsX10_hasLength) B.pre w (List.mem_cons_of_mem _ h)
  have hown : s.vm.findClass RX10 = some m.cls := findClass_of_methodNamed B.named
  have hS : va_S A s.heap s.heap [] := va_S.rf
  unfold fX10_hasLength at h
  refine w_entry ha (Nat.le_of_ble_eq_true rfl) (fun ls hl => ?_)
  have hl : lv_has ls 1 [(0, .int a0)] := hl
  refine w_pc 0 rfl ?_
  refine lv_iload_n hx hb dX10_hasLength_0 rfl (lv_at hl 0 rfl) ?_
  refine lv_iconst (v := 1) hx hb dX10_hasLength_1 (by decide) ?_
  refine lv_iconst (v := 3) hx hb dX10_hasLength_2 (by decide) ?_
  refine w_pc 3 rfl ?_
  obtain ⟨v3, c3, h⟩ := bn1_some h
  refine cl_i (rn_s (As := [.int a0, .int (1 : Int32), .int (3 : Int32)]) (rest := []) ⟨hx, hb, hml, hown, hts⟩ (kX10_isWithin l D ad cA A (M := M) c3) ⟨callB_of 3 hts (gdc wm403) rfl rfl rfl (hts _ wm50) (hts _ wm401) hdX10_isWithin ⟨Nat.le_of_ble_eq_true rfl, Nat.le_of_ble_eq_true rfl⟩, hts _ wm402⟩ hK hP hD hN rfl hl.1 rfl (lv_room (Nat.le_of_ble_eq_true rfl)) dX10_hasLength_3) hS (fun H locs hP hS => ?_)
  refine w_pc 6 rfl ?_
  obtain ⟨z6, h⟩ := gd_z h
  exact re_z hx hb hr hlk z6 (sm_r h) hP hS dX10_hasLength_6
def rmX7_append : Room := { frames := 0, cells := 0, slots := 0, locals := 0 }
def fX7_append (i0 : Nat) (a1 : Int32) (a2 : Int32) (a3 : Int32) (a4 : Int32) (M : Mm) : Option (Int32 × Mm) :=
  if (M (102 + i0) 1) < (6 : Int32) then (grd (gin (M (102 + i0) 1) 6) (nm (up2 M (122 + i0) (M (102 + i0) 1).toNatClampNeg a1) (fun M21 => grd (gin (M21 (102 + i0) 1) 6) (nm (up2 M21 (142 + i0) (M21 (102 + i0) 1).toNatClampNeg a2) (fun M31 => grd (gin (M31 (102 + i0) 1) 6) (nm (up2 M31 (162 + i0) (M31 (102 + i0) 1).toNatClampNeg a3) (fun M41 => grd (gin (M41 (102 + i0) 1) 6) (nm (up2 M41 (182 + i0) (M41 (102 + i0) 1).toNatClampNeg a4) (fun M52 => nm (up2 M52 (102 + i0) 1 ((M52 (102 + i0) 1) + (1 : Int32))) (fun M60 => nm (up2 M60 (102 + i0) 0 (1 : Int32)) (fun M65 => some ((M65 (102 + i0) 1), M65)))))))))))) else (some ((-2 : Int32), M))
set_option maxRecDepth 100000 in
set_option maxHeartbeats 4000000 in
theorem kX7_append (l : Launch) (D : va_G) (ad : Nat → Nat) (cA : Nat → ClassId) (A : Nat → Prop) {i0 : Nat} {a1 : Int32} {a2 : Int32} {a3 : Int32} {a4 : Int32} {M M1 : Mm} {r : Int32} (hi0 : i0 < 20) (h : fX7_append i0 a1 a2 a3 a4 M = some (r, M1)) : Met l yX7_append wsX7_append rmX7_append (gPc D (tyM cA) 289 (layM ad cA) ad A M [.ref (ad (102 + i0)), .int a1, .int a2, .int a3, .int a4]) (gQi D 289 (layM ad cA) ad A M1 r) 0 0 A := by
  refine Met.ofW (cc := cX7_append) (maxL := 5) (ret := (some .int)) (by decide) rfl ?_
  intro p e s m args below meth c s₁ B hml hv
  obtain ⟨ha, hP, hK, hD, hN⟩ := hv
  have hx := B.exec
  have hb := B.bytes
  have hr := B.returns
  have hlk := B.notSynchronized
  have hts : ∀ w ∈ lw_g, w.before args s = true := fun w h => atoms_spec (ws := wsX7_append) B.pre w (List.mem_cons_of_mem _ h)
  have hown : s.vm.findClass RX7 = some m.cls := findClass_of_methodNamed B.named
  have hS : va_S A s.heap s.heap [] := va_S.rf
  unfold fX7_append at h
  have w28 := hts _ wm101
  have w9 := hts _ wm103
  have w15 := hts _ wm105
  have w18 := hts _ wm107
  have w21 := hts _ wm109
  have w31 := hts _ wm99
  refine w_entry ha (Nat.le_of_ble_eq_true rfl) (fun ls hl => ?_)
  have hl : lv_has ls 5 [(0, .ref (ad (102 + i0))), (1, .int a1), (2, .int a2), (3, .int a3), (4, .int a4)] := hl
  refine w_pc 0 rfl ?_
  refine lv_aload_n hx hb dX7_append_0 rfl (lv_at hl 0 rfl) ?_
  refine gw_get (C := RX7) (T := TX7) (N := 7) (v := .int (M (102 + i0) 1)) hx hb hts hinX7 hown hK hP (by omega) (lyMRule (by omega)) rfl 1 (by decide) w28 (fun _ h9 => h9) rfl dX7_append_1 ?_
  refine lv_bipush (v := 6) hx hb dX7_append_4 (by decide) ?_
  refine w_pc 6 rfl ?_
  refine lv_icmp_lt (tgt := 12) hx hb dX7_append_6 (by decide) (fun q6 => ?_) (fun q6 => ?_)
  · replace h := (if_pos q6).symm.trans h
    refine w_pc 12 rfl ?_
    refine lv_aload_n hx hb dX7_append_12 rfl (lv_at hl 0 rfl) ?_
    refine gw_get (C := RX7) (T := TX7) (N := 7) (v := .ref (ad (122 + i0))) hx hb hts hinX7 hown hK hP (by omega) (lyMRule (by omega)) rfl 2 (by decide) w9 (fun _ h9 => h9) rfl dX7_append_13 ?_
    refine lv_aload_n hx hb dX7_append_16 rfl (lv_at hl 0 rfl) ?_
    refine gw_get (C := RX7) (T := TX7) (N := 7) (v := .int (M (102 + i0) 1)) hx hb hts hinX7 hown hK hP (by omega) (lyMRule (by omega)) rfl 1 (by decide) w28 (fun _ h9 => h9) rfl dX7_append_17 ?_
    refine lv_iload_n hx hb dX7_append_20 rfl (lv_at hl 1 rfl) ?_
    obtain ⟨g21, h⟩ := gd_in h
    obtain ⟨M21, eM21, h⟩ := nm_some h
    refine gw_iast hx hb hK hP hD hS 0 (by omega) (lyMaSg (by omega)) rfl g21 eM21 dX7_append_21 (fun H locs hP hS => ?_)
    refine lv_aload_n hx hb dX7_append_22 rfl (lv_at hl 0 rfl) ?_
    refine w_pc 23 rfl ?_
    refine gw_get (C := RX7) (T := TX7) (N := 7) (v := .ref (ad (142 + i0))) hx hb hts hinX7 hown hK hP (by omega) (lyMRule (by omega)) rfl 3 (by decide) w15 (fun _ h9 => h9) rfl dX7_append_23 ?_
    refine lv_aload_n hx hb dX7_append_26 rfl (lv_at hl 0 rfl) ?_
    refine gw_get (C := RX7) (T := TX7) (N := 7) (v := .int (M21 (102 + i0) 1)) hx hb hts hinX7 hown hK hP (by omega) (lyMRule (by omega)) rfl 1 (by decide) w28 (fun _ h9 => h9) rfl dX7_append_27 ?_
    refine lv_iload_n hx hb dX7_append_30 rfl (lv_at hl 2 rfl) ?_
    obtain ⟨g31, h⟩ := gd_in h
    obtain ⟨M31, eM31, h⟩ := nm_some h
    refine gw_iast hx hb hK hP hD hS 0 (by omega) (lyMaKd (by omega)) rfl g31 eM31 dX7_append_31 (fun H locs hP hS => ?_)
    refine lv_aload_n hx hb dX7_append_32 rfl (lv_at hl 0 rfl) ?_
    refine gw_get (C := RX7) (T := TX7) (N := 7) (v := .ref (ad (162 + i0))) hx hb hts hinX7 hown hK hP (by omega) (lyMRule (by omega)) rfl 4 (by decide) w18 (fun _ h9 => h9) rfl dX7_append_33 ?_
    refine lv_aload_n hx hb dX7_append_36 rfl (lv_at hl 0 rfl) ?_
    refine w_pc 37 rfl ?_
    refine gw_get (C := RX7) (T := TX7) (N := 7) (v := .int (M31 (102 + i0) 1)) hx hb hts hinX7 hown hK hP (by omega) (lyMRule (by omega)) rfl 1 (by decide) w28 (fun _ h9 => h9) rfl dX7_append_37 ?_
    refine lv_iload_n hx hb dX7_append_40 rfl (lv_at hl 3 rfl) ?_
    obtain ⟨g41, h⟩ := gd_in h
    obtain ⟨M41, eM41, h⟩ := nm_some h
    refine gw_iast hx hb hK hP hD hS 0 (by omega) (lyMaVl (by omega)) rfl g41 eM41 dX7_append_41 (fun H locs hP hS => ?_)
    refine lv_aload_n hx hb dX7_append_42 rfl (lv_at hl 0 rfl) ?_
    refine gw_get (C := RX7) (T := TX7) (N := 7) (v := .ref (ad (182 + i0))) hx hb hts hinX7 hown hK hP (by omega) (lyMRule (by omega)) rfl 5 (by decide) w21 (fun _ h9 => h9) rfl dX7_append_43 ?_
    refine lv_aload_n hx hb dX7_append_46 rfl (lv_at hl 0 rfl) ?_
    refine gw_get (C := RX7) (T := TX7) (N := 7) (v := .int (M41 (102 + i0) 1)) hx hb hts hinX7 hown hK hP (by omega) (lyMRule (by omega)) rfl 1 (by decide) w28 (fun _ h9 => h9) rfl dX7_append_47 ?_
    refine lv_iload hx hb dX7_append_50 (lv_at hl 4 rfl) ?_
    refine w_pc 52 rfl ?_
    obtain ⟨g52, h⟩ := gd_in h
    obtain ⟨M52, eM52, h⟩ := nm_some h
    refine gw_iast hx hb hK hP hD hS 0 (by omega) (lyMaLn (by omega)) rfl g52 eM52 dX7_append_52 (fun H locs hP hS => ?_)
    refine lv_aload_n hx hb dX7_append_53 rfl (lv_at hl 0 rfl) ?_
    refine lv_dup hx hb dX7_append_54 rfl ?_
    refine gw_get (C := RX7) (T := TX7) (N := 7) (v := .int (M52 (102 + i0) 1)) hx hb hts hinX7 hown hK hP (by omega) (lyMRule (by omega)) rfl 1 (by decide) w28 (fun _ h9 => h9) rfl dX7_append_55 ?_
    refine lv_iconst (v := 1) hx hb dX7_append_58 (by decide) ?_
    refine lv_iadd hx hb dX7_append_59 ?_
    obtain ⟨M60, eM60, h⟩ := nm_some h
    refine gw_put (C := RX7) (T := TX7) (N := 7) (ty := .int) hx hb hts hinX7 tyX7 tyX7_ok nmX7 hown hK hP hD hS (by omega) (lyMRule (by omega)) rfl 1 (by decide) w28 (fun _ h9 => h9) rfl (by decide +kernel) rfl rfl (Nat.le_of_ble_eq_true rfl) rfl eM60 dX7_append_60 (fun H locs hP hS => ?_)
    refine lv_aload_n hx hb dX7_append_63 rfl (lv_at hl 0 rfl) ?_
    refine w_pc 64 rfl ?_
    refine lv_iconst (v := 1) hx hb dX7_append_64 (by decide) ?_
    obtain ⟨M65, eM65, h⟩ := nm_some h
    refine gw_put (C := RX7) (T := TX7) (N := 7) (ty := .boolean) hx hb hts hinX7 tyX7 tyX7_ok nmX7 hown hK hP hD hS (by omega) (lyMRule (by omega)) rfl 0 (by decide) w31 (fun _ h9 => h9) rfl (by decide +kernel) (nz_n (Or.inr rfl)) (nz_f (Or.inr rfl)) (Nat.le_of_ble_eq_true rfl) rfl eM65 dX7_append_65 (fun H locs hP hS => ?_)
    refine lv_aload_n hx hb dX7_append_68 rfl (lv_at hl 0 rfl) ?_
    refine gw_get (C := RX7) (T := TX7) (N := 7) (v := .int (M65 (102 + i0) 1)) hx hb hts hinX7 hown hK hP (by omega) (lyMRule (by omega)) rfl 1 (by decide) w28 (fun _ h9 => h9) rfl dX7_append_69 ?_
    exact re_i hx hb hr hlk h hP hS dX7_append_72
  · replace h := (if_neg q6).symm.trans h
    refine w_pc 9 rfl ?_
    refine lv_bipush (v := -2) hx hb dX7_append_9 (by decide) ?_
    exact re_i hx hb hr hlk h hP hS dX7_append_11
def rmX10_rule : Room := { frames := 2, cells := 0, slots := 0, locals := 43 }
def fX10_rule_90 (a1 : Int32) (a2 : Int32) (a3 : Int32) (a4 : Int32) (a5 : Int32) (j6 : Nat) (M : Mm) : Option (Int32 × Mm) :=
  bn2 (fX7_append j6 a2 a3 a4 a5 M) (fun v98 M98 => some (v98, M98))
def fX10_rule_36 (a1 : Int32) (a2 : Int32) (a3 : Int32) (a4 : Int32) (a5 : Int32) (M : Mm) : Option (Int32 × Mm) :=
  grd (gin a1 20) (if a3 = (6 : Int32) then (bn2 (fX7_redirectTo a1.toNatClampNeg a4 M) (fun v57 M57 => some (v57, M57))) else (bn1 (fX10_isWithin a2 (0 : Int32) (3 : Int32)) (fun v64 => if v64 = 0 then (some ((-1 : Int32), M)) else (bn1 (fX10_hasLength a3) (fun v71 => if v71 = 0 then (fX10_rule_90 a1 a2 a3 a4 a5 a1.toNatClampNeg M) else (bn1 (fX10_isWithin a5 (0 : Int32) (32 : Int32)) (fun v82 => if v82 = 0 then (some ((-1 : Int32), M)) else (fX10_rule_90 a1 a2 a3 a4 a5 a1.toNatClampNeg M))))))))
def fX10_rule (a1 : Int32) (a2 : Int32) (a3 : Int32) (a4 : Int32) (a5 : Int32) (M : Mm) : Option (Int32 × Mm) :=
  bn1 (fX10_isDomain a1 M) (fun v2 => if v2 = 0 then (some ((-1 : Int32), M)) else (bn1 (fX10_isWithin a3 (0 : Int32) (6 : Int32)) (fun v12 => if v12 = 0 then (some ((-1 : Int32), M)) else (if a3 < (2 : Int32) then (fX10_rule_36 a1 a2 a3 a4 a5 M) else (bn1 (fX10_isDomain a4 M) (fun v28 => if v28 = 0 then (some ((-1 : Int32), M)) else (fX10_rule_36 a1 a2 a3 a4 a5 M)))))))
set_option maxRecDepth 100000 in
set_option maxHeartbeats 4000000 in
theorem kX10_rule (l : Launch) (D : va_G) (ad : Nat → Nat) (cA : Nat → ClassId) (A : Nat → Prop) {a1 : Int32} {a2 : Int32} {a3 : Int32} {a4 : Int32} {a5 : Int32} {M M1 : Mm} {r : Int32} (h : fX10_rule a1 a2 a3 a4 a5 M = some (r, M1)) : Met l yX10_rule wsX10_rule rmX10_rule (gPc D (tyM cA) 289 (layM ad cA) ad A M [.ref (ad 0), .int a1, .int a2, .int a3, .int a4, .int a5]) (gQi D 289 (layM ad cA) ad A M1 r) 0 0 A := by
  refine Met.ofW (cc := cX10_rule) (maxL := 7) (ret := (some .int)) (by decide) rfl ?_
  intro p e s m args below meth c s₁ B hml hv
  obtain ⟨ha, hP, hK, hD, hN⟩ := hv
  have hx := B.exec
  have hb := B.bytes
  have hr := B.returns
  have hlk := B.notSynchronized
  have hts : ∀ w ∈ lw_g, w.before args s = true := fun w h => atoms_spec (ws := wsX10_rule) B.pre w (List.mem_cons_of_mem _ h)
  have hown : s.vm.findClass RX10 = some m.cls := findClass_of_methodNamed B.named
  have hS : va_S A s.heap s.heap [] := va_S.rf
  unfold fX10_rule at h
  have w11 := hts _ wm368
  have w89 := hts _ wm167
  have bk90 : ∀ (j6 : Nat) (M : Mm) (ls : Array Slot) (H : Heap) (locs : List Loc), j6 < 20 → lv_has ls 7 [(2, .int a2), (3, .int a3), (4, .int a4), (5, .int a5), (6, .ref (ad (102 + j6)))] → fX10_rule_90 a1 a2 a3 a4 a5 j6 M = some (r, M1) → va_P D vwCl (gw 289 (layM ad cA) ad M) H → va_S A s.heap H locs → W p l e (headSpec wsX10_rule rmX10_rule).room s m args below meth c H locs 0 0 (MQ below (gQi D 289 (layM ad cA) ad A M1 r) args s 0 0 A) (F0 m 90 ls []) := by
    intro j6 M ls H locs hbj6 hl h hP hS
    unfold fX10_rule_90 at h
    refine w_pc 90 rfl ?_
    refine lv_aload hx hb dX10_rule_90 (lv_at hl 4 rfl) ?_
    refine lv_iload_n hx hb dX10_rule_92 rfl (lv_at hl 0 rfl) ?_
    refine lv_iload_n hx hb dX10_rule_93 rfl (lv_at hl 1 rfl) ?_
    refine lv_iload hx hb dX10_rule_94 (lv_at hl 2 rfl) ?_
    refine lv_iload hx hb dX10_rule_96 (lv_at hl 3 rfl) ?_
    refine w_pc 98 rfl ?_
    obtain ⟨v98, M98, c98, h⟩ := bn2_some h
    refine cl_i (rn_v (As := [.int a2, .int a3, .int a4, .int a5]) (rest := []) ⟨hx, hb, hml, hown, hts⟩ (kX7_append l D ad cA A (by omega) c98) ⟨callB_of 4 hts (gdc wm438) rfl rfl rfl (hts _ wm53) (hts _ wm435) hdX7_append ⟨Nat.le_of_ble_eq_true rfl, Nat.le_of_ble_eq_true rfl⟩, hts _ wm436, hts _ wm437⟩ hK hP hD hN (by omega) (lyMRule (by omega)) rfl rfl hl.1 rfl (lv_room (Nat.le_of_ble_eq_true rfl)) dX10_rule_98) hS (fun H locs hP hS => ?_)
    refine w_pc 101 rfl ?_
    exact re_i hx hb hr hlk h hP hS dX10_rule_101
  have bk36 : ∀ (M : Mm) (ls : Array Slot) (H : Heap) (locs : List Loc), lv_has ls 7 [(0, .ref (ad 0)), (1, .int a1), (2, .int a2), (3, .int a3), (4, .int a4), (5, .int a5)] → fX10_rule_36 a1 a2 a3 a4 a5 M = some (r, M1) → va_P D vwCl (gw 289 (layM ad cA) ad M) H → va_S A s.heap H locs → W p l e (headSpec wsX10_rule rmX10_rule).room s m args below meth c H locs 0 0 (MQ below (gQi D 289 (layM ad cA) ad A M1 r) args s 0 0 A) (F0 m 36 ls []) := by
    intro M ls H locs hl h hP hS
    unfold fX10_rule_36 at h
    refine w_pc 36 rfl ?_
    refine lv_aload_n hx hb dX10_rule_36 rfl (lv_at hl 0 rfl) ?_
    refine gw_get (C := RX10) (T := TX10) (N := 8) (v := .ref (ad 1)) hx hb hts hinX10 hown hK hP (by omega) lyMMA rfl 0 (by decide) w11 (fun _ h9 => h9) rfl dX10_rule_37 ?_
    refine lv_iload_n hx hb dX10_rule_40 rfl (lv_at hl 1 rfl) ?_
    obtain ⟨g41, h⟩ := gd_in h
    have b41 := some_lo g41
    refine gw_aald hx hb hK hP 2 (by omega) lyMaDom rfl g41 dX10_rule_41 ?_
    refine gw_get (C := RX1) (T := TX1) (N := 8) (v := .ref (ad (102 + a1.toNatClampNeg))) hx hb hts hinX1 hown hK hP (by omega) (lyMDom (by omega)) rfl 5 (by decide) w89 (fun _ h9 => h9) rfl dX10_rule_42 ?_
    refine lv_astore (lv' := [(6, .ref (ad (102 + a1.toNatClampNeg))), (0, .ref (ad 0)), (1, .int a1), (2, .int a2), (3, .int a3), (4, .int a4), (5, .int a5)]) hx hb dX10_rule_45 hl (by decide) rfl (fun ls hl => ?_)
    refine lv_iload_n hx hb dX10_rule_47 rfl (lv_at hl 4 rfl) ?_
    refine w_pc 48 rfl ?_
    refine lv_bipush (v := 6) hx hb dX10_rule_48 (by decide) ?_
    refine w_pc 50 rfl ?_
    refine lv_icmp_ne (tgt := 61) hx hb dX10_rule_50 (by decide) (fun q50 => ?_) (fun q50 => ?_)
    · replace h := (if_neg q50).symm.trans h
      refine w_pc 61 rfl ?_
      refine lv_iload_n hx hb dX10_rule_61 rfl (lv_at hl 3 rfl) ?_
      refine lv_iconst (v := 0) hx hb dX10_rule_62 (by decide) ?_
      refine lv_iconst (v := 3) hx hb dX10_rule_63 (by decide) ?_
      refine w_pc 64 rfl ?_
      obtain ⟨v64, c64, h⟩ := bn1_some h
      refine cl_i (rn_s (As := [.int a2, .int (0 : Int32), .int (3 : Int32)]) (rest := []) ⟨hx, hb, hml, hown, hts⟩ (kX10_isWithin l D ad cA A (M := M) c64) ⟨callB_of 3 hts (gdc wm403) rfl rfl rfl (hts _ wm50) (hts _ wm401) hdX10_isWithin ⟨Nat.le_of_ble_eq_true rfl, Nat.le_of_ble_eq_true rfl⟩, hts _ wm402⟩ hK hP hD hN rfl hl.1 rfl (lv_room (Nat.le_of_ble_eq_true rfl)) dX10_rule_64) hS (fun H locs hP hS => ?_)
      refine w_pc 67 rfl ?_
      refine w_pc 67 rfl ?_
      refine lv_if_eq (tgt := 88) hx hb dX10_rule_67 (by decide) (fun q67 => ?_) (fun q67 => ?_)
      · replace h := (if_pos q67).symm.trans h
        refine w_pc 88 rfl ?_
        refine lv_iconst (v := -1) hx hb dX10_rule_88 (by decide) ?_
        exact re_i hx hb hr hlk h hP hS dX10_rule_89
      · replace h := (if_neg q67).symm.trans h
        refine w_pc 70 rfl ?_
        refine lv_iload_n hx hb dX10_rule_70 rfl (lv_at hl 4 rfl) ?_
        refine w_pc 71 rfl ?_
        obtain ⟨v71, c71, h⟩ := bn1_some h
        refine cl_i (rn_s (As := [.int a3]) (rest := []) ⟨hx, hb, hml, hown, hts⟩ (kX10_hasLength l D ad cA A (M := M) c71) ⟨callB_of 1 hts (gdc wm434) rfl rfl rfl (hts _ wm50) (hts _ wm432) hdX10_hasLength ⟨Nat.le_of_ble_eq_true rfl, Nat.le_of_ble_eq_true rfl⟩, hts _ wm433⟩ hK hP hD hN rfl hl.1 rfl (lv_room (Nat.le_of_ble_eq_true rfl)) dX10_rule_71) hS (fun H locs hP hS => ?_)
        refine w_pc 74 rfl ?_
        refine w_pc 74 rfl ?_
        refine lv_if_eq (tgt := 90) hx hb dX10_rule_74 (by decide) (fun q74 => ?_) (fun q74 => ?_)
        · replace h := (if_pos q74).symm.trans h
          refine w_pc 90 rfl ?_
          exact bk90 a1.toNatClampNeg M ls _ _ (by omega) (lv_sub hl [3, 4, 5, 6, 0] rfl) h hP hS
        · replace h := (if_neg q74).symm.trans h
          refine w_pc 77 rfl ?_
          refine lv_iload hx hb dX10_rule_77 (lv_at hl 6 rfl) ?_
          refine lv_iconst (v := 0) hx hb dX10_rule_79 (by decide) ?_
          refine lv_bipush (v := 32) hx hb dX10_rule_80 (by decide) ?_
          refine w_pc 82 rfl ?_
          obtain ⟨v82, c82, h⟩ := bn1_some h
          refine cl_i (rn_s (As := [.int a5, .int (0 : Int32), .int (32 : Int32)]) (rest := []) ⟨hx, hb, hml, hown, hts⟩ (kX10_isWithin l D ad cA A (M := M) c82) ⟨callB_of 3 hts (gdc wm403) rfl rfl rfl (hts _ wm50) (hts _ wm401) hdX10_isWithin ⟨Nat.le_of_ble_eq_true rfl, Nat.le_of_ble_eq_true rfl⟩, hts _ wm402⟩ hK hP hD hN rfl hl.1 rfl (lv_room (Nat.le_of_ble_eq_true rfl)) dX10_rule_82) hS (fun H locs hP hS => ?_)
          refine w_pc 85 rfl ?_
          refine w_pc 85 rfl ?_
          refine lv_if_ne (tgt := 90) hx hb dX10_rule_85 (by decide) (fun q85 => ?_) (fun q85 => ?_)
          · replace h := (if_neg q85).symm.trans h
            refine w_pc 90 rfl ?_
            exact bk90 a1.toNatClampNeg M ls _ _ (by omega) (lv_sub hl [3, 4, 5, 6, 0] rfl) h hP hS
          · replace h := (if_pos q85).symm.trans h
            refine w_pc 88 rfl ?_
            refine lv_iconst (v := -1) hx hb dX10_rule_88 (by decide) ?_
            exact re_i hx hb hr hlk h hP hS dX10_rule_89
    · replace h := (if_pos q50).symm.trans h
      refine w_pc 53 rfl ?_
      refine lv_aload hx hb dX10_rule_53 (lv_at hl 0 rfl) ?_
      refine lv_iload hx hb dX10_rule_55 (lv_at hl 5 rfl) ?_
      refine w_pc 57 rfl ?_
      obtain ⟨v57, M57, c57, h⟩ := bn2_some h
      refine cl_i (rn_v (As := [.int a4]) (rest := []) ⟨hx, hb, hml, hown, hts⟩ (kX7_redirectTo l D ad cA A (by omega) c57) ⟨callB_of 1 hts (gdc wm431) rfl rfl rfl (hts _ wm53) (hts _ wm428) hdX7_redirectTo ⟨Nat.le_of_ble_eq_true rfl, Nat.le_of_ble_eq_true rfl⟩, hts _ wm429, hts _ wm430⟩ hK hP hD hN (by omega) (lyMRule (by omega)) rfl rfl hl.1 rfl (lv_room (Nat.le_of_ble_eq_true rfl)) dX10_rule_57) hS (fun H locs hP hS => ?_)
      refine w_pc 60 rfl ?_
      exact re_i hx hb hr hlk h hP hS dX10_rule_60
  refine w_entry ha (Nat.le_of_ble_eq_true rfl) (fun ls hl => ?_)
  have hl : lv_has ls 7 [(0, .ref (ad 0)), (1, .int a1), (2, .int a2), (3, .int a3), (4, .int a4), (5, .int a5)] := hl
  refine w_pc 0 rfl ?_
  refine lv_aload_n hx hb dX10_rule_0 rfl (lv_at hl 0 rfl) ?_
  refine lv_iload_n hx hb dX10_rule_1 rfl (lv_at hl 1 rfl) ?_
  refine w_pc 2 rfl ?_
  obtain ⟨v2, c2, h⟩ := bn1_some h
  refine cl_i (rn_v (As := [.int a1]) (rest := []) ⟨hx, hb, hml, hown, hts⟩ (kX10_isDomain l D ad cA A c2) ⟨callB_of 1 hts (gdc wm400) rfl rfl rfl (hts _ wm50) (hts _ wm397) hdX10_isDomain ⟨Nat.le_of_ble_eq_true rfl, Nat.le_of_ble_eq_true rfl⟩, hts _ wm399, hts _ wm0⟩ hK hP hD hN (by omega) lyMMA rfl rfl hl.1 rfl (lv_room (Nat.le_of_ble_eq_true rfl)) dX10_rule_2) hS (fun H locs hP hS => ?_)
  refine w_pc 5 rfl ?_
  refine w_pc 5 rfl ?_
  refine lv_if_eq (tgt := 18) hx hb dX10_rule_5 (by decide) (fun q5 => ?_) (fun q5 => ?_)
  · replace h := (if_pos q5).symm.trans h
    refine w_pc 18 rfl ?_
    refine lv_iconst (v := -1) hx hb dX10_rule_18 (by decide) ?_
    exact re_i hx hb hr hlk h hP hS dX10_rule_19
  · replace h := (if_neg q5).symm.trans h
    refine w_pc 8 rfl ?_
    refine lv_iload_n hx hb dX10_rule_8 rfl (lv_at hl 3 rfl) ?_
    refine lv_iconst (v := 0) hx hb dX10_rule_9 (by decide) ?_
    refine lv_bipush (v := 6) hx hb dX10_rule_10 (by decide) ?_
    refine w_pc 12 rfl ?_
    obtain ⟨v12, c12, h⟩ := bn1_some h
    refine cl_i (rn_s (As := [.int a3, .int (0 : Int32), .int (6 : Int32)]) (rest := []) ⟨hx, hb, hml, hown, hts⟩ (kX10_isWithin l D ad cA A (M := M) c12) ⟨callB_of 3 hts (gdc wm403) rfl rfl rfl (hts _ wm50) (hts _ wm401) hdX10_isWithin ⟨Nat.le_of_ble_eq_true rfl, Nat.le_of_ble_eq_true rfl⟩, hts _ wm402⟩ hK hP hD hN rfl hl.1 rfl (lv_room (Nat.le_of_ble_eq_true rfl)) dX10_rule_12) hS (fun H locs hP hS => ?_)
    refine w_pc 15 rfl ?_
    refine w_pc 15 rfl ?_
    refine lv_if_ne (tgt := 20) hx hb dX10_rule_15 (by decide) (fun q15 => ?_) (fun q15 => ?_)
    · replace h := (if_neg q15).symm.trans h
      refine w_pc 20 rfl ?_
      refine lv_iload_n hx hb dX10_rule_20 rfl (lv_at hl 3 rfl) ?_
      refine lv_iconst (v := 2) hx hb dX10_rule_21 (by decide) ?_
      refine w_pc 22 rfl ?_
      refine lv_icmp_lt (tgt := 36) hx hb dX10_rule_22 (by decide) (fun q22 => ?_) (fun q22 => ?_)
      · replace h := (if_pos q22).symm.trans h
        refine w_pc 36 rfl ?_
        exact bk36 M ls _ _ (lv_sub hl [0, 1, 2, 3, 4, 5] rfl) h hP hS
      · replace h := (if_neg q22).symm.trans h
        refine w_pc 25 rfl ?_
        refine lv_aload_n hx hb dX10_rule_25 rfl (lv_at hl 0 rfl) ?_
        refine lv_iload hx hb dX10_rule_26 (lv_at hl 4 rfl) ?_
        refine w_pc 28 rfl ?_
        obtain ⟨v28, c28, h⟩ := bn1_some h
        refine cl_i (rn_v (As := [.int a4]) (rest := []) ⟨hx, hb, hml, hown, hts⟩ (kX10_isDomain l D ad cA A c28) ⟨callB_of 1 hts (gdc wm400) rfl rfl rfl (hts _ wm50) (hts _ wm397) hdX10_isDomain ⟨Nat.le_of_ble_eq_true rfl, Nat.le_of_ble_eq_true rfl⟩, hts _ wm399, hts _ wm0⟩ hK hP hD hN (by omega) lyMMA rfl rfl hl.1 rfl (lv_room (Nat.le_of_ble_eq_true rfl)) dX10_rule_28) hS (fun H locs hP hS => ?_)
        refine w_pc 31 rfl ?_
        refine w_pc 31 rfl ?_
        refine lv_if_ne (tgt := 36) hx hb dX10_rule_31 (by decide) (fun q31 => ?_) (fun q31 => ?_)
        · replace h := (if_neg q31).symm.trans h
          refine w_pc 36 rfl ?_
          exact bk36 M ls _ _ (lv_sub hl [0, 1, 2, 3, 4, 5] rfl) h hP hS
        · replace h := (if_pos q31).symm.trans h
          refine w_pc 34 rfl ?_
          refine lv_iconst (v := -1) hx hb dX10_rule_34 (by decide) ?_
          exact re_i hx hb hr hlk h hP hS dX10_rule_35
    · replace h := (if_pos q15).symm.trans h
      refine w_pc 18 rfl ?_
      refine lv_iconst (v := -1) hx hb dX10_rule_18 (by decide) ?_
      exact re_i hx hb hr hlk h hP hS dX10_rule_19
def rmX10_isSelector : Room := { frames := 1, cells := 0, slots := 0, locals := 22 }
def fX10_isSelector (a0 : Int32) : Option Int32 :=
  bn1 (fX10_isWithin a0 (0 : Int32) (1 : Int32)) (fun v3 => grd (gz v3) (some v3))
set_option maxRecDepth 100000 in
set_option maxHeartbeats 4000000 in
theorem kX10_isSelector (l : Launch) (D : va_G) (ad : Nat → Nat) (cA : Nat → ClassId) (A : Nat → Prop) {a0 : Int32} {M : Mm} {r : Int32} (h : fX10_isSelector a0 = some r) : Met l yX10_isSelector wsX10_isSelector rmX10_isSelector (gPc D (tyM cA) 289 (layM ad cA) ad A M [.int a0]) (gQi D 289 (layM ad cA) ad A M r) 0 0 A := by
  refine Met.ofW (cc := cX10_isSelector) (maxL := 1) (ret := (some .boolean)) (by decide) rfl ?_
  intro p e s m args below meth c s₁ B hml hv
  obtain ⟨ha, hP, hK, hD, hN⟩ := hv
  have hx := B.exec
  have hb := B.bytes
  have hr := B.returns
  have hlk := B.notSynchronized
  have hts : ∀ w ∈ lw_g, w.before args s = true := fun w h => atoms_spec (ws := wsX10_isSelector) B.pre w (List.mem_cons_of_mem _ h)
  have hown : s.vm.findClass RX10 = some m.cls := findClass_of_methodNamed B.named
  have hS : va_S A s.heap s.heap [] := va_S.rf
  unfold fX10_isSelector at h
  refine w_entry ha (Nat.le_of_ble_eq_true rfl) (fun ls hl => ?_)
  have hl : lv_has ls 1 [(0, .int a0)] := hl
  refine w_pc 0 rfl ?_
  refine lv_iload_n hx hb dX10_isSelector_0 rfl (lv_at hl 0 rfl) ?_
  refine lv_iconst (v := 0) hx hb dX10_isSelector_1 (by decide) ?_
  refine lv_iconst (v := 1) hx hb dX10_isSelector_2 (by decide) ?_
  refine w_pc 3 rfl ?_
  obtain ⟨v3, c3, h⟩ := bn1_some h
  refine cl_i (rn_s (As := [.int a0, .int (0 : Int32), .int (1 : Int32)]) (rest := []) ⟨hx, hb, hml, hown, hts⟩ (kX10_isWithin l D ad cA A (M := M) c3) ⟨callB_of 3 hts (gdc wm403) rfl rfl rfl (hts _ wm50) (hts _ wm401) hdX10_isWithin ⟨Nat.le_of_ble_eq_true rfl, Nat.le_of_ble_eq_true rfl⟩, hts _ wm402⟩ hK hP hD hN rfl hl.1 rfl (lv_room (Nat.le_of_ble_eq_true rfl)) dX10_isSelector_3) hS (fun H locs hP hS => ?_)
  refine w_pc 6 rfl ?_
  obtain ⟨z6, h⟩ := gd_z h
  exact re_z hx hb hr hlk z6 (sm_r h) hP hS dX10_isSelector_6
def rmX10_key : Room := { frames := 2, cells := 0, slots := 0, locals := 43 }
def fX10_key (a1 : Int32) (a2 : Int32) (a3 : Int32) (M : Mm) : Option (Int32 × Mm) :=
  bn1 (fX10_isDomain a1 M) (fun v2 => if v2 = 0 then (some ((0 : Int32), M)) else (bn1 (fX10_isSelector a2) (fun v9 => if v9 = 0 then (some ((0 : Int32), M)) else (bn1 (fX10_isWithin a3 (0 : Int32) (1000000 : Int32)) (fun v19 => if v19 = 0 then (some ((0 : Int32), M)) else (grd (gin a1 20) (grd (gin a2 2) (nm (up2 M (202 + a1.toNatClampNeg) a2.toNatClampNeg a3) (fun M38 => some ((1 : Int32), M38))))))))))
set_option maxRecDepth 100000 in
set_option maxHeartbeats 4000000 in
theorem kX10_key (l : Launch) (D : va_G) (ad : Nat → Nat) (cA : Nat → ClassId) (A : Nat → Prop) {a1 : Int32} {a2 : Int32} {a3 : Int32} {M M1 : Mm} {r : Int32} (h : fX10_key a1 a2 a3 M = some (r, M1)) : Met l yX10_key wsX10_key rmX10_key (gPc D (tyM cA) 289 (layM ad cA) ad A M [.ref (ad 0), .int a1, .int a2, .int a3]) (gQi D 289 (layM ad cA) ad A M1 r) 0 0 A := by
  refine Met.ofW (cc := cX10_key) (maxL := 4) (ret := (some .boolean)) (by decide) rfl ?_
  intro p e s m args below meth c s₁ B hml hv
  obtain ⟨ha, hP, hK, hD, hN⟩ := hv
  have hx := B.exec
  have hb := B.bytes
  have hr := B.returns
  have hlk := B.notSynchronized
  have hts : ∀ w ∈ lw_g, w.before args s = true := fun w h => atoms_spec (ws := wsX10_key) B.pre w (List.mem_cons_of_mem _ h)
  have hown : s.vm.findClass RX10 = some m.cls := findClass_of_methodNamed B.named
  have hS : va_S A s.heap s.heap [] := va_S.rf
  unfold fX10_key at h
  have w11 := hts _ wm368
  have w108 := hts _ wm169
  refine w_entry ha (Nat.le_of_ble_eq_true rfl) (fun ls hl => ?_)
  have hl : lv_has ls 4 [(0, .ref (ad 0)), (1, .int a1), (2, .int a2), (3, .int a3)] := hl
  refine w_pc 0 rfl ?_
  refine lv_aload_n hx hb dX10_key_0 rfl (lv_at hl 0 rfl) ?_
  refine lv_iload_n hx hb dX10_key_1 rfl (lv_at hl 1 rfl) ?_
  refine w_pc 2 rfl ?_
  obtain ⟨v2, c2, h⟩ := bn1_some h
  refine cl_i (rn_v (As := [.int a1]) (rest := []) ⟨hx, hb, hml, hown, hts⟩ (kX10_isDomain l D ad cA A c2) ⟨callB_of 1 hts (gdc wm400) rfl rfl rfl (hts _ wm50) (hts _ wm397) hdX10_isDomain ⟨Nat.le_of_ble_eq_true rfl, Nat.le_of_ble_eq_true rfl⟩, hts _ wm399, hts _ wm0⟩ hK hP hD hN (by omega) lyMMA rfl rfl hl.1 rfl (lv_room (Nat.le_of_ble_eq_true rfl)) dX10_key_2) hS (fun H locs hP hS => ?_)
  refine w_pc 5 rfl ?_
  refine w_pc 5 rfl ?_
  refine lv_if_eq (tgt := 25) hx hb dX10_key_5 (by decide) (fun q5 => ?_) (fun q5 => ?_)
  · replace h := (if_pos q5).symm.trans h
    refine w_pc 25 rfl ?_
    refine lv_iconst (v := 0) hx hb dX10_key_25 (by decide) ?_
    exact re_z hx hb hr hlk (Or.inl rfl) h hP hS dX10_key_26
  · replace h := (if_neg q5).symm.trans h
    refine w_pc 8 rfl ?_
    refine lv_iload_n hx hb dX10_key_8 rfl (lv_at hl 2 rfl) ?_
    refine w_pc 9 rfl ?_
    obtain ⟨v9, c9, h⟩ := bn1_some h
    refine cl_i (rn_s (As := [.int a2]) (rest := []) ⟨hx, hb, hml, hown, hts⟩ (kX10_isSelector l D ad cA A (M := M) c9) ⟨callB_of 1 hts (gdc wm445) rfl rfl rfl (hts _ wm50) (hts _ wm443) hdX10_isSelector ⟨Nat.le_of_ble_eq_true rfl, Nat.le_of_ble_eq_true rfl⟩, hts _ wm444⟩ hK hP hD hN rfl hl.1 rfl (lv_room (Nat.le_of_ble_eq_true rfl)) dX10_key_9) hS (fun H locs hP hS => ?_)
    refine w_pc 12 rfl ?_
    refine w_pc 12 rfl ?_
    refine lv_if_eq (tgt := 25) hx hb dX10_key_12 (by decide) (fun q12 => ?_) (fun q12 => ?_)
    · replace h := (if_pos q12).symm.trans h
      refine w_pc 25 rfl ?_
      refine lv_iconst (v := 0) hx hb dX10_key_25 (by decide) ?_
      exact re_z hx hb hr hlk (Or.inl rfl) h hP hS dX10_key_26
    · replace h := (if_neg q12).symm.trans h
      refine w_pc 15 rfl ?_
      refine lv_iload_n hx hb dX10_key_15 rfl (lv_at hl 3 rfl) ?_
      refine lv_iconst (v := 0) hx hb dX10_key_16 (by decide) ?_
      refine lv_ldc (v := 1000000) hx hb hown (hts _ wm446) dX10_key_17 ?_
      refine w_pc 19 rfl ?_
      obtain ⟨v19, c19, h⟩ := bn1_some h
      refine cl_i (rn_s (As := [.int a3, .int (0 : Int32), .int (1000000 : Int32)]) (rest := []) ⟨hx, hb, hml, hown, hts⟩ (kX10_isWithin l D ad cA A (M := M) c19) ⟨callB_of 3 hts (gdc wm403) rfl rfl rfl (hts _ wm50) (hts _ wm401) hdX10_isWithin ⟨Nat.le_of_ble_eq_true rfl, Nat.le_of_ble_eq_true rfl⟩, hts _ wm402⟩ hK hP hD hN rfl hl.1 rfl (lv_room (Nat.le_of_ble_eq_true rfl)) dX10_key_19) hS (fun H locs hP hS => ?_)
      refine w_pc 22 rfl ?_
      refine w_pc 22 rfl ?_
      refine lv_if_ne (tgt := 27) hx hb dX10_key_22 (by decide) (fun q22 => ?_) (fun q22 => ?_)
      · replace h := (if_neg q22).symm.trans h
        refine w_pc 27 rfl ?_
        refine lv_aload_n hx hb dX10_key_27 rfl (lv_at hl 0 rfl) ?_
        refine gw_get (C := RX10) (T := TX10) (N := 8) (v := .ref (ad 1)) hx hb hts hinX10 hown hK hP (by omega) lyMMA rfl 0 (by decide) w11 (fun _ h9 => h9) rfl dX10_key_28 ?_
        refine lv_iload_n hx hb dX10_key_31 rfl (lv_at hl 1 rfl) ?_
        obtain ⟨g32, h⟩ := gd_in h
        have b32 := some_lo g32
        refine gw_aald hx hb hK hP 2 (by omega) lyMaDom rfl g32 dX10_key_32 ?_
        refine gw_get (C := RX1) (T := TX1) (N := 8) (v := .ref (ad (202 + a1.toNatClampNeg))) hx hb hts hinX1 hown hK hP (by omega) (lyMDom (by omega)) rfl 6 (by decide) w108 (fun _ h9 => h9) rfl dX10_key_33 ?_
        refine lv_iload_n hx hb dX10_key_36 rfl (lv_at hl 2 rfl) ?_
        refine lv_iload_n hx hb dX10_key_37 rfl (lv_at hl 3 rfl) ?_
        refine w_pc 38 rfl ?_
        obtain ⟨g38, h⟩ := gd_in h
        obtain ⟨M38, eM38, h⟩ := nm_some h
        refine gw_iast hx hb hK hP hD hS 0 (by omega) (lyMaKey (by omega)) rfl g38 eM38 dX10_key_38 (fun H locs hP hS => ?_)
        refine lv_iconst (v := 1) hx hb dX10_key_39 (by decide) ?_
        exact re_z hx hb hr hlk (Or.inr rfl) h hP hS dX10_key_40
      · replace h := (if_pos q22).symm.trans h
        refine w_pc 25 rfl ?_
        refine lv_iconst (v := 0) hx hb dX10_key_25 (by decide) ?_
        exact re_z hx hb hr hlk (Or.inl rfl) h hP hS dX10_key_26
