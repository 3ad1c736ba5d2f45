def rmX11_length : Room := { frames := 2, cells := 0, slots := 0, locals := 46 }
def fX11_length (a1 : Int32) (a2 : Int32) (M : Mm) : Option (Int32 × Mm) :=
  bn1 (fX11_isThere a1 M) (fun v2 => if v2 = 0 then (some ((-1 : Int32), M)) else (if a1 = (-1 : Int32) then (bn1 (fX11_makeBody a2 M) (fun M17 => some ((M17 0 41), M17))) else (bn1 (fX11_makeHeader a1 a2 M) (fun M26 => some ((M26 0 41), M26)))))
set_option maxRecDepth 100000 in
set_option maxHeartbeats 4000000 in
theorem kX11_length (l : Launch) (D : va_G) (ad : Nat → Nat) (cA : Nat → ClassId) (A : Nat → Prop) {a1 : Int32} {a2 : Int32} {M M1 : Mm} {r : Int32} (h : fX11_length a1 a2 M = some (r, M1)) : Met l yX11_length wsX11_length rmX11_length (gPc D (tyM cA) 40 (layN ad cA) ad A M [.ref (ad 0), .int a1, .int a2]) (gQi D 40 (layN ad cA) ad A M1 r) 0 0 A := by
  refine Met.ofW (cc := cX11_length) (maxL := 3) (ret := (some .int)) (by decide) rfl ?_
  intro p e s m args below meth c s₁ B hml hv
  obtain ⟨ha, hP, hK, hD, hN⟩ := hv
  have hx := B.exec
  have hb := B.bytes
  have hr := B.returns
  have hlk := B.notSynchronized
  have hts : ∀ w ∈ lw_g, w.before args s = true := fun w h => atoms_spec (ws := wsX11_length) B.pre w (List.mem_cons_of_mem _ h)
  have hown : s.vm.findClass RX11 = some m.cls := findClass_of_methodNamed B.named
  have hS : va_S A s.heap s.heap [] := va_S.rf
  unfold fX11_length at h
  have w217 := hts _ wm768
  refine w_entry ha (Nat.le_of_ble_eq_true rfl) (fun ls hl => ?_)
  have hl : lv_has ls 3 [(0, .ref (ad 0)), (1, .int a1), (2, .int a2)] := hl
  refine w_pc 0 rfl ?_
  refine lv_aload_n hx hb dX11_length_0 rfl (lv_at hl 0 rfl) ?_
  refine lv_iload_n hx hb dX11_length_1 rfl (lv_at hl 1 rfl) ?_
  refine w_pc 2 rfl ?_
  obtain ⟨v2, c2, h⟩ := bn1_some h
  refine cl_i (rn_v (As := [.int a1]) (rest := []) ⟨hx, hb, hml, hown, hts⟩ (kX11_isThere l D ad cA A c2) ⟨callB_of 1 hts (gdc wm998) rfl rfl rfl (hts _ wm61) (hts _ wm995) hdX11_isThere ⟨Nat.le_of_ble_eq_true rfl, Nat.le_of_ble_eq_true rfl⟩, hts _ wm997, hts _ wm34⟩ hK hP hD hN (by omega) lyNMM rfl rfl hl.1 rfl (lv_room (Nat.le_of_ble_eq_true rfl)) dX11_length_2) hS (fun H locs hP hS => ?_)
  refine w_pc 5 rfl ?_
  refine w_pc 5 rfl ?_
  refine lv_if_ne (tgt := 10) hx hb dX11_length_5 (by decide) (fun q5 => ?_) (fun q5 => ?_)
  · replace h := (if_neg q5).symm.trans h
    refine w_pc 10 rfl ?_
    refine lv_iload_n hx hb dX11_length_10 rfl (lv_at hl 1 rfl) ?_
    refine lv_iconst (v := -1) hx hb dX11_length_11 (by decide) ?_
    refine w_pc 12 rfl ?_
    refine lv_icmp_ne (tgt := 23) hx hb dX11_length_12 (by decide) (fun q12 => ?_) (fun q12 => ?_)
    · replace h := (if_neg q12).symm.trans h
      refine w_pc 23 rfl ?_
      refine lv_aload_n hx hb dX11_length_23 rfl (lv_at hl 0 rfl) ?_
      refine lv_iload_n hx hb dX11_length_24 rfl (lv_at hl 1 rfl) ?_
      refine lv_iload_n hx hb dX11_length_25 rfl (lv_at hl 2 rfl) ?_
      refine w_pc 26 rfl ?_
      obtain ⟨M26, c26, h⟩ := bn1_some h
      refine cl_v (rn_v (As := [.int a1, .int a2]) (rest := []) ⟨hx, hb, hml, hown, hts⟩ (kX11_makeHeader l D ad cA A c26) ⟨callB_of 2 hts (gdc wm1018) rfl rfl rfl (hts _ wm61) (hts _ wm1015) hdX11_makeHeader ⟨Nat.le_of_ble_eq_true rfl, Nat.le_of_ble_eq_true rfl⟩, hts _ wm1017, hts _ wm37⟩ hK hP hD hN (by omega) lyNMM rfl rfl hl.1 rfl (lv_room (Nat.le_of_ble_eq_true rfl)) dX11_length_26) hS (fun H locs hP hS => ?_)
      refine w_pc 29 rfl ?_
      refine lv_aload_n hx hb dX11_length_29 rfl (lv_at hl 0 rfl) ?_
      refine gw_get (C := RX11) (T := TX11) (N := 55) (v := .int (M26 0 41)) hx hb hts hinX11 hown hK hP (by omega) lyNMM rfl 41 (by decide) w217 (fun _ h9 => h9) rfl dX11_length_30 ?_
      exact re_i hx hb hr hlk h hP hS dX11_length_33
    · replace h := (if_pos q12).symm.trans h
      refine w_pc 15 rfl ?_
      refine lv_aload_n hx hb dX11_length_15 rfl (lv_at hl 0 rfl) ?_
      refine lv_iload_n hx hb dX11_length_16 rfl (lv_at hl 2 rfl) ?_
      refine w_pc 17 rfl ?_
      obtain ⟨M17, c17, h⟩ := bn1_some h
      refine cl_v (rn_v (As := [.int a2]) (rest := []) ⟨hx, hb, hml, hown, hts⟩ (kX11_makeBody l D ad cA A c17) ⟨callB_of 1 hts (gdc wm1007) rfl rfl rfl (hts _ wm61) (hts _ wm1004) hdX11_makeBody ⟨Nat.le_of_ble_eq_true rfl, Nat.le_of_ble_eq_true rfl⟩, hts _ wm1006, hts _ wm35⟩ hK hP hD hN (by omega) lyNMM rfl rfl hl.1 rfl (lv_room (Nat.le_of_ble_eq_true rfl)) dX11_length_17) hS (fun H locs hP hS => ?_)
      refine w_pc 20 rfl ?_
      refine lv_goto (tgt := 29) hx hb dX11_length_20 (by decide) ?_
      refine lv_aload_n hx hb dX11_length_29 rfl (lv_at hl 0 rfl) ?_
      refine gw_get (C := RX11) (T := TX11) (N := 55) (v := .int (M17 0 41)) hx hb hts hinX11 hown hK hP (by omega) lyNMM rfl 41 (by decide) w217 (fun _ h9 => h9) rfl dX11_length_30 ?_
      exact re_i hx hb hr hlk h hP hS dX11_length_33
  · replace h := (if_pos q5).symm.trans h
    refine w_pc 8 rfl ?_
    refine lv_iconst (v := -1) hx hb dX11_length_8 (by decide) ?_
    exact re_i hx hb hr hlk h hP hS dX11_length_9
def rmX11_bodyLength : Room := { frames := 2, cells := 0, slots := 0, locals := 45 }
def fX11_bodyLength_12 (a1 : Int32) (s0 : Int32) (M : Mm) : Option (Int32 × Mm) :=
  bn1 (fX11_makeBody s0 M) (fun M12 => some ((M12 0 41), M12))
def fX11_bodyLength (a1 : Int32) (M : Mm) : Option (Int32 × Mm) :=
  if (a1 &&& (2 : Int32)) = 0 then (fX11_bodyLength_12 a1 (0 : Int32) M) else (fX11_bodyLength_12 a1 (1 : Int32) M)
set_option maxRecDepth 100000 in
set_option maxHeartbeats 4000000 in
theorem kX11_bodyLength (l : Launch) (D : va_G) (ad : Nat → Nat) (cA : Nat → ClassId) (A : Nat → Prop) {a1 : Int32} {M M1 : Mm} {r : Int32} (h : fX11_bodyLength a1 M = some (r, M1)) : Met l yX11_bodyLength wsX11_bodyLength rmX11_bodyLength (gPc D (tyM cA) 40 (layN ad cA) ad A M [.ref (ad 0), .int a1]) (gQi D 40 (layN ad cA) ad A M1 r) 0 0 A := by
  refine Met.ofW (cc := cX11_bodyLength) (maxL := 2) (ret := (some .int)) (by decide) rfl ?_
  intro p e s m args below meth c s₁ B hml hv
  obtain ⟨ha, hP, hK, hD, hN⟩ := hv
  have hx := B.exec
  have hb := B.bytes
  have hr := B.returns
  have hlk := B.notSynchronized
  have hts : ∀ w ∈ lw_g, w.before args s = true := fun w h => atoms_spec (ws := wsX11_bodyLength) B.pre w (List.mem_cons_of_mem _ h)
  have hown : s.vm.findClass RX11 = some m.cls := findClass_of_methodNamed B.named
  have hS : va_S A s.heap s.heap [] := va_S.rf
  unfold fX11_bodyLength at h
  have w217 := hts _ wm768
  have bk12 : ∀ (s0 : Int32) (M : Mm) (ls : Array Slot) (H : Heap) (locs : List Loc), lv_has ls 2 [(0, .ref (ad 0))] → fX11_bodyLength_12 a1 s0 M = some (r, M1) → va_P D vwCl (gw 40 (layN ad cA) ad M) H → va_S A s.heap H locs → W p l e (headSpec wsX11_bodyLength rmX11_bodyLength).room s m args below meth c H locs 0 0 (MQ below (gQi D 40 (layN ad cA) ad A M1 r) args s 0 0 A) (F0 m 12 ls [.int s0, .ref (ad 0)]) := by
    intro s0 M ls H locs hl h hP hS
    unfold fX11_bodyLength_12 at h
    refine w_pc 12 rfl ?_
    refine w_pc 12 rfl ?_
    obtain ⟨M12, c12, h⟩ := bn1_some h
    refine cl_v (rn_v (As := [.int s0]) (rest := []) ⟨hx, hb, hml, hown, hts⟩ (kX11_makeBody l D ad cA A c12) ⟨callB_of 1 hts (gdc wm1007) rfl rfl rfl (hts _ wm61) (hts _ wm1004) hdX11_makeBody ⟨Nat.le_of_ble_eq_true rfl, Nat.le_of_ble_eq_true rfl⟩, hts _ wm1006, hts _ wm35⟩ hK hP hD hN (by omega) lyNMM rfl rfl hl.1 rfl (lv_room (Nat.le_of_ble_eq_true rfl)) dX11_bodyLength_12) hS (fun H locs hP hS => ?_)
    refine w_pc 15 rfl ?_
    refine lv_aload_n hx hb dX11_bodyLength_15 rfl (lv_at hl 0 rfl) ?_
    refine gw_get (C := RX11) (T := TX11) (N := 55) (v := .int (M12 0 41)) hx hb hts hinX11 hown hK hP (by omega) lyNMM rfl 41 (by decide) w217 (fun _ h9 => h9) rfl dX11_bodyLength_16 ?_
    exact re_i hx hb hr hlk h hP hS dX11_bodyLength_19
  refine w_entry ha (Nat.le_of_ble_eq_true rfl) (fun ls hl => ?_)
  have hl : lv_has ls 2 [(0, .ref (ad 0)), (1, .int a1)] := hl
  refine w_pc 0 rfl ?_
  refine lv_aload_n hx hb dX11_bodyLength_0 rfl (lv_at hl 0 rfl) ?_
  refine lv_iload_n hx hb dX11_bodyLength_1 rfl (lv_at hl 1 rfl) ?_
  refine lv_iconst (v := 2) hx hb dX11_bodyLength_2 (by decide) ?_
  refine lv_iand hx hb dX11_bodyLength_3 ?_
  refine w_pc 4 rfl ?_
  refine lv_if_eq (tgt := 11) hx hb dX11_bodyLength_4 (by decide) (fun q4 => ?_) (fun q4 => ?_)
  · replace h := (if_pos q4).symm.trans h
    refine w_pc 11 rfl ?_
    refine lv_iconst (v := 0) hx hb dX11_bodyLength_11 (by decide) ?_
    exact bk12 (0 : Int32) M ls _ _ (lv_sub hl [0] rfl) h hP hS
  · replace h := (if_neg q4).symm.trans h
    refine w_pc 7 rfl ?_
    refine lv_iconst (v := 1) hx hb dX11_bodyLength_7 (by decide) ?_
    refine lv_goto (tgt := 12) hx hb dX11_bodyLength_8 (by decide) ?_
    exact bk12 (1 : Int32) M ls _ _ (lv_sub hl [0] rfl) h hP hS
def rmX11_mix : Room := { frames := 0, cells := 0, slots := 0, locals := 0 }
def fX11_mix (a1 : Int32) (M : Mm) : Option Mm :=
  nm (((rdL M 0 43) ^^^ a1.toInt64) * (-7046029254386353131 : Int64)) (fun v11 => nm (wrL M 0 43 (v11 ^^^ (ushr64 v11 (30 : Int32)))) (fun M19 => some M19))
set_option maxRecDepth 100000 in
set_option maxHeartbeats 4000000 in
theorem kX11_mix (l : Launch) (D : va_G) (ad : Nat → Nat) (cA : Nat → ClassId) (A : Nat → Prop) {a1 : Int32} {M M1 : Mm} (h : fX11_mix a1 M = some M1) : Met l yX11_mix wsX11_mix rmX11_mix (gPc D (tyM cA) 40 (layN ad cA) ad A M [.ref (ad 0), .int a1]) (gQv D 40 (layN ad cA) ad A M1) 0 0 A := by
  refine Met.ofW (cc := cX11_mix) (maxL := 4) (ret := none) (by decide) rfl ?_
  intro p e s m args below meth c s₁ B hml hv
  obtain ⟨ha, hP, hK, hD, hN⟩ := hv
  have hx := B.exec
  have hb := B.bytes
  have hr := B.returns
  have hlk := B.notSynchronized
  have hts : ∀ w ∈ lw_g, w.before args s = true := fun w h => atoms_spec (ws := wsX11_mix) B.pre w (List.mem_cons_of_mem _ h)
  have hown : s.vm.findClass RX11 = some m.cls := findClass_of_methodNamed B.named
  have hS : va_S A s.heap s.heap [] := va_S.rf
  unfold fX11_mix at h
  have w234 := hts _ wm770
  refine w_entry ha (Nat.le_of_ble_eq_true rfl) (fun ls hl => ?_)
  have hl : lv_has ls 4 [(0, .ref (ad 0)), (1, .int a1)] := hl
  refine w_pc 0 rfl ?_
  refine lv_aload_n hx hb dX11_mix_0 rfl (lv_at hl 0 rfl) ?_
  refine gw_get (C := RX11) (T := TX11) (N := 55) (v := .long (rdL M 0 43)) hx hb hts hinX11 hown hK hP (by omega) lyNMM rfl 43 (by decide) w234 (fun _ h9 => h9) rfl dX11_mix_1 ?_
  refine lv_iload_n hx hb dX11_mix_4 rfl (lv_at hl 1 rfl) ?_
  refine lv_i2l (v := a1.toInt64) hx hb dX11_mix_5 rfl ?_
  refine lv_lxor hx hb dX11_mix_6 ?_
  refine lv_ldc2 (v := -7046029254386353131) hx hb hown (hts _ wm1040) dX11_mix_7 ?_
  refine lv_lmul hx hb dX11_mix_10 ?_
  refine w_pc 11 rfl ?_
  obtain ⟨v11, e11, h⟩ := nm_some h
  refine w_tl e11 ?_
  refine lv_lstore_n (lv' := [(2, .long v11), (0, .ref (ad 0)), (1, .int a1)]) hx hb dX11_mix_11 rfl hl (by decide) rfl (fun ls hl => ?_)
  refine lv_aload_n hx hb dX11_mix_12 rfl (lv_at hl 1 rfl) ?_
  refine lv_lload_n hx hb dX11_mix_13 rfl (lv_at hl 0 rfl) ?_
  refine lv_lload_n hx hb dX11_mix_14 rfl (lv_at hl 0 rfl) ?_
  refine lv_bipush (v := 30) hx hb dX11_mix_15 (by decide) ?_
  refine lv_lushr (v := ushr64 v11 (30 : Int32)) hx hb dX11_mix_17 rfl ?_
  refine lv_lxor hx hb dX11_mix_18 ?_
  obtain ⟨M19, eM19, h⟩ := nm_some h
  refine gw_putL (C := RX11) (T := TX11) (N := 55) hx hb hts hinX11 tyX11 tyX11_ok nmX11 hown hK hP hD hS (by omega) lyNMM rfl 43 (by decide) w234 (fun _ h9 => h9) rfl (by decide +kernel) rfl rfl (Nat.le_of_ble_eq_true rfl) eM19 rfl dX11_mix_19 (fun H locs hP hS => ?_)
  refine w_pc 22 rfl ?_
  exact re_v hx hb hr hlk h hP hS dX11_mix_22
def rmX11_digest : Room := { frames := 0, cells := 0, slots := 0, locals := 0 }
def fX11_digest (M : Mm) : Option Int32 :=
  some ((ushr64 (rdL M 0 43) (33 : Int32)).toInt32)
set_option maxRecDepth 100000 in
set_option maxHeartbeats 4000000 in
theorem kX11_digest (l : Launch) (D : va_G) (ad : Nat → Nat) (cA : Nat → ClassId) (A : Nat → Prop) {M : Mm} {r : Int32} (h : fX11_digest M = some r) : Met l yX11_digest wsX11_digest rmX11_digest (gPc D (tyM cA) 40 (layN ad cA) ad A M [.ref (ad 0)]) (gQi D 40 (layN ad cA) ad A M r) 0 0 A := by
  refine Met.ofW (cc := cX11_digest) (maxL := 1) (ret := (some .int)) (by decide) rfl ?_
  intro p e s m args below meth c s₁ B hml hv
  obtain ⟨ha, hP, hK, hD, hN⟩ := hv
  have hx := B.exec
  have hb := B.bytes
  have hr := B.returns
  have hlk := B.notSynchronized
  have hts : ∀ w ∈ lw_g, w.before args s = true := fun w h => atoms_spec (ws := wsX11_digest) B.pre w (List.mem_cons_of_mem _ h)
  have hown : s.vm.findClass RX11 = some m.cls := findClass_of_methodNamed B.named
  have hS : va_S A s.heap s.heap [] := va_S.rf
  unfold fX11_digest at h
  have w234 := hts _ wm770
  refine w_entry ha (Nat.le_of_ble_eq_true rfl) (fun ls hl => ?_)
  have hl : lv_has ls 1 [(0, .ref (ad 0))] := hl
  refine w_pc 0 rfl ?_
  refine lv_aload_n hx hb dX11_digest_0 rfl (lv_at hl 0 rfl) ?_
  refine gw_get (C := RX11) (T := TX11) (N := 55) (v := .long (rdL M 0 43)) hx hb hts hinX11 hown hK hP (by omega) lyNMM rfl 43 (by decide) w234 (fun _ h9 => h9) rfl dX11_digest_1 ?_
  refine lv_bipush (v := 33) hx hb dX11_digest_4 (by decide) ?_
  refine lv_lushr (v := ushr64 (rdL M 0 43) (33 : Int32)) hx hb dX11_digest_6 rfl ?_
  refine lv_l2i (v := (ushr64 (rdL M 0 43) (33 : Int32)).toInt32) hx hb dX11_digest_7 rfl ?_
  exact re_i hx hb hr hlk (sm_r h) hP hS dX11_digest_8
def rmX11_bodyDigest : Room := { frames := 2, cells := 0, slots := 0, locals := 45 }
def fX11_bodyDigest_55 (a1 : Int32) (a2 : Int32) (M : Mm) : Option (Int32 × Mm) :=
  bn1 (fX11_digest M) (fun v56 => some (v56, M))
def fX11_bodyDigest_39 (a1 : Int32) (a2 : Int32) (K22 : Int32 → Mm → Option (Int32 × Mm)) (x3 : Int32) (M : Mm) : Option (Int32 × Mm) :=
  grd (gin x3 92) (bn1 (fX11_mix (M 32 x3.toNatClampNeg) M) (fun M46 => K22 (x3 + 1) M46))
def fX11_bodyDigest_22 (a1 : Int32) (a2 : Int32) : Nat → Int32 → Mm → Option (Int32 × Mm)
  | 0, _, _ => none
  | n + 1, x3, M => if (M 0 41) ≤ x3 then (fX11_bodyDigest_55 a1 a2 M) else (if a2 < 0 then (fX11_bodyDigest_39 a1 a2 (fX11_bodyDigest_22 a1 a2 n) x3 M) else (if a2 ≤ x3 then (fX11_bodyDigest_55 a1 a2 M) else (fX11_bodyDigest_39 a1 a2 (fX11_bodyDigest_22 a1 a2 n) x3 M)))
def fX11_bodyDigest_12 (a1 : Int32) (a2 : Int32) (s0 : Int32) (M : Mm) : Option (Int32 × Mm) :=
  bn1 (fX11_makeBody s0 M) (fun M12 => nm (wrL M12 0 43 (0 : Int64)) (fun M17 => fX11_bodyDigest_22 a1 a2 FU (0 : Int32) M17))
def fX11_bodyDigest (a1 : Int32) (a2 : Int32) (M : Mm) : Option (Int32 × Mm) :=
  if (a1 &&& (2 : Int32)) = 0 then (fX11_bodyDigest_12 a1 a2 (0 : Int32) M) else (fX11_bodyDigest_12 a1 a2 (1 : Int32) M)
set_option maxRecDepth 100000 in
set_option maxHeartbeats 4000000 in
theorem kX11_bodyDigest (l : Launch) (D : va_G) (ad : Nat → Nat) (cA : Nat → ClassId) (A : Nat → Prop) {a1 : Int32} {a2 : Int32} {M M1 : Mm} {r : Int32} (h : fX11_bodyDigest a1 a2 M = some (r, M1)) : Met l yX11_bodyDigest wsX11_bodyDigest rmX11_bodyDigest (gPc D (tyM cA) 40 (layN ad cA) ad A M [.ref (ad 0), .int a1, .int a2]) (gQi D 40 (layN ad cA) ad A M1 r) 0 0 A := by
  refine Met.ofW (cc := cX11_bodyDigest) (maxL := 4) (ret := (some .int)) (by decide) rfl ?_
  intro p e s m args below meth c s₁ B hml hv
  obtain ⟨ha, hP, hK, hD, hN⟩ := hv
  have hx := B.exec
  have hb := B.bytes
  have hr := B.returns
  have hlk := B.notSynchronized
  have hts : ∀ w ∈ lw_g, w.before args s = true := fun w h => atoms_spec (ws := wsX11_bodyDigest) B.pre w (List.mem_cons_of_mem _ h)
  have hown : s.vm.findClass RX11 = some m.cls := findClass_of_methodNamed B.named
  have hS : va_S A s.heap s.heap [] := va_S.rf
  unfold fX11_bodyDigest at h
  have w234 := hts _ wm770
  have w217 := hts _ wm768
  have w104 := hts _ wm769
  have bk55 : ∀ (M : Mm) (ls : Array Slot) (H : Heap) (locs : List Loc), lv_has ls 4 [(0, .ref (ad 0))] → fX11_bodyDigest_55 a1 a2 M = some (r, M1) → va_P D vwCl (gw 40 (layN ad cA) ad M) H → va_S A s.heap H locs → W p l e (headSpec wsX11_bodyDigest rmX11_bodyDigest).room s m args below meth c H locs 0 0 (MQ below (gQi D 40 (layN ad cA) ad A M1 r) args s 0 0 A) (F0 m 55 ls []) := by
    intro M ls H locs hl h hP hS
    unfold fX11_bodyDigest_55 at h
    refine w_pc 55 rfl ?_
    refine lv_aload_n hx hb dX11_bodyDigest_55 rfl (lv_at hl 0 rfl) ?_
    refine w_pc 56 rfl ?_
    obtain ⟨v56, c56, h⟩ := bn1_some h
    refine cl_i (rn_v (As := []) (rest := []) ⟨hx, hb, hml, hown, hts⟩ (kX11_digest l D ad cA A c56) ⟨callB_of 0 hts (gdc wm1044) rfl rfl rfl (hts _ wm61) (hts _ wm1041) hdX11_digest ⟨Nat.le_of_ble_eq_true rfl, Nat.le_of_ble_eq_true rfl⟩, hts _ wm1043, hts _ wm42⟩ hK hP hD hN (by omega) lyNMM rfl rfl hl.1 rfl (lv_room (Nat.le_of_ble_eq_true rfl)) dX11_bodyDigest_56) hS (fun H locs hP hS => ?_)
    refine w_pc 59 rfl ?_
    exact re_i hx hb hr hlk h hP hS dX11_bodyDigest_59
  have lp22 : ∀ (n : Nat) (x3 : Int32) (M : Mm) (ls : Array Slot) (H : Heap) (locs : List Loc), lv_has ls 4 [(0, .ref (ad 0)), (2, .int a2), (3, .int x3)] → fX11_bodyDigest_22 a1 a2 n x3 M = some (r, M1) → va_P D vwCl (gw 40 (layN ad cA) ad M) H → va_S A s.heap H locs → W p l e (headSpec wsX11_bodyDigest rmX11_bodyDigest).room s m args below meth c H locs 0 0 (MQ below (gQi D 40 (layN ad cA) ad A M1 r) args s 0 0 A) (F0 m 22 ls []) := by
    intro n
    induction n with
    | zero =>
      intro x3 M ls H locs hl h hP hS
      rw [fX11_bodyDigest_22] at h
      cases h
    | succ n ih22 =>
      have bk39 : ∀ (x3 : Int32) (M : Mm) (ls : Array Slot) (H : Heap) (locs : List Loc), lv_has ls 4 [(0, .ref (ad 0)), (2, .int a2), (3, .int x3)] → fX11_bodyDigest_39 a1 a2 (fX11_bodyDigest_22 a1 a2 n) x3 M = some (r, M1) → va_P D vwCl (gw 40 (layN ad cA) ad M) H → va_S A s.heap H locs → W p l e (headSpec wsX11_bodyDigest rmX11_bodyDigest).room s m args below meth c H locs 0 0 (MQ below (gQi D 40 (layN ad cA) ad A M1 r) args s 0 0 A) (F0 m 39 ls []) := by
        intro x3 M ls H locs hl h hP hS
        unfold fX11_bodyDigest_39 at h
        refine w_pc 39 rfl ?_
        refine lv_aload_n hx hb dX11_bodyDigest_39 rfl (lv_at hl 0 rfl) ?_
        refine lv_aload_n hx hb dX11_bodyDigest_40 rfl (lv_at hl 0 rfl) ?_
        refine gw_get (C := RX11) (T := TX11) (N := 55) (v := .ref (ad 32)) hx hb hts hinX11 hown hK hP (by omega) lyNMM rfl 42 (by decide) w104 (fun _ h9 => h9) rfl dX11_bodyDigest_41 ?_
        refine lv_iload_n hx hb dX11_bodyDigest_44 rfl (lv_at hl 2 rfl) ?_
        obtain ⟨g45, h⟩ := gd_in h
        refine gw_iald hx hb hK hP 0 (by omega) lyNacanon rfl g45 dX11_bodyDigest_45 ?_
        refine w_pc 46 rfl ?_
        obtain ⟨M46, c46, h⟩ := bn1_some h
        refine cl_v (rn_v (As := [.int (M 32 x3.toNatClampNeg)]) (rest := []) ⟨hx, hb, hml, hown, hts⟩ (kX11_mix l D ad cA A c46) ⟨callB_of 1 hts (gdc wm1039) rfl rfl rfl (hts _ wm61) (hts _ wm1036) hdX11_mix ⟨Nat.le_of_ble_eq_true rfl, Nat.le_of_ble_eq_true rfl⟩, hts _ wm1038, hts _ wm41⟩ hK hP hD hN (by omega) lyNMM rfl rfl hl.1 rfl (lv_room (Nat.le_of_ble_eq_true rfl)) dX11_bodyDigest_46) hS (fun H locs hP hS => ?_)
        refine w_pc 49 rfl ?_
        refine lv_iinc (k := 2) (v := x3 + 1) (lv' := [(3, .int (x3 + 1)), (0, .ref (ad 0)), (2, .int a2)]) hx hb dX11_bodyDigest_49 hl rfl rfl (by decide) rfl (fun ls hl => ?_)
        refine lv_goto (tgt := 22) hx hb dX11_bodyDigest_52 (by decide) ?_
        exact ih22 (x3 + 1) M46 ls _ _ (lv_sub hl [1, 2, 0] rfl) h hP hS
      intro x3 M ls H locs hl h hP hS
      rw [fX11_bodyDigest_22] at h
      refine w_pc 22 rfl ?_
      refine lv_iload_n hx hb dX11_bodyDigest_22 rfl (lv_at hl 2 rfl) ?_
      refine lv_aload_n hx hb dX11_bodyDigest_23 rfl (lv_at hl 0 rfl) ?_
      refine gw_get (C := RX11) (T := TX11) (N := 55) (v := .int (M 0 41)) hx hb hts hinX11 hown hK hP (by omega) lyNMM rfl 41 (by decide) w217 (fun _ h9 => h9) rfl dX11_bodyDigest_24 ?_
      refine w_pc 27 rfl ?_
      refine lv_icmp_ge (tgt := 55) hx hb dX11_bodyDigest_27 (by decide) (fun q27 => ?_) (fun q27 => ?_)
      · replace h := (if_pos q27).symm.trans h
        refine w_pc 55 rfl ?_
        exact bk55 M ls _ _ (lv_sub hl [0] rfl) h hP hS
      · replace h := (if_neg q27).symm.trans h
        refine w_pc 30 rfl ?_
        refine lv_iload_n hx hb dX11_bodyDigest_30 rfl (lv_at hl 1 rfl) ?_
        refine w_pc 31 rfl ?_
        refine lv_if_lt (tgt := 39) hx hb dX11_bodyDigest_31 (by decide) (fun q31 => ?_) (fun q31 => ?_)
        · replace h := (if_pos q31).symm.trans h
          refine w_pc 39 rfl ?_
          exact bk39 x3 M ls _ _ (lv_sub hl [0, 1, 2] rfl) h hP hS
        · replace h := (if_neg q31).symm.trans h
          refine w_pc 34 rfl ?_
          refine lv_iload_n hx hb dX11_bodyDigest_34 rfl (lv_at hl 2 rfl) ?_
          refine lv_iload_n hx hb dX11_bodyDigest_35 rfl (lv_at hl 1 rfl) ?_
          refine w_pc 36 rfl ?_
          refine lv_icmp_ge (tgt := 55) hx hb dX11_bodyDigest_36 (by decide) (fun q36 => ?_) (fun q36 => ?_)
          · replace h := (if_pos q36).symm.trans h
            refine w_pc 55 rfl ?_
            exact bk55 M ls _ _ (lv_sub hl [0] rfl) h hP hS
          · replace h := (if_neg q36).symm.trans h
            refine w_pc 39 rfl ?_
            exact bk39 x3 M ls _ _ (lv_sub hl [0, 1, 2] rfl) h hP hS
  have bk12 : ∀ (s0 : Int32) (M : Mm) (ls : Array Slot) (H : Heap) (locs : List Loc), lv_has ls 4 [(0, .ref (ad 0)), (2, .int a2)] → fX11_bodyDigest_12 a1 a2 s0 M = some (r, M1) → va_P D vwCl (gw 40 (layN ad cA) ad M) H → va_S A s.heap H locs → W p l e (headSpec wsX11_bodyDigest rmX11_bodyDigest).room s m args below meth c H locs 0 0 (MQ below (gQi D 40 (layN ad cA) ad A M1 r) args s 0 0 A) (F0 m 12 ls [.int s0, .ref (ad 0)]) := by
    intro s0 M ls H locs hl h hP hS
    unfold fX11_bodyDigest_12 at h
    refine w_pc 12 rfl ?_
    refine w_pc 12 rfl ?_
    obtain ⟨M12, c12, h⟩ := bn1_some h
    refine cl_v (rn_v (As := [.int s0]) (rest := []) ⟨hx, hb, hml, hown, hts⟩ (kX11_makeBody l D ad cA A c12) ⟨callB_of 1 hts (gdc wm1007) rfl rfl rfl (hts _ wm61) (hts _ wm1004) hdX11_makeBody ⟨Nat.le_of_ble_eq_true rfl, Nat.le_of_ble_eq_true rfl⟩, hts _ wm1006, hts _ wm35⟩ hK hP hD hN (by omega) lyNMM rfl rfl hl.1 rfl (lv_room (Nat.le_of_ble_eq_true rfl)) dX11_bodyDigest_12) hS (fun H locs hP hS => ?_)
    refine w_pc 15 rfl ?_
    refine lv_aload_n hx hb dX11_bodyDigest_15 rfl (lv_at hl 0 rfl) ?_
    refine lv_lconst (v := 0) hx hb dX11_bodyDigest_16 (by decide) ?_
    obtain ⟨M17, eM17, h⟩ := nm_some h
    refine gw_putL (C := RX11) (T := TX11) (N := 55) hx hb hts hinX11 tyX11 tyX11_ok nmX11 hown hK hP hD hS (by omega) lyNMM rfl 43 (by decide) w234 (fun _ h9 => h9) rfl (by decide +kernel) rfl rfl (Nat.le_of_ble_eq_true rfl) eM17 rfl dX11_bodyDigest_17 (fun H locs hP hS => ?_)
    refine lv_iconst (v := 0) hx hb dX11_bodyDigest_20 (by decide) ?_
    refine lv_istore_n (lv' := [(3, .int (0 : Int32)), (0, .ref (ad 0)), (2, .int a2)]) hx hb dX11_bodyDigest_21 rfl hl (by decide) rfl (fun ls hl => ?_)
    exact lp22 FU (0 : Int32) M17 ls _ _ (lv_sub hl [1, 2, 0] rfl) h hP hS
  refine w_entry ha (Nat.le_of_ble_eq_true rfl) (fun ls hl => ?_)
  have hl : lv_has ls 4 [(0, .ref (ad 0)), (1, .int a1), (2, .int a2)] := hl
  refine w_pc 0 rfl ?_
  refine lv_aload_n hx hb dX11_bodyDigest_0 rfl (lv_at hl 0 rfl) ?_
  refine lv_iload_n hx hb dX11_bodyDigest_1 rfl (lv_at hl 1 rfl) ?_
  refine lv_iconst (v := 2) hx hb dX11_bodyDigest_2 (by decide) ?_
  refine lv_iand hx hb dX11_bodyDigest_3 ?_
  refine w_pc 4 rfl ?_
  refine lv_if_eq (tgt := 11) hx hb dX11_bodyDigest_4 (by decide) (fun q4 => ?_) (fun q4 => ?_)
  · replace h := (if_pos q4).symm.trans h
    refine w_pc 11 rfl ?_
    refine lv_iconst (v := 0) hx hb dX11_bodyDigest_11 (by decide) ?_
    exact bk12 (0 : Int32) M ls _ _ (lv_sub hl [0, 2] rfl) h hP hS
  · replace h := (if_neg q4).symm.trans h
    refine w_pc 7 rfl ?_
    refine lv_iconst (v := 1) hx hb dX11_bodyDigest_7 (by decide) ?_
    refine lv_goto (tgt := 12) hx hb dX11_bodyDigest_8 (by decide) ?_
    exact bk12 (1 : Int32) M ls _ _ (lv_sub hl [0, 2] rfl) h hP hS
def rmX11_sealOf : Room := { frames := 2, cells := 0, slots := 0, locals := 46 }
def fX11_sealOf_190 (a1 : Int32) (K101 : Int32 → Mm → Option (Int32 × Mm)) (x2 : Int32) (M : Mm) : Option (Int32 × Mm) :=
  K101 (x2 + 1) M
def fX11_sealOf_161 (a1 : Int32) (K101 : Int32 → Mm → Option (Int32 × Mm)) : Nat → Int32 → Int32 → Mm → Option (Int32 × Mm)
  | 0, _, _, _ => none
  | n + 1, x2, x3, M => if (M 0 41) ≤ x3 then (bn1 (fX11_mix (0 : Int32) M) (fun M187 => fX11_sealOf_190 a1 K101 x2 M187)) else (grd (gin x3 92) (bn1 (fX11_mix (M 32 x3.toNatClampNeg) M) (fun M176 => (fX11_sealOf_161 a1 K101 n) x2 (x3 + 1) M176)))
def fX11_sealOf_146 (a1 : Int32) (K101 : Int32 → Mm → Option (Int32 × Mm)) (x2 : Int32) (s0 : Int32) (s1 : Int32) (M : Mm) : Option (Int32 × Mm) :=
  bn1 (fX11_makeHeader s1 s0 M) (fun M146 => grd (gin x2 6) (bn1 (fX11_mix (M146 18 x2.toNatClampNeg) M146) (fun M156 => fX11_sealOf_161 a1 K101 FU x2 (0 : Int32) M156)))
def fX11_sealOf_101 (a1 : Int32) : Nat → Int32 → Mm → Option (Int32 × Mm)
  | 0, _, _ => none
  | n + 1, x2, M => if (M 0 23) ≤ x2 then (bn1 (fX11_digest M) (fun v197 => some (v197, M))) else (grd (gin a1 7) (grd (gin x2 6) (if (((M 25 a1.toNatClampNeg) >>> ((M 18 x2.toNatClampNeg) &&& 31)) &&& (1 : Int32)) = (1 : Int32) then (grd (gin a1 7) (if ((M 24 a1.toNatClampNeg) &&& (1 : Int32)) = 0 then (fX11_sealOf_146 a1 (fX11_sealOf_101 a1 n) x2 (0 : Int32) x2 M) else (fX11_sealOf_146 a1 (fX11_sealOf_101 a1 n) x2 (1 : Int32) x2 M))) else (fX11_sealOf_190 a1 (fX11_sealOf_101 a1 n) x2 M))))
def fX11_sealOf (a1 : Int32) (M : Mm) : Option (Int32 × Mm) :=
  nm (wrL M 0 43 (0 : Int64)) (fun M2 => grd (gin a1 7) (grd (gin a1 7) (grd (gin (((2 : Int32) * (M2 22 a1.toNatClampNeg)) + (M2 23 a1.toNatClampNeg)) 40) (bn1 (fX11_mix (M2 13 (((2 : Int32) * (M2 22 a1.toNatClampNeg)) + (M2 23 a1.toNatClampNeg)).toNatClampNeg) M2) (fun M26 => grd (gin a1 7) (bn1 (fX11_mix (M26 22 a1.toNatClampNeg) M26) (fun M36 => grd (gin a1 7) (bn1 (fX11_mix (M36 23 a1.toNatClampNeg) M36) (fun M46 => grd (gin a1 7) (bn1 (fX11_mix (M46 24 a1.toNatClampNeg) M46) (fun M56 => grd (gin a1 7) (bn1 (fX11_mix (M56 25 a1.toNatClampNeg) M56) (fun M66 => grd (gin a1 7) (bn1 (fX11_mix (M66 26 a1.toNatClampNeg) M66) (fun M76 => grd (gin a1 7) (bn1 (fX11_mix (M76 27 a1.toNatClampNeg) M76) (fun M86 => grd (gin a1 7) (bn1 (fX11_mix (M86 28 a1.toNatClampNeg) M86) (fun M96 => fX11_sealOf_101 a1 FU (0 : Int32) M96)))))))))))))))))))
set_option maxRecDepth 100000 in
set_option maxHeartbeats 4000000 in
theorem kX11_sealOf (l : Launch) (D : va_G) (ad : Nat → Nat) (cA : Nat → ClassId) (A : Nat → Prop) {a1 : Int32} {M M1 : Mm} {r : Int32} (h : fX11_sealOf a1 M = some (r, M1)) : Met l yX11_sealOf wsX11_sealOf rmX11_sealOf (gPc D (tyM cA) 40 (layN ad cA) ad A M [.ref (ad 0), .int a1]) (gQi D 40 (layN ad cA) ad A M1 r) 0 0 A := by
  refine Met.ofW (cc := cX11_sealOf) (maxL := 4) (ret := (some .int)) (by decide) rfl ?_
  intro p e s m args below meth c s₁ B hml hv
  obtain ⟨ha, hP, hK, hD, hN⟩ := hv
  have hx := B.exec
  have hb := B.bytes
  have hr := B.returns
  have hlk := B.notSynchronized
  have hts : ∀ w ∈ lw_g, w.before args s = true := fun w h => atoms_spec (ws := wsX11_sealOf) B.pre w (List.mem_cons_of_mem _ h)
  have hown : s.vm.findClass RX11 = some m.cls := findClass_of_methodNamed B.named
  have hS : va_S A s.heap s.heap [] := va_S.rf
  unfold fX11_sealOf at h
  have w234 := hts _ wm770
  have w47 := hts _ wm740
  have w74 := hts _ wm757
  have w77 := hts _ wm758
  have w80 := hts _ wm759
  have w83 := hts _ wm760
  have w86 := hts _ wm761
  have w89 := hts _ wm762
  have w92 := hts _ wm763
  have w200 := hts _ wm750
  have w62 := hts _ wm751
  have w217 := hts _ wm768
  have w104 := hts _ wm769
  have lp101 : ∀ (n101 : Nat) (x2 : Int32) (M : Mm) (ls : Array Slot) (H : Heap) (locs : List Loc), lv_has ls 4 [(0, .ref (ad 0)), (1, .int a1), (2, .int x2)] → fX11_sealOf_101 a1 n101 x2 M = some (r, M1) → va_P D vwCl (gw 40 (layN ad cA) ad M) H → va_S A s.heap H locs → W p l e (headSpec wsX11_sealOf rmX11_sealOf).room s m args below meth c H locs 0 0 (MQ below (gQi D 40 (layN ad cA) ad A M1 r) args s 0 0 A) (F0 m 101 ls []) := by
    intro n101
    induction n101 with
    | zero =>
      intro x2 M ls H locs hl h hP hS
      rw [fX11_sealOf_101] at h
      cases h
    | succ n101 ih101 =>
      have bk190 : ∀ (x2 : Int32) (M : Mm) (ls : Array Slot) (H : Heap) (locs : List Loc), lv_has ls 4 [(0, .ref (ad 0)), (1, .int a1), (2, .int x2)] → fX11_sealOf_190 a1 (fX11_sealOf_101 a1 n101) x2 M = some (r, M1) → va_P D vwCl (gw 40 (layN ad cA) ad M) H → va_S A s.heap H locs → W p l e (headSpec wsX11_sealOf rmX11_sealOf).room s m args below meth c H locs 0 0 (MQ below (gQi D 40 (layN ad cA) ad A M1 r) args s 0 0 A) (F0 m 190 ls []) := by
        intro x2 M ls H locs hl h hP hS
        unfold fX11_sealOf_190 at h
        refine w_pc 190 rfl ?_
        refine lv_iinc (k := 2) (v := x2 + 1) (lv' := [(2, .int (x2 + 1)), (0, .ref (ad 0)), (1, .int a1)]) hx hb dX11_sealOf_190 hl rfl rfl (by decide) rfl (fun ls hl => ?_)
        refine lv_goto (tgt := 101) hx hb dX11_sealOf_193 (by decide) ?_
        exact ih101 (x2 + 1) M ls _ _ (lv_sub hl [1, 2, 0] rfl) h hP hS
      have lp161 : ∀ (n161 : Nat) (x2 : Int32) (x3 : Int32) (M : Mm) (ls : Array Slot) (H : Heap) (locs : List Loc), lv_has ls 4 [(0, .ref (ad 0)), (1, .int a1), (2, .int x2), (3, .int x3)] → fX11_sealOf_161 a1 (fX11_sealOf_101 a1 n101) n161 x2 x3 M = some (r, M1) → va_P D vwCl (gw 40 (layN ad cA) ad M) H → va_S A s.heap H locs → W p l e (headSpec wsX11_sealOf rmX11_sealOf).room s m args below meth c H locs 0 0 (MQ below (gQi D 40 (layN ad cA) ad A M1 r) args s 0 0 A) (F0 m 161 ls []) := by
        intro n161
        induction n161 with
        | zero =>
          intro x2 x3 M ls H locs hl h hP hS
          rw [fX11_sealOf_161] at h
          cases h
        | succ n161 ih161 =>
          intro x2 x3 M ls H locs hl h hP hS
          rw [fX11_sealOf_161] at h
          refine w_pc 161 rfl ?_
          refine lv_iload_n hx hb dX11_sealOf_161 rfl (lv_at hl 3 rfl) ?_
          refine lv_aload_n hx hb dX11_sealOf_162 rfl (lv_at hl 0 rfl) ?_
          refine gw_get (C := RX11) (T := TX11) (N := 55) (v := .int (M 0 41)) hx hb hts hinX11 hown hK hP (by omega) lyNMM rfl 41 (by decide) w217 (fun _ h9 => h9) rfl dX11_sealOf_163 ?_
          refine w_pc 166 rfl ?_
          refine lv_icmp_ge (tgt := 185) hx hb dX11_sealOf_166 (by decide) (fun q166 => ?_) (fun q166 => ?_)
          · replace h := (if_pos q166).symm.trans h
            refine w_pc 185 rfl ?_
            refine lv_aload_n hx hb dX11_sealOf_185 rfl (lv_at hl 0 rfl) ?_
            refine lv_iconst (v := 0) hx hb dX11_sealOf_186 (by decide) ?_
            refine w_pc 187 rfl ?_
            obtain ⟨M187, c187, h⟩ := bn1_some h
            refine cl_v (rn_v (As := [.int (0 : Int32)]) (rest := []) ⟨hx, hb, hml, hown, hts⟩ (kX11_mix l D ad cA A c187) ⟨callB_of 1 hts (gdc wm1039) rfl rfl rfl (hts _ wm61) (hts _ wm1036) hdX11_mix ⟨Nat.le_of_ble_eq_true rfl, Nat.le_of_ble_eq_true rfl⟩, hts _ wm1038, hts _ wm41⟩ hK hP hD hN (by omega) lyNMM rfl rfl hl.1 rfl (lv_room (Nat.le_of_ble_eq_true rfl)) dX11_sealOf_187) hS (fun H locs hP hS => ?_)
            refine w_pc 190 rfl ?_
            exact bk190 x2 M187 ls _ _ (lv_sub hl [0, 1, 2] rfl) h hP hS
          · replace h := (if_neg q166).symm.trans h
            refine w_pc 169 rfl ?_
            refine lv_aload_n hx hb dX11_sealOf_169 rfl (lv_at hl 0 rfl) ?_
            refine lv_aload_n hx hb dX11_sealOf_170 rfl (lv_at hl 0 rfl) ?_
            refine gw_get (C := RX11) (T := TX11) (N := 55) (v := .ref (ad 32)) hx hb hts hinX11 hown hK hP (by omega) lyNMM rfl 42 (by decide) w104 (fun _ h9 => h9) rfl dX11_sealOf_171 ?_
            refine lv_iload_n hx hb dX11_sealOf_174 rfl (lv_at hl 3 rfl) ?_
            obtain ⟨g175, h⟩ := gd_in h
            refine gw_iald hx hb hK hP 0 (by omega) lyNacanon rfl g175 dX11_sealOf_175 ?_
            refine w_pc 176 rfl ?_
            obtain ⟨M176, c176, h⟩ := bn1_some h
            refine cl_v (rn_v (As := [.int (M 32 x3.toNatClampNeg)]) (rest := []) ⟨hx, hb, hml, hown, hts⟩ (kX11_mix l D ad cA A c176) ⟨callB_of 1 hts (gdc wm1039) rfl rfl rfl (hts _ wm61) (hts _ wm1036) hdX11_mix ⟨Nat.le_of_ble_eq_true rfl, Nat.le_of_ble_eq_true rfl⟩, hts _ wm1038, hts _ wm41⟩ hK hP hD hN (by omega) lyNMM rfl rfl hl.1 rfl (lv_room (Nat.le_of_ble_eq_true rfl)) dX11_sealOf_176) hS (fun H locs hP hS => ?_)
            refine w_pc 179 rfl ?_
            refine lv_iinc (k := 3) (v := x3 + 1) (lv' := [(3, .int (x3 + 1)), (0, .ref (ad 0)), (1, .int a1), (2, .int x2)]) hx hb dX11_sealOf_179 hl rfl rfl (by decide) rfl (fun ls hl => ?_)
            refine lv_goto (tgt := 161) hx hb dX11_sealOf_182 (by decide) ?_
            exact ih161 x2 (x3 + 1) M176 ls _ _ (lv_sub hl [1, 2, 3, 0] rfl) h hP hS
      have bk146 : ∀ (x2 : Int32) (s0 : Int32) (s1 : Int32) (M : Mm) (ls : Array Slot) (H : Heap) (locs : List Loc), lv_has ls 4 [(0, .ref (ad 0)), (1, .int a1), (2, .int x2)] → fX11_sealOf_146 a1 (fX11_sealOf_101 a1 n101) x2 s0 s1 M = some (r, M1) → va_P D vwCl (gw 40 (layN ad cA) ad M) H → va_S A s.heap H locs → W p l e (headSpec wsX11_sealOf rmX11_sealOf).room s m args below meth c H locs 0 0 (MQ below (gQi D 40 (layN ad cA) ad A M1 r) args s 0 0 A) (F0 m 146 ls [.int s0, .int s1, .ref (ad 0)]) := by
        intro x2 s0 s1 M ls H locs hl h hP hS
        unfold fX11_sealOf_146 at h
        refine w_pc 146 rfl ?_
        refine w_pc 146 rfl ?_
        obtain ⟨M146, c146, h⟩ := bn1_some h
        refine cl_v (rn_v (As := [.int s1, .int s0]) (rest := []) ⟨hx, hb, hml, hown, hts⟩ (kX11_makeHeader l D ad cA A c146) ⟨callB_of 2 hts (gdc wm1018) rfl rfl rfl (hts _ wm61) (hts _ wm1015) hdX11_makeHeader ⟨Nat.le_of_ble_eq_true rfl, Nat.le_of_ble_eq_true rfl⟩, hts _ wm1017, hts _ wm37⟩ hK hP hD hN (by omega) lyNMM rfl rfl hl.1 rfl (lv_room (Nat.le_of_ble_eq_true rfl)) dX11_sealOf_146) hS (fun H locs hP hS => ?_)
        refine w_pc 149 rfl ?_
        refine lv_aload_n hx hb dX11_sealOf_149 rfl (lv_at hl 0 rfl) ?_
        refine lv_aload_n hx hb dX11_sealOf_150 rfl (lv_at hl 0 rfl) ?_
        refine gw_get (C := RX11) (T := TX11) (N := 55) (v := .ref (ad 18)) hx hb hts hinX11 hown hK hP (by omega) lyNMM rfl 24 (by decide) w62 (fun _ h9 => h9) rfl dX11_sealOf_151 ?_
        refine lv_iload_n hx hb dX11_sealOf_154 rfl (lv_at hl 2 rfl) ?_
        obtain ⟨g155, h⟩ := gd_in h
        refine gw_iald hx hb hK hP 0 (by omega) lyNanames rfl g155 dX11_sealOf_155 ?_
        refine w_pc 156 rfl ?_
        obtain ⟨M156, c156, h⟩ := bn1_some h
        refine cl_v (rn_v (As := [.int (M146 18 x2.toNatClampNeg)]) (rest := []) ⟨hx, hb, hml, hown, hts⟩ (kX11_mix l D ad cA A c156) ⟨callB_of 1 hts (gdc wm1039) rfl rfl rfl (hts _ wm61) (hts _ wm1036) hdX11_mix ⟨Nat.le_of_ble_eq_true rfl, Nat.le_of_ble_eq_true rfl⟩, hts _ wm1038, hts _ wm41⟩ hK hP hD hN (by omega) lyNMM rfl rfl hl.1 rfl (lv_room (Nat.le_of_ble_eq_true rfl)) dX11_sealOf_156) hS (fun H locs hP hS => ?_)
        refine w_pc 159 rfl ?_
        refine lv_iconst (v := 0) hx hb dX11_sealOf_159 (by decide) ?_
        refine lv_istore_n (lv' := [(3, .int (0 : Int32)), (0, .ref (ad 0)), (1, .int a1), (2, .int x2)]) hx hb dX11_sealOf_160 rfl hl (by decide) rfl (fun ls hl => ?_)
        exact lp161 FU x2 (0 : Int32) M156 ls _ _ (lv_sub hl [1, 2, 3, 0] rfl) h hP hS
      intro x2 M ls H locs hl h hP hS
      rw [fX11_sealOf_101] at h
      refine w_pc 101 rfl ?_
      refine lv_iload_n hx hb dX11_sealOf_101 rfl (lv_at hl 2 rfl) ?_
      refine lv_aload_n hx hb dX11_sealOf_102 rfl (lv_at hl 0 rfl) ?_
      refine gw_get (C := RX11) (T := TX11) (N := 55) (v := .int (M 0 23)) hx hb hts hinX11 hown hK hP (by omega) lyNMM rfl 23 (by decide) w200 (fun _ h9 => h9) rfl dX11_sealOf_103 ?_
      refine w_pc 106 rfl ?_
      refine lv_icmp_ge (tgt := 196) hx hb dX11_sealOf_106 (by decide) (fun q106 => ?_) (fun q106 => ?_)
      · replace h := (if_pos q106).symm.trans h
        refine w_pc 196 rfl ?_
        refine lv_aload_n hx hb dX11_sealOf_196 rfl (lv_at hl 0 rfl) ?_
        refine w_pc 197 rfl ?_
        obtain ⟨v197, c197, h⟩ := bn1_some h
        refine cl_i (rn_v (As := []) (rest := []) ⟨hx, hb, hml, hown, hts⟩ (kX11_digest l D ad cA A c197) ⟨callB_of 0 hts (gdc wm1044) rfl rfl rfl (hts _ wm61) (hts _ wm1041) hdX11_digest ⟨Nat.le_of_ble_eq_true rfl, Nat.le_of_ble_eq_true rfl⟩, hts _ wm1043, hts _ wm42⟩ hK hP hD hN (by omega) lyNMM rfl rfl hl.1 rfl (lv_room (Nat.le_of_ble_eq_true rfl)) dX11_sealOf_197) hS (fun H locs hP hS => ?_)
        refine w_pc 200 rfl ?_
        exact re_i hx hb hr hlk h hP hS dX11_sealOf_200
      · replace h := (if_neg q106).symm.trans h
        refine w_pc 109 rfl ?_
        refine lv_aload_n hx hb dX11_sealOf_109 rfl (lv_at hl 0 rfl) ?_
        refine gw_get (C := RX11) (T := TX11) (N := 55) (v := .ref (ad 25)) hx hb hts hinX11 hown hK hP (by omega) lyNMM rfl 33 (by decide) w83 (fun _ h9 => h9) rfl dX11_sealOf_110 ?_
        refine lv_iload_n hx hb dX11_sealOf_113 rfl (lv_at hl 1 rfl) ?_
        obtain ⟨g114, h⟩ := gd_in h
        refine gw_iald hx hb hK hP 0 (by omega) lyNacovered rfl g114 dX11_sealOf_114 ?_
        refine lv_aload_n hx hb dX11_sealOf_115 rfl (lv_at hl 0 rfl) ?_
        refine gw_get (C := RX11) (T := TX11) (N := 55) (v := .ref (ad 18)) hx hb hts hinX11 hown hK hP (by omega) lyNMM rfl 24 (by decide) w62 (fun _ h9 => h9) rfl dX11_sealOf_116 ?_
        refine lv_iload_n hx hb dX11_sealOf_119 rfl (lv_at hl 2 rfl) ?_
        refine w_pc 120 rfl ?_
        obtain ⟨g120, h⟩ := gd_in h
        refine gw_iald hx hb hK hP 0 (by omega) lyNanames rfl g120 dX11_sealOf_120 ?_
        refine lv_ishr hx hb dX11_sealOf_121 ?_
        refine lv_iconst (v := 1) hx hb dX11_sealOf_122 (by decide) ?_
        refine lv_iand hx hb dX11_sealOf_123 ?_
        refine lv_iconst (v := 1) hx hb dX11_sealOf_124 (by decide) ?_
        refine w_pc 125 rfl ?_
        refine lv_icmp_ne (tgt := 190) hx hb dX11_sealOf_125 (by decide) (fun q125 => ?_) (fun q125 => ?_)
        · replace h := (if_neg q125).symm.trans h
          refine w_pc 190 rfl ?_
          exact bk190 x2 M ls _ _ (lv_sub hl [0, 1, 2] rfl) h hP hS
        · replace h := (if_pos q125).symm.trans h
          refine w_pc 128 rfl ?_
          refine lv_aload_n hx hb dX11_sealOf_128 rfl (lv_at hl 0 rfl) ?_
          refine lv_iload_n hx hb dX11_sealOf_129 rfl (lv_at hl 2 rfl) ?_
          refine lv_aload_n hx hb dX11_sealOf_130 rfl (lv_at hl 0 rfl) ?_
          refine gw_get (C := RX11) (T := TX11) (N := 55) (v := .ref (ad 24)) hx hb hts hinX11 hown hK hP (by omega) lyNMM rfl 32 (by decide) w80 (fun _ h9 => h9) rfl dX11_sealOf_131 ?_
          refine lv_iload_n hx hb dX11_sealOf_134 rfl (lv_at hl 1 rfl) ?_
          obtain ⟨g135, h⟩ := gd_in h
          refine gw_iald hx hb hK hP 0 (by omega) lyNaways rfl g135 dX11_sealOf_135 ?_
          refine lv_iconst (v := 1) hx hb dX11_sealOf_136 (by decide) ?_
          refine w_pc 137 rfl ?_
          refine lv_iand hx hb dX11_sealOf_137 ?_
          refine w_pc 138 rfl ?_
          refine lv_if_eq (tgt := 145) hx hb dX11_sealOf_138 (by decide) (fun q138 => ?_) (fun q138 => ?_)
          · replace h := (if_pos q138).symm.trans h
            refine w_pc 145 rfl ?_
            refine lv_iconst (v := 0) hx hb dX11_sealOf_145 (by decide) ?_
            exact bk146 x2 (0 : Int32) x2 M ls _ _ (lv_sub hl [0, 1, 2] rfl) h hP hS
          · replace h := (if_neg q138).symm.trans h
            refine w_pc 141 rfl ?_
            refine lv_iconst (v := 1) hx hb dX11_sealOf_141 (by decide) ?_
            refine lv_goto (tgt := 146) hx hb dX11_sealOf_142 (by decide) ?_
            exact bk146 x2 (1 : Int32) x2 M ls _ _ (lv_sub hl [0, 1, 2] rfl) h hP hS
  refine w_entry ha (Nat.le_of_ble_eq_true rfl) (fun ls hl => ?_)
  have hl : lv_has ls 4 [(0, .ref (ad 0)), (1, .int a1)] := hl
  refine w_pc 0 rfl ?_
  refine lv_aload_n hx hb dX11_sealOf_0 rfl (lv_at hl 0 rfl) ?_
  refine lv_lconst (v := 0) hx hb dX11_sealOf_1 (by decide) ?_
  obtain ⟨M2, eM2, h⟩ := nm_some h
  refine gw_putL (C := RX11) (T := TX11) (N := 55) hx hb hts hinX11 tyX11 tyX11_ok nmX11 hown hK hP hD hS (by omega) lyNMM rfl 43 (by decide) w234 (fun _ h9 => h9) rfl (by decide +kernel) rfl rfl (Nat.le_of_ble_eq_true rfl) eM2 rfl dX11_sealOf_2 (fun H locs hP hS => ?_)
  refine lv_aload_n hx hb dX11_sealOf_5 rfl (lv_at hl 0 rfl) ?_
  refine lv_aload_n hx hb dX11_sealOf_6 rfl (lv_at hl 0 rfl) ?_
  refine gw_get (C := RX11) (T := TX11) (N := 55) (v := .ref (ad 13)) hx hb hts hinX11 hown hK hP (by omega) lyNMM rfl 13 (by decide) w47 (fun _ h9 => h9) rfl dX11_sealOf_7 ?_
  refine lv_iconst (v := 2) hx hb dX11_sealOf_10 (by decide) ?_
  refine w_pc 11 rfl ?_
  refine lv_aload_n hx hb dX11_sealOf_11 rfl (lv_at hl 0 rfl) ?_
  refine gw_get (C := RX11) (T := TX11) (N := 55) (v := .ref (ad 22)) hx hb hts hinX11 hown hK hP (by omega) lyNMM rfl 30 (by decide) w74 (fun _ h9 => h9) rfl dX11_sealOf_12 ?_
  refine lv_iload_n hx hb dX11_sealOf_15 rfl (lv_at hl 1 rfl) ?_
  obtain ⟨g16, h⟩ := gd_in h
  refine gw_iald hx hb hK hP 0 (by omega) lyNabyDomain rfl g16 dX11_sealOf_16 ?_
  refine lv_imul hx hb dX11_sealOf_17 ?_
  refine lv_aload_n hx hb dX11_sealOf_18 rfl (lv_at hl 0 rfl) ?_
  refine gw_get (C := RX11) (T := TX11) (N := 55) (v := .ref (ad 23)) hx hb hts hinX11 hown hK hP (by omega) lyNMM rfl 31 (by decide) w77 (fun _ h9 => h9) rfl dX11_sealOf_19 ?_
  refine lv_iload_n hx hb dX11_sealOf_22 rfl (lv_at hl 1 rfl) ?_
  refine w_pc 23 rfl ?_
  obtain ⟨g23, h⟩ := gd_in h
  refine gw_iald hx hb hK hP 0 (by omega) lyNabySelector rfl g23 dX11_sealOf_23 ?_
  refine lv_iadd hx hb dX11_sealOf_24 ?_
  obtain ⟨g25, h⟩ := gd_in h
  refine gw_iald hx hb hK hP 0 (by omega) lyNakeys rfl g25 dX11_sealOf_25 ?_
  refine w_pc 26 rfl ?_
  obtain ⟨M26, c26, h⟩ := bn1_some h
  refine cl_v (rn_v (As := [.int (M2 13 (((2 : Int32) * (M2 22 a1.toNatClampNeg)) + (M2 23 a1.toNatClampNeg)).toNatClampNeg)]) (rest := []) ⟨hx, hb, hml, hown, hts⟩ (kX11_mix l D ad cA A c26) ⟨callB_of 1 hts (gdc wm1039) rfl rfl rfl (hts _ wm61) (hts _ wm1036) hdX11_mix ⟨Nat.le_of_ble_eq_true rfl, Nat.le_of_ble_eq_true rfl⟩, hts _ wm1038, hts _ wm41⟩ hK hP hD hN (by omega) lyNMM rfl rfl hl.1 rfl (lv_room (Nat.le_of_ble_eq_true rfl)) dX11_sealOf_26) hS (fun H locs hP hS => ?_)
  refine w_pc 29 rfl ?_
  refine lv_aload_n hx hb dX11_sealOf_29 rfl (lv_at hl 0 rfl) ?_
  refine lv_aload_n hx hb dX11_sealOf_30 rfl (lv_at hl 0 rfl) ?_
  refine gw_get (C := RX11) (T := TX11) (N := 55) (v := .ref (ad 22)) hx hb hts hinX11 hown hK hP (by omega) lyNMM rfl 30 (by decide) w74 (fun _ h9 => h9) rfl dX11_sealOf_31 ?_
  refine lv_iload_n hx hb dX11_sealOf_34 rfl (lv_at hl 1 rfl) ?_
  obtain ⟨g35, h⟩ := gd_in h
  refine gw_iald hx hb hK hP 0 (by omega) lyNabyDomain rfl g35 dX11_sealOf_35 ?_
  refine w_pc 36 rfl ?_
  obtain ⟨M36, c36, h⟩ := bn1_some h
  refine cl_v (rn_v (As := [.int (M26 22 a1.toNatClampNeg)]) (rest := []) ⟨hx, hb, hml, hown, hts⟩ (kX11_mix l D ad cA A c36) ⟨callB_of 1 hts (gdc wm1039) rfl rfl rfl (hts _ wm61) (hts _ wm1036) hdX11_mix ⟨Nat.le_of_ble_eq_true rfl, Nat.le_of_ble_eq_true rfl⟩, hts _ wm1038, hts _ wm41⟩ hK hP hD hN (by omega) lyNMM rfl rfl hl.1 rfl (lv_room (Nat.le_of_ble_eq_true rfl)) dX11_sealOf_36) hS (fun H locs hP hS => ?_)
  refine w_pc 39 rfl ?_
  refine lv_aload_n hx hb dX11_sealOf_39 rfl (lv_at hl 0 rfl) ?_
  refine lv_aload_n hx hb dX11_sealOf_40 rfl (lv_at hl 0 rfl) ?_
  refine gw_get (C := RX11) (T := TX11) (N := 55) (v := .ref (ad 23)) hx hb hts hinX11 hown hK hP (by omega) lyNMM rfl 31 (by decide) w77 (fun _ h9 => h9) rfl dX11_sealOf_41 ?_
  refine lv_iload_n hx hb dX11_sealOf_44 rfl (lv_at hl 1 rfl) ?_
  obtain ⟨g45, h⟩ := gd_in h
  refine gw_iald hx hb hK hP 0 (by omega) lyNabySelector rfl g45 dX11_sealOf_45 ?_
  refine w_pc 46 rfl ?_
  obtain ⟨M46, c46, h⟩ := bn1_some h
  refine cl_v (rn_v (As := [.int (M36 23 a1.toNatClampNeg)]) (rest := []) ⟨hx, hb, hml, hown, hts⟩ (kX11_mix l D ad cA A c46) ⟨callB_of 1 hts (gdc wm1039) rfl rfl rfl (hts _ wm61) (hts _ wm1036) hdX11_mix ⟨Nat.le_of_ble_eq_true rfl, Nat.le_of_ble_eq_true rfl⟩, hts _ wm1038, hts _ wm41⟩ hK hP hD hN (by omega) lyNMM rfl rfl hl.1 rfl (lv_room (Nat.le_of_ble_eq_true rfl)) dX11_sealOf_46) hS (fun H locs hP hS => ?_)
  refine w_pc 49 rfl ?_
  refine lv_aload_n hx hb dX11_sealOf_49 rfl (lv_at hl 0 rfl) ?_
  refine lv_aload_n hx hb dX11_sealOf_50 rfl (lv_at hl 0 rfl) ?_
  refine gw_get (C := RX11) (T := TX11) (N := 55) (v := .ref (ad 24)) hx hb hts hinX11 hown hK hP (by omega) lyNMM rfl 32 (by decide) w80 (fun _ h9 => h9) rfl dX11_sealOf_51 ?_
  refine lv_iload_n hx hb dX11_sealOf_54 rfl (lv_at hl 1 rfl) ?_
  obtain ⟨g55, h⟩ := gd_in h
  refine gw_iald hx hb hK hP 0 (by omega) lyNaways rfl g55 dX11_sealOf_55 ?_
  refine w_pc 56 rfl ?_
  obtain ⟨M56, c56, h⟩ := bn1_some h
  refine cl_v (rn_v (As := [.int (M46 24 a1.toNatClampNeg)]) (rest := []) ⟨hx, hb, hml, hown, hts⟩ (kX11_mix l D ad cA A c56) ⟨callB_of 1 hts (gdc wm1039) rfl rfl rfl (hts _ wm61) (hts _ wm1036) hdX11_mix ⟨Nat.le_of_ble_eq_true rfl, Nat.le_of_ble_eq_true rfl⟩, hts _ wm1038, hts _ wm41⟩ hK hP hD hN (by omega) lyNMM rfl rfl hl.1 rfl (lv_room (Nat.le_of_ble_eq_true rfl)) dX11_sealOf_56) hS (fun H locs hP hS => ?_)
  refine w_pc 59 rfl ?_
  refine lv_aload_n hx hb dX11_sealOf_59 rfl (lv_at hl 0 rfl) ?_
  refine lv_aload_n hx hb dX11_sealOf_60 rfl (lv_at hl 0 rfl) ?_
  refine gw_get (C := RX11) (T := TX11) (N := 55) (v := .ref (ad 25)) hx hb hts hinX11 hown hK hP (by omega) lyNMM rfl 33 (by decide) w83 (fun _ h9 => h9) rfl dX11_sealOf_61 ?_
  refine lv_iload_n hx hb dX11_sealOf_64 rfl (lv_at hl 1 rfl) ?_
  obtain ⟨g65, h⟩ := gd_in h
  refine gw_iald hx hb hK hP 0 (by omega) lyNacovered rfl g65 dX11_sealOf_65 ?_
  refine w_pc 66 rfl ?_
  obtain ⟨M66, c66, h⟩ := bn1_some h
  refine cl_v (rn_v (As := [.int (M56 25 a1.toNatClampNeg)]) (rest := []) ⟨hx, hb, hml, hown, hts⟩ (kX11_mix l D ad cA A c66) ⟨callB_of 1 hts (gdc wm1039) rfl rfl rfl (hts _ wm61) (hts _ wm1036) hdX11_mix ⟨Nat.le_of_ble_eq_true rfl, Nat.le_of_ble_eq_true rfl⟩, hts _ wm1038, hts _ wm41⟩ hK hP hD hN (by omega) lyNMM rfl rfl hl.1 rfl (lv_room (Nat.le_of_ble_eq_true rfl)) dX11_sealOf_66) hS (fun H locs hP hS => ?_)
  refine w_pc 69 rfl ?_
  refine lv_aload_n hx hb dX11_sealOf_69 rfl (lv_at hl 0 rfl) ?_
  refine lv_aload_n hx hb dX11_sealOf_70 rfl (lv_at hl 0 rfl) ?_
  refine gw_get (C := RX11) (T := TX11) (N := 55) (v := .ref (ad 26)) hx hb hts hinX11 hown hK hP (by omega) lyNMM rfl 34 (by decide) w86 (fun _ h9 => h9) rfl dX11_sealOf_71 ?_
  refine lv_iload_n hx hb dX11_sealOf_74 rfl (lv_at hl 1 rfl) ?_
  obtain ⟨g75, h⟩ := gd_in h
  refine gw_iald hx hb hK hP 0 (by omega) lyNalimits rfl g75 dX11_sealOf_75 ?_
  refine w_pc 76 rfl ?_
  obtain ⟨M76, c76, h⟩ := bn1_some h
  refine cl_v (rn_v (As := [.int (M66 26 a1.toNatClampNeg)]) (rest := []) ⟨hx, hb, hml, hown, hts⟩ (kX11_mix l D ad cA A c76) ⟨callB_of 1 hts (gdc wm1039) rfl rfl rfl (hts _ wm61) (hts _ wm1036) hdX11_mix ⟨Nat.le_of_ble_eq_true rfl, Nat.le_of_ble_eq_true rfl⟩, hts _ wm1038, hts _ wm41⟩ hK hP hD hN (by omega) lyNMM rfl rfl hl.1 rfl (lv_room (Nat.le_of_ble_eq_true rfl)) dX11_sealOf_76) hS (fun H locs hP hS => ?_)
  refine w_pc 79 rfl ?_
  refine lv_aload_n hx hb dX11_sealOf_79 rfl (lv_at hl 0 rfl) ?_
  refine lv_aload_n hx hb dX11_sealOf_80 rfl (lv_at hl 0 rfl) ?_
  refine gw_get (C := RX11) (T := TX11) (N := 55) (v := .ref (ad 27)) hx hb hts hinX11 hown hK hP (by omega) lyNMM rfl 35 (by decide) w89 (fun _ h9 => h9) rfl dX11_sealOf_81 ?_
  refine lv_iload_n hx hb dX11_sealOf_84 rfl (lv_at hl 1 rfl) ?_
  obtain ⟨g85, h⟩ := gd_in h
  refine gw_iald hx hb hK hP 0 (by omega) lyNaends rfl g85 dX11_sealOf_85 ?_
  refine w_pc 86 rfl ?_
  obtain ⟨M86, c86, h⟩ := bn1_some h
  refine cl_v (rn_v (As := [.int (M76 27 a1.toNatClampNeg)]) (rest := []) ⟨hx, hb, hml, hown, hts⟩ (kX11_mix l D ad cA A c86) ⟨callB_of 1 hts (gdc wm1039) rfl rfl rfl (hts _ wm61) (hts _ wm1036) hdX11_mix ⟨Nat.le_of_ble_eq_true rfl, Nat.le_of_ble_eq_true rfl⟩, hts _ wm1038, hts _ wm41⟩ hK hP hD hN (by omega) lyNMM rfl rfl hl.1 rfl (lv_room (Nat.le_of_ble_eq_true rfl)) dX11_sealOf_86) hS (fun H locs hP hS => ?_)
  refine w_pc 89 rfl ?_
  refine lv_aload_n hx hb dX11_sealOf_89 rfl (lv_at hl 0 rfl) ?_
  refine lv_aload_n hx hb dX11_sealOf_90 rfl (lv_at hl 0 rfl) ?_
  refine gw_get (C := RX11) (T := TX11) (N := 55) (v := .ref (ad 28)) hx hb hts hinX11 hown hK hP (by omega) lyNMM rfl 36 (by decide) w92 (fun _ h9 => h9) rfl dX11_sealOf_91 ?_
  refine lv_iload_n hx hb dX11_sealOf_94 rfl (lv_at hl 1 rfl) ?_
  obtain ⟨g95, h⟩ := gd_in h
  refine gw_iald hx hb hK hP 0 (by omega) lyNabodyDigests rfl g95 dX11_sealOf_95 ?_
  refine w_pc 96 rfl ?_
  obtain ⟨M96, c96, h⟩ := bn1_some h
  refine cl_v (rn_v (As := [.int (M86 28 a1.toNatClampNeg)]) (rest := []) ⟨hx, hb, hml, hown, hts⟩ (kX11_mix l D ad cA A c96) ⟨callB_of 1 hts (gdc wm1039) rfl rfl rfl (hts _ wm61) (hts _ wm1036) hdX11_mix ⟨Nat.le_of_ble_eq_true rfl, Nat.le_of_ble_eq_true rfl⟩, hts _ wm1038, hts _ wm41⟩ hK hP hD hN (by omega) lyNMM rfl rfl hl.1 rfl (lv_room (Nat.le_of_ble_eq_true rfl)) dX11_sealOf_96) hS (fun H locs hP hS => ?_)
  refine w_pc 99 rfl ?_
  refine lv_iconst (v := 0) hx hb dX11_sealOf_99 (by decide) ?_
  refine lv_istore_n (lv' := [(2, .int (0 : Int32)), (0, .ref (ad 0)), (1, .int a1)]) hx hb dX11_sealOf_100 rfl hl (by decide) rfl (fun ls hl => ?_)
  exact lp101 FU (0 : Int32) M96 ls _ _ (lv_sub hl [1, 2, 0] rfl) h hP hS
def rmX11_make : Room := { frames := 3, cells := 0, slots := 0, locals := 69 }
def fX11_make (a1 : Int32) (a2 : Int32) (a3 : Int32) (a4 : Int32) (a5 : Int32) (a6 : Int32) (a7 : Int32) (M : Mm) : Option Mm :=
  grd (gin a1 7) (nm (up2 M 22 a1.toNatClampNeg a2) (fun M6 => grd (gin a1 7) (nm (up2 M6 23 a1.toNatClampNeg a3) (fun M13 => grd (gin a1 7) (nm (up2 M13 24 a1.toNatClampNeg a4) (fun M21 => grd (gin a1 7) (nm (up2 M21 25 a1.toNatClampNeg a5) (fun M29 => grd (gin a1 7) (nm (up2 M29 26 a1.toNatClampNeg a6) (fun M37 => grd (gin a1 7) (nm (up2 M37 27 a1.toNatClampNeg a7) (fun M45 => bn2 (fX11_bodyDigest a4 a6 M45) (fun v56 M56 => grd (gin a1 7) (nm (up2 M56 28 a1.toNatClampNeg v56) (fun M59 => bn2 (fX11_sealOf a1 M59) (fun v67 M67 => grd (gin a1 7) (nm (up2 M67 29 a1.toNatClampNeg v67) (fun M70 => some M70))))))))))))))))))
set_option maxRecDepth 100000 in
set_option maxHeartbeats 4000000 in
theorem kX11_make (l : Launch) (D : va_G) (ad : Nat → Nat) (cA : Nat → ClassId) (A : Nat → Prop) {a1 : Int32} {a2 : Int32} {a3 : Int32} {a4 : Int32} {a5 : Int32} {a6 : Int32} {a7 : Int32} {M M1 : Mm} (h : fX11_make a1 a2 a3 a4 a5 a6 a7 M = some M1) : Met l yX11_make wsX11_make rmX11_make (gPc D (tyM cA) 40 (layN ad cA) ad A M [.ref (ad 0), .int a1, .int a2, .int a3, .int a4, .int a5, .int a6, .int a7]) (gQv D 40 (layN ad cA) ad A M1) 0 0 A := by
  refine Met.ofW (cc := cX11_make) (maxL := 8) (ret := none) (by decide) rfl ?_
  intro p e s m args below meth c s₁ B hml hv
  obtain ⟨ha, hP, hK, hD, hN⟩ := hv
  have hx := B.exec
  have hb := B.bytes
  have hr := B.returns
  have hlk := B.notSynchronized
  have hts : ∀ w ∈ lw_g, w.before args s = true := fun w h => atoms_spec (ws := wsX11_make) B.pre w (List.mem_cons_of_mem _ h)
  have hown : s.vm.findClass RX11 = some m.cls := findClass_of_methodNamed B.named
  have hS : va_S A s.heap s.heap [] := va_S.rf
  unfold fX11_make at h
  have w74 := hts _ wm757
  have w77 := hts _ wm758
  have w80 := hts _ wm759
  have w83 := hts _ wm760
  have w86 := hts _ wm761
  have w89 := hts _ wm762
  have w92 := hts _ wm763
  have w95 := hts _ wm764
  refine w_entry ha (Nat.le_of_ble_eq_true rfl) (fun ls hl => ?_)
  have hl : lv_has ls 8 [(0, .ref (ad 0)), (1, .int a1), (2, .int a2), (3, .int a3), (4, .int a4), (5, .int a5), (6, .int a6), (7, .int a7)] := hl
  refine w_pc 0 rfl ?_
  refine lv_aload_n hx hb dX11_make_0 rfl (lv_at hl 0 rfl) ?_
  refine gw_get (C := RX11) (T := TX11) (N := 55) (v := .ref (ad 22)) hx hb hts hinX11 hown hK hP (by omega) lyNMM rfl 30 (by decide) w74 (fun _ h9 => h9) rfl dX11_make_1 ?_
  refine lv_iload_n hx hb dX11_make_4 rfl (lv_at hl 1 rfl) ?_
  refine lv_iload_n hx hb dX11_make_5 rfl (lv_at hl 2 rfl) ?_
  obtain ⟨g6, h⟩ := gd_in h
  obtain ⟨M6, eM6, h⟩ := nm_some h
  refine gw_iast hx hb hK hP hD hS 0 (by omega) lyNabyDomain rfl g6 eM6 dX11_make_6 (fun H locs hP hS => ?_)
  refine lv_aload_n hx hb dX11_make_7 rfl (lv_at hl 0 rfl) ?_
  refine gw_get (C := RX11) (T := TX11) (N := 55) (v := .ref (ad 23)) hx hb hts hinX11 hown hK hP (by omega) lyNMM rfl 31 (by decide) w77 (fun _ h9 => h9) rfl dX11_make_8 ?_
  refine w_pc 11 rfl ?_
  refine lv_iload_n hx hb dX11_make_11 rfl (lv_at hl 1 rfl) ?_
  refine lv_iload_n hx hb dX11_make_12 rfl (lv_at hl 3 rfl) ?_
  obtain ⟨g13, h⟩ := gd_in h
  obtain ⟨M13, eM13, h⟩ := nm_some h
  refine gw_iast hx hb hK hP hD hS 0 (by omega) lyNabySelector rfl g13 eM13 dX11_make_13 (fun H locs hP hS => ?_)
  refine lv_aload_n hx hb dX11_make_14 rfl (lv_at hl 0 rfl) ?_
  refine gw_get (C := RX11) (T := TX11) (N := 55) (v := .ref (ad 24)) hx hb hts hinX11 hown hK hP (by omega) lyNMM rfl 32 (by decide) w80 (fun _ h9 => h9) rfl dX11_make_15 ?_
  refine lv_iload_n hx hb dX11_make_18 rfl (lv_at hl 1 rfl) ?_
  refine lv_iload hx hb dX11_make_19 (lv_at hl 4 rfl) ?_
  obtain ⟨g21, h⟩ := gd_in h
  obtain ⟨M21, eM21, h⟩ := nm_some h
  refine gw_iast hx hb hK hP hD hS 0 (by omega) lyNaways rfl g21 eM21 dX11_make_21 (fun H locs hP hS => ?_)
  refine w_pc 22 rfl ?_
  refine lv_aload_n hx hb dX11_make_22 rfl (lv_at hl 0 rfl) ?_
  refine gw_get (C := RX11) (T := TX11) (N := 55) (v := .ref (ad 25)) hx hb hts hinX11 hown hK hP (by omega) lyNMM rfl 33 (by decide) w83 (fun _ h9 => h9) rfl dX11_make_23 ?_
  refine lv_iload_n hx hb dX11_make_26 rfl (lv_at hl 1 rfl) ?_
  refine lv_iload hx hb dX11_make_27 (lv_at hl 5 rfl) ?_
  obtain ⟨g29, h⟩ := gd_in h
  obtain ⟨M29, eM29, h⟩ := nm_some h
  refine gw_iast hx hb hK hP hD hS 0 (by omega) lyNacovered rfl g29 eM29 dX11_make_29 (fun H locs hP hS => ?_)
  refine lv_aload_n hx hb dX11_make_30 rfl (lv_at hl 0 rfl) ?_
  refine gw_get (C := RX11) (T := TX11) (N := 55) (v := .ref (ad 26)) hx hb hts hinX11 hown hK hP (by omega) lyNMM rfl 34 (by decide) w86 (fun _ h9 => h9) rfl dX11_make_31 ?_
  refine lv_iload_n hx hb dX11_make_34 rfl (lv_at hl 1 rfl) ?_
  refine w_pc 35 rfl ?_
  refine lv_iload hx hb dX11_make_35 (lv_at hl 6 rfl) ?_
  obtain ⟨g37, h⟩ := gd_in h
  obtain ⟨M37, eM37, h⟩ := nm_some h
  refine gw_iast hx hb hK hP hD hS 0 (by omega) lyNalimits rfl g37 eM37 dX11_make_37 (fun H locs hP hS => ?_)
  refine lv_aload_n hx hb dX11_make_38 rfl (lv_at hl 0 rfl) ?_
  refine gw_get (C := RX11) (T := TX11) (N := 55) (v := .ref (ad 27)) hx hb hts hinX11 hown hK hP (by omega) lyNMM rfl 35 (by decide) w89 (fun _ h9 => h9) rfl dX11_make_39 ?_
  refine lv_iload_n hx hb dX11_make_42 rfl (lv_at hl 1 rfl) ?_
  refine lv_iload hx hb dX11_make_43 (lv_at hl 7 rfl) ?_
  obtain ⟨g45, h⟩ := gd_in h
  obtain ⟨M45, eM45, h⟩ := nm_some h
  refine gw_iast hx hb hK hP hD hS 0 (by omega) lyNaends rfl g45 eM45 dX11_make_45 (fun H locs hP hS => ?_)
  refine lv_aload_n hx hb dX11_make_46 rfl (lv_at hl 0 rfl) ?_
  refine w_pc 47 rfl ?_
  refine gw_get (C := RX11) (T := TX11) (N := 55) (v := .ref (ad 28)) hx hb hts hinX11 hown hK hP (by omega) lyNMM rfl 36 (by decide) w92 (fun _ h9 => h9) rfl dX11_make_47 ?_
  refine lv_iload_n hx hb dX11_make_50 rfl (lv_at hl 1 rfl) ?_
  refine lv_aload_n hx hb dX11_make_51 rfl (lv_at hl 0 rfl) ?_
  refine lv_iload hx hb dX11_make_52 (lv_at hl 4 rfl) ?_
  refine lv_iload hx hb dX11_make_54 (lv_at hl 6 rfl) ?_
  refine w_pc 56 rfl ?_
  obtain ⟨v56, M56, c56, h⟩ := bn2_some h
  refine cl_i (rn_v (As := [.int a4, .int a6]) (rest := [.int a1, .ref (ad 28)]) ⟨hx, hb, hml, hown, hts⟩ (kX11_bodyDigest l D ad cA A c56) ⟨callB_of 2 hts (gdc wm1035) rfl rfl rfl (hts _ wm61) (hts _ wm1032) hdX11_bodyDigest ⟨Nat.le_of_ble_eq_true rfl, Nat.le_of_ble_eq_true rfl⟩, hts _ wm1034, hts _ wm40⟩ hK hP hD hN (by omega) lyNMM rfl rfl hl.1 rfl (lv_room (Nat.le_of_ble_eq_true rfl)) dX11_make_56) hS (fun H locs hP hS => ?_)
  refine w_pc 59 rfl ?_
  obtain ⟨g59, h⟩ := gd_in h
  obtain ⟨M59, eM59, h⟩ := nm_some h
  refine gw_iast hx hb hK hP hD hS 0 (by omega) lyNabodyDigests rfl g59 eM59 dX11_make_59 (fun H locs hP hS => ?_)
  refine lv_aload_n hx hb dX11_make_60 rfl (lv_at hl 0 rfl) ?_
  refine gw_get (C := RX11) (T := TX11) (N := 55) (v := .ref (ad 29)) hx hb hts hinX11 hown hK hP (by omega) lyNMM rfl 37 (by decide) w95 (fun _ h9 => h9) rfl dX11_make_61 ?_
  refine lv_iload_n hx hb dX11_make_64 rfl (lv_at hl 1 rfl) ?_
  refine lv_aload_n hx hb dX11_make_65 rfl (lv_at hl 0 rfl) ?_
  refine lv_iload_n hx hb dX11_make_66 rfl (lv_at hl 1 rfl) ?_
  refine w_pc 67 rfl ?_
  obtain ⟨v67, M67, c67, h⟩ := bn2_some h
  refine cl_i (rn_v (As := [.int a1]) (rest := [.int a1, .ref (ad 29)]) ⟨hx, hb, hml, hown, hts⟩ (kX11_sealOf l D ad cA A c67) ⟨callB_of 1 hts (gdc wm1048) rfl rfl rfl (hts _ wm61) (hts _ wm1045) hdX11_sealOf ⟨Nat.le_of_ble_eq_true rfl, Nat.le_of_ble_eq_true rfl⟩, hts _ wm1047, hts _ wm43⟩ hK hP hD hN (by omega) lyNMM rfl rfl hl.1 rfl (lv_room (Nat.le_of_ble_eq_true rfl)) dX11_make_67) hS (fun H locs hP hS => ?_)
  refine w_pc 70 rfl ?_
  obtain ⟨g70, h⟩ := gd_in h
  obtain ⟨M70, eM70, h⟩ := nm_some h
  refine gw_iast hx hb hK hP hD hS 0 (by omega) lyNaseals rfl g70 eM70 dX11_make_70 (fun H locs hP hS => ?_)
  exact re_v hx hb hr hlk h hP hS dX11_make_71
def rmX11_sign : Room := { frames := 4, cells := 0, slots := 0, locals := 96 }
def fX11_sign_131 (a1 : Int32) (a2 : Int32) (a3 : Int32) (a4 : Int32) (a5 : Int32) (s0 : Int32) (s1 : Int32) (s2 : Int32) (s3 : Int32) (s4 : Int32) (s5 : Int32) (s6 : Int32) (M : Mm) : Option (Int32 × Mm) :=
  bn1 (fX11_make s6 s5 s4 s3 s2 s1 s0 M) (fun M131 => nm (up2 M131 0 29 ((M131 0 29) + (1 : Int32))) (fun M141 => some (((M141 0 29) - (1 : Int32)), M141)))
def fX11_sign (a1 : Int32) (a2 : Int32) (a3 : Int32) (a4 : Int32) (a5 : Int32) (M : Mm) : Option (Int32 × Mm) :=
  if (M 0 19) = 0 then (some ((-1 : Int32), M)) else (bn1 (fX11_isDomain a1 M) (fun v9 => if v9 = 0 then (some ((-1 : Int32), M)) else (if a2 < 0 then (some ((-1 : Int32), M)) else (if (7 : Int32) < a2 then (some ((-1 : Int32), M)) else (grd (gin (((2 : Int32) * a1) + (a2 - a2 / (2 : Int32) * (2 : Int32))) 40) (if (M 13 (((2 : Int32) * a1) + (a2 - a2 / (2 : Int32) * (2 : Int32))).toNatClampNeg) = 0 then (some ((-1 : Int32), M)) else (nm (a2 / (2 : Int32)) (fun v45 => if a3 < 0 then (some ((-1 : Int32), M)) else (if (255 : Int32) < a3 then (some ((-1 : Int32), M)) else (if a4 < (-1 : Int32) then (some ((-1 : Int32), M)) else (if a5 < (-1 : Int32) then (some ((-1 : Int32), M)) else (if (100000 : Int32) < a5 then (some ((-1 : Int32), M)) else (bn2 (fX11_bodyLength v45 M) (fun v82 M82 => if a4 ≤ v82 then (if (M82 0 29) = (3 : Int32) then (some ((-2 : Int32), M82)) else (if 0 ≤ a5 then (fX11_sign_131 a1 a2 a3 a4 a5 ((M82 0 18) + a5) a4 a3 v45 (a2 - a2 / (2 : Int32) * (2 : Int32)) a1 (M82 0 29) M82) else (fX11_sign_131 a1 a2 a3 a4 a5 (-1 : Int32) a4 a3 v45 (a2 - a2 / (2 : Int32) * (2 : Int32)) a1 (M82 0 29) M82))) else (some ((-1 : Int32), M82))))))))))))))))
set_option maxRecDepth 100000 in
set_option maxHeartbeats 4000000 in
theorem kX11_sign (l : Launch) (D : va_G) (ad : Nat → Nat) (cA : Nat → ClassId) (A : Nat → Prop) {a1 : Int32} {a2 : Int32} {a3 : Int32} {a4 : Int32} {a5 : Int32} {M M1 : Mm} {r : Int32} (h : fX11_sign a1 a2 a3 a4 a5 M = some (r, M1)) : Met l yX11_sign wsX11_sign rmX11_sign (gPc D (tyM cA) 40 (layN ad cA) ad A M [.ref (ad 0), .int a1, .int a2, .int a3, .int a4, .int a5]) (gQi D 40 (layN ad cA) ad A M1 r) 0 0 A := by
  refine Met.ofW (cc := cX11_sign) (maxL := 7) (ret := (some .int)) (by decide) rfl ?_
  intro p e s m args below meth c s₁ B hml hv
  obtain ⟨ha, hP, hK, hD, hN⟩ := hv
  have hx := B.exec
  have hb := B.bytes
  have hr := B.returns
  have hlk := B.notSynchronized
  have hts : ∀ w ∈ lw_g, w.before args s = true := fun w h => atoms_spec (ws := wsX11_sign) B.pre w (List.mem_cons_of_mem _ h)
  have hown : s.vm.findClass RX11 = some m.cls := findClass_of_methodNamed B.named
  have hS : va_S A s.heap s.heap [] := va_S.rf
  unfold fX11_sign at h
  have w190 := hts _ wm746
  have w47 := hts _ wm740
  have w206 := hts _ wm756
  have w256 := hts _ wm745
  have bk131 : ∀ (s0 : Int32) (s1 : Int32) (s2 : Int32) (s3 : Int32) (s4 : Int32) (s5 : Int32) (s6 : Int32) (M : Mm) (ls : Array Slot) (H : Heap) (locs : List Loc), lv_has ls 7 [(0, .ref (ad 0))] → fX11_sign_131 a1 a2 a3 a4 a5 s0 s1 s2 s3 s4 s5 s6 M = some (r, M1) → va_P D vwCl (gw 40 (layN ad cA) ad M) H → va_S A s.heap H locs → W p l e (headSpec wsX11_sign rmX11_sign).room s m args below meth c H locs 0 0 (MQ below (gQi D 40 (layN ad cA) ad A M1 r) args s 0 0 A) (F0 m 131 ls [.int s0, .int s1, .int s2, .int s3, .int s4, .int s5, .int s6, .ref (ad 0)]) := by
    intro s0 s1 s2 s3 s4 s5 s6 M ls H locs hl h hP hS
    unfold fX11_sign_131 at h
    refine w_pc 131 rfl ?_
    refine w_pc 131 rfl ?_
    obtain ⟨M131, c131, h⟩ := bn1_some h
    refine cl_v (rn_v (As := [.int s6, .int s5, .int s4, .int s3, .int s2, .int s1, .int s0]) (rest := []) ⟨hx, hb, hml, hown, hts⟩ (kX11_make l D ad cA A c131) ⟨callB_of 7 hts (gdc wm1031) rfl rfl rfl (hts _ wm61) (hts _ wm1028) hdX11_make ⟨Nat.le_of_ble_eq_true rfl, Nat.le_of_ble_eq_true rfl⟩, hts _ wm1030, hts _ wm39⟩ hK hP hD hN (by omega) lyNMM rfl rfl hl.1 rfl (lv_room (Nat.le_of_ble_eq_true rfl)) dX11_sign_131) hS (fun H locs hP hS => ?_)
    refine w_pc 134 rfl ?_
    refine lv_aload_n hx hb dX11_sign_134 rfl (lv_at hl 0 rfl) ?_
    refine lv_dup hx hb dX11_sign_135 rfl ?_
    refine gw_get (C := RX11) (T := TX11) (N := 55) (v := .int (M131 0 29)) hx hb hts hinX11 hown hK hP (by omega) lyNMM rfl 29 (by decide) w206 (fun _ h9 => h9) rfl dX11_sign_136 ?_
    refine lv_iconst (v := 1) hx hb dX11_sign_139 (by decide) ?_
    refine lv_iadd hx hb dX11_sign_140 ?_
    obtain ⟨M141, eM141, h⟩ := nm_some h
    refine gw_put (C := RX11) (T := TX11) (N := 55) (ty := .int) hx hb hts hinX11 tyX11 tyX11_ok nmX11 hown hK hP hD hS (by omega) lyNMM rfl 29 (by decide) w206 (fun _ h9 => h9) rfl (by decide +kernel) rfl rfl (Nat.le_of_ble_eq_true rfl) rfl eM141 dX11_sign_141 (fun H locs hP hS => ?_)
    refine lv_aload_n hx hb dX11_sign_144 rfl (lv_at hl 0 rfl) ?_
    refine w_pc 145 rfl ?_
    refine gw_get (C := RX11) (T := TX11) (N := 55) (v := .int (M141 0 29)) hx hb hts hinX11 hown hK hP (by omega) lyNMM rfl 29 (by decide) w206 (fun _ h9 => h9) rfl dX11_sign_145 ?_
    refine lv_iconst (v := 1) hx hb dX11_sign_148 (by decide) ?_
    refine lv_isub hx hb dX11_sign_149 ?_
    exact re_i hx hb hr hlk h hP hS dX11_sign_150
  refine w_entry ha (Nat.le_of_ble_eq_true rfl) (fun ls hl => ?_)
  have hl : lv_has ls 7 [(0, .ref (ad 0)), (1, .int a1), (2, .int a2), (3, .int a3), (4, .int a4), (5, .int a5)] := hl
  refine w_pc 0 rfl ?_
  refine lv_aload_n hx hb dX11_sign_0 rfl (lv_at hl 0 rfl) ?_
  refine gw_get (C := RX11) (T := TX11) (N := 55) (v := .int (M 0 19)) hx hb hts hinX11 hown hK hP (by omega) lyNMM rfl 19 (by decide) w190 (fun _ h9 => h9) rfl dX11_sign_1 ?_
  refine w_pc 4 rfl ?_
  refine lv_if_eq (tgt := 40) hx hb dX11_sign_4 (by decide) (fun q4 => ?_) (fun q4 => ?_)
  · replace h := (if_pos q4).symm.trans h
    refine w_pc 40 rfl ?_
    refine lv_iconst (v := -1) hx hb dX11_sign_40 (by decide) ?_
    exact re_i hx hb hr hlk h hP hS dX11_sign_41
  · replace h := (if_neg q4).symm.trans h
    refine w_pc 7 rfl ?_
    refine lv_aload_n hx hb dX11_sign_7 rfl (lv_at hl 0 rfl) ?_
    refine lv_iload_n hx hb dX11_sign_8 rfl (lv_at hl 1 rfl) ?_
    refine w_pc 9 rfl ?_
    obtain ⟨v9, c9, h⟩ := bn1_some h
    refine cl_i (rn_v (As := [.int a1]) (rest := []) ⟨hx, hb, hml, hown, hts⟩ (kX11_isDomain l D ad cA A c9) ⟨callB_of 1 hts (gdc wm901) rfl rfl rfl (hts _ wm61) (hts _ wm898) hdX11_isDomain ⟨Nat.le_of_ble_eq_true rfl, Nat.le_of_ble_eq_true rfl⟩, hts _ wm900, hts _ wm21⟩ hK hP hD hN (by omega) lyNMM rfl rfl hl.1 rfl (lv_room (Nat.le_of_ble_eq_true rfl)) dX11_sign_9) hS (fun H locs hP hS => ?_)
    refine w_pc 12 rfl ?_
    refine w_pc 12 rfl ?_
    refine lv_if_eq (tgt := 40) hx hb dX11_sign_12 (by decide) (fun q12 => ?_) (fun q12 => ?_)
    · replace h := (if_pos q12).symm.trans h
      refine w_pc 40 rfl ?_
      refine lv_iconst (v := -1) hx hb dX11_sign_40 (by decide) ?_
      exact re_i hx hb hr hlk h hP hS dX11_sign_41
    · replace h := (if_neg q12).symm.trans h
      refine w_pc 15 rfl ?_
      refine lv_iload_n hx hb dX11_sign_15 rfl (lv_at hl 2 rfl) ?_
      refine w_pc 16 rfl ?_
      refine lv_if_lt (tgt := 40) hx hb dX11_sign_16 (by decide) (fun q16 => ?_) (fun q16 => ?_)
      · replace h := (if_pos q16).symm.trans h
        refine w_pc 40 rfl ?_
        refine lv_iconst (v := -1) hx hb dX11_sign_40 (by decide) ?_
        exact re_i hx hb hr hlk h hP hS dX11_sign_41
      · replace h := (if_neg q16).symm.trans h
        refine w_pc 19 rfl ?_
        refine lv_iload_n hx hb dX11_sign_19 rfl (lv_at hl 2 rfl) ?_
        refine lv_bipush (v := 7) hx hb dX11_sign_20 (by decide) ?_
        refine w_pc 22 rfl ?_
        refine lv_icmp_gt (tgt := 40) hx hb dX11_sign_22 (by decide) (fun q22 => ?_) (fun q22 => ?_)
        · replace h := (if_pos q22).symm.trans h
          refine w_pc 40 rfl ?_
          refine lv_iconst (v := -1) hx hb dX11_sign_40 (by decide) ?_
          exact re_i hx hb hr hlk h hP hS dX11_sign_41
        · replace h := (if_neg q22).symm.trans h
          refine w_pc 25 rfl ?_
          refine lv_aload_n hx hb dX11_sign_25 rfl (lv_at hl 0 rfl) ?_
          refine gw_get (C := RX11) (T := TX11) (N := 55) (v := .ref (ad 13)) hx hb hts hinX11 hown hK hP (by omega) lyNMM rfl 13 (by decide) w47 (fun _ h9 => h9) rfl dX11_sign_26 ?_
          refine lv_iconst (v := 2) hx hb dX11_sign_29 (by decide) ?_
          refine lv_iload_n hx hb dX11_sign_30 rfl (lv_at hl 1 rfl) ?_
          refine lv_imul hx hb dX11_sign_31 ?_
          refine lv_iload_n hx hb dX11_sign_32 rfl (lv_at hl 2 rfl) ?_
          refine lv_iconst (v := 2) hx hb dX11_sign_33 (by decide) ?_
          refine w_pc 34 rfl ?_
          refine lv_irem hx hb dX11_sign_34 (by decide) ?_
          refine lv_iadd hx hb dX11_sign_35 ?_
          obtain ⟨g36, h⟩ := gd_in h
          refine gw_iald hx hb hK hP 0 (by omega) lyNakeys rfl g36 dX11_sign_36 ?_
          refine w_pc 37 rfl ?_
          refine lv_if_ne (tgt := 42) hx hb dX11_sign_37 (by decide) (fun q37 => ?_) (fun q37 => ?_)
          · replace h := (if_neg q37).symm.trans h
            refine w_pc 42 rfl ?_
            refine lv_iload_n hx hb dX11_sign_42 rfl (lv_at hl 2 rfl) ?_
            refine lv_iconst (v := 2) hx hb dX11_sign_43 (by decide) ?_
            refine lv_idiv hx hb dX11_sign_44 (by decide) ?_
            obtain ⟨v45, e45, h⟩ := nm_some h
            refine w_ti e45 ?_
            refine lv_istore (lv' := [(6, .int v45), (0, .ref (ad 0)), (1, .int a1), (2, .int a2), (3, .int a3), (4, .int a4), (5, .int a5)]) hx hb dX11_sign_45 hl (by decide) rfl (fun ls hl => ?_)
            refine lv_iload_n hx hb dX11_sign_47 rfl (lv_at hl 4 rfl) ?_
            refine w_pc 48 rfl ?_
            refine lv_if_lt (tgt := 88) hx hb dX11_sign_48 (by decide) (fun q48 => ?_) (fun q48 => ?_)
            · replace h := (if_pos q48).symm.trans h
              refine w_pc 88 rfl ?_
              refine lv_iconst (v := -1) hx hb dX11_sign_88 (by decide) ?_
              exact re_i hx hb hr hlk h hP hS dX11_sign_89
            · replace h := (if_neg q48).symm.trans h
              refine w_pc 51 rfl ?_
              refine lv_iload_n hx hb dX11_sign_51 rfl (lv_at hl 4 rfl) ?_
              refine lv_sipush (v := 255) hx hb dX11_sign_52 (by decide) ?_
              refine w_pc 55 rfl ?_
              refine lv_icmp_gt (tgt := 88) hx hb dX11_sign_55 (by decide) (fun q55 => ?_) (fun q55 => ?_)
              · replace h := (if_pos q55).symm.trans h
                refine w_pc 88 rfl ?_
                refine lv_iconst (v := -1) hx hb dX11_sign_88 (by decide) ?_
                exact re_i hx hb hr hlk h hP hS dX11_sign_89
              · replace h := (if_neg q55).symm.trans h
                refine w_pc 58 rfl ?_
                refine lv_iload hx hb dX11_sign_58 (lv_at hl 5 rfl) ?_
                refine lv_iconst (v := -1) hx hb dX11_sign_60 (by decide) ?_
                refine w_pc 61 rfl ?_
                refine lv_icmp_lt (tgt := 88) hx hb dX11_sign_61 (by decide) (fun q61 => ?_) (fun q61 => ?_)
                · replace h := (if_pos q61).symm.trans h
                  refine w_pc 88 rfl ?_
                  refine lv_iconst (v := -1) hx hb dX11_sign_88 (by decide) ?_
                  exact re_i hx hb hr hlk h hP hS dX11_sign_89
                · replace h := (if_neg q61).symm.trans h
                  refine w_pc 64 rfl ?_
                  refine lv_iload hx hb dX11_sign_64 (lv_at hl 6 rfl) ?_
                  refine lv_iconst (v := -1) hx hb dX11_sign_66 (by decide) ?_
                  refine w_pc 67 rfl ?_
                  refine lv_icmp_lt (tgt := 88) hx hb dX11_sign_67 (by decide) (fun q67 => ?_) (fun q67 => ?_)
                  · replace h := (if_pos q67).symm.trans h
                    refine w_pc 88 rfl ?_
                    refine lv_iconst (v := -1) hx hb dX11_sign_88 (by decide) ?_
                    exact re_i hx hb hr hlk h hP hS dX11_sign_89
                  · replace h := (if_neg q67).symm.trans h
                    refine w_pc 70 rfl ?_
                    refine lv_iload hx hb dX11_sign_70 (lv_at hl 6 rfl) ?_
                    refine lv_ldc (v := 100000) hx hb hown (hts _ wm1023) dX11_sign_72 ?_
                    refine w_pc 74 rfl ?_
                    refine lv_icmp_gt (tgt := 88) hx hb dX11_sign_74 (by decide) (fun q74 => ?_) (fun q74 => ?_)
                    · replace h := (if_pos q74).symm.trans h
                      refine w_pc 88 rfl ?_
                      refine lv_iconst (v := -1) hx hb dX11_sign_88 (by decide) ?_
                      exact re_i hx hb hr hlk h hP hS dX11_sign_89
                    · replace h := (if_neg q74).symm.trans h
                      refine w_pc 77 rfl ?_
                      refine lv_iload hx hb dX11_sign_77 (lv_at hl 5 rfl) ?_
                      refine lv_aload_n hx hb dX11_sign_79 rfl (lv_at hl 1 rfl) ?_
                      refine lv_iload hx hb dX11_sign_80 (lv_at hl 0 rfl) ?_
                      refine w_pc 82 rfl ?_
                      obtain ⟨v82, M82, c82, h⟩ := bn2_some h
                      refine cl_i (rn_v (As := [.int v45]) (rest := [.int a4]) ⟨hx, hb, hml, hown, hts⟩ (kX11_bodyLength l D ad cA A c82) ⟨callB_of 1 hts (gdc wm1027) rfl rfl rfl (hts _ wm61) (hts _ wm1024) hdX11_bodyLength ⟨Nat.le_of_ble_eq_true rfl, Nat.le_of_ble_eq_true rfl⟩, hts _ wm1026, hts _ wm38⟩ hK hP hD hN (by omega) lyNMM rfl rfl hl.1 rfl (lv_room (Nat.le_of_ble_eq_true rfl)) dX11_sign_82) hS (fun H locs hP hS => ?_)
                      refine w_pc 85 rfl ?_
                      refine w_pc 85 rfl ?_
                      refine lv_icmp_le (tgt := 90) hx hb dX11_sign_85 (by decide) (fun q85 => ?_) (fun q85 => ?_)
                      · replace h := (if_pos q85).symm.trans h
                        refine w_pc 90 rfl ?_
                        refine lv_aload_n hx hb dX11_sign_90 rfl (lv_at hl 1 rfl) ?_
                        refine gw_get (C := RX11) (T := TX11) (N := 55) (v := .int (M82 0 29)) hx hb hts hinX11 hown hK hP (by omega) lyNMM rfl 29 (by decide) w206 (fun _ h9 => h9) rfl dX11_sign_91 ?_
                        refine lv_iconst (v := 3) hx hb dX11_sign_94 (by decide) ?_
                        refine w_pc 95 rfl ?_
                        refine lv_icmp_ne (tgt := 101) hx hb dX11_sign_95 (by decide) (fun q95 => ?_) (fun q95 => ?_)
                        · replace h := (if_neg q95).symm.trans h
                          refine w_pc 101 rfl ?_
                          refine lv_aload_n hx hb dX11_sign_101 rfl (lv_at hl 1 rfl) ?_
                          refine lv_aload_n hx hb dX11_sign_102 rfl (lv_at hl 1 rfl) ?_
                          refine gw_get (C := RX11) (T := TX11) (N := 55) (v := .int (M82 0 29)) hx hb hts hinX11 hown hK hP (by omega) lyNMM rfl 29 (by decide) w206 (fun _ h9 => h9) rfl dX11_sign_103 ?_
                          refine lv_iload_n hx hb dX11_sign_106 rfl (lv_at hl 2 rfl) ?_
                          refine lv_iload_n hx hb dX11_sign_107 rfl (lv_at hl 3 rfl) ?_
                          refine lv_iconst (v := 2) hx hb dX11_sign_108 (by decide) ?_
                          refine lv_irem hx hb dX11_sign_109 (by decide) ?_
                          refine w_pc 110 rfl ?_
                          refine lv_iload hx hb dX11_sign_110 (lv_at hl 0 rfl) ?_
                          refine lv_iload_n hx hb dX11_sign_112 rfl (lv_at hl 4 rfl) ?_
                          refine lv_iload hx hb dX11_sign_113 (lv_at hl 5 rfl) ?_
                          refine lv_iload hx hb dX11_sign_115 (lv_at hl 6 rfl) ?_
                          refine w_pc 117 rfl ?_
                          refine lv_if_ge (tgt := 124) hx hb dX11_sign_117 (by decide) (fun q117 => ?_) (fun q117 => ?_)
                          · replace h := (if_pos q117).symm.trans h
                            refine w_pc 124 rfl ?_
                            refine lv_aload_n hx hb dX11_sign_124 rfl (lv_at hl 1 rfl) ?_
                            refine gw_get (C := RX11) (T := TX11) (N := 55) (v := .int (M82 0 18)) hx hb hts hinX11 hown hK hP (by omega) lyNMM rfl 18 (by decide) w256 (fun _ h9 => h9) rfl dX11_sign_125 ?_
                            refine lv_iload hx hb dX11_sign_128 (lv_at hl 6 rfl) ?_
                            refine lv_iadd hx hb dX11_sign_130 ?_
                            exact bk131 ((M82 0 18) + a5) a4 a3 v45 (a2 - a2 / (2 : Int32) * (2 : Int32)) a1 (M82 0 29) M82 ls _ _ (lv_sub hl [1] rfl) h hP hS
                          · replace h := (if_neg q117).symm.trans h
                            refine w_pc 120 rfl ?_
                            refine lv_iconst (v := -1) hx hb dX11_sign_120 (by decide) ?_
                            refine lv_goto (tgt := 131) hx hb dX11_sign_121 (by decide) ?_
                            exact bk131 (-1 : Int32) a4 a3 v45 (a2 - a2 / (2 : Int32) * (2 : Int32)) a1 (M82 0 29) M82 ls _ _ (lv_sub hl [1] rfl) h hP hS
                        · replace h := (if_pos q95).symm.trans h
                          refine w_pc 98 rfl ?_
                          refine lv_bipush (v := -2) hx hb dX11_sign_98 (by decide) ?_
                          exact re_i hx hb hr hlk h hP hS dX11_sign_100
                      · replace h := (if_neg q85).symm.trans h
                        refine w_pc 88 rfl ?_
                        refine lv_iconst (v := -1) hx hb dX11_sign_88 (by decide) ?_
                        exact re_i hx hb hr hlk h hP hS dX11_sign_89
          · replace h := (if_pos q37).symm.trans h
            refine w_pc 40 rfl ?_
            refine lv_iconst (v := -1) hx hb dX11_sign_40 (by decide) ?_
            exact re_i hx hb hr hlk h hP hS dX11_sign_41
