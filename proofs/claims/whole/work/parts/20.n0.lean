def rmX11_isDomain : Room := { frames := 0, cells := 0, slots := 0, locals := 0 }
def fX11_isDomain (a1 : Int32) (M : Mm) : Option Int32 :=
  if a1 < 0 then (some (0 : Int32)) else (if (M 0 0) ≤ a1 then (some (0 : Int32)) else (some (1 : Int32)))
set_option maxRecDepth 100000 in
set_option maxHeartbeats 4000000 in
theorem kX11_isDomain (l : Launch) (D : va_G) (ad : Nat → Nat) (cA : Nat → ClassId) (A : Nat → Prop) {a1 : Int32} {M : Mm} {r : Int32} (h : fX11_isDomain a1 M = some r) : Met l yX11_isDomain wsX11_isDomain rmX11_isDomain (gPc D (tyM cA) 40 (layN ad cA) ad A M [.ref (ad 0), .int a1]) (gQi D 40 (layN ad cA) ad A M r) 0 0 A := by
  refine Met.ofW (cc := cX11_isDomain) (maxL := 2) (ret := (some .boolean)) (by decide) rfl ?_
  intro p e s m args below meth c s₁ B hml hv
  obtain ⟨ha, hP, hK, hD, hN⟩ := hv
  have hx := B.exec
  have hb := B.bytes
  have hr := B.returns
  have hlk := B.notSynchronized
  have hts : ∀ w ∈ lw_g, w.before args s = true := fun w h => atoms_spec (ws := wsX11_isDomain) B.pre w (List.mem_cons_of_mem _ h)
  have hown : s.vm.findClass RX11 = some m.cls := findClass_of_methodNamed B.named
  have hS : va_S A s.heap s.heap [] := va_S.rf
  unfold fX11_isDomain at h
  have w128 := hts _ wm727
  refine w_entry ha (Nat.le_of_ble_eq_true rfl) (fun ls hl => ?_)
  have hl : lv_has ls 2 [(0, .ref (ad 0)), (1, .int a1)] := hl
  refine w_pc 0 rfl ?_
  refine lv_iload_n hx hb dX11_isDomain_0 rfl (lv_at hl 1 rfl) ?_
  refine w_pc 1 rfl ?_
  refine lv_if_lt (tgt := 16) hx hb dX11_isDomain_1 (by decide) (fun q1 => ?_) (fun q1 => ?_)
  · replace h := (if_pos q1).symm.trans h
    refine w_pc 16 rfl ?_
    refine lv_iconst (v := 0) hx hb dX11_isDomain_16 (by decide) ?_
    exact re_z hx hb hr hlk (Or.inl rfl) (sm_r h) hP hS dX11_isDomain_17
  · replace h := (if_neg q1).symm.trans h
    refine w_pc 4 rfl ?_
    refine lv_iload_n hx hb dX11_isDomain_4 rfl (lv_at hl 1 rfl) ?_
    refine lv_aload_n hx hb dX11_isDomain_5 rfl (lv_at hl 0 rfl) ?_
    refine gw_get (C := RX11) (T := TX11) (N := 55) (v := .int (M 0 0)) hx hb hts hinX11 hown hK hP (by omega) lyNMM rfl 0 (by decide) w128 (fun _ h9 => h9) rfl dX11_isDomain_6 ?_
    refine w_pc 9 rfl ?_
    refine lv_icmp_ge (tgt := 16) hx hb dX11_isDomain_9 (by decide) (fun q9 => ?_) (fun q9 => ?_)
    · replace h := (if_pos q9).symm.trans h
      refine w_pc 16 rfl ?_
      refine lv_iconst (v := 0) hx hb dX11_isDomain_16 (by decide) ?_
      exact re_z hx hb hr hlk (Or.inl rfl) (sm_r h) hP hS dX11_isDomain_17
    · replace h := (if_neg q9).symm.trans h
      refine w_pc 12 rfl ?_
      refine lv_iconst (v := 1) hx hb dX11_isDomain_12 (by decide) ?_
      refine lv_goto (tgt := 17) hx hb dX11_isDomain_13 (by decide) ?_
      exact re_z hx hb hr hlk (Or.inr rfl) (sm_r h) hP hS dX11_isDomain_17
def rmX11_domain : Room := { frames := 1, cells := 0, slots := 0, locals := 21 }
def fX11_domain_59 (a1 : Int32) (a2 : Int32) (s0 : Int32) (s1 : Int32) (M : Mm) : Option (Int32 × Mm) :=
  grd (gin s1 20) (grd (gz s0) (nm (up2 M 2 s1.toNatClampNeg s0) (fun M59 => grd (gin (M59 0 0) 20) (nm (up2 M59 12 (M59 0 0).toNatClampNeg (-1 : Int32)) (fun M69 => grd (gin (M69 0 0) 20) (nm (up2 M69 14 (M69 0 0).toNatClampNeg (-1 : Int32)) (fun M79 => nm (up2 M79 0 0 ((M79 0 0) + (1 : Int32))) (fun M87 => some (((M87 0 0) - (1 : Int32)), M87)))))))))
def fX11_domain_54 (a1 : Int32) (a2 : Int32) (s0 : Int32) (M : Mm) : Option (Int32 × Mm) :=
  fX11_domain_59 a1 a2 (1 : Int32) s0 M
def fX11_domain_15 (a1 : Int32) (a2 : Int32) (M : Mm) : Option (Int32 × Mm) :=
  if (M 0 0) = (20 : Int32) then (some ((-2 : Int32), M)) else (grd (gin (M 0 0) 20) (nm (up2 M 1 (M 0 0).toNatClampNeg a1) (fun M36 => if a2 = 0 then (if a1 = (-1 : Int32) then (fX11_domain_54 a1 a2 (M36 0 0) M36) else (fX11_domain_59 a1 a2 (0 : Int32) (M36 0 0) M36)) else (fX11_domain_54 a1 a2 (M36 0 0) M36))))
def fX11_domain (a1 : Int32) (a2 : Int32) (M : Mm) : Option (Int32 × Mm) :=
  if a1 = (-1 : Int32) then (fX11_domain_15 a1 a2 M) else (bn1 (fX11_isDomain a1 M) (fun v7 => if v7 = 0 then (some ((-1 : Int32), M)) else (fX11_domain_15 a1 a2 M)))
set_option maxRecDepth 100000 in
set_option maxHeartbeats 4000000 in
theorem kX11_domain (l : Launch) (D : va_G) (ad : Nat → Nat) (cA : Nat → ClassId) (A : Nat → Prop) {a1 : Int32} {a2 : Int32} {M M1 : Mm} {r : Int32} (h : fX11_domain a1 a2 M = some (r, M1)) : Met l yX11_domain wsX11_domain rmX11_domain (gPc D (tyM cA) 40 (layN ad cA) ad A M [.ref (ad 0), .int a1, .int a2]) (gQi D 40 (layN ad cA) ad A M1 r) 0 0 A := by
  refine Met.ofW (cc := cX11_domain) (maxL := 3) (ret := (some .int)) (by decide) rfl ?_
  intro p e s m args below meth c s₁ B hml hv
  obtain ⟨ha, hP, hK, hD, hN⟩ := hv
  have hx := B.exec
  have hb := B.bytes
  have hr := B.returns
  have hlk := B.notSynchronized
  have hts : ∀ w ∈ lw_g, w.before args s = true := fun w h => atoms_spec (ws := wsX11_domain) B.pre w (List.mem_cons_of_mem _ h)
  have hown : s.vm.findClass RX11 = some m.cls := findClass_of_methodNamed B.named
  have hS : va_S A s.heap s.heap [] := va_S.rf
  unfold fX11_domain at h
  have w128 := hts _ wm727
  have w7 := hts _ wm728
  have w13 := hts _ wm729
  have w44 := hts _ wm739
  have w50 := hts _ wm741
  have bk59 : ∀ (s0 : Int32) (s1 : Int32) (M : Mm) (ls : Array Slot) (H : Heap) (locs : List Loc), lv_has ls 3 [(0, .ref (ad 0))] → fX11_domain_59 a1 a2 s0 s1 M = some (r, M1) → va_P D vwCl (gw 40 (layN ad cA) ad M) H → va_S A s.heap H locs → W p l e (headSpec wsX11_domain rmX11_domain).room s m args below meth c H locs 0 0 (MQ below (gQi D 40 (layN ad cA) ad A M1 r) args s 0 0 A) (F0 m 59 ls [.int s0, .int s1, .ref (ad 2)]) := by
    intro s0 s1 M ls H locs hl h hP hS
    unfold fX11_domain_59 at h
    refine w_pc 59 rfl ?_
    obtain ⟨g59, h⟩ := gd_in h
    obtain ⟨z59, h⟩ := gd_z h
    obtain ⟨M59, eM59, h⟩ := nm_some h
    refine gw_zast hx hb hK hP hD hS 1 (by omega) lyNasuffixes rfl g59 z59 eM59 dX11_domain_59 (fun H locs hP hS => ?_)
    refine lv_aload_n hx hb dX11_domain_60 rfl (lv_at hl 0 rfl) ?_
    refine gw_get (C := RX11) (T := TX11) (N := 55) (v := .ref (ad 12)) hx hb hts hinX11 hown hK hP (by omega) lyNMM rfl 12 (by decide) w44 (fun _ h9 => h9) rfl dX11_domain_61 ?_
    refine lv_aload_n hx hb dX11_domain_64 rfl (lv_at hl 0 rfl) ?_
    refine gw_get (C := RX11) (T := TX11) (N := 55) (v := .int (M59 0 0)) hx hb hts hinX11 hown hK hP (by omega) lyNMM rfl 0 (by decide) w128 (fun _ h9 => h9) rfl dX11_domain_65 ?_
    refine lv_iconst (v := -1) hx hb dX11_domain_68 (by decide) ?_
    obtain ⟨g69, h⟩ := gd_in h
    obtain ⟨M69, eM69, h⟩ := nm_some h
    refine gw_iast hx hb hK hP hD hS 0 (by omega) lyNaredirects rfl g69 eM69 dX11_domain_69 (fun H locs hP hS => ?_)
    refine w_pc 70 rfl ?_
    refine lv_aload_n hx hb dX11_domain_70 rfl (lv_at hl 0 rfl) ?_
    refine gw_get (C := RX11) (T := TX11) (N := 55) (v := .ref (ad 14)) hx hb hts hinX11 hown hK hP (by omega) lyNMM rfl 14 (by decide) w50 (fun _ h9 => h9) rfl dX11_domain_71 ?_
    refine lv_aload_n hx hb dX11_domain_74 rfl (lv_at hl 0 rfl) ?_
    refine gw_get (C := RX11) (T := TX11) (N := 55) (v := .int (M69 0 0)) hx hb hts hinX11 hown hK hP (by omega) lyNMM rfl 0 (by decide) w128 (fun _ h9 => h9) rfl dX11_domain_75 ?_
    refine lv_iconst (v := -1) hx hb dX11_domain_78 (by decide) ?_
    obtain ⟨g79, h⟩ := gd_in h
    obtain ⟨M79, eM79, h⟩ := nm_some h
    refine gw_iast hx hb hK hP hD hS 0 (by omega) lyNaown rfl g79 eM79 dX11_domain_79 (fun H locs hP hS => ?_)
    refine lv_aload_n hx hb dX11_domain_80 rfl (lv_at hl 0 rfl) ?_
    refine lv_dup hx hb dX11_domain_81 rfl ?_
    refine w_pc 82 rfl ?_
    refine gw_get (C := RX11) (T := TX11) (N := 55) (v := .int (M79 0 0)) hx hb hts hinX11 hown hK hP (by omega) lyNMM rfl 0 (by decide) w128 (fun _ h9 => h9) rfl dX11_domain_82 ?_
    refine lv_iconst (v := 1) hx hb dX11_domain_85 (by decide) ?_
    refine lv_iadd hx hb dX11_domain_86 ?_
    obtain ⟨M87, eM87, h⟩ := nm_some h
    refine gw_put (C := RX11) (T := TX11) (N := 55) (ty := .int) hx hb hts hinX11 tyX11 tyX11_ok nmX11 hown hK hP hD hS (by omega) lyNMM rfl 0 (by decide) w128 (fun _ h9 => h9) rfl (by decide +kernel) rfl rfl (Nat.le_of_ble_eq_true rfl) rfl eM87 dX11_domain_87 (fun H locs hP hS => ?_)
    refine lv_aload_n hx hb dX11_domain_90 rfl (lv_at hl 0 rfl) ?_
    refine gw_get (C := RX11) (T := TX11) (N := 55) (v := .int (M87 0 0)) hx hb hts hinX11 hown hK hP (by omega) lyNMM rfl 0 (by decide) w128 (fun _ h9 => h9) rfl dX11_domain_91 ?_
    refine lv_iconst (v := 1) hx hb dX11_domain_94 (by decide) ?_
    refine lv_isub hx hb dX11_domain_95 ?_
    refine w_pc 96 rfl ?_
    exact re_i hx hb hr hlk h hP hS dX11_domain_96
  have bk54 : ∀ (s0 : Int32) (M : Mm) (ls : Array Slot) (H : Heap) (locs : List Loc), lv_has ls 3 [(0, .ref (ad 0))] → fX11_domain_54 a1 a2 s0 M = some (r, M1) → va_P D vwCl (gw 40 (layN ad cA) ad M) H → va_S A s.heap H locs → W p l e (headSpec wsX11_domain rmX11_domain).room s m args below meth c H locs 0 0 (MQ below (gQi D 40 (layN ad cA) ad A M1 r) args s 0 0 A) (F0 m 54 ls [.int s0, .ref (ad 2)]) := by
    intro s0 M ls H locs hl h hP hS
    unfold fX11_domain_54 at h
    refine w_pc 54 rfl ?_
    refine lv_iconst (v := 1) hx hb dX11_domain_54 (by decide) ?_
    refine lv_goto (tgt := 59) hx hb dX11_domain_55 (by decide) ?_
    exact bk59 (1 : Int32) s0 M ls _ _ (lv_sub hl [0] rfl) h hP hS
  have bk15 : ∀ (M : Mm) (ls : Array Slot) (H : Heap) (locs : List Loc), lv_has ls 3 [(0, .ref (ad 0)), (1, .int a1), (2, .int a2)] → fX11_domain_15 a1 a2 M = some (r, M1) → va_P D vwCl (gw 40 (layN ad cA) ad M) H → va_S A s.heap H locs → W p l e (headSpec wsX11_domain rmX11_domain).room s m args below meth c H locs 0 0 (MQ below (gQi D 40 (layN ad cA) ad A M1 r) args s 0 0 A) (F0 m 15 ls []) := by
    intro M ls H locs hl h hP hS
    unfold fX11_domain_15 at h
    refine w_pc 15 rfl ?_
    refine lv_aload_n hx hb dX11_domain_15 rfl (lv_at hl 0 rfl) ?_
    refine gw_get (C := RX11) (T := TX11) (N := 55) (v := .int (M 0 0)) hx hb hts hinX11 hown hK hP (by omega) lyNMM rfl 0 (by decide) w128 (fun _ h9 => h9) rfl dX11_domain_16 ?_
    refine lv_bipush (v := 20) hx hb dX11_domain_19 (by decide) ?_
    refine w_pc 21 rfl ?_
    refine lv_icmp_ne (tgt := 27) hx hb dX11_domain_21 (by decide) (fun q21 => ?_) (fun q21 => ?_)
    · replace h := (if_neg q21).symm.trans h
      refine w_pc 27 rfl ?_
      refine lv_aload_n hx hb dX11_domain_27 rfl (lv_at hl 0 rfl) ?_
      refine gw_get (C := RX11) (T := TX11) (N := 55) (v := .ref (ad 1)) hx hb hts hinX11 hown hK hP (by omega) lyNMM rfl 1 (by decide) w7 (fun _ h9 => h9) rfl dX11_domain_28 ?_
      refine lv_aload_n hx hb dX11_domain_31 rfl (lv_at hl 0 rfl) ?_
      refine gw_get (C := RX11) (T := TX11) (N := 55) (v := .int (M 0 0)) hx hb hts hinX11 hown hK hP (by omega) lyNMM rfl 0 (by decide) w128 (fun _ h9 => h9) rfl dX11_domain_32 ?_
      refine lv_iload_n hx hb dX11_domain_35 rfl (lv_at hl 1 rfl) ?_
      obtain ⟨g36, h⟩ := gd_in h
      obtain ⟨M36, eM36, h⟩ := nm_some h
      refine gw_iast hx hb hK hP hD hS 0 (by omega) lyNaparents rfl g36 eM36 dX11_domain_36 (fun H locs hP hS => ?_)
      refine lv_aload_n hx hb dX11_domain_37 rfl (lv_at hl 0 rfl) ?_
      refine w_pc 38 rfl ?_
      refine gw_get (C := RX11) (T := TX11) (N := 55) (v := .ref (ad 2)) hx hb hts hinX11 hown hK hP (by omega) lyNMM rfl 2 (by decide) w13 (fun _ h9 => h9) rfl dX11_domain_38 ?_
      refine lv_aload_n hx hb dX11_domain_41 rfl (lv_at hl 0 rfl) ?_
      refine gw_get (C := RX11) (T := TX11) (N := 55) (v := .int (M36 0 0)) hx hb hts hinX11 hown hK hP (by omega) lyNMM rfl 0 (by decide) w128 (fun _ h9 => h9) rfl dX11_domain_42 ?_
      refine lv_iload_n hx hb dX11_domain_45 rfl (lv_at hl 2 rfl) ?_
      refine w_pc 46 rfl ?_
      refine lv_if_ne (tgt := 54) hx hb dX11_domain_46 (by decide) (fun q46 => ?_) (fun q46 => ?_)
      · replace h := (if_neg q46).symm.trans h
        refine w_pc 54 rfl ?_
        exact bk54 (M36 0 0) M36 ls _ _ (lv_sub hl [0] rfl) h hP hS
      · replace h := (if_pos q46).symm.trans h
        refine w_pc 49 rfl ?_
        refine lv_iload_n hx hb dX11_domain_49 rfl (lv_at hl 1 rfl) ?_
        refine lv_iconst (v := -1) hx hb dX11_domain_50 (by decide) ?_
        refine w_pc 51 rfl ?_
        refine lv_icmp_ne (tgt := 58) hx hb dX11_domain_51 (by decide) (fun q51 => ?_) (fun q51 => ?_)
        · replace h := (if_neg q51).symm.trans h
          refine w_pc 58 rfl ?_
          refine lv_iconst (v := 0) hx hb dX11_domain_58 (by decide) ?_
          exact bk59 (0 : Int32) (M36 0 0) M36 ls _ _ (lv_sub hl [0] rfl) h hP hS
        · replace h := (if_pos q51).symm.trans h
          refine w_pc 54 rfl ?_
          exact bk54 (M36 0 0) M36 ls _ _ (lv_sub hl [0] rfl) h hP hS
    · replace h := (if_pos q21).symm.trans h
      refine w_pc 24 rfl ?_
      refine lv_bipush (v := -2) hx hb dX11_domain_24 (by decide) ?_
      exact re_i hx hb hr hlk h hP hS dX11_domain_26
  refine w_entry ha (Nat.le_of_ble_eq_true rfl) (fun ls hl => ?_)
  have hl : lv_has ls 3 [(0, .ref (ad 0)), (1, .int a1), (2, .int a2)] := hl
  refine w_pc 0 rfl ?_
  refine lv_iload_n hx hb dX11_domain_0 rfl (lv_at hl 1 rfl) ?_
  refine lv_iconst (v := -1) hx hb dX11_domain_1 (by decide) ?_
  refine w_pc 2 rfl ?_
  refine lv_icmp_eq (tgt := 15) hx hb dX11_domain_2 (by decide) (fun q2 => ?_) (fun q2 => ?_)
  · replace h := (if_pos q2).symm.trans h
    refine w_pc 15 rfl ?_
    exact bk15 M ls _ _ (lv_sub hl [0, 1, 2] rfl) h hP hS
  · replace h := (if_neg q2).symm.trans h
    refine w_pc 5 rfl ?_
    refine lv_aload_n hx hb dX11_domain_5 rfl (lv_at hl 0 rfl) ?_
    refine lv_iload_n hx hb dX11_domain_6 rfl (lv_at hl 1 rfl) ?_
    refine w_pc 7 rfl ?_
    obtain ⟨v7, c7, h⟩ := bn1_some h
    refine cl_i (rn_v (As := [.int a1]) (rest := []) ⟨hx, hb, hml, hown, hts⟩ (kX11_isDomain l D ad cA A c7) ⟨callB_of 1 hts (gdc wm901) rfl rfl rfl (hts _ wm61) (hts _ wm898) hdX11_isDomain ⟨Nat.le_of_ble_eq_true rfl, Nat.le_of_ble_eq_true rfl⟩, hts _ wm900, hts _ wm21⟩ hK hP hD hN (by omega) lyNMM rfl rfl hl.1 rfl (lv_room (Nat.le_of_ble_eq_true rfl)) dX11_domain_7) hS (fun H locs hP hS => ?_)
    refine w_pc 10 rfl ?_
    refine w_pc 10 rfl ?_
    refine lv_if_ne (tgt := 15) hx hb dX11_domain_10 (by decide) (fun q10 => ?_) (fun q10 => ?_)
    · replace h := (if_neg q10).symm.trans h
      refine w_pc 15 rfl ?_
      exact bk15 M ls _ _ (lv_sub hl [0, 1, 2] rfl) h hP hS
    · replace h := (if_pos q10).symm.trans h
      refine w_pc 13 rfl ?_
      refine lv_iconst (v := -1) hx hb dX11_domain_13 (by decide) ?_
      exact re_i hx hb hr hlk h hP hS dX11_domain_14
def rmX11_homeOf : Room := { frames := 0, cells := 0, slots := 0, locals := 0 }
def fX11_homeOf_2 (a1 : Int32) (M : Mm) : Nat → Int32 → Option Int32
  | 0, _ => none
  | n + 1, x2 => grd (gin a1 20) (if (M 2 a1.toNatClampNeg) = 0 then (grd (gin x2 20) (grd (gin (M 1 x2.toNatClampNeg) 20) (if (M 2 (M 1 x2.toNatClampNeg).toNatClampNeg) = 0 then (grd (gin x2 20) (nm (M 1 x2.toNatClampNeg) (fun v31 => (fX11_homeOf_2 a1 M n) v31))) else (some x2)))) else (some x2))
def fX11_homeOf (a1 : Int32) (M : Mm) : Option Int32 :=
  fX11_homeOf_2 a1 M FU a1
set_option maxRecDepth 100000 in
set_option maxHeartbeats 4000000 in
theorem kX11_homeOf (l : Launch) (D : va_G) (ad : Nat → Nat) (cA : Nat → ClassId) (A : Nat → Prop) {a1 : Int32} {M : Mm} {r : Int32} (h : fX11_homeOf a1 M = some r) : Met l yX11_homeOf wsX11_homeOf rmX11_homeOf (gPc D (tyM cA) 40 (layN ad cA) ad A M [.ref (ad 0), .int a1]) (gQi D 40 (layN ad cA) ad A M r) 0 0 A := by
  refine Met.ofW (cc := cX11_homeOf) (maxL := 3) (ret := (some .int)) (by decide) rfl ?_
  intro p e s m args below meth c s₁ B hml hv
  obtain ⟨ha, hP, hK, hD, hN⟩ := hv
  have hx := B.exec
  have hb := B.bytes
  have hr := B.returns
  have hlk := B.notSynchronized
  have hts : ∀ w ∈ lw_g, w.before args s = true := fun w h => atoms_spec (ws := wsX11_homeOf) B.pre w (List.mem_cons_of_mem _ h)
  have hown : s.vm.findClass RX11 = some m.cls := findClass_of_methodNamed B.named
  have hS : va_S A s.heap s.heap [] := va_S.rf
  unfold fX11_homeOf at h
  have w13 := hts _ wm729
  have w7 := hts _ wm728
  have lp2 : ∀ (n : Nat) (x2 : Int32) (ls : Array Slot) (H : Heap) (locs : List Loc), lv_has ls 3 [(0, .ref (ad 0)), (1, .int a1), (2, .int x2)] → fX11_homeOf_2 a1 M n x2 = some r → va_P D vwCl (gw 40 (layN ad cA) ad M) H → va_S A s.heap H locs → W p l e (headSpec wsX11_homeOf rmX11_homeOf).room s m args below meth c H locs 0 0 (MQ below (gQi D 40 (layN ad cA) ad A M r) args s 0 0 A) (F0 m 2 ls []) := by
    intro n
    induction n with
    | zero =>
      intro x2 ls H locs hl h hP hS
      rw [fX11_homeOf_2] at h
      cases h
    | succ n ih2 =>
      intro x2 ls H locs hl h hP hS
      rw [fX11_homeOf_2] at h
      refine w_pc 2 rfl ?_
      refine lv_aload_n hx hb dX11_homeOf_2 rfl (lv_at hl 0 rfl) ?_
      refine gw_get (C := RX11) (T := TX11) (N := 55) (v := .ref (ad 2)) hx hb hts hinX11 hown hK hP (by omega) lyNMM rfl 2 (by decide) w13 (fun _ h9 => h9) rfl dX11_homeOf_3 ?_
      refine lv_iload_n hx hb dX11_homeOf_6 rfl (lv_at hl 1 rfl) ?_
      obtain ⟨g7, h⟩ := gd_in h
      refine gw_zald hx hb hK hP 1 (by omega) lyNasuffixes rfl g7 dX11_homeOf_7 ?_
      refine w_pc 8 rfl ?_
      refine lv_if_ne (tgt := 35) hx hb dX11_homeOf_8 (by decide) (fun q8 => ?_) (fun q8 => ?_)
      · replace h := (if_neg q8).symm.trans h
        refine w_pc 35 rfl ?_
        refine lv_iload_n hx hb dX11_homeOf_35 rfl (lv_at hl 2 rfl) ?_
        exact re_i hx hb hr hlk (sm_r h) hP hS dX11_homeOf_36
      · replace h := (if_pos q8).symm.trans h
        refine w_pc 11 rfl ?_
        refine lv_aload_n hx hb dX11_homeOf_11 rfl (lv_at hl 0 rfl) ?_
        refine gw_get (C := RX11) (T := TX11) (N := 55) (v := .ref (ad 2)) hx hb hts hinX11 hown hK hP (by omega) lyNMM rfl 2 (by decide) w13 (fun _ h9 => h9) rfl dX11_homeOf_12 ?_
        refine lv_aload_n hx hb dX11_homeOf_15 rfl (lv_at hl 0 rfl) ?_
        refine gw_get (C := RX11) (T := TX11) (N := 55) (v := .ref (ad 1)) hx hb hts hinX11 hown hK hP (by omega) lyNMM rfl 1 (by decide) w7 (fun _ h9 => h9) rfl dX11_homeOf_16 ?_
        refine lv_iload_n hx hb dX11_homeOf_19 rfl (lv_at hl 2 rfl) ?_
        obtain ⟨g20, h⟩ := gd_in h
        refine gw_iald hx hb hK hP 0 (by omega) lyNaparents rfl g20 dX11_homeOf_20 ?_
        obtain ⟨g21, h⟩ := gd_in h
        refine gw_zald hx hb hK hP 1 (by omega) lyNasuffixes rfl g21 dX11_homeOf_21 ?_
        refine w_pc 22 rfl ?_
        refine w_pc 22 rfl ?_
        refine lv_if_ne (tgt := 35) hx hb dX11_homeOf_22 (by decide) (fun q22 => ?_) (fun q22 => ?_)
        · replace h := (if_neg q22).symm.trans h
          refine w_pc 35 rfl ?_
          refine lv_iload_n hx hb dX11_homeOf_35 rfl (lv_at hl 2 rfl) ?_
          exact re_i hx hb hr hlk (sm_r h) hP hS dX11_homeOf_36
        · replace h := (if_pos q22).symm.trans h
          refine w_pc 25 rfl ?_
          refine lv_aload_n hx hb dX11_homeOf_25 rfl (lv_at hl 0 rfl) ?_
          refine gw_get (C := RX11) (T := TX11) (N := 55) (v := .ref (ad 1)) hx hb hts hinX11 hown hK hP (by omega) lyNMM rfl 1 (by decide) w7 (fun _ h9 => h9) rfl dX11_homeOf_26 ?_
          refine lv_iload_n hx hb dX11_homeOf_29 rfl (lv_at hl 2 rfl) ?_
          obtain ⟨g30, h⟩ := gd_in h
          refine gw_iald hx hb hK hP 0 (by omega) lyNaparents rfl g30 dX11_homeOf_30 ?_
          obtain ⟨v31, e31, h⟩ := nm_some h
          refine w_ti e31 ?_
          refine lv_istore_n (lv' := [(2, .int v31), (0, .ref (ad 0)), (1, .int a1)]) hx hb dX11_homeOf_31 rfl hl (by decide) rfl (fun ls hl => ?_)
          refine lv_goto (tgt := 2) hx hb dX11_homeOf_32 (by decide) ?_
          exact ih2 v31 ls _ _ (lv_sub hl [1, 2, 0] rfl) h hP hS
  refine w_entry ha (Nat.le_of_ble_eq_true rfl) (fun ls hl => ?_)
  have hl : lv_has ls 3 [(0, .ref (ad 0)), (1, .int a1)] := hl
  refine w_pc 0 rfl ?_
  refine lv_iload_n hx hb dX11_homeOf_0 rfl (lv_at hl 1 rfl) ?_
  refine lv_istore_n (lv' := [(2, .int a1), (0, .ref (ad 0)), (1, .int a1)]) hx hb dX11_homeOf_1 rfl hl (by decide) rfl (fun ls hl => ?_)
  exact lp2 FU a1 ls _ _ (lv_sub hl [1, 2, 0] rfl) h hP hS
def rmX11_home : Room := { frames := 1, cells := 0, slots := 0, locals := 22 }
def fX11_home (a1 : Int32) (M : Mm) : Option Int32 :=
  bn1 (fX11_isDomain a1 M) (fun v2 => if v2 = 0 then (some (-1 : Int32)) else (bn1 (fX11_homeOf a1 M) (fun v10 => some v10)))
set_option maxRecDepth 100000 in
set_option maxHeartbeats 4000000 in
theorem kX11_home (l : Launch) (D : va_G) (ad : Nat → Nat) (cA : Nat → ClassId) (A : Nat → Prop) {a1 : Int32} {M : Mm} {r : Int32} (h : fX11_home a1 M = some r) : Met l yX11_home wsX11_home rmX11_home (gPc D (tyM cA) 40 (layN ad cA) ad A M [.ref (ad 0), .int a1]) (gQi D 40 (layN ad cA) ad A M r) 0 0 A := by
  refine Met.ofW (cc := cX11_home) (maxL := 2) (ret := (some .int)) (by decide) rfl ?_
  intro p e s m args below meth c s₁ B hml hv
  obtain ⟨ha, hP, hK, hD, hN⟩ := hv
  have hx := B.exec
  have hb := B.bytes
  have hr := B.returns
  have hlk := B.notSynchronized
  have hts : ∀ w ∈ lw_g, w.before args s = true := fun w h => atoms_spec (ws := wsX11_home) B.pre w (List.mem_cons_of_mem _ h)
  have hown : s.vm.findClass RX11 = some m.cls := findClass_of_methodNamed B.named
  have hS : va_S A s.heap s.heap [] := va_S.rf
  unfold fX11_home at h
  refine w_entry ha (Nat.le_of_ble_eq_true rfl) (fun ls hl => ?_)
  have hl : lv_has ls 2 [(0, .ref (ad 0)), (1, .int a1)] := hl
  refine w_pc 0 rfl ?_
  refine lv_aload_n hx hb dX11_home_0 rfl (lv_at hl 0 rfl) ?_
  refine lv_iload_n hx hb dX11_home_1 rfl (lv_at hl 1 rfl) ?_
  refine w_pc 2 rfl ?_
  obtain ⟨v2, c2, h⟩ := bn1_some h
  refine cl_i (rn_v (As := [.int a1]) (rest := []) ⟨hx, hb, hml, hown, hts⟩ (kX11_isDomain l D ad cA A c2) ⟨callB_of 1 hts (gdc wm901) rfl rfl rfl (hts _ wm61) (hts _ wm898) hdX11_isDomain ⟨Nat.le_of_ble_eq_true rfl, Nat.le_of_ble_eq_true rfl⟩, hts _ wm900, hts _ wm21⟩ hK hP hD hN (by omega) lyNMM rfl rfl hl.1 rfl (lv_room (Nat.le_of_ble_eq_true rfl)) dX11_home_2) hS (fun H locs hP hS => ?_)
  refine w_pc 5 rfl ?_
  refine w_pc 5 rfl ?_
  refine lv_if_eq (tgt := 16) hx hb dX11_home_5 (by decide) (fun q5 => ?_) (fun q5 => ?_)
  · replace h := (if_pos q5).symm.trans h
    refine w_pc 16 rfl ?_
    refine lv_iconst (v := -1) hx hb dX11_home_16 (by decide) ?_
    exact re_i hx hb hr hlk (sm_r h) hP hS dX11_home_17
  · replace h := (if_neg q5).symm.trans h
    refine w_pc 8 rfl ?_
    refine lv_aload_n hx hb dX11_home_8 rfl (lv_at hl 0 rfl) ?_
    refine lv_iload_n hx hb dX11_home_9 rfl (lv_at hl 1 rfl) ?_
    refine w_pc 10 rfl ?_
    obtain ⟨v10, c10, h⟩ := bn1_some h
    refine cl_i (rn_v (As := [.int a1]) (rest := []) ⟨hx, hb, hml, hown, hts⟩ (kX11_homeOf l D ad cA A c10) ⟨callB_of 1 hts (gdc wm909) rfl rfl rfl (hts _ wm61) (hts _ wm906) hdX11_homeOf ⟨Nat.le_of_ble_eq_true rfl, Nat.le_of_ble_eq_true rfl⟩, hts _ wm908, hts _ wm22⟩ hK hP hD hN (by omega) lyNMM rfl rfl hl.1 rfl (lv_room (Nat.le_of_ble_eq_true rfl)) dX11_home_10) hS (fun H locs hP hS => ?_)
    refine w_pc 13 rfl ?_
    refine lv_goto (tgt := 17) hx hb dX11_home_13 (by decide) ?_
    exact re_i hx hb hr hlk (sm_r h) hP hS dX11_home_17
def rmX11_silent : Room := { frames := 1, cells := 0, slots := 0, locals := 21 }
def fX11_silent (a1 : Int32) (a2 : Int32) (M : Mm) : Option (Int32 × Mm) :=
  bn1 (fX11_isDomain a1 M) (fun v2 => if v2 = 0 then (some ((0 : Int32), M)) else (grd (gin a1 20) (grd (gz a2) (nm (up2 M 3 a1.toNatClampNeg a2) (fun M16 => some ((1 : Int32), M16))))))
set_option maxRecDepth 100000 in
set_option maxHeartbeats 4000000 in
theorem kX11_silent (l : Launch) (D : va_G) (ad : Nat → Nat) (cA : Nat → ClassId) (A : Nat → Prop) {a1 : Int32} {a2 : Int32} {M M1 : Mm} {r : Int32} (h : fX11_silent a1 a2 M = some (r, M1)) : Met l yX11_silent wsX11_silent rmX11_silent (gPc D (tyM cA) 40 (layN ad cA) ad A M [.ref (ad 0), .int a1, .int a2]) (gQi D 40 (layN ad cA) ad A M1 r) 0 0 A := by
  refine Met.ofW (cc := cX11_silent) (maxL := 3) (ret := (some .boolean)) (by decide) rfl ?_
  intro p e s m args below meth c s₁ B hml hv
  obtain ⟨ha, hP, hK, hD, hN⟩ := hv
  have hx := B.exec
  have hb := B.bytes
  have hr := B.returns
  have hlk := B.notSynchronized
  have hts : ∀ w ∈ lw_g, w.before args s = true := fun w h => atoms_spec (ws := wsX11_silent) B.pre w (List.mem_cons_of_mem _ h)
  have hown : s.vm.findClass RX11 = some m.cls := findClass_of_methodNamed B.named
  have hS : va_S A s.heap s.heap [] := va_S.rf
  unfold fX11_silent at h
  have w17 := hts _ wm730
  refine w_entry ha (Nat.le_of_ble_eq_true rfl) (fun ls hl => ?_)
  have hl : lv_has ls 3 [(0, .ref (ad 0)), (1, .int a1), (2, .int a2)] := hl
  refine w_pc 0 rfl ?_
  refine lv_aload_n hx hb dX11_silent_0 rfl (lv_at hl 0 rfl) ?_
  refine lv_iload_n hx hb dX11_silent_1 rfl (lv_at hl 1 rfl) ?_
  refine w_pc 2 rfl ?_
  obtain ⟨v2, c2, h⟩ := bn1_some h
  refine cl_i (rn_v (As := [.int a1]) (rest := []) ⟨hx, hb, hml, hown, hts⟩ (kX11_isDomain l D ad cA A c2) ⟨callB_of 1 hts (gdc wm901) rfl rfl rfl (hts _ wm61) (hts _ wm898) hdX11_isDomain ⟨Nat.le_of_ble_eq_true rfl, Nat.le_of_ble_eq_true rfl⟩, hts _ wm900, hts _ wm21⟩ hK hP hD hN (by omega) lyNMM rfl rfl hl.1 rfl (lv_room (Nat.le_of_ble_eq_true rfl)) dX11_silent_2) hS (fun H locs hP hS => ?_)
  refine w_pc 5 rfl ?_
  refine w_pc 5 rfl ?_
  refine lv_if_ne (tgt := 10) hx hb dX11_silent_5 (by decide) (fun q5 => ?_) (fun q5 => ?_)
  · replace h := (if_neg q5).symm.trans h
    refine w_pc 10 rfl ?_
    refine lv_aload_n hx hb dX11_silent_10 rfl (lv_at hl 0 rfl) ?_
    refine gw_get (C := RX11) (T := TX11) (N := 55) (v := .ref (ad 3)) hx hb hts hinX11 hown hK hP (by omega) lyNMM rfl 3 (by decide) w17 (fun _ h9 => h9) rfl dX11_silent_11 ?_
    refine lv_iload_n hx hb dX11_silent_14 rfl (lv_at hl 1 rfl) ?_
    refine lv_iload_n hx hb dX11_silent_15 rfl (lv_at hl 2 rfl) ?_
    obtain ⟨g16, h⟩ := gd_in h
    obtain ⟨z16, h⟩ := gd_z h
    obtain ⟨M16, eM16, h⟩ := nm_some h
    refine gw_zast hx hb hK hP hD hS 1 (by omega) lyNasilents rfl g16 z16 eM16 dX11_silent_16 (fun H locs hP hS => ?_)
    refine lv_iconst (v := 1) hx hb dX11_silent_17 (by decide) ?_
    exact re_z hx hb hr hlk (Or.inr rfl) h hP hS dX11_silent_18
  · replace h := (if_pos q5).symm.trans h
    refine w_pc 8 rfl ?_
    refine lv_iconst (v := 0) hx hb dX11_silent_8 (by decide) ?_
    exact re_z hx hb hr hlk (Or.inl rfl) h hP hS dX11_silent_9
def rmX11_host : Room := { frames := 1, cells := 0, slots := 0, locals := 21 }
def fX11_host_32 (a1 : Int32) (a2 : Int32) (a3 : Int32) (M : Mm) : Option (Int32 × Mm) :=
  nm (((2 : Int32) * a1) + a2) (fun v37 => grd (gin v37 40) (if (M 5 v37.toNatClampNeg) = (2 : Int32) then (some ((-2 : Int32), M)) else (grd (gin v37 40) (grd (gin (((2 : Int32) * v37) + (M 5 v37.toNatClampNeg)) 80) (nm (up2 M 4 (((2 : Int32) * v37) + (M 5 v37.toNatClampNeg)).toNatClampNeg a3) (fun M70 => grd (gin v37 40) (grd (gin v37 40) (nm (up2 M70 5 v37.toNatClampNeg ((M70 5 v37.toNatClampNeg) + (1 : Int32))) (fun M81 => grd (gin v37 40) (some ((M81 5 v37.toNatClampNeg), M81)))))))))))
def fX11_host (a1 : Int32) (a2 : Int32) (a3 : Int32) (M : Mm) : Option (Int32 × Mm) :=
  bn1 (fX11_isDomain a1 M) (fun v2 => if v2 = 0 then (some ((-1 : Int32), M)) else (if a2 < 0 then (some ((-1 : Int32), M)) else (if (1 : Int32) < a2 then (some ((-1 : Int32), M)) else (if a2 = (1 : Int32) then (bn1 (fX11_isDomain a3 M) (fun v24 => if v24 = 0 then (some ((-1 : Int32), M)) else (fX11_host_32 a1 a2 a3 M))) else (fX11_host_32 a1 a2 a3 M)))))
set_option maxRecDepth 100000 in
set_option maxHeartbeats 4000000 in
theorem kX11_host (l : Launch) (D : va_G) (ad : Nat → Nat) (cA : Nat → ClassId) (A : Nat → Prop) {a1 : Int32} {a2 : Int32} {a3 : Int32} {M M1 : Mm} {r : Int32} (h : fX11_host a1 a2 a3 M = some (r, M1)) : Met l yX11_host wsX11_host rmX11_host (gPc D (tyM cA) 40 (layN ad cA) ad A M [.ref (ad 0), .int a1, .int a2, .int a3]) (gQi D 40 (layN ad cA) ad A M1 r) 0 0 A := by
  refine Met.ofW (cc := cX11_host) (maxL := 5) (ret := (some .int)) (by decide) rfl ?_
  intro p e s m args below meth c s₁ B hml hv
  obtain ⟨ha, hP, hK, hD, hN⟩ := hv
  have hx := B.exec
  have hb := B.bytes
  have hr := B.returns
  have hlk := B.notSynchronized
  have hts : ∀ w ∈ lw_g, w.before args s = true := fun w h => atoms_spec (ws := wsX11_host) B.pre w (List.mem_cons_of_mem _ h)
  have hown : s.vm.findClass RX11 = some m.cls := findClass_of_methodNamed B.named
  have hS : va_S A s.heap s.heap [] := va_S.rf
  unfold fX11_host at h
  have w23 := hts _ wm732
  have w20 := hts _ wm731
  have bk32 : ∀ (M : Mm) (ls : Array Slot) (H : Heap) (locs : List Loc), lv_has ls 5 [(0, .ref (ad 0)), (1, .int a1), (2, .int a2), (3, .int a3)] → fX11_host_32 a1 a2 a3 M = some (r, M1) → va_P D vwCl (gw 40 (layN ad cA) ad M) H → va_S A s.heap H locs → W p l e (headSpec wsX11_host rmX11_host).room s m args below meth c H locs 0 0 (MQ below (gQi D 40 (layN ad cA) ad A M1 r) args s 0 0 A) (F0 m 32 ls []) := by
    intro M ls H locs hl h hP hS
    unfold fX11_host_32 at h
    refine w_pc 32 rfl ?_
    refine lv_iconst (v := 2) hx hb dX11_host_32 (by decide) ?_
    refine lv_iload_n hx hb dX11_host_33 rfl (lv_at hl 1 rfl) ?_
    refine lv_imul hx hb dX11_host_34 ?_
    refine lv_iload_n hx hb dX11_host_35 rfl (lv_at hl 2 rfl) ?_
    refine lv_iadd hx hb dX11_host_36 ?_
    obtain ⟨v37, e37, h⟩ := nm_some h
    refine w_ti e37 ?_
    refine lv_istore (lv' := [(4, .int v37), (0, .ref (ad 0)), (1, .int a1), (2, .int a2), (3, .int a3)]) hx hb dX11_host_37 hl (by decide) rfl (fun ls hl => ?_)
    refine lv_aload_n hx hb dX11_host_39 rfl (lv_at hl 1 rfl) ?_
    refine w_pc 40 rfl ?_
    refine gw_get (C := RX11) (T := TX11) (N := 55) (v := .ref (ad 5)) hx hb hts hinX11 hown hK hP (by omega) lyNMM rfl 5 (by decide) w23 (fun _ h9 => h9) rfl dX11_host_40 ?_
    refine lv_iload hx hb dX11_host_43 (lv_at hl 0 rfl) ?_
    obtain ⟨g45, h⟩ := gd_in h
    refine gw_iald hx hb hK hP 0 (by omega) lyNahostMany rfl g45 dX11_host_45 ?_
    refine lv_iconst (v := 2) hx hb dX11_host_46 (by decide) ?_
    refine w_pc 47 rfl ?_
    refine lv_icmp_ne (tgt := 53) hx hb dX11_host_47 (by decide) (fun q47 => ?_) (fun q47 => ?_)
    · replace h := (if_neg q47).symm.trans h
      refine w_pc 53 rfl ?_
      refine lv_aload_n hx hb dX11_host_53 rfl (lv_at hl 1 rfl) ?_
      refine gw_get (C := RX11) (T := TX11) (N := 55) (v := .ref (ad 4)) hx hb hts hinX11 hown hK hP (by omega) lyNMM rfl 4 (by decide) w20 (fun _ h9 => h9) rfl dX11_host_54 ?_
      refine lv_iconst (v := 2) hx hb dX11_host_57 (by decide) ?_
      refine lv_iload hx hb dX11_host_58 (lv_at hl 0 rfl) ?_
      refine lv_imul hx hb dX11_host_60 ?_
      refine lv_aload_n hx hb dX11_host_61 rfl (lv_at hl 1 rfl) ?_
      refine gw_get (C := RX11) (T := TX11) (N := 55) (v := .ref (ad 5)) hx hb hts hinX11 hown hK hP (by omega) lyNMM rfl 5 (by decide) w23 (fun _ h9 => h9) rfl dX11_host_62 ?_
      refine w_pc 65 rfl ?_
      refine lv_iload hx hb dX11_host_65 (lv_at hl 0 rfl) ?_
      obtain ⟨g67, h⟩ := gd_in h
      refine gw_iald hx hb hK hP 0 (by omega) lyNahostMany rfl g67 dX11_host_67 ?_
      refine lv_iadd hx hb dX11_host_68 ?_
      refine lv_iload_n hx hb dX11_host_69 rfl (lv_at hl 4 rfl) ?_
      obtain ⟨g70, h⟩ := gd_in h
      obtain ⟨M70, eM70, h⟩ := nm_some h
      refine gw_iast hx hb hK hP hD hS 0 (by omega) lyNahosts rfl g70 eM70 dX11_host_70 (fun H locs hP hS => ?_)
      refine lv_aload_n hx hb dX11_host_71 rfl (lv_at hl 1 rfl) ?_
      refine gw_get (C := RX11) (T := TX11) (N := 55) (v := .ref (ad 5)) hx hb hts hinX11 hown hK hP (by omega) lyNMM rfl 5 (by decide) w23 (fun _ h9 => h9) rfl dX11_host_72 ?_
      refine lv_iload hx hb dX11_host_75 (lv_at hl 0 rfl) ?_
      refine w_pc 77 rfl ?_
      refine lv_dup2_11 hx hb dX11_host_77 rfl rfl ?_
      obtain ⟨g78, h⟩ := gd_in h
      refine gw_iald hx hb hK hP 0 (by omega) lyNahostMany rfl g78 dX11_host_78 ?_
      refine lv_iconst (v := 1) hx hb dX11_host_79 (by decide) ?_
      refine lv_iadd hx hb dX11_host_80 ?_
      obtain ⟨g81, h⟩ := gd_in h
      obtain ⟨M81, eM81, h⟩ := nm_some h
      refine gw_iast hx hb hK hP hD hS 0 (by omega) lyNahostMany rfl g81 eM81 dX11_host_81 (fun H locs hP hS => ?_)
      refine lv_aload_n hx hb dX11_host_82 rfl (lv_at hl 1 rfl) ?_
      refine gw_get (C := RX11) (T := TX11) (N := 55) (v := .ref (ad 5)) hx hb hts hinX11 hown hK hP (by omega) lyNMM rfl 5 (by decide) w23 (fun _ h9 => h9) rfl dX11_host_83 ?_
      refine lv_iload hx hb dX11_host_86 (lv_at hl 0 rfl) ?_
      refine w_pc 88 rfl ?_
      obtain ⟨g88, h⟩ := gd_in h
      refine gw_iald hx hb hK hP 0 (by omega) lyNahostMany rfl g88 dX11_host_88 ?_
      exact re_i hx hb hr hlk h hP hS dX11_host_89
    · replace h := (if_pos q47).symm.trans h
      refine w_pc 50 rfl ?_
      refine lv_bipush (v := -2) hx hb dX11_host_50 (by decide) ?_
      exact re_i hx hb hr hlk h hP hS dX11_host_52
  refine w_entry ha (Nat.le_of_ble_eq_true rfl) (fun ls hl => ?_)
  have hl : lv_has ls 5 [(0, .ref (ad 0)), (1, .int a1), (2, .int a2), (3, .int a3)] := hl
  refine w_pc 0 rfl ?_
  refine lv_aload_n hx hb dX11_host_0 rfl (lv_at hl 0 rfl) ?_
  refine lv_iload_n hx hb dX11_host_1 rfl (lv_at hl 1 rfl) ?_
  refine w_pc 2 rfl ?_
  obtain ⟨v2, c2, h⟩ := bn1_some h
  refine cl_i (rn_v (As := [.int a1]) (rest := []) ⟨hx, hb, hml, hown, hts⟩ (kX11_isDomain l D ad cA A c2) ⟨callB_of 1 hts (gdc wm901) rfl rfl rfl (hts _ wm61) (hts _ wm898) hdX11_isDomain ⟨Nat.le_of_ble_eq_true rfl, Nat.le_of_ble_eq_true rfl⟩, hts _ wm900, hts _ wm21⟩ hK hP hD hN (by omega) lyNMM rfl rfl hl.1 rfl (lv_room (Nat.le_of_ble_eq_true rfl)) dX11_host_2) hS (fun H locs hP hS => ?_)
  refine w_pc 5 rfl ?_
  refine w_pc 5 rfl ?_
  refine lv_if_eq (tgt := 30) hx hb dX11_host_5 (by decide) (fun q5 => ?_) (fun q5 => ?_)
  · replace h := (if_pos q5).symm.trans h
    refine w_pc 30 rfl ?_
    refine lv_iconst (v := -1) hx hb dX11_host_30 (by decide) ?_
    exact re_i hx hb hr hlk h hP hS dX11_host_31
  · replace h := (if_neg q5).symm.trans h
    refine w_pc 8 rfl ?_
    refine lv_iload_n hx hb dX11_host_8 rfl (lv_at hl 2 rfl) ?_
    refine w_pc 9 rfl ?_
    refine lv_if_lt (tgt := 30) hx hb dX11_host_9 (by decide) (fun q9 => ?_) (fun q9 => ?_)
    · replace h := (if_pos q9).symm.trans h
      refine w_pc 30 rfl ?_
      refine lv_iconst (v := -1) hx hb dX11_host_30 (by decide) ?_
      exact re_i hx hb hr hlk h hP hS dX11_host_31
    · replace h := (if_neg q9).symm.trans h
      refine w_pc 12 rfl ?_
      refine lv_iload_n hx hb dX11_host_12 rfl (lv_at hl 2 rfl) ?_
      refine lv_iconst (v := 1) hx hb dX11_host_13 (by decide) ?_
      refine w_pc 14 rfl ?_
      refine lv_icmp_gt (tgt := 30) hx hb dX11_host_14 (by decide) (fun q14 => ?_) (fun q14 => ?_)
      · replace h := (if_pos q14).symm.trans h
        refine w_pc 30 rfl ?_
        refine lv_iconst (v := -1) hx hb dX11_host_30 (by decide) ?_
        exact re_i hx hb hr hlk h hP hS dX11_host_31
      · replace h := (if_neg q14).symm.trans h
        refine w_pc 17 rfl ?_
        refine lv_iload_n hx hb dX11_host_17 rfl (lv_at hl 2 rfl) ?_
        refine lv_iconst (v := 1) hx hb dX11_host_18 (by decide) ?_
        refine w_pc 19 rfl ?_
        refine lv_icmp_ne (tgt := 32) hx hb dX11_host_19 (by decide) (fun q19 => ?_) (fun q19 => ?_)
        · replace h := (if_neg q19).symm.trans h
          refine w_pc 32 rfl ?_
          exact bk32 M ls _ _ (lv_sub hl [0, 1, 2, 3] rfl) h hP hS
        · replace h := (if_pos q19).symm.trans h
          refine w_pc 22 rfl ?_
          refine lv_aload_n hx hb dX11_host_22 rfl (lv_at hl 0 rfl) ?_
          refine lv_iload_n hx hb dX11_host_23 rfl (lv_at hl 3 rfl) ?_
          refine w_pc 24 rfl ?_
          obtain ⟨v24, c24, h⟩ := bn1_some h
          refine cl_i (rn_v (As := [.int a3]) (rest := []) ⟨hx, hb, hml, hown, hts⟩ (kX11_isDomain l D ad cA A c24) ⟨callB_of 1 hts (gdc wm901) rfl rfl rfl (hts _ wm61) (hts _ wm898) hdX11_isDomain ⟨Nat.le_of_ble_eq_true rfl, Nat.le_of_ble_eq_true rfl⟩, hts _ wm900, hts _ wm21⟩ hK hP hD hN (by omega) lyNMM rfl rfl hl.1 rfl (lv_room (Nat.le_of_ble_eq_true rfl)) dX11_host_24) hS (fun H locs hP hS => ?_)
          refine w_pc 27 rfl ?_
          refine w_pc 27 rfl ?_
          refine lv_if_ne (tgt := 32) hx hb dX11_host_27 (by decide) (fun q27 => ?_) (fun q27 => ?_)
          · replace h := (if_neg q27).symm.trans h
            refine w_pc 32 rfl ?_
            exact bk32 M ls _ _ (lv_sub hl [0, 1, 2, 3] rfl) h hP hS
          · replace h := (if_pos q27).symm.trans h
            refine w_pc 30 rfl ?_
            refine lv_iconst (v := -1) hx hb dX11_host_30 (by decide) ?_
            exact re_i hx hb hr hlk h hP hS dX11_host_31
def rmX11_rule : Room := { frames := 1, cells := 0, slots := 0, locals := 21 }
def fX11_rule_100 (a1 : Int32) (a2 : Int32) (a3 : Int32) (a4 : Int32) (a5 : Int32) (x7 : Int32) (x8 : Int32) (M : Mm) : Option (Int32 × Mm) :=
  if x7 = 0 then (if x8 = 0 then (if a3 = (6 : Int32) then (grd (gin a1 20) (nm (up2 M 6 a1.toNatClampNeg (1 : Int32)) (fun M124 => grd (gin a1 20) (nm (up2 M124 12 a1.toNatClampNeg a4) (fun M132 => grd (gin a1 20) (some ((M132 7 a1.toNatClampNeg), M132))))))) else (grd (gin a1 20) (if (M 7 a1.toNatClampNeg) = (6 : Int32) then (some ((-2 : Int32), M)) else (grd (gin a1 20) (nm (((6 : Int32) * a1) + (M 7 a1.toNatClampNeg)) (fun v165 => grd (gin v165 120) (nm (up2 M 8 v165.toNatClampNeg a2) (fun M174 => grd (gin v165 120) (nm (up2 M174 9 v165.toNatClampNeg a3) (fun M182 => grd (gin v165 120) (nm (up2 M182 10 v165.toNatClampNeg a4) (fun M191 => grd (gin v165 120) (nm (up2 M191 11 v165.toNatClampNeg a5) (fun M200 => grd (gin a1 20) (nm (up2 M200 6 a1.toNatClampNeg (1 : Int32)) (fun M207 => grd (gin a1 20) (grd (gin a1 20) (nm (up2 M207 7 a1.toNatClampNeg ((M207 7 a1.toNatClampNeg) + (1 : Int32))) (fun M217 => grd (gin a1 20) (some ((M217 7 a1.toNatClampNeg), M217))))))))))))))))))))) else (some ((-1 : Int32), M))) else (some ((-1 : Int32), M))
def fX11_rule_79 (a1 : Int32) (a2 : Int32) (a3 : Int32) (a4 : Int32) (a5 : Int32) (x6 : Int32) (x7 : Int32) (s0 : Int32) (M : Mm) : Option (Int32 × Mm) :=
  bn1 (fX11_isDomain a1 M) (fun v83 => if v83 = 0 then (some ((-1 : Int32), M)) else (if x6 = 0 then (if a3 = (6 : Int32) then (fX11_rule_100 a1 a2 a3 a4 a5 x7 s0 M) else (some ((-1 : Int32), M))) else (fX11_rule_100 a1 a2 a3 a4 a5 x7 s0 M)))
def fX11_rule_78 (a1 : Int32) (a2 : Int32) (a3 : Int32) (a4 : Int32) (a5 : Int32) (x6 : Int32) (x7 : Int32) (M : Mm) : Option (Int32 × Mm) :=
  fX11_rule_79 a1 a2 a3 a4 a5 x6 x7 (0 : Int32) M
def fX11_rule_52 (a1 : Int32) (a2 : Int32) (a3 : Int32) (a4 : Int32) (a5 : Int32) (x6 : Int32) (s0 : Int32) (M : Mm) : Option (Int32 × Mm) :=
  if a3 < (2 : Int32) then (fX11_rule_78 a1 a2 a3 a4 a5 x6 s0 M) else (if (6 : Int32) < a3 then (fX11_rule_78 a1 a2 a3 a4 a5 x6 s0 M) else (bn1 (fX11_isDomain a4 M) (fun v68 => if v68 = 0 then (fX11_rule_79 a1 a2 a3 a4 a5 x6 s0 (1 : Int32) M) else (fX11_rule_78 a1 a2 a3 a4 a5 x6 s0 M))))
def fX11_rule_51 (a1 : Int32) (a2 : Int32) (a3 : Int32) (a4 : Int32) (a5 : Int32) (x6 : Int32) (M : Mm) : Option (Int32 × Mm) :=
  fX11_rule_52 a1 a2 a3 a4 a5 x6 (0 : Int32) M
def fX11_rule_47 (a1 : Int32) (a2 : Int32) (a3 : Int32) (a4 : Int32) (a5 : Int32) (x6 : Int32) (M : Mm) : Option (Int32 × Mm) :=
  fX11_rule_52 a1 a2 a3 a4 a5 x6 (1 : Int32) M
def fX11_rule_23 (a1 : Int32) (a2 : Int32) (a3 : Int32) (a4 : Int32) (a5 : Int32) (s0 : Int32) (M : Mm) : Option (Int32 × Mm) :=
  if a3 < (1 : Int32) then (fX11_rule_51 a1 a2 a3 a4 a5 s0 M) else (if (3 : Int32) < a3 then (fX11_rule_51 a1 a2 a3 a4 a5 s0 M) else (if a5 < 0 then (fX11_rule_47 a1 a2 a3 a4 a5 s0 M) else (if a5 ≤ (32 : Int32) then (fX11_rule_51 a1 a2 a3 a4 a5 s0 M) else (fX11_rule_47 a1 a2 a3 a4 a5 s0 M))))
def fX11_rule_22 (a1 : Int32) (a2 : Int32) (a3 : Int32) (a4 : Int32) (a5 : Int32) (M : Mm) : Option (Int32 × Mm) :=
  fX11_rule_23 a1 a2 a3 a4 a5 (0 : Int32) M
def fX11_rule (a1 : Int32) (a2 : Int32) (a3 : Int32) (a4 : Int32) (a5 : Int32) (M : Mm) : Option (Int32 × Mm) :=
  if a3 < 0 then (fX11_rule_22 a1 a2 a3 a4 a5 M) else (if (5 : Int32) < a3 then (fX11_rule_22 a1 a2 a3 a4 a5 M) else (if a2 < 0 then (fX11_rule_22 a1 a2 a3 a4 a5 M) else (if (3 : Int32) < a2 then (fX11_rule_22 a1 a2 a3 a4 a5 M) else (fX11_rule_23 a1 a2 a3 a4 a5 (1 : Int32) M))))
set_option maxRecDepth 100000 in
set_option maxHeartbeats 4000000 in
theorem kX11_rule (l : Launch) (D : va_G) (ad : Nat → Nat) (cA : Nat → ClassId) (A : Nat → Prop) {a1 : Int32} {a2 : Int32} {a3 : Int32} {a4 : Int32} {a5 : Int32} {M M1 : Mm} {r : Int32} (h : fX11_rule a1 a2 a3 a4 a5 M = some (r, M1)) : Met l yX11_rule wsX11_rule rmX11_rule (gPc D (tyM cA) 40 (layN ad cA) ad A M [.ref (ad 0), .int a1, .int a2, .int a3, .int a4, .int a5]) (gQi D 40 (layN ad cA) ad A M1 r) 0 0 A := by
  refine Met.ofW (cc := cX11_rule) (maxL := 10) (ret := (some .int)) (by decide) rfl ?_
  intro p e s m args below meth c s₁ B hml hv
  obtain ⟨ha, hP, hK, hD, hN⟩ := hv
  have hx := B.exec
  have hb := B.bytes
  have hr := B.returns
  have hlk := B.notSynchronized
  have hts : ∀ w ∈ lw_g, w.before args s = true := fun w h => atoms_spec (ws := wsX11_rule) B.pre w (List.mem_cons_of_mem _ h)
  have hown : s.vm.findClass RX11 = some m.cls := findClass_of_methodNamed B.named
  have hS : va_S A s.heap s.heap [] := va_S.rf
  unfold fX11_rule at h
  have w26 := hts _ wm733
  have w44 := hts _ wm739
  have w29 := hts _ wm734
  have w32 := hts _ wm735
  have w35 := hts _ wm736
  have w38 := hts _ wm737
  have w41 := hts _ wm738
  have bk100 : ∀ (x7 : Int32) (x8 : Int32) (M : Mm) (ls : Array Slot) (H : Heap) (locs : List Loc), lv_has ls 10 [(0, .ref (ad 0)), (1, .int a1), (2, .int a2), (3, .int a3), (4, .int a4), (5, .int a5), (7, .int x7), (8, .int x8)] → fX11_rule_100 a1 a2 a3 a4 a5 x7 x8 M = some (r, M1) → va_P D vwCl (gw 40 (layN ad cA) ad M) H → va_S A s.heap H locs → W p l e (headSpec wsX11_rule rmX11_rule).room s m args below meth c H locs 0 0 (MQ below (gQi D 40 (layN ad cA) ad A M1 r) args s 0 0 A) (F0 m 100 ls []) := by
    intro x7 x8 M ls H locs hl h hP hS
    unfold fX11_rule_100 at h
    refine w_pc 100 rfl ?_
    refine lv_iload hx hb dX11_rule_100 (lv_at hl 6 rfl) ?_
    refine w_pc 102 rfl ?_
    refine lv_if_ne (tgt := 110) hx hb dX11_rule_102 (by decide) (fun q102 => ?_) (fun q102 => ?_)
    · replace h := (if_neg q102).symm.trans h
      refine w_pc 110 rfl ?_
      refine lv_iconst (v := -1) hx hb dX11_rule_110 (by decide) ?_
      exact re_i hx hb hr hlk h hP hS dX11_rule_111
    · replace h := (if_pos q102).symm.trans h
      refine w_pc 105 rfl ?_
      refine lv_iload hx hb dX11_rule_105 (lv_at hl 7 rfl) ?_
      refine w_pc 107 rfl ?_
      refine lv_if_eq (tgt := 112) hx hb dX11_rule_107 (by decide) (fun q107 => ?_) (fun q107 => ?_)
      · replace h := (if_pos q107).symm.trans h
        refine w_pc 112 rfl ?_
        refine lv_iload_n hx hb dX11_rule_112 rfl (lv_at hl 3 rfl) ?_
        refine lv_bipush (v := 6) hx hb dX11_rule_113 (by decide) ?_
        refine w_pc 115 rfl ?_
        refine lv_icmp_ne (tgt := 140) hx hb dX11_rule_115 (by decide) (fun q115 => ?_) (fun q115 => ?_)
        · replace h := (if_neg q115).symm.trans h
          refine w_pc 140 rfl ?_
          refine lv_aload_n hx hb dX11_rule_140 rfl (lv_at hl 0 rfl) ?_
          refine gw_get (C := RX11) (T := TX11) (N := 55) (v := .ref (ad 7)) hx hb hts hinX11 hown hK hP (by omega) lyNMM rfl 7 (by decide) w29 (fun _ h9 => h9) rfl dX11_rule_141 ?_
          refine lv_iload_n hx hb dX11_rule_144 rfl (lv_at hl 1 rfl) ?_
          obtain ⟨g145, h⟩ := gd_in h
          refine gw_iald hx hb hK hP 0 (by omega) lyNaterms rfl g145 dX11_rule_145 ?_
          refine lv_bipush (v := 6) hx hb dX11_rule_146 (by decide) ?_
          refine w_pc 148 rfl ?_
          refine lv_icmp_ne (tgt := 154) hx hb dX11_rule_148 (by decide) (fun q148 => ?_) (fun q148 => ?_)
          · replace h := (if_neg q148).symm.trans h
            refine w_pc 154 rfl ?_
            refine lv_bipush (v := 6) hx hb dX11_rule_154 (by decide) ?_
            refine lv_iload_n hx hb dX11_rule_156 rfl (lv_at hl 1 rfl) ?_
            refine lv_imul hx hb dX11_rule_157 ?_
            refine lv_aload_n hx hb dX11_rule_158 rfl (lv_at hl 0 rfl) ?_
            refine gw_get (C := RX11) (T := TX11) (N := 55) (v := .ref (ad 7)) hx hb hts hinX11 hown hK hP (by omega) lyNMM rfl 7 (by decide) w29 (fun _ h9 => h9) rfl dX11_rule_159 ?_
            refine lv_iload_n hx hb dX11_rule_162 rfl (lv_at hl 1 rfl) ?_
            obtain ⟨g163, h⟩ := gd_in h
            refine gw_iald hx hb hK hP 0 (by omega) lyNaterms rfl g163 dX11_rule_163 ?_
            refine w_pc 164 rfl ?_
            refine lv_iadd hx hb dX11_rule_164 ?_
            obtain ⟨v165, e165, h⟩ := nm_some h
            refine w_ti e165 ?_
            refine lv_istore (lv' := [(9, .int v165), (0, .ref (ad 0)), (1, .int a1), (2, .int a2), (3, .int a3), (4, .int a4), (5, .int a5), (7, .int x7), (8, .int x8)]) hx hb dX11_rule_165 hl (by decide) rfl (fun ls hl => ?_)
            refine lv_aload_n hx hb dX11_rule_167 rfl (lv_at hl 1 rfl) ?_
            refine gw_get (C := RX11) (T := TX11) (N := 55) (v := .ref (ad 8)) hx hb hts hinX11 hown hK hP (by omega) lyNMM rfl 8 (by decide) w32 (fun _ h9 => h9) rfl dX11_rule_168 ?_
            refine lv_iload hx hb dX11_rule_171 (lv_at hl 0 rfl) ?_
            refine lv_iload_n hx hb dX11_rule_173 rfl (lv_at hl 3 rfl) ?_
            obtain ⟨g174, h⟩ := gd_in h
            obtain ⟨M174, eM174, h⟩ := nm_some h
            refine gw_iast hx hb hK hP hD hS 0 (by omega) lyNasigns rfl g174 eM174 dX11_rule_174 (fun H locs hP hS => ?_)
            refine lv_aload_n hx hb dX11_rule_175 rfl (lv_at hl 1 rfl) ?_
            refine w_pc 176 rfl ?_
            refine gw_get (C := RX11) (T := TX11) (N := 55) (v := .ref (ad 9)) hx hb hts hinX11 hown hK hP (by omega) lyNMM rfl 9 (by decide) w35 (fun _ h9 => h9) rfl dX11_rule_176 ?_
            refine lv_iload hx hb dX11_rule_179 (lv_at hl 0 rfl) ?_
            refine lv_iload_n hx hb dX11_rule_181 rfl (lv_at hl 4 rfl) ?_
            obtain ⟨g182, h⟩ := gd_in h
            obtain ⟨M182, eM182, h⟩ := nm_some h
            refine gw_iast hx hb hK hP hD hS 0 (by omega) lyNakinds rfl g182 eM182 dX11_rule_182 (fun H locs hP hS => ?_)
            refine lv_aload_n hx hb dX11_rule_183 rfl (lv_at hl 1 rfl) ?_
            refine gw_get (C := RX11) (T := TX11) (N := 55) (v := .ref (ad 10)) hx hb hts hinX11 hown hK hP (by omega) lyNMM rfl 10 (by decide) w38 (fun _ h9 => h9) rfl dX11_rule_184 ?_
            refine lv_iload hx hb dX11_rule_187 (lv_at hl 0 rfl) ?_
            refine lv_iload hx hb dX11_rule_189 (lv_at hl 5 rfl) ?_
            refine w_pc 191 rfl ?_
            obtain ⟨g191, h⟩ := gd_in h
            obtain ⟨M191, eM191, h⟩ := nm_some h
            refine gw_iast hx hb hK hP hD hS 0 (by omega) lyNavalues rfl g191 eM191 dX11_rule_191 (fun H locs hP hS => ?_)
            refine lv_aload_n hx hb dX11_rule_192 rfl (lv_at hl 1 rfl) ?_
            refine gw_get (C := RX11) (T := TX11) (N := 55) (v := .ref (ad 11)) hx hb hts hinX11 hown hK hP (by omega) lyNMM rfl 11 (by decide) w41 (fun _ h9 => h9) rfl dX11_rule_193 ?_
            refine lv_iload hx hb dX11_rule_196 (lv_at hl 0 rfl) ?_
            refine lv_iload hx hb dX11_rule_198 (lv_at hl 6 rfl) ?_
            obtain ⟨g200, h⟩ := gd_in h
            obtain ⟨M200, eM200, h⟩ := nm_some h
            refine gw_iast hx hb hK hP hD hS 0 (by omega) lyNabits rfl g200 eM200 dX11_rule_200 (fun H locs hP hS => ?_)
            refine lv_aload_n hx hb dX11_rule_201 rfl (lv_at hl 1 rfl) ?_
            refine gw_get (C := RX11) (T := TX11) (N := 55) (v := .ref (ad 6)) hx hb hts hinX11 hown hK hP (by omega) lyNMM rfl 6 (by decide) w26 (fun _ h9 => h9) rfl dX11_rule_202 ?_
            refine w_pc 205 rfl ?_
            refine lv_iload_n hx hb dX11_rule_205 rfl (lv_at hl 2 rfl) ?_
            refine lv_iconst (v := 1) hx hb dX11_rule_206 (by decide) ?_
            obtain ⟨g207, h⟩ := gd_in h
            obtain ⟨M207, eM207, h⟩ := nm_some h
            refine gw_zast hx hb hK hP hD hS 1 (by omega) lyNaruled rfl g207 (Or.inr rfl) eM207 dX11_rule_207 (fun H locs hP hS => ?_)
            refine lv_aload_n hx hb dX11_rule_208 rfl (lv_at hl 1 rfl) ?_
            refine gw_get (C := RX11) (T := TX11) (N := 55) (v := .ref (ad 7)) hx hb hts hinX11 hown hK hP (by omega) lyNMM rfl 7 (by decide) w29 (fun _ h9 => h9) rfl dX11_rule_209 ?_
            refine lv_iload_n hx hb dX11_rule_212 rfl (lv_at hl 2 rfl) ?_
            refine lv_dup2_11 hx hb dX11_rule_213 rfl rfl ?_
            obtain ⟨g214, h⟩ := gd_in h
            refine gw_iald hx hb hK hP 0 (by omega) lyNaterms rfl g214 dX11_rule_214 ?_
            refine w_pc 215 rfl ?_
            refine lv_iconst (v := 1) hx hb dX11_rule_215 (by decide) ?_
            refine lv_iadd hx hb dX11_rule_216 ?_
            obtain ⟨g217, h⟩ := gd_in h
            obtain ⟨M217, eM217, h⟩ := nm_some h
            refine gw_iast hx hb hK hP hD hS 0 (by omega) lyNaterms rfl g217 eM217 dX11_rule_217 (fun H locs hP hS => ?_)
            refine lv_aload_n hx hb dX11_rule_218 rfl (lv_at hl 1 rfl) ?_
            refine gw_get (C := RX11) (T := TX11) (N := 55) (v := .ref (ad 7)) hx hb hts hinX11 hown hK hP (by omega) lyNMM rfl 7 (by decide) w29 (fun _ h9 => h9) rfl dX11_rule_219 ?_
            refine lv_iload_n hx hb dX11_rule_222 rfl (lv_at hl 2 rfl) ?_
            obtain ⟨g223, h⟩ := gd_in h
            refine gw_iald hx hb hK hP 0 (by omega) lyNaterms rfl g223 dX11_rule_223 ?_
            exact re_i hx hb hr hlk h hP hS dX11_rule_224
          · replace h := (if_pos q148).symm.trans h
            refine w_pc 151 rfl ?_
            refine lv_bipush (v := -2) hx hb dX11_rule_151 (by decide) ?_
            exact re_i hx hb hr hlk h hP hS dX11_rule_153
        · replace h := (if_pos q115).symm.trans h
          refine w_pc 118 rfl ?_
          refine lv_aload_n hx hb dX11_rule_118 rfl (lv_at hl 0 rfl) ?_
          refine gw_get (C := RX11) (T := TX11) (N := 55) (v := .ref (ad 6)) hx hb hts hinX11 hown hK hP (by omega) lyNMM rfl 6 (by decide) w26 (fun _ h9 => h9) rfl dX11_rule_119 ?_
          refine lv_iload_n hx hb dX11_rule_122 rfl (lv_at hl 1 rfl) ?_
          refine lv_iconst (v := 1) hx hb dX11_rule_123 (by decide) ?_
          obtain ⟨g124, h⟩ := gd_in h
          obtain ⟨M124, eM124, h⟩ := nm_some h
          refine gw_zast hx hb hK hP hD hS 1 (by omega) lyNaruled rfl g124 (Or.inr rfl) eM124 dX11_rule_124 (fun H locs hP hS => ?_)
          refine lv_aload_n hx hb dX11_rule_125 rfl (lv_at hl 0 rfl) ?_
          refine gw_get (C := RX11) (T := TX11) (N := 55) (v := .ref (ad 12)) hx hb hts hinX11 hown hK hP (by omega) lyNMM rfl 12 (by decide) w44 (fun _ h9 => h9) rfl dX11_rule_126 ?_
          refine w_pc 129 rfl ?_
          refine lv_iload_n hx hb dX11_rule_129 rfl (lv_at hl 1 rfl) ?_
          refine lv_iload hx hb dX11_rule_130 (lv_at hl 4 rfl) ?_
          obtain ⟨g132, h⟩ := gd_in h
          obtain ⟨M132, eM132, h⟩ := nm_some h
          refine gw_iast hx hb hK hP hD hS 0 (by omega) lyNaredirects rfl g132 eM132 dX11_rule_132 (fun H locs hP hS => ?_)
          refine lv_aload_n hx hb dX11_rule_133 rfl (lv_at hl 0 rfl) ?_
          refine gw_get (C := RX11) (T := TX11) (N := 55) (v := .ref (ad 7)) hx hb hts hinX11 hown hK hP (by omega) lyNMM rfl 7 (by decide) w29 (fun _ h9 => h9) rfl dX11_rule_134 ?_
          refine lv_iload_n hx hb dX11_rule_137 rfl (lv_at hl 1 rfl) ?_
          obtain ⟨g138, h⟩ := gd_in h
          refine gw_iald hx hb hK hP 0 (by omega) lyNaterms rfl g138 dX11_rule_138 ?_
          exact re_i hx hb hr hlk h hP hS dX11_rule_139
      · replace h := (if_neg q107).symm.trans h
        refine w_pc 110 rfl ?_
        refine lv_iconst (v := -1) hx hb dX11_rule_110 (by decide) ?_
        exact re_i hx hb hr hlk h hP hS dX11_rule_111
  have bk79 : ∀ (x6 : Int32) (x7 : Int32) (s0 : Int32) (M : Mm) (ls : Array Slot) (H : Heap) (locs : List Loc), lv_has ls 10 [(0, .ref (ad 0)), (1, .int a1), (2, .int a2), (3, .int a3), (4, .int a4), (5, .int a5), (6, .int x6), (7, .int x7)] → fX11_rule_79 a1 a2 a3 a4 a5 x6 x7 s0 M = some (r, M1) → va_P D vwCl (gw 40 (layN ad cA) ad M) H → va_S A s.heap H locs → W p l e (headSpec wsX11_rule rmX11_rule).room s m args below meth c H locs 0 0 (MQ below (gQi D 40 (layN ad cA) ad A M1 r) args s 0 0 A) (F0 m 79 ls [.int s0]) := by
    intro x6 x7 s0 M ls H locs hl h hP hS
    unfold fX11_rule_79 at h
    refine w_pc 79 rfl ?_
    refine lv_istore (lv' := [(8, .int s0), (0, .ref (ad 0)), (1, .int a1), (2, .int a2), (3, .int a3), (4, .int a4), (5, .int a5), (6, .int x6), (7, .int x7)]) hx hb dX11_rule_79 hl (by decide) rfl (fun ls hl => ?_)
    refine lv_aload_n hx hb dX11_rule_81 rfl (lv_at hl 1 rfl) ?_
    refine lv_iload_n hx hb dX11_rule_82 rfl (lv_at hl 2 rfl) ?_
    refine w_pc 83 rfl ?_
    obtain ⟨v83, c83, h⟩ := bn1_some h
    refine cl_i (rn_v (As := [.int a1]) (rest := []) ⟨hx, hb, hml, hown, hts⟩ (kX11_isDomain l D ad cA A c83) ⟨callB_of 1 hts (gdc wm901) rfl rfl rfl (hts _ wm61) (hts _ wm898) hdX11_isDomain ⟨Nat.le_of_ble_eq_true rfl, Nat.le_of_ble_eq_true rfl⟩, hts _ wm900, hts _ wm21⟩ hK hP hD hN (by omega) lyNMM rfl rfl hl.1 rfl (lv_room (Nat.le_of_ble_eq_true rfl)) dX11_rule_83) hS (fun H locs hP hS => ?_)
    refine w_pc 86 rfl ?_
    refine w_pc 86 rfl ?_
    refine lv_if_eq (tgt := 110) hx hb dX11_rule_86 (by decide) (fun q86 => ?_) (fun q86 => ?_)
    · replace h := (if_pos q86).symm.trans h
      refine w_pc 110 rfl ?_
      refine lv_iconst (v := -1) hx hb dX11_rule_110 (by decide) ?_
      exact re_i hx hb hr hlk h hP hS dX11_rule_111
    · replace h := (if_neg q86).symm.trans h
      refine w_pc 89 rfl ?_
      refine lv_iload hx hb dX11_rule_89 (lv_at hl 7 rfl) ?_
      refine w_pc 91 rfl ?_
      refine lv_if_ne (tgt := 100) hx hb dX11_rule_91 (by decide) (fun q91 => ?_) (fun q91 => ?_)
      · replace h := (if_neg q91).symm.trans h
        refine w_pc 100 rfl ?_
        exact bk100 x7 s0 M ls _ _ (lv_sub hl [1, 2, 3, 4, 5, 6, 8, 0] rfl) h hP hS
      · replace h := (if_pos q91).symm.trans h
        refine w_pc 94 rfl ?_
        refine lv_iload_n hx hb dX11_rule_94 rfl (lv_at hl 4 rfl) ?_
        refine lv_bipush (v := 6) hx hb dX11_rule_95 (by decide) ?_
        refine w_pc 97 rfl ?_
        refine lv_icmp_ne (tgt := 110) hx hb dX11_rule_97 (by decide) (fun q97 => ?_) (fun q97 => ?_)
        · replace h := (if_neg q97).symm.trans h
          refine w_pc 110 rfl ?_
          refine lv_iconst (v := -1) hx hb dX11_rule_110 (by decide) ?_
          exact re_i hx hb hr hlk h hP hS dX11_rule_111
        · replace h := (if_pos q97).symm.trans h
          refine w_pc 100 rfl ?_
          exact bk100 x7 s0 M ls _ _ (lv_sub hl [1, 2, 3, 4, 5, 6, 8, 0] rfl) h hP hS
  have bk78 : ∀ (x6 : Int32) (x7 : Int32) (M : Mm) (ls : Array Slot) (H : Heap) (locs : List Loc), lv_has ls 10 [(0, .ref (ad 0)), (1, .int a1), (2, .int a2), (3, .int a3), (4, .int a4), (5, .int a5), (6, .int x6), (7, .int x7)] → fX11_rule_78 a1 a2 a3 a4 a5 x6 x7 M = some (r, M1) → va_P D vwCl (gw 40 (layN ad cA) ad M) H → va_S A s.heap H locs → W p l e (headSpec wsX11_rule rmX11_rule).room s m args below meth c H locs 0 0 (MQ below (gQi D 40 (layN ad cA) ad A M1 r) args s 0 0 A) (F0 m 78 ls []) := by
    intro x6 x7 M ls H locs hl h hP hS
    unfold fX11_rule_78 at h
    refine w_pc 78 rfl ?_
    refine lv_iconst (v := 0) hx hb dX11_rule_78 (by decide) ?_
    exact bk79 x6 x7 (0 : Int32) M ls _ _ (lv_sub hl [0, 1, 2, 3, 4, 5, 6, 7] rfl) h hP hS
  have bk52 : ∀ (x6 : Int32) (s0 : Int32) (M : Mm) (ls : Array Slot) (H : Heap) (locs : List Loc), lv_has ls 10 [(0, .ref (ad 0)), (1, .int a1), (2, .int a2), (3, .int a3), (4, .int a4), (5, .int a5), (6, .int x6)] → fX11_rule_52 a1 a2 a3 a4 a5 x6 s0 M = some (r, M1) → va_P D vwCl (gw 40 (layN ad cA) ad M) H → va_S A s.heap H locs → W p l e (headSpec wsX11_rule rmX11_rule).room s m args below meth c H locs 0 0 (MQ below (gQi D 40 (layN ad cA) ad A M1 r) args s 0 0 A) (F0 m 52 ls [.int s0]) := by
    intro x6 s0 M ls H locs hl h hP hS
    unfold fX11_rule_52 at h
    refine w_pc 52 rfl ?_
    refine lv_istore (lv' := [(7, .int s0), (0, .ref (ad 0)), (1, .int a1), (2, .int a2), (3, .int a3), (4, .int a4), (5, .int a5), (6, .int x6)]) hx hb dX11_rule_52 hl (by decide) rfl (fun ls hl => ?_)
    refine lv_iload_n hx hb dX11_rule_54 rfl (lv_at hl 4 rfl) ?_
    refine lv_iconst (v := 2) hx hb dX11_rule_55 (by decide) ?_
    refine w_pc 56 rfl ?_
    refine lv_icmp_lt (tgt := 78) hx hb dX11_rule_56 (by decide) (fun q56 => ?_) (fun q56 => ?_)
    · replace h := (if_pos q56).symm.trans h
      refine w_pc 78 rfl ?_
      exact bk78 x6 s0 M ls _ _ (lv_sub hl [1, 2, 3, 4, 5, 6, 7, 0] rfl) h hP hS
    · replace h := (if_neg q56).symm.trans h
      refine w_pc 59 rfl ?_
      refine lv_iload_n hx hb dX11_rule_59 rfl (lv_at hl 4 rfl) ?_
      refine lv_bipush (v := 6) hx hb dX11_rule_60 (by decide) ?_
      refine w_pc 62 rfl ?_
      refine lv_icmp_gt (tgt := 78) hx hb dX11_rule_62 (by decide) (fun q62 => ?_) (fun q62 => ?_)
      · replace h := (if_pos q62).symm.trans h
        refine w_pc 78 rfl ?_
        exact bk78 x6 s0 M ls _ _ (lv_sub hl [1, 2, 3, 4, 5, 6, 7, 0] rfl) h hP hS
      · replace h := (if_neg q62).symm.trans h
        refine w_pc 65 rfl ?_
        refine lv_aload_n hx hb dX11_rule_65 rfl (lv_at hl 1 rfl) ?_
        refine lv_iload hx hb dX11_rule_66 (lv_at hl 5 rfl) ?_
        refine w_pc 68 rfl ?_
        obtain ⟨v68, c68, h⟩ := bn1_some h
        refine cl_i (rn_v (As := [.int a4]) (rest := []) ⟨hx, hb, hml, hown, hts⟩ (kX11_isDomain l D ad cA A c68) ⟨callB_of 1 hts (gdc wm901) rfl rfl rfl (hts _ wm61) (hts _ wm898) hdX11_isDomain ⟨Nat.le_of_ble_eq_true rfl, Nat.le_of_ble_eq_true rfl⟩, hts _ wm900, hts _ wm21⟩ hK hP hD hN (by omega) lyNMM rfl rfl hl.1 rfl (lv_room (Nat.le_of_ble_eq_true rfl)) dX11_rule_68) hS (fun H locs hP hS => ?_)
        refine w_pc 71 rfl ?_
        refine w_pc 71 rfl ?_
        refine lv_if_ne (tgt := 78) hx hb dX11_rule_71 (by decide) (fun q71 => ?_) (fun q71 => ?_)
        · replace h := (if_neg q71).symm.trans h
          refine w_pc 78 rfl ?_
          exact bk78 x6 s0 M ls _ _ (lv_sub hl [1, 2, 3, 4, 5, 6, 7, 0] rfl) h hP hS
        · replace h := (if_pos q71).symm.trans h
          refine w_pc 74 rfl ?_
          refine lv_iconst (v := 1) hx hb dX11_rule_74 (by decide) ?_
          refine lv_goto (tgt := 79) hx hb dX11_rule_75 (by decide) ?_
          exact bk79 x6 s0 (1 : Int32) M ls _ _ (lv_sub hl [1, 2, 3, 4, 5, 6, 7, 0] rfl) h hP hS
  have bk51 : ∀ (x6 : Int32) (M : Mm) (ls : Array Slot) (H : Heap) (locs : List Loc), lv_has ls 10 [(0, .ref (ad 0)), (1, .int a1), (2, .int a2), (3, .int a3), (4, .int a4), (5, .int a5), (6, .int x6)] → fX11_rule_51 a1 a2 a3 a4 a5 x6 M = some (r, M1) → va_P D vwCl (gw 40 (layN ad cA) ad M) H → va_S A s.heap H locs → W p l e (headSpec wsX11_rule rmX11_rule).room s m args below meth c H locs 0 0 (MQ below (gQi D 40 (layN ad cA) ad A M1 r) args s 0 0 A) (F0 m 51 ls []) := by
    intro x6 M ls H locs hl h hP hS
    unfold fX11_rule_51 at h
    refine w_pc 51 rfl ?_
    refine lv_iconst (v := 0) hx hb dX11_rule_51 (by decide) ?_
    exact bk52 x6 (0 : Int32) M ls _ _ (lv_sub hl [0, 1, 2, 3, 4, 5, 6] rfl) h hP hS
  have bk47 : ∀ (x6 : Int32) (M : Mm) (ls : Array Slot) (H : Heap) (locs : List Loc), lv_has ls 10 [(0, .ref (ad 0)), (1, .int a1), (2, .int a2), (3, .int a3), (4, .int a4), (5, .int a5), (6, .int x6)] → fX11_rule_47 a1 a2 a3 a4 a5 x6 M = some (r, M1) → va_P D vwCl (gw 40 (layN ad cA) ad M) H → va_S A s.heap H locs → W p l e (headSpec wsX11_rule rmX11_rule).room s m args below meth c H locs 0 0 (MQ below (gQi D 40 (layN ad cA) ad A M1 r) args s 0 0 A) (F0 m 47 ls []) := by
    intro x6 M ls H locs hl h hP hS
    unfold fX11_rule_47 at h
    refine w_pc 47 rfl ?_
    refine lv_iconst (v := 1) hx hb dX11_rule_47 (by decide) ?_
    refine lv_goto (tgt := 52) hx hb dX11_rule_48 (by decide) ?_
    exact bk52 x6 (1 : Int32) M ls _ _ (lv_sub hl [0, 1, 2, 3, 4, 5, 6] rfl) h hP hS
  have bk23 : ∀ (s0 : Int32) (M : Mm) (ls : Array Slot) (H : Heap) (locs : List Loc), lv_has ls 10 [(0, .ref (ad 0)), (1, .int a1), (2, .int a2), (3, .int a3), (4, .int a4), (5, .int a5)] → fX11_rule_23 a1 a2 a3 a4 a5 s0 M = some (r, M1) → va_P D vwCl (gw 40 (layN ad cA) ad M) H → va_S A s.heap H locs → W p l e (headSpec wsX11_rule rmX11_rule).room s m args below meth c H locs 0 0 (MQ below (gQi D 40 (layN ad cA) ad A M1 r) args s 0 0 A) (F0 m 23 ls [.int s0]) := by
    intro s0 M ls H locs hl h hP hS
    unfold fX11_rule_23 at h
    refine w_pc 23 rfl ?_
    refine lv_istore (lv' := [(6, .int s0), (0, .ref (ad 0)), (1, .int a1), (2, .int a2), (3, .int a3), (4, .int a4), (5, .int a5)]) hx hb dX11_rule_23 hl (by decide) rfl (fun ls hl => ?_)
    refine lv_iload_n hx hb dX11_rule_25 rfl (lv_at hl 4 rfl) ?_
    refine lv_iconst (v := 1) hx hb dX11_rule_26 (by decide) ?_
    refine w_pc 27 rfl ?_
    refine lv_icmp_lt (tgt := 51) hx hb dX11_rule_27 (by decide) (fun q27 => ?_) (fun q27 => ?_)
    · replace h := (if_pos q27).symm.trans h
      refine w_pc 51 rfl ?_
      exact bk51 s0 M ls _ _ (lv_sub hl [1, 2, 3, 4, 5, 6, 0] rfl) h hP hS
    · replace h := (if_neg q27).symm.trans h
      refine w_pc 30 rfl ?_
      refine lv_iload_n hx hb dX11_rule_30 rfl (lv_at hl 4 rfl) ?_
      refine lv_iconst (v := 3) hx hb dX11_rule_31 (by decide) ?_
      refine w_pc 32 rfl ?_
      refine lv_icmp_gt (tgt := 51) hx hb dX11_rule_32 (by decide) (fun q32 => ?_) (fun q32 => ?_)
      · replace h := (if_pos q32).symm.trans h
        refine w_pc 51 rfl ?_
        exact bk51 s0 M ls _ _ (lv_sub hl [1, 2, 3, 4, 5, 6, 0] rfl) h hP hS
      · replace h := (if_neg q32).symm.trans h
        refine w_pc 35 rfl ?_
        refine lv_iload hx hb dX11_rule_35 (lv_at hl 6 rfl) ?_
        refine w_pc 37 rfl ?_
        refine lv_if_lt (tgt := 47) hx hb dX11_rule_37 (by decide) (fun q37 => ?_) (fun q37 => ?_)
        · replace h := (if_pos q37).symm.trans h
          refine w_pc 47 rfl ?_
          exact bk47 s0 M ls _ _ (lv_sub hl [1, 2, 3, 4, 5, 6, 0] rfl) h hP hS
        · replace h := (if_neg q37).symm.trans h
          refine w_pc 40 rfl ?_
          refine lv_iload hx hb dX11_rule_40 (lv_at hl 6 rfl) ?_
          refine lv_bipush (v := 32) hx hb dX11_rule_42 (by decide) ?_
          refine w_pc 44 rfl ?_
          refine lv_icmp_le (tgt := 51) hx hb dX11_rule_44 (by decide) (fun q44 => ?_) (fun q44 => ?_)
          · replace h := (if_pos q44).symm.trans h
            refine w_pc 51 rfl ?_
            exact bk51 s0 M ls _ _ (lv_sub hl [1, 2, 3, 4, 5, 6, 0] rfl) h hP hS
          · replace h := (if_neg q44).symm.trans h
            refine w_pc 47 rfl ?_
            exact bk47 s0 M ls _ _ (lv_sub hl [1, 2, 3, 4, 5, 6, 0] rfl) h hP hS
  have bk22 : ∀ (M : Mm) (ls : Array Slot) (H : Heap) (locs : List Loc), lv_has ls 10 [(0, .ref (ad 0)), (1, .int a1), (2, .int a2), (3, .int a3), (4, .int a4), (5, .int a5)] → fX11_rule_22 a1 a2 a3 a4 a5 M = some (r, M1) → va_P D vwCl (gw 40 (layN ad cA) ad M) H → va_S A s.heap H locs → W p l e (headSpec wsX11_rule rmX11_rule).room s m args below meth c H locs 0 0 (MQ below (gQi D 40 (layN ad cA) ad A M1 r) args s 0 0 A) (F0 m 22 ls []) := by
    intro M ls H locs hl h hP hS
    unfold fX11_rule_22 at h
    refine w_pc 22 rfl ?_
    refine lv_iconst (v := 0) hx hb dX11_rule_22 (by decide) ?_
    exact bk23 (0 : Int32) M ls _ _ (lv_sub hl [0, 1, 2, 3, 4, 5] rfl) h hP hS
  refine w_entry ha (Nat.le_of_ble_eq_true rfl) (fun ls hl => ?_)
  have hl : lv_has ls 10 [(0, .ref (ad 0)), (1, .int a1), (2, .int a2), (3, .int a3), (4, .int a4), (5, .int a5)] := hl
  refine w_pc 0 rfl ?_
  refine lv_iload_n hx hb dX11_rule_0 rfl (lv_at hl 3 rfl) ?_
  refine w_pc 1 rfl ?_
  refine lv_if_lt (tgt := 22) hx hb dX11_rule_1 (by decide) (fun q1 => ?_) (fun q1 => ?_)
  · replace h := (if_pos q1).symm.trans h
    refine w_pc 22 rfl ?_
    exact bk22 M ls _ _ (lv_sub hl [0, 1, 2, 3, 4, 5] rfl) h hP hS
  · replace h := (if_neg q1).symm.trans h
    refine w_pc 4 rfl ?_
    refine lv_iload_n hx hb dX11_rule_4 rfl (lv_at hl 3 rfl) ?_
    refine lv_iconst (v := 5) hx hb dX11_rule_5 (by decide) ?_
    refine w_pc 6 rfl ?_
    refine lv_icmp_gt (tgt := 22) hx hb dX11_rule_6 (by decide) (fun q6 => ?_) (fun q6 => ?_)
    · replace h := (if_pos q6).symm.trans h
      refine w_pc 22 rfl ?_
      exact bk22 M ls _ _ (lv_sub hl [0, 1, 2, 3, 4, 5] rfl) h hP hS
    · replace h := (if_neg q6).symm.trans h
      refine w_pc 9 rfl ?_
      refine lv_iload_n hx hb dX11_rule_9 rfl (lv_at hl 2 rfl) ?_
      refine w_pc 10 rfl ?_
      refine lv_if_lt (tgt := 22) hx hb dX11_rule_10 (by decide) (fun q10 => ?_) (fun q10 => ?_)
      · replace h := (if_pos q10).symm.trans h
        refine w_pc 22 rfl ?_
        exact bk22 M ls _ _ (lv_sub hl [0, 1, 2, 3, 4, 5] rfl) h hP hS
      · replace h := (if_neg q10).symm.trans h
        refine w_pc 13 rfl ?_
        refine lv_iload_n hx hb dX11_rule_13 rfl (lv_at hl 2 rfl) ?_
        refine lv_iconst (v := 3) hx hb dX11_rule_14 (by decide) ?_
        refine w_pc 15 rfl ?_
        refine lv_icmp_gt (tgt := 22) hx hb dX11_rule_15 (by decide) (fun q15 => ?_) (fun q15 => ?_)
        · replace h := (if_pos q15).symm.trans h
          refine w_pc 22 rfl ?_
          exact bk22 M ls _ _ (lv_sub hl [0, 1, 2, 3, 4, 5] rfl) h hP hS
        · replace h := (if_neg q15).symm.trans h
          refine w_pc 18 rfl ?_
          refine lv_iconst (v := 1) hx hb dX11_rule_18 (by decide) ?_
          refine lv_goto (tgt := 23) hx hb dX11_rule_19 (by decide) ?_
          exact bk23 (1 : Int32) M ls _ _ (lv_sub hl [0, 1, 2, 3, 4, 5] rfl) h hP hS
