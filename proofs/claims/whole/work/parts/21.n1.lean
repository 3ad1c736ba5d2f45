def rmX11_key : Room := { frames := 1, cells := 0, slots := 0, locals := 21 }
def fX11_key (a1 : Int32) (a2 : Int32) (a3 : Int32) (M : Mm) : Option (Int32 × Mm) :=
  bn1 (fX11_isDomain a1 M) (fun v2 => if v2 = 0 then (some ((0 : Int32), M)) else (if a2 < 0 then (some ((0 : Int32), M)) else (if (1 : Int32) < a2 then (some ((0 : Int32), M)) else (if a3 < 0 then (some ((0 : Int32), M)) else (if a3 ≤ (1000000 : Int32) then (grd (gin (((2 : Int32) * a1) + a2) 40) (nm (up2 M 13 (((2 : Int32) * a1) + a2).toNatClampNeg a3) (fun M39 => some ((1 : Int32), M39)))) else (some ((0 : Int32), M)))))))
set_option maxRecDepth 100000 in
set_option maxHeartbeats 4000000 in
theorem kX11_key (l : Launch) (D : va_G) (ad : Nat → Nat) (cA : Nat → ClassId) (A : Nat → Prop) {a1 : Int32} {a2 : Int32} {a3 : Int32} {M M1 : Mm} {r : Int32} (h : fX11_key a1 a2 a3 M = some (r, M1)) : Met l yX11_key wsX11_key rmX11_key (gPc D (tyM cA) 40 (layN ad cA) ad A M [.ref (ad 0), .int a1, .int a2, .int a3]) (gQi D 40 (layN ad cA) ad A M1 r) 0 0 A := by
  refine Met.ofW (cc := cX11_key) (maxL := 4) (ret := (some .boolean)) (by decide) rfl ?_
  intro p e s m args below meth c s₁ B hml hv
  obtain ⟨ha, hP, hK, hD, hN⟩ := hv
  have hx := B.exec
  have hb := B.bytes
  have hr := B.returns
  have hlk := B.notSynchronized
  have hts : ∀ w ∈ lw_g, w.before args s = true := fun w h => atoms_spec (ws := wsX11_key) B.pre w (List.mem_cons_of_mem _ h)
  have hown : s.vm.findClass RX11 = some m.cls := findClass_of_methodNamed B.named
  have hS : va_S A s.heap s.heap [] := va_S.rf
  unfold fX11_key at h
  have w47 := hts _ wm740
  refine w_entry ha (Nat.le_of_ble_eq_true rfl) (fun ls hl => ?_)
  have hl : lv_has ls 4 [(0, .ref (ad 0)), (1, .int a1), (2, .int a2), (3, .int a3)] := hl
  refine w_pc 0 rfl ?_
  refine lv_aload_n hx hb dX11_key_0 rfl (lv_at hl 0 rfl) ?_
  refine lv_iload_n hx hb dX11_key_1 rfl (lv_at hl 1 rfl) ?_
  refine w_pc 2 rfl ?_
  obtain ⟨v2, c2, h⟩ := bn1_some h
  refine cl_i (rn_v (As := [.int a1]) (rest := []) ⟨hx, hb, hml, hown, hts⟩ (kX11_isDomain l D ad cA A c2) ⟨callB_of 1 hts (gdc wm901) rfl rfl rfl (hts _ wm61) (hts _ wm898) hdX11_isDomain ⟨Nat.le_of_ble_eq_true rfl, Nat.le_of_ble_eq_true rfl⟩, hts _ wm900, hts _ wm21⟩ hK hP hD hN (by omega) lyNMM rfl rfl hl.1 rfl (lv_room (Nat.le_of_ble_eq_true rfl)) dX11_key_2) hS (fun H locs hP hS => ?_)
  refine w_pc 5 rfl ?_
  refine w_pc 5 rfl ?_
  refine lv_if_eq (tgt := 27) hx hb dX11_key_5 (by decide) (fun q5 => ?_) (fun q5 => ?_)
  · replace h := (if_pos q5).symm.trans h
    refine w_pc 27 rfl ?_
    refine lv_iconst (v := 0) hx hb dX11_key_27 (by decide) ?_
    exact re_z hx hb hr hlk (Or.inl rfl) h hP hS dX11_key_28
  · replace h := (if_neg q5).symm.trans h
    refine w_pc 8 rfl ?_
    refine lv_iload_n hx hb dX11_key_8 rfl (lv_at hl 2 rfl) ?_
    refine w_pc 9 rfl ?_
    refine lv_if_lt (tgt := 27) hx hb dX11_key_9 (by decide) (fun q9 => ?_) (fun q9 => ?_)
    · replace h := (if_pos q9).symm.trans h
      refine w_pc 27 rfl ?_
      refine lv_iconst (v := 0) hx hb dX11_key_27 (by decide) ?_
      exact re_z hx hb hr hlk (Or.inl rfl) h hP hS dX11_key_28
    · replace h := (if_neg q9).symm.trans h
      refine w_pc 12 rfl ?_
      refine lv_iload_n hx hb dX11_key_12 rfl (lv_at hl 2 rfl) ?_
      refine lv_iconst (v := 1) hx hb dX11_key_13 (by decide) ?_
      refine w_pc 14 rfl ?_
      refine lv_icmp_gt (tgt := 27) hx hb dX11_key_14 (by decide) (fun q14 => ?_) (fun q14 => ?_)
      · replace h := (if_pos q14).symm.trans h
        refine w_pc 27 rfl ?_
        refine lv_iconst (v := 0) hx hb dX11_key_27 (by decide) ?_
        exact re_z hx hb hr hlk (Or.inl rfl) h hP hS dX11_key_28
      · replace h := (if_neg q14).symm.trans h
        refine w_pc 17 rfl ?_
        refine lv_iload_n hx hb dX11_key_17 rfl (lv_at hl 3 rfl) ?_
        refine w_pc 18 rfl ?_
        refine lv_if_lt (tgt := 27) hx hb dX11_key_18 (by decide) (fun q18 => ?_) (fun q18 => ?_)
        · replace h := (if_pos q18).symm.trans h
          refine w_pc 27 rfl ?_
          refine lv_iconst (v := 0) hx hb dX11_key_27 (by decide) ?_
          exact re_z hx hb hr hlk (Or.inl rfl) h hP hS dX11_key_28
        · replace h := (if_neg q18).symm.trans h
          refine w_pc 21 rfl ?_
          refine lv_iload_n hx hb dX11_key_21 rfl (lv_at hl 3 rfl) ?_
          refine lv_ldc (v := 1000000) hx hb hown (hts _ wm926) dX11_key_22 ?_
          refine w_pc 24 rfl ?_
          refine lv_icmp_le (tgt := 29) hx hb dX11_key_24 (by decide) (fun q24 => ?_) (fun q24 => ?_)
          · replace h := (if_pos q24).symm.trans h
            refine w_pc 29 rfl ?_
            refine lv_aload_n hx hb dX11_key_29 rfl (lv_at hl 0 rfl) ?_
            refine gw_get (C := RX11) (T := TX11) (N := 55) (v := .ref (ad 13)) hx hb hts hinX11 hown hK hP (by omega) lyNMM rfl 13 (by decide) w47 (fun _ h9 => h9) rfl dX11_key_30 ?_
            refine lv_iconst (v := 2) hx hb dX11_key_33 (by decide) ?_
            refine lv_iload_n hx hb dX11_key_34 rfl (lv_at hl 1 rfl) ?_
            refine lv_imul hx hb dX11_key_35 ?_
            refine lv_iload_n hx hb dX11_key_36 rfl (lv_at hl 2 rfl) ?_
            refine lv_iadd hx hb dX11_key_37 ?_
            refine w_pc 38 rfl ?_
            refine lv_iload_n hx hb dX11_key_38 rfl (lv_at hl 3 rfl) ?_
            obtain ⟨g39, h⟩ := gd_in h
            obtain ⟨M39, eM39, h⟩ := nm_some h
            refine gw_iast hx hb hK hP hD hS 0 (by omega) lyNakeys rfl g39 eM39 dX11_key_39 (fun H locs hP hS => ?_)
            refine lv_iconst (v := 1) hx hb dX11_key_40 (by decide) ?_
            exact re_z hx hb hr hlk (Or.inr rfl) h hP hS dX11_key_41
          · replace h := (if_neg q24).symm.trans h
            refine w_pc 27 rfl ?_
            refine lv_iconst (v := 0) hx hb dX11_key_27 (by decide) ?_
            exact re_z hx hb hr hlk (Or.inl rfl) h hP hS dX11_key_28
def rmX11_policy : Room := { frames := 1, cells := 0, slots := 0, locals := 21 }
def fX11_policy_68 (a1 : Int32) (a2 : Int32) (a3 : Int32) (a4 : Int32) (a5 : Int32) (M : Mm) : Option (Int32 × Mm) :=
  grd (gin a1 20) (nm (up2 M 14 a1.toNatClampNeg a2) (fun M74 => grd (gin a1 20) (nm (up2 M74 15 a1.toNatClampNeg a3) (fun M81 => grd (gin a1 20) (nm (up2 M81 16 a1.toNatClampNeg a4) (fun M89 => grd (gin a1 20) (nm (up2 M89 17 a1.toNatClampNeg a5) (fun M97 => some ((1 : Int32), M97)))))))))
def fX11_policy_46 (a1 : Int32) (a2 : Int32) (a3 : Int32) (a4 : Int32) (a5 : Int32) (s0 : Int32) (M : Mm) : Option (Int32 × Mm) :=
  bn1 (fX11_isDomain a1 M) (fun v50 => if v50 = 0 then (some ((0 : Int32), M)) else (if a2 = (-1 : Int32) then (fX11_policy_68 a1 a2 a3 a4 a5 M) else (if s0 = 0 then (some ((0 : Int32), M)) else (fX11_policy_68 a1 a2 a3 a4 a5 M))))
def fX11_policy_45 (a1 : Int32) (a2 : Int32) (a3 : Int32) (a4 : Int32) (a5 : Int32) (M : Mm) : Option (Int32 × Mm) :=
  fX11_policy_46 a1 a2 a3 a4 a5 (0 : Int32) M
def fX11_policy (a1 : Int32) (a2 : Int32) (a3 : Int32) (a4 : Int32) (a5 : Int32) (M : Mm) : Option (Int32 × Mm) :=
  if a2 < 0 then (fX11_policy_45 a1 a2 a3 a4 a5 M) else (if (2 : Int32) < a2 then (fX11_policy_45 a1 a2 a3 a4 a5 M) else (if a3 < 0 then (fX11_policy_45 a1 a2 a3 a4 a5 M) else (if (2 : Int32) < a3 then (fX11_policy_45 a1 a2 a3 a4 a5 M) else (if a4 < 0 then (fX11_policy_45 a1 a2 a3 a4 a5 M) else (if (3 : Int32) < a4 then (fX11_policy_45 a1 a2 a3 a4 a5 M) else (if a5 < 0 then (fX11_policy_45 a1 a2 a3 a4 a5 M) else (if (100 : Int32) < a5 then (fX11_policy_45 a1 a2 a3 a4 a5 M) else (fX11_policy_46 a1 a2 a3 a4 a5 (1 : Int32) M))))))))
set_option maxRecDepth 100000 in
set_option maxHeartbeats 4000000 in
theorem kX11_policy (l : Launch) (D : va_G) (ad : Nat → Nat) (cA : Nat → ClassId) (A : Nat → Prop) {a1 : Int32} {a2 : Int32} {a3 : Int32} {a4 : Int32} {a5 : Int32} {M M1 : Mm} {r : Int32} (h : fX11_policy a1 a2 a3 a4 a5 M = some (r, M1)) : Met l yX11_policy wsX11_policy rmX11_policy (gPc D (tyM cA) 40 (layN ad cA) ad A M [.ref (ad 0), .int a1, .int a2, .int a3, .int a4, .int a5]) (gQi D 40 (layN ad cA) ad A M1 r) 0 0 A := by
  refine Met.ofW (cc := cX11_policy) (maxL := 7) (ret := (some .boolean)) (by decide) rfl ?_
  intro p e s m args below meth c s₁ B hml hv
  obtain ⟨ha, hP, hK, hD, hN⟩ := hv
  have hx := B.exec
  have hb := B.bytes
  have hr := B.returns
  have hlk := B.notSynchronized
  have hts : ∀ w ∈ lw_g, w.before args s = true := fun w h => atoms_spec (ws := wsX11_policy) B.pre w (List.mem_cons_of_mem _ h)
  have hown : s.vm.findClass RX11 = some m.cls := findClass_of_methodNamed B.named
  have hS : va_S A s.heap s.heap [] := va_S.rf
  unfold fX11_policy at h
  have w50 := hts _ wm741
  have w53 := hts _ wm742
  have w56 := hts _ wm743
  have w59 := hts _ wm744
  have bk68 : ∀ (M : Mm) (ls : Array Slot) (H : Heap) (locs : List Loc), lv_has ls 7 [(0, .ref (ad 0)), (1, .int a1), (2, .int a2), (3, .int a3), (4, .int a4), (5, .int a5)] → fX11_policy_68 a1 a2 a3 a4 a5 M = some (r, M1) → va_P D vwCl (gw 40 (layN ad cA) ad M) H → va_S A s.heap H locs → W p l e (headSpec wsX11_policy rmX11_policy).room s m args below meth c H locs 0 0 (MQ below (gQi D 40 (layN ad cA) ad A M1 r) args s 0 0 A) (F0 m 68 ls []) := by
    intro M ls H locs hl h hP hS
    unfold fX11_policy_68 at h
    refine w_pc 68 rfl ?_
    refine lv_aload_n hx hb dX11_policy_68 rfl (lv_at hl 0 rfl) ?_
    refine gw_get (C := RX11) (T := TX11) (N := 55) (v := .ref (ad 14)) hx hb hts hinX11 hown hK hP (by omega) lyNMM rfl 14 (by decide) w50 (fun _ h9 => h9) rfl dX11_policy_69 ?_
    refine lv_iload_n hx hb dX11_policy_72 rfl (lv_at hl 1 rfl) ?_
    refine lv_iload_n hx hb dX11_policy_73 rfl (lv_at hl 2 rfl) ?_
    obtain ⟨g74, h⟩ := gd_in h
    obtain ⟨M74, eM74, h⟩ := nm_some h
    refine gw_iast hx hb hK hP hD hS 0 (by omega) lyNaown rfl g74 eM74 dX11_policy_74 (fun H locs hP hS => ?_)
    refine lv_aload_n hx hb dX11_policy_75 rfl (lv_at hl 0 rfl) ?_
    refine gw_get (C := RX11) (T := TX11) (N := 55) (v := .ref (ad 15)) hx hb hts hinX11 hown hK hP (by omega) lyNMM rfl 15 (by decide) w53 (fun _ h9 => h9) rfl dX11_policy_76 ?_
    refine w_pc 79 rfl ?_
    refine lv_iload_n hx hb dX11_policy_79 rfl (lv_at hl 1 rfl) ?_
    refine lv_iload_n hx hb dX11_policy_80 rfl (lv_at hl 3 rfl) ?_
    obtain ⟨g81, h⟩ := gd_in h
    obtain ⟨M81, eM81, h⟩ := nm_some h
    refine gw_iast hx hb hK hP hD hS 0 (by omega) lyNabelow rfl g81 eM81 dX11_policy_81 (fun H locs hP hS => ?_)
    refine lv_aload_n hx hb dX11_policy_82 rfl (lv_at hl 0 rfl) ?_
    refine gw_get (C := RX11) (T := TX11) (N := 55) (v := .ref (ad 16)) hx hb hts hinX11 hown hK hP (by omega) lyNMM rfl 16 (by decide) w56 (fun _ h9 => h9) rfl dX11_policy_83 ?_
    refine lv_iload_n hx hb dX11_policy_86 rfl (lv_at hl 1 rfl) ?_
    refine lv_iload hx hb dX11_policy_87 (lv_at hl 4 rfl) ?_
    obtain ⟨g89, h⟩ := gd_in h
    obtain ⟨M89, eM89, h⟩ := nm_some h
    refine gw_iast hx hb hK hP hD hS 0 (by omega) lyNastricts rfl g89 eM89 dX11_policy_89 (fun H locs hP hS => ?_)
    refine w_pc 90 rfl ?_
    refine lv_aload_n hx hb dX11_policy_90 rfl (lv_at hl 0 rfl) ?_
    refine gw_get (C := RX11) (T := TX11) (N := 55) (v := .ref (ad 17)) hx hb hts hinX11 hown hK hP (by omega) lyNMM rfl 17 (by decide) w59 (fun _ h9 => h9) rfl dX11_policy_91 ?_
    refine lv_iload_n hx hb dX11_policy_94 rfl (lv_at hl 1 rfl) ?_
    refine lv_iload hx hb dX11_policy_95 (lv_at hl 5 rfl) ?_
    obtain ⟨g97, h⟩ := gd_in h
    obtain ⟨M97, eM97, h⟩ := nm_some h
    refine gw_iast hx hb hK hP hD hS 0 (by omega) lyNaparts rfl g97 eM97 dX11_policy_97 (fun H locs hP hS => ?_)
    refine lv_iconst (v := 1) hx hb dX11_policy_98 (by decide) ?_
    exact re_z hx hb hr hlk (Or.inr rfl) h hP hS dX11_policy_99
  have bk46 : ∀ (s0 : Int32) (M : Mm) (ls : Array Slot) (H : Heap) (locs : List Loc), lv_has ls 7 [(0, .ref (ad 0)), (1, .int a1), (2, .int a2), (3, .int a3), (4, .int a4), (5, .int a5)] → fX11_policy_46 a1 a2 a3 a4 a5 s0 M = some (r, M1) → va_P D vwCl (gw 40 (layN ad cA) ad M) H → va_S A s.heap H locs → W p l e (headSpec wsX11_policy rmX11_policy).room s m args below meth c H locs 0 0 (MQ below (gQi D 40 (layN ad cA) ad A M1 r) args s 0 0 A) (F0 m 46 ls [.int s0]) := by
    intro s0 M ls H locs hl h hP hS
    unfold fX11_policy_46 at h
    refine w_pc 46 rfl ?_
    refine lv_istore (lv' := [(6, .int s0), (0, .ref (ad 0)), (1, .int a1), (2, .int a2), (3, .int a3), (4, .int a4), (5, .int a5)]) hx hb dX11_policy_46 hl (by decide) rfl (fun ls hl => ?_)
    refine lv_aload_n hx hb dX11_policy_48 rfl (lv_at hl 1 rfl) ?_
    refine lv_iload_n hx hb dX11_policy_49 rfl (lv_at hl 2 rfl) ?_
    refine w_pc 50 rfl ?_
    obtain ⟨v50, c50, h⟩ := bn1_some h
    refine cl_i (rn_v (As := [.int a1]) (rest := []) ⟨hx, hb, hml, hown, hts⟩ (kX11_isDomain l D ad cA A c50) ⟨callB_of 1 hts (gdc wm901) rfl rfl rfl (hts _ wm61) (hts _ wm898) hdX11_isDomain ⟨Nat.le_of_ble_eq_true rfl, Nat.le_of_ble_eq_true rfl⟩, hts _ wm900, hts _ wm21⟩ hK hP hD hN (by omega) lyNMM rfl rfl hl.1 rfl (lv_room (Nat.le_of_ble_eq_true rfl)) dX11_policy_50) hS (fun H locs hP hS => ?_)
    refine w_pc 53 rfl ?_
    refine w_pc 53 rfl ?_
    refine lv_if_eq (tgt := 66) hx hb dX11_policy_53 (by decide) (fun q53 => ?_) (fun q53 => ?_)
    · replace h := (if_pos q53).symm.trans h
      refine w_pc 66 rfl ?_
      refine lv_iconst (v := 0) hx hb dX11_policy_66 (by decide) ?_
      exact re_z hx hb hr hlk (Or.inl rfl) h hP hS dX11_policy_67
    · replace h := (if_neg q53).symm.trans h
      refine w_pc 56 rfl ?_
      refine lv_iload_n hx hb dX11_policy_56 rfl (lv_at hl 3 rfl) ?_
      refine lv_iconst (v := -1) hx hb dX11_policy_57 (by decide) ?_
      refine w_pc 58 rfl ?_
      refine lv_icmp_eq (tgt := 68) hx hb dX11_policy_58 (by decide) (fun q58 => ?_) (fun q58 => ?_)
      · replace h := (if_pos q58).symm.trans h
        refine w_pc 68 rfl ?_
        exact bk68 M ls _ _ (lv_sub hl [1, 2, 3, 4, 5, 6] rfl) h hP hS
      · replace h := (if_neg q58).symm.trans h
        refine w_pc 61 rfl ?_
        refine lv_iload hx hb dX11_policy_61 (lv_at hl 0 rfl) ?_
        refine w_pc 63 rfl ?_
        refine lv_if_ne (tgt := 68) hx hb dX11_policy_63 (by decide) (fun q63 => ?_) (fun q63 => ?_)
        · replace h := (if_neg q63).symm.trans h
          refine w_pc 68 rfl ?_
          exact bk68 M ls _ _ (lv_sub hl [1, 2, 3, 4, 5, 6] rfl) h hP hS
        · replace h := (if_pos q63).symm.trans h
          refine w_pc 66 rfl ?_
          refine lv_iconst (v := 0) hx hb dX11_policy_66 (by decide) ?_
          exact re_z hx hb hr hlk (Or.inl rfl) h hP hS dX11_policy_67
  have bk45 : ∀ (M : Mm) (ls : Array Slot) (H : Heap) (locs : List Loc), lv_has ls 7 [(0, .ref (ad 0)), (1, .int a1), (2, .int a2), (3, .int a3), (4, .int a4), (5, .int a5)] → fX11_policy_45 a1 a2 a3 a4 a5 M = some (r, M1) → va_P D vwCl (gw 40 (layN ad cA) ad M) H → va_S A s.heap H locs → W p l e (headSpec wsX11_policy rmX11_policy).room s m args below meth c H locs 0 0 (MQ below (gQi D 40 (layN ad cA) ad A M1 r) args s 0 0 A) (F0 m 45 ls []) := by
    intro M ls H locs hl h hP hS
    unfold fX11_policy_45 at h
    refine w_pc 45 rfl ?_
    refine lv_iconst (v := 0) hx hb dX11_policy_45 (by decide) ?_
    exact bk46 (0 : Int32) M ls _ _ (lv_sub hl [0, 1, 2, 3, 4, 5] rfl) h hP hS
  refine w_entry ha (Nat.le_of_ble_eq_true rfl) (fun ls hl => ?_)
  have hl : lv_has ls 7 [(0, .ref (ad 0)), (1, .int a1), (2, .int a2), (3, .int a3), (4, .int a4), (5, .int a5)] := hl
  refine w_pc 0 rfl ?_
  refine lv_iload_n hx hb dX11_policy_0 rfl (lv_at hl 2 rfl) ?_
  refine w_pc 1 rfl ?_
  refine lv_if_lt (tgt := 45) hx hb dX11_policy_1 (by decide) (fun q1 => ?_) (fun q1 => ?_)
  · replace h := (if_pos q1).symm.trans h
    refine w_pc 45 rfl ?_
    exact bk45 M ls _ _ (lv_sub hl [0, 1, 2, 3, 4, 5] rfl) h hP hS
  · replace h := (if_neg q1).symm.trans h
    refine w_pc 4 rfl ?_
    refine lv_iload_n hx hb dX11_policy_4 rfl (lv_at hl 2 rfl) ?_
    refine lv_iconst (v := 2) hx hb dX11_policy_5 (by decide) ?_
    refine w_pc 6 rfl ?_
    refine lv_icmp_gt (tgt := 45) hx hb dX11_policy_6 (by decide) (fun q6 => ?_) (fun q6 => ?_)
    · replace h := (if_pos q6).symm.trans h
      refine w_pc 45 rfl ?_
      exact bk45 M ls _ _ (lv_sub hl [0, 1, 2, 3, 4, 5] rfl) h hP hS
    · replace h := (if_neg q6).symm.trans h
      refine w_pc 9 rfl ?_
      refine lv_iload_n hx hb dX11_policy_9 rfl (lv_at hl 3 rfl) ?_
      refine w_pc 10 rfl ?_
      refine lv_if_lt (tgt := 45) hx hb dX11_policy_10 (by decide) (fun q10 => ?_) (fun q10 => ?_)
      · replace h := (if_pos q10).symm.trans h
        refine w_pc 45 rfl ?_
        exact bk45 M ls _ _ (lv_sub hl [0, 1, 2, 3, 4, 5] rfl) h hP hS
      · replace h := (if_neg q10).symm.trans h
        refine w_pc 13 rfl ?_
        refine lv_iload_n hx hb dX11_policy_13 rfl (lv_at hl 3 rfl) ?_
        refine lv_iconst (v := 2) hx hb dX11_policy_14 (by decide) ?_
        refine w_pc 15 rfl ?_
        refine lv_icmp_gt (tgt := 45) hx hb dX11_policy_15 (by decide) (fun q15 => ?_) (fun q15 => ?_)
        · replace h := (if_pos q15).symm.trans h
          refine w_pc 45 rfl ?_
          exact bk45 M ls _ _ (lv_sub hl [0, 1, 2, 3, 4, 5] rfl) h hP hS
        · replace h := (if_neg q15).symm.trans h
          refine w_pc 18 rfl ?_
          refine lv_iload hx hb dX11_policy_18 (lv_at hl 4 rfl) ?_
          refine w_pc 20 rfl ?_
          refine lv_if_lt (tgt := 45) hx hb dX11_policy_20 (by decide) (fun q20 => ?_) (fun q20 => ?_)
          · replace h := (if_pos q20).symm.trans h
            refine w_pc 45 rfl ?_
            exact bk45 M ls _ _ (lv_sub hl [0, 1, 2, 3, 4, 5] rfl) h hP hS
          · replace h := (if_neg q20).symm.trans h
            refine w_pc 23 rfl ?_
            refine lv_iload hx hb dX11_policy_23 (lv_at hl 4 rfl) ?_
            refine lv_iconst (v := 3) hx hb dX11_policy_25 (by decide) ?_
            refine w_pc 26 rfl ?_
            refine lv_icmp_gt (tgt := 45) hx hb dX11_policy_26 (by decide) (fun q26 => ?_) (fun q26 => ?_)
            · replace h := (if_pos q26).symm.trans h
              refine w_pc 45 rfl ?_
              exact bk45 M ls _ _ (lv_sub hl [0, 1, 2, 3, 4, 5] rfl) h hP hS
            · replace h := (if_neg q26).symm.trans h
              refine w_pc 29 rfl ?_
              refine lv_iload hx hb dX11_policy_29 (lv_at hl 5 rfl) ?_
              refine w_pc 31 rfl ?_
              refine lv_if_lt (tgt := 45) hx hb dX11_policy_31 (by decide) (fun q31 => ?_) (fun q31 => ?_)
              · replace h := (if_pos q31).symm.trans h
                refine w_pc 45 rfl ?_
                exact bk45 M ls _ _ (lv_sub hl [0, 1, 2, 3, 4, 5] rfl) h hP hS
              · replace h := (if_neg q31).symm.trans h
                refine w_pc 34 rfl ?_
                refine lv_iload hx hb dX11_policy_34 (lv_at hl 5 rfl) ?_
                refine lv_bipush (v := 100) hx hb dX11_policy_36 (by decide) ?_
                refine w_pc 38 rfl ?_
                refine lv_icmp_gt (tgt := 45) hx hb dX11_policy_38 (by decide) (fun q38 => ?_) (fun q38 => ?_)
                · replace h := (if_pos q38).symm.trans h
                  refine w_pc 45 rfl ?_
                  exact bk45 M ls _ _ (lv_sub hl [0, 1, 2, 3, 4, 5] rfl) h hP hS
                · replace h := (if_neg q38).symm.trans h
                  refine w_pc 41 rfl ?_
                  refine lv_iconst (v := 1) hx hb dX11_policy_41 (by decide) ?_
                  refine lv_goto (tgt := 46) hx hb dX11_policy_42 (by decide) ?_
                  exact bk46 (1 : Int32) M ls _ _ (lv_sub hl [0, 1, 2, 3, 4, 5] rfl) h hP hS
def rmX11_wait : Room := { frames := 0, cells := 0, slots := 0, locals := 0 }
def fX11_wait (a1 : Int32) (M : Mm) : Option Mm :=
  grd (gin (M 0 46) 12) (nm (up2 M 33 (M 0 46).toNatClampNeg a1) (fun M9 => grd (gin (M9 0 46) 12) (nm (up2 M9 34 (M9 0 46).toNatClampNeg (0 : Int32)) (fun M19 => nm (up2 M19 0 46 ((M19 0 46) + (1 : Int32))) (fun M27 => some M27)))))
set_option maxRecDepth 100000 in
set_option maxHeartbeats 4000000 in
theorem kX11_wait (l : Launch) (D : va_G) (ad : Nat → Nat) (cA : Nat → ClassId) (A : Nat → Prop) {a1 : Int32} {M M1 : Mm} (h : fX11_wait a1 M = some M1) : Met l yX11_wait wsX11_wait rmX11_wait (gPc D (tyM cA) 40 (layN ad cA) ad A M [.ref (ad 0), .int a1]) (gQv D 40 (layN ad cA) ad A M1) 0 0 A := by
  refine Met.ofW (cc := cX11_wait) (maxL := 2) (ret := none) (by decide) rfl ?_
  intro p e s m args below meth c s₁ B hml hv
  obtain ⟨ha, hP, hK, hD, hN⟩ := hv
  have hx := B.exec
  have hb := B.bytes
  have hr := B.returns
  have hlk := B.notSynchronized
  have hts : ∀ w ∈ lw_g, w.before args s = true := fun w h => atoms_spec (ws := wsX11_wait) B.pre w (List.mem_cons_of_mem _ h)
  have hown : s.vm.findClass RX11 = some m.cls := findClass_of_methodNamed B.named
  have hS : va_S A s.heap s.heap [] := va_S.rf
  unfold fX11_wait at h
  have w107 := hts _ wm774
  have w165 := hts _ wm773
  have w110 := hts _ wm775
  refine w_entry ha (Nat.le_of_ble_eq_true rfl) (fun ls hl => ?_)
  have hl : lv_has ls 2 [(0, .ref (ad 0)), (1, .int a1)] := hl
  refine w_pc 0 rfl ?_
  refine lv_aload_n hx hb dX11_wait_0 rfl (lv_at hl 0 rfl) ?_
  refine gw_get (C := RX11) (T := TX11) (N := 55) (v := .ref (ad 33)) hx hb hts hinX11 hown hK hP (by omega) lyNMM rfl 47 (by decide) w107 (fun _ h9 => h9) rfl dX11_wait_1 ?_
  refine lv_aload_n hx hb dX11_wait_4 rfl (lv_at hl 0 rfl) ?_
  refine gw_get (C := RX11) (T := TX11) (N := 55) (v := .int (M 0 46)) hx hb hts hinX11 hown hK hP (by omega) lyNMM rfl 46 (by decide) w165 (fun _ h9 => h9) rfl dX11_wait_5 ?_
  refine lv_iload_n hx hb dX11_wait_8 rfl (lv_at hl 1 rfl) ?_
  obtain ⟨g9, h⟩ := gd_in h
  obtain ⟨M9, eM9, h⟩ := nm_some h
  refine gw_iast hx hb hK hP hD hS 0 (by omega) lyNawho rfl g9 eM9 dX11_wait_9 (fun H locs hP hS => ?_)
  refine lv_aload_n hx hb dX11_wait_10 rfl (lv_at hl 0 rfl) ?_
  refine w_pc 11 rfl ?_
  refine gw_get (C := RX11) (T := TX11) (N := 55) (v := .ref (ad 34)) hx hb hts hinX11 hown hK hP (by omega) lyNMM rfl 48 (by decide) w110 (fun _ h9 => h9) rfl dX11_wait_11 ?_
  refine lv_aload_n hx hb dX11_wait_14 rfl (lv_at hl 0 rfl) ?_
  refine gw_get (C := RX11) (T := TX11) (N := 55) (v := .int (M9 0 46)) hx hb hts hinX11 hown hK hP (by omega) lyNMM rfl 46 (by decide) w165 (fun _ h9 => h9) rfl dX11_wait_15 ?_
  refine lv_iconst (v := 0) hx hb dX11_wait_18 (by decide) ?_
  obtain ⟨g19, h⟩ := gd_in h
  obtain ⟨M19, eM19, h⟩ := nm_some h
  refine gw_iast hx hb hK hP hD hS 0 (by omega) lyNaplace rfl g19 eM19 dX11_wait_19 (fun H locs hP hS => ?_)
  refine lv_aload_n hx hb dX11_wait_20 rfl (lv_at hl 0 rfl) ?_
  refine lv_dup hx hb dX11_wait_21 rfl ?_
  refine gw_get (C := RX11) (T := TX11) (N := 55) (v := .int (M19 0 46)) hx hb hts hinX11 hown hK hP (by omega) lyNMM rfl 46 (by decide) w165 (fun _ h9 => h9) rfl dX11_wait_22 ?_
  refine w_pc 25 rfl ?_
  refine lv_iconst (v := 1) hx hb dX11_wait_25 (by decide) ?_
  refine lv_iadd hx hb dX11_wait_26 ?_
  obtain ⟨M27, eM27, h⟩ := nm_some h
  refine gw_put (C := RX11) (T := TX11) (N := 55) (ty := .int) hx hb hts hinX11 tyX11 tyX11_ok nmX11 hown hK hP hD hS (by omega) lyNMM rfl 46 (by decide) w165 (fun _ h9 => h9) rfl (by decide +kernel) rfl rfl (Nat.le_of_ble_eq_true rfl) rfl eM27 dX11_wait_27 (fun H locs hP hS => ?_)
  exact re_v hx hb hr hlk h hP hS dX11_wait_30
def rmX11_back : Room := { frames := 0, cells := 0, slots := 0, locals := 0 }
def fX11_back_12 (a1 : Int32) : Nat → Int32 → Mm → Option (Int32 × Mm)
  | 0, _, _ => none
  | n + 1, x2, M => if (M 0 46) ≤ 0 then (some (x2, M)) else (grd (gin ((M 0 46) - (1 : Int32)) 12) (grd (gin ((M 0 46) - (1 : Int32)) 12) (nm (((6 : Int32) * (M 33 ((M 0 46) - (1 : Int32)).toNatClampNeg)) + (M 34 ((M 0 46) - (1 : Int32)).toNatClampNeg)) (fun v45 => if x2 = (1 : Int32) then (grd (gin v45 120) (nm ((M 8 v45.toNatClampNeg) + (1 : Int32)) (fun v76 => nm (up2 M 0 46 ((M 0 46) - (1 : Int32))) (fun M84 => (fX11_back_12 a1 n) v76 M84)))) else (grd (gin ((M 0 46) - (1 : Int32)) 12) (grd (gin ((M 0 46) - (1 : Int32)) 12) (nm (up2 M 34 ((M 0 46) - (1 : Int32)).toNatClampNeg ((M 34 ((M 0 46) - (1 : Int32)).toNatClampNeg) + (1 : Int32))) (fun M65 => some ((-1 : Int32), M65)))))))))
def fX11_back (a1 : Int32) (M : Mm) : Option (Int32 × Mm) :=
  nm (up2 M 0 46 ((M 0 46) - (1 : Int32))) (fun M9 => fX11_back_12 a1 FU a1 M9)
set_option maxRecDepth 100000 in
set_option maxHeartbeats 4000000 in
theorem kX11_back (l : Launch) (D : va_G) (ad : Nat → Nat) (cA : Nat → ClassId) (A : Nat → Prop) {a1 : Int32} {M M1 : Mm} {r : Int32} (h : fX11_back a1 M = some (r, M1)) : Met l yX11_back wsX11_back rmX11_back (gPc D (tyM cA) 40 (layN ad cA) ad A M [.ref (ad 0), .int a1]) (gQi D 40 (layN ad cA) ad A M1 r) 0 0 A := by
  refine Met.ofW (cc := cX11_back) (maxL := 4) (ret := (some .int)) (by decide) rfl ?_
  intro p e s m args below meth c s₁ B hml hv
  obtain ⟨ha, hP, hK, hD, hN⟩ := hv
  have hx := B.exec
  have hb := B.bytes
  have hr := B.returns
  have hlk := B.notSynchronized
  have hts : ∀ w ∈ lw_g, w.before args s = true := fun w h => atoms_spec (ws := wsX11_back) B.pre w (List.mem_cons_of_mem _ h)
  have hown : s.vm.findClass RX11 = some m.cls := findClass_of_methodNamed B.named
  have hS : va_S A s.heap s.heap [] := va_S.rf
  unfold fX11_back at h
  have w165 := hts _ wm773
  have w107 := hts _ wm774
  have w110 := hts _ wm775
  have w32 := hts _ wm735
  have lp12 : ∀ (n : Nat) (x2 : Int32) (M : Mm) (ls : Array Slot) (H : Heap) (locs : List Loc), lv_has ls 4 [(0, .ref (ad 0)), (2, .int x2)] → fX11_back_12 a1 n x2 M = some (r, M1) → va_P D vwCl (gw 40 (layN ad cA) ad M) H → va_S A s.heap H locs → W p l e (headSpec wsX11_back rmX11_back).room s m args below meth c H locs 0 0 (MQ below (gQi D 40 (layN ad cA) ad A M1 r) args s 0 0 A) (F0 m 12 ls []) := by
    intro n
    induction n with
    | zero =>
      intro x2 M ls H locs hl h hP hS
      rw [fX11_back_12] at h
      cases h
    | succ n ih12 =>
      intro x2 M ls H locs hl h hP hS
      rw [fX11_back_12] at h
      refine w_pc 12 rfl ?_
      refine lv_aload_n hx hb dX11_back_12 rfl (lv_at hl 0 rfl) ?_
      refine gw_get (C := RX11) (T := TX11) (N := 55) (v := .int (M 0 46)) hx hb hts hinX11 hown hK hP (by omega) lyNMM rfl 46 (by decide) w165 (fun _ h9 => h9) rfl dX11_back_13 ?_
      refine w_pc 16 rfl ?_
      refine lv_if_le (tgt := 90) hx hb dX11_back_16 (by decide) (fun q16 => ?_) (fun q16 => ?_)
      · replace h := (if_pos q16).symm.trans h
        refine w_pc 90 rfl ?_
        refine lv_iload_n hx hb dX11_back_90 rfl (lv_at hl 1 rfl) ?_
        exact re_i hx hb hr hlk h hP hS dX11_back_91
      · replace h := (if_neg q16).symm.trans h
        refine w_pc 19 rfl ?_
        refine lv_bipush (v := 6) hx hb dX11_back_19 (by decide) ?_
        refine lv_aload_n hx hb dX11_back_21 rfl (lv_at hl 0 rfl) ?_
        refine gw_get (C := RX11) (T := TX11) (N := 55) (v := .ref (ad 33)) hx hb hts hinX11 hown hK hP (by omega) lyNMM rfl 47 (by decide) w107 (fun _ h9 => h9) rfl dX11_back_22 ?_
        refine lv_aload_n hx hb dX11_back_25 rfl (lv_at hl 0 rfl) ?_
        refine gw_get (C := RX11) (T := TX11) (N := 55) (v := .int (M 0 46)) hx hb hts hinX11 hown hK hP (by omega) lyNMM rfl 46 (by decide) w165 (fun _ h9 => h9) rfl dX11_back_26 ?_
        refine lv_iconst (v := 1) hx hb dX11_back_29 (by decide) ?_
        refine lv_isub hx hb dX11_back_30 ?_
        refine w_pc 31 rfl ?_
        obtain ⟨g31, h⟩ := gd_in h
        refine gw_iald hx hb hK hP 0 (by omega) lyNawho rfl g31 dX11_back_31 ?_
        refine lv_imul hx hb dX11_back_32 ?_
        refine lv_aload_n hx hb dX11_back_33 rfl (lv_at hl 0 rfl) ?_
        refine gw_get (C := RX11) (T := TX11) (N := 55) (v := .ref (ad 34)) hx hb hts hinX11 hown hK hP (by omega) lyNMM rfl 48 (by decide) w110 (fun _ h9 => h9) rfl dX11_back_34 ?_
        refine lv_aload_n hx hb dX11_back_37 rfl (lv_at hl 0 rfl) ?_
        refine gw_get (C := RX11) (T := TX11) (N := 55) (v := .int (M 0 46)) hx hb hts hinX11 hown hK hP (by omega) lyNMM rfl 46 (by decide) w165 (fun _ h9 => h9) rfl dX11_back_38 ?_
        refine lv_iconst (v := 1) hx hb dX11_back_41 (by decide) ?_
        refine lv_isub hx hb dX11_back_42 ?_
        refine w_pc 43 rfl ?_
        obtain ⟨g43, h⟩ := gd_in h
        refine gw_iald hx hb hK hP 0 (by omega) lyNaplace rfl g43 dX11_back_43 ?_
        refine lv_iadd hx hb dX11_back_44 ?_
        obtain ⟨v45, e45, h⟩ := nm_some h
        refine w_ti e45 ?_
        refine lv_istore_n (lv' := [(3, .int v45), (0, .ref (ad 0)), (2, .int x2)]) hx hb dX11_back_45 rfl hl (by decide) rfl (fun ls hl => ?_)
        refine lv_iload_n hx hb dX11_back_46 rfl (lv_at hl 2 rfl) ?_
        refine lv_iconst (v := 1) hx hb dX11_back_47 (by decide) ?_
        refine w_pc 48 rfl ?_
        refine lv_icmp_eq (tgt := 68) hx hb dX11_back_48 (by decide) (fun q48 => ?_) (fun q48 => ?_)
        · replace h := (if_pos q48).symm.trans h
          refine w_pc 68 rfl ?_
          refine lv_aload_n hx hb dX11_back_68 rfl (lv_at hl 1 rfl) ?_
          refine gw_get (C := RX11) (T := TX11) (N := 55) (v := .ref (ad 8)) hx hb hts hinX11 hown hK hP (by omega) lyNMM rfl 8 (by decide) w32 (fun _ h9 => h9) rfl dX11_back_69 ?_
          refine lv_iload_n hx hb dX11_back_72 rfl (lv_at hl 0 rfl) ?_
          obtain ⟨g73, h⟩ := gd_in h
          refine gw_iald hx hb hK hP 0 (by omega) lyNasigns rfl g73 dX11_back_73 ?_
          refine lv_iconst (v := 1) hx hb dX11_back_74 (by decide) ?_
          refine lv_iadd hx hb dX11_back_75 ?_
          obtain ⟨v76, e76, h⟩ := nm_some h
          refine w_ti e76 ?_
          refine lv_istore_n (lv' := [(2, .int v76), (3, .int v45), (0, .ref (ad 0))]) hx hb dX11_back_76 rfl hl (by decide) rfl (fun ls hl => ?_)
          refine w_pc 77 rfl ?_
          refine lv_aload_n hx hb dX11_back_77 rfl (lv_at hl 2 rfl) ?_
          refine lv_dup hx hb dX11_back_78 rfl ?_
          refine gw_get (C := RX11) (T := TX11) (N := 55) (v := .int (M 0 46)) hx hb hts hinX11 hown hK hP (by omega) lyNMM rfl 46 (by decide) w165 (fun _ h9 => h9) rfl dX11_back_79 ?_
          refine lv_iconst (v := 1) hx hb dX11_back_82 (by decide) ?_
          refine lv_isub hx hb dX11_back_83 ?_
          obtain ⟨M84, eM84, h⟩ := nm_some h
          refine gw_put (C := RX11) (T := TX11) (N := 55) (ty := .int) hx hb hts hinX11 tyX11 tyX11_ok nmX11 hown hK hP hD hS (by omega) lyNMM rfl 46 (by decide) w165 (fun _ h9 => h9) rfl (by decide +kernel) rfl rfl (Nat.le_of_ble_eq_true rfl) rfl eM84 dX11_back_84 (fun H locs hP hS => ?_)
          refine lv_goto (tgt := 12) hx hb dX11_back_87 (by decide) ?_
          exact ih12 v76 M84 ls _ _ (lv_sub hl [2, 0] rfl) h hP hS
        · replace h := (if_neg q48).symm.trans h
          refine w_pc 51 rfl ?_
          refine lv_aload_n hx hb dX11_back_51 rfl (lv_at hl 1 rfl) ?_
          refine gw_get (C := RX11) (T := TX11) (N := 55) (v := .ref (ad 34)) hx hb hts hinX11 hown hK hP (by omega) lyNMM rfl 48 (by decide) w110 (fun _ h9 => h9) rfl dX11_back_52 ?_
          refine lv_aload_n hx hb dX11_back_55 rfl (lv_at hl 1 rfl) ?_
          refine gw_get (C := RX11) (T := TX11) (N := 55) (v := .int (M 0 46)) hx hb hts hinX11 hown hK hP (by omega) lyNMM rfl 46 (by decide) w165 (fun _ h9 => h9) rfl dX11_back_56 ?_
          refine lv_iconst (v := 1) hx hb dX11_back_59 (by decide) ?_
          refine lv_isub hx hb dX11_back_60 ?_
          refine lv_dup2_11 hx hb dX11_back_61 rfl rfl ?_
          refine w_pc 62 rfl ?_
          obtain ⟨g62, h⟩ := gd_in h
          refine gw_iald hx hb hK hP 0 (by omega) lyNaplace rfl g62 dX11_back_62 ?_
          refine lv_iconst (v := 1) hx hb dX11_back_63 (by decide) ?_
          refine lv_iadd hx hb dX11_back_64 ?_
          obtain ⟨g65, h⟩ := gd_in h
          obtain ⟨M65, eM65, h⟩ := nm_some h
          refine gw_iast hx hb hK hP hD hS 0 (by omega) lyNaplace rfl g65 eM65 dX11_back_65 (fun H locs hP hS => ?_)
          refine lv_iconst (v := -1) hx hb dX11_back_66 (by decide) ?_
          exact re_i hx hb hr hlk h hP hS dX11_back_67
  refine w_entry ha (Nat.le_of_ble_eq_true rfl) (fun ls hl => ?_)
  have hl : lv_has ls 4 [(0, .ref (ad 0)), (1, .int a1)] := hl
  refine w_pc 0 rfl ?_
  refine lv_iload_n hx hb dX11_back_0 rfl (lv_at hl 1 rfl) ?_
  refine lv_istore_n (lv' := [(2, .int a1), (0, .ref (ad 0)), (1, .int a1)]) hx hb dX11_back_1 rfl hl (by decide) rfl (fun ls hl => ?_)
  refine lv_aload_n hx hb dX11_back_2 rfl (lv_at hl 1 rfl) ?_
  refine lv_dup hx hb dX11_back_3 rfl ?_
  refine gw_get (C := RX11) (T := TX11) (N := 55) (v := .int (M 0 46)) hx hb hts hinX11 hown hK hP (by omega) lyNMM rfl 46 (by decide) w165 (fun _ h9 => h9) rfl dX11_back_4 ?_
  refine lv_iconst (v := 1) hx hb dX11_back_7 (by decide) ?_
  refine lv_isub hx hb dX11_back_8 ?_
  refine w_pc 9 rfl ?_
  obtain ⟨M9, eM9, h⟩ := nm_some h
  refine gw_put (C := RX11) (T := TX11) (N := 55) (ty := .int) hx hb hts hinX11 tyX11 tyX11_ok nmX11 hown hK hP hD hS (by omega) lyNMM rfl 46 (by decide) w165 (fun _ h9 => h9) rfl (by decide +kernel) rfl rfl (Nat.le_of_ble_eq_true rfl) rfl eM9 dX11_back_9 (fun H locs hP hS => ?_)
  exact lp12 FU a1 M9 ls _ _ (lv_sub hl [1, 0] rfl) h hP hS
def rmX11_lookup : Room := { frames := 0, cells := 0, slots := 0, locals := 0 }
def fX11_lookup (M : Mm) : Option (Int32 × Mm) :=
  nm (up2 M 0 44 ((M 0 44) + (1 : Int32))) (fun M7 => if (M7 0 44) = (11 : Int32) then (some ((6 : Int32), M7)) else (some ((0 : Int32), M7)))
set_option maxRecDepth 100000 in
set_option maxHeartbeats 4000000 in
theorem kX11_lookup (l : Launch) (D : va_G) (ad : Nat → Nat) (cA : Nat → ClassId) (A : Nat → Prop) {M M1 : Mm} {r : Int32} (h : fX11_lookup M = some (r, M1)) : Met l yX11_lookup wsX11_lookup rmX11_lookup (gPc D (tyM cA) 40 (layN ad cA) ad A M [.ref (ad 0)]) (gQi D 40 (layN ad cA) ad A M1 r) 0 0 A := by
  refine Met.ofW (cc := cX11_lookup) (maxL := 1) (ret := (some .int)) (by decide) rfl ?_
  intro p e s m args below meth c s₁ B hml hv
  obtain ⟨ha, hP, hK, hD, hN⟩ := hv
  have hx := B.exec
  have hb := B.bytes
  have hr := B.returns
  have hlk := B.notSynchronized
  have hts : ∀ w ∈ lw_g, w.before args s = true := fun w h => atoms_spec (ws := wsX11_lookup) B.pre w (List.mem_cons_of_mem _ h)
  have hown : s.vm.findClass RX11 = some m.cls := findClass_of_methodNamed B.named
  have hS : va_S A s.heap s.heap [] := va_S.rf
  unfold fX11_lookup at h
  have w151 := hts _ wm771
  refine w_entry ha (Nat.le_of_ble_eq_true rfl) (fun ls hl => ?_)
  have hl : lv_has ls 1 [(0, .ref (ad 0))] := hl
  refine w_pc 0 rfl ?_
  refine lv_aload_n hx hb dX11_lookup_0 rfl (lv_at hl 0 rfl) ?_
  refine lv_dup hx hb dX11_lookup_1 rfl ?_
  refine gw_get (C := RX11) (T := TX11) (N := 55) (v := .int (M 0 44)) hx hb hts hinX11 hown hK hP (by omega) lyNMM rfl 44 (by decide) w151 (fun _ h9 => h9) rfl dX11_lookup_2 ?_
  refine lv_iconst (v := 1) hx hb dX11_lookup_5 (by decide) ?_
  refine lv_iadd hx hb dX11_lookup_6 ?_
  obtain ⟨M7, eM7, h⟩ := nm_some h
  refine gw_put (C := RX11) (T := TX11) (N := 55) (ty := .int) hx hb hts hinX11 tyX11 tyX11_ok nmX11 hown hK hP hD hS (by omega) lyNMM rfl 44 (by decide) w151 (fun _ h9 => h9) rfl (by decide +kernel) rfl rfl (Nat.le_of_ble_eq_true rfl) rfl eM7 dX11_lookup_7 (fun H locs hP hS => ?_)
  refine lv_aload_n hx hb dX11_lookup_10 rfl (lv_at hl 0 rfl) ?_
  refine w_pc 11 rfl ?_
  refine gw_get (C := RX11) (T := TX11) (N := 55) (v := .int (M7 0 44)) hx hb hts hinX11 hown hK hP (by omega) lyNMM rfl 44 (by decide) w151 (fun _ h9 => h9) rfl dX11_lookup_11 ?_
  refine lv_bipush (v := 11) hx hb dX11_lookup_14 (by decide) ?_
  refine w_pc 16 rfl ?_
  refine lv_icmp_ne (tgt := 24) hx hb dX11_lookup_16 (by decide) (fun q16 => ?_) (fun q16 => ?_)
  · replace h := (if_neg q16).symm.trans h
    refine w_pc 24 rfl ?_
    refine lv_iconst (v := 0) hx hb dX11_lookup_24 (by decide) ?_
    exact re_i hx hb hr hlk h hP hS dX11_lookup_25
  · replace h := (if_pos q16).symm.trans h
    refine w_pc 19 rfl ?_
    refine lv_bipush (v := 6) hx hb dX11_lookup_19 (by decide) ?_
    refine lv_goto (tgt := 25) hx hb dX11_lookup_21 (by decide) ?_
    exact re_i hx hb hr hlk h hP hS dX11_lookup_25
def rmX11_sendOn : Room := { frames := 1, cells := 0, slots := 0, locals := 20 }
def fX11_sendOn_28 (a1 : Int32) (M : Mm) : Option (Int32 × Mm) :=
  grd (gin a1 20) (if (M 3 a1.toNatClampNeg) = 0 then (some ((6 : Int32), M)) else (some ((5 : Int32), M)))
def fX11_sendOn (a1 : Int32) (M : Mm) : Option (Int32 × Mm) :=
  bn2 (fX11_lookup M) (fun v1 M1 => if v1 ≤ 0 then (grd (gin a1 20) (if (M1 3 a1.toNatClampNeg) = 0 then (grd (gin a1 20) (if (M1 6 a1.toNatClampNeg) = 0 then (fX11_sendOn_28 a1 M1) else (grd (gin ((M1 0 46) - (1 : Int32)) 12) (nm (up2 M1 33 ((M1 0 46) - (1 : Int32)).toNatClampNeg a1) (fun M55 => grd (gin ((M55 0 46) - (1 : Int32)) 12) (nm (up2 M55 34 ((M55 0 46) - (1 : Int32)).toNatClampNeg (0 : Int32)) (fun M67 => some ((-1 : Int32), M67)))))))) else (fX11_sendOn_28 a1 M1))) else (some ((6 : Int32), M1)))
set_option maxRecDepth 100000 in
set_option maxHeartbeats 4000000 in
theorem kX11_sendOn (l : Launch) (D : va_G) (ad : Nat → Nat) (cA : Nat → ClassId) (A : Nat → Prop) {a1 : Int32} {M M1 : Mm} {r : Int32} (h : fX11_sendOn a1 M = some (r, M1)) : Met l yX11_sendOn wsX11_sendOn rmX11_sendOn (gPc D (tyM cA) 40 (layN ad cA) ad A M [.ref (ad 0), .int a1]) (gQi D 40 (layN ad cA) ad A M1 r) 0 0 A := by
  refine Met.ofW (cc := cX11_sendOn) (maxL := 2) (ret := (some .int)) (by decide) rfl ?_
  intro p e s m args below meth c s₁ B hml hv
  obtain ⟨ha, hP, hK, hD, hN⟩ := hv
  have hx := B.exec
  have hb := B.bytes
  have hr := B.returns
  have hlk := B.notSynchronized
  have hts : ∀ w ∈ lw_g, w.before args s = true := fun w h => atoms_spec (ws := wsX11_sendOn) B.pre w (List.mem_cons_of_mem _ h)
  have hown : s.vm.findClass RX11 = some m.cls := findClass_of_methodNamed B.named
  have hS : va_S A s.heap s.heap [] := va_S.rf
  unfold fX11_sendOn at h
  have w17 := hts _ wm730
  have w26 := hts _ wm733
  have w107 := hts _ wm774
  have w165 := hts _ wm773
  have w110 := hts _ wm775
  have bk28 : ∀ (M : Mm) (ls : Array Slot) (H : Heap) (locs : List Loc), lv_has ls 2 [(0, .ref (ad 0)), (1, .int a1)] → fX11_sendOn_28 a1 M = some (r, M1) → va_P D vwCl (gw 40 (layN ad cA) ad M) H → va_S A s.heap H locs → W p l e (headSpec wsX11_sendOn rmX11_sendOn).room s m args below meth c H locs 0 0 (MQ below (gQi D 40 (layN ad cA) ad A M1 r) args s 0 0 A) (F0 m 28 ls []) := by
    intro M ls H locs hl h hP hS
    unfold fX11_sendOn_28 at h
    refine w_pc 28 rfl ?_
    refine lv_aload_n hx hb dX11_sendOn_28 rfl (lv_at hl 0 rfl) ?_
    refine gw_get (C := RX11) (T := TX11) (N := 55) (v := .ref (ad 3)) hx hb hts hinX11 hown hK hP (by omega) lyNMM rfl 3 (by decide) w17 (fun _ h9 => h9) rfl dX11_sendOn_29 ?_
    refine lv_iload_n hx hb dX11_sendOn_32 rfl (lv_at hl 1 rfl) ?_
    obtain ⟨g33, h⟩ := gd_in h
    refine gw_zald hx hb hK hP 1 (by omega) lyNasilents rfl g33 dX11_sendOn_33 ?_
    refine w_pc 34 rfl ?_
    refine lv_if_eq (tgt := 41) hx hb dX11_sendOn_34 (by decide) (fun q34 => ?_) (fun q34 => ?_)
    · replace h := (if_pos q34).symm.trans h
      refine w_pc 41 rfl ?_
      refine lv_bipush (v := 6) hx hb dX11_sendOn_41 (by decide) ?_
      exact re_i hx hb hr hlk h hP hS dX11_sendOn_43
    · replace h := (if_neg q34).symm.trans h
      refine w_pc 37 rfl ?_
      refine lv_iconst (v := 5) hx hb dX11_sendOn_37 (by decide) ?_
      refine lv_goto (tgt := 43) hx hb dX11_sendOn_38 (by decide) ?_
      exact re_i hx hb hr hlk h hP hS dX11_sendOn_43
  refine w_entry ha (Nat.le_of_ble_eq_true rfl) (fun ls hl => ?_)
  have hl : lv_has ls 2 [(0, .ref (ad 0)), (1, .int a1)] := hl
  refine w_pc 0 rfl ?_
  refine lv_aload_n hx hb dX11_sendOn_0 rfl (lv_at hl 0 rfl) ?_
  refine w_pc 1 rfl ?_
  obtain ⟨v1, M1, c1, h⟩ := bn2_some h
  refine cl_i (rn_v (As := []) (rest := []) ⟨hx, hb, hml, hown, hts⟩ (kX11_lookup l D ad cA A c1) ⟨callB_of 0 hts (gdc wm958) rfl rfl rfl (hts _ wm61) (hts _ wm955) hdX11_lookup ⟨Nat.le_of_ble_eq_true rfl, Nat.le_of_ble_eq_true rfl⟩, hts _ wm957, hts _ wm28⟩ hK hP hD hN (by omega) lyNMM rfl rfl hl.1 rfl (lv_room (Nat.le_of_ble_eq_true rfl)) dX11_sendOn_1) hS (fun H locs hP hS => ?_)
  refine w_pc 4 rfl ?_
  refine w_pc 4 rfl ?_
  refine lv_if_le (tgt := 10) hx hb dX11_sendOn_4 (by decide) (fun q4 => ?_) (fun q4 => ?_)
  · replace h := (if_pos q4).symm.trans h
    refine w_pc 10 rfl ?_
    refine lv_aload_n hx hb dX11_sendOn_10 rfl (lv_at hl 0 rfl) ?_
    refine gw_get (C := RX11) (T := TX11) (N := 55) (v := .ref (ad 3)) hx hb hts hinX11 hown hK hP (by omega) lyNMM rfl 3 (by decide) w17 (fun _ h9 => h9) rfl dX11_sendOn_11 ?_
    refine lv_iload_n hx hb dX11_sendOn_14 rfl (lv_at hl 1 rfl) ?_
    obtain ⟨g15, h⟩ := gd_in h
    refine gw_zald hx hb hK hP 1 (by omega) lyNasilents rfl g15 dX11_sendOn_15 ?_
    refine w_pc 16 rfl ?_
    refine lv_if_ne (tgt := 28) hx hb dX11_sendOn_16 (by decide) (fun q16 => ?_) (fun q16 => ?_)
    · replace h := (if_neg q16).symm.trans h
      refine w_pc 28 rfl ?_
      exact bk28 M1 ls _ _ (lv_sub hl [0, 1] rfl) h hP hS
    · replace h := (if_pos q16).symm.trans h
      refine w_pc 19 rfl ?_
      refine lv_aload_n hx hb dX11_sendOn_19 rfl (lv_at hl 0 rfl) ?_
      refine gw_get (C := RX11) (T := TX11) (N := 55) (v := .ref (ad 6)) hx hb hts hinX11 hown hK hP (by omega) lyNMM rfl 6 (by decide) w26 (fun _ h9 => h9) rfl dX11_sendOn_20 ?_
      refine lv_iload_n hx hb dX11_sendOn_23 rfl (lv_at hl 1 rfl) ?_
      obtain ⟨g24, h⟩ := gd_in h
      refine gw_zald hx hb hK hP 1 (by omega) lyNaruled rfl g24 dX11_sendOn_24 ?_
      refine w_pc 25 rfl ?_
      refine lv_if_ne (tgt := 44) hx hb dX11_sendOn_25 (by decide) (fun q25 => ?_) (fun q25 => ?_)
      · replace h := (if_neg q25).symm.trans h
        refine w_pc 44 rfl ?_
        refine lv_aload_n hx hb dX11_sendOn_44 rfl (lv_at hl 0 rfl) ?_
        refine gw_get (C := RX11) (T := TX11) (N := 55) (v := .ref (ad 33)) hx hb hts hinX11 hown hK hP (by omega) lyNMM rfl 47 (by decide) w107 (fun _ h9 => h9) rfl dX11_sendOn_45 ?_
        refine lv_aload_n hx hb dX11_sendOn_48 rfl (lv_at hl 0 rfl) ?_
        refine gw_get (C := RX11) (T := TX11) (N := 55) (v := .int (M1 0 46)) hx hb hts hinX11 hown hK hP (by omega) lyNMM rfl 46 (by decide) w165 (fun _ h9 => h9) rfl dX11_sendOn_49 ?_
        refine lv_iconst (v := 1) hx hb dX11_sendOn_52 (by decide) ?_
        refine lv_isub hx hb dX11_sendOn_53 ?_
        refine lv_iload_n hx hb dX11_sendOn_54 rfl (lv_at hl 1 rfl) ?_
        refine w_pc 55 rfl ?_
        obtain ⟨g55, h⟩ := gd_in h
        obtain ⟨M55, eM55, h⟩ := nm_some h
        refine gw_iast hx hb hK hP hD hS 0 (by omega) lyNawho rfl g55 eM55 dX11_sendOn_55 (fun H locs hP hS => ?_)
        refine lv_aload_n hx hb dX11_sendOn_56 rfl (lv_at hl 0 rfl) ?_
        refine gw_get (C := RX11) (T := TX11) (N := 55) (v := .ref (ad 34)) hx hb hts hinX11 hown hK hP (by omega) lyNMM rfl 48 (by decide) w110 (fun _ h9 => h9) rfl dX11_sendOn_57 ?_
        refine lv_aload_n hx hb dX11_sendOn_60 rfl (lv_at hl 0 rfl) ?_
        refine gw_get (C := RX11) (T := TX11) (N := 55) (v := .int (M55 0 46)) hx hb hts hinX11 hown hK hP (by omega) lyNMM rfl 46 (by decide) w165 (fun _ h9 => h9) rfl dX11_sendOn_61 ?_
        refine lv_iconst (v := 1) hx hb dX11_sendOn_64 (by decide) ?_
        refine lv_isub hx hb dX11_sendOn_65 ?_
        refine lv_iconst (v := 0) hx hb dX11_sendOn_66 (by decide) ?_
        refine w_pc 67 rfl ?_
        obtain ⟨g67, h⟩ := gd_in h
        obtain ⟨M67, eM67, h⟩ := nm_some h
        refine gw_iast hx hb hK hP hD hS 0 (by omega) lyNaplace rfl g67 eM67 dX11_sendOn_67 (fun H locs hP hS => ?_)
        refine lv_iconst (v := -1) hx hb dX11_sendOn_68 (by decide) ?_
        exact re_i hx hb hr hlk h hP hS dX11_sendOn_69
      · replace h := (if_pos q25).symm.trans h
        refine w_pc 28 rfl ?_
        exact bk28 M1 ls _ _ (lv_sub hl [0, 1] rfl) h hP hS
  · replace h := (if_neg q4).symm.trans h
    refine w_pc 7 rfl ?_
    refine lv_bipush (v := 6) hx hb dX11_sendOn_7 (by decide) ?_
    exact re_i hx hb hr hlk h hP hS dX11_sendOn_9
def rmX11_agrees : Room := { frames := 0, cells := 0, slots := 0, locals := 0 }
def fX11_agrees (a1 : Int32) (a2 : Int32) (M : Mm) : Option Int32 :=
  if a2 = 0 then (some (1 : Int32)) else (if (ushr32 (a1 ^^^ (M 0 22)) ((32 : Int32) - a2)) = 0 then (some (1 : Int32)) else (some (0 : Int32)))
set_option maxRecDepth 100000 in
set_option maxHeartbeats 4000000 in
theorem kX11_agrees (l : Launch) (D : va_G) (ad : Nat → Nat) (cA : Nat → ClassId) (A : Nat → Prop) {a1 : Int32} {a2 : Int32} {M : Mm} {r : Int32} (h : fX11_agrees a1 a2 M = some r) : Met l yX11_agrees wsX11_agrees rmX11_agrees (gPc D (tyM cA) 40 (layN ad cA) ad A M [.ref (ad 0), .int a1, .int a2]) (gQi D 40 (layN ad cA) ad A M r) 0 0 A := by
  refine Met.ofW (cc := cX11_agrees) (maxL := 3) (ret := (some .boolean)) (by decide) rfl ?_
  intro p e s m args below meth c s₁ B hml hv
  obtain ⟨ha, hP, hK, hD, hN⟩ := hv
  have hx := B.exec
  have hb := B.bytes
  have hr := B.returns
  have hlk := B.notSynchronized
  have hts : ∀ w ∈ lw_g, w.before args s = true := fun w h => atoms_spec (ws := wsX11_agrees) B.pre w (List.mem_cons_of_mem _ h)
  have hown : s.vm.findClass RX11 = some m.cls := findClass_of_methodNamed B.named
  have hS : va_S A s.heap s.heap [] := va_S.rf
  unfold fX11_agrees at h
  have w141 := hts _ wm749
  refine w_entry ha (Nat.le_of_ble_eq_true rfl) (fun ls hl => ?_)
  have hl : lv_has ls 3 [(0, .ref (ad 0)), (1, .int a1), (2, .int a2)] := hl
  refine w_pc 0 rfl ?_
  refine lv_iload_n hx hb dX11_agrees_0 rfl (lv_at hl 2 rfl) ?_
  refine w_pc 1 rfl ?_
  refine lv_if_eq (tgt := 18) hx hb dX11_agrees_1 (by decide) (fun q1 => ?_) (fun q1 => ?_)
  · replace h := (if_pos q1).symm.trans h
    refine w_pc 18 rfl ?_
    refine lv_iconst (v := 1) hx hb dX11_agrees_18 (by decide) ?_
    refine lv_goto (tgt := 23) hx hb dX11_agrees_19 (by decide) ?_
    exact re_z hx hb hr hlk (Or.inr rfl) (sm_r h) hP hS dX11_agrees_23
  · replace h := (if_neg q1).symm.trans h
    refine w_pc 4 rfl ?_
    refine lv_iload_n hx hb dX11_agrees_4 rfl (lv_at hl 1 rfl) ?_
    refine lv_aload_n hx hb dX11_agrees_5 rfl (lv_at hl 0 rfl) ?_
    refine gw_get (C := RX11) (T := TX11) (N := 55) (v := .int (M 0 22)) hx hb hts hinX11 hown hK hP (by omega) lyNMM rfl 22 (by decide) w141 (fun _ h9 => h9) rfl dX11_agrees_6 ?_
    refine lv_ixor hx hb dX11_agrees_9 ?_
    refine lv_bipush (v := 32) hx hb dX11_agrees_10 (by decide) ?_
    refine lv_iload_n hx hb dX11_agrees_12 rfl (lv_at hl 2 rfl) ?_
    refine lv_isub hx hb dX11_agrees_13 ?_
    refine w_pc 14 rfl ?_
    refine lv_iushr (v := ushr32 (a1 ^^^ (M 0 22)) ((32 : Int32) - a2)) hx hb dX11_agrees_14 rfl ?_
    refine w_pc 15 rfl ?_
    refine lv_if_ne (tgt := 22) hx hb dX11_agrees_15 (by decide) (fun q15 => ?_) (fun q15 => ?_)
    · replace h := (if_neg q15).symm.trans h
      refine w_pc 22 rfl ?_
      refine lv_iconst (v := 0) hx hb dX11_agrees_22 (by decide) ?_
      exact re_z hx hb hr hlk (Or.inl rfl) (sm_r h) hP hS dX11_agrees_23
    · replace h := (if_pos q15).symm.trans h
      refine w_pc 18 rfl ?_
      refine lv_iconst (v := 1) hx hb dX11_agrees_18 (by decide) ?_
      refine lv_goto (tgt := 23) hx hb dX11_agrees_19 (by decide) ?_
      exact re_z hx hb hr hlk (Or.inr rfl) (sm_r h) hP hS dX11_agrees_23
def rmX11_empty : Room := { frames := 0, cells := 0, slots := 0, locals := 0 }
def fX11_empty (M : Mm) : Option (Int32 × Mm) :=
  nm (up2 M 0 45 ((M 0 45) + (1 : Int32))) (fun M7 => if (M7 0 45) = (3 : Int32) then (some ((6 : Int32), M7)) else (some ((0 : Int32), M7)))
set_option maxRecDepth 100000 in
set_option maxHeartbeats 4000000 in
theorem kX11_empty (l : Launch) (D : va_G) (ad : Nat → Nat) (cA : Nat → ClassId) (A : Nat → Prop) {M M1 : Mm} {r : Int32} (h : fX11_empty M = some (r, M1)) : Met l yX11_empty wsX11_empty rmX11_empty (gPc D (tyM cA) 40 (layN ad cA) ad A M [.ref (ad 0)]) (gQi D 40 (layN ad cA) ad A M1 r) 0 0 A := by
  refine Met.ofW (cc := cX11_empty) (maxL := 1) (ret := (some .int)) (by decide) rfl ?_
  intro p e s m args below meth c s₁ B hml hv
  obtain ⟨ha, hP, hK, hD, hN⟩ := hv
  have hx := B.exec
  have hb := B.bytes
  have hr := B.returns
  have hlk := B.notSynchronized
  have hts : ∀ w ∈ lw_g, w.before args s = true := fun w h => atoms_spec (ws := wsX11_empty) B.pre w (List.mem_cons_of_mem _ h)
  have hown : s.vm.findClass RX11 = some m.cls := findClass_of_methodNamed B.named
  have hS : va_S A s.heap s.heap [] := va_S.rf
  unfold fX11_empty at h
  have w148 := hts _ wm772
  refine w_entry ha (Nat.le_of_ble_eq_true rfl) (fun ls hl => ?_)
  have hl : lv_has ls 1 [(0, .ref (ad 0))] := hl
  refine w_pc 0 rfl ?_
  refine lv_aload_n hx hb dX11_empty_0 rfl (lv_at hl 0 rfl) ?_
  refine lv_dup hx hb dX11_empty_1 rfl ?_
  refine gw_get (C := RX11) (T := TX11) (N := 55) (v := .int (M 0 45)) hx hb hts hinX11 hown hK hP (by omega) lyNMM rfl 45 (by decide) w148 (fun _ h9 => h9) rfl dX11_empty_2 ?_
  refine lv_iconst (v := 1) hx hb dX11_empty_5 (by decide) ?_
  refine lv_iadd hx hb dX11_empty_6 ?_
  obtain ⟨M7, eM7, h⟩ := nm_some h
  refine gw_put (C := RX11) (T := TX11) (N := 55) (ty := .int) hx hb hts hinX11 tyX11 tyX11_ok nmX11 hown hK hP hD hS (by omega) lyNMM rfl 45 (by decide) w148 (fun _ h9 => h9) rfl (by decide +kernel) rfl rfl (Nat.le_of_ble_eq_true rfl) rfl eM7 dX11_empty_7 (fun H locs hP hS => ?_)
  refine lv_aload_n hx hb dX11_empty_10 rfl (lv_at hl 0 rfl) ?_
  refine w_pc 11 rfl ?_
  refine gw_get (C := RX11) (T := TX11) (N := 55) (v := .int (M7 0 45)) hx hb hts hinX11 hown hK hP (by omega) lyNMM rfl 45 (by decide) w148 (fun _ h9 => h9) rfl dX11_empty_11 ?_
  refine lv_iconst (v := 3) hx hb dX11_empty_14 (by decide) ?_
  refine w_pc 15 rfl ?_
  refine lv_icmp_ne (tgt := 23) hx hb dX11_empty_15 (by decide) (fun q15 => ?_) (fun q15 => ?_)
  · replace h := (if_neg q15).symm.trans h
    refine w_pc 23 rfl ?_
    refine lv_iconst (v := 0) hx hb dX11_empty_23 (by decide) ?_
    exact re_i hx hb hr hlk h hP hS dX11_empty_24
  · replace h := (if_pos q15).symm.trans h
    refine w_pc 18 rfl ?_
    refine lv_bipush (v := 6) hx hb dX11_empty_18 (by decide) ?_
    refine lv_goto (tgt := 24) hx hb dX11_empty_20 (by decide) ?_
    exact re_i hx hb hr hlk h hP hS dX11_empty_24
def rmX11_isAt : Room := { frames := 1, cells := 0, slots := 0, locals := 22 }
def fX11_isAt_46 (a1 : Int32) (a2 : Int32) (M : Mm) (K5 : Int32 → Int32 → Option Int32) (x4 : Int32) (s0 : Int32) : Option Int32 :=
  K5 s0 (x4 + 1)
def fX11_isAt_41 (a1 : Int32) (a2 : Int32) (M : Mm) (K5 : Int32 → Int32 → Option Int32) (x4 : Int32) : Option Int32 :=
  fX11_isAt_46 a1 a2 M K5 x4 (1 : Int32)
def fX11_isAt_5 (a1 : Int32) (a2 : Int32) (M : Mm) : Nat → Int32 → Int32 → Option Int32
  | 0, _, _ => none
  | n + 1, x3, x4 => grd (gin ((2 : Int32) * a1) 40) (if (M 5 ((2 : Int32) * a1).toNatClampNeg) ≤ x4 then (grd (gz x3) (some x3)) else (if x3 = 0 then (grd (gin (((4 : Int32) * a1) + x4) 80) (bn1 (fX11_agrees (M 4 (((4 : Int32) * a1) + x4).toNatClampNeg) a2 M) (fun v35 => if v35 = 0 then (fX11_isAt_46 a1 a2 M (fX11_isAt_5 a1 a2 M n) x4 (0 : Int32)) else (fX11_isAt_41 a1 a2 M (fX11_isAt_5 a1 a2 M n) x4)))) else (fX11_isAt_41 a1 a2 M (fX11_isAt_5 a1 a2 M n) x4)))
def fX11_isAt (a1 : Int32) (a2 : Int32) (M : Mm) : Option Int32 :=
  fX11_isAt_5 a1 a2 M FU (0 : Int32) (0 : Int32)
set_option maxRecDepth 100000 in
set_option maxHeartbeats 4000000 in
theorem kX11_isAt (l : Launch) (D : va_G) (ad : Nat → Nat) (cA : Nat → ClassId) (A : Nat → Prop) {a1 : Int32} {a2 : Int32} {M : Mm} {r : Int32} (h : fX11_isAt a1 a2 M = some r) : Met l yX11_isAt wsX11_isAt rmX11_isAt (gPc D (tyM cA) 40 (layN ad cA) ad A M [.ref (ad 0), .int a1, .int a2]) (gQi D 40 (layN ad cA) ad A M r) 0 0 A := by
  refine Met.ofW (cc := cX11_isAt) (maxL := 5) (ret := (some .boolean)) (by decide) rfl ?_
  intro p e s m args below meth c s₁ B hml hv
  obtain ⟨ha, hP, hK, hD, hN⟩ := hv
  have hx := B.exec
  have hb := B.bytes
  have hr := B.returns
  have hlk := B.notSynchronized
  have hts : ∀ w ∈ lw_g, w.before args s = true := fun w h => atoms_spec (ws := wsX11_isAt) B.pre w (List.mem_cons_of_mem _ h)
  have hown : s.vm.findClass RX11 = some m.cls := findClass_of_methodNamed B.named
  have hS : va_S A s.heap s.heap [] := va_S.rf
  unfold fX11_isAt at h
  have w23 := hts _ wm732
  have w20 := hts _ wm731
  have lp5 : ∀ (n : Nat) (x3 : Int32) (x4 : Int32) (ls : Array Slot) (H : Heap) (locs : List Loc), lv_has ls 5 [(0, .ref (ad 0)), (1, .int a1), (2, .int a2), (3, .int x3), (4, .int x4)] → fX11_isAt_5 a1 a2 M n x3 x4 = some r → va_P D vwCl (gw 40 (layN ad cA) ad M) H → va_S A s.heap H locs → W p l e (headSpec wsX11_isAt rmX11_isAt).room s m args below meth c H locs 0 0 (MQ below (gQi D 40 (layN ad cA) ad A M r) args s 0 0 A) (F0 m 5 ls []) := by
    intro n
    induction n with
    | zero =>
      intro x3 x4 ls H locs hl h hP hS
      rw [fX11_isAt_5] at h
      cases h
    | succ n ih5 =>
      have bk46 : ∀ (x4 : Int32) (s0 : Int32) (ls : Array Slot) (H : Heap) (locs : List Loc), lv_has ls 5 [(0, .ref (ad 0)), (1, .int a1), (2, .int a2), (4, .int x4)] → fX11_isAt_46 a1 a2 M (fX11_isAt_5 a1 a2 M n) x4 s0 = some r → va_P D vwCl (gw 40 (layN ad cA) ad M) H → va_S A s.heap H locs → W p l e (headSpec wsX11_isAt rmX11_isAt).room s m args below meth c H locs 0 0 (MQ below (gQi D 40 (layN ad cA) ad A M r) args s 0 0 A) (F0 m 46 ls [.int s0]) := by
        intro x4 s0 ls H locs hl h hP hS
        unfold fX11_isAt_46 at h
        refine w_pc 46 rfl ?_
        refine lv_istore_n (lv' := [(3, .int s0), (0, .ref (ad 0)), (1, .int a1), (2, .int a2), (4, .int x4)]) hx hb dX11_isAt_46 rfl hl (by decide) rfl (fun ls hl => ?_)
        refine lv_iinc (k := 4) (v := x4 + 1) (lv' := [(4, .int (x4 + 1)), (3, .int s0), (0, .ref (ad 0)), (1, .int a1), (2, .int a2)]) hx hb dX11_isAt_47 hl rfl rfl (by decide) rfl (fun ls hl => ?_)
        refine lv_goto (tgt := 5) hx hb dX11_isAt_50 (by decide) ?_
        exact ih5 s0 (x4 + 1) ls _ _ (lv_sub hl [2, 3, 4, 1, 0] rfl) h hP hS
      have bk41 : ∀ (x4 : Int32) (ls : Array Slot) (H : Heap) (locs : List Loc), lv_has ls 5 [(0, .ref (ad 0)), (1, .int a1), (2, .int a2), (4, .int x4)] → fX11_isAt_41 a1 a2 M (fX11_isAt_5 a1 a2 M n) x4 = some r → va_P D vwCl (gw 40 (layN ad cA) ad M) H → va_S A s.heap H locs → W p l e (headSpec wsX11_isAt rmX11_isAt).room s m args below meth c H locs 0 0 (MQ below (gQi D 40 (layN ad cA) ad A M r) args s 0 0 A) (F0 m 41 ls []) := by
        intro x4 ls H locs hl h hP hS
        unfold fX11_isAt_41 at h
        refine w_pc 41 rfl ?_
        refine lv_iconst (v := 1) hx hb dX11_isAt_41 (by decide) ?_
        refine lv_goto (tgt := 46) hx hb dX11_isAt_42 (by decide) ?_
        exact bk46 x4 (1 : Int32) ls _ _ (lv_sub hl [0, 1, 2, 3] rfl) h hP hS
      intro x3 x4 ls H locs hl h hP hS
      rw [fX11_isAt_5] at h
      refine w_pc 5 rfl ?_
      refine lv_iload hx hb dX11_isAt_5 (lv_at hl 4 rfl) ?_
      refine lv_aload_n hx hb dX11_isAt_7 rfl (lv_at hl 0 rfl) ?_
      refine gw_get (C := RX11) (T := TX11) (N := 55) (v := .ref (ad 5)) hx hb hts hinX11 hown hK hP (by omega) lyNMM rfl 5 (by decide) w23 (fun _ h9 => h9) rfl dX11_isAt_8 ?_
      refine lv_iconst (v := 2) hx hb dX11_isAt_11 (by decide) ?_
      refine lv_iload_n hx hb dX11_isAt_12 rfl (lv_at hl 1 rfl) ?_
      refine lv_imul hx hb dX11_isAt_13 ?_
      obtain ⟨g14, h⟩ := gd_in h
      refine gw_iald hx hb hK hP 0 (by omega) lyNahostMany rfl g14 dX11_isAt_14 ?_
      refine w_pc 15 rfl ?_
      refine w_pc 15 rfl ?_
      refine lv_icmp_ge (tgt := 53) hx hb dX11_isAt_15 (by decide) (fun q15 => ?_) (fun q15 => ?_)
      · replace h := (if_pos q15).symm.trans h
        refine w_pc 53 rfl ?_
        refine lv_iload_n hx hb dX11_isAt_53 rfl (lv_at hl 3 rfl) ?_
        obtain ⟨z54, h⟩ := gd_z h
        exact re_z hx hb hr hlk z54 (sm_r h) hP hS dX11_isAt_54
      · replace h := (if_neg q15).symm.trans h
        refine w_pc 18 rfl ?_
        refine lv_iload_n hx hb dX11_isAt_18 rfl (lv_at hl 3 rfl) ?_
        refine w_pc 19 rfl ?_
        refine lv_if_ne (tgt := 41) hx hb dX11_isAt_19 (by decide) (fun q19 => ?_) (fun q19 => ?_)
        · replace h := (if_neg q19).symm.trans h
          refine w_pc 41 rfl ?_
          exact bk41 x4 ls _ _ (lv_sub hl [0, 1, 2, 4] rfl) h hP hS
        · replace h := (if_pos q19).symm.trans h
          refine w_pc 22 rfl ?_
          refine lv_aload_n hx hb dX11_isAt_22 rfl (lv_at hl 0 rfl) ?_
          refine lv_aload_n hx hb dX11_isAt_23 rfl (lv_at hl 0 rfl) ?_
          refine gw_get (C := RX11) (T := TX11) (N := 55) (v := .ref (ad 4)) hx hb hts hinX11 hown hK hP (by omega) lyNMM rfl 4 (by decide) w20 (fun _ h9 => h9) rfl dX11_isAt_24 ?_
          refine lv_iconst (v := 4) hx hb dX11_isAt_27 (by decide) ?_
          refine lv_iload_n hx hb dX11_isAt_28 rfl (lv_at hl 1 rfl) ?_
          refine lv_imul hx hb dX11_isAt_29 ?_
          refine lv_iload hx hb dX11_isAt_30 (lv_at hl 4 rfl) ?_
          refine w_pc 32 rfl ?_
          refine lv_iadd hx hb dX11_isAt_32 ?_
          obtain ⟨g33, h⟩ := gd_in h
          refine gw_iald hx hb hK hP 0 (by omega) lyNahosts rfl g33 dX11_isAt_33 ?_
          refine lv_iload_n hx hb dX11_isAt_34 rfl (lv_at hl 2 rfl) ?_
          refine w_pc 35 rfl ?_
          obtain ⟨v35, c35, h⟩ := bn1_some h
          refine cl_i (rn_v (As := [.int (M 4 (((4 : Int32) * a1) + x4).toNatClampNeg), .int a2]) (rest := []) ⟨hx, hb, hml, hown, hts⟩ (kX11_agrees l D ad cA A c35) ⟨callB_of 2 hts (gdc wm966) rfl rfl rfl (hts _ wm61) (hts _ wm963) hdX11_agrees ⟨Nat.le_of_ble_eq_true rfl, Nat.le_of_ble_eq_true rfl⟩, hts _ wm965, hts _ wm30⟩ hK hP hD hN (by omega) lyNMM rfl rfl hl.1 rfl (lv_room (Nat.le_of_ble_eq_true rfl)) dX11_isAt_35) hS (fun H locs hP hS => ?_)
          refine w_pc 38 rfl ?_
          refine w_pc 38 rfl ?_
          refine lv_if_eq (tgt := 45) hx hb dX11_isAt_38 (by decide) (fun q38 => ?_) (fun q38 => ?_)
          · replace h := (if_pos q38).symm.trans h
            refine w_pc 45 rfl ?_
            refine lv_iconst (v := 0) hx hb dX11_isAt_45 (by decide) ?_
            exact bk46 x4 (0 : Int32) ls _ _ (lv_sub hl [0, 1, 2, 4] rfl) h hP hS
          · replace h := (if_neg q38).symm.trans h
            refine w_pc 41 rfl ?_
            exact bk41 x4 ls _ _ (lv_sub hl [0, 1, 2, 4] rfl) h hP hS
  refine w_entry ha (Nat.le_of_ble_eq_true rfl) (fun ls hl => ?_)
  have hl : lv_has ls 5 [(0, .ref (ad 0)), (1, .int a1), (2, .int a2)] := hl
  refine w_pc 0 rfl ?_
  refine lv_iconst (v := 0) hx hb dX11_isAt_0 (by decide) ?_
  refine lv_istore_n (lv' := [(3, .int (0 : Int32)), (0, .ref (ad 0)), (1, .int a1), (2, .int a2)]) hx hb dX11_isAt_1 rfl hl (by decide) rfl (fun ls hl => ?_)
  refine lv_iconst (v := 0) hx hb dX11_isAt_2 (by decide) ?_
  refine lv_istore (lv' := [(4, .int (0 : Int32)), (3, .int (0 : Int32)), (0, .ref (ad 0)), (1, .int a1), (2, .int a2)]) hx hb dX11_isAt_3 hl (by decide) rfl (fun ls hl => ?_)
  exact lp5 FU (0 : Int32) (0 : Int32) ls _ _ (lv_sub hl [2, 3, 4, 1, 0] rfl) h hP hS
def rmX11_tryExchangers : Room := { frames := 2, cells := 0, slots := 0, locals := 46 }
def fX11_tryExchangers_2 (a1 : Int32) (a2 : Int32) (M : Mm) : Nat → Int32 → Option Int32
  | 0, _ => none
  | n + 1, x3 => grd (gin (((2 : Int32) * a1) + (1 : Int32)) 40) (if (M 5 (((2 : Int32) * a1) + (1 : Int32)).toNatClampNeg) ≤ x3 then (some (0 : Int32)) else (grd (gin ((((4 : Int32) * a1) + (2 : Int32)) + x3) 80) (nm (M 4 ((((4 : Int32) * a1) + (2 : Int32)) + x3).toNatClampNeg) (fun v28 => grd (gin v28 20) (if (M 3 v28.toNatClampNeg) = 0 then (bn1 (fX11_isAt v28 a2 M) (fun v46 => if v46 = 0 then ((fX11_tryExchangers_2 a1 a2 M n) (x3 + 1)) else (some (1 : Int32)))) else (some (5 : Int32)))))))
def fX11_tryExchangers (a1 : Int32) (a2 : Int32) (M : Mm) : Option Int32 :=
  fX11_tryExchangers_2 a1 a2 M FU (0 : Int32)
set_option maxRecDepth 100000 in
set_option maxHeartbeats 4000000 in
theorem kX11_tryExchangers (l : Launch) (D : va_G) (ad : Nat → Nat) (cA : Nat → ClassId) (A : Nat → Prop) {a1 : Int32} {a2 : Int32} {M : Mm} {r : Int32} (h : fX11_tryExchangers a1 a2 M = some r) : Met l yX11_tryExchangers wsX11_tryExchangers rmX11_tryExchangers (gPc D (tyM cA) 40 (layN ad cA) ad A M [.ref (ad 0), .int a1, .int a2]) (gQi D 40 (layN ad cA) ad A M r) 0 0 A := by
  refine Met.ofW (cc := cX11_tryExchangers) (maxL := 5) (ret := (some .int)) (by decide) rfl ?_
  intro p e s m args below meth c s₁ B hml hv
  obtain ⟨ha, hP, hK, hD, hN⟩ := hv
  have hx := B.exec
  have hb := B.bytes
  have hr := B.returns
  have hlk := B.notSynchronized
  have hts : ∀ w ∈ lw_g, w.before args s = true := fun w h => atoms_spec (ws := wsX11_tryExchangers) B.pre w (List.mem_cons_of_mem _ h)
  have hown : s.vm.findClass RX11 = some m.cls := findClass_of_methodNamed B.named
  have hS : va_S A s.heap s.heap [] := va_S.rf
  unfold fX11_tryExchangers at h
  have w23 := hts _ wm732
  have w20 := hts _ wm731
  have w17 := hts _ wm730
  have lp2 : ∀ (n : Nat) (x3 : Int32) (ls : Array Slot) (H : Heap) (locs : List Loc), lv_has ls 5 [(0, .ref (ad 0)), (1, .int a1), (2, .int a2), (3, .int x3)] → fX11_tryExchangers_2 a1 a2 M n x3 = some r → va_P D vwCl (gw 40 (layN ad cA) ad M) H → va_S A s.heap H locs → W p l e (headSpec wsX11_tryExchangers rmX11_tryExchangers).room s m args below meth c H locs 0 0 (MQ below (gQi D 40 (layN ad cA) ad A M r) args s 0 0 A) (F0 m 2 ls []) := by
    intro n
    induction n with
    | zero =>
      intro x3 ls H locs hl h hP hS
      rw [fX11_tryExchangers_2] at h
      cases h
    | succ n ih2 =>
      intro x3 ls H locs hl h hP hS
      rw [fX11_tryExchangers_2] at h
      refine w_pc 2 rfl ?_
      refine lv_iload_n hx hb dX11_tryExchangers_2 rfl (lv_at hl 3 rfl) ?_
      refine lv_aload_n hx hb dX11_tryExchangers_3 rfl (lv_at hl 0 rfl) ?_
      refine gw_get (C := RX11) (T := TX11) (N := 55) (v := .ref (ad 5)) hx hb hts hinX11 hown hK hP (by omega) lyNMM rfl 5 (by decide) w23 (fun _ h9 => h9) rfl dX11_tryExchangers_4 ?_
      refine lv_iconst (v := 2) hx hb dX11_tryExchangers_7 (by decide) ?_
      refine lv_iload_n hx hb dX11_tryExchangers_8 rfl (lv_at hl 1 rfl) ?_
      refine lv_imul hx hb dX11_tryExchangers_9 ?_
      refine lv_iconst (v := 1) hx hb dX11_tryExchangers_10 (by decide) ?_
      refine w_pc 11 rfl ?_
      refine lv_iadd hx hb dX11_tryExchangers_11 ?_
      obtain ⟨g12, h⟩ := gd_in h
      refine gw_iald hx hb hK hP 0 (by omega) lyNahostMany rfl g12 dX11_tryExchangers_12 ?_
      refine w_pc 13 rfl ?_
      refine lv_icmp_ge (tgt := 60) hx hb dX11_tryExchangers_13 (by decide) (fun q13 => ?_) (fun q13 => ?_)
      · replace h := (if_pos q13).symm.trans h
        refine w_pc 60 rfl ?_
        refine lv_iconst (v := 0) hx hb dX11_tryExchangers_60 (by decide) ?_
        exact re_i hx hb hr hlk (sm_r h) hP hS dX11_tryExchangers_61
      · replace h := (if_neg q13).symm.trans h
        refine w_pc 16 rfl ?_
        refine lv_aload_n hx hb dX11_tryExchangers_16 rfl (lv_at hl 0 rfl) ?_
        refine gw_get (C := RX11) (T := TX11) (N := 55) (v := .ref (ad 4)) hx hb hts hinX11 hown hK hP (by omega) lyNMM rfl 4 (by decide) w20 (fun _ h9 => h9) rfl dX11_tryExchangers_17 ?_
        refine lv_iconst (v := 4) hx hb dX11_tryExchangers_20 (by decide) ?_
        refine lv_iload_n hx hb dX11_tryExchangers_21 rfl (lv_at hl 1 rfl) ?_
        refine lv_imul hx hb dX11_tryExchangers_22 ?_
        refine lv_iconst (v := 2) hx hb dX11_tryExchangers_23 (by decide) ?_
        refine lv_iadd hx hb dX11_tryExchangers_24 ?_
        refine w_pc 25 rfl ?_
        refine lv_iload_n hx hb dX11_tryExchangers_25 rfl (lv_at hl 3 rfl) ?_
        refine lv_iadd hx hb dX11_tryExchangers_26 ?_
        obtain ⟨g27, h⟩ := gd_in h
        refine gw_iald hx hb hK hP 0 (by omega) lyNahosts rfl g27 dX11_tryExchangers_27 ?_
        obtain ⟨v28, e28, h⟩ := nm_some h
        refine w_ti e28 ?_
        refine lv_istore (lv' := [(4, .int v28), (0, .ref (ad 0)), (1, .int a1), (2, .int a2), (3, .int x3)]) hx hb dX11_tryExchangers_28 hl (by decide) rfl (fun ls hl => ?_)
        refine lv_aload_n hx hb dX11_tryExchangers_30 rfl (lv_at hl 1 rfl) ?_
        refine gw_get (C := RX11) (T := TX11) (N := 55) (v := .ref (ad 3)) hx hb hts hinX11 hown hK hP (by omega) lyNMM rfl 3 (by decide) w17 (fun _ h9 => h9) rfl dX11_tryExchangers_31 ?_
        refine lv_iload hx hb dX11_tryExchangers_34 (lv_at hl 0 rfl) ?_
        obtain ⟨g36, h⟩ := gd_in h
        refine gw_zald hx hb hK hP 1 (by omega) lyNasilents rfl g36 dX11_tryExchangers_36 ?_
        refine w_pc 37 rfl ?_
        refine w_pc 37 rfl ?_
        refine lv_if_eq (tgt := 42) hx hb dX11_tryExchangers_37 (by decide) (fun q37 => ?_) (fun q37 => ?_)
        · replace h := (if_pos q37).symm.trans h
          refine w_pc 42 rfl ?_
          refine lv_aload_n hx hb dX11_tryExchangers_42 rfl (lv_at hl 1 rfl) ?_
          refine lv_iload hx hb dX11_tryExchangers_43 (lv_at hl 0 rfl) ?_
          refine lv_iload_n hx hb dX11_tryExchangers_45 rfl (lv_at hl 3 rfl) ?_
          refine w_pc 46 rfl ?_
          obtain ⟨v46, c46, h⟩ := bn1_some h
          refine cl_i (rn_v (As := [.int v28, .int a2]) (rest := []) ⟨hx, hb, hml, hown, hts⟩ (kX11_isAt l D ad cA A c46) ⟨callB_of 2 hts (gdc wm978) rfl rfl rfl (hts _ wm61) (hts _ wm975) hdX11_isAt ⟨Nat.le_of_ble_eq_true rfl, Nat.le_of_ble_eq_true rfl⟩, hts _ wm977, hts _ wm33⟩ hK hP hD hN (by omega) lyNMM rfl rfl hl.1 rfl (lv_room (Nat.le_of_ble_eq_true rfl)) dX11_tryExchangers_46) hS (fun H locs hP hS => ?_)
          refine w_pc 49 rfl ?_
          refine w_pc 49 rfl ?_
          refine lv_if_eq (tgt := 54) hx hb dX11_tryExchangers_49 (by decide) (fun q49 => ?_) (fun q49 => ?_)
          · replace h := (if_pos q49).symm.trans h
            refine w_pc 54 rfl ?_
            refine lv_iinc (k := 4) (v := x3 + 1) (lv' := [(3, .int (x3 + 1)), (4, .int v28), (0, .ref (ad 0)), (1, .int a1), (2, .int a2)]) hx hb dX11_tryExchangers_54 hl rfl rfl (by decide) rfl (fun ls hl => ?_)
            refine lv_goto (tgt := 2) hx hb dX11_tryExchangers_57 (by decide) ?_
            exact ih2 (x3 + 1) ls _ _ (lv_sub hl [2, 3, 4, 0] rfl) h hP hS
          · replace h := (if_neg q49).symm.trans h
            refine w_pc 52 rfl ?_
            refine lv_iconst (v := 1) hx hb dX11_tryExchangers_52 (by decide) ?_
            exact re_i hx hb hr hlk (sm_r h) hP hS dX11_tryExchangers_53
        · replace h := (if_neg q37).symm.trans h
          refine w_pc 40 rfl ?_
          refine lv_iconst (v := 5) hx hb dX11_tryExchangers_40 (by decide) ?_
          exact re_i hx hb hr hlk (sm_r h) hP hS dX11_tryExchangers_41
  refine w_entry ha (Nat.le_of_ble_eq_true rfl) (fun ls hl => ?_)
  have hl : lv_has ls 5 [(0, .ref (ad 0)), (1, .int a1), (2, .int a2)] := hl
  refine w_pc 0 rfl ?_
  refine lv_iconst (v := 0) hx hb dX11_tryExchangers_0 (by decide) ?_
  refine lv_istore_n (lv' := [(3, .int (0 : Int32)), (0, .ref (ad 0)), (1, .int a1), (2, .int a2)]) hx hb dX11_tryExchangers_1 rfl hl (by decide) rfl (fun ls hl => ?_)
  exact lp2 FU (0 : Int32) ls _ _ (lv_sub hl [1, 2, 3, 0] rfl) h hP hS
