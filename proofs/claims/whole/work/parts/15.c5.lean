def rmX10_isLinkGood : Room := { frames := 2, cells := 0, slots := 0, locals := 50 }
def fX10_isLinkGood_46 (a1 : Int32) (M : Mm) (j2 : Nat) (j3 : Nat) (x4 : Int32) (s0 : Int32) : Option Int32 :=
  if (M (2 + j3) 2) = 0 then (if x4 = 0 then (some (0 : Int32)) else (if (M (271 + j2) 1) = s0 then (bn1 (fX4_coverFor a1 x4 M) (fun v80 => if (M (271 + j2) 2) = v80 then (some (1 : Int32)) else (some (0 : Int32)))) else (some (0 : Int32)))) else (some (0 : Int32))
def fX10_isLinkGood (a1 : Int32) (M : Mm) : Option Int32 :=
  grd (gin a1 4) (grd (gin (M (263 + (3 + a1.toNatClampNeg)) 0) 20) (grd (gin (M (263 + (3 + a1.toNatClampNeg)) 1) 2) (nm (M (202 + (M (263 + (3 + a1.toNatClampNeg)) 0).toNatClampNeg) (M (263 + (3 + a1.toNatClampNeg)) 1).toNatClampNeg) (fun v35 => if a1 = 0 then (fX10_isLinkGood_46 a1 M a1.toNatClampNeg ((M (263 + (3 + a1.toNatClampNeg)) 0).toNatClampNeg) v35 (0 : Int32)) else (fX10_isLinkGood_46 a1 M a1.toNatClampNeg ((M (263 + (3 + a1.toNatClampNeg)) 0).toNatClampNeg) v35 (1 : Int32))))))
set_option maxRecDepth 100000 in
set_option maxHeartbeats 4000000 in
theorem kX10_isLinkGood (l : Launch) (D : va_G) (ad : Nat → Nat) (cA : Nat → ClassId) (A : Nat → Prop) {a1 : Int32} {M : Mm} {r : Int32} (h : fX10_isLinkGood a1 M = some r) : Met l yX10_isLinkGood wsX10_isLinkGood rmX10_isLinkGood (gPc D (tyM cA) 289 (layM ad cA) ad A M [.ref (ad 0), .int a1]) (gQi D 289 (layM ad cA) ad A M r) 0 0 A := by
  refine Met.ofW (cc := cX10_isLinkGood) (maxL := 6) (ret := (some .boolean)) (by decide) rfl ?_
  intro p e s m args below meth c s₁ B hml hv
  obtain ⟨ha, hP, hK, hD, hN⟩ := hv
  have hx := B.exec
  have hb := B.bytes
  have hr := B.returns
  have hlk := B.notSynchronized
  have hts : ∀ w ∈ lw_g, w.before args s = true := fun w h => atoms_spec (ws := wsX10_isLinkGood) B.pre w (List.mem_cons_of_mem _ h)
  have hown : s.vm.findClass RX10 = some m.cls := findClass_of_methodNamed B.named
  have hS : va_S A s.heap s.heap [] := va_S.rf
  unfold fX10_isLinkGood at h
  have w30 := hts _ wm371
  have w281 := hts _ wm299
  have w11 := hts _ wm368
  have w285 := hts _ wm269
  have w249 := hts _ wm225
  have w108 := hts _ wm169
  have w252 := hts _ wm228
  have w69 := hts _ wm158
  have w291 := hts _ wm271
  have w294 := hts _ wm273
  have bk46 : ∀ (j2 : Nat) (j3 : Nat) (x4 : Int32) (s0 : Int32) (ls : Array Slot) (H : Heap) (locs : List Loc), j2 < 4 → j3 < 20 → lv_has ls 6 [(0, .ref (ad 0)), (1, .int a1), (2, .ref (ad (271 + j2))), (3, .ref (ad (2 + j3))), (4, .int x4)] → fX10_isLinkGood_46 a1 M j2 j3 x4 s0 = some r → va_P D vwCl (gw 289 (layM ad cA) ad M) H → va_S A s.heap H locs → W p l e (headSpec wsX10_isLinkGood rmX10_isLinkGood).room s m args below meth c H locs 0 0 (MQ below (gQi D 289 (layM ad cA) ad A M r) args s 0 0 A) (F0 m 46 ls [.int s0]) := by
    intro j2 j3 x4 s0 ls H locs hbj2 hbj3 hl h hP hS
    unfold fX10_isLinkGood_46 at h
    refine w_pc 46 rfl ?_
    refine lv_istore (lv' := [(5, .int s0), (0, .ref (ad 0)), (1, .int a1), (2, .ref (ad (271 + j2))), (3, .ref (ad (2 + j3))), (4, .int x4)]) hx hb dX10_isLinkGood_46 hl (by decide) rfl (fun ls hl => ?_)
    refine lv_aload_n hx hb dX10_isLinkGood_48 rfl (lv_at hl 4 rfl) ?_
    refine gw_get (C := RX1) (T := TX1) (N := 8) (v := .int (M (2 + j3) 2)) hx hb hts hinX1 hown hK hP (by omega) (lyMDom (by omega)) rfl 2 (by decide) w69 (fun _ h9 => h9) rfl dX10_isLinkGood_49 ?_
    refine w_pc 52 rfl ?_
    refine lv_if_ne (tgt := 90) hx hb dX10_isLinkGood_52 (by decide) (fun q52 => ?_) (fun q52 => ?_)
    · replace h := (if_neg q52).symm.trans h
      refine w_pc 90 rfl ?_
      refine lv_iconst (v := 0) hx hb dX10_isLinkGood_90 (by decide) ?_
      exact re_z hx hb hr hlk (Or.inl rfl) (sm_r h) hP hS dX10_isLinkGood_91
    · replace h := (if_pos q52).symm.trans h
      refine w_pc 55 rfl ?_
      refine lv_iload hx hb dX10_isLinkGood_55 (lv_at hl 5 rfl) ?_
      refine w_pc 57 rfl ?_
      refine lv_if_eq (tgt := 90) hx hb dX10_isLinkGood_57 (by decide) (fun q57 => ?_) (fun q57 => ?_)
      · replace h := (if_pos q57).symm.trans h
        refine w_pc 90 rfl ?_
        refine lv_iconst (v := 0) hx hb dX10_isLinkGood_90 (by decide) ?_
        exact re_z hx hb hr hlk (Or.inl rfl) (sm_r h) hP hS dX10_isLinkGood_91
      · replace h := (if_neg q57).symm.trans h
        refine w_pc 60 rfl ?_
        refine lv_aload_n hx hb dX10_isLinkGood_60 rfl (lv_at hl 3 rfl) ?_
        refine gw_get (C := RX3) (T := TX3) (N := 3) (v := .int (M (271 + j2) 1)) hx hb hts hinX3 hown hK hP (by omega) (lyMLink (by omega)) rfl 1 (by decide) w291 (fun _ h9 => h9) rfl dX10_isLinkGood_61 ?_
        refine lv_iload hx hb dX10_isLinkGood_64 (lv_at hl 0 rfl) ?_
        refine w_pc 66 rfl ?_
        refine lv_icmp_ne (tgt := 90) hx hb dX10_isLinkGood_66 (by decide) (fun q66 => ?_) (fun q66 => ?_)
        · replace h := (if_neg q66).symm.trans h
          refine w_pc 90 rfl ?_
          refine lv_iconst (v := 0) hx hb dX10_isLinkGood_90 (by decide) ?_
          exact re_z hx hb hr hlk (Or.inl rfl) (sm_r h) hP hS dX10_isLinkGood_91
        · replace h := (if_pos q66).symm.trans h
          refine w_pc 69 rfl ?_
          refine lv_aload_n hx hb dX10_isLinkGood_69 rfl (lv_at hl 3 rfl) ?_
          refine gw_get (C := RX3) (T := TX3) (N := 3) (v := .int (M (271 + j2) 2)) hx hb hts hinX3 hown hK hP (by omega) (lyMLink (by omega)) rfl 2 (by decide) w294 (fun _ h9 => h9) rfl dX10_isLinkGood_70 ?_
          refine lv_aload_n hx hb dX10_isLinkGood_73 rfl (lv_at hl 1 rfl) ?_
          refine gw_get (C := RX10) (T := TX10) (N := 8) (v := .ref (ad 243)) hx hb hts hinX10 hown hK hP (by omega) lyMMA rfl 3 (by decide) w30 (fun _ h9 => h9) rfl dX10_isLinkGood_74 ?_
          refine lv_iload_n hx hb dX10_isLinkGood_77 rfl (lv_at hl 2 rfl) ?_
          refine lv_iload hx hb dX10_isLinkGood_78 (lv_at hl 5 rfl) ?_
          refine w_pc 80 rfl ?_
          obtain ⟨v80, c80, h⟩ := bn1_some h
          refine cl_i (rn_v (As := [.int a1, .int x4]) (rest := [.int (M (271 + j2) 2)]) ⟨hx, hb, hml, hown, hts⟩ (kX4_coverFor l D ad cA A c80) ⟨callB_of 2 hts (gdc wm661) rfl rfl rfl (hts _ wm55) (hts _ wm658) hdX4_coverFor ⟨Nat.le_of_ble_eq_true rfl, Nat.le_of_ble_eq_true rfl⟩, hts _ wm659, hts _ wm660⟩ hK hP hD hN (by omega) lyMMail rfl rfl hl.1 rfl (lv_room (Nat.le_of_ble_eq_true rfl)) dX10_isLinkGood_80) hS (fun H locs hP hS => ?_)
          refine w_pc 83 rfl ?_
          refine w_pc 83 rfl ?_
          refine lv_icmp_ne (tgt := 90) hx hb dX10_isLinkGood_83 (by decide) (fun q83 => ?_) (fun q83 => ?_)
          · replace h := (if_neg q83).symm.trans h
            refine w_pc 90 rfl ?_
            refine lv_iconst (v := 0) hx hb dX10_isLinkGood_90 (by decide) ?_
            exact re_z hx hb hr hlk (Or.inl rfl) (sm_r h) hP hS dX10_isLinkGood_91
          · replace h := (if_pos q83).symm.trans h
            refine w_pc 86 rfl ?_
            refine lv_iconst (v := 1) hx hb dX10_isLinkGood_86 (by decide) ?_
            refine lv_goto (tgt := 91) hx hb dX10_isLinkGood_87 (by decide) ?_
            exact re_z hx hb hr hlk (Or.inr rfl) (sm_r h) hP hS dX10_isLinkGood_91
  refine w_entry ha (Nat.le_of_ble_eq_true rfl) (fun ls hl => ?_)
  have hl : lv_has ls 6 [(0, .ref (ad 0)), (1, .int a1)] := hl
  refine w_pc 0 rfl ?_
  refine lv_aload_n hx hb dX10_isLinkGood_0 rfl (lv_at hl 0 rfl) ?_
  refine gw_get (C := RX10) (T := TX10) (N := 8) (v := .ref (ad 243)) hx hb hts hinX10 hown hK hP (by omega) lyMMA rfl 3 (by decide) w30 (fun _ h9 => h9) rfl dX10_isLinkGood_1 ?_
  refine gw_get (C := RX4) (T := TX4) (N := 13) (v := .ref (ad 270)) hx hb hts hinX4 hown hK hP (by omega) lyMMail rfl 11 (by decide) w281 (fun _ h9 => h9) rfl dX10_isLinkGood_4 ?_
  refine lv_iload_n hx hb dX10_isLinkGood_7 rfl (lv_at hl 1 rfl) ?_
  obtain ⟨g8, h⟩ := gd_in h
  have b8 := some_lo g8
  refine gw_aald hx hb hK hP 6 (by omega) lyMaLk rfl g8 dX10_isLinkGood_8 ?_
  refine lv_astore_n (lv' := [(2, .ref (ad (271 + a1.toNatClampNeg))), (0, .ref (ad 0)), (1, .int a1)]) hx hb dX10_isLinkGood_9 rfl hl (by decide) rfl (fun ls hl => ?_)
  refine lv_aload_n hx hb dX10_isLinkGood_10 rfl (lv_at hl 1 rfl) ?_
  refine w_pc 11 rfl ?_
  refine gw_get (C := RX10) (T := TX10) (N := 8) (v := .ref (ad 1)) hx hb hts hinX10 hown hK hP (by omega) lyMMA rfl 0 (by decide) w11 (fun _ h9 => h9) rfl dX10_isLinkGood_11 ?_
  refine lv_aload_n hx hb dX10_isLinkGood_14 rfl (lv_at hl 0 rfl) ?_
  refine gw_get (C := RX3) (T := TX3) (N := 3) (v := .ref (ad (263 + (3 + a1.toNatClampNeg)))) hx hb hts hinX3 hown hK hP (by omega) (lyMLink (by omega)) rfl 0 (by decide) w285 (fun _ h9 => h9) rfl dX10_isLinkGood_15 ?_
  refine gw_get (C := RX8) (T := TX8) (N := 8) (v := .int (M (263 + (3 + a1.toNatClampNeg)) 0)) hx hb hts hinX8 hown hK hP (by omega) (lyMSig (by omega)) rfl 0 (by decide) w249 (fun _ h9 => h9) rfl dX10_isLinkGood_18 ?_
  obtain ⟨g21, h⟩ := gd_in h
  have b21 := some_lo g21
  refine gw_aald hx hb hK hP 2 (by omega) lyMaDom rfl g21 dX10_isLinkGood_21 ?_
  refine lv_astore_n (lv' := [(3, .ref (ad (2 + (M (263 + (3 + a1.toNatClampNeg)) 0).toNatClampNeg))), (2, .ref (ad (271 + a1.toNatClampNeg))), (0, .ref (ad 0)), (1, .int a1)]) hx hb dX10_isLinkGood_22 rfl hl (by decide) rfl (fun ls hl => ?_)
  refine lv_aload_n hx hb dX10_isLinkGood_23 rfl (lv_at hl 0 rfl) ?_
  refine gw_get (C := RX1) (T := TX1) (N := 8) (v := .ref (ad (202 + (M (263 + (3 + a1.toNatClampNeg)) 0).toNatClampNeg))) hx hb hts hinX1 hown hK hP (by omega) (lyMDom (by omega)) rfl 6 (by decide) w108 (fun _ h9 => h9) rfl dX10_isLinkGood_24 ?_
  refine w_pc 27 rfl ?_
  refine lv_aload_n hx hb dX10_isLinkGood_27 rfl (lv_at hl 1 rfl) ?_
  refine gw_get (C := RX3) (T := TX3) (N := 3) (v := .ref (ad (263 + (3 + a1.toNatClampNeg)))) hx hb hts hinX3 hown hK hP (by omega) (lyMLink (by omega)) rfl 0 (by decide) w285 (fun _ h9 => h9) rfl dX10_isLinkGood_28 ?_
  refine gw_get (C := RX8) (T := TX8) (N := 8) (v := .int (M (263 + (3 + a1.toNatClampNeg)) 1)) hx hb hts hinX8 hown hK hP (by omega) (lyMSig (by omega)) rfl 1 (by decide) w252 (fun _ h9 => h9) rfl dX10_isLinkGood_31 ?_
  obtain ⟨g34, h⟩ := gd_in h
  refine gw_iald hx hb hK hP 0 (by omega) (lyMaKey (by omega)) rfl g34 dX10_isLinkGood_34 ?_
  obtain ⟨v35, e35, h⟩ := nm_some h
  refine w_ti e35 ?_
  refine lv_istore (lv' := [(4, .int v35), (3, .ref (ad (2 + (M (263 + (3 + a1.toNatClampNeg)) 0).toNatClampNeg))), (2, .ref (ad (271 + a1.toNatClampNeg))), (0, .ref (ad 0)), (1, .int a1)]) hx hb dX10_isLinkGood_35 hl (by decide) rfl (fun ls hl => ?_)
  refine lv_iload_n hx hb dX10_isLinkGood_37 rfl (lv_at hl 4 rfl) ?_
  refine w_pc 38 rfl ?_
  refine lv_if_ne (tgt := 45) hx hb dX10_isLinkGood_38 (by decide) (fun q38 => ?_) (fun q38 => ?_)
  · replace h := (if_neg q38).symm.trans h
    refine w_pc 45 rfl ?_
    refine lv_iconst (v := 1) hx hb dX10_isLinkGood_45 (by decide) ?_
    exact bk46 a1.toNatClampNeg ((M (263 + (3 + a1.toNatClampNeg)) 0).toNatClampNeg) v35 (1 : Int32) ls _ _ (by omega) (by omega) (lv_sub hl [3, 4, 2, 1, 0] rfl) h hP hS
  · replace h := (if_pos q38).symm.trans h
    refine w_pc 41 rfl ?_
    refine lv_iconst (v := 0) hx hb dX10_isLinkGood_41 (by decide) ?_
    refine lv_goto (tgt := 46) hx hb dX10_isLinkGood_42 (by decide) ?_
    exact bk46 a1.toNatClampNeg ((M (263 + (3 + a1.toNatClampNeg)) 0).toNatClampNeg) v35 (0 : Int32) ls _ _ (by omega) (by omega) (lv_sub hl [3, 4, 2, 1, 0] rfl) h hP hS
def rmX10_chainState : Room := { frames := 5, cells := 0, slots := 0, locals := 118 }
def fX10_chainState_14 : Nat → Int32 → Mm → Option (Int32 × Mm)
  | 0, _, _ => none
  | n + 1, x1, M => if (M 243 12) ≤ x1 then (grd (gin ((M 243 12) - (1 : Int32)) 4) (bn2 (fX10_checkSignature (3 + ((M 243 12) - (1 : Int32)).toNatClampNeg) M) (fun v64 M64 => if v64 = (1 : Int32) then (some ((1 : Int32), M64)) else (some ((2 : Int32), M64))))) else (bn1 (fX10_isLinkGood x1 M) (fun v27 => if v27 = 0 then (some ((2 : Int32), M)) else ((fX10_chainState_14 n) (x1 + 1) M)))
def fX10_chainState (M : Mm) : Option (Int32 × Mm) :=
  if (M 243 12) = 0 then (some ((0 : Int32), M)) else (fX10_chainState_14 FU (0 : Int32) M)
set_option maxRecDepth 100000 in
set_option maxHeartbeats 4000000 in
theorem kX10_chainState (l : Launch) (D : va_G) (ad : Nat → Nat) (cA : Nat → ClassId) (A : Nat → Prop) {M M1 : Mm} {r : Int32} (h : fX10_chainState M = some (r, M1)) : Met l yX10_chainState wsX10_chainState rmX10_chainState (gPc D (tyM cA) 289 (layM ad cA) ad A M [.ref (ad 0)]) (gQi D 289 (layM ad cA) ad A M1 r) 0 0 A := by
  refine Met.ofW (cc := cX10_chainState) (maxL := 2) (ret := (some .int)) (by decide) rfl ?_
  intro p e s m args below meth c s₁ B hml hv
  obtain ⟨ha, hP, hK, hD, hN⟩ := hv
  have hx := B.exec
  have hb := B.bytes
  have hr := B.returns
  have hlk := B.notSynchronized
  have hts : ∀ w ∈ lw_g, w.before args s = true := fun w h => atoms_spec (ws := wsX10_chainState) B.pre w (List.mem_cons_of_mem _ h)
  have hown : s.vm.findClass RX10 = some m.cls := findClass_of_methodNamed B.named
  have hS : va_S A s.heap s.heap [] := va_S.rf
  unfold fX10_chainState at h
  have w30 := hts _ wm371
  have w275 := hts _ wm301
  have w281 := hts _ wm299
  have w285 := hts _ wm269
  have lp14 : ∀ (n : Nat) (x1 : Int32) (M : Mm) (ls : Array Slot) (H : Heap) (locs : List Loc), lv_has ls 2 [(0, .ref (ad 0)), (1, .int x1)] → fX10_chainState_14 n x1 M = some (r, M1) → va_P D vwCl (gw 289 (layM ad cA) ad M) H → va_S A s.heap H locs → W p l e (headSpec wsX10_chainState rmX10_chainState).room s m args below meth c H locs 0 0 (MQ below (gQi D 289 (layM ad cA) ad A M1 r) args s 0 0 A) (F0 m 14 ls []) := by
    intro n
    induction n with
    | zero =>
      intro x1 M ls H locs hl h hP hS
      rw [fX10_chainState_14] at h
      cases h
    | succ n ih14 =>
      intro x1 M ls H locs hl h hP hS
      rw [fX10_chainState_14] at h
      refine w_pc 14 rfl ?_
      refine lv_iload_n hx hb dX10_chainState_14 rfl (lv_at hl 1 rfl) ?_
      refine lv_aload_n hx hb dX10_chainState_15 rfl (lv_at hl 0 rfl) ?_
      refine gw_get (C := RX10) (T := TX10) (N := 8) (v := .ref (ad 243)) hx hb hts hinX10 hown hK hP (by omega) lyMMA rfl 3 (by decide) w30 (fun _ h9 => h9) rfl dX10_chainState_16 ?_
      refine gw_get (C := RX4) (T := TX4) (N := 13) (v := .int (M 243 12)) hx hb hts hinX4 hown hK hP (by omega) lyMMail rfl 12 (by decide) w275 (fun _ h9 => h9) rfl dX10_chainState_19 ?_
      refine w_pc 22 rfl ?_
      refine lv_icmp_ge (tgt := 41) hx hb dX10_chainState_22 (by decide) (fun q22 => ?_) (fun q22 => ?_)
      · replace h := (if_pos q22).symm.trans h
        refine w_pc 41 rfl ?_
        refine lv_aload_n hx hb dX10_chainState_41 rfl (lv_at hl 0 rfl) ?_
        refine gw_get (C := RX10) (T := TX10) (N := 8) (v := .ref (ad 243)) hx hb hts hinX10 hown hK hP (by omega) lyMMA rfl 3 (by decide) w30 (fun _ h9 => h9) rfl dX10_chainState_42 ?_
        refine gw_get (C := RX4) (T := TX4) (N := 13) (v := .ref (ad 270)) hx hb hts hinX4 hown hK hP (by omega) lyMMail rfl 11 (by decide) w281 (fun _ h9 => h9) rfl dX10_chainState_45 ?_
        refine lv_aload_n hx hb dX10_chainState_48 rfl (lv_at hl 0 rfl) ?_
        refine gw_get (C := RX10) (T := TX10) (N := 8) (v := .ref (ad 243)) hx hb hts hinX10 hown hK hP (by omega) lyMMA rfl 3 (by decide) w30 (fun _ h9 => h9) rfl dX10_chainState_49 ?_
        refine gw_get (C := RX4) (T := TX4) (N := 13) (v := .int (M 243 12)) hx hb hts hinX4 hown hK hP (by omega) lyMMail rfl 12 (by decide) w275 (fun _ h9 => h9) rfl dX10_chainState_52 ?_
        refine lv_iconst (v := 1) hx hb dX10_chainState_55 (by decide) ?_
        refine w_pc 56 rfl ?_
        refine lv_isub hx hb dX10_chainState_56 ?_
        obtain ⟨g57, h⟩ := gd_in h
        have b57 := some_lo g57
        refine gw_aald hx hb hK hP 6 (by omega) lyMaLk rfl g57 dX10_chainState_57 ?_
        refine gw_get (C := RX3) (T := TX3) (N := 3) (v := .ref (ad (263 + (3 + ((M 243 12) - (1 : Int32)).toNatClampNeg)))) hx hb hts hinX3 hown hK hP (by omega) (lyMLink (by omega)) rfl 0 (by decide) w285 (fun _ h9 => h9) rfl dX10_chainState_58 ?_
        refine lv_astore_n (lv' := [(1, .ref (ad (263 + (3 + ((M 243 12) - (1 : Int32)).toNatClampNeg)))), (0, .ref (ad 0))]) hx hb dX10_chainState_61 rfl hl (by decide) rfl (fun ls hl => ?_)
        refine lv_aload_n hx hb dX10_chainState_62 rfl (lv_at hl 1 rfl) ?_
        refine lv_aload_n hx hb dX10_chainState_63 rfl (lv_at hl 0 rfl) ?_
        refine w_pc 64 rfl ?_
        obtain ⟨v64, M64, c64, h⟩ := bn2_some h
        refine cl_i (rn_v (As := [.ref (ad (263 + (3 + ((M 243 12) - (1 : Int32)).toNatClampNeg)))]) (rest := []) ⟨hx, hb, hml, hown, hts⟩ (kX10_checkSignature l D ad cA A (by omega) c64) ⟨callB_of 1 hts (gdc wm591) rfl rfl rfl (hts _ wm50) (hts _ wm588) hdX10_checkSignature ⟨Nat.le_of_ble_eq_true rfl, Nat.le_of_ble_eq_true rfl⟩, hts _ wm590, hts _ wm5⟩ hK hP hD hN (by omega) lyMMA rfl rfl hl.1 rfl (lv_room (Nat.le_of_ble_eq_true rfl)) dX10_chainState_64) hS (fun H locs hP hS => ?_)
        refine w_pc 67 rfl ?_
        refine lv_iconst (v := 1) hx hb dX10_chainState_67 (by decide) ?_
        refine w_pc 68 rfl ?_
        refine lv_icmp_ne (tgt := 75) hx hb dX10_chainState_68 (by decide) (fun q68 => ?_) (fun q68 => ?_)
        · replace h := (if_neg q68).symm.trans h
          refine w_pc 75 rfl ?_
          refine lv_iconst (v := 2) hx hb dX10_chainState_75 (by decide) ?_
          exact re_i hx hb hr hlk h hP hS dX10_chainState_76
        · replace h := (if_pos q68).symm.trans h
          refine w_pc 71 rfl ?_
          refine lv_iconst (v := 1) hx hb dX10_chainState_71 (by decide) ?_
          refine lv_goto (tgt := 76) hx hb dX10_chainState_72 (by decide) ?_
          exact re_i hx hb hr hlk h hP hS dX10_chainState_76
      · replace h := (if_neg q22).symm.trans h
        refine w_pc 25 rfl ?_
        refine lv_aload_n hx hb dX10_chainState_25 rfl (lv_at hl 0 rfl) ?_
        refine lv_iload_n hx hb dX10_chainState_26 rfl (lv_at hl 1 rfl) ?_
        refine w_pc 27 rfl ?_
        obtain ⟨v27, c27, h⟩ := bn1_some h
        refine cl_i (rn_v (As := [.int x1]) (rest := []) ⟨hx, hb, hml, hown, hts⟩ (kX10_isLinkGood l D ad cA A c27) ⟨callB_of 1 hts (gdc wm657) rfl rfl rfl (hts _ wm50) (hts _ wm654) hdX10_isLinkGood ⟨Nat.le_of_ble_eq_true rfl, Nat.le_of_ble_eq_true rfl⟩, hts _ wm656, hts _ wm14⟩ hK hP hD hN (by omega) lyMMA rfl rfl hl.1 rfl (lv_room (Nat.le_of_ble_eq_true rfl)) dX10_chainState_27) hS (fun H locs hP hS => ?_)
        refine w_pc 30 rfl ?_
        refine w_pc 30 rfl ?_
        refine lv_if_ne (tgt := 35) hx hb dX10_chainState_30 (by decide) (fun q30 => ?_) (fun q30 => ?_)
        · replace h := (if_neg q30).symm.trans h
          refine w_pc 35 rfl ?_
          refine lv_iinc (k := 1) (v := x1 + 1) (lv' := [(1, .int (x1 + 1)), (0, .ref (ad 0))]) hx hb dX10_chainState_35 hl rfl rfl (by decide) rfl (fun ls hl => ?_)
          refine lv_goto (tgt := 14) hx hb dX10_chainState_38 (by decide) ?_
          exact ih14 (x1 + 1) M ls _ _ (lv_sub hl [1, 0] rfl) h hP hS
        · replace h := (if_pos q30).symm.trans h
          refine w_pc 33 rfl ?_
          refine lv_iconst (v := 2) hx hb dX10_chainState_33 (by decide) ?_
          exact re_i hx hb hr hlk h hP hS dX10_chainState_34
  refine w_entry ha (Nat.le_of_ble_eq_true rfl) (fun ls hl => ?_)
  have hl : lv_has ls 2 [(0, .ref (ad 0))] := hl
  refine w_pc 0 rfl ?_
  refine lv_aload_n hx hb dX10_chainState_0 rfl (lv_at hl 0 rfl) ?_
  refine gw_get (C := RX10) (T := TX10) (N := 8) (v := .ref (ad 243)) hx hb hts hinX10 hown hK hP (by omega) lyMMA rfl 3 (by decide) w30 (fun _ h9 => h9) rfl dX10_chainState_1 ?_
  refine gw_get (C := RX4) (T := TX4) (N := 13) (v := .int (M 243 12)) hx hb hts hinX4 hown hK hP (by omega) lyMMail rfl 12 (by decide) w275 (fun _ h9 => h9) rfl dX10_chainState_4 ?_
  refine w_pc 7 rfl ?_
  refine lv_if_ne (tgt := 12) hx hb dX10_chainState_7 (by decide) (fun q7 => ?_) (fun q7 => ?_)
  · replace h := (if_neg q7).symm.trans h
    refine w_pc 12 rfl ?_
    refine lv_iconst (v := 0) hx hb dX10_chainState_12 (by decide) ?_
    refine lv_istore_n (lv' := [(1, .int (0 : Int32)), (0, .ref (ad 0))]) hx hb dX10_chainState_13 rfl hl (by decide) rfl (fun ls hl => ?_)
    exact lp14 FU (0 : Int32) M ls _ _ (lv_sub hl [1, 0] rfl) h hP hS
  · replace h := (if_pos q7).symm.trans h
    refine w_pc 10 rfl ?_
    refine lv_iconst (v := 0) hx hb dX10_chainState_10 (by decide) ?_
    exact re_i hx hb hr hlk h hP hS dX10_chainState_11
def rmX10_chain : Room := { frames := 6, cells := 0, slots := 0, locals := 139 }
def fX10_chain (M : Mm) : Option (Int32 × Mm) :=
  if (M 243 0) = 0 then (some ((-1 : Int32), M)) else (bn2 (fX10_chainState M) (fun v11 M11 => some (v11, M11)))
set_option maxRecDepth 100000 in
set_option maxHeartbeats 4000000 in
theorem kX10_chain (l : Launch) (D : va_G) (ad : Nat → Nat) (cA : Nat → ClassId) (A : Nat → Prop) {M M1 : Mm} {r : Int32} (h : fX10_chain M = some (r, M1)) : Met l yX10_chain wsX10_chain rmX10_chain (gPc D (tyM cA) 289 (layM ad cA) ad A M [.ref (ad 0)]) (gQi D 289 (layM ad cA) ad A M1 r) 0 0 A := by
  refine Met.ofW (cc := cX10_chain) (maxL := 1) (ret := (some .int)) (by decide) rfl ?_
  intro p e s m args below meth c s₁ B hml hv
  obtain ⟨ha, hP, hK, hD, hN⟩ := hv
  have hx := B.exec
  have hb := B.bytes
  have hr := B.returns
  have hlk := B.notSynchronized
  have hts : ∀ w ∈ lw_g, w.before args s = true := fun w h => atoms_spec (ws := wsX10_chain) B.pre w (List.mem_cons_of_mem _ h)
  have hown : s.vm.findClass RX10 = some m.cls := findClass_of_methodNamed B.named
  have hS : va_S A s.heap s.heap [] := va_S.rf
  unfold fX10_chain at h
  have w30 := hts _ wm371
  have w126 := hts _ wm282
  refine w_entry ha (Nat.le_of_ble_eq_true rfl) (fun ls hl => ?_)
  have hl : lv_has ls 1 [(0, .ref (ad 0))] := hl
  refine w_pc 0 rfl ?_
  refine lv_aload_n hx hb dX10_chain_0 rfl (lv_at hl 0 rfl) ?_
  refine gw_get (C := RX10) (T := TX10) (N := 8) (v := .ref (ad 243)) hx hb hts hinX10 hown hK hP (by omega) lyMMA rfl 3 (by decide) w30 (fun _ h9 => h9) rfl dX10_chain_1 ?_
  refine gw_get (C := RX4) (T := TX4) (N := 13) (v := .int (M 243 0)) hx hb hts hinX4 hown hK hP (by omega) lyMMail rfl 0 (by decide) w126 (fun _ h9 => h9) rfl dX10_chain_4 ?_
  refine w_pc 7 rfl ?_
  refine lv_if_eq (tgt := 17) hx hb dX10_chain_7 (by decide) (fun q7 => ?_) (fun q7 => ?_)
  · replace h := (if_pos q7).symm.trans h
    refine w_pc 17 rfl ?_
    refine lv_iconst (v := -1) hx hb dX10_chain_17 (by decide) ?_
    exact re_i hx hb hr hlk h hP hS dX10_chain_18
  · replace h := (if_neg q7).symm.trans h
    refine w_pc 10 rfl ?_
    refine lv_aload_n hx hb dX10_chain_10 rfl (lv_at hl 0 rfl) ?_
    refine w_pc 11 rfl ?_
    obtain ⟨v11, M11, c11, h⟩ := bn2_some h
    refine cl_i (rn_v (As := []) (rest := []) ⟨hx, hb, hml, hown, hts⟩ (kX10_chainState l D ad cA A c11) ⟨callB_of 0 hts (gdc wm653) rfl rfl rfl (hts _ wm50) (hts _ wm650) hdX10_chainState ⟨Nat.le_of_ble_eq_true rfl, Nat.le_of_ble_eq_true rfl⟩, hts _ wm652, hts _ wm13⟩ hK hP hD hN (by omega) lyMMA rfl rfl hl.1 rfl (lv_room (Nat.le_of_ble_eq_true rfl)) dX10_chain_11) hS (fun H locs hP hS => ?_)
    refine w_pc 14 rfl ?_
    refine lv_goto (tgt := 18) hx hb dX10_chain_14 (by decide) ?_
    exact re_i hx hb hr hlk h hP hS dX10_chain_18
def rmX4_appendLink : Room := { frames := 5, cells := 0, slots := 0, locals := 116 }
def fX4_appendLink (a1 : Int32) (a2 : Int32) (a3 : Int32) (a4 : Int32) (M : Mm) : Option (Int32 × Mm) :=
  if (M 243 12) < (4 : Int32) then (grd (gin (M 243 12) 4) (bn1 (fX8_fill (3 + (M 243 12).toNatClampNeg) a1 a2 (3 : Int32) (255 : Int32) (-1 : Int32) (-1 : Int32) M) (fun M35 => bn1 (fX4_seal (3 + (M 243 12).toNatClampNeg) a4 M35) (fun M46 => nm (up2 M46 (271 + (M 243 12).toNatClampNeg) 1 a3) (fun M52 => bn1 (fX4_coverFor (M52 243 12) a4 M52) (fun v64 => nm (up2 M52 (271 + (M 243 12).toNatClampNeg) 2 v64) (fun M67 => nm (up2 M67 243 12 ((M67 243 12) + (1 : Int32))) (fun M77 => some (((M77 243 12) - (1 : Int32)), M77))))))))) else (some ((-2 : Int32), M))
set_option maxRecDepth 100000 in
set_option maxHeartbeats 4000000 in
theorem kX4_appendLink (l : Launch) (D : va_G) (ad : Nat → Nat) (cA : Nat → ClassId) (A : Nat → Prop) {a1 : Int32} {a2 : Int32} {a3 : Int32} {a4 : Int32} {M M1 : Mm} {r : Int32} (h : fX4_appendLink a1 a2 a3 a4 M = some (r, M1)) : Met l yX4_appendLink wsX4_appendLink rmX4_appendLink (gPc D (tyM cA) 289 (layM ad cA) ad A M [.ref (ad 243), .int a1, .int a2, .int a3, .int a4]) (gQi D 289 (layM ad cA) ad A M1 r) 0 0 A := by
  refine Met.ofW (cc := cX4_appendLink) (maxL := 6) (ret := (some .int)) (by decide) rfl ?_
  intro p e s m args below meth c s₁ B hml hv
  obtain ⟨ha, hP, hK, hD, hN⟩ := hv
  have hx := B.exec
  have hb := B.bytes
  have hr := B.returns
  have hlk := B.notSynchronized
  have hts : ∀ w ∈ lw_g, w.before args s = true := fun w h => atoms_spec (ws := wsX4_appendLink) B.pre w (List.mem_cons_of_mem _ h)
  have hown : s.vm.findClass RX4 = some m.cls := findClass_of_methodNamed B.named
  have hS : va_S A s.heap s.heap [] := va_S.rf
  unfold fX4_appendLink at h
  have w68 := hts _ wm300
  have w39 := hts _ wm298
  have w86 := hts _ wm268
  have w98 := hts _ wm270
  have w105 := hts _ wm272
  refine w_entry ha (Nat.le_of_ble_eq_true rfl) (fun ls hl => ?_)
  have hl : lv_has ls 6 [(0, .ref (ad 243)), (1, .int a1), (2, .int a2), (3, .int a3), (4, .int a4)] := hl
  refine w_pc 0 rfl ?_
  refine lv_aload_n hx hb dX4_appendLink_0 rfl (lv_at hl 0 rfl) ?_
  refine gw_get (C := RX4) (T := TX4) (N := 13) (v := .int (M 243 12)) hx hb hts hinX4 hown hK hP (by omega) lyMMail rfl 12 (by decide) w68 (fun _ h9 => h9) rfl dX4_appendLink_1 ?_
  refine lv_iconst (v := 4) hx hb dX4_appendLink_4 (by decide) ?_
  refine w_pc 5 rfl ?_
  refine lv_icmp_lt (tgt := 11) hx hb dX4_appendLink_5 (by decide) (fun q5 => ?_) (fun q5 => ?_)
  · replace h := (if_pos q5).symm.trans h
    refine w_pc 11 rfl ?_
    refine lv_aload_n hx hb dX4_appendLink_11 rfl (lv_at hl 0 rfl) ?_
    refine gw_get (C := RX4) (T := TX4) (N := 13) (v := .ref (ad 270)) hx hb hts hinX4 hown hK hP (by omega) lyMMail rfl 11 (by decide) w39 (fun _ h9 => h9) rfl dX4_appendLink_12 ?_
    refine lv_aload_n hx hb dX4_appendLink_15 rfl (lv_at hl 0 rfl) ?_
    refine gw_get (C := RX4) (T := TX4) (N := 13) (v := .int (M 243 12)) hx hb hts hinX4 hown hK hP (by omega) lyMMail rfl 12 (by decide) w68 (fun _ h9 => h9) rfl dX4_appendLink_16 ?_
    obtain ⟨g19, h⟩ := gd_in h
    have b19 := some_lo g19
    refine gw_aald hx hb hK hP 6 (by omega) lyMaLk rfl g19 dX4_appendLink_19 ?_
    refine lv_astore (lv' := [(5, .ref (ad (271 + (M 243 12).toNatClampNeg))), (0, .ref (ad 243)), (1, .int a1), (2, .int a2), (3, .int a3), (4, .int a4)]) hx hb dX4_appendLink_20 hl (by decide) rfl (fun ls hl => ?_)
    refine lv_aload hx hb dX4_appendLink_22 (lv_at hl 0 rfl) ?_
    refine w_pc 24 rfl ?_
    refine gw_get (C := RX3) (T := TX3) (N := 3) (v := .ref (ad (263 + (3 + (M 243 12).toNatClampNeg)))) hx hb hts hinX3 hown hK hP (by omega) (lyMLink (by omega)) rfl 0 (by decide) w86 (fun _ h9 => h9) rfl dX4_appendLink_24 ?_
    refine lv_iload_n hx hb dX4_appendLink_27 rfl (lv_at hl 2 rfl) ?_
    refine lv_iload_n hx hb dX4_appendLink_28 rfl (lv_at hl 3 rfl) ?_
    refine lv_iconst (v := 3) hx hb dX4_appendLink_29 (by decide) ?_
    refine lv_sipush (v := 255) hx hb dX4_appendLink_30 (by decide) ?_
    refine lv_iconst (v := -1) hx hb dX4_appendLink_33 (by decide) ?_
    refine lv_iconst (v := -1) hx hb dX4_appendLink_34 (by decide) ?_
    refine w_pc 35 rfl ?_
    obtain ⟨M35, c35, h⟩ := bn1_some h
    refine cl_v (rn_v (As := [.int a1, .int a2, .int (3 : Int32), .int (255 : Int32), .int (-1 : Int32), .int (-1 : Int32)]) (rest := []) ⟨hx, hb, hml, hown, hts⟩ (kX8_fill l D ad cA A (by omega) c35) ⟨callB_of 6 hts (gdc wm538) rfl rfl rfl (hts _ wm57) (hts _ wm670) hdX8_fill ⟨Nat.le_of_ble_eq_true rfl, Nat.le_of_ble_eq_true rfl⟩, hts _ wm536, hts _ wm537⟩ hK hP hD hN (by omega) (lyMSig (by omega)) rfl rfl hl.1 rfl (lv_room (Nat.le_of_ble_eq_true rfl)) dX4_appendLink_35) hS (fun H locs hP hS => ?_)
    refine w_pc 38 rfl ?_
    refine lv_aload_n hx hb dX4_appendLink_38 rfl (lv_at hl 1 rfl) ?_
    refine lv_aload hx hb dX4_appendLink_39 (lv_at hl 0 rfl) ?_
    refine gw_get (C := RX3) (T := TX3) (N := 3) (v := .ref (ad (263 + (3 + (M 243 12).toNatClampNeg)))) hx hb hts hinX3 hown hK hP (by omega) (lyMLink (by omega)) rfl 0 (by decide) w86 (fun _ h9 => h9) rfl dX4_appendLink_41 ?_
    refine lv_iload hx hb dX4_appendLink_44 (lv_at hl 5 rfl) ?_
    refine w_pc 46 rfl ?_
    obtain ⟨M46, c46, h⟩ := bn1_some h
    refine cl_v (rn_v (As := [.ref (ad (263 + (3 + (M 243 12).toNatClampNeg))), .int a4]) (rest := []) ⟨hx, hb, hml, hown, hts⟩ (kX4_seal l D ad cA A (by omega) c46) ⟨callB_of 2 hts (gdc wm542) rfl rfl rfl (hts _ wm55) (hts _ wm671) hdX4_seal ⟨Nat.le_of_ble_eq_true rfl, Nat.le_of_ble_eq_true rfl⟩, hts _ wm540, hts _ wm541⟩ hK hP hD hN (by omega) lyMMail rfl rfl hl.1 rfl (lv_room (Nat.le_of_ble_eq_true rfl)) dX4_appendLink_46) hS (fun H locs hP hS => ?_)
    refine w_pc 49 rfl ?_
    refine lv_aload hx hb dX4_appendLink_49 (lv_at hl 0 rfl) ?_
    refine lv_iload_n hx hb dX4_appendLink_51 rfl (lv_at hl 4 rfl) ?_
    obtain ⟨M52, eM52, h⟩ := nm_some h
    refine gw_put (C := RX3) (T := TX3) (N := 3) (ty := .int) hx hb hts hinX3 tyX3 tyX3_ok nmX3 hown hK hP hD hS (by omega) (lyMLink (by omega)) rfl 1 (by decide) w98 (fun _ h9 => h9) rfl (by decide +kernel) rfl rfl (Nat.le_of_ble_eq_true rfl) rfl eM52 dX4_appendLink_52 (fun H locs hP hS => ?_)
    refine lv_aload hx hb dX4_appendLink_55 (lv_at hl 0 rfl) ?_
    refine lv_aload_n hx hb dX4_appendLink_57 rfl (lv_at hl 1 rfl) ?_
    refine lv_aload_n hx hb dX4_appendLink_58 rfl (lv_at hl 1 rfl) ?_
    refine gw_get (C := RX4) (T := TX4) (N := 13) (v := .int (M52 243 12)) hx hb hts hinX4 hown hK hP (by omega) lyMMail rfl 12 (by decide) w68 (fun _ h9 => h9) rfl dX4_appendLink_59 ?_
    refine w_pc 62 rfl ?_
    refine lv_iload hx hb dX4_appendLink_62 (lv_at hl 5 rfl) ?_
    refine w_pc 64 rfl ?_
    obtain ⟨v64, c64, h⟩ := bn1_some h
    refine cl_i (rn_v (As := [.int (M52 243 12), .int a4]) (rest := [.ref (ad (271 + (M 243 12).toNatClampNeg))]) ⟨hx, hb, hml, hown, hts⟩ (kX4_coverFor l D ad cA A c64) ⟨callB_of 2 hts (gdc wm661) rfl rfl rfl (hts _ wm55) (hts _ wm672) hdX4_coverFor ⟨Nat.le_of_ble_eq_true rfl, Nat.le_of_ble_eq_true rfl⟩, hts _ wm659, hts _ wm660⟩ hK hP hD hN (by omega) lyMMail rfl rfl hl.1 rfl (lv_room (Nat.le_of_ble_eq_true rfl)) dX4_appendLink_64) hS (fun H locs hP hS => ?_)
    refine w_pc 67 rfl ?_
    obtain ⟨M67, eM67, h⟩ := nm_some h
    refine gw_put (C := RX3) (T := TX3) (N := 3) (ty := .int) hx hb hts hinX3 tyX3 tyX3_ok nmX3 hown hK hP hD hS (by omega) (lyMLink (by omega)) rfl 2 (by decide) w105 (fun _ h9 => h9) rfl (by decide +kernel) rfl rfl (Nat.le_of_ble_eq_true rfl) rfl eM67 dX4_appendLink_67 (fun H locs hP hS => ?_)
    refine lv_aload_n hx hb dX4_appendLink_70 rfl (lv_at hl 1 rfl) ?_
    refine lv_dup hx hb dX4_appendLink_71 rfl ?_
    refine gw_get (C := RX4) (T := TX4) (N := 13) (v := .int (M67 243 12)) hx hb hts hinX4 hown hK hP (by omega) lyMMail rfl 12 (by decide) w68 (fun _ h9 => h9) rfl dX4_appendLink_72 ?_
    refine lv_iconst (v := 1) hx hb dX4_appendLink_75 (by decide) ?_
    refine lv_iadd hx hb dX4_appendLink_76 ?_
    obtain ⟨M77, eM77, h⟩ := nm_some h
    refine gw_put (C := RX4) (T := TX4) (N := 13) (ty := .int) hx hb hts hinX4 tyX4 tyX4_ok nmX4 hown hK hP hD hS (by omega) lyMMail rfl 12 (by decide) w68 (fun _ h9 => h9) rfl (by decide +kernel) rfl rfl (Nat.le_of_ble_eq_true rfl) rfl eM77 dX4_appendLink_77 (fun H locs hP hS => ?_)
    refine w_pc 80 rfl ?_
    refine lv_aload_n hx hb dX4_appendLink_80 rfl (lv_at hl 1 rfl) ?_
    refine gw_get (C := RX4) (T := TX4) (N := 13) (v := .int (M77 243 12)) hx hb hts hinX4 hown hK hP (by omega) lyMMail rfl 12 (by decide) w68 (fun _ h9 => h9) rfl dX4_appendLink_81 ?_
    refine lv_iconst (v := 1) hx hb dX4_appendLink_84 (by decide) ?_
    refine lv_isub hx hb dX4_appendLink_85 ?_
    exact re_i hx hb hr hlk h hP hS dX4_appendLink_86
  · replace h := (if_neg q5).symm.trans h
    refine w_pc 8 rfl ?_
    refine lv_bipush (v := -2) hx hb dX4_appendLink_8 (by decide) ?_
    exact re_i hx hb hr hlk h hP hS dX4_appendLink_10
def rmX10_link : Room := { frames := 6, cells := 0, slots := 0, locals := 141 }
def fX10_link (a1 : Int32) (a2 : Int32) (M : Mm) : Option (Int32 × Mm) :=
  if (M 243 0) = 0 then (some ((-1 : Int32), M)) else (bn1 (fX10_hasKey a1 a2 M) (fun v13 => if v13 = 0 then (some ((-1 : Int32), M)) else (bn2 (fX10_chainState M) (fun v22 M22 => if v22 = (2 : Int32) then (some ((-1 : Int32), M22)) else (grd (gin a1 20) (grd (gin a2 2) (bn2 (fX4_appendLink a1 a2 v22 (M22 (202 + a1.toNatClampNeg) a2.toNatClampNeg) M22) (fun v51 M51 => some (v51, M51)))))))))
set_option maxRecDepth 100000 in
set_option maxHeartbeats 4000000 in
theorem kX10_link (l : Launch) (D : va_G) (ad : Nat → Nat) (cA : Nat → ClassId) (A : Nat → Prop) {a1 : Int32} {a2 : Int32} {M M1 : Mm} {r : Int32} (h : fX10_link a1 a2 M = some (r, M1)) : Met l yX10_link wsX10_link rmX10_link (gPc D (tyM cA) 289 (layM ad cA) ad A M [.ref (ad 0), .int a1, .int a2]) (gQi D 289 (layM ad cA) ad A M1 r) 0 0 A := by
  refine Met.ofW (cc := cX10_link) (maxL := 4) (ret := (some .int)) (by decide) rfl ?_
  intro p e s m args below meth c s₁ B hml hv
  obtain ⟨ha, hP, hK, hD, hN⟩ := hv
  have hx := B.exec
  have hb := B.bytes
  have hr := B.returns
  have hlk := B.notSynchronized
  have hts : ∀ w ∈ lw_g, w.before args s = true := fun w h => atoms_spec (ws := wsX10_link) B.pre w (List.mem_cons_of_mem _ h)
  have hown : s.vm.findClass RX10 = some m.cls := findClass_of_methodNamed B.named
  have hS : va_S A s.heap s.heap [] := va_S.rf
  unfold fX10_link at h
  have w30 := hts _ wm371
  have w126 := hts _ wm282
  have w11 := hts _ wm368
  have w108 := hts _ wm169
  refine w_entry ha (Nat.le_of_ble_eq_true rfl) (fun ls hl => ?_)
  have hl : lv_has ls 4 [(0, .ref (ad 0)), (1, .int a1), (2, .int a2)] := hl
  refine w_pc 0 rfl ?_
  refine lv_aload_n hx hb dX10_link_0 rfl (lv_at hl 0 rfl) ?_
  refine gw_get (C := RX10) (T := TX10) (N := 8) (v := .ref (ad 243)) hx hb hts hinX10 hown hK hP (by omega) lyMMA rfl 3 (by decide) w30 (fun _ h9 => h9) rfl dX10_link_1 ?_
  refine gw_get (C := RX4) (T := TX4) (N := 13) (v := .int (M 243 0)) hx hb hts hinX4 hown hK hP (by omega) lyMMail rfl 0 (by decide) w126 (fun _ h9 => h9) rfl dX10_link_4 ?_
  refine w_pc 7 rfl ?_
  refine lv_if_eq (tgt := 19) hx hb dX10_link_7 (by decide) (fun q7 => ?_) (fun q7 => ?_)
  · replace h := (if_pos q7).symm.trans h
    refine w_pc 19 rfl ?_
    refine lv_iconst (v := -1) hx hb dX10_link_19 (by decide) ?_
    exact re_i hx hb hr hlk h hP hS dX10_link_20
  · replace h := (if_neg q7).symm.trans h
    refine w_pc 10 rfl ?_
    refine lv_aload_n hx hb dX10_link_10 rfl (lv_at hl 0 rfl) ?_
    refine lv_iload_n hx hb dX10_link_11 rfl (lv_at hl 1 rfl) ?_
    refine lv_iload_n hx hb dX10_link_12 rfl (lv_at hl 2 rfl) ?_
    refine w_pc 13 rfl ?_
    obtain ⟨v13, c13, h⟩ := bn1_some h
    refine cl_i (rn_v (As := [.int a1, .int a2]) (rest := []) ⟨hx, hb, hml, hown, hts⟩ (kX10_hasKey l D ad cA A c13) ⟨callB_of 2 hts (gdc wm529) rfl rfl rfl (hts _ wm50) (hts _ wm526) hdX10_hasKey ⟨Nat.le_of_ble_eq_true rfl, Nat.le_of_ble_eq_true rfl⟩, hts _ wm528, hts _ wm3⟩ hK hP hD hN (by omega) lyMMA rfl rfl hl.1 rfl (lv_room (Nat.le_of_ble_eq_true rfl)) dX10_link_13) hS (fun H locs hP hS => ?_)
    refine w_pc 16 rfl ?_
    refine w_pc 16 rfl ?_
    refine lv_if_ne (tgt := 21) hx hb dX10_link_16 (by decide) (fun q16 => ?_) (fun q16 => ?_)
    · replace h := (if_neg q16).symm.trans h
      refine w_pc 21 rfl ?_
      refine lv_aload_n hx hb dX10_link_21 rfl (lv_at hl 0 rfl) ?_
      refine w_pc 22 rfl ?_
      obtain ⟨v22, M22, c22, h⟩ := bn2_some h
      refine cl_i (rn_v (As := []) (rest := []) ⟨hx, hb, hml, hown, hts⟩ (kX10_chainState l D ad cA A c22) ⟨callB_of 0 hts (gdc wm653) rfl rfl rfl (hts _ wm50) (hts _ wm650) hdX10_chainState ⟨Nat.le_of_ble_eq_true rfl, Nat.le_of_ble_eq_true rfl⟩, hts _ wm652, hts _ wm13⟩ hK hP hD hN (by omega) lyMMA rfl rfl hl.1 rfl (lv_room (Nat.le_of_ble_eq_true rfl)) dX10_link_22) hS (fun H locs hP hS => ?_)
      refine w_pc 25 rfl ?_
      refine lv_istore_n (lv' := [(3, .int v22), (0, .ref (ad 0)), (1, .int a1), (2, .int a2)]) hx hb dX10_link_25 rfl hl (by decide) rfl (fun ls hl => ?_)
      refine lv_iload_n hx hb dX10_link_26 rfl (lv_at hl 0 rfl) ?_
      refine lv_iconst (v := 2) hx hb dX10_link_27 (by decide) ?_
      refine w_pc 28 rfl ?_
      refine lv_icmp_ne (tgt := 33) hx hb dX10_link_28 (by decide) (fun q28 => ?_) (fun q28 => ?_)
      · replace h := (if_neg q28).symm.trans h
        refine w_pc 33 rfl ?_
        refine lv_aload_n hx hb dX10_link_33 rfl (lv_at hl 1 rfl) ?_
        refine gw_get (C := RX10) (T := TX10) (N := 8) (v := .ref (ad 243)) hx hb hts hinX10 hown hK hP (by omega) lyMMA rfl 3 (by decide) w30 (fun _ h9 => h9) rfl dX10_link_34 ?_
        refine lv_iload_n hx hb dX10_link_37 rfl (lv_at hl 2 rfl) ?_
        refine lv_iload_n hx hb dX10_link_38 rfl (lv_at hl 3 rfl) ?_
        refine lv_iload_n hx hb dX10_link_39 rfl (lv_at hl 0 rfl) ?_
        refine lv_aload_n hx hb dX10_link_40 rfl (lv_at hl 1 rfl) ?_
        refine gw_get (C := RX10) (T := TX10) (N := 8) (v := .ref (ad 1)) hx hb hts hinX10 hown hK hP (by omega) lyMMA rfl 0 (by decide) w11 (fun _ h9 => h9) rfl dX10_link_41 ?_
        refine w_pc 44 rfl ?_
        refine lv_iload_n hx hb dX10_link_44 rfl (lv_at hl 2 rfl) ?_
        obtain ⟨g45, h⟩ := gd_in h
        have b45 := some_lo g45
        refine gw_aald hx hb hK hP 2 (by omega) lyMaDom rfl g45 dX10_link_45 ?_
        refine gw_get (C := RX1) (T := TX1) (N := 8) (v := .ref (ad (202 + a1.toNatClampNeg))) hx hb hts hinX1 hown hK hP (by omega) (lyMDom (by omega)) rfl 6 (by decide) w108 (fun _ h9 => h9) rfl dX10_link_46 ?_
        refine lv_iload_n hx hb dX10_link_49 rfl (lv_at hl 3 rfl) ?_
        obtain ⟨g50, h⟩ := gd_in h
        refine gw_iald hx hb hK hP 0 (by omega) (lyMaKey (by omega)) rfl g50 dX10_link_50 ?_
        refine w_pc 51 rfl ?_
        obtain ⟨v51, M51, c51, h⟩ := bn2_some h
        refine cl_i (rn_v (As := [.int a1, .int a2, .int v22, .int (M22 (202 + a1.toNatClampNeg) a2.toNatClampNeg)]) (rest := []) ⟨hx, hb, hml, hown, hts⟩ (kX4_appendLink l D ad cA A c51) ⟨callB_of 4 hts (gdc wm669) rfl rfl rfl (hts _ wm55) (hts _ wm666) hdX4_appendLink ⟨Nat.le_of_ble_eq_true rfl, Nat.le_of_ble_eq_true rfl⟩, hts _ wm667, hts _ wm668⟩ hK hP hD hN (by omega) lyMMail rfl rfl hl.1 rfl (lv_room (Nat.le_of_ble_eq_true rfl)) dX10_link_51) hS (fun H locs hP hS => ?_)
        refine w_pc 54 rfl ?_
        exact re_i hx hb hr hlk h hP hS dX10_link_54
      · replace h := (if_pos q28).symm.trans h
        refine w_pc 31 rfl ?_
        refine lv_iconst (v := -1) hx hb dX10_link_31 (by decide) ?_
        exact re_i hx hb hr hlk h hP hS dX10_link_32
    · replace h := (if_pos q16).symm.trans h
      refine w_pc 19 rfl ?_
      refine lv_iconst (v := -1) hx hb dX10_link_19 (by decide) ?_
      exact re_i hx hb hr hlk h hP hS dX10_link_20
def rmX10_policyOfAuthor : Room := { frames := 0, cells := 0, slots := 0, locals := 0 }
def fX10_policyOfAuthor (M : Mm) : Option Nat :=
  grd (gin (M 243 2) 20) (grd (gin (M (2 + (M 243 2).toNatClampNeg) 1) 20) (if (M (2 + (M 243 2).toNatClampNeg) 2) = 0 then (if (M (2 + (M (2 + (M 243 2).toNatClampNeg) 1).toNatClampNeg) 2) = 0 then (if (M (222 + (M 243 2).toNatClampNeg) 0) = 0 then (if (M (222 + (M (2 + (M 243 2).toNatClampNeg) 1).toNatClampNeg) 0) = 0 then (some 20) else (some ((M (2 + (M 243 2).toNatClampNeg) 1).toNatClampNeg))) else (some ((M 243 2).toNatClampNeg))) else (some 20)) else (some 20)))
set_option maxRecDepth 100000 in
set_option maxHeartbeats 4000000 in
theorem kX10_policyOfAuthor (l : Launch) (D : va_G) (ad : Nat → Nat) (cA : Nat → ClassId) (A : Nat → Prop) {M : Mm} {r : Nat} (h : fX10_policyOfAuthor M = some r) : Met l yX10_policyOfAuthor wsX10_policyOfAuthor rmX10_policyOfAuthor (gPc D (tyM cA) 289 (layM ad cA) ad A M [.ref (ad 0)]) (gQq D 289 (layM ad cA) ad A M (some (ad (222 + r)))) 0 0 A := by
  refine Met.ofW (cc := cX10_policyOfAuthor) (maxL := 3) (ret := (some (.object "MailArbiter$Policy"))) (by decide) rfl ?_
  intro p e s m args below meth c s₁ B hml hv
  obtain ⟨ha, hP, hK, hD, hN⟩ := hv
  have hx := B.exec
  have hb := B.bytes
  have hr := B.returns
  have hlk := B.notSynchronized
  have hts : ∀ w ∈ lw_g, w.before args s = true := fun w h => atoms_spec (ws := wsX10_policyOfAuthor) B.pre w (List.mem_cons_of_mem _ h)
  have hown : s.vm.findClass RX10 = some m.cls := findClass_of_methodNamed B.named
  have hS : va_S A s.heap s.heap [] := va_S.rf
  unfold fX10_policyOfAuthor at h
  have w11 := hts _ wm368
  have w30 := hts _ wm371
  have w228 := hts _ wm286
  have w66 := hts _ wm156
  have w69 := hts _ wm158
  have w23 := hts _ wm370
  have w112 := hts _ wm171
  have w115 := hts _ wm135
  refine w_entry ha (Nat.le_of_ble_eq_true rfl) (fun ls hl => ?_)
  have hl : lv_has ls 3 [(0, .ref (ad 0))] := hl
  refine w_pc 0 rfl ?_
  refine lv_aload_n hx hb dX10_policyOfAuthor_0 rfl (lv_at hl 0 rfl) ?_
  refine gw_get (C := RX10) (T := TX10) (N := 8) (v := .ref (ad 1)) hx hb hts hinX10 hown hK hP (by omega) lyMMA rfl 0 (by decide) w11 (fun _ h9 => h9) rfl dX10_policyOfAuthor_1 ?_
  refine lv_aload_n hx hb dX10_policyOfAuthor_4 rfl (lv_at hl 0 rfl) ?_
  refine gw_get (C := RX10) (T := TX10) (N := 8) (v := .ref (ad 243)) hx hb hts hinX10 hown hK hP (by omega) lyMMA rfl 3 (by decide) w30 (fun _ h9 => h9) rfl dX10_policyOfAuthor_5 ?_
  refine gw_get (C := RX4) (T := TX4) (N := 13) (v := .int (M 243 2)) hx hb hts hinX4 hown hK hP (by omega) lyMMail rfl 2 (by decide) w228 (fun _ h9 => h9) rfl dX10_policyOfAuthor_8 ?_
  obtain ⟨g11, h⟩ := gd_in h
  have b11 := some_lo g11
  refine gw_aald hx hb hK hP 2 (by omega) lyMaDom rfl g11 dX10_policyOfAuthor_11 ?_
  refine lv_astore_n (lv' := [(1, .ref (ad (2 + (M 243 2).toNatClampNeg))), (0, .ref (ad 0))]) hx hb dX10_policyOfAuthor_12 rfl hl (by decide) rfl (fun ls hl => ?_)
  refine w_pc 13 rfl ?_
  refine lv_aload_n hx hb dX10_policyOfAuthor_13 rfl (lv_at hl 1 rfl) ?_
  refine gw_get (C := RX10) (T := TX10) (N := 8) (v := .ref (ad 1)) hx hb hts hinX10 hown hK hP (by omega) lyMMA rfl 0 (by decide) w11 (fun _ h9 => h9) rfl dX10_policyOfAuthor_14 ?_
  refine lv_aload_n hx hb dX10_policyOfAuthor_17 rfl (lv_at hl 0 rfl) ?_
  refine gw_get (C := RX1) (T := TX1) (N := 8) (v := .int (M (2 + (M 243 2).toNatClampNeg) 1)) hx hb hts hinX1 hown hK hP (by omega) (lyMDom (by omega)) rfl 1 (by decide) w66 (fun _ h9 => h9) rfl dX10_policyOfAuthor_18 ?_
  obtain ⟨g21, h⟩ := gd_in h
  have b21 := some_lo g21
  refine gw_aald hx hb hK hP 2 (by omega) lyMaDom rfl g21 dX10_policyOfAuthor_21 ?_
  refine lv_astore_n (lv' := [(2, .ref (ad (2 + (M (2 + (M 243 2).toNatClampNeg) 1).toNatClampNeg))), (1, .ref (ad (2 + (M 243 2).toNatClampNeg))), (0, .ref (ad 0))]) hx hb dX10_policyOfAuthor_22 rfl hl (by decide) rfl (fun ls hl => ?_)
  refine lv_aload_n hx hb dX10_policyOfAuthor_23 rfl (lv_at hl 1 rfl) ?_
  refine gw_get (C := RX1) (T := TX1) (N := 8) (v := .int (M (2 + (M 243 2).toNatClampNeg) 2)) hx hb hts hinX1 hown hK hP (by omega) (lyMDom (by omega)) rfl 2 (by decide) w69 (fun _ h9 => h9) rfl dX10_policyOfAuthor_24 ?_
  refine w_pc 27 rfl ?_
  refine w_pc 27 rfl ?_
  refine lv_if_ne (tgt := 37) hx hb dX10_policyOfAuthor_27 (by decide) (fun q27 => ?_) (fun q27 => ?_)
  · replace h := (if_neg q27).symm.trans h
    refine w_pc 37 rfl ?_
    refine lv_aload_n hx hb dX10_policyOfAuthor_37 rfl (lv_at hl 2 rfl) ?_
    refine gw_get (C := RX10) (T := TX10) (N := 8) (v := .ref (ad (222 + 20))) hx hb hts hinX10 hown hK hP (by omega) lyMMA rfl 2 (by decide) w23 (fun _ h9 => h9) rfl dX10_policyOfAuthor_38 ?_
    exact re_a hx hb hr hlk (by cases h; rfl) hP hS dX10_policyOfAuthor_41
  · replace h := (if_pos q27).symm.trans h
    refine w_pc 30 rfl ?_
    refine lv_aload_n hx hb dX10_policyOfAuthor_30 rfl (lv_at hl 0 rfl) ?_
    refine gw_get (C := RX1) (T := TX1) (N := 8) (v := .int (M (2 + (M (2 + (M 243 2).toNatClampNeg) 1).toNatClampNeg) 2)) hx hb hts hinX1 hown hK hP (by omega) (lyMDom (by omega)) rfl 2 (by decide) w69 (fun _ h9 => h9) rfl dX10_policyOfAuthor_31 ?_
    refine w_pc 34 rfl ?_
    refine lv_if_eq (tgt := 42) hx hb dX10_policyOfAuthor_34 (by decide) (fun q34 => ?_) (fun q34 => ?_)
    · replace h := (if_pos q34).symm.trans h
      refine w_pc 42 rfl ?_
      refine lv_aload_n hx hb dX10_policyOfAuthor_42 rfl (lv_at hl 1 rfl) ?_
      refine gw_get (C := RX1) (T := TX1) (N := 8) (v := .ref (ad (222 + (M 243 2).toNatClampNeg))) hx hb hts hinX1 hown hK hP (by omega) (lyMDom (by omega)) rfl 7 (by decide) w112 (fun _ h9 => h9) rfl dX10_policyOfAuthor_43 ?_
      refine gw_get (C := RX5) (T := TX5) (N := 5) (v := .int (M (222 + (M 243 2).toNatClampNeg) 0)) hx hb hts hinX5 hown hK hP (by omega) (lyMPol (by omega)) rfl 0 (by decide) w115 (fun _ h9 => h9) rfl dX10_policyOfAuthor_46 ?_
      refine w_pc 49 rfl ?_
      refine lv_if_eq (tgt := 57) hx hb dX10_policyOfAuthor_49 (by decide) (fun q49 => ?_) (fun q49 => ?_)
      · replace h := (if_pos q49).symm.trans h
        refine w_pc 57 rfl ?_
        refine lv_aload_n hx hb dX10_policyOfAuthor_57 rfl (lv_at hl 0 rfl) ?_
        refine gw_get (C := RX1) (T := TX1) (N := 8) (v := .ref (ad (222 + (M (2 + (M 243 2).toNatClampNeg) 1).toNatClampNeg))) hx hb hts hinX1 hown hK hP (by omega) (lyMDom (by omega)) rfl 7 (by decide) w112 (fun _ h9 => h9) rfl dX10_policyOfAuthor_58 ?_
        refine gw_get (C := RX5) (T := TX5) (N := 5) (v := .int (M (222 + (M (2 + (M 243 2).toNatClampNeg) 1).toNatClampNeg) 0)) hx hb hts hinX5 hown hK hP (by omega) (lyMPol (by omega)) rfl 0 (by decide) w115 (fun _ h9 => h9) rfl dX10_policyOfAuthor_61 ?_
        refine w_pc 64 rfl ?_
        refine lv_if_eq (tgt := 74) hx hb dX10_policyOfAuthor_64 (by decide) (fun q64 => ?_) (fun q64 => ?_)
        · replace h := (if_pos q64).symm.trans h
          refine w_pc 74 rfl ?_
          refine lv_aload_n hx hb dX10_policyOfAuthor_74 rfl (lv_at hl 2 rfl) ?_
          refine gw_get (C := RX10) (T := TX10) (N := 8) (v := .ref (ad (222 + 20))) hx hb hts hinX10 hown hK hP (by omega) lyMMA rfl 2 (by decide) w23 (fun _ h9 => h9) rfl dX10_policyOfAuthor_75 ?_
          exact re_a hx hb hr hlk (by cases h; rfl) hP hS dX10_policyOfAuthor_78
        · replace h := (if_neg q64).symm.trans h
          refine w_pc 67 rfl ?_
          refine lv_aload_n hx hb dX10_policyOfAuthor_67 rfl (lv_at hl 0 rfl) ?_
          refine gw_get (C := RX1) (T := TX1) (N := 8) (v := .ref (ad (222 + (M (2 + (M 243 2).toNatClampNeg) 1).toNatClampNeg))) hx hb hts hinX1 hown hK hP (by omega) (lyMDom (by omega)) rfl 7 (by decide) w112 (fun _ h9 => h9) rfl dX10_policyOfAuthor_68 ?_
          refine lv_goto (tgt := 78) hx hb dX10_policyOfAuthor_71 (by decide) ?_
          exact re_a hx hb hr hlk (by cases h; rfl) hP hS dX10_policyOfAuthor_78
      · replace h := (if_neg q49).symm.trans h
        refine w_pc 52 rfl ?_
        refine lv_aload_n hx hb dX10_policyOfAuthor_52 rfl (lv_at hl 1 rfl) ?_
        refine gw_get (C := RX1) (T := TX1) (N := 8) (v := .ref (ad (222 + (M 243 2).toNatClampNeg))) hx hb hts hinX1 hown hK hP (by omega) (lyMDom (by omega)) rfl 7 (by decide) w112 (fun _ h9 => h9) rfl dX10_policyOfAuthor_53 ?_
        exact re_a hx hb hr hlk (by cases h; rfl) hP hS dX10_policyOfAuthor_56
    · replace h := (if_neg q34).symm.trans h
      refine w_pc 37 rfl ?_
      refine lv_aload_n hx hb dX10_policyOfAuthor_37 rfl (lv_at hl 2 rfl) ?_
      refine gw_get (C := RX10) (T := TX10) (N := 8) (v := .ref (ad (222 + 20))) hx hb hts hinX10 hown hK hP (by omega) lyMMA rfl 2 (by decide) w23 (fun _ h9 => h9) rfl dX10_policyOfAuthor_38 ?_
      exact re_a hx hb hr hlk (by cases h; rfl) hP hS dX10_policyOfAuthor_41
def rmX10_isAligned : Room := { frames := 0, cells := 0, slots := 0, locals := 0 }
def fX10_isAligned (a1 : Int32) (a2 : Int32) (M : Mm) : Option Int32 :=
  if a1 = (M 243 2) then (some (1 : Int32)) else (if a2 = 0 then (grd (gin a1 20) (grd (gin (M 243 2) 20) (if (M (2 + a1.toNatClampNeg) 1) = (M (2 + (M 243 2).toNatClampNeg) 1) then (some (1 : Int32)) else (some (0 : Int32))))) else (some (0 : Int32)))
set_option maxRecDepth 100000 in
set_option maxHeartbeats 4000000 in
theorem kX10_isAligned (l : Launch) (D : va_G) (ad : Nat → Nat) (cA : Nat → ClassId) (A : Nat → Prop) {a1 : Int32} {a2 : Int32} {M : Mm} {r : Int32} (h : fX10_isAligned a1 a2 M = some r) : Met l yX10_isAligned wsX10_isAligned rmX10_isAligned (gPc D (tyM cA) 289 (layM ad cA) ad A M [.ref (ad 0), .int a1, .int a2]) (gQi D 289 (layM ad cA) ad A M r) 0 0 A := by
  refine Met.ofW (cc := cX10_isAligned) (maxL := 3) (ret := (some .boolean)) (by decide) rfl ?_
  intro p e s m args below meth c s₁ B hml hv
  obtain ⟨ha, hP, hK, hD, hN⟩ := hv
  have hx := B.exec
  have hb := B.bytes
  have hr := B.returns
  have hlk := B.notSynchronized
  have hts : ∀ w ∈ lw_g, w.before args s = true := fun w h => atoms_spec (ws := wsX10_isAligned) B.pre w (List.mem_cons_of_mem _ h)
  have hown : s.vm.findClass RX10 = some m.cls := findClass_of_methodNamed B.named
  have hS : va_S A s.heap s.heap [] := va_S.rf
  unfold fX10_isAligned at h
  have w30 := hts _ wm371
  have w228 := hts _ wm286
  have w11 := hts _ wm368
  have w66 := hts _ wm156
  refine w_entry ha (Nat.le_of_ble_eq_true rfl) (fun ls hl => ?_)
  have hl : lv_has ls 3 [(0, .ref (ad 0)), (1, .int a1), (2, .int a2)] := hl
  refine w_pc 0 rfl ?_
  refine lv_iload_n hx hb dX10_isAligned_0 rfl (lv_at hl 1 rfl) ?_
  refine lv_aload_n hx hb dX10_isAligned_1 rfl (lv_at hl 0 rfl) ?_
  refine gw_get (C := RX10) (T := TX10) (N := 8) (v := .ref (ad 243)) hx hb hts hinX10 hown hK hP (by omega) lyMMA rfl 3 (by decide) w30 (fun _ h9 => h9) rfl dX10_isAligned_2 ?_
  refine gw_get (C := RX4) (T := TX4) (N := 13) (v := .int (M 243 2)) hx hb hts hinX4 hown hK hP (by omega) lyMMail rfl 2 (by decide) w228 (fun _ h9 => h9) rfl dX10_isAligned_5 ?_
  refine w_pc 8 rfl ?_
  refine lv_icmp_eq (tgt := 42) hx hb dX10_isAligned_8 (by decide) (fun q8 => ?_) (fun q8 => ?_)
  · replace h := (if_pos q8).symm.trans h
    refine w_pc 42 rfl ?_
    refine lv_iconst (v := 1) hx hb dX10_isAligned_42 (by decide) ?_
    refine lv_goto (tgt := 47) hx hb dX10_isAligned_43 (by decide) ?_
    exact re_z hx hb hr hlk (Or.inr rfl) (sm_r h) hP hS dX10_isAligned_47
  · replace h := (if_neg q8).symm.trans h
    refine w_pc 11 rfl ?_
    refine lv_iload_n hx hb dX10_isAligned_11 rfl (lv_at hl 2 rfl) ?_
    refine w_pc 12 rfl ?_
    refine lv_if_ne (tgt := 46) hx hb dX10_isAligned_12 (by decide) (fun q12 => ?_) (fun q12 => ?_)
    · replace h := (if_neg q12).symm.trans h
      refine w_pc 46 rfl ?_
      refine lv_iconst (v := 0) hx hb dX10_isAligned_46 (by decide) ?_
      exact re_z hx hb hr hlk (Or.inl rfl) (sm_r h) hP hS dX10_isAligned_47
    · replace h := (if_pos q12).symm.trans h
      refine w_pc 15 rfl ?_
      refine lv_aload_n hx hb dX10_isAligned_15 rfl (lv_at hl 0 rfl) ?_
      refine gw_get (C := RX10) (T := TX10) (N := 8) (v := .ref (ad 1)) hx hb hts hinX10 hown hK hP (by omega) lyMMA rfl 0 (by decide) w11 (fun _ h9 => h9) rfl dX10_isAligned_16 ?_
      refine lv_iload_n hx hb dX10_isAligned_19 rfl (lv_at hl 1 rfl) ?_
      obtain ⟨g20, h⟩ := gd_in h
      have b20 := some_lo g20
      refine gw_aald hx hb hK hP 2 (by omega) lyMaDom rfl g20 dX10_isAligned_20 ?_
      refine gw_get (C := RX1) (T := TX1) (N := 8) (v := .int (M (2 + a1.toNatClampNeg) 1)) hx hb hts hinX1 hown hK hP (by omega) (lyMDom (by omega)) rfl 1 (by decide) w66 (fun _ h9 => h9) rfl dX10_isAligned_21 ?_
      refine lv_aload_n hx hb dX10_isAligned_24 rfl (lv_at hl 0 rfl) ?_
      refine gw_get (C := RX10) (T := TX10) (N := 8) (v := .ref (ad 1)) hx hb hts hinX10 hown hK hP (by omega) lyMMA rfl 0 (by decide) w11 (fun _ h9 => h9) rfl dX10_isAligned_25 ?_
      refine w_pc 28 rfl ?_
      refine lv_aload_n hx hb dX10_isAligned_28 rfl (lv_at hl 0 rfl) ?_
      refine gw_get (C := RX10) (T := TX10) (N := 8) (v := .ref (ad 243)) hx hb hts hinX10 hown hK hP (by omega) lyMMA rfl 3 (by decide) w30 (fun _ h9 => h9) rfl dX10_isAligned_29 ?_
      refine gw_get (C := RX4) (T := TX4) (N := 13) (v := .int (M 243 2)) hx hb hts hinX4 hown hK hP (by omega) lyMMail rfl 2 (by decide) w228 (fun _ h9 => h9) rfl dX10_isAligned_32 ?_
      obtain ⟨g35, h⟩ := gd_in h
      have b35 := some_lo g35
      refine gw_aald hx hb hK hP 2 (by omega) lyMaDom rfl g35 dX10_isAligned_35 ?_
      refine gw_get (C := RX1) (T := TX1) (N := 8) (v := .int (M (2 + (M 243 2).toNatClampNeg) 1)) hx hb hts hinX1 hown hK hP (by omega) (lyMDom (by omega)) rfl 1 (by decide) w66 (fun _ h9 => h9) rfl dX10_isAligned_36 ?_
      refine w_pc 39 rfl ?_
      refine lv_icmp_ne (tgt := 46) hx hb dX10_isAligned_39 (by decide) (fun q39 => ?_) (fun q39 => ?_)
      · replace h := (if_neg q39).symm.trans h
        refine w_pc 46 rfl ?_
        refine lv_iconst (v := 0) hx hb dX10_isAligned_46 (by decide) ?_
        exact re_z hx hb hr hlk (Or.inl rfl) (sm_r h) hP hS dX10_isAligned_47
      · replace h := (if_pos q39).symm.trans h
        refine w_pc 42 rfl ?_
        refine lv_iconst (v := 1) hx hb dX10_isAligned_42 (by decide) ?_
        refine lv_goto (tgt := 47) hx hb dX10_isAligned_43 (by decide) ?_
        exact re_z hx hb hr hlk (Or.inr rfl) (sm_r h) hP hS dX10_isAligned_47
def rmX10_senderAgrees : Room := { frames := 1, cells := 0, slots := 0, locals := 22 }
def fX10_senderAgrees_27 (a1 : Int32) (i2 : Nat) (M : Mm) (s0 : Int32) (s1 : Int32) : Option Int32 :=
  bn1 (fX10_isAligned s1 s0 M) (fun v27 => if v27 = 0 then (some (0 : Int32)) else (some (1 : Int32)))
def fX10_senderAgrees (a1 : Int32) (i2 : Nat) (M : Mm) : Option Int32 :=
  if a1 = (1 : Int32) then (if ((M (222 + i2) 3) &&& (2 : Int32)) = 0 then (fX10_senderAgrees_27 a1 i2 M (0 : Int32) (M 243 1)) else (fX10_senderAgrees_27 a1 i2 M (1 : Int32) (M 243 1))) else (some (0 : Int32))
set_option maxRecDepth 100000 in
set_option maxHeartbeats 4000000 in
theorem kX10_senderAgrees (l : Launch) (D : va_G) (ad : Nat → Nat) (cA : Nat → ClassId) (A : Nat → Prop) {a1 : Int32} {i2 : Nat} {M : Mm} {r : Int32} (hi2 : i2 < 21) (h : fX10_senderAgrees a1 i2 M = some r) : Met l yX10_senderAgrees wsX10_senderAgrees rmX10_senderAgrees (gPc D (tyM cA) 289 (layM ad cA) ad A M [.ref (ad 0), .int a1, .ref (ad (222 + i2))]) (gQi D 289 (layM ad cA) ad A M r) 0 0 A := by
  refine Met.ofW (cc := cX10_senderAgrees) (maxL := 3) (ret := (some .boolean)) (by decide) rfl ?_
  intro p e s m args below meth c s₁ B hml hv
  obtain ⟨ha, hP, hK, hD, hN⟩ := hv
  have hx := B.exec
  have hb := B.bytes
  have hr := B.returns
  have hlk := B.notSynchronized
  have hts : ∀ w ∈ lw_g, w.before args s = true := fun w h => atoms_spec (ws := wsX10_senderAgrees) B.pre w (List.mem_cons_of_mem _ h)
  have hown : s.vm.findClass RX10 = some m.cls := findClass_of_methodNamed B.named
  have hS : va_S A s.heap s.heap [] := va_S.rf
  unfold fX10_senderAgrees at h
  have w30 := hts _ wm371
  have w189 := hts _ wm284
  have w300 := hts _ wm141
  have bk27 : ∀ (s0 : Int32) (s1 : Int32) (ls : Array Slot) (H : Heap) (locs : List Loc), lv_has ls 3 [] → fX10_senderAgrees_27 a1 i2 M s0 s1 = some r → va_P D vwCl (gw 289 (layM ad cA) ad M) H → va_S A s.heap H locs → W p l e (headSpec wsX10_senderAgrees rmX10_senderAgrees).room s m args below meth c H locs 0 0 (MQ below (gQi D 289 (layM ad cA) ad A M r) args s 0 0 A) (F0 m 27 ls [.int s0, .int s1, .ref (ad 0)]) := by
    intro s0 s1 ls H locs hl h hP hS
    unfold fX10_senderAgrees_27 at h
    refine w_pc 27 rfl ?_
    refine w_pc 27 rfl ?_
    obtain ⟨v27, c27, h⟩ := bn1_some h
    refine cl_i (rn_v (As := [.int s1, .int s0]) (rest := []) ⟨hx, hb, hml, hown, hts⟩ (kX10_isAligned l D ad cA A c27) ⟨callB_of 2 hts (gdc wm688) rfl rfl rfl (hts _ wm50) (hts _ wm685) hdX10_isAligned ⟨Nat.le_of_ble_eq_true rfl, Nat.le_of_ble_eq_true rfl⟩, hts _ wm687, hts _ wm17⟩ hK hP hD hN (by omega) lyMMA rfl rfl hl.1 rfl (lv_room (Nat.le_of_ble_eq_true rfl)) dX10_senderAgrees_27) hS (fun H locs hP hS => ?_)
    refine w_pc 30 rfl ?_
    refine w_pc 30 rfl ?_
    refine lv_if_eq (tgt := 37) hx hb dX10_senderAgrees_30 (by decide) (fun q30 => ?_) (fun q30 => ?_)
    · replace h := (if_pos q30).symm.trans h
      refine w_pc 37 rfl ?_
      refine lv_iconst (v := 0) hx hb dX10_senderAgrees_37 (by decide) ?_
      exact re_z hx hb hr hlk (Or.inl rfl) (sm_r h) hP hS dX10_senderAgrees_38
    · replace h := (if_neg q30).symm.trans h
      refine w_pc 33 rfl ?_
      refine lv_iconst (v := 1) hx hb dX10_senderAgrees_33 (by decide) ?_
      refine lv_goto (tgt := 38) hx hb dX10_senderAgrees_34 (by decide) ?_
      exact re_z hx hb hr hlk (Or.inr rfl) (sm_r h) hP hS dX10_senderAgrees_38
  refine w_entry ha (Nat.le_of_ble_eq_true rfl) (fun ls hl => ?_)
  have hl : lv_has ls 3 [(0, .ref (ad 0)), (1, .int a1), (2, .ref (ad (222 + i2)))] := hl
  refine w_pc 0 rfl ?_
  refine lv_iload_n hx hb dX10_senderAgrees_0 rfl (lv_at hl 1 rfl) ?_
  refine lv_iconst (v := 1) hx hb dX10_senderAgrees_1 (by decide) ?_
  refine w_pc 2 rfl ?_
  refine lv_icmp_ne (tgt := 37) hx hb dX10_senderAgrees_2 (by decide) (fun q2 => ?_) (fun q2 => ?_)
  · replace h := (if_neg q2).symm.trans h
    refine w_pc 37 rfl ?_
    refine lv_iconst (v := 0) hx hb dX10_senderAgrees_37 (by decide) ?_
    exact re_z hx hb hr hlk (Or.inl rfl) (sm_r h) hP hS dX10_senderAgrees_38
  · replace h := (if_pos q2).symm.trans h
    refine w_pc 5 rfl ?_
    refine lv_aload_n hx hb dX10_senderAgrees_5 rfl (lv_at hl 0 rfl) ?_
    refine lv_aload_n hx hb dX10_senderAgrees_6 rfl (lv_at hl 0 rfl) ?_
    refine gw_get (C := RX10) (T := TX10) (N := 8) (v := .ref (ad 243)) hx hb hts hinX10 hown hK hP (by omega) lyMMA rfl 3 (by decide) w30 (fun _ h9 => h9) rfl dX10_senderAgrees_7 ?_
    refine gw_get (C := RX4) (T := TX4) (N := 13) (v := .int (M 243 1)) hx hb hts hinX4 hown hK hP (by omega) lyMMail rfl 1 (by decide) w189 (fun _ h9 => h9) rfl dX10_senderAgrees_10 ?_
    refine lv_aload_n hx hb dX10_senderAgrees_13 rfl (lv_at hl 2 rfl) ?_
    refine gw_get (C := RX5) (T := TX5) (N := 5) (v := .int (M (222 + i2) 3)) hx hb hts hinX5 hown hK hP (by omega) (lyMPol (by omega)) rfl 3 (by decide) w300 (fun _ h9 => h9) rfl dX10_senderAgrees_14 ?_
    refine lv_iconst (v := 2) hx hb dX10_senderAgrees_17 (by decide) ?_
    refine w_pc 18 rfl ?_
    refine lv_iand hx hb dX10_senderAgrees_18 ?_
    refine w_pc 19 rfl ?_
    refine lv_if_eq (tgt := 26) hx hb dX10_senderAgrees_19 (by decide) (fun q19 => ?_) (fun q19 => ?_)
    · replace h := (if_pos q19).symm.trans h
      refine w_pc 26 rfl ?_
      refine lv_iconst (v := 0) hx hb dX10_senderAgrees_26 (by decide) ?_
      exact bk27 (0 : Int32) (M 243 1) ls _ _ (lv_sub hl [] rfl) h hP hS
    · replace h := (if_neg q19).symm.trans h
      refine w_pc 22 rfl ?_
      refine lv_iconst (v := 1) hx hb dX10_senderAgrees_22 (by decide) ?_
      refine lv_goto (tgt := 27) hx hb dX10_senderAgrees_23 (by decide) ?_
      exact bk27 (1 : Int32) (M 243 1) ls _ _ (lv_sub hl [] rfl) h hP hS
def rmX10_signatureAgrees : Room := { frames := 5, cells := 0, slots := 0, locals := 118 }
def fX10_signatureAgrees_64 (i1 : Nat) (K17 : Int32 → Int32 → Mm → Option (Int32 × Mm)) (x2 : Int32) (x3 : Int32) (M : Mm) : Option (Int32 × Mm) :=
  K17 x2 (x3 + 1) M
def fX10_signatureAgrees_17 (i1 : Nat) : Nat → Int32 → Int32 → Mm → Option (Int32 × Mm)
  | 0, _, _, _ => none
  | n + 1, x2, x3, M => if (M 243 10) ≤ x3 then (some ((0 : Int32), M)) else (grd (gin x3 3) (bn1 (fX10_isAligned (M (263 + x3.toNatClampNeg) 0) x2 M) (fun v46 => if v46 = 0 then (fX10_signatureAgrees_64 i1 (fX10_signatureAgrees_17 i1 n) x2 x3 M) else (bn2 (fX10_checkSignature x3.toNatClampNeg M) (fun v55 M55 => if v55 = (1 : Int32) then (some ((1 : Int32), M55)) else (fX10_signatureAgrees_64 i1 (fX10_signatureAgrees_17 i1 n) x2 x3 M55))))))
def fX10_signatureAgrees_14 (i1 : Nat) (s0 : Int32) (M : Mm) : Option (Int32 × Mm) :=
  fX10_signatureAgrees_17 i1 FU s0 (0 : Int32) M
def fX10_signatureAgrees (i1 : Nat) (M : Mm) : Option (Int32 × Mm) :=
  if ((M (222 + i1) 3) &&& (1 : Int32)) = 0 then (fX10_signatureAgrees_14 i1 (0 : Int32) M) else (fX10_signatureAgrees_14 i1 (1 : Int32) M)
set_option maxRecDepth 100000 in
set_option maxHeartbeats 4000000 in
theorem kX10_signatureAgrees (l : Launch) (D : va_G) (ad : Nat → Nat) (cA : Nat → ClassId) (A : Nat → Prop) {i1 : Nat} {M M1 : Mm} {r : Int32} (hi1 : i1 < 21) (h : fX10_signatureAgrees i1 M = some (r, M1)) : Met l yX10_signatureAgrees wsX10_signatureAgrees rmX10_signatureAgrees (gPc D (tyM cA) 289 (layM ad cA) ad A M [.ref (ad 0), .ref (ad (222 + i1))]) (gQi D 289 (layM ad cA) ad A M1 r) 0 0 A := by
  refine Met.ofW (cc := cX10_signatureAgrees) (maxL := 5) (ret := (some .boolean)) (by decide) rfl ?_
  intro p e s m args below meth c s₁ B hml hv
  obtain ⟨ha, hP, hK, hD, hN⟩ := hv
  have hx := B.exec
  have hb := B.bytes
  have hr := B.returns
  have hlk := B.notSynchronized
  have hts : ∀ w ∈ lw_g, w.before args s = true := fun w h => atoms_spec (ws := wsX10_signatureAgrees) B.pre w (List.mem_cons_of_mem _ h)
  have hown : s.vm.findClass RX10 = some m.cls := findClass_of_methodNamed B.named
  have hS : va_S A s.heap s.heap [] := va_S.rf
  unfold fX10_signatureAgrees at h
  have w300 := hts _ wm141
  have w30 := hts _ wm371
  have w173 := hts _ wm297
  have w179 := hts _ wm295
  have w249 := hts _ wm225
  have lp17 : ∀ (n : Nat) (x2 : Int32) (x3 : Int32) (M : Mm) (ls : Array Slot) (H : Heap) (locs : List Loc), lv_has ls 5 [(0, .ref (ad 0)), (2, .int x2), (3, .int x3)] → fX10_signatureAgrees_17 i1 n x2 x3 M = some (r, M1) → va_P D vwCl (gw 289 (layM ad cA) ad M) H → va_S A s.heap H locs → W p l e (headSpec wsX10_signatureAgrees rmX10_signatureAgrees).room s m args below meth c H locs 0 0 (MQ below (gQi D 289 (layM ad cA) ad A M1 r) args s 0 0 A) (F0 m 17 ls []) := by
    intro n
    induction n with
    | zero =>
      intro x2 x3 M ls H locs hl h hP hS
      rw [fX10_signatureAgrees_17] at h
      cases h
    | succ n ih17 =>
      have bk64 : ∀ (x2 : Int32) (x3 : Int32) (M : Mm) (ls : Array Slot) (H : Heap) (locs : List Loc), lv_has ls 5 [(0, .ref (ad 0)), (2, .int x2), (3, .int x3)] → fX10_signatureAgrees_64 i1 (fX10_signatureAgrees_17 i1 n) x2 x3 M = some (r, M1) → va_P D vwCl (gw 289 (layM ad cA) ad M) H → va_S A s.heap H locs → W p l e (headSpec wsX10_signatureAgrees rmX10_signatureAgrees).room s m args below meth c H locs 0 0 (MQ below (gQi D 289 (layM ad cA) ad A M1 r) args s 0 0 A) (F0 m 64 ls []) := by
        intro x2 x3 M ls H locs hl h hP hS
        unfold fX10_signatureAgrees_64 at h
        refine w_pc 64 rfl ?_
        refine lv_iinc (k := 2) (v := x3 + 1) (lv' := [(3, .int (x3 + 1)), (0, .ref (ad 0)), (2, .int x2)]) hx hb dX10_signatureAgrees_64 hl rfl rfl (by decide) rfl (fun ls hl => ?_)
        refine lv_goto (tgt := 17) hx hb dX10_signatureAgrees_67 (by decide) ?_
        exact ih17 x2 (x3 + 1) M ls _ _ (lv_sub hl [1, 2, 0] rfl) h hP hS
      intro x2 x3 M ls H locs hl h hP hS
      rw [fX10_signatureAgrees_17] at h
      refine w_pc 17 rfl ?_
      refine lv_iload_n hx hb dX10_signatureAgrees_17 rfl (lv_at hl 2 rfl) ?_
      refine lv_aload_n hx hb dX10_signatureAgrees_18 rfl (lv_at hl 0 rfl) ?_
      refine gw_get (C := RX10) (T := TX10) (N := 8) (v := .ref (ad 243)) hx hb hts hinX10 hown hK hP (by omega) lyMMA rfl 3 (by decide) w30 (fun _ h9 => h9) rfl dX10_signatureAgrees_19 ?_
      refine gw_get (C := RX4) (T := TX4) (N := 13) (v := .int (M 243 10)) hx hb hts hinX4 hown hK hP (by omega) lyMMail rfl 10 (by decide) w173 (fun _ h9 => h9) rfl dX10_signatureAgrees_22 ?_
      refine w_pc 25 rfl ?_
      refine lv_icmp_ge (tgt := 70) hx hb dX10_signatureAgrees_25 (by decide) (fun q25 => ?_) (fun q25 => ?_)
      · replace h := (if_pos q25).symm.trans h
        refine w_pc 70 rfl ?_
        refine lv_iconst (v := 0) hx hb dX10_signatureAgrees_70 (by decide) ?_
        exact re_z hx hb hr hlk (Or.inl rfl) h hP hS dX10_signatureAgrees_71
      · replace h := (if_neg q25).symm.trans h
        refine w_pc 28 rfl ?_
        refine lv_aload_n hx hb dX10_signatureAgrees_28 rfl (lv_at hl 0 rfl) ?_
        refine gw_get (C := RX10) (T := TX10) (N := 8) (v := .ref (ad 243)) hx hb hts hinX10 hown hK hP (by omega) lyMMA rfl 3 (by decide) w30 (fun _ h9 => h9) rfl dX10_signatureAgrees_29 ?_
        refine gw_get (C := RX4) (T := TX4) (N := 13) (v := .ref (ad 262)) hx hb hts hinX4 hown hK hP (by omega) lyMMail rfl 9 (by decide) w179 (fun _ h9 => h9) rfl dX10_signatureAgrees_32 ?_
        refine lv_iload_n hx hb dX10_signatureAgrees_35 rfl (lv_at hl 2 rfl) ?_
        obtain ⟨g36, h⟩ := gd_in h
        have b36 := some_lo g36
        refine gw_aald hx hb hK hP 5 (by omega) lyMaSig rfl g36 dX10_signatureAgrees_36 ?_
        refine lv_astore (lv' := [(4, .ref (ad (263 + x3.toNatClampNeg))), (0, .ref (ad 0)), (2, .int x2), (3, .int x3)]) hx hb dX10_signatureAgrees_37 hl (by decide) rfl (fun ls hl => ?_)
        refine lv_aload_n hx hb dX10_signatureAgrees_39 rfl (lv_at hl 1 rfl) ?_
        refine w_pc 40 rfl ?_
        refine lv_aload hx hb dX10_signatureAgrees_40 (lv_at hl 0 rfl) ?_
        refine gw_get (C := RX8) (T := TX8) (N := 8) (v := .int (M (263 + x3.toNatClampNeg) 0)) hx hb hts hinX8 hown hK hP (by omega) (lyMSig (by omega)) rfl 0 (by decide) w249 (fun _ h9 => h9) rfl dX10_signatureAgrees_42 ?_
        refine lv_iload_n hx hb dX10_signatureAgrees_45 rfl (lv_at hl 2 rfl) ?_
        refine w_pc 46 rfl ?_
        obtain ⟨v46, c46, h⟩ := bn1_some h
        refine cl_i (rn_v (As := [.int (M (263 + x3.toNatClampNeg) 0), .int x2]) (rest := []) ⟨hx, hb, hml, hown, hts⟩ (kX10_isAligned l D ad cA A c46) ⟨callB_of 2 hts (gdc wm688) rfl rfl rfl (hts _ wm50) (hts _ wm685) hdX10_isAligned ⟨Nat.le_of_ble_eq_true rfl, Nat.le_of_ble_eq_true rfl⟩, hts _ wm687, hts _ wm17⟩ hK hP hD hN (by omega) lyMMA rfl rfl hl.1 rfl (lv_room (Nat.le_of_ble_eq_true rfl)) dX10_signatureAgrees_46) hS (fun H locs hP hS => ?_)
        refine w_pc 49 rfl ?_
        refine w_pc 49 rfl ?_
        refine lv_if_eq (tgt := 64) hx hb dX10_signatureAgrees_49 (by decide) (fun q49 => ?_) (fun q49 => ?_)
        · replace h := (if_pos q49).symm.trans h
          refine w_pc 64 rfl ?_
          exact bk64 x2 x3 M ls _ _ (lv_sub hl [1, 2, 3] rfl) h hP hS
        · replace h := (if_neg q49).symm.trans h
          refine w_pc 52 rfl ?_
          refine lv_aload_n hx hb dX10_signatureAgrees_52 rfl (lv_at hl 1 rfl) ?_
          refine lv_aload hx hb dX10_signatureAgrees_53 (lv_at hl 0 rfl) ?_
          refine w_pc 55 rfl ?_
          obtain ⟨v55, M55, c55, h⟩ := bn2_some h
          refine cl_i (rn_v (As := [.ref (ad (263 + x3.toNatClampNeg))]) (rest := []) ⟨hx, hb, hml, hown, hts⟩ (kX10_checkSignature l D ad cA A (by omega) c55) ⟨callB_of 1 hts (gdc wm591) rfl rfl rfl (hts _ wm50) (hts _ wm588) hdX10_checkSignature ⟨Nat.le_of_ble_eq_true rfl, Nat.le_of_ble_eq_true rfl⟩, hts _ wm590, hts _ wm5⟩ hK hP hD hN (by omega) lyMMA rfl rfl hl.1 rfl (lv_room (Nat.le_of_ble_eq_true rfl)) dX10_signatureAgrees_55) hS (fun H locs hP hS => ?_)
          refine w_pc 58 rfl ?_
          refine lv_iconst (v := 1) hx hb dX10_signatureAgrees_58 (by decide) ?_
          refine w_pc 59 rfl ?_
          refine lv_icmp_ne (tgt := 64) hx hb dX10_signatureAgrees_59 (by decide) (fun q59 => ?_) (fun q59 => ?_)
          · replace h := (if_neg q59).symm.trans h
            refine w_pc 64 rfl ?_
            exact bk64 x2 x3 M55 ls _ _ (lv_sub hl [1, 2, 3] rfl) h hP hS
          · replace h := (if_pos q59).symm.trans h
            refine w_pc 62 rfl ?_
            refine lv_iconst (v := 1) hx hb dX10_signatureAgrees_62 (by decide) ?_
            exact re_z hx hb hr hlk (Or.inr rfl) h hP hS dX10_signatureAgrees_63
  have bk14 : ∀ (s0 : Int32) (M : Mm) (ls : Array Slot) (H : Heap) (locs : List Loc), lv_has ls 5 [(0, .ref (ad 0))] → fX10_signatureAgrees_14 i1 s0 M = some (r, M1) → va_P D vwCl (gw 289 (layM ad cA) ad M) H → va_S A s.heap H locs → W p l e (headSpec wsX10_signatureAgrees rmX10_signatureAgrees).room s m args below meth c H locs 0 0 (MQ below (gQi D 289 (layM ad cA) ad A M1 r) args s 0 0 A) (F0 m 14 ls [.int s0]) := by
    intro s0 M ls H locs hl h hP hS
    unfold fX10_signatureAgrees_14 at h
    refine w_pc 14 rfl ?_
    refine lv_istore_n (lv' := [(2, .int s0), (0, .ref (ad 0))]) hx hb dX10_signatureAgrees_14 rfl hl (by decide) rfl (fun ls hl => ?_)
    refine lv_iconst (v := 0) hx hb dX10_signatureAgrees_15 (by decide) ?_
    refine lv_istore_n (lv' := [(3, .int (0 : Int32)), (2, .int s0), (0, .ref (ad 0))]) hx hb dX10_signatureAgrees_16 rfl hl (by decide) rfl (fun ls hl => ?_)
    exact lp17 FU s0 (0 : Int32) M ls _ _ (lv_sub hl [2, 1, 0] rfl) h hP hS
  refine w_entry ha (Nat.le_of_ble_eq_true rfl) (fun ls hl => ?_)
  have hl : lv_has ls 5 [(0, .ref (ad 0)), (1, .ref (ad (222 + i1)))] := hl
  refine w_pc 0 rfl ?_
  refine lv_aload_n hx hb dX10_signatureAgrees_0 rfl (lv_at hl 1 rfl) ?_
  refine gw_get (C := RX5) (T := TX5) (N := 5) (v := .int (M (222 + i1) 3)) hx hb hts hinX5 hown hK hP (by omega) (lyMPol (by omega)) rfl 3 (by decide) w300 (fun _ h9 => h9) rfl dX10_signatureAgrees_1 ?_
  refine lv_iconst (v := 1) hx hb dX10_signatureAgrees_4 (by decide) ?_
  refine lv_iand hx hb dX10_signatureAgrees_5 ?_
  refine w_pc 6 rfl ?_
  refine lv_if_eq (tgt := 13) hx hb dX10_signatureAgrees_6 (by decide) (fun q6 => ?_) (fun q6 => ?_)
  · replace h := (if_pos q6).symm.trans h
    refine w_pc 13 rfl ?_
    refine lv_iconst (v := 0) hx hb dX10_signatureAgrees_13 (by decide) ?_
    exact bk14 (0 : Int32) M ls _ _ (lv_sub hl [0] rfl) h hP hS
  · replace h := (if_neg q6).symm.trans h
    refine w_pc 9 rfl ?_
    refine lv_iconst (v := 1) hx hb dX10_signatureAgrees_9 (by decide) ?_
    refine lv_goto (tgt := 14) hx hb dX10_signatureAgrees_10 (by decide) ?_
    exact bk14 (1 : Int32) M ls _ _ (lv_sub hl [0] rfl) h hP hS
def rmX10_actionBy : Room := { frames := 0, cells := 0, slots := 0, locals := 0 }
def fX10_actionBy_32 (i1 : Nat) (a2 : Int32) (M : Mm) (s0 : Int32) : Option Int32 :=
  if a2 < (M (222 + i1) 4) then (some s0) else (if s0 ≤ 0 then (some s0) else (some (s0 - (1 : Int32))))
def fX10_actionBy (i1 : Nat) (a2 : Int32) (M : Mm) : Option Int32 :=
  grd (gin (M 243 2) 20) (if (M (222 + (M 243 2).toNatClampNeg) 0) = 0 then (fX10_actionBy_32 i1 a2 M (M (222 + i1) 2)) else (fX10_actionBy_32 i1 a2 M (M (222 + i1) 1)))
set_option maxRecDepth 100000 in
set_option maxHeartbeats 4000000 in
theorem kX10_actionBy (l : Launch) (D : va_G) (ad : Nat → Nat) (cA : Nat → ClassId) (A : Nat → Prop) {i1 : Nat} {a2 : Int32} {M : Mm} {r : Int32} (hi1 : i1 < 21) (h : fX10_actionBy i1 a2 M = some r) : Met l yX10_actionBy wsX10_actionBy rmX10_actionBy (gPc D (tyM cA) 289 (layM ad cA) ad A M [.ref (ad 0), .ref (ad (222 + i1)), .int a2]) (gQi D 289 (layM ad cA) ad A M r) 0 0 A := by
  refine Met.ofW (cc := cX10_actionBy) (maxL := 4) (ret := (some .int)) (by decide) rfl ?_
  intro p e s m args below meth c s₁ B hml hv
  obtain ⟨ha, hP, hK, hD, hN⟩ := hv
  have hx := B.exec
  have hb := B.bytes
  have hr := B.returns
  have hlk := B.notSynchronized
  have hts : ∀ w ∈ lw_g, w.before args s = true := fun w h => atoms_spec (ws := wsX10_actionBy) B.pre w (List.mem_cons_of_mem _ h)
  have hown : s.vm.findClass RX10 = some m.cls := findClass_of_methodNamed B.named
  have hS : va_S A s.heap s.heap [] := va_S.rf
  unfold fX10_actionBy at h
  have w11 := hts _ wm368
  have w30 := hts _ wm371
  have w228 := hts _ wm286
  have w112 := hts _ wm171
  have w115 := hts _ wm135
  have w307 := hts _ wm137
  have w310 := hts _ wm139
  have w313 := hts _ wm143
  have bk32 : ∀ (s0 : Int32) (ls : Array Slot) (H : Heap) (locs : List Loc), lv_has ls 4 [(1, .ref (ad (222 + i1))), (2, .int a2)] → fX10_actionBy_32 i1 a2 M s0 = some r → va_P D vwCl (gw 289 (layM ad cA) ad M) H → va_S A s.heap H locs → W p l e (headSpec wsX10_actionBy rmX10_actionBy).room s m args below meth c H locs 0 0 (MQ below (gQi D 289 (layM ad cA) ad A M r) args s 0 0 A) (F0 m 32 ls [.int s0]) := by
    intro s0 ls H locs hl h hP hS
    unfold fX10_actionBy_32 at h
    refine w_pc 32 rfl ?_
    refine lv_istore_n (lv' := [(3, .int s0), (1, .ref (ad (222 + i1))), (2, .int a2)]) hx hb dX10_actionBy_32 rfl hl (by decide) rfl (fun ls hl => ?_)
    refine lv_iload_n hx hb dX10_actionBy_33 rfl (lv_at hl 2 rfl) ?_
    refine lv_aload_n hx hb dX10_actionBy_34 rfl (lv_at hl 1 rfl) ?_
    refine gw_get (C := RX5) (T := TX5) (N := 5) (v := .int (M (222 + i1) 4)) hx hb hts hinX5 hown hK hP (by omega) (lyMPol (by omega)) rfl 4 (by decide) w313 (fun _ h9 => h9) rfl dX10_actionBy_35 ?_
    refine w_pc 38 rfl ?_
    refine lv_icmp_lt (tgt := 51) hx hb dX10_actionBy_38 (by decide) (fun q38 => ?_) (fun q38 => ?_)
    · replace h := (if_pos q38).symm.trans h
      refine w_pc 51 rfl ?_
      refine lv_iload_n hx hb dX10_actionBy_51 rfl (lv_at hl 0 rfl) ?_
      exact re_i hx hb hr hlk (sm_r h) hP hS dX10_actionBy_52
    · replace h := (if_neg q38).symm.trans h
      refine w_pc 41 rfl ?_
      refine lv_iload_n hx hb dX10_actionBy_41 rfl (lv_at hl 0 rfl) ?_
      refine w_pc 42 rfl ?_
      refine lv_if_le (tgt := 51) hx hb dX10_actionBy_42 (by decide) (fun q42 => ?_) (fun q42 => ?_)
      · replace h := (if_pos q42).symm.trans h
        refine w_pc 51 rfl ?_
        refine lv_iload_n hx hb dX10_actionBy_51 rfl (lv_at hl 0 rfl) ?_
        exact re_i hx hb hr hlk (sm_r h) hP hS dX10_actionBy_52
      · replace h := (if_neg q42).symm.trans h
        refine w_pc 45 rfl ?_
        refine lv_iload_n hx hb dX10_actionBy_45 rfl (lv_at hl 0 rfl) ?_
        refine lv_iconst (v := 1) hx hb dX10_actionBy_46 (by decide) ?_
        refine lv_isub hx hb dX10_actionBy_47 ?_
        refine lv_goto (tgt := 52) hx hb dX10_actionBy_48 (by decide) ?_
        exact re_i hx hb hr hlk (sm_r h) hP hS dX10_actionBy_52
  refine w_entry ha (Nat.le_of_ble_eq_true rfl) (fun ls hl => ?_)
  have hl : lv_has ls 4 [(0, .ref (ad 0)), (1, .ref (ad (222 + i1))), (2, .int a2)] := hl
  refine w_pc 0 rfl ?_
  refine lv_aload_n hx hb dX10_actionBy_0 rfl (lv_at hl 0 rfl) ?_
  refine gw_get (C := RX10) (T := TX10) (N := 8) (v := .ref (ad 1)) hx hb hts hinX10 hown hK hP (by omega) lyMMA rfl 0 (by decide) w11 (fun _ h9 => h9) rfl dX10_actionBy_1 ?_
  refine lv_aload_n hx hb dX10_actionBy_4 rfl (lv_at hl 0 rfl) ?_
  refine gw_get (C := RX10) (T := TX10) (N := 8) (v := .ref (ad 243)) hx hb hts hinX10 hown hK hP (by omega) lyMMA rfl 3 (by decide) w30 (fun _ h9 => h9) rfl dX10_actionBy_5 ?_
  refine gw_get (C := RX4) (T := TX4) (N := 13) (v := .int (M 243 2)) hx hb hts hinX4 hown hK hP (by omega) lyMMail rfl 2 (by decide) w228 (fun _ h9 => h9) rfl dX10_actionBy_8 ?_
  obtain ⟨g11, h⟩ := gd_in h
  have b11 := some_lo g11
  refine gw_aald hx hb hK hP 2 (by omega) lyMaDom rfl g11 dX10_actionBy_11 ?_
  refine gw_get (C := RX1) (T := TX1) (N := 8) (v := .ref (ad (222 + (M 243 2).toNatClampNeg))) hx hb hts hinX1 hown hK hP (by omega) (lyMDom (by omega)) rfl 7 (by decide) w112 (fun _ h9 => h9) rfl dX10_actionBy_12 ?_
  refine w_pc 15 rfl ?_
  refine gw_get (C := RX5) (T := TX5) (N := 5) (v := .int (M (222 + (M 243 2).toNatClampNeg) 0)) hx hb hts hinX5 hown hK hP (by omega) (lyMPol (by omega)) rfl 0 (by decide) w115 (fun _ h9 => h9) rfl dX10_actionBy_15 ?_
  refine w_pc 18 rfl ?_
  refine lv_if_eq (tgt := 28) hx hb dX10_actionBy_18 (by decide) (fun q18 => ?_) (fun q18 => ?_)
  · replace h := (if_pos q18).symm.trans h
    refine w_pc 28 rfl ?_
    refine lv_aload_n hx hb dX10_actionBy_28 rfl (lv_at hl 1 rfl) ?_
    refine gw_get (C := RX5) (T := TX5) (N := 5) (v := .int (M (222 + i1) 2)) hx hb hts hinX5 hown hK hP (by omega) (lyMPol (by omega)) rfl 2 (by decide) w310 (fun _ h9 => h9) rfl dX10_actionBy_29 ?_
    exact bk32 (M (222 + i1) 2) ls _ _ (lv_sub hl [1, 2] rfl) h hP hS
  · replace h := (if_neg q18).symm.trans h
    refine w_pc 21 rfl ?_
    refine lv_aload_n hx hb dX10_actionBy_21 rfl (lv_at hl 1 rfl) ?_
    refine gw_get (C := RX5) (T := TX5) (N := 5) (v := .int (M (222 + i1) 1)) hx hb hts hinX5 hown hK hP (by omega) (lyMPol (by omega)) rfl 1 (by decide) w307 (fun _ h9 => h9) rfl dX10_actionBy_22 ?_
    refine lv_goto (tgt := 32) hx hb dX10_actionBy_25 (by decide) ?_
    exact bk32 (M (222 + i1) 1) ls _ _ (lv_sub hl [1, 2] rfl) h hP hS
