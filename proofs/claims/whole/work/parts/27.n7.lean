def rmX11_tick : Room := { frames := 0, cells := 0, slots := 0, locals := 0 }
def fX11_tick (a1 : Int32) (M : Mm) : Option (Int32 × Mm) :=
  if a1 < 0 then (some ((-1 : Int32), M)) else (if a1 ≤ (1000 : Int32) then (nm (up2 M 0 18 ((M 0 18) + a1)) (fun M20 => some ((M20 0 18), M20))) else (some ((-1 : Int32), M)))
set_option maxRecDepth 100000 in
set_option maxHeartbeats 4000000 in
theorem kX11_tick (l : Launch) (D : va_G) (ad : Nat → Nat) (cA : Nat → ClassId) (A : Nat → Prop) {a1 : Int32} {M M1 : Mm} {r : Int32} (h : fX11_tick a1 M = some (r, M1)) : Met l yX11_tick wsX11_tick rmX11_tick (gPc D (tyM cA) 40 (layN ad cA) ad A M [.ref (ad 0), .int a1]) (gQi D 40 (layN ad cA) ad A M1 r) 0 0 A := by
  refine Met.ofW (cc := cX11_tick) (maxL := 2) (ret := (some .int)) (by decide) rfl ?_
  intro p e s m args below meth c s₁ B hml hv
  obtain ⟨ha, hP, hK, hD, hN⟩ := hv
  have hx := B.exec
  have hb := B.bytes
  have hr := B.returns
  have hlk := B.notSynchronized
  have hts : ∀ w ∈ lw_g, w.before args s = true := fun w h => atoms_spec (ws := wsX11_tick) B.pre w (List.mem_cons_of_mem _ h)
  have hown : s.vm.findClass RX11 = some m.cls := findClass_of_methodNamed B.named
  have hS : va_S A s.heap s.heap [] := va_S.rf
  unfold fX11_tick at h
  have w256 := hts _ wm745
  refine w_entry ha (Nat.le_of_ble_eq_true rfl) (fun ls hl => ?_)
  have hl : lv_has ls 2 [(0, .ref (ad 0)), (1, .int a1)] := hl
  refine w_pc 0 rfl ?_
  refine lv_iload_n hx hb dX11_tick_0 rfl (lv_at hl 1 rfl) ?_
  refine w_pc 1 rfl ?_
  refine lv_if_lt (tgt := 11) hx hb dX11_tick_1 (by decide) (fun q1 => ?_) (fun q1 => ?_)
  · replace h := (if_pos q1).symm.trans h
    refine w_pc 11 rfl ?_
    refine lv_iconst (v := -1) hx hb dX11_tick_11 (by decide) ?_
    exact re_i hx hb hr hlk h hP hS dX11_tick_12
  · replace h := (if_neg q1).symm.trans h
    refine w_pc 4 rfl ?_
    refine lv_iload_n hx hb dX11_tick_4 rfl (lv_at hl 1 rfl) ?_
    refine lv_sipush (v := 1000) hx hb dX11_tick_5 (by decide) ?_
    refine w_pc 8 rfl ?_
    refine lv_icmp_le (tgt := 13) hx hb dX11_tick_8 (by decide) (fun q8 => ?_) (fun q8 => ?_)
    · replace h := (if_pos q8).symm.trans h
      refine w_pc 13 rfl ?_
      refine lv_aload_n hx hb dX11_tick_13 rfl (lv_at hl 0 rfl) ?_
      refine lv_aload_n hx hb dX11_tick_14 rfl (lv_at hl 0 rfl) ?_
      refine gw_get (C := RX11) (T := TX11) (N := 55) (v := .int (M 0 18)) hx hb hts hinX11 hown hK hP (by omega) lyNMM rfl 18 (by decide) w256 (fun _ h9 => h9) rfl dX11_tick_15 ?_
      refine lv_iload_n hx hb dX11_tick_18 rfl (lv_at hl 1 rfl) ?_
      refine lv_iadd hx hb dX11_tick_19 ?_
      obtain ⟨M20, eM20, h⟩ := nm_some h
      refine gw_put (C := RX11) (T := TX11) (N := 55) (ty := .int) hx hb hts hinX11 tyX11 tyX11_ok nmX11 hown hK hP hD hS (by omega) lyNMM rfl 18 (by decide) w256 (fun _ h9 => h9) rfl (by decide +kernel) rfl rfl (Nat.le_of_ble_eq_true rfl) rfl eM20 dX11_tick_20 (fun H locs hP hS => ?_)
      refine lv_aload_n hx hb dX11_tick_23 rfl (lv_at hl 0 rfl) ?_
      refine w_pc 24 rfl ?_
      refine gw_get (C := RX11) (T := TX11) (N := 55) (v := .int (M20 0 18)) hx hb hts hinX11 hown hK hP (by omega) lyNMM rfl 18 (by decide) w256 (fun _ h9 => h9) rfl dX11_tick_24 ?_
      exact re_i hx hb hr hlk h hP hS dX11_tick_27
    · replace h := (if_neg q8).symm.trans h
      refine w_pc 11 rfl ?_
      refine lv_iconst (v := -1) hx hb dX11_tick_11 (by decide) ?_
      exact re_i hx hb hr hlk h hP hS dX11_tick_12
