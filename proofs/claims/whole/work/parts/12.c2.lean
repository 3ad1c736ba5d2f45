def rmX9_becomeRelaxed : Room := { frames := 1, cells := 0, slots := 0, locals := 21 }
def fX9_becomeRelaxed_77 (i0 : Nat) (i1 : Nat) (a2 : Int32) (K10 : Int32 → Int32 → Mm → Option Mm) (x3 : Int32) (x4 : Int32) (M : Mm) : Option Mm :=
  K10 x3 (x4 + 1) M
def fX9_becomeRelaxed_69 (i0 : Nat) (i1 : Nat) (a2 : Int32) (K10 : Int32 → Int32 → Mm → Option Mm) (x4 : Int32) (x5 : Int32) (M : Mm) : Option Mm :=
  bn1 (fX9_append i0 x5 M) (fun M74 => fX9_becomeRelaxed_77 i0 i1 a2 K10 (0 : Int32) x4 M74)
def fX9_becomeRelaxed_63 (i0 : Nat) (i1 : Nat) (a2 : Int32) (K10 : Int32 → Int32 → Mm → Option Mm) (x4 : Int32) (x5 : Int32) (M : Mm) : Option Mm :=
  bn1 (fX9_append i0 (32 : Int32) M) (fun M66 => fX9_becomeRelaxed_69 i0 i1 a2 K10 x4 x5 M66)
def fX9_becomeRelaxed_10 (i0 : Nat) (i1 : Nat) (a2 : Int32) : Nat → Int32 → Int32 → Mm → Option Mm
  | 0, _, _, _ => none
  | n + 1, x3, x4, M => if (M (246 + i1) 1) ≤ x4 then (some M) else (grd (gin x4 (tlen i1)) (nm (M (254 + i1) x4.toNatClampNeg) (fun v26 => bn1 (fX10_isBlank v26) (fun v30 => if v30 = 0 then (if x3 = 0 then (fX9_becomeRelaxed_69 i0 i1 a2 (fX9_becomeRelaxed_10 i0 i1 a2 n) x4 v26 M) else (if v26 = (10 : Int32) then (fX9_becomeRelaxed_69 i0 i1 a2 (fX9_becomeRelaxed_10 i0 i1 a2 n) x4 v26 M) else (if a2 = 0 then (if (M (246 + i0) 1) ≤ 0 then (fX9_becomeRelaxed_69 i0 i1 a2 (fX9_becomeRelaxed_10 i0 i1 a2 n) x4 v26 M) else (fX9_becomeRelaxed_63 i0 i1 a2 (fX9_becomeRelaxed_10 i0 i1 a2 n) x4 v26 M)) else (fX9_becomeRelaxed_63 i0 i1 a2 (fX9_becomeRelaxed_10 i0 i1 a2 n) x4 v26 M)))) else (fX9_becomeRelaxed_77 i0 i1 a2 (fX9_becomeRelaxed_10 i0 i1 a2 n) (1 : Int32) x4 M)))))
def fX9_becomeRelaxed (i0 : Nat) (i1 : Nat) (a2 : Int32) (M : Mm) : Option Mm :=
  nm (up2 M (246 + i0) 1 (0 : Int32)) (fun M2 => fX9_becomeRelaxed_10 i0 i1 a2 FU (0 : Int32) (0 : Int32) M2)
set_option maxRecDepth 100000 in
set_option maxHeartbeats 4000000 in
theorem kX9_becomeRelaxed (l : Launch) (D : va_G) (ad : Nat → Nat) (cA : Nat → ClassId) (A : Nat → Prop) {i0 : Nat} {i1 : Nat} {a2 : Int32} {M M1 : Mm} (hi0 : i0 < 8) (hi1 : i1 < 8) (h : fX9_becomeRelaxed i0 i1 a2 M = some M1) : Met l yX9_becomeRelaxed wsX9_becomeRelaxed rmX9_becomeRelaxed (gPc D (tyM cA) 289 (layM ad cA) ad A M [.ref (ad (246 + i0)), .ref (ad (246 + i1)), .int a2]) (gQv D 289 (layM ad cA) ad A M1) 0 0 A := by
  refine Met.ofW (cc := cX9_becomeRelaxed) (maxL := 6) (ret := none) (by decide) rfl ?_
  intro p e s m args below meth c s₁ B hml hv
  obtain ⟨ha, hP, hK, hD, hN⟩ := hv
  have hx := B.exec
  have hb := B.bytes
  have hr := B.returns
  have hlk := B.notSynchronized
  have hts : ∀ w ∈ lw_g, w.before args s = true := fun w h => atoms_spec (ws := wsX9_becomeRelaxed) B.pre w (List.mem_cons_of_mem _ h)
  have hown : s.vm.findClass RX9 = some m.cls := findClass_of_methodNamed B.named
  have hS : va_S A s.heap s.heap [] := va_S.rf
  unfold fX9_becomeRelaxed at h
  have w15 := hts _ wm206
  have w9 := hts _ wm204
  have lp10 : ∀ (n : Nat) (x3 : Int32) (x4 : Int32) (M : Mm) (ls : Array Slot) (H : Heap) (locs : List Loc), lv_has ls 6 [(0, .ref (ad (246 + i0))), (1, .ref (ad (246 + i1))), (2, .int a2), (3, .int x3), (4, .int x4)] → fX9_becomeRelaxed_10 i0 i1 a2 n x3 x4 M = some M1 → va_P D vwCl (gw 289 (layM ad cA) ad M) H → va_S A s.heap H locs → W p l e (headSpec wsX9_becomeRelaxed rmX9_becomeRelaxed).room s m args below meth c H locs 0 0 (MQ below (gQv D 289 (layM ad cA) ad A M1) args s 0 0 A) (F0 m 10 ls []) := by
    intro n
    induction n with
    | zero =>
      intro x3 x4 M ls H locs hl h hP hS
      rw [fX9_becomeRelaxed_10] at h
      cases h
    | succ n ih10 =>
      have bk77 : ∀ (x3 : Int32) (x4 : Int32) (M : Mm) (ls : Array Slot) (H : Heap) (locs : List Loc), lv_has ls 6 [(0, .ref (ad (246 + i0))), (1, .ref (ad (246 + i1))), (2, .int a2), (3, .int x3), (4, .int x4)] → fX9_becomeRelaxed_77 i0 i1 a2 (fX9_becomeRelaxed_10 i0 i1 a2 n) x3 x4 M = some M1 → va_P D vwCl (gw 289 (layM ad cA) ad M) H → va_S A s.heap H locs → W p l e (headSpec wsX9_becomeRelaxed rmX9_becomeRelaxed).room s m args below meth c H locs 0 0 (MQ below (gQv D 289 (layM ad cA) ad A M1) args s 0 0 A) (F0 m 77 ls []) := by
        intro x3 x4 M ls H locs hl h hP hS
        unfold fX9_becomeRelaxed_77 at h
        refine w_pc 77 rfl ?_
        refine lv_iinc (k := 4) (v := x4 + 1) (lv' := [(4, .int (x4 + 1)), (0, .ref (ad (246 + i0))), (1, .ref (ad (246 + i1))), (2, .int a2), (3, .int x3)]) hx hb dX9_becomeRelaxed_77 hl rfl rfl (by decide) rfl (fun ls hl => ?_)
        refine lv_goto (tgt := 10) hx hb dX9_becomeRelaxed_80 (by decide) ?_
        exact ih10 x3 (x4 + 1) M ls _ _ (lv_sub hl [1, 2, 3, 4, 0] rfl) h hP hS
      have bk69 : ∀ (x4 : Int32) (x5 : Int32) (M : Mm) (ls : Array Slot) (H : Heap) (locs : List Loc), lv_has ls 6 [(0, .ref (ad (246 + i0))), (1, .ref (ad (246 + i1))), (2, .int a2), (4, .int x4), (5, .int x5)] → fX9_becomeRelaxed_69 i0 i1 a2 (fX9_becomeRelaxed_10 i0 i1 a2 n) x4 x5 M = some M1 → va_P D vwCl (gw 289 (layM ad cA) ad M) H → va_S A s.heap H locs → W p l e (headSpec wsX9_becomeRelaxed rmX9_becomeRelaxed).room s m args below meth c H locs 0 0 (MQ below (gQv D 289 (layM ad cA) ad A M1) args s 0 0 A) (F0 m 69 ls []) := by
        intro x4 x5 M ls H locs hl h hP hS
        unfold fX9_becomeRelaxed_69 at h
        refine w_pc 69 rfl ?_
        refine lv_iconst (v := 0) hx hb dX9_becomeRelaxed_69 (by decide) ?_
        refine lv_istore_n (lv' := [(3, .int (0 : Int32)), (0, .ref (ad (246 + i0))), (1, .ref (ad (246 + i1))), (2, .int a2), (4, .int x4), (5, .int x5)]) hx hb dX9_becomeRelaxed_70 rfl hl (by decide) rfl (fun ls hl => ?_)
        refine lv_aload_n hx hb dX9_becomeRelaxed_71 rfl (lv_at hl 1 rfl) ?_
        refine lv_iload hx hb dX9_becomeRelaxed_72 (lv_at hl 5 rfl) ?_
        refine w_pc 74 rfl ?_
        obtain ⟨M74, c74, h⟩ := bn1_some h
        refine cl_v (rn_v (As := [.int x5]) (rest := []) ⟨hx, hb, hml, hown, hts⟩ (kX9_append l D ad cA A (by omega) c74) ⟨callB_of 1 hts (gdc wm494) rfl rfl rfl (hts _ wm56) (hts _ wm491) hdX9_append ⟨Nat.le_of_ble_eq_true rfl, Nat.le_of_ble_eq_true rfl⟩, hts _ wm493, hts _ wm2⟩ hK hP hD hN (by omega) (lyMText (by omega)) rfl rfl hl.1 rfl (lv_room (Nat.le_of_ble_eq_true rfl)) dX9_becomeRelaxed_74) hS (fun H locs hP hS => ?_)
        refine w_pc 77 rfl ?_
        exact bk77 (0 : Int32) x4 M74 ls _ _ (lv_sub hl [1, 2, 3, 0, 4] rfl) h hP hS
      have bk63 : ∀ (x4 : Int32) (x5 : Int32) (M : Mm) (ls : Array Slot) (H : Heap) (locs : List Loc), lv_has ls 6 [(0, .ref (ad (246 + i0))), (1, .ref (ad (246 + i1))), (2, .int a2), (4, .int x4), (5, .int x5)] → fX9_becomeRelaxed_63 i0 i1 a2 (fX9_becomeRelaxed_10 i0 i1 a2 n) x4 x5 M = some M1 → va_P D vwCl (gw 289 (layM ad cA) ad M) H → va_S A s.heap H locs → W p l e (headSpec wsX9_becomeRelaxed rmX9_becomeRelaxed).room s m args below meth c H locs 0 0 (MQ below (gQv D 289 (layM ad cA) ad A M1) args s 0 0 A) (F0 m 63 ls []) := by
        intro x4 x5 M ls H locs hl h hP hS
        unfold fX9_becomeRelaxed_63 at h
        refine w_pc 63 rfl ?_
        refine lv_aload_n hx hb dX9_becomeRelaxed_63 rfl (lv_at hl 0 rfl) ?_
        refine lv_bipush (v := 32) hx hb dX9_becomeRelaxed_64 (by decide) ?_
        refine w_pc 66 rfl ?_
        obtain ⟨M66, c66, h⟩ := bn1_some h
        refine cl_v (rn_v (As := [.int (32 : Int32)]) (rest := []) ⟨hx, hb, hml, hown, hts⟩ (kX9_append l D ad cA A (by omega) c66) ⟨callB_of 1 hts (gdc wm494) rfl rfl rfl (hts _ wm56) (hts _ wm491) hdX9_append ⟨Nat.le_of_ble_eq_true rfl, Nat.le_of_ble_eq_true rfl⟩, hts _ wm493, hts _ wm2⟩ hK hP hD hN (by omega) (lyMText (by omega)) rfl rfl hl.1 rfl (lv_room (Nat.le_of_ble_eq_true rfl)) dX9_becomeRelaxed_66) hS (fun H locs hP hS => ?_)
        refine w_pc 69 rfl ?_
        exact bk69 x4 x5 M66 ls _ _ (lv_sub hl [0, 1, 2, 3, 4] rfl) h hP hS
      intro x3 x4 M ls H locs hl h hP hS
      rw [fX9_becomeRelaxed_10] at h
      refine w_pc 10 rfl ?_
      refine lv_iload hx hb dX9_becomeRelaxed_10 (lv_at hl 4 rfl) ?_
      refine lv_aload_n hx hb dX9_becomeRelaxed_12 rfl (lv_at hl 1 rfl) ?_
      refine gw_get (C := RX9) (T := TX9) (N := 2) (v := .int (M (246 + i1) 1)) hx hb hts hinX9 hown hK hP (by omega) (lyMText (by omega)) rfl 1 (by decide) w15 (fun _ h9 => h9) rfl dX9_becomeRelaxed_13 ?_
      refine w_pc 16 rfl ?_
      refine lv_icmp_ge (tgt := 83) hx hb dX9_becomeRelaxed_16 (by decide) (fun q16 => ?_) (fun q16 => ?_)
      · replace h := (if_pos q16).symm.trans h
        refine w_pc 83 rfl ?_
        exact re_v hx hb hr hlk h hP hS dX9_becomeRelaxed_83
      · replace h := (if_neg q16).symm.trans h
        refine w_pc 19 rfl ?_
        refine lv_aload_n hx hb dX9_becomeRelaxed_19 rfl (lv_at hl 1 rfl) ?_
        refine gw_get (C := RX9) (T := TX9) (N := 2) (v := .ref (ad (254 + i1))) hx hb hts hinX9 hown hK hP (by omega) (lyMText (by omega)) rfl 0 (by decide) w9 (fun _ h9 => h9) rfl dX9_becomeRelaxed_20 ?_
        refine lv_iload hx hb dX9_becomeRelaxed_23 (lv_at hl 4 rfl) ?_
        obtain ⟨g25, h⟩ := gd_in h
        refine gw_iald hx hb hK hP 0 (by omega) (lyMaCh (by omega)) rfl g25 dX9_becomeRelaxed_25 ?_
        obtain ⟨v26, e26, h⟩ := nm_some h
        refine w_ti e26 ?_
        refine lv_istore (lv' := [(5, .int v26), (0, .ref (ad (246 + i0))), (1, .ref (ad (246 + i1))), (2, .int a2), (3, .int x3), (4, .int x4)]) hx hb dX9_becomeRelaxed_26 hl (by decide) rfl (fun ls hl => ?_)
        refine lv_iload hx hb dX9_becomeRelaxed_28 (lv_at hl 0 rfl) ?_
        refine w_pc 30 rfl ?_
        obtain ⟨v30, c30, h⟩ := bn1_some h
        refine cl_i (rn_sN (As := [.int v26]) (rest := []) ⟨hx, hb, hml, hown, hts⟩ (kX10_isBlank l D ad cA A (M := M) c30) ⟨va_cnB 1 hts (gdc wm509) rfl rfl rfl (hN _ nw12) (hts _ wm50) hdX10_isBlank ⟨Nat.le_of_ble_eq_true rfl, Nat.le_of_ble_eq_true rfl⟩, hts _ wm508, trivial⟩ hK hP hD hN rfl hl.1 rfl (lv_room (Nat.le_of_ble_eq_true rfl)) dX9_becomeRelaxed_30) hS (fun H locs hP hS => ?_)
        refine w_pc 33 rfl ?_
        refine w_pc 33 rfl ?_
        refine lv_if_eq (tgt := 41) hx hb dX9_becomeRelaxed_33 (by decide) (fun q33 => ?_) (fun q33 => ?_)
        · replace h := (if_pos q33).symm.trans h
          refine w_pc 41 rfl ?_
          refine lv_iload_n hx hb dX9_becomeRelaxed_41 rfl (lv_at hl 4 rfl) ?_
          refine w_pc 42 rfl ?_
          refine lv_if_eq (tgt := 69) hx hb dX9_becomeRelaxed_42 (by decide) (fun q42 => ?_) (fun q42 => ?_)
          · replace h := (if_pos q42).symm.trans h
            refine w_pc 69 rfl ?_
            exact bk69 x4 v26 M ls _ _ (lv_sub hl [1, 2, 3, 5, 0] rfl) h hP hS
          · replace h := (if_neg q42).symm.trans h
            refine w_pc 45 rfl ?_
            refine lv_iload hx hb dX9_becomeRelaxed_45 (lv_at hl 0 rfl) ?_
            refine lv_bipush (v := 10) hx hb dX9_becomeRelaxed_47 (by decide) ?_
            refine w_pc 49 rfl ?_
            refine lv_icmp_eq (tgt := 69) hx hb dX9_becomeRelaxed_49 (by decide) (fun q49 => ?_) (fun q49 => ?_)
            · replace h := (if_pos q49).symm.trans h
              refine w_pc 69 rfl ?_
              exact bk69 x4 v26 M ls _ _ (lv_sub hl [1, 2, 3, 5, 0] rfl) h hP hS
            · replace h := (if_neg q49).symm.trans h
              refine w_pc 52 rfl ?_
              refine lv_iload_n hx hb dX9_becomeRelaxed_52 rfl (lv_at hl 3 rfl) ?_
              refine w_pc 53 rfl ?_
              refine lv_if_ne (tgt := 63) hx hb dX9_becomeRelaxed_53 (by decide) (fun q53 => ?_) (fun q53 => ?_)
              · replace h := (if_neg q53).symm.trans h
                refine w_pc 63 rfl ?_
                exact bk63 x4 v26 M ls _ _ (lv_sub hl [1, 2, 3, 5, 0] rfl) h hP hS
              · replace h := (if_pos q53).symm.trans h
                refine w_pc 56 rfl ?_
                refine lv_aload_n hx hb dX9_becomeRelaxed_56 rfl (lv_at hl 1 rfl) ?_
                refine gw_get (C := RX9) (T := TX9) (N := 2) (v := .int (M (246 + i0) 1)) hx hb hts hinX9 hown hK hP (by omega) (lyMText (by omega)) rfl 1 (by decide) w15 (fun _ h9 => h9) rfl dX9_becomeRelaxed_57 ?_
                refine w_pc 60 rfl ?_
                refine lv_if_le (tgt := 69) hx hb dX9_becomeRelaxed_60 (by decide) (fun q60 => ?_) (fun q60 => ?_)
                · replace h := (if_pos q60).symm.trans h
                  refine w_pc 69 rfl ?_
                  exact bk69 x4 v26 M ls _ _ (lv_sub hl [1, 2, 3, 5, 0] rfl) h hP hS
                · replace h := (if_neg q60).symm.trans h
                  refine w_pc 63 rfl ?_
                  exact bk63 x4 v26 M ls _ _ (lv_sub hl [1, 2, 3, 5, 0] rfl) h hP hS
        · replace h := (if_neg q33).symm.trans h
          refine w_pc 36 rfl ?_
          refine lv_iconst (v := 1) hx hb dX9_becomeRelaxed_36 (by decide) ?_
          refine lv_istore_n (lv' := [(3, .int (1 : Int32)), (5, .int v26), (0, .ref (ad (246 + i0))), (1, .ref (ad (246 + i1))), (2, .int a2), (4, .int x4)]) hx hb dX9_becomeRelaxed_37 rfl hl (by decide) rfl (fun ls hl => ?_)
          refine lv_goto (tgt := 77) hx hb dX9_becomeRelaxed_38 (by decide) ?_
          exact bk77 (1 : Int32) x4 M ls _ _ (lv_sub hl [2, 3, 4, 0, 5] rfl) h hP hS
  refine w_entry ha (Nat.le_of_ble_eq_true rfl) (fun ls hl => ?_)
  have hl : lv_has ls 6 [(0, .ref (ad (246 + i0))), (1, .ref (ad (246 + i1))), (2, .int a2)] := hl
  refine w_pc 0 rfl ?_
  refine lv_aload_n hx hb dX9_becomeRelaxed_0 rfl (lv_at hl 0 rfl) ?_
  refine lv_iconst (v := 0) hx hb dX9_becomeRelaxed_1 (by decide) ?_
  obtain ⟨M2, eM2, h⟩ := nm_some h
  refine gw_put (C := RX9) (T := TX9) (N := 2) (ty := .int) hx hb hts hinX9 tyX9 tyX9_ok nmX9 hown hK hP hD hS (by omega) (lyMText (by omega)) rfl 1 (by decide) w15 (fun _ h9 => h9) rfl (by decide +kernel) rfl rfl (Nat.le_of_ble_eq_true rfl) rfl eM2 dX9_becomeRelaxed_2 (fun H locs hP hS => ?_)
  refine lv_iconst (v := 0) hx hb dX9_becomeRelaxed_5 (by decide) ?_
  refine lv_istore_n (lv' := [(3, .int (0 : Int32)), (0, .ref (ad (246 + i0))), (1, .ref (ad (246 + i1))), (2, .int a2)]) hx hb dX9_becomeRelaxed_6 rfl hl (by decide) rfl (fun ls hl => ?_)
  refine lv_iconst (v := 0) hx hb dX9_becomeRelaxed_7 (by decide) ?_
  refine lv_istore (lv' := [(4, .int (0 : Int32)), (3, .int (0 : Int32)), (0, .ref (ad (246 + i0))), (1, .ref (ad (246 + i1))), (2, .int a2)]) hx hb dX9_becomeRelaxed_8 hl (by decide) rfl (fun ls hl => ?_)
  exact lp10 FU (0 : Int32) (0 : Int32) M2 ls _ _ (lv_sub hl [2, 3, 4, 1, 0] rfl) h hP hS
def rmX9_becomeSimple : Room := { frames := 1, cells := 0, slots := 0, locals := 21 }
def fX9_becomeSimple_7 (i0 : Nat) (i1 : Nat) : Nat → Int32 → Mm → Option Mm
  | 0, _, _ => none
  | n + 1, x2, M => if (M (246 + i1) 1) ≤ x2 then (some M) else (grd (gin x2 (tlen i1)) (bn1 (fX9_append i0 (M (254 + i1) x2.toNatClampNeg) M) (fun M22 => (fX9_becomeSimple_7 i0 i1 n) (x2 + 1) M22)))
def fX9_becomeSimple (i0 : Nat) (i1 : Nat) (M : Mm) : Option Mm :=
  nm (up2 M (246 + i0) 1 (0 : Int32)) (fun M2 => fX9_becomeSimple_7 i0 i1 FU (0 : Int32) M2)
set_option maxRecDepth 100000 in
set_option maxHeartbeats 4000000 in
theorem kX9_becomeSimple (l : Launch) (D : va_G) (ad : Nat → Nat) (cA : Nat → ClassId) (A : Nat → Prop) {i0 : Nat} {i1 : Nat} {M M1 : Mm} (hi0 : i0 < 8) (hi1 : i1 < 8) (h : fX9_becomeSimple i0 i1 M = some M1) : Met l yX9_becomeSimple wsX9_becomeSimple rmX9_becomeSimple (gPc D (tyM cA) 289 (layM ad cA) ad A M [.ref (ad (246 + i0)), .ref (ad (246 + i1))]) (gQv D 289 (layM ad cA) ad A M1) 0 0 A := by
  refine Met.ofW (cc := cX9_becomeSimple) (maxL := 3) (ret := none) (by decide) rfl ?_
  intro p e s m args below meth c s₁ B hml hv
  obtain ⟨ha, hP, hK, hD, hN⟩ := hv
  have hx := B.exec
  have hb := B.bytes
  have hr := B.returns
  have hlk := B.notSynchronized
  have hts : ∀ w ∈ lw_g, w.before args s = true := fun w h => atoms_spec (ws := wsX9_becomeSimple) B.pre w (List.mem_cons_of_mem _ h)
  have hown : s.vm.findClass RX9 = some m.cls := findClass_of_methodNamed B.named
  have hS : va_S A s.heap s.heap [] := va_S.rf
  unfold fX9_becomeSimple at h
  have w15 := hts _ wm206
  have w9 := hts _ wm204
  have lp7 : ∀ (n : Nat) (x2 : Int32) (M : Mm) (ls : Array Slot) (H : Heap) (locs : List Loc), lv_has ls 3 [(0, .ref (ad (246 + i0))), (1, .ref (ad (246 + i1))), (2, .int x2)] → fX9_becomeSimple_7 i0 i1 n x2 M = some M1 → va_P D vwCl (gw 289 (layM ad cA) ad M) H → va_S A s.heap H locs → W p l e (headSpec wsX9_becomeSimple rmX9_becomeSimple).room s m args below meth c H locs 0 0 (MQ below (gQv D 289 (layM ad cA) ad A M1) args s 0 0 A) (F0 m 7 ls []) := by
    intro n
    induction n with
    | zero =>
      intro x2 M ls H locs hl h hP hS
      rw [fX9_becomeSimple_7] at h
      cases h
    | succ n ih7 =>
      intro x2 M ls H locs hl h hP hS
      rw [fX9_becomeSimple_7] at h
      refine w_pc 7 rfl ?_
      refine lv_iload_n hx hb dX9_becomeSimple_7 rfl (lv_at hl 2 rfl) ?_
      refine lv_aload_n hx hb dX9_becomeSimple_8 rfl (lv_at hl 1 rfl) ?_
      refine gw_get (C := RX9) (T := TX9) (N := 2) (v := .int (M (246 + i1) 1)) hx hb hts hinX9 hown hK hP (by omega) (lyMText (by omega)) rfl 1 (by decide) w15 (fun _ h9 => h9) rfl dX9_becomeSimple_9 ?_
      refine w_pc 12 rfl ?_
      refine lv_icmp_ge (tgt := 31) hx hb dX9_becomeSimple_12 (by decide) (fun q12 => ?_) (fun q12 => ?_)
      · replace h := (if_pos q12).symm.trans h
        refine w_pc 31 rfl ?_
        exact re_v hx hb hr hlk h hP hS dX9_becomeSimple_31
      · replace h := (if_neg q12).symm.trans h
        refine w_pc 15 rfl ?_
        refine lv_aload_n hx hb dX9_becomeSimple_15 rfl (lv_at hl 0 rfl) ?_
        refine lv_aload_n hx hb dX9_becomeSimple_16 rfl (lv_at hl 1 rfl) ?_
        refine gw_get (C := RX9) (T := TX9) (N := 2) (v := .ref (ad (254 + i1))) hx hb hts hinX9 hown hK hP (by omega) (lyMText (by omega)) rfl 0 (by decide) w9 (fun _ h9 => h9) rfl dX9_becomeSimple_17 ?_
        refine lv_iload_n hx hb dX9_becomeSimple_20 rfl (lv_at hl 2 rfl) ?_
        obtain ⟨g21, h⟩ := gd_in h
        refine gw_iald hx hb hK hP 0 (by omega) (lyMaCh (by omega)) rfl g21 dX9_becomeSimple_21 ?_
        refine w_pc 22 rfl ?_
        obtain ⟨M22, c22, h⟩ := bn1_some h
        refine cl_v (rn_v (As := [.int (M (254 + i1) x2.toNatClampNeg)]) (rest := []) ⟨hx, hb, hml, hown, hts⟩ (kX9_append l D ad cA A (by omega) c22) ⟨callB_of 1 hts (gdc wm494) rfl rfl rfl (hts _ wm56) (hts _ wm491) hdX9_append ⟨Nat.le_of_ble_eq_true rfl, Nat.le_of_ble_eq_true rfl⟩, hts _ wm493, hts _ wm2⟩ hK hP hD hN (by omega) (lyMText (by omega)) rfl rfl hl.1 rfl (lv_room (Nat.le_of_ble_eq_true rfl)) dX9_becomeSimple_22) hS (fun H locs hP hS => ?_)
        refine w_pc 25 rfl ?_
        refine lv_iinc (k := 2) (v := x2 + 1) (lv' := [(2, .int (x2 + 1)), (0, .ref (ad (246 + i0))), (1, .ref (ad (246 + i1)))]) hx hb dX9_becomeSimple_25 hl rfl rfl (by decide) rfl (fun ls hl => ?_)
        refine lv_goto (tgt := 7) hx hb dX9_becomeSimple_28 (by decide) ?_
        exact ih7 (x2 + 1) M22 ls _ _ (lv_sub hl [1, 2, 0] rfl) h hP hS
  refine w_entry ha (Nat.le_of_ble_eq_true rfl) (fun ls hl => ?_)
  have hl : lv_has ls 3 [(0, .ref (ad (246 + i0))), (1, .ref (ad (246 + i1)))] := hl
  refine w_pc 0 rfl ?_
  refine lv_aload_n hx hb dX9_becomeSimple_0 rfl (lv_at hl 0 rfl) ?_
  refine lv_iconst (v := 0) hx hb dX9_becomeSimple_1 (by decide) ?_
  obtain ⟨M2, eM2, h⟩ := nm_some h
  refine gw_put (C := RX9) (T := TX9) (N := 2) (ty := .int) hx hb hts hinX9 tyX9 tyX9_ok nmX9 hown hK hP hD hS (by omega) (lyMText (by omega)) rfl 1 (by decide) w15 (fun _ h9 => h9) rfl (by decide +kernel) rfl rfl (Nat.le_of_ble_eq_true rfl) rfl eM2 dX9_becomeSimple_2 (fun H locs hP hS => ?_)
  refine lv_iconst (v := 0) hx hb dX9_becomeSimple_5 (by decide) ?_
  refine lv_istore_n (lv' := [(2, .int (0 : Int32)), (0, .ref (ad (246 + i0))), (1, .ref (ad (246 + i1)))]) hx hb dX9_becomeSimple_6 rfl hl (by decide) rfl (fun ls hl => ?_)
  exact lp7 FU (0 : Int32) M2 ls _ _ (lv_sub hl [1, 2, 0] rfl) h hP hS
def rmX9_endWithOneLineEnd : Room := { frames := 1, cells := 0, slots := 0, locals := 21 }
def fX9_endWithOneLineEnd_36 (i0 : Nat) (M : Mm) : Option Mm :=
  bn1 (fX9_append i0 (10 : Int32) M) (fun M39 => some M39)
def fX9_endWithOneLineEnd_0 (i0 : Nat) : Nat → Mm → Option Mm
  | 0, _ => none
  | n + 1, M => if (M (246 + i0) 1) ≤ 0 then (fX9_endWithOneLineEnd_36 i0 M) else (grd (gin ((M (246 + i0) 1) - (1 : Int32)) (tlen i0)) (if (M (254 + i0) ((M (246 + i0) 1) - (1 : Int32)).toNatClampNeg) = (10 : Int32) then (nm (up2 M (246 + i0) 1 ((M (246 + i0) 1) - (1 : Int32))) (fun M30 => (fX9_endWithOneLineEnd_0 i0 n) M30)) else (fX9_endWithOneLineEnd_36 i0 M)))
def fX9_endWithOneLineEnd (i0 : Nat) (M : Mm) : Option Mm :=
  fX9_endWithOneLineEnd_0 i0 FU M
set_option maxRecDepth 100000 in
set_option maxHeartbeats 4000000 in
theorem kX9_endWithOneLineEnd (l : Launch) (D : va_G) (ad : Nat → Nat) (cA : Nat → ClassId) (A : Nat → Prop) {i0 : Nat} {M M1 : Mm} (hi0 : i0 < 8) (h : fX9_endWithOneLineEnd i0 M = some M1) : Met l yX9_endWithOneLineEnd wsX9_endWithOneLineEnd rmX9_endWithOneLineEnd (gPc D (tyM cA) 289 (layM ad cA) ad A M [.ref (ad (246 + i0))]) (gQv D 289 (layM ad cA) ad A M1) 0 0 A := by
  refine Met.ofW (cc := cX9_endWithOneLineEnd) (maxL := 1) (ret := none) (by decide) rfl ?_
  intro p e s m args below meth c s₁ B hml hv
  obtain ⟨ha, hP, hK, hD, hN⟩ := hv
  have hx := B.exec
  have hb := B.bytes
  have hr := B.returns
  have hlk := B.notSynchronized
  have hts : ∀ w ∈ lw_g, w.before args s = true := fun w h => atoms_spec (ws := wsX9_endWithOneLineEnd) B.pre w (List.mem_cons_of_mem _ h)
  have hown : s.vm.findClass RX9 = some m.cls := findClass_of_methodNamed B.named
  have hS : va_S A s.heap s.heap [] := va_S.rf
  unfold fX9_endWithOneLineEnd at h
  have w15 := hts _ wm206
  have w9 := hts _ wm204
  have bk36 : ∀ (M : Mm) (ls : Array Slot) (H : Heap) (locs : List Loc), lv_has ls 1 [(0, .ref (ad (246 + i0)))] → fX9_endWithOneLineEnd_36 i0 M = some M1 → va_P D vwCl (gw 289 (layM ad cA) ad M) H → va_S A s.heap H locs → W p l e (headSpec wsX9_endWithOneLineEnd rmX9_endWithOneLineEnd).room s m args below meth c H locs 0 0 (MQ below (gQv D 289 (layM ad cA) ad A M1) args s 0 0 A) (F0 m 36 ls []) := by
    intro M ls H locs hl h hP hS
    unfold fX9_endWithOneLineEnd_36 at h
    refine w_pc 36 rfl ?_
    refine lv_aload_n hx hb dX9_endWithOneLineEnd_36 rfl (lv_at hl 0 rfl) ?_
    refine lv_bipush (v := 10) hx hb dX9_endWithOneLineEnd_37 (by decide) ?_
    refine w_pc 39 rfl ?_
    obtain ⟨M39, c39, h⟩ := bn1_some h
    refine cl_v (rn_v (As := [.int (10 : Int32)]) (rest := []) ⟨hx, hb, hml, hown, hts⟩ (kX9_append l D ad cA A (by omega) c39) ⟨callB_of 1 hts (gdc wm494) rfl rfl rfl (hts _ wm56) (hts _ wm491) hdX9_append ⟨Nat.le_of_ble_eq_true rfl, Nat.le_of_ble_eq_true rfl⟩, hts _ wm493, hts _ wm2⟩ hK hP hD hN (by omega) (lyMText (by omega)) rfl rfl hl.1 rfl (lv_room (Nat.le_of_ble_eq_true rfl)) dX9_endWithOneLineEnd_39) hS (fun H locs hP hS => ?_)
    refine w_pc 42 rfl ?_
    exact re_v hx hb hr hlk h hP hS dX9_endWithOneLineEnd_42
  have lp0 : ∀ (n : Nat) (M : Mm) (ls : Array Slot) (H : Heap) (locs : List Loc), lv_has ls 1 [(0, .ref (ad (246 + i0)))] → fX9_endWithOneLineEnd_0 i0 n M = some M1 → va_P D vwCl (gw 289 (layM ad cA) ad M) H → va_S A s.heap H locs → W p l e (headSpec wsX9_endWithOneLineEnd rmX9_endWithOneLineEnd).room s m args below meth c H locs 0 0 (MQ below (gQv D 289 (layM ad cA) ad A M1) args s 0 0 A) (F0 m 0 ls []) := by
    intro n
    induction n with
    | zero =>
      intro M ls H locs hl h hP hS
      rw [fX9_endWithOneLineEnd_0] at h
      cases h
    | succ n ih0 =>
      intro M ls H locs hl h hP hS
      rw [fX9_endWithOneLineEnd_0] at h
      refine w_pc 0 rfl ?_
      refine lv_aload_n hx hb dX9_endWithOneLineEnd_0 rfl (lv_at hl 0 rfl) ?_
      refine gw_get (C := RX9) (T := TX9) (N := 2) (v := .int (M (246 + i0) 1)) hx hb hts hinX9 hown hK hP (by omega) (lyMText (by omega)) rfl 1 (by decide) w15 (fun _ h9 => h9) rfl dX9_endWithOneLineEnd_1 ?_
      refine w_pc 4 rfl ?_
      refine lv_if_le (tgt := 36) hx hb dX9_endWithOneLineEnd_4 (by decide) (fun q4 => ?_) (fun q4 => ?_)
      · replace h := (if_pos q4).symm.trans h
        refine w_pc 36 rfl ?_
        exact bk36 M ls _ _ (lv_sub hl [0] rfl) h hP hS
      · replace h := (if_neg q4).symm.trans h
        refine w_pc 7 rfl ?_
        refine lv_aload_n hx hb dX9_endWithOneLineEnd_7 rfl (lv_at hl 0 rfl) ?_
        refine gw_get (C := RX9) (T := TX9) (N := 2) (v := .ref (ad (254 + i0))) hx hb hts hinX9 hown hK hP (by omega) (lyMText (by omega)) rfl 0 (by decide) w9 (fun _ h9 => h9) rfl dX9_endWithOneLineEnd_8 ?_
        refine lv_aload_n hx hb dX9_endWithOneLineEnd_11 rfl (lv_at hl 0 rfl) ?_
        refine gw_get (C := RX9) (T := TX9) (N := 2) (v := .int (M (246 + i0) 1)) hx hb hts hinX9 hown hK hP (by omega) (lyMText (by omega)) rfl 1 (by decide) w15 (fun _ h9 => h9) rfl dX9_endWithOneLineEnd_12 ?_
        refine lv_iconst (v := 1) hx hb dX9_endWithOneLineEnd_15 (by decide) ?_
        refine lv_isub hx hb dX9_endWithOneLineEnd_16 ?_
        obtain ⟨g17, h⟩ := gd_in h
        refine gw_iald hx hb hK hP 0 (by omega) (lyMaCh (by omega)) rfl g17 dX9_endWithOneLineEnd_17 ?_
        refine w_pc 18 rfl ?_
        refine lv_bipush (v := 10) hx hb dX9_endWithOneLineEnd_18 (by decide) ?_
        refine w_pc 20 rfl ?_
        refine lv_icmp_ne (tgt := 36) hx hb dX9_endWithOneLineEnd_20 (by decide) (fun q20 => ?_) (fun q20 => ?_)
        · replace h := (if_neg q20).symm.trans h
          refine w_pc 36 rfl ?_
          exact bk36 M ls _ _ (lv_sub hl [0] rfl) h hP hS
        · replace h := (if_pos q20).symm.trans h
          refine w_pc 23 rfl ?_
          refine lv_aload_n hx hb dX9_endWithOneLineEnd_23 rfl (lv_at hl 0 rfl) ?_
          refine lv_dup hx hb dX9_endWithOneLineEnd_24 rfl ?_
          refine gw_get (C := RX9) (T := TX9) (N := 2) (v := .int (M (246 + i0) 1)) hx hb hts hinX9 hown hK hP (by omega) (lyMText (by omega)) rfl 1 (by decide) w15 (fun _ h9 => h9) rfl dX9_endWithOneLineEnd_25 ?_
          refine lv_iconst (v := 1) hx hb dX9_endWithOneLineEnd_28 (by decide) ?_
          refine lv_isub hx hb dX9_endWithOneLineEnd_29 ?_
          obtain ⟨M30, eM30, h⟩ := nm_some h
          refine gw_put (C := RX9) (T := TX9) (N := 2) (ty := .int) hx hb hts hinX9 tyX9 tyX9_ok nmX9 hown hK hP hD hS (by omega) (lyMText (by omega)) rfl 1 (by decide) w15 (fun _ h9 => h9) rfl (by decide +kernel) rfl rfl (Nat.le_of_ble_eq_true rfl) rfl eM30 dX9_endWithOneLineEnd_30 (fun H locs hP hS => ?_)
          refine lv_goto (tgt := 0) hx hb dX9_endWithOneLineEnd_33 (by decide) ?_
          exact ih0 M30 ls _ _ (lv_sub hl [0] rfl) h hP hS
  refine w_entry ha (Nat.le_of_ble_eq_true rfl) (fun ls hl => ?_)
  have hl : lv_has ls 1 [(0, .ref (ad (246 + i0)))] := hl
  refine w_pc 0 rfl ?_
  exact lp0 FU M ls _ _ (lv_sub hl [0] rfl) h hP hS
def rmX4_bodyForm : Room := { frames := 2, cells := 0, slots := 0, locals := 46 }
def fX4_bodyForm_30 (a1 : Int32) (M : Mm) : Option (Nat × Mm) :=
  bn1 (fX9_endWithOneLineEnd 7 M) (fun M34 => some (7, M34))
def fX4_bodyForm (a1 : Int32) (M : Mm) : Option (Nat × Mm) :=
  if a1 = 0 then (bn1 (fX9_becomeSimple 7 6 M) (fun M27 => fX4_bodyForm_30 a1 M27)) else (bn1 (fX9_becomeRelaxed 7 6 (1 : Int32) M) (fun M13 => fX4_bodyForm_30 a1 M13))
set_option maxRecDepth 100000 in
set_option maxHeartbeats 4000000 in
theorem kX4_bodyForm (l : Launch) (D : va_G) (ad : Nat → Nat) (cA : Nat → ClassId) (A : Nat → Prop) {a1 : Int32} {M M1 : Mm} {r : Nat} (h : fX4_bodyForm a1 M = some (r, M1)) : Met l yX4_bodyForm wsX4_bodyForm rmX4_bodyForm (gPc D (tyM cA) 289 (layM ad cA) ad A M [.ref (ad 243), .int a1]) (gQq D 289 (layM ad cA) ad A M1 (some (ad (246 + r)))) 0 0 A := by
  refine Met.ofW (cc := cX4_bodyForm) (maxL := 2) (ret := (some (.object "MailArbiter$Text"))) (by decide) rfl ?_
  intro p e s m args below meth c s₁ B hml hv
  obtain ⟨ha, hP, hK, hD, hN⟩ := hv
  have hx := B.exec
  have hb := B.bytes
  have hr := B.returns
  have hlk := B.notSynchronized
  have hts : ∀ w ∈ lw_g, w.before args s = true := fun w h => atoms_spec (ws := wsX4_bodyForm) B.pre w (List.mem_cons_of_mem _ h)
  have hown : s.vm.findClass RX4 = some m.cls := findClass_of_methodNamed B.named
  have hS : va_S A s.heap s.heap [] := va_S.rf
  unfold fX4_bodyForm at h
  have w28 := hts _ wm293
  have w24 := hts _ wm292
  have bk30 : ∀ (M : Mm) (ls : Array Slot) (H : Heap) (locs : List Loc), lv_has ls 2 [(0, .ref (ad 243))] → fX4_bodyForm_30 a1 M = some (r, M1) → va_P D vwCl (gw 289 (layM ad cA) ad M) H → va_S A s.heap H locs → W p l e (headSpec wsX4_bodyForm rmX4_bodyForm).room s m args below meth c H locs 0 0 (MQ below (gQq D 289 (layM ad cA) ad A M1 (some (ad (246 + r)))) args s 0 0 A) (F0 m 30 ls []) := by
    intro M ls H locs hl h hP hS
    unfold fX4_bodyForm_30 at h
    refine w_pc 30 rfl ?_
    refine lv_aload_n hx hb dX4_bodyForm_30 rfl (lv_at hl 0 rfl) ?_
    refine gw_get (C := RX4) (T := TX4) (N := 13) (v := .ref (ad (246 + 7))) hx hb hts hinX4 hown hK hP (by omega) lyMMail rfl 8 (by decide) w28 (fun _ h9 => h9) rfl dX4_bodyForm_31 ?_
    refine w_pc 34 rfl ?_
    obtain ⟨M34, c34, h⟩ := bn1_some h
    refine cl_v (rn_v (As := []) (rest := []) ⟨hx, hb, hml, hown, hts⟩ (kX9_endWithOneLineEnd l D ad cA A (by omega) c34) ⟨callB_of 0 hts (gdc wm517) rfl rfl rfl (hts _ wm56) (hts _ wm514) hdX9_endWithOneLineEnd ⟨Nat.le_of_ble_eq_true rfl, Nat.le_of_ble_eq_true rfl⟩, hts _ wm515, hts _ wm516⟩ hK hP hD hN (by omega) (lyMText (by omega)) rfl rfl hl.1 rfl (lv_room (Nat.le_of_ble_eq_true rfl)) dX4_bodyForm_34) hS (fun H locs hP hS => ?_)
    refine w_pc 37 rfl ?_
    refine lv_aload_n hx hb dX4_bodyForm_37 rfl (lv_at hl 0 rfl) ?_
    refine gw_get (C := RX4) (T := TX4) (N := 13) (v := .ref (ad (246 + 7))) hx hb hts hinX4 hown hK hP (by omega) lyMMail rfl 8 (by decide) w28 (fun _ h9 => h9) rfl dX4_bodyForm_38 ?_
    exact re_a hx hb hr hlk (by cases h; rfl) hP hS dX4_bodyForm_41
  refine w_entry ha (Nat.le_of_ble_eq_true rfl) (fun ls hl => ?_)
  have hl : lv_has ls 2 [(0, .ref (ad 243)), (1, .int a1)] := hl
  refine w_pc 0 rfl ?_
  refine lv_iload_n hx hb dX4_bodyForm_0 rfl (lv_at hl 1 rfl) ?_
  refine w_pc 1 rfl ?_
  refine lv_if_eq (tgt := 19) hx hb dX4_bodyForm_1 (by decide) (fun q1 => ?_) (fun q1 => ?_)
  · replace h := (if_pos q1).symm.trans h
    refine w_pc 19 rfl ?_
    refine lv_aload_n hx hb dX4_bodyForm_19 rfl (lv_at hl 0 rfl) ?_
    refine gw_get (C := RX4) (T := TX4) (N := 13) (v := .ref (ad (246 + 7))) hx hb hts hinX4 hown hK hP (by omega) lyMMail rfl 8 (by decide) w28 (fun _ h9 => h9) rfl dX4_bodyForm_20 ?_
    refine lv_aload_n hx hb dX4_bodyForm_23 rfl (lv_at hl 0 rfl) ?_
    refine gw_get (C := RX4) (T := TX4) (N := 13) (v := .ref (ad (246 + 6))) hx hb hts hinX4 hown hK hP (by omega) lyMMail rfl 7 (by decide) w24 (fun _ h9 => h9) rfl dX4_bodyForm_24 ?_
    refine w_pc 27 rfl ?_
    obtain ⟨M27, c27, h⟩ := bn1_some h
    refine cl_v (rn_v (As := [.ref (ad (246 + 6))]) (rest := []) ⟨hx, hb, hml, hown, hts⟩ (kX9_becomeSimple l D ad cA A (by omega) (by omega) c27) ⟨callB_of 1 hts (gdc wm513) rfl rfl rfl (hts _ wm56) (hts _ wm510) hdX9_becomeSimple ⟨Nat.le_of_ble_eq_true rfl, Nat.le_of_ble_eq_true rfl⟩, hts _ wm511, hts _ wm512⟩ hK hP hD hN (by omega) (lyMText (by omega)) rfl rfl hl.1 rfl (lv_room (Nat.le_of_ble_eq_true rfl)) dX4_bodyForm_27) hS (fun H locs hP hS => ?_)
    refine w_pc 30 rfl ?_
    exact bk30 M27 ls _ _ (lv_sub hl [0] rfl) h hP hS
  · replace h := (if_neg q1).symm.trans h
    refine w_pc 4 rfl ?_
    refine lv_aload_n hx hb dX4_bodyForm_4 rfl (lv_at hl 0 rfl) ?_
    refine gw_get (C := RX4) (T := TX4) (N := 13) (v := .ref (ad (246 + 7))) hx hb hts hinX4 hown hK hP (by omega) lyMMail rfl 8 (by decide) w28 (fun _ h9 => h9) rfl dX4_bodyForm_5 ?_
    refine lv_aload_n hx hb dX4_bodyForm_8 rfl (lv_at hl 0 rfl) ?_
    refine gw_get (C := RX4) (T := TX4) (N := 13) (v := .ref (ad (246 + 6))) hx hb hts hinX4 hown hK hP (by omega) lyMMail rfl 7 (by decide) w24 (fun _ h9 => h9) rfl dX4_bodyForm_9 ?_
    refine lv_iconst (v := 1) hx hb dX4_bodyForm_12 (by decide) ?_
    refine w_pc 13 rfl ?_
    obtain ⟨M13, c13, h⟩ := bn1_some h
    refine cl_v (rn_v (As := [.ref (ad (246 + 6)), .int (1 : Int32)]) (rest := []) ⟨hx, hb, hml, hown, hts⟩ (kX9_becomeRelaxed l D ad cA A (by omega) (by omega) c13) ⟨callB_of 2 hts (gdc wm506) rfl rfl rfl (hts _ wm56) (hts _ wm503) hdX9_becomeRelaxed ⟨Nat.le_of_ble_eq_true rfl, Nat.le_of_ble_eq_true rfl⟩, hts _ wm504, hts _ wm505⟩ hK hP hD hN (by omega) (lyMText (by omega)) rfl rfl hl.1 rfl (lv_room (Nat.le_of_ble_eq_true rfl)) dX4_bodyForm_13) hS (fun H locs hP hS => ?_)
    refine w_pc 16 rfl ?_
    refine lv_goto (tgt := 30) hx hb dX4_bodyForm_16 (by decide) ?_
    exact bk30 M13 ls _ _ (lv_sub hl [0] rfl) h hP hS
def rmX4_headerForm : Room := { frames := 2, cells := 0, slots := 0, locals := 46 }
def fX4_headerForm (i1 : Nat) (a2 : Int32) (M : Mm) : Option (Nat × Mm) :=
  if a2 = 0 then (bn1 (fX9_becomeSimple 7 i1 M) (fun M21 => some (7, M21))) else (bn1 (fX9_becomeRelaxed 7 i1 (0 : Int32) M) (fun M10 => some (7, M10)))
set_option maxRecDepth 100000 in
set_option maxHeartbeats 4000000 in
theorem kX4_headerForm (l : Launch) (D : va_G) (ad : Nat → Nat) (cA : Nat → ClassId) (A : Nat → Prop) {i1 : Nat} {a2 : Int32} {M M1 : Mm} {r : Nat} (hi1 : i1 < 8) (h : fX4_headerForm i1 a2 M = some (r, M1)) : Met l yX4_headerForm wsX4_headerForm rmX4_headerForm (gPc D (tyM cA) 289 (layM ad cA) ad A M [.ref (ad 243), .ref (ad (246 + i1)), .int a2]) (gQq D 289 (layM ad cA) ad A M1 (some (ad (246 + r)))) 0 0 A := by
  refine Met.ofW (cc := cX4_headerForm) (maxL := 3) (ret := (some (.object "MailArbiter$Text"))) (by decide) rfl ?_
  intro p e s m args below meth c s₁ B hml hv
  obtain ⟨ha, hP, hK, hD, hN⟩ := hv
  have hx := B.exec
  have hb := B.bytes
  have hr := B.returns
  have hlk := B.notSynchronized
  have hts : ∀ w ∈ lw_g, w.before args s = true := fun w h => atoms_spec (ws := wsX4_headerForm) B.pre w (List.mem_cons_of_mem _ h)
  have hown : s.vm.findClass RX4 = some m.cls := findClass_of_methodNamed B.named
  have hS : va_S A s.heap s.heap [] := va_S.rf
  unfold fX4_headerForm at h
  have w28 := hts _ wm293
  refine w_entry ha (Nat.le_of_ble_eq_true rfl) (fun ls hl => ?_)
  have hl : lv_has ls 3 [(0, .ref (ad 243)), (1, .ref (ad (246 + i1))), (2, .int a2)] := hl
  refine w_pc 0 rfl ?_
  refine lv_iload_n hx hb dX4_headerForm_0 rfl (lv_at hl 2 rfl) ?_
  refine w_pc 1 rfl ?_
  refine lv_if_eq (tgt := 16) hx hb dX4_headerForm_1 (by decide) (fun q1 => ?_) (fun q1 => ?_)
  · replace h := (if_pos q1).symm.trans h
    refine w_pc 16 rfl ?_
    refine lv_aload_n hx hb dX4_headerForm_16 rfl (lv_at hl 0 rfl) ?_
    refine gw_get (C := RX4) (T := TX4) (N := 13) (v := .ref (ad (246 + 7))) hx hb hts hinX4 hown hK hP (by omega) lyMMail rfl 8 (by decide) w28 (fun _ h9 => h9) rfl dX4_headerForm_17 ?_
    refine lv_aload_n hx hb dX4_headerForm_20 rfl (lv_at hl 1 rfl) ?_
    refine w_pc 21 rfl ?_
    obtain ⟨M21, c21, h⟩ := bn1_some h
    refine cl_v (rn_v (As := [.ref (ad (246 + i1))]) (rest := []) ⟨hx, hb, hml, hown, hts⟩ (kX9_becomeSimple l D ad cA A (by omega) (by omega) c21) ⟨callB_of 1 hts (gdc wm513) rfl rfl rfl (hts _ wm56) (hts _ wm510) hdX9_becomeSimple ⟨Nat.le_of_ble_eq_true rfl, Nat.le_of_ble_eq_true rfl⟩, hts _ wm511, hts _ wm512⟩ hK hP hD hN (by omega) (lyMText (by omega)) rfl rfl hl.1 rfl (lv_room (Nat.le_of_ble_eq_true rfl)) dX4_headerForm_21) hS (fun H locs hP hS => ?_)
    refine w_pc 24 rfl ?_
    refine lv_aload_n hx hb dX4_headerForm_24 rfl (lv_at hl 0 rfl) ?_
    refine gw_get (C := RX4) (T := TX4) (N := 13) (v := .ref (ad (246 + 7))) hx hb hts hinX4 hown hK hP (by omega) lyMMail rfl 8 (by decide) w28 (fun _ h9 => h9) rfl dX4_headerForm_25 ?_
    exact re_a hx hb hr hlk (by cases h; rfl) hP hS dX4_headerForm_28
  · replace h := (if_neg q1).symm.trans h
    refine w_pc 4 rfl ?_
    refine lv_aload_n hx hb dX4_headerForm_4 rfl (lv_at hl 0 rfl) ?_
    refine gw_get (C := RX4) (T := TX4) (N := 13) (v := .ref (ad (246 + 7))) hx hb hts hinX4 hown hK hP (by omega) lyMMail rfl 8 (by decide) w28 (fun _ h9 => h9) rfl dX4_headerForm_5 ?_
    refine lv_aload_n hx hb dX4_headerForm_8 rfl (lv_at hl 1 rfl) ?_
    refine lv_iconst (v := 0) hx hb dX4_headerForm_9 (by decide) ?_
    refine w_pc 10 rfl ?_
    obtain ⟨M10, c10, h⟩ := bn1_some h
    refine cl_v (rn_v (As := [.ref (ad (246 + i1)), .int (0 : Int32)]) (rest := []) ⟨hx, hb, hml, hown, hts⟩ (kX9_becomeRelaxed l D ad cA A (by omega) (by omega) c10) ⟨callB_of 2 hts (gdc wm506) rfl rfl rfl (hts _ wm56) (hts _ wm503) hdX9_becomeRelaxed ⟨Nat.le_of_ble_eq_true rfl, Nat.le_of_ble_eq_true rfl⟩, hts _ wm504, hts _ wm505⟩ hK hP hD hN (by omega) (lyMText (by omega)) rfl rfl hl.1 rfl (lv_room (Nat.le_of_ble_eq_true rfl)) dX4_headerForm_10) hS (fun H locs hP hS => ?_)
    refine w_pc 13 rfl ?_
    refine lv_goto (tgt := 24) hx hb dX4_headerForm_13 (by decide) ?_
    refine lv_aload_n hx hb dX4_headerForm_24 rfl (lv_at hl 0 rfl) ?_
    refine gw_get (C := RX4) (T := TX4) (N := 13) (v := .ref (ad (246 + 7))) hx hb hts hinX4 hown hK hP (by omega) lyMMail rfl 8 (by decide) w28 (fun _ h9 => h9) rfl dX4_headerForm_25 ?_
    exact re_a hx hb hr hlk (by cases h; rfl) hP hS dX4_headerForm_28
def rmX10_length : Room := { frames := 3, cells := 0, slots := 0, locals := 68 }
def fX10_length (a1 : Int32) (a2 : Int32) (M : Mm) : Option (Int32 × Mm) :=
  bn1 (fX4_partAt a1 M) (fun v5 => opc v5 (some ((-1 : Int32), M)) (fun j5 => grd (decide (j5 < 8)) (if a1 = (-1 : Int32) then (bn2 (fX4_bodyForm a2 M) (fun v25 M25 => grd (decide (v25 < 8)) (some ((M25 (246 + v25) 1), M25)))) else (bn2 (fX4_headerForm j5 a2 M) (fun v40 M40 => grd (decide (v40 < 8)) (some ((M40 (246 + v40) 1), M40)))))))
set_option maxRecDepth 100000 in
set_option maxHeartbeats 4000000 in
theorem kX10_length (l : Launch) (D : va_G) (ad : Nat → Nat) (cA : Nat → ClassId) (A : Nat → Prop) {a1 : Int32} {a2 : Int32} {M M1 : Mm} {r : Int32} (h : fX10_length a1 a2 M = some (r, M1)) : Met l yX10_length wsX10_length rmX10_length (gPc D (tyM cA) 289 (layM ad cA) ad A M [.ref (ad 0), .int a1, .int a2]) (gQi D 289 (layM ad cA) ad A M1 r) 0 0 A := by
  refine Met.ofW (cc := cX10_length) (maxL := 4) (ret := (some .int)) (by decide) rfl ?_
  intro p e s m args below meth c s₁ B hml hv
  obtain ⟨ha, hP, hK, hD, hN⟩ := hv
  have hx := B.exec
  have hb := B.bytes
  have hr := B.returns
  have hlk := B.notSynchronized
  have hts : ∀ w ∈ lw_g, w.before args s = true := fun w h => atoms_spec (ws := wsX10_length) B.pre w (List.mem_cons_of_mem _ h)
  have hown : s.vm.findClass RX10 = some m.cls := findClass_of_methodNamed B.named
  have hS : va_S A s.heap s.heap [] := va_S.rf
  unfold fX10_length at h
  have w30 := hts _ wm371
  have w148 := hts _ wm208
  refine w_entry ha (Nat.le_of_ble_eq_true rfl) (fun ls hl => ?_)
  have hl : lv_has ls 4 [(0, .ref (ad 0)), (1, .int a1), (2, .int a2)] := hl
  refine w_pc 0 rfl ?_
  refine lv_aload_n hx hb dX10_length_0 rfl (lv_at hl 0 rfl) ?_
  refine gw_get (C := RX10) (T := TX10) (N := 8) (v := .ref (ad 243)) hx hb hts hinX10 hown hK hP (by omega) lyMMA rfl 3 (by decide) w30 (fun _ h9 => h9) rfl dX10_length_1 ?_
  refine lv_iload_n hx hb dX10_length_4 rfl (lv_at hl 1 rfl) ?_
  refine w_pc 5 rfl ?_
  obtain ⟨v5, c5, h⟩ := bn1_some h
  cases v5 with
  | none =>
    replace h := opc_n h
    refine cl_n (rn_v (As := [.int a1]) (rest := []) ⟨hx, hb, hml, hown, hts⟩ (kX4_partAt l D ad cA A c5) ⟨callB_of 1 hts (gdc wm478) rfl rfl rfl (hts _ wm55) (hts _ wm475) hdX4_partAt ⟨Nat.le_of_ble_eq_true rfl, Nat.le_of_ble_eq_true rfl⟩, hts _ wm476, hts _ wm477⟩ hK hP hD hN (by omega) lyMMail rfl rfl hl.1 rfl (lv_room (Nat.le_of_ble_eq_true rfl)) dX10_length_5) hS (fun H locs hP hS => ?_)
    refine w_pc 8 rfl ?_
    refine lv_astore_nN (lv' := [(3, .null), (0, .ref (ad 0)), (1, .int a1), (2, .int a2)]) hx hb dX10_length_8 rfl hl (by decide) rfl (fun ls hl => ?_)
    refine lv_aload_nN hx hb dX10_length_9 rfl (lv_at hl 0 rfl) ?_
    refine lv_ifnonnullN hx hb dX10_length_10 ?_
    refine lv_iconst (v := -1) hx hb dX10_length_13 (by decide) ?_
    exact re_i hx hb hr hlk h hP hS dX10_length_14
  | some j5 =>
    replace h := opc_s h
    obtain ⟨g5, h⟩ := gd_lt h
    refine cl_r (rn_v (As := [.int a1]) (rest := []) ⟨hx, hb, hml, hown, hts⟩ (kX4_partAt l D ad cA A c5) ⟨callB_of 1 hts (gdc wm478) rfl rfl rfl (hts _ wm55) (hts _ wm475) hdX4_partAt ⟨Nat.le_of_ble_eq_true rfl, Nat.le_of_ble_eq_true rfl⟩, hts _ wm476, hts _ wm477⟩ hK hP hD hN (by omega) lyMMail rfl rfl hl.1 rfl (lv_room (Nat.le_of_ble_eq_true rfl)) dX10_length_5) hS (fun H locs hP hS => ?_)
    refine w_pc 8 rfl ?_
    refine lv_astore_n (lv' := [(3, .ref (ad (246 + j5))), (0, .ref (ad 0)), (1, .int a1), (2, .int a2)]) hx hb dX10_length_8 rfl hl (by decide) rfl (fun ls hl => ?_)
    refine lv_aload_n hx hb dX10_length_9 rfl (lv_at hl 0 rfl) ?_
    refine lv_ifnonnull (tgt := 15) hx hb dX10_length_10 (by decide) ?_
    refine lv_iload_n hx hb dX10_length_15 rfl (lv_at hl 2 rfl) ?_
    refine lv_iconst (v := -1) hx hb dX10_length_16 (by decide) ?_
    refine w_pc 17 rfl ?_
    refine lv_icmp_ne (tgt := 34) hx hb dX10_length_17 (by decide) (fun q17 => ?_) (fun q17 => ?_)
    · replace h := (if_neg q17).symm.trans h
      refine w_pc 34 rfl ?_
      refine lv_aload_n hx hb dX10_length_34 rfl (lv_at hl 1 rfl) ?_
      refine gw_get (C := RX10) (T := TX10) (N := 8) (v := .ref (ad 243)) hx hb hts hinX10 hown hK hP (by omega) lyMMA rfl 3 (by decide) w30 (fun _ h9 => h9) rfl dX10_length_35 ?_
      refine lv_aload_n hx hb dX10_length_38 rfl (lv_at hl 0 rfl) ?_
      refine lv_iload_n hx hb dX10_length_39 rfl (lv_at hl 3 rfl) ?_
      refine w_pc 40 rfl ?_
      obtain ⟨v40, M40, c40, h⟩ := bn2_some h
      obtain ⟨g40, h⟩ := gd_lt h
      refine cl_r (rn_v (As := [.ref (ad (246 + j5)), .int a2]) (rest := []) ⟨hx, hb, hml, hown, hts⟩ (kX4_headerForm l D ad cA A (by omega) c40) ⟨callB_of 2 hts (gdc wm521) rfl rfl rfl (hts _ wm55) (hts _ wm518) hdX4_headerForm ⟨Nat.le_of_ble_eq_true rfl, Nat.le_of_ble_eq_true rfl⟩, hts _ wm519, hts _ wm520⟩ hK hP hD hN (by omega) lyMMail rfl rfl hl.1 rfl (lv_room (Nat.le_of_ble_eq_true rfl)) dX10_length_40) hS (fun H locs hP hS => ?_)
      refine w_pc 43 rfl ?_
      refine gw_get (C := RX9) (T := TX9) (N := 2) (v := .int (M40 (246 + v40) 1)) hx hb hts hinX9 hown hK hP (by omega) (lyMText (by omega)) rfl 1 (by decide) w148 (fun _ h9 => h9) rfl dX10_length_43 ?_
      exact re_i hx hb hr hlk h hP hS dX10_length_46
    · replace h := (if_pos q17).symm.trans h
      refine w_pc 20 rfl ?_
      refine lv_aload_n hx hb dX10_length_20 rfl (lv_at hl 1 rfl) ?_
      refine gw_get (C := RX10) (T := TX10) (N := 8) (v := .ref (ad 243)) hx hb hts hinX10 hown hK hP (by omega) lyMMA rfl 3 (by decide) w30 (fun _ h9 => h9) rfl dX10_length_21 ?_
      refine lv_iload_n hx hb dX10_length_24 rfl (lv_at hl 3 rfl) ?_
      refine w_pc 25 rfl ?_
      obtain ⟨v25, M25, c25, h⟩ := bn2_some h
      obtain ⟨g25, h⟩ := gd_lt h
      refine cl_r (rn_v (As := [.int a2]) (rest := []) ⟨hx, hb, hml, hown, hts⟩ (kX4_bodyForm l D ad cA A c25) ⟨callB_of 1 hts (gdc wm502) rfl rfl rfl (hts _ wm55) (hts _ wm499) hdX4_bodyForm ⟨Nat.le_of_ble_eq_true rfl, Nat.le_of_ble_eq_true rfl⟩, hts _ wm500, hts _ wm501⟩ hK hP hD hN (by omega) lyMMail rfl rfl hl.1 rfl (lv_room (Nat.le_of_ble_eq_true rfl)) dX10_length_25) hS (fun H locs hP hS => ?_)
      refine w_pc 28 rfl ?_
      refine gw_get (C := RX9) (T := TX9) (N := 2) (v := .int (M25 (246 + v25) 1)) hx hb hts hinX9 hown hK hP (by omega) (lyMText (by omega)) rfl 1 (by decide) w148 (fun _ h9 => h9) rfl dX10_length_28 ?_
      refine lv_goto (tgt := 46) hx hb dX10_length_31 (by decide) ?_
      exact re_i hx hb hr hlk h hP hS dX10_length_46
def rmX10_hasKey : Room := { frames := 2, cells := 0, slots := 0, locals := 43 }
def fX10_hasKey (a1 : Int32) (a2 : Int32) (M : Mm) : Option Int32 :=
  bn1 (fX10_isDomain a1 M) (fun v2 => if v2 = 0 then (some (0 : Int32)) else (bn1 (fX10_isSelector a2) (fun v9 => if v9 = 0 then (some (0 : Int32)) else (grd (gin a1 20) (grd (gin a2 2) (if (M (202 + a1.toNatClampNeg) a2.toNatClampNeg) = 0 then (some (0 : Int32)) else (some (1 : Int32))))))))
set_option maxRecDepth 100000 in
set_option maxHeartbeats 4000000 in
theorem kX10_hasKey (l : Launch) (D : va_G) (ad : Nat → Nat) (cA : Nat → ClassId) (A : Nat → Prop) {a1 : Int32} {a2 : Int32} {M : Mm} {r : Int32} (h : fX10_hasKey a1 a2 M = some r) : Met l yX10_hasKey wsX10_hasKey rmX10_hasKey (gPc D (tyM cA) 289 (layM ad cA) ad A M [.ref (ad 0), .int a1, .int a2]) (gQi D 289 (layM ad cA) ad A M r) 0 0 A := by
  refine Met.ofW (cc := cX10_hasKey) (maxL := 3) (ret := (some .boolean)) (by decide) rfl ?_
  intro p e s m args below meth c s₁ B hml hv
  obtain ⟨ha, hP, hK, hD, hN⟩ := hv
  have hx := B.exec
  have hb := B.bytes
  have hr := B.returns
  have hlk := B.notSynchronized
  have hts : ∀ w ∈ lw_g, w.before args s = true := fun w h => atoms_spec (ws := wsX10_hasKey) B.pre w (List.mem_cons_of_mem _ h)
  have hown : s.vm.findClass RX10 = some m.cls := findClass_of_methodNamed B.named
  have hS : va_S A s.heap s.heap [] := va_S.rf
  unfold fX10_hasKey at h
  have w11 := hts _ wm368
  have w108 := hts _ wm169
  refine w_entry ha (Nat.le_of_ble_eq_true rfl) (fun ls hl => ?_)
  have hl : lv_has ls 3 [(0, .ref (ad 0)), (1, .int a1), (2, .int a2)] := hl
  refine w_pc 0 rfl ?_
  refine lv_aload_n hx hb dX10_hasKey_0 rfl (lv_at hl 0 rfl) ?_
  refine lv_iload_n hx hb dX10_hasKey_1 rfl (lv_at hl 1 rfl) ?_
  refine w_pc 2 rfl ?_
  obtain ⟨v2, c2, h⟩ := bn1_some h
  refine cl_i (rn_v (As := [.int a1]) (rest := []) ⟨hx, hb, hml, hown, hts⟩ (kX10_isDomain l D ad cA A c2) ⟨callB_of 1 hts (gdc wm400) rfl rfl rfl (hts _ wm50) (hts _ wm397) hdX10_isDomain ⟨Nat.le_of_ble_eq_true rfl, Nat.le_of_ble_eq_true rfl⟩, hts _ wm399, hts _ wm0⟩ hK hP hD hN (by omega) lyMMA rfl rfl hl.1 rfl (lv_room (Nat.le_of_ble_eq_true rfl)) dX10_hasKey_2) hS (fun H locs hP hS => ?_)
  refine w_pc 5 rfl ?_
  refine w_pc 5 rfl ?_
  refine lv_if_eq (tgt := 33) hx hb dX10_hasKey_5 (by decide) (fun q5 => ?_) (fun q5 => ?_)
  · replace h := (if_pos q5).symm.trans h
    refine w_pc 33 rfl ?_
    refine lv_iconst (v := 0) hx hb dX10_hasKey_33 (by decide) ?_
    exact re_z hx hb hr hlk (Or.inl rfl) (sm_r h) hP hS dX10_hasKey_34
  · replace h := (if_neg q5).symm.trans h
    refine w_pc 8 rfl ?_
    refine lv_iload_n hx hb dX10_hasKey_8 rfl (lv_at hl 2 rfl) ?_
    refine w_pc 9 rfl ?_
    obtain ⟨v9, c9, h⟩ := bn1_some h
    refine cl_i (rn_s (As := [.int a2]) (rest := []) ⟨hx, hb, hml, hown, hts⟩ (kX10_isSelector l D ad cA A (M := M) c9) ⟨callB_of 1 hts (gdc wm445) rfl rfl rfl (hts _ wm50) (hts _ wm443) hdX10_isSelector ⟨Nat.le_of_ble_eq_true rfl, Nat.le_of_ble_eq_true rfl⟩, hts _ wm444⟩ hK hP hD hN rfl hl.1 rfl (lv_room (Nat.le_of_ble_eq_true rfl)) dX10_hasKey_9) hS (fun H locs hP hS => ?_)
    refine w_pc 12 rfl ?_
    refine w_pc 12 rfl ?_
    refine lv_if_eq (tgt := 33) hx hb dX10_hasKey_12 (by decide) (fun q12 => ?_) (fun q12 => ?_)
    · replace h := (if_pos q12).symm.trans h
      refine w_pc 33 rfl ?_
      refine lv_iconst (v := 0) hx hb dX10_hasKey_33 (by decide) ?_
      exact re_z hx hb hr hlk (Or.inl rfl) (sm_r h) hP hS dX10_hasKey_34
    · replace h := (if_neg q12).symm.trans h
      refine w_pc 15 rfl ?_
      refine lv_aload_n hx hb dX10_hasKey_15 rfl (lv_at hl 0 rfl) ?_
      refine gw_get (C := RX10) (T := TX10) (N := 8) (v := .ref (ad 1)) hx hb hts hinX10 hown hK hP (by omega) lyMMA rfl 0 (by decide) w11 (fun _ h9 => h9) rfl dX10_hasKey_16 ?_
      refine lv_iload_n hx hb dX10_hasKey_19 rfl (lv_at hl 1 rfl) ?_
      obtain ⟨g20, h⟩ := gd_in h
      have b20 := some_lo g20
      refine gw_aald hx hb hK hP 2 (by omega) lyMaDom rfl g20 dX10_hasKey_20 ?_
      refine gw_get (C := RX1) (T := TX1) (N := 8) (v := .ref (ad (202 + a1.toNatClampNeg))) hx hb hts hinX1 hown hK hP (by omega) (lyMDom (by omega)) rfl 6 (by decide) w108 (fun _ h9 => h9) rfl dX10_hasKey_21 ?_
      refine lv_iload_n hx hb dX10_hasKey_24 rfl (lv_at hl 2 rfl) ?_
      obtain ⟨g25, h⟩ := gd_in h
      refine gw_iald hx hb hK hP 0 (by omega) (lyMaKey (by omega)) rfl g25 dX10_hasKey_25 ?_
      refine w_pc 26 rfl ?_
      refine w_pc 26 rfl ?_
      refine lv_if_eq (tgt := 33) hx hb dX10_hasKey_26 (by decide) (fun q26 => ?_) (fun q26 => ?_)
      · replace h := (if_pos q26).symm.trans h
        refine w_pc 33 rfl ?_
        refine lv_iconst (v := 0) hx hb dX10_hasKey_33 (by decide) ?_
        exact re_z hx hb hr hlk (Or.inl rfl) (sm_r h) hP hS dX10_hasKey_34
      · replace h := (if_neg q26).symm.trans h
        refine w_pc 29 rfl ?_
        refine lv_iconst (v := 1) hx hb dX10_hasKey_29 (by decide) ?_
        refine lv_goto (tgt := 34) hx hb dX10_hasKey_30 (by decide) ?_
        exact re_z hx hb hr hlk (Or.inr rfl) (sm_r h) hP hS dX10_hasKey_34
def rmX4_nextSignature : Room := { frames := 0, cells := 0, slots := 0, locals := 0 }
def fX4_nextSignature (M : Mm) : Option (Option Nat) :=
  if (3 : Int32) ≤ (M 243 10) then (some none) else (grd (gin (M 243 10) 3) (some (some ((M 243 10).toNatClampNeg))))
set_option maxRecDepth 100000 in
set_option maxHeartbeats 4000000 in
theorem kX4_nextSignature (l : Launch) (D : va_G) (ad : Nat → Nat) (cA : Nat → ClassId) (A : Nat → Prop) {M : Mm} {r : Option Nat} (h : fX4_nextSignature M = some r) : Met l yX4_nextSignature wsX4_nextSignature rmX4_nextSignature (gPc D (tyM cA) 289 (layM ad cA) ad A M [.ref (ad 243)]) (gQq D 289 (layM ad cA) ad A M (r.map (fun j => ad (263 + j)))) 0 0 A := by
  refine Met.ofW (cc := cX4_nextSignature) (maxL := 1) (ret := (some (.object "MailArbiter$Signature"))) (by decide) rfl ?_
  intro p e s m args below meth c s₁ B hml hv
  obtain ⟨ha, hP, hK, hD, hN⟩ := hv
  have hx := B.exec
  have hb := B.bytes
  have hr := B.returns
  have hlk := B.notSynchronized
  have hts : ∀ w ∈ lw_g, w.before args s = true := fun w h => atoms_spec (ws := wsX4_nextSignature) B.pre w (List.mem_cons_of_mem _ h)
  have hown : s.vm.findClass RX4 = some m.cls := findClass_of_methodNamed B.named
  have hS : va_S A s.heap s.heap [] := va_S.rf
  unfold fX4_nextSignature at h
  have w65 := hts _ wm296
  have w33 := hts _ wm294
  refine w_entry ha (Nat.le_of_ble_eq_true rfl) (fun ls hl => ?_)
  have hl : lv_has ls 1 [(0, .ref (ad 243))] := hl
  refine w_pc 0 rfl ?_
  refine lv_aload_n hx hb dX4_nextSignature_0 rfl (lv_at hl 0 rfl) ?_
  refine gw_get (C := RX4) (T := TX4) (N := 13) (v := .int (M 243 10)) hx hb hts hinX4 hown hK hP (by omega) lyMMail rfl 10 (by decide) w65 (fun _ h9 => h9) rfl dX4_nextSignature_1 ?_
  refine lv_iconst (v := 3) hx hb dX4_nextSignature_4 (by decide) ?_
  refine w_pc 5 rfl ?_
  refine lv_icmp_ge (tgt := 20) hx hb dX4_nextSignature_5 (by decide) (fun q5 => ?_) (fun q5 => ?_)
  · replace h := (if_pos q5).symm.trans h
    refine w_pc 20 rfl ?_
    refine lv_null hx hb dX4_nextSignature_20 ?_
    exact re_n hx hb hr hlk (by cases h; rfl) hP hS dX4_nextSignature_21
  · replace h := (if_neg q5).symm.trans h
    refine w_pc 8 rfl ?_
    refine lv_aload_n hx hb dX4_nextSignature_8 rfl (lv_at hl 0 rfl) ?_
    refine gw_get (C := RX4) (T := TX4) (N := 13) (v := .ref (ad 262)) hx hb hts hinX4 hown hK hP (by omega) lyMMail rfl 9 (by decide) w33 (fun _ h9 => h9) rfl dX4_nextSignature_9 ?_
    refine lv_aload_n hx hb dX4_nextSignature_12 rfl (lv_at hl 0 rfl) ?_
    refine gw_get (C := RX4) (T := TX4) (N := 13) (v := .int (M 243 10)) hx hb hts hinX4 hown hK hP (by omega) lyMMail rfl 10 (by decide) w65 (fun _ h9 => h9) rfl dX4_nextSignature_13 ?_
    obtain ⟨g16, h⟩ := gd_in h
    have b16 := some_lo g16
    refine gw_aald hx hb hK hP 5 (by omega) lyMaSig rfl g16 dX4_nextSignature_16 ?_
    refine lv_goto (tgt := 21) hx hb dX4_nextSignature_17 (by decide) ?_
    exact re_a hx hb hr hlk (by cases h; rfl) hP hS dX4_nextSignature_21
def rmX8_fill : Room := { frames := 0, cells := 0, slots := 0, locals := 0 }
def fX8_fill (i0 : Nat) (a1 : Int32) (a2 : Int32) (a3 : Int32) (a4 : Int32) (a5 : Int32) (a6 : Int32) (M : Mm) : Option Mm :=
  nm (up2 M (263 + i0) 0 a1) (fun M2 => nm (up2 M2 (263 + i0) 1 a2) (fun M7 => nm (up2 M7 (263 + i0) 2 a3) (fun M12 => nm (up2 M12 (263 + i0) 3 a4) (fun M18 => nm (up2 M18 (263 + i0) 4 a5) (fun M24 => nm (up2 M24 (263 + i0) 5 a6) (fun M30 => some M30))))))
set_option maxRecDepth 100000 in
set_option maxHeartbeats 4000000 in
theorem kX8_fill (l : Launch) (D : va_G) (ad : Nat → Nat) (cA : Nat → ClassId) (A : Nat → Prop) {i0 : Nat} {a1 : Int32} {a2 : Int32} {a3 : Int32} {a4 : Int32} {a5 : Int32} {a6 : Int32} {M M1 : Mm} (hi0 : i0 < 7) (h : fX8_fill i0 a1 a2 a3 a4 a5 a6 M = some M1) : Met l yX8_fill wsX8_fill rmX8_fill (gPc D (tyM cA) 289 (layM ad cA) ad A M [.ref (ad (263 + i0)), .int a1, .int a2, .int a3, .int a4, .int a5, .int a6]) (gQv D 289 (layM ad cA) ad A M1) 0 0 A := by
  refine Met.ofW (cc := cX8_fill) (maxL := 7) (ret := none) (by decide) rfl ?_
  intro p e s m args below meth c s₁ B hml hv
  obtain ⟨ha, hP, hK, hD, hN⟩ := hv
  have hx := B.exec
  have hb := B.bytes
  have hr := B.returns
  have hlk := B.notSynchronized
  have hts : ∀ w ∈ lw_g, w.before args s = true := fun w h => atoms_spec (ws := wsX8_fill) B.pre w (List.mem_cons_of_mem _ h)
  have hown : s.vm.findClass RX8 = some m.cls := findClass_of_methodNamed B.named
  have hS : va_S A s.heap s.heap [] := va_S.rf
  unfold fX8_fill at h
  have w9 := hts _ wm223
  have w15 := hts _ wm226
  have w18 := hts _ wm229
  have w21 := hts _ wm231
  have w24 := hts _ wm233
  have w27 := hts _ wm236
  refine w_entry ha (Nat.le_of_ble_eq_true rfl) (fun ls hl => ?_)
  have hl : lv_has ls 7 [(0, .ref (ad (263 + i0))), (1, .int a1), (2, .int a2), (3, .int a3), (4, .int a4), (5, .int a5), (6, .int a6)] := hl
  refine w_pc 0 rfl ?_
  refine lv_aload_n hx hb dX8_fill_0 rfl (lv_at hl 0 rfl) ?_
  refine lv_iload_n hx hb dX8_fill_1 rfl (lv_at hl 1 rfl) ?_
  obtain ⟨M2, eM2, h⟩ := nm_some h
  refine gw_put (C := RX8) (T := TX8) (N := 8) (ty := .int) hx hb hts hinX8 tyX8 tyX8_ok nmX8 hown hK hP hD hS (by omega) (lyMSig (by omega)) rfl 0 (by decide) w9 (fun _ h9 => h9) rfl (by decide +kernel) rfl rfl (Nat.le_of_ble_eq_true rfl) rfl eM2 dX8_fill_2 (fun H locs hP hS => ?_)
  refine lv_aload_n hx hb dX8_fill_5 rfl (lv_at hl 0 rfl) ?_
  refine lv_iload_n hx hb dX8_fill_6 rfl (lv_at hl 2 rfl) ?_
  obtain ⟨M7, eM7, h⟩ := nm_some h
  refine gw_put (C := RX8) (T := TX8) (N := 8) (ty := .int) hx hb hts hinX8 tyX8 tyX8_ok nmX8 hown hK hP hD hS (by omega) (lyMSig (by omega)) rfl 1 (by decide) w15 (fun _ h9 => h9) rfl (by decide +kernel) rfl rfl (Nat.le_of_ble_eq_true rfl) rfl eM7 dX8_fill_7 (fun H locs hP hS => ?_)
  refine lv_aload_n hx hb dX8_fill_10 rfl (lv_at hl 0 rfl) ?_
  refine w_pc 11 rfl ?_
  refine lv_iload_n hx hb dX8_fill_11 rfl (lv_at hl 3 rfl) ?_
  obtain ⟨M12, eM12, h⟩ := nm_some h
  refine gw_put (C := RX8) (T := TX8) (N := 8) (ty := .int) hx hb hts hinX8 tyX8 tyX8_ok nmX8 hown hK hP hD hS (by omega) (lyMSig (by omega)) rfl 2 (by decide) w18 (fun _ h9 => h9) rfl (by decide +kernel) rfl rfl (Nat.le_of_ble_eq_true rfl) rfl eM12 dX8_fill_12 (fun H locs hP hS => ?_)
  refine lv_aload_n hx hb dX8_fill_15 rfl (lv_at hl 0 rfl) ?_
  refine lv_iload hx hb dX8_fill_16 (lv_at hl 4 rfl) ?_
  obtain ⟨M18, eM18, h⟩ := nm_some h
  refine gw_put (C := RX8) (T := TX8) (N := 8) (ty := .int) hx hb hts hinX8 tyX8 tyX8_ok nmX8 hown hK hP hD hS (by omega) (lyMSig (by omega)) rfl 3 (by decide) w21 (fun _ h9 => h9) rfl (by decide +kernel) rfl rfl (Nat.le_of_ble_eq_true rfl) rfl eM18 dX8_fill_18 (fun H locs hP hS => ?_)
  refine lv_aload_n hx hb dX8_fill_21 rfl (lv_at hl 0 rfl) ?_
  refine lv_iload hx hb dX8_fill_22 (lv_at hl 5 rfl) ?_
  obtain ⟨M24, eM24, h⟩ := nm_some h
  refine gw_put (C := RX8) (T := TX8) (N := 8) (ty := .int) hx hb hts hinX8 tyX8 tyX8_ok nmX8 hown hK hP hD hS (by omega) (lyMSig (by omega)) rfl 4 (by decide) w24 (fun _ h9 => h9) rfl (by decide +kernel) rfl rfl (Nat.le_of_ble_eq_true rfl) rfl eM24 dX8_fill_24 (fun H locs hP hS => ?_)
  refine w_pc 27 rfl ?_
  refine lv_aload_n hx hb dX8_fill_27 rfl (lv_at hl 0 rfl) ?_
  refine lv_iload hx hb dX8_fill_28 (lv_at hl 6 rfl) ?_
  obtain ⟨M30, eM30, h⟩ := nm_some h
  refine gw_put (C := RX8) (T := TX8) (N := 8) (ty := .int) hx hb hts hinX8 tyX8 tyX8_ok nmX8 hown hK hP hD hS (by omega) (lyMSig (by omega)) rfl 5 (by decide) w27 (fun _ h9 => h9) rfl (by decide +kernel) rfl rfl (Nat.le_of_ble_eq_true rfl) rfl eM30 dX8_fill_30 (fun H locs hP hS => ?_)
  exact re_v hx hb hr hlk h hP hS dX8_fill_33
def rmX8_isBodyRelaxed : Room := { frames := 0, cells := 0, slots := 0, locals := 0 }
def fX8_isBodyRelaxed (i0 : Nat) (M : Mm) : Option Int32 :=
  if ((M (263 + i0) 2) &&& (2 : Int32)) = 0 then (some (0 : Int32)) else (some (1 : Int32))
set_option maxRecDepth 100000 in
set_option maxHeartbeats 4000000 in
theorem kX8_isBodyRelaxed (l : Launch) (D : va_G) (ad : Nat → Nat) (cA : Nat → ClassId) (A : Nat → Prop) {i0 : Nat} {M : Mm} {r : Int32} (hi0 : i0 < 7) (h : fX8_isBodyRelaxed i0 M = some r) : Met l yX8_isBodyRelaxed wsX8_isBodyRelaxed rmX8_isBodyRelaxed (gPc D (tyM cA) 289 (layM ad cA) ad A M [.ref (ad (263 + i0))]) (gQi D 289 (layM ad cA) ad A M r) 0 0 A := by
  refine Met.ofW (cc := cX8_isBodyRelaxed) (maxL := 1) (ret := (some .boolean)) (by decide) rfl ?_
  intro p e s m args below meth c s₁ B hml hv
  obtain ⟨ha, hP, hK, hD, hN⟩ := hv
  have hx := B.exec
  have hb := B.bytes
  have hr := B.returns
  have hlk := B.notSynchronized
  have hts : ∀ w ∈ lw_g, w.before args s = true := fun w h => atoms_spec (ws := wsX8_isBodyRelaxed) B.pre w (List.mem_cons_of_mem _ h)
  have hown : s.vm.findClass RX8 = some m.cls := findClass_of_methodNamed B.named
  have hS : va_S A s.heap s.heap [] := va_S.rf
  unfold fX8_isBodyRelaxed at h
  have w18 := hts _ wm229
  refine w_entry ha (Nat.le_of_ble_eq_true rfl) (fun ls hl => ?_)
  have hl : lv_has ls 1 [(0, .ref (ad (263 + i0)))] := hl
  refine w_pc 0 rfl ?_
  refine lv_aload_n hx hb dX8_isBodyRelaxed_0 rfl (lv_at hl 0 rfl) ?_
  refine gw_get (C := RX8) (T := TX8) (N := 8) (v := .int (M (263 + i0) 2)) hx hb hts hinX8 hown hK hP (by omega) (lyMSig (by omega)) rfl 2 (by decide) w18 (fun _ h9 => h9) rfl dX8_isBodyRelaxed_1 ?_
  refine lv_iconst (v := 2) hx hb dX8_isBodyRelaxed_4 (by decide) ?_
  refine lv_iand hx hb dX8_isBodyRelaxed_5 ?_
  refine w_pc 6 rfl ?_
  refine lv_if_eq (tgt := 13) hx hb dX8_isBodyRelaxed_6 (by decide) (fun q6 => ?_) (fun q6 => ?_)
  · replace h := (if_pos q6).symm.trans h
    refine w_pc 13 rfl ?_
    refine lv_iconst (v := 0) hx hb dX8_isBodyRelaxed_13 (by decide) ?_
    exact re_z hx hb hr hlk (Or.inl rfl) (sm_r h) hP hS dX8_isBodyRelaxed_14
  · replace h := (if_neg q6).symm.trans h
    refine w_pc 9 rfl ?_
    refine lv_iconst (v := 1) hx hb dX8_isBodyRelaxed_9 (by decide) ?_
    refine lv_goto (tgt := 14) hx hb dX8_isBodyRelaxed_10 (by decide) ?_
    exact re_z hx hb hr hlk (Or.inr rfl) (sm_r h) hP hS dX8_isBodyRelaxed_14
def rmX10_mix : Room := { frames := 0, cells := 0, slots := 0, locals := 0 }
def fX10_mix (a0 : Int64) (a2 : Int32) : Option Int64 :=
  nm ((a0 ^^^ a2.toInt64) * (-7046029254386353131 : Int64)) (fun v8 => some (v8 ^^^ (ushr64 v8 (30 : Int32))))
set_option maxRecDepth 100000 in
set_option maxHeartbeats 4000000 in
theorem kX10_mix (l : Launch) (D : va_G) (ad : Nat → Nat) (cA : Nat → ClassId) (A : Nat → Prop) {a0 : Int64} {a2 : Int32} {M : Mm} {r : Int64} (h : fX10_mix a0 a2 = some r) : Met l yX10_mix wsX10_mix rmX10_mix (gPc D (tyM cA) 289 (layM ad cA) ad A M [.long a0, .int a2]) (gQl D 289 (layM ad cA) ad A M r) 0 0 A := by
  refine Met.ofW (cc := cX10_mix) (maxL := 5) (ret := (some .long)) (by decide) rfl ?_
  intro p e s m args below meth c s₁ B hml hv
  obtain ⟨ha, hP, hK, hD, hN⟩ := hv
  have hx := B.exec
  have hb := B.bytes
  have hr := B.returns
  have hlk := B.notSynchronized
  have hts : ∀ w ∈ lw_g, w.before args s = true := fun w h => atoms_spec (ws := wsX10_mix) B.pre w (List.mem_cons_of_mem _ h)
  have hown : s.vm.findClass RX10 = some m.cls := findClass_of_methodNamed B.named
  have hS : va_S A s.heap s.heap [] := va_S.rf
  unfold fX10_mix at h
  refine w_entry ha (Nat.le_of_ble_eq_true rfl) (fun ls hl => ?_)
  have hl : lv_has ls 5 [(0, .long a0), (2, .int a2)] := hl
  refine w_pc 0 rfl ?_
  refine lv_lload_n hx hb dX10_mix_0 rfl (lv_at hl 0 rfl) ?_
  refine lv_iload_n hx hb dX10_mix_1 rfl (lv_at hl 1 rfl) ?_
  refine lv_i2l (v := a2.toInt64) hx hb dX10_mix_2 rfl ?_
  refine lv_lxor hx hb dX10_mix_3 ?_
  refine lv_ldc2 (v := -7046029254386353131) hx hb hown (hts _ wm558) dX10_mix_4 ?_
  refine lv_lmul hx hb dX10_mix_7 ?_
  obtain ⟨v8, e8, h⟩ := nm_some h
  refine w_tl e8 ?_
  refine lv_lstore_n (lv' := [(3, .long v8), (0, .long a0), (2, .int a2)]) hx hb dX10_mix_8 rfl hl (by decide) rfl (fun ls hl => ?_)
  refine w_pc 9 rfl ?_
  refine lv_lload_n hx hb dX10_mix_9 rfl (lv_at hl 0 rfl) ?_
  refine lv_lload_n hx hb dX10_mix_10 rfl (lv_at hl 0 rfl) ?_
  refine lv_bipush (v := 30) hx hb dX10_mix_11 (by decide) ?_
  refine lv_lushr (v := ushr64 v8 (30 : Int32)) hx hb dX10_mix_13 rfl ?_
  refine lv_lxor hx hb dX10_mix_14 ?_
  exact re_l hx hb hr hlk (sm_r h) hP hS dX10_mix_15
def rmX10_mixText : Room := { frames := 1, cells := 0, slots := 0, locals := 24 }
def fX10_mixText_6 (a0 : Int64) (i2 : Nat) (a3 : Int32) (M : Mm) : Nat → Int64 → Int32 → Option Int64
  | 0, _, _ => none
  | n + 1, x4, x6 => if a3 ≤ x6 then (some x4) else (if (M (246 + i2) 1) ≤ x6 then (some x4) else (grd (gin x6 (tlen i2)) (bn1 (fX10_mix x4 (M (254 + i2) x6.toNatClampNeg)) (fun v30 => (fX10_mixText_6 a0 i2 a3 M n) v30 (x6 + 1)))))
def fX10_mixText (a0 : Int64) (i2 : Nat) (a3 : Int32) (M : Mm) : Option Int64 :=
  fX10_mixText_6 a0 i2 a3 M FU a0 (0 : Int32)
set_option maxRecDepth 100000 in
set_option maxHeartbeats 4000000 in
theorem kX10_mixText (l : Launch) (D : va_G) (ad : Nat → Nat) (cA : Nat → ClassId) (A : Nat → Prop) {a0 : Int64} {i2 : Nat} {a3 : Int32} {M : Mm} {r : Int64} (hi2 : i2 < 8) (h : fX10_mixText a0 i2 a3 M = some r) : Met l yX10_mixText wsX10_mixText rmX10_mixText (gPc D (tyM cA) 289 (layM ad cA) ad A M [.long a0, .ref (ad (246 + i2)), .int a3]) (gQl D 289 (layM ad cA) ad A M r) 0 0 A := by
  refine Met.ofW (cc := cX10_mixText) (maxL := 7) (ret := (some .long)) (by decide) rfl ?_
  intro p e s m args below meth c s₁ B hml hv
  obtain ⟨ha, hP, hK, hD, hN⟩ := hv
  have hx := B.exec
  have hb := B.bytes
  have hr := B.returns
  have hlk := B.notSynchronized
  have hts : ∀ w ∈ lw_g, w.before args s = true := fun w h => atoms_spec (ws := wsX10_mixText) B.pre w (List.mem_cons_of_mem _ h)
  have hown : s.vm.findClass RX10 = some m.cls := findClass_of_methodNamed B.named
  have hS : va_S A s.heap s.heap [] := va_S.rf
  unfold fX10_mixText at h
  have w148 := hts _ wm208
  have w242 := hts _ wm205
  have lp6 : ∀ (n : Nat) (x4 : Int64) (x6 : Int32) (ls : Array Slot) (H : Heap) (locs : List Loc), lv_has ls 7 [(2, .ref (ad (246 + i2))), (3, .int a3), (4, .long x4), (6, .int x6)] → fX10_mixText_6 a0 i2 a3 M n x4 x6 = some r → va_P D vwCl (gw 289 (layM ad cA) ad M) H → va_S A s.heap H locs → W p l e (headSpec wsX10_mixText rmX10_mixText).room s m args below meth c H locs 0 0 (MQ below (gQl D 289 (layM ad cA) ad A M r) args s 0 0 A) (F0 m 6 ls []) := by
    intro n
    induction n with
    | zero =>
      intro x4 x6 ls H locs hl h hP hS
      rw [fX10_mixText_6] at h
      cases h
    | succ n ih6 =>
      intro x4 x6 ls H locs hl h hP hS
      rw [fX10_mixText_6] at h
      refine w_pc 6 rfl ?_
      refine lv_iload hx hb dX10_mixText_6 (lv_at hl 3 rfl) ?_
      refine lv_iload_n hx hb dX10_mixText_8 rfl (lv_at hl 1 rfl) ?_
      refine w_pc 9 rfl ?_
      refine lv_icmp_ge (tgt := 41) hx hb dX10_mixText_9 (by decide) (fun q9 => ?_) (fun q9 => ?_)
      · replace h := (if_pos q9).symm.trans h
        refine w_pc 41 rfl ?_
        refine lv_lload hx hb dX10_mixText_41 (lv_at hl 2 rfl) ?_
        exact re_l hx hb hr hlk (sm_r h) hP hS dX10_mixText_43
      · replace h := (if_neg q9).symm.trans h
        refine w_pc 12 rfl ?_
        refine lv_iload hx hb dX10_mixText_12 (lv_at hl 3 rfl) ?_
        refine lv_aload_n hx hb dX10_mixText_14 rfl (lv_at hl 0 rfl) ?_
        refine gw_get (C := RX9) (T := TX9) (N := 2) (v := .int (M (246 + i2) 1)) hx hb hts hinX9 hown hK hP (by omega) (lyMText (by omega)) rfl 1 (by decide) w148 (fun _ h9 => h9) rfl dX10_mixText_15 ?_
        refine w_pc 18 rfl ?_
        refine lv_icmp_ge (tgt := 41) hx hb dX10_mixText_18 (by decide) (fun q18 => ?_) (fun q18 => ?_)
        · replace h := (if_pos q18).symm.trans h
          refine w_pc 41 rfl ?_
          refine lv_lload hx hb dX10_mixText_41 (lv_at hl 2 rfl) ?_
          exact re_l hx hb hr hlk (sm_r h) hP hS dX10_mixText_43
        · replace h := (if_neg q18).symm.trans h
          refine w_pc 21 rfl ?_
          refine lv_lload hx hb dX10_mixText_21 (lv_at hl 2 rfl) ?_
          refine lv_aload_n hx hb dX10_mixText_23 rfl (lv_at hl 0 rfl) ?_
          refine gw_get (C := RX9) (T := TX9) (N := 2) (v := .ref (ad (254 + i2))) hx hb hts hinX9 hown hK hP (by omega) (lyMText (by omega)) rfl 0 (by decide) w242 (fun _ h9 => h9) rfl dX10_mixText_24 ?_
          refine lv_iload hx hb dX10_mixText_27 (lv_at hl 3 rfl) ?_
          obtain ⟨g29, h⟩ := gd_in h
          refine gw_iald hx hb hK hP 0 (by omega) (lyMaCh (by omega)) rfl g29 dX10_mixText_29 ?_
          refine w_pc 30 rfl ?_
          obtain ⟨v30, c30, h⟩ := bn1_some h
          refine cl_l (rn_s (As := [.long x4, .int (M (254 + i2) x6.toNatClampNeg)]) (rest := []) ⟨hx, hb, hml, hown, hts⟩ (kX10_mix l D ad cA A (M := M) c30) ⟨callB_of 2 hts (gdc wm557) rfl rfl rfl (hts _ wm50) (hts _ wm555) hdX10_mix ⟨Nat.le_of_ble_eq_true rfl, Nat.le_of_ble_eq_true rfl⟩, hts _ wm556⟩ hK hP hD hN rfl hl.1 rfl (lv_room (Nat.le_of_ble_eq_true rfl)) dX10_mixText_30) hS (fun H locs hP hS => ?_)
          refine w_pc 33 rfl ?_
          refine lv_lstore (lv' := [(4, .long v30), (2, .ref (ad (246 + i2))), (3, .int a3), (6, .int x6)]) hx hb dX10_mixText_33 hl (by decide) rfl (fun ls hl => ?_)
          refine lv_iinc (k := 3) (v := x6 + 1) (lv' := [(6, .int (x6 + 1)), (4, .long v30), (2, .ref (ad (246 + i2))), (3, .int a3)]) hx hb dX10_mixText_35 hl rfl rfl (by decide) rfl (fun ls hl => ?_)
          refine lv_goto (tgt := 6) hx hb dX10_mixText_38 (by decide) ?_
          exact ih6 v30 (x6 + 1) ls _ _ (lv_sub hl [2, 3, 1, 0] rfl) h hP hS
  refine w_entry ha (Nat.le_of_ble_eq_true rfl) (fun ls hl => ?_)
  have hl : lv_has ls 7 [(0, .long a0), (2, .ref (ad (246 + i2))), (3, .int a3)] := hl
  refine w_pc 0 rfl ?_
  refine lv_lload_n hx hb dX10_mixText_0 rfl (lv_at hl 0 rfl) ?_
  refine lv_lstore (lv' := [(4, .long a0), (0, .long a0), (2, .ref (ad (246 + i2))), (3, .int a3)]) hx hb dX10_mixText_1 hl (by decide) rfl (fun ls hl => ?_)
  refine lv_iconst (v := 0) hx hb dX10_mixText_3 (by decide) ?_
  refine lv_istore (lv' := [(6, .int (0 : Int32)), (4, .long a0), (0, .long a0), (2, .ref (ad (246 + i2))), (3, .int a3)]) hx hb dX10_mixText_4 hl (by decide) rfl (fun ls hl => ?_)
  exact lp6 FU a0 (0 : Int32) ls _ _ (lv_sub hl [3, 4, 1, 0] rfl) h hP hS
def rmX10_digestOf : Room := { frames := 0, cells := 0, slots := 0, locals := 0 }
def fX10_digestOf (a0 : Int64) : Option Int32 :=
  some ((ushr64 a0 (33 : Int32)).toInt32)
set_option maxRecDepth 100000 in
set_option maxHeartbeats 4000000 in
theorem kX10_digestOf (l : Launch) (D : va_G) (ad : Nat → Nat) (cA : Nat → ClassId) (A : Nat → Prop) {a0 : Int64} {M : Mm} {r : Int32} (h : fX10_digestOf a0 = some r) : Met l yX10_digestOf wsX10_digestOf rmX10_digestOf (gPc D (tyM cA) 289 (layM ad cA) ad A M [.long a0]) (gQi D 289 (layM ad cA) ad A M r) 0 0 A := by
  refine Met.ofW (cc := cX10_digestOf) (maxL := 2) (ret := (some .int)) (by decide) rfl ?_
  intro p e s m args below meth c s₁ B hml hv
  obtain ⟨ha, hP, hK, hD, hN⟩ := hv
  have hx := B.exec
  have hb := B.bytes
  have hr := B.returns
  have hlk := B.notSynchronized
  have hts : ∀ w ∈ lw_g, w.before args s = true := fun w h => atoms_spec (ws := wsX10_digestOf) B.pre w (List.mem_cons_of_mem _ h)
  have hown : s.vm.findClass RX10 = some m.cls := findClass_of_methodNamed B.named
  have hS : va_S A s.heap s.heap [] := va_S.rf
  unfold fX10_digestOf at h
  refine w_entry ha (Nat.le_of_ble_eq_true rfl) (fun ls hl => ?_)
  have hl : lv_has ls 2 [(0, .long a0)] := hl
  refine w_pc 0 rfl ?_
  refine lv_lload_n hx hb dX10_digestOf_0 rfl (lv_at hl 0 rfl) ?_
  refine lv_bipush (v := 33) hx hb dX10_digestOf_1 (by decide) ?_
  refine lv_lushr (v := ushr64 a0 (33 : Int32)) hx hb dX10_digestOf_3 rfl ?_
  refine lv_l2i (v := (ushr64 a0 (33 : Int32)).toInt32) hx hb dX10_digestOf_4 rfl ?_
  exact re_i hx hb hr hlk (sm_r h) hP hS dX10_digestOf_5
def rmX4_bodyDigestFor : Room := { frames := 3, cells := 0, slots := 0, locals := 67 }
def fX4_bodyDigestFor_30 (i1 : Nat) (s0 : Int32) (sj1 : Nat) (s2 : Int64) (M : Mm) : Option (Int32 × Mm) :=
  bn1 (fX10_mixText s2 sj1 s0 M) (fun v30 => bn1 (fX10_digestOf v30) (fun v33 => some (v33, M)))
def fX4_bodyDigestFor (i1 : Nat) (M : Mm) : Option (Int32 × Mm) :=
  bn1 (fX8_isBodyRelaxed i1 M) (fun v2 => bn2 (fX4_bodyForm v2 M) (fun v5 M5 => grd (decide (v5 < 8)) (if (M5 (263 + i1) 4) = (-1 : Int32) then (fX4_bodyDigestFor_30 i1 (M5 (246 + v5) 1) v5 (0 : Int64) M5) else (fX4_bodyDigestFor_30 i1 (M5 (263 + i1) 4) v5 (0 : Int64) M5))))
set_option maxRecDepth 100000 in
set_option maxHeartbeats 4000000 in
theorem kX4_bodyDigestFor (l : Launch) (D : va_G) (ad : Nat → Nat) (cA : Nat → ClassId) (A : Nat → Prop) {i1 : Nat} {M M1 : Mm} {r : Int32} (hi1 : i1 < 7) (h : fX4_bodyDigestFor i1 M = some (r, M1)) : Met l yX4_bodyDigestFor wsX4_bodyDigestFor rmX4_bodyDigestFor (gPc D (tyM cA) 289 (layM ad cA) ad A M [.ref (ad 243), .ref (ad (263 + i1))]) (gQi D 289 (layM ad cA) ad A M1 r) 0 0 A := by
  refine Met.ofW (cc := cX4_bodyDigestFor) (maxL := 3) (ret := (some .int)) (by decide) rfl ?_
  intro p e s m args below meth c s₁ B hml hv
  obtain ⟨ha, hP, hK, hD, hN⟩ := hv
  have hx := B.exec
  have hb := B.bytes
  have hr := B.returns
  have hlk := B.notSynchronized
  have hts : ∀ w ∈ lw_g, w.before args s = true := fun w h => atoms_spec (ws := wsX4_bodyDigestFor) B.pre w (List.mem_cons_of_mem _ h)
  have hown : s.vm.findClass RX4 = some m.cls := findClass_of_methodNamed B.named
  have hS : va_S A s.heap s.heap [] := va_S.rf
  unfold fX4_bodyDigestFor at h
  have w129 := hts _ wm234
  have w62 := hts _ wm207
  have bk30 : ∀ (s0 : Int32) (sj1 : Nat) (s2 : Int64) (M : Mm) (ls : Array Slot) (H : Heap) (locs : List Loc), sj1 < 8 → lv_has ls 3 [] → fX4_bodyDigestFor_30 i1 s0 sj1 s2 M = some (r, M1) → va_P D vwCl (gw 289 (layM ad cA) ad M) H → va_S A s.heap H locs → W p l e (headSpec wsX4_bodyDigestFor rmX4_bodyDigestFor).room s m args below meth c H locs 0 0 (MQ below (gQi D 289 (layM ad cA) ad A M1 r) args s 0 0 A) (F0 m 30 ls [.int s0, .ref (ad (246 + sj1)), .long s2]) := by
    intro s0 sj1 s2 M ls H locs hbsj1 hl h hP hS
    unfold fX4_bodyDigestFor_30 at h
    refine w_pc 30 rfl ?_
    refine w_pc 30 rfl ?_
    obtain ⟨v30, c30, h⟩ := bn1_some h
    refine cl_l (rn_sN (As := [.long s2, .ref (ad (246 + sj1)), .int s0]) (rest := []) ⟨hx, hb, hml, hown, hts⟩ (kX10_mixText l D ad cA A (by omega) c30) ⟨va_cnB 3 hts (gdc wm554) rfl rfl rfl (hN _ nw13) (hts _ wm50) hdX10_mixText ⟨Nat.le_of_ble_eq_true rfl, Nat.le_of_ble_eq_true rfl⟩, hts _ wm553, trivial⟩ hK hP hD hN rfl hl.1 rfl (lv_room (Nat.le_of_ble_eq_true rfl)) dX4_bodyDigestFor_30) hS (fun H locs hP hS => ?_)
    refine w_pc 33 rfl ?_
    refine w_pc 33 rfl ?_
    obtain ⟨v33, c33, h⟩ := bn1_some h
    refine cl_i (rn_sN (As := [.long v30]) (rest := []) ⟨hx, hb, hml, hown, hts⟩ (kX10_digestOf l D ad cA A (M := M) c33) ⟨va_cnB 1 hts (gdc wm561) rfl rfl rfl (hN _ nw14) (hts _ wm50) hdX10_digestOf ⟨Nat.le_of_ble_eq_true rfl, Nat.le_of_ble_eq_true rfl⟩, hts _ wm560, trivial⟩ hK hP hD hN rfl hl.1 rfl (lv_room (Nat.le_of_ble_eq_true rfl)) dX4_bodyDigestFor_33) hS (fun H locs hP hS => ?_)
    refine w_pc 36 rfl ?_
    exact re_i hx hb hr hlk h hP hS dX4_bodyDigestFor_36
  refine w_entry ha (Nat.le_of_ble_eq_true rfl) (fun ls hl => ?_)
  have hl : lv_has ls 3 [(0, .ref (ad 243)), (1, .ref (ad (263 + i1)))] := hl
  refine w_pc 0 rfl ?_
  refine lv_aload_n hx hb dX4_bodyDigestFor_0 rfl (lv_at hl 0 rfl) ?_
  refine lv_aload_n hx hb dX4_bodyDigestFor_1 rfl (lv_at hl 1 rfl) ?_
  refine w_pc 2 rfl ?_
  obtain ⟨v2, c2, h⟩ := bn1_some h
  refine cl_i (rn_v (As := []) (rest := [.ref (ad 243)]) ⟨hx, hb, hml, hown, hts⟩ (kX8_isBodyRelaxed l D ad cA A (by omega) c2) ⟨callB_of 0 hts (gdc wm550) rfl rfl rfl (hts _ wm57) (hts _ wm547) hdX8_isBodyRelaxed ⟨Nat.le_of_ble_eq_true rfl, Nat.le_of_ble_eq_true rfl⟩, hts _ wm548, hts _ wm549⟩ hK hP hD hN (by omega) (lyMSig (by omega)) rfl rfl hl.1 rfl (lv_room (Nat.le_of_ble_eq_true rfl)) dX4_bodyDigestFor_2) hS (fun H locs hP hS => ?_)
  refine w_pc 5 rfl ?_
  refine w_pc 5 rfl ?_
  obtain ⟨v5, M5, c5, h⟩ := bn2_some h
  obtain ⟨g5, h⟩ := gd_lt h
  refine cl_r (rn_v (As := [.int v2]) (rest := []) ⟨hx, hb, hml, hown, hts⟩ (kX4_bodyForm l D ad cA A c5) ⟨callB_of 1 hts (gdc wm502) rfl rfl rfl (hts _ wm55) (hts _ wm551) hdX4_bodyForm ⟨Nat.le_of_ble_eq_true rfl, Nat.le_of_ble_eq_true rfl⟩, hts _ wm500, hts _ wm501⟩ hK hP hD hN (by omega) lyMMail rfl rfl hl.1 rfl (lv_room (Nat.le_of_ble_eq_true rfl)) dX4_bodyDigestFor_5) hS (fun H locs hP hS => ?_)
  refine w_pc 8 rfl ?_
  refine lv_astore_n (lv' := [(2, .ref (ad (246 + v5))), (0, .ref (ad 243)), (1, .ref (ad (263 + i1)))]) hx hb dX4_bodyDigestFor_8 rfl hl (by decide) rfl (fun ls hl => ?_)
  refine lv_lconst (v := 0) hx hb dX4_bodyDigestFor_9 (by decide) ?_
  refine lv_aload_n hx hb dX4_bodyDigestFor_10 rfl (lv_at hl 0 rfl) ?_
  refine lv_aload_n hx hb dX4_bodyDigestFor_11 rfl (lv_at hl 2 rfl) ?_
  refine gw_get (C := RX8) (T := TX8) (N := 8) (v := .int (M5 (263 + i1) 4)) hx hb hts hinX8 hown hK hP (by omega) (lyMSig (by omega)) rfl 4 (by decide) w129 (fun _ h9 => h9) rfl dX4_bodyDigestFor_12 ?_
  refine lv_iconst (v := -1) hx hb dX4_bodyDigestFor_15 (by decide) ?_
  refine w_pc 16 rfl ?_
  refine lv_icmp_ne (tgt := 26) hx hb dX4_bodyDigestFor_16 (by decide) (fun q16 => ?_) (fun q16 => ?_)
  · replace h := (if_neg q16).symm.trans h
    refine w_pc 26 rfl ?_
    refine lv_aload_n hx hb dX4_bodyDigestFor_26 rfl (lv_at hl 2 rfl) ?_
    refine gw_get (C := RX8) (T := TX8) (N := 8) (v := .int (M5 (263 + i1) 4)) hx hb hts hinX8 hown hK hP (by omega) (lyMSig (by omega)) rfl 4 (by decide) w129 (fun _ h9 => h9) rfl dX4_bodyDigestFor_27 ?_
    exact bk30 (M5 (263 + i1) 4) v5 (0 : Int64) M5 ls _ _ (by omega) (lv_sub hl [] rfl) h hP hS
  · replace h := (if_pos q16).symm.trans h
    refine w_pc 19 rfl ?_
    refine lv_aload_n hx hb dX4_bodyDigestFor_19 rfl (lv_at hl 0 rfl) ?_
    refine gw_get (C := RX9) (T := TX9) (N := 2) (v := .int (M5 (246 + v5) 1)) hx hb hts hinX9 hown hK hP (by omega) (lyMText (by omega)) rfl 1 (by decide) w62 (fun _ h9 => h9) rfl dX4_bodyDigestFor_20 ?_
    refine lv_goto (tgt := 30) hx hb dX4_bodyDigestFor_23 (by decide) ?_
    exact bk30 (M5 (246 + v5) 1) v5 (0 : Int64) M5 ls _ _ (by omega) (lv_sub hl [] rfl) h hP hS
def rmX8_hasName : Room := { frames := 0, cells := 0, slots := 0, locals := 0 }
def fX8_hasName (i0 : Nat) (a1 : Int32) (M : Mm) : Option Int32 :=
  if (((M (263 + i0) 3) >>> (a1 &&& 31)) &&& (1 : Int32)) = 0 then (some (0 : Int32)) else (some (1 : Int32))
set_option maxRecDepth 100000 in
set_option maxHeartbeats 4000000 in
theorem kX8_hasName (l : Launch) (D : va_G) (ad : Nat → Nat) (cA : Nat → ClassId) (A : Nat → Prop) {i0 : Nat} {a1 : Int32} {M : Mm} {r : Int32} (hi0 : i0 < 7) (h : fX8_hasName i0 a1 M = some r) : Met l yX8_hasName wsX8_hasName rmX8_hasName (gPc D (tyM cA) 289 (layM ad cA) ad A M [.ref (ad (263 + i0)), .int a1]) (gQi D 289 (layM ad cA) ad A M r) 0 0 A := by
  refine Met.ofW (cc := cX8_hasName) (maxL := 2) (ret := (some .boolean)) (by decide) rfl ?_
  intro p e s m args below meth c s₁ B hml hv
  obtain ⟨ha, hP, hK, hD, hN⟩ := hv
  have hx := B.exec
  have hb := B.bytes
  have hr := B.returns
  have hlk := B.notSynchronized
  have hts : ∀ w ∈ lw_g, w.before args s = true := fun w h => atoms_spec (ws := wsX8_hasName) B.pre w (List.mem_cons_of_mem _ h)
  have hown : s.vm.findClass RX8 = some m.cls := findClass_of_methodNamed B.named
  have hS : va_S A s.heap s.heap [] := va_S.rf
  unfold fX8_hasName at h
  have w21 := hts _ wm231
  refine w_entry ha (Nat.le_of_ble_eq_true rfl) (fun ls hl => ?_)
  have hl : lv_has ls 2 [(0, .ref (ad (263 + i0))), (1, .int a1)] := hl
  refine w_pc 0 rfl ?_
  refine lv_aload_n hx hb dX8_hasName_0 rfl (lv_at hl 0 rfl) ?_
  refine gw_get (C := RX8) (T := TX8) (N := 8) (v := .int (M (263 + i0) 3)) hx hb hts hinX8 hown hK hP (by omega) (lyMSig (by omega)) rfl 3 (by decide) w21 (fun _ h9 => h9) rfl dX8_hasName_1 ?_
  refine lv_iload_n hx hb dX8_hasName_4 rfl (lv_at hl 1 rfl) ?_
  refine lv_ishr hx hb dX8_hasName_5 ?_
  refine lv_iconst (v := 1) hx hb dX8_hasName_6 (by decide) ?_
  refine lv_iand hx hb dX8_hasName_7 ?_
  refine w_pc 8 rfl ?_
  refine lv_if_eq (tgt := 15) hx hb dX8_hasName_8 (by decide) (fun q8 => ?_) (fun q8 => ?_)
  · replace h := (if_pos q8).symm.trans h
    refine w_pc 15 rfl ?_
    refine lv_iconst (v := 0) hx hb dX8_hasName_15 (by decide) ?_
    exact re_z hx hb hr hlk (Or.inl rfl) (sm_r h) hP hS dX8_hasName_16
  · replace h := (if_neg q8).symm.trans h
    refine w_pc 11 rfl ?_
    refine lv_iconst (v := 1) hx hb dX8_hasName_11 (by decide) ?_
    refine lv_goto (tgt := 16) hx hb dX8_hasName_12 (by decide) ?_
    exact re_z hx hb hr hlk (Or.inr rfl) (sm_r h) hP hS dX8_hasName_16
def rmX8_isHeaderRelaxed : Room := { frames := 0, cells := 0, slots := 0, locals := 0 }
def fX8_isHeaderRelaxed (i0 : Nat) (M : Mm) : Option Int32 :=
  if ((M (263 + i0) 2) &&& (1 : Int32)) = 0 then (some (0 : Int32)) else (some (1 : Int32))
set_option maxRecDepth 100000 in
set_option maxHeartbeats 4000000 in
theorem kX8_isHeaderRelaxed (l : Launch) (D : va_G) (ad : Nat → Nat) (cA : Nat → ClassId) (A : Nat → Prop) {i0 : Nat} {M : Mm} {r : Int32} (hi0 : i0 < 7) (h : fX8_isHeaderRelaxed i0 M = some r) : Met l yX8_isHeaderRelaxed wsX8_isHeaderRelaxed rmX8_isHeaderRelaxed (gPc D (tyM cA) 289 (layM ad cA) ad A M [.ref (ad (263 + i0))]) (gQi D 289 (layM ad cA) ad A M r) 0 0 A := by
  refine Met.ofW (cc := cX8_isHeaderRelaxed) (maxL := 1) (ret := (some .boolean)) (by decide) rfl ?_
  intro p e s m args below meth c s₁ B hml hv
  obtain ⟨ha, hP, hK, hD, hN⟩ := hv
  have hx := B.exec
  have hb := B.bytes
  have hr := B.returns
  have hlk := B.notSynchronized
  have hts : ∀ w ∈ lw_g, w.before args s = true := fun w h => atoms_spec (ws := wsX8_isHeaderRelaxed) B.pre w (List.mem_cons_of_mem _ h)
  have hown : s.vm.findClass RX8 = some m.cls := findClass_of_methodNamed B.named
  have hS : va_S A s.heap s.heap [] := va_S.rf
  unfold fX8_isHeaderRelaxed at h
  have w18 := hts _ wm229
  refine w_entry ha (Nat.le_of_ble_eq_true rfl) (fun ls hl => ?_)
  have hl : lv_has ls 1 [(0, .ref (ad (263 + i0)))] := hl
  refine w_pc 0 rfl ?_
  refine lv_aload_n hx hb dX8_isHeaderRelaxed_0 rfl (lv_at hl 0 rfl) ?_
  refine gw_get (C := RX8) (T := TX8) (N := 8) (v := .int (M (263 + i0) 2)) hx hb hts hinX8 hown hK hP (by omega) (lyMSig (by omega)) rfl 2 (by decide) w18 (fun _ h9 => h9) rfl dX8_isHeaderRelaxed_1 ?_
  refine lv_iconst (v := 1) hx hb dX8_isHeaderRelaxed_4 (by decide) ?_
  refine lv_iand hx hb dX8_isHeaderRelaxed_5 ?_
  refine w_pc 6 rfl ?_
  refine lv_if_eq (tgt := 13) hx hb dX8_isHeaderRelaxed_6 (by decide) (fun q6 => ?_) (fun q6 => ?_)
  · replace h := (if_pos q6).symm.trans h
    refine w_pc 13 rfl ?_
    refine lv_iconst (v := 0) hx hb dX8_isHeaderRelaxed_13 (by decide) ?_
    exact re_z hx hb hr hlk (Or.inl rfl) (sm_r h) hP hS dX8_isHeaderRelaxed_14
  · replace h := (if_neg q6).symm.trans h
    refine w_pc 9 rfl ?_
    refine lv_iconst (v := 1) hx hb dX8_isHeaderRelaxed_9 (by decide) ?_
    refine lv_goto (tgt := 14) hx hb dX8_isHeaderRelaxed_10 (by decide) ?_
    exact re_z hx hb hr hlk (Or.inr rfl) (sm_r h) hP hS dX8_isHeaderRelaxed_14
def rmX4_sealFor : Room := { frames := 3, cells := 0, slots := 0, locals := 68 }
def fX4_sealFor_142 (i1 : Nat) (a2 : Int32) (K72 : Int64 → Int32 → Mm → Option (Int32 × Mm)) (x3 : Int64) (x5 : Int32) (M : Mm) : Option (Int32 × Mm) :=
  K72 x3 (x5 + 1) M
def fX4_sealFor_72 (i1 : Nat) (a2 : Int32) : Nat → Int64 → Int32 → Mm → Option (Int32 × Mm)
  | 0, _, _, _ => none
  | n + 1, x3, x5, M => if (M 243 6) ≤ x5 then (bn1 (fX10_digestOf x3) (fun v149 => some (v149, M))) else (grd (gin x5 6) (bn1 (fX8_hasName i1 (M 244 x5.toNatClampNeg) M) (fun v89 => if v89 = 0 then (fX4_sealFor_142 i1 a2 (fX4_sealFor_72 i1 a2 n) x3 x5 M) else (grd (gin x5 6) (bn1 (fX10_mix x3 (M 244 x5.toNatClampNeg)) (fun v103 => grd (gin x5 6) (bn1 (fX8_isHeaderRelaxed i1 M) (fun v116 => bn2 (fX4_headerForm x5.toNatClampNeg v116 M) (fun v119 M119 => grd (decide (v119 < 8)) (bn1 (fX10_mixText v103 v119 (M119 (246 + v119) 1) M119) (fun v132 => bn1 (fX10_mix v132 (0 : Int32)) (fun v138 => fX4_sealFor_142 i1 a2 (fX4_sealFor_72 i1 a2 n) v138 x5 M119))))))))))))
def fX4_sealFor (i1 : Nat) (a2 : Int32) (M : Mm) : Option (Int32 × Mm) :=
  bn1 (fX10_mix (0 : Int64) a2) (fun v2 => bn1 (fX10_mix v2 (M (263 + i1) 0)) (fun v11 => bn1 (fX10_mix v11 (M (263 + i1) 1)) (fun v20 => bn1 (fX10_mix v20 (M (263 + i1) 2)) (fun v29 => bn1 (fX10_mix v29 (M (263 + i1) 3)) (fun v38 => bn1 (fX10_mix v38 (M (263 + i1) 4)) (fun v47 => bn1 (fX10_mix v47 (M (263 + i1) 5)) (fun v56 => bn1 (fX10_mix v56 (M (263 + i1) 6)) (fun v65 => fX4_sealFor_72 i1 a2 FU v65 (0 : Int32) M))))))))
set_option maxRecDepth 100000 in
set_option maxHeartbeats 4000000 in
theorem kX4_sealFor (l : Launch) (D : va_G) (ad : Nat → Nat) (cA : Nat → ClassId) (A : Nat → Prop) {i1 : Nat} {a2 : Int32} {M M1 : Mm} {r : Int32} (hi1 : i1 < 7) (h : fX4_sealFor i1 a2 M = some (r, M1)) : Met l yX4_sealFor wsX4_sealFor rmX4_sealFor (gPc D (tyM cA) 289 (layM ad cA) ad A M [.ref (ad 243), .ref (ad (263 + i1)), .int a2]) (gQi D 289 (layM ad cA) ad A M1 r) 0 0 A := by
  refine Met.ofW (cc := cX4_sealFor) (maxL := 7) (ret := (some .int)) (by decide) rfl ?_
  intro p e s m args below meth c s₁ B hml hv
  obtain ⟨ha, hP, hK, hD, hN⟩ := hv
  have hx := B.exec
  have hb := B.bytes
  have hr := B.returns
  have hlk := B.notSynchronized
  have hts : ∀ w ∈ lw_g, w.before args s = true := fun w h => atoms_spec (ws := wsX4_sealFor) B.pre w (List.mem_cons_of_mem _ h)
  have hown : s.vm.findClass RX4 = some m.cls := findClass_of_methodNamed B.named
  have hS : va_S A s.heap s.heap [] := va_S.rf
  unfold fX4_sealFor at h
  have w144 := hts _ wm224
  have w147 := hts _ wm227
  have w150 := hts _ wm230
  have w153 := hts _ wm232
  have w129 := hts _ wm234
  have w155 := hts _ wm237
  have w112 := hts _ wm239
  have w59 := hts _ wm291
  have w9 := hts _ wm289
  have w17 := hts _ wm290
  have w62 := hts _ wm207
  have lp72 : ∀ (n : Nat) (x3 : Int64) (x5 : Int32) (M : Mm) (ls : Array Slot) (H : Heap) (locs : List Loc), lv_has ls 7 [(0, .ref (ad 243)), (1, .ref (ad (263 + i1))), (3, .long x3), (5, .int x5)] → fX4_sealFor_72 i1 a2 n x3 x5 M = some (r, M1) → va_P D vwCl (gw 289 (layM ad cA) ad M) H → va_S A s.heap H locs → W p l e (headSpec wsX4_sealFor rmX4_sealFor).room s m args below meth c H locs 0 0 (MQ below (gQi D 289 (layM ad cA) ad A M1 r) args s 0 0 A) (F0 m 72 ls []) := by
    intro n
    induction n with
    | zero =>
      intro x3 x5 M ls H locs hl h hP hS
      rw [fX4_sealFor_72] at h
      cases h
    | succ n ih72 =>
      have bk142 : ∀ (x3 : Int64) (x5 : Int32) (M : Mm) (ls : Array Slot) (H : Heap) (locs : List Loc), lv_has ls 7 [(0, .ref (ad 243)), (1, .ref (ad (263 + i1))), (3, .long x3), (5, .int x5)] → fX4_sealFor_142 i1 a2 (fX4_sealFor_72 i1 a2 n) x3 x5 M = some (r, M1) → va_P D vwCl (gw 289 (layM ad cA) ad M) H → va_S A s.heap H locs → W p l e (headSpec wsX4_sealFor rmX4_sealFor).room s m args below meth c H locs 0 0 (MQ below (gQi D 289 (layM ad cA) ad A M1 r) args s 0 0 A) (F0 m 142 ls []) := by
        intro x3 x5 M ls H locs hl h hP hS
        unfold fX4_sealFor_142 at h
        refine w_pc 142 rfl ?_
        refine lv_iinc (k := 3) (v := x5 + 1) (lv' := [(5, .int (x5 + 1)), (0, .ref (ad 243)), (1, .ref (ad (263 + i1))), (3, .long x3)]) hx hb dX4_sealFor_142 hl rfl rfl (by decide) rfl (fun ls hl => ?_)
        refine lv_goto (tgt := 72) hx hb dX4_sealFor_145 (by decide) ?_
        exact ih72 x3 (x5 + 1) M ls _ _ (lv_sub hl [1, 2, 3, 0] rfl) h hP hS
      intro x3 x5 M ls H locs hl h hP hS
      rw [fX4_sealFor_72] at h
      refine w_pc 72 rfl ?_
      refine lv_iload hx hb dX4_sealFor_72 (lv_at hl 3 rfl) ?_
      refine lv_aload_n hx hb dX4_sealFor_74 rfl (lv_at hl 0 rfl) ?_
      refine gw_get (C := RX4) (T := TX4) (N := 13) (v := .int (M 243 6)) hx hb hts hinX4 hown hK hP (by omega) lyMMail rfl 6 (by decide) w59 (fun _ h9 => h9) rfl dX4_sealFor_75 ?_
      refine w_pc 78 rfl ?_
      refine lv_icmp_ge (tgt := 148) hx hb dX4_sealFor_78 (by decide) (fun q78 => ?_) (fun q78 => ?_)
      · replace h := (if_pos q78).symm.trans h
        refine w_pc 148 rfl ?_
        refine lv_lload_n hx hb dX4_sealFor_148 rfl (lv_at hl 2 rfl) ?_
        refine w_pc 149 rfl ?_
        obtain ⟨v149, c149, h⟩ := bn1_some h
        refine cl_i (rn_sN (As := [.long x3]) (rest := []) ⟨hx, hb, hml, hown, hts⟩ (kX10_digestOf l D ad cA A (M := M) c149) ⟨va_cnB 1 hts (gdc wm561) rfl rfl rfl (hN _ nw14) (hts _ wm50) hdX10_digestOf ⟨Nat.le_of_ble_eq_true rfl, Nat.le_of_ble_eq_true rfl⟩, hts _ wm560, trivial⟩ hK hP hD hN rfl hl.1 rfl (lv_room (Nat.le_of_ble_eq_true rfl)) dX4_sealFor_149) hS (fun H locs hP hS => ?_)
        refine w_pc 152 rfl ?_
        exact re_i hx hb hr hlk h hP hS dX4_sealFor_152
      · replace h := (if_neg q78).symm.trans h
        refine w_pc 81 rfl ?_
        refine lv_aload_n hx hb dX4_sealFor_81 rfl (lv_at hl 1 rfl) ?_
        refine lv_aload_n hx hb dX4_sealFor_82 rfl (lv_at hl 0 rfl) ?_
        refine gw_get (C := RX4) (T := TX4) (N := 13) (v := .ref (ad 244)) hx hb hts hinX4 hown hK hP (by omega) lyMMail rfl 4 (by decide) w9 (fun _ h9 => h9) rfl dX4_sealFor_83 ?_
        refine lv_iload hx hb dX4_sealFor_86 (lv_at hl 3 rfl) ?_
        obtain ⟨g88, h⟩ := gd_in h
        refine gw_iald hx hb hK hP 0 (by omega) lyMaNm rfl g88 dX4_sealFor_88 ?_
        refine w_pc 89 rfl ?_
        obtain ⟨v89, c89, h⟩ := bn1_some h
        refine cl_i (rn_v (As := [.int (M 244 x5.toNatClampNeg)]) (rest := []) ⟨hx, hb, hml, hown, hts⟩ (kX8_hasName l D ad cA A (by omega) c89) ⟨callB_of 1 hts (gdc wm570) rfl rfl rfl (hts _ wm57) (hts _ wm567) hdX8_hasName ⟨Nat.le_of_ble_eq_true rfl, Nat.le_of_ble_eq_true rfl⟩, hts _ wm568, hts _ wm569⟩ hK hP hD hN (by omega) (lyMSig (by omega)) rfl rfl hl.1 rfl (lv_room (Nat.le_of_ble_eq_true rfl)) dX4_sealFor_89) hS (fun H locs hP hS => ?_)
        refine w_pc 92 rfl ?_
        refine w_pc 92 rfl ?_
        refine lv_if_eq (tgt := 142) hx hb dX4_sealFor_92 (by decide) (fun q92 => ?_) (fun q92 => ?_)
        · replace h := (if_pos q92).symm.trans h
          refine w_pc 142 rfl ?_
          exact bk142 x3 x5 M ls _ _ (lv_sub hl [0, 1, 2, 3] rfl) h hP hS
        · replace h := (if_neg q92).symm.trans h
          refine w_pc 95 rfl ?_
          refine lv_lload_n hx hb dX4_sealFor_95 rfl (lv_at hl 2 rfl) ?_
          refine lv_aload_n hx hb dX4_sealFor_96 rfl (lv_at hl 0 rfl) ?_
          refine gw_get (C := RX4) (T := TX4) (N := 13) (v := .ref (ad 244)) hx hb hts hinX4 hown hK hP (by omega) lyMMail rfl 4 (by decide) w9 (fun _ h9 => h9) rfl dX4_sealFor_97 ?_
          refine lv_iload hx hb dX4_sealFor_100 (lv_at hl 3 rfl) ?_
          obtain ⟨g102, h⟩ := gd_in h
          refine gw_iald hx hb hK hP 0 (by omega) lyMaNm rfl g102 dX4_sealFor_102 ?_
          refine w_pc 103 rfl ?_
          obtain ⟨v103, c103, h⟩ := bn1_some h
          refine cl_l (rn_sN (As := [.long x3, .int (M 244 x5.toNatClampNeg)]) (rest := []) ⟨hx, hb, hml, hown, hts⟩ (kX10_mix l D ad cA A (M := M) c103) ⟨va_cnB 2 hts (gdc wm557) rfl rfl rfl (hN _ nw15) (hts _ wm50) hdX10_mix ⟨Nat.le_of_ble_eq_true rfl, Nat.le_of_ble_eq_true rfl⟩, hts _ wm556, trivial⟩ hK hP hD hN rfl hl.1 rfl (lv_room (Nat.le_of_ble_eq_true rfl)) dX4_sealFor_103) hS (fun H locs hP hS => ?_)
          refine w_pc 106 rfl ?_
          refine lv_lstore_n (lv' := [(3, .long v103), (0, .ref (ad 243)), (1, .ref (ad (263 + i1))), (5, .int x5)]) hx hb dX4_sealFor_106 rfl hl (by decide) rfl (fun ls hl => ?_)
          refine lv_aload_n hx hb dX4_sealFor_107 rfl (lv_at hl 1 rfl) ?_
          refine lv_aload_n hx hb dX4_sealFor_108 rfl (lv_at hl 1 rfl) ?_
          refine gw_get (C := RX4) (T := TX4) (N := 13) (v := .ref (ad 245)) hx hb hts hinX4 hown hK hP (by omega) lyMMail rfl 5 (by decide) w17 (fun _ h9 => h9) rfl dX4_sealFor_109 ?_
          refine lv_iload hx hb dX4_sealFor_112 (lv_at hl 3 rfl) ?_
          obtain ⟨g114, h⟩ := gd_in h
          have b114 := some_lo g114
          refine gw_aald hx hb hK hP 4 (by omega) lyMaTx rfl g114 dX4_sealFor_114 ?_
          refine lv_aload_n hx hb dX4_sealFor_115 rfl (lv_at hl 2 rfl) ?_
          refine w_pc 116 rfl ?_
          refine w_pc 116 rfl ?_
          obtain ⟨v116, c116, h⟩ := bn1_some h
          refine cl_i (rn_v (As := []) (rest := [.ref (ad (246 + x5.toNatClampNeg)), .ref (ad 243)]) ⟨hx, hb, hml, hown, hts⟩ (kX8_isHeaderRelaxed l D ad cA A (by omega) c116) ⟨callB_of 0 hts (gdc wm574) rfl rfl rfl (hts _ wm57) (hts _ wm571) hdX8_isHeaderRelaxed ⟨Nat.le_of_ble_eq_true rfl, Nat.le_of_ble_eq_true rfl⟩, hts _ wm572, hts _ wm573⟩ hK hP hD hN (by omega) (lyMSig (by omega)) rfl rfl hl.1 rfl (lv_room (Nat.le_of_ble_eq_true rfl)) dX4_sealFor_116) hS (fun H locs hP hS => ?_)
          refine w_pc 119 rfl ?_
          refine w_pc 119 rfl ?_
          obtain ⟨v119, M119, c119, h⟩ := bn2_some h
          obtain ⟨g119, h⟩ := gd_lt h
          refine cl_r (rn_v (As := [.ref (ad (246 + x5.toNatClampNeg)), .int v116]) (rest := []) ⟨hx, hb, hml, hown, hts⟩ (kX4_headerForm l D ad cA A (by omega) c119) ⟨callB_of 2 hts (gdc wm521) rfl rfl rfl (hts _ wm55) (hts _ wm575) hdX4_headerForm ⟨Nat.le_of_ble_eq_true rfl, Nat.le_of_ble_eq_true rfl⟩, hts _ wm519, hts _ wm520⟩ hK hP hD hN (by omega) lyMMail rfl rfl hl.1 rfl (lv_room (Nat.le_of_ble_eq_true rfl)) dX4_sealFor_119) hS (fun H locs hP hS => ?_)
          refine w_pc 122 rfl ?_
          refine lv_astore (lv' := [(6, .ref (ad (246 + v119))), (3, .long v103), (0, .ref (ad 243)), (1, .ref (ad (263 + i1))), (5, .int x5)]) hx hb dX4_sealFor_122 hl (by decide) rfl (fun ls hl => ?_)
          refine lv_lload_n hx hb dX4_sealFor_124 rfl (lv_at hl 1 rfl) ?_
          refine lv_aload hx hb dX4_sealFor_125 (lv_at hl 0 rfl) ?_
          refine lv_aload hx hb dX4_sealFor_127 (lv_at hl 0 rfl) ?_
          refine gw_get (C := RX9) (T := TX9) (N := 2) (v := .int (M119 (246 + v119) 1)) hx hb hts hinX9 hown hK hP (by omega) (lyMText (by omega)) rfl 1 (by decide) w62 (fun _ h9 => h9) rfl dX4_sealFor_129 ?_
          refine w_pc 132 rfl ?_
          obtain ⟨v132, c132, h⟩ := bn1_some h
          refine cl_l (rn_sN (As := [.long v103, .ref (ad (246 + v119)), .int (M119 (246 + v119) 1)]) (rest := []) ⟨hx, hb, hml, hown, hts⟩ (kX10_mixText l D ad cA A (by omega) c132) ⟨va_cnB 3 hts (gdc wm554) rfl rfl rfl (hN _ nw13) (hts _ wm50) hdX10_mixText ⟨Nat.le_of_ble_eq_true rfl, Nat.le_of_ble_eq_true rfl⟩, hts _ wm553, trivial⟩ hK hP hD hN rfl hl.1 rfl (lv_room (Nat.le_of_ble_eq_true rfl)) dX4_sealFor_132) hS (fun H locs hP hS => ?_)
          refine w_pc 135 rfl ?_
          refine lv_lstore_n (lv' := [(3, .long v132), (6, .ref (ad (246 + v119))), (0, .ref (ad 243)), (1, .ref (ad (263 + i1))), (5, .int x5)]) hx hb dX4_sealFor_135 rfl hl (by decide) rfl (fun ls hl => ?_)
          refine lv_lload_n hx hb dX4_sealFor_136 rfl (lv_at hl 0 rfl) ?_
          refine lv_iconst (v := 0) hx hb dX4_sealFor_137 (by decide) ?_
          refine w_pc 138 rfl ?_
          obtain ⟨v138, c138, h⟩ := bn1_some h
          refine cl_l (rn_sN (As := [.long v132, .int (0 : Int32)]) (rest := []) ⟨hx, hb, hml, hown, hts⟩ (kX10_mix l D ad cA A (M := M119) c138) ⟨va_cnB 2 hts (gdc wm557) rfl rfl rfl (hN _ nw15) (hts _ wm50) hdX10_mix ⟨Nat.le_of_ble_eq_true rfl, Nat.le_of_ble_eq_true rfl⟩, hts _ wm556, trivial⟩ hK hP hD hN rfl hl.1 rfl (lv_room (Nat.le_of_ble_eq_true rfl)) dX4_sealFor_138) hS (fun H locs hP hS => ?_)
          refine w_pc 141 rfl ?_
          refine lv_lstore_n (lv' := [(3, .long v138), (6, .ref (ad (246 + v119))), (0, .ref (ad 243)), (1, .ref (ad (263 + i1))), (5, .int x5)]) hx hb dX4_sealFor_141 rfl hl (by decide) rfl (fun ls hl => ?_)
          exact bk142 v138 x5 M119 ls _ _ (lv_sub hl [2, 3, 0, 4] rfl) h hP hS
  refine w_entry ha (Nat.le_of_ble_eq_true rfl) (fun ls hl => ?_)
  have hl : lv_has ls 7 [(0, .ref (ad 243)), (1, .ref (ad (263 + i1))), (2, .int a2)] := hl
  refine w_pc 0 rfl ?_
  refine lv_lconst (v := 0) hx hb dX4_sealFor_0 (by decide) ?_
  refine lv_iload_n hx hb dX4_sealFor_1 rfl (lv_at hl 2 rfl) ?_
  refine w_pc 2 rfl ?_
  obtain ⟨v2, c2, h⟩ := bn1_some h
  refine cl_l (rn_sN (As := [.long (0 : Int64), .int a2]) (rest := []) ⟨hx, hb, hml, hown, hts⟩ (kX10_mix l D ad cA A (M := M) c2) ⟨va_cnB 2 hts (gdc wm557) rfl rfl rfl (hN _ nw15) (hts _ wm50) hdX10_mix ⟨Nat.le_of_ble_eq_true rfl, Nat.le_of_ble_eq_true rfl⟩, hts _ wm556, trivial⟩ hK hP hD hN rfl hl.1 rfl (lv_room (Nat.le_of_ble_eq_true rfl)) dX4_sealFor_2) hS (fun H locs hP hS => ?_)
  refine w_pc 5 rfl ?_
  refine lv_lstore_n (lv' := [(3, .long v2), (0, .ref (ad 243)), (1, .ref (ad (263 + i1))), (2, .int a2)]) hx hb dX4_sealFor_5 rfl hl (by decide) rfl (fun ls hl => ?_)
  refine lv_lload_n hx hb dX4_sealFor_6 rfl (lv_at hl 0 rfl) ?_
  refine lv_aload_n hx hb dX4_sealFor_7 rfl (lv_at hl 2 rfl) ?_
  refine gw_get (C := RX8) (T := TX8) (N := 8) (v := .int (M (263 + i1) 0)) hx hb hts hinX8 hown hK hP (by omega) (lyMSig (by omega)) rfl 0 (by decide) w144 (fun _ h9 => h9) rfl dX4_sealFor_8 ?_
  refine w_pc 11 rfl ?_
  obtain ⟨v11, c11, h⟩ := bn1_some h
  refine cl_l (rn_sN (As := [.long v2, .int (M (263 + i1) 0)]) (rest := []) ⟨hx, hb, hml, hown, hts⟩ (kX10_mix l D ad cA A (M := M) c11) ⟨va_cnB 2 hts (gdc wm557) rfl rfl rfl (hN _ nw15) (hts _ wm50) hdX10_mix ⟨Nat.le_of_ble_eq_true rfl, Nat.le_of_ble_eq_true rfl⟩, hts _ wm556, trivial⟩ hK hP hD hN rfl hl.1 rfl (lv_room (Nat.le_of_ble_eq_true rfl)) dX4_sealFor_11) hS (fun H locs hP hS => ?_)
  refine w_pc 14 rfl ?_
  refine lv_lstore_n (lv' := [(3, .long v11), (0, .ref (ad 243)), (1, .ref (ad (263 + i1))), (2, .int a2)]) hx hb dX4_sealFor_14 rfl hl (by decide) rfl (fun ls hl => ?_)
  refine lv_lload_n hx hb dX4_sealFor_15 rfl (lv_at hl 0 rfl) ?_
  refine lv_aload_n hx hb dX4_sealFor_16 rfl (lv_at hl 2 rfl) ?_
  refine gw_get (C := RX8) (T := TX8) (N := 8) (v := .int (M (263 + i1) 1)) hx hb hts hinX8 hown hK hP (by omega) (lyMSig (by omega)) rfl 1 (by decide) w147 (fun _ h9 => h9) rfl dX4_sealFor_17 ?_
  refine w_pc 20 rfl ?_
  obtain ⟨v20, c20, h⟩ := bn1_some h
  refine cl_l (rn_sN (As := [.long v11, .int (M (263 + i1) 1)]) (rest := []) ⟨hx, hb, hml, hown, hts⟩ (kX10_mix l D ad cA A (M := M) c20) ⟨va_cnB 2 hts (gdc wm557) rfl rfl rfl (hN _ nw15) (hts _ wm50) hdX10_mix ⟨Nat.le_of_ble_eq_true rfl, Nat.le_of_ble_eq_true rfl⟩, hts _ wm556, trivial⟩ hK hP hD hN rfl hl.1 rfl (lv_room (Nat.le_of_ble_eq_true rfl)) dX4_sealFor_20) hS (fun H locs hP hS => ?_)
  refine w_pc 23 rfl ?_
  refine lv_lstore_n (lv' := [(3, .long v20), (0, .ref (ad 243)), (1, .ref (ad (263 + i1))), (2, .int a2)]) hx hb dX4_sealFor_23 rfl hl (by decide) rfl (fun ls hl => ?_)
  refine lv_lload_n hx hb dX4_sealFor_24 rfl (lv_at hl 0 rfl) ?_
  refine lv_aload_n hx hb dX4_sealFor_25 rfl (lv_at hl 2 rfl) ?_
  refine gw_get (C := RX8) (T := TX8) (N := 8) (v := .int (M (263 + i1) 2)) hx hb hts hinX8 hown hK hP (by omega) (lyMSig (by omega)) rfl 2 (by decide) w150 (fun _ h9 => h9) rfl dX4_sealFor_26 ?_
  refine w_pc 29 rfl ?_
  obtain ⟨v29, c29, h⟩ := bn1_some h
  refine cl_l (rn_sN (As := [.long v20, .int (M (263 + i1) 2)]) (rest := []) ⟨hx, hb, hml, hown, hts⟩ (kX10_mix l D ad cA A (M := M) c29) ⟨va_cnB 2 hts (gdc wm557) rfl rfl rfl (hN _ nw15) (hts _ wm50) hdX10_mix ⟨Nat.le_of_ble_eq_true rfl, Nat.le_of_ble_eq_true rfl⟩, hts _ wm556, trivial⟩ hK hP hD hN rfl hl.1 rfl (lv_room (Nat.le_of_ble_eq_true rfl)) dX4_sealFor_29) hS (fun H locs hP hS => ?_)
  refine w_pc 32 rfl ?_
  refine lv_lstore_n (lv' := [(3, .long v29), (0, .ref (ad 243)), (1, .ref (ad (263 + i1))), (2, .int a2)]) hx hb dX4_sealFor_32 rfl hl (by decide) rfl (fun ls hl => ?_)
  refine lv_lload_n hx hb dX4_sealFor_33 rfl (lv_at hl 0 rfl) ?_
  refine lv_aload_n hx hb dX4_sealFor_34 rfl (lv_at hl 2 rfl) ?_
  refine gw_get (C := RX8) (T := TX8) (N := 8) (v := .int (M (263 + i1) 3)) hx hb hts hinX8 hown hK hP (by omega) (lyMSig (by omega)) rfl 3 (by decide) w153 (fun _ h9 => h9) rfl dX4_sealFor_35 ?_
  refine w_pc 38 rfl ?_
  obtain ⟨v38, c38, h⟩ := bn1_some h
  refine cl_l (rn_sN (As := [.long v29, .int (M (263 + i1) 3)]) (rest := []) ⟨hx, hb, hml, hown, hts⟩ (kX10_mix l D ad cA A (M := M) c38) ⟨va_cnB 2 hts (gdc wm557) rfl rfl rfl (hN _ nw15) (hts _ wm50) hdX10_mix ⟨Nat.le_of_ble_eq_true rfl, Nat.le_of_ble_eq_true rfl⟩, hts _ wm556, trivial⟩ hK hP hD hN rfl hl.1 rfl (lv_room (Nat.le_of_ble_eq_true rfl)) dX4_sealFor_38) hS (fun H locs hP hS => ?_)
  refine w_pc 41 rfl ?_
  refine lv_lstore_n (lv' := [(3, .long v38), (0, .ref (ad 243)), (1, .ref (ad (263 + i1))), (2, .int a2)]) hx hb dX4_sealFor_41 rfl hl (by decide) rfl (fun ls hl => ?_)
  refine lv_lload_n hx hb dX4_sealFor_42 rfl (lv_at hl 0 rfl) ?_
  refine lv_aload_n hx hb dX4_sealFor_43 rfl (lv_at hl 2 rfl) ?_
  refine gw_get (C := RX8) (T := TX8) (N := 8) (v := .int (M (263 + i1) 4)) hx hb hts hinX8 hown hK hP (by omega) (lyMSig (by omega)) rfl 4 (by decide) w129 (fun _ h9 => h9) rfl dX4_sealFor_44 ?_
  refine w_pc 47 rfl ?_
  obtain ⟨v47, c47, h⟩ := bn1_some h
  refine cl_l (rn_sN (As := [.long v38, .int (M (263 + i1) 4)]) (rest := []) ⟨hx, hb, hml, hown, hts⟩ (kX10_mix l D ad cA A (M := M) c47) ⟨va_cnB 2 hts (gdc wm557) rfl rfl rfl (hN _ nw15) (hts _ wm50) hdX10_mix ⟨Nat.le_of_ble_eq_true rfl, Nat.le_of_ble_eq_true rfl⟩, hts _ wm556, trivial⟩ hK hP hD hN rfl hl.1 rfl (lv_room (Nat.le_of_ble_eq_true rfl)) dX4_sealFor_47) hS (fun H locs hP hS => ?_)
  refine w_pc 50 rfl ?_
  refine lv_lstore_n (lv' := [(3, .long v47), (0, .ref (ad 243)), (1, .ref (ad (263 + i1))), (2, .int a2)]) hx hb dX4_sealFor_50 rfl hl (by decide) rfl (fun ls hl => ?_)
  refine lv_lload_n hx hb dX4_sealFor_51 rfl (lv_at hl 0 rfl) ?_
  refine lv_aload_n hx hb dX4_sealFor_52 rfl (lv_at hl 2 rfl) ?_
  refine gw_get (C := RX8) (T := TX8) (N := 8) (v := .int (M (263 + i1) 5)) hx hb hts hinX8 hown hK hP (by omega) (lyMSig (by omega)) rfl 5 (by decide) w155 (fun _ h9 => h9) rfl dX4_sealFor_53 ?_
  refine w_pc 56 rfl ?_
  obtain ⟨v56, c56, h⟩ := bn1_some h
  refine cl_l (rn_sN (As := [.long v47, .int (M (263 + i1) 5)]) (rest := []) ⟨hx, hb, hml, hown, hts⟩ (kX10_mix l D ad cA A (M := M) c56) ⟨va_cnB 2 hts (gdc wm557) rfl rfl rfl (hN _ nw15) (hts _ wm50) hdX10_mix ⟨Nat.le_of_ble_eq_true rfl, Nat.le_of_ble_eq_true rfl⟩, hts _ wm556, trivial⟩ hK hP hD hN rfl hl.1 rfl (lv_room (Nat.le_of_ble_eq_true rfl)) dX4_sealFor_56) hS (fun H locs hP hS => ?_)
  refine w_pc 59 rfl ?_
  refine lv_lstore_n (lv' := [(3, .long v56), (0, .ref (ad 243)), (1, .ref (ad (263 + i1))), (2, .int a2)]) hx hb dX4_sealFor_59 rfl hl (by decide) rfl (fun ls hl => ?_)
  refine lv_lload_n hx hb dX4_sealFor_60 rfl (lv_at hl 0 rfl) ?_
  refine lv_aload_n hx hb dX4_sealFor_61 rfl (lv_at hl 2 rfl) ?_
  refine gw_get (C := RX8) (T := TX8) (N := 8) (v := .int (M (263 + i1) 6)) hx hb hts hinX8 hown hK hP (by omega) (lyMSig (by omega)) rfl 6 (by decide) w112 (fun _ h9 => h9) rfl dX4_sealFor_62 ?_
  refine w_pc 65 rfl ?_
  obtain ⟨v65, c65, h⟩ := bn1_some h
  refine cl_l (rn_sN (As := [.long v56, .int (M (263 + i1) 6)]) (rest := []) ⟨hx, hb, hml, hown, hts⟩ (kX10_mix l D ad cA A (M := M) c65) ⟨va_cnB 2 hts (gdc wm557) rfl rfl rfl (hN _ nw15) (hts _ wm50) hdX10_mix ⟨Nat.le_of_ble_eq_true rfl, Nat.le_of_ble_eq_true rfl⟩, hts _ wm556, trivial⟩ hK hP hD hN rfl hl.1 rfl (lv_room (Nat.le_of_ble_eq_true rfl)) dX4_sealFor_65) hS (fun H locs hP hS => ?_)
  refine w_pc 68 rfl ?_
  refine lv_lstore_n (lv' := [(3, .long v65), (0, .ref (ad 243)), (1, .ref (ad (263 + i1))), (2, .int a2)]) hx hb dX4_sealFor_68 rfl hl (by decide) rfl (fun ls hl => ?_)
  refine lv_iconst (v := 0) hx hb dX4_sealFor_69 (by decide) ?_
  refine lv_istore (lv' := [(5, .int (0 : Int32)), (3, .long v65), (0, .ref (ad 243)), (1, .ref (ad (263 + i1))), (2, .int a2)]) hx hb dX4_sealFor_70 hl (by decide) rfl (fun ls hl => ?_)
  exact lp72 FU v65 (0 : Int32) M ls _ _ (lv_sub hl [2, 3, 1, 0] rfl) h hP hS
