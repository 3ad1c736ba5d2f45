def rmX11_isNear : Room := { frames := 1, cells := 0, slots := 0, locals := 22 }
def fX11_isNear (a1 : Int32) (a2 : Int32) (M : Mm) : Option Int32 :=
  if a1 = (M 0 21) then (some (1 : Int32)) else (if a2 = 0 then (bn1 (fX11_homeOf a1 M) (fun v14 => bn1 (fX11_homeOf (M 0 21) M) (fun v22 => if v14 = v22 then (some (1 : Int32)) else (some (0 : Int32))))) else (some (0 : Int32)))
set_option maxRecDepth 100000 in
set_option maxHeartbeats 4000000 in
theorem kX11_isNear (l : Launch) (D : va_G) (ad : Nat → Nat) (cA : Nat → ClassId) (A : Nat → Prop) {a1 : Int32} {a2 : Int32} {M : Mm} {r : Int32} (h : fX11_isNear a1 a2 M = some r) : Met l yX11_isNear wsX11_isNear rmX11_isNear (gPc D (tyM cA) 40 (layN ad cA) ad A M [.ref (ad 0), .int a1, .int a2]) (gQi D 40 (layN ad cA) ad A M r) 0 0 A := by
  refine Met.ofW (cc := cX11_isNear) (maxL := 3) (ret := (some .boolean)) (by decide) rfl ?_
  intro p e s m args below meth c s₁ B hml hv
  obtain ⟨ha, hP, hK, hD, hN⟩ := hv
  have hx := B.exec
  have hb := B.bytes
  have hr := B.returns
  have hlk := B.notSynchronized
  have hts : ∀ w ∈ lw_g, w.before args s = true := fun w h => atoms_spec (ws := wsX11_isNear) B.pre w (List.mem_cons_of_mem _ h)
  have hown : s.vm.findClass RX11 = some m.cls := findClass_of_methodNamed B.named
  have hS : va_S A s.heap s.heap [] := va_S.rf
  unfold fX11_isNear at h
  have w197 := hts _ wm748
  refine w_entry ha (Nat.le_of_ble_eq_true rfl) (fun ls hl => ?_)
  have hl : lv_has ls 3 [(0, .ref (ad 0)), (1, .int a1), (2, .int a2)] := hl
  refine w_pc 0 rfl ?_
  refine lv_iload_n hx hb dX11_isNear_0 rfl (lv_at hl 1 rfl) ?_
  refine lv_aload_n hx hb dX11_isNear_1 rfl (lv_at hl 0 rfl) ?_
  refine gw_get (C := RX11) (T := TX11) (N := 55) (v := .int (M 0 21)) hx hb hts hinX11 hown hK hP (by omega) lyNMM rfl 21 (by decide) w197 (fun _ h9 => h9) rfl dX11_isNear_2 ?_
  refine w_pc 5 rfl ?_
  refine lv_icmp_eq (tgt := 28) hx hb dX11_isNear_5 (by decide) (fun q5 => ?_) (fun q5 => ?_)
  · replace h := (if_pos q5).symm.trans h
    refine w_pc 28 rfl ?_
    refine lv_iconst (v := 1) hx hb dX11_isNear_28 (by decide) ?_
    refine lv_goto (tgt := 33) hx hb dX11_isNear_29 (by decide) ?_
    exact re_z hx hb hr hlk (Or.inr rfl) (sm_r h) hP hS dX11_isNear_33
  · replace h := (if_neg q5).symm.trans h
    refine w_pc 8 rfl ?_
    refine lv_iload_n hx hb dX11_isNear_8 rfl (lv_at hl 2 rfl) ?_
    refine w_pc 9 rfl ?_
    refine lv_if_ne (tgt := 32) hx hb dX11_isNear_9 (by decide) (fun q9 => ?_) (fun q9 => ?_)
    · replace h := (if_neg q9).symm.trans h
      refine w_pc 32 rfl ?_
      refine lv_iconst (v := 0) hx hb dX11_isNear_32 (by decide) ?_
      exact re_z hx hb hr hlk (Or.inl rfl) (sm_r h) hP hS dX11_isNear_33
    · replace h := (if_pos q9).symm.trans h
      refine w_pc 12 rfl ?_
      refine lv_aload_n hx hb dX11_isNear_12 rfl (lv_at hl 0 rfl) ?_
      refine lv_iload_n hx hb dX11_isNear_13 rfl (lv_at hl 1 rfl) ?_
      refine w_pc 14 rfl ?_
      obtain ⟨v14, c14, h⟩ := bn1_some h
      refine cl_i (rn_v (As := [.int a1]) (rest := []) ⟨hx, hb, hml, hown, hts⟩ (kX11_homeOf l D ad cA A c14) ⟨callB_of 1 hts (gdc wm909) rfl rfl rfl (hts _ wm61) (hts _ wm906) hdX11_homeOf ⟨Nat.le_of_ble_eq_true rfl, Nat.le_of_ble_eq_true rfl⟩, hts _ wm908, hts _ wm22⟩ hK hP hD hN (by omega) lyNMM rfl rfl hl.1 rfl (lv_room (Nat.le_of_ble_eq_true rfl)) dX11_isNear_14) hS (fun H locs hP hS => ?_)
      refine w_pc 17 rfl ?_
      refine lv_aload_n hx hb dX11_isNear_17 rfl (lv_at hl 0 rfl) ?_
      refine lv_aload_n hx hb dX11_isNear_18 rfl (lv_at hl 0 rfl) ?_
      refine gw_get (C := RX11) (T := TX11) (N := 55) (v := .int (M 0 21)) hx hb hts hinX11 hown hK hP (by omega) lyNMM rfl 21 (by decide) w197 (fun _ h9 => h9) rfl dX11_isNear_19 ?_
      refine w_pc 22 rfl ?_
      obtain ⟨v22, c22, h⟩ := bn1_some h
      refine cl_i (rn_v (As := [.int (M 0 21)]) (rest := [.int v14]) ⟨hx, hb, hml, hown, hts⟩ (kX11_homeOf l D ad cA A c22) ⟨callB_of 1 hts (gdc wm909) rfl rfl rfl (hts _ wm61) (hts _ wm906) hdX11_homeOf ⟨Nat.le_of_ble_eq_true rfl, Nat.le_of_ble_eq_true rfl⟩, hts _ wm908, hts _ wm22⟩ hK hP hD hN (by omega) lyNMM rfl rfl hl.1 rfl (lv_room (Nat.le_of_ble_eq_true rfl)) dX11_isNear_22) hS (fun H locs hP hS => ?_)
      refine w_pc 25 rfl ?_
      refine w_pc 25 rfl ?_
      refine lv_icmp_ne (tgt := 32) hx hb dX11_isNear_25 (by decide) (fun q25 => ?_) (fun q25 => ?_)
      · replace h := (if_neg q25).symm.trans h
        refine w_pc 32 rfl ?_
        refine lv_iconst (v := 0) hx hb dX11_isNear_32 (by decide) ?_
        exact re_z hx hb hr hlk (Or.inl rfl) (sm_r h) hP hS dX11_isNear_33
      · replace h := (if_pos q25).symm.trans h
        refine w_pc 28 rfl ?_
        refine lv_iconst (v := 1) hx hb dX11_isNear_28 (by decide) ?_
        refine lv_goto (tgt := 33) hx hb dX11_isNear_29 (by decide) ?_
        exact re_z hx hb hr hlk (Or.inr rfl) (sm_r h) hP hS dX11_isNear_33
def rmX11_report : Room := { frames := 1, cells := 0, slots := 0, locals := 22 }
def fX11_report_80 (a1 : Int32) (a2 : Int32) (K12 : Int32 → Int32 → Mm → Option Mm) (x3 : Int32) (x4 : Int32) (M : Mm) : Option Mm :=
  K12 x3 (x4 + 1) M
def fX11_report_12 (a1 : Int32) (a2 : Int32) : Nat → Int32 → Int32 → Mm → Option Mm
  | 0, _, _, _ => none
  | n + 1, x3, x4, M => if (M 0 49) ≤ x4 then (if (12 : Int32) ≤ (M 0 49) then (some M) else (grd (gin (M 0 49) 12) (nm (up2 M 35 (M 0 49).toNatClampNeg x3) (fun M104 => grd (gin (M104 0 49) 12) (nm (up2 M104 36 (M104 0 49).toNatClampNeg (M104 0 22)) (fun M117 => grd (gin (M117 0 49) 12) (nm (up2 M117 37 (M117 0 49).toNatClampNeg a1) (fun M127 => grd (gin (M127 0 49) 12) (nm (up2 M127 38 (M127 0 49).toNatClampNeg a2) (fun M137 => grd (gin (M137 0 49) 12) (nm (up2 M137 39 (M137 0 49).toNatClampNeg (1 : Int32)) (fun M147 => nm (up2 M147 0 49 ((M147 0 49) + (1 : Int32))) (fun M155 => some M155))))))))))))) else (grd (gin x4 12) (if (M 35 x4.toNatClampNeg) = x3 then (grd (gin x4 12) (if (M 36 x4.toNatClampNeg) = (M 0 22) then (grd (gin x4 12) (if (M 37 x4.toNatClampNeg) = a1 then (grd (gin x4 12) (if (M 38 x4.toNatClampNeg) = a2 then (grd (gin x4 12) (grd (gin x4 12) (nm (up2 M 39 x4.toNatClampNeg ((M 39 x4.toNatClampNeg) + (1 : Int32))) (fun M78 => some M78)))) else (fX11_report_80 a1 a2 (fX11_report_12 a1 a2 n) x3 x4 M))) else (fX11_report_80 a1 a2 (fX11_report_12 a1 a2 n) x3 x4 M))) else (fX11_report_80 a1 a2 (fX11_report_12 a1 a2 n) x3 x4 M))) else (fX11_report_80 a1 a2 (fX11_report_12 a1 a2 n) x3 x4 M)))
def fX11_report (a1 : Int32) (a2 : Int32) (M : Mm) : Option Mm :=
  bn1 (fX11_homeOf (M 0 21) M) (fun v5 => fX11_report_12 a1 a2 FU v5 (0 : Int32) M)
set_option maxRecDepth 100000 in
set_option maxHeartbeats 4000000 in
theorem kX11_report (l : Launch) (D : va_G) (ad : Nat → Nat) (cA : Nat → ClassId) (A : Nat → Prop) {a1 : Int32} {a2 : Int32} {M M1 : Mm} (h : fX11_report a1 a2 M = some M1) : Met l yX11_report wsX11_report rmX11_report (gPc D (tyM cA) 40 (layN ad cA) ad A M [.ref (ad 0), .int a1, .int a2]) (gQv D 40 (layN ad cA) ad A M1) 0 0 A := by
  refine Met.ofW (cc := cX11_report) (maxL := 5) (ret := none) (by decide) rfl ?_
  intro p e s m args below meth c s₁ B hml hv
  obtain ⟨ha, hP, hK, hD, hN⟩ := hv
  have hx := B.exec
  have hb := B.bytes
  have hr := B.returns
  have hlk := B.notSynchronized
  have hts : ∀ w ∈ lw_g, w.before args s = true := fun w h => atoms_spec (ws := wsX11_report) B.pre w (List.mem_cons_of_mem _ h)
  have hown : s.vm.findClass RX11 = some m.cls := findClass_of_methodNamed B.named
  have hS : va_S A s.heap s.heap [] := va_S.rf
  unfold fX11_report at h
  have w197 := hts _ wm748
  have w272 := hts _ wm776
  have w113 := hts _ wm777
  have w116 := hts _ wm778
  have w141 := hts _ wm749
  have w119 := hts _ wm779
  have w122 := hts _ wm780
  have w125 := hts _ wm781
  have lp12 : ∀ (n : Nat) (x3 : Int32) (x4 : Int32) (M : Mm) (ls : Array Slot) (H : Heap) (locs : List Loc), lv_has ls 5 [(0, .ref (ad 0)), (1, .int a1), (2, .int a2), (3, .int x3), (4, .int x4)] → fX11_report_12 a1 a2 n x3 x4 M = some M1 → va_P D vwCl (gw 40 (layN ad cA) ad M) H → va_S A s.heap H locs → W p l e (headSpec wsX11_report rmX11_report).room s m args below meth c H locs 0 0 (MQ below (gQv D 40 (layN ad cA) ad A M1) args s 0 0 A) (F0 m 12 ls []) := by
    intro n
    induction n with
    | zero =>
      intro x3 x4 M ls H locs hl h hP hS
      rw [fX11_report_12] at h
      cases h
    | succ n ih12 =>
      have bk80 : ∀ (x3 : Int32) (x4 : Int32) (M : Mm) (ls : Array Slot) (H : Heap) (locs : List Loc), lv_has ls 5 [(0, .ref (ad 0)), (1, .int a1), (2, .int a2), (3, .int x3), (4, .int x4)] → fX11_report_80 a1 a2 (fX11_report_12 a1 a2 n) x3 x4 M = some M1 → va_P D vwCl (gw 40 (layN ad cA) ad M) H → va_S A s.heap H locs → W p l e (headSpec wsX11_report rmX11_report).room s m args below meth c H locs 0 0 (MQ below (gQv D 40 (layN ad cA) ad A M1) args s 0 0 A) (F0 m 80 ls []) := by
        intro x3 x4 M ls H locs hl h hP hS
        unfold fX11_report_80 at h
        refine w_pc 80 rfl ?_
        refine lv_iinc (k := 4) (v := x4 + 1) (lv' := [(4, .int (x4 + 1)), (0, .ref (ad 0)), (1, .int a1), (2, .int a2), (3, .int x3)]) hx hb dX11_report_80 hl rfl rfl (by decide) rfl (fun ls hl => ?_)
        refine lv_goto (tgt := 12) hx hb dX11_report_83 (by decide) ?_
        exact ih12 x3 (x4 + 1) M ls _ _ (lv_sub hl [1, 2, 3, 4, 0] rfl) h hP hS
      intro x3 x4 M ls H locs hl h hP hS
      rw [fX11_report_12] at h
      refine w_pc 12 rfl ?_
      refine lv_iload hx hb dX11_report_12 (lv_at hl 4 rfl) ?_
      refine lv_aload_n hx hb dX11_report_14 rfl (lv_at hl 0 rfl) ?_
      refine gw_get (C := RX11) (T := TX11) (N := 55) (v := .int (M 0 49)) hx hb hts hinX11 hown hK hP (by omega) lyNMM rfl 49 (by decide) w272 (fun _ h9 => h9) rfl dX11_report_15 ?_
      refine w_pc 18 rfl ?_
      refine lv_icmp_ge (tgt := 86) hx hb dX11_report_18 (by decide) (fun q18 => ?_) (fun q18 => ?_)
      · replace h := (if_pos q18).symm.trans h
        refine w_pc 86 rfl ?_
        refine lv_aload_n hx hb dX11_report_86 rfl (lv_at hl 0 rfl) ?_
        refine gw_get (C := RX11) (T := TX11) (N := 55) (v := .int (M 0 49)) hx hb hts hinX11 hown hK hP (by omega) lyNMM rfl 49 (by decide) w272 (fun _ h9 => h9) rfl dX11_report_87 ?_
        refine lv_bipush (v := 12) hx hb dX11_report_90 (by decide) ?_
        refine w_pc 92 rfl ?_
        refine lv_icmp_ge (tgt := 158) hx hb dX11_report_92 (by decide) (fun q92 => ?_) (fun q92 => ?_)
        · replace h := (if_pos q92).symm.trans h
          refine w_pc 158 rfl ?_
          exact re_v hx hb hr hlk h hP hS dX11_report_158
        · replace h := (if_neg q92).symm.trans h
          refine w_pc 95 rfl ?_
          refine lv_aload_n hx hb dX11_report_95 rfl (lv_at hl 0 rfl) ?_
          refine gw_get (C := RX11) (T := TX11) (N := 55) (v := .ref (ad 35)) hx hb hts hinX11 hown hK hP (by omega) lyNMM rfl 50 (by decide) w113 (fun _ h9 => h9) rfl dX11_report_96 ?_
          refine lv_aload_n hx hb dX11_report_99 rfl (lv_at hl 0 rfl) ?_
          refine gw_get (C := RX11) (T := TX11) (N := 55) (v := .int (M 0 49)) hx hb hts hinX11 hown hK hP (by omega) lyNMM rfl 49 (by decide) w272 (fun _ h9 => h9) rfl dX11_report_100 ?_
          refine lv_iload_n hx hb dX11_report_103 rfl (lv_at hl 3 rfl) ?_
          obtain ⟨g104, h⟩ := gd_in h
          obtain ⟨M104, eM104, h⟩ := nm_some h
          refine gw_iast hx hb hK hP hD hS 0 (by omega) lyNarowHome rfl g104 eM104 dX11_report_104 (fun H locs hP hS => ?_)
          refine lv_aload_n hx hb dX11_report_105 rfl (lv_at hl 0 rfl) ?_
          refine w_pc 106 rfl ?_
          refine gw_get (C := RX11) (T := TX11) (N := 55) (v := .ref (ad 36)) hx hb hts hinX11 hown hK hP (by omega) lyNMM rfl 51 (by decide) w116 (fun _ h9 => h9) rfl dX11_report_106 ?_
          refine lv_aload_n hx hb dX11_report_109 rfl (lv_at hl 0 rfl) ?_
          refine gw_get (C := RX11) (T := TX11) (N := 55) (v := .int (M104 0 49)) hx hb hts hinX11 hown hK hP (by omega) lyNMM rfl 49 (by decide) w272 (fun _ h9 => h9) rfl dX11_report_110 ?_
          refine lv_aload_n hx hb dX11_report_113 rfl (lv_at hl 0 rfl) ?_
          refine gw_get (C := RX11) (T := TX11) (N := 55) (v := .int (M104 0 22)) hx hb hts hinX11 hown hK hP (by omega) lyNMM rfl 22 (by decide) w141 (fun _ h9 => h9) rfl dX11_report_114 ?_
          obtain ⟨g117, h⟩ := gd_in h
          obtain ⟨M117, eM117, h⟩ := nm_some h
          refine gw_iast hx hb hK hP hD hS 0 (by omega) lyNarowAddress rfl g117 eM117 dX11_report_117 (fun H locs hP hS => ?_)
          refine lv_aload_n hx hb dX11_report_118 rfl (lv_at hl 0 rfl) ?_
          refine gw_get (C := RX11) (T := TX11) (N := 55) (v := .ref (ad 37)) hx hb hts hinX11 hown hK hP (by omega) lyNMM rfl 52 (by decide) w119 (fun _ h9 => h9) rfl dX11_report_119 ?_
          refine w_pc 122 rfl ?_
          refine lv_aload_n hx hb dX11_report_122 rfl (lv_at hl 0 rfl) ?_
          refine gw_get (C := RX11) (T := TX11) (N := 55) (v := .int (M117 0 49)) hx hb hts hinX11 hown hK hP (by omega) lyNMM rfl 49 (by decide) w272 (fun _ h9 => h9) rfl dX11_report_123 ?_
          refine lv_iload_n hx hb dX11_report_126 rfl (lv_at hl 1 rfl) ?_
          obtain ⟨g127, h⟩ := gd_in h
          obtain ⟨M127, eM127, h⟩ := nm_some h
          refine gw_iast hx hb hK hP hD hS 0 (by omega) lyNarowDone rfl g127 eM127 dX11_report_127 (fun H locs hP hS => ?_)
          refine lv_aload_n hx hb dX11_report_128 rfl (lv_at hl 0 rfl) ?_
          refine gw_get (C := RX11) (T := TX11) (N := 55) (v := .ref (ad 38)) hx hb hts hinX11 hown hK hP (by omega) lyNMM rfl 53 (by decide) w122 (fun _ h9 => h9) rfl dX11_report_129 ?_
          refine lv_aload_n hx hb dX11_report_132 rfl (lv_at hl 0 rfl) ?_
          refine gw_get (C := RX11) (T := TX11) (N := 55) (v := .int (M127 0 49)) hx hb hts hinX11 hown hK hP (by omega) lyNMM rfl 49 (by decide) w272 (fun _ h9 => h9) rfl dX11_report_133 ?_
          refine w_pc 136 rfl ?_
          refine lv_iload_n hx hb dX11_report_136 rfl (lv_at hl 2 rfl) ?_
          obtain ⟨g137, h⟩ := gd_in h
          obtain ⟨M137, eM137, h⟩ := nm_some h
          refine gw_iast hx hb hK hP hD hS 0 (by omega) lyNarowResult rfl g137 eM137 dX11_report_137 (fun H locs hP hS => ?_)
          refine lv_aload_n hx hb dX11_report_138 rfl (lv_at hl 0 rfl) ?_
          refine gw_get (C := RX11) (T := TX11) (N := 55) (v := .ref (ad 39)) hx hb hts hinX11 hown hK hP (by omega) lyNMM rfl 54 (by decide) w125 (fun _ h9 => h9) rfl dX11_report_139 ?_
          refine lv_aload_n hx hb dX11_report_142 rfl (lv_at hl 0 rfl) ?_
          refine gw_get (C := RX11) (T := TX11) (N := 55) (v := .int (M137 0 49)) hx hb hts hinX11 hown hK hP (by omega) lyNMM rfl 49 (by decide) w272 (fun _ h9 => h9) rfl dX11_report_143 ?_
          refine lv_iconst (v := 1) hx hb dX11_report_146 (by decide) ?_
          obtain ⟨g147, h⟩ := gd_in h
          obtain ⟨M147, eM147, h⟩ := nm_some h
          refine gw_iast hx hb hK hP hD hS 0 (by omega) lyNarowCount rfl g147 eM147 dX11_report_147 (fun H locs hP hS => ?_)
          refine w_pc 148 rfl ?_
          refine lv_aload_n hx hb dX11_report_148 rfl (lv_at hl 0 rfl) ?_
          refine lv_dup hx hb dX11_report_149 rfl ?_
          refine gw_get (C := RX11) (T := TX11) (N := 55) (v := .int (M147 0 49)) hx hb hts hinX11 hown hK hP (by omega) lyNMM rfl 49 (by decide) w272 (fun _ h9 => h9) rfl dX11_report_150 ?_
          refine lv_iconst (v := 1) hx hb dX11_report_153 (by decide) ?_
          refine lv_iadd hx hb dX11_report_154 ?_
          obtain ⟨M155, eM155, h⟩ := nm_some h
          refine gw_put (C := RX11) (T := TX11) (N := 55) (ty := .int) hx hb hts hinX11 tyX11 tyX11_ok nmX11 hown hK hP hD hS (by omega) lyNMM rfl 49 (by decide) w272 (fun _ h9 => h9) rfl (by decide +kernel) rfl rfl (Nat.le_of_ble_eq_true rfl) rfl eM155 dX11_report_155 (fun H locs hP hS => ?_)
          exact re_v hx hb hr hlk h hP hS dX11_report_158
      · replace h := (if_neg q18).symm.trans h
        refine w_pc 21 rfl ?_
        refine lv_aload_n hx hb dX11_report_21 rfl (lv_at hl 0 rfl) ?_
        refine gw_get (C := RX11) (T := TX11) (N := 55) (v := .ref (ad 35)) hx hb hts hinX11 hown hK hP (by omega) lyNMM rfl 50 (by decide) w113 (fun _ h9 => h9) rfl dX11_report_22 ?_
        refine lv_iload hx hb dX11_report_25 (lv_at hl 4 rfl) ?_
        obtain ⟨g27, h⟩ := gd_in h
        refine gw_iald hx hb hK hP 0 (by omega) lyNarowHome rfl g27 dX11_report_27 ?_
        refine lv_iload_n hx hb dX11_report_28 rfl (lv_at hl 3 rfl) ?_
        refine w_pc 29 rfl ?_
        refine lv_icmp_ne (tgt := 80) hx hb dX11_report_29 (by decide) (fun q29 => ?_) (fun q29 => ?_)
        · replace h := (if_neg q29).symm.trans h
          refine w_pc 80 rfl ?_
          exact bk80 x3 x4 M ls _ _ (lv_sub hl [0, 1, 2, 3, 4] rfl) h hP hS
        · replace h := (if_pos q29).symm.trans h
          refine w_pc 32 rfl ?_
          refine lv_aload_n hx hb dX11_report_32 rfl (lv_at hl 0 rfl) ?_
          refine gw_get (C := RX11) (T := TX11) (N := 55) (v := .ref (ad 36)) hx hb hts hinX11 hown hK hP (by omega) lyNMM rfl 51 (by decide) w116 (fun _ h9 => h9) rfl dX11_report_33 ?_
          refine lv_iload hx hb dX11_report_36 (lv_at hl 4 rfl) ?_
          obtain ⟨g38, h⟩ := gd_in h
          refine gw_iald hx hb hK hP 0 (by omega) lyNarowAddress rfl g38 dX11_report_38 ?_
          refine lv_aload_n hx hb dX11_report_39 rfl (lv_at hl 0 rfl) ?_
          refine gw_get (C := RX11) (T := TX11) (N := 55) (v := .int (M 0 22)) hx hb hts hinX11 hown hK hP (by omega) lyNMM rfl 22 (by decide) w141 (fun _ h9 => h9) rfl dX11_report_40 ?_
          refine w_pc 43 rfl ?_
          refine lv_icmp_ne (tgt := 80) hx hb dX11_report_43 (by decide) (fun q43 => ?_) (fun q43 => ?_)
          · replace h := (if_neg q43).symm.trans h
            refine w_pc 80 rfl ?_
            exact bk80 x3 x4 M ls _ _ (lv_sub hl [0, 1, 2, 3, 4] rfl) h hP hS
          · replace h := (if_pos q43).symm.trans h
            refine w_pc 46 rfl ?_
            refine lv_aload_n hx hb dX11_report_46 rfl (lv_at hl 0 rfl) ?_
            refine gw_get (C := RX11) (T := TX11) (N := 55) (v := .ref (ad 37)) hx hb hts hinX11 hown hK hP (by omega) lyNMM rfl 52 (by decide) w119 (fun _ h9 => h9) rfl dX11_report_47 ?_
            refine lv_iload hx hb dX11_report_50 (lv_at hl 4 rfl) ?_
            obtain ⟨g52, h⟩ := gd_in h
            refine gw_iald hx hb hK hP 0 (by omega) lyNarowDone rfl g52 dX11_report_52 ?_
            refine lv_iload_n hx hb dX11_report_53 rfl (lv_at hl 1 rfl) ?_
            refine w_pc 54 rfl ?_
            refine lv_icmp_ne (tgt := 80) hx hb dX11_report_54 (by decide) (fun q54 => ?_) (fun q54 => ?_)
            · replace h := (if_neg q54).symm.trans h
              refine w_pc 80 rfl ?_
              exact bk80 x3 x4 M ls _ _ (lv_sub hl [0, 1, 2, 3, 4] rfl) h hP hS
            · replace h := (if_pos q54).symm.trans h
              refine w_pc 57 rfl ?_
              refine lv_aload_n hx hb dX11_report_57 rfl (lv_at hl 0 rfl) ?_
              refine gw_get (C := RX11) (T := TX11) (N := 55) (v := .ref (ad 38)) hx hb hts hinX11 hown hK hP (by omega) lyNMM rfl 53 (by decide) w122 (fun _ h9 => h9) rfl dX11_report_58 ?_
              refine lv_iload hx hb dX11_report_61 (lv_at hl 4 rfl) ?_
              obtain ⟨g63, h⟩ := gd_in h
              refine gw_iald hx hb hK hP 0 (by omega) lyNarowResult rfl g63 dX11_report_63 ?_
              refine lv_iload_n hx hb dX11_report_64 rfl (lv_at hl 2 rfl) ?_
              refine w_pc 65 rfl ?_
              refine lv_icmp_ne (tgt := 80) hx hb dX11_report_65 (by decide) (fun q65 => ?_) (fun q65 => ?_)
              · replace h := (if_neg q65).symm.trans h
                refine w_pc 80 rfl ?_
                exact bk80 x3 x4 M ls _ _ (lv_sub hl [0, 1, 2, 3, 4] rfl) h hP hS
              · replace h := (if_pos q65).symm.trans h
                refine w_pc 68 rfl ?_
                refine lv_aload_n hx hb dX11_report_68 rfl (lv_at hl 0 rfl) ?_
                refine gw_get (C := RX11) (T := TX11) (N := 55) (v := .ref (ad 39)) hx hb hts hinX11 hown hK hP (by omega) lyNMM rfl 54 (by decide) w125 (fun _ h9 => h9) rfl dX11_report_69 ?_
                refine lv_iload hx hb dX11_report_72 (lv_at hl 4 rfl) ?_
                refine lv_dup2_11 hx hb dX11_report_74 rfl rfl ?_
                obtain ⟨g75, h⟩ := gd_in h
                refine gw_iald hx hb hK hP 0 (by omega) lyNarowCount rfl g75 dX11_report_75 ?_
                refine lv_iconst (v := 1) hx hb dX11_report_76 (by decide) ?_
                refine lv_iadd hx hb dX11_report_77 ?_
                refine w_pc 78 rfl ?_
                obtain ⟨g78, h⟩ := gd_in h
                obtain ⟨M78, eM78, h⟩ := nm_some h
                refine gw_iast hx hb hK hP hD hS 0 (by omega) lyNarowCount rfl g78 eM78 dX11_report_78 (fun H locs hP hS => ?_)
                exact re_v hx hb hr hlk h hP hS dX11_report_79
  refine w_entry ha (Nat.le_of_ble_eq_true rfl) (fun ls hl => ?_)
  have hl : lv_has ls 5 [(0, .ref (ad 0)), (1, .int a1), (2, .int a2)] := hl
  refine w_pc 0 rfl ?_
  refine lv_aload_n hx hb dX11_report_0 rfl (lv_at hl 0 rfl) ?_
  refine lv_aload_n hx hb dX11_report_1 rfl (lv_at hl 0 rfl) ?_
  refine gw_get (C := RX11) (T := TX11) (N := 55) (v := .int (M 0 21)) hx hb hts hinX11 hown hK hP (by omega) lyNMM rfl 21 (by decide) w197 (fun _ h9 => h9) rfl dX11_report_2 ?_
  refine w_pc 5 rfl ?_
  obtain ⟨v5, c5, h⟩ := bn1_some h
  refine cl_i (rn_v (As := [.int (M 0 21)]) (rest := []) ⟨hx, hb, hml, hown, hts⟩ (kX11_homeOf l D ad cA A c5) ⟨callB_of 1 hts (gdc wm909) rfl rfl rfl (hts _ wm61) (hts _ wm906) hdX11_homeOf ⟨Nat.le_of_ble_eq_true rfl, Nat.le_of_ble_eq_true rfl⟩, hts _ wm908, hts _ wm22⟩ hK hP hD hN (by omega) lyNMM rfl rfl hl.1 rfl (lv_room (Nat.le_of_ble_eq_true rfl)) dX11_report_5) hS (fun H locs hP hS => ?_)
  refine w_pc 8 rfl ?_
  refine lv_istore_n (lv' := [(3, .int v5), (0, .ref (ad 0)), (1, .int a1), (2, .int a2)]) hx hb dX11_report_8 rfl hl (by decide) rfl (fun ls hl => ?_)
  refine lv_iconst (v := 0) hx hb dX11_report_9 (by decide) ?_
  refine lv_istore (lv' := [(4, .int (0 : Int32)), (3, .int v5), (0, .ref (ad 0)), (1, .int a1), (2, .int a2)]) hx hb dX11_report_10 hl (by decide) rfl (fun ls hl => ?_)
  exact lp12 FU v5 (0 : Int32) M ls _ _ (lv_sub hl [2, 3, 4, 1, 0] rfl) h hP hS
def rmX11_judge : Room := { frames := 6, cells := 0, slots := 0, locals := 138 }
def fX11_judge_292 (a1 : Int32) (x7 : Int32) (x8 : Int32) (s0 : Int32) (M : Mm) : Option (Int32 × Mm) :=
  bn1 (fX11_report s0 x7 M) (fun M299 => if x8 = 0 then (some (s0, M299)) else (some ((s0 + (4 : Int32)), M299)))
def fX11_judge_273 (a1 : Int32) (x7 : Int32) (x8 : Int32) (M : Mm) : Option (Int32 × Mm) :=
  fX11_judge_292 a1 x7 x8 (0 : Int32) M
def fX11_judge_255 (a1 : Int32) (K200 : Int32 → Int32 → Int32 → Int32 → Int32 → Int32 → Mm → Option (Int32 × Mm)) (x4 : Int32) (x5 : Int32) (x6 : Int32) (x7 : Int32) (x9 : Int32) (s0 : Int32) (M : Mm) : Option (Int32 × Mm) :=
  K200 x4 x5 x6 x7 s0 (x9 + 1) M
def fX11_judge_254 (a1 : Int32) (K200 : Int32 → Int32 → Int32 → Int32 → Int32 → Int32 → Mm → Option (Int32 × Mm)) (x4 : Int32) (x5 : Int32) (x6 : Int32) (x7 : Int32) (x9 : Int32) (M : Mm) : Option (Int32 × Mm) :=
  fX11_judge_255 a1 K200 x4 x5 x6 x7 x9 (0 : Int32) M
def fX11_judge_250 (a1 : Int32) (K200 : Int32 → Int32 → Int32 → Int32 → Int32 → Int32 → Mm → Option (Int32 × Mm)) (x4 : Int32) (x5 : Int32) (x6 : Int32) (x7 : Int32) (x9 : Int32) (M : Mm) : Option (Int32 × Mm) :=
  fX11_judge_255 a1 K200 x4 x5 x6 x7 x9 (1 : Int32) M
def fX11_judge_234 (a1 : Int32) (K200 : Int32 → Int32 → Int32 → Int32 → Int32 → Int32 → Mm → Option (Int32 × Mm)) (x4 : Int32) (x5 : Int32) (x6 : Int32) (x7 : Int32) (x9 : Int32) (s0 : Int32) (s1 : Int32) (M : Mm) : Option (Int32 × Mm) :=
  bn1 (fX11_isNear s1 s0 M) (fun v234 => if v234 = 0 then (fX11_judge_254 a1 K200 x4 x5 x6 x7 x9 M) else (bn2 (fX11_checkSignature x9 M) (fun v243 M243 => if v243 = (1 : Int32) then (fX11_judge_250 a1 K200 x4 x5 x6 x7 x9 M243) else (fX11_judge_254 a1 K200 x4 x5 x6 x7 x9 M243))))
def fX11_judge_200 (a1 : Int32) : Nat → Int32 → Int32 → Int32 → Int32 → Int32 → Int32 → Mm → Option (Int32 × Mm)
  | 0, _, _, _, _, _, _, _ => none
  | n + 1, x4, x5, x6, x7, x8, x9, M => if (M 0 29) ≤ x9 then (if x8 = 0 then (if x5 = 0 then (fX11_judge_273 a1 x7 x8 M) else (if a1 < x6 then (fX11_judge_292 a1 x7 x8 x5 M) else (fX11_judge_292 a1 x7 x8 (x5 - (1 : Int32)) M))) else (fX11_judge_273 a1 x7 x8 M)) else (if x8 = 0 then (grd (gin x9 7) (if (x4 &&& (1 : Int32)) = 0 then (fX11_judge_234 a1 (fX11_judge_200 a1 n) x4 x5 x6 x7 x9 (0 : Int32) (M 22 x9.toNatClampNeg) M) else (fX11_judge_234 a1 (fX11_judge_200 a1 n) x4 x5 x6 x7 x9 (1 : Int32) (M 22 x9.toNatClampNeg) M))) else (fX11_judge_250 a1 (fX11_judge_200 a1 n) x4 x5 x6 x7 x9 M))
def fX11_judge_195 (a1 : Int32) (x4 : Int32) (x5 : Int32) (x6 : Int32) (x7 : Int32) (s0 : Int32) (M : Mm) : Option (Int32 × Mm) :=
  fX11_judge_200 a1 FU x4 x5 x6 x7 s0 (0 : Int32) M
def fX11_judge_194 (a1 : Int32) (x4 : Int32) (x5 : Int32) (x6 : Int32) (x7 : Int32) (M : Mm) : Option (Int32 × Mm) :=
  fX11_judge_195 a1 x4 x5 x6 x7 (0 : Int32) M
def fX11_judge_184 (a1 : Int32) (x4 : Int32) (x5 : Int32) (x6 : Int32) (x7 : Int32) (s0 : Int32) (s1 : Int32) (M : Mm) : Option (Int32 × Mm) :=
  bn1 (fX11_isNear s1 s0 M) (fun v184 => if v184 = 0 then (fX11_judge_194 a1 x4 x5 x6 x7 M) else (fX11_judge_195 a1 x4 x5 x6 x7 (1 : Int32) M))
def fX11_judge_153 (a1 : Int32) (x4 : Int32) (x5 : Int32) (s0 : Int32) (M : Mm) : Option (Int32 × Mm) :=
  bn2 (fX11_checkSender M) (fun v156 M156 => if v156 = (1 : Int32) then (if (x4 &&& (2 : Int32)) = 0 then (fX11_judge_184 a1 x4 x5 s0 v156 (0 : Int32) (M156 0 20) M156) else (fX11_judge_184 a1 x4 x5 s0 v156 (1 : Int32) (M156 0 20) M156)) else (fX11_judge_194 a1 x4 x5 s0 v156 M156))
def fX11_judge_136 (a1 : Int32) (x3 : Int32) (x4 : Int32) (s0 : Int32) (M : Mm) : Option (Int32 × Mm) :=
  if 0 ≤ x3 then (grd (gin x3 20) (fX11_judge_153 a1 x4 s0 (M 17 x3.toNatClampNeg) M)) else (fX11_judge_153 a1 x4 s0 (100 : Int32) M)
def fX11_judge_103 (a1 : Int32) (x3 : Int32) (s0 : Int32) (M : Mm) : Option (Int32 × Mm) :=
  if 0 ≤ x3 then (if x3 = (M 0 21) then (grd (gin x3 20) (fX11_judge_136 a1 x3 s0 (M 14 x3.toNatClampNeg) M)) else (grd (gin x3 20) (fX11_judge_136 a1 x3 s0 (M 15 x3.toNatClampNeg) M))) else (fX11_judge_136 a1 x3 s0 (0 : Int32) M)
def fX11_judge_88 (a1 : Int32) (s0 : Int32) (M : Mm) : Option (Int32 × Mm) :=
  if 0 ≤ s0 then (grd (gin s0 20) (fX11_judge_103 a1 s0 (M 16 s0.toNatClampNeg) M)) else (fX11_judge_103 a1 s0 (0 : Int32) M)
def fX11_judge_83 (a1 : Int32) (M : Mm) : Option (Int32 × Mm) :=
  fX11_judge_88 a1 (-1 : Int32) M
def fX11_judge_61 (a1 : Int32) (x2 : Int32) (s0 : Int32) (M : Mm) : Option (Int32 × Mm) :=
  grd (gin (M 0 21) 20) (if (M 3 (M 0 21).toNatClampNeg) = 0 then (grd (gin x2 20) (if (M 3 x2.toNatClampNeg) = 0 then (fX11_judge_88 a1 s0 M) else (fX11_judge_83 a1 M))) else (fX11_judge_83 a1 M))
def fX11_judge (a1 : Int32) (M : Mm) : Option (Int32 × Mm) :=
  if (M 0 19) = 0 then (some ((-1 : Int32), M)) else (if a1 < 0 then (some ((-1 : Int32), M)) else (if a1 ≤ (99 : Int32) then (bn1 (fX11_homeOf (M 0 21) M) (fun v24 => grd (gin (M 0 21) 20) (if (M 14 (M 0 21).toNatClampNeg) < 0 then (grd (gin v24 20) (if (M 14 v24.toNatClampNeg) < 0 then (fX11_judge_61 a1 v24 (-1 : Int32) M) else (fX11_judge_61 a1 v24 v24 M))) else (fX11_judge_61 a1 v24 (M 0 21) M)))) else (some ((-1 : Int32), M))))
set_option maxRecDepth 100000 in
set_option maxHeartbeats 4000000 in
theorem kX11_judge (l : Launch) (D : va_G) (ad : Nat → Nat) (cA : Nat → ClassId) (A : Nat → Prop) {a1 : Int32} {M M1 : Mm} {r : Int32} (h : fX11_judge a1 M = some (r, M1)) : Met l yX11_judge wsX11_judge rmX11_judge (gPc D (tyM cA) 40 (layN ad cA) ad A M [.ref (ad 0), .int a1]) (gQi D 40 (layN ad cA) ad A M1 r) 0 0 A := by
  refine Met.ofW (cc := cX11_judge) (maxL := 10) (ret := (some .int)) (by decide) rfl ?_
  intro p e s m args below meth c s₁ B hml hv
  obtain ⟨ha, hP, hK, hD, hN⟩ := hv
  have hx := B.exec
  have hb := B.bytes
  have hr := B.returns
  have hlk := B.notSynchronized
  have hts : ∀ w ∈ lw_g, w.before args s = true := fun w h => atoms_spec (ws := wsX11_judge) B.pre w (List.mem_cons_of_mem _ h)
  have hown : s.vm.findClass RX11 = some m.cls := findClass_of_methodNamed B.named
  have hS : va_S A s.heap s.heap [] := va_S.rf
  unfold fX11_judge at h
  have w190 := hts _ wm746
  have w197 := hts _ wm748
  have w50 := hts _ wm741
  have w17 := hts _ wm730
  have w56 := hts _ wm743
  have w53 := hts _ wm742
  have w59 := hts _ wm744
  have w184 := hts _ wm747
  have w206 := hts _ wm756
  have w74 := hts _ wm757
  have bk292 : ∀ (x7 : Int32) (x8 : Int32) (s0 : Int32) (M : Mm) (ls : Array Slot) (H : Heap) (locs : List Loc), lv_has ls 10 [(0, .ref (ad 0)), (7, .int x7), (8, .int x8)] → fX11_judge_292 a1 x7 x8 s0 M = some (r, M1) → va_P D vwCl (gw 40 (layN ad cA) ad M) H → va_S A s.heap H locs → W p l e (headSpec wsX11_judge rmX11_judge).room s m args below meth c H locs 0 0 (MQ below (gQi D 40 (layN ad cA) ad A M1 r) args s 0 0 A) (F0 m 292 ls [.int s0]) := by
    intro x7 x8 s0 M ls H locs hl h hP hS
    unfold fX11_judge_292 at h
    refine w_pc 292 rfl ?_
    refine lv_istore (lv' := [(9, .int s0), (0, .ref (ad 0)), (7, .int x7), (8, .int x8)]) hx hb dX11_judge_292 hl (by decide) rfl (fun ls hl => ?_)
    refine lv_aload_n hx hb dX11_judge_294 rfl (lv_at hl 1 rfl) ?_
    refine lv_iload hx hb dX11_judge_295 (lv_at hl 0 rfl) ?_
    refine lv_iload hx hb dX11_judge_297 (lv_at hl 2 rfl) ?_
    refine w_pc 299 rfl ?_
    obtain ⟨M299, c299, h⟩ := bn1_some h
    refine cl_v (rn_v (As := [.int s0, .int x7]) (rest := []) ⟨hx, hb, hml, hown, hts⟩ (kX11_report l D ad cA A c299) ⟨callB_of 2 hts (gdc wm1088) rfl rfl rfl (hts _ wm61) (hts _ wm1085) hdX11_report ⟨Nat.le_of_ble_eq_true rfl, Nat.le_of_ble_eq_true rfl⟩, hts _ wm1087, hts _ wm48⟩ hK hP hD hN (by omega) lyNMM rfl rfl hl.1 rfl (lv_room (Nat.le_of_ble_eq_true rfl)) dX11_judge_299) hS (fun H locs hP hS => ?_)
    refine w_pc 302 rfl ?_
    refine lv_iload hx hb dX11_judge_302 (lv_at hl 3 rfl) ?_
    refine w_pc 304 rfl ?_
    refine lv_if_eq (tgt := 314) hx hb dX11_judge_304 (by decide) (fun q304 => ?_) (fun q304 => ?_)
    · replace h := (if_pos q304).symm.trans h
      refine w_pc 314 rfl ?_
      refine lv_iload hx hb dX11_judge_314 (lv_at hl 0 rfl) ?_
      exact re_i hx hb hr hlk h hP hS dX11_judge_316
    · replace h := (if_neg q304).symm.trans h
      refine w_pc 307 rfl ?_
      refine lv_iload hx hb dX11_judge_307 (lv_at hl 0 rfl) ?_
      refine lv_iconst (v := 4) hx hb dX11_judge_309 (by decide) ?_
      refine lv_iadd hx hb dX11_judge_310 ?_
      refine lv_goto (tgt := 316) hx hb dX11_judge_311 (by decide) ?_
      exact re_i hx hb hr hlk h hP hS dX11_judge_316
  have bk273 : ∀ (x7 : Int32) (x8 : Int32) (M : Mm) (ls : Array Slot) (H : Heap) (locs : List Loc), lv_has ls 10 [(0, .ref (ad 0)), (7, .int x7), (8, .int x8)] → fX11_judge_273 a1 x7 x8 M = some (r, M1) → va_P D vwCl (gw 40 (layN ad cA) ad M) H → va_S A s.heap H locs → W p l e (headSpec wsX11_judge rmX11_judge).room s m args below meth c H locs 0 0 (MQ below (gQi D 40 (layN ad cA) ad A M1 r) args s 0 0 A) (F0 m 273 ls []) := by
    intro x7 x8 M ls H locs hl h hP hS
    unfold fX11_judge_273 at h
    refine w_pc 273 rfl ?_
    refine lv_iconst (v := 0) hx hb dX11_judge_273 (by decide) ?_
    refine lv_goto (tgt := 292) hx hb dX11_judge_274 (by decide) ?_
    exact bk292 x7 x8 (0 : Int32) M ls _ _ (lv_sub hl [0, 1, 2] rfl) h hP hS
  have lp200 : ∀ (n : Nat) (x4 : Int32) (x5 : Int32) (x6 : Int32) (x7 : Int32) (x8 : Int32) (x9 : Int32) (M : Mm) (ls : Array Slot) (H : Heap) (locs : List Loc), lv_has ls 10 [(0, .ref (ad 0)), (1, .int a1), (4, .int x4), (5, .int x5), (6, .int x6), (7, .int x7), (8, .int x8), (9, .int x9)] → fX11_judge_200 a1 n x4 x5 x6 x7 x8 x9 M = some (r, M1) → va_P D vwCl (gw 40 (layN ad cA) ad M) H → va_S A s.heap H locs → W p l e (headSpec wsX11_judge rmX11_judge).room s m args below meth c H locs 0 0 (MQ below (gQi D 40 (layN ad cA) ad A M1 r) args s 0 0 A) (F0 m 200 ls []) := by
    intro n
    induction n with
    | zero =>
      intro x4 x5 x6 x7 x8 x9 M ls H locs hl h hP hS
      rw [fX11_judge_200] at h
      cases h
    | succ n ih200 =>
      have bk255 : ∀ (x4 : Int32) (x5 : Int32) (x6 : Int32) (x7 : Int32) (x9 : Int32) (s0 : Int32) (M : Mm) (ls : Array Slot) (H : Heap) (locs : List Loc), lv_has ls 10 [(0, .ref (ad 0)), (1, .int a1), (4, .int x4), (5, .int x5), (6, .int x6), (7, .int x7), (9, .int x9)] → fX11_judge_255 a1 (fX11_judge_200 a1 n) x4 x5 x6 x7 x9 s0 M = some (r, M1) → va_P D vwCl (gw 40 (layN ad cA) ad M) H → va_S A s.heap H locs → W p l e (headSpec wsX11_judge rmX11_judge).room s m args below meth c H locs 0 0 (MQ below (gQi D 40 (layN ad cA) ad A M1 r) args s 0 0 A) (F0 m 255 ls [.int s0]) := by
        intro x4 x5 x6 x7 x9 s0 M ls H locs hl h hP hS
        unfold fX11_judge_255 at h
        refine w_pc 255 rfl ?_
        refine lv_istore (lv' := [(8, .int s0), (0, .ref (ad 0)), (1, .int a1), (4, .int x4), (5, .int x5), (6, .int x6), (7, .int x7), (9, .int x9)]) hx hb dX11_judge_255 hl (by decide) rfl (fun ls hl => ?_)
        refine lv_iinc (k := 7) (v := x9 + 1) (lv' := [(9, .int (x9 + 1)), (8, .int s0), (0, .ref (ad 0)), (1, .int a1), (4, .int x4), (5, .int x5), (6, .int x6), (7, .int x7)]) hx hb dX11_judge_257 hl rfl rfl (by decide) rfl (fun ls hl => ?_)
        refine lv_goto (tgt := 200) hx hb dX11_judge_260 (by decide) ?_
        exact ih200 x4 x5 x6 x7 s0 (x9 + 1) M ls _ _ (lv_sub hl [2, 3, 4, 5, 6, 7, 1, 0] rfl) h hP hS
      have bk254 : ∀ (x4 : Int32) (x5 : Int32) (x6 : Int32) (x7 : Int32) (x9 : Int32) (M : Mm) (ls : Array Slot) (H : Heap) (locs : List Loc), lv_has ls 10 [(0, .ref (ad 0)), (1, .int a1), (4, .int x4), (5, .int x5), (6, .int x6), (7, .int x7), (9, .int x9)] → fX11_judge_254 a1 (fX11_judge_200 a1 n) x4 x5 x6 x7 x9 M = some (r, M1) → va_P D vwCl (gw 40 (layN ad cA) ad M) H → va_S A s.heap H locs → W p l e (headSpec wsX11_judge rmX11_judge).room s m args below meth c H locs 0 0 (MQ below (gQi D 40 (layN ad cA) ad A M1 r) args s 0 0 A) (F0 m 254 ls []) := by
        intro x4 x5 x6 x7 x9 M ls H locs hl h hP hS
        unfold fX11_judge_254 at h
        refine w_pc 254 rfl ?_
        refine lv_iconst (v := 0) hx hb dX11_judge_254 (by decide) ?_
        exact bk255 x4 x5 x6 x7 x9 (0 : Int32) M ls _ _ (lv_sub hl [0, 1, 2, 3, 4, 5, 6] rfl) h hP hS
      have bk250 : ∀ (x4 : Int32) (x5 : Int32) (x6 : Int32) (x7 : Int32) (x9 : Int32) (M : Mm) (ls : Array Slot) (H : Heap) (locs : List Loc), lv_has ls 10 [(0, .ref (ad 0)), (1, .int a1), (4, .int x4), (5, .int x5), (6, .int x6), (7, .int x7), (9, .int x9)] → fX11_judge_250 a1 (fX11_judge_200 a1 n) x4 x5 x6 x7 x9 M = some (r, M1) → va_P D vwCl (gw 40 (layN ad cA) ad M) H → va_S A s.heap H locs → W p l e (headSpec wsX11_judge rmX11_judge).room s m args below meth c H locs 0 0 (MQ below (gQi D 40 (layN ad cA) ad A M1 r) args s 0 0 A) (F0 m 250 ls []) := by
        intro x4 x5 x6 x7 x9 M ls H locs hl h hP hS
        unfold fX11_judge_250 at h
        refine w_pc 250 rfl ?_
        refine lv_iconst (v := 1) hx hb dX11_judge_250 (by decide) ?_
        refine lv_goto (tgt := 255) hx hb dX11_judge_251 (by decide) ?_
        exact bk255 x4 x5 x6 x7 x9 (1 : Int32) M ls _ _ (lv_sub hl [0, 1, 2, 3, 4, 5, 6] rfl) h hP hS
      have bk234 : ∀ (x4 : Int32) (x5 : Int32) (x6 : Int32) (x7 : Int32) (x9 : Int32) (s0 : Int32) (s1 : Int32) (M : Mm) (ls : Array Slot) (H : Heap) (locs : List Loc), lv_has ls 10 [(0, .ref (ad 0)), (1, .int a1), (4, .int x4), (5, .int x5), (6, .int x6), (7, .int x7), (9, .int x9)] → fX11_judge_234 a1 (fX11_judge_200 a1 n) x4 x5 x6 x7 x9 s0 s1 M = some (r, M1) → va_P D vwCl (gw 40 (layN ad cA) ad M) H → va_S A s.heap H locs → W p l e (headSpec wsX11_judge rmX11_judge).room s m args below meth c H locs 0 0 (MQ below (gQi D 40 (layN ad cA) ad A M1 r) args s 0 0 A) (F0 m 234 ls [.int s0, .int s1, .ref (ad 0)]) := by
        intro x4 x5 x6 x7 x9 s0 s1 M ls H locs hl h hP hS
        unfold fX11_judge_234 at h
        refine w_pc 234 rfl ?_
        refine w_pc 234 rfl ?_
        obtain ⟨v234, c234, h⟩ := bn1_some h
        refine cl_i (rn_v (As := [.int s1, .int s0]) (rest := []) ⟨hx, hb, hml, hown, hts⟩ (kX11_isNear l D ad cA A c234) ⟨callB_of 2 hts (gdc wm1084) rfl rfl rfl (hts _ wm61) (hts _ wm1081) hdX11_isNear ⟨Nat.le_of_ble_eq_true rfl, Nat.le_of_ble_eq_true rfl⟩, hts _ wm1083, hts _ wm47⟩ hK hP hD hN (by omega) lyNMM rfl rfl hl.1 rfl (lv_room (Nat.le_of_ble_eq_true rfl)) dX11_judge_234) hS (fun H locs hP hS => ?_)
        refine w_pc 237 rfl ?_
        refine w_pc 237 rfl ?_
        refine lv_if_eq (tgt := 254) hx hb dX11_judge_237 (by decide) (fun q237 => ?_) (fun q237 => ?_)
        · replace h := (if_pos q237).symm.trans h
          refine w_pc 254 rfl ?_
          exact bk254 x4 x5 x6 x7 x9 M ls _ _ (lv_sub hl [0, 1, 2, 3, 4, 5, 6] rfl) h hP hS
        · replace h := (if_neg q237).symm.trans h
          refine w_pc 240 rfl ?_
          refine lv_aload_n hx hb dX11_judge_240 rfl (lv_at hl 0 rfl) ?_
          refine lv_iload hx hb dX11_judge_241 (lv_at hl 6 rfl) ?_
          refine w_pc 243 rfl ?_
          obtain ⟨v243, M243, c243, h⟩ := bn2_some h
          refine cl_i (rn_v (As := [.int x9]) (rest := []) ⟨hx, hb, hml, hown, hts⟩ (kX11_checkSignature l D ad cA A c243) ⟨callB_of 1 hts (gdc wm1060) rfl rfl rfl (hts _ wm61) (hts _ wm1057) hdX11_checkSignature ⟨Nat.le_of_ble_eq_true rfl, Nat.le_of_ble_eq_true rfl⟩, hts _ wm1059, hts _ wm44⟩ hK hP hD hN (by omega) lyNMM rfl rfl hl.1 rfl (lv_room (Nat.le_of_ble_eq_true rfl)) dX11_judge_243) hS (fun H locs hP hS => ?_)
          refine w_pc 246 rfl ?_
          refine lv_iconst (v := 1) hx hb dX11_judge_246 (by decide) ?_
          refine w_pc 247 rfl ?_
          refine lv_icmp_ne (tgt := 254) hx hb dX11_judge_247 (by decide) (fun q247 => ?_) (fun q247 => ?_)
          · replace h := (if_neg q247).symm.trans h
            refine w_pc 254 rfl ?_
            exact bk254 x4 x5 x6 x7 x9 M243 ls _ _ (lv_sub hl [0, 1, 2, 3, 4, 5, 6] rfl) h hP hS
          · replace h := (if_pos q247).symm.trans h
            refine w_pc 250 rfl ?_
            exact bk250 x4 x5 x6 x7 x9 M243 ls _ _ (lv_sub hl [0, 1, 2, 3, 4, 5, 6] rfl) h hP hS
      intro x4 x5 x6 x7 x8 x9 M ls H locs hl h hP hS
      rw [fX11_judge_200] at h
      refine w_pc 200 rfl ?_
      refine lv_iload hx hb dX11_judge_200 (lv_at hl 7 rfl) ?_
      refine lv_aload_n hx hb dX11_judge_202 rfl (lv_at hl 0 rfl) ?_
      refine gw_get (C := RX11) (T := TX11) (N := 55) (v := .int (M 0 29)) hx hb hts hinX11 hown hK hP (by omega) lyNMM rfl 29 (by decide) w206 (fun _ h9 => h9) rfl dX11_judge_203 ?_
      refine w_pc 206 rfl ?_
      refine lv_icmp_ge (tgt := 263) hx hb dX11_judge_206 (by decide) (fun q206 => ?_) (fun q206 => ?_)
      · replace h := (if_pos q206).symm.trans h
        refine w_pc 263 rfl ?_
        refine lv_iload hx hb dX11_judge_263 (lv_at hl 6 rfl) ?_
        refine w_pc 265 rfl ?_
        refine lv_if_ne (tgt := 273) hx hb dX11_judge_265 (by decide) (fun q265 => ?_) (fun q265 => ?_)
        · replace h := (if_neg q265).symm.trans h
          refine w_pc 273 rfl ?_
          exact bk273 x7 x8 M ls _ _ (lv_sub hl [0, 5, 6] rfl) h hP hS
        · replace h := (if_pos q265).symm.trans h
          refine w_pc 268 rfl ?_
          refine lv_iload hx hb dX11_judge_268 (lv_at hl 3 rfl) ?_
          refine w_pc 270 rfl ?_
          refine lv_if_ne (tgt := 277) hx hb dX11_judge_270 (by decide) (fun q270 => ?_) (fun q270 => ?_)
          · replace h := (if_neg q270).symm.trans h
            refine w_pc 277 rfl ?_
            refine lv_iload_n hx hb dX11_judge_277 rfl (lv_at hl 1 rfl) ?_
            refine lv_iload hx hb dX11_judge_278 (lv_at hl 4 rfl) ?_
            refine w_pc 280 rfl ?_
            refine lv_icmp_lt (tgt := 290) hx hb dX11_judge_280 (by decide) (fun q280 => ?_) (fun q280 => ?_)
            · replace h := (if_pos q280).symm.trans h
              refine w_pc 290 rfl ?_
              refine lv_iload hx hb dX11_judge_290 (lv_at hl 3 rfl) ?_
              exact bk292 x7 x8 x5 M ls _ _ (lv_sub hl [0, 5, 6] rfl) h hP hS
            · replace h := (if_neg q280).symm.trans h
              refine w_pc 283 rfl ?_
              refine lv_iload hx hb dX11_judge_283 (lv_at hl 3 rfl) ?_
              refine lv_iconst (v := 1) hx hb dX11_judge_285 (by decide) ?_
              refine lv_isub hx hb dX11_judge_286 ?_
              refine lv_goto (tgt := 292) hx hb dX11_judge_287 (by decide) ?_
              exact bk292 x7 x8 (x5 - (1 : Int32)) M ls _ _ (lv_sub hl [0, 5, 6] rfl) h hP hS
          · replace h := (if_pos q270).symm.trans h
            refine w_pc 273 rfl ?_
            exact bk273 x7 x8 M ls _ _ (lv_sub hl [0, 5, 6] rfl) h hP hS
      · replace h := (if_neg q206).symm.trans h
        refine w_pc 209 rfl ?_
        refine lv_iload hx hb dX11_judge_209 (lv_at hl 6 rfl) ?_
        refine w_pc 211 rfl ?_
        refine lv_if_ne (tgt := 250) hx hb dX11_judge_211 (by decide) (fun q211 => ?_) (fun q211 => ?_)
        · replace h := (if_neg q211).symm.trans h
          refine w_pc 250 rfl ?_
          exact bk250 x4 x5 x6 x7 x9 M ls _ _ (lv_sub hl [0, 1, 2, 3, 4, 5, 7] rfl) h hP hS
        · replace h := (if_pos q211).symm.trans h
          refine w_pc 214 rfl ?_
          refine lv_aload_n hx hb dX11_judge_214 rfl (lv_at hl 0 rfl) ?_
          refine lv_aload_n hx hb dX11_judge_215 rfl (lv_at hl 0 rfl) ?_
          refine gw_get (C := RX11) (T := TX11) (N := 55) (v := .ref (ad 22)) hx hb hts hinX11 hown hK hP (by omega) lyNMM rfl 30 (by decide) w74 (fun _ h9 => h9) rfl dX11_judge_216 ?_
          refine lv_iload hx hb dX11_judge_219 (lv_at hl 7 rfl) ?_
          obtain ⟨g221, h⟩ := gd_in h
          refine gw_iald hx hb hK hP 0 (by omega) lyNabyDomain rfl g221 dX11_judge_221 ?_
          refine lv_iload hx hb dX11_judge_222 (lv_at hl 2 rfl) ?_
          refine lv_iconst (v := 1) hx hb dX11_judge_224 (by decide) ?_
          refine w_pc 225 rfl ?_
          refine lv_iand hx hb dX11_judge_225 ?_
          refine w_pc 226 rfl ?_
          refine lv_if_eq (tgt := 233) hx hb dX11_judge_226 (by decide) (fun q226 => ?_) (fun q226 => ?_)
          · replace h := (if_pos q226).symm.trans h
            refine w_pc 233 rfl ?_
            refine lv_iconst (v := 0) hx hb dX11_judge_233 (by decide) ?_
            exact bk234 x4 x5 x6 x7 x9 (0 : Int32) (M 22 x9.toNatClampNeg) M ls _ _ (lv_sub hl [0, 1, 2, 3, 4, 5, 7] rfl) h hP hS
          · replace h := (if_neg q226).symm.trans h
            refine w_pc 229 rfl ?_
            refine lv_iconst (v := 1) hx hb dX11_judge_229 (by decide) ?_
            refine lv_goto (tgt := 234) hx hb dX11_judge_230 (by decide) ?_
            exact bk234 x4 x5 x6 x7 x9 (1 : Int32) (M 22 x9.toNatClampNeg) M ls _ _ (lv_sub hl [0, 1, 2, 3, 4, 5, 7] rfl) h hP hS
  have bk195 : ∀ (x4 : Int32) (x5 : Int32) (x6 : Int32) (x7 : Int32) (s0 : Int32) (M : Mm) (ls : Array Slot) (H : Heap) (locs : List Loc), lv_has ls 10 [(0, .ref (ad 0)), (1, .int a1), (4, .int x4), (5, .int x5), (6, .int x6), (7, .int x7)] → fX11_judge_195 a1 x4 x5 x6 x7 s0 M = some (r, M1) → va_P D vwCl (gw 40 (layN ad cA) ad M) H → va_S A s.heap H locs → W p l e (headSpec wsX11_judge rmX11_judge).room s m args below meth c H locs 0 0 (MQ below (gQi D 40 (layN ad cA) ad A M1 r) args s 0 0 A) (F0 m 195 ls [.int s0]) := by
    intro x4 x5 x6 x7 s0 M ls H locs hl h hP hS
    unfold fX11_judge_195 at h
    refine w_pc 195 rfl ?_
    refine lv_istore (lv' := [(8, .int s0), (0, .ref (ad 0)), (1, .int a1), (4, .int x4), (5, .int x5), (6, .int x6), (7, .int x7)]) hx hb dX11_judge_195 hl (by decide) rfl (fun ls hl => ?_)
    refine lv_iconst (v := 0) hx hb dX11_judge_197 (by decide) ?_
    refine lv_istore (lv' := [(9, .int (0 : Int32)), (8, .int s0), (0, .ref (ad 0)), (1, .int a1), (4, .int x4), (5, .int x5), (6, .int x6), (7, .int x7)]) hx hb dX11_judge_198 hl (by decide) rfl (fun ls hl => ?_)
    exact lp200 FU x4 x5 x6 x7 s0 (0 : Int32) M ls _ _ (lv_sub hl [2, 3, 4, 5, 6, 7, 1, 0] rfl) h hP hS
  have bk194 : ∀ (x4 : Int32) (x5 : Int32) (x6 : Int32) (x7 : Int32) (M : Mm) (ls : Array Slot) (H : Heap) (locs : List Loc), lv_has ls 10 [(0, .ref (ad 0)), (1, .int a1), (4, .int x4), (5, .int x5), (6, .int x6), (7, .int x7)] → fX11_judge_194 a1 x4 x5 x6 x7 M = some (r, M1) → va_P D vwCl (gw 40 (layN ad cA) ad M) H → va_S A s.heap H locs → W p l e (headSpec wsX11_judge rmX11_judge).room s m args below meth c H locs 0 0 (MQ below (gQi D 40 (layN ad cA) ad A M1 r) args s 0 0 A) (F0 m 194 ls []) := by
    intro x4 x5 x6 x7 M ls H locs hl h hP hS
    unfold fX11_judge_194 at h
    refine w_pc 194 rfl ?_
    refine lv_iconst (v := 0) hx hb dX11_judge_194 (by decide) ?_
    exact bk195 x4 x5 x6 x7 (0 : Int32) M ls _ _ (lv_sub hl [0, 1, 2, 3, 4, 5] rfl) h hP hS
  have bk184 : ∀ (x4 : Int32) (x5 : Int32) (x6 : Int32) (x7 : Int32) (s0 : Int32) (s1 : Int32) (M : Mm) (ls : Array Slot) (H : Heap) (locs : List Loc), lv_has ls 10 [(0, .ref (ad 0)), (1, .int a1), (4, .int x4), (5, .int x5), (6, .int x6), (7, .int x7)] → fX11_judge_184 a1 x4 x5 x6 x7 s0 s1 M = some (r, M1) → va_P D vwCl (gw 40 (layN ad cA) ad M) H → va_S A s.heap H locs → W p l e (headSpec wsX11_judge rmX11_judge).room s m args below meth c H locs 0 0 (MQ below (gQi D 40 (layN ad cA) ad A M1 r) args s 0 0 A) (F0 m 184 ls [.int s0, .int s1, .ref (ad 0)]) := by
    intro x4 x5 x6 x7 s0 s1 M ls H locs hl h hP hS
    unfold fX11_judge_184 at h
    refine w_pc 184 rfl ?_
    refine w_pc 184 rfl ?_
    obtain ⟨v184, c184, h⟩ := bn1_some h
    refine cl_i (rn_v (As := [.int s1, .int s0]) (rest := []) ⟨hx, hb, hml, hown, hts⟩ (kX11_isNear l D ad cA A c184) ⟨callB_of 2 hts (gdc wm1084) rfl rfl rfl (hts _ wm61) (hts _ wm1081) hdX11_isNear ⟨Nat.le_of_ble_eq_true rfl, Nat.le_of_ble_eq_true rfl⟩, hts _ wm1083, hts _ wm47⟩ hK hP hD hN (by omega) lyNMM rfl rfl hl.1 rfl (lv_room (Nat.le_of_ble_eq_true rfl)) dX11_judge_184) hS (fun H locs hP hS => ?_)
    refine w_pc 187 rfl ?_
    refine w_pc 187 rfl ?_
    refine lv_if_eq (tgt := 194) hx hb dX11_judge_187 (by decide) (fun q187 => ?_) (fun q187 => ?_)
    · replace h := (if_pos q187).symm.trans h
      refine w_pc 194 rfl ?_
      exact bk194 x4 x5 x6 x7 M ls _ _ (lv_sub hl [0, 1, 2, 3, 4, 5] rfl) h hP hS
    · replace h := (if_neg q187).symm.trans h
      refine w_pc 190 rfl ?_
      refine lv_iconst (v := 1) hx hb dX11_judge_190 (by decide) ?_
      refine lv_goto (tgt := 195) hx hb dX11_judge_191 (by decide) ?_
      exact bk195 x4 x5 x6 x7 (1 : Int32) M ls _ _ (lv_sub hl [0, 1, 2, 3, 4, 5] rfl) h hP hS
  have bk153 : ∀ (x4 : Int32) (x5 : Int32) (s0 : Int32) (M : Mm) (ls : Array Slot) (H : Heap) (locs : List Loc), lv_has ls 10 [(0, .ref (ad 0)), (1, .int a1), (4, .int x4), (5, .int x5)] → fX11_judge_153 a1 x4 x5 s0 M = some (r, M1) → va_P D vwCl (gw 40 (layN ad cA) ad M) H → va_S A s.heap H locs → W p l e (headSpec wsX11_judge rmX11_judge).room s m args below meth c H locs 0 0 (MQ below (gQi D 40 (layN ad cA) ad A M1 r) args s 0 0 A) (F0 m 153 ls [.int s0]) := by
    intro x4 x5 s0 M ls H locs hl h hP hS
    unfold fX11_judge_153 at h
    refine w_pc 153 rfl ?_
    refine lv_istore (lv' := [(6, .int s0), (0, .ref (ad 0)), (1, .int a1), (4, .int x4), (5, .int x5)]) hx hb dX11_judge_153 hl (by decide) rfl (fun ls hl => ?_)
    refine lv_aload_n hx hb dX11_judge_155 rfl (lv_at hl 1 rfl) ?_
    refine w_pc 156 rfl ?_
    obtain ⟨v156, M156, c156, h⟩ := bn2_some h
    refine cl_i (rn_v (As := []) (rest := []) ⟨hx, hb, hml, hown, hts⟩ (kX11_checkSender l D ad cA A c156) ⟨callB_of 0 hts (gdc wm938) rfl rfl rfl (hts _ wm61) (hts _ wm935) hdX11_checkSender ⟨Nat.le_of_ble_eq_true rfl, Nat.le_of_ble_eq_true rfl⟩, hts _ wm937, hts _ wm23⟩ hK hP hD hN (by omega) lyNMM rfl rfl hl.1 rfl (lv_room (Nat.le_of_ble_eq_true rfl)) dX11_judge_156) hS (fun H locs hP hS => ?_)
    refine w_pc 159 rfl ?_
    refine lv_istore (lv' := [(7, .int v156), (6, .int s0), (0, .ref (ad 0)), (1, .int a1), (4, .int x4), (5, .int x5)]) hx hb dX11_judge_159 hl (by decide) rfl (fun ls hl => ?_)
    refine lv_iload hx hb dX11_judge_161 (lv_at hl 0 rfl) ?_
    refine lv_iconst (v := 1) hx hb dX11_judge_163 (by decide) ?_
    refine w_pc 164 rfl ?_
    refine lv_icmp_ne (tgt := 194) hx hb dX11_judge_164 (by decide) (fun q164 => ?_) (fun q164 => ?_)
    · replace h := (if_neg q164).symm.trans h
      refine w_pc 194 rfl ?_
      exact bk194 x4 x5 s0 v156 M156 ls _ _ (lv_sub hl [2, 3, 4, 5, 1, 0] rfl) h hP hS
    · replace h := (if_pos q164).symm.trans h
      refine w_pc 167 rfl ?_
      refine lv_aload_n hx hb dX11_judge_167 rfl (lv_at hl 2 rfl) ?_
      refine lv_aload_n hx hb dX11_judge_168 rfl (lv_at hl 2 rfl) ?_
      refine gw_get (C := RX11) (T := TX11) (N := 55) (v := .int (M156 0 20)) hx hb hts hinX11 hown hK hP (by omega) lyNMM rfl 20 (by decide) w184 (fun _ h9 => h9) rfl dX11_judge_169 ?_
      refine lv_iload hx hb dX11_judge_172 (lv_at hl 4 rfl) ?_
      refine lv_iconst (v := 2) hx hb dX11_judge_174 (by decide) ?_
      refine lv_iand hx hb dX11_judge_175 ?_
      refine w_pc 176 rfl ?_
      refine lv_if_eq (tgt := 183) hx hb dX11_judge_176 (by decide) (fun q176 => ?_) (fun q176 => ?_)
      · replace h := (if_pos q176).symm.trans h
        refine w_pc 183 rfl ?_
        refine lv_iconst (v := 0) hx hb dX11_judge_183 (by decide) ?_
        exact bk184 x4 x5 s0 v156 (0 : Int32) (M156 0 20) M156 ls _ _ (lv_sub hl [2, 3, 4, 5, 1, 0] rfl) h hP hS
      · replace h := (if_neg q176).symm.trans h
        refine w_pc 179 rfl ?_
        refine lv_iconst (v := 1) hx hb dX11_judge_179 (by decide) ?_
        refine lv_goto (tgt := 184) hx hb dX11_judge_180 (by decide) ?_
        exact bk184 x4 x5 s0 v156 (1 : Int32) (M156 0 20) M156 ls _ _ (lv_sub hl [2, 3, 4, 5, 1, 0] rfl) h hP hS
  have bk136 : ∀ (x3 : Int32) (x4 : Int32) (s0 : Int32) (M : Mm) (ls : Array Slot) (H : Heap) (locs : List Loc), lv_has ls 10 [(0, .ref (ad 0)), (1, .int a1), (3, .int x3), (4, .int x4)] → fX11_judge_136 a1 x3 x4 s0 M = some (r, M1) → va_P D vwCl (gw 40 (layN ad cA) ad M) H → va_S A s.heap H locs → W p l e (headSpec wsX11_judge rmX11_judge).room s m args below meth c H locs 0 0 (MQ below (gQi D 40 (layN ad cA) ad A M1 r) args s 0 0 A) (F0 m 136 ls [.int s0]) := by
    intro x3 x4 s0 M ls H locs hl h hP hS
    unfold fX11_judge_136 at h
    refine w_pc 136 rfl ?_
    refine lv_istore (lv' := [(5, .int s0), (0, .ref (ad 0)), (1, .int a1), (3, .int x3), (4, .int x4)]) hx hb dX11_judge_136 hl (by decide) rfl (fun ls hl => ?_)
    refine lv_iload_n hx hb dX11_judge_138 rfl (lv_at hl 3 rfl) ?_
    refine w_pc 139 rfl ?_
    refine lv_if_ge (tgt := 147) hx hb dX11_judge_139 (by decide) (fun q139 => ?_) (fun q139 => ?_)
    · replace h := (if_pos q139).symm.trans h
      refine w_pc 147 rfl ?_
      refine lv_aload_n hx hb dX11_judge_147 rfl (lv_at hl 1 rfl) ?_
      refine gw_get (C := RX11) (T := TX11) (N := 55) (v := .ref (ad 17)) hx hb hts hinX11 hown hK hP (by omega) lyNMM rfl 17 (by decide) w59 (fun _ h9 => h9) rfl dX11_judge_148 ?_
      refine lv_iload_n hx hb dX11_judge_151 rfl (lv_at hl 3 rfl) ?_
      obtain ⟨g152, h⟩ := gd_in h
      refine gw_iald hx hb hK hP 0 (by omega) lyNaparts rfl g152 dX11_judge_152 ?_
      exact bk153 x4 s0 (M 17 x3.toNatClampNeg) M ls _ _ (lv_sub hl [1, 2, 4, 0] rfl) h hP hS
    · replace h := (if_neg q139).symm.trans h
      refine w_pc 142 rfl ?_
      refine lv_bipush (v := 100) hx hb dX11_judge_142 (by decide) ?_
      refine lv_goto (tgt := 153) hx hb dX11_judge_144 (by decide) ?_
      exact bk153 x4 s0 (100 : Int32) M ls _ _ (lv_sub hl [1, 2, 4, 0] rfl) h hP hS
  have bk103 : ∀ (x3 : Int32) (s0 : Int32) (M : Mm) (ls : Array Slot) (H : Heap) (locs : List Loc), lv_has ls 10 [(0, .ref (ad 0)), (1, .int a1), (3, .int x3)] → fX11_judge_103 a1 x3 s0 M = some (r, M1) → va_P D vwCl (gw 40 (layN ad cA) ad M) H → va_S A s.heap H locs → W p l e (headSpec wsX11_judge rmX11_judge).room s m args below meth c H locs 0 0 (MQ below (gQi D 40 (layN ad cA) ad A M1 r) args s 0 0 A) (F0 m 103 ls [.int s0]) := by
    intro x3 s0 M ls H locs hl h hP hS
    unfold fX11_judge_103 at h
    refine w_pc 103 rfl ?_
    refine lv_istore (lv' := [(4, .int s0), (0, .ref (ad 0)), (1, .int a1), (3, .int x3)]) hx hb dX11_judge_103 hl (by decide) rfl (fun ls hl => ?_)
    refine lv_iload_n hx hb dX11_judge_105 rfl (lv_at hl 3 rfl) ?_
    refine w_pc 106 rfl ?_
    refine lv_if_ge (tgt := 113) hx hb dX11_judge_106 (by decide) (fun q106 => ?_) (fun q106 => ?_)
    · replace h := (if_pos q106).symm.trans h
      refine w_pc 113 rfl ?_
      refine lv_iload_n hx hb dX11_judge_113 rfl (lv_at hl 3 rfl) ?_
      refine lv_aload_n hx hb dX11_judge_114 rfl (lv_at hl 1 rfl) ?_
      refine gw_get (C := RX11) (T := TX11) (N := 55) (v := .int (M 0 21)) hx hb hts hinX11 hown hK hP (by omega) lyNMM rfl 21 (by decide) w197 (fun _ h9 => h9) rfl dX11_judge_115 ?_
      refine w_pc 118 rfl ?_
      refine lv_icmp_ne (tgt := 130) hx hb dX11_judge_118 (by decide) (fun q118 => ?_) (fun q118 => ?_)
      · replace h := (if_neg q118).symm.trans h
        refine w_pc 130 rfl ?_
        refine lv_aload_n hx hb dX11_judge_130 rfl (lv_at hl 1 rfl) ?_
        refine gw_get (C := RX11) (T := TX11) (N := 55) (v := .ref (ad 15)) hx hb hts hinX11 hown hK hP (by omega) lyNMM rfl 15 (by decide) w53 (fun _ h9 => h9) rfl dX11_judge_131 ?_
        refine lv_iload_n hx hb dX11_judge_134 rfl (lv_at hl 3 rfl) ?_
        obtain ⟨g135, h⟩ := gd_in h
        refine gw_iald hx hb hK hP 0 (by omega) lyNabelow rfl g135 dX11_judge_135 ?_
        exact bk136 x3 s0 (M 15 x3.toNatClampNeg) M ls _ _ (lv_sub hl [1, 2, 3, 0] rfl) h hP hS
      · replace h := (if_pos q118).symm.trans h
        refine w_pc 121 rfl ?_
        refine lv_aload_n hx hb dX11_judge_121 rfl (lv_at hl 1 rfl) ?_
        refine gw_get (C := RX11) (T := TX11) (N := 55) (v := .ref (ad 14)) hx hb hts hinX11 hown hK hP (by omega) lyNMM rfl 14 (by decide) w50 (fun _ h9 => h9) rfl dX11_judge_122 ?_
        refine lv_iload_n hx hb dX11_judge_125 rfl (lv_at hl 3 rfl) ?_
        obtain ⟨g126, h⟩ := gd_in h
        refine gw_iald hx hb hK hP 0 (by omega) lyNaown rfl g126 dX11_judge_126 ?_
        refine lv_goto (tgt := 136) hx hb dX11_judge_127 (by decide) ?_
        exact bk136 x3 s0 (M 14 x3.toNatClampNeg) M ls _ _ (lv_sub hl [1, 2, 3, 0] rfl) h hP hS
    · replace h := (if_neg q106).symm.trans h
      refine w_pc 109 rfl ?_
      refine lv_iconst (v := 0) hx hb dX11_judge_109 (by decide) ?_
      refine lv_goto (tgt := 136) hx hb dX11_judge_110 (by decide) ?_
      exact bk136 x3 s0 (0 : Int32) M ls _ _ (lv_sub hl [1, 2, 3, 0] rfl) h hP hS
  have bk88 : ∀ (s0 : Int32) (M : Mm) (ls : Array Slot) (H : Heap) (locs : List Loc), lv_has ls 10 [(0, .ref (ad 0)), (1, .int a1)] → fX11_judge_88 a1 s0 M = some (r, M1) → va_P D vwCl (gw 40 (layN ad cA) ad M) H → va_S A s.heap H locs → W p l e (headSpec wsX11_judge rmX11_judge).room s m args below meth c H locs 0 0 (MQ below (gQi D 40 (layN ad cA) ad A M1 r) args s 0 0 A) (F0 m 88 ls [.int s0]) := by
    intro s0 M ls H locs hl h hP hS
    unfold fX11_judge_88 at h
    refine w_pc 88 rfl ?_
    refine lv_istore_n (lv' := [(3, .int s0), (0, .ref (ad 0)), (1, .int a1)]) hx hb dX11_judge_88 rfl hl (by decide) rfl (fun ls hl => ?_)
    refine lv_iload_n hx hb dX11_judge_89 rfl (lv_at hl 0 rfl) ?_
    refine w_pc 90 rfl ?_
    refine lv_if_ge (tgt := 97) hx hb dX11_judge_90 (by decide) (fun q90 => ?_) (fun q90 => ?_)
    · replace h := (if_pos q90).symm.trans h
      refine w_pc 97 rfl ?_
      refine lv_aload_n hx hb dX11_judge_97 rfl (lv_at hl 1 rfl) ?_
      refine gw_get (C := RX11) (T := TX11) (N := 55) (v := .ref (ad 16)) hx hb hts hinX11 hown hK hP (by omega) lyNMM rfl 16 (by decide) w56 (fun _ h9 => h9) rfl dX11_judge_98 ?_
      refine lv_iload_n hx hb dX11_judge_101 rfl (lv_at hl 0 rfl) ?_
      obtain ⟨g102, h⟩ := gd_in h
      refine gw_iald hx hb hK hP 0 (by omega) lyNastricts rfl g102 dX11_judge_102 ?_
      exact bk103 s0 (M 16 s0.toNatClampNeg) M ls _ _ (lv_sub hl [1, 2, 0] rfl) h hP hS
    · replace h := (if_neg q90).symm.trans h
      refine w_pc 93 rfl ?_
      refine lv_iconst (v := 0) hx hb dX11_judge_93 (by decide) ?_
      refine lv_goto (tgt := 103) hx hb dX11_judge_94 (by decide) ?_
      exact bk103 s0 (0 : Int32) M ls _ _ (lv_sub hl [1, 2, 0] rfl) h hP hS
  have bk83 : ∀ (M : Mm) (ls : Array Slot) (H : Heap) (locs : List Loc), lv_has ls 10 [(0, .ref (ad 0)), (1, .int a1)] → fX11_judge_83 a1 M = some (r, M1) → va_P D vwCl (gw 40 (layN ad cA) ad M) H → va_S A s.heap H locs → W p l e (headSpec wsX11_judge rmX11_judge).room s m args below meth c H locs 0 0 (MQ below (gQi D 40 (layN ad cA) ad A M1 r) args s 0 0 A) (F0 m 83 ls []) := by
    intro M ls H locs hl h hP hS
    unfold fX11_judge_83 at h
    refine w_pc 83 rfl ?_
    refine lv_iconst (v := -1) hx hb dX11_judge_83 (by decide) ?_
    refine lv_goto (tgt := 88) hx hb dX11_judge_84 (by decide) ?_
    exact bk88 (-1 : Int32) M ls _ _ (lv_sub hl [0, 1] rfl) h hP hS
  have bk61 : ∀ (x2 : Int32) (s0 : Int32) (M : Mm) (ls : Array Slot) (H : Heap) (locs : List Loc), lv_has ls 10 [(0, .ref (ad 0)), (1, .int a1), (2, .int x2)] → fX11_judge_61 a1 x2 s0 M = some (r, M1) → va_P D vwCl (gw 40 (layN ad cA) ad M) H → va_S A s.heap H locs → W p l e (headSpec wsX11_judge rmX11_judge).room s m args below meth c H locs 0 0 (MQ below (gQi D 40 (layN ad cA) ad A M1 r) args s 0 0 A) (F0 m 61 ls [.int s0]) := by
    intro x2 s0 M ls H locs hl h hP hS
    unfold fX11_judge_61 at h
    refine w_pc 61 rfl ?_
    refine lv_istore_n (lv' := [(3, .int s0), (0, .ref (ad 0)), (1, .int a1), (2, .int x2)]) hx hb dX11_judge_61 rfl hl (by decide) rfl (fun ls hl => ?_)
    refine lv_aload_n hx hb dX11_judge_62 rfl (lv_at hl 1 rfl) ?_
    refine gw_get (C := RX11) (T := TX11) (N := 55) (v := .ref (ad 3)) hx hb hts hinX11 hown hK hP (by omega) lyNMM rfl 3 (by decide) w17 (fun _ h9 => h9) rfl dX11_judge_63 ?_
    refine lv_aload_n hx hb dX11_judge_66 rfl (lv_at hl 1 rfl) ?_
    refine gw_get (C := RX11) (T := TX11) (N := 55) (v := .int (M 0 21)) hx hb hts hinX11 hown hK hP (by omega) lyNMM rfl 21 (by decide) w197 (fun _ h9 => h9) rfl dX11_judge_67 ?_
    obtain ⟨g70, h⟩ := gd_in h
    refine gw_zald hx hb hK hP 1 (by omega) lyNasilents rfl g70 dX11_judge_70 ?_
    refine w_pc 71 rfl ?_
    refine lv_if_ne (tgt := 83) hx hb dX11_judge_71 (by decide) (fun q71 => ?_) (fun q71 => ?_)
    · replace h := (if_neg q71).symm.trans h
      refine w_pc 83 rfl ?_
      exact bk83 M ls _ _ (lv_sub hl [1, 2] rfl) h hP hS
    · replace h := (if_pos q71).symm.trans h
      refine w_pc 74 rfl ?_
      refine lv_aload_n hx hb dX11_judge_74 rfl (lv_at hl 1 rfl) ?_
      refine gw_get (C := RX11) (T := TX11) (N := 55) (v := .ref (ad 3)) hx hb hts hinX11 hown hK hP (by omega) lyNMM rfl 3 (by decide) w17 (fun _ h9 => h9) rfl dX11_judge_75 ?_
      refine lv_iload_n hx hb dX11_judge_78 rfl (lv_at hl 3 rfl) ?_
      obtain ⟨g79, h⟩ := gd_in h
      refine gw_zald hx hb hK hP 1 (by omega) lyNasilents rfl g79 dX11_judge_79 ?_
      refine w_pc 80 rfl ?_
      refine lv_if_eq (tgt := 87) hx hb dX11_judge_80 (by decide) (fun q80 => ?_) (fun q80 => ?_)
      · replace h := (if_pos q80).symm.trans h
        refine w_pc 87 rfl ?_
        refine lv_iload_n hx hb dX11_judge_87 rfl (lv_at hl 0 rfl) ?_
        exact bk88 s0 M ls _ _ (lv_sub hl [1, 2] rfl) h hP hS
      · replace h := (if_neg q80).symm.trans h
        refine w_pc 83 rfl ?_
        exact bk83 M ls _ _ (lv_sub hl [1, 2] rfl) h hP hS
  refine w_entry ha (Nat.le_of_ble_eq_true rfl) (fun ls hl => ?_)
  have hl : lv_has ls 10 [(0, .ref (ad 0)), (1, .int a1)] := hl
  refine w_pc 0 rfl ?_
  refine lv_aload_n hx hb dX11_judge_0 rfl (lv_at hl 0 rfl) ?_
  refine gw_get (C := RX11) (T := TX11) (N := 55) (v := .int (M 0 19)) hx hb hts hinX11 hown hK hP (by omega) lyNMM rfl 19 (by decide) w190 (fun _ h9 => h9) rfl dX11_judge_1 ?_
  refine w_pc 4 rfl ?_
  refine lv_if_eq (tgt := 17) hx hb dX11_judge_4 (by decide) (fun q4 => ?_) (fun q4 => ?_)
  · replace h := (if_pos q4).symm.trans h
    refine w_pc 17 rfl ?_
    refine lv_iconst (v := -1) hx hb dX11_judge_17 (by decide) ?_
    exact re_i hx hb hr hlk h hP hS dX11_judge_18
  · replace h := (if_neg q4).symm.trans h
    refine w_pc 7 rfl ?_
    refine lv_iload_n hx hb dX11_judge_7 rfl (lv_at hl 1 rfl) ?_
    refine w_pc 8 rfl ?_
    refine lv_if_lt (tgt := 17) hx hb dX11_judge_8 (by decide) (fun q8 => ?_) (fun q8 => ?_)
    · replace h := (if_pos q8).symm.trans h
      refine w_pc 17 rfl ?_
      refine lv_iconst (v := -1) hx hb dX11_judge_17 (by decide) ?_
      exact re_i hx hb hr hlk h hP hS dX11_judge_18
    · replace h := (if_neg q8).symm.trans h
      refine w_pc 11 rfl ?_
      refine lv_iload_n hx hb dX11_judge_11 rfl (lv_at hl 1 rfl) ?_
      refine lv_bipush (v := 99) hx hb dX11_judge_12 (by decide) ?_
      refine w_pc 14 rfl ?_
      refine lv_icmp_le (tgt := 19) hx hb dX11_judge_14 (by decide) (fun q14 => ?_) (fun q14 => ?_)
      · replace h := (if_pos q14).symm.trans h
        refine w_pc 19 rfl ?_
        refine lv_aload_n hx hb dX11_judge_19 rfl (lv_at hl 0 rfl) ?_
        refine lv_aload_n hx hb dX11_judge_20 rfl (lv_at hl 0 rfl) ?_
        refine gw_get (C := RX11) (T := TX11) (N := 55) (v := .int (M 0 21)) hx hb hts hinX11 hown hK hP (by omega) lyNMM rfl 21 (by decide) w197 (fun _ h9 => h9) rfl dX11_judge_21 ?_
        refine w_pc 24 rfl ?_
        obtain ⟨v24, c24, h⟩ := bn1_some h
        refine cl_i (rn_v (As := [.int (M 0 21)]) (rest := []) ⟨hx, hb, hml, hown, hts⟩ (kX11_homeOf l D ad cA A c24) ⟨callB_of 1 hts (gdc wm909) rfl rfl rfl (hts _ wm61) (hts _ wm906) hdX11_homeOf ⟨Nat.le_of_ble_eq_true rfl, Nat.le_of_ble_eq_true rfl⟩, hts _ wm908, hts _ wm22⟩ hK hP hD hN (by omega) lyNMM rfl rfl hl.1 rfl (lv_room (Nat.le_of_ble_eq_true rfl)) dX11_judge_24) hS (fun H locs hP hS => ?_)
        refine w_pc 27 rfl ?_
        refine lv_istore_n (lv' := [(2, .int v24), (0, .ref (ad 0)), (1, .int a1)]) hx hb dX11_judge_27 rfl hl (by decide) rfl (fun ls hl => ?_)
        refine lv_aload_n hx hb dX11_judge_28 rfl (lv_at hl 1 rfl) ?_
        refine gw_get (C := RX11) (T := TX11) (N := 55) (v := .ref (ad 14)) hx hb hts hinX11 hown hK hP (by omega) lyNMM rfl 14 (by decide) w50 (fun _ h9 => h9) rfl dX11_judge_29 ?_
        refine lv_aload_n hx hb dX11_judge_32 rfl (lv_at hl 1 rfl) ?_
        refine gw_get (C := RX11) (T := TX11) (N := 55) (v := .int (M 0 21)) hx hb hts hinX11 hown hK hP (by omega) lyNMM rfl 21 (by decide) w197 (fun _ h9 => h9) rfl dX11_judge_33 ?_
        obtain ⟨g36, h⟩ := gd_in h
        refine gw_iald hx hb hK hP 0 (by omega) lyNaown rfl g36 dX11_judge_36 ?_
        refine w_pc 37 rfl ?_
        refine lv_if_lt (tgt := 47) hx hb dX11_judge_37 (by decide) (fun q37 => ?_) (fun q37 => ?_)
        · replace h := (if_pos q37).symm.trans h
          refine w_pc 47 rfl ?_
          refine lv_aload_n hx hb dX11_judge_47 rfl (lv_at hl 1 rfl) ?_
          refine gw_get (C := RX11) (T := TX11) (N := 55) (v := .ref (ad 14)) hx hb hts hinX11 hown hK hP (by omega) lyNMM rfl 14 (by decide) w50 (fun _ h9 => h9) rfl dX11_judge_48 ?_
          refine lv_iload_n hx hb dX11_judge_51 rfl (lv_at hl 0 rfl) ?_
          obtain ⟨g52, h⟩ := gd_in h
          refine gw_iald hx hb hK hP 0 (by omega) lyNaown rfl g52 dX11_judge_52 ?_
          refine w_pc 53 rfl ?_
          refine lv_if_lt (tgt := 60) hx hb dX11_judge_53 (by decide) (fun q53 => ?_) (fun q53 => ?_)
          · replace h := (if_pos q53).symm.trans h
            refine w_pc 60 rfl ?_
            refine lv_iconst (v := -1) hx hb dX11_judge_60 (by decide) ?_
            exact bk61 v24 (-1 : Int32) M ls _ _ (lv_sub hl [1, 2, 0] rfl) h hP hS
          · replace h := (if_neg q53).symm.trans h
            refine w_pc 56 rfl ?_
            refine lv_iload_n hx hb dX11_judge_56 rfl (lv_at hl 0 rfl) ?_
            refine lv_goto (tgt := 61) hx hb dX11_judge_57 (by decide) ?_
            exact bk61 v24 v24 M ls _ _ (lv_sub hl [1, 2, 0] rfl) h hP hS
        · replace h := (if_neg q37).symm.trans h
          refine w_pc 40 rfl ?_
          refine lv_aload_n hx hb dX11_judge_40 rfl (lv_at hl 1 rfl) ?_
          refine gw_get (C := RX11) (T := TX11) (N := 55) (v := .int (M 0 21)) hx hb hts hinX11 hown hK hP (by omega) lyNMM rfl 21 (by decide) w197 (fun _ h9 => h9) rfl dX11_judge_41 ?_
          refine lv_goto (tgt := 61) hx hb dX11_judge_44 (by decide) ?_
          exact bk61 v24 (M 0 21) M ls _ _ (lv_sub hl [1, 2, 0] rfl) h hP hS
      · replace h := (if_neg q14).symm.trans h
        refine w_pc 17 rfl ?_
        refine lv_iconst (v := -1) hx hb dX11_judge_17 (by decide) ?_
        exact re_i hx hb hr hlk h hP hS dX11_judge_18
def rmX11_row : Room := { frames := 0, cells := 0, slots := 0, locals := 0 }
def fX11_row (a1 : Int32) (a2 : Int32) (M : Mm) : Option Int32 :=
  if a1 < 0 then (some (-1 : Int32)) else (if (M 0 49) ≤ a1 then (some (-1 : Int32)) else (if a2 < 0 then (some (-1 : Int32)) else (if a2 ≤ (4 : Int32) then (if a2 = 0 then (grd (gin a1 12) (some (M 35 a1.toNatClampNeg))) else (if a2 = (1 : Int32) then (grd (gin a1 12) (some (M 36 a1.toNatClampNeg))) else (if a2 = (2 : Int32) then (grd (gin a1 12) (some (M 37 a1.toNatClampNeg))) else (if a2 = (3 : Int32) then (grd (gin a1 12) (some (M 38 a1.toNatClampNeg))) else (grd (gin a1 12) (some (M 39 a1.toNatClampNeg))))))) else (some (-1 : Int32)))))
set_option maxRecDepth 100000 in
set_option maxHeartbeats 4000000 in
theorem kX11_row (l : Launch) (D : va_G) (ad : Nat → Nat) (cA : Nat → ClassId) (A : Nat → Prop) {a1 : Int32} {a2 : Int32} {M : Mm} {r : Int32} (h : fX11_row a1 a2 M = some r) : Met l yX11_row wsX11_row rmX11_row (gPc D (tyM cA) 40 (layN ad cA) ad A M [.ref (ad 0), .int a1, .int a2]) (gQi D 40 (layN ad cA) ad A M r) 0 0 A := by
  refine Met.ofW (cc := cX11_row) (maxL := 3) (ret := (some .int)) (by decide) rfl ?_
  intro p e s m args below meth c s₁ B hml hv
  obtain ⟨ha, hP, hK, hD, hN⟩ := hv
  have hx := B.exec
  have hb := B.bytes
  have hr := B.returns
  have hlk := B.notSynchronized
  have hts : ∀ w ∈ lw_g, w.before args s = true := fun w h => atoms_spec (ws := wsX11_row) B.pre w (List.mem_cons_of_mem _ h)
  have hown : s.vm.findClass RX11 = some m.cls := findClass_of_methodNamed B.named
  have hS : va_S A s.heap s.heap [] := va_S.rf
  unfold fX11_row at h
  have w272 := hts _ wm776
  have w113 := hts _ wm777
  have w116 := hts _ wm778
  have w119 := hts _ wm779
  have w122 := hts _ wm780
  have w125 := hts _ wm781
  refine w_entry ha (Nat.le_of_ble_eq_true rfl) (fun ls hl => ?_)
  have hl : lv_has ls 3 [(0, .ref (ad 0)), (1, .int a1), (2, .int a2)] := hl
  refine w_pc 0 rfl ?_
  refine lv_iload_n hx hb dX11_row_0 rfl (lv_at hl 1 rfl) ?_
  refine w_pc 1 rfl ?_
  refine lv_if_lt (tgt := 21) hx hb dX11_row_1 (by decide) (fun q1 => ?_) (fun q1 => ?_)
  · replace h := (if_pos q1).symm.trans h
    refine w_pc 21 rfl ?_
    refine lv_iconst (v := -1) hx hb dX11_row_21 (by decide) ?_
    exact re_i hx hb hr hlk (sm_r h) hP hS dX11_row_22
  · replace h := (if_neg q1).symm.trans h
    refine w_pc 4 rfl ?_
    refine lv_iload_n hx hb dX11_row_4 rfl (lv_at hl 1 rfl) ?_
    refine lv_aload_n hx hb dX11_row_5 rfl (lv_at hl 0 rfl) ?_
    refine gw_get (C := RX11) (T := TX11) (N := 55) (v := .int (M 0 49)) hx hb hts hinX11 hown hK hP (by omega) lyNMM rfl 49 (by decide) w272 (fun _ h9 => h9) rfl dX11_row_6 ?_
    refine w_pc 9 rfl ?_
    refine lv_icmp_ge (tgt := 21) hx hb dX11_row_9 (by decide) (fun q9 => ?_) (fun q9 => ?_)
    · replace h := (if_pos q9).symm.trans h
      refine w_pc 21 rfl ?_
      refine lv_iconst (v := -1) hx hb dX11_row_21 (by decide) ?_
      exact re_i hx hb hr hlk (sm_r h) hP hS dX11_row_22
    · replace h := (if_neg q9).symm.trans h
      refine w_pc 12 rfl ?_
      refine lv_iload_n hx hb dX11_row_12 rfl (lv_at hl 2 rfl) ?_
      refine w_pc 13 rfl ?_
      refine lv_if_lt (tgt := 21) hx hb dX11_row_13 (by decide) (fun q13 => ?_) (fun q13 => ?_)
      · replace h := (if_pos q13).symm.trans h
        refine w_pc 21 rfl ?_
        refine lv_iconst (v := -1) hx hb dX11_row_21 (by decide) ?_
        exact re_i hx hb hr hlk (sm_r h) hP hS dX11_row_22
      · replace h := (if_neg q13).symm.trans h
        refine w_pc 16 rfl ?_
        refine lv_iload_n hx hb dX11_row_16 rfl (lv_at hl 2 rfl) ?_
        refine lv_iconst (v := 4) hx hb dX11_row_17 (by decide) ?_
        refine w_pc 18 rfl ?_
        refine lv_icmp_le (tgt := 23) hx hb dX11_row_18 (by decide) (fun q18 => ?_) (fun q18 => ?_)
        · replace h := (if_pos q18).symm.trans h
          refine w_pc 23 rfl ?_
          refine lv_iload_n hx hb dX11_row_23 rfl (lv_at hl 2 rfl) ?_
          refine w_pc 24 rfl ?_
          refine lv_if_ne (tgt := 36) hx hb dX11_row_24 (by decide) (fun q24 => ?_) (fun q24 => ?_)
          · replace h := (if_neg q24).symm.trans h
            refine w_pc 36 rfl ?_
            refine lv_iload_n hx hb dX11_row_36 rfl (lv_at hl 2 rfl) ?_
            refine lv_iconst (v := 1) hx hb dX11_row_37 (by decide) ?_
            refine w_pc 38 rfl ?_
            refine lv_icmp_ne (tgt := 50) hx hb dX11_row_38 (by decide) (fun q38 => ?_) (fun q38 => ?_)
            · replace h := (if_neg q38).symm.trans h
              refine w_pc 50 rfl ?_
              refine lv_iload_n hx hb dX11_row_50 rfl (lv_at hl 2 rfl) ?_
              refine lv_iconst (v := 2) hx hb dX11_row_51 (by decide) ?_
              refine w_pc 52 rfl ?_
              refine lv_icmp_ne (tgt := 64) hx hb dX11_row_52 (by decide) (fun q52 => ?_) (fun q52 => ?_)
              · replace h := (if_neg q52).symm.trans h
                refine w_pc 64 rfl ?_
                refine lv_iload_n hx hb dX11_row_64 rfl (lv_at hl 2 rfl) ?_
                refine lv_iconst (v := 3) hx hb dX11_row_65 (by decide) ?_
                refine w_pc 66 rfl ?_
                refine lv_icmp_ne (tgt := 78) hx hb dX11_row_66 (by decide) (fun q66 => ?_) (fun q66 => ?_)
                · replace h := (if_neg q66).symm.trans h
                  refine w_pc 78 rfl ?_
                  refine lv_aload_n hx hb dX11_row_78 rfl (lv_at hl 0 rfl) ?_
                  refine gw_get (C := RX11) (T := TX11) (N := 55) (v := .ref (ad 39)) hx hb hts hinX11 hown hK hP (by omega) lyNMM rfl 54 (by decide) w125 (fun _ h9 => h9) rfl dX11_row_79 ?_
                  refine lv_iload_n hx hb dX11_row_82 rfl (lv_at hl 1 rfl) ?_
                  obtain ⟨g83, h⟩ := gd_in h
                  refine gw_iald hx hb hK hP 0 (by omega) lyNarowCount rfl g83 dX11_row_83 ?_
                  exact re_i hx hb hr hlk (sm_r h) hP hS dX11_row_84
                · replace h := (if_pos q66).symm.trans h
                  refine w_pc 69 rfl ?_
                  refine lv_aload_n hx hb dX11_row_69 rfl (lv_at hl 0 rfl) ?_
                  refine gw_get (C := RX11) (T := TX11) (N := 55) (v := .ref (ad 38)) hx hb hts hinX11 hown hK hP (by omega) lyNMM rfl 53 (by decide) w122 (fun _ h9 => h9) rfl dX11_row_70 ?_
                  refine lv_iload_n hx hb dX11_row_73 rfl (lv_at hl 1 rfl) ?_
                  obtain ⟨g74, h⟩ := gd_in h
                  refine gw_iald hx hb hK hP 0 (by omega) lyNarowResult rfl g74 dX11_row_74 ?_
                  refine lv_goto (tgt := 84) hx hb dX11_row_75 (by decide) ?_
                  exact re_i hx hb hr hlk (sm_r h) hP hS dX11_row_84
              · replace h := (if_pos q52).symm.trans h
                refine w_pc 55 rfl ?_
                refine lv_aload_n hx hb dX11_row_55 rfl (lv_at hl 0 rfl) ?_
                refine gw_get (C := RX11) (T := TX11) (N := 55) (v := .ref (ad 37)) hx hb hts hinX11 hown hK hP (by omega) lyNMM rfl 52 (by decide) w119 (fun _ h9 => h9) rfl dX11_row_56 ?_
                refine lv_iload_n hx hb dX11_row_59 rfl (lv_at hl 1 rfl) ?_
                obtain ⟨g60, h⟩ := gd_in h
                refine gw_iald hx hb hK hP 0 (by omega) lyNarowDone rfl g60 dX11_row_60 ?_
                refine lv_goto (tgt := 84) hx hb dX11_row_61 (by decide) ?_
                exact re_i hx hb hr hlk (sm_r h) hP hS dX11_row_84
            · replace h := (if_pos q38).symm.trans h
              refine w_pc 41 rfl ?_
              refine lv_aload_n hx hb dX11_row_41 rfl (lv_at hl 0 rfl) ?_
              refine gw_get (C := RX11) (T := TX11) (N := 55) (v := .ref (ad 36)) hx hb hts hinX11 hown hK hP (by omega) lyNMM rfl 51 (by decide) w116 (fun _ h9 => h9) rfl dX11_row_42 ?_
              refine lv_iload_n hx hb dX11_row_45 rfl (lv_at hl 1 rfl) ?_
              obtain ⟨g46, h⟩ := gd_in h
              refine gw_iald hx hb hK hP 0 (by omega) lyNarowAddress rfl g46 dX11_row_46 ?_
              refine lv_goto (tgt := 84) hx hb dX11_row_47 (by decide) ?_
              exact re_i hx hb hr hlk (sm_r h) hP hS dX11_row_84
          · replace h := (if_pos q24).symm.trans h
            refine w_pc 27 rfl ?_
            refine lv_aload_n hx hb dX11_row_27 rfl (lv_at hl 0 rfl) ?_
            refine gw_get (C := RX11) (T := TX11) (N := 55) (v := .ref (ad 35)) hx hb hts hinX11 hown hK hP (by omega) lyNMM rfl 50 (by decide) w113 (fun _ h9 => h9) rfl dX11_row_28 ?_
            refine lv_iload_n hx hb dX11_row_31 rfl (lv_at hl 1 rfl) ?_
            obtain ⟨g32, h⟩ := gd_in h
            refine gw_iald hx hb hK hP 0 (by omega) lyNarowHome rfl g32 dX11_row_32 ?_
            refine lv_goto (tgt := 84) hx hb dX11_row_33 (by decide) ?_
            exact re_i hx hb hr hlk (sm_r h) hP hS dX11_row_84
        · replace h := (if_neg q18).symm.trans h
          refine w_pc 21 rfl ?_
          refine lv_iconst (v := -1) hx hb dX11_row_21 (by decide) ?_
          exact re_i hx hb hr hlk (sm_r h) hP hS dX11_row_22
