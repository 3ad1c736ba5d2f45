/-! what the law begins with: its words -/
theorem nt73 : Cond.methodLinkNest RX10 15 yX1_init RX10 ∈ lw_tbl := List.mem_of_getElem? (i := 73) (by decide +kernel)
theorem nt79 : Cond.methodLinkNest RX1 11 yX2_init RX10 ∈ lw_tbl := List.mem_of_getElem? (i := 79) (by decide +kernel)
theorem nt95 : Cond.methodLinkNest RX1 23 yX7_init RX10 ∈ lw_tbl := List.mem_of_getElem? (i := 95) (by decide +kernel)
theorem nt130 : Cond.methodLinkNest RX1 34 yX5_init RX10 ∈ lw_tbl := List.mem_of_getElem? (i := 130) (by decide +kernel)
theorem nt190 : Cond.methodLinkNest RX10 22 yX5_init RX10 ∈ lw_tbl := List.mem_of_getElem? (i := 190) (by decide +kernel)
theorem nt219 : Cond.methodLinkNest RX4 43 yX8_init RX10 ∈ lw_tbl := List.mem_of_getElem? (i := 219) (by decide +kernel)
theorem nt261 : Cond.methodLinkNest RX4 44 yX3_init RX10 ∈ lw_tbl := List.mem_of_getElem? (i := 261) (by decide +kernel)
theorem nt266 : Cond.methodLinkNest RX3 9 yX8_init RX10 ∈ lw_tbl := List.mem_of_getElem? (i := 266) (by decide +kernel)
theorem nt331 : Cond.methodLinkNest RX10 36 yX0_init RX10 ∈ lw_tbl := List.mem_of_getElem? (i := 331) (by decide +kernel)
theorem nt347 : Cond.methodLinkNest RX10 47 yX6_init RX10 ∈ lw_tbl := List.mem_of_getElem? (i := 347) (by decide +kernel)
theorem nt479 : Cond.methodLinkNest RX4 71 yX10_isWithin RX10 ∈ lw_tbl := List.mem_of_getElem? (i := 479) (by decide +kernel)
theorem nt490 : Cond.methodLinkNest RX9 19 yX10_byteAt RX10 ∈ lw_tbl := List.mem_of_getElem? (i := 490) (by decide +kernel)
theorem nt507 : Cond.methodLinkNest RX9 27 yX10_isBlank RX10 ∈ lw_tbl := List.mem_of_getElem? (i := 507) (by decide +kernel)
theorem nt552 : Cond.methodLinkNest RX4 132 yX10_mixText RX10 ∈ lw_tbl := List.mem_of_getElem? (i := 552) (by decide +kernel)
theorem nt559 : Cond.methodLinkNest RX4 136 yX10_digestOf RX10 ∈ lw_tbl := List.mem_of_getElem? (i := 559) (by decide +kernel)
theorem nt566 : Cond.methodLinkNest RX4 140 yX10_mix RX10 ∈ lw_tbl := List.mem_of_getElem? (i := 566) (by decide +kernel)
theorem nt611 : Cond.methodLinkNest RX0 67 yX10_agree RX10 ∈ lw_tbl := List.mem_of_getElem? (i := 611) (by decide +kernel)
theorem nt637 : Cond.methodLinkNest RX2 19 yX10_agree RX10 ∈ lw_tbl := List.mem_of_getElem? (i := 637) (by decide +kernel)
theorem ao71 : Cond.arrayOver (.object "MailArbiter$Domain") ∈ lw_tbl := List.mem_of_getElem? (i := 71) (by decide +kernel)
theorem ao345 : Cond.arrayOver (.object "MailArbiter$Row") ∈ lw_tbl := List.mem_of_getElem? (i := 345) (by decide +kernel)
theorem ao198 : Cond.arrayOver (.object "MailArbiter$Text") ∈ lw_tbl := List.mem_of_getElem? (i := 198) (by decide +kernel)
theorem ao215 : Cond.arrayOver (.object "MailArbiter$Signature") ∈ lw_tbl := List.mem_of_getElem? (i := 215) (by decide +kernel)
theorem ao217 : Cond.arrayOver (.object "MailArbiter$Link") ∈ lw_tbl := List.mem_of_getElem? (i := 217) (by decide +kernel)
theorem gNW.start {s : State} {a : Array Value} (hts : ∀ w ∈ lw_tbl, w.before a s = true) : gNW s := by
  intro q hq
  simp only [nstq, List.mem_cons, List.not_mem_nil, or_false] at hq
  rcases hq with rfl | rfl | rfl | rfl | rfl | rfl | rfl | rfl | rfl | rfl | rfl | rfl | rfl | rfl | rfl | rfl | rfl | rfl
  · exact va_Nw.of rfl (hts _ nt73)
  · exact va_Nw.of rfl (hts _ nt79)
  · exact va_Nw.of rfl (hts _ nt95)
  · exact va_Nw.of rfl (hts _ nt130)
  · exact va_Nw.of rfl (hts _ nt190)
  · exact va_Nw.of rfl (hts _ nt219)
  · exact va_Nw.of rfl (hts _ nt261)
  · exact va_Nw.of rfl (hts _ nt266)
  · exact va_Nw.of rfl (hts _ nt331)
  · exact va_Nw.of rfl (hts _ nt347)
  · exact va_Nw.of rfl (hts _ nt479)
  · exact va_Nw.of rfl (hts _ nt490)
  · exact va_Nw.of rfl (hts _ nt507)
  · exact va_Nw.of rfl (hts _ nt552)
  · exact va_Nw.of rfl (hts _ nt559)
  · exact va_Nw.of rfl (hts _ nt566)
  · exact va_Nw.of rfl (hts _ nt611)
  · exact va_Nw.of rfl (hts _ nt637)
theorem gAO.start {s : State} {a : Array Value} (hts : ∀ w ∈ lw_tbl, w.before a s = true) : gAO s := ⟨va_AO.of (hts _ ao71), va_AO.of (hts _ ao345), va_AO.of (hts _ ao198), va_AO.of (hts _ ao215), va_AO.of (hts _ ao217)⟩
theorem ar_p {s : State} {a : Array Value} {ty : FieldType} (h : (Cond.arrayClass ty).before a s = true) (hp : ∀ c, s.vm.findClass ("[" ++ ty.toString) = some c → va_RA s c ty) : ∃ c, ArrOfT s c ty ∧ va_RA s c ty := by
  obtain ⟨c, k, comp, h1, h2, h3⟩ := Cond.arrayClass_spec h
  exact ⟨c, fun n z => ⟨fun k h => (by cases h), k, h2, comp, h3⟩, hp c h1⟩
theorem ar_o {s : State} {C : String} (h : va_AO C s) : ∃ c, ArrOfT s c (.object C) ∧ va_RA s c (.object C) := by
  obtain ⟨comp, c, k, h1, h2, h3, h4, h5⟩ := Cond.arrayOver_spec h
  exact ⟨c, fun n z => ⟨fun k h => (by cases h), k, h3, comp, h4⟩, k, comp, h3, h4, h1, h5⟩
theorem k_start {s : State} {a : Array Value} (hts : ∀ w ∈ lw_g, w.before a s = true) (hAO : gAO s) : ∃ (D : va_G) (cA : Nat → ClassId), va_K D vwCl (tyM cA) s := by
  obtain ⟨d0, i0, k0⟩ := u_known hts hinX0 (hts _ wm330)
  obtain ⟨d1, i1, k1⟩ := u_known hts hinX1 (hts _ wm72)
  obtain ⟨d2, i2, k2⟩ := u_known hts hinX2 (hts _ wm78)
  obtain ⟨d3, i3, k3⟩ := u_known hts hinX3 (hts _ wm260)
  obtain ⟨d4, i4, k4⟩ := u_known hts hinX4 (hts _ wm192)
  obtain ⟨d5, i5, k5⟩ := u_known hts hinX5 (hts _ wm129)
  obtain ⟨d6, i6, k6⟩ := u_known hts hinX6 (hts _ wm346)
  obtain ⟨d7, i7, k7⟩ := u_known hts hinX7 (hts _ wm94)
  obtain ⟨d8, i8, k8⟩ := u_known hts hinX8 (hts _ wm218)
  obtain ⟨d9, i9, k9⟩ := u_known hts hinX9 (hts _ wm199)
  obtain ⟨d10, i10, k10⟩ := u_known hts hinX10 (hts _ wm63)
  obtain ⟨d11, i11, k11⟩ := u_known hts hinX11 (hts _ wm722)
  obtain ⟨c0, a0⟩ := ar_p (hts _ wm92) (fun c h => h)
  obtain ⟨c1, a1⟩ := ar_p (hts _ wm893) (fun c h => h)
  obtain ⟨c2, a2⟩ := ar_o hAO.1
  obtain ⟨c3, a3⟩ := ar_o hAO.2.1
  obtain ⟨c4, a4⟩ := ar_o hAO.2.2.1
  obtain ⟨c5, a5⟩ := ar_o hAO.2.2.2.1
  obtain ⟨c6, a6⟩ := ar_o hAO.2.2.2.2
  refine ⟨(fun c => [d0, d1, d2, d3, d4, d5, d6, d7, d8, d9, d10, d11].getD c d0, fun c => [i0, i1, i2, i3, i4, i5, i6, i7, i8, i9, i10, i11].getD c i0), fun c => [c0, c1, c2, c3, c4, c5, c6].getD c c0, fun c q hq => ?_, fun k q hq => ?_⟩
  · have hl : c < 12 := (List.getElem?_eq_some_iff.mp hq).1
    rcases (show c = 0 ∨ c = 1 ∨ c = 2 ∨ c = 3 ∨ c = 4 ∨ c = 5 ∨ c = 6 ∨ c = 7 ∨ c = 8 ∨ c = 9 ∨ c = 10 ∨ c = 11 by omega) with rfl | rfl | rfl | rfl | rfl | rfl | rfl | rfl | rfl | rfl | rfl | rfl
    · cases hq; exact k0
    · cases hq; exact k1
    · cases hq; exact k2
    · cases hq; exact k3
    · cases hq; exact k4
    · cases hq; exact k5
    · cases hq; exact k6
    · cases hq; exact k7
    · cases hq; exact k8
    · cases hq; exact k9
    · cases hq; exact k10
    · cases hq; exact k11
  · have hl : k < 7 := (List.getElem?_eq_some_iff.mp hq).1
    rcases (show k = 0 ∨ k = 1 ∨ k = 2 ∨ k = 3 ∨ k = 4 ∨ k = 5 ∨ k = 6 by omega) with rfl | rfl | rfl | rfl | rfl | rfl | rfl
    · cases hq; exact a0
    · cases hq; exact a1
    · cases hq; exact a2
    · cases hq; exact a3
    · cases hq; exact a4
    · cases hq; exact a5
    · cases hq; exact a6
theorem va_D.fst {A : Nat → Prop} {w1 w2 : va_W} (h : va_D A (w1 ++ w2)) : va_D A w1 := by
  have at0 : ∀ (k : Nat) (q : Nat × va_E), w1[k]? = some q → (w1 ++ w2)[k]? = some q := fun k q h => by
    rw [List.getElem?_append_left (List.getElem?_eq_some_iff.mp h).1]
    exact h
  exact ⟨fun i j p q h1 h2 h3 => h.1 i j p q (at0 i p h1) (at0 j q h2) h3, fun k q z => h.2 k q (at0 k q z)⟩
theorem va_D.snd {A : Nat → Prop} {w1 w2 : va_W} (h : va_D A (w1 ++ w2)) : va_D A w2 := by
  have at0 : ∀ (k : Nat) (q : Nat × va_E), w2[k]? = some q → (w1 ++ w2)[w1.length + k]? = some q := fun k q h => by
    rw [List.getElem?_append_right (Nat.le_add_right _ _), Nat.add_sub_cancel_left]
    exact h
  refine ⟨fun i j p q h1 h2 h3 => ?_, fun k q z => h.2 _ q (at0 k q z)⟩
  have := h.1 _ _ p q (at0 i p h1) (at0 j q h2) h3
  omega
theorem va_P.fst {D : va_G} {cl : List vw_C} {w1 w2 : va_W} {H : Heap} (h : va_P D cl (w1 ++ w2) H) : va_P D cl w1 H := fun k q z => h k q (by
  rw [List.getElem?_append_left (List.getElem?_eq_some_iff.mp z).1]
  exact z)
theorem va_P.snd {D : va_G} {cl : List vw_C} {w1 w2 : va_W} {H : Heap} (h : va_P D cl (w1 ++ w2) H) : va_P D cl w2 H := fun k q z => h (w1.length + k) q (by
  rw [List.getElem?_append_right (Nat.le_add_right _ _), Nat.add_sub_cancel_left]
  exact z)
set_option maxRecDepth 100000 in
set_option maxHeartbeats 4000000 in
theorem whole_start {p : Program} {e : Env} {s : State} {m : MethodId} {below : List Frame} {meth : Method} {c : Code} (l : Launch) {b L : Nat} {xs : Nat → Int32} (hL : L ≤ 3072) (C0 : lw_At p s m meth c b L xs) : W p l e room_1 s m #[Value.ref b] below meth c s.heap [] 0 0 (lw_Z below #[Value.ref b] s) (entryFrame m ([Value.ref b] : List Value).toArray 4) := by
  obtain ⟨hx, hb, hr, hml, hown, hts0, hX, hbl, hlk, -⟩ := id C0
  have hts : ∀ w ∈ lw_g, w.before #[Value.ref b] s = true := fun w h => hts0 w (List.mem_filter.mp h).1
  have hN := gNW.start hts0
  have hAO := gAO.start hts0
  obtain ⟨D, cA, hK⟩ := k_start hts hAO
  refine w_entry (av := [Value.ref b]) rfl (Nat.le_of_ble_eq_true rfl) (fun ls hl => ?_)
  have hl : lv_has ls 4 [(0, .ref b)] := hl
  have hA : ∀ q, s.heap.size ≤ q → (fun q => s.heap.size ≤ q) q := fun q h => h
  have hS : va_S (fun q => s.heap.size ≤ q) s.heap s.heap [] := va_S.rf
  have hP : va_P D vwCl [] s.heap := fun k q h => by cases h
  have hD : va_D (fun q => s.heap.size ≤ q) [] := ⟨fun i j p q h => (by cases h), fun k q h => (by cases h)⟩
  refine va_new (ci := 10) (fs := [.null, .int 0, .null, .null, .null, .null, .int 0, .int 0]) (C := RX10) (T := TX10) (N := 8) hx hb hts hinX10 tyX10 tyX10_ok hown (hts _ wm62) (hts _ wm63) (hts _ wm50) hK hP hD hS hA rfl (fun j hj => by rcases (show j = 0 ∨ j = 1 ∨ j = 2 ∨ j = 3 ∨ j = 4 ∨ j = 5 ∨ j = 6 ∨ j = 7 by omega) with rfl | rfl | rfl | rfl | rfl | rfl | rfl | rfl <;> rfl) (Nat.le_of_ble_eq_true rfl) (Nat.le_of_ble_eq_true rfl) dL_law_0 (fun h0 H hP hD hS => ?_)
  refine lv_dup hx hb dL_law_3 rfl ?_
  refine w_pc 4 rfl ?_
  have hFF := vc_free hD hS hA
  refine va_callv (va_runI (As := []) (rest := [.ref h0]) ⟨hx, hb, hml, hown, hts⟩ (zX10_init l D cA h0 H.size) ⟨callB_of 0 hts (gdc wm66) rfl rfl rfl (hts _ wm50) (hts _ wm64) hdX10_init ⟨Nat.le_of_ble_eq_true rfl, Nat.le_of_ble_eq_true rfl⟩, rfl, hts _ wm65⟩ ⟨cPc_blind, fun U hU hW => ⟨rfl, by rw [hU], by rw [hU]; exact vc_sub hP, va_K.moved hW.alike hK, (vc_subD hD).weaken (fun _ _ _ _ => trivial), hN.warm hW, hAO.moved hW.alike⟩⟩ rfl rfl hl.1 rfl (lv_room (Nat.le_of_ble_eq_true rfl)) dL_law_4 ⟨(Nat.le_of_ble_eq_true rfl), (Nat.le_of_ble_eq_true rfl)⟩) hS (fun q _ h => hFF q h) hFF (fun w t H1 locs ht hvm hw hB hz1 hk1 hS => ?_)
  obtain ⟨qa, qr, Q, R, qp, qm, qc, rfl⟩ := hw
  obtain ⟨hP1, hD1⟩ := hB
  subst ht
  obtain ⟨hP, hD⟩ := vc_last hP hD hk1 hFF hP1 hD1
  generalize t.heap = H at hP hS ⊢
  have hP : va_P D vwCl (wcX10_init cA h0 qa qr Q R qp qm qc) H := hP
  have hD : va_D (fun q => s.heap.size ≤ q) (wcX10_init cA h0 qa qr Q R qp qm qc) := hD
  refine W.widen (k := 289) (n := 1628) (Nat.le_of_ble_eq_true rfl) (Nat.le_of_ble_eq_true rfl) ?_
  refine w_pc 7 rfl ?_
  refine lv_astore_n (lv' := [(1, .ref h0), (0, .ref b)]) hx hb dL_law_7 rfl hl (by decide) rfl (fun ls hl => ?_)
  refine va_new (ci := 11) (fs := [.int 0, .null, .null, .null, .null, .null, .null, .null, .null, .null, .null, .null, .null, .null, .null, .null, .null, .null, .int 0, .int 0, .int 0, .int 0, .int 0, .int 0, .null, .null, .null, .int 0, .null, .int 0, .null, .null, .null, .null, .null, .null, .null, .null, .int 0, .null, .null, .int 0, .null, .long 0, .int 0, .int 0, .int 0, .null, .null, .int 0, .null, .null, .null, .null, .null]) (C := RX11) (T := TX11) (N := 55) hx hb hts hinX11 tyX11 tyX11_ok hown (hts _ wm721) (hts _ wm722) (hts _ wm61) hK hP hD hS hA rfl (fun j hj => by rcases (show j = 0 ∨ j = 1 ∨ j = 2 ∨ j = 3 ∨ j = 4 ∨ j = 5 ∨ j = 6 ∨ j = 7 ∨ j = 8 ∨ j = 9 ∨ j = 10 ∨ j = 11 ∨ j = 12 ∨ j = 13 ∨ j = 14 ∨ j = 15 ∨ j = 16 ∨ j = 17 ∨ j = 18 ∨ j = 19 ∨ j = 20 ∨ j = 21 ∨ j = 22 ∨ j = 23 ∨ j = 24 ∨ j = 25 ∨ j = 26 ∨ j = 27 ∨ j = 28 ∨ j = 29 ∨ j = 30 ∨ j = 31 ∨ j = 32 ∨ j = 33 ∨ j = 34 ∨ j = 35 ∨ j = 36 ∨ j = 37 ∨ j = 38 ∨ j = 39 ∨ j = 40 ∨ j = 41 ∨ j = 42 ∨ j = 43 ∨ j = 44 ∨ j = 45 ∨ j = 46 ∨ j = 47 ∨ j = 48 ∨ j = 49 ∨ j = 50 ∨ j = 51 ∨ j = 52 ∨ j = 53 ∨ j = 54 by omega) with rfl | rfl | rfl | rfl | rfl | rfl | rfl | rfl | rfl | rfl | rfl | rfl | rfl | rfl | rfl | rfl | rfl | rfl | rfl | rfl | rfl | rfl | rfl | rfl | rfl | rfl | rfl | rfl | rfl | rfl | rfl | rfl | rfl | rfl | rfl | rfl | rfl | rfl | rfl | rfl | rfl | rfl | rfl | rfl | rfl | rfl | rfl | rfl | rfl | rfl | rfl | rfl | rfl | rfl | rfl <;> rfl) (Nat.le_of_ble_eq_true rfl) (Nat.le_of_ble_eq_true rfl) dL_law_8 (fun g0 H hP hD hS => ?_)
  refine lv_dup hx hb dL_law_11 rfl ?_
  refine w_pc 12 rfl ?_
  have hFF := vc_free hD hS hA
  refine va_callv (va_runI (As := []) (rest := [.ref g0]) ⟨hx, hb, hml, hown, hts⟩ (zX11_init l D cA g0 H.size) ⟨callB_of 0 hts (gdc wm725) rfl rfl rfl (hts _ wm61) (hts _ wm723) hdX11_init ⟨Nat.le_of_ble_eq_true rfl, Nat.le_of_ble_eq_true rfl⟩, rfl, hts _ wm724⟩ ⟨cPc_blind, fun U hU hW => ⟨rfl, by rw [hU], by rw [hU]; exact vc_sub hP, va_K.moved hW.alike hK, (vc_subD hD).weaken (fun _ _ _ _ => trivial), hN.warm hW, hAO.moved hW.alike⟩⟩ rfl rfl hl.1 rfl (lv_room (Nat.le_of_ble_eq_true rfl)) dL_law_12 ⟨(Nat.le_of_ble_eq_true rfl), (Nat.le_of_ble_eq_true rfl)⟩) hS (fun q _ h => hFF q h) hFF (fun w t H1 locs ht hvm hw hB hz1 hk1 hS => ?_)
  obtain ⟨q2, hq, rfl⟩ := hw
  obtain ⟨hP1, hD1⟩ := hB
  subst hq
  subst ht
  obtain ⟨hP, hD⟩ := vc_last hP hD hk1 hFF hP1 hD1
  generalize t.heap = H at hP hS ⊢
  refine W.widen (k := 329) (n := 3009) (Nat.le_of_ble_eq_true rfl) (Nat.le_of_ble_eq_true rfl) ?_
  refine w_pc 15 rfl ?_
  refine lv_astore_n (lv' := [(2, .ref (q2 0)), (1, .ref h0), (0, .ref b)]) hx hb dL_law_15 rfl hl (by decide) rfl (fun ls hl => ?_)
  refine lv_iconst (v := 0) hx hb dL_law_16 (by decide) ?_
  refine lv_istore_n (lv' := [(3, .int 0), (2, .ref (q2 0)), (1, .ref h0), (0, .ref b)]) hx hb dL_law_17 rfl hl (by decide) rfl (fun ls hl => ?_)
  refine w_pc 18 rfl ?_
  have g2 := conv11D hD.snd
  have hapart : va_D (fun q => s.heap.size ≤ q ∧ ∀ u, u < 40 → q ≠ q2 u) (wcX10_init cA h0 qa qr Q R qp qm qc) := by
    refine ⟨hD.fst.1, fun k q hk => ⟨hD.fst.2 k q hk, fun u hu z => ?_⟩⟩
    have h1 := (List.getElem?_eq_some_iff.mp hk).1
    have h2 : (wcX11_init cA q2)[u]? = some (q2 u, layN q2 cA u (memN u)) := by rw [← conv11]; exact gw_at hu
    have h3 := hD.1 k ((wcX10_init cA h0 qa qr Q R qp qm qc).length + u) q (q2 u, layN q2 cA u (memN u)) (by rw [List.getElem?_append_left h1]; exact hk) (by rw [List.getElem?_append_right (Nat.le_add_right _ _), Nat.add_sub_cancel_left]; exact h2) z
    omega
  have g1 := conv10D hapart
  have hP2 : va_P D vwCl (gw 40 (layN q2 cA) q2 memN) H := by rw [conv11]; exact hP.snd
  exact law_loop op0 op1 op2 op3 op4 op5 op6 op7 op8 op9 op10 op11 op12 op13 op14 op15 op16 op17 op18 op19 op20 l hL C0 D cA hK hN (ad := adM h0 qa qr Q R qp qm qc) (ad2 := q2) ⟨g1.1, fun t ht => ⟨t, ht, rfl⟩⟩ ⟨g2.1, fun t ht => ⟨t, ht, rfl⟩⟩ (fun t ht => (g1.2 t ht).1) (fun t ht => g2.2 t ht) (fun t u ht hu => (g1.2 t ht).2 u hu) ⟨Nat.le_of_ble_eq_true rfl, Nat.le_of_ble_eq_true rfl⟩ 513 0 mem0 memN H locs ls (by omega) (by omega) rel0 (conv10 hP.fst) hP2 hS (lv_sub hl [3, 2, 1, 0] rfl)
