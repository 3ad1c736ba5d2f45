/-! the system's own constructor -/
theorem vc_last {D : va_G} {cl : List vw_C} {A0 : Nat → Prop} {wr w1 : va_W} {c : Nat × va_E} {H H1 : Heap} (hP : va_P D cl (wr ++ [c]) H) (hD : va_D A0 (wr ++ [c])) (hk : ∀ q : Nat, q < H.size → ¬ va_A [c] H.size q → H1[q]? = H[q]?) (hF : ∀ q, va_A [c] H.size q → A0 q) (hP1 : va_P D cl w1 H1) (hD1 : va_D (va_A [c] H.size) w1) : va_P D cl (wr ++ w1) H1 ∧ va_D A0 (wr ++ w1) := by
  have at0 : ∀ (k : Nat) (q : Nat × va_E), wr[k]? = some q → (wr ++ [c])[k]? = some q := fun k q h => by
    rw [List.getElem?_append_left (List.getElem?_eq_some_iff.mp h).1]
    exact h
  have atc : (wr ++ [c])[wr.length]? = some c := by
    rw [List.getElem?_append_right (Nat.le_refl _), Nat.sub_self]
    rfl
  have apart : ∀ (k : Nat) (q : Nat × va_E), wr[k]? = some q → q.1 < H.size ∧ ¬ va_A [c] H.size q.1 := by
    intro k q h
    have hl := (hP k q (at0 k q h)).lt
    refine ⟨hl, fun z => ?_⟩
    rcases z with ⟨k2, e, z⟩ | z
    · have hk2 : k2 = 0 := by
        have := (List.getElem?_eq_some_iff.mp z).1
        simp at this
        exact this
      subst hk2
      have ec : c = (q.1, e) := Option.some.inj z
      have h1 := hD.1 k wr.length q c (at0 k q h) atc (by rw [ec])
      have h2 := (List.getElem?_eq_some_iff.mp h).1
      omega
    · omega
  refine ⟨va_P.app (fun k q h => (hP k q (at0 k q h)).kept (hk q.1 (apart k q h).1 (apart k q h).2)) hP1, va_D.app ?_ (hD1.weaken (fun k q _ h => hF q.1 h)) (fun i j x y hx hy hxy => (apart i x hx).2 (by rw [hxy]; exact hD1.2 j y hy))⟩
  exact ⟨fun i j p q h1 h2 h3 => hD.1 i j p q (at0 i p h1) (at0 j q h2) h3, fun k q h => hD.2 k q (at0 k q h)⟩
theorem vc_sub {D : va_G} {cl : List vw_C} {wr : va_W} {c : Nat × va_E} {H : Heap} (hP : va_P D cl (wr ++ [c]) H) : va_P D cl [c] H := hP.sub [wr.length] (by simp)
theorem vc_subD {A0 : Nat → Prop} {wr : va_W} {c : Nat × va_E} (hD : va_D A0 (wr ++ [c])) : va_D A0 [c] := hD.sub [wr.length] (by simp [va_nd]) (by simp)
theorem vc_free {A0 : Nat → Prop} {wr : va_W} {c : Nat × va_E} {H0 H : Heap} {locs : List Loc} (hD : va_D A0 (wr ++ [c])) (hS : va_S A0 H0 H locs) (hA : ∀ q, H0.size ≤ q → A0 q) : ∀ q, va_A [c] H.size q → A0 q := va_free (wc := [c]) hD hS hA [wr.length] (by simp)
def flatD (cA : Nat → ClassId) (Q : Nat → Nat → Nat) (i : Nat) : va_W := (List.range i).flatMap (fun d => wcX1_init cA (Q d))
def flatR (cA : Nat → ClassId) (Q : Nat → Nat → Nat) (i : Nat) : va_W := (List.range i).flatMap (fun d => wcX6_init cA (Q d))
def refF (Q : Nat → Nat → Nat) (i : Nat) : Nat → Option Nat := fun j => if j < i then some (Q j 0) else none
theorem refF_s {Q : Nat → Nat → Nat} {i : Nat} {u : Nat → Nat} : va_up (refF Q i) i (some (u 0)) = refF (va_up Q i u) (i + 1) := by
  funext j
  unfold va_up refF
  by_cases h : j = i
  · subst h
    simp
  · by_cases h2 : j < i
    · simp [h, h2, show j < i + 1 by omega]
    · simp [h, h2, show ¬ j < i + 1 by omega]
theorem flatD_s {cA : Nat → ClassId} {Q : Nat → Nat → Nat} {i : Nat} {u : Nat → Nat} : flatD cA Q i ++ wcX1_init cA u = flatD cA (va_up Q i u) (i + 1) := by
  unfold flatD
  rw [List.range_succ, List.flatMap_append, List.flatMap_singleton, show va_up Q i u i = u from if_pos rfl]
  congr 1
  rw [List.flatMap_def, List.flatMap_def]
  congr 1
  apply List.map_congr_left
  intro d hd
  rw [show va_up Q i u d = Q d from if_neg (by have := List.mem_range.mp hd; omega)]
theorem flatR_s {cA : Nat → ClassId} {Q : Nat → Nat → Nat} {i : Nat} {u : Nat → Nat} : flatR cA Q i ++ wcX6_init cA u = flatR cA (va_up Q i u) (i + 1) := by
  unfold flatR
  rw [List.range_succ, List.flatMap_append, List.flatMap_singleton, show va_up Q i u i = u from if_pos rfl]
  congr 1
  rw [List.flatMap_def, List.flatMap_def]
  congr 1
  apply List.map_congr_left
  intro d hd
  rw [show va_up Q i u d = Q d from if_neg (by have := List.mem_range.mp hd; omega)]
theorem vc_at {wr w : va_W} {x : Nat × va_E} : (wr ++ x :: w)[wr.length]? = some x := by
  rw [List.getElem?_append_right (Nat.le_refl _), Nat.sub_self]
  rfl
theorem vc_set {wr w : va_W} {x y : Nat × va_E} : (wr ++ x :: w).set wr.length y = wr ++ y :: w := by
  rw [List.set_append_right _ _ (Nat.le_refl _), Nat.sub_self]
  rfl
def rmX10_init : Room := { frames := 4, cells := 288, slots := 1620, locals := 73 }
def wcX10_init (cA : Nat → ClassId) (h0 qa qr : Nat) (Q R : Nat → Nat → Nat) (qp qm qc : Nat → Nat) : va_W := (h0, .inr (10, [.ref qa, .int 0, .ref (qp 0), .ref (qm 0), .ref (qc 0), .ref qr, .int 0, .int 0])) :: (qa, .inl (cA 2, 20, .inr (.inr (.inr (.inr (refF Q 20)))))) :: ((((flatD cA Q 20 ++ wcX5_init cA qp) ++ wcX4_init cA qm) ++ wcX0_init cA qc) ++ (qr, .inl (cA 3, 12, .inr (.inr (.inr (.inr (refF R 12)))))) :: flatR cA R 12)
set_option maxRecDepth 100000 in
set_option maxHeartbeats 8000000 in
theorem zX10_init (l : Launch) (D : va_G) (cA : Nat → ClassId) (h0 sz : Nat) : Met l yX10_init wsX10_init rmX10_init (cPc D cA sz [(h0, .inr (10, [.null, .int 0, .null, .null, .null, .null, .int 0, .int 0]))] [.ref h0]) (cQv D (va_A [(h0, .inr (10, [.null, .int 0, .null, .null, .null, .null, .int 0, .int 0]))] sz) (fun w => ∃ (qa qr : Nat) (Q R : Nat → Nat → Nat) (qp qm qc : Nat → Nat), w = wcX10_init cA h0 qa qr Q R qp qm qc)) 288 (1620) (va_A [(h0, .inr (10, [.null, .int 0, .null, .null, .null, .null, .int 0, .int 0]))] sz) := by
  refine Met.ofW (cc := cX10_init) (maxL := 2) (ret := none) (by decide) rfl ?_
  intro p e s m args below meth c s₁ B hml hv
  obtain ⟨ha, hsz, hP, hK, hD0, hN, hAO⟩ := hv
  have hx := B.exec
  have hb := B.bytes
  have hr := B.returns
  have hlk := B.notSynchronized
  have hts : ∀ w ∈ lw_g, w.before args s = true := fun w h => atoms_spec (ws := wsX10_init) B.pre w (List.mem_cons_of_mem _ h)
  have hown : s.vm.findClass RX10 = some m.cls := findClass_of_methodNamed B.named
  have hin : meth.name = "<init>" := (name_of_methodNamed B.named B.method).1
  obtain ⟨hAO2, hAO3, hAO4, hAO5, hAO6⟩ := id hAO
  subst hsz
  have hD := hD0.self (sz := s.heap.size)
  generalize hAe : va_A [(h0, .inr (10, [.null, .int 0, .null, .null, .null, .null, .int 0, .int 0]))] s.heap.size = A at hD ⊢
  have hA : ∀ q : Nat, s.heap.size ≤ q → A q := fun q h => by rw [← hAe]; exact Or.inr h
  have hS : va_S A s.heap s.heap [] := va_S.rf
  have rows : ∀ (qa qr : Nat) (Q : Nat → Nat → Nat) (qp qm qc : Nat → Nat) (n i : Nat) (R : Nat → Nat → Nat) (ls : Array Slot) (H : Heap) (locs : List Loc), i + n = 12 → lv_has ls 2 [(1, .int (nI i)), (0, .ref h0)] → va_P D vwCl (((h0, .inr (10, [.ref qa, .int 0, .ref (qp 0), .ref (qm 0), .ref (qc 0), .ref qr, .int 0, .int 0])) :: (qa, .inl (cA 2, 20, .inr (.inr (.inr (.inr (refF Q 20)))))) :: (((flatD cA Q 20 ++ wcX5_init cA qp) ++ wcX4_init cA qm) ++ wcX0_init cA qc)) ++ (qr, .inl (cA 3, 12, .inr (.inr (.inr (.inr (refF R i)))))) :: flatR cA R i) H → va_D A (((h0, .inr (10, [.ref qa, .int 0, .ref (qp 0), .ref (qm 0), .ref (qc 0), .ref qr, .int 0, .int 0])) :: (qa, .inl (cA 2, 20, .inr (.inr (.inr (.inr (refF Q 20)))))) :: (((flatD cA Q 20 ++ wcX5_init cA qp) ++ wcX4_init cA qm) ++ wcX0_init cA qc)) ++ (qr, .inl (cA 3, 12, .inr (.inr (.inr (.inr (refF R i)))))) :: flatR cA R i) → va_S A s.heap H locs → W p l e (headSpec wsX10_init rmX10_init).room s m args below meth c H locs (276 + i) (1560 + 5 * i) (MQ below (cQv D A (fun w => ∃ (qa qr : Nat) (Q R : Nat → Nat → Nat) (qp qm qc : Nat → Nat), w = wcX10_init cA h0 qa qr Q R qp qm qc)) args s 288 1620 A) (F0 m 89 ls []) := by
    intro qa qr Q qp qm qc n
    induction n with
    | zero =>
      intro i R ls H locs hi hl hP hD hS
      obtain rfl : i = 12 := by omega
      refine lv_iload_n hx hb dX10_init_89 rfl (lv_at hl 0 rfl) ?_
      refine lv_bipush (v := 12) hx hb dX10_init_90 (by decide) ?_
      refine w_pc 92 rfl ?_
      refine lv_icmp_ge (tgt := 114) hx hb dX10_init_92 (by decide) (fun _ => ?_) (fun q => absurd (by decide) q)
      refine lv_aload_n hx hb dX10_init_114 rfl (lv_at hl 1 rfl) ?_
      refine lv_iconst (v := 0) hx hb dX10_init_115 (by decide) ?_
      refine va_put (D := D) (ci := 10) (v := .int 0) (ty := .int) (C := RX10) (T := TX10) (N := 8) hx hb hts hinX10 tyX10 tyX10_ok nmX10 hown hK hP hD hS 0 rfl rfl 6 (by decide) (hts _ wm374) (fun _ h9 => h9) rfl (by decide +kernel) rfl rfl (Nat.le_of_ble_eq_true rfl) dX10_init_116 (fun H locs hP hD hS => ?_)
      have hP : va_P D vwCl (((h0, .inr (10, [.ref qa, .int 0, .ref (qp 0), .ref (qm 0), .ref (qc 0), .ref qr, .int 0, .int 0])) :: (qa, .inl (cA 2, 20, .inr (.inr (.inr (.inr (refF Q 20)))))) :: (((flatD cA Q 20 ++ wcX5_init cA qp) ++ wcX4_init cA qm) ++ wcX0_init cA qc)) ++ (qr, .inl (cA 3, 12, .inr (.inr (.inr (.inr (refF R 12)))))) :: flatR cA R 12) H := hP
      have hD : va_D A (((h0, .inr (10, [.ref qa, .int 0, .ref (qp 0), .ref (qm 0), .ref (qc 0), .ref qr, .int 0, .int 0])) :: (qa, .inl (cA 2, 20, .inr (.inr (.inr (.inr (refF Q 20)))))) :: (((flatD cA Q 20 ++ wcX5_init cA qp) ++ wcX4_init cA qm) ++ wcX0_init cA qc)) ++ (qr, .inl (cA 3, 12, .inr (.inr (.inr (.inr (refF R 12)))))) :: flatR cA R 12) := hD
      refine lv_aload_n hx hb dX10_init_119 rfl (lv_at hl 1 rfl) ?_
      refine lv_iconst (v := 0) hx hb dX10_init_120 (by decide) ?_
      refine va_put (D := D) (ci := 10) (v := .int 0) (ty := .int) (C := RX10) (T := TX10) (N := 8) hx hb hts hinX10 tyX10 tyX10_ok nmX10 hown hK hP hD hS 0 rfl rfl 7 (by decide) (hts _ wm375) (fun _ h9 => h9) rfl (by decide +kernel) rfl rfl (Nat.le_of_ble_eq_true rfl) dX10_init_121 (fun H locs hP hD hS => ?_)
      have hP : va_P D vwCl (((h0, .inr (10, [.ref qa, .int 0, .ref (qp 0), .ref (qm 0), .ref (qc 0), .ref qr, .int 0, .int 0])) :: (qa, .inl (cA 2, 20, .inr (.inr (.inr (.inr (refF Q 20)))))) :: (((flatD cA Q 20 ++ wcX5_init cA qp) ++ wcX4_init cA qm) ++ wcX0_init cA qc)) ++ (qr, .inl (cA 3, 12, .inr (.inr (.inr (.inr (refF R 12)))))) :: flatR cA R 12) H := hP
      have hD : va_D A (((h0, .inr (10, [.ref qa, .int 0, .ref (qp 0), .ref (qm 0), .ref (qc 0), .ref qr, .int 0, .int 0])) :: (qa, .inl (cA 2, 20, .inr (.inr (.inr (.inr (refF Q 20)))))) :: (((flatD cA Q 20 ++ wcX5_init cA qp) ++ wcX4_init cA qm) ++ wcX0_init cA qc)) ++ (qr, .inl (cA 3, 12, .inr (.inr (.inr (.inr (refF R 12)))))) :: flatR cA R 12) := hD
      exact W.vret hx hb hr (fun t ht hW => ⟨⟨_, rfl, ⟨qa, qr, Q, R, qp, qm, qc, rfl⟩, by rw [ht]; exact hP, hD⟩, hS.F ht⟩) hS.2.2 dX10_init_124 hlk
    | succ n ih =>
      intro i R ls H locs hi hl hP hD hS
      refine lv_iload_n hx hb dX10_init_89 rfl (lv_at hl 0 rfl) ?_
      refine lv_bipush (v := 12) hx hb dX10_init_90 (by decide) ?_
      refine w_pc 92 rfl ?_
      refine lv_icmp_ge (tgt := 114) hx hb dX10_init_92 (by decide) (fun q => absurd q (nI_ge (a := i) (b := 12) (by omega) (by omega))) (fun _ => ?_)
      refine lv_aload_n hx hb dX10_init_95 rfl (lv_at hl 1 rfl) ?_
      refine va_get (D := D) (ci := 10) (v := .ref qr) (C := RX10) (T := TX10) (N := 8) hx hb hts hinX10 hown hK hP 0 rfl rfl 5 (by decide) (hts _ wm373) (fun _ h9 => h9) rfl dX10_init_96 ?_
      refine lv_iload_n hx hb dX10_init_99 rfl (lv_at hl 0 rfl) ?_
      refine va_new (ci := 6) (fs := [.int 0, .int 0, .int 0, .int 0, .int 0]) (C := RX6) (T := TX6) (N := 5) hx hb hts hinX6 tyX6 tyX6_ok hown (hts _ wm344) (hts _ wm346) (hts _ wm60) hK hP hD hS hA rfl (fun j hj => by rcases (show j = 0 ∨ j = 1 ∨ j = 2 ∨ j = 3 ∨ j = 4 by omega) with rfl | rfl | rfl | rfl | rfl <;> rfl) (by show _ ≤ 288; omega) (by show _ ≤ 1620; omega) dX10_init_100 (fun q H hP hD hS => ?_)
      have hP : va_P D vwCl ((((h0, .inr (10, [.ref qa, .int 0, .ref (qp 0), .ref (qm 0), .ref (qc 0), .ref qr, .int 0, .int 0])) :: (qa, .inl (cA 2, 20, .inr (.inr (.inr (.inr (refF Q 20)))))) :: (((flatD cA Q 20 ++ wcX5_init cA qp) ++ wcX4_init cA qm) ++ wcX0_init cA qc)) ++ (qr, .inl (cA 3, 12, .inr (.inr (.inr (.inr (refF R i)))))) :: flatR cA R i) ++ [(q, .inr (6, [.int 0, .int 0, .int 0, .int 0, .int 0]))]) H := hP
      have hD : va_D A ((((h0, .inr (10, [.ref qa, .int 0, .ref (qp 0), .ref (qm 0), .ref (qc 0), .ref qr, .int 0, .int 0])) :: (qa, .inl (cA 2, 20, .inr (.inr (.inr (.inr (refF Q 20)))))) :: (((flatD cA Q 20 ++ wcX5_init cA qp) ++ wcX4_init cA qm) ++ wcX0_init cA qc)) ++ (qr, .inl (cA 3, 12, .inr (.inr (.inr (.inr (refF R i)))))) :: flatR cA R i) ++ [(q, .inr (6, [.int 0, .int 0, .int 0, .int 0, .int 0]))]) := hD
      refine lv_dup hx hb dX10_init_103 rfl ?_
      refine w_pc 104 rfl ?_
      have hFF := vc_free hD hS hA
      refine va_callv (va_runIN (As := []) (rest := [.ref q, .int (nI i), .ref qr]) ⟨hx, hb, hml, hown, hts⟩ (zX6_init l D cA q H.size) ⟨va_cnB 0 hts (gdc wm349) rfl rfl rfl (hN _ nw9) (hts _ wm60) hdX6_init ⟨Nat.le_of_ble_eq_true rfl, Nat.le_of_ble_eq_true rfl⟩, rfl, hts _ wm348⟩ ⟨cPc_blind, fun U hU hW => ⟨rfl, by rw [hU], by rw [hU]; exact vc_sub hP, va_K.moved hW.alike hK, (vc_subD hD).weaken (fun _ _ _ _ => trivial), hN.warm hW, hAO.moved hW.alike⟩⟩ rfl rfl hl.1 rfl (lv_room (Nat.le_of_ble_eq_true rfl)) dX10_init_104 ⟨(by show _ ≤ 288; omega), (by show _ ≤ 1620; omega)⟩) hS (fun q _ h => hFF q h) hFF (fun w t H1 locs ht hvm hw hB hz1 hk1 hS => ?_)
      obtain ⟨u, hq, rfl⟩ := hw
      obtain ⟨hP1, hD1⟩ := hB
      subst hq
      subst ht
      obtain ⟨hP, hD⟩ := vc_last hP hD hk1 hFF hP1 hD1
      generalize t.heap = H at hP hS ⊢
      have hP : va_P D vwCl (((h0, .inr (10, [.ref qa, .int 0, .ref (qp 0), .ref (qm 0), .ref (qc 0), .ref qr, .int 0, .int 0])) :: (qa, .inl (cA 2, 20, .inr (.inr (.inr (.inr (refF Q 20)))))) :: (((flatD cA Q 20 ++ wcX5_init cA qp) ++ wcX4_init cA qm) ++ wcX0_init cA qc)) ++ (qr, .inl (cA 3, 12, .inr (.inr (.inr (.inr (refF R i)))))) :: (flatR cA R i ++ wcX6_init cA u)) H := by simpa only [List.append_assoc, List.cons_append] using hP
      have hD : va_D A (((h0, .inr (10, [.ref qa, .int 0, .ref (qp 0), .ref (qm 0), .ref (qc 0), .ref qr, .int 0, .int 0])) :: (qa, .inl (cA 2, 20, .inr (.inr (.inr (.inr (refF Q 20)))))) :: (((flatD cA Q 20 ++ wcX5_init cA qp) ++ wcX4_init cA qm) ++ wcX0_init cA qc)) ++ (qr, .inl (cA 3, 12, .inr (.inr (.inr (.inr (refF R i)))))) :: (flatR cA R i ++ wcX6_init cA u)) := by simpa only [List.append_assoc, List.cons_append] using hD
      have hin0 : vp_in (nI i) 12 := vp_in_nI (by omega) (by omega)
      have hci : (nI i).toNatClampNeg = i := nI_clamp (by omega)
      have hv1 : (((h0, .inr (10, [.ref qa, .int 0, .ref (qp 0), .ref (qm 0), .ref (qc 0), .ref qr, .int 0, .int 0])) :: (qa, .inl (cA 2, 20, .inr (.inr (.inr (.inr (refF Q 20)))))) :: (((flatD cA Q 20 ++ wcX5_init cA qp) ++ wcX4_init cA qm) ++ wcX0_init cA qc)) ++ (qr, .inl (cA 3, 12, .inr (.inr (.inr (.inr (refF R i)))))) :: (flatR cA R i ++ wcX6_init cA u))[((h0, .inr (10, [.ref qa, .int 0, .ref (qp 0), .ref (qm 0), .ref (qc 0), .ref qr, .int 0, .int 0])) :: (qa, .inl (cA 2, 20, .inr (.inr (.inr (.inr (refF Q 20)))))) :: (((flatD cA Q 20 ++ wcX5_init cA qp) ++ wcX4_init cA qm) ++ wcX0_init cA qc)).length + (1 + (flatR cA R i).length)]? = some (u 0, .inr (6, [.int 0, .int 0, .int 0, .int 0, .int 0])) := by
        rw [List.getElem?_append_right (Nat.le_add_right _ _), Nat.add_sub_cancel_left, Nat.add_comm 1, List.getElem?_cons_succ, List.getElem?_append_right (Nat.le_refl _), Nat.sub_self]
        rfl
      refine va_astq (D := D) hx hb hK hP hD hS _ 3 _ 6 vc_at rfl hv1 rfl hin0 dX10_init_107 (fun H locs hP hD hS => ?_)
      rw [vc_set, hci, refF_s, flatR_s] at hP hD
      refine lv_iinc (k := 0) (v := nI (i + 1)) (lv' := [(1, .int (nI (i + 1))), (0, .ref h0)]) hx hb dX10_init_108 hl rfl (by rw [nI_succ]; rfl) (by decide) rfl (fun ls hl => ?_)
      refine w_pc 111 rfl ?_
      refine lv_goto (tgt := 89) hx hb dX10_init_111 (by decide) ?_
      refine W.widen (k := 276 + (i + 1)) (n := 1560 + 5 * (i + 1)) (by omega) (by omega) ?_
      exact ih (i + 1) _ ls H locs (by omega) hl hP hD hS
  have mid : ∀ (qa : Nat) (Q : Nat → Nat → Nat) (ls : Array Slot) (H : Heap) (locs : List Loc), lv_has ls 2 [(1, .int 20), (0, .ref h0)] → va_P D vwCl ((h0, .inr (10, [.ref qa, .int 0, .null, .null, .null, .null, .int 0, .int 0])) :: (qa, .inl (cA 2, 20, .inr (.inr (.inr (.inr (refF Q 20)))))) :: (flatD cA Q 20)) H → va_D A ((h0, .inr (10, [.ref qa, .int 0, .null, .null, .null, .null, .int 0, .int 0])) :: (qa, .inl (cA 2, 20, .inr (.inr (.inr (.inr (refF Q 20)))))) :: (flatD cA Q 20)) → va_S A s.heap H locs → W p l e (headSpec wsX10_init rmX10_init).room s m args below meth c H locs (241) (1100) (MQ below (cQv D A (fun w => ∃ (qa qr : Nat) (Q R : Nat → Nat → Nat) (qp qm qc : Nat → Nat), w = wcX10_init cA h0 qa qr Q R qp qm qc)) args s 288 1620 A) (F0 m 40 ls []) := by
    intro qa Q ls H locs hl hP hD hS
    refine lv_aload_n hx hb dX10_init_40 rfl (lv_at hl 1 rfl) ?_
    refine lv_iconst (v := 0) hx hb dX10_init_41 (by decide) ?_
    refine va_put (D := D) (ci := 10) (v := .int 0) (ty := .int) (C := RX10) (T := TX10) (N := 8) hx hb hts hinX10 tyX10 tyX10_ok nmX10 hown hK hP hD hS 0 rfl rfl 1 (by decide) (hts _ wm369) (fun _ h9 => h9) rfl (by decide +kernel) rfl rfl (Nat.le_of_ble_eq_true rfl) dX10_init_42 (fun H locs hP hD hS => ?_)
    have hP : va_P D vwCl ((h0, .inr (10, [.ref qa, .int 0, .null, .null, .null, .null, .int 0, .int 0])) :: (qa, .inl (cA 2, 20, .inr (.inr (.inr (.inr (refF Q 20)))))) :: (flatD cA Q 20)) H := hP
    have hD : va_D A ((h0, .inr (10, [.ref qa, .int 0, .null, .null, .null, .null, .int 0, .int 0])) :: (qa, .inl (cA 2, 20, .inr (.inr (.inr (.inr (refF Q 20)))))) :: (flatD cA Q 20)) := hD
    refine lv_aload_n hx hb dX10_init_45 rfl (lv_at hl 1 rfl) ?_
    refine va_new (ci := 5) (fs := [.int 0, .int 0, .int 0, .int 0, .int 0]) (C := RX5) (T := TX5) (N := 5) hx hb hts hinX5 tyX5 tyX5_ok hown (hts _ wm189) (hts _ wm129) (hts _ wm54) hK hP hD hS hA rfl (fun j hj => by rcases (show j = 0 ∨ j = 1 ∨ j = 2 ∨ j = 3 ∨ j = 4 by omega) with rfl | rfl | rfl | rfl | rfl <;> rfl) (Nat.le_of_ble_eq_true rfl) (Nat.le_of_ble_eq_true rfl) dX10_init_46 (fun q1 H hP hD hS => ?_)
    refine W.widen (k := 242) (n := 1105) (Nat.le_of_ble_eq_true rfl) (Nat.le_of_ble_eq_true rfl) ?_
    have hP : va_P D vwCl (((h0, .inr (10, [.ref qa, .int 0, .null, .null, .null, .null, .int 0, .int 0])) :: (qa, .inl (cA 2, 20, .inr (.inr (.inr (.inr (refF Q 20)))))) :: (flatD cA Q 20)) ++ [(q1, .inr (5, [.int 0, .int 0, .int 0, .int 0, .int 0]))]) H := hP
    have hD : va_D A (((h0, .inr (10, [.ref qa, .int 0, .null, .null, .null, .null, .int 0, .int 0])) :: (qa, .inl (cA 2, 20, .inr (.inr (.inr (.inr (refF Q 20)))))) :: (flatD cA Q 20)) ++ [(q1, .inr (5, [.int 0, .int 0, .int 0, .int 0, .int 0]))]) := hD
    refine lv_dup hx hb dX10_init_49 rfl ?_
    refine w_pc 50 rfl ?_
    have hFF := vc_free hD hS hA
    refine va_callv (va_runIN (As := []) (rest := [.ref q1, .ref h0]) ⟨hx, hb, hml, hown, hts⟩ (zX5_init l D cA q1 H.size) ⟨va_cnB 0 hts (gdc wm132) rfl rfl rfl (hN _ nw4) (hts _ wm54) hdX5_init ⟨Nat.le_of_ble_eq_true rfl, Nat.le_of_ble_eq_true rfl⟩, rfl, hts _ wm131⟩ ⟨cPc_blind, fun U hU hW => ⟨rfl, by rw [hU], by rw [hU]; exact vc_sub hP, va_K.moved hW.alike hK, (vc_subD hD).weaken (fun _ _ _ _ => trivial), hN.warm hW, hAO.moved hW.alike⟩⟩ rfl rfl hl.1 rfl (lv_room (Nat.le_of_ble_eq_true rfl)) dX10_init_50 ⟨(Nat.le_of_ble_eq_true rfl), (Nat.le_of_ble_eq_true rfl)⟩) hS (fun q _ h => hFF q h) hFF (fun w t H1 locs ht hvm hw hB hz1 hk1 hS => ?_)
    obtain ⟨qp, hq, rfl⟩ := hw
    obtain ⟨hP1, hD1⟩ := hB
    subst hq
    subst ht
    obtain ⟨hP, hD⟩ := vc_last hP hD hk1 hFF hP1 hD1
    generalize t.heap = H at hP hS ⊢
    have hP : va_P D vwCl ((h0, .inr (10, [.ref qa, .int 0, .null, .null, .null, .null, .int 0, .int 0])) :: (qa, .inl (cA 2, 20, .inr (.inr (.inr (.inr (refF Q 20)))))) :: (flatD cA Q 20 ++ wcX5_init cA qp)) H := hP
    have hD : va_D A ((h0, .inr (10, [.ref qa, .int 0, .null, .null, .null, .null, .int 0, .int 0])) :: (qa, .inl (cA 2, 20, .inr (.inr (.inr (.inr (refF Q 20)))))) :: (flatD cA Q 20 ++ wcX5_init cA qp)) := hD
    refine W.widen (k := 242) (n := 1105) (Nat.le_of_ble_eq_true rfl) (Nat.le_of_ble_eq_true rfl) ?_
    refine va_putF (D := D) (ci := 10) (v := .ref (qp 0)) (ty := (.object "MailArbiter$Policy")) (C := RX10) (T := TX10) (N := 8) hx hb hts hinX10 tyX10 tyX10_ok nmX10 hown hK hP hD hS 0 rfl rfl 2 (by decide) (hts _ wm370) (fun _ h9 => h9) rfl hin rfl (by decide +kernel) rfl rfl (Nat.le_of_ble_eq_true rfl) dX10_init_53 (fun H locs hP hD hS => ?_)
    have hP : va_P D vwCl ((h0, .inr (10, [.ref qa, .int 0, .ref (qp 0), .null, .null, .null, .int 0, .int 0])) :: (qa, .inl (cA 2, 20, .inr (.inr (.inr (.inr (refF Q 20)))))) :: (flatD cA Q 20 ++ wcX5_init cA qp)) H := hP
    have hD : va_D A ((h0, .inr (10, [.ref qa, .int 0, .ref (qp 0), .null, .null, .null, .int 0, .int 0])) :: (qa, .inl (cA 2, 20, .inr (.inr (.inr (.inr (refF Q 20)))))) :: (flatD cA Q 20 ++ wcX5_init cA qp)) := hD
    refine lv_aload_n hx hb dX10_init_56 rfl (lv_at hl 1 rfl) ?_
    refine va_new (ci := 4) (fs := [.int 0, .int 0, .int 0, .int 0, .null, .null, .int 0, .null, .null, .null, .int 0, .null, .int 0]) (C := RX4) (T := TX4) (N := 13) hx hb hts hinX4 tyX4 tyX4_ok hown (hts _ wm191) (hts _ wm192) (hts _ wm55) hK hP hD hS hA rfl (fun j hj => by rcases (show j = 0 ∨ j = 1 ∨ j = 2 ∨ j = 3 ∨ j = 4 ∨ j = 5 ∨ j = 6 ∨ j = 7 ∨ j = 8 ∨ j = 9 ∨ j = 10 ∨ j = 11 ∨ j = 12 by omega) with rfl | rfl | rfl | rfl | rfl | rfl | rfl | rfl | rfl | rfl | rfl | rfl | rfl <;> rfl) (Nat.le_of_ble_eq_true rfl) (Nat.le_of_ble_eq_true rfl) dX10_init_57 (fun q2 H hP hD hS => ?_)
    refine W.widen (k := 243) (n := 1118) (Nat.le_of_ble_eq_true rfl) (Nat.le_of_ble_eq_true rfl) ?_
    have hP : va_P D vwCl (((h0, .inr (10, [.ref qa, .int 0, .ref (qp 0), .null, .null, .null, .int 0, .int 0])) :: (qa, .inl (cA 2, 20, .inr (.inr (.inr (.inr (refF Q 20)))))) :: ((flatD cA Q 20 ++ wcX5_init cA qp))) ++ [(q2, .inr (4, [.int 0, .int 0, .int 0, .int 0, .null, .null, .int 0, .null, .null, .null, .int 0, .null, .int 0]))]) H := hP
    have hD : va_D A (((h0, .inr (10, [.ref qa, .int 0, .ref (qp 0), .null, .null, .null, .int 0, .int 0])) :: (qa, .inl (cA 2, 20, .inr (.inr (.inr (.inr (refF Q 20)))))) :: ((flatD cA Q 20 ++ wcX5_init cA qp))) ++ [(q2, .inr (4, [.int 0, .int 0, .int 0, .int 0, .null, .null, .int 0, .null, .null, .null, .int 0, .null, .int 0]))]) := hD
    refine lv_dup hx hb dX10_init_60 rfl ?_
    refine w_pc 61 rfl ?_
    have hFF := vc_free hD hS hA
    refine va_callv (va_runI (As := []) (rest := [.ref q2, .ref h0]) ⟨hx, hb, hml, hown, hts⟩ (zX4_init l D cA q2 H.size) ⟨callB_of 0 hts (gdc wm195) rfl rfl rfl (hts _ wm55) (hts _ wm193) hdX4_init ⟨Nat.le_of_ble_eq_true rfl, Nat.le_of_ble_eq_true rfl⟩, rfl, hts _ wm194⟩ ⟨cPc_blind, fun U hU hW => ⟨rfl, by rw [hU], by rw [hU]; exact vc_sub hP, va_K.moved hW.alike hK, (vc_subD hD).weaken (fun _ _ _ _ => trivial), hN.warm hW, hAO.moved hW.alike⟩⟩ rfl rfl hl.1 rfl (lv_room (Nat.le_of_ble_eq_true rfl)) dX10_init_61 ⟨(Nat.le_of_ble_eq_true rfl), (Nat.le_of_ble_eq_true rfl)⟩) hS (fun q _ h => hFF q h) hFF (fun w t H1 locs ht hvm hw hB hz1 hk1 hS => ?_)
    obtain ⟨qm, hq, rfl⟩ := hw
    obtain ⟨hP1, hD1⟩ := hB
    subst hq
    subst ht
    obtain ⟨hP, hD⟩ := vc_last hP hD hk1 hFF hP1 hD1
    generalize t.heap = H at hP hS ⊢
    have hP : va_P D vwCl ((h0, .inr (10, [.ref qa, .int 0, .ref (qp 0), .null, .null, .null, .int 0, .int 0])) :: (qa, .inl (cA 2, 20, .inr (.inr (.inr (.inr (refF Q 20)))))) :: ((flatD cA Q 20 ++ wcX5_init cA qp) ++ wcX4_init cA qm)) H := hP
    have hD : va_D A ((h0, .inr (10, [.ref qa, .int 0, .ref (qp 0), .null, .null, .null, .int 0, .int 0])) :: (qa, .inl (cA 2, 20, .inr (.inr (.inr (.inr (refF Q 20)))))) :: ((flatD cA Q 20 ++ wcX5_init cA qp) ++ wcX4_init cA qm)) := hD
    refine W.widen (k := 274) (n := 1546) (Nat.le_of_ble_eq_true rfl) (Nat.le_of_ble_eq_true rfl) ?_
    refine va_putF (D := D) (ci := 10) (v := .ref (qm 0)) (ty := (.object "MailArbiter$Mail")) (C := RX10) (T := TX10) (N := 8) hx hb hts hinX10 tyX10 tyX10_ok nmX10 hown hK hP hD hS 0 rfl rfl 3 (by decide) (hts _ wm371) (fun _ h9 => h9) rfl hin rfl (by decide +kernel) rfl rfl (Nat.le_of_ble_eq_true rfl) dX10_init_64 (fun H locs hP hD hS => ?_)
    have hP : va_P D vwCl ((h0, .inr (10, [.ref qa, .int 0, .ref (qp 0), .ref (qm 0), .null, .null, .int 0, .int 0])) :: (qa, .inl (cA 2, 20, .inr (.inr (.inr (.inr (refF Q 20)))))) :: ((flatD cA Q 20 ++ wcX5_init cA qp) ++ wcX4_init cA qm)) H := hP
    have hD : va_D A ((h0, .inr (10, [.ref qa, .int 0, .ref (qp 0), .ref (qm 0), .null, .null, .int 0, .int 0])) :: (qa, .inl (cA 2, 20, .inr (.inr (.inr (.inr (refF Q 20)))))) :: ((flatD cA Q 20 ++ wcX5_init cA qp) ++ wcX4_init cA qm)) := hD
    refine lv_aload_n hx hb dX10_init_67 rfl (lv_at hl 1 rfl) ?_
    refine va_new (ci := 0) (fs := [.int 0, .int 0]) (C := RX0) (T := TX0) (N := 2) hx hb hts hinX0 tyX0 tyX0_ok hown (hts _ wm329) (hts _ wm330) (hts _ wm59) hK hP hD hS hA rfl (fun j hj => by rcases (show j = 0 ∨ j = 1 by omega) with rfl | rfl <;> rfl) (Nat.le_of_ble_eq_true rfl) (Nat.le_of_ble_eq_true rfl) dX10_init_68 (fun q3 H hP hD hS => ?_)
    refine W.widen (k := 275) (n := 1548) (Nat.le_of_ble_eq_true rfl) (Nat.le_of_ble_eq_true rfl) ?_
    have hP : va_P D vwCl (((h0, .inr (10, [.ref qa, .int 0, .ref (qp 0), .ref (qm 0), .null, .null, .int 0, .int 0])) :: (qa, .inl (cA 2, 20, .inr (.inr (.inr (.inr (refF Q 20)))))) :: (((flatD cA Q 20 ++ wcX5_init cA qp) ++ wcX4_init cA qm))) ++ [(q3, .inr (0, [.int 0, .int 0]))]) H := hP
    have hD : va_D A (((h0, .inr (10, [.ref qa, .int 0, .ref (qp 0), .ref (qm 0), .null, .null, .int 0, .int 0])) :: (qa, .inl (cA 2, 20, .inr (.inr (.inr (.inr (refF Q 20)))))) :: (((flatD cA Q 20 ++ wcX5_init cA qp) ++ wcX4_init cA qm))) ++ [(q3, .inr (0, [.int 0, .int 0]))]) := hD
    refine lv_dup hx hb dX10_init_71 rfl ?_
    refine w_pc 72 rfl ?_
    have hFF := vc_free hD hS hA
    refine va_callv (va_runIN (As := []) (rest := [.ref q3, .ref h0]) ⟨hx, hb, hml, hown, hts⟩ (zX0_init l D cA q3 H.size) ⟨va_cnB 0 hts (gdc wm333) rfl rfl rfl (hN _ nw8) (hts _ wm59) hdX0_init ⟨Nat.le_of_ble_eq_true rfl, Nat.le_of_ble_eq_true rfl⟩, rfl, hts _ wm332⟩ ⟨cPc_blind, fun U hU hW => ⟨rfl, by rw [hU], by rw [hU]; exact vc_sub hP, va_K.moved hW.alike hK, (vc_subD hD).weaken (fun _ _ _ _ => trivial), hN.warm hW, hAO.moved hW.alike⟩⟩ rfl rfl hl.1 rfl (lv_room (Nat.le_of_ble_eq_true rfl)) dX10_init_72 ⟨(Nat.le_of_ble_eq_true rfl), (Nat.le_of_ble_eq_true rfl)⟩) hS (fun q _ h => hFF q h) hFF (fun w t H1 locs ht hvm hw hB hz1 hk1 hS => ?_)
    obtain ⟨qc, hq, rfl⟩ := hw
    obtain ⟨hP1, hD1⟩ := hB
    subst hq
    subst ht
    obtain ⟨hP, hD⟩ := vc_last hP hD hk1 hFF hP1 hD1
    generalize t.heap = H at hP hS ⊢
    have hP : va_P D vwCl ((h0, .inr (10, [.ref qa, .int 0, .ref (qp 0), .ref (qm 0), .null, .null, .int 0, .int 0])) :: (qa, .inl (cA 2, 20, .inr (.inr (.inr (.inr (refF Q 20)))))) :: (((flatD cA Q 20 ++ wcX5_init cA qp) ++ wcX4_init cA qm) ++ wcX0_init cA qc)) H := hP
    have hD : va_D A ((h0, .inr (10, [.ref qa, .int 0, .ref (qp 0), .ref (qm 0), .null, .null, .int 0, .int 0])) :: (qa, .inl (cA 2, 20, .inr (.inr (.inr (.inr (refF Q 20)))))) :: (((flatD cA Q 20 ++ wcX5_init cA qp) ++ wcX4_init cA qm) ++ wcX0_init cA qc)) := hD
    refine W.widen (k := 275) (n := 1548) (Nat.le_of_ble_eq_true rfl) (Nat.le_of_ble_eq_true rfl) ?_
    refine va_putF (D := D) (ci := 10) (v := .ref (qc 0)) (ty := (.object "MailArbiter$Check")) (C := RX10) (T := TX10) (N := 8) hx hb hts hinX10 tyX10 tyX10_ok nmX10 hown hK hP hD hS 0 rfl rfl 4 (by decide) (hts _ wm372) (fun _ h9 => h9) rfl hin rfl (by decide +kernel) rfl rfl (Nat.le_of_ble_eq_true rfl) dX10_init_75 (fun H locs hP hD hS => ?_)
    have hP : va_P D vwCl ((h0, .inr (10, [.ref qa, .int 0, .ref (qp 0), .ref (qm 0), .ref (qc 0), .null, .int 0, .int 0])) :: (qa, .inl (cA 2, 20, .inr (.inr (.inr (.inr (refF Q 20)))))) :: (((flatD cA Q 20 ++ wcX5_init cA qp) ++ wcX4_init cA qm) ++ wcX0_init cA qc)) H := hP
    have hD : va_D A ((h0, .inr (10, [.ref qa, .int 0, .ref (qp 0), .ref (qm 0), .ref (qc 0), .null, .int 0, .int 0])) :: (qa, .inl (cA 2, 20, .inr (.inr (.inr (.inr (refF Q 20)))))) :: (((flatD cA Q 20 ++ wcX5_init cA qp) ++ wcX4_init cA qm) ++ wcX0_init cA qc)) := hD
    refine lv_aload_n hx hb dX10_init_78 rfl (lv_at hl 1 rfl) ?_
    refine lv_bipush (v := 12) hx hb dX10_init_79 (by decide) ?_
    refine cn_newq 3 (N' := 12) hx hb hown (hts _ wm344) hAO3 hK rfl hP hD hS hA (by decide) rfl (Nat.le_of_ble_eq_true rfl) (Nat.le_of_ble_eq_true rfl) (Nat.le_of_ble_eq_true rfl) dX10_init_81 (fun qr H hP hD hS => ?_)
    have hP : va_P D vwCl (((h0, .inr (10, [.ref qa, .int 0, .ref (qp 0), .ref (qm 0), .ref (qc 0), .null, .int 0, .int 0])) :: (qa, .inl (cA 2, 20, .inr (.inr (.inr (.inr (refF Q 20)))))) :: (((flatD cA Q 20 ++ wcX5_init cA qp) ++ wcX4_init cA qm) ++ wcX0_init cA qc)) ++ [(qr, .inl (cA 3, 12, .inr (.inr (.inr (.inr (fun _ => none))))))]) H := hP
    have hD : va_D A (((h0, .inr (10, [.ref qa, .int 0, .ref (qp 0), .ref (qm 0), .ref (qc 0), .null, .int 0, .int 0])) :: (qa, .inl (cA 2, 20, .inr (.inr (.inr (.inr (refF Q 20)))))) :: (((flatD cA Q 20 ++ wcX5_init cA qp) ++ wcX4_init cA qm) ++ wcX0_init cA qc)) ++ [(qr, .inl (cA 3, 12, .inr (.inr (.inr (.inr (fun _ => none))))))]) := hD
    refine W.widen (k := 276) (n := 1560) (Nat.le_of_ble_eq_true rfl) (Nat.le_of_ble_eq_true rfl) ?_
    refine va_putF (D := D) (ci := 10) (v := .ref qr) (ty := (.array (.object "MailArbiter$Row"))) (C := RX10) (T := TX10) (N := 8) hx hb hts hinX10 tyX10 tyX10_ok nmX10 hown hK hP hD hS 0 rfl rfl 5 (by decide) (hts _ wm373) (fun _ h9 => h9) rfl hin rfl (by decide +kernel) rfl rfl (Nat.le_of_ble_eq_true rfl) dX10_init_84 (fun H locs hP hD hS => ?_)
    have hP : va_P D vwCl (((h0, .inr (10, [.ref qa, .int 0, .ref (qp 0), .ref (qm 0), .ref (qc 0), .ref qr, .int 0, .int 0])) :: (qa, .inl (cA 2, 20, .inr (.inr (.inr (.inr (refF Q 20)))))) :: (((flatD cA Q 20 ++ wcX5_init cA qp) ++ wcX4_init cA qm) ++ wcX0_init cA qc)) ++ [(qr, .inl (cA 3, 12, .inr (.inr (.inr (.inr (fun _ => none))))))]) H := hP
    have hD : va_D A (((h0, .inr (10, [.ref qa, .int 0, .ref (qp 0), .ref (qm 0), .ref (qc 0), .ref qr, .int 0, .int 0])) :: (qa, .inl (cA 2, 20, .inr (.inr (.inr (.inr (refF Q 20)))))) :: (((flatD cA Q 20 ++ wcX5_init cA qp) ++ wcX4_init cA qm) ++ wcX0_init cA qc)) ++ [(qr, .inl (cA 3, 12, .inr (.inr (.inr (.inr (fun _ => none))))))]) := hD
    refine lv_iconst (v := 0) hx hb dX10_init_87 (by decide) ?_
    refine lv_istore_n (lv' := [(1, .int 0), (0, .ref h0)]) hx hb dX10_init_88 rfl hl (by decide) rfl (fun ls hl => ?_)
    have eR : (fun _ : Nat => (none : Option Nat)) = refF (fun _ _ => 0) 0 := by funext j; rfl
    rw [eR] at hP hD
    exact rows qa qr Q qp qm qc 12 0 (fun _ _ => 0) ls H locs (by omega) hl hP hD hS
  have doms : ∀ (qa : Nat) (n i : Nat) (Q : Nat → Nat → Nat) (ls : Array Slot) (H : Heap) (locs : List Loc), i + n = 20 → lv_has ls 2 [(1, .int (nI i)), (0, .ref h0)] → va_P D vwCl ((h0, .inr (10, [.ref qa, .int 0, .null, .null, .null, .null, .int 0, .int 0])) :: (qa, .inl (cA 2, 20, .inr (.inr (.inr (.inr (refF Q i)))))) :: flatD cA Q i) H → va_D A ((h0, .inr (10, [.ref qa, .int 0, .null, .null, .null, .null, .int 0, .int 0])) :: (qa, .inl (cA 2, 20, .inr (.inr (.inr (.inr (refF Q i)))))) :: flatD cA Q i) → va_S A s.heap H locs → W p l e (headSpec wsX10_init rmX10_init).room s m args below meth c H locs (1 + 12 * i) (20 + 54 * i) (MQ below (cQv D A (fun w => ∃ (qa qr : Nat) (Q R : Nat → Nat → Nat) (qp qm qc : Nat → Nat), w = wcX10_init cA h0 qa qr Q R qp qm qc)) args s 288 1620 A) (F0 m 15 ls []) := by
    intro qa n
    induction n with
    | zero =>
      intro i Q ls H locs hi hl hP hD hS
      obtain rfl : i = 20 := by omega
      refine lv_iload_n hx hb dX10_init_15 rfl (lv_at hl 0 rfl) ?_
      refine lv_bipush (v := 20) hx hb dX10_init_16 (by decide) ?_
      refine w_pc 18 rfl ?_
      refine lv_icmp_ge (tgt := 40) hx hb dX10_init_18 (by decide) (fun _ => ?_) (fun q => absurd (by decide) q)
      exact mid qa Q ls H locs hl hP hD hS
    | succ n ih =>
      intro i Q ls H locs hi hl hP hD hS
      refine lv_iload_n hx hb dX10_init_15 rfl (lv_at hl 0 rfl) ?_
      refine lv_bipush (v := 20) hx hb dX10_init_16 (by decide) ?_
      refine w_pc 18 rfl ?_
      refine lv_icmp_ge (tgt := 40) hx hb dX10_init_18 (by decide) (fun q => absurd q (nI_ge (a := i) (b := 20) (by omega) (by omega))) (fun _ => ?_)
      refine lv_aload_n hx hb dX10_init_21 rfl (lv_at hl 1 rfl) ?_
      refine va_get (D := D) (ci := 10) (v := .ref qa) (C := RX10) (T := TX10) (N := 8) hx hb hts hinX10 hown hK hP 0 rfl rfl 0 (by decide) (hts _ wm368) (fun _ h9 => h9) rfl dX10_init_22 ?_
      refine lv_iload_n hx hb dX10_init_25 rfl (lv_at hl 0 rfl) ?_
      refine va_new (ci := 1) (fs := [.int 0, .int 0, .int 0, .null, .null, .null, .null, .null]) (C := RX1) (T := TX1) (N := 8) hx hb hts hinX1 tyX1 tyX1_ok hown (hts _ wm70) (hts _ wm72) (hts _ wm51) hK hP hD hS hA rfl (fun j hj => by rcases (show j = 0 ∨ j = 1 ∨ j = 2 ∨ j = 3 ∨ j = 4 ∨ j = 5 ∨ j = 6 ∨ j = 7 by omega) with rfl | rfl | rfl | rfl | rfl | rfl | rfl | rfl <;> rfl) (by show _ ≤ 288; omega) (by show _ ≤ 1620; omega) dX10_init_26 (fun q H hP hD hS => ?_)
      have hP : va_P D vwCl (((h0, .inr (10, [.ref qa, .int 0, .null, .null, .null, .null, .int 0, .int 0])) :: (qa, .inl (cA 2, 20, .inr (.inr (.inr (.inr (refF Q i)))))) :: flatD cA Q i) ++ [(q, .inr (1, [.int 0, .int 0, .int 0, .null, .null, .null, .null, .null]))]) H := hP
      have hD : va_D A (((h0, .inr (10, [.ref qa, .int 0, .null, .null, .null, .null, .int 0, .int 0])) :: (qa, .inl (cA 2, 20, .inr (.inr (.inr (.inr (refF Q i)))))) :: flatD cA Q i) ++ [(q, .inr (1, [.int 0, .int 0, .int 0, .null, .null, .null, .null, .null]))]) := hD
      refine lv_dup hx hb dX10_init_29 rfl ?_
      refine w_pc 30 rfl ?_
      have hFF := vc_free hD hS hA
      refine va_callv (va_runIN (As := []) (rest := [.ref q, .int (nI i), .ref qa]) ⟨hx, hb, hml, hown, hts⟩ (zX1_init l D cA q H.size) ⟨va_cnB 0 hts (gdc wm75) rfl rfl rfl (hN _ nw0) (hts _ wm51) hdX1_init ⟨Nat.le_of_ble_eq_true rfl, Nat.le_of_ble_eq_true rfl⟩, rfl, hts _ wm74⟩ ⟨cPc_blind, fun U hU hW => ⟨rfl, by rw [hU], by rw [hU]; exact vc_sub hP, va_K.moved hW.alike hK, (vc_subD hD).weaken (fun _ _ _ _ => trivial), hN.warm hW, hAO.moved hW.alike⟩⟩ rfl rfl hl.1 rfl (lv_room (Nat.le_of_ble_eq_true rfl)) dX10_init_30 ⟨(by show _ ≤ 288; omega), (by show _ ≤ 1620; omega)⟩) hS (fun q _ h => hFF q h) hFF (fun w t H1 locs ht hvm hw hB hz1 hk1 hS => ?_)
      obtain ⟨u, hq, rfl⟩ := hw
      obtain ⟨hP1, hD1⟩ := hB
      subst hq
      subst ht
      obtain ⟨hP, hD⟩ := vc_last hP hD hk1 hFF hP1 hD1
      generalize t.heap = H at hP hS ⊢
      have hP : va_P D vwCl ((h0, .inr (10, [.ref qa, .int 0, .null, .null, .null, .null, .int 0, .int 0])) :: (qa, .inl (cA 2, 20, .inr (.inr (.inr (.inr (refF Q i)))))) :: (flatD cA Q i ++ wcX1_init cA u)) H := hP
      have hD : va_D A ((h0, .inr (10, [.ref qa, .int 0, .null, .null, .null, .null, .int 0, .int 0])) :: (qa, .inl (cA 2, 20, .inr (.inr (.inr (.inr (refF Q i)))))) :: (flatD cA Q i ++ wcX1_init cA u)) := hD
      have hin0 : vp_in (nI i) 20 := vp_in_nI (by omega) (by omega)
      have hci : (nI i).toNatClampNeg = i := nI_clamp (by omega)
      have hv1 : ((h0, .inr (10, [.ref qa, .int 0, .null, .null, .null, .null, .int 0, .int 0])) :: (qa, .inl (cA 2, 20, .inr (.inr (.inr (.inr (refF Q i)))))) :: (flatD cA Q i ++ wcX1_init cA u))[2 + (flatD cA Q i).length]? = some ((u 0), .inr (1, [.int 0, .int 0, .int 0, .ref (u 1), .ref (u 3), .ref (u 5), .ref (u 10), .ref (u 11)])) := by
        rw [Nat.add_comm 2, List.getElem?_cons_succ, List.getElem?_cons_succ, List.getElem?_append_right (Nat.le_refl _), Nat.sub_self]
        rfl
      refine va_astq (D := D) hx hb hK hP hD hS 1 2 _ 1 rfl rfl hv1 rfl hin0 dX10_init_33 (fun H locs hP hD hS => ?_)
      have hP : va_P D vwCl ((h0, .inr (10, [.ref qa, .int 0, .null, .null, .null, .null, .int 0, .int 0])) :: (qa, .inl (cA 2, 20, .inr (.inr (.inr (.inr (va_up (refF Q i) (nI i).toNatClampNeg (some (u 0)))))))) :: (flatD cA Q i ++ wcX1_init cA u)) H := hP
      have hD : va_D A ((h0, .inr (10, [.ref qa, .int 0, .null, .null, .null, .null, .int 0, .int 0])) :: (qa, .inl (cA 2, 20, .inr (.inr (.inr (.inr (va_up (refF Q i) (nI i).toNatClampNeg (some (u 0)))))))) :: (flatD cA Q i ++ wcX1_init cA u)) := hD
      rw [hci, refF_s, flatD_s] at hP hD
      refine lv_iinc (k := 0) (v := nI (i + 1)) (lv' := [(1, .int (nI (i + 1))), (0, .ref h0)]) hx hb dX10_init_34 hl rfl (by rw [nI_succ]; rfl) (by decide) rfl (fun ls hl => ?_)
      refine w_pc 37 rfl ?_
      refine lv_goto (tgt := 15) hx hb dX10_init_37 (by decide) ?_
      refine W.widen (k := 1 + 12 * (i + 1)) (n := 20 + 54 * (i + 1)) (by omega) (by omega) ?_
      exact ih (i + 1) _ ls H locs (by omega) hl hP hD hS
  refine w_entry ha (Nat.le_of_ble_eq_true rfl) (fun ls hl => ?_)
  have hl : lv_has ls 2 [(0, .ref h0)] := hl
  have hP : va_P D vwCl [(h0, .inr (10, [.null, .int 0, .null, .null, .null, .null, .int 0, .int 0]))] s.heap := hP
  refine lv_aload_n hx hb dX10_init_0 rfl (lv_at hl 0 rfl) ?_
  refine W.objInit hx hb hown (hts _ wm67) (hts _ wm68) (hts _ wmobj) rfl (by rw [hml]; exact hl.1) rfl dX10_init_1 (Nat.le_of_ble_eq_true rfl) (Nat.le_of_ble_eq_true rfl) ?_
  refine W.eq (g2 := F0 m 4 ls []) rfl ?_
  refine lv_aload_n hx hb dX10_init_4 rfl (lv_at hl 0 rfl) ?_
  refine lv_bipush (v := 20) hx hb dX10_init_5 (by decide) ?_
  refine cn_newq 2 (N' := 20) hx hb hown (hts _ wm70) hAO2 hK rfl hP hD hS hA (by decide) rfl (Nat.le_of_ble_eq_true rfl) (Nat.le_of_ble_eq_true rfl) (Nat.le_of_ble_eq_true rfl) dX10_init_7 (fun qa H hP hD hS => ?_)
  have hP : va_P D vwCl ([(h0, .inr (10, [.null, .int 0, .null, .null, .null, .null, .int 0, .int 0])), (qa, .inl (cA 2, 20, .inr (.inr (.inr (.inr (fun _ => none))))))]) H := hP
  have hD : va_D A ([(h0, .inr (10, [.null, .int 0, .null, .null, .null, .null, .int 0, .int 0])), (qa, .inl (cA 2, 20, .inr (.inr (.inr (.inr (fun _ => none))))))]) := hD
  refine W.widen (k := 1) (n := 20) (Nat.le_of_ble_eq_true rfl) (Nat.le_of_ble_eq_true rfl) ?_
  refine va_putF (D := D) (ci := 10) (v := .ref qa) (ty := (.array (.object "MailArbiter$Domain"))) (C := RX10) (T := TX10) (N := 8) hx hb hts hinX10 tyX10 tyX10_ok nmX10 hown hK hP hD hS 0 rfl rfl 0 (by decide) (hts _ wm368) (fun _ h9 => h9) rfl hin rfl (by decide +kernel) rfl rfl (Nat.le_of_ble_eq_true rfl) dX10_init_10 (fun H locs hP hD hS => ?_)
  have hP : va_P D vwCl ([(h0, .inr (10, [.ref qa, .int 0, .null, .null, .null, .null, .int 0, .int 0])), (qa, .inl (cA 2, 20, .inr (.inr (.inr (.inr (fun _ => none))))))]) H := hP
  have hD : va_D A ([(h0, .inr (10, [.ref qa, .int 0, .null, .null, .null, .null, .int 0, .int 0])), (qa, .inl (cA 2, 20, .inr (.inr (.inr (.inr (fun _ => none))))))]) := hD
  refine lv_iconst (v := 0) hx hb dX10_init_13 (by decide) ?_
  refine lv_istore_n (lv' := [(1, .int 0), (0, .ref h0)]) hx hb dX10_init_14 rfl hl (by decide) rfl (fun ls hl => ?_)
  have eR : (fun _ : Nat => (none : Option Nat)) = refF (fun _ _ => 0) 0 := by funext j; rfl
  rw [eR] at hP hD
  exact doms qa 20 0 (fun _ _ => 0) ls H locs (by omega) hl hP hD hS
