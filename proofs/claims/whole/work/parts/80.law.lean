/-! what each call owes: both sides answer, alike, and the relation goes on -/
def bz (y : Int32) : Int32 := if y = 0 then 0 else 1
def jn (a b : Int32) : Int64 := (shl64 a.toInt64 32) ||| (b.toInt64 &&& 4294967295)
def Op0 : Prop := ∀ (k : Nat) (M N : Mm), k ≤ 512 → Rel k M N → ∀ (a1 : Int32) (a2 : Int32), isB a2 → ∃ (r : Int32) (M' : Mm) (N' : Mm), fX10_domain a1 a2 M = some (r, M') ∧ fX11_domain a1 a2 N = some (r, N') ∧ Rel (k + 1) M' N'
def Op1 : Prop := ∀ (k : Nat) (M N : Mm), k ≤ 512 → Rel k M N → ∀ (a1 : Int32), ∃ (r : Int32), fX10_home a1 M = some r ∧ fX11_home a1 N = some r ∧ Rel (k + 1) M N
def Op2 : Prop := ∀ (k : Nat) (M N : Mm), k ≤ 512 → Rel k M N → ∀ (a1 : Int32) (a2 : Int32), isB a2 → ∃ (r : Int32) (M' : Mm) (N' : Mm), fX10_silent a1 a2 M = some (r, M') ∧ fX11_silent a1 a2 N = some (r, N') ∧ Rel (k + 1) M' N'
def Op3 : Prop := ∀ (k : Nat) (M N : Mm), k ≤ 512 → Rel k M N → ∀ (a1 : Int32) (a2 : Int32) (a3 : Int32), ∃ (r : Int32) (M' : Mm) (N' : Mm), fX10_host a1 a2 a3 M = some (r, M') ∧ fX11_host a1 a2 a3 N = some (r, N') ∧ Rel (k + 1) M' N'
def Op4 : Prop := ∀ (k : Nat) (M N : Mm), k ≤ 512 → Rel k M N → ∀ (a1 : Int32) (a2 : Int32) (a3 : Int32) (a4 : Int32) (a5 : Int32), ∃ (r : Int32) (M' : Mm) (N' : Mm), fX10_rule a1 a2 a3 a4 a5 M = some (r, M') ∧ fX11_rule a1 a2 a3 a4 a5 N = some (r, N') ∧ Rel (k + 1) M' N'
def Op5 : Prop := ∀ (k : Nat) (M N : Mm), k ≤ 512 → Rel k M N → ∀ (a1 : Int32) (a2 : Int32) (a3 : Int32), ∃ (r : Int32) (M' : Mm) (N' : Mm), fX10_key a1 a2 a3 M = some (r, M') ∧ fX11_key a1 a2 a3 N = some (r, N') ∧ Rel (k + 1) M' N'
def Op6 : Prop := ∀ (k : Nat) (M N : Mm), k ≤ 512 → Rel k M N → ∀ (a1 : Int32) (a2 : Int32) (a3 : Int32) (a4 : Int32) (a5 : Int32), ∃ (r : Int32) (M' : Mm) (N' : Mm), fX10_policy a1 a2 a3 a4 a5 M = some (r, M') ∧ fX11_policy a1 a2 a3 a4 a5 N = some (r, N') ∧ Rel (k + 1) M' N'
def Op7 : Prop := ∀ (k : Nat) (M N : Mm), k ≤ 512 → Rel k M N → ∀ (a1 : Int32) (a2 : Int32) (a3 : Int32), ∃ (r : Int32) (M' : Mm) (N' : Mm), fX10_mail a1 a2 a3 M = some (r, M') ∧ fX11_mail a1 a2 a3 N = some (r, N') ∧ Rel (k + 1) M' N'
def Op8 : Prop := ∀ (k : Nat) (M N : Mm), k ≤ 512 → Rel k M N → ∀ (a1 : Int32), ∃ (r : Int32) (M' : Mm) (N' : Mm), fX10_header a1 M = some (r, M') ∧ fX11_header a1 N = some (r, N') ∧ Rel (k + 1) M' N'
def Op9 : Prop := ∀ (k : Nat) (M N : Mm), k ≤ 512 → Rel k M N → ∀ (a1 : Int32) (a2 : Int64) (a4 : Int32), ∃ (r : Int32) (M' : Mm) (N' : Mm), fX10_type a1 a2 a4 M = some (r, M') ∧ fX11_type a1 a2 a4 N = some (r, N') ∧ Rel (k + 1) M' N'
def Op10 : Prop := ∀ (k : Nat) (M N : Mm), k ≤ 512 → Rel k M N → ∀ (a1 : Int32) (a2 : Int32), isB a2 → ∃ (r : Int32) (M' : Mm) (N' : Mm), fX10_length a1 a2 M = some (r, M') ∧ fX11_length a1 a2 N = some (r, N') ∧ Rel (k + 1) M' N'
def Op11 : Prop := ∀ (k : Nat) (M N : Mm), k ≤ 512 → Rel k M N → ∀ (a1 : Int32) (a2 : Int32) (a3 : Int32) (a4 : Int32) (a5 : Int32), ∃ (r : Int32) (M' : Mm) (N' : Mm), fX10_sign a1 a2 a3 a4 a5 M = some (r, M') ∧ fX11_sign a1 a2 a3 a4 a5 N = some (r, N') ∧ Rel (k + 1) M' N'
def Op12 : Prop := ∀ (k : Nat) (M N : Mm), k ≤ 512 → Rel k M N → ∀ (a1 : Int32) (a2 : Int32), ∃ (r : Int32) (M' : Mm) (N' : Mm), fX10_spoil a1 a2 M = some (r, M') ∧ fX11_spoil a1 a2 N = some (r, N') ∧ Rel (k + 1) M' N'
def Op13 : Prop := ∀ (k : Nat) (M N : Mm), k ≤ 512 → Rel k M N → ∀ (a1 : Int32), ∃ (r : Int32) (M' : Mm) (N' : Mm), fX10_signature a1 M = some (r, M') ∧ fX11_signature a1 N = some (r, N') ∧ Rel (k + 1) M' N'
def Op14 : Prop := ∀ (k : Nat) (M N : Mm), k ≤ 512 → Rel k M N → ∃ (r : Int32) (M' : Mm) (N' : Mm), fX10_sender M = some (r, M') ∧ fX11_sender N = some (r, N') ∧ Rel (k + 1) M' N'
def Op15 : Prop := ∀ (k : Nat) (M N : Mm), k ≤ 512 → Rel k M N → ∀ (a1 : Int32), ∃ (r : Int32), fX10_counted a1 M = some r ∧ fX11_counted a1 N = some r ∧ Rel (k + 1) M N
def Op16 : Prop := ∀ (k : Nat) (M N : Mm), k ≤ 512 → Rel k M N → ∃ (r : Int32) (M' : Mm) (N' : Mm), fX10_chain M = some (r, M') ∧ fX11_chain N = some (r, N') ∧ Rel (k + 1) M' N'
def Op17 : Prop := ∀ (k : Nat) (M N : Mm), k ≤ 512 → Rel k M N → ∀ (a1 : Int32) (a2 : Int32), ∃ (r : Int32) (M' : Mm) (N' : Mm), fX10_link a1 a2 M = some (r, M') ∧ fX11_link a1 a2 N = some (r, N') ∧ Rel (k + 1) M' N'
def Op18 : Prop := ∀ (k : Nat) (M N : Mm), k ≤ 512 → Rel k M N → ∀ (a1 : Int32), ∃ (r : Int32) (M' : Mm) (N' : Mm), fX10_judge a1 M = some (r, M') ∧ fX11_judge a1 N = some (r, N') ∧ Rel (k + 1) M' N'
def Op19 : Prop := ∀ (k : Nat) (M N : Mm), k ≤ 512 → Rel k M N → ∀ (a1 : Int32) (a2 : Int32), ∃ (r : Int32), fX10_row a1 a2 M = some r ∧ fX11_row a1 a2 N = some r ∧ Rel (k + 1) M N
def Op20 : Prop := ∀ (k : Nat) (M N : Mm), k ≤ 512 → Rel k M N → ∀ (a1 : Int32), ∃ (r : Int32) (M' : Mm) (N' : Mm), fX10_tick a1 M = some (r, M') ∧ fX11_tick a1 N = some (r, N') ∧ Rel (k + 1) M' N'
/-! the law's own rows -/
def aT (n : Nat) (ad : Nat → Nat) : Nat → Prop := fun q => ∃ t, t < n ∧ q = ad t
section LWR
variable {p : Program} {l : Launch} {e : Env} {R : Room} {s : State} {m : MethodId} {args : Array Value} {below : List Frame} {meth : Method} {c : Code} {H : Heap} {locs : List Loc} {cells slots : Nat} {Q : State → Prop}
variable {cc : ByteArray} {pc : Nat} {ls : Array Slot} {rest st0 : List Value} {D : va_G} {tys : List (ClassId × FieldType)} {H0 : Heap}
theorem law_bool {y : Int32} (hexec : p.tables.exec = Jvm.exec) (hb : c.code = cc) (h1 : decode cc pc = .ok (.ifCond .eq 7, 3)) (h2 : decode cc (pc + 3) = .ok (.iconst 1, 1)) (h3 : decode cc (pc + 4) = .ok (.goto 4, 3)) (h4 : decode cc (pc + 7) = .ok (.iconst 0, 1)) (k : W p l e R s m args below meth c H locs cells slots Q (F0 m (pc + 8) ls (.int (bz y) :: rest))) : W p l e R s m args below meth c H locs cells slots Q (F0 m pc ls (.int y :: rest)) := by
  refine lv_if_eq (tgt := pc + 7) hexec hb h1 (by omega) (fun q => ?_) (fun q => ?_)
  · refine lv_iconst (v := 0) hexec hb h4 (by decide) ?_
    have e1 : bz y = 0 := if_pos q
    rw [e1] at k
    exact k
  · refine lv_iconst (v := 1) hexec hb h2 (by decide) ?_
    refine w_pc (pc + 4) (by omega) ?_
    refine lv_goto (tgt := pc + 8) hexec hb h3 (by omega) ?_
    have e1 : bz y = 1 := if_neg q
    rw [e1] at k
    exact k
variable {nT nT2 : Nat} {lay lay2 : Nat → (Nat → Int32) → va_E} {ad ad2 : Nat → Nat} {M N M1 : Mm} {t : Nat}
theorem law_kept {A1 : Nat → Prop} {H1 : Heap} (hP2 : va_P D vwCl (gw nT2 lay2 ad2 N) H) (hdis : ∀ u, u < nT2 → ¬ A1 (ad2 u)) (hk : ∀ q : Nat, q < H.size → ¬ A1 q → H1[q]? = H[q]?) : va_P D vwCl (gw nT2 lay2 ad2 N) H1 := by
  refine hP2.kept (fun k q hq => ?_)
  by_cases hkn : k < nT2
  · have hl := (hP2 k q hq).lt
    rw [gw_at hkn] at hq
    cases hq
    exact hk _ hl (hdis k hkn)
  · rw [gw_out hkn] at hq
    cases hq
theorem lx_i {a : Array Value} {r : Int32} {A0 A1 : Nat → Prop} (hr : va_Run p l e R s m args below meth c H locs cells slots 0 0 (F0 m pc ls st0) rest (gQi D nT lay ad A1 M1 r a) A1) (hS : va_S A0 H0 H locs) (hA : ∀ q, A1 q → A0 q) (hP2 : va_P D vwCl (gw nT2 lay2 ad2 N) H) (hdis : ∀ u, u < nT2 → ¬ A1 (ad2 u))
    (kk : ∀ (H1 : Heap) (locs1 : List Loc), va_P D vwCl (gw nT lay ad M1) H1 → va_P D vwCl (gw nT2 lay2 ad2 N) H1 → va_S A0 H0 H1 locs1 → W p l e R s m args below meth c H1 locs1 cells slots Q (F0 m (pc + 3) ls (.int r :: rest))) : W p l e R s m args below meth c H locs cells slots Q (F0 m pc ls st0) :=
  va_calli (S := Unit) (post := fun v _ => v = r) (B := fun _ t => va_P D vwCl (gw nT lay ad M1) t.heap) (A1 := A1) hr hS (fun q _ h => hA q h) hA (fun r' u t H1 locs1 ht _ hp hB _ hk hS1 => by subst hp; subst ht; exact kk _ _ hB (law_kept hP2 hdis hk) hS1)
variable {y : MethodName} {bytes : ByteArray} {maxL nL n index : Nat} {ret : Option FieldType} {wsy : List Cond} {rm : Room} {Qc : Array Value → State → Outcome → State → Prop} {Ts : List Cond} {own C : String} {As : List Value} {A : Nat → Prop}
theorem rl_v (S : CallFix p m c cc nL s args Ts own) (hM : Met l y wsy rm (gPc D tys nT lay ad A M (.ref (ad t) :: As)) Qc 0 0 A) (cw : CallW R s args own C index y bytes maxL ret wsy rm 0 0 n) (hK : va_K D vwCl tys s) (hP : va_P D vwCl (gw nT lay ad M) H) (hD : gD A nT ad) (hN : gNW s) (ht : t < nT) {ci : Nat} {mk : (Nat → Int32) → List Value} (hly : ∀ f, lay t f = .inr (ci, mk f)) {T : u_T} {N : Nat} (hc : vwCl[ci]? = some (C, T, N)) (hn : As.length = n) (hsize : ls.size = nL) (hstack : st0 = As.reverse ++ .ref (ad t) :: rest) (hW : 2 * (F0 m pc ls st0).monitorRoom + (rest.map fun v => v.category).sum ≤ 8) (hdg : decode cc pc = .ok (.invokevirtual index, 3)) (hf : cells ≤ R.cells ∧ slots ≤ R.slots) :
    va_Run p l e R s m args below meth c H locs cells slots 0 0 (F0 m pc ls st0) rest (Qc (Value.ref (ad t) :: As).toArray) A :=
  va_runV S hM cw ⟨gPc_blind, va_recv hK hP hc (fs := mk (M t)) (by rw [gw_at ht, hly]), fun U hU hW => ⟨rfl, by rw [hU]; exact hP, va_K.moved hW.alike hK, hD, hN.warm hW⟩⟩ rfl hn hsize hstack hW hdg hf
end LWR
theorem bz_B (y : Int32) : isB (bz y) := by
  unfold bz
  by_cases h : y = 0
  · rw [if_pos h]
    exact Or.inl rfl
  · rw [if_neg h]
    exact Or.inr rfl
theorem Rel.up {k : Nat} {M N : Mm} (h : Rel k M N) : Rel (k + 1) M N := by
  obtain ⟨D, a, b, c, d, e⟩ := h
  exact ⟨D, a, b, c, d, e.to rfl rfl⟩
theorem law_at {L k : Nat} (hL : L ≤ 3072) (h : 6 * k ≤ L) (hc : ¬ (Int32.ofNat L - 6 < nI (6 * k))) : 6 * k + 6 ≤ L := by
  have e1 : (Int32.ofNat L - 6 : Int32).toInt = (L : Int) - 6 := pk_sub_toInt (a := L) (b := 6) (by omega) (by omega)
  have e2 : (nI (6 * k)).toInt = ((6 * k : Nat) : Int) := nI_toInt (by omega)
  rw [Int32.lt_iff_toInt_lt, e1, e2] at hc
  omega
theorem law_in {L k : Nat} (hL : L ≤ 3072) (h : 6 * k + 6 ≤ L) (j : Nat) (hj : j < 6) : vp_in (nI (6 * k) + nI j) L := by
  rw [nI_add]
  exact vp_in_nI (by omega) (by omega)
set_option maxRecDepth 100000 in
set_option maxHeartbeats 8000000 in
theorem law_loop (o0 : Op0) (o1 : Op1) (o2 : Op2) (o3 : Op3) (o4 : Op4) (o5 : Op5) (o6 : Op6) (o7 : Op7) (o8 : Op8) (o9 : Op9) (o10 : Op10) (o11 : Op11) (o12 : Op12) (o13 : Op13) (o14 : Op14) (o15 : Op15) (o16 : Op16) (o17 : Op17) (o18 : Op18) (o19 : Op19) (o20 : Op20) {p : Program} {e : Env} {s : State} {m : MethodId} {below : List Frame} {meth : Method} {c : Code} (l : Launch) {b L : Nat} {xs : Nat → Int32} (hL : L ≤ 3072) (C0 : lw_At p s m meth c b L xs) (D : va_G) (cA : Nat → ClassId) (hK : va_K D vwCl (tyM cA) s) (hN : gNW s) {ad ad2 : Nat → Nat} (hD1 : gD (aT 289 ad) 289 ad) (hD2 : gD (aT 40 ad2) 40 ad2) (hA1 : ∀ t, t < 289 → s.heap.size ≤ ad t) (hA2 : ∀ t, t < 40 → s.heap.size ≤ ad2 t) (hdis : ∀ t u, t < 289 → u < 40 → ad t ≠ ad2 u) {cells slots : Nat} (hcs : cells ≤ 600000 ∧ slots ≤ 7302250) : ∀ (n k : Nat) (M N : Mm) (H : Heap) (locs : List Loc) (ls : Array Slot), L < 6 * (k + n) → 6 * k ≤ L → Rel k M N → va_P D vwCl (gw 289 (layM ad cA) ad M) H → va_P D vwCl (gw 40 (layN ad2 cA) ad2 N) H → va_S (fun q => s.heap.size ≤ q) s.heap H locs → lv_has ls 4 [(0, .ref b), (1, .ref (ad 0)), (2, .ref (ad2 0)), (3, .int (nI (6 * k)))] → W p l e room_1 s m #[Value.ref b] below meth c H locs cells slots (lw_Z below #[Value.ref b] s) (F0 m 18 ls []) := by
  obtain ⟨hx, hb, hr, hml, hown, hts0, hX, hbl, hlk, -⟩ := C0
  have hts : ∀ w ∈ lw_g, w.before #[Value.ref b] s = true := fun w h => hts0 w (List.mem_filter.mp h).1
  have hbA : ¬ s.heap.size ≤ b := Nat.not_le.mpr hbl
  have hi1 : ∀ q, aT 289 ad q → s.heap.size ≤ q := fun q h => by obtain ⟨t, ht, rfl⟩ := h; exact hA1 t ht
  have hi2 : ∀ q, aT 40 ad2 q → s.heap.size ≤ q := fun q h => by obtain ⟨t, ht, rfl⟩ := h; exact hA2 t ht
  have hd1 : ∀ u, u < 40 → ¬ aT 289 ad (ad2 u) := fun u hu h => by obtain ⟨t, ht, q⟩ := h; exact hdis t u ht hu q.symm
  have hd2 : ∀ u, u < 289 → ¬ aT 40 ad2 (ad u) := fun u hu h => by obtain ⟨t, ht, q⟩ := h; exact hdis u t hu ht q
  intro n
  induction n with
  | zero => intro k M N H locs ls h1 h2; omega
  | succ n ih =>
    intro k M N H locs ls hn hk hR hP hP2 hS hl
    refine lv_iload_n hx hb dL_law_18 rfl (lv_at hl 3 rfl) ?_
    refine lv_aload_n hx hb dL_law_19 rfl (lv_at hl 0 rfl) ?_
    refine va_slen hx hb hX hbl hbA hS dL_law_20 ?_
    refine lv_bipush (v := 6) hx hb dL_law_21 (by decide) ?_
    refine lv_isub hx hb dL_law_23 ?_
    refine w_pc 24 rfl ?_
    refine lv_icmp_gt (tgt := 939) hx hb dL_law_24 (by decide) (fun _ => ?_) (fun hc => ?_)
    · refine lv_iconst (v := 1) hx hb dL_law_939 (by decide) ?_
      refine va_forget hS.2.2 ?_
      refine W.widen (k := 600000) (n := 7302250) hcs.1 hcs.2 ?_
      exact lw_ret hx hb hr hlk dL_law_940
    have hk6 := law_at hL hk hc
    have in1 : vp_in (nI (6 * k) + 1) L := law_in hL hk6 1 (by omega)
    have in2 : vp_in (nI (6 * k) + 2) L := law_in hL hk6 2 (by omega)
    have in3 : vp_in (nI (6 * k) + 3) L := law_in hL hk6 3 (by omega)
    have in4 : vp_in (nI (6 * k) + 4) L := law_in hL hk6 4 (by omega)
    have in5 : vp_in (nI (6 * k) + 5) L := law_in hL hk6 5 (by omega)
    have in0 : vp_in (nI (6 * k)) L := vp_in_nI (by omega) (by omega)
    obtain ⟨y1, e1⟩ : ∃ y, y = xs (nI (6 * k) + 1).toNatClampNeg := ⟨_, rfl⟩
    obtain ⟨y2, e2⟩ : ∃ y, y = xs (nI (6 * k) + 2).toNatClampNeg := ⟨_, rfl⟩
    obtain ⟨y3, e3⟩ : ∃ y, y = xs (nI (6 * k) + 3).toNatClampNeg := ⟨_, rfl⟩
    obtain ⟨y4, e4⟩ : ∃ y, y = xs (nI (6 * k) + 4).toNatClampNeg := ⟨_, rfl⟩
    obtain ⟨y5, e5⟩ : ∃ y, y = xs (nI (6 * k) + 5).toNatClampNeg := ⟨_, rfl⟩
    obtain ⟨y0, e0⟩ : ∃ y, y = xs (nI (6 * k)).toNatClampNeg := ⟨_, rfl⟩
    have go : ∀ (M N : Mm) (H : Heap) (locs : List Loc) (ls : Array Slot), Rel (k + 1) M N → va_P D vwCl (gw 289 (layM ad cA) ad M) H → va_P D vwCl (gw 40 (layN ad2 cA) ad2 N) H → va_S (fun q => s.heap.size ≤ q) s.heap H locs → lv_has ls 4 [(0, .ref b), (1, .ref (ad 0)), (2, .ref (ad2 0)), (3, .int (nI (6 * k)))] → W p l e room_1 s m #[Value.ref b] below meth c H locs cells slots (lw_Z below #[Value.ref b] s) (F0 m 933 ls []) := by
      intro M N H locs ls hR hP hP2 hS hl
      refine lv_iinc (k := 3) (v := nI (6 * (k + 1))) (lv' := [(3, .int (nI (6 * (k + 1)))), (0, .ref b), (1, .ref (ad 0)), (2, .ref (ad2 0))]) hx hb dL_law_933 hl rfl (by rw [show 6 * (k + 1) = 6 * k + 6 by omega, ← nI_add]; rfl) (by decide) rfl (fun ls hl => ?_)
      refine lv_goto (tgt := 18) hx hb dL_law_936 (by decide) ?_
      exact ih (k + 1) M N H locs ls (by omega) (by omega) hR hP hP2 hS (lv_sub hl [1, 2, 3, 0] rfl)
    refine w_pc 27 rfl ?_
    refine lv_aload_n hx hb dL_law_27 rfl (lv_at hl 0 rfl) ?_
    refine lv_iload_n hx hb dL_law_28 rfl (lv_at hl 3 rfl) ?_
    refine va_sld hx hb hX hbl hbA hS in0 dL_law_29 ?_
    refine w_ti e0 ?_
    refine lv_bipush (v := 31) hx hb dL_law_30 (by decide) ?_
    refine lv_iand hx hb dL_law_32 ?_
    refine w_pc 33 rfl ?_
    by_cases q0 : (y0 &&& 31) = 0
    · refine w_ti q0.symm ?_
      refine lv_tableIn (tgt := 132) hx hb dL_law_33 (by decide) (by decide) rfl (by decide) ?_
      obtain ⟨r, M', N', ca, cb, hR⟩ := o0 k M N (by omega) hR y1 (bz y2) (bz_B y2)
      refine lv_aload_n hx hb dL_law_132 rfl (lv_at hl 1 rfl) ?_
      refine lv_aload_n hx hb dL_law_133 rfl (lv_at hl 0 rfl) ?_
      refine lv_iload_n hx hb dL_law_134 rfl (lv_at hl 3 rfl) ?_
      refine lv_iconst (v := 1) hx hb dL_law_135 (by decide) ?_
      refine lv_iadd hx hb dL_law_136 ?_
      refine va_sld hx hb hX hbl hbA hS in1 dL_law_137 ?_
      refine w_ti e1 ?_
      refine lv_aload_n hx hb dL_law_138 rfl (lv_at hl 0 rfl) ?_
      refine lv_iload_n hx hb dL_law_139 rfl (lv_at hl 3 rfl) ?_
      refine lv_iconst (v := 2) hx hb dL_law_140 (by decide) ?_
      refine lv_iadd hx hb dL_law_141 ?_
      refine va_sld hx hb hX hbl hbA hS in2 dL_law_142 ?_
      refine w_ti e2 ?_
      refine w_pc 143 rfl ?_
      refine law_bool hx hb dL_law_143 dL_law_146 dL_law_147 dL_law_150 ?_
      refine w_pc 151 rfl ?_
      refine w_pc 151 rfl ?_
      refine lx_i (rl_v (As := [.int y1, .int (bz y2)]) (rest := []) ⟨hx, hb, hml, hown, hts⟩ (kX10_domain l D ad cA (aT 289 ad) ca) ⟨callB_of 2 hts (gdc wm396) rfl rfl rfl (hts _ wm50) (hts _ wm393) hdX10_domain ⟨Nat.le_of_ble_eq_true rfl, Nat.le_of_ble_eq_true rfl⟩, hts _ wm394, hts _ wm395⟩ hK hP hD1 hN (by omega) lyMMA rfl rfl hl.1 rfl (lv_room (Nat.le_of_ble_eq_true rfl)) dL_law_151 hcs) hS hi1 hP2 hd1 (fun H locs hP hP2 hS => ?_)
      refine lv_aload_n hx hb dL_law_154 rfl (lv_at hl 2 rfl) ?_
      refine lv_aload_n hx hb dL_law_155 rfl (lv_at hl 0 rfl) ?_
      refine lv_iload_n hx hb dL_law_156 rfl (lv_at hl 3 rfl) ?_
      refine lv_iconst (v := 1) hx hb dL_law_157 (by decide) ?_
      refine lv_iadd hx hb dL_law_158 ?_
      refine va_sld hx hb hX hbl hbA hS in1 dL_law_159 ?_
      refine w_ti e1 ?_
      refine lv_aload_n hx hb dL_law_160 rfl (lv_at hl 0 rfl) ?_
      refine lv_iload_n hx hb dL_law_161 rfl (lv_at hl 3 rfl) ?_
      refine lv_iconst (v := 2) hx hb dL_law_162 (by decide) ?_
      refine lv_iadd hx hb dL_law_163 ?_
      refine va_sld hx hb hX hbl hbA hS in2 dL_law_164 ?_
      refine w_ti e2 ?_
      refine w_pc 165 rfl ?_
      refine law_bool hx hb dL_law_165 dL_law_168 dL_law_169 dL_law_172 ?_
      refine w_pc 173 rfl ?_
      refine w_pc 173 rfl ?_
      refine lx_i (rl_v (As := [.int y1, .int (bz y2)]) (rest := [.int r]) ⟨hx, hb, hml, hown, hts⟩ (kX11_domain l D ad2 cA (aT 40 ad2) cb) ⟨callB_of 2 hts (gdc wm897) rfl rfl rfl (hts _ wm61) (hts _ wm894) hdX11_domain ⟨Nat.le_of_ble_eq_true rfl, Nat.le_of_ble_eq_true rfl⟩, hts _ wm895, hts _ wm896⟩ hK hP2 hD2 hN (by omega) lyNMM rfl rfl hl.1 rfl (lv_room (Nat.le_of_ble_eq_true rfl)) dL_law_173 hcs) hS hi2 hP hd2 (fun H locs hP2 hP hS => ?_)
      refine w_pc 176 rfl ?_
      refine lv_icmp_eq (tgt := 933) hx hb dL_law_176 (by decide) (fun _ => ?_) (fun q => absurd rfl q)
      exact go M' N' H locs ls hR hP hP2 hS hl
    by_cases q1 : (y0 &&& 31) = 1
    · refine w_ti q1.symm ?_
      refine lv_tableIn (tgt := 181) hx hb dL_law_33 (by decide) (by decide) rfl (by decide) ?_
      obtain ⟨r, ca, cb, hR⟩ := o1 k M N (by omega) hR y1
      refine lv_aload_n hx hb dL_law_181 rfl (lv_at hl 1 rfl) ?_
      refine lv_aload_n hx hb dL_law_182 rfl (lv_at hl 0 rfl) ?_
      refine lv_iload_n hx hb dL_law_183 rfl (lv_at hl 3 rfl) ?_
      refine lv_iconst (v := 1) hx hb dL_law_184 (by decide) ?_
      refine lv_iadd hx hb dL_law_185 ?_
      refine va_sld hx hb hX hbl hbA hS in1 dL_law_186 ?_
      refine w_ti e1 ?_
      refine w_pc 187 rfl ?_
      refine lx_i (rl_v (As := [.int y1]) (rest := []) ⟨hx, hb, hml, hown, hts⟩ (kX10_home l D ad cA (aT 289 ad) ca) ⟨callB_of 1 hts (gdc wm411) rfl rfl rfl (hts _ wm50) (hts _ wm408) hdX10_home ⟨Nat.le_of_ble_eq_true rfl, Nat.le_of_ble_eq_true rfl⟩, hts _ wm409, hts _ wm410⟩ hK hP hD1 hN (by omega) lyMMA rfl rfl hl.1 rfl (lv_room (Nat.le_of_ble_eq_true rfl)) dL_law_187 hcs) hS hi1 hP2 hd1 (fun H locs hP hP2 hS => ?_)
      refine lv_aload_n hx hb dL_law_190 rfl (lv_at hl 2 rfl) ?_
      refine lv_aload_n hx hb dL_law_191 rfl (lv_at hl 0 rfl) ?_
      refine lv_iload_n hx hb dL_law_192 rfl (lv_at hl 3 rfl) ?_
      refine lv_iconst (v := 1) hx hb dL_law_193 (by decide) ?_
      refine lv_iadd hx hb dL_law_194 ?_
      refine va_sld hx hb hX hbl hbA hS in1 dL_law_195 ?_
      refine w_ti e1 ?_
      refine w_pc 196 rfl ?_
      refine lx_i (rl_v (As := [.int y1]) (rest := [.int r]) ⟨hx, hb, hml, hown, hts⟩ (kX11_home l D ad2 cA (aT 40 ad2) cb) ⟨callB_of 1 hts (gdc wm905) rfl rfl rfl (hts _ wm61) (hts _ wm902) hdX11_home ⟨Nat.le_of_ble_eq_true rfl, Nat.le_of_ble_eq_true rfl⟩, hts _ wm903, hts _ wm904⟩ hK hP2 hD2 hN (by omega) lyNMM rfl rfl hl.1 rfl (lv_room (Nat.le_of_ble_eq_true rfl)) dL_law_196 hcs) hS hi2 hP hd2 (fun H locs hP2 hP hS => ?_)
      refine w_pc 199 rfl ?_
      refine lv_icmp_eq (tgt := 933) hx hb dL_law_199 (by decide) (fun _ => ?_) (fun q => absurd rfl q)
      exact go M N H locs ls hR hP hP2 hS hl
    by_cases q2 : (y0 &&& 31) = 2
    · refine w_ti q2.symm ?_
      refine lv_tableIn (tgt := 204) hx hb dL_law_33 (by decide) (by decide) rfl (by decide) ?_
      obtain ⟨r, M', N', ca, cb, hR⟩ := o2 k M N (by omega) hR y1 (bz y2) (bz_B y2)
      refine lv_aload_n hx hb dL_law_204 rfl (lv_at hl 1 rfl) ?_
      refine lv_aload_n hx hb dL_law_205 rfl (lv_at hl 0 rfl) ?_
      refine lv_iload_n hx hb dL_law_206 rfl (lv_at hl 3 rfl) ?_
      refine lv_iconst (v := 1) hx hb dL_law_207 (by decide) ?_
      refine lv_iadd hx hb dL_law_208 ?_
      refine va_sld hx hb hX hbl hbA hS in1 dL_law_209 ?_
      refine w_ti e1 ?_
      refine lv_aload_n hx hb dL_law_210 rfl (lv_at hl 0 rfl) ?_
      refine lv_iload_n hx hb dL_law_211 rfl (lv_at hl 3 rfl) ?_
      refine lv_iconst (v := 2) hx hb dL_law_212 (by decide) ?_
      refine lv_iadd hx hb dL_law_213 ?_
      refine va_sld hx hb hX hbl hbA hS in2 dL_law_214 ?_
      refine w_ti e2 ?_
      refine w_pc 215 rfl ?_
      refine law_bool hx hb dL_law_215 dL_law_218 dL_law_219 dL_law_222 ?_
      refine w_pc 223 rfl ?_
      refine w_pc 223 rfl ?_
      refine lx_i (rl_v (As := [.int y1, .int (bz y2)]) (rest := []) ⟨hx, hb, hml, hown, hts⟩ (kX10_silent l D ad cA (aT 289 ad) ca) ⟨callB_of 2 hts (gdc wm415) rfl rfl rfl (hts _ wm50) (hts _ wm412) hdX10_silent ⟨Nat.le_of_ble_eq_true rfl, Nat.le_of_ble_eq_true rfl⟩, hts _ wm413, hts _ wm414⟩ hK hP hD1 hN (by omega) lyMMA rfl rfl hl.1 rfl (lv_room (Nat.le_of_ble_eq_true rfl)) dL_law_223 hcs) hS hi1 hP2 hd1 (fun H locs hP hP2 hS => ?_)
      refine lv_aload_n hx hb dL_law_226 rfl (lv_at hl 2 rfl) ?_
      refine lv_aload_n hx hb dL_law_227 rfl (lv_at hl 0 rfl) ?_
      refine lv_iload_n hx hb dL_law_228 rfl (lv_at hl 3 rfl) ?_
      refine lv_iconst (v := 1) hx hb dL_law_229 (by decide) ?_
      refine lv_iadd hx hb dL_law_230 ?_
      refine va_sld hx hb hX hbl hbA hS in1 dL_law_231 ?_
      refine w_ti e1 ?_
      refine lv_aload_n hx hb dL_law_232 rfl (lv_at hl 0 rfl) ?_
      refine lv_iload_n hx hb dL_law_233 rfl (lv_at hl 3 rfl) ?_
      refine lv_iconst (v := 2) hx hb dL_law_234 (by decide) ?_
      refine lv_iadd hx hb dL_law_235 ?_
      refine va_sld hx hb hX hbl hbA hS in2 dL_law_236 ?_
      refine w_ti e2 ?_
      refine w_pc 237 rfl ?_
      refine law_bool hx hb dL_law_237 dL_law_240 dL_law_241 dL_law_244 ?_
      refine w_pc 245 rfl ?_
      refine w_pc 245 rfl ?_
      refine lx_i (rl_v (As := [.int y1, .int (bz y2)]) (rest := [.int r]) ⟨hx, hb, hml, hown, hts⟩ (kX11_silent l D ad2 cA (aT 40 ad2) cb) ⟨callB_of 2 hts (gdc wm913) rfl rfl rfl (hts _ wm61) (hts _ wm910) hdX11_silent ⟨Nat.le_of_ble_eq_true rfl, Nat.le_of_ble_eq_true rfl⟩, hts _ wm911, hts _ wm912⟩ hK hP2 hD2 hN (by omega) lyNMM rfl rfl hl.1 rfl (lv_room (Nat.le_of_ble_eq_true rfl)) dL_law_245 hcs) hS hi2 hP hd2 (fun H locs hP2 hP hS => ?_)
      refine w_pc 248 rfl ?_
      refine lv_icmp_eq (tgt := 933) hx hb dL_law_248 (by decide) (fun _ => ?_) (fun q => absurd rfl q)
      exact go M' N' H locs ls hR hP hP2 hS hl
    by_cases q3 : (y0 &&& 31) = 3
    · refine w_ti q3.symm ?_
      refine lv_tableIn (tgt := 253) hx hb dL_law_33 (by decide) (by decide) rfl (by decide) ?_
      obtain ⟨r, M', N', ca, cb, hR⟩ := o3 k M N (by omega) hR y1 y2 y3
      refine lv_aload_n hx hb dL_law_253 rfl (lv_at hl 1 rfl) ?_
      refine lv_aload_n hx hb dL_law_254 rfl (lv_at hl 0 rfl) ?_
      refine lv_iload_n hx hb dL_law_255 rfl (lv_at hl 3 rfl) ?_
      refine lv_iconst (v := 1) hx hb dL_law_256 (by decide) ?_
      refine lv_iadd hx hb dL_law_257 ?_
      refine va_sld hx hb hX hbl hbA hS in1 dL_law_258 ?_
      refine w_ti e1 ?_
      refine lv_aload_n hx hb dL_law_259 rfl (lv_at hl 0 rfl) ?_
      refine lv_iload_n hx hb dL_law_260 rfl (lv_at hl 3 rfl) ?_
      refine lv_iconst (v := 2) hx hb dL_law_261 (by decide) ?_
      refine lv_iadd hx hb dL_law_262 ?_
      refine va_sld hx hb hX hbl hbA hS in2 dL_law_263 ?_
      refine w_ti e2 ?_
      refine lv_aload_n hx hb dL_law_264 rfl (lv_at hl 0 rfl) ?_
      refine lv_iload_n hx hb dL_law_265 rfl (lv_at hl 3 rfl) ?_
      refine lv_iconst (v := 3) hx hb dL_law_266 (by decide) ?_
      refine lv_iadd hx hb dL_law_267 ?_
      refine va_sld hx hb hX hbl hbA hS in3 dL_law_268 ?_
      refine w_ti e3 ?_
      refine w_pc 269 rfl ?_
      refine lx_i (rl_v (As := [.int y1, .int y2, .int y3]) (rest := []) ⟨hx, hb, hml, hown, hts⟩ (kX10_host l D ad cA (aT 289 ad) ca) ⟨callB_of 3 hts (gdc wm419) rfl rfl rfl (hts _ wm50) (hts _ wm416) hdX10_host ⟨Nat.le_of_ble_eq_true rfl, Nat.le_of_ble_eq_true rfl⟩, hts _ wm417, hts _ wm418⟩ hK hP hD1 hN (by omega) lyMMA rfl rfl hl.1 rfl (lv_room (Nat.le_of_ble_eq_true rfl)) dL_law_269 hcs) hS hi1 hP2 hd1 (fun H locs hP hP2 hS => ?_)
      refine lv_aload_n hx hb dL_law_272 rfl (lv_at hl 2 rfl) ?_
      refine lv_aload_n hx hb dL_law_273 rfl (lv_at hl 0 rfl) ?_
      refine lv_iload_n hx hb dL_law_274 rfl (lv_at hl 3 rfl) ?_
      refine lv_iconst (v := 1) hx hb dL_law_275 (by decide) ?_
      refine lv_iadd hx hb dL_law_276 ?_
      refine va_sld hx hb hX hbl hbA hS in1 dL_law_277 ?_
      refine w_ti e1 ?_
      refine lv_aload_n hx hb dL_law_278 rfl (lv_at hl 0 rfl) ?_
      refine lv_iload_n hx hb dL_law_279 rfl (lv_at hl 3 rfl) ?_
      refine lv_iconst (v := 2) hx hb dL_law_280 (by decide) ?_
      refine lv_iadd hx hb dL_law_281 ?_
      refine va_sld hx hb hX hbl hbA hS in2 dL_law_282 ?_
      refine w_ti e2 ?_
      refine lv_aload_n hx hb dL_law_283 rfl (lv_at hl 0 rfl) ?_
      refine lv_iload_n hx hb dL_law_284 rfl (lv_at hl 3 rfl) ?_
      refine lv_iconst (v := 3) hx hb dL_law_285 (by decide) ?_
      refine lv_iadd hx hb dL_law_286 ?_
      refine va_sld hx hb hX hbl hbA hS in3 dL_law_287 ?_
      refine w_ti e3 ?_
      refine w_pc 288 rfl ?_
      refine lx_i (rl_v (As := [.int y1, .int y2, .int y3]) (rest := [.int r]) ⟨hx, hb, hml, hown, hts⟩ (kX11_host l D ad2 cA (aT 40 ad2) cb) ⟨callB_of 3 hts (gdc wm917) rfl rfl rfl (hts _ wm61) (hts _ wm914) hdX11_host ⟨Nat.le_of_ble_eq_true rfl, Nat.le_of_ble_eq_true rfl⟩, hts _ wm915, hts _ wm916⟩ hK hP2 hD2 hN (by omega) lyNMM rfl rfl hl.1 rfl (lv_room (Nat.le_of_ble_eq_true rfl)) dL_law_288 hcs) hS hi2 hP hd2 (fun H locs hP2 hP hS => ?_)
      refine w_pc 291 rfl ?_
      refine lv_icmp_eq (tgt := 933) hx hb dL_law_291 (by decide) (fun _ => ?_) (fun q => absurd rfl q)
      exact go M' N' H locs ls hR hP hP2 hS hl
    by_cases q4 : (y0 &&& 31) = 4
    · refine w_ti q4.symm ?_
      refine lv_tableIn (tgt := 296) hx hb dL_law_33 (by decide) (by decide) rfl (by decide) ?_
      obtain ⟨r, M', N', ca, cb, hR⟩ := o4 k M N (by omega) hR y1 y2 y3 y4 y5
      refine lv_aload_n hx hb dL_law_296 rfl (lv_at hl 1 rfl) ?_
      refine lv_aload_n hx hb dL_law_297 rfl (lv_at hl 0 rfl) ?_
      refine lv_iload_n hx hb dL_law_298 rfl (lv_at hl 3 rfl) ?_
      refine lv_iconst (v := 1) hx hb dL_law_299 (by decide) ?_
      refine lv_iadd hx hb dL_law_300 ?_
      refine va_sld hx hb hX hbl hbA hS in1 dL_law_301 ?_
      refine w_ti e1 ?_
      refine lv_aload_n hx hb dL_law_302 rfl (lv_at hl 0 rfl) ?_
      refine lv_iload_n hx hb dL_law_303 rfl (lv_at hl 3 rfl) ?_
      refine lv_iconst (v := 2) hx hb dL_law_304 (by decide) ?_
      refine lv_iadd hx hb dL_law_305 ?_
      refine va_sld hx hb hX hbl hbA hS in2 dL_law_306 ?_
      refine w_ti e2 ?_
      refine lv_aload_n hx hb dL_law_307 rfl (lv_at hl 0 rfl) ?_
      refine lv_iload_n hx hb dL_law_308 rfl (lv_at hl 3 rfl) ?_
      refine lv_iconst (v := 3) hx hb dL_law_309 (by decide) ?_
      refine lv_iadd hx hb dL_law_310 ?_
      refine va_sld hx hb hX hbl hbA hS in3 dL_law_311 ?_
      refine w_ti e3 ?_
      refine lv_aload_n hx hb dL_law_312 rfl (lv_at hl 0 rfl) ?_
      refine lv_iload_n hx hb dL_law_313 rfl (lv_at hl 3 rfl) ?_
      refine lv_iconst (v := 4) hx hb dL_law_314 (by decide) ?_
      refine lv_iadd hx hb dL_law_315 ?_
      refine va_sld hx hb hX hbl hbA hS in4 dL_law_316 ?_
      refine w_ti e4 ?_
      refine lv_aload_n hx hb dL_law_317 rfl (lv_at hl 0 rfl) ?_
      refine lv_iload_n hx hb dL_law_318 rfl (lv_at hl 3 rfl) ?_
      refine lv_iconst (v := 5) hx hb dL_law_319 (by decide) ?_
      refine lv_iadd hx hb dL_law_320 ?_
      refine va_sld hx hb hX hbl hbA hS in5 dL_law_321 ?_
      refine w_ti e5 ?_
      refine w_pc 322 rfl ?_
      refine lx_i (rl_v (As := [.int y1, .int y2, .int y3, .int y4, .int y5]) (rest := []) ⟨hx, hb, hml, hown, hts⟩ (kX10_rule l D ad cA (aT 289 ad) ca) ⟨callB_of 5 hts (gdc wm427) rfl rfl rfl (hts _ wm50) (hts _ wm424) hdX10_rule ⟨Nat.le_of_ble_eq_true rfl, Nat.le_of_ble_eq_true rfl⟩, hts _ wm425, hts _ wm426⟩ hK hP hD1 hN (by omega) lyMMA rfl rfl hl.1 rfl (lv_room (Nat.le_of_ble_eq_true rfl)) dL_law_322 hcs) hS hi1 hP2 hd1 (fun H locs hP hP2 hS => ?_)
      refine lv_aload_n hx hb dL_law_325 rfl (lv_at hl 2 rfl) ?_
      refine lv_aload_n hx hb dL_law_326 rfl (lv_at hl 0 rfl) ?_
      refine lv_iload_n hx hb dL_law_327 rfl (lv_at hl 3 rfl) ?_
      refine lv_iconst (v := 1) hx hb dL_law_328 (by decide) ?_
      refine lv_iadd hx hb dL_law_329 ?_
      refine va_sld hx hb hX hbl hbA hS in1 dL_law_330 ?_
      refine w_ti e1 ?_
      refine lv_aload_n hx hb dL_law_331 rfl (lv_at hl 0 rfl) ?_
      refine lv_iload_n hx hb dL_law_332 rfl (lv_at hl 3 rfl) ?_
      refine lv_iconst (v := 2) hx hb dL_law_333 (by decide) ?_
      refine lv_iadd hx hb dL_law_334 ?_
      refine va_sld hx hb hX hbl hbA hS in2 dL_law_335 ?_
      refine w_ti e2 ?_
      refine lv_aload_n hx hb dL_law_336 rfl (lv_at hl 0 rfl) ?_
      refine lv_iload_n hx hb dL_law_337 rfl (lv_at hl 3 rfl) ?_
      refine lv_iconst (v := 3) hx hb dL_law_338 (by decide) ?_
      refine lv_iadd hx hb dL_law_339 ?_
      refine va_sld hx hb hX hbl hbA hS in3 dL_law_340 ?_
      refine w_ti e3 ?_
      refine lv_aload_n hx hb dL_law_341 rfl (lv_at hl 0 rfl) ?_
      refine lv_iload_n hx hb dL_law_342 rfl (lv_at hl 3 rfl) ?_
      refine lv_iconst (v := 4) hx hb dL_law_343 (by decide) ?_
      refine lv_iadd hx hb dL_law_344 ?_
      refine va_sld hx hb hX hbl hbA hS in4 dL_law_345 ?_
      refine w_ti e4 ?_
      refine lv_aload_n hx hb dL_law_346 rfl (lv_at hl 0 rfl) ?_
      refine lv_iload_n hx hb dL_law_347 rfl (lv_at hl 3 rfl) ?_
      refine lv_iconst (v := 5) hx hb dL_law_348 (by decide) ?_
      refine lv_iadd hx hb dL_law_349 ?_
      refine va_sld hx hb hX hbl hbA hS in5 dL_law_350 ?_
      refine w_ti e5 ?_
      refine w_pc 351 rfl ?_
      refine lx_i (rl_v (As := [.int y1, .int y2, .int y3, .int y4, .int y5]) (rest := [.int r]) ⟨hx, hb, hml, hown, hts⟩ (kX11_rule l D ad2 cA (aT 40 ad2) cb) ⟨callB_of 5 hts (gdc wm921) rfl rfl rfl (hts _ wm61) (hts _ wm918) hdX11_rule ⟨Nat.le_of_ble_eq_true rfl, Nat.le_of_ble_eq_true rfl⟩, hts _ wm919, hts _ wm920⟩ hK hP2 hD2 hN (by omega) lyNMM rfl rfl hl.1 rfl (lv_room (Nat.le_of_ble_eq_true rfl)) dL_law_351 hcs) hS hi2 hP hd2 (fun H locs hP2 hP hS => ?_)
      refine w_pc 354 rfl ?_
      refine lv_icmp_eq (tgt := 933) hx hb dL_law_354 (by decide) (fun _ => ?_) (fun q => absurd rfl q)
      exact go M' N' H locs ls hR hP hP2 hS hl
    by_cases q5 : (y0 &&& 31) = 5
    · refine w_ti q5.symm ?_
      refine lv_tableIn (tgt := 359) hx hb dL_law_33 (by decide) (by decide) rfl (by decide) ?_
      obtain ⟨r, M', N', ca, cb, hR⟩ := o5 k M N (by omega) hR y1 y2 y3
      refine lv_aload_n hx hb dL_law_359 rfl (lv_at hl 1 rfl) ?_
      refine lv_aload_n hx hb dL_law_360 rfl (lv_at hl 0 rfl) ?_
      refine lv_iload_n hx hb dL_law_361 rfl (lv_at hl 3 rfl) ?_
      refine lv_iconst (v := 1) hx hb dL_law_362 (by decide) ?_
      refine lv_iadd hx hb dL_law_363 ?_
      refine va_sld hx hb hX hbl hbA hS in1 dL_law_364 ?_
      refine w_ti e1 ?_
      refine lv_aload_n hx hb dL_law_365 rfl (lv_at hl 0 rfl) ?_
      refine lv_iload_n hx hb dL_law_366 rfl (lv_at hl 3 rfl) ?_
      refine lv_iconst (v := 2) hx hb dL_law_367 (by decide) ?_
      refine lv_iadd hx hb dL_law_368 ?_
      refine va_sld hx hb hX hbl hbA hS in2 dL_law_369 ?_
      refine w_ti e2 ?_
      refine lv_aload_n hx hb dL_law_370 rfl (lv_at hl 0 rfl) ?_
      refine lv_iload_n hx hb dL_law_371 rfl (lv_at hl 3 rfl) ?_
      refine lv_iconst (v := 3) hx hb dL_law_372 (by decide) ?_
      refine lv_iadd hx hb dL_law_373 ?_
      refine va_sld hx hb hX hbl hbA hS in3 dL_law_374 ?_
      refine w_ti e3 ?_
      refine w_pc 375 rfl ?_
      refine lx_i (rl_v (As := [.int y1, .int y2, .int y3]) (rest := []) ⟨hx, hb, hml, hown, hts⟩ (kX10_key l D ad cA (aT 289 ad) ca) ⟨callB_of 3 hts (gdc wm442) rfl rfl rfl (hts _ wm50) (hts _ wm439) hdX10_key ⟨Nat.le_of_ble_eq_true rfl, Nat.le_of_ble_eq_true rfl⟩, hts _ wm440, hts _ wm441⟩ hK hP hD1 hN (by omega) lyMMA rfl rfl hl.1 rfl (lv_room (Nat.le_of_ble_eq_true rfl)) dL_law_375 hcs) hS hi1 hP2 hd1 (fun H locs hP hP2 hS => ?_)
      refine lv_aload_n hx hb dL_law_378 rfl (lv_at hl 2 rfl) ?_
      refine lv_aload_n hx hb dL_law_379 rfl (lv_at hl 0 rfl) ?_
      refine lv_iload_n hx hb dL_law_380 rfl (lv_at hl 3 rfl) ?_
      refine lv_iconst (v := 1) hx hb dL_law_381 (by decide) ?_
      refine lv_iadd hx hb dL_law_382 ?_
      refine va_sld hx hb hX hbl hbA hS in1 dL_law_383 ?_
      refine w_ti e1 ?_
      refine lv_aload_n hx hb dL_law_384 rfl (lv_at hl 0 rfl) ?_
      refine lv_iload_n hx hb dL_law_385 rfl (lv_at hl 3 rfl) ?_
      refine lv_iconst (v := 2) hx hb dL_law_386 (by decide) ?_
      refine lv_iadd hx hb dL_law_387 ?_
      refine va_sld hx hb hX hbl hbA hS in2 dL_law_388 ?_
      refine w_ti e2 ?_
      refine lv_aload_n hx hb dL_law_389 rfl (lv_at hl 0 rfl) ?_
      refine lv_iload_n hx hb dL_law_390 rfl (lv_at hl 3 rfl) ?_
      refine lv_iconst (v := 3) hx hb dL_law_391 (by decide) ?_
      refine lv_iadd hx hb dL_law_392 ?_
      refine va_sld hx hb hX hbl hbA hS in3 dL_law_393 ?_
      refine w_ti e3 ?_
      refine w_pc 394 rfl ?_
      refine lx_i (rl_v (As := [.int y1, .int y2, .int y3]) (rest := [.int r]) ⟨hx, hb, hml, hown, hts⟩ (kX11_key l D ad2 cA (aT 40 ad2) cb) ⟨callB_of 3 hts (gdc wm925) rfl rfl rfl (hts _ wm61) (hts _ wm922) hdX11_key ⟨Nat.le_of_ble_eq_true rfl, Nat.le_of_ble_eq_true rfl⟩, hts _ wm923, hts _ wm924⟩ hK hP2 hD2 hN (by omega) lyNMM rfl rfl hl.1 rfl (lv_room (Nat.le_of_ble_eq_true rfl)) dL_law_394 hcs) hS hi2 hP hd2 (fun H locs hP2 hP hS => ?_)
      refine w_pc 397 rfl ?_
      refine lv_icmp_eq (tgt := 933) hx hb dL_law_397 (by decide) (fun _ => ?_) (fun q => absurd rfl q)
      exact go M' N' H locs ls hR hP hP2 hS hl
    by_cases q6 : (y0 &&& 31) = 6
    · refine w_ti q6.symm ?_
      refine lv_tableIn (tgt := 402) hx hb dL_law_33 (by decide) (by decide) rfl (by decide) ?_
      obtain ⟨r, M', N', ca, cb, hR⟩ := o6 k M N (by omega) hR y1 y2 y3 y4 y5
      refine lv_aload_n hx hb dL_law_402 rfl (lv_at hl 1 rfl) ?_
      refine lv_aload_n hx hb dL_law_403 rfl (lv_at hl 0 rfl) ?_
      refine lv_iload_n hx hb dL_law_404 rfl (lv_at hl 3 rfl) ?_
      refine lv_iconst (v := 1) hx hb dL_law_405 (by decide) ?_
      refine lv_iadd hx hb dL_law_406 ?_
      refine va_sld hx hb hX hbl hbA hS in1 dL_law_407 ?_
      refine w_ti e1 ?_
      refine lv_aload_n hx hb dL_law_408 rfl (lv_at hl 0 rfl) ?_
      refine lv_iload_n hx hb dL_law_409 rfl (lv_at hl 3 rfl) ?_
      refine lv_iconst (v := 2) hx hb dL_law_410 (by decide) ?_
      refine lv_iadd hx hb dL_law_411 ?_
      refine va_sld hx hb hX hbl hbA hS in2 dL_law_412 ?_
      refine w_ti e2 ?_
      refine lv_aload_n hx hb dL_law_413 rfl (lv_at hl 0 rfl) ?_
      refine lv_iload_n hx hb dL_law_414 rfl (lv_at hl 3 rfl) ?_
      refine lv_iconst (v := 3) hx hb dL_law_415 (by decide) ?_
      refine lv_iadd hx hb dL_law_416 ?_
      refine va_sld hx hb hX hbl hbA hS in3 dL_law_417 ?_
      refine w_ti e3 ?_
      refine lv_aload_n hx hb dL_law_418 rfl (lv_at hl 0 rfl) ?_
      refine lv_iload_n hx hb dL_law_419 rfl (lv_at hl 3 rfl) ?_
      refine lv_iconst (v := 4) hx hb dL_law_420 (by decide) ?_
      refine lv_iadd hx hb dL_law_421 ?_
      refine va_sld hx hb hX hbl hbA hS in4 dL_law_422 ?_
      refine w_ti e4 ?_
      refine lv_aload_n hx hb dL_law_423 rfl (lv_at hl 0 rfl) ?_
      refine lv_iload_n hx hb dL_law_424 rfl (lv_at hl 3 rfl) ?_
      refine lv_iconst (v := 5) hx hb dL_law_425 (by decide) ?_
      refine lv_iadd hx hb dL_law_426 ?_
      refine va_sld hx hb hX hbl hbA hS in5 dL_law_427 ?_
      refine w_ti e5 ?_
      refine w_pc 428 rfl ?_
      refine lx_i (rl_v (As := [.int y1, .int y2, .int y3, .int y4, .int y5]) (rest := []) ⟨hx, hb, hml, hown, hts⟩ (kX10_policy l D ad cA (aT 289 ad) ca) ⟨callB_of 5 hts (gdc wm450) rfl rfl rfl (hts _ wm50) (hts _ wm447) hdX10_policy ⟨Nat.le_of_ble_eq_true rfl, Nat.le_of_ble_eq_true rfl⟩, hts _ wm448, hts _ wm449⟩ hK hP hD1 hN (by omega) lyMMA rfl rfl hl.1 rfl (lv_room (Nat.le_of_ble_eq_true rfl)) dL_law_428 hcs) hS hi1 hP2 hd1 (fun H locs hP hP2 hS => ?_)
      refine lv_aload_n hx hb dL_law_431 rfl (lv_at hl 2 rfl) ?_
      refine lv_aload_n hx hb dL_law_432 rfl (lv_at hl 0 rfl) ?_
      refine lv_iload_n hx hb dL_law_433 rfl (lv_at hl 3 rfl) ?_
      refine lv_iconst (v := 1) hx hb dL_law_434 (by decide) ?_
      refine lv_iadd hx hb dL_law_435 ?_
      refine va_sld hx hb hX hbl hbA hS in1 dL_law_436 ?_
      refine w_ti e1 ?_
      refine lv_aload_n hx hb dL_law_437 rfl (lv_at hl 0 rfl) ?_
      refine lv_iload_n hx hb dL_law_438 rfl (lv_at hl 3 rfl) ?_
      refine lv_iconst (v := 2) hx hb dL_law_439 (by decide) ?_
      refine lv_iadd hx hb dL_law_440 ?_
      refine va_sld hx hb hX hbl hbA hS in2 dL_law_441 ?_
      refine w_ti e2 ?_
      refine lv_aload_n hx hb dL_law_442 rfl (lv_at hl 0 rfl) ?_
      refine lv_iload_n hx hb dL_law_443 rfl (lv_at hl 3 rfl) ?_
      refine lv_iconst (v := 3) hx hb dL_law_444 (by decide) ?_
      refine lv_iadd hx hb dL_law_445 ?_
      refine va_sld hx hb hX hbl hbA hS in3 dL_law_446 ?_
      refine w_ti e3 ?_
      refine lv_aload_n hx hb dL_law_447 rfl (lv_at hl 0 rfl) ?_
      refine lv_iload_n hx hb dL_law_448 rfl (lv_at hl 3 rfl) ?_
      refine lv_iconst (v := 4) hx hb dL_law_449 (by decide) ?_
      refine lv_iadd hx hb dL_law_450 ?_
      refine va_sld hx hb hX hbl hbA hS in4 dL_law_451 ?_
      refine w_ti e4 ?_
      refine lv_aload_n hx hb dL_law_452 rfl (lv_at hl 0 rfl) ?_
      refine lv_iload_n hx hb dL_law_453 rfl (lv_at hl 3 rfl) ?_
      refine lv_iconst (v := 5) hx hb dL_law_454 (by decide) ?_
      refine lv_iadd hx hb dL_law_455 ?_
      refine va_sld hx hb hX hbl hbA hS in5 dL_law_456 ?_
      refine w_ti e5 ?_
      refine w_pc 457 rfl ?_
      refine lx_i (rl_v (As := [.int y1, .int y2, .int y3, .int y4, .int y5]) (rest := [.int r]) ⟨hx, hb, hml, hown, hts⟩ (kX11_policy l D ad2 cA (aT 40 ad2) cb) ⟨callB_of 5 hts (gdc wm930) rfl rfl rfl (hts _ wm61) (hts _ wm927) hdX11_policy ⟨Nat.le_of_ble_eq_true rfl, Nat.le_of_ble_eq_true rfl⟩, hts _ wm928, hts _ wm929⟩ hK hP2 hD2 hN (by omega) lyNMM rfl rfl hl.1 rfl (lv_room (Nat.le_of_ble_eq_true rfl)) dL_law_457 hcs) hS hi2 hP hd2 (fun H locs hP2 hP hS => ?_)
      refine w_pc 460 rfl ?_
      refine lv_icmp_eq (tgt := 933) hx hb dL_law_460 (by decide) (fun _ => ?_) (fun q => absurd rfl q)
      exact go M' N' H locs ls hR hP hP2 hS hl
    by_cases q7 : (y0 &&& 31) = 7
    · refine w_ti q7.symm ?_
      refine lv_tableIn (tgt := 465) hx hb dL_law_33 (by decide) (by decide) rfl (by decide) ?_
      obtain ⟨r, M', N', ca, cb, hR⟩ := o7 k M N (by omega) hR y1 y2 y3
      refine lv_aload_n hx hb dL_law_465 rfl (lv_at hl 1 rfl) ?_
      refine lv_aload_n hx hb dL_law_466 rfl (lv_at hl 0 rfl) ?_
      refine lv_iload_n hx hb dL_law_467 rfl (lv_at hl 3 rfl) ?_
      refine lv_iconst (v := 1) hx hb dL_law_468 (by decide) ?_
      refine lv_iadd hx hb dL_law_469 ?_
      refine va_sld hx hb hX hbl hbA hS in1 dL_law_470 ?_
      refine w_ti e1 ?_
      refine lv_aload_n hx hb dL_law_471 rfl (lv_at hl 0 rfl) ?_
      refine lv_iload_n hx hb dL_law_472 rfl (lv_at hl 3 rfl) ?_
      refine lv_iconst (v := 2) hx hb dL_law_473 (by decide) ?_
      refine lv_iadd hx hb dL_law_474 ?_
      refine va_sld hx hb hX hbl hbA hS in2 dL_law_475 ?_
      refine w_ti e2 ?_
      refine lv_aload_n hx hb dL_law_476 rfl (lv_at hl 0 rfl) ?_
      refine lv_iload_n hx hb dL_law_477 rfl (lv_at hl 3 rfl) ?_
      refine lv_iconst (v := 3) hx hb dL_law_478 (by decide) ?_
      refine lv_iadd hx hb dL_law_479 ?_
      refine va_sld hx hb hX hbl hbA hS in3 dL_law_480 ?_
      refine w_ti e3 ?_
      refine w_pc 481 rfl ?_
      refine lx_i (rl_v (As := [.int y1, .int y2, .int y3]) (rest := []) ⟨hx, hb, hml, hown, hts⟩ (kX10_mail l D ad cA (aT 289 ad) ca) ⟨callB_of 3 hts (gdc wm458) rfl rfl rfl (hts _ wm50) (hts _ wm455) hdX10_mail ⟨Nat.le_of_ble_eq_true rfl, Nat.le_of_ble_eq_true rfl⟩, hts _ wm456, hts _ wm457⟩ hK hP hD1 hN (by omega) lyMMA rfl rfl hl.1 rfl (lv_room (Nat.le_of_ble_eq_true rfl)) dL_law_481 hcs) hS hi1 hP2 hd1 (fun H locs hP hP2 hS => ?_)
      refine lv_aload_n hx hb dL_law_484 rfl (lv_at hl 2 rfl) ?_
      refine lv_aload_n hx hb dL_law_485 rfl (lv_at hl 0 rfl) ?_
      refine lv_iload_n hx hb dL_law_486 rfl (lv_at hl 3 rfl) ?_
      refine lv_iconst (v := 1) hx hb dL_law_487 (by decide) ?_
      refine lv_iadd hx hb dL_law_488 ?_
      refine va_sld hx hb hX hbl hbA hS in1 dL_law_489 ?_
      refine w_ti e1 ?_
      refine lv_aload_n hx hb dL_law_490 rfl (lv_at hl 0 rfl) ?_
      refine lv_iload_n hx hb dL_law_491 rfl (lv_at hl 3 rfl) ?_
      refine lv_iconst (v := 2) hx hb dL_law_492 (by decide) ?_
      refine lv_iadd hx hb dL_law_493 ?_
      refine va_sld hx hb hX hbl hbA hS in2 dL_law_494 ?_
      refine w_ti e2 ?_
      refine lv_aload_n hx hb dL_law_495 rfl (lv_at hl 0 rfl) ?_
      refine lv_iload_n hx hb dL_law_496 rfl (lv_at hl 3 rfl) ?_
      refine lv_iconst (v := 3) hx hb dL_law_497 (by decide) ?_
      refine lv_iadd hx hb dL_law_498 ?_
      refine va_sld hx hb hX hbl hbA hS in3 dL_law_499 ?_
      refine w_ti e3 ?_
      refine w_pc 500 rfl ?_
      refine lx_i (rl_v (As := [.int y1, .int y2, .int y3]) (rest := [.int r]) ⟨hx, hb, hml, hown, hts⟩ (kX11_mail l D ad2 cA (aT 40 ad2) cb) ⟨callB_of 3 hts (gdc wm986) rfl rfl rfl (hts _ wm61) (hts _ wm983) hdX11_mail ⟨Nat.le_of_ble_eq_true rfl, Nat.le_of_ble_eq_true rfl⟩, hts _ wm984, hts _ wm985⟩ hK hP2 hD2 hN (by omega) lyNMM rfl rfl hl.1 rfl (lv_room (Nat.le_of_ble_eq_true rfl)) dL_law_500 hcs) hS hi2 hP hd2 (fun H locs hP2 hP hS => ?_)
      refine w_pc 503 rfl ?_
      refine lv_icmp_eq (tgt := 933) hx hb dL_law_503 (by decide) (fun _ => ?_) (fun q => absurd rfl q)
      exact go M' N' H locs ls hR hP hP2 hS hl
    by_cases q8 : (y0 &&& 31) = 8
    · refine w_ti q8.symm ?_
      refine lv_tableIn (tgt := 508) hx hb dL_law_33 (by decide) (by decide) rfl (by decide) ?_
      obtain ⟨r, M', N', ca, cb, hR⟩ := o8 k M N (by omega) hR y1
      refine lv_aload_n hx hb dL_law_508 rfl (lv_at hl 1 rfl) ?_
      refine lv_aload_n hx hb dL_law_509 rfl (lv_at hl 0 rfl) ?_
      refine lv_iload_n hx hb dL_law_510 rfl (lv_at hl 3 rfl) ?_
      refine lv_iconst (v := 1) hx hb dL_law_511 (by decide) ?_
      refine lv_iadd hx hb dL_law_512 ?_
      refine va_sld hx hb hX hbl hbA hS in1 dL_law_513 ?_
      refine w_ti e1 ?_
      refine w_pc 514 rfl ?_
      refine lx_i (rl_v (As := [.int y1]) (rest := []) ⟨hx, hb, hml, hown, hts⟩ (kX10_header l D ad cA (aT 289 ad) ca) ⟨callB_of 1 hts (gdc wm466) rfl rfl rfl (hts _ wm50) (hts _ wm463) hdX10_header ⟨Nat.le_of_ble_eq_true rfl, Nat.le_of_ble_eq_true rfl⟩, hts _ wm464, hts _ wm465⟩ hK hP hD1 hN (by omega) lyMMA rfl rfl hl.1 rfl (lv_room (Nat.le_of_ble_eq_true rfl)) dL_law_514 hcs) hS hi1 hP2 hd1 (fun H locs hP hP2 hS => ?_)
      refine lv_aload_n hx hb dL_law_517 rfl (lv_at hl 2 rfl) ?_
      refine lv_aload_n hx hb dL_law_518 rfl (lv_at hl 0 rfl) ?_
      refine lv_iload_n hx hb dL_law_519 rfl (lv_at hl 3 rfl) ?_
      refine lv_iconst (v := 1) hx hb dL_law_520 (by decide) ?_
      refine lv_iadd hx hb dL_law_521 ?_
      refine va_sld hx hb hX hbl hbA hS in1 dL_law_522 ?_
      refine w_ti e1 ?_
      refine w_pc 523 rfl ?_
      refine lx_i (rl_v (As := [.int y1]) (rest := [.int r]) ⟨hx, hb, hml, hown, hts⟩ (kX11_header l D ad2 cA (aT 40 ad2) cb) ⟨callB_of 1 hts (gdc wm990) rfl rfl rfl (hts _ wm61) (hts _ wm987) hdX11_header ⟨Nat.le_of_ble_eq_true rfl, Nat.le_of_ble_eq_true rfl⟩, hts _ wm988, hts _ wm989⟩ hK hP2 hD2 hN (by omega) lyNMM rfl rfl hl.1 rfl (lv_room (Nat.le_of_ble_eq_true rfl)) dL_law_523 hcs) hS hi2 hP hd2 (fun H locs hP2 hP hS => ?_)
      refine w_pc 526 rfl ?_
      refine lv_icmp_eq (tgt := 933) hx hb dL_law_526 (by decide) (fun _ => ?_) (fun q => absurd rfl q)
      exact go M' N' H locs ls hR hP hP2 hS hl
    by_cases q9 : (y0 &&& 31) = 9
    · refine w_ti q9.symm ?_
      refine lv_tableIn (tgt := 531) hx hb dL_law_33 (by decide) (by decide) rfl (by decide) ?_
      obtain ⟨r, M', N', ca, cb, hR⟩ := o9 k M N (by omega) hR y1 (jn y2 y3) y4
      refine lv_aload_n hx hb dL_law_531 rfl (lv_at hl 1 rfl) ?_
      refine lv_aload_n hx hb dL_law_532 rfl (lv_at hl 0 rfl) ?_
      refine lv_iload_n hx hb dL_law_533 rfl (lv_at hl 3 rfl) ?_
      refine lv_iconst (v := 1) hx hb dL_law_534 (by decide) ?_
      refine lv_iadd hx hb dL_law_535 ?_
      refine va_sld hx hb hX hbl hbA hS in1 dL_law_536 ?_
      refine w_ti e1 ?_
      refine lv_aload_n hx hb dL_law_537 rfl (lv_at hl 0 rfl) ?_
      refine lv_iload_n hx hb dL_law_538 rfl (lv_at hl 3 rfl) ?_
      refine lv_iconst (v := 2) hx hb dL_law_539 (by decide) ?_
      refine lv_iadd hx hb dL_law_540 ?_
      refine va_sld hx hb hX hbl hbA hS in2 dL_law_541 ?_
      refine w_ti e2 ?_
      refine lv_i2l (v := y2.toInt64) hx hb dL_law_542 rfl ?_
      refine lv_bipush (v := 32) hx hb dL_law_543 (by decide) ?_
      refine lv_lshl (v := shl64 y2.toInt64 32) hx hb dL_law_545 rfl ?_
      refine lv_aload_n hx hb dL_law_546 rfl (lv_at hl 0 rfl) ?_
      refine lv_iload_n hx hb dL_law_547 rfl (lv_at hl 3 rfl) ?_
      refine lv_iconst (v := 3) hx hb dL_law_548 (by decide) ?_
      refine lv_iadd hx hb dL_law_549 ?_
      refine va_sld hx hb hX hbl hbA hS in3 dL_law_550 ?_
      refine w_ti e3 ?_
      refine lv_i2l (v := y3.toInt64) hx hb dL_law_551 rfl ?_
      refine lv_ldc2 (v := 4294967295) hx hb hown (hts _ wm1097) dL_law_552 ?_
      refine lv_land hx hb dL_law_555 ?_
      refine lv_lor hx hb dL_law_556 ?_
      refine w_tl (y := jn y2 y3) rfl ?_
      refine lv_aload_n hx hb dL_law_557 rfl (lv_at hl 0 rfl) ?_
      refine lv_iload_n hx hb dL_law_558 rfl (lv_at hl 3 rfl) ?_
      refine lv_iconst (v := 4) hx hb dL_law_559 (by decide) ?_
      refine lv_iadd hx hb dL_law_560 ?_
      refine va_sld hx hb hX hbl hbA hS in4 dL_law_561 ?_
      refine w_ti e4 ?_
      refine w_pc 562 rfl ?_
      refine lx_i (rl_v (As := [.int y1, .long (jn y2 y3), .int y4]) (rest := []) ⟨hx, hb, hml, hown, hts⟩ (kX10_type l D ad cA (aT 289 ad) ca) ⟨callB_of 3 hts (gdc wm474) rfl rfl rfl (hts _ wm50) (hts _ wm471) hdX10_type ⟨Nat.le_of_ble_eq_true rfl, Nat.le_of_ble_eq_true rfl⟩, hts _ wm472, hts _ wm473⟩ hK hP hD1 hN (by omega) lyMMA rfl rfl hl.1 rfl (lv_room (Nat.le_of_ble_eq_true rfl)) dL_law_562 hcs) hS hi1 hP2 hd1 (fun H locs hP hP2 hS => ?_)
      refine lv_aload_n hx hb dL_law_565 rfl (lv_at hl 2 rfl) ?_
      refine lv_aload_n hx hb dL_law_566 rfl (lv_at hl 0 rfl) ?_
      refine lv_iload_n hx hb dL_law_567 rfl (lv_at hl 3 rfl) ?_
      refine lv_iconst (v := 1) hx hb dL_law_568 (by decide) ?_
      refine lv_iadd hx hb dL_law_569 ?_
      refine va_sld hx hb hX hbl hbA hS in1 dL_law_570 ?_
      refine w_ti e1 ?_
      refine lv_aload_n hx hb dL_law_571 rfl (lv_at hl 0 rfl) ?_
      refine lv_iload_n hx hb dL_law_572 rfl (lv_at hl 3 rfl) ?_
      refine lv_iconst (v := 2) hx hb dL_law_573 (by decide) ?_
      refine lv_iadd hx hb dL_law_574 ?_
      refine va_sld hx hb hX hbl hbA hS in2 dL_law_575 ?_
      refine w_ti e2 ?_
      refine lv_i2l (v := y2.toInt64) hx hb dL_law_576 rfl ?_
      refine lv_bipush (v := 32) hx hb dL_law_577 (by decide) ?_
      refine lv_lshl (v := shl64 y2.toInt64 32) hx hb dL_law_579 rfl ?_
      refine lv_aload_n hx hb dL_law_580 rfl (lv_at hl 0 rfl) ?_
      refine lv_iload_n hx hb dL_law_581 rfl (lv_at hl 3 rfl) ?_
      refine lv_iconst (v := 3) hx hb dL_law_582 (by decide) ?_
      refine lv_iadd hx hb dL_law_583 ?_
      refine va_sld hx hb hX hbl hbA hS in3 dL_law_584 ?_
      refine w_ti e3 ?_
      refine lv_i2l (v := y3.toInt64) hx hb dL_law_585 rfl ?_
      refine lv_ldc2 (v := 4294967295) hx hb hown (hts _ wm1097) dL_law_586 ?_
      refine lv_land hx hb dL_law_589 ?_
      refine lv_lor hx hb dL_law_590 ?_
      refine w_tl (y := jn y2 y3) rfl ?_
      refine lv_aload_n hx hb dL_law_591 rfl (lv_at hl 0 rfl) ?_
      refine lv_iload_n hx hb dL_law_592 rfl (lv_at hl 3 rfl) ?_
      refine lv_iconst (v := 4) hx hb dL_law_593 (by decide) ?_
      refine lv_iadd hx hb dL_law_594 ?_
      refine va_sld hx hb hX hbl hbA hS in4 dL_law_595 ?_
      refine w_ti e4 ?_
      refine w_pc 596 rfl ?_
      refine lx_i (rl_v (As := [.int y1, .long (jn y2 y3), .int y4]) (rest := [.int r]) ⟨hx, hb, hml, hown, hts⟩ (kX11_type l D ad2 cA (aT 40 ad2) cb) ⟨callB_of 3 hts (gdc wm994) rfl rfl rfl (hts _ wm61) (hts _ wm991) hdX11_type ⟨Nat.le_of_ble_eq_true rfl, Nat.le_of_ble_eq_true rfl⟩, hts _ wm992, hts _ wm993⟩ hK hP2 hD2 hN (by omega) lyNMM rfl rfl hl.1 rfl (lv_room (Nat.le_of_ble_eq_true rfl)) dL_law_596 hcs) hS hi2 hP hd2 (fun H locs hP2 hP hS => ?_)
      refine w_pc 599 rfl ?_
      refine lv_icmp_eq (tgt := 933) hx hb dL_law_599 (by decide) (fun _ => ?_) (fun q => absurd rfl q)
      exact go M' N' H locs ls hR hP hP2 hS hl
    by_cases q10 : (y0 &&& 31) = 10
    · refine w_ti q10.symm ?_
      refine lv_tableIn (tgt := 604) hx hb dL_law_33 (by decide) (by decide) rfl (by decide) ?_
      obtain ⟨r, M', N', ca, cb, hR⟩ := o10 k M N (by omega) hR y1 (bz y2) (bz_B y2)
      refine lv_aload_n hx hb dL_law_604 rfl (lv_at hl 1 rfl) ?_
      refine lv_aload_n hx hb dL_law_605 rfl (lv_at hl 0 rfl) ?_
      refine lv_iload_n hx hb dL_law_606 rfl (lv_at hl 3 rfl) ?_
      refine lv_iconst (v := 1) hx hb dL_law_607 (by decide) ?_
      refine lv_iadd hx hb dL_law_608 ?_
      refine va_sld hx hb hX hbl hbA hS in1 dL_law_609 ?_
      refine w_ti e1 ?_
      refine lv_aload_n hx hb dL_law_610 rfl (lv_at hl 0 rfl) ?_
      refine lv_iload_n hx hb dL_law_611 rfl (lv_at hl 3 rfl) ?_
      refine lv_iconst (v := 2) hx hb dL_law_612 (by decide) ?_
      refine lv_iadd hx hb dL_law_613 ?_
      refine va_sld hx hb hX hbl hbA hS in2 dL_law_614 ?_
      refine w_ti e2 ?_
      refine w_pc 615 rfl ?_
      refine law_bool hx hb dL_law_615 dL_law_618 dL_law_619 dL_law_622 ?_
      refine w_pc 623 rfl ?_
      refine w_pc 623 rfl ?_
      refine lx_i (rl_v (As := [.int y1, .int (bz y2)]) (rest := []) ⟨hx, hb, hml, hown, hts⟩ (kX10_length l D ad cA (aT 289 ad) ca) ⟨callB_of 2 hts (gdc wm498) rfl rfl rfl (hts _ wm50) (hts _ wm495) hdX10_length ⟨Nat.le_of_ble_eq_true rfl, Nat.le_of_ble_eq_true rfl⟩, hts _ wm496, hts _ wm497⟩ hK hP hD1 hN (by omega) lyMMA rfl rfl hl.1 rfl (lv_room (Nat.le_of_ble_eq_true rfl)) dL_law_623 hcs) hS hi1 hP2 hd1 (fun H locs hP hP2 hS => ?_)
      refine lv_aload_n hx hb dL_law_626 rfl (lv_at hl 2 rfl) ?_
      refine lv_aload_n hx hb dL_law_627 rfl (lv_at hl 0 rfl) ?_
      refine lv_iload_n hx hb dL_law_628 rfl (lv_at hl 3 rfl) ?_
      refine lv_iconst (v := 1) hx hb dL_law_629 (by decide) ?_
      refine lv_iadd hx hb dL_law_630 ?_
      refine va_sld hx hb hX hbl hbA hS in1 dL_law_631 ?_
      refine w_ti e1 ?_
      refine lv_aload_n hx hb dL_law_632 rfl (lv_at hl 0 rfl) ?_
      refine lv_iload_n hx hb dL_law_633 rfl (lv_at hl 3 rfl) ?_
      refine lv_iconst (v := 2) hx hb dL_law_634 (by decide) ?_
      refine lv_iadd hx hb dL_law_635 ?_
      refine va_sld hx hb hX hbl hbA hS in2 dL_law_636 ?_
      refine w_ti e2 ?_
      refine w_pc 637 rfl ?_
      refine law_bool hx hb dL_law_637 dL_law_640 dL_law_641 dL_law_644 ?_
      refine w_pc 645 rfl ?_
      refine w_pc 645 rfl ?_
      refine lx_i (rl_v (As := [.int y1, .int (bz y2)]) (rest := [.int r]) ⟨hx, hb, hml, hown, hts⟩ (kX11_length l D ad2 cA (aT 40 ad2) cb) ⟨callB_of 2 hts (gdc wm1003) rfl rfl rfl (hts _ wm61) (hts _ wm1000) hdX11_length ⟨Nat.le_of_ble_eq_true rfl, Nat.le_of_ble_eq_true rfl⟩, hts _ wm1001, hts _ wm1002⟩ hK hP2 hD2 hN (by omega) lyNMM rfl rfl hl.1 rfl (lv_room (Nat.le_of_ble_eq_true rfl)) dL_law_645 hcs) hS hi2 hP hd2 (fun H locs hP2 hP hS => ?_)
      refine w_pc 648 rfl ?_
      refine lv_icmp_eq (tgt := 933) hx hb dL_law_648 (by decide) (fun _ => ?_) (fun q => absurd rfl q)
      exact go M' N' H locs ls hR hP hP2 hS hl
    by_cases q11 : (y0 &&& 31) = 11
    · refine w_ti q11.symm ?_
      refine lv_tableIn (tgt := 653) hx hb dL_law_33 (by decide) (by decide) rfl (by decide) ?_
      obtain ⟨r, M', N', ca, cb, hR⟩ := o11 k M N (by omega) hR y1 y2 y3 y4 y5
      refine lv_aload_n hx hb dL_law_653 rfl (lv_at hl 1 rfl) ?_
      refine lv_aload_n hx hb dL_law_654 rfl (lv_at hl 0 rfl) ?_
      refine lv_iload_n hx hb dL_law_655 rfl (lv_at hl 3 rfl) ?_
      refine lv_iconst (v := 1) hx hb dL_law_656 (by decide) ?_
      refine lv_iadd hx hb dL_law_657 ?_
      refine va_sld hx hb hX hbl hbA hS in1 dL_law_658 ?_
      refine w_ti e1 ?_
      refine lv_aload_n hx hb dL_law_659 rfl (lv_at hl 0 rfl) ?_
      refine lv_iload_n hx hb dL_law_660 rfl (lv_at hl 3 rfl) ?_
      refine lv_iconst (v := 2) hx hb dL_law_661 (by decide) ?_
      refine lv_iadd hx hb dL_law_662 ?_
      refine va_sld hx hb hX hbl hbA hS in2 dL_law_663 ?_
      refine w_ti e2 ?_
      refine lv_aload_n hx hb dL_law_664 rfl (lv_at hl 0 rfl) ?_
      refine lv_iload_n hx hb dL_law_665 rfl (lv_at hl 3 rfl) ?_
      refine lv_iconst (v := 3) hx hb dL_law_666 (by decide) ?_
      refine lv_iadd hx hb dL_law_667 ?_
      refine va_sld hx hb hX hbl hbA hS in3 dL_law_668 ?_
      refine w_ti e3 ?_
      refine lv_aload_n hx hb dL_law_669 rfl (lv_at hl 0 rfl) ?_
      refine lv_iload_n hx hb dL_law_670 rfl (lv_at hl 3 rfl) ?_
      refine lv_iconst (v := 4) hx hb dL_law_671 (by decide) ?_
      refine lv_iadd hx hb dL_law_672 ?_
      refine va_sld hx hb hX hbl hbA hS in4 dL_law_673 ?_
      refine w_ti e4 ?_
      refine lv_aload_n hx hb dL_law_674 rfl (lv_at hl 0 rfl) ?_
      refine lv_iload_n hx hb dL_law_675 rfl (lv_at hl 3 rfl) ?_
      refine lv_iconst (v := 5) hx hb dL_law_676 (by decide) ?_
      refine lv_iadd hx hb dL_law_677 ?_
      refine va_sld hx hb hX hbl hbA hS in5 dL_law_678 ?_
      refine w_ti e5 ?_
      refine w_pc 679 rfl ?_
      refine lx_i (rl_v (As := [.int y1, .int y2, .int y3, .int y4, .int y5]) (rest := []) ⟨hx, hb, hml, hown, hts⟩ (kX10_sign l D ad cA (aT 289 ad) ca) ⟨callB_of 5 hts (gdc wm525) rfl rfl rfl (hts _ wm50) (hts _ wm522) hdX10_sign ⟨Nat.le_of_ble_eq_true rfl, Nat.le_of_ble_eq_true rfl⟩, hts _ wm523, hts _ wm524⟩ hK hP hD1 hN (by omega) lyMMA rfl rfl hl.1 rfl (lv_room (Nat.le_of_ble_eq_true rfl)) dL_law_679 hcs) hS hi1 hP2 hd1 (fun H locs hP hP2 hS => ?_)
      refine lv_aload_n hx hb dL_law_682 rfl (lv_at hl 2 rfl) ?_
      refine lv_aload_n hx hb dL_law_683 rfl (lv_at hl 0 rfl) ?_
      refine lv_iload_n hx hb dL_law_684 rfl (lv_at hl 3 rfl) ?_
      refine lv_iconst (v := 1) hx hb dL_law_685 (by decide) ?_
      refine lv_iadd hx hb dL_law_686 ?_
      refine va_sld hx hb hX hbl hbA hS in1 dL_law_687 ?_
      refine w_ti e1 ?_
      refine lv_aload_n hx hb dL_law_688 rfl (lv_at hl 0 rfl) ?_
      refine lv_iload_n hx hb dL_law_689 rfl (lv_at hl 3 rfl) ?_
      refine lv_iconst (v := 2) hx hb dL_law_690 (by decide) ?_
      refine lv_iadd hx hb dL_law_691 ?_
      refine va_sld hx hb hX hbl hbA hS in2 dL_law_692 ?_
      refine w_ti e2 ?_
      refine lv_aload_n hx hb dL_law_693 rfl (lv_at hl 0 rfl) ?_
      refine lv_iload_n hx hb dL_law_694 rfl (lv_at hl 3 rfl) ?_
      refine lv_iconst (v := 3) hx hb dL_law_695 (by decide) ?_
      refine lv_iadd hx hb dL_law_696 ?_
      refine va_sld hx hb hX hbl hbA hS in3 dL_law_697 ?_
      refine w_ti e3 ?_
      refine lv_aload_n hx hb dL_law_698 rfl (lv_at hl 0 rfl) ?_
      refine lv_iload_n hx hb dL_law_699 rfl (lv_at hl 3 rfl) ?_
      refine lv_iconst (v := 4) hx hb dL_law_700 (by decide) ?_
      refine lv_iadd hx hb dL_law_701 ?_
      refine va_sld hx hb hX hbl hbA hS in4 dL_law_702 ?_
      refine w_ti e4 ?_
      refine lv_aload_n hx hb dL_law_703 rfl (lv_at hl 0 rfl) ?_
      refine lv_iload_n hx hb dL_law_704 rfl (lv_at hl 3 rfl) ?_
      refine lv_iconst (v := 5) hx hb dL_law_705 (by decide) ?_
      refine lv_iadd hx hb dL_law_706 ?_
      refine va_sld hx hb hX hbl hbA hS in5 dL_law_707 ?_
      refine w_ti e5 ?_
      refine w_pc 708 rfl ?_
      refine lx_i (rl_v (As := [.int y1, .int y2, .int y3, .int y4, .int y5]) (rest := [.int r]) ⟨hx, hb, hml, hown, hts⟩ (kX11_sign l D ad2 cA (aT 40 ad2) cb) ⟨callB_of 5 hts (gdc wm1022) rfl rfl rfl (hts _ wm61) (hts _ wm1019) hdX11_sign ⟨Nat.le_of_ble_eq_true rfl, Nat.le_of_ble_eq_true rfl⟩, hts _ wm1020, hts _ wm1021⟩ hK hP2 hD2 hN (by omega) lyNMM rfl rfl hl.1 rfl (lv_room (Nat.le_of_ble_eq_true rfl)) dL_law_708 hcs) hS hi2 hP hd2 (fun H locs hP2 hP hS => ?_)
      refine w_pc 711 rfl ?_
      refine lv_icmp_eq (tgt := 933) hx hb dL_law_711 (by decide) (fun _ => ?_) (fun q => absurd rfl q)
      exact go M' N' H locs ls hR hP hP2 hS hl
    by_cases q12 : (y0 &&& 31) = 12
    · refine w_ti q12.symm ?_
      refine lv_tableIn (tgt := 716) hx hb dL_law_33 (by decide) (by decide) rfl (by decide) ?_
      obtain ⟨r, M', N', ca, cb, hR⟩ := o12 k M N (by omega) hR y1 y2
      refine lv_aload_n hx hb dL_law_716 rfl (lv_at hl 1 rfl) ?_
      refine lv_aload_n hx hb dL_law_717 rfl (lv_at hl 0 rfl) ?_
      refine lv_iload_n hx hb dL_law_718 rfl (lv_at hl 3 rfl) ?_
      refine lv_iconst (v := 1) hx hb dL_law_719 (by decide) ?_
      refine lv_iadd hx hb dL_law_720 ?_
      refine va_sld hx hb hX hbl hbA hS in1 dL_law_721 ?_
      refine w_ti e1 ?_
      refine lv_aload_n hx hb dL_law_722 rfl (lv_at hl 0 rfl) ?_
      refine lv_iload_n hx hb dL_law_723 rfl (lv_at hl 3 rfl) ?_
      refine lv_iconst (v := 2) hx hb dL_law_724 (by decide) ?_
      refine lv_iadd hx hb dL_law_725 ?_
      refine va_sld hx hb hX hbl hbA hS in2 dL_law_726 ?_
      refine w_ti e2 ?_
      refine w_pc 727 rfl ?_
      refine lx_i (rl_v (As := [.int y1, .int y2]) (rest := []) ⟨hx, hb, hml, hown, hts⟩ (kX10_spoil l D ad cA (aT 289 ad) ca) ⟨callB_of 2 hts (gdc wm579) rfl rfl rfl (hts _ wm50) (hts _ wm576) hdX10_spoil ⟨Nat.le_of_ble_eq_true rfl, Nat.le_of_ble_eq_true rfl⟩, hts _ wm577, hts _ wm578⟩ hK hP hD1 hN (by omega) lyMMA rfl rfl hl.1 rfl (lv_room (Nat.le_of_ble_eq_true rfl)) dL_law_727 hcs) hS hi1 hP2 hd1 (fun H locs hP hP2 hS => ?_)
      refine lv_aload_n hx hb dL_law_730 rfl (lv_at hl 2 rfl) ?_
      refine lv_aload_n hx hb dL_law_731 rfl (lv_at hl 0 rfl) ?_
      refine lv_iload_n hx hb dL_law_732 rfl (lv_at hl 3 rfl) ?_
      refine lv_iconst (v := 1) hx hb dL_law_733 (by decide) ?_
      refine lv_iadd hx hb dL_law_734 ?_
      refine va_sld hx hb hX hbl hbA hS in1 dL_law_735 ?_
      refine w_ti e1 ?_
      refine lv_aload_n hx hb dL_law_736 rfl (lv_at hl 0 rfl) ?_
      refine lv_iload_n hx hb dL_law_737 rfl (lv_at hl 3 rfl) ?_
      refine lv_iconst (v := 2) hx hb dL_law_738 (by decide) ?_
      refine lv_iadd hx hb dL_law_739 ?_
      refine va_sld hx hb hX hbl hbA hS in2 dL_law_740 ?_
      refine w_ti e2 ?_
      refine w_pc 741 rfl ?_
      refine lx_i (rl_v (As := [.int y1, .int y2]) (rest := [.int r]) ⟨hx, hb, hml, hown, hts⟩ (kX11_spoil l D ad2 cA (aT 40 ad2) cb) ⟨callB_of 2 hts (gdc wm1052) rfl rfl rfl (hts _ wm61) (hts _ wm1049) hdX11_spoil ⟨Nat.le_of_ble_eq_true rfl, Nat.le_of_ble_eq_true rfl⟩, hts _ wm1050, hts _ wm1051⟩ hK hP2 hD2 hN (by omega) lyNMM rfl rfl hl.1 rfl (lv_room (Nat.le_of_ble_eq_true rfl)) dL_law_741 hcs) hS hi2 hP hd2 (fun H locs hP2 hP hS => ?_)
      refine w_pc 744 rfl ?_
      refine lv_icmp_eq (tgt := 933) hx hb dL_law_744 (by decide) (fun _ => ?_) (fun q => absurd rfl q)
      exact go M' N' H locs ls hR hP hP2 hS hl
    by_cases q13 : (y0 &&& 31) = 13
    · refine w_ti q13.symm ?_
      refine lv_tableIn (tgt := 749) hx hb dL_law_33 (by decide) (by decide) rfl (by decide) ?_
      obtain ⟨r, M', N', ca, cb, hR⟩ := o13 k M N (by omega) hR y1
      refine lv_aload_n hx hb dL_law_749 rfl (lv_at hl 1 rfl) ?_
      refine lv_aload_n hx hb dL_law_750 rfl (lv_at hl 0 rfl) ?_
      refine lv_iload_n hx hb dL_law_751 rfl (lv_at hl 3 rfl) ?_
      refine lv_iconst (v := 1) hx hb dL_law_752 (by decide) ?_
      refine lv_iadd hx hb dL_law_753 ?_
      refine va_sld hx hb hX hbl hbA hS in1 dL_law_754 ?_
      refine w_ti e1 ?_
      refine w_pc 755 rfl ?_
      refine lx_i (rl_v (As := [.int y1]) (rest := []) ⟨hx, hb, hml, hown, hts⟩ (kX10_signature l D ad cA (aT 289 ad) ca) ⟨callB_of 1 hts (gdc wm587) rfl rfl rfl (hts _ wm50) (hts _ wm584) hdX10_signature ⟨Nat.le_of_ble_eq_true rfl, Nat.le_of_ble_eq_true rfl⟩, hts _ wm585, hts _ wm586⟩ hK hP hD1 hN (by omega) lyMMA rfl rfl hl.1 rfl (lv_room (Nat.le_of_ble_eq_true rfl)) dL_law_755 hcs) hS hi1 hP2 hd1 (fun H locs hP hP2 hS => ?_)
      refine lv_aload_n hx hb dL_law_758 rfl (lv_at hl 2 rfl) ?_
      refine lv_aload_n hx hb dL_law_759 rfl (lv_at hl 0 rfl) ?_
      refine lv_iload_n hx hb dL_law_760 rfl (lv_at hl 3 rfl) ?_
      refine lv_iconst (v := 1) hx hb dL_law_761 (by decide) ?_
      refine lv_iadd hx hb dL_law_762 ?_
      refine va_sld hx hb hX hbl hbA hS in1 dL_law_763 ?_
      refine w_ti e1 ?_
      refine w_pc 764 rfl ?_
      refine lx_i (rl_v (As := [.int y1]) (rest := [.int r]) ⟨hx, hb, hml, hown, hts⟩ (kX11_signature l D ad2 cA (aT 40 ad2) cb) ⟨callB_of 1 hts (gdc wm1056) rfl rfl rfl (hts _ wm61) (hts _ wm1053) hdX11_signature ⟨Nat.le_of_ble_eq_true rfl, Nat.le_of_ble_eq_true rfl⟩, hts _ wm1054, hts _ wm1055⟩ hK hP2 hD2 hN (by omega) lyNMM rfl rfl hl.1 rfl (lv_room (Nat.le_of_ble_eq_true rfl)) dL_law_764 hcs) hS hi2 hP hd2 (fun H locs hP2 hP hS => ?_)
      refine w_pc 767 rfl ?_
      refine lv_icmp_eq (tgt := 933) hx hb dL_law_767 (by decide) (fun _ => ?_) (fun q => absurd rfl q)
      exact go M' N' H locs ls hR hP hP2 hS hl
    by_cases q14 : (y0 &&& 31) = 14
    · refine w_ti q14.symm ?_
      refine lv_tableIn (tgt := 772) hx hb dL_law_33 (by decide) (by decide) rfl (by decide) ?_
      obtain ⟨r, M', N', ca, cb, hR⟩ := o14 k M N (by omega) hR
      refine lv_aload_n hx hb dL_law_772 rfl (lv_at hl 1 rfl) ?_
      refine w_pc 773 rfl ?_
      refine lx_i (rl_v (As := []) (rest := []) ⟨hx, hb, hml, hown, hts⟩ (kX10_sender l D ad cA (aT 289 ad) ca) ⟨callB_of 0 hts (gdc wm598) rfl rfl rfl (hts _ wm50) (hts _ wm595) hdX10_sender ⟨Nat.le_of_ble_eq_true rfl, Nat.le_of_ble_eq_true rfl⟩, hts _ wm596, hts _ wm597⟩ hK hP hD1 hN (by omega) lyMMA rfl rfl hl.1 rfl (lv_room (Nat.le_of_ble_eq_true rfl)) dL_law_773 hcs) hS hi1 hP2 hd1 (fun H locs hP hP2 hS => ?_)
      refine lv_aload_n hx hb dL_law_776 rfl (lv_at hl 2 rfl) ?_
      refine w_pc 777 rfl ?_
      refine lx_i (rl_v (As := []) (rest := [.int r]) ⟨hx, hb, hml, hown, hts⟩ (kX11_sender l D ad2 cA (aT 40 ad2) cb) ⟨callB_of 0 hts (gdc wm934) rfl rfl rfl (hts _ wm61) (hts _ wm931) hdX11_sender ⟨Nat.le_of_ble_eq_true rfl, Nat.le_of_ble_eq_true rfl⟩, hts _ wm932, hts _ wm933⟩ hK hP2 hD2 hN (by omega) lyNMM rfl rfl hl.1 rfl (lv_room (Nat.le_of_ble_eq_true rfl)) dL_law_777 hcs) hS hi2 hP hd2 (fun H locs hP2 hP hS => ?_)
      refine w_pc 780 rfl ?_
      refine lv_icmp_eq (tgt := 933) hx hb dL_law_780 (by decide) (fun _ => ?_) (fun q => absurd rfl q)
      exact go M' N' H locs ls hR hP hP2 hS hl
    by_cases q15 : (y0 &&& 31) = 15
    · refine w_ti q15.symm ?_
      refine lv_tableIn (tgt := 785) hx hb dL_law_33 (by decide) (by decide) rfl (by decide) ?_
      obtain ⟨r, ca, cb, hR⟩ := o15 k M N (by omega) hR y1
      refine lv_aload_n hx hb dL_law_785 rfl (lv_at hl 1 rfl) ?_
      refine lv_aload_n hx hb dL_law_786 rfl (lv_at hl 0 rfl) ?_
      refine lv_iload_n hx hb dL_law_787 rfl (lv_at hl 3 rfl) ?_
      refine lv_iconst (v := 1) hx hb dL_law_788 (by decide) ?_
      refine lv_iadd hx hb dL_law_789 ?_
      refine va_sld hx hb hX hbl hbA hS in1 dL_law_790 ?_
      refine w_ti e1 ?_
      refine w_pc 791 rfl ?_
      refine lx_i (rl_v (As := [.int y1]) (rest := []) ⟨hx, hb, hml, hown, hts⟩ (kX10_counted l D ad cA (aT 289 ad) ca) ⟨callB_of 1 hts (gdc wm645) rfl rfl rfl (hts _ wm50) (hts _ wm642) hdX10_counted ⟨Nat.le_of_ble_eq_true rfl, Nat.le_of_ble_eq_true rfl⟩, hts _ wm643, hts _ wm644⟩ hK hP hD1 hN (by omega) lyMMA rfl rfl hl.1 rfl (lv_room (Nat.le_of_ble_eq_true rfl)) dL_law_791 hcs) hS hi1 hP2 hd1 (fun H locs hP hP2 hS => ?_)
      refine lv_aload_n hx hb dL_law_794 rfl (lv_at hl 2 rfl) ?_
      refine lv_aload_n hx hb dL_law_795 rfl (lv_at hl 0 rfl) ?_
      refine lv_iload_n hx hb dL_law_796 rfl (lv_at hl 3 rfl) ?_
      refine lv_iconst (v := 1) hx hb dL_law_797 (by decide) ?_
      refine lv_iadd hx hb dL_law_798 ?_
      refine va_sld hx hb hX hbl hbA hS in1 dL_law_799 ?_
      refine w_ti e1 ?_
      refine w_pc 800 rfl ?_
      refine lx_i (rl_v (As := [.int y1]) (rest := [.int r]) ⟨hx, hb, hml, hown, hts⟩ (kX11_counted l D ad2 cA (aT 40 ad2) cb) ⟨callB_of 1 hts (gdc wm982) rfl rfl rfl (hts _ wm61) (hts _ wm979) hdX11_counted ⟨Nat.le_of_ble_eq_true rfl, Nat.le_of_ble_eq_true rfl⟩, hts _ wm980, hts _ wm981⟩ hK hP2 hD2 hN (by omega) lyNMM rfl rfl hl.1 rfl (lv_room (Nat.le_of_ble_eq_true rfl)) dL_law_800 hcs) hS hi2 hP hd2 (fun H locs hP2 hP hS => ?_)
      refine w_pc 803 rfl ?_
      refine lv_icmp_eq (tgt := 933) hx hb dL_law_803 (by decide) (fun _ => ?_) (fun q => absurd rfl q)
      exact go M N H locs ls hR hP hP2 hS hl
    by_cases q16 : (y0 &&& 31) = 16
    · refine w_ti q16.symm ?_
      refine lv_tableIn (tgt := 808) hx hb dL_law_33 (by decide) (by decide) rfl (by decide) ?_
      obtain ⟨r, M', N', ca, cb, hR⟩ := o16 k M N (by omega) hR
      refine lv_aload_n hx hb dL_law_808 rfl (lv_at hl 1 rfl) ?_
      refine w_pc 809 rfl ?_
      refine lx_i (rl_v (As := []) (rest := []) ⟨hx, hb, hml, hown, hts⟩ (kX10_chain l D ad cA (aT 289 ad) ca) ⟨callB_of 0 hts (gdc wm649) rfl rfl rfl (hts _ wm50) (hts _ wm646) hdX10_chain ⟨Nat.le_of_ble_eq_true rfl, Nat.le_of_ble_eq_true rfl⟩, hts _ wm647, hts _ wm648⟩ hK hP hD1 hN (by omega) lyMMA rfl rfl hl.1 rfl (lv_room (Nat.le_of_ble_eq_true rfl)) dL_law_809 hcs) hS hi1 hP2 hd1 (fun H locs hP hP2 hS => ?_)
      refine lv_aload_n hx hb dL_law_812 rfl (lv_at hl 2 rfl) ?_
      refine w_pc 813 rfl ?_
      refine lx_i (rl_v (As := []) (rest := [.int r]) ⟨hx, hb, hml, hown, hts⟩ (kX11_chain l D ad2 cA (aT 40 ad2) cb) ⟨callB_of 0 hts (gdc wm1064) rfl rfl rfl (hts _ wm61) (hts _ wm1061) hdX11_chain ⟨Nat.le_of_ble_eq_true rfl, Nat.le_of_ble_eq_true rfl⟩, hts _ wm1062, hts _ wm1063⟩ hK hP2 hD2 hN (by omega) lyNMM rfl rfl hl.1 rfl (lv_room (Nat.le_of_ble_eq_true rfl)) dL_law_813 hcs) hS hi2 hP hd2 (fun H locs hP2 hP hS => ?_)
      refine w_pc 816 rfl ?_
      refine lv_icmp_eq (tgt := 933) hx hb dL_law_816 (by decide) (fun _ => ?_) (fun q => absurd rfl q)
      exact go M' N' H locs ls hR hP hP2 hS hl
    by_cases q17 : (y0 &&& 31) = 17
    · refine w_ti q17.symm ?_
      refine lv_tableIn (tgt := 821) hx hb dL_law_33 (by decide) (by decide) rfl (by decide) ?_
      obtain ⟨r, M', N', ca, cb, hR⟩ := o17 k M N (by omega) hR y1 y2
      refine lv_aload_n hx hb dL_law_821 rfl (lv_at hl 1 rfl) ?_
      refine lv_aload_n hx hb dL_law_822 rfl (lv_at hl 0 rfl) ?_
      refine lv_iload_n hx hb dL_law_823 rfl (lv_at hl 3 rfl) ?_
      refine lv_iconst (v := 1) hx hb dL_law_824 (by decide) ?_
      refine lv_iadd hx hb dL_law_825 ?_
      refine va_sld hx hb hX hbl hbA hS in1 dL_law_826 ?_
      refine w_ti e1 ?_
      refine lv_aload_n hx hb dL_law_827 rfl (lv_at hl 0 rfl) ?_
      refine lv_iload_n hx hb dL_law_828 rfl (lv_at hl 3 rfl) ?_
      refine lv_iconst (v := 2) hx hb dL_law_829 (by decide) ?_
      refine lv_iadd hx hb dL_law_830 ?_
      refine va_sld hx hb hX hbl hbA hS in2 dL_law_831 ?_
      refine w_ti e2 ?_
      refine w_pc 832 rfl ?_
      refine lx_i (rl_v (As := [.int y1, .int y2]) (rest := []) ⟨hx, hb, hml, hown, hts⟩ (kX10_link l D ad cA (aT 289 ad) ca) ⟨callB_of 2 hts (gdc wm665) rfl rfl rfl (hts _ wm50) (hts _ wm662) hdX10_link ⟨Nat.le_of_ble_eq_true rfl, Nat.le_of_ble_eq_true rfl⟩, hts _ wm663, hts _ wm664⟩ hK hP hD1 hN (by omega) lyMMA rfl rfl hl.1 rfl (lv_room (Nat.le_of_ble_eq_true rfl)) dL_law_832 hcs) hS hi1 hP2 hd1 (fun H locs hP hP2 hS => ?_)
      refine lv_aload_n hx hb dL_law_835 rfl (lv_at hl 2 rfl) ?_
      refine lv_aload_n hx hb dL_law_836 rfl (lv_at hl 0 rfl) ?_
      refine lv_iload_n hx hb dL_law_837 rfl (lv_at hl 3 rfl) ?_
      refine lv_iconst (v := 1) hx hb dL_law_838 (by decide) ?_
      refine lv_iadd hx hb dL_law_839 ?_
      refine va_sld hx hb hX hbl hbA hS in1 dL_law_840 ?_
      refine w_ti e1 ?_
      refine lv_aload_n hx hb dL_law_841 rfl (lv_at hl 0 rfl) ?_
      refine lv_iload_n hx hb dL_law_842 rfl (lv_at hl 3 rfl) ?_
      refine lv_iconst (v := 2) hx hb dL_law_843 (by decide) ?_
      refine lv_iadd hx hb dL_law_844 ?_
      refine va_sld hx hb hX hbl hbA hS in2 dL_law_845 ?_
      refine w_ti e2 ?_
      refine w_pc 846 rfl ?_
      refine lx_i (rl_v (As := [.int y1, .int y2]) (rest := [.int r]) ⟨hx, hb, hml, hown, hts⟩ (kX11_link l D ad2 cA (aT 40 ad2) cb) ⟨callB_of 2 hts (gdc wm1076) rfl rfl rfl (hts _ wm61) (hts _ wm1073) hdX11_link ⟨Nat.le_of_ble_eq_true rfl, Nat.le_of_ble_eq_true rfl⟩, hts _ wm1074, hts _ wm1075⟩ hK hP2 hD2 hN (by omega) lyNMM rfl rfl hl.1 rfl (lv_room (Nat.le_of_ble_eq_true rfl)) dL_law_846 hcs) hS hi2 hP hd2 (fun H locs hP2 hP hS => ?_)
      refine w_pc 849 rfl ?_
      refine lv_icmp_eq (tgt := 933) hx hb dL_law_849 (by decide) (fun _ => ?_) (fun q => absurd rfl q)
      exact go M' N' H locs ls hR hP hP2 hS hl
    by_cases q18 : (y0 &&& 31) = 18
    · refine w_ti q18.symm ?_
      refine lv_tableIn (tgt := 854) hx hb dL_law_33 (by decide) (by decide) rfl (by decide) ?_
      obtain ⟨r, M', N', ca, cb, hR⟩ := o18 k M N (by omega) hR y1
      refine lv_aload_n hx hb dL_law_854 rfl (lv_at hl 1 rfl) ?_
      refine lv_aload_n hx hb dL_law_855 rfl (lv_at hl 0 rfl) ?_
      refine lv_iload_n hx hb dL_law_856 rfl (lv_at hl 3 rfl) ?_
      refine lv_iconst (v := 1) hx hb dL_law_857 (by decide) ?_
      refine lv_iadd hx hb dL_law_858 ?_
      refine va_sld hx hb hX hbl hbA hS in1 dL_law_859 ?_
      refine w_ti e1 ?_
      refine w_pc 860 rfl ?_
      refine lx_i (rl_v (As := [.int y1]) (rest := []) ⟨hx, hb, hml, hown, hts⟩ (kX10_judge l D ad cA (aT 289 ad) ca) ⟨callB_of 1 hts (gdc wm676) rfl rfl rfl (hts _ wm50) (hts _ wm673) hdX10_judge ⟨Nat.le_of_ble_eq_true rfl, Nat.le_of_ble_eq_true rfl⟩, hts _ wm674, hts _ wm675⟩ hK hP hD1 hN (by omega) lyMMA rfl rfl hl.1 rfl (lv_room (Nat.le_of_ble_eq_true rfl)) dL_law_860 hcs) hS hi1 hP2 hd1 (fun H locs hP hP2 hS => ?_)
      refine lv_aload_n hx hb dL_law_863 rfl (lv_at hl 2 rfl) ?_
      refine lv_aload_n hx hb dL_law_864 rfl (lv_at hl 0 rfl) ?_
      refine lv_iload_n hx hb dL_law_865 rfl (lv_at hl 3 rfl) ?_
      refine lv_iconst (v := 1) hx hb dL_law_866 (by decide) ?_
      refine lv_iadd hx hb dL_law_867 ?_
      refine va_sld hx hb hX hbl hbA hS in1 dL_law_868 ?_
      refine w_ti e1 ?_
      refine w_pc 869 rfl ?_
      refine lx_i (rl_v (As := [.int y1]) (rest := [.int r]) ⟨hx, hb, hml, hown, hts⟩ (kX11_judge l D ad2 cA (aT 40 ad2) cb) ⟨callB_of 1 hts (gdc wm1080) rfl rfl rfl (hts _ wm61) (hts _ wm1077) hdX11_judge ⟨Nat.le_of_ble_eq_true rfl, Nat.le_of_ble_eq_true rfl⟩, hts _ wm1078, hts _ wm1079⟩ hK hP2 hD2 hN (by omega) lyNMM rfl rfl hl.1 rfl (lv_room (Nat.le_of_ble_eq_true rfl)) dL_law_869 hcs) hS hi2 hP hd2 (fun H locs hP2 hP hS => ?_)
      refine w_pc 872 rfl ?_
      refine lv_icmp_eq (tgt := 933) hx hb dL_law_872 (by decide) (fun _ => ?_) (fun q => absurd rfl q)
      exact go M' N' H locs ls hR hP hP2 hS hl
    by_cases q19 : (y0 &&& 31) = 19
    · refine w_ti q19.symm ?_
      refine lv_tableIn (tgt := 877) hx hb dL_law_33 (by decide) (by decide) rfl (by decide) ?_
      obtain ⟨r, ca, cb, hR⟩ := o19 k M N (by omega) hR y1 y2
      refine lv_aload_n hx hb dL_law_877 rfl (lv_at hl 1 rfl) ?_
      refine lv_aload_n hx hb dL_law_878 rfl (lv_at hl 0 rfl) ?_
      refine lv_iload_n hx hb dL_law_879 rfl (lv_at hl 3 rfl) ?_
      refine lv_iconst (v := 1) hx hb dL_law_880 (by decide) ?_
      refine lv_iadd hx hb dL_law_881 ?_
      refine va_sld hx hb hX hbl hbA hS in1 dL_law_882 ?_
      refine w_ti e1 ?_
      refine lv_aload_n hx hb dL_law_883 rfl (lv_at hl 0 rfl) ?_
      refine lv_iload_n hx hb dL_law_884 rfl (lv_at hl 3 rfl) ?_
      refine lv_iconst (v := 2) hx hb dL_law_885 (by decide) ?_
      refine lv_iadd hx hb dL_law_886 ?_
      refine va_sld hx hb hX hbl hbA hS in2 dL_law_887 ?_
      refine w_ti e2 ?_
      refine w_pc 888 rfl ?_
      refine lx_i (rl_v (As := [.int y1, .int y2]) (rest := []) ⟨hx, hb, hml, hown, hts⟩ (kX10_row l D ad cA (aT 289 ad) ca) ⟨callB_of 2 hts (gdc wm712) rfl rfl rfl (hts _ wm50) (hts _ wm709) hdX10_row ⟨Nat.le_of_ble_eq_true rfl, Nat.le_of_ble_eq_true rfl⟩, hts _ wm710, hts _ wm711⟩ hK hP hD1 hN (by omega) lyMMA rfl rfl hl.1 rfl (lv_room (Nat.le_of_ble_eq_true rfl)) dL_law_888 hcs) hS hi1 hP2 hd1 (fun H locs hP hP2 hS => ?_)
      refine lv_aload_n hx hb dL_law_891 rfl (lv_at hl 2 rfl) ?_
      refine lv_aload_n hx hb dL_law_892 rfl (lv_at hl 0 rfl) ?_
      refine lv_iload_n hx hb dL_law_893 rfl (lv_at hl 3 rfl) ?_
      refine lv_iconst (v := 1) hx hb dL_law_894 (by decide) ?_
      refine lv_iadd hx hb dL_law_895 ?_
      refine va_sld hx hb hX hbl hbA hS in1 dL_law_896 ?_
      refine w_ti e1 ?_
      refine lv_aload_n hx hb dL_law_897 rfl (lv_at hl 0 rfl) ?_
      refine lv_iload_n hx hb dL_law_898 rfl (lv_at hl 3 rfl) ?_
      refine lv_iconst (v := 2) hx hb dL_law_899 (by decide) ?_
      refine lv_iadd hx hb dL_law_900 ?_
      refine va_sld hx hb hX hbl hbA hS in2 dL_law_901 ?_
      refine w_ti e2 ?_
      refine w_pc 902 rfl ?_
      refine lx_i (rl_v (As := [.int y1, .int y2]) (rest := [.int r]) ⟨hx, hb, hml, hown, hts⟩ (kX11_row l D ad2 cA (aT 40 ad2) cb) ⟨callB_of 2 hts (gdc wm1092) rfl rfl rfl (hts _ wm61) (hts _ wm1089) hdX11_row ⟨Nat.le_of_ble_eq_true rfl, Nat.le_of_ble_eq_true rfl⟩, hts _ wm1090, hts _ wm1091⟩ hK hP2 hD2 hN (by omega) lyNMM rfl rfl hl.1 rfl (lv_room (Nat.le_of_ble_eq_true rfl)) dL_law_902 hcs) hS hi2 hP hd2 (fun H locs hP2 hP hS => ?_)
      refine w_pc 905 rfl ?_
      refine lv_icmp_eq (tgt := 933) hx hb dL_law_905 (by decide) (fun _ => ?_) (fun q => absurd rfl q)
      exact go M N H locs ls hR hP hP2 hS hl
    by_cases q20 : (y0 &&& 31) = 20
    · refine w_ti q20.symm ?_
      refine lv_tableIn (tgt := 910) hx hb dL_law_33 (by decide) (by decide) rfl (by decide) ?_
      obtain ⟨r, M', N', ca, cb, hR⟩ := o20 k M N (by omega) hR y1
      refine lv_aload_n hx hb dL_law_910 rfl (lv_at hl 1 rfl) ?_
      refine lv_aload_n hx hb dL_law_911 rfl (lv_at hl 0 rfl) ?_
      refine lv_iload_n hx hb dL_law_912 rfl (lv_at hl 3 rfl) ?_
      refine lv_iconst (v := 1) hx hb dL_law_913 (by decide) ?_
      refine lv_iadd hx hb dL_law_914 ?_
      refine va_sld hx hb hX hbl hbA hS in1 dL_law_915 ?_
      refine w_ti e1 ?_
      refine w_pc 916 rfl ?_
      refine lx_i (rl_v (As := [.int y1]) (rest := []) ⟨hx, hb, hml, hown, hts⟩ (kX10_tick l D ad cA (aT 289 ad) ca) ⟨callB_of 1 hts (gdc wm720) rfl rfl rfl (hts _ wm50) (hts _ wm717) hdX10_tick ⟨Nat.le_of_ble_eq_true rfl, Nat.le_of_ble_eq_true rfl⟩, hts _ wm718, hts _ wm719⟩ hK hP hD1 hN (by omega) lyMMA rfl rfl hl.1 rfl (lv_room (Nat.le_of_ble_eq_true rfl)) dL_law_916 hcs) hS hi1 hP2 hd1 (fun H locs hP hP2 hS => ?_)
      refine lv_aload_n hx hb dL_law_919 rfl (lv_at hl 2 rfl) ?_
      refine lv_aload_n hx hb dL_law_920 rfl (lv_at hl 0 rfl) ?_
      refine lv_iload_n hx hb dL_law_921 rfl (lv_at hl 3 rfl) ?_
      refine lv_iconst (v := 1) hx hb dL_law_922 (by decide) ?_
      refine lv_iadd hx hb dL_law_923 ?_
      refine va_sld hx hb hX hbl hbA hS in1 dL_law_924 ?_
      refine w_ti e1 ?_
      refine w_pc 925 rfl ?_
      refine lx_i (rl_v (As := [.int y1]) (rest := [.int r]) ⟨hx, hb, hml, hown, hts⟩ (kX11_tick l D ad2 cA (aT 40 ad2) cb) ⟨callB_of 1 hts (gdc wm1096) rfl rfl rfl (hts _ wm61) (hts _ wm1093) hdX11_tick ⟨Nat.le_of_ble_eq_true rfl, Nat.le_of_ble_eq_true rfl⟩, hts _ wm1094, hts _ wm1095⟩ hK hP2 hD2 hN (by omega) lyNMM rfl rfl hl.1 rfl (lv_room (Nat.le_of_ble_eq_true rfl)) dL_law_925 hcs) hS hi2 hP hd2 (fun H locs hP2 hP hS => ?_)
      refine w_pc 928 rfl ?_
      refine lv_icmp_eq (tgt := 933) hx hb dL_law_928 (by decide) (fun _ => ?_) (fun q => absurd rfl q)
      exact go M' N' H locs ls hR hP hP2 hS hl
    refine lv_tableOut (tgt := 933) hx hb dL_law_33 (by have := lv_neT (a := 0) q0 (by decide); have := lv_neT (a := 1) q1 (by decide); have := lv_neT (a := 2) q2 (by decide); have := lv_neT (a := 3) q3 (by decide); have := lv_neT (a := 4) q4 (by decide); have := lv_neT (a := 5) q5 (by decide); have := lv_neT (a := 6) q6 (by decide); have := lv_neT (a := 7) q7 (by decide); have := lv_neT (a := 8) q8 (by decide); have := lv_neT (a := 9) q9 (by decide); have := lv_neT (a := 10) q10 (by decide); have := lv_neT (a := 11) q11 (by decide); have := lv_neT (a := 12) q12 (by decide); have := lv_neT (a := 13) q13 (by decide); have := lv_neT (a := 14) q14 (by decide); have := lv_neT (a := 15) q15 (by decide); have := lv_neT (a := 16) q16 (by decide); have := lv_neT (a := 17) q17 (by decide); have := lv_neT (a := 18) q18 (by decide); have := lv_neT (a := 19) q19 (by decide); have := lv_neT (a := 20) q20 (by decide); omega) (by decide) ?_
    exact go M N H locs ls hR.up hP hP2 hS hl
