/-! the constructors' worlds are flat memories -/
def mem0 : Mm := fun t k => if 102 ≤ t ∧ t < 122 ∧ k = 6 then -1 else if 222 ≤ t ∧ t < 243 ∧ k = 4 then 100 else 0
def memN : Mm := fun _ _ => 0
theorem m0 {t k : Nat} (h1 : ¬ (102 ≤ t ∧ t < 122 ∧ k = 6)) (h2 : ¬ (222 ≤ t ∧ t < 243 ∧ k = 4)) : mem0 t k = 0 := by
  unfold mem0
  rw [if_neg h1, if_neg h2]
theorem m0f {t : Nat} (h1 : ¬ (102 ≤ t ∧ t < 122)) (h2 : ¬ (222 ≤ t ∧ t < 243)) : mem0 t = fun _ => 0 := by
  funext k
  exact m0 (by omega) (by omega)
theorem m0r {i : Nat} (h : i < 20) : mem0 (102 + i) 6 = -1 := by
  unfold mem0
  rw [if_pos (by omega)]
theorem m0p {i : Nat} (h : i < 21) : mem0 (222 + i) 4 = 100 := by
  unfold mem0
  rw [if_neg (by omega), if_pos (by omega)]
def posM (t : Nat) : Nat :=
  if t < 2 then t else
  if t < 22 then 2 + 12 * (t - 2) else
  if t < 62 then 2 + 12 * ((t - 22) / 2) + (1 + 2 * ((t - 22) % 2)) else
  if t < 102 then 2 + 12 * ((t - 62) / 2) + (2 + 2 * ((t - 62) % 2)) else
  if t < 122 then 2 + 12 * (t - 102) + 5 else
  if t < 142 then 2 + 12 * (t - 122) + 6 else
  if t < 162 then 2 + 12 * (t - 142) + 7 else
  if t < 182 then 2 + 12 * (t - 162) + 8 else
  if t < 202 then 2 + 12 * (t - 182) + 9 else
  if t < 222 then 2 + 12 * (t - 202) + 10 else
  if t < 242 then 2 + 12 * (t - 222) + 11 else
  if t < 243 then 242 else
  if t < 275 then 243 + [0,1,2,9,11,13,15,17,19,3,5,10,12,14,16,18,20,4,6,7,21,22,23,25,27,29,31,8,24,26,28,30].getD (t - 243) 0 else t
def invM (p : Nat) : Nat :=
  if p < 2 then p else
  if p < 242 then
    (if (p - 2) % 12 = 0 then 2 + (p - 2) / 12 else
     if (p - 2) % 12 = 1 then 22 + 2 * ((p - 2) / 12) else
     if (p - 2) % 12 = 2 then 62 + 2 * ((p - 2) / 12) else
     if (p - 2) % 12 = 3 then 22 + 2 * ((p - 2) / 12) + 1 else
     if (p - 2) % 12 = 4 then 62 + 2 * ((p - 2) / 12) + 1 else
     102 + 20 * ((p - 2) % 12 - 5) + (p - 2) / 12) else
  if p < 243 then 242 else
  if p < 275 then 243 + [0,1,2,9,17,10,18,19,27,3,11,4,12,5,13,6,14,7,15,8,16,20,21,22,28,23,29,24,30,25,31,26].getD (p - 243) 0 else p
theorem inv_pos : ∀ t, t < 289 → invM (posM t) = t ∧ posM t < 289 := by decide +kernel
section ADM
variable (h0 qa qr : Nat) (Q R : Nat → Nat → Nat) (qp qm qc : Nat → Nat)
def adr (p : Nat) : Nat := if p < 1 then h0 else if p < 2 then qa else if p < 242 then Q ((p - 2) / 12) ((p - 2) % 12) else if p < 243 then qp 0 else if p < 275 then qm (p - 243) else if p < 276 then qc 0 else if p < 277 then qr else R (p - 277) 0
def adM (t : Nat) : Nat := adr h0 qa qr Q R qp qm qc (posM t)
theorem adQ {t d k : Nat} (h : posM t = 2 + 12 * d + k) (hd : d < 20) (hk : k < 12) : adM h0 qa qr Q R qp qm qc t = Q d k := by
  unfold adM adr
  rw [h, if_neg (by omega), if_neg (by omega), if_pos (by omega), show (2 + 12 * d + k - 2) / 12 = d by omega, show (2 + 12 * d + k - 2) % 12 = k by omega]
theorem adL {t k : Nat} (h : posM t = 243 + k) (hk : k < 32) : adM h0 qa qr Q R qp qm qc t = qm k := by
  unfold adM adr
  rw [h, if_neg (by omega), if_neg (by omega), if_neg (by omega), if_neg (by omega), if_pos (by omega), show 243 + k - 243 = k by omega]
theorem adR {t k : Nat} (h : posM t = 277 + k) : adM h0 qa qr Q R qp qm qc t = R k 0 := by
  unfold adM adr
  rw [h, if_neg (by omega), if_neg (by omega), if_neg (by omega), if_neg (by omega), if_neg (by omega), if_neg (by omega), if_neg (by omega), show 277 + k - 277 = k by omega]
theorem ad0 : adM h0 qa qr Q R qp qm qc 0 = h0 := rfl
theorem ad1 : adM h0 qa qr Q R qp qm qc 1 = qa := rfl
theorem ad242 : adM h0 qa qr Q R qp qm qc (222 + 20) = qp 0 := rfl
theorem ad275 : adM h0 qa qr Q R qp qm qc 275 = qc 0 := rfl
theorem ad276 : adM h0 qa qr Q R qp qm qc 276 = qr := rfl
end ADM
theorem pDom {i : Nat} (hi : i < 20) : posM (2 + i) = 2 + 12 * i + 0 := by
  unfold posM
  rw [if_neg (by omega), if_pos (by omega)]
  omega
theorem pHa {i : Nat} (hi : i < 20) : posM (22 + (2 * i)) = 2 + 12 * i + 1 := by
  unfold posM
  rw [if_neg (by omega), if_neg (by omega), if_pos (by omega)]
  omega
theorem pHb {i : Nat} (hi : i < 20) : posM (22 + (2 * i + 1)) = 2 + 12 * i + 3 := by
  unfold posM
  rw [if_neg (by omega), if_neg (by omega), if_pos (by omega)]
  omega
theorem pVa {i : Nat} (hi : i < 20) : posM (62 + (2 * i)) = 2 + 12 * i + 2 := by
  unfold posM
  rw [if_neg (by omega), if_neg (by omega), if_neg (by omega), if_pos (by omega)]
  omega
theorem pVb {i : Nat} (hi : i < 20) : posM (62 + (2 * i + 1)) = 2 + 12 * i + 4 := by
  unfold posM
  rw [if_neg (by omega), if_neg (by omega), if_neg (by omega), if_pos (by omega)]
  omega
theorem pRule {i : Nat} (hi : i < 20) : posM (102 + i) = 2 + 12 * i + 5 := by
  unfold posM
  rw [if_neg (by omega), if_neg (by omega), if_neg (by omega), if_neg (by omega), if_pos (by omega)]
  omega
theorem pSg {i : Nat} (hi : i < 20) : posM (122 + i) = 2 + 12 * i + 6 := by
  unfold posM
  rw [if_neg (by omega), if_neg (by omega), if_neg (by omega), if_neg (by omega), if_neg (by omega), if_pos (by omega)]
  omega
theorem pKd {i : Nat} (hi : i < 20) : posM (142 + i) = 2 + 12 * i + 7 := by
  unfold posM
  rw [if_neg (by omega), if_neg (by omega), if_neg (by omega), if_neg (by omega), if_neg (by omega), if_neg (by omega), if_pos (by omega)]
  omega
theorem pVl {i : Nat} (hi : i < 20) : posM (162 + i) = 2 + 12 * i + 8 := by
  unfold posM
  rw [if_neg (by omega), if_neg (by omega), if_neg (by omega), if_neg (by omega), if_neg (by omega), if_neg (by omega), if_neg (by omega), if_pos (by omega)]
  omega
theorem pLn {i : Nat} (hi : i < 20) : posM (182 + i) = 2 + 12 * i + 9 := by
  unfold posM
  rw [if_neg (by omega), if_neg (by omega), if_neg (by omega), if_neg (by omega), if_neg (by omega), if_neg (by omega), if_neg (by omega), if_neg (by omega), if_pos (by omega)]
  omega
theorem pKey {i : Nat} (hi : i < 20) : posM (202 + i) = 2 + 12 * i + 10 := by
  unfold posM
  rw [if_neg (by omega), if_neg (by omega), if_neg (by omega), if_neg (by omega), if_neg (by omega), if_neg (by omega), if_neg (by omega), if_neg (by omega), if_neg (by omega), if_pos (by omega)]
  omega
theorem pPol {i : Nat} (hi : i < 20) : posM (222 + i) = 2 + 12 * i + 11 := by
  unfold posM
  rw [if_neg (by omega), if_neg (by omega), if_neg (by omega), if_neg (by omega), if_neg (by omega), if_neg (by omega), if_neg (by omega), if_neg (by omega), if_neg (by omega), if_neg (by omega), if_pos (by omega)]
  omega
theorem pRow {i : Nat} (hi : i < 12) : posM (277 + i) = 277 + i := by
  unfold posM
  rw [if_neg (by omega), if_neg (by omega), if_neg (by omega), if_neg (by omega), if_neg (by omega), if_neg (by omega), if_neg (by omega), if_neg (by omega), if_neg (by omega), if_neg (by omega), if_neg (by omega), if_neg (by omega), if_neg (by omega)]
theorem flat_len {α : Type} {f : Nat → List α} {L : Nat} (hL : ∀ d, (f d).length = L) (n : Nat) : ((List.range n).flatMap f).length = L * n := by
  induction n with
  | zero => rfl
  | succ n ih => rw [List.range_succ, List.flatMap_append, List.flatMap_singleton, List.length_append, ih, hL, Nat.mul_succ]
theorem flat_at {α : Type} {f : Nat → List α} {L : Nat} (hL : ∀ d, (f d).length = L) : ∀ (n d k : Nat), d < n → k < L → ((List.range n).flatMap f)[L * d + k]? = (f d)[k]? := by
  intro n
  induction n with
  | zero => intro d k h; omega
  | succ n ih =>
    intro d k h hk
    rw [List.range_succ, List.flatMap_append, List.flatMap_singleton]
    by_cases hd : d = n
    · subst hd
      rw [List.getElem?_append_right (by rw [flat_len hL]; omega), flat_len hL, Nat.add_sub_cancel_left]
    · have h2 : L * (d + 1) ≤ L * n := Nat.mul_le_mul_left L (show d + 1 ≤ n by omega)
      rw [Nat.mul_succ] at h2
      rw [List.getElem?_append_left (by rw [flat_len hL]; omega)]
      exact ih d k (by omega) hk
theorem at_ref {D : va_G} {a n : Nat} {c : ClassId} {f g : Nat → Option Nat} {H : Heap} (h : va_at D vwCl (a, .inl (c, n, .inr (.inr (.inr (.inr f))))) H) (e : ∀ j, j < n → f j = g j) : va_at D vwCl (a, .inl (c, n, .inr (.inr (.inr (.inr g))))) H := by
  have h1 : H[a]? = some (arrV c n (fun j => va_rf (f j))) := h
  show H[a]? = some (arrV c n (fun j => va_rf (g j)))
  rw [h1]
  unfold arrV
  have e2 : (fun j : Fin n => va_rf (f j.val)) = fun j : Fin n => va_rf (g j.val) := funext fun j => by rw [e j.val j.isLt]
  rw [e2]
section WC
variable {cA : Nat → ClassId} {h0 qa qr : Nat} {Q R : Nat → Nat → Nat} {qp qm qc : Nat → Nat}
theorem lenD : (flatD cA Q 20).length = 240 := flat_len (f := fun d => wcX1_init cA (Q d)) (L := 12) (fun _ => rfl) 20
theorem wcD {d k : Nat} (hd : d < 20) (hk : k < 12) : (wcX10_init cA h0 qa qr Q R qp qm qc)[2 + 12 * d + k]? = (wcX1_init cA (Q d))[k]? := by
  unfold wcX10_init
  rw [show 2 + 12 * d + k = (12 * d + k + 1) + 1 by omega, List.getElem?_cons_succ, List.getElem?_cons_succ, List.append_assoc, List.append_assoc, List.append_assoc, List.getElem?_append_left (by rw [lenD]; omega)]
  exact flat_at (f := fun d => wcX1_init cA (Q d)) (L := 12) (fun _ => rfl) 20 d k hd hk
theorem wcR0 {k : Nat} : (wcX10_init cA h0 qa qr Q R qp qm qc)[242 + k]? = (wcX5_init cA qp ++ (wcX4_init cA qm ++ (wcX0_init cA qc ++ (qr, .inl (cA 3, 12, .inr (.inr (.inr (.inr (refF R 12)))))) :: flatR cA R 12)))[k]? := by
  unfold wcX10_init
  rw [show 242 + k = (240 + k + 1) + 1 by omega, List.getElem?_cons_succ, List.getElem?_cons_succ, List.append_assoc, List.append_assoc, List.append_assoc, List.getElem?_append_right (by rw [lenD]; omega), lenD, show 240 + k - 240 = k by omega]
theorem wcM {k : Nat} (hk : k < 32) : (wcX10_init cA h0 qa qr Q R qp qm qc)[243 + k]? = (wcX4_init cA qm)[k]? := by
  rw [show 243 + k = 242 + (k + 1) by omega, wcR0]
  show (wcX4_init cA qm ++ _)[k]? = _
  rw [List.getElem?_append_left (show k < 32 from hk)]
theorem wcC {k : Nat} : (wcX10_init cA h0 qa qr Q R qp qm qc)[275 + k]? = (wcX0_init cA qc ++ (qr, .inl (cA 3, 12, .inr (.inr (.inr (.inr (refF R 12)))))) :: flatR cA R 12)[k]? := by
  rw [show 275 + k = 242 + (32 + k + 1) by omega, wcR0]
  show (wcX4_init cA qm ++ _)[32 + k]? = _
  rw [List.getElem?_append_right (show 32 ≤ 32 + k by omega), show 32 + k - (wcX4_init cA qm).length = k from by show 32 + k - 32 = k; omega]
theorem wcR {k : Nat} (hk : k < 12) : (wcX10_init cA h0 qa qr Q R qp qm qc)[277 + k]? = some (R k 0, .inr (6, [.int 0, .int 0, .int 0, .int 0, .int 0])) := by
  rw [show 277 + k = 275 + (k + 2) by omega, wcC]
  show (flatR cA R 12)[k]? = _
  have h := flat_at (f := fun d => wcX6_init cA (R d)) (L := 1) (fun _ => rfl) 12 k 0 hk (by omega)
  rw [show 1 * k + 0 = k by omega] at h
  exact h
end WC
theorem conv10 {D : va_G} {cA : Nat → ClassId} {h0 qa qr : Nat} {Q R : Nat → Nat → Nat} {qp qm qc : Nat → Nat} {H : Heap} (hP : va_P D vwCl (wcX10_init cA h0 qa qr Q R qp qm qc) H) : va_P D vwCl (gw 289 (layM (adM h0 qa qr Q R qp qm qc) cA) (adM h0 qa qr Q R qp qm qc) mem0) H := by
  intro t q ht
  by_cases h9 : t < 289
  · rw [gw_at h9] at ht
    cases ht
    generalize hA : adM h0 qa qr Q R qp qm qc = A
    have aQ : ∀ {t d k : Nat}, posM t = 2 + 12 * d + k → d < 20 → k < 12 → A t = Q d k := fun h1 h2 h3 => by rw [← hA]; exact adQ h0 qa qr Q R qp qm qc h1 h2 h3
    have aL : ∀ {t k : Nat}, posM t = 243 + k → k < 32 → A t = qm k := fun h1 h2 => by rw [← hA]; exact adL h0 qa qr Q R qp qm qc h1 h2
    have aR : ∀ {t k : Nat}, posM t = 277 + k → A t = R k 0 := fun h1 => by rw [← hA]; exact adR h0 qa qr Q R qp qm qc h1
    have a0 : A 0 = h0 := by rw [← hA]; exact ad0 h0 qa qr Q R qp qm qc
    have a1 : A 1 = qa := by rw [← hA]; exact ad1 h0 qa qr Q R qp qm qc
    have a242 : A (222 + 20) = qp 0 := by rw [← hA]; exact ad242 h0 qa qr Q R qp qm qc
    have a275 : A 275 = qc 0 := by rw [← hA]; exact ad275 h0 qa qr Q R qp qm qc
    have a276 : A 276 = qr := by rw [← hA]; exact ad276 h0 qa qr Q R qp qm qc
    by_cases c1 : t < 1
    · obtain rfl : t = 0 := by omega
      rw [lyMMA]
      unfold fsMMA
      rw [a0, a1, a242, aL (t := 243) (k := 0) rfl (by omega), a275, a276, m0 (t := 0) (k := 1) (by omega) (by omega), m0 (t := 0) (k := 6) (by omega) (by omega), m0 (t := 0) (k := 7) (by omega) (by omega)]
      exact hP 0 _ rfl
    by_cases c2 : t < 2
    · obtain rfl : t = 1 := by omega
      rw [lyMaDom, a1]
      refine at_ref (hP 1 _ rfl) (fun j hj => ?_)
      rw [aQ (pDom hj) hj (by omega)]
      exact if_pos hj
    by_cases c22 : t < 22
    · obtain ⟨i, rfl⟩ : ∃ i, t = 2 + i := ⟨t - 2, by omega⟩
      rw [lyMDom (by omega)]
      unfold fsMDom
      rw [aQ (pDom (by omega)) (by omega) (by omega), aQ (pHa (i := i) (by omega)) (by omega) (by omega), aQ (pHb (i := i) (by omega)) (by omega) (by omega), aQ (pRule (i := i) (by omega)) (by omega) (by omega), aQ (pKey (i := i) (by omega)) (by omega) (by omega), aQ (pPol (i := i) (by omega)) (by omega) (by omega), m0 (t := 2 + i) (k := 0) (by omega) (by omega), m0 (t := 2 + i) (k := 1) (by omega) (by omega), m0 (t := 2 + i) (k := 2) (by omega) (by omega)]
      exact hP (2 + 12 * i + 0) _ (wcD (by omega) (by omega))
    by_cases c62 : t < 62
    · obtain ⟨i, rfl⟩ : ∃ i, t = 22 + i := ⟨t - 22, by omega⟩
      by_cases hv : i % 2 = 0
      · obtain ⟨j, rfl⟩ : ∃ j, i = 2 * j := ⟨i / 2, by omega⟩
        rw [lyMHosts (by omega)]
        unfold fsMHosts
        rw [aQ (pHa (by omega)) (by omega) (by omega), aQ (pVa (i := j) (by omega)) (by omega) (by omega), m0 (by omega) (by omega)]
        exact hP (2 + 12 * j + 1) _ (wcD (by omega) (by omega))
      · obtain ⟨j, rfl⟩ : ∃ j, i = 2 * j + 1 := ⟨i / 2, by omega⟩
        rw [lyMHosts (by omega)]
        unfold fsMHosts
        rw [aQ (pHb (by omega)) (by omega) (by omega), aQ (pVb (i := j) (by omega)) (by omega) (by omega), m0 (by omega) (by omega)]
        exact hP (2 + 12 * j + 3) _ (wcD (by omega) (by omega))
    by_cases c102 : t < 102
    · obtain ⟨i, rfl⟩ : ∃ i, t = 62 + i := ⟨t - 62, by omega⟩
      by_cases hv : i % 2 = 0
      · obtain ⟨j, rfl⟩ : ∃ j, i = 2 * j := ⟨i / 2, by omega⟩
        rw [lyMaHv (by omega), aQ (pVa (by omega)) (by omega) (by omega), m0f (by omega) (by omega)]
        exact hP (2 + 12 * j + 2) _ (wcD (by omega) (by omega))
      · obtain ⟨j, rfl⟩ : ∃ j, i = 2 * j + 1 := ⟨i / 2, by omega⟩
        rw [lyMaHv (by omega), aQ (pVb (by omega)) (by omega) (by omega), m0f (by omega) (by omega)]
        exact hP (2 + 12 * j + 4) _ (wcD (by omega) (by omega))
    by_cases c122 : t < 122
    · obtain ⟨i, rfl⟩ : ∃ i, t = 102 + i := ⟨t - 102, by omega⟩
      rw [lyMRule (by omega)]
      unfold fsMRule
      rw [aQ (pRule (by omega)) (by omega) (by omega), aQ (pSg (i := i) (by omega)) (by omega) (by omega), aQ (pKd (i := i) (by omega)) (by omega) (by omega), aQ (pVl (i := i) (by omega)) (by omega) (by omega), aQ (pLn (i := i) (by omega)) (by omega) (by omega), m0r (by omega), m0 (t := 102 + i) (k := 0) (by omega) (by omega), m0 (t := 102 + i) (k := 1) (by omega) (by omega)]
      exact hP (2 + 12 * i + 5) _ (wcD (by omega) (by omega))
    by_cases c142 : t < 142
    · obtain ⟨i, rfl⟩ : ∃ i, t = 122 + i := ⟨t - 122, by omega⟩
      rw [lyMaSg (by omega), aQ (pSg (by omega)) (by omega) (by omega), m0f (by omega) (by omega)]
      exact hP (2 + 12 * i + 6) _ (wcD (by omega) (by omega))
    by_cases c162 : t < 162
    · obtain ⟨i, rfl⟩ : ∃ i, t = 142 + i := ⟨t - 142, by omega⟩
      rw [lyMaKd (by omega), aQ (pKd (by omega)) (by omega) (by omega), m0f (by omega) (by omega)]
      exact hP (2 + 12 * i + 7) _ (wcD (by omega) (by omega))
    by_cases c182 : t < 182
    · obtain ⟨i, rfl⟩ : ∃ i, t = 162 + i := ⟨t - 162, by omega⟩
      rw [lyMaVl (by omega), aQ (pVl (by omega)) (by omega) (by omega), m0f (by omega) (by omega)]
      exact hP (2 + 12 * i + 8) _ (wcD (by omega) (by omega))
    by_cases c202 : t < 202
    · obtain ⟨i, rfl⟩ : ∃ i, t = 182 + i := ⟨t - 182, by omega⟩
      rw [lyMaLn (by omega), aQ (pLn (by omega)) (by omega) (by omega), m0f (by omega) (by omega)]
      exact hP (2 + 12 * i + 9) _ (wcD (by omega) (by omega))
    by_cases c222 : t < 222
    · obtain ⟨i, rfl⟩ : ∃ i, t = 202 + i := ⟨t - 202, by omega⟩
      rw [lyMaKey (by omega), aQ (pKey (by omega)) (by omega) (by omega), m0f (by omega) (by omega)]
      exact hP (2 + 12 * i + 10) _ (wcD (by omega) (by omega))
    by_cases c242 : t < 242
    · obtain ⟨i, rfl⟩ : ∃ i, t = 222 + i := ⟨t - 222, by omega⟩
      rw [lyMPol (by omega)]
      unfold fsMPol
      rw [aQ (pPol (by omega)) (by omega) (by omega), m0p (by omega), m0 (t := 222 + i) (k := 0) (by omega) (by omega), m0 (t := 222 + i) (k := 1) (by omega) (by omega), m0 (t := 222 + i) (k := 2) (by omega) (by omega), m0 (t := 222 + i) (k := 3) (by omega) (by omega)]
      exact hP (2 + 12 * i + 11) _ (wcD (by omega) (by omega))
    by_cases c243 : t < 243
    · obtain rfl : t = 222 + 20 := by omega
      rw [lyMPol (by omega)]
      unfold fsMPol
      rw [a242, m0p (by omega), m0 (t := 222 + 20) (k := 0) (by omega) (by omega), m0 (t := 222 + 20) (k := 1) (by omega) (by omega), m0 (t := 222 + 20) (k := 2) (by omega) (by omega), m0 (t := 222 + 20) (k := 3) (by omega) (by omega)]
      exact hP 242 _ (wcR0 (k := 0))
    by_cases c244 : t < 244
    · obtain rfl : t = 243 := by omega
      rw [lyMMail]
      unfold fsMMail
      rw [aL (t := 243) (k := 0) rfl (by omega), aL (t := 244) (k := 1) rfl (by omega), aL (t := 245) (k := 2) rfl (by omega), aL (t := 246 + 6) (k := 3) rfl (by omega), aL (t := 246 + 7) (k := 5) rfl (by omega), aL (t := 262) (k := 7) rfl (by omega), aL (t := 270) (k := 8) rfl (by omega), m0 (t := 243) (k := 0) (by omega) (by omega), m0 (t := 243) (k := 1) (by omega) (by omega), m0 (t := 243) (k := 2) (by omega) (by omega), m0 (t := 243) (k := 3) (by omega) (by omega), m0 (t := 243) (k := 6) (by omega) (by omega), m0 (t := 243) (k := 10) (by omega) (by omega), m0 (t := 243) (k := 12) (by omega) (by omega)]
      exact hP (243 + 0) _ (wcM (by omega))
    by_cases c245 : t < 245
    · obtain rfl : t = 244 := by omega
      rw [lyMaNm, aL (t := 244) (k := 1) rfl (by omega), m0f (by omega) (by omega)]
      exact hP (243 + 1) _ (wcM (by omega))
    by_cases c246 : t < 246
    · obtain rfl : t = 245 := by omega
      rw [lyMaTx, aL (t := 245) (k := 2) rfl (by omega)]
      refine at_ref (hP (243 + 2) _ (wcM (by omega))) (fun j hj => ?_)
      rcases (show j = 0 ∨ j = 1 ∨ j = 2 ∨ j = 3 ∨ j = 4 ∨ j = 5 by omega) with rfl | rfl | rfl | rfl | rfl | rfl
      · rw [aL (t := 246 + 0) (k := 9) rfl (by omega)]; rfl
      · rw [aL (t := 246 + 1) (k := 11) rfl (by omega)]; rfl
      · rw [aL (t := 246 + 2) (k := 13) rfl (by omega)]; rfl
      · rw [aL (t := 246 + 3) (k := 15) rfl (by omega)]; rfl
      · rw [aL (t := 246 + 4) (k := 17) rfl (by omega)]; rfl
      · rw [aL (t := 246 + 5) (k := 19) rfl (by omega)]; rfl
    by_cases c254 : t < 254
    · obtain ⟨i, rfl⟩ : ∃ i, t = 246 + i := ⟨t - 246, by omega⟩
      have hi : i < 8 := by omega
      rw [lyMText hi]
      unfold fsMText
      rw [m0 (by omega) (by omega)]
      rcases (show i = 0 ∨ i = 1 ∨ i = 2 ∨ i = 3 ∨ i = 4 ∨ i = 5 ∨ i = 6 ∨ i = 7 by omega) with rfl | rfl | rfl | rfl | rfl | rfl | rfl | rfl
      · rw [aL (t := 246 + 0) (k := 9) rfl (by omega), aL (t := 254 + 0) (k := 10) rfl (by omega)]; exact hP (243 + 9) _ (wcM (by omega))
      · rw [aL (t := 246 + 1) (k := 11) rfl (by omega), aL (t := 254 + 1) (k := 12) rfl (by omega)]; exact hP (243 + 11) _ (wcM (by omega))
      · rw [aL (t := 246 + 2) (k := 13) rfl (by omega), aL (t := 254 + 2) (k := 14) rfl (by omega)]; exact hP (243 + 13) _ (wcM (by omega))
      · rw [aL (t := 246 + 3) (k := 15) rfl (by omega), aL (t := 254 + 3) (k := 16) rfl (by omega)]; exact hP (243 + 15) _ (wcM (by omega))
      · rw [aL (t := 246 + 4) (k := 17) rfl (by omega), aL (t := 254 + 4) (k := 18) rfl (by omega)]; exact hP (243 + 17) _ (wcM (by omega))
      · rw [aL (t := 246 + 5) (k := 19) rfl (by omega), aL (t := 254 + 5) (k := 20) rfl (by omega)]; exact hP (243 + 19) _ (wcM (by omega))
      · rw [aL (t := 246 + 6) (k := 3) rfl (by omega), aL (t := 254 + 6) (k := 4) rfl (by omega)]; exact hP (243 + 3) _ (wcM (by omega))
      · rw [aL (t := 246 + 7) (k := 5) rfl (by omega), aL (t := 254 + 7) (k := 6) rfl (by omega)]; exact hP (243 + 5) _ (wcM (by omega))
    by_cases c262 : t < 262
    · obtain ⟨i, rfl⟩ : ∃ i, t = 254 + i := ⟨t - 254, by omega⟩
      have hi : i < 8 := by omega
      rw [lyMaCh hi, m0f (by omega) (by omega)]
      rcases (show i = 0 ∨ i = 1 ∨ i = 2 ∨ i = 3 ∨ i = 4 ∨ i = 5 ∨ i = 6 ∨ i = 7 by omega) with rfl | rfl | rfl | rfl | rfl | rfl | rfl | rfl
      · rw [aL (t := 254 + 0) (k := 10) rfl (by omega)]; exact hP (243 + 10) _ (wcM (by omega))
      · rw [aL (t := 254 + 1) (k := 12) rfl (by omega)]; exact hP (243 + 12) _ (wcM (by omega))
      · rw [aL (t := 254 + 2) (k := 14) rfl (by omega)]; exact hP (243 + 14) _ (wcM (by omega))
      · rw [aL (t := 254 + 3) (k := 16) rfl (by omega)]; exact hP (243 + 16) _ (wcM (by omega))
      · rw [aL (t := 254 + 4) (k := 18) rfl (by omega)]; exact hP (243 + 18) _ (wcM (by omega))
      · rw [aL (t := 254 + 5) (k := 20) rfl (by omega)]; exact hP (243 + 20) _ (wcM (by omega))
      · rw [aL (t := 254 + 6) (k := 4) rfl (by omega)]; exact hP (243 + 4) _ (wcM (by omega))
      · rw [aL (t := 254 + 7) (k := 6) rfl (by omega)]; exact hP (243 + 6) _ (wcM (by omega))
    by_cases c263 : t < 263
    · obtain rfl : t = 262 := by omega
      rw [lyMaSig, aL (t := 262) (k := 7) rfl (by omega)]
      refine at_ref (hP (243 + 7) _ (wcM (by omega))) (fun j hj => ?_)
      rcases (show j = 0 ∨ j = 1 ∨ j = 2 by omega) with rfl | rfl | rfl
      · rw [aL (t := 263 + 0) (k := 21) rfl (by omega)]; rfl
      · rw [aL (t := 263 + 1) (k := 22) rfl (by omega)]; rfl
      · rw [aL (t := 263 + 2) (k := 23) rfl (by omega)]; rfl
    by_cases c270 : t < 270
    · obtain ⟨i, rfl⟩ : ∃ i, t = 263 + i := ⟨t - 263, by omega⟩
      have hi : i < 7 := by omega
      rw [lyMSig hi]
      unfold fsMSig
      rw [m0f (by omega) (by omega)]
      rcases (show i = 0 ∨ i = 1 ∨ i = 2 ∨ i = 3 ∨ i = 4 ∨ i = 5 ∨ i = 6 by omega) with rfl | rfl | rfl | rfl | rfl | rfl | rfl
      · rw [aL (t := 263 + 0) (k := 21) rfl (by omega)]; exact hP (243 + 21) _ (wcM (by omega))
      · rw [aL (t := 263 + 1) (k := 22) rfl (by omega)]; exact hP (243 + 22) _ (wcM (by omega))
      · rw [aL (t := 263 + 2) (k := 23) rfl (by omega)]; exact hP (243 + 23) _ (wcM (by omega))
      · rw [aL (t := 263 + 3) (k := 25) rfl (by omega)]; exact hP (243 + 25) _ (wcM (by omega))
      · rw [aL (t := 263 + 4) (k := 27) rfl (by omega)]; exact hP (243 + 27) _ (wcM (by omega))
      · rw [aL (t := 263 + 5) (k := 29) rfl (by omega)]; exact hP (243 + 29) _ (wcM (by omega))
      · rw [aL (t := 263 + 6) (k := 31) rfl (by omega)]; exact hP (243 + 31) _ (wcM (by omega))
    by_cases c271 : t < 271
    · obtain rfl : t = 270 := by omega
      rw [lyMaLk, aL (t := 270) (k := 8) rfl (by omega)]
      refine at_ref (hP (243 + 8) _ (wcM (by omega))) (fun j hj => ?_)
      rcases (show j = 0 ∨ j = 1 ∨ j = 2 ∨ j = 3 by omega) with rfl | rfl | rfl | rfl
      · rw [aL (t := 271 + 0) (k := 24) rfl (by omega)]; rfl
      · rw [aL (t := 271 + 1) (k := 26) rfl (by omega)]; rfl
      · rw [aL (t := 271 + 2) (k := 28) rfl (by omega)]; rfl
      · rw [aL (t := 271 + 3) (k := 30) rfl (by omega)]; rfl
    by_cases c275 : t < 275
    · obtain ⟨i, rfl⟩ : ∃ i, t = 271 + i := ⟨t - 271, by omega⟩
      have hi : i < 4 := by omega
      rw [lyMLink hi]
      unfold fsMLink
      rw [m0f (by omega) (by omega)]
      rcases (show i = 0 ∨ i = 1 ∨ i = 2 ∨ i = 3 by omega) with rfl | rfl | rfl | rfl
      · rw [aL (t := 271 + 0) (k := 24) rfl (by omega), aL (t := 263 + (3 + 0)) (k := 25) rfl (by omega)]; exact hP (243 + 24) _ (wcM (by omega))
      · rw [aL (t := 271 + 1) (k := 26) rfl (by omega), aL (t := 263 + (3 + 1)) (k := 27) rfl (by omega)]; exact hP (243 + 26) _ (wcM (by omega))
      · rw [aL (t := 271 + 2) (k := 28) rfl (by omega), aL (t := 263 + (3 + 2)) (k := 29) rfl (by omega)]; exact hP (243 + 28) _ (wcM (by omega))
      · rw [aL (t := 271 + 3) (k := 30) rfl (by omega), aL (t := 263 + (3 + 3)) (k := 31) rfl (by omega)]; exact hP (243 + 30) _ (wcM (by omega))
    by_cases c276 : t < 276
    · obtain rfl : t = 275 := by omega
      rw [lyMChk]
      unfold fsMChk
      rw [a275, m0f (by omega) (by omega)]
      exact hP (275 + 0) _ (wcC (k := 0))
    by_cases c277 : t < 277
    · obtain rfl : t = 276 := by omega
      rw [lyMaRow, a276]
      refine at_ref (hP (275 + 1) _ (wcC (k := 1))) (fun j hj => ?_)
      rw [aR (pRow hj)]
      exact if_pos hj
    obtain ⟨i, rfl⟩ : ∃ i, t = 277 + i := ⟨t - 277, by omega⟩
    rw [lyMRow (by omega)]
    unfold fsMRow
    rw [aR (pRow (by omega)), m0f (by omega) (by omega)]
    exact hP (277 + i) _ (wcR (by omega))
  · rw [gw_out h9] at ht
    cases ht
theorem conv10D {cA : Nat → ClassId} {h0 qa qr : Nat} {Q R : Nat → Nat → Nat} {qp qm qc : Nat → Nat} {A : Nat → Prop} (hD : va_D A (wcX10_init cA h0 qa qr Q R qp qm qc)) : gD A 289 (adM h0 qa qr Q R qp qm qc) := by
  have hp : ∀ p, p < 289 → ∃ e, (wcX10_init cA h0 qa qr Q R qp qm qc)[p]? = some (adr h0 qa qr Q R qp qm qc p, e) := by
    intro p hp
    unfold adr
    by_cases c1 : p < 1
    · rw [if_pos c1]
      obtain rfl : p = 0 := by omega
      exact ⟨_, rfl⟩
    rw [if_neg c1]
    by_cases c2 : p < 2
    · rw [if_pos c2]
      obtain rfl : p = 1 := by omega
      exact ⟨_, rfl⟩
    rw [if_neg c2]
    by_cases c3 : p < 242
    · rw [if_pos c3]
      have e := wcD (cA := cA) (h0 := h0) (qa := qa) (qr := qr) (Q := Q) (R := R) (qp := qp) (qm := qm) (qc := qc) (show (p - 2) / 12 < 20 by omega) (show (p - 2) % 12 < 12 by omega)
      rw [show 2 + 12 * ((p - 2) / 12) + (p - 2) % 12 = p by omega] at e
      rw [e]
      have hk : (p - 2) % 12 < 12 := by omega
      generalize (p - 2) % 12 = k at hk ⊢
      rcases (show k = 0 ∨ k = 1 ∨ k = 2 ∨ k = 3 ∨ k = 4 ∨ k = 5 ∨ k = 6 ∨ k = 7 ∨ k = 8 ∨ k = 9 ∨ k = 10 ∨ k = 11 by omega) with rfl | rfl | rfl | rfl | rfl | rfl | rfl | rfl | rfl | rfl | rfl | rfl
      all_goals exact ⟨_, rfl⟩
    rw [if_neg c3]
    by_cases c4 : p < 243
    · rw [if_pos c4]
      obtain rfl : p = 242 + 0 := by omega
      exact ⟨_, wcR0⟩
    rw [if_neg c4]
    by_cases c5 : p < 275
    · rw [if_pos c5]
      have e := wcM (cA := cA) (h0 := h0) (qa := qa) (qr := qr) (Q := Q) (R := R) (qp := qp) (qm := qm) (qc := qc) (show p - 243 < 32 by omega)
      rw [show 243 + (p - 243) = p by omega] at e
      rw [e]
      have hk : p - 243 < 32 := by omega
      generalize p - 243 = k at hk ⊢
      rcases (show k = 0 ∨ k = 1 ∨ k = 2 ∨ k = 3 ∨ k = 4 ∨ k = 5 ∨ k = 6 ∨ k = 7 ∨ k = 8 ∨ k = 9 ∨ k = 10 ∨ k = 11 ∨ k = 12 ∨ k = 13 ∨ k = 14 ∨ k = 15 ∨ k = 16 ∨ k = 17 ∨ k = 18 ∨ k = 19 ∨ k = 20 ∨ k = 21 ∨ k = 22 ∨ k = 23 ∨ k = 24 ∨ k = 25 ∨ k = 26 ∨ k = 27 ∨ k = 28 ∨ k = 29 ∨ k = 30 ∨ k = 31 by omega) with rfl | rfl | rfl | rfl | rfl | rfl | rfl | rfl | rfl | rfl | rfl | rfl | rfl | rfl | rfl | rfl | rfl | rfl | rfl | rfl | rfl | rfl | rfl | rfl | rfl | rfl | rfl | rfl | rfl | rfl | rfl | rfl
      all_goals exact ⟨_, rfl⟩
    rw [if_neg c5]
    by_cases c6 : p < 276
    · rw [if_pos c6]
      obtain rfl : p = 275 + 0 := by omega
      exact ⟨_, wcC⟩
    rw [if_neg c6]
    by_cases c7 : p < 277
    · rw [if_pos c7]
      obtain rfl : p = 275 + 1 := by omega
      exact ⟨_, wcC⟩
    rw [if_neg c7]
    obtain ⟨k, rfl⟩ : ∃ k, p = 277 + k := ⟨p - 277, by omega⟩
    rw [Nat.add_sub_cancel_left]
    exact ⟨_, wcR (by omega)⟩
  refine ⟨fun i j hi hj hij => ?_, fun t ht => ?_⟩
  · obtain ⟨i1, i2⟩ := inv_pos i hi
    obtain ⟨j1, j2⟩ := inv_pos j hj
    obtain ⟨e1, h1⟩ := hp _ i2
    obtain ⟨e2, h2⟩ := hp _ j2
    have := hD.1 _ _ _ _ h1 h2 hij
    rw [← i1, ← j1, this]
  · obtain ⟨i1, i2⟩ := inv_pos t ht
    obtain ⟨e1, h1⟩ := hp _ i2
    exact hD.2 _ _ h1
theorem conv11 {cA : Nat → ClassId} {q : Nat → Nat} : gw 40 (layN q cA) q memN = wcX11_init cA q := by
  unfold wcX11_init gw
  have e : (0 : Int64) = mk64 0 0 := by decide
  rw [e]
  rfl
theorem conv11D {cA : Nat → ClassId} {q : Nat → Nat} {A : Nat → Prop} (hD : va_D A (wcX11_init cA q)) : gD A 40 q := by
  rw [← conv11] at hD
  exact ⟨fun i j hi hj e => hD.1 i j _ _ (gw_at hi) (gw_at hj) e, fun t ht => hD.2 t _ (gw_at ht)⟩
theorem rel0 : Rel 0 mem0 memN := by
  have z : (0 : Int32) = nI 0 := rfl
  refine ⟨0, ⟨by omega, m0 (by omega) (by omega), rfl, fun d hd => by omega, fun d hd => ⟨m0 (by omega) (by omega), Or.inl rfl⟩, fun i hi => ⟨0, by omega, m0 (by omega) (by omega), rfl, fun j hj => by omega⟩, fun d hd => ⟨m0 (by omega) (by omega), Or.inl rfl, 0, by omega, m0 (by omega) (by omega), rfl, fun j hj => by omega⟩, ⟨fun d hd => by omega, fun d _ hd => m0r hd⟩, fun d hd j hj => ⟨m0 (by omega) (by omega), 0, by omega, rfl⟩, ⟨fun d hd => by omega, fun d _ hd => m0 (by omega) (by omega), m0 (by omega) (by omega), m0 (by omega) (by omega), m0 (by omega) (by omega), m0p (by omega)⟩⟩, ⟨⟨m0 (by omega) (by omega), Or.inl rfl, fun h => absurd h (by decide)⟩, ⟨0, by omega, m0 (by omega) (by omega), rfl, fun _ => rfl, fun i hi => by omega⟩, ⟨0, by omega, m0 (by omega) (by omega), rfl, fun j hj => by omega⟩, ⟨0, by omega, m0 (by omega) (by omega), rfl, fun _ => rfl, fun i hi => by omega⟩, ⟨0, by omega, m0 (by omega) (by omega), rfl, fun _ => rfl, fun i hi => by omega⟩⟩, ⟨m0 (by omega) (by omega), m0 (by omega) (by omega)⟩, ⟨0, by omega, m0 (by omega) (by omega), rfl, fun j hj => by omega⟩, 0, by omega, m0 (by omega) (by omega), rfl⟩
