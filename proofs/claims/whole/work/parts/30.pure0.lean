/-! small laws of the pictures' words -/
def isB (x : Int32) : Prop := x = 0 ∨ x = 1
/-- a number below n -/
def isN (n : Nat) (x : Int32) : Prop := ∃ k, k < n ∧ x = nI k
theorem grd_y {β : Type} {b : Bool} {k : Option β} (h : b = true) : grd b k = k := if_pos h
theorem gin_y {k n : Nat} (h : k < n) (hn : n < 2 ^ 31) : gin (nI k) n = true := decide_eq_true (vp_in_nI h hn)
theorem grd_n {β : Type} {k n : Nat} {q : Option β} (h : k < n) (hn : n < 2 ^ 31) : grd (gin (nI k) n) q = q := grd_y (gin_y h hn)
theorem grd_z0 {β : Type} {q : Option β} : grd (gz 0) q = q := grd_y (by decide)
theorem grd_z1 {β : Type} {q : Option β} : grd (gz 1) q = q := grd_y (by decide)
theorem grd_zB {β : Type} {x : Int32} {q : Option β} (h : isB x) : grd (gz x) q = q := grd_y (decide_eq_true h)
theorem grd_lt {β : Type} {i n : Nat} {q : Option β} (h : i < n) : grd (decide (i < n)) q = q := grd_y (decide_eq_true h)
theorem bn1_e {α γ : Type} {a : α} {f : α → Option γ} : bn1 (some a) f = f a := rfl
theorem bn2_e {α β γ : Type} {a : α} {b : β} {f : α → β → Option γ} : bn2 (some (a, b)) f = f a b := rfl
theorem nm_x {α β : Type} {x : α} {f : α → β} : nm x f = f x := rfl
theorem opc_1 {α β : Type} {a : β} {f : α → β} : opc none a f = a := rfl
theorem opc_2 {α β : Type} {q : α} {a : β} {f : α → β} : opc (some q) a f = f q := rfl
theorem upd_s {f : Nat → Int32} {k : Nat} {x : Int32} : upd f k x k = x := if_pos rfl
theorem upd_n {f : Nat → Int32} {k j : Nat} {x : Int32} (h : j ≠ k) : upd f k x j = f j := if_neg h
theorem up2_e {M : Mm} {t k : Nat} {v : Int32} : up2 M t k v t k = v := by rw [up2_s]; exact upd_s
theorem up2_k {M : Mm} {t k j : Nat} {v : Int32} (h : j ≠ k) : up2 M t k v t j = M t j := by rw [up2_s]; exact upd_n h
theorem up2_t {M : Mm} {t a k j : Nat} {v : Int32} (h : a ≠ t) : up2 M t k v a j = M a j := by rw [up2_n M k v h]
theorem up2_or {M : Mm} {t a k j : Nat} {v : Int32} (h : a ≠ t ∨ j ≠ k) : up2 M t k v a j = M a j := by
  by_cases ha : a = t
  · subst ha
    exact up2_k (h.elim (fun q => absurd rfl q) id)
  · exact up2_t ha
theorem cN {k : Nat} (h : k < 2 ^ 31) : (nI k).toNatClampNeg = k := nI_clamp h
theorem isN_mono {a b : Nat} {x : Int32} (h : a ≤ b) (q : isN a x) : isN b x := by
  obtain ⟨k, hk, e⟩ := q
  exact ⟨k, by omega, e⟩
/-- is it a number below n, or out of bounds -/
theorem nI_cases (x : Int32) {n : Nat} (hn : n < 2 ^ 31) : isN n x ∨ (x < 0 ∨ nI n ≤ x) := by
  rcases pk_ix x hn with h | h | ⟨j, hj, e⟩
  · exact Or.inr (Or.inl h)
  · exact Or.inr (Or.inr h)
  · exact Or.inl ⟨j, hj, e⟩
theorem within_y {a lo hi : Int32} (h1 : lo ≤ a) (h2 : a ≤ hi) : fX10_isWithin a lo hi = some 1 := by
  unfold fX10_isWithin
  rw [if_neg (by intro q; exact absurd h1 (by rw [Int32.not_le]; exact q)), if_neg (by intro q; exact absurd h2 (by rw [Int32.not_le]; exact q))]
theorem within_n {a lo hi : Int32} (h : a < lo ∨ hi < a) : fX10_isWithin a lo hi = some 0 := by
  unfold fX10_isWithin
  by_cases h1 : a < lo
  · rw [if_pos h1]
  · rw [if_neg h1, if_pos (h.elim (fun q => absurd q h1) id)]
/-- within 0 .. n-1, n a number -/
theorem within_N {k n : Nat} (h : k < n) (hn : n < 2 ^ 31) : fX10_isWithin (nI k) 0 (nI n - 1) = some 1 := by
  obtain ⟨q, rfl⟩ : ∃ q, n = q + 1 := ⟨n - 1, by omega⟩
  rw [nI_pred]
  exact within_y (nI_pos' (by omega)) (nI_le (by omega) (by omega))
theorem within_N' {x : Int32} {n : Nat} (h : x < 0 ∨ nI n ≤ x) (hn : n < 2 ^ 31) : fX10_isWithin x 0 (nI n - 1) = some 0 := by
  rcases h with h | h
  · exact within_n (Or.inl h)
  · by_cases h0 : x < 0
    · exact within_n (Or.inl h0)
    · obtain ⟨j, hj, rfl⟩ := nI_of h0
      have hle : n ≤ j := (nI_leI hn hj).mp h
      cases n with
      | zero =>
        refine within_n (Or.inr ?_)
        have : (nI 0 - 1 : Int32) < 0 := by decide
        exact Int32.lt_of_lt_of_le this (nI_pos' hj)
      | succ q =>
        rw [nI_pred]
        exact within_n (Or.inr (nI_lt (by omega) hj))
