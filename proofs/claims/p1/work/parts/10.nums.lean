theorem t_of {x : Int32} {n : Int} {y : Int32} (h : x.toInt = n) (hy : y.toInt = n) : x = y := Int32.toInt_inj.mp (h.trans hy.symm)
theorem n_node {lv sx : Int32} (h : 0 ≤ lv.toInt ∧ lv.toInt ≤ 6) (h2 : 0 ≤ sx.toInt ∧ sx.toInt ≤ 63) : 0 ≤ ((128 : Int32) - ((128 : Int32) >>> (lv &&& 31)) + (sx >>> (lv &&& 31))).toInt ∧ ((128 : Int32) - ((128 : Int32) >>> (lv &&& 31)) + (sx >>> (lv &&& 31))).toInt ≤ 126 := by
  obtain ⟨a, ha, rfl⟩ : ∃ a : Nat, a < 7 ∧ lv = nI a := ⟨lv.toInt.toNat, by omega, t_of (n := lv.toInt) rfl (by rw [nI_toInt (by omega)]; omega)⟩
  obtain ⟨b, hb, rfl⟩ : ∃ b : Nat, b < 64 ∧ sx = nI b := ⟨sx.toInt.toNat, by omega, t_of (n := sx.toInt) rfl (by rw [nI_toInt (by omega)]; omega)⟩
  have key : ∀ a, a < 7 → ∀ b, b < 64 → 0 ≤ ((128 : Int32) - ((128 : Int32) >>> (nI a &&& 31)) + (nI b >>> (nI a &&& 31))).toInt ∧ ((128 : Int32) - ((128 : Int32) >>> (nI a &&& 31)) + (nI b >>> (nI a &&& 31))).toInt ≤ 126 := by decide +kernel
  exact key a ha b hb
theorem n_pow {lv en : Int32} (h1 : 1 ≤ lv.toInt) (h2 : lv.toInt ≤ 6) (h3 : 1 ≤ en.toInt) (h4 : en.toInt ≤ 60) (h : (en >>> (lv &&& 31)) <<< (lv &&& 31) = en) : 1 ≤ ((1 : Int32) <<< ((lv - 1) &&& 31)).toInt ∧ ((1 : Int32) <<< ((lv - 1) &&& 31)).toInt ≤ 32 ∧ 2 * ((1 : Int32) <<< ((lv - 1) &&& 31)).toInt ≤ en.toInt := by
  obtain ⟨a, ha, rfl⟩ : ∃ a : Nat, a < 7 ∧ lv = nI a := ⟨lv.toInt.toNat, by omega, t_of (n := lv.toInt) rfl (by rw [nI_toInt (by omega)]; omega)⟩
  obtain ⟨b, hb, rfl⟩ : ∃ b : Nat, b < 61 ∧ en = nI b := ⟨en.toInt.toNat, by omega, t_of (n := en.toInt) rfl (by rw [nI_toInt (by omega)]; omega)⟩
  have key : ∀ a, a < 7 → ∀ b, b < 61 → (1 ≤ (nI a).toInt ∧ 1 ≤ (nI b).toInt ∧ (nI b >>> (nI a &&& 31)) <<< (nI a &&& 31) = nI b) → 1 ≤ ((1 : Int32) <<< ((nI a - 1) &&& 31)).toInt ∧ ((1 : Int32) <<< ((nI a - 1) &&& 31)).toInt ≤ 32 ∧ 2 * ((1 : Int32) <<< ((nI a - 1) &&& 31)).toInt ≤ (nI b).toInt := by decide +kernel
  exact key a ha b hb ⟨h1, h3, h⟩
/-- the start of the smaller runs, at a level -/
def n_inv (len start lv ti : Int32) : Prop := start.toInt = ti.toInt - len.toInt % (2 ^ lv.toInt.toNat : Nat)
theorem n_in0 {len ti : Int32} : n_inv len ti 0 ti := by
  show ti.toInt = _
  simp
theorem n_st {len start lv ti : Int32} (h : n_inv len start lv ti) (h1 : 1 ≤ len.toInt) (h2 : len.toInt ≤ 60) (h3 : 0 ≤ lv.toInt) (h4 : lv.toInt ≤ 6) : (len &&& ((1 : Int32) <<< (lv &&& 31)) = 0 → n_inv len start (lv + Int32.ofInt 1) ti) ∧ (¬ len &&& ((1 : Int32) <<< (lv &&& 31)) = 0 → ∀ s2 : Int32, s2.toInt = start.toInt - ((1 : Int32) <<< (lv &&& 31)).toInt → n_inv len s2 (lv + Int32.ofInt 1) ti) ∧ 1 ≤ ((1 : Int32) <<< (lv &&& 31)).toInt ∧ ((1 : Int32) <<< (lv &&& 31)).toInt ≤ 64 ∧ (¬ len &&& ((1 : Int32) <<< (lv &&& 31)) = 0 → ti.toInt - len.toInt ≤ start.toInt - ((1 : Int32) <<< (lv &&& 31)).toInt) ∧ start.toInt ≤ ti.toInt := by
  obtain ⟨a, ha, rfl⟩ : ∃ a : Nat, a < 7 ∧ lv = nI a := ⟨lv.toInt.toNat, by omega, t_of (n := lv.toInt) rfl (by rw [nI_toInt (by omega)]; omega)⟩
  obtain ⟨b, hb, rfl⟩ : ∃ b : Nat, b < 61 ∧ len = nI b := ⟨len.toInt.toNat, by omega, t_of (n := len.toInt) rfl (by rw [nI_toInt (by omega)]; omega)⟩
  have key : ∀ a, a < 7 → ∀ b, b < 61 → (nI b &&& ((1 : Int32) <<< (nI a &&& 31)) = 0 → (nI b).toInt % (2 ^ (nI a + Int32.ofInt 1).toInt.toNat : Nat) = (nI b).toInt % (2 ^ (nI a).toInt.toNat : Nat)) ∧ (¬ nI b &&& ((1 : Int32) <<< (nI a &&& 31)) = 0 → (nI b).toInt % (2 ^ (nI a + Int32.ofInt 1).toInt.toNat : Nat) = (nI b).toInt % (2 ^ (nI a).toInt.toNat : Nat) + ((1 : Int32) <<< (nI a &&& 31)).toInt) ∧ 1 ≤ ((1 : Int32) <<< (nI a &&& 31)).toInt ∧ ((1 : Int32) <<< (nI a &&& 31)).toInt ≤ 64 ∧ (¬ nI b &&& ((1 : Int32) <<< (nI a &&& 31)) = 0 → (nI b).toInt % (2 ^ (nI a).toInt.toNat : Nat) + ((1 : Int32) <<< (nI a &&& 31)).toInt ≤ (nI b).toInt) ∧ 0 ≤ (nI b).toInt % (2 ^ (nI a).toInt.toNat : Nat) := by decide +kernel
  obtain ⟨k1, k2, k3, k4, k5, k6⟩ := key a ha b hb
  unfold n_inv at h ⊢
  refine ⟨fun q => ?_, fun q s2 e => ?_, k3, k4, fun q => ?_, ?_⟩
  · rw [k1 q]; exact h
  · rw [k2 q, e, h]; omega
  · have := k5 q; omega
  · omega
