/-- powers of two up to 32 -/
def n_p2 (x : Int32) : Prop := x.toInt = 1 ∨ x.toInt = 2 ∨ x.toInt = 4 ∨ x.toInt = 8 ∨ x.toInt = 16 ∨ x.toInt = 32
theorem n_p2_1 : n_p2 1 := Or.inl (by decide)
theorem n_p2_2 {x : Int32} (h : n_p2 x) (h2 : x.toInt < 30) : n_p2 ((2 : Int32) * x) := by
  have e : ((2 : Int32) * x).toInt = 2 * x.toInt := i_mul (by decide) rfl (by unfold n_p2 at h; omega) (by omega)
  unfold n_p2 at h ⊢
  rw [e]; omega
/-- the bits of a number, the highest first -/
def bl (i : Nat) : List Nat := [32, 16, 8, 4, 2, 1].filter (fun b => i / b % 2 == 1)
def n_pile (ps : Nat → Int32) (top i : Int32) : Prop := 0 ≤ i.toInt ∧ i.toInt ≤ 60 ∧ top.toInt = ((bl i.toInt.toNat).length : Nat) ∧ ∀ j : Nat, (j : Int) < top.toInt → (ps j).toInt = ((bl i.toInt.toNat).getD j 0 : Nat)
theorem n_pile0 (ps : Nat → Int32) : n_pile ps 0 0 := by
  have e : (0 : Int32).toInt = 0 := by decide
  exact ⟨by decide, by decide, by decide, fun j hj => absurd hj (by rw [e]; omega)⟩
theorem bl_len : ∀ i, i < 61 → (bl i).length ≤ 6 ∧ (1 ≤ i → 1 ≤ (bl i).length) := by decide +kernel
theorem n_pile_top {ps : Nat → Int32} {top i : Int32} (h : n_pile ps top i) : 0 ≤ top.toInt ∧ top.toInt ≤ 6 ∧ (1 ≤ i.toInt → 1 ≤ top.toInt) := by
  obtain ⟨h1, h2, h3, -⟩ := h
  have := bl_len i.toInt.toNat (by omega)
  refine ⟨by omega, by omega, fun q => ?_⟩
  have := this.2 (by omega)
  omega
def n_carry (ps : Nat → Int32) (top i w : Int32) : Prop := 0 ≤ i.toInt ∧ i.toInt ≤ 59 ∧ 0 ≤ top.toInt ∧ ∃ t : Nat, t ≤ 6 ∧ w.toInt = (2 ^ t : Nat) ∧ i.toInt.toNat % 2 ^ t = 2 ^ t - 1 ∧ top.toInt + t = ((bl i.toInt.toNat).length : Nat) ∧ ∀ j : Nat, (j : Int) < top.toInt → (ps j).toInt = ((bl i.toInt.toNat).getD j 0 : Nat)
theorem n_carry0 {ps : Nat → Int32} {top i : Int32} (h : n_pile ps top i) (h2 : i.toInt ≤ 59) : n_carry ps top i 1 := by
  have ht := n_pile_top h
  obtain ⟨h1, -, h3, h4⟩ := h
  exact ⟨h1, h2, ht.1, 0, by omega, by decide, by omega, by omega, h4⟩
theorem n_carry_top {ps : Nat → Int32} {top i w : Int32} (h : n_carry ps top i w) : 0 ≤ top.toInt ∧ top.toInt ≤ 6 ∧ 1 ≤ w.toInt ∧ w.toInt ≤ 64 := by
  obtain ⟨h1, h2, h3, t, h4, h5, h6, h7, -⟩ := h
  have := (bl_len i.toInt.toNat (by omega)).1
  have hp : ∀ t, t < 7 → 1 ≤ 2 ^ t ∧ 2 ^ t ≤ 64 := by decide
  have := hp t (by omega)
  omega
theorem bl_A : ∀ i, i < 60 → ∀ t, t < 7 → i % 2 ^ t = 2 ^ t - 1 → t < (bl i).length → (bl i).getD ((bl i).length - t - 1) 0 = 2 ^ t → t < 6 ∧ i % 2 ^ (t + 1) = 2 ^ (t + 1) - 1 := by
  have key : ∀ i, i < 60 → ∀ t, t < 7 → (i % 2 ^ t = 2 ^ t - 1 ∧ t < (bl i).length ∧ (bl i).getD ((bl i).length - t - 1) 0 = 2 ^ t) → t < 6 ∧ i % 2 ^ (t + 1) = 2 ^ (t + 1) - 1 := by decide +kernel
  exact fun i hi t ht a b c => key i hi t ht ⟨a, b, c⟩
theorem bl_B : ∀ i, i < 60 → ∀ t, t < 7 → (i % 2 ^ t = 2 ^ t - 1 ∧ t ≤ (bl i).length ∧ (t = (bl i).length ∨ ¬ (bl i).getD ((bl i).length - t - 1) 0 = 2 ^ t)) → (bl (i + 1)).length = (bl i).length - t + 1 ∧ (bl (i + 1)).getD ((bl i).length - t) 0 = 2 ^ t ∧ ∀ j, j < (bl i).length - t → (bl (i + 1)).getD j 0 = (bl i).getD j 0 := by decide +kernel
theorem n_carry1 {ps : Nat → Int32} {top i w top' w' : Int32} (h : n_carry ps top i w) (h0 : 0 < top.toInt) (he : (ps (top - (1 : Int32)).toNatClampNeg).toInt = w.toInt) (ht : top'.toInt = top.toInt - 1) (hw : w'.toInt = 2 * w.toInt) : n_carry ps top' i w' := by
  obtain ⟨h1, h2, h3, t, h4, h5, h6, h7, h8⟩ := h
  have hl := (bl_len i.toInt.toNat (by omega)).1
  have hs : (top - (1 : Int32)).toInt = top.toInt - 1 := i_sub rfl (by decide) (by omega) (by omega)
  have hc : (((top - (1 : Int32)).toNatClampNeg : Nat) : Int) = top.toInt - 1 := by rw [i_cl (by omega), hs]
  have h9 := h8 (top - (1 : Int32)).toNatClampNeg (by omega)
  have e : (top - (1 : Int32)).toNatClampNeg = (bl i.toInt.toNat).length - t - 1 := by omega
  rw [he, h5, e] at h9
  have h10 := bl_A i.toInt.toNat (by omega) t (by omega) h6 (by omega) (by omega)
  refine ⟨h1, h2, by omega, t + 1, by omega, ?_, h10.2, by omega, fun j hj => h8 j (by omega)⟩
  rw [hw, h5, Nat.pow_succ]; omega
theorem n_carry2 {ps ps' : Nat → Int32} {top i w top' i' : Int32} (h : n_carry ps top i w) (hx : ¬ 0 < top.toInt ∨ ¬ (ps (top - (1 : Int32)).toNatClampNeg).toInt = w.toInt) (ht : top'.toInt = top.toInt + 1) (hi : i'.toInt = i.toInt + 1) (hk : ∀ j, j ≠ top.toNatClampNeg → ps' j = ps j) (hn : (ps' top.toNatClampNeg).toInt = w.toInt) : n_pile ps' top' i' := by
  obtain ⟨h1, h2, h3, t, h4, h5, h6, h7, h8⟩ := h
  have hl := (bl_len i.toInt.toNat (by omega)).1
  have hc0 : ((top.toNatClampNeg : Nat) : Int) = top.toInt := i_cl h3
  have hB := bl_B i.toInt.toNat (by omega) t (by omega) ⟨h6, by omega, by
    rcases hx with hx | hx
    · exact Or.inl (by omega)
    · by_cases h0 : 0 < top.toInt
      · have hs : (top - (1 : Int32)).toInt = top.toInt - 1 := i_sub rfl (by decide) (by omega) (by omega)
        have hc : (((top - (1 : Int32)).toNatClampNeg : Nat) : Int) = top.toInt - 1 := by rw [i_cl (by omega), hs]
        have h9 := h8 (top - (1 : Int32)).toNatClampNeg (by omega)
        have e : (top - (1 : Int32)).toNatClampNeg = (bl i.toInt.toNat).length - t - 1 := by omega
        rw [e] at h9 hx
        exact Or.inr (by omega)
      · exact Or.inl (by omega)⟩
  have ei : i'.toInt.toNat = i.toInt.toNat + 1 := by omega
  refine ⟨by omega, by omega, by rw [ei, hB.1]; omega, fun j hj => ?_⟩
  rw [ei]
  by_cases e : j = top.toNatClampNeg
  · rw [e, hn, h5]
    have : top.toNatClampNeg = (bl i.toInt.toNat).length - t := by omega
    rw [this, hB.2.1]
  · rw [hk j e, hB.2.2 j (by omega)]
    exact h8 j (by omega)
theorem iinc_m1 (x : Int32) : x + Int32.ofInt (-1) = x - 1 := by
  rw [Int32.sub_eq_add_neg]
  congr 1
