/-- the parts of a path: each within the 60 entries -/
def n_pp (g : Mem) (p : Int32) : Prop := ∀ j : Nat, (j : Int) < p.toInt → 0 ≤ (g 54 j).toInt ∧ 0 ≤ (g 55 j).toInt ∧ (g 54 j).toInt + (g 55 j).toInt ≤ 60
theorem n_pp0 {g : Mem} : n_pp g 0 := fun j hj => absurd hj (by rw [show (0 : Int32).toInt = 0 by decide]; omega)
theorem n_pp_add {g : Mem} {p p' a b : Int32} (h : n_pp g p) (hp : 0 ≤ p.toInt) (hp' : p'.toInt = p.toInt + 1) (ha : 0 ≤ a.toInt) (hb : 0 ≤ b.toInt) (hab : a.toInt + b.toInt ≤ 60) : n_pp (up2 (up2 g 54 p.toNatClampNeg a) 55 p.toNatClampNeg b) p' := by
  intro j hj
  have hc := i_cl hp
  by_cases e : j = p.toNatClampNeg
  · subst e
    rw [up2_self, up2_nei (Or.inl (by decide)), up2_self]
    exact ⟨ha, hb, hab⟩
  · rw [up2_nei (Or.inl (by decide)), up2_nei (Or.inr e), up2_nei (Or.inr e), up2_nei (Or.inl (by decide))]
    exact h j (by omega)
theorem n_pp_eq {g g' : Mem} {p : Int32} (h : n_pp g p) (h1 : g' 54 = g 54) (h2 : g' 55 = g 55) : n_pp g' p := by
  intro j hj; rw [h1, h2]; exact h j hj
/-- how much is left at a depth -/
def n_hl (left d : Int32) : Prop := (d.toInt = 0 ∧ left.toInt ≤ 64) ∨ (d.toInt = 1 ∧ left.toInt ≤ 32) ∨ (d.toInt = 2 ∧ left.toInt ≤ 16) ∨ (d.toInt = 3 ∧ left.toInt ≤ 8) ∨ (d.toInt = 4 ∧ left.toInt ≤ 4) ∨ (d.toInt = 5 ∧ left.toInt ≤ 2) ∨ (d.toInt = 6 ∧ left.toInt ≤ 1)
theorem n_hl0 {left : Int32} (h : left.toInt ≤ 60) : n_hl left 0 := Or.inl ⟨by decide, by omega⟩
theorem n_hl1 {left d k left' d' : Int32} (h : n_hl left d) (hk : n_p2 k) (h1 : k.toInt < left.toInt) (h2 : left.toInt ≤ 2 * k.toInt) (hd : d'.toInt = d.toInt + 1) (hl : left'.toInt = k.toInt ∨ left'.toInt = left.toInt - k.toInt) : n_hl left' d' := by
  unfold n_hl n_p2 at *
  omega
theorem n_hld {left d : Int32} (h : n_hl left d) (h1 : 1 < left.toInt) : 0 ≤ d.toInt ∧ d.toInt ≤ 5 := by
  unfold n_hl at h
  omega
theorem n_hle {left d : Int32} (h : n_hl left d) : 0 ≤ d.toInt ∧ d.toInt ≤ 6 := by
  unfold n_hl at h
  omega
