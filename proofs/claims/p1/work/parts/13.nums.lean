/-- the reference's frame: cells of S, places T of the object's own cell -/
def Kq (S T : List Nat) (g g2 : Mem) : Prop := (∀ k, k ∉ S → k ≠ 34 → g2 k = g k) ∧ ∀ j, j ∉ T → g2 34 j = g 34 j
theorem Kq.rf {S T : List Nat} {g : Mem} : Kq S T g g := ⟨fun _ _ _ => rfl, fun _ _ => rfl⟩
theorem Kq.upA {S T : List Nat} {g g2 : Mem} {k i : Nat} {x : Int32} (h : Kq S T g g2) (hk : k ∈ S) (h1 : k ≠ 34) : Kq S T g (up2 g2 k i x) := by
  refine ⟨fun a ha hb => ?_, fun j hj => ?_⟩
  · have e : a ≠ k := fun e => ha (by rw [e]; exact hk)
    rw [up2_ne e]; exact h.1 a ha hb
  · rw [up2_ne (Ne.symm h1)]; exact h.2 j hj
theorem Kq.upF {S T : List Nat} {g g2 : Mem} {i : Nat} {x : Int32} (h : Kq S T g g2) (hj : i ∈ T) : Kq S T g (up2 g2 34 i x) := by
  refine ⟨fun a ha hb => ?_, fun j hj' => ?_⟩
  · rw [up2_ne hb]; exact h.1 a ha hb
  · have e : j ≠ i := fun e => hj' (by rw [e]; exact hj)
    rw [up2_nei (Or.inr e)]; exact h.2 j hj'
theorem Kq.tr {S T S' T' : List Nat} {g g2 g3 : Mem} (h : Kq S T g g2) (h2 : Kq S' T' g2 g3) (hs : ∀ k ∈ S', k ∈ S) (ht : ∀ k ∈ T', k ∈ T) : Kq S T g g3 := ⟨fun a ha hb => (h2.1 a (fun q => ha (hs a q)) hb).trans (h.1 a ha hb), fun j hj => (h2.2 j (fun q => hj (ht j q))).trans (h.2 j hj)⟩
theorem lc_lt {x y : Int64} (h : lg_cmp x y < 0) : x.toInt < y.toInt := Int64.lt_iff_toInt_lt.mp ((lg_cmp_lt x y).mp h)
theorem lc_nlt {x y : Int64} (h : ¬ lg_cmp x y < 0) : y.toInt ≤ x.toInt := by rw [lg_cmp_lt, Int64.lt_iff_toInt_lt] at h; omega
theorem lc_gt {x y : Int64} (h : 0 < lg_cmp x y) : y.toInt < x.toInt := Int64.lt_iff_toInt_lt.mp ((lg_cmp_gt x y).mp h)
theorem lc_ngt {x y : Int64} (h : ¬ 0 < lg_cmp x y) : x.toInt ≤ y.toInt := by rw [lg_cmp_gt, Int64.lt_iff_toInt_lt] at h; omega
theorem i2l_t (x : Int32) : x.toInt64.toInt = x.toInt := Int32.toInt_toInt64 x
theorem i_div {x y : Int32} {a b : Int} (hx : x.toInt = a) (h0 : 0 ≤ a) (hy : y.toInt = b) (hb : 0 < b) : (x / y).toInt = a / b := by
  subst hx; subst hy
  rw [Int32.toInt_div, Int.tdiv_eq_ediv_of_nonneg h0]
  have h1 : 0 ≤ x.toInt / y.toInt := Int.ediv_nonneg h0 (by omega)
  have h2 : x.toInt / y.toInt ≤ x.toInt := Int.ediv_le_self _ h0
  have h3 := Int32.toInt_lt x
  exact Int.bmod_eq_of_le (by omega) (by omega)
theorem i_rem {x y : Int32} {a b : Int} (hx : x.toInt = a) (h0 : 0 ≤ a) (hy : y.toInt = b) (hb : 0 < b) : (x - x / y * y).toInt = a % b := by
  have h1 := i_div hx h0 hy hb
  have h2 : 0 ≤ a % b := Int.emod_nonneg _ (by omega)
  have h3 : a % b ≤ a := by rw [Int.emod_def]; have := Int.mul_nonneg (show 0 ≤ b by omega) (Int.ediv_nonneg h0 (show 0 ≤ b by omega)); omega
  have h4 := Int32.toInt_lt x
  have h5 : a / b * b = a - a % b := by rw [Int.emod_def, Int.mul_comm]; omega
  rw [i_sub hx (i_mul h1 hy (by omega) (by omega)) (by omega) (by omega)]
  omega
theorem R01.orc {x : Int32} (h : R01 x) : R01 (x ||| 0) ∧ R01 (x ||| 1) ∧ R01 (x &&& 0) ∧ R01 (x &&& 1) := by
  rcases h with rfl | rfl <;> exact ⟨by first | exact Or.inl rfl | exact Or.inr rfl, by first | exact Or.inl rfl | exact Or.inr rfl, by first | exact Or.inl rfl | exact Or.inr rfl, by first | exact Or.inl rfl | exact Or.inr rfl⟩
