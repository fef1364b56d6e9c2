/-- what clock does: told of both sides -/
def clk (t v r t2 : Int32) : Prop := (0 ≤ v.toInt ∧ v.toInt ≤ 1000000 ∧ t.toInt + v.toInt ≤ 2000000000 ∧ r.toInt = t.toInt + v.toInt ∧ t2.toInt = t.toInt + v.toInt) ∨ (¬ (0 ≤ v.toInt ∧ v.toInt ≤ 1000000 ∧ t.toInt + v.toInt ≤ 2000000000) ∧ r.toInt = -2 ∧ t2.toInt = t.toInt)
theorem clk_fun {t v r t2 r' t2' : Int32} (h : clk t v r t2) (h' : clk t v r' t2') : r = r' ∧ t2 = t2' := by
  unfold clk at h h'
  exact ⟨Int32.toInt_inj.mp (by omega), Int32.toInt_inj.mp (by omega)⟩
theorem l_add {a b : Int32} : (a.toInt64 + b.toInt64).toInt = a.toInt + b.toInt := by
  have h1 := Int32.toInt_lt a
  have h2 := Int32.toInt_lt b
  have h3 := Int32.le_toInt a
  have h4 := Int32.le_toInt b
  rw [Int64.toInt_add, i2l_t, i2l_t]
  exact Int.bmod_eq_of_le (by omega) (by omega)
