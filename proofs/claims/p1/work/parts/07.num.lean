/-! numbers: toInt of what the rows make, no wrap -/
theorem i_lit {x : Int32} {n : Int} (h : x.toInt = n) : x.toInt = n := h
theorem i_add {x y : Int32} {a b : Int} (hx : x.toInt = a) (hy : y.toInt = b) (h1 : -2147483648 ≤ a + b) (h2 : a + b < 2147483648) : (x + y).toInt = a + b := by
  subst hx; subst hy
  rw [Int32.toInt_add]
  exact Int.bmod_eq_of_le (by omega) (by omega)
theorem i_sub {x y : Int32} {a b : Int} (hx : x.toInt = a) (hy : y.toInt = b) (h1 : -2147483648 ≤ a - b) (h2 : a - b < 2147483648) : (x - y).toInt = a - b := by
  subst hx; subst hy
  rw [Int32.toInt_sub]
  exact Int.bmod_eq_of_le (by omega) (by omega)
theorem i_mul {x y : Int32} {a b : Int} (hx : x.toInt = a) (hy : y.toInt = b) (h1 : -2147483648 ≤ a * b) (h2 : a * b < 2147483648) : (x * y).toInt = a * b := by
  subst hx; subst hy
  rw [Int32.toInt_mul]
  exact Int.bmod_eq_of_le (by omega) (by omega)
theorem i_shr {x s : Int32} {a : Int} (hx : x.toInt = a) (k : Nat) (hs : ((s &&& 31).toBitVec.smod 32).toNat = k) : (x >>> (s &&& 31)).toInt = a / 2 ^ k := by
  subst hx
  rw [pk_shr _ _ k hs, Int.shiftRight_eq_div_pow]
  simp
theorem i_and (x : Int32) {m : Int32} (k : Nat) (hm : m.toBitVec.toNat = 2 ^ k - 1) (hk : k ≤ 30) : 0 ≤ (x &&& m).toInt ∧ (x &&& m).toInt < 2 ^ k := by
  have h := vp_in_iff.mp (pk_andIn x k hm hk)
  exact ⟨h.1, by exact_mod_cast h.2⟩
theorem i_in {x : Int32} {n : Nat} (h0 : 0 ≤ x.toInt) (h1 : x.toInt < n) : vp_in x n := vp_in_iff.mpr ⟨h0, h1⟩
theorem i_lt {x y : Int32} (h : x < y) : x.toInt < y.toInt := Int32.lt_iff_toInt_lt.mp h
theorem i_le {x y : Int32} (h : x ≤ y) : x.toInt ≤ y.toInt := Int32.le_iff_toInt_le.mp h
theorem i_nlt {x y : Int32} (h : ¬ x < y) : y.toInt ≤ x.toInt := by rw [Int32.lt_iff_toInt_lt] at h; omega
theorem i_nle {x y : Int32} (h : ¬ x ≤ y) : y.toInt < x.toInt := by rw [Int32.le_iff_toInt_le] at h; omega
theorem i_eq {x y : Int32} (h : x = y) : x.toInt = y.toInt := by rw [h]
theorem i_ne {x y : Int32} (h : ¬ x = y) : x.toInt ≠ y.toInt := fun e => h (Int32.toInt_inj.mp e)
theorem i_cl {x : Int32} (h : 0 ≤ x.toInt) : (x.toNatClampNeg : Int) = x.toInt := by
  rw [← Int32.toNat_toInt]; omega
section MI
variable {X : XT} {p : Program} {l : Launch} {e : Env} {R : Room} {s : State} {m : MethodId} {args : Array Value} {below : List Frame} {meth : Method} {c : Code} {nL cells slots : Nat} {Q : State → Prop} {pc : Nat} {lv : List (Nat × Value)} {st : List Value}
theorem rI {PI : Int32 → Mem → Prop} (k : ∀ v g', PI v g' → Wm X p l e R s m args below meth c nL cells slots Q g' pc lv (.int v :: st)) : ∀ r g', pI PI r g' → Wm X p l e R s m args below meth c nL cells slots Q g' pc lv (r.toList ++ st) := fun _ g' h => by
  obtain ⟨v, rfl, h⟩ := h
  exact k v g' h
theorem rJ {PI : Int64 → Mem → Prop} (k : ∀ v g', PI v g' → Wm X p l e R s m args below meth c nL cells slots Q g' pc lv (.long v :: st)) : ∀ r g', pJ PI r g' → Wm X p l e R s m args below meth c nL cells slots Q g' pc lv (r.toList ++ st) := fun _ g' h => by
  obtain ⟨v, rfl, h⟩ := h
  exact k v g' h
theorem rV {PV : Mem → Prop} (k : ∀ g', PV g' → Wm X p l e R s m args below meth c nL cells slots Q g' pc lv st) : ∀ r g', pV PV r g' → Wm X p l e R s m args below meth c nL cells slots Q g' pc lv (r.toList ++ st) := fun _ g' h => by
  obtain ⟨rfl, h⟩ := h
  exact k g' h
end MI
