/-- a fresh object: all cells of the class are 0; of the reference, but its row of constants -/
def FX (g : Mem) : Prop := ∀ k i, k < 34 → g k i = 0
def FM (g : Mem) : Prop := ∀ k i, 34 ≤ k ∧ k ≠ 35 → g k i = 0
theorem FX.t {g : Mem} (h : FX g) (k i : Nat) (hk : k < 34) : (g k i).toInt = 0 := by rw [h k i hk]; decide
theorem FM.t {g : Mem} (h : FM g) (k i : Nat) (hk : 34 ≤ k ∧ k ≠ 35) : (g k i).toInt = 0 := by rw [h k i hk]; decide
theorem FX.kp {g g2 : Mem} (h : FX g) (q : Kp [] g g2) : FX g2 := fun k i hk => by rw [q.1 k (by simp)]; exact h k i hk
theorem FM.kp {g g2 : Mem} (h : FM g) (q : Kq [] [] g g2) : FM g2 := fun k i hk => by
  by_cases e : k = 34
  · rw [e, q.2 i (by simp)]; exact h 34 i (by decide)
  · rw [q.1 k (by simp) e]; exact h k i hk
theorem FM.of {S : List Nat} {g g2 : Mem} (h : FM g) (q : Kp S g g2) (hS : S.all (fun k => decide (k < 34)) = true) : FM g2 := fun k i hk => by
  rw [q.1 k (fun hm => by have := of_decide_eq_true (List.all_eq_true.mp hS k hm); omega)]; exact h k i hk
theorem FM.zero {g : Mem} (q : Kq [35] [] zM g) : FM g := fun k i hk => by
  by_cases e : k = 34
  · rw [e, q.2 i (by simp)]; rfl
  · rw [q.1 k (by simp; exact hk.2) e]; rfl
theorem R01.ti {z : Int32} (h : R01 z) : z.toInt = 0 ∨ z.toInt = 1 := by
  rcases h with rfl | rfl
  · exact Or.inl (by decide)
  · exact Or.inr (by decide)
theorem z_by (n : Int32) : ((((0 : Int32).toUInt32 >>> (n.toUInt32 &&& Int32.toUInt32 31)).toInt32) &&& 255).toInt = 0 := by
  rw [show (0 : Int32).toUInt32 = 0 from rfl, UInt32.zero_shiftRight]; decide
theorem f_halve {g ga gb : Mem} (ea : ga = up2 g 27 4 (g 27 4 >>> ((1 : Int32) &&& 31))) (eb : gb = up2 ga 27 5 (ga 27 5 >>> ((1 : Int32) &&& 31))) : (gb 27 4).toInt = (g 27 4).toInt / 2 ∧ (gb 27 5).toInt = (g 27 5).toInt / 2 := by
  have h4 : gb 27 4 = g 27 4 >>> ((1 : Int32) &&& 31) := by rw [eb, up2_nei (Or.inr (by decide)), ea, up2_self]
  have h5 : gb 27 5 = g 27 5 >>> ((1 : Int32) &&& 31) := by rw [eb, up2_self, ea, up2_nei (Or.inr (by decide))]
  rw [h4, h5]
  exact ⟨i_shr rfl 1 (by decide), i_shr rfl 1 (by decide)⟩
theorem f_ss {g ga gb : Mem} {m n : Int32} (ea : ga = up2 g 27 4 (m - 1)) (eb : gb = up2 ga 27 5 (n - 1)) (h1 : 1 ≤ m.toInt) (h2 : m.toInt < n.toInt) (h3 : n.toInt ≤ 60) : 0 ≤ (gb 27 4).toInt ∧ (gb 27 4).toInt < (gb 27 5).toInt ∧ (gb 27 5).toInt ≤ 60 := by
  have h4 : gb 27 4 = m - 1 := by rw [eb, up2_nei (Or.inr (by decide)), ea, up2_self]
  have h5 : gb 27 5 = n - 1 := by rw [eb, up2_self]
  have t4 : (m - 1).toInt = m.toInt - 1 := i_sub rfl (by decide) (by omega) (by omega)
  have t5 : (n - 1).toInt = n.toInt - 1 := i_sub rfl (by decide) (by omega) (by omega)
  rw [h4, h5]
  omega
theorem f_and1 {x : Int32} (h0 : 0 ≤ x.toInt) (h1 : x.toInt ≤ 60) : (x &&& 1).toInt = x.toInt % 2 := by
  obtain ⟨k, hk, rfl⟩ : ∃ k : Nat, k < 61 ∧ x = Int32.ofNat k := ⟨x.toInt.toNat, by omega, Int32.toInt_inj.mp (by rw [Int32.toInt_ofNat_of_lt (by omega)]; omega)⟩
  have : ∀ k, k < 61 → ((Int32.ofNat k) &&& 1).toInt = (Int32.ofNat k).toInt % 2 := by decide +kernel
  exact this k hk
theorem f_hs {f s f2 s2 : Int32} (h : 0 ≤ f.toInt ∧ f.toInt < s.toInt ∧ s.toInt ≤ 60) (ho : (f &&& 1).toInt = 1) (e1 : f2.toInt = f.toInt / 2) (e2 : s2.toInt = s.toInt / 2) : 0 ≤ f2.toInt ∧ f2.toInt < s2.toInt ∧ s2.toInt ≤ 60 := by
  have := f_and1 h.1 (by omega)
  omega
def dz : Nat → Int64
  | 0 => 17
  | n + 1 => 31 * dz n
theorem dz_s {h x1 x2 : Int64} {r : Int32} {n m : Nat} (e1 : x1 = 31 * h) (e2 : x2 = x1 + r.toInt64) (hr : r.toInt = 0) (hh : h = dz n) (hm : m = n + 1) : x2 = dz m := by
  have h0 : r = 0 := Int32.toInt_inj.mp (by rw [hr]; decide)
  subst hm; subst h0; subst e2; subst e1; subst hh
  show 31 * dz n + (0 : Int32).toInt64 = 31 * dz n
  rw [show (0 : Int32).toInt64 = 0 from rfl, Int64.add_zero]
theorem dz_e {h : Int64} {n m : Nat} (hh : h = dz n) (e : m = n) : h = dz m := e ▸ hh
theorem dz_0 : (17 : Int64) = dz (4 * (0 : Int32).toInt).toNat := rfl
