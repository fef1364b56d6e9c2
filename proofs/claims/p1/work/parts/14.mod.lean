set_option maxRecDepth 20000 in
set_option maxHeartbeats 4000000 in
theorem c_X9_in (l : Launch) {X : XT} (hX : Lok X) (g : Mem) (v : Int64) (a : Int64) (b : Int64)  : Ctr l X yX9_in cX9_in 6 (some .boolean) (rmD 0) [.long v, .long a, .long b] g (pI (fun r g2 => g2 = g ∧ (r = 1 ∧ (a.toInt ≤ v.toInt ∧ v.toInt ≤ b.toInt) ∨ r = 0 ∧ ¬ (a.toInt ≤ v.toInt ∧ v.toInt ≤ b.toInt)))) := by
  refine Ctr.of (lv := [(0, .long v), (2, .long a), (4, .long b)]) hX (by decide) rfl (Nat.le_of_ble_eq_true rfl) ?_
  intro p e s m below meth c C
  refine m_lload_n C dX9_in_0 0 rfl ?_
  refine m_lload_n C dX9_in_1 1 rfl ?_
  refine m_lcmp C dX9_in_2 ?_
  refine m_if_lt C 17 dX9_in_3 (by decide) (fun h1 => ?_) (fun h1 => ?_)
  · skip
    have th1 := lc_lt h1
    refine m_iconst C (0 : Int32) dX9_in_17 (by decide) ?_
    exact m_zret C dX9_in_18 (by decide) ⟨_, rfl, rfl, Or.inr ⟨rfl, by omega⟩⟩
  · skip
    have th1 := lc_nlt h1
    refine m_lload_n C dX9_in_6 0 rfl ?_
    refine m_lload C dX9_in_7 2 rfl ?_
    refine m_lcmp C dX9_in_9 ?_
    refine m_if_gt C 17 dX9_in_10 (by decide) (fun h2 => ?_) (fun h2 => ?_)
    · skip
      have th2 := lc_gt h2
      refine m_iconst C (0 : Int32) dX9_in_17 (by decide) ?_
      exact m_zret C dX9_in_18 (by decide) ⟨_, rfl, rfl, Or.inr ⟨rfl, by omega⟩⟩
    · skip
      have th2 := lc_ngt h2
      refine m_iconst C (1 : Int32) dX9_in_13 (by decide) ?_
      refine m_goto C 18 dX9_in_14 (by decide) ?_
      exact m_zret C dX9_in_18 (by decide) ⟨_, rfl, rfl, Or.inl ⟨rfl, by omega⟩⟩
set_option maxRecDepth 20000 in
set_option maxHeartbeats 4000000 in
theorem c_X9_isSubject (l : Launch) {X : XT} (hX : Lok X) (g : Mem) (v : Int32)  : Ctr l X yX9_isSubject cX9_isSubject 1 (some .boolean) (rmD 1) [.int v] g (pI (fun r g2 => g2 = g ∧ (r = 1 ∧ (0 ≤ v.toInt ∧ v.toInt ≤ 11) ∨ r = 0 ∧ ¬ (0 ≤ v.toInt ∧ v.toInt ≤ 11)))) := by
  refine Ctr.of (lv := [(0, .int v)]) hX (by decide) rfl (Nat.le_of_ble_eq_true rfl) ?_
  intro p e s m below meth c C
  refine m_iload_n C dX9_isSubject_0 0 rfl ?_
  refine m_i2l C dX9_isSubject_1 ?_
  refine m_lconst C (0 : Int64) dX9_isSubject_2 (by decide) ?_
  refine m_ldc2 C (11) dX9_isSubject_3 lk_X9_183 ?_
  have t1 : (v.toInt64).toInt = v.toInt := i2l_t _
  have t2 : (0 : Int64).toInt = 0 := by decide
  have t3 : (11 : Int64).toInt = 11 := by decide
  refine m_invS C cal_X9_in (c_X9_in l hX g (v.toInt64) (0 : Int64) (11 : Int64) ) lk_X9_185 st_X9_in (by decide) rfl rfl (Nat.le_of_ble_eq_true rfl) dX9_isSubject_6 ⟨Nat.le_refl _, Nat.le_refl _⟩ (rI fun r4 g5 q6 => ?_)
  obtain ⟨eg5, ⟨rfl, h7⟩ | ⟨rfl, h7⟩⟩ := q6
  · skip
    subst g5
    exact m_zret C dX9_isSubject_9 (by decide) ⟨_, rfl, rfl, Or.inl ⟨rfl, by omega⟩⟩
  · skip
    subst g5
    exact m_zret C dX9_isSubject_9 (by decide) ⟨_, rfl, rfl, Or.inr ⟨rfl, by omega⟩⟩
set_option maxRecDepth 20000 in
set_option maxHeartbeats 4000000 in
theorem c_X9_isObject (l : Launch) {X : XT} (hX : Lok X) (g : Mem) (v : Int32)  : Ctr l X yX9_isObject cX9_isObject 1 (some .boolean) (rmD 1) [.int v] g (pI (fun r g2 => g2 = g ∧ (r = 1 ∧ (0 ≤ v.toInt ∧ v.toInt ≤ 15) ∨ r = 0 ∧ ¬ (0 ≤ v.toInt ∧ v.toInt ≤ 15)))) := by
  refine Ctr.of (lv := [(0, .int v)]) hX (by decide) rfl (Nat.le_of_ble_eq_true rfl) ?_
  intro p e s m below meth c C
  refine m_iload_n C dX9_isObject_0 0 rfl ?_
  refine m_i2l C dX9_isObject_1 ?_
  refine m_lconst C (0 : Int64) dX9_isObject_2 (by decide) ?_
  refine m_ldc2 C (15) dX9_isObject_3 lk_X9_189 ?_
  have t1 : (v.toInt64).toInt = v.toInt := i2l_t _
  have t2 : (0 : Int64).toInt = 0 := by decide
  have t3 : (15 : Int64).toInt = 15 := by decide
  refine m_invS C cal_X9_in (c_X9_in l hX g (v.toInt64) (0 : Int64) (15 : Int64) ) lk_X9_185 st_X9_in (by decide) rfl rfl (Nat.le_of_ble_eq_true rfl) dX9_isObject_6 ⟨Nat.le_refl _, Nat.le_refl _⟩ (rI fun r4 g5 q6 => ?_)
  obtain ⟨eg5, ⟨rfl, h7⟩ | ⟨rfl, h7⟩⟩ := q6
  · skip
    subst g5
    exact m_zret C dX9_isObject_9 (by decide) ⟨_, rfl, rfl, Or.inl ⟨rfl, by omega⟩⟩
  · skip
    subst g5
    exact m_zret C dX9_isObject_9 (by decide) ⟨_, rfl, rfl, Or.inr ⟨rfl, by omega⟩⟩
set_option maxRecDepth 20000 in
set_option maxHeartbeats 4000000 in
theorem c_X9_isTo (l : Launch) {X : XT} (hX : Lok X) (g : Mem) (v : Int32)  : Ctr l X yX9_isTo cX9_isTo 1 (some .boolean) (rmD 2) [.int v] g (pI (fun r g2 => g2 = g ∧ (r = 1 ∧ ((0 ≤ v.toInt ∧ v.toInt ≤ 11) ∨ (16 ≤ v.toInt ∧ v.toInt ≤ 19)) ∨ r = 0 ∧ ¬ ((0 ≤ v.toInt ∧ v.toInt ≤ 11) ∨ (16 ≤ v.toInt ∧ v.toInt ≤ 19))))) := by
  refine Ctr.of (lv := [(0, .int v)]) hX (by decide) rfl (Nat.le_of_ble_eq_true rfl) ?_
  intro p e s m below meth c C
  refine m_iload_n C dX9_isTo_0 0 rfl ?_
  refine m_invS C cal_X9_isSubject (c_X9_isSubject l hX g v ) lk_X9_191 st_X9_isSubject (by decide) rfl rfl (Nat.le_of_ble_eq_true rfl) dX9_isTo_1 ⟨Nat.le_refl _, Nat.le_refl _⟩ (rI fun r1 g2 q3 => ?_)
  obtain ⟨eg2, ⟨rfl, h4⟩ | ⟨rfl, h4⟩⟩ := q3
  · skip
    subst g2
    refine m_if_ne C 21 dX9_isTo_4 (by decide) (fun _ => ?_) (fun h => absurd h (by decide))
    refine m_iconst C (1 : Int32) dX9_isTo_21 (by decide) ?_
    refine m_goto C 26 dX9_isTo_22 (by decide) ?_
    exact m_zret C dX9_isTo_26 (by decide) ⟨_, rfl, rfl, Or.inl ⟨rfl, by omega⟩⟩
  · skip
    subst g2
    refine m_if_ne C 21 dX9_isTo_4 (by decide) (fun h => absurd (by decide) h) (fun _ => ?_)
    refine m_iload_n C dX9_isTo_7 0 rfl ?_
    refine m_i2l C dX9_isTo_8 ?_
    refine m_ldc2 C (16) dX9_isTo_9 lk_X9_195 ?_
    refine m_ldc2 C (19) dX9_isTo_12 lk_X9_197 ?_
    have t5 : (v.toInt64).toInt = v.toInt := i2l_t _
    have t6 : (16 : Int64).toInt = 16 := by decide
    have t7 : (19 : Int64).toInt = 19 := by decide
    refine m_invS C cal_X9_in (c_X9_in l hX g (v.toInt64) (16 : Int64) (19 : Int64) ) lk_X9_185 st_X9_in (by decide) rfl rfl (Nat.le_of_ble_eq_true rfl) dX9_isTo_15 ⟨Nat.le_refl _, Nat.le_refl _⟩ (rI fun r8 g9 q10 => ?_)
    obtain ⟨eg9, ⟨rfl, h11⟩ | ⟨rfl, h11⟩⟩ := q10
    · skip
      subst g9
      refine m_if_eq C 25 dX9_isTo_18 (by decide) (fun h => absurd h (by decide)) (fun _ => ?_)
      refine m_iconst C (1 : Int32) dX9_isTo_21 (by decide) ?_
      refine m_goto C 26 dX9_isTo_22 (by decide) ?_
      exact m_zret C dX9_isTo_26 (by decide) ⟨_, rfl, rfl, Or.inl ⟨rfl, by omega⟩⟩
    · skip
      subst g9
      refine m_if_eq C 25 dX9_isTo_18 (by decide) (fun _ => ?_) (fun h => absurd (by decide) h)
      refine m_iconst C (0 : Int32) dX9_isTo_25 (by decide) ?_
      exact m_zret C dX9_isTo_26 (by decide) ⟨_, rfl, rfl, Or.inr ⟨rfl, by omega⟩⟩
set_option maxRecDepth 20000 in
set_option maxHeartbeats 4000000 in
theorem c_X9_turn (l : Launch) {X : XT} (hX : Lok X) (g : Mem) (v : Int32) (n0 : Int32) (hI : Inv g) : Ctr l X yX9_turn cX9_turn 2 (some .int) (rmD 0) [.int v, .int n0] g (pI (fun r g2 => g2 = g ∧ True)) := by
  refine Ctr.of (lv := [(0, .int v), (1, .int n0)]) hX (by decide) rfl (Nat.le_of_ble_eq_true rfl) ?_
  intro p e s m below meth c C
  refine m_iload_n C dX9_turn_0 0 rfl ?_
  refine m_iload_n C dX9_turn_1 1 rfl ?_
  refine m_iushr C dX9_turn_2 ?_
  refine m_iload_n C dX9_turn_3 0 rfl ?_
  refine m_bipush C (32 : Int32) dX9_turn_4 (by decide) ?_
  refine m_iload_n C dX9_turn_6 1 rfl ?_
  refine m_isub C dX9_turn_7 ?_
  refine m_ishl C dX9_turn_8 ?_
  refine m_ior C dX9_turn_9 ?_
  exact m_iret C dX9_turn_10 ⟨_, rfl, rfl, trivial⟩
set_option maxRecDepth 20000 in
set_option maxHeartbeats 4000000 in
theorem c_X9_begin (l : Launch) {X : XT} (hX : Lok X) (g : Mem)  (hI : Inv g) : Ctr l X yX9_begin cX9_begin 1 none (rmD 0) [.ref (aL X 34)] g (pV (fun g2 => Inv g2 ∧ Kq [] [4] g g2 ∧ (g2 34 4).toInt = 0)) := by
  refine Ctr.of (lv := [(0, .ref (aL X 34))]) hX (by decide) rfl (Nat.le_of_ble_eq_true rfl) ?_
  intro p e s m below meth c C
  refine m_aload_n C dX9_begin_0 0 rfl ?_
  refine m_iconst C (0 : Int32) dX9_begin_1 (by decide) ?_
  refine m_put (rf := "") C 4 rfl gd9 (by decide) tyX9 tyX9_ok nmX9 rfl (tyX9_ok 4 (by decide)) rfl rfl sh_34 rfl dX9_begin_2 lk_X9_150 ?_
  refine m_mem (fun g1 eg1 => ?_)
  have hI2 : Inv g1 := by rw [eg1]; exact hI.up (ok_msize (by decide) (by decide))
  have hK3 : Kq [] [4] g g1 := by rw [eg1]; exact Kq.upF Kq.rf (by decide)
  exact m_vret C dX9_begin_5 ⟨rfl, hI2, hK3, (by rw [eg1, up2_self]; decide)⟩
set_option maxRecDepth 20000 in
set_option maxHeartbeats 4000000 in
theorem c_X9_put (l : Launch) {X : XT} (hX : Lok X) (g : Mem) (v : Int32) (hI : Inv g) (hs : (g 34 4).toInt ≤ 127) : Ctr l X yX9_put cX9_put 2 none (rmD 0) [.ref (aL X 34), .int v] g (pV (fun g2 => Inv g2 ∧ Kq [38] [4] g g2 ∧ (g2 34 4).toInt = (g 34 4).toInt + 1)) := by
  refine Ctr.of (lv := [(0, .ref (aL X 34)), (1, .int v)]) hX (by decide) rfl (Nat.le_of_ble_eq_true rfl) ?_
  intro p e s m below meth c C
  refine m_aload_n C dX9_put_0 0 rfl ?_
  refine m_getr (rf := "") C 3 rfl gd9 (by decide) sh_34 rfl dX9_put_1 lk_X9_19 ?_
  refine m_aload_n C dX9_put_4 0 rfl ?_
  refine m_geti (rf := "") C 4 rfl gd9 (by decide) sh_34 rfl dX9_put_5 lk_X9_150 ?_
  have r1 := iv_msize hI
  refine m_iload_n C dX9_put_8 1 rfl ?_
  refine m_iast C sh_38 (i_in (by omega) (by omega)) dX9_put_9 ?_
  refine m_mem (fun g2 eg2 => ?_)
  have hI3 : Inv g2 := by rw [eg2]; exact hI.up (ok_any (by decide))
  have hK4 : Kq [38] [4] g g2 := by rw [eg2]; exact Kq.upA Kq.rf (by decide) (by decide)
  have ev5 : g2 34 4 = g 34 4 := by rw [eg2]; exact up2_nei (Or.inl (by decide))
  have tev5 := congrArg Int32.toInt ev5
  refine m_aload_n C dX9_put_10 0 rfl ?_
  refine m_dup C dX9_put_11 rfl ?_
  refine m_geti (rf := "") C 4 rfl gd9 (by decide) sh_34 rfl dX9_put_12 lk_X9_150 ?_
  have r6 := iv_msize hI3
  refine m_iconst C (1 : Int32) dX9_put_15 (by decide) ?_
  refine m_iadd C dX9_put_16 ?_
  have t7 : ((g2 34 4) + (1 : Int32)).toInt = (g2 34 4).toInt + (1 : Int) := i_add rfl (by decide) (by omega) (by omega)
  refine m_put (rf := "") C 4 rfl gd9 (by decide) tyX9 tyX9_ok nmX9 rfl (tyX9_ok 4 (by decide)) rfl rfl sh_34 rfl dX9_put_17 lk_X9_150 ?_
  refine m_mem (fun g8 eg8 => ?_)
  have hI9 : Inv g8 := by rw [eg8]; exact hI3.up (ok_msize (by omega) (by omega))
  have hK10 : Kq [38] [4] g g8 := by rw [eg8]; exact Kq.upF hK4 (by decide)
  exact m_vret C dX9_put_20 ⟨rfl, hI9, hK10, (by rw [eg8, up2_self]; omega)⟩
set_option maxRecDepth 20000 in
set_option maxHeartbeats 4000000 in
theorem c_X9_putAll_47 (l : Launch) {X : XT} (hX : Lok X) (g : Mem) (f0 : Int32) (n0 : Int32) (hI : Inv g) (h_f0 : 0 ≤ f0.toInt ∧ f0.toInt ≤ 720) (h_n0 : 0 ≤ n0.toInt ∧ n0.toInt ≤ 64) (hr : f0.toInt + n0.toInt ≤ 720) (hs : (g 34 4).toInt + n0.toInt ≤ 128) : Ctr l X yX9_putAll cX9_putAll 5 none (rmD 1) [.ref (aL X 34), .ref (aL X 47), .int f0, .int n0] g (pV (fun g2 => Inv g2 ∧ Kq [38] [4] g g2 ∧ (g2 34 4).toInt = (g 34 4).toInt + n0.toInt)) := by
  refine Ctr.of (lv := [(0, .ref (aL X 34)), (1, .ref (aL X 47)), (2, .int f0), (3, .int n0)]) hX (by decide) rfl (Nat.le_of_ble_eq_true rfl) ?_
  intro p e s m below meth c C
  refine m_iconst C (0 : Int32) dX9_putAll_0 (by decide) ?_
  refine m_istore C [(4, .int (0 : Int32)), (0, .ref (aL X 34)), (1, .ref (aL X 47)), (2, .int f0), (3, .int n0)] dX9_putAll_1 (by decide) rfl ?_
  have L3 : ∀ (n3 : Nat) (x2 : Int32) (g3 : Mem), (65 - x2.toInt).toNat < n3 → Inv g3 → Kq [38] [4] g g3 → 0 ≤ x2.toInt ∧ x2.toInt ≤ n0.toInt → (g3 34 4).toInt = (g 34 4).toInt + x2.toInt → Wm X p l e (rmD 1) s m ([.ref (aL X 34), .ref (aL X 47), .int f0, .int n0] : List Value).toArray below meth c 5 0 0 (MQ below (cQ X (pV (fun g2 => Inv g2 ∧ Kq [38] [4] g g2 ∧ (g2 34 4).toInt = (g 34 4).toInt + n0.toInt))) ([.ref (aL X 34), .ref (aL X 47), .int f0, .int n0] : List Value).toArray s 0 0 (Ab X)) g3 3 [(0, .ref (aL X 34)), (1, .ref (aL X 47)), (2, .int f0), (3, .int n0), (4, .int x2)] [] := by
    intro n3
    induction n3 with
    | zero => intro x2 g3 hm; exact absurd hm (Nat.not_lt_zero _)
    | succ n3 ih3 =>
      intro x2 g3 hm3 hI4 hK5 i6 i7
      obtain ⟨i6a, i6b⟩ := i6
      refine m_iload C dX9_putAll_3 4 rfl ?_
      refine m_iload_n C dX9_putAll_5 3 rfl ?_
      refine m_icmp_ge C 25 dX9_putAll_6 (by decide) (fun h8 => ?_) (fun h8 => ?_)
      · skip
        have th8 := i_le h8
        exact m_vret C dX9_putAll_25 ⟨rfl, hI4, hK5, (by omega)⟩
      · skip
        have th8 := i_nle h8
        refine m_aload_n C dX9_putAll_9 0 rfl ?_
        refine m_aload_n C dX9_putAll_10 1 rfl ?_
        refine m_iload_n C dX9_putAll_11 2 rfl ?_
        refine m_iload C dX9_putAll_12 4 rfl ?_
        refine m_iadd C dX9_putAll_14 ?_
        have t9 : (f0 + x2).toInt = f0.toInt + x2.toInt := i_add rfl rfl (by omega) (by omega)
        refine m_iald C sh_47 (i_in (by omega) (by omega)) dX9_putAll_15 ?_
        refine m_invV C cal_X9_put sh_34 rfl (c_X9_put l hX g3 (g3 47 (f0 + x2).toNatClampNeg) hI4 (by omega)) lk_X9_154 im_X9_put se_X9_put (by decide) rfl rfl (Nat.le_of_ble_eq_true rfl) dX9_putAll_16 ⟨Nat.le_refl _, Nat.le_refl _⟩ (rV fun g11 q12 => ?_)
        obtain ⟨hI13, hK14, p15⟩ := q12
        have hK16 : Kq [38] [4] g g11 := (hK5).tr hK14 (by decide) (by decide)
        obtain ⟨x17, ex17⟩ : ∃ z : Int32, z = x2 + Int32.ofInt 1 := ⟨_, rfl⟩
        have t18 : (x2 + (Int32.ofInt 1)).toInt = x2.toInt + (1 : Int) := i_add rfl (by decide) (by omega) (by omega)
        have t19 : x17.toInt = (x2.toInt + (1 : Int)) := (congrArg Int32.toInt ex17).trans t18
        refine m_iinc C x17 [(4, .int x17), (0, .ref (aL X 34)), (1, .ref (aL X 47)), (2, .int f0), (3, .int n0)] dX9_putAll_19 (q := 4) rfl ex17.symm (by decide) rfl ?_
        refine m_goto C 3 dX9_putAll_22 (by decide) ?_
        refine m_lv [1, 2, 3, 4, 0] rfl ?_
        exact ih3 x17 g11 (by omega) hI13 hK16 (by omega) (by omega)
  have t20 : (0 : Int32).toInt = 0 := by decide
  refine m_lv [1, 2, 3, 4, 0] rfl ?_
  exact L3 (((65 - (0 : Int32).toInt).toNat) + 1) (0 : Int32) g (Nat.lt_succ_self _) hI Kq.rf (by omega) (by omega)
set_option maxRecDepth 20000 in
set_option maxHeartbeats 4000000 in
theorem c_X9_putAll_48 (l : Launch) {X : XT} (hX : Lok X) (g : Mem) (f0 : Int32) (n0 : Int32) (hI : Inv g) (h_f0 : 0 ≤ f0.toInt ∧ f0.toInt ≤ 1952) (h_n0 : 0 ≤ n0.toInt ∧ n0.toInt ≤ 64) (hr : f0.toInt + n0.toInt ≤ 1952) (hs : (g 34 4).toInt + n0.toInt ≤ 128) : Ctr l X yX9_putAll cX9_putAll 5 none (rmD 1) [.ref (aL X 34), .ref (aL X 48), .int f0, .int n0] g (pV (fun g2 => Inv g2 ∧ Kq [38] [4] g g2 ∧ (g2 34 4).toInt = (g 34 4).toInt + n0.toInt)) := by
  refine Ctr.of (lv := [(0, .ref (aL X 34)), (1, .ref (aL X 48)), (2, .int f0), (3, .int n0)]) hX (by decide) rfl (Nat.le_of_ble_eq_true rfl) ?_
  intro p e s m below meth c C
  refine m_iconst C (0 : Int32) dX9_putAll_0 (by decide) ?_
  refine m_istore C [(4, .int (0 : Int32)), (0, .ref (aL X 34)), (1, .ref (aL X 48)), (2, .int f0), (3, .int n0)] dX9_putAll_1 (by decide) rfl ?_
  have L3 : ∀ (n3 : Nat) (x2 : Int32) (g3 : Mem), (65 - x2.toInt).toNat < n3 → Inv g3 → Kq [38] [4] g g3 → 0 ≤ x2.toInt ∧ x2.toInt ≤ n0.toInt → (g3 34 4).toInt = (g 34 4).toInt + x2.toInt → Wm X p l e (rmD 1) s m ([.ref (aL X 34), .ref (aL X 48), .int f0, .int n0] : List Value).toArray below meth c 5 0 0 (MQ below (cQ X (pV (fun g2 => Inv g2 ∧ Kq [38] [4] g g2 ∧ (g2 34 4).toInt = (g 34 4).toInt + n0.toInt))) ([.ref (aL X 34), .ref (aL X 48), .int f0, .int n0] : List Value).toArray s 0 0 (Ab X)) g3 3 [(0, .ref (aL X 34)), (1, .ref (aL X 48)), (2, .int f0), (3, .int n0), (4, .int x2)] [] := by
    intro n3
    induction n3 with
    | zero => intro x2 g3 hm; exact absurd hm (Nat.not_lt_zero _)
    | succ n3 ih3 =>
      intro x2 g3 hm3 hI4 hK5 i6 i7
      obtain ⟨i6a, i6b⟩ := i6
      refine m_iload C dX9_putAll_3 4 rfl ?_
      refine m_iload_n C dX9_putAll_5 3 rfl ?_
      refine m_icmp_ge C 25 dX9_putAll_6 (by decide) (fun h8 => ?_) (fun h8 => ?_)
      · skip
        have th8 := i_le h8
        exact m_vret C dX9_putAll_25 ⟨rfl, hI4, hK5, (by omega)⟩
      · skip
        have th8 := i_nle h8
        refine m_aload_n C dX9_putAll_9 0 rfl ?_
        refine m_aload_n C dX9_putAll_10 1 rfl ?_
        refine m_iload_n C dX9_putAll_11 2 rfl ?_
        refine m_iload C dX9_putAll_12 4 rfl ?_
        refine m_iadd C dX9_putAll_14 ?_
        have t9 : (f0 + x2).toInt = f0.toInt + x2.toInt := i_add rfl rfl (by omega) (by omega)
        refine m_iald C sh_48 (i_in (by omega) (by omega)) dX9_putAll_15 ?_
        refine m_invV C cal_X9_put sh_34 rfl (c_X9_put l hX g3 (g3 48 (f0 + x2).toNatClampNeg) hI4 (by omega)) lk_X9_154 im_X9_put se_X9_put (by decide) rfl rfl (Nat.le_of_ble_eq_true rfl) dX9_putAll_16 ⟨Nat.le_refl _, Nat.le_refl _⟩ (rV fun g11 q12 => ?_)
        obtain ⟨hI13, hK14, p15⟩ := q12
        have hK16 : Kq [38] [4] g g11 := (hK5).tr hK14 (by decide) (by decide)
        obtain ⟨x17, ex17⟩ : ∃ z : Int32, z = x2 + Int32.ofInt 1 := ⟨_, rfl⟩
        have t18 : (x2 + (Int32.ofInt 1)).toInt = x2.toInt + (1 : Int) := i_add rfl (by decide) (by omega) (by omega)
        have t19 : x17.toInt = (x2.toInt + (1 : Int)) := (congrArg Int32.toInt ex17).trans t18
        refine m_iinc C x17 [(4, .int x17), (0, .ref (aL X 34)), (1, .ref (aL X 48)), (2, .int f0), (3, .int n0)] dX9_putAll_19 (q := 4) rfl ex17.symm (by decide) rfl ?_
        refine m_goto C 3 dX9_putAll_22 (by decide) ?_
        refine m_lv [1, 2, 3, 4, 0] rfl ?_
        exact ih3 x17 g11 (by omega) hI13 hK16 (by omega) (by omega)
  have t20 : (0 : Int32).toInt = 0 := by decide
  refine m_lv [1, 2, 3, 4, 0] rfl ?_
  exact L3 (((65 - (0 : Int32).toInt).toNat) + 1) (0 : Int32) g (Nat.lt_succ_self _) hI Kq.rf (by omega) (by omega)
set_option maxRecDepth 20000 in
set_option maxHeartbeats 4000000 in
theorem c_X9_putAll_50 (l : Launch) {X : XT} (hX : Lok X) (g : Mem) (f0 : Int32) (n0 : Int32) (hI : Inv g) (h_f0 : 0 ≤ f0.toInt ∧ f0.toInt ≤ 256) (h_n0 : 0 ≤ n0.toInt ∧ n0.toInt ≤ 64) (hr : f0.toInt + n0.toInt ≤ 256) (hs : (g 34 4).toInt + n0.toInt ≤ 128) : Ctr l X yX9_putAll cX9_putAll 5 none (rmD 1) [.ref (aL X 34), .ref (aL X 50), .int f0, .int n0] g (pV (fun g2 => Inv g2 ∧ Kq [38] [4] g g2 ∧ (g2 34 4).toInt = (g 34 4).toInt + n0.toInt)) := by
  refine Ctr.of (lv := [(0, .ref (aL X 34)), (1, .ref (aL X 50)), (2, .int f0), (3, .int n0)]) hX (by decide) rfl (Nat.le_of_ble_eq_true rfl) ?_
  intro p e s m below meth c C
  refine m_iconst C (0 : Int32) dX9_putAll_0 (by decide) ?_
  refine m_istore C [(4, .int (0 : Int32)), (0, .ref (aL X 34)), (1, .ref (aL X 50)), (2, .int f0), (3, .int n0)] dX9_putAll_1 (by decide) rfl ?_
  have L3 : ∀ (n3 : Nat) (x2 : Int32) (g3 : Mem), (65 - x2.toInt).toNat < n3 → Inv g3 → Kq [38] [4] g g3 → 0 ≤ x2.toInt ∧ x2.toInt ≤ n0.toInt → (g3 34 4).toInt = (g 34 4).toInt + x2.toInt → Wm X p l e (rmD 1) s m ([.ref (aL X 34), .ref (aL X 50), .int f0, .int n0] : List Value).toArray below meth c 5 0 0 (MQ below (cQ X (pV (fun g2 => Inv g2 ∧ Kq [38] [4] g g2 ∧ (g2 34 4).toInt = (g 34 4).toInt + n0.toInt))) ([.ref (aL X 34), .ref (aL X 50), .int f0, .int n0] : List Value).toArray s 0 0 (Ab X)) g3 3 [(0, .ref (aL X 34)), (1, .ref (aL X 50)), (2, .int f0), (3, .int n0), (4, .int x2)] [] := by
    intro n3
    induction n3 with
    | zero => intro x2 g3 hm; exact absurd hm (Nat.not_lt_zero _)
    | succ n3 ih3 =>
      intro x2 g3 hm3 hI4 hK5 i6 i7
      obtain ⟨i6a, i6b⟩ := i6
      refine m_iload C dX9_putAll_3 4 rfl ?_
      refine m_iload_n C dX9_putAll_5 3 rfl ?_
      refine m_icmp_ge C 25 dX9_putAll_6 (by decide) (fun h8 => ?_) (fun h8 => ?_)
      · skip
        have th8 := i_le h8
        exact m_vret C dX9_putAll_25 ⟨rfl, hI4, hK5, (by omega)⟩
      · skip
        have th8 := i_nle h8
        refine m_aload_n C dX9_putAll_9 0 rfl ?_
        refine m_aload_n C dX9_putAll_10 1 rfl ?_
        refine m_iload_n C dX9_putAll_11 2 rfl ?_
        refine m_iload C dX9_putAll_12 4 rfl ?_
        refine m_iadd C dX9_putAll_14 ?_
        have t9 : (f0 + x2).toInt = f0.toInt + x2.toInt := i_add rfl rfl (by omega) (by omega)
        refine m_iald C sh_50 (i_in (by omega) (by omega)) dX9_putAll_15 ?_
        refine m_invV C cal_X9_put sh_34 rfl (c_X9_put l hX g3 (g3 50 (f0 + x2).toNatClampNeg) hI4 (by omega)) lk_X9_154 im_X9_put se_X9_put (by decide) rfl rfl (Nat.le_of_ble_eq_true rfl) dX9_putAll_16 ⟨Nat.le_refl _, Nat.le_refl _⟩ (rV fun g11 q12 => ?_)
        obtain ⟨hI13, hK14, p15⟩ := q12
        have hK16 : Kq [38] [4] g g11 := (hK5).tr hK14 (by decide) (by decide)
        obtain ⟨x17, ex17⟩ : ∃ z : Int32, z = x2 + Int32.ofInt 1 := ⟨_, rfl⟩
        have t18 : (x2 + (Int32.ofInt 1)).toInt = x2.toInt + (1 : Int) := i_add rfl (by decide) (by omega) (by omega)
        have t19 : x17.toInt = (x2.toInt + (1 : Int)) := (congrArg Int32.toInt ex17).trans t18
        refine m_iinc C x17 [(4, .int x17), (0, .ref (aL X 34)), (1, .ref (aL X 50)), (2, .int f0), (3, .int n0)] dX9_putAll_19 (q := 4) rfl ex17.symm (by decide) rfl ?_
        refine m_goto C 3 dX9_putAll_22 (by decide) ?_
        refine m_lv [1, 2, 3, 4, 0] rfl ?_
        exact ih3 x17 g11 (by omega) hI13 hK16 (by omega) (by omega)
  have t20 : (0 : Int32).toInt = 0 := by decide
  refine m_lv [1, 2, 3, 4, 0] rfl ?_
  exact L3 (((65 - (0 : Int32).toInt).toNat) + 1) (0 : Int32) g (Nat.lt_succ_self _) hI Kq.rf (by omega) (by omega)
set_option maxRecDepth 20000 in
set_option maxHeartbeats 4000000 in
theorem c_X9_putAll_52 (l : Launch) {X : XT} (hX : Lok X) (g : Mem) (f0 : Int32) (n0 : Int32) (hI : Inv g) (h_f0 : 0 ≤ f0.toInt ∧ f0.toInt ≤ 32) (h_n0 : 0 ≤ n0.toInt ∧ n0.toInt ≤ 64) (hr : f0.toInt + n0.toInt ≤ 32) (hs : (g 34 4).toInt + n0.toInt ≤ 128) : Ctr l X yX9_putAll cX9_putAll 5 none (rmD 1) [.ref (aL X 34), .ref (aL X 52), .int f0, .int n0] g (pV (fun g2 => Inv g2 ∧ Kq [38] [4] g g2 ∧ (g2 34 4).toInt = (g 34 4).toInt + n0.toInt)) := by
  refine Ctr.of (lv := [(0, .ref (aL X 34)), (1, .ref (aL X 52)), (2, .int f0), (3, .int n0)]) hX (by decide) rfl (Nat.le_of_ble_eq_true rfl) ?_
  intro p e s m below meth c C
  refine m_iconst C (0 : Int32) dX9_putAll_0 (by decide) ?_
  refine m_istore C [(4, .int (0 : Int32)), (0, .ref (aL X 34)), (1, .ref (aL X 52)), (2, .int f0), (3, .int n0)] dX9_putAll_1 (by decide) rfl ?_
  have L3 : ∀ (n3 : Nat) (x2 : Int32) (g3 : Mem), (65 - x2.toInt).toNat < n3 → Inv g3 → Kq [38] [4] g g3 → 0 ≤ x2.toInt ∧ x2.toInt ≤ n0.toInt → (g3 34 4).toInt = (g 34 4).toInt + x2.toInt → Wm X p l e (rmD 1) s m ([.ref (aL X 34), .ref (aL X 52), .int f0, .int n0] : List Value).toArray below meth c 5 0 0 (MQ below (cQ X (pV (fun g2 => Inv g2 ∧ Kq [38] [4] g g2 ∧ (g2 34 4).toInt = (g 34 4).toInt + n0.toInt))) ([.ref (aL X 34), .ref (aL X 52), .int f0, .int n0] : List Value).toArray s 0 0 (Ab X)) g3 3 [(0, .ref (aL X 34)), (1, .ref (aL X 52)), (2, .int f0), (3, .int n0), (4, .int x2)] [] := by
    intro n3
    induction n3 with
    | zero => intro x2 g3 hm; exact absurd hm (Nat.not_lt_zero _)
    | succ n3 ih3 =>
      intro x2 g3 hm3 hI4 hK5 i6 i7
      obtain ⟨i6a, i6b⟩ := i6
      refine m_iload C dX9_putAll_3 4 rfl ?_
      refine m_iload_n C dX9_putAll_5 3 rfl ?_
      refine m_icmp_ge C 25 dX9_putAll_6 (by decide) (fun h8 => ?_) (fun h8 => ?_)
      · skip
        have th8 := i_le h8
        exact m_vret C dX9_putAll_25 ⟨rfl, hI4, hK5, (by omega)⟩
      · skip
        have th8 := i_nle h8
        refine m_aload_n C dX9_putAll_9 0 rfl ?_
        refine m_aload_n C dX9_putAll_10 1 rfl ?_
        refine m_iload_n C dX9_putAll_11 2 rfl ?_
        refine m_iload C dX9_putAll_12 4 rfl ?_
        refine m_iadd C dX9_putAll_14 ?_
        have t9 : (f0 + x2).toInt = f0.toInt + x2.toInt := i_add rfl rfl (by omega) (by omega)
        refine m_iald C sh_52 (i_in (by omega) (by omega)) dX9_putAll_15 ?_
        refine m_invV C cal_X9_put sh_34 rfl (c_X9_put l hX g3 (g3 52 (f0 + x2).toNatClampNeg) hI4 (by omega)) lk_X9_154 im_X9_put se_X9_put (by decide) rfl rfl (Nat.le_of_ble_eq_true rfl) dX9_putAll_16 ⟨Nat.le_refl _, Nat.le_refl _⟩ (rV fun g11 q12 => ?_)
        obtain ⟨hI13, hK14, p15⟩ := q12
        have hK16 : Kq [38] [4] g g11 := (hK5).tr hK14 (by decide) (by decide)
        obtain ⟨x17, ex17⟩ : ∃ z : Int32, z = x2 + Int32.ofInt 1 := ⟨_, rfl⟩
        have t18 : (x2 + (Int32.ofInt 1)).toInt = x2.toInt + (1 : Int) := i_add rfl (by decide) (by omega) (by omega)
        have t19 : x17.toInt = (x2.toInt + (1 : Int)) := (congrArg Int32.toInt ex17).trans t18
        refine m_iinc C x17 [(4, .int x17), (0, .ref (aL X 34)), (1, .ref (aL X 52)), (2, .int f0), (3, .int n0)] dX9_putAll_19 (q := 4) rfl ex17.symm (by decide) rfl ?_
        refine m_goto C 3 dX9_putAll_22 (by decide) ?_
        refine m_lv [1, 2, 3, 4, 0] rfl ?_
        exact ih3 x17 g11 (by omega) hI13 hK16 (by omega) (by omega)
  have t20 : (0 : Int32).toInt = 0 := by decide
  refine m_lv [1, 2, 3, 4, 0] rfl ?_
  exact L3 (((65 - (0 : Int32).toInt).toNat) + 1) (0 : Int32) g (Nat.lt_succ_self _) hI Kq.rf (by omega) (by omega)
set_option maxRecDepth 20000 in
set_option maxHeartbeats 4000000 in
theorem c_X9_putAll_53 (l : Launch) {X : XT} (hX : Lok X) (g : Mem) (f0 : Int32) (n0 : Int32) (hI : Inv g) (h_f0 : 0 ≤ f0.toInt ∧ f0.toInt ≤ 256) (h_n0 : 0 ≤ n0.toInt ∧ n0.toInt ≤ 64) (hr : f0.toInt + n0.toInt ≤ 256) (hs : (g 34 4).toInt + n0.toInt ≤ 128) : Ctr l X yX9_putAll cX9_putAll 5 none (rmD 1) [.ref (aL X 34), .ref (aL X 53), .int f0, .int n0] g (pV (fun g2 => Inv g2 ∧ Kq [38] [4] g g2 ∧ (g2 34 4).toInt = (g 34 4).toInt + n0.toInt)) := by
  refine Ctr.of (lv := [(0, .ref (aL X 34)), (1, .ref (aL X 53)), (2, .int f0), (3, .int n0)]) hX (by decide) rfl (Nat.le_of_ble_eq_true rfl) ?_
  intro p e s m below meth c C
  refine m_iconst C (0 : Int32) dX9_putAll_0 (by decide) ?_
  refine m_istore C [(4, .int (0 : Int32)), (0, .ref (aL X 34)), (1, .ref (aL X 53)), (2, .int f0), (3, .int n0)] dX9_putAll_1 (by decide) rfl ?_
  have L3 : ∀ (n3 : Nat) (x2 : Int32) (g3 : Mem), (65 - x2.toInt).toNat < n3 → Inv g3 → Kq [38] [4] g g3 → 0 ≤ x2.toInt ∧ x2.toInt ≤ n0.toInt → (g3 34 4).toInt = (g 34 4).toInt + x2.toInt → Wm X p l e (rmD 1) s m ([.ref (aL X 34), .ref (aL X 53), .int f0, .int n0] : List Value).toArray below meth c 5 0 0 (MQ below (cQ X (pV (fun g2 => Inv g2 ∧ Kq [38] [4] g g2 ∧ (g2 34 4).toInt = (g 34 4).toInt + n0.toInt))) ([.ref (aL X 34), .ref (aL X 53), .int f0, .int n0] : List Value).toArray s 0 0 (Ab X)) g3 3 [(0, .ref (aL X 34)), (1, .ref (aL X 53)), (2, .int f0), (3, .int n0), (4, .int x2)] [] := by
    intro n3
    induction n3 with
    | zero => intro x2 g3 hm; exact absurd hm (Nat.not_lt_zero _)
    | succ n3 ih3 =>
      intro x2 g3 hm3 hI4 hK5 i6 i7
      obtain ⟨i6a, i6b⟩ := i6
      refine m_iload C dX9_putAll_3 4 rfl ?_
      refine m_iload_n C dX9_putAll_5 3 rfl ?_
      refine m_icmp_ge C 25 dX9_putAll_6 (by decide) (fun h8 => ?_) (fun h8 => ?_)
      · skip
        have th8 := i_le h8
        exact m_vret C dX9_putAll_25 ⟨rfl, hI4, hK5, (by omega)⟩
      · skip
        have th8 := i_nle h8
        refine m_aload_n C dX9_putAll_9 0 rfl ?_
        refine m_aload_n C dX9_putAll_10 1 rfl ?_
        refine m_iload_n C dX9_putAll_11 2 rfl ?_
        refine m_iload C dX9_putAll_12 4 rfl ?_
        refine m_iadd C dX9_putAll_14 ?_
        have t9 : (f0 + x2).toInt = f0.toInt + x2.toInt := i_add rfl rfl (by omega) (by omega)
        refine m_iald C sh_53 (i_in (by omega) (by omega)) dX9_putAll_15 ?_
        refine m_invV C cal_X9_put sh_34 rfl (c_X9_put l hX g3 (g3 53 (f0 + x2).toNatClampNeg) hI4 (by omega)) lk_X9_154 im_X9_put se_X9_put (by decide) rfl rfl (Nat.le_of_ble_eq_true rfl) dX9_putAll_16 ⟨Nat.le_refl _, Nat.le_refl _⟩ (rV fun g11 q12 => ?_)
        obtain ⟨hI13, hK14, p15⟩ := q12
        have hK16 : Kq [38] [4] g g11 := (hK5).tr hK14 (by decide) (by decide)
        obtain ⟨x17, ex17⟩ : ∃ z : Int32, z = x2 + Int32.ofInt 1 := ⟨_, rfl⟩
        have t18 : (x2 + (Int32.ofInt 1)).toInt = x2.toInt + (1 : Int) := i_add rfl (by decide) (by omega) (by omega)
        have t19 : x17.toInt = (x2.toInt + (1 : Int)) := (congrArg Int32.toInt ex17).trans t18
        refine m_iinc C x17 [(4, .int x17), (0, .ref (aL X 34)), (1, .ref (aL X 53)), (2, .int f0), (3, .int n0)] dX9_putAll_19 (q := 4) rfl ex17.symm (by decide) rfl ?_
        refine m_goto C 3 dX9_putAll_22 (by decide) ?_
        refine m_lv [1, 2, 3, 4, 0] rfl ?_
        exact ih3 x17 g11 (by omega) hI13 hK16 (by omega) (by omega)
  have t20 : (0 : Int32).toInt = 0 := by decide
  refine m_lv [1, 2, 3, 4, 0] rfl ?_
  exact L3 (((65 - (0 : Int32).toInt).toNat) + 1) (0 : Int32) g (Nat.lt_succ_self _) hI Kq.rf (by omega) (by omega)
set_option maxRecDepth 20000 in
set_option maxHeartbeats 4000000 in
theorem c_X9_putAll_57 (l : Launch) {X : XT} (hX : Lok X) (g : Mem) (f0 : Int32) (n0 : Int32) (hI : Inv g) (h_f0 : 0 ≤ f0.toInt ∧ f0.toInt ≤ 32) (h_n0 : 0 ≤ n0.toInt ∧ n0.toInt ≤ 64) (hr : f0.toInt + n0.toInt ≤ 32) (hs : (g 34 4).toInt + n0.toInt ≤ 128) : Ctr l X yX9_putAll cX9_putAll 5 none (rmD 1) [.ref (aL X 34), .ref (aL X 57), .int f0, .int n0] g (pV (fun g2 => Inv g2 ∧ Kq [38] [4] g g2 ∧ (g2 34 4).toInt = (g 34 4).toInt + n0.toInt)) := by
  refine Ctr.of (lv := [(0, .ref (aL X 34)), (1, .ref (aL X 57)), (2, .int f0), (3, .int n0)]) hX (by decide) rfl (Nat.le_of_ble_eq_true rfl) ?_
  intro p e s m below meth c C
  refine m_iconst C (0 : Int32) dX9_putAll_0 (by decide) ?_
  refine m_istore C [(4, .int (0 : Int32)), (0, .ref (aL X 34)), (1, .ref (aL X 57)), (2, .int f0), (3, .int n0)] dX9_putAll_1 (by decide) rfl ?_
  have L3 : ∀ (n3 : Nat) (x2 : Int32) (g3 : Mem), (65 - x2.toInt).toNat < n3 → Inv g3 → Kq [38] [4] g g3 → 0 ≤ x2.toInt ∧ x2.toInt ≤ n0.toInt → (g3 34 4).toInt = (g 34 4).toInt + x2.toInt → Wm X p l e (rmD 1) s m ([.ref (aL X 34), .ref (aL X 57), .int f0, .int n0] : List Value).toArray below meth c 5 0 0 (MQ below (cQ X (pV (fun g2 => Inv g2 ∧ Kq [38] [4] g g2 ∧ (g2 34 4).toInt = (g 34 4).toInt + n0.toInt))) ([.ref (aL X 34), .ref (aL X 57), .int f0, .int n0] : List Value).toArray s 0 0 (Ab X)) g3 3 [(0, .ref (aL X 34)), (1, .ref (aL X 57)), (2, .int f0), (3, .int n0), (4, .int x2)] [] := by
    intro n3
    induction n3 with
    | zero => intro x2 g3 hm; exact absurd hm (Nat.not_lt_zero _)
    | succ n3 ih3 =>
      intro x2 g3 hm3 hI4 hK5 i6 i7
      obtain ⟨i6a, i6b⟩ := i6
      refine m_iload C dX9_putAll_3 4 rfl ?_
      refine m_iload_n C dX9_putAll_5 3 rfl ?_
      refine m_icmp_ge C 25 dX9_putAll_6 (by decide) (fun h8 => ?_) (fun h8 => ?_)
      · skip
        have th8 := i_le h8
        exact m_vret C dX9_putAll_25 ⟨rfl, hI4, hK5, (by omega)⟩
      · skip
        have th8 := i_nle h8
        refine m_aload_n C dX9_putAll_9 0 rfl ?_
        refine m_aload_n C dX9_putAll_10 1 rfl ?_
        refine m_iload_n C dX9_putAll_11 2 rfl ?_
        refine m_iload C dX9_putAll_12 4 rfl ?_
        refine m_iadd C dX9_putAll_14 ?_
        have t9 : (f0 + x2).toInt = f0.toInt + x2.toInt := i_add rfl rfl (by omega) (by omega)
        refine m_iald C sh_57 (i_in (by omega) (by omega)) dX9_putAll_15 ?_
        refine m_invV C cal_X9_put sh_34 rfl (c_X9_put l hX g3 (g3 57 (f0 + x2).toNatClampNeg) hI4 (by omega)) lk_X9_154 im_X9_put se_X9_put (by decide) rfl rfl (Nat.le_of_ble_eq_true rfl) dX9_putAll_16 ⟨Nat.le_refl _, Nat.le_refl _⟩ (rV fun g11 q12 => ?_)
        obtain ⟨hI13, hK14, p15⟩ := q12
        have hK16 : Kq [38] [4] g g11 := (hK5).tr hK14 (by decide) (by decide)
        obtain ⟨x17, ex17⟩ : ∃ z : Int32, z = x2 + Int32.ofInt 1 := ⟨_, rfl⟩
        have t18 : (x2 + (Int32.ofInt 1)).toInt = x2.toInt + (1 : Int) := i_add rfl (by decide) (by omega) (by omega)
        have t19 : x17.toInt = (x2.toInt + (1 : Int)) := (congrArg Int32.toInt ex17).trans t18
        refine m_iinc C x17 [(4, .int x17), (0, .ref (aL X 34)), (1, .ref (aL X 57)), (2, .int f0), (3, .int n0)] dX9_putAll_19 (q := 4) rfl ex17.symm (by decide) rfl ?_
        refine m_goto C 3 dX9_putAll_22 (by decide) ?_
        refine m_lv [1, 2, 3, 4, 0] rfl ?_
        exact ih3 x17 g11 (by omega) hI13 hK16 (by omega) (by omega)
  have t20 : (0 : Int32).toInt = 0 := by decide
  refine m_lv [1, 2, 3, 4, 0] rfl ?_
  exact L3 (((65 - (0 : Int32).toInt).toNat) + 1) (0 : Int32) g (Nat.lt_succ_self _) hI Kq.rf (by omega) (by omega)
set_option maxRecDepth 20000 in
set_option maxHeartbeats 4000000 in
theorem c_X9_putAll_58 (l : Launch) {X : XT} (hX : Lok X) (g : Mem) (f0 : Int32) (n0 : Int32) (hI : Inv g) (h_f0 : 0 ≤ f0.toInt ∧ f0.toInt ≤ 32) (h_n0 : 0 ≤ n0.toInt ∧ n0.toInt ≤ 64) (hr : f0.toInt + n0.toInt ≤ 32) (hs : (g 34 4).toInt + n0.toInt ≤ 128) : Ctr l X yX9_putAll cX9_putAll 5 none (rmD 1) [.ref (aL X 34), .ref (aL X 58), .int f0, .int n0] g (pV (fun g2 => Inv g2 ∧ Kq [38] [4] g g2 ∧ (g2 34 4).toInt = (g 34 4).toInt + n0.toInt)) := by
  refine Ctr.of (lv := [(0, .ref (aL X 34)), (1, .ref (aL X 58)), (2, .int f0), (3, .int n0)]) hX (by decide) rfl (Nat.le_of_ble_eq_true rfl) ?_
  intro p e s m below meth c C
  refine m_iconst C (0 : Int32) dX9_putAll_0 (by decide) ?_
  refine m_istore C [(4, .int (0 : Int32)), (0, .ref (aL X 34)), (1, .ref (aL X 58)), (2, .int f0), (3, .int n0)] dX9_putAll_1 (by decide) rfl ?_
  have L3 : ∀ (n3 : Nat) (x2 : Int32) (g3 : Mem), (65 - x2.toInt).toNat < n3 → Inv g3 → Kq [38] [4] g g3 → 0 ≤ x2.toInt ∧ x2.toInt ≤ n0.toInt → (g3 34 4).toInt = (g 34 4).toInt + x2.toInt → Wm X p l e (rmD 1) s m ([.ref (aL X 34), .ref (aL X 58), .int f0, .int n0] : List Value).toArray below meth c 5 0 0 (MQ below (cQ X (pV (fun g2 => Inv g2 ∧ Kq [38] [4] g g2 ∧ (g2 34 4).toInt = (g 34 4).toInt + n0.toInt))) ([.ref (aL X 34), .ref (aL X 58), .int f0, .int n0] : List Value).toArray s 0 0 (Ab X)) g3 3 [(0, .ref (aL X 34)), (1, .ref (aL X 58)), (2, .int f0), (3, .int n0), (4, .int x2)] [] := by
    intro n3
    induction n3 with
    | zero => intro x2 g3 hm; exact absurd hm (Nat.not_lt_zero _)
    | succ n3 ih3 =>
      intro x2 g3 hm3 hI4 hK5 i6 i7
      obtain ⟨i6a, i6b⟩ := i6
      refine m_iload C dX9_putAll_3 4 rfl ?_
      refine m_iload_n C dX9_putAll_5 3 rfl ?_
      refine m_icmp_ge C 25 dX9_putAll_6 (by decide) (fun h8 => ?_) (fun h8 => ?_)
      · skip
        have th8 := i_le h8
        exact m_vret C dX9_putAll_25 ⟨rfl, hI4, hK5, (by omega)⟩
      · skip
        have th8 := i_nle h8
        refine m_aload_n C dX9_putAll_9 0 rfl ?_
        refine m_aload_n C dX9_putAll_10 1 rfl ?_
        refine m_iload_n C dX9_putAll_11 2 rfl ?_
        refine m_iload C dX9_putAll_12 4 rfl ?_
        refine m_iadd C dX9_putAll_14 ?_
        have t9 : (f0 + x2).toInt = f0.toInt + x2.toInt := i_add rfl rfl (by omega) (by omega)
        refine m_iald C sh_58 (i_in (by omega) (by omega)) dX9_putAll_15 ?_
        refine m_invV C cal_X9_put sh_34 rfl (c_X9_put l hX g3 (g3 58 (f0 + x2).toNatClampNeg) hI4 (by omega)) lk_X9_154 im_X9_put se_X9_put (by decide) rfl rfl (Nat.le_of_ble_eq_true rfl) dX9_putAll_16 ⟨Nat.le_refl _, Nat.le_refl _⟩ (rV fun g11 q12 => ?_)
        obtain ⟨hI13, hK14, p15⟩ := q12
        have hK16 : Kq [38] [4] g g11 := (hK5).tr hK14 (by decide) (by decide)
        obtain ⟨x17, ex17⟩ : ∃ z : Int32, z = x2 + Int32.ofInt 1 := ⟨_, rfl⟩
        have t18 : (x2 + (Int32.ofInt 1)).toInt = x2.toInt + (1 : Int) := i_add rfl (by decide) (by omega) (by omega)
        have t19 : x17.toInt = (x2.toInt + (1 : Int)) := (congrArg Int32.toInt ex17).trans t18
        refine m_iinc C x17 [(4, .int x17), (0, .ref (aL X 34)), (1, .ref (aL X 58)), (2, .int f0), (3, .int n0)] dX9_putAll_19 (q := 4) rfl ex17.symm (by decide) rfl ?_
        refine m_goto C 3 dX9_putAll_22 (by decide) ?_
        refine m_lv [1, 2, 3, 4, 0] rfl ?_
        exact ih3 x17 g11 (by omega) hI13 hK16 (by omega) (by omega)
  have t20 : (0 : Int32).toInt = 0 := by decide
  refine m_lv [1, 2, 3, 4, 0] rfl ?_
  exact L3 (((65 - (0 : Int32).toInt).toNat) + 1) (0 : Int32) g (Nat.lt_succ_self _) hI Kq.rf (by omega) (by omega)
set_option maxRecDepth 20000 in
set_option maxHeartbeats 4000000 in
theorem c_X9_putAll_59 (l : Launch) {X : XT} (hX : Lok X) (g : Mem) (f0 : Int32) (n0 : Int32) (hI : Inv g) (h_f0 : 0 ≤ f0.toInt ∧ f0.toInt ≤ 288) (h_n0 : 0 ≤ n0.toInt ∧ n0.toInt ≤ 64) (hr : f0.toInt + n0.toInt ≤ 288) (hs : (g 34 4).toInt + n0.toInt ≤ 128) : Ctr l X yX9_putAll cX9_putAll 5 none (rmD 1) [.ref (aL X 34), .ref (aL X 59), .int f0, .int n0] g (pV (fun g2 => Inv g2 ∧ Kq [38] [4] g g2 ∧ (g2 34 4).toInt = (g 34 4).toInt + n0.toInt)) := by
  refine Ctr.of (lv := [(0, .ref (aL X 34)), (1, .ref (aL X 59)), (2, .int f0), (3, .int n0)]) hX (by decide) rfl (Nat.le_of_ble_eq_true rfl) ?_
  intro p e s m below meth c C
  refine m_iconst C (0 : Int32) dX9_putAll_0 (by decide) ?_
  refine m_istore C [(4, .int (0 : Int32)), (0, .ref (aL X 34)), (1, .ref (aL X 59)), (2, .int f0), (3, .int n0)] dX9_putAll_1 (by decide) rfl ?_
  have L3 : ∀ (n3 : Nat) (x2 : Int32) (g3 : Mem), (65 - x2.toInt).toNat < n3 → Inv g3 → Kq [38] [4] g g3 → 0 ≤ x2.toInt ∧ x2.toInt ≤ n0.toInt → (g3 34 4).toInt = (g 34 4).toInt + x2.toInt → Wm X p l e (rmD 1) s m ([.ref (aL X 34), .ref (aL X 59), .int f0, .int n0] : List Value).toArray below meth c 5 0 0 (MQ below (cQ X (pV (fun g2 => Inv g2 ∧ Kq [38] [4] g g2 ∧ (g2 34 4).toInt = (g 34 4).toInt + n0.toInt))) ([.ref (aL X 34), .ref (aL X 59), .int f0, .int n0] : List Value).toArray s 0 0 (Ab X)) g3 3 [(0, .ref (aL X 34)), (1, .ref (aL X 59)), (2, .int f0), (3, .int n0), (4, .int x2)] [] := by
    intro n3
    induction n3 with
    | zero => intro x2 g3 hm; exact absurd hm (Nat.not_lt_zero _)
    | succ n3 ih3 =>
      intro x2 g3 hm3 hI4 hK5 i6 i7
      obtain ⟨i6a, i6b⟩ := i6
      refine m_iload C dX9_putAll_3 4 rfl ?_
      refine m_iload_n C dX9_putAll_5 3 rfl ?_
      refine m_icmp_ge C 25 dX9_putAll_6 (by decide) (fun h8 => ?_) (fun h8 => ?_)
      · skip
        have th8 := i_le h8
        exact m_vret C dX9_putAll_25 ⟨rfl, hI4, hK5, (by omega)⟩
      · skip
        have th8 := i_nle h8
        refine m_aload_n C dX9_putAll_9 0 rfl ?_
        refine m_aload_n C dX9_putAll_10 1 rfl ?_
        refine m_iload_n C dX9_putAll_11 2 rfl ?_
        refine m_iload C dX9_putAll_12 4 rfl ?_
        refine m_iadd C dX9_putAll_14 ?_
        have t9 : (f0 + x2).toInt = f0.toInt + x2.toInt := i_add rfl rfl (by omega) (by omega)
        refine m_iald C sh_59 (i_in (by omega) (by omega)) dX9_putAll_15 ?_
        refine m_invV C cal_X9_put sh_34 rfl (c_X9_put l hX g3 (g3 59 (f0 + x2).toNatClampNeg) hI4 (by omega)) lk_X9_154 im_X9_put se_X9_put (by decide) rfl rfl (Nat.le_of_ble_eq_true rfl) dX9_putAll_16 ⟨Nat.le_refl _, Nat.le_refl _⟩ (rV fun g11 q12 => ?_)
        obtain ⟨hI13, hK14, p15⟩ := q12
        have hK16 : Kq [38] [4] g g11 := (hK5).tr hK14 (by decide) (by decide)
        obtain ⟨x17, ex17⟩ : ∃ z : Int32, z = x2 + Int32.ofInt 1 := ⟨_, rfl⟩
        have t18 : (x2 + (Int32.ofInt 1)).toInt = x2.toInt + (1 : Int) := i_add rfl (by decide) (by omega) (by omega)
        have t19 : x17.toInt = (x2.toInt + (1 : Int)) := (congrArg Int32.toInt ex17).trans t18
        refine m_iinc C x17 [(4, .int x17), (0, .ref (aL X 34)), (1, .ref (aL X 59)), (2, .int f0), (3, .int n0)] dX9_putAll_19 (q := 4) rfl ex17.symm (by decide) rfl ?_
        refine m_goto C 3 dX9_putAll_22 (by decide) ?_
        refine m_lv [1, 2, 3, 4, 0] rfl ?_
        exact ih3 x17 g11 (by omega) hI13 hK16 (by omega) (by omega)
  have t20 : (0 : Int32).toInt = 0 := by decide
  refine m_lv [1, 2, 3, 4, 0] rfl ?_
  exact L3 (((65 - (0 : Int32).toInt).toNat) + 1) (0 : Int32) g (Nat.lt_succ_self _) hI Kq.rf (by omega) (by omega)
set_option maxRecDepth 20000 in
set_option maxHeartbeats 4000000 in
theorem c_X9_block (l : Launch) {X : XT} (hX : Lok X) (g : Mem) (f0 : Int32) (hI : Inv g) (h_f0 : 0 ≤ f0.toInt ∧ f0.toInt ≤ 64) : Ctr l X yX9_block cX9_block 13 none (rmD 1) [.ref (aL X 34), .int f0] g (pV (fun g2 => Inv g2 ∧ Kq [36, 37] [] g g2)) := by
  refine Ctr.of (lv := [(0, .ref (aL X 34)), (1, .int f0)]) hX (by decide) rfl (Nat.le_of_ble_eq_true rfl) ?_
  intro p e s m below meth c C
  refine m_iconst C (0 : Int32) dX9_block_0 (by decide) ?_
  refine m_istore_n C [(2, .int (0 : Int32)), (0, .ref (aL X 34)), (1, .int f0)] dX9_block_1 (by decide) rfl ?_
  have L2 : ∀ (n2 : Nat) (x2 : Int32) (g3 : Mem), (17 - x2.toInt).toNat < n2 → Inv g3 → Kq [36, 37] [] g g3 → 0 ≤ x2.toInt ∧ x2.toInt ≤ 16 → Wm X p l e (rmD 1) s m ([.ref (aL X 34), .int f0] : List Value).toArray below meth c 13 0 0 (MQ below (cQ X (pV (fun g2 => Inv g2 ∧ Kq [36, 37] [] g g2))) ([.ref (aL X 34), .int f0] : List Value).toArray s 0 0 (Ab X)) g3 2 [(0, .ref (aL X 34)), (1, .int f0), (2, .int x2)] [] := by
    intro n2
    induction n2 with
    | zero => intro x2 g3 hm; exact absurd hm (Nat.not_lt_zero _)
    | succ n2 ih2 =>
      intro x2 g3 hm2 hI4 hK5 i6
      obtain ⟨i6a, i6b⟩ := i6
      refine m_iload_n C dX9_block_2 2 rfl ?_
      refine m_bipush C (16 : Int32) dX9_block_3 (by decide) ?_
      refine m_icmp_ge C 68 dX9_block_5 (by decide) (fun h7 => ?_) (fun h7 => ?_)
      · skip
        have th7 := i_le h7
        rw [show (16 : Int32).toInt = 16 by decide] at th7
        refine m_bipush C (16 : Int32) dX9_block_68 (by decide) ?_
        refine m_istore_n C [(2, .int (16 : Int32)), (0, .ref (aL X 34)), (1, .int f0)] dX9_block_70 (by decide) rfl ?_
        have L71 : ∀ (n71 : Nat) (x9 : Int32) (g10 : Mem), (65 - x9.toInt).toNat < n71 → Inv g10 → Kq [36, 37] [] g g10 → 16 ≤ x9.toInt ∧ x9.toInt ≤ 64 → Wm X p l e (rmD 1) s m ([.ref (aL X 34), .int f0] : List Value).toArray below meth c 13 0 0 (MQ below (cQ X (pV (fun g2 => Inv g2 ∧ Kq [36, 37] [] g g2))) ([.ref (aL X 34), .int f0] : List Value).toArray s 0 0 (Ab X)) g10 71 [(0, .ref (aL X 34)), (1, .int f0), (2, .int x9)] [] := by
          intro n71
          induction n71 with
          | zero => intro x9 g10 hm; exact absurd hm (Nat.not_lt_zero _)
          | succ n71 ih71 =>
            intro x9 g10 hm71 hI11 hK12 i13
            obtain ⟨i13a, i13b⟩ := i13
            refine m_iload_n C dX9_block_71 2 rfl ?_
            refine m_bipush C (64 : Int32) dX9_block_72 (by decide) ?_
            refine m_icmp_ge C 196 dX9_block_74 (by decide) (fun h14 => ?_) (fun h14 => ?_)
            · skip
              have th14 := i_le h14
              rw [show (64 : Int32).toInt = 64 by decide] at th14
              refine m_aload_n C dX9_block_196 0 rfl ?_
              refine m_getr (rf := "") C 2 rfl gd9 (by decide) sh_34 rfl dX9_block_197 lk_X9_16 ?_
              refine m_iconst C (0 : Int32) dX9_block_200 (by decide) ?_
              refine m_iald C sh_37 (i_in (by decide) (by decide)) dX9_block_201 ?_
              refine m_name (fun x15 ex15 => ?_)
              refine m_istore_n C [(2, .int x15), (0, .ref (aL X 34)), (1, .int f0)] dX9_block_202 (by decide) rfl ?_
              refine m_aload_n C dX9_block_203 1 rfl ?_
              refine m_getr (rf := "") C 2 rfl gd9 (by decide) sh_34 rfl dX9_block_204 lk_X9_16 ?_
              refine m_iconst C (1 : Int32) dX9_block_207 (by decide) ?_
              refine m_iald C sh_37 (i_in (by decide) (by decide)) dX9_block_208 ?_
              refine m_name (fun x16 ex16 => ?_)
              refine m_istore_n C [(3, .int x16), (2, .int x15), (0, .ref (aL X 34)), (1, .int f0)] dX9_block_209 (by decide) rfl ?_
              refine m_aload_n C dX9_block_210 2 rfl ?_
              refine m_getr (rf := "") C 2 rfl gd9 (by decide) sh_34 rfl dX9_block_211 lk_X9_16 ?_
              refine m_iconst C (2 : Int32) dX9_block_214 (by decide) ?_
              refine m_iald C sh_37 (i_in (by decide) (by decide)) dX9_block_215 ?_
              refine m_name (fun x17 ex17 => ?_)
              refine m_istore C [(4, .int x17), (3, .int x16), (2, .int x15), (0, .ref (aL X 34)), (1, .int f0)] dX9_block_216 (by decide) rfl ?_
              refine m_aload_n C dX9_block_218 3 rfl ?_
              refine m_getr (rf := "") C 2 rfl gd9 (by decide) sh_34 rfl dX9_block_219 lk_X9_16 ?_
              refine m_iconst C (3 : Int32) dX9_block_222 (by decide) ?_
              refine m_iald C sh_37 (i_in (by decide) (by decide)) dX9_block_223 ?_
              refine m_name (fun x18 ex18 => ?_)
              refine m_istore C [(5, .int x18), (4, .int x17), (3, .int x16), (2, .int x15), (0, .ref (aL X 34)), (1, .int f0)] dX9_block_224 (by decide) rfl ?_
              refine m_aload_n C dX9_block_226 4 rfl ?_
              refine m_getr (rf := "") C 2 rfl gd9 (by decide) sh_34 rfl dX9_block_227 lk_X9_16 ?_
              refine m_iconst C (4 : Int32) dX9_block_230 (by decide) ?_
              refine m_iald C sh_37 (i_in (by decide) (by decide)) dX9_block_231 ?_
              refine m_name (fun x19 ex19 => ?_)
              refine m_istore C [(6, .int x19), (5, .int x18), (4, .int x17), (3, .int x16), (2, .int x15), (0, .ref (aL X 34)), (1, .int f0)] dX9_block_232 (by decide) rfl ?_
              refine m_aload_n C dX9_block_234 5 rfl ?_
              refine m_getr (rf := "") C 2 rfl gd9 (by decide) sh_34 rfl dX9_block_235 lk_X9_16 ?_
              refine m_iconst C (5 : Int32) dX9_block_238 (by decide) ?_
              refine m_iald C sh_37 (i_in (by decide) (by decide)) dX9_block_239 ?_
              refine m_name (fun x20 ex20 => ?_)
              refine m_istore C [(7, .int x20), (6, .int x19), (5, .int x18), (4, .int x17), (3, .int x16), (2, .int x15), (0, .ref (aL X 34)), (1, .int f0)] dX9_block_240 (by decide) rfl ?_
              refine m_aload_n C dX9_block_242 6 rfl ?_
              refine m_getr (rf := "") C 2 rfl gd9 (by decide) sh_34 rfl dX9_block_243 lk_X9_16 ?_
              refine m_bipush C (6 : Int32) dX9_block_246 (by decide) ?_
              refine m_iald C sh_37 (i_in (by decide) (by decide)) dX9_block_248 ?_
              refine m_name (fun x21 ex21 => ?_)
              refine m_istore C [(8, .int x21), (7, .int x20), (6, .int x19), (5, .int x18), (4, .int x17), (3, .int x16), (2, .int x15), (0, .ref (aL X 34)), (1, .int f0)] dX9_block_249 (by decide) rfl ?_
              refine m_aload_n C dX9_block_251 7 rfl ?_
              refine m_getr (rf := "") C 2 rfl gd9 (by decide) sh_34 rfl dX9_block_252 lk_X9_16 ?_
              refine m_bipush C (7 : Int32) dX9_block_255 (by decide) ?_
              refine m_iald C sh_37 (i_in (by decide) (by decide)) dX9_block_257 ?_
              refine m_name (fun x22 ex22 => ?_)
              refine m_istore C [(9, .int x22), (8, .int x21), (7, .int x20), (6, .int x19), (5, .int x18), (4, .int x17), (3, .int x16), (2, .int x15), (0, .ref (aL X 34)), (1, .int f0)] dX9_block_258 (by decide) rfl ?_
              refine m_iconst C (0 : Int32) dX9_block_260 (by decide) ?_
              refine m_istore C [(10, .int (0 : Int32)), (9, .int x22), (8, .int x21), (7, .int x20), (6, .int x19), (5, .int x18), (4, .int x17), (3, .int x16), (2, .int x15), (0, .ref (aL X 34)), (1, .int f0)] dX9_block_261 (by decide) rfl ?_
              have L263 : ∀ (n263 : Nat) (x24 : Int32) (x25 : Int32) (x26 : Int32) (x27 : Int32) (x28 : Int32) (x29 : Int32) (x30 : Int32) (x31 : Int32) (x32 : Int32) (g33 : Mem), (65 - x32.toInt).toNat < n263 → Inv g33 → Kq [36, 37] [] g g33 → 0 ≤ x32.toInt ∧ x32.toInt ≤ 64 → Wm X p l e (rmD 1) s m ([.ref (aL X 34), .int f0] : List Value).toArray below meth c 13 0 0 (MQ below (cQ X (pV (fun g2 => Inv g2 ∧ Kq [36, 37] [] g g2))) ([.ref (aL X 34), .int f0] : List Value).toArray s 0 0 (Ab X)) g33 263 [(0, .ref (aL X 34)), (1, .int f0), (2, .int x24), (3, .int x25), (4, .int x26), (5, .int x27), (6, .int x28), (7, .int x29), (8, .int x30), (9, .int x31), (10, .int x32)] [] := by
                intro n263
                induction n263 with
                | zero => intro x24 x25 x26 x27 x28 x29 x30 x31 x32 g33 hm; exact absurd hm (Nat.not_lt_zero _)
                | succ n263 ih263 =>
                  intro x24 x25 x26 x27 x28 x29 x30 x31 x32 g33 hm263 hI34 hK35 i36
                  obtain ⟨i36a, i36b⟩ := i36
                  refine m_iload C dX9_block_263 10 rfl ?_
                  refine m_bipush C (64 : Int32) dX9_block_265 (by decide) ?_
                  refine m_icmp_ge C 403 dX9_block_267 (by decide) (fun h37 => ?_) (fun h37 => ?_)
                  · skip
                    have th37 := i_le h37
                    rw [show (64 : Int32).toInt = 64 by decide] at th37
                    refine m_aload_n C dX9_block_403 0 rfl ?_
                    refine m_getr (rf := "") C 2 rfl gd9 (by decide) sh_34 rfl dX9_block_404 lk_X9_16 ?_
                    refine m_iconst C (0 : Int32) dX9_block_407 (by decide) ?_
                    refine m_dup2 C dX9_block_408 rfl rfl ?_
                    refine m_iald C sh_37 (i_in (by decide) (by decide)) dX9_block_409 ?_
                    refine m_iload_n C dX9_block_410 2 rfl ?_
                    refine m_iadd C dX9_block_411 ?_
                    refine m_iast C sh_37 (i_in (by decide) (by decide)) dX9_block_412 ?_
                    refine m_mem (fun g38 eg38 => ?_)
                    have hI39 : Inv g38 := by rw [eg38]; exact hI34.up (ok_any (by decide))
                    have hK40 : Kq [36, 37] [] g g38 := by rw [eg38]; exact Kq.upA hK35 (by decide) (by decide)
                    refine m_aload_n C dX9_block_413 0 rfl ?_
                    refine m_getr (rf := "") C 2 rfl gd9 (by decide) sh_34 rfl dX9_block_414 lk_X9_16 ?_
                    refine m_iconst C (1 : Int32) dX9_block_417 (by decide) ?_
                    refine m_dup2 C dX9_block_418 rfl rfl ?_
                    refine m_iald C sh_37 (i_in (by decide) (by decide)) dX9_block_419 ?_
                    refine m_iload_n C dX9_block_420 3 rfl ?_
                    refine m_iadd C dX9_block_421 ?_
                    refine m_iast C sh_37 (i_in (by decide) (by decide)) dX9_block_422 ?_
                    refine m_mem (fun g41 eg41 => ?_)
                    have hI42 : Inv g41 := by rw [eg41]; exact hI39.up (ok_any (by decide))
                    have hK43 : Kq [36, 37] [] g g41 := by rw [eg41]; exact Kq.upA hK40 (by decide) (by decide)
                    refine m_aload_n C dX9_block_423 0 rfl ?_
                    refine m_getr (rf := "") C 2 rfl gd9 (by decide) sh_34 rfl dX9_block_424 lk_X9_16 ?_
                    refine m_iconst C (2 : Int32) dX9_block_427 (by decide) ?_
                    refine m_dup2 C dX9_block_428 rfl rfl ?_
                    refine m_iald C sh_37 (i_in (by decide) (by decide)) dX9_block_429 ?_
                    refine m_iload C dX9_block_430 4 rfl ?_
                    refine m_iadd C dX9_block_432 ?_
                    refine m_iast C sh_37 (i_in (by decide) (by decide)) dX9_block_433 ?_
                    refine m_mem (fun g44 eg44 => ?_)
                    have hI45 : Inv g44 := by rw [eg44]; exact hI42.up (ok_any (by decide))
                    have hK46 : Kq [36, 37] [] g g44 := by rw [eg44]; exact Kq.upA hK43 (by decide) (by decide)
                    refine m_aload_n C dX9_block_434 0 rfl ?_
                    refine m_getr (rf := "") C 2 rfl gd9 (by decide) sh_34 rfl dX9_block_435 lk_X9_16 ?_
                    refine m_iconst C (3 : Int32) dX9_block_438 (by decide) ?_
                    refine m_dup2 C dX9_block_439 rfl rfl ?_
                    refine m_iald C sh_37 (i_in (by decide) (by decide)) dX9_block_440 ?_
                    refine m_iload C dX9_block_441 5 rfl ?_
                    refine m_iadd C dX9_block_443 ?_
                    refine m_iast C sh_37 (i_in (by decide) (by decide)) dX9_block_444 ?_
                    refine m_mem (fun g47 eg47 => ?_)
                    have hI48 : Inv g47 := by rw [eg47]; exact hI45.up (ok_any (by decide))
                    have hK49 : Kq [36, 37] [] g g47 := by rw [eg47]; exact Kq.upA hK46 (by decide) (by decide)
                    refine m_aload_n C dX9_block_445 0 rfl ?_
                    refine m_getr (rf := "") C 2 rfl gd9 (by decide) sh_34 rfl dX9_block_446 lk_X9_16 ?_
                    refine m_iconst C (4 : Int32) dX9_block_449 (by decide) ?_
                    refine m_dup2 C dX9_block_450 rfl rfl ?_
                    refine m_iald C sh_37 (i_in (by decide) (by decide)) dX9_block_451 ?_
                    refine m_iload C dX9_block_452 6 rfl ?_
                    refine m_iadd C dX9_block_454 ?_
                    refine m_iast C sh_37 (i_in (by decide) (by decide)) dX9_block_455 ?_
                    refine m_mem (fun g50 eg50 => ?_)
                    have hI51 : Inv g50 := by rw [eg50]; exact hI48.up (ok_any (by decide))
                    have hK52 : Kq [36, 37] [] g g50 := by rw [eg50]; exact Kq.upA hK49 (by decide) (by decide)
                    refine m_aload_n C dX9_block_456 0 rfl ?_
                    refine m_getr (rf := "") C 2 rfl gd9 (by decide) sh_34 rfl dX9_block_457 lk_X9_16 ?_
                    refine m_iconst C (5 : Int32) dX9_block_460 (by decide) ?_
                    refine m_dup2 C dX9_block_461 rfl rfl ?_
                    refine m_iald C sh_37 (i_in (by decide) (by decide)) dX9_block_462 ?_
                    refine m_iload C dX9_block_463 7 rfl ?_
                    refine m_iadd C dX9_block_465 ?_
                    refine m_iast C sh_37 (i_in (by decide) (by decide)) dX9_block_466 ?_
                    refine m_mem (fun g53 eg53 => ?_)
                    have hI54 : Inv g53 := by rw [eg53]; exact hI51.up (ok_any (by decide))
                    have hK55 : Kq [36, 37] [] g g53 := by rw [eg53]; exact Kq.upA hK52 (by decide) (by decide)
                    refine m_aload_n C dX9_block_467 0 rfl ?_
                    refine m_getr (rf := "") C 2 rfl gd9 (by decide) sh_34 rfl dX9_block_468 lk_X9_16 ?_
                    refine m_bipush C (6 : Int32) dX9_block_471 (by decide) ?_
                    refine m_dup2 C dX9_block_473 rfl rfl ?_
                    refine m_iald C sh_37 (i_in (by decide) (by decide)) dX9_block_474 ?_
                    refine m_iload C dX9_block_475 8 rfl ?_
                    refine m_iadd C dX9_block_477 ?_
                    refine m_iast C sh_37 (i_in (by decide) (by decide)) dX9_block_478 ?_
                    refine m_mem (fun g56 eg56 => ?_)
                    have hI57 : Inv g56 := by rw [eg56]; exact hI54.up (ok_any (by decide))
                    have hK58 : Kq [36, 37] [] g g56 := by rw [eg56]; exact Kq.upA hK55 (by decide) (by decide)
                    refine m_aload_n C dX9_block_479 0 rfl ?_
                    refine m_getr (rf := "") C 2 rfl gd9 (by decide) sh_34 rfl dX9_block_480 lk_X9_16 ?_
                    refine m_bipush C (7 : Int32) dX9_block_483 (by decide) ?_
                    refine m_dup2 C dX9_block_485 rfl rfl ?_
                    refine m_iald C sh_37 (i_in (by decide) (by decide)) dX9_block_486 ?_
                    refine m_iload C dX9_block_487 9 rfl ?_
                    refine m_iadd C dX9_block_489 ?_
                    refine m_iast C sh_37 (i_in (by decide) (by decide)) dX9_block_490 ?_
                    refine m_mem (fun g59 eg59 => ?_)
                    have hI60 : Inv g59 := by rw [eg59]; exact hI57.up (ok_any (by decide))
                    have hK61 : Kq [36, 37] [] g g59 := by rw [eg59]; exact Kq.upA hK58 (by decide) (by decide)
                    exact m_vret C dX9_block_491 ⟨rfl, hI60, hK61⟩
                  · skip
                    have th37 := i_nle h37
                    rw [show (64 : Int32).toInt = 64 by decide] at th37
                    refine m_iload C dX9_block_270 9 rfl ?_
                    refine m_iload C dX9_block_272 6 rfl ?_
                    refine m_bipush C (6 : Int32) dX9_block_274 (by decide) ?_
                    have t62 : (6 : Int32).toInt = 6 := by decide
                    refine m_invS C cal_X9_turn (c_X9_turn l hX g33 x28 (6 : Int32) hI34) lk_X9_158 st_X9_turn (by decide) rfl rfl (Nat.le_of_ble_eq_true rfl) dX9_block_276 ⟨Nat.le_refl _, Nat.le_refl _⟩ (rI fun r63 g64 q65 => ?_)
                    obtain ⟨eg64, p66⟩ := q65
                    subst g64
                    refine m_iload C dX9_block_279 6 rfl ?_
                    refine m_bipush C (11 : Int32) dX9_block_281 (by decide) ?_
                    have t67 : (11 : Int32).toInt = 11 := by decide
                    refine m_invS C cal_X9_turn (c_X9_turn l hX g33 x28 (11 : Int32) hI34) lk_X9_158 st_X9_turn (by decide) rfl rfl (Nat.le_of_ble_eq_true rfl) dX9_block_283 ⟨Nat.le_refl _, Nat.le_refl _⟩ (rI fun r68 g69 q70 => ?_)
                    obtain ⟨eg69, p71⟩ := q70
                    subst g69
                    refine m_ixor C dX9_block_286 ?_
                    refine m_iload C dX9_block_287 6 rfl ?_
                    refine m_bipush C (25 : Int32) dX9_block_289 (by decide) ?_
                    have t72 : (25 : Int32).toInt = 25 := by decide
                    refine m_invS C cal_X9_turn (c_X9_turn l hX g33 x28 (25 : Int32) hI34) lk_X9_158 st_X9_turn (by decide) rfl rfl (Nat.le_of_ble_eq_true rfl) dX9_block_291 ⟨Nat.le_refl _, Nat.le_refl _⟩ (rI fun r73 g74 q75 => ?_)
                    obtain ⟨eg74, p76⟩ := q75
                    subst g74
                    refine m_ixor C dX9_block_294 ?_
                    refine m_iadd C dX9_block_295 ?_
                    refine m_iload C dX9_block_296 6 rfl ?_
                    refine m_iload C dX9_block_298 7 rfl ?_
                    refine m_iand C dX9_block_300 ?_
                    refine m_iload C dX9_block_301 6 rfl ?_
                    refine m_iconst C (-1 : Int32) dX9_block_303 (by decide) ?_
                    refine m_ixor C dX9_block_304 ?_
                    refine m_iload C dX9_block_305 8 rfl ?_
                    refine m_iand C dX9_block_307 ?_
                    refine m_ixor C dX9_block_308 ?_
                    refine m_iadd C dX9_block_309 ?_
                    refine m_aload_n C dX9_block_310 0 rfl ?_
                    refine m_getr (rf := "") C 0 rfl gd9 (by decide) sh_34 rfl dX9_block_311 lk_X9_7 ?_
                    refine m_iload C dX9_block_314 10 rfl ?_
                    refine m_iald C sh_35 (i_in (by omega) (by omega)) dX9_block_316 ?_
                    refine m_iadd C dX9_block_317 ?_
                    refine m_aload_n C dX9_block_318 0 rfl ?_
                    refine m_getr (rf := "") C 1 rfl gd9 (by decide) sh_34 rfl dX9_block_319 lk_X9_13 ?_
                    refine m_iload C dX9_block_322 10 rfl ?_
                    refine m_iald C sh_36 (i_in (by omega) (by omega)) dX9_block_324 ?_
                    refine m_iadd C dX9_block_325 ?_
                    refine m_name (fun x77 ex77 => ?_)
                    refine m_istore C [(11, .int x77), (0, .ref (aL X 34)), (1, .int f0), (2, .int x24), (3, .int x25), (4, .int x26), (5, .int x27), (6, .int x28), (7, .int x29), (8, .int x30), (9, .int x31), (10, .int x32)] dX9_block_326 (by decide) rfl ?_
                    refine m_iload_n C dX9_block_328 3 rfl ?_
                    refine m_iconst C (2 : Int32) dX9_block_329 (by decide) ?_
                    have t78 : (2 : Int32).toInt = 2 := by decide
                    refine m_invS C cal_X9_turn (c_X9_turn l hX g33 x24 (2 : Int32) hI34) lk_X9_158 st_X9_turn (by decide) rfl rfl (Nat.le_of_ble_eq_true rfl) dX9_block_330 ⟨Nat.le_refl _, Nat.le_refl _⟩ (rI fun r79 g80 q81 => ?_)
                    obtain ⟨eg80, p82⟩ := q81
                    subst g80
                    refine m_iload_n C dX9_block_333 3 rfl ?_
                    refine m_bipush C (13 : Int32) dX9_block_334 (by decide) ?_
                    have t83 : (13 : Int32).toInt = 13 := by decide
                    refine m_invS C cal_X9_turn (c_X9_turn l hX g33 x24 (13 : Int32) hI34) lk_X9_158 st_X9_turn (by decide) rfl rfl (Nat.le_of_ble_eq_true rfl) dX9_block_336 ⟨Nat.le_refl _, Nat.le_refl _⟩ (rI fun r84 g85 q86 => ?_)
                    obtain ⟨eg85, p87⟩ := q86
                    subst g85
                    refine m_ixor C dX9_block_339 ?_
                    refine m_iload_n C dX9_block_340 3 rfl ?_
                    refine m_bipush C (22 : Int32) dX9_block_341 (by decide) ?_
                    have t88 : (22 : Int32).toInt = 22 := by decide
                    refine m_invS C cal_X9_turn (c_X9_turn l hX g33 x24 (22 : Int32) hI34) lk_X9_158 st_X9_turn (by decide) rfl rfl (Nat.le_of_ble_eq_true rfl) dX9_block_343 ⟨Nat.le_refl _, Nat.le_refl _⟩ (rI fun r89 g90 q91 => ?_)
                    obtain ⟨eg90, p92⟩ := q91
                    subst g90
                    refine m_ixor C dX9_block_346 ?_
                    refine m_iload_n C dX9_block_347 3 rfl ?_
                    refine m_iload_n C dX9_block_348 4 rfl ?_
                    refine m_iand C dX9_block_349 ?_
                    refine m_iload_n C dX9_block_350 3 rfl ?_
                    refine m_iload C dX9_block_351 5 rfl ?_
                    refine m_iand C dX9_block_353 ?_
                    refine m_ixor C dX9_block_354 ?_
                    refine m_iload_n C dX9_block_355 4 rfl ?_
                    refine m_iload C dX9_block_356 5 rfl ?_
                    refine m_iand C dX9_block_358 ?_
                    refine m_ixor C dX9_block_359 ?_
                    refine m_iadd C dX9_block_360 ?_
                    refine m_name (fun x93 ex93 => ?_)
                    refine m_istore C [(12, .int x93), (11, .int x77), (0, .ref (aL X 34)), (1, .int f0), (2, .int x24), (3, .int x25), (4, .int x26), (5, .int x27), (6, .int x28), (7, .int x29), (8, .int x30), (9, .int x31), (10, .int x32)] dX9_block_361 (by decide) rfl ?_
                    refine m_iload C dX9_block_363 10 rfl ?_
                    refine m_istore C [(9, .int x30), (12, .int x93), (11, .int x77), (0, .ref (aL X 34)), (1, .int f0), (2, .int x24), (3, .int x25), (4, .int x26), (5, .int x27), (6, .int x28), (7, .int x29), (8, .int x30), (10, .int x32)] dX9_block_365 (by decide) rfl ?_
                    refine m_iload C dX9_block_367 10 rfl ?_
                    refine m_istore C [(8, .int x29), (9, .int x30), (12, .int x93), (11, .int x77), (0, .ref (aL X 34)), (1, .int f0), (2, .int x24), (3, .int x25), (4, .int x26), (5, .int x27), (6, .int x28), (7, .int x29), (10, .int x32)] dX9_block_369 (by decide) rfl ?_
                    refine m_iload C dX9_block_371 10 rfl ?_
                    refine m_istore C [(7, .int x28), (8, .int x29), (9, .int x30), (12, .int x93), (11, .int x77), (0, .ref (aL X 34)), (1, .int f0), (2, .int x24), (3, .int x25), (4, .int x26), (5, .int x27), (6, .int x28), (10, .int x32)] dX9_block_373 (by decide) rfl ?_
                    refine m_iload C dX9_block_375 10 rfl ?_
                    refine m_iload C dX9_block_377 4 rfl ?_
                    refine m_iadd C dX9_block_379 ?_
                    refine m_name (fun x97 ex97 => ?_)
                    refine m_istore C [(6, .int x97), (7, .int x28), (8, .int x29), (9, .int x30), (12, .int x93), (11, .int x77), (0, .ref (aL X 34)), (1, .int f0), (2, .int x24), (3, .int x25), (4, .int x26), (5, .int x27), (10, .int x32)] dX9_block_380 (by decide) rfl ?_
                    refine m_iload C dX9_block_382 10 rfl ?_
                    refine m_istore C [(5, .int x26), (6, .int x97), (7, .int x28), (8, .int x29), (9, .int x30), (12, .int x93), (11, .int x77), (0, .ref (aL X 34)), (1, .int f0), (2, .int x24), (3, .int x25), (4, .int x26), (10, .int x32)] dX9_block_384 (by decide) rfl ?_
                    refine m_iload_n C dX9_block_386 10 rfl ?_
                    refine m_istore C [(4, .int x25), (5, .int x26), (6, .int x97), (7, .int x28), (8, .int x29), (9, .int x30), (12, .int x93), (11, .int x77), (0, .ref (aL X 34)), (1, .int f0), (2, .int x24), (3, .int x25), (10, .int x32)] dX9_block_387 (by decide) rfl ?_
                    refine m_iload_n C dX9_block_389 10 rfl ?_
                    refine m_istore_n C [(3, .int x24), (4, .int x25), (5, .int x26), (6, .int x97), (7, .int x28), (8, .int x29), (9, .int x30), (12, .int x93), (11, .int x77), (0, .ref (aL X 34)), (1, .int f0), (2, .int x24), (10, .int x32)] dX9_block_390 (by decide) rfl ?_
                    refine m_iload C dX9_block_391 8 rfl ?_
                    refine m_iload C dX9_block_393 7 rfl ?_
                    refine m_iadd C dX9_block_395 ?_
                    refine m_name (fun x101 ex101 => ?_)
                    refine m_istore_n C [(2, .int x101), (3, .int x24), (4, .int x25), (5, .int x26), (6, .int x97), (7, .int x28), (8, .int x29), (9, .int x30), (12, .int x93), (11, .int x77), (0, .ref (aL X 34)), (1, .int f0), (10, .int x32)] dX9_block_396 (by decide) rfl ?_
                    obtain ⟨x102, ex102⟩ : ∃ z : Int32, z = x32 + Int32.ofInt 1 := ⟨_, rfl⟩
                    have t103 : (x32 + (Int32.ofInt 1)).toInt = x32.toInt + (1 : Int) := i_add rfl (by decide) (by omega) (by omega)
                    have t104 : x102.toInt = (x32.toInt + (1 : Int)) := (congrArg Int32.toInt ex102).trans t103
                    refine m_iinc C x102 [(10, .int x102), (2, .int x101), (3, .int x24), (4, .int x25), (5, .int x26), (6, .int x97), (7, .int x28), (8, .int x29), (9, .int x30), (12, .int x93), (11, .int x77), (0, .ref (aL X 34)), (1, .int f0)] dX9_block_397 (q := 12) rfl ex102.symm (by decide) rfl ?_
                    refine m_goto C 263 dX9_block_400 (by decide) ?_
                    refine m_lv [11, 12, 1, 2, 3, 4, 5, 6, 7, 8, 0] rfl ?_
                    exact ih263 x101 x24 x25 x26 x97 x28 x29 x30 x102 g33 (by omega) hI34 hK35 (by omega)
              have t105 : (0 : Int32).toInt = 0 := by decide
              refine m_lv [9, 10, 8, 7, 6, 5, 4, 3, 2, 1, 0] rfl ?_
              exact L263 (((65 - (0 : Int32).toInt).toNat) + 1) x15 x16 x17 x18 x19 x20 x21 x22 (0 : Int32) g10 (Nat.lt_succ_self _) hI11 hK12 (by omega)
            · skip
              have th14 := i_nle h14
              rw [show (64 : Int32).toInt = 64 by decide] at th14
              refine m_aload_n C dX9_block_77 0 rfl ?_
              refine m_getr (rf := "") C 1 rfl gd9 (by decide) sh_34 rfl dX9_block_78 lk_X9_13 ?_
              refine m_iload_n C dX9_block_81 2 rfl ?_
              refine m_bipush C (15 : Int32) dX9_block_82 (by decide) ?_
              refine m_isub C dX9_block_84 ?_
              have t106 : (x9 - (15 : Int32)).toInt = x9.toInt - (15 : Int) := i_sub rfl (by decide) (by omega) (by omega)
              refine m_iald C sh_36 (i_in (by omega) (by omega)) dX9_block_85 ?_
              refine m_bipush C (7 : Int32) dX9_block_86 (by decide) ?_
              have t107 : (7 : Int32).toInt = 7 := by decide
              refine m_invS C cal_X9_turn (c_X9_turn l hX g10 (g10 36 (x9 - (15 : Int32)).toNatClampNeg) (7 : Int32) hI11) lk_X9_158 st_X9_turn (by decide) rfl rfl (Nat.le_of_ble_eq_true rfl) dX9_block_88 ⟨Nat.le_refl _, Nat.le_refl _⟩ (rI fun r108 g109 q110 => ?_)
              obtain ⟨eg109, p111⟩ := q110
              subst g109
              refine m_aload_n C dX9_block_91 0 rfl ?_
              refine m_getr (rf := "") C 1 rfl gd9 (by decide) sh_34 rfl dX9_block_92 lk_X9_13 ?_
              refine m_iload_n C dX9_block_95 2 rfl ?_
              refine m_bipush C (15 : Int32) dX9_block_96 (by decide) ?_
              refine m_isub C dX9_block_98 ?_
              have t112 : (x9 - (15 : Int32)).toInt = x9.toInt - (15 : Int) := i_sub rfl (by decide) (by omega) (by omega)
              refine m_iald C sh_36 (i_in (by omega) (by omega)) dX9_block_99 ?_
              refine m_bipush C (18 : Int32) dX9_block_100 (by decide) ?_
              have t113 : (18 : Int32).toInt = 18 := by decide
              refine m_invS C cal_X9_turn (c_X9_turn l hX g10 (g10 36 (x9 - (15 : Int32)).toNatClampNeg) (18 : Int32) hI11) lk_X9_158 st_X9_turn (by decide) rfl rfl (Nat.le_of_ble_eq_true rfl) dX9_block_102 ⟨Nat.le_refl _, Nat.le_refl _⟩ (rI fun r114 g115 q116 => ?_)
              obtain ⟨eg115, p117⟩ := q116
              subst g115
              refine m_ixor C dX9_block_105 ?_
              refine m_aload_n C dX9_block_106 0 rfl ?_
              refine m_getr (rf := "") C 1 rfl gd9 (by decide) sh_34 rfl dX9_block_107 lk_X9_13 ?_
              refine m_iload_n C dX9_block_110 2 rfl ?_
              refine m_bipush C (15 : Int32) dX9_block_111 (by decide) ?_
              refine m_isub C dX9_block_113 ?_
              have t118 : (x9 - (15 : Int32)).toInt = x9.toInt - (15 : Int) := i_sub rfl (by decide) (by omega) (by omega)
              refine m_iald C sh_36 (i_in (by omega) (by omega)) dX9_block_114 ?_
              refine m_iconst C (3 : Int32) dX9_block_115 (by decide) ?_
              refine m_iushr C dX9_block_116 ?_
              refine m_ixor C dX9_block_117 ?_
              refine m_name (fun x119 ex119 => ?_)
              refine m_istore_n C [(3, .int x119), (0, .ref (aL X 34)), (1, .int f0), (2, .int x9)] dX9_block_118 (by decide) rfl ?_
              refine m_aload_n C dX9_block_119 1 rfl ?_
              refine m_getr (rf := "") C 1 rfl gd9 (by decide) sh_34 rfl dX9_block_120 lk_X9_13 ?_
              refine m_iload_n C dX9_block_123 3 rfl ?_
              refine m_iconst C (2 : Int32) dX9_block_124 (by decide) ?_
              refine m_isub C dX9_block_125 ?_
              have t120 : (x9 - (2 : Int32)).toInt = x9.toInt - (2 : Int) := i_sub rfl (by decide) (by omega) (by omega)
              refine m_iald C sh_36 (i_in (by omega) (by omega)) dX9_block_126 ?_
              refine m_bipush C (17 : Int32) dX9_block_127 (by decide) ?_
              have t121 : (17 : Int32).toInt = 17 := by decide
              refine m_invS C cal_X9_turn (c_X9_turn l hX g10 (g10 36 (x9 - (2 : Int32)).toNatClampNeg) (17 : Int32) hI11) lk_X9_158 st_X9_turn (by decide) rfl rfl (Nat.le_of_ble_eq_true rfl) dX9_block_129 ⟨Nat.le_refl _, Nat.le_refl _⟩ (rI fun r122 g123 q124 => ?_)
              obtain ⟨eg123, p125⟩ := q124
              subst g123
              refine m_aload_n C dX9_block_132 1 rfl ?_
              refine m_getr (rf := "") C 1 rfl gd9 (by decide) sh_34 rfl dX9_block_133 lk_X9_13 ?_
              refine m_iload_n C dX9_block_136 3 rfl ?_
              refine m_iconst C (2 : Int32) dX9_block_137 (by decide) ?_
              refine m_isub C dX9_block_138 ?_
              have t126 : (x9 - (2 : Int32)).toInt = x9.toInt - (2 : Int) := i_sub rfl (by decide) (by omega) (by omega)
              refine m_iald C sh_36 (i_in (by omega) (by omega)) dX9_block_139 ?_
              refine m_bipush C (19 : Int32) dX9_block_140 (by decide) ?_
              have t127 : (19 : Int32).toInt = 19 := by decide
              refine m_invS C cal_X9_turn (c_X9_turn l hX g10 (g10 36 (x9 - (2 : Int32)).toNatClampNeg) (19 : Int32) hI11) lk_X9_158 st_X9_turn (by decide) rfl rfl (Nat.le_of_ble_eq_true rfl) dX9_block_142 ⟨Nat.le_refl _, Nat.le_refl _⟩ (rI fun r128 g129 q130 => ?_)
              obtain ⟨eg129, p131⟩ := q130
              subst g129
              refine m_ixor C dX9_block_145 ?_
              refine m_aload_n C dX9_block_146 1 rfl ?_
              refine m_getr (rf := "") C 1 rfl gd9 (by decide) sh_34 rfl dX9_block_147 lk_X9_13 ?_
              refine m_iload_n C dX9_block_150 3 rfl ?_
              refine m_iconst C (2 : Int32) dX9_block_151 (by decide) ?_
              refine m_isub C dX9_block_152 ?_
              have t132 : (x9 - (2 : Int32)).toInt = x9.toInt - (2 : Int) := i_sub rfl (by decide) (by omega) (by omega)
              refine m_iald C sh_36 (i_in (by omega) (by omega)) dX9_block_153 ?_
              refine m_bipush C (10 : Int32) dX9_block_154 (by decide) ?_
              refine m_iushr C dX9_block_156 ?_
              refine m_ixor C dX9_block_157 ?_
              refine m_name (fun x133 ex133 => ?_)
              refine m_istore C [(4, .int x133), (3, .int x119), (0, .ref (aL X 34)), (1, .int f0), (2, .int x9)] dX9_block_158 (by decide) rfl ?_
              refine m_aload_n C dX9_block_160 2 rfl ?_
              refine m_getr (rf := "") C 1 rfl gd9 (by decide) sh_34 rfl dX9_block_161 lk_X9_13 ?_
              refine m_iload_n C dX9_block_164 4 rfl ?_
              refine m_aload_n C dX9_block_165 2 rfl ?_
              refine m_getr (rf := "") C 1 rfl gd9 (by decide) sh_34 rfl dX9_block_166 lk_X9_13 ?_
              refine m_iload_n C dX9_block_169 4 rfl ?_
              refine m_bipush C (16 : Int32) dX9_block_170 (by decide) ?_
              refine m_isub C dX9_block_172 ?_
              have t134 : (x9 - (16 : Int32)).toInt = x9.toInt - (16 : Int) := i_sub rfl (by decide) (by omega) (by omega)
              refine m_iald C sh_36 (i_in (by omega) (by omega)) dX9_block_173 ?_
              refine m_iload_n C dX9_block_174 1 rfl ?_
              refine m_iadd C dX9_block_175 ?_
              refine m_aload_n C dX9_block_176 2 rfl ?_
              refine m_getr (rf := "") C 1 rfl gd9 (by decide) sh_34 rfl dX9_block_177 lk_X9_13 ?_
              refine m_iload_n C dX9_block_180 4 rfl ?_
              refine m_bipush C (7 : Int32) dX9_block_181 (by decide) ?_
              refine m_isub C dX9_block_183 ?_
              have t135 : (x9 - (7 : Int32)).toInt = x9.toInt - (7 : Int) := i_sub rfl (by decide) (by omega) (by omega)
              refine m_iald C sh_36 (i_in (by omega) (by omega)) dX9_block_184 ?_
              refine m_iadd C dX9_block_185 ?_
              refine m_iload C dX9_block_186 0 rfl ?_
              refine m_iadd C dX9_block_188 ?_
              refine m_iast C sh_36 (i_in (by omega) (by omega)) dX9_block_189 ?_
              refine m_mem (fun g136 eg136 => ?_)
              have hI137 : Inv g136 := by rw [eg136]; exact hI11.up (ok_any (by decide))
              have hK138 : Kq [36, 37] [] g g136 := by rw [eg136]; exact Kq.upA hK12 (by decide) (by decide)
              obtain ⟨x139, ex139⟩ : ∃ z : Int32, z = x9 + Int32.ofInt 1 := ⟨_, rfl⟩
              have t140 : (x9 + (Int32.ofInt 1)).toInt = x9.toInt + (1 : Int) := i_add rfl (by decide) (by omega) (by omega)
              have t141 : x139.toInt = (x9.toInt + (1 : Int)) := (congrArg Int32.toInt ex139).trans t140
              refine m_iinc C x139 [(2, .int x139), (4, .int x133), (3, .int x119), (0, .ref (aL X 34)), (1, .int f0)] dX9_block_190 (q := 4) rfl ex139.symm (by decide) rfl ?_
              refine m_goto C 71 dX9_block_193 (by decide) ?_
              refine m_lv [3, 4, 0] rfl ?_
              exact ih71 x139 g136 (by omega) hI137 hK138 (by omega)
        have t142 : (16 : Int32).toInt = 16 := by decide
        refine m_lv [1, 2, 0] rfl ?_
        exact L71 (((65 - (16 : Int32).toInt).toNat) + 1) (16 : Int32) g3 (Nat.lt_succ_self _) hI4 hK5 (by omega)
      · skip
        have th7 := i_nle h7
        rw [show (16 : Int32).toInt = 16 by decide] at th7
        refine m_iload_n C dX9_block_8 1 rfl ?_
        refine m_iconst C (4 : Int32) dX9_block_9 (by decide) ?_
        refine m_iload_n C dX9_block_10 2 rfl ?_
        refine m_imul C dX9_block_11 ?_
        refine m_iadd C dX9_block_12 ?_
        refine m_name (fun x143 ex143 => ?_)
        have t144 : ((4 : Int32) * x2).toInt = (4 : Int) * x2.toInt := i_mul (by decide) rfl (by omega) (by omega)
        have t145 : (f0 + ((4 : Int32) * x2)).toInt = f0.toInt + ((4 : Int) * x2.toInt) := i_add rfl t144 (by omega) (by omega)
        have t146 : x143.toInt = (f0.toInt + ((4 : Int) * x2.toInt)) := (congrArg Int32.toInt ex143).trans t145
        refine m_istore_n C [(3, .int x143), (0, .ref (aL X 34)), (1, .int f0), (2, .int x2)] dX9_block_13 (by decide) rfl ?_
        refine m_aload_n C dX9_block_14 1 rfl ?_
        refine m_getr (rf := "") C 1 rfl gd9 (by decide) sh_34 rfl dX9_block_15 lk_X9_13 ?_
        refine m_iload_n C dX9_block_18 3 rfl ?_
        refine m_aload_n C dX9_block_19 1 rfl ?_
        refine m_getr (rf := "") C 3 rfl gd9 (by decide) sh_34 rfl dX9_block_20 lk_X9_19 ?_
        refine m_iload_n C dX9_block_23 0 rfl ?_
        refine m_iald C sh_38 (i_in (by omega) (by omega)) dX9_block_24 ?_
        refine m_bipush C (24 : Int32) dX9_block_25 (by decide) ?_
        refine m_ishl C dX9_block_27 ?_
        refine m_aload_n C dX9_block_28 1 rfl ?_
        refine m_getr (rf := "") C 3 rfl gd9 (by decide) sh_34 rfl dX9_block_29 lk_X9_19 ?_
        refine m_iload_n C dX9_block_32 0 rfl ?_
        refine m_iconst C (1 : Int32) dX9_block_33 (by decide) ?_
        refine m_iadd C dX9_block_34 ?_
        have t147 : (x143 + (1 : Int32)).toInt = x143.toInt + (1 : Int) := i_add rfl (by decide) (by omega) (by omega)
        refine m_iald C sh_38 (i_in (by omega) (by omega)) dX9_block_35 ?_
        refine m_bipush C (16 : Int32) dX9_block_36 (by decide) ?_
        refine m_ishl C dX9_block_38 ?_
        refine m_ior C dX9_block_39 ?_
        refine m_aload_n C dX9_block_40 1 rfl ?_
        refine m_getr (rf := "") C 3 rfl gd9 (by decide) sh_34 rfl dX9_block_41 lk_X9_19 ?_
        refine m_iload_n C dX9_block_44 0 rfl ?_
        refine m_iconst C (2 : Int32) dX9_block_45 (by decide) ?_
        refine m_iadd C dX9_block_46 ?_
        have t148 : (x143 + (2 : Int32)).toInt = x143.toInt + (2 : Int) := i_add rfl (by decide) (by omega) (by omega)
        refine m_iald C sh_38 (i_in (by omega) (by omega)) dX9_block_47 ?_
        refine m_bipush C (8 : Int32) dX9_block_48 (by decide) ?_
        refine m_ishl C dX9_block_50 ?_
        refine m_ior C dX9_block_51 ?_
        refine m_aload_n C dX9_block_52 1 rfl ?_
        refine m_getr (rf := "") C 3 rfl gd9 (by decide) sh_34 rfl dX9_block_53 lk_X9_19 ?_
        refine m_iload_n C dX9_block_56 0 rfl ?_
        refine m_iconst C (3 : Int32) dX9_block_57 (by decide) ?_
        refine m_iadd C dX9_block_58 ?_
        have t149 : (x143 + (3 : Int32)).toInt = x143.toInt + (3 : Int) := i_add rfl (by decide) (by omega) (by omega)
        refine m_iald C sh_38 (i_in (by omega) (by omega)) dX9_block_59 ?_
        refine m_ior C dX9_block_60 ?_
        refine m_iast C sh_36 (i_in (by omega) (by omega)) dX9_block_61 ?_
        refine m_mem (fun g150 eg150 => ?_)
        have hI151 : Inv g150 := by rw [eg150]; exact hI4.up (ok_any (by decide))
        have hK152 : Kq [36, 37] [] g g150 := by rw [eg150]; exact Kq.upA hK5 (by decide) (by decide)
        obtain ⟨x153, ex153⟩ : ∃ z : Int32, z = x2 + Int32.ofInt 1 := ⟨_, rfl⟩
        have t154 : (x2 + (Int32.ofInt 1)).toInt = x2.toInt + (1 : Int) := i_add rfl (by decide) (by omega) (by omega)
        have t155 : x153.toInt = (x2.toInt + (1 : Int)) := (congrArg Int32.toInt ex153).trans t154
        refine m_iinc C x153 [(2, .int x153), (3, .int x143), (0, .ref (aL X 34)), (1, .int f0)] dX9_block_62 (q := 3) rfl ex153.symm (by decide) rfl ?_
        refine m_goto C 2 dX9_block_65 (by decide) ?_
        refine m_lv [2, 3, 0] rfl ?_
        exact ih2 x153 g150 (by omega) hI151 hK152 (by omega)
  have t156 : (0 : Int32).toInt = 0 := by decide
  refine m_lv [1, 2, 0] rfl ?_
  exact L2 (((17 - (0 : Int32).toInt).toNat) + 1) (0 : Int32) g (Nat.lt_succ_self _) hI Kq.rf (by omega)
set_option maxRecDepth 20000 in
set_option maxHeartbeats 4000000 in
theorem c_X9_end (l : Launch) {X : XT} (hX : Lok X) (g : Mem)  (hI : Inv g) (hs : (g 34 4).toInt ≤ 119) : Ctr l X yX9_end cX9_end 4 none (rmD 2) [.ref (aL X 34)] g (pV (fun g2 => Inv g2 ∧ Kq [36, 37, 38, 39] [4] g g2)) := by
  refine Ctr.of (lv := [(0, .ref (aL X 34))]) hX (by decide) rfl (Nat.le_of_ble_eq_true rfl) ?_
  intro p e s m below meth c C
  refine m_bipush C (8 : Int32) dX9_end_0 (by decide) ?_
  refine m_aload_n C dX9_end_2 0 rfl ?_
  refine m_geti (rf := "") C 4 rfl gd9 (by decide) sh_34 rfl dX9_end_3 lk_X9_150 ?_
  have r1 := iv_msize hI
  refine m_imul C dX9_end_6 ?_
  refine m_name (fun x2 ex2 => ?_)
  have t3 : ((8 : Int32) * (g 34 4)).toInt = (8 : Int) * (g 34 4).toInt := i_mul (by decide) rfl (by omega) (by omega)
  have t4 : x2.toInt = ((8 : Int) * (g 34 4).toInt) := (congrArg Int32.toInt ex2).trans t3
  refine m_istore_n C [(1, .int x2), (0, .ref (aL X 34))] dX9_end_7 (by decide) rfl ?_
  refine m_aload_n C dX9_end_8 1 rfl ?_
  refine m_geti (rf := "") C 4 rfl gd9 (by decide) sh_34 rfl dX9_end_9 lk_X9_150 ?_
  have r5 := iv_msize hI
  refine m_bipush C (56 : Int32) dX9_end_12 (by decide) ?_
  refine m_icmp_ge C 21 dX9_end_14 (by decide) (fun h6 => ?_) (fun h6 => ?_)
  · skip
    have th6 := i_le h6
    rw [show (56 : Int32).toInt = 56 by decide] at th6
    refine m_iconst C (2 : Int32) dX9_end_21 (by decide) ?_
    refine m_istore_n C [(2, .int (2 : Int32)), (1, .int x2), (0, .ref (aL X 34))] dX9_end_22 (by decide) rfl ?_
    refine m_aload_n C dX9_end_23 2 rfl ?_
    refine m_sipush C (128 : Int32) dX9_end_24 (by decide) ?_
    have t8 : (128 : Int32).toInt = 128 := by decide
    refine m_invV C cal_X9_put sh_34 rfl (c_X9_put l hX g (128 : Int32) hI (by omega)) lk_X9_154 im_X9_put se_X9_put (by decide) rfl rfl (Nat.le_of_ble_eq_true rfl) dX9_end_27 ⟨Nat.le_refl _, Nat.le_refl _⟩ (rV fun g10 q11 => ?_)
    obtain ⟨hI12, hK13, p14⟩ := q11
    have hK15 : Kq [36, 37, 38, 39] [4] g g10 := (Kq.rf).tr hK13 (by decide) (by decide)
    have L30 : ∀ (n30 : Nat)  (g16 : Mem), (200 - (g16 34 4).toInt).toNat < n30 → Inv g16 → Kq [36, 37, 38, 39] [4] g g16 → (g16 34 4).toInt ≤ 124 → Wm X p l e (rmD 2) s m ([.ref (aL X 34)] : List Value).toArray below meth c 4 0 0 (MQ below (cQ X (pV (fun g2 => Inv g2 ∧ Kq [36, 37, 38, 39] [4] g g2))) ([.ref (aL X 34)] : List Value).toArray s 0 0 (Ab X)) g16 30 [(0, .ref (aL X 34)), (1, .int x2), (2, .int (2 : Int32))] [] := by
      intro n30
      induction n30 with
      | zero => intro  g16 hm; exact absurd hm (Nat.not_lt_zero _)
      | succ n30 ih30 =>
        intro  g16 hm30 hI17 hK18 i19
        refine m_aload_n C dX9_end_30 0 rfl ?_
        refine m_geti (rf := "") C 4 rfl gd9 (by decide) sh_34 rfl dX9_end_31 lk_X9_150 ?_
        have r20 := iv_msize hI17
        refine m_bipush C (64 : Int32) dX9_end_34 (by decide) ?_
        refine m_iload_n C dX9_end_36 2 rfl ?_
        refine m_imul C dX9_end_37 ?_
        refine m_iconst C (4 : Int32) dX9_end_38 (by decide) ?_
        refine m_isub C dX9_end_39 ?_
        have t21 : ((64 : Int32) * (2 : Int32)).toInt = (64 : Int) * (2 : Int) := i_mul (by decide) (by decide) (by omega) (by omega)
        have t22 : (((64 : Int32) * (2 : Int32)) - (4 : Int32)).toInt = ((64 : Int) * (2 : Int)) - (4 : Int) := i_sub t21 (by decide) (by omega) (by omega)
        refine m_icmp_ge C 51 dX9_end_40 (by decide) (fun h23 => ?_) (fun h23 => ?_)
        · skip
          have th23 := i_le h23
          refine m_aload_n C dX9_end_51 0 rfl ?_
          refine m_iload_n C dX9_end_52 1 rfl ?_
          refine m_bipush C (24 : Int32) dX9_end_53 (by decide) ?_
          refine m_iushr C dX9_end_55 ?_
          refine m_invV C cal_X9_put sh_34 rfl (c_X9_put l hX g16 ((x2.toUInt32 >>> ((24 : Int32).toUInt32 &&& Int32.toUInt32 31)).toInt32) hI17 (by omega)) lk_X9_154 im_X9_put se_X9_put (by decide) rfl rfl (Nat.le_of_ble_eq_true rfl) dX9_end_56 ⟨Nat.le_refl _, Nat.le_refl _⟩ (rV fun g25 q26 => ?_)
          obtain ⟨hI27, hK28, p29⟩ := q26
          have hK30 : Kq [36, 37, 38, 39] [4] g g25 := (hK18).tr hK28 (by decide) (by decide)
          refine m_aload_n C dX9_end_59 0 rfl ?_
          refine m_iload_n C dX9_end_60 1 rfl ?_
          refine m_bipush C (16 : Int32) dX9_end_61 (by decide) ?_
          refine m_iushr C dX9_end_63 ?_
          refine m_sipush C (255 : Int32) dX9_end_64 (by decide) ?_
          refine m_iand C dX9_end_67 ?_
          have t31 : 0 ≤ (((x2.toUInt32 >>> ((16 : Int32).toUInt32 &&& Int32.toUInt32 31)).toInt32) &&& (255 : Int32)).toInt ∧ (((x2.toUInt32 >>> ((16 : Int32).toUInt32 &&& Int32.toUInt32 31)).toInt32) &&& (255 : Int32)).toInt < 256 := i_and _ 8 (by decide) (by decide)
          refine m_invV C cal_X9_put sh_34 rfl (c_X9_put l hX g25 (((x2.toUInt32 >>> ((16 : Int32).toUInt32 &&& Int32.toUInt32 31)).toInt32) &&& (255 : Int32)) hI27 (by omega)) lk_X9_154 im_X9_put se_X9_put (by decide) rfl rfl (Nat.le_of_ble_eq_true rfl) dX9_end_68 ⟨Nat.le_refl _, Nat.le_refl _⟩ (rV fun g33 q34 => ?_)
          obtain ⟨hI35, hK36, p37⟩ := q34
          have hK38 : Kq [36, 37, 38, 39] [4] g g33 := (hK30).tr hK36 (by decide) (by decide)
          refine m_aload_n C dX9_end_71 0 rfl ?_
          refine m_iload_n C dX9_end_72 1 rfl ?_
          refine m_bipush C (8 : Int32) dX9_end_73 (by decide) ?_
          refine m_iushr C dX9_end_75 ?_
          refine m_sipush C (255 : Int32) dX9_end_76 (by decide) ?_
          refine m_iand C dX9_end_79 ?_
          have t39 : 0 ≤ (((x2.toUInt32 >>> ((8 : Int32).toUInt32 &&& Int32.toUInt32 31)).toInt32) &&& (255 : Int32)).toInt ∧ (((x2.toUInt32 >>> ((8 : Int32).toUInt32 &&& Int32.toUInt32 31)).toInt32) &&& (255 : Int32)).toInt < 256 := i_and _ 8 (by decide) (by decide)
          refine m_invV C cal_X9_put sh_34 rfl (c_X9_put l hX g33 (((x2.toUInt32 >>> ((8 : Int32).toUInt32 &&& Int32.toUInt32 31)).toInt32) &&& (255 : Int32)) hI35 (by omega)) lk_X9_154 im_X9_put se_X9_put (by decide) rfl rfl (Nat.le_of_ble_eq_true rfl) dX9_end_80 ⟨Nat.le_refl _, Nat.le_refl _⟩ (rV fun g41 q42 => ?_)
          obtain ⟨hI43, hK44, p45⟩ := q42
          have hK46 : Kq [36, 37, 38, 39] [4] g g41 := (hK38).tr hK44 (by decide) (by decide)
          refine m_aload_n C dX9_end_83 0 rfl ?_
          refine m_iload_n C dX9_end_84 1 rfl ?_
          refine m_sipush C (255 : Int32) dX9_end_85 (by decide) ?_
          refine m_iand C dX9_end_88 ?_
          have t47 : 0 ≤ (x2 &&& (255 : Int32)).toInt ∧ (x2 &&& (255 : Int32)).toInt < 256 := i_and _ 8 (by decide) (by decide)
          refine m_invV C cal_X9_put sh_34 rfl (c_X9_put l hX g41 (x2 &&& (255 : Int32)) hI43 (by omega)) lk_X9_154 im_X9_put se_X9_put (by decide) rfl rfl (Nat.le_of_ble_eq_true rfl) dX9_end_89 ⟨Nat.le_refl _, Nat.le_refl _⟩ (rV fun g49 q50 => ?_)
          obtain ⟨hI51, hK52, p53⟩ := q50
          have hK54 : Kq [36, 37, 38, 39] [4] g g49 := (hK46).tr hK52 (by decide) (by decide)
          refine m_aload_n C dX9_end_92 0 rfl ?_
          refine m_getr (rf := "") C 2 rfl gd9 (by decide) sh_34 rfl dX9_end_93 lk_X9_16 ?_
          refine m_iconst C (0 : Int32) dX9_end_96 (by decide) ?_
          refine m_ldc C (1779033703) dX9_end_97 lk_X9_162 ?_
          refine m_iast C sh_37 (i_in (by decide) (by decide)) dX9_end_99 ?_
          refine m_mem (fun g55 eg55 => ?_)
          have hI56 : Inv g55 := by rw [eg55]; exact hI51.up (ok_any (by decide))
          have hK57 : Kq [36, 37, 38, 39] [4] g g55 := by rw [eg55]; exact Kq.upA hK54 (by decide) (by decide)
          refine m_aload_n C dX9_end_100 0 rfl ?_
          refine m_getr (rf := "") C 2 rfl gd9 (by decide) sh_34 rfl dX9_end_101 lk_X9_16 ?_
          refine m_iconst C (1 : Int32) dX9_end_104 (by decide) ?_
          refine m_ldc C (-1150833019) dX9_end_105 lk_X9_163 ?_
          refine m_iast C sh_37 (i_in (by decide) (by decide)) dX9_end_107 ?_
          refine m_mem (fun g58 eg58 => ?_)
          have hI59 : Inv g58 := by rw [eg58]; exact hI56.up (ok_any (by decide))
          have hK60 : Kq [36, 37, 38, 39] [4] g g58 := by rw [eg58]; exact Kq.upA hK57 (by decide) (by decide)
          refine m_aload_n C dX9_end_108 0 rfl ?_
          refine m_getr (rf := "") C 2 rfl gd9 (by decide) sh_34 rfl dX9_end_109 lk_X9_16 ?_
          refine m_iconst C (2 : Int32) dX9_end_112 (by decide) ?_
          refine m_ldc C (1013904242) dX9_end_113 lk_X9_164 ?_
          refine m_iast C sh_37 (i_in (by decide) (by decide)) dX9_end_115 ?_
          refine m_mem (fun g61 eg61 => ?_)
          have hI62 : Inv g61 := by rw [eg61]; exact hI59.up (ok_any (by decide))
          have hK63 : Kq [36, 37, 38, 39] [4] g g61 := by rw [eg61]; exact Kq.upA hK60 (by decide) (by decide)
          refine m_aload_n C dX9_end_116 0 rfl ?_
          refine m_getr (rf := "") C 2 rfl gd9 (by decide) sh_34 rfl dX9_end_117 lk_X9_16 ?_
          refine m_iconst C (3 : Int32) dX9_end_120 (by decide) ?_
          refine m_ldc C (-1521486534) dX9_end_121 lk_X9_165 ?_
          refine m_iast C sh_37 (i_in (by decide) (by decide)) dX9_end_123 ?_
          refine m_mem (fun g64 eg64 => ?_)
          have hI65 : Inv g64 := by rw [eg64]; exact hI62.up (ok_any (by decide))
          have hK66 : Kq [36, 37, 38, 39] [4] g g64 := by rw [eg64]; exact Kq.upA hK63 (by decide) (by decide)
          refine m_aload_n C dX9_end_124 0 rfl ?_
          refine m_getr (rf := "") C 2 rfl gd9 (by decide) sh_34 rfl dX9_end_125 lk_X9_16 ?_
          refine m_iconst C (4 : Int32) dX9_end_128 (by decide) ?_
          refine m_ldc C (1359893119) dX9_end_129 lk_X9_166 ?_
          refine m_iast C sh_37 (i_in (by decide) (by decide)) dX9_end_131 ?_
          refine m_mem (fun g67 eg67 => ?_)
          have hI68 : Inv g67 := by rw [eg67]; exact hI65.up (ok_any (by decide))
          have hK69 : Kq [36, 37, 38, 39] [4] g g67 := by rw [eg67]; exact Kq.upA hK66 (by decide) (by decide)
          refine m_aload_n C dX9_end_132 0 rfl ?_
          refine m_getr (rf := "") C 2 rfl gd9 (by decide) sh_34 rfl dX9_end_133 lk_X9_16 ?_
          refine m_iconst C (5 : Int32) dX9_end_136 (by decide) ?_
          refine m_ldc C (-1694144372) dX9_end_137 lk_X9_167 ?_
          refine m_iast C sh_37 (i_in (by decide) (by decide)) dX9_end_139 ?_
          refine m_mem (fun g70 eg70 => ?_)
          have hI71 : Inv g70 := by rw [eg70]; exact hI68.up (ok_any (by decide))
          have hK72 : Kq [36, 37, 38, 39] [4] g g70 := by rw [eg70]; exact Kq.upA hK69 (by decide) (by decide)
          refine m_aload_n C dX9_end_140 0 rfl ?_
          refine m_getr (rf := "") C 2 rfl gd9 (by decide) sh_34 rfl dX9_end_141 lk_X9_16 ?_
          refine m_bipush C (6 : Int32) dX9_end_144 (by decide) ?_
          refine m_ldc C (528734635) dX9_end_146 lk_X9_168 ?_
          refine m_iast C sh_37 (i_in (by decide) (by decide)) dX9_end_148 ?_
          refine m_mem (fun g73 eg73 => ?_)
          have hI74 : Inv g73 := by rw [eg73]; exact hI71.up (ok_any (by decide))
          have hK75 : Kq [36, 37, 38, 39] [4] g g73 := by rw [eg73]; exact Kq.upA hK72 (by decide) (by decide)
          refine m_aload_n C dX9_end_149 0 rfl ?_
          refine m_getr (rf := "") C 2 rfl gd9 (by decide) sh_34 rfl dX9_end_150 lk_X9_16 ?_
          refine m_bipush C (7 : Int32) dX9_end_153 (by decide) ?_
          refine m_ldc C (1541459225) dX9_end_155 lk_X9_169 ?_
          refine m_iast C sh_37 (i_in (by decide) (by decide)) dX9_end_157 ?_
          refine m_mem (fun g76 eg76 => ?_)
          have hI77 : Inv g76 := by rw [eg76]; exact hI74.up (ok_any (by decide))
          have hK78 : Kq [36, 37, 38, 39] [4] g g76 := by rw [eg76]; exact Kq.upA hK75 (by decide) (by decide)
          refine m_iconst C (0 : Int32) dX9_end_158 (by decide) ?_
          refine m_istore_n C [(3, .int (0 : Int32)), (0, .ref (aL X 34)), (1, .int x2), (2, .int (2 : Int32))] dX9_end_159 (by decide) rfl ?_
          have L160 : ∀ (n160 : Nat) (x80 : Int32) (g81 : Mem), (3 - x80.toInt).toNat < n160 → Inv g81 → Kq [36, 37, 38, 39] [4] g g81 → 0 ≤ x80.toInt ∧ x80.toInt ≤ 2 → Wm X p l e (rmD 2) s m ([.ref (aL X 34)] : List Value).toArray below meth c 4 0 0 (MQ below (cQ X (pV (fun g2 => Inv g2 ∧ Kq [36, 37, 38, 39] [4] g g2))) ([.ref (aL X 34)] : List Value).toArray s 0 0 (Ab X)) g81 160 [(0, .ref (aL X 34)), (1, .int x2), (2, .int (2 : Int32)), (3, .int x80)] [] := by
            intro n160
            induction n160 with
            | zero => intro x80 g81 hm; exact absurd hm (Nat.not_lt_zero _)
            | succ n160 ih160 =>
              intro x80 g81 hm160 hI82 hK83 i84
              obtain ⟨i84a, i84b⟩ := i84
              refine m_iload_n C dX9_end_160 3 rfl ?_
              refine m_iload_n C dX9_end_161 2 rfl ?_
              refine m_icmp_ge C 179 dX9_end_162 (by decide) (fun h85 => ?_) (fun h85 => ?_)
              · skip
                have th85 := i_le h85
                rw [show (2 : Int32).toInt = 2 by decide] at th85
                refine m_iconst C (0 : Int32) dX9_end_179 (by decide) ?_
                refine m_istore_n C [(3, .int (0 : Int32)), (0, .ref (aL X 34)), (1, .int x2), (2, .int (2 : Int32))] dX9_end_180 (by decide) rfl ?_
                have L181 : ∀ (n181 : Nat) (x87 : Int32) (g88 : Mem), (33 - x87.toInt).toNat < n181 → Inv g88 → Kq [36, 37, 38, 39] [4] g g88 → 0 ≤ x87.toInt ∧ x87.toInt ≤ 32 → Wm X p l e (rmD 2) s m ([.ref (aL X 34)] : List Value).toArray below meth c 4 0 0 (MQ below (cQ X (pV (fun g2 => Inv g2 ∧ Kq [36, 37, 38, 39] [4] g g2))) ([.ref (aL X 34)] : List Value).toArray s 0 0 (Ab X)) g88 181 [(0, .ref (aL X 34)), (1, .int x2), (2, .int (2 : Int32)), (3, .int x87)] [] := by
                  intro n181
                  induction n181 with
                  | zero => intro x87 g88 hm; exact absurd hm (Nat.not_lt_zero _)
                  | succ n181 ih181 =>
                    intro x87 g88 hm181 hI89 hK90 i91
                    obtain ⟨i91a, i91b⟩ := i91
                    refine m_iload_n C dX9_end_181 3 rfl ?_
                    refine m_bipush C (32 : Int32) dX9_end_182 (by decide) ?_
                    refine m_icmp_ge C 221 dX9_end_184 (by decide) (fun h92 => ?_) (fun h92 => ?_)
                    · skip
                      have th92 := i_le h92
                      rw [show (32 : Int32).toInt = 32 by decide] at th92
                      exact m_vret C dX9_end_221 ⟨rfl, hI89, hK90⟩
                    · skip
                      have th92 := i_nle h92
                      rw [show (32 : Int32).toInt = 32 by decide] at th92
                      refine m_aload_n C dX9_end_187 0 rfl ?_
                      refine m_getr (rf := "") C 5 rfl gd9 (by decide) sh_34 rfl dX9_end_188 lk_X9_22 ?_
                      refine m_iload_n C dX9_end_191 3 rfl ?_
                      refine m_aload_n C dX9_end_192 0 rfl ?_
                      refine m_getr (rf := "") C 2 rfl gd9 (by decide) sh_34 rfl dX9_end_193 lk_X9_16 ?_
                      refine m_iload_n C dX9_end_196 3 rfl ?_
                      refine m_iconst C (4 : Int32) dX9_end_197 (by decide) ?_
                      refine m_idiv C dX9_end_198 (by decide) ?_
                      have t93 : (x87 / (4 : Int32)).toInt = x87.toInt / 4 := i_div rfl (by omega) (by decide) (by decide)
                      refine m_iald C sh_37 (i_in (by omega) (by omega)) dX9_end_199 ?_
                      refine m_bipush C (24 : Int32) dX9_end_200 (by decide) ?_
                      refine m_bipush C (8 : Int32) dX9_end_202 (by decide) ?_
                      refine m_iload_n C dX9_end_204 3 rfl ?_
                      refine m_iconst C (4 : Int32) dX9_end_205 (by decide) ?_
                      refine m_irem C dX9_end_206 (by decide) ?_
                      refine m_imul C dX9_end_207 ?_
                      refine m_isub C dX9_end_208 ?_
                      refine m_iushr C dX9_end_209 ?_
                      refine m_sipush C (255 : Int32) dX9_end_210 (by decide) ?_
                      refine m_iand C dX9_end_213 ?_
                      have t94 : 0 ≤ ((((g88 37 (x87 / (4 : Int32)).toNatClampNeg).toUInt32 >>> (((24 : Int32) - ((8 : Int32) * (x87 - x87 / (4 : Int32) * (4 : Int32)))).toUInt32 &&& Int32.toUInt32 31)).toInt32) &&& (255 : Int32)).toInt ∧ ((((g88 37 (x87 / (4 : Int32)).toNatClampNeg).toUInt32 >>> (((24 : Int32) - ((8 : Int32) * (x87 - x87 / (4 : Int32) * (4 : Int32)))).toUInt32 &&& Int32.toUInt32 31)).toInt32) &&& (255 : Int32)).toInt < 256 := i_and _ 8 (by decide) (by decide)
                      refine m_iast C sh_39 (i_in (by omega) (by omega)) dX9_end_214 ?_
                      refine m_mem (fun g95 eg95 => ?_)
                      have hI96 : Inv g95 := by rw [eg95]; exact hI89.up (ok_any (by decide))
                      have hK97 : Kq [36, 37, 38, 39] [4] g g95 := by rw [eg95]; exact Kq.upA hK90 (by decide) (by decide)
                      obtain ⟨x98, ex98⟩ : ∃ z : Int32, z = x87 + Int32.ofInt 1 := ⟨_, rfl⟩
                      have t99 : (x87 + (Int32.ofInt 1)).toInt = x87.toInt + (1 : Int) := i_add rfl (by decide) (by omega) (by omega)
                      have t100 : x98.toInt = (x87.toInt + (1 : Int)) := (congrArg Int32.toInt ex98).trans t99
                      refine m_iinc C x98 [(3, .int x98), (0, .ref (aL X 34)), (1, .int x2), (2, .int (2 : Int32))] dX9_end_215 (q := 3) rfl ex98.symm (by decide) rfl ?_
                      refine m_goto C 181 dX9_end_218 (by decide) ?_
                      refine m_lv [1, 2, 3, 0] rfl ?_
                      exact ih181 x98 g95 (by omega) hI96 hK97 (by omega)
                have t101 : (0 : Int32).toInt = 0 := by decide
                refine m_lv [1, 2, 3, 0] rfl ?_
                exact L181 (((33 - (0 : Int32).toInt).toNat) + 1) (0 : Int32) g81 (Nat.lt_succ_self _) hI82 hK83 (by omega)
              · skip
                have th85 := i_nle h85
                rw [show (2 : Int32).toInt = 2 by decide] at th85
                refine m_aload_n C dX9_end_165 0 rfl ?_
                refine m_bipush C (64 : Int32) dX9_end_166 (by decide) ?_
                refine m_iload_n C dX9_end_168 3 rfl ?_
                refine m_imul C dX9_end_169 ?_
                have t102 : ((64 : Int32) * x80).toInt = (64 : Int) * x80.toInt := i_mul (by decide) rfl (by omega) (by omega)
                refine m_invV C cal_X9_block sh_34 rfl (c_X9_block l hX g81 ((64 : Int32) * x80) hI82 (by omega)) lk_X9_170 im_X9_block se_X9_block (by decide) rfl rfl (Nat.le_of_ble_eq_true rfl) dX9_end_170 ⟨Nat.le_refl _, Nat.le_refl _⟩ (rV fun g104 q105 => ?_)
                obtain ⟨hI106, hK107⟩ := q105
                have hK108 : Kq [36, 37, 38, 39] [4] g g104 := (hK83).tr hK107 (by decide) (by decide)
                obtain ⟨x109, ex109⟩ : ∃ z : Int32, z = x80 + Int32.ofInt 1 := ⟨_, rfl⟩
                have t110 : (x80 + (Int32.ofInt 1)).toInt = x80.toInt + (1 : Int) := i_add rfl (by decide) (by omega) (by omega)
                have t111 : x109.toInt = (x80.toInt + (1 : Int)) := (congrArg Int32.toInt ex109).trans t110
                refine m_iinc C x109 [(3, .int x109), (0, .ref (aL X 34)), (1, .int x2), (2, .int (2 : Int32))] dX9_end_173 (q := 3) rfl ex109.symm (by decide) rfl ?_
                refine m_goto C 160 dX9_end_176 (by decide) ?_
                refine m_lv [1, 2, 3, 0] rfl ?_
                exact ih160 x109 g104 (by omega) hI106 hK108 (by omega)
          have t112 : (0 : Int32).toInt = 0 := by decide
          refine m_lv [1, 2, 3, 0] rfl ?_
          exact L160 (((3 - (0 : Int32).toInt).toNat) + 1) (0 : Int32) g76 (Nat.lt_succ_self _) hI77 hK78 (by omega)
        · skip
          have th23 := i_nle h23
          refine m_aload_n C dX9_end_43 0 rfl ?_
          refine m_iconst C (0 : Int32) dX9_end_44 (by decide) ?_
          have t113 : (0 : Int32).toInt = 0 := by decide
          refine m_invV C cal_X9_put sh_34 rfl (c_X9_put l hX g16 (0 : Int32) hI17 (by omega)) lk_X9_154 im_X9_put se_X9_put (by decide) rfl rfl (Nat.le_of_ble_eq_true rfl) dX9_end_45 ⟨Nat.le_refl _, Nat.le_refl _⟩ (rV fun g115 q116 => ?_)
          obtain ⟨hI117, hK118, p119⟩ := q116
          have hK120 : Kq [36, 37, 38, 39] [4] g g115 := (hK18).tr hK118 (by decide) (by decide)
          refine m_goto C 30 dX9_end_48 (by decide) ?_
          refine m_lv [0, 1, 2] rfl ?_
          exact ih30  g115 (by omega) hI117 hK120 (by omega)
    refine m_lv [2, 1, 0] rfl ?_
    exact L30 (((200 - (g10 34 4).toInt).toNat) + 1)  g10 (Nat.lt_succ_self _) hI12 hK15 (by omega)
  · skip
    have th6 := i_nle h6
    rw [show (56 : Int32).toInt = 56 by decide] at th6
    refine m_iconst C (1 : Int32) dX9_end_17 (by decide) ?_
    refine m_goto C 22 dX9_end_18 (by decide) ?_
    refine m_istore_n C [(2, .int (1 : Int32)), (1, .int x2), (0, .ref (aL X 34))] dX9_end_22 (by decide) rfl ?_
    refine m_aload_n C dX9_end_23 2 rfl ?_
    refine m_sipush C (128 : Int32) dX9_end_24 (by decide) ?_
    have t122 : (128 : Int32).toInt = 128 := by decide
    refine m_invV C cal_X9_put sh_34 rfl (c_X9_put l hX g (128 : Int32) hI (by omega)) lk_X9_154 im_X9_put se_X9_put (by decide) rfl rfl (Nat.le_of_ble_eq_true rfl) dX9_end_27 ⟨Nat.le_refl _, Nat.le_refl _⟩ (rV fun g124 q125 => ?_)
    obtain ⟨hI126, hK127, p128⟩ := q125
    have hK129 : Kq [36, 37, 38, 39] [4] g g124 := (Kq.rf).tr hK127 (by decide) (by decide)
    have L30 : ∀ (n30 : Nat)  (g130 : Mem), (200 - (g130 34 4).toInt).toNat < n30 → Inv g130 → Kq [36, 37, 38, 39] [4] g g130 → (g130 34 4).toInt ≤ 124 → Wm X p l e (rmD 2) s m ([.ref (aL X 34)] : List Value).toArray below meth c 4 0 0 (MQ below (cQ X (pV (fun g2 => Inv g2 ∧ Kq [36, 37, 38, 39] [4] g g2))) ([.ref (aL X 34)] : List Value).toArray s 0 0 (Ab X)) g130 30 [(0, .ref (aL X 34)), (1, .int x2), (2, .int (1 : Int32))] [] := by
      intro n30
      induction n30 with
      | zero => intro  g130 hm; exact absurd hm (Nat.not_lt_zero _)
      | succ n30 ih30 =>
        intro  g130 hm30 hI131 hK132 i133
        refine m_aload_n C dX9_end_30 0 rfl ?_
        refine m_geti (rf := "") C 4 rfl gd9 (by decide) sh_34 rfl dX9_end_31 lk_X9_150 ?_
        have r134 := iv_msize hI131
        refine m_bipush C (64 : Int32) dX9_end_34 (by decide) ?_
        refine m_iload_n C dX9_end_36 2 rfl ?_
        refine m_imul C dX9_end_37 ?_
        refine m_iconst C (4 : Int32) dX9_end_38 (by decide) ?_
        refine m_isub C dX9_end_39 ?_
        have t135 : ((64 : Int32) * (1 : Int32)).toInt = (64 : Int) * (1 : Int) := i_mul (by decide) (by decide) (by omega) (by omega)
        have t136 : (((64 : Int32) * (1 : Int32)) - (4 : Int32)).toInt = ((64 : Int) * (1 : Int)) - (4 : Int) := i_sub t135 (by decide) (by omega) (by omega)
        refine m_icmp_ge C 51 dX9_end_40 (by decide) (fun h137 => ?_) (fun h137 => ?_)
        · skip
          have th137 := i_le h137
          refine m_aload_n C dX9_end_51 0 rfl ?_
          refine m_iload_n C dX9_end_52 1 rfl ?_
          refine m_bipush C (24 : Int32) dX9_end_53 (by decide) ?_
          refine m_iushr C dX9_end_55 ?_
          refine m_invV C cal_X9_put sh_34 rfl (c_X9_put l hX g130 ((x2.toUInt32 >>> ((24 : Int32).toUInt32 &&& Int32.toUInt32 31)).toInt32) hI131 (by omega)) lk_X9_154 im_X9_put se_X9_put (by decide) rfl rfl (Nat.le_of_ble_eq_true rfl) dX9_end_56 ⟨Nat.le_refl _, Nat.le_refl _⟩ (rV fun g139 q140 => ?_)
          obtain ⟨hI141, hK142, p143⟩ := q140
          have hK144 : Kq [36, 37, 38, 39] [4] g g139 := (hK132).tr hK142 (by decide) (by decide)
          refine m_aload_n C dX9_end_59 0 rfl ?_
          refine m_iload_n C dX9_end_60 1 rfl ?_
          refine m_bipush C (16 : Int32) dX9_end_61 (by decide) ?_
          refine m_iushr C dX9_end_63 ?_
          refine m_sipush C (255 : Int32) dX9_end_64 (by decide) ?_
          refine m_iand C dX9_end_67 ?_
          have t145 : 0 ≤ (((x2.toUInt32 >>> ((16 : Int32).toUInt32 &&& Int32.toUInt32 31)).toInt32) &&& (255 : Int32)).toInt ∧ (((x2.toUInt32 >>> ((16 : Int32).toUInt32 &&& Int32.toUInt32 31)).toInt32) &&& (255 : Int32)).toInt < 256 := i_and _ 8 (by decide) (by decide)
          refine m_invV C cal_X9_put sh_34 rfl (c_X9_put l hX g139 (((x2.toUInt32 >>> ((16 : Int32).toUInt32 &&& Int32.toUInt32 31)).toInt32) &&& (255 : Int32)) hI141 (by omega)) lk_X9_154 im_X9_put se_X9_put (by decide) rfl rfl (Nat.le_of_ble_eq_true rfl) dX9_end_68 ⟨Nat.le_refl _, Nat.le_refl _⟩ (rV fun g147 q148 => ?_)
          obtain ⟨hI149, hK150, p151⟩ := q148
          have hK152 : Kq [36, 37, 38, 39] [4] g g147 := (hK144).tr hK150 (by decide) (by decide)
          refine m_aload_n C dX9_end_71 0 rfl ?_
          refine m_iload_n C dX9_end_72 1 rfl ?_
          refine m_bipush C (8 : Int32) dX9_end_73 (by decide) ?_
          refine m_iushr C dX9_end_75 ?_
          refine m_sipush C (255 : Int32) dX9_end_76 (by decide) ?_
          refine m_iand C dX9_end_79 ?_
          have t153 : 0 ≤ (((x2.toUInt32 >>> ((8 : Int32).toUInt32 &&& Int32.toUInt32 31)).toInt32) &&& (255 : Int32)).toInt ∧ (((x2.toUInt32 >>> ((8 : Int32).toUInt32 &&& Int32.toUInt32 31)).toInt32) &&& (255 : Int32)).toInt < 256 := i_and _ 8 (by decide) (by decide)
          refine m_invV C cal_X9_put sh_34 rfl (c_X9_put l hX g147 (((x2.toUInt32 >>> ((8 : Int32).toUInt32 &&& Int32.toUInt32 31)).toInt32) &&& (255 : Int32)) hI149 (by omega)) lk_X9_154 im_X9_put se_X9_put (by decide) rfl rfl (Nat.le_of_ble_eq_true rfl) dX9_end_80 ⟨Nat.le_refl _, Nat.le_refl _⟩ (rV fun g155 q156 => ?_)
          obtain ⟨hI157, hK158, p159⟩ := q156
          have hK160 : Kq [36, 37, 38, 39] [4] g g155 := (hK152).tr hK158 (by decide) (by decide)
          refine m_aload_n C dX9_end_83 0 rfl ?_
          refine m_iload_n C dX9_end_84 1 rfl ?_
          refine m_sipush C (255 : Int32) dX9_end_85 (by decide) ?_
          refine m_iand C dX9_end_88 ?_
          have t161 : 0 ≤ (x2 &&& (255 : Int32)).toInt ∧ (x2 &&& (255 : Int32)).toInt < 256 := i_and _ 8 (by decide) (by decide)
          refine m_invV C cal_X9_put sh_34 rfl (c_X9_put l hX g155 (x2 &&& (255 : Int32)) hI157 (by omega)) lk_X9_154 im_X9_put se_X9_put (by decide) rfl rfl (Nat.le_of_ble_eq_true rfl) dX9_end_89 ⟨Nat.le_refl _, Nat.le_refl _⟩ (rV fun g163 q164 => ?_)
          obtain ⟨hI165, hK166, p167⟩ := q164
          have hK168 : Kq [36, 37, 38, 39] [4] g g163 := (hK160).tr hK166 (by decide) (by decide)
          refine m_aload_n C dX9_end_92 0 rfl ?_
          refine m_getr (rf := "") C 2 rfl gd9 (by decide) sh_34 rfl dX9_end_93 lk_X9_16 ?_
          refine m_iconst C (0 : Int32) dX9_end_96 (by decide) ?_
          refine m_ldc C (1779033703) dX9_end_97 lk_X9_162 ?_
          refine m_iast C sh_37 (i_in (by decide) (by decide)) dX9_end_99 ?_
          refine m_mem (fun g169 eg169 => ?_)
          have hI170 : Inv g169 := by rw [eg169]; exact hI165.up (ok_any (by decide))
          have hK171 : Kq [36, 37, 38, 39] [4] g g169 := by rw [eg169]; exact Kq.upA hK168 (by decide) (by decide)
          refine m_aload_n C dX9_end_100 0 rfl ?_
          refine m_getr (rf := "") C 2 rfl gd9 (by decide) sh_34 rfl dX9_end_101 lk_X9_16 ?_
          refine m_iconst C (1 : Int32) dX9_end_104 (by decide) ?_
          refine m_ldc C (-1150833019) dX9_end_105 lk_X9_163 ?_
          refine m_iast C sh_37 (i_in (by decide) (by decide)) dX9_end_107 ?_
          refine m_mem (fun g172 eg172 => ?_)
          have hI173 : Inv g172 := by rw [eg172]; exact hI170.up (ok_any (by decide))
          have hK174 : Kq [36, 37, 38, 39] [4] g g172 := by rw [eg172]; exact Kq.upA hK171 (by decide) (by decide)
          refine m_aload_n C dX9_end_108 0 rfl ?_
          refine m_getr (rf := "") C 2 rfl gd9 (by decide) sh_34 rfl dX9_end_109 lk_X9_16 ?_
          refine m_iconst C (2 : Int32) dX9_end_112 (by decide) ?_
          refine m_ldc C (1013904242) dX9_end_113 lk_X9_164 ?_
          refine m_iast C sh_37 (i_in (by decide) (by decide)) dX9_end_115 ?_
          refine m_mem (fun g175 eg175 => ?_)
          have hI176 : Inv g175 := by rw [eg175]; exact hI173.up (ok_any (by decide))
          have hK177 : Kq [36, 37, 38, 39] [4] g g175 := by rw [eg175]; exact Kq.upA hK174 (by decide) (by decide)
          refine m_aload_n C dX9_end_116 0 rfl ?_
          refine m_getr (rf := "") C 2 rfl gd9 (by decide) sh_34 rfl dX9_end_117 lk_X9_16 ?_
          refine m_iconst C (3 : Int32) dX9_end_120 (by decide) ?_
          refine m_ldc C (-1521486534) dX9_end_121 lk_X9_165 ?_
          refine m_iast C sh_37 (i_in (by decide) (by decide)) dX9_end_123 ?_
          refine m_mem (fun g178 eg178 => ?_)
          have hI179 : Inv g178 := by rw [eg178]; exact hI176.up (ok_any (by decide))
          have hK180 : Kq [36, 37, 38, 39] [4] g g178 := by rw [eg178]; exact Kq.upA hK177 (by decide) (by decide)
          refine m_aload_n C dX9_end_124 0 rfl ?_
          refine m_getr (rf := "") C 2 rfl gd9 (by decide) sh_34 rfl dX9_end_125 lk_X9_16 ?_
          refine m_iconst C (4 : Int32) dX9_end_128 (by decide) ?_
          refine m_ldc C (1359893119) dX9_end_129 lk_X9_166 ?_
          refine m_iast C sh_37 (i_in (by decide) (by decide)) dX9_end_131 ?_
          refine m_mem (fun g181 eg181 => ?_)
          have hI182 : Inv g181 := by rw [eg181]; exact hI179.up (ok_any (by decide))
          have hK183 : Kq [36, 37, 38, 39] [4] g g181 := by rw [eg181]; exact Kq.upA hK180 (by decide) (by decide)
          refine m_aload_n C dX9_end_132 0 rfl ?_
          refine m_getr (rf := "") C 2 rfl gd9 (by decide) sh_34 rfl dX9_end_133 lk_X9_16 ?_
          refine m_iconst C (5 : Int32) dX9_end_136 (by decide) ?_
          refine m_ldc C (-1694144372) dX9_end_137 lk_X9_167 ?_
          refine m_iast C sh_37 (i_in (by decide) (by decide)) dX9_end_139 ?_
          refine m_mem (fun g184 eg184 => ?_)
          have hI185 : Inv g184 := by rw [eg184]; exact hI182.up (ok_any (by decide))
          have hK186 : Kq [36, 37, 38, 39] [4] g g184 := by rw [eg184]; exact Kq.upA hK183 (by decide) (by decide)
          refine m_aload_n C dX9_end_140 0 rfl ?_
          refine m_getr (rf := "") C 2 rfl gd9 (by decide) sh_34 rfl dX9_end_141 lk_X9_16 ?_
          refine m_bipush C (6 : Int32) dX9_end_144 (by decide) ?_
          refine m_ldc C (528734635) dX9_end_146 lk_X9_168 ?_
          refine m_iast C sh_37 (i_in (by decide) (by decide)) dX9_end_148 ?_
          refine m_mem (fun g187 eg187 => ?_)
          have hI188 : Inv g187 := by rw [eg187]; exact hI185.up (ok_any (by decide))
          have hK189 : Kq [36, 37, 38, 39] [4] g g187 := by rw [eg187]; exact Kq.upA hK186 (by decide) (by decide)
          refine m_aload_n C dX9_end_149 0 rfl ?_
          refine m_getr (rf := "") C 2 rfl gd9 (by decide) sh_34 rfl dX9_end_150 lk_X9_16 ?_
          refine m_bipush C (7 : Int32) dX9_end_153 (by decide) ?_
          refine m_ldc C (1541459225) dX9_end_155 lk_X9_169 ?_
          refine m_iast C sh_37 (i_in (by decide) (by decide)) dX9_end_157 ?_
          refine m_mem (fun g190 eg190 => ?_)
          have hI191 : Inv g190 := by rw [eg190]; exact hI188.up (ok_any (by decide))
          have hK192 : Kq [36, 37, 38, 39] [4] g g190 := by rw [eg190]; exact Kq.upA hK189 (by decide) (by decide)
          refine m_iconst C (0 : Int32) dX9_end_158 (by decide) ?_
          refine m_istore_n C [(3, .int (0 : Int32)), (0, .ref (aL X 34)), (1, .int x2), (2, .int (1 : Int32))] dX9_end_159 (by decide) rfl ?_
          have L160 : ∀ (n160 : Nat) (x194 : Int32) (g195 : Mem), (3 - x194.toInt).toNat < n160 → Inv g195 → Kq [36, 37, 38, 39] [4] g g195 → 0 ≤ x194.toInt ∧ x194.toInt ≤ 2 → Wm X p l e (rmD 2) s m ([.ref (aL X 34)] : List Value).toArray below meth c 4 0 0 (MQ below (cQ X (pV (fun g2 => Inv g2 ∧ Kq [36, 37, 38, 39] [4] g g2))) ([.ref (aL X 34)] : List Value).toArray s 0 0 (Ab X)) g195 160 [(0, .ref (aL X 34)), (1, .int x2), (2, .int (1 : Int32)), (3, .int x194)] [] := by
            intro n160
            induction n160 with
            | zero => intro x194 g195 hm; exact absurd hm (Nat.not_lt_zero _)
            | succ n160 ih160 =>
              intro x194 g195 hm160 hI196 hK197 i198
              obtain ⟨i198a, i198b⟩ := i198
              refine m_iload_n C dX9_end_160 3 rfl ?_
              refine m_iload_n C dX9_end_161 2 rfl ?_
              refine m_icmp_ge C 179 dX9_end_162 (by decide) (fun h199 => ?_) (fun h199 => ?_)
              · skip
                have th199 := i_le h199
                rw [show (1 : Int32).toInt = 1 by decide] at th199
                refine m_iconst C (0 : Int32) dX9_end_179 (by decide) ?_
                refine m_istore_n C [(3, .int (0 : Int32)), (0, .ref (aL X 34)), (1, .int x2), (2, .int (1 : Int32))] dX9_end_180 (by decide) rfl ?_
                have L181 : ∀ (n181 : Nat) (x201 : Int32) (g202 : Mem), (33 - x201.toInt).toNat < n181 → Inv g202 → Kq [36, 37, 38, 39] [4] g g202 → 0 ≤ x201.toInt ∧ x201.toInt ≤ 32 → Wm X p l e (rmD 2) s m ([.ref (aL X 34)] : List Value).toArray below meth c 4 0 0 (MQ below (cQ X (pV (fun g2 => Inv g2 ∧ Kq [36, 37, 38, 39] [4] g g2))) ([.ref (aL X 34)] : List Value).toArray s 0 0 (Ab X)) g202 181 [(0, .ref (aL X 34)), (1, .int x2), (2, .int (1 : Int32)), (3, .int x201)] [] := by
                  intro n181
                  induction n181 with
                  | zero => intro x201 g202 hm; exact absurd hm (Nat.not_lt_zero _)
                  | succ n181 ih181 =>
                    intro x201 g202 hm181 hI203 hK204 i205
                    obtain ⟨i205a, i205b⟩ := i205
                    refine m_iload_n C dX9_end_181 3 rfl ?_
                    refine m_bipush C (32 : Int32) dX9_end_182 (by decide) ?_
                    refine m_icmp_ge C 221 dX9_end_184 (by decide) (fun h206 => ?_) (fun h206 => ?_)
                    · skip
                      have th206 := i_le h206
                      rw [show (32 : Int32).toInt = 32 by decide] at th206
                      exact m_vret C dX9_end_221 ⟨rfl, hI203, hK204⟩
                    · skip
                      have th206 := i_nle h206
                      rw [show (32 : Int32).toInt = 32 by decide] at th206
                      refine m_aload_n C dX9_end_187 0 rfl ?_
                      refine m_getr (rf := "") C 5 rfl gd9 (by decide) sh_34 rfl dX9_end_188 lk_X9_22 ?_
                      refine m_iload_n C dX9_end_191 3 rfl ?_
                      refine m_aload_n C dX9_end_192 0 rfl ?_
                      refine m_getr (rf := "") C 2 rfl gd9 (by decide) sh_34 rfl dX9_end_193 lk_X9_16 ?_
                      refine m_iload_n C dX9_end_196 3 rfl ?_
                      refine m_iconst C (4 : Int32) dX9_end_197 (by decide) ?_
                      refine m_idiv C dX9_end_198 (by decide) ?_
                      have t207 : (x201 / (4 : Int32)).toInt = x201.toInt / 4 := i_div rfl (by omega) (by decide) (by decide)
                      refine m_iald C sh_37 (i_in (by omega) (by omega)) dX9_end_199 ?_
                      refine m_bipush C (24 : Int32) dX9_end_200 (by decide) ?_
                      refine m_bipush C (8 : Int32) dX9_end_202 (by decide) ?_
                      refine m_iload_n C dX9_end_204 3 rfl ?_
                      refine m_iconst C (4 : Int32) dX9_end_205 (by decide) ?_
                      refine m_irem C dX9_end_206 (by decide) ?_
                      refine m_imul C dX9_end_207 ?_
                      refine m_isub C dX9_end_208 ?_
                      refine m_iushr C dX9_end_209 ?_
                      refine m_sipush C (255 : Int32) dX9_end_210 (by decide) ?_
                      refine m_iand C dX9_end_213 ?_
                      have t208 : 0 ≤ ((((g202 37 (x201 / (4 : Int32)).toNatClampNeg).toUInt32 >>> (((24 : Int32) - ((8 : Int32) * (x201 - x201 / (4 : Int32) * (4 : Int32)))).toUInt32 &&& Int32.toUInt32 31)).toInt32) &&& (255 : Int32)).toInt ∧ ((((g202 37 (x201 / (4 : Int32)).toNatClampNeg).toUInt32 >>> (((24 : Int32) - ((8 : Int32) * (x201 - x201 / (4 : Int32) * (4 : Int32)))).toUInt32 &&& Int32.toUInt32 31)).toInt32) &&& (255 : Int32)).toInt < 256 := i_and _ 8 (by decide) (by decide)
                      refine m_iast C sh_39 (i_in (by omega) (by omega)) dX9_end_214 ?_
                      refine m_mem (fun g209 eg209 => ?_)
                      have hI210 : Inv g209 := by rw [eg209]; exact hI203.up (ok_any (by decide))
                      have hK211 : Kq [36, 37, 38, 39] [4] g g209 := by rw [eg209]; exact Kq.upA hK204 (by decide) (by decide)
                      obtain ⟨x212, ex212⟩ : ∃ z : Int32, z = x201 + Int32.ofInt 1 := ⟨_, rfl⟩
                      have t213 : (x201 + (Int32.ofInt 1)).toInt = x201.toInt + (1 : Int) := i_add rfl (by decide) (by omega) (by omega)
                      have t214 : x212.toInt = (x201.toInt + (1 : Int)) := (congrArg Int32.toInt ex212).trans t213
                      refine m_iinc C x212 [(3, .int x212), (0, .ref (aL X 34)), (1, .int x2), (2, .int (1 : Int32))] dX9_end_215 (q := 3) rfl ex212.symm (by decide) rfl ?_
                      refine m_goto C 181 dX9_end_218 (by decide) ?_
                      refine m_lv [1, 2, 3, 0] rfl ?_
                      exact ih181 x212 g209 (by omega) hI210 hK211 (by omega)
                have t215 : (0 : Int32).toInt = 0 := by decide
                refine m_lv [1, 2, 3, 0] rfl ?_
                exact L181 (((33 - (0 : Int32).toInt).toNat) + 1) (0 : Int32) g195 (Nat.lt_succ_self _) hI196 hK197 (by omega)
              · skip
                have th199 := i_nle h199
                rw [show (1 : Int32).toInt = 1 by decide] at th199
                refine m_aload_n C dX9_end_165 0 rfl ?_
                refine m_bipush C (64 : Int32) dX9_end_166 (by decide) ?_
                refine m_iload_n C dX9_end_168 3 rfl ?_
                refine m_imul C dX9_end_169 ?_
                have t216 : ((64 : Int32) * x194).toInt = (64 : Int) * x194.toInt := i_mul (by decide) rfl (by omega) (by omega)
                refine m_invV C cal_X9_block sh_34 rfl (c_X9_block l hX g195 ((64 : Int32) * x194) hI196 (by omega)) lk_X9_170 im_X9_block se_X9_block (by decide) rfl rfl (Nat.le_of_ble_eq_true rfl) dX9_end_170 ⟨Nat.le_refl _, Nat.le_refl _⟩ (rV fun g218 q219 => ?_)
                obtain ⟨hI220, hK221⟩ := q219
                have hK222 : Kq [36, 37, 38, 39] [4] g g218 := (hK197).tr hK221 (by decide) (by decide)
                obtain ⟨x223, ex223⟩ : ∃ z : Int32, z = x194 + Int32.ofInt 1 := ⟨_, rfl⟩
                have t224 : (x194 + (Int32.ofInt 1)).toInt = x194.toInt + (1 : Int) := i_add rfl (by decide) (by omega) (by omega)
                have t225 : x223.toInt = (x194.toInt + (1 : Int)) := (congrArg Int32.toInt ex223).trans t224
                refine m_iinc C x223 [(3, .int x223), (0, .ref (aL X 34)), (1, .int x2), (2, .int (1 : Int32))] dX9_end_173 (q := 3) rfl ex223.symm (by decide) rfl ?_
                refine m_goto C 160 dX9_end_176 (by decide) ?_
                refine m_lv [1, 2, 3, 0] rfl ?_
                exact ih160 x223 g218 (by omega) hI220 hK222 (by omega)
          have t226 : (0 : Int32).toInt = 0 := by decide
          refine m_lv [1, 2, 3, 0] rfl ?_
          exact L160 (((3 - (0 : Int32).toInt).toNat) + 1) (0 : Int32) g190 (Nat.lt_succ_self _) hI191 hK192 (by omega)
        · skip
          have th137 := i_nle h137
          refine m_aload_n C dX9_end_43 0 rfl ?_
          refine m_iconst C (0 : Int32) dX9_end_44 (by decide) ?_
          have t227 : (0 : Int32).toInt = 0 := by decide
          refine m_invV C cal_X9_put sh_34 rfl (c_X9_put l hX g130 (0 : Int32) hI131 (by omega)) lk_X9_154 im_X9_put se_X9_put (by decide) rfl rfl (Nat.le_of_ble_eq_true rfl) dX9_end_45 ⟨Nat.le_refl _, Nat.le_refl _⟩ (rV fun g229 q230 => ?_)
          obtain ⟨hI231, hK232, p233⟩ := q230
          have hK234 : Kq [36, 37, 38, 39] [4] g g229 := (hK132).tr hK232 (by decide) (by decide)
          refine m_goto C 30 dX9_end_48 (by decide) ?_
          refine m_lv [0, 1, 2] rfl ?_
          exact ih30  g229 (by omega) hI231 hK234 (by omega)
    refine m_lv [2, 1, 0] rfl ?_
    exact L30 (((200 - (g124 34 4).toInt).toNat) + 1)  g124 (Nat.lt_succ_self _) hI126 hK129 (by omega)
set_option maxRecDepth 20000 in
set_option maxHeartbeats 4000000 in
theorem c_X9_pair_50_52 (l : Launch) {X : XT} (hX : Lok X) (g : Mem) (i0 : Int32) (j0 : Int32) (hI : Inv g) (h_i0 : 0 ≤ i0.toInt ∧ i0.toInt ≤ 224) (h_j0 : 0 ≤ j0.toInt ∧ j0.toInt ≤ 0) : Ctr l X yX9_pair cX9_pair 5 none (rmD 3) [.ref (aL X 34), .ref (aL X 50), .int i0, .ref (aL X 52), .int j0] g (pV (fun g2 => Inv g2 ∧ Kq [36, 37, 38, 39] [4] g g2)) := by
  refine Ctr.of (lv := [(0, .ref (aL X 34)), (1, .ref (aL X 50)), (2, .int i0), (3, .ref (aL X 52)), (4, .int j0)]) hX (by decide) rfl (Nat.le_of_ble_eq_true rfl) ?_
  intro p e s m below meth c C
  refine m_aload_n C dX9_pair_0 0 rfl ?_
  refine m_invV C cal_X9_begin sh_34 rfl (c_X9_begin l hX g  hI) lk_X9_173 im_X9_begin se_X9_begin (by decide) rfl rfl (Nat.le_of_ble_eq_true rfl) dX9_pair_1 ⟨Nat.le_refl _, Nat.le_refl _⟩ (rV fun g2 q3 => ?_)
  obtain ⟨hI4, hK5, p6⟩ := q3
  have hK7 : Kq [36, 37, 38, 39] [4] g g2 := (Kq.rf).tr hK5 (by decide) (by decide)
  refine m_aload_n C dX9_pair_4 0 rfl ?_
  refine m_iconst C (1 : Int32) dX9_pair_5 (by decide) ?_
  have t8 : (1 : Int32).toInt = 1 := by decide
  refine m_invV C cal_X9_put sh_34 rfl (c_X9_put l hX g2 (1 : Int32) hI4 (by omega)) lk_X9_154 im_X9_put se_X9_put (by decide) rfl rfl (Nat.le_of_ble_eq_true rfl) dX9_pair_6 ⟨Nat.le_refl _, Nat.le_refl _⟩ (rV fun g10 q11 => ?_)
  obtain ⟨hI12, hK13, p14⟩ := q11
  have hK15 : Kq [36, 37, 38, 39] [4] g g10 := (hK7).tr hK13 (by decide) (by decide)
  refine m_aload_n C dX9_pair_9 0 rfl ?_
  refine m_aload_n C dX9_pair_10 1 rfl ?_
  refine m_iload_n C dX9_pair_11 2 rfl ?_
  refine m_bipush C (32 : Int32) dX9_pair_12 (by decide) ?_
  have t16 : (32 : Int32).toInt = 32 := by decide
  refine m_invV C cal_X9_putAll sh_34 rfl (c_X9_putAll_50 l hX g10 i0 (32 : Int32) hI12 (by omega) (by omega) (by omega) (by omega)) lk_X9_176 im_X9_putAll se_X9_putAll (by decide) rfl rfl (Nat.le_of_ble_eq_true rfl) dX9_pair_14 ⟨Nat.le_refl _, Nat.le_refl _⟩ (rV fun g18 q19 => ?_)
  obtain ⟨hI20, hK21, p22⟩ := q19
  have hK23 : Kq [36, 37, 38, 39] [4] g g18 := (hK15).tr hK21 (by decide) (by decide)
  refine m_aload_n C dX9_pair_17 0 rfl ?_
  refine m_aload_n C dX9_pair_18 3 rfl ?_
  refine m_iload C dX9_pair_19 4 rfl ?_
  refine m_bipush C (32 : Int32) dX9_pair_21 (by decide) ?_
  have t24 : (32 : Int32).toInt = 32 := by decide
  refine m_invV C cal_X9_putAll sh_34 rfl (c_X9_putAll_52 l hX g18 j0 (32 : Int32) hI20 (by omega) (by omega) (by omega) (by omega)) lk_X9_176 im_X9_putAll se_X9_putAll (by decide) rfl rfl (Nat.le_of_ble_eq_true rfl) dX9_pair_23 ⟨Nat.le_refl _, Nat.le_refl _⟩ (rV fun g26 q27 => ?_)
  obtain ⟨hI28, hK29, p30⟩ := q27
  have hK31 : Kq [36, 37, 38, 39] [4] g g26 := (hK23).tr hK29 (by decide) (by decide)
  refine m_aload_n C dX9_pair_26 0 rfl ?_
  refine m_invV C cal_X9_end sh_34 rfl (c_X9_end l hX g26  hI28 (by omega)) lk_X9_180 im_X9_end se_X9_end (by decide) rfl rfl (Nat.le_of_ble_eq_true rfl) dX9_pair_27 ⟨Nat.le_refl _, Nat.le_refl _⟩ (rV fun g33 q34 => ?_)
  obtain ⟨hI35, hK36⟩ := q34
  have hK37 : Kq [36, 37, 38, 39] [4] g g33 := (hK31).tr hK36 (by decide) (by decide)
  exact m_vret C dX9_pair_30 ⟨rfl, hI35, hK37⟩
set_option maxRecDepth 20000 in
set_option maxHeartbeats 4000000 in
theorem c_X9_pair_53_57 (l : Launch) {X : XT} (hX : Lok X) (g : Mem) (i0 : Int32) (j0 : Int32) (hI : Inv g) (h_i0 : 0 ≤ i0.toInt ∧ i0.toInt ≤ 224) (h_j0 : 0 ≤ j0.toInt ∧ j0.toInt ≤ 0) : Ctr l X yX9_pair cX9_pair 5 none (rmD 3) [.ref (aL X 34), .ref (aL X 53), .int i0, .ref (aL X 57), .int j0] g (pV (fun g2 => Inv g2 ∧ Kq [36, 37, 38, 39] [4] g g2)) := by
  refine Ctr.of (lv := [(0, .ref (aL X 34)), (1, .ref (aL X 53)), (2, .int i0), (3, .ref (aL X 57)), (4, .int j0)]) hX (by decide) rfl (Nat.le_of_ble_eq_true rfl) ?_
  intro p e s m below meth c C
  refine m_aload_n C dX9_pair_0 0 rfl ?_
  refine m_invV C cal_X9_begin sh_34 rfl (c_X9_begin l hX g  hI) lk_X9_173 im_X9_begin se_X9_begin (by decide) rfl rfl (Nat.le_of_ble_eq_true rfl) dX9_pair_1 ⟨Nat.le_refl _, Nat.le_refl _⟩ (rV fun g2 q3 => ?_)
  obtain ⟨hI4, hK5, p6⟩ := q3
  have hK7 : Kq [36, 37, 38, 39] [4] g g2 := (Kq.rf).tr hK5 (by decide) (by decide)
  refine m_aload_n C dX9_pair_4 0 rfl ?_
  refine m_iconst C (1 : Int32) dX9_pair_5 (by decide) ?_
  have t8 : (1 : Int32).toInt = 1 := by decide
  refine m_invV C cal_X9_put sh_34 rfl (c_X9_put l hX g2 (1 : Int32) hI4 (by omega)) lk_X9_154 im_X9_put se_X9_put (by decide) rfl rfl (Nat.le_of_ble_eq_true rfl) dX9_pair_6 ⟨Nat.le_refl _, Nat.le_refl _⟩ (rV fun g10 q11 => ?_)
  obtain ⟨hI12, hK13, p14⟩ := q11
  have hK15 : Kq [36, 37, 38, 39] [4] g g10 := (hK7).tr hK13 (by decide) (by decide)
  refine m_aload_n C dX9_pair_9 0 rfl ?_
  refine m_aload_n C dX9_pair_10 1 rfl ?_
  refine m_iload_n C dX9_pair_11 2 rfl ?_
  refine m_bipush C (32 : Int32) dX9_pair_12 (by decide) ?_
  have t16 : (32 : Int32).toInt = 32 := by decide
  refine m_invV C cal_X9_putAll sh_34 rfl (c_X9_putAll_53 l hX g10 i0 (32 : Int32) hI12 (by omega) (by omega) (by omega) (by omega)) lk_X9_176 im_X9_putAll se_X9_putAll (by decide) rfl rfl (Nat.le_of_ble_eq_true rfl) dX9_pair_14 ⟨Nat.le_refl _, Nat.le_refl _⟩ (rV fun g18 q19 => ?_)
  obtain ⟨hI20, hK21, p22⟩ := q19
  have hK23 : Kq [36, 37, 38, 39] [4] g g18 := (hK15).tr hK21 (by decide) (by decide)
  refine m_aload_n C dX9_pair_17 0 rfl ?_
  refine m_aload_n C dX9_pair_18 3 rfl ?_
  refine m_iload C dX9_pair_19 4 rfl ?_
  refine m_bipush C (32 : Int32) dX9_pair_21 (by decide) ?_
  have t24 : (32 : Int32).toInt = 32 := by decide
  refine m_invV C cal_X9_putAll sh_34 rfl (c_X9_putAll_57 l hX g18 j0 (32 : Int32) hI20 (by omega) (by omega) (by omega) (by omega)) lk_X9_176 im_X9_putAll se_X9_putAll (by decide) rfl rfl (Nat.le_of_ble_eq_true rfl) dX9_pair_23 ⟨Nat.le_refl _, Nat.le_refl _⟩ (rV fun g26 q27 => ?_)
  obtain ⟨hI28, hK29, p30⟩ := q27
  have hK31 : Kq [36, 37, 38, 39] [4] g g26 := (hK23).tr hK29 (by decide) (by decide)
  refine m_aload_n C dX9_pair_26 0 rfl ?_
  refine m_invV C cal_X9_end sh_34 rfl (c_X9_end l hX g26  hI28 (by omega)) lk_X9_180 im_X9_end se_X9_end (by decide) rfl rfl (Nat.le_of_ble_eq_true rfl) dX9_pair_27 ⟨Nat.le_refl _, Nat.le_refl _⟩ (rV fun g33 q34 => ?_)
  obtain ⟨hI35, hK36⟩ := q34
  have hK37 : Kq [36, 37, 38, 39] [4] g g33 := (hK31).tr hK36 (by decide) (by decide)
  exact m_vret C dX9_pair_30 ⟨rfl, hI35, hK37⟩
set_option maxRecDepth 20000 in
set_option maxHeartbeats 4000000 in
theorem c_X9_pair_57_53 (l : Launch) {X : XT} (hX : Lok X) (g : Mem) (i0 : Int32) (j0 : Int32) (hI : Inv g) (h_i0 : 0 ≤ i0.toInt ∧ i0.toInt ≤ 0) (h_j0 : 0 ≤ j0.toInt ∧ j0.toInt ≤ 224) : Ctr l X yX9_pair cX9_pair 5 none (rmD 3) [.ref (aL X 34), .ref (aL X 57), .int i0, .ref (aL X 53), .int j0] g (pV (fun g2 => Inv g2 ∧ Kq [36, 37, 38, 39] [4] g g2)) := by
  refine Ctr.of (lv := [(0, .ref (aL X 34)), (1, .ref (aL X 57)), (2, .int i0), (3, .ref (aL X 53)), (4, .int j0)]) hX (by decide) rfl (Nat.le_of_ble_eq_true rfl) ?_
  intro p e s m below meth c C
  refine m_aload_n C dX9_pair_0 0 rfl ?_
  refine m_invV C cal_X9_begin sh_34 rfl (c_X9_begin l hX g  hI) lk_X9_173 im_X9_begin se_X9_begin (by decide) rfl rfl (Nat.le_of_ble_eq_true rfl) dX9_pair_1 ⟨Nat.le_refl _, Nat.le_refl _⟩ (rV fun g2 q3 => ?_)
  obtain ⟨hI4, hK5, p6⟩ := q3
  have hK7 : Kq [36, 37, 38, 39] [4] g g2 := (Kq.rf).tr hK5 (by decide) (by decide)
  refine m_aload_n C dX9_pair_4 0 rfl ?_
  refine m_iconst C (1 : Int32) dX9_pair_5 (by decide) ?_
  have t8 : (1 : Int32).toInt = 1 := by decide
  refine m_invV C cal_X9_put sh_34 rfl (c_X9_put l hX g2 (1 : Int32) hI4 (by omega)) lk_X9_154 im_X9_put se_X9_put (by decide) rfl rfl (Nat.le_of_ble_eq_true rfl) dX9_pair_6 ⟨Nat.le_refl _, Nat.le_refl _⟩ (rV fun g10 q11 => ?_)
  obtain ⟨hI12, hK13, p14⟩ := q11
  have hK15 : Kq [36, 37, 38, 39] [4] g g10 := (hK7).tr hK13 (by decide) (by decide)
  refine m_aload_n C dX9_pair_9 0 rfl ?_
  refine m_aload_n C dX9_pair_10 1 rfl ?_
  refine m_iload_n C dX9_pair_11 2 rfl ?_
  refine m_bipush C (32 : Int32) dX9_pair_12 (by decide) ?_
  have t16 : (32 : Int32).toInt = 32 := by decide
  refine m_invV C cal_X9_putAll sh_34 rfl (c_X9_putAll_57 l hX g10 i0 (32 : Int32) hI12 (by omega) (by omega) (by omega) (by omega)) lk_X9_176 im_X9_putAll se_X9_putAll (by decide) rfl rfl (Nat.le_of_ble_eq_true rfl) dX9_pair_14 ⟨Nat.le_refl _, Nat.le_refl _⟩ (rV fun g18 q19 => ?_)
  obtain ⟨hI20, hK21, p22⟩ := q19
  have hK23 : Kq [36, 37, 38, 39] [4] g g18 := (hK15).tr hK21 (by decide) (by decide)
  refine m_aload_n C dX9_pair_17 0 rfl ?_
  refine m_aload_n C dX9_pair_18 3 rfl ?_
  refine m_iload C dX9_pair_19 4 rfl ?_
  refine m_bipush C (32 : Int32) dX9_pair_21 (by decide) ?_
  have t24 : (32 : Int32).toInt = 32 := by decide
  refine m_invV C cal_X9_putAll sh_34 rfl (c_X9_putAll_53 l hX g18 j0 (32 : Int32) hI20 (by omega) (by omega) (by omega) (by omega)) lk_X9_176 im_X9_putAll se_X9_putAll (by decide) rfl rfl (Nat.le_of_ble_eq_true rfl) dX9_pair_23 ⟨Nat.le_refl _, Nat.le_refl _⟩ (rV fun g26 q27 => ?_)
  obtain ⟨hI28, hK29, p30⟩ := q27
  have hK31 : Kq [36, 37, 38, 39] [4] g g26 := (hK23).tr hK29 (by decide) (by decide)
  refine m_aload_n C dX9_pair_26 0 rfl ?_
  refine m_invV C cal_X9_end sh_34 rfl (c_X9_end l hX g26  hI28 (by omega)) lk_X9_180 im_X9_end se_X9_end (by decide) rfl rfl (Nat.le_of_ble_eq_true rfl) dX9_pair_27 ⟨Nat.le_refl _, Nat.le_refl _⟩ (rV fun g33 q34 => ?_)
  obtain ⟨hI35, hK36⟩ := q34
  have hK37 : Kq [36, 37, 38, 39] [4] g g33 := (hK31).tr hK36 (by decide) (by decide)
  exact m_vret C dX9_pair_30 ⟨rfl, hI35, hK37⟩
set_option maxRecDepth 20000 in
set_option maxHeartbeats 4000000 in
theorem c_X9_pair_59_57 (l : Launch) {X : XT} (hX : Lok X) (g : Mem) (i0 : Int32) (j0 : Int32) (hI : Inv g) (h_i0 : 0 ≤ i0.toInt ∧ i0.toInt ≤ 256) (h_j0 : 0 ≤ j0.toInt ∧ j0.toInt ≤ 0) : Ctr l X yX9_pair cX9_pair 5 none (rmD 3) [.ref (aL X 34), .ref (aL X 59), .int i0, .ref (aL X 57), .int j0] g (pV (fun g2 => Inv g2 ∧ Kq [36, 37, 38, 39] [4] g g2)) := by
  refine Ctr.of (lv := [(0, .ref (aL X 34)), (1, .ref (aL X 59)), (2, .int i0), (3, .ref (aL X 57)), (4, .int j0)]) hX (by decide) rfl (Nat.le_of_ble_eq_true rfl) ?_
  intro p e s m below meth c C
  refine m_aload_n C dX9_pair_0 0 rfl ?_
  refine m_invV C cal_X9_begin sh_34 rfl (c_X9_begin l hX g  hI) lk_X9_173 im_X9_begin se_X9_begin (by decide) rfl rfl (Nat.le_of_ble_eq_true rfl) dX9_pair_1 ⟨Nat.le_refl _, Nat.le_refl _⟩ (rV fun g2 q3 => ?_)
  obtain ⟨hI4, hK5, p6⟩ := q3
  have hK7 : Kq [36, 37, 38, 39] [4] g g2 := (Kq.rf).tr hK5 (by decide) (by decide)
  refine m_aload_n C dX9_pair_4 0 rfl ?_
  refine m_iconst C (1 : Int32) dX9_pair_5 (by decide) ?_
  have t8 : (1 : Int32).toInt = 1 := by decide
  refine m_invV C cal_X9_put sh_34 rfl (c_X9_put l hX g2 (1 : Int32) hI4 (by omega)) lk_X9_154 im_X9_put se_X9_put (by decide) rfl rfl (Nat.le_of_ble_eq_true rfl) dX9_pair_6 ⟨Nat.le_refl _, Nat.le_refl _⟩ (rV fun g10 q11 => ?_)
  obtain ⟨hI12, hK13, p14⟩ := q11
  have hK15 : Kq [36, 37, 38, 39] [4] g g10 := (hK7).tr hK13 (by decide) (by decide)
  refine m_aload_n C dX9_pair_9 0 rfl ?_
  refine m_aload_n C dX9_pair_10 1 rfl ?_
  refine m_iload_n C dX9_pair_11 2 rfl ?_
  refine m_bipush C (32 : Int32) dX9_pair_12 (by decide) ?_
  have t16 : (32 : Int32).toInt = 32 := by decide
  refine m_invV C cal_X9_putAll sh_34 rfl (c_X9_putAll_59 l hX g10 i0 (32 : Int32) hI12 (by omega) (by omega) (by omega) (by omega)) lk_X9_176 im_X9_putAll se_X9_putAll (by decide) rfl rfl (Nat.le_of_ble_eq_true rfl) dX9_pair_14 ⟨Nat.le_refl _, Nat.le_refl _⟩ (rV fun g18 q19 => ?_)
  obtain ⟨hI20, hK21, p22⟩ := q19
  have hK23 : Kq [36, 37, 38, 39] [4] g g18 := (hK15).tr hK21 (by decide) (by decide)
  refine m_aload_n C dX9_pair_17 0 rfl ?_
  refine m_aload_n C dX9_pair_18 3 rfl ?_
  refine m_iload C dX9_pair_19 4 rfl ?_
  refine m_bipush C (32 : Int32) dX9_pair_21 (by decide) ?_
  have t24 : (32 : Int32).toInt = 32 := by decide
  refine m_invV C cal_X9_putAll sh_34 rfl (c_X9_putAll_57 l hX g18 j0 (32 : Int32) hI20 (by omega) (by omega) (by omega) (by omega)) lk_X9_176 im_X9_putAll se_X9_putAll (by decide) rfl rfl (Nat.le_of_ble_eq_true rfl) dX9_pair_23 ⟨Nat.le_refl _, Nat.le_refl _⟩ (rV fun g26 q27 => ?_)
  obtain ⟨hI28, hK29, p30⟩ := q27
  have hK31 : Kq [36, 37, 38, 39] [4] g g26 := (hK23).tr hK29 (by decide) (by decide)
  refine m_aload_n C dX9_pair_26 0 rfl ?_
  refine m_invV C cal_X9_end sh_34 rfl (c_X9_end l hX g26  hI28 (by omega)) lk_X9_180 im_X9_end se_X9_end (by decide) rfl rfl (Nat.le_of_ble_eq_true rfl) dX9_pair_27 ⟨Nat.le_refl _, Nat.le_refl _⟩ (rV fun g33 q34 => ?_)
  obtain ⟨hI35, hK36⟩ := q34
  have hK37 : Kq [36, 37, 38, 39] [4] g g33 := (hK31).tr hK36 (by decide) (by decide)
  exact m_vret C dX9_pair_30 ⟨rfl, hI35, hK37⟩
set_option maxRecDepth 20000 in
set_option maxHeartbeats 4000000 in
theorem c_X9_pair_59_58 (l : Launch) {X : XT} (hX : Lok X) (g : Mem) (i0 : Int32) (j0 : Int32) (hI : Inv g) (h_i0 : 0 ≤ i0.toInt ∧ i0.toInt ≤ 256) (h_j0 : 0 ≤ j0.toInt ∧ j0.toInt ≤ 0) : Ctr l X yX9_pair cX9_pair 5 none (rmD 3) [.ref (aL X 34), .ref (aL X 59), .int i0, .ref (aL X 58), .int j0] g (pV (fun g2 => Inv g2 ∧ Kq [36, 37, 38, 39] [4] g g2)) := by
  refine Ctr.of (lv := [(0, .ref (aL X 34)), (1, .ref (aL X 59)), (2, .int i0), (3, .ref (aL X 58)), (4, .int j0)]) hX (by decide) rfl (Nat.le_of_ble_eq_true rfl) ?_
  intro p e s m below meth c C
  refine m_aload_n C dX9_pair_0 0 rfl ?_
  refine m_invV C cal_X9_begin sh_34 rfl (c_X9_begin l hX g  hI) lk_X9_173 im_X9_begin se_X9_begin (by decide) rfl rfl (Nat.le_of_ble_eq_true rfl) dX9_pair_1 ⟨Nat.le_refl _, Nat.le_refl _⟩ (rV fun g2 q3 => ?_)
  obtain ⟨hI4, hK5, p6⟩ := q3
  have hK7 : Kq [36, 37, 38, 39] [4] g g2 := (Kq.rf).tr hK5 (by decide) (by decide)
  refine m_aload_n C dX9_pair_4 0 rfl ?_
  refine m_iconst C (1 : Int32) dX9_pair_5 (by decide) ?_
  have t8 : (1 : Int32).toInt = 1 := by decide
  refine m_invV C cal_X9_put sh_34 rfl (c_X9_put l hX g2 (1 : Int32) hI4 (by omega)) lk_X9_154 im_X9_put se_X9_put (by decide) rfl rfl (Nat.le_of_ble_eq_true rfl) dX9_pair_6 ⟨Nat.le_refl _, Nat.le_refl _⟩ (rV fun g10 q11 => ?_)
  obtain ⟨hI12, hK13, p14⟩ := q11
  have hK15 : Kq [36, 37, 38, 39] [4] g g10 := (hK7).tr hK13 (by decide) (by decide)
  refine m_aload_n C dX9_pair_9 0 rfl ?_
  refine m_aload_n C dX9_pair_10 1 rfl ?_
  refine m_iload_n C dX9_pair_11 2 rfl ?_
  refine m_bipush C (32 : Int32) dX9_pair_12 (by decide) ?_
  have t16 : (32 : Int32).toInt = 32 := by decide
  refine m_invV C cal_X9_putAll sh_34 rfl (c_X9_putAll_59 l hX g10 i0 (32 : Int32) hI12 (by omega) (by omega) (by omega) (by omega)) lk_X9_176 im_X9_putAll se_X9_putAll (by decide) rfl rfl (Nat.le_of_ble_eq_true rfl) dX9_pair_14 ⟨Nat.le_refl _, Nat.le_refl _⟩ (rV fun g18 q19 => ?_)
  obtain ⟨hI20, hK21, p22⟩ := q19
  have hK23 : Kq [36, 37, 38, 39] [4] g g18 := (hK15).tr hK21 (by decide) (by decide)
  refine m_aload_n C dX9_pair_17 0 rfl ?_
  refine m_aload_n C dX9_pair_18 3 rfl ?_
  refine m_iload C dX9_pair_19 4 rfl ?_
  refine m_bipush C (32 : Int32) dX9_pair_21 (by decide) ?_
  have t24 : (32 : Int32).toInt = 32 := by decide
  refine m_invV C cal_X9_putAll sh_34 rfl (c_X9_putAll_58 l hX g18 j0 (32 : Int32) hI20 (by omega) (by omega) (by omega) (by omega)) lk_X9_176 im_X9_putAll se_X9_putAll (by decide) rfl rfl (Nat.le_of_ble_eq_true rfl) dX9_pair_23 ⟨Nat.le_refl _, Nat.le_refl _⟩ (rV fun g26 q27 => ?_)
  obtain ⟨hI28, hK29, p30⟩ := q27
  have hK31 : Kq [36, 37, 38, 39] [4] g g26 := (hK23).tr hK29 (by decide) (by decide)
  refine m_aload_n C dX9_pair_26 0 rfl ?_
  refine m_invV C cal_X9_end sh_34 rfl (c_X9_end l hX g26  hI28 (by omega)) lk_X9_180 im_X9_end se_X9_end (by decide) rfl rfl (Nat.le_of_ble_eq_true rfl) dX9_pair_27 ⟨Nat.le_refl _, Nat.le_refl _⟩ (rV fun g33 q34 => ?_)
  obtain ⟨hI35, hK36⟩ := q34
  have hK37 : Kq [36, 37, 38, 39] [4] g g33 := (hK31).tr hK36 (by decide) (by decide)
  exact m_vret C dX9_pair_30 ⟨rfl, hI35, hK37⟩
set_option maxRecDepth 20000 in
set_option maxHeartbeats 4000000 in
theorem c_X9_pair_58_59 (l : Launch) {X : XT} (hX : Lok X) (g : Mem) (i0 : Int32) (j0 : Int32) (hI : Inv g) (h_i0 : 0 ≤ i0.toInt ∧ i0.toInt ≤ 0) (h_j0 : 0 ≤ j0.toInt ∧ j0.toInt ≤ 256) : Ctr l X yX9_pair cX9_pair 5 none (rmD 3) [.ref (aL X 34), .ref (aL X 58), .int i0, .ref (aL X 59), .int j0] g (pV (fun g2 => Inv g2 ∧ Kq [36, 37, 38, 39] [4] g g2)) := by
  refine Ctr.of (lv := [(0, .ref (aL X 34)), (1, .ref (aL X 58)), (2, .int i0), (3, .ref (aL X 59)), (4, .int j0)]) hX (by decide) rfl (Nat.le_of_ble_eq_true rfl) ?_
  intro p e s m below meth c C
  refine m_aload_n C dX9_pair_0 0 rfl ?_
  refine m_invV C cal_X9_begin sh_34 rfl (c_X9_begin l hX g  hI) lk_X9_173 im_X9_begin se_X9_begin (by decide) rfl rfl (Nat.le_of_ble_eq_true rfl) dX9_pair_1 ⟨Nat.le_refl _, Nat.le_refl _⟩ (rV fun g2 q3 => ?_)
  obtain ⟨hI4, hK5, p6⟩ := q3
  have hK7 : Kq [36, 37, 38, 39] [4] g g2 := (Kq.rf).tr hK5 (by decide) (by decide)
  refine m_aload_n C dX9_pair_4 0 rfl ?_
  refine m_iconst C (1 : Int32) dX9_pair_5 (by decide) ?_
  have t8 : (1 : Int32).toInt = 1 := by decide
  refine m_invV C cal_X9_put sh_34 rfl (c_X9_put l hX g2 (1 : Int32) hI4 (by omega)) lk_X9_154 im_X9_put se_X9_put (by decide) rfl rfl (Nat.le_of_ble_eq_true rfl) dX9_pair_6 ⟨Nat.le_refl _, Nat.le_refl _⟩ (rV fun g10 q11 => ?_)
  obtain ⟨hI12, hK13, p14⟩ := q11
  have hK15 : Kq [36, 37, 38, 39] [4] g g10 := (hK7).tr hK13 (by decide) (by decide)
  refine m_aload_n C dX9_pair_9 0 rfl ?_
  refine m_aload_n C dX9_pair_10 1 rfl ?_
  refine m_iload_n C dX9_pair_11 2 rfl ?_
  refine m_bipush C (32 : Int32) dX9_pair_12 (by decide) ?_
  have t16 : (32 : Int32).toInt = 32 := by decide
  refine m_invV C cal_X9_putAll sh_34 rfl (c_X9_putAll_58 l hX g10 i0 (32 : Int32) hI12 (by omega) (by omega) (by omega) (by omega)) lk_X9_176 im_X9_putAll se_X9_putAll (by decide) rfl rfl (Nat.le_of_ble_eq_true rfl) dX9_pair_14 ⟨Nat.le_refl _, Nat.le_refl _⟩ (rV fun g18 q19 => ?_)
  obtain ⟨hI20, hK21, p22⟩ := q19
  have hK23 : Kq [36, 37, 38, 39] [4] g g18 := (hK15).tr hK21 (by decide) (by decide)
  refine m_aload_n C dX9_pair_17 0 rfl ?_
  refine m_aload_n C dX9_pair_18 3 rfl ?_
  refine m_iload C dX9_pair_19 4 rfl ?_
  refine m_bipush C (32 : Int32) dX9_pair_21 (by decide) ?_
  have t24 : (32 : Int32).toInt = 32 := by decide
  refine m_invV C cal_X9_putAll sh_34 rfl (c_X9_putAll_59 l hX g18 j0 (32 : Int32) hI20 (by omega) (by omega) (by omega) (by omega)) lk_X9_176 im_X9_putAll se_X9_putAll (by decide) rfl rfl (Nat.le_of_ble_eq_true rfl) dX9_pair_23 ⟨Nat.le_refl _, Nat.le_refl _⟩ (rV fun g26 q27 => ?_)
  obtain ⟨hI28, hK29, p30⟩ := q27
  have hK31 : Kq [36, 37, 38, 39] [4] g g26 := (hK23).tr hK29 (by decide) (by decide)
  refine m_aload_n C dX9_pair_26 0 rfl ?_
  refine m_invV C cal_X9_end sh_34 rfl (c_X9_end l hX g26  hI28 (by omega)) lk_X9_180 im_X9_end se_X9_end (by decide) rfl rfl (Nat.le_of_ble_eq_true rfl) dX9_pair_27 ⟨Nat.le_refl _, Nat.le_refl _⟩ (rV fun g33 q34 => ?_)
  obtain ⟨hI35, hK36⟩ := q34
  have hK37 : Kq [36, 37, 38, 39] [4] g g33 := (hK31).tr hK36 (by decide) (by decide)
  exact m_vret C dX9_pair_30 ⟨rfl, hI35, hK37⟩
set_option maxRecDepth 20000 in
set_option maxHeartbeats 4000000 in
theorem c_X9_leaf (l : Launch) {X : XT} (hX : Lok X) (g : Mem) (i0 : Int32) (hI : Inv g) (h_i0 : 0 ≤ i0.toInt ∧ i0.toInt ≤ 59) : Ctr l X yX9_leaf cX9_leaf 2 none (rmD 3) [.ref (aL X 34), .int i0] g (pV (fun g2 => Inv g2 ∧ Kq [36, 37, 38, 39] [4] g g2)) := by
  refine Ctr.of (lv := [(0, .ref (aL X 34)), (1, .int i0)]) hX (by decide) rfl (Nat.le_of_ble_eq_true rfl) ?_
  intro p e s m below meth c C
  refine m_aload_n C dX9_leaf_0 0 rfl ?_
  refine m_invV C cal_X9_begin sh_34 rfl (c_X9_begin l hX g  hI) lk_X9_173 im_X9_begin se_X9_begin (by decide) rfl rfl (Nat.le_of_ble_eq_true rfl) dX9_leaf_1 ⟨Nat.le_refl _, Nat.le_refl _⟩ (rV fun g2 q3 => ?_)
  obtain ⟨hI4, hK5, p6⟩ := q3
  have hK7 : Kq [36, 37, 38, 39] [4] g g2 := (Kq.rf).tr hK5 (by decide) (by decide)
  refine m_aload_n C dX9_leaf_4 0 rfl ?_
  refine m_iconst C (0 : Int32) dX9_leaf_5 (by decide) ?_
  have t8 : (0 : Int32).toInt = 0 := by decide
  refine m_invV C cal_X9_put sh_34 rfl (c_X9_put l hX g2 (0 : Int32) hI4 (by omega)) lk_X9_154 im_X9_put se_X9_put (by decide) rfl rfl (Nat.le_of_ble_eq_true rfl) dX9_leaf_6 ⟨Nat.le_refl _, Nat.le_refl _⟩ (rV fun g10 q11 => ?_)
  obtain ⟨hI12, hK13, p14⟩ := q11
  have hK15 : Kq [36, 37, 38, 39] [4] g g10 := (hK7).tr hK13 (by decide) (by decide)
  refine m_aload_n C dX9_leaf_9 0 rfl ?_
  refine m_aload_n C dX9_leaf_10 0 rfl ?_
  refine m_getr (rf := "") C 18 rfl gd9 (by decide) sh_34 rfl dX9_leaf_11 lk_X9_47 ?_
  refine m_bipush C (12 : Int32) dX9_leaf_14 (by decide) ?_
  refine m_iload_n C dX9_leaf_16 1 rfl ?_
  refine m_imul C dX9_leaf_17 ?_
  refine m_bipush C (12 : Int32) dX9_leaf_18 (by decide) ?_
  have t16 : ((12 : Int32) * i0).toInt = (12 : Int) * i0.toInt := i_mul (by decide) rfl (by omega) (by omega)
  have t17 : (12 : Int32).toInt = 12 := by decide
  refine m_invV C cal_X9_putAll sh_34 rfl (c_X9_putAll_47 l hX g10 ((12 : Int32) * i0) (12 : Int32) hI12 (by omega) (by omega) (by omega) (by omega)) lk_X9_176 im_X9_putAll se_X9_putAll (by decide) rfl rfl (Nat.le_of_ble_eq_true rfl) dX9_leaf_20 ⟨Nat.le_refl _, Nat.le_refl _⟩ (rV fun g19 q20 => ?_)
  obtain ⟨hI21, hK22, p23⟩ := q20
  have hK24 : Kq [36, 37, 38, 39] [4] g g19 := (hK15).tr hK22 (by decide) (by decide)
  refine m_aload_n C dX9_leaf_23 0 rfl ?_
  refine m_invV C cal_X9_end sh_34 rfl (c_X9_end l hX g19  hI21 (by omega)) lk_X9_180 im_X9_end se_X9_end (by decide) rfl rfl (Nat.le_of_ble_eq_true rfl) dX9_leaf_24 ⟨Nat.le_refl _, Nat.le_refl _⟩ (rV fun g26 q27 => ?_)
  obtain ⟨hI28, hK29⟩ := q27
  have hK30 : Kq [36, 37, 38, 39] [4] g g26 := (hK24).tr hK29 (by decide) (by decide)
  exact m_vret C dX9_leaf_27 ⟨rfl, hI28, hK30⟩
set_option maxRecDepth 20000 in
set_option maxHeartbeats 4000000 in
theorem c_X9_lay_48 (l : Launch) {X : XT} (hX : Lok X) (g : Mem) (a0 : Int32) (hI : Inv g) (h_a0 : 0 ≤ a0.toInt ∧ a0.toInt ≤ 1920) : Ctr l X yX9_lay cX9_lay 4 none (rmD 0) [.ref (aL X 34), .ref (aL X 48), .int a0] g (pV (fun g2 => Inv g2 ∧ Kq [48] [] g g2)) := by
  refine Ctr.of (lv := [(0, .ref (aL X 34)), (1, .ref (aL X 48)), (2, .int a0)]) hX (by decide) rfl (Nat.le_of_ble_eq_true rfl) ?_
  intro p e s m below meth c C
  refine m_iconst C (0 : Int32) dX9_lay_0 (by decide) ?_
  refine m_istore_n C [(3, .int (0 : Int32)), (0, .ref (aL X 34)), (1, .ref (aL X 48)), (2, .int a0)] dX9_lay_1 (by decide) rfl ?_
  have L2 : ∀ (n2 : Nat) (x2 : Int32) (g3 : Mem), (33 - x2.toInt).toNat < n2 → Inv g3 → Kq [48] [] g g3 → 0 ≤ x2.toInt ∧ x2.toInt ≤ 32 → Wm X p l e (rmD 0) s m ([.ref (aL X 34), .ref (aL X 48), .int a0] : List Value).toArray below meth c 4 0 0 (MQ below (cQ X (pV (fun g2 => Inv g2 ∧ Kq [48] [] g g2))) ([.ref (aL X 34), .ref (aL X 48), .int a0] : List Value).toArray s 0 0 (Ab X)) g3 2 [(0, .ref (aL X 34)), (1, .ref (aL X 48)), (2, .int a0), (3, .int x2)] [] := by
    intro n2
    induction n2 with
    | zero => intro x2 g3 hm; exact absurd hm (Nat.not_lt_zero _)
    | succ n2 ih2 =>
      intro x2 g3 hm2 hI4 hK5 i6
      obtain ⟨i6a, i6b⟩ := i6
      refine m_iload_n C dX9_lay_2 3 rfl ?_
      refine m_bipush C (32 : Int32) dX9_lay_3 (by decide) ?_
      refine m_icmp_ge C 25 dX9_lay_5 (by decide) (fun h7 => ?_) (fun h7 => ?_)
      · skip
        have th7 := i_le h7
        rw [show (32 : Int32).toInt = 32 by decide] at th7
        exact m_vret C dX9_lay_25 ⟨rfl, hI4, hK5⟩
      · skip
        have th7 := i_nle h7
        rw [show (32 : Int32).toInt = 32 by decide] at th7
        refine m_aload_n C dX9_lay_8 1 rfl ?_
        refine m_iload_n C dX9_lay_9 2 rfl ?_
        refine m_iload_n C dX9_lay_10 3 rfl ?_
        refine m_iadd C dX9_lay_11 ?_
        refine m_aload_n C dX9_lay_12 0 rfl ?_
        refine m_getr (rf := "") C 5 rfl gd9 (by decide) sh_34 rfl dX9_lay_13 lk_X9_22 ?_
        refine m_iload_n C dX9_lay_16 3 rfl ?_
        refine m_iald C sh_39 (i_in (by omega) (by omega)) dX9_lay_17 ?_
        have t8 : (a0 + x2).toInt = a0.toInt + x2.toInt := i_add rfl rfl (by omega) (by omega)
        refine m_iast C sh_48 (i_in (by omega) (by omega)) dX9_lay_18 ?_
        refine m_mem (fun g9 eg9 => ?_)
        have hI10 : Inv g9 := by rw [eg9]; exact hI4.up (ok_any (by decide))
        have hK11 : Kq [48] [] g g9 := by rw [eg9]; exact Kq.upA hK5 (by decide) (by decide)
        obtain ⟨x12, ex12⟩ : ∃ z : Int32, z = x2 + Int32.ofInt 1 := ⟨_, rfl⟩
        have t13 : (x2 + (Int32.ofInt 1)).toInt = x2.toInt + (1 : Int) := i_add rfl (by decide) (by omega) (by omega)
        have t14 : x12.toInt = (x2.toInt + (1 : Int)) := (congrArg Int32.toInt ex12).trans t13
        refine m_iinc C x12 [(3, .int x12), (0, .ref (aL X 34)), (1, .ref (aL X 48)), (2, .int a0)] dX9_lay_19 (q := 3) rfl ex12.symm (by decide) rfl ?_
        refine m_goto C 2 dX9_lay_22 (by decide) ?_
        refine m_lv [1, 2, 3, 0] rfl ?_
        exact ih2 x12 g9 (by omega) hI10 hK11 (by omega)
  have t15 : (0 : Int32).toInt = 0 := by decide
  refine m_lv [1, 2, 3, 0] rfl ?_
  exact L2 (((33 - (0 : Int32).toInt).toNat) + 1) (0 : Int32) g (Nat.lt_succ_self _) hI Kq.rf (by omega)
set_option maxRecDepth 20000 in
set_option maxHeartbeats 4000000 in
theorem c_X9_lay_50 (l : Launch) {X : XT} (hX : Lok X) (g : Mem) (a0 : Int32) (hI : Inv g) (h_a0 : 0 ≤ a0.toInt ∧ a0.toInt ≤ 224) : Ctr l X yX9_lay cX9_lay 4 none (rmD 0) [.ref (aL X 34), .ref (aL X 50), .int a0] g (pV (fun g2 => Inv g2 ∧ Kq [50] [] g g2)) := by
  refine Ctr.of (lv := [(0, .ref (aL X 34)), (1, .ref (aL X 50)), (2, .int a0)]) hX (by decide) rfl (Nat.le_of_ble_eq_true rfl) ?_
  intro p e s m below meth c C
  refine m_iconst C (0 : Int32) dX9_lay_0 (by decide) ?_
  refine m_istore_n C [(3, .int (0 : Int32)), (0, .ref (aL X 34)), (1, .ref (aL X 50)), (2, .int a0)] dX9_lay_1 (by decide) rfl ?_
  have L2 : ∀ (n2 : Nat) (x2 : Int32) (g3 : Mem), (33 - x2.toInt).toNat < n2 → Inv g3 → Kq [50] [] g g3 → 0 ≤ x2.toInt ∧ x2.toInt ≤ 32 → Wm X p l e (rmD 0) s m ([.ref (aL X 34), .ref (aL X 50), .int a0] : List Value).toArray below meth c 4 0 0 (MQ below (cQ X (pV (fun g2 => Inv g2 ∧ Kq [50] [] g g2))) ([.ref (aL X 34), .ref (aL X 50), .int a0] : List Value).toArray s 0 0 (Ab X)) g3 2 [(0, .ref (aL X 34)), (1, .ref (aL X 50)), (2, .int a0), (3, .int x2)] [] := by
    intro n2
    induction n2 with
    | zero => intro x2 g3 hm; exact absurd hm (Nat.not_lt_zero _)
    | succ n2 ih2 =>
      intro x2 g3 hm2 hI4 hK5 i6
      obtain ⟨i6a, i6b⟩ := i6
      refine m_iload_n C dX9_lay_2 3 rfl ?_
      refine m_bipush C (32 : Int32) dX9_lay_3 (by decide) ?_
      refine m_icmp_ge C 25 dX9_lay_5 (by decide) (fun h7 => ?_) (fun h7 => ?_)
      · skip
        have th7 := i_le h7
        rw [show (32 : Int32).toInt = 32 by decide] at th7
        exact m_vret C dX9_lay_25 ⟨rfl, hI4, hK5⟩
      · skip
        have th7 := i_nle h7
        rw [show (32 : Int32).toInt = 32 by decide] at th7
        refine m_aload_n C dX9_lay_8 1 rfl ?_
        refine m_iload_n C dX9_lay_9 2 rfl ?_
        refine m_iload_n C dX9_lay_10 3 rfl ?_
        refine m_iadd C dX9_lay_11 ?_
        refine m_aload_n C dX9_lay_12 0 rfl ?_
        refine m_getr (rf := "") C 5 rfl gd9 (by decide) sh_34 rfl dX9_lay_13 lk_X9_22 ?_
        refine m_iload_n C dX9_lay_16 3 rfl ?_
        refine m_iald C sh_39 (i_in (by omega) (by omega)) dX9_lay_17 ?_
        have t8 : (a0 + x2).toInt = a0.toInt + x2.toInt := i_add rfl rfl (by omega) (by omega)
        refine m_iast C sh_50 (i_in (by omega) (by omega)) dX9_lay_18 ?_
        refine m_mem (fun g9 eg9 => ?_)
        have hI10 : Inv g9 := by rw [eg9]; exact hI4.up (ok_any (by decide))
        have hK11 : Kq [50] [] g g9 := by rw [eg9]; exact Kq.upA hK5 (by decide) (by decide)
        obtain ⟨x12, ex12⟩ : ∃ z : Int32, z = x2 + Int32.ofInt 1 := ⟨_, rfl⟩
        have t13 : (x2 + (Int32.ofInt 1)).toInt = x2.toInt + (1 : Int) := i_add rfl (by decide) (by omega) (by omega)
        have t14 : x12.toInt = (x2.toInt + (1 : Int)) := (congrArg Int32.toInt ex12).trans t13
        refine m_iinc C x12 [(3, .int x12), (0, .ref (aL X 34)), (1, .ref (aL X 50)), (2, .int a0)] dX9_lay_19 (q := 3) rfl ex12.symm (by decide) rfl ?_
        refine m_goto C 2 dX9_lay_22 (by decide) ?_
        refine m_lv [1, 2, 3, 0] rfl ?_
        exact ih2 x12 g9 (by omega) hI10 hK11 (by omega)
  have t15 : (0 : Int32).toInt = 0 := by decide
  refine m_lv [1, 2, 3, 0] rfl ?_
  exact L2 (((33 - (0 : Int32).toInt).toNat) + 1) (0 : Int32) g (Nat.lt_succ_self _) hI Kq.rf (by omega)
set_option maxRecDepth 20000 in
set_option maxHeartbeats 4000000 in
theorem c_X9_lay_52 (l : Launch) {X : XT} (hX : Lok X) (g : Mem) (a0 : Int32) (hI : Inv g) (h_a0 : 0 ≤ a0.toInt ∧ a0.toInt ≤ 0) : Ctr l X yX9_lay cX9_lay 4 none (rmD 0) [.ref (aL X 34), .ref (aL X 52), .int a0] g (pV (fun g2 => Inv g2 ∧ Kq [52] [] g g2)) := by
  refine Ctr.of (lv := [(0, .ref (aL X 34)), (1, .ref (aL X 52)), (2, .int a0)]) hX (by decide) rfl (Nat.le_of_ble_eq_true rfl) ?_
  intro p e s m below meth c C
  refine m_iconst C (0 : Int32) dX9_lay_0 (by decide) ?_
  refine m_istore_n C [(3, .int (0 : Int32)), (0, .ref (aL X 34)), (1, .ref (aL X 52)), (2, .int a0)] dX9_lay_1 (by decide) rfl ?_
  have L2 : ∀ (n2 : Nat) (x2 : Int32) (g3 : Mem), (33 - x2.toInt).toNat < n2 → Inv g3 → Kq [52] [] g g3 → 0 ≤ x2.toInt ∧ x2.toInt ≤ 32 → Wm X p l e (rmD 0) s m ([.ref (aL X 34), .ref (aL X 52), .int a0] : List Value).toArray below meth c 4 0 0 (MQ below (cQ X (pV (fun g2 => Inv g2 ∧ Kq [52] [] g g2))) ([.ref (aL X 34), .ref (aL X 52), .int a0] : List Value).toArray s 0 0 (Ab X)) g3 2 [(0, .ref (aL X 34)), (1, .ref (aL X 52)), (2, .int a0), (3, .int x2)] [] := by
    intro n2
    induction n2 with
    | zero => intro x2 g3 hm; exact absurd hm (Nat.not_lt_zero _)
    | succ n2 ih2 =>
      intro x2 g3 hm2 hI4 hK5 i6
      obtain ⟨i6a, i6b⟩ := i6
      refine m_iload_n C dX9_lay_2 3 rfl ?_
      refine m_bipush C (32 : Int32) dX9_lay_3 (by decide) ?_
      refine m_icmp_ge C 25 dX9_lay_5 (by decide) (fun h7 => ?_) (fun h7 => ?_)
      · skip
        have th7 := i_le h7
        rw [show (32 : Int32).toInt = 32 by decide] at th7
        exact m_vret C dX9_lay_25 ⟨rfl, hI4, hK5⟩
      · skip
        have th7 := i_nle h7
        rw [show (32 : Int32).toInt = 32 by decide] at th7
        refine m_aload_n C dX9_lay_8 1 rfl ?_
        refine m_iload_n C dX9_lay_9 2 rfl ?_
        refine m_iload_n C dX9_lay_10 3 rfl ?_
        refine m_iadd C dX9_lay_11 ?_
        refine m_aload_n C dX9_lay_12 0 rfl ?_
        refine m_getr (rf := "") C 5 rfl gd9 (by decide) sh_34 rfl dX9_lay_13 lk_X9_22 ?_
        refine m_iload_n C dX9_lay_16 3 rfl ?_
        refine m_iald C sh_39 (i_in (by omega) (by omega)) dX9_lay_17 ?_
        have t8 : (a0 + x2).toInt = a0.toInt + x2.toInt := i_add rfl rfl (by omega) (by omega)
        refine m_iast C sh_52 (i_in (by omega) (by omega)) dX9_lay_18 ?_
        refine m_mem (fun g9 eg9 => ?_)
        have hI10 : Inv g9 := by rw [eg9]; exact hI4.up (ok_any (by decide))
        have hK11 : Kq [52] [] g g9 := by rw [eg9]; exact Kq.upA hK5 (by decide) (by decide)
        obtain ⟨x12, ex12⟩ : ∃ z : Int32, z = x2 + Int32.ofInt 1 := ⟨_, rfl⟩
        have t13 : (x2 + (Int32.ofInt 1)).toInt = x2.toInt + (1 : Int) := i_add rfl (by decide) (by omega) (by omega)
        have t14 : x12.toInt = (x2.toInt + (1 : Int)) := (congrArg Int32.toInt ex12).trans t13
        refine m_iinc C x12 [(3, .int x12), (0, .ref (aL X 34)), (1, .ref (aL X 52)), (2, .int a0)] dX9_lay_19 (q := 3) rfl ex12.symm (by decide) rfl ?_
        refine m_goto C 2 dX9_lay_22 (by decide) ?_
        refine m_lv [1, 2, 3, 0] rfl ?_
        exact ih2 x12 g9 (by omega) hI10 hK11 (by omega)
  have t15 : (0 : Int32).toInt = 0 := by decide
  refine m_lv [1, 2, 3, 0] rfl ?_
  exact L2 (((33 - (0 : Int32).toInt).toNat) + 1) (0 : Int32) g (Nat.lt_succ_self _) hI Kq.rf (by omega)
set_option maxRecDepth 20000 in
set_option maxHeartbeats 4000000 in
theorem c_X9_lay_53 (l : Launch) {X : XT} (hX : Lok X) (g : Mem) (a0 : Int32) (hI : Inv g) (h_a0 : 0 ≤ a0.toInt ∧ a0.toInt ≤ 224) : Ctr l X yX9_lay cX9_lay 4 none (rmD 0) [.ref (aL X 34), .ref (aL X 53), .int a0] g (pV (fun g2 => Inv g2 ∧ Kq [53] [] g g2)) := by
  refine Ctr.of (lv := [(0, .ref (aL X 34)), (1, .ref (aL X 53)), (2, .int a0)]) hX (by decide) rfl (Nat.le_of_ble_eq_true rfl) ?_
  intro p e s m below meth c C
  refine m_iconst C (0 : Int32) dX9_lay_0 (by decide) ?_
  refine m_istore_n C [(3, .int (0 : Int32)), (0, .ref (aL X 34)), (1, .ref (aL X 53)), (2, .int a0)] dX9_lay_1 (by decide) rfl ?_
  have L2 : ∀ (n2 : Nat) (x2 : Int32) (g3 : Mem), (33 - x2.toInt).toNat < n2 → Inv g3 → Kq [53] [] g g3 → 0 ≤ x2.toInt ∧ x2.toInt ≤ 32 → Wm X p l e (rmD 0) s m ([.ref (aL X 34), .ref (aL X 53), .int a0] : List Value).toArray below meth c 4 0 0 (MQ below (cQ X (pV (fun g2 => Inv g2 ∧ Kq [53] [] g g2))) ([.ref (aL X 34), .ref (aL X 53), .int a0] : List Value).toArray s 0 0 (Ab X)) g3 2 [(0, .ref (aL X 34)), (1, .ref (aL X 53)), (2, .int a0), (3, .int x2)] [] := by
    intro n2
    induction n2 with
    | zero => intro x2 g3 hm; exact absurd hm (Nat.not_lt_zero _)
    | succ n2 ih2 =>
      intro x2 g3 hm2 hI4 hK5 i6
      obtain ⟨i6a, i6b⟩ := i6
      refine m_iload_n C dX9_lay_2 3 rfl ?_
      refine m_bipush C (32 : Int32) dX9_lay_3 (by decide) ?_
      refine m_icmp_ge C 25 dX9_lay_5 (by decide) (fun h7 => ?_) (fun h7 => ?_)
      · skip
        have th7 := i_le h7
        rw [show (32 : Int32).toInt = 32 by decide] at th7
        exact m_vret C dX9_lay_25 ⟨rfl, hI4, hK5⟩
      · skip
        have th7 := i_nle h7
        rw [show (32 : Int32).toInt = 32 by decide] at th7
        refine m_aload_n C dX9_lay_8 1 rfl ?_
        refine m_iload_n C dX9_lay_9 2 rfl ?_
        refine m_iload_n C dX9_lay_10 3 rfl ?_
        refine m_iadd C dX9_lay_11 ?_
        refine m_aload_n C dX9_lay_12 0 rfl ?_
        refine m_getr (rf := "") C 5 rfl gd9 (by decide) sh_34 rfl dX9_lay_13 lk_X9_22 ?_
        refine m_iload_n C dX9_lay_16 3 rfl ?_
        refine m_iald C sh_39 (i_in (by omega) (by omega)) dX9_lay_17 ?_
        have t8 : (a0 + x2).toInt = a0.toInt + x2.toInt := i_add rfl rfl (by omega) (by omega)
        refine m_iast C sh_53 (i_in (by omega) (by omega)) dX9_lay_18 ?_
        refine m_mem (fun g9 eg9 => ?_)
        have hI10 : Inv g9 := by rw [eg9]; exact hI4.up (ok_any (by decide))
        have hK11 : Kq [53] [] g g9 := by rw [eg9]; exact Kq.upA hK5 (by decide) (by decide)
        obtain ⟨x12, ex12⟩ : ∃ z : Int32, z = x2 + Int32.ofInt 1 := ⟨_, rfl⟩
        have t13 : (x2 + (Int32.ofInt 1)).toInt = x2.toInt + (1 : Int) := i_add rfl (by decide) (by omega) (by omega)
        have t14 : x12.toInt = (x2.toInt + (1 : Int)) := (congrArg Int32.toInt ex12).trans t13
        refine m_iinc C x12 [(3, .int x12), (0, .ref (aL X 34)), (1, .ref (aL X 53)), (2, .int a0)] dX9_lay_19 (q := 3) rfl ex12.symm (by decide) rfl ?_
        refine m_goto C 2 dX9_lay_22 (by decide) ?_
        refine m_lv [1, 2, 3, 0] rfl ?_
        exact ih2 x12 g9 (by omega) hI10 hK11 (by omega)
  have t15 : (0 : Int32).toInt = 0 := by decide
  refine m_lv [1, 2, 3, 0] rfl ?_
  exact L2 (((33 - (0 : Int32).toInt).toNat) + 1) (0 : Int32) g (Nat.lt_succ_self _) hI Kq.rf (by omega)
set_option maxRecDepth 20000 in
set_option maxHeartbeats 4000000 in
theorem c_X9_lay_56 (l : Launch) {X : XT} (hX : Lok X) (g : Mem) (a0 : Int32) (hI : Inv g) (h_a0 : 0 ≤ a0.toInt ∧ a0.toInt ≤ 96) : Ctr l X yX9_lay cX9_lay 4 none (rmD 0) [.ref (aL X 34), .ref (aL X 56), .int a0] g (pV (fun g2 => Inv g2 ∧ Kq [56] [] g g2)) := by
  refine Ctr.of (lv := [(0, .ref (aL X 34)), (1, .ref (aL X 56)), (2, .int a0)]) hX (by decide) rfl (Nat.le_of_ble_eq_true rfl) ?_
  intro p e s m below meth c C
  refine m_iconst C (0 : Int32) dX9_lay_0 (by decide) ?_
  refine m_istore_n C [(3, .int (0 : Int32)), (0, .ref (aL X 34)), (1, .ref (aL X 56)), (2, .int a0)] dX9_lay_1 (by decide) rfl ?_
  have L2 : ∀ (n2 : Nat) (x2 : Int32) (g3 : Mem), (33 - x2.toInt).toNat < n2 → Inv g3 → Kq [56] [] g g3 → 0 ≤ x2.toInt ∧ x2.toInt ≤ 32 → Wm X p l e (rmD 0) s m ([.ref (aL X 34), .ref (aL X 56), .int a0] : List Value).toArray below meth c 4 0 0 (MQ below (cQ X (pV (fun g2 => Inv g2 ∧ Kq [56] [] g g2))) ([.ref (aL X 34), .ref (aL X 56), .int a0] : List Value).toArray s 0 0 (Ab X)) g3 2 [(0, .ref (aL X 34)), (1, .ref (aL X 56)), (2, .int a0), (3, .int x2)] [] := by
    intro n2
    induction n2 with
    | zero => intro x2 g3 hm; exact absurd hm (Nat.not_lt_zero _)
    | succ n2 ih2 =>
      intro x2 g3 hm2 hI4 hK5 i6
      obtain ⟨i6a, i6b⟩ := i6
      refine m_iload_n C dX9_lay_2 3 rfl ?_
      refine m_bipush C (32 : Int32) dX9_lay_3 (by decide) ?_
      refine m_icmp_ge C 25 dX9_lay_5 (by decide) (fun h7 => ?_) (fun h7 => ?_)
      · skip
        have th7 := i_le h7
        rw [show (32 : Int32).toInt = 32 by decide] at th7
        exact m_vret C dX9_lay_25 ⟨rfl, hI4, hK5⟩
      · skip
        have th7 := i_nle h7
        rw [show (32 : Int32).toInt = 32 by decide] at th7
        refine m_aload_n C dX9_lay_8 1 rfl ?_
        refine m_iload_n C dX9_lay_9 2 rfl ?_
        refine m_iload_n C dX9_lay_10 3 rfl ?_
        refine m_iadd C dX9_lay_11 ?_
        refine m_aload_n C dX9_lay_12 0 rfl ?_
        refine m_getr (rf := "") C 5 rfl gd9 (by decide) sh_34 rfl dX9_lay_13 lk_X9_22 ?_
        refine m_iload_n C dX9_lay_16 3 rfl ?_
        refine m_iald C sh_39 (i_in (by omega) (by omega)) dX9_lay_17 ?_
        have t8 : (a0 + x2).toInt = a0.toInt + x2.toInt := i_add rfl rfl (by omega) (by omega)
        refine m_iast C sh_56 (i_in (by omega) (by omega)) dX9_lay_18 ?_
        refine m_mem (fun g9 eg9 => ?_)
        have hI10 : Inv g9 := by rw [eg9]; exact hI4.up (ok_any (by decide))
        have hK11 : Kq [56] [] g g9 := by rw [eg9]; exact Kq.upA hK5 (by decide) (by decide)
        obtain ⟨x12, ex12⟩ : ∃ z : Int32, z = x2 + Int32.ofInt 1 := ⟨_, rfl⟩
        have t13 : (x2 + (Int32.ofInt 1)).toInt = x2.toInt + (1 : Int) := i_add rfl (by decide) (by omega) (by omega)
        have t14 : x12.toInt = (x2.toInt + (1 : Int)) := (congrArg Int32.toInt ex12).trans t13
        refine m_iinc C x12 [(3, .int x12), (0, .ref (aL X 34)), (1, .ref (aL X 56)), (2, .int a0)] dX9_lay_19 (q := 3) rfl ex12.symm (by decide) rfl ?_
        refine m_goto C 2 dX9_lay_22 (by decide) ?_
        refine m_lv [1, 2, 3, 0] rfl ?_
        exact ih2 x12 g9 (by omega) hI10 hK11 (by omega)
  have t15 : (0 : Int32).toInt = 0 := by decide
  refine m_lv [1, 2, 3, 0] rfl ?_
  exact L2 (((33 - (0 : Int32).toInt).toNat) + 1) (0 : Int32) g (Nat.lt_succ_self _) hI Kq.rf (by omega)
set_option maxRecDepth 20000 in
set_option maxHeartbeats 4000000 in
theorem c_X9_lay_57 (l : Launch) {X : XT} (hX : Lok X) (g : Mem) (a0 : Int32) (hI : Inv g) (h_a0 : 0 ≤ a0.toInt ∧ a0.toInt ≤ 0) : Ctr l X yX9_lay cX9_lay 4 none (rmD 0) [.ref (aL X 34), .ref (aL X 57), .int a0] g (pV (fun g2 => Inv g2 ∧ Kq [57] [] g g2)) := by
  refine Ctr.of (lv := [(0, .ref (aL X 34)), (1, .ref (aL X 57)), (2, .int a0)]) hX (by decide) rfl (Nat.le_of_ble_eq_true rfl) ?_
  intro p e s m below meth c C
  refine m_iconst C (0 : Int32) dX9_lay_0 (by decide) ?_
  refine m_istore_n C [(3, .int (0 : Int32)), (0, .ref (aL X 34)), (1, .ref (aL X 57)), (2, .int a0)] dX9_lay_1 (by decide) rfl ?_
  have L2 : ∀ (n2 : Nat) (x2 : Int32) (g3 : Mem), (33 - x2.toInt).toNat < n2 → Inv g3 → Kq [57] [] g g3 → 0 ≤ x2.toInt ∧ x2.toInt ≤ 32 → Wm X p l e (rmD 0) s m ([.ref (aL X 34), .ref (aL X 57), .int a0] : List Value).toArray below meth c 4 0 0 (MQ below (cQ X (pV (fun g2 => Inv g2 ∧ Kq [57] [] g g2))) ([.ref (aL X 34), .ref (aL X 57), .int a0] : List Value).toArray s 0 0 (Ab X)) g3 2 [(0, .ref (aL X 34)), (1, .ref (aL X 57)), (2, .int a0), (3, .int x2)] [] := by
    intro n2
    induction n2 with
    | zero => intro x2 g3 hm; exact absurd hm (Nat.not_lt_zero _)
    | succ n2 ih2 =>
      intro x2 g3 hm2 hI4 hK5 i6
      obtain ⟨i6a, i6b⟩ := i6
      refine m_iload_n C dX9_lay_2 3 rfl ?_
      refine m_bipush C (32 : Int32) dX9_lay_3 (by decide) ?_
      refine m_icmp_ge C 25 dX9_lay_5 (by decide) (fun h7 => ?_) (fun h7 => ?_)
      · skip
        have th7 := i_le h7
        rw [show (32 : Int32).toInt = 32 by decide] at th7
        exact m_vret C dX9_lay_25 ⟨rfl, hI4, hK5⟩
      · skip
        have th7 := i_nle h7
        rw [show (32 : Int32).toInt = 32 by decide] at th7
        refine m_aload_n C dX9_lay_8 1 rfl ?_
        refine m_iload_n C dX9_lay_9 2 rfl ?_
        refine m_iload_n C dX9_lay_10 3 rfl ?_
        refine m_iadd C dX9_lay_11 ?_
        refine m_aload_n C dX9_lay_12 0 rfl ?_
        refine m_getr (rf := "") C 5 rfl gd9 (by decide) sh_34 rfl dX9_lay_13 lk_X9_22 ?_
        refine m_iload_n C dX9_lay_16 3 rfl ?_
        refine m_iald C sh_39 (i_in (by omega) (by omega)) dX9_lay_17 ?_
        have t8 : (a0 + x2).toInt = a0.toInt + x2.toInt := i_add rfl rfl (by omega) (by omega)
        refine m_iast C sh_57 (i_in (by omega) (by omega)) dX9_lay_18 ?_
        refine m_mem (fun g9 eg9 => ?_)
        have hI10 : Inv g9 := by rw [eg9]; exact hI4.up (ok_any (by decide))
        have hK11 : Kq [57] [] g g9 := by rw [eg9]; exact Kq.upA hK5 (by decide) (by decide)
        obtain ⟨x12, ex12⟩ : ∃ z : Int32, z = x2 + Int32.ofInt 1 := ⟨_, rfl⟩
        have t13 : (x2 + (Int32.ofInt 1)).toInt = x2.toInt + (1 : Int) := i_add rfl (by decide) (by omega) (by omega)
        have t14 : x12.toInt = (x2.toInt + (1 : Int)) := (congrArg Int32.toInt ex12).trans t13
        refine m_iinc C x12 [(3, .int x12), (0, .ref (aL X 34)), (1, .ref (aL X 57)), (2, .int a0)] dX9_lay_19 (q := 3) rfl ex12.symm (by decide) rfl ?_
        refine m_goto C 2 dX9_lay_22 (by decide) ?_
        refine m_lv [1, 2, 3, 0] rfl ?_
        exact ih2 x12 g9 (by omega) hI10 hK11 (by omega)
  have t15 : (0 : Int32).toInt = 0 := by decide
  refine m_lv [1, 2, 3, 0] rfl ?_
  exact L2 (((33 - (0 : Int32).toInt).toNat) + 1) (0 : Int32) g (Nat.lt_succ_self _) hI Kq.rf (by omega)
set_option maxRecDepth 20000 in
set_option maxHeartbeats 4000000 in
theorem c_X9_lay_58 (l : Launch) {X : XT} (hX : Lok X) (g : Mem) (a0 : Int32) (hI : Inv g) (h_a0 : 0 ≤ a0.toInt ∧ a0.toInt ≤ 0) : Ctr l X yX9_lay cX9_lay 4 none (rmD 0) [.ref (aL X 34), .ref (aL X 58), .int a0] g (pV (fun g2 => Inv g2 ∧ Kq [58] [] g g2)) := by
  refine Ctr.of (lv := [(0, .ref (aL X 34)), (1, .ref (aL X 58)), (2, .int a0)]) hX (by decide) rfl (Nat.le_of_ble_eq_true rfl) ?_
  intro p e s m below meth c C
  refine m_iconst C (0 : Int32) dX9_lay_0 (by decide) ?_
  refine m_istore_n C [(3, .int (0 : Int32)), (0, .ref (aL X 34)), (1, .ref (aL X 58)), (2, .int a0)] dX9_lay_1 (by decide) rfl ?_
  have L2 : ∀ (n2 : Nat) (x2 : Int32) (g3 : Mem), (33 - x2.toInt).toNat < n2 → Inv g3 → Kq [58] [] g g3 → 0 ≤ x2.toInt ∧ x2.toInt ≤ 32 → Wm X p l e (rmD 0) s m ([.ref (aL X 34), .ref (aL X 58), .int a0] : List Value).toArray below meth c 4 0 0 (MQ below (cQ X (pV (fun g2 => Inv g2 ∧ Kq [58] [] g g2))) ([.ref (aL X 34), .ref (aL X 58), .int a0] : List Value).toArray s 0 0 (Ab X)) g3 2 [(0, .ref (aL X 34)), (1, .ref (aL X 58)), (2, .int a0), (3, .int x2)] [] := by
    intro n2
    induction n2 with
    | zero => intro x2 g3 hm; exact absurd hm (Nat.not_lt_zero _)
    | succ n2 ih2 =>
      intro x2 g3 hm2 hI4 hK5 i6
      obtain ⟨i6a, i6b⟩ := i6
      refine m_iload_n C dX9_lay_2 3 rfl ?_
      refine m_bipush C (32 : Int32) dX9_lay_3 (by decide) ?_
      refine m_icmp_ge C 25 dX9_lay_5 (by decide) (fun h7 => ?_) (fun h7 => ?_)
      · skip
        have th7 := i_le h7
        rw [show (32 : Int32).toInt = 32 by decide] at th7
        exact m_vret C dX9_lay_25 ⟨rfl, hI4, hK5⟩
      · skip
        have th7 := i_nle h7
        rw [show (32 : Int32).toInt = 32 by decide] at th7
        refine m_aload_n C dX9_lay_8 1 rfl ?_
        refine m_iload_n C dX9_lay_9 2 rfl ?_
        refine m_iload_n C dX9_lay_10 3 rfl ?_
        refine m_iadd C dX9_lay_11 ?_
        refine m_aload_n C dX9_lay_12 0 rfl ?_
        refine m_getr (rf := "") C 5 rfl gd9 (by decide) sh_34 rfl dX9_lay_13 lk_X9_22 ?_
        refine m_iload_n C dX9_lay_16 3 rfl ?_
        refine m_iald C sh_39 (i_in (by omega) (by omega)) dX9_lay_17 ?_
        have t8 : (a0 + x2).toInt = a0.toInt + x2.toInt := i_add rfl rfl (by omega) (by omega)
        refine m_iast C sh_58 (i_in (by omega) (by omega)) dX9_lay_18 ?_
        refine m_mem (fun g9 eg9 => ?_)
        have hI10 : Inv g9 := by rw [eg9]; exact hI4.up (ok_any (by decide))
        have hK11 : Kq [58] [] g g9 := by rw [eg9]; exact Kq.upA hK5 (by decide) (by decide)
        obtain ⟨x12, ex12⟩ : ∃ z : Int32, z = x2 + Int32.ofInt 1 := ⟨_, rfl⟩
        have t13 : (x2 + (Int32.ofInt 1)).toInt = x2.toInt + (1 : Int) := i_add rfl (by decide) (by omega) (by omega)
        have t14 : x12.toInt = (x2.toInt + (1 : Int)) := (congrArg Int32.toInt ex12).trans t13
        refine m_iinc C x12 [(3, .int x12), (0, .ref (aL X 34)), (1, .ref (aL X 58)), (2, .int a0)] dX9_lay_19 (q := 3) rfl ex12.symm (by decide) rfl ?_
        refine m_goto C 2 dX9_lay_22 (by decide) ?_
        refine m_lv [1, 2, 3, 0] rfl ?_
        exact ih2 x12 g9 (by omega) hI10 hK11 (by omega)
  have t15 : (0 : Int32).toInt = 0 := by decide
  refine m_lv [1, 2, 3, 0] rfl ?_
  exact L2 (((33 - (0 : Int32).toInt).toNat) + 1) (0 : Int32) g (Nat.lt_succ_self _) hI Kq.rf (by omega)
set_option maxRecDepth 20000 in
set_option maxHeartbeats 4000000 in
theorem c_X9_at (l : Launch) {X : XT} (hX : Lok X) (g : Mem) (pt : Int32) (o : Int32) (q : Int32) (hI : Inv g) (hp : (0 ≤ pt.toInt ∧ pt.toInt ≤ 11) ∨ (16 ≤ pt.toInt ∧ pt.toInt ≤ 19)) (h_o : 0 ≤ o.toInt ∧ o.toInt ≤ 15) (h_q : 0 ≤ q.toInt ∧ q.toInt ≤ 3) : Ctr l X yX9_at cX9_at 3 (some .int) (rmD 0) [.int pt, .int o, .int q] g (pI (fun r g2 => g2 = g ∧ 0 ≤ r.toInt ∧ r.toInt ≤ 1023)) := by
  refine Ctr.of (lv := [(0, .int pt), (1, .int o), (2, .int q)]) hX (by decide) rfl (Nat.le_of_ble_eq_true rfl) ?_
  intro p e s m below meth c C
  refine m_bipush C (64 : Int32) dX9_at_0 (by decide) ?_
  refine m_iload_n C dX9_at_2 0 rfl ?_
  refine m_bipush C (12 : Int32) dX9_at_3 (by decide) ?_
  refine m_icmp_ge C 12 dX9_at_5 (by decide) (fun h1 => ?_) (fun h1 => ?_)
  · skip
    have th1 := i_le h1
    rw [show (12 : Int32).toInt = 12 by decide] at th1
    refine m_iload_n C dX9_at_12 0 rfl ?_
    refine m_iconst C (4 : Int32) dX9_at_13 (by decide) ?_
    refine m_isub C dX9_at_14 ?_
    refine m_imul C dX9_at_15 ?_
    refine m_iconst C (4 : Int32) dX9_at_16 (by decide) ?_
    refine m_iload_n C dX9_at_17 1 rfl ?_
    refine m_imul C dX9_at_18 ?_
    refine m_iadd C dX9_at_19 ?_
    refine m_iload_n C dX9_at_20 2 rfl ?_
    refine m_iadd C dX9_at_21 ?_
    have t2 : (pt - (4 : Int32)).toInt = pt.toInt - (4 : Int) := i_sub rfl (by decide) (by omega) (by omega)
    have t3 : ((64 : Int32) * (pt - (4 : Int32))).toInt = (64 : Int) * (pt.toInt - (4 : Int)) := i_mul (by decide) t2 (by omega) (by omega)
    have t4 : ((4 : Int32) * o).toInt = (4 : Int) * o.toInt := i_mul (by decide) rfl (by omega) (by omega)
    have t5 : (((64 : Int32) * (pt - (4 : Int32))) + ((4 : Int32) * o)).toInt = ((64 : Int) * (pt.toInt - (4 : Int))) + ((4 : Int) * o.toInt) := i_add t3 t4 (by omega) (by omega)
    have t6 : ((((64 : Int32) * (pt - (4 : Int32))) + ((4 : Int32) * o)) + q).toInt = (((64 : Int) * (pt.toInt - (4 : Int))) + ((4 : Int) * o.toInt)) + q.toInt := i_add t5 rfl (by omega) (by omega)
    exact m_iret C dX9_at_22 ⟨_, rfl, rfl, (by omega)⟩
  · skip
    have th1 := i_nle h1
    rw [show (12 : Int32).toInt = 12 by decide] at th1
    refine m_iload_n C dX9_at_8 0 rfl ?_
    refine m_goto C 15 dX9_at_9 (by decide) ?_
    refine m_imul C dX9_at_15 ?_
    refine m_iconst C (4 : Int32) dX9_at_16 (by decide) ?_
    refine m_iload_n C dX9_at_17 1 rfl ?_
    refine m_imul C dX9_at_18 ?_
    refine m_iadd C dX9_at_19 ?_
    refine m_iload_n C dX9_at_20 2 rfl ?_
    refine m_iadd C dX9_at_21 ?_
    have t7 : ((64 : Int32) * pt).toInt = (64 : Int) * pt.toInt := i_mul (by decide) rfl (by omega) (by omega)
    have t8 : ((4 : Int32) * o).toInt = (4 : Int) * o.toInt := i_mul (by decide) rfl (by omega) (by omega)
    have t9 : (((64 : Int32) * pt) + ((4 : Int32) * o)).toInt = ((64 : Int) * pt.toInt) + ((4 : Int) * o.toInt) := i_add t7 t8 (by omega) (by omega)
    have t10 : ((((64 : Int32) * pt) + ((4 : Int32) * o)) + q).toInt = (((64 : Int) * pt.toInt) + ((4 : Int) * o.toInt)) + q.toInt := i_add t9 rfl (by omega) (by omega)
    exact m_iret C dX9_at_22 ⟨_, rfl, rfl, (by omega)⟩
set_option maxRecDepth 20000 in
set_option maxHeartbeats 4000000 in
theorem c_X9_entriesNow (l : Launch) {X : XT} (hX : Lok X) (g : Mem)  (hI : Inv g) : Ctr l X yX9_entriesNow cX9_entriesNow 1 (some .int) (rmD 0) [.ref (aL X 34)] g (pI (fun r g2 => g2 = g ∧ 0 ≤ r.toInt ∧ r.toInt ≤ (g 34 16).toInt ∧ (g 34 16).toInt ≤ 60)) := by
  refine Ctr.of (lv := [(0, .ref (aL X 34))]) hX (by decide) rfl (Nat.le_of_ble_eq_true rfl) ?_
  intro p e s m below meth c C
  refine m_aload_n C dX9_entriesNow_0 0 rfl ?_
  refine m_geti (rf := "") C 17 rfl gd9 (by decide) sh_34 rfl dX9_entriesNow_1 lk_X9_206 ?_
  refine m_if_eq C 11 dX9_entriesNow_4 (by decide) (fun h1 => ?_) (fun h1 => ?_)
  · skip
    have th1 := i_eq h1
    rw [show (0 : Int32).toInt = 0 by decide] at th1
    refine m_aload_n C dX9_entriesNow_11 0 rfl ?_
    refine m_geti (rf := "") C 16 rfl gd9 (by decide) sh_34 rfl dX9_entriesNow_12 lk_X9_210 ?_
    have r2 := iv_many hI
    exact m_iret C dX9_entriesNow_15 ⟨_, rfl, rfl, (by have h1 := iv_many hI; have h2 : (0 : Int32).toInt = 0 := (by decide); omega)⟩
  · skip
    have th1 := i_ne h1
    rw [show (0 : Int32).toInt = 0 by decide] at th1
    refine m_iconst C (0 : Int32) dX9_entriesNow_7 (by decide) ?_
    refine m_goto C 15 dX9_entriesNow_8 (by decide) ?_
    exact m_iret C dX9_entriesNow_15 ⟨_, rfl, rfl, (by have h1 := iv_many hI; have h2 : (0 : Int32).toInt = 0 := (by decide); omega)⟩
set_option maxRecDepth 20000 in
set_option maxHeartbeats 4000000 in
theorem c_X9_bars (l : Launch) {X : XT} (hX : Lok X) (g : Mem)  (hI : Inv g) : Ctr l X yX9_bars cX9_bars 1 (some .int) (rmD 0) [.ref (aL X 34)] g (pI (fun r g2 => g2 = g ∧ (r.toInt < 0 ∨ (g 34 16).toInt ≤ 59))) := by
  refine Ctr.of (lv := [(0, .ref (aL X 34))]) hX (by decide) rfl (Nat.le_of_ble_eq_true rfl) ?_
  intro p e s m below meth c C
  refine m_aload_n C dX9_bars_0 0 rfl ?_
  refine m_geti (rf := "") C 17 rfl gd9 (by decide) sh_34 rfl dX9_bars_1 lk_X9_206 ?_
  refine m_if_eq C 12 dX9_bars_4 (by decide) (fun h1 => ?_) (fun h1 => ?_)
  · skip
    have th1 := i_eq h1
    rw [show (0 : Int32).toInt = 0 by decide] at th1
    refine m_aload_n C dX9_bars_12 0 rfl ?_
    refine m_geti (rf := "") C 16 rfl gd9 (by decide) sh_34 rfl dX9_bars_13 lk_X9_210 ?_
    have r2 := iv_many hI
    refine m_bipush C (60 : Int32) dX9_bars_16 (by decide) ?_
    refine m_icmp_ne C 26 dX9_bars_18 (by decide) (fun h3 => ?_) (fun h3 => ?_)
    · skip
      have th3 := i_ne h3
      rw [show (60 : Int32).toInt = 60 by decide] at th3
      refine m_iconst C (0 : Int32) dX9_bars_26 (by decide) ?_
      exact m_iret C dX9_bars_27 ⟨_, rfl, rfl, (by first | exact Or.inl (by decide) | exact Or.inr (by have h1 := iv_many hI; omega))⟩
    · skip
      have th3 := i_eq h3
      rw [show (60 : Int32).toInt = 60 by decide] at th3
      refine m_bipush C (-4 : Int32) dX9_bars_21 (by decide) ?_
      refine m_goto C 27 dX9_bars_23 (by decide) ?_
      exact m_iret C dX9_bars_27 ⟨_, rfl, rfl, (by first | exact Or.inl (by decide) | exact Or.inr (by have h1 := iv_many hI; omega))⟩
  · skip
    have th1 := i_ne h1
    rw [show (0 : Int32).toInt = 0 by decide] at th1
    refine m_bipush C (-3 : Int32) dX9_bars_7 (by decide) ?_
    refine m_goto C 27 dX9_bars_9 (by decide) ?_
    exact m_iret C dX9_bars_27 ⟨_, rfl, rfl, (by first | exact Or.inl (by decide) | exact Or.inr (by have h1 := iv_many hI; omega))⟩
set_option maxRecDepth 20000 in
set_option maxHeartbeats 4000000 in
theorem c_X9_goOn (l : Launch) {X : XT} (hX : Lok X) (g : Mem) (i0 : Int32) (hI : Inv g) (h_i0 : 0 ≤ i0.toInt ∧ i0.toInt ≤ 59) : Ctr l X yX9_goOn cX9_goOn 2 none (rmD 3) [.ref (aL X 34), .int i0] g (pV (fun g2 => Inv g2 ∧ Kq [36, 37, 38, 39, 48] [4] g g2)) := by
  refine Ctr.of (lv := [(0, .ref (aL X 34)), (1, .int i0)]) hX (by decide) rfl (Nat.le_of_ble_eq_true rfl) ?_
  intro p e s m below meth c C
  refine m_aload_n C dX9_goOn_0 0 rfl ?_
  refine m_invV C cal_X9_begin sh_34 rfl (c_X9_begin l hX g  hI) lk_X9_173 im_X9_begin se_X9_begin (by decide) rfl rfl (Nat.le_of_ble_eq_true rfl) dX9_goOn_1 ⟨Nat.le_refl _, Nat.le_refl _⟩ (rV fun g2 q3 => ?_)
  obtain ⟨hI4, hK5, p6⟩ := q3
  have hK7 : Kq [36, 37, 38, 39, 48] [4] g g2 := (Kq.rf).tr hK5 (by decide) (by decide)
  refine m_aload_n C dX9_goOn_4 0 rfl ?_
  refine m_aload_n C dX9_goOn_5 0 rfl ?_
  refine m_getr (rf := "") C 19 rfl gd9 (by decide) sh_34 rfl dX9_goOn_6 lk_X9_50 ?_
  refine m_bipush C (32 : Int32) dX9_goOn_9 (by decide) ?_
  refine m_iload_n C dX9_goOn_11 1 rfl ?_
  refine m_imul C dX9_goOn_12 ?_
  refine m_bipush C (32 : Int32) dX9_goOn_13 (by decide) ?_
  have t8 : ((32 : Int32) * i0).toInt = (32 : Int) * i0.toInt := i_mul (by decide) rfl (by omega) (by omega)
  have t9 : (32 : Int32).toInt = 32 := by decide
  refine m_invV C cal_X9_putAll sh_34 rfl (c_X9_putAll_48 l hX g2 ((32 : Int32) * i0) (32 : Int32) hI4 (by omega) (by omega) (by omega) (by omega)) lk_X9_176 im_X9_putAll se_X9_putAll (by decide) rfl rfl (Nat.le_of_ble_eq_true rfl) dX9_goOn_15 ⟨Nat.le_refl _, Nat.le_refl _⟩ (rV fun g11 q12 => ?_)
  obtain ⟨hI13, hK14, p15⟩ := q12
  have hK16 : Kq [36, 37, 38, 39, 48] [4] g g11 := (hK7).tr hK14 (by decide) (by decide)
  refine m_aload_n C dX9_goOn_18 0 rfl ?_
  refine m_aload_n C dX9_goOn_19 0 rfl ?_
  refine m_getr (rf := "") C 18 rfl gd9 (by decide) sh_34 rfl dX9_goOn_20 lk_X9_47 ?_
  refine m_bipush C (12 : Int32) dX9_goOn_23 (by decide) ?_
  refine m_iload_n C dX9_goOn_25 1 rfl ?_
  refine m_imul C dX9_goOn_26 ?_
  refine m_bipush C (12 : Int32) dX9_goOn_27 (by decide) ?_
  have t17 : ((12 : Int32) * i0).toInt = (12 : Int) * i0.toInt := i_mul (by decide) rfl (by omega) (by omega)
  have t18 : (12 : Int32).toInt = 12 := by decide
  refine m_invV C cal_X9_putAll sh_34 rfl (c_X9_putAll_47 l hX g11 ((12 : Int32) * i0) (12 : Int32) hI13 (by omega) (by omega) (by omega) (by omega)) lk_X9_176 im_X9_putAll se_X9_putAll (by decide) rfl rfl (Nat.le_of_ble_eq_true rfl) dX9_goOn_29 ⟨Nat.le_refl _, Nat.le_refl _⟩ (rV fun g20 q21 => ?_)
  obtain ⟨hI22, hK23, p24⟩ := q21
  have hK25 : Kq [36, 37, 38, 39, 48] [4] g g20 := (hK16).tr hK23 (by decide) (by decide)
  refine m_aload_n C dX9_goOn_32 0 rfl ?_
  refine m_invV C cal_X9_end sh_34 rfl (c_X9_end l hX g20  hI22 (by omega)) lk_X9_180 im_X9_end se_X9_end (by decide) rfl rfl (Nat.le_of_ble_eq_true rfl) dX9_goOn_33 ⟨Nat.le_refl _, Nat.le_refl _⟩ (rV fun g27 q28 => ?_)
  obtain ⟨hI29, hK30⟩ := q28
  have hK31 : Kq [36, 37, 38, 39, 48] [4] g g27 := (hK25).tr hK30 (by decide) (by decide)
  refine m_aload_n C dX9_goOn_36 0 rfl ?_
  refine m_aload_n C dX9_goOn_37 0 rfl ?_
  refine m_getr (rf := "") C 19 rfl gd9 (by decide) sh_34 rfl dX9_goOn_38 lk_X9_50 ?_
  refine m_bipush C (32 : Int32) dX9_goOn_41 (by decide) ?_
  refine m_iload_n C dX9_goOn_43 1 rfl ?_
  refine m_imul C dX9_goOn_44 ?_
  refine m_bipush C (32 : Int32) dX9_goOn_45 (by decide) ?_
  refine m_iadd C dX9_goOn_47 ?_
  have t32 : ((32 : Int32) * i0).toInt = (32 : Int) * i0.toInt := i_mul (by decide) rfl (by omega) (by omega)
  have t33 : (((32 : Int32) * i0) + (32 : Int32)).toInt = ((32 : Int) * i0.toInt) + (32 : Int) := i_add t32 (by decide) (by omega) (by omega)
  refine m_invV C cal_X9_lay sh_34 rfl (c_X9_lay_48 l hX g27 (((32 : Int32) * i0) + (32 : Int32)) hI29 (by omega)) lk_X9_213 im_X9_lay se_X9_lay (by decide) rfl rfl (Nat.le_of_ble_eq_true rfl) dX9_goOn_48 ⟨Nat.le_refl _, Nat.le_refl _⟩ (rV fun g35 q36 => ?_)
  obtain ⟨hI37, hK38⟩ := q36
  have hK39 : Kq [36, 37, 38, 39, 48] [4] g g35 := (hK31).tr hK38 (by decide) (by decide)
  exact m_vret C dX9_goOn_51 ⟨rfl, hI37, hK39⟩
set_option maxRecDepth 20000 in
set_option maxHeartbeats 4000000 in
theorem c_X9_comes (l : Launch) {X : XT} (hX : Lok X) (g : Mem) (a : Int32) (b : Int32) (q : Int32) (u : Int32) (v : Int32) (hI : Inv g) (hm : (g 34 16).toInt ≤ 59) : Ctr l X yX9_comes cX9_comes 9 none (rmD 4) [.ref (aL X 34), .int a, .int b, .int q, .int u, .int v] g (pV (fun g2 => Inv g2 ∧ Kq [36, 37, 38, 39, 47, 48, 49] [4, 16, 20] g g2)) := by
  refine Ctr.of (lv := [(0, .ref (aL X 34)), (1, .int a), (2, .int b), (3, .int q), (4, .int u), (5, .int v)]) hX (by decide) rfl (Nat.le_of_ble_eq_true rfl) ?_
  intro p e s m below meth c C
  refine m_bipush C (12 : Int32) dX9_comes_0 (by decide) ?_
  refine m_aload_n C dX9_comes_2 0 rfl ?_
  refine m_geti (rf := "") C 16 rfl gd9 (by decide) sh_34 rfl dX9_comes_3 lk_X9_210 ?_
  have r1 := iv_many hI
  refine m_imul C dX9_comes_6 ?_
  refine m_name (fun x2 ex2 => ?_)
  have t3 : ((12 : Int32) * (g 34 16)).toInt = (12 : Int) * (g 34 16).toInt := i_mul (by decide) rfl (by omega) (by omega)
  have t4 : x2.toInt = ((12 : Int) * (g 34 16).toInt) := (congrArg Int32.toInt ex2).trans t3
  refine m_istore C [(6, .int x2), (0, .ref (aL X 34)), (1, .int a), (2, .int b), (3, .int q), (4, .int u), (5, .int v)] dX9_comes_7 (by decide) rfl ?_
  refine m_aload_n C dX9_comes_9 1 rfl ?_
  refine m_getr (rf := "") C 18 rfl gd9 (by decide) sh_34 rfl dX9_comes_10 lk_X9_47 ?_
  refine m_iload C dX9_comes_13 0 rfl ?_
  refine m_aload_n C dX9_comes_15 1 rfl ?_
  refine m_geti (rf := "") C 16 rfl gd9 (by decide) sh_34 rfl dX9_comes_16 lk_X9_210 ?_
  have r5 := iv_many hI
  refine m_bipush C (8 : Int32) dX9_comes_19 (by decide) ?_
  refine m_ishr C dX9_comes_21 ?_
  have t6 : ((g 34 16) >>> ((8 : Int32) &&& 31)).toInt = (g 34 16).toInt / 256 := i_shr rfl 8 (by decide)
  refine m_iast C sh_47 (i_in (by omega) (by omega)) dX9_comes_22 ?_
  refine m_mem (fun g7 eg7 => ?_)
  have hI8 : Inv g7 := by rw [eg7]; exact hI.up (ok_any (by decide))
  have hK9 : Kq [36, 37, 38, 39, 47, 48, 49] [4, 16, 20] g g7 := by rw [eg7]; exact Kq.upA Kq.rf (by decide) (by decide)
  have ev10 : g7 34 16 = g 34 16 := by rw [eg7]; exact up2_nei (Or.inl (by decide))
  have tev10 := congrArg Int32.toInt ev10
  refine m_aload_n C dX9_comes_23 1 rfl ?_
  refine m_getr (rf := "") C 18 rfl gd9 (by decide) sh_34 rfl dX9_comes_24 lk_X9_47 ?_
  refine m_iload C dX9_comes_27 0 rfl ?_
  refine m_iconst C (1 : Int32) dX9_comes_29 (by decide) ?_
  refine m_iadd C dX9_comes_30 ?_
  refine m_aload_n C dX9_comes_31 1 rfl ?_
  refine m_geti (rf := "") C 16 rfl gd9 (by decide) sh_34 rfl dX9_comes_32 lk_X9_210 ?_
  have r11 := iv_many hI8
  refine m_sipush C (255 : Int32) dX9_comes_35 (by decide) ?_
  refine m_iand C dX9_comes_38 ?_
  have t12 : (x2 + (1 : Int32)).toInt = x2.toInt + (1 : Int) := i_add rfl (by decide) (by omega) (by omega)
  have t13 : 0 ≤ ((g7 34 16) &&& (255 : Int32)).toInt ∧ ((g7 34 16) &&& (255 : Int32)).toInt < 256 := i_and _ 8 (by decide) (by decide)
  refine m_iast C sh_47 (i_in (by omega) (by omega)) dX9_comes_39 ?_
  refine m_mem (fun g14 eg14 => ?_)
  have hI15 : Inv g14 := by rw [eg14]; exact hI8.up (ok_any (by decide))
  have hK16 : Kq [36, 37, 38, 39, 47, 48, 49] [4, 16, 20] g g14 := by rw [eg14]; exact Kq.upA hK9 (by decide) (by decide)
  have ev17 : g14 34 16 = g7 34 16 := by rw [eg14]; exact up2_nei (Or.inl (by decide))
  have tev17 := congrArg Int32.toInt ev17
  refine m_aload_n C dX9_comes_40 1 rfl ?_
  refine m_getr (rf := "") C 18 rfl gd9 (by decide) sh_34 rfl dX9_comes_41 lk_X9_47 ?_
  refine m_iload C dX9_comes_44 0 rfl ?_
  refine m_iconst C (2 : Int32) dX9_comes_46 (by decide) ?_
  refine m_iadd C dX9_comes_47 ?_
  refine m_iload_n C dX9_comes_48 2 rfl ?_
  have t18 : (x2 + (2 : Int32)).toInt = x2.toInt + (2 : Int) := i_add rfl (by decide) (by omega) (by omega)
  refine m_iast C sh_47 (i_in (by omega) (by omega)) dX9_comes_49 ?_
  refine m_mem (fun g19 eg19 => ?_)
  have hI20 : Inv g19 := by rw [eg19]; exact hI15.up (ok_any (by decide))
  have hK21 : Kq [36, 37, 38, 39, 47, 48, 49] [4, 16, 20] g g19 := by rw [eg19]; exact Kq.upA hK16 (by decide) (by decide)
  have ev22 : g19 34 16 = g14 34 16 := by rw [eg19]; exact up2_nei (Or.inl (by decide))
  have tev22 := congrArg Int32.toInt ev22
  refine m_aload_n C dX9_comes_50 1 rfl ?_
  refine m_getr (rf := "") C 18 rfl gd9 (by decide) sh_34 rfl dX9_comes_51 lk_X9_47 ?_
  refine m_iload C dX9_comes_54 0 rfl ?_
  refine m_iconst C (3 : Int32) dX9_comes_56 (by decide) ?_
  refine m_iadd C dX9_comes_57 ?_
  refine m_iload_n C dX9_comes_58 3 rfl ?_
  have t23 : (x2 + (3 : Int32)).toInt = x2.toInt + (3 : Int) := i_add rfl (by decide) (by omega) (by omega)
  refine m_iast C sh_47 (i_in (by omega) (by omega)) dX9_comes_59 ?_
  refine m_mem (fun g24 eg24 => ?_)
  have hI25 : Inv g24 := by rw [eg24]; exact hI20.up (ok_any (by decide))
  have hK26 : Kq [36, 37, 38, 39, 47, 48, 49] [4, 16, 20] g g24 := by rw [eg24]; exact Kq.upA hK21 (by decide) (by decide)
  have ev27 : g24 34 16 = g19 34 16 := by rw [eg24]; exact up2_nei (Or.inl (by decide))
  have tev27 := congrArg Int32.toInt ev27
  refine m_aload_n C dX9_comes_60 1 rfl ?_
  refine m_getr (rf := "") C 18 rfl gd9 (by decide) sh_34 rfl dX9_comes_61 lk_X9_47 ?_
  refine m_iload C dX9_comes_64 0 rfl ?_
  refine m_iconst C (4 : Int32) dX9_comes_66 (by decide) ?_
  refine m_iadd C dX9_comes_67 ?_
  refine m_iload_n C dX9_comes_68 4 rfl ?_
  have t28 : (x2 + (4 : Int32)).toInt = x2.toInt + (4 : Int) := i_add rfl (by decide) (by omega) (by omega)
  refine m_iast C sh_47 (i_in (by omega) (by omega)) dX9_comes_69 ?_
  refine m_mem (fun g29 eg29 => ?_)
  have hI30 : Inv g29 := by rw [eg29]; exact hI25.up (ok_any (by decide))
  have hK31 : Kq [36, 37, 38, 39, 47, 48, 49] [4, 16, 20] g g29 := by rw [eg29]; exact Kq.upA hK26 (by decide) (by decide)
  have ev32 : g29 34 16 = g24 34 16 := by rw [eg29]; exact up2_nei (Or.inl (by decide))
  have tev32 := congrArg Int32.toInt ev32
  refine m_aload_n C dX9_comes_70 1 rfl ?_
  refine m_getr (rf := "") C 18 rfl gd9 (by decide) sh_34 rfl dX9_comes_71 lk_X9_47 ?_
  refine m_iload C dX9_comes_74 0 rfl ?_
  refine m_iconst C (5 : Int32) dX9_comes_76 (by decide) ?_
  refine m_iadd C dX9_comes_77 ?_
  refine m_iload C dX9_comes_78 5 rfl ?_
  have t33 : (x2 + (5 : Int32)).toInt = x2.toInt + (5 : Int) := i_add rfl (by decide) (by omega) (by omega)
  refine m_iast C sh_47 (i_in (by omega) (by omega)) dX9_comes_80 ?_
  refine m_mem (fun g34 eg34 => ?_)
  have hI35 : Inv g34 := by rw [eg34]; exact hI30.up (ok_any (by decide))
  have hK36 : Kq [36, 37, 38, 39, 47, 48, 49] [4, 16, 20] g g34 := by rw [eg34]; exact Kq.upA hK31 (by decide) (by decide)
  have ev37 : g34 34 16 = g29 34 16 := by rw [eg34]; exact up2_nei (Or.inl (by decide))
  have tev37 := congrArg Int32.toInt ev37
  refine m_aload_n C dX9_comes_81 1 rfl ?_
  refine m_getr (rf := "") C 18 rfl gd9 (by decide) sh_34 rfl dX9_comes_82 lk_X9_47 ?_
  refine m_iload C dX9_comes_85 0 rfl ?_
  refine m_bipush C (6 : Int32) dX9_comes_87 (by decide) ?_
  refine m_iadd C dX9_comes_89 ?_
  refine m_iload C dX9_comes_90 6 rfl ?_
  have t38 : (x2 + (6 : Int32)).toInt = x2.toInt + (6 : Int) := i_add rfl (by decide) (by omega) (by omega)
  refine m_iast C sh_47 (i_in (by omega) (by omega)) dX9_comes_92 ?_
  refine m_mem (fun g39 eg39 => ?_)
  have hI40 : Inv g39 := by rw [eg39]; exact hI35.up (ok_any (by decide))
  have hK41 : Kq [36, 37, 38, 39, 47, 48, 49] [4, 16, 20] g g39 := by rw [eg39]; exact Kq.upA hK36 (by decide) (by decide)
  have ev42 : g39 34 16 = g34 34 16 := by rw [eg39]; exact up2_nei (Or.inl (by decide))
  have tev42 := congrArg Int32.toInt ev42
  refine m_aload_n C dX9_comes_93 1 rfl ?_
  refine m_getr (rf := "") C 18 rfl gd9 (by decide) sh_34 rfl dX9_comes_94 lk_X9_47 ?_
  refine m_iload C dX9_comes_97 0 rfl ?_
  refine m_bipush C (7 : Int32) dX9_comes_99 (by decide) ?_
  refine m_iadd C dX9_comes_101 ?_
  refine m_sipush C (165 : Int32) dX9_comes_102 (by decide) ?_
  have t43 : (x2 + (7 : Int32)).toInt = x2.toInt + (7 : Int) := i_add rfl (by decide) (by omega) (by omega)
  refine m_iast C sh_47 (i_in (by omega) (by omega)) dX9_comes_105 ?_
  refine m_mem (fun g44 eg44 => ?_)
  have hI45 : Inv g44 := by rw [eg44]; exact hI40.up (ok_any (by decide))
  have hK46 : Kq [36, 37, 38, 39, 47, 48, 49] [4, 16, 20] g g44 := by rw [eg44]; exact Kq.upA hK41 (by decide) (by decide)
  have ev47 : g44 34 16 = g39 34 16 := by rw [eg44]; exact up2_nei (Or.inl (by decide))
  have tev47 := congrArg Int32.toInt ev47
  refine m_iconst C (0 : Int32) dX9_comes_106 (by decide) ?_
  refine m_istore C [(7, .int (0 : Int32)), (6, .int x2), (0, .ref (aL X 34)), (1, .int a), (2, .int b), (3, .int q), (4, .int u), (5, .int v)] dX9_comes_107 (by decide) rfl ?_
  have L109 : ∀ (n109 : Nat) (x49 : Int32) (g50 : Mem), (5 - x49.toInt).toNat < n109 → Inv g50 → Kq [36, 37, 38, 39, 47, 48, 49] [4, 16, 20] g g50 → 0 ≤ x49.toInt ∧ x49.toInt ≤ 4 → (g50 34 16).toInt = (g 34 16).toInt → Wm X p l e (rmD 4) s m ([.ref (aL X 34), .int a, .int b, .int q, .int u, .int v] : List Value).toArray below meth c 9 0 0 (MQ below (cQ X (pV (fun g2 => Inv g2 ∧ Kq [36, 37, 38, 39, 47, 48, 49] [4, 16, 20] g g2))) ([.ref (aL X 34), .int a, .int b, .int q, .int u, .int v] : List Value).toArray s 0 0 (Ab X)) g50 109 [(0, .ref (aL X 34)), (1, .int a), (2, .int b), (3, .int q), (4, .int u), (5, .int v), (6, .int x2), (7, .int x49)] [] := by
    intro n109
    induction n109 with
    | zero => intro x49 g50 hm; exact absurd hm (Nat.not_lt_zero _)
    | succ n109 ih109 =>
      intro x49 g50 hm109 hI51 hK52 i53 i54
      obtain ⟨i53a, i53b⟩ := i53
      refine m_iload C dX9_comes_109 7 rfl ?_
      refine m_iconst C (4 : Int32) dX9_comes_111 (by decide) ?_
      refine m_icmp_ge C 151 dX9_comes_112 (by decide) (fun h55 => ?_) (fun h55 => ?_)
      · skip
        have th55 := i_le h55
        rw [show (4 : Int32).toInt = 4 by decide] at th55
        refine m_aload_n C dX9_comes_151 0 rfl ?_
        refine m_aload_n C dX9_comes_152 0 rfl ?_
        refine m_geti (rf := "") C 16 rfl gd9 (by decide) sh_34 rfl dX9_comes_153 lk_X9_210 ?_
        have r56 := iv_many hI51
        refine m_invV C cal_X9_goOn sh_34 rfl (c_X9_goOn l hX g50 (g50 34 16) hI51 (by omega)) lk_X9_217 im_X9_goOn se_X9_goOn (by decide) rfl rfl (Nat.le_of_ble_eq_true rfl) dX9_comes_156 ⟨Nat.le_refl _, Nat.le_refl _⟩ (rV fun g58 q59 => ?_)
        obtain ⟨hI60, hK61⟩ := q59
        have ev62 : g58 34 16 = g50 34 16 := hK61.2 16 (by decide)
        have tev62 := congrArg Int32.toInt ev62
        have hK63 : Kq [36, 37, 38, 39, 47, 48, 49] [4, 16, 20] g g58 := (hK52).tr hK61 (by decide) (by decide)
        refine m_bipush C (17 : Int32) dX9_comes_159 (by decide) ?_
        refine m_aload_n C dX9_comes_161 0 rfl ?_
        refine m_geti (rf := "") C 16 rfl gd9 (by decide) sh_34 rfl dX9_comes_162 lk_X9_210 ?_
        have r64 := iv_many hI60
        refine m_imul C dX9_comes_165 ?_
        refine m_name (fun x65 ex65 => ?_)
        have t66 : ((17 : Int32) * (g58 34 16)).toInt = (17 : Int) * (g58 34 16).toInt := i_mul (by decide) rfl (by omega) (by omega)
        have t67 : x65.toInt = ((17 : Int) * (g58 34 16).toInt) := (congrArg Int32.toInt ex65).trans t66
        refine m_istore C [(7, .int x65), (0, .ref (aL X 34)), (1, .int a), (2, .int b), (3, .int q), (4, .int u), (5, .int v), (6, .int x2)] dX9_comes_166 (by decide) rfl ?_
        refine m_aload_n C dX9_comes_168 1 rfl ?_
        refine m_getr (rf := "") C 22 rfl gd9 (by decide) sh_34 rfl dX9_comes_169 lk_X9_53 ?_
        refine m_iload C dX9_comes_172 0 rfl ?_
        refine m_bipush C (90 : Int32) dX9_comes_174 (by decide) ?_
        refine m_iast C sh_49 (i_in (by omega) (by omega)) dX9_comes_176 ?_
        refine m_mem (fun g68 eg68 => ?_)
        have hI69 : Inv g68 := by rw [eg68]; exact hI60.up (ok_any (by decide))
        have hK70 : Kq [36, 37, 38, 39, 47, 48, 49] [4, 16, 20] g g68 := by rw [eg68]; exact Kq.upA hK63 (by decide) (by decide)
        have ev71 : g68 34 16 = g58 34 16 := by rw [eg68]; exact up2_nei (Or.inl (by decide))
        have tev71 := congrArg Int32.toInt ev71
        refine m_iconst C (0 : Int32) dX9_comes_177 (by decide) ?_
        refine m_istore C [(8, .int (0 : Int32)), (7, .int x65), (0, .ref (aL X 34)), (1, .int a), (2, .int b), (3, .int q), (4, .int u), (5, .int v), (6, .int x2)] dX9_comes_178 (by decide) rfl ?_
        have L180 : ∀ (n180 : Nat) (x73 : Int32) (g74 : Mem), (13 - x73.toInt).toNat < n180 → Inv g74 → Kq [36, 37, 38, 39, 47, 48, 49] [4, 16, 20] g g74 → 0 ≤ x73.toInt ∧ x73.toInt ≤ 12 → (g74 34 16).toInt = (g 34 16).toInt → Wm X p l e (rmD 4) s m ([.ref (aL X 34), .int a, .int b, .int q, .int u, .int v] : List Value).toArray below meth c 9 0 0 (MQ below (cQ X (pV (fun g2 => Inv g2 ∧ Kq [36, 37, 38, 39, 47, 48, 49] [4, 16, 20] g g2))) ([.ref (aL X 34), .int a, .int b, .int q, .int u, .int v] : List Value).toArray s 0 0 (Ab X)) g74 180 [(0, .ref (aL X 34)), (1, .int a), (2, .int b), (3, .int q), (4, .int u), (5, .int v), (6, .int x2), (7, .int x65), (8, .int x73)] [] := by
          intro n180
          induction n180 with
          | zero => intro x73 g74 hm; exact absurd hm (Nat.not_lt_zero _)
          | succ n180 ih180 =>
            intro x73 g74 hm180 hI75 hK76 i77 i78
            obtain ⟨i77a, i77b⟩ := i77
            refine m_iload C dX9_comes_180 8 rfl ?_
            refine m_bipush C (12 : Int32) dX9_comes_182 (by decide) ?_
            refine m_icmp_ge C 215 dX9_comes_184 (by decide) (fun h79 => ?_) (fun h79 => ?_)
            · skip
              have th79 := i_le h79
              rw [show (12 : Int32).toInt = 12 by decide] at th79
              refine m_iconst C (0 : Int32) dX9_comes_215 (by decide) ?_
              refine m_istore C [(8, .int (0 : Int32)), (0, .ref (aL X 34)), (1, .int a), (2, .int b), (3, .int q), (4, .int u), (5, .int v), (6, .int x2), (7, .int x65)] dX9_comes_216 (by decide) rfl ?_
              have L218 : ∀ (n218 : Nat) (x81 : Int32) (g82 : Mem), (5 - x81.toInt).toNat < n218 → Inv g82 → Kq [36, 37, 38, 39, 47, 48, 49] [4, 16, 20] g g82 → 0 ≤ x81.toInt ∧ x81.toInt ≤ 4 → (g82 34 16).toInt = (g 34 16).toInt → Wm X p l e (rmD 4) s m ([.ref (aL X 34), .int a, .int b, .int q, .int u, .int v] : List Value).toArray below meth c 9 0 0 (MQ below (cQ X (pV (fun g2 => Inv g2 ∧ Kq [36, 37, 38, 39, 47, 48, 49] [4, 16, 20] g g2))) ([.ref (aL X 34), .int a, .int b, .int q, .int u, .int v] : List Value).toArray s 0 0 (Ab X)) g82 218 [(0, .ref (aL X 34)), (1, .int a), (2, .int b), (3, .int q), (4, .int u), (5, .int v), (6, .int x2), (7, .int x65), (8, .int x81)] [] := by
                intro n218
                induction n218 with
                | zero => intro x81 g82 hm; exact absurd hm (Nat.not_lt_zero _)
                | succ n218 ih218 =>
                  intro x81 g82 hm218 hI83 hK84 i85 i86
                  obtain ⟨i85a, i85b⟩ := i85
                  refine m_iload C dX9_comes_218 8 rfl ?_
                  refine m_iconst C (4 : Int32) dX9_comes_220 (by decide) ?_
                  refine m_icmp_ge C 261 dX9_comes_221 (by decide) (fun h87 => ?_) (fun h87 => ?_)
                  · skip
                    have th87 := i_le h87
                    rw [show (4 : Int32).toInt = 4 by decide] at th87
                    refine m_aload_n C dX9_comes_261 0 rfl ?_
                    refine m_dup C dX9_comes_262 rfl ?_
                    refine m_geti (rf := "") C 16 rfl gd9 (by decide) sh_34 rfl dX9_comes_263 lk_X9_210 ?_
                    have r88 := iv_many hI83
                    refine m_iconst C (1 : Int32) dX9_comes_266 (by decide) ?_
                    refine m_iadd C dX9_comes_267 ?_
                    have t89 : ((g82 34 16) + (1 : Int32)).toInt = (g82 34 16).toInt + (1 : Int) := i_add rfl (by decide) (by omega) (by omega)
                    refine m_put (rf := "") C 16 rfl gd9 (by decide) tyX9 tyX9_ok nmX9 rfl (tyX9_ok 16 (by decide)) rfl rfl sh_34 rfl dX9_comes_268 lk_X9_210 ?_
                    refine m_mem (fun g90 eg90 => ?_)
                    have hI91 : Inv g90 := by rw [eg90]; exact hI83.up (ok_many (by omega) (by omega))
                    have hK92 : Kq [36, 37, 38, 39, 47, 48, 49] [4, 16, 20] g g90 := by rw [eg90]; exact Kq.upF hK84 (by decide)
                    refine m_aload_n C dX9_comes_271 0 rfl ?_
                    refine m_bipush C (17 : Int32) dX9_comes_272 (by decide) ?_
                    refine m_aload_n C dX9_comes_274 0 rfl ?_
                    refine m_geti (rf := "") C 16 rfl gd9 (by decide) sh_34 rfl dX9_comes_275 lk_X9_210 ?_
                    have r93 := iv_many hI91
                    refine m_imul C dX9_comes_278 ?_
                    have t94 : ((17 : Int32) * (g90 34 16)).toInt = (17 : Int) * (g90 34 16).toInt := i_mul (by decide) rfl (by omega) (by omega)
                    refine m_put (rf := "") C 20 rfl gd9 (by decide) tyX9 tyX9_ok nmX9 rfl (tyX9_ok 20 (by decide)) rfl rfl sh_34 rfl dX9_comes_279 lk_X9_220 ?_
                    refine m_mem (fun g95 eg95 => ?_)
                    have hI96 : Inv g95 := by rw [eg95]; exact hI91.up (ok_mwrt (by omega) (by omega))
                    have hK97 : Kq [36, 37, 38, 39, 47, 48, 49] [4, 16, 20] g g95 := by rw [eg95]; exact Kq.upF hK92 (by decide)
                    have ev98 : g95 34 16 = g90 34 16 := by rw [eg95]; exact up2_nei (Or.inr (by decide))
                    have tev98 := congrArg Int32.toInt ev98
                    exact m_vret C dX9_comes_282 ⟨rfl, hI96, hK97⟩
                  · skip
                    have th87 := i_nle h87
                    rw [show (4 : Int32).toInt = 4 by decide] at th87
                    refine m_aload_n C dX9_comes_224 0 rfl ?_
                    refine m_getr (rf := "") C 22 rfl gd9 (by decide) sh_34 rfl dX9_comes_225 lk_X9_53 ?_
                    refine m_iload C dX9_comes_228 7 rfl ?_
                    refine m_bipush C (13 : Int32) dX9_comes_230 (by decide) ?_
                    refine m_iadd C dX9_comes_232 ?_
                    refine m_iload C dX9_comes_233 8 rfl ?_
                    refine m_iadd C dX9_comes_235 ?_
                    refine m_aload_n C dX9_comes_236 0 rfl ?_
                    refine m_getr (rf := "") C 19 rfl gd9 (by decide) sh_34 rfl dX9_comes_237 lk_X9_50 ?_
                    refine m_bipush C (32 : Int32) dX9_comes_240 (by decide) ?_
                    refine m_aload_n C dX9_comes_242 0 rfl ?_
                    refine m_geti (rf := "") C 16 rfl gd9 (by decide) sh_34 rfl dX9_comes_243 lk_X9_210 ?_
                    have r99 := iv_many hI83
                    refine m_imul C dX9_comes_246 ?_
                    refine m_bipush C (32 : Int32) dX9_comes_247 (by decide) ?_
                    refine m_iadd C dX9_comes_249 ?_
                    refine m_iload C dX9_comes_250 8 rfl ?_
                    refine m_iadd C dX9_comes_252 ?_
                    have t100 : ((32 : Int32) * (g82 34 16)).toInt = (32 : Int) * (g82 34 16).toInt := i_mul (by decide) rfl (by omega) (by omega)
                    have t101 : (((32 : Int32) * (g82 34 16)) + (32 : Int32)).toInt = ((32 : Int) * (g82 34 16).toInt) + (32 : Int) := i_add t100 (by decide) (by omega) (by omega)
                    have t102 : ((((32 : Int32) * (g82 34 16)) + (32 : Int32)) + x81).toInt = (((32 : Int) * (g82 34 16).toInt) + (32 : Int)) + x81.toInt := i_add t101 rfl (by omega) (by omega)
                    refine m_iald C sh_48 (i_in (by omega) (by omega)) dX9_comes_253 ?_
                    have t103 : (x65 + (13 : Int32)).toInt = x65.toInt + (13 : Int) := i_add rfl (by decide) (by omega) (by omega)
                    have t104 : ((x65 + (13 : Int32)) + x81).toInt = (x65.toInt + (13 : Int)) + x81.toInt := i_add t103 rfl (by omega) (by omega)
                    refine m_iast C sh_49 (i_in (by omega) (by omega)) dX9_comes_254 ?_
                    refine m_mem (fun g105 eg105 => ?_)
                    have hI106 : Inv g105 := by rw [eg105]; exact hI83.up (ok_any (by decide))
                    have hK107 : Kq [36, 37, 38, 39, 47, 48, 49] [4, 16, 20] g g105 := by rw [eg105]; exact Kq.upA hK84 (by decide) (by decide)
                    have ev108 : g105 34 16 = g82 34 16 := by rw [eg105]; exact up2_nei (Or.inl (by decide))
                    have tev108 := congrArg Int32.toInt ev108
                    obtain ⟨x109, ex109⟩ : ∃ z : Int32, z = x81 + Int32.ofInt 1 := ⟨_, rfl⟩
                    have t110 : (x81 + (Int32.ofInt 1)).toInt = x81.toInt + (1 : Int) := i_add rfl (by decide) (by omega) (by omega)
                    have t111 : x109.toInt = (x81.toInt + (1 : Int)) := (congrArg Int32.toInt ex109).trans t110
                    refine m_iinc C x109 [(8, .int x109), (0, .ref (aL X 34)), (1, .int a), (2, .int b), (3, .int q), (4, .int u), (5, .int v), (6, .int x2), (7, .int x65)] dX9_comes_255 (q := 8) rfl ex109.symm (by decide) rfl ?_
                    refine m_goto C 218 dX9_comes_258 (by decide) ?_
                    refine m_lv [1, 2, 3, 4, 5, 6, 7, 8, 0] rfl ?_
                    exact ih218 x109 g105 (by omega) hI106 hK107 (by omega) (by omega)
              have t112 : (0 : Int32).toInt = 0 := by decide
              refine m_lv [1, 2, 3, 4, 5, 6, 7, 8, 0] rfl ?_
              exact L218 (((5 - (0 : Int32).toInt).toNat) + 1) (0 : Int32) g74 (Nat.lt_succ_self _) hI75 hK76 (by omega) (by omega)
            · skip
              have th79 := i_nle h79
              rw [show (12 : Int32).toInt = 12 by decide] at th79
              refine m_aload_n C dX9_comes_187 0 rfl ?_
              refine m_getr (rf := "") C 22 rfl gd9 (by decide) sh_34 rfl dX9_comes_188 lk_X9_53 ?_
              refine m_iload C dX9_comes_191 7 rfl ?_
              refine m_iconst C (1 : Int32) dX9_comes_193 (by decide) ?_
              refine m_iadd C dX9_comes_194 ?_
              refine m_iload C dX9_comes_195 8 rfl ?_
              refine m_iadd C dX9_comes_197 ?_
              refine m_aload_n C dX9_comes_198 0 rfl ?_
              refine m_getr (rf := "") C 18 rfl gd9 (by decide) sh_34 rfl dX9_comes_199 lk_X9_47 ?_
              refine m_iload C dX9_comes_202 6 rfl ?_
              refine m_iload C dX9_comes_204 8 rfl ?_
              refine m_iadd C dX9_comes_206 ?_
              have t113 : (x2 + x73).toInt = x2.toInt + x73.toInt := i_add rfl rfl (by omega) (by omega)
              refine m_iald C sh_47 (i_in (by omega) (by omega)) dX9_comes_207 ?_
              have t114 : (x65 + (1 : Int32)).toInt = x65.toInt + (1 : Int) := i_add rfl (by decide) (by omega) (by omega)
              have t115 : ((x65 + (1 : Int32)) + x73).toInt = (x65.toInt + (1 : Int)) + x73.toInt := i_add t114 rfl (by omega) (by omega)
              refine m_iast C sh_49 (i_in (by omega) (by omega)) dX9_comes_208 ?_
              refine m_mem (fun g116 eg116 => ?_)
              have hI117 : Inv g116 := by rw [eg116]; exact hI75.up (ok_any (by decide))
              have hK118 : Kq [36, 37, 38, 39, 47, 48, 49] [4, 16, 20] g g116 := by rw [eg116]; exact Kq.upA hK76 (by decide) (by decide)
              have ev119 : g116 34 16 = g74 34 16 := by rw [eg116]; exact up2_nei (Or.inl (by decide))
              have tev119 := congrArg Int32.toInt ev119
              obtain ⟨x120, ex120⟩ : ∃ z : Int32, z = x73 + Int32.ofInt 1 := ⟨_, rfl⟩
              have t121 : (x73 + (Int32.ofInt 1)).toInt = x73.toInt + (1 : Int) := i_add rfl (by decide) (by omega) (by omega)
              have t122 : x120.toInt = (x73.toInt + (1 : Int)) := (congrArg Int32.toInt ex120).trans t121
              refine m_iinc C x120 [(8, .int x120), (0, .ref (aL X 34)), (1, .int a), (2, .int b), (3, .int q), (4, .int u), (5, .int v), (6, .int x2), (7, .int x65)] dX9_comes_209 (q := 8) rfl ex120.symm (by decide) rfl ?_
              refine m_goto C 180 dX9_comes_212 (by decide) ?_
              refine m_lv [1, 2, 3, 4, 5, 6, 7, 8, 0] rfl ?_
              exact ih180 x120 g116 (by omega) hI117 hK118 (by omega) (by omega)
        have t123 : (0 : Int32).toInt = 0 := by decide
        refine m_lv [2, 3, 4, 5, 6, 7, 8, 1, 0] rfl ?_
        exact L180 (((13 - (0 : Int32).toInt).toNat) + 1) (0 : Int32) g68 (Nat.lt_succ_self _) hI69 hK70 (by omega) (by omega)
      · skip
        have th55 := i_nle h55
        rw [show (4 : Int32).toInt = 4 by decide] at th55
        refine m_aload_n C dX9_comes_115 0 rfl ?_
        refine m_getr (rf := "") C 18 rfl gd9 (by decide) sh_34 rfl dX9_comes_116 lk_X9_47 ?_
        refine m_iload C dX9_comes_119 6 rfl ?_
        refine m_bipush C (8 : Int32) dX9_comes_121 (by decide) ?_
        refine m_iadd C dX9_comes_123 ?_
        refine m_iload C dX9_comes_124 7 rfl ?_
        refine m_iadd C dX9_comes_126 ?_
        refine m_aload_n C dX9_comes_127 0 rfl ?_
        refine m_geti (rf := "") C 6 rfl gd9 (by decide) sh_34 rfl dX9_comes_128 lk_X9_201 ?_
        have r124 := iv_mclock hI51
        have ev125 : g50 34 6 = g 34 6 := hK52.2 6 (by decide)
        have tev125 := congrArg Int32.toInt ev125
        refine m_bipush C (24 : Int32) dX9_comes_131 (by decide) ?_
        refine m_bipush C (8 : Int32) dX9_comes_133 (by decide) ?_
        refine m_iload C dX9_comes_135 7 rfl ?_
        refine m_imul C dX9_comes_137 ?_
        refine m_isub C dX9_comes_138 ?_
        refine m_iushr C dX9_comes_139 ?_
        refine m_sipush C (255 : Int32) dX9_comes_140 (by decide) ?_
        refine m_iand C dX9_comes_143 ?_
        have t126 : (x2 + (8 : Int32)).toInt = x2.toInt + (8 : Int) := i_add rfl (by decide) (by omega) (by omega)
        have t127 : ((x2 + (8 : Int32)) + x49).toInt = (x2.toInt + (8 : Int)) + x49.toInt := i_add t126 rfl (by omega) (by omega)
        have t128 : 0 ≤ ((((g50 34 6).toUInt32 >>> (((24 : Int32) - ((8 : Int32) * x49)).toUInt32 &&& Int32.toUInt32 31)).toInt32) &&& (255 : Int32)).toInt ∧ ((((g50 34 6).toUInt32 >>> (((24 : Int32) - ((8 : Int32) * x49)).toUInt32 &&& Int32.toUInt32 31)).toInt32) &&& (255 : Int32)).toInt < 256 := i_and _ 8 (by decide) (by decide)
        refine m_iast C sh_47 (i_in (by omega) (by omega)) dX9_comes_144 ?_
        refine m_mem (fun g129 eg129 => ?_)
        have hI130 : Inv g129 := by rw [eg129]; exact hI51.up (ok_any (by decide))
        have hK131 : Kq [36, 37, 38, 39, 47, 48, 49] [4, 16, 20] g g129 := by rw [eg129]; exact Kq.upA hK52 (by decide) (by decide)
        have ev132 : g129 34 16 = g50 34 16 := by rw [eg129]; exact up2_nei (Or.inl (by decide))
        have tev132 := congrArg Int32.toInt ev132
        have ev133 : g129 34 6 = g50 34 6 := by rw [eg129]; exact up2_nei (Or.inl (by decide))
        have tev133 := congrArg Int32.toInt ev133
        obtain ⟨x134, ex134⟩ : ∃ z : Int32, z = x49 + Int32.ofInt 1 := ⟨_, rfl⟩
        have t135 : (x49 + (Int32.ofInt 1)).toInt = x49.toInt + (1 : Int) := i_add rfl (by decide) (by omega) (by omega)
        have t136 : x134.toInt = (x49.toInt + (1 : Int)) := (congrArg Int32.toInt ex134).trans t135
        refine m_iinc C x134 [(7, .int x134), (0, .ref (aL X 34)), (1, .int a), (2, .int b), (3, .int q), (4, .int u), (5, .int v), (6, .int x2)] dX9_comes_145 (q := 7) rfl ex134.symm (by decide) rfl ?_
        refine m_goto C 109 dX9_comes_148 (by decide) ?_
        refine m_lv [1, 2, 3, 4, 5, 6, 7, 0] rfl ?_
        exact ih109 x134 g129 (by omega) hI130 hK131 (by omega) (by omega)
  have t137 : (0 : Int32).toInt = 0 := by decide
  refine m_lv [2, 3, 4, 5, 6, 7, 1, 0] rfl ?_
  exact L109 (((5 - (0 : Int32).toInt).toNat) + 1) (0 : Int32) g44 (Nat.lt_succ_self _) hI45 hK46 (by omega) (by omega)
set_option maxRecDepth 20000 in
set_option maxHeartbeats 4000000 in
theorem c_X9_holds (l : Launch) {X : XT} (hX : Lok X) (g : Mem) (a : Int32) (o : Int32) (q : Int32) (hI : Inv g) (h_a : 0 ≤ a.toInt ∧ a.toInt ≤ 11) (h_o : 0 ≤ o.toInt ∧ o.toInt ≤ 15) (h_q : 0 ≤ q.toInt ∧ q.toInt ≤ 3) : Ctr l X yX9_holds cX9_holds 4 (some .boolean) (rmD 1) [.ref (aL X 34), .int a, .int o, .int q] g (pI (fun r g2 => g2 = g ∧ True)) := by
  refine Ctr.of (lv := [(0, .ref (aL X 34)), (1, .int a), (2, .int o), (3, .int q)]) hX (by decide) rfl (Nat.le_of_ble_eq_true rfl) ?_
  intro p e s m below meth c C
  refine m_aload_n C dX9_holds_0 0 rfl ?_
  refine m_getr (rf := "") C 12 rfl gd9 (by decide) sh_34 rfl dX9_holds_1 lk_X9_41 ?_
  refine m_iload_n C dX9_holds_4 2 rfl ?_
  refine m_iald C sh_45 (i_in (by omega) (by omega)) dX9_holds_5 ?_
  refine m_iload_n C dX9_holds_6 1 rfl ?_
  refine m_icmp_eq C 46 dX9_holds_7 (by decide) (fun h1 => ?_) (fun h1 => ?_)
  · skip
    have th1 := i_eq h1
    refine m_iconst C (1 : Int32) dX9_holds_46 (by decide) ?_
    refine m_goto C 51 dX9_holds_47 (by decide) ?_
    exact m_zret C dX9_holds_51 (by decide) ⟨_, rfl, rfl, trivial⟩
  · skip
    have th1 := i_ne h1
    refine m_aload_n C dX9_holds_10 0 rfl ?_
    refine m_getr (rf := "") C 13 rfl gd9 (by decide) sh_34 rfl dX9_holds_11 lk_X9_44 ?_
    refine m_iload_n C dX9_holds_14 1 rfl ?_
    refine m_iload_n C dX9_holds_15 2 rfl ?_
    refine m_iload_n C dX9_holds_16 3 rfl ?_
    refine m_invS C cal_X9_at (c_X9_at l hX g a o q hI (by omega) (by omega) (by omega)) lk_X9_223 st_X9_at (by decide) rfl rfl (Nat.le_of_ble_eq_true rfl) dX9_holds_17 ⟨Nat.le_refl _, Nat.le_refl _⟩ (rI fun r2 g3 q4 => ?_)
    obtain ⟨eg3, p5⟩ := q4
    subst g3
    refine m_zald C sh_46 (i_in (by omega) (by omega)) dX9_holds_20 ?_
    refine m_if_ne C 46 dX9_holds_21 (by decide) (fun h6 => ?_) (fun h6 => ?_)
    · skip
      have th6 := i_ne h6
      rw [show (0 : Int32).toInt = 0 by decide] at th6
      refine m_iconst C (1 : Int32) dX9_holds_46 (by decide) ?_
      refine m_goto C 51 dX9_holds_47 (by decide) ?_
      exact m_zret C dX9_holds_51 (by decide) ⟨_, rfl, rfl, trivial⟩
    · skip
      have th6 := i_eq h6
      rw [show (0 : Int32).toInt = 0 by decide] at th6
      refine m_aload_n C dX9_holds_24 0 rfl ?_
      refine m_getr (rf := "") C 13 rfl gd9 (by decide) sh_34 rfl dX9_holds_25 lk_X9_44 ?_
      refine m_bipush C (16 : Int32) dX9_holds_28 (by decide) ?_
      refine m_aload_n C dX9_holds_30 0 rfl ?_
      refine m_getr (rf := "") C 8 rfl gd9 (by decide) sh_34 rfl dX9_holds_31 lk_X9_28 ?_
      refine m_iload_n C dX9_holds_34 1 rfl ?_
      refine m_iald C sh_41 (i_in (by omega) (by omega)) dX9_holds_35 ?_
      have r7 := iv_mgrp hI a.toNatClampNeg
      refine m_iadd C dX9_holds_36 ?_
      refine m_iload_n C dX9_holds_37 2 rfl ?_
      refine m_iload_n C dX9_holds_38 3 rfl ?_
      have t8 : ((16 : Int32) + (g 41 a.toNatClampNeg)).toInt = (16 : Int) + (g 41 a.toNatClampNeg).toInt := i_add (by decide) rfl (by omega) (by omega)
      refine m_invS C cal_X9_at (c_X9_at l hX g ((16 : Int32) + (g 41 a.toNatClampNeg)) o q hI (by omega) (by omega) (by omega)) lk_X9_223 st_X9_at (by decide) rfl rfl (Nat.le_of_ble_eq_true rfl) dX9_holds_39 ⟨Nat.le_refl _, Nat.le_refl _⟩ (rI fun r9 g10 q11 => ?_)
      obtain ⟨eg10, p12⟩ := q11
      subst g10
      refine m_zald C sh_46 (i_in (by omega) (by omega)) dX9_holds_42 ?_
      refine m_if_eq C 50 dX9_holds_43 (by decide) (fun h13 => ?_) (fun h13 => ?_)
      · skip
        have th13 := i_eq h13
        rw [show (0 : Int32).toInt = 0 by decide] at th13
        refine m_iconst C (0 : Int32) dX9_holds_50 (by decide) ?_
        exact m_zret C dX9_holds_51 (by decide) ⟨_, rfl, rfl, trivial⟩
      · skip
        have th13 := i_ne h13
        rw [show (0 : Int32).toInt = 0 by decide] at th13
        refine m_iconst C (1 : Int32) dX9_holds_46 (by decide) ?_
        refine m_goto C 51 dX9_holds_47 (by decide) ?_
        exact m_zret C dX9_holds_51 (by decide) ⟨_, rfl, rfl, trivial⟩
set_option maxRecDepth 20000 in
set_option maxHeartbeats 4000000 in
theorem c_X9_causeOf (l : Launch) {X : XT} (hX : Lok X) (g : Mem) (a : Int32) (o : Int32) (q : Int32) (hI : Inv g) (h_a : 0 ≤ a.toInt ∧ a.toInt ≤ 11) (h_o : 0 ≤ o.toInt ∧ o.toInt ≤ 15) (h_q : 0 ≤ q.toInt ∧ q.toInt ≤ 3) : Ctr l X yX9_causeOf cX9_causeOf 4 (some .int) (rmD 2) [.ref (aL X 34), .int a, .int o, .int q] g (pI (fun r g2 => g2 = g ∧ True)) := by
  refine Ctr.of (lv := [(0, .ref (aL X 34)), (1, .int a), (2, .int o), (3, .int q)]) hX (by decide) rfl (Nat.le_of_ble_eq_true rfl) ?_
  intro p e s m below meth c C
  refine m_aload_n C dX9_causeOf_0 0 rfl ?_
  refine m_getr (rf := "") C 9 rfl gd9 (by decide) sh_34 rfl dX9_causeOf_1 lk_X9_31 ?_
  refine m_iload_n C dX9_causeOf_4 1 rfl ?_
  refine m_zald C sh_42 (i_in (by omega) (by omega)) dX9_causeOf_5 ?_
  refine m_if_eq C 11 dX9_causeOf_6 (by decide) (fun h1 => ?_) (fun h1 => ?_)
  · skip
    have th1 := i_eq h1
    rw [show (0 : Int32).toInt = 0 by decide] at th1
    refine m_iload_n C dX9_causeOf_11 3 rfl ?_
    refine m_iconst C (2 : Int32) dX9_causeOf_12 (by decide) ?_
    refine m_icmp_ge C 33 dX9_causeOf_13 (by decide) (fun h2 => ?_) (fun h2 => ?_)
    · skip
      have th2 := i_le h2
      rw [show (2 : Int32).toInt = 2 by decide] at th2
      refine m_iload_n C dX9_causeOf_33 3 rfl ?_
      refine m_iconst C (1 : Int32) dX9_causeOf_34 (by decide) ?_
      refine m_icmp_eq C 43 dX9_causeOf_35 (by decide) (fun h3 => ?_) (fun h3 => ?_)
      · skip
        have th3 := i_eq h3
        rw [show (1 : Int32).toInt = 1 by decide] at th3
        refine m_aload_n C dX9_causeOf_43 0 rfl ?_
        refine m_getr (rf := "") C 7 rfl gd9 (by decide) sh_34 rfl dX9_causeOf_44 lk_X9_25 ?_
        refine m_iload_n C dX9_causeOf_47 1 rfl ?_
        refine m_iald C sh_40 (i_in (by omega) (by omega)) dX9_causeOf_48 ?_
        refine m_aload_n C dX9_causeOf_49 0 rfl ?_
        refine m_getr (rf := "") C 11 rfl gd9 (by decide) sh_34 rfl dX9_causeOf_50 lk_X9_38 ?_
        refine m_iload_n C dX9_causeOf_53 2 rfl ?_
        refine m_iald C sh_44 (i_in (by omega) (by omega)) dX9_causeOf_54 ?_
        refine m_icmp_le C 60 dX9_causeOf_55 (by decide) (fun h4 => ?_) (fun h4 => ?_)
        · skip
          have th4 := i_le h4
          refine m_aload_n C dX9_causeOf_60 0 rfl ?_
          refine m_iload_n C dX9_causeOf_61 1 rfl ?_
          refine m_iload_n C dX9_causeOf_62 2 rfl ?_
          refine m_iload_n C dX9_causeOf_63 3 rfl ?_
          refine m_invV C cal_X9_holds sh_34 rfl (c_X9_holds l hX g a o q hI (by omega) (by omega) (by omega)) lk_X9_227 im_X9_holds se_X9_holds (by decide) rfl rfl (Nat.le_of_ble_eq_true rfl) dX9_causeOf_64 ⟨Nat.le_refl _, Nat.le_refl _⟩ (rI fun r5 g6 q7 => ?_)
          obtain ⟨eg6, p8⟩ := q7
          subst g6
          refine m_if_eq C 74 dX9_causeOf_67 (by decide) (fun h9 => ?_) (fun h9 => ?_)
          · skip
            have th9 := i_eq h9
            rw [show (0 : Int32).toInt = 0 by decide] at th9
            refine m_iconst C (4 : Int32) dX9_causeOf_74 (by decide) ?_
            exact m_iret C dX9_causeOf_75 ⟨_, rfl, rfl, trivial⟩
          · skip
            have th9 := i_ne h9
            rw [show (0 : Int32).toInt = 0 by decide] at th9
            refine m_iconst C (0 : Int32) dX9_causeOf_70 (by decide) ?_
            refine m_goto C 75 dX9_causeOf_71 (by decide) ?_
            exact m_iret C dX9_causeOf_75 ⟨_, rfl, rfl, trivial⟩
        · skip
          have th4 := i_nle h4
          refine m_iconst C (3 : Int32) dX9_causeOf_58 (by decide) ?_
          exact m_iret C dX9_causeOf_59 ⟨_, rfl, rfl, trivial⟩
      · skip
        have th3 := i_ne h3
        rw [show (1 : Int32).toInt = 1 by decide] at th3
        refine m_iload_n C dX9_causeOf_38 3 rfl ?_
        refine m_iconst C (2 : Int32) dX9_causeOf_39 (by decide) ?_
        refine m_icmp_ne C 60 dX9_causeOf_40 (by decide) (fun h10 => ?_) (fun h10 => ?_)
        · skip
          have th10 := i_ne h10
          rw [show (2 : Int32).toInt = 2 by decide] at th10
          refine m_aload_n C dX9_causeOf_60 0 rfl ?_
          refine m_iload_n C dX9_causeOf_61 1 rfl ?_
          refine m_iload_n C dX9_causeOf_62 2 rfl ?_
          refine m_iload_n C dX9_causeOf_63 3 rfl ?_
          refine m_invV C cal_X9_holds sh_34 rfl (c_X9_holds l hX g a o q hI (by omega) (by omega) (by omega)) lk_X9_227 im_X9_holds se_X9_holds (by decide) rfl rfl (Nat.le_of_ble_eq_true rfl) dX9_causeOf_64 ⟨Nat.le_refl _, Nat.le_refl _⟩ (rI fun r11 g12 q13 => ?_)
          obtain ⟨eg12, p14⟩ := q13
          subst g12
          refine m_if_eq C 74 dX9_causeOf_67 (by decide) (fun h15 => ?_) (fun h15 => ?_)
          · skip
            have th15 := i_eq h15
            rw [show (0 : Int32).toInt = 0 by decide] at th15
            refine m_iconst C (4 : Int32) dX9_causeOf_74 (by decide) ?_
            exact m_iret C dX9_causeOf_75 ⟨_, rfl, rfl, trivial⟩
          · skip
            have th15 := i_ne h15
            rw [show (0 : Int32).toInt = 0 by decide] at th15
            refine m_iconst C (0 : Int32) dX9_causeOf_70 (by decide) ?_
            refine m_goto C 75 dX9_causeOf_71 (by decide) ?_
            exact m_iret C dX9_causeOf_75 ⟨_, rfl, rfl, trivial⟩
        · skip
          have th10 := i_eq h10
          rw [show (2 : Int32).toInt = 2 by decide] at th10
          refine m_aload_n C dX9_causeOf_43 0 rfl ?_
          refine m_getr (rf := "") C 7 rfl gd9 (by decide) sh_34 rfl dX9_causeOf_44 lk_X9_25 ?_
          refine m_iload_n C dX9_causeOf_47 1 rfl ?_
          refine m_iald C sh_40 (i_in (by omega) (by omega)) dX9_causeOf_48 ?_
          refine m_aload_n C dX9_causeOf_49 0 rfl ?_
          refine m_getr (rf := "") C 11 rfl gd9 (by decide) sh_34 rfl dX9_causeOf_50 lk_X9_38 ?_
          refine m_iload_n C dX9_causeOf_53 2 rfl ?_
          refine m_iald C sh_44 (i_in (by omega) (by omega)) dX9_causeOf_54 ?_
          refine m_icmp_le C 60 dX9_causeOf_55 (by decide) (fun h16 => ?_) (fun h16 => ?_)
          · skip
            have th16 := i_le h16
            refine m_aload_n C dX9_causeOf_60 0 rfl ?_
            refine m_iload_n C dX9_causeOf_61 1 rfl ?_
            refine m_iload_n C dX9_causeOf_62 2 rfl ?_
            refine m_iload_n C dX9_causeOf_63 3 rfl ?_
            refine m_invV C cal_X9_holds sh_34 rfl (c_X9_holds l hX g a o q hI (by omega) (by omega) (by omega)) lk_X9_227 im_X9_holds se_X9_holds (by decide) rfl rfl (Nat.le_of_ble_eq_true rfl) dX9_causeOf_64 ⟨Nat.le_refl _, Nat.le_refl _⟩ (rI fun r17 g18 q19 => ?_)
            obtain ⟨eg18, p20⟩ := q19
            subst g18
            refine m_if_eq C 74 dX9_causeOf_67 (by decide) (fun h21 => ?_) (fun h21 => ?_)
            · skip
              have th21 := i_eq h21
              rw [show (0 : Int32).toInt = 0 by decide] at th21
              refine m_iconst C (4 : Int32) dX9_causeOf_74 (by decide) ?_
              exact m_iret C dX9_causeOf_75 ⟨_, rfl, rfl, trivial⟩
            · skip
              have th21 := i_ne h21
              rw [show (0 : Int32).toInt = 0 by decide] at th21
              refine m_iconst C (0 : Int32) dX9_causeOf_70 (by decide) ?_
              refine m_goto C 75 dX9_causeOf_71 (by decide) ?_
              exact m_iret C dX9_causeOf_75 ⟨_, rfl, rfl, trivial⟩
          · skip
            have th16 := i_nle h16
            refine m_iconst C (3 : Int32) dX9_causeOf_58 (by decide) ?_
            exact m_iret C dX9_causeOf_59 ⟨_, rfl, rfl, trivial⟩
    · skip
      have th2 := i_nle h2
      rw [show (2 : Int32).toInt = 2 by decide] at th2
      refine m_aload_n C dX9_causeOf_16 0 rfl ?_
      refine m_getr (rf := "") C 7 rfl gd9 (by decide) sh_34 rfl dX9_causeOf_17 lk_X9_25 ?_
      refine m_iload_n C dX9_causeOf_20 1 rfl ?_
      refine m_iald C sh_40 (i_in (by omega) (by omega)) dX9_causeOf_21 ?_
      refine m_aload_n C dX9_causeOf_22 0 rfl ?_
      refine m_getr (rf := "") C 11 rfl gd9 (by decide) sh_34 rfl dX9_causeOf_23 lk_X9_38 ?_
      refine m_iload_n C dX9_causeOf_26 2 rfl ?_
      refine m_iald C sh_44 (i_in (by omega) (by omega)) dX9_causeOf_27 ?_
      refine m_icmp_ge C 33 dX9_causeOf_28 (by decide) (fun h22 => ?_) (fun h22 => ?_)
      · skip
        have th22 := i_le h22
        refine m_iload_n C dX9_causeOf_33 3 rfl ?_
        refine m_iconst C (1 : Int32) dX9_causeOf_34 (by decide) ?_
        refine m_icmp_eq C 43 dX9_causeOf_35 (by decide) (fun h23 => ?_) (fun h23 => ?_)
        · skip
          have th23 := i_eq h23
          rw [show (1 : Int32).toInt = 1 by decide] at th23
          refine m_aload_n C dX9_causeOf_43 0 rfl ?_
          refine m_getr (rf := "") C 7 rfl gd9 (by decide) sh_34 rfl dX9_causeOf_44 lk_X9_25 ?_
          refine m_iload_n C dX9_causeOf_47 1 rfl ?_
          refine m_iald C sh_40 (i_in (by omega) (by omega)) dX9_causeOf_48 ?_
          refine m_aload_n C dX9_causeOf_49 0 rfl ?_
          refine m_getr (rf := "") C 11 rfl gd9 (by decide) sh_34 rfl dX9_causeOf_50 lk_X9_38 ?_
          refine m_iload_n C dX9_causeOf_53 2 rfl ?_
          refine m_iald C sh_44 (i_in (by omega) (by omega)) dX9_causeOf_54 ?_
          refine m_icmp_le C 60 dX9_causeOf_55 (by decide) (fun h24 => ?_) (fun h24 => ?_)
          · skip
            have th24 := i_le h24
            refine m_aload_n C dX9_causeOf_60 0 rfl ?_
            refine m_iload_n C dX9_causeOf_61 1 rfl ?_
            refine m_iload_n C dX9_causeOf_62 2 rfl ?_
            refine m_iload_n C dX9_causeOf_63 3 rfl ?_
            refine m_invV C cal_X9_holds sh_34 rfl (c_X9_holds l hX g a o q hI (by omega) (by omega) (by omega)) lk_X9_227 im_X9_holds se_X9_holds (by decide) rfl rfl (Nat.le_of_ble_eq_true rfl) dX9_causeOf_64 ⟨Nat.le_refl _, Nat.le_refl _⟩ (rI fun r25 g26 q27 => ?_)
            obtain ⟨eg26, p28⟩ := q27
            subst g26
            refine m_if_eq C 74 dX9_causeOf_67 (by decide) (fun h29 => ?_) (fun h29 => ?_)
            · skip
              have th29 := i_eq h29
              rw [show (0 : Int32).toInt = 0 by decide] at th29
              refine m_iconst C (4 : Int32) dX9_causeOf_74 (by decide) ?_
              exact m_iret C dX9_causeOf_75 ⟨_, rfl, rfl, trivial⟩
            · skip
              have th29 := i_ne h29
              rw [show (0 : Int32).toInt = 0 by decide] at th29
              refine m_iconst C (0 : Int32) dX9_causeOf_70 (by decide) ?_
              refine m_goto C 75 dX9_causeOf_71 (by decide) ?_
              exact m_iret C dX9_causeOf_75 ⟨_, rfl, rfl, trivial⟩
          · skip
            have th24 := i_nle h24
            refine m_iconst C (3 : Int32) dX9_causeOf_58 (by decide) ?_
            exact m_iret C dX9_causeOf_59 ⟨_, rfl, rfl, trivial⟩
        · skip
          have th23 := i_ne h23
          rw [show (1 : Int32).toInt = 1 by decide] at th23
          refine m_iload_n C dX9_causeOf_38 3 rfl ?_
          refine m_iconst C (2 : Int32) dX9_causeOf_39 (by decide) ?_
          refine m_icmp_ne C 60 dX9_causeOf_40 (by decide) (fun h30 => ?_) (fun h30 => ?_)
          · skip
            have th30 := i_ne h30
            rw [show (2 : Int32).toInt = 2 by decide] at th30
            refine m_aload_n C dX9_causeOf_60 0 rfl ?_
            refine m_iload_n C dX9_causeOf_61 1 rfl ?_
            refine m_iload_n C dX9_causeOf_62 2 rfl ?_
            refine m_iload_n C dX9_causeOf_63 3 rfl ?_
            refine m_invV C cal_X9_holds sh_34 rfl (c_X9_holds l hX g a o q hI (by omega) (by omega) (by omega)) lk_X9_227 im_X9_holds se_X9_holds (by decide) rfl rfl (Nat.le_of_ble_eq_true rfl) dX9_causeOf_64 ⟨Nat.le_refl _, Nat.le_refl _⟩ (rI fun r31 g32 q33 => ?_)
            obtain ⟨eg32, p34⟩ := q33
            subst g32
            refine m_if_eq C 74 dX9_causeOf_67 (by decide) (fun h35 => ?_) (fun h35 => ?_)
            · skip
              have th35 := i_eq h35
              rw [show (0 : Int32).toInt = 0 by decide] at th35
              refine m_iconst C (4 : Int32) dX9_causeOf_74 (by decide) ?_
              exact m_iret C dX9_causeOf_75 ⟨_, rfl, rfl, trivial⟩
            · skip
              have th35 := i_ne h35
              rw [show (0 : Int32).toInt = 0 by decide] at th35
              refine m_iconst C (0 : Int32) dX9_causeOf_70 (by decide) ?_
              refine m_goto C 75 dX9_causeOf_71 (by decide) ?_
              exact m_iret C dX9_causeOf_75 ⟨_, rfl, rfl, trivial⟩
          · skip
            have th30 := i_eq h30
            rw [show (2 : Int32).toInt = 2 by decide] at th30
            refine m_aload_n C dX9_causeOf_43 0 rfl ?_
            refine m_getr (rf := "") C 7 rfl gd9 (by decide) sh_34 rfl dX9_causeOf_44 lk_X9_25 ?_
            refine m_iload_n C dX9_causeOf_47 1 rfl ?_
            refine m_iald C sh_40 (i_in (by omega) (by omega)) dX9_causeOf_48 ?_
            refine m_aload_n C dX9_causeOf_49 0 rfl ?_
            refine m_getr (rf := "") C 11 rfl gd9 (by decide) sh_34 rfl dX9_causeOf_50 lk_X9_38 ?_
            refine m_iload_n C dX9_causeOf_53 2 rfl ?_
            refine m_iald C sh_44 (i_in (by omega) (by omega)) dX9_causeOf_54 ?_
            refine m_icmp_le C 60 dX9_causeOf_55 (by decide) (fun h36 => ?_) (fun h36 => ?_)
            · skip
              have th36 := i_le h36
              refine m_aload_n C dX9_causeOf_60 0 rfl ?_
              refine m_iload_n C dX9_causeOf_61 1 rfl ?_
              refine m_iload_n C dX9_causeOf_62 2 rfl ?_
              refine m_iload_n C dX9_causeOf_63 3 rfl ?_
              refine m_invV C cal_X9_holds sh_34 rfl (c_X9_holds l hX g a o q hI (by omega) (by omega) (by omega)) lk_X9_227 im_X9_holds se_X9_holds (by decide) rfl rfl (Nat.le_of_ble_eq_true rfl) dX9_causeOf_64 ⟨Nat.le_refl _, Nat.le_refl _⟩ (rI fun r37 g38 q39 => ?_)
              obtain ⟨eg38, p40⟩ := q39
              subst g38
              refine m_if_eq C 74 dX9_causeOf_67 (by decide) (fun h41 => ?_) (fun h41 => ?_)
              · skip
                have th41 := i_eq h41
                rw [show (0 : Int32).toInt = 0 by decide] at th41
                refine m_iconst C (4 : Int32) dX9_causeOf_74 (by decide) ?_
                exact m_iret C dX9_causeOf_75 ⟨_, rfl, rfl, trivial⟩
              · skip
                have th41 := i_ne h41
                rw [show (0 : Int32).toInt = 0 by decide] at th41
                refine m_iconst C (0 : Int32) dX9_causeOf_70 (by decide) ?_
                refine m_goto C 75 dX9_causeOf_71 (by decide) ?_
                exact m_iret C dX9_causeOf_75 ⟨_, rfl, rfl, trivial⟩
            · skip
              have th36 := i_nle h36
              refine m_iconst C (3 : Int32) dX9_causeOf_58 (by decide) ?_
              exact m_iret C dX9_causeOf_59 ⟨_, rfl, rfl, trivial⟩
      · skip
        have th22 := i_nle h22
        refine m_iconst C (2 : Int32) dX9_causeOf_31 (by decide) ?_
        exact m_iret C dX9_causeOf_32 ⟨_, rfl, rfl, trivial⟩
  · skip
    have th1 := i_ne h1
    rw [show (0 : Int32).toInt = 0 by decide] at th1
    refine m_iconst C (1 : Int32) dX9_causeOf_9 (by decide) ?_
    exact m_iret C dX9_causeOf_10 ⟨_, rfl, rfl, trivial⟩
set_option maxRecDepth 20000 in
set_option maxHeartbeats 4000000 in
theorem c_X9_request (l : Launch) {X : XT} (hX : Lok X) (g : Mem) (a : Int32) (o : Int32) (q : Int32) (hI : Inv g) : Ctr l X yX9_request cX9_request 5 (some .int) (rmD 5) [.ref (aL X 34), .int a, .int o, .int q] g (pI (fun r g2 => Inv g2 ∧ Kq [36, 37, 38, 39, 42, 43, 47, 48, 49] [4, 14, 15, 16, 20] g g2)) := by
  refine Ctr.of (lv := [(0, .ref (aL X 34)), (1, .int a), (2, .int o), (3, .int q)]) hX (by decide) rfl (Nat.le_of_ble_eq_true rfl) ?_
  intro p e s m below meth c C
  refine m_iload_n C dX9_request_0 1 rfl ?_
  refine m_invS C cal_X9_isSubject (c_X9_isSubject l hX g a ) lk_X9_191 st_X9_isSubject (by decide) rfl rfl (Nat.le_of_ble_eq_true rfl) dX9_request_1 ⟨Nat.le_refl _, Nat.le_refl _⟩ (rI fun r1 g2 q3 => ?_)
  obtain ⟨eg2, ⟨rfl, h4⟩ | ⟨rfl, h4⟩⟩ := q3
  · skip
    subst g2
    refine m_if_eq C 26 dX9_request_4 (by decide) (fun h => absurd h (by decide)) (fun _ => ?_)
    refine m_iload_n C dX9_request_7 2 rfl ?_
    refine m_invS C cal_X9_isObject (c_X9_isObject l hX g o ) lk_X9_231 st_X9_isObject (by decide) rfl rfl (Nat.le_of_ble_eq_true rfl) dX9_request_8 ⟨Nat.le_refl _, Nat.le_refl _⟩ (rI fun r5 g6 q7 => ?_)
    obtain ⟨eg6, ⟨rfl, h8⟩ | ⟨rfl, h8⟩⟩ := q7
    · skip
      subst g6
      refine m_if_eq C 26 dX9_request_11 (by decide) (fun h => absurd h (by decide)) (fun _ => ?_)
      refine m_iload_n C dX9_request_14 3 rfl ?_
      refine m_i2l C dX9_request_15 ?_
      refine m_lconst C (0 : Int64) dX9_request_16 (by decide) ?_
      refine m_ldc2 C (3) dX9_request_17 lk_X9_234 ?_
      have t9 : (q.toInt64).toInt = q.toInt := i2l_t _
      have t10 : (0 : Int64).toInt = 0 := by decide
      have t11 : (3 : Int64).toInt = 3 := by decide
      refine m_invS C cal_X9_in (c_X9_in l hX g (q.toInt64) (0 : Int64) (3 : Int64) ) lk_X9_185 st_X9_in (by decide) rfl rfl (Nat.le_of_ble_eq_true rfl) dX9_request_20 ⟨Nat.le_refl _, Nat.le_refl _⟩ (rI fun r12 g13 q14 => ?_)
      obtain ⟨eg13, ⟨rfl, h15⟩ | ⟨rfl, h15⟩⟩ := q14
      · skip
        subst g13
        refine m_if_ne C 29 dX9_request_23 (by decide) (fun _ => ?_) (fun h => absurd h (by decide))
        refine m_aload_n C dX9_request_29 0 rfl ?_
        refine m_invV C cal_X9_bars sh_34 rfl (c_X9_bars l hX g  hI) lk_X9_236 im_X9_bars se_X9_bars (by decide) rfl rfl (Nat.le_of_ble_eq_true rfl) dX9_request_30 ⟨Nat.le_refl _, Nat.le_refl _⟩ (rI fun r16 g17 q18 => ?_)
        obtain ⟨eg17, p19⟩ := q18
        subst g17
        refine m_if_ge C 41 dX9_request_33 (by decide) (fun h20 => ?_) (fun h20 => ?_)
        · skip
          have th20 := i_le h20
          rw [show (0 : Int32).toInt = 0 by decide] at th20
          refine m_aload_n C dX9_request_41 0 rfl ?_
          refine m_iload_n C dX9_request_42 1 rfl ?_
          refine m_iload_n C dX9_request_43 2 rfl ?_
          refine m_iload_n C dX9_request_44 3 rfl ?_
          refine m_invV C cal_X9_causeOf sh_34 rfl (c_X9_causeOf l hX g a o q hI (by omega) (by omega) (by omega)) lk_X9_240 im_X9_causeOf se_X9_causeOf (by decide) rfl rfl (Nat.le_of_ble_eq_true rfl) dX9_request_45 ⟨Nat.le_refl _, Nat.le_refl _⟩ (rI fun r21 g22 q23 => ?_)
          obtain ⟨eg22, p24⟩ := q23
          subst g22
          refine m_istore C [(4, .int r21), (0, .ref (aL X 34)), (1, .int a), (2, .int o), (3, .int q)] dX9_request_48 (by decide) rfl ?_
          refine m_iload C dX9_request_50 0 rfl ?_
          refine m_if_ne C 75 dX9_request_52 (by decide) (fun h26 => ?_) (fun h26 => ?_)
          · skip
            have th26 := i_ne h26
            rw [show (0 : Int32).toInt = 0 by decide] at th26
            refine m_aload_n C dX9_request_75 1 rfl ?_
            refine m_getr (rf := "") C 10 rfl gd9 (by decide) sh_34 rfl dX9_request_76 lk_X9_35 ?_
            refine m_iload_n C dX9_request_79 2 rfl ?_
            refine m_dup2 C dX9_request_80 rfl rfl ?_
            refine m_iald C sh_43 (i_in (by omega) (by omega)) dX9_request_81 ?_
            refine m_iconst C (1 : Int32) dX9_request_82 (by decide) ?_
            refine m_iadd C dX9_request_83 ?_
            refine m_iast C sh_43 (i_in (by omega) (by omega)) dX9_request_84 ?_
            refine m_mem (fun g27 eg27 => ?_)
            have hI28 : Inv g27 := by rw [eg27]; exact hI.up (ok_any (by decide))
            have hK29 : Kq [36, 37, 38, 39, 42, 43, 47, 48, 49] [4, 14, 15, 16, 20] g g27 := by rw [eg27]; exact Kq.upA Kq.rf (by decide) (by decide)
            have ev30 : g27 34 16 = g 34 16 := by rw [eg27]; exact up2_nei (Or.inl (by decide))
            have tev30 := congrArg Int32.toInt ev30
            refine m_aload_n C dX9_request_85 1 rfl ?_
            refine m_dup C dX9_request_86 rfl ?_
            refine m_geti (rf := "") C 15 rfl gd9 (by decide) sh_34 rfl dX9_request_87 lk_X9_246 ?_
            refine m_iconst C (1 : Int32) dX9_request_90 (by decide) ?_
            refine m_iadd C dX9_request_91 ?_
            refine m_put (rf := "") C 15 rfl gd9 (by decide) tyX9 tyX9_ok nmX9 rfl (tyX9_ok 15 (by decide)) rfl rfl sh_34 rfl dX9_request_92 lk_X9_246 ?_
            refine m_mem (fun g31 eg31 => ?_)
            have hI32 : Inv g31 := by rw [eg31]; exact hI28.up (by simp [okv])
            have hK33 : Kq [36, 37, 38, 39, 42, 43, 47, 48, 49] [4, 14, 15, 16, 20] g g31 := by rw [eg31]; exact Kq.upF hK29 (by decide)
            have ev34 : g31 34 16 = g27 34 16 := by rw [eg31]; exact up2_nei (Or.inr (by decide))
            have tev34 := congrArg Int32.toInt ev34
            refine m_aload_n C dX9_request_95 1 rfl ?_
            refine m_getr (rf := "") C 9 rfl gd9 (by decide) sh_34 rfl dX9_request_96 lk_X9_31 ?_
            refine m_iload_n C dX9_request_99 2 rfl ?_
            refine m_dup2 C dX9_request_100 rfl rfl ?_
            refine m_zald C sh_42 (i_in (by omega) (by omega)) dX9_request_101 ?_
            refine m_aload_n C dX9_request_102 1 rfl ?_
            refine m_getr (rf := "") C 10 rfl gd9 (by decide) sh_34 rfl dX9_request_103 lk_X9_35 ?_
            refine m_iload_n C dX9_request_106 2 rfl ?_
            refine m_iald C sh_43 (i_in (by omega) (by omega)) dX9_request_107 ?_
            refine m_iconst C (3 : Int32) dX9_request_108 (by decide) ?_
            refine m_icmp_lt C 116 dX9_request_109 (by decide) (fun h35 => ?_) (fun h35 => ?_)
            · skip
              have th35 := i_lt h35
              rw [show (3 : Int32).toInt = 3 by decide] at th35
              refine m_iconst C (0 : Int32) dX9_request_116 (by decide) ?_
              refine m_ior C dX9_request_117 ?_
              refine m_zast C sh_42 (i_in (by omega) (by omega)) (R01.vp (by first | exact (iv_mlock hI32 _).orc.1 | exact (iv_mlock hI32 _).orc.2.1)) dX9_request_118 ?_
              refine m_mem (fun g36 eg36 => ?_)
              have hI37 : Inv g36 := by rw [eg36]; exact hI32.up (ok_mlock (by first | exact (iv_mlock hI32 _).orc.1 | exact (iv_mlock hI32 _).orc.2.1))
              have hK38 : Kq [36, 37, 38, 39, 42, 43, 47, 48, 49] [4, 14, 15, 16, 20] g g36 := by rw [eg36]; exact Kq.upA hK33 (by decide) (by decide)
              have ev39 : g36 34 16 = g31 34 16 := by rw [eg36]; exact up2_nei (Or.inl (by decide))
              have tev39 := congrArg Int32.toInt ev39
              refine m_aload_n C dX9_request_119 1 rfl ?_
              refine m_iconst C (0 : Int32) dX9_request_120 (by decide) ?_
              refine m_iload_n C dX9_request_121 2 rfl ?_
              refine m_iload_n C dX9_request_122 3 rfl ?_
              refine m_iload_n C dX9_request_123 4 rfl ?_
              refine m_iload C dX9_request_124 0 rfl ?_
              have t40 : (0 : Int32).toInt = 0 := by decide
              refine m_invV C cal_X9_comes sh_34 rfl (c_X9_comes l hX g36 (0 : Int32) a o q r21 hI37 (by omega)) lk_X9_249 im_X9_comes se_X9_comes (by decide) rfl rfl (Nat.le_of_ble_eq_true rfl) dX9_request_126 ⟨Nat.le_refl _, Nat.le_refl _⟩ (rV fun g42 q43 => ?_)
              obtain ⟨hI44, hK45⟩ := q43
              have hK46 : Kq [36, 37, 38, 39, 42, 43, 47, 48, 49] [4, 14, 15, 16, 20] g g42 := (hK38).tr hK45 (by decide) (by decide)
              refine m_iload C dX9_request_129 0 rfl ?_
              exact m_iret C dX9_request_131 ⟨_, rfl, hI44, hK46⟩
            · skip
              have th35 := i_nlt h35
              rw [show (3 : Int32).toInt = 3 by decide] at th35
              refine m_iconst C (1 : Int32) dX9_request_112 (by decide) ?_
              refine m_goto C 117 dX9_request_113 (by decide) ?_
              refine m_ior C dX9_request_117 ?_
              refine m_zast C sh_42 (i_in (by omega) (by omega)) (R01.vp (by first | exact (iv_mlock hI32 _).orc.1 | exact (iv_mlock hI32 _).orc.2.1)) dX9_request_118 ?_
              refine m_mem (fun g47 eg47 => ?_)
              have hI48 : Inv g47 := by rw [eg47]; exact hI32.up (ok_mlock (by first | exact (iv_mlock hI32 _).orc.1 | exact (iv_mlock hI32 _).orc.2.1))
              have hK49 : Kq [36, 37, 38, 39, 42, 43, 47, 48, 49] [4, 14, 15, 16, 20] g g47 := by rw [eg47]; exact Kq.upA hK33 (by decide) (by decide)
              have ev50 : g47 34 16 = g31 34 16 := by rw [eg47]; exact up2_nei (Or.inl (by decide))
              have tev50 := congrArg Int32.toInt ev50
              refine m_aload_n C dX9_request_119 1 rfl ?_
              refine m_iconst C (0 : Int32) dX9_request_120 (by decide) ?_
              refine m_iload_n C dX9_request_121 2 rfl ?_
              refine m_iload_n C dX9_request_122 3 rfl ?_
              refine m_iload_n C dX9_request_123 4 rfl ?_
              refine m_iload C dX9_request_124 0 rfl ?_
              have t51 : (0 : Int32).toInt = 0 := by decide
              refine m_invV C cal_X9_comes sh_34 rfl (c_X9_comes l hX g47 (0 : Int32) a o q r21 hI48 (by omega)) lk_X9_249 im_X9_comes se_X9_comes (by decide) rfl rfl (Nat.le_of_ble_eq_true rfl) dX9_request_126 ⟨Nat.le_refl _, Nat.le_refl _⟩ (rV fun g53 q54 => ?_)
              obtain ⟨hI55, hK56⟩ := q54
              have hK57 : Kq [36, 37, 38, 39, 42, 43, 47, 48, 49] [4, 14, 15, 16, 20] g g53 := (hK49).tr hK56 (by decide) (by decide)
              refine m_iload C dX9_request_129 0 rfl ?_
              exact m_iret C dX9_request_131 ⟨_, rfl, hI55, hK57⟩
          · skip
            have th26 := i_eq h26
            rw [show (0 : Int32).toInt = 0 by decide] at th26
            refine m_aload_n C dX9_request_55 1 rfl ?_
            refine m_getr (rf := "") C 10 rfl gd9 (by decide) sh_34 rfl dX9_request_56 lk_X9_35 ?_
            refine m_iload_n C dX9_request_59 2 rfl ?_
            refine m_iconst C (0 : Int32) dX9_request_60 (by decide) ?_
            refine m_iast C sh_43 (i_in (by omega) (by omega)) dX9_request_61 ?_
            refine m_mem (fun g58 eg58 => ?_)
            have hI59 : Inv g58 := by rw [eg58]; exact hI.up (ok_any (by decide))
            have hK60 : Kq [36, 37, 38, 39, 42, 43, 47, 48, 49] [4, 14, 15, 16, 20] g g58 := by rw [eg58]; exact Kq.upA Kq.rf (by decide) (by decide)
            have ev61 : g58 34 16 = g 34 16 := by rw [eg58]; exact up2_nei (Or.inl (by decide))
            have tev61 := congrArg Int32.toInt ev61
            refine m_aload_n C dX9_request_62 1 rfl ?_
            refine m_dup C dX9_request_63 rfl ?_
            refine m_geti (rf := "") C 14 rfl gd9 (by decide) sh_34 rfl dX9_request_64 lk_X9_243 ?_
            refine m_iconst C (1 : Int32) dX9_request_67 (by decide) ?_
            refine m_iadd C dX9_request_68 ?_
            refine m_put (rf := "") C 14 rfl gd9 (by decide) tyX9 tyX9_ok nmX9 rfl (tyX9_ok 14 (by decide)) rfl rfl sh_34 rfl dX9_request_69 lk_X9_243 ?_
            refine m_mem (fun g62 eg62 => ?_)
            have hI63 : Inv g62 := by rw [eg62]; exact hI59.up (by simp [okv])
            have hK64 : Kq [36, 37, 38, 39, 42, 43, 47, 48, 49] [4, 14, 15, 16, 20] g g62 := by rw [eg62]; exact Kq.upF hK60 (by decide)
            have ev65 : g62 34 16 = g58 34 16 := by rw [eg62]; exact up2_nei (Or.inr (by decide))
            have tev65 := congrArg Int32.toInt ev65
            refine m_goto C 119 dX9_request_72 (by decide) ?_
            refine m_aload_n C dX9_request_119 1 rfl ?_
            refine m_iconst C (0 : Int32) dX9_request_120 (by decide) ?_
            refine m_iload_n C dX9_request_121 2 rfl ?_
            refine m_iload_n C dX9_request_122 3 rfl ?_
            refine m_iload_n C dX9_request_123 4 rfl ?_
            refine m_iload C dX9_request_124 0 rfl ?_
            have t66 : (0 : Int32).toInt = 0 := by decide
            refine m_invV C cal_X9_comes sh_34 rfl (c_X9_comes l hX g62 (0 : Int32) a o q r21 hI63 (by omega)) lk_X9_249 im_X9_comes se_X9_comes (by decide) rfl rfl (Nat.le_of_ble_eq_true rfl) dX9_request_126 ⟨Nat.le_refl _, Nat.le_refl _⟩ (rV fun g68 q69 => ?_)
            obtain ⟨hI70, hK71⟩ := q69
            have hK72 : Kq [36, 37, 38, 39, 42, 43, 47, 48, 49] [4, 14, 15, 16, 20] g g68 := (hK64).tr hK71 (by decide) (by decide)
            refine m_iload C dX9_request_129 0 rfl ?_
            exact m_iret C dX9_request_131 ⟨_, rfl, hI70, hK72⟩
        · skip
          have th20 := i_nle h20
          rw [show (0 : Int32).toInt = 0 by decide] at th20
          refine m_aload_n C dX9_request_36 0 rfl ?_
          refine m_invV C cal_X9_bars sh_34 rfl (c_X9_bars l hX g  hI) lk_X9_236 im_X9_bars se_X9_bars (by decide) rfl rfl (Nat.le_of_ble_eq_true rfl) dX9_request_37 ⟨Nat.le_refl _, Nat.le_refl _⟩ (rI fun r73 g74 q75 => ?_)
          obtain ⟨eg74, p76⟩ := q75
          subst g74
          exact m_iret C dX9_request_40 ⟨_, rfl, hI, Kq.rf⟩
      · skip
        subst g13
        refine m_if_ne C 29 dX9_request_23 (by decide) (fun h => absurd (by decide) h) (fun _ => ?_)
        refine m_bipush C (-2 : Int32) dX9_request_26 (by decide) ?_
        exact m_iret C dX9_request_28 ⟨_, rfl, hI, Kq.rf⟩
    · skip
      subst g6
      refine m_if_eq C 26 dX9_request_11 (by decide) (fun _ => ?_) (fun h => absurd (by decide) h)
      refine m_bipush C (-2 : Int32) dX9_request_26 (by decide) ?_
      exact m_iret C dX9_request_28 ⟨_, rfl, hI, Kq.rf⟩
  · skip
    subst g2
    refine m_if_eq C 26 dX9_request_4 (by decide) (fun _ => ?_) (fun h => absurd (by decide) h)
    refine m_bipush C (-2 : Int32) dX9_request_26 (by decide) ?_
    exact m_iret C dX9_request_28 ⟨_, rfl, hI, Kq.rf⟩
set_option maxRecDepth 20000 in
set_option maxHeartbeats 4000000 in
theorem c_X9_becomes (l : Launch) {X : XT} (hX : Lok X) (g : Mem) (pt : Int32) (o : Int32) (q : Int32) (z : Int32) (hI : Inv g) (hz : R01 z) : Ctr l X yX9_becomes cX9_becomes 7 (some .int) (rmD 5) [.ref (aL X 34), .int pt, .int o, .int q, .int z] g (pI (fun r g2 => Inv g2 ∧ Kq [36, 37, 38, 39, 46, 47, 48, 49] [4, 16, 20] g g2)) := by
  refine Ctr.of (lv := [(0, .ref (aL X 34)), (1, .int pt), (2, .int o), (3, .int q), (4, .int z)]) hX (by decide) rfl (Nat.le_of_ble_eq_true rfl) ?_
  intro p e s m below meth c C
  refine m_iload_n C dX9_becomes_0 1 rfl ?_
  refine m_invS C cal_X9_isTo (c_X9_isTo l hX g pt ) lk_X9_253 st_X9_isTo (by decide) rfl rfl (Nat.le_of_ble_eq_true rfl) dX9_becomes_1 ⟨Nat.le_refl _, Nat.le_refl _⟩ (rI fun r1 g2 q3 => ?_)
  obtain ⟨eg2, ⟨rfl, h4⟩ | ⟨rfl, h4⟩⟩ := q3
  · skip
    subst g2
    refine m_if_eq C 26 dX9_becomes_4 (by decide) (fun h => absurd h (by decide)) (fun _ => ?_)
    refine m_iload_n C dX9_becomes_7 2 rfl ?_
    refine m_invS C cal_X9_isObject (c_X9_isObject l hX g o ) lk_X9_231 st_X9_isObject (by decide) rfl rfl (Nat.le_of_ble_eq_true rfl) dX9_becomes_8 ⟨Nat.le_refl _, Nat.le_refl _⟩ (rI fun r5 g6 q7 => ?_)
    obtain ⟨eg6, ⟨rfl, h8⟩ | ⟨rfl, h8⟩⟩ := q7
    · skip
      subst g6
      refine m_if_eq C 26 dX9_becomes_11 (by decide) (fun h => absurd h (by decide)) (fun _ => ?_)
      refine m_iload_n C dX9_becomes_14 3 rfl ?_
      refine m_i2l C dX9_becomes_15 ?_
      refine m_lconst C (0 : Int64) dX9_becomes_16 (by decide) ?_
      refine m_ldc2 C (3) dX9_becomes_17 lk_X9_234 ?_
      have t9 : (q.toInt64).toInt = q.toInt := i2l_t _
      have t10 : (0 : Int64).toInt = 0 := by decide
      have t11 : (3 : Int64).toInt = 3 := by decide
      refine m_invS C cal_X9_in (c_X9_in l hX g (q.toInt64) (0 : Int64) (3 : Int64) ) lk_X9_185 st_X9_in (by decide) rfl rfl (Nat.le_of_ble_eq_true rfl) dX9_becomes_20 ⟨Nat.le_refl _, Nat.le_refl _⟩ (rI fun r12 g13 q14 => ?_)
      obtain ⟨eg13, ⟨rfl, h15⟩ | ⟨rfl, h15⟩⟩ := q14
      · skip
        subst g13
        refine m_if_ne C 29 dX9_becomes_23 (by decide) (fun _ => ?_) (fun h => absurd h (by decide))
        refine m_aload_n C dX9_becomes_29 0 rfl ?_
        refine m_invV C cal_X9_bars sh_34 rfl (c_X9_bars l hX g  hI) lk_X9_236 im_X9_bars se_X9_bars (by decide) rfl rfl (Nat.le_of_ble_eq_true rfl) dX9_becomes_30 ⟨Nat.le_refl _, Nat.le_refl _⟩ (rI fun r16 g17 q18 => ?_)
        obtain ⟨eg17, p19⟩ := q18
        subst g17
        refine m_if_ge C 41 dX9_becomes_33 (by decide) (fun h20 => ?_) (fun h20 => ?_)
        · skip
          have th20 := i_le h20
          rw [show (0 : Int32).toInt = 0 by decide] at th20
          refine m_iload_n C dX9_becomes_41 1 rfl ?_
          refine m_iload_n C dX9_becomes_42 2 rfl ?_
          refine m_iload_n C dX9_becomes_43 3 rfl ?_
          refine m_invS C cal_X9_at (c_X9_at l hX g pt o q hI (by omega) (by omega) (by omega)) lk_X9_223 st_X9_at (by decide) rfl rfl (Nat.le_of_ble_eq_true rfl) dX9_becomes_44 ⟨Nat.le_refl _, Nat.le_refl _⟩ (rI fun r21 g22 q23 => ?_)
          obtain ⟨eg22, p24⟩ := q23
          subst g22
          refine m_istore C [(5, .int r21), (0, .ref (aL X 34)), (1, .int pt), (2, .int o), (3, .int q), (4, .int z)] dX9_becomes_47 (by decide) rfl ?_
          refine m_aload_n C dX9_becomes_49 1 rfl ?_
          refine m_getr (rf := "") C 13 rfl gd9 (by decide) sh_34 rfl dX9_becomes_50 lk_X9_44 ?_
          refine m_iload C dX9_becomes_53 0 rfl ?_
          refine m_zald C sh_46 (i_in (by omega) (by omega)) dX9_becomes_55 ?_
          refine m_iload C dX9_becomes_56 5 rfl ?_
          refine m_icmp_ne C 65 dX9_becomes_58 (by decide) (fun h26 => ?_) (fun h26 => ?_)
          · skip
            have th26 := i_ne h26
            refine m_iconst C (1 : Int32) dX9_becomes_65 (by decide) ?_
            refine m_istore C [(6, .int (1 : Int32)), (5, .int r21), (0, .ref (aL X 34)), (1, .int pt), (2, .int o), (3, .int q), (4, .int z)] dX9_becomes_66 (by decide) rfl ?_
            refine m_aload_n C dX9_becomes_68 2 rfl ?_
            refine m_getr (rf := "") C 13 rfl gd9 (by decide) sh_34 rfl dX9_becomes_69 lk_X9_44 ?_
            refine m_iload C dX9_becomes_72 1 rfl ?_
            refine m_iload C dX9_becomes_74 6 rfl ?_
            refine m_zast C sh_46 (i_in (by omega) (by omega)) hz.vp dX9_becomes_76 ?_
            refine m_mem (fun g28 eg28 => ?_)
            have hI29 : Inv g28 := by rw [eg28]; exact hI.up (ok_mgives hz)
            have hK30 : Kq [36, 37, 38, 39, 46, 47, 48, 49] [4, 16, 20] g g28 := by rw [eg28]; exact Kq.upA Kq.rf (by decide) (by decide)
            have ev31 : g28 34 16 = g 34 16 := by rw [eg28]; exact up2_nei (Or.inl (by decide))
            have tev31 := congrArg Int32.toInt ev31
            refine m_aload_n C dX9_becomes_77 2 rfl ?_
            refine m_iload C dX9_becomes_78 6 rfl ?_
            refine m_if_eq C 87 dX9_becomes_80 (by decide) (fun h32 => ?_) (fun h32 => ?_)
            · skip
              have th32 := i_eq h32
              rw [show (0 : Int32).toInt = 0 by decide] at th32
              refine m_iconst C (2 : Int32) dX9_becomes_87 (by decide) ?_
              refine m_iload_n C dX9_becomes_88 3 rfl ?_
              refine m_iload_n C dX9_becomes_89 4 rfl ?_
              refine m_iload_n C dX9_becomes_90 5 rfl ?_
              refine m_iconst C (0 : Int32) dX9_becomes_91 (by decide) ?_
              have t33 : (2 : Int32).toInt = 2 := by decide
              have t34 : (0 : Int32).toInt = 0 := by decide
              refine m_invV C cal_X9_comes sh_34 rfl (c_X9_comes l hX g28 (2 : Int32) pt o q (0 : Int32) hI29 (by omega)) lk_X9_249 im_X9_comes se_X9_comes (by decide) rfl rfl (Nat.le_of_ble_eq_true rfl) dX9_becomes_92 ⟨Nat.le_refl _, Nat.le_refl _⟩ (rV fun g36 q37 => ?_)
              obtain ⟨hI38, hK39⟩ := q37
              have hK40 : Kq [36, 37, 38, 39, 46, 47, 48, 49] [4, 16, 20] g g36 := (hK30).tr hK39 (by decide) (by decide)
              refine m_iload C dX9_becomes_95 0 rfl ?_
              exact m_iret C dX9_becomes_97 ⟨_, rfl, hI38, hK40⟩
            · skip
              have th32 := i_ne h32
              rw [show (0 : Int32).toInt = 0 by decide] at th32
              refine m_iconst C (1 : Int32) dX9_becomes_83 (by decide) ?_
              refine m_goto C 88 dX9_becomes_84 (by decide) ?_
              refine m_iload_n C dX9_becomes_88 3 rfl ?_
              refine m_iload_n C dX9_becomes_89 4 rfl ?_
              refine m_iload_n C dX9_becomes_90 5 rfl ?_
              refine m_iconst C (0 : Int32) dX9_becomes_91 (by decide) ?_
              have t41 : (1 : Int32).toInt = 1 := by decide
              have t42 : (0 : Int32).toInt = 0 := by decide
              refine m_invV C cal_X9_comes sh_34 rfl (c_X9_comes l hX g28 (1 : Int32) pt o q (0 : Int32) hI29 (by omega)) lk_X9_249 im_X9_comes se_X9_comes (by decide) rfl rfl (Nat.le_of_ble_eq_true rfl) dX9_becomes_92 ⟨Nat.le_refl _, Nat.le_refl _⟩ (rV fun g44 q45 => ?_)
              obtain ⟨hI46, hK47⟩ := q45
              have hK48 : Kq [36, 37, 38, 39, 46, 47, 48, 49] [4, 16, 20] g g44 := (hK30).tr hK47 (by decide) (by decide)
              refine m_iload C dX9_becomes_95 0 rfl ?_
              exact m_iret C dX9_becomes_97 ⟨_, rfl, hI46, hK48⟩
          · skip
            have th26 := i_eq h26
            refine m_iconst C (0 : Int32) dX9_becomes_61 (by decide) ?_
            refine m_goto C 66 dX9_becomes_62 (by decide) ?_
            refine m_istore C [(6, .int (0 : Int32)), (5, .int r21), (0, .ref (aL X 34)), (1, .int pt), (2, .int o), (3, .int q), (4, .int z)] dX9_becomes_66 (by decide) rfl ?_
            refine m_aload_n C dX9_becomes_68 2 rfl ?_
            refine m_getr (rf := "") C 13 rfl gd9 (by decide) sh_34 rfl dX9_becomes_69 lk_X9_44 ?_
            refine m_iload C dX9_becomes_72 1 rfl ?_
            refine m_iload C dX9_becomes_74 6 rfl ?_
            refine m_zast C sh_46 (i_in (by omega) (by omega)) hz.vp dX9_becomes_76 ?_
            refine m_mem (fun g50 eg50 => ?_)
            have hI51 : Inv g50 := by rw [eg50]; exact hI.up (ok_mgives hz)
            have hK52 : Kq [36, 37, 38, 39, 46, 47, 48, 49] [4, 16, 20] g g50 := by rw [eg50]; exact Kq.upA Kq.rf (by decide) (by decide)
            have ev53 : g50 34 16 = g 34 16 := by rw [eg50]; exact up2_nei (Or.inl (by decide))
            have tev53 := congrArg Int32.toInt ev53
            refine m_aload_n C dX9_becomes_77 2 rfl ?_
            refine m_iload C dX9_becomes_78 6 rfl ?_
            refine m_if_eq C 87 dX9_becomes_80 (by decide) (fun h54 => ?_) (fun h54 => ?_)
            · skip
              have th54 := i_eq h54
              rw [show (0 : Int32).toInt = 0 by decide] at th54
              refine m_iconst C (2 : Int32) dX9_becomes_87 (by decide) ?_
              refine m_iload_n C dX9_becomes_88 3 rfl ?_
              refine m_iload_n C dX9_becomes_89 4 rfl ?_
              refine m_iload_n C dX9_becomes_90 5 rfl ?_
              refine m_iconst C (0 : Int32) dX9_becomes_91 (by decide) ?_
              have t55 : (2 : Int32).toInt = 2 := by decide
              have t56 : (0 : Int32).toInt = 0 := by decide
              refine m_invV C cal_X9_comes sh_34 rfl (c_X9_comes l hX g50 (2 : Int32) pt o q (0 : Int32) hI51 (by omega)) lk_X9_249 im_X9_comes se_X9_comes (by decide) rfl rfl (Nat.le_of_ble_eq_true rfl) dX9_becomes_92 ⟨Nat.le_refl _, Nat.le_refl _⟩ (rV fun g58 q59 => ?_)
              obtain ⟨hI60, hK61⟩ := q59
              have hK62 : Kq [36, 37, 38, 39, 46, 47, 48, 49] [4, 16, 20] g g58 := (hK52).tr hK61 (by decide) (by decide)
              refine m_iload C dX9_becomes_95 0 rfl ?_
              exact m_iret C dX9_becomes_97 ⟨_, rfl, hI60, hK62⟩
            · skip
              have th54 := i_ne h54
              rw [show (0 : Int32).toInt = 0 by decide] at th54
              refine m_iconst C (1 : Int32) dX9_becomes_83 (by decide) ?_
              refine m_goto C 88 dX9_becomes_84 (by decide) ?_
              refine m_iload_n C dX9_becomes_88 3 rfl ?_
              refine m_iload_n C dX9_becomes_89 4 rfl ?_
              refine m_iload_n C dX9_becomes_90 5 rfl ?_
              refine m_iconst C (0 : Int32) dX9_becomes_91 (by decide) ?_
              have t63 : (1 : Int32).toInt = 1 := by decide
              have t64 : (0 : Int32).toInt = 0 := by decide
              refine m_invV C cal_X9_comes sh_34 rfl (c_X9_comes l hX g50 (1 : Int32) pt o q (0 : Int32) hI51 (by omega)) lk_X9_249 im_X9_comes se_X9_comes (by decide) rfl rfl (Nat.le_of_ble_eq_true rfl) dX9_becomes_92 ⟨Nat.le_refl _, Nat.le_refl _⟩ (rV fun g66 q67 => ?_)
              obtain ⟨hI68, hK69⟩ := q67
              have hK70 : Kq [36, 37, 38, 39, 46, 47, 48, 49] [4, 16, 20] g g66 := (hK52).tr hK69 (by decide) (by decide)
              refine m_iload C dX9_becomes_95 0 rfl ?_
              exact m_iret C dX9_becomes_97 ⟨_, rfl, hI68, hK70⟩
        · skip
          have th20 := i_nle h20
          rw [show (0 : Int32).toInt = 0 by decide] at th20
          refine m_aload_n C dX9_becomes_36 0 rfl ?_
          refine m_invV C cal_X9_bars sh_34 rfl (c_X9_bars l hX g  hI) lk_X9_236 im_X9_bars se_X9_bars (by decide) rfl rfl (Nat.le_of_ble_eq_true rfl) dX9_becomes_37 ⟨Nat.le_refl _, Nat.le_refl _⟩ (rI fun r71 g72 q73 => ?_)
          obtain ⟨eg72, p74⟩ := q73
          subst g72
          exact m_iret C dX9_becomes_40 ⟨_, rfl, hI, Kq.rf⟩
      · skip
        subst g13
        refine m_if_ne C 29 dX9_becomes_23 (by decide) (fun h => absurd (by decide) h) (fun _ => ?_)
        refine m_bipush C (-2 : Int32) dX9_becomes_26 (by decide) ?_
        exact m_iret C dX9_becomes_28 ⟨_, rfl, hI, Kq.rf⟩
    · skip
      subst g6
      refine m_if_eq C 26 dX9_becomes_11 (by decide) (fun _ => ?_) (fun h => absurd (by decide) h)
      refine m_bipush C (-2 : Int32) dX9_becomes_26 (by decide) ?_
      exact m_iret C dX9_becomes_28 ⟨_, rfl, hI, Kq.rf⟩
  · skip
    subst g2
    refine m_if_eq C 26 dX9_becomes_4 (by decide) (fun _ => ?_) (fun h => absurd (by decide) h)
    refine m_bipush C (-2 : Int32) dX9_becomes_26 (by decide) ?_
    exact m_iret C dX9_becomes_28 ⟨_, rfl, hI, Kq.rf⟩
set_option maxRecDepth 20000 in
set_option maxHeartbeats 4000000 in
theorem c_X9_give (l : Launch) {X : XT} (hX : Lok X) (g : Mem) (pt : Int32) (o : Int32) (q : Int32) (hI : Inv g) : Ctr l X yX9_give cX9_give 4 (some .int) (rmD 6) [.ref (aL X 34), .int pt, .int o, .int q] g (pI (fun r g2 => Inv g2 ∧ Kq [36, 37, 38, 39, 46, 47, 48, 49] [4, 16, 20] g g2)) := by
  refine Ctr.of (lv := [(0, .ref (aL X 34)), (1, .int pt), (2, .int o), (3, .int q)]) hX (by decide) rfl (Nat.le_of_ble_eq_true rfl) ?_
  intro p e s m below meth c C
  refine m_aload_n C dX9_give_0 0 rfl ?_
  refine m_iload_n C dX9_give_1 1 rfl ?_
  refine m_iload_n C dX9_give_2 2 rfl ?_
  refine m_iload_n C dX9_give_3 3 rfl ?_
  refine m_iconst C (1 : Int32) dX9_give_4 (by decide) ?_
  have t1 : (1 : Int32).toInt = 1 := by decide
  refine m_invV C cal_X9_becomes sh_34 rfl (c_X9_becomes l hX g pt o q (1 : Int32) hI (by first | exact Or.inl rfl | exact Or.inr rfl)) lk_X9_256 im_X9_becomes se_X9_becomes (by decide) rfl rfl (Nat.le_of_ble_eq_true rfl) dX9_give_5 ⟨Nat.le_refl _, Nat.le_refl _⟩ (rI fun r2 g3 q4 => ?_)
  obtain ⟨hI5, hK6⟩ := q4
  have hK7 : Kq [36, 37, 38, 39, 46, 47, 48, 49] [4, 16, 20] g g3 := (Kq.rf).tr hK6 (by decide) (by decide)
  exact m_iret C dX9_give_8 ⟨_, rfl, hI5, hK7⟩
set_option maxRecDepth 20000 in
set_option maxHeartbeats 4000000 in
theorem c_X9_take (l : Launch) {X : XT} (hX : Lok X) (g : Mem) (pt : Int32) (o : Int32) (q : Int32) (hI : Inv g) : Ctr l X yX9_take cX9_take 4 (some .int) (rmD 6) [.ref (aL X 34), .int pt, .int o, .int q] g (pI (fun r g2 => Inv g2 ∧ Kq [36, 37, 38, 39, 46, 47, 48, 49] [4, 16, 20] g g2)) := by
  refine Ctr.of (lv := [(0, .ref (aL X 34)), (1, .int pt), (2, .int o), (3, .int q)]) hX (by decide) rfl (Nat.le_of_ble_eq_true rfl) ?_
  intro p e s m below meth c C
  refine m_aload_n C dX9_take_0 0 rfl ?_
  refine m_iload_n C dX9_take_1 1 rfl ?_
  refine m_iload_n C dX9_take_2 2 rfl ?_
  refine m_iload_n C dX9_take_3 3 rfl ?_
  refine m_iconst C (0 : Int32) dX9_take_4 (by decide) ?_
  have t1 : (0 : Int32).toInt = 0 := by decide
  refine m_invV C cal_X9_becomes sh_34 rfl (c_X9_becomes l hX g pt o q (0 : Int32) hI (by first | exact Or.inl rfl | exact Or.inr rfl)) lk_X9_256 im_X9_becomes se_X9_becomes (by decide) rfl rfl (Nat.le_of_ble_eq_true rfl) dX9_take_5 ⟨Nat.le_refl _, Nat.le_refl _⟩ (rI fun r2 g3 q4 => ?_)
  obtain ⟨hI5, hK6⟩ := q4
  have hK7 : Kq [36, 37, 38, 39, 46, 47, 48, 49] [4, 16, 20] g g3 := (Kq.rf).tr hK6 (by decide) (by decide)
  exact m_iret C dX9_take_8 ⟨_, rfl, hI5, hK7⟩
set_option maxRecDepth 20000 in
set_option maxHeartbeats 4000000 in
theorem c_X9_subject (l : Launch) {X : XT} (hX : Lok X) (g : Mem) (a : Int32) (v : Int32) (w : Int32) (hI : Inv g) : Ctr l X yX9_subject cX9_subject 4 (some .int) (rmD 5) [.ref (aL X 34), .int a, .int v, .int w] g (pI (fun r g2 => Inv g2 ∧ Kq [36, 37, 38, 39, 40, 41, 47, 48, 49] [4, 16, 20] g g2)) := by
  refine Ctr.of (lv := [(0, .ref (aL X 34)), (1, .int a), (2, .int v), (3, .int w)]) hX (by decide) rfl (Nat.le_of_ble_eq_true rfl) ?_
  intro p e s m below meth c C
  refine m_iload_n C dX9_subject_0 1 rfl ?_
  refine m_invS C cal_X9_isSubject (c_X9_isSubject l hX g a ) lk_X9_191 st_X9_isSubject (by decide) rfl rfl (Nat.le_of_ble_eq_true rfl) dX9_subject_1 ⟨Nat.le_refl _, Nat.le_refl _⟩ (rI fun r1 g2 q3 => ?_)
  obtain ⟨eg2, ⟨rfl, h4⟩ | ⟨rfl, h4⟩⟩ := q3
  · skip
    subst g2
    refine m_if_eq C 31 dX9_subject_4 (by decide) (fun h => absurd h (by decide)) (fun _ => ?_)
    refine m_iload_n C dX9_subject_7 2 rfl ?_
    refine m_i2l C dX9_subject_8 ?_
    refine m_lconst C (0 : Int64) dX9_subject_9 (by decide) ?_
    refine m_ldc2 C (7) dX9_subject_10 lk_X9_260 ?_
    have t5 : (v.toInt64).toInt = v.toInt := i2l_t _
    have t6 : (0 : Int64).toInt = 0 := by decide
    have t7 : (7 : Int64).toInt = 7 := by decide
    refine m_invS C cal_X9_in (c_X9_in l hX g (v.toInt64) (0 : Int64) (7 : Int64) ) lk_X9_185 st_X9_in (by decide) rfl rfl (Nat.le_of_ble_eq_true rfl) dX9_subject_13 ⟨Nat.le_refl _, Nat.le_refl _⟩ (rI fun r8 g9 q10 => ?_)
    obtain ⟨eg9, ⟨rfl, h11⟩ | ⟨rfl, h11⟩⟩ := q10
    · skip
      subst g9
      refine m_if_eq C 31 dX9_subject_16 (by decide) (fun h => absurd h (by decide)) (fun _ => ?_)
      refine m_iload_n C dX9_subject_19 3 rfl ?_
      refine m_i2l C dX9_subject_20 ?_
      refine m_lconst C (0 : Int64) dX9_subject_21 (by decide) ?_
      refine m_ldc2 C (3) dX9_subject_22 lk_X9_234 ?_
      have t12 : (w.toInt64).toInt = w.toInt := i2l_t _
      have t13 : (0 : Int64).toInt = 0 := by decide
      have t14 : (3 : Int64).toInt = 3 := by decide
      refine m_invS C cal_X9_in (c_X9_in l hX g (w.toInt64) (0 : Int64) (3 : Int64) ) lk_X9_185 st_X9_in (by decide) rfl rfl (Nat.le_of_ble_eq_true rfl) dX9_subject_25 ⟨Nat.le_refl _, Nat.le_refl _⟩ (rI fun r15 g16 q17 => ?_)
      obtain ⟨eg16, ⟨rfl, h18⟩ | ⟨rfl, h18⟩⟩ := q17
      · skip
        subst g16
        refine m_if_ne C 34 dX9_subject_28 (by decide) (fun _ => ?_) (fun h => absurd h (by decide))
        refine m_aload_n C dX9_subject_34 0 rfl ?_
        refine m_invV C cal_X9_bars sh_34 rfl (c_X9_bars l hX g  hI) lk_X9_236 im_X9_bars se_X9_bars (by decide) rfl rfl (Nat.le_of_ble_eq_true rfl) dX9_subject_35 ⟨Nat.le_refl _, Nat.le_refl _⟩ (rI fun r19 g20 q21 => ?_)
        obtain ⟨eg20, p22⟩ := q21
        subst g20
        refine m_if_ge C 46 dX9_subject_38 (by decide) (fun h23 => ?_) (fun h23 => ?_)
        · skip
          have th23 := i_le h23
          rw [show (0 : Int32).toInt = 0 by decide] at th23
          refine m_aload_n C dX9_subject_46 0 rfl ?_
          refine m_getr (rf := "") C 7 rfl gd9 (by decide) sh_34 rfl dX9_subject_47 lk_X9_25 ?_
          refine m_iload_n C dX9_subject_50 1 rfl ?_
          refine m_iload_n C dX9_subject_51 2 rfl ?_
          refine m_iast C sh_40 (i_in (by omega) (by omega)) dX9_subject_52 ?_
          refine m_mem (fun g24 eg24 => ?_)
          have hI25 : Inv g24 := by rw [eg24]; exact hI.up (ok_any (by decide))
          have hK26 : Kq [36, 37, 38, 39, 40, 41, 47, 48, 49] [4, 16, 20] g g24 := by rw [eg24]; exact Kq.upA Kq.rf (by decide) (by decide)
          have ev27 : g24 34 16 = g 34 16 := by rw [eg24]; exact up2_nei (Or.inl (by decide))
          have tev27 := congrArg Int32.toInt ev27
          refine m_aload_n C dX9_subject_53 0 rfl ?_
          refine m_getr (rf := "") C 8 rfl gd9 (by decide) sh_34 rfl dX9_subject_54 lk_X9_28 ?_
          refine m_iload_n C dX9_subject_57 1 rfl ?_
          refine m_iload_n C dX9_subject_58 3 rfl ?_
          refine m_iast C sh_41 (i_in (by omega) (by omega)) dX9_subject_59 ?_
          refine m_mem (fun g28 eg28 => ?_)
          have hI29 : Inv g28 := by rw [eg28]; exact hI25.up (ok_mgrp (by omega) (by omega))
          have hK30 : Kq [36, 37, 38, 39, 40, 41, 47, 48, 49] [4, 16, 20] g g28 := by rw [eg28]; exact Kq.upA hK26 (by decide) (by decide)
          have ev31 : g28 34 16 = g24 34 16 := by rw [eg28]; exact up2_nei (Or.inl (by decide))
          have tev31 := congrArg Int32.toInt ev31
          refine m_aload_n C dX9_subject_60 0 rfl ?_
          refine m_iconst C (3 : Int32) dX9_subject_61 (by decide) ?_
          refine m_iload_n C dX9_subject_62 1 rfl ?_
          refine m_iload_n C dX9_subject_63 2 rfl ?_
          refine m_iload_n C dX9_subject_64 3 rfl ?_
          refine m_iconst C (0 : Int32) dX9_subject_65 (by decide) ?_
          have t32 : (3 : Int32).toInt = 3 := by decide
          have t33 : (0 : Int32).toInt = 0 := by decide
          refine m_invV C cal_X9_comes sh_34 rfl (c_X9_comes l hX g28 (3 : Int32) a v w (0 : Int32) hI29 (by omega)) lk_X9_249 im_X9_comes se_X9_comes (by decide) rfl rfl (Nat.le_of_ble_eq_true rfl) dX9_subject_66 ⟨Nat.le_refl _, Nat.le_refl _⟩ (rV fun g35 q36 => ?_)
          obtain ⟨hI37, hK38⟩ := q36
          have hK39 : Kq [36, 37, 38, 39, 40, 41, 47, 48, 49] [4, 16, 20] g g35 := (hK30).tr hK38 (by decide) (by decide)
          refine m_iconst C (1 : Int32) dX9_subject_69 (by decide) ?_
          exact m_iret C dX9_subject_70 ⟨_, rfl, hI37, hK39⟩
        · skip
          have th23 := i_nle h23
          rw [show (0 : Int32).toInt = 0 by decide] at th23
          refine m_aload_n C dX9_subject_41 0 rfl ?_
          refine m_invV C cal_X9_bars sh_34 rfl (c_X9_bars l hX g  hI) lk_X9_236 im_X9_bars se_X9_bars (by decide) rfl rfl (Nat.le_of_ble_eq_true rfl) dX9_subject_42 ⟨Nat.le_refl _, Nat.le_refl _⟩ (rI fun r40 g41 q42 => ?_)
          obtain ⟨eg41, p43⟩ := q42
          subst g41
          exact m_iret C dX9_subject_45 ⟨_, rfl, hI, Kq.rf⟩
      · skip
        subst g16
        refine m_if_ne C 34 dX9_subject_28 (by decide) (fun h => absurd (by decide) h) (fun _ => ?_)
        refine m_bipush C (-2 : Int32) dX9_subject_31 (by decide) ?_
        exact m_iret C dX9_subject_33 ⟨_, rfl, hI, Kq.rf⟩
    · skip
      subst g9
      refine m_if_eq C 31 dX9_subject_16 (by decide) (fun _ => ?_) (fun h => absurd (by decide) h)
      refine m_bipush C (-2 : Int32) dX9_subject_31 (by decide) ?_
      exact m_iret C dX9_subject_33 ⟨_, rfl, hI, Kq.rf⟩
  · skip
    subst g2
    refine m_if_eq C 31 dX9_subject_4 (by decide) (fun _ => ?_) (fun h => absurd (by decide) h)
    refine m_bipush C (-2 : Int32) dX9_subject_31 (by decide) ?_
    exact m_iret C dX9_subject_33 ⟨_, rfl, hI, Kq.rf⟩
set_option maxRecDepth 20000 in
set_option maxHeartbeats 4000000 in
theorem c_X9_object (l : Launch) {X : XT} (hX : Lok X) (g : Mem) (o : Int32) (v : Int32) (w : Int32) (hI : Inv g) : Ctr l X yX9_object cX9_object 4 (some .int) (rmD 5) [.ref (aL X 34), .int o, .int v, .int w] g (pI (fun r g2 => Inv g2 ∧ Kq [36, 37, 38, 39, 44, 45, 47, 48, 49] [4, 16, 20] g g2)) := by
  refine Ctr.of (lv := [(0, .ref (aL X 34)), (1, .int o), (2, .int v), (3, .int w)]) hX (by decide) rfl (Nat.le_of_ble_eq_true rfl) ?_
  intro p e s m below meth c C
  refine m_iload_n C dX9_object_0 1 rfl ?_
  refine m_invS C cal_X9_isObject (c_X9_isObject l hX g o ) lk_X9_231 st_X9_isObject (by decide) rfl rfl (Nat.le_of_ble_eq_true rfl) dX9_object_1 ⟨Nat.le_refl _, Nat.le_refl _⟩ (rI fun r1 g2 q3 => ?_)
  obtain ⟨eg2, ⟨rfl, h4⟩ | ⟨rfl, h4⟩⟩ := q3
  · skip
    subst g2
    refine m_if_eq C 26 dX9_object_4 (by decide) (fun h => absurd h (by decide)) (fun _ => ?_)
    refine m_iload_n C dX9_object_7 2 rfl ?_
    refine m_i2l C dX9_object_8 ?_
    refine m_lconst C (0 : Int64) dX9_object_9 (by decide) ?_
    refine m_ldc2 C (7) dX9_object_10 lk_X9_260 ?_
    have t5 : (v.toInt64).toInt = v.toInt := i2l_t _
    have t6 : (0 : Int64).toInt = 0 := by decide
    have t7 : (7 : Int64).toInt = 7 := by decide
    refine m_invS C cal_X9_in (c_X9_in l hX g (v.toInt64) (0 : Int64) (7 : Int64) ) lk_X9_185 st_X9_in (by decide) rfl rfl (Nat.le_of_ble_eq_true rfl) dX9_object_13 ⟨Nat.le_refl _, Nat.le_refl _⟩ (rI fun r8 g9 q10 => ?_)
    obtain ⟨eg9, ⟨rfl, h11⟩ | ⟨rfl, h11⟩⟩ := q10
    · skip
      subst g9
      refine m_if_eq C 26 dX9_object_16 (by decide) (fun h => absurd h (by decide)) (fun _ => ?_)
      refine m_iload_n C dX9_object_19 3 rfl ?_
      refine m_invS C cal_X9_isSubject (c_X9_isSubject l hX g w ) lk_X9_191 st_X9_isSubject (by decide) rfl rfl (Nat.le_of_ble_eq_true rfl) dX9_object_20 ⟨Nat.le_refl _, Nat.le_refl _⟩ (rI fun r12 g13 q14 => ?_)
      obtain ⟨eg13, ⟨rfl, h15⟩ | ⟨rfl, h15⟩⟩ := q14
      · skip
        subst g13
        refine m_if_ne C 29 dX9_object_23 (by decide) (fun _ => ?_) (fun h => absurd h (by decide))
        refine m_aload_n C dX9_object_29 0 rfl ?_
        refine m_invV C cal_X9_bars sh_34 rfl (c_X9_bars l hX g  hI) lk_X9_236 im_X9_bars se_X9_bars (by decide) rfl rfl (Nat.le_of_ble_eq_true rfl) dX9_object_30 ⟨Nat.le_refl _, Nat.le_refl _⟩ (rI fun r16 g17 q18 => ?_)
        obtain ⟨eg17, p19⟩ := q18
        subst g17
        refine m_if_ge C 41 dX9_object_33 (by decide) (fun h20 => ?_) (fun h20 => ?_)
        · skip
          have th20 := i_le h20
          rw [show (0 : Int32).toInt = 0 by decide] at th20
          refine m_aload_n C dX9_object_41 0 rfl ?_
          refine m_getr (rf := "") C 11 rfl gd9 (by decide) sh_34 rfl dX9_object_42 lk_X9_38 ?_
          refine m_iload_n C dX9_object_45 1 rfl ?_
          refine m_iload_n C dX9_object_46 2 rfl ?_
          refine m_iast C sh_44 (i_in (by omega) (by omega)) dX9_object_47 ?_
          refine m_mem (fun g21 eg21 => ?_)
          have hI22 : Inv g21 := by rw [eg21]; exact hI.up (ok_any (by decide))
          have hK23 : Kq [36, 37, 38, 39, 44, 45, 47, 48, 49] [4, 16, 20] g g21 := by rw [eg21]; exact Kq.upA Kq.rf (by decide) (by decide)
          have ev24 : g21 34 16 = g 34 16 := by rw [eg21]; exact up2_nei (Or.inl (by decide))
          have tev24 := congrArg Int32.toInt ev24
          refine m_aload_n C dX9_object_48 0 rfl ?_
          refine m_getr (rf := "") C 12 rfl gd9 (by decide) sh_34 rfl dX9_object_49 lk_X9_41 ?_
          refine m_iload_n C dX9_object_52 1 rfl ?_
          refine m_iload_n C dX9_object_53 3 rfl ?_
          refine m_iast C sh_45 (i_in (by omega) (by omega)) dX9_object_54 ?_
          refine m_mem (fun g25 eg25 => ?_)
          have hI26 : Inv g25 := by rw [eg25]; exact hI22.up (ok_any (by decide))
          have hK27 : Kq [36, 37, 38, 39, 44, 45, 47, 48, 49] [4, 16, 20] g g25 := by rw [eg25]; exact Kq.upA hK23 (by decide) (by decide)
          have ev28 : g25 34 16 = g21 34 16 := by rw [eg25]; exact up2_nei (Or.inl (by decide))
          have tev28 := congrArg Int32.toInt ev28
          refine m_aload_n C dX9_object_55 0 rfl ?_
          refine m_iconst C (4 : Int32) dX9_object_56 (by decide) ?_
          refine m_iload_n C dX9_object_57 1 rfl ?_
          refine m_iload_n C dX9_object_58 2 rfl ?_
          refine m_iload_n C dX9_object_59 3 rfl ?_
          refine m_iconst C (0 : Int32) dX9_object_60 (by decide) ?_
          have t29 : (4 : Int32).toInt = 4 := by decide
          have t30 : (0 : Int32).toInt = 0 := by decide
          refine m_invV C cal_X9_comes sh_34 rfl (c_X9_comes l hX g25 (4 : Int32) o v w (0 : Int32) hI26 (by omega)) lk_X9_249 im_X9_comes se_X9_comes (by decide) rfl rfl (Nat.le_of_ble_eq_true rfl) dX9_object_61 ⟨Nat.le_refl _, Nat.le_refl _⟩ (rV fun g32 q33 => ?_)
          obtain ⟨hI34, hK35⟩ := q33
          have hK36 : Kq [36, 37, 38, 39, 44, 45, 47, 48, 49] [4, 16, 20] g g32 := (hK27).tr hK35 (by decide) (by decide)
          refine m_iconst C (1 : Int32) dX9_object_64 (by decide) ?_
          exact m_iret C dX9_object_65 ⟨_, rfl, hI34, hK36⟩
        · skip
          have th20 := i_nle h20
          rw [show (0 : Int32).toInt = 0 by decide] at th20
          refine m_aload_n C dX9_object_36 0 rfl ?_
          refine m_invV C cal_X9_bars sh_34 rfl (c_X9_bars l hX g  hI) lk_X9_236 im_X9_bars se_X9_bars (by decide) rfl rfl (Nat.le_of_ble_eq_true rfl) dX9_object_37 ⟨Nat.le_refl _, Nat.le_refl _⟩ (rI fun r37 g38 q39 => ?_)
          obtain ⟨eg38, p40⟩ := q39
          subst g38
          exact m_iret C dX9_object_40 ⟨_, rfl, hI, Kq.rf⟩
      · skip
        subst g13
        refine m_if_ne C 29 dX9_object_23 (by decide) (fun h => absurd (by decide) h) (fun _ => ?_)
        refine m_bipush C (-2 : Int32) dX9_object_26 (by decide) ?_
        exact m_iret C dX9_object_28 ⟨_, rfl, hI, Kq.rf⟩
    · skip
      subst g9
      refine m_if_eq C 26 dX9_object_16 (by decide) (fun _ => ?_) (fun h => absurd (by decide) h)
      refine m_bipush C (-2 : Int32) dX9_object_26 (by decide) ?_
      exact m_iret C dX9_object_28 ⟨_, rfl, hI, Kq.rf⟩
  · skip
    subst g2
    refine m_if_eq C 26 dX9_object_4 (by decide) (fun _ => ?_) (fun h => absurd (by decide) h)
    refine m_bipush C (-2 : Int32) dX9_object_26 (by decide) ?_
    exact m_iret C dX9_object_28 ⟨_, rfl, hI, Kq.rf⟩
set_option maxRecDepth 20000 in
set_option maxHeartbeats 4000000 in
theorem c_X9_unlock (l : Launch) {X : XT} (hX : Lok X) (g : Mem) (a : Int32) (hI : Inv g) : Ctr l X yX9_unlock cX9_unlock 3 (some .int) (rmD 5) [.ref (aL X 34), .int a] g (pI (fun r g2 => Inv g2 ∧ Kq [36, 37, 38, 39, 42, 43, 47, 48, 49] [4, 16, 20] g g2)) := by
  refine Ctr.of (lv := [(0, .ref (aL X 34)), (1, .int a)]) hX (by decide) rfl (Nat.le_of_ble_eq_true rfl) ?_
  intro p e s m below meth c C
  refine m_iload_n C dX9_unlock_0 1 rfl ?_
  refine m_invS C cal_X9_isSubject (c_X9_isSubject l hX g a ) lk_X9_191 st_X9_isSubject (by decide) rfl rfl (Nat.le_of_ble_eq_true rfl) dX9_unlock_1 ⟨Nat.le_refl _, Nat.le_refl _⟩ (rI fun r1 g2 q3 => ?_)
  obtain ⟨eg2, ⟨rfl, h4⟩ | ⟨rfl, h4⟩⟩ := q3
  · skip
    subst g2
    refine m_if_ne C 10 dX9_unlock_4 (by decide) (fun _ => ?_) (fun h => absurd h (by decide))
    refine m_aload_n C dX9_unlock_10 0 rfl ?_
    refine m_invV C cal_X9_bars sh_34 rfl (c_X9_bars l hX g  hI) lk_X9_236 im_X9_bars se_X9_bars (by decide) rfl rfl (Nat.le_of_ble_eq_true rfl) dX9_unlock_11 ⟨Nat.le_refl _, Nat.le_refl _⟩ (rI fun r5 g6 q7 => ?_)
    obtain ⟨eg6, p8⟩ := q7
    subst g6
    refine m_if_ge C 22 dX9_unlock_14 (by decide) (fun h9 => ?_) (fun h9 => ?_)
    · skip
      have th9 := i_le h9
      rw [show (0 : Int32).toInt = 0 by decide] at th9
      refine m_aload_n C dX9_unlock_22 0 rfl ?_
      refine m_getr (rf := "") C 9 rfl gd9 (by decide) sh_34 rfl dX9_unlock_23 lk_X9_31 ?_
      refine m_iload_n C dX9_unlock_26 1 rfl ?_
      refine m_zald C sh_42 (i_in (by omega) (by omega)) dX9_unlock_27 ?_
      refine m_if_eq C 35 dX9_unlock_28 (by decide) (fun h10 => ?_) (fun h10 => ?_)
      · skip
        have th10 := i_eq h10
        rw [show (0 : Int32).toInt = 0 by decide] at th10
        refine m_iconst C (0 : Int32) dX9_unlock_35 (by decide) ?_
        refine m_istore_n C [(2, .int (0 : Int32)), (0, .ref (aL X 34)), (1, .int a)] dX9_unlock_36 (by decide) rfl ?_
        refine m_aload_n C dX9_unlock_37 1 rfl ?_
        refine m_getr (rf := "") C 9 rfl gd9 (by decide) sh_34 rfl dX9_unlock_38 lk_X9_31 ?_
        refine m_iload_n C dX9_unlock_41 2 rfl ?_
        refine m_iconst C (0 : Int32) dX9_unlock_42 (by decide) ?_
        refine m_zast C sh_42 (i_in (by omega) (by omega)) (by decide) dX9_unlock_43 ?_
        refine m_mem (fun g12 eg12 => ?_)
        have hI13 : Inv g12 := by rw [eg12]; exact hI.up (ok_mlock (Or.inl rfl))
        have hK14 : Kq [36, 37, 38, 39, 42, 43, 47, 48, 49] [4, 16, 20] g g12 := by rw [eg12]; exact Kq.upA Kq.rf (by decide) (by decide)
        have ev15 : g12 34 16 = g 34 16 := by rw [eg12]; exact up2_nei (Or.inl (by decide))
        have tev15 := congrArg Int32.toInt ev15
        refine m_aload_n C dX9_unlock_44 1 rfl ?_
        refine m_getr (rf := "") C 10 rfl gd9 (by decide) sh_34 rfl dX9_unlock_45 lk_X9_35 ?_
        refine m_iload_n C dX9_unlock_48 2 rfl ?_
        refine m_iconst C (0 : Int32) dX9_unlock_49 (by decide) ?_
        refine m_iast C sh_43 (i_in (by omega) (by omega)) dX9_unlock_50 ?_
        refine m_mem (fun g16 eg16 => ?_)
        have hI17 : Inv g16 := by rw [eg16]; exact hI13.up (ok_any (by decide))
        have hK18 : Kq [36, 37, 38, 39, 42, 43, 47, 48, 49] [4, 16, 20] g g16 := by rw [eg16]; exact Kq.upA hK14 (by decide) (by decide)
        have ev19 : g16 34 16 = g12 34 16 := by rw [eg16]; exact up2_nei (Or.inl (by decide))
        have tev19 := congrArg Int32.toInt ev19
        refine m_aload_n C dX9_unlock_51 1 rfl ?_
        refine m_iconst C (5 : Int32) dX9_unlock_52 (by decide) ?_
        refine m_iload_n C dX9_unlock_53 2 rfl ?_
        refine m_iconst C (0 : Int32) dX9_unlock_54 (by decide) ?_
        refine m_iconst C (0 : Int32) dX9_unlock_55 (by decide) ?_
        refine m_iconst C (0 : Int32) dX9_unlock_56 (by decide) ?_
        have t20 : (5 : Int32).toInt = 5 := by decide
        have t21 : (0 : Int32).toInt = 0 := by decide
        have t22 : (0 : Int32).toInt = 0 := by decide
        have t23 : (0 : Int32).toInt = 0 := by decide
        refine m_invV C cal_X9_comes sh_34 rfl (c_X9_comes l hX g16 (5 : Int32) a (0 : Int32) (0 : Int32) (0 : Int32) hI17 (by omega)) lk_X9_249 im_X9_comes se_X9_comes (by decide) rfl rfl (Nat.le_of_ble_eq_true rfl) dX9_unlock_57 ⟨Nat.le_refl _, Nat.le_refl _⟩ (rV fun g25 q26 => ?_)
        obtain ⟨hI27, hK28⟩ := q26
        have hK29 : Kq [36, 37, 38, 39, 42, 43, 47, 48, 49] [4, 16, 20] g g25 := (hK18).tr hK28 (by decide) (by decide)
        refine m_iload_n C dX9_unlock_60 0 rfl ?_
        exact m_iret C dX9_unlock_61 ⟨_, rfl, hI27, hK29⟩
      · skip
        have th10 := i_ne h10
        rw [show (0 : Int32).toInt = 0 by decide] at th10
        refine m_iconst C (1 : Int32) dX9_unlock_31 (by decide) ?_
        refine m_goto C 36 dX9_unlock_32 (by decide) ?_
        refine m_istore_n C [(2, .int (1 : Int32)), (0, .ref (aL X 34)), (1, .int a)] dX9_unlock_36 (by decide) rfl ?_
        refine m_aload_n C dX9_unlock_37 1 rfl ?_
        refine m_getr (rf := "") C 9 rfl gd9 (by decide) sh_34 rfl dX9_unlock_38 lk_X9_31 ?_
        refine m_iload_n C dX9_unlock_41 2 rfl ?_
        refine m_iconst C (0 : Int32) dX9_unlock_42 (by decide) ?_
        refine m_zast C sh_42 (i_in (by omega) (by omega)) (by decide) dX9_unlock_43 ?_
        refine m_mem (fun g31 eg31 => ?_)
        have hI32 : Inv g31 := by rw [eg31]; exact hI.up (ok_mlock (Or.inl rfl))
        have hK33 : Kq [36, 37, 38, 39, 42, 43, 47, 48, 49] [4, 16, 20] g g31 := by rw [eg31]; exact Kq.upA Kq.rf (by decide) (by decide)
        have ev34 : g31 34 16 = g 34 16 := by rw [eg31]; exact up2_nei (Or.inl (by decide))
        have tev34 := congrArg Int32.toInt ev34
        refine m_aload_n C dX9_unlock_44 1 rfl ?_
        refine m_getr (rf := "") C 10 rfl gd9 (by decide) sh_34 rfl dX9_unlock_45 lk_X9_35 ?_
        refine m_iload_n C dX9_unlock_48 2 rfl ?_
        refine m_iconst C (0 : Int32) dX9_unlock_49 (by decide) ?_
        refine m_iast C sh_43 (i_in (by omega) (by omega)) dX9_unlock_50 ?_
        refine m_mem (fun g35 eg35 => ?_)
        have hI36 : Inv g35 := by rw [eg35]; exact hI32.up (ok_any (by decide))
        have hK37 : Kq [36, 37, 38, 39, 42, 43, 47, 48, 49] [4, 16, 20] g g35 := by rw [eg35]; exact Kq.upA hK33 (by decide) (by decide)
        have ev38 : g35 34 16 = g31 34 16 := by rw [eg35]; exact up2_nei (Or.inl (by decide))
        have tev38 := congrArg Int32.toInt ev38
        refine m_aload_n C dX9_unlock_51 1 rfl ?_
        refine m_iconst C (5 : Int32) dX9_unlock_52 (by decide) ?_
        refine m_iload_n C dX9_unlock_53 2 rfl ?_
        refine m_iconst C (0 : Int32) dX9_unlock_54 (by decide) ?_
        refine m_iconst C (0 : Int32) dX9_unlock_55 (by decide) ?_
        refine m_iconst C (0 : Int32) dX9_unlock_56 (by decide) ?_
        have t39 : (5 : Int32).toInt = 5 := by decide
        have t40 : (0 : Int32).toInt = 0 := by decide
        have t41 : (0 : Int32).toInt = 0 := by decide
        have t42 : (0 : Int32).toInt = 0 := by decide
        refine m_invV C cal_X9_comes sh_34 rfl (c_X9_comes l hX g35 (5 : Int32) a (0 : Int32) (0 : Int32) (0 : Int32) hI36 (by omega)) lk_X9_249 im_X9_comes se_X9_comes (by decide) rfl rfl (Nat.le_of_ble_eq_true rfl) dX9_unlock_57 ⟨Nat.le_refl _, Nat.le_refl _⟩ (rV fun g44 q45 => ?_)
        obtain ⟨hI46, hK47⟩ := q45
        have hK48 : Kq [36, 37, 38, 39, 42, 43, 47, 48, 49] [4, 16, 20] g g44 := (hK37).tr hK47 (by decide) (by decide)
        refine m_iload_n C dX9_unlock_60 0 rfl ?_
        exact m_iret C dX9_unlock_61 ⟨_, rfl, hI46, hK48⟩
    · skip
      have th9 := i_nle h9
      rw [show (0 : Int32).toInt = 0 by decide] at th9
      refine m_aload_n C dX9_unlock_17 0 rfl ?_
      refine m_invV C cal_X9_bars sh_34 rfl (c_X9_bars l hX g  hI) lk_X9_236 im_X9_bars se_X9_bars (by decide) rfl rfl (Nat.le_of_ble_eq_true rfl) dX9_unlock_18 ⟨Nat.le_refl _, Nat.le_refl _⟩ (rI fun r49 g50 q51 => ?_)
      obtain ⟨eg50, p52⟩ := q51
      subst g50
      exact m_iret C dX9_unlock_21 ⟨_, rfl, hI, Kq.rf⟩
  · skip
    subst g2
    refine m_if_ne C 10 dX9_unlock_4 (by decide) (fun h => absurd (by decide) h) (fun _ => ?_)
    refine m_bipush C (-2 : Int32) dX9_unlock_7 (by decide) ?_
    exact m_iret C dX9_unlock_9 ⟨_, rfl, hI, Kq.rf⟩
set_option maxRecDepth 20000 in
set_option maxHeartbeats 4000000 in
theorem c_X9_subjectAt (l : Launch) {X : XT} (hX : Lok X) (g : Mem) (a : Int32) (w : Int32) (hI : Inv g) : Ctr l X yX9_subjectAt cX9_subjectAt 3 (some .int) (rmD 2) [.ref (aL X 34), .int a, .int w] g (pI (fun r g2 => g2 = g ∧ True)) := by
  refine Ctr.of (lv := [(0, .ref (aL X 34)), (1, .int a), (2, .int w)]) hX (by decide) rfl (Nat.le_of_ble_eq_true rfl) ?_
  intro p e s m below meth c C
  refine m_iload_n C dX9_subjectAt_0 1 rfl ?_
  refine m_invS C cal_X9_isSubject (c_X9_isSubject l hX g a ) lk_X9_191 st_X9_isSubject (by decide) rfl rfl (Nat.le_of_ble_eq_true rfl) dX9_subjectAt_1 ⟨Nat.le_refl _, Nat.le_refl _⟩ (rI fun r1 g2 q3 => ?_)
  obtain ⟨eg2, ⟨rfl, h4⟩ | ⟨rfl, h4⟩⟩ := q3
  · skip
    subst g2
    refine m_if_ne C 10 dX9_subjectAt_4 (by decide) (fun _ => ?_) (fun h => absurd h (by decide))
    refine m_iload_n C dX9_subjectAt_10 2 rfl ?_
    rcases Int.lt_or_le (w).toInt 0 with h5 | h5
    · skip
      refine m_tabO C 76 dX9_subjectAt_11 (Or.inl h5) (by decide) ?_
      refine m_bipush C (-2 : Int32) dX9_subjectAt_76 (by decide) ?_
      exact m_iret C dX9_subjectAt_78 ⟨_, rfl, rfl, trivial⟩
    · skip
      by_cases h6 : (w).toInt = 0
      · skip
        refine m_tabI C 40 dX9_subjectAt_11 (by omega) (by omega) (off := 29) (by rw [h6]; rfl) (by decide) ?_
        refine m_aload_n C dX9_subjectAt_40 0 rfl ?_
        refine m_getr (rf := "") C 7 rfl gd9 (by decide) sh_34 rfl dX9_subjectAt_41 lk_X9_25 ?_
        refine m_iload_n C dX9_subjectAt_44 1 rfl ?_
        refine m_iald C sh_40 (i_in (by omega) (by omega)) dX9_subjectAt_45 ?_
        exact m_iret C dX9_subjectAt_46 ⟨_, rfl, rfl, trivial⟩
      · skip
        by_cases h7 : (w).toInt = 1
        · skip
          refine m_tabI C 47 dX9_subjectAt_11 (by omega) (by omega) (off := 36) (by rw [h7]; rfl) (by decide) ?_
          refine m_aload_n C dX9_subjectAt_47 0 rfl ?_
          refine m_getr (rf := "") C 8 rfl gd9 (by decide) sh_34 rfl dX9_subjectAt_48 lk_X9_28 ?_
          refine m_iload_n C dX9_subjectAt_51 1 rfl ?_
          refine m_iald C sh_41 (i_in (by omega) (by omega)) dX9_subjectAt_52 ?_
          have r8 := iv_mgrp hI a.toNatClampNeg
          exact m_iret C dX9_subjectAt_53 ⟨_, rfl, rfl, trivial⟩
        · skip
          by_cases h9 : (w).toInt = 2
          · skip
            refine m_tabI C 54 dX9_subjectAt_11 (by omega) (by omega) (off := 43) (by rw [h9]; rfl) (by decide) ?_
            refine m_aload_n C dX9_subjectAt_54 0 rfl ?_
            refine m_getr (rf := "") C 9 rfl gd9 (by decide) sh_34 rfl dX9_subjectAt_55 lk_X9_31 ?_
            refine m_iload_n C dX9_subjectAt_58 1 rfl ?_
            refine m_zald C sh_42 (i_in (by omega) (by omega)) dX9_subjectAt_59 ?_
            refine m_if_eq C 67 dX9_subjectAt_60 (by decide) (fun h10 => ?_) (fun h10 => ?_)
            · skip
              have th10 := i_eq h10
              rw [show (0 : Int32).toInt = 0 by decide] at th10
              refine m_iconst C (0 : Int32) dX9_subjectAt_67 (by decide) ?_
              exact m_iret C dX9_subjectAt_68 ⟨_, rfl, rfl, trivial⟩
            · skip
              have th10 := i_ne h10
              rw [show (0 : Int32).toInt = 0 by decide] at th10
              refine m_iconst C (1 : Int32) dX9_subjectAt_63 (by decide) ?_
              refine m_goto C 68 dX9_subjectAt_64 (by decide) ?_
              exact m_iret C dX9_subjectAt_68 ⟨_, rfl, rfl, trivial⟩
          · skip
            by_cases h11 : (w).toInt = 3
            · skip
              refine m_tabI C 69 dX9_subjectAt_11 (by omega) (by omega) (off := 58) (by rw [h11]; rfl) (by decide) ?_
              refine m_aload_n C dX9_subjectAt_69 0 rfl ?_
              refine m_getr (rf := "") C 10 rfl gd9 (by decide) sh_34 rfl dX9_subjectAt_70 lk_X9_35 ?_
              refine m_iload_n C dX9_subjectAt_73 1 rfl ?_
              refine m_iald C sh_43 (i_in (by omega) (by omega)) dX9_subjectAt_74 ?_
              exact m_iret C dX9_subjectAt_75 ⟨_, rfl, rfl, trivial⟩
            · skip
              refine m_tabO C 76 dX9_subjectAt_11 (Or.inr (by omega)) (by decide) ?_
              refine m_bipush C (-2 : Int32) dX9_subjectAt_76 (by decide) ?_
              exact m_iret C dX9_subjectAt_78 ⟨_, rfl, rfl, trivial⟩
  · skip
    subst g2
    refine m_if_ne C 10 dX9_subjectAt_4 (by decide) (fun h => absurd (by decide) h) (fun _ => ?_)
    refine m_bipush C (-2 : Int32) dX9_subjectAt_7 (by decide) ?_
    exact m_iret C dX9_subjectAt_9 ⟨_, rfl, rfl, trivial⟩
set_option maxRecDepth 20000 in
set_option maxHeartbeats 4000000 in
theorem c_X9_objectAt (l : Launch) {X : XT} (hX : Lok X) (g : Mem) (o : Int32) (w : Int32) (hI : Inv g) : Ctr l X yX9_objectAt cX9_objectAt 3 (some .int) (rmD 2) [.ref (aL X 34), .int o, .int w] g (pI (fun r g2 => g2 = g ∧ True)) := by
  refine Ctr.of (lv := [(0, .ref (aL X 34)), (1, .int o), (2, .int w)]) hX (by decide) rfl (Nat.le_of_ble_eq_true rfl) ?_
  intro p e s m below meth c C
  refine m_iload_n C dX9_objectAt_0 1 rfl ?_
  refine m_invS C cal_X9_isObject (c_X9_isObject l hX g o ) lk_X9_231 st_X9_isObject (by decide) rfl rfl (Nat.le_of_ble_eq_true rfl) dX9_objectAt_1 ⟨Nat.le_refl _, Nat.le_refl _⟩ (rI fun r1 g2 q3 => ?_)
  obtain ⟨eg2, ⟨rfl, h4⟩ | ⟨rfl, h4⟩⟩ := q3
  · skip
    subst g2
    refine m_if_eq C 17 dX9_objectAt_4 (by decide) (fun h => absurd h (by decide)) (fun _ => ?_)
    refine m_iload_n C dX9_objectAt_7 2 rfl ?_
    refine m_i2l C dX9_objectAt_8 ?_
    refine m_lconst C (0 : Int64) dX9_objectAt_9 (by decide) ?_
    refine m_lconst C (1 : Int64) dX9_objectAt_10 (by decide) ?_
    have t5 : (w.toInt64).toInt = w.toInt := i2l_t _
    have t6 : (0 : Int64).toInt = 0 := by decide
    have t7 : (1 : Int64).toInt = 1 := by decide
    refine m_invS C cal_X9_in (c_X9_in l hX g (w.toInt64) (0 : Int64) (1 : Int64) ) lk_X9_185 st_X9_in (by decide) rfl rfl (Nat.le_of_ble_eq_true rfl) dX9_objectAt_11 ⟨Nat.le_refl _, Nat.le_refl _⟩ (rI fun r8 g9 q10 => ?_)
    obtain ⟨eg9, ⟨rfl, h11⟩ | ⟨rfl, h11⟩⟩ := q10
    · skip
      subst g9
      refine m_if_ne C 22 dX9_objectAt_14 (by decide) (fun _ => ?_) (fun h => absurd h (by decide))
      refine m_iload_n C dX9_objectAt_22 2 rfl ?_
      refine m_if_ne C 35 dX9_objectAt_23 (by decide) (fun h12 => ?_) (fun h12 => ?_)
      · skip
        have th12 := i_ne h12
        rw [show (0 : Int32).toInt = 0 by decide] at th12
        refine m_aload_n C dX9_objectAt_35 0 rfl ?_
        refine m_getr (rf := "") C 12 rfl gd9 (by decide) sh_34 rfl dX9_objectAt_36 lk_X9_41 ?_
        refine m_iload_n C dX9_objectAt_39 1 rfl ?_
        refine m_iald C sh_45 (i_in (by omega) (by omega)) dX9_objectAt_40 ?_
        exact m_iret C dX9_objectAt_41 ⟨_, rfl, rfl, trivial⟩
      · skip
        have th12 := i_eq h12
        rw [show (0 : Int32).toInt = 0 by decide] at th12
        refine m_aload_n C dX9_objectAt_26 0 rfl ?_
        refine m_getr (rf := "") C 11 rfl gd9 (by decide) sh_34 rfl dX9_objectAt_27 lk_X9_38 ?_
        refine m_iload_n C dX9_objectAt_30 1 rfl ?_
        refine m_iald C sh_44 (i_in (by omega) (by omega)) dX9_objectAt_31 ?_
        refine m_goto C 41 dX9_objectAt_32 (by decide) ?_
        exact m_iret C dX9_objectAt_41 ⟨_, rfl, rfl, trivial⟩
    · skip
      subst g9
      refine m_if_ne C 22 dX9_objectAt_14 (by decide) (fun h => absurd (by decide) h) (fun _ => ?_)
      refine m_bipush C (-2 : Int32) dX9_objectAt_17 (by decide) ?_
      refine m_goto C 41 dX9_objectAt_19 (by decide) ?_
      exact m_iret C dX9_objectAt_41 ⟨_, rfl, rfl, trivial⟩
  · skip
    subst g2
    refine m_if_eq C 17 dX9_objectAt_4 (by decide) (fun _ => ?_) (fun h => absurd (by decide) h)
    refine m_bipush C (-2 : Int32) dX9_objectAt_17 (by decide) ?_
    refine m_goto C 41 dX9_objectAt_19 (by decide) ?_
    exact m_iret C dX9_objectAt_41 ⟨_, rfl, rfl, trivial⟩
set_option maxRecDepth 20000 in
set_option maxHeartbeats 4000000 in
theorem c_X9_given (l : Launch) {X : XT} (hX : Lok X) (g : Mem) (pt : Int32) (o : Int32) (q : Int32) (hI : Inv g) : Ctr l X yX9_given cX9_given 4 (some .int) (rmD 3) [.ref (aL X 34), .int pt, .int o, .int q] g (pI (fun r g2 => g2 = g ∧ True)) := by
  refine Ctr.of (lv := [(0, .ref (aL X 34)), (1, .int pt), (2, .int o), (3, .int q)]) hX (by decide) rfl (Nat.le_of_ble_eq_true rfl) ?_
  intro p e s m below meth c C
  refine m_iload_n C dX9_given_0 1 rfl ?_
  refine m_invS C cal_X9_isTo (c_X9_isTo l hX g pt ) lk_X9_253 st_X9_isTo (by decide) rfl rfl (Nat.le_of_ble_eq_true rfl) dX9_given_1 ⟨Nat.le_refl _, Nat.le_refl _⟩ (rI fun r1 g2 q3 => ?_)
  obtain ⟨eg2, ⟨rfl, h4⟩ | ⟨rfl, h4⟩⟩ := q3
  · skip
    subst g2
    refine m_if_eq C 26 dX9_given_4 (by decide) (fun h => absurd h (by decide)) (fun _ => ?_)
    refine m_iload_n C dX9_given_7 2 rfl ?_
    refine m_invS C cal_X9_isObject (c_X9_isObject l hX g o ) lk_X9_231 st_X9_isObject (by decide) rfl rfl (Nat.le_of_ble_eq_true rfl) dX9_given_8 ⟨Nat.le_refl _, Nat.le_refl _⟩ (rI fun r5 g6 q7 => ?_)
    obtain ⟨eg6, ⟨rfl, h8⟩ | ⟨rfl, h8⟩⟩ := q7
    · skip
      subst g6
      refine m_if_eq C 26 dX9_given_11 (by decide) (fun h => absurd h (by decide)) (fun _ => ?_)
      refine m_iload_n C dX9_given_14 3 rfl ?_
      refine m_i2l C dX9_given_15 ?_
      refine m_lconst C (0 : Int64) dX9_given_16 (by decide) ?_
      refine m_ldc2 C (3) dX9_given_17 lk_X9_234 ?_
      have t9 : (q.toInt64).toInt = q.toInt := i2l_t _
      have t10 : (0 : Int64).toInt = 0 := by decide
      have t11 : (3 : Int64).toInt = 3 := by decide
      refine m_invS C cal_X9_in (c_X9_in l hX g (q.toInt64) (0 : Int64) (3 : Int64) ) lk_X9_185 st_X9_in (by decide) rfl rfl (Nat.le_of_ble_eq_true rfl) dX9_given_20 ⟨Nat.le_refl _, Nat.le_refl _⟩ (rI fun r12 g13 q14 => ?_)
      obtain ⟨eg13, ⟨rfl, h15⟩ | ⟨rfl, h15⟩⟩ := q14
      · skip
        subst g13
        refine m_if_ne C 31 dX9_given_23 (by decide) (fun _ => ?_) (fun h => absurd h (by decide))
        refine m_aload_n C dX9_given_31 0 rfl ?_
        refine m_getr (rf := "") C 13 rfl gd9 (by decide) sh_34 rfl dX9_given_32 lk_X9_44 ?_
        refine m_iload_n C dX9_given_35 1 rfl ?_
        refine m_iload_n C dX9_given_36 2 rfl ?_
        refine m_iload_n C dX9_given_37 3 rfl ?_
        refine m_invS C cal_X9_at (c_X9_at l hX g pt o q hI (by omega) (by omega) (by omega)) lk_X9_223 st_X9_at (by decide) rfl rfl (Nat.le_of_ble_eq_true rfl) dX9_given_38 ⟨Nat.le_refl _, Nat.le_refl _⟩ (rI fun r16 g17 q18 => ?_)
        obtain ⟨eg17, p19⟩ := q18
        subst g17
        refine m_zald C sh_46 (i_in (by omega) (by omega)) dX9_given_41 ?_
        refine m_if_eq C 49 dX9_given_42 (by decide) (fun h20 => ?_) (fun h20 => ?_)
        · skip
          have th20 := i_eq h20
          rw [show (0 : Int32).toInt = 0 by decide] at th20
          refine m_iconst C (0 : Int32) dX9_given_49 (by decide) ?_
          exact m_iret C dX9_given_50 ⟨_, rfl, rfl, trivial⟩
        · skip
          have th20 := i_ne h20
          rw [show (0 : Int32).toInt = 0 by decide] at th20
          refine m_iconst C (1 : Int32) dX9_given_45 (by decide) ?_
          refine m_goto C 50 dX9_given_46 (by decide) ?_
          exact m_iret C dX9_given_50 ⟨_, rfl, rfl, trivial⟩
      · skip
        subst g13
        refine m_if_ne C 31 dX9_given_23 (by decide) (fun h => absurd (by decide) h) (fun _ => ?_)
        refine m_bipush C (-2 : Int32) dX9_given_26 (by decide) ?_
        refine m_goto C 50 dX9_given_28 (by decide) ?_
        exact m_iret C dX9_given_50 ⟨_, rfl, rfl, trivial⟩
    · skip
      subst g6
      refine m_if_eq C 26 dX9_given_11 (by decide) (fun _ => ?_) (fun h => absurd (by decide) h)
      refine m_bipush C (-2 : Int32) dX9_given_26 (by decide) ?_
      refine m_goto C 50 dX9_given_28 (by decide) ?_
      exact m_iret C dX9_given_50 ⟨_, rfl, rfl, trivial⟩
  · skip
    subst g2
    refine m_if_eq C 26 dX9_given_4 (by decide) (fun _ => ?_) (fun h => absurd (by decide) h)
    refine m_bipush C (-2 : Int32) dX9_given_26 (by decide) ?_
    refine m_goto C 50 dX9_given_28 (by decide) ?_
    exact m_iret C dX9_given_50 ⟨_, rfl, rfl, trivial⟩
set_option maxRecDepth 20000 in
set_option maxHeartbeats 4000000 in
theorem c_X9_entry (l : Launch) {X : XT} (hX : Lok X) (g : Mem) (i0 : Int32) (kk : Int32) (hI : Inv g) : Ctr l X yX9_entry cX9_entry 3 (some .int) (rmD 1) [.ref (aL X 34), .int i0, .int kk] g (pI (fun r g2 => g2 = g ∧ True)) := by
  refine Ctr.of (lv := [(0, .ref (aL X 34)), (1, .int i0), (2, .int kk)]) hX (by decide) rfl (Nat.le_of_ble_eq_true rfl) ?_
  intro p e s m below meth c C
  refine m_iload_n C dX9_entry_0 1 rfl ?_
  refine m_i2l C dX9_entry_1 ?_
  refine m_lconst C (0 : Int64) dX9_entry_2 (by decide) ?_
  refine m_aload_n C dX9_entry_3 0 rfl ?_
  refine m_invV C cal_X9_entriesNow sh_34 rfl (c_X9_entriesNow l hX g  hI) lk_X9_262 im_X9_entriesNow se_X9_entriesNow (by decide) rfl rfl (Nat.le_of_ble_eq_true rfl) dX9_entry_4 ⟨Nat.le_refl _, Nat.le_refl _⟩ (rI fun r1 g2 q3 => ?_)
  obtain ⟨eg2, p4⟩ := q3
  subst g2
  refine m_iconst C (1 : Int32) dX9_entry_7 (by decide) ?_
  refine m_isub C dX9_entry_8 ?_
  refine m_i2l C dX9_entry_9 ?_
  have t5 : (i0.toInt64).toInt = i0.toInt := i2l_t _
  have t6 : (0 : Int64).toInt = 0 := by decide
  have t7 : (r1 - (1 : Int32)).toInt = r1.toInt - (1 : Int) := i_sub rfl (by decide) (by omega) (by omega)
  have t8 : ((r1 - (1 : Int32)).toInt64).toInt = (r1 - (1 : Int32)).toInt := i2l_t _
  refine m_invS C cal_X9_in (c_X9_in l hX g (i0.toInt64) (0 : Int64) ((r1 - (1 : Int32)).toInt64) ) lk_X9_185 st_X9_in (by decide) rfl rfl (Nat.le_of_ble_eq_true rfl) dX9_entry_10 ⟨Nat.le_refl _, Nat.le_refl _⟩ (rI fun r9 g10 q11 => ?_)
  obtain ⟨eg10, ⟨rfl, h12⟩ | ⟨rfl, h12⟩⟩ := q11
  · skip
    subst g10
    refine m_if_eq C 42 dX9_entry_13 (by decide) (fun h => absurd h (by decide)) (fun _ => ?_)
    refine m_iload_n C dX9_entry_16 2 rfl ?_
    refine m_i2l C dX9_entry_17 ?_
    refine m_lconst C (0 : Int64) dX9_entry_18 (by decide) ?_
    refine m_ldc2 C (11) dX9_entry_19 lk_X9_183 ?_
    have t13 : (kk.toInt64).toInt = kk.toInt := i2l_t _
    have t14 : (0 : Int64).toInt = 0 := by decide
    have t15 : (11 : Int64).toInt = 11 := by decide
    refine m_invS C cal_X9_in (c_X9_in l hX g (kk.toInt64) (0 : Int64) (11 : Int64) ) lk_X9_185 st_X9_in (by decide) rfl rfl (Nat.le_of_ble_eq_true rfl) dX9_entry_22 ⟨Nat.le_refl _, Nat.le_refl _⟩ (rI fun r16 g17 q18 => ?_)
    obtain ⟨eg17, ⟨rfl, h19⟩ | ⟨rfl, h19⟩⟩ := q18
    · skip
      subst g17
      refine m_if_eq C 42 dX9_entry_25 (by decide) (fun h => absurd h (by decide)) (fun _ => ?_)
      refine m_aload_n C dX9_entry_28 0 rfl ?_
      refine m_getr (rf := "") C 18 rfl gd9 (by decide) sh_34 rfl dX9_entry_29 lk_X9_47 ?_
      refine m_bipush C (12 : Int32) dX9_entry_32 (by decide) ?_
      refine m_iload_n C dX9_entry_34 1 rfl ?_
      refine m_imul C dX9_entry_35 ?_
      refine m_iload_n C dX9_entry_36 2 rfl ?_
      refine m_iadd C dX9_entry_37 ?_
      have t20 : ((12 : Int32) * i0).toInt = (12 : Int) * i0.toInt := i_mul (by decide) rfl (by omega) (by omega)
      have t21 : (((12 : Int32) * i0) + kk).toInt = ((12 : Int) * i0.toInt) + kk.toInt := i_add t20 rfl (by omega) (by omega)
      refine m_iald C sh_47 (i_in (by omega) (by omega)) dX9_entry_38 ?_
      refine m_goto C 44 dX9_entry_39 (by decide) ?_
      exact m_iret C dX9_entry_44 ⟨_, rfl, rfl, trivial⟩
    · skip
      subst g17
      refine m_if_eq C 42 dX9_entry_25 (by decide) (fun _ => ?_) (fun h => absurd (by decide) h)
      refine m_bipush C (-2 : Int32) dX9_entry_42 (by decide) ?_
      exact m_iret C dX9_entry_44 ⟨_, rfl, rfl, trivial⟩
  · skip
    subst g10
    refine m_if_eq C 42 dX9_entry_13 (by decide) (fun _ => ?_) (fun h => absurd (by decide) h)
    refine m_bipush C (-2 : Int32) dX9_entry_42 (by decide) ?_
    exact m_iret C dX9_entry_44 ⟨_, rfl, rfl, trivial⟩
set_option maxRecDepth 20000 in
set_option maxHeartbeats 4000000 in
theorem c_X9_chain (l : Launch) {X : XT} (hX : Lok X) (g : Mem) (ii : Int32) (k : Int32) (hI : Inv g) : Ctr l X yX9_chain cX9_chain 3 (some .int) (rmD 1) [.ref (aL X 34), .int ii, .int k] g (pI (fun r g2 => g2 = g ∧ True)) := by
  refine Ctr.of (lv := [(0, .ref (aL X 34)), (1, .int ii), (2, .int k)]) hX (by decide) rfl (Nat.le_of_ble_eq_true rfl) ?_
  intro p e s m below meth c C
  refine m_iload_n C dX9_chain_0 1 rfl ?_
  refine m_i2l C dX9_chain_1 ?_
  refine m_lconst C (0 : Int64) dX9_chain_2 (by decide) ?_
  refine m_aload_n C dX9_chain_3 0 rfl ?_
  refine m_invV C cal_X9_entriesNow sh_34 rfl (c_X9_entriesNow l hX g  hI) lk_X9_262 im_X9_entriesNow se_X9_entriesNow (by decide) rfl rfl (Nat.le_of_ble_eq_true rfl) dX9_chain_4 ⟨Nat.le_refl _, Nat.le_refl _⟩ (rI fun r1 g2 q3 => ?_)
  obtain ⟨eg2, p4⟩ := q3
  subst g2
  refine m_i2l C dX9_chain_7 ?_
  have t5 : (ii.toInt64).toInt = ii.toInt := i2l_t _
  have t6 : (0 : Int64).toInt = 0 := by decide
  have t7 : (r1.toInt64).toInt = r1.toInt := i2l_t _
  refine m_invS C cal_X9_in (c_X9_in l hX g (ii.toInt64) (0 : Int64) (r1.toInt64) ) lk_X9_185 st_X9_in (by decide) rfl rfl (Nat.le_of_ble_eq_true rfl) dX9_chain_8 ⟨Nat.le_refl _, Nat.le_refl _⟩ (rI fun r8 g9 q10 => ?_)
  obtain ⟨eg9, ⟨rfl, h11⟩ | ⟨rfl, h11⟩⟩ := q10
  · skip
    subst g9
    refine m_if_eq C 40 dX9_chain_11 (by decide) (fun h => absurd h (by decide)) (fun _ => ?_)
    refine m_iload_n C dX9_chain_14 2 rfl ?_
    refine m_i2l C dX9_chain_15 ?_
    refine m_lconst C (0 : Int64) dX9_chain_16 (by decide) ?_
    refine m_ldc2 C (31) dX9_chain_17 lk_X9_265 ?_
    have t12 : (k.toInt64).toInt = k.toInt := i2l_t _
    have t13 : (0 : Int64).toInt = 0 := by decide
    have t14 : (31 : Int64).toInt = 31 := by decide
    refine m_invS C cal_X9_in (c_X9_in l hX g (k.toInt64) (0 : Int64) (31 : Int64) ) lk_X9_185 st_X9_in (by decide) rfl rfl (Nat.le_of_ble_eq_true rfl) dX9_chain_20 ⟨Nat.le_refl _, Nat.le_refl _⟩ (rI fun r15 g16 q17 => ?_)
    obtain ⟨eg16, ⟨rfl, h18⟩ | ⟨rfl, h18⟩⟩ := q17
    · skip
      subst g16
      refine m_if_eq C 40 dX9_chain_23 (by decide) (fun h => absurd h (by decide)) (fun _ => ?_)
      refine m_aload_n C dX9_chain_26 0 rfl ?_
      refine m_getr (rf := "") C 19 rfl gd9 (by decide) sh_34 rfl dX9_chain_27 lk_X9_50 ?_
      refine m_bipush C (32 : Int32) dX9_chain_30 (by decide) ?_
      refine m_iload_n C dX9_chain_32 1 rfl ?_
      refine m_imul C dX9_chain_33 ?_
      refine m_iload_n C dX9_chain_34 2 rfl ?_
      refine m_iadd C dX9_chain_35 ?_
      have t19 : ((32 : Int32) * ii).toInt = (32 : Int) * ii.toInt := i_mul (by decide) rfl (by omega) (by omega)
      have t20 : (((32 : Int32) * ii) + k).toInt = ((32 : Int) * ii.toInt) + k.toInt := i_add t19 rfl (by omega) (by omega)
      refine m_iald C sh_48 (i_in (by omega) (by omega)) dX9_chain_36 ?_
      refine m_goto C 42 dX9_chain_37 (by decide) ?_
      exact m_iret C dX9_chain_42 ⟨_, rfl, rfl, trivial⟩
    · skip
      subst g16
      refine m_if_eq C 40 dX9_chain_23 (by decide) (fun _ => ?_) (fun h => absurd (by decide) h)
      refine m_bipush C (-2 : Int32) dX9_chain_40 (by decide) ?_
      exact m_iret C dX9_chain_42 ⟨_, rfl, rfl, trivial⟩
  · skip
    subst g9
    refine m_if_eq C 40 dX9_chain_11 (by decide) (fun _ => ?_) (fun h => absurd (by decide) h)
    refine m_bipush C (-2 : Int32) dX9_chain_40 (by decide) ?_
    exact m_iret C dX9_chain_42 ⟨_, rfl, rfl, trivial⟩
set_option maxRecDepth 20000 in
set_option maxHeartbeats 4000000 in
theorem c_X9_proof (l : Launch) {X : XT} (hX : Lok X) (g : Mem) (h : Int32) (k : Int32) (hI : Inv g) : Ctr l X yX9_proof cX9_proof 3 (some .int) (rmD 1) [.ref (aL X 34), .int h, .int k] g (pI (fun r g2 => g2 = g ∧ True)) := by
  refine Ctr.of (lv := [(0, .ref (aL X 34)), (1, .int h), (2, .int k)]) hX (by decide) rfl (Nat.le_of_ble_eq_true rfl) ?_
  intro p e s m below meth c C
  refine m_iload_n C dX9_proof_0 1 rfl ?_
  refine m_i2l C dX9_proof_1 ?_
  refine m_lconst C (0 : Int64) dX9_proof_2 (by decide) ?_
  refine m_aload_n C dX9_proof_3 0 rfl ?_
  refine m_geti (rf := "") C 26 rfl gd9 (by decide) sh_34 rfl dX9_proof_4 lk_X9_281 ?_
  have r1 := iv_pmany hI
  refine m_iconst C (1 : Int32) dX9_proof_7 (by decide) ?_
  refine m_isub C dX9_proof_8 ?_
  refine m_i2l C dX9_proof_9 ?_
  have t2 : (h.toInt64).toInt = h.toInt := i2l_t _
  have t3 : (0 : Int64).toInt = 0 := by decide
  have t4 : ((g 34 26) - (1 : Int32)).toInt = (g 34 26).toInt - (1 : Int) := i_sub rfl (by decide) (by omega) (by omega)
  have t5 : (((g 34 26) - (1 : Int32)).toInt64).toInt = ((g 34 26) - (1 : Int32)).toInt := i2l_t _
  refine m_invS C cal_X9_in (c_X9_in l hX g (h.toInt64) (0 : Int64) (((g 34 26) - (1 : Int32)).toInt64) ) lk_X9_185 st_X9_in (by decide) rfl rfl (Nat.le_of_ble_eq_true rfl) dX9_proof_10 ⟨Nat.le_refl _, Nat.le_refl _⟩ (rI fun r6 g7 q8 => ?_)
  obtain ⟨eg7, ⟨rfl, h9⟩ | ⟨rfl, h9⟩⟩ := q8
  · skip
    subst g7
    refine m_if_eq C 42 dX9_proof_13 (by decide) (fun h => absurd h (by decide)) (fun _ => ?_)
    refine m_iload_n C dX9_proof_16 2 rfl ?_
    refine m_i2l C dX9_proof_17 ?_
    refine m_lconst C (0 : Int64) dX9_proof_18 (by decide) ?_
    refine m_ldc2 C (31) dX9_proof_19 lk_X9_265 ?_
    have t10 : (k.toInt64).toInt = k.toInt := i2l_t _
    have t11 : (0 : Int64).toInt = 0 := by decide
    have t12 : (31 : Int64).toInt = 31 := by decide
    refine m_invS C cal_X9_in (c_X9_in l hX g (k.toInt64) (0 : Int64) (31 : Int64) ) lk_X9_185 st_X9_in (by decide) rfl rfl (Nat.le_of_ble_eq_true rfl) dX9_proof_22 ⟨Nat.le_refl _, Nat.le_refl _⟩ (rI fun r13 g14 q15 => ?_)
    obtain ⟨eg14, ⟨rfl, h16⟩ | ⟨rfl, h16⟩⟩ := q15
    · skip
      subst g14
      refine m_if_eq C 42 dX9_proof_25 (by decide) (fun h => absurd h (by decide)) (fun _ => ?_)
      refine m_aload_n C dX9_proof_28 0 rfl ?_
      refine m_getr (rf := "") C 27 rfl gd9 (by decide) sh_34 rfl dX9_proof_29 lk_X9_65 ?_
      refine m_bipush C (32 : Int32) dX9_proof_32 (by decide) ?_
      refine m_iload_n C dX9_proof_34 1 rfl ?_
      refine m_imul C dX9_proof_35 ?_
      refine m_iload_n C dX9_proof_36 2 rfl ?_
      refine m_iadd C dX9_proof_37 ?_
      have t17 : ((32 : Int32) * h).toInt = (32 : Int) * h.toInt := i_mul (by decide) rfl (by omega) (by omega)
      have t18 : (((32 : Int32) * h) + k).toInt = ((32 : Int) * h.toInt) + k.toInt := i_add t17 rfl (by omega) (by omega)
      refine m_iald C sh_53 (i_in (by omega) (by omega)) dX9_proof_38 ?_
      refine m_goto C 44 dX9_proof_39 (by decide) ?_
      exact m_iret C dX9_proof_44 ⟨_, rfl, rfl, trivial⟩
    · skip
      subst g14
      refine m_if_eq C 42 dX9_proof_25 (by decide) (fun _ => ?_) (fun h => absurd (by decide) h)
      refine m_bipush C (-2 : Int32) dX9_proof_42 (by decide) ?_
      exact m_iret C dX9_proof_44 ⟨_, rfl, rfl, trivial⟩
  · skip
    subst g7
    refine m_if_eq C 42 dX9_proof_13 (by decide) (fun _ => ?_) (fun h => absurd (by decide) h)
    refine m_bipush C (-2 : Int32) dX9_proof_42 (by decide) ?_
    exact m_iret C dX9_proof_44 ⟨_, rfl, rfl, trivial⟩
set_option maxRecDepth 20000 in
set_option maxHeartbeats 4000000 in
theorem c_X9_spoilProof (l : Launch) {X : XT} (hX : Lok X) (g : Mem) (h : Int32) (k : Int32) (v : Int32) (hI : Inv g) : Ctr l X yX9_spoilProof cX9_spoilProof 5 (some .int) (rmD 1) [.ref (aL X 34), .int h, .int k, .int v] g (pI (fun r g2 => Inv g2 ∧ Kq [53] [] g g2)) := by
  refine Ctr.of (lv := [(0, .ref (aL X 34)), (1, .int h), (2, .int k), (3, .int v)]) hX (by decide) rfl (Nat.le_of_ble_eq_true rfl) ?_
  intro p e s m below meth c C
  refine m_iload_n C dX9_spoilProof_0 1 rfl ?_
  refine m_i2l C dX9_spoilProof_1 ?_
  refine m_lconst C (0 : Int64) dX9_spoilProof_2 (by decide) ?_
  refine m_aload_n C dX9_spoilProof_3 0 rfl ?_
  refine m_geti (rf := "") C 26 rfl gd9 (by decide) sh_34 rfl dX9_spoilProof_4 lk_X9_281 ?_
  have r1 := iv_pmany hI
  refine m_iconst C (1 : Int32) dX9_spoilProof_7 (by decide) ?_
  refine m_isub C dX9_spoilProof_8 ?_
  refine m_i2l C dX9_spoilProof_9 ?_
  have t2 : (h.toInt64).toInt = h.toInt := i2l_t _
  have t3 : (0 : Int64).toInt = 0 := by decide
  have t4 : ((g 34 26) - (1 : Int32)).toInt = (g 34 26).toInt - (1 : Int) := i_sub rfl (by decide) (by omega) (by omega)
  have t5 : (((g 34 26) - (1 : Int32)).toInt64).toInt = ((g 34 26) - (1 : Int32)).toInt := i2l_t _
  refine m_invS C cal_X9_in (c_X9_in l hX g (h.toInt64) (0 : Int64) (((g 34 26) - (1 : Int32)).toInt64) ) lk_X9_185 st_X9_in (by decide) rfl rfl (Nat.le_of_ble_eq_true rfl) dX9_spoilProof_10 ⟨Nat.le_refl _, Nat.le_refl _⟩ (rI fun r6 g7 q8 => ?_)
  obtain ⟨eg7, ⟨rfl, h9⟩ | ⟨rfl, h9⟩⟩ := q8
  · skip
    subst g7
    refine m_if_eq C 40 dX9_spoilProof_13 (by decide) (fun h => absurd h (by decide)) (fun _ => ?_)
    refine m_iload_n C dX9_spoilProof_16 2 rfl ?_
    refine m_i2l C dX9_spoilProof_17 ?_
    refine m_lconst C (0 : Int64) dX9_spoilProof_18 (by decide) ?_
    refine m_ldc2 C (31) dX9_spoilProof_19 lk_X9_265 ?_
    have t10 : (k.toInt64).toInt = k.toInt := i2l_t _
    have t11 : (0 : Int64).toInt = 0 := by decide
    have t12 : (31 : Int64).toInt = 31 := by decide
    refine m_invS C cal_X9_in (c_X9_in l hX g (k.toInt64) (0 : Int64) (31 : Int64) ) lk_X9_185 st_X9_in (by decide) rfl rfl (Nat.le_of_ble_eq_true rfl) dX9_spoilProof_22 ⟨Nat.le_refl _, Nat.le_refl _⟩ (rI fun r13 g14 q15 => ?_)
    obtain ⟨eg14, ⟨rfl, h16⟩ | ⟨rfl, h16⟩⟩ := q15
    · skip
      subst g14
      refine m_if_eq C 40 dX9_spoilProof_25 (by decide) (fun h => absurd h (by decide)) (fun _ => ?_)
      refine m_iload_n C dX9_spoilProof_28 3 rfl ?_
      refine m_i2l C dX9_spoilProof_29 ?_
      refine m_lconst C (1 : Int64) dX9_spoilProof_30 (by decide) ?_
      refine m_ldc2 C (255) dX9_spoilProof_31 lk_X9_291 ?_
      have t17 : (v.toInt64).toInt = v.toInt := i2l_t _
      have t18 : (1 : Int64).toInt = 1 := by decide
      have t19 : (255 : Int64).toInt = 255 := by decide
      refine m_invS C cal_X9_in (c_X9_in l hX g (v.toInt64) (1 : Int64) (255 : Int64) ) lk_X9_185 st_X9_in (by decide) rfl rfl (Nat.le_of_ble_eq_true rfl) dX9_spoilProof_34 ⟨Nat.le_refl _, Nat.le_refl _⟩ (rI fun r20 g21 q22 => ?_)
      obtain ⟨eg21, ⟨rfl, h23⟩ | ⟨rfl, h23⟩⟩ := q22
      · skip
        subst g21
        refine m_if_ne C 43 dX9_spoilProof_37 (by decide) (fun _ => ?_) (fun h => absurd h (by decide))
        refine m_aload_n C dX9_spoilProof_43 0 rfl ?_
        refine m_getr (rf := "") C 27 rfl gd9 (by decide) sh_34 rfl dX9_spoilProof_44 lk_X9_65 ?_
        refine m_bipush C (32 : Int32) dX9_spoilProof_47 (by decide) ?_
        refine m_iload_n C dX9_spoilProof_49 1 rfl ?_
        refine m_imul C dX9_spoilProof_50 ?_
        refine m_iload_n C dX9_spoilProof_51 2 rfl ?_
        refine m_iadd C dX9_spoilProof_52 ?_
        have t24 : ((32 : Int32) * h).toInt = (32 : Int) * h.toInt := i_mul (by decide) rfl (by omega) (by omega)
        have t25 : (((32 : Int32) * h) + k).toInt = ((32 : Int) * h.toInt) + k.toInt := i_add t24 rfl (by omega) (by omega)
        refine m_iald C sh_53 (i_in (by omega) (by omega)) dX9_spoilProof_53 ?_
        refine m_name (fun x26 ex26 => ?_)
        refine m_istore C [(4, .int x26), (0, .ref (aL X 34)), (1, .int h), (2, .int k), (3, .int v)] dX9_spoilProof_54 (by decide) rfl ?_
        refine m_aload_n C dX9_spoilProof_56 1 rfl ?_
        refine m_getr (rf := "") C 27 rfl gd9 (by decide) sh_34 rfl dX9_spoilProof_57 lk_X9_65 ?_
        refine m_bipush C (32 : Int32) dX9_spoilProof_60 (by decide) ?_
        refine m_iload_n C dX9_spoilProof_62 2 rfl ?_
        refine m_imul C dX9_spoilProof_63 ?_
        refine m_iload_n C dX9_spoilProof_64 3 rfl ?_
        refine m_iadd C dX9_spoilProof_65 ?_
        refine m_iload C dX9_spoilProof_66 0 rfl ?_
        refine m_iload_n C dX9_spoilProof_68 4 rfl ?_
        refine m_ixor C dX9_spoilProof_69 ?_
        have t27 : ((32 : Int32) * h).toInt = (32 : Int) * h.toInt := i_mul (by decide) rfl (by omega) (by omega)
        have t28 : (((32 : Int32) * h) + k).toInt = ((32 : Int) * h.toInt) + k.toInt := i_add t27 rfl (by omega) (by omega)
        refine m_iast C sh_53 (i_in (by omega) (by omega)) dX9_spoilProof_70 ?_
        refine m_mem (fun g29 eg29 => ?_)
        have hI30 : Inv g29 := by rw [eg29]; exact hI.up (ok_any (by decide))
        have hK31 : Kq [53] [] g g29 := by rw [eg29]; exact Kq.upA Kq.rf (by decide) (by decide)
        have ev32 : g29 34 26 = g 34 26 := by rw [eg29]; exact up2_nei (Or.inl (by decide))
        have tev32 := congrArg Int32.toInt ev32
        refine m_iload C dX9_spoilProof_71 0 rfl ?_
        exact m_iret C dX9_spoilProof_73 ⟨_, rfl, hI30, hK31⟩
      · skip
        subst g21
        refine m_if_ne C 43 dX9_spoilProof_37 (by decide) (fun h => absurd (by decide) h) (fun _ => ?_)
        refine m_bipush C (-2 : Int32) dX9_spoilProof_40 (by decide) ?_
        exact m_iret C dX9_spoilProof_42 ⟨_, rfl, hI, Kq.rf⟩
    · skip
      subst g14
      refine m_if_eq C 40 dX9_spoilProof_25 (by decide) (fun _ => ?_) (fun h => absurd (by decide) h)
      refine m_bipush C (-2 : Int32) dX9_spoilProof_40 (by decide) ?_
      exact m_iret C dX9_spoilProof_42 ⟨_, rfl, hI, Kq.rf⟩
  · skip
    subst g7
    refine m_if_eq C 40 dX9_spoilProof_13 (by decide) (fun _ => ?_) (fun h => absurd (by decide) h)
    refine m_bipush C (-2 : Int32) dX9_spoilProof_40 (by decide) ?_
    exact m_iret C dX9_spoilProof_42 ⟨_, rfl, hI, Kq.rf⟩
set_option maxRecDepth 20000 in
set_option maxHeartbeats 4000000 in
theorem c_X9_cutProof (l : Launch) {X : XT} (hX : Lok X) (g : Mem) (n0 : Int32) (hI : Inv g) : Ctr l X yX9_cutProof cX9_cutProof 3 (some .int) (rmD 1) [.ref (aL X 34), .int n0] g (pI (fun r g2 => Inv g2 ∧ Kq [] [26] g g2)) := by
  refine Ctr.of (lv := [(0, .ref (aL X 34)), (1, .int n0)]) hX (by decide) rfl (Nat.le_of_ble_eq_true rfl) ?_
  intro p e s m below meth c C
  refine m_iload_n C dX9_cutProof_0 1 rfl ?_
  refine m_i2l C dX9_cutProof_1 ?_
  refine m_lconst C (0 : Int64) dX9_cutProof_2 (by decide) ?_
  refine m_aload_n C dX9_cutProof_3 0 rfl ?_
  refine m_geti (rf := "") C 26 rfl gd9 (by decide) sh_34 rfl dX9_cutProof_4 lk_X9_281 ?_
  have r1 := iv_pmany hI
  refine m_i2l C dX9_cutProof_7 ?_
  have t2 : (n0.toInt64).toInt = n0.toInt := i2l_t _
  have t3 : (0 : Int64).toInt = 0 := by decide
  have t4 : ((g 34 26).toInt64).toInt = (g 34 26).toInt := i2l_t _
  refine m_invS C cal_X9_in (c_X9_in l hX g (n0.toInt64) (0 : Int64) ((g 34 26).toInt64) ) lk_X9_185 st_X9_in (by decide) rfl rfl (Nat.le_of_ble_eq_true rfl) dX9_cutProof_8 ⟨Nat.le_refl _, Nat.le_refl _⟩ (rI fun r5 g6 q7 => ?_)
  obtain ⟨eg6, ⟨rfl, h8⟩ | ⟨rfl, h8⟩⟩ := q7
  · skip
    subst g6
    refine m_if_ne C 17 dX9_cutProof_11 (by decide) (fun _ => ?_) (fun h => absurd h (by decide))
    refine m_aload_n C dX9_cutProof_17 0 rfl ?_
    refine m_geti (rf := "") C 26 rfl gd9 (by decide) sh_34 rfl dX9_cutProof_18 lk_X9_281 ?_
    have r9 := iv_pmany hI
    refine m_iload_n C dX9_cutProof_21 1 rfl ?_
    refine m_isub C dX9_cutProof_22 ?_
    refine m_name (fun x10 ex10 => ?_)
    have t11 : ((g 34 26) - n0).toInt = (g 34 26).toInt - n0.toInt := i_sub rfl rfl (by omega) (by omega)
    have t12 : x10.toInt = ((g 34 26).toInt - n0.toInt) := (congrArg Int32.toInt ex10).trans t11
    refine m_istore_n C [(2, .int x10), (0, .ref (aL X 34)), (1, .int n0)] dX9_cutProof_23 (by decide) rfl ?_
    refine m_aload_n C dX9_cutProof_24 1 rfl ?_
    refine m_iload_n C dX9_cutProof_25 2 rfl ?_
    refine m_put (rf := "") C 26 rfl gd9 (by decide) tyX9 tyX9_ok nmX9 rfl (tyX9_ok 26 (by decide)) rfl rfl sh_34 rfl dX9_cutProof_26 lk_X9_281 ?_
    refine m_mem (fun g13 eg13 => ?_)
    have hI14 : Inv g13 := by rw [eg13]; exact hI.up (ok_pmany (by omega) (by omega))
    have hK15 : Kq [] [26] g g13 := by rw [eg13]; exact Kq.upF Kq.rf (by decide)
    refine m_iload_n C dX9_cutProof_29 0 rfl ?_
    exact m_iret C dX9_cutProof_30 ⟨_, rfl, hI14, hK15⟩
  · skip
    subst g6
    refine m_if_ne C 17 dX9_cutProof_11 (by decide) (fun h => absurd (by decide) h) (fun _ => ?_)
    refine m_bipush C (-2 : Int32) dX9_cutProof_14 (by decide) ?_
    exact m_iret C dX9_cutProof_16 ⟨_, rfl, hI, Kq.rf⟩
set_option maxRecDepth 20000 in
set_option maxHeartbeats 4000000 in
theorem c_X9_kept (l : Launch) {X : XT} (hX : Lok X) (g : Mem) (q : Int32) (k : Int32) (hI : Inv g) : Ctr l X yX9_kept cX9_kept 3 (some .int) (rmD 1) [.ref (aL X 34), .int q, .int k] g (pI (fun r g2 => g2 = g ∧ True)) := by
  refine Ctr.of (lv := [(0, .ref (aL X 34)), (1, .int q), (2, .int k)]) hX (by decide) rfl (Nat.le_of_ble_eq_true rfl) ?_
  intro p e s m below meth c C
  refine m_iload_n C dX9_kept_0 1 rfl ?_
  refine m_i2l C dX9_kept_1 ?_
  refine m_lconst C (0 : Int64) dX9_kept_2 (by decide) ?_
  refine m_ldc2 C (3) dX9_kept_3 lk_X9_234 ?_
  have t1 : (q.toInt64).toInt = q.toInt := i2l_t _
  have t2 : (0 : Int64).toInt = 0 := by decide
  have t3 : (3 : Int64).toInt = 3 := by decide
  refine m_invS C cal_X9_in (c_X9_in l hX g (q.toInt64) (0 : Int64) (3 : Int64) ) lk_X9_185 st_X9_in (by decide) rfl rfl (Nat.le_of_ble_eq_true rfl) dX9_kept_6 ⟨Nat.le_refl _, Nat.le_refl _⟩ (rI fun r4 g5 q6 => ?_)
  obtain ⟨eg5, ⟨rfl, h7⟩ | ⟨rfl, h7⟩⟩ := q6
  · skip
    subst g5
    refine m_if_eq C 38 dX9_kept_9 (by decide) (fun h => absurd h (by decide)) (fun _ => ?_)
    refine m_iload_n C dX9_kept_12 2 rfl ?_
    refine m_i2l C dX9_kept_13 ?_
    refine m_lconst C (0 : Int64) dX9_kept_14 (by decide) ?_
    refine m_ldc2 C (31) dX9_kept_15 lk_X9_265 ?_
    have t8 : (k.toInt64).toInt = k.toInt := i2l_t _
    have t9 : (0 : Int64).toInt = 0 := by decide
    have t10 : (31 : Int64).toInt = 31 := by decide
    refine m_invS C cal_X9_in (c_X9_in l hX g (k.toInt64) (0 : Int64) (31 : Int64) ) lk_X9_185 st_X9_in (by decide) rfl rfl (Nat.le_of_ble_eq_true rfl) dX9_kept_18 ⟨Nat.le_refl _, Nat.le_refl _⟩ (rI fun r11 g12 q13 => ?_)
    obtain ⟨eg12, ⟨rfl, h14⟩ | ⟨rfl, h14⟩⟩ := q13
    · skip
      subst g12
      refine m_if_eq C 38 dX9_kept_21 (by decide) (fun h => absurd h (by decide)) (fun _ => ?_)
      refine m_aload_n C dX9_kept_24 0 rfl ?_
      refine m_getr (rf := "") C 30 rfl gd9 (by decide) sh_34 rfl dX9_kept_25 lk_X9_74 ?_
      refine m_bipush C (32 : Int32) dX9_kept_28 (by decide) ?_
      refine m_iload_n C dX9_kept_30 1 rfl ?_
      refine m_imul C dX9_kept_31 ?_
      refine m_iload_n C dX9_kept_32 2 rfl ?_
      refine m_iadd C dX9_kept_33 ?_
      have t15 : ((32 : Int32) * q).toInt = (32 : Int) * q.toInt := i_mul (by decide) rfl (by omega) (by omega)
      have t16 : (((32 : Int32) * q) + k).toInt = ((32 : Int) * q.toInt) + k.toInt := i_add t15 rfl (by omega) (by omega)
      refine m_iald C sh_56 (i_in (by omega) (by omega)) dX9_kept_34 ?_
      refine m_goto C 40 dX9_kept_35 (by decide) ?_
      exact m_iret C dX9_kept_40 ⟨_, rfl, rfl, trivial⟩
    · skip
      subst g12
      refine m_if_eq C 38 dX9_kept_21 (by decide) (fun _ => ?_) (fun h => absurd (by decide) h)
      refine m_bipush C (-2 : Int32) dX9_kept_38 (by decide) ?_
      exact m_iret C dX9_kept_40 ⟨_, rfl, rfl, trivial⟩
  · skip
    subst g5
    refine m_if_eq C 38 dX9_kept_9 (by decide) (fun _ => ?_) (fun h => absurd (by decide) h)
    refine m_bipush C (-2 : Int32) dX9_kept_38 (by decide) ?_
    exact m_iret C dX9_kept_40 ⟨_, rfl, rfl, trivial⟩
set_option maxRecDepth 20000 in
set_option maxHeartbeats 4000000 in
theorem c_X9_spoilKept (l : Launch) {X : XT} (hX : Lok X) (g : Mem) (q : Int32) (k : Int32) (v : Int32) (hI : Inv g) : Ctr l X yX9_spoilKept cX9_spoilKept 5 (some .int) (rmD 1) [.ref (aL X 34), .int q, .int k, .int v] g (pI (fun r g2 => Inv g2 ∧ Kq [56] [] g g2)) := by
  refine Ctr.of (lv := [(0, .ref (aL X 34)), (1, .int q), (2, .int k), (3, .int v)]) hX (by decide) rfl (Nat.le_of_ble_eq_true rfl) ?_
  intro p e s m below meth c C
  refine m_iload_n C dX9_spoilKept_0 1 rfl ?_
  refine m_i2l C dX9_spoilKept_1 ?_
  refine m_lconst C (0 : Int64) dX9_spoilKept_2 (by decide) ?_
  refine m_ldc2 C (3) dX9_spoilKept_3 lk_X9_234 ?_
  have t1 : (q.toInt64).toInt = q.toInt := i2l_t _
  have t2 : (0 : Int64).toInt = 0 := by decide
  have t3 : (3 : Int64).toInt = 3 := by decide
  refine m_invS C cal_X9_in (c_X9_in l hX g (q.toInt64) (0 : Int64) (3 : Int64) ) lk_X9_185 st_X9_in (by decide) rfl rfl (Nat.le_of_ble_eq_true rfl) dX9_spoilKept_6 ⟨Nat.le_refl _, Nat.le_refl _⟩ (rI fun r4 g5 q6 => ?_)
  obtain ⟨eg5, ⟨rfl, h7⟩ | ⟨rfl, h7⟩⟩ := q6
  · skip
    subst g5
    refine m_if_eq C 36 dX9_spoilKept_9 (by decide) (fun h => absurd h (by decide)) (fun _ => ?_)
    refine m_iload_n C dX9_spoilKept_12 2 rfl ?_
    refine m_i2l C dX9_spoilKept_13 ?_
    refine m_lconst C (0 : Int64) dX9_spoilKept_14 (by decide) ?_
    refine m_ldc2 C (31) dX9_spoilKept_15 lk_X9_265 ?_
    have t8 : (k.toInt64).toInt = k.toInt := i2l_t _
    have t9 : (0 : Int64).toInt = 0 := by decide
    have t10 : (31 : Int64).toInt = 31 := by decide
    refine m_invS C cal_X9_in (c_X9_in l hX g (k.toInt64) (0 : Int64) (31 : Int64) ) lk_X9_185 st_X9_in (by decide) rfl rfl (Nat.le_of_ble_eq_true rfl) dX9_spoilKept_18 ⟨Nat.le_refl _, Nat.le_refl _⟩ (rI fun r11 g12 q13 => ?_)
    obtain ⟨eg12, ⟨rfl, h14⟩ | ⟨rfl, h14⟩⟩ := q13
    · skip
      subst g12
      refine m_if_eq C 36 dX9_spoilKept_21 (by decide) (fun h => absurd h (by decide)) (fun _ => ?_)
      refine m_iload_n C dX9_spoilKept_24 3 rfl ?_
      refine m_i2l C dX9_spoilKept_25 ?_
      refine m_lconst C (1 : Int64) dX9_spoilKept_26 (by decide) ?_
      refine m_ldc2 C (255) dX9_spoilKept_27 lk_X9_291 ?_
      have t15 : (v.toInt64).toInt = v.toInt := i2l_t _
      have t16 : (1 : Int64).toInt = 1 := by decide
      have t17 : (255 : Int64).toInt = 255 := by decide
      refine m_invS C cal_X9_in (c_X9_in l hX g (v.toInt64) (1 : Int64) (255 : Int64) ) lk_X9_185 st_X9_in (by decide) rfl rfl (Nat.le_of_ble_eq_true rfl) dX9_spoilKept_30 ⟨Nat.le_refl _, Nat.le_refl _⟩ (rI fun r18 g19 q20 => ?_)
      obtain ⟨eg19, ⟨rfl, h21⟩ | ⟨rfl, h21⟩⟩ := q20
      · skip
        subst g19
        refine m_if_ne C 39 dX9_spoilKept_33 (by decide) (fun _ => ?_) (fun h => absurd h (by decide))
        refine m_aload_n C dX9_spoilKept_39 0 rfl ?_
        refine m_getr (rf := "") C 30 rfl gd9 (by decide) sh_34 rfl dX9_spoilKept_40 lk_X9_74 ?_
        refine m_bipush C (32 : Int32) dX9_spoilKept_43 (by decide) ?_
        refine m_iload_n C dX9_spoilKept_45 1 rfl ?_
        refine m_imul C dX9_spoilKept_46 ?_
        refine m_iload_n C dX9_spoilKept_47 2 rfl ?_
        refine m_iadd C dX9_spoilKept_48 ?_
        have t22 : ((32 : Int32) * q).toInt = (32 : Int) * q.toInt := i_mul (by decide) rfl (by omega) (by omega)
        have t23 : (((32 : Int32) * q) + k).toInt = ((32 : Int) * q.toInt) + k.toInt := i_add t22 rfl (by omega) (by omega)
        refine m_iald C sh_56 (i_in (by omega) (by omega)) dX9_spoilKept_49 ?_
        refine m_name (fun x24 ex24 => ?_)
        refine m_istore C [(4, .int x24), (0, .ref (aL X 34)), (1, .int q), (2, .int k), (3, .int v)] dX9_spoilKept_50 (by decide) rfl ?_
        refine m_aload_n C dX9_spoilKept_52 1 rfl ?_
        refine m_getr (rf := "") C 30 rfl gd9 (by decide) sh_34 rfl dX9_spoilKept_53 lk_X9_74 ?_
        refine m_bipush C (32 : Int32) dX9_spoilKept_56 (by decide) ?_
        refine m_iload_n C dX9_spoilKept_58 2 rfl ?_
        refine m_imul C dX9_spoilKept_59 ?_
        refine m_iload_n C dX9_spoilKept_60 3 rfl ?_
        refine m_iadd C dX9_spoilKept_61 ?_
        refine m_iload C dX9_spoilKept_62 0 rfl ?_
        refine m_iload_n C dX9_spoilKept_64 4 rfl ?_
        refine m_ixor C dX9_spoilKept_65 ?_
        have t25 : ((32 : Int32) * q).toInt = (32 : Int) * q.toInt := i_mul (by decide) rfl (by omega) (by omega)
        have t26 : (((32 : Int32) * q) + k).toInt = ((32 : Int) * q.toInt) + k.toInt := i_add t25 rfl (by omega) (by omega)
        refine m_iast C sh_56 (i_in (by omega) (by omega)) dX9_spoilKept_66 ?_
        refine m_mem (fun g27 eg27 => ?_)
        have hI28 : Inv g27 := by rw [eg27]; exact hI.up (ok_any (by decide))
        have hK29 : Kq [56] [] g g27 := by rw [eg27]; exact Kq.upA Kq.rf (by decide) (by decide)
        refine m_iload C dX9_spoilKept_67 0 rfl ?_
        exact m_iret C dX9_spoilKept_69 ⟨_, rfl, hI28, hK29⟩
      · skip
        subst g19
        refine m_if_ne C 39 dX9_spoilKept_33 (by decide) (fun h => absurd (by decide) h) (fun _ => ?_)
        refine m_bipush C (-2 : Int32) dX9_spoilKept_36 (by decide) ?_
        exact m_iret C dX9_spoilKept_38 ⟨_, rfl, hI, Kq.rf⟩
    · skip
      subst g12
      refine m_if_eq C 36 dX9_spoilKept_21 (by decide) (fun _ => ?_) (fun h => absurd (by decide) h)
      refine m_bipush C (-2 : Int32) dX9_spoilKept_36 (by decide) ?_
      exact m_iret C dX9_spoilKept_38 ⟨_, rfl, hI, Kq.rf⟩
  · skip
    subst g5
    refine m_if_eq C 36 dX9_spoilKept_9 (by decide) (fun _ => ?_) (fun h => absurd (by decide) h)
    refine m_bipush C (-2 : Int32) dX9_spoilKept_36 (by decide) ?_
    exact m_iret C dX9_spoilKept_38 ⟨_, rfl, hI, Kq.rf⟩
set_option maxRecDepth 20000 in
set_option maxHeartbeats 4000000 in
theorem c_X9_isLike_57_56 (l : Launch) {X : XT} (hX : Lok X) (g : Mem) (i0 : Int32) (j0 : Int32) (hI : Inv g) (h_i0 : 0 ≤ i0.toInt ∧ i0.toInt ≤ 0) (h_j0 : 0 ≤ j0.toInt ∧ j0.toInt ≤ 96) : Ctr l X yX9_isLike cX9_isLike 6 (some .boolean) (rmD 0) [.ref (aL X 57), .int i0, .ref (aL X 56), .int j0] g (pI (fun r g2 => Inv g2 ∧ Kq [] [] g g2 ∧ R01 r)) := by
  refine Ctr.of (lv := [(0, .ref (aL X 57)), (1, .int i0), (2, .ref (aL X 56)), (3, .int j0)]) hX (by decide) rfl (Nat.le_of_ble_eq_true rfl) ?_
  intro p e s m below meth c C
  refine m_iconst C (1 : Int32) dX9_isLike_0 (by decide) ?_
  refine m_istore C [(4, .int (1 : Int32)), (0, .ref (aL X 57)), (1, .int i0), (2, .ref (aL X 56)), (3, .int j0)] dX9_isLike_1 (by decide) rfl ?_
  refine m_iconst C (0 : Int32) dX9_isLike_3 (by decide) ?_
  refine m_istore C [(5, .int (0 : Int32)), (4, .int (1 : Int32)), (0, .ref (aL X 57)), (1, .int i0), (2, .ref (aL X 56)), (3, .int j0)] dX9_isLike_4 (by decide) rfl ?_
  have L6 : ∀ (n6 : Nat) (x3 : Int32) (x4 : Int32) (g5 : Mem), (33 - x4.toInt).toNat < n6 → Inv g5 → Kq [] [] g g5 → 0 ≤ x4.toInt ∧ x4.toInt ≤ 32 → R01 x3 → Wm X p l e (rmD 0) s m ([.ref (aL X 57), .int i0, .ref (aL X 56), .int j0] : List Value).toArray below meth c 6 0 0 (MQ below (cQ X (pI (fun r g2 => Inv g2 ∧ Kq [] [] g g2 ∧ R01 r))) ([.ref (aL X 57), .int i0, .ref (aL X 56), .int j0] : List Value).toArray s 0 0 (Ab X)) g5 6 [(0, .ref (aL X 57)), (1, .int i0), (2, .ref (aL X 56)), (3, .int j0), (4, .int x3), (5, .int x4)] [] := by
    intro n6
    induction n6 with
    | zero => intro x3 x4 g5 hm; exact absurd hm (Nat.not_lt_zero _)
    | succ n6 ih6 =>
      intro x3 x4 g5 hm6 hI6 hK7 i8 i9
      obtain ⟨i8a, i8b⟩ := i8
      refine m_iload C dX9_isLike_6 5 rfl ?_
      refine m_bipush C (32 : Int32) dX9_isLike_8 (by decide) ?_
      refine m_icmp_ge C 44 dX9_isLike_10 (by decide) (fun h10 => ?_) (fun h10 => ?_)
      · skip
        have th10 := i_le h10
        rw [show (32 : Int32).toInt = 32 by decide] at th10
        refine m_iload C dX9_isLike_44 4 rfl ?_
        exact m_zret C dX9_isLike_46 (R01.nar (by assumption)) ⟨_, rfl, hI6, hK7, (by assumption)⟩
      · skip
        have th10 := i_nle h10
        rw [show (32 : Int32).toInt = 32 by decide] at th10
        refine m_iload C dX9_isLike_13 4 rfl ?_
        refine m_aload_n C dX9_isLike_15 0 rfl ?_
        refine m_iload_n C dX9_isLike_16 1 rfl ?_
        refine m_iload C dX9_isLike_17 5 rfl ?_
        refine m_iadd C dX9_isLike_19 ?_
        have t11 : (i0 + x4).toInt = i0.toInt + x4.toInt := i_add rfl rfl (by omega) (by omega)
        refine m_iald C sh_57 (i_in (by omega) (by omega)) dX9_isLike_20 ?_
        refine m_aload_n C dX9_isLike_21 2 rfl ?_
        refine m_iload_n C dX9_isLike_22 3 rfl ?_
        refine m_iload C dX9_isLike_23 5 rfl ?_
        refine m_iadd C dX9_isLike_25 ?_
        have t12 : (j0 + x4).toInt = j0.toInt + x4.toInt := i_add rfl rfl (by omega) (by omega)
        refine m_iald C sh_56 (i_in (by omega) (by omega)) dX9_isLike_26 ?_
        refine m_icmp_ne C 34 dX9_isLike_27 (by decide) (fun h13 => ?_) (fun h13 => ?_)
        · skip
          have th13 := i_ne h13
          refine m_iconst C (0 : Int32) dX9_isLike_34 (by decide) ?_
          refine m_iand C dX9_isLike_35 ?_
          refine m_name (fun x14 ex14 => ?_)
          have t15 : 0 ≤ (x3 &&& (0 : Int32)).toInt ∧ (x3 &&& (0 : Int32)).toInt < 1 := i_and _ 0 (by decide) (by decide)
          have t16 : x14.toInt = (x3 &&& (0 : Int32)).toInt := (congrArg Int32.toInt ex14).trans rfl
          refine m_istore C [(4, .int x14), (0, .ref (aL X 57)), (1, .int i0), (2, .ref (aL X 56)), (3, .int j0), (5, .int x4)] dX9_isLike_36 (by decide) rfl ?_
          obtain ⟨x17, ex17⟩ : ∃ z : Int32, z = x4 + Int32.ofInt 1 := ⟨_, rfl⟩
          have t18 : (x4 + (Int32.ofInt 1)).toInt = x4.toInt + (1 : Int) := i_add rfl (by decide) (by omega) (by omega)
          have t19 : x17.toInt = (x4.toInt + (1 : Int)) := (congrArg Int32.toInt ex17).trans t18
          refine m_iinc C x17 [(5, .int x17), (4, .int x14), (0, .ref (aL X 57)), (1, .int i0), (2, .ref (aL X 56)), (3, .int j0)] dX9_isLike_38 (q := 5) rfl ex17.symm (by decide) rfl ?_
          refine m_goto C 6 dX9_isLike_41 (by decide) ?_
          refine m_lv [2, 3, 4, 5, 1, 0] rfl ?_
          exact ih6 x14 x17 g5 (by omega) hI6 hK7 (by omega) (by rw [ex14]; first | exact (R01.orc (by assumption)).2.2.1 | exact (R01.orc (by assumption)).2.2.2)
        · skip
          have th13 := i_eq h13
          refine m_iconst C (1 : Int32) dX9_isLike_30 (by decide) ?_
          refine m_goto C 35 dX9_isLike_31 (by decide) ?_
          refine m_iand C dX9_isLike_35 ?_
          refine m_name (fun x20 ex20 => ?_)
          have t21 : 0 ≤ (x3 &&& (1 : Int32)).toInt ∧ (x3 &&& (1 : Int32)).toInt < 2 := i_and _ 1 (by decide) (by decide)
          have t22 : x20.toInt = (x3 &&& (1 : Int32)).toInt := (congrArg Int32.toInt ex20).trans rfl
          refine m_istore C [(4, .int x20), (0, .ref (aL X 57)), (1, .int i0), (2, .ref (aL X 56)), (3, .int j0), (5, .int x4)] dX9_isLike_36 (by decide) rfl ?_
          obtain ⟨x23, ex23⟩ : ∃ z : Int32, z = x4 + Int32.ofInt 1 := ⟨_, rfl⟩
          have t24 : (x4 + (Int32.ofInt 1)).toInt = x4.toInt + (1 : Int) := i_add rfl (by decide) (by omega) (by omega)
          have t25 : x23.toInt = (x4.toInt + (1 : Int)) := (congrArg Int32.toInt ex23).trans t24
          refine m_iinc C x23 [(5, .int x23), (4, .int x20), (0, .ref (aL X 57)), (1, .int i0), (2, .ref (aL X 56)), (3, .int j0)] dX9_isLike_38 (q := 5) rfl ex23.symm (by decide) rfl ?_
          refine m_goto C 6 dX9_isLike_41 (by decide) ?_
          refine m_lv [2, 3, 4, 5, 1, 0] rfl ?_
          exact ih6 x20 x23 g5 (by omega) hI6 hK7 (by omega) (by rw [ex20]; first | exact (R01.orc (by assumption)).2.2.1 | exact (R01.orc (by assumption)).2.2.2)
  have t26 : (1 : Int32).toInt = 1 := by decide
  have t27 : (0 : Int32).toInt = 0 := by decide
  refine m_lv [2, 3, 4, 5, 1, 0] rfl ?_
  exact L6 (((33 - (0 : Int32).toInt).toNat) + 1) (1 : Int32) (0 : Int32) g (Nat.lt_succ_self _) hI Kq.rf (by omega) (Or.inr rfl)
set_option maxRecDepth 20000 in
set_option maxHeartbeats 4000000 in
theorem c_X9_isLike_56_56 (l : Launch) {X : XT} (hX : Lok X) (g : Mem) (i0 : Int32) (j0 : Int32) (hI : Inv g) (h_i0 : 0 ≤ i0.toInt ∧ i0.toInt ≤ 96) (h_j0 : 0 ≤ j0.toInt ∧ j0.toInt ≤ 96) : Ctr l X yX9_isLike cX9_isLike 6 (some .boolean) (rmD 0) [.ref (aL X 56), .int i0, .ref (aL X 56), .int j0] g (pI (fun r g2 => Inv g2 ∧ Kq [] [] g g2 ∧ R01 r)) := by
  refine Ctr.of (lv := [(0, .ref (aL X 56)), (1, .int i0), (2, .ref (aL X 56)), (3, .int j0)]) hX (by decide) rfl (Nat.le_of_ble_eq_true rfl) ?_
  intro p e s m below meth c C
  refine m_iconst C (1 : Int32) dX9_isLike_0 (by decide) ?_
  refine m_istore C [(4, .int (1 : Int32)), (0, .ref (aL X 56)), (1, .int i0), (2, .ref (aL X 56)), (3, .int j0)] dX9_isLike_1 (by decide) rfl ?_
  refine m_iconst C (0 : Int32) dX9_isLike_3 (by decide) ?_
  refine m_istore C [(5, .int (0 : Int32)), (4, .int (1 : Int32)), (0, .ref (aL X 56)), (1, .int i0), (2, .ref (aL X 56)), (3, .int j0)] dX9_isLike_4 (by decide) rfl ?_
  have L6 : ∀ (n6 : Nat) (x3 : Int32) (x4 : Int32) (g5 : Mem), (33 - x4.toInt).toNat < n6 → Inv g5 → Kq [] [] g g5 → 0 ≤ x4.toInt ∧ x4.toInt ≤ 32 → R01 x3 → Wm X p l e (rmD 0) s m ([.ref (aL X 56), .int i0, .ref (aL X 56), .int j0] : List Value).toArray below meth c 6 0 0 (MQ below (cQ X (pI (fun r g2 => Inv g2 ∧ Kq [] [] g g2 ∧ R01 r))) ([.ref (aL X 56), .int i0, .ref (aL X 56), .int j0] : List Value).toArray s 0 0 (Ab X)) g5 6 [(0, .ref (aL X 56)), (1, .int i0), (2, .ref (aL X 56)), (3, .int j0), (4, .int x3), (5, .int x4)] [] := by
    intro n6
    induction n6 with
    | zero => intro x3 x4 g5 hm; exact absurd hm (Nat.not_lt_zero _)
    | succ n6 ih6 =>
      intro x3 x4 g5 hm6 hI6 hK7 i8 i9
      obtain ⟨i8a, i8b⟩ := i8
      refine m_iload C dX9_isLike_6 5 rfl ?_
      refine m_bipush C (32 : Int32) dX9_isLike_8 (by decide) ?_
      refine m_icmp_ge C 44 dX9_isLike_10 (by decide) (fun h10 => ?_) (fun h10 => ?_)
      · skip
        have th10 := i_le h10
        rw [show (32 : Int32).toInt = 32 by decide] at th10
        refine m_iload C dX9_isLike_44 4 rfl ?_
        exact m_zret C dX9_isLike_46 (R01.nar (by assumption)) ⟨_, rfl, hI6, hK7, (by assumption)⟩
      · skip
        have th10 := i_nle h10
        rw [show (32 : Int32).toInt = 32 by decide] at th10
        refine m_iload C dX9_isLike_13 4 rfl ?_
        refine m_aload_n C dX9_isLike_15 0 rfl ?_
        refine m_iload_n C dX9_isLike_16 1 rfl ?_
        refine m_iload C dX9_isLike_17 5 rfl ?_
        refine m_iadd C dX9_isLike_19 ?_
        have t11 : (i0 + x4).toInt = i0.toInt + x4.toInt := i_add rfl rfl (by omega) (by omega)
        refine m_iald C sh_56 (i_in (by omega) (by omega)) dX9_isLike_20 ?_
        refine m_aload_n C dX9_isLike_21 2 rfl ?_
        refine m_iload_n C dX9_isLike_22 3 rfl ?_
        refine m_iload C dX9_isLike_23 5 rfl ?_
        refine m_iadd C dX9_isLike_25 ?_
        have t12 : (j0 + x4).toInt = j0.toInt + x4.toInt := i_add rfl rfl (by omega) (by omega)
        refine m_iald C sh_56 (i_in (by omega) (by omega)) dX9_isLike_26 ?_
        refine m_icmp_ne C 34 dX9_isLike_27 (by decide) (fun h13 => ?_) (fun h13 => ?_)
        · skip
          have th13 := i_ne h13
          refine m_iconst C (0 : Int32) dX9_isLike_34 (by decide) ?_
          refine m_iand C dX9_isLike_35 ?_
          refine m_name (fun x14 ex14 => ?_)
          have t15 : 0 ≤ (x3 &&& (0 : Int32)).toInt ∧ (x3 &&& (0 : Int32)).toInt < 1 := i_and _ 0 (by decide) (by decide)
          have t16 : x14.toInt = (x3 &&& (0 : Int32)).toInt := (congrArg Int32.toInt ex14).trans rfl
          refine m_istore C [(4, .int x14), (0, .ref (aL X 56)), (1, .int i0), (2, .ref (aL X 56)), (3, .int j0), (5, .int x4)] dX9_isLike_36 (by decide) rfl ?_
          obtain ⟨x17, ex17⟩ : ∃ z : Int32, z = x4 + Int32.ofInt 1 := ⟨_, rfl⟩
          have t18 : (x4 + (Int32.ofInt 1)).toInt = x4.toInt + (1 : Int) := i_add rfl (by decide) (by omega) (by omega)
          have t19 : x17.toInt = (x4.toInt + (1 : Int)) := (congrArg Int32.toInt ex17).trans t18
          refine m_iinc C x17 [(5, .int x17), (4, .int x14), (0, .ref (aL X 56)), (1, .int i0), (2, .ref (aL X 56)), (3, .int j0)] dX9_isLike_38 (q := 5) rfl ex17.symm (by decide) rfl ?_
          refine m_goto C 6 dX9_isLike_41 (by decide) ?_
          refine m_lv [2, 3, 4, 5, 1, 0] rfl ?_
          exact ih6 x14 x17 g5 (by omega) hI6 hK7 (by omega) (by rw [ex14]; first | exact (R01.orc (by assumption)).2.2.1 | exact (R01.orc (by assumption)).2.2.2)
        · skip
          have th13 := i_eq h13
          refine m_iconst C (1 : Int32) dX9_isLike_30 (by decide) ?_
          refine m_goto C 35 dX9_isLike_31 (by decide) ?_
          refine m_iand C dX9_isLike_35 ?_
          refine m_name (fun x20 ex20 => ?_)
          have t21 : 0 ≤ (x3 &&& (1 : Int32)).toInt ∧ (x3 &&& (1 : Int32)).toInt < 2 := i_and _ 1 (by decide) (by decide)
          have t22 : x20.toInt = (x3 &&& (1 : Int32)).toInt := (congrArg Int32.toInt ex20).trans rfl
          refine m_istore C [(4, .int x20), (0, .ref (aL X 56)), (1, .int i0), (2, .ref (aL X 56)), (3, .int j0), (5, .int x4)] dX9_isLike_36 (by decide) rfl ?_
          obtain ⟨x23, ex23⟩ : ∃ z : Int32, z = x4 + Int32.ofInt 1 := ⟨_, rfl⟩
          have t24 : (x4 + (Int32.ofInt 1)).toInt = x4.toInt + (1 : Int) := i_add rfl (by decide) (by omega) (by omega)
          have t25 : x23.toInt = (x4.toInt + (1 : Int)) := (congrArg Int32.toInt ex23).trans t24
          refine m_iinc C x23 [(5, .int x23), (4, .int x20), (0, .ref (aL X 56)), (1, .int i0), (2, .ref (aL X 56)), (3, .int j0)] dX9_isLike_38 (q := 5) rfl ex23.symm (by decide) rfl ?_
          refine m_goto C 6 dX9_isLike_41 (by decide) ?_
          refine m_lv [2, 3, 4, 5, 1, 0] rfl ?_
          exact ih6 x20 x23 g5 (by omega) hI6 hK7 (by omega) (by rw [ex20]; first | exact (R01.orc (by assumption)).2.2.1 | exact (R01.orc (by assumption)).2.2.2)
  have t26 : (1 : Int32).toInt = 1 := by decide
  have t27 : (0 : Int32).toInt = 0 := by decide
  refine m_lv [2, 3, 4, 5, 1, 0] rfl ?_
  exact L6 (((33 - (0 : Int32).toInt).toNat) + 1) (1 : Int32) (0 : Int32) g (Nat.lt_succ_self _) hI Kq.rf (by omega) (Or.inr rfl)
set_option maxRecDepth 20000 in
set_option maxHeartbeats 4000000 in
theorem c_X9_isLike_58_56 (l : Launch) {X : XT} (hX : Lok X) (g : Mem) (i0 : Int32) (j0 : Int32) (hI : Inv g) (h_i0 : 0 ≤ i0.toInt ∧ i0.toInt ≤ 0) (h_j0 : 0 ≤ j0.toInt ∧ j0.toInt ≤ 96) : Ctr l X yX9_isLike cX9_isLike 6 (some .boolean) (rmD 0) [.ref (aL X 58), .int i0, .ref (aL X 56), .int j0] g (pI (fun r g2 => Inv g2 ∧ Kq [] [] g g2 ∧ R01 r)) := by
  refine Ctr.of (lv := [(0, .ref (aL X 58)), (1, .int i0), (2, .ref (aL X 56)), (3, .int j0)]) hX (by decide) rfl (Nat.le_of_ble_eq_true rfl) ?_
  intro p e s m below meth c C
  refine m_iconst C (1 : Int32) dX9_isLike_0 (by decide) ?_
  refine m_istore C [(4, .int (1 : Int32)), (0, .ref (aL X 58)), (1, .int i0), (2, .ref (aL X 56)), (3, .int j0)] dX9_isLike_1 (by decide) rfl ?_
  refine m_iconst C (0 : Int32) dX9_isLike_3 (by decide) ?_
  refine m_istore C [(5, .int (0 : Int32)), (4, .int (1 : Int32)), (0, .ref (aL X 58)), (1, .int i0), (2, .ref (aL X 56)), (3, .int j0)] dX9_isLike_4 (by decide) rfl ?_
  have L6 : ∀ (n6 : Nat) (x3 : Int32) (x4 : Int32) (g5 : Mem), (33 - x4.toInt).toNat < n6 → Inv g5 → Kq [] [] g g5 → 0 ≤ x4.toInt ∧ x4.toInt ≤ 32 → R01 x3 → Wm X p l e (rmD 0) s m ([.ref (aL X 58), .int i0, .ref (aL X 56), .int j0] : List Value).toArray below meth c 6 0 0 (MQ below (cQ X (pI (fun r g2 => Inv g2 ∧ Kq [] [] g g2 ∧ R01 r))) ([.ref (aL X 58), .int i0, .ref (aL X 56), .int j0] : List Value).toArray s 0 0 (Ab X)) g5 6 [(0, .ref (aL X 58)), (1, .int i0), (2, .ref (aL X 56)), (3, .int j0), (4, .int x3), (5, .int x4)] [] := by
    intro n6
    induction n6 with
    | zero => intro x3 x4 g5 hm; exact absurd hm (Nat.not_lt_zero _)
    | succ n6 ih6 =>
      intro x3 x4 g5 hm6 hI6 hK7 i8 i9
      obtain ⟨i8a, i8b⟩ := i8
      refine m_iload C dX9_isLike_6 5 rfl ?_
      refine m_bipush C (32 : Int32) dX9_isLike_8 (by decide) ?_
      refine m_icmp_ge C 44 dX9_isLike_10 (by decide) (fun h10 => ?_) (fun h10 => ?_)
      · skip
        have th10 := i_le h10
        rw [show (32 : Int32).toInt = 32 by decide] at th10
        refine m_iload C dX9_isLike_44 4 rfl ?_
        exact m_zret C dX9_isLike_46 (R01.nar (by assumption)) ⟨_, rfl, hI6, hK7, (by assumption)⟩
      · skip
        have th10 := i_nle h10
        rw [show (32 : Int32).toInt = 32 by decide] at th10
        refine m_iload C dX9_isLike_13 4 rfl ?_
        refine m_aload_n C dX9_isLike_15 0 rfl ?_
        refine m_iload_n C dX9_isLike_16 1 rfl ?_
        refine m_iload C dX9_isLike_17 5 rfl ?_
        refine m_iadd C dX9_isLike_19 ?_
        have t11 : (i0 + x4).toInt = i0.toInt + x4.toInt := i_add rfl rfl (by omega) (by omega)
        refine m_iald C sh_58 (i_in (by omega) (by omega)) dX9_isLike_20 ?_
        refine m_aload_n C dX9_isLike_21 2 rfl ?_
        refine m_iload_n C dX9_isLike_22 3 rfl ?_
        refine m_iload C dX9_isLike_23 5 rfl ?_
        refine m_iadd C dX9_isLike_25 ?_
        have t12 : (j0 + x4).toInt = j0.toInt + x4.toInt := i_add rfl rfl (by omega) (by omega)
        refine m_iald C sh_56 (i_in (by omega) (by omega)) dX9_isLike_26 ?_
        refine m_icmp_ne C 34 dX9_isLike_27 (by decide) (fun h13 => ?_) (fun h13 => ?_)
        · skip
          have th13 := i_ne h13
          refine m_iconst C (0 : Int32) dX9_isLike_34 (by decide) ?_
          refine m_iand C dX9_isLike_35 ?_
          refine m_name (fun x14 ex14 => ?_)
          have t15 : 0 ≤ (x3 &&& (0 : Int32)).toInt ∧ (x3 &&& (0 : Int32)).toInt < 1 := i_and _ 0 (by decide) (by decide)
          have t16 : x14.toInt = (x3 &&& (0 : Int32)).toInt := (congrArg Int32.toInt ex14).trans rfl
          refine m_istore C [(4, .int x14), (0, .ref (aL X 58)), (1, .int i0), (2, .ref (aL X 56)), (3, .int j0), (5, .int x4)] dX9_isLike_36 (by decide) rfl ?_
          obtain ⟨x17, ex17⟩ : ∃ z : Int32, z = x4 + Int32.ofInt 1 := ⟨_, rfl⟩
          have t18 : (x4 + (Int32.ofInt 1)).toInt = x4.toInt + (1 : Int) := i_add rfl (by decide) (by omega) (by omega)
          have t19 : x17.toInt = (x4.toInt + (1 : Int)) := (congrArg Int32.toInt ex17).trans t18
          refine m_iinc C x17 [(5, .int x17), (4, .int x14), (0, .ref (aL X 58)), (1, .int i0), (2, .ref (aL X 56)), (3, .int j0)] dX9_isLike_38 (q := 5) rfl ex17.symm (by decide) rfl ?_
          refine m_goto C 6 dX9_isLike_41 (by decide) ?_
          refine m_lv [2, 3, 4, 5, 1, 0] rfl ?_
          exact ih6 x14 x17 g5 (by omega) hI6 hK7 (by omega) (by rw [ex14]; first | exact (R01.orc (by assumption)).2.2.1 | exact (R01.orc (by assumption)).2.2.2)
        · skip
          have th13 := i_eq h13
          refine m_iconst C (1 : Int32) dX9_isLike_30 (by decide) ?_
          refine m_goto C 35 dX9_isLike_31 (by decide) ?_
          refine m_iand C dX9_isLike_35 ?_
          refine m_name (fun x20 ex20 => ?_)
          have t21 : 0 ≤ (x3 &&& (1 : Int32)).toInt ∧ (x3 &&& (1 : Int32)).toInt < 2 := i_and _ 1 (by decide) (by decide)
          have t22 : x20.toInt = (x3 &&& (1 : Int32)).toInt := (congrArg Int32.toInt ex20).trans rfl
          refine m_istore C [(4, .int x20), (0, .ref (aL X 58)), (1, .int i0), (2, .ref (aL X 56)), (3, .int j0), (5, .int x4)] dX9_isLike_36 (by decide) rfl ?_
          obtain ⟨x23, ex23⟩ : ∃ z : Int32, z = x4 + Int32.ofInt 1 := ⟨_, rfl⟩
          have t24 : (x4 + (Int32.ofInt 1)).toInt = x4.toInt + (1 : Int) := i_add rfl (by decide) (by omega) (by omega)
          have t25 : x23.toInt = (x4.toInt + (1 : Int)) := (congrArg Int32.toInt ex23).trans t24
          refine m_iinc C x23 [(5, .int x23), (4, .int x20), (0, .ref (aL X 58)), (1, .int i0), (2, .ref (aL X 56)), (3, .int j0)] dX9_isLike_38 (q := 5) rfl ex23.symm (by decide) rfl ?_
          refine m_goto C 6 dX9_isLike_41 (by decide) ?_
          refine m_lv [2, 3, 4, 5, 1, 0] rfl ?_
          exact ih6 x20 x23 g5 (by omega) hI6 hK7 (by omega) (by rw [ex20]; first | exact (R01.orc (by assumption)).2.2.1 | exact (R01.orc (by assumption)).2.2.2)
  have t26 : (1 : Int32).toInt = 1 := by decide
  have t27 : (0 : Int32).toInt = 0 := by decide
  refine m_lv [2, 3, 4, 5, 1, 0] rfl ?_
  exact L6 (((33 - (0 : Int32).toInt).toNat) + 1) (1 : Int32) (0 : Int32) g (Nat.lt_succ_self _) hI Kq.rf (by omega) (Or.inr rfl)
set_option maxRecDepth 20000 in
set_option maxHeartbeats 4000000 in
theorem c_X9_sync (l : Launch) {X : XT} (hX : Lok X) (g : Mem)  (hI : Inv g) : Ctr l X yX9_sync cX9_sync 1 (some .int) (rmD 0) [.ref (aL X 34)] g (pI (fun r g2 => Inv g2 ∧ Kq [] [21] g g2)) := by
  refine Ctr.of (lv := [(0, .ref (aL X 34))]) hX (by decide) rfl (Nat.le_of_ble_eq_true rfl) ?_
  intro p e s m below meth c C
  refine m_aload_n C dX9_sync_0 0 rfl ?_
  refine m_geti (rf := "") C 17 rfl gd9 (by decide) sh_34 rfl dX9_sync_1 lk_X9_206 ?_
  refine m_if_eq C 10 dX9_sync_4 (by decide) (fun h1 => ?_) (fun h1 => ?_)
  · skip
    have th1 := i_eq h1
    rw [show (0 : Int32).toInt = 0 by decide] at th1
    refine m_aload_n C dX9_sync_10 0 rfl ?_
    refine m_aload_n C dX9_sync_11 0 rfl ?_
    refine m_geti (rf := "") C 20 rfl gd9 (by decide) sh_34 rfl dX9_sync_12 lk_X9_220 ?_
    have r2 := iv_mwrt hI
    refine m_put (rf := "") C 21 rfl gd9 (by decide) tyX9 tyX9_ok nmX9 rfl (tyX9_ok 21 (by decide)) rfl rfl sh_34 rfl dX9_sync_15 lk_X9_299 ?_
    refine m_mem (fun g3 eg3 => ?_)
    have hI4 : Inv g3 := by rw [eg3]; exact hI.up (ok_msafe (by omega) (by omega))
    have hK5 : Kq [] [21] g g3 := by rw [eg3]; exact Kq.upF Kq.rf (by decide)
    have ev6 : g3 34 17 = g 34 17 := by rw [eg3]; exact up2_nei (Or.inr (by decide))
    have tev6 := congrArg Int32.toInt ev6
    have ev7 : g3 34 20 = g 34 20 := by rw [eg3]; exact up2_nei (Or.inr (by decide))
    have tev7 := congrArg Int32.toInt ev7
    refine m_aload_n C dX9_sync_18 0 rfl ?_
    refine m_geti (rf := "") C 21 rfl gd9 (by decide) sh_34 rfl dX9_sync_19 lk_X9_299 ?_
    have r8 := iv_msafe hI4
    exact m_iret C dX9_sync_22 ⟨_, rfl, hI4, hK5⟩
  · skip
    have th1 := i_ne h1
    rw [show (0 : Int32).toInt = 0 by decide] at th1
    refine m_bipush C (-3 : Int32) dX9_sync_7 (by decide) ?_
    exact m_iret C dX9_sync_9 ⟨_, rfl, hI, Kq.rf⟩
set_option maxRecDepth 20000 in
set_option maxHeartbeats 4000000 in
theorem c_X9_cut (l : Launch) {X : XT} (hX : Lok X) (g : Mem) (n0 : Int32) (hI : Inv g) : Ctr l X yX9_cut cX9_cut 4 (some .int) (rmD 1) [.ref (aL X 34), .int n0] g (pI (fun r g2 => Inv g2 ∧ Kq [49] [17, 20] g g2)) := by
  refine Ctr.of (lv := [(0, .ref (aL X 34)), (1, .int n0)]) hX (by decide) rfl (Nat.le_of_ble_eq_true rfl) ?_
  intro p e s m below meth c C
  refine m_iload_n C dX9_cut_0 1 rfl ?_
  refine m_i2l C dX9_cut_1 ?_
  refine m_lconst C (0 : Int64) dX9_cut_2 (by decide) ?_
  refine m_ldc2 C (1020) dX9_cut_3 lk_X9_302 ?_
  have t1 : (n0.toInt64).toInt = n0.toInt := i2l_t _
  have t2 : (0 : Int64).toInt = 0 := by decide
  have t3 : (1020 : Int64).toInt = 1020 := by decide
  refine m_invS C cal_X9_in (c_X9_in l hX g (n0.toInt64) (0 : Int64) (1020 : Int64) ) lk_X9_185 st_X9_in (by decide) rfl rfl (Nat.le_of_ble_eq_true rfl) dX9_cut_6 ⟨Nat.le_refl _, Nat.le_refl _⟩ (rI fun r4 g5 q6 => ?_)
  obtain ⟨eg5, ⟨rfl, h7⟩ | ⟨rfl, h7⟩⟩ := q6
  · skip
    subst g5
    refine m_if_ne C 15 dX9_cut_9 (by decide) (fun _ => ?_) (fun h => absurd h (by decide))
    refine m_aload_n C dX9_cut_15 0 rfl ?_
    refine m_geti (rf := "") C 17 rfl gd9 (by decide) sh_34 rfl dX9_cut_16 lk_X9_206 ?_
    refine m_if_eq C 25 dX9_cut_19 (by decide) (fun h8 => ?_) (fun h8 => ?_)
    · skip
      have th8 := i_eq h8
      rw [show (0 : Int32).toInt = 0 by decide] at th8
      refine m_aload_n C dX9_cut_25 0 rfl ?_
      refine m_geti (rf := "") C 21 rfl gd9 (by decide) sh_34 rfl dX9_cut_26 lk_X9_299 ?_
      have r9 := iv_msafe hI
      refine m_iload_n C dX9_cut_29 1 rfl ?_
      refine m_iadd C dX9_cut_30 ?_
      refine m_aload_n C dX9_cut_31 0 rfl ?_
      refine m_geti (rf := "") C 20 rfl gd9 (by decide) sh_34 rfl dX9_cut_32 lk_X9_220 ?_
      have r10 := iv_mwrt hI
      have t11 : ((g 34 21) + n0).toInt = (g 34 21).toInt + n0.toInt := i_add rfl rfl (by omega) (by omega)
      refine m_icmp_ge C 47 dX9_cut_35 (by decide) (fun h12 => ?_) (fun h12 => ?_)
      · skip
        have th12 := i_le h12
        refine m_aload_n C dX9_cut_47 0 rfl ?_
        refine m_geti (rf := "") C 20 rfl gd9 (by decide) sh_34 rfl dX9_cut_48 lk_X9_220 ?_
        have r13 := iv_mwrt hI
        refine m_name (fun x14 ex14 => ?_)
        have t15 : x14.toInt = (g 34 20).toInt := (congrArg Int32.toInt ex14).trans rfl
        refine m_istore_n C [(2, .int x14), (0, .ref (aL X 34)), (1, .int n0)] dX9_cut_51 (by decide) rfl ?_
        refine m_iload_n C dX9_cut_52 0 rfl ?_
        refine m_istore_n C [(3, .int x14), (2, .int x14), (0, .ref (aL X 34)), (1, .int n0)] dX9_cut_53 (by decide) rfl ?_
        have L54 : ∀ (n54 : Nat) (x17 : Int32) (g18 : Mem), (1021 - x17.toInt).toNat < n54 → Inv g18 → Kq [49] [17, 20] g g18 → 0 ≤ x17.toInt ∧ x17.toInt ≤ 1020 → Wm X p l e (rmD 1) s m ([.ref (aL X 34), .int n0] : List Value).toArray below meth c 4 0 0 (MQ below (cQ X (pI (fun r g2 => Inv g2 ∧ Kq [49] [17, 20] g g2))) ([.ref (aL X 34), .int n0] : List Value).toArray s 0 0 (Ab X)) g18 54 [(0, .ref (aL X 34)), (1, .int n0), (2, .int x14), (3, .int x17)] [] := by
          intro n54
          induction n54 with
          | zero => intro x17 g18 hm; exact absurd hm (Nat.not_lt_zero _)
          | succ n54 ih54 =>
            intro x17 g18 hm54 hI19 hK20 i21
            obtain ⟨i21a, i21b⟩ := i21
            refine m_iload_n C dX9_cut_54 3 rfl ?_
            refine m_aload_n C dX9_cut_55 0 rfl ?_
            refine m_geti (rf := "") C 20 rfl gd9 (by decide) sh_34 rfl dX9_cut_56 lk_X9_220 ?_
            have r22 := iv_mwrt hI19
            refine m_icmp_ge C 75 dX9_cut_59 (by decide) (fun h23 => ?_) (fun h23 => ?_)
            · skip
              have th23 := i_le h23
              refine m_aload_n C dX9_cut_75 0 rfl ?_
              refine m_iload_n C dX9_cut_76 2 rfl ?_
              refine m_put (rf := "") C 20 rfl gd9 (by decide) tyX9 tyX9_ok nmX9 rfl (tyX9_ok 20 (by decide)) rfl rfl sh_34 rfl dX9_cut_77 lk_X9_220 ?_
              refine m_mem (fun g24 eg24 => ?_)
              have hI25 : Inv g24 := by rw [eg24]; exact hI19.up (ok_mwrt (by omega) (by omega))
              have hK26 : Kq [49] [17, 20] g g24 := by rw [eg24]; exact Kq.upF hK20 (by decide)
              refine m_aload_n C dX9_cut_80 0 rfl ?_
              refine m_iconst C (1 : Int32) dX9_cut_81 (by decide) ?_
              refine m_put (rf := "") C 17 rfl gd9 (by decide) tyX9 tyX9_ok nmX9 rfl (tyX9_ok 17 (by decide)) (by decide) (by decide) sh_34 rfl dX9_cut_82 lk_X9_206 ?_
              refine m_mem (fun g27 eg27 => ?_)
              have hI28 : Inv g27 := by rw [eg27]; exact hI25.up (ok_mshut (Or.inr rfl))
              have hK29 : Kq [49] [17, 20] g g27 := by rw [eg27]; exact Kq.upF hK26 (by decide)
              refine m_iload_n C dX9_cut_85 2 rfl ?_
              exact m_iret C dX9_cut_86 ⟨_, rfl, hI28, hK29⟩
            · skip
              have th23 := i_nle h23
              refine m_aload_n C dX9_cut_62 0 rfl ?_
              refine m_getr (rf := "") C 22 rfl gd9 (by decide) sh_34 rfl dX9_cut_63 lk_X9_53 ?_
              refine m_iload_n C dX9_cut_66 3 rfl ?_
              refine m_iconst C (0 : Int32) dX9_cut_67 (by decide) ?_
              refine m_iast C sh_49 (i_in (by omega) (by omega)) dX9_cut_68 ?_
              refine m_mem (fun g30 eg30 => ?_)
              have hI31 : Inv g30 := by rw [eg30]; exact hI19.up (ok_any (by decide))
              have hK32 : Kq [49] [17, 20] g g30 := by rw [eg30]; exact Kq.upA hK20 (by decide) (by decide)
              have ev33 : g30 34 20 = g18 34 20 := by rw [eg30]; exact up2_nei (Or.inl (by decide))
              have tev33 := congrArg Int32.toInt ev33
              obtain ⟨x34, ex34⟩ : ∃ z : Int32, z = x17 + Int32.ofInt 1 := ⟨_, rfl⟩
              have t35 : (x17 + (Int32.ofInt 1)).toInt = x17.toInt + (1 : Int) := i_add rfl (by decide) (by omega) (by omega)
              have t36 : x34.toInt = (x17.toInt + (1 : Int)) := (congrArg Int32.toInt ex34).trans t35
              refine m_iinc C x34 [(3, .int x34), (0, .ref (aL X 34)), (1, .int n0), (2, .int x14)] dX9_cut_69 (q := 3) rfl ex34.symm (by decide) rfl ?_
              refine m_goto C 54 dX9_cut_72 (by decide) ?_
              refine m_lv [1, 2, 3, 0] rfl ?_
              exact ih54 x34 g30 (by omega) hI31 hK32 (by omega)
        refine m_lv [2, 3, 1, 0] rfl ?_
        exact L54 (((1021 - x14.toInt).toNat) + 1) x14 g (Nat.lt_succ_self _) hI Kq.rf (by omega)
      · skip
        have th12 := i_nle h12
        refine m_aload_n C dX9_cut_38 0 rfl ?_
        refine m_geti (rf := "") C 21 rfl gd9 (by decide) sh_34 rfl dX9_cut_39 lk_X9_299 ?_
        have r37 := iv_msafe hI
        refine m_iload_n C dX9_cut_42 1 rfl ?_
        refine m_iadd C dX9_cut_43 ?_
        refine m_goto C 51 dX9_cut_44 (by decide) ?_
        refine m_name (fun x38 ex38 => ?_)
        have t39 : ((g 34 21) + n0).toInt = (g 34 21).toInt + n0.toInt := i_add rfl rfl (by omega) (by omega)
        have t40 : x38.toInt = ((g 34 21).toInt + n0.toInt) := (congrArg Int32.toInt ex38).trans t39
        refine m_istore_n C [(2, .int x38), (0, .ref (aL X 34)), (1, .int n0)] dX9_cut_51 (by decide) rfl ?_
        refine m_iload_n C dX9_cut_52 0 rfl ?_
        refine m_istore_n C [(3, .int x38), (2, .int x38), (0, .ref (aL X 34)), (1, .int n0)] dX9_cut_53 (by decide) rfl ?_
        have L54 : ∀ (n54 : Nat) (x42 : Int32) (g43 : Mem), (1021 - x42.toInt).toNat < n54 → Inv g43 → Kq [49] [17, 20] g g43 → 0 ≤ x42.toInt ∧ x42.toInt ≤ 1020 → Wm X p l e (rmD 1) s m ([.ref (aL X 34), .int n0] : List Value).toArray below meth c 4 0 0 (MQ below (cQ X (pI (fun r g2 => Inv g2 ∧ Kq [49] [17, 20] g g2))) ([.ref (aL X 34), .int n0] : List Value).toArray s 0 0 (Ab X)) g43 54 [(0, .ref (aL X 34)), (1, .int n0), (2, .int x38), (3, .int x42)] [] := by
          intro n54
          induction n54 with
          | zero => intro x42 g43 hm; exact absurd hm (Nat.not_lt_zero _)
          | succ n54 ih54 =>
            intro x42 g43 hm54 hI44 hK45 i46
            obtain ⟨i46a, i46b⟩ := i46
            refine m_iload_n C dX9_cut_54 3 rfl ?_
            refine m_aload_n C dX9_cut_55 0 rfl ?_
            refine m_geti (rf := "") C 20 rfl gd9 (by decide) sh_34 rfl dX9_cut_56 lk_X9_220 ?_
            have r47 := iv_mwrt hI44
            refine m_icmp_ge C 75 dX9_cut_59 (by decide) (fun h48 => ?_) (fun h48 => ?_)
            · skip
              have th48 := i_le h48
              refine m_aload_n C dX9_cut_75 0 rfl ?_
              refine m_iload_n C dX9_cut_76 2 rfl ?_
              refine m_put (rf := "") C 20 rfl gd9 (by decide) tyX9 tyX9_ok nmX9 rfl (tyX9_ok 20 (by decide)) rfl rfl sh_34 rfl dX9_cut_77 lk_X9_220 ?_
              refine m_mem (fun g49 eg49 => ?_)
              have hI50 : Inv g49 := by rw [eg49]; exact hI44.up (ok_mwrt (by omega) (by omega))
              have hK51 : Kq [49] [17, 20] g g49 := by rw [eg49]; exact Kq.upF hK45 (by decide)
              refine m_aload_n C dX9_cut_80 0 rfl ?_
              refine m_iconst C (1 : Int32) dX9_cut_81 (by decide) ?_
              refine m_put (rf := "") C 17 rfl gd9 (by decide) tyX9 tyX9_ok nmX9 rfl (tyX9_ok 17 (by decide)) (by decide) (by decide) sh_34 rfl dX9_cut_82 lk_X9_206 ?_
              refine m_mem (fun g52 eg52 => ?_)
              have hI53 : Inv g52 := by rw [eg52]; exact hI50.up (ok_mshut (Or.inr rfl))
              have hK54 : Kq [49] [17, 20] g g52 := by rw [eg52]; exact Kq.upF hK51 (by decide)
              refine m_iload_n C dX9_cut_85 2 rfl ?_
              exact m_iret C dX9_cut_86 ⟨_, rfl, hI53, hK54⟩
            · skip
              have th48 := i_nle h48
              refine m_aload_n C dX9_cut_62 0 rfl ?_
              refine m_getr (rf := "") C 22 rfl gd9 (by decide) sh_34 rfl dX9_cut_63 lk_X9_53 ?_
              refine m_iload_n C dX9_cut_66 3 rfl ?_
              refine m_iconst C (0 : Int32) dX9_cut_67 (by decide) ?_
              refine m_iast C sh_49 (i_in (by omega) (by omega)) dX9_cut_68 ?_
              refine m_mem (fun g55 eg55 => ?_)
              have hI56 : Inv g55 := by rw [eg55]; exact hI44.up (ok_any (by decide))
              have hK57 : Kq [49] [17, 20] g g55 := by rw [eg55]; exact Kq.upA hK45 (by decide) (by decide)
              have ev58 : g55 34 20 = g43 34 20 := by rw [eg55]; exact up2_nei (Or.inl (by decide))
              have tev58 := congrArg Int32.toInt ev58
              obtain ⟨x59, ex59⟩ : ∃ z : Int32, z = x42 + Int32.ofInt 1 := ⟨_, rfl⟩
              have t60 : (x42 + (Int32.ofInt 1)).toInt = x42.toInt + (1 : Int) := i_add rfl (by decide) (by omega) (by omega)
              have t61 : x59.toInt = (x42.toInt + (1 : Int)) := (congrArg Int32.toInt ex59).trans t60
              refine m_iinc C x59 [(3, .int x59), (0, .ref (aL X 34)), (1, .int n0), (2, .int x38)] dX9_cut_69 (q := 3) rfl ex59.symm (by decide) rfl ?_
              refine m_goto C 54 dX9_cut_72 (by decide) ?_
              refine m_lv [1, 2, 3, 0] rfl ?_
              exact ih54 x59 g55 (by omega) hI56 hK57 (by omega)
        refine m_lv [2, 3, 1, 0] rfl ?_
        exact L54 (((1021 - x38.toInt).toNat) + 1) x38 g (Nat.lt_succ_self _) hI Kq.rf (by omega)
    · skip
      have th8 := i_ne h8
      rw [show (0 : Int32).toInt = 0 by decide] at th8
      refine m_bipush C (-3 : Int32) dX9_cut_22 (by decide) ?_
      exact m_iret C dX9_cut_24 ⟨_, rfl, hI, Kq.rf⟩
  · skip
    subst g5
    refine m_if_ne C 15 dX9_cut_9 (by decide) (fun h => absurd (by decide) h) (fun _ => ?_)
    refine m_bipush C (-2 : Int32) dX9_cut_12 (by decide) ?_
    exact m_iret C dX9_cut_14 ⟨_, rfl, hI, Kq.rf⟩
set_option maxRecDepth 20000 in
set_option maxHeartbeats 4000000 in
theorem c_X9_isFrame (l : Launch) {X : XT} (hX : Lok X) (g : Mem) (i0 : Int32) (hI : Inv g) (h_i0 : 0 ≤ i0.toInt ∧ i0.toInt ≤ 59) : Ctr l X yX9_isFrame cX9_isFrame 5 (some .boolean) (rmD 4) [.ref (aL X 34), .int i0] g (pI (fun r g2 => Inv g2 ∧ Kq [36, 37, 38, 39, 47, 48] [4] g g2 ∧ R01 r)) := by
  refine Ctr.of (lv := [(0, .ref (aL X 34)), (1, .int i0)]) hX (by decide) rfl (Nat.le_of_ble_eq_true rfl) ?_
  intro p e s m below meth c C
  refine m_bipush C (17 : Int32) dX9_isFrame_0 (by decide) ?_
  refine m_iload_n C dX9_isFrame_2 1 rfl ?_
  refine m_imul C dX9_isFrame_3 ?_
  refine m_name (fun x1 ex1 => ?_)
  have t2 : ((17 : Int32) * i0).toInt = (17 : Int) * i0.toInt := i_mul (by decide) rfl (by omega) (by omega)
  have t3 : x1.toInt = ((17 : Int) * i0.toInt) := (congrArg Int32.toInt ex1).trans t2
  refine m_istore_n C [(2, .int x1), (0, .ref (aL X 34)), (1, .int i0)] dX9_isFrame_4 (by decide) rfl ?_
  refine m_aload_n C dX9_isFrame_5 1 rfl ?_
  refine m_getr (rf := "") C 22 rfl gd9 (by decide) sh_34 rfl dX9_isFrame_6 lk_X9_53 ?_
  refine m_iload_n C dX9_isFrame_9 0 rfl ?_
  refine m_iald C sh_49 (i_in (by omega) (by omega)) dX9_isFrame_10 ?_
  refine m_bipush C (90 : Int32) dX9_isFrame_11 (by decide) ?_
  refine m_icmp_ne C 41 dX9_isFrame_13 (by decide) (fun h4 => ?_) (fun h4 => ?_)
  · skip
    have th4 := i_ne h4
    rw [show (90 : Int32).toInt = 90 by decide] at th4
    refine m_iconst C (0 : Int32) dX9_isFrame_41 (by decide) ?_
    exact m_zret C dX9_isFrame_42 (by first | decide | exact R01.nar (by assumption)) ⟨_, rfl, hI, Kq.rf, (by first | assumption | exact Or.inl rfl)⟩
  · skip
    have th4 := i_eq h4
    rw [show (90 : Int32).toInt = 90 by decide] at th4
    refine m_sipush C (256 : Int32) dX9_isFrame_16 (by decide) ?_
    refine m_aload_n C dX9_isFrame_19 1 rfl ?_
    refine m_getr (rf := "") C 22 rfl gd9 (by decide) sh_34 rfl dX9_isFrame_20 lk_X9_53 ?_
    refine m_iload_n C dX9_isFrame_23 0 rfl ?_
    refine m_iconst C (1 : Int32) dX9_isFrame_24 (by decide) ?_
    refine m_iadd C dX9_isFrame_25 ?_
    have t5 : (x1 + (1 : Int32)).toInt = x1.toInt + (1 : Int) := i_add rfl (by decide) (by omega) (by omega)
    refine m_iald C sh_49 (i_in (by omega) (by omega)) dX9_isFrame_26 ?_
    refine m_imul C dX9_isFrame_27 ?_
    refine m_aload_n C dX9_isFrame_28 1 rfl ?_
    refine m_getr (rf := "") C 22 rfl gd9 (by decide) sh_34 rfl dX9_isFrame_29 lk_X9_53 ?_
    refine m_iload_n C dX9_isFrame_32 0 rfl ?_
    refine m_iconst C (2 : Int32) dX9_isFrame_33 (by decide) ?_
    refine m_iadd C dX9_isFrame_34 ?_
    have t6 : (x1 + (2 : Int32)).toInt = x1.toInt + (2 : Int) := i_add rfl (by decide) (by omega) (by omega)
    refine m_iald C sh_49 (i_in (by omega) (by omega)) dX9_isFrame_35 ?_
    refine m_iadd C dX9_isFrame_36 ?_
    refine m_iload_n C dX9_isFrame_37 2 rfl ?_
    refine m_icmp_eq C 43 dX9_isFrame_38 (by decide) (fun h7 => ?_) (fun h7 => ?_)
    · skip
      have th7 := i_eq h7
      refine m_iconst C (0 : Int32) dX9_isFrame_43 (by decide) ?_
      refine m_istore_n C [(3, .int (0 : Int32)), (2, .int x1), (0, .ref (aL X 34)), (1, .int i0)] dX9_isFrame_44 (by decide) rfl ?_
      have L45 : ∀ (n45 : Nat) (x9 : Int32) (g10 : Mem), (13 - x9.toInt).toNat < n45 → Inv g10 → Kq [36, 37, 38, 39, 47, 48] [4] g g10 → 0 ≤ x9.toInt ∧ x9.toInt ≤ 12 → Wm X p l e (rmD 4) s m ([.ref (aL X 34), .int i0] : List Value).toArray below meth c 5 0 0 (MQ below (cQ X (pI (fun r g2 => Inv g2 ∧ Kq [36, 37, 38, 39, 47, 48] [4] g g2 ∧ R01 r))) ([.ref (aL X 34), .int i0] : List Value).toArray s 0 0 (Ab X)) g10 45 [(0, .ref (aL X 34)), (1, .int i0), (2, .int x1), (3, .int x9)] [] := by
        intro n45
        induction n45 with
        | zero => intro x9 g10 hm; exact absurd hm (Nat.not_lt_zero _)
        | succ n45 ih45 =>
          intro x9 g10 hm45 hI11 hK12 i13
          obtain ⟨i13a, i13b⟩ := i13
          refine m_iload_n C dX9_isFrame_45 3 rfl ?_
          refine m_bipush C (12 : Int32) dX9_isFrame_46 (by decide) ?_
          refine m_icmp_ge C 78 dX9_isFrame_48 (by decide) (fun h14 => ?_) (fun h14 => ?_)
          · skip
            have th14 := i_le h14
            rw [show (12 : Int32).toInt = 12 by decide] at th14
            refine m_aload_n C dX9_isFrame_78 0 rfl ?_
            refine m_iload_n C dX9_isFrame_79 1 rfl ?_
            refine m_invV C cal_X9_goOn sh_34 rfl (c_X9_goOn l hX g10 i0 hI11 (by omega)) lk_X9_217 im_X9_goOn se_X9_goOn (by decide) rfl rfl (Nat.le_of_ble_eq_true rfl) dX9_isFrame_80 ⟨Nat.le_refl _, Nat.le_refl _⟩ (rV fun g16 q17 => ?_)
            obtain ⟨hI18, hK19⟩ := q17
            have hK20 : Kq [36, 37, 38, 39, 47, 48] [4] g g16 := (hK12).tr hK19 (by decide) (by decide)
            refine m_iconst C (1 : Int32) dX9_isFrame_83 (by decide) ?_
            refine m_istore_n C [(3, .int (1 : Int32)), (0, .ref (aL X 34)), (1, .int i0), (2, .int x1)] dX9_isFrame_84 (by decide) rfl ?_
            refine m_iconst C (0 : Int32) dX9_isFrame_85 (by decide) ?_
            refine m_istore C [(4, .int (0 : Int32)), (3, .int (1 : Int32)), (0, .ref (aL X 34)), (1, .int i0), (2, .int x1)] dX9_isFrame_86 (by decide) rfl ?_
            have L88 : ∀ (n88 : Nat) (x23 : Int32) (x24 : Int32) (g25 : Mem), (5 - x24.toInt).toNat < n88 → Inv g25 → Kq [36, 37, 38, 39, 47, 48] [4] g g25 → 0 ≤ x24.toInt ∧ x24.toInt ≤ 4 → R01 x23 → Wm X p l e (rmD 4) s m ([.ref (aL X 34), .int i0] : List Value).toArray below meth c 5 0 0 (MQ below (cQ X (pI (fun r g2 => Inv g2 ∧ Kq [36, 37, 38, 39, 47, 48] [4] g g2 ∧ R01 r))) ([.ref (aL X 34), .int i0] : List Value).toArray s 0 0 (Ab X)) g25 88 [(0, .ref (aL X 34)), (1, .int i0), (2, .int x1), (3, .int x23), (4, .int x24)] [] := by
              intro n88
              induction n88 with
              | zero => intro x23 x24 g25 hm; exact absurd hm (Nat.not_lt_zero _)
              | succ n88 ih88 =>
                intro x23 x24 g25 hm88 hI26 hK27 i28 i29
                obtain ⟨i28a, i28b⟩ := i28
                refine m_iload C dX9_isFrame_88 4 rfl ?_
                refine m_iconst C (4 : Int32) dX9_isFrame_90 (by decide) ?_
                refine m_icmp_ge C 138 dX9_isFrame_91 (by decide) (fun h30 => ?_) (fun h30 => ?_)
                · skip
                  have th30 := i_le h30
                  rw [show (4 : Int32).toInt = 4 by decide] at th30
                  refine m_iload_n C dX9_isFrame_138 3 rfl ?_
                  exact m_zret C dX9_isFrame_139 (by first | decide | exact R01.nar (by assumption)) ⟨_, rfl, hI26, hK27, (by first | assumption | exact Or.inl rfl)⟩
                · skip
                  have th30 := i_nle h30
                  rw [show (4 : Int32).toInt = 4 by decide] at th30
                  refine m_iload_n C dX9_isFrame_94 3 rfl ?_
                  refine m_aload_n C dX9_isFrame_95 0 rfl ?_
                  refine m_getr (rf := "") C 22 rfl gd9 (by decide) sh_34 rfl dX9_isFrame_96 lk_X9_53 ?_
                  refine m_iload_n C dX9_isFrame_99 2 rfl ?_
                  refine m_bipush C (13 : Int32) dX9_isFrame_100 (by decide) ?_
                  refine m_iadd C dX9_isFrame_102 ?_
                  refine m_iload C dX9_isFrame_103 4 rfl ?_
                  refine m_iadd C dX9_isFrame_105 ?_
                  have t31 : (x1 + (13 : Int32)).toInt = x1.toInt + (13 : Int) := i_add rfl (by decide) (by omega) (by omega)
                  have t32 : ((x1 + (13 : Int32)) + x24).toInt = (x1.toInt + (13 : Int)) + x24.toInt := i_add t31 rfl (by omega) (by omega)
                  refine m_iald C sh_49 (i_in (by omega) (by omega)) dX9_isFrame_106 ?_
                  refine m_aload_n C dX9_isFrame_107 0 rfl ?_
                  refine m_getr (rf := "") C 19 rfl gd9 (by decide) sh_34 rfl dX9_isFrame_108 lk_X9_50 ?_
                  refine m_bipush C (32 : Int32) dX9_isFrame_111 (by decide) ?_
                  refine m_iload_n C dX9_isFrame_113 1 rfl ?_
                  refine m_imul C dX9_isFrame_114 ?_
                  refine m_bipush C (32 : Int32) dX9_isFrame_115 (by decide) ?_
                  refine m_iadd C dX9_isFrame_117 ?_
                  refine m_iload C dX9_isFrame_118 4 rfl ?_
                  refine m_iadd C dX9_isFrame_120 ?_
                  have t33 : ((32 : Int32) * i0).toInt = (32 : Int) * i0.toInt := i_mul (by decide) rfl (by omega) (by omega)
                  have t34 : (((32 : Int32) * i0) + (32 : Int32)).toInt = ((32 : Int) * i0.toInt) + (32 : Int) := i_add t33 (by decide) (by omega) (by omega)
                  have t35 : ((((32 : Int32) * i0) + (32 : Int32)) + x24).toInt = (((32 : Int) * i0.toInt) + (32 : Int)) + x24.toInt := i_add t34 rfl (by omega) (by omega)
                  refine m_iald C sh_48 (i_in (by omega) (by omega)) dX9_isFrame_121 ?_
                  refine m_icmp_ne C 129 dX9_isFrame_122 (by decide) (fun h36 => ?_) (fun h36 => ?_)
                  · skip
                    have th36 := i_ne h36
                    refine m_iconst C (0 : Int32) dX9_isFrame_129 (by decide) ?_
                    refine m_iand C dX9_isFrame_130 ?_
                    refine m_name (fun x37 ex37 => ?_)
                    have t38 : 0 ≤ (x23 &&& (0 : Int32)).toInt ∧ (x23 &&& (0 : Int32)).toInt < 1 := i_and _ 0 (by decide) (by decide)
                    have t39 : x37.toInt = (x23 &&& (0 : Int32)).toInt := (congrArg Int32.toInt ex37).trans rfl
                    refine m_istore_n C [(3, .int x37), (0, .ref (aL X 34)), (1, .int i0), (2, .int x1), (4, .int x24)] dX9_isFrame_131 (by decide) rfl ?_
                    obtain ⟨x40, ex40⟩ : ∃ z : Int32, z = x24 + Int32.ofInt 1 := ⟨_, rfl⟩
                    have t41 : (x24 + (Int32.ofInt 1)).toInt = x24.toInt + (1 : Int) := i_add rfl (by decide) (by omega) (by omega)
                    have t42 : x40.toInt = (x24.toInt + (1 : Int)) := (congrArg Int32.toInt ex40).trans t41
                    refine m_iinc C x40 [(4, .int x40), (3, .int x37), (0, .ref (aL X 34)), (1, .int i0), (2, .int x1)] dX9_isFrame_132 (q := 4) rfl ex40.symm (by decide) rfl ?_
                    refine m_goto C 88 dX9_isFrame_135 (by decide) ?_
                    refine m_lv [2, 3, 4, 1, 0] rfl ?_
                    exact ih88 x37 x40 g25 (by omega) hI26 hK27 (by omega) (by rw [ex37]; first | exact (R01.orc (by assumption)).2.2.1 | exact (R01.orc (by assumption)).2.2.2)
                  · skip
                    have th36 := i_eq h36
                    refine m_iconst C (1 : Int32) dX9_isFrame_125 (by decide) ?_
                    refine m_goto C 130 dX9_isFrame_126 (by decide) ?_
                    refine m_iand C dX9_isFrame_130 ?_
                    refine m_name (fun x43 ex43 => ?_)
                    have t44 : 0 ≤ (x23 &&& (1 : Int32)).toInt ∧ (x23 &&& (1 : Int32)).toInt < 2 := i_and _ 1 (by decide) (by decide)
                    have t45 : x43.toInt = (x23 &&& (1 : Int32)).toInt := (congrArg Int32.toInt ex43).trans rfl
                    refine m_istore_n C [(3, .int x43), (0, .ref (aL X 34)), (1, .int i0), (2, .int x1), (4, .int x24)] dX9_isFrame_131 (by decide) rfl ?_
                    obtain ⟨x46, ex46⟩ : ∃ z : Int32, z = x24 + Int32.ofInt 1 := ⟨_, rfl⟩
                    have t47 : (x24 + (Int32.ofInt 1)).toInt = x24.toInt + (1 : Int) := i_add rfl (by decide) (by omega) (by omega)
                    have t48 : x46.toInt = (x24.toInt + (1 : Int)) := (congrArg Int32.toInt ex46).trans t47
                    refine m_iinc C x46 [(4, .int x46), (3, .int x43), (0, .ref (aL X 34)), (1, .int i0), (2, .int x1)] dX9_isFrame_132 (q := 4) rfl ex46.symm (by decide) rfl ?_
                    refine m_goto C 88 dX9_isFrame_135 (by decide) ?_
                    refine m_lv [2, 3, 4, 1, 0] rfl ?_
                    exact ih88 x43 x46 g25 (by omega) hI26 hK27 (by omega) (by rw [ex43]; first | exact (R01.orc (by assumption)).2.2.1 | exact (R01.orc (by assumption)).2.2.2)
            have t49 : (1 : Int32).toInt = 1 := by decide
            have t50 : (0 : Int32).toInt = 0 := by decide
            refine m_lv [2, 3, 4, 1, 0] rfl ?_
            exact L88 (((5 - (0 : Int32).toInt).toNat) + 1) (1 : Int32) (0 : Int32) g16 (Nat.lt_succ_self _) hI18 hK20 (by omega) (Or.inr rfl)
          · skip
            have th14 := i_nle h14
            rw [show (12 : Int32).toInt = 12 by decide] at th14
            refine m_aload_n C dX9_isFrame_51 0 rfl ?_
            refine m_getr (rf := "") C 18 rfl gd9 (by decide) sh_34 rfl dX9_isFrame_52 lk_X9_47 ?_
            refine m_bipush C (12 : Int32) dX9_isFrame_55 (by decide) ?_
            refine m_iload_n C dX9_isFrame_57 1 rfl ?_
            refine m_imul C dX9_isFrame_58 ?_
            refine m_iload_n C dX9_isFrame_59 3 rfl ?_
            refine m_iadd C dX9_isFrame_60 ?_
            refine m_aload_n C dX9_isFrame_61 0 rfl ?_
            refine m_getr (rf := "") C 22 rfl gd9 (by decide) sh_34 rfl dX9_isFrame_62 lk_X9_53 ?_
            refine m_iload_n C dX9_isFrame_65 2 rfl ?_
            refine m_iconst C (1 : Int32) dX9_isFrame_66 (by decide) ?_
            refine m_iadd C dX9_isFrame_67 ?_
            refine m_iload_n C dX9_isFrame_68 3 rfl ?_
            refine m_iadd C dX9_isFrame_69 ?_
            have t51 : (x1 + (1 : Int32)).toInt = x1.toInt + (1 : Int) := i_add rfl (by decide) (by omega) (by omega)
            have t52 : ((x1 + (1 : Int32)) + x9).toInt = (x1.toInt + (1 : Int)) + x9.toInt := i_add t51 rfl (by omega) (by omega)
            refine m_iald C sh_49 (i_in (by omega) (by omega)) dX9_isFrame_70 ?_
            have t53 : ((12 : Int32) * i0).toInt = (12 : Int) * i0.toInt := i_mul (by decide) rfl (by omega) (by omega)
            have t54 : (((12 : Int32) * i0) + x9).toInt = ((12 : Int) * i0.toInt) + x9.toInt := i_add t53 rfl (by omega) (by omega)
            refine m_iast C sh_47 (i_in (by omega) (by omega)) dX9_isFrame_71 ?_
            refine m_mem (fun g55 eg55 => ?_)
            have hI56 : Inv g55 := by rw [eg55]; exact hI11.up (ok_any (by decide))
            have hK57 : Kq [36, 37, 38, 39, 47, 48] [4] g g55 := by rw [eg55]; exact Kq.upA hK12 (by decide) (by decide)
            obtain ⟨x58, ex58⟩ : ∃ z : Int32, z = x9 + Int32.ofInt 1 := ⟨_, rfl⟩
            have t59 : (x9 + (Int32.ofInt 1)).toInt = x9.toInt + (1 : Int) := i_add rfl (by decide) (by omega) (by omega)
            have t60 : x58.toInt = (x9.toInt + (1 : Int)) := (congrArg Int32.toInt ex58).trans t59
            refine m_iinc C x58 [(3, .int x58), (0, .ref (aL X 34)), (1, .int i0), (2, .int x1)] dX9_isFrame_72 (q := 3) rfl ex58.symm (by decide) rfl ?_
            refine m_goto C 45 dX9_isFrame_75 (by decide) ?_
            refine m_lv [1, 2, 3, 0] rfl ?_
            exact ih45 x58 g55 (by omega) hI56 hK57 (by omega)
      have t61 : (0 : Int32).toInt = 0 := by decide
      refine m_lv [2, 3, 1, 0] rfl ?_
      exact L45 (((13 - (0 : Int32).toInt).toNat) + 1) (0 : Int32) g (Nat.lt_succ_self _) hI Kq.rf (by omega)
    · skip
      have th7 := i_ne h7
      refine m_iconst C (0 : Int32) dX9_isFrame_41 (by decide) ?_
      exact m_zret C dX9_isFrame_42 (by first | decide | exact R01.nar (by assumption)) ⟨_, rfl, hI, Kq.rf, (by first | assumption | exact Or.inl rfl)⟩
set_option maxRecDepth 20000 in
set_option maxHeartbeats 4000000 in
theorem c_X9_open (l : Launch) {X : XT} (hX : Lok X) (g : Mem)  (hI : Inv g) : Ctr l X yX9_open cX9_open 2 (some .int) (rmD 5) [.ref (aL X 34)] g (pI (fun r g2 => Inv g2 ∧ Kq [36, 37, 38, 39, 47, 48, 49] [4, 16, 17, 20, 21] g g2)) := by
  refine Ctr.of (lv := [(0, .ref (aL X 34))]) hX (by decide) rfl (Nat.le_of_ble_eq_true rfl) ?_
  intro p e s m below meth c C
  refine m_aload_n C dX9_open_0 0 rfl ?_
  refine m_geti (rf := "") C 17 rfl gd9 (by decide) sh_34 rfl dX9_open_1 lk_X9_206 ?_
  refine m_if_ne C 10 dX9_open_4 (by decide) (fun h1 => ?_) (fun h1 => ?_)
  · skip
    have th1 := i_ne h1
    rw [show (0 : Int32).toInt = 0 by decide] at th1
    refine m_aload_n C dX9_open_10 0 rfl ?_
    refine m_iconst C (0 : Int32) dX9_open_11 (by decide) ?_
    refine m_put (rf := "") C 16 rfl gd9 (by decide) tyX9 tyX9_ok nmX9 rfl (tyX9_ok 16 (by decide)) rfl rfl sh_34 rfl dX9_open_12 lk_X9_210 ?_
    refine m_mem (fun g2 eg2 => ?_)
    have hI3 : Inv g2 := by rw [eg2]; exact hI.up (ok_many (by decide) (by decide))
    have hK4 : Kq [36, 37, 38, 39, 47, 48, 49] [4, 16, 17, 20, 21] g g2 := by rw [eg2]; exact Kq.upF Kq.rf (by decide)
    have ev5 : g2 34 17 = g 34 17 := by rw [eg2]; exact up2_nei (Or.inr (by decide))
    have tev5 := congrArg Int32.toInt ev5
    have w6 : g2 34 16 = (0 : Int32) := by rw [eg2]; exact up2_self
    have tw6 := congrArg Int32.toInt w6
    rw [show (0 : Int32).toInt = 0 by decide] at tw6
    have L15 : ∀ (n15 : Nat)  (g7 : Mem), (61 - (g7 34 16).toInt).toNat < n15 → Inv g7 → Kq [36, 37, 38, 39, 47, 48, 49] [4, 16, 17, 20, 21] g g7 → 0 ≤ (g7 34 16).toInt ∧ (g7 34 16).toInt ≤ 60 → Wm X p l e (rmD 5) s m ([.ref (aL X 34)] : List Value).toArray below meth c 2 0 0 (MQ below (cQ X (pI (fun r g2 => Inv g2 ∧ Kq [36, 37, 38, 39, 47, 48, 49] [4, 16, 17, 20, 21] g g2))) ([.ref (aL X 34)] : List Value).toArray s 0 0 (Ab X)) g7 15 [(0, .ref (aL X 34))] [] := by
      intro n15
      induction n15 with
      | zero => intro  g7 hm; exact absurd hm (Nat.not_lt_zero _)
      | succ n15 ih15 =>
        intro  g7 hm15 hI8 hK9 i10
        obtain ⟨i10a, i10b⟩ := i10
        refine m_aload_n C dX9_open_15 0 rfl ?_
        refine m_geti (rf := "") C 16 rfl gd9 (by decide) sh_34 rfl dX9_open_16 lk_X9_210 ?_
        have r11 := iv_many hI8
        refine m_bipush C (60 : Int32) dX9_open_19 (by decide) ?_
        refine m_icmp_ge C 48 dX9_open_21 (by decide) (fun h12 => ?_) (fun h12 => ?_)
        · skip
          have th12 := i_le h12
          rw [show (60 : Int32).toInt = 60 by decide] at th12
          refine m_aload_n C dX9_open_48 0 rfl ?_
          refine m_bipush C (17 : Int32) dX9_open_49 (by decide) ?_
          refine m_aload_n C dX9_open_51 0 rfl ?_
          refine m_geti (rf := "") C 16 rfl gd9 (by decide) sh_34 rfl dX9_open_52 lk_X9_210 ?_
          have r13 := iv_many hI8
          refine m_imul C dX9_open_55 ?_
          have t14 : ((17 : Int32) * (g7 34 16)).toInt = (17 : Int) * (g7 34 16).toInt := i_mul (by decide) rfl (by omega) (by omega)
          refine m_put (rf := "") C 20 rfl gd9 (by decide) tyX9 tyX9_ok nmX9 rfl (tyX9_ok 20 (by decide)) rfl rfl sh_34 rfl dX9_open_56 lk_X9_220 ?_
          refine m_mem (fun g15 eg15 => ?_)
          have hI16 : Inv g15 := by rw [eg15]; exact hI8.up (ok_mwrt (by omega) (by omega))
          have hK17 : Kq [36, 37, 38, 39, 47, 48, 49] [4, 16, 17, 20, 21] g g15 := by rw [eg15]; exact Kq.upF hK9 (by decide)
          have ev18 : g15 34 16 = g7 34 16 := by rw [eg15]; exact up2_nei (Or.inr (by decide))
          have tev18 := congrArg Int32.toInt ev18
          have w19 : g15 34 20 = (17 : Int32) * (g7 34 16) := by rw [eg15]; exact up2_self
          have tw19 := congrArg Int32.toInt w19
          refine m_aload_n C dX9_open_59 0 rfl ?_
          refine m_aload_n C dX9_open_60 0 rfl ?_
          refine m_geti (rf := "") C 20 rfl gd9 (by decide) sh_34 rfl dX9_open_61 lk_X9_220 ?_
          have r20 := iv_mwrt hI16
          refine m_put (rf := "") C 21 rfl gd9 (by decide) tyX9 tyX9_ok nmX9 rfl (tyX9_ok 21 (by decide)) rfl rfl sh_34 rfl dX9_open_64 lk_X9_299 ?_
          refine m_mem (fun g21 eg21 => ?_)
          have hI22 : Inv g21 := by rw [eg21]; exact hI16.up (ok_msafe (by omega) (by omega))
          have hK23 : Kq [36, 37, 38, 39, 47, 48, 49] [4, 16, 17, 20, 21] g g21 := by rw [eg21]; exact Kq.upF hK17 (by decide)
          have ev24 : g21 34 16 = g15 34 16 := by rw [eg21]; exact up2_nei (Or.inr (by decide))
          have tev24 := congrArg Int32.toInt ev24
          have ev25 : g21 34 20 = g15 34 20 := by rw [eg21]; exact up2_nei (Or.inr (by decide))
          have tev25 := congrArg Int32.toInt ev25
          have w26 : g21 34 21 = g15 34 20 := by rw [eg21]; exact up2_self
          have tw26 := congrArg Int32.toInt w26
          refine m_aload_n C dX9_open_67 0 rfl ?_
          refine m_geti (rf := "") C 20 rfl gd9 (by decide) sh_34 rfl dX9_open_68 lk_X9_220 ?_
          have r27 := iv_mwrt hI22
          refine m_name (fun x28 ex28 => ?_)
          have t29 : x28.toInt = (g21 34 20).toInt := (congrArg Int32.toInt ex28).trans rfl
          refine m_istore_n C [(1, .int x28), (0, .ref (aL X 34))] dX9_open_71 (by decide) rfl ?_
          have L72 : ∀ (n72 : Nat) (x30 : Int32) (g31 : Mem), (1021 - x30.toInt).toNat < n72 → Inv g31 → Kq [36, 37, 38, 39, 47, 48, 49] [4, 16, 17, 20, 21] g g31 → 0 ≤ x30.toInt ∧ x30.toInt ≤ 1020 → Wm X p l e (rmD 5) s m ([.ref (aL X 34)] : List Value).toArray below meth c 2 0 0 (MQ below (cQ X (pI (fun r g2 => Inv g2 ∧ Kq [36, 37, 38, 39, 47, 48, 49] [4, 16, 17, 20, 21] g g2))) ([.ref (aL X 34)] : List Value).toArray s 0 0 (Ab X)) g31 72 [(0, .ref (aL X 34)), (1, .int x30)] [] := by
            intro n72
            induction n72 with
            | zero => intro x30 g31 hm; exact absurd hm (Nat.not_lt_zero _)
            | succ n72 ih72 =>
              intro x30 g31 hm72 hI32 hK33 i34
              obtain ⟨i34a, i34b⟩ := i34
              refine m_iload_n C dX9_open_72 1 rfl ?_
              refine m_sipush C (1020 : Int32) dX9_open_73 (by decide) ?_
              refine m_icmp_ge C 92 dX9_open_76 (by decide) (fun h35 => ?_) (fun h35 => ?_)
              · skip
                have th35 := i_le h35
                rw [show (1020 : Int32).toInt = 1020 by decide] at th35
                refine m_aload_n C dX9_open_92 0 rfl ?_
                refine m_iconst C (0 : Int32) dX9_open_93 (by decide) ?_
                refine m_put (rf := "") C 17 rfl gd9 (by decide) tyX9 tyX9_ok nmX9 rfl (tyX9_ok 17 (by decide)) (by decide) (by decide) sh_34 rfl dX9_open_94 lk_X9_206 ?_
                refine m_mem (fun g36 eg36 => ?_)
                have hI37 : Inv g36 := by rw [eg36]; exact hI32.up (ok_mshut (Or.inl rfl))
                have hK38 : Kq [36, 37, 38, 39, 47, 48, 49] [4, 16, 17, 20, 21] g g36 := by rw [eg36]; exact Kq.upF hK33 (by decide)
                refine m_aload_n C dX9_open_97 0 rfl ?_
                refine m_geti (rf := "") C 16 rfl gd9 (by decide) sh_34 rfl dX9_open_98 lk_X9_210 ?_
                have r39 := iv_many hI37
                exact m_iret C dX9_open_101 ⟨_, rfl, hI37, hK38⟩
              · skip
                have th35 := i_nle h35
                rw [show (1020 : Int32).toInt = 1020 by decide] at th35
                refine m_aload_n C dX9_open_79 0 rfl ?_
                refine m_getr (rf := "") C 22 rfl gd9 (by decide) sh_34 rfl dX9_open_80 lk_X9_53 ?_
                refine m_iload_n C dX9_open_83 1 rfl ?_
                refine m_iconst C (0 : Int32) dX9_open_84 (by decide) ?_
                refine m_iast C sh_49 (i_in (by omega) (by omega)) dX9_open_85 ?_
                refine m_mem (fun g40 eg40 => ?_)
                have hI41 : Inv g40 := by rw [eg40]; exact hI32.up (ok_any (by decide))
                have hK42 : Kq [36, 37, 38, 39, 47, 48, 49] [4, 16, 17, 20, 21] g g40 := by rw [eg40]; exact Kq.upA hK33 (by decide) (by decide)
                obtain ⟨x43, ex43⟩ : ∃ z : Int32, z = x30 + Int32.ofInt 1 := ⟨_, rfl⟩
                have t44 : (x30 + (Int32.ofInt 1)).toInt = x30.toInt + (1 : Int) := i_add rfl (by decide) (by omega) (by omega)
                have t45 : x43.toInt = (x30.toInt + (1 : Int)) := (congrArg Int32.toInt ex43).trans t44
                refine m_iinc C x43 [(1, .int x43), (0, .ref (aL X 34))] dX9_open_86 (q := 1) rfl ex43.symm (by decide) rfl ?_
                refine m_goto C 72 dX9_open_89 (by decide) ?_
                refine m_lv [1, 0] rfl ?_
                exact ih72 x43 g40 (by omega) hI41 hK42 (by omega)
          refine m_lv [1, 0] rfl ?_
          exact L72 (((1021 - x28.toInt).toNat) + 1) x28 g21 (Nat.lt_succ_self _) hI22 hK23 (by omega)
        · skip
          have th12 := i_nle h12
          rw [show (60 : Int32).toInt = 60 by decide] at th12
          refine m_aload_n C dX9_open_24 0 rfl ?_
          refine m_aload_n C dX9_open_25 0 rfl ?_
          refine m_geti (rf := "") C 16 rfl gd9 (by decide) sh_34 rfl dX9_open_26 lk_X9_210 ?_
          have r46 := iv_many hI8
          refine m_invV C cal_X9_isFrame sh_34 rfl (c_X9_isFrame l hX g7 (g7 34 16) hI8 (by omega)) lk_X9_304 im_X9_isFrame se_X9_isFrame (by decide) rfl rfl (Nat.le_of_ble_eq_true rfl) dX9_open_29 ⟨Nat.le_refl _, Nat.le_refl _⟩ (rI fun r47 g48 q49 => ?_)
          obtain ⟨hI50, hK51, p52⟩ := q49
          have ev53 : g48 34 16 = g7 34 16 := hK51.2 16 (by decide)
          have tev53 := congrArg Int32.toInt ev53
          have hK54 : Kq [36, 37, 38, 39, 47, 48, 49] [4, 16, 17, 20, 21] g g48 := (hK9).tr hK51 (by decide) (by decide)
          refine m_if_eq C 48 dX9_open_32 (by decide) (fun h55 => ?_) (fun h55 => ?_)
          · skip
            have th55 := i_eq h55
            rw [show (0 : Int32).toInt = 0 by decide] at th55
            refine m_aload_n C dX9_open_48 0 rfl ?_
            refine m_bipush C (17 : Int32) dX9_open_49 (by decide) ?_
            refine m_aload_n C dX9_open_51 0 rfl ?_
            refine m_geti (rf := "") C 16 rfl gd9 (by decide) sh_34 rfl dX9_open_52 lk_X9_210 ?_
            have r56 := iv_many hI50
            refine m_imul C dX9_open_55 ?_
            have t57 : ((17 : Int32) * (g48 34 16)).toInt = (17 : Int) * (g48 34 16).toInt := i_mul (by decide) rfl (by omega) (by omega)
            refine m_put (rf := "") C 20 rfl gd9 (by decide) tyX9 tyX9_ok nmX9 rfl (tyX9_ok 20 (by decide)) rfl rfl sh_34 rfl dX9_open_56 lk_X9_220 ?_
            refine m_mem (fun g58 eg58 => ?_)
            have hI59 : Inv g58 := by rw [eg58]; exact hI50.up (ok_mwrt (by omega) (by omega))
            have hK60 : Kq [36, 37, 38, 39, 47, 48, 49] [4, 16, 17, 20, 21] g g58 := by rw [eg58]; exact Kq.upF hK54 (by decide)
            have ev61 : g58 34 16 = g48 34 16 := by rw [eg58]; exact up2_nei (Or.inr (by decide))
            have tev61 := congrArg Int32.toInt ev61
            have w62 : g58 34 20 = (17 : Int32) * (g48 34 16) := by rw [eg58]; exact up2_self
            have tw62 := congrArg Int32.toInt w62
            refine m_aload_n C dX9_open_59 0 rfl ?_
            refine m_aload_n C dX9_open_60 0 rfl ?_
            refine m_geti (rf := "") C 20 rfl gd9 (by decide) sh_34 rfl dX9_open_61 lk_X9_220 ?_
            have r63 := iv_mwrt hI59
            refine m_put (rf := "") C 21 rfl gd9 (by decide) tyX9 tyX9_ok nmX9 rfl (tyX9_ok 21 (by decide)) rfl rfl sh_34 rfl dX9_open_64 lk_X9_299 ?_
            refine m_mem (fun g64 eg64 => ?_)
            have hI65 : Inv g64 := by rw [eg64]; exact hI59.up (ok_msafe (by omega) (by omega))
            have hK66 : Kq [36, 37, 38, 39, 47, 48, 49] [4, 16, 17, 20, 21] g g64 := by rw [eg64]; exact Kq.upF hK60 (by decide)
            have ev67 : g64 34 16 = g58 34 16 := by rw [eg64]; exact up2_nei (Or.inr (by decide))
            have tev67 := congrArg Int32.toInt ev67
            have ev68 : g64 34 20 = g58 34 20 := by rw [eg64]; exact up2_nei (Or.inr (by decide))
            have tev68 := congrArg Int32.toInt ev68
            have w69 : g64 34 21 = g58 34 20 := by rw [eg64]; exact up2_self
            have tw69 := congrArg Int32.toInt w69
            refine m_aload_n C dX9_open_67 0 rfl ?_
            refine m_geti (rf := "") C 20 rfl gd9 (by decide) sh_34 rfl dX9_open_68 lk_X9_220 ?_
            have r70 := iv_mwrt hI65
            refine m_name (fun x71 ex71 => ?_)
            have t72 : x71.toInt = (g64 34 20).toInt := (congrArg Int32.toInt ex71).trans rfl
            refine m_istore_n C [(1, .int x71), (0, .ref (aL X 34))] dX9_open_71 (by decide) rfl ?_
            have L72 : ∀ (n72 : Nat) (x73 : Int32) (g74 : Mem), (1021 - x73.toInt).toNat < n72 → Inv g74 → Kq [36, 37, 38, 39, 47, 48, 49] [4, 16, 17, 20, 21] g g74 → 0 ≤ x73.toInt ∧ x73.toInt ≤ 1020 → Wm X p l e (rmD 5) s m ([.ref (aL X 34)] : List Value).toArray below meth c 2 0 0 (MQ below (cQ X (pI (fun r g2 => Inv g2 ∧ Kq [36, 37, 38, 39, 47, 48, 49] [4, 16, 17, 20, 21] g g2))) ([.ref (aL X 34)] : List Value).toArray s 0 0 (Ab X)) g74 72 [(0, .ref (aL X 34)), (1, .int x73)] [] := by
              intro n72
              induction n72 with
              | zero => intro x73 g74 hm; exact absurd hm (Nat.not_lt_zero _)
              | succ n72 ih72 =>
                intro x73 g74 hm72 hI75 hK76 i77
                obtain ⟨i77a, i77b⟩ := i77
                refine m_iload_n C dX9_open_72 1 rfl ?_
                refine m_sipush C (1020 : Int32) dX9_open_73 (by decide) ?_
                refine m_icmp_ge C 92 dX9_open_76 (by decide) (fun h78 => ?_) (fun h78 => ?_)
                · skip
                  have th78 := i_le h78
                  rw [show (1020 : Int32).toInt = 1020 by decide] at th78
                  refine m_aload_n C dX9_open_92 0 rfl ?_
                  refine m_iconst C (0 : Int32) dX9_open_93 (by decide) ?_
                  refine m_put (rf := "") C 17 rfl gd9 (by decide) tyX9 tyX9_ok nmX9 rfl (tyX9_ok 17 (by decide)) (by decide) (by decide) sh_34 rfl dX9_open_94 lk_X9_206 ?_
                  refine m_mem (fun g79 eg79 => ?_)
                  have hI80 : Inv g79 := by rw [eg79]; exact hI75.up (ok_mshut (Or.inl rfl))
                  have hK81 : Kq [36, 37, 38, 39, 47, 48, 49] [4, 16, 17, 20, 21] g g79 := by rw [eg79]; exact Kq.upF hK76 (by decide)
                  refine m_aload_n C dX9_open_97 0 rfl ?_
                  refine m_geti (rf := "") C 16 rfl gd9 (by decide) sh_34 rfl dX9_open_98 lk_X9_210 ?_
                  have r82 := iv_many hI80
                  exact m_iret C dX9_open_101 ⟨_, rfl, hI80, hK81⟩
                · skip
                  have th78 := i_nle h78
                  rw [show (1020 : Int32).toInt = 1020 by decide] at th78
                  refine m_aload_n C dX9_open_79 0 rfl ?_
                  refine m_getr (rf := "") C 22 rfl gd9 (by decide) sh_34 rfl dX9_open_80 lk_X9_53 ?_
                  refine m_iload_n C dX9_open_83 1 rfl ?_
                  refine m_iconst C (0 : Int32) dX9_open_84 (by decide) ?_
                  refine m_iast C sh_49 (i_in (by omega) (by omega)) dX9_open_85 ?_
                  refine m_mem (fun g83 eg83 => ?_)
                  have hI84 : Inv g83 := by rw [eg83]; exact hI75.up (ok_any (by decide))
                  have hK85 : Kq [36, 37, 38, 39, 47, 48, 49] [4, 16, 17, 20, 21] g g83 := by rw [eg83]; exact Kq.upA hK76 (by decide) (by decide)
                  obtain ⟨x86, ex86⟩ : ∃ z : Int32, z = x73 + Int32.ofInt 1 := ⟨_, rfl⟩
                  have t87 : (x73 + (Int32.ofInt 1)).toInt = x73.toInt + (1 : Int) := i_add rfl (by decide) (by omega) (by omega)
                  have t88 : x86.toInt = (x73.toInt + (1 : Int)) := (congrArg Int32.toInt ex86).trans t87
                  refine m_iinc C x86 [(1, .int x86), (0, .ref (aL X 34))] dX9_open_86 (q := 1) rfl ex86.symm (by decide) rfl ?_
                  refine m_goto C 72 dX9_open_89 (by decide) ?_
                  refine m_lv [1, 0] rfl ?_
                  exact ih72 x86 g83 (by omega) hI84 hK85 (by omega)
            refine m_lv [1, 0] rfl ?_
            exact L72 (((1021 - x71.toInt).toNat) + 1) x71 g64 (Nat.lt_succ_self _) hI65 hK66 (by omega)
          · skip
            have th55 := i_ne h55
            rw [show (0 : Int32).toInt = 0 by decide] at th55
            refine m_aload_n C dX9_open_35 0 rfl ?_
            refine m_dup C dX9_open_36 rfl ?_
            refine m_geti (rf := "") C 16 rfl gd9 (by decide) sh_34 rfl dX9_open_37 lk_X9_210 ?_
            have r89 := iv_many hI50
            refine m_iconst C (1 : Int32) dX9_open_40 (by decide) ?_
            refine m_iadd C dX9_open_41 ?_
            have t90 : ((g48 34 16) + (1 : Int32)).toInt = (g48 34 16).toInt + (1 : Int) := i_add rfl (by decide) (by omega) (by omega)
            refine m_put (rf := "") C 16 rfl gd9 (by decide) tyX9 tyX9_ok nmX9 rfl (tyX9_ok 16 (by decide)) rfl rfl sh_34 rfl dX9_open_42 lk_X9_210 ?_
            refine m_mem (fun g91 eg91 => ?_)
            have hI92 : Inv g91 := by rw [eg91]; exact hI50.up (ok_many (by omega) (by omega))
            have hK93 : Kq [36, 37, 38, 39, 47, 48, 49] [4, 16, 17, 20, 21] g g91 := by rw [eg91]; exact Kq.upF hK54 (by decide)
            have w94 : g91 34 16 = (g48 34 16) + (1 : Int32) := by rw [eg91]; exact up2_self
            have tw94 := congrArg Int32.toInt w94
            refine m_goto C 15 dX9_open_45 (by decide) ?_
            refine m_lv [0] rfl ?_
            exact ih15  g91 (by omega) hI92 hK93 (by omega)
    refine m_lv [0] rfl ?_
    exact L15 (((61 - (g2 34 16).toInt).toNat) + 1)  g2 (Nat.lt_succ_self _) hI3 hK4 (by omega)
  · skip
    have th1 := i_eq h1
    rw [show (0 : Int32).toInt = 0 by decide] at th1
    refine m_bipush C (-5 : Int32) dX9_open_7 (by decide) ?_
    exact m_iret C dX9_open_9 ⟨_, rfl, hI, Kq.rf⟩
set_option maxRecDepth 20000 in
set_option maxHeartbeats 4000000 in
theorem c_X9_disk (l : Launch) {X : XT} (hX : Lok X) (g : Mem) (i0 : Int32) (hI : Inv g) : Ctr l X yX9_disk cX9_disk 2 (some .int) (rmD 1) [.ref (aL X 34), .int i0] g (pI (fun r g2 => g2 = g ∧ True)) := by
  refine Ctr.of (lv := [(0, .ref (aL X 34)), (1, .int i0)]) hX (by decide) rfl (Nat.le_of_ble_eq_true rfl) ?_
  intro p e s m below meth c C
  refine m_iload_n C dX9_disk_0 1 rfl ?_
  refine m_i2l C dX9_disk_1 ?_
  refine m_lconst C (0 : Int64) dX9_disk_2 (by decide) ?_
  refine m_ldc2 C (1019) dX9_disk_3 lk_X9_307 ?_
  have t1 : (i0.toInt64).toInt = i0.toInt := i2l_t _
  have t2 : (0 : Int64).toInt = 0 := by decide
  have t3 : (1019 : Int64).toInt = 1019 := by decide
  refine m_invS C cal_X9_in (c_X9_in l hX g (i0.toInt64) (0 : Int64) (1019 : Int64) ) lk_X9_185 st_X9_in (by decide) rfl rfl (Nat.le_of_ble_eq_true rfl) dX9_disk_6 ⟨Nat.le_refl _, Nat.le_refl _⟩ (rI fun r4 g5 q6 => ?_)
  obtain ⟨eg5, ⟨rfl, h7⟩ | ⟨rfl, h7⟩⟩ := q6
  · skip
    subst g5
    refine m_if_eq C 21 dX9_disk_9 (by decide) (fun h => absurd h (by decide)) (fun _ => ?_)
    refine m_aload_n C dX9_disk_12 0 rfl ?_
    refine m_getr (rf := "") C 22 rfl gd9 (by decide) sh_34 rfl dX9_disk_13 lk_X9_53 ?_
    refine m_iload_n C dX9_disk_16 1 rfl ?_
    refine m_iald C sh_49 (i_in (by omega) (by omega)) dX9_disk_17 ?_
    refine m_goto C 23 dX9_disk_18 (by decide) ?_
    exact m_iret C dX9_disk_23 ⟨_, rfl, rfl, trivial⟩
  · skip
    subst g5
    refine m_if_eq C 21 dX9_disk_9 (by decide) (fun _ => ?_) (fun h => absurd (by decide) h)
    refine m_bipush C (-2 : Int32) dX9_disk_21 (by decide) ?_
    exact m_iret C dX9_disk_23 ⟨_, rfl, rfl, trivial⟩
set_option maxRecDepth 20000 in
set_option maxHeartbeats 4000000 in
theorem c_X9_spoil (l : Launch) {X : XT} (hX : Lok X) (g : Mem) (i0 : Int32) (v : Int32) (hI : Inv g) : Ctr l X yX9_spoil cX9_spoil 4 (some .int) (rmD 1) [.ref (aL X 34), .int i0, .int v] g (pI (fun r g2 => Inv g2 ∧ Kq [49] [] g g2)) := by
  refine Ctr.of (lv := [(0, .ref (aL X 34)), (1, .int i0), (2, .int v)]) hX (by decide) rfl (Nat.le_of_ble_eq_true rfl) ?_
  intro p e s m below meth c C
  refine m_iload_n C dX9_spoil_0 1 rfl ?_
  refine m_i2l C dX9_spoil_1 ?_
  refine m_lconst C (0 : Int64) dX9_spoil_2 (by decide) ?_
  refine m_ldc2 C (1019) dX9_spoil_3 lk_X9_307 ?_
  have t1 : (i0.toInt64).toInt = i0.toInt := i2l_t _
  have t2 : (0 : Int64).toInt = 0 := by decide
  have t3 : (1019 : Int64).toInt = 1019 := by decide
  refine m_invS C cal_X9_in (c_X9_in l hX g (i0.toInt64) (0 : Int64) (1019 : Int64) ) lk_X9_185 st_X9_in (by decide) rfl rfl (Nat.le_of_ble_eq_true rfl) dX9_spoil_6 ⟨Nat.le_refl _, Nat.le_refl _⟩ (rI fun r4 g5 q6 => ?_)
  obtain ⟨eg5, ⟨rfl, h7⟩ | ⟨rfl, h7⟩⟩ := q6
  · skip
    subst g5
    refine m_if_eq C 24 dX9_spoil_9 (by decide) (fun h => absurd h (by decide)) (fun _ => ?_)
    refine m_iload_n C dX9_spoil_12 2 rfl ?_
    refine m_i2l C dX9_spoil_13 ?_
    refine m_lconst C (1 : Int64) dX9_spoil_14 (by decide) ?_
    refine m_ldc2 C (255) dX9_spoil_15 lk_X9_291 ?_
    have t8 : (v.toInt64).toInt = v.toInt := i2l_t _
    have t9 : (1 : Int64).toInt = 1 := by decide
    have t10 : (255 : Int64).toInt = 255 := by decide
    refine m_invS C cal_X9_in (c_X9_in l hX g (v.toInt64) (1 : Int64) (255 : Int64) ) lk_X9_185 st_X9_in (by decide) rfl rfl (Nat.le_of_ble_eq_true rfl) dX9_spoil_18 ⟨Nat.le_refl _, Nat.le_refl _⟩ (rI fun r11 g12 q13 => ?_)
    obtain ⟨eg12, ⟨rfl, h14⟩ | ⟨rfl, h14⟩⟩ := q13
    · skip
      subst g12
      refine m_if_ne C 27 dX9_spoil_21 (by decide) (fun _ => ?_) (fun h => absurd h (by decide))
      refine m_aload_n C dX9_spoil_27 0 rfl ?_
      refine m_getr (rf := "") C 22 rfl gd9 (by decide) sh_34 rfl dX9_spoil_28 lk_X9_53 ?_
      refine m_iload_n C dX9_spoil_31 1 rfl ?_
      refine m_iald C sh_49 (i_in (by omega) (by omega)) dX9_spoil_32 ?_
      refine m_name (fun x15 ex15 => ?_)
      refine m_istore_n C [(3, .int x15), (0, .ref (aL X 34)), (1, .int i0), (2, .int v)] dX9_spoil_33 (by decide) rfl ?_
      refine m_aload_n C dX9_spoil_34 1 rfl ?_
      refine m_getr (rf := "") C 22 rfl gd9 (by decide) sh_34 rfl dX9_spoil_35 lk_X9_53 ?_
      refine m_iload_n C dX9_spoil_38 2 rfl ?_
      refine m_iload_n C dX9_spoil_39 0 rfl ?_
      refine m_iload_n C dX9_spoil_40 3 rfl ?_
      refine m_ixor C dX9_spoil_41 ?_
      refine m_iast C sh_49 (i_in (by omega) (by omega)) dX9_spoil_42 ?_
      refine m_mem (fun g16 eg16 => ?_)
      have hI17 : Inv g16 := by rw [eg16]; exact hI.up (ok_any (by decide))
      have hK18 : Kq [49] [] g g16 := by rw [eg16]; exact Kq.upA Kq.rf (by decide) (by decide)
      refine m_iload_n C dX9_spoil_43 0 rfl ?_
      exact m_iret C dX9_spoil_44 ⟨_, rfl, hI17, hK18⟩
    · skip
      subst g12
      refine m_if_ne C 27 dX9_spoil_21 (by decide) (fun h => absurd (by decide) h) (fun _ => ?_)
      refine m_bipush C (-2 : Int32) dX9_spoil_24 (by decide) ?_
      exact m_iret C dX9_spoil_26 ⟨_, rfl, hI, Kq.rf⟩
  · skip
    subst g5
    refine m_if_eq C 24 dX9_spoil_9 (by decide) (fun _ => ?_) (fun h => absurd (by decide) h)
    refine m_bipush C (-2 : Int32) dX9_spoil_24 (by decide) ?_
    exact m_iret C dX9_spoil_26 ⟨_, rfl, hI, Kq.rf⟩
set_option maxRecDepth 20000 in
set_option maxHeartbeats 4000000 in
theorem c_X9_audit (l : Launch) {X : XT} (hX : Lok X) (g : Mem)  (hI : Inv g) : Ctr l X yX9_audit cX9_audit 4 (some .int) (rmD 0) [.ref (aL X 34)] g (pI (fun r g2 => Inv g2 ∧ Kq [] [] g g2)) := by
  refine Ctr.of (lv := [(0, .ref (aL X 34))]) hX (by decide) rfl (Nat.le_of_ble_eq_true rfl) ?_
  intro p e s m below meth c C
  refine m_aload_n C dX9_audit_0 0 rfl ?_
  refine m_geti (rf := "") C 17 rfl gd9 (by decide) sh_34 rfl dX9_audit_1 lk_X9_206 ?_
  refine m_if_eq C 10 dX9_audit_4 (by decide) (fun h1 => ?_) (fun h1 => ?_)
  · skip
    have th1 := i_eq h1
    rw [show (0 : Int32).toInt = 0 by decide] at th1
    refine m_iconst C (0 : Int32) dX9_audit_10 (by decide) ?_
    refine m_istore_n C [(1, .int (0 : Int32)), (0, .ref (aL X 34))] dX9_audit_11 (by decide) rfl ?_
    have L12 : ∀ (n12 : Nat) (x3 : Int32) (g4 : Mem), (61 - x3.toInt).toNat < n12 → Inv g4 → Kq [] [] g g4 → 0 ≤ x3.toInt ∧ x3.toInt ≤ 60 → Wm X p l e (rmD 0) s m ([.ref (aL X 34)] : List Value).toArray below meth c 4 0 0 (MQ below (cQ X (pI (fun r g2 => Inv g2 ∧ Kq [] [] g g2))) ([.ref (aL X 34)] : List Value).toArray s 0 0 (Ab X)) g4 12 [(0, .ref (aL X 34)), (1, .int x3)] [] := by
      intro n12
      induction n12 with
      | zero => intro x3 g4 hm; exact absurd hm (Nat.not_lt_zero _)
      | succ n12 ih12 =>
        intro x3 g4 hm12 hI5 hK6 i7
        obtain ⟨i7a, i7b⟩ := i7
        refine m_iload_n C dX9_audit_12 1 rfl ?_
        refine m_aload_n C dX9_audit_13 0 rfl ?_
        refine m_geti (rf := "") C 16 rfl gd9 (by decide) sh_34 rfl dX9_audit_14 lk_X9_210 ?_
        have r8 := iv_many hI5
        have ev9 : g4 34 16 = g 34 16 := hK6.2 16 (by decide)
        have tev9 := congrArg Int32.toInt ev9
        refine m_icmp_ge C 153 dX9_audit_17 (by decide) (fun h10 => ?_) (fun h10 => ?_)
        · skip
          have th10 := i_le h10
          refine m_iconst C (-1 : Int32) dX9_audit_153 (by decide) ?_
          exact m_iret C dX9_audit_154 ⟨_, rfl, hI5, hK6⟩
        · skip
          have th10 := i_nle h10
          refine m_aload_n C dX9_audit_20 0 rfl ?_
          refine m_getr (rf := "") C 22 rfl gd9 (by decide) sh_34 rfl dX9_audit_21 lk_X9_53 ?_
          refine m_bipush C (17 : Int32) dX9_audit_24 (by decide) ?_
          refine m_iload_n C dX9_audit_26 1 rfl ?_
          refine m_imul C dX9_audit_27 ?_
          have t11 : ((17 : Int32) * x3).toInt = (17 : Int) * x3.toInt := i_mul (by decide) rfl (by omega) (by omega)
          refine m_iald C sh_49 (i_in (by omega) (by omega)) dX9_audit_28 ?_
          refine m_bipush C (90 : Int32) dX9_audit_29 (by decide) ?_
          refine m_icmp_ne C 38 dX9_audit_31 (by decide) (fun h12 => ?_) (fun h12 => ?_)
          · skip
            have th12 := i_ne h12
            rw [show (90 : Int32).toInt = 90 by decide] at th12
            refine m_iconst C (0 : Int32) dX9_audit_38 (by decide) ?_
            refine m_istore_n C [(2, .int (0 : Int32)), (0, .ref (aL X 34)), (1, .int x3)] dX9_audit_39 (by decide) rfl ?_
            refine m_iconst C (0 : Int32) dX9_audit_40 (by decide) ?_
            refine m_istore_n C [(3, .int (0 : Int32)), (2, .int (0 : Int32)), (0, .ref (aL X 34)), (1, .int x3)] dX9_audit_41 (by decide) rfl ?_
            have L42 : ∀ (n42 : Nat) (x15 : Int32) (x16 : Int32) (g17 : Mem), (13 - x16.toInt).toNat < n42 → Inv g17 → Kq [] [] g g17 → 0 ≤ x16.toInt ∧ x16.toInt ≤ 12 → Wm X p l e (rmD 0) s m ([.ref (aL X 34)] : List Value).toArray below meth c 4 0 0 (MQ below (cQ X (pI (fun r g2 => Inv g2 ∧ Kq [] [] g g2))) ([.ref (aL X 34)] : List Value).toArray s 0 0 (Ab X)) g17 42 [(0, .ref (aL X 34)), (1, .int x3), (2, .int x15), (3, .int x16)] [] := by
              intro n42
              induction n42 with
              | zero => intro x15 x16 g17 hm; exact absurd hm (Nat.not_lt_zero _)
              | succ n42 ih42 =>
                intro x15 x16 g17 hm42 hI18 hK19 i20
                obtain ⟨i20a, i20b⟩ := i20
                refine m_iload_n C dX9_audit_42 3 rfl ?_
                refine m_bipush C (12 : Int32) dX9_audit_43 (by decide) ?_
                refine m_icmp_ge C 89 dX9_audit_45 (by decide) (fun h21 => ?_) (fun h21 => ?_)
                · skip
                  have th21 := i_le h21
                  rw [show (12 : Int32).toInt = 12 by decide] at th21
                  refine m_iconst C (0 : Int32) dX9_audit_89 (by decide) ?_
                  refine m_istore_n C [(3, .int (0 : Int32)), (0, .ref (aL X 34)), (1, .int x3), (2, .int x15)] dX9_audit_90 (by decide) rfl ?_
                  have L91 : ∀ (n91 : Nat) (x23 : Int32) (x24 : Int32) (g25 : Mem), (5 - x24.toInt).toNat < n91 → Inv g25 → Kq [] [] g g25 → 0 ≤ x24.toInt ∧ x24.toInt ≤ 4 → Wm X p l e (rmD 0) s m ([.ref (aL X 34)] : List Value).toArray below meth c 4 0 0 (MQ below (cQ X (pI (fun r g2 => Inv g2 ∧ Kq [] [] g g2))) ([.ref (aL X 34)] : List Value).toArray s 0 0 (Ab X)) g25 91 [(0, .ref (aL X 34)), (1, .int x3), (2, .int x23), (3, .int x24)] [] := by
                    intro n91
                    induction n91 with
                    | zero => intro x23 x24 g25 hm; exact absurd hm (Nat.not_lt_zero _)
                    | succ n91 ih91 =>
                      intro x23 x24 g25 hm91 hI26 hK27 i28
                      obtain ⟨i28a, i28b⟩ := i28
                      refine m_iload_n C dX9_audit_91 3 rfl ?_
                      refine m_iconst C (4 : Int32) dX9_audit_92 (by decide) ?_
                      refine m_icmp_ge C 141 dX9_audit_93 (by decide) (fun h29 => ?_) (fun h29 => ?_)
                      · skip
                        have th29 := i_le h29
                        rw [show (4 : Int32).toInt = 4 by decide] at th29
                        refine m_iload_n C dX9_audit_141 2 rfl ?_
                        refine m_if_ne C 147 dX9_audit_142 (by decide) (fun h30 => ?_) (fun h30 => ?_)
                        · skip
                          have th30 := i_ne h30
                          rw [show (0 : Int32).toInt = 0 by decide] at th30
                          obtain ⟨x31, ex31⟩ : ∃ z : Int32, z = x3 + Int32.ofInt 1 := ⟨_, rfl⟩
                          have t32 : (x3 + (Int32.ofInt 1)).toInt = x3.toInt + (1 : Int) := i_add rfl (by decide) (by omega) (by omega)
                          have t33 : x31.toInt = (x3.toInt + (1 : Int)) := (congrArg Int32.toInt ex31).trans t32
                          refine m_iinc C x31 [(1, .int x31), (0, .ref (aL X 34)), (2, .int x23), (3, .int x24)] dX9_audit_147 (q := 1) rfl ex31.symm (by decide) rfl ?_
                          refine m_goto C 12 dX9_audit_150 (by decide) ?_
                          refine m_lv [1, 0] rfl ?_
                          exact ih12 x31 g25 (by omega) hI26 hK27 (by omega)
                        · skip
                          have th30 := i_eq h30
                          rw [show (0 : Int32).toInt = 0 by decide] at th30
                          refine m_iload_n C dX9_audit_145 1 rfl ?_
                          exact m_iret C dX9_audit_146 ⟨_, rfl, hI26, hK27⟩
                      · skip
                        have th29 := i_nle h29
                        rw [show (4 : Int32).toInt = 4 by decide] at th29
                        refine m_iload_n C dX9_audit_96 2 rfl ?_
                        refine m_aload_n C dX9_audit_97 0 rfl ?_
                        refine m_getr (rf := "") C 22 rfl gd9 (by decide) sh_34 rfl dX9_audit_98 lk_X9_53 ?_
                        refine m_bipush C (17 : Int32) dX9_audit_101 (by decide) ?_
                        refine m_iload_n C dX9_audit_103 1 rfl ?_
                        refine m_imul C dX9_audit_104 ?_
                        refine m_bipush C (13 : Int32) dX9_audit_105 (by decide) ?_
                        refine m_iadd C dX9_audit_107 ?_
                        refine m_iload_n C dX9_audit_108 3 rfl ?_
                        refine m_iadd C dX9_audit_109 ?_
                        have t34 : ((17 : Int32) * x3).toInt = (17 : Int) * x3.toInt := i_mul (by decide) rfl (by omega) (by omega)
                        have t35 : (((17 : Int32) * x3) + (13 : Int32)).toInt = ((17 : Int) * x3.toInt) + (13 : Int) := i_add t34 (by decide) (by omega) (by omega)
                        have t36 : ((((17 : Int32) * x3) + (13 : Int32)) + x24).toInt = (((17 : Int) * x3.toInt) + (13 : Int)) + x24.toInt := i_add t35 rfl (by omega) (by omega)
                        refine m_iald C sh_49 (i_in (by omega) (by omega)) dX9_audit_110 ?_
                        refine m_aload_n C dX9_audit_111 0 rfl ?_
                        refine m_getr (rf := "") C 19 rfl gd9 (by decide) sh_34 rfl dX9_audit_112 lk_X9_50 ?_
                        refine m_bipush C (32 : Int32) dX9_audit_115 (by decide) ?_
                        refine m_iload_n C dX9_audit_117 1 rfl ?_
                        refine m_imul C dX9_audit_118 ?_
                        refine m_bipush C (32 : Int32) dX9_audit_119 (by decide) ?_
                        refine m_iadd C dX9_audit_121 ?_
                        refine m_iload_n C dX9_audit_122 3 rfl ?_
                        refine m_iadd C dX9_audit_123 ?_
                        have t37 : ((32 : Int32) * x3).toInt = (32 : Int) * x3.toInt := i_mul (by decide) rfl (by omega) (by omega)
                        have t38 : (((32 : Int32) * x3) + (32 : Int32)).toInt = ((32 : Int) * x3.toInt) + (32 : Int) := i_add t37 (by decide) (by omega) (by omega)
                        have t39 : ((((32 : Int32) * x3) + (32 : Int32)) + x24).toInt = (((32 : Int) * x3.toInt) + (32 : Int)) + x24.toInt := i_add t38 rfl (by omega) (by omega)
                        refine m_iald C sh_48 (i_in (by omega) (by omega)) dX9_audit_124 ?_
                        refine m_icmp_ne C 132 dX9_audit_125 (by decide) (fun h40 => ?_) (fun h40 => ?_)
                        · skip
                          have th40 := i_ne h40
                          refine m_iconst C (0 : Int32) dX9_audit_132 (by decide) ?_
                          refine m_iand C dX9_audit_133 ?_
                          refine m_name (fun x41 ex41 => ?_)
                          have t42 : 0 ≤ (x23 &&& (0 : Int32)).toInt ∧ (x23 &&& (0 : Int32)).toInt < 1 := i_and _ 0 (by decide) (by decide)
                          have t43 : x41.toInt = (x23 &&& (0 : Int32)).toInt := (congrArg Int32.toInt ex41).trans rfl
                          refine m_istore_n C [(2, .int x41), (0, .ref (aL X 34)), (1, .int x3), (3, .int x24)] dX9_audit_134 (by decide) rfl ?_
                          obtain ⟨x44, ex44⟩ : ∃ z : Int32, z = x24 + Int32.ofInt 1 := ⟨_, rfl⟩
                          have t45 : (x24 + (Int32.ofInt 1)).toInt = x24.toInt + (1 : Int) := i_add rfl (by decide) (by omega) (by omega)
                          have t46 : x44.toInt = (x24.toInt + (1 : Int)) := (congrArg Int32.toInt ex44).trans t45
                          refine m_iinc C x44 [(3, .int x44), (2, .int x41), (0, .ref (aL X 34)), (1, .int x3)] dX9_audit_135 (q := 3) rfl ex44.symm (by decide) rfl ?_
                          refine m_goto C 91 dX9_audit_138 (by decide) ?_
                          refine m_lv [2, 3, 1, 0] rfl ?_
                          exact ih91 x41 x44 g25 (by omega) hI26 hK27 (by omega)
                        · skip
                          have th40 := i_eq h40
                          refine m_iconst C (1 : Int32) dX9_audit_128 (by decide) ?_
                          refine m_goto C 133 dX9_audit_129 (by decide) ?_
                          refine m_iand C dX9_audit_133 ?_
                          refine m_name (fun x47 ex47 => ?_)
                          have t48 : 0 ≤ (x23 &&& (1 : Int32)).toInt ∧ (x23 &&& (1 : Int32)).toInt < 2 := i_and _ 1 (by decide) (by decide)
                          have t49 : x47.toInt = (x23 &&& (1 : Int32)).toInt := (congrArg Int32.toInt ex47).trans rfl
                          refine m_istore_n C [(2, .int x47), (0, .ref (aL X 34)), (1, .int x3), (3, .int x24)] dX9_audit_134 (by decide) rfl ?_
                          obtain ⟨x50, ex50⟩ : ∃ z : Int32, z = x24 + Int32.ofInt 1 := ⟨_, rfl⟩
                          have t51 : (x24 + (Int32.ofInt 1)).toInt = x24.toInt + (1 : Int) := i_add rfl (by decide) (by omega) (by omega)
                          have t52 : x50.toInt = (x24.toInt + (1 : Int)) := (congrArg Int32.toInt ex50).trans t51
                          refine m_iinc C x50 [(3, .int x50), (2, .int x47), (0, .ref (aL X 34)), (1, .int x3)] dX9_audit_135 (q := 3) rfl ex50.symm (by decide) rfl ?_
                          refine m_goto C 91 dX9_audit_138 (by decide) ?_
                          refine m_lv [2, 3, 1, 0] rfl ?_
                          exact ih91 x47 x50 g25 (by omega) hI26 hK27 (by omega)
                  have t53 : (0 : Int32).toInt = 0 := by decide
                  refine m_lv [1, 2, 3, 0] rfl ?_
                  exact L91 (((5 - (0 : Int32).toInt).toNat) + 1) x15 (0 : Int32) g17 (Nat.lt_succ_self _) hI18 hK19 (by omega)
                · skip
                  have th21 := i_nle h21
                  rw [show (12 : Int32).toInt = 12 by decide] at th21
                  refine m_iload_n C dX9_audit_48 2 rfl ?_
                  refine m_aload_n C dX9_audit_49 0 rfl ?_
                  refine m_getr (rf := "") C 22 rfl gd9 (by decide) sh_34 rfl dX9_audit_50 lk_X9_53 ?_
                  refine m_bipush C (17 : Int32) dX9_audit_53 (by decide) ?_
                  refine m_iload_n C dX9_audit_55 1 rfl ?_
                  refine m_imul C dX9_audit_56 ?_
                  refine m_iconst C (1 : Int32) dX9_audit_57 (by decide) ?_
                  refine m_iadd C dX9_audit_58 ?_
                  refine m_iload_n C dX9_audit_59 3 rfl ?_
                  refine m_iadd C dX9_audit_60 ?_
                  have t54 : ((17 : Int32) * x3).toInt = (17 : Int) * x3.toInt := i_mul (by decide) rfl (by omega) (by omega)
                  have t55 : (((17 : Int32) * x3) + (1 : Int32)).toInt = ((17 : Int) * x3.toInt) + (1 : Int) := i_add t54 (by decide) (by omega) (by omega)
                  have t56 : ((((17 : Int32) * x3) + (1 : Int32)) + x16).toInt = (((17 : Int) * x3.toInt) + (1 : Int)) + x16.toInt := i_add t55 rfl (by omega) (by omega)
                  refine m_iald C sh_49 (i_in (by omega) (by omega)) dX9_audit_61 ?_
                  refine m_aload_n C dX9_audit_62 0 rfl ?_
                  refine m_getr (rf := "") C 18 rfl gd9 (by decide) sh_34 rfl dX9_audit_63 lk_X9_47 ?_
                  refine m_bipush C (12 : Int32) dX9_audit_66 (by decide) ?_
                  refine m_iload_n C dX9_audit_68 1 rfl ?_
                  refine m_imul C dX9_audit_69 ?_
                  refine m_iload_n C dX9_audit_70 3 rfl ?_
                  refine m_iadd C dX9_audit_71 ?_
                  have t57 : ((12 : Int32) * x3).toInt = (12 : Int) * x3.toInt := i_mul (by decide) rfl (by omega) (by omega)
                  have t58 : (((12 : Int32) * x3) + x16).toInt = ((12 : Int) * x3.toInt) + x16.toInt := i_add t57 rfl (by omega) (by omega)
                  refine m_iald C sh_47 (i_in (by omega) (by omega)) dX9_audit_72 ?_
                  refine m_icmp_ne C 80 dX9_audit_73 (by decide) (fun h59 => ?_) (fun h59 => ?_)
                  · skip
                    have th59 := i_ne h59
                    refine m_iconst C (0 : Int32) dX9_audit_80 (by decide) ?_
                    refine m_iand C dX9_audit_81 ?_
                    refine m_name (fun x60 ex60 => ?_)
                    have t61 : 0 ≤ (x15 &&& (0 : Int32)).toInt ∧ (x15 &&& (0 : Int32)).toInt < 1 := i_and _ 0 (by decide) (by decide)
                    have t62 : x60.toInt = (x15 &&& (0 : Int32)).toInt := (congrArg Int32.toInt ex60).trans rfl
                    refine m_istore_n C [(2, .int x60), (0, .ref (aL X 34)), (1, .int x3), (3, .int x16)] dX9_audit_82 (by decide) rfl ?_
                    obtain ⟨x63, ex63⟩ : ∃ z : Int32, z = x16 + Int32.ofInt 1 := ⟨_, rfl⟩
                    have t64 : (x16 + (Int32.ofInt 1)).toInt = x16.toInt + (1 : Int) := i_add rfl (by decide) (by omega) (by omega)
                    have t65 : x63.toInt = (x16.toInt + (1 : Int)) := (congrArg Int32.toInt ex63).trans t64
                    refine m_iinc C x63 [(3, .int x63), (2, .int x60), (0, .ref (aL X 34)), (1, .int x3)] dX9_audit_83 (q := 3) rfl ex63.symm (by decide) rfl ?_
                    refine m_goto C 42 dX9_audit_86 (by decide) ?_
                    refine m_lv [2, 3, 1, 0] rfl ?_
                    exact ih42 x60 x63 g17 (by omega) hI18 hK19 (by omega)
                  · skip
                    have th59 := i_eq h59
                    refine m_iconst C (1 : Int32) dX9_audit_76 (by decide) ?_
                    refine m_goto C 81 dX9_audit_77 (by decide) ?_
                    refine m_iand C dX9_audit_81 ?_
                    refine m_name (fun x66 ex66 => ?_)
                    have t67 : 0 ≤ (x15 &&& (1 : Int32)).toInt ∧ (x15 &&& (1 : Int32)).toInt < 2 := i_and _ 1 (by decide) (by decide)
                    have t68 : x66.toInt = (x15 &&& (1 : Int32)).toInt := (congrArg Int32.toInt ex66).trans rfl
                    refine m_istore_n C [(2, .int x66), (0, .ref (aL X 34)), (1, .int x3), (3, .int x16)] dX9_audit_82 (by decide) rfl ?_
                    obtain ⟨x69, ex69⟩ : ∃ z : Int32, z = x16 + Int32.ofInt 1 := ⟨_, rfl⟩
                    have t70 : (x16 + (Int32.ofInt 1)).toInt = x16.toInt + (1 : Int) := i_add rfl (by decide) (by omega) (by omega)
                    have t71 : x69.toInt = (x16.toInt + (1 : Int)) := (congrArg Int32.toInt ex69).trans t70
                    refine m_iinc C x69 [(3, .int x69), (2, .int x66), (0, .ref (aL X 34)), (1, .int x3)] dX9_audit_83 (q := 3) rfl ex69.symm (by decide) rfl ?_
                    refine m_goto C 42 dX9_audit_86 (by decide) ?_
                    refine m_lv [2, 3, 1, 0] rfl ?_
                    exact ih42 x66 x69 g17 (by omega) hI18 hK19 (by omega)
            have t72 : (0 : Int32).toInt = 0 := by decide
            have t73 : (0 : Int32).toInt = 0 := by decide
            refine m_lv [2, 3, 1, 0] rfl ?_
            exact L42 (((13 - (0 : Int32).toInt).toNat) + 1) (0 : Int32) (0 : Int32) g4 (Nat.lt_succ_self _) hI5 hK6 (by omega)
          · skip
            have th12 := i_eq h12
            rw [show (90 : Int32).toInt = 90 by decide] at th12
            refine m_iconst C (1 : Int32) dX9_audit_34 (by decide) ?_
            refine m_goto C 39 dX9_audit_35 (by decide) ?_
            refine m_istore_n C [(2, .int (1 : Int32)), (0, .ref (aL X 34)), (1, .int x3)] dX9_audit_39 (by decide) rfl ?_
            refine m_iconst C (0 : Int32) dX9_audit_40 (by decide) ?_
            refine m_istore_n C [(3, .int (0 : Int32)), (2, .int (1 : Int32)), (0, .ref (aL X 34)), (1, .int x3)] dX9_audit_41 (by decide) rfl ?_
            have L42 : ∀ (n42 : Nat) (x76 : Int32) (x77 : Int32) (g78 : Mem), (13 - x77.toInt).toNat < n42 → Inv g78 → Kq [] [] g g78 → 0 ≤ x77.toInt ∧ x77.toInt ≤ 12 → Wm X p l e (rmD 0) s m ([.ref (aL X 34)] : List Value).toArray below meth c 4 0 0 (MQ below (cQ X (pI (fun r g2 => Inv g2 ∧ Kq [] [] g g2))) ([.ref (aL X 34)] : List Value).toArray s 0 0 (Ab X)) g78 42 [(0, .ref (aL X 34)), (1, .int x3), (2, .int x76), (3, .int x77)] [] := by
              intro n42
              induction n42 with
              | zero => intro x76 x77 g78 hm; exact absurd hm (Nat.not_lt_zero _)
              | succ n42 ih42 =>
                intro x76 x77 g78 hm42 hI79 hK80 i81
                obtain ⟨i81a, i81b⟩ := i81
                refine m_iload_n C dX9_audit_42 3 rfl ?_
                refine m_bipush C (12 : Int32) dX9_audit_43 (by decide) ?_
                refine m_icmp_ge C 89 dX9_audit_45 (by decide) (fun h82 => ?_) (fun h82 => ?_)
                · skip
                  have th82 := i_le h82
                  rw [show (12 : Int32).toInt = 12 by decide] at th82
                  refine m_iconst C (0 : Int32) dX9_audit_89 (by decide) ?_
                  refine m_istore_n C [(3, .int (0 : Int32)), (0, .ref (aL X 34)), (1, .int x3), (2, .int x76)] dX9_audit_90 (by decide) rfl ?_
                  have L91 : ∀ (n91 : Nat) (x84 : Int32) (x85 : Int32) (g86 : Mem), (5 - x85.toInt).toNat < n91 → Inv g86 → Kq [] [] g g86 → 0 ≤ x85.toInt ∧ x85.toInt ≤ 4 → Wm X p l e (rmD 0) s m ([.ref (aL X 34)] : List Value).toArray below meth c 4 0 0 (MQ below (cQ X (pI (fun r g2 => Inv g2 ∧ Kq [] [] g g2))) ([.ref (aL X 34)] : List Value).toArray s 0 0 (Ab X)) g86 91 [(0, .ref (aL X 34)), (1, .int x3), (2, .int x84), (3, .int x85)] [] := by
                    intro n91
                    induction n91 with
                    | zero => intro x84 x85 g86 hm; exact absurd hm (Nat.not_lt_zero _)
                    | succ n91 ih91 =>
                      intro x84 x85 g86 hm91 hI87 hK88 i89
                      obtain ⟨i89a, i89b⟩ := i89
                      refine m_iload_n C dX9_audit_91 3 rfl ?_
                      refine m_iconst C (4 : Int32) dX9_audit_92 (by decide) ?_
                      refine m_icmp_ge C 141 dX9_audit_93 (by decide) (fun h90 => ?_) (fun h90 => ?_)
                      · skip
                        have th90 := i_le h90
                        rw [show (4 : Int32).toInt = 4 by decide] at th90
                        refine m_iload_n C dX9_audit_141 2 rfl ?_
                        refine m_if_ne C 147 dX9_audit_142 (by decide) (fun h91 => ?_) (fun h91 => ?_)
                        · skip
                          have th91 := i_ne h91
                          rw [show (0 : Int32).toInt = 0 by decide] at th91
                          obtain ⟨x92, ex92⟩ : ∃ z : Int32, z = x3 + Int32.ofInt 1 := ⟨_, rfl⟩
                          have t93 : (x3 + (Int32.ofInt 1)).toInt = x3.toInt + (1 : Int) := i_add rfl (by decide) (by omega) (by omega)
                          have t94 : x92.toInt = (x3.toInt + (1 : Int)) := (congrArg Int32.toInt ex92).trans t93
                          refine m_iinc C x92 [(1, .int x92), (0, .ref (aL X 34)), (2, .int x84), (3, .int x85)] dX9_audit_147 (q := 1) rfl ex92.symm (by decide) rfl ?_
                          refine m_goto C 12 dX9_audit_150 (by decide) ?_
                          refine m_lv [1, 0] rfl ?_
                          exact ih12 x92 g86 (by omega) hI87 hK88 (by omega)
                        · skip
                          have th91 := i_eq h91
                          rw [show (0 : Int32).toInt = 0 by decide] at th91
                          refine m_iload_n C dX9_audit_145 1 rfl ?_
                          exact m_iret C dX9_audit_146 ⟨_, rfl, hI87, hK88⟩
                      · skip
                        have th90 := i_nle h90
                        rw [show (4 : Int32).toInt = 4 by decide] at th90
                        refine m_iload_n C dX9_audit_96 2 rfl ?_
                        refine m_aload_n C dX9_audit_97 0 rfl ?_
                        refine m_getr (rf := "") C 22 rfl gd9 (by decide) sh_34 rfl dX9_audit_98 lk_X9_53 ?_
                        refine m_bipush C (17 : Int32) dX9_audit_101 (by decide) ?_
                        refine m_iload_n C dX9_audit_103 1 rfl ?_
                        refine m_imul C dX9_audit_104 ?_
                        refine m_bipush C (13 : Int32) dX9_audit_105 (by decide) ?_
                        refine m_iadd C dX9_audit_107 ?_
                        refine m_iload_n C dX9_audit_108 3 rfl ?_
                        refine m_iadd C dX9_audit_109 ?_
                        have t95 : ((17 : Int32) * x3).toInt = (17 : Int) * x3.toInt := i_mul (by decide) rfl (by omega) (by omega)
                        have t96 : (((17 : Int32) * x3) + (13 : Int32)).toInt = ((17 : Int) * x3.toInt) + (13 : Int) := i_add t95 (by decide) (by omega) (by omega)
                        have t97 : ((((17 : Int32) * x3) + (13 : Int32)) + x85).toInt = (((17 : Int) * x3.toInt) + (13 : Int)) + x85.toInt := i_add t96 rfl (by omega) (by omega)
                        refine m_iald C sh_49 (i_in (by omega) (by omega)) dX9_audit_110 ?_
                        refine m_aload_n C dX9_audit_111 0 rfl ?_
                        refine m_getr (rf := "") C 19 rfl gd9 (by decide) sh_34 rfl dX9_audit_112 lk_X9_50 ?_
                        refine m_bipush C (32 : Int32) dX9_audit_115 (by decide) ?_
                        refine m_iload_n C dX9_audit_117 1 rfl ?_
                        refine m_imul C dX9_audit_118 ?_
                        refine m_bipush C (32 : Int32) dX9_audit_119 (by decide) ?_
                        refine m_iadd C dX9_audit_121 ?_
                        refine m_iload_n C dX9_audit_122 3 rfl ?_
                        refine m_iadd C dX9_audit_123 ?_
                        have t98 : ((32 : Int32) * x3).toInt = (32 : Int) * x3.toInt := i_mul (by decide) rfl (by omega) (by omega)
                        have t99 : (((32 : Int32) * x3) + (32 : Int32)).toInt = ((32 : Int) * x3.toInt) + (32 : Int) := i_add t98 (by decide) (by omega) (by omega)
                        have t100 : ((((32 : Int32) * x3) + (32 : Int32)) + x85).toInt = (((32 : Int) * x3.toInt) + (32 : Int)) + x85.toInt := i_add t99 rfl (by omega) (by omega)
                        refine m_iald C sh_48 (i_in (by omega) (by omega)) dX9_audit_124 ?_
                        refine m_icmp_ne C 132 dX9_audit_125 (by decide) (fun h101 => ?_) (fun h101 => ?_)
                        · skip
                          have th101 := i_ne h101
                          refine m_iconst C (0 : Int32) dX9_audit_132 (by decide) ?_
                          refine m_iand C dX9_audit_133 ?_
                          refine m_name (fun x102 ex102 => ?_)
                          have t103 : 0 ≤ (x84 &&& (0 : Int32)).toInt ∧ (x84 &&& (0 : Int32)).toInt < 1 := i_and _ 0 (by decide) (by decide)
                          have t104 : x102.toInt = (x84 &&& (0 : Int32)).toInt := (congrArg Int32.toInt ex102).trans rfl
                          refine m_istore_n C [(2, .int x102), (0, .ref (aL X 34)), (1, .int x3), (3, .int x85)] dX9_audit_134 (by decide) rfl ?_
                          obtain ⟨x105, ex105⟩ : ∃ z : Int32, z = x85 + Int32.ofInt 1 := ⟨_, rfl⟩
                          have t106 : (x85 + (Int32.ofInt 1)).toInt = x85.toInt + (1 : Int) := i_add rfl (by decide) (by omega) (by omega)
                          have t107 : x105.toInt = (x85.toInt + (1 : Int)) := (congrArg Int32.toInt ex105).trans t106
                          refine m_iinc C x105 [(3, .int x105), (2, .int x102), (0, .ref (aL X 34)), (1, .int x3)] dX9_audit_135 (q := 3) rfl ex105.symm (by decide) rfl ?_
                          refine m_goto C 91 dX9_audit_138 (by decide) ?_
                          refine m_lv [2, 3, 1, 0] rfl ?_
                          exact ih91 x102 x105 g86 (by omega) hI87 hK88 (by omega)
                        · skip
                          have th101 := i_eq h101
                          refine m_iconst C (1 : Int32) dX9_audit_128 (by decide) ?_
                          refine m_goto C 133 dX9_audit_129 (by decide) ?_
                          refine m_iand C dX9_audit_133 ?_
                          refine m_name (fun x108 ex108 => ?_)
                          have t109 : 0 ≤ (x84 &&& (1 : Int32)).toInt ∧ (x84 &&& (1 : Int32)).toInt < 2 := i_and _ 1 (by decide) (by decide)
                          have t110 : x108.toInt = (x84 &&& (1 : Int32)).toInt := (congrArg Int32.toInt ex108).trans rfl
                          refine m_istore_n C [(2, .int x108), (0, .ref (aL X 34)), (1, .int x3), (3, .int x85)] dX9_audit_134 (by decide) rfl ?_
                          obtain ⟨x111, ex111⟩ : ∃ z : Int32, z = x85 + Int32.ofInt 1 := ⟨_, rfl⟩
                          have t112 : (x85 + (Int32.ofInt 1)).toInt = x85.toInt + (1 : Int) := i_add rfl (by decide) (by omega) (by omega)
                          have t113 : x111.toInt = (x85.toInt + (1 : Int)) := (congrArg Int32.toInt ex111).trans t112
                          refine m_iinc C x111 [(3, .int x111), (2, .int x108), (0, .ref (aL X 34)), (1, .int x3)] dX9_audit_135 (q := 3) rfl ex111.symm (by decide) rfl ?_
                          refine m_goto C 91 dX9_audit_138 (by decide) ?_
                          refine m_lv [2, 3, 1, 0] rfl ?_
                          exact ih91 x108 x111 g86 (by omega) hI87 hK88 (by omega)
                  have t114 : (0 : Int32).toInt = 0 := by decide
                  refine m_lv [1, 2, 3, 0] rfl ?_
                  exact L91 (((5 - (0 : Int32).toInt).toNat) + 1) x76 (0 : Int32) g78 (Nat.lt_succ_self _) hI79 hK80 (by omega)
                · skip
                  have th82 := i_nle h82
                  rw [show (12 : Int32).toInt = 12 by decide] at th82
                  refine m_iload_n C dX9_audit_48 2 rfl ?_
                  refine m_aload_n C dX9_audit_49 0 rfl ?_
                  refine m_getr (rf := "") C 22 rfl gd9 (by decide) sh_34 rfl dX9_audit_50 lk_X9_53 ?_
                  refine m_bipush C (17 : Int32) dX9_audit_53 (by decide) ?_
                  refine m_iload_n C dX9_audit_55 1 rfl ?_
                  refine m_imul C dX9_audit_56 ?_
                  refine m_iconst C (1 : Int32) dX9_audit_57 (by decide) ?_
                  refine m_iadd C dX9_audit_58 ?_
                  refine m_iload_n C dX9_audit_59 3 rfl ?_
                  refine m_iadd C dX9_audit_60 ?_
                  have t115 : ((17 : Int32) * x3).toInt = (17 : Int) * x3.toInt := i_mul (by decide) rfl (by omega) (by omega)
                  have t116 : (((17 : Int32) * x3) + (1 : Int32)).toInt = ((17 : Int) * x3.toInt) + (1 : Int) := i_add t115 (by decide) (by omega) (by omega)
                  have t117 : ((((17 : Int32) * x3) + (1 : Int32)) + x77).toInt = (((17 : Int) * x3.toInt) + (1 : Int)) + x77.toInt := i_add t116 rfl (by omega) (by omega)
                  refine m_iald C sh_49 (i_in (by omega) (by omega)) dX9_audit_61 ?_
                  refine m_aload_n C dX9_audit_62 0 rfl ?_
                  refine m_getr (rf := "") C 18 rfl gd9 (by decide) sh_34 rfl dX9_audit_63 lk_X9_47 ?_
                  refine m_bipush C (12 : Int32) dX9_audit_66 (by decide) ?_
                  refine m_iload_n C dX9_audit_68 1 rfl ?_
                  refine m_imul C dX9_audit_69 ?_
                  refine m_iload_n C dX9_audit_70 3 rfl ?_
                  refine m_iadd C dX9_audit_71 ?_
                  have t118 : ((12 : Int32) * x3).toInt = (12 : Int) * x3.toInt := i_mul (by decide) rfl (by omega) (by omega)
                  have t119 : (((12 : Int32) * x3) + x77).toInt = ((12 : Int) * x3.toInt) + x77.toInt := i_add t118 rfl (by omega) (by omega)
                  refine m_iald C sh_47 (i_in (by omega) (by omega)) dX9_audit_72 ?_
                  refine m_icmp_ne C 80 dX9_audit_73 (by decide) (fun h120 => ?_) (fun h120 => ?_)
                  · skip
                    have th120 := i_ne h120
                    refine m_iconst C (0 : Int32) dX9_audit_80 (by decide) ?_
                    refine m_iand C dX9_audit_81 ?_
                    refine m_name (fun x121 ex121 => ?_)
                    have t122 : 0 ≤ (x76 &&& (0 : Int32)).toInt ∧ (x76 &&& (0 : Int32)).toInt < 1 := i_and _ 0 (by decide) (by decide)
                    have t123 : x121.toInt = (x76 &&& (0 : Int32)).toInt := (congrArg Int32.toInt ex121).trans rfl
                    refine m_istore_n C [(2, .int x121), (0, .ref (aL X 34)), (1, .int x3), (3, .int x77)] dX9_audit_82 (by decide) rfl ?_
                    obtain ⟨x124, ex124⟩ : ∃ z : Int32, z = x77 + Int32.ofInt 1 := ⟨_, rfl⟩
                    have t125 : (x77 + (Int32.ofInt 1)).toInt = x77.toInt + (1 : Int) := i_add rfl (by decide) (by omega) (by omega)
                    have t126 : x124.toInt = (x77.toInt + (1 : Int)) := (congrArg Int32.toInt ex124).trans t125
                    refine m_iinc C x124 [(3, .int x124), (2, .int x121), (0, .ref (aL X 34)), (1, .int x3)] dX9_audit_83 (q := 3) rfl ex124.symm (by decide) rfl ?_
                    refine m_goto C 42 dX9_audit_86 (by decide) ?_
                    refine m_lv [2, 3, 1, 0] rfl ?_
                    exact ih42 x121 x124 g78 (by omega) hI79 hK80 (by omega)
                  · skip
                    have th120 := i_eq h120
                    refine m_iconst C (1 : Int32) dX9_audit_76 (by decide) ?_
                    refine m_goto C 81 dX9_audit_77 (by decide) ?_
                    refine m_iand C dX9_audit_81 ?_
                    refine m_name (fun x127 ex127 => ?_)
                    have t128 : 0 ≤ (x76 &&& (1 : Int32)).toInt ∧ (x76 &&& (1 : Int32)).toInt < 2 := i_and _ 1 (by decide) (by decide)
                    have t129 : x127.toInt = (x76 &&& (1 : Int32)).toInt := (congrArg Int32.toInt ex127).trans rfl
                    refine m_istore_n C [(2, .int x127), (0, .ref (aL X 34)), (1, .int x3), (3, .int x77)] dX9_audit_82 (by decide) rfl ?_
                    obtain ⟨x130, ex130⟩ : ∃ z : Int32, z = x77 + Int32.ofInt 1 := ⟨_, rfl⟩
                    have t131 : (x77 + (Int32.ofInt 1)).toInt = x77.toInt + (1 : Int) := i_add rfl (by decide) (by omega) (by omega)
                    have t132 : x130.toInt = (x77.toInt + (1 : Int)) := (congrArg Int32.toInt ex130).trans t131
                    refine m_iinc C x130 [(3, .int x130), (2, .int x127), (0, .ref (aL X 34)), (1, .int x3)] dX9_audit_83 (q := 3) rfl ex130.symm (by decide) rfl ?_
                    refine m_goto C 42 dX9_audit_86 (by decide) ?_
                    refine m_lv [2, 3, 1, 0] rfl ?_
                    exact ih42 x127 x130 g78 (by omega) hI79 hK80 (by omega)
            have t133 : (1 : Int32).toInt = 1 := by decide
            have t134 : (0 : Int32).toInt = 0 := by decide
            refine m_lv [2, 3, 1, 0] rfl ?_
            exact L42 (((13 - (0 : Int32).toInt).toNat) + 1) (1 : Int32) (0 : Int32) g4 (Nat.lt_succ_self _) hI5 hK6 (by omega)
    have t135 : (0 : Int32).toInt = 0 := by decide
    refine m_lv [1, 0] rfl ?_
    exact L12 (((61 - (0 : Int32).toInt).toNat) + 1) (0 : Int32) g (Nat.lt_succ_self _) hI Kq.rf (by omega)
  · skip
    have th1 := i_ne h1
    rw [show (0 : Int32).toInt = 0 by decide] at th1
    refine m_bipush C (-3 : Int32) dX9_audit_7 (by decide) ?_
    exact m_iret C dX9_audit_9 ⟨_, rfl, hI, Kq.rf⟩
set_option maxRecDepth 20000 in
set_option maxHeartbeats 4000000 in
theorem c_X9_hash (l : Launch) {X : XT} (hX : Lok X) (g : Mem) (la : Int64) (lb : Int64) (n0 : Int32) (k : Int32) (hI : Inv g) : Ctr l X yX9_hash cX9_hash 8 (some .int) (rmD 3) [.ref (aL X 34), .long la, .long lb, .int n0, .int k] g (pI (fun r g2 => Inv g2 ∧ Kq [36, 37, 38, 39] [4] g g2)) := by
  refine Ctr.of (lv := [(0, .ref (aL X 34)), (1, .long la), (3, .long lb), (5, .int n0), (6, .int k)]) hX (by decide) rfl (Nat.le_of_ble_eq_true rfl) ?_
  intro p e s m below meth c C
  refine m_iload C dX9_hash_0 3 rfl ?_
  refine m_i2l C dX9_hash_2 ?_
  refine m_lconst C (0 : Int64) dX9_hash_3 (by decide) ?_
  refine m_ldc2 C (16) dX9_hash_4 lk_X9_195 ?_
  have t1 : (n0.toInt64).toInt = n0.toInt := i2l_t _
  have t2 : (0 : Int64).toInt = 0 := by decide
  have t3 : (16 : Int64).toInt = 16 := by decide
  refine m_invS C cal_X9_in (c_X9_in l hX g (n0.toInt64) (0 : Int64) (16 : Int64) ) lk_X9_185 st_X9_in (by decide) rfl rfl (Nat.le_of_ble_eq_true rfl) dX9_hash_7 ⟨Nat.le_refl _, Nat.le_refl _⟩ (rI fun r4 g5 q6 => ?_)
  obtain ⟨eg5, ⟨rfl, h7⟩ | ⟨rfl, h7⟩⟩ := q6
  · skip
    subst g5
    refine m_if_eq C 26 dX9_hash_10 (by decide) (fun h => absurd h (by decide)) (fun _ => ?_)
    refine m_iload C dX9_hash_13 4 rfl ?_
    refine m_i2l C dX9_hash_15 ?_
    refine m_lconst C (0 : Int64) dX9_hash_16 (by decide) ?_
    refine m_ldc2 C (31) dX9_hash_17 lk_X9_265 ?_
    have t8 : (k.toInt64).toInt = k.toInt := i2l_t _
    have t9 : (0 : Int64).toInt = 0 := by decide
    have t10 : (31 : Int64).toInt = 31 := by decide
    refine m_invS C cal_X9_in (c_X9_in l hX g (k.toInt64) (0 : Int64) (31 : Int64) ) lk_X9_185 st_X9_in (by decide) rfl rfl (Nat.le_of_ble_eq_true rfl) dX9_hash_20 ⟨Nat.le_refl _, Nat.le_refl _⟩ (rI fun r11 g12 q13 => ?_)
    obtain ⟨eg12, ⟨rfl, h14⟩ | ⟨rfl, h14⟩⟩ := q13
    · skip
      subst g12
      refine m_if_ne C 29 dX9_hash_23 (by decide) (fun _ => ?_) (fun h => absurd h (by decide))
      refine m_aload_n C dX9_hash_29 0 rfl ?_
      refine m_invV C cal_X9_begin sh_34 rfl (c_X9_begin l hX g  hI) lk_X9_173 im_X9_begin se_X9_begin (by decide) rfl rfl (Nat.le_of_ble_eq_true rfl) dX9_hash_30 ⟨Nat.le_refl _, Nat.le_refl _⟩ (rV fun g16 q17 => ?_)
      obtain ⟨hI18, hK19, p20⟩ := q17
      have hK21 : Kq [36, 37, 38, 39] [4] g g16 := (Kq.rf).tr hK19 (by decide) (by decide)
      refine m_iconst C (0 : Int32) dX9_hash_33 (by decide) ?_
      refine m_istore C [(7, .int (0 : Int32)), (0, .ref (aL X 34)), (1, .long la), (3, .long lb), (5, .int n0), (6, .int k)] dX9_hash_34 (by decide) rfl ?_
      have L36 : ∀ (n36 : Nat) (x23 : Int32) (g24 : Mem), (17 - x23.toInt).toNat < n36 → Inv g24 → Kq [36, 37, 38, 39] [4] g g24 → 0 ≤ x23.toInt ∧ x23.toInt ≤ 16 → (g24 34 4).toInt = x23.toInt → Wm X p l e (rmD 3) s m ([.ref (aL X 34), .long la, .long lb, .int n0, .int k] : List Value).toArray below meth c 8 0 0 (MQ below (cQ X (pI (fun r g2 => Inv g2 ∧ Kq [36, 37, 38, 39] [4] g g2))) ([.ref (aL X 34), .long la, .long lb, .int n0, .int k] : List Value).toArray s 0 0 (Ab X)) g24 36 [(0, .ref (aL X 34)), (1, .long la), (3, .long lb), (5, .int n0), (6, .int k), (7, .int x23)] [] := by
        intro n36
        induction n36 with
        | zero => intro x23 g24 hm; exact absurd hm (Nat.not_lt_zero _)
        | succ n36 ih36 =>
          intro x23 g24 hm36 hI25 hK26 i27 i28
          obtain ⟨i27a, i27b⟩ := i27
          refine m_iload C dX9_hash_36 5 rfl ?_
          refine m_iload C dX9_hash_38 3 rfl ?_
          refine m_icmp_ge C 82 dX9_hash_40 (by decide) (fun h29 => ?_) (fun h29 => ?_)
          · skip
            have th29 := i_le h29
            refine m_aload_n C dX9_hash_82 0 rfl ?_
            refine m_invV C cal_X9_end sh_34 rfl (c_X9_end l hX g24  hI25 (by omega)) lk_X9_180 im_X9_end se_X9_end (by decide) rfl rfl (Nat.le_of_ble_eq_true rfl) dX9_hash_83 ⟨Nat.le_refl _, Nat.le_refl _⟩ (rV fun g31 q32 => ?_)
            obtain ⟨hI33, hK34⟩ := q32
            have hK35 : Kq [36, 37, 38, 39] [4] g g31 := (hK26).tr hK34 (by decide) (by decide)
            refine m_aload_n C dX9_hash_86 0 rfl ?_
            refine m_getr (rf := "") C 5 rfl gd9 (by decide) sh_34 rfl dX9_hash_87 lk_X9_22 ?_
            refine m_iload C dX9_hash_90 4 rfl ?_
            refine m_iald C sh_39 (i_in (by omega) (by omega)) dX9_hash_92 ?_
            exact m_iret C dX9_hash_93 ⟨_, rfl, hI33, hK35⟩
          · skip
            have th29 := i_nle h29
            refine m_aload_n C dX9_hash_43 0 rfl ?_
            refine m_iload C dX9_hash_44 5 rfl ?_
            refine m_bipush C (8 : Int32) dX9_hash_46 (by decide) ?_
            refine m_icmp_ge C 55 dX9_hash_48 (by decide) (fun h36 => ?_) (fun h36 => ?_)
            · skip
              have th36 := i_le h36
              rw [show (8 : Int32).toInt = 8 by decide] at th36
              refine m_lload_n C dX9_hash_55 2 rfl ?_
              refine m_bipush C (56 : Int32) dX9_hash_56 (by decide) ?_
              refine m_bipush C (8 : Int32) dX9_hash_58 (by decide) ?_
              refine m_iload C dX9_hash_60 5 rfl ?_
              refine m_bipush C (8 : Int32) dX9_hash_62 (by decide) ?_
              refine m_irem C dX9_hash_64 (by decide) ?_
              refine m_imul C dX9_hash_65 ?_
              refine m_isub C dX9_hash_66 ?_
              refine m_lshr C dX9_hash_67 rfl ?_
              refine m_nameJ (fun x37 ex37 => ?_)
              refine m_ldc2 C (255) dX9_hash_68 lk_X9_291 ?_
              refine m_land C dX9_hash_71 ?_
              refine m_nameJ (fun x38 ex38 => ?_)
              refine m_l2i C dX9_hash_72 ?_
              refine m_invV C cal_X9_put sh_34 rfl (c_X9_put l hX g24 (x38.toInt32) hI25 (by omega)) lk_X9_154 im_X9_put se_X9_put (by decide) rfl rfl (Nat.le_of_ble_eq_true rfl) dX9_hash_73 ⟨Nat.le_refl _, Nat.le_refl _⟩ (rV fun g40 q41 => ?_)
              obtain ⟨hI42, hK43, p44⟩ := q41
              have hK45 : Kq [36, 37, 38, 39] [4] g g40 := (hK26).tr hK43 (by decide) (by decide)
              obtain ⟨x46, ex46⟩ : ∃ z : Int32, z = x23 + Int32.ofInt 1 := ⟨_, rfl⟩
              have t47 : (x23 + (Int32.ofInt 1)).toInt = x23.toInt + (1 : Int) := i_add rfl (by decide) (by omega) (by omega)
              have t48 : x46.toInt = (x23.toInt + (1 : Int)) := (congrArg Int32.toInt ex46).trans t47
              refine m_iinc C x46 [(7, .int x46), (0, .ref (aL X 34)), (1, .long la), (3, .long lb), (5, .int n0), (6, .int k)] dX9_hash_76 (q := 5) rfl ex46.symm (by decide) rfl ?_
              refine m_goto C 36 dX9_hash_79 (by decide) ?_
              refine m_lv [1, 2, 3, 4, 5, 0] rfl ?_
              exact ih36 x46 g40 (by omega) hI42 hK45 (by omega) (by omega)
            · skip
              have th36 := i_nle h36
              rw [show (8 : Int32).toInt = 8 by decide] at th36
              refine m_lload_n C dX9_hash_51 1 rfl ?_
              refine m_goto C 56 dX9_hash_52 (by decide) ?_
              refine m_bipush C (56 : Int32) dX9_hash_56 (by decide) ?_
              refine m_bipush C (8 : Int32) dX9_hash_58 (by decide) ?_
              refine m_iload C dX9_hash_60 5 rfl ?_
              refine m_bipush C (8 : Int32) dX9_hash_62 (by decide) ?_
              refine m_irem C dX9_hash_64 (by decide) ?_
              refine m_imul C dX9_hash_65 ?_
              refine m_isub C dX9_hash_66 ?_
              refine m_lshr C dX9_hash_67 rfl ?_
              refine m_nameJ (fun x49 ex49 => ?_)
              refine m_ldc2 C (255) dX9_hash_68 lk_X9_291 ?_
              refine m_land C dX9_hash_71 ?_
              refine m_nameJ (fun x50 ex50 => ?_)
              refine m_l2i C dX9_hash_72 ?_
              refine m_invV C cal_X9_put sh_34 rfl (c_X9_put l hX g24 (x50.toInt32) hI25 (by omega)) lk_X9_154 im_X9_put se_X9_put (by decide) rfl rfl (Nat.le_of_ble_eq_true rfl) dX9_hash_73 ⟨Nat.le_refl _, Nat.le_refl _⟩ (rV fun g52 q53 => ?_)
              obtain ⟨hI54, hK55, p56⟩ := q53
              have hK57 : Kq [36, 37, 38, 39] [4] g g52 := (hK26).tr hK55 (by decide) (by decide)
              obtain ⟨x58, ex58⟩ : ∃ z : Int32, z = x23 + Int32.ofInt 1 := ⟨_, rfl⟩
              have t59 : (x23 + (Int32.ofInt 1)).toInt = x23.toInt + (1 : Int) := i_add rfl (by decide) (by omega) (by omega)
              have t60 : x58.toInt = (x23.toInt + (1 : Int)) := (congrArg Int32.toInt ex58).trans t59
              refine m_iinc C x58 [(7, .int x58), (0, .ref (aL X 34)), (1, .long la), (3, .long lb), (5, .int n0), (6, .int k)] dX9_hash_76 (q := 5) rfl ex58.symm (by decide) rfl ?_
              refine m_goto C 36 dX9_hash_79 (by decide) ?_
              refine m_lv [1, 2, 3, 4, 5, 0] rfl ?_
              exact ih36 x58 g52 (by omega) hI54 hK57 (by omega) (by omega)
      have t61 : (0 : Int32).toInt = 0 := by decide
      refine m_lv [1, 2, 3, 4, 5, 0] rfl ?_
      exact L36 (((17 - (0 : Int32).toInt).toNat) + 1) (0 : Int32) g16 (Nat.lt_succ_self _) hI18 hK21 (by omega) (by omega)
    · skip
      subst g12
      refine m_if_ne C 29 dX9_hash_23 (by decide) (fun h => absurd (by decide) h) (fun _ => ?_)
      refine m_bipush C (-2 : Int32) dX9_hash_26 (by decide) ?_
      exact m_iret C dX9_hash_28 ⟨_, rfl, hI, Kq.rf⟩
  · skip
    subst g5
    refine m_if_eq C 26 dX9_hash_10 (by decide) (fun _ => ?_) (fun h => absurd (by decide) h)
    refine m_bipush C (-2 : Int32) dX9_hash_26 (by decide) ?_
    exact m_iret C dX9_hash_28 ⟨_, rfl, hI, Kq.rf⟩
set_option maxRecDepth 20000 in
set_option maxHeartbeats 4000000 in
theorem c_X9_count (l : Launch) {X : XT} (hX : Lok X) (g : Mem) (w : Int32) (hI : Inv g) : Ctr l X yX9_count cX9_count 2 (some .int) (rmD 1) [.ref (aL X 34), .int w] g (pI (fun r g2 => g2 = g ∧ True)) := by
  refine Ctr.of (lv := [(0, .ref (aL X 34)), (1, .int w)]) hX (by decide) rfl (Nat.le_of_ble_eq_true rfl) ?_
  intro p e s m below meth c C
  refine m_iload_n C dX9_count_0 1 rfl ?_
  rcases Int.lt_or_le (w).toInt 0 with h1 | h1
  · skip
    refine m_tabO C 96 dX9_count_1 (Or.inl h1) (by decide) ?_
    refine m_bipush C (-2 : Int32) dX9_count_96 (by decide) ?_
    exact m_iret C dX9_count_98 ⟨_, rfl, rfl, trivial⟩
  · skip
    by_cases h2 : (w).toInt = 0
    · skip
      refine m_tabI C 48 dX9_count_1 (by omega) (by omega) (off := 47) (by rw [h2]; rfl) (by decide) ?_
      refine m_aload_n C dX9_count_48 0 rfl ?_
      refine m_invV C cal_X9_entriesNow sh_34 rfl (c_X9_entriesNow l hX g  hI) lk_X9_262 im_X9_entriesNow se_X9_entriesNow (by decide) rfl rfl (Nat.le_of_ble_eq_true rfl) dX9_count_49 ⟨Nat.le_refl _, Nat.le_refl _⟩ (rI fun r3 g4 q5 => ?_)
      obtain ⟨eg4, p6⟩ := q5
      subst g4
      exact m_iret C dX9_count_52 ⟨_, rfl, rfl, trivial⟩
    · skip
      by_cases h7 : (w).toInt = 1
      · skip
        refine m_tabI C 53 dX9_count_1 (by omega) (by omega) (off := 52) (by rw [h7]; rfl) (by decide) ?_
        refine m_aload_n C dX9_count_53 0 rfl ?_
        refine m_geti (rf := "") C 20 rfl gd9 (by decide) sh_34 rfl dX9_count_54 lk_X9_220 ?_
        have r8 := iv_mwrt hI
        exact m_iret C dX9_count_57 ⟨_, rfl, rfl, trivial⟩
      · skip
        by_cases h9 : (w).toInt = 2
        · skip
          refine m_tabI C 58 dX9_count_1 (by omega) (by omega) (off := 57) (by rw [h9]; rfl) (by decide) ?_
          refine m_aload_n C dX9_count_58 0 rfl ?_
          refine m_geti (rf := "") C 21 rfl gd9 (by decide) sh_34 rfl dX9_count_59 lk_X9_299 ?_
          have r10 := iv_msafe hI
          exact m_iret C dX9_count_62 ⟨_, rfl, rfl, trivial⟩
        · skip
          by_cases h11 : (w).toInt = 3
          · skip
            refine m_tabI C 63 dX9_count_1 (by omega) (by omega) (off := 62) (by rw [h11]; rfl) (by decide) ?_
            refine m_aload_n C dX9_count_63 0 rfl ?_
            refine m_geti (rf := "") C 17 rfl gd9 (by decide) sh_34 rfl dX9_count_64 lk_X9_206 ?_
            refine m_if_eq C 74 dX9_count_67 (by decide) (fun h12 => ?_) (fun h12 => ?_)
            · skip
              have th12 := i_eq h12
              rw [show (0 : Int32).toInt = 0 by decide] at th12
              refine m_iconst C (0 : Int32) dX9_count_74 (by decide) ?_
              exact m_iret C dX9_count_75 ⟨_, rfl, rfl, trivial⟩
            · skip
              have th12 := i_ne h12
              rw [show (0 : Int32).toInt = 0 by decide] at th12
              refine m_iconst C (1 : Int32) dX9_count_70 (by decide) ?_
              refine m_goto C 75 dX9_count_71 (by decide) ?_
              exact m_iret C dX9_count_75 ⟨_, rfl, rfl, trivial⟩
          · skip
            by_cases h13 : (w).toInt = 4
            · skip
              refine m_tabI C 76 dX9_count_1 (by omega) (by omega) (off := 75) (by rw [h13]; rfl) (by decide) ?_
              refine m_aload_n C dX9_count_76 0 rfl ?_
              refine m_geti (rf := "") C 6 rfl gd9 (by decide) sh_34 rfl dX9_count_77 lk_X9_201 ?_
              have r14 := iv_mclock hI
              exact m_iret C dX9_count_80 ⟨_, rfl, rfl, trivial⟩
            · skip
              by_cases h15 : (w).toInt = 5
              · skip
                refine m_tabI C 81 dX9_count_1 (by omega) (by omega) (off := 80) (by rw [h15]; rfl) (by decide) ?_
                refine m_aload_n C dX9_count_81 0 rfl ?_
                refine m_geti (rf := "") C 26 rfl gd9 (by decide) sh_34 rfl dX9_count_82 lk_X9_281 ?_
                have r16 := iv_pmany hI
                exact m_iret C dX9_count_85 ⟨_, rfl, rfl, trivial⟩
              · skip
                by_cases h17 : (w).toInt = 6
                · skip
                  refine m_tabI C 86 dX9_count_1 (by omega) (by omega) (off := 85) (by rw [h17]; rfl) (by decide) ?_
                  refine m_aload_n C dX9_count_86 0 rfl ?_
                  refine m_geti (rf := "") C 14 rfl gd9 (by decide) sh_34 rfl dX9_count_87 lk_X9_243 ?_
                  exact m_iret C dX9_count_90 ⟨_, rfl, rfl, trivial⟩
                · skip
                  by_cases h18 : (w).toInt = 7
                  · skip
                    refine m_tabI C 91 dX9_count_1 (by omega) (by omega) (off := 90) (by rw [h18]; rfl) (by decide) ?_
                    refine m_aload_n C dX9_count_91 0 rfl ?_
                    refine m_geti (rf := "") C 15 rfl gd9 (by decide) sh_34 rfl dX9_count_92 lk_X9_246 ?_
                    exact m_iret C dX9_count_95 ⟨_, rfl, rfl, trivial⟩
                  · skip
                    refine m_tabO C 96 dX9_count_1 (Or.inr (by omega)) (by decide) ?_
                    refine m_bipush C (-2 : Int32) dX9_count_96 (by decide) ?_
                    exact m_iret C dX9_count_98 ⟨_, rfl, rfl, trivial⟩
set_option maxRecDepth 20000 in
set_option maxHeartbeats 4000000 in
theorem c_X9_digest (l : Launch) {X : XT} (hX : Lok X) (g : Mem)  (hI : Inv g) : Ctr l X yX9_digest cX9_digest 5 (some .long) (rmD 3) [.ref (aL X 34)] g (pJ (fun r g2 => Inv g2 ∧ Kq [] [] g g2)) := by
  refine Ctr.of (lv := [(0, .ref (aL X 34))]) hX (by decide) rfl (Nat.le_of_ble_eq_true rfl) ?_
  intro p e s m below meth c C
  refine m_ldc2 C (17) dX9_digest_0 lk_X9_309 ?_
  refine m_nameJ (fun x1 ex1 => ?_)
  refine m_lstore_n C [(1, .long x1), (0, .ref (aL X 34))] dX9_digest_3 (by decide) rfl ?_
  refine m_iconst C (0 : Int32) dX9_digest_4 (by decide) ?_
  refine m_istore_n C [(3, .int (0 : Int32)), (1, .long x1), (0, .ref (aL X 34))] dX9_digest_5 (by decide) rfl ?_
  have L6 : ∀ (n6 : Nat) (x3 : Int64) (x4 : Int32) (g5 : Mem), (13 - x4.toInt).toNat < n6 → Inv g5 → Kq [] [] g g5 → 0 ≤ x4.toInt ∧ x4.toInt ≤ 12 → Wm X p l e (rmD 3) s m ([.ref (aL X 34)] : List Value).toArray below meth c 5 0 0 (MQ below (cQ X (pJ (fun r g2 => Inv g2 ∧ Kq [] [] g g2))) ([.ref (aL X 34)] : List Value).toArray s 0 0 (Ab X)) g5 6 [(0, .ref (aL X 34)), (1, .long x3), (3, .int x4)] [] := by
    intro n6
    induction n6 with
    | zero => intro x3 x4 g5 hm; exact absurd hm (Nat.not_lt_zero _)
    | succ n6 ih6 =>
      intro x3 x4 g5 hm6 hI6 hK7 i8
      obtain ⟨i8a, i8b⟩ := i8
      refine m_iload_n C dX9_digest_6 2 rfl ?_
      refine m_bipush C (12 : Int32) dX9_digest_7 (by decide) ?_
      refine m_icmp_ge C 48 dX9_digest_9 (by decide) (fun h9 => ?_) (fun h9 => ?_)
      · skip
        have th9 := i_le h9
        rw [show (12 : Int32).toInt = 12 by decide] at th9
        refine m_iconst C (0 : Int32) dX9_digest_48 (by decide) ?_
        refine m_istore_n C [(3, .int (0 : Int32)), (0, .ref (aL X 34)), (1, .long x3)] dX9_digest_49 (by decide) rfl ?_
        have L50 : ∀ (n50 : Nat) (x11 : Int64) (x12 : Int32) (g13 : Mem), (17 - x12.toInt).toNat < n50 → Inv g13 → Kq [] [] g g13 → 0 ≤ x12.toInt ∧ x12.toInt ≤ 16 → Wm X p l e (rmD 3) s m ([.ref (aL X 34)] : List Value).toArray below meth c 5 0 0 (MQ below (cQ X (pJ (fun r g2 => Inv g2 ∧ Kq [] [] g g2))) ([.ref (aL X 34)] : List Value).toArray s 0 0 (Ab X)) g13 50 [(0, .ref (aL X 34)), (1, .long x11), (3, .int x12)] [] := by
          intro n50
          induction n50 with
          | zero => intro x11 x12 g13 hm; exact absurd hm (Nat.not_lt_zero _)
          | succ n50 ih50 =>
            intro x11 x12 g13 hm50 hI14 hK15 i16
            obtain ⟨i16a, i16b⟩ := i16
            refine m_iload_n C dX9_digest_50 2 rfl ?_
            refine m_bipush C (16 : Int32) dX9_digest_51 (by decide) ?_
            refine m_icmp_ge C 90 dX9_digest_53 (by decide) (fun h17 => ?_) (fun h17 => ?_)
            · skip
              have th17 := i_le h17
              rw [show (16 : Int32).toInt = 16 by decide] at th17
              refine m_iconst C (0 : Int32) dX9_digest_90 (by decide) ?_
              refine m_istore_n C [(3, .int (0 : Int32)), (0, .ref (aL X 34)), (1, .long x11)] dX9_digest_91 (by decide) rfl ?_
              have L92 : ∀ (n92 : Nat) (x19 : Int64) (x20 : Int32) (g21 : Mem), (1021 - x20.toInt).toNat < n92 → Inv g21 → Kq [] [] g g21 → 0 ≤ x20.toInt ∧ x20.toInt ≤ 1020 → Wm X p l e (rmD 3) s m ([.ref (aL X 34)] : List Value).toArray below meth c 5 0 0 (MQ below (cQ X (pJ (fun r g2 => Inv g2 ∧ Kq [] [] g g2))) ([.ref (aL X 34)] : List Value).toArray s 0 0 (Ab X)) g21 92 [(0, .ref (aL X 34)), (1, .long x19), (3, .int x20)] [] := by
                intro n92
                induction n92 with
                | zero => intro x19 x20 g21 hm; exact absurd hm (Nat.not_lt_zero _)
                | succ n92 ih92 =>
                  intro x19 x20 g21 hm92 hI22 hK23 i24
                  obtain ⟨i24a, i24b⟩ := i24
                  refine m_iload_n C dX9_digest_92 2 rfl ?_
                  refine m_sipush C (1020 : Int32) dX9_digest_93 (by decide) ?_
                  refine m_icmp_ge C 119 dX9_digest_96 (by decide) (fun h25 => ?_) (fun h25 => ?_)
                  · skip
                    have th25 := i_le h25
                    rw [show (1020 : Int32).toInt = 1020 by decide] at th25
                    refine m_iconst C (0 : Int32) dX9_digest_119 (by decide) ?_
                    refine m_istore_n C [(3, .int (0 : Int32)), (0, .ref (aL X 34)), (1, .long x19)] dX9_digest_120 (by decide) rfl ?_
                    have L121 : ∀ (n121 : Nat) (x27 : Int64) (x28 : Int32) (g29 : Mem), (7 - x28.toInt).toNat < n121 → Inv g29 → Kq [] [] g g29 → 0 ≤ x28.toInt ∧ x28.toInt ≤ 6 → Wm X p l e (rmD 3) s m ([.ref (aL X 34)] : List Value).toArray below meth c 5 0 0 (MQ below (cQ X (pJ (fun r g2 => Inv g2 ∧ Kq [] [] g g2))) ([.ref (aL X 34)] : List Value).toArray s 0 0 (Ab X)) g29 121 [(0, .ref (aL X 34)), (1, .long x27), (3, .int x28)] [] := by
                      intro n121
                      induction n121 with
                      | zero => intro x27 x28 g29 hm; exact absurd hm (Nat.not_lt_zero _)
                      | succ n121 ih121 =>
                        intro x27 x28 g29 hm121 hI30 hK31 i32
                        obtain ⟨i32a, i32b⟩ := i32
                        refine m_iload_n C dX9_digest_121 2 rfl ?_
                        refine m_bipush C (6 : Int32) dX9_digest_122 (by decide) ?_
                        refine m_icmp_ge C 146 dX9_digest_124 (by decide) (fun h33 => ?_) (fun h33 => ?_)
                        · skip
                          have th33 := i_le h33
                          rw [show (6 : Int32).toInt = 6 by decide] at th33
                          refine m_lload_n C dX9_digest_146 1 rfl ?_
                          exact m_lret C dX9_digest_147 ⟨_, rfl, hI30, hK31⟩
                        · skip
                          have th33 := i_nle h33
                          rw [show (6 : Int32).toInt = 6 by decide] at th33
                          refine m_ldc2 C (31) dX9_digest_127 lk_X9_265 ?_
                          refine m_lload_n C dX9_digest_130 1 rfl ?_
                          refine m_lmul C dX9_digest_131 ?_
                          refine m_nameJ (fun x34 ex34 => ?_)
                          refine m_aload_n C dX9_digest_132 0 rfl ?_
                          refine m_iload_n C dX9_digest_133 2 rfl ?_
                          refine m_invV C cal_X9_count sh_34 rfl (c_X9_count l hX g29 x28 hI30) lk_X9_314 im_X9_count se_X9_count (by decide) rfl rfl (Nat.le_of_ble_eq_true rfl) dX9_digest_134 ⟨Nat.le_refl _, Nat.le_refl _⟩ (rI fun r35 g36 q37 => ?_)
                          obtain ⟨eg36, p38⟩ := q37
                          subst g36
                          refine m_i2l C dX9_digest_137 ?_
                          refine m_ladd C dX9_digest_138 ?_
                          refine m_nameJ (fun x39 ex39 => ?_)
                          refine m_lstore_n C [(1, .long x39), (0, .ref (aL X 34)), (3, .int x28)] dX9_digest_139 (by decide) rfl ?_
                          obtain ⟨x41, ex41⟩ : ∃ z : Int32, z = x28 + Int32.ofInt 1 := ⟨_, rfl⟩
                          have t42 : (x28 + (Int32.ofInt 1)).toInt = x28.toInt + (1 : Int) := i_add rfl (by decide) (by omega) (by omega)
                          have t43 : x41.toInt = (x28.toInt + (1 : Int)) := (congrArg Int32.toInt ex41).trans t42
                          refine m_iinc C x41 [(3, .int x41), (1, .long x39), (0, .ref (aL X 34))] dX9_digest_140 (q := 2) rfl ex41.symm (by decide) rfl ?_
                          refine m_goto C 121 dX9_digest_143 (by decide) ?_
                          refine m_lv [2, 1, 0] rfl ?_
                          exact ih121 x39 x41 g29 (by omega) hI30 hK31 (by omega)
                    have t44 : (0 : Int32).toInt = 0 := by decide
                    refine m_lv [1, 2, 0] rfl ?_
                    exact L121 (((7 - (0 : Int32).toInt).toNat) + 1) x19 (0 : Int32) g21 (Nat.lt_succ_self _) hI22 hK23 (by omega)
                  · skip
                    have th25 := i_nle h25
                    rw [show (1020 : Int32).toInt = 1020 by decide] at th25
                    refine m_ldc2 C (31) dX9_digest_99 lk_X9_265 ?_
                    refine m_lload_n C dX9_digest_102 1 rfl ?_
                    refine m_lmul C dX9_digest_103 ?_
                    refine m_nameJ (fun x45 ex45 => ?_)
                    refine m_aload_n C dX9_digest_104 0 rfl ?_
                    refine m_getr (rf := "") C 22 rfl gd9 (by decide) sh_34 rfl dX9_digest_105 lk_X9_53 ?_
                    refine m_iload_n C dX9_digest_108 2 rfl ?_
                    refine m_iald C sh_49 (i_in (by omega) (by omega)) dX9_digest_109 ?_
                    refine m_i2l C dX9_digest_110 ?_
                    refine m_ladd C dX9_digest_111 ?_
                    refine m_nameJ (fun x46 ex46 => ?_)
                    refine m_lstore_n C [(1, .long x46), (0, .ref (aL X 34)), (3, .int x20)] dX9_digest_112 (by decide) rfl ?_
                    obtain ⟨x48, ex48⟩ : ∃ z : Int32, z = x20 + Int32.ofInt 1 := ⟨_, rfl⟩
                    have t49 : (x20 + (Int32.ofInt 1)).toInt = x20.toInt + (1 : Int) := i_add rfl (by decide) (by omega) (by omega)
                    have t50 : x48.toInt = (x20.toInt + (1 : Int)) := (congrArg Int32.toInt ex48).trans t49
                    refine m_iinc C x48 [(3, .int x48), (1, .long x46), (0, .ref (aL X 34))] dX9_digest_113 (q := 2) rfl ex48.symm (by decide) rfl ?_
                    refine m_goto C 92 dX9_digest_116 (by decide) ?_
                    refine m_lv [2, 1, 0] rfl ?_
                    exact ih92 x46 x48 g21 (by omega) hI22 hK23 (by omega)
              have t51 : (0 : Int32).toInt = 0 := by decide
              refine m_lv [1, 2, 0] rfl ?_
              exact L92 (((1021 - (0 : Int32).toInt).toNat) + 1) x11 (0 : Int32) g13 (Nat.lt_succ_self _) hI14 hK15 (by omega)
            · skip
              have th17 := i_nle h17
              rw [show (16 : Int32).toInt = 16 by decide] at th17
              refine m_ldc2 C (31) dX9_digest_56 lk_X9_265 ?_
              refine m_lload_n C dX9_digest_59 1 rfl ?_
              refine m_lmul C dX9_digest_60 ?_
              refine m_nameJ (fun x52 ex52 => ?_)
              refine m_aload_n C dX9_digest_61 0 rfl ?_
              refine m_getr (rf := "") C 11 rfl gd9 (by decide) sh_34 rfl dX9_digest_62 lk_X9_38 ?_
              refine m_iload_n C dX9_digest_65 2 rfl ?_
              refine m_iald C sh_44 (i_in (by omega) (by omega)) dX9_digest_66 ?_
              refine m_i2l C dX9_digest_67 ?_
              refine m_ladd C dX9_digest_68 ?_
              refine m_nameJ (fun x53 ex53 => ?_)
              refine m_lstore_n C [(1, .long x53), (0, .ref (aL X 34)), (3, .int x12)] dX9_digest_69 (by decide) rfl ?_
              refine m_ldc2 C (31) dX9_digest_70 lk_X9_265 ?_
              refine m_lload_n C dX9_digest_73 0 rfl ?_
              refine m_lmul C dX9_digest_74 ?_
              refine m_nameJ (fun x55 ex55 => ?_)
              refine m_aload_n C dX9_digest_75 1 rfl ?_
              refine m_getr (rf := "") C 12 rfl gd9 (by decide) sh_34 rfl dX9_digest_76 lk_X9_41 ?_
              refine m_iload_n C dX9_digest_79 2 rfl ?_
              refine m_iald C sh_45 (i_in (by omega) (by omega)) dX9_digest_80 ?_
              refine m_i2l C dX9_digest_81 ?_
              refine m_ladd C dX9_digest_82 ?_
              refine m_nameJ (fun x56 ex56 => ?_)
              refine m_lstore_n C [(1, .long x56), (0, .ref (aL X 34)), (3, .int x12)] dX9_digest_83 (by decide) rfl ?_
              obtain ⟨x58, ex58⟩ : ∃ z : Int32, z = x12 + Int32.ofInt 1 := ⟨_, rfl⟩
              have t59 : (x12 + (Int32.ofInt 1)).toInt = x12.toInt + (1 : Int) := i_add rfl (by decide) (by omega) (by omega)
              have t60 : x58.toInt = (x12.toInt + (1 : Int)) := (congrArg Int32.toInt ex58).trans t59
              refine m_iinc C x58 [(3, .int x58), (1, .long x56), (0, .ref (aL X 34))] dX9_digest_84 (q := 2) rfl ex58.symm (by decide) rfl ?_
              refine m_goto C 50 dX9_digest_87 (by decide) ?_
              refine m_lv [2, 1, 0] rfl ?_
              exact ih50 x56 x58 g13 (by omega) hI14 hK15 (by omega)
        have t61 : (0 : Int32).toInt = 0 := by decide
        refine m_lv [1, 2, 0] rfl ?_
        exact L50 (((17 - (0 : Int32).toInt).toNat) + 1) x3 (0 : Int32) g5 (Nat.lt_succ_self _) hI6 hK7 (by omega)
      · skip
        have th9 := i_nle h9
        rw [show (12 : Int32).toInt = 12 by decide] at th9
        refine m_iconst C (0 : Int32) dX9_digest_12 (by decide) ?_
        refine m_istore C [(4, .int (0 : Int32)), (0, .ref (aL X 34)), (1, .long x3), (3, .int x4)] dX9_digest_13 (by decide) rfl ?_
        have L15 : ∀ (n15 : Nat) (x63 : Int64) (x64 : Int32) (g65 : Mem), (5 - x64.toInt).toNat < n15 → Inv g65 → Kq [] [] g g65 → 0 ≤ x64.toInt ∧ x64.toInt ≤ 4 → Wm X p l e (rmD 3) s m ([.ref (aL X 34)] : List Value).toArray below meth c 5 0 0 (MQ below (cQ X (pJ (fun r g2 => Inv g2 ∧ Kq [] [] g g2))) ([.ref (aL X 34)] : List Value).toArray s 0 0 (Ab X)) g65 15 [(0, .ref (aL X 34)), (1, .long x63), (3, .int x4), (4, .int x64)] [] := by
          intro n15
          induction n15 with
          | zero => intro x63 x64 g65 hm; exact absurd hm (Nat.not_lt_zero _)
          | succ n15 ih15 =>
            intro x63 x64 g65 hm15 hI66 hK67 i68
            obtain ⟨i68a, i68b⟩ := i68
            refine m_iload C dX9_digest_15 3 rfl ?_
            refine m_iconst C (4 : Int32) dX9_digest_17 (by decide) ?_
            refine m_icmp_ge C 42 dX9_digest_18 (by decide) (fun h69 => ?_) (fun h69 => ?_)
            · skip
              have th69 := i_le h69
              rw [show (4 : Int32).toInt = 4 by decide] at th69
              obtain ⟨x70, ex70⟩ : ∃ z : Int32, z = x4 + Int32.ofInt 1 := ⟨_, rfl⟩
              have t71 : (x4 + (Int32.ofInt 1)).toInt = x4.toInt + (1 : Int) := i_add rfl (by decide) (by omega) (by omega)
              have t72 : x70.toInt = (x4.toInt + (1 : Int)) := (congrArg Int32.toInt ex70).trans t71
              refine m_iinc C x70 [(3, .int x70), (0, .ref (aL X 34)), (1, .long x63), (4, .int x64)] dX9_digest_42 (q := 2) rfl ex70.symm (by decide) rfl ?_
              refine m_goto C 6 dX9_digest_45 (by decide) ?_
              refine m_lv [1, 2, 0] rfl ?_
              exact ih6 x63 x70 g65 (by omega) hI66 hK67 (by omega)
            · skip
              have th69 := i_nle h69
              rw [show (4 : Int32).toInt = 4 by decide] at th69
              refine m_ldc2 C (31) dX9_digest_21 lk_X9_265 ?_
              refine m_lload_n C dX9_digest_24 1 rfl ?_
              refine m_lmul C dX9_digest_25 ?_
              refine m_nameJ (fun x73 ex73 => ?_)
              refine m_aload_n C dX9_digest_26 0 rfl ?_
              refine m_iload_n C dX9_digest_27 2 rfl ?_
              refine m_iload C dX9_digest_28 3 rfl ?_
              refine m_invV C cal_X9_subjectAt sh_34 rfl (c_X9_subjectAt l hX g65 x4 x64 hI66) lk_X9_311 im_X9_subjectAt se_X9_subjectAt (by decide) rfl rfl (Nat.le_of_ble_eq_true rfl) dX9_digest_30 ⟨Nat.le_refl _, Nat.le_refl _⟩ (rI fun r74 g75 q76 => ?_)
              obtain ⟨eg75, p77⟩ := q76
              subst g75
              refine m_i2l C dX9_digest_33 ?_
              refine m_ladd C dX9_digest_34 ?_
              refine m_nameJ (fun x78 ex78 => ?_)
              refine m_lstore_n C [(1, .long x78), (0, .ref (aL X 34)), (3, .int x4), (4, .int x64)] dX9_digest_35 (by decide) rfl ?_
              obtain ⟨x80, ex80⟩ : ∃ z : Int32, z = x64 + Int32.ofInt 1 := ⟨_, rfl⟩
              have t81 : (x64 + (Int32.ofInt 1)).toInt = x64.toInt + (1 : Int) := i_add rfl (by decide) (by omega) (by omega)
              have t82 : x80.toInt = (x64.toInt + (1 : Int)) := (congrArg Int32.toInt ex80).trans t81
              refine m_iinc C x80 [(4, .int x80), (1, .long x78), (0, .ref (aL X 34)), (3, .int x4)] dX9_digest_36 (q := 3) rfl ex80.symm (by decide) rfl ?_
              refine m_goto C 15 dX9_digest_39 (by decide) ?_
              refine m_lv [2, 1, 3, 0] rfl ?_
              exact ih15 x78 x80 g65 (by omega) hI66 hK67 (by omega)
        have t83 : (0 : Int32).toInt = 0 := by decide
        refine m_lv [1, 2, 3, 0] rfl ?_
        exact L15 (((5 - (0 : Int32).toInt).toNat) + 1) x3 (0 : Int32) g5 (Nat.lt_succ_self _) hI6 hK7 (by omega)
  have t84 : (0 : Int32).toInt = 0 := by decide
  refine m_lv [2, 1, 0] rfl ?_
  exact L6 (((13 - (0 : Int32).toInt).toNat) + 1) x1 (0 : Int32) g (Nat.lt_succ_self _) hI Kq.rf (by omega)
