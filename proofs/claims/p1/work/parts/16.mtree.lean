set_option maxRecDepth 20000 in
set_option maxHeartbeats 4000000 in
theorem c_X9_joins (l : Launch) {X : XT} (hX : Lok X) (g : Mem) (t : Int32) (hI : Inv g) (h_t : 0 ≤ t.toInt ∧ t.toInt ≤ 7) : Ctr l X yX9_joins cX9_joins 2 none (rmD 4) [.ref (aL X 34), .int t] g (pV (fun g2 => Inv g2 ∧ Kq [36, 37, 38, 39, 52] [4] g g2)) := by
  refine Ctr.of (lv := [(0, .ref (aL X 34)), (1, .int t)]) hX (by decide) rfl (Nat.le_of_ble_eq_true rfl) ?_
  intro p e s m below meth c C
  refine m_aload_n C dX9_joins_0 0 rfl ?_
  refine m_aload_n C dX9_joins_1 0 rfl ?_
  refine m_getr (rf := "") C 25 rfl gd9 (by decide) sh_34 rfl dX9_joins_2 lk_X9_62 ?_
  refine m_iconst C (0 : Int32) dX9_joins_5 (by decide) ?_
  have t1 : (0 : Int32).toInt = 0 := by decide
  refine m_invV C cal_X9_lay sh_34 rfl (c_X9_lay_52 l hX g (0 : Int32) hI (by omega)) lk_X9_213 im_X9_lay se_X9_lay (by decide) rfl rfl (Nat.le_of_ble_eq_true rfl) dX9_joins_6 ⟨Nat.le_refl _, Nat.le_refl _⟩ (rV fun g3 q4 => ?_)
  obtain ⟨hI5, hK6⟩ := q4
  have hK7 : Kq [36, 37, 38, 39, 52] [4] g g3 := (Kq.rf).tr hK6 (by decide) (by decide)
  refine m_aload_n C dX9_joins_9 0 rfl ?_
  refine m_aload_n C dX9_joins_10 0 rfl ?_
  refine m_getr (rf := "") C 23 rfl gd9 (by decide) sh_34 rfl dX9_joins_11 lk_X9_56 ?_
  refine m_bipush C (32 : Int32) dX9_joins_14 (by decide) ?_
  refine m_iload_n C dX9_joins_16 1 rfl ?_
  refine m_imul C dX9_joins_17 ?_
  refine m_aload_n C dX9_joins_18 0 rfl ?_
  refine m_getr (rf := "") C 25 rfl gd9 (by decide) sh_34 rfl dX9_joins_19 lk_X9_62 ?_
  refine m_iconst C (0 : Int32) dX9_joins_22 (by decide) ?_
  have t8 : ((32 : Int32) * t).toInt = (32 : Int) * t.toInt := i_mul (by decide) rfl (by omega) (by omega)
  have t9 : (0 : Int32).toInt = 0 := by decide
  refine m_invV C cal_X9_pair sh_34 rfl (c_X9_pair_50_52 l hX g3 ((32 : Int32) * t) (0 : Int32) hI5 (by omega) (by omega)) lk_X9_273 im_X9_pair se_X9_pair (by decide) rfl rfl (Nat.le_of_ble_eq_true rfl) dX9_joins_23 ⟨Nat.le_refl _, Nat.le_refl _⟩ (rV fun g11 q12 => ?_)
  obtain ⟨hI13, hK14⟩ := q12
  have hK15 : Kq [36, 37, 38, 39, 52] [4] g g11 := (hK7).tr hK14 (by decide) (by decide)
  exact m_vret C dX9_joins_26 ⟨rfl, hI13, hK15⟩
set_option maxRecDepth 20000 in
set_option maxHeartbeats 4000000 in
theorem c_X9_below (l : Launch) {X : XT} (hX : Lok X) (g : Mem) (n0 : Int32) (hI : Inv g) (h_n0 : 2 ≤ n0.toInt ∧ n0.toInt ≤ 60) : Ctr l X yX9_below cX9_below 2 (some .int) (rmD 0) [.int n0] g (pI (fun r g2 => Inv g2 ∧ Kq [] [] g g2 ∧ n_p2 r ∧ r.toInt < n0.toInt ∧ n0.toInt ≤ 2 * r.toInt)) := by
  refine Ctr.of (lv := [(0, .int n0)]) hX (by decide) rfl (Nat.le_of_ble_eq_true rfl) ?_
  intro p e s m below meth c C
  refine m_iconst C (1 : Int32) dX9_below_0 (by decide) ?_
  refine m_istore_n C [(1, .int (1 : Int32)), (0, .int n0)] dX9_below_1 (by decide) rfl ?_
  have L2 : ∀ (n2 : Nat) (x2 : Int32) (g3 : Mem), (64 - x2.toInt).toNat < n2 → Inv g3 → Kq [] [] g g3 → 1 ≤ x2.toInt ∧ x2.toInt < n0.toInt → n_p2 x2 → Wm X p l e (rmD 0) s m ([.int n0] : List Value).toArray below meth c 2 0 0 (MQ below (cQ X (pI (fun r g2 => Inv g2 ∧ Kq [] [] g g2 ∧ n_p2 r ∧ r.toInt < n0.toInt ∧ n0.toInt ≤ 2 * r.toInt))) ([.int n0] : List Value).toArray s 0 0 (Ab X)) g3 2 [(0, .int n0), (1, .int x2)] [] := by
    intro n2
    induction n2 with
    | zero => intro x2 g3 hm; exact absurd hm (Nat.not_lt_zero _)
    | succ n2 ih2 =>
      intro x2 g3 hm2 hI4 hK5 i6 i7
      obtain ⟨i6a, i6b⟩ := i6
      refine m_iconst C (2 : Int32) dX9_below_2 (by decide) ?_
      refine m_iload_n C dX9_below_3 1 rfl ?_
      refine m_imul C dX9_below_4 ?_
      refine m_iload_n C dX9_below_5 0 rfl ?_
      have t8 : ((2 : Int32) * x2).toInt = (2 : Int) * x2.toInt := i_mul (by decide) rfl (by omega) (by omega)
      refine m_icmp_ge C 16 dX9_below_6 (by decide) (fun h9 => ?_) (fun h9 => ?_)
      · skip
        have th9 := i_le h9
        refine m_iload_n C dX9_below_16 1 rfl ?_
        exact m_iret C dX9_below_17 ⟨_, rfl, hI4, hK5, ⟨by assumption, by omega, by omega⟩⟩
      · skip
        have th9 := i_nle h9
        refine m_iconst C (2 : Int32) dX9_below_9 (by decide) ?_
        refine m_iload_n C dX9_below_10 1 rfl ?_
        refine m_imul C dX9_below_11 ?_
        refine m_name (fun x10 ex10 => ?_)
        have t11 : ((2 : Int32) * x2).toInt = (2 : Int) * x2.toInt := i_mul (by decide) rfl (by omega) (by omega)
        have t12 : x10.toInt = ((2 : Int) * x2.toInt) := (congrArg Int32.toInt ex10).trans t11
        refine m_istore_n C [(1, .int x10), (0, .int n0)] dX9_below_12 (by decide) rfl ?_
        refine m_goto C 2 dX9_below_13 (by decide) ?_
        refine m_lv [1, 0] rfl ?_
        exact ih2 x10 g3 (by omega) hI4 hK5 (by omega) (by rw [ex10]; exact n_p2_2 (by assumption) (by omega))
  have t13 : (1 : Int32).toInt = 1 := by decide
  refine m_lv [1, 0] rfl ?_
  exact L2 (((64 - (1 : Int32).toInt).toNat) + 1) (1 : Int32) g (Nat.lt_succ_self _) hI Kq.rf (by omega) (n_p2_1)
set_option maxRecDepth 20000 in
set_option maxHeartbeats 4000000 in
theorem c_X9_rootOf (l : Launch) {X : XT} (hX : Lok X) (g : Mem) (f0 : Int32) (n0 : Int32) (hI : Inv g) (h_f0 : 0 ≤ f0.toInt ∧ f0.toInt ≤ 60) (h_n0 : 0 ≤ n0.toInt ∧ n0.toInt ≤ 60) (hfn : f0.toInt + n0.toInt ≤ 60) : Ctr l X yX9_rootOf cX9_rootOf 6 none (rmD 5) [.ref (aL X 34), .int f0, .int n0] g (pV (fun g2 => Inv g2 ∧ Kq [36, 37, 38, 39, 50, 51, 52] [4] g g2)) := by
  refine Ctr.of (lv := [(0, .ref (aL X 34)), (1, .int f0), (2, .int n0)]) hX (by decide) rfl (Nat.le_of_ble_eq_true rfl) ?_
  intro p e s m below meth c C
  refine m_iload_n C dX9_rootOf_0 2 rfl ?_
  refine m_if_ne C 13 dX9_rootOf_1 (by decide) (fun h1 => ?_) (fun h1 => ?_)
  · skip
    have th1 := i_ne h1
    rw [show (0 : Int32).toInt = 0 by decide] at th1
    refine m_iconst C (0 : Int32) dX9_rootOf_13 (by decide) ?_
    refine m_istore_n C [(3, .int (0 : Int32)), (0, .ref (aL X 34)), (1, .int f0), (2, .int n0)] dX9_rootOf_14 (by decide) rfl ?_
    refine m_iconst C (0 : Int32) dX9_rootOf_15 (by decide) ?_
    refine m_istore C [(4, .int (0 : Int32)), (3, .int (0 : Int32)), (0, .ref (aL X 34)), (1, .int f0), (2, .int n0)] dX9_rootOf_16 (by decide) rfl ?_
    have L18 : ∀ (n18 : Nat) (x4 : Int32) (x5 : Int32) (g6 : Mem), (61 - x5.toInt).toNat < n18 → Inv g6 → Kq [36, 37, 38, 39, 50, 51, 52] [4] g g6 → 0 ≤ x5.toInt ∧ x5.toInt ≤ n0.toInt → n_pile (g6 51) x4 x5 → Wm X p l e (rmD 5) s m ([.ref (aL X 34), .int f0, .int n0] : List Value).toArray below meth c 6 0 0 (MQ below (cQ X (pV (fun g2 => Inv g2 ∧ Kq [36, 37, 38, 39, 50, 51, 52] [4] g g2))) ([.ref (aL X 34), .int f0, .int n0] : List Value).toArray s 0 0 (Ab X)) g6 18 [(0, .ref (aL X 34)), (1, .int f0), (2, .int n0), (3, .int x4), (4, .int x5)] [] := by
      intro n18
      induction n18 with
      | zero => intro x4 x5 g6 hm; exact absurd hm (Nat.not_lt_zero _)
      | succ n18 ih18 =>
        intro x4 x5 g6 hm18 hI7 hK8 i9 i10
        obtain ⟨i9a, i9b⟩ := i9
        refine m_iload C dX9_rootOf_18 4 rfl ?_
        refine m_iload_n C dX9_rootOf_20 2 rfl ?_
        refine m_icmp_ge C 98 dX9_rootOf_21 (by decide) (fun h11 => ?_) (fun h11 => ?_)
        · skip
          have th11 := i_le h11
          have hpt := n_pile_top (by assumption)
          obtain ⟨x12, ex12⟩ : ∃ z : Int32, z = x4 - (1 : Int32) := ⟨_, rfl⟩
          have t13 : (x4 - (1 : Int32)).toInt = x4.toInt - (1 : Int) := i_sub rfl (by decide) (by omega) (by omega)
          have t14 : x12.toInt = (x4.toInt - (1 : Int)) := (congrArg Int32.toInt ex12).trans t13
          refine m_iinc C x12 [(3, .int x12), (0, .ref (aL X 34)), (1, .int f0), (2, .int n0), (4, .int x5)] dX9_rootOf_98 (q := 3) rfl ((iinc_m1 _).trans ex12.symm) (by decide) rfl ?_
          refine m_iconst C (0 : Int32) dX9_rootOf_101 (by decide) ?_
          refine m_istore C [(4, .int (0 : Int32)), (3, .int x12), (0, .ref (aL X 34)), (1, .int f0), (2, .int n0)] dX9_rootOf_102 (by decide) rfl ?_
          have L104 : ∀ (n104 : Nat) (x16 : Int32) (g17 : Mem), (33 - x16.toInt).toNat < n104 → Inv g17 → Kq [36, 37, 38, 39, 50, 51, 52] [4] g g17 → 0 ≤ x16.toInt ∧ x16.toInt ≤ 32 → Wm X p l e (rmD 5) s m ([.ref (aL X 34), .int f0, .int n0] : List Value).toArray below meth c 6 0 0 (MQ below (cQ X (pV (fun g2 => Inv g2 ∧ Kq [36, 37, 38, 39, 50, 51, 52] [4] g g2))) ([.ref (aL X 34), .int f0, .int n0] : List Value).toArray s 0 0 (Ab X)) g17 104 [(0, .ref (aL X 34)), (1, .int f0), (2, .int n0), (3, .int x12), (4, .int x16)] [] := by
            intro n104
            induction n104 with
            | zero => intro x16 g17 hm; exact absurd hm (Nat.not_lt_zero _)
            | succ n104 ih104 =>
              intro x16 g17 hm104 hI18 hK19 i20
              obtain ⟨i20a, i20b⟩ := i20
              refine m_iload C dX9_rootOf_104 4 rfl ?_
              refine m_bipush C (32 : Int32) dX9_rootOf_106 (by decide) ?_
              refine m_icmp_ge C 136 dX9_rootOf_108 (by decide) (fun h21 => ?_) (fun h21 => ?_)
              · skip
                have th21 := i_le h21
                rw [show (32 : Int32).toInt = 32 by decide] at th21
                have L136 : ∀ (n136 : Nat) (x22 : Int32) (g23 : Mem), (x22.toInt).toNat < n136 → Inv g23 → Kq [36, 37, 38, 39, 50, 51, 52] [4] g g23 → 0 ≤ x22.toInt ∧ x22.toInt ≤ 7 → Wm X p l e (rmD 5) s m ([.ref (aL X 34), .int f0, .int n0] : List Value).toArray below meth c 6 0 0 (MQ below (cQ X (pV (fun g2 => Inv g2 ∧ Kq [36, 37, 38, 39, 50, 51, 52] [4] g g2))) ([.ref (aL X 34), .int f0, .int n0] : List Value).toArray s 0 0 (Ab X)) g23 136 [(0, .ref (aL X 34)), (1, .int f0), (2, .int n0), (3, .int x22)] [] := by
                  intro n136
                  induction n136 with
                  | zero => intro x22 g23 hm; exact absurd hm (Nat.not_lt_zero _)
                  | succ n136 ih136 =>
                    intro x22 g23 hm136 hI24 hK25 i26
                    obtain ⟨i26a, i26b⟩ := i26
                    refine m_iload_n C dX9_rootOf_136 3 rfl ?_
                    refine m_if_le C 151 dX9_rootOf_137 (by decide) (fun h27 => ?_) (fun h27 => ?_)
                    · skip
                      have th27 := i_le h27
                      rw [show (0 : Int32).toInt = 0 by decide] at th27
                      exact m_vret C dX9_rootOf_151 ⟨rfl, hI24, hK25⟩
                    · skip
                      have th27 := i_nle h27
                      rw [show (0 : Int32).toInt = 0 by decide] at th27
                      obtain ⟨x28, ex28⟩ : ∃ z : Int32, z = x22 - (1 : Int32) := ⟨_, rfl⟩
                      have t29 : (x22 - (1 : Int32)).toInt = x22.toInt - (1 : Int) := i_sub rfl (by decide) (by omega) (by omega)
                      have t30 : x28.toInt = (x22.toInt - (1 : Int)) := (congrArg Int32.toInt ex28).trans t29
                      refine m_iinc C x28 [(3, .int x28), (0, .ref (aL X 34)), (1, .int f0), (2, .int n0)] dX9_rootOf_140 (q := 3) rfl ((iinc_m1 _).trans ex28.symm) (by decide) rfl ?_
                      refine m_aload_n C dX9_rootOf_143 1 rfl ?_
                      refine m_iload_n C dX9_rootOf_144 0 rfl ?_
                      refine m_invV C cal_X9_joins sh_34 rfl (c_X9_joins l hX g23 x28 hI24 (by omega)) lk_X9_270 im_X9_joins se_X9_joins (by decide) rfl rfl (Nat.le_of_ble_eq_true rfl) dX9_rootOf_145 ⟨Nat.le_refl _, Nat.le_refl _⟩ (rV fun g32 q33 => ?_)
                      obtain ⟨hI34, hK35⟩ := q33
                      have hK36 : Kq [36, 37, 38, 39, 50, 51, 52] [4] g g32 := (hK25).tr hK35 (by decide) (by decide)
                      refine m_goto C 136 dX9_rootOf_148 (by decide) ?_
                      refine m_lv [1, 2, 3, 0] rfl ?_
                      exact ih136 x28 g32 (by omega) hI34 hK36 (by omega)
                refine m_lv [0, 1, 2, 3] rfl ?_
                exact L136 (((x12.toInt).toNat) + 1) x12 g17 (Nat.lt_succ_self _) hI18 hK19 (by omega)
              · skip
                have th21 := i_nle h21
                rw [show (32 : Int32).toInt = 32 by decide] at th21
                refine m_aload_n C dX9_rootOf_111 0 rfl ?_
                refine m_getr (rf := "") C 5 rfl gd9 (by decide) sh_34 rfl dX9_rootOf_112 lk_X9_22 ?_
                refine m_iload C dX9_rootOf_115 4 rfl ?_
                refine m_aload_n C dX9_rootOf_117 0 rfl ?_
                refine m_getr (rf := "") C 23 rfl gd9 (by decide) sh_34 rfl dX9_rootOf_118 lk_X9_56 ?_
                refine m_bipush C (32 : Int32) dX9_rootOf_121 (by decide) ?_
                refine m_iload_n C dX9_rootOf_123 3 rfl ?_
                refine m_imul C dX9_rootOf_124 ?_
                refine m_iload C dX9_rootOf_125 4 rfl ?_
                refine m_iadd C dX9_rootOf_127 ?_
                have t37 : ((32 : Int32) * x12).toInt = (32 : Int) * x12.toInt := i_mul (by decide) rfl (by omega) (by omega)
                have t38 : (((32 : Int32) * x12) + x16).toInt = ((32 : Int) * x12.toInt) + x16.toInt := i_add t37 rfl (by omega) (by omega)
                refine m_iald C sh_50 (i_in (by omega) (by omega)) dX9_rootOf_128 ?_
                refine m_iast C sh_39 (i_in (by omega) (by omega)) dX9_rootOf_129 ?_
                refine m_mem (fun g39 eg39 => ?_)
                have hI40 : Inv g39 := by rw [eg39]; exact hI18.up (ok_any (by decide))
                have hK41 : Kq [36, 37, 38, 39, 50, 51, 52] [4] g g39 := by rw [eg39]; exact Kq.upA hK19 (by decide) (by decide)
                obtain ⟨x42, ex42⟩ : ∃ z : Int32, z = x16 + Int32.ofInt 1 := ⟨_, rfl⟩
                have t43 : (x16 + (Int32.ofInt 1)).toInt = x16.toInt + (1 : Int) := i_add rfl (by decide) (by omega) (by omega)
                have t44 : x42.toInt = (x16.toInt + (1 : Int)) := (congrArg Int32.toInt ex42).trans t43
                refine m_iinc C x42 [(4, .int x42), (0, .ref (aL X 34)), (1, .int f0), (2, .int n0), (3, .int x12)] dX9_rootOf_130 (q := 4) rfl ex42.symm (by decide) rfl ?_
                refine m_goto C 104 dX9_rootOf_133 (by decide) ?_
                refine m_lv [1, 2, 3, 4, 0] rfl ?_
                exact ih104 x42 g39 (by omega) hI40 hK41 (by omega)
          have t45 : (0 : Int32).toInt = 0 := by decide
          refine m_lv [2, 3, 4, 1, 0] rfl ?_
          exact L104 (((33 - (0 : Int32).toInt).toNat) + 1) (0 : Int32) g6 (Nat.lt_succ_self _) hI7 hK8 (by omega)
        · skip
          have th11 := i_nle h11
          refine m_aload_n C dX9_rootOf_24 0 rfl ?_
          refine m_iload_n C dX9_rootOf_25 1 rfl ?_
          refine m_iload C dX9_rootOf_26 4 rfl ?_
          refine m_iadd C dX9_rootOf_28 ?_
          have t46 : (f0 + x5).toInt = f0.toInt + x5.toInt := i_add rfl rfl (by omega) (by omega)
          refine m_invV C cal_X9_leaf sh_34 rfl (c_X9_leaf l hX g6 (f0 + x5) hI7 (by omega)) lk_X9_267 im_X9_leaf se_X9_leaf (by decide) rfl rfl (Nat.le_of_ble_eq_true rfl) dX9_rootOf_29 ⟨Nat.le_refl _, Nat.le_refl _⟩ (rV fun g48 q49 => ?_)
          obtain ⟨hI50, hK51⟩ := q49
          have hK52 : Kq [36, 37, 38, 39, 50, 51, 52] [4] g g48 := (hK8).tr hK51 (by decide) (by decide)
          refine m_iconst C (1 : Int32) dX9_rootOf_32 (by decide) ?_
          refine m_istore C [(5, .int (1 : Int32)), (0, .ref (aL X 34)), (1, .int f0), (2, .int n0), (3, .int x4), (4, .int x5)] dX9_rootOf_33 (by decide) rfl ?_
          have L35 : ∀ (n35 : Nat) (x54 : Int32) (x55 : Int32) (g56 : Mem), (x54.toInt).toNat < n35 → Inv g56 → Kq [36, 37, 38, 39, 50, 51, 52] [4] g g56 → n_carry (g56 51) x54 x5 x55 → Wm X p l e (rmD 5) s m ([.ref (aL X 34), .int f0, .int n0] : List Value).toArray below meth c 6 0 0 (MQ below (cQ X (pV (fun g2 => Inv g2 ∧ Kq [36, 37, 38, 39, 50, 51, 52] [4] g g2))) ([.ref (aL X 34), .int f0, .int n0] : List Value).toArray s 0 0 (Ab X)) g56 35 [(0, .ref (aL X 34)), (1, .int f0), (2, .int n0), (3, .int x54), (4, .int x5), (5, .int x55)] [] := by
            intro n35
            induction n35 with
            | zero => intro x54 x55 g56 hm; exact absurd hm (Nat.not_lt_zero _)
            | succ n35 ih35 =>
              intro x54 x55 g56 hm35 hI57 hK58 i59
              refine m_iload_n C dX9_rootOf_35 3 rfl ?_
              refine m_if_le C 69 dX9_rootOf_36 (by decide) (fun h60 => ?_) (fun h60 => ?_)
              · skip
                have th60 := i_le h60
                rw [show (0 : Int32).toInt = 0 by decide] at th60
                have hcr := n_carry_top (by assumption)
                refine m_aload_n C dX9_rootOf_69 0 rfl ?_
                refine m_aload_n C dX9_rootOf_70 0 rfl ?_
                refine m_getr (rf := "") C 23 rfl gd9 (by decide) sh_34 rfl dX9_rootOf_71 lk_X9_56 ?_
                refine m_bipush C (32 : Int32) dX9_rootOf_74 (by decide) ?_
                refine m_iload_n C dX9_rootOf_76 3 rfl ?_
                refine m_imul C dX9_rootOf_77 ?_
                have t61 : ((32 : Int32) * x54).toInt = (32 : Int) * x54.toInt := i_mul (by decide) rfl (by omega) (by omega)
                refine m_invV C cal_X9_lay sh_34 rfl (c_X9_lay_50 l hX g56 ((32 : Int32) * x54) hI57 (by omega)) lk_X9_213 im_X9_lay se_X9_lay (by decide) rfl rfl (Nat.le_of_ble_eq_true rfl) dX9_rootOf_78 ⟨Nat.le_refl _, Nat.le_refl _⟩ (rV fun g63 q64 => ?_)
                obtain ⟨hI65, hK66⟩ := q64
                have hK67 : Kq [36, 37, 38, 39, 50, 51, 52] [4] g g63 := (hK58).tr hK66 (by decide) (by decide)
                refine m_aload_n C dX9_rootOf_81 0 rfl ?_
                refine m_getr (rf := "") C 24 rfl gd9 (by decide) sh_34 rfl dX9_rootOf_82 lk_X9_59 ?_
                refine m_iload_n C dX9_rootOf_85 3 rfl ?_
                refine m_iload C dX9_rootOf_86 5 rfl ?_
                refine m_iast C sh_51 (i_in (by omega) (by omega)) dX9_rootOf_88 ?_
                refine m_mem (fun g68 eg68 => ?_)
                have hI69 : Inv g68 := by rw [eg68]; exact hI65.up (ok_any (by decide))
                have hK70 : Kq [36, 37, 38, 39, 50, 51, 52] [4] g g68 := by rw [eg68]; exact Kq.upA hK67 (by decide) (by decide)
                obtain ⟨x71, ex71⟩ : ∃ z : Int32, z = x54 + Int32.ofInt 1 := ⟨_, rfl⟩
                have t72 : (x54 + (Int32.ofInt 1)).toInt = x54.toInt + (1 : Int) := i_add rfl (by decide) (by omega) (by omega)
                have t73 : x71.toInt = (x54.toInt + (1 : Int)) := (congrArg Int32.toInt ex71).trans t72
                refine m_iinc C x71 [(3, .int x71), (0, .ref (aL X 34)), (1, .int f0), (2, .int n0), (4, .int x5), (5, .int x55)] dX9_rootOf_89 (q := 3) rfl ex71.symm (by decide) rfl ?_
                obtain ⟨x74, ex74⟩ : ∃ z : Int32, z = x5 + Int32.ofInt 1 := ⟨_, rfl⟩
                have t75 : (x5 + (Int32.ofInt 1)).toInt = x5.toInt + (1 : Int) := i_add rfl (by decide) (by omega) (by omega)
                have t76 : x74.toInt = (x5.toInt + (1 : Int)) := (congrArg Int32.toInt ex74).trans t75
                refine m_iinc C x74 [(4, .int x74), (3, .int x71), (0, .ref (aL X 34)), (1, .int f0), (2, .int n0), (5, .int x55)] dX9_rootOf_92 (q := 4) rfl ex74.symm (by decide) rfl ?_
                have hpl : n_pile (g68 51) x71 x74 := n_carry2 (by assumption) (by first | exact Or.inl (by omega) | exact Or.inr (by omega)) (by omega) (by omega) (fun j hj => by rw [eg68, up2_nei (Or.inr hj), hK66.1 51 (by decide) (by decide)]) (by rw [eg68, up2_self])
                refine m_goto C 18 dX9_rootOf_95 (by decide) ?_
                refine m_lv [2, 3, 4, 1, 0] rfl ?_
                exact ih18 x71 x74 g68 (by omega) hI69 hK70 (by omega) hpl
              · skip
                have th60 := i_nle h60
                rw [show (0 : Int32).toInt = 0 by decide] at th60
                have hcr0 := n_carry_top (by assumption)
                refine m_aload_n C dX9_rootOf_39 0 rfl ?_
                refine m_getr (rf := "") C 24 rfl gd9 (by decide) sh_34 rfl dX9_rootOf_40 lk_X9_59 ?_
                refine m_iload_n C dX9_rootOf_43 3 rfl ?_
                refine m_iconst C (1 : Int32) dX9_rootOf_44 (by decide) ?_
                refine m_isub C dX9_rootOf_45 ?_
                have t77 : (x54 - (1 : Int32)).toInt = x54.toInt - (1 : Int) := i_sub rfl (by decide) (by omega) (by omega)
                refine m_iald C sh_51 (i_in (by omega) (by omega)) dX9_rootOf_46 ?_
                refine m_iload C dX9_rootOf_47 5 rfl ?_
                refine m_icmp_ne C 69 dX9_rootOf_49 (by decide) (fun h78 => ?_) (fun h78 => ?_)
                · skip
                  have th78 := i_ne h78
                  have hcr := n_carry_top (by assumption)
                  refine m_aload_n C dX9_rootOf_69 0 rfl ?_
                  refine m_aload_n C dX9_rootOf_70 0 rfl ?_
                  refine m_getr (rf := "") C 23 rfl gd9 (by decide) sh_34 rfl dX9_rootOf_71 lk_X9_56 ?_
                  refine m_bipush C (32 : Int32) dX9_rootOf_74 (by decide) ?_
                  refine m_iload_n C dX9_rootOf_76 3 rfl ?_
                  refine m_imul C dX9_rootOf_77 ?_
                  have t79 : ((32 : Int32) * x54).toInt = (32 : Int) * x54.toInt := i_mul (by decide) rfl (by omega) (by omega)
                  refine m_invV C cal_X9_lay sh_34 rfl (c_X9_lay_50 l hX g56 ((32 : Int32) * x54) hI57 (by omega)) lk_X9_213 im_X9_lay se_X9_lay (by decide) rfl rfl (Nat.le_of_ble_eq_true rfl) dX9_rootOf_78 ⟨Nat.le_refl _, Nat.le_refl _⟩ (rV fun g81 q82 => ?_)
                  obtain ⟨hI83, hK84⟩ := q82
                  have hK85 : Kq [36, 37, 38, 39, 50, 51, 52] [4] g g81 := (hK58).tr hK84 (by decide) (by decide)
                  refine m_aload_n C dX9_rootOf_81 0 rfl ?_
                  refine m_getr (rf := "") C 24 rfl gd9 (by decide) sh_34 rfl dX9_rootOf_82 lk_X9_59 ?_
                  refine m_iload_n C dX9_rootOf_85 3 rfl ?_
                  refine m_iload C dX9_rootOf_86 5 rfl ?_
                  refine m_iast C sh_51 (i_in (by omega) (by omega)) dX9_rootOf_88 ?_
                  refine m_mem (fun g86 eg86 => ?_)
                  have hI87 : Inv g86 := by rw [eg86]; exact hI83.up (ok_any (by decide))
                  have hK88 : Kq [36, 37, 38, 39, 50, 51, 52] [4] g g86 := by rw [eg86]; exact Kq.upA hK85 (by decide) (by decide)
                  obtain ⟨x89, ex89⟩ : ∃ z : Int32, z = x54 + Int32.ofInt 1 := ⟨_, rfl⟩
                  have t90 : (x54 + (Int32.ofInt 1)).toInt = x54.toInt + (1 : Int) := i_add rfl (by decide) (by omega) (by omega)
                  have t91 : x89.toInt = (x54.toInt + (1 : Int)) := (congrArg Int32.toInt ex89).trans t90
                  refine m_iinc C x89 [(3, .int x89), (0, .ref (aL X 34)), (1, .int f0), (2, .int n0), (4, .int x5), (5, .int x55)] dX9_rootOf_89 (q := 3) rfl ex89.symm (by decide) rfl ?_
                  obtain ⟨x92, ex92⟩ : ∃ z : Int32, z = x5 + Int32.ofInt 1 := ⟨_, rfl⟩
                  have t93 : (x5 + (Int32.ofInt 1)).toInt = x5.toInt + (1 : Int) := i_add rfl (by decide) (by omega) (by omega)
                  have t94 : x92.toInt = (x5.toInt + (1 : Int)) := (congrArg Int32.toInt ex92).trans t93
                  refine m_iinc C x92 [(4, .int x92), (3, .int x89), (0, .ref (aL X 34)), (1, .int f0), (2, .int n0), (5, .int x55)] dX9_rootOf_92 (q := 4) rfl ex92.symm (by decide) rfl ?_
                  have hpl : n_pile (g86 51) x89 x92 := n_carry2 (by assumption) (by first | exact Or.inl (by omega) | exact Or.inr (by omega)) (by omega) (by omega) (fun j hj => by rw [eg86, up2_nei (Or.inr hj), hK84.1 51 (by decide) (by decide)]) (by rw [eg86, up2_self])
                  refine m_goto C 18 dX9_rootOf_95 (by decide) ?_
                  refine m_lv [2, 3, 4, 1, 0] rfl ?_
                  exact ih18 x89 x92 g86 (by omega) hI87 hK88 (by omega) hpl
                · skip
                  have th78 := i_eq h78
                  have hcr := n_carry_top (by assumption)
                  obtain ⟨x95, ex95⟩ : ∃ z : Int32, z = x54 - (1 : Int32) := ⟨_, rfl⟩
                  have t96 : (x54 - (1 : Int32)).toInt = x54.toInt - (1 : Int) := i_sub rfl (by decide) (by omega) (by omega)
                  have t97 : x95.toInt = (x54.toInt - (1 : Int)) := (congrArg Int32.toInt ex95).trans t96
                  refine m_iinc C x95 [(3, .int x95), (0, .ref (aL X 34)), (1, .int f0), (2, .int n0), (4, .int x5), (5, .int x55)] dX9_rootOf_52 (q := 3) rfl ((iinc_m1 _).trans ex95.symm) (by decide) rfl ?_
                  refine m_aload_n C dX9_rootOf_55 1 rfl ?_
                  refine m_iload_n C dX9_rootOf_56 0 rfl ?_
                  refine m_invV C cal_X9_joins sh_34 rfl (c_X9_joins l hX g56 x95 hI57 (by omega)) lk_X9_270 im_X9_joins se_X9_joins (by decide) rfl rfl (Nat.le_of_ble_eq_true rfl) dX9_rootOf_57 ⟨Nat.le_refl _, Nat.le_refl _⟩ (rV fun g99 q100 => ?_)
                  obtain ⟨hI101, hK102⟩ := q100
                  have hK103 : Kq [36, 37, 38, 39, 50, 51, 52] [4] g g99 := (hK58).tr hK102 (by decide) (by decide)
                  refine m_iconst C (2 : Int32) dX9_rootOf_60 (by decide) ?_
                  refine m_iload C dX9_rootOf_61 5 rfl ?_
                  refine m_imul C dX9_rootOf_63 ?_
                  refine m_name (fun x104 ex104 => ?_)
                  have t105 : ((2 : Int32) * x55).toInt = (2 : Int) * x55.toInt := i_mul (by decide) rfl (by omega) (by omega)
                  have t106 : x104.toInt = ((2 : Int) * x55.toInt) := (congrArg Int32.toInt ex104).trans t105
                  refine m_istore C [(5, .int x104), (3, .int x95), (0, .ref (aL X 34)), (1, .int f0), (2, .int n0), (4, .int x5)] dX9_rootOf_64 (by decide) rfl ?_
                  have hca : n_carry (g99 51) x95 x5 x104 := by rw [hK102.1 51 (by decide) (by decide)]; exact n_carry1 (by assumption) (by omega) (by omega) (by omega) (by omega)
                  refine m_goto C 35 dX9_rootOf_66 (by decide) ?_
                  refine m_lv [2, 3, 4, 1, 5, 0] rfl ?_
                  exact ih35 x95 x104 g99 (by omega) hI101 hK103 hca
          have t107 : (1 : Int32).toInt = 1 := by decide
          refine m_lv [1, 2, 3, 4, 5, 0] rfl ?_
          exact L35 (((x4.toInt).toNat) + 1) x4 (1 : Int32) g48 (Nat.lt_succ_self _) hI50 hK52 (by rw [hK51.1 51 (by decide) (by decide)]; exact n_carry0 (by assumption) (by omega))
    have t108 : (0 : Int32).toInt = 0 := by decide
    have t109 : (0 : Int32).toInt = 0 := by decide
    refine m_lv [2, 3, 4, 1, 0] rfl ?_
    exact L18 (((61 - (0 : Int32).toInt).toNat) + 1) (0 : Int32) (0 : Int32) g (Nat.lt_succ_self _) hI Kq.rf (by omega) (n_pile0 _)
  · skip
    have th1 := i_eq h1
    rw [show (0 : Int32).toInt = 0 by decide] at th1
    refine m_aload_n C dX9_rootOf_4 0 rfl ?_
    refine m_invV C cal_X9_begin sh_34 rfl (c_X9_begin l hX g  hI) lk_X9_173 im_X9_begin se_X9_begin (by decide) rfl rfl (Nat.le_of_ble_eq_true rfl) dX9_rootOf_5 ⟨Nat.le_refl _, Nat.le_refl _⟩ (rV fun g111 q112 => ?_)
    obtain ⟨hI113, hK114, p115⟩ := q112
    have hK116 : Kq [36, 37, 38, 39, 50, 51, 52] [4] g g111 := (Kq.rf).tr hK114 (by decide) (by decide)
    refine m_aload_n C dX9_rootOf_8 0 rfl ?_
    refine m_invV C cal_X9_end sh_34 rfl (c_X9_end l hX g111  hI113 (by omega)) lk_X9_180 im_X9_end se_X9_end (by decide) rfl rfl (Nat.le_of_ble_eq_true rfl) dX9_rootOf_9 ⟨Nat.le_refl _, Nat.le_refl _⟩ (rV fun g118 q119 => ?_)
    obtain ⟨hI120, hK121⟩ := q119
    have hK122 : Kq [36, 37, 38, 39, 50, 51, 52] [4] g g118 := (hK116).tr hK121 (by decide) (by decide)
    exact m_vret C dX9_rootOf_12 ⟨rfl, hI120, hK122⟩
