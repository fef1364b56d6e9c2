set_option maxRecDepth 20000 in
set_option maxHeartbeats 4000000 in
theorem c_X1_begin_e (l : Launch) {X : XT} (hX : Lok X) (g : Mem)  (hI : Inv g) : Ctr l X yX1_begin cX1_begin 1 none (rmD 0) [.ref (aL X 9)] g (pV (fun g2 => Inv g2 ∧ Kp [9] g g2 ∧ (g2 9 3).toInt = 0)) := by
  refine Ctr.of (lv := [(0, .ref (aL X 9))]) hX (by decide) rfl (Nat.le_of_ble_eq_true rfl) ?_
  intro p e s m below meth c C
  refine m_aload_n C dX1_begin_0 0 rfl ?_
  refine m_iconst C (0 : Int32) dX1_begin_1 (by decide) ?_
  refine m_put (rf := "") C 3 rfl gd1 (by decide) tyX1 tyX1_ok nmX1 rfl (tyX1_ok 3 (by decide)) rfl rfl sh_9 rfl dX1_begin_2 lk_X1_21 ?_
  refine m_mem (fun g1 eg1 => ?_)
  have hI2 : Inv g1 := by rw [eg1]; exact hI.up (ok_hlen (by decide) (by decide))
  have hK3 : Kp [9] g g1 := by rw [eg1]; exact Kp.up Kp.rf (by decide) (Or.inl (by decide)) (Or.inl (by decide))
  exact m_vret C dX1_begin_5 ⟨rfl, hI2, hK3, (by rw [eg1, up2_self]; decide)⟩
set_option maxRecDepth 20000 in
set_option maxHeartbeats 4000000 in
theorem c_X1_add_e (l : Launch) {X : XT} (hX : Lok X) (g : Mem) (v : Int32) (hI : Inv g) (hs : (g 9 3).toInt ≤ 59) : Ctr l X yX1_add cX1_add 3 none (rmD 0) [.ref (aL X 9), .int v] g (pV (fun g2 => Inv g2 ∧ Kp [9, 10] g g2 ∧ (g2 9 3).toInt = (g 9 3).toInt + 1 ∧ (∀ j, g2 10 j = if j = (g 9 3).toNatClampNeg / 4 then hs_a0 (g 10 j) (v &&& 255) else g 10 j))) := by
  refine Ctr.of (lv := [(0, .ref (aL X 9)), (1, .int v)]) hX (by decide) rfl (Nat.le_of_ble_eq_true rfl) ?_
  intro p e s m below meth c C
  refine m_aload_n C dX1_add_0 0 rfl ?_
  refine m_geti (rf := "") C 3 rfl gd1 (by decide) sh_9 rfl dX1_add_1 lk_X1_21 ?_
  have r1 := iv_hlen hI
  refine m_iconst C (2 : Int32) dX1_add_4 (by decide) ?_
  refine m_ishr C dX1_add_5 ?_
  refine m_name (fun x2 ex2 => ?_)
  have t3 : ((g 9 3) >>> ((2 : Int32) &&& 31)).toInt = (g 9 3).toInt / 4 := i_shr rfl 2 (by decide)
  have t4 : x2.toInt = ((g 9 3).toInt / 4) := (congrArg Int32.toInt ex2).trans t3
  refine m_istore_n C [(2, .int x2), (0, .ref (aL X 9)), (1, .int v)] dX1_add_6 (by decide) rfl ?_
  refine m_iload_n C dX1_add_7 0 rfl ?_
  refine m_aload_n C dX1_add_8 1 rfl ?_
  refine m_getr (rf := "") C 0 rfl gd1 (by decide) sh_9 rfl dX1_add_9 lk_X1_11 ?_
  refine m_alen C 32 sh_10 (by decide) dX1_add_12 ?_
  refine m_icmp_ge C 47 dX1_add_13 (by decide) (fun h5 => ?_) (fun h5 => ?_)
  · skip
    have th5 := i_le h5
    rw [show (32 : Int32).toInt = 32 by decide] at th5
    exact m_vret C dX1_add_47 ⟨rfl, hI, Kp.rf, False.elim (by omega)⟩
  · skip
    have th5 := i_nle h5
    rw [show (32 : Int32).toInt = 32 by decide] at th5
    refine m_aload_n C dX1_add_16 1 rfl ?_
    refine m_getr (rf := "") C 0 rfl gd1 (by decide) sh_9 rfl dX1_add_17 lk_X1_11 ?_
    refine m_iload_n C dX1_add_20 0 rfl ?_
    refine m_aload_n C dX1_add_21 1 rfl ?_
    refine m_getr (rf := "") C 0 rfl gd1 (by decide) sh_9 rfl dX1_add_22 lk_X1_11 ?_
    refine m_iload_n C dX1_add_25 0 rfl ?_
    refine m_iald C sh_10 (i_in (by omega) (by omega)) dX1_add_26 ?_
    refine m_bipush C (8 : Int32) dX1_add_27 (by decide) ?_
    refine m_ishl C dX1_add_29 ?_
    refine m_iload_n C dX1_add_30 2 rfl ?_
    refine m_sipush C (255 : Int32) dX1_add_31 (by decide) ?_
    refine m_iand C dX1_add_34 ?_
    refine m_ior C dX1_add_35 ?_
    refine m_iast C sh_10 (i_in (by omega) (by omega)) dX1_add_36 ?_
    refine m_mem (fun g6 eg6 => ?_)
    have hI7 : Inv g6 := by rw [eg6]; exact hI.up (ok_any (by decide))
    have hK8 : Kp [9, 10] g g6 := by rw [eg6]; exact Kp.up Kp.rf (by decide) (Or.inl (by decide)) (Or.inl (by decide))
    have ev9 : g6 9 3 = g 9 3 := by rw [eg6]; exact up2_nei (Or.inl (by decide))
    have tev9 := congrArg Int32.toInt ev9
    refine m_aload_n C dX1_add_37 1 rfl ?_
    refine m_dup C dX1_add_38 rfl ?_
    refine m_geti (rf := "") C 3 rfl gd1 (by decide) sh_9 rfl dX1_add_39 lk_X1_21 ?_
    have r10 := iv_hlen hI7
    refine m_iconst C (1 : Int32) dX1_add_42 (by decide) ?_
    refine m_iadd C dX1_add_43 ?_
    have t11 : ((g6 9 3) + (1 : Int32)).toInt = (g6 9 3).toInt + (1 : Int) := i_add rfl (by decide) (by omega) (by omega)
    refine m_put (rf := "") C 3 rfl gd1 (by decide) tyX1 tyX1_ok nmX1 rfl (tyX1_ok 3 (by decide)) rfl rfl sh_9 rfl dX1_add_44 lk_X1_21 ?_
    refine m_mem (fun g12 eg12 => ?_)
    have hI13 : Inv g12 := by rw [eg12]; exact hI7.up (ok_hlen (by omega) (by omega))
    have hK14 : Kp [9, 10] g g12 := by rw [eg12]; exact Kp.up hK8 (by decide) (Or.inl (by decide)) (Or.inl (by decide))
    exact m_vret C dX1_add_47 ⟨rfl, hI13, hK14, hs_add eg6 eg12 (by omega) (by omega) (by omega)⟩
set_option maxRecDepth 20000 in
set_option maxHeartbeats 4000000 in
theorem c_X1_spread_e (l : Launch) {X : XT} (hX : Lok X) (g : Mem) (b : Int32) (hI : Inv g) (h_b : 0 ≤ b.toInt ∧ b.toInt ≤ 1) (hb : b = 0) : Ctr l X yX1_spread cX1_spread 7 none (rmD 0) [.ref (aL X 9), .int b] g (pV (fun g2 => Inv g2 ∧ Kp [11] g g2 ∧ hs_Sn (g 10) (g2 11) 64)) := by
  refine Ctr.of (lv := [(0, .ref (aL X 9)), (1, .int b)]) hX (by decide) rfl (Nat.le_of_ble_eq_true rfl) ?_
  intro p e s m below meth c C
  refine m_iconst C (0 : Int32) dX1_spread_0 (by decide) ?_
  refine m_istore_n C [(2, .int (0 : Int32)), (0, .ref (aL X 9)), (1, .int b)] dX1_spread_1 (by decide) rfl ?_
  have L2 : ∀ (n2 : Nat) (x2 : Int32) (g3 : Mem), (17 - x2.toInt).toNat < n2 → Inv g3 → Kp [11] g g3 → 0 ≤ x2.toInt ∧ x2.toInt ≤ 16 → (∀ t, t < x2.toNatClampNeg → g3 11 t = g 10 t) → Wm X p l e (rmD 0) s m ([.ref (aL X 9), .int b] : List Value).toArray below meth c 7 0 0 (MQ below (cQ X (pV (fun g2 => Inv g2 ∧ Kp [11] g g2 ∧ hs_Sn (g 10) (g2 11) 64))) ([.ref (aL X 9), .int b] : List Value).toArray s 0 0 (Ab X)) g3 2 [(0, .ref (aL X 9)), (1, .int b), (2, .int x2)] [] := by
    intro n2
    induction n2 with
    | zero => intro x2 g3 hm; exact absurd hm (Nat.not_lt_zero _)
    | succ n2 ih2 =>
      intro x2 g3 hm2 hI4 hK5 i6 i7
      obtain ⟨i6a, i6b⟩ := i6
      refine m_iload_n C dX1_spread_2 2 rfl ?_
      refine m_bipush C (16 : Int32) dX1_spread_3 (by decide) ?_
      refine m_icmp_ge C 31 dX1_spread_5 (by decide) (fun h8 => ?_) (fun h8 => ?_)
      · skip
        have th8 := i_le h8
        rw [show (16 : Int32).toInt = 16 by decide] at th8
        refine m_bipush C (16 : Int32) dX1_spread_31 (by decide) ?_
        refine m_istore_n C [(2, .int (16 : Int32)), (0, .ref (aL X 9)), (1, .int b)] dX1_spread_33 (by decide) rfl ?_
        have L34 : ∀ (n34 : Nat) (x10 : Int32) (g11 : Mem), (65 - x10.toInt).toNat < n34 → Inv g11 → Kp [11] g g11 → 16 ≤ x10.toInt ∧ x10.toInt ≤ 64 → hs_Sn (g 10) (g11 11) x10.toNatClampNeg → Wm X p l e (rmD 0) s m ([.ref (aL X 9), .int b] : List Value).toArray below meth c 7 0 0 (MQ below (cQ X (pV (fun g2 => Inv g2 ∧ Kp [11] g g2 ∧ hs_Sn (g 10) (g2 11) 64))) ([.ref (aL X 9), .int b] : List Value).toArray s 0 0 (Ab X)) g11 34 [(0, .ref (aL X 9)), (1, .int b), (2, .int x10)] [] := by
          intro n34
          induction n34 with
          | zero => intro x10 g11 hm; exact absurd hm (Nat.not_lt_zero _)
          | succ n34 ih34 =>
            intro x10 g11 hm34 hI12 hK13 i14 i15
            obtain ⟨i14a, i14b⟩ := i14
            refine m_iload_n C dX1_spread_34 2 rfl ?_
            refine m_bipush C (64 : Int32) dX1_spread_35 (by decide) ?_
            refine m_icmp_ge C 153 dX1_spread_37 (by decide) (fun h16 => ?_) (fun h16 => ?_)
            · skip
              have th16 := i_le h16
              rw [show (64 : Int32).toInt = 64 by decide] at th16
              exact m_vret C dX1_spread_153 ⟨rfl, hI12, hK13, (hs_Sn64 i15 (by omega))⟩
            · skip
              have th16 := i_nle h16
              rw [show (64 : Int32).toInt = 64 by decide] at th16
              refine m_aload_n C dX1_spread_40 0 rfl ?_
              refine m_getr (rf := "") C 1 rfl gd1 (by decide) sh_9 rfl dX1_spread_41 lk_X1_15 ?_
              refine m_iload_n C dX1_spread_44 2 rfl ?_
              refine m_bipush C (15 : Int32) dX1_spread_45 (by decide) ?_
              refine m_isub C dX1_spread_47 ?_
              have t17 : (x10 - (15 : Int32)).toInt = x10.toInt - (15 : Int) := i_sub rfl (by decide) (by omega) (by omega)
              refine m_iald C sh_11 (i_in (by omega) (by omega)) dX1_spread_48 ?_
              refine m_name (fun x18 ex18 => ?_)
              refine m_istore_n C [(3, .int x18), (0, .ref (aL X 9)), (1, .int b), (2, .int x10)] dX1_spread_49 (by decide) rfl ?_
              refine m_aload_n C dX1_spread_50 1 rfl ?_
              refine m_getr (rf := "") C 1 rfl gd1 (by decide) sh_9 rfl dX1_spread_51 lk_X1_15 ?_
              refine m_iload_n C dX1_spread_54 3 rfl ?_
              refine m_iconst C (2 : Int32) dX1_spread_55 (by decide) ?_
              refine m_isub C dX1_spread_56 ?_
              have t19 : (x10 - (2 : Int32)).toInt = x10.toInt - (2 : Int) := i_sub rfl (by decide) (by omega) (by omega)
              refine m_iald C sh_11 (i_in (by omega) (by omega)) dX1_spread_57 ?_
              refine m_name (fun x20 ex20 => ?_)
              refine m_istore C [(4, .int x20), (3, .int x18), (0, .ref (aL X 9)), (1, .int b), (2, .int x10)] dX1_spread_58 (by decide) rfl ?_
              refine m_iload_n C dX1_spread_60 1 rfl ?_
              refine m_bipush C (7 : Int32) dX1_spread_61 (by decide) ?_
              refine m_iushr C dX1_spread_63 ?_
              refine m_iload_n C dX1_spread_64 1 rfl ?_
              refine m_bipush C (25 : Int32) dX1_spread_65 (by decide) ?_
              refine m_ishl C dX1_spread_67 ?_
              refine m_ior C dX1_spread_68 ?_
              refine m_iload_n C dX1_spread_69 1 rfl ?_
              refine m_bipush C (18 : Int32) dX1_spread_70 (by decide) ?_
              refine m_iushr C dX1_spread_72 ?_
              refine m_iload_n C dX1_spread_73 1 rfl ?_
              refine m_bipush C (14 : Int32) dX1_spread_74 (by decide) ?_
              refine m_ishl C dX1_spread_76 ?_
              refine m_ior C dX1_spread_77 ?_
              refine m_ixor C dX1_spread_78 ?_
              refine m_iload_n C dX1_spread_79 1 rfl ?_
              refine m_iconst C (3 : Int32) dX1_spread_80 (by decide) ?_
              refine m_iushr C dX1_spread_81 ?_
              refine m_ixor C dX1_spread_82 ?_
              refine m_name (fun x21 ex21 => ?_)
              refine m_istore C [(5, .int x21), (4, .int x20), (3, .int x18), (0, .ref (aL X 9)), (1, .int b), (2, .int x10)] dX1_spread_83 (by decide) rfl ?_
              refine m_iload C dX1_spread_85 1 rfl ?_
              refine m_bipush C (17 : Int32) dX1_spread_87 (by decide) ?_
              refine m_iushr C dX1_spread_89 ?_
              refine m_iload C dX1_spread_90 1 rfl ?_
              refine m_bipush C (15 : Int32) dX1_spread_92 (by decide) ?_
              refine m_ishl C dX1_spread_94 ?_
              refine m_ior C dX1_spread_95 ?_
              refine m_iload C dX1_spread_96 1 rfl ?_
              refine m_bipush C (19 : Int32) dX1_spread_98 (by decide) ?_
              refine m_iushr C dX1_spread_100 ?_
              refine m_iload C dX1_spread_101 1 rfl ?_
              refine m_bipush C (13 : Int32) dX1_spread_103 (by decide) ?_
              refine m_ishl C dX1_spread_105 ?_
              refine m_ior C dX1_spread_106 ?_
              refine m_ixor C dX1_spread_107 ?_
              refine m_iload C dX1_spread_108 1 rfl ?_
              refine m_bipush C (10 : Int32) dX1_spread_110 (by decide) ?_
              refine m_iushr C dX1_spread_112 ?_
              refine m_ixor C dX1_spread_113 ?_
              refine m_name (fun x22 ex22 => ?_)
              refine m_istore C [(6, .int x22), (5, .int x21), (4, .int x20), (3, .int x18), (0, .ref (aL X 9)), (1, .int b), (2, .int x10)] dX1_spread_114 (by decide) rfl ?_
              refine m_aload_n C dX1_spread_116 4 rfl ?_
              refine m_getr (rf := "") C 1 rfl gd1 (by decide) sh_9 rfl dX1_spread_117 lk_X1_15 ?_
              refine m_iload_n C dX1_spread_120 6 rfl ?_
              refine m_aload_n C dX1_spread_121 4 rfl ?_
              refine m_getr (rf := "") C 1 rfl gd1 (by decide) sh_9 rfl dX1_spread_122 lk_X1_15 ?_
              refine m_iload_n C dX1_spread_125 6 rfl ?_
              refine m_bipush C (16 : Int32) dX1_spread_126 (by decide) ?_
              refine m_isub C dX1_spread_128 ?_
              have t23 : (x10 - (16 : Int32)).toInt = x10.toInt - (16 : Int) := i_sub rfl (by decide) (by omega) (by omega)
              refine m_iald C sh_11 (i_in (by omega) (by omega)) dX1_spread_129 ?_
              refine m_iload C dX1_spread_130 1 rfl ?_
              refine m_iadd C dX1_spread_132 ?_
              refine m_aload_n C dX1_spread_133 4 rfl ?_
              refine m_getr (rf := "") C 1 rfl gd1 (by decide) sh_9 rfl dX1_spread_134 lk_X1_15 ?_
              refine m_iload_n C dX1_spread_137 6 rfl ?_
              refine m_bipush C (7 : Int32) dX1_spread_138 (by decide) ?_
              refine m_isub C dX1_spread_140 ?_
              have t24 : (x10 - (7 : Int32)).toInt = x10.toInt - (7 : Int) := i_sub rfl (by decide) (by omega) (by omega)
              refine m_iald C sh_11 (i_in (by omega) (by omega)) dX1_spread_141 ?_
              refine m_iadd C dX1_spread_142 ?_
              refine m_iload C dX1_spread_143 0 rfl ?_
              refine m_iadd C dX1_spread_145 ?_
              refine m_iast C sh_11 (i_in (by omega) (by omega)) dX1_spread_146 ?_
              refine m_mem (fun g25 eg25 => ?_)
              have hI26 : Inv g25 := by rw [eg25]; exact hI12.up (ok_any (by decide))
              have hK27 : Kp [11] g g25 := by rw [eg25]; exact Kp.up hK13 (by decide) (Or.inl (by decide)) (Or.inl (by decide))
              obtain ⟨x28, ex28⟩ : ∃ z : Int32, z = x10 + Int32.ofInt 1 := ⟨_, rfl⟩
              have t29 : (x10 + (Int32.ofInt 1)).toInt = x10.toInt + (1 : Int) := i_add rfl (by decide) (by omega) (by omega)
              have t30 : x28.toInt = (x10.toInt + (1 : Int)) := (congrArg Int32.toInt ex28).trans t29
              refine m_iinc C x28 [(2, .int x28), (6, .int x22), (5, .int x21), (4, .int x20), (3, .int x18), (0, .ref (aL X 9)), (1, .int b)] dX1_spread_147 (q := 6) rfl ex28.symm (by decide) rfl ?_
              refine m_goto C 34 dX1_spread_150 (by decide) ?_
              refine m_lv [5, 6, 0] rfl ?_
              exact ih34 x28 g25 (by omega) hI26 hK27 (by omega) (hs_sp2 eg25 ex18 ex20 ex21 ex22 (by omega) (by omega) (by omega) i15)
        have t31 : (16 : Int32).toInt = 16 := by decide
        refine m_lv [1, 2, 0] rfl ?_
        exact L34 (((65 - (16 : Int32).toInt).toNat) + 1) (16 : Int32) g3 (Nat.lt_succ_self _) hI4 hK5 (by omega) (hs_Sn16 i7 (by omega))
      · skip
        have th8 := i_nle h8
        rw [show (16 : Int32).toInt = 16 by decide] at th8
        refine m_aload_n C dX1_spread_8 0 rfl ?_
        refine m_getr (rf := "") C 1 rfl gd1 (by decide) sh_9 rfl dX1_spread_9 lk_X1_15 ?_
        refine m_iload_n C dX1_spread_12 2 rfl ?_
        refine m_aload_n C dX1_spread_13 0 rfl ?_
        refine m_getr (rf := "") C 0 rfl gd1 (by decide) sh_9 rfl dX1_spread_14 lk_X1_11 ?_
        refine m_iload_n C dX1_spread_17 1 rfl ?_
        refine m_bipush C (16 : Int32) dX1_spread_18 (by decide) ?_
        refine m_imul C dX1_spread_20 ?_
        refine m_iload_n C dX1_spread_21 2 rfl ?_
        refine m_iadd C dX1_spread_22 ?_
        have t32 : (b * (16 : Int32)).toInt = b.toInt * (16 : Int) := i_mul rfl (by decide) (by omega) (by omega)
        have t33 : ((b * (16 : Int32)) + x2).toInt = (b.toInt * (16 : Int)) + x2.toInt := i_add t32 rfl (by omega) (by omega)
        refine m_iald C sh_10 (i_in (by omega) (by omega)) dX1_spread_23 ?_
        refine m_iast C sh_11 (i_in (by omega) (by omega)) dX1_spread_24 ?_
        refine m_mem (fun g34 eg34 => ?_)
        have hI35 : Inv g34 := by rw [eg34]; exact hI4.up (ok_any (by decide))
        have hK36 : Kp [11] g g34 := by rw [eg34]; exact Kp.up hK5 (by decide) (Or.inl (by decide)) (Or.inl (by decide))
        obtain ⟨x37, ex37⟩ : ∃ z : Int32, z = x2 + Int32.ofInt 1 := ⟨_, rfl⟩
        have t38 : (x2 + (Int32.ofInt 1)).toInt = x2.toInt + (1 : Int) := i_add rfl (by decide) (by omega) (by omega)
        have t39 : x37.toInt = (x2.toInt + (1 : Int)) := (congrArg Int32.toInt ex37).trans t38
        refine m_iinc C x37 [(2, .int x37), (0, .ref (aL X 9)), (1, .int b)] dX1_spread_25 (q := 2) rfl ex37.symm (by decide) rfl ?_
        refine m_goto C 2 dX1_spread_28 (by decide) ?_
        refine m_lv [1, 2, 0] rfl ?_
        exact ih2 x37 g34 (by omega) hI35 hK36 (by omega) (hs_sp1 eg34 hb (hK36.1 10 (by decide)) (by omega) (by omega) i7)
  have t40 : (0 : Int32).toInt = 0 := by decide
  refine m_lv [1, 2, 0] rfl ?_
  exact L2 (((17 - (0 : Int32).toInt).toNat) + 1) (0 : Int32) g (Nat.lt_succ_self _) hI Kp.rf (by omega) hs_z
set_option maxRecDepth 20000 in
set_option maxHeartbeats 4000000 in
theorem c_X1_mix_e (l : Launch) {X : XT} (hX : Lok X) (g : Mem)  (hI : Inv g) : Ctr l X yX1_mix cX1_mix 14 none (rmD 0) [.ref (aL X 9)] g (pV (fun g2 => Inv g2 ∧ Kp [12] g g2 ∧ ∀ j, j < 8 → g2 12 j = hs_mx vR (g 11) (g 12) j)) := by
  refine Ctr.of (lv := [(0, .ref (aL X 9))]) hX (by decide) rfl (Nat.le_of_ble_eq_true rfl) ?_
  intro p e s m below meth c C
  refine m_aload_n C dX1_mix_0 0 rfl ?_
  refine m_getr (rf := "") C 2 rfl gd1 (by decide) sh_9 rfl dX1_mix_1 lk_X1_18 ?_
  refine m_iconst C (0 : Int32) dX1_mix_4 (by decide) ?_
  refine m_iald C sh_12 (i_in (by decide) (by decide)) dX1_mix_5 ?_
  refine m_name (fun x1 ex1 => ?_)
  refine m_istore_n C [(1, .int x1), (0, .ref (aL X 9))] dX1_mix_6 (by decide) rfl ?_
  refine m_aload_n C dX1_mix_7 1 rfl ?_
  refine m_getr (rf := "") C 2 rfl gd1 (by decide) sh_9 rfl dX1_mix_8 lk_X1_18 ?_
  refine m_iconst C (1 : Int32) dX1_mix_11 (by decide) ?_
  refine m_iald C sh_12 (i_in (by decide) (by decide)) dX1_mix_12 ?_
  refine m_name (fun x2 ex2 => ?_)
  refine m_istore_n C [(2, .int x2), (1, .int x1), (0, .ref (aL X 9))] dX1_mix_13 (by decide) rfl ?_
  refine m_aload_n C dX1_mix_14 2 rfl ?_
  refine m_getr (rf := "") C 2 rfl gd1 (by decide) sh_9 rfl dX1_mix_15 lk_X1_18 ?_
  refine m_iconst C (2 : Int32) dX1_mix_18 (by decide) ?_
  refine m_iald C sh_12 (i_in (by decide) (by decide)) dX1_mix_19 ?_
  refine m_name (fun x3 ex3 => ?_)
  refine m_istore_n C [(3, .int x3), (2, .int x2), (1, .int x1), (0, .ref (aL X 9))] dX1_mix_20 (by decide) rfl ?_
  refine m_aload_n C dX1_mix_21 3 rfl ?_
  refine m_getr (rf := "") C 2 rfl gd1 (by decide) sh_9 rfl dX1_mix_22 lk_X1_18 ?_
  refine m_iconst C (3 : Int32) dX1_mix_25 (by decide) ?_
  refine m_iald C sh_12 (i_in (by decide) (by decide)) dX1_mix_26 ?_
  refine m_name (fun x4 ex4 => ?_)
  refine m_istore C [(4, .int x4), (3, .int x3), (2, .int x2), (1, .int x1), (0, .ref (aL X 9))] dX1_mix_27 (by decide) rfl ?_
  refine m_aload_n C dX1_mix_29 4 rfl ?_
  refine m_getr (rf := "") C 2 rfl gd1 (by decide) sh_9 rfl dX1_mix_30 lk_X1_18 ?_
  refine m_iconst C (4 : Int32) dX1_mix_33 (by decide) ?_
  refine m_iald C sh_12 (i_in (by decide) (by decide)) dX1_mix_34 ?_
  refine m_name (fun x5 ex5 => ?_)
  refine m_istore C [(5, .int x5), (4, .int x4), (3, .int x3), (2, .int x2), (1, .int x1), (0, .ref (aL X 9))] dX1_mix_35 (by decide) rfl ?_
  refine m_aload_n C dX1_mix_37 5 rfl ?_
  refine m_getr (rf := "") C 2 rfl gd1 (by decide) sh_9 rfl dX1_mix_38 lk_X1_18 ?_
  refine m_iconst C (5 : Int32) dX1_mix_41 (by decide) ?_
  refine m_iald C sh_12 (i_in (by decide) (by decide)) dX1_mix_42 ?_
  refine m_name (fun x6 ex6 => ?_)
  refine m_istore C [(6, .int x6), (5, .int x5), (4, .int x4), (3, .int x3), (2, .int x2), (1, .int x1), (0, .ref (aL X 9))] dX1_mix_43 (by decide) rfl ?_
  refine m_aload_n C dX1_mix_45 6 rfl ?_
  refine m_getr (rf := "") C 2 rfl gd1 (by decide) sh_9 rfl dX1_mix_46 lk_X1_18 ?_
  refine m_bipush C (6 : Int32) dX1_mix_49 (by decide) ?_
  refine m_iald C sh_12 (i_in (by decide) (by decide)) dX1_mix_51 ?_
  refine m_name (fun x7 ex7 => ?_)
  refine m_istore C [(7, .int x7), (6, .int x6), (5, .int x5), (4, .int x4), (3, .int x3), (2, .int x2), (1, .int x1), (0, .ref (aL X 9))] dX1_mix_52 (by decide) rfl ?_
  refine m_aload_n C dX1_mix_54 7 rfl ?_
  refine m_getr (rf := "") C 2 rfl gd1 (by decide) sh_9 rfl dX1_mix_55 lk_X1_18 ?_
  refine m_bipush C (7 : Int32) dX1_mix_58 (by decide) ?_
  refine m_iald C sh_12 (i_in (by decide) (by decide)) dX1_mix_60 ?_
  refine m_name (fun x8 ex8 => ?_)
  refine m_istore C [(8, .int x8), (7, .int x7), (6, .int x6), (5, .int x5), (4, .int x4), (3, .int x3), (2, .int x2), (1, .int x1), (0, .ref (aL X 9))] dX1_mix_61 (by decide) rfl ?_
  refine m_iconst C (0 : Int32) dX1_mix_63 (by decide) ?_
  refine m_istore C [(9, .int (0 : Int32)), (8, .int x8), (7, .int x7), (6, .int x6), (5, .int x5), (4, .int x4), (3, .int x3), (2, .int x2), (1, .int x1), (0, .ref (aL X 9))] dX1_mix_64 (by decide) rfl ?_
  have L66 : ∀ (n66 : Nat) (x10 : Int32) (x11 : Int32) (x12 : Int32) (x13 : Int32) (x14 : Int32) (x15 : Int32) (x16 : Int32) (x17 : Int32) (x18 : Int32) (g19 : Mem), (65 - x18.toInt).toNat < n66 → Inv g19 → Kp [12] g g19 → 0 ≤ x18.toInt ∧ x18.toInt ≤ 64 → (x10, x11, x12, x13, x14, x15, x16, x17) = hs_rn vR (g 11) (hs_t8 (g 12)) x18.toNatClampNeg → g19 12 = g 12 → Wm X p l e (rmD 0) s m ([.ref (aL X 9)] : List Value).toArray below meth c 14 0 0 (MQ below (cQ X (pV (fun g2 => Inv g2 ∧ Kp [12] g g2 ∧ ∀ j, j < 8 → g2 12 j = hs_mx vR (g 11) (g 12) j))) ([.ref (aL X 9)] : List Value).toArray s 0 0 (Ab X)) g19 66 [(0, .ref (aL X 9)), (1, .int x10), (2, .int x11), (3, .int x12), (4, .int x13), (5, .int x14), (6, .int x15), (7, .int x16), (8, .int x17), (9, .int x18)] [] := by
    intro n66
    induction n66 with
    | zero => intro x10 x11 x12 x13 x14 x15 x16 x17 x18 g19 hm; exact absurd hm (Nat.not_lt_zero _)
    | succ n66 ih66 =>
      intro x10 x11 x12 x13 x14 x15 x16 x17 x18 g19 hm66 hI20 hK21 i22 i23 i24
      obtain ⟨i22a, i22b⟩ := i22
      refine m_iload C dX1_mix_66 9 rfl ?_
      refine m_bipush C (64 : Int32) dX1_mix_68 (by decide) ?_
      refine m_icmp_ge C 230 dX1_mix_70 (by decide) (fun h25 => ?_) (fun h25 => ?_)
      · skip
        have th25 := i_le h25
        rw [show (64 : Int32).toInt = 64 by decide] at th25
        refine m_aload_n C dX1_mix_230 0 rfl ?_
        refine m_getr (rf := "") C 2 rfl gd1 (by decide) sh_9 rfl dX1_mix_231 lk_X1_18 ?_
        refine m_iconst C (0 : Int32) dX1_mix_234 (by decide) ?_
        refine m_dup2 C dX1_mix_235 rfl rfl ?_
        refine m_iald C sh_12 (i_in (by decide) (by decide)) dX1_mix_236 ?_
        refine m_iload_n C dX1_mix_237 1 rfl ?_
        refine m_iadd C dX1_mix_238 ?_
        refine m_iast C sh_12 (i_in (by decide) (by decide)) dX1_mix_239 ?_
        refine m_mem (fun g26 eg26 => ?_)
        have hI27 : Inv g26 := by rw [eg26]; exact hI20.up (ok_any (by decide))
        have hK28 : Kp [12] g g26 := by rw [eg26]; exact Kp.up hK21 (by decide) (Or.inl (by decide)) (Or.inl (by decide))
        refine m_aload_n C dX1_mix_240 0 rfl ?_
        refine m_getr (rf := "") C 2 rfl gd1 (by decide) sh_9 rfl dX1_mix_241 lk_X1_18 ?_
        refine m_iconst C (1 : Int32) dX1_mix_244 (by decide) ?_
        refine m_dup2 C dX1_mix_245 rfl rfl ?_
        refine m_iald C sh_12 (i_in (by decide) (by decide)) dX1_mix_246 ?_
        refine m_iload_n C dX1_mix_247 2 rfl ?_
        refine m_iadd C dX1_mix_248 ?_
        refine m_iast C sh_12 (i_in (by decide) (by decide)) dX1_mix_249 ?_
        refine m_mem (fun g29 eg29 => ?_)
        have hI30 : Inv g29 := by rw [eg29]; exact hI27.up (ok_any (by decide))
        have hK31 : Kp [12] g g29 := by rw [eg29]; exact Kp.up hK28 (by decide) (Or.inl (by decide)) (Or.inl (by decide))
        refine m_aload_n C dX1_mix_250 0 rfl ?_
        refine m_getr (rf := "") C 2 rfl gd1 (by decide) sh_9 rfl dX1_mix_251 lk_X1_18 ?_
        refine m_iconst C (2 : Int32) dX1_mix_254 (by decide) ?_
        refine m_dup2 C dX1_mix_255 rfl rfl ?_
        refine m_iald C sh_12 (i_in (by decide) (by decide)) dX1_mix_256 ?_
        refine m_iload_n C dX1_mix_257 3 rfl ?_
        refine m_iadd C dX1_mix_258 ?_
        refine m_iast C sh_12 (i_in (by decide) (by decide)) dX1_mix_259 ?_
        refine m_mem (fun g32 eg32 => ?_)
        have hI33 : Inv g32 := by rw [eg32]; exact hI30.up (ok_any (by decide))
        have hK34 : Kp [12] g g32 := by rw [eg32]; exact Kp.up hK31 (by decide) (Or.inl (by decide)) (Or.inl (by decide))
        refine m_aload_n C dX1_mix_260 0 rfl ?_
        refine m_getr (rf := "") C 2 rfl gd1 (by decide) sh_9 rfl dX1_mix_261 lk_X1_18 ?_
        refine m_iconst C (3 : Int32) dX1_mix_264 (by decide) ?_
        refine m_dup2 C dX1_mix_265 rfl rfl ?_
        refine m_iald C sh_12 (i_in (by decide) (by decide)) dX1_mix_266 ?_
        refine m_iload C dX1_mix_267 4 rfl ?_
        refine m_iadd C dX1_mix_269 ?_
        refine m_iast C sh_12 (i_in (by decide) (by decide)) dX1_mix_270 ?_
        refine m_mem (fun g35 eg35 => ?_)
        have hI36 : Inv g35 := by rw [eg35]; exact hI33.up (ok_any (by decide))
        have hK37 : Kp [12] g g35 := by rw [eg35]; exact Kp.up hK34 (by decide) (Or.inl (by decide)) (Or.inl (by decide))
        refine m_aload_n C dX1_mix_271 0 rfl ?_
        refine m_getr (rf := "") C 2 rfl gd1 (by decide) sh_9 rfl dX1_mix_272 lk_X1_18 ?_
        refine m_iconst C (4 : Int32) dX1_mix_275 (by decide) ?_
        refine m_dup2 C dX1_mix_276 rfl rfl ?_
        refine m_iald C sh_12 (i_in (by decide) (by decide)) dX1_mix_277 ?_
        refine m_iload C dX1_mix_278 5 rfl ?_
        refine m_iadd C dX1_mix_280 ?_
        refine m_iast C sh_12 (i_in (by decide) (by decide)) dX1_mix_281 ?_
        refine m_mem (fun g38 eg38 => ?_)
        have hI39 : Inv g38 := by rw [eg38]; exact hI36.up (ok_any (by decide))
        have hK40 : Kp [12] g g38 := by rw [eg38]; exact Kp.up hK37 (by decide) (Or.inl (by decide)) (Or.inl (by decide))
        refine m_aload_n C dX1_mix_282 0 rfl ?_
        refine m_getr (rf := "") C 2 rfl gd1 (by decide) sh_9 rfl dX1_mix_283 lk_X1_18 ?_
        refine m_iconst C (5 : Int32) dX1_mix_286 (by decide) ?_
        refine m_dup2 C dX1_mix_287 rfl rfl ?_
        refine m_iald C sh_12 (i_in (by decide) (by decide)) dX1_mix_288 ?_
        refine m_iload C dX1_mix_289 6 rfl ?_
        refine m_iadd C dX1_mix_291 ?_
        refine m_iast C sh_12 (i_in (by decide) (by decide)) dX1_mix_292 ?_
        refine m_mem (fun g41 eg41 => ?_)
        have hI42 : Inv g41 := by rw [eg41]; exact hI39.up (ok_any (by decide))
        have hK43 : Kp [12] g g41 := by rw [eg41]; exact Kp.up hK40 (by decide) (Or.inl (by decide)) (Or.inl (by decide))
        refine m_aload_n C dX1_mix_293 0 rfl ?_
        refine m_getr (rf := "") C 2 rfl gd1 (by decide) sh_9 rfl dX1_mix_294 lk_X1_18 ?_
        refine m_bipush C (6 : Int32) dX1_mix_297 (by decide) ?_
        refine m_dup2 C dX1_mix_299 rfl rfl ?_
        refine m_iald C sh_12 (i_in (by decide) (by decide)) dX1_mix_300 ?_
        refine m_iload C dX1_mix_301 7 rfl ?_
        refine m_iadd C dX1_mix_303 ?_
        refine m_iast C sh_12 (i_in (by decide) (by decide)) dX1_mix_304 ?_
        refine m_mem (fun g44 eg44 => ?_)
        have hI45 : Inv g44 := by rw [eg44]; exact hI42.up (ok_any (by decide))
        have hK46 : Kp [12] g g44 := by rw [eg44]; exact Kp.up hK43 (by decide) (Or.inl (by decide)) (Or.inl (by decide))
        refine m_aload_n C dX1_mix_305 0 rfl ?_
        refine m_getr (rf := "") C 2 rfl gd1 (by decide) sh_9 rfl dX1_mix_306 lk_X1_18 ?_
        refine m_bipush C (7 : Int32) dX1_mix_309 (by decide) ?_
        refine m_dup2 C dX1_mix_311 rfl rfl ?_
        refine m_iald C sh_12 (i_in (by decide) (by decide)) dX1_mix_312 ?_
        refine m_iload C dX1_mix_313 8 rfl ?_
        refine m_iadd C dX1_mix_315 ?_
        refine m_iast C sh_12 (i_in (by decide) (by decide)) dX1_mix_316 ?_
        refine m_mem (fun g47 eg47 => ?_)
        have hI48 : Inv g47 := by rw [eg47]; exact hI45.up (ok_any (by decide))
        have hK49 : Kp [12] g g47 := by rw [eg47]; exact Kp.up hK46 (by decide) (Or.inl (by decide)) (Or.inl (by decide))
        exact m_vret C dX1_mix_317 ⟨rfl, hI48, hK49, (hs_mf eg26 eg29 eg32 eg35 eg38 eg41 eg44 eg47 i24 i23 (by omega)).1⟩
      · skip
        have th25 := i_nle h25
        rw [show (64 : Int32).toInt = 64 by decide] at th25
        refine m_iload C dX1_mix_73 5 rfl ?_
        refine m_bipush C (6 : Int32) dX1_mix_75 (by decide) ?_
        refine m_iushr C dX1_mix_77 ?_
        refine m_iload C dX1_mix_78 5 rfl ?_
        refine m_bipush C (26 : Int32) dX1_mix_80 (by decide) ?_
        refine m_ishl C dX1_mix_82 ?_
        refine m_ior C dX1_mix_83 ?_
        refine m_iload C dX1_mix_84 5 rfl ?_
        refine m_bipush C (11 : Int32) dX1_mix_86 (by decide) ?_
        refine m_iushr C dX1_mix_88 ?_
        refine m_iload C dX1_mix_89 5 rfl ?_
        refine m_bipush C (21 : Int32) dX1_mix_91 (by decide) ?_
        refine m_ishl C dX1_mix_93 ?_
        refine m_ior C dX1_mix_94 ?_
        refine m_ixor C dX1_mix_95 ?_
        refine m_iload C dX1_mix_96 5 rfl ?_
        refine m_bipush C (25 : Int32) dX1_mix_98 (by decide) ?_
        refine m_iushr C dX1_mix_100 ?_
        refine m_iload C dX1_mix_101 5 rfl ?_
        refine m_bipush C (7 : Int32) dX1_mix_103 (by decide) ?_
        refine m_ishl C dX1_mix_105 ?_
        refine m_ior C dX1_mix_106 ?_
        refine m_ixor C dX1_mix_107 ?_
        refine m_name (fun x50 ex50 => ?_)
        refine m_istore C [(10, .int x50), (0, .ref (aL X 9)), (1, .int x10), (2, .int x11), (3, .int x12), (4, .int x13), (5, .int x14), (6, .int x15), (7, .int x16), (8, .int x17), (9, .int x18)] dX1_mix_108 (by decide) rfl ?_
        refine m_iload C dX1_mix_110 9 rfl ?_
        refine m_iload C dX1_mix_112 0 rfl ?_
        refine m_iadd C dX1_mix_114 ?_
        refine m_iload C dX1_mix_115 6 rfl ?_
        refine m_iload C dX1_mix_117 7 rfl ?_
        refine m_iand C dX1_mix_119 ?_
        refine m_iload C dX1_mix_120 6 rfl ?_
        refine m_iconst C (-1 : Int32) dX1_mix_122 (by decide) ?_
        refine m_ixor C dX1_mix_123 ?_
        refine m_iload C dX1_mix_124 8 rfl ?_
        refine m_iand C dX1_mix_126 ?_
        refine m_ixor C dX1_mix_127 ?_
        refine m_iadd C dX1_mix_128 ?_
        refine m_statR (host := "AuditVault") C dX1_mix_129 (by decide +kernel) ?_
        refine m_iload C dX1_mix_132 10 rfl ?_
        refine m_tldR C (i_in (by omega) (by omega)) dX1_mix_134 ?_
        refine m_iadd C dX1_mix_135 ?_
        refine m_aload_n C dX1_mix_136 1 rfl ?_
        refine m_getr (rf := "") C 1 rfl gd1 (by decide) sh_9 rfl dX1_mix_137 lk_X1_15 ?_
        refine m_iload C dX1_mix_140 10 rfl ?_
        refine m_iald C sh_11 (i_in (by omega) (by omega)) dX1_mix_142 ?_
        refine m_iadd C dX1_mix_143 ?_
        refine m_name (fun x51 ex51 => ?_)
        refine m_istore C [(11, .int x51), (10, .int x50), (0, .ref (aL X 9)), (1, .int x10), (2, .int x11), (3, .int x12), (4, .int x13), (5, .int x14), (6, .int x15), (7, .int x16), (8, .int x17), (9, .int x18)] dX1_mix_144 (by decide) rfl ?_
        refine m_iload_n C dX1_mix_146 3 rfl ?_
        refine m_iconst C (2 : Int32) dX1_mix_147 (by decide) ?_
        refine m_iushr C dX1_mix_148 ?_
        refine m_iload_n C dX1_mix_149 3 rfl ?_
        refine m_bipush C (30 : Int32) dX1_mix_150 (by decide) ?_
        refine m_ishl C dX1_mix_152 ?_
        refine m_ior C dX1_mix_153 ?_
        refine m_iload_n C dX1_mix_154 3 rfl ?_
        refine m_bipush C (13 : Int32) dX1_mix_155 (by decide) ?_
        refine m_iushr C dX1_mix_157 ?_
        refine m_iload_n C dX1_mix_158 3 rfl ?_
        refine m_bipush C (19 : Int32) dX1_mix_159 (by decide) ?_
        refine m_ishl C dX1_mix_161 ?_
        refine m_ior C dX1_mix_162 ?_
        refine m_ixor C dX1_mix_163 ?_
        refine m_iload_n C dX1_mix_164 3 rfl ?_
        refine m_bipush C (22 : Int32) dX1_mix_165 (by decide) ?_
        refine m_iushr C dX1_mix_167 ?_
        refine m_iload_n C dX1_mix_168 3 rfl ?_
        refine m_bipush C (10 : Int32) dX1_mix_169 (by decide) ?_
        refine m_ishl C dX1_mix_171 ?_
        refine m_ior C dX1_mix_172 ?_
        refine m_ixor C dX1_mix_173 ?_
        refine m_name (fun x52 ex52 => ?_)
        refine m_istore C [(12, .int x52), (11, .int x51), (10, .int x50), (0, .ref (aL X 9)), (1, .int x10), (2, .int x11), (3, .int x12), (4, .int x13), (5, .int x14), (6, .int x15), (7, .int x16), (8, .int x17), (9, .int x18)] dX1_mix_174 (by decide) rfl ?_
        refine m_iload C dX1_mix_176 0 rfl ?_
        refine m_iload_n C dX1_mix_178 4 rfl ?_
        refine m_iload_n C dX1_mix_179 5 rfl ?_
        refine m_iand C dX1_mix_180 ?_
        refine m_iload_n C dX1_mix_181 4 rfl ?_
        refine m_iload_n C dX1_mix_182 6 rfl ?_
        refine m_iand C dX1_mix_183 ?_
        refine m_ixor C dX1_mix_184 ?_
        refine m_iload_n C dX1_mix_185 5 rfl ?_
        refine m_iload_n C dX1_mix_186 6 rfl ?_
        refine m_iand C dX1_mix_187 ?_
        refine m_ixor C dX1_mix_188 ?_
        refine m_iadd C dX1_mix_189 ?_
        refine m_name (fun x53 ex53 => ?_)
        refine m_istore C [(13, .int x53), (12, .int x52), (11, .int x51), (10, .int x50), (0, .ref (aL X 9)), (1, .int x10), (2, .int x11), (3, .int x12), (4, .int x13), (5, .int x14), (6, .int x15), (7, .int x16), (8, .int x17), (9, .int x18)] dX1_mix_190 (by decide) rfl ?_
        refine m_iload C dX1_mix_192 11 rfl ?_
        refine m_istore C [(8, .int x16), (13, .int x53), (12, .int x52), (11, .int x51), (10, .int x50), (0, .ref (aL X 9)), (1, .int x10), (2, .int x11), (3, .int x12), (4, .int x13), (5, .int x14), (6, .int x15), (7, .int x16), (9, .int x18)] dX1_mix_194 (by decide) rfl ?_
        refine m_iload C dX1_mix_196 11 rfl ?_
        refine m_istore C [(7, .int x15), (8, .int x16), (13, .int x53), (12, .int x52), (11, .int x51), (10, .int x50), (0, .ref (aL X 9)), (1, .int x10), (2, .int x11), (3, .int x12), (4, .int x13), (5, .int x14), (6, .int x15), (9, .int x18)] dX1_mix_198 (by decide) rfl ?_
        refine m_iload C dX1_mix_200 11 rfl ?_
        refine m_istore C [(6, .int x14), (7, .int x15), (8, .int x16), (13, .int x53), (12, .int x52), (11, .int x51), (10, .int x50), (0, .ref (aL X 9)), (1, .int x10), (2, .int x11), (3, .int x12), (4, .int x13), (5, .int x14), (9, .int x18)] dX1_mix_202 (by decide) rfl ?_
        refine m_iload C dX1_mix_204 11 rfl ?_
        refine m_iload C dX1_mix_206 5 rfl ?_
        refine m_iadd C dX1_mix_208 ?_
        refine m_name (fun x57 ex57 => ?_)
        refine m_istore C [(5, .int x57), (6, .int x14), (7, .int x15), (8, .int x16), (13, .int x53), (12, .int x52), (11, .int x51), (10, .int x50), (0, .ref (aL X 9)), (1, .int x10), (2, .int x11), (3, .int x12), (4, .int x13), (9, .int x18)] dX1_mix_209 (by decide) rfl ?_
        refine m_iload_n C dX1_mix_211 11 rfl ?_
        refine m_istore C [(4, .int x12), (5, .int x57), (6, .int x14), (7, .int x15), (8, .int x16), (13, .int x53), (12, .int x52), (11, .int x51), (10, .int x50), (0, .ref (aL X 9)), (1, .int x10), (2, .int x11), (3, .int x12), (9, .int x18)] dX1_mix_212 (by decide) rfl ?_
        refine m_iload_n C dX1_mix_214 11 rfl ?_
        refine m_istore_n C [(3, .int x11), (4, .int x12), (5, .int x57), (6, .int x14), (7, .int x15), (8, .int x16), (13, .int x53), (12, .int x52), (11, .int x51), (10, .int x50), (0, .ref (aL X 9)), (1, .int x10), (2, .int x11), (9, .int x18)] dX1_mix_215 (by decide) rfl ?_
        refine m_iload_n C dX1_mix_216 11 rfl ?_
        refine m_istore_n C [(2, .int x10), (3, .int x11), (4, .int x12), (5, .int x57), (6, .int x14), (7, .int x15), (8, .int x16), (13, .int x53), (12, .int x52), (11, .int x51), (10, .int x50), (0, .ref (aL X 9)), (1, .int x10), (9, .int x18)] dX1_mix_217 (by decide) rfl ?_
        refine m_iload C dX1_mix_218 9 rfl ?_
        refine m_iload C dX1_mix_220 7 rfl ?_
        refine m_iadd C dX1_mix_222 ?_
        refine m_name (fun x61 ex61 => ?_)
        refine m_istore_n C [(1, .int x61), (2, .int x10), (3, .int x11), (4, .int x12), (5, .int x57), (6, .int x14), (7, .int x15), (8, .int x16), (13, .int x53), (12, .int x52), (11, .int x51), (10, .int x50), (0, .ref (aL X 9)), (9, .int x18)] dX1_mix_223 (by decide) rfl ?_
        obtain ⟨x62, ex62⟩ : ∃ z : Int32, z = x18 + Int32.ofInt 1 := ⟨_, rfl⟩
        have t63 : (x18 + (Int32.ofInt 1)).toInt = x18.toInt + (1 : Int) := i_add rfl (by decide) (by omega) (by omega)
        have t64 : x62.toInt = (x18.toInt + (1 : Int)) := (congrArg Int32.toInt ex62).trans t63
        refine m_iinc C x62 [(9, .int x62), (1, .int x61), (2, .int x10), (3, .int x11), (4, .int x12), (5, .int x57), (6, .int x14), (7, .int x15), (8, .int x16), (13, .int x53), (12, .int x52), (11, .int x51), (10, .int x50), (0, .ref (aL X 9))] dX1_mix_224 (q := 13) rfl ex62.symm (by decide) rfl ?_
        refine m_goto C 66 dX1_mix_227 (by decide) ?_
        refine m_lv [13, 1, 2, 3, 4, 5, 6, 7, 8, 0] rfl ?_
        exact ih66 x61 x10 x11 x12 x57 x14 x15 x16 x62 g19 (by omega) hI20 hK21 (by omega) (hs_ms ex50 ex51 ex52 ex53 ex57 ex61 (hK21.1 11 (by decide)) (by omega) (by omega) i23) i24
  have t65 : (0 : Int32).toInt = 0 := by decide
  refine m_lv [9, 8, 7, 6, 5, 4, 3, 2, 1, 0] rfl ?_
  exact L66 (((65 - (0 : Int32).toInt).toNat) + 1) x1 x2 x3 x4 x5 x6 x7 x8 (0 : Int32) g (Nat.lt_succ_self _) hI Kp.rf (by omega) (hs_mi rfl ex1 ex2 ex3 ex4 ex5 ex6 ex7 ex8) rfl
set_option maxRecDepth 20000 in
set_option maxHeartbeats 4000000 in
theorem c_X1_finish_e (l : Launch) {X : XT} (hX : Lok X) (g : Mem) (t : Int32) (b : Nat → Int32) (n : Int32) (hI : Inv g) (hn : 0 ≤ n.toInt ∧ n.toInt ≤ 16) (hl : (g 9 3).toInt = n.toInt) (hm : hs_Ms b n.toNatClampNeg (g 10)) (hb1 : b n.toNatClampNeg = 128) (hb2 : ∀ j, n.toNatClampNeg < j → b j = 0) (ht : t = 0) : Ctr l X yX1_finish cX1_finish 6 none (rmD 2) [.ref (aL X 9), .ref (aL X 32), .int t] g (pV (fun g2 => Inv g2 ∧ Kp [9, 10, 11, 12, 33] g g2 ∧ hs_Fq b n (g2 33))) := by
  refine Ctr.of (lv := [(0, .ref (aL X 9)), (1, .ref (aL X 32)), (2, .int t)]) hX (by decide) rfl (Nat.le_of_ble_eq_true rfl) ?_
  intro p e s m below meth c C
  have ht2 : t.toInt = 0 := by rw [ht]; decide
  refine m_aload_n C dX1_finish_0 0 rfl ?_
  refine m_geti (rf := "") C 3 rfl gd1 (by decide) sh_9 rfl dX1_finish_1 lk_X1_21 ?_
  have r1 := iv_hlen hI
  refine m_bipush C (8 : Int32) dX1_finish_4 (by decide) ?_
  refine m_imul C dX1_finish_6 ?_
  refine m_name (fun x2 ex2 => ?_)
  have t3 : ((g 9 3) * (8 : Int32)).toInt = (g 9 3).toInt * (8 : Int) := i_mul rfl (by decide) (by omega) (by omega)
  have t4 : x2.toInt = ((g 9 3).toInt * (8 : Int)) := (congrArg Int32.toInt ex2).trans t3
  refine m_istore_n C [(3, .int x2), (0, .ref (aL X 9)), (1, .ref (aL X 32)), (2, .int t)] dX1_finish_7 (by decide) rfl ?_
  refine m_aload_n C dX1_finish_8 1 rfl ?_
  refine m_geti (rf := "") C 3 rfl gd1 (by decide) sh_9 rfl dX1_finish_9 lk_X1_21 ?_
  have r5 := iv_hlen hI
  refine m_bipush C (9 : Int32) dX1_finish_12 (by decide) ?_
  refine m_iadd C dX1_finish_14 ?_
  refine m_bipush C (64 : Int32) dX1_finish_15 (by decide) ?_
  have t6 : ((g 9 3) + (9 : Int32)).toInt = (g 9 3).toInt + (9 : Int) := i_add rfl (by decide) (by omega) (by omega)
  refine m_icmp_gt C 24 dX1_finish_17 (by decide) (fun h7 => ?_) (fun h7 => ?_)
  · skip
    have th7 := i_lt h7
    rw [show (64 : Int32).toInt = 64 by decide] at th7
    exact False.elim (by omega)
  · skip
    have th7 := i_nlt h7
    rw [show (64 : Int32).toInt = 64 by decide] at th7
    refine m_iconst C (1 : Int32) dX1_finish_20 (by decide) ?_
    refine m_goto C 25 dX1_finish_21 (by decide) ?_
    refine m_istore C [(4, .int (1 : Int32)), (3, .int x2), (0, .ref (aL X 9)), (1, .ref (aL X 32)), (2, .int t)] dX1_finish_25 (by decide) rfl ?_
    refine m_aload_n C dX1_finish_27 2 rfl ?_
    refine m_sipush C (128 : Int32) dX1_finish_28 (by decide) ?_
    have t9 : (128 : Int32).toInt = 128 := by decide
    refine m_invV C cal_X1_add sh_9 rfl (c_X1_add_e l hX g (128 : Int32) hI (by omega)) lk_X1_31 im_X1_add se_X1_add (by decide) rfl rfl (Nat.le_of_ble_eq_true rfl) dX1_finish_31 ⟨Nat.le_refl _, Nat.le_refl _⟩ (rV fun g11 q12 => ?_)
    obtain ⟨hI13, hK14, ⟨p15a, p15b⟩⟩ := q12
    have hK16 : Kp [9, 10, 11, 12, 33] g g11 := (Kp.rf).tr hK14 (by decide)
    refine m_aload_n C dX1_finish_34 2 rfl ?_
    refine m_geti (rf := "") C 3 rfl gd1 (by decide) sh_9 rfl dX1_finish_35 lk_X1_21 ?_
    have r17 := iv_hlen hI13
    refine m_name (fun x18 ex18 => ?_)
    have t19 : x18.toInt = (g11 9 3).toInt := (congrArg Int32.toInt ex18).trans rfl
    refine m_istore C [(5, .int x18), (4, .int (1 : Int32)), (3, .int x2), (0, .ref (aL X 9)), (1, .ref (aL X 32)), (2, .int t)] dX1_finish_38 (by decide) rfl ?_
    have L40 : ∀ (n40 : Nat) (x20 : Int32) (g21 : Mem), (200 - x20.toInt).toNat < n40 → Inv g21 → Kp [9, 10, 11, 12, 33] g g21 → n.toInt + 1 ≤ x20.toInt ∧ x20.toInt ≤ 60 → (g21 9 3).toInt = x20.toInt → hs_Ms b x20.toNatClampNeg (g21 10) → Wm X p l e (rmD 2) s m ([.ref (aL X 9), .ref (aL X 32), .int t] : List Value).toArray below meth c 6 0 0 (MQ below (cQ X (pV (fun g2 => Inv g2 ∧ Kp [9, 10, 11, 12, 33] g g2 ∧ hs_Fq b n (g2 33)))) ([.ref (aL X 9), .ref (aL X 32), .int t] : List Value).toArray s 0 0 (Ab X)) g21 40 [(0, .ref (aL X 9)), (1, .ref (aL X 32)), (2, .int t), (3, .int x2), (4, .int (1 : Int32)), (5, .int x20)] [] := by
      intro n40
      induction n40 with
      | zero => intro x20 g21 hm; exact absurd hm (Nat.not_lt_zero _)
      | succ n40 ih40 =>
        intro x20 g21 hm40 hI22 hK23 i24 i25 i26
        obtain ⟨i24a, i24b⟩ := i24
        refine m_iload C dX1_finish_40 5 rfl ?_
        refine m_iload C dX1_finish_42 4 rfl ?_
        refine m_bipush C (64 : Int32) dX1_finish_44 (by decide) ?_
        refine m_imul C dX1_finish_46 ?_
        refine m_iconst C (4 : Int32) dX1_finish_47 (by decide) ?_
        refine m_isub C dX1_finish_48 ?_
        have t27 : ((1 : Int32) * (64 : Int32)).toInt = (1 : Int) * (64 : Int) := i_mul (by decide) (by decide) (by omega) (by omega)
        have t28 : (((1 : Int32) * (64 : Int32)) - (4 : Int32)).toInt = ((1 : Int) * (64 : Int)) - (4 : Int) := i_sub t27 (by decide) (by omega) (by omega)
        refine m_icmp_ge C 63 dX1_finish_49 (by decide) (fun h29 => ?_) (fun h29 => ?_)
        · skip
          have th29 := i_le h29
          refine m_aload_n C dX1_finish_63 0 rfl ?_
          refine m_getr (rf := "") C 0 rfl gd1 (by decide) sh_9 rfl dX1_finish_64 lk_X1_11 ?_
          refine m_iload C dX1_finish_67 4 rfl ?_
          refine m_bipush C (16 : Int32) dX1_finish_69 (by decide) ?_
          refine m_imul C dX1_finish_71 ?_
          refine m_iconst C (1 : Int32) dX1_finish_72 (by decide) ?_
          refine m_isub C dX1_finish_73 ?_
          refine m_iload_n C dX1_finish_74 3 rfl ?_
          have t30 : ((1 : Int32) * (16 : Int32)).toInt = (1 : Int) * (16 : Int) := i_mul (by decide) (by decide) (by omega) (by omega)
          have t31 : (((1 : Int32) * (16 : Int32)) - (1 : Int32)).toInt = ((1 : Int) * (16 : Int)) - (1 : Int) := i_sub t30 (by decide) (by omega) (by omega)
          refine m_iast C sh_10 (i_in (by omega) (by omega)) dX1_finish_75 ?_
          refine m_mem (fun g32 eg32 => ?_)
          have hI33 : Inv g32 := by rw [eg32]; exact hI22.up (ok_any (by decide))
          have hK34 : Kp [9, 10, 11, 12, 33] g g32 := by rw [eg32]; exact Kp.up hK23 (by decide) (Or.inl (by decide)) (Or.inl (by decide))
          refine m_iconst C (0 : Int32) dX1_finish_76 (by decide) ?_
          refine m_istore C [(5, .int (0 : Int32)), (0, .ref (aL X 9)), (1, .ref (aL X 32)), (2, .int t), (3, .int x2), (4, .int (1 : Int32))] dX1_finish_77 (by decide) rfl ?_
          have L79 : ∀ (n79 : Nat) (x36 : Int32) (g37 : Mem), (9 - x36.toInt).toNat < n79 → Inv g37 → Kp [9, 10, 11, 12, 33] g g37 → 0 ≤ x36.toInt ∧ x36.toInt ≤ 8 → (∀ t, t < x36.toNatClampNeg → g37 12 t = vS t) → hs_Mq b n (g37 10) → Wm X p l e (rmD 2) s m ([.ref (aL X 9), .ref (aL X 32), .int t] : List Value).toArray below meth c 6 0 0 (MQ below (cQ X (pV (fun g2 => Inv g2 ∧ Kp [9, 10, 11, 12, 33] g g2 ∧ hs_Fq b n (g2 33)))) ([.ref (aL X 9), .ref (aL X 32), .int t] : List Value).toArray s 0 0 (Ab X)) g37 79 [(0, .ref (aL X 9)), (1, .ref (aL X 32)), (2, .int t), (3, .int x2), (4, .int (1 : Int32)), (5, .int x36)] [] := by
            intro n79
            induction n79 with
            | zero => intro x36 g37 hm; exact absurd hm (Nat.not_lt_zero _)
            | succ n79 ih79 =>
              intro x36 g37 hm79 hI38 hK39 i40 i41 i42
              obtain ⟨i40a, i40b⟩ := i40
              refine m_iload C dX1_finish_79 5 rfl ?_
              refine m_bipush C (8 : Int32) dX1_finish_81 (by decide) ?_
              refine m_icmp_ge C 105 dX1_finish_83 (by decide) (fun h43 => ?_) (fun h43 => ?_)
              · skip
                have th43 := i_le h43
                rw [show (8 : Int32).toInt = 8 by decide] at th43
                refine m_iconst C (0 : Int32) dX1_finish_105 (by decide) ?_
                refine m_istore C [(5, .int (0 : Int32)), (0, .ref (aL X 9)), (1, .ref (aL X 32)), (2, .int t), (3, .int x2), (4, .int (1 : Int32))] dX1_finish_106 (by decide) rfl ?_
                have L108 : ∀ (n108 : Nat) (x45 : Int32) (g46 : Mem), (3 - x45.toInt).toNat < n108 → Inv g46 → Kp [9, 10, 11, 12, 33] g g46 → 0 ≤ x45.toInt ∧ x45.toInt ≤ 1 → (x45.toInt = 0 → hs_Mq b n (g46 10)) → (x45.toInt = 0 → hs_Vq (g46 12)) → (x45.toInt = 1 → hs_Fq b n (g46 12)) → Wm X p l e (rmD 2) s m ([.ref (aL X 9), .ref (aL X 32), .int t] : List Value).toArray below meth c 6 0 0 (MQ below (cQ X (pV (fun g2 => Inv g2 ∧ Kp [9, 10, 11, 12, 33] g g2 ∧ hs_Fq b n (g2 33)))) ([.ref (aL X 9), .ref (aL X 32), .int t] : List Value).toArray s 0 0 (Ab X)) g46 108 [(0, .ref (aL X 9)), (1, .ref (aL X 32)), (2, .int t), (3, .int x2), (4, .int (1 : Int32)), (5, .int x45)] [] := by
                  intro n108
                  induction n108 with
                  | zero => intro x45 g46 hm; exact absurd hm (Nat.not_lt_zero _)
                  | succ n108 ih108 =>
                    intro x45 g46 hm108 hI47 hK48 i49 i50 i51 i52
                    obtain ⟨i49a, i49b⟩ := i49
                    refine m_iload C dX1_finish_108 5 rfl ?_
                    refine m_iload C dX1_finish_110 4 rfl ?_
                    refine m_icmp_ge C 131 dX1_finish_112 (by decide) (fun h53 => ?_) (fun h53 => ?_)
                    · skip
                      have th53 := i_le h53
                      rw [show (1 : Int32).toInt = 1 by decide] at th53
                      refine m_iconst C (0 : Int32) dX1_finish_131 (by decide) ?_
                      refine m_istore C [(5, .int (0 : Int32)), (0, .ref (aL X 9)), (1, .ref (aL X 32)), (2, .int t), (3, .int x2), (4, .int (1 : Int32))] dX1_finish_132 (by decide) rfl ?_
                      have L134 : ∀ (n134 : Nat) (x55 : Int32) (g56 : Mem), (9 - x55.toInt).toNat < n134 → Inv g56 → Kp [9, 10, 11, 12, 33] g g56 → 0 ≤ x55.toInt ∧ x55.toInt ≤ 8 → (∀ t, t < x55.toNatClampNeg → g56 33 t = g56 12 t) → hs_Fq b n (g56 12) → Wm X p l e (rmD 2) s m ([.ref (aL X 9), .ref (aL X 32), .int t] : List Value).toArray below meth c 6 0 0 (MQ below (cQ X (pV (fun g2 => Inv g2 ∧ Kp [9, 10, 11, 12, 33] g g2 ∧ hs_Fq b n (g2 33)))) ([.ref (aL X 9), .ref (aL X 32), .int t] : List Value).toArray s 0 0 (Ab X)) g56 134 [(0, .ref (aL X 9)), (1, .ref (aL X 32)), (2, .int t), (3, .int x2), (4, .int (1 : Int32)), (5, .int x55)] [] := by
                        intro n134
                        induction n134 with
                        | zero => intro x55 g56 hm; exact absurd hm (Nat.not_lt_zero _)
                        | succ n134 ih134 =>
                          intro x55 g56 hm134 hI57 hK58 i59 i60 i61
                          obtain ⟨i59a, i59b⟩ := i59
                          refine m_iload C dX1_finish_134 5 rfl ?_
                          refine m_bipush C (8 : Int32) dX1_finish_136 (by decide) ?_
                          refine m_icmp_ge C 166 dX1_finish_138 (by decide) (fun h62 => ?_) (fun h62 => ?_)
                          · skip
                            have th62 := i_le h62
                            rw [show (8 : Int32).toInt = 8 by decide] at th62
                            exact m_vret C dX1_finish_166 ⟨rfl, hI57, hK58, (hs_f5 i60 i61 (by omega))⟩
                          · skip
                            have th62 := i_nle h62
                            rw [show (8 : Int32).toInt = 8 by decide] at th62
                            refine m_aload_n C dX1_finish_141 1 rfl ?_
                            refine m_getrN (rf := "") C 0 rfl gd2 (by decide) sh_32 rfl dX1_finish_142 lk_X1_54 ?_
                            refine m_iload_n C dX1_finish_145 2 rfl ?_
                            refine m_bipush C (8 : Int32) dX1_finish_146 (by decide) ?_
                            refine m_imul C dX1_finish_148 ?_
                            refine m_iload C dX1_finish_149 5 rfl ?_
                            refine m_iadd C dX1_finish_151 ?_
                            refine m_aload_n C dX1_finish_152 0 rfl ?_
                            refine m_getr (rf := "") C 2 rfl gd1 (by decide) sh_9 rfl dX1_finish_153 lk_X1_18 ?_
                            refine m_iload C dX1_finish_156 5 rfl ?_
                            refine m_iald C sh_12 (i_in (by omega) (by omega)) dX1_finish_158 ?_
                            have t63 : (t * (8 : Int32)).toInt = t.toInt * (8 : Int) := i_mul rfl (by decide) (by omega) (by omega)
                            have t64 : ((t * (8 : Int32)) + x55).toInt = (t.toInt * (8 : Int)) + x55.toInt := i_add t63 rfl (by omega) (by omega)
                            refine m_iast C sh_33 (i_in (by omega) (by omega)) dX1_finish_159 ?_
                            refine m_mem (fun g65 eg65 => ?_)
                            have hI66 : Inv g65 := by rw [eg65]; exact hI57.up (ok_any (by decide))
                            have hK67 : Kp [9, 10, 11, 12, 33] g g65 := by rw [eg65]; exact Kp.up hK58 (by decide) (Or.inl (by decide)) (Or.inl (by decide))
                            obtain ⟨x68, ex68⟩ : ∃ z : Int32, z = x55 + Int32.ofInt 1 := ⟨_, rfl⟩
                            have t69 : (x55 + (Int32.ofInt 1)).toInt = x55.toInt + (1 : Int) := i_add rfl (by decide) (by omega) (by omega)
                            have t70 : x68.toInt = (x55.toInt + (1 : Int)) := (congrArg Int32.toInt ex68).trans t69
                            refine m_iinc C x68 [(5, .int x68), (0, .ref (aL X 9)), (1, .ref (aL X 32)), (2, .int t), (3, .int x2), (4, .int (1 : Int32))] dX1_finish_160 (q := 5) rfl ex68.symm (by decide) rfl ?_
                            refine m_goto C 134 dX1_finish_163 (by decide) ?_
                            refine m_lv [1, 2, 3, 4, 5, 0] rfl ?_
                            exact ih134 x68 g65 (by omega) hI66 hK67 (by omega) (hs_f4 eg65 ht (by omega) (by omega) i60) (hs_kp (P := hs_Fq b n) eg65 (by decide) i61)
                      have t71 : (0 : Int32).toInt = 0 := by decide
                      refine m_lv [1, 2, 3, 4, 5, 0] rfl ?_
                      exact L134 (((9 - (0 : Int32).toInt).toNat) + 1) (0 : Int32) g46 (Nat.lt_succ_self _) hI47 hK48 (by omega) hs_z (i52 (by omega))
                    · skip
                      have th53 := i_nle h53
                      rw [show (1 : Int32).toInt = 1 by decide] at th53
                      refine m_aload_n C dX1_finish_115 0 rfl ?_
                      refine m_iload C dX1_finish_116 5 rfl ?_
                      refine m_invV C cal_X1_spread sh_9 rfl (c_X1_spread_e l hX g46 x45 hI47 (by omega) (Int32.toInt_inj.mp (by rw [show (0 : Int32).toInt = 0 by decide]; omega))) lk_X1_48 im_X1_spread se_X1_spread (by decide) rfl rfl (Nat.le_of_ble_eq_true rfl) dX1_finish_118 ⟨Nat.le_refl _, Nat.le_refl _⟩ (rV fun g73 q74 => ?_)
                      obtain ⟨hI75, hK76, p77⟩ := q74
                      have hK78 : Kp [9, 10, 11, 12, 33] g g73 := (hK48).tr hK76 (by decide)
                      refine m_aload_n C dX1_finish_121 0 rfl ?_
                      refine m_invV C cal_X1_mix sh_9 rfl (c_X1_mix_e l hX g73  hI75) lk_X1_51 im_X1_mix se_X1_mix (by decide) rfl rfl (Nat.le_of_ble_eq_true rfl) dX1_finish_122 ⟨Nat.le_refl _, Nat.le_refl _⟩ (rV fun g80 q81 => ?_)
                      obtain ⟨hI82, hK83, p84⟩ := q81
                      have hK85 : Kp [9, 10, 11, 12, 33] g g80 := (hK78).tr hK83 (by decide)
                      obtain ⟨x86, ex86⟩ : ∃ z : Int32, z = x45 + Int32.ofInt 1 := ⟨_, rfl⟩
                      have t87 : (x45 + (Int32.ofInt 1)).toInt = x45.toInt + (1 : Int) := i_add rfl (by decide) (by omega) (by omega)
                      have t88 : x86.toInt = (x45.toInt + (1 : Int)) := (congrArg Int32.toInt ex86).trans t87
                      refine m_iinc C x86 [(5, .int x86), (0, .ref (aL X 9)), (1, .ref (aL X 32)), (2, .int t), (3, .int x2), (4, .int (1 : Int32))] dX1_finish_125 (q := 5) rfl ex86.symm (by decide) rfl ?_
                      refine m_goto C 108 dX1_finish_128 (by decide) ?_
                      refine m_lv [1, 2, 3, 4, 5, 0] rfl ?_
                      exact ih108 x86 g80 (by omega) hI82 hK85 (by omega) (fun h => absurd h (by omega)) (fun h => absurd h (by omega)) (fun _ => hs_f3 (i50 (by omega)) (i51 (by omega)) p77 (hK76.1 12 (by decide)) p84)
                have t89 : (0 : Int32).toInt = 0 := by decide
                refine m_lv [1, 2, 3, 4, 5, 0] rfl ?_
                exact L108 (((3 - (0 : Int32).toInt).toNat) + 1) (0 : Int32) g37 (Nat.lt_succ_self _) hI38 hK39 (by omega) (fun _ => i42) (fun _ => hs_v8 i41 (by omega)) (fun h => absurd h (by decide))
              · skip
                have th43 := i_nle h43
                rw [show (8 : Int32).toInt = 8 by decide] at th43
                refine m_aload_n C dX1_finish_86 0 rfl ?_
                refine m_getr (rf := "") C 2 rfl gd1 (by decide) sh_9 rfl dX1_finish_87 lk_X1_18 ?_
                refine m_iload C dX1_finish_90 5 rfl ?_
                refine m_statS (host := "AuditVault") C dX1_finish_92 (by decide +kernel) ?_
                refine m_iload C dX1_finish_95 5 rfl ?_
                refine m_tldS C (i_in (by omega) (by omega)) dX1_finish_97 ?_
                refine m_iast C sh_12 (i_in (by omega) (by omega)) dX1_finish_98 ?_
                refine m_mem (fun g90 eg90 => ?_)
                have hI91 : Inv g90 := by rw [eg90]; exact hI38.up (ok_any (by decide))
                have hK92 : Kp [9, 10, 11, 12, 33] g g90 := by rw [eg90]; exact Kp.up hK39 (by decide) (Or.inl (by decide)) (Or.inl (by decide))
                obtain ⟨x93, ex93⟩ : ∃ z : Int32, z = x36 + Int32.ofInt 1 := ⟨_, rfl⟩
                have t94 : (x36 + (Int32.ofInt 1)).toInt = x36.toInt + (1 : Int) := i_add rfl (by decide) (by omega) (by omega)
                have t95 : x93.toInt = (x36.toInt + (1 : Int)) := (congrArg Int32.toInt ex93).trans t94
                refine m_iinc C x93 [(5, .int x93), (0, .ref (aL X 9)), (1, .ref (aL X 32)), (2, .int t), (3, .int x2), (4, .int (1 : Int32))] dX1_finish_99 (q := 5) rfl ex93.symm (by decide) rfl ?_
                refine m_goto C 79 dX1_finish_102 (by decide) ?_
                refine m_lv [1, 2, 3, 4, 5, 0] rfl ?_
                exact ih79 x93 g90 (by omega) hI91 hK92 (by omega) (hs_up eg90 rfl (by omega) (by omega) i41) (hs_kp (P := hs_Mq b n) eg90 (by decide) i42)
          have t96 : (0 : Int32).toInt = 0 := by decide
          refine m_lv [1, 2, 3, 4, 5, 0] rfl ?_
          exact L79 (((9 - (0 : Int32).toInt).toNat) + 1) (0 : Int32) g32 (Nat.lt_succ_self _) hI33 hK34 (by omega) hs_z (hs_f2 eg32 ex2 hl i26 (by omega))
        · skip
          have th29 := i_nle h29
          refine m_aload_n C dX1_finish_52 0 rfl ?_
          refine m_iconst C (0 : Int32) dX1_finish_53 (by decide) ?_
          have t97 : (0 : Int32).toInt = 0 := by decide
          refine m_invV C cal_X1_add sh_9 rfl (c_X1_add_e l hX g21 (0 : Int32) hI22 (by omega)) lk_X1_31 im_X1_add se_X1_add (by decide) rfl rfl (Nat.le_of_ble_eq_true rfl) dX1_finish_54 ⟨Nat.le_refl _, Nat.le_refl _⟩ (rV fun g99 q100 => ?_)
          obtain ⟨hI101, hK102, ⟨p103a, p103b⟩⟩ := q100
          have hK104 : Kp [9, 10, 11, 12, 33] g g99 := (hK23).tr hK102 (by decide)
          obtain ⟨x105, ex105⟩ : ∃ z : Int32, z = x20 + Int32.ofInt 1 := ⟨_, rfl⟩
          have t106 : (x20 + (Int32.ofInt 1)).toInt = x20.toInt + (1 : Int) := i_add rfl (by decide) (by omega) (by omega)
          have t107 : x105.toInt = (x20.toInt + (1 : Int)) := (congrArg Int32.toInt ex105).trans t106
          refine m_iinc C x105 [(5, .int x105), (0, .ref (aL X 9)), (1, .ref (aL X 32)), (2, .int t), (3, .int x2), (4, .int (1 : Int32))] dX1_finish_57 (q := 5) rfl ex105.symm (by decide) rfl ?_
          refine m_goto C 40 dX1_finish_60 (by decide) ?_
          refine m_lv [1, 2, 3, 4, 5, 0] rfl ?_
          exact ih40 x105 g99 (by omega) hI101 hK104 (by omega) (by omega) (hs_Msx i26 ((by decide : (0 : Int32) &&& 255 = 0).trans (hb2 _ (hs_ltn hn.1 (by omega))).symm) p103b i25 (by omega) (by omega))
    refine m_lv [3, 4, 5, 2, 1, 0] rfl ?_
    exact L40 (((200 - x18.toInt).toNat) + 1) x18 g11 (Nat.lt_succ_self _) hI13 hK16 (by omega) (by omega) (hs_Msx hm ((by decide : (128 : Int32) &&& 255 = 128).trans hb1.symm) p15b hl hn.1 (by omega))
set_option maxRecDepth 20000 in
set_option maxHeartbeats 4000000 in
theorem c_X2_byteAt_e (l : Launch) {X : XT} (hX : Lok X) (g : Mem) (h : Int32) (k : Int32) (hI : Inv g) (hh : h = 0) (h_k : 0 ≤ k.toInt ∧ k.toInt ≤ 31) : Ctr l X yX2_byteAt cX2_byteAt 3 (some .int) (rmD 0) [.ref (aL X 32), .int h, .int k] g (pI (fun r g2 => g2 = g ∧ r = hs_us (g 33 (k.toNatClampNeg / 4)) ((24 : Int32) - (8 : Int32) * (k &&& 3)) &&& 255)) := by
  refine Ctr.of (lv := [(0, .ref (aL X 32)), (1, .int h), (2, .int k)]) hX (by decide) rfl (Nat.le_of_ble_eq_true rfl) ?_
  intro p e s m below meth c C
  have hh2 : h.toInt = 0 := by rw [hh]; decide
  refine m_aload_n C dX2_byteAt_0 0 rfl ?_
  refine m_getr (rf := "") C 0 rfl gd2 (by decide) sh_32 rfl dX2_byteAt_1 lk_X2_9 ?_
  refine m_iload_n C dX2_byteAt_4 1 rfl ?_
  refine m_bipush C (8 : Int32) dX2_byteAt_5 (by decide) ?_
  refine m_imul C dX2_byteAt_7 ?_
  refine m_iload_n C dX2_byteAt_8 2 rfl ?_
  refine m_iconst C (2 : Int32) dX2_byteAt_9 (by decide) ?_
  refine m_ishr C dX2_byteAt_10 ?_
  refine m_iadd C dX2_byteAt_11 ?_
  have t1 : (h * (8 : Int32)).toInt = h.toInt * (8 : Int) := i_mul rfl (by decide) (by omega) (by omega)
  have t2 : (k >>> ((2 : Int32) &&& 31)).toInt = k.toInt / 4 := i_shr rfl 2 (by decide)
  have t3 : ((h * (8 : Int32)) + (k >>> ((2 : Int32) &&& 31))).toInt = (h.toInt * (8 : Int)) + (k.toInt / 4) := i_add t1 t2 (by omega) (by omega)
  refine m_iald C sh_33 (i_in (by omega) (by omega)) dX2_byteAt_12 ?_
  refine m_bipush C (24 : Int32) dX2_byteAt_13 (by decide) ?_
  refine m_bipush C (8 : Int32) dX2_byteAt_15 (by decide) ?_
  refine m_iload_n C dX2_byteAt_17 2 rfl ?_
  refine m_iconst C (3 : Int32) dX2_byteAt_18 (by decide) ?_
  refine m_iand C dX2_byteAt_19 ?_
  refine m_imul C dX2_byteAt_20 ?_
  refine m_isub C dX2_byteAt_21 ?_
  refine m_iushr C dX2_byteAt_22 ?_
  refine m_sipush C (255 : Int32) dX2_byteAt_23 (by decide) ?_
  refine m_iand C dX2_byteAt_26 ?_
  have t4 : 0 ≤ ((((g 33 ((h * (8 : Int32)) + (k >>> ((2 : Int32) &&& 31))).toNatClampNeg).toUInt32 >>> (((24 : Int32) - ((8 : Int32) * (k &&& (3 : Int32)))).toUInt32 &&& Int32.toUInt32 31)).toInt32) &&& (255 : Int32)).toInt ∧ ((((g 33 ((h * (8 : Int32)) + (k >>> ((2 : Int32) &&& 31))).toNatClampNeg).toUInt32 >>> (((24 : Int32) - ((8 : Int32) * (k &&& (3 : Int32)))).toUInt32 &&& Int32.toUInt32 31)).toInt32) &&& (255 : Int32)).toInt < 256 := i_and _ 8 (by decide) (by decide)
  exact m_iret C dX2_byteAt_27 ⟨_, rfl, rfl, (hs_ba hh h_k)⟩
set_option maxRecDepth 20000 in
set_option maxHeartbeats 4000000 in
theorem c_X8_hash_e (l : Launch) {X : XT} (hX : Lok X) (g : Mem) (la : Int64) (lb : Int64) (n0 : Int32) (k : Int32) (hI : Inv g) : Ctr l X yX8_hash cX8_hash 10 (some .int) (rmD 3) [.ref (aL X 0), .long la, .long lb, .int n0, .int k] g (pI (fun r g2 => Inv g2 ∧ Kp [9, 10, 11, 12, 33] g g2 ∧ hs_A la lb n0 k r)) := by
  refine Ctr.of (lv := [(0, .ref (aL X 0)), (1, .long la), (3, .long lb), (5, .int n0), (6, .int k)]) hX (by decide) rfl (Nat.le_of_ble_eq_true rfl) ?_
  intro p e s m below meth c C
  refine m_iload C dX8_hash_0 3 rfl ?_
  refine m_iconst C (0 : Int32) dX8_hash_2 (by decide) ?_
  refine m_bipush C (16 : Int32) dX8_hash_3 (by decide) ?_
  have t1 : (0 : Int32).toInt = 0 := by decide
  have t2 : (16 : Int32).toInt = 16 := by decide
  refine m_invS C cal_X8_within (c_X8_within l hX g n0 (0 : Int32) (16 : Int32) ) lk_X8_87 st_X8_within (by decide) rfl rfl (Nat.le_of_ble_eq_true rfl) dX8_hash_5 ⟨Nat.le_refl _, Nat.le_refl _⟩ (rI fun r3 g4 q5 => ?_)
  obtain ⟨eg4, ⟨rfl, h6⟩ | ⟨rfl, h6⟩⟩ := q5
  · skip
    subst g4
    refine m_if_eq C 19 dX8_hash_8 (by decide) (fun h => absurd h (by decide)) (fun _ => ?_)
    refine m_iload C dX8_hash_11 4 rfl ?_
    refine m_invS C cal_X8_isHashByte (c_X8_isHashByte l hX g k ) lk_X8_157 st_X8_isHashByte (by decide) rfl rfl (Nat.le_of_ble_eq_true rfl) dX8_hash_13 ⟨Nat.le_refl _, Nat.le_refl _⟩ (rI fun r7 g8 q9 => ?_)
    obtain ⟨eg8, ⟨rfl, h10⟩ | ⟨rfl, h10⟩⟩ := q9
    · skip
      subst g8
      refine m_if_ne C 22 dX8_hash_16 (by decide) (fun _ => ?_) (fun h => absurd h (by decide))
      refine m_aload_n C dX8_hash_22 0 rfl ?_
      refine m_getr (rf := "") C 1 rfl gd8 (by decide) sh_0 rfl dX8_hash_23 lk_X8_19 ?_
      refine m_invVN C cal_X1_begin sh_9 rfl (c_X1_begin_e l hX g  hI) lk_X8_229 im_X1_begin se_X1_begin (by decide) rfl rfl (Nat.le_of_ble_eq_true rfl) dX8_hash_26 ⟨Nat.le_refl _, Nat.le_refl _⟩ (rV fun g12 q13 => ?_)
      obtain ⟨hI14, hK15, p16⟩ := q13
      have hK17 : Kp [9, 10, 11, 12, 33] g g12 := (Kp.rf).tr hK15 (by decide)
      refine m_iconst C (0 : Int32) dX8_hash_29 (by decide) ?_
      refine m_istore C [(7, .int (0 : Int32)), (0, .ref (aL X 0)), (1, .long la), (3, .long lb), (5, .int n0), (6, .int k)] dX8_hash_30 (by decide) rfl ?_
      have L32 : ∀ (n32 : Nat) (x19 : Int32) (g20 : Mem), (17 - x19.toInt).toNat < n32 → Inv g20 → Kp [9, 10, 11, 12, 33] g g20 → 0 ≤ x19.toInt ∧ x19.toInt ≤ 16 → x19.toInt ≤ n0.toInt → (g20 9 3).toInt = x19.toInt → hs_Ms (hs_b la lb n0) x19.toNatClampNeg (g20 10) → Wm X p l e (rmD 3) s m ([.ref (aL X 0), .long la, .long lb, .int n0, .int k] : List Value).toArray below meth c 10 0 0 (MQ below (cQ X (pI (fun r g2 => Inv g2 ∧ Kp [9, 10, 11, 12, 33] g g2 ∧ hs_A la lb n0 k r))) ([.ref (aL X 0), .long la, .long lb, .int n0, .int k] : List Value).toArray s 0 0 (Ab X)) g20 32 [(0, .ref (aL X 0)), (1, .long la), (3, .long lb), (5, .int n0), (6, .int k), (7, .int x19)] [] := by
        intro n32
        induction n32 with
        | zero => intro x19 g20 hm; exact absurd hm (Nat.not_lt_zero _)
        | succ n32 ih32 =>
          intro x19 g20 hm32 hI21 hK22 i23 i24 i25 i26
          obtain ⟨i23a, i23b⟩ := i23
          refine m_iload C dX8_hash_32 5 rfl ?_
          refine m_iload C dX8_hash_34 3 rfl ?_
          refine m_icmp_ge C 85 dX8_hash_36 (by decide) (fun h27 => ?_) (fun h27 => ?_)
          · skip
            have th27 := i_le h27
            refine m_aload_n C dX8_hash_85 0 rfl ?_
            refine m_getr (rf := "") C 1 rfl gd8 (by decide) sh_0 rfl dX8_hash_86 lk_X8_19 ?_
            refine m_aload_n C dX8_hash_89 0 rfl ?_
            refine m_getr (rf := "") C 8 rfl gd8 (by decide) sh_0 rfl dX8_hash_90 lk_X8_75 ?_
            refine m_iconst C (0 : Int32) dX8_hash_93 (by decide) ?_
            have t28 : (0 : Int32).toInt = 0 := by decide
            refine m_invVN C cal_X1_finish sh_9 rfl (c_X1_finish_e l hX g20 (0 : Int32) (hs_b la lb n0) n0 hI21 ⟨by omega, by omega⟩ (by omega) (hs_Mst i26 (by omega)) hs_b1 hs_b2 rfl) lk_X8_235 im_X1_finish se_X1_finish (by decide) rfl rfl (Nat.le_of_ble_eq_true rfl) dX8_hash_94 ⟨Nat.le_refl _, Nat.le_refl _⟩ (rV fun g30 q31 => ?_)
            obtain ⟨hI32, hK33, p34⟩ := q31
            have hK35 : Kp [9, 10, 11, 12, 33] g g30 := (hK22).tr hK33 (by decide)
            refine m_aload_n C dX8_hash_97 0 rfl ?_
            refine m_getr (rf := "") C 8 rfl gd8 (by decide) sh_0 rfl dX8_hash_98 lk_X8_75 ?_
            refine m_iconst C (0 : Int32) dX8_hash_101 (by decide) ?_
            refine m_iload C dX8_hash_102 4 rfl ?_
            have t36 : (0 : Int32).toInt = 0 := by decide
            refine m_invVN C cal_X2_byteAt sh_32 rfl (c_X2_byteAt_e l hX g30 (0 : Int32) k hI32 rfl (by omega)) lk_X8_167 im_X2_byteAt se_X2_byteAt (by decide) rfl rfl (Nat.le_of_ble_eq_true rfl) dX8_hash_104 ⟨Nat.le_refl _, Nat.le_refl _⟩ (rI fun r37 g38 q39 => ?_)
            obtain ⟨eg38, p40⟩ := q39
            subst g38
            exact m_iret C dX8_hash_107 ⟨_, rfl, hI32, hK35, hs_good (by omega) (by omega) (by omega) (by omega) p34 p40⟩
          · skip
            have th27 := i_nle h27
            refine m_iload C dX8_hash_39 5 rfl ?_
            refine m_bipush C (8 : Int32) dX8_hash_41 (by decide) ?_
            refine m_icmp_ge C 50 dX8_hash_43 (by decide) (fun h41 => ?_) (fun h41 => ?_)
            · skip
              have th41 := i_le h41
              rw [show (8 : Int32).toInt = 8 by decide] at th41
              refine m_lload_n C dX8_hash_50 2 rfl ?_
              refine m_lstore C [(8, .long lb), (0, .ref (aL X 0)), (1, .long la), (3, .long lb), (5, .int n0), (6, .int k), (7, .int x19)] dX8_hash_51 (by decide) rfl ?_
              refine m_aload_n C dX8_hash_53 1 rfl ?_
              refine m_getr (rf := "") C 1 rfl gd8 (by decide) sh_0 rfl dX8_hash_54 lk_X8_19 ?_
              refine m_lload C dX8_hash_57 0 rfl ?_
              refine m_bipush C (56 : Int32) dX8_hash_59 (by decide) ?_
              refine m_bipush C (8 : Int32) dX8_hash_61 (by decide) ?_
              refine m_iload C dX8_hash_63 6 rfl ?_
              refine m_bipush C (7 : Int32) dX8_hash_65 (by decide) ?_
              refine m_iand C dX8_hash_67 ?_
              refine m_imul C dX8_hash_68 ?_
              refine m_isub C dX8_hash_69 ?_
              refine m_lushr C dX8_hash_70 ?_
              refine m_nameJ (fun x43 ex43 => ?_)
              have hjv := ex43
              refine m_l2i C dX8_hash_71 ?_
              refine m_sipush C (255 : Int32) dX8_hash_72 (by decide) ?_
              refine m_iand C dX8_hash_75 ?_
              have t44 : 0 ≤ ((x43.toInt32) &&& (255 : Int32)).toInt ∧ ((x43.toInt32) &&& (255 : Int32)).toInt < 256 := i_and _ 8 (by decide) (by decide)
              refine m_invVN C cal_X1_add sh_9 rfl (c_X1_add_e l hX g20 ((x43.toInt32) &&& (255 : Int32)) hI21 (by omega)) lk_X8_232 im_X1_add se_X1_add (by decide) rfl rfl (Nat.le_of_ble_eq_true rfl) dX8_hash_76 ⟨Nat.le_refl _, Nat.le_refl _⟩ (rV fun g46 q47 => ?_)
              obtain ⟨hI48, hK49, ⟨p50a, p50b⟩⟩ := q47
              have hK51 : Kp [9, 10, 11, 12, 33] g g46 := (hK22).tr hK49 (by decide)
              obtain ⟨x52, ex52⟩ : ∃ z : Int32, z = x19 + Int32.ofInt 1 := ⟨_, rfl⟩
              have t53 : (x19 + (Int32.ofInt 1)).toInt = x19.toInt + (1 : Int) := i_add rfl (by decide) (by omega) (by omega)
              have t54 : x52.toInt = (x19.toInt + (1 : Int)) := (congrArg Int32.toInt ex52).trans t53
              refine m_iinc C x52 [(7, .int x52), (8, .long lb), (0, .ref (aL X 0)), (1, .long la), (3, .long lb), (5, .int n0), (6, .int k)] dX8_hash_79 (q := 6) rfl ex52.symm (by decide) rfl ?_
              refine m_goto C 32 dX8_hash_82 (by decide) ?_
              refine m_lv [2, 3, 4, 5, 6, 0] rfl ?_
              exact ih32 x52 g46 (by omega) hI48 hK51 (by omega) (by omega) (by omega) (hs_Msx i26 (by first | exact hs_hvA hjv (by omega) (by omega) (by omega) (by omega) | exact hs_hvB hjv (by omega) (by omega) (by omega) (by omega)) p50b i25 (by omega) (by omega))
            · skip
              have th41 := i_nle h41
              rw [show (8 : Int32).toInt = 8 by decide] at th41
              refine m_lload_n C dX8_hash_46 1 rfl ?_
              refine m_goto C 51 dX8_hash_47 (by decide) ?_
              refine m_lstore C [(8, .long la), (0, .ref (aL X 0)), (1, .long la), (3, .long lb), (5, .int n0), (6, .int k), (7, .int x19)] dX8_hash_51 (by decide) rfl ?_
              refine m_aload_n C dX8_hash_53 1 rfl ?_
              refine m_getr (rf := "") C 1 rfl gd8 (by decide) sh_0 rfl dX8_hash_54 lk_X8_19 ?_
              refine m_lload C dX8_hash_57 0 rfl ?_
              refine m_bipush C (56 : Int32) dX8_hash_59 (by decide) ?_
              refine m_bipush C (8 : Int32) dX8_hash_61 (by decide) ?_
              refine m_iload C dX8_hash_63 6 rfl ?_
              refine m_bipush C (7 : Int32) dX8_hash_65 (by decide) ?_
              refine m_iand C dX8_hash_67 ?_
              refine m_imul C dX8_hash_68 ?_
              refine m_isub C dX8_hash_69 ?_
              refine m_lushr C dX8_hash_70 ?_
              refine m_nameJ (fun x56 ex56 => ?_)
              have hjv := ex56
              refine m_l2i C dX8_hash_71 ?_
              refine m_sipush C (255 : Int32) dX8_hash_72 (by decide) ?_
              refine m_iand C dX8_hash_75 ?_
              have t57 : 0 ≤ ((x56.toInt32) &&& (255 : Int32)).toInt ∧ ((x56.toInt32) &&& (255 : Int32)).toInt < 256 := i_and _ 8 (by decide) (by decide)
              refine m_invVN C cal_X1_add sh_9 rfl (c_X1_add_e l hX g20 ((x56.toInt32) &&& (255 : Int32)) hI21 (by omega)) lk_X8_232 im_X1_add se_X1_add (by decide) rfl rfl (Nat.le_of_ble_eq_true rfl) dX8_hash_76 ⟨Nat.le_refl _, Nat.le_refl _⟩ (rV fun g59 q60 => ?_)
              obtain ⟨hI61, hK62, ⟨p63a, p63b⟩⟩ := q60
              have hK64 : Kp [9, 10, 11, 12, 33] g g59 := (hK22).tr hK62 (by decide)
              obtain ⟨x65, ex65⟩ : ∃ z : Int32, z = x19 + Int32.ofInt 1 := ⟨_, rfl⟩
              have t66 : (x19 + (Int32.ofInt 1)).toInt = x19.toInt + (1 : Int) := i_add rfl (by decide) (by omega) (by omega)
              have t67 : x65.toInt = (x19.toInt + (1 : Int)) := (congrArg Int32.toInt ex65).trans t66
              refine m_iinc C x65 [(7, .int x65), (8, .long la), (0, .ref (aL X 0)), (1, .long la), (3, .long lb), (5, .int n0), (6, .int k)] dX8_hash_79 (q := 6) rfl ex65.symm (by decide) rfl ?_
              refine m_goto C 32 dX8_hash_82 (by decide) ?_
              refine m_lv [2, 3, 4, 5, 6, 0] rfl ?_
              exact ih32 x65 g59 (by omega) hI61 hK64 (by omega) (by omega) (by omega) (hs_Msx i26 (by first | exact hs_hvA hjv (by omega) (by omega) (by omega) (by omega) | exact hs_hvB hjv (by omega) (by omega) (by omega) (by omega)) p63b i25 (by omega) (by omega))
      have t68 : (0 : Int32).toInt = 0 := by decide
      refine m_lv [1, 2, 3, 4, 5, 0] rfl ?_
      exact L32 (((17 - (0 : Int32).toInt).toNat) + 1) (0 : Int32) g12 (Nat.lt_succ_self _) hI14 hK17 (by omega) (by omega) (by omega) hs_Ms00
    · skip
      subst g8
      refine m_if_ne C 22 dX8_hash_16 (by decide) (fun h => absurd (by decide) h) (fun _ => ?_)
      refine m_bipush C (-2 : Int32) dX8_hash_19 (by decide) ?_
      exact m_iret C dX8_hash_21 ⟨_, rfl, hI, Kp.rf, hs_bad (by omega)⟩
  · skip
    subst g4
    refine m_if_eq C 19 dX8_hash_8 (by decide) (fun _ => ?_) (fun h => absurd (by decide) h)
    refine m_bipush C (-2 : Int32) dX8_hash_19 (by decide) ?_
    exact m_iret C dX8_hash_21 ⟨_, rfl, hI, Kp.rf, hs_bad (by omega)⟩
set_option maxRecDepth 20000 in
set_option maxHeartbeats 4000000 in
theorem c_X9_turn_e (l : Launch) {X : XT} (hX : Lok X) (g : Mem) (v : Int32) (n0 : Int32) (hI : Inv g) : Ctr l X yX9_turn cX9_turn 2 (some .int) (rmD 0) [.int v, .int n0] g (pI (fun r g2 => g2 = g ∧ r = hs_us v n0 ||| hs_sl v ((32 : Int32) - n0))) := by
  refine Ctr.of (lv := [(0, .int v), (1, .int n0)]) hX (by decide) rfl (Nat.le_of_ble_eq_true rfl) ?_
  intro p e s m below meth c C
  refine m_iload_n C dX9_turn_0 0 rfl ?_
  refine m_iload_n C dX9_turn_1 1 rfl ?_
  refine m_iushr C dX9_turn_2 ?_
  refine m_iload_n C dX9_turn_3 0 rfl ?_
  refine m_bipush C (32 : Int32) dX9_turn_4 (by decide) ?_
  refine m_iload_n C dX9_turn_6 1 rfl ?_
  refine m_isub C dX9_turn_7 ?_
  refine m_ishl C dX9_turn_8 ?_
  refine m_ior C dX9_turn_9 ?_
  exact m_iret C dX9_turn_10 ⟨_, rfl, rfl, rfl⟩
set_option maxRecDepth 20000 in
set_option maxHeartbeats 4000000 in
theorem c_X9_put_e (l : Launch) {X : XT} (hX : Lok X) (g : Mem) (v : Int32) (hI : Inv g) (hs : (g 34 4).toInt ≤ 127) : Ctr l X yX9_put cX9_put 2 none (rmD 0) [.ref (aL X 34), .int v] g (pV (fun g2 => Inv g2 ∧ Kq [38] [4] g g2 ∧ (g2 34 4).toInt = (g 34 4).toInt + 1 ∧ (∀ j, g2 38 j = if j = (g 34 4).toNatClampNeg then v else g 38 j))) := by
  refine Ctr.of (lv := [(0, .ref (aL X 34)), (1, .int v)]) hX (by decide) rfl (Nat.le_of_ble_eq_true rfl) ?_
  intro p e s m below meth c C
  refine m_aload_n C dX9_put_0 0 rfl ?_
  refine m_getr (rf := "") C 3 rfl gd9 (by decide) sh_34 rfl dX9_put_1 lk_X9_19 ?_
  refine m_aload_n C dX9_put_4 0 rfl ?_
  refine m_geti (rf := "") C 4 rfl gd9 (by decide) sh_34 rfl dX9_put_5 lk_X9_150 ?_
  have r1 := iv_msize hI
  refine m_iload_n C dX9_put_8 1 rfl ?_
  refine m_iast C sh_38 (i_in (by omega) (by omega)) dX9_put_9 ?_
  refine m_mem (fun g2 eg2 => ?_)
  have hI3 : Inv g2 := by rw [eg2]; exact hI.up (ok_any (by decide))
  have hK4 : Kq [38] [4] g g2 := by rw [eg2]; exact Kq.upA Kq.rf (by decide) (by decide)
  have ev5 : g2 34 4 = g 34 4 := by rw [eg2]; exact up2_nei (Or.inl (by decide))
  have tev5 := congrArg Int32.toInt ev5
  refine m_aload_n C dX9_put_10 0 rfl ?_
  refine m_dup C dX9_put_11 rfl ?_
  refine m_geti (rf := "") C 4 rfl gd9 (by decide) sh_34 rfl dX9_put_12 lk_X9_150 ?_
  have r6 := iv_msize hI3
  refine m_iconst C (1 : Int32) dX9_put_15 (by decide) ?_
  refine m_iadd C dX9_put_16 ?_
  have t7 : ((g2 34 4) + (1 : Int32)).toInt = (g2 34 4).toInt + (1 : Int) := i_add rfl (by decide) (by omega) (by omega)
  refine m_put (rf := "") C 4 rfl gd9 (by decide) tyX9 tyX9_ok nmX9 rfl (tyX9_ok 4 (by decide)) rfl rfl sh_34 rfl dX9_put_17 lk_X9_150 ?_
  refine m_mem (fun g8 eg8 => ?_)
  have hI9 : Inv g8 := by rw [eg8]; exact hI3.up (ok_msize (by omega) (by omega))
  have hK10 : Kq [38] [4] g g8 := by rw [eg8]; exact Kq.upF hK4 (by decide)
  exact m_vret C dX9_put_20 ⟨rfl, hI9, hK10, (hs_put eg2 eg8 (by omega) (by omega))⟩
set_option maxRecDepth 20000 in
set_option maxHeartbeats 4000000 in
theorem c_X9_block_e (l : Launch) {X : XT} (hX : Lok X) (g : Mem) (f0 : Int32) (hI : Inv g) (hf : f0 = 0) : Ctr l X yX9_block cX9_block 13 none (rmD 1) [.ref (aL X 34), .int f0] g (pV (fun g2 => Inv g2 ∧ Kq [36, 37] [] g g2 ∧ hs_Sn (hs_dw (g 38)) (g2 36) 64 ∧ (∀ j, j < 8 → g2 37 j = hs_mx (g 35) (g2 36) (g 37) j))) := by
  refine Ctr.of (lv := [(0, .ref (aL X 34)), (1, .int f0)]) hX (by decide) rfl (Nat.le_of_ble_eq_true rfl) ?_
  intro p e s m below meth c C
  have hf2 : f0.toInt = 0 := by rw [hf]; decide
  refine m_iconst C (0 : Int32) dX9_block_0 (by decide) ?_
  refine m_istore_n C [(2, .int (0 : Int32)), (0, .ref (aL X 34)), (1, .int f0)] dX9_block_1 (by decide) rfl ?_
  have L2 : ∀ (n2 : Nat) (x2 : Int32) (g3 : Mem), (17 - x2.toInt).toNat < n2 → Inv g3 → Kq [36, 37] [] g g3 → 0 ≤ x2.toInt ∧ x2.toInt ≤ 16 → (∀ t, t < x2.toNatClampNeg → g3 36 t = hs_dw (g 38) t) → g3 37 = g 37 → Wm X p l e (rmD 1) s m ([.ref (aL X 34), .int f0] : List Value).toArray below meth c 13 0 0 (MQ below (cQ X (pV (fun g2 => Inv g2 ∧ Kq [36, 37] [] g g2 ∧ hs_Sn (hs_dw (g 38)) (g2 36) 64 ∧ (∀ j, j < 8 → g2 37 j = hs_mx (g 35) (g2 36) (g 37) j)))) ([.ref (aL X 34), .int f0] : List Value).toArray s 0 0 (Ab X)) g3 2 [(0, .ref (aL X 34)), (1, .int f0), (2, .int x2)] [] := by
    intro n2
    induction n2 with
    | zero => intro x2 g3 hm; exact absurd hm (Nat.not_lt_zero _)
    | succ n2 ih2 =>
      intro x2 g3 hm2 hI4 hK5 i6 i7 i8
      obtain ⟨i6a, i6b⟩ := i6
      refine m_iload_n C dX9_block_2 2 rfl ?_
      refine m_bipush C (16 : Int32) dX9_block_3 (by decide) ?_
      refine m_icmp_ge C 68 dX9_block_5 (by decide) (fun h9 => ?_) (fun h9 => ?_)
      · skip
        have th9 := i_le h9
        rw [show (16 : Int32).toInt = 16 by decide] at th9
        refine m_bipush C (16 : Int32) dX9_block_68 (by decide) ?_
        refine m_istore_n C [(2, .int (16 : Int32)), (0, .ref (aL X 34)), (1, .int f0)] dX9_block_70 (by decide) rfl ?_
        have L71 : ∀ (n71 : Nat) (x11 : Int32) (g12 : Mem), (65 - x11.toInt).toNat < n71 → Inv g12 → Kq [36, 37] [] g g12 → 16 ≤ x11.toInt ∧ x11.toInt ≤ 64 → hs_Sn (hs_dw (g 38)) (g12 36) x11.toNatClampNeg → g12 37 = g 37 → Wm X p l e (rmD 1) s m ([.ref (aL X 34), .int f0] : List Value).toArray below meth c 13 0 0 (MQ below (cQ X (pV (fun g2 => Inv g2 ∧ Kq [36, 37] [] g g2 ∧ hs_Sn (hs_dw (g 38)) (g2 36) 64 ∧ (∀ j, j < 8 → g2 37 j = hs_mx (g 35) (g2 36) (g 37) j)))) ([.ref (aL X 34), .int f0] : List Value).toArray s 0 0 (Ab X)) g12 71 [(0, .ref (aL X 34)), (1, .int f0), (2, .int x11)] [] := by
          intro n71
          induction n71 with
          | zero => intro x11 g12 hm; exact absurd hm (Nat.not_lt_zero _)
          | succ n71 ih71 =>
            intro x11 g12 hm71 hI13 hK14 i15 i16 i17
            obtain ⟨i15a, i15b⟩ := i15
            refine m_iload_n C dX9_block_71 2 rfl ?_
            refine m_bipush C (64 : Int32) dX9_block_72 (by decide) ?_
            refine m_icmp_ge C 196 dX9_block_74 (by decide) (fun h18 => ?_) (fun h18 => ?_)
            · skip
              have th18 := i_le h18
              rw [show (64 : Int32).toInt = 64 by decide] at th18
              refine m_aload_n C dX9_block_196 0 rfl ?_
              refine m_getr (rf := "") C 2 rfl gd9 (by decide) sh_34 rfl dX9_block_197 lk_X9_16 ?_
              refine m_iconst C (0 : Int32) dX9_block_200 (by decide) ?_
              refine m_iald C sh_37 (i_in (by decide) (by decide)) dX9_block_201 ?_
              refine m_name (fun x19 ex19 => ?_)
              refine m_istore_n C [(2, .int x19), (0, .ref (aL X 34)), (1, .int f0)] dX9_block_202 (by decide) rfl ?_
              refine m_aload_n C dX9_block_203 1 rfl ?_
              refine m_getr (rf := "") C 2 rfl gd9 (by decide) sh_34 rfl dX9_block_204 lk_X9_16 ?_
              refine m_iconst C (1 : Int32) dX9_block_207 (by decide) ?_
              refine m_iald C sh_37 (i_in (by decide) (by decide)) dX9_block_208 ?_
              refine m_name (fun x20 ex20 => ?_)
              refine m_istore_n C [(3, .int x20), (2, .int x19), (0, .ref (aL X 34)), (1, .int f0)] dX9_block_209 (by decide) rfl ?_
              refine m_aload_n C dX9_block_210 2 rfl ?_
              refine m_getr (rf := "") C 2 rfl gd9 (by decide) sh_34 rfl dX9_block_211 lk_X9_16 ?_
              refine m_iconst C (2 : Int32) dX9_block_214 (by decide) ?_
              refine m_iald C sh_37 (i_in (by decide) (by decide)) dX9_block_215 ?_
              refine m_name (fun x21 ex21 => ?_)
              refine m_istore C [(4, .int x21), (3, .int x20), (2, .int x19), (0, .ref (aL X 34)), (1, .int f0)] dX9_block_216 (by decide) rfl ?_
              refine m_aload_n C dX9_block_218 3 rfl ?_
              refine m_getr (rf := "") C 2 rfl gd9 (by decide) sh_34 rfl dX9_block_219 lk_X9_16 ?_
              refine m_iconst C (3 : Int32) dX9_block_222 (by decide) ?_
              refine m_iald C sh_37 (i_in (by decide) (by decide)) dX9_block_223 ?_
              refine m_name (fun x22 ex22 => ?_)
              refine m_istore C [(5, .int x22), (4, .int x21), (3, .int x20), (2, .int x19), (0, .ref (aL X 34)), (1, .int f0)] dX9_block_224 (by decide) rfl ?_
              refine m_aload_n C dX9_block_226 4 rfl ?_
              refine m_getr (rf := "") C 2 rfl gd9 (by decide) sh_34 rfl dX9_block_227 lk_X9_16 ?_
              refine m_iconst C (4 : Int32) dX9_block_230 (by decide) ?_
              refine m_iald C sh_37 (i_in (by decide) (by decide)) dX9_block_231 ?_
              refine m_name (fun x23 ex23 => ?_)
              refine m_istore C [(6, .int x23), (5, .int x22), (4, .int x21), (3, .int x20), (2, .int x19), (0, .ref (aL X 34)), (1, .int f0)] dX9_block_232 (by decide) rfl ?_
              refine m_aload_n C dX9_block_234 5 rfl ?_
              refine m_getr (rf := "") C 2 rfl gd9 (by decide) sh_34 rfl dX9_block_235 lk_X9_16 ?_
              refine m_iconst C (5 : Int32) dX9_block_238 (by decide) ?_
              refine m_iald C sh_37 (i_in (by decide) (by decide)) dX9_block_239 ?_
              refine m_name (fun x24 ex24 => ?_)
              refine m_istore C [(7, .int x24), (6, .int x23), (5, .int x22), (4, .int x21), (3, .int x20), (2, .int x19), (0, .ref (aL X 34)), (1, .int f0)] dX9_block_240 (by decide) rfl ?_
              refine m_aload_n C dX9_block_242 6 rfl ?_
              refine m_getr (rf := "") C 2 rfl gd9 (by decide) sh_34 rfl dX9_block_243 lk_X9_16 ?_
              refine m_bipush C (6 : Int32) dX9_block_246 (by decide) ?_
              refine m_iald C sh_37 (i_in (by decide) (by decide)) dX9_block_248 ?_
              refine m_name (fun x25 ex25 => ?_)
              refine m_istore C [(8, .int x25), (7, .int x24), (6, .int x23), (5, .int x22), (4, .int x21), (3, .int x20), (2, .int x19), (0, .ref (aL X 34)), (1, .int f0)] dX9_block_249 (by decide) rfl ?_
              refine m_aload_n C dX9_block_251 7 rfl ?_
              refine m_getr (rf := "") C 2 rfl gd9 (by decide) sh_34 rfl dX9_block_252 lk_X9_16 ?_
              refine m_bipush C (7 : Int32) dX9_block_255 (by decide) ?_
              refine m_iald C sh_37 (i_in (by decide) (by decide)) dX9_block_257 ?_
              refine m_name (fun x26 ex26 => ?_)
              refine m_istore C [(9, .int x26), (8, .int x25), (7, .int x24), (6, .int x23), (5, .int x22), (4, .int x21), (3, .int x20), (2, .int x19), (0, .ref (aL X 34)), (1, .int f0)] dX9_block_258 (by decide) rfl ?_
              refine m_iconst C (0 : Int32) dX9_block_260 (by decide) ?_
              refine m_istore C [(10, .int (0 : Int32)), (9, .int x26), (8, .int x25), (7, .int x24), (6, .int x23), (5, .int x22), (4, .int x21), (3, .int x20), (2, .int x19), (0, .ref (aL X 34)), (1, .int f0)] dX9_block_261 (by decide) rfl ?_
              have L263 : ∀ (n263 : Nat) (x28 : Int32) (x29 : Int32) (x30 : Int32) (x31 : Int32) (x32 : Int32) (x33 : Int32) (x34 : Int32) (x35 : Int32) (x36 : Int32) (g37 : Mem), (65 - x36.toInt).toNat < n263 → Inv g37 → Kq [36, 37] [] g g37 → 0 ≤ x36.toInt ∧ x36.toInt ≤ 64 → (x28, x29, x30, x31, x32, x33, x34, x35) = hs_rn (g 35) (g37 36) (hs_t8 (g 37)) x36.toNatClampNeg → hs_Sn (hs_dw (g 38)) (g37 36) 64 → g37 37 = g 37 → Wm X p l e (rmD 1) s m ([.ref (aL X 34), .int f0] : List Value).toArray below meth c 13 0 0 (MQ below (cQ X (pV (fun g2 => Inv g2 ∧ Kq [36, 37] [] g g2 ∧ hs_Sn (hs_dw (g 38)) (g2 36) 64 ∧ (∀ j, j < 8 → g2 37 j = hs_mx (g 35) (g2 36) (g 37) j)))) ([.ref (aL X 34), .int f0] : List Value).toArray s 0 0 (Ab X)) g37 263 [(0, .ref (aL X 34)), (1, .int f0), (2, .int x28), (3, .int x29), (4, .int x30), (5, .int x31), (6, .int x32), (7, .int x33), (8, .int x34), (9, .int x35), (10, .int x36)] [] := by
                intro n263
                induction n263 with
                | zero => intro x28 x29 x30 x31 x32 x33 x34 x35 x36 g37 hm; exact absurd hm (Nat.not_lt_zero _)
                | succ n263 ih263 =>
                  intro x28 x29 x30 x31 x32 x33 x34 x35 x36 g37 hm263 hI38 hK39 i40 i41 i42 i43
                  obtain ⟨i40a, i40b⟩ := i40
                  refine m_iload C dX9_block_263 10 rfl ?_
                  refine m_bipush C (64 : Int32) dX9_block_265 (by decide) ?_
                  refine m_icmp_ge C 403 dX9_block_267 (by decide) (fun h44 => ?_) (fun h44 => ?_)
                  · skip
                    have th44 := i_le h44
                    rw [show (64 : Int32).toInt = 64 by decide] at th44
                    refine m_aload_n C dX9_block_403 0 rfl ?_
                    refine m_getr (rf := "") C 2 rfl gd9 (by decide) sh_34 rfl dX9_block_404 lk_X9_16 ?_
                    refine m_iconst C (0 : Int32) dX9_block_407 (by decide) ?_
                    refine m_dup2 C dX9_block_408 rfl rfl ?_
                    refine m_iald C sh_37 (i_in (by decide) (by decide)) dX9_block_409 ?_
                    refine m_iload_n C dX9_block_410 2 rfl ?_
                    refine m_iadd C dX9_block_411 ?_
                    refine m_iast C sh_37 (i_in (by decide) (by decide)) dX9_block_412 ?_
                    refine m_mem (fun g45 eg45 => ?_)
                    have hI46 : Inv g45 := by rw [eg45]; exact hI38.up (ok_any (by decide))
                    have hK47 : Kq [36, 37] [] g g45 := by rw [eg45]; exact Kq.upA hK39 (by decide) (by decide)
                    refine m_aload_n C dX9_block_413 0 rfl ?_
                    refine m_getr (rf := "") C 2 rfl gd9 (by decide) sh_34 rfl dX9_block_414 lk_X9_16 ?_
                    refine m_iconst C (1 : Int32) dX9_block_417 (by decide) ?_
                    refine m_dup2 C dX9_block_418 rfl rfl ?_
                    refine m_iald C sh_37 (i_in (by decide) (by decide)) dX9_block_419 ?_
                    refine m_iload_n C dX9_block_420 3 rfl ?_
                    refine m_iadd C dX9_block_421 ?_
                    refine m_iast C sh_37 (i_in (by decide) (by decide)) dX9_block_422 ?_
                    refine m_mem (fun g48 eg48 => ?_)
                    have hI49 : Inv g48 := by rw [eg48]; exact hI46.up (ok_any (by decide))
                    have hK50 : Kq [36, 37] [] g g48 := by rw [eg48]; exact Kq.upA hK47 (by decide) (by decide)
                    refine m_aload_n C dX9_block_423 0 rfl ?_
                    refine m_getr (rf := "") C 2 rfl gd9 (by decide) sh_34 rfl dX9_block_424 lk_X9_16 ?_
                    refine m_iconst C (2 : Int32) dX9_block_427 (by decide) ?_
                    refine m_dup2 C dX9_block_428 rfl rfl ?_
                    refine m_iald C sh_37 (i_in (by decide) (by decide)) dX9_block_429 ?_
                    refine m_iload C dX9_block_430 4 rfl ?_
                    refine m_iadd C dX9_block_432 ?_
                    refine m_iast C sh_37 (i_in (by decide) (by decide)) dX9_block_433 ?_
                    refine m_mem (fun g51 eg51 => ?_)
                    have hI52 : Inv g51 := by rw [eg51]; exact hI49.up (ok_any (by decide))
                    have hK53 : Kq [36, 37] [] g g51 := by rw [eg51]; exact Kq.upA hK50 (by decide) (by decide)
                    refine m_aload_n C dX9_block_434 0 rfl ?_
                    refine m_getr (rf := "") C 2 rfl gd9 (by decide) sh_34 rfl dX9_block_435 lk_X9_16 ?_
                    refine m_iconst C (3 : Int32) dX9_block_438 (by decide) ?_
                    refine m_dup2 C dX9_block_439 rfl rfl ?_
                    refine m_iald C sh_37 (i_in (by decide) (by decide)) dX9_block_440 ?_
                    refine m_iload C dX9_block_441 5 rfl ?_
                    refine m_iadd C dX9_block_443 ?_
                    refine m_iast C sh_37 (i_in (by decide) (by decide)) dX9_block_444 ?_
                    refine m_mem (fun g54 eg54 => ?_)
                    have hI55 : Inv g54 := by rw [eg54]; exact hI52.up (ok_any (by decide))
                    have hK56 : Kq [36, 37] [] g g54 := by rw [eg54]; exact Kq.upA hK53 (by decide) (by decide)
                    refine m_aload_n C dX9_block_445 0 rfl ?_
                    refine m_getr (rf := "") C 2 rfl gd9 (by decide) sh_34 rfl dX9_block_446 lk_X9_16 ?_
                    refine m_iconst C (4 : Int32) dX9_block_449 (by decide) ?_
                    refine m_dup2 C dX9_block_450 rfl rfl ?_
                    refine m_iald C sh_37 (i_in (by decide) (by decide)) dX9_block_451 ?_
                    refine m_iload C dX9_block_452 6 rfl ?_
                    refine m_iadd C dX9_block_454 ?_
                    refine m_iast C sh_37 (i_in (by decide) (by decide)) dX9_block_455 ?_
                    refine m_mem (fun g57 eg57 => ?_)
                    have hI58 : Inv g57 := by rw [eg57]; exact hI55.up (ok_any (by decide))
                    have hK59 : Kq [36, 37] [] g g57 := by rw [eg57]; exact Kq.upA hK56 (by decide) (by decide)
                    refine m_aload_n C dX9_block_456 0 rfl ?_
                    refine m_getr (rf := "") C 2 rfl gd9 (by decide) sh_34 rfl dX9_block_457 lk_X9_16 ?_
                    refine m_iconst C (5 : Int32) dX9_block_460 (by decide) ?_
                    refine m_dup2 C dX9_block_461 rfl rfl ?_
                    refine m_iald C sh_37 (i_in (by decide) (by decide)) dX9_block_462 ?_
                    refine m_iload C dX9_block_463 7 rfl ?_
                    refine m_iadd C dX9_block_465 ?_
                    refine m_iast C sh_37 (i_in (by decide) (by decide)) dX9_block_466 ?_
                    refine m_mem (fun g60 eg60 => ?_)
                    have hI61 : Inv g60 := by rw [eg60]; exact hI58.up (ok_any (by decide))
                    have hK62 : Kq [36, 37] [] g g60 := by rw [eg60]; exact Kq.upA hK59 (by decide) (by decide)
                    refine m_aload_n C dX9_block_467 0 rfl ?_
                    refine m_getr (rf := "") C 2 rfl gd9 (by decide) sh_34 rfl dX9_block_468 lk_X9_16 ?_
                    refine m_bipush C (6 : Int32) dX9_block_471 (by decide) ?_
                    refine m_dup2 C dX9_block_473 rfl rfl ?_
                    refine m_iald C sh_37 (i_in (by decide) (by decide)) dX9_block_474 ?_
                    refine m_iload C dX9_block_475 8 rfl ?_
                    refine m_iadd C dX9_block_477 ?_
                    refine m_iast C sh_37 (i_in (by decide) (by decide)) dX9_block_478 ?_
                    refine m_mem (fun g63 eg63 => ?_)
                    have hI64 : Inv g63 := by rw [eg63]; exact hI61.up (ok_any (by decide))
                    have hK65 : Kq [36, 37] [] g g63 := by rw [eg63]; exact Kq.upA hK62 (by decide) (by decide)
                    refine m_aload_n C dX9_block_479 0 rfl ?_
                    refine m_getr (rf := "") C 2 rfl gd9 (by decide) sh_34 rfl dX9_block_480 lk_X9_16 ?_
                    refine m_bipush C (7 : Int32) dX9_block_483 (by decide) ?_
                    refine m_dup2 C dX9_block_485 rfl rfl ?_
                    refine m_iald C sh_37 (i_in (by decide) (by decide)) dX9_block_486 ?_
                    refine m_iload C dX9_block_487 9 rfl ?_
                    refine m_iadd C dX9_block_489 ?_
                    refine m_iast C sh_37 (i_in (by decide) (by decide)) dX9_block_490 ?_
                    refine m_mem (fun g66 eg66 => ?_)
                    have hI67 : Inv g66 := by rw [eg66]; exact hI64.up (ok_any (by decide))
                    have hK68 : Kq [36, 37] [] g g66 := by rw [eg66]; exact Kq.upA hK65 (by decide) (by decide)
                    exact m_vret C dX9_block_491 ⟨rfl, hI67, hK68, (hs_bf (hs_mf eg45 eg48 eg51 eg54 eg57 eg60 eg63 eg66 i43 i41 (by omega)) i42)⟩
                  · skip
                    have th44 := i_nle h44
                    rw [show (64 : Int32).toInt = 64 by decide] at th44
                    refine m_iload C dX9_block_270 9 rfl ?_
                    refine m_iload C dX9_block_272 6 rfl ?_
                    refine m_bipush C (6 : Int32) dX9_block_274 (by decide) ?_
                    have t69 : (6 : Int32).toInt = 6 := by decide
                    refine m_invS C cal_X9_turn (c_X9_turn_e l hX g37 x32 (6 : Int32) hI38) lk_X9_158 st_X9_turn (by decide) rfl rfl (Nat.le_of_ble_eq_true rfl) dX9_block_276 ⟨Nat.le_refl _, Nat.le_refl _⟩ (rI fun r70 g71 q72 => ?_)
                    obtain ⟨eg71, rfl⟩ := q72
                    subst g71
                    refine m_iload C dX9_block_279 6 rfl ?_
                    refine m_bipush C (11 : Int32) dX9_block_281 (by decide) ?_
                    have t73 : (11 : Int32).toInt = 11 := by decide
                    refine m_invS C cal_X9_turn (c_X9_turn_e l hX g37 x32 (11 : Int32) hI38) lk_X9_158 st_X9_turn (by decide) rfl rfl (Nat.le_of_ble_eq_true rfl) dX9_block_283 ⟨Nat.le_refl _, Nat.le_refl _⟩ (rI fun r74 g75 q76 => ?_)
                    obtain ⟨eg75, rfl⟩ := q76
                    subst g75
                    refine m_ixor C dX9_block_286 ?_
                    refine m_iload C dX9_block_287 6 rfl ?_
                    refine m_bipush C (25 : Int32) dX9_block_289 (by decide) ?_
                    have t77 : (25 : Int32).toInt = 25 := by decide
                    refine m_invS C cal_X9_turn (c_X9_turn_e l hX g37 x32 (25 : Int32) hI38) lk_X9_158 st_X9_turn (by decide) rfl rfl (Nat.le_of_ble_eq_true rfl) dX9_block_291 ⟨Nat.le_refl _, Nat.le_refl _⟩ (rI fun r78 g79 q80 => ?_)
                    obtain ⟨eg79, rfl⟩ := q80
                    subst g79
                    refine m_ixor C dX9_block_294 ?_
                    refine m_iadd C dX9_block_295 ?_
                    refine m_iload C dX9_block_296 6 rfl ?_
                    refine m_iload C dX9_block_298 7 rfl ?_
                    refine m_iand C dX9_block_300 ?_
                    refine m_iload C dX9_block_301 6 rfl ?_
                    refine m_iconst C (-1 : Int32) dX9_block_303 (by decide) ?_
                    refine m_ixor C dX9_block_304 ?_
                    refine m_iload C dX9_block_305 8 rfl ?_
                    refine m_iand C dX9_block_307 ?_
                    refine m_ixor C dX9_block_308 ?_
                    refine m_iadd C dX9_block_309 ?_
                    refine m_aload_n C dX9_block_310 0 rfl ?_
                    refine m_getr (rf := "") C 0 rfl gd9 (by decide) sh_34 rfl dX9_block_311 lk_X9_7 ?_
                    refine m_iload C dX9_block_314 10 rfl ?_
                    refine m_iald C sh_35 (i_in (by omega) (by omega)) dX9_block_316 ?_
                    refine m_iadd C dX9_block_317 ?_
                    refine m_aload_n C dX9_block_318 0 rfl ?_
                    refine m_getr (rf := "") C 1 rfl gd9 (by decide) sh_34 rfl dX9_block_319 lk_X9_13 ?_
                    refine m_iload C dX9_block_322 10 rfl ?_
                    refine m_iald C sh_36 (i_in (by omega) (by omega)) dX9_block_324 ?_
                    refine m_iadd C dX9_block_325 ?_
                    refine m_name (fun x81 ex81 => ?_)
                    refine m_istore C [(11, .int x81), (0, .ref (aL X 34)), (1, .int f0), (2, .int x28), (3, .int x29), (4, .int x30), (5, .int x31), (6, .int x32), (7, .int x33), (8, .int x34), (9, .int x35), (10, .int x36)] dX9_block_326 (by decide) rfl ?_
                    refine m_iload_n C dX9_block_328 3 rfl ?_
                    refine m_iconst C (2 : Int32) dX9_block_329 (by decide) ?_
                    have t82 : (2 : Int32).toInt = 2 := by decide
                    refine m_invS C cal_X9_turn (c_X9_turn_e l hX g37 x28 (2 : Int32) hI38) lk_X9_158 st_X9_turn (by decide) rfl rfl (Nat.le_of_ble_eq_true rfl) dX9_block_330 ⟨Nat.le_refl _, Nat.le_refl _⟩ (rI fun r83 g84 q85 => ?_)
                    obtain ⟨eg84, rfl⟩ := q85
                    subst g84
                    refine m_iload_n C dX9_block_333 3 rfl ?_
                    refine m_bipush C (13 : Int32) dX9_block_334 (by decide) ?_
                    have t86 : (13 : Int32).toInt = 13 := by decide
                    refine m_invS C cal_X9_turn (c_X9_turn_e l hX g37 x28 (13 : Int32) hI38) lk_X9_158 st_X9_turn (by decide) rfl rfl (Nat.le_of_ble_eq_true rfl) dX9_block_336 ⟨Nat.le_refl _, Nat.le_refl _⟩ (rI fun r87 g88 q89 => ?_)
                    obtain ⟨eg88, rfl⟩ := q89
                    subst g88
                    refine m_ixor C dX9_block_339 ?_
                    refine m_iload_n C dX9_block_340 3 rfl ?_
                    refine m_bipush C (22 : Int32) dX9_block_341 (by decide) ?_
                    have t90 : (22 : Int32).toInt = 22 := by decide
                    refine m_invS C cal_X9_turn (c_X9_turn_e l hX g37 x28 (22 : Int32) hI38) lk_X9_158 st_X9_turn (by decide) rfl rfl (Nat.le_of_ble_eq_true rfl) dX9_block_343 ⟨Nat.le_refl _, Nat.le_refl _⟩ (rI fun r91 g92 q93 => ?_)
                    obtain ⟨eg92, rfl⟩ := q93
                    subst g92
                    refine m_ixor C dX9_block_346 ?_
                    refine m_iload_n C dX9_block_347 3 rfl ?_
                    refine m_iload_n C dX9_block_348 4 rfl ?_
                    refine m_iand C dX9_block_349 ?_
                    refine m_iload_n C dX9_block_350 3 rfl ?_
                    refine m_iload C dX9_block_351 5 rfl ?_
                    refine m_iand C dX9_block_353 ?_
                    refine m_ixor C dX9_block_354 ?_
                    refine m_iload_n C dX9_block_355 4 rfl ?_
                    refine m_iload C dX9_block_356 5 rfl ?_
                    refine m_iand C dX9_block_358 ?_
                    refine m_ixor C dX9_block_359 ?_
                    refine m_iadd C dX9_block_360 ?_
                    refine m_name (fun x94 ex94 => ?_)
                    refine m_istore C [(12, .int x94), (11, .int x81), (0, .ref (aL X 34)), (1, .int f0), (2, .int x28), (3, .int x29), (4, .int x30), (5, .int x31), (6, .int x32), (7, .int x33), (8, .int x34), (9, .int x35), (10, .int x36)] dX9_block_361 (by decide) rfl ?_
                    refine m_iload C dX9_block_363 10 rfl ?_
                    refine m_istore C [(9, .int x34), (12, .int x94), (11, .int x81), (0, .ref (aL X 34)), (1, .int f0), (2, .int x28), (3, .int x29), (4, .int x30), (5, .int x31), (6, .int x32), (7, .int x33), (8, .int x34), (10, .int x36)] dX9_block_365 (by decide) rfl ?_
                    refine m_iload C dX9_block_367 10 rfl ?_
                    refine m_istore C [(8, .int x33), (9, .int x34), (12, .int x94), (11, .int x81), (0, .ref (aL X 34)), (1, .int f0), (2, .int x28), (3, .int x29), (4, .int x30), (5, .int x31), (6, .int x32), (7, .int x33), (10, .int x36)] dX9_block_369 (by decide) rfl ?_
                    refine m_iload C dX9_block_371 10 rfl ?_
                    refine m_istore C [(7, .int x32), (8, .int x33), (9, .int x34), (12, .int x94), (11, .int x81), (0, .ref (aL X 34)), (1, .int f0), (2, .int x28), (3, .int x29), (4, .int x30), (5, .int x31), (6, .int x32), (10, .int x36)] dX9_block_373 (by decide) rfl ?_
                    refine m_iload C dX9_block_375 10 rfl ?_
                    refine m_iload C dX9_block_377 4 rfl ?_
                    refine m_iadd C dX9_block_379 ?_
                    refine m_name (fun x98 ex98 => ?_)
                    refine m_istore C [(6, .int x98), (7, .int x32), (8, .int x33), (9, .int x34), (12, .int x94), (11, .int x81), (0, .ref (aL X 34)), (1, .int f0), (2, .int x28), (3, .int x29), (4, .int x30), (5, .int x31), (10, .int x36)] dX9_block_380 (by decide) rfl ?_
                    refine m_iload C dX9_block_382 10 rfl ?_
                    refine m_istore C [(5, .int x30), (6, .int x98), (7, .int x32), (8, .int x33), (9, .int x34), (12, .int x94), (11, .int x81), (0, .ref (aL X 34)), (1, .int f0), (2, .int x28), (3, .int x29), (4, .int x30), (10, .int x36)] dX9_block_384 (by decide) rfl ?_
                    refine m_iload_n C dX9_block_386 10 rfl ?_
                    refine m_istore C [(4, .int x29), (5, .int x30), (6, .int x98), (7, .int x32), (8, .int x33), (9, .int x34), (12, .int x94), (11, .int x81), (0, .ref (aL X 34)), (1, .int f0), (2, .int x28), (3, .int x29), (10, .int x36)] dX9_block_387 (by decide) rfl ?_
                    refine m_iload_n C dX9_block_389 10 rfl ?_
                    refine m_istore_n C [(3, .int x28), (4, .int x29), (5, .int x30), (6, .int x98), (7, .int x32), (8, .int x33), (9, .int x34), (12, .int x94), (11, .int x81), (0, .ref (aL X 34)), (1, .int f0), (2, .int x28), (10, .int x36)] dX9_block_390 (by decide) rfl ?_
                    refine m_iload C dX9_block_391 8 rfl ?_
                    refine m_iload C dX9_block_393 7 rfl ?_
                    refine m_iadd C dX9_block_395 ?_
                    refine m_name (fun x102 ex102 => ?_)
                    refine m_istore_n C [(2, .int x102), (3, .int x28), (4, .int x29), (5, .int x30), (6, .int x98), (7, .int x32), (8, .int x33), (9, .int x34), (12, .int x94), (11, .int x81), (0, .ref (aL X 34)), (1, .int f0), (10, .int x36)] dX9_block_396 (by decide) rfl ?_
                    obtain ⟨x103, ex103⟩ : ∃ z : Int32, z = x36 + Int32.ofInt 1 := ⟨_, rfl⟩
                    have t104 : (x36 + (Int32.ofInt 1)).toInt = x36.toInt + (1 : Int) := i_add rfl (by decide) (by omega) (by omega)
                    have t105 : x103.toInt = (x36.toInt + (1 : Int)) := (congrArg Int32.toInt ex103).trans t104
                    refine m_iinc C x103 [(10, .int x103), (2, .int x102), (3, .int x28), (4, .int x29), (5, .int x30), (6, .int x98), (7, .int x32), (8, .int x33), (9, .int x34), (12, .int x94), (11, .int x81), (0, .ref (aL X 34)), (1, .int f0)] dX9_block_397 (q := 12) rfl ex103.symm (by decide) rfl ?_
                    refine m_goto C 263 dX9_block_400 (by decide) ?_
                    refine m_lv [11, 12, 1, 2, 3, 4, 5, 6, 7, 8, 0] rfl ?_
                    exact ih263 x102 x28 x29 x30 x98 x32 x33 x34 x103 g37 (by omega) hI38 hK39 (by omega) (hs_msR ex81 ex94 ex98 ex102 (hK39.1 35 (by decide) (by decide)) rfl (by omega) (by omega) i41) i42 i43
              have t106 : (0 : Int32).toInt = 0 := by decide
              refine m_lv [9, 10, 8, 7, 6, 5, 4, 3, 2, 1, 0] rfl ?_
              exact L263 (((65 - (0 : Int32).toInt).toNat) + 1) x19 x20 x21 x22 x23 x24 x25 x26 (0 : Int32) g12 (Nat.lt_succ_self _) hI13 hK14 (by omega) (hs_mi i17 ex19 ex20 ex21 ex22 ex23 ex24 ex25 ex26) (hs_Sn64 i16 (by omega)) i17
            · skip
              have th18 := i_nle h18
              rw [show (64 : Int32).toInt = 64 by decide] at th18
              refine m_aload_n C dX9_block_77 0 rfl ?_
              refine m_getr (rf := "") C 1 rfl gd9 (by decide) sh_34 rfl dX9_block_78 lk_X9_13 ?_
              refine m_iload_n C dX9_block_81 2 rfl ?_
              refine m_bipush C (15 : Int32) dX9_block_82 (by decide) ?_
              refine m_isub C dX9_block_84 ?_
              have t107 : (x11 - (15 : Int32)).toInt = x11.toInt - (15 : Int) := i_sub rfl (by decide) (by omega) (by omega)
              refine m_iald C sh_36 (i_in (by omega) (by omega)) dX9_block_85 ?_
              refine m_bipush C (7 : Int32) dX9_block_86 (by decide) ?_
              have t108 : (7 : Int32).toInt = 7 := by decide
              refine m_invS C cal_X9_turn (c_X9_turn_e l hX g12 (g12 36 (x11 - (15 : Int32)).toNatClampNeg) (7 : Int32) hI13) lk_X9_158 st_X9_turn (by decide) rfl rfl (Nat.le_of_ble_eq_true rfl) dX9_block_88 ⟨Nat.le_refl _, Nat.le_refl _⟩ (rI fun r109 g110 q111 => ?_)
              obtain ⟨eg110, rfl⟩ := q111
              subst g110
              refine m_aload_n C dX9_block_91 0 rfl ?_
              refine m_getr (rf := "") C 1 rfl gd9 (by decide) sh_34 rfl dX9_block_92 lk_X9_13 ?_
              refine m_iload_n C dX9_block_95 2 rfl ?_
              refine m_bipush C (15 : Int32) dX9_block_96 (by decide) ?_
              refine m_isub C dX9_block_98 ?_
              have t112 : (x11 - (15 : Int32)).toInt = x11.toInt - (15 : Int) := i_sub rfl (by decide) (by omega) (by omega)
              refine m_iald C sh_36 (i_in (by omega) (by omega)) dX9_block_99 ?_
              refine m_bipush C (18 : Int32) dX9_block_100 (by decide) ?_
              have t113 : (18 : Int32).toInt = 18 := by decide
              refine m_invS C cal_X9_turn (c_X9_turn_e l hX g12 (g12 36 (x11 - (15 : Int32)).toNatClampNeg) (18 : Int32) hI13) lk_X9_158 st_X9_turn (by decide) rfl rfl (Nat.le_of_ble_eq_true rfl) dX9_block_102 ⟨Nat.le_refl _, Nat.le_refl _⟩ (rI fun r114 g115 q116 => ?_)
              obtain ⟨eg115, rfl⟩ := q116
              subst g115
              refine m_ixor C dX9_block_105 ?_
              refine m_aload_n C dX9_block_106 0 rfl ?_
              refine m_getr (rf := "") C 1 rfl gd9 (by decide) sh_34 rfl dX9_block_107 lk_X9_13 ?_
              refine m_iload_n C dX9_block_110 2 rfl ?_
              refine m_bipush C (15 : Int32) dX9_block_111 (by decide) ?_
              refine m_isub C dX9_block_113 ?_
              have t117 : (x11 - (15 : Int32)).toInt = x11.toInt - (15 : Int) := i_sub rfl (by decide) (by omega) (by omega)
              refine m_iald C sh_36 (i_in (by omega) (by omega)) dX9_block_114 ?_
              refine m_iconst C (3 : Int32) dX9_block_115 (by decide) ?_
              refine m_iushr C dX9_block_116 ?_
              refine m_ixor C dX9_block_117 ?_
              refine m_name (fun x118 ex118 => ?_)
              refine m_istore_n C [(3, .int x118), (0, .ref (aL X 34)), (1, .int f0), (2, .int x11)] dX9_block_118 (by decide) rfl ?_
              refine m_aload_n C dX9_block_119 1 rfl ?_
              refine m_getr (rf := "") C 1 rfl gd9 (by decide) sh_34 rfl dX9_block_120 lk_X9_13 ?_
              refine m_iload_n C dX9_block_123 3 rfl ?_
              refine m_iconst C (2 : Int32) dX9_block_124 (by decide) ?_
              refine m_isub C dX9_block_125 ?_
              have t119 : (x11 - (2 : Int32)).toInt = x11.toInt - (2 : Int) := i_sub rfl (by decide) (by omega) (by omega)
              refine m_iald C sh_36 (i_in (by omega) (by omega)) dX9_block_126 ?_
              refine m_bipush C (17 : Int32) dX9_block_127 (by decide) ?_
              have t120 : (17 : Int32).toInt = 17 := by decide
              refine m_invS C cal_X9_turn (c_X9_turn_e l hX g12 (g12 36 (x11 - (2 : Int32)).toNatClampNeg) (17 : Int32) hI13) lk_X9_158 st_X9_turn (by decide) rfl rfl (Nat.le_of_ble_eq_true rfl) dX9_block_129 ⟨Nat.le_refl _, Nat.le_refl _⟩ (rI fun r121 g122 q123 => ?_)
              obtain ⟨eg122, rfl⟩ := q123
              subst g122
              refine m_aload_n C dX9_block_132 1 rfl ?_
              refine m_getr (rf := "") C 1 rfl gd9 (by decide) sh_34 rfl dX9_block_133 lk_X9_13 ?_
              refine m_iload_n C dX9_block_136 3 rfl ?_
              refine m_iconst C (2 : Int32) dX9_block_137 (by decide) ?_
              refine m_isub C dX9_block_138 ?_
              have t124 : (x11 - (2 : Int32)).toInt = x11.toInt - (2 : Int) := i_sub rfl (by decide) (by omega) (by omega)
              refine m_iald C sh_36 (i_in (by omega) (by omega)) dX9_block_139 ?_
              refine m_bipush C (19 : Int32) dX9_block_140 (by decide) ?_
              have t125 : (19 : Int32).toInt = 19 := by decide
              refine m_invS C cal_X9_turn (c_X9_turn_e l hX g12 (g12 36 (x11 - (2 : Int32)).toNatClampNeg) (19 : Int32) hI13) lk_X9_158 st_X9_turn (by decide) rfl rfl (Nat.le_of_ble_eq_true rfl) dX9_block_142 ⟨Nat.le_refl _, Nat.le_refl _⟩ (rI fun r126 g127 q128 => ?_)
              obtain ⟨eg127, rfl⟩ := q128
              subst g127
              refine m_ixor C dX9_block_145 ?_
              refine m_aload_n C dX9_block_146 1 rfl ?_
              refine m_getr (rf := "") C 1 rfl gd9 (by decide) sh_34 rfl dX9_block_147 lk_X9_13 ?_
              refine m_iload_n C dX9_block_150 3 rfl ?_
              refine m_iconst C (2 : Int32) dX9_block_151 (by decide) ?_
              refine m_isub C dX9_block_152 ?_
              have t129 : (x11 - (2 : Int32)).toInt = x11.toInt - (2 : Int) := i_sub rfl (by decide) (by omega) (by omega)
              refine m_iald C sh_36 (i_in (by omega) (by omega)) dX9_block_153 ?_
              refine m_bipush C (10 : Int32) dX9_block_154 (by decide) ?_
              refine m_iushr C dX9_block_156 ?_
              refine m_ixor C dX9_block_157 ?_
              refine m_name (fun x130 ex130 => ?_)
              refine m_istore C [(4, .int x130), (3, .int x118), (0, .ref (aL X 34)), (1, .int f0), (2, .int x11)] dX9_block_158 (by decide) rfl ?_
              refine m_aload_n C dX9_block_160 2 rfl ?_
              refine m_getr (rf := "") C 1 rfl gd9 (by decide) sh_34 rfl dX9_block_161 lk_X9_13 ?_
              refine m_iload_n C dX9_block_164 4 rfl ?_
              refine m_aload_n C dX9_block_165 2 rfl ?_
              refine m_getr (rf := "") C 1 rfl gd9 (by decide) sh_34 rfl dX9_block_166 lk_X9_13 ?_
              refine m_iload_n C dX9_block_169 4 rfl ?_
              refine m_bipush C (16 : Int32) dX9_block_170 (by decide) ?_
              refine m_isub C dX9_block_172 ?_
              have t131 : (x11 - (16 : Int32)).toInt = x11.toInt - (16 : Int) := i_sub rfl (by decide) (by omega) (by omega)
              refine m_iald C sh_36 (i_in (by omega) (by omega)) dX9_block_173 ?_
              refine m_iload_n C dX9_block_174 1 rfl ?_
              refine m_iadd C dX9_block_175 ?_
              refine m_aload_n C dX9_block_176 2 rfl ?_
              refine m_getr (rf := "") C 1 rfl gd9 (by decide) sh_34 rfl dX9_block_177 lk_X9_13 ?_
              refine m_iload_n C dX9_block_180 4 rfl ?_
              refine m_bipush C (7 : Int32) dX9_block_181 (by decide) ?_
              refine m_isub C dX9_block_183 ?_
              have t132 : (x11 - (7 : Int32)).toInt = x11.toInt - (7 : Int) := i_sub rfl (by decide) (by omega) (by omega)
              refine m_iald C sh_36 (i_in (by omega) (by omega)) dX9_block_184 ?_
              refine m_iadd C dX9_block_185 ?_
              refine m_iload C dX9_block_186 0 rfl ?_
              refine m_iadd C dX9_block_188 ?_
              refine m_iast C sh_36 (i_in (by omega) (by omega)) dX9_block_189 ?_
              refine m_mem (fun g133 eg133 => ?_)
              have hI134 : Inv g133 := by rw [eg133]; exact hI13.up (ok_any (by decide))
              have hK135 : Kq [36, 37] [] g g133 := by rw [eg133]; exact Kq.upA hK14 (by decide) (by decide)
              obtain ⟨x136, ex136⟩ : ∃ z : Int32, z = x11 + Int32.ofInt 1 := ⟨_, rfl⟩
              have t137 : (x11 + (Int32.ofInt 1)).toInt = x11.toInt + (1 : Int) := i_add rfl (by decide) (by omega) (by omega)
              have t138 : x136.toInt = (x11.toInt + (1 : Int)) := (congrArg Int32.toInt ex136).trans t137
              refine m_iinc C x136 [(2, .int x136), (4, .int x130), (3, .int x118), (0, .ref (aL X 34)), (1, .int f0)] dX9_block_190 (q := 4) rfl ex136.symm (by decide) rfl ?_
              refine m_goto C 71 dX9_block_193 (by decide) ?_
              refine m_lv [3, 4, 0] rfl ?_
              exact ih71 x136 g133 (by omega) hI134 hK135 (by omega) (hs_sp2R eg133 ex118 ex130 (by omega) (by omega) (by omega) i16) (hs_kp (P := fun f => f = g 37) eg133 (by decide) i17)
        have t139 : (16 : Int32).toInt = 16 := by decide
        refine m_lv [1, 2, 0] rfl ?_
        exact L71 (((65 - (16 : Int32).toInt).toNat) + 1) (16 : Int32) g3 (Nat.lt_succ_self _) hI4 hK5 (by omega) (hs_Sn16 i7 (by omega)) i8
      · skip
        have th9 := i_nle h9
        rw [show (16 : Int32).toInt = 16 by decide] at th9
        refine m_iload_n C dX9_block_8 1 rfl ?_
        refine m_iconst C (4 : Int32) dX9_block_9 (by decide) ?_
        refine m_iload_n C dX9_block_10 2 rfl ?_
        refine m_imul C dX9_block_11 ?_
        refine m_iadd C dX9_block_12 ?_
        refine m_name (fun x140 ex140 => ?_)
        have t141 : ((4 : Int32) * x2).toInt = (4 : Int) * x2.toInt := i_mul (by decide) rfl (by omega) (by omega)
        have t142 : (f0 + ((4 : Int32) * x2)).toInt = f0.toInt + ((4 : Int) * x2.toInt) := i_add rfl t141 (by omega) (by omega)
        have t143 : x140.toInt = (f0.toInt + ((4 : Int) * x2.toInt)) := (congrArg Int32.toInt ex140).trans t142
        refine m_istore_n C [(3, .int x140), (0, .ref (aL X 34)), (1, .int f0), (2, .int x2)] dX9_block_13 (by decide) rfl ?_
        refine m_aload_n C dX9_block_14 1 rfl ?_
        refine m_getr (rf := "") C 1 rfl gd9 (by decide) sh_34 rfl dX9_block_15 lk_X9_13 ?_
        refine m_iload_n C dX9_block_18 3 rfl ?_
        refine m_aload_n C dX9_block_19 1 rfl ?_
        refine m_getr (rf := "") C 3 rfl gd9 (by decide) sh_34 rfl dX9_block_20 lk_X9_19 ?_
        refine m_iload_n C dX9_block_23 0 rfl ?_
        refine m_iald C sh_38 (i_in (by omega) (by omega)) dX9_block_24 ?_
        refine m_bipush C (24 : Int32) dX9_block_25 (by decide) ?_
        refine m_ishl C dX9_block_27 ?_
        refine m_aload_n C dX9_block_28 1 rfl ?_
        refine m_getr (rf := "") C 3 rfl gd9 (by decide) sh_34 rfl dX9_block_29 lk_X9_19 ?_
        refine m_iload_n C dX9_block_32 0 rfl ?_
        refine m_iconst C (1 : Int32) dX9_block_33 (by decide) ?_
        refine m_iadd C dX9_block_34 ?_
        have t144 : (x140 + (1 : Int32)).toInt = x140.toInt + (1 : Int) := i_add rfl (by decide) (by omega) (by omega)
        refine m_iald C sh_38 (i_in (by omega) (by omega)) dX9_block_35 ?_
        refine m_bipush C (16 : Int32) dX9_block_36 (by decide) ?_
        refine m_ishl C dX9_block_38 ?_
        refine m_ior C dX9_block_39 ?_
        refine m_aload_n C dX9_block_40 1 rfl ?_
        refine m_getr (rf := "") C 3 rfl gd9 (by decide) sh_34 rfl dX9_block_41 lk_X9_19 ?_
        refine m_iload_n C dX9_block_44 0 rfl ?_
        refine m_iconst C (2 : Int32) dX9_block_45 (by decide) ?_
        refine m_iadd C dX9_block_46 ?_
        have t145 : (x140 + (2 : Int32)).toInt = x140.toInt + (2 : Int) := i_add rfl (by decide) (by omega) (by omega)
        refine m_iald C sh_38 (i_in (by omega) (by omega)) dX9_block_47 ?_
        refine m_bipush C (8 : Int32) dX9_block_48 (by decide) ?_
        refine m_ishl C dX9_block_50 ?_
        refine m_ior C dX9_block_51 ?_
        refine m_aload_n C dX9_block_52 1 rfl ?_
        refine m_getr (rf := "") C 3 rfl gd9 (by decide) sh_34 rfl dX9_block_53 lk_X9_19 ?_
        refine m_iload_n C dX9_block_56 0 rfl ?_
        refine m_iconst C (3 : Int32) dX9_block_57 (by decide) ?_
        refine m_iadd C dX9_block_58 ?_
        have t146 : (x140 + (3 : Int32)).toInt = x140.toInt + (3 : Int) := i_add rfl (by decide) (by omega) (by omega)
        refine m_iald C sh_38 (i_in (by omega) (by omega)) dX9_block_59 ?_
        refine m_ior C dX9_block_60 ?_
        refine m_iast C sh_36 (i_in (by omega) (by omega)) dX9_block_61 ?_
        refine m_mem (fun g147 eg147 => ?_)
        have hI148 : Inv g147 := by rw [eg147]; exact hI4.up (ok_any (by decide))
        have hK149 : Kq [36, 37] [] g g147 := by rw [eg147]; exact Kq.upA hK5 (by decide) (by decide)
        obtain ⟨x150, ex150⟩ : ∃ z : Int32, z = x2 + Int32.ofInt 1 := ⟨_, rfl⟩
        have t151 : (x2 + (Int32.ofInt 1)).toInt = x2.toInt + (1 : Int) := i_add rfl (by decide) (by omega) (by omega)
        have t152 : x150.toInt = (x2.toInt + (1 : Int)) := (congrArg Int32.toInt ex150).trans t151
        refine m_iinc C x150 [(2, .int x150), (3, .int x140), (0, .ref (aL X 34)), (1, .int f0)] dX9_block_62 (q := 3) rfl ex150.symm (by decide) rfl ?_
        refine m_goto C 2 dX9_block_65 (by decide) ?_
        refine m_lv [2, 3, 0] rfl ?_
        exact ih2 x150 g147 (by omega) hI148 hK149 (by omega) (hs_bl1 eg147 (by omega) (hK149.1 38 (by decide) (by decide)) (by omega) (by omega) (by omega) i7) (hs_kp (P := fun f => f = g 37) eg147 (by decide) i8)
  have t153 : (0 : Int32).toInt = 0 := by decide
  refine m_lv [1, 2, 0] rfl ?_
  exact L2 (((17 - (0 : Int32).toInt).toNat) + 1) (0 : Int32) g (Nat.lt_succ_self _) hI Kq.rf (by omega) hs_z rfl
set_option maxRecDepth 20000 in
set_option maxHeartbeats 4000000 in
theorem c_X9_end_e (l : Launch) {X : XT} (hX : Lok X) (g : Mem)  (b : Nat → Int32) (n : Int32) (hI : Inv g) (hn : 0 ≤ n.toInt ∧ n.toInt ≤ 16) (hl : (g 34 4).toInt = n.toInt) (hd : ∀ j, j < n.toNatClampNeg → g 38 j = b j) (hb1 : b n.toNatClampNeg = 128) (hb2 : ∀ j, n.toNatClampNeg < j → b j = 0) (hR : ∀ t, t < 64 → g 35 t = vR t) : Ctr l X yX9_end cX9_end 4 none (rmD 2) [.ref (aL X 34)] g (pV (fun g2 => Inv g2 ∧ Kq [36, 37, 38, 39] [4] g g2 ∧ hs_Gq b n (g2 39))) := by
  refine Ctr.of (lv := [(0, .ref (aL X 34))]) hX (by decide) rfl (Nat.le_of_ble_eq_true rfl) ?_
  intro p e s m below meth c C
  refine m_bipush C (8 : Int32) dX9_end_0 (by decide) ?_
  refine m_aload_n C dX9_end_2 0 rfl ?_
  refine m_geti (rf := "") C 4 rfl gd9 (by decide) sh_34 rfl dX9_end_3 lk_X9_150 ?_
  have r1 := iv_msize hI
  refine m_imul C dX9_end_6 ?_
  refine m_name (fun x2 ex2 => ?_)
  have t3 : ((8 : Int32) * (g 34 4)).toInt = (8 : Int) * (g 34 4).toInt := i_mul (by decide) rfl (by omega) (by omega)
  have t4 : x2.toInt = ((8 : Int) * (g 34 4).toInt) := (congrArg Int32.toInt ex2).trans t3
  refine m_istore_n C [(1, .int x2), (0, .ref (aL X 34))] dX9_end_7 (by decide) rfl ?_
  refine m_aload_n C dX9_end_8 1 rfl ?_
  refine m_geti (rf := "") C 4 rfl gd9 (by decide) sh_34 rfl dX9_end_9 lk_X9_150 ?_
  have r5 := iv_msize hI
  refine m_bipush C (56 : Int32) dX9_end_12 (by decide) ?_
  refine m_icmp_ge C 21 dX9_end_14 (by decide) (fun h6 => ?_) (fun h6 => ?_)
  · skip
    have th6 := i_le h6
    rw [show (56 : Int32).toInt = 56 by decide] at th6
    exact False.elim (by omega)
  · skip
    have th6 := i_nle h6
    rw [show (56 : Int32).toInt = 56 by decide] at th6
    refine m_iconst C (1 : Int32) dX9_end_17 (by decide) ?_
    refine m_goto C 22 dX9_end_18 (by decide) ?_
    refine m_istore_n C [(2, .int (1 : Int32)), (1, .int x2), (0, .ref (aL X 34))] dX9_end_22 (by decide) rfl ?_
    refine m_aload_n C dX9_end_23 2 rfl ?_
    refine m_sipush C (128 : Int32) dX9_end_24 (by decide) ?_
    have t8 : (128 : Int32).toInt = 128 := by decide
    refine m_invV C cal_X9_put sh_34 rfl (c_X9_put_e l hX g (128 : Int32) hI (by omega)) lk_X9_154 im_X9_put se_X9_put (by decide) rfl rfl (Nat.le_of_ble_eq_true rfl) dX9_end_27 ⟨Nat.le_refl _, Nat.le_refl _⟩ (rV fun g10 q11 => ?_)
    obtain ⟨hI12, hK13, ⟨p14a, p14b⟩⟩ := q11
    have hK15 : Kq [36, 37, 38, 39] [4] g g10 := (Kq.rf).tr hK13 (by decide) (by decide)
    have L30 : ∀ (n30 : Nat)  (g16 : Mem), (200 - (g16 34 4).toInt).toNat < n30 → Inv g16 → Kq [36, 37, 38, 39] [4] g g16 → n.toInt + 1 ≤ (g16 34 4).toInt ∧ (g16 34 4).toInt ≤ 60 → (∀ j, j < (g16 34 4).toNatClampNeg → g16 38 j = b j) → Wm X p l e (rmD 2) s m ([.ref (aL X 34)] : List Value).toArray below meth c 4 0 0 (MQ below (cQ X (pV (fun g2 => Inv g2 ∧ Kq [36, 37, 38, 39] [4] g g2 ∧ hs_Gq b n (g2 39)))) ([.ref (aL X 34)] : List Value).toArray s 0 0 (Ab X)) g16 30 [(0, .ref (aL X 34)), (1, .int x2), (2, .int (1 : Int32))] [] := by
      intro n30
      induction n30 with
      | zero => intro  g16 hm; exact absurd hm (Nat.not_lt_zero _)
      | succ n30 ih30 =>
        intro  g16 hm30 hI17 hK18 i19 i20
        obtain ⟨i19a, i19b⟩ := i19
        refine m_aload_n C dX9_end_30 0 rfl ?_
        refine m_geti (rf := "") C 4 rfl gd9 (by decide) sh_34 rfl dX9_end_31 lk_X9_150 ?_
        have r21 := iv_msize hI17
        refine m_bipush C (64 : Int32) dX9_end_34 (by decide) ?_
        refine m_iload_n C dX9_end_36 2 rfl ?_
        refine m_imul C dX9_end_37 ?_
        refine m_iconst C (4 : Int32) dX9_end_38 (by decide) ?_
        refine m_isub C dX9_end_39 ?_
        have t22 : ((64 : Int32) * (1 : Int32)).toInt = (64 : Int) * (1 : Int) := i_mul (by decide) (by decide) (by omega) (by omega)
        have t23 : (((64 : Int32) * (1 : Int32)) - (4 : Int32)).toInt = ((64 : Int) * (1 : Int)) - (4 : Int) := i_sub t22 (by decide) (by omega) (by omega)
        refine m_icmp_ge C 51 dX9_end_40 (by decide) (fun h24 => ?_) (fun h24 => ?_)
        · skip
          have th24 := i_le h24
          refine m_aload_n C dX9_end_51 0 rfl ?_
          refine m_iload_n C dX9_end_52 1 rfl ?_
          refine m_bipush C (24 : Int32) dX9_end_53 (by decide) ?_
          refine m_iushr C dX9_end_55 ?_
          refine m_invV C cal_X9_put sh_34 rfl (c_X9_put_e l hX g16 ((x2.toUInt32 >>> ((24 : Int32).toUInt32 &&& Int32.toUInt32 31)).toInt32) hI17 (by omega)) lk_X9_154 im_X9_put se_X9_put (by decide) rfl rfl (Nat.le_of_ble_eq_true rfl) dX9_end_56 ⟨Nat.le_refl _, Nat.le_refl _⟩ (rV fun g26 q27 => ?_)
          obtain ⟨hI28, hK29, ⟨p30a, p30b⟩⟩ := q27
          have hK31 : Kq [36, 37, 38, 39] [4] g g26 := (hK18).tr hK29 (by decide) (by decide)
          refine m_aload_n C dX9_end_59 0 rfl ?_
          refine m_iload_n C dX9_end_60 1 rfl ?_
          refine m_bipush C (16 : Int32) dX9_end_61 (by decide) ?_
          refine m_iushr C dX9_end_63 ?_
          refine m_sipush C (255 : Int32) dX9_end_64 (by decide) ?_
          refine m_iand C dX9_end_67 ?_
          have t32 : 0 ≤ (((x2.toUInt32 >>> ((16 : Int32).toUInt32 &&& Int32.toUInt32 31)).toInt32) &&& (255 : Int32)).toInt ∧ (((x2.toUInt32 >>> ((16 : Int32).toUInt32 &&& Int32.toUInt32 31)).toInt32) &&& (255 : Int32)).toInt < 256 := i_and _ 8 (by decide) (by decide)
          refine m_invV C cal_X9_put sh_34 rfl (c_X9_put_e l hX g26 (((x2.toUInt32 >>> ((16 : Int32).toUInt32 &&& Int32.toUInt32 31)).toInt32) &&& (255 : Int32)) hI28 (by omega)) lk_X9_154 im_X9_put se_X9_put (by decide) rfl rfl (Nat.le_of_ble_eq_true rfl) dX9_end_68 ⟨Nat.le_refl _, Nat.le_refl _⟩ (rV fun g34 q35 => ?_)
          obtain ⟨hI36, hK37, ⟨p38a, p38b⟩⟩ := q35
          have hK39 : Kq [36, 37, 38, 39] [4] g g34 := (hK31).tr hK37 (by decide) (by decide)
          refine m_aload_n C dX9_end_71 0 rfl ?_
          refine m_iload_n C dX9_end_72 1 rfl ?_
          refine m_bipush C (8 : Int32) dX9_end_73 (by decide) ?_
          refine m_iushr C dX9_end_75 ?_
          refine m_sipush C (255 : Int32) dX9_end_76 (by decide) ?_
          refine m_iand C dX9_end_79 ?_
          have t40 : 0 ≤ (((x2.toUInt32 >>> ((8 : Int32).toUInt32 &&& Int32.toUInt32 31)).toInt32) &&& (255 : Int32)).toInt ∧ (((x2.toUInt32 >>> ((8 : Int32).toUInt32 &&& Int32.toUInt32 31)).toInt32) &&& (255 : Int32)).toInt < 256 := i_and _ 8 (by decide) (by decide)
          refine m_invV C cal_X9_put sh_34 rfl (c_X9_put_e l hX g34 (((x2.toUInt32 >>> ((8 : Int32).toUInt32 &&& Int32.toUInt32 31)).toInt32) &&& (255 : Int32)) hI36 (by omega)) lk_X9_154 im_X9_put se_X9_put (by decide) rfl rfl (Nat.le_of_ble_eq_true rfl) dX9_end_80 ⟨Nat.le_refl _, Nat.le_refl _⟩ (rV fun g42 q43 => ?_)
          obtain ⟨hI44, hK45, ⟨p46a, p46b⟩⟩ := q43
          have hK47 : Kq [36, 37, 38, 39] [4] g g42 := (hK39).tr hK45 (by decide) (by decide)
          refine m_aload_n C dX9_end_83 0 rfl ?_
          refine m_iload_n C dX9_end_84 1 rfl ?_
          refine m_sipush C (255 : Int32) dX9_end_85 (by decide) ?_
          refine m_iand C dX9_end_88 ?_
          have t48 : 0 ≤ (x2 &&& (255 : Int32)).toInt ∧ (x2 &&& (255 : Int32)).toInt < 256 := i_and _ 8 (by decide) (by decide)
          refine m_invV C cal_X9_put sh_34 rfl (c_X9_put_e l hX g42 (x2 &&& (255 : Int32)) hI44 (by omega)) lk_X9_154 im_X9_put se_X9_put (by decide) rfl rfl (Nat.le_of_ble_eq_true rfl) dX9_end_89 ⟨Nat.le_refl _, Nat.le_refl _⟩ (rV fun g50 q51 => ?_)
          obtain ⟨hI52, hK53, ⟨p54a, p54b⟩⟩ := q51
          have hK55 : Kq [36, 37, 38, 39] [4] g g50 := (hK47).tr hK53 (by decide) (by decide)
          have hDq := hs_dq ex2 hl hn i20 (by omega) p30a p30b p38a p38b p46a p46b p54b
          refine m_aload_n C dX9_end_92 0 rfl ?_
          refine m_getr (rf := "") C 2 rfl gd9 (by decide) sh_34 rfl dX9_end_93 lk_X9_16 ?_
          refine m_iconst C (0 : Int32) dX9_end_96 (by decide) ?_
          refine m_ldc C (1779033703) dX9_end_97 lk_X9_162 ?_
          refine m_iast C sh_37 (i_in (by decide) (by decide)) dX9_end_99 ?_
          refine m_mem (fun g56 eg56 => ?_)
          have hI57 : Inv g56 := by rw [eg56]; exact hI52.up (ok_any (by decide))
          have hK58 : Kq [36, 37, 38, 39] [4] g g56 := by rw [eg56]; exact Kq.upA hK55 (by decide) (by decide)
          refine m_aload_n C dX9_end_100 0 rfl ?_
          refine m_getr (rf := "") C 2 rfl gd9 (by decide) sh_34 rfl dX9_end_101 lk_X9_16 ?_
          refine m_iconst C (1 : Int32) dX9_end_104 (by decide) ?_
          refine m_ldc C (-1150833019) dX9_end_105 lk_X9_163 ?_
          refine m_iast C sh_37 (i_in (by decide) (by decide)) dX9_end_107 ?_
          refine m_mem (fun g59 eg59 => ?_)
          have hI60 : Inv g59 := by rw [eg59]; exact hI57.up (ok_any (by decide))
          have hK61 : Kq [36, 37, 38, 39] [4] g g59 := by rw [eg59]; exact Kq.upA hK58 (by decide) (by decide)
          refine m_aload_n C dX9_end_108 0 rfl ?_
          refine m_getr (rf := "") C 2 rfl gd9 (by decide) sh_34 rfl dX9_end_109 lk_X9_16 ?_
          refine m_iconst C (2 : Int32) dX9_end_112 (by decide) ?_
          refine m_ldc C (1013904242) dX9_end_113 lk_X9_164 ?_
          refine m_iast C sh_37 (i_in (by decide) (by decide)) dX9_end_115 ?_
          refine m_mem (fun g62 eg62 => ?_)
          have hI63 : Inv g62 := by rw [eg62]; exact hI60.up (ok_any (by decide))
          have hK64 : Kq [36, 37, 38, 39] [4] g g62 := by rw [eg62]; exact Kq.upA hK61 (by decide) (by decide)
          refine m_aload_n C dX9_end_116 0 rfl ?_
          refine m_getr (rf := "") C 2 rfl gd9 (by decide) sh_34 rfl dX9_end_117 lk_X9_16 ?_
          refine m_iconst C (3 : Int32) dX9_end_120 (by decide) ?_
          refine m_ldc C (-1521486534) dX9_end_121 lk_X9_165 ?_
          refine m_iast C sh_37 (i_in (by decide) (by decide)) dX9_end_123 ?_
          refine m_mem (fun g65 eg65 => ?_)
          have hI66 : Inv g65 := by rw [eg65]; exact hI63.up (ok_any (by decide))
          have hK67 : Kq [36, 37, 38, 39] [4] g g65 := by rw [eg65]; exact Kq.upA hK64 (by decide) (by decide)
          refine m_aload_n C dX9_end_124 0 rfl ?_
          refine m_getr (rf := "") C 2 rfl gd9 (by decide) sh_34 rfl dX9_end_125 lk_X9_16 ?_
          refine m_iconst C (4 : Int32) dX9_end_128 (by decide) ?_
          refine m_ldc C (1359893119) dX9_end_129 lk_X9_166 ?_
          refine m_iast C sh_37 (i_in (by decide) (by decide)) dX9_end_131 ?_
          refine m_mem (fun g68 eg68 => ?_)
          have hI69 : Inv g68 := by rw [eg68]; exact hI66.up (ok_any (by decide))
          have hK70 : Kq [36, 37, 38, 39] [4] g g68 := by rw [eg68]; exact Kq.upA hK67 (by decide) (by decide)
          refine m_aload_n C dX9_end_132 0 rfl ?_
          refine m_getr (rf := "") C 2 rfl gd9 (by decide) sh_34 rfl dX9_end_133 lk_X9_16 ?_
          refine m_iconst C (5 : Int32) dX9_end_136 (by decide) ?_
          refine m_ldc C (-1694144372) dX9_end_137 lk_X9_167 ?_
          refine m_iast C sh_37 (i_in (by decide) (by decide)) dX9_end_139 ?_
          refine m_mem (fun g71 eg71 => ?_)
          have hI72 : Inv g71 := by rw [eg71]; exact hI69.up (ok_any (by decide))
          have hK73 : Kq [36, 37, 38, 39] [4] g g71 := by rw [eg71]; exact Kq.upA hK70 (by decide) (by decide)
          refine m_aload_n C dX9_end_140 0 rfl ?_
          refine m_getr (rf := "") C 2 rfl gd9 (by decide) sh_34 rfl dX9_end_141 lk_X9_16 ?_
          refine m_bipush C (6 : Int32) dX9_end_144 (by decide) ?_
          refine m_ldc C (528734635) dX9_end_146 lk_X9_168 ?_
          refine m_iast C sh_37 (i_in (by decide) (by decide)) dX9_end_148 ?_
          refine m_mem (fun g74 eg74 => ?_)
          have hI75 : Inv g74 := by rw [eg74]; exact hI72.up (ok_any (by decide))
          have hK76 : Kq [36, 37, 38, 39] [4] g g74 := by rw [eg74]; exact Kq.upA hK73 (by decide) (by decide)
          refine m_aload_n C dX9_end_149 0 rfl ?_
          refine m_getr (rf := "") C 2 rfl gd9 (by decide) sh_34 rfl dX9_end_150 lk_X9_16 ?_
          refine m_bipush C (7 : Int32) dX9_end_153 (by decide) ?_
          refine m_ldc C (1541459225) dX9_end_155 lk_X9_169 ?_
          refine m_iast C sh_37 (i_in (by decide) (by decide)) dX9_end_157 ?_
          refine m_mem (fun g77 eg77 => ?_)
          have hI78 : Inv g77 := by rw [eg77]; exact hI75.up (ok_any (by decide))
          have hK79 : Kq [36, 37, 38, 39] [4] g g77 := by rw [eg77]; exact Kq.upA hK76 (by decide) (by decide)
          refine m_iconst C (0 : Int32) dX9_end_158 (by decide) ?_
          refine m_istore_n C [(3, .int (0 : Int32)), (0, .ref (aL X 34)), (1, .int x2), (2, .int (1 : Int32))] dX9_end_159 (by decide) rfl ?_
          have L160 : ∀ (n160 : Nat) (x81 : Int32) (g82 : Mem), (3 - x81.toInt).toNat < n160 → Inv g82 → Kq [36, 37, 38, 39] [4] g g82 → 0 ≤ x81.toInt ∧ x81.toInt ≤ 1 → (x81.toInt = 0 → hs_Dq b n (g82 38)) → (x81.toInt = 0 → hs_Vq (g82 37)) → (x81.toInt = 1 → hs_Fq b n (g82 37)) → Wm X p l e (rmD 2) s m ([.ref (aL X 34)] : List Value).toArray below meth c 4 0 0 (MQ below (cQ X (pV (fun g2 => Inv g2 ∧ Kq [36, 37, 38, 39] [4] g g2 ∧ hs_Gq b n (g2 39)))) ([.ref (aL X 34)] : List Value).toArray s 0 0 (Ab X)) g82 160 [(0, .ref (aL X 34)), (1, .int x2), (2, .int (1 : Int32)), (3, .int x81)] [] := by
            intro n160
            induction n160 with
            | zero => intro x81 g82 hm; exact absurd hm (Nat.not_lt_zero _)
            | succ n160 ih160 =>
              intro x81 g82 hm160 hI83 hK84 i85 i86 i87 i88
              obtain ⟨i85a, i85b⟩ := i85
              refine m_iload_n C dX9_end_160 3 rfl ?_
              refine m_iload_n C dX9_end_161 2 rfl ?_
              refine m_icmp_ge C 179 dX9_end_162 (by decide) (fun h89 => ?_) (fun h89 => ?_)
              · skip
                have th89 := i_le h89
                rw [show (1 : Int32).toInt = 1 by decide] at th89
                refine m_iconst C (0 : Int32) dX9_end_179 (by decide) ?_
                refine m_istore_n C [(3, .int (0 : Int32)), (0, .ref (aL X 34)), (1, .int x2), (2, .int (1 : Int32))] dX9_end_180 (by decide) rfl ?_
                have L181 : ∀ (n181 : Nat) (x91 : Int32) (g92 : Mem), (33 - x91.toInt).toNat < n181 → Inv g92 → Kq [36, 37, 38, 39] [4] g g92 → 0 ≤ x91.toInt ∧ x91.toInt ≤ 32 → (∀ t, t < x91.toNatClampNeg → g92 39 t = hs_o1 (g92 37) (Int32.ofNat t)) → hs_Fq b n (g92 37) → Wm X p l e (rmD 2) s m ([.ref (aL X 34)] : List Value).toArray below meth c 4 0 0 (MQ below (cQ X (pV (fun g2 => Inv g2 ∧ Kq [36, 37, 38, 39] [4] g g2 ∧ hs_Gq b n (g2 39)))) ([.ref (aL X 34)] : List Value).toArray s 0 0 (Ab X)) g92 181 [(0, .ref (aL X 34)), (1, .int x2), (2, .int (1 : Int32)), (3, .int x91)] [] := by
                  intro n181
                  induction n181 with
                  | zero => intro x91 g92 hm; exact absurd hm (Nat.not_lt_zero _)
                  | succ n181 ih181 =>
                    intro x91 g92 hm181 hI93 hK94 i95 i96 i97
                    obtain ⟨i95a, i95b⟩ := i95
                    refine m_iload_n C dX9_end_181 3 rfl ?_
                    refine m_bipush C (32 : Int32) dX9_end_182 (by decide) ?_
                    refine m_icmp_ge C 221 dX9_end_184 (by decide) (fun h98 => ?_) (fun h98 => ?_)
                    · skip
                      have th98 := i_le h98
                      rw [show (32 : Int32).toInt = 32 by decide] at th98
                      exact m_vret C dX9_end_221 ⟨rfl, hI93, hK94, (hs_g5 i96 i97 (by omega))⟩
                    · skip
                      have th98 := i_nle h98
                      rw [show (32 : Int32).toInt = 32 by decide] at th98
                      refine m_aload_n C dX9_end_187 0 rfl ?_
                      refine m_getr (rf := "") C 5 rfl gd9 (by decide) sh_34 rfl dX9_end_188 lk_X9_22 ?_
                      refine m_iload_n C dX9_end_191 3 rfl ?_
                      refine m_aload_n C dX9_end_192 0 rfl ?_
                      refine m_getr (rf := "") C 2 rfl gd9 (by decide) sh_34 rfl dX9_end_193 lk_X9_16 ?_
                      refine m_iload_n C dX9_end_196 3 rfl ?_
                      refine m_iconst C (4 : Int32) dX9_end_197 (by decide) ?_
                      refine m_idiv C dX9_end_198 (by decide) ?_
                      have t99 : (x91 / (4 : Int32)).toInt = x91.toInt / 4 := i_div rfl (by omega) (by decide) (by decide)
                      refine m_iald C sh_37 (i_in (by omega) (by omega)) dX9_end_199 ?_
                      refine m_bipush C (24 : Int32) dX9_end_200 (by decide) ?_
                      refine m_bipush C (8 : Int32) dX9_end_202 (by decide) ?_
                      refine m_iload_n C dX9_end_204 3 rfl ?_
                      refine m_iconst C (4 : Int32) dX9_end_205 (by decide) ?_
                      refine m_irem C dX9_end_206 (by decide) ?_
                      refine m_imul C dX9_end_207 ?_
                      refine m_isub C dX9_end_208 ?_
                      refine m_iushr C dX9_end_209 ?_
                      refine m_sipush C (255 : Int32) dX9_end_210 (by decide) ?_
                      refine m_iand C dX9_end_213 ?_
                      have t100 : 0 ≤ ((((g92 37 (x91 / (4 : Int32)).toNatClampNeg).toUInt32 >>> (((24 : Int32) - ((8 : Int32) * (x91 - x91 / (4 : Int32) * (4 : Int32)))).toUInt32 &&& Int32.toUInt32 31)).toInt32) &&& (255 : Int32)).toInt ∧ ((((g92 37 (x91 / (4 : Int32)).toNatClampNeg).toUInt32 >>> (((24 : Int32) - ((8 : Int32) * (x91 - x91 / (4 : Int32) * (4 : Int32)))).toUInt32 &&& Int32.toUInt32 31)).toInt32) &&& (255 : Int32)).toInt < 256 := i_and _ 8 (by decide) (by decide)
                      refine m_iast C sh_39 (i_in (by omega) (by omega)) dX9_end_214 ?_
                      refine m_mem (fun g101 eg101 => ?_)
                      have hI102 : Inv g101 := by rw [eg101]; exact hI93.up (ok_any (by decide))
                      have hK103 : Kq [36, 37, 38, 39] [4] g g101 := by rw [eg101]; exact Kq.upA hK94 (by decide) (by decide)
                      obtain ⟨x104, ex104⟩ : ∃ z : Int32, z = x91 + Int32.ofInt 1 := ⟨_, rfl⟩
                      have t105 : (x91 + (Int32.ofInt 1)).toInt = x91.toInt + (1 : Int) := i_add rfl (by decide) (by omega) (by omega)
                      have t106 : x104.toInt = (x91.toInt + (1 : Int)) := (congrArg Int32.toInt ex104).trans t105
                      refine m_iinc C x104 [(3, .int x104), (0, .ref (aL X 34)), (1, .int x2), (2, .int (1 : Int32))] dX9_end_215 (q := 3) rfl ex104.symm (by decide) rfl ?_
                      refine m_goto C 181 dX9_end_218 (by decide) ?_
                      refine m_lv [1, 2, 3, 0] rfl ?_
                      exact ih181 x104 g101 (by omega) hI102 hK103 (by omega) (hs_sm eg101 (by omega) (by omega) (by omega) i96) (hs_kp (P := hs_Fq b n) eg101 (by decide) i97)
                have t107 : (0 : Int32).toInt = 0 := by decide
                refine m_lv [1, 2, 3, 0] rfl ?_
                exact L181 (((33 - (0 : Int32).toInt).toNat) + 1) (0 : Int32) g82 (Nat.lt_succ_self _) hI83 hK84 (by omega) hs_z (i88 (by omega))
              · skip
                have th89 := i_nle h89
                rw [show (1 : Int32).toInt = 1 by decide] at th89
                refine m_aload_n C dX9_end_165 0 rfl ?_
                refine m_bipush C (64 : Int32) dX9_end_166 (by decide) ?_
                refine m_iload_n C dX9_end_168 3 rfl ?_
                refine m_imul C dX9_end_169 ?_
                have t108 : ((64 : Int32) * x81).toInt = (64 : Int) * x81.toInt := i_mul (by decide) rfl (by omega) (by omega)
                refine m_invV C cal_X9_block sh_34 rfl (c_X9_block_e l hX g82 ((64 : Int32) * x81) hI83 (Int32.toInt_inj.mp (by rw [show (0 : Int32).toInt = 0 by decide]; omega))) lk_X9_170 im_X9_block se_X9_block (by decide) rfl rfl (Nat.le_of_ble_eq_true rfl) dX9_end_170 ⟨Nat.le_refl _, Nat.le_refl _⟩ (rV fun g110 q111 => ?_)
                obtain ⟨hI112, hK113, ⟨p114a, p114b⟩⟩ := q111
                have hK115 : Kq [36, 37, 38, 39] [4] g g110 := (hK84).tr hK113 (by decide) (by decide)
                obtain ⟨x116, ex116⟩ : ∃ z : Int32, z = x81 + Int32.ofInt 1 := ⟨_, rfl⟩
                have t117 : (x81 + (Int32.ofInt 1)).toInt = x81.toInt + (1 : Int) := i_add rfl (by decide) (by omega) (by omega)
                have t118 : x116.toInt = (x81.toInt + (1 : Int)) := (congrArg Int32.toInt ex116).trans t117
                refine m_iinc C x116 [(3, .int x116), (0, .ref (aL X 34)), (1, .int x2), (2, .int (1 : Int32))] dX9_end_173 (q := 3) rfl ex116.symm (by decide) rfl ?_
                refine m_goto C 160 dX9_end_176 (by decide) ?_
                refine m_lv [1, 2, 3, 0] rfl ?_
                exact ih160 x116 g110 (by omega) hI112 hK115 (by omega) (fun h => absurd h (by omega)) (fun h => absurd h (by omega)) (fun _ => hs_f3R (i86 (by omega)) (i87 (by omega)) ((hK113.1 35 (by decide) (by decide)).symm.trans (hK115.1 35 (by decide) (by decide))) hR p114a p114b)
          have t119 : (0 : Int32).toInt = 0 := by decide
          refine m_lv [1, 2, 3, 0] rfl ?_
          exact L160 (((3 - (0 : Int32).toInt).toNat) + 1) (0 : Int32) g77 (Nat.lt_succ_self _) hI78 hK79 (by omega) (fun _ => (hs_st8 eg56 eg59 eg62 eg65 eg68 eg71 eg74 eg77 hDq).1) (fun _ => (hs_st8 eg56 eg59 eg62 eg65 eg68 eg71 eg74 eg77 hDq).2) (fun h => absurd h (by decide))
        · skip
          have th24 := i_nle h24
          refine m_aload_n C dX9_end_43 0 rfl ?_
          refine m_iconst C (0 : Int32) dX9_end_44 (by decide) ?_
          have t120 : (0 : Int32).toInt = 0 := by decide
          refine m_invV C cal_X9_put sh_34 rfl (c_X9_put_e l hX g16 (0 : Int32) hI17 (by omega)) lk_X9_154 im_X9_put se_X9_put (by decide) rfl rfl (Nat.le_of_ble_eq_true rfl) dX9_end_45 ⟨Nat.le_refl _, Nat.le_refl _⟩ (rV fun g122 q123 => ?_)
          obtain ⟨hI124, hK125, ⟨p126a, p126b⟩⟩ := q123
          have hK127 : Kq [36, 37, 38, 39] [4] g g122 := (hK18).tr hK125 (by decide) (by decide)
          refine m_goto C 30 dX9_end_48 (by decide) ?_
          refine m_lv [0, 1, 2] rfl ?_
          exact ih30  g122 (by omega) hI124 hK127 (by omega) (hs_pu i20 (hb2 _ (hs_ltn hn.1 (by omega))).symm p126b p126a (by omega))
    refine m_lv [2, 1, 0] rfl ?_
    exact L30 (((200 - (g10 34 4).toInt).toNat) + 1)  g10 (Nat.lt_succ_self _) hI12 hK15 (by omega) (hs_pu (hs_dn hd hl) (hs_bv1 hb1 hl) p14b p14a (by omega))
set_option maxRecDepth 20000 in
set_option maxHeartbeats 4000000 in
theorem c_X9_hash_e (l : Launch) {X : XT} (hX : Lok X) (g : Mem) (la : Int64) (lb : Int64) (n0 : Int32) (k : Int32) (hI : Inv g) (hR : ∀ t, t < 64 → g 35 t = vR t) : Ctr l X yX9_hash cX9_hash 8 (some .int) (rmD 3) [.ref (aL X 34), .long la, .long lb, .int n0, .int k] g (pI (fun r g2 => Inv g2 ∧ Kq [36, 37, 38, 39] [4] g g2 ∧ hs_A la lb n0 k r)) := by
  refine Ctr.of (lv := [(0, .ref (aL X 34)), (1, .long la), (3, .long lb), (5, .int n0), (6, .int k)]) hX (by decide) rfl (Nat.le_of_ble_eq_true rfl) ?_
  intro p e s m below meth c C
  refine m_iload C dX9_hash_0 3 rfl ?_
  refine m_i2l C dX9_hash_2 ?_
  refine m_lconst C (0 : Int64) dX9_hash_3 (by decide) ?_
  refine m_ldc2 C (16) dX9_hash_4 lk_X9_195 ?_
  have t1 : (n0.toInt64).toInt = n0.toInt := i2l_t _
  have t2 : (0 : Int64).toInt = 0 := by decide
  have t3 : (16 : Int64).toInt = 16 := by decide
  refine m_invS C cal_X9_in (c_X9_in l hX g (n0.toInt64) (0 : Int64) (16 : Int64) ) lk_X9_185 st_X9_in (by decide) rfl rfl (Nat.le_of_ble_eq_true rfl) dX9_hash_7 ⟨Nat.le_refl _, Nat.le_refl _⟩ (rI fun r4 g5 q6 => ?_)
  obtain ⟨eg5, ⟨rfl, h7⟩ | ⟨rfl, h7⟩⟩ := q6
  · skip
    subst g5
    refine m_if_eq C 26 dX9_hash_10 (by decide) (fun h => absurd h (by decide)) (fun _ => ?_)
    refine m_iload C dX9_hash_13 4 rfl ?_
    refine m_i2l C dX9_hash_15 ?_
    refine m_lconst C (0 : Int64) dX9_hash_16 (by decide) ?_
    refine m_ldc2 C (31) dX9_hash_17 lk_X9_265 ?_
    have t8 : (k.toInt64).toInt = k.toInt := i2l_t _
    have t9 : (0 : Int64).toInt = 0 := by decide
    have t10 : (31 : Int64).toInt = 31 := by decide
    refine m_invS C cal_X9_in (c_X9_in l hX g (k.toInt64) (0 : Int64) (31 : Int64) ) lk_X9_185 st_X9_in (by decide) rfl rfl (Nat.le_of_ble_eq_true rfl) dX9_hash_20 ⟨Nat.le_refl _, Nat.le_refl _⟩ (rI fun r11 g12 q13 => ?_)
    obtain ⟨eg12, ⟨rfl, h14⟩ | ⟨rfl, h14⟩⟩ := q13
    · skip
      subst g12
      refine m_if_ne C 29 dX9_hash_23 (by decide) (fun _ => ?_) (fun h => absurd h (by decide))
      refine m_aload_n C dX9_hash_29 0 rfl ?_
      refine m_invV C cal_X9_begin sh_34 rfl (c_X9_begin l hX g  hI) lk_X9_173 im_X9_begin se_X9_begin (by decide) rfl rfl (Nat.le_of_ble_eq_true rfl) dX9_hash_30 ⟨Nat.le_refl _, Nat.le_refl _⟩ (rV fun g16 q17 => ?_)
      obtain ⟨hI18, hK19, p20⟩ := q17
      have hK21 : Kq [36, 37, 38, 39] [4] g g16 := (Kq.rf).tr hK19 (by decide) (by decide)
      refine m_iconst C (0 : Int32) dX9_hash_33 (by decide) ?_
      refine m_istore C [(7, .int (0 : Int32)), (0, .ref (aL X 34)), (1, .long la), (3, .long lb), (5, .int n0), (6, .int k)] dX9_hash_34 (by decide) rfl ?_
      have L36 : ∀ (n36 : Nat) (x23 : Int32) (g24 : Mem), (17 - x23.toInt).toNat < n36 → Inv g24 → Kq [36, 37, 38, 39] [4] g g24 → 0 ≤ x23.toInt ∧ x23.toInt ≤ 16 → (g24 34 4).toInt = x23.toInt → x23.toInt ≤ n0.toInt → (∀ j, j < (g24 34 4).toNatClampNeg → g24 38 j = hs_b la lb n0 j) → Wm X p l e (rmD 3) s m ([.ref (aL X 34), .long la, .long lb, .int n0, .int k] : List Value).toArray below meth c 8 0 0 (MQ below (cQ X (pI (fun r g2 => Inv g2 ∧ Kq [36, 37, 38, 39] [4] g g2 ∧ hs_A la lb n0 k r))) ([.ref (aL X 34), .long la, .long lb, .int n0, .int k] : List Value).toArray s 0 0 (Ab X)) g24 36 [(0, .ref (aL X 34)), (1, .long la), (3, .long lb), (5, .int n0), (6, .int k), (7, .int x23)] [] := by
        intro n36
        induction n36 with
        | zero => intro x23 g24 hm; exact absurd hm (Nat.not_lt_zero _)
        | succ n36 ih36 =>
          intro x23 g24 hm36 hI25 hK26 i27 i28 i29 i30
          obtain ⟨i27a, i27b⟩ := i27
          refine m_iload C dX9_hash_36 5 rfl ?_
          refine m_iload C dX9_hash_38 3 rfl ?_
          refine m_icmp_ge C 82 dX9_hash_40 (by decide) (fun h31 => ?_) (fun h31 => ?_)
          · skip
            have th31 := i_le h31
            refine m_aload_n C dX9_hash_82 0 rfl ?_
            refine m_invV C cal_X9_end sh_34 rfl (c_X9_end_e l hX g24  (hs_b la lb n0) n0 hI25 ⟨by omega, by omega⟩ (by omega) (hs_dn i30 (by omega)) hs_b1 hs_b2 (fun t ht => (congrFun (hK26.1 35 (by decide) (by decide)) t).trans (hR t ht))) lk_X9_180 im_X9_end se_X9_end (by decide) rfl rfl (Nat.le_of_ble_eq_true rfl) dX9_hash_83 ⟨Nat.le_refl _, Nat.le_refl _⟩ (rV fun g33 q34 => ?_)
            obtain ⟨hI35, hK36, p37⟩ := q34
            have hK38 : Kq [36, 37, 38, 39] [4] g g33 := (hK26).tr hK36 (by decide) (by decide)
            refine m_aload_n C dX9_hash_86 0 rfl ?_
            refine m_getr (rf := "") C 5 rfl gd9 (by decide) sh_34 rfl dX9_hash_87 lk_X9_22 ?_
            refine m_iload C dX9_hash_90 4 rfl ?_
            refine m_iald C sh_39 (i_in (by omega) (by omega)) dX9_hash_92 ?_
            exact m_iret C dX9_hash_93 ⟨_, rfl, hI35, hK38, hs_goodR (by omega) (by omega) (by omega) (by omega) p37 rfl⟩
          · skip
            have th31 := i_nle h31
            refine m_aload_n C dX9_hash_43 0 rfl ?_
            refine m_iload C dX9_hash_44 5 rfl ?_
            refine m_bipush C (8 : Int32) dX9_hash_46 (by decide) ?_
            refine m_icmp_ge C 55 dX9_hash_48 (by decide) (fun h39 => ?_) (fun h39 => ?_)
            · skip
              have th39 := i_le h39
              rw [show (8 : Int32).toInt = 8 by decide] at th39
              refine m_lload_n C dX9_hash_55 2 rfl ?_
              refine m_bipush C (56 : Int32) dX9_hash_56 (by decide) ?_
              refine m_bipush C (8 : Int32) dX9_hash_58 (by decide) ?_
              refine m_iload C dX9_hash_60 5 rfl ?_
              refine m_bipush C (8 : Int32) dX9_hash_62 (by decide) ?_
              refine m_irem C dX9_hash_64 (by decide) ?_
              refine m_imul C dX9_hash_65 ?_
              refine m_isub C dX9_hash_66 ?_
              refine m_lshr C dX9_hash_67 rfl ?_
              refine m_nameJ (fun x40 ex40 => ?_)
              try have hjw := hjv
              have hjv := ex40
              refine m_ldc2 C (255) dX9_hash_68 lk_X9_291 ?_
              refine m_land C dX9_hash_71 ?_
              refine m_nameJ (fun x41 ex41 => ?_)
              try have hjw := hjv
              have hjv := ex41
              refine m_l2i C dX9_hash_72 ?_
              refine m_invV C cal_X9_put sh_34 rfl (c_X9_put_e l hX g24 (x41.toInt32) hI25 (by omega)) lk_X9_154 im_X9_put se_X9_put (by decide) rfl rfl (Nat.le_of_ble_eq_true rfl) dX9_hash_73 ⟨Nat.le_refl _, Nat.le_refl _⟩ (rV fun g43 q44 => ?_)
              obtain ⟨hI45, hK46, ⟨p47a, p47b⟩⟩ := q44
              have hK48 : Kq [36, 37, 38, 39] [4] g g43 := (hK26).tr hK46 (by decide) (by decide)
              obtain ⟨x49, ex49⟩ : ∃ z : Int32, z = x23 + Int32.ofInt 1 := ⟨_, rfl⟩
              have t50 : (x23 + (Int32.ofInt 1)).toInt = x23.toInt + (1 : Int) := i_add rfl (by decide) (by omega) (by omega)
              have t51 : x49.toInt = (x23.toInt + (1 : Int)) := (congrArg Int32.toInt ex49).trans t50
              refine m_iinc C x49 [(7, .int x49), (0, .ref (aL X 34)), (1, .long la), (3, .long lb), (5, .int n0), (6, .int k)] dX9_hash_76 (q := 5) rfl ex49.symm (by decide) rfl ?_
              refine m_goto C 36 dX9_hash_79 (by decide) ?_
              refine m_lv [1, 2, 3, 4, 5, 0] rfl ?_
              exact ih36 x49 g43 (by omega) hI45 hK48 (by omega) (by omega) (by omega) (hs_pu i30 (hs_vv i28 (by first | exact hs_hvC hjw hjv (by omega) (by omega) (by omega) | exact hs_hvD hjw hjv (by omega) (by omega) (by omega))) p47b p47a (by omega))
            · skip
              have th39 := i_nle h39
              rw [show (8 : Int32).toInt = 8 by decide] at th39
              refine m_lload_n C dX9_hash_51 1 rfl ?_
              refine m_goto C 56 dX9_hash_52 (by decide) ?_
              refine m_bipush C (56 : Int32) dX9_hash_56 (by decide) ?_
              refine m_bipush C (8 : Int32) dX9_hash_58 (by decide) ?_
              refine m_iload C dX9_hash_60 5 rfl ?_
              refine m_bipush C (8 : Int32) dX9_hash_62 (by decide) ?_
              refine m_irem C dX9_hash_64 (by decide) ?_
              refine m_imul C dX9_hash_65 ?_
              refine m_isub C dX9_hash_66 ?_
              refine m_lshr C dX9_hash_67 rfl ?_
              refine m_nameJ (fun x52 ex52 => ?_)
              try have hjw := hjv
              have hjv := ex52
              refine m_ldc2 C (255) dX9_hash_68 lk_X9_291 ?_
              refine m_land C dX9_hash_71 ?_
              refine m_nameJ (fun x53 ex53 => ?_)
              try have hjw := hjv
              have hjv := ex53
              refine m_l2i C dX9_hash_72 ?_
              refine m_invV C cal_X9_put sh_34 rfl (c_X9_put_e l hX g24 (x53.toInt32) hI25 (by omega)) lk_X9_154 im_X9_put se_X9_put (by decide) rfl rfl (Nat.le_of_ble_eq_true rfl) dX9_hash_73 ⟨Nat.le_refl _, Nat.le_refl _⟩ (rV fun g55 q56 => ?_)
              obtain ⟨hI57, hK58, ⟨p59a, p59b⟩⟩ := q56
              have hK60 : Kq [36, 37, 38, 39] [4] g g55 := (hK26).tr hK58 (by decide) (by decide)
              obtain ⟨x61, ex61⟩ : ∃ z : Int32, z = x23 + Int32.ofInt 1 := ⟨_, rfl⟩
              have t62 : (x23 + (Int32.ofInt 1)).toInt = x23.toInt + (1 : Int) := i_add rfl (by decide) (by omega) (by omega)
              have t63 : x61.toInt = (x23.toInt + (1 : Int)) := (congrArg Int32.toInt ex61).trans t62
              refine m_iinc C x61 [(7, .int x61), (0, .ref (aL X 34)), (1, .long la), (3, .long lb), (5, .int n0), (6, .int k)] dX9_hash_76 (q := 5) rfl ex61.symm (by decide) rfl ?_
              refine m_goto C 36 dX9_hash_79 (by decide) ?_
              refine m_lv [1, 2, 3, 4, 5, 0] rfl ?_
              exact ih36 x61 g55 (by omega) hI57 hK60 (by omega) (by omega) (by omega) (hs_pu i30 (hs_vv i28 (by first | exact hs_hvC hjw hjv (by omega) (by omega) (by omega) | exact hs_hvD hjw hjv (by omega) (by omega) (by omega))) p59b p59a (by omega))
      have t64 : (0 : Int32).toInt = 0 := by decide
      refine m_lv [1, 2, 3, 4, 5, 0] rfl ?_
      exact L36 (((17 - (0 : Int32).toInt).toNat) + 1) (0 : Int32) g16 (Nat.lt_succ_self _) hI18 hK21 (by omega) (by omega) (by omega) (hs_z0 (by omega))
    · skip
      subst g12
      refine m_if_ne C 29 dX9_hash_23 (by decide) (fun h => absurd (by decide) h) (fun _ => ?_)
      refine m_bipush C (-2 : Int32) dX9_hash_26 (by decide) ?_
      exact m_iret C dX9_hash_28 ⟨_, rfl, hI, Kq.rf, hs_bad (by omega)⟩
  · skip
    subst g5
    refine m_if_eq C 26 dX9_hash_10 (by decide) (fun _ => ?_) (fun h => absurd (by decide) h)
    refine m_bipush C (-2 : Int32) dX9_hash_26 (by decide) ?_
    exact m_iret C dX9_hash_28 ⟨_, rfl, hI, Kq.rf, hs_bad (by omega)⟩
