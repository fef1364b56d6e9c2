set_option maxRecDepth 20000 in
set_option maxHeartbeats 4000000 in
theorem c_X7_nodeAt (l : Launch) {X : XT} (hX : Lok X) (g : Mem) (lv_ : Int32) (sx : Int32) (hI : Inv g) (h_lv_ : 0 ≤ lv_.toInt ∧ lv_.toInt ≤ 6) (h_sx : 0 ≤ sx.toInt ∧ sx.toInt ≤ 63) : Ctr l X yX7_nodeAt cX7_nodeAt 2 (some .int) (rmD 0) [.int lv_, .int sx] g (pI (fun r g2 => g2 = g ∧ 0 ≤ r.toInt ∧ r.toInt ≤ 126)) := by
  refine Ctr.of (lv := [(0, .int lv_), (1, .int sx)]) hX (by decide) rfl (Nat.le_of_ble_eq_true rfl) ?_
  intro p e s m below meth c C
  refine m_sipush C (128 : Int32) dX7_nodeAt_0 (by decide) ?_
  refine m_sipush C (128 : Int32) dX7_nodeAt_3 (by decide) ?_
  refine m_iload_n C dX7_nodeAt_6 0 rfl ?_
  refine m_ishr C dX7_nodeAt_7 ?_
  refine m_isub C dX7_nodeAt_8 ?_
  refine m_iload_n C dX7_nodeAt_9 1 rfl ?_
  refine m_iload_n C dX7_nodeAt_10 0 rfl ?_
  refine m_ishr C dX7_nodeAt_11 ?_
  refine m_iadd C dX7_nodeAt_12 ?_
  exact m_iret C dX7_nodeAt_13 ⟨_, rfl, rfl, (n_node h_lv_ h_sx)⟩
set_option maxRecDepth 20000 in
set_option maxHeartbeats 4000000 in
theorem c_X7_addLeaf_17 (l : Launch) {X : XT} (hX : Lok X) (g : Mem) (i0 : Int32) (hI : Inv g) (h_i0 : 0 ≤ i0.toInt ∧ i0.toInt ≤ 59) : Ctr l X yX7_addLeaf cX7_addLeaf 8 none (rmD 4) [.ref (aL X 13), .ref (aL X 17), .int i0] g (pV (fun g2 => Inv g2 ∧ Kp [9, 10, 11, 12, 15] g g2)) := by
  refine Ctr.of (lv := [(0, .ref (aL X 13)), (1, .ref (aL X 17)), (2, .int i0)]) hX (by decide) rfl (Nat.le_of_ble_eq_true rfl) ?_
  intro p e s m below meth c C
  refine m_aload_n C dX7_addLeaf_0 0 rfl ?_
  refine m_getr (rf := "") C 0 rfl gd7 (by decide) sh_13 rfl dX7_addLeaf_1 lk_X7_20 ?_
  refine m_invVN C cal_X1_begin sh_9 rfl (c_X1_begin l hX g  hI) lk_X7_24 im_X1_begin se_X1_begin (by decide) rfl rfl (Nat.le_of_ble_eq_true rfl) dX7_addLeaf_4 ⟨Nat.le_refl _, Nat.le_refl _⟩ (rV fun g2 q3 => ?_)
  obtain ⟨hI4, hK5⟩ := q3
  have hK6 : Kp [9, 10, 11, 12, 15] g g2 := (Kp.rf).tr hK5 (by decide)
  refine m_aload_n C dX7_addLeaf_7 0 rfl ?_
  refine m_getr (rf := "") C 0 rfl gd7 (by decide) sh_13 rfl dX7_addLeaf_8 lk_X7_20 ?_
  refine m_iconst C (0 : Int32) dX7_addLeaf_11 (by decide) ?_
  have t7 : (0 : Int32).toInt = 0 := by decide
  refine m_invVN C cal_X1_add sh_9 rfl (c_X1_add l hX g2 (0 : Int32) hI4) lk_X7_29 im_X1_add se_X1_add (by decide) rfl rfl (Nat.le_of_ble_eq_true rfl) dX7_addLeaf_12 ⟨Nat.le_refl _, Nat.le_refl _⟩ (rV fun g9 q10 => ?_)
  obtain ⟨hI11, hK12⟩ := q10
  have hK13 : Kp [9, 10, 11, 12, 15] g g9 := (hK6).tr hK12 (by decide)
  refine m_iconst C (0 : Int32) dX7_addLeaf_15 (by decide) ?_
  refine m_istore_n C [(3, .int (0 : Int32)), (0, .ref (aL X 13)), (1, .ref (aL X 17)), (2, .int i0)] dX7_addLeaf_16 (by decide) rfl ?_
  have L17 : ∀ (n17 : Nat) (x15 : Int32) (g16 : Mem), (13 - x15.toInt).toNat < n17 → Inv g16 → Kp [9, 10, 11, 12, 15] g g16 → 0 ≤ x15.toInt ∧ x15.toInt ≤ 12 → Wm X p l e (rmD 4) s m ([.ref (aL X 13), .ref (aL X 17), .int i0] : List Value).toArray below meth c 8 0 0 (MQ below (cQ X (pV (fun g2 => Inv g2 ∧ Kp [9, 10, 11, 12, 15] g g2))) ([.ref (aL X 13), .ref (aL X 17), .int i0] : List Value).toArray s 0 0 (Ab X)) g16 17 [(0, .ref (aL X 13)), (1, .ref (aL X 17)), (2, .int i0), (3, .int x15)] [] := by
    intro n17
    induction n17 with
    | zero => intro x15 g16 hm; exact absurd hm (Nat.not_lt_zero _)
    | succ n17 ih17 =>
      intro x15 g16 hm17 hI17 hK18 i19
      try obtain ⟨i19a, i19b⟩ := i19
      refine m_iload_n C dX7_addLeaf_17 3 rfl ?_
      refine m_bipush C (12 : Int32) dX7_addLeaf_18 (by decide) ?_
      refine m_icmp_ge C 44 dX7_addLeaf_20 (by decide) (fun h20 => ?_) (fun h20 => ?_)
      · skip
        have th20 := i_le h20
        rw [show (12 : Int32).toInt = 12 by decide] at th20
        refine m_aload_n C dX7_addLeaf_44 0 rfl ?_
        refine m_getr (rf := "") C 0 rfl gd7 (by decide) sh_13 rfl dX7_addLeaf_45 lk_X7_20 ?_
        refine m_aload_n C dX7_addLeaf_48 0 rfl ?_
        refine m_getr (rf := "") C 1 rfl gd7 (by decide) sh_13 rfl dX7_addLeaf_49 lk_X7_14 ?_
        refine m_iconst C (0 : Int32) dX7_addLeaf_52 (by decide) ?_
        refine m_iload_n C dX7_addLeaf_53 2 rfl ?_
        have t21 : (0 : Int32).toInt = 0 := by decide
        refine m_invS C cal_X7_nodeAt (c_X7_nodeAt l hX g16 (0 : Int32) i0 hI17 (by omega) (by omega)) lk_X7_32 st_X7_nodeAt (by decide) rfl rfl (Nat.le_of_ble_eq_true rfl) dX7_addLeaf_54 ⟨Nat.le_refl _, Nat.le_refl _⟩ (rI fun r22 g23 q24 => ?_)
        obtain ⟨eg23, p25⟩ := q24
        subst g23
        refine m_invVN C cal_X1_finish sh_9 rfl (c_X1_finish_14 l hX g16 r22 hI17 (by omega)) lk_X7_36 im_X1_finish se_X1_finish (by decide) rfl rfl (Nat.le_of_ble_eq_true rfl) dX7_addLeaf_57 ⟨Nat.le_refl _, Nat.le_refl _⟩ (rV fun g27 q28 => ?_)
        obtain ⟨hI29, hK30⟩ := q28
        have hK31 : Kp [9, 10, 11, 12, 15] g g27 := (hK18).tr hK30 (by decide)
        refine m_iload_n C dX7_addLeaf_60 2 rfl ?_
        refine m_iconst C (1 : Int32) dX7_addLeaf_61 (by decide) ?_
        refine m_iadd C dX7_addLeaf_62 ?_
        refine m_name (fun x32 ex32 => ?_)
        have t33 : (i0 + (1 : Int32)).toInt = i0.toInt + (1 : Int) := i_add rfl (by decide) (by omega) (by omega)
        have t34 : x32.toInt = (i0.toInt + (1 : Int)) := (congrArg Int32.toInt ex32).trans t33
        refine m_istore_n C [(3, .int x32), (0, .ref (aL X 13)), (1, .ref (aL X 17)), (2, .int i0)] dX7_addLeaf_63 (by decide) rfl ?_
        refine m_iconst C (1 : Int32) dX7_addLeaf_64 (by decide) ?_
        refine m_istore C [(4, .int (1 : Int32)), (3, .int x32), (0, .ref (aL X 13)), (1, .ref (aL X 17)), (2, .int i0)] dX7_addLeaf_65 (by decide) rfl ?_
        have L67 : ∀ (n67 : Nat) (x36 : Int32) (g37 : Mem), (8 - x36.toInt).toNat < n67 → Inv g37 → Kp [9, 10, 11, 12, 15] g g37 → 1 ≤ x36.toInt ∧ x36.toInt ≤ 7 → Wm X p l e (rmD 4) s m ([.ref (aL X 13), .ref (aL X 17), .int i0] : List Value).toArray below meth c 8 0 0 (MQ below (cQ X (pV (fun g2 => Inv g2 ∧ Kp [9, 10, 11, 12, 15] g g2))) ([.ref (aL X 13), .ref (aL X 17), .int i0] : List Value).toArray s 0 0 (Ab X)) g37 67 [(0, .ref (aL X 13)), (1, .ref (aL X 17)), (2, .int i0), (3, .int x32), (4, .int x36)] [] := by
          intro n67
          induction n67 with
          | zero => intro x36 g37 hm; exact absurd hm (Nat.not_lt_zero _)
          | succ n67 ih67 =>
            intro x36 g37 hm67 hI38 hK39 i40
            try obtain ⟨i40a, i40b⟩ := i40
            refine m_iload C dX7_addLeaf_67 4 rfl ?_
            refine m_bipush C (6 : Int32) dX7_addLeaf_69 (by decide) ?_
            refine m_icmp_gt C 161 dX7_addLeaf_71 (by decide) (fun h41 => ?_) (fun h41 => ?_)
            · skip
              have th41 := i_lt h41
              rw [show (6 : Int32).toInt = 6 by decide] at th41
              exact m_vret C dX7_addLeaf_161 ⟨rfl, hI38, hK39⟩
            · skip
              have th41 := i_nlt h41
              rw [show (6 : Int32).toInt = 6 by decide] at th41
              refine m_iload_n C dX7_addLeaf_74 3 rfl ?_
              refine m_iload C dX7_addLeaf_75 4 rfl ?_
              refine m_ishr C dX7_addLeaf_77 ?_
              refine m_iload C dX7_addLeaf_78 4 rfl ?_
              refine m_ishl C dX7_addLeaf_80 ?_
              refine m_iload_n C dX7_addLeaf_81 3 rfl ?_
              refine m_icmp_ne C 161 dX7_addLeaf_82 (by decide) (fun h42 => ?_) (fun h42 => ?_)
              · skip
                have th42 := i_ne h42
                exact m_vret C dX7_addLeaf_161 ⟨rfl, hI38, hK39⟩
              · skip
                have th42 := i_eq h42
                refine m_iconst C (1 : Int32) dX7_addLeaf_85 (by decide) ?_
                refine m_iload C dX7_addLeaf_86 4 rfl ?_
                refine m_iconst C (1 : Int32) dX7_addLeaf_88 (by decide) ?_
                refine m_isub C dX7_addLeaf_89 ?_
                refine m_ishl C dX7_addLeaf_90 ?_
                refine m_name (fun x43 ex43 => ?_)
                have hpw := n_pow (lv := x36) (en := x32) (by omega) (by omega) (by omega) (by omega) (by assumption)
                rw [← ex43] at hpw
                refine m_istore C [(5, .int x43), (0, .ref (aL X 13)), (1, .ref (aL X 17)), (2, .int i0), (3, .int x32), (4, .int x36)] dX7_addLeaf_91 (by decide) rfl ?_
                refine m_iload C dX7_addLeaf_93 5 rfl ?_
                refine m_iconst C (1 : Int32) dX7_addLeaf_95 (by decide) ?_
                refine m_isub C dX7_addLeaf_96 ?_
                refine m_iload_n C dX7_addLeaf_97 4 rfl ?_
                refine m_iconst C (2 : Int32) dX7_addLeaf_98 (by decide) ?_
                refine m_iload C dX7_addLeaf_99 0 rfl ?_
                refine m_imul C dX7_addLeaf_101 ?_
                refine m_isub C dX7_addLeaf_102 ?_
                have t44 : (x36 - (1 : Int32)).toInt = x36.toInt - (1 : Int) := i_sub rfl (by decide) (by omega) (by omega)
                have t45 : ((2 : Int32) * x43).toInt = (2 : Int) * x43.toInt := i_mul (by decide) rfl (by omega) (by omega)
                have t46 : (x32 - ((2 : Int32) * x43)).toInt = x32.toInt - ((2 : Int) * x43.toInt) := i_sub rfl t45 (by omega) (by omega)
                refine m_invS C cal_X7_nodeAt (c_X7_nodeAt l hX g37 (x36 - (1 : Int32)) (x32 - ((2 : Int32) * x43)) hI38 (by omega) (by omega)) lk_X7_32 st_X7_nodeAt (by decide) rfl rfl (Nat.le_of_ble_eq_true rfl) dX7_addLeaf_103 ⟨Nat.le_refl _, Nat.le_refl _⟩ (rI fun r47 g48 q49 => ?_)
                obtain ⟨eg48, p50⟩ := q49
                subst g48
                refine m_istore C [(6, .int r47), (5, .int x43), (0, .ref (aL X 13)), (1, .ref (aL X 17)), (2, .int i0), (3, .int x32), (4, .int x36)] dX7_addLeaf_106 (by decide) rfl ?_
                refine m_iload C dX7_addLeaf_108 6 rfl ?_
                refine m_iconst C (1 : Int32) dX7_addLeaf_110 (by decide) ?_
                refine m_isub C dX7_addLeaf_111 ?_
                refine m_iload_n C dX7_addLeaf_112 5 rfl ?_
                refine m_iload C dX7_addLeaf_113 1 rfl ?_
                refine m_isub C dX7_addLeaf_115 ?_
                have t52 : (x36 - (1 : Int32)).toInt = x36.toInt - (1 : Int) := i_sub rfl (by decide) (by omega) (by omega)
                have t53 : (x32 - x43).toInt = x32.toInt - x43.toInt := i_sub rfl rfl (by omega) (by omega)
                refine m_invS C cal_X7_nodeAt (c_X7_nodeAt l hX g37 (x36 - (1 : Int32)) (x32 - x43) hI38 (by omega) (by omega)) lk_X7_32 st_X7_nodeAt (by decide) rfl rfl (Nat.le_of_ble_eq_true rfl) dX7_addLeaf_116 ⟨Nat.le_refl _, Nat.le_refl _⟩ (rI fun r54 g55 q56 => ?_)
                obtain ⟨eg55, p57⟩ := q56
                subst g55
                refine m_istore C [(7, .int r54), (6, .int r47), (5, .int x43), (0, .ref (aL X 13)), (1, .ref (aL X 17)), (2, .int i0), (3, .int x32), (4, .int x36)] dX7_addLeaf_119 (by decide) rfl ?_
                refine m_aload_n C dX7_addLeaf_121 3 rfl ?_
                refine m_getr (rf := "") C 0 rfl gd7 (by decide) sh_13 rfl dX7_addLeaf_122 lk_X7_20 ?_
                refine m_aload_n C dX7_addLeaf_125 3 rfl ?_
                refine m_getr (rf := "") C 1 rfl gd7 (by decide) sh_13 rfl dX7_addLeaf_126 lk_X7_14 ?_
                refine m_iload C dX7_addLeaf_129 1 rfl ?_
                refine m_aload_n C dX7_addLeaf_131 3 rfl ?_
                refine m_getr (rf := "") C 1 rfl gd7 (by decide) sh_13 rfl dX7_addLeaf_132 lk_X7_14 ?_
                refine m_iload C dX7_addLeaf_135 0 rfl ?_
                refine m_aload_n C dX7_addLeaf_137 3 rfl ?_
                refine m_getr (rf := "") C 1 rfl gd7 (by decide) sh_13 rfl dX7_addLeaf_138 lk_X7_14 ?_
                refine m_iload C dX7_addLeaf_141 7 rfl ?_
                refine m_iload_n C dX7_addLeaf_143 6 rfl ?_
                refine m_iconst C (2 : Int32) dX7_addLeaf_144 (by decide) ?_
                refine m_iload C dX7_addLeaf_145 2 rfl ?_
                refine m_imul C dX7_addLeaf_147 ?_
                refine m_isub C dX7_addLeaf_148 ?_
                have t59 : ((2 : Int32) * x43).toInt = (2 : Int) * x43.toInt := i_mul (by decide) rfl (by omega) (by omega)
                have t60 : (x32 - ((2 : Int32) * x43)).toInt = x32.toInt - ((2 : Int) * x43.toInt) := i_sub rfl t59 (by omega) (by omega)
                refine m_invS C cal_X7_nodeAt (c_X7_nodeAt l hX g37 x36 (x32 - ((2 : Int32) * x43)) hI38 (by omega) (by omega)) lk_X7_32 st_X7_nodeAt (by decide) rfl rfl (Nat.le_of_ble_eq_true rfl) dX7_addLeaf_149 ⟨Nat.le_refl _, Nat.le_refl _⟩ (rI fun r61 g62 q63 => ?_)
                obtain ⟨eg62, p64⟩ := q63
                subst g62
                refine m_invVN C cal_X1_pairInto sh_9 rfl (c_X1_pairInto_14_14_14 l hX g37 r47 r54 r61 hI38 (by omega) (by omega) (by omega)) lk_X7_40 im_X1_pairInto se_X1_pairInto (by decide) rfl rfl (Nat.le_of_ble_eq_true rfl) dX7_addLeaf_152 ⟨Nat.le_refl _, Nat.le_refl _⟩ (rV fun g66 q67 => ?_)
                obtain ⟨hI68, hK69⟩ := q67
                have hK70 : Kp [9, 10, 11, 12, 15] g g66 := (hK39).tr hK69 (by decide)
                obtain ⟨x71, ex71⟩ : ∃ z : Int32, z = x36 + Int32.ofInt 1 := ⟨_, rfl⟩
                have t72 : (x36 + (Int32.ofInt 1)).toInt = x36.toInt + (1 : Int) := i_add rfl (by decide) (by omega) (by omega)
                have t73 : x71.toInt = (x36.toInt + (1 : Int)) := (congrArg Int32.toInt ex71).trans t72
                refine m_iinc C x71 [(4, .int x71), (7, .int r54), (6, .int r47), (5, .int x43), (0, .ref (aL X 13)), (1, .ref (aL X 17)), (2, .int i0), (3, .int x32)] dX7_addLeaf_155 (q := 7) rfl ex71.symm (by decide) rfl ?_
                refine m_goto C 67 dX7_addLeaf_158 (by decide) ?_
                refine m_lv [4, 5, 6, 7, 0] rfl ?_
                exact ih67 x71 g66 (by omega) hI68 hK70 (by omega)
        have t74 : (1 : Int32).toInt = 1 := by decide
        refine m_lv [2, 3, 4, 1, 0] rfl ?_
        exact L67 (((8 - (1 : Int32).toInt).toNat) + 1) (1 : Int32) g27 (Nat.lt_succ_self _) hI29 hK31 (by omega)
      · skip
        have th20 := i_nle h20
        rw [show (12 : Int32).toInt = 12 by decide] at th20
        refine m_aload_n C dX7_addLeaf_23 0 rfl ?_
        refine m_getr (rf := "") C 0 rfl gd7 (by decide) sh_13 rfl dX7_addLeaf_24 lk_X7_20 ?_
        refine m_aload_n C dX7_addLeaf_27 1 rfl ?_
        refine m_iload_n C dX7_addLeaf_28 2 rfl ?_
        refine m_bipush C (12 : Int32) dX7_addLeaf_29 (by decide) ?_
        refine m_imul C dX7_addLeaf_31 ?_
        refine m_iload_n C dX7_addLeaf_32 3 rfl ?_
        refine m_iadd C dX7_addLeaf_33 ?_
        have t75 : (i0 * (12 : Int32)).toInt = i0.toInt * (12 : Int) := i_mul rfl (by decide) (by omega) (by omega)
        have t76 : ((i0 * (12 : Int32)) + x15).toInt = (i0.toInt * (12 : Int)) + x15.toInt := i_add t75 rfl (by omega) (by omega)
        refine m_iald C sh_17 (i_in (by omega) (by omega)) dX7_addLeaf_34 ?_
        refine m_invVN C cal_X1_add sh_9 rfl (c_X1_add l hX g16 (g16 17 ((i0 * (12 : Int32)) + x15).toNatClampNeg) hI17) lk_X7_29 im_X1_add se_X1_add (by decide) rfl rfl (Nat.le_of_ble_eq_true rfl) dX7_addLeaf_35 ⟨Nat.le_refl _, Nat.le_refl _⟩ (rV fun g78 q79 => ?_)
        obtain ⟨hI80, hK81⟩ := q79
        have hK82 : Kp [9, 10, 11, 12, 15] g g78 := (hK18).tr hK81 (by decide)
        obtain ⟨x83, ex83⟩ : ∃ z : Int32, z = x15 + Int32.ofInt 1 := ⟨_, rfl⟩
        have t84 : (x15 + (Int32.ofInt 1)).toInt = x15.toInt + (1 : Int) := i_add rfl (by decide) (by omega) (by omega)
        have t85 : x83.toInt = (x15.toInt + (1 : Int)) := (congrArg Int32.toInt ex83).trans t84
        refine m_iinc C x83 [(3, .int x83), (0, .ref (aL X 13)), (1, .ref (aL X 17)), (2, .int i0)] dX7_addLeaf_38 (q := 3) rfl ex83.symm (by decide) rfl ?_
        refine m_goto C 17 dX7_addLeaf_41 (by decide) ?_
        refine m_lv [1, 2, 3, 0] rfl ?_
        exact ih17 x83 g78 (by omega) hI80 hK82 (by omega)
  have t86 : (0 : Int32).toInt = 0 := by decide
  refine m_lv [1, 2, 3, 0] rfl ?_
  exact L17 (((13 - (0 : Int32).toInt).toNat) + 1) (0 : Int32) g9 (Nat.lt_succ_self _) hI11 hK13 (by omega)
set_option maxRecDepth 20000 in
set_option maxHeartbeats 4000000 in
theorem c_X7_rootOf_32 (l : Launch) {X : XT} (hX : Lok X) (g : Mem) (fr_ : Int32) (ti : Int32) (t : Int32) (hI : Inv g) (h_fr_ : 0 ≤ fr_.toInt ∧ fr_.toInt ≤ 60) (h_ti : 0 ≤ ti.toInt ∧ ti.toInt ≤ 60) (h_t : 0 ≤ t.toInt ∧ t.toInt ≤ 0) : Ctr l X yX7_rootOf cX7_rootOf 10 none (rmD 4) [.ref (aL X 13), .int fr_, .int ti, .ref (aL X 32), .int t] g (pV (fun g2 => Inv g2 ∧ Kp [9, 10, 11, 12, 33] g g2)) := by
  refine Ctr.of (lv := [(0, .ref (aL X 13)), (1, .int fr_), (2, .int ti), (3, .ref (aL X 32)), (4, .int t)]) hX (by decide) rfl (Nat.le_of_ble_eq_true rfl) ?_
  intro p e s m below meth c C
  refine m_iload_n C dX7_rootOf_0 2 rfl ?_
  refine m_iload_n C dX7_rootOf_1 1 rfl ?_
  refine m_isub C dX7_rootOf_2 ?_
  refine m_name (fun x1 ex1 => ?_)
  have t2 : (ti - fr_).toInt = ti.toInt - fr_.toInt := i_sub rfl rfl (by omega) (by omega)
  have t3 : x1.toInt = (ti.toInt - fr_.toInt) := (congrArg Int32.toInt ex1).trans t2
  refine m_istore C [(5, .int x1), (0, .ref (aL X 13)), (1, .int fr_), (2, .int ti), (3, .ref (aL X 32)), (4, .int t)] dX7_rootOf_3 (by decide) rfl ?_
  refine m_iload C dX7_rootOf_5 0 rfl ?_
  refine m_if_gt C 28 dX7_rootOf_7 (by decide) (fun h4 => ?_) (fun h4 => ?_)
  · skip
    have th4 := i_lt h4
    rw [show (0 : Int32).toInt = 0 by decide] at th4
    refine m_iload_n C dX7_rootOf_28 3 rfl ?_
    refine m_istore C [(6, .int ti), (5, .int x1), (0, .ref (aL X 13)), (1, .int fr_), (2, .int ti), (3, .ref (aL X 32)), (4, .int t)] dX7_rootOf_29 (by decide) rfl ?_
    refine m_iconst C (0 : Int32) dX7_rootOf_31 (by decide) ?_
    refine m_istore C [(7, .int (0 : Int32)), (6, .int ti), (5, .int x1), (0, .ref (aL X 13)), (1, .int fr_), (2, .int ti), (3, .ref (aL X 32)), (4, .int t)] dX7_rootOf_32 (by decide) rfl ?_
    have L34 : ∀ (n34 : Nat) (x7 : Int32) (x8 : Int32) (g9 : Mem), (8 - x8.toInt).toNat < n34 → Inv g9 → Kp [9, 10, 11, 12, 33] g g9 → 0 ≤ x8.toInt ∧ x8.toInt ≤ 7 → n_inv x1 x7 x8 ti → 0 ≤ x7.toInt ∧ x7.toInt ≤ 60 → Wm X p l e (rmD 4) s m ([.ref (aL X 13), .int fr_, .int ti, .ref (aL X 32), .int t] : List Value).toArray below meth c 10 0 0 (MQ below (cQ X (pV (fun g2 => Inv g2 ∧ Kp [9, 10, 11, 12, 33] g g2))) ([.ref (aL X 13), .int fr_, .int ti, .ref (aL X 32), .int t] : List Value).toArray s 0 0 (Ab X)) g9 34 [(0, .ref (aL X 13)), (1, .int fr_), (2, .int ti), (3, .ref (aL X 32)), (4, .int t), (5, .int x1), (6, .int x7), (7, .int x8)] [] := by
      intro n34
      induction n34 with
      | zero => intro x7 x8 g9 hm; exact absurd hm (Nat.not_lt_zero _)
      | succ n34 ih34 =>
        intro x7 x8 g9 hm34 hI10 hK11 i12 i13 i14
        try obtain ⟨i12a, i12b⟩ := i12
        try obtain ⟨i13a, i13b⟩ := i13
        try obtain ⟨i14a, i14b⟩ := i14
        refine m_iload C dX7_rootOf_34 7 rfl ?_
        refine m_bipush C (6 : Int32) dX7_rootOf_36 (by decide) ?_
        refine m_icmp_gt C 133 dX7_rootOf_38 (by decide) (fun h15 => ?_) (fun h15 => ?_)
        · skip
          have th15 := i_lt h15
          rw [show (6 : Int32).toInt = 6 by decide] at th15
          exact m_vret C dX7_rootOf_133 ⟨rfl, hI10, hK11⟩
        · skip
          have th15 := i_nlt h15
          rw [show (6 : Int32).toInt = 6 by decide] at th15
          refine m_iconst C (1 : Int32) dX7_rootOf_41 (by decide) ?_
          refine m_iload C dX7_rootOf_42 7 rfl ?_
          refine m_ishl C dX7_rootOf_44 ?_
          refine m_name (fun x16 ex16 => ?_)
          have hst := n_st (len := x1) (start := x7) (lv := x8) (ti := ti) (by assumption) (by omega) (by omega) (by omega) (by omega)
          rw [← ex16] at hst
          refine m_istore C [(8, .int x16), (0, .ref (aL X 13)), (1, .int fr_), (2, .int ti), (3, .ref (aL X 32)), (4, .int t), (5, .int x1), (6, .int x7), (7, .int x8)] dX7_rootOf_45 (by decide) rfl ?_
          refine m_iload C dX7_rootOf_47 6 rfl ?_
          refine m_iload C dX7_rootOf_49 0 rfl ?_
          refine m_iand C dX7_rootOf_51 ?_
          refine m_if_ne C 58 dX7_rootOf_52 (by decide) (fun h17 => ?_) (fun h17 => ?_)
          · skip
            have th17 := i_ne h17
            rw [show (0 : Int32).toInt = 0 by decide] at th17
            refine m_iload C dX7_rootOf_58 7 rfl ?_
            refine m_iload_n C dX7_rootOf_60 3 rfl ?_
            refine m_icmp_ne C 68 dX7_rootOf_61 (by decide) (fun h18 => ?_) (fun h18 => ?_)
            · skip
              have th18 := i_ne h18
              refine m_iconst C (0 : Int32) dX7_rootOf_68 (by decide) ?_
              refine m_istore C [(9, .int (0 : Int32)), (8, .int x16), (0, .ref (aL X 13)), (1, .int fr_), (2, .int ti), (3, .ref (aL X 32)), (4, .int t), (5, .int x1), (6, .int x7), (7, .int x8)] dX7_rootOf_69 (by decide) rfl ?_
              refine m_iload C dX7_rootOf_71 8 rfl ?_
              refine m_iload C dX7_rootOf_73 1 rfl ?_
              refine m_isub C dX7_rootOf_75 ?_
              refine m_name (fun x20 ex20 => ?_)
              have t21 : (x7 - x16).toInt = x7.toInt - x16.toInt := i_sub rfl rfl (by omega) (by omega)
              have t22 : x20.toInt = (x7.toInt - x16.toInt) := (congrArg Int32.toInt ex20).trans t21
              have hsg := hst.2.2.2.2.1 (by assumption)
              refine m_istore C [(6, .int x20), (9, .int (0 : Int32)), (8, .int x16), (0, .ref (aL X 13)), (1, .int fr_), (2, .int ti), (3, .ref (aL X 32)), (4, .int t), (5, .int x1), (7, .int x8)] dX7_rootOf_76 (by decide) rfl ?_
              refine m_iload C dX7_rootOf_78 1 rfl ?_
              refine m_if_eq C 103 dX7_rootOf_80 (by decide) (fun _ => ?_) (fun h => absurd (by decide) h)
              refine m_aload_n C dX7_rootOf_103 3 rfl ?_
              refine m_getr (rf := "") C 0 rfl gd7 (by decide) sh_13 rfl dX7_rootOf_104 lk_X7_20 ?_
              refine m_aload_n C dX7_rootOf_107 3 rfl ?_
              refine m_getr (rf := "") C 1 rfl gd7 (by decide) sh_13 rfl dX7_rootOf_108 lk_X7_14 ?_
              refine m_iload C dX7_rootOf_111 9 rfl ?_
              refine m_iload C dX7_rootOf_113 0 rfl ?_
              refine m_invS C cal_X7_nodeAt (c_X7_nodeAt l hX g9 x8 x20 hI10 (by omega) (by omega)) lk_X7_32 st_X7_nodeAt (by decide) rfl rfl (Nat.le_of_ble_eq_true rfl) dX7_rootOf_115 ⟨Nat.le_refl _, Nat.le_refl _⟩ (rI fun r23 g24 q25 => ?_)
              obtain ⟨eg24, p26⟩ := q25
              subst g24
              refine m_aload_n C dX7_rootOf_118 6 rfl ?_
              refine m_iload C dX7_rootOf_119 7 rfl ?_
              refine m_aload_n C dX7_rootOf_121 6 rfl ?_
              refine m_iload C dX7_rootOf_122 7 rfl ?_
              refine m_invVN C cal_X1_pairInto sh_9 rfl (c_X1_pairInto_14_32_32 l hX g9 r23 t t hI10 (by omega) (by omega) (by omega)) lk_X7_40 im_X1_pairInto se_X1_pairInto (by decide) rfl rfl (Nat.le_of_ble_eq_true rfl) dX7_rootOf_124 ⟨Nat.le_refl _, Nat.le_refl _⟩ (rV fun g28 q29 => ?_)
              obtain ⟨hI30, hK31⟩ := q29
              have hK32 : Kp [9, 10, 11, 12, 33] g g28 := (hK11).tr hK31 (by decide)
              obtain ⟨x33, ex33⟩ : ∃ z : Int32, z = x8 + Int32.ofInt 1 := ⟨_, rfl⟩
              have t34 : (x8 + (Int32.ofInt 1)).toInt = x8.toInt + (1 : Int) := i_add rfl (by decide) (by omega) (by omega)
              have t35 : x33.toInt = (x8.toInt + (1 : Int)) := (congrArg Int32.toInt ex33).trans t34
              refine m_iinc C x33 [(7, .int x33), (6, .int x20), (9, .int (0 : Int32)), (8, .int x16), (0, .ref (aL X 13)), (1, .int fr_), (2, .int ti), (3, .ref (aL X 32)), (4, .int t), (5, .int x1)] dX7_rootOf_127 (q := 9) rfl ex33.symm (by decide) rfl ?_
              refine m_goto C 34 dX7_rootOf_130 (by decide) ?_
              refine m_lv [4, 5, 6, 7, 8, 9, 1, 0] rfl ?_
              exact ih34 x20 x33 g28 (by omega) hI30 hK32 (by omega) (by rw [ex33]; first | exact hst.1 (by assumption) | exact hst.2.1 (by assumption) _ (by omega)) (by omega)
            · skip
              have th18 := i_eq h18
              refine m_iconst C (1 : Int32) dX7_rootOf_64 (by decide) ?_
              refine m_goto C 69 dX7_rootOf_65 (by decide) ?_
              refine m_istore C [(9, .int (1 : Int32)), (8, .int x16), (0, .ref (aL X 13)), (1, .int fr_), (2, .int ti), (3, .ref (aL X 32)), (4, .int t), (5, .int x1), (6, .int x7), (7, .int x8)] dX7_rootOf_69 (by decide) rfl ?_
              refine m_iload C dX7_rootOf_71 8 rfl ?_
              refine m_iload C dX7_rootOf_73 1 rfl ?_
              refine m_isub C dX7_rootOf_75 ?_
              refine m_name (fun x37 ex37 => ?_)
              have t38 : (x7 - x16).toInt = x7.toInt - x16.toInt := i_sub rfl rfl (by omega) (by omega)
              have t39 : x37.toInt = (x7.toInt - x16.toInt) := (congrArg Int32.toInt ex37).trans t38
              have hsg := hst.2.2.2.2.1 (by assumption)
              refine m_istore C [(6, .int x37), (9, .int (1 : Int32)), (8, .int x16), (0, .ref (aL X 13)), (1, .int fr_), (2, .int ti), (3, .ref (aL X 32)), (4, .int t), (5, .int x1), (7, .int x8)] dX7_rootOf_76 (by decide) rfl ?_
              refine m_iload C dX7_rootOf_78 1 rfl ?_
              refine m_if_eq C 103 dX7_rootOf_80 (by decide) (fun h => absurd h (by decide)) (fun _ => ?_)
              refine m_aload_n C dX7_rootOf_83 6 rfl ?_
              refine m_iload C dX7_rootOf_84 7 rfl ?_
              refine m_aload_n C dX7_rootOf_86 3 rfl ?_
              refine m_getr (rf := "") C 1 rfl gd7 (by decide) sh_13 rfl dX7_rootOf_87 lk_X7_14 ?_
              refine m_iload C dX7_rootOf_90 9 rfl ?_
              refine m_iload C dX7_rootOf_92 0 rfl ?_
              refine m_invS C cal_X7_nodeAt (c_X7_nodeAt l hX g9 x8 x37 hI10 (by omega) (by omega)) lk_X7_32 st_X7_nodeAt (by decide) rfl rfl (Nat.le_of_ble_eq_true rfl) dX7_rootOf_94 ⟨Nat.le_refl _, Nat.le_refl _⟩ (rI fun r40 g41 q42 => ?_)
              obtain ⟨eg41, p43⟩ := q42
              subst g41
              refine m_invVN C cal_X2_copyFrom sh_32 rfl (c_X2_copyFrom_32_14 l hX g9 t r40 hI10 (by omega) (by omega)) lk_X7_44 im_X2_copyFrom se_X2_copyFrom (by decide) rfl rfl (Nat.le_of_ble_eq_true rfl) dX7_rootOf_97 ⟨Nat.le_refl _, Nat.le_refl _⟩ (rV fun g45 q46 => ?_)
              obtain ⟨hI47, hK48⟩ := q46
              have hK49 : Kp [9, 10, 11, 12, 33] g g45 := (hK11).tr hK48 (by decide)
              refine m_goto C 127 dX7_rootOf_100 (by decide) ?_
              obtain ⟨x50, ex50⟩ : ∃ z : Int32, z = x8 + Int32.ofInt 1 := ⟨_, rfl⟩
              have t51 : (x8 + (Int32.ofInt 1)).toInt = x8.toInt + (1 : Int) := i_add rfl (by decide) (by omega) (by omega)
              have t52 : x50.toInt = (x8.toInt + (1 : Int)) := (congrArg Int32.toInt ex50).trans t51
              refine m_iinc C x50 [(7, .int x50), (6, .int x37), (9, .int (1 : Int32)), (8, .int x16), (0, .ref (aL X 13)), (1, .int fr_), (2, .int ti), (3, .ref (aL X 32)), (4, .int t), (5, .int x1)] dX7_rootOf_127 (q := 9) rfl ex50.symm (by decide) rfl ?_
              refine m_goto C 34 dX7_rootOf_130 (by decide) ?_
              refine m_lv [4, 5, 6, 7, 8, 9, 1, 0] rfl ?_
              exact ih34 x37 x50 g45 (by omega) hI47 hK49 (by omega) (by rw [ex50]; first | exact hst.1 (by assumption) | exact hst.2.1 (by assumption) _ (by omega)) (by omega)
          · skip
            have th17 := i_eq h17
            rw [show (0 : Int32).toInt = 0 by decide] at th17
            refine m_goto C 127 dX7_rootOf_55 (by decide) ?_
            obtain ⟨x53, ex53⟩ : ∃ z : Int32, z = x8 + Int32.ofInt 1 := ⟨_, rfl⟩
            have t54 : (x8 + (Int32.ofInt 1)).toInt = x8.toInt + (1 : Int) := i_add rfl (by decide) (by omega) (by omega)
            have t55 : x53.toInt = (x8.toInt + (1 : Int)) := (congrArg Int32.toInt ex53).trans t54
            refine m_iinc C x53 [(7, .int x53), (8, .int x16), (0, .ref (aL X 13)), (1, .int fr_), (2, .int ti), (3, .ref (aL X 32)), (4, .int t), (5, .int x1), (6, .int x7)] dX7_rootOf_127 (q := 8) rfl ex53.symm (by decide) rfl ?_
            refine m_goto C 34 dX7_rootOf_130 (by decide) ?_
            refine m_lv [2, 3, 4, 5, 6, 7, 8, 0] rfl ?_
            exact ih34 x7 x53 g9 (by omega) hI10 hK11 (by omega) (by rw [ex53]; first | exact hst.1 (by assumption) | exact hst.2.1 (by assumption) _ (by omega)) (by omega)
    have t56 : (0 : Int32).toInt = 0 := by decide
    refine m_lv [3, 4, 5, 6, 7, 2, 1, 0] rfl ?_
    exact L34 (((8 - (0 : Int32).toInt).toNat) + 1) ti (0 : Int32) g (Nat.lt_succ_self _) hI Kp.rf (by omega) n_in0 (by omega)
  · skip
    have th4 := i_nlt h4
    rw [show (0 : Int32).toInt = 0 by decide] at th4
    refine m_aload_n C dX7_rootOf_10 1 rfl ?_
    refine m_getr (rf := "") C 0 rfl gd7 (by decide) sh_13 rfl dX7_rootOf_11 lk_X7_20 ?_
    refine m_invVN C cal_X1_begin sh_9 rfl (c_X1_begin l hX g  hI) lk_X7_24 im_X1_begin se_X1_begin (by decide) rfl rfl (Nat.le_of_ble_eq_true rfl) dX7_rootOf_14 ⟨Nat.le_refl _, Nat.le_refl _⟩ (rV fun g58 q59 => ?_)
    obtain ⟨hI60, hK61⟩ := q59
    have hK62 : Kp [9, 10, 11, 12, 33] g g58 := (Kp.rf).tr hK61 (by decide)
    refine m_aload_n C dX7_rootOf_17 1 rfl ?_
    refine m_getr (rf := "") C 0 rfl gd7 (by decide) sh_13 rfl dX7_rootOf_18 lk_X7_20 ?_
    refine m_aload_n C dX7_rootOf_21 4 rfl ?_
    refine m_iload C dX7_rootOf_22 5 rfl ?_
    refine m_invVN C cal_X1_finish sh_9 rfl (c_X1_finish_32 l hX g58 t hI60 (by omega)) lk_X7_36 im_X1_finish se_X1_finish (by decide) rfl rfl (Nat.le_of_ble_eq_true rfl) dX7_rootOf_24 ⟨Nat.le_refl _, Nat.le_refl _⟩ (rV fun g64 q65 => ?_)
    obtain ⟨hI66, hK67⟩ := q65
    have hK68 : Kp [9, 10, 11, 12, 33] g g64 := (hK62).tr hK67 (by decide)
    exact m_vret C dX7_rootOf_27 ⟨rfl, hI66, hK68⟩
set_option maxRecDepth 20000 in
set_option maxHeartbeats 4000000 in
theorem c_X7_rootOf_21 (l : Launch) {X : XT} (hX : Lok X) (g : Mem) (fr_ : Int32) (ti : Int32) (t : Int32) (hI : Inv g) (h_fr_ : 0 ≤ fr_.toInt ∧ fr_.toInt ≤ 60) (h_ti : 0 ≤ ti.toInt ∧ ti.toInt ≤ 60) (h_t : 0 ≤ t.toInt ∧ t.toInt ≤ 7) : Ctr l X yX7_rootOf cX7_rootOf 10 none (rmD 4) [.ref (aL X 13), .int fr_, .int ti, .ref (aL X 21), .int t] g (pV (fun g2 => Inv g2 ∧ Kp [9, 10, 11, 12, 22] g g2)) := by
  refine Ctr.of (lv := [(0, .ref (aL X 13)), (1, .int fr_), (2, .int ti), (3, .ref (aL X 21)), (4, .int t)]) hX (by decide) rfl (Nat.le_of_ble_eq_true rfl) ?_
  intro p e s m below meth c C
  refine m_iload_n C dX7_rootOf_0 2 rfl ?_
  refine m_iload_n C dX7_rootOf_1 1 rfl ?_
  refine m_isub C dX7_rootOf_2 ?_
  refine m_name (fun x1 ex1 => ?_)
  have t2 : (ti - fr_).toInt = ti.toInt - fr_.toInt := i_sub rfl rfl (by omega) (by omega)
  have t3 : x1.toInt = (ti.toInt - fr_.toInt) := (congrArg Int32.toInt ex1).trans t2
  refine m_istore C [(5, .int x1), (0, .ref (aL X 13)), (1, .int fr_), (2, .int ti), (3, .ref (aL X 21)), (4, .int t)] dX7_rootOf_3 (by decide) rfl ?_
  refine m_iload C dX7_rootOf_5 0 rfl ?_
  refine m_if_gt C 28 dX7_rootOf_7 (by decide) (fun h4 => ?_) (fun h4 => ?_)
  · skip
    have th4 := i_lt h4
    rw [show (0 : Int32).toInt = 0 by decide] at th4
    refine m_iload_n C dX7_rootOf_28 3 rfl ?_
    refine m_istore C [(6, .int ti), (5, .int x1), (0, .ref (aL X 13)), (1, .int fr_), (2, .int ti), (3, .ref (aL X 21)), (4, .int t)] dX7_rootOf_29 (by decide) rfl ?_
    refine m_iconst C (0 : Int32) dX7_rootOf_31 (by decide) ?_
    refine m_istore C [(7, .int (0 : Int32)), (6, .int ti), (5, .int x1), (0, .ref (aL X 13)), (1, .int fr_), (2, .int ti), (3, .ref (aL X 21)), (4, .int t)] dX7_rootOf_32 (by decide) rfl ?_
    have L34 : ∀ (n34 : Nat) (x7 : Int32) (x8 : Int32) (g9 : Mem), (8 - x8.toInt).toNat < n34 → Inv g9 → Kp [9, 10, 11, 12, 22] g g9 → 0 ≤ x8.toInt ∧ x8.toInt ≤ 7 → n_inv x1 x7 x8 ti → 0 ≤ x7.toInt ∧ x7.toInt ≤ 60 → Wm X p l e (rmD 4) s m ([.ref (aL X 13), .int fr_, .int ti, .ref (aL X 21), .int t] : List Value).toArray below meth c 10 0 0 (MQ below (cQ X (pV (fun g2 => Inv g2 ∧ Kp [9, 10, 11, 12, 22] g g2))) ([.ref (aL X 13), .int fr_, .int ti, .ref (aL X 21), .int t] : List Value).toArray s 0 0 (Ab X)) g9 34 [(0, .ref (aL X 13)), (1, .int fr_), (2, .int ti), (3, .ref (aL X 21)), (4, .int t), (5, .int x1), (6, .int x7), (7, .int x8)] [] := by
      intro n34
      induction n34 with
      | zero => intro x7 x8 g9 hm; exact absurd hm (Nat.not_lt_zero _)
      | succ n34 ih34 =>
        intro x7 x8 g9 hm34 hI10 hK11 i12 i13 i14
        try obtain ⟨i12a, i12b⟩ := i12
        try obtain ⟨i13a, i13b⟩ := i13
        try obtain ⟨i14a, i14b⟩ := i14
        refine m_iload C dX7_rootOf_34 7 rfl ?_
        refine m_bipush C (6 : Int32) dX7_rootOf_36 (by decide) ?_
        refine m_icmp_gt C 133 dX7_rootOf_38 (by decide) (fun h15 => ?_) (fun h15 => ?_)
        · skip
          have th15 := i_lt h15
          rw [show (6 : Int32).toInt = 6 by decide] at th15
          exact m_vret C dX7_rootOf_133 ⟨rfl, hI10, hK11⟩
        · skip
          have th15 := i_nlt h15
          rw [show (6 : Int32).toInt = 6 by decide] at th15
          refine m_iconst C (1 : Int32) dX7_rootOf_41 (by decide) ?_
          refine m_iload C dX7_rootOf_42 7 rfl ?_
          refine m_ishl C dX7_rootOf_44 ?_
          refine m_name (fun x16 ex16 => ?_)
          have hst := n_st (len := x1) (start := x7) (lv := x8) (ti := ti) (by assumption) (by omega) (by omega) (by omega) (by omega)
          rw [← ex16] at hst
          refine m_istore C [(8, .int x16), (0, .ref (aL X 13)), (1, .int fr_), (2, .int ti), (3, .ref (aL X 21)), (4, .int t), (5, .int x1), (6, .int x7), (7, .int x8)] dX7_rootOf_45 (by decide) rfl ?_
          refine m_iload C dX7_rootOf_47 6 rfl ?_
          refine m_iload C dX7_rootOf_49 0 rfl ?_
          refine m_iand C dX7_rootOf_51 ?_
          refine m_if_ne C 58 dX7_rootOf_52 (by decide) (fun h17 => ?_) (fun h17 => ?_)
          · skip
            have th17 := i_ne h17
            rw [show (0 : Int32).toInt = 0 by decide] at th17
            refine m_iload C dX7_rootOf_58 7 rfl ?_
            refine m_iload_n C dX7_rootOf_60 3 rfl ?_
            refine m_icmp_ne C 68 dX7_rootOf_61 (by decide) (fun h18 => ?_) (fun h18 => ?_)
            · skip
              have th18 := i_ne h18
              refine m_iconst C (0 : Int32) dX7_rootOf_68 (by decide) ?_
              refine m_istore C [(9, .int (0 : Int32)), (8, .int x16), (0, .ref (aL X 13)), (1, .int fr_), (2, .int ti), (3, .ref (aL X 21)), (4, .int t), (5, .int x1), (6, .int x7), (7, .int x8)] dX7_rootOf_69 (by decide) rfl ?_
              refine m_iload C dX7_rootOf_71 8 rfl ?_
              refine m_iload C dX7_rootOf_73 1 rfl ?_
              refine m_isub C dX7_rootOf_75 ?_
              refine m_name (fun x20 ex20 => ?_)
              have t21 : (x7 - x16).toInt = x7.toInt - x16.toInt := i_sub rfl rfl (by omega) (by omega)
              have t22 : x20.toInt = (x7.toInt - x16.toInt) := (congrArg Int32.toInt ex20).trans t21
              have hsg := hst.2.2.2.2.1 (by assumption)
              refine m_istore C [(6, .int x20), (9, .int (0 : Int32)), (8, .int x16), (0, .ref (aL X 13)), (1, .int fr_), (2, .int ti), (3, .ref (aL X 21)), (4, .int t), (5, .int x1), (7, .int x8)] dX7_rootOf_76 (by decide) rfl ?_
              refine m_iload C dX7_rootOf_78 1 rfl ?_
              refine m_if_eq C 103 dX7_rootOf_80 (by decide) (fun _ => ?_) (fun h => absurd (by decide) h)
              refine m_aload_n C dX7_rootOf_103 3 rfl ?_
              refine m_getr (rf := "") C 0 rfl gd7 (by decide) sh_13 rfl dX7_rootOf_104 lk_X7_20 ?_
              refine m_aload_n C dX7_rootOf_107 3 rfl ?_
              refine m_getr (rf := "") C 1 rfl gd7 (by decide) sh_13 rfl dX7_rootOf_108 lk_X7_14 ?_
              refine m_iload C dX7_rootOf_111 9 rfl ?_
              refine m_iload C dX7_rootOf_113 0 rfl ?_
              refine m_invS C cal_X7_nodeAt (c_X7_nodeAt l hX g9 x8 x20 hI10 (by omega) (by omega)) lk_X7_32 st_X7_nodeAt (by decide) rfl rfl (Nat.le_of_ble_eq_true rfl) dX7_rootOf_115 ⟨Nat.le_refl _, Nat.le_refl _⟩ (rI fun r23 g24 q25 => ?_)
              obtain ⟨eg24, p26⟩ := q25
              subst g24
              refine m_aload_n C dX7_rootOf_118 6 rfl ?_
              refine m_iload C dX7_rootOf_119 7 rfl ?_
              refine m_aload_n C dX7_rootOf_121 6 rfl ?_
              refine m_iload C dX7_rootOf_122 7 rfl ?_
              refine m_invVN C cal_X1_pairInto sh_9 rfl (c_X1_pairInto_14_21_21 l hX g9 r23 t t hI10 (by omega) (by omega) (by omega)) lk_X7_40 im_X1_pairInto se_X1_pairInto (by decide) rfl rfl (Nat.le_of_ble_eq_true rfl) dX7_rootOf_124 ⟨Nat.le_refl _, Nat.le_refl _⟩ (rV fun g28 q29 => ?_)
              obtain ⟨hI30, hK31⟩ := q29
              have hK32 : Kp [9, 10, 11, 12, 22] g g28 := (hK11).tr hK31 (by decide)
              obtain ⟨x33, ex33⟩ : ∃ z : Int32, z = x8 + Int32.ofInt 1 := ⟨_, rfl⟩
              have t34 : (x8 + (Int32.ofInt 1)).toInt = x8.toInt + (1 : Int) := i_add rfl (by decide) (by omega) (by omega)
              have t35 : x33.toInt = (x8.toInt + (1 : Int)) := (congrArg Int32.toInt ex33).trans t34
              refine m_iinc C x33 [(7, .int x33), (6, .int x20), (9, .int (0 : Int32)), (8, .int x16), (0, .ref (aL X 13)), (1, .int fr_), (2, .int ti), (3, .ref (aL X 21)), (4, .int t), (5, .int x1)] dX7_rootOf_127 (q := 9) rfl ex33.symm (by decide) rfl ?_
              refine m_goto C 34 dX7_rootOf_130 (by decide) ?_
              refine m_lv [4, 5, 6, 7, 8, 9, 1, 0] rfl ?_
              exact ih34 x20 x33 g28 (by omega) hI30 hK32 (by omega) (by rw [ex33]; first | exact hst.1 (by assumption) | exact hst.2.1 (by assumption) _ (by omega)) (by omega)
            · skip
              have th18 := i_eq h18
              refine m_iconst C (1 : Int32) dX7_rootOf_64 (by decide) ?_
              refine m_goto C 69 dX7_rootOf_65 (by decide) ?_
              refine m_istore C [(9, .int (1 : Int32)), (8, .int x16), (0, .ref (aL X 13)), (1, .int fr_), (2, .int ti), (3, .ref (aL X 21)), (4, .int t), (5, .int x1), (6, .int x7), (7, .int x8)] dX7_rootOf_69 (by decide) rfl ?_
              refine m_iload C dX7_rootOf_71 8 rfl ?_
              refine m_iload C dX7_rootOf_73 1 rfl ?_
              refine m_isub C dX7_rootOf_75 ?_
              refine m_name (fun x37 ex37 => ?_)
              have t38 : (x7 - x16).toInt = x7.toInt - x16.toInt := i_sub rfl rfl (by omega) (by omega)
              have t39 : x37.toInt = (x7.toInt - x16.toInt) := (congrArg Int32.toInt ex37).trans t38
              have hsg := hst.2.2.2.2.1 (by assumption)
              refine m_istore C [(6, .int x37), (9, .int (1 : Int32)), (8, .int x16), (0, .ref (aL X 13)), (1, .int fr_), (2, .int ti), (3, .ref (aL X 21)), (4, .int t), (5, .int x1), (7, .int x8)] dX7_rootOf_76 (by decide) rfl ?_
              refine m_iload C dX7_rootOf_78 1 rfl ?_
              refine m_if_eq C 103 dX7_rootOf_80 (by decide) (fun h => absurd h (by decide)) (fun _ => ?_)
              refine m_aload_n C dX7_rootOf_83 6 rfl ?_
              refine m_iload C dX7_rootOf_84 7 rfl ?_
              refine m_aload_n C dX7_rootOf_86 3 rfl ?_
              refine m_getr (rf := "") C 1 rfl gd7 (by decide) sh_13 rfl dX7_rootOf_87 lk_X7_14 ?_
              refine m_iload C dX7_rootOf_90 9 rfl ?_
              refine m_iload C dX7_rootOf_92 0 rfl ?_
              refine m_invS C cal_X7_nodeAt (c_X7_nodeAt l hX g9 x8 x37 hI10 (by omega) (by omega)) lk_X7_32 st_X7_nodeAt (by decide) rfl rfl (Nat.le_of_ble_eq_true rfl) dX7_rootOf_94 ⟨Nat.le_refl _, Nat.le_refl _⟩ (rI fun r40 g41 q42 => ?_)
              obtain ⟨eg41, p43⟩ := q42
              subst g41
              refine m_invVN C cal_X2_copyFrom sh_21 rfl (c_X2_copyFrom_21_14 l hX g9 t r40 hI10 (by omega) (by omega)) lk_X7_44 im_X2_copyFrom se_X2_copyFrom (by decide) rfl rfl (Nat.le_of_ble_eq_true rfl) dX7_rootOf_97 ⟨Nat.le_refl _, Nat.le_refl _⟩ (rV fun g45 q46 => ?_)
              obtain ⟨hI47, hK48⟩ := q46
              have hK49 : Kp [9, 10, 11, 12, 22] g g45 := (hK11).tr hK48 (by decide)
              refine m_goto C 127 dX7_rootOf_100 (by decide) ?_
              obtain ⟨x50, ex50⟩ : ∃ z : Int32, z = x8 + Int32.ofInt 1 := ⟨_, rfl⟩
              have t51 : (x8 + (Int32.ofInt 1)).toInt = x8.toInt + (1 : Int) := i_add rfl (by decide) (by omega) (by omega)
              have t52 : x50.toInt = (x8.toInt + (1 : Int)) := (congrArg Int32.toInt ex50).trans t51
              refine m_iinc C x50 [(7, .int x50), (6, .int x37), (9, .int (1 : Int32)), (8, .int x16), (0, .ref (aL X 13)), (1, .int fr_), (2, .int ti), (3, .ref (aL X 21)), (4, .int t), (5, .int x1)] dX7_rootOf_127 (q := 9) rfl ex50.symm (by decide) rfl ?_
              refine m_goto C 34 dX7_rootOf_130 (by decide) ?_
              refine m_lv [4, 5, 6, 7, 8, 9, 1, 0] rfl ?_
              exact ih34 x37 x50 g45 (by omega) hI47 hK49 (by omega) (by rw [ex50]; first | exact hst.1 (by assumption) | exact hst.2.1 (by assumption) _ (by omega)) (by omega)
          · skip
            have th17 := i_eq h17
            rw [show (0 : Int32).toInt = 0 by decide] at th17
            refine m_goto C 127 dX7_rootOf_55 (by decide) ?_
            obtain ⟨x53, ex53⟩ : ∃ z : Int32, z = x8 + Int32.ofInt 1 := ⟨_, rfl⟩
            have t54 : (x8 + (Int32.ofInt 1)).toInt = x8.toInt + (1 : Int) := i_add rfl (by decide) (by omega) (by omega)
            have t55 : x53.toInt = (x8.toInt + (1 : Int)) := (congrArg Int32.toInt ex53).trans t54
            refine m_iinc C x53 [(7, .int x53), (8, .int x16), (0, .ref (aL X 13)), (1, .int fr_), (2, .int ti), (3, .ref (aL X 21)), (4, .int t), (5, .int x1), (6, .int x7)] dX7_rootOf_127 (q := 8) rfl ex53.symm (by decide) rfl ?_
            refine m_goto C 34 dX7_rootOf_130 (by decide) ?_
            refine m_lv [2, 3, 4, 5, 6, 7, 8, 0] rfl ?_
            exact ih34 x7 x53 g9 (by omega) hI10 hK11 (by omega) (by rw [ex53]; first | exact hst.1 (by assumption) | exact hst.2.1 (by assumption) _ (by omega)) (by omega)
    have t56 : (0 : Int32).toInt = 0 := by decide
    refine m_lv [3, 4, 5, 6, 7, 2, 1, 0] rfl ?_
    exact L34 (((8 - (0 : Int32).toInt).toNat) + 1) ti (0 : Int32) g (Nat.lt_succ_self _) hI Kp.rf (by omega) n_in0 (by omega)
  · skip
    have th4 := i_nlt h4
    rw [show (0 : Int32).toInt = 0 by decide] at th4
    refine m_aload_n C dX7_rootOf_10 1 rfl ?_
    refine m_getr (rf := "") C 0 rfl gd7 (by decide) sh_13 rfl dX7_rootOf_11 lk_X7_20 ?_
    refine m_invVN C cal_X1_begin sh_9 rfl (c_X1_begin l hX g  hI) lk_X7_24 im_X1_begin se_X1_begin (by decide) rfl rfl (Nat.le_of_ble_eq_true rfl) dX7_rootOf_14 ⟨Nat.le_refl _, Nat.le_refl _⟩ (rV fun g58 q59 => ?_)
    obtain ⟨hI60, hK61⟩ := q59
    have hK62 : Kp [9, 10, 11, 12, 22] g g58 := (Kp.rf).tr hK61 (by decide)
    refine m_aload_n C dX7_rootOf_17 1 rfl ?_
    refine m_getr (rf := "") C 0 rfl gd7 (by decide) sh_13 rfl dX7_rootOf_18 lk_X7_20 ?_
    refine m_aload_n C dX7_rootOf_21 4 rfl ?_
    refine m_iload C dX7_rootOf_22 5 rfl ?_
    refine m_invVN C cal_X1_finish sh_9 rfl (c_X1_finish_21 l hX g58 t hI60 (by omega)) lk_X7_36 im_X1_finish se_X1_finish (by decide) rfl rfl (Nat.le_of_ble_eq_true rfl) dX7_rootOf_24 ⟨Nat.le_refl _, Nat.le_refl _⟩ (rV fun g64 q65 => ?_)
    obtain ⟨hI66, hK67⟩ := q65
    have hK68 : Kp [9, 10, 11, 12, 22] g g64 := (hK62).tr hK67 (by decide)
    exact m_vret C dX7_rootOf_27 ⟨rfl, hI66, hK68⟩
set_option maxRecDepth 20000 in
set_option maxHeartbeats 4000000 in
theorem c_X7_rootOf_25 (l : Launch) {X : XT} (hX : Lok X) (g : Mem) (fr_ : Int32) (ti : Int32) (t : Int32) (hI : Inv g) (h_fr_ : 0 ≤ fr_.toInt ∧ fr_.toInt ≤ 60) (h_ti : 0 ≤ ti.toInt ∧ ti.toInt ≤ 60) (h_t : 0 ≤ t.toInt ∧ t.toInt ≤ 3) : Ctr l X yX7_rootOf cX7_rootOf 10 none (rmD 4) [.ref (aL X 13), .int fr_, .int ti, .ref (aL X 25), .int t] g (pV (fun g2 => Inv g2 ∧ Kp [9, 10, 11, 12, 26] g g2)) := by
  refine Ctr.of (lv := [(0, .ref (aL X 13)), (1, .int fr_), (2, .int ti), (3, .ref (aL X 25)), (4, .int t)]) hX (by decide) rfl (Nat.le_of_ble_eq_true rfl) ?_
  intro p e s m below meth c C
  refine m_iload_n C dX7_rootOf_0 2 rfl ?_
  refine m_iload_n C dX7_rootOf_1 1 rfl ?_
  refine m_isub C dX7_rootOf_2 ?_
  refine m_name (fun x1 ex1 => ?_)
  have t2 : (ti - fr_).toInt = ti.toInt - fr_.toInt := i_sub rfl rfl (by omega) (by omega)
  have t3 : x1.toInt = (ti.toInt - fr_.toInt) := (congrArg Int32.toInt ex1).trans t2
  refine m_istore C [(5, .int x1), (0, .ref (aL X 13)), (1, .int fr_), (2, .int ti), (3, .ref (aL X 25)), (4, .int t)] dX7_rootOf_3 (by decide) rfl ?_
  refine m_iload C dX7_rootOf_5 0 rfl ?_
  refine m_if_gt C 28 dX7_rootOf_7 (by decide) (fun h4 => ?_) (fun h4 => ?_)
  · skip
    have th4 := i_lt h4
    rw [show (0 : Int32).toInt = 0 by decide] at th4
    refine m_iload_n C dX7_rootOf_28 3 rfl ?_
    refine m_istore C [(6, .int ti), (5, .int x1), (0, .ref (aL X 13)), (1, .int fr_), (2, .int ti), (3, .ref (aL X 25)), (4, .int t)] dX7_rootOf_29 (by decide) rfl ?_
    refine m_iconst C (0 : Int32) dX7_rootOf_31 (by decide) ?_
    refine m_istore C [(7, .int (0 : Int32)), (6, .int ti), (5, .int x1), (0, .ref (aL X 13)), (1, .int fr_), (2, .int ti), (3, .ref (aL X 25)), (4, .int t)] dX7_rootOf_32 (by decide) rfl ?_
    have L34 : ∀ (n34 : Nat) (x7 : Int32) (x8 : Int32) (g9 : Mem), (8 - x8.toInt).toNat < n34 → Inv g9 → Kp [9, 10, 11, 12, 26] g g9 → 0 ≤ x8.toInt ∧ x8.toInt ≤ 7 → n_inv x1 x7 x8 ti → 0 ≤ x7.toInt ∧ x7.toInt ≤ 60 → Wm X p l e (rmD 4) s m ([.ref (aL X 13), .int fr_, .int ti, .ref (aL X 25), .int t] : List Value).toArray below meth c 10 0 0 (MQ below (cQ X (pV (fun g2 => Inv g2 ∧ Kp [9, 10, 11, 12, 26] g g2))) ([.ref (aL X 13), .int fr_, .int ti, .ref (aL X 25), .int t] : List Value).toArray s 0 0 (Ab X)) g9 34 [(0, .ref (aL X 13)), (1, .int fr_), (2, .int ti), (3, .ref (aL X 25)), (4, .int t), (5, .int x1), (6, .int x7), (7, .int x8)] [] := by
      intro n34
      induction n34 with
      | zero => intro x7 x8 g9 hm; exact absurd hm (Nat.not_lt_zero _)
      | succ n34 ih34 =>
        intro x7 x8 g9 hm34 hI10 hK11 i12 i13 i14
        try obtain ⟨i12a, i12b⟩ := i12
        try obtain ⟨i13a, i13b⟩ := i13
        try obtain ⟨i14a, i14b⟩ := i14
        refine m_iload C dX7_rootOf_34 7 rfl ?_
        refine m_bipush C (6 : Int32) dX7_rootOf_36 (by decide) ?_
        refine m_icmp_gt C 133 dX7_rootOf_38 (by decide) (fun h15 => ?_) (fun h15 => ?_)
        · skip
          have th15 := i_lt h15
          rw [show (6 : Int32).toInt = 6 by decide] at th15
          exact m_vret C dX7_rootOf_133 ⟨rfl, hI10, hK11⟩
        · skip
          have th15 := i_nlt h15
          rw [show (6 : Int32).toInt = 6 by decide] at th15
          refine m_iconst C (1 : Int32) dX7_rootOf_41 (by decide) ?_
          refine m_iload C dX7_rootOf_42 7 rfl ?_
          refine m_ishl C dX7_rootOf_44 ?_
          refine m_name (fun x16 ex16 => ?_)
          have hst := n_st (len := x1) (start := x7) (lv := x8) (ti := ti) (by assumption) (by omega) (by omega) (by omega) (by omega)
          rw [← ex16] at hst
          refine m_istore C [(8, .int x16), (0, .ref (aL X 13)), (1, .int fr_), (2, .int ti), (3, .ref (aL X 25)), (4, .int t), (5, .int x1), (6, .int x7), (7, .int x8)] dX7_rootOf_45 (by decide) rfl ?_
          refine m_iload C dX7_rootOf_47 6 rfl ?_
          refine m_iload C dX7_rootOf_49 0 rfl ?_
          refine m_iand C dX7_rootOf_51 ?_
          refine m_if_ne C 58 dX7_rootOf_52 (by decide) (fun h17 => ?_) (fun h17 => ?_)
          · skip
            have th17 := i_ne h17
            rw [show (0 : Int32).toInt = 0 by decide] at th17
            refine m_iload C dX7_rootOf_58 7 rfl ?_
            refine m_iload_n C dX7_rootOf_60 3 rfl ?_
            refine m_icmp_ne C 68 dX7_rootOf_61 (by decide) (fun h18 => ?_) (fun h18 => ?_)
            · skip
              have th18 := i_ne h18
              refine m_iconst C (0 : Int32) dX7_rootOf_68 (by decide) ?_
              refine m_istore C [(9, .int (0 : Int32)), (8, .int x16), (0, .ref (aL X 13)), (1, .int fr_), (2, .int ti), (3, .ref (aL X 25)), (4, .int t), (5, .int x1), (6, .int x7), (7, .int x8)] dX7_rootOf_69 (by decide) rfl ?_
              refine m_iload C dX7_rootOf_71 8 rfl ?_
              refine m_iload C dX7_rootOf_73 1 rfl ?_
              refine m_isub C dX7_rootOf_75 ?_
              refine m_name (fun x20 ex20 => ?_)
              have t21 : (x7 - x16).toInt = x7.toInt - x16.toInt := i_sub rfl rfl (by omega) (by omega)
              have t22 : x20.toInt = (x7.toInt - x16.toInt) := (congrArg Int32.toInt ex20).trans t21
              have hsg := hst.2.2.2.2.1 (by assumption)
              refine m_istore C [(6, .int x20), (9, .int (0 : Int32)), (8, .int x16), (0, .ref (aL X 13)), (1, .int fr_), (2, .int ti), (3, .ref (aL X 25)), (4, .int t), (5, .int x1), (7, .int x8)] dX7_rootOf_76 (by decide) rfl ?_
              refine m_iload C dX7_rootOf_78 1 rfl ?_
              refine m_if_eq C 103 dX7_rootOf_80 (by decide) (fun _ => ?_) (fun h => absurd (by decide) h)
              refine m_aload_n C dX7_rootOf_103 3 rfl ?_
              refine m_getr (rf := "") C 0 rfl gd7 (by decide) sh_13 rfl dX7_rootOf_104 lk_X7_20 ?_
              refine m_aload_n C dX7_rootOf_107 3 rfl ?_
              refine m_getr (rf := "") C 1 rfl gd7 (by decide) sh_13 rfl dX7_rootOf_108 lk_X7_14 ?_
              refine m_iload C dX7_rootOf_111 9 rfl ?_
              refine m_iload C dX7_rootOf_113 0 rfl ?_
              refine m_invS C cal_X7_nodeAt (c_X7_nodeAt l hX g9 x8 x20 hI10 (by omega) (by omega)) lk_X7_32 st_X7_nodeAt (by decide) rfl rfl (Nat.le_of_ble_eq_true rfl) dX7_rootOf_115 ⟨Nat.le_refl _, Nat.le_refl _⟩ (rI fun r23 g24 q25 => ?_)
              obtain ⟨eg24, p26⟩ := q25
              subst g24
              refine m_aload_n C dX7_rootOf_118 6 rfl ?_
              refine m_iload C dX7_rootOf_119 7 rfl ?_
              refine m_aload_n C dX7_rootOf_121 6 rfl ?_
              refine m_iload C dX7_rootOf_122 7 rfl ?_
              refine m_invVN C cal_X1_pairInto sh_9 rfl (c_X1_pairInto_14_25_25 l hX g9 r23 t t hI10 (by omega) (by omega) (by omega)) lk_X7_40 im_X1_pairInto se_X1_pairInto (by decide) rfl rfl (Nat.le_of_ble_eq_true rfl) dX7_rootOf_124 ⟨Nat.le_refl _, Nat.le_refl _⟩ (rV fun g28 q29 => ?_)
              obtain ⟨hI30, hK31⟩ := q29
              have hK32 : Kp [9, 10, 11, 12, 26] g g28 := (hK11).tr hK31 (by decide)
              obtain ⟨x33, ex33⟩ : ∃ z : Int32, z = x8 + Int32.ofInt 1 := ⟨_, rfl⟩
              have t34 : (x8 + (Int32.ofInt 1)).toInt = x8.toInt + (1 : Int) := i_add rfl (by decide) (by omega) (by omega)
              have t35 : x33.toInt = (x8.toInt + (1 : Int)) := (congrArg Int32.toInt ex33).trans t34
              refine m_iinc C x33 [(7, .int x33), (6, .int x20), (9, .int (0 : Int32)), (8, .int x16), (0, .ref (aL X 13)), (1, .int fr_), (2, .int ti), (3, .ref (aL X 25)), (4, .int t), (5, .int x1)] dX7_rootOf_127 (q := 9) rfl ex33.symm (by decide) rfl ?_
              refine m_goto C 34 dX7_rootOf_130 (by decide) ?_
              refine m_lv [4, 5, 6, 7, 8, 9, 1, 0] rfl ?_
              exact ih34 x20 x33 g28 (by omega) hI30 hK32 (by omega) (by rw [ex33]; first | exact hst.1 (by assumption) | exact hst.2.1 (by assumption) _ (by omega)) (by omega)
            · skip
              have th18 := i_eq h18
              refine m_iconst C (1 : Int32) dX7_rootOf_64 (by decide) ?_
              refine m_goto C 69 dX7_rootOf_65 (by decide) ?_
              refine m_istore C [(9, .int (1 : Int32)), (8, .int x16), (0, .ref (aL X 13)), (1, .int fr_), (2, .int ti), (3, .ref (aL X 25)), (4, .int t), (5, .int x1), (6, .int x7), (7, .int x8)] dX7_rootOf_69 (by decide) rfl ?_
              refine m_iload C dX7_rootOf_71 8 rfl ?_
              refine m_iload C dX7_rootOf_73 1 rfl ?_
              refine m_isub C dX7_rootOf_75 ?_
              refine m_name (fun x37 ex37 => ?_)
              have t38 : (x7 - x16).toInt = x7.toInt - x16.toInt := i_sub rfl rfl (by omega) (by omega)
              have t39 : x37.toInt = (x7.toInt - x16.toInt) := (congrArg Int32.toInt ex37).trans t38
              have hsg := hst.2.2.2.2.1 (by assumption)
              refine m_istore C [(6, .int x37), (9, .int (1 : Int32)), (8, .int x16), (0, .ref (aL X 13)), (1, .int fr_), (2, .int ti), (3, .ref (aL X 25)), (4, .int t), (5, .int x1), (7, .int x8)] dX7_rootOf_76 (by decide) rfl ?_
              refine m_iload C dX7_rootOf_78 1 rfl ?_
              refine m_if_eq C 103 dX7_rootOf_80 (by decide) (fun h => absurd h (by decide)) (fun _ => ?_)
              refine m_aload_n C dX7_rootOf_83 6 rfl ?_
              refine m_iload C dX7_rootOf_84 7 rfl ?_
              refine m_aload_n C dX7_rootOf_86 3 rfl ?_
              refine m_getr (rf := "") C 1 rfl gd7 (by decide) sh_13 rfl dX7_rootOf_87 lk_X7_14 ?_
              refine m_iload C dX7_rootOf_90 9 rfl ?_
              refine m_iload C dX7_rootOf_92 0 rfl ?_
              refine m_invS C cal_X7_nodeAt (c_X7_nodeAt l hX g9 x8 x37 hI10 (by omega) (by omega)) lk_X7_32 st_X7_nodeAt (by decide) rfl rfl (Nat.le_of_ble_eq_true rfl) dX7_rootOf_94 ⟨Nat.le_refl _, Nat.le_refl _⟩ (rI fun r40 g41 q42 => ?_)
              obtain ⟨eg41, p43⟩ := q42
              subst g41
              refine m_invVN C cal_X2_copyFrom sh_25 rfl (c_X2_copyFrom_25_14 l hX g9 t r40 hI10 (by omega) (by omega)) lk_X7_44 im_X2_copyFrom se_X2_copyFrom (by decide) rfl rfl (Nat.le_of_ble_eq_true rfl) dX7_rootOf_97 ⟨Nat.le_refl _, Nat.le_refl _⟩ (rV fun g45 q46 => ?_)
              obtain ⟨hI47, hK48⟩ := q46
              have hK49 : Kp [9, 10, 11, 12, 26] g g45 := (hK11).tr hK48 (by decide)
              refine m_goto C 127 dX7_rootOf_100 (by decide) ?_
              obtain ⟨x50, ex50⟩ : ∃ z : Int32, z = x8 + Int32.ofInt 1 := ⟨_, rfl⟩
              have t51 : (x8 + (Int32.ofInt 1)).toInt = x8.toInt + (1 : Int) := i_add rfl (by decide) (by omega) (by omega)
              have t52 : x50.toInt = (x8.toInt + (1 : Int)) := (congrArg Int32.toInt ex50).trans t51
              refine m_iinc C x50 [(7, .int x50), (6, .int x37), (9, .int (1 : Int32)), (8, .int x16), (0, .ref (aL X 13)), (1, .int fr_), (2, .int ti), (3, .ref (aL X 25)), (4, .int t), (5, .int x1)] dX7_rootOf_127 (q := 9) rfl ex50.symm (by decide) rfl ?_
              refine m_goto C 34 dX7_rootOf_130 (by decide) ?_
              refine m_lv [4, 5, 6, 7, 8, 9, 1, 0] rfl ?_
              exact ih34 x37 x50 g45 (by omega) hI47 hK49 (by omega) (by rw [ex50]; first | exact hst.1 (by assumption) | exact hst.2.1 (by assumption) _ (by omega)) (by omega)
          · skip
            have th17 := i_eq h17
            rw [show (0 : Int32).toInt = 0 by decide] at th17
            refine m_goto C 127 dX7_rootOf_55 (by decide) ?_
            obtain ⟨x53, ex53⟩ : ∃ z : Int32, z = x8 + Int32.ofInt 1 := ⟨_, rfl⟩
            have t54 : (x8 + (Int32.ofInt 1)).toInt = x8.toInt + (1 : Int) := i_add rfl (by decide) (by omega) (by omega)
            have t55 : x53.toInt = (x8.toInt + (1 : Int)) := (congrArg Int32.toInt ex53).trans t54
            refine m_iinc C x53 [(7, .int x53), (8, .int x16), (0, .ref (aL X 13)), (1, .int fr_), (2, .int ti), (3, .ref (aL X 25)), (4, .int t), (5, .int x1), (6, .int x7)] dX7_rootOf_127 (q := 8) rfl ex53.symm (by decide) rfl ?_
            refine m_goto C 34 dX7_rootOf_130 (by decide) ?_
            refine m_lv [2, 3, 4, 5, 6, 7, 8, 0] rfl ?_
            exact ih34 x7 x53 g9 (by omega) hI10 hK11 (by omega) (by rw [ex53]; first | exact hst.1 (by assumption) | exact hst.2.1 (by assumption) _ (by omega)) (by omega)
    have t56 : (0 : Int32).toInt = 0 := by decide
    refine m_lv [3, 4, 5, 6, 7, 2, 1, 0] rfl ?_
    exact L34 (((8 - (0 : Int32).toInt).toNat) + 1) ti (0 : Int32) g (Nat.lt_succ_self _) hI Kp.rf (by omega) n_in0 (by omega)
  · skip
    have th4 := i_nlt h4
    rw [show (0 : Int32).toInt = 0 by decide] at th4
    refine m_aload_n C dX7_rootOf_10 1 rfl ?_
    refine m_getr (rf := "") C 0 rfl gd7 (by decide) sh_13 rfl dX7_rootOf_11 lk_X7_20 ?_
    refine m_invVN C cal_X1_begin sh_9 rfl (c_X1_begin l hX g  hI) lk_X7_24 im_X1_begin se_X1_begin (by decide) rfl rfl (Nat.le_of_ble_eq_true rfl) dX7_rootOf_14 ⟨Nat.le_refl _, Nat.le_refl _⟩ (rV fun g58 q59 => ?_)
    obtain ⟨hI60, hK61⟩ := q59
    have hK62 : Kp [9, 10, 11, 12, 26] g g58 := (Kp.rf).tr hK61 (by decide)
    refine m_aload_n C dX7_rootOf_17 1 rfl ?_
    refine m_getr (rf := "") C 0 rfl gd7 (by decide) sh_13 rfl dX7_rootOf_18 lk_X7_20 ?_
    refine m_aload_n C dX7_rootOf_21 4 rfl ?_
    refine m_iload C dX7_rootOf_22 5 rfl ?_
    refine m_invVN C cal_X1_finish sh_9 rfl (c_X1_finish_25 l hX g58 t hI60 (by omega)) lk_X7_36 im_X1_finish se_X1_finish (by decide) rfl rfl (Nat.le_of_ble_eq_true rfl) dX7_rootOf_24 ⟨Nat.le_refl _, Nat.le_refl _⟩ (rV fun g64 q65 => ?_)
    obtain ⟨hI66, hK67⟩ := q65
    have hK68 : Kp [9, 10, 11, 12, 26] g g64 := (hK62).tr hK67 (by decide)
    exact m_vret C dX7_rootOf_27 ⟨rfl, hI66, hK68⟩
set_option maxRecDepth 20000 in
set_option maxHeartbeats 4000000 in
theorem c_X4_entryByte (l : Launch) {X : XT} (hX : Lok X) (g : Mem) (i0 : Int32) (kk : Int32) (hI : Inv g) (h_i0 : 0 ≤ i0.toInt ∧ i0.toInt ≤ 59) (h_kk : 0 ≤ kk.toInt ∧ kk.toInt ≤ 11) : Ctr l X yX4_entryByte cX4_entryByte 3 (some .int) (rmD 0) [.ref (aL X 16), .int i0, .int kk] g (pI (fun r g2 => g2 = g ∧ True)) := by
  refine Ctr.of (lv := [(0, .ref (aL X 16)), (1, .int i0), (2, .int kk)]) hX (by decide) rfl (Nat.le_of_ble_eq_true rfl) ?_
  intro p e s m below meth c C
  refine m_aload_n C dX4_entryByte_0 0 rfl ?_
  refine m_getr (rf := "") C 2 rfl gd4 (by decide) sh_16 rfl dX4_entryByte_1 lk_X4_9 ?_
  refine m_iload_n C dX4_entryByte_4 1 rfl ?_
  refine m_bipush C (12 : Int32) dX4_entryByte_5 (by decide) ?_
  refine m_imul C dX4_entryByte_7 ?_
  refine m_iload_n C dX4_entryByte_8 2 rfl ?_
  refine m_iadd C dX4_entryByte_9 ?_
  have t1 : (i0 * (12 : Int32)).toInt = i0.toInt * (12 : Int) := i_mul rfl (by decide) (by omega) (by omega)
  have t2 : ((i0 * (12 : Int32)) + kk).toInt = (i0.toInt * (12 : Int)) + kk.toInt := i_add t1 rfl (by omega) (by omega)
  refine m_iald C sh_17 (i_in (by omega) (by omega)) dX4_entryByte_10 ?_
  exact m_iret C dX4_entryByte_11 ⟨_, rfl, rfl, trivial⟩
set_option maxRecDepth 20000 in
set_option maxHeartbeats 4000000 in
theorem c_X4_linkByte (l : Launch) {X : XT} (hX : Lok X) (g : Mem) (ii : Int32) (k : Int32) (hI : Inv g) (h_ii : 0 ≤ ii.toInt ∧ ii.toInt ≤ 60) (h_k : 0 ≤ k.toInt ∧ k.toInt ≤ 31) : Ctr l X yX4_linkByte cX4_linkByte 3 (some .int) (rmD 1) [.ref (aL X 16), .int ii, .int k] g (pI (fun r g2 => g2 = g ∧ True)) := by
  refine Ctr.of (lv := [(0, .ref (aL X 16)), (1, .int ii), (2, .int k)]) hX (by decide) rfl (Nat.le_of_ble_eq_true rfl) ?_
  intro p e s m below meth c C
  refine m_aload_n C dX4_linkByte_0 0 rfl ?_
  refine m_getr (rf := "") C 3 rfl gd4 (by decide) sh_16 rfl dX4_linkByte_1 lk_X4_20 ?_
  refine m_iload_n C dX4_linkByte_4 1 rfl ?_
  refine m_iload_n C dX4_linkByte_5 2 rfl ?_
  refine m_invVN C cal_X2_byteAt sh_18 rfl (c_X2_byteAt_18 l hX g ii k hI (by omega) (by omega)) lk_X4_36 im_X2_byteAt se_X2_byteAt (by decide) rfl rfl (Nat.le_of_ble_eq_true rfl) dX4_linkByte_6 ⟨Nat.le_refl _, Nat.le_refl _⟩ (rI fun r1 g2 q3 => ?_)
  obtain ⟨eg2, p4⟩ := q3
  subst g2
  exact m_iret C dX4_linkByte_9 ⟨_, rfl, rfl, trivial⟩
set_option maxRecDepth 20000 in
set_option maxHeartbeats 4000000 in
theorem c_X4_frameByte (l : Launch) {X : XT} (hX : Lok X) (g : Mem) (i0 : Int32) (k16 : Int32) (hI : Inv g) (h_i0 : 0 ≤ i0.toInt ∧ i0.toInt ≤ 59) (h_k16 : 0 ≤ k16.toInt ∧ k16.toInt ≤ 16) : Ctr l X yX4_frameByte cX4_frameByte 3 (some .int) (rmD 2) [.ref (aL X 16), .int i0, .int k16] g (pI (fun r g2 => g2 = g ∧ True)) := by
  refine Ctr.of (lv := [(0, .ref (aL X 16)), (1, .int i0), (2, .int k16)]) hX (by decide) rfl (Nat.le_of_ble_eq_true rfl) ?_
  intro p e s m below meth c C
  refine m_iload_n C dX4_frameByte_0 2 rfl ?_
  refine m_if_ne C 7 dX4_frameByte_1 (by decide) (fun h1 => ?_) (fun h1 => ?_)
  · skip
    have th1 := i_ne h1
    rw [show (0 : Int32).toInt = 0 by decide] at th1
    refine m_iload_n C dX4_frameByte_7 2 rfl ?_
    refine m_bipush C (12 : Int32) dX4_frameByte_8 (by decide) ?_
    refine m_icmp_gt C 24 dX4_frameByte_10 (by decide) (fun h2 => ?_) (fun h2 => ?_)
    · skip
      have th2 := i_lt h2
      rw [show (12 : Int32).toInt = 12 by decide] at th2
      refine m_aload_n C dX4_frameByte_24 0 rfl ?_
      refine m_iload_n C dX4_frameByte_25 1 rfl ?_
      refine m_iconst C (1 : Int32) dX4_frameByte_26 (by decide) ?_
      refine m_iadd C dX4_frameByte_27 ?_
      refine m_iload_n C dX4_frameByte_28 2 rfl ?_
      refine m_iconst C (1 : Int32) dX4_frameByte_29 (by decide) ?_
      refine m_isub C dX4_frameByte_30 ?_
      refine m_bipush C (12 : Int32) dX4_frameByte_31 (by decide) ?_
      refine m_isub C dX4_frameByte_33 ?_
      have t3 : (i0 + (1 : Int32)).toInt = i0.toInt + (1 : Int) := i_add rfl (by decide) (by omega) (by omega)
      have t4 : (k16 - (1 : Int32)).toInt = k16.toInt - (1 : Int) := i_sub rfl (by decide) (by omega) (by omega)
      have t5 : ((k16 - (1 : Int32)) - (12 : Int32)).toInt = (k16.toInt - (1 : Int)) - (12 : Int) := i_sub t4 (by decide) (by omega) (by omega)
      refine m_invV C cal_X4_linkByte sh_16 rfl (c_X4_linkByte l hX g (i0 + (1 : Int32)) ((k16 - (1 : Int32)) - (12 : Int32)) hI (by omega) (by omega)) lk_X4_43 im_X4_linkByte se_X4_linkByte (by decide) rfl rfl (Nat.le_of_ble_eq_true rfl) dX4_frameByte_34 ⟨Nat.le_refl _, Nat.le_refl _⟩ (rI fun r6 g7 q8 => ?_)
      obtain ⟨eg7, p9⟩ := q8
      subst g7
      exact m_iret C dX4_frameByte_37 ⟨_, rfl, rfl, trivial⟩
    · skip
      have th2 := i_nlt h2
      rw [show (12 : Int32).toInt = 12 by decide] at th2
      refine m_aload_n C dX4_frameByte_13 0 rfl ?_
      refine m_iload_n C dX4_frameByte_14 1 rfl ?_
      refine m_iload_n C dX4_frameByte_15 2 rfl ?_
      refine m_iconst C (1 : Int32) dX4_frameByte_16 (by decide) ?_
      refine m_isub C dX4_frameByte_17 ?_
      have t10 : (k16 - (1 : Int32)).toInt = k16.toInt - (1 : Int) := i_sub rfl (by decide) (by omega) (by omega)
      refine m_invV C cal_X4_entryByte sh_16 rfl (c_X4_entryByte l hX g i0 (k16 - (1 : Int32)) hI (by omega) (by omega)) lk_X4_40 im_X4_entryByte se_X4_entryByte (by decide) rfl rfl (Nat.le_of_ble_eq_true rfl) dX4_frameByte_18 ⟨Nat.le_refl _, Nat.le_refl _⟩ (rI fun r11 g12 q13 => ?_)
      obtain ⟨eg12, p14⟩ := q13
      subst g12
      refine m_goto C 37 dX4_frameByte_21 (by decide) ?_
      exact m_iret C dX4_frameByte_37 ⟨_, rfl, rfl, trivial⟩
  · skip
    have th1 := i_eq h1
    rw [show (0 : Int32).toInt = 0 by decide] at th1
    refine m_bipush C (90 : Int32) dX4_frameByte_4 (by decide) ?_
    exact m_iret C dX4_frameByte_6 ⟨_, rfl, rfl, trivial⟩
set_option maxRecDepth 20000 in
set_option maxHeartbeats 4000000 in
theorem c_X4_draftByte (l : Launch) {X : XT} (hX : Lok X) (g : Mem) (kk : Int32) (v : Int32) (hI : Inv g) (h_kk : 0 ≤ kk.toInt ∧ kk.toInt ≤ 11) : Ctr l X yX4_draftByte cX4_draftByte 3 none (rmD 0) [.ref (aL X 16), .int kk, .int v] g (pV (fun g2 => Inv g2 ∧ Kp [17] g g2)) := by
  refine Ctr.of (lv := [(0, .ref (aL X 16)), (1, .int kk), (2, .int v)]) hX (by decide) rfl (Nat.le_of_ble_eq_true rfl) ?_
  intro p e s m below meth c C
  refine m_aload_n C dX4_draftByte_0 0 rfl ?_
  refine m_geti (rf := "") C 4 rfl gd4 (by decide) sh_16 rfl dX4_draftByte_1 lk_X4_24 ?_
  have r1 := iv_size hI
  refine m_bipush C (60 : Int32) dX4_draftByte_4 (by decide) ?_
  refine m_icmp_ge C 24 dX4_draftByte_6 (by decide) (fun h2 => ?_) (fun h2 => ?_)
  · skip
    have th2 := i_le h2
    rw [show (60 : Int32).toInt = 60 by decide] at th2
    exact m_vret C dX4_draftByte_24 ⟨rfl, hI, Kp.rf⟩
  · skip
    have th2 := i_nle h2
    rw [show (60 : Int32).toInt = 60 by decide] at th2
    refine m_aload_n C dX4_draftByte_9 0 rfl ?_
    refine m_getr (rf := "") C 2 rfl gd4 (by decide) sh_16 rfl dX4_draftByte_10 lk_X4_9 ?_
    refine m_aload_n C dX4_draftByte_13 0 rfl ?_
    refine m_geti (rf := "") C 4 rfl gd4 (by decide) sh_16 rfl dX4_draftByte_14 lk_X4_24 ?_
    have r3 := iv_size hI
    refine m_bipush C (12 : Int32) dX4_draftByte_17 (by decide) ?_
    refine m_imul C dX4_draftByte_19 ?_
    refine m_iload_n C dX4_draftByte_20 1 rfl ?_
    refine m_iadd C dX4_draftByte_21 ?_
    refine m_iload_n C dX4_draftByte_22 2 rfl ?_
    have t4 : ((g 16 4) * (12 : Int32)).toInt = (g 16 4).toInt * (12 : Int) := i_mul rfl (by decide) (by omega) (by omega)
    have t5 : (((g 16 4) * (12 : Int32)) + kk).toInt = ((g 16 4).toInt * (12 : Int)) + kk.toInt := i_add t4 rfl (by omega) (by omega)
    refine m_iast C sh_17 (i_in (by omega) (by omega)) dX4_draftByte_23 ?_
    refine m_mem (fun g6 eg6 => ?_)
    have hI7 : Inv g6 := by rw [eg6]; exact hI.up (ok_any (by decide))
    have hK8 : Kp [17] g g6 := by rw [eg6]; exact Kp.up Kp.rf (by decide) (Or.inl (by decide)) (Or.inl (by decide))
    have ev9 : g6 16 4 = g 16 4 := by rw [eg6]; exact up2_nei (Or.inl (by decide))
    have tev9 := congrArg Int32.toInt ev9
    exact m_vret C dX4_draftByte_24 ⟨rfl, hI7, hK8⟩
set_option maxRecDepth 20000 in
set_option maxHeartbeats 4000000 in
theorem c_X4_draftHead (l : Launch) {X : XT} (hX : Lok X) (g : Mem) (a : Int32) (b : Int32) (q : Int32) (u : Int32) (v : Int32) (hI : Inv g) : Ctr l X yX4_draftHead cX4_draftHead 6 none (rmD 1) [.ref (aL X 16), .int a, .int b, .int q, .int u, .int v] g (pV (fun g2 => Inv g2 ∧ Kp [17] g g2)) := by
  refine Ctr.of (lv := [(0, .ref (aL X 16)), (1, .int a), (2, .int b), (3, .int q), (4, .int u), (5, .int v)]) hX (by decide) rfl (Nat.le_of_ble_eq_true rfl) ?_
  intro p e s m below meth c C
  refine m_aload_n C dX4_draftHead_0 0 rfl ?_
  refine m_iconst C (0 : Int32) dX4_draftHead_1 (by decide) ?_
  refine m_aload_n C dX4_draftHead_2 0 rfl ?_
  refine m_geti (rf := "") C 4 rfl gd4 (by decide) sh_16 rfl dX4_draftHead_3 lk_X4_24 ?_
  have r1 := iv_size hI
  refine m_bipush C (8 : Int32) dX4_draftHead_6 (by decide) ?_
  refine m_ishr C dX4_draftHead_8 ?_
  have t2 : ((g 16 4) >>> ((8 : Int32) &&& 31)).toInt = (g 16 4).toInt / 256 := i_shr rfl 8 (by decide)
  have t3 : (0 : Int32).toInt = 0 := by decide
  refine m_invV C cal_X4_draftByte sh_16 rfl (c_X4_draftByte l hX g (0 : Int32) ((g 16 4) >>> ((8 : Int32) &&& 31)) hI (by omega)) lk_X4_46 im_X4_draftByte se_X4_draftByte (by decide) rfl rfl (Nat.le_of_ble_eq_true rfl) dX4_draftHead_9 ⟨Nat.le_refl _, Nat.le_refl _⟩ (rV fun g5 q6 => ?_)
  obtain ⟨hI7, hK8⟩ := q6
  have ev9 : g5 16 4 = g 16 4 := congrFun (hK8.1 16 (by decide)) 4
  have tev9 := congrArg Int32.toInt ev9
  have hK10 : Kp [17] g g5 := (Kp.rf).tr hK8 (by decide)
  refine m_aload_n C dX4_draftHead_12 0 rfl ?_
  refine m_iconst C (1 : Int32) dX4_draftHead_13 (by decide) ?_
  refine m_aload_n C dX4_draftHead_14 0 rfl ?_
  refine m_geti (rf := "") C 4 rfl gd4 (by decide) sh_16 rfl dX4_draftHead_15 lk_X4_24 ?_
  have r11 := iv_size hI7
  have ev12 : g5 16 4 = g 16 4 := congrFun (hK10.1 16 (by decide)) 4
  have tev12 := congrArg Int32.toInt ev12
  refine m_sipush C (255 : Int32) dX4_draftHead_18 (by decide) ?_
  refine m_iand C dX4_draftHead_21 ?_
  have t13 : 0 ≤ ((g5 16 4) &&& (255 : Int32)).toInt ∧ ((g5 16 4) &&& (255 : Int32)).toInt < 256 := i_and _ 8 (by decide) (by decide)
  have t14 : (1 : Int32).toInt = 1 := by decide
  refine m_invV C cal_X4_draftByte sh_16 rfl (c_X4_draftByte l hX g5 (1 : Int32) ((g5 16 4) &&& (255 : Int32)) hI7 (by omega)) lk_X4_46 im_X4_draftByte se_X4_draftByte (by decide) rfl rfl (Nat.le_of_ble_eq_true rfl) dX4_draftHead_22 ⟨Nat.le_refl _, Nat.le_refl _⟩ (rV fun g16 q17 => ?_)
  obtain ⟨hI18, hK19⟩ := q17
  have ev20 : g16 16 4 = g5 16 4 := congrFun (hK19.1 16 (by decide)) 4
  have tev20 := congrArg Int32.toInt ev20
  have hK21 : Kp [17] g g16 := (hK10).tr hK19 (by decide)
  refine m_aload_n C dX4_draftHead_25 0 rfl ?_
  refine m_iconst C (2 : Int32) dX4_draftHead_26 (by decide) ?_
  refine m_iload_n C dX4_draftHead_27 1 rfl ?_
  have t22 : (2 : Int32).toInt = 2 := by decide
  refine m_invV C cal_X4_draftByte sh_16 rfl (c_X4_draftByte l hX g16 (2 : Int32) a hI18 (by omega)) lk_X4_46 im_X4_draftByte se_X4_draftByte (by decide) rfl rfl (Nat.le_of_ble_eq_true rfl) dX4_draftHead_28 ⟨Nat.le_refl _, Nat.le_refl _⟩ (rV fun g24 q25 => ?_)
  obtain ⟨hI26, hK27⟩ := q25
  have ev28 : g24 16 4 = g16 16 4 := congrFun (hK27.1 16 (by decide)) 4
  have tev28 := congrArg Int32.toInt ev28
  have hK29 : Kp [17] g g24 := (hK21).tr hK27 (by decide)
  refine m_aload_n C dX4_draftHead_31 0 rfl ?_
  refine m_iconst C (3 : Int32) dX4_draftHead_32 (by decide) ?_
  refine m_iload_n C dX4_draftHead_33 2 rfl ?_
  have t30 : (3 : Int32).toInt = 3 := by decide
  refine m_invV C cal_X4_draftByte sh_16 rfl (c_X4_draftByte l hX g24 (3 : Int32) b hI26 (by omega)) lk_X4_46 im_X4_draftByte se_X4_draftByte (by decide) rfl rfl (Nat.le_of_ble_eq_true rfl) dX4_draftHead_34 ⟨Nat.le_refl _, Nat.le_refl _⟩ (rV fun g32 q33 => ?_)
  obtain ⟨hI34, hK35⟩ := q33
  have ev36 : g32 16 4 = g24 16 4 := congrFun (hK35.1 16 (by decide)) 4
  have tev36 := congrArg Int32.toInt ev36
  have hK37 : Kp [17] g g32 := (hK29).tr hK35 (by decide)
  refine m_aload_n C dX4_draftHead_37 0 rfl ?_
  refine m_iconst C (4 : Int32) dX4_draftHead_38 (by decide) ?_
  refine m_iload_n C dX4_draftHead_39 3 rfl ?_
  have t38 : (4 : Int32).toInt = 4 := by decide
  refine m_invV C cal_X4_draftByte sh_16 rfl (c_X4_draftByte l hX g32 (4 : Int32) q hI34 (by omega)) lk_X4_46 im_X4_draftByte se_X4_draftByte (by decide) rfl rfl (Nat.le_of_ble_eq_true rfl) dX4_draftHead_40 ⟨Nat.le_refl _, Nat.le_refl _⟩ (rV fun g40 q41 => ?_)
  obtain ⟨hI42, hK43⟩ := q41
  have ev44 : g40 16 4 = g32 16 4 := congrFun (hK43.1 16 (by decide)) 4
  have tev44 := congrArg Int32.toInt ev44
  have hK45 : Kp [17] g g40 := (hK37).tr hK43 (by decide)
  refine m_aload_n C dX4_draftHead_43 0 rfl ?_
  refine m_iconst C (5 : Int32) dX4_draftHead_44 (by decide) ?_
  refine m_iload C dX4_draftHead_45 4 rfl ?_
  have t46 : (5 : Int32).toInt = 5 := by decide
  refine m_invV C cal_X4_draftByte sh_16 rfl (c_X4_draftByte l hX g40 (5 : Int32) u hI42 (by omega)) lk_X4_46 im_X4_draftByte se_X4_draftByte (by decide) rfl rfl (Nat.le_of_ble_eq_true rfl) dX4_draftHead_47 ⟨Nat.le_refl _, Nat.le_refl _⟩ (rV fun g48 q49 => ?_)
  obtain ⟨hI50, hK51⟩ := q49
  have ev52 : g48 16 4 = g40 16 4 := congrFun (hK51.1 16 (by decide)) 4
  have tev52 := congrArg Int32.toInt ev52
  have hK53 : Kp [17] g g48 := (hK45).tr hK51 (by decide)
  refine m_aload_n C dX4_draftHead_50 0 rfl ?_
  refine m_bipush C (6 : Int32) dX4_draftHead_51 (by decide) ?_
  refine m_iload C dX4_draftHead_53 5 rfl ?_
  have t54 : (6 : Int32).toInt = 6 := by decide
  refine m_invV C cal_X4_draftByte sh_16 rfl (c_X4_draftByte l hX g48 (6 : Int32) v hI50 (by omega)) lk_X4_46 im_X4_draftByte se_X4_draftByte (by decide) rfl rfl (Nat.le_of_ble_eq_true rfl) dX4_draftHead_55 ⟨Nat.le_refl _, Nat.le_refl _⟩ (rV fun g56 q57 => ?_)
  obtain ⟨hI58, hK59⟩ := q57
  have ev60 : g56 16 4 = g48 16 4 := congrFun (hK59.1 16 (by decide)) 4
  have tev60 := congrArg Int32.toInt ev60
  have hK61 : Kp [17] g g56 := (hK53).tr hK59 (by decide)
  refine m_aload_n C dX4_draftHead_58 0 rfl ?_
  refine m_bipush C (7 : Int32) dX4_draftHead_59 (by decide) ?_
  refine m_sipush C (165 : Int32) dX4_draftHead_61 (by decide) ?_
  have t62 : (7 : Int32).toInt = 7 := by decide
  have t63 : (165 : Int32).toInt = 165 := by decide
  refine m_invV C cal_X4_draftByte sh_16 rfl (c_X4_draftByte l hX g56 (7 : Int32) (165 : Int32) hI58 (by omega)) lk_X4_46 im_X4_draftByte se_X4_draftByte (by decide) rfl rfl (Nat.le_of_ble_eq_true rfl) dX4_draftHead_64 ⟨Nat.le_refl _, Nat.le_refl _⟩ (rV fun g65 q66 => ?_)
  obtain ⟨hI67, hK68⟩ := q66
  have ev69 : g65 16 4 = g56 16 4 := congrFun (hK68.1 16 (by decide)) 4
  have tev69 := congrArg Int32.toInt ev69
  have hK70 : Kp [17] g g65 := (hK61).tr hK68 (by decide)
  exact m_vret C dX4_draftHead_67 ⟨rfl, hI67, hK70⟩
set_option maxRecDepth 20000 in
set_option maxHeartbeats 4000000 in
theorem c_X4_draftTime (l : Launch) {X : XT} (hX : Lok X) (g : Mem) (a : Int32) (hI : Inv g) : Ctr l X yX4_draftTime cX4_draftTime 3 none (rmD 1) [.ref (aL X 16), .int a] g (pV (fun g2 => Inv g2 ∧ Kp [17] g g2)) := by
  refine Ctr.of (lv := [(0, .ref (aL X 16)), (1, .int a)]) hX (by decide) rfl (Nat.le_of_ble_eq_true rfl) ?_
  intro p e s m below meth c C
  refine m_iconst C (0 : Int32) dX4_draftTime_0 (by decide) ?_
  refine m_istore_n C [(2, .int (0 : Int32)), (0, .ref (aL X 16)), (1, .int a)] dX4_draftTime_1 (by decide) rfl ?_
  have L2 : ∀ (n2 : Nat) (x2 : Int32) (g3 : Mem), (5 - x2.toInt).toNat < n2 → Inv g3 → Kp [17] g g3 → 0 ≤ x2.toInt ∧ x2.toInt ≤ 4 → Wm X p l e (rmD 1) s m ([.ref (aL X 16), .int a] : List Value).toArray below meth c 3 0 0 (MQ below (cQ X (pV (fun g2 => Inv g2 ∧ Kp [17] g g2))) ([.ref (aL X 16), .int a] : List Value).toArray s 0 0 (Ab X)) g3 2 [(0, .ref (aL X 16)), (1, .int a), (2, .int x2)] [] := by
    intro n2
    induction n2 with
    | zero => intro x2 g3 hm; exact absurd hm (Nat.not_lt_zero _)
    | succ n2 ih2 =>
      intro x2 g3 hm2 hI4 hK5 i6
      try obtain ⟨i6a, i6b⟩ := i6
      refine m_iload_n C dX4_draftTime_2 2 rfl ?_
      refine m_iconst C (4 : Int32) dX4_draftTime_3 (by decide) ?_
      refine m_icmp_ge C 34 dX4_draftTime_4 (by decide) (fun h7 => ?_) (fun h7 => ?_)
      · skip
        have th7 := i_le h7
        rw [show (4 : Int32).toInt = 4 by decide] at th7
        exact m_vret C dX4_draftTime_34 ⟨rfl, hI4, hK5⟩
      · skip
        have th7 := i_nle h7
        rw [show (4 : Int32).toInt = 4 by decide] at th7
        refine m_aload_n C dX4_draftTime_7 0 rfl ?_
        refine m_bipush C (8 : Int32) dX4_draftTime_8 (by decide) ?_
        refine m_iload_n C dX4_draftTime_10 2 rfl ?_
        refine m_iadd C dX4_draftTime_11 ?_
        refine m_iload_n C dX4_draftTime_12 1 rfl ?_
        refine m_bipush C (24 : Int32) dX4_draftTime_13 (by decide) ?_
        refine m_bipush C (8 : Int32) dX4_draftTime_15 (by decide) ?_
        refine m_iload_n C dX4_draftTime_17 2 rfl ?_
        refine m_imul C dX4_draftTime_18 ?_
        refine m_isub C dX4_draftTime_19 ?_
        refine m_iushr C dX4_draftTime_20 ?_
        refine m_sipush C (255 : Int32) dX4_draftTime_21 (by decide) ?_
        refine m_iand C dX4_draftTime_24 ?_
        have t8 : ((8 : Int32) + x2).toInt = (8 : Int) + x2.toInt := i_add (by decide) rfl (by omega) (by omega)
        have t9 : 0 ≤ (((a.toUInt32 >>> (((24 : Int32) - ((8 : Int32) * x2)).toUInt32 &&& Int32.toUInt32 31)).toInt32) &&& (255 : Int32)).toInt ∧ (((a.toUInt32 >>> (((24 : Int32) - ((8 : Int32) * x2)).toUInt32 &&& Int32.toUInt32 31)).toInt32) &&& (255 : Int32)).toInt < 256 := i_and _ 8 (by decide) (by decide)
        refine m_invV C cal_X4_draftByte sh_16 rfl (c_X4_draftByte l hX g3 ((8 : Int32) + x2) (((a.toUInt32 >>> (((24 : Int32) - ((8 : Int32) * x2)).toUInt32 &&& Int32.toUInt32 31)).toInt32) &&& (255 : Int32)) hI4 (by omega)) lk_X4_46 im_X4_draftByte se_X4_draftByte (by decide) rfl rfl (Nat.le_of_ble_eq_true rfl) dX4_draftTime_25 ⟨Nat.le_refl _, Nat.le_refl _⟩ (rV fun g11 q12 => ?_)
        obtain ⟨hI13, hK14⟩ := q12
        have hK15 : Kp [17] g g11 := (hK5).tr hK14 (by decide)
        obtain ⟨x16, ex16⟩ : ∃ z : Int32, z = x2 + Int32.ofInt 1 := ⟨_, rfl⟩
        have t17 : (x2 + (Int32.ofInt 1)).toInt = x2.toInt + (1 : Int) := i_add rfl (by decide) (by omega) (by omega)
        have t18 : x16.toInt = (x2.toInt + (1 : Int)) := (congrArg Int32.toInt ex16).trans t17
        refine m_iinc C x16 [(2, .int x16), (0, .ref (aL X 16)), (1, .int a)] dX4_draftTime_28 (q := 2) rfl ex16.symm (by decide) rfl ?_
        refine m_goto C 2 dX4_draftTime_31 (by decide) ?_
        refine m_lv [1, 2, 0] rfl ?_
        exact ih2 x16 g11 (by omega) hI13 hK15 (by omega)
  have t19 : (0 : Int32).toInt = 0 := by decide
  refine m_lv [1, 2, 0] rfl ?_
  exact L2 (((5 - (0 : Int32).toInt).toNat) + 1) (0 : Int32) g (Nat.lt_succ_self _) hI Kp.rf (by omega)
set_option maxRecDepth 20000 in
set_option maxHeartbeats 4000000 in
theorem c_X4_linkDraft (l : Launch) {X : XT} (hX : Lok X) (g : Mem)  (hI : Inv g) : Ctr l X yX4_linkDraft cX4_linkDraft 2 none (rmD 3) [.ref (aL X 16)] g (pV (fun g2 => Inv g2 ∧ Kp [9, 10, 11, 12, 19] g g2)) := by
  refine Ctr.of (lv := [(0, .ref (aL X 16))]) hX (by decide) rfl (Nat.le_of_ble_eq_true rfl) ?_
  intro p e s m below meth c C
  refine m_aload_n C dX4_linkDraft_0 0 rfl ?_
  refine m_geti (rf := "") C 4 rfl gd4 (by decide) sh_16 rfl dX4_linkDraft_1 lk_X4_24 ?_
  have r1 := iv_size hI
  refine m_bipush C (60 : Int32) dX4_linkDraft_4 (by decide) ?_
  refine m_icmp_lt C 10 dX4_linkDraft_6 (by decide) (fun h2 => ?_) (fun h2 => ?_)
  · skip
    have th2 := i_lt h2
    rw [show (60 : Int32).toInt = 60 by decide] at th2
    refine m_aload_n C dX4_linkDraft_10 0 rfl ?_
    refine m_getr (rf := "") C 0 rfl gd4 (by decide) sh_16 rfl dX4_linkDraft_11 lk_X4_28 ?_
    refine m_invVN C cal_X1_begin sh_9 rfl (c_X1_begin l hX g  hI) lk_X4_50 im_X1_begin se_X1_begin (by decide) rfl rfl (Nat.le_of_ble_eq_true rfl) dX4_linkDraft_14 ⟨Nat.le_refl _, Nat.le_refl _⟩ (rV fun g4 q5 => ?_)
    obtain ⟨hI6, hK7⟩ := q5
    have ev8 : g4 16 4 = g 16 4 := congrFun (hK7.1 16 (by decide)) 4
    have tev8 := congrArg Int32.toInt ev8
    have hK9 : Kp [9, 10, 11, 12, 19] g g4 := (Kp.rf).tr hK7 (by decide)
    refine m_aload_n C dX4_linkDraft_17 0 rfl ?_
    refine m_getr (rf := "") C 0 rfl gd4 (by decide) sh_16 rfl dX4_linkDraft_18 lk_X4_28 ?_
    refine m_aload_n C dX4_linkDraft_21 0 rfl ?_
    refine m_getr (rf := "") C 3 rfl gd4 (by decide) sh_16 rfl dX4_linkDraft_22 lk_X4_20 ?_
    refine m_aload_n C dX4_linkDraft_25 0 rfl ?_
    refine m_geti (rf := "") C 4 rfl gd4 (by decide) sh_16 rfl dX4_linkDraft_26 lk_X4_24 ?_
    have r10 := iv_size hI6
    have ev11 : g4 16 4 = g 16 4 := congrFun (hK9.1 16 (by decide)) 4
    have tev11 := congrArg Int32.toInt ev11
    refine m_invVN C cal_X1_addHash sh_9 rfl (c_X1_addHash_18 l hX g4 (g4 16 4) hI6 (by omega)) lk_X4_55 im_X1_addHash se_X1_addHash (by decide) rfl rfl (Nat.le_of_ble_eq_true rfl) dX4_linkDraft_29 ⟨Nat.le_refl _, Nat.le_refl _⟩ (rV fun g13 q14 => ?_)
    obtain ⟨hI15, hK16⟩ := q14
    have ev17 : g13 16 4 = g4 16 4 := congrFun (hK16.1 16 (by decide)) 4
    have tev17 := congrArg Int32.toInt ev17
    have hK18 : Kp [9, 10, 11, 12, 19] g g13 := (hK9).tr hK16 (by decide)
    refine m_iconst C (0 : Int32) dX4_linkDraft_32 (by decide) ?_
    refine m_istore_n C [(1, .int (0 : Int32)), (0, .ref (aL X 16))] dX4_linkDraft_33 (by decide) rfl ?_
    have L34 : ∀ (n34 : Nat) (x20 : Int32) (g21 : Mem), (13 - x20.toInt).toNat < n34 → Inv g21 → Kp [9, 10, 11, 12, 19] g g21 → 0 ≤ x20.toInt ∧ x20.toInt ≤ 12 → Wm X p l e (rmD 3) s m ([.ref (aL X 16)] : List Value).toArray below meth c 2 0 0 (MQ below (cQ X (pV (fun g2 => Inv g2 ∧ Kp [9, 10, 11, 12, 19] g g2))) ([.ref (aL X 16)] : List Value).toArray s 0 0 (Ab X)) g21 34 [(0, .ref (aL X 16)), (1, .int x20)] [] := by
      intro n34
      induction n34 with
      | zero => intro x20 g21 hm; exact absurd hm (Nat.not_lt_zero _)
      | succ n34 ih34 =>
        intro x20 g21 hm34 hI22 hK23 i24
        try obtain ⟨i24a, i24b⟩ := i24
        refine m_iload_n C dX4_linkDraft_34 1 rfl ?_
        refine m_bipush C (12 : Int32) dX4_linkDraft_35 (by decide) ?_
        refine m_icmp_ge C 62 dX4_linkDraft_37 (by decide) (fun h25 => ?_) (fun h25 => ?_)
        · skip
          have th25 := i_le h25
          rw [show (12 : Int32).toInt = 12 by decide] at th25
          refine m_aload_n C dX4_linkDraft_62 0 rfl ?_
          refine m_getr (rf := "") C 0 rfl gd4 (by decide) sh_16 rfl dX4_linkDraft_63 lk_X4_28 ?_
          refine m_aload_n C dX4_linkDraft_66 0 rfl ?_
          refine m_getr (rf := "") C 3 rfl gd4 (by decide) sh_16 rfl dX4_linkDraft_67 lk_X4_20 ?_
          refine m_aload_n C dX4_linkDraft_70 0 rfl ?_
          refine m_geti (rf := "") C 4 rfl gd4 (by decide) sh_16 rfl dX4_linkDraft_71 lk_X4_24 ?_
          have r26 := iv_size hI22
          have ev27 : g21 16 4 = g 16 4 := congrFun (hK23.1 16 (by decide)) 4
          have tev27 := congrArg Int32.toInt ev27
          refine m_iconst C (1 : Int32) dX4_linkDraft_74 (by decide) ?_
          refine m_iadd C dX4_linkDraft_75 ?_
          have t28 : ((g21 16 4) + (1 : Int32)).toInt = (g21 16 4).toInt + (1 : Int) := i_add rfl (by decide) (by omega) (by omega)
          refine m_invVN C cal_X1_finish sh_9 rfl (c_X1_finish_18 l hX g21 ((g21 16 4) + (1 : Int32)) hI22 (by omega)) lk_X4_62 im_X1_finish se_X1_finish (by decide) rfl rfl (Nat.le_of_ble_eq_true rfl) dX4_linkDraft_76 ⟨Nat.le_refl _, Nat.le_refl _⟩ (rV fun g30 q31 => ?_)
          obtain ⟨hI32, hK33⟩ := q31
          have ev34 : g30 16 4 = g21 16 4 := congrFun (hK33.1 16 (by decide)) 4
          have tev34 := congrArg Int32.toInt ev34
          have hK35 : Kp [9, 10, 11, 12, 19] g g30 := (hK23).tr hK33 (by decide)
          exact m_vret C dX4_linkDraft_79 ⟨rfl, hI32, hK35⟩
        · skip
          have th25 := i_nle h25
          rw [show (12 : Int32).toInt = 12 by decide] at th25
          refine m_aload_n C dX4_linkDraft_40 0 rfl ?_
          refine m_getr (rf := "") C 0 rfl gd4 (by decide) sh_16 rfl dX4_linkDraft_41 lk_X4_28 ?_
          refine m_aload_n C dX4_linkDraft_44 0 rfl ?_
          refine m_aload_n C dX4_linkDraft_45 0 rfl ?_
          refine m_geti (rf := "") C 4 rfl gd4 (by decide) sh_16 rfl dX4_linkDraft_46 lk_X4_24 ?_
          have r36 := iv_size hI22
          have ev37 : g21 16 4 = g 16 4 := congrFun (hK23.1 16 (by decide)) 4
          have tev37 := congrArg Int32.toInt ev37
          refine m_iload_n C dX4_linkDraft_49 1 rfl ?_
          refine m_invV C cal_X4_entryByte sh_16 rfl (c_X4_entryByte l hX g21 (g21 16 4) x20 hI22 (by omega) (by omega)) lk_X4_40 im_X4_entryByte se_X4_entryByte (by decide) rfl rfl (Nat.le_of_ble_eq_true rfl) dX4_linkDraft_50 ⟨Nat.le_refl _, Nat.le_refl _⟩ (rI fun r38 g39 q40 => ?_)
          obtain ⟨eg39, p41⟩ := q40
          subst g39
          refine m_invVN C cal_X1_add sh_9 rfl (c_X1_add l hX g21 r38 hI22) lk_X4_59 im_X1_add se_X1_add (by decide) rfl rfl (Nat.le_of_ble_eq_true rfl) dX4_linkDraft_53 ⟨Nat.le_refl _, Nat.le_refl _⟩ (rV fun g43 q44 => ?_)
          obtain ⟨hI45, hK46⟩ := q44
          have ev47 : g43 16 4 = g21 16 4 := congrFun (hK46.1 16 (by decide)) 4
          have tev47 := congrArg Int32.toInt ev47
          have hK48 : Kp [9, 10, 11, 12, 19] g g43 := (hK23).tr hK46 (by decide)
          obtain ⟨x49, ex49⟩ : ∃ z : Int32, z = x20 + Int32.ofInt 1 := ⟨_, rfl⟩
          have t50 : (x20 + (Int32.ofInt 1)).toInt = x20.toInt + (1 : Int) := i_add rfl (by decide) (by omega) (by omega)
          have t51 : x49.toInt = (x20.toInt + (1 : Int)) := (congrArg Int32.toInt ex49).trans t50
          refine m_iinc C x49 [(1, .int x49), (0, .ref (aL X 16))] dX4_linkDraft_56 (q := 1) rfl ex49.symm (by decide) rfl ?_
          refine m_goto C 34 dX4_linkDraft_59 (by decide) ?_
          refine m_lv [1, 0] rfl ?_
          exact ih34 x49 g43 (by omega) hI45 hK48 (by omega)
    have t52 : (0 : Int32).toInt = 0 := by decide
    refine m_lv [1, 0] rfl ?_
    exact L34 (((13 - (0 : Int32).toInt).toNat) + 1) (0 : Int32) g13 (Nat.lt_succ_self _) hI15 hK18 (by omega)
  · skip
    have th2 := i_nlt h2
    rw [show (60 : Int32).toInt = 60 by decide] at th2
    exact m_vret C dX4_linkDraft_9 ⟨rfl, hI, Kp.rf⟩
set_option maxRecDepth 20000 in
set_option maxHeartbeats 4000000 in
theorem c_X4_accept (l : Launch) {X : XT} (hX : Lok X) (g : Mem)  (hI : Inv g) : Ctr l X yX4_accept cX4_accept 1 none (rmD 5) [.ref (aL X 16)] g (pV (fun g2 => Inv g2 ∧ Kp [9, 10, 11, 12, 15, 16] g g2 ∧ 1 ≤ (g2 16 4).toInt)) := by
  refine Ctr.of (lv := [(0, .ref (aL X 16))]) hX (by decide) rfl (Nat.le_of_ble_eq_true rfl) ?_
  intro p e s m below meth c C
  refine m_aload_n C dX4_accept_0 0 rfl ?_
  refine m_geti (rf := "") C 4 rfl gd4 (by decide) sh_16 rfl dX4_accept_1 lk_X4_24 ?_
  have r1 := iv_size hI
  refine m_bipush C (60 : Int32) dX4_accept_4 (by decide) ?_
  refine m_icmp_ge C 34 dX4_accept_6 (by decide) (fun h2 => ?_) (fun h2 => ?_)
  · skip
    have th2 := i_le h2
    rw [show (60 : Int32).toInt = 60 by decide] at th2
    exact m_vret C dX4_accept_34 ⟨rfl, hI, Kp.rf, (by first | omega | (rw [eg, up2_self]; omega))⟩
  · skip
    have th2 := i_nle h2
    rw [show (60 : Int32).toInt = 60 by decide] at th2
    refine m_aload_n C dX4_accept_9 0 rfl ?_
    refine m_getr (rf := "") C 1 rfl gd4 (by decide) sh_16 rfl dX4_accept_10 lk_X4_32 ?_
    refine m_aload_n C dX4_accept_13 0 rfl ?_
    refine m_getr (rf := "") C 2 rfl gd4 (by decide) sh_16 rfl dX4_accept_14 lk_X4_9 ?_
    refine m_aload_n C dX4_accept_17 0 rfl ?_
    refine m_geti (rf := "") C 4 rfl gd4 (by decide) sh_16 rfl dX4_accept_18 lk_X4_24 ?_
    have r3 := iv_size hI
    refine m_invVN C cal_X7_addLeaf sh_13 rfl (c_X7_addLeaf_17 l hX g (g 16 4) hI (by omega)) lk_X4_65 im_X7_addLeaf se_X7_addLeaf (by decide) rfl rfl (Nat.le_of_ble_eq_true rfl) dX4_accept_21 ⟨Nat.le_refl _, Nat.le_refl _⟩ (rV fun g5 q6 => ?_)
    obtain ⟨hI7, hK8⟩ := q6
    have ev9 : g5 16 4 = g 16 4 := congrFun (hK8.1 16 (by decide)) 4
    have tev9 := congrArg Int32.toInt ev9
    have hK10 : Kp [9, 10, 11, 12, 15, 16] g g5 := (Kp.rf).tr hK8 (by decide)
    refine m_aload_n C dX4_accept_24 0 rfl ?_
    refine m_dup C dX4_accept_25 rfl ?_
    refine m_geti (rf := "") C 4 rfl gd4 (by decide) sh_16 rfl dX4_accept_26 lk_X4_24 ?_
    have r11 := iv_size hI7
    refine m_iconst C (1 : Int32) dX4_accept_29 (by decide) ?_
    refine m_iadd C dX4_accept_30 ?_
    have t12 : ((g5 16 4) + (1 : Int32)).toInt = (g5 16 4).toInt + (1 : Int) := i_add rfl (by decide) (by omega) (by omega)
    refine m_put (rf := "") C 4 rfl gd4 (by decide) tyX4 tyX4_ok nmX4 rfl (tyX4_ok 4 (by decide)) rfl rfl sh_16 rfl dX4_accept_31 lk_X4_24 ?_
    refine m_mem (fun g13 eg13 => ?_)
    have hI14 : Inv g13 := by rw [eg13]; exact hI7.up (ok_size (by omega) (by omega))
    have hK15 : Kp [9, 10, 11, 12, 15, 16] g g13 := by rw [eg13]; exact Kp.up hK10 (by decide) (Or.inl (by decide)) (Or.inl (by decide))
    exact m_vret C dX4_accept_34 ⟨rfl, hI14, hK15, (by first | omega | (rw [eg13, up2_self]; omega))⟩
set_option maxRecDepth 20000 in
set_option maxHeartbeats 4000000 in
theorem c_X0_writeFrame (l : Launch) {X : XT} (hX : Lok X) (g : Mem) (i0 : Int32) (hI : Inv g) (h_i0 : 0 ≤ i0.toInt ∧ i0.toInt ≤ 59) : Ctr l X yX0_writeFrame cX0_writeFrame 4 none (rmD 3) [.ref (aL X 30), .ref (aL X 16), .int i0] g (pV (fun g2 => Inv g2 ∧ Kp [30, 31] g g2)) := by
  refine Ctr.of (lv := [(0, .ref (aL X 30)), (1, .ref (aL X 16)), (2, .int i0)]) hX (by decide) rfl (Nat.le_of_ble_eq_true rfl) ?_
  intro p e s m below meth c C
  refine m_iconst C (0 : Int32) dX0_writeFrame_0 (by decide) ?_
  refine m_istore_n C [(3, .int (0 : Int32)), (0, .ref (aL X 30)), (1, .ref (aL X 16)), (2, .int i0)] dX0_writeFrame_1 (by decide) rfl ?_
  have L2 : ∀ (n2 : Nat) (x2 : Int32) (g3 : Mem), (18 - x2.toInt).toNat < n2 → Inv g3 → Kp [30, 31] g g3 → 0 ≤ x2.toInt ∧ x2.toInt ≤ 17 → Wm X p l e (rmD 3) s m ([.ref (aL X 30), .ref (aL X 16), .int i0] : List Value).toArray below meth c 4 0 0 (MQ below (cQ X (pV (fun g2 => Inv g2 ∧ Kp [30, 31] g g2))) ([.ref (aL X 30), .ref (aL X 16), .int i0] : List Value).toArray s 0 0 (Ab X)) g3 2 [(0, .ref (aL X 30)), (1, .ref (aL X 16)), (2, .int i0), (3, .int x2)] [] := by
    intro n2
    induction n2 with
    | zero => intro x2 g3 hm; exact absurd hm (Nat.not_lt_zero _)
    | succ n2 ih2 =>
      intro x2 g3 hm2 hI4 hK5 i6
      try obtain ⟨i6a, i6b⟩ := i6
      refine m_iload_n C dX0_writeFrame_2 3 rfl ?_
      refine m_bipush C (17 : Int32) dX0_writeFrame_3 (by decide) ?_
      refine m_icmp_ge C 31 dX0_writeFrame_5 (by decide) (fun h7 => ?_) (fun h7 => ?_)
      · skip
        have th7 := i_le h7
        rw [show (17 : Int32).toInt = 17 by decide] at th7
        refine m_aload_n C dX0_writeFrame_31 0 rfl ?_
        refine m_iload_n C dX0_writeFrame_32 2 rfl ?_
        refine m_iconst C (1 : Int32) dX0_writeFrame_33 (by decide) ?_
        refine m_iadd C dX0_writeFrame_34 ?_
        refine m_bipush C (17 : Int32) dX0_writeFrame_35 (by decide) ?_
        refine m_imul C dX0_writeFrame_37 ?_
        have t8 : (i0 + (1 : Int32)).toInt = i0.toInt + (1 : Int) := i_add rfl (by decide) (by omega) (by omega)
        have t9 : ((i0 + (1 : Int32)) * (17 : Int32)).toInt = (i0.toInt + (1 : Int)) * (17 : Int) := i_mul t8 (by decide) (by omega) (by omega)
        refine m_put (rf := "") C 1 rfl gd0 (by decide) tyX0 tyX0_ok nmX0 rfl (tyX0_ok 1 (by decide)) rfl rfl sh_30 rfl dX0_writeFrame_38 lk_X0_15 ?_
        refine m_mem (fun g10 eg10 => ?_)
        have hI11 : Inv g10 := by rw [eg10]; exact hI4.up (ok_wrt (by omega) (by omega))
        have hK12 : Kp [30, 31] g g10 := by rw [eg10]; exact Kp.up hK5 (by decide) (Or.inl (by decide)) (Or.inl (by decide))
        exact m_vret C dX0_writeFrame_41 ⟨rfl, hI11, hK12⟩
      · skip
        have th7 := i_nle h7
        rw [show (17 : Int32).toInt = 17 by decide] at th7
        refine m_aload_n C dX0_writeFrame_8 0 rfl ?_
        refine m_getr (rf := "") C 0 rfl gd0 (by decide) sh_30 rfl dX0_writeFrame_9 lk_X0_9 ?_
        refine m_iload_n C dX0_writeFrame_12 2 rfl ?_
        refine m_bipush C (17 : Int32) dX0_writeFrame_13 (by decide) ?_
        refine m_imul C dX0_writeFrame_15 ?_
        refine m_iload_n C dX0_writeFrame_16 3 rfl ?_
        refine m_iadd C dX0_writeFrame_17 ?_
        refine m_aload_n C dX0_writeFrame_18 1 rfl ?_
        refine m_iload_n C dX0_writeFrame_19 2 rfl ?_
        refine m_iload_n C dX0_writeFrame_20 3 rfl ?_
        refine m_invVN C cal_X4_frameByte sh_16 rfl (c_X4_frameByte l hX g3 i0 x2 hI4 (by omega) (by omega)) lk_X0_22 im_X4_frameByte se_X4_frameByte (by decide) rfl rfl (Nat.le_of_ble_eq_true rfl) dX0_writeFrame_21 ⟨Nat.le_refl _, Nat.le_refl _⟩ (rI fun r13 g14 q15 => ?_)
        obtain ⟨eg14, p16⟩ := q15
        subst g14
        have t17 : (i0 * (17 : Int32)).toInt = i0.toInt * (17 : Int) := i_mul rfl (by decide) (by omega) (by omega)
        have t18 : ((i0 * (17 : Int32)) + x2).toInt = (i0.toInt * (17 : Int)) + x2.toInt := i_add t17 rfl (by omega) (by omega)
        refine m_iast C sh_31 (i_in (by omega) (by omega)) dX0_writeFrame_24 ?_
        refine m_mem (fun g19 eg19 => ?_)
        have hI20 : Inv g19 := by rw [eg19]; exact hI4.up (ok_any (by decide))
        have hK21 : Kp [30, 31] g g19 := by rw [eg19]; exact Kp.up hK5 (by decide) (Or.inl (by decide)) (Or.inl (by decide))
        obtain ⟨x22, ex22⟩ : ∃ z : Int32, z = x2 + Int32.ofInt 1 := ⟨_, rfl⟩
        have t23 : (x2 + (Int32.ofInt 1)).toInt = x2.toInt + (1 : Int) := i_add rfl (by decide) (by omega) (by omega)
        have t24 : x22.toInt = (x2.toInt + (1 : Int)) := (congrArg Int32.toInt ex22).trans t23
        refine m_iinc C x22 [(3, .int x22), (0, .ref (aL X 30)), (1, .ref (aL X 16)), (2, .int i0)] dX0_writeFrame_25 (q := 3) rfl ex22.symm (by decide) rfl ?_
        refine m_goto C 2 dX0_writeFrame_28 (by decide) ?_
        refine m_lv [1, 2, 3, 0] rfl ?_
        exact ih2 x22 g19 (by omega) hI20 hK21 (by omega)
  have t25 : (0 : Int32).toInt = 0 := by decide
  refine m_lv [1, 2, 3, 0] rfl ?_
  exact L2 (((18 - (0 : Int32).toInt).toNat) + 1) (0 : Int32) g (Nat.lt_succ_self _) hI Kp.rf (by omega)
set_option maxRecDepth 20000 in
set_option maxHeartbeats 4000000 in
theorem c_X0_holdsFrame (l : Launch) {X : XT} (hX : Lok X) (g : Mem) (i0 : Int32) (hI : Inv g) (h_i0 : 0 ≤ i0.toInt ∧ i0.toInt ≤ 59) : Ctr l X yX0_holdsFrame cX0_holdsFrame 4 (some .boolean) (rmD 3) [.ref (aL X 30), .ref (aL X 16), .int i0] g (pI (fun r g2 => Inv g2 ∧ Kp [] g g2 ∧ R01 r)) := by
  refine Ctr.of (lv := [(0, .ref (aL X 30)), (1, .ref (aL X 16)), (2, .int i0)]) hX (by decide) rfl (Nat.le_of_ble_eq_true rfl) ?_
  intro p e s m below meth c C
  refine m_iconst C (0 : Int32) dX0_holdsFrame_0 (by decide) ?_
  refine m_istore_n C [(3, .int (0 : Int32)), (0, .ref (aL X 30)), (1, .ref (aL X 16)), (2, .int i0)] dX0_holdsFrame_1 (by decide) rfl ?_
  have L2 : ∀ (n2 : Nat) (x2 : Int32) (g3 : Mem), (18 - x2.toInt).toNat < n2 → Inv g3 → Kp [] g g3 → 0 ≤ x2.toInt ∧ x2.toInt ≤ 17 → Wm X p l e (rmD 3) s m ([.ref (aL X 30), .ref (aL X 16), .int i0] : List Value).toArray below meth c 4 0 0 (MQ below (cQ X (pI (fun r g2 => Inv g2 ∧ Kp [] g g2 ∧ R01 r))) ([.ref (aL X 30), .ref (aL X 16), .int i0] : List Value).toArray s 0 0 (Ab X)) g3 2 [(0, .ref (aL X 30)), (1, .ref (aL X 16)), (2, .int i0), (3, .int x2)] [] := by
    intro n2
    induction n2 with
    | zero => intro x2 g3 hm; exact absurd hm (Nat.not_lt_zero _)
    | succ n2 ih2 =>
      intro x2 g3 hm2 hI4 hK5 i6
      try obtain ⟨i6a, i6b⟩ := i6
      refine m_iload_n C dX0_holdsFrame_2 3 rfl ?_
      refine m_bipush C (17 : Int32) dX0_holdsFrame_3 (by decide) ?_
      refine m_icmp_ge C 36 dX0_holdsFrame_5 (by decide) (fun h7 => ?_) (fun h7 => ?_)
      · skip
        have th7 := i_le h7
        rw [show (17 : Int32).toInt = 17 by decide] at th7
        refine m_iconst C (1 : Int32) dX0_holdsFrame_36 (by decide) ?_
        exact m_zret C dX0_holdsFrame_37 (by decide) ⟨_, rfl, hI4, hK5, (by first | exact Or.inl rfl | exact Or.inr rfl)⟩
      · skip
        have th7 := i_nle h7
        rw [show (17 : Int32).toInt = 17 by decide] at th7
        refine m_aload_n C dX0_holdsFrame_8 0 rfl ?_
        refine m_getr (rf := "") C 0 rfl gd0 (by decide) sh_30 rfl dX0_holdsFrame_9 lk_X0_9 ?_
        refine m_iload_n C dX0_holdsFrame_12 2 rfl ?_
        refine m_bipush C (17 : Int32) dX0_holdsFrame_13 (by decide) ?_
        refine m_imul C dX0_holdsFrame_15 ?_
        refine m_iload_n C dX0_holdsFrame_16 3 rfl ?_
        refine m_iadd C dX0_holdsFrame_17 ?_
        have t8 : (i0 * (17 : Int32)).toInt = i0.toInt * (17 : Int) := i_mul rfl (by decide) (by omega) (by omega)
        have t9 : ((i0 * (17 : Int32)) + x2).toInt = (i0.toInt * (17 : Int)) + x2.toInt := i_add t8 rfl (by omega) (by omega)
        refine m_iald C sh_31 (i_in (by omega) (by omega)) dX0_holdsFrame_18 ?_
        refine m_aload_n C dX0_holdsFrame_19 1 rfl ?_
        refine m_iload_n C dX0_holdsFrame_20 2 rfl ?_
        refine m_iload_n C dX0_holdsFrame_21 3 rfl ?_
        refine m_invVN C cal_X4_frameByte sh_16 rfl (c_X4_frameByte l hX g3 i0 x2 hI4 (by omega) (by omega)) lk_X0_22 im_X4_frameByte se_X4_frameByte (by decide) rfl rfl (Nat.le_of_ble_eq_true rfl) dX0_holdsFrame_22 ⟨Nat.le_refl _, Nat.le_refl _⟩ (rI fun r10 g11 q12 => ?_)
        obtain ⟨eg11, p13⟩ := q12
        subst g11
        refine m_icmp_eq C 30 dX0_holdsFrame_25 (by decide) (fun h14 => ?_) (fun h14 => ?_)
        · skip
          have th14 := i_eq h14
          obtain ⟨x15, ex15⟩ : ∃ z : Int32, z = x2 + Int32.ofInt 1 := ⟨_, rfl⟩
          have t16 : (x2 + (Int32.ofInt 1)).toInt = x2.toInt + (1 : Int) := i_add rfl (by decide) (by omega) (by omega)
          have t17 : x15.toInt = (x2.toInt + (1 : Int)) := (congrArg Int32.toInt ex15).trans t16
          refine m_iinc C x15 [(3, .int x15), (0, .ref (aL X 30)), (1, .ref (aL X 16)), (2, .int i0)] dX0_holdsFrame_30 (q := 3) rfl ex15.symm (by decide) rfl ?_
          refine m_goto C 2 dX0_holdsFrame_33 (by decide) ?_
          refine m_lv [1, 2, 3, 0] rfl ?_
          exact ih2 x15 g3 (by omega) hI4 hK5 (by omega)
        · skip
          have th14 := i_ne h14
          refine m_iconst C (0 : Int32) dX0_holdsFrame_28 (by decide) ?_
          exact m_zret C dX0_holdsFrame_29 (by decide) ⟨_, rfl, hI4, hK5, (by first | exact Or.inl rfl | exact Or.inr rfl)⟩
  have t18 : (0 : Int32).toInt = 0 := by decide
  refine m_lv [1, 2, 3, 0] rfl ?_
  exact L2 (((18 - (0 : Int32).toInt).toNat) + 1) (0 : Int32) g (Nat.lt_succ_self _) hI Kp.rf (by omega)
