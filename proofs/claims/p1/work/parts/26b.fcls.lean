set_option maxRecDepth 20000 in
set_option maxHeartbeats 4000000 in
theorem c_X8_refusal_f (l : Launch) {X : XT} (hX : Lok X) (g : Mem)  (hI : Inv g) (hF : FX g) : Ctr l X yX8_refusal cX8_refusal 1 (some .int) (rmD 0) [.ref (aL X 0)] g (pI (fun r g2 => g2 = g ∧ (r.toInt = 0))) := by
  refine Ctr.of (lv := [(0, .ref (aL X 0))]) hX (by decide) rfl (Nat.le_of_ble_eq_true rfl) ?_
  intro p e s m below meth c C
  have zf0 := hF.t 16 4 (by decide)
  have zf1 := hF.t 20 5 (by decide)
  have zf2 := hF.t 30 1 (by decide)
  have zf3 := hF.t 30 2 (by decide)
  have zf4 := hF.t 0 10 (by decide)
  refine m_aload_n C dX8_refusal_0 0 rfl ?_
  refine m_geti (rf := "") C 10 rfl gd8 (by decide) sh_0 rfl dX8_refusal_1 lk_X8_82 ?_
  have z1 := hF.t 0 10 (by decide)
  refine m_if_eq C 10 dX8_refusal_4 (by decide) (fun h2 => ?_) (fun h2 => ?_)
  · skip
    have th2 := i_eq h2
    rw [show (0 : Int32).toInt = 0 by decide] at th2
    refine m_aload_n C dX8_refusal_10 0 rfl ?_
    refine m_getr (rf := "") C 3 rfl gd8 (by decide) sh_0 rfl dX8_refusal_11 lk_X8_37 ?_
    refine m_getiN (rf := "") C 4 rfl gd4 (by decide) sh_16 rfl dX8_refusal_14 lk_X8_211 ?_
    have r3 := iv_size hI
    have z4 := hF.t 16 4 (by decide)
    refine m_bipush C (60 : Int32) dX8_refusal_17 (by decide) ?_
    refine m_icmp_lt C 27 dX8_refusal_19 (by decide) (fun h5 => ?_) (fun h5 => ?_)
    · skip
      have th5 := i_lt h5
      rw [show (60 : Int32).toInt = 60 by decide] at th5
      refine m_iconst C (0 : Int32) dX8_refusal_27 (by decide) ?_
      exact m_iret C dX8_refusal_28 ⟨_, rfl, rfl, (by have hl : (0 : Int32).toInt = 0 := (by decide); omega)⟩
    · skip
      have th5 := i_nlt h5
      rw [show (60 : Int32).toInt = 60 by decide] at th5
      refine m_bipush C (-4 : Int32) dX8_refusal_22 (by decide) ?_
      refine m_goto C 28 dX8_refusal_24 (by decide) ?_
      exact m_iret C dX8_refusal_28 ⟨_, rfl, rfl, (by have hl : (-4 : Int32).toInt = -4 := (by decide); omega)⟩
  · skip
    have th2 := i_ne h2
    rw [show (0 : Int32).toInt = 0 by decide] at th2
    refine m_bipush C (-3 : Int32) dX8_refusal_7 (by decide) ?_
    exact m_iret C dX8_refusal_9 ⟨_, rfl, rfl, (by have hl : (-3 : Int32).toInt = -3 := (by decide); omega)⟩
set_option maxRecDepth 20000 in
set_option maxHeartbeats 4000000 in
theorem c_X5_hasBeenGiven_f (l : Launch) {X : XT} (hX : Lok X) (g : Mem) (pt : Int32) (o : Int32) (q : Int32) (hI : Inv g) (h_pt : 0 ≤ pt.toInt ∧ pt.toInt ≤ 19) (h_o : 0 ≤ o.toInt ∧ o.toInt ≤ 15) (h_q : 0 ≤ q.toInt ∧ q.toInt ≤ 3) (hF : FX g) : Ctr l X yX5_hasBeenGiven cX5_hasBeenGiven 4 (some .boolean) (rmD 1) [.ref (aL X 1), .int pt, .int o, .int q] g (pI (fun r g2 => g2 = g ∧ (r.toInt = 0))) := by
  refine Ctr.of (lv := [(0, .ref (aL X 1)), (1, .int pt), (2, .int o), (3, .int q)]) hX (by decide) rfl (Nat.le_of_ble_eq_true rfl) ?_
  intro p e s m below meth c C
  have zf0 := hF.t 16 4 (by decide)
  have zf1 := hF.t 20 5 (by decide)
  have zf2 := hF.t 30 1 (by decide)
  have zf3 := hF.t 30 2 (by decide)
  have zf4 := hF.t 0 10 (by decide)
  refine m_aload_n C dX5_hasBeenGiven_0 0 rfl ?_
  refine m_getr (rf := "") C 6 rfl gd5 (by decide) sh_1 rfl dX5_hasBeenGiven_1 lk_X5_31 ?_
  refine m_iload_n C dX5_hasBeenGiven_4 1 rfl ?_
  refine m_iload_n C dX5_hasBeenGiven_5 2 rfl ?_
  refine m_iload_n C dX5_hasBeenGiven_6 3 rfl ?_
  refine m_invS C cal_X5_rightAt (c_X5_rightAt l hX g pt o q hI (by omega) (by omega) (by omega)) lk_X5_48 st_X5_rightAt (by decide) rfl rfl (Nat.le_of_ble_eq_true rfl) dX5_hasBeenGiven_7 ⟨Nat.le_refl _, Nat.le_refl _⟩ (rI fun r1 g2 q3 => ?_)
  obtain ⟨eg2, p4⟩ := q3
  subst g2
  refine m_zald C sh_8 (i_in (by omega) (by omega)) dX5_hasBeenGiven_10 ?_
  have z5 := hF.t 8 r1.toNatClampNeg (by decide)
  exact m_zret C dX5_hasBeenGiven_11 (iv_rts hI _).nar ⟨_, rfl, rfl, (by omega)⟩
set_option maxRecDepth 20000 in
set_option maxHeartbeats 4000000 in
theorem c_X5_holds_f (l : Launch) {X : XT} (hX : Lok X) (g : Mem) (a : Int32) (o : Int32) (q : Int32) (hI : Inv g) (h_a : 0 ≤ a.toInt ∧ a.toInt ≤ 11) (h_o : 0 ≤ o.toInt ∧ o.toInt ≤ 15) (h_q : 0 ≤ q.toInt ∧ q.toInt ≤ 3) (hF : FX g) : Ctr l X yX5_holds cX5_holds 4 (some .boolean) (rmD 2) [.ref (aL X 1), .int a, .int o, .int q] g (pI (fun r g2 => g2 = g ∧ ((r.toInt = 1 ∧ a.toInt = 0) ∨ (r.toInt = 0 ∧ a.toInt ≠ 0)))) := by
  refine Ctr.of (lv := [(0, .ref (aL X 1)), (1, .int a), (2, .int o), (3, .int q)]) hX (by decide) rfl (Nat.le_of_ble_eq_true rfl) ?_
  intro p e s m below meth c C
  have zf0 := hF.t 16 4 (by decide)
  have zf1 := hF.t 20 5 (by decide)
  have zf2 := hF.t 30 1 (by decide)
  have zf3 := hF.t 30 2 (by decide)
  have zf4 := hF.t 0 10 (by decide)
  refine m_aload_n C dX5_holds_0 0 rfl ?_
  refine m_getr (rf := "") C 5 rfl gd5 (by decide) sh_1 rfl dX5_holds_1 lk_X5_28 ?_
  refine m_iload_n C dX5_holds_4 2 rfl ?_
  refine m_iald C sh_7 (i_in (by omega) (by omega)) dX5_holds_5 ?_
  have z1 := hF.t 7 o.toNatClampNeg (by decide)
  refine m_iload_n C dX5_holds_6 1 rfl ?_
  refine m_icmp_eq C 38 dX5_holds_7 (by decide) (fun h2 => ?_) (fun h2 => ?_)
  · skip
    have th2 := i_eq h2
    refine m_iconst C (1 : Int32) dX5_holds_38 (by decide) ?_
    refine m_goto C 43 dX5_holds_39 (by decide) ?_
    exact m_zret C dX5_holds_43 (by decide) ⟨_, rfl, rfl, (by have hl : (1 : Int32).toInt = 1 := (by decide); omega)⟩
  · skip
    have th2 := i_ne h2
    refine m_aload_n C dX5_holds_10 0 rfl ?_
    refine m_iload_n C dX5_holds_11 1 rfl ?_
    refine m_iload_n C dX5_holds_12 2 rfl ?_
    refine m_iload_n C dX5_holds_13 3 rfl ?_
    refine m_invV C cal_X5_hasBeenGiven sh_1 rfl (c_X5_hasBeenGiven_f l hX g a o q hI (by omega) (by omega) (by omega) hF) lk_X5_45 im_X5_hasBeenGiven se_X5_hasBeenGiven (by decide) rfl rfl (Nat.le_of_ble_eq_true rfl) dX5_holds_14 ⟨Nat.le_refl _, Nat.le_refl _⟩ (rI fun r3 g4 q5 => ?_)
    obtain ⟨eg4, p6⟩ := q5
    subst g4
    refine m_if_ne C 38 dX5_holds_17 (by decide) (fun h7 => ?_) (fun h7 => ?_)
    · skip
      have th7 := i_ne h7
      rw [show (0 : Int32).toInt = 0 by decide] at th7
      refine m_iconst C (1 : Int32) dX5_holds_38 (by decide) ?_
      refine m_goto C 43 dX5_holds_39 (by decide) ?_
      exact m_zret C dX5_holds_43 (by decide) ⟨_, rfl, rfl, (by have hl : (1 : Int32).toInt = 1 := (by decide); omega)⟩
    · skip
      have th7 := i_eq h7
      rw [show (0 : Int32).toInt = 0 by decide] at th7
      refine m_aload_n C dX5_holds_20 0 rfl ?_
      refine m_bipush C (16 : Int32) dX5_holds_21 (by decide) ?_
      refine m_aload_n C dX5_holds_23 0 rfl ?_
      refine m_getr (rf := "") C 1 rfl gd5 (by decide) sh_1 rfl dX5_holds_24 lk_X5_15 ?_
      refine m_iload_n C dX5_holds_27 1 rfl ?_
      refine m_iald C sh_3 (i_in (by omega) (by omega)) dX5_holds_28 ?_
      have r8 := iv_grp hI a.toNatClampNeg
      have z9 := hF.t 3 a.toNatClampNeg (by decide)
      refine m_iadd C dX5_holds_29 ?_
      refine m_iload_n C dX5_holds_30 2 rfl ?_
      refine m_iload_n C dX5_holds_31 3 rfl ?_
      have t10 : ((16 : Int32) + (g 3 a.toNatClampNeg)).toInt = (16 : Int) + (g 3 a.toNatClampNeg).toInt := i_add (by decide) rfl (by omega) (by omega)
      refine m_invV C cal_X5_hasBeenGiven sh_1 rfl (c_X5_hasBeenGiven_f l hX g ((16 : Int32) + (g 3 a.toNatClampNeg)) o q hI (by omega) (by omega) (by omega) hF) lk_X5_45 im_X5_hasBeenGiven se_X5_hasBeenGiven (by decide) rfl rfl (Nat.le_of_ble_eq_true rfl) dX5_holds_32 ⟨Nat.le_refl _, Nat.le_refl _⟩ (rI fun r11 g12 q13 => ?_)
      obtain ⟨eg12, p14⟩ := q13
      subst g12
      refine m_if_eq C 42 dX5_holds_35 (by decide) (fun h15 => ?_) (fun h15 => ?_)
      · skip
        have th15 := i_eq h15
        rw [show (0 : Int32).toInt = 0 by decide] at th15
        refine m_iconst C (0 : Int32) dX5_holds_42 (by decide) ?_
        exact m_zret C dX5_holds_43 (by decide) ⟨_, rfl, rfl, (by have hl : (0 : Int32).toInt = 0 := (by decide); omega)⟩
      · skip
        have th15 := i_ne h15
        rw [show (0 : Int32).toInt = 0 by decide] at th15
        refine m_iconst C (1 : Int32) dX5_holds_38 (by decide) ?_
        refine m_goto C 43 dX5_holds_39 (by decide) ?_
        exact m_zret C dX5_holds_43 (by decide) ⟨_, rfl, rfl, (by have hl : (1 : Int32).toInt = 1 := (by decide); omega)⟩
set_option maxRecDepth 20000 in
set_option maxHeartbeats 4000000 in
theorem c_X5_causeOf_f (l : Launch) {X : XT} (hX : Lok X) (g : Mem) (a : Int32) (o : Int32) (q : Int32) (hI : Inv g) (h_a : 0 ≤ a.toInt ∧ a.toInt ≤ 11) (h_o : 0 ≤ o.toInt ∧ o.toInt ≤ 15) (h_q : 0 ≤ q.toInt ∧ q.toInt ≤ 3) (hF : FX g) : Ctr l X yX5_causeOf cX5_causeOf 6 (some .int) (rmD 3) [.ref (aL X 1), .int a, .int o, .int q] g (pI (fun r g2 => g2 = g ∧ ((r.toInt = 0 ∧ a.toInt = 0) ∨ (r.toInt = 4 ∧ a.toInt ≠ 0)))) := by
  refine Ctr.of (lv := [(0, .ref (aL X 1)), (1, .int a), (2, .int o), (3, .int q)]) hX (by decide) rfl (Nat.le_of_ble_eq_true rfl) ?_
  intro p e s m below meth c C
  have zf0 := hF.t 16 4 (by decide)
  have zf1 := hF.t 20 5 (by decide)
  have zf2 := hF.t 30 1 (by decide)
  have zf3 := hF.t 30 2 (by decide)
  have zf4 := hF.t 0 10 (by decide)
  refine m_aload_n C dX5_causeOf_0 0 rfl ?_
  refine m_getr (rf := "") C 0 rfl gd5 (by decide) sh_1 rfl dX5_causeOf_1 lk_X5_9 ?_
  refine m_iload_n C dX5_causeOf_4 1 rfl ?_
  refine m_iald C sh_2 (i_in (by omega) (by omega)) dX5_causeOf_5 ?_
  have z1 := hF.t 2 a.toNatClampNeg (by decide)
  refine m_name (fun x2 ex2 => ?_)
  have t3 : x2.toInt = (g 2 a.toNatClampNeg).toInt := (congrArg Int32.toInt ex2).trans rfl
  refine m_istore C [(4, .int x2), (0, .ref (aL X 1)), (1, .int a), (2, .int o), (3, .int q)] dX5_causeOf_6 (by decide) rfl ?_
  refine m_aload_n C dX5_causeOf_8 1 rfl ?_
  refine m_getr (rf := "") C 4 rfl gd5 (by decide) sh_1 rfl dX5_causeOf_9 lk_X5_25 ?_
  refine m_iload_n C dX5_causeOf_12 3 rfl ?_
  refine m_iald C sh_6 (i_in (by omega) (by omega)) dX5_causeOf_13 ?_
  have z4 := hF.t 6 o.toNatClampNeg (by decide)
  refine m_name (fun x5 ex5 => ?_)
  have t6 : x5.toInt = (g 6 o.toNatClampNeg).toInt := (congrArg Int32.toInt ex5).trans rfl
  refine m_istore C [(5, .int x5), (4, .int x2), (0, .ref (aL X 1)), (1, .int a), (2, .int o), (3, .int q)] dX5_causeOf_14 (by decide) rfl ?_
  refine m_aload_n C dX5_causeOf_16 2 rfl ?_
  refine m_getr (rf := "") C 2 rfl gd5 (by decide) sh_1 rfl dX5_causeOf_17 lk_X5_18 ?_
  refine m_iload_n C dX5_causeOf_20 3 rfl ?_
  refine m_zald C sh_4 (i_in (by omega) (by omega)) dX5_causeOf_21 ?_
  have z7 := hF.t 4 a.toNatClampNeg (by decide)
  refine m_if_eq C 27 dX5_causeOf_22 (by decide) (fun h8 => ?_) (fun h8 => ?_)
  · skip
    have th8 := i_eq h8
    rw [show (0 : Int32).toInt = 0 by decide] at th8
    refine m_iload_n C dX5_causeOf_27 5 rfl ?_
    refine m_if_eq C 36 dX5_causeOf_28 (by decide) (fun h9 => ?_) (fun h9 => ?_)
    · skip
      have th9 := i_eq h9
      rw [show (0 : Int32).toInt = 0 by decide] at th9
      refine m_iload C dX5_causeOf_36 1 rfl ?_
      refine m_iload C dX5_causeOf_38 0 rfl ?_
      refine m_icmp_ge C 45 dX5_causeOf_40 (by decide) (fun h10 => ?_) (fun h10 => ?_)
      · skip
        have th10 := i_le h10
        refine m_iload_n C dX5_causeOf_45 5 rfl ?_
        refine m_iconst C (1 : Int32) dX5_causeOf_46 (by decide) ?_
        refine m_icmp_eq C 55 dX5_causeOf_47 (by decide) (fun h11 => ?_) (fun h11 => ?_)
        · skip
          have th11 := i_eq h11
          rw [show (1 : Int32).toInt = 1 by decide] at th11
          refine m_iload C dX5_causeOf_55 1 rfl ?_
          refine m_iload C dX5_causeOf_57 0 rfl ?_
          refine m_icmp_le C 64 dX5_causeOf_59 (by decide) (fun h12 => ?_) (fun h12 => ?_)
          · skip
            have th12 := i_le h12
            refine m_aload_n C dX5_causeOf_64 2 rfl ?_
            refine m_iload_n C dX5_causeOf_65 3 rfl ?_
            refine m_iload_n C dX5_causeOf_66 4 rfl ?_
            refine m_iload_n C dX5_causeOf_67 5 rfl ?_
            refine m_invV C cal_X5_holds sh_1 rfl (c_X5_holds_f l hX g a o q hI (by omega) (by omega) (by omega) hF) lk_X5_41 im_X5_holds se_X5_holds (by decide) rfl rfl (Nat.le_of_ble_eq_true rfl) dX5_causeOf_68 ⟨Nat.le_refl _, Nat.le_refl _⟩ (rI fun r13 g14 q15 => ?_)
            obtain ⟨eg14, p16⟩ := q15
            subst g14
            refine m_if_eq C 78 dX5_causeOf_71 (by decide) (fun h17 => ?_) (fun h17 => ?_)
            · skip
              have th17 := i_eq h17
              rw [show (0 : Int32).toInt = 0 by decide] at th17
              refine m_iconst C (4 : Int32) dX5_causeOf_78 (by decide) ?_
              exact m_iret C dX5_causeOf_79 ⟨_, rfl, rfl, (by have hl : (4 : Int32).toInt = 4 := (by decide); omega)⟩
            · skip
              have th17 := i_ne h17
              rw [show (0 : Int32).toInt = 0 by decide] at th17
              refine m_iconst C (0 : Int32) dX5_causeOf_74 (by decide) ?_
              refine m_goto C 79 dX5_causeOf_75 (by decide) ?_
              exact m_iret C dX5_causeOf_79 ⟨_, rfl, rfl, (by have hl : (0 : Int32).toInt = 0 := (by decide); omega)⟩
          · skip
            have th12 := i_nle h12
            refine m_iconst C (3 : Int32) dX5_causeOf_62 (by decide) ?_
            exact m_iret C dX5_causeOf_63 ⟨_, rfl, rfl, (by have hl : (3 : Int32).toInt = 3 := (by decide); omega)⟩
        · skip
          have th11 := i_ne h11
          rw [show (1 : Int32).toInt = 1 by decide] at th11
          refine m_iload_n C dX5_causeOf_50 5 rfl ?_
          refine m_iconst C (2 : Int32) dX5_causeOf_51 (by decide) ?_
          refine m_icmp_ne C 64 dX5_causeOf_52 (by decide) (fun h18 => ?_) (fun h18 => ?_)
          · skip
            have th18 := i_ne h18
            rw [show (2 : Int32).toInt = 2 by decide] at th18
            refine m_aload_n C dX5_causeOf_64 2 rfl ?_
            refine m_iload_n C dX5_causeOf_65 3 rfl ?_
            refine m_iload_n C dX5_causeOf_66 4 rfl ?_
            refine m_iload_n C dX5_causeOf_67 5 rfl ?_
            refine m_invV C cal_X5_holds sh_1 rfl (c_X5_holds_f l hX g a o q hI (by omega) (by omega) (by omega) hF) lk_X5_41 im_X5_holds se_X5_holds (by decide) rfl rfl (Nat.le_of_ble_eq_true rfl) dX5_causeOf_68 ⟨Nat.le_refl _, Nat.le_refl _⟩ (rI fun r19 g20 q21 => ?_)
            obtain ⟨eg20, p22⟩ := q21
            subst g20
            refine m_if_eq C 78 dX5_causeOf_71 (by decide) (fun h23 => ?_) (fun h23 => ?_)
            · skip
              have th23 := i_eq h23
              rw [show (0 : Int32).toInt = 0 by decide] at th23
              refine m_iconst C (4 : Int32) dX5_causeOf_78 (by decide) ?_
              exact m_iret C dX5_causeOf_79 ⟨_, rfl, rfl, (by have hl : (4 : Int32).toInt = 4 := (by decide); omega)⟩
            · skip
              have th23 := i_ne h23
              rw [show (0 : Int32).toInt = 0 by decide] at th23
              refine m_iconst C (0 : Int32) dX5_causeOf_74 (by decide) ?_
              refine m_goto C 79 dX5_causeOf_75 (by decide) ?_
              exact m_iret C dX5_causeOf_79 ⟨_, rfl, rfl, (by have hl : (0 : Int32).toInt = 0 := (by decide); omega)⟩
          · skip
            have th18 := i_eq h18
            rw [show (2 : Int32).toInt = 2 by decide] at th18
            refine m_iload C dX5_causeOf_55 1 rfl ?_
            refine m_iload C dX5_causeOf_57 0 rfl ?_
            refine m_icmp_le C 64 dX5_causeOf_59 (by decide) (fun h24 => ?_) (fun h24 => ?_)
            · skip
              have th24 := i_le h24
              refine m_aload_n C dX5_causeOf_64 2 rfl ?_
              refine m_iload_n C dX5_causeOf_65 3 rfl ?_
              refine m_iload_n C dX5_causeOf_66 4 rfl ?_
              refine m_iload_n C dX5_causeOf_67 5 rfl ?_
              refine m_invV C cal_X5_holds sh_1 rfl (c_X5_holds_f l hX g a o q hI (by omega) (by omega) (by omega) hF) lk_X5_41 im_X5_holds se_X5_holds (by decide) rfl rfl (Nat.le_of_ble_eq_true rfl) dX5_causeOf_68 ⟨Nat.le_refl _, Nat.le_refl _⟩ (rI fun r25 g26 q27 => ?_)
              obtain ⟨eg26, p28⟩ := q27
              subst g26
              refine m_if_eq C 78 dX5_causeOf_71 (by decide) (fun h29 => ?_) (fun h29 => ?_)
              · skip
                have th29 := i_eq h29
                rw [show (0 : Int32).toInt = 0 by decide] at th29
                refine m_iconst C (4 : Int32) dX5_causeOf_78 (by decide) ?_
                exact m_iret C dX5_causeOf_79 ⟨_, rfl, rfl, (by have hl : (4 : Int32).toInt = 4 := (by decide); omega)⟩
              · skip
                have th29 := i_ne h29
                rw [show (0 : Int32).toInt = 0 by decide] at th29
                refine m_iconst C (0 : Int32) dX5_causeOf_74 (by decide) ?_
                refine m_goto C 79 dX5_causeOf_75 (by decide) ?_
                exact m_iret C dX5_causeOf_79 ⟨_, rfl, rfl, (by have hl : (0 : Int32).toInt = 0 := (by decide); omega)⟩
            · skip
              have th24 := i_nle h24
              refine m_iconst C (3 : Int32) dX5_causeOf_62 (by decide) ?_
              exact m_iret C dX5_causeOf_63 ⟨_, rfl, rfl, (by have hl : (3 : Int32).toInt = 3 := (by decide); omega)⟩
      · skip
        have th10 := i_nle h10
        refine m_iconst C (2 : Int32) dX5_causeOf_43 (by decide) ?_
        exact m_iret C dX5_causeOf_44 ⟨_, rfl, rfl, (by have hl : (2 : Int32).toInt = 2 := (by decide); omega)⟩
    · skip
      have th9 := i_ne h9
      rw [show (0 : Int32).toInt = 0 by decide] at th9
      refine m_iload_n C dX5_causeOf_31 5 rfl ?_
      refine m_iconst C (1 : Int32) dX5_causeOf_32 (by decide) ?_
      refine m_icmp_ne C 45 dX5_causeOf_33 (by decide) (fun h30 => ?_) (fun h30 => ?_)
      · skip
        have th30 := i_ne h30
        rw [show (1 : Int32).toInt = 1 by decide] at th30
        refine m_iload_n C dX5_causeOf_45 5 rfl ?_
        refine m_iconst C (1 : Int32) dX5_causeOf_46 (by decide) ?_
        refine m_icmp_eq C 55 dX5_causeOf_47 (by decide) (fun h31 => ?_) (fun h31 => ?_)
        · skip
          have th31 := i_eq h31
          rw [show (1 : Int32).toInt = 1 by decide] at th31
          refine m_iload C dX5_causeOf_55 1 rfl ?_
          refine m_iload C dX5_causeOf_57 0 rfl ?_
          refine m_icmp_le C 64 dX5_causeOf_59 (by decide) (fun h32 => ?_) (fun h32 => ?_)
          · skip
            have th32 := i_le h32
            refine m_aload_n C dX5_causeOf_64 2 rfl ?_
            refine m_iload_n C dX5_causeOf_65 3 rfl ?_
            refine m_iload_n C dX5_causeOf_66 4 rfl ?_
            refine m_iload_n C dX5_causeOf_67 5 rfl ?_
            refine m_invV C cal_X5_holds sh_1 rfl (c_X5_holds_f l hX g a o q hI (by omega) (by omega) (by omega) hF) lk_X5_41 im_X5_holds se_X5_holds (by decide) rfl rfl (Nat.le_of_ble_eq_true rfl) dX5_causeOf_68 ⟨Nat.le_refl _, Nat.le_refl _⟩ (rI fun r33 g34 q35 => ?_)
            obtain ⟨eg34, p36⟩ := q35
            subst g34
            refine m_if_eq C 78 dX5_causeOf_71 (by decide) (fun h37 => ?_) (fun h37 => ?_)
            · skip
              have th37 := i_eq h37
              rw [show (0 : Int32).toInt = 0 by decide] at th37
              refine m_iconst C (4 : Int32) dX5_causeOf_78 (by decide) ?_
              exact m_iret C dX5_causeOf_79 ⟨_, rfl, rfl, (by have hl : (4 : Int32).toInt = 4 := (by decide); omega)⟩
            · skip
              have th37 := i_ne h37
              rw [show (0 : Int32).toInt = 0 by decide] at th37
              refine m_iconst C (0 : Int32) dX5_causeOf_74 (by decide) ?_
              refine m_goto C 79 dX5_causeOf_75 (by decide) ?_
              exact m_iret C dX5_causeOf_79 ⟨_, rfl, rfl, (by have hl : (0 : Int32).toInt = 0 := (by decide); omega)⟩
          · skip
            have th32 := i_nle h32
            refine m_iconst C (3 : Int32) dX5_causeOf_62 (by decide) ?_
            exact m_iret C dX5_causeOf_63 ⟨_, rfl, rfl, (by have hl : (3 : Int32).toInt = 3 := (by decide); omega)⟩
        · skip
          have th31 := i_ne h31
          rw [show (1 : Int32).toInt = 1 by decide] at th31
          refine m_iload_n C dX5_causeOf_50 5 rfl ?_
          refine m_iconst C (2 : Int32) dX5_causeOf_51 (by decide) ?_
          refine m_icmp_ne C 64 dX5_causeOf_52 (by decide) (fun h38 => ?_) (fun h38 => ?_)
          · skip
            have th38 := i_ne h38
            rw [show (2 : Int32).toInt = 2 by decide] at th38
            refine m_aload_n C dX5_causeOf_64 2 rfl ?_
            refine m_iload_n C dX5_causeOf_65 3 rfl ?_
            refine m_iload_n C dX5_causeOf_66 4 rfl ?_
            refine m_iload_n C dX5_causeOf_67 5 rfl ?_
            refine m_invV C cal_X5_holds sh_1 rfl (c_X5_holds_f l hX g a o q hI (by omega) (by omega) (by omega) hF) lk_X5_41 im_X5_holds se_X5_holds (by decide) rfl rfl (Nat.le_of_ble_eq_true rfl) dX5_causeOf_68 ⟨Nat.le_refl _, Nat.le_refl _⟩ (rI fun r39 g40 q41 => ?_)
            obtain ⟨eg40, p42⟩ := q41
            subst g40
            refine m_if_eq C 78 dX5_causeOf_71 (by decide) (fun h43 => ?_) (fun h43 => ?_)
            · skip
              have th43 := i_eq h43
              rw [show (0 : Int32).toInt = 0 by decide] at th43
              refine m_iconst C (4 : Int32) dX5_causeOf_78 (by decide) ?_
              exact m_iret C dX5_causeOf_79 ⟨_, rfl, rfl, (by have hl : (4 : Int32).toInt = 4 := (by decide); omega)⟩
            · skip
              have th43 := i_ne h43
              rw [show (0 : Int32).toInt = 0 by decide] at th43
              refine m_iconst C (0 : Int32) dX5_causeOf_74 (by decide) ?_
              refine m_goto C 79 dX5_causeOf_75 (by decide) ?_
              exact m_iret C dX5_causeOf_79 ⟨_, rfl, rfl, (by have hl : (0 : Int32).toInt = 0 := (by decide); omega)⟩
          · skip
            have th38 := i_eq h38
            rw [show (2 : Int32).toInt = 2 by decide] at th38
            refine m_iload C dX5_causeOf_55 1 rfl ?_
            refine m_iload C dX5_causeOf_57 0 rfl ?_
            refine m_icmp_le C 64 dX5_causeOf_59 (by decide) (fun h44 => ?_) (fun h44 => ?_)
            · skip
              have th44 := i_le h44
              refine m_aload_n C dX5_causeOf_64 2 rfl ?_
              refine m_iload_n C dX5_causeOf_65 3 rfl ?_
              refine m_iload_n C dX5_causeOf_66 4 rfl ?_
              refine m_iload_n C dX5_causeOf_67 5 rfl ?_
              refine m_invV C cal_X5_holds sh_1 rfl (c_X5_holds_f l hX g a o q hI (by omega) (by omega) (by omega) hF) lk_X5_41 im_X5_holds se_X5_holds (by decide) rfl rfl (Nat.le_of_ble_eq_true rfl) dX5_causeOf_68 ⟨Nat.le_refl _, Nat.le_refl _⟩ (rI fun r45 g46 q47 => ?_)
              obtain ⟨eg46, p48⟩ := q47
              subst g46
              refine m_if_eq C 78 dX5_causeOf_71 (by decide) (fun h49 => ?_) (fun h49 => ?_)
              · skip
                have th49 := i_eq h49
                rw [show (0 : Int32).toInt = 0 by decide] at th49
                refine m_iconst C (4 : Int32) dX5_causeOf_78 (by decide) ?_
                exact m_iret C dX5_causeOf_79 ⟨_, rfl, rfl, (by have hl : (4 : Int32).toInt = 4 := (by decide); omega)⟩
              · skip
                have th49 := i_ne h49
                rw [show (0 : Int32).toInt = 0 by decide] at th49
                refine m_iconst C (0 : Int32) dX5_causeOf_74 (by decide) ?_
                refine m_goto C 79 dX5_causeOf_75 (by decide) ?_
                exact m_iret C dX5_causeOf_79 ⟨_, rfl, rfl, (by have hl : (0 : Int32).toInt = 0 := (by decide); omega)⟩
            · skip
              have th44 := i_nle h44
              refine m_iconst C (3 : Int32) dX5_causeOf_62 (by decide) ?_
              exact m_iret C dX5_causeOf_63 ⟨_, rfl, rfl, (by have hl : (3 : Int32).toInt = 3 := (by decide); omega)⟩
      · skip
        have th30 := i_eq h30
        rw [show (1 : Int32).toInt = 1 by decide] at th30
        refine m_iload C dX5_causeOf_36 1 rfl ?_
        refine m_iload C dX5_causeOf_38 0 rfl ?_
        refine m_icmp_ge C 45 dX5_causeOf_40 (by decide) (fun h50 => ?_) (fun h50 => ?_)
        · skip
          have th50 := i_le h50
          refine m_iload_n C dX5_causeOf_45 5 rfl ?_
          refine m_iconst C (1 : Int32) dX5_causeOf_46 (by decide) ?_
          refine m_icmp_eq C 55 dX5_causeOf_47 (by decide) (fun h51 => ?_) (fun h51 => ?_)
          · skip
            have th51 := i_eq h51
            rw [show (1 : Int32).toInt = 1 by decide] at th51
            refine m_iload C dX5_causeOf_55 1 rfl ?_
            refine m_iload C dX5_causeOf_57 0 rfl ?_
            refine m_icmp_le C 64 dX5_causeOf_59 (by decide) (fun h52 => ?_) (fun h52 => ?_)
            · skip
              have th52 := i_le h52
              refine m_aload_n C dX5_causeOf_64 2 rfl ?_
              refine m_iload_n C dX5_causeOf_65 3 rfl ?_
              refine m_iload_n C dX5_causeOf_66 4 rfl ?_
              refine m_iload_n C dX5_causeOf_67 5 rfl ?_
              refine m_invV C cal_X5_holds sh_1 rfl (c_X5_holds_f l hX g a o q hI (by omega) (by omega) (by omega) hF) lk_X5_41 im_X5_holds se_X5_holds (by decide) rfl rfl (Nat.le_of_ble_eq_true rfl) dX5_causeOf_68 ⟨Nat.le_refl _, Nat.le_refl _⟩ (rI fun r53 g54 q55 => ?_)
              obtain ⟨eg54, p56⟩ := q55
              subst g54
              refine m_if_eq C 78 dX5_causeOf_71 (by decide) (fun h57 => ?_) (fun h57 => ?_)
              · skip
                have th57 := i_eq h57
                rw [show (0 : Int32).toInt = 0 by decide] at th57
                refine m_iconst C (4 : Int32) dX5_causeOf_78 (by decide) ?_
                exact m_iret C dX5_causeOf_79 ⟨_, rfl, rfl, (by have hl : (4 : Int32).toInt = 4 := (by decide); omega)⟩
              · skip
                have th57 := i_ne h57
                rw [show (0 : Int32).toInt = 0 by decide] at th57
                refine m_iconst C (0 : Int32) dX5_causeOf_74 (by decide) ?_
                refine m_goto C 79 dX5_causeOf_75 (by decide) ?_
                exact m_iret C dX5_causeOf_79 ⟨_, rfl, rfl, (by have hl : (0 : Int32).toInt = 0 := (by decide); omega)⟩
            · skip
              have th52 := i_nle h52
              refine m_iconst C (3 : Int32) dX5_causeOf_62 (by decide) ?_
              exact m_iret C dX5_causeOf_63 ⟨_, rfl, rfl, (by have hl : (3 : Int32).toInt = 3 := (by decide); omega)⟩
          · skip
            have th51 := i_ne h51
            rw [show (1 : Int32).toInt = 1 by decide] at th51
            refine m_iload_n C dX5_causeOf_50 5 rfl ?_
            refine m_iconst C (2 : Int32) dX5_causeOf_51 (by decide) ?_
            refine m_icmp_ne C 64 dX5_causeOf_52 (by decide) (fun h58 => ?_) (fun h58 => ?_)
            · skip
              have th58 := i_ne h58
              rw [show (2 : Int32).toInt = 2 by decide] at th58
              refine m_aload_n C dX5_causeOf_64 2 rfl ?_
              refine m_iload_n C dX5_causeOf_65 3 rfl ?_
              refine m_iload_n C dX5_causeOf_66 4 rfl ?_
              refine m_iload_n C dX5_causeOf_67 5 rfl ?_
              refine m_invV C cal_X5_holds sh_1 rfl (c_X5_holds_f l hX g a o q hI (by omega) (by omega) (by omega) hF) lk_X5_41 im_X5_holds se_X5_holds (by decide) rfl rfl (Nat.le_of_ble_eq_true rfl) dX5_causeOf_68 ⟨Nat.le_refl _, Nat.le_refl _⟩ (rI fun r59 g60 q61 => ?_)
              obtain ⟨eg60, p62⟩ := q61
              subst g60
              refine m_if_eq C 78 dX5_causeOf_71 (by decide) (fun h63 => ?_) (fun h63 => ?_)
              · skip
                have th63 := i_eq h63
                rw [show (0 : Int32).toInt = 0 by decide] at th63
                refine m_iconst C (4 : Int32) dX5_causeOf_78 (by decide) ?_
                exact m_iret C dX5_causeOf_79 ⟨_, rfl, rfl, (by have hl : (4 : Int32).toInt = 4 := (by decide); omega)⟩
              · skip
                have th63 := i_ne h63
                rw [show (0 : Int32).toInt = 0 by decide] at th63
                refine m_iconst C (0 : Int32) dX5_causeOf_74 (by decide) ?_
                refine m_goto C 79 dX5_causeOf_75 (by decide) ?_
                exact m_iret C dX5_causeOf_79 ⟨_, rfl, rfl, (by have hl : (0 : Int32).toInt = 0 := (by decide); omega)⟩
            · skip
              have th58 := i_eq h58
              rw [show (2 : Int32).toInt = 2 by decide] at th58
              refine m_iload C dX5_causeOf_55 1 rfl ?_
              refine m_iload C dX5_causeOf_57 0 rfl ?_
              refine m_icmp_le C 64 dX5_causeOf_59 (by decide) (fun h64 => ?_) (fun h64 => ?_)
              · skip
                have th64 := i_le h64
                refine m_aload_n C dX5_causeOf_64 2 rfl ?_
                refine m_iload_n C dX5_causeOf_65 3 rfl ?_
                refine m_iload_n C dX5_causeOf_66 4 rfl ?_
                refine m_iload_n C dX5_causeOf_67 5 rfl ?_
                refine m_invV C cal_X5_holds sh_1 rfl (c_X5_holds_f l hX g a o q hI (by omega) (by omega) (by omega) hF) lk_X5_41 im_X5_holds se_X5_holds (by decide) rfl rfl (Nat.le_of_ble_eq_true rfl) dX5_causeOf_68 ⟨Nat.le_refl _, Nat.le_refl _⟩ (rI fun r65 g66 q67 => ?_)
                obtain ⟨eg66, p68⟩ := q67
                subst g66
                refine m_if_eq C 78 dX5_causeOf_71 (by decide) (fun h69 => ?_) (fun h69 => ?_)
                · skip
                  have th69 := i_eq h69
                  rw [show (0 : Int32).toInt = 0 by decide] at th69
                  refine m_iconst C (4 : Int32) dX5_causeOf_78 (by decide) ?_
                  exact m_iret C dX5_causeOf_79 ⟨_, rfl, rfl, (by have hl : (4 : Int32).toInt = 4 := (by decide); omega)⟩
                · skip
                  have th69 := i_ne h69
                  rw [show (0 : Int32).toInt = 0 by decide] at th69
                  refine m_iconst C (0 : Int32) dX5_causeOf_74 (by decide) ?_
                  refine m_goto C 79 dX5_causeOf_75 (by decide) ?_
                  exact m_iret C dX5_causeOf_79 ⟨_, rfl, rfl, (by have hl : (0 : Int32).toInt = 0 := (by decide); omega)⟩
              · skip
                have th64 := i_nle h64
                refine m_iconst C (3 : Int32) dX5_causeOf_62 (by decide) ?_
                exact m_iret C dX5_causeOf_63 ⟨_, rfl, rfl, (by have hl : (3 : Int32).toInt = 3 := (by decide); omega)⟩
        · skip
          have th50 := i_nle h50
          refine m_iconst C (2 : Int32) dX5_causeOf_43 (by decide) ?_
          exact m_iret C dX5_causeOf_44 ⟨_, rfl, rfl, (by have hl : (2 : Int32).toInt = 2 := (by decide); omega)⟩
  · skip
    have th8 := i_ne h8
    rw [show (0 : Int32).toInt = 0 by decide] at th8
    refine m_iconst C (1 : Int32) dX5_causeOf_25 (by decide) ?_
    exact m_iret C dX5_causeOf_26 ⟨_, rfl, rfl, (by have hl : (1 : Int32).toInt = 1 := (by decide); omega)⟩
set_option maxRecDepth 20000 in
set_option maxHeartbeats 4000000 in
theorem c_X5_release_f (l : Launch) {X : XT} (hX : Lok X) (g : Mem) (a : Int32) (hI : Inv g) (h_a : 0 ≤ a.toInt ∧ a.toInt ≤ 11) (hF : FX g) : Ctr l X yX5_release cX5_release 3 (some .boolean) (rmD 0) [.ref (aL X 1), .int a] g (pI (fun r g2 => Inv g2 ∧ Kp [4, 5] g g2 ∧ (r.toInt = 0))) := by
  refine Ctr.of (lv := [(0, .ref (aL X 1)), (1, .int a)]) hX (by decide) rfl (Nat.le_of_ble_eq_true rfl) ?_
  intro p e s m below meth c C
  have zf0 := hF.t 16 4 (by decide)
  have zf1 := hF.t 20 5 (by decide)
  have zf2 := hF.t 30 1 (by decide)
  have zf3 := hF.t 30 2 (by decide)
  have zf4 := hF.t 0 10 (by decide)
  refine m_aload_n C dX5_release_0 0 rfl ?_
  refine m_getr (rf := "") C 2 rfl gd5 (by decide) sh_1 rfl dX5_release_1 lk_X5_18 ?_
  refine m_iload_n C dX5_release_4 1 rfl ?_
  refine m_zald C sh_4 (i_in (by omega) (by omega)) dX5_release_5 ?_
  have z1 := hF.t 4 a.toNatClampNeg (by decide)
  refine m_name (fun x2 ex2 => ?_)
  have t3 : x2.toInt = (g 4 a.toNatClampNeg).toInt := (congrArg Int32.toInt ex2).trans rfl
  refine m_istore_n C [(2, .int x2), (0, .ref (aL X 1)), (1, .int a)] dX5_release_6 (by decide) rfl ?_
  refine m_aload_n C dX5_release_7 1 rfl ?_
  refine m_getr (rf := "") C 2 rfl gd5 (by decide) sh_1 rfl dX5_release_8 lk_X5_18 ?_
  refine m_iload_n C dX5_release_11 2 rfl ?_
  refine m_iconst C (0 : Int32) dX5_release_12 (by decide) ?_
  refine m_zast C sh_4 (i_in (by omega) (by omega)) (by decide) dX5_release_13 ?_
  refine m_mem (fun g4 eg4 => ?_)
  have hI5 : Inv g4 := by rw [eg4]; exact hI.up (ok_lock (Or.inl rfl))
  have hK6 : Kp [4, 5] g g4 := by rw [eg4]; exact Kp.up Kp.rf (by decide) (Or.inl (by decide)) (Or.inl (by decide))
  refine m_aload_n C dX5_release_14 1 rfl ?_
  refine m_getr (rf := "") C 3 rfl gd5 (by decide) sh_1 rfl dX5_release_15 lk_X5_22 ?_
  refine m_iload_n C dX5_release_18 2 rfl ?_
  refine m_iconst C (0 : Int32) dX5_release_19 (by decide) ?_
  refine m_iast C sh_5 (i_in (by omega) (by omega)) dX5_release_20 ?_
  refine m_mem (fun g7 eg7 => ?_)
  have hI8 : Inv g7 := by rw [eg7]; exact hI5.up (ok_any (by decide))
  have hK9 : Kp [4, 5] g g7 := by rw [eg7]; exact Kp.up hK6 (by decide) (Or.inl (by decide)) (Or.inl (by decide))
  refine m_iload_n C dX5_release_21 0 rfl ?_
  exact m_zret C dX5_release_22 (R01.nar (by rw [ex2]; exact iv_lock hI _)) ⟨_, rfl, hI8, hK9, (by omega)⟩
set_option maxRecDepth 20000 in
set_option maxHeartbeats 4000000 in
theorem c_X5_ofSubject_f (l : Launch) {X : XT} (hX : Lok X) (g : Mem) (a : Int32) (w : Int32) (hI : Inv g) (h_a : 0 ≤ a.toInt ∧ a.toInt ≤ 11) (hF : FX g) : Ctr l X yX5_ofSubject cX5_ofSubject 3 (some .int) (rmD 0) [.ref (aL X 1), .int a, .int w] g (pI (fun r g2 => g2 = g ∧ ((r.toInt = 0 ∧ (0 ≤ w.toInt ∧ w.toInt ≤ 3)) ∨ (r.toInt = -2 ∧ ¬ (0 ≤ w.toInt ∧ w.toInt ≤ 3))))) := by
  refine Ctr.of (lv := [(0, .ref (aL X 1)), (1, .int a), (2, .int w)]) hX (by decide) rfl (Nat.le_of_ble_eq_true rfl) ?_
  intro p e s m below meth c C
  have zf0 := hF.t 16 4 (by decide)
  have zf1 := hF.t 20 5 (by decide)
  have zf2 := hF.t 30 1 (by decide)
  have zf3 := hF.t 30 2 (by decide)
  have zf4 := hF.t 0 10 (by decide)
  refine m_iload_n C dX5_ofSubject_0 2 rfl ?_
  rcases Int.lt_or_le (w).toInt 0 with h1 | h1
  · skip
    refine m_tabO C 68 dX5_ofSubject_1 (Or.inl h1) (by decide) ?_
    refine m_bipush C (-2 : Int32) dX5_ofSubject_68 (by decide) ?_
    exact m_iret C dX5_ofSubject_70 ⟨_, rfl, rfl, (by have hl : (-2 : Int32).toInt = -2 := (by decide); omega)⟩
  · skip
    by_cases h2 : (w).toInt = 0
    · skip
      refine m_tabI C 32 dX5_ofSubject_1 (by omega) (by omega) (off := 31) (by rw [h2]; rfl) (by decide) ?_
      refine m_aload_n C dX5_ofSubject_32 0 rfl ?_
      refine m_getr (rf := "") C 0 rfl gd5 (by decide) sh_1 rfl dX5_ofSubject_33 lk_X5_9 ?_
      refine m_iload_n C dX5_ofSubject_36 1 rfl ?_
      refine m_iald C sh_2 (i_in (by omega) (by omega)) dX5_ofSubject_37 ?_
      have z3 := hF.t 2 a.toNatClampNeg (by decide)
      exact m_iret C dX5_ofSubject_38 ⟨_, rfl, rfl, (by omega)⟩
    · skip
      by_cases h4 : (w).toInt = 1
      · skip
        refine m_tabI C 39 dX5_ofSubject_1 (by omega) (by omega) (off := 38) (by rw [h4]; rfl) (by decide) ?_
        refine m_aload_n C dX5_ofSubject_39 0 rfl ?_
        refine m_getr (rf := "") C 1 rfl gd5 (by decide) sh_1 rfl dX5_ofSubject_40 lk_X5_15 ?_
        refine m_iload_n C dX5_ofSubject_43 1 rfl ?_
        refine m_iald C sh_3 (i_in (by omega) (by omega)) dX5_ofSubject_44 ?_
        have r5 := iv_grp hI a.toNatClampNeg
        have z6 := hF.t 3 a.toNatClampNeg (by decide)
        exact m_iret C dX5_ofSubject_45 ⟨_, rfl, rfl, (by omega)⟩
      · skip
        by_cases h7 : (w).toInt = 2
        · skip
          refine m_tabI C 46 dX5_ofSubject_1 (by omega) (by omega) (off := 45) (by rw [h7]; rfl) (by decide) ?_
          refine m_aload_n C dX5_ofSubject_46 0 rfl ?_
          refine m_getr (rf := "") C 2 rfl gd5 (by decide) sh_1 rfl dX5_ofSubject_47 lk_X5_18 ?_
          refine m_iload_n C dX5_ofSubject_50 1 rfl ?_
          refine m_zald C sh_4 (i_in (by omega) (by omega)) dX5_ofSubject_51 ?_
          have z8 := hF.t 4 a.toNatClampNeg (by decide)
          refine m_if_eq C 59 dX5_ofSubject_52 (by decide) (fun h9 => ?_) (fun h9 => ?_)
          · skip
            have th9 := i_eq h9
            rw [show (0 : Int32).toInt = 0 by decide] at th9
            refine m_iconst C (0 : Int32) dX5_ofSubject_59 (by decide) ?_
            exact m_iret C dX5_ofSubject_60 ⟨_, rfl, rfl, (by have hl : (0 : Int32).toInt = 0 := (by decide); omega)⟩
          · skip
            have th9 := i_ne h9
            rw [show (0 : Int32).toInt = 0 by decide] at th9
            refine m_iconst C (1 : Int32) dX5_ofSubject_55 (by decide) ?_
            refine m_goto C 60 dX5_ofSubject_56 (by decide) ?_
            exact m_iret C dX5_ofSubject_60 ⟨_, rfl, rfl, (by have hl : (1 : Int32).toInt = 1 := (by decide); omega)⟩
        · skip
          by_cases h10 : (w).toInt = 3
          · skip
            refine m_tabI C 61 dX5_ofSubject_1 (by omega) (by omega) (off := 60) (by rw [h10]; rfl) (by decide) ?_
            refine m_aload_n C dX5_ofSubject_61 0 rfl ?_
            refine m_getr (rf := "") C 3 rfl gd5 (by decide) sh_1 rfl dX5_ofSubject_62 lk_X5_22 ?_
            refine m_iload_n C dX5_ofSubject_65 1 rfl ?_
            refine m_iald C sh_5 (i_in (by omega) (by omega)) dX5_ofSubject_66 ?_
            have z11 := hF.t 5 a.toNatClampNeg (by decide)
            exact m_iret C dX5_ofSubject_67 ⟨_, rfl, rfl, (by omega)⟩
          · skip
            refine m_tabO C 68 dX5_ofSubject_1 (Or.inr (by omega)) (by decide) ?_
            refine m_bipush C (-2 : Int32) dX5_ofSubject_68 (by decide) ?_
            exact m_iret C dX5_ofSubject_70 ⟨_, rfl, rfl, (by have hl : (-2 : Int32).toInt = -2 := (by decide); omega)⟩
set_option maxRecDepth 20000 in
set_option maxHeartbeats 4000000 in
theorem c_X5_ofObject_f (l : Launch) {X : XT} (hX : Lok X) (g : Mem) (o : Int32) (w : Int32) (hI : Inv g) (h_o : 0 ≤ o.toInt ∧ o.toInt ≤ 15) (hF : FX g) : Ctr l X yX5_ofObject cX5_ofObject 3 (some .int) (rmD 0) [.ref (aL X 1), .int o, .int w] g (pI (fun r g2 => g2 = g ∧ ((r.toInt = 0 ∧ (0 ≤ w.toInt ∧ w.toInt ≤ 1)) ∨ (r.toInt = -2 ∧ ¬ (0 ≤ w.toInt ∧ w.toInt ≤ 1))))) := by
  refine Ctr.of (lv := [(0, .ref (aL X 1)), (1, .int o), (2, .int w)]) hX (by decide) rfl (Nat.le_of_ble_eq_true rfl) ?_
  intro p e s m below meth c C
  have zf0 := hF.t 16 4 (by decide)
  have zf1 := hF.t 20 5 (by decide)
  have zf2 := hF.t 30 1 (by decide)
  have zf3 := hF.t 30 2 (by decide)
  have zf4 := hF.t 0 10 (by decide)
  refine m_iload_n C dX5_ofObject_0 2 rfl ?_
  by_cases h1 : (w).toInt = 0
  · skip
    refine m_look C 28 dX5_ofObject_1 (by decide) (off := 27) (by rw [h1]; decide) (by decide) ?_
    refine m_aload_n C dX5_ofObject_28 0 rfl ?_
    refine m_getr (rf := "") C 4 rfl gd5 (by decide) sh_1 rfl dX5_ofObject_29 lk_X5_25 ?_
    refine m_iload_n C dX5_ofObject_32 1 rfl ?_
    refine m_iald C sh_6 (i_in (by omega) (by omega)) dX5_ofObject_33 ?_
    have z2 := hF.t 6 o.toNatClampNeg (by decide)
    exact m_iret C dX5_ofObject_34 ⟨_, rfl, rfl, (by omega)⟩
  · skip
    by_cases h3 : (w).toInt = 1
    · skip
      refine m_look C 35 dX5_ofObject_1 (by decide) (off := 34) (by rw [h3]; decide) (by decide) ?_
      refine m_aload_n C dX5_ofObject_35 0 rfl ?_
      refine m_getr (rf := "") C 5 rfl gd5 (by decide) sh_1 rfl dX5_ofObject_36 lk_X5_28 ?_
      refine m_iload_n C dX5_ofObject_39 1 rfl ?_
      refine m_iald C sh_7 (i_in (by omega) (by omega)) dX5_ofObject_40 ?_
      have z4 := hF.t 7 o.toNatClampNeg (by decide)
      exact m_iret C dX5_ofObject_41 ⟨_, rfl, rfl, (by omega)⟩
    · skip
      refine m_look C 42 dX5_ofObject_1 (by decide) (off := 41) (by simp [Op.lookupswitch.offset]; rw [if_neg (by omega), if_neg (by omega)]) (by decide) ?_
      refine m_bipush C (-2 : Int32) dX5_ofObject_42 (by decide) ?_
      exact m_iret C dX5_ofObject_44 ⟨_, rfl, rfl, (by have hl : (-2 : Int32).toInt = -2 := (by decide); omega)⟩
set_option maxRecDepth 20000 in
set_option maxHeartbeats 4000000 in
theorem c_X2_byteAt_f18 (l : Launch) {X : XT} (hX : Lok X) (g : Mem) (h : Int32) (k : Int32) (hI : Inv g) (h_h : 0 ≤ h.toInt ∧ h.toInt ≤ 60) (h_k : 0 ≤ k.toInt ∧ k.toInt ≤ 31) (hF : FX g) : Ctr l X yX2_byteAt cX2_byteAt 3 (some .int) (rmD 0) [.ref (aL X 18), .int h, .int k] g (pI (fun r g2 => g2 = g ∧ (r.toInt = 0))) := by
  refine Ctr.of (lv := [(0, .ref (aL X 18)), (1, .int h), (2, .int k)]) hX (by decide) rfl (Nat.le_of_ble_eq_true rfl) ?_
  intro p e s m below meth c C
  have zf0 := hF.t 16 4 (by decide)
  have zf1 := hF.t 20 5 (by decide)
  have zf2 := hF.t 30 1 (by decide)
  have zf3 := hF.t 30 2 (by decide)
  have zf4 := hF.t 0 10 (by decide)
  refine m_aload_n C dX2_byteAt_0 0 rfl ?_
  refine m_getr (rf := "") C 0 rfl gd2 (by decide) sh_18 rfl dX2_byteAt_1 lk_X2_9 ?_
  refine m_iload_n C dX2_byteAt_4 1 rfl ?_
  refine m_bipush C (8 : Int32) dX2_byteAt_5 (by decide) ?_
  refine m_imul C dX2_byteAt_7 ?_
  refine m_iload_n C dX2_byteAt_8 2 rfl ?_
  refine m_iconst C (2 : Int32) dX2_byteAt_9 (by decide) ?_
  refine m_ishr C dX2_byteAt_10 ?_
  refine m_iadd C dX2_byteAt_11 ?_
  have t1 : (h * (8 : Int32)).toInt = h.toInt * (8 : Int) := i_mul rfl (by decide) (by omega) (by omega)
  have t2 : (k >>> ((2 : Int32) &&& 31)).toInt = k.toInt / 4 := i_shr rfl 2 (by decide)
  have t3 : ((h * (8 : Int32)) + (k >>> ((2 : Int32) &&& 31))).toInt = (h.toInt * (8 : Int)) + (k.toInt / 4) := i_add t1 t2 (by omega) (by omega)
  refine m_iald C sh_19 (i_in (by omega) (by omega)) dX2_byteAt_12 ?_
  have z4 := hF.t 19 ((h * (8 : Int32)) + (k >>> ((2 : Int32) &&& 31))).toNatClampNeg (by decide)
  refine m_bipush C (24 : Int32) dX2_byteAt_13 (by decide) ?_
  refine m_bipush C (8 : Int32) dX2_byteAt_15 (by decide) ?_
  refine m_iload_n C dX2_byteAt_17 2 rfl ?_
  refine m_iconst C (3 : Int32) dX2_byteAt_18 (by decide) ?_
  refine m_iand C dX2_byteAt_19 ?_
  refine m_imul C dX2_byteAt_20 ?_
  refine m_isub C dX2_byteAt_21 ?_
  refine m_iushr C dX2_byteAt_22 ?_
  refine m_sipush C (255 : Int32) dX2_byteAt_23 (by decide) ?_
  refine m_iand C dX2_byteAt_26 ?_
  have t5 : 0 ≤ ((((g 19 ((h * (8 : Int32)) + (k >>> ((2 : Int32) &&& 31))).toNatClampNeg).toUInt32 >>> (((24 : Int32) - ((8 : Int32) * (k &&& (3 : Int32)))).toUInt32 &&& Int32.toUInt32 31)).toInt32) &&& (255 : Int32)).toInt ∧ ((((g 19 ((h * (8 : Int32)) + (k >>> ((2 : Int32) &&& 31))).toNatClampNeg).toUInt32 >>> (((24 : Int32) - ((8 : Int32) * (k &&& (3 : Int32)))).toUInt32 &&& Int32.toUInt32 31)).toInt32) &&& (255 : Int32)).toInt < 256 := i_and _ 8 (by decide) (by decide)
  exact m_iret C dX2_byteAt_27 ⟨_, rfl, rfl, (by rw [hF 19 _ (by decide)]; exact z_by _)⟩
set_option maxRecDepth 20000 in
set_option maxHeartbeats 4000000 in
theorem c_X2_byteAt_f25 (l : Launch) {X : XT} (hX : Lok X) (g : Mem) (h : Int32) (k : Int32) (hI : Inv g) (h_h : 0 ≤ h.toInt ∧ h.toInt ≤ 3) (h_k : 0 ≤ k.toInt ∧ k.toInt ≤ 31) (hF : FX g) : Ctr l X yX2_byteAt cX2_byteAt 3 (some .int) (rmD 0) [.ref (aL X 25), .int h, .int k] g (pI (fun r g2 => g2 = g ∧ (r.toInt = 0))) := by
  refine Ctr.of (lv := [(0, .ref (aL X 25)), (1, .int h), (2, .int k)]) hX (by decide) rfl (Nat.le_of_ble_eq_true rfl) ?_
  intro p e s m below meth c C
  have zf0 := hF.t 16 4 (by decide)
  have zf1 := hF.t 20 5 (by decide)
  have zf2 := hF.t 30 1 (by decide)
  have zf3 := hF.t 30 2 (by decide)
  have zf4 := hF.t 0 10 (by decide)
  refine m_aload_n C dX2_byteAt_0 0 rfl ?_
  refine m_getr (rf := "") C 0 rfl gd2 (by decide) sh_25 rfl dX2_byteAt_1 lk_X2_9 ?_
  refine m_iload_n C dX2_byteAt_4 1 rfl ?_
  refine m_bipush C (8 : Int32) dX2_byteAt_5 (by decide) ?_
  refine m_imul C dX2_byteAt_7 ?_
  refine m_iload_n C dX2_byteAt_8 2 rfl ?_
  refine m_iconst C (2 : Int32) dX2_byteAt_9 (by decide) ?_
  refine m_ishr C dX2_byteAt_10 ?_
  refine m_iadd C dX2_byteAt_11 ?_
  have t1 : (h * (8 : Int32)).toInt = h.toInt * (8 : Int) := i_mul rfl (by decide) (by omega) (by omega)
  have t2 : (k >>> ((2 : Int32) &&& 31)).toInt = k.toInt / 4 := i_shr rfl 2 (by decide)
  have t3 : ((h * (8 : Int32)) + (k >>> ((2 : Int32) &&& 31))).toInt = (h.toInt * (8 : Int)) + (k.toInt / 4) := i_add t1 t2 (by omega) (by omega)
  refine m_iald C sh_26 (i_in (by omega) (by omega)) dX2_byteAt_12 ?_
  have z4 := hF.t 26 ((h * (8 : Int32)) + (k >>> ((2 : Int32) &&& 31))).toNatClampNeg (by decide)
  refine m_bipush C (24 : Int32) dX2_byteAt_13 (by decide) ?_
  refine m_bipush C (8 : Int32) dX2_byteAt_15 (by decide) ?_
  refine m_iload_n C dX2_byteAt_17 2 rfl ?_
  refine m_iconst C (3 : Int32) dX2_byteAt_18 (by decide) ?_
  refine m_iand C dX2_byteAt_19 ?_
  refine m_imul C dX2_byteAt_20 ?_
  refine m_isub C dX2_byteAt_21 ?_
  refine m_iushr C dX2_byteAt_22 ?_
  refine m_sipush C (255 : Int32) dX2_byteAt_23 (by decide) ?_
  refine m_iand C dX2_byteAt_26 ?_
  have t5 : 0 ≤ ((((g 26 ((h * (8 : Int32)) + (k >>> ((2 : Int32) &&& 31))).toNatClampNeg).toUInt32 >>> (((24 : Int32) - ((8 : Int32) * (k &&& (3 : Int32)))).toUInt32 &&& Int32.toUInt32 31)).toInt32) &&& (255 : Int32)).toInt ∧ ((((g 26 ((h * (8 : Int32)) + (k >>> ((2 : Int32) &&& 31))).toNatClampNeg).toUInt32 >>> (((24 : Int32) - ((8 : Int32) * (k &&& (3 : Int32)))).toUInt32 &&& Int32.toUInt32 31)).toInt32) &&& (255 : Int32)).toInt < 256 := i_and _ 8 (by decide) (by decide)
  exact m_iret C dX2_byteAt_27 ⟨_, rfl, rfl, (by rw [hF 26 _ (by decide)]; exact z_by _)⟩
set_option maxRecDepth 20000 in
set_option maxHeartbeats 4000000 in
theorem c_X2_spoilByte_f25 (l : Launch) {X : XT} (hX : Lok X) (g : Mem) (h : Int32) (k : Int32) (mask : Int32) (hI : Inv g) (h_h : 0 ≤ h.toInt ∧ h.toInt ≤ 3) (h_k : 0 ≤ k.toInt ∧ k.toInt ≤ 31) (hF : FX g) : Ctr l X yX2_spoilByte cX2_spoilByte 5 (some .int) (rmD 1) [.ref (aL X 25), .int h, .int k, .int mask] g (pI (fun r g2 => Inv g2 ∧ Kp [26] g g2 ∧ (r.toInt = 0))) := by
  refine Ctr.of (lv := [(0, .ref (aL X 25)), (1, .int h), (2, .int k), (3, .int mask)]) hX (by decide) rfl (Nat.le_of_ble_eq_true rfl) ?_
  intro p e s m below meth c C
  have zf0 := hF.t 16 4 (by decide)
  have zf1 := hF.t 20 5 (by decide)
  have zf2 := hF.t 30 1 (by decide)
  have zf3 := hF.t 30 2 (by decide)
  have zf4 := hF.t 0 10 (by decide)
  refine m_aload_n C dX2_spoilByte_0 0 rfl ?_
  refine m_iload_n C dX2_spoilByte_1 1 rfl ?_
  refine m_iload_n C dX2_spoilByte_2 2 rfl ?_
  refine m_invV C cal_X2_byteAt sh_25 rfl (c_X2_byteAt_f25 l hX g h k hI (by omega) (by omega) hF) lk_X2_15 im_X2_byteAt se_X2_byteAt (by decide) rfl rfl (Nat.le_of_ble_eq_true rfl) dX2_spoilByte_3 ⟨Nat.le_refl _, Nat.le_refl _⟩ (rI fun r1 g2 q3 => ?_)
  obtain ⟨eg2, p4⟩ := q3
  subst g2
  refine m_istore C [(4, .int r1), (0, .ref (aL X 25)), (1, .int h), (2, .int k), (3, .int mask)] dX2_spoilByte_6 (by decide) rfl ?_
  refine m_aload_n C dX2_spoilByte_8 1 rfl ?_
  refine m_getr (rf := "") C 0 rfl gd2 (by decide) sh_25 rfl dX2_spoilByte_9 lk_X2_9 ?_
  refine m_iload_n C dX2_spoilByte_12 2 rfl ?_
  refine m_bipush C (8 : Int32) dX2_spoilByte_13 (by decide) ?_
  refine m_imul C dX2_spoilByte_15 ?_
  refine m_iload_n C dX2_spoilByte_16 3 rfl ?_
  refine m_iconst C (2 : Int32) dX2_spoilByte_17 (by decide) ?_
  refine m_ishr C dX2_spoilByte_18 ?_
  refine m_iadd C dX2_spoilByte_19 ?_
  refine m_dup2 C dX2_spoilByte_20 rfl rfl ?_
  have t6 : (h * (8 : Int32)).toInt = h.toInt * (8 : Int) := i_mul rfl (by decide) (by omega) (by omega)
  have t7 : (k >>> ((2 : Int32) &&& 31)).toInt = k.toInt / 4 := i_shr rfl 2 (by decide)
  have t8 : ((h * (8 : Int32)) + (k >>> ((2 : Int32) &&& 31))).toInt = (h.toInt * (8 : Int)) + (k.toInt / 4) := i_add t6 t7 (by omega) (by omega)
  refine m_iald C sh_26 (i_in (by omega) (by omega)) dX2_spoilByte_21 ?_
  have z9 := hF.t 26 ((h * (8 : Int32)) + (k >>> ((2 : Int32) &&& 31))).toNatClampNeg (by decide)
  refine m_iload_n C dX2_spoilByte_22 4 rfl ?_
  refine m_bipush C (24 : Int32) dX2_spoilByte_23 (by decide) ?_
  refine m_bipush C (8 : Int32) dX2_spoilByte_25 (by decide) ?_
  refine m_iload_n C dX2_spoilByte_27 3 rfl ?_
  refine m_iconst C (3 : Int32) dX2_spoilByte_28 (by decide) ?_
  refine m_iand C dX2_spoilByte_29 ?_
  refine m_imul C dX2_spoilByte_30 ?_
  refine m_isub C dX2_spoilByte_31 ?_
  refine m_ishl C dX2_spoilByte_32 ?_
  refine m_ixor C dX2_spoilByte_33 ?_
  have t10 : (h * (8 : Int32)).toInt = h.toInt * (8 : Int) := i_mul rfl (by decide) (by omega) (by omega)
  have t11 : (k >>> ((2 : Int32) &&& 31)).toInt = k.toInt / 4 := i_shr rfl 2 (by decide)
  have t12 : ((h * (8 : Int32)) + (k >>> ((2 : Int32) &&& 31))).toInt = (h.toInt * (8 : Int)) + (k.toInt / 4) := i_add t10 t11 (by omega) (by omega)
  refine m_iast C sh_26 (i_in (by omega) (by omega)) dX2_spoilByte_34 ?_
  refine m_mem (fun g13 eg13 => ?_)
  have hI14 : Inv g13 := by rw [eg13]; exact hI.up (ok_any (by decide))
  have hK15 : Kp [26] g g13 := by rw [eg13]; exact Kp.up Kp.rf (by decide) (Or.inl (by decide)) (Or.inl (by decide))
  refine m_iload C dX2_spoilByte_35 0 rfl ?_
  exact m_iret C dX2_spoilByte_37 ⟨_, rfl, hI14, hK15, (by omega)⟩
set_option maxRecDepth 20000 in
set_option maxHeartbeats 4000000 in
theorem c_X4_linkByte_f (l : Launch) {X : XT} (hX : Lok X) (g : Mem) (ii : Int32) (k : Int32) (hI : Inv g) (h_ii : 0 ≤ ii.toInt ∧ ii.toInt ≤ 60) (h_k : 0 ≤ k.toInt ∧ k.toInt ≤ 31) (hF : FX g) : Ctr l X yX4_linkByte cX4_linkByte 3 (some .int) (rmD 1) [.ref (aL X 16), .int ii, .int k] g (pI (fun r g2 => g2 = g ∧ (r.toInt = 0))) := by
  refine Ctr.of (lv := [(0, .ref (aL X 16)), (1, .int ii), (2, .int k)]) hX (by decide) rfl (Nat.le_of_ble_eq_true rfl) ?_
  intro p e s m below meth c C
  have zf0 := hF.t 16 4 (by decide)
  have zf1 := hF.t 20 5 (by decide)
  have zf2 := hF.t 30 1 (by decide)
  have zf3 := hF.t 30 2 (by decide)
  have zf4 := hF.t 0 10 (by decide)
  refine m_aload_n C dX4_linkByte_0 0 rfl ?_
  refine m_getr (rf := "") C 3 rfl gd4 (by decide) sh_16 rfl dX4_linkByte_1 lk_X4_20 ?_
  refine m_iload_n C dX4_linkByte_4 1 rfl ?_
  refine m_iload_n C dX4_linkByte_5 2 rfl ?_
  refine m_invVN C cal_X2_byteAt sh_18 rfl (c_X2_byteAt_f18 l hX g ii k hI (by omega) (by omega) hF) lk_X4_36 im_X2_byteAt se_X2_byteAt (by decide) rfl rfl (Nat.le_of_ble_eq_true rfl) dX4_linkByte_6 ⟨Nat.le_refl _, Nat.le_refl _⟩ (rI fun r1 g2 q3 => ?_)
  obtain ⟨eg2, p4⟩ := q3
  subst g2
  exact m_iret C dX4_linkByte_9 ⟨_, rfl, rfl, (by omega)⟩
set_option maxRecDepth 20000 in
set_option maxHeartbeats 4000000 in
theorem c_X2_isSame_f (l : Launch) {X : XT} (hX : Lok X) (g : Mem) (h : Int32) (q : Int32) (hI : Inv g) (h_h : 0 ≤ h.toInt ∧ h.toInt ≤ 3) (h_q : 0 ≤ q.toInt ∧ q.toInt ≤ 3) (hF : FX g) : Ctr l X yX2_isSame cX2_isSame 5 (some .boolean) (rmD 0) [.ref (aL X 25), .int h, .ref (aL X 25), .int q] g (pI (fun r g2 => Inv g2 ∧ Kp [] g g2 ∧ (r.toInt = 1))) := by
  refine Ctr.of (lv := [(0, .ref (aL X 25)), (1, .int h), (2, .ref (aL X 25)), (3, .int q)]) hX (by decide) rfl (Nat.le_of_ble_eq_true rfl) ?_
  intro p e s m below meth c C
  have zf0 := hF.t 16 4 (by decide)
  have zf1 := hF.t 20 5 (by decide)
  have zf2 := hF.t 30 1 (by decide)
  have zf3 := hF.t 30 2 (by decide)
  have zf4 := hF.t 0 10 (by decide)
  refine m_iconst C (0 : Int32) dX2_isSame_0 (by decide) ?_
  refine m_istore C [(4, .int (0 : Int32)), (0, .ref (aL X 25)), (1, .int h), (2, .ref (aL X 25)), (3, .int q)] dX2_isSame_1 (by decide) rfl ?_
  have L3 : ∀ (n3 : Nat) (x2 : Int32) (g3 : Mem), (9 - x2.toInt).toNat < n3 → Inv g3 → Kp [] g g3 → 0 ≤ x2.toInt ∧ x2.toInt ≤ 8 → Wm X p l e (rmD 0) s m ([.ref (aL X 25), .int h, .ref (aL X 25), .int q] : List Value).toArray below meth c 5 0 0 (MQ below (cQ X (pI (fun r g2 => Inv g2 ∧ Kp [] g g2 ∧ (r.toInt = 1)))) ([.ref (aL X 25), .int h, .ref (aL X 25), .int q] : List Value).toArray s 0 0 (Ab X)) g3 3 [(0, .ref (aL X 25)), (1, .int h), (2, .ref (aL X 25)), (3, .int q), (4, .int x2)] [] := by
    intro n3
    induction n3 with
    | zero => intro x2 g3 hm; exact absurd hm (Nat.not_lt_zero _)
    | succ n3 ih3 =>
      intro x2 g3 hm3 hI4 hK5 i6
      obtain ⟨i6a, i6b⟩ := i6
      refine m_iload C dX2_isSame_3 4 rfl ?_
      refine m_bipush C (8 : Int32) dX2_isSame_5 (by decide) ?_
      refine m_icmp_ge C 45 dX2_isSame_7 (by decide) (fun h7 => ?_) (fun h7 => ?_)
      · skip
        have th7 := i_le h7
        rw [show (8 : Int32).toInt = 8 by decide] at th7
        refine m_iconst C (1 : Int32) dX2_isSame_45 (by decide) ?_
        exact m_zret C dX2_isSame_46 (by decide) ⟨_, rfl, hI4, hK5, (by have hl : (1 : Int32).toInt = 1 := (by decide); omega)⟩
      · skip
        have th7 := i_nle h7
        rw [show (8 : Int32).toInt = 8 by decide] at th7
        refine m_aload_n C dX2_isSame_10 0 rfl ?_
        refine m_getr (rf := "") C 0 rfl gd2 (by decide) sh_25 rfl dX2_isSame_11 lk_X2_9 ?_
        refine m_iload_n C dX2_isSame_14 1 rfl ?_
        refine m_bipush C (8 : Int32) dX2_isSame_15 (by decide) ?_
        refine m_imul C dX2_isSame_17 ?_
        refine m_iload C dX2_isSame_18 4 rfl ?_
        refine m_iadd C dX2_isSame_20 ?_
        have t8 : (h * (8 : Int32)).toInt = h.toInt * (8 : Int) := i_mul rfl (by decide) (by omega) (by omega)
        have t9 : ((h * (8 : Int32)) + x2).toInt = (h.toInt * (8 : Int)) + x2.toInt := i_add t8 rfl (by omega) (by omega)
        refine m_iald C sh_26 (i_in (by omega) (by omega)) dX2_isSame_21 ?_
        have z10 : (g3 26 ((h * (8 : Int32)) + x2).toNatClampNeg).toInt = 0 := by rw [hK5.1 26 (by decide)]; exact hF.t 26 _ (by decide)
        refine m_aload_n C dX2_isSame_22 2 rfl ?_
        refine m_getr (rf := "") C 0 rfl gd2 (by decide) sh_25 rfl dX2_isSame_23 lk_X2_9 ?_
        refine m_iload_n C dX2_isSame_26 3 rfl ?_
        refine m_bipush C (8 : Int32) dX2_isSame_27 (by decide) ?_
        refine m_imul C dX2_isSame_29 ?_
        refine m_iload C dX2_isSame_30 4 rfl ?_
        refine m_iadd C dX2_isSame_32 ?_
        have t11 : (q * (8 : Int32)).toInt = q.toInt * (8 : Int) := i_mul rfl (by decide) (by omega) (by omega)
        have t12 : ((q * (8 : Int32)) + x2).toInt = (q.toInt * (8 : Int)) + x2.toInt := i_add t11 rfl (by omega) (by omega)
        refine m_iald C sh_26 (i_in (by omega) (by omega)) dX2_isSame_33 ?_
        have z13 : (g3 26 ((q * (8 : Int32)) + x2).toNatClampNeg).toInt = 0 := by rw [hK5.1 26 (by decide)]; exact hF.t 26 _ (by decide)
        refine m_icmp_eq C 39 dX2_isSame_34 (by decide) (fun h14 => ?_) (fun h14 => ?_)
        · skip
          have th14 := i_eq h14
          obtain ⟨x15, ex15⟩ : ∃ z : Int32, z = x2 + Int32.ofInt 1 := ⟨_, rfl⟩
          have t16 : (x2 + (Int32.ofInt 1)).toInt = x2.toInt + (1 : Int) := i_add rfl (by decide) (by omega) (by omega)
          have t17 : x15.toInt = (x2.toInt + (1 : Int)) := (congrArg Int32.toInt ex15).trans t16
          refine m_iinc C x15 [(4, .int x15), (0, .ref (aL X 25)), (1, .int h), (2, .ref (aL X 25)), (3, .int q)] dX2_isSame_39 (q := 4) rfl ex15.symm (by decide) rfl ?_
          refine m_goto C 3 dX2_isSame_42 (by decide) ?_
          refine m_lv [1, 2, 3, 4, 0] rfl ?_
          exact ih3 x15 g3 (by omega) hI4 hK5 (by omega)
        · skip
          have th14 := i_ne h14
          exact False.elim (by omega)
  have t18 : (0 : Int32).toInt = 0 := by decide
  refine m_lv [1, 2, 3, 4, 0] rfl ?_
  exact L3 (((9 - (0 : Int32).toInt).toNat) + 1) (0 : Int32) g (Nat.lt_succ_self _) hI Kp.rf (by omega)
set_option maxRecDepth 20000 in
set_option maxHeartbeats 4000000 in
theorem c_X0_losePower_f (l : Launch) {X : XT} (hX : Lok X) (g : Mem) (k : Int32) (hI : Inv g) (h_k : 0 ≤ k.toInt ∧ k.toInt ≤ 1020) (hF : FX g) : Ctr l X yX0_losePower cX0_losePower 2 none (rmD 1) [.ref (aL X 30), .int k] g (pV (fun g2 => Inv g2 ∧ Kp [30, 31] g g2 ∧ ((g2 30 1).toInt = 0))) := by
  refine Ctr.of (lv := [(0, .ref (aL X 30)), (1, .int k)]) hX (by decide) rfl (Nat.le_of_ble_eq_true rfl) ?_
  intro p e s m below meth c C
  have zf0 := hF.t 16 4 (by decide)
  have zf1 := hF.t 20 5 (by decide)
  have zf2 := hF.t 30 1 (by decide)
  have zf3 := hF.t 30 2 (by decide)
  have zf4 := hF.t 0 10 (by decide)
  refine m_aload_n C dX0_losePower_0 0 rfl ?_
  refine m_aload_n C dX0_losePower_1 0 rfl ?_
  refine m_geti (rf := "") C 2 rfl gd0 (by decide) sh_30 rfl dX0_losePower_2 lk_X0_19 ?_
  have r1 := iv_safe hI
  have z2 := hF.t 30 2 (by decide)
  refine m_iload_n C dX0_losePower_5 1 rfl ?_
  refine m_iadd C dX0_losePower_6 ?_
  have t3 : ((g 30 2) + k).toInt = (g 30 2).toInt + k.toInt := i_add rfl rfl (by omega) (by omega)
  refine m_invV C cal_X0_clearFrom sh_30 rfl (c_X0_clearFrom l hX g ((g 30 2) + k) hI (by omega)) lk_X0_28 im_X0_clearFrom se_X0_clearFrom (by decide) rfl rfl (Nat.le_of_ble_eq_true rfl) dX0_losePower_7 ⟨Nat.le_refl _, Nat.le_refl _⟩ (rV fun g5 q6 => ?_)
  obtain ⟨hI7, hK8⟩ := q6
  have ev9 : g5 30 1 = g 30 1 := congrFun (hK8.1 30 (by decide)) 1
  have tev9 := congrArg Int32.toInt ev9
  have ev10 : g5 30 2 = g 30 2 := congrFun (hK8.1 30 (by decide)) 2
  have tev10 := congrArg Int32.toInt ev10
  have hK11 : Kp [30, 31] g g5 := (Kp.rf).tr hK8 (by decide)
  refine m_aload_n C dX0_losePower_10 0 rfl ?_
  refine m_aload_n C dX0_losePower_11 0 rfl ?_
  refine m_geti (rf := "") C 1 rfl gd0 (by decide) sh_30 rfl dX0_losePower_12 lk_X0_15 ?_
  have r12 := iv_wrt hI7
  have z13 := hF.t 30 1 (by decide)
  refine m_aload_n C dX0_losePower_15 0 rfl ?_
  refine m_geti (rf := "") C 2 rfl gd0 (by decide) sh_30 rfl dX0_losePower_16 lk_X0_19 ?_
  have r14 := iv_safe hI7
  have z15 := hF.t 30 2 (by decide)
  refine m_iload_n C dX0_losePower_19 1 rfl ?_
  refine m_iadd C dX0_losePower_20 ?_
  refine m_min C dX0_losePower_21 (gtbl_of (by decide +kernel) (by decide +kernel)) ⟨Nat.le_of_ble_eq_true rfl, Nat.le_of_ble_eq_true rfl⟩ ⟨Nat.le_refl _, Nat.le_refl _⟩ ?_
  refine m_name (fun x16 ex16 => ?_)
  have t17 : ((g5 30 2) + k).toInt = (g5 30 2).toInt + k.toInt := i_add rfl rfl (by omega) (by omega)
  have tx16 := i_min ex16
  refine m_put (rf := "") C 1 rfl gd0 (by decide) tyX0 tyX0_ok nmX0 rfl (tyX0_ok 1 (by decide)) rfl rfl sh_30 rfl dX0_losePower_24 lk_X0_15 ?_
  refine m_mem (fun g18 eg18 => ?_)
  have hI19 : Inv g18 := by rw [eg18]; exact hI7.up (ok_wrt (by omega) (by omega))
  have hK20 : Kp [30, 31] g g18 := by rw [eg18]; exact Kp.up hK11 (by decide) (Or.inl (by decide)) (Or.inl (by decide))
  have ev21 : g18 30 2 = g5 30 2 := by rw [eg18]; exact up2_nei (Or.inr (by decide))
  have tev21 := congrArg Int32.toInt ev21
  have w22 : g18 30 1 = x16 := by rw [eg18]; exact up2_self
  have tw22 := congrArg Int32.toInt w22
  exact m_vret C dX0_losePower_27 ⟨rfl, hI19, hK20, (by omega)⟩
set_option maxRecDepth 20000 in
set_option maxHeartbeats 4000000 in
theorem c_X3_halve_f (l : Launch) {X : XT} (hX : Lok X) (g : Mem)  (hI : Inv g) : Ctr l X yX3_halve cX3_halve 1 none (rmD 0) [.ref (aL X 27)] g (pV (fun g2 => Inv g2 ∧ Kp [27] g g2 ∧ (g2 27 4).toInt = (g 27 4).toInt / 2 ∧ (g2 27 5).toInt = (g 27 5).toInt / 2)) := by
  refine Ctr.of (lv := [(0, .ref (aL X 27))]) hX (by decide) rfl (Nat.le_of_ble_eq_true rfl) ?_
  intro p e s m below meth c C
  refine m_aload_n C dX3_halve_0 0 rfl ?_
  refine m_aload_n C dX3_halve_1 0 rfl ?_
  refine m_geti (rf := "") C 4 rfl gd3 (by decide) sh_27 rfl dX3_halve_2 lk_X3_20 ?_
  refine m_iconst C (1 : Int32) dX3_halve_5 (by decide) ?_
  refine m_ishr C dX3_halve_6 ?_
  refine m_put (rf := "") C 4 rfl gd3 (by decide) tyX3 tyX3_ok nmX3 rfl (tyX3_ok 4 (by decide)) rfl rfl sh_27 rfl dX3_halve_7 lk_X3_20 ?_
  refine m_mem (fun g1 eg1 => ?_)
  have hI2 : Inv g1 := by rw [eg1]; exact hI.up (ok_any (by decide))
  have hK3 : Kp [27] g g1 := by rw [eg1]; exact Kp.up Kp.rf (by decide) (Or.inl (by decide)) (Or.inl (by decide))
  refine m_aload_n C dX3_halve_10 0 rfl ?_
  refine m_aload_n C dX3_halve_11 0 rfl ?_
  refine m_geti (rf := "") C 5 rfl gd3 (by decide) sh_27 rfl dX3_halve_12 lk_X3_24 ?_
  refine m_iconst C (1 : Int32) dX3_halve_15 (by decide) ?_
  refine m_ishr C dX3_halve_16 ?_
  refine m_put (rf := "") C 5 rfl gd3 (by decide) tyX3 tyX3_ok nmX3 rfl (tyX3_ok 5 (by decide)) rfl rfl sh_27 rfl dX3_halve_17 lk_X3_24 ?_
  refine m_mem (fun g4 eg4 => ?_)
  have hI5 : Inv g4 := by rw [eg4]; exact hI2.up (ok_any (by decide))
  have hK6 : Kp [27] g g4 := by rw [eg4]; exact Kp.up hK3 (by decide) (Or.inl (by decide)) (Or.inl (by decide))
  exact m_vret C dX3_halve_20 ⟨rfl, hI5, hK6, (f_halve eg1 eg4)⟩
set_option maxRecDepth 20000 in
set_option maxHeartbeats 4000000 in
theorem c_X3_startSteps_f (l : Launch) {X : XT} (hX : Lok X) (g : Mem) (m0 : Int32) (n0 : Int32) (hI : Inv g) (h1 : 1 ≤ m0.toInt) (h2 : m0.toInt < n0.toInt) (h3 : n0.toInt ≤ 60) : Ctr l X yX3_startSteps cX3_startSteps 4 none (rmD 1) [.ref (aL X 27), .int m0, .int n0] g (pV (fun g2 => Inv g2 ∧ Kp [27] g g2 ∧ 1 ≤ (g2 27 5).toInt)) := by
  refine Ctr.of (lv := [(0, .ref (aL X 27)), (1, .int m0), (2, .int n0)]) hX (by decide) rfl (Nat.le_of_ble_eq_true rfl) ?_
  intro p e s m below meth c C
  refine m_aload_n C dX3_startSteps_0 0 rfl ?_
  refine m_iload_n C dX3_startSteps_1 1 rfl ?_
  refine m_iconst C (1 : Int32) dX3_startSteps_2 (by decide) ?_
  refine m_isub C dX3_startSteps_3 ?_
  have t1 : (m0 - (1 : Int32)).toInt = m0.toInt - (1 : Int) := i_sub rfl (by decide) (by omega) (by omega)
  refine m_put (rf := "") C 4 rfl gd3 (by decide) tyX3 tyX3_ok nmX3 rfl (tyX3_ok 4 (by decide)) rfl rfl sh_27 rfl dX3_startSteps_4 lk_X3_20 ?_
  refine m_mem (fun g2 eg2 => ?_)
  have hI3 : Inv g2 := by rw [eg2]; exact hI.up (ok_any (by decide))
  have hK4 : Kp [27] g g2 := by rw [eg2]; exact Kp.up Kp.rf (by decide) (Or.inl (by decide)) (Or.inl (by decide))
  refine m_aload_n C dX3_startSteps_7 0 rfl ?_
  refine m_iload_n C dX3_startSteps_8 2 rfl ?_
  refine m_iconst C (1 : Int32) dX3_startSteps_9 (by decide) ?_
  refine m_isub C dX3_startSteps_10 ?_
  have t5 : (n0 - (1 : Int32)).toInt = n0.toInt - (1 : Int) := i_sub rfl (by decide) (by omega) (by omega)
  refine m_put (rf := "") C 5 rfl gd3 (by decide) tyX3 tyX3_ok nmX3 rfl (tyX3_ok 5 (by decide)) rfl rfl sh_27 rfl dX3_startSteps_11 lk_X3_24 ?_
  refine m_mem (fun g6 eg6 => ?_)
  have hI7 : Inv g6 := by rw [eg6]; exact hI3.up (ok_any (by decide))
  have hK8 : Kp [27] g g6 := by rw [eg6]; exact Kp.up hK4 (by decide) (Or.inl (by decide)) (Or.inl (by decide))
  refine m_iconst C (0 : Int32) dX3_startSteps_14 (by decide) ?_
  refine m_istore_n C [(3, .int (0 : Int32)), (0, .ref (aL X 27)), (1, .int m0), (2, .int n0)] dX3_startSteps_15 (by decide) rfl ?_
  have L16 : ∀ (n16 : Nat) (x10 : Int32) (g11 : Mem), (7 - x10.toInt).toNat < n16 → Inv g11 → Kp [27] g g11 → 0 ≤ x10.toInt ∧ x10.toInt ≤ 6 → 0 ≤ (g11 27 4).toInt ∧ (g11 27 4).toInt < (g11 27 5).toInt ∧ (g11 27 5).toInt ≤ 60 → Wm X p l e (rmD 1) s m ([.ref (aL X 27), .int m0, .int n0] : List Value).toArray below meth c 4 0 0 (MQ below (cQ X (pV (fun g2 => Inv g2 ∧ Kp [27] g g2 ∧ 1 ≤ (g2 27 5).toInt))) ([.ref (aL X 27), .int m0, .int n0] : List Value).toArray s 0 0 (Ab X)) g11 16 [(0, .ref (aL X 27)), (1, .int m0), (2, .int n0), (3, .int x10)] [] := by
    intro n16
    induction n16 with
    | zero => intro x10 g11 hm; exact absurd hm (Nat.not_lt_zero _)
    | succ n16 ih16 =>
      intro x10 g11 hm16 hI12 hK13 i14 i15
      obtain ⟨i14a, i14b⟩ := i14
      obtain ⟨i15a, i15b⟩ := i15
      refine m_iload_n C dX3_startSteps_16 3 rfl ?_
      refine m_bipush C (6 : Int32) dX3_startSteps_17 (by decide) ?_
      refine m_icmp_ge C 42 dX3_startSteps_19 (by decide) (fun h16 => ?_) (fun h16 => ?_)
      · skip
        have th16 := i_le h16
        rw [show (6 : Int32).toInt = 6 by decide] at th16
        exact m_vret C dX3_startSteps_42 ⟨rfl, hI12, hK13, (by omega)⟩
      · skip
        have th16 := i_nle h16
        rw [show (6 : Int32).toInt = 6 by decide] at th16
        refine m_aload_n C dX3_startSteps_22 0 rfl ?_
        refine m_geti (rf := "") C 4 rfl gd3 (by decide) sh_27 rfl dX3_startSteps_23 lk_X3_20 ?_
        refine m_iconst C (1 : Int32) dX3_startSteps_26 (by decide) ?_
        refine m_iand C dX3_startSteps_27 ?_
        refine m_iconst C (1 : Int32) dX3_startSteps_28 (by decide) ?_
        have t17 : 0 ≤ ((g11 27 4) &&& (1 : Int32)).toInt ∧ ((g11 27 4) &&& (1 : Int32)).toInt < 2 := i_and _ 1 (by decide) (by decide)
        refine m_icmp_ne C 42 dX3_startSteps_29 (by decide) (fun h18 => ?_) (fun h18 => ?_)
        · skip
          have th18 := i_ne h18
          rw [show (1 : Int32).toInt = 1 by decide] at th18
          exact m_vret C dX3_startSteps_42 ⟨rfl, hI12, hK13, (by omega)⟩
        · skip
          have th18 := i_eq h18
          rw [show (1 : Int32).toInt = 1 by decide] at th18
          refine m_aload_n C dX3_startSteps_32 0 rfl ?_
          refine m_invV C cal_X3_halve sh_27 rfl (c_X3_halve_f l hX g11  hI12) lk_X3_61 im_X3_halve se_X3_halve (by decide) rfl rfl (Nat.le_of_ble_eq_true rfl) dX3_startSteps_33 ⟨Nat.le_refl _, Nat.le_refl _⟩ (rV fun g20 q21 => ?_)
          obtain ⟨hI22, hK23, ⟨p24a, p24b⟩⟩ := q21
          have hK25 : Kp [27] g g20 := (hK13).tr hK23 (by decide)
          obtain ⟨x26, ex26⟩ : ∃ z : Int32, z = x10 + Int32.ofInt 1 := ⟨_, rfl⟩
          have t27 : (x10 + (Int32.ofInt 1)).toInt = x10.toInt + (1 : Int) := i_add rfl (by decide) (by omega) (by omega)
          have t28 : x26.toInt = (x10.toInt + (1 : Int)) := (congrArg Int32.toInt ex26).trans t27
          refine m_iinc C x26 [(3, .int x26), (0, .ref (aL X 27)), (1, .int m0), (2, .int n0)] dX3_startSteps_36 (q := 3) rfl ex26.symm (by decide) rfl ?_
          refine m_goto C 16 dX3_startSteps_39 (by decide) ?_
          refine m_lv [1, 2, 3, 0] rfl ?_
          exact ih16 x26 g20 (by omega) hI22 hK25 (by omega) (f_hs ⟨i15a, i15b⟩ (by assumption) p24a p24b)
  have t29 : (0 : Int32).toInt = 0 := by decide
  refine m_lv [1, 2, 3, 0] rfl ?_
  exact L16 (((7 - (0 : Int32).toInt).toNat) + 1) (0 : Int32) g6 (Nat.lt_succ_self _) hI7 hK8 (by omega) (f_ss eg2 eg6 h1 h2 h3)
set_option maxRecDepth 20000 in
set_option maxHeartbeats 4000000 in
theorem c_X3_stepsAreRight_f (l : Launch) {X : XT} (hX : Lok X) (g : Mem) (m0 : Int32) (n0 : Int32) (o : Int32) (q : Int32) (hI : Inv g) (h_o : 0 ≤ o.toInt ∧ o.toInt ≤ 3) (h_q : 0 ≤ q.toInt ∧ q.toInt ≤ 3) (hF : FX g) (h_m0 : 0 ≤ m0.toInt ∧ m0.toInt ≤ 60) (h_n0 : 0 ≤ n0.toInt ∧ n0.toInt ≤ 60) : Ctr l X yX3_stepsAreRight cX3_stepsAreRight 7 (some .boolean) (rmD 5) [.ref (aL X 27), .int m0, .int n0, .int o, .int q] g (pI (fun r g2 => Inv g2 ∧ Kp [9, 10, 11, 12, 27, 29] g g2 ∧ (((r.toInt = 1 ∧ m0.toInt = n0.toInt ∧ 1 ≤ m0.toInt) ∨ (r.toInt = 0 ∧ ¬ (m0.toInt = n0.toInt ∧ 1 ≤ m0.toInt)))))) := by
  refine Ctr.of (lv := [(0, .ref (aL X 27)), (1, .int m0), (2, .int n0), (3, .int o), (4, .int q)]) hX (by decide) rfl (Nat.le_of_ble_eq_true rfl) ?_
  intro p e s m below meth c C
  have zf0 := hF.t 16 4 (by decide)
  have zf1 := hF.t 20 5 (by decide)
  have zf2 := hF.t 30 1 (by decide)
  have zf3 := hF.t 30 2 (by decide)
  have zf4 := hF.t 0 10 (by decide)
  refine m_iload_n C dX3_stepsAreRight_0 1 rfl ?_
  refine m_iconst C (1 : Int32) dX3_stepsAreRight_1 (by decide) ?_
  refine m_icmp_lt C 10 dX3_stepsAreRight_2 (by decide) (fun h1 => ?_) (fun h1 => ?_)
  · skip
    have th1 := i_lt h1
    rw [show (1 : Int32).toInt = 1 by decide] at th1
    refine m_iconst C (0 : Int32) dX3_stepsAreRight_10 (by decide) ?_
    exact m_zret C dX3_stepsAreRight_11 (by decide) ⟨_, rfl, hI, Kp.rf, (by have hl : (0 : Int32).toInt = 0 := (by decide); omega)⟩
  · skip
    have th1 := i_nlt h1
    rw [show (1 : Int32).toInt = 1 by decide] at th1
    refine m_iload_n C dX3_stepsAreRight_5 1 rfl ?_
    refine m_iload_n C dX3_stepsAreRight_6 2 rfl ?_
    refine m_icmp_le C 12 dX3_stepsAreRight_7 (by decide) (fun h2 => ?_) (fun h2 => ?_)
    · skip
      have th2 := i_le h2
      refine m_iload_n C dX3_stepsAreRight_12 1 rfl ?_
      refine m_iload_n C dX3_stepsAreRight_13 2 rfl ?_
      refine m_icmp_ne C 50 dX3_stepsAreRight_14 (by decide) (fun h3 => ?_) (fun h3 => ?_)
      · skip
        have th3 := i_ne h3
        refine m_iload_n C dX3_stepsAreRight_50 1 rfl ?_
        refine m_iload_n C dX3_stepsAreRight_51 1 rfl ?_
        refine m_iconst C (1 : Int32) dX3_stepsAreRight_52 (by decide) ?_
        refine m_isub C dX3_stepsAreRight_53 ?_
        refine m_iand C dX3_stepsAreRight_54 ?_
        refine m_if_ne C 62 dX3_stepsAreRight_55 (by decide) (fun h4 => ?_) (fun h4 => ?_)
        · skip
          have th4 := i_ne h4
          rw [show (0 : Int32).toInt = 0 by decide] at th4
          refine m_iconst C (0 : Int32) dX3_stepsAreRight_62 (by decide) ?_
          refine m_istore C [(5, .int (0 : Int32)), (0, .ref (aL X 27)), (1, .int m0), (2, .int n0), (3, .int o), (4, .int q)] dX3_stepsAreRight_63 (by decide) rfl ?_
          refine m_iload C dX3_stepsAreRight_65 0 rfl ?_
          refine m_if_ne C 82 dX3_stepsAreRight_67 (by decide) (fun h => absurd (by decide) h) (fun _ => ?_)
          refine m_aload_n C dX3_stepsAreRight_70 1 rfl ?_
          refine m_getr (rf := "") C 1 rfl gd3 (by decide) sh_27 rfl dX3_stepsAreRight_71 lk_X3_31 ?_
          refine m_getiN (rf := "") C 5 rfl gd6 (by decide) sh_20 rfl dX3_stepsAreRight_74 lk_X3_42 ?_
          have r6 := iv_psize hI
          have z7 := hF.t 20 5 (by decide)
          refine m_if_ne C 82 dX3_stepsAreRight_77 (by decide) (fun h8 => ?_) (fun h8 => ?_)
          · skip
            have th8 := i_ne h8
            rw [show (0 : Int32).toInt = 0 by decide] at th8
            refine m_aload_n C dX3_stepsAreRight_82 1 rfl ?_
            refine m_getr (rf := "") C 3 rfl gd3 (by decide) sh_27 rfl dX3_stepsAreRight_83 lk_X3_14 ?_
            refine m_iconst C (0 : Int32) dX3_stepsAreRight_86 (by decide) ?_
            refine m_iload C dX3_stepsAreRight_87 0 rfl ?_
            refine m_if_eq C 99 dX3_stepsAreRight_89 (by decide) (fun _ => ?_) (fun h => absurd (by decide) h)
            refine m_aload_n C dX3_stepsAreRight_99 1 rfl ?_
            refine m_getr (rf := "") C 1 rfl gd3 (by decide) sh_27 rfl dX3_stepsAreRight_100 lk_X3_31 ?_
            refine m_getrN (rf := "") C 1 rfl gd6 (by decide) sh_20 rfl dX3_stepsAreRight_103 lk_X3_68 ?_
            refine m_iload C dX3_stepsAreRight_106 0 rfl ?_
            refine m_if_eq C 115 dX3_stepsAreRight_108 (by decide) (fun _ => ?_) (fun h => absurd (by decide) h)
            refine m_iconst C (0 : Int32) dX3_stepsAreRight_115 (by decide) ?_
            have t9 : (0 : Int32).toInt = 0 := by decide
            have t10 : (0 : Int32).toInt = 0 := by decide
            refine m_invVN C cal_X2_copyFrom sh_28 rfl (c_X2_copyFrom_28_21 l hX g (0 : Int32) (0 : Int32) hI (by omega) (by omega)) lk_X3_38 im_X2_copyFrom se_X2_copyFrom (by decide) rfl rfl (Nat.le_of_ble_eq_true rfl) dX3_stepsAreRight_116 ⟨Nat.le_refl _, Nat.le_refl _⟩ (rV fun g12 q13 => ?_)
            obtain ⟨hI14, hK15⟩ := q13
            have ev16 : g12 20 5 = g 20 5 := congrFun (hK15.1 20 (by decide)) 5
            have tev16 := congrArg Int32.toInt ev16
            have hK17 : Kp [9, 10, 11, 12, 27, 29] g g12 := (Kp.rf).tr hK15 (by decide)
            refine m_aload_n C dX3_stepsAreRight_119 1 rfl ?_
            refine m_getr (rf := "") C 3 rfl gd3 (by decide) sh_27 rfl dX3_stepsAreRight_120 lk_X3_14 ?_
            refine m_iconst C (1 : Int32) dX3_stepsAreRight_123 (by decide) ?_
            refine m_aload_n C dX3_stepsAreRight_124 1 rfl ?_
            refine m_getr (rf := "") C 3 rfl gd3 (by decide) sh_27 rfl dX3_stepsAreRight_125 lk_X3_14 ?_
            refine m_iconst C (0 : Int32) dX3_stepsAreRight_128 (by decide) ?_
            have t18 : (1 : Int32).toInt = 1 := by decide
            have t19 : (0 : Int32).toInt = 0 := by decide
            refine m_invVN C cal_X2_copyFrom sh_28 rfl (c_X2_copyFrom_28_28 l hX g12 (1 : Int32) (0 : Int32) hI14 (by omega) (by omega)) lk_X3_38 im_X2_copyFrom se_X2_copyFrom (by decide) rfl rfl (Nat.le_of_ble_eq_true rfl) dX3_stepsAreRight_129 ⟨Nat.le_refl _, Nat.le_refl _⟩ (rV fun g21 q22 => ?_)
            obtain ⟨hI23, hK24⟩ := q22
            have ev25 : g21 20 5 = g12 20 5 := congrFun (hK24.1 20 (by decide)) 5
            have tev25 := congrArg Int32.toInt ev25
            have hK26 : Kp [9, 10, 11, 12, 27, 29] g g21 := (hK17).tr hK24 (by decide)
            refine m_aload_n C dX3_stepsAreRight_132 1 rfl ?_
            refine m_iload_n C dX3_stepsAreRight_133 2 rfl ?_
            refine m_iload_n C dX3_stepsAreRight_134 3 rfl ?_
            refine m_invV C cal_X3_startSteps sh_27 rfl (c_X3_startSteps_f l hX g21 m0 n0 hI23 (by omega) (by omega) (by omega)) lk_X3_71 im_X3_startSteps se_X3_startSteps (by decide) rfl rfl (Nat.le_of_ble_eq_true rfl) dX3_stepsAreRight_135 ⟨Nat.le_refl _, Nat.le_refl _⟩ (rV fun g28 q29 => ?_)
            obtain ⟨hI30, hK31, p32⟩ := q29
            have ev33 : g28 20 5 = g21 20 5 := congrFun (hK31.1 20 (by decide)) 5
            have tev33 := congrArg Int32.toInt ev33
            have hK34 : Kp [9, 10, 11, 12, 27, 29] g g28 := (hK26).tr hK31 (by decide)
            refine m_iload C dX3_stepsAreRight_138 0 rfl ?_
            refine m_if_eq C 147 dX3_stepsAreRight_140 (by decide) (fun _ => ?_) (fun h => absurd (by decide) h)
            refine m_iconst C (1 : Int32) dX3_stepsAreRight_147 (by decide) ?_
            refine m_istore C [(6, .int (1 : Int32)), (5, .int (0 : Int32)), (0, .ref (aL X 27)), (1, .int m0), (2, .int n0), (3, .int o), (4, .int q)] dX3_stepsAreRight_148 (by decide) rfl ?_
            have L150 : ∀ (n150 : Nat) (x36 : Int32) (g37 : Mem), (9 - x36.toInt).toNat < n150 → Inv g37 → Kp [9, 10, 11, 12, 27, 29] g g37 → 0 ≤ x36.toInt ∧ x36.toInt ≤ 8 → 1 ≤ (g37 27 5).toInt → Wm X p l e (rmD 5) s m ([.ref (aL X 27), .int m0, .int n0, .int o, .int q] : List Value).toArray below meth c 7 0 0 (MQ below (cQ X (pI (fun r g2 => Inv g2 ∧ Kp [9, 10, 11, 12, 27, 29] g g2 ∧ (((r.toInt = 1 ∧ m0.toInt = n0.toInt ∧ 1 ≤ m0.toInt) ∨ (r.toInt = 0 ∧ ¬ (m0.toInt = n0.toInt ∧ 1 ≤ m0.toInt))))))) ([.ref (aL X 27), .int m0, .int n0, .int o, .int q] : List Value).toArray s 0 0 (Ab X)) g37 150 [(0, .ref (aL X 27)), (1, .int m0), (2, .int n0), (3, .int o), (4, .int q), (5, .int (0 : Int32)), (6, .int x36)] [] := by
              intro n150
              induction n150 with
              | zero => intro x36 g37 hm; exact absurd hm (Nat.not_lt_zero _)
              | succ n150 ih150 =>
                intro x36 g37 hm150 hI38 hK39 i40 i41
                obtain ⟨i40a, i40b⟩ := i40
                refine m_iload C dX3_stepsAreRight_150 6 rfl ?_
                refine m_aload_n C dX3_stepsAreRight_152 0 rfl ?_
                refine m_getr (rf := "") C 1 rfl gd3 (by decide) sh_27 rfl dX3_stepsAreRight_153 lk_X3_31 ?_
                refine m_getiN (rf := "") C 5 rfl gd6 (by decide) sh_20 rfl dX3_stepsAreRight_156 lk_X3_42 ?_
                have r42 := iv_psize hI38
                have ev43 : g37 20 5 = g 20 5 := congrFun (hK39.1 20 (by decide)) 5
                have tev43 := congrArg Int32.toInt ev43
                have z44 := hF.t 20 5 (by decide)
                refine m_icmp_ge C 216 dX3_stepsAreRight_159 (by decide) (fun h45 => ?_) (fun h45 => ?_)
                · skip
                  have th45 := i_le h45
                  refine m_aload_n C dX3_stepsAreRight_216 0 rfl ?_
                  refine m_geti (rf := "") C 5 rfl gd3 (by decide) sh_27 rfl dX3_stepsAreRight_217 lk_X3_24 ?_
                  have z46 := hF.t 27 5 (by decide)
                  refine m_if_ne C 260 dX3_stepsAreRight_220 (by decide) (fun h47 => ?_) (fun h47 => ?_)
                  · skip
                    have th47 := i_ne h47
                    rw [show (0 : Int32).toInt = 0 by decide] at th47
                    refine m_iconst C (0 : Int32) dX3_stepsAreRight_260 (by decide) ?_
                    exact m_zret C dX3_stepsAreRight_261 (by decide) ⟨_, rfl, hI38, hK39, (by have hl : (0 : Int32).toInt = 0 := (by decide); omega)⟩
                  · skip
                    have th47 := i_eq h47
                    rw [show (0 : Int32).toInt = 0 by decide] at th47
                    exact False.elim (by omega)
                · skip
                  have th45 := i_nle h45
                  exact False.elim (by omega)
            have t48 : (1 : Int32).toInt = 1 := by decide
            refine m_lv [2, 3, 4, 5, 6, 1, 0] rfl ?_
            exact L150 (((9 - (1 : Int32).toInt).toNat) + 1) (1 : Int32) g28 (Nat.lt_succ_self _) hI30 hK34 (by omega) (by omega)
          · skip
            have th8 := i_eq h8
            rw [show (0 : Int32).toInt = 0 by decide] at th8
            refine m_iconst C (0 : Int32) dX3_stepsAreRight_80 (by decide) ?_
            exact m_zret C dX3_stepsAreRight_81 (by decide) ⟨_, rfl, hI, Kp.rf, (by have hl : (0 : Int32).toInt = 0 := (by decide); omega)⟩
        · skip
          have th4 := i_eq h4
          rw [show (0 : Int32).toInt = 0 by decide] at th4
          refine m_iconst C (1 : Int32) dX3_stepsAreRight_58 (by decide) ?_
          refine m_goto C 63 dX3_stepsAreRight_59 (by decide) ?_
          refine m_istore C [(5, .int (1 : Int32)), (0, .ref (aL X 27)), (1, .int m0), (2, .int n0), (3, .int o), (4, .int q)] dX3_stepsAreRight_63 (by decide) rfl ?_
          refine m_iload C dX3_stepsAreRight_65 0 rfl ?_
          refine m_if_ne C 82 dX3_stepsAreRight_67 (by decide) (fun _ => ?_) (fun h => absurd h (by decide))
          refine m_aload_n C dX3_stepsAreRight_82 1 rfl ?_
          refine m_getr (rf := "") C 3 rfl gd3 (by decide) sh_27 rfl dX3_stepsAreRight_83 lk_X3_14 ?_
          refine m_iconst C (0 : Int32) dX3_stepsAreRight_86 (by decide) ?_
          refine m_iload C dX3_stepsAreRight_87 0 rfl ?_
          refine m_if_eq C 99 dX3_stepsAreRight_89 (by decide) (fun h => absurd h (by decide)) (fun _ => ?_)
          refine m_aload_n C dX3_stepsAreRight_92 1 rfl ?_
          refine m_getr (rf := "") C 2 rfl gd3 (by decide) sh_27 rfl dX3_stepsAreRight_93 lk_X3_35 ?_
          refine m_goto C 106 dX3_stepsAreRight_96 (by decide) ?_
          refine m_iload C dX3_stepsAreRight_106 0 rfl ?_
          refine m_if_eq C 115 dX3_stepsAreRight_108 (by decide) (fun h => absurd h (by decide)) (fun _ => ?_)
          refine m_iload_n C dX3_stepsAreRight_111 4 rfl ?_
          refine m_goto C 116 dX3_stepsAreRight_112 (by decide) ?_
          have t50 : (0 : Int32).toInt = 0 := by decide
          refine m_invVN C cal_X2_copyFrom sh_28 rfl (c_X2_copyFrom_28_25 l hX g (0 : Int32) o hI (by omega) (by omega)) lk_X3_38 im_X2_copyFrom se_X2_copyFrom (by decide) rfl rfl (Nat.le_of_ble_eq_true rfl) dX3_stepsAreRight_116 ⟨Nat.le_refl _, Nat.le_refl _⟩ (rV fun g52 q53 => ?_)
          obtain ⟨hI54, hK55⟩ := q53
          have hK56 : Kp [9, 10, 11, 12, 27, 29] g g52 := (Kp.rf).tr hK55 (by decide)
          refine m_aload_n C dX3_stepsAreRight_119 1 rfl ?_
          refine m_getr (rf := "") C 3 rfl gd3 (by decide) sh_27 rfl dX3_stepsAreRight_120 lk_X3_14 ?_
          refine m_iconst C (1 : Int32) dX3_stepsAreRight_123 (by decide) ?_
          refine m_aload_n C dX3_stepsAreRight_124 1 rfl ?_
          refine m_getr (rf := "") C 3 rfl gd3 (by decide) sh_27 rfl dX3_stepsAreRight_125 lk_X3_14 ?_
          refine m_iconst C (0 : Int32) dX3_stepsAreRight_128 (by decide) ?_
          have t57 : (1 : Int32).toInt = 1 := by decide
          have t58 : (0 : Int32).toInt = 0 := by decide
          refine m_invVN C cal_X2_copyFrom sh_28 rfl (c_X2_copyFrom_28_28 l hX g52 (1 : Int32) (0 : Int32) hI54 (by omega) (by omega)) lk_X3_38 im_X2_copyFrom se_X2_copyFrom (by decide) rfl rfl (Nat.le_of_ble_eq_true rfl) dX3_stepsAreRight_129 ⟨Nat.le_refl _, Nat.le_refl _⟩ (rV fun g60 q61 => ?_)
          obtain ⟨hI62, hK63⟩ := q61
          have hK64 : Kp [9, 10, 11, 12, 27, 29] g g60 := (hK56).tr hK63 (by decide)
          refine m_aload_n C dX3_stepsAreRight_132 1 rfl ?_
          refine m_iload_n C dX3_stepsAreRight_133 2 rfl ?_
          refine m_iload_n C dX3_stepsAreRight_134 3 rfl ?_
          refine m_invV C cal_X3_startSteps sh_27 rfl (c_X3_startSteps_f l hX g60 m0 n0 hI62 (by omega) (by omega) (by omega)) lk_X3_71 im_X3_startSteps se_X3_startSteps (by decide) rfl rfl (Nat.le_of_ble_eq_true rfl) dX3_stepsAreRight_135 ⟨Nat.le_refl _, Nat.le_refl _⟩ (rV fun g66 q67 => ?_)
          obtain ⟨hI68, hK69, p70⟩ := q67
          have hK71 : Kp [9, 10, 11, 12, 27, 29] g g66 := (hK64).tr hK69 (by decide)
          refine m_iload C dX3_stepsAreRight_138 0 rfl ?_
          refine m_if_eq C 147 dX3_stepsAreRight_140 (by decide) (fun h => absurd h (by decide)) (fun _ => ?_)
          refine m_iconst C (0 : Int32) dX3_stepsAreRight_143 (by decide) ?_
          refine m_goto C 148 dX3_stepsAreRight_144 (by decide) ?_
          refine m_istore C [(6, .int (0 : Int32)), (5, .int (1 : Int32)), (0, .ref (aL X 27)), (1, .int m0), (2, .int n0), (3, .int o), (4, .int q)] dX3_stepsAreRight_148 (by decide) rfl ?_
          have L150 : ∀ (n150 : Nat) (x73 : Int32) (g74 : Mem), (9 - x73.toInt).toNat < n150 → Inv g74 → Kp [9, 10, 11, 12, 27, 29] g g74 → 0 ≤ x73.toInt ∧ x73.toInt ≤ 8 → 1 ≤ (g74 27 5).toInt → Wm X p l e (rmD 5) s m ([.ref (aL X 27), .int m0, .int n0, .int o, .int q] : List Value).toArray below meth c 7 0 0 (MQ below (cQ X (pI (fun r g2 => Inv g2 ∧ Kp [9, 10, 11, 12, 27, 29] g g2 ∧ (((r.toInt = 1 ∧ m0.toInt = n0.toInt ∧ 1 ≤ m0.toInt) ∨ (r.toInt = 0 ∧ ¬ (m0.toInt = n0.toInt ∧ 1 ≤ m0.toInt))))))) ([.ref (aL X 27), .int m0, .int n0, .int o, .int q] : List Value).toArray s 0 0 (Ab X)) g74 150 [(0, .ref (aL X 27)), (1, .int m0), (2, .int n0), (3, .int o), (4, .int q), (5, .int (1 : Int32)), (6, .int x73)] [] := by
            intro n150
            induction n150 with
            | zero => intro x73 g74 hm; exact absurd hm (Nat.not_lt_zero _)
            | succ n150 ih150 =>
              intro x73 g74 hm150 hI75 hK76 i77 i78
              obtain ⟨i77a, i77b⟩ := i77
              refine m_iload C dX3_stepsAreRight_150 6 rfl ?_
              refine m_aload_n C dX3_stepsAreRight_152 0 rfl ?_
              refine m_getr (rf := "") C 1 rfl gd3 (by decide) sh_27 rfl dX3_stepsAreRight_153 lk_X3_31 ?_
              refine m_getiN (rf := "") C 5 rfl gd6 (by decide) sh_20 rfl dX3_stepsAreRight_156 lk_X3_42 ?_
              have r79 := iv_psize hI75
              have ev80 : g74 20 5 = g 20 5 := congrFun (hK76.1 20 (by decide)) 5
              have tev80 := congrArg Int32.toInt ev80
              have z81 := hF.t 20 5 (by decide)
              refine m_icmp_ge C 216 dX3_stepsAreRight_159 (by decide) (fun h82 => ?_) (fun h82 => ?_)
              · skip
                have th82 := i_le h82
                refine m_aload_n C dX3_stepsAreRight_216 0 rfl ?_
                refine m_geti (rf := "") C 5 rfl gd3 (by decide) sh_27 rfl dX3_stepsAreRight_217 lk_X3_24 ?_
                have z83 := hF.t 27 5 (by decide)
                refine m_if_ne C 260 dX3_stepsAreRight_220 (by decide) (fun h84 => ?_) (fun h84 => ?_)
                · skip
                  have th84 := i_ne h84
                  rw [show (0 : Int32).toInt = 0 by decide] at th84
                  refine m_iconst C (0 : Int32) dX3_stepsAreRight_260 (by decide) ?_
                  exact m_zret C dX3_stepsAreRight_261 (by decide) ⟨_, rfl, hI75, hK76, (by have hl : (0 : Int32).toInt = 0 := (by decide); omega)⟩
                · skip
                  have th84 := i_eq h84
                  rw [show (0 : Int32).toInt = 0 by decide] at th84
                  exact False.elim (by omega)
              · skip
                have th82 := i_nle h82
                exact False.elim (by omega)
          have t85 : (0 : Int32).toInt = 0 := by decide
          refine m_lv [2, 3, 4, 5, 6, 1, 0] rfl ?_
          exact L150 (((9 - (0 : Int32).toInt).toNat) + 1) (0 : Int32) g66 (Nat.lt_succ_self _) hI68 hK71 (by omega) (by omega)
      · skip
        have th3 := i_eq h3
        refine m_aload_n C dX3_stepsAreRight_17 0 rfl ?_
        refine m_getr (rf := "") C 1 rfl gd3 (by decide) sh_27 rfl dX3_stepsAreRight_18 lk_X3_31 ?_
        refine m_getiN (rf := "") C 5 rfl gd6 (by decide) sh_20 rfl dX3_stepsAreRight_21 lk_X3_42 ?_
        have r86 := iv_psize hI
        have z87 := hF.t 20 5 (by decide)
        refine m_if_ne C 48 dX3_stepsAreRight_24 (by decide) (fun h88 => ?_) (fun h88 => ?_)
        · skip
          have th88 := i_ne h88
          rw [show (0 : Int32).toInt = 0 by decide] at th88
          refine m_iconst C (0 : Int32) dX3_stepsAreRight_48 (by decide) ?_
          exact m_zret C dX3_stepsAreRight_49 (by decide) ⟨_, rfl, hI, Kp.rf, (by have hl : (0 : Int32).toInt = 0 := (by decide); omega)⟩
        · skip
          have th88 := i_eq h88
          rw [show (0 : Int32).toInt = 0 by decide] at th88
          refine m_aload_n C dX3_stepsAreRight_27 0 rfl ?_
          refine m_getr (rf := "") C 2 rfl gd3 (by decide) sh_27 rfl dX3_stepsAreRight_28 lk_X3_35 ?_
          refine m_iload_n C dX3_stepsAreRight_31 3 rfl ?_
          refine m_aload_n C dX3_stepsAreRight_32 0 rfl ?_
          refine m_getr (rf := "") C 2 rfl gd3 (by decide) sh_27 rfl dX3_stepsAreRight_33 lk_X3_35 ?_
          refine m_iload C dX3_stepsAreRight_36 4 rfl ?_
          refine m_invVN C cal_X2_isSame sh_25 rfl (c_X2_isSame_f l hX g o q hI (by omega) (by omega) hF) lk_X3_64 im_X2_isSame se_X2_isSame (by decide) rfl rfl (Nat.le_of_ble_eq_true rfl) dX3_stepsAreRight_38 ⟨Nat.le_refl _, Nat.le_refl _⟩ (rI fun r89 g90 q91 => ?_)
          obtain ⟨hI92, hK93, p94⟩ := q91
          have ev95 : g90 20 5 = g 20 5 := congrFun (hK93.1 20 (by decide)) 5
          have tev95 := congrArg Int32.toInt ev95
          have hK96 : Kp [9, 10, 11, 12, 27, 29] g g90 := (Kp.rf).tr hK93 (by decide)
          refine m_if_eq C 48 dX3_stepsAreRight_41 (by decide) (fun h97 => ?_) (fun h97 => ?_)
          · skip
            have th97 := i_eq h97
            rw [show (0 : Int32).toInt = 0 by decide] at th97
            refine m_iconst C (0 : Int32) dX3_stepsAreRight_48 (by decide) ?_
            exact m_zret C dX3_stepsAreRight_49 (by decide) ⟨_, rfl, hI92, hK96, (by have hl : (0 : Int32).toInt = 0 := (by decide); omega)⟩
          · skip
            have th97 := i_ne h97
            rw [show (0 : Int32).toInt = 0 by decide] at th97
            refine m_iconst C (1 : Int32) dX3_stepsAreRight_44 (by decide) ?_
            refine m_goto C 49 dX3_stepsAreRight_45 (by decide) ?_
            exact m_zret C dX3_stepsAreRight_49 (by decide) ⟨_, rfl, hI92, hK96, (by have hl : (1 : Int32).toInt = 1 := (by decide); omega)⟩
    · skip
      have th2 := i_nle h2
      refine m_iconst C (0 : Int32) dX3_stepsAreRight_10 (by decide) ?_
      exact m_zret C dX3_stepsAreRight_11 (by decide) ⟨_, rfl, hI, Kp.rf, (by have hl : (0 : Int32).toInt = 0 := (by decide); omega)⟩
set_option maxRecDepth 20000 in
set_option maxHeartbeats 4000000 in
theorem c_X7_rootOf_f (l : Launch) {X : XT} (hX : Lok X) (g : Mem) (fr_ : Int32) (ti : Int32) (t : Int32) (hI : Inv g) (h_fr_ : 0 ≤ fr_.toInt ∧ fr_.toInt ≤ 60) (hti : ti.toInt = 0) (ht : t = 0) : Ctr l X yX7_rootOf cX7_rootOf 10 none (rmD 4) [.ref (aL X 13), .int fr_, .int ti, .ref (aL X 32), .int t] g (pV (fun g2 => Inv g2 ∧ Kp [9, 10, 11, 12, 33] g g2 ∧ hs_Fq (hs_b 0 0 0) 0 (g2 33))) := by
  refine Ctr.of (lv := [(0, .ref (aL X 13)), (1, .int fr_), (2, .int ti), (3, .ref (aL X 32)), (4, .int t)]) hX (by decide) rfl (Nat.le_of_ble_eq_true rfl) ?_
  intro p e s m below meth c C
  refine m_iload_n C dX7_rootOf_0 2 rfl ?_
  refine m_iload_n C dX7_rootOf_1 1 rfl ?_
  refine m_isub C dX7_rootOf_2 ?_
  refine m_name (fun x1 ex1 => ?_)
  have t2 : (ti - fr_).toInt = ti.toInt - fr_.toInt := i_sub rfl rfl (by omega) (by omega)
  have t3 : x1.toInt = (ti.toInt - fr_.toInt) := (congrArg Int32.toInt ex1).trans t2
  refine m_istore C [(5, .int x1), (0, .ref (aL X 13)), (1, .int fr_), (2, .int ti), (3, .ref (aL X 32)), (4, .int t)] dX7_rootOf_3 (by decide) rfl ?_
  refine m_iload C dX7_rootOf_5 0 rfl ?_
  refine m_if_gt C 28 dX7_rootOf_7 (by decide) (fun h4 => ?_) (fun h4 => ?_)
  · skip
    have th4 := i_lt h4
    rw [show (0 : Int32).toInt = 0 by decide] at th4
    exact False.elim (by omega)
  · skip
    have th4 := i_nlt h4
    rw [show (0 : Int32).toInt = 0 by decide] at th4
    refine m_aload_n C dX7_rootOf_10 1 rfl ?_
    refine m_getr (rf := "") C 0 rfl gd7 (by decide) sh_13 rfl dX7_rootOf_11 lk_X7_20 ?_
    refine m_invVN C cal_X1_begin sh_9 rfl (c_X1_begin_e l hX g  hI) lk_X7_24 im_X1_begin se_X1_begin (by decide) rfl rfl (Nat.le_of_ble_eq_true rfl) dX7_rootOf_14 ⟨Nat.le_refl _, Nat.le_refl _⟩ (rV fun g6 q7 => ?_)
    obtain ⟨hI8, hK9, p10⟩ := q7
    have hK11 : Kp [9, 10, 11, 12, 33] g g6 := (Kp.rf).tr hK9 (by decide)
    refine m_aload_n C dX7_rootOf_17 1 rfl ?_
    refine m_getr (rf := "") C 0 rfl gd7 (by decide) sh_13 rfl dX7_rootOf_18 lk_X7_20 ?_
    refine m_aload_n C dX7_rootOf_21 4 rfl ?_
    refine m_iload C dX7_rootOf_22 5 rfl ?_
    refine m_invVN C cal_X1_finish sh_9 rfl (c_X1_finish_e l hX g6 t (hs_b 0 0 0) 0 hI8 ⟨by decide, by decide⟩ (p10.trans (by decide)) hs_Ms00 hs_b1 hs_b2 ht) lk_X7_36 im_X1_finish se_X1_finish (by decide) rfl rfl (Nat.le_of_ble_eq_true rfl) dX7_rootOf_24 ⟨Nat.le_refl _, Nat.le_refl _⟩ (rV fun g13 q14 => ?_)
    obtain ⟨hI15, hK16, p17⟩ := q14
    have hK18 : Kp [9, 10, 11, 12, 33] g g13 := (hK11).tr hK16 (by decide)
    exact m_vret C dX7_rootOf_27 ⟨rfl, hI15, hK18, p17⟩
set_option maxRecDepth 20000 in
set_option maxHeartbeats 4000000 in
theorem c_X8_setGiven_f (l : Launch) {X : XT} (hX : Lok X) (g : Mem) (pt : Int32) (o : Int32) (q : Int32) (z : Int32) (hI : Inv g) (hz : R01 z) (hF : FX g) : Ctr l X yX8_setGiven cX8_setGiven 7 (some .int) (rmD 7) [.ref (aL X 0), .int pt, .int o, .int q, .int z] g (pI (fun r g2 => Inv g2 ∧ Kp [8, 9, 10, 11, 12, 15, 16, 17, 19, 30, 31] g g2 ∧ ((r.toInt = z.toInt ∧ (((0 ≤ pt.toInt ∧ pt.toInt ≤ 11) ∨ (16 ≤ pt.toInt ∧ pt.toInt ≤ 19)) ∧ 0 ≤ o.toInt ∧ o.toInt ≤ 15 ∧ 0 ≤ q.toInt ∧ q.toInt ≤ 3)) ∨ (r.toInt = -2 ∧ ¬ (((0 ≤ pt.toInt ∧ pt.toInt ≤ 11) ∨ (16 ≤ pt.toInt ∧ pt.toInt ≤ 19)) ∧ 0 ≤ o.toInt ∧ o.toInt ≤ 15 ∧ 0 ≤ q.toInt ∧ q.toInt ≤ 3))))) := by
  refine Ctr.of (lv := [(0, .ref (aL X 0)), (1, .int pt), (2, .int o), (3, .int q), (4, .int z)]) hX (by decide) rfl (Nat.le_of_ble_eq_true rfl) ?_
  intro p e s m below meth c C
  have zf0 := hF.t 16 4 (by decide)
  have zf1 := hF.t 20 5 (by decide)
  have zf2 := hF.t 30 1 (by decide)
  have zf3 := hF.t 30 2 (by decide)
  have zf4 := hF.t 0 10 (by decide)
  have hz2 := hz.ti
  refine m_iload_n C dX8_setGiven_0 1 rfl ?_
  refine m_invS C cal_X8_isParty (c_X8_isParty l hX g pt ) lk_X8_142 st_X8_isParty (by decide) rfl rfl (Nat.le_of_ble_eq_true rfl) dX8_setGiven_1 ⟨Nat.le_refl _, Nat.le_refl _⟩ (rI fun r1 g2 q3 => ?_)
  obtain ⟨eg2, ⟨rfl, h4⟩ | ⟨rfl, h4⟩⟩ := q3
  · skip
    subst g2
    refine m_if_eq C 21 dX8_setGiven_4 (by decide) (fun h => absurd h (by decide)) (fun _ => ?_)
    refine m_iload_n C dX8_setGiven_7 2 rfl ?_
    refine m_invS C cal_X8_isObject (c_X8_isObject l hX g o ) lk_X8_96 st_X8_isObject (by decide) rfl rfl (Nat.le_of_ble_eq_true rfl) dX8_setGiven_8 ⟨Nat.le_refl _, Nat.le_refl _⟩ (rI fun r5 g6 q7 => ?_)
    obtain ⟨eg6, ⟨rfl, h8⟩ | ⟨rfl, h8⟩⟩ := q7
    · skip
      subst g6
      refine m_if_eq C 21 dX8_setGiven_11 (by decide) (fun h => absurd h (by decide)) (fun _ => ?_)
      refine m_iload_n C dX8_setGiven_14 3 rfl ?_
      refine m_invS C cal_X8_isRight (c_X8_isRight l hX g q ) lk_X8_99 st_X8_isRight (by decide) rfl rfl (Nat.le_of_ble_eq_true rfl) dX8_setGiven_15 ⟨Nat.le_refl _, Nat.le_refl _⟩ (rI fun r9 g10 q11 => ?_)
      obtain ⟨eg10, ⟨rfl, h12⟩ | ⟨rfl, h12⟩⟩ := q11
      · skip
        subst g10
        refine m_if_ne C 24 dX8_setGiven_18 (by decide) (fun _ => ?_) (fun h => absurd h (by decide))
        refine m_aload_n C dX8_setGiven_24 0 rfl ?_
        refine m_invV C cal_X8_refusal sh_0 rfl (c_X8_refusal_f l hX g  hI hF) lk_X8_102 im_X8_refusal se_X8_refusal (by decide) rfl rfl (Nat.le_of_ble_eq_true rfl) dX8_setGiven_25 ⟨Nat.le_refl _, Nat.le_refl _⟩ (rI fun r13 g14 q15 => ?_)
        obtain ⟨eg14, p16⟩ := q15
        subst g14
        refine m_istore C [(5, .int r13), (0, .ref (aL X 0)), (1, .int pt), (2, .int o), (3, .int q), (4, .int z)] dX8_setGiven_28 (by decide) rfl ?_
        refine m_iload C dX8_setGiven_30 0 rfl ?_
        refine m_if_eq C 38 dX8_setGiven_32 (by decide) (fun h18 => ?_) (fun h18 => ?_)
        · skip
          have th18 := i_eq h18
          rw [show (0 : Int32).toInt = 0 by decide] at th18
          refine m_aload_n C dX8_setGiven_38 1 rfl ?_
          refine m_getr (rf := "") C 0 rfl gd8 (by decide) sh_0 rfl dX8_setGiven_39 lk_X8_12 ?_
          refine m_iload_n C dX8_setGiven_42 2 rfl ?_
          refine m_iload_n C dX8_setGiven_43 3 rfl ?_
          refine m_iload_n C dX8_setGiven_44 4 rfl ?_
          refine m_invVN C cal_X5_hasBeenGiven sh_1 rfl (c_X5_hasBeenGiven_f l hX g pt o q hI (by omega) (by omega) (by omega) hF) lk_X8_145 im_X5_hasBeenGiven se_X5_hasBeenGiven (by decide) rfl rfl (Nat.le_of_ble_eq_true rfl) dX8_setGiven_45 ⟨Nat.le_refl _, Nat.le_refl _⟩ (rI fun r19 g20 q21 => ?_)
          obtain ⟨eg20, p22⟩ := q21
          subst g20
          refine m_istore C [(6, .int r19), (5, .int r13), (0, .ref (aL X 0)), (1, .int pt), (2, .int o), (3, .int q), (4, .int z)] dX8_setGiven_48 (by decide) rfl ?_
          refine m_aload_n C dX8_setGiven_50 2 rfl ?_
          refine m_getr (rf := "") C 0 rfl gd8 (by decide) sh_0 rfl dX8_setGiven_51 lk_X8_12 ?_
          refine m_iload_n C dX8_setGiven_54 3 rfl ?_
          refine m_iload_n C dX8_setGiven_55 4 rfl ?_
          refine m_iload_n C dX8_setGiven_56 5 rfl ?_
          refine m_iload C dX8_setGiven_57 6 rfl ?_
          refine m_invVN C cal_X5_setRight sh_1 rfl (c_X5_setRight l hX g pt o q z hI (by omega) (by omega) (by omega) (by first | assumption | exact Or.inl rfl | exact Or.inr rfl)) lk_X8_259 im_X5_setRight se_X5_setRight (by decide) rfl rfl (Nat.le_of_ble_eq_true rfl) dX8_setGiven_59 ⟨Nat.le_refl _, Nat.le_refl _⟩ (rV fun g25 q26 => ?_)
          obtain ⟨hI27, hK28⟩ := q26
          have hK29 : Kp [8, 9, 10, 11, 12, 15, 16, 17, 19, 30, 31] g g25 := (Kp.rf).tr hK28 (by decide)
          refine m_aload_n C dX8_setGiven_62 2 rfl ?_
          refine m_iload C dX8_setGiven_63 6 rfl ?_
          refine m_if_eq C 72 dX8_setGiven_65 (by decide) (fun h30 => ?_) (fun h30 => ?_)
          · skip
            have th30 := i_eq h30
            rw [show (0 : Int32).toInt = 0 by decide] at th30
            refine m_iconst C (2 : Int32) dX8_setGiven_72 (by decide) ?_
            refine m_iload_n C dX8_setGiven_73 3 rfl ?_
            refine m_iload_n C dX8_setGiven_74 4 rfl ?_
            refine m_iload_n C dX8_setGiven_75 5 rfl ?_
            refine m_iconst C (0 : Int32) dX8_setGiven_76 (by decide) ?_
            have t31 : (2 : Int32).toInt = 2 := by decide
            have t32 : (0 : Int32).toInt = 0 := by decide
            refine m_invV C cal_X8_writeEntry sh_0 rfl (c_X8_writeEntry l hX g25 (2 : Int32) pt o q (0 : Int32) hI27) lk_X8_114 im_X8_writeEntry se_X8_writeEntry (by decide) rfl rfl (Nat.le_of_ble_eq_true rfl) dX8_setGiven_77 ⟨Nat.le_refl _, Nat.le_refl _⟩ (rV fun g34 q35 => ?_)
            obtain ⟨hI36, hK37⟩ := q35
            have hK38 : Kp [8, 9, 10, 11, 12, 15, 16, 17, 19, 30, 31] g g34 := (hK29).tr hK37 (by decide)
            refine m_iload C dX8_setGiven_80 0 rfl ?_
            refine m_iload C dX8_setGiven_82 6 rfl ?_
            refine m_icmp_eq C 91 dX8_setGiven_84 (by decide) (fun h39 => ?_) (fun h39 => ?_)
            · skip
              have th39 := i_eq h39
              refine m_iconst C (0 : Int32) dX8_setGiven_91 (by decide) ?_
              exact m_iret C dX8_setGiven_92 ⟨_, rfl, hI36, hK38, (by have hl : (0 : Int32).toInt = 0 := (by decide); omega)⟩
            · skip
              have th39 := i_ne h39
              refine m_iconst C (1 : Int32) dX8_setGiven_87 (by decide) ?_
              refine m_goto C 92 dX8_setGiven_88 (by decide) ?_
              exact m_iret C dX8_setGiven_92 ⟨_, rfl, hI36, hK38, (by have hl : (1 : Int32).toInt = 1 := (by decide); omega)⟩
          · skip
            have th30 := i_ne h30
            rw [show (0 : Int32).toInt = 0 by decide] at th30
            refine m_iconst C (1 : Int32) dX8_setGiven_68 (by decide) ?_
            refine m_goto C 73 dX8_setGiven_69 (by decide) ?_
            refine m_iload_n C dX8_setGiven_73 3 rfl ?_
            refine m_iload_n C dX8_setGiven_74 4 rfl ?_
            refine m_iload_n C dX8_setGiven_75 5 rfl ?_
            refine m_iconst C (0 : Int32) dX8_setGiven_76 (by decide) ?_
            have t40 : (1 : Int32).toInt = 1 := by decide
            have t41 : (0 : Int32).toInt = 0 := by decide
            refine m_invV C cal_X8_writeEntry sh_0 rfl (c_X8_writeEntry l hX g25 (1 : Int32) pt o q (0 : Int32) hI27) lk_X8_114 im_X8_writeEntry se_X8_writeEntry (by decide) rfl rfl (Nat.le_of_ble_eq_true rfl) dX8_setGiven_77 ⟨Nat.le_refl _, Nat.le_refl _⟩ (rV fun g43 q44 => ?_)
            obtain ⟨hI45, hK46⟩ := q44
            have hK47 : Kp [8, 9, 10, 11, 12, 15, 16, 17, 19, 30, 31] g g43 := (hK29).tr hK46 (by decide)
            refine m_iload C dX8_setGiven_80 0 rfl ?_
            refine m_iload C dX8_setGiven_82 6 rfl ?_
            refine m_icmp_eq C 91 dX8_setGiven_84 (by decide) (fun h48 => ?_) (fun h48 => ?_)
            · skip
              have th48 := i_eq h48
              refine m_iconst C (0 : Int32) dX8_setGiven_91 (by decide) ?_
              exact m_iret C dX8_setGiven_92 ⟨_, rfl, hI45, hK47, (by have hl : (0 : Int32).toInt = 0 := (by decide); omega)⟩
            · skip
              have th48 := i_ne h48
              refine m_iconst C (1 : Int32) dX8_setGiven_87 (by decide) ?_
              refine m_goto C 92 dX8_setGiven_88 (by decide) ?_
              exact m_iret C dX8_setGiven_92 ⟨_, rfl, hI45, hK47, (by have hl : (1 : Int32).toInt = 1 := (by decide); omega)⟩
        · skip
          have th18 := i_ne h18
          rw [show (0 : Int32).toInt = 0 by decide] at th18
          refine m_iload C dX8_setGiven_35 0 rfl ?_
          exact m_iret C dX8_setGiven_37 ⟨_, rfl, hI, Kp.rf, (by omega)⟩
      · skip
        subst g10
        refine m_if_ne C 24 dX8_setGiven_18 (by decide) (fun h => absurd (by decide) h) (fun _ => ?_)
        refine m_bipush C (-2 : Int32) dX8_setGiven_21 (by decide) ?_
        exact m_iret C dX8_setGiven_23 ⟨_, rfl, hI, Kp.rf, (by have hl : (-2 : Int32).toInt = -2 := (by decide); omega)⟩
    · skip
      subst g6
      refine m_if_eq C 21 dX8_setGiven_11 (by decide) (fun _ => ?_) (fun h => absurd (by decide) h)
      refine m_bipush C (-2 : Int32) dX8_setGiven_21 (by decide) ?_
      exact m_iret C dX8_setGiven_23 ⟨_, rfl, hI, Kp.rf, (by have hl : (-2 : Int32).toInt = -2 := (by decide); omega)⟩
  · skip
    subst g2
    refine m_if_eq C 21 dX8_setGiven_4 (by decide) (fun _ => ?_) (fun h => absurd (by decide) h)
    refine m_bipush C (-2 : Int32) dX8_setGiven_21 (by decide) ?_
    exact m_iret C dX8_setGiven_23 ⟨_, rfl, hI, Kp.rf, (by have hl : (-2 : Int32).toInt = -2 := (by decide); omega)⟩
set_option maxRecDepth 20000 in
set_option maxHeartbeats 4000000 in
theorem c_X8_request_f (l : Launch) {X : XT} (hX : Lok X) (g : Mem) (a : Int32) (o : Int32) (q : Int32) (hI : Inv g) (hF : FX g) : Ctr l X yX8_request cX8_request 6 (some .int) (rmD 7) [.ref (aL X 0), .int a, .int o, .int q] g (pI (fun r g2 => Inv g2 ∧ Kp [1, 4, 5, 9, 10, 11, 12, 15, 16, 17, 19, 30, 31] g g2 ∧ (((0 ≤ a.toInt ∧ a.toInt ≤ 11 ∧ 0 ≤ o.toInt ∧ o.toInt ≤ 15 ∧ 0 ≤ q.toInt ∧ q.toInt ≤ 3) ∧ ((r.toInt = 0 ∧ a.toInt = 0) ∨ (r.toInt = 4 ∧ a.toInt ≠ 0))) ∨ (r.toInt = -2 ∧ ¬ (0 ≤ a.toInt ∧ a.toInt ≤ 11 ∧ 0 ≤ o.toInt ∧ o.toInt ≤ 15 ∧ 0 ≤ q.toInt ∧ q.toInt ≤ 3))))) := by
  refine Ctr.of (lv := [(0, .ref (aL X 0)), (1, .int a), (2, .int o), (3, .int q)]) hX (by decide) rfl (Nat.le_of_ble_eq_true rfl) ?_
  intro p e s m below meth c C
  have zf0 := hF.t 16 4 (by decide)
  have zf1 := hF.t 20 5 (by decide)
  have zf2 := hF.t 30 1 (by decide)
  have zf3 := hF.t 30 2 (by decide)
  have zf4 := hF.t 0 10 (by decide)
  refine m_iload_n C dX8_request_0 1 rfl ?_
  refine m_invS C cal_X8_isSubject (c_X8_isSubject l hX g a ) lk_X8_92 st_X8_isSubject (by decide) rfl rfl (Nat.le_of_ble_eq_true rfl) dX8_request_1 ⟨Nat.le_refl _, Nat.le_refl _⟩ (rI fun r1 g2 q3 => ?_)
  obtain ⟨eg2, ⟨rfl, h4⟩ | ⟨rfl, h4⟩⟩ := q3
  · skip
    subst g2
    refine m_if_eq C 21 dX8_request_4 (by decide) (fun h => absurd h (by decide)) (fun _ => ?_)
    refine m_iload_n C dX8_request_7 2 rfl ?_
    refine m_invS C cal_X8_isObject (c_X8_isObject l hX g o ) lk_X8_96 st_X8_isObject (by decide) rfl rfl (Nat.le_of_ble_eq_true rfl) dX8_request_8 ⟨Nat.le_refl _, Nat.le_refl _⟩ (rI fun r5 g6 q7 => ?_)
    obtain ⟨eg6, ⟨rfl, h8⟩ | ⟨rfl, h8⟩⟩ := q7
    · skip
      subst g6
      refine m_if_eq C 21 dX8_request_11 (by decide) (fun h => absurd h (by decide)) (fun _ => ?_)
      refine m_iload_n C dX8_request_14 3 rfl ?_
      refine m_invS C cal_X8_isRight (c_X8_isRight l hX g q ) lk_X8_99 st_X8_isRight (by decide) rfl rfl (Nat.le_of_ble_eq_true rfl) dX8_request_15 ⟨Nat.le_refl _, Nat.le_refl _⟩ (rI fun r9 g10 q11 => ?_)
      obtain ⟨eg10, ⟨rfl, h12⟩ | ⟨rfl, h12⟩⟩ := q11
      · skip
        subst g10
        refine m_if_ne C 24 dX8_request_18 (by decide) (fun _ => ?_) (fun h => absurd h (by decide))
        refine m_aload_n C dX8_request_24 0 rfl ?_
        refine m_invV C cal_X8_refusal sh_0 rfl (c_X8_refusal_f l hX g  hI hF) lk_X8_102 im_X8_refusal se_X8_refusal (by decide) rfl rfl (Nat.le_of_ble_eq_true rfl) dX8_request_25 ⟨Nat.le_refl _, Nat.le_refl _⟩ (rI fun r13 g14 q15 => ?_)
        obtain ⟨eg14, p16⟩ := q15
        subst g14
        refine m_istore C [(4, .int r13), (0, .ref (aL X 0)), (1, .int a), (2, .int o), (3, .int q)] dX8_request_28 (by decide) rfl ?_
        refine m_iload C dX8_request_30 0 rfl ?_
        refine m_if_eq C 38 dX8_request_32 (by decide) (fun h18 => ?_) (fun h18 => ?_)
        · skip
          have th18 := i_eq h18
          rw [show (0 : Int32).toInt = 0 by decide] at th18
          refine m_aload_n C dX8_request_38 1 rfl ?_
          refine m_getr (rf := "") C 0 rfl gd8 (by decide) sh_0 rfl dX8_request_39 lk_X8_12 ?_
          refine m_iload_n C dX8_request_42 2 rfl ?_
          refine m_iload_n C dX8_request_43 3 rfl ?_
          refine m_iload_n C dX8_request_44 4 rfl ?_
          refine m_invVN C cal_X5_causeOf sh_1 rfl (c_X5_causeOf_f l hX g a o q hI (by omega) (by omega) (by omega) hF) lk_X8_106 im_X5_causeOf se_X5_causeOf (by decide) rfl rfl (Nat.le_of_ble_eq_true rfl) dX8_request_45 ⟨Nat.le_refl _, Nat.le_refl _⟩ (rI fun r19 g20 q21 => ?_)
          obtain ⟨eg20, p22⟩ := q21
          subst g20
          refine m_istore C [(5, .int r19), (4, .int r13), (0, .ref (aL X 0)), (1, .int a), (2, .int o), (3, .int q)] dX8_request_48 (by decide) rfl ?_
          refine m_aload_n C dX8_request_50 2 rfl ?_
          refine m_getr (rf := "") C 0 rfl gd8 (by decide) sh_0 rfl dX8_request_51 lk_X8_12 ?_
          refine m_iload_n C dX8_request_54 3 rfl ?_
          refine m_iload C dX8_request_55 0 rfl ?_
          refine m_if_ne C 64 dX8_request_57 (by decide) (fun h24 => ?_) (fun h24 => ?_)
          · skip
            have th24 := i_ne h24
            rw [show (0 : Int32).toInt = 0 by decide] at th24
            refine m_iconst C (0 : Int32) dX8_request_64 (by decide) ?_
            have t25 : (0 : Int32).toInt = 0 := by decide
            refine m_invVN C cal_X5_tally sh_1 rfl (c_X5_tally l hX g a (0 : Int32) hI (by omega)) lk_X8_110 im_X5_tally se_X5_tally (by decide) rfl rfl (Nat.le_of_ble_eq_true rfl) dX8_request_65 ⟨Nat.le_refl _, Nat.le_refl _⟩ (rV fun g27 q28 => ?_)
            obtain ⟨hI29, hK30⟩ := q28
            have hK31 : Kp [1, 4, 5, 9, 10, 11, 12, 15, 16, 17, 19, 30, 31] g g27 := (Kp.rf).tr hK30 (by decide)
            refine m_aload_n C dX8_request_68 2 rfl ?_
            refine m_iconst C (0 : Int32) dX8_request_69 (by decide) ?_
            refine m_iload_n C dX8_request_70 3 rfl ?_
            refine m_iload_n C dX8_request_71 4 rfl ?_
            refine m_iload_n C dX8_request_72 5 rfl ?_
            refine m_iload C dX8_request_73 0 rfl ?_
            have t32 : (0 : Int32).toInt = 0 := by decide
            refine m_invV C cal_X8_writeEntry sh_0 rfl (c_X8_writeEntry l hX g27 (0 : Int32) a o q r19 hI29) lk_X8_114 im_X8_writeEntry se_X8_writeEntry (by decide) rfl rfl (Nat.le_of_ble_eq_true rfl) dX8_request_75 ⟨Nat.le_refl _, Nat.le_refl _⟩ (rV fun g34 q35 => ?_)
            obtain ⟨hI36, hK37⟩ := q35
            have hK38 : Kp [1, 4, 5, 9, 10, 11, 12, 15, 16, 17, 19, 30, 31] g g34 := (hK31).tr hK37 (by decide)
            refine m_iload C dX8_request_78 0 rfl ?_
            exact m_iret C dX8_request_80 ⟨_, rfl, hI36, hK38, (by omega)⟩
          · skip
            have th24 := i_eq h24
            rw [show (0 : Int32).toInt = 0 by decide] at th24
            refine m_iconst C (1 : Int32) dX8_request_60 (by decide) ?_
            refine m_goto C 65 dX8_request_61 (by decide) ?_
            have t39 : (1 : Int32).toInt = 1 := by decide
            refine m_invVN C cal_X5_tally sh_1 rfl (c_X5_tally l hX g a (1 : Int32) hI (by omega)) lk_X8_110 im_X5_tally se_X5_tally (by decide) rfl rfl (Nat.le_of_ble_eq_true rfl) dX8_request_65 ⟨Nat.le_refl _, Nat.le_refl _⟩ (rV fun g41 q42 => ?_)
            obtain ⟨hI43, hK44⟩ := q42
            have hK45 : Kp [1, 4, 5, 9, 10, 11, 12, 15, 16, 17, 19, 30, 31] g g41 := (Kp.rf).tr hK44 (by decide)
            refine m_aload_n C dX8_request_68 2 rfl ?_
            refine m_iconst C (0 : Int32) dX8_request_69 (by decide) ?_
            refine m_iload_n C dX8_request_70 3 rfl ?_
            refine m_iload_n C dX8_request_71 4 rfl ?_
            refine m_iload_n C dX8_request_72 5 rfl ?_
            refine m_iload C dX8_request_73 0 rfl ?_
            have t46 : (0 : Int32).toInt = 0 := by decide
            refine m_invV C cal_X8_writeEntry sh_0 rfl (c_X8_writeEntry l hX g41 (0 : Int32) a o q r19 hI43) lk_X8_114 im_X8_writeEntry se_X8_writeEntry (by decide) rfl rfl (Nat.le_of_ble_eq_true rfl) dX8_request_75 ⟨Nat.le_refl _, Nat.le_refl _⟩ (rV fun g48 q49 => ?_)
            obtain ⟨hI50, hK51⟩ := q49
            have hK52 : Kp [1, 4, 5, 9, 10, 11, 12, 15, 16, 17, 19, 30, 31] g g48 := (hK45).tr hK51 (by decide)
            refine m_iload C dX8_request_78 0 rfl ?_
            exact m_iret C dX8_request_80 ⟨_, rfl, hI50, hK52, (by omega)⟩
        · skip
          have th18 := i_ne h18
          rw [show (0 : Int32).toInt = 0 by decide] at th18
          refine m_iload C dX8_request_35 0 rfl ?_
          exact m_iret C dX8_request_37 ⟨_, rfl, hI, Kp.rf, (by omega)⟩
      · skip
        subst g10
        refine m_if_ne C 24 dX8_request_18 (by decide) (fun h => absurd (by decide) h) (fun _ => ?_)
        refine m_bipush C (-2 : Int32) dX8_request_21 (by decide) ?_
        exact m_iret C dX8_request_23 ⟨_, rfl, hI, Kp.rf, (by have hl : (-2 : Int32).toInt = -2 := (by decide); omega)⟩
    · skip
      subst g6
      refine m_if_eq C 21 dX8_request_11 (by decide) (fun _ => ?_) (fun h => absurd (by decide) h)
      refine m_bipush C (-2 : Int32) dX8_request_21 (by decide) ?_
      exact m_iret C dX8_request_23 ⟨_, rfl, hI, Kp.rf, (by have hl : (-2 : Int32).toInt = -2 := (by decide); omega)⟩
  · skip
    subst g2
    refine m_if_eq C 21 dX8_request_4 (by decide) (fun _ => ?_) (fun h => absurd (by decide) h)
    refine m_bipush C (-2 : Int32) dX8_request_21 (by decide) ?_
    exact m_iret C dX8_request_23 ⟨_, rfl, hI, Kp.rf, (by have hl : (-2 : Int32).toInt = -2 := (by decide); omega)⟩
set_option maxRecDepth 20000 in
set_option maxHeartbeats 4000000 in
theorem c_X8_give_f (l : Launch) {X : XT} (hX : Lok X) (g : Mem) (pt : Int32) (o : Int32) (q : Int32) (hI : Inv g) (hF : FX g) : Ctr l X yX8_give cX8_give 4 (some .int) (rmD 8) [.ref (aL X 0), .int pt, .int o, .int q] g (pI (fun r g2 => Inv g2 ∧ Kp [8, 9, 10, 11, 12, 15, 16, 17, 19, 30, 31] g g2 ∧ ((r.toInt = 1 ∧ (((0 ≤ pt.toInt ∧ pt.toInt ≤ 11) ∨ (16 ≤ pt.toInt ∧ pt.toInt ≤ 19)) ∧ 0 ≤ o.toInt ∧ o.toInt ≤ 15 ∧ 0 ≤ q.toInt ∧ q.toInt ≤ 3)) ∨ (r.toInt = -2 ∧ ¬ (((0 ≤ pt.toInt ∧ pt.toInt ≤ 11) ∨ (16 ≤ pt.toInt ∧ pt.toInt ≤ 19)) ∧ 0 ≤ o.toInt ∧ o.toInt ≤ 15 ∧ 0 ≤ q.toInt ∧ q.toInt ≤ 3))))) := by
  refine Ctr.of (lv := [(0, .ref (aL X 0)), (1, .int pt), (2, .int o), (3, .int q)]) hX (by decide) rfl (Nat.le_of_ble_eq_true rfl) ?_
  intro p e s m below meth c C
  have zf0 := hF.t 16 4 (by decide)
  have zf1 := hF.t 20 5 (by decide)
  have zf2 := hF.t 30 1 (by decide)
  have zf3 := hF.t 30 2 (by decide)
  have zf4 := hF.t 0 10 (by decide)
  refine m_aload_n C dX8_give_0 0 rfl ?_
  refine m_iload_n C dX8_give_1 1 rfl ?_
  refine m_iload_n C dX8_give_2 2 rfl ?_
  refine m_iload_n C dX8_give_3 3 rfl ?_
  refine m_iconst C (1 : Int32) dX8_give_4 (by decide) ?_
  have t1 : (1 : Int32).toInt = 1 := by decide
  refine m_invV C cal_X8_setGiven sh_0 rfl (c_X8_setGiven_f l hX g pt o q (1 : Int32) hI (by first | exact Or.inl rfl | exact Or.inr rfl) hF) lk_X8_118 im_X8_setGiven se_X8_setGiven (by decide) rfl rfl (Nat.le_of_ble_eq_true rfl) dX8_give_5 ⟨Nat.le_refl _, Nat.le_refl _⟩ (rI fun r2 g3 q4 => ?_)
  obtain ⟨hI5, hK6, p7⟩ := q4
  have hK8 : Kp [8, 9, 10, 11, 12, 15, 16, 17, 19, 30, 31] g g3 := (Kp.rf).tr hK6 (by decide)
  exact m_iret C dX8_give_8 ⟨_, rfl, hI5, hK8, (by omega)⟩
set_option maxRecDepth 20000 in
set_option maxHeartbeats 4000000 in
theorem c_X8_take_f (l : Launch) {X : XT} (hX : Lok X) (g : Mem) (pt : Int32) (o : Int32) (q : Int32) (hI : Inv g) (hF : FX g) : Ctr l X yX8_take cX8_take 4 (some .int) (rmD 8) [.ref (aL X 0), .int pt, .int o, .int q] g (pI (fun r g2 => Inv g2 ∧ Kp [8, 9, 10, 11, 12, 15, 16, 17, 19, 30, 31] g g2 ∧ ((r.toInt = 0 ∧ (((0 ≤ pt.toInt ∧ pt.toInt ≤ 11) ∨ (16 ≤ pt.toInt ∧ pt.toInt ≤ 19)) ∧ 0 ≤ o.toInt ∧ o.toInt ≤ 15 ∧ 0 ≤ q.toInt ∧ q.toInt ≤ 3)) ∨ (r.toInt = -2 ∧ ¬ (((0 ≤ pt.toInt ∧ pt.toInt ≤ 11) ∨ (16 ≤ pt.toInt ∧ pt.toInt ≤ 19)) ∧ 0 ≤ o.toInt ∧ o.toInt ≤ 15 ∧ 0 ≤ q.toInt ∧ q.toInt ≤ 3))))) := by
  refine Ctr.of (lv := [(0, .ref (aL X 0)), (1, .int pt), (2, .int o), (3, .int q)]) hX (by decide) rfl (Nat.le_of_ble_eq_true rfl) ?_
  intro p e s m below meth c C
  have zf0 := hF.t 16 4 (by decide)
  have zf1 := hF.t 20 5 (by decide)
  have zf2 := hF.t 30 1 (by decide)
  have zf3 := hF.t 30 2 (by decide)
  have zf4 := hF.t 0 10 (by decide)
  refine m_aload_n C dX8_take_0 0 rfl ?_
  refine m_iload_n C dX8_take_1 1 rfl ?_
  refine m_iload_n C dX8_take_2 2 rfl ?_
  refine m_iload_n C dX8_take_3 3 rfl ?_
  refine m_iconst C (0 : Int32) dX8_take_4 (by decide) ?_
  have t1 : (0 : Int32).toInt = 0 := by decide
  refine m_invV C cal_X8_setGiven sh_0 rfl (c_X8_setGiven_f l hX g pt o q (0 : Int32) hI (by first | exact Or.inl rfl | exact Or.inr rfl) hF) lk_X8_118 im_X8_setGiven se_X8_setGiven (by decide) rfl rfl (Nat.le_of_ble_eq_true rfl) dX8_take_5 ⟨Nat.le_refl _, Nat.le_refl _⟩ (rI fun r2 g3 q4 => ?_)
  obtain ⟨hI5, hK6, p7⟩ := q4
  have hK8 : Kp [8, 9, 10, 11, 12, 15, 16, 17, 19, 30, 31] g g3 := (Kp.rf).tr hK6 (by decide)
  exact m_iret C dX8_take_8 ⟨_, rfl, hI5, hK8, (by omega)⟩
set_option maxRecDepth 20000 in
set_option maxHeartbeats 4000000 in
theorem c_X8_subject_f (l : Launch) {X : XT} (hX : Lok X) (g : Mem) (a : Int32) (v : Int32) (w : Int32) (hI : Inv g) (hF : FX g) : Ctr l X yX8_subject cX8_subject 5 (some .int) (rmD 7) [.ref (aL X 0), .int a, .int v, .int w] g (pI (fun r g2 => Inv g2 ∧ Kp [2, 3, 9, 10, 11, 12, 15, 16, 17, 19, 30, 31] g g2 ∧ ((r.toInt = 1 ∧ (0 ≤ a.toInt ∧ a.toInt ≤ 11 ∧ 0 ≤ v.toInt ∧ v.toInt ≤ 7 ∧ 0 ≤ w.toInt ∧ w.toInt ≤ 3)) ∨ (r.toInt = -2 ∧ ¬ (0 ≤ a.toInt ∧ a.toInt ≤ 11 ∧ 0 ≤ v.toInt ∧ v.toInt ≤ 7 ∧ 0 ≤ w.toInt ∧ w.toInt ≤ 3))))) := by
  refine Ctr.of (lv := [(0, .ref (aL X 0)), (1, .int a), (2, .int v), (3, .int w)]) hX (by decide) rfl (Nat.le_of_ble_eq_true rfl) ?_
  intro p e s m below meth c C
  have zf0 := hF.t 16 4 (by decide)
  have zf1 := hF.t 20 5 (by decide)
  have zf2 := hF.t 30 1 (by decide)
  have zf3 := hF.t 30 2 (by decide)
  have zf4 := hF.t 0 10 (by decide)
  refine m_iload_n C dX8_subject_0 1 rfl ?_
  refine m_invS C cal_X8_isSubject (c_X8_isSubject l hX g a ) lk_X8_92 st_X8_isSubject (by decide) rfl rfl (Nat.le_of_ble_eq_true rfl) dX8_subject_1 ⟨Nat.le_refl _, Nat.le_refl _⟩ (rI fun r1 g2 q3 => ?_)
  obtain ⟨eg2, ⟨rfl, h4⟩ | ⟨rfl, h4⟩⟩ := q3
  · skip
    subst g2
    refine m_if_eq C 23 dX8_subject_4 (by decide) (fun h => absurd h (by decide)) (fun _ => ?_)
    refine m_iload_n C dX8_subject_7 2 rfl ?_
    refine m_invS C cal_X8_isLevel (c_X8_isLevel l hX g v ) lk_X8_122 st_X8_isLevel (by decide) rfl rfl (Nat.le_of_ble_eq_true rfl) dX8_subject_8 ⟨Nat.le_refl _, Nat.le_refl _⟩ (rI fun r5 g6 q7 => ?_)
    obtain ⟨eg6, ⟨rfl, h8⟩ | ⟨rfl, h8⟩⟩ := q7
    · skip
      subst g6
      refine m_if_eq C 23 dX8_subject_11 (by decide) (fun h => absurd h (by decide)) (fun _ => ?_)
      refine m_iload_n C dX8_subject_14 3 rfl ?_
      refine m_iconst C (0 : Int32) dX8_subject_15 (by decide) ?_
      refine m_iconst C (3 : Int32) dX8_subject_16 (by decide) ?_
      have t9 : (0 : Int32).toInt = 0 := by decide
      have t10 : (3 : Int32).toInt = 3 := by decide
      refine m_invS C cal_X8_within (c_X8_within l hX g w (0 : Int32) (3 : Int32) ) lk_X8_87 st_X8_within (by decide) rfl rfl (Nat.le_of_ble_eq_true rfl) dX8_subject_17 ⟨Nat.le_refl _, Nat.le_refl _⟩ (rI fun r11 g12 q13 => ?_)
      obtain ⟨eg12, ⟨rfl, h14⟩ | ⟨rfl, h14⟩⟩ := q13
      · skip
        subst g12
        refine m_if_ne C 26 dX8_subject_20 (by decide) (fun _ => ?_) (fun h => absurd h (by decide))
        refine m_aload_n C dX8_subject_26 0 rfl ?_
        refine m_invV C cal_X8_refusal sh_0 rfl (c_X8_refusal_f l hX g  hI hF) lk_X8_102 im_X8_refusal se_X8_refusal (by decide) rfl rfl (Nat.le_of_ble_eq_true rfl) dX8_subject_27 ⟨Nat.le_refl _, Nat.le_refl _⟩ (rI fun r15 g16 q17 => ?_)
        obtain ⟨eg16, p18⟩ := q17
        subst g16
        refine m_istore C [(4, .int r15), (0, .ref (aL X 0)), (1, .int a), (2, .int v), (3, .int w)] dX8_subject_30 (by decide) rfl ?_
        refine m_iload C dX8_subject_32 0 rfl ?_
        refine m_if_eq C 40 dX8_subject_34 (by decide) (fun h20 => ?_) (fun h20 => ?_)
        · skip
          have th20 := i_eq h20
          rw [show (0 : Int32).toInt = 0 by decide] at th20
          refine m_aload_n C dX8_subject_40 1 rfl ?_
          refine m_getr (rf := "") C 0 rfl gd8 (by decide) sh_0 rfl dX8_subject_41 lk_X8_12 ?_
          refine m_iload_n C dX8_subject_44 2 rfl ?_
          refine m_iload_n C dX8_subject_45 3 rfl ?_
          refine m_iload_n C dX8_subject_46 4 rfl ?_
          refine m_invVN C cal_X5_placeSubject sh_1 rfl (c_X5_placeSubject l hX g a v w hI (by omega) (by omega)) lk_X8_125 im_X5_placeSubject se_X5_placeSubject (by decide) rfl rfl (Nat.le_of_ble_eq_true rfl) dX8_subject_47 ⟨Nat.le_refl _, Nat.le_refl _⟩ (rV fun g22 q23 => ?_)
          obtain ⟨hI24, hK25⟩ := q23
          have hK26 : Kp [2, 3, 9, 10, 11, 12, 15, 16, 17, 19, 30, 31] g g22 := (Kp.rf).tr hK25 (by decide)
          refine m_aload_n C dX8_subject_50 1 rfl ?_
          refine m_iconst C (3 : Int32) dX8_subject_51 (by decide) ?_
          refine m_iload_n C dX8_subject_52 2 rfl ?_
          refine m_iload_n C dX8_subject_53 3 rfl ?_
          refine m_iload_n C dX8_subject_54 4 rfl ?_
          refine m_iconst C (0 : Int32) dX8_subject_55 (by decide) ?_
          have t27 : (3 : Int32).toInt = 3 := by decide
          have t28 : (0 : Int32).toInt = 0 := by decide
          refine m_invV C cal_X8_writeEntry sh_0 rfl (c_X8_writeEntry l hX g22 (3 : Int32) a v w (0 : Int32) hI24) lk_X8_114 im_X8_writeEntry se_X8_writeEntry (by decide) rfl rfl (Nat.le_of_ble_eq_true rfl) dX8_subject_56 ⟨Nat.le_refl _, Nat.le_refl _⟩ (rV fun g30 q31 => ?_)
          obtain ⟨hI32, hK33⟩ := q31
          have hK34 : Kp [2, 3, 9, 10, 11, 12, 15, 16, 17, 19, 30, 31] g g30 := (hK26).tr hK33 (by decide)
          refine m_iconst C (1 : Int32) dX8_subject_59 (by decide) ?_
          exact m_iret C dX8_subject_60 ⟨_, rfl, hI32, hK34, (by have hl : (1 : Int32).toInt = 1 := (by decide); omega)⟩
        · skip
          have th20 := i_ne h20
          rw [show (0 : Int32).toInt = 0 by decide] at th20
          refine m_iload C dX8_subject_37 0 rfl ?_
          exact m_iret C dX8_subject_39 ⟨_, rfl, hI, Kp.rf, (by omega)⟩
      · skip
        subst g12
        refine m_if_ne C 26 dX8_subject_20 (by decide) (fun h => absurd (by decide) h) (fun _ => ?_)
        refine m_bipush C (-2 : Int32) dX8_subject_23 (by decide) ?_
        exact m_iret C dX8_subject_25 ⟨_, rfl, hI, Kp.rf, (by have hl : (-2 : Int32).toInt = -2 := (by decide); omega)⟩
    · skip
      subst g6
      refine m_if_eq C 23 dX8_subject_11 (by decide) (fun _ => ?_) (fun h => absurd (by decide) h)
      refine m_bipush C (-2 : Int32) dX8_subject_23 (by decide) ?_
      exact m_iret C dX8_subject_25 ⟨_, rfl, hI, Kp.rf, (by have hl : (-2 : Int32).toInt = -2 := (by decide); omega)⟩
  · skip
    subst g2
    refine m_if_eq C 23 dX8_subject_4 (by decide) (fun _ => ?_) (fun h => absurd (by decide) h)
    refine m_bipush C (-2 : Int32) dX8_subject_23 (by decide) ?_
    exact m_iret C dX8_subject_25 ⟨_, rfl, hI, Kp.rf, (by have hl : (-2 : Int32).toInt = -2 := (by decide); omega)⟩
set_option maxRecDepth 20000 in
set_option maxHeartbeats 4000000 in
theorem c_X8_object_f (l : Launch) {X : XT} (hX : Lok X) (g : Mem) (o : Int32) (v : Int32) (w : Int32) (hI : Inv g) (hF : FX g) : Ctr l X yX8_object cX8_object 5 (some .int) (rmD 7) [.ref (aL X 0), .int o, .int v, .int w] g (pI (fun r g2 => Inv g2 ∧ Kp [6, 7, 9, 10, 11, 12, 15, 16, 17, 19, 30, 31] g g2 ∧ ((r.toInt = 1 ∧ (0 ≤ o.toInt ∧ o.toInt ≤ 15 ∧ 0 ≤ v.toInt ∧ v.toInt ≤ 7 ∧ 0 ≤ w.toInt ∧ w.toInt ≤ 11)) ∨ (r.toInt = -2 ∧ ¬ (0 ≤ o.toInt ∧ o.toInt ≤ 15 ∧ 0 ≤ v.toInt ∧ v.toInt ≤ 7 ∧ 0 ≤ w.toInt ∧ w.toInt ≤ 11))))) := by
  refine Ctr.of (lv := [(0, .ref (aL X 0)), (1, .int o), (2, .int v), (3, .int w)]) hX (by decide) rfl (Nat.le_of_ble_eq_true rfl) ?_
  intro p e s m below meth c C
  have zf0 := hF.t 16 4 (by decide)
  have zf1 := hF.t 20 5 (by decide)
  have zf2 := hF.t 30 1 (by decide)
  have zf3 := hF.t 30 2 (by decide)
  have zf4 := hF.t 0 10 (by decide)
  refine m_iload_n C dX8_object_0 1 rfl ?_
  refine m_invS C cal_X8_isObject (c_X8_isObject l hX g o ) lk_X8_96 st_X8_isObject (by decide) rfl rfl (Nat.le_of_ble_eq_true rfl) dX8_object_1 ⟨Nat.le_refl _, Nat.le_refl _⟩ (rI fun r1 g2 q3 => ?_)
  obtain ⟨eg2, ⟨rfl, h4⟩ | ⟨rfl, h4⟩⟩ := q3
  · skip
    subst g2
    refine m_if_eq C 21 dX8_object_4 (by decide) (fun h => absurd h (by decide)) (fun _ => ?_)
    refine m_iload_n C dX8_object_7 2 rfl ?_
    refine m_invS C cal_X8_isLevel (c_X8_isLevel l hX g v ) lk_X8_122 st_X8_isLevel (by decide) rfl rfl (Nat.le_of_ble_eq_true rfl) dX8_object_8 ⟨Nat.le_refl _, Nat.le_refl _⟩ (rI fun r5 g6 q7 => ?_)
    obtain ⟨eg6, ⟨rfl, h8⟩ | ⟨rfl, h8⟩⟩ := q7
    · skip
      subst g6
      refine m_if_eq C 21 dX8_object_11 (by decide) (fun h => absurd h (by decide)) (fun _ => ?_)
      refine m_iload_n C dX8_object_14 3 rfl ?_
      refine m_invS C cal_X8_isSubject (c_X8_isSubject l hX g w ) lk_X8_92 st_X8_isSubject (by decide) rfl rfl (Nat.le_of_ble_eq_true rfl) dX8_object_15 ⟨Nat.le_refl _, Nat.le_refl _⟩ (rI fun r9 g10 q11 => ?_)
      obtain ⟨eg10, ⟨rfl, h12⟩ | ⟨rfl, h12⟩⟩ := q11
      · skip
        subst g10
        refine m_if_ne C 24 dX8_object_18 (by decide) (fun _ => ?_) (fun h => absurd h (by decide))
        refine m_aload_n C dX8_object_24 0 rfl ?_
        refine m_invV C cal_X8_refusal sh_0 rfl (c_X8_refusal_f l hX g  hI hF) lk_X8_102 im_X8_refusal se_X8_refusal (by decide) rfl rfl (Nat.le_of_ble_eq_true rfl) dX8_object_25 ⟨Nat.le_refl _, Nat.le_refl _⟩ (rI fun r13 g14 q15 => ?_)
        obtain ⟨eg14, p16⟩ := q15
        subst g14
        refine m_istore C [(4, .int r13), (0, .ref (aL X 0)), (1, .int o), (2, .int v), (3, .int w)] dX8_object_28 (by decide) rfl ?_
        refine m_iload C dX8_object_30 0 rfl ?_
        refine m_if_eq C 38 dX8_object_32 (by decide) (fun h18 => ?_) (fun h18 => ?_)
        · skip
          have th18 := i_eq h18
          rw [show (0 : Int32).toInt = 0 by decide] at th18
          refine m_aload_n C dX8_object_38 1 rfl ?_
          refine m_getr (rf := "") C 0 rfl gd8 (by decide) sh_0 rfl dX8_object_39 lk_X8_12 ?_
          refine m_iload_n C dX8_object_42 2 rfl ?_
          refine m_iload_n C dX8_object_43 3 rfl ?_
          refine m_iload_n C dX8_object_44 4 rfl ?_
          refine m_invVN C cal_X5_placeObject sh_1 rfl (c_X5_placeObject l hX g o v w hI (by omega)) lk_X8_129 im_X5_placeObject se_X5_placeObject (by decide) rfl rfl (Nat.le_of_ble_eq_true rfl) dX8_object_45 ⟨Nat.le_refl _, Nat.le_refl _⟩ (rV fun g20 q21 => ?_)
          obtain ⟨hI22, hK23⟩ := q21
          have hK24 : Kp [6, 7, 9, 10, 11, 12, 15, 16, 17, 19, 30, 31] g g20 := (Kp.rf).tr hK23 (by decide)
          refine m_aload_n C dX8_object_48 1 rfl ?_
          refine m_iconst C (4 : Int32) dX8_object_49 (by decide) ?_
          refine m_iload_n C dX8_object_50 2 rfl ?_
          refine m_iload_n C dX8_object_51 3 rfl ?_
          refine m_iload_n C dX8_object_52 4 rfl ?_
          refine m_iconst C (0 : Int32) dX8_object_53 (by decide) ?_
          have t25 : (4 : Int32).toInt = 4 := by decide
          have t26 : (0 : Int32).toInt = 0 := by decide
          refine m_invV C cal_X8_writeEntry sh_0 rfl (c_X8_writeEntry l hX g20 (4 : Int32) o v w (0 : Int32) hI22) lk_X8_114 im_X8_writeEntry se_X8_writeEntry (by decide) rfl rfl (Nat.le_of_ble_eq_true rfl) dX8_object_54 ⟨Nat.le_refl _, Nat.le_refl _⟩ (rV fun g28 q29 => ?_)
          obtain ⟨hI30, hK31⟩ := q29
          have hK32 : Kp [6, 7, 9, 10, 11, 12, 15, 16, 17, 19, 30, 31] g g28 := (hK24).tr hK31 (by decide)
          refine m_iconst C (1 : Int32) dX8_object_57 (by decide) ?_
          exact m_iret C dX8_object_58 ⟨_, rfl, hI30, hK32, (by have hl : (1 : Int32).toInt = 1 := (by decide); omega)⟩
        · skip
          have th18 := i_ne h18
          rw [show (0 : Int32).toInt = 0 by decide] at th18
          refine m_iload C dX8_object_35 0 rfl ?_
          exact m_iret C dX8_object_37 ⟨_, rfl, hI, Kp.rf, (by omega)⟩
      · skip
        subst g10
        refine m_if_ne C 24 dX8_object_18 (by decide) (fun h => absurd (by decide) h) (fun _ => ?_)
        refine m_bipush C (-2 : Int32) dX8_object_21 (by decide) ?_
        exact m_iret C dX8_object_23 ⟨_, rfl, hI, Kp.rf, (by have hl : (-2 : Int32).toInt = -2 := (by decide); omega)⟩
    · skip
      subst g6
      refine m_if_eq C 21 dX8_object_11 (by decide) (fun _ => ?_) (fun h => absurd (by decide) h)
      refine m_bipush C (-2 : Int32) dX8_object_21 (by decide) ?_
      exact m_iret C dX8_object_23 ⟨_, rfl, hI, Kp.rf, (by have hl : (-2 : Int32).toInt = -2 := (by decide); omega)⟩
  · skip
    subst g2
    refine m_if_eq C 21 dX8_object_4 (by decide) (fun _ => ?_) (fun h => absurd (by decide) h)
    refine m_bipush C (-2 : Int32) dX8_object_21 (by decide) ?_
    exact m_iret C dX8_object_23 ⟨_, rfl, hI, Kp.rf, (by have hl : (-2 : Int32).toInt = -2 := (by decide); omega)⟩
set_option maxRecDepth 20000 in
set_option maxHeartbeats 4000000 in
theorem c_X8_unlock_f (l : Launch) {X : XT} (hX : Lok X) (g : Mem) (a : Int32) (hI : Inv g) (hF : FX g) : Ctr l X yX8_unlock cX8_unlock 4 (some .int) (rmD 7) [.ref (aL X 0), .int a] g (pI (fun r g2 => Inv g2 ∧ Kp [4, 5, 9, 10, 11, 12, 15, 16, 17, 19, 30, 31] g g2 ∧ ((r.toInt = 0 ∧ (0 ≤ a.toInt ∧ a.toInt ≤ 11)) ∨ (r.toInt = -2 ∧ ¬ (0 ≤ a.toInt ∧ a.toInt ≤ 11))))) := by
  refine Ctr.of (lv := [(0, .ref (aL X 0)), (1, .int a)]) hX (by decide) rfl (Nat.le_of_ble_eq_true rfl) ?_
  intro p e s m below meth c C
  have zf0 := hF.t 16 4 (by decide)
  have zf1 := hF.t 20 5 (by decide)
  have zf2 := hF.t 30 1 (by decide)
  have zf3 := hF.t 30 2 (by decide)
  have zf4 := hF.t 0 10 (by decide)
  refine m_iload_n C dX8_unlock_0 1 rfl ?_
  refine m_invS C cal_X8_isSubject (c_X8_isSubject l hX g a ) lk_X8_92 st_X8_isSubject (by decide) rfl rfl (Nat.le_of_ble_eq_true rfl) dX8_unlock_1 ⟨Nat.le_refl _, Nat.le_refl _⟩ (rI fun r1 g2 q3 => ?_)
  obtain ⟨eg2, ⟨rfl, h4⟩ | ⟨rfl, h4⟩⟩ := q3
  · skip
    subst g2
    refine m_if_ne C 10 dX8_unlock_4 (by decide) (fun _ => ?_) (fun h => absurd h (by decide))
    refine m_aload_n C dX8_unlock_10 0 rfl ?_
    refine m_invV C cal_X8_refusal sh_0 rfl (c_X8_refusal_f l hX g  hI hF) lk_X8_102 im_X8_refusal se_X8_refusal (by decide) rfl rfl (Nat.le_of_ble_eq_true rfl) dX8_unlock_11 ⟨Nat.le_refl _, Nat.le_refl _⟩ (rI fun r5 g6 q7 => ?_)
    obtain ⟨eg6, p8⟩ := q7
    subst g6
    refine m_istore_n C [(2, .int r5), (0, .ref (aL X 0)), (1, .int a)] dX8_unlock_14 (by decide) rfl ?_
    refine m_iload_n C dX8_unlock_15 0 rfl ?_
    refine m_if_eq C 21 dX8_unlock_16 (by decide) (fun h10 => ?_) (fun h10 => ?_)
    · skip
      have th10 := i_eq h10
      rw [show (0 : Int32).toInt = 0 by decide] at th10
      refine m_aload_n C dX8_unlock_21 1 rfl ?_
      refine m_getr (rf := "") C 0 rfl gd8 (by decide) sh_0 rfl dX8_unlock_22 lk_X8_12 ?_
      refine m_iload_n C dX8_unlock_25 2 rfl ?_
      refine m_invVN C cal_X5_release sh_1 rfl (c_X5_release_f l hX g a hI (by omega) hF) lk_X8_132 im_X5_release se_X5_release (by decide) rfl rfl (Nat.le_of_ble_eq_true rfl) dX8_unlock_26 ⟨Nat.le_refl _, Nat.le_refl _⟩ (rI fun r11 g12 q13 => ?_)
      obtain ⟨hI14, hK15, p16⟩ := q13
      have hK17 : Kp [4, 5, 9, 10, 11, 12, 15, 16, 17, 19, 30, 31] g g12 := (Kp.rf).tr hK15 (by decide)
      refine m_istore_n C [(3, .int r11), (2, .int r5), (0, .ref (aL X 0)), (1, .int a)] dX8_unlock_29 (by decide) rfl ?_
      refine m_aload_n C dX8_unlock_30 2 rfl ?_
      refine m_iconst C (5 : Int32) dX8_unlock_31 (by decide) ?_
      refine m_iload_n C dX8_unlock_32 3 rfl ?_
      refine m_iconst C (0 : Int32) dX8_unlock_33 (by decide) ?_
      refine m_iconst C (0 : Int32) dX8_unlock_34 (by decide) ?_
      refine m_iconst C (0 : Int32) dX8_unlock_35 (by decide) ?_
      have t19 : (5 : Int32).toInt = 5 := by decide
      have t20 : (0 : Int32).toInt = 0 := by decide
      have t21 : (0 : Int32).toInt = 0 := by decide
      have t22 : (0 : Int32).toInt = 0 := by decide
      refine m_invV C cal_X8_writeEntry sh_0 rfl (c_X8_writeEntry l hX g12 (5 : Int32) a (0 : Int32) (0 : Int32) (0 : Int32) hI14) lk_X8_114 im_X8_writeEntry se_X8_writeEntry (by decide) rfl rfl (Nat.le_of_ble_eq_true rfl) dX8_unlock_36 ⟨Nat.le_refl _, Nat.le_refl _⟩ (rV fun g24 q25 => ?_)
      obtain ⟨hI26, hK27⟩ := q25
      have hK28 : Kp [4, 5, 9, 10, 11, 12, 15, 16, 17, 19, 30, 31] g g24 := (hK17).tr hK27 (by decide)
      refine m_iload_n C dX8_unlock_39 0 rfl ?_
      refine m_if_eq C 47 dX8_unlock_40 (by decide) (fun h29 => ?_) (fun h29 => ?_)
      · skip
        have th29 := i_eq h29
        rw [show (0 : Int32).toInt = 0 by decide] at th29
        refine m_iconst C (0 : Int32) dX8_unlock_47 (by decide) ?_
        exact m_iret C dX8_unlock_48 ⟨_, rfl, hI26, hK28, (by have hl : (0 : Int32).toInt = 0 := (by decide); omega)⟩
      · skip
        have th29 := i_ne h29
        rw [show (0 : Int32).toInt = 0 by decide] at th29
        refine m_iconst C (1 : Int32) dX8_unlock_43 (by decide) ?_
        refine m_goto C 48 dX8_unlock_44 (by decide) ?_
        exact m_iret C dX8_unlock_48 ⟨_, rfl, hI26, hK28, (by have hl : (1 : Int32).toInt = 1 := (by decide); omega)⟩
    · skip
      have th10 := i_ne h10
      rw [show (0 : Int32).toInt = 0 by decide] at th10
      refine m_iload_n C dX8_unlock_19 0 rfl ?_
      exact m_iret C dX8_unlock_20 ⟨_, rfl, hI, Kp.rf, (by omega)⟩
  · skip
    subst g2
    refine m_if_ne C 10 dX8_unlock_4 (by decide) (fun h => absurd (by decide) h) (fun _ => ?_)
    refine m_bipush C (-2 : Int32) dX8_unlock_7 (by decide) ?_
    exact m_iret C dX8_unlock_9 ⟨_, rfl, hI, Kp.rf, (by have hl : (-2 : Int32).toInt = -2 := (by decide); omega)⟩
set_option maxRecDepth 20000 in
set_option maxHeartbeats 4000000 in
theorem c_X8_subjectAt_f (l : Launch) {X : XT} (hX : Lok X) (g : Mem) (a : Int32) (w : Int32) (hI : Inv g) (hF : FX g) : Ctr l X yX8_subjectAt cX8_subjectAt 3 (some .int) (rmD 2) [.ref (aL X 0), .int a, .int w] g (pI (fun r g2 => g2 = g ∧ ((r.toInt = 0 ∧ (0 ≤ a.toInt ∧ a.toInt ≤ 11 ∧ 0 ≤ w.toInt ∧ w.toInt ≤ 3)) ∨ (r.toInt = -2 ∧ ¬ (0 ≤ a.toInt ∧ a.toInt ≤ 11 ∧ 0 ≤ w.toInt ∧ w.toInt ≤ 3))))) := by
  refine Ctr.of (lv := [(0, .ref (aL X 0)), (1, .int a), (2, .int w)]) hX (by decide) rfl (Nat.le_of_ble_eq_true rfl) ?_
  intro p e s m below meth c C
  have zf0 := hF.t 16 4 (by decide)
  have zf1 := hF.t 20 5 (by decide)
  have zf2 := hF.t 30 1 (by decide)
  have zf3 := hF.t 30 2 (by decide)
  have zf4 := hF.t 0 10 (by decide)
  refine m_iload_n C dX8_subjectAt_0 1 rfl ?_
  refine m_invS C cal_X8_isSubject (c_X8_isSubject l hX g a ) lk_X8_92 st_X8_isSubject (by decide) rfl rfl (Nat.le_of_ble_eq_true rfl) dX8_subjectAt_1 ⟨Nat.le_refl _, Nat.le_refl _⟩ (rI fun r1 g2 q3 => ?_)
  obtain ⟨eg2, ⟨rfl, h4⟩ | ⟨rfl, h4⟩⟩ := q3
  · skip
    subst g2
    refine m_if_ne C 10 dX8_subjectAt_4 (by decide) (fun _ => ?_) (fun h => absurd h (by decide))
    refine m_aload_n C dX8_subjectAt_10 0 rfl ?_
    refine m_getr (rf := "") C 0 rfl gd8 (by decide) sh_0 rfl dX8_subjectAt_11 lk_X8_12 ?_
    refine m_iload_n C dX8_subjectAt_14 1 rfl ?_
    refine m_iload_n C dX8_subjectAt_15 2 rfl ?_
    refine m_invVN C cal_X5_ofSubject sh_1 rfl (c_X5_ofSubject_f l hX g a w hI (by omega) hF) lk_X8_135 im_X5_ofSubject se_X5_ofSubject (by decide) rfl rfl (Nat.le_of_ble_eq_true rfl) dX8_subjectAt_16 ⟨Nat.le_refl _, Nat.le_refl _⟩ (rI fun r5 g6 q7 => ?_)
    obtain ⟨eg6, p8⟩ := q7
    subst g6
    exact m_iret C dX8_subjectAt_19 ⟨_, rfl, rfl, (by omega)⟩
  · skip
    subst g2
    refine m_if_ne C 10 dX8_subjectAt_4 (by decide) (fun h => absurd (by decide) h) (fun _ => ?_)
    refine m_bipush C (-2 : Int32) dX8_subjectAt_7 (by decide) ?_
    exact m_iret C dX8_subjectAt_9 ⟨_, rfl, rfl, (by have hl : (-2 : Int32).toInt = -2 := (by decide); omega)⟩
set_option maxRecDepth 20000 in
set_option maxHeartbeats 4000000 in
theorem c_X8_objectAt_f (l : Launch) {X : XT} (hX : Lok X) (g : Mem) (o : Int32) (w : Int32) (hI : Inv g) (hF : FX g) : Ctr l X yX8_objectAt cX8_objectAt 3 (some .int) (rmD 2) [.ref (aL X 0), .int o, .int w] g (pI (fun r g2 => g2 = g ∧ ((r.toInt = 0 ∧ (0 ≤ o.toInt ∧ o.toInt ≤ 15 ∧ 0 ≤ w.toInt ∧ w.toInt ≤ 1)) ∨ (r.toInt = -2 ∧ ¬ (0 ≤ o.toInt ∧ o.toInt ≤ 15 ∧ 0 ≤ w.toInt ∧ w.toInt ≤ 1))))) := by
  refine Ctr.of (lv := [(0, .ref (aL X 0)), (1, .int o), (2, .int w)]) hX (by decide) rfl (Nat.le_of_ble_eq_true rfl) ?_
  intro p e s m below meth c C
  have zf0 := hF.t 16 4 (by decide)
  have zf1 := hF.t 20 5 (by decide)
  have zf2 := hF.t 30 1 (by decide)
  have zf3 := hF.t 30 2 (by decide)
  have zf4 := hF.t 0 10 (by decide)
  refine m_iload_n C dX8_objectAt_0 1 rfl ?_
  refine m_invS C cal_X8_isObject (c_X8_isObject l hX g o ) lk_X8_96 st_X8_isObject (by decide) rfl rfl (Nat.le_of_ble_eq_true rfl) dX8_objectAt_1 ⟨Nat.le_refl _, Nat.le_refl _⟩ (rI fun r1 g2 q3 => ?_)
  obtain ⟨eg2, ⟨rfl, h4⟩ | ⟨rfl, h4⟩⟩ := q3
  · skip
    subst g2
    refine m_if_ne C 10 dX8_objectAt_4 (by decide) (fun _ => ?_) (fun h => absurd h (by decide))
    refine m_aload_n C dX8_objectAt_10 0 rfl ?_
    refine m_getr (rf := "") C 0 rfl gd8 (by decide) sh_0 rfl dX8_objectAt_11 lk_X8_12 ?_
    refine m_iload_n C dX8_objectAt_14 1 rfl ?_
    refine m_iload_n C dX8_objectAt_15 2 rfl ?_
    refine m_invVN C cal_X5_ofObject sh_1 rfl (c_X5_ofObject_f l hX g o w hI (by omega) hF) lk_X8_139 im_X5_ofObject se_X5_ofObject (by decide) rfl rfl (Nat.le_of_ble_eq_true rfl) dX8_objectAt_16 ⟨Nat.le_refl _, Nat.le_refl _⟩ (rI fun r5 g6 q7 => ?_)
    obtain ⟨eg6, p8⟩ := q7
    subst g6
    exact m_iret C dX8_objectAt_19 ⟨_, rfl, rfl, (by omega)⟩
  · skip
    subst g2
    refine m_if_ne C 10 dX8_objectAt_4 (by decide) (fun h => absurd (by decide) h) (fun _ => ?_)
    refine m_bipush C (-2 : Int32) dX8_objectAt_7 (by decide) ?_
    exact m_iret C dX8_objectAt_9 ⟨_, rfl, rfl, (by have hl : (-2 : Int32).toInt = -2 := (by decide); omega)⟩
set_option maxRecDepth 20000 in
set_option maxHeartbeats 4000000 in
theorem c_X8_given_f (l : Launch) {X : XT} (hX : Lok X) (g : Mem) (pt : Int32) (o : Int32) (q : Int32) (hI : Inv g) (hF : FX g) : Ctr l X yX8_given cX8_given 4 (some .int) (rmD 3) [.ref (aL X 0), .int pt, .int o, .int q] g (pI (fun r g2 => g2 = g ∧ ((r.toInt = 0 ∧ (((0 ≤ pt.toInt ∧ pt.toInt ≤ 11) ∨ (16 ≤ pt.toInt ∧ pt.toInt ≤ 19)) ∧ 0 ≤ o.toInt ∧ o.toInt ≤ 15 ∧ 0 ≤ q.toInt ∧ q.toInt ≤ 3)) ∨ (r.toInt = -2 ∧ ¬ (((0 ≤ pt.toInt ∧ pt.toInt ≤ 11) ∨ (16 ≤ pt.toInt ∧ pt.toInt ≤ 19)) ∧ 0 ≤ o.toInt ∧ o.toInt ≤ 15 ∧ 0 ≤ q.toInt ∧ q.toInt ≤ 3))))) := by
  refine Ctr.of (lv := [(0, .ref (aL X 0)), (1, .int pt), (2, .int o), (3, .int q)]) hX (by decide) rfl (Nat.le_of_ble_eq_true rfl) ?_
  intro p e s m below meth c C
  have zf0 := hF.t 16 4 (by decide)
  have zf1 := hF.t 20 5 (by decide)
  have zf2 := hF.t 30 1 (by decide)
  have zf3 := hF.t 30 2 (by decide)
  have zf4 := hF.t 0 10 (by decide)
  refine m_iload_n C dX8_given_0 1 rfl ?_
  refine m_invS C cal_X8_isParty (c_X8_isParty l hX g pt ) lk_X8_142 st_X8_isParty (by decide) rfl rfl (Nat.le_of_ble_eq_true rfl) dX8_given_1 ⟨Nat.le_refl _, Nat.le_refl _⟩ (rI fun r1 g2 q3 => ?_)
  obtain ⟨eg2, ⟨rfl, h4⟩ | ⟨rfl, h4⟩⟩ := q3
  · skip
    subst g2
    refine m_if_eq C 21 dX8_given_4 (by decide) (fun h => absurd h (by decide)) (fun _ => ?_)
    refine m_iload_n C dX8_given_7 2 rfl ?_
    refine m_invS C cal_X8_isObject (c_X8_isObject l hX g o ) lk_X8_96 st_X8_isObject (by decide) rfl rfl (Nat.le_of_ble_eq_true rfl) dX8_given_8 ⟨Nat.le_refl _, Nat.le_refl _⟩ (rI fun r5 g6 q7 => ?_)
    obtain ⟨eg6, ⟨rfl, h8⟩ | ⟨rfl, h8⟩⟩ := q7
    · skip
      subst g6
      refine m_if_eq C 21 dX8_given_11 (by decide) (fun h => absurd h (by decide)) (fun _ => ?_)
      refine m_iload_n C dX8_given_14 3 rfl ?_
      refine m_invS C cal_X8_isRight (c_X8_isRight l hX g q ) lk_X8_99 st_X8_isRight (by decide) rfl rfl (Nat.le_of_ble_eq_true rfl) dX8_given_15 ⟨Nat.le_refl _, Nat.le_refl _⟩ (rI fun r9 g10 q11 => ?_)
      obtain ⟨eg10, ⟨rfl, h12⟩ | ⟨rfl, h12⟩⟩ := q11
      · skip
        subst g10
        refine m_if_ne C 24 dX8_given_18 (by decide) (fun _ => ?_) (fun h => absurd h (by decide))
        refine m_aload_n C dX8_given_24 0 rfl ?_
        refine m_getr (rf := "") C 0 rfl gd8 (by decide) sh_0 rfl dX8_given_25 lk_X8_12 ?_
        refine m_iload_n C dX8_given_28 1 rfl ?_
        refine m_iload_n C dX8_given_29 2 rfl ?_
        refine m_iload_n C dX8_given_30 3 rfl ?_
        refine m_invVN C cal_X5_hasBeenGiven sh_1 rfl (c_X5_hasBeenGiven_f l hX g pt o q hI (by omega) (by omega) (by omega) hF) lk_X8_145 im_X5_hasBeenGiven se_X5_hasBeenGiven (by decide) rfl rfl (Nat.le_of_ble_eq_true rfl) dX8_given_31 ⟨Nat.le_refl _, Nat.le_refl _⟩ (rI fun r13 g14 q15 => ?_)
        obtain ⟨eg14, p16⟩ := q15
        subst g14
        refine m_if_eq C 41 dX8_given_34 (by decide) (fun h17 => ?_) (fun h17 => ?_)
        · skip
          have th17 := i_eq h17
          rw [show (0 : Int32).toInt = 0 by decide] at th17
          refine m_iconst C (0 : Int32) dX8_given_41 (by decide) ?_
          exact m_iret C dX8_given_42 ⟨_, rfl, rfl, (by have hl : (0 : Int32).toInt = 0 := (by decide); omega)⟩
        · skip
          have th17 := i_ne h17
          rw [show (0 : Int32).toInt = 0 by decide] at th17
          refine m_iconst C (1 : Int32) dX8_given_37 (by decide) ?_
          refine m_goto C 42 dX8_given_38 (by decide) ?_
          exact m_iret C dX8_given_42 ⟨_, rfl, rfl, (by have hl : (1 : Int32).toInt = 1 := (by decide); omega)⟩
      · skip
        subst g10
        refine m_if_ne C 24 dX8_given_18 (by decide) (fun h => absurd (by decide) h) (fun _ => ?_)
        refine m_bipush C (-2 : Int32) dX8_given_21 (by decide) ?_
        exact m_iret C dX8_given_23 ⟨_, rfl, rfl, (by have hl : (-2 : Int32).toInt = -2 := (by decide); omega)⟩
    · skip
      subst g6
      refine m_if_eq C 21 dX8_given_11 (by decide) (fun _ => ?_) (fun h => absurd (by decide) h)
      refine m_bipush C (-2 : Int32) dX8_given_21 (by decide) ?_
      exact m_iret C dX8_given_23 ⟨_, rfl, rfl, (by have hl : (-2 : Int32).toInt = -2 := (by decide); omega)⟩
  · skip
    subst g2
    refine m_if_eq C 21 dX8_given_4 (by decide) (fun _ => ?_) (fun h => absurd (by decide) h)
    refine m_bipush C (-2 : Int32) dX8_given_21 (by decide) ?_
    exact m_iret C dX8_given_23 ⟨_, rfl, rfl, (by have hl : (-2 : Int32).toInt = -2 := (by decide); omega)⟩
set_option maxRecDepth 20000 in
set_option maxHeartbeats 4000000 in
theorem c_X8_entry_f (l : Launch) {X : XT} (hX : Lok X) (g : Mem) (i0 : Int32) (kk : Int32) (hI : Inv g) (hF : FX g) : Ctr l X yX8_entry cX8_entry 3 (some .int) (rmD 2) [.ref (aL X 0), .int i0, .int kk] g (pI (fun r g2 => g2 = g ∧ (r.toInt = -2))) := by
  refine Ctr.of (lv := [(0, .ref (aL X 0)), (1, .int i0), (2, .int kk)]) hX (by decide) rfl (Nat.le_of_ble_eq_true rfl) ?_
  intro p e s m below meth c C
  have zf0 := hF.t 16 4 (by decide)
  have zf1 := hF.t 20 5 (by decide)
  have zf2 := hF.t 30 1 (by decide)
  have zf3 := hF.t 30 2 (by decide)
  have zf4 := hF.t 0 10 (by decide)
  refine m_aload_n C dX8_entry_0 0 rfl ?_
  refine m_iload_n C dX8_entry_1 1 rfl ?_
  refine m_invV C cal_X8_isEntry sh_0 rfl (c_X8_isEntry l hX g i0 hI) lk_X8_148 im_X8_isEntry se_X8_isEntry (by decide) rfl rfl (Nat.le_of_ble_eq_true rfl) dX8_entry_2 ⟨Nat.le_refl _, Nat.le_refl _⟩ (rI fun r1 g2 q3 => ?_)
  obtain ⟨eg2, ⟨rfl, h4⟩ | ⟨rfl, h4⟩⟩ := q3
  · skip
    subst g2
    have r5 := iv_size hI
    refine m_if_eq C 18 dX8_entry_5 (by decide) (fun h => absurd h (by decide)) (fun _ => ?_)
    refine m_iload_n C dX8_entry_8 2 rfl ?_
    refine m_iconst C (0 : Int32) dX8_entry_9 (by decide) ?_
    refine m_bipush C (11 : Int32) dX8_entry_10 (by decide) ?_
    have t6 : (0 : Int32).toInt = 0 := by decide
    have t7 : (11 : Int32).toInt = 11 := by decide
    refine m_invS C cal_X8_within (c_X8_within l hX g kk (0 : Int32) (11 : Int32) ) lk_X8_87 st_X8_within (by decide) rfl rfl (Nat.le_of_ble_eq_true rfl) dX8_entry_12 ⟨Nat.le_refl _, Nat.le_refl _⟩ (rI fun r8 g9 q10 => ?_)
    obtain ⟨eg9, ⟨rfl, h11⟩ | ⟨rfl, h11⟩⟩ := q10
    · skip
      subst g9
      refine m_if_ne C 21 dX8_entry_15 (by decide) (fun _ => ?_) (fun h => absurd h (by decide))
      exact False.elim (by omega)
    · skip
      subst g9
      refine m_if_ne C 21 dX8_entry_15 (by decide) (fun h => absurd (by decide) h) (fun _ => ?_)
      refine m_bipush C (-2 : Int32) dX8_entry_18 (by decide) ?_
      exact m_iret C dX8_entry_20 ⟨_, rfl, rfl, (by have hl : (-2 : Int32).toInt = -2 := (by decide); omega)⟩
  · skip
    subst g2
    have r12 := iv_size hI
    refine m_if_eq C 18 dX8_entry_5 (by decide) (fun _ => ?_) (fun h => absurd (by decide) h)
    refine m_bipush C (-2 : Int32) dX8_entry_18 (by decide) ?_
    exact m_iret C dX8_entry_20 ⟨_, rfl, rfl, (by have hl : (-2 : Int32).toInt = -2 := (by decide); omega)⟩
set_option maxRecDepth 20000 in
set_option maxHeartbeats 4000000 in
theorem c_X8_chain_f (l : Launch) {X : XT} (hX : Lok X) (g : Mem) (ii : Int32) (k : Int32) (hI : Inv g) (hF : FX g) : Ctr l X yX8_chain cX8_chain 3 (some .int) (rmD 2) [.ref (aL X 0), .int ii, .int k] g (pI (fun r g2 => g2 = g ∧ ((r.toInt = 0 ∧ (ii.toInt = 0 ∧ 0 ≤ k.toInt ∧ k.toInt ≤ 31)) ∨ (r.toInt = -2 ∧ ¬ (ii.toInt = 0 ∧ 0 ≤ k.toInt ∧ k.toInt ≤ 31))))) := by
  refine Ctr.of (lv := [(0, .ref (aL X 0)), (1, .int ii), (2, .int k)]) hX (by decide) rfl (Nat.le_of_ble_eq_true rfl) ?_
  intro p e s m below meth c C
  have zf0 := hF.t 16 4 (by decide)
  have zf1 := hF.t 20 5 (by decide)
  have zf2 := hF.t 30 1 (by decide)
  have zf3 := hF.t 30 2 (by decide)
  have zf4 := hF.t 0 10 (by decide)
  refine m_aload_n C dX8_chain_0 0 rfl ?_
  refine m_iload_n C dX8_chain_1 1 rfl ?_
  refine m_invV C cal_X8_isLength sh_0 rfl (c_X8_isLength l hX g ii hI) lk_X8_154 im_X8_isLength se_X8_isLength (by decide) rfl rfl (Nat.le_of_ble_eq_true rfl) dX8_chain_2 ⟨Nat.le_refl _, Nat.le_refl _⟩ (rI fun r1 g2 q3 => ?_)
  obtain ⟨eg2, ⟨rfl, h4⟩ | ⟨rfl, h4⟩⟩ := q3
  · skip
    subst g2
    have r5 := iv_size hI
    refine m_if_eq C 15 dX8_chain_5 (by decide) (fun h => absurd h (by decide)) (fun _ => ?_)
    refine m_iload_n C dX8_chain_8 2 rfl ?_
    refine m_invS C cal_X8_isHashByte (c_X8_isHashByte l hX g k ) lk_X8_157 st_X8_isHashByte (by decide) rfl rfl (Nat.le_of_ble_eq_true rfl) dX8_chain_9 ⟨Nat.le_refl _, Nat.le_refl _⟩ (rI fun r6 g7 q8 => ?_)
    obtain ⟨eg7, ⟨rfl, h9⟩ | ⟨rfl, h9⟩⟩ := q8
    · skip
      subst g7
      refine m_if_ne C 18 dX8_chain_12 (by decide) (fun _ => ?_) (fun h => absurd h (by decide))
      refine m_aload_n C dX8_chain_18 0 rfl ?_
      refine m_getr (rf := "") C 3 rfl gd8 (by decide) sh_0 rfl dX8_chain_19 lk_X8_37 ?_
      refine m_iload_n C dX8_chain_22 1 rfl ?_
      refine m_iload_n C dX8_chain_23 2 rfl ?_
      refine m_invVN C cal_X4_linkByte sh_16 rfl (c_X4_linkByte_f l hX g ii k hI (by omega) (by omega) hF) lk_X8_160 im_X4_linkByte se_X4_linkByte (by decide) rfl rfl (Nat.le_of_ble_eq_true rfl) dX8_chain_24 ⟨Nat.le_refl _, Nat.le_refl _⟩ (rI fun r10 g11 q12 => ?_)
      obtain ⟨eg11, p13⟩ := q12
      subst g11
      exact m_iret C dX8_chain_27 ⟨_, rfl, rfl, (by omega)⟩
    · skip
      subst g7
      refine m_if_ne C 18 dX8_chain_12 (by decide) (fun h => absurd (by decide) h) (fun _ => ?_)
      refine m_bipush C (-2 : Int32) dX8_chain_15 (by decide) ?_
      exact m_iret C dX8_chain_17 ⟨_, rfl, rfl, (by have hl : (-2 : Int32).toInt = -2 := (by decide); omega)⟩
  · skip
    subst g2
    have r14 := iv_size hI
    refine m_if_eq C 15 dX8_chain_5 (by decide) (fun _ => ?_) (fun h => absurd (by decide) h)
    refine m_bipush C (-2 : Int32) dX8_chain_15 (by decide) ?_
    exact m_iret C dX8_chain_17 ⟨_, rfl, rfl, (by have hl : (-2 : Int32).toInt = -2 := (by decide); omega)⟩
set_option maxRecDepth 20000 in
set_option maxHeartbeats 4000000 in
theorem c_X8_path_f (l : Launch) {X : XT} (hX : Lok X) (g : Mem) (i0 : Int32) (n0 : Int32) (hI : Inv g) (hF : FX g) : Ctr l X yX8_path cX8_path 3 (some .int) (rmD 7) [.ref (aL X 0), .int i0, .int n0] g (pI (fun r g2 => Inv g2 ∧ Kp [9, 10, 11, 12, 20, 22, 23, 24] g g2 ∧ (r.toInt = -2))) := by
  refine Ctr.of (lv := [(0, .ref (aL X 0)), (1, .int i0), (2, .int n0)]) hX (by decide) rfl (Nat.le_of_ble_eq_true rfl) ?_
  intro p e s m below meth c C
  have zf0 := hF.t 16 4 (by decide)
  have zf1 := hF.t 20 5 (by decide)
  have zf2 := hF.t 30 1 (by decide)
  have zf3 := hF.t 30 2 (by decide)
  have zf4 := hF.t 0 10 (by decide)
  refine m_aload_n C dX8_path_0 0 rfl ?_
  refine m_iload_n C dX8_path_1 2 rfl ?_
  refine m_invV C cal_X8_isLength sh_0 rfl (c_X8_isLength l hX g n0 hI) lk_X8_154 im_X8_isLength se_X8_isLength (by decide) rfl rfl (Nat.le_of_ble_eq_true rfl) dX8_path_2 ⟨Nat.le_refl _, Nat.le_refl _⟩ (rI fun r1 g2 q3 => ?_)
  obtain ⟨eg2, ⟨rfl, h4⟩ | ⟨rfl, h4⟩⟩ := q3
  · skip
    subst g2
    have r5 := iv_size hI
    refine m_if_eq C 19 dX8_path_5 (by decide) (fun h => absurd h (by decide)) (fun _ => ?_)
    refine m_iload_n C dX8_path_8 1 rfl ?_
    refine m_iconst C (0 : Int32) dX8_path_9 (by decide) ?_
    refine m_iload_n C dX8_path_10 2 rfl ?_
    refine m_iconst C (1 : Int32) dX8_path_11 (by decide) ?_
    refine m_isub C dX8_path_12 ?_
    have t6 : (n0 - (1 : Int32)).toInt = n0.toInt - (1 : Int) := i_sub rfl (by decide) (by omega) (by omega)
    have t7 : (0 : Int32).toInt = 0 := by decide
    refine m_invS C cal_X8_within (c_X8_within l hX g i0 (0 : Int32) (n0 - (1 : Int32)) ) lk_X8_87 st_X8_within (by decide) rfl rfl (Nat.le_of_ble_eq_true rfl) dX8_path_13 ⟨Nat.le_refl _, Nat.le_refl _⟩ (rI fun r8 g9 q10 => ?_)
    obtain ⟨eg9, ⟨rfl, h11⟩ | ⟨rfl, h11⟩⟩ := q10
    · skip
      subst g9
      refine m_if_ne C 22 dX8_path_16 (by decide) (fun _ => ?_) (fun h => absurd h (by decide))
      exact False.elim (by omega)
    · skip
      subst g9
      refine m_if_ne C 22 dX8_path_16 (by decide) (fun h => absurd (by decide) h) (fun _ => ?_)
      refine m_bipush C (-2 : Int32) dX8_path_19 (by decide) ?_
      exact m_iret C dX8_path_21 ⟨_, rfl, hI, Kp.rf, (by have hl : (-2 : Int32).toInt = -2 := (by decide); omega)⟩
  · skip
    subst g2
    have r12 := iv_size hI
    refine m_if_eq C 19 dX8_path_5 (by decide) (fun _ => ?_) (fun h => absurd (by decide) h)
    refine m_bipush C (-2 : Int32) dX8_path_19 (by decide) ?_
    exact m_iret C dX8_path_21 ⟨_, rfl, hI, Kp.rf, (by have hl : (-2 : Int32).toInt = -2 := (by decide); omega)⟩
set_option maxRecDepth 20000 in
set_option maxHeartbeats 4000000 in
theorem c_X8_steps_f (l : Launch) {X : XT} (hX : Lok X) (g : Mem) (m0 : Int32) (n0 : Int32) (hI : Inv g) (hF : FX g) : Ctr l X yX8_steps cX8_steps 3 (some .int) (rmD 7) [.ref (aL X 0), .int m0, .int n0] g (pI (fun r g2 => Inv g2 ∧ Kp [9, 10, 11, 12, 20, 22, 23, 24] g g2 ∧ (r.toInt = -2))) := by
  refine Ctr.of (lv := [(0, .ref (aL X 0)), (1, .int m0), (2, .int n0)]) hX (by decide) rfl (Nat.le_of_ble_eq_true rfl) ?_
  intro p e s m below meth c C
  have zf0 := hF.t 16 4 (by decide)
  have zf1 := hF.t 20 5 (by decide)
  have zf2 := hF.t 30 1 (by decide)
  have zf3 := hF.t 30 2 (by decide)
  have zf4 := hF.t 0 10 (by decide)
  refine m_aload_n C dX8_steps_0 0 rfl ?_
  refine m_iload_n C dX8_steps_1 2 rfl ?_
  refine m_invV C cal_X8_isLength sh_0 rfl (c_X8_isLength l hX g n0 hI) lk_X8_154 im_X8_isLength se_X8_isLength (by decide) rfl rfl (Nat.le_of_ble_eq_true rfl) dX8_steps_2 ⟨Nat.le_refl _, Nat.le_refl _⟩ (rI fun r1 g2 q3 => ?_)
  obtain ⟨eg2, ⟨rfl, h4⟩ | ⟨rfl, h4⟩⟩ := q3
  · skip
    subst g2
    have r5 := iv_size hI
    refine m_if_eq C 17 dX8_steps_5 (by decide) (fun h => absurd h (by decide)) (fun _ => ?_)
    refine m_iload_n C dX8_steps_8 1 rfl ?_
    refine m_iconst C (1 : Int32) dX8_steps_9 (by decide) ?_
    refine m_iload_n C dX8_steps_10 2 rfl ?_
    have t6 : (1 : Int32).toInt = 1 := by decide
    refine m_invS C cal_X8_within (c_X8_within l hX g m0 (1 : Int32) n0 ) lk_X8_87 st_X8_within (by decide) rfl rfl (Nat.le_of_ble_eq_true rfl) dX8_steps_11 ⟨Nat.le_refl _, Nat.le_refl _⟩ (rI fun r7 g8 q9 => ?_)
    obtain ⟨eg8, ⟨rfl, h10⟩ | ⟨rfl, h10⟩⟩ := q9
    · skip
      subst g8
      refine m_if_ne C 20 dX8_steps_14 (by decide) (fun _ => ?_) (fun h => absurd h (by decide))
      exact False.elim (by omega)
    · skip
      subst g8
      refine m_if_ne C 20 dX8_steps_14 (by decide) (fun h => absurd (by decide) h) (fun _ => ?_)
      refine m_bipush C (-2 : Int32) dX8_steps_17 (by decide) ?_
      exact m_iret C dX8_steps_19 ⟨_, rfl, hI, Kp.rf, (by have hl : (-2 : Int32).toInt = -2 := (by decide); omega)⟩
  · skip
    subst g2
    have r11 := iv_size hI
    refine m_if_eq C 17 dX8_steps_5 (by decide) (fun _ => ?_) (fun h => absurd (by decide) h)
    refine m_bipush C (-2 : Int32) dX8_steps_17 (by decide) ?_
    exact m_iret C dX8_steps_19 ⟨_, rfl, hI, Kp.rf, (by have hl : (-2 : Int32).toInt = -2 := (by decide); omega)⟩
set_option maxRecDepth 20000 in
set_option maxHeartbeats 4000000 in
theorem c_X8_proof_f (l : Launch) {X : XT} (hX : Lok X) (g : Mem) (h : Int32) (k : Int32) (hI : Inv g) (hF : FX g) : Ctr l X yX8_proof cX8_proof 3 (some .int) (rmD 2) [.ref (aL X 0), .int h, .int k] g (pI (fun r g2 => g2 = g ∧ (r.toInt = -2))) := by
  refine Ctr.of (lv := [(0, .ref (aL X 0)), (1, .int h), (2, .int k)]) hX (by decide) rfl (Nat.le_of_ble_eq_true rfl) ?_
  intro p e s m below meth c C
  have zf0 := hF.t 16 4 (by decide)
  have zf1 := hF.t 20 5 (by decide)
  have zf2 := hF.t 30 1 (by decide)
  have zf3 := hF.t 30 2 (by decide)
  have zf4 := hF.t 0 10 (by decide)
  refine m_aload_n C dX8_proof_0 0 rfl ?_
  refine m_iload_n C dX8_proof_1 1 rfl ?_
  refine m_invV C cal_X8_isProofHash sh_0 rfl (c_X8_isProofHash l hX g h hI) lk_X8_176 im_X8_isProofHash se_X8_isProofHash (by decide) rfl rfl (Nat.le_of_ble_eq_true rfl) dX8_proof_2 ⟨Nat.le_refl _, Nat.le_refl _⟩ (rI fun r1 g2 q3 => ?_)
  obtain ⟨eg2, ⟨rfl, h4⟩ | ⟨rfl, h4⟩⟩ := q3
  · skip
    subst g2
    have r5 := iv_psize hI
    refine m_if_eq C 15 dX8_proof_5 (by decide) (fun h => absurd h (by decide)) (fun _ => ?_)
    refine m_iload_n C dX8_proof_8 2 rfl ?_
    refine m_invS C cal_X8_isHashByte (c_X8_isHashByte l hX g k ) lk_X8_157 st_X8_isHashByte (by decide) rfl rfl (Nat.le_of_ble_eq_true rfl) dX8_proof_9 ⟨Nat.le_refl _, Nat.le_refl _⟩ (rI fun r6 g7 q8 => ?_)
    obtain ⟨eg7, ⟨rfl, h9⟩ | ⟨rfl, h9⟩⟩ := q8
    · skip
      subst g7
      refine m_if_ne C 18 dX8_proof_12 (by decide) (fun _ => ?_) (fun h => absurd h (by decide))
      exact False.elim (by omega)
    · skip
      subst g7
      refine m_if_ne C 18 dX8_proof_12 (by decide) (fun h => absurd (by decide) h) (fun _ => ?_)
      refine m_bipush C (-2 : Int32) dX8_proof_15 (by decide) ?_
      exact m_iret C dX8_proof_17 ⟨_, rfl, rfl, (by have hl : (-2 : Int32).toInt = -2 := (by decide); omega)⟩
  · skip
    subst g2
    have r10 := iv_psize hI
    refine m_if_eq C 15 dX8_proof_5 (by decide) (fun _ => ?_) (fun h => absurd (by decide) h)
    refine m_bipush C (-2 : Int32) dX8_proof_15 (by decide) ?_
    exact m_iret C dX8_proof_17 ⟨_, rfl, rfl, (by have hl : (-2 : Int32).toInt = -2 := (by decide); omega)⟩
set_option maxRecDepth 20000 in
set_option maxHeartbeats 4000000 in
theorem c_X8_spoilProof_f (l : Launch) {X : XT} (hX : Lok X) (g : Mem) (h : Int32) (k : Int32) (v : Int32) (hI : Inv g) (hF : FX g) : Ctr l X yX8_spoilProof cX8_spoilProof 4 (some .int) (rmD 2) [.ref (aL X 0), .int h, .int k, .int v] g (pI (fun r g2 => Inv g2 ∧ Kp [22] g g2 ∧ (r.toInt = -2))) := by
  refine Ctr.of (lv := [(0, .ref (aL X 0)), (1, .int h), (2, .int k), (3, .int v)]) hX (by decide) rfl (Nat.le_of_ble_eq_true rfl) ?_
  intro p e s m below meth c C
  have zf0 := hF.t 16 4 (by decide)
  have zf1 := hF.t 20 5 (by decide)
  have zf2 := hF.t 30 1 (by decide)
  have zf3 := hF.t 30 2 (by decide)
  have zf4 := hF.t 0 10 (by decide)
  refine m_aload_n C dX8_spoilProof_0 0 rfl ?_
  refine m_iload_n C dX8_spoilProof_1 1 rfl ?_
  refine m_invV C cal_X8_isProofHash sh_0 rfl (c_X8_isProofHash l hX g h hI) lk_X8_176 im_X8_isProofHash se_X8_isProofHash (by decide) rfl rfl (Nat.le_of_ble_eq_true rfl) dX8_spoilProof_2 ⟨Nat.le_refl _, Nat.le_refl _⟩ (rI fun r1 g2 q3 => ?_)
  obtain ⟨eg2, ⟨rfl, h4⟩ | ⟨rfl, h4⟩⟩ := q3
  · skip
    subst g2
    have r5 := iv_psize hI
    refine m_if_eq C 22 dX8_spoilProof_5 (by decide) (fun h => absurd h (by decide)) (fun _ => ?_)
    refine m_iload_n C dX8_spoilProof_8 2 rfl ?_
    refine m_invS C cal_X8_isHashByte (c_X8_isHashByte l hX g k ) lk_X8_157 st_X8_isHashByte (by decide) rfl rfl (Nat.le_of_ble_eq_true rfl) dX8_spoilProof_9 ⟨Nat.le_refl _, Nat.le_refl _⟩ (rI fun r6 g7 q8 => ?_)
    obtain ⟨eg7, ⟨rfl, h9⟩ | ⟨rfl, h9⟩⟩ := q8
    · skip
      subst g7
      refine m_if_eq C 22 dX8_spoilProof_12 (by decide) (fun h => absurd h (by decide)) (fun _ => ?_)
      refine m_iload_n C dX8_spoilProof_15 3 rfl ?_
      refine m_invS C cal_X8_isMask (c_X8_isMask l hX g v ) lk_X8_182 st_X8_isMask (by decide) rfl rfl (Nat.le_of_ble_eq_true rfl) dX8_spoilProof_16 ⟨Nat.le_refl _, Nat.le_refl _⟩ (rI fun r10 g11 q12 => ?_)
      obtain ⟨eg11, ⟨rfl, h13⟩ | ⟨rfl, h13⟩⟩ := q12
      · skip
        subst g11
        refine m_if_ne C 25 dX8_spoilProof_19 (by decide) (fun _ => ?_) (fun h => absurd h (by decide))
        exact False.elim (by omega)
      · skip
        subst g11
        refine m_if_ne C 25 dX8_spoilProof_19 (by decide) (fun h => absurd (by decide) h) (fun _ => ?_)
        refine m_bipush C (-2 : Int32) dX8_spoilProof_22 (by decide) ?_
        exact m_iret C dX8_spoilProof_24 ⟨_, rfl, hI, Kp.rf, (by have hl : (-2 : Int32).toInt = -2 := (by decide); omega)⟩
    · skip
      subst g7
      refine m_if_eq C 22 dX8_spoilProof_12 (by decide) (fun _ => ?_) (fun h => absurd (by decide) h)
      refine m_bipush C (-2 : Int32) dX8_spoilProof_22 (by decide) ?_
      exact m_iret C dX8_spoilProof_24 ⟨_, rfl, hI, Kp.rf, (by have hl : (-2 : Int32).toInt = -2 := (by decide); omega)⟩
  · skip
    subst g2
    have r14 := iv_psize hI
    refine m_if_eq C 22 dX8_spoilProof_5 (by decide) (fun _ => ?_) (fun h => absurd (by decide) h)
    refine m_bipush C (-2 : Int32) dX8_spoilProof_22 (by decide) ?_
    exact m_iret C dX8_spoilProof_24 ⟨_, rfl, hI, Kp.rf, (by have hl : (-2 : Int32).toInt = -2 := (by decide); omega)⟩
set_option maxRecDepth 20000 in
set_option maxHeartbeats 4000000 in
theorem c_X8_cutProof_f (l : Launch) {X : XT} (hX : Lok X) (g : Mem) (n0 : Int32) (hI : Inv g) (hF : FX g) : Ctr l X yX8_cutProof cX8_cutProof 3 (some .int) (rmD 2) [.ref (aL X 0), .int n0] g (pI (fun r g2 => Inv g2 ∧ Kp [20] g g2 ∧ ((r.toInt = 0 ∧ (n0.toInt = 0)) ∨ (r.toInt = -2 ∧ ¬ (n0.toInt = 0))))) := by
  refine Ctr.of (lv := [(0, .ref (aL X 0)), (1, .int n0)]) hX (by decide) rfl (Nat.le_of_ble_eq_true rfl) ?_
  intro p e s m below meth c C
  have zf0 := hF.t 16 4 (by decide)
  have zf1 := hF.t 20 5 (by decide)
  have zf2 := hF.t 30 1 (by decide)
  have zf3 := hF.t 30 2 (by decide)
  have zf4 := hF.t 0 10 (by decide)
  refine m_iload_n C dX8_cutProof_0 1 rfl ?_
  refine m_iconst C (0 : Int32) dX8_cutProof_1 (by decide) ?_
  refine m_aload_n C dX8_cutProof_2 0 rfl ?_
  refine m_getr (rf := "") C 4 rfl gd8 (by decide) sh_0 rfl dX8_cutProof_3 lk_X8_46 ?_
  refine m_getiN (rf := "") C 5 rfl gd6 (by decide) sh_20 rfl dX8_cutProof_6 lk_X8_188 ?_
  have r1 := iv_psize hI
  have z2 := hF.t 20 5 (by decide)
  have t3 : (0 : Int32).toInt = 0 := by decide
  refine m_invS C cal_X8_within (c_X8_within l hX g n0 (0 : Int32) (g 20 5) ) lk_X8_87 st_X8_within (by decide) rfl rfl (Nat.le_of_ble_eq_true rfl) dX8_cutProof_9 ⟨Nat.le_refl _, Nat.le_refl _⟩ (rI fun r4 g5 q6 => ?_)
  obtain ⟨eg5, ⟨rfl, h7⟩ | ⟨rfl, h7⟩⟩ := q6
  · skip
    subst g5
    refine m_if_ne C 18 dX8_cutProof_12 (by decide) (fun _ => ?_) (fun h => absurd h (by decide))
    refine m_aload_n C dX8_cutProof_18 0 rfl ?_
    refine m_getr (rf := "") C 4 rfl gd8 (by decide) sh_0 rfl dX8_cutProof_19 lk_X8_46 ?_
    refine m_getiN (rf := "") C 5 rfl gd6 (by decide) sh_20 rfl dX8_cutProof_22 lk_X8_188 ?_
    have r8 := iv_psize hI
    have z9 := hF.t 20 5 (by decide)
    refine m_iload_n C dX8_cutProof_25 1 rfl ?_
    refine m_isub C dX8_cutProof_26 ?_
    refine m_name (fun x10 ex10 => ?_)
    have t11 : ((g 20 5) - n0).toInt = (g 20 5).toInt - n0.toInt := i_sub rfl rfl (by omega) (by omega)
    have t12 : x10.toInt = ((g 20 5).toInt - n0.toInt) := (congrArg Int32.toInt ex10).trans t11
    refine m_istore_n C [(2, .int x10), (0, .ref (aL X 0)), (1, .int n0)] dX8_cutProof_27 (by decide) rfl ?_
    refine m_aload_n C dX8_cutProof_28 1 rfl ?_
    refine m_getr (rf := "") C 4 rfl gd8 (by decide) sh_0 rfl dX8_cutProof_29 lk_X8_46 ?_
    refine m_iload_n C dX8_cutProof_32 2 rfl ?_
    refine m_putN (rf := "") C 5 rfl gd6 (by decide) tyX6 tyX6_ok nmX6 rfl (tyX6_ok 5 (by decide)) rfl rfl sh_20 rfl dX8_cutProof_33 lk_X8_188 ?_
    refine m_mem (fun g13 eg13 => ?_)
    have hI14 : Inv g13 := by rw [eg13]; exact hI.up (ok_psize (by omega) (by omega))
    have hK15 : Kp [20] g g13 := by rw [eg13]; exact Kp.up Kp.rf (by decide) (Or.inl (by decide)) (Or.inl (by decide))
    refine m_iload_n C dX8_cutProof_36 0 rfl ?_
    exact m_iret C dX8_cutProof_37 ⟨_, rfl, hI14, hK15, (by omega)⟩
  · skip
    subst g5
    refine m_if_ne C 18 dX8_cutProof_12 (by decide) (fun h => absurd (by decide) h) (fun _ => ?_)
    refine m_bipush C (-2 : Int32) dX8_cutProof_15 (by decide) ?_
    exact m_iret C dX8_cutProof_17 ⟨_, rfl, hI, Kp.rf, (by have hl : (-2 : Int32).toInt = -2 := (by decide); omega)⟩
set_option maxRecDepth 20000 in
set_option maxHeartbeats 4000000 in
theorem c_X8_keep_f (l : Launch) {X : XT} (hX : Lok X) (g : Mem) (q : Int32) (n0 : Int32) (hI : Inv g) (hF : FX g) : Ctr l X yX8_keep cX8_keep 3 (some .int) (rmD 5) [.ref (aL X 0), .int q, .int n0] g (pI (fun r g2 => Inv g2 ∧ Kp [9, 10, 11, 12, 26] g g2 ∧ ((r.toInt = 1 ∧ (0 ≤ q.toInt ∧ q.toInt ≤ 3 ∧ n0.toInt = 0)) ∨ (r.toInt = -2 ∧ ¬ (0 ≤ q.toInt ∧ q.toInt ≤ 3 ∧ n0.toInt = 0))))) := by
  refine Ctr.of (lv := [(0, .ref (aL X 0)), (1, .int q), (2, .int n0)]) hX (by decide) rfl (Nat.le_of_ble_eq_true rfl) ?_
  intro p e s m below meth c C
  have zf0 := hF.t 16 4 (by decide)
  have zf1 := hF.t 20 5 (by decide)
  have zf2 := hF.t 30 1 (by decide)
  have zf3 := hF.t 30 2 (by decide)
  have zf4 := hF.t 0 10 (by decide)
  refine m_iload_n C dX8_keep_0 1 rfl ?_
  refine m_invS C cal_X8_isKeptRoot (c_X8_isKeptRoot l hX g q ) lk_X8_191 st_X8_isKeptRoot (by decide) rfl rfl (Nat.le_of_ble_eq_true rfl) dX8_keep_1 ⟨Nat.le_refl _, Nat.le_refl _⟩ (rI fun r1 g2 q3 => ?_)
  obtain ⟨eg2, ⟨rfl, h4⟩ | ⟨rfl, h4⟩⟩ := q3
  · skip
    subst g2
    refine m_if_eq C 15 dX8_keep_4 (by decide) (fun h => absurd h (by decide)) (fun _ => ?_)
    refine m_aload_n C dX8_keep_7 0 rfl ?_
    refine m_iload_n C dX8_keep_8 2 rfl ?_
    refine m_invV C cal_X8_isLength sh_0 rfl (c_X8_isLength l hX g n0 hI) lk_X8_154 im_X8_isLength se_X8_isLength (by decide) rfl rfl (Nat.le_of_ble_eq_true rfl) dX8_keep_9 ⟨Nat.le_refl _, Nat.le_refl _⟩ (rI fun r5 g6 q7 => ?_)
    obtain ⟨eg6, ⟨rfl, h8⟩ | ⟨rfl, h8⟩⟩ := q7
    · skip
      subst g6
      have r9 := iv_size hI
      refine m_if_ne C 18 dX8_keep_12 (by decide) (fun _ => ?_) (fun h => absurd h (by decide))
      refine m_aload_n C dX8_keep_18 0 rfl ?_
      refine m_getr (rf := "") C 2 rfl gd8 (by decide) sh_0 rfl dX8_keep_19 lk_X8_28 ?_
      refine m_iconst C (0 : Int32) dX8_keep_22 (by decide) ?_
      refine m_iload_n C dX8_keep_23 2 rfl ?_
      refine m_aload_n C dX8_keep_24 0 rfl ?_
      refine m_getr (rf := "") C 5 rfl gd8 (by decide) sh_0 rfl dX8_keep_25 lk_X8_55 ?_
      refine m_iload_n C dX8_keep_28 1 rfl ?_
      have t10 : (0 : Int32).toInt = 0 := by decide
      refine m_invVN C cal_X7_rootOf sh_13 rfl (c_X7_rootOf_25 l hX g (0 : Int32) n0 q hI (by omega) (by omega) (by omega)) lk_X8_163 im_X7_rootOf se_X7_rootOf (by decide) rfl rfl (Nat.le_of_ble_eq_true rfl) dX8_keep_29 ⟨Nat.le_refl _, Nat.le_refl _⟩ (rV fun g12 q13 => ?_)
      obtain ⟨hI14, hK15⟩ := q13
      have hK16 : Kp [9, 10, 11, 12, 26] g g12 := (Kp.rf).tr hK15 (by decide)
      refine m_iconst C (1 : Int32) dX8_keep_32 (by decide) ?_
      exact m_iret C dX8_keep_33 ⟨_, rfl, hI14, hK16, (by have hl : (1 : Int32).toInt = 1 := (by decide); omega)⟩
    · skip
      subst g6
      have r17 := iv_size hI
      refine m_if_ne C 18 dX8_keep_12 (by decide) (fun h => absurd (by decide) h) (fun _ => ?_)
      refine m_bipush C (-2 : Int32) dX8_keep_15 (by decide) ?_
      exact m_iret C dX8_keep_17 ⟨_, rfl, hI, Kp.rf, (by have hl : (-2 : Int32).toInt = -2 := (by decide); omega)⟩
  · skip
    subst g2
    refine m_if_eq C 15 dX8_keep_4 (by decide) (fun _ => ?_) (fun h => absurd (by decide) h)
    refine m_bipush C (-2 : Int32) dX8_keep_15 (by decide) ?_
    exact m_iret C dX8_keep_17 ⟨_, rfl, hI, Kp.rf, (by have hl : (-2 : Int32).toInt = -2 := (by decide); omega)⟩
set_option maxRecDepth 20000 in
set_option maxHeartbeats 4000000 in
theorem c_X8_kept_f (l : Launch) {X : XT} (hX : Lok X) (g : Mem) (q : Int32) (k : Int32) (hI : Inv g) (hF : FX g) : Ctr l X yX8_kept cX8_kept 3 (some .int) (rmD 2) [.ref (aL X 0), .int q, .int k] g (pI (fun r g2 => g2 = g ∧ ((r.toInt = 0 ∧ (0 ≤ q.toInt ∧ q.toInt ≤ 3 ∧ 0 ≤ k.toInt ∧ k.toInt ≤ 31)) ∨ (r.toInt = -2 ∧ ¬ (0 ≤ q.toInt ∧ q.toInt ≤ 3 ∧ 0 ≤ k.toInt ∧ k.toInt ≤ 31))))) := by
  refine Ctr.of (lv := [(0, .ref (aL X 0)), (1, .int q), (2, .int k)]) hX (by decide) rfl (Nat.le_of_ble_eq_true rfl) ?_
  intro p e s m below meth c C
  have zf0 := hF.t 16 4 (by decide)
  have zf1 := hF.t 20 5 (by decide)
  have zf2 := hF.t 30 1 (by decide)
  have zf3 := hF.t 30 2 (by decide)
  have zf4 := hF.t 0 10 (by decide)
  refine m_iload_n C dX8_kept_0 1 rfl ?_
  refine m_invS C cal_X8_isKeptRoot (c_X8_isKeptRoot l hX g q ) lk_X8_191 st_X8_isKeptRoot (by decide) rfl rfl (Nat.le_of_ble_eq_true rfl) dX8_kept_1 ⟨Nat.le_refl _, Nat.le_refl _⟩ (rI fun r1 g2 q3 => ?_)
  obtain ⟨eg2, ⟨rfl, h4⟩ | ⟨rfl, h4⟩⟩ := q3
  · skip
    subst g2
    refine m_if_eq C 14 dX8_kept_4 (by decide) (fun h => absurd h (by decide)) (fun _ => ?_)
    refine m_iload_n C dX8_kept_7 2 rfl ?_
    refine m_invS C cal_X8_isHashByte (c_X8_isHashByte l hX g k ) lk_X8_157 st_X8_isHashByte (by decide) rfl rfl (Nat.le_of_ble_eq_true rfl) dX8_kept_8 ⟨Nat.le_refl _, Nat.le_refl _⟩ (rI fun r5 g6 q7 => ?_)
    obtain ⟨eg6, ⟨rfl, h8⟩ | ⟨rfl, h8⟩⟩ := q7
    · skip
      subst g6
      refine m_if_ne C 17 dX8_kept_11 (by decide) (fun _ => ?_) (fun h => absurd h (by decide))
      refine m_aload_n C dX8_kept_17 0 rfl ?_
      refine m_getr (rf := "") C 5 rfl gd8 (by decide) sh_0 rfl dX8_kept_18 lk_X8_55 ?_
      refine m_iload_n C dX8_kept_21 1 rfl ?_
      refine m_iload_n C dX8_kept_22 2 rfl ?_
      refine m_invVN C cal_X2_byteAt sh_25 rfl (c_X2_byteAt_f25 l hX g q k hI (by omega) (by omega) hF) lk_X8_167 im_X2_byteAt se_X2_byteAt (by decide) rfl rfl (Nat.le_of_ble_eq_true rfl) dX8_kept_23 ⟨Nat.le_refl _, Nat.le_refl _⟩ (rI fun r9 g10 q11 => ?_)
      obtain ⟨eg10, p12⟩ := q11
      subst g10
      exact m_iret C dX8_kept_26 ⟨_, rfl, rfl, (by omega)⟩
    · skip
      subst g6
      refine m_if_ne C 17 dX8_kept_11 (by decide) (fun h => absurd (by decide) h) (fun _ => ?_)
      refine m_bipush C (-2 : Int32) dX8_kept_14 (by decide) ?_
      exact m_iret C dX8_kept_16 ⟨_, rfl, rfl, (by have hl : (-2 : Int32).toInt = -2 := (by decide); omega)⟩
  · skip
    subst g2
    refine m_if_eq C 14 dX8_kept_4 (by decide) (fun _ => ?_) (fun h => absurd (by decide) h)
    refine m_bipush C (-2 : Int32) dX8_kept_14 (by decide) ?_
    exact m_iret C dX8_kept_16 ⟨_, rfl, rfl, (by have hl : (-2 : Int32).toInt = -2 := (by decide); omega)⟩
set_option maxRecDepth 20000 in
set_option maxHeartbeats 4000000 in
theorem c_X8_spoilKept_f (l : Launch) {X : XT} (hX : Lok X) (g : Mem) (q : Int32) (k : Int32) (v : Int32) (hI : Inv g) (hF : FX g) : Ctr l X yX8_spoilKept cX8_spoilKept 4 (some .int) (rmD 2) [.ref (aL X 0), .int q, .int k, .int v] g (pI (fun r g2 => Inv g2 ∧ Kp [26] g g2 ∧ ((r.toInt = 0 ∧ (0 ≤ q.toInt ∧ q.toInt ≤ 3 ∧ 0 ≤ k.toInt ∧ k.toInt ≤ 31 ∧ 1 ≤ v.toInt ∧ v.toInt ≤ 255)) ∨ (r.toInt = -2 ∧ ¬ (0 ≤ q.toInt ∧ q.toInt ≤ 3 ∧ 0 ≤ k.toInt ∧ k.toInt ≤ 31 ∧ 1 ≤ v.toInt ∧ v.toInt ≤ 255))))) := by
  refine Ctr.of (lv := [(0, .ref (aL X 0)), (1, .int q), (2, .int k), (3, .int v)]) hX (by decide) rfl (Nat.le_of_ble_eq_true rfl) ?_
  intro p e s m below meth c C
  have zf0 := hF.t 16 4 (by decide)
  have zf1 := hF.t 20 5 (by decide)
  have zf2 := hF.t 30 1 (by decide)
  have zf3 := hF.t 30 2 (by decide)
  have zf4 := hF.t 0 10 (by decide)
  refine m_iload_n C dX8_spoilKept_0 1 rfl ?_
  refine m_invS C cal_X8_isKeptRoot (c_X8_isKeptRoot l hX g q ) lk_X8_191 st_X8_isKeptRoot (by decide) rfl rfl (Nat.le_of_ble_eq_true rfl) dX8_spoilKept_1 ⟨Nat.le_refl _, Nat.le_refl _⟩ (rI fun r1 g2 q3 => ?_)
  obtain ⟨eg2, ⟨rfl, h4⟩ | ⟨rfl, h4⟩⟩ := q3
  · skip
    subst g2
    refine m_if_eq C 21 dX8_spoilKept_4 (by decide) (fun h => absurd h (by decide)) (fun _ => ?_)
    refine m_iload_n C dX8_spoilKept_7 2 rfl ?_
    refine m_invS C cal_X8_isHashByte (c_X8_isHashByte l hX g k ) lk_X8_157 st_X8_isHashByte (by decide) rfl rfl (Nat.le_of_ble_eq_true rfl) dX8_spoilKept_8 ⟨Nat.le_refl _, Nat.le_refl _⟩ (rI fun r5 g6 q7 => ?_)
    obtain ⟨eg6, ⟨rfl, h8⟩ | ⟨rfl, h8⟩⟩ := q7
    · skip
      subst g6
      refine m_if_eq C 21 dX8_spoilKept_11 (by decide) (fun h => absurd h (by decide)) (fun _ => ?_)
      refine m_iload_n C dX8_spoilKept_14 3 rfl ?_
      refine m_invS C cal_X8_isMask (c_X8_isMask l hX g v ) lk_X8_182 st_X8_isMask (by decide) rfl rfl (Nat.le_of_ble_eq_true rfl) dX8_spoilKept_15 ⟨Nat.le_refl _, Nat.le_refl _⟩ (rI fun r9 g10 q11 => ?_)
      obtain ⟨eg10, ⟨rfl, h12⟩ | ⟨rfl, h12⟩⟩ := q11
      · skip
        subst g10
        refine m_if_ne C 24 dX8_spoilKept_18 (by decide) (fun _ => ?_) (fun h => absurd h (by decide))
        refine m_aload_n C dX8_spoilKept_24 0 rfl ?_
        refine m_getr (rf := "") C 5 rfl gd8 (by decide) sh_0 rfl dX8_spoilKept_25 lk_X8_55 ?_
        refine m_iload_n C dX8_spoilKept_28 1 rfl ?_
        refine m_iload_n C dX8_spoilKept_29 2 rfl ?_
        refine m_iload_n C dX8_spoilKept_30 3 rfl ?_
        refine m_invVN C cal_X2_spoilByte sh_25 rfl (c_X2_spoilByte_f25 l hX g q k v hI (by omega) (by omega) hF) lk_X8_185 im_X2_spoilByte se_X2_spoilByte (by decide) rfl rfl (Nat.le_of_ble_eq_true rfl) dX8_spoilKept_31 ⟨Nat.le_refl _, Nat.le_refl _⟩ (rI fun r13 g14 q15 => ?_)
        obtain ⟨hI16, hK17, p18⟩ := q15
        have hK19 : Kp [26] g g14 := (Kp.rf).tr hK17 (by decide)
        exact m_iret C dX8_spoilKept_34 ⟨_, rfl, hI16, hK19, (by omega)⟩
      · skip
        subst g10
        refine m_if_ne C 24 dX8_spoilKept_18 (by decide) (fun h => absurd (by decide) h) (fun _ => ?_)
        refine m_bipush C (-2 : Int32) dX8_spoilKept_21 (by decide) ?_
        exact m_iret C dX8_spoilKept_23 ⟨_, rfl, hI, Kp.rf, (by have hl : (-2 : Int32).toInt = -2 := (by decide); omega)⟩
    · skip
      subst g6
      refine m_if_eq C 21 dX8_spoilKept_11 (by decide) (fun _ => ?_) (fun h => absurd (by decide) h)
      refine m_bipush C (-2 : Int32) dX8_spoilKept_21 (by decide) ?_
      exact m_iret C dX8_spoilKept_23 ⟨_, rfl, hI, Kp.rf, (by have hl : (-2 : Int32).toInt = -2 := (by decide); omega)⟩
  · skip
    subst g2
    refine m_if_eq C 21 dX8_spoilKept_4 (by decide) (fun _ => ?_) (fun h => absurd (by decide) h)
    refine m_bipush C (-2 : Int32) dX8_spoilKept_21 (by decide) ?_
    exact m_iret C dX8_spoilKept_23 ⟨_, rfl, hI, Kp.rf, (by have hl : (-2 : Int32).toInt = -2 := (by decide); omega)⟩
set_option maxRecDepth 20000 in
set_option maxHeartbeats 4000000 in
theorem c_X8_judgePath_f (l : Launch) {X : XT} (hX : Lok X) (g : Mem) (i0 : Int32) (n0 : Int32) (e0 : Int32) (q : Int32) (hI : Inv g) (hF : FX g) : Ctr l X yX8_judgePath cX8_judgePath 5 (some .int) (rmD 6) [.ref (aL X 0), .int i0, .int n0, .int e0, .int q] g (pI (fun r g2 => Inv g2 ∧ Kp [9, 10, 11, 12, 27, 29, 33] g g2 ∧ (r.toInt = -2))) := by
  refine Ctr.of (lv := [(0, .ref (aL X 0)), (1, .int i0), (2, .int n0), (3, .int e0), (4, .int q)]) hX (by decide) rfl (Nat.le_of_ble_eq_true rfl) ?_
  intro p e s m below meth c C
  have zf0 := hF.t 16 4 (by decide)
  have zf1 := hF.t 20 5 (by decide)
  have zf2 := hF.t 30 1 (by decide)
  have zf3 := hF.t 30 2 (by decide)
  have zf4 := hF.t 0 10 (by decide)
  refine m_iload_n C dX8_judgePath_0 1 rfl ?_
  refine m_iconst C (0 : Int32) dX8_judgePath_1 (by decide) ?_
  refine m_bipush C (60 : Int32) dX8_judgePath_2 (by decide) ?_
  have t1 : (0 : Int32).toInt = 0 := by decide
  have t2 : (60 : Int32).toInt = 60 := by decide
  refine m_invS C cal_X8_within (c_X8_within l hX g i0 (0 : Int32) (60 : Int32) ) lk_X8_87 st_X8_within (by decide) rfl rfl (Nat.le_of_ble_eq_true rfl) dX8_judgePath_4 ⟨Nat.le_refl _, Nat.le_refl _⟩ (rI fun r3 g4 q5 => ?_)
  obtain ⟨eg4, ⟨rfl, h6⟩ | ⟨rfl, h6⟩⟩ := q5
  · skip
    subst g4
    refine m_if_eq C 36 dX8_judgePath_7 (by decide) (fun h => absurd h (by decide)) (fun _ => ?_)
    refine m_iload_n C dX8_judgePath_10 2 rfl ?_
    refine m_iconst C (0 : Int32) dX8_judgePath_11 (by decide) ?_
    refine m_bipush C (60 : Int32) dX8_judgePath_12 (by decide) ?_
    have t7 : (0 : Int32).toInt = 0 := by decide
    have t8 : (60 : Int32).toInt = 60 := by decide
    refine m_invS C cal_X8_within (c_X8_within l hX g n0 (0 : Int32) (60 : Int32) ) lk_X8_87 st_X8_within (by decide) rfl rfl (Nat.le_of_ble_eq_true rfl) dX8_judgePath_14 ⟨Nat.le_refl _, Nat.le_refl _⟩ (rI fun r9 g10 q11 => ?_)
    obtain ⟨eg10, ⟨rfl, h12⟩ | ⟨rfl, h12⟩⟩ := q11
    · skip
      subst g10
      refine m_if_eq C 36 dX8_judgePath_17 (by decide) (fun h => absurd h (by decide)) (fun _ => ?_)
      refine m_aload_n C dX8_judgePath_20 0 rfl ?_
      refine m_iload_n C dX8_judgePath_21 3 rfl ?_
      refine m_invV C cal_X8_isEntry sh_0 rfl (c_X8_isEntry l hX g e0 hI) lk_X8_148 im_X8_isEntry se_X8_isEntry (by decide) rfl rfl (Nat.le_of_ble_eq_true rfl) dX8_judgePath_22 ⟨Nat.le_refl _, Nat.le_refl _⟩ (rI fun r13 g14 q15 => ?_)
      obtain ⟨eg14, ⟨rfl, h16⟩ | ⟨rfl, h16⟩⟩ := q15
      · skip
        subst g14
        have r17 := iv_size hI
        refine m_if_eq C 36 dX8_judgePath_25 (by decide) (fun h => absurd h (by decide)) (fun _ => ?_)
        refine m_iload C dX8_judgePath_28 4 rfl ?_
        refine m_invS C cal_X8_isKeptRoot (c_X8_isKeptRoot l hX g q ) lk_X8_191 st_X8_isKeptRoot (by decide) rfl rfl (Nat.le_of_ble_eq_true rfl) dX8_judgePath_30 ⟨Nat.le_refl _, Nat.le_refl _⟩ (rI fun r18 g19 q20 => ?_)
        obtain ⟨eg19, ⟨rfl, h21⟩ | ⟨rfl, h21⟩⟩ := q20
        · skip
          subst g19
          refine m_if_ne C 39 dX8_judgePath_33 (by decide) (fun _ => ?_) (fun h => absurd h (by decide))
          exact False.elim (by omega)
        · skip
          subst g19
          refine m_if_ne C 39 dX8_judgePath_33 (by decide) (fun h => absurd (by decide) h) (fun _ => ?_)
          refine m_bipush C (-2 : Int32) dX8_judgePath_36 (by decide) ?_
          exact m_iret C dX8_judgePath_38 ⟨_, rfl, hI, Kp.rf, (by have hl : (-2 : Int32).toInt = -2 := (by decide); omega)⟩
      · skip
        subst g14
        have r22 := iv_size hI
        refine m_if_eq C 36 dX8_judgePath_25 (by decide) (fun _ => ?_) (fun h => absurd (by decide) h)
        refine m_bipush C (-2 : Int32) dX8_judgePath_36 (by decide) ?_
        exact m_iret C dX8_judgePath_38 ⟨_, rfl, hI, Kp.rf, (by have hl : (-2 : Int32).toInt = -2 := (by decide); omega)⟩
    · skip
      subst g10
      refine m_if_eq C 36 dX8_judgePath_17 (by decide) (fun _ => ?_) (fun h => absurd (by decide) h)
      refine m_bipush C (-2 : Int32) dX8_judgePath_36 (by decide) ?_
      exact m_iret C dX8_judgePath_38 ⟨_, rfl, hI, Kp.rf, (by have hl : (-2 : Int32).toInt = -2 := (by decide); omega)⟩
  · skip
    subst g4
    refine m_if_eq C 36 dX8_judgePath_7 (by decide) (fun _ => ?_) (fun h => absurd (by decide) h)
    refine m_bipush C (-2 : Int32) dX8_judgePath_36 (by decide) ?_
    exact m_iret C dX8_judgePath_38 ⟨_, rfl, hI, Kp.rf, (by have hl : (-2 : Int32).toInt = -2 := (by decide); omega)⟩
set_option maxRecDepth 20000 in
set_option maxHeartbeats 4000000 in
theorem c_X8_open_f (l : Launch) {X : XT} (hX : Lok X) (g : Mem)  (hI : Inv g) (hF : FX g) : Ctr l X yX8_open cX8_open 2 (some .int) (rmD 6) [.ref (aL X 0)] g (pI (fun r g2 => Inv g2 ∧ Kp [0, 9, 10, 11, 12, 15, 16, 17, 19, 30, 31] g g2 ∧ (r.toInt = -5))) := by
  refine Ctr.of (lv := [(0, .ref (aL X 0))]) hX (by decide) rfl (Nat.le_of_ble_eq_true rfl) ?_
  intro p e s m below meth c C
  have zf0 := hF.t 16 4 (by decide)
  have zf1 := hF.t 20 5 (by decide)
  have zf2 := hF.t 30 1 (by decide)
  have zf3 := hF.t 30 2 (by decide)
  have zf4 := hF.t 0 10 (by decide)
  refine m_aload_n C dX8_open_0 0 rfl ?_
  refine m_geti (rf := "") C 10 rfl gd8 (by decide) sh_0 rfl dX8_open_1 lk_X8_82 ?_
  have z1 := hF.t 0 10 (by decide)
  refine m_if_ne C 10 dX8_open_4 (by decide) (fun h2 => ?_) (fun h2 => ?_)
  · skip
    have th2 := i_ne h2
    rw [show (0 : Int32).toInt = 0 by decide] at th2
    exact False.elim (by omega)
  · skip
    have th2 := i_eq h2
    rw [show (0 : Int32).toInt = 0 by decide] at th2
    refine m_bipush C (-5 : Int32) dX8_open_7 (by decide) ?_
    exact m_iret C dX8_open_9 ⟨_, rfl, hI, Kp.rf, (by have hl : (-5 : Int32).toInt = -5 := (by decide); omega)⟩
set_option maxRecDepth 20000 in
set_option maxHeartbeats 4000000 in
theorem c_X8_disk_f (l : Launch) {X : XT} (hX : Lok X) (g : Mem) (i0 : Int32) (hI : Inv g) (hF : FX g) : Ctr l X yX8_disk cX8_disk 2 (some .int) (rmD 1) [.ref (aL X 0), .int i0] g (pI (fun r g2 => g2 = g ∧ ((r.toInt = 0 ∧ (0 ≤ i0.toInt ∧ i0.toInt ≤ 1019)) ∨ (r.toInt = -2 ∧ ¬ (0 ≤ i0.toInt ∧ i0.toInt ≤ 1019))))) := by
  refine Ctr.of (lv := [(0, .ref (aL X 0)), (1, .int i0)]) hX (by decide) rfl (Nat.le_of_ble_eq_true rfl) ?_
  intro p e s m below meth c C
  have zf0 := hF.t 16 4 (by decide)
  have zf1 := hF.t 20 5 (by decide)
  have zf2 := hF.t 30 1 (by decide)
  have zf3 := hF.t 30 2 (by decide)
  have zf4 := hF.t 0 10 (by decide)
  refine m_iload_n C dX8_disk_0 1 rfl ?_
  refine m_iconst C (0 : Int32) dX8_disk_1 (by decide) ?_
  refine m_sipush C (1019 : Int32) dX8_disk_2 (by decide) ?_
  have t1 : (0 : Int32).toInt = 0 := by decide
  have t2 : (1019 : Int32).toInt = 1019 := by decide
  refine m_invS C cal_X8_within (c_X8_within l hX g i0 (0 : Int32) (1019 : Int32) ) lk_X8_87 st_X8_within (by decide) rfl rfl (Nat.le_of_ble_eq_true rfl) dX8_disk_5 ⟨Nat.le_refl _, Nat.le_refl _⟩ (rI fun r3 g4 q5 => ?_)
  obtain ⟨eg4, ⟨rfl, h6⟩ | ⟨rfl, h6⟩⟩ := q5
  · skip
    subst g4
    refine m_if_ne C 14 dX8_disk_8 (by decide) (fun _ => ?_) (fun h => absurd h (by decide))
    refine m_aload_n C dX8_disk_14 0 rfl ?_
    refine m_getr (rf := "") C 7 rfl gd8 (by decide) sh_0 rfl dX8_disk_15 lk_X8_71 ?_
    refine m_getrN (rf := "") C 0 rfl gd0 (by decide) sh_30 rfl dX8_disk_18 lk_X8_221 ?_
    refine m_iload_n C dX8_disk_21 1 rfl ?_
    refine m_iald C sh_31 (i_in (by omega) (by omega)) dX8_disk_22 ?_
    have z7 := hF.t 31 i0.toNatClampNeg (by decide)
    exact m_iret C dX8_disk_23 ⟨_, rfl, rfl, (by omega)⟩
  · skip
    subst g4
    refine m_if_ne C 14 dX8_disk_8 (by decide) (fun h => absurd (by decide) h) (fun _ => ?_)
    refine m_bipush C (-2 : Int32) dX8_disk_11 (by decide) ?_
    exact m_iret C dX8_disk_13 ⟨_, rfl, rfl, (by have hl : (-2 : Int32).toInt = -2 := (by decide); omega)⟩
set_option maxRecDepth 20000 in
set_option maxHeartbeats 4000000 in
theorem c_X8_spoil_f (l : Launch) {X : XT} (hX : Lok X) (g : Mem) (i0 : Int32) (v : Int32) (hI : Inv g) (hF : FX g) : Ctr l X yX8_spoil cX8_spoil 4 (some .int) (rmD 2) [.ref (aL X 0), .int i0, .int v] g (pI (fun r g2 => Inv g2 ∧ Kp [31] g g2 ∧ ((r.toInt = 0 ∧ (0 ≤ i0.toInt ∧ i0.toInt ≤ 1019 ∧ 1 ≤ v.toInt ∧ v.toInt ≤ 255)) ∨ (r.toInt = -2 ∧ ¬ (0 ≤ i0.toInt ∧ i0.toInt ≤ 1019 ∧ 1 ≤ v.toInt ∧ v.toInt ≤ 255))))) := by
  refine Ctr.of (lv := [(0, .ref (aL X 0)), (1, .int i0), (2, .int v)]) hX (by decide) rfl (Nat.le_of_ble_eq_true rfl) ?_
  intro p e s m below meth c C
  have zf0 := hF.t 16 4 (by decide)
  have zf1 := hF.t 20 5 (by decide)
  have zf2 := hF.t 30 1 (by decide)
  have zf3 := hF.t 30 2 (by decide)
  have zf4 := hF.t 0 10 (by decide)
  refine m_iload_n C dX8_spoil_0 1 rfl ?_
  refine m_iconst C (0 : Int32) dX8_spoil_1 (by decide) ?_
  refine m_sipush C (1019 : Int32) dX8_spoil_2 (by decide) ?_
  have t1 : (0 : Int32).toInt = 0 := by decide
  have t2 : (1019 : Int32).toInt = 1019 := by decide
  refine m_invS C cal_X8_within (c_X8_within l hX g i0 (0 : Int32) (1019 : Int32) ) lk_X8_87 st_X8_within (by decide) rfl rfl (Nat.le_of_ble_eq_true rfl) dX8_spoil_5 ⟨Nat.le_refl _, Nat.le_refl _⟩ (rI fun r3 g4 q5 => ?_)
  obtain ⟨eg4, ⟨rfl, h6⟩ | ⟨rfl, h6⟩⟩ := q5
  · skip
    subst g4
    refine m_if_eq C 18 dX8_spoil_8 (by decide) (fun h => absurd h (by decide)) (fun _ => ?_)
    refine m_iload_n C dX8_spoil_11 2 rfl ?_
    refine m_invS C cal_X8_isMask (c_X8_isMask l hX g v ) lk_X8_182 st_X8_isMask (by decide) rfl rfl (Nat.le_of_ble_eq_true rfl) dX8_spoil_12 ⟨Nat.le_refl _, Nat.le_refl _⟩ (rI fun r7 g8 q9 => ?_)
    obtain ⟨eg8, ⟨rfl, h10⟩ | ⟨rfl, h10⟩⟩ := q9
    · skip
      subst g8
      refine m_if_ne C 21 dX8_spoil_15 (by decide) (fun _ => ?_) (fun h => absurd h (by decide))
      refine m_aload_n C dX8_spoil_21 0 rfl ?_
      refine m_getr (rf := "") C 7 rfl gd8 (by decide) sh_0 rfl dX8_spoil_22 lk_X8_71 ?_
      refine m_getrN (rf := "") C 0 rfl gd0 (by decide) sh_30 rfl dX8_spoil_25 lk_X8_221 ?_
      refine m_iload_n C dX8_spoil_28 1 rfl ?_
      refine m_iald C sh_31 (i_in (by omega) (by omega)) dX8_spoil_29 ?_
      have z11 := hF.t 31 i0.toNatClampNeg (by decide)
      refine m_name (fun x12 ex12 => ?_)
      have t13 : x12.toInt = (g 31 i0.toNatClampNeg).toInt := (congrArg Int32.toInt ex12).trans rfl
      refine m_istore_n C [(3, .int x12), (0, .ref (aL X 0)), (1, .int i0), (2, .int v)] dX8_spoil_30 (by decide) rfl ?_
      refine m_aload_n C dX8_spoil_31 1 rfl ?_
      refine m_getr (rf := "") C 7 rfl gd8 (by decide) sh_0 rfl dX8_spoil_32 lk_X8_71 ?_
      refine m_getrN (rf := "") C 0 rfl gd0 (by decide) sh_30 rfl dX8_spoil_35 lk_X8_221 ?_
      refine m_iload_n C dX8_spoil_38 2 rfl ?_
      refine m_iload_n C dX8_spoil_39 0 rfl ?_
      refine m_iload_n C dX8_spoil_40 3 rfl ?_
      refine m_ixor C dX8_spoil_41 ?_
      refine m_iast C sh_31 (i_in (by omega) (by omega)) dX8_spoil_42 ?_
      refine m_mem (fun g14 eg14 => ?_)
      have hI15 : Inv g14 := by rw [eg14]; exact hI.up (ok_any (by decide))
      have hK16 : Kp [31] g g14 := by rw [eg14]; exact Kp.up Kp.rf (by decide) (Or.inl (by decide)) (Or.inl (by decide))
      refine m_iload_n C dX8_spoil_43 0 rfl ?_
      exact m_iret C dX8_spoil_44 ⟨_, rfl, hI15, hK16, (by omega)⟩
    · skip
      subst g8
      refine m_if_ne C 21 dX8_spoil_15 (by decide) (fun h => absurd (by decide) h) (fun _ => ?_)
      refine m_bipush C (-2 : Int32) dX8_spoil_18 (by decide) ?_
      exact m_iret C dX8_spoil_20 ⟨_, rfl, hI, Kp.rf, (by have hl : (-2 : Int32).toInt = -2 := (by decide); omega)⟩
  · skip
    subst g4
    refine m_if_eq C 18 dX8_spoil_8 (by decide) (fun _ => ?_) (fun h => absurd (by decide) h)
    refine m_bipush C (-2 : Int32) dX8_spoil_18 (by decide) ?_
    exact m_iret C dX8_spoil_20 ⟨_, rfl, hI, Kp.rf, (by have hl : (-2 : Int32).toInt = -2 := (by decide); omega)⟩
set_option maxRecDepth 20000 in
set_option maxHeartbeats 4000000 in
theorem c_X8_audit_f (l : Launch) {X : XT} (hX : Lok X) (g : Mem)  (hI : Inv g) (hF : FX g) : Ctr l X yX8_audit cX8_audit 2 (some .int) (rmD 4) [.ref (aL X 0)] g (pI (fun r g2 => Inv g2 ∧ Kp [] g g2 ∧ (r.toInt = -1))) := by
  refine Ctr.of (lv := [(0, .ref (aL X 0))]) hX (by decide) rfl (Nat.le_of_ble_eq_true rfl) ?_
  intro p e s m below meth c C
  have zf0 := hF.t 16 4 (by decide)
  have zf1 := hF.t 20 5 (by decide)
  have zf2 := hF.t 30 1 (by decide)
  have zf3 := hF.t 30 2 (by decide)
  have zf4 := hF.t 0 10 (by decide)
  refine m_aload_n C dX8_audit_0 0 rfl ?_
  refine m_geti (rf := "") C 10 rfl gd8 (by decide) sh_0 rfl dX8_audit_1 lk_X8_82 ?_
  have z1 := hF.t 0 10 (by decide)
  refine m_if_eq C 10 dX8_audit_4 (by decide) (fun h2 => ?_) (fun h2 => ?_)
  · skip
    have th2 := i_eq h2
    rw [show (0 : Int32).toInt = 0 by decide] at th2
    refine m_iconst C (0 : Int32) dX8_audit_10 (by decide) ?_
    refine m_istore_n C [(1, .int (0 : Int32)), (0, .ref (aL X 0))] dX8_audit_11 (by decide) rfl ?_
    have L12 : ∀ (n12 : Nat) (x4 : Int32) (g5 : Mem), (61 - x4.toInt).toNat < n12 → Inv g5 → Kp [] g g5 → 0 ≤ x4.toInt ∧ x4.toInt ≤ 60 → Wm X p l e (rmD 4) s m ([.ref (aL X 0)] : List Value).toArray below meth c 2 0 0 (MQ below (cQ X (pI (fun r g2 => Inv g2 ∧ Kp [] g g2 ∧ (r.toInt = -1)))) ([.ref (aL X 0)] : List Value).toArray s 0 0 (Ab X)) g5 12 [(0, .ref (aL X 0)), (1, .int x4)] [] := by
      intro n12
      induction n12 with
      | zero => intro x4 g5 hm; exact absurd hm (Nat.not_lt_zero _)
      | succ n12 ih12 =>
        intro x4 g5 hm12 hI6 hK7 i8
        obtain ⟨i8a, i8b⟩ := i8
        refine m_iload_n C dX8_audit_12 1 rfl ?_
        refine m_aload_n C dX8_audit_13 0 rfl ?_
        refine m_getr (rf := "") C 3 rfl gd8 (by decide) sh_0 rfl dX8_audit_14 lk_X8_37 ?_
        refine m_getiN (rf := "") C 4 rfl gd4 (by decide) sh_16 rfl dX8_audit_17 lk_X8_211 ?_
        have r9 := iv_size hI6
        have ev10 : g5 16 4 = g 16 4 := congrFun (hK7.1 16 (by decide)) 4
        have tev10 := congrArg Int32.toInt ev10
        have z11 := hF.t 16 4 (by decide)
        refine m_icmp_ge C 46 dX8_audit_20 (by decide) (fun h12 => ?_) (fun h12 => ?_)
        · skip
          have th12 := i_le h12
          refine m_iconst C (-1 : Int32) dX8_audit_46 (by decide) ?_
          exact m_iret C dX8_audit_47 ⟨_, rfl, hI6, hK7, (by have hl : (-1 : Int32).toInt = -1 := (by decide); omega)⟩
        · skip
          have th12 := i_nle h12
          exact False.elim (by omega)
    have t13 : (0 : Int32).toInt = 0 := by decide
    refine m_lv [1, 0] rfl ?_
    exact L12 (((61 - (0 : Int32).toInt).toNat) + 1) (0 : Int32) g (Nat.lt_succ_self _) hI Kp.rf (by omega)
  · skip
    have th2 := i_ne h2
    rw [show (0 : Int32).toInt = 0 by decide] at th2
    refine m_bipush C (-3 : Int32) dX8_audit_7 (by decide) ?_
    exact m_iret C dX8_audit_9 ⟨_, rfl, hI, Kp.rf, (by have hl : (-3 : Int32).toInt = -3 := (by decide); omega)⟩
set_option maxRecDepth 20000 in
set_option maxHeartbeats 4000000 in
theorem c_X8_count_f (l : Launch) {X : XT} (hX : Lok X) (g : Mem) (w : Int32) (hI : Inv g) (hF : FX g) : Ctr l X yX8_count cX8_count 2 (some .int) (rmD 0) [.ref (aL X 0), .int w] g (pI (fun r g2 => g2 = g ∧ ((r.toInt = 0 ∧ (0 ≤ w.toInt ∧ w.toInt ≤ 7)) ∨ (r.toInt = -2 ∧ ¬ (0 ≤ w.toInt ∧ w.toInt ≤ 7))))) := by
  refine Ctr.of (lv := [(0, .ref (aL X 0)), (1, .int w)]) hX (by decide) rfl (Nat.le_of_ble_eq_true rfl) ?_
  intro p e s m below meth c C
  have zf0 := hF.t 16 4 (by decide)
  have zf1 := hF.t 20 5 (by decide)
  have zf2 := hF.t 30 1 (by decide)
  have zf3 := hF.t 30 2 (by decide)
  have zf4 := hF.t 0 10 (by decide)
  refine m_iload_n C dX8_count_0 1 rfl ?_
  rcases Int.lt_or_le (w).toInt 0 with h1 | h1
  · skip
    refine m_tabO C 114 dX8_count_1 (Or.inl h1) (by decide) ?_
    refine m_bipush C (-2 : Int32) dX8_count_114 (by decide) ?_
    exact m_iret C dX8_count_116 ⟨_, rfl, rfl, (by have hl : (-2 : Int32).toInt = -2 := (by decide); omega)⟩
  · skip
    by_cases h2 : (w).toInt = 0
    · skip
      refine m_tabI C 48 dX8_count_1 (by omega) (by omega) (off := 47) (by rw [h2]; rfl) (by decide) ?_
      refine m_aload_n C dX8_count_48 0 rfl ?_
      refine m_getr (rf := "") C 3 rfl gd8 (by decide) sh_0 rfl dX8_count_49 lk_X8_37 ?_
      refine m_getiN (rf := "") C 4 rfl gd4 (by decide) sh_16 rfl dX8_count_52 lk_X8_211 ?_
      have r3 := iv_size hI
      have z4 := hF.t 16 4 (by decide)
      exact m_iret C dX8_count_55 ⟨_, rfl, rfl, (by omega)⟩
    · skip
      by_cases h5 : (w).toInt = 1
      · skip
        refine m_tabI C 56 dX8_count_1 (by omega) (by omega) (off := 55) (by rw [h5]; rfl) (by decide) ?_
        refine m_aload_n C dX8_count_56 0 rfl ?_
        refine m_getr (rf := "") C 7 rfl gd8 (by decide) sh_0 rfl dX8_count_57 lk_X8_71 ?_
        refine m_getiN (rf := "") C 1 rfl gd0 (by decide) sh_30 rfl dX8_count_60 lk_X8_202 ?_
        have r6 := iv_wrt hI
        have z7 := hF.t 30 1 (by decide)
        exact m_iret C dX8_count_63 ⟨_, rfl, rfl, (by omega)⟩
      · skip
        by_cases h8 : (w).toInt = 2
        · skip
          refine m_tabI C 64 dX8_count_1 (by omega) (by omega) (off := 63) (by rw [h8]; rfl) (by decide) ?_
          refine m_aload_n C dX8_count_64 0 rfl ?_
          refine m_getr (rf := "") C 7 rfl gd8 (by decide) sh_0 rfl dX8_count_65 lk_X8_71 ?_
          refine m_getiN (rf := "") C 2 rfl gd0 (by decide) sh_30 rfl dX8_count_68 lk_X8_205 ?_
          have r9 := iv_safe hI
          have z10 := hF.t 30 2 (by decide)
          exact m_iret C dX8_count_71 ⟨_, rfl, rfl, (by omega)⟩
        · skip
          by_cases h11 : (w).toInt = 3
          · skip
            refine m_tabI C 72 dX8_count_1 (by omega) (by omega) (off := 71) (by rw [h11]; rfl) (by decide) ?_
            refine m_aload_n C dX8_count_72 0 rfl ?_
            refine m_geti (rf := "") C 10 rfl gd8 (by decide) sh_0 rfl dX8_count_73 lk_X8_82 ?_
            have z12 := hF.t 0 10 (by decide)
            refine m_if_eq C 83 dX8_count_76 (by decide) (fun h13 => ?_) (fun h13 => ?_)
            · skip
              have th13 := i_eq h13
              rw [show (0 : Int32).toInt = 0 by decide] at th13
              refine m_iconst C (0 : Int32) dX8_count_83 (by decide) ?_
              exact m_iret C dX8_count_84 ⟨_, rfl, rfl, (by have hl : (0 : Int32).toInt = 0 := (by decide); omega)⟩
            · skip
              have th13 := i_ne h13
              rw [show (0 : Int32).toInt = 0 by decide] at th13
              refine m_iconst C (1 : Int32) dX8_count_79 (by decide) ?_
              refine m_goto C 84 dX8_count_80 (by decide) ?_
              exact m_iret C dX8_count_84 ⟨_, rfl, rfl, (by have hl : (1 : Int32).toInt = 1 := (by decide); omega)⟩
          · skip
            by_cases h14 : (w).toInt = 4
            · skip
              refine m_tabI C 85 dX8_count_1 (by omega) (by omega) (off := 84) (by rw [h14]; rfl) (by decide) ?_
              refine m_aload_n C dX8_count_85 0 rfl ?_
              refine m_geti (rf := "") C 9 rfl gd8 (by decide) sh_0 rfl dX8_count_86 lk_X8_78 ?_
              have r15 := iv_time hI
              have z16 := hF.t 0 9 (by decide)
              exact m_iret C dX8_count_89 ⟨_, rfl, rfl, (by omega)⟩
            · skip
              by_cases h17 : (w).toInt = 5
              · skip
                refine m_tabI C 90 dX8_count_1 (by omega) (by omega) (off := 89) (by rw [h17]; rfl) (by decide) ?_
                refine m_aload_n C dX8_count_90 0 rfl ?_
                refine m_getr (rf := "") C 4 rfl gd8 (by decide) sh_0 rfl dX8_count_91 lk_X8_46 ?_
                refine m_getiN (rf := "") C 5 rfl gd6 (by decide) sh_20 rfl dX8_count_94 lk_X8_188 ?_
                have r18 := iv_psize hI
                have z19 := hF.t 20 5 (by decide)
                exact m_iret C dX8_count_97 ⟨_, rfl, rfl, (by omega)⟩
              · skip
                by_cases h20 : (w).toInt = 6
                · skip
                  refine m_tabI C 98 dX8_count_1 (by omega) (by omega) (off := 97) (by rw [h20]; rfl) (by decide) ?_
                  refine m_aload_n C dX8_count_98 0 rfl ?_
                  refine m_getr (rf := "") C 0 rfl gd8 (by decide) sh_0 rfl dX8_count_99 lk_X8_12 ?_
                  refine m_getiN (rf := "") C 7 rfl gd5 (by decide) sh_1 rfl dX8_count_102 lk_X8_239 ?_
                  have z21 := hF.t 1 7 (by decide)
                  exact m_iret C dX8_count_105 ⟨_, rfl, rfl, (by omega)⟩
                · skip
                  by_cases h22 : (w).toInt = 7
                  · skip
                    refine m_tabI C 106 dX8_count_1 (by omega) (by omega) (off := 105) (by rw [h22]; rfl) (by decide) ?_
                    refine m_aload_n C dX8_count_106 0 rfl ?_
                    refine m_getr (rf := "") C 0 rfl gd8 (by decide) sh_0 rfl dX8_count_107 lk_X8_12 ?_
                    refine m_getiN (rf := "") C 8 rfl gd5 (by decide) sh_1 rfl dX8_count_110 lk_X8_242 ?_
                    have z23 := hF.t 1 8 (by decide)
                    exact m_iret C dX8_count_113 ⟨_, rfl, rfl, (by omega)⟩
                  · skip
                    refine m_tabO C 114 dX8_count_1 (Or.inr (by omega)) (by decide) ?_
                    refine m_bipush C (-2 : Int32) dX8_count_114 (by decide) ?_
                    exact m_iret C dX8_count_116 ⟨_, rfl, rfl, (by have hl : (-2 : Int32).toInt = -2 := (by decide); omega)⟩
set_option maxRecDepth 20000 in
set_option maxHeartbeats 4000000 in
theorem c_X8_judgeSteps_f (l : Launch) {X : XT} (hX : Lok X) (g : Mem) (m0 : Int32) (n0 : Int32) (o : Int32) (q : Int32) (hI : Inv g) (hF : FX g) : Ctr l X yX8_judgeSteps cX8_judgeSteps 5 (some .int) (rmD 6) [.ref (aL X 0), .int m0, .int n0, .int o, .int q] g (pI (fun r g2 => Inv g2 ∧ Kp [9, 10, 11, 12, 27, 29] g g2 ∧ (((0 ≤ m0.toInt ∧ m0.toInt ≤ 60 ∧ 0 ≤ n0.toInt ∧ n0.toInt ≤ 60 ∧ 0 ≤ o.toInt ∧ o.toInt ≤ 3 ∧ 0 ≤ q.toInt ∧ q.toInt ≤ 3) ∧ ((r.toInt = 1 ∧ m0.toInt = n0.toInt ∧ 1 ≤ m0.toInt) ∨ (r.toInt = 0 ∧ ¬ (m0.toInt = n0.toInt ∧ 1 ≤ m0.toInt)))) ∨ (r.toInt = -2 ∧ ¬ (0 ≤ m0.toInt ∧ m0.toInt ≤ 60 ∧ 0 ≤ n0.toInt ∧ n0.toInt ≤ 60 ∧ 0 ≤ o.toInt ∧ o.toInt ≤ 3 ∧ 0 ≤ q.toInt ∧ q.toInt ≤ 3))))) := by
  refine Ctr.of (lv := [(0, .ref (aL X 0)), (1, .int m0), (2, .int n0), (3, .int o), (4, .int q)]) hX (by decide) rfl (Nat.le_of_ble_eq_true rfl) ?_
  intro p e s m below meth c C
  have zf0 := hF.t 16 4 (by decide)
  have zf1 := hF.t 20 5 (by decide)
  have zf2 := hF.t 30 1 (by decide)
  have zf3 := hF.t 30 2 (by decide)
  have zf4 := hF.t 0 10 (by decide)
  refine m_iload_n C dX8_judgeSteps_0 1 rfl ?_
  refine m_iconst C (0 : Int32) dX8_judgeSteps_1 (by decide) ?_
  refine m_bipush C (60 : Int32) dX8_judgeSteps_2 (by decide) ?_
  have t1 : (0 : Int32).toInt = 0 := by decide
  have t2 : (60 : Int32).toInt = 60 := by decide
  refine m_invS C cal_X8_within (c_X8_within l hX g m0 (0 : Int32) (60 : Int32) ) lk_X8_87 st_X8_within (by decide) rfl rfl (Nat.le_of_ble_eq_true rfl) dX8_judgeSteps_4 ⟨Nat.le_refl _, Nat.le_refl _⟩ (rI fun r3 g4 q5 => ?_)
  obtain ⟨eg4, ⟨rfl, h6⟩ | ⟨rfl, h6⟩⟩ := q5
  · skip
    subst g4
    refine m_if_eq C 35 dX8_judgeSteps_7 (by decide) (fun h => absurd h (by decide)) (fun _ => ?_)
    refine m_iload_n C dX8_judgeSteps_10 2 rfl ?_
    refine m_iconst C (0 : Int32) dX8_judgeSteps_11 (by decide) ?_
    refine m_bipush C (60 : Int32) dX8_judgeSteps_12 (by decide) ?_
    have t7 : (0 : Int32).toInt = 0 := by decide
    have t8 : (60 : Int32).toInt = 60 := by decide
    refine m_invS C cal_X8_within (c_X8_within l hX g n0 (0 : Int32) (60 : Int32) ) lk_X8_87 st_X8_within (by decide) rfl rfl (Nat.le_of_ble_eq_true rfl) dX8_judgeSteps_14 ⟨Nat.le_refl _, Nat.le_refl _⟩ (rI fun r9 g10 q11 => ?_)
    obtain ⟨eg10, ⟨rfl, h12⟩ | ⟨rfl, h12⟩⟩ := q11
    · skip
      subst g10
      refine m_if_eq C 35 dX8_judgeSteps_17 (by decide) (fun h => absurd h (by decide)) (fun _ => ?_)
      refine m_iload_n C dX8_judgeSteps_20 3 rfl ?_
      refine m_invS C cal_X8_isKeptRoot (c_X8_isKeptRoot l hX g o ) lk_X8_191 st_X8_isKeptRoot (by decide) rfl rfl (Nat.le_of_ble_eq_true rfl) dX8_judgeSteps_21 ⟨Nat.le_refl _, Nat.le_refl _⟩ (rI fun r13 g14 q15 => ?_)
      obtain ⟨eg14, ⟨rfl, h16⟩ | ⟨rfl, h16⟩⟩ := q15
      · skip
        subst g14
        refine m_if_eq C 35 dX8_judgeSteps_24 (by decide) (fun h => absurd h (by decide)) (fun _ => ?_)
        refine m_iload C dX8_judgeSteps_27 4 rfl ?_
        refine m_invS C cal_X8_isKeptRoot (c_X8_isKeptRoot l hX g q ) lk_X8_191 st_X8_isKeptRoot (by decide) rfl rfl (Nat.le_of_ble_eq_true rfl) dX8_judgeSteps_29 ⟨Nat.le_refl _, Nat.le_refl _⟩ (rI fun r17 g18 q19 => ?_)
        obtain ⟨eg18, ⟨rfl, h20⟩ | ⟨rfl, h20⟩⟩ := q19
        · skip
          subst g18
          refine m_if_ne C 38 dX8_judgeSteps_32 (by decide) (fun _ => ?_) (fun h => absurd h (by decide))
          refine m_aload_n C dX8_judgeSteps_38 0 rfl ?_
          refine m_getr (rf := "") C 6 rfl gd8 (by decide) sh_0 rfl dX8_judgeSteps_39 lk_X8_64 ?_
          refine m_iload_n C dX8_judgeSteps_42 1 rfl ?_
          refine m_iload_n C dX8_judgeSteps_43 2 rfl ?_
          refine m_iload_n C dX8_judgeSteps_44 3 rfl ?_
          refine m_iload C dX8_judgeSteps_45 4 rfl ?_
          refine m_invVN C cal_X3_stepsAreRight sh_27 rfl (c_X3_stepsAreRight_f l hX g m0 n0 o q hI (by omega) (by omega) hF (by omega) (by omega)) lk_X8_198 im_X3_stepsAreRight se_X3_stepsAreRight (by decide) rfl rfl (Nat.le_of_ble_eq_true rfl) dX8_judgeSteps_47 ⟨Nat.le_refl _, Nat.le_refl _⟩ (rI fun r21 g22 q23 => ?_)
          obtain ⟨hI24, hK25, p26⟩ := q23
          have hK27 : Kp [9, 10, 11, 12, 27, 29] g g22 := (Kp.rf).tr hK25 (by decide)
          refine m_if_eq C 57 dX8_judgeSteps_50 (by decide) (fun h28 => ?_) (fun h28 => ?_)
          · skip
            have th28 := i_eq h28
            rw [show (0 : Int32).toInt = 0 by decide] at th28
            refine m_iconst C (0 : Int32) dX8_judgeSteps_57 (by decide) ?_
            exact m_iret C dX8_judgeSteps_58 ⟨_, rfl, hI24, hK27, (by have hl : (0 : Int32).toInt = 0 := (by decide); omega)⟩
          · skip
            have th28 := i_ne h28
            rw [show (0 : Int32).toInt = 0 by decide] at th28
            refine m_iconst C (1 : Int32) dX8_judgeSteps_53 (by decide) ?_
            refine m_goto C 58 dX8_judgeSteps_54 (by decide) ?_
            exact m_iret C dX8_judgeSteps_58 ⟨_, rfl, hI24, hK27, (by have hl : (1 : Int32).toInt = 1 := (by decide); omega)⟩
        · skip
          subst g18
          refine m_if_ne C 38 dX8_judgeSteps_32 (by decide) (fun h => absurd (by decide) h) (fun _ => ?_)
          refine m_bipush C (-2 : Int32) dX8_judgeSteps_35 (by decide) ?_
          exact m_iret C dX8_judgeSteps_37 ⟨_, rfl, hI, Kp.rf, (by have hl : (-2 : Int32).toInt = -2 := (by decide); omega)⟩
      · skip
        subst g14
        refine m_if_eq C 35 dX8_judgeSteps_24 (by decide) (fun _ => ?_) (fun h => absurd (by decide) h)
        refine m_bipush C (-2 : Int32) dX8_judgeSteps_35 (by decide) ?_
        exact m_iret C dX8_judgeSteps_37 ⟨_, rfl, hI, Kp.rf, (by have hl : (-2 : Int32).toInt = -2 := (by decide); omega)⟩
    · skip
      subst g10
      refine m_if_eq C 35 dX8_judgeSteps_17 (by decide) (fun _ => ?_) (fun h => absurd (by decide) h)
      refine m_bipush C (-2 : Int32) dX8_judgeSteps_35 (by decide) ?_
      exact m_iret C dX8_judgeSteps_37 ⟨_, rfl, hI, Kp.rf, (by have hl : (-2 : Int32).toInt = -2 := (by decide); omega)⟩
  · skip
    subst g4
    refine m_if_eq C 35 dX8_judgeSteps_7 (by decide) (fun _ => ?_) (fun h => absurd (by decide) h)
    refine m_bipush C (-2 : Int32) dX8_judgeSteps_35 (by decide) ?_
    exact m_iret C dX8_judgeSteps_37 ⟨_, rfl, hI, Kp.rf, (by have hl : (-2 : Int32).toInt = -2 := (by decide); omega)⟩
set_option maxRecDepth 20000 in
set_option maxHeartbeats 4000000 in
theorem c_X8_root_f (l : Launch) {X : XT} (hX : Lok X) (g : Mem) (n0 : Int32) (k : Int32) (hI : Inv g) (hF : FX g) : Ctr l X yX8_root cX8_root 3 (some .int) (rmD 5) [.ref (aL X 0), .int n0, .int k] g (pI (fun r g2 => Inv g2 ∧ Kp [9, 10, 11, 12, 33] g g2 ∧ ((n0.toInt = 0 → hs_A 0 0 0 k r) ∧ (n0.toInt ≠ 0 → r.toInt = -2)))) := by
  refine Ctr.of (lv := [(0, .ref (aL X 0)), (1, .int n0), (2, .int k)]) hX (by decide) rfl (Nat.le_of_ble_eq_true rfl) ?_
  intro p e s m below meth c C
  have zf0 := hF.t 16 4 (by decide)
  have zf1 := hF.t 20 5 (by decide)
  have zf2 := hF.t 30 1 (by decide)
  have zf3 := hF.t 30 2 (by decide)
  have zf4 := hF.t 0 10 (by decide)
  refine m_aload_n C dX8_root_0 0 rfl ?_
  refine m_iload_n C dX8_root_1 1 rfl ?_
  refine m_invV C cal_X8_isLength sh_0 rfl (c_X8_isLength l hX g n0 hI) lk_X8_154 im_X8_isLength se_X8_isLength (by decide) rfl rfl (Nat.le_of_ble_eq_true rfl) dX8_root_2 ⟨Nat.le_refl _, Nat.le_refl _⟩ (rI fun r1 g2 q3 => ?_)
  obtain ⟨eg2, ⟨rfl, h4⟩ | ⟨rfl, h4⟩⟩ := q3
  · skip
    subst g2
    have r5 := iv_size hI
    refine m_if_eq C 15 dX8_root_5 (by decide) (fun h => absurd h (by decide)) (fun _ => ?_)
    refine m_iload_n C dX8_root_8 2 rfl ?_
    refine m_invS C cal_X8_isHashByte (c_X8_isHashByte l hX g k ) lk_X8_157 st_X8_isHashByte (by decide) rfl rfl (Nat.le_of_ble_eq_true rfl) dX8_root_9 ⟨Nat.le_refl _, Nat.le_refl _⟩ (rI fun r6 g7 q8 => ?_)
    obtain ⟨eg7, ⟨rfl, h9⟩ | ⟨rfl, h9⟩⟩ := q8
    · skip
      subst g7
      refine m_if_ne C 18 dX8_root_12 (by decide) (fun _ => ?_) (fun h => absurd h (by decide))
      refine m_aload_n C dX8_root_18 0 rfl ?_
      refine m_getr (rf := "") C 2 rfl gd8 (by decide) sh_0 rfl dX8_root_19 lk_X8_28 ?_
      refine m_iconst C (0 : Int32) dX8_root_22 (by decide) ?_
      refine m_iload_n C dX8_root_23 1 rfl ?_
      refine m_aload_n C dX8_root_24 0 rfl ?_
      refine m_getr (rf := "") C 8 rfl gd8 (by decide) sh_0 rfl dX8_root_25 lk_X8_75 ?_
      refine m_iconst C (0 : Int32) dX8_root_28 (by decide) ?_
      have t10 : (0 : Int32).toInt = 0 := by decide
      have t11 : (0 : Int32).toInt = 0 := by decide
      refine m_invVN C cal_X7_rootOf sh_13 rfl (c_X7_rootOf_f l hX g (0 : Int32) n0 (0 : Int32) hI (by omega) (by omega) rfl) lk_X8_163 im_X7_rootOf se_X7_rootOf (by decide) rfl rfl (Nat.le_of_ble_eq_true rfl) dX8_root_29 ⟨Nat.le_refl _, Nat.le_refl _⟩ (rV fun g13 q14 => ?_)
      obtain ⟨hI15, hK16, p17⟩ := q14
      have hK18 : Kp [9, 10, 11, 12, 33] g g13 := (Kp.rf).tr hK16 (by decide)
      refine m_aload_n C dX8_root_32 0 rfl ?_
      refine m_getr (rf := "") C 8 rfl gd8 (by decide) sh_0 rfl dX8_root_33 lk_X8_75 ?_
      refine m_iconst C (0 : Int32) dX8_root_36 (by decide) ?_
      refine m_iload_n C dX8_root_37 2 rfl ?_
      have t19 : (0 : Int32).toInt = 0 := by decide
      refine m_invVN C cal_X2_byteAt sh_32 rfl (c_X2_byteAt_e l hX g13 (0 : Int32) k hI15 rfl (by omega)) lk_X8_167 im_X2_byteAt se_X2_byteAt (by decide) rfl rfl (Nat.le_of_ble_eq_true rfl) dX8_root_38 ⟨Nat.le_refl _, Nat.le_refl _⟩ (rI fun r20 g21 q22 => ?_)
      obtain ⟨eg21, p23⟩ := q22
      subst g21
      exact m_iret C dX8_root_41 ⟨_, rfl, hI15, hK18, ⟨fun _ => hs_good (by decide) (by decide) (by omega) (by omega) p17 p23, fun _ => False.elim (by omega)⟩⟩
    · skip
      subst g7
      refine m_if_ne C 18 dX8_root_12 (by decide) (fun h => absurd (by decide) h) (fun _ => ?_)
      refine m_bipush C (-2 : Int32) dX8_root_15 (by decide) ?_
      exact m_iret C dX8_root_17 ⟨_, rfl, hI, Kp.rf, ⟨fun _ => hs_bad (by have hl : (0 : Int32).toInt = 0 := (by decide); omega), fun _ => by decide⟩⟩
  · skip
    subst g2
    have r24 := iv_size hI
    refine m_if_eq C 15 dX8_root_5 (by decide) (fun _ => ?_) (fun h => absurd (by decide) h)
    refine m_bipush C (-2 : Int32) dX8_root_15 (by decide) ?_
    exact m_iret C dX8_root_17 ⟨_, rfl, hI, Kp.rf, ⟨fun _ => hs_bad (by have hl : (0 : Int32).toInt = 0 := (by decide); omega), fun _ => by decide⟩⟩
set_option maxRecDepth 20000 in
set_option maxHeartbeats 4000000 in
theorem c_X8_sync_f (l : Launch) {X : XT} (hX : Lok X) (g : Mem)  (hI : Inv g) (hF : FX g) : Ctr l X yX8_sync cX8_sync 1 (some .int) (rmD 0) [.ref (aL X 0)] g (pI (fun r g2 => Inv g2 ∧ Kp [30] g g2 ∧ (r.toInt = 0))) := by
  refine Ctr.of (lv := [(0, .ref (aL X 0))]) hX (by decide) rfl (Nat.le_of_ble_eq_true rfl) ?_
  intro p e s m below meth c C
  have zf0 := hF.t 16 4 (by decide)
  have zf1 := hF.t 20 5 (by decide)
  have zf2 := hF.t 30 1 (by decide)
  have zf3 := hF.t 30 2 (by decide)
  have zf4 := hF.t 0 10 (by decide)
  refine m_aload_n C dX8_sync_0 0 rfl ?_
  refine m_geti (rf := "") C 10 rfl gd8 (by decide) sh_0 rfl dX8_sync_1 lk_X8_82 ?_
  have z1 := hF.t 0 10 (by decide)
  refine m_if_eq C 10 dX8_sync_4 (by decide) (fun h2 => ?_) (fun h2 => ?_)
  · skip
    have th2 := i_eq h2
    rw [show (0 : Int32).toInt = 0 by decide] at th2
    refine m_aload_n C dX8_sync_10 0 rfl ?_
    refine m_getr (rf := "") C 7 rfl gd8 (by decide) sh_0 rfl dX8_sync_11 lk_X8_71 ?_
    refine m_aload_n C dX8_sync_14 0 rfl ?_
    refine m_getr (rf := "") C 7 rfl gd8 (by decide) sh_0 rfl dX8_sync_15 lk_X8_71 ?_
    refine m_getiN (rf := "") C 1 rfl gd0 (by decide) sh_30 rfl dX8_sync_18 lk_X8_202 ?_
    have r3 := iv_wrt hI
    have z4 := hF.t 30 1 (by decide)
    refine m_putN (rf := "") C 2 rfl gd0 (by decide) tyX0 tyX0_ok nmX0 rfl (tyX0_ok 2 (by decide)) rfl rfl sh_30 rfl dX8_sync_21 lk_X8_205 ?_
    refine m_mem (fun g5 eg5 => ?_)
    have hI6 : Inv g5 := by rw [eg5]; exact hI.up (ok_safe (by omega) (by omega))
    have hK7 : Kp [30] g g5 := by rw [eg5]; exact Kp.up Kp.rf (by decide) (Or.inl (by decide)) (Or.inl (by decide))
    have ev8 : g5 0 10 = g 0 10 := by rw [eg5]; exact up2_nei (Or.inl (by decide))
    have tev8 := congrArg Int32.toInt ev8
    have ev9 : g5 30 1 = g 30 1 := by rw [eg5]; exact up2_nei (Or.inr (by decide))
    have tev9 := congrArg Int32.toInt ev9
    have w10 : g5 30 2 = g 30 1 := by rw [eg5]; exact up2_self
    have tw10 := congrArg Int32.toInt w10
    refine m_aload_n C dX8_sync_24 0 rfl ?_
    refine m_getr (rf := "") C 7 rfl gd8 (by decide) sh_0 rfl dX8_sync_25 lk_X8_71 ?_
    refine m_getiN (rf := "") C 2 rfl gd0 (by decide) sh_30 rfl dX8_sync_28 lk_X8_205 ?_
    have r11 := iv_safe hI6
    have z12 := hF.t 30 2 (by decide)
    exact m_iret C dX8_sync_31 ⟨_, rfl, hI6, hK7, (by omega)⟩
  · skip
    have th2 := i_ne h2
    rw [show (0 : Int32).toInt = 0 by decide] at th2
    refine m_bipush C (-3 : Int32) dX8_sync_7 (by decide) ?_
    exact m_iret C dX8_sync_9 ⟨_, rfl, hI, Kp.rf, (by have hl : (-3 : Int32).toInt = -3 := (by decide); omega)⟩
set_option maxRecDepth 20000 in
set_option maxHeartbeats 4000000 in
theorem c_X8_cut_f (l : Launch) {X : XT} (hX : Lok X) (g : Mem) (k : Int32) (hI : Inv g) (hF : FX g) : Ctr l X yX8_cut cX8_cut 2 (some .int) (rmD 2) [.ref (aL X 0), .int k] g (pI (fun r g2 => Inv g2 ∧ Kp [0, 16, 30, 31] g g2 ∧ ((r.toInt = 0 ∧ (0 ≤ k.toInt ∧ k.toInt ≤ 1020)) ∨ (r.toInt = -2 ∧ ¬ (0 ≤ k.toInt ∧ k.toInt ≤ 1020))))) := by
  refine Ctr.of (lv := [(0, .ref (aL X 0)), (1, .int k)]) hX (by decide) rfl (Nat.le_of_ble_eq_true rfl) ?_
  intro p e s m below meth c C
  have zf0 := hF.t 16 4 (by decide)
  have zf1 := hF.t 20 5 (by decide)
  have zf2 := hF.t 30 1 (by decide)
  have zf3 := hF.t 30 2 (by decide)
  have zf4 := hF.t 0 10 (by decide)
  refine m_iload_n C dX8_cut_0 1 rfl ?_
  refine m_iconst C (0 : Int32) dX8_cut_1 (by decide) ?_
  refine m_sipush C (1020 : Int32) dX8_cut_2 (by decide) ?_
  have t1 : (0 : Int32).toInt = 0 := by decide
  have t2 : (1020 : Int32).toInt = 1020 := by decide
  refine m_invS C cal_X8_within (c_X8_within l hX g k (0 : Int32) (1020 : Int32) ) lk_X8_87 st_X8_within (by decide) rfl rfl (Nat.le_of_ble_eq_true rfl) dX8_cut_5 ⟨Nat.le_refl _, Nat.le_refl _⟩ (rI fun r3 g4 q5 => ?_)
  obtain ⟨eg4, ⟨rfl, h6⟩ | ⟨rfl, h6⟩⟩ := q5
  · skip
    subst g4
    refine m_if_ne C 14 dX8_cut_8 (by decide) (fun _ => ?_) (fun h => absurd h (by decide))
    refine m_aload_n C dX8_cut_14 0 rfl ?_
    refine m_geti (rf := "") C 10 rfl gd8 (by decide) sh_0 rfl dX8_cut_15 lk_X8_82 ?_
    have z7 := hF.t 0 10 (by decide)
    refine m_if_eq C 24 dX8_cut_18 (by decide) (fun h8 => ?_) (fun h8 => ?_)
    · skip
      have th8 := i_eq h8
      rw [show (0 : Int32).toInt = 0 by decide] at th8
      refine m_aload_n C dX8_cut_24 0 rfl ?_
      refine m_getr (rf := "") C 7 rfl gd8 (by decide) sh_0 rfl dX8_cut_25 lk_X8_71 ?_
      refine m_iload_n C dX8_cut_28 1 rfl ?_
      refine m_invVN C cal_X0_losePower sh_30 rfl (c_X0_losePower_f l hX g k hI (by omega) hF) lk_X8_208 im_X0_losePower se_X0_losePower (by decide) rfl rfl (Nat.le_of_ble_eq_true rfl) dX8_cut_29 ⟨Nat.le_refl _, Nat.le_refl _⟩ (rV fun g10 q11 => ?_)
      obtain ⟨hI12, hK13, p14⟩ := q11
      have ev15 : g10 0 10 = g 0 10 := congrFun (hK13.1 0 (by decide)) 10
      have tev15 := congrArg Int32.toInt ev15
      have hK16 : Kp [0, 16, 30, 31] g g10 := (Kp.rf).tr hK13 (by decide)
      refine m_aload_n C dX8_cut_32 0 rfl ?_
      refine m_getr (rf := "") C 3 rfl gd8 (by decide) sh_0 rfl dX8_cut_33 lk_X8_37 ?_
      refine m_iconst C (0 : Int32) dX8_cut_36 (by decide) ?_
      refine m_putN (rf := "") C 4 rfl gd4 (by decide) tyX4 tyX4_ok nmX4 rfl (tyX4_ok 4 (by decide)) rfl rfl sh_16 rfl dX8_cut_37 lk_X8_211 ?_
      refine m_mem (fun g17 eg17 => ?_)
      have hI18 : Inv g17 := by rw [eg17]; exact hI12.up (ok_size (by decide) (by decide))
      have hK19 : Kp [0, 16, 30, 31] g g17 := by rw [eg17]; exact Kp.up hK16 (by decide) (Or.inl (by decide)) (Or.inl (by decide))
      have ev20 : g17 0 10 = g10 0 10 := by rw [eg17]; exact up2_nei (Or.inl (by decide))
      have tev20 := congrArg Int32.toInt ev20
      refine m_aload_n C dX8_cut_40 0 rfl ?_
      refine m_iconst C (1 : Int32) dX8_cut_41 (by decide) ?_
      refine m_put (rf := "") C 10 rfl gd8 (by decide) tyX8 tyX8_ok nmX8 rfl (tyX8_ok 10 (by decide)) (by decide) (by decide) sh_0 rfl dX8_cut_42 lk_X8_82 ?_
      refine m_mem (fun g21 eg21 => ?_)
      have hI22 : Inv g21 := by rw [eg21]; exact hI18.up (ok_shut (Or.inr rfl))
      have hK23 : Kp [0, 16, 30, 31] g g21 := by rw [eg21]; exact Kp.up hK19 (by decide) (Or.inl (by decide)) (Or.inr (by decide))
      refine m_aload_n C dX8_cut_45 0 rfl ?_
      refine m_getr (rf := "") C 7 rfl gd8 (by decide) sh_0 rfl dX8_cut_46 lk_X8_71 ?_
      refine m_getiN (rf := "") C 1 rfl gd0 (by decide) sh_30 rfl dX8_cut_49 lk_X8_202 ?_
      have r24 := iv_wrt hI22
      have z25 := hF.t 30 1 (by decide)
      exact m_iret C dX8_cut_52 ⟨_, rfl, hI22, hK23, Or.inl ⟨by rw [eg21, up2_ne (by decide), eg17, up2_ne (by decide)]; exact p14, by omega⟩⟩
    · skip
      have th8 := i_ne h8
      rw [show (0 : Int32).toInt = 0 by decide] at th8
      refine m_bipush C (-3 : Int32) dX8_cut_21 (by decide) ?_
      exact m_iret C dX8_cut_23 ⟨_, rfl, hI, Kp.rf, (by have hl : (-3 : Int32).toInt = -3 := (by decide); omega)⟩
  · skip
    subst g4
    refine m_if_ne C 14 dX8_cut_8 (by decide) (fun h => absurd (by decide) h) (fun _ => ?_)
    refine m_bipush C (-2 : Int32) dX8_cut_11 (by decide) ?_
    exact m_iret C dX8_cut_13 ⟨_, rfl, hI, Kp.rf, (by have hl : (-2 : Int32).toInt = -2 := (by decide); omega)⟩
set_option maxRecDepth 20000 in
set_option maxHeartbeats 4000000 in
theorem c_X8_digest_f (l : Launch) {X : XT} (hX : Lok X) (g : Mem)  (hI : Inv g) (hF : FX g) : Ctr l X yX8_digest cX8_digest 5 (some .long) (rmD 3) [.ref (aL X 0)] g (pJ (fun r g2 => Inv g2 ∧ Kp [] g g2 ∧ (r = dz 1106))) := by
  refine Ctr.of (lv := [(0, .ref (aL X 0))]) hX (by decide) rfl (Nat.le_of_ble_eq_true rfl) ?_
  intro p e s m below meth c C
  have zf0 := hF.t 16 4 (by decide)
  have zf1 := hF.t 20 5 (by decide)
  have zf2 := hF.t 30 1 (by decide)
  have zf3 := hF.t 30 2 (by decide)
  have zf4 := hF.t 0 10 (by decide)
  refine m_ldc2 C (17) dX8_digest_0 lk_X8_245 ?_
  refine m_nameJ (fun x1 ex1 => ?_)
  refine m_lstore_n C [(1, .long x1), (0, .ref (aL X 0))] dX8_digest_3 (by decide) rfl ?_
  refine m_iconst C (0 : Int32) dX8_digest_4 (by decide) ?_
  refine m_istore_n C [(3, .int (0 : Int32)), (1, .long x1), (0, .ref (aL X 0))] dX8_digest_5 (by decide) rfl ?_
  have L6 : ∀ (n6 : Nat) (x3 : Int64) (x4 : Int32) (g5 : Mem), (13 - x4.toInt).toNat < n6 → Inv g5 → Kp [] g g5 → 0 ≤ x4.toInt ∧ x4.toInt ≤ 12 → x3 = dz (4 * x4.toInt).toNat → Wm X p l e (rmD 3) s m ([.ref (aL X 0)] : List Value).toArray below meth c 5 0 0 (MQ below (cQ X (pJ (fun r g2 => Inv g2 ∧ Kp [] g g2 ∧ (r = dz 1106)))) ([.ref (aL X 0)] : List Value).toArray s 0 0 (Ab X)) g5 6 [(0, .ref (aL X 0)), (1, .long x3), (3, .int x4)] [] := by
    intro n6
    induction n6 with
    | zero => intro x3 x4 g5 hm; exact absurd hm (Nat.not_lt_zero _)
    | succ n6 ih6 =>
      intro x3 x4 g5 hm6 hI6 hK7 i8 i9
      obtain ⟨i8a, i8b⟩ := i8
      refine m_iload_n C dX8_digest_6 2 rfl ?_
      refine m_bipush C (12 : Int32) dX8_digest_7 (by decide) ?_
      refine m_icmp_ge C 48 dX8_digest_9 (by decide) (fun h10 => ?_) (fun h10 => ?_)
      · skip
        have th10 := i_le h10
        rw [show (12 : Int32).toInt = 12 by decide] at th10
        refine m_iconst C (0 : Int32) dX8_digest_48 (by decide) ?_
        refine m_istore_n C [(3, .int (0 : Int32)), (0, .ref (aL X 0)), (1, .long x3)] dX8_digest_49 (by decide) rfl ?_
        have L50 : ∀ (n50 : Nat) (x12 : Int64) (x13 : Int32) (g14 : Mem), (17 - x13.toInt).toNat < n50 → Inv g14 → Kp [] g g14 → 0 ≤ x13.toInt ∧ x13.toInt ≤ 16 → x12 = dz (48 + 2 * x13.toInt).toNat → Wm X p l e (rmD 3) s m ([.ref (aL X 0)] : List Value).toArray below meth c 5 0 0 (MQ below (cQ X (pJ (fun r g2 => Inv g2 ∧ Kp [] g g2 ∧ (r = dz 1106)))) ([.ref (aL X 0)] : List Value).toArray s 0 0 (Ab X)) g14 50 [(0, .ref (aL X 0)), (1, .long x12), (3, .int x13)] [] := by
          intro n50
          induction n50 with
          | zero => intro x12 x13 g14 hm; exact absurd hm (Nat.not_lt_zero _)
          | succ n50 ih50 =>
            intro x12 x13 g14 hm50 hI15 hK16 i17 i18
            obtain ⟨i17a, i17b⟩ := i17
            refine m_iload_n C dX8_digest_50 2 rfl ?_
            refine m_bipush C (16 : Int32) dX8_digest_51 (by decide) ?_
            refine m_icmp_ge C 92 dX8_digest_53 (by decide) (fun h19 => ?_) (fun h19 => ?_)
            · skip
              have th19 := i_le h19
              rw [show (16 : Int32).toInt = 16 by decide] at th19
              refine m_iconst C (0 : Int32) dX8_digest_92 (by decide) ?_
              refine m_istore_n C [(3, .int (0 : Int32)), (0, .ref (aL X 0)), (1, .long x12)] dX8_digest_93 (by decide) rfl ?_
              have L94 : ∀ (n94 : Nat) (x21 : Int64) (x22 : Int32) (g23 : Mem), (1021 - x22.toInt).toNat < n94 → Inv g23 → Kp [] g g23 → 0 ≤ x22.toInt ∧ x22.toInt ≤ 1020 → x21 = dz (80 + x22.toInt).toNat → Wm X p l e (rmD 3) s m ([.ref (aL X 0)] : List Value).toArray below meth c 5 0 0 (MQ below (cQ X (pJ (fun r g2 => Inv g2 ∧ Kp [] g g2 ∧ (r = dz 1106)))) ([.ref (aL X 0)] : List Value).toArray s 0 0 (Ab X)) g23 94 [(0, .ref (aL X 0)), (1, .long x21), (3, .int x22)] [] := by
                intro n94
                induction n94 with
                | zero => intro x21 x22 g23 hm; exact absurd hm (Nat.not_lt_zero _)
                | succ n94 ih94 =>
                  intro x21 x22 g23 hm94 hI24 hK25 i26 i27
                  obtain ⟨i26a, i26b⟩ := i26
                  refine m_iload_n C dX8_digest_94 2 rfl ?_
                  refine m_sipush C (1020 : Int32) dX8_digest_95 (by decide) ?_
                  refine m_icmp_ge C 124 dX8_digest_98 (by decide) (fun h28 => ?_) (fun h28 => ?_)
                  · skip
                    have th28 := i_le h28
                    rw [show (1020 : Int32).toInt = 1020 by decide] at th28
                    refine m_iconst C (0 : Int32) dX8_digest_124 (by decide) ?_
                    refine m_istore_n C [(3, .int (0 : Int32)), (0, .ref (aL X 0)), (1, .long x21)] dX8_digest_125 (by decide) rfl ?_
                    have L126 : ∀ (n126 : Nat) (x30 : Int64) (x31 : Int32) (g32 : Mem), (7 - x31.toInt).toNat < n126 → Inv g32 → Kp [] g g32 → 0 ≤ x31.toInt ∧ x31.toInt ≤ 6 → x30 = dz (1100 + x31.toInt).toNat → Wm X p l e (rmD 3) s m ([.ref (aL X 0)] : List Value).toArray below meth c 5 0 0 (MQ below (cQ X (pJ (fun r g2 => Inv g2 ∧ Kp [] g g2 ∧ (r = dz 1106)))) ([.ref (aL X 0)] : List Value).toArray s 0 0 (Ab X)) g32 126 [(0, .ref (aL X 0)), (1, .long x30), (3, .int x31)] [] := by
                      intro n126
                      induction n126 with
                      | zero => intro x30 x31 g32 hm; exact absurd hm (Nat.not_lt_zero _)
                      | succ n126 ih126 =>
                        intro x30 x31 g32 hm126 hI33 hK34 i35 i36
                        obtain ⟨i35a, i35b⟩ := i35
                        refine m_iload_n C dX8_digest_126 2 rfl ?_
                        refine m_bipush C (6 : Int32) dX8_digest_127 (by decide) ?_
                        refine m_icmp_ge C 151 dX8_digest_129 (by decide) (fun h37 => ?_) (fun h37 => ?_)
                        · skip
                          have th37 := i_le h37
                          rw [show (6 : Int32).toInt = 6 by decide] at th37
                          refine m_lload_n C dX8_digest_151 1 rfl ?_
                          exact m_lret C dX8_digest_152 ⟨_, rfl, hI33, hK34, (dz_e i36 (by omega))⟩
                        · skip
                          have th37 := i_nle h37
                          rw [show (6 : Int32).toInt = 6 by decide] at th37
                          refine m_ldc2 C (31) dX8_digest_132 lk_X8_247 ?_
                          refine m_lload_n C dX8_digest_135 1 rfl ?_
                          refine m_lmul C dX8_digest_136 ?_
                          refine m_nameJ (fun x38 ex38 => ?_)
                          try have hjt := hju
                          try have hju := hjw
                          try have hjw := hjv
                          have hjv := ex38
                          refine m_aload_n C dX8_digest_137 0 rfl ?_
                          refine m_iload_n C dX8_digest_138 2 rfl ?_
                          refine m_invV C cal_X8_count sh_0 rfl (c_X8_count_f l hX g32 x31 hI33 (hF.kp hK34)) lk_X8_255 im_X8_count se_X8_count (by decide) rfl rfl (Nat.le_of_ble_eq_true rfl) dX8_digest_139 ⟨Nat.le_refl _, Nat.le_refl _⟩ (rI fun r39 g40 q41 => ?_)
                          obtain ⟨eg40, p42⟩ := q41
                          subst g40
                          refine m_i2l C dX8_digest_142 ?_
                          refine m_ladd C dX8_digest_143 ?_
                          refine m_nameJ (fun x43 ex43 => ?_)
                          try have hjt := hju
                          try have hju := hjw
                          try have hjw := hjv
                          have hjv := ex43
                          refine m_lstore_n C [(1, .long x43), (0, .ref (aL X 0)), (3, .int x31)] dX8_digest_144 (by decide) rfl ?_
                          obtain ⟨x45, ex45⟩ : ∃ z : Int32, z = x31 + Int32.ofInt 1 := ⟨_, rfl⟩
                          have t46 : (x31 + (Int32.ofInt 1)).toInt = x31.toInt + (1 : Int) := i_add rfl (by decide) (by omega) (by omega)
                          have t47 : x45.toInt = (x31.toInt + (1 : Int)) := (congrArg Int32.toInt ex45).trans t46
                          refine m_iinc C x45 [(3, .int x45), (1, .long x43), (0, .ref (aL X 0))] dX8_digest_145 (q := 2) rfl ex45.symm (by decide) rfl ?_
                          refine m_goto C 126 dX8_digest_148 (by decide) ?_
                          refine m_lv [2, 1, 0] rfl ?_
                          exact ih126 x43 x45 g32 (by omega) hI33 hK34 (by omega) (dz_s hjw hjv (by omega) i36 (by omega))
                    have t48 : (0 : Int32).toInt = 0 := by decide
                    refine m_lv [1, 2, 0] rfl ?_
                    exact L126 (((7 - (0 : Int32).toInt).toNat) + 1) x21 (0 : Int32) g23 (Nat.lt_succ_self _) hI24 hK25 (by omega) (dz_e i27 (by omega))
                  · skip
                    have th28 := i_nle h28
                    rw [show (1020 : Int32).toInt = 1020 by decide] at th28
                    refine m_ldc2 C (31) dX8_digest_101 lk_X8_247 ?_
                    refine m_lload_n C dX8_digest_104 1 rfl ?_
                    refine m_lmul C dX8_digest_105 ?_
                    refine m_nameJ (fun x49 ex49 => ?_)
                    try have hjt := hju
                    try have hju := hjw
                    try have hjw := hjv
                    have hjv := ex49
                    refine m_aload_n C dX8_digest_106 0 rfl ?_
                    refine m_getr (rf := "") C 7 rfl gd8 (by decide) sh_0 rfl dX8_digest_107 lk_X8_71 ?_
                    refine m_getrN (rf := "") C 0 rfl gd0 (by decide) sh_30 rfl dX8_digest_110 lk_X8_221 ?_
                    refine m_iload_n C dX8_digest_113 2 rfl ?_
                    refine m_iald C sh_31 (i_in (by omega) (by omega)) dX8_digest_114 ?_
                    have z50 : (g23 31 x22.toNatClampNeg).toInt = 0 := by rw [hK25.1 31 (by decide)]; exact hF.t 31 _ (by decide)
                    refine m_i2l C dX8_digest_115 ?_
                    refine m_ladd C dX8_digest_116 ?_
                    refine m_nameJ (fun x51 ex51 => ?_)
                    try have hjt := hju
                    try have hju := hjw
                    try have hjw := hjv
                    have hjv := ex51
                    refine m_lstore_n C [(1, .long x51), (0, .ref (aL X 0)), (3, .int x22)] dX8_digest_117 (by decide) rfl ?_
                    obtain ⟨x53, ex53⟩ : ∃ z : Int32, z = x22 + Int32.ofInt 1 := ⟨_, rfl⟩
                    have t54 : (x22 + (Int32.ofInt 1)).toInt = x22.toInt + (1 : Int) := i_add rfl (by decide) (by omega) (by omega)
                    have t55 : x53.toInt = (x22.toInt + (1 : Int)) := (congrArg Int32.toInt ex53).trans t54
                    refine m_iinc C x53 [(3, .int x53), (1, .long x51), (0, .ref (aL X 0))] dX8_digest_118 (q := 2) rfl ex53.symm (by decide) rfl ?_
                    refine m_goto C 94 dX8_digest_121 (by decide) ?_
                    refine m_lv [2, 1, 0] rfl ?_
                    exact ih94 x51 x53 g23 (by omega) hI24 hK25 (by omega) (dz_s hjw hjv (by omega) i27 (by omega))
              have t56 : (0 : Int32).toInt = 0 := by decide
              refine m_lv [1, 2, 0] rfl ?_
              exact L94 (((1021 - (0 : Int32).toInt).toNat) + 1) x12 (0 : Int32) g14 (Nat.lt_succ_self _) hI15 hK16 (by omega) (dz_e i18 (by omega))
            · skip
              have th19 := i_nle h19
              rw [show (16 : Int32).toInt = 16 by decide] at th19
              refine m_iconst C (0 : Int32) dX8_digest_56 (by decide) ?_
              refine m_istore C [(4, .int (0 : Int32)), (0, .ref (aL X 0)), (1, .long x12), (3, .int x13)] dX8_digest_57 (by decide) rfl ?_
              have L59 : ∀ (n59 : Nat) (x58 : Int64) (x59 : Int32) (g60 : Mem), (3 - x59.toInt).toNat < n59 → Inv g60 → Kp [] g g60 → 0 ≤ x59.toInt ∧ x59.toInt ≤ 2 → x58 = dz (48 + 2 * x13.toInt + x59.toInt).toNat → Wm X p l e (rmD 3) s m ([.ref (aL X 0)] : List Value).toArray below meth c 5 0 0 (MQ below (cQ X (pJ (fun r g2 => Inv g2 ∧ Kp [] g g2 ∧ (r = dz 1106)))) ([.ref (aL X 0)] : List Value).toArray s 0 0 (Ab X)) g60 59 [(0, .ref (aL X 0)), (1, .long x58), (3, .int x13), (4, .int x59)] [] := by
                intro n59
                induction n59 with
                | zero => intro x58 x59 g60 hm; exact absurd hm (Nat.not_lt_zero _)
                | succ n59 ih59 =>
                  intro x58 x59 g60 hm59 hI61 hK62 i63 i64
                  obtain ⟨i63a, i63b⟩ := i63
                  refine m_iload C dX8_digest_59 3 rfl ?_
                  refine m_iconst C (2 : Int32) dX8_digest_61 (by decide) ?_
                  refine m_icmp_ge C 86 dX8_digest_62 (by decide) (fun h65 => ?_) (fun h65 => ?_)
                  · skip
                    have th65 := i_le h65
                    rw [show (2 : Int32).toInt = 2 by decide] at th65
                    obtain ⟨x66, ex66⟩ : ∃ z : Int32, z = x13 + Int32.ofInt 1 := ⟨_, rfl⟩
                    have t67 : (x13 + (Int32.ofInt 1)).toInt = x13.toInt + (1 : Int) := i_add rfl (by decide) (by omega) (by omega)
                    have t68 : x66.toInt = (x13.toInt + (1 : Int)) := (congrArg Int32.toInt ex66).trans t67
                    refine m_iinc C x66 [(3, .int x66), (0, .ref (aL X 0)), (1, .long x58), (4, .int x59)] dX8_digest_86 (q := 2) rfl ex66.symm (by decide) rfl ?_
                    refine m_goto C 50 dX8_digest_89 (by decide) ?_
                    refine m_lv [1, 2, 0] rfl ?_
                    exact ih50 x58 x66 g60 (by omega) hI61 hK62 (by omega) (dz_e i64 (by omega))
                  · skip
                    have th65 := i_nle h65
                    rw [show (2 : Int32).toInt = 2 by decide] at th65
                    refine m_ldc2 C (31) dX8_digest_65 lk_X8_247 ?_
                    refine m_lload_n C dX8_digest_68 1 rfl ?_
                    refine m_lmul C dX8_digest_69 ?_
                    refine m_nameJ (fun x69 ex69 => ?_)
                    try have hjt := hju
                    try have hju := hjw
                    try have hjw := hjv
                    have hjv := ex69
                    refine m_aload_n C dX8_digest_70 0 rfl ?_
                    refine m_iload_n C dX8_digest_71 2 rfl ?_
                    refine m_iload C dX8_digest_72 3 rfl ?_
                    refine m_invV C cal_X8_objectAt sh_0 rfl (c_X8_objectAt_f l hX g60 x13 x59 hI61 (hF.kp hK62)) lk_X8_252 im_X8_objectAt se_X8_objectAt (by decide) rfl rfl (Nat.le_of_ble_eq_true rfl) dX8_digest_74 ⟨Nat.le_refl _, Nat.le_refl _⟩ (rI fun r70 g71 q72 => ?_)
                    obtain ⟨eg71, p73⟩ := q72
                    subst g71
                    refine m_i2l C dX8_digest_77 ?_
                    refine m_ladd C dX8_digest_78 ?_
                    refine m_nameJ (fun x74 ex74 => ?_)
                    try have hjt := hju
                    try have hju := hjw
                    try have hjw := hjv
                    have hjv := ex74
                    refine m_lstore_n C [(1, .long x74), (0, .ref (aL X 0)), (3, .int x13), (4, .int x59)] dX8_digest_79 (by decide) rfl ?_
                    obtain ⟨x76, ex76⟩ : ∃ z : Int32, z = x59 + Int32.ofInt 1 := ⟨_, rfl⟩
                    have t77 : (x59 + (Int32.ofInt 1)).toInt = x59.toInt + (1 : Int) := i_add rfl (by decide) (by omega) (by omega)
                    have t78 : x76.toInt = (x59.toInt + (1 : Int)) := (congrArg Int32.toInt ex76).trans t77
                    refine m_iinc C x76 [(4, .int x76), (1, .long x74), (0, .ref (aL X 0)), (3, .int x13)] dX8_digest_80 (q := 3) rfl ex76.symm (by decide) rfl ?_
                    refine m_goto C 59 dX8_digest_83 (by decide) ?_
                    refine m_lv [2, 1, 3, 0] rfl ?_
                    exact ih59 x74 x76 g60 (by omega) hI61 hK62 (by omega) (dz_s hjw hjv (by omega) i64 (by omega))
              have t79 : (0 : Int32).toInt = 0 := by decide
              refine m_lv [1, 2, 3, 0] rfl ?_
              exact L59 (((3 - (0 : Int32).toInt).toNat) + 1) x12 (0 : Int32) g14 (Nat.lt_succ_self _) hI15 hK16 (by omega) (dz_e i18 (by omega))
        have t80 : (0 : Int32).toInt = 0 := by decide
        refine m_lv [1, 2, 0] rfl ?_
        exact L50 (((17 - (0 : Int32).toInt).toNat) + 1) x3 (0 : Int32) g5 (Nat.lt_succ_self _) hI6 hK7 (by omega) (dz_e i9 (by omega))
      · skip
        have th10 := i_nle h10
        rw [show (12 : Int32).toInt = 12 by decide] at th10
        refine m_iconst C (0 : Int32) dX8_digest_12 (by decide) ?_
        refine m_istore C [(4, .int (0 : Int32)), (0, .ref (aL X 0)), (1, .long x3), (3, .int x4)] dX8_digest_13 (by decide) rfl ?_
        have L15 : ∀ (n15 : Nat) (x82 : Int64) (x83 : Int32) (g84 : Mem), (5 - x83.toInt).toNat < n15 → Inv g84 → Kp [] g g84 → 0 ≤ x83.toInt ∧ x83.toInt ≤ 4 → x82 = dz (4 * x4.toInt + x83.toInt).toNat → Wm X p l e (rmD 3) s m ([.ref (aL X 0)] : List Value).toArray below meth c 5 0 0 (MQ below (cQ X (pJ (fun r g2 => Inv g2 ∧ Kp [] g g2 ∧ (r = dz 1106)))) ([.ref (aL X 0)] : List Value).toArray s 0 0 (Ab X)) g84 15 [(0, .ref (aL X 0)), (1, .long x82), (3, .int x4), (4, .int x83)] [] := by
          intro n15
          induction n15 with
          | zero => intro x82 x83 g84 hm; exact absurd hm (Nat.not_lt_zero _)
          | succ n15 ih15 =>
            intro x82 x83 g84 hm15 hI85 hK86 i87 i88
            obtain ⟨i87a, i87b⟩ := i87
            refine m_iload C dX8_digest_15 3 rfl ?_
            refine m_iconst C (4 : Int32) dX8_digest_17 (by decide) ?_
            refine m_icmp_ge C 42 dX8_digest_18 (by decide) (fun h89 => ?_) (fun h89 => ?_)
            · skip
              have th89 := i_le h89
              rw [show (4 : Int32).toInt = 4 by decide] at th89
              obtain ⟨x90, ex90⟩ : ∃ z : Int32, z = x4 + Int32.ofInt 1 := ⟨_, rfl⟩
              have t91 : (x4 + (Int32.ofInt 1)).toInt = x4.toInt + (1 : Int) := i_add rfl (by decide) (by omega) (by omega)
              have t92 : x90.toInt = (x4.toInt + (1 : Int)) := (congrArg Int32.toInt ex90).trans t91
              refine m_iinc C x90 [(3, .int x90), (0, .ref (aL X 0)), (1, .long x82), (4, .int x83)] dX8_digest_42 (q := 2) rfl ex90.symm (by decide) rfl ?_
              refine m_goto C 6 dX8_digest_45 (by decide) ?_
              refine m_lv [1, 2, 0] rfl ?_
              exact ih6 x82 x90 g84 (by omega) hI85 hK86 (by omega) (dz_e i88 (by omega))
            · skip
              have th89 := i_nle h89
              rw [show (4 : Int32).toInt = 4 by decide] at th89
              refine m_ldc2 C (31) dX8_digest_21 lk_X8_247 ?_
              refine m_lload_n C dX8_digest_24 1 rfl ?_
              refine m_lmul C dX8_digest_25 ?_
              refine m_nameJ (fun x93 ex93 => ?_)
              try have hjt := hju
              try have hju := hjw
              try have hjw := hjv
              have hjv := ex93
              refine m_aload_n C dX8_digest_26 0 rfl ?_
              refine m_iload_n C dX8_digest_27 2 rfl ?_
              refine m_iload C dX8_digest_28 3 rfl ?_
              refine m_invV C cal_X8_subjectAt sh_0 rfl (c_X8_subjectAt_f l hX g84 x4 x83 hI85 (hF.kp hK86)) lk_X8_249 im_X8_subjectAt se_X8_subjectAt (by decide) rfl rfl (Nat.le_of_ble_eq_true rfl) dX8_digest_30 ⟨Nat.le_refl _, Nat.le_refl _⟩ (rI fun r94 g95 q96 => ?_)
              obtain ⟨eg95, p97⟩ := q96
              subst g95
              refine m_i2l C dX8_digest_33 ?_
              refine m_ladd C dX8_digest_34 ?_
              refine m_nameJ (fun x98 ex98 => ?_)
              try have hjt := hju
              try have hju := hjw
              try have hjw := hjv
              have hjv := ex98
              refine m_lstore_n C [(1, .long x98), (0, .ref (aL X 0)), (3, .int x4), (4, .int x83)] dX8_digest_35 (by decide) rfl ?_
              obtain ⟨x100, ex100⟩ : ∃ z : Int32, z = x83 + Int32.ofInt 1 := ⟨_, rfl⟩
              have t101 : (x83 + (Int32.ofInt 1)).toInt = x83.toInt + (1 : Int) := i_add rfl (by decide) (by omega) (by omega)
              have t102 : x100.toInt = (x83.toInt + (1 : Int)) := (congrArg Int32.toInt ex100).trans t101
              refine m_iinc C x100 [(4, .int x100), (1, .long x98), (0, .ref (aL X 0)), (3, .int x4)] dX8_digest_36 (q := 3) rfl ex100.symm (by decide) rfl ?_
              refine m_goto C 15 dX8_digest_39 (by decide) ?_
              refine m_lv [2, 1, 3, 0] rfl ?_
              exact ih15 x98 x100 g84 (by omega) hI85 hK86 (by omega) (dz_s hjw hjv (by omega) i88 (by omega))
        have t103 : (0 : Int32).toInt = 0 := by decide
        refine m_lv [1, 2, 3, 0] rfl ?_
        exact L15 (((5 - (0 : Int32).toInt).toNat) + 1) x3 (0 : Int32) g5 (Nat.lt_succ_self _) hI6 hK7 (by omega) (dz_e i9 (by omega))
  have t104 : (0 : Int32).toInt = 0 := by decide
  refine m_lv [2, 1, 0] rfl ?_
  exact L6 (((13 - (0 : Int32).toInt).toNat) + 1) x1 (0 : Int32) g (Nat.lt_succ_self _) hI Kp.rf (by omega) (ex1.trans dz_0)
