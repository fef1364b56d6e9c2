set_option maxRecDepth 20000 in
set_option maxHeartbeats 4000000 in
theorem c_X9_bars_f (l : Launch) {X : XT} (hX : Lok X) (g : Mem)  (hI : Inv g) (hF : FM g) : Ctr l X yX9_bars cX9_bars 1 (some .int) (rmD 0) [.ref (aL X 34)] g (pI (fun r g2 => g2 = g ∧ (r.toInt = 0))) := by
  refine Ctr.of (lv := [(0, .ref (aL X 34))]) hX (by decide) rfl (Nat.le_of_ble_eq_true rfl) ?_
  intro p e s m below meth c C
  have zf0 := hF.t 34 16 (by decide)
  have zf1 := hF.t 34 17 (by decide)
  have zf2 := hF.t 34 20 (by decide)
  have zf3 := hF.t 34 21 (by decide)
  have zf4 := hF.t 34 26 (by decide)
  refine m_aload_n C dX9_bars_0 0 rfl ?_
  refine m_geti (rf := "") C 17 rfl gd9 (by decide) sh_34 rfl dX9_bars_1 lk_X9_206 ?_
  have z1 := hF.t 34 17 (by decide)
  refine m_if_eq C 12 dX9_bars_4 (by decide) (fun h2 => ?_) (fun h2 => ?_)
  · skip
    have th2 := i_eq h2
    rw [show (0 : Int32).toInt = 0 by decide] at th2
    refine m_aload_n C dX9_bars_12 0 rfl ?_
    refine m_geti (rf := "") C 16 rfl gd9 (by decide) sh_34 rfl dX9_bars_13 lk_X9_210 ?_
    have r3 := iv_many hI
    have z4 := hF.t 34 16 (by decide)
    refine m_bipush C (60 : Int32) dX9_bars_16 (by decide) ?_
    refine m_icmp_ne C 26 dX9_bars_18 (by decide) (fun h5 => ?_) (fun h5 => ?_)
    · skip
      have th5 := i_ne h5
      rw [show (60 : Int32).toInt = 60 by decide] at th5
      refine m_iconst C (0 : Int32) dX9_bars_26 (by decide) ?_
      exact m_iret C dX9_bars_27 ⟨_, rfl, rfl, (by have hl : (0 : Int32).toInt = 0 := (by decide); omega)⟩
    · skip
      have th5 := i_eq h5
      rw [show (60 : Int32).toInt = 60 by decide] at th5
      refine m_bipush C (-4 : Int32) dX9_bars_21 (by decide) ?_
      refine m_goto C 27 dX9_bars_23 (by decide) ?_
      exact m_iret C dX9_bars_27 ⟨_, rfl, rfl, (by have hl : (-4 : Int32).toInt = -4 := (by decide); omega)⟩
  · skip
    have th2 := i_ne h2
    rw [show (0 : Int32).toInt = 0 by decide] at th2
    refine m_bipush C (-3 : Int32) dX9_bars_7 (by decide) ?_
    refine m_goto C 27 dX9_bars_9 (by decide) ?_
    exact m_iret C dX9_bars_27 ⟨_, rfl, rfl, (by have hl : (-3 : Int32).toInt = -3 := (by decide); omega)⟩
set_option maxRecDepth 20000 in
set_option maxHeartbeats 4000000 in
theorem c_X9_holds_f (l : Launch) {X : XT} (hX : Lok X) (g : Mem) (a : Int32) (o : Int32) (q : Int32) (hI : Inv g) (h_a : 0 ≤ a.toInt ∧ a.toInt ≤ 11) (h_o : 0 ≤ o.toInt ∧ o.toInt ≤ 15) (h_q : 0 ≤ q.toInt ∧ q.toInt ≤ 3) (hF : FM g) : Ctr l X yX9_holds cX9_holds 4 (some .boolean) (rmD 1) [.ref (aL X 34), .int a, .int o, .int q] g (pI (fun r g2 => g2 = g ∧ ((r.toInt = 1 ∧ a.toInt = 0) ∨ (r.toInt = 0 ∧ a.toInt ≠ 0)))) := by
  refine Ctr.of (lv := [(0, .ref (aL X 34)), (1, .int a), (2, .int o), (3, .int q)]) hX (by decide) rfl (Nat.le_of_ble_eq_true rfl) ?_
  intro p e s m below meth c C
  have zf0 := hF.t 34 16 (by decide)
  have zf1 := hF.t 34 17 (by decide)
  have zf2 := hF.t 34 20 (by decide)
  have zf3 := hF.t 34 21 (by decide)
  have zf4 := hF.t 34 26 (by decide)
  refine m_aload_n C dX9_holds_0 0 rfl ?_
  refine m_getr (rf := "") C 12 rfl gd9 (by decide) sh_34 rfl dX9_holds_1 lk_X9_41 ?_
  refine m_iload_n C dX9_holds_4 2 rfl ?_
  refine m_iald C sh_45 (i_in (by omega) (by omega)) dX9_holds_5 ?_
  have z1 := hF.t 45 o.toNatClampNeg (by decide)
  refine m_iload_n C dX9_holds_6 1 rfl ?_
  refine m_icmp_eq C 46 dX9_holds_7 (by decide) (fun h2 => ?_) (fun h2 => ?_)
  · skip
    have th2 := i_eq h2
    refine m_iconst C (1 : Int32) dX9_holds_46 (by decide) ?_
    refine m_goto C 51 dX9_holds_47 (by decide) ?_
    exact m_zret C dX9_holds_51 (by decide) ⟨_, rfl, rfl, (by have hl : (1 : Int32).toInt = 1 := (by decide); omega)⟩
  · skip
    have th2 := i_ne h2
    refine m_aload_n C dX9_holds_10 0 rfl ?_
    refine m_getr (rf := "") C 13 rfl gd9 (by decide) sh_34 rfl dX9_holds_11 lk_X9_44 ?_
    refine m_iload_n C dX9_holds_14 1 rfl ?_
    refine m_iload_n C dX9_holds_15 2 rfl ?_
    refine m_iload_n C dX9_holds_16 3 rfl ?_
    refine m_invS C cal_X9_at (c_X9_at l hX g a o q hI (by omega) (by omega) (by omega)) lk_X9_223 st_X9_at (by decide) rfl rfl (Nat.le_of_ble_eq_true rfl) dX9_holds_17 ⟨Nat.le_refl _, Nat.le_refl _⟩ (rI fun r3 g4 q5 => ?_)
    obtain ⟨eg4, p6⟩ := q5
    subst g4
    refine m_zald C sh_46 (i_in (by omega) (by omega)) dX9_holds_20 ?_
    have z7 := hF.t 46 r3.toNatClampNeg (by decide)
    refine m_if_ne C 46 dX9_holds_21 (by decide) (fun h8 => ?_) (fun h8 => ?_)
    · skip
      have th8 := i_ne h8
      rw [show (0 : Int32).toInt = 0 by decide] at th8
      refine m_iconst C (1 : Int32) dX9_holds_46 (by decide) ?_
      refine m_goto C 51 dX9_holds_47 (by decide) ?_
      exact m_zret C dX9_holds_51 (by decide) ⟨_, rfl, rfl, (by have hl : (1 : Int32).toInt = 1 := (by decide); omega)⟩
    · skip
      have th8 := i_eq h8
      rw [show (0 : Int32).toInt = 0 by decide] at th8
      refine m_aload_n C dX9_holds_24 0 rfl ?_
      refine m_getr (rf := "") C 13 rfl gd9 (by decide) sh_34 rfl dX9_holds_25 lk_X9_44 ?_
      refine m_bipush C (16 : Int32) dX9_holds_28 (by decide) ?_
      refine m_aload_n C dX9_holds_30 0 rfl ?_
      refine m_getr (rf := "") C 8 rfl gd9 (by decide) sh_34 rfl dX9_holds_31 lk_X9_28 ?_
      refine m_iload_n C dX9_holds_34 1 rfl ?_
      refine m_iald C sh_41 (i_in (by omega) (by omega)) dX9_holds_35 ?_
      have r9 := iv_mgrp hI a.toNatClampNeg
      have z10 := hF.t 41 a.toNatClampNeg (by decide)
      refine m_iadd C dX9_holds_36 ?_
      refine m_iload_n C dX9_holds_37 2 rfl ?_
      refine m_iload_n C dX9_holds_38 3 rfl ?_
      have t11 : ((16 : Int32) + (g 41 a.toNatClampNeg)).toInt = (16 : Int) + (g 41 a.toNatClampNeg).toInt := i_add (by decide) rfl (by omega) (by omega)
      refine m_invS C cal_X9_at (c_X9_at l hX g ((16 : Int32) + (g 41 a.toNatClampNeg)) o q hI (by omega) (by omega) (by omega)) lk_X9_223 st_X9_at (by decide) rfl rfl (Nat.le_of_ble_eq_true rfl) dX9_holds_39 ⟨Nat.le_refl _, Nat.le_refl _⟩ (rI fun r12 g13 q14 => ?_)
      obtain ⟨eg13, p15⟩ := q14
      subst g13
      refine m_zald C sh_46 (i_in (by omega) (by omega)) dX9_holds_42 ?_
      have z16 := hF.t 46 r12.toNatClampNeg (by decide)
      refine m_if_eq C 50 dX9_holds_43 (by decide) (fun h17 => ?_) (fun h17 => ?_)
      · skip
        have th17 := i_eq h17
        rw [show (0 : Int32).toInt = 0 by decide] at th17
        refine m_iconst C (0 : Int32) dX9_holds_50 (by decide) ?_
        exact m_zret C dX9_holds_51 (by decide) ⟨_, rfl, rfl, (by have hl : (0 : Int32).toInt = 0 := (by decide); omega)⟩
      · skip
        have th17 := i_ne h17
        rw [show (0 : Int32).toInt = 0 by decide] at th17
        refine m_iconst C (1 : Int32) dX9_holds_46 (by decide) ?_
        refine m_goto C 51 dX9_holds_47 (by decide) ?_
        exact m_zret C dX9_holds_51 (by decide) ⟨_, rfl, rfl, (by have hl : (1 : Int32).toInt = 1 := (by decide); omega)⟩
set_option maxRecDepth 20000 in
set_option maxHeartbeats 4000000 in
theorem c_X9_causeOf_f (l : Launch) {X : XT} (hX : Lok X) (g : Mem) (a : Int32) (o : Int32) (q : Int32) (hI : Inv g) (h_a : 0 ≤ a.toInt ∧ a.toInt ≤ 11) (h_o : 0 ≤ o.toInt ∧ o.toInt ≤ 15) (h_q : 0 ≤ q.toInt ∧ q.toInt ≤ 3) (hF : FM g) : Ctr l X yX9_causeOf cX9_causeOf 4 (some .int) (rmD 2) [.ref (aL X 34), .int a, .int o, .int q] g (pI (fun r g2 => g2 = g ∧ ((r.toInt = 0 ∧ a.toInt = 0) ∨ (r.toInt = 4 ∧ a.toInt ≠ 0)))) := by
  refine Ctr.of (lv := [(0, .ref (aL X 34)), (1, .int a), (2, .int o), (3, .int q)]) hX (by decide) rfl (Nat.le_of_ble_eq_true rfl) ?_
  intro p e s m below meth c C
  have zf0 := hF.t 34 16 (by decide)
  have zf1 := hF.t 34 17 (by decide)
  have zf2 := hF.t 34 20 (by decide)
  have zf3 := hF.t 34 21 (by decide)
  have zf4 := hF.t 34 26 (by decide)
  refine m_aload_n C dX9_causeOf_0 0 rfl ?_
  refine m_getr (rf := "") C 9 rfl gd9 (by decide) sh_34 rfl dX9_causeOf_1 lk_X9_31 ?_
  refine m_iload_n C dX9_causeOf_4 1 rfl ?_
  refine m_zald C sh_42 (i_in (by omega) (by omega)) dX9_causeOf_5 ?_
  have z1 := hF.t 42 a.toNatClampNeg (by decide)
  refine m_if_eq C 11 dX9_causeOf_6 (by decide) (fun h2 => ?_) (fun h2 => ?_)
  · skip
    have th2 := i_eq h2
    rw [show (0 : Int32).toInt = 0 by decide] at th2
    refine m_iload_n C dX9_causeOf_11 3 rfl ?_
    refine m_iconst C (2 : Int32) dX9_causeOf_12 (by decide) ?_
    refine m_icmp_ge C 33 dX9_causeOf_13 (by decide) (fun h3 => ?_) (fun h3 => ?_)
    · skip
      have th3 := i_le h3
      rw [show (2 : Int32).toInt = 2 by decide] at th3
      refine m_iload_n C dX9_causeOf_33 3 rfl ?_
      refine m_iconst C (1 : Int32) dX9_causeOf_34 (by decide) ?_
      refine m_icmp_eq C 43 dX9_causeOf_35 (by decide) (fun h4 => ?_) (fun h4 => ?_)
      · skip
        have th4 := i_eq h4
        rw [show (1 : Int32).toInt = 1 by decide] at th4
        refine m_aload_n C dX9_causeOf_43 0 rfl ?_
        refine m_getr (rf := "") C 7 rfl gd9 (by decide) sh_34 rfl dX9_causeOf_44 lk_X9_25 ?_
        refine m_iload_n C dX9_causeOf_47 1 rfl ?_
        refine m_iald C sh_40 (i_in (by omega) (by omega)) dX9_causeOf_48 ?_
        have z5 := hF.t 40 a.toNatClampNeg (by decide)
        refine m_aload_n C dX9_causeOf_49 0 rfl ?_
        refine m_getr (rf := "") C 11 rfl gd9 (by decide) sh_34 rfl dX9_causeOf_50 lk_X9_38 ?_
        refine m_iload_n C dX9_causeOf_53 2 rfl ?_
        refine m_iald C sh_44 (i_in (by omega) (by omega)) dX9_causeOf_54 ?_
        have z6 := hF.t 44 o.toNatClampNeg (by decide)
        refine m_icmp_le C 60 dX9_causeOf_55 (by decide) (fun h7 => ?_) (fun h7 => ?_)
        · skip
          have th7 := i_le h7
          refine m_aload_n C dX9_causeOf_60 0 rfl ?_
          refine m_iload_n C dX9_causeOf_61 1 rfl ?_
          refine m_iload_n C dX9_causeOf_62 2 rfl ?_
          refine m_iload_n C dX9_causeOf_63 3 rfl ?_
          refine m_invV C cal_X9_holds sh_34 rfl (c_X9_holds_f l hX g a o q hI (by omega) (by omega) (by omega) hF) lk_X9_227 im_X9_holds se_X9_holds (by decide) rfl rfl (Nat.le_of_ble_eq_true rfl) dX9_causeOf_64 ⟨Nat.le_refl _, Nat.le_refl _⟩ (rI fun r8 g9 q10 => ?_)
          obtain ⟨eg9, p11⟩ := q10
          subst g9
          refine m_if_eq C 74 dX9_causeOf_67 (by decide) (fun h12 => ?_) (fun h12 => ?_)
          · skip
            have th12 := i_eq h12
            rw [show (0 : Int32).toInt = 0 by decide] at th12
            refine m_iconst C (4 : Int32) dX9_causeOf_74 (by decide) ?_
            exact m_iret C dX9_causeOf_75 ⟨_, rfl, rfl, (by have hl : (4 : Int32).toInt = 4 := (by decide); omega)⟩
          · skip
            have th12 := i_ne h12
            rw [show (0 : Int32).toInt = 0 by decide] at th12
            refine m_iconst C (0 : Int32) dX9_causeOf_70 (by decide) ?_
            refine m_goto C 75 dX9_causeOf_71 (by decide) ?_
            exact m_iret C dX9_causeOf_75 ⟨_, rfl, rfl, (by have hl : (0 : Int32).toInt = 0 := (by decide); omega)⟩
        · skip
          have th7 := i_nle h7
          refine m_iconst C (3 : Int32) dX9_causeOf_58 (by decide) ?_
          exact m_iret C dX9_causeOf_59 ⟨_, rfl, rfl, (by have hl : (3 : Int32).toInt = 3 := (by decide); omega)⟩
      · skip
        have th4 := i_ne h4
        rw [show (1 : Int32).toInt = 1 by decide] at th4
        refine m_iload_n C dX9_causeOf_38 3 rfl ?_
        refine m_iconst C (2 : Int32) dX9_causeOf_39 (by decide) ?_
        refine m_icmp_ne C 60 dX9_causeOf_40 (by decide) (fun h13 => ?_) (fun h13 => ?_)
        · skip
          have th13 := i_ne h13
          rw [show (2 : Int32).toInt = 2 by decide] at th13
          refine m_aload_n C dX9_causeOf_60 0 rfl ?_
          refine m_iload_n C dX9_causeOf_61 1 rfl ?_
          refine m_iload_n C dX9_causeOf_62 2 rfl ?_
          refine m_iload_n C dX9_causeOf_63 3 rfl ?_
          refine m_invV C cal_X9_holds sh_34 rfl (c_X9_holds_f l hX g a o q hI (by omega) (by omega) (by omega) hF) lk_X9_227 im_X9_holds se_X9_holds (by decide) rfl rfl (Nat.le_of_ble_eq_true rfl) dX9_causeOf_64 ⟨Nat.le_refl _, Nat.le_refl _⟩ (rI fun r14 g15 q16 => ?_)
          obtain ⟨eg15, p17⟩ := q16
          subst g15
          refine m_if_eq C 74 dX9_causeOf_67 (by decide) (fun h18 => ?_) (fun h18 => ?_)
          · skip
            have th18 := i_eq h18
            rw [show (0 : Int32).toInt = 0 by decide] at th18
            refine m_iconst C (4 : Int32) dX9_causeOf_74 (by decide) ?_
            exact m_iret C dX9_causeOf_75 ⟨_, rfl, rfl, (by have hl : (4 : Int32).toInt = 4 := (by decide); omega)⟩
          · skip
            have th18 := i_ne h18
            rw [show (0 : Int32).toInt = 0 by decide] at th18
            refine m_iconst C (0 : Int32) dX9_causeOf_70 (by decide) ?_
            refine m_goto C 75 dX9_causeOf_71 (by decide) ?_
            exact m_iret C dX9_causeOf_75 ⟨_, rfl, rfl, (by have hl : (0 : Int32).toInt = 0 := (by decide); omega)⟩
        · skip
          have th13 := i_eq h13
          rw [show (2 : Int32).toInt = 2 by decide] at th13
          refine m_aload_n C dX9_causeOf_43 0 rfl ?_
          refine m_getr (rf := "") C 7 rfl gd9 (by decide) sh_34 rfl dX9_causeOf_44 lk_X9_25 ?_
          refine m_iload_n C dX9_causeOf_47 1 rfl ?_
          refine m_iald C sh_40 (i_in (by omega) (by omega)) dX9_causeOf_48 ?_
          have z19 := hF.t 40 a.toNatClampNeg (by decide)
          refine m_aload_n C dX9_causeOf_49 0 rfl ?_
          refine m_getr (rf := "") C 11 rfl gd9 (by decide) sh_34 rfl dX9_causeOf_50 lk_X9_38 ?_
          refine m_iload_n C dX9_causeOf_53 2 rfl ?_
          refine m_iald C sh_44 (i_in (by omega) (by omega)) dX9_causeOf_54 ?_
          have z20 := hF.t 44 o.toNatClampNeg (by decide)
          refine m_icmp_le C 60 dX9_causeOf_55 (by decide) (fun h21 => ?_) (fun h21 => ?_)
          · skip
            have th21 := i_le h21
            refine m_aload_n C dX9_causeOf_60 0 rfl ?_
            refine m_iload_n C dX9_causeOf_61 1 rfl ?_
            refine m_iload_n C dX9_causeOf_62 2 rfl ?_
            refine m_iload_n C dX9_causeOf_63 3 rfl ?_
            refine m_invV C cal_X9_holds sh_34 rfl (c_X9_holds_f l hX g a o q hI (by omega) (by omega) (by omega) hF) lk_X9_227 im_X9_holds se_X9_holds (by decide) rfl rfl (Nat.le_of_ble_eq_true rfl) dX9_causeOf_64 ⟨Nat.le_refl _, Nat.le_refl _⟩ (rI fun r22 g23 q24 => ?_)
            obtain ⟨eg23, p25⟩ := q24
            subst g23
            refine m_if_eq C 74 dX9_causeOf_67 (by decide) (fun h26 => ?_) (fun h26 => ?_)
            · skip
              have th26 := i_eq h26
              rw [show (0 : Int32).toInt = 0 by decide] at th26
              refine m_iconst C (4 : Int32) dX9_causeOf_74 (by decide) ?_
              exact m_iret C dX9_causeOf_75 ⟨_, rfl, rfl, (by have hl : (4 : Int32).toInt = 4 := (by decide); omega)⟩
            · skip
              have th26 := i_ne h26
              rw [show (0 : Int32).toInt = 0 by decide] at th26
              refine m_iconst C (0 : Int32) dX9_causeOf_70 (by decide) ?_
              refine m_goto C 75 dX9_causeOf_71 (by decide) ?_
              exact m_iret C dX9_causeOf_75 ⟨_, rfl, rfl, (by have hl : (0 : Int32).toInt = 0 := (by decide); omega)⟩
          · skip
            have th21 := i_nle h21
            refine m_iconst C (3 : Int32) dX9_causeOf_58 (by decide) ?_
            exact m_iret C dX9_causeOf_59 ⟨_, rfl, rfl, (by have hl : (3 : Int32).toInt = 3 := (by decide); omega)⟩
    · skip
      have th3 := i_nle h3
      rw [show (2 : Int32).toInt = 2 by decide] at th3
      refine m_aload_n C dX9_causeOf_16 0 rfl ?_
      refine m_getr (rf := "") C 7 rfl gd9 (by decide) sh_34 rfl dX9_causeOf_17 lk_X9_25 ?_
      refine m_iload_n C dX9_causeOf_20 1 rfl ?_
      refine m_iald C sh_40 (i_in (by omega) (by omega)) dX9_causeOf_21 ?_
      have z27 := hF.t 40 a.toNatClampNeg (by decide)
      refine m_aload_n C dX9_causeOf_22 0 rfl ?_
      refine m_getr (rf := "") C 11 rfl gd9 (by decide) sh_34 rfl dX9_causeOf_23 lk_X9_38 ?_
      refine m_iload_n C dX9_causeOf_26 2 rfl ?_
      refine m_iald C sh_44 (i_in (by omega) (by omega)) dX9_causeOf_27 ?_
      have z28 := hF.t 44 o.toNatClampNeg (by decide)
      refine m_icmp_ge C 33 dX9_causeOf_28 (by decide) (fun h29 => ?_) (fun h29 => ?_)
      · skip
        have th29 := i_le h29
        refine m_iload_n C dX9_causeOf_33 3 rfl ?_
        refine m_iconst C (1 : Int32) dX9_causeOf_34 (by decide) ?_
        refine m_icmp_eq C 43 dX9_causeOf_35 (by decide) (fun h30 => ?_) (fun h30 => ?_)
        · skip
          have th30 := i_eq h30
          rw [show (1 : Int32).toInt = 1 by decide] at th30
          refine m_aload_n C dX9_causeOf_43 0 rfl ?_
          refine m_getr (rf := "") C 7 rfl gd9 (by decide) sh_34 rfl dX9_causeOf_44 lk_X9_25 ?_
          refine m_iload_n C dX9_causeOf_47 1 rfl ?_
          refine m_iald C sh_40 (i_in (by omega) (by omega)) dX9_causeOf_48 ?_
          have z31 := hF.t 40 a.toNatClampNeg (by decide)
          refine m_aload_n C dX9_causeOf_49 0 rfl ?_
          refine m_getr (rf := "") C 11 rfl gd9 (by decide) sh_34 rfl dX9_causeOf_50 lk_X9_38 ?_
          refine m_iload_n C dX9_causeOf_53 2 rfl ?_
          refine m_iald C sh_44 (i_in (by omega) (by omega)) dX9_causeOf_54 ?_
          have z32 := hF.t 44 o.toNatClampNeg (by decide)
          refine m_icmp_le C 60 dX9_causeOf_55 (by decide) (fun h33 => ?_) (fun h33 => ?_)
          · skip
            have th33 := i_le h33
            refine m_aload_n C dX9_causeOf_60 0 rfl ?_
            refine m_iload_n C dX9_causeOf_61 1 rfl ?_
            refine m_iload_n C dX9_causeOf_62 2 rfl ?_
            refine m_iload_n C dX9_causeOf_63 3 rfl ?_
            refine m_invV C cal_X9_holds sh_34 rfl (c_X9_holds_f l hX g a o q hI (by omega) (by omega) (by omega) hF) lk_X9_227 im_X9_holds se_X9_holds (by decide) rfl rfl (Nat.le_of_ble_eq_true rfl) dX9_causeOf_64 ⟨Nat.le_refl _, Nat.le_refl _⟩ (rI fun r34 g35 q36 => ?_)
            obtain ⟨eg35, p37⟩ := q36
            subst g35
            refine m_if_eq C 74 dX9_causeOf_67 (by decide) (fun h38 => ?_) (fun h38 => ?_)
            · skip
              have th38 := i_eq h38
              rw [show (0 : Int32).toInt = 0 by decide] at th38
              refine m_iconst C (4 : Int32) dX9_causeOf_74 (by decide) ?_
              exact m_iret C dX9_causeOf_75 ⟨_, rfl, rfl, (by have hl : (4 : Int32).toInt = 4 := (by decide); omega)⟩
            · skip
              have th38 := i_ne h38
              rw [show (0 : Int32).toInt = 0 by decide] at th38
              refine m_iconst C (0 : Int32) dX9_causeOf_70 (by decide) ?_
              refine m_goto C 75 dX9_causeOf_71 (by decide) ?_
              exact m_iret C dX9_causeOf_75 ⟨_, rfl, rfl, (by have hl : (0 : Int32).toInt = 0 := (by decide); omega)⟩
          · skip
            have th33 := i_nle h33
            refine m_iconst C (3 : Int32) dX9_causeOf_58 (by decide) ?_
            exact m_iret C dX9_causeOf_59 ⟨_, rfl, rfl, (by have hl : (3 : Int32).toInt = 3 := (by decide); omega)⟩
        · skip
          have th30 := i_ne h30
          rw [show (1 : Int32).toInt = 1 by decide] at th30
          refine m_iload_n C dX9_causeOf_38 3 rfl ?_
          refine m_iconst C (2 : Int32) dX9_causeOf_39 (by decide) ?_
          refine m_icmp_ne C 60 dX9_causeOf_40 (by decide) (fun h39 => ?_) (fun h39 => ?_)
          · skip
            have th39 := i_ne h39
            rw [show (2 : Int32).toInt = 2 by decide] at th39
            refine m_aload_n C dX9_causeOf_60 0 rfl ?_
            refine m_iload_n C dX9_causeOf_61 1 rfl ?_
            refine m_iload_n C dX9_causeOf_62 2 rfl ?_
            refine m_iload_n C dX9_causeOf_63 3 rfl ?_
            refine m_invV C cal_X9_holds sh_34 rfl (c_X9_holds_f l hX g a o q hI (by omega) (by omega) (by omega) hF) lk_X9_227 im_X9_holds se_X9_holds (by decide) rfl rfl (Nat.le_of_ble_eq_true rfl) dX9_causeOf_64 ⟨Nat.le_refl _, Nat.le_refl _⟩ (rI fun r40 g41 q42 => ?_)
            obtain ⟨eg41, p43⟩ := q42
            subst g41
            refine m_if_eq C 74 dX9_causeOf_67 (by decide) (fun h44 => ?_) (fun h44 => ?_)
            · skip
              have th44 := i_eq h44
              rw [show (0 : Int32).toInt = 0 by decide] at th44
              refine m_iconst C (4 : Int32) dX9_causeOf_74 (by decide) ?_
              exact m_iret C dX9_causeOf_75 ⟨_, rfl, rfl, (by have hl : (4 : Int32).toInt = 4 := (by decide); omega)⟩
            · skip
              have th44 := i_ne h44
              rw [show (0 : Int32).toInt = 0 by decide] at th44
              refine m_iconst C (0 : Int32) dX9_causeOf_70 (by decide) ?_
              refine m_goto C 75 dX9_causeOf_71 (by decide) ?_
              exact m_iret C dX9_causeOf_75 ⟨_, rfl, rfl, (by have hl : (0 : Int32).toInt = 0 := (by decide); omega)⟩
          · skip
            have th39 := i_eq h39
            rw [show (2 : Int32).toInt = 2 by decide] at th39
            refine m_aload_n C dX9_causeOf_43 0 rfl ?_
            refine m_getr (rf := "") C 7 rfl gd9 (by decide) sh_34 rfl dX9_causeOf_44 lk_X9_25 ?_
            refine m_iload_n C dX9_causeOf_47 1 rfl ?_
            refine m_iald C sh_40 (i_in (by omega) (by omega)) dX9_causeOf_48 ?_
            have z45 := hF.t 40 a.toNatClampNeg (by decide)
            refine m_aload_n C dX9_causeOf_49 0 rfl ?_
            refine m_getr (rf := "") C 11 rfl gd9 (by decide) sh_34 rfl dX9_causeOf_50 lk_X9_38 ?_
            refine m_iload_n C dX9_causeOf_53 2 rfl ?_
            refine m_iald C sh_44 (i_in (by omega) (by omega)) dX9_causeOf_54 ?_
            have z46 := hF.t 44 o.toNatClampNeg (by decide)
            refine m_icmp_le C 60 dX9_causeOf_55 (by decide) (fun h47 => ?_) (fun h47 => ?_)
            · skip
              have th47 := i_le h47
              refine m_aload_n C dX9_causeOf_60 0 rfl ?_
              refine m_iload_n C dX9_causeOf_61 1 rfl ?_
              refine m_iload_n C dX9_causeOf_62 2 rfl ?_
              refine m_iload_n C dX9_causeOf_63 3 rfl ?_
              refine m_invV C cal_X9_holds sh_34 rfl (c_X9_holds_f l hX g a o q hI (by omega) (by omega) (by omega) hF) lk_X9_227 im_X9_holds se_X9_holds (by decide) rfl rfl (Nat.le_of_ble_eq_true rfl) dX9_causeOf_64 ⟨Nat.le_refl _, Nat.le_refl _⟩ (rI fun r48 g49 q50 => ?_)
              obtain ⟨eg49, p51⟩ := q50
              subst g49
              refine m_if_eq C 74 dX9_causeOf_67 (by decide) (fun h52 => ?_) (fun h52 => ?_)
              · skip
                have th52 := i_eq h52
                rw [show (0 : Int32).toInt = 0 by decide] at th52
                refine m_iconst C (4 : Int32) dX9_causeOf_74 (by decide) ?_
                exact m_iret C dX9_causeOf_75 ⟨_, rfl, rfl, (by have hl : (4 : Int32).toInt = 4 := (by decide); omega)⟩
              · skip
                have th52 := i_ne h52
                rw [show (0 : Int32).toInt = 0 by decide] at th52
                refine m_iconst C (0 : Int32) dX9_causeOf_70 (by decide) ?_
                refine m_goto C 75 dX9_causeOf_71 (by decide) ?_
                exact m_iret C dX9_causeOf_75 ⟨_, rfl, rfl, (by have hl : (0 : Int32).toInt = 0 := (by decide); omega)⟩
            · skip
              have th47 := i_nle h47
              refine m_iconst C (3 : Int32) dX9_causeOf_58 (by decide) ?_
              exact m_iret C dX9_causeOf_59 ⟨_, rfl, rfl, (by have hl : (3 : Int32).toInt = 3 := (by decide); omega)⟩
      · skip
        have th29 := i_nle h29
        refine m_iconst C (2 : Int32) dX9_causeOf_31 (by decide) ?_
        exact m_iret C dX9_causeOf_32 ⟨_, rfl, rfl, (by have hl : (2 : Int32).toInt = 2 := (by decide); omega)⟩
  · skip
    have th2 := i_ne h2
    rw [show (0 : Int32).toInt = 0 by decide] at th2
    refine m_iconst C (1 : Int32) dX9_causeOf_9 (by decide) ?_
    exact m_iret C dX9_causeOf_10 ⟨_, rfl, rfl, (by have hl : (1 : Int32).toInt = 1 := (by decide); omega)⟩
set_option maxRecDepth 20000 in
set_option maxHeartbeats 4000000 in
theorem c_X9_isLike_f (l : Launch) {X : XT} (hX : Lok X) (g : Mem) (i0 : Int32) (j0 : Int32) (hI : Inv g) (h_i0 : 0 ≤ i0.toInt ∧ i0.toInt ≤ 96) (h_j0 : 0 ≤ j0.toInt ∧ j0.toInt ≤ 96) (hF : FM g) : Ctr l X yX9_isLike cX9_isLike 6 (some .boolean) (rmD 0) [.ref (aL X 56), .int i0, .ref (aL X 56), .int j0] g (pI (fun r g2 => Inv g2 ∧ Kq [] [] g g2 ∧ (r.toInt = 1))) := by
  refine Ctr.of (lv := [(0, .ref (aL X 56)), (1, .int i0), (2, .ref (aL X 56)), (3, .int j0)]) hX (by decide) rfl (Nat.le_of_ble_eq_true rfl) ?_
  intro p e s m below meth c C
  have zf0 := hF.t 34 16 (by decide)
  have zf1 := hF.t 34 17 (by decide)
  have zf2 := hF.t 34 20 (by decide)
  have zf3 := hF.t 34 21 (by decide)
  have zf4 := hF.t 34 26 (by decide)
  refine m_iconst C (1 : Int32) dX9_isLike_0 (by decide) ?_
  refine m_istore C [(4, .int (1 : Int32)), (0, .ref (aL X 56)), (1, .int i0), (2, .ref (aL X 56)), (3, .int j0)] dX9_isLike_1 (by decide) rfl ?_
  refine m_iconst C (0 : Int32) dX9_isLike_3 (by decide) ?_
  refine m_istore C [(5, .int (0 : Int32)), (4, .int (1 : Int32)), (0, .ref (aL X 56)), (1, .int i0), (2, .ref (aL X 56)), (3, .int j0)] dX9_isLike_4 (by decide) rfl ?_
  have L6 : ∀ (n6 : Nat) (x3 : Int32) (x4 : Int32) (g5 : Mem), (33 - x4.toInt).toNat < n6 → Inv g5 → Kq [] [] g g5 → 0 ≤ x4.toInt ∧ x4.toInt ≤ 32 → x3 = 1 → Wm X p l e (rmD 0) s m ([.ref (aL X 56), .int i0, .ref (aL X 56), .int j0] : List Value).toArray below meth c 6 0 0 (MQ below (cQ X (pI (fun r g2 => Inv g2 ∧ Kq [] [] g g2 ∧ (r.toInt = 1)))) ([.ref (aL X 56), .int i0, .ref (aL X 56), .int j0] : List Value).toArray s 0 0 (Ab X)) g5 6 [(0, .ref (aL X 56)), (1, .int i0), (2, .ref (aL X 56)), (3, .int j0), (4, .int x3), (5, .int x4)] [] := by
    intro n6
    induction n6 with
    | zero => intro x3 x4 g5 hm; exact absurd hm (Nat.not_lt_zero _)
    | succ n6 ih6 =>
      intro x3 x4 g5 hm6 hI6 hK7 i8 i9
      obtain ⟨i8a, i8b⟩ := i8
      refine m_iload C dX9_isLike_6 5 rfl ?_
      refine m_bipush C (32 : Int32) dX9_isLike_8 (by decide) ?_
      refine m_icmp_ge C 44 dX9_isLike_10 (by decide) (fun h10 => ?_) (fun h10 => ?_)
      · skip
        have th10 := i_le h10
        rw [show (32 : Int32).toInt = 32 by decide] at th10
        refine m_iload C dX9_isLike_44 4 rfl ?_
        exact m_zret C dX9_isLike_46 (R01.nar (Or.inr i9)) ⟨_, rfl, hI6, hK7, (by rw [i9]; decide)⟩
      · skip
        have th10 := i_nle h10
        rw [show (32 : Int32).toInt = 32 by decide] at th10
        refine m_iload C dX9_isLike_13 4 rfl ?_
        refine m_aload_n C dX9_isLike_15 0 rfl ?_
        refine m_iload_n C dX9_isLike_16 1 rfl ?_
        refine m_iload C dX9_isLike_17 5 rfl ?_
        refine m_iadd C dX9_isLike_19 ?_
        have t11 : (i0 + x4).toInt = i0.toInt + x4.toInt := i_add rfl rfl (by omega) (by omega)
        refine m_iald C sh_56 (i_in (by omega) (by omega)) dX9_isLike_20 ?_
        have z12 : (g5 56 (i0 + x4).toNatClampNeg).toInt = 0 := by rw [hK7.1 56 (by decide) (by decide)]; exact hF.t 56 _ (by decide)
        refine m_aload_n C dX9_isLike_21 2 rfl ?_
        refine m_iload_n C dX9_isLike_22 3 rfl ?_
        refine m_iload C dX9_isLike_23 5 rfl ?_
        refine m_iadd C dX9_isLike_25 ?_
        have t13 : (j0 + x4).toInt = j0.toInt + x4.toInt := i_add rfl rfl (by omega) (by omega)
        refine m_iald C sh_56 (i_in (by omega) (by omega)) dX9_isLike_26 ?_
        have z14 : (g5 56 (j0 + x4).toNatClampNeg).toInt = 0 := by rw [hK7.1 56 (by decide) (by decide)]; exact hF.t 56 _ (by decide)
        refine m_icmp_ne C 34 dX9_isLike_27 (by decide) (fun h15 => ?_) (fun h15 => ?_)
        · skip
          have th15 := i_ne h15
          refine m_iconst C (0 : Int32) dX9_isLike_34 (by decide) ?_
          refine m_iand C dX9_isLike_35 ?_
          refine m_name (fun x16 ex16 => ?_)
          have t17 : 0 ≤ (x3 &&& (0 : Int32)).toInt ∧ (x3 &&& (0 : Int32)).toInt < 1 := i_and _ 0 (by decide) (by decide)
          have t18 : x16.toInt = (x3 &&& (0 : Int32)).toInt := (congrArg Int32.toInt ex16).trans rfl
          refine m_istore C [(4, .int x16), (0, .ref (aL X 56)), (1, .int i0), (2, .ref (aL X 56)), (3, .int j0), (5, .int x4)] dX9_isLike_36 (by decide) rfl ?_
          obtain ⟨x19, ex19⟩ : ∃ z : Int32, z = x4 + Int32.ofInt 1 := ⟨_, rfl⟩
          have t20 : (x4 + (Int32.ofInt 1)).toInt = x4.toInt + (1 : Int) := i_add rfl (by decide) (by omega) (by omega)
          have t21 : x19.toInt = (x4.toInt + (1 : Int)) := (congrArg Int32.toInt ex19).trans t20
          refine m_iinc C x19 [(5, .int x19), (4, .int x16), (0, .ref (aL X 56)), (1, .int i0), (2, .ref (aL X 56)), (3, .int j0)] dX9_isLike_38 (q := 5) rfl ex19.symm (by decide) rfl ?_
          refine m_goto C 6 dX9_isLike_41 (by decide) ?_
          refine m_lv [2, 3, 4, 5, 1, 0] rfl ?_
          exact ih6 x16 x19 g5 (by omega) hI6 hK7 (by omega) (by first | (rw [ex16, i9]; decide) | exact False.elim (by omega))
        · skip
          have th15 := i_eq h15
          refine m_iconst C (1 : Int32) dX9_isLike_30 (by decide) ?_
          refine m_goto C 35 dX9_isLike_31 (by decide) ?_
          refine m_iand C dX9_isLike_35 ?_
          refine m_name (fun x22 ex22 => ?_)
          have t23 : 0 ≤ (x3 &&& (1 : Int32)).toInt ∧ (x3 &&& (1 : Int32)).toInt < 2 := i_and _ 1 (by decide) (by decide)
          have t24 : x22.toInt = (x3 &&& (1 : Int32)).toInt := (congrArg Int32.toInt ex22).trans rfl
          refine m_istore C [(4, .int x22), (0, .ref (aL X 56)), (1, .int i0), (2, .ref (aL X 56)), (3, .int j0), (5, .int x4)] dX9_isLike_36 (by decide) rfl ?_
          obtain ⟨x25, ex25⟩ : ∃ z : Int32, z = x4 + Int32.ofInt 1 := ⟨_, rfl⟩
          have t26 : (x4 + (Int32.ofInt 1)).toInt = x4.toInt + (1 : Int) := i_add rfl (by decide) (by omega) (by omega)
          have t27 : x25.toInt = (x4.toInt + (1 : Int)) := (congrArg Int32.toInt ex25).trans t26
          refine m_iinc C x25 [(5, .int x25), (4, .int x22), (0, .ref (aL X 56)), (1, .int i0), (2, .ref (aL X 56)), (3, .int j0)] dX9_isLike_38 (q := 5) rfl ex25.symm (by decide) rfl ?_
          refine m_goto C 6 dX9_isLike_41 (by decide) ?_
          refine m_lv [2, 3, 4, 5, 1, 0] rfl ?_
          exact ih6 x22 x25 g5 (by omega) hI6 hK7 (by omega) (by first | (rw [ex22, i9]; decide) | exact False.elim (by omega))
  have t28 : (1 : Int32).toInt = 1 := by decide
  have t29 : (0 : Int32).toInt = 0 := by decide
  refine m_lv [2, 3, 4, 5, 1, 0] rfl ?_
  exact L6 (((33 - (0 : Int32).toInt).toNat) + 1) (1 : Int32) (0 : Int32) g (Nat.lt_succ_self _) hI Kq.rf (by omega) rfl
set_option maxRecDepth 20000 in
set_option maxHeartbeats 4000000 in
theorem c_X9_rootOf_f (l : Launch) {X : XT} (hX : Lok X) (g : Mem) (f0 : Int32) (n0 : Int32) (hI : Inv g) (hn0 : n0.toInt = 0) (hR : ∀ t, t < 64 → g 35 t = vR t) : Ctr l X yX9_rootOf cX9_rootOf 6 none (rmD 5) [.ref (aL X 34), .int f0, .int n0] g (pV (fun g2 => Inv g2 ∧ Kq [36, 37, 38, 39, 50, 51, 52] [4] g g2 ∧ hs_Gq (hs_b 0 0 0) 0 (g2 39))) := by
  refine Ctr.of (lv := [(0, .ref (aL X 34)), (1, .int f0), (2, .int n0)]) hX (by decide) rfl (Nat.le_of_ble_eq_true rfl) ?_
  intro p e s m below meth c C
  refine m_iload_n C dX9_rootOf_0 2 rfl ?_
  refine m_if_ne C 13 dX9_rootOf_1 (by decide) (fun h1 => ?_) (fun h1 => ?_)
  · skip
    have th1 := i_ne h1
    rw [show (0 : Int32).toInt = 0 by decide] at th1
    exact False.elim (by omega)
  · skip
    have th1 := i_eq h1
    rw [show (0 : Int32).toInt = 0 by decide] at th1
    refine m_aload_n C dX9_rootOf_4 0 rfl ?_
    refine m_invV C cal_X9_begin sh_34 rfl (c_X9_begin l hX g  hI) lk_X9_173 im_X9_begin se_X9_begin (by decide) rfl rfl (Nat.le_of_ble_eq_true rfl) dX9_rootOf_5 ⟨Nat.le_refl _, Nat.le_refl _⟩ (rV fun g3 q4 => ?_)
    obtain ⟨hI5, hK6, p7⟩ := q4
    have hK8 : Kq [36, 37, 38, 39, 50, 51, 52] [4] g g3 := (Kq.rf).tr hK6 (by decide) (by decide)
    refine m_aload_n C dX9_rootOf_8 0 rfl ?_
    refine m_invV C cal_X9_end sh_34 rfl (c_X9_end_e l hX g3  (hs_b 0 0 0) 0 hI5 ⟨by decide, by decide⟩ (p7.trans (by decide)) hs_z hs_b1 hs_b2 (fun t ht => (congrFun (hK8.1 35 (by decide) (by decide)) t).trans (hR t ht))) lk_X9_180 im_X9_end se_X9_end (by decide) rfl rfl (Nat.le_of_ble_eq_true rfl) dX9_rootOf_9 ⟨Nat.le_refl _, Nat.le_refl _⟩ (rV fun g10 q11 => ?_)
    obtain ⟨hI12, hK13, p14⟩ := q11
    have hK15 : Kq [36, 37, 38, 39, 50, 51, 52] [4] g g10 := (hK8).tr hK13 (by decide) (by decide)
    exact m_vret C dX9_rootOf_12 ⟨rfl, hI12, hK15, p14⟩
set_option maxRecDepth 20000 in
set_option maxHeartbeats 4000000 in
theorem c_X9_becomes_f (l : Launch) {X : XT} (hX : Lok X) (g : Mem) (pt : Int32) (o : Int32) (q : Int32) (z : Int32) (hI : Inv g) (hz : R01 z) (hF : FM g) : Ctr l X yX9_becomes cX9_becomes 7 (some .int) (rmD 5) [.ref (aL X 34), .int pt, .int o, .int q, .int z] g (pI (fun r g2 => Inv g2 ∧ Kq [36, 37, 38, 39, 46, 47, 48, 49] [4, 16, 20] g g2 ∧ ((r.toInt = z.toInt ∧ (((0 ≤ pt.toInt ∧ pt.toInt ≤ 11) ∨ (16 ≤ pt.toInt ∧ pt.toInt ≤ 19)) ∧ 0 ≤ o.toInt ∧ o.toInt ≤ 15 ∧ 0 ≤ q.toInt ∧ q.toInt ≤ 3)) ∨ (r.toInt = -2 ∧ ¬ (((0 ≤ pt.toInt ∧ pt.toInt ≤ 11) ∨ (16 ≤ pt.toInt ∧ pt.toInt ≤ 19)) ∧ 0 ≤ o.toInt ∧ o.toInt ≤ 15 ∧ 0 ≤ q.toInt ∧ q.toInt ≤ 3))))) := by
  refine Ctr.of (lv := [(0, .ref (aL X 34)), (1, .int pt), (2, .int o), (3, .int q), (4, .int z)]) hX (by decide) rfl (Nat.le_of_ble_eq_true rfl) ?_
  intro p e s m below meth c C
  have zf0 := hF.t 34 16 (by decide)
  have zf1 := hF.t 34 17 (by decide)
  have zf2 := hF.t 34 20 (by decide)
  have zf3 := hF.t 34 21 (by decide)
  have zf4 := hF.t 34 26 (by decide)
  have hz2 := hz.ti
  refine m_iload_n C dX9_becomes_0 1 rfl ?_
  refine m_invS C cal_X9_isTo (c_X9_isTo l hX g pt ) lk_X9_253 st_X9_isTo (by decide) rfl rfl (Nat.le_of_ble_eq_true rfl) dX9_becomes_1 ⟨Nat.le_refl _, Nat.le_refl _⟩ (rI fun r1 g2 q3 => ?_)
  obtain ⟨eg2, ⟨rfl, h4⟩ | ⟨rfl, h4⟩⟩ := q3
  · skip
    subst g2
    refine m_if_eq C 26 dX9_becomes_4 (by decide) (fun h => absurd h (by decide)) (fun _ => ?_)
    refine m_iload_n C dX9_becomes_7 2 rfl ?_
    refine m_invS C cal_X9_isObject (c_X9_isObject l hX g o ) lk_X9_231 st_X9_isObject (by decide) rfl rfl (Nat.le_of_ble_eq_true rfl) dX9_becomes_8 ⟨Nat.le_refl _, Nat.le_refl _⟩ (rI fun r5 g6 q7 => ?_)
    obtain ⟨eg6, ⟨rfl, h8⟩ | ⟨rfl, h8⟩⟩ := q7
    · skip
      subst g6
      refine m_if_eq C 26 dX9_becomes_11 (by decide) (fun h => absurd h (by decide)) (fun _ => ?_)
      refine m_iload_n C dX9_becomes_14 3 rfl ?_
      refine m_i2l C dX9_becomes_15 ?_
      refine m_lconst C (0 : Int64) dX9_becomes_16 (by decide) ?_
      refine m_ldc2 C (3) dX9_becomes_17 lk_X9_234 ?_
      have t9 : (q.toInt64).toInt = q.toInt := i2l_t _
      have t10 : (0 : Int64).toInt = 0 := by decide
      have t11 : (3 : Int64).toInt = 3 := by decide
      refine m_invS C cal_X9_in (c_X9_in l hX g (q.toInt64) (0 : Int64) (3 : Int64) ) lk_X9_185 st_X9_in (by decide) rfl rfl (Nat.le_of_ble_eq_true rfl) dX9_becomes_20 ⟨Nat.le_refl _, Nat.le_refl _⟩ (rI fun r12 g13 q14 => ?_)
      obtain ⟨eg13, ⟨rfl, h15⟩ | ⟨rfl, h15⟩⟩ := q14
      · skip
        subst g13
        refine m_if_ne C 29 dX9_becomes_23 (by decide) (fun _ => ?_) (fun h => absurd h (by decide))
        refine m_aload_n C dX9_becomes_29 0 rfl ?_
        refine m_invV C cal_X9_bars sh_34 rfl (c_X9_bars_f l hX g  hI hF) lk_X9_236 im_X9_bars se_X9_bars (by decide) rfl rfl (Nat.le_of_ble_eq_true rfl) dX9_becomes_30 ⟨Nat.le_refl _, Nat.le_refl _⟩ (rI fun r16 g17 q18 => ?_)
        obtain ⟨eg17, p19⟩ := q18
        subst g17
        refine m_if_ge C 41 dX9_becomes_33 (by decide) (fun h20 => ?_) (fun h20 => ?_)
        · skip
          have th20 := i_le h20
          rw [show (0 : Int32).toInt = 0 by decide] at th20
          refine m_iload_n C dX9_becomes_41 1 rfl ?_
          refine m_iload_n C dX9_becomes_42 2 rfl ?_
          refine m_iload_n C dX9_becomes_43 3 rfl ?_
          refine m_invS C cal_X9_at (c_X9_at l hX g pt o q hI (by omega) (by omega) (by omega)) lk_X9_223 st_X9_at (by decide) rfl rfl (Nat.le_of_ble_eq_true rfl) dX9_becomes_44 ⟨Nat.le_refl _, Nat.le_refl _⟩ (rI fun r21 g22 q23 => ?_)
          obtain ⟨eg22, p24⟩ := q23
          subst g22
          refine m_istore C [(5, .int r21), (0, .ref (aL X 34)), (1, .int pt), (2, .int o), (3, .int q), (4, .int z)] dX9_becomes_47 (by decide) rfl ?_
          refine m_aload_n C dX9_becomes_49 1 rfl ?_
          refine m_getr (rf := "") C 13 rfl gd9 (by decide) sh_34 rfl dX9_becomes_50 lk_X9_44 ?_
          refine m_iload C dX9_becomes_53 0 rfl ?_
          refine m_zald C sh_46 (i_in (by omega) (by omega)) dX9_becomes_55 ?_
          have z26 := hF.t 46 r21.toNatClampNeg (by decide)
          refine m_iload C dX9_becomes_56 5 rfl ?_
          refine m_icmp_ne C 65 dX9_becomes_58 (by decide) (fun h27 => ?_) (fun h27 => ?_)
          · skip
            have th27 := i_ne h27
            refine m_iconst C (1 : Int32) dX9_becomes_65 (by decide) ?_
            refine m_istore C [(6, .int (1 : Int32)), (5, .int r21), (0, .ref (aL X 34)), (1, .int pt), (2, .int o), (3, .int q), (4, .int z)] dX9_becomes_66 (by decide) rfl ?_
            refine m_aload_n C dX9_becomes_68 2 rfl ?_
            refine m_getr (rf := "") C 13 rfl gd9 (by decide) sh_34 rfl dX9_becomes_69 lk_X9_44 ?_
            refine m_iload C dX9_becomes_72 1 rfl ?_
            refine m_iload C dX9_becomes_74 6 rfl ?_
            refine m_zast C sh_46 (i_in (by omega) (by omega)) hz.vp dX9_becomes_76 ?_
            refine m_mem (fun g29 eg29 => ?_)
            have hI30 : Inv g29 := by rw [eg29]; exact hI.up (ok_mgives hz)
            have hK31 : Kq [36, 37, 38, 39, 46, 47, 48, 49] [4, 16, 20] g g29 := by rw [eg29]; exact Kq.upA Kq.rf (by decide) (by decide)
            have ev32 : g29 34 16 = g 34 16 := by rw [eg29]; exact up2_nei (Or.inl (by decide))
            have tev32 := congrArg Int32.toInt ev32
            refine m_aload_n C dX9_becomes_77 2 rfl ?_
            refine m_iload C dX9_becomes_78 6 rfl ?_
            refine m_if_eq C 87 dX9_becomes_80 (by decide) (fun h33 => ?_) (fun h33 => ?_)
            · skip
              have th33 := i_eq h33
              rw [show (0 : Int32).toInt = 0 by decide] at th33
              refine m_iconst C (2 : Int32) dX9_becomes_87 (by decide) ?_
              refine m_iload_n C dX9_becomes_88 3 rfl ?_
              refine m_iload_n C dX9_becomes_89 4 rfl ?_
              refine m_iload_n C dX9_becomes_90 5 rfl ?_
              refine m_iconst C (0 : Int32) dX9_becomes_91 (by decide) ?_
              have t34 : (2 : Int32).toInt = 2 := by decide
              have t35 : (0 : Int32).toInt = 0 := by decide
              refine m_invV C cal_X9_comes sh_34 rfl (c_X9_comes l hX g29 (2 : Int32) pt o q (0 : Int32) hI30 (by omega)) lk_X9_249 im_X9_comes se_X9_comes (by decide) rfl rfl (Nat.le_of_ble_eq_true rfl) dX9_becomes_92 ⟨Nat.le_refl _, Nat.le_refl _⟩ (rV fun g37 q38 => ?_)
              obtain ⟨hI39, hK40⟩ := q38
              have hK41 : Kq [36, 37, 38, 39, 46, 47, 48, 49] [4, 16, 20] g g37 := (hK31).tr hK40 (by decide) (by decide)
              refine m_iload C dX9_becomes_95 0 rfl ?_
              exact m_iret C dX9_becomes_97 ⟨_, rfl, hI39, hK41, (by have hl : (1 : Int32).toInt = 1 := (by decide); omega)⟩
            · skip
              have th33 := i_ne h33
              rw [show (0 : Int32).toInt = 0 by decide] at th33
              refine m_iconst C (1 : Int32) dX9_becomes_83 (by decide) ?_
              refine m_goto C 88 dX9_becomes_84 (by decide) ?_
              refine m_iload_n C dX9_becomes_88 3 rfl ?_
              refine m_iload_n C dX9_becomes_89 4 rfl ?_
              refine m_iload_n C dX9_becomes_90 5 rfl ?_
              refine m_iconst C (0 : Int32) dX9_becomes_91 (by decide) ?_
              have t42 : (1 : Int32).toInt = 1 := by decide
              have t43 : (0 : Int32).toInt = 0 := by decide
              refine m_invV C cal_X9_comes sh_34 rfl (c_X9_comes l hX g29 (1 : Int32) pt o q (0 : Int32) hI30 (by omega)) lk_X9_249 im_X9_comes se_X9_comes (by decide) rfl rfl (Nat.le_of_ble_eq_true rfl) dX9_becomes_92 ⟨Nat.le_refl _, Nat.le_refl _⟩ (rV fun g45 q46 => ?_)
              obtain ⟨hI47, hK48⟩ := q46
              have hK49 : Kq [36, 37, 38, 39, 46, 47, 48, 49] [4, 16, 20] g g45 := (hK31).tr hK48 (by decide) (by decide)
              refine m_iload C dX9_becomes_95 0 rfl ?_
              exact m_iret C dX9_becomes_97 ⟨_, rfl, hI47, hK49, (by have hl : (1 : Int32).toInt = 1 := (by decide); omega)⟩
          · skip
            have th27 := i_eq h27
            refine m_iconst C (0 : Int32) dX9_becomes_61 (by decide) ?_
            refine m_goto C 66 dX9_becomes_62 (by decide) ?_
            refine m_istore C [(6, .int (0 : Int32)), (5, .int r21), (0, .ref (aL X 34)), (1, .int pt), (2, .int o), (3, .int q), (4, .int z)] dX9_becomes_66 (by decide) rfl ?_
            refine m_aload_n C dX9_becomes_68 2 rfl ?_
            refine m_getr (rf := "") C 13 rfl gd9 (by decide) sh_34 rfl dX9_becomes_69 lk_X9_44 ?_
            refine m_iload C dX9_becomes_72 1 rfl ?_
            refine m_iload C dX9_becomes_74 6 rfl ?_
            refine m_zast C sh_46 (i_in (by omega) (by omega)) hz.vp dX9_becomes_76 ?_
            refine m_mem (fun g51 eg51 => ?_)
            have hI52 : Inv g51 := by rw [eg51]; exact hI.up (ok_mgives hz)
            have hK53 : Kq [36, 37, 38, 39, 46, 47, 48, 49] [4, 16, 20] g g51 := by rw [eg51]; exact Kq.upA Kq.rf (by decide) (by decide)
            have ev54 : g51 34 16 = g 34 16 := by rw [eg51]; exact up2_nei (Or.inl (by decide))
            have tev54 := congrArg Int32.toInt ev54
            refine m_aload_n C dX9_becomes_77 2 rfl ?_
            refine m_iload C dX9_becomes_78 6 rfl ?_
            refine m_if_eq C 87 dX9_becomes_80 (by decide) (fun h55 => ?_) (fun h55 => ?_)
            · skip
              have th55 := i_eq h55
              rw [show (0 : Int32).toInt = 0 by decide] at th55
              refine m_iconst C (2 : Int32) dX9_becomes_87 (by decide) ?_
              refine m_iload_n C dX9_becomes_88 3 rfl ?_
              refine m_iload_n C dX9_becomes_89 4 rfl ?_
              refine m_iload_n C dX9_becomes_90 5 rfl ?_
              refine m_iconst C (0 : Int32) dX9_becomes_91 (by decide) ?_
              have t56 : (2 : Int32).toInt = 2 := by decide
              have t57 : (0 : Int32).toInt = 0 := by decide
              refine m_invV C cal_X9_comes sh_34 rfl (c_X9_comes l hX g51 (2 : Int32) pt o q (0 : Int32) hI52 (by omega)) lk_X9_249 im_X9_comes se_X9_comes (by decide) rfl rfl (Nat.le_of_ble_eq_true rfl) dX9_becomes_92 ⟨Nat.le_refl _, Nat.le_refl _⟩ (rV fun g59 q60 => ?_)
              obtain ⟨hI61, hK62⟩ := q60
              have hK63 : Kq [36, 37, 38, 39, 46, 47, 48, 49] [4, 16, 20] g g59 := (hK53).tr hK62 (by decide) (by decide)
              refine m_iload C dX9_becomes_95 0 rfl ?_
              exact m_iret C dX9_becomes_97 ⟨_, rfl, hI61, hK63, (by have hl : (0 : Int32).toInt = 0 := (by decide); omega)⟩
            · skip
              have th55 := i_ne h55
              rw [show (0 : Int32).toInt = 0 by decide] at th55
              refine m_iconst C (1 : Int32) dX9_becomes_83 (by decide) ?_
              refine m_goto C 88 dX9_becomes_84 (by decide) ?_
              refine m_iload_n C dX9_becomes_88 3 rfl ?_
              refine m_iload_n C dX9_becomes_89 4 rfl ?_
              refine m_iload_n C dX9_becomes_90 5 rfl ?_
              refine m_iconst C (0 : Int32) dX9_becomes_91 (by decide) ?_
              have t64 : (1 : Int32).toInt = 1 := by decide
              have t65 : (0 : Int32).toInt = 0 := by decide
              refine m_invV C cal_X9_comes sh_34 rfl (c_X9_comes l hX g51 (1 : Int32) pt o q (0 : Int32) hI52 (by omega)) lk_X9_249 im_X9_comes se_X9_comes (by decide) rfl rfl (Nat.le_of_ble_eq_true rfl) dX9_becomes_92 ⟨Nat.le_refl _, Nat.le_refl _⟩ (rV fun g67 q68 => ?_)
              obtain ⟨hI69, hK70⟩ := q68
              have hK71 : Kq [36, 37, 38, 39, 46, 47, 48, 49] [4, 16, 20] g g67 := (hK53).tr hK70 (by decide) (by decide)
              refine m_iload C dX9_becomes_95 0 rfl ?_
              exact m_iret C dX9_becomes_97 ⟨_, rfl, hI69, hK71, (by have hl : (0 : Int32).toInt = 0 := (by decide); omega)⟩
        · skip
          have th20 := i_nle h20
          rw [show (0 : Int32).toInt = 0 by decide] at th20
          refine m_aload_n C dX9_becomes_36 0 rfl ?_
          refine m_invV C cal_X9_bars sh_34 rfl (c_X9_bars_f l hX g  hI hF) lk_X9_236 im_X9_bars se_X9_bars (by decide) rfl rfl (Nat.le_of_ble_eq_true rfl) dX9_becomes_37 ⟨Nat.le_refl _, Nat.le_refl _⟩ (rI fun r72 g73 q74 => ?_)
          obtain ⟨eg73, p75⟩ := q74
          subst g73
          exact m_iret C dX9_becomes_40 ⟨_, rfl, hI, Kq.rf, (by omega)⟩
      · skip
        subst g13
        refine m_if_ne C 29 dX9_becomes_23 (by decide) (fun h => absurd (by decide) h) (fun _ => ?_)
        refine m_bipush C (-2 : Int32) dX9_becomes_26 (by decide) ?_
        exact m_iret C dX9_becomes_28 ⟨_, rfl, hI, Kq.rf, (by have hl : (-2 : Int32).toInt = -2 := (by decide); omega)⟩
    · skip
      subst g6
      refine m_if_eq C 26 dX9_becomes_11 (by decide) (fun _ => ?_) (fun h => absurd (by decide) h)
      refine m_bipush C (-2 : Int32) dX9_becomes_26 (by decide) ?_
      exact m_iret C dX9_becomes_28 ⟨_, rfl, hI, Kq.rf, (by have hl : (-2 : Int32).toInt = -2 := (by decide); omega)⟩
  · skip
    subst g2
    refine m_if_eq C 26 dX9_becomes_4 (by decide) (fun _ => ?_) (fun h => absurd (by decide) h)
    refine m_bipush C (-2 : Int32) dX9_becomes_26 (by decide) ?_
    exact m_iret C dX9_becomes_28 ⟨_, rfl, hI, Kq.rf, (by have hl : (-2 : Int32).toInt = -2 := (by decide); omega)⟩
set_option maxRecDepth 20000 in
set_option maxHeartbeats 4000000 in
theorem c_X9_request_f (l : Launch) {X : XT} (hX : Lok X) (g : Mem) (a : Int32) (o : Int32) (q : Int32) (hI : Inv g) (hF : FM g) : Ctr l X yX9_request cX9_request 5 (some .int) (rmD 5) [.ref (aL X 34), .int a, .int o, .int q] g (pI (fun r g2 => Inv g2 ∧ Kq [36, 37, 38, 39, 42, 43, 47, 48, 49] [4, 14, 15, 16, 20] g g2 ∧ (((0 ≤ a.toInt ∧ a.toInt ≤ 11 ∧ 0 ≤ o.toInt ∧ o.toInt ≤ 15 ∧ 0 ≤ q.toInt ∧ q.toInt ≤ 3) ∧ ((r.toInt = 0 ∧ a.toInt = 0) ∨ (r.toInt = 4 ∧ a.toInt ≠ 0))) ∨ (r.toInt = -2 ∧ ¬ (0 ≤ a.toInt ∧ a.toInt ≤ 11 ∧ 0 ≤ o.toInt ∧ o.toInt ≤ 15 ∧ 0 ≤ q.toInt ∧ q.toInt ≤ 3))))) := by
  refine Ctr.of (lv := [(0, .ref (aL X 34)), (1, .int a), (2, .int o), (3, .int q)]) hX (by decide) rfl (Nat.le_of_ble_eq_true rfl) ?_
  intro p e s m below meth c C
  have zf0 := hF.t 34 16 (by decide)
  have zf1 := hF.t 34 17 (by decide)
  have zf2 := hF.t 34 20 (by decide)
  have zf3 := hF.t 34 21 (by decide)
  have zf4 := hF.t 34 26 (by decide)
  refine m_iload_n C dX9_request_0 1 rfl ?_
  refine m_invS C cal_X9_isSubject (c_X9_isSubject l hX g a ) lk_X9_191 st_X9_isSubject (by decide) rfl rfl (Nat.le_of_ble_eq_true rfl) dX9_request_1 ⟨Nat.le_refl _, Nat.le_refl _⟩ (rI fun r1 g2 q3 => ?_)
  obtain ⟨eg2, ⟨rfl, h4⟩ | ⟨rfl, h4⟩⟩ := q3
  · skip
    subst g2
    refine m_if_eq C 26 dX9_request_4 (by decide) (fun h => absurd h (by decide)) (fun _ => ?_)
    refine m_iload_n C dX9_request_7 2 rfl ?_
    refine m_invS C cal_X9_isObject (c_X9_isObject l hX g o ) lk_X9_231 st_X9_isObject (by decide) rfl rfl (Nat.le_of_ble_eq_true rfl) dX9_request_8 ⟨Nat.le_refl _, Nat.le_refl _⟩ (rI fun r5 g6 q7 => ?_)
    obtain ⟨eg6, ⟨rfl, h8⟩ | ⟨rfl, h8⟩⟩ := q7
    · skip
      subst g6
      refine m_if_eq C 26 dX9_request_11 (by decide) (fun h => absurd h (by decide)) (fun _ => ?_)
      refine m_iload_n C dX9_request_14 3 rfl ?_
      refine m_i2l C dX9_request_15 ?_
      refine m_lconst C (0 : Int64) dX9_request_16 (by decide) ?_
      refine m_ldc2 C (3) dX9_request_17 lk_X9_234 ?_
      have t9 : (q.toInt64).toInt = q.toInt := i2l_t _
      have t10 : (0 : Int64).toInt = 0 := by decide
      have t11 : (3 : Int64).toInt = 3 := by decide
      refine m_invS C cal_X9_in (c_X9_in l hX g (q.toInt64) (0 : Int64) (3 : Int64) ) lk_X9_185 st_X9_in (by decide) rfl rfl (Nat.le_of_ble_eq_true rfl) dX9_request_20 ⟨Nat.le_refl _, Nat.le_refl _⟩ (rI fun r12 g13 q14 => ?_)
      obtain ⟨eg13, ⟨rfl, h15⟩ | ⟨rfl, h15⟩⟩ := q14
      · skip
        subst g13
        refine m_if_ne C 29 dX9_request_23 (by decide) (fun _ => ?_) (fun h => absurd h (by decide))
        refine m_aload_n C dX9_request_29 0 rfl ?_
        refine m_invV C cal_X9_bars sh_34 rfl (c_X9_bars_f l hX g  hI hF) lk_X9_236 im_X9_bars se_X9_bars (by decide) rfl rfl (Nat.le_of_ble_eq_true rfl) dX9_request_30 ⟨Nat.le_refl _, Nat.le_refl _⟩ (rI fun r16 g17 q18 => ?_)
        obtain ⟨eg17, p19⟩ := q18
        subst g17
        refine m_if_ge C 41 dX9_request_33 (by decide) (fun h20 => ?_) (fun h20 => ?_)
        · skip
          have th20 := i_le h20
          rw [show (0 : Int32).toInt = 0 by decide] at th20
          refine m_aload_n C dX9_request_41 0 rfl ?_
          refine m_iload_n C dX9_request_42 1 rfl ?_
          refine m_iload_n C dX9_request_43 2 rfl ?_
          refine m_iload_n C dX9_request_44 3 rfl ?_
          refine m_invV C cal_X9_causeOf sh_34 rfl (c_X9_causeOf_f l hX g a o q hI (by omega) (by omega) (by omega) hF) lk_X9_240 im_X9_causeOf se_X9_causeOf (by decide) rfl rfl (Nat.le_of_ble_eq_true rfl) dX9_request_45 ⟨Nat.le_refl _, Nat.le_refl _⟩ (rI fun r21 g22 q23 => ?_)
          obtain ⟨eg22, p24⟩ := q23
          subst g22
          refine m_istore C [(4, .int r21), (0, .ref (aL X 34)), (1, .int a), (2, .int o), (3, .int q)] dX9_request_48 (by decide) rfl ?_
          refine m_iload C dX9_request_50 0 rfl ?_
          refine m_if_ne C 75 dX9_request_52 (by decide) (fun h26 => ?_) (fun h26 => ?_)
          · skip
            have th26 := i_ne h26
            rw [show (0 : Int32).toInt = 0 by decide] at th26
            refine m_aload_n C dX9_request_75 1 rfl ?_
            refine m_getr (rf := "") C 10 rfl gd9 (by decide) sh_34 rfl dX9_request_76 lk_X9_35 ?_
            refine m_iload_n C dX9_request_79 2 rfl ?_
            refine m_dup2 C dX9_request_80 rfl rfl ?_
            refine m_iald C sh_43 (i_in (by omega) (by omega)) dX9_request_81 ?_
            have z27 := hF.t 43 a.toNatClampNeg (by decide)
            refine m_iconst C (1 : Int32) dX9_request_82 (by decide) ?_
            refine m_iadd C dX9_request_83 ?_
            have t28 : ((g 43 a.toNatClampNeg) + (1 : Int32)).toInt = (g 43 a.toNatClampNeg).toInt + (1 : Int) := i_add rfl (by decide) (by omega) (by omega)
            refine m_iast C sh_43 (i_in (by omega) (by omega)) dX9_request_84 ?_
            refine m_mem (fun g29 eg29 => ?_)
            have hI30 : Inv g29 := by rw [eg29]; exact hI.up (ok_any (by decide))
            have hK31 : Kq [36, 37, 38, 39, 42, 43, 47, 48, 49] [4, 14, 15, 16, 20] g g29 := by rw [eg29]; exact Kq.upA Kq.rf (by decide) (by decide)
            have ev32 : g29 34 16 = g 34 16 := by rw [eg29]; exact up2_nei (Or.inl (by decide))
            have tev32 := congrArg Int32.toInt ev32
            refine m_aload_n C dX9_request_85 1 rfl ?_
            refine m_dup C dX9_request_86 rfl ?_
            refine m_geti (rf := "") C 15 rfl gd9 (by decide) sh_34 rfl dX9_request_87 lk_X9_246 ?_
            have z33 := hF.t 34 15 (by decide)
            refine m_iconst C (1 : Int32) dX9_request_90 (by decide) ?_
            refine m_iadd C dX9_request_91 ?_
            refine m_put (rf := "") C 15 rfl gd9 (by decide) tyX9 tyX9_ok nmX9 rfl (tyX9_ok 15 (by decide)) rfl rfl sh_34 rfl dX9_request_92 lk_X9_246 ?_
            refine m_mem (fun g34 eg34 => ?_)
            have hI35 : Inv g34 := by rw [eg34]; exact hI30.up (by simp [okv])
            have hK36 : Kq [36, 37, 38, 39, 42, 43, 47, 48, 49] [4, 14, 15, 16, 20] g g34 := by rw [eg34]; exact Kq.upF hK31 (by decide)
            have ev37 : g34 34 16 = g29 34 16 := by rw [eg34]; exact up2_nei (Or.inr (by decide))
            have tev37 := congrArg Int32.toInt ev37
            refine m_aload_n C dX9_request_95 1 rfl ?_
            refine m_getr (rf := "") C 9 rfl gd9 (by decide) sh_34 rfl dX9_request_96 lk_X9_31 ?_
            refine m_iload_n C dX9_request_99 2 rfl ?_
            refine m_dup2 C dX9_request_100 rfl rfl ?_
            refine m_zald C sh_42 (i_in (by omega) (by omega)) dX9_request_101 ?_
            refine m_aload_n C dX9_request_102 1 rfl ?_
            refine m_getr (rf := "") C 10 rfl gd9 (by decide) sh_34 rfl dX9_request_103 lk_X9_35 ?_
            refine m_iload_n C dX9_request_106 2 rfl ?_
            refine m_iald C sh_43 (i_in (by omega) (by omega)) dX9_request_107 ?_
            refine m_iconst C (3 : Int32) dX9_request_108 (by decide) ?_
            refine m_icmp_lt C 116 dX9_request_109 (by decide) (fun h38 => ?_) (fun h38 => ?_)
            · skip
              have th38 := i_lt h38
              rw [show (3 : Int32).toInt = 3 by decide] at th38
              refine m_iconst C (0 : Int32) dX9_request_116 (by decide) ?_
              refine m_ior C dX9_request_117 ?_
              refine m_zast C sh_42 (i_in (by omega) (by omega)) (R01.vp (by first | exact (iv_mlock hI35 _).orc.1 | exact (iv_mlock hI35 _).orc.2.1)) dX9_request_118 ?_
              refine m_mem (fun g39 eg39 => ?_)
              have hI40 : Inv g39 := by rw [eg39]; exact hI35.up (ok_mlock (by first | exact (iv_mlock hI35 _).orc.1 | exact (iv_mlock hI35 _).orc.2.1))
              have hK41 : Kq [36, 37, 38, 39, 42, 43, 47, 48, 49] [4, 14, 15, 16, 20] g g39 := by rw [eg39]; exact Kq.upA hK36 (by decide) (by decide)
              have ev42 : g39 34 16 = g34 34 16 := by rw [eg39]; exact up2_nei (Or.inl (by decide))
              have tev42 := congrArg Int32.toInt ev42
              refine m_aload_n C dX9_request_119 1 rfl ?_
              refine m_iconst C (0 : Int32) dX9_request_120 (by decide) ?_
              refine m_iload_n C dX9_request_121 2 rfl ?_
              refine m_iload_n C dX9_request_122 3 rfl ?_
              refine m_iload_n C dX9_request_123 4 rfl ?_
              refine m_iload C dX9_request_124 0 rfl ?_
              have t43 : (0 : Int32).toInt = 0 := by decide
              refine m_invV C cal_X9_comes sh_34 rfl (c_X9_comes l hX g39 (0 : Int32) a o q r21 hI40 (by omega)) lk_X9_249 im_X9_comes se_X9_comes (by decide) rfl rfl (Nat.le_of_ble_eq_true rfl) dX9_request_126 ⟨Nat.le_refl _, Nat.le_refl _⟩ (rV fun g45 q46 => ?_)
              obtain ⟨hI47, hK48⟩ := q46
              have hK49 : Kq [36, 37, 38, 39, 42, 43, 47, 48, 49] [4, 14, 15, 16, 20] g g45 := (hK41).tr hK48 (by decide) (by decide)
              refine m_iload C dX9_request_129 0 rfl ?_
              exact m_iret C dX9_request_131 ⟨_, rfl, hI47, hK49, (by omega)⟩
            · skip
              have th38 := i_nlt h38
              rw [show (3 : Int32).toInt = 3 by decide] at th38
              refine m_iconst C (1 : Int32) dX9_request_112 (by decide) ?_
              refine m_goto C 117 dX9_request_113 (by decide) ?_
              refine m_ior C dX9_request_117 ?_
              refine m_zast C sh_42 (i_in (by omega) (by omega)) (R01.vp (by first | exact (iv_mlock hI35 _).orc.1 | exact (iv_mlock hI35 _).orc.2.1)) dX9_request_118 ?_
              refine m_mem (fun g50 eg50 => ?_)
              have hI51 : Inv g50 := by rw [eg50]; exact hI35.up (ok_mlock (by first | exact (iv_mlock hI35 _).orc.1 | exact (iv_mlock hI35 _).orc.2.1))
              have hK52 : Kq [36, 37, 38, 39, 42, 43, 47, 48, 49] [4, 14, 15, 16, 20] g g50 := by rw [eg50]; exact Kq.upA hK36 (by decide) (by decide)
              have ev53 : g50 34 16 = g34 34 16 := by rw [eg50]; exact up2_nei (Or.inl (by decide))
              have tev53 := congrArg Int32.toInt ev53
              refine m_aload_n C dX9_request_119 1 rfl ?_
              refine m_iconst C (0 : Int32) dX9_request_120 (by decide) ?_
              refine m_iload_n C dX9_request_121 2 rfl ?_
              refine m_iload_n C dX9_request_122 3 rfl ?_
              refine m_iload_n C dX9_request_123 4 rfl ?_
              refine m_iload C dX9_request_124 0 rfl ?_
              have t54 : (0 : Int32).toInt = 0 := by decide
              refine m_invV C cal_X9_comes sh_34 rfl (c_X9_comes l hX g50 (0 : Int32) a o q r21 hI51 (by omega)) lk_X9_249 im_X9_comes se_X9_comes (by decide) rfl rfl (Nat.le_of_ble_eq_true rfl) dX9_request_126 ⟨Nat.le_refl _, Nat.le_refl _⟩ (rV fun g56 q57 => ?_)
              obtain ⟨hI58, hK59⟩ := q57
              have hK60 : Kq [36, 37, 38, 39, 42, 43, 47, 48, 49] [4, 14, 15, 16, 20] g g56 := (hK52).tr hK59 (by decide) (by decide)
              refine m_iload C dX9_request_129 0 rfl ?_
              exact m_iret C dX9_request_131 ⟨_, rfl, hI58, hK60, (by omega)⟩
          · skip
            have th26 := i_eq h26
            rw [show (0 : Int32).toInt = 0 by decide] at th26
            refine m_aload_n C dX9_request_55 1 rfl ?_
            refine m_getr (rf := "") C 10 rfl gd9 (by decide) sh_34 rfl dX9_request_56 lk_X9_35 ?_
            refine m_iload_n C dX9_request_59 2 rfl ?_
            refine m_iconst C (0 : Int32) dX9_request_60 (by decide) ?_
            refine m_iast C sh_43 (i_in (by omega) (by omega)) dX9_request_61 ?_
            refine m_mem (fun g61 eg61 => ?_)
            have hI62 : Inv g61 := by rw [eg61]; exact hI.up (ok_any (by decide))
            have hK63 : Kq [36, 37, 38, 39, 42, 43, 47, 48, 49] [4, 14, 15, 16, 20] g g61 := by rw [eg61]; exact Kq.upA Kq.rf (by decide) (by decide)
            have ev64 : g61 34 16 = g 34 16 := by rw [eg61]; exact up2_nei (Or.inl (by decide))
            have tev64 := congrArg Int32.toInt ev64
            refine m_aload_n C dX9_request_62 1 rfl ?_
            refine m_dup C dX9_request_63 rfl ?_
            refine m_geti (rf := "") C 14 rfl gd9 (by decide) sh_34 rfl dX9_request_64 lk_X9_243 ?_
            have z65 := hF.t 34 14 (by decide)
            refine m_iconst C (1 : Int32) dX9_request_67 (by decide) ?_
            refine m_iadd C dX9_request_68 ?_
            refine m_put (rf := "") C 14 rfl gd9 (by decide) tyX9 tyX9_ok nmX9 rfl (tyX9_ok 14 (by decide)) rfl rfl sh_34 rfl dX9_request_69 lk_X9_243 ?_
            refine m_mem (fun g66 eg66 => ?_)
            have hI67 : Inv g66 := by rw [eg66]; exact hI62.up (by simp [okv])
            have hK68 : Kq [36, 37, 38, 39, 42, 43, 47, 48, 49] [4, 14, 15, 16, 20] g g66 := by rw [eg66]; exact Kq.upF hK63 (by decide)
            have ev69 : g66 34 16 = g61 34 16 := by rw [eg66]; exact up2_nei (Or.inr (by decide))
            have tev69 := congrArg Int32.toInt ev69
            refine m_goto C 119 dX9_request_72 (by decide) ?_
            refine m_aload_n C dX9_request_119 1 rfl ?_
            refine m_iconst C (0 : Int32) dX9_request_120 (by decide) ?_
            refine m_iload_n C dX9_request_121 2 rfl ?_
            refine m_iload_n C dX9_request_122 3 rfl ?_
            refine m_iload_n C dX9_request_123 4 rfl ?_
            refine m_iload C dX9_request_124 0 rfl ?_
            have t70 : (0 : Int32).toInt = 0 := by decide
            refine m_invV C cal_X9_comes sh_34 rfl (c_X9_comes l hX g66 (0 : Int32) a o q r21 hI67 (by omega)) lk_X9_249 im_X9_comes se_X9_comes (by decide) rfl rfl (Nat.le_of_ble_eq_true rfl) dX9_request_126 ⟨Nat.le_refl _, Nat.le_refl _⟩ (rV fun g72 q73 => ?_)
            obtain ⟨hI74, hK75⟩ := q73
            have hK76 : Kq [36, 37, 38, 39, 42, 43, 47, 48, 49] [4, 14, 15, 16, 20] g g72 := (hK68).tr hK75 (by decide) (by decide)
            refine m_iload C dX9_request_129 0 rfl ?_
            exact m_iret C dX9_request_131 ⟨_, rfl, hI74, hK76, (by omega)⟩
        · skip
          have th20 := i_nle h20
          rw [show (0 : Int32).toInt = 0 by decide] at th20
          refine m_aload_n C dX9_request_36 0 rfl ?_
          refine m_invV C cal_X9_bars sh_34 rfl (c_X9_bars_f l hX g  hI hF) lk_X9_236 im_X9_bars se_X9_bars (by decide) rfl rfl (Nat.le_of_ble_eq_true rfl) dX9_request_37 ⟨Nat.le_refl _, Nat.le_refl _⟩ (rI fun r77 g78 q79 => ?_)
          obtain ⟨eg78, p80⟩ := q79
          subst g78
          exact m_iret C dX9_request_40 ⟨_, rfl, hI, Kq.rf, (by omega)⟩
      · skip
        subst g13
        refine m_if_ne C 29 dX9_request_23 (by decide) (fun h => absurd (by decide) h) (fun _ => ?_)
        refine m_bipush C (-2 : Int32) dX9_request_26 (by decide) ?_
        exact m_iret C dX9_request_28 ⟨_, rfl, hI, Kq.rf, (by have hl : (-2 : Int32).toInt = -2 := (by decide); omega)⟩
    · skip
      subst g6
      refine m_if_eq C 26 dX9_request_11 (by decide) (fun _ => ?_) (fun h => absurd (by decide) h)
      refine m_bipush C (-2 : Int32) dX9_request_26 (by decide) ?_
      exact m_iret C dX9_request_28 ⟨_, rfl, hI, Kq.rf, (by have hl : (-2 : Int32).toInt = -2 := (by decide); omega)⟩
  · skip
    subst g2
    refine m_if_eq C 26 dX9_request_4 (by decide) (fun _ => ?_) (fun h => absurd (by decide) h)
    refine m_bipush C (-2 : Int32) dX9_request_26 (by decide) ?_
    exact m_iret C dX9_request_28 ⟨_, rfl, hI, Kq.rf, (by have hl : (-2 : Int32).toInt = -2 := (by decide); omega)⟩
set_option maxRecDepth 20000 in
set_option maxHeartbeats 4000000 in
theorem c_X9_give_f (l : Launch) {X : XT} (hX : Lok X) (g : Mem) (pt : Int32) (o : Int32) (q : Int32) (hI : Inv g) (hF : FM g) : Ctr l X yX9_give cX9_give 4 (some .int) (rmD 6) [.ref (aL X 34), .int pt, .int o, .int q] g (pI (fun r g2 => Inv g2 ∧ Kq [36, 37, 38, 39, 46, 47, 48, 49] [4, 16, 20] g g2 ∧ ((r.toInt = 1 ∧ (((0 ≤ pt.toInt ∧ pt.toInt ≤ 11) ∨ (16 ≤ pt.toInt ∧ pt.toInt ≤ 19)) ∧ 0 ≤ o.toInt ∧ o.toInt ≤ 15 ∧ 0 ≤ q.toInt ∧ q.toInt ≤ 3)) ∨ (r.toInt = -2 ∧ ¬ (((0 ≤ pt.toInt ∧ pt.toInt ≤ 11) ∨ (16 ≤ pt.toInt ∧ pt.toInt ≤ 19)) ∧ 0 ≤ o.toInt ∧ o.toInt ≤ 15 ∧ 0 ≤ q.toInt ∧ q.toInt ≤ 3))))) := by
  refine Ctr.of (lv := [(0, .ref (aL X 34)), (1, .int pt), (2, .int o), (3, .int q)]) hX (by decide) rfl (Nat.le_of_ble_eq_true rfl) ?_
  intro p e s m below meth c C
  have zf0 := hF.t 34 16 (by decide)
  have zf1 := hF.t 34 17 (by decide)
  have zf2 := hF.t 34 20 (by decide)
  have zf3 := hF.t 34 21 (by decide)
  have zf4 := hF.t 34 26 (by decide)
  refine m_aload_n C dX9_give_0 0 rfl ?_
  refine m_iload_n C dX9_give_1 1 rfl ?_
  refine m_iload_n C dX9_give_2 2 rfl ?_
  refine m_iload_n C dX9_give_3 3 rfl ?_
  refine m_iconst C (1 : Int32) dX9_give_4 (by decide) ?_
  have t1 : (1 : Int32).toInt = 1 := by decide
  refine m_invV C cal_X9_becomes sh_34 rfl (c_X9_becomes_f l hX g pt o q (1 : Int32) hI (by first | exact Or.inl rfl | exact Or.inr rfl) hF) lk_X9_256 im_X9_becomes se_X9_becomes (by decide) rfl rfl (Nat.le_of_ble_eq_true rfl) dX9_give_5 ⟨Nat.le_refl _, Nat.le_refl _⟩ (rI fun r2 g3 q4 => ?_)
  obtain ⟨hI5, hK6, p7⟩ := q4
  have hK8 : Kq [36, 37, 38, 39, 46, 47, 48, 49] [4, 16, 20] g g3 := (Kq.rf).tr hK6 (by decide) (by decide)
  exact m_iret C dX9_give_8 ⟨_, rfl, hI5, hK8, (by omega)⟩
set_option maxRecDepth 20000 in
set_option maxHeartbeats 4000000 in
theorem c_X9_take_f (l : Launch) {X : XT} (hX : Lok X) (g : Mem) (pt : Int32) (o : Int32) (q : Int32) (hI : Inv g) (hF : FM g) : Ctr l X yX9_take cX9_take 4 (some .int) (rmD 6) [.ref (aL X 34), .int pt, .int o, .int q] g (pI (fun r g2 => Inv g2 ∧ Kq [36, 37, 38, 39, 46, 47, 48, 49] [4, 16, 20] g g2 ∧ ((r.toInt = 0 ∧ (((0 ≤ pt.toInt ∧ pt.toInt ≤ 11) ∨ (16 ≤ pt.toInt ∧ pt.toInt ≤ 19)) ∧ 0 ≤ o.toInt ∧ o.toInt ≤ 15 ∧ 0 ≤ q.toInt ∧ q.toInt ≤ 3)) ∨ (r.toInt = -2 ∧ ¬ (((0 ≤ pt.toInt ∧ pt.toInt ≤ 11) ∨ (16 ≤ pt.toInt ∧ pt.toInt ≤ 19)) ∧ 0 ≤ o.toInt ∧ o.toInt ≤ 15 ∧ 0 ≤ q.toInt ∧ q.toInt ≤ 3))))) := by
  refine Ctr.of (lv := [(0, .ref (aL X 34)), (1, .int pt), (2, .int o), (3, .int q)]) hX (by decide) rfl (Nat.le_of_ble_eq_true rfl) ?_
  intro p e s m below meth c C
  have zf0 := hF.t 34 16 (by decide)
  have zf1 := hF.t 34 17 (by decide)
  have zf2 := hF.t 34 20 (by decide)
  have zf3 := hF.t 34 21 (by decide)
  have zf4 := hF.t 34 26 (by decide)
  refine m_aload_n C dX9_take_0 0 rfl ?_
  refine m_iload_n C dX9_take_1 1 rfl ?_
  refine m_iload_n C dX9_take_2 2 rfl ?_
  refine m_iload_n C dX9_take_3 3 rfl ?_
  refine m_iconst C (0 : Int32) dX9_take_4 (by decide) ?_
  have t1 : (0 : Int32).toInt = 0 := by decide
  refine m_invV C cal_X9_becomes sh_34 rfl (c_X9_becomes_f l hX g pt o q (0 : Int32) hI (by first | exact Or.inl rfl | exact Or.inr rfl) hF) lk_X9_256 im_X9_becomes se_X9_becomes (by decide) rfl rfl (Nat.le_of_ble_eq_true rfl) dX9_take_5 ⟨Nat.le_refl _, Nat.le_refl _⟩ (rI fun r2 g3 q4 => ?_)
  obtain ⟨hI5, hK6, p7⟩ := q4
  have hK8 : Kq [36, 37, 38, 39, 46, 47, 48, 49] [4, 16, 20] g g3 := (Kq.rf).tr hK6 (by decide) (by decide)
  exact m_iret C dX9_take_8 ⟨_, rfl, hI5, hK8, (by omega)⟩
set_option maxRecDepth 20000 in
set_option maxHeartbeats 4000000 in
theorem c_X9_subject_f (l : Launch) {X : XT} (hX : Lok X) (g : Mem) (a : Int32) (v : Int32) (w : Int32) (hI : Inv g) (hF : FM g) : Ctr l X yX9_subject cX9_subject 4 (some .int) (rmD 5) [.ref (aL X 34), .int a, .int v, .int w] g (pI (fun r g2 => Inv g2 ∧ Kq [36, 37, 38, 39, 40, 41, 47, 48, 49] [4, 16, 20] g g2 ∧ ((r.toInt = 1 ∧ (0 ≤ a.toInt ∧ a.toInt ≤ 11 ∧ 0 ≤ v.toInt ∧ v.toInt ≤ 7 ∧ 0 ≤ w.toInt ∧ w.toInt ≤ 3)) ∨ (r.toInt = -2 ∧ ¬ (0 ≤ a.toInt ∧ a.toInt ≤ 11 ∧ 0 ≤ v.toInt ∧ v.toInt ≤ 7 ∧ 0 ≤ w.toInt ∧ w.toInt ≤ 3))))) := by
  refine Ctr.of (lv := [(0, .ref (aL X 34)), (1, .int a), (2, .int v), (3, .int w)]) hX (by decide) rfl (Nat.le_of_ble_eq_true rfl) ?_
  intro p e s m below meth c C
  have zf0 := hF.t 34 16 (by decide)
  have zf1 := hF.t 34 17 (by decide)
  have zf2 := hF.t 34 20 (by decide)
  have zf3 := hF.t 34 21 (by decide)
  have zf4 := hF.t 34 26 (by decide)
  refine m_iload_n C dX9_subject_0 1 rfl ?_
  refine m_invS C cal_X9_isSubject (c_X9_isSubject l hX g a ) lk_X9_191 st_X9_isSubject (by decide) rfl rfl (Nat.le_of_ble_eq_true rfl) dX9_subject_1 ⟨Nat.le_refl _, Nat.le_refl _⟩ (rI fun r1 g2 q3 => ?_)
  obtain ⟨eg2, ⟨rfl, h4⟩ | ⟨rfl, h4⟩⟩ := q3
  · skip
    subst g2
    refine m_if_eq C 31 dX9_subject_4 (by decide) (fun h => absurd h (by decide)) (fun _ => ?_)
    refine m_iload_n C dX9_subject_7 2 rfl ?_
    refine m_i2l C dX9_subject_8 ?_
    refine m_lconst C (0 : Int64) dX9_subject_9 (by decide) ?_
    refine m_ldc2 C (7) dX9_subject_10 lk_X9_260 ?_
    have t5 : (v.toInt64).toInt = v.toInt := i2l_t _
    have t6 : (0 : Int64).toInt = 0 := by decide
    have t7 : (7 : Int64).toInt = 7 := by decide
    refine m_invS C cal_X9_in (c_X9_in l hX g (v.toInt64) (0 : Int64) (7 : Int64) ) lk_X9_185 st_X9_in (by decide) rfl rfl (Nat.le_of_ble_eq_true rfl) dX9_subject_13 ⟨Nat.le_refl _, Nat.le_refl _⟩ (rI fun r8 g9 q10 => ?_)
    obtain ⟨eg9, ⟨rfl, h11⟩ | ⟨rfl, h11⟩⟩ := q10
    · skip
      subst g9
      refine m_if_eq C 31 dX9_subject_16 (by decide) (fun h => absurd h (by decide)) (fun _ => ?_)
      refine m_iload_n C dX9_subject_19 3 rfl ?_
      refine m_i2l C dX9_subject_20 ?_
      refine m_lconst C (0 : Int64) dX9_subject_21 (by decide) ?_
      refine m_ldc2 C (3) dX9_subject_22 lk_X9_234 ?_
      have t12 : (w.toInt64).toInt = w.toInt := i2l_t _
      have t13 : (0 : Int64).toInt = 0 := by decide
      have t14 : (3 : Int64).toInt = 3 := by decide
      refine m_invS C cal_X9_in (c_X9_in l hX g (w.toInt64) (0 : Int64) (3 : Int64) ) lk_X9_185 st_X9_in (by decide) rfl rfl (Nat.le_of_ble_eq_true rfl) dX9_subject_25 ⟨Nat.le_refl _, Nat.le_refl _⟩ (rI fun r15 g16 q17 => ?_)
      obtain ⟨eg16, ⟨rfl, h18⟩ | ⟨rfl, h18⟩⟩ := q17
      · skip
        subst g16
        refine m_if_ne C 34 dX9_subject_28 (by decide) (fun _ => ?_) (fun h => absurd h (by decide))
        refine m_aload_n C dX9_subject_34 0 rfl ?_
        refine m_invV C cal_X9_bars sh_34 rfl (c_X9_bars_f l hX g  hI hF) lk_X9_236 im_X9_bars se_X9_bars (by decide) rfl rfl (Nat.le_of_ble_eq_true rfl) dX9_subject_35 ⟨Nat.le_refl _, Nat.le_refl _⟩ (rI fun r19 g20 q21 => ?_)
        obtain ⟨eg20, p22⟩ := q21
        subst g20
        refine m_if_ge C 46 dX9_subject_38 (by decide) (fun h23 => ?_) (fun h23 => ?_)
        · skip
          have th23 := i_le h23
          rw [show (0 : Int32).toInt = 0 by decide] at th23
          refine m_aload_n C dX9_subject_46 0 rfl ?_
          refine m_getr (rf := "") C 7 rfl gd9 (by decide) sh_34 rfl dX9_subject_47 lk_X9_25 ?_
          refine m_iload_n C dX9_subject_50 1 rfl ?_
          refine m_iload_n C dX9_subject_51 2 rfl ?_
          refine m_iast C sh_40 (i_in (by omega) (by omega)) dX9_subject_52 ?_
          refine m_mem (fun g24 eg24 => ?_)
          have hI25 : Inv g24 := by rw [eg24]; exact hI.up (ok_any (by decide))
          have hK26 : Kq [36, 37, 38, 39, 40, 41, 47, 48, 49] [4, 16, 20] g g24 := by rw [eg24]; exact Kq.upA Kq.rf (by decide) (by decide)
          have ev27 : g24 34 16 = g 34 16 := by rw [eg24]; exact up2_nei (Or.inl (by decide))
          have tev27 := congrArg Int32.toInt ev27
          refine m_aload_n C dX9_subject_53 0 rfl ?_
          refine m_getr (rf := "") C 8 rfl gd9 (by decide) sh_34 rfl dX9_subject_54 lk_X9_28 ?_
          refine m_iload_n C dX9_subject_57 1 rfl ?_
          refine m_iload_n C dX9_subject_58 3 rfl ?_
          refine m_iast C sh_41 (i_in (by omega) (by omega)) dX9_subject_59 ?_
          refine m_mem (fun g28 eg28 => ?_)
          have hI29 : Inv g28 := by rw [eg28]; exact hI25.up (ok_mgrp (by omega) (by omega))
          have hK30 : Kq [36, 37, 38, 39, 40, 41, 47, 48, 49] [4, 16, 20] g g28 := by rw [eg28]; exact Kq.upA hK26 (by decide) (by decide)
          have ev31 : g28 34 16 = g24 34 16 := by rw [eg28]; exact up2_nei (Or.inl (by decide))
          have tev31 := congrArg Int32.toInt ev31
          refine m_aload_n C dX9_subject_60 0 rfl ?_
          refine m_iconst C (3 : Int32) dX9_subject_61 (by decide) ?_
          refine m_iload_n C dX9_subject_62 1 rfl ?_
          refine m_iload_n C dX9_subject_63 2 rfl ?_
          refine m_iload_n C dX9_subject_64 3 rfl ?_
          refine m_iconst C (0 : Int32) dX9_subject_65 (by decide) ?_
          have t32 : (3 : Int32).toInt = 3 := by decide
          have t33 : (0 : Int32).toInt = 0 := by decide
          refine m_invV C cal_X9_comes sh_34 rfl (c_X9_comes l hX g28 (3 : Int32) a v w (0 : Int32) hI29 (by omega)) lk_X9_249 im_X9_comes se_X9_comes (by decide) rfl rfl (Nat.le_of_ble_eq_true rfl) dX9_subject_66 ⟨Nat.le_refl _, Nat.le_refl _⟩ (rV fun g35 q36 => ?_)
          obtain ⟨hI37, hK38⟩ := q36
          have hK39 : Kq [36, 37, 38, 39, 40, 41, 47, 48, 49] [4, 16, 20] g g35 := (hK30).tr hK38 (by decide) (by decide)
          refine m_iconst C (1 : Int32) dX9_subject_69 (by decide) ?_
          exact m_iret C dX9_subject_70 ⟨_, rfl, hI37, hK39, (by have hl : (1 : Int32).toInt = 1 := (by decide); omega)⟩
        · skip
          have th23 := i_nle h23
          rw [show (0 : Int32).toInt = 0 by decide] at th23
          refine m_aload_n C dX9_subject_41 0 rfl ?_
          refine m_invV C cal_X9_bars sh_34 rfl (c_X9_bars_f l hX g  hI hF) lk_X9_236 im_X9_bars se_X9_bars (by decide) rfl rfl (Nat.le_of_ble_eq_true rfl) dX9_subject_42 ⟨Nat.le_refl _, Nat.le_refl _⟩ (rI fun r40 g41 q42 => ?_)
          obtain ⟨eg41, p43⟩ := q42
          subst g41
          exact m_iret C dX9_subject_45 ⟨_, rfl, hI, Kq.rf, (by omega)⟩
      · skip
        subst g16
        refine m_if_ne C 34 dX9_subject_28 (by decide) (fun h => absurd (by decide) h) (fun _ => ?_)
        refine m_bipush C (-2 : Int32) dX9_subject_31 (by decide) ?_
        exact m_iret C dX9_subject_33 ⟨_, rfl, hI, Kq.rf, (by have hl : (-2 : Int32).toInt = -2 := (by decide); omega)⟩
    · skip
      subst g9
      refine m_if_eq C 31 dX9_subject_16 (by decide) (fun _ => ?_) (fun h => absurd (by decide) h)
      refine m_bipush C (-2 : Int32) dX9_subject_31 (by decide) ?_
      exact m_iret C dX9_subject_33 ⟨_, rfl, hI, Kq.rf, (by have hl : (-2 : Int32).toInt = -2 := (by decide); omega)⟩
  · skip
    subst g2
    refine m_if_eq C 31 dX9_subject_4 (by decide) (fun _ => ?_) (fun h => absurd (by decide) h)
    refine m_bipush C (-2 : Int32) dX9_subject_31 (by decide) ?_
    exact m_iret C dX9_subject_33 ⟨_, rfl, hI, Kq.rf, (by have hl : (-2 : Int32).toInt = -2 := (by decide); omega)⟩
set_option maxRecDepth 20000 in
set_option maxHeartbeats 4000000 in
theorem c_X9_object_f (l : Launch) {X : XT} (hX : Lok X) (g : Mem) (o : Int32) (v : Int32) (w : Int32) (hI : Inv g) (hF : FM g) : Ctr l X yX9_object cX9_object 4 (some .int) (rmD 5) [.ref (aL X 34), .int o, .int v, .int w] g (pI (fun r g2 => Inv g2 ∧ Kq [36, 37, 38, 39, 44, 45, 47, 48, 49] [4, 16, 20] g g2 ∧ ((r.toInt = 1 ∧ (0 ≤ o.toInt ∧ o.toInt ≤ 15 ∧ 0 ≤ v.toInt ∧ v.toInt ≤ 7 ∧ 0 ≤ w.toInt ∧ w.toInt ≤ 11)) ∨ (r.toInt = -2 ∧ ¬ (0 ≤ o.toInt ∧ o.toInt ≤ 15 ∧ 0 ≤ v.toInt ∧ v.toInt ≤ 7 ∧ 0 ≤ w.toInt ∧ w.toInt ≤ 11))))) := by
  refine Ctr.of (lv := [(0, .ref (aL X 34)), (1, .int o), (2, .int v), (3, .int w)]) hX (by decide) rfl (Nat.le_of_ble_eq_true rfl) ?_
  intro p e s m below meth c C
  have zf0 := hF.t 34 16 (by decide)
  have zf1 := hF.t 34 17 (by decide)
  have zf2 := hF.t 34 20 (by decide)
  have zf3 := hF.t 34 21 (by decide)
  have zf4 := hF.t 34 26 (by decide)
  refine m_iload_n C dX9_object_0 1 rfl ?_
  refine m_invS C cal_X9_isObject (c_X9_isObject l hX g o ) lk_X9_231 st_X9_isObject (by decide) rfl rfl (Nat.le_of_ble_eq_true rfl) dX9_object_1 ⟨Nat.le_refl _, Nat.le_refl _⟩ (rI fun r1 g2 q3 => ?_)
  obtain ⟨eg2, ⟨rfl, h4⟩ | ⟨rfl, h4⟩⟩ := q3
  · skip
    subst g2
    refine m_if_eq C 26 dX9_object_4 (by decide) (fun h => absurd h (by decide)) (fun _ => ?_)
    refine m_iload_n C dX9_object_7 2 rfl ?_
    refine m_i2l C dX9_object_8 ?_
    refine m_lconst C (0 : Int64) dX9_object_9 (by decide) ?_
    refine m_ldc2 C (7) dX9_object_10 lk_X9_260 ?_
    have t5 : (v.toInt64).toInt = v.toInt := i2l_t _
    have t6 : (0 : Int64).toInt = 0 := by decide
    have t7 : (7 : Int64).toInt = 7 := by decide
    refine m_invS C cal_X9_in (c_X9_in l hX g (v.toInt64) (0 : Int64) (7 : Int64) ) lk_X9_185 st_X9_in (by decide) rfl rfl (Nat.le_of_ble_eq_true rfl) dX9_object_13 ⟨Nat.le_refl _, Nat.le_refl _⟩ (rI fun r8 g9 q10 => ?_)
    obtain ⟨eg9, ⟨rfl, h11⟩ | ⟨rfl, h11⟩⟩ := q10
    · skip
      subst g9
      refine m_if_eq C 26 dX9_object_16 (by decide) (fun h => absurd h (by decide)) (fun _ => ?_)
      refine m_iload_n C dX9_object_19 3 rfl ?_
      refine m_invS C cal_X9_isSubject (c_X9_isSubject l hX g w ) lk_X9_191 st_X9_isSubject (by decide) rfl rfl (Nat.le_of_ble_eq_true rfl) dX9_object_20 ⟨Nat.le_refl _, Nat.le_refl _⟩ (rI fun r12 g13 q14 => ?_)
      obtain ⟨eg13, ⟨rfl, h15⟩ | ⟨rfl, h15⟩⟩ := q14
      · skip
        subst g13
        refine m_if_ne C 29 dX9_object_23 (by decide) (fun _ => ?_) (fun h => absurd h (by decide))
        refine m_aload_n C dX9_object_29 0 rfl ?_
        refine m_invV C cal_X9_bars sh_34 rfl (c_X9_bars_f l hX g  hI hF) lk_X9_236 im_X9_bars se_X9_bars (by decide) rfl rfl (Nat.le_of_ble_eq_true rfl) dX9_object_30 ⟨Nat.le_refl _, Nat.le_refl _⟩ (rI fun r16 g17 q18 => ?_)
        obtain ⟨eg17, p19⟩ := q18
        subst g17
        refine m_if_ge C 41 dX9_object_33 (by decide) (fun h20 => ?_) (fun h20 => ?_)
        · skip
          have th20 := i_le h20
          rw [show (0 : Int32).toInt = 0 by decide] at th20
          refine m_aload_n C dX9_object_41 0 rfl ?_
          refine m_getr (rf := "") C 11 rfl gd9 (by decide) sh_34 rfl dX9_object_42 lk_X9_38 ?_
          refine m_iload_n C dX9_object_45 1 rfl ?_
          refine m_iload_n C dX9_object_46 2 rfl ?_
          refine m_iast C sh_44 (i_in (by omega) (by omega)) dX9_object_47 ?_
          refine m_mem (fun g21 eg21 => ?_)
          have hI22 : Inv g21 := by rw [eg21]; exact hI.up (ok_any (by decide))
          have hK23 : Kq [36, 37, 38, 39, 44, 45, 47, 48, 49] [4, 16, 20] g g21 := by rw [eg21]; exact Kq.upA Kq.rf (by decide) (by decide)
          have ev24 : g21 34 16 = g 34 16 := by rw [eg21]; exact up2_nei (Or.inl (by decide))
          have tev24 := congrArg Int32.toInt ev24
          refine m_aload_n C dX9_object_48 0 rfl ?_
          refine m_getr (rf := "") C 12 rfl gd9 (by decide) sh_34 rfl dX9_object_49 lk_X9_41 ?_
          refine m_iload_n C dX9_object_52 1 rfl ?_
          refine m_iload_n C dX9_object_53 3 rfl ?_
          refine m_iast C sh_45 (i_in (by omega) (by omega)) dX9_object_54 ?_
          refine m_mem (fun g25 eg25 => ?_)
          have hI26 : Inv g25 := by rw [eg25]; exact hI22.up (ok_any (by decide))
          have hK27 : Kq [36, 37, 38, 39, 44, 45, 47, 48, 49] [4, 16, 20] g g25 := by rw [eg25]; exact Kq.upA hK23 (by decide) (by decide)
          have ev28 : g25 34 16 = g21 34 16 := by rw [eg25]; exact up2_nei (Or.inl (by decide))
          have tev28 := congrArg Int32.toInt ev28
          refine m_aload_n C dX9_object_55 0 rfl ?_
          refine m_iconst C (4 : Int32) dX9_object_56 (by decide) ?_
          refine m_iload_n C dX9_object_57 1 rfl ?_
          refine m_iload_n C dX9_object_58 2 rfl ?_
          refine m_iload_n C dX9_object_59 3 rfl ?_
          refine m_iconst C (0 : Int32) dX9_object_60 (by decide) ?_
          have t29 : (4 : Int32).toInt = 4 := by decide
          have t30 : (0 : Int32).toInt = 0 := by decide
          refine m_invV C cal_X9_comes sh_34 rfl (c_X9_comes l hX g25 (4 : Int32) o v w (0 : Int32) hI26 (by omega)) lk_X9_249 im_X9_comes se_X9_comes (by decide) rfl rfl (Nat.le_of_ble_eq_true rfl) dX9_object_61 ⟨Nat.le_refl _, Nat.le_refl _⟩ (rV fun g32 q33 => ?_)
          obtain ⟨hI34, hK35⟩ := q33
          have hK36 : Kq [36, 37, 38, 39, 44, 45, 47, 48, 49] [4, 16, 20] g g32 := (hK27).tr hK35 (by decide) (by decide)
          refine m_iconst C (1 : Int32) dX9_object_64 (by decide) ?_
          exact m_iret C dX9_object_65 ⟨_, rfl, hI34, hK36, (by have hl : (1 : Int32).toInt = 1 := (by decide); omega)⟩
        · skip
          have th20 := i_nle h20
          rw [show (0 : Int32).toInt = 0 by decide] at th20
          refine m_aload_n C dX9_object_36 0 rfl ?_
          refine m_invV C cal_X9_bars sh_34 rfl (c_X9_bars_f l hX g  hI hF) lk_X9_236 im_X9_bars se_X9_bars (by decide) rfl rfl (Nat.le_of_ble_eq_true rfl) dX9_object_37 ⟨Nat.le_refl _, Nat.le_refl _⟩ (rI fun r37 g38 q39 => ?_)
          obtain ⟨eg38, p40⟩ := q39
          subst g38
          exact m_iret C dX9_object_40 ⟨_, rfl, hI, Kq.rf, (by omega)⟩
      · skip
        subst g13
        refine m_if_ne C 29 dX9_object_23 (by decide) (fun h => absurd (by decide) h) (fun _ => ?_)
        refine m_bipush C (-2 : Int32) dX9_object_26 (by decide) ?_
        exact m_iret C dX9_object_28 ⟨_, rfl, hI, Kq.rf, (by have hl : (-2 : Int32).toInt = -2 := (by decide); omega)⟩
    · skip
      subst g9
      refine m_if_eq C 26 dX9_object_16 (by decide) (fun _ => ?_) (fun h => absurd (by decide) h)
      refine m_bipush C (-2 : Int32) dX9_object_26 (by decide) ?_
      exact m_iret C dX9_object_28 ⟨_, rfl, hI, Kq.rf, (by have hl : (-2 : Int32).toInt = -2 := (by decide); omega)⟩
  · skip
    subst g2
    refine m_if_eq C 26 dX9_object_4 (by decide) (fun _ => ?_) (fun h => absurd (by decide) h)
    refine m_bipush C (-2 : Int32) dX9_object_26 (by decide) ?_
    exact m_iret C dX9_object_28 ⟨_, rfl, hI, Kq.rf, (by have hl : (-2 : Int32).toInt = -2 := (by decide); omega)⟩
set_option maxRecDepth 20000 in
set_option maxHeartbeats 4000000 in
theorem c_X9_unlock_f (l : Launch) {X : XT} (hX : Lok X) (g : Mem) (a : Int32) (hI : Inv g) (hF : FM g) : Ctr l X yX9_unlock cX9_unlock 3 (some .int) (rmD 5) [.ref (aL X 34), .int a] g (pI (fun r g2 => Inv g2 ∧ Kq [36, 37, 38, 39, 42, 43, 47, 48, 49] [4, 16, 20] g g2 ∧ ((r.toInt = 0 ∧ (0 ≤ a.toInt ∧ a.toInt ≤ 11)) ∨ (r.toInt = -2 ∧ ¬ (0 ≤ a.toInt ∧ a.toInt ≤ 11))))) := by
  refine Ctr.of (lv := [(0, .ref (aL X 34)), (1, .int a)]) hX (by decide) rfl (Nat.le_of_ble_eq_true rfl) ?_
  intro p e s m below meth c C
  have zf0 := hF.t 34 16 (by decide)
  have zf1 := hF.t 34 17 (by decide)
  have zf2 := hF.t 34 20 (by decide)
  have zf3 := hF.t 34 21 (by decide)
  have zf4 := hF.t 34 26 (by decide)
  refine m_iload_n C dX9_unlock_0 1 rfl ?_
  refine m_invS C cal_X9_isSubject (c_X9_isSubject l hX g a ) lk_X9_191 st_X9_isSubject (by decide) rfl rfl (Nat.le_of_ble_eq_true rfl) dX9_unlock_1 ⟨Nat.le_refl _, Nat.le_refl _⟩ (rI fun r1 g2 q3 => ?_)
  obtain ⟨eg2, ⟨rfl, h4⟩ | ⟨rfl, h4⟩⟩ := q3
  · skip
    subst g2
    refine m_if_ne C 10 dX9_unlock_4 (by decide) (fun _ => ?_) (fun h => absurd h (by decide))
    refine m_aload_n C dX9_unlock_10 0 rfl ?_
    refine m_invV C cal_X9_bars sh_34 rfl (c_X9_bars_f l hX g  hI hF) lk_X9_236 im_X9_bars se_X9_bars (by decide) rfl rfl (Nat.le_of_ble_eq_true rfl) dX9_unlock_11 ⟨Nat.le_refl _, Nat.le_refl _⟩ (rI fun r5 g6 q7 => ?_)
    obtain ⟨eg6, p8⟩ := q7
    subst g6
    refine m_if_ge C 22 dX9_unlock_14 (by decide) (fun h9 => ?_) (fun h9 => ?_)
    · skip
      have th9 := i_le h9
      rw [show (0 : Int32).toInt = 0 by decide] at th9
      refine m_aload_n C dX9_unlock_22 0 rfl ?_
      refine m_getr (rf := "") C 9 rfl gd9 (by decide) sh_34 rfl dX9_unlock_23 lk_X9_31 ?_
      refine m_iload_n C dX9_unlock_26 1 rfl ?_
      refine m_zald C sh_42 (i_in (by omega) (by omega)) dX9_unlock_27 ?_
      have z10 := hF.t 42 a.toNatClampNeg (by decide)
      refine m_if_eq C 35 dX9_unlock_28 (by decide) (fun h11 => ?_) (fun h11 => ?_)
      · skip
        have th11 := i_eq h11
        rw [show (0 : Int32).toInt = 0 by decide] at th11
        refine m_iconst C (0 : Int32) dX9_unlock_35 (by decide) ?_
        refine m_istore_n C [(2, .int (0 : Int32)), (0, .ref (aL X 34)), (1, .int a)] dX9_unlock_36 (by decide) rfl ?_
        refine m_aload_n C dX9_unlock_37 1 rfl ?_
        refine m_getr (rf := "") C 9 rfl gd9 (by decide) sh_34 rfl dX9_unlock_38 lk_X9_31 ?_
        refine m_iload_n C dX9_unlock_41 2 rfl ?_
        refine m_iconst C (0 : Int32) dX9_unlock_42 (by decide) ?_
        refine m_zast C sh_42 (i_in (by omega) (by omega)) (by decide) dX9_unlock_43 ?_
        refine m_mem (fun g13 eg13 => ?_)
        have hI14 : Inv g13 := by rw [eg13]; exact hI.up (ok_mlock (Or.inl rfl))
        have hK15 : Kq [36, 37, 38, 39, 42, 43, 47, 48, 49] [4, 16, 20] g g13 := by rw [eg13]; exact Kq.upA Kq.rf (by decide) (by decide)
        have ev16 : g13 34 16 = g 34 16 := by rw [eg13]; exact up2_nei (Or.inl (by decide))
        have tev16 := congrArg Int32.toInt ev16
        refine m_aload_n C dX9_unlock_44 1 rfl ?_
        refine m_getr (rf := "") C 10 rfl gd9 (by decide) sh_34 rfl dX9_unlock_45 lk_X9_35 ?_
        refine m_iload_n C dX9_unlock_48 2 rfl ?_
        refine m_iconst C (0 : Int32) dX9_unlock_49 (by decide) ?_
        refine m_iast C sh_43 (i_in (by omega) (by omega)) dX9_unlock_50 ?_
        refine m_mem (fun g17 eg17 => ?_)
        have hI18 : Inv g17 := by rw [eg17]; exact hI14.up (ok_any (by decide))
        have hK19 : Kq [36, 37, 38, 39, 42, 43, 47, 48, 49] [4, 16, 20] g g17 := by rw [eg17]; exact Kq.upA hK15 (by decide) (by decide)
        have ev20 : g17 34 16 = g13 34 16 := by rw [eg17]; exact up2_nei (Or.inl (by decide))
        have tev20 := congrArg Int32.toInt ev20
        refine m_aload_n C dX9_unlock_51 1 rfl ?_
        refine m_iconst C (5 : Int32) dX9_unlock_52 (by decide) ?_
        refine m_iload_n C dX9_unlock_53 2 rfl ?_
        refine m_iconst C (0 : Int32) dX9_unlock_54 (by decide) ?_
        refine m_iconst C (0 : Int32) dX9_unlock_55 (by decide) ?_
        refine m_iconst C (0 : Int32) dX9_unlock_56 (by decide) ?_
        have t21 : (5 : Int32).toInt = 5 := by decide
        have t22 : (0 : Int32).toInt = 0 := by decide
        have t23 : (0 : Int32).toInt = 0 := by decide
        have t24 : (0 : Int32).toInt = 0 := by decide
        refine m_invV C cal_X9_comes sh_34 rfl (c_X9_comes l hX g17 (5 : Int32) a (0 : Int32) (0 : Int32) (0 : Int32) hI18 (by omega)) lk_X9_249 im_X9_comes se_X9_comes (by decide) rfl rfl (Nat.le_of_ble_eq_true rfl) dX9_unlock_57 ⟨Nat.le_refl _, Nat.le_refl _⟩ (rV fun g26 q27 => ?_)
        obtain ⟨hI28, hK29⟩ := q27
        have hK30 : Kq [36, 37, 38, 39, 42, 43, 47, 48, 49] [4, 16, 20] g g26 := (hK19).tr hK29 (by decide) (by decide)
        refine m_iload_n C dX9_unlock_60 0 rfl ?_
        exact m_iret C dX9_unlock_61 ⟨_, rfl, hI28, hK30, (by have hl : (0 : Int32).toInt = 0 := (by decide); omega)⟩
      · skip
        have th11 := i_ne h11
        rw [show (0 : Int32).toInt = 0 by decide] at th11
        refine m_iconst C (1 : Int32) dX9_unlock_31 (by decide) ?_
        refine m_goto C 36 dX9_unlock_32 (by decide) ?_
        refine m_istore_n C [(2, .int (1 : Int32)), (0, .ref (aL X 34)), (1, .int a)] dX9_unlock_36 (by decide) rfl ?_
        refine m_aload_n C dX9_unlock_37 1 rfl ?_
        refine m_getr (rf := "") C 9 rfl gd9 (by decide) sh_34 rfl dX9_unlock_38 lk_X9_31 ?_
        refine m_iload_n C dX9_unlock_41 2 rfl ?_
        refine m_iconst C (0 : Int32) dX9_unlock_42 (by decide) ?_
        refine m_zast C sh_42 (i_in (by omega) (by omega)) (by decide) dX9_unlock_43 ?_
        refine m_mem (fun g32 eg32 => ?_)
        have hI33 : Inv g32 := by rw [eg32]; exact hI.up (ok_mlock (Or.inl rfl))
        have hK34 : Kq [36, 37, 38, 39, 42, 43, 47, 48, 49] [4, 16, 20] g g32 := by rw [eg32]; exact Kq.upA Kq.rf (by decide) (by decide)
        have ev35 : g32 34 16 = g 34 16 := by rw [eg32]; exact up2_nei (Or.inl (by decide))
        have tev35 := congrArg Int32.toInt ev35
        refine m_aload_n C dX9_unlock_44 1 rfl ?_
        refine m_getr (rf := "") C 10 rfl gd9 (by decide) sh_34 rfl dX9_unlock_45 lk_X9_35 ?_
        refine m_iload_n C dX9_unlock_48 2 rfl ?_
        refine m_iconst C (0 : Int32) dX9_unlock_49 (by decide) ?_
        refine m_iast C sh_43 (i_in (by omega) (by omega)) dX9_unlock_50 ?_
        refine m_mem (fun g36 eg36 => ?_)
        have hI37 : Inv g36 := by rw [eg36]; exact hI33.up (ok_any (by decide))
        have hK38 : Kq [36, 37, 38, 39, 42, 43, 47, 48, 49] [4, 16, 20] g g36 := by rw [eg36]; exact Kq.upA hK34 (by decide) (by decide)
        have ev39 : g36 34 16 = g32 34 16 := by rw [eg36]; exact up2_nei (Or.inl (by decide))
        have tev39 := congrArg Int32.toInt ev39
        refine m_aload_n C dX9_unlock_51 1 rfl ?_
        refine m_iconst C (5 : Int32) dX9_unlock_52 (by decide) ?_
        refine m_iload_n C dX9_unlock_53 2 rfl ?_
        refine m_iconst C (0 : Int32) dX9_unlock_54 (by decide) ?_
        refine m_iconst C (0 : Int32) dX9_unlock_55 (by decide) ?_
        refine m_iconst C (0 : Int32) dX9_unlock_56 (by decide) ?_
        have t40 : (5 : Int32).toInt = 5 := by decide
        have t41 : (0 : Int32).toInt = 0 := by decide
        have t42 : (0 : Int32).toInt = 0 := by decide
        have t43 : (0 : Int32).toInt = 0 := by decide
        refine m_invV C cal_X9_comes sh_34 rfl (c_X9_comes l hX g36 (5 : Int32) a (0 : Int32) (0 : Int32) (0 : Int32) hI37 (by omega)) lk_X9_249 im_X9_comes se_X9_comes (by decide) rfl rfl (Nat.le_of_ble_eq_true rfl) dX9_unlock_57 ⟨Nat.le_refl _, Nat.le_refl _⟩ (rV fun g45 q46 => ?_)
        obtain ⟨hI47, hK48⟩ := q46
        have hK49 : Kq [36, 37, 38, 39, 42, 43, 47, 48, 49] [4, 16, 20] g g45 := (hK38).tr hK48 (by decide) (by decide)
        refine m_iload_n C dX9_unlock_60 0 rfl ?_
        exact m_iret C dX9_unlock_61 ⟨_, rfl, hI47, hK49, (by have hl : (1 : Int32).toInt = 1 := (by decide); omega)⟩
    · skip
      have th9 := i_nle h9
      rw [show (0 : Int32).toInt = 0 by decide] at th9
      refine m_aload_n C dX9_unlock_17 0 rfl ?_
      refine m_invV C cal_X9_bars sh_34 rfl (c_X9_bars_f l hX g  hI hF) lk_X9_236 im_X9_bars se_X9_bars (by decide) rfl rfl (Nat.le_of_ble_eq_true rfl) dX9_unlock_18 ⟨Nat.le_refl _, Nat.le_refl _⟩ (rI fun r50 g51 q52 => ?_)
      obtain ⟨eg51, p53⟩ := q52
      subst g51
      exact m_iret C dX9_unlock_21 ⟨_, rfl, hI, Kq.rf, (by omega)⟩
  · skip
    subst g2
    refine m_if_ne C 10 dX9_unlock_4 (by decide) (fun h => absurd (by decide) h) (fun _ => ?_)
    refine m_bipush C (-2 : Int32) dX9_unlock_7 (by decide) ?_
    exact m_iret C dX9_unlock_9 ⟨_, rfl, hI, Kq.rf, (by have hl : (-2 : Int32).toInt = -2 := (by decide); omega)⟩
set_option maxRecDepth 20000 in
set_option maxHeartbeats 4000000 in
theorem c_X9_subjectAt_f (l : Launch) {X : XT} (hX : Lok X) (g : Mem) (a : Int32) (w : Int32) (hI : Inv g) (hF : FM g) : Ctr l X yX9_subjectAt cX9_subjectAt 3 (some .int) (rmD 2) [.ref (aL X 34), .int a, .int w] g (pI (fun r g2 => g2 = g ∧ ((r.toInt = 0 ∧ (0 ≤ a.toInt ∧ a.toInt ≤ 11 ∧ 0 ≤ w.toInt ∧ w.toInt ≤ 3)) ∨ (r.toInt = -2 ∧ ¬ (0 ≤ a.toInt ∧ a.toInt ≤ 11 ∧ 0 ≤ w.toInt ∧ w.toInt ≤ 3))))) := by
  refine Ctr.of (lv := [(0, .ref (aL X 34)), (1, .int a), (2, .int w)]) hX (by decide) rfl (Nat.le_of_ble_eq_true rfl) ?_
  intro p e s m below meth c C
  have zf0 := hF.t 34 16 (by decide)
  have zf1 := hF.t 34 17 (by decide)
  have zf2 := hF.t 34 20 (by decide)
  have zf3 := hF.t 34 21 (by decide)
  have zf4 := hF.t 34 26 (by decide)
  refine m_iload_n C dX9_subjectAt_0 1 rfl ?_
  refine m_invS C cal_X9_isSubject (c_X9_isSubject l hX g a ) lk_X9_191 st_X9_isSubject (by decide) rfl rfl (Nat.le_of_ble_eq_true rfl) dX9_subjectAt_1 ⟨Nat.le_refl _, Nat.le_refl _⟩ (rI fun r1 g2 q3 => ?_)
  obtain ⟨eg2, ⟨rfl, h4⟩ | ⟨rfl, h4⟩⟩ := q3
  · skip
    subst g2
    refine m_if_ne C 10 dX9_subjectAt_4 (by decide) (fun _ => ?_) (fun h => absurd h (by decide))
    refine m_iload_n C dX9_subjectAt_10 2 rfl ?_
    rcases Int.lt_or_le (w).toInt 0 with h5 | h5
    · skip
      refine m_tabO C 76 dX9_subjectAt_11 (Or.inl h5) (by decide) ?_
      refine m_bipush C (-2 : Int32) dX9_subjectAt_76 (by decide) ?_
      exact m_iret C dX9_subjectAt_78 ⟨_, rfl, rfl, (by have hl : (-2 : Int32).toInt = -2 := (by decide); omega)⟩
    · skip
      by_cases h6 : (w).toInt = 0
      · skip
        refine m_tabI C 40 dX9_subjectAt_11 (by omega) (by omega) (off := 29) (by rw [h6]; rfl) (by decide) ?_
        refine m_aload_n C dX9_subjectAt_40 0 rfl ?_
        refine m_getr (rf := "") C 7 rfl gd9 (by decide) sh_34 rfl dX9_subjectAt_41 lk_X9_25 ?_
        refine m_iload_n C dX9_subjectAt_44 1 rfl ?_
        refine m_iald C sh_40 (i_in (by omega) (by omega)) dX9_subjectAt_45 ?_
        have z7 := hF.t 40 a.toNatClampNeg (by decide)
        exact m_iret C dX9_subjectAt_46 ⟨_, rfl, rfl, (by omega)⟩
      · skip
        by_cases h8 : (w).toInt = 1
        · skip
          refine m_tabI C 47 dX9_subjectAt_11 (by omega) (by omega) (off := 36) (by rw [h8]; rfl) (by decide) ?_
          refine m_aload_n C dX9_subjectAt_47 0 rfl ?_
          refine m_getr (rf := "") C 8 rfl gd9 (by decide) sh_34 rfl dX9_subjectAt_48 lk_X9_28 ?_
          refine m_iload_n C dX9_subjectAt_51 1 rfl ?_
          refine m_iald C sh_41 (i_in (by omega) (by omega)) dX9_subjectAt_52 ?_
          have r9 := iv_mgrp hI a.toNatClampNeg
          have z10 := hF.t 41 a.toNatClampNeg (by decide)
          exact m_iret C dX9_subjectAt_53 ⟨_, rfl, rfl, (by omega)⟩
        · skip
          by_cases h11 : (w).toInt = 2
          · skip
            refine m_tabI C 54 dX9_subjectAt_11 (by omega) (by omega) (off := 43) (by rw [h11]; rfl) (by decide) ?_
            refine m_aload_n C dX9_subjectAt_54 0 rfl ?_
            refine m_getr (rf := "") C 9 rfl gd9 (by decide) sh_34 rfl dX9_subjectAt_55 lk_X9_31 ?_
            refine m_iload_n C dX9_subjectAt_58 1 rfl ?_
            refine m_zald C sh_42 (i_in (by omega) (by omega)) dX9_subjectAt_59 ?_
            have z12 := hF.t 42 a.toNatClampNeg (by decide)
            refine m_if_eq C 67 dX9_subjectAt_60 (by decide) (fun h13 => ?_) (fun h13 => ?_)
            · skip
              have th13 := i_eq h13
              rw [show (0 : Int32).toInt = 0 by decide] at th13
              refine m_iconst C (0 : Int32) dX9_subjectAt_67 (by decide) ?_
              exact m_iret C dX9_subjectAt_68 ⟨_, rfl, rfl, (by have hl : (0 : Int32).toInt = 0 := (by decide); omega)⟩
            · skip
              have th13 := i_ne h13
              rw [show (0 : Int32).toInt = 0 by decide] at th13
              refine m_iconst C (1 : Int32) dX9_subjectAt_63 (by decide) ?_
              refine m_goto C 68 dX9_subjectAt_64 (by decide) ?_
              exact m_iret C dX9_subjectAt_68 ⟨_, rfl, rfl, (by have hl : (1 : Int32).toInt = 1 := (by decide); omega)⟩
          · skip
            by_cases h14 : (w).toInt = 3
            · skip
              refine m_tabI C 69 dX9_subjectAt_11 (by omega) (by omega) (off := 58) (by rw [h14]; rfl) (by decide) ?_
              refine m_aload_n C dX9_subjectAt_69 0 rfl ?_
              refine m_getr (rf := "") C 10 rfl gd9 (by decide) sh_34 rfl dX9_subjectAt_70 lk_X9_35 ?_
              refine m_iload_n C dX9_subjectAt_73 1 rfl ?_
              refine m_iald C sh_43 (i_in (by omega) (by omega)) dX9_subjectAt_74 ?_
              have z15 := hF.t 43 a.toNatClampNeg (by decide)
              exact m_iret C dX9_subjectAt_75 ⟨_, rfl, rfl, (by omega)⟩
            · skip
              refine m_tabO C 76 dX9_subjectAt_11 (Or.inr (by omega)) (by decide) ?_
              refine m_bipush C (-2 : Int32) dX9_subjectAt_76 (by decide) ?_
              exact m_iret C dX9_subjectAt_78 ⟨_, rfl, rfl, (by have hl : (-2 : Int32).toInt = -2 := (by decide); omega)⟩
  · skip
    subst g2
    refine m_if_ne C 10 dX9_subjectAt_4 (by decide) (fun h => absurd (by decide) h) (fun _ => ?_)
    refine m_bipush C (-2 : Int32) dX9_subjectAt_7 (by decide) ?_
    exact m_iret C dX9_subjectAt_9 ⟨_, rfl, rfl, (by have hl : (-2 : Int32).toInt = -2 := (by decide); omega)⟩
set_option maxRecDepth 20000 in
set_option maxHeartbeats 4000000 in
theorem c_X9_objectAt_f (l : Launch) {X : XT} (hX : Lok X) (g : Mem) (o : Int32) (w : Int32) (hI : Inv g) (hF : FM g) : Ctr l X yX9_objectAt cX9_objectAt 3 (some .int) (rmD 2) [.ref (aL X 34), .int o, .int w] g (pI (fun r g2 => g2 = g ∧ ((r.toInt = 0 ∧ (0 ≤ o.toInt ∧ o.toInt ≤ 15 ∧ 0 ≤ w.toInt ∧ w.toInt ≤ 1)) ∨ (r.toInt = -2 ∧ ¬ (0 ≤ o.toInt ∧ o.toInt ≤ 15 ∧ 0 ≤ w.toInt ∧ w.toInt ≤ 1))))) := by
  refine Ctr.of (lv := [(0, .ref (aL X 34)), (1, .int o), (2, .int w)]) hX (by decide) rfl (Nat.le_of_ble_eq_true rfl) ?_
  intro p e s m below meth c C
  have zf0 := hF.t 34 16 (by decide)
  have zf1 := hF.t 34 17 (by decide)
  have zf2 := hF.t 34 20 (by decide)
  have zf3 := hF.t 34 21 (by decide)
  have zf4 := hF.t 34 26 (by decide)
  refine m_iload_n C dX9_objectAt_0 1 rfl ?_
  refine m_invS C cal_X9_isObject (c_X9_isObject l hX g o ) lk_X9_231 st_X9_isObject (by decide) rfl rfl (Nat.le_of_ble_eq_true rfl) dX9_objectAt_1 ⟨Nat.le_refl _, Nat.le_refl _⟩ (rI fun r1 g2 q3 => ?_)
  obtain ⟨eg2, ⟨rfl, h4⟩ | ⟨rfl, h4⟩⟩ := q3
  · skip
    subst g2
    refine m_if_eq C 17 dX9_objectAt_4 (by decide) (fun h => absurd h (by decide)) (fun _ => ?_)
    refine m_iload_n C dX9_objectAt_7 2 rfl ?_
    refine m_i2l C dX9_objectAt_8 ?_
    refine m_lconst C (0 : Int64) dX9_objectAt_9 (by decide) ?_
    refine m_lconst C (1 : Int64) dX9_objectAt_10 (by decide) ?_
    have t5 : (w.toInt64).toInt = w.toInt := i2l_t _
    have t6 : (0 : Int64).toInt = 0 := by decide
    have t7 : (1 : Int64).toInt = 1 := by decide
    refine m_invS C cal_X9_in (c_X9_in l hX g (w.toInt64) (0 : Int64) (1 : Int64) ) lk_X9_185 st_X9_in (by decide) rfl rfl (Nat.le_of_ble_eq_true rfl) dX9_objectAt_11 ⟨Nat.le_refl _, Nat.le_refl _⟩ (rI fun r8 g9 q10 => ?_)
    obtain ⟨eg9, ⟨rfl, h11⟩ | ⟨rfl, h11⟩⟩ := q10
    · skip
      subst g9
      refine m_if_ne C 22 dX9_objectAt_14 (by decide) (fun _ => ?_) (fun h => absurd h (by decide))
      refine m_iload_n C dX9_objectAt_22 2 rfl ?_
      refine m_if_ne C 35 dX9_objectAt_23 (by decide) (fun h12 => ?_) (fun h12 => ?_)
      · skip
        have th12 := i_ne h12
        rw [show (0 : Int32).toInt = 0 by decide] at th12
        refine m_aload_n C dX9_objectAt_35 0 rfl ?_
        refine m_getr (rf := "") C 12 rfl gd9 (by decide) sh_34 rfl dX9_objectAt_36 lk_X9_41 ?_
        refine m_iload_n C dX9_objectAt_39 1 rfl ?_
        refine m_iald C sh_45 (i_in (by omega) (by omega)) dX9_objectAt_40 ?_
        have z13 := hF.t 45 o.toNatClampNeg (by decide)
        exact m_iret C dX9_objectAt_41 ⟨_, rfl, rfl, (by omega)⟩
      · skip
        have th12 := i_eq h12
        rw [show (0 : Int32).toInt = 0 by decide] at th12
        refine m_aload_n C dX9_objectAt_26 0 rfl ?_
        refine m_getr (rf := "") C 11 rfl gd9 (by decide) sh_34 rfl dX9_objectAt_27 lk_X9_38 ?_
        refine m_iload_n C dX9_objectAt_30 1 rfl ?_
        refine m_iald C sh_44 (i_in (by omega) (by omega)) dX9_objectAt_31 ?_
        have z14 := hF.t 44 o.toNatClampNeg (by decide)
        refine m_goto C 41 dX9_objectAt_32 (by decide) ?_
        exact m_iret C dX9_objectAt_41 ⟨_, rfl, rfl, (by omega)⟩
    · skip
      subst g9
      refine m_if_ne C 22 dX9_objectAt_14 (by decide) (fun h => absurd (by decide) h) (fun _ => ?_)
      refine m_bipush C (-2 : Int32) dX9_objectAt_17 (by decide) ?_
      refine m_goto C 41 dX9_objectAt_19 (by decide) ?_
      exact m_iret C dX9_objectAt_41 ⟨_, rfl, rfl, (by have hl : (-2 : Int32).toInt = -2 := (by decide); omega)⟩
  · skip
    subst g2
    refine m_if_eq C 17 dX9_objectAt_4 (by decide) (fun _ => ?_) (fun h => absurd (by decide) h)
    refine m_bipush C (-2 : Int32) dX9_objectAt_17 (by decide) ?_
    refine m_goto C 41 dX9_objectAt_19 (by decide) ?_
    exact m_iret C dX9_objectAt_41 ⟨_, rfl, rfl, (by have hl : (-2 : Int32).toInt = -2 := (by decide); omega)⟩
set_option maxRecDepth 20000 in
set_option maxHeartbeats 4000000 in
theorem c_X9_given_f (l : Launch) {X : XT} (hX : Lok X) (g : Mem) (pt : Int32) (o : Int32) (q : Int32) (hI : Inv g) (hF : FM g) : Ctr l X yX9_given cX9_given 4 (some .int) (rmD 3) [.ref (aL X 34), .int pt, .int o, .int q] g (pI (fun r g2 => g2 = g ∧ ((r.toInt = 0 ∧ (((0 ≤ pt.toInt ∧ pt.toInt ≤ 11) ∨ (16 ≤ pt.toInt ∧ pt.toInt ≤ 19)) ∧ 0 ≤ o.toInt ∧ o.toInt ≤ 15 ∧ 0 ≤ q.toInt ∧ q.toInt ≤ 3)) ∨ (r.toInt = -2 ∧ ¬ (((0 ≤ pt.toInt ∧ pt.toInt ≤ 11) ∨ (16 ≤ pt.toInt ∧ pt.toInt ≤ 19)) ∧ 0 ≤ o.toInt ∧ o.toInt ≤ 15 ∧ 0 ≤ q.toInt ∧ q.toInt ≤ 3))))) := by
  refine Ctr.of (lv := [(0, .ref (aL X 34)), (1, .int pt), (2, .int o), (3, .int q)]) hX (by decide) rfl (Nat.le_of_ble_eq_true rfl) ?_
  intro p e s m below meth c C
  have zf0 := hF.t 34 16 (by decide)
  have zf1 := hF.t 34 17 (by decide)
  have zf2 := hF.t 34 20 (by decide)
  have zf3 := hF.t 34 21 (by decide)
  have zf4 := hF.t 34 26 (by decide)
  refine m_iload_n C dX9_given_0 1 rfl ?_
  refine m_invS C cal_X9_isTo (c_X9_isTo l hX g pt ) lk_X9_253 st_X9_isTo (by decide) rfl rfl (Nat.le_of_ble_eq_true rfl) dX9_given_1 ⟨Nat.le_refl _, Nat.le_refl _⟩ (rI fun r1 g2 q3 => ?_)
  obtain ⟨eg2, ⟨rfl, h4⟩ | ⟨rfl, h4⟩⟩ := q3
  · skip
    subst g2
    refine m_if_eq C 26 dX9_given_4 (by decide) (fun h => absurd h (by decide)) (fun _ => ?_)
    refine m_iload_n C dX9_given_7 2 rfl ?_
    refine m_invS C cal_X9_isObject (c_X9_isObject l hX g o ) lk_X9_231 st_X9_isObject (by decide) rfl rfl (Nat.le_of_ble_eq_true rfl) dX9_given_8 ⟨Nat.le_refl _, Nat.le_refl _⟩ (rI fun r5 g6 q7 => ?_)
    obtain ⟨eg6, ⟨rfl, h8⟩ | ⟨rfl, h8⟩⟩ := q7
    · skip
      subst g6
      refine m_if_eq C 26 dX9_given_11 (by decide) (fun h => absurd h (by decide)) (fun _ => ?_)
      refine m_iload_n C dX9_given_14 3 rfl ?_
      refine m_i2l C dX9_given_15 ?_
      refine m_lconst C (0 : Int64) dX9_given_16 (by decide) ?_
      refine m_ldc2 C (3) dX9_given_17 lk_X9_234 ?_
      have t9 : (q.toInt64).toInt = q.toInt := i2l_t _
      have t10 : (0 : Int64).toInt = 0 := by decide
      have t11 : (3 : Int64).toInt = 3 := by decide
      refine m_invS C cal_X9_in (c_X9_in l hX g (q.toInt64) (0 : Int64) (3 : Int64) ) lk_X9_185 st_X9_in (by decide) rfl rfl (Nat.le_of_ble_eq_true rfl) dX9_given_20 ⟨Nat.le_refl _, Nat.le_refl _⟩ (rI fun r12 g13 q14 => ?_)
      obtain ⟨eg13, ⟨rfl, h15⟩ | ⟨rfl, h15⟩⟩ := q14
      · skip
        subst g13
        refine m_if_ne C 31 dX9_given_23 (by decide) (fun _ => ?_) (fun h => absurd h (by decide))
        refine m_aload_n C dX9_given_31 0 rfl ?_
        refine m_getr (rf := "") C 13 rfl gd9 (by decide) sh_34 rfl dX9_given_32 lk_X9_44 ?_
        refine m_iload_n C dX9_given_35 1 rfl ?_
        refine m_iload_n C dX9_given_36 2 rfl ?_
        refine m_iload_n C dX9_given_37 3 rfl ?_
        refine m_invS C cal_X9_at (c_X9_at l hX g pt o q hI (by omega) (by omega) (by omega)) lk_X9_223 st_X9_at (by decide) rfl rfl (Nat.le_of_ble_eq_true rfl) dX9_given_38 ⟨Nat.le_refl _, Nat.le_refl _⟩ (rI fun r16 g17 q18 => ?_)
        obtain ⟨eg17, p19⟩ := q18
        subst g17
        refine m_zald C sh_46 (i_in (by omega) (by omega)) dX9_given_41 ?_
        have z20 := hF.t 46 r16.toNatClampNeg (by decide)
        refine m_if_eq C 49 dX9_given_42 (by decide) (fun h21 => ?_) (fun h21 => ?_)
        · skip
          have th21 := i_eq h21
          rw [show (0 : Int32).toInt = 0 by decide] at th21
          refine m_iconst C (0 : Int32) dX9_given_49 (by decide) ?_
          exact m_iret C dX9_given_50 ⟨_, rfl, rfl, (by have hl : (0 : Int32).toInt = 0 := (by decide); omega)⟩
        · skip
          have th21 := i_ne h21
          rw [show (0 : Int32).toInt = 0 by decide] at th21
          refine m_iconst C (1 : Int32) dX9_given_45 (by decide) ?_
          refine m_goto C 50 dX9_given_46 (by decide) ?_
          exact m_iret C dX9_given_50 ⟨_, rfl, rfl, (by have hl : (1 : Int32).toInt = 1 := (by decide); omega)⟩
      · skip
        subst g13
        refine m_if_ne C 31 dX9_given_23 (by decide) (fun h => absurd (by decide) h) (fun _ => ?_)
        refine m_bipush C (-2 : Int32) dX9_given_26 (by decide) ?_
        refine m_goto C 50 dX9_given_28 (by decide) ?_
        exact m_iret C dX9_given_50 ⟨_, rfl, rfl, (by have hl : (-2 : Int32).toInt = -2 := (by decide); omega)⟩
    · skip
      subst g6
      refine m_if_eq C 26 dX9_given_11 (by decide) (fun _ => ?_) (fun h => absurd (by decide) h)
      refine m_bipush C (-2 : Int32) dX9_given_26 (by decide) ?_
      refine m_goto C 50 dX9_given_28 (by decide) ?_
      exact m_iret C dX9_given_50 ⟨_, rfl, rfl, (by have hl : (-2 : Int32).toInt = -2 := (by decide); omega)⟩
  · skip
    subst g2
    refine m_if_eq C 26 dX9_given_4 (by decide) (fun _ => ?_) (fun h => absurd (by decide) h)
    refine m_bipush C (-2 : Int32) dX9_given_26 (by decide) ?_
    refine m_goto C 50 dX9_given_28 (by decide) ?_
    exact m_iret C dX9_given_50 ⟨_, rfl, rfl, (by have hl : (-2 : Int32).toInt = -2 := (by decide); omega)⟩
set_option maxRecDepth 20000 in
set_option maxHeartbeats 4000000 in
theorem c_X9_entry_f (l : Launch) {X : XT} (hX : Lok X) (g : Mem) (i0 : Int32) (kk : Int32) (hI : Inv g) (hF : FM g) : Ctr l X yX9_entry cX9_entry 3 (some .int) (rmD 1) [.ref (aL X 34), .int i0, .int kk] g (pI (fun r g2 => g2 = g ∧ (r.toInt = -2))) := by
  refine Ctr.of (lv := [(0, .ref (aL X 34)), (1, .int i0), (2, .int kk)]) hX (by decide) rfl (Nat.le_of_ble_eq_true rfl) ?_
  intro p e s m below meth c C
  have zf0 := hF.t 34 16 (by decide)
  have zf1 := hF.t 34 17 (by decide)
  have zf2 := hF.t 34 20 (by decide)
  have zf3 := hF.t 34 21 (by decide)
  have zf4 := hF.t 34 26 (by decide)
  refine m_iload_n C dX9_entry_0 1 rfl ?_
  refine m_i2l C dX9_entry_1 ?_
  refine m_lconst C (0 : Int64) dX9_entry_2 (by decide) ?_
  refine m_aload_n C dX9_entry_3 0 rfl ?_
  refine m_invV C cal_X9_entriesNow sh_34 rfl (c_X9_entriesNow l hX g  hI) lk_X9_262 im_X9_entriesNow se_X9_entriesNow (by decide) rfl rfl (Nat.le_of_ble_eq_true rfl) dX9_entry_4 ⟨Nat.le_refl _, Nat.le_refl _⟩ (rI fun r1 g2 q3 => ?_)
  obtain ⟨eg2, p4⟩ := q3
  subst g2
  refine m_iconst C (1 : Int32) dX9_entry_7 (by decide) ?_
  refine m_isub C dX9_entry_8 ?_
  refine m_i2l C dX9_entry_9 ?_
  have t5 : (i0.toInt64).toInt = i0.toInt := i2l_t _
  have t6 : (0 : Int64).toInt = 0 := by decide
  have t7 : (r1 - (1 : Int32)).toInt = r1.toInt - (1 : Int) := i_sub rfl (by decide) (by omega) (by omega)
  have t8 : ((r1 - (1 : Int32)).toInt64).toInt = (r1 - (1 : Int32)).toInt := i2l_t _
  refine m_invS C cal_X9_in (c_X9_in l hX g (i0.toInt64) (0 : Int64) ((r1 - (1 : Int32)).toInt64) ) lk_X9_185 st_X9_in (by decide) rfl rfl (Nat.le_of_ble_eq_true rfl) dX9_entry_10 ⟨Nat.le_refl _, Nat.le_refl _⟩ (rI fun r9 g10 q11 => ?_)
  obtain ⟨eg10, ⟨rfl, h12⟩ | ⟨rfl, h12⟩⟩ := q11
  · skip
    subst g10
    refine m_if_eq C 42 dX9_entry_13 (by decide) (fun h => absurd h (by decide)) (fun _ => ?_)
    refine m_iload_n C dX9_entry_16 2 rfl ?_
    refine m_i2l C dX9_entry_17 ?_
    refine m_lconst C (0 : Int64) dX9_entry_18 (by decide) ?_
    refine m_ldc2 C (11) dX9_entry_19 lk_X9_183 ?_
    have t13 : (kk.toInt64).toInt = kk.toInt := i2l_t _
    have t14 : (0 : Int64).toInt = 0 := by decide
    have t15 : (11 : Int64).toInt = 11 := by decide
    refine m_invS C cal_X9_in (c_X9_in l hX g (kk.toInt64) (0 : Int64) (11 : Int64) ) lk_X9_185 st_X9_in (by decide) rfl rfl (Nat.le_of_ble_eq_true rfl) dX9_entry_22 ⟨Nat.le_refl _, Nat.le_refl _⟩ (rI fun r16 g17 q18 => ?_)
    obtain ⟨eg17, ⟨rfl, h19⟩ | ⟨rfl, h19⟩⟩ := q18
    · skip
      subst g17
      refine m_if_eq C 42 dX9_entry_25 (by decide) (fun h => absurd h (by decide)) (fun _ => ?_)
      exact False.elim (by omega)
    · skip
      subst g17
      refine m_if_eq C 42 dX9_entry_25 (by decide) (fun _ => ?_) (fun h => absurd (by decide) h)
      refine m_bipush C (-2 : Int32) dX9_entry_42 (by decide) ?_
      exact m_iret C dX9_entry_44 ⟨_, rfl, rfl, (by have hl : (-2 : Int32).toInt = -2 := (by decide); omega)⟩
  · skip
    subst g10
    refine m_if_eq C 42 dX9_entry_13 (by decide) (fun _ => ?_) (fun h => absurd (by decide) h)
    refine m_bipush C (-2 : Int32) dX9_entry_42 (by decide) ?_
    exact m_iret C dX9_entry_44 ⟨_, rfl, rfl, (by have hl : (-2 : Int32).toInt = -2 := (by decide); omega)⟩
set_option maxRecDepth 20000 in
set_option maxHeartbeats 4000000 in
theorem c_X9_chain_f (l : Launch) {X : XT} (hX : Lok X) (g : Mem) (ii : Int32) (k : Int32) (hI : Inv g) (hF : FM g) : Ctr l X yX9_chain cX9_chain 3 (some .int) (rmD 1) [.ref (aL X 34), .int ii, .int k] g (pI (fun r g2 => g2 = g ∧ ((r.toInt = 0 ∧ (ii.toInt = 0 ∧ 0 ≤ k.toInt ∧ k.toInt ≤ 31)) ∨ (r.toInt = -2 ∧ ¬ (ii.toInt = 0 ∧ 0 ≤ k.toInt ∧ k.toInt ≤ 31))))) := by
  refine Ctr.of (lv := [(0, .ref (aL X 34)), (1, .int ii), (2, .int k)]) hX (by decide) rfl (Nat.le_of_ble_eq_true rfl) ?_
  intro p e s m below meth c C
  have zf0 := hF.t 34 16 (by decide)
  have zf1 := hF.t 34 17 (by decide)
  have zf2 := hF.t 34 20 (by decide)
  have zf3 := hF.t 34 21 (by decide)
  have zf4 := hF.t 34 26 (by decide)
  refine m_iload_n C dX9_chain_0 1 rfl ?_
  refine m_i2l C dX9_chain_1 ?_
  refine m_lconst C (0 : Int64) dX9_chain_2 (by decide) ?_
  refine m_aload_n C dX9_chain_3 0 rfl ?_
  refine m_invV C cal_X9_entriesNow sh_34 rfl (c_X9_entriesNow l hX g  hI) lk_X9_262 im_X9_entriesNow se_X9_entriesNow (by decide) rfl rfl (Nat.le_of_ble_eq_true rfl) dX9_chain_4 ⟨Nat.le_refl _, Nat.le_refl _⟩ (rI fun r1 g2 q3 => ?_)
  obtain ⟨eg2, p4⟩ := q3
  subst g2
  refine m_i2l C dX9_chain_7 ?_
  have t5 : (ii.toInt64).toInt = ii.toInt := i2l_t _
  have t6 : (0 : Int64).toInt = 0 := by decide
  have t7 : (r1.toInt64).toInt = r1.toInt := i2l_t _
  refine m_invS C cal_X9_in (c_X9_in l hX g (ii.toInt64) (0 : Int64) (r1.toInt64) ) lk_X9_185 st_X9_in (by decide) rfl rfl (Nat.le_of_ble_eq_true rfl) dX9_chain_8 ⟨Nat.le_refl _, Nat.le_refl _⟩ (rI fun r8 g9 q10 => ?_)
  obtain ⟨eg9, ⟨rfl, h11⟩ | ⟨rfl, h11⟩⟩ := q10
  · skip
    subst g9
    refine m_if_eq C 40 dX9_chain_11 (by decide) (fun h => absurd h (by decide)) (fun _ => ?_)
    refine m_iload_n C dX9_chain_14 2 rfl ?_
    refine m_i2l C dX9_chain_15 ?_
    refine m_lconst C (0 : Int64) dX9_chain_16 (by decide) ?_
    refine m_ldc2 C (31) dX9_chain_17 lk_X9_265 ?_
    have t12 : (k.toInt64).toInt = k.toInt := i2l_t _
    have t13 : (0 : Int64).toInt = 0 := by decide
    have t14 : (31 : Int64).toInt = 31 := by decide
    refine m_invS C cal_X9_in (c_X9_in l hX g (k.toInt64) (0 : Int64) (31 : Int64) ) lk_X9_185 st_X9_in (by decide) rfl rfl (Nat.le_of_ble_eq_true rfl) dX9_chain_20 ⟨Nat.le_refl _, Nat.le_refl _⟩ (rI fun r15 g16 q17 => ?_)
    obtain ⟨eg16, ⟨rfl, h18⟩ | ⟨rfl, h18⟩⟩ := q17
    · skip
      subst g16
      refine m_if_eq C 40 dX9_chain_23 (by decide) (fun h => absurd h (by decide)) (fun _ => ?_)
      refine m_aload_n C dX9_chain_26 0 rfl ?_
      refine m_getr (rf := "") C 19 rfl gd9 (by decide) sh_34 rfl dX9_chain_27 lk_X9_50 ?_
      refine m_bipush C (32 : Int32) dX9_chain_30 (by decide) ?_
      refine m_iload_n C dX9_chain_32 1 rfl ?_
      refine m_imul C dX9_chain_33 ?_
      refine m_iload_n C dX9_chain_34 2 rfl ?_
      refine m_iadd C dX9_chain_35 ?_
      have t19 : ((32 : Int32) * ii).toInt = (32 : Int) * ii.toInt := i_mul (by decide) rfl (by omega) (by omega)
      have t20 : (((32 : Int32) * ii) + k).toInt = ((32 : Int) * ii.toInt) + k.toInt := i_add t19 rfl (by omega) (by omega)
      refine m_iald C sh_48 (i_in (by omega) (by omega)) dX9_chain_36 ?_
      have z21 := hF.t 48 (((32 : Int32) * ii) + k).toNatClampNeg (by decide)
      refine m_goto C 42 dX9_chain_37 (by decide) ?_
      exact m_iret C dX9_chain_42 ⟨_, rfl, rfl, (by omega)⟩
    · skip
      subst g16
      refine m_if_eq C 40 dX9_chain_23 (by decide) (fun _ => ?_) (fun h => absurd (by decide) h)
      refine m_bipush C (-2 : Int32) dX9_chain_40 (by decide) ?_
      exact m_iret C dX9_chain_42 ⟨_, rfl, rfl, (by have hl : (-2 : Int32).toInt = -2 := (by decide); omega)⟩
  · skip
    subst g9
    refine m_if_eq C 40 dX9_chain_11 (by decide) (fun _ => ?_) (fun h => absurd (by decide) h)
    refine m_bipush C (-2 : Int32) dX9_chain_40 (by decide) ?_
    exact m_iret C dX9_chain_42 ⟨_, rfl, rfl, (by have hl : (-2 : Int32).toInt = -2 := (by decide); omega)⟩
set_option maxRecDepth 20000 in
set_option maxHeartbeats 4000000 in
theorem c_X9_path_f (l : Launch) {X : XT} (hX : Lok X) (g : Mem) (i0 : Int32) (n0 : Int32) (hI : Inv g) (hF : FM g) : Ctr l X yX9_path cX9_path 8 (some .int) (rmD 7) [.ref (aL X 34), .int i0, .int n0] g (pI (fun r g2 => Inv g2 ∧ Kq [36, 37, 38, 39, 50, 51, 52, 53, 54, 55] [4, 26] g g2 ∧ (r.toInt = -2))) := by
  refine Ctr.of (lv := [(0, .ref (aL X 34)), (1, .int i0), (2, .int n0)]) hX (by decide) rfl (Nat.le_of_ble_eq_true rfl) ?_
  intro p e s m below meth c C
  have zf0 := hF.t 34 16 (by decide)
  have zf1 := hF.t 34 17 (by decide)
  have zf2 := hF.t 34 20 (by decide)
  have zf3 := hF.t 34 21 (by decide)
  have zf4 := hF.t 34 26 (by decide)
  refine m_iload_n C dX9_path_0 2 rfl ?_
  refine m_i2l C dX9_path_1 ?_
  refine m_lconst C (0 : Int64) dX9_path_2 (by decide) ?_
  refine m_aload_n C dX9_path_3 0 rfl ?_
  refine m_invV C cal_X9_entriesNow sh_34 rfl (c_X9_entriesNow l hX g  hI) lk_X9_262 im_X9_entriesNow se_X9_entriesNow (by decide) rfl rfl (Nat.le_of_ble_eq_true rfl) dX9_path_4 ⟨Nat.le_refl _, Nat.le_refl _⟩ (rI fun r1 g2 q3 => ?_)
  obtain ⟨eg2, p4⟩ := q3
  subst g2
  refine m_i2l C dX9_path_7 ?_
  have t5 : (n0.toInt64).toInt = n0.toInt := i2l_t _
  have t6 : (0 : Int64).toInt = 0 := by decide
  have t7 : (r1.toInt64).toInt = r1.toInt := i2l_t _
  refine m_invS C cal_X9_in (c_X9_in l hX g (n0.toInt64) (0 : Int64) (r1.toInt64) ) lk_X9_185 st_X9_in (by decide) rfl rfl (Nat.le_of_ble_eq_true rfl) dX9_path_8 ⟨Nat.le_refl _, Nat.le_refl _⟩ (rI fun r8 g9 q10 => ?_)
  obtain ⟨eg9, ⟨rfl, h11⟩ | ⟨rfl, h11⟩⟩ := q10
  · skip
    subst g9
    refine m_if_eq C 27 dX9_path_11 (by decide) (fun h => absurd h (by decide)) (fun _ => ?_)
    refine m_iload_n C dX9_path_14 1 rfl ?_
    refine m_i2l C dX9_path_15 ?_
    refine m_lconst C (0 : Int64) dX9_path_16 (by decide) ?_
    refine m_iload_n C dX9_path_17 2 rfl ?_
    refine m_iconst C (1 : Int32) dX9_path_18 (by decide) ?_
    refine m_isub C dX9_path_19 ?_
    refine m_i2l C dX9_path_20 ?_
    have t12 : (i0.toInt64).toInt = i0.toInt := i2l_t _
    have t13 : (0 : Int64).toInt = 0 := by decide
    have t14 : (n0 - (1 : Int32)).toInt = n0.toInt - (1 : Int) := i_sub rfl (by decide) (by omega) (by omega)
    have t15 : ((n0 - (1 : Int32)).toInt64).toInt = (n0 - (1 : Int32)).toInt := i2l_t _
    refine m_invS C cal_X9_in (c_X9_in l hX g (i0.toInt64) (0 : Int64) ((n0 - (1 : Int32)).toInt64) ) lk_X9_185 st_X9_in (by decide) rfl rfl (Nat.le_of_ble_eq_true rfl) dX9_path_21 ⟨Nat.le_refl _, Nat.le_refl _⟩ (rI fun r16 g17 q18 => ?_)
    obtain ⟨eg17, ⟨rfl, h19⟩ | ⟨rfl, h19⟩⟩ := q18
    · skip
      subst g17
      refine m_if_ne C 30 dX9_path_24 (by decide) (fun _ => ?_) (fun h => absurd h (by decide))
      exact False.elim (by omega)
    · skip
      subst g17
      refine m_if_ne C 30 dX9_path_24 (by decide) (fun h => absurd (by decide) h) (fun _ => ?_)
      refine m_bipush C (-2 : Int32) dX9_path_27 (by decide) ?_
      exact m_iret C dX9_path_29 ⟨_, rfl, hI, Kq.rf, (by have hl : (-2 : Int32).toInt = -2 := (by decide); omega)⟩
  · skip
    subst g9
    refine m_if_eq C 27 dX9_path_11 (by decide) (fun _ => ?_) (fun h => absurd (by decide) h)
    refine m_bipush C (-2 : Int32) dX9_path_27 (by decide) ?_
    exact m_iret C dX9_path_29 ⟨_, rfl, hI, Kq.rf, (by have hl : (-2 : Int32).toInt = -2 := (by decide); omega)⟩
set_option maxRecDepth 20000 in
set_option maxHeartbeats 4000000 in
theorem c_X9_steps_f (l : Launch) {X : XT} (hX : Lok X) (g : Mem) (m0 : Int32) (n0 : Int32) (hI : Inv g) (hF : FM g) : Ctr l X yX9_steps cX9_steps 10 (some .int) (rmD 7) [.ref (aL X 34), .int m0, .int n0] g (pI (fun r g2 => Inv g2 ∧ Kq [36, 37, 38, 39, 50, 51, 52, 53, 54, 55] [4, 26] g g2 ∧ (r.toInt = -2))) := by
  refine Ctr.of (lv := [(0, .ref (aL X 34)), (1, .int m0), (2, .int n0)]) hX (by decide) rfl (Nat.le_of_ble_eq_true rfl) ?_
  intro p e s m below meth c C
  have zf0 := hF.t 34 16 (by decide)
  have zf1 := hF.t 34 17 (by decide)
  have zf2 := hF.t 34 20 (by decide)
  have zf3 := hF.t 34 21 (by decide)
  have zf4 := hF.t 34 26 (by decide)
  refine m_iload_n C dX9_steps_0 2 rfl ?_
  refine m_i2l C dX9_steps_1 ?_
  refine m_lconst C (0 : Int64) dX9_steps_2 (by decide) ?_
  refine m_aload_n C dX9_steps_3 0 rfl ?_
  refine m_invV C cal_X9_entriesNow sh_34 rfl (c_X9_entriesNow l hX g  hI) lk_X9_262 im_X9_entriesNow se_X9_entriesNow (by decide) rfl rfl (Nat.le_of_ble_eq_true rfl) dX9_steps_4 ⟨Nat.le_refl _, Nat.le_refl _⟩ (rI fun r1 g2 q3 => ?_)
  obtain ⟨eg2, p4⟩ := q3
  subst g2
  refine m_i2l C dX9_steps_7 ?_
  have t5 : (n0.toInt64).toInt = n0.toInt := i2l_t _
  have t6 : (0 : Int64).toInt = 0 := by decide
  have t7 : (r1.toInt64).toInt = r1.toInt := i2l_t _
  refine m_invS C cal_X9_in (c_X9_in l hX g (n0.toInt64) (0 : Int64) (r1.toInt64) ) lk_X9_185 st_X9_in (by decide) rfl rfl (Nat.le_of_ble_eq_true rfl) dX9_steps_8 ⟨Nat.le_refl _, Nat.le_refl _⟩ (rI fun r8 g9 q10 => ?_)
  obtain ⟨eg9, ⟨rfl, h11⟩ | ⟨rfl, h11⟩⟩ := q10
  · skip
    subst g9
    refine m_if_eq C 25 dX9_steps_11 (by decide) (fun h => absurd h (by decide)) (fun _ => ?_)
    refine m_iload_n C dX9_steps_14 1 rfl ?_
    refine m_i2l C dX9_steps_15 ?_
    refine m_lconst C (1 : Int64) dX9_steps_16 (by decide) ?_
    refine m_iload_n C dX9_steps_17 2 rfl ?_
    refine m_i2l C dX9_steps_18 ?_
    have t12 : (m0.toInt64).toInt = m0.toInt := i2l_t _
    have t13 : (1 : Int64).toInt = 1 := by decide
    have t14 : (n0.toInt64).toInt = n0.toInt := i2l_t _
    refine m_invS C cal_X9_in (c_X9_in l hX g (m0.toInt64) (1 : Int64) (n0.toInt64) ) lk_X9_185 st_X9_in (by decide) rfl rfl (Nat.le_of_ble_eq_true rfl) dX9_steps_19 ⟨Nat.le_refl _, Nat.le_refl _⟩ (rI fun r15 g16 q17 => ?_)
    obtain ⟨eg16, ⟨rfl, h18⟩ | ⟨rfl, h18⟩⟩ := q17
    · skip
      subst g16
      refine m_if_ne C 28 dX9_steps_22 (by decide) (fun _ => ?_) (fun h => absurd h (by decide))
      exact False.elim (by omega)
    · skip
      subst g16
      refine m_if_ne C 28 dX9_steps_22 (by decide) (fun h => absurd (by decide) h) (fun _ => ?_)
      refine m_bipush C (-2 : Int32) dX9_steps_25 (by decide) ?_
      exact m_iret C dX9_steps_27 ⟨_, rfl, hI, Kq.rf, (by have hl : (-2 : Int32).toInt = -2 := (by decide); omega)⟩
  · skip
    subst g9
    refine m_if_eq C 25 dX9_steps_11 (by decide) (fun _ => ?_) (fun h => absurd (by decide) h)
    refine m_bipush C (-2 : Int32) dX9_steps_25 (by decide) ?_
    exact m_iret C dX9_steps_27 ⟨_, rfl, hI, Kq.rf, (by have hl : (-2 : Int32).toInt = -2 := (by decide); omega)⟩
set_option maxRecDepth 20000 in
set_option maxHeartbeats 4000000 in
theorem c_X9_proof_f (l : Launch) {X : XT} (hX : Lok X) (g : Mem) (h : Int32) (k : Int32) (hI : Inv g) (hF : FM g) : Ctr l X yX9_proof cX9_proof 3 (some .int) (rmD 1) [.ref (aL X 34), .int h, .int k] g (pI (fun r g2 => g2 = g ∧ (r.toInt = -2))) := by
  refine Ctr.of (lv := [(0, .ref (aL X 34)), (1, .int h), (2, .int k)]) hX (by decide) rfl (Nat.le_of_ble_eq_true rfl) ?_
  intro p e s m below meth c C
  have zf0 := hF.t 34 16 (by decide)
  have zf1 := hF.t 34 17 (by decide)
  have zf2 := hF.t 34 20 (by decide)
  have zf3 := hF.t 34 21 (by decide)
  have zf4 := hF.t 34 26 (by decide)
  refine m_iload_n C dX9_proof_0 1 rfl ?_
  refine m_i2l C dX9_proof_1 ?_
  refine m_lconst C (0 : Int64) dX9_proof_2 (by decide) ?_
  refine m_aload_n C dX9_proof_3 0 rfl ?_
  refine m_geti (rf := "") C 26 rfl gd9 (by decide) sh_34 rfl dX9_proof_4 lk_X9_281 ?_
  have r1 := iv_pmany hI
  have z2 := hF.t 34 26 (by decide)
  refine m_iconst C (1 : Int32) dX9_proof_7 (by decide) ?_
  refine m_isub C dX9_proof_8 ?_
  refine m_i2l C dX9_proof_9 ?_
  have t3 : (h.toInt64).toInt = h.toInt := i2l_t _
  have t4 : (0 : Int64).toInt = 0 := by decide
  have t5 : ((g 34 26) - (1 : Int32)).toInt = (g 34 26).toInt - (1 : Int) := i_sub rfl (by decide) (by omega) (by omega)
  have t6 : (((g 34 26) - (1 : Int32)).toInt64).toInt = ((g 34 26) - (1 : Int32)).toInt := i2l_t _
  refine m_invS C cal_X9_in (c_X9_in l hX g (h.toInt64) (0 : Int64) (((g 34 26) - (1 : Int32)).toInt64) ) lk_X9_185 st_X9_in (by decide) rfl rfl (Nat.le_of_ble_eq_true rfl) dX9_proof_10 ⟨Nat.le_refl _, Nat.le_refl _⟩ (rI fun r7 g8 q9 => ?_)
  obtain ⟨eg8, ⟨rfl, h10⟩ | ⟨rfl, h10⟩⟩ := q9
  · skip
    subst g8
    refine m_if_eq C 42 dX9_proof_13 (by decide) (fun h => absurd h (by decide)) (fun _ => ?_)
    refine m_iload_n C dX9_proof_16 2 rfl ?_
    refine m_i2l C dX9_proof_17 ?_
    refine m_lconst C (0 : Int64) dX9_proof_18 (by decide) ?_
    refine m_ldc2 C (31) dX9_proof_19 lk_X9_265 ?_
    have t11 : (k.toInt64).toInt = k.toInt := i2l_t _
    have t12 : (0 : Int64).toInt = 0 := by decide
    have t13 : (31 : Int64).toInt = 31 := by decide
    refine m_invS C cal_X9_in (c_X9_in l hX g (k.toInt64) (0 : Int64) (31 : Int64) ) lk_X9_185 st_X9_in (by decide) rfl rfl (Nat.le_of_ble_eq_true rfl) dX9_proof_22 ⟨Nat.le_refl _, Nat.le_refl _⟩ (rI fun r14 g15 q16 => ?_)
    obtain ⟨eg15, ⟨rfl, h17⟩ | ⟨rfl, h17⟩⟩ := q16
    · skip
      subst g15
      refine m_if_eq C 42 dX9_proof_25 (by decide) (fun h => absurd h (by decide)) (fun _ => ?_)
      exact False.elim (by omega)
    · skip
      subst g15
      refine m_if_eq C 42 dX9_proof_25 (by decide) (fun _ => ?_) (fun h => absurd (by decide) h)
      refine m_bipush C (-2 : Int32) dX9_proof_42 (by decide) ?_
      exact m_iret C dX9_proof_44 ⟨_, rfl, rfl, (by have hl : (-2 : Int32).toInt = -2 := (by decide); omega)⟩
  · skip
    subst g8
    refine m_if_eq C 42 dX9_proof_13 (by decide) (fun _ => ?_) (fun h => absurd (by decide) h)
    refine m_bipush C (-2 : Int32) dX9_proof_42 (by decide) ?_
    exact m_iret C dX9_proof_44 ⟨_, rfl, rfl, (by have hl : (-2 : Int32).toInt = -2 := (by decide); omega)⟩
set_option maxRecDepth 20000 in
set_option maxHeartbeats 4000000 in
theorem c_X9_spoilProof_f (l : Launch) {X : XT} (hX : Lok X) (g : Mem) (h : Int32) (k : Int32) (v : Int32) (hI : Inv g) (hF : FM g) : Ctr l X yX9_spoilProof cX9_spoilProof 5 (some .int) (rmD 1) [.ref (aL X 34), .int h, .int k, .int v] g (pI (fun r g2 => Inv g2 ∧ Kq [53] [] g g2 ∧ (r.toInt = -2))) := by
  refine Ctr.of (lv := [(0, .ref (aL X 34)), (1, .int h), (2, .int k), (3, .int v)]) hX (by decide) rfl (Nat.le_of_ble_eq_true rfl) ?_
  intro p e s m below meth c C
  have zf0 := hF.t 34 16 (by decide)
  have zf1 := hF.t 34 17 (by decide)
  have zf2 := hF.t 34 20 (by decide)
  have zf3 := hF.t 34 21 (by decide)
  have zf4 := hF.t 34 26 (by decide)
  refine m_iload_n C dX9_spoilProof_0 1 rfl ?_
  refine m_i2l C dX9_spoilProof_1 ?_
  refine m_lconst C (0 : Int64) dX9_spoilProof_2 (by decide) ?_
  refine m_aload_n C dX9_spoilProof_3 0 rfl ?_
  refine m_geti (rf := "") C 26 rfl gd9 (by decide) sh_34 rfl dX9_spoilProof_4 lk_X9_281 ?_
  have r1 := iv_pmany hI
  have z2 := hF.t 34 26 (by decide)
  refine m_iconst C (1 : Int32) dX9_spoilProof_7 (by decide) ?_
  refine m_isub C dX9_spoilProof_8 ?_
  refine m_i2l C dX9_spoilProof_9 ?_
  have t3 : (h.toInt64).toInt = h.toInt := i2l_t _
  have t4 : (0 : Int64).toInt = 0 := by decide
  have t5 : ((g 34 26) - (1 : Int32)).toInt = (g 34 26).toInt - (1 : Int) := i_sub rfl (by decide) (by omega) (by omega)
  have t6 : (((g 34 26) - (1 : Int32)).toInt64).toInt = ((g 34 26) - (1 : Int32)).toInt := i2l_t _
  refine m_invS C cal_X9_in (c_X9_in l hX g (h.toInt64) (0 : Int64) (((g 34 26) - (1 : Int32)).toInt64) ) lk_X9_185 st_X9_in (by decide) rfl rfl (Nat.le_of_ble_eq_true rfl) dX9_spoilProof_10 ⟨Nat.le_refl _, Nat.le_refl _⟩ (rI fun r7 g8 q9 => ?_)
  obtain ⟨eg8, ⟨rfl, h10⟩ | ⟨rfl, h10⟩⟩ := q9
  · skip
    subst g8
    refine m_if_eq C 40 dX9_spoilProof_13 (by decide) (fun h => absurd h (by decide)) (fun _ => ?_)
    refine m_iload_n C dX9_spoilProof_16 2 rfl ?_
    refine m_i2l C dX9_spoilProof_17 ?_
    refine m_lconst C (0 : Int64) dX9_spoilProof_18 (by decide) ?_
    refine m_ldc2 C (31) dX9_spoilProof_19 lk_X9_265 ?_
    have t11 : (k.toInt64).toInt = k.toInt := i2l_t _
    have t12 : (0 : Int64).toInt = 0 := by decide
    have t13 : (31 : Int64).toInt = 31 := by decide
    refine m_invS C cal_X9_in (c_X9_in l hX g (k.toInt64) (0 : Int64) (31 : Int64) ) lk_X9_185 st_X9_in (by decide) rfl rfl (Nat.le_of_ble_eq_true rfl) dX9_spoilProof_22 ⟨Nat.le_refl _, Nat.le_refl _⟩ (rI fun r14 g15 q16 => ?_)
    obtain ⟨eg15, ⟨rfl, h17⟩ | ⟨rfl, h17⟩⟩ := q16
    · skip
      subst g15
      refine m_if_eq C 40 dX9_spoilProof_25 (by decide) (fun h => absurd h (by decide)) (fun _ => ?_)
      refine m_iload_n C dX9_spoilProof_28 3 rfl ?_
      refine m_i2l C dX9_spoilProof_29 ?_
      refine m_lconst C (1 : Int64) dX9_spoilProof_30 (by decide) ?_
      refine m_ldc2 C (255) dX9_spoilProof_31 lk_X9_291 ?_
      have t18 : (v.toInt64).toInt = v.toInt := i2l_t _
      have t19 : (1 : Int64).toInt = 1 := by decide
      have t20 : (255 : Int64).toInt = 255 := by decide
      refine m_invS C cal_X9_in (c_X9_in l hX g (v.toInt64) (1 : Int64) (255 : Int64) ) lk_X9_185 st_X9_in (by decide) rfl rfl (Nat.le_of_ble_eq_true rfl) dX9_spoilProof_34 ⟨Nat.le_refl _, Nat.le_refl _⟩ (rI fun r21 g22 q23 => ?_)
      obtain ⟨eg22, ⟨rfl, h24⟩ | ⟨rfl, h24⟩⟩ := q23
      · skip
        subst g22
        refine m_if_ne C 43 dX9_spoilProof_37 (by decide) (fun _ => ?_) (fun h => absurd h (by decide))
        exact False.elim (by omega)
      · skip
        subst g22
        refine m_if_ne C 43 dX9_spoilProof_37 (by decide) (fun h => absurd (by decide) h) (fun _ => ?_)
        refine m_bipush C (-2 : Int32) dX9_spoilProof_40 (by decide) ?_
        exact m_iret C dX9_spoilProof_42 ⟨_, rfl, hI, Kq.rf, (by have hl : (-2 : Int32).toInt = -2 := (by decide); omega)⟩
    · skip
      subst g15
      refine m_if_eq C 40 dX9_spoilProof_25 (by decide) (fun _ => ?_) (fun h => absurd (by decide) h)
      refine m_bipush C (-2 : Int32) dX9_spoilProof_40 (by decide) ?_
      exact m_iret C dX9_spoilProof_42 ⟨_, rfl, hI, Kq.rf, (by have hl : (-2 : Int32).toInt = -2 := (by decide); omega)⟩
  · skip
    subst g8
    refine m_if_eq C 40 dX9_spoilProof_13 (by decide) (fun _ => ?_) (fun h => absurd (by decide) h)
    refine m_bipush C (-2 : Int32) dX9_spoilProof_40 (by decide) ?_
    exact m_iret C dX9_spoilProof_42 ⟨_, rfl, hI, Kq.rf, (by have hl : (-2 : Int32).toInt = -2 := (by decide); omega)⟩
set_option maxRecDepth 20000 in
set_option maxHeartbeats 4000000 in
theorem c_X9_cutProof_f (l : Launch) {X : XT} (hX : Lok X) (g : Mem) (n0 : Int32) (hI : Inv g) (hF : FM g) : Ctr l X yX9_cutProof cX9_cutProof 3 (some .int) (rmD 1) [.ref (aL X 34), .int n0] g (pI (fun r g2 => Inv g2 ∧ Kq [] [26] g g2 ∧ ((r.toInt = 0 ∧ (n0.toInt = 0)) ∨ (r.toInt = -2 ∧ ¬ (n0.toInt = 0))))) := by
  refine Ctr.of (lv := [(0, .ref (aL X 34)), (1, .int n0)]) hX (by decide) rfl (Nat.le_of_ble_eq_true rfl) ?_
  intro p e s m below meth c C
  have zf0 := hF.t 34 16 (by decide)
  have zf1 := hF.t 34 17 (by decide)
  have zf2 := hF.t 34 20 (by decide)
  have zf3 := hF.t 34 21 (by decide)
  have zf4 := hF.t 34 26 (by decide)
  refine m_iload_n C dX9_cutProof_0 1 rfl ?_
  refine m_i2l C dX9_cutProof_1 ?_
  refine m_lconst C (0 : Int64) dX9_cutProof_2 (by decide) ?_
  refine m_aload_n C dX9_cutProof_3 0 rfl ?_
  refine m_geti (rf := "") C 26 rfl gd9 (by decide) sh_34 rfl dX9_cutProof_4 lk_X9_281 ?_
  have r1 := iv_pmany hI
  have z2 := hF.t 34 26 (by decide)
  refine m_i2l C dX9_cutProof_7 ?_
  have t3 : (n0.toInt64).toInt = n0.toInt := i2l_t _
  have t4 : (0 : Int64).toInt = 0 := by decide
  have t5 : ((g 34 26).toInt64).toInt = (g 34 26).toInt := i2l_t _
  refine m_invS C cal_X9_in (c_X9_in l hX g (n0.toInt64) (0 : Int64) ((g 34 26).toInt64) ) lk_X9_185 st_X9_in (by decide) rfl rfl (Nat.le_of_ble_eq_true rfl) dX9_cutProof_8 ⟨Nat.le_refl _, Nat.le_refl _⟩ (rI fun r6 g7 q8 => ?_)
  obtain ⟨eg7, ⟨rfl, h9⟩ | ⟨rfl, h9⟩⟩ := q8
  · skip
    subst g7
    refine m_if_ne C 17 dX9_cutProof_11 (by decide) (fun _ => ?_) (fun h => absurd h (by decide))
    refine m_aload_n C dX9_cutProof_17 0 rfl ?_
    refine m_geti (rf := "") C 26 rfl gd9 (by decide) sh_34 rfl dX9_cutProof_18 lk_X9_281 ?_
    have r10 := iv_pmany hI
    have z11 := hF.t 34 26 (by decide)
    refine m_iload_n C dX9_cutProof_21 1 rfl ?_
    refine m_isub C dX9_cutProof_22 ?_
    refine m_name (fun x12 ex12 => ?_)
    have t13 : ((g 34 26) - n0).toInt = (g 34 26).toInt - n0.toInt := i_sub rfl rfl (by omega) (by omega)
    have t14 : x12.toInt = ((g 34 26).toInt - n0.toInt) := (congrArg Int32.toInt ex12).trans t13
    refine m_istore_n C [(2, .int x12), (0, .ref (aL X 34)), (1, .int n0)] dX9_cutProof_23 (by decide) rfl ?_
    refine m_aload_n C dX9_cutProof_24 1 rfl ?_
    refine m_iload_n C dX9_cutProof_25 2 rfl ?_
    refine m_put (rf := "") C 26 rfl gd9 (by decide) tyX9 tyX9_ok nmX9 rfl (tyX9_ok 26 (by decide)) rfl rfl sh_34 rfl dX9_cutProof_26 lk_X9_281 ?_
    refine m_mem (fun g15 eg15 => ?_)
    have hI16 : Inv g15 := by rw [eg15]; exact hI.up (ok_pmany (by omega) (by omega))
    have hK17 : Kq [] [26] g g15 := by rw [eg15]; exact Kq.upF Kq.rf (by decide)
    refine m_iload_n C dX9_cutProof_29 0 rfl ?_
    exact m_iret C dX9_cutProof_30 ⟨_, rfl, hI16, hK17, (by omega)⟩
  · skip
    subst g7
    refine m_if_ne C 17 dX9_cutProof_11 (by decide) (fun h => absurd (by decide) h) (fun _ => ?_)
    refine m_bipush C (-2 : Int32) dX9_cutProof_14 (by decide) ?_
    exact m_iret C dX9_cutProof_16 ⟨_, rfl, hI, Kq.rf, (by have hl : (-2 : Int32).toInt = -2 := (by decide); omega)⟩
set_option maxRecDepth 20000 in
set_option maxHeartbeats 4000000 in
theorem c_X9_keep_f (l : Launch) {X : XT} (hX : Lok X) (g : Mem) (q : Int32) (n0 : Int32) (hI : Inv g) (hF : FM g) : Ctr l X yX9_keep cX9_keep 3 (some .int) (rmD 6) [.ref (aL X 34), .int q, .int n0] g (pI (fun r g2 => Inv g2 ∧ Kq [36, 37, 38, 39, 50, 51, 52, 56] [4] g g2 ∧ ((r.toInt = 1 ∧ (0 ≤ q.toInt ∧ q.toInt ≤ 3 ∧ n0.toInt = 0)) ∨ (r.toInt = -2 ∧ ¬ (0 ≤ q.toInt ∧ q.toInt ≤ 3 ∧ n0.toInt = 0))))) := by
  refine Ctr.of (lv := [(0, .ref (aL X 34)), (1, .int q), (2, .int n0)]) hX (by decide) rfl (Nat.le_of_ble_eq_true rfl) ?_
  intro p e s m below meth c C
  have zf0 := hF.t 34 16 (by decide)
  have zf1 := hF.t 34 17 (by decide)
  have zf2 := hF.t 34 20 (by decide)
  have zf3 := hF.t 34 21 (by decide)
  have zf4 := hF.t 34 26 (by decide)
  refine m_iload_n C dX9_keep_0 1 rfl ?_
  refine m_i2l C dX9_keep_1 ?_
  refine m_lconst C (0 : Int64) dX9_keep_2 (by decide) ?_
  refine m_ldc2 C (3) dX9_keep_3 lk_X9_234 ?_
  have t1 : (q.toInt64).toInt = q.toInt := i2l_t _
  have t2 : (0 : Int64).toInt = 0 := by decide
  have t3 : (3 : Int64).toInt = 3 := by decide
  refine m_invS C cal_X9_in (c_X9_in l hX g (q.toInt64) (0 : Int64) (3 : Int64) ) lk_X9_185 st_X9_in (by decide) rfl rfl (Nat.le_of_ble_eq_true rfl) dX9_keep_6 ⟨Nat.le_refl _, Nat.le_refl _⟩ (rI fun r4 g5 q6 => ?_)
  obtain ⟨eg5, ⟨rfl, h7⟩ | ⟨rfl, h7⟩⟩ := q6
  · skip
    subst g5
    refine m_if_eq C 26 dX9_keep_9 (by decide) (fun h => absurd h (by decide)) (fun _ => ?_)
    refine m_iload_n C dX9_keep_12 2 rfl ?_
    refine m_i2l C dX9_keep_13 ?_
    refine m_lconst C (0 : Int64) dX9_keep_14 (by decide) ?_
    refine m_aload_n C dX9_keep_15 0 rfl ?_
    refine m_invV C cal_X9_entriesNow sh_34 rfl (c_X9_entriesNow l hX g  hI) lk_X9_262 im_X9_entriesNow se_X9_entriesNow (by decide) rfl rfl (Nat.le_of_ble_eq_true rfl) dX9_keep_16 ⟨Nat.le_refl _, Nat.le_refl _⟩ (rI fun r8 g9 q10 => ?_)
    obtain ⟨eg9, p11⟩ := q10
    subst g9
    refine m_i2l C dX9_keep_19 ?_
    have t12 : (n0.toInt64).toInt = n0.toInt := i2l_t _
    have t13 : (0 : Int64).toInt = 0 := by decide
    have t14 : (r8.toInt64).toInt = r8.toInt := i2l_t _
    refine m_invS C cal_X9_in (c_X9_in l hX g (n0.toInt64) (0 : Int64) (r8.toInt64) ) lk_X9_185 st_X9_in (by decide) rfl rfl (Nat.le_of_ble_eq_true rfl) dX9_keep_20 ⟨Nat.le_refl _, Nat.le_refl _⟩ (rI fun r15 g16 q17 => ?_)
    obtain ⟨eg16, ⟨rfl, h18⟩ | ⟨rfl, h18⟩⟩ := q17
    · skip
      subst g16
      refine m_if_ne C 29 dX9_keep_23 (by decide) (fun _ => ?_) (fun h => absurd h (by decide))
      refine m_aload_n C dX9_keep_29 0 rfl ?_
      refine m_iconst C (0 : Int32) dX9_keep_30 (by decide) ?_
      refine m_iload_n C dX9_keep_31 2 rfl ?_
      have t19 : (0 : Int32).toInt = 0 := by decide
      refine m_invV C cal_X9_rootOf sh_34 rfl (c_X9_rootOf l hX g (0 : Int32) n0 hI (by omega) (by omega) (by omega)) lk_X9_277 im_X9_rootOf se_X9_rootOf (by decide) rfl rfl (Nat.le_of_ble_eq_true rfl) dX9_keep_32 ⟨Nat.le_refl _, Nat.le_refl _⟩ (rV fun g21 q22 => ?_)
      obtain ⟨hI23, hK24⟩ := q22
      have hK25 : Kq [36, 37, 38, 39, 50, 51, 52, 56] [4] g g21 := (Kq.rf).tr hK24 (by decide) (by decide)
      refine m_aload_n C dX9_keep_35 0 rfl ?_
      refine m_aload_n C dX9_keep_36 0 rfl ?_
      refine m_getr (rf := "") C 30 rfl gd9 (by decide) sh_34 rfl dX9_keep_37 lk_X9_74 ?_
      refine m_bipush C (32 : Int32) dX9_keep_40 (by decide) ?_
      refine m_iload_n C dX9_keep_42 1 rfl ?_
      refine m_imul C dX9_keep_43 ?_
      have t26 : ((32 : Int32) * q).toInt = (32 : Int) * q.toInt := i_mul (by decide) rfl (by omega) (by omega)
      refine m_invV C cal_X9_lay sh_34 rfl (c_X9_lay_56 l hX g21 ((32 : Int32) * q) hI23 (by omega)) lk_X9_213 im_X9_lay se_X9_lay (by decide) rfl rfl (Nat.le_of_ble_eq_true rfl) dX9_keep_44 ⟨Nat.le_refl _, Nat.le_refl _⟩ (rV fun g28 q29 => ?_)
      obtain ⟨hI30, hK31⟩ := q29
      have hK32 : Kq [36, 37, 38, 39, 50, 51, 52, 56] [4] g g28 := (hK25).tr hK31 (by decide) (by decide)
      refine m_iconst C (1 : Int32) dX9_keep_47 (by decide) ?_
      exact m_iret C dX9_keep_48 ⟨_, rfl, hI30, hK32, (by have hl : (1 : Int32).toInt = 1 := (by decide); omega)⟩
    · skip
      subst g16
      refine m_if_ne C 29 dX9_keep_23 (by decide) (fun h => absurd (by decide) h) (fun _ => ?_)
      refine m_bipush C (-2 : Int32) dX9_keep_26 (by decide) ?_
      exact m_iret C dX9_keep_28 ⟨_, rfl, hI, Kq.rf, (by have hl : (-2 : Int32).toInt = -2 := (by decide); omega)⟩
  · skip
    subst g5
    refine m_if_eq C 26 dX9_keep_9 (by decide) (fun _ => ?_) (fun h => absurd (by decide) h)
    refine m_bipush C (-2 : Int32) dX9_keep_26 (by decide) ?_
    exact m_iret C dX9_keep_28 ⟨_, rfl, hI, Kq.rf, (by have hl : (-2 : Int32).toInt = -2 := (by decide); omega)⟩
set_option maxRecDepth 20000 in
set_option maxHeartbeats 4000000 in
theorem c_X9_kept_f (l : Launch) {X : XT} (hX : Lok X) (g : Mem) (q : Int32) (k : Int32) (hI : Inv g) (hF : FM g) : Ctr l X yX9_kept cX9_kept 3 (some .int) (rmD 1) [.ref (aL X 34), .int q, .int k] g (pI (fun r g2 => g2 = g ∧ ((r.toInt = 0 ∧ (0 ≤ q.toInt ∧ q.toInt ≤ 3 ∧ 0 ≤ k.toInt ∧ k.toInt ≤ 31)) ∨ (r.toInt = -2 ∧ ¬ (0 ≤ q.toInt ∧ q.toInt ≤ 3 ∧ 0 ≤ k.toInt ∧ k.toInt ≤ 31))))) := by
  refine Ctr.of (lv := [(0, .ref (aL X 34)), (1, .int q), (2, .int k)]) hX (by decide) rfl (Nat.le_of_ble_eq_true rfl) ?_
  intro p e s m below meth c C
  have zf0 := hF.t 34 16 (by decide)
  have zf1 := hF.t 34 17 (by decide)
  have zf2 := hF.t 34 20 (by decide)
  have zf3 := hF.t 34 21 (by decide)
  have zf4 := hF.t 34 26 (by decide)
  refine m_iload_n C dX9_kept_0 1 rfl ?_
  refine m_i2l C dX9_kept_1 ?_
  refine m_lconst C (0 : Int64) dX9_kept_2 (by decide) ?_
  refine m_ldc2 C (3) dX9_kept_3 lk_X9_234 ?_
  have t1 : (q.toInt64).toInt = q.toInt := i2l_t _
  have t2 : (0 : Int64).toInt = 0 := by decide
  have t3 : (3 : Int64).toInt = 3 := by decide
  refine m_invS C cal_X9_in (c_X9_in l hX g (q.toInt64) (0 : Int64) (3 : Int64) ) lk_X9_185 st_X9_in (by decide) rfl rfl (Nat.le_of_ble_eq_true rfl) dX9_kept_6 ⟨Nat.le_refl _, Nat.le_refl _⟩ (rI fun r4 g5 q6 => ?_)
  obtain ⟨eg5, ⟨rfl, h7⟩ | ⟨rfl, h7⟩⟩ := q6
  · skip
    subst g5
    refine m_if_eq C 38 dX9_kept_9 (by decide) (fun h => absurd h (by decide)) (fun _ => ?_)
    refine m_iload_n C dX9_kept_12 2 rfl ?_
    refine m_i2l C dX9_kept_13 ?_
    refine m_lconst C (0 : Int64) dX9_kept_14 (by decide) ?_
    refine m_ldc2 C (31) dX9_kept_15 lk_X9_265 ?_
    have t8 : (k.toInt64).toInt = k.toInt := i2l_t _
    have t9 : (0 : Int64).toInt = 0 := by decide
    have t10 : (31 : Int64).toInt = 31 := by decide
    refine m_invS C cal_X9_in (c_X9_in l hX g (k.toInt64) (0 : Int64) (31 : Int64) ) lk_X9_185 st_X9_in (by decide) rfl rfl (Nat.le_of_ble_eq_true rfl) dX9_kept_18 ⟨Nat.le_refl _, Nat.le_refl _⟩ (rI fun r11 g12 q13 => ?_)
    obtain ⟨eg12, ⟨rfl, h14⟩ | ⟨rfl, h14⟩⟩ := q13
    · skip
      subst g12
      refine m_if_eq C 38 dX9_kept_21 (by decide) (fun h => absurd h (by decide)) (fun _ => ?_)
      refine m_aload_n C dX9_kept_24 0 rfl ?_
      refine m_getr (rf := "") C 30 rfl gd9 (by decide) sh_34 rfl dX9_kept_25 lk_X9_74 ?_
      refine m_bipush C (32 : Int32) dX9_kept_28 (by decide) ?_
      refine m_iload_n C dX9_kept_30 1 rfl ?_
      refine m_imul C dX9_kept_31 ?_
      refine m_iload_n C dX9_kept_32 2 rfl ?_
      refine m_iadd C dX9_kept_33 ?_
      have t15 : ((32 : Int32) * q).toInt = (32 : Int) * q.toInt := i_mul (by decide) rfl (by omega) (by omega)
      have t16 : (((32 : Int32) * q) + k).toInt = ((32 : Int) * q.toInt) + k.toInt := i_add t15 rfl (by omega) (by omega)
      refine m_iald C sh_56 (i_in (by omega) (by omega)) dX9_kept_34 ?_
      have z17 := hF.t 56 (((32 : Int32) * q) + k).toNatClampNeg (by decide)
      refine m_goto C 40 dX9_kept_35 (by decide) ?_
      exact m_iret C dX9_kept_40 ⟨_, rfl, rfl, (by omega)⟩
    · skip
      subst g12
      refine m_if_eq C 38 dX9_kept_21 (by decide) (fun _ => ?_) (fun h => absurd (by decide) h)
      refine m_bipush C (-2 : Int32) dX9_kept_38 (by decide) ?_
      exact m_iret C dX9_kept_40 ⟨_, rfl, rfl, (by have hl : (-2 : Int32).toInt = -2 := (by decide); omega)⟩
  · skip
    subst g5
    refine m_if_eq C 38 dX9_kept_9 (by decide) (fun _ => ?_) (fun h => absurd (by decide) h)
    refine m_bipush C (-2 : Int32) dX9_kept_38 (by decide) ?_
    exact m_iret C dX9_kept_40 ⟨_, rfl, rfl, (by have hl : (-2 : Int32).toInt = -2 := (by decide); omega)⟩
set_option maxRecDepth 20000 in
set_option maxHeartbeats 4000000 in
theorem c_X9_spoilKept_f (l : Launch) {X : XT} (hX : Lok X) (g : Mem) (q : Int32) (k : Int32) (v : Int32) (hI : Inv g) (hF : FM g) : Ctr l X yX9_spoilKept cX9_spoilKept 5 (some .int) (rmD 1) [.ref (aL X 34), .int q, .int k, .int v] g (pI (fun r g2 => Inv g2 ∧ Kq [56] [] g g2 ∧ ((r.toInt = 0 ∧ (0 ≤ q.toInt ∧ q.toInt ≤ 3 ∧ 0 ≤ k.toInt ∧ k.toInt ≤ 31 ∧ 1 ≤ v.toInt ∧ v.toInt ≤ 255)) ∨ (r.toInt = -2 ∧ ¬ (0 ≤ q.toInt ∧ q.toInt ≤ 3 ∧ 0 ≤ k.toInt ∧ k.toInt ≤ 31 ∧ 1 ≤ v.toInt ∧ v.toInt ≤ 255))))) := by
  refine Ctr.of (lv := [(0, .ref (aL X 34)), (1, .int q), (2, .int k), (3, .int v)]) hX (by decide) rfl (Nat.le_of_ble_eq_true rfl) ?_
  intro p e s m below meth c C
  have zf0 := hF.t 34 16 (by decide)
  have zf1 := hF.t 34 17 (by decide)
  have zf2 := hF.t 34 20 (by decide)
  have zf3 := hF.t 34 21 (by decide)
  have zf4 := hF.t 34 26 (by decide)
  refine m_iload_n C dX9_spoilKept_0 1 rfl ?_
  refine m_i2l C dX9_spoilKept_1 ?_
  refine m_lconst C (0 : Int64) dX9_spoilKept_2 (by decide) ?_
  refine m_ldc2 C (3) dX9_spoilKept_3 lk_X9_234 ?_
  have t1 : (q.toInt64).toInt = q.toInt := i2l_t _
  have t2 : (0 : Int64).toInt = 0 := by decide
  have t3 : (3 : Int64).toInt = 3 := by decide
  refine m_invS C cal_X9_in (c_X9_in l hX g (q.toInt64) (0 : Int64) (3 : Int64) ) lk_X9_185 st_X9_in (by decide) rfl rfl (Nat.le_of_ble_eq_true rfl) dX9_spoilKept_6 ⟨Nat.le_refl _, Nat.le_refl _⟩ (rI fun r4 g5 q6 => ?_)
  obtain ⟨eg5, ⟨rfl, h7⟩ | ⟨rfl, h7⟩⟩ := q6
  · skip
    subst g5
    refine m_if_eq C 36 dX9_spoilKept_9 (by decide) (fun h => absurd h (by decide)) (fun _ => ?_)
    refine m_iload_n C dX9_spoilKept_12 2 rfl ?_
    refine m_i2l C dX9_spoilKept_13 ?_
    refine m_lconst C (0 : Int64) dX9_spoilKept_14 (by decide) ?_
    refine m_ldc2 C (31) dX9_spoilKept_15 lk_X9_265 ?_
    have t8 : (k.toInt64).toInt = k.toInt := i2l_t _
    have t9 : (0 : Int64).toInt = 0 := by decide
    have t10 : (31 : Int64).toInt = 31 := by decide
    refine m_invS C cal_X9_in (c_X9_in l hX g (k.toInt64) (0 : Int64) (31 : Int64) ) lk_X9_185 st_X9_in (by decide) rfl rfl (Nat.le_of_ble_eq_true rfl) dX9_spoilKept_18 ⟨Nat.le_refl _, Nat.le_refl _⟩ (rI fun r11 g12 q13 => ?_)
    obtain ⟨eg12, ⟨rfl, h14⟩ | ⟨rfl, h14⟩⟩ := q13
    · skip
      subst g12
      refine m_if_eq C 36 dX9_spoilKept_21 (by decide) (fun h => absurd h (by decide)) (fun _ => ?_)
      refine m_iload_n C dX9_spoilKept_24 3 rfl ?_
      refine m_i2l C dX9_spoilKept_25 ?_
      refine m_lconst C (1 : Int64) dX9_spoilKept_26 (by decide) ?_
      refine m_ldc2 C (255) dX9_spoilKept_27 lk_X9_291 ?_
      have t15 : (v.toInt64).toInt = v.toInt := i2l_t _
      have t16 : (1 : Int64).toInt = 1 := by decide
      have t17 : (255 : Int64).toInt = 255 := by decide
      refine m_invS C cal_X9_in (c_X9_in l hX g (v.toInt64) (1 : Int64) (255 : Int64) ) lk_X9_185 st_X9_in (by decide) rfl rfl (Nat.le_of_ble_eq_true rfl) dX9_spoilKept_30 ⟨Nat.le_refl _, Nat.le_refl _⟩ (rI fun r18 g19 q20 => ?_)
      obtain ⟨eg19, ⟨rfl, h21⟩ | ⟨rfl, h21⟩⟩ := q20
      · skip
        subst g19
        refine m_if_ne C 39 dX9_spoilKept_33 (by decide) (fun _ => ?_) (fun h => absurd h (by decide))
        refine m_aload_n C dX9_spoilKept_39 0 rfl ?_
        refine m_getr (rf := "") C 30 rfl gd9 (by decide) sh_34 rfl dX9_spoilKept_40 lk_X9_74 ?_
        refine m_bipush C (32 : Int32) dX9_spoilKept_43 (by decide) ?_
        refine m_iload_n C dX9_spoilKept_45 1 rfl ?_
        refine m_imul C dX9_spoilKept_46 ?_
        refine m_iload_n C dX9_spoilKept_47 2 rfl ?_
        refine m_iadd C dX9_spoilKept_48 ?_
        have t22 : ((32 : Int32) * q).toInt = (32 : Int) * q.toInt := i_mul (by decide) rfl (by omega) (by omega)
        have t23 : (((32 : Int32) * q) + k).toInt = ((32 : Int) * q.toInt) + k.toInt := i_add t22 rfl (by omega) (by omega)
        refine m_iald C sh_56 (i_in (by omega) (by omega)) dX9_spoilKept_49 ?_
        have z24 := hF.t 56 (((32 : Int32) * q) + k).toNatClampNeg (by decide)
        refine m_name (fun x25 ex25 => ?_)
        have t26 : x25.toInt = (g 56 (((32 : Int32) * q) + k).toNatClampNeg).toInt := (congrArg Int32.toInt ex25).trans rfl
        refine m_istore C [(4, .int x25), (0, .ref (aL X 34)), (1, .int q), (2, .int k), (3, .int v)] dX9_spoilKept_50 (by decide) rfl ?_
        refine m_aload_n C dX9_spoilKept_52 1 rfl ?_
        refine m_getr (rf := "") C 30 rfl gd9 (by decide) sh_34 rfl dX9_spoilKept_53 lk_X9_74 ?_
        refine m_bipush C (32 : Int32) dX9_spoilKept_56 (by decide) ?_
        refine m_iload_n C dX9_spoilKept_58 2 rfl ?_
        refine m_imul C dX9_spoilKept_59 ?_
        refine m_iload_n C dX9_spoilKept_60 3 rfl ?_
        refine m_iadd C dX9_spoilKept_61 ?_
        refine m_iload C dX9_spoilKept_62 0 rfl ?_
        refine m_iload_n C dX9_spoilKept_64 4 rfl ?_
        refine m_ixor C dX9_spoilKept_65 ?_
        have t27 : ((32 : Int32) * q).toInt = (32 : Int) * q.toInt := i_mul (by decide) rfl (by omega) (by omega)
        have t28 : (((32 : Int32) * q) + k).toInt = ((32 : Int) * q.toInt) + k.toInt := i_add t27 rfl (by omega) (by omega)
        refine m_iast C sh_56 (i_in (by omega) (by omega)) dX9_spoilKept_66 ?_
        refine m_mem (fun g29 eg29 => ?_)
        have hI30 : Inv g29 := by rw [eg29]; exact hI.up (ok_any (by decide))
        have hK31 : Kq [56] [] g g29 := by rw [eg29]; exact Kq.upA Kq.rf (by decide) (by decide)
        refine m_iload C dX9_spoilKept_67 0 rfl ?_
        exact m_iret C dX9_spoilKept_69 ⟨_, rfl, hI30, hK31, (by omega)⟩
      · skip
        subst g19
        refine m_if_ne C 39 dX9_spoilKept_33 (by decide) (fun h => absurd (by decide) h) (fun _ => ?_)
        refine m_bipush C (-2 : Int32) dX9_spoilKept_36 (by decide) ?_
        exact m_iret C dX9_spoilKept_38 ⟨_, rfl, hI, Kq.rf, (by have hl : (-2 : Int32).toInt = -2 := (by decide); omega)⟩
    · skip
      subst g12
      refine m_if_eq C 36 dX9_spoilKept_21 (by decide) (fun _ => ?_) (fun h => absurd (by decide) h)
      refine m_bipush C (-2 : Int32) dX9_spoilKept_36 (by decide) ?_
      exact m_iret C dX9_spoilKept_38 ⟨_, rfl, hI, Kq.rf, (by have hl : (-2 : Int32).toInt = -2 := (by decide); omega)⟩
  · skip
    subst g5
    refine m_if_eq C 36 dX9_spoilKept_9 (by decide) (fun _ => ?_) (fun h => absurd (by decide) h)
    refine m_bipush C (-2 : Int32) dX9_spoilKept_36 (by decide) ?_
    exact m_iret C dX9_spoilKept_38 ⟨_, rfl, hI, Kq.rf, (by have hl : (-2 : Int32).toInt = -2 := (by decide); omega)⟩
set_option maxRecDepth 20000 in
set_option maxHeartbeats 4000000 in
theorem c_X9_judgePath_f (l : Launch) {X : XT} (hX : Lok X) (g : Mem) (i0 : Int32) (n0 : Int32) (e0 : Int32) (q : Int32) (hI : Inv g) (hF : FM g) : Ctr l X yX9_judgePath cX9_judgePath 8 (some .int) (rmD 4) [.ref (aL X 34), .int i0, .int n0, .int e0, .int q] g (pI (fun r g2 => Inv g2 ∧ Kq [36, 37, 38, 39, 57] [4] g g2 ∧ (r.toInt = -2))) := by
  refine Ctr.of (lv := [(0, .ref (aL X 34)), (1, .int i0), (2, .int n0), (3, .int e0), (4, .int q)]) hX (by decide) rfl (Nat.le_of_ble_eq_true rfl) ?_
  intro p e s m below meth c C
  have zf0 := hF.t 34 16 (by decide)
  have zf1 := hF.t 34 17 (by decide)
  have zf2 := hF.t 34 20 (by decide)
  have zf3 := hF.t 34 21 (by decide)
  have zf4 := hF.t 34 26 (by decide)
  refine m_iload_n C dX9_judgePath_0 1 rfl ?_
  refine m_i2l C dX9_judgePath_1 ?_
  refine m_lconst C (0 : Int64) dX9_judgePath_2 (by decide) ?_
  refine m_ldc2 C (60) dX9_judgePath_3 lk_X9_293 ?_
  have t1 : (i0.toInt64).toInt = i0.toInt := i2l_t _
  have t2 : (0 : Int64).toInt = 0 := by decide
  have t3 : (60 : Int64).toInt = 60 := by decide
  refine m_invS C cal_X9_in (c_X9_in l hX g (i0.toInt64) (0 : Int64) (60 : Int64) ) lk_X9_185 st_X9_in (by decide) rfl rfl (Nat.le_of_ble_eq_true rfl) dX9_judgePath_6 ⟨Nat.le_refl _, Nat.le_refl _⟩ (rI fun r4 g5 q6 => ?_)
  obtain ⟨eg5, ⟨rfl, h7⟩ | ⟨rfl, h7⟩⟩ := q6
  · skip
    subst g5
    refine m_if_eq C 53 dX9_judgePath_9 (by decide) (fun h => absurd h (by decide)) (fun _ => ?_)
    refine m_iload_n C dX9_judgePath_12 2 rfl ?_
    refine m_i2l C dX9_judgePath_13 ?_
    refine m_lconst C (0 : Int64) dX9_judgePath_14 (by decide) ?_
    refine m_ldc2 C (60) dX9_judgePath_15 lk_X9_293 ?_
    have t8 : (n0.toInt64).toInt = n0.toInt := i2l_t _
    have t9 : (0 : Int64).toInt = 0 := by decide
    have t10 : (60 : Int64).toInt = 60 := by decide
    refine m_invS C cal_X9_in (c_X9_in l hX g (n0.toInt64) (0 : Int64) (60 : Int64) ) lk_X9_185 st_X9_in (by decide) rfl rfl (Nat.le_of_ble_eq_true rfl) dX9_judgePath_18 ⟨Nat.le_refl _, Nat.le_refl _⟩ (rI fun r11 g12 q13 => ?_)
    obtain ⟨eg12, ⟨rfl, h14⟩ | ⟨rfl, h14⟩⟩ := q13
    · skip
      subst g12
      refine m_if_eq C 53 dX9_judgePath_21 (by decide) (fun h => absurd h (by decide)) (fun _ => ?_)
      refine m_iload_n C dX9_judgePath_24 3 rfl ?_
      refine m_i2l C dX9_judgePath_25 ?_
      refine m_lconst C (0 : Int64) dX9_judgePath_26 (by decide) ?_
      refine m_aload_n C dX9_judgePath_27 0 rfl ?_
      refine m_invV C cal_X9_entriesNow sh_34 rfl (c_X9_entriesNow l hX g  hI) lk_X9_262 im_X9_entriesNow se_X9_entriesNow (by decide) rfl rfl (Nat.le_of_ble_eq_true rfl) dX9_judgePath_28 ⟨Nat.le_refl _, Nat.le_refl _⟩ (rI fun r15 g16 q17 => ?_)
      obtain ⟨eg16, p18⟩ := q17
      subst g16
      refine m_iconst C (1 : Int32) dX9_judgePath_31 (by decide) ?_
      refine m_isub C dX9_judgePath_32 ?_
      refine m_i2l C dX9_judgePath_33 ?_
      have t19 : (e0.toInt64).toInt = e0.toInt := i2l_t _
      have t20 : (0 : Int64).toInt = 0 := by decide
      have t21 : (r15 - (1 : Int32)).toInt = r15.toInt - (1 : Int) := i_sub rfl (by decide) (by omega) (by omega)
      have t22 : ((r15 - (1 : Int32)).toInt64).toInt = (r15 - (1 : Int32)).toInt := i2l_t _
      refine m_invS C cal_X9_in (c_X9_in l hX g (e0.toInt64) (0 : Int64) ((r15 - (1 : Int32)).toInt64) ) lk_X9_185 st_X9_in (by decide) rfl rfl (Nat.le_of_ble_eq_true rfl) dX9_judgePath_34 ⟨Nat.le_refl _, Nat.le_refl _⟩ (rI fun r23 g24 q25 => ?_)
      obtain ⟨eg24, ⟨rfl, h26⟩ | ⟨rfl, h26⟩⟩ := q25
      · skip
        subst g24
        refine m_if_eq C 53 dX9_judgePath_37 (by decide) (fun h => absurd h (by decide)) (fun _ => ?_)
        refine m_iload C dX9_judgePath_40 4 rfl ?_
        refine m_i2l C dX9_judgePath_42 ?_
        refine m_lconst C (0 : Int64) dX9_judgePath_43 (by decide) ?_
        refine m_ldc2 C (3) dX9_judgePath_44 lk_X9_234 ?_
        have t27 : (q.toInt64).toInt = q.toInt := i2l_t _
        have t28 : (0 : Int64).toInt = 0 := by decide
        have t29 : (3 : Int64).toInt = 3 := by decide
        refine m_invS C cal_X9_in (c_X9_in l hX g (q.toInt64) (0 : Int64) (3 : Int64) ) lk_X9_185 st_X9_in (by decide) rfl rfl (Nat.le_of_ble_eq_true rfl) dX9_judgePath_47 ⟨Nat.le_refl _, Nat.le_refl _⟩ (rI fun r30 g31 q32 => ?_)
        obtain ⟨eg31, ⟨rfl, h33⟩ | ⟨rfl, h33⟩⟩ := q32
        · skip
          subst g31
          refine m_if_ne C 56 dX9_judgePath_50 (by decide) (fun _ => ?_) (fun h => absurd h (by decide))
          exact False.elim (by omega)
        · skip
          subst g31
          refine m_if_ne C 56 dX9_judgePath_50 (by decide) (fun h => absurd (by decide) h) (fun _ => ?_)
          refine m_bipush C (-2 : Int32) dX9_judgePath_53 (by decide) ?_
          exact m_iret C dX9_judgePath_55 ⟨_, rfl, hI, Kq.rf, (by have hl : (-2 : Int32).toInt = -2 := (by decide); omega)⟩
      · skip
        subst g24
        refine m_if_eq C 53 dX9_judgePath_37 (by decide) (fun _ => ?_) (fun h => absurd (by decide) h)
        refine m_bipush C (-2 : Int32) dX9_judgePath_53 (by decide) ?_
        exact m_iret C dX9_judgePath_55 ⟨_, rfl, hI, Kq.rf, (by have hl : (-2 : Int32).toInt = -2 := (by decide); omega)⟩
    · skip
      subst g12
      refine m_if_eq C 53 dX9_judgePath_21 (by decide) (fun _ => ?_) (fun h => absurd (by decide) h)
      refine m_bipush C (-2 : Int32) dX9_judgePath_53 (by decide) ?_
      exact m_iret C dX9_judgePath_55 ⟨_, rfl, hI, Kq.rf, (by have hl : (-2 : Int32).toInt = -2 := (by decide); omega)⟩
  · skip
    subst g5
    refine m_if_eq C 53 dX9_judgePath_9 (by decide) (fun _ => ?_) (fun h => absurd (by decide) h)
    refine m_bipush C (-2 : Int32) dX9_judgePath_53 (by decide) ?_
    exact m_iret C dX9_judgePath_55 ⟨_, rfl, hI, Kq.rf, (by have hl : (-2 : Int32).toInt = -2 := (by decide); omega)⟩
set_option maxRecDepth 20000 in
set_option maxHeartbeats 4000000 in
theorem c_X9_open_f (l : Launch) {X : XT} (hX : Lok X) (g : Mem)  (hI : Inv g) (hF : FM g) : Ctr l X yX9_open cX9_open 2 (some .int) (rmD 5) [.ref (aL X 34)] g (pI (fun r g2 => Inv g2 ∧ Kq [36, 37, 38, 39, 47, 48, 49] [4, 16, 17, 20, 21] g g2 ∧ (r.toInt = -5))) := by
  refine Ctr.of (lv := [(0, .ref (aL X 34))]) hX (by decide) rfl (Nat.le_of_ble_eq_true rfl) ?_
  intro p e s m below meth c C
  have zf0 := hF.t 34 16 (by decide)
  have zf1 := hF.t 34 17 (by decide)
  have zf2 := hF.t 34 20 (by decide)
  have zf3 := hF.t 34 21 (by decide)
  have zf4 := hF.t 34 26 (by decide)
  refine m_aload_n C dX9_open_0 0 rfl ?_
  refine m_geti (rf := "") C 17 rfl gd9 (by decide) sh_34 rfl dX9_open_1 lk_X9_206 ?_
  have z1 := hF.t 34 17 (by decide)
  refine m_if_ne C 10 dX9_open_4 (by decide) (fun h2 => ?_) (fun h2 => ?_)
  · skip
    have th2 := i_ne h2
    rw [show (0 : Int32).toInt = 0 by decide] at th2
    exact False.elim (by omega)
  · skip
    have th2 := i_eq h2
    rw [show (0 : Int32).toInt = 0 by decide] at th2
    refine m_bipush C (-5 : Int32) dX9_open_7 (by decide) ?_
    exact m_iret C dX9_open_9 ⟨_, rfl, hI, Kq.rf, (by have hl : (-5 : Int32).toInt = -5 := (by decide); omega)⟩
set_option maxRecDepth 20000 in
set_option maxHeartbeats 4000000 in
theorem c_X9_disk_f (l : Launch) {X : XT} (hX : Lok X) (g : Mem) (i0 : Int32) (hI : Inv g) (hF : FM g) : Ctr l X yX9_disk cX9_disk 2 (some .int) (rmD 1) [.ref (aL X 34), .int i0] g (pI (fun r g2 => g2 = g ∧ ((r.toInt = 0 ∧ (0 ≤ i0.toInt ∧ i0.toInt ≤ 1019)) ∨ (r.toInt = -2 ∧ ¬ (0 ≤ i0.toInt ∧ i0.toInt ≤ 1019))))) := by
  refine Ctr.of (lv := [(0, .ref (aL X 34)), (1, .int i0)]) hX (by decide) rfl (Nat.le_of_ble_eq_true rfl) ?_
  intro p e s m below meth c C
  have zf0 := hF.t 34 16 (by decide)
  have zf1 := hF.t 34 17 (by decide)
  have zf2 := hF.t 34 20 (by decide)
  have zf3 := hF.t 34 21 (by decide)
  have zf4 := hF.t 34 26 (by decide)
  refine m_iload_n C dX9_disk_0 1 rfl ?_
  refine m_i2l C dX9_disk_1 ?_
  refine m_lconst C (0 : Int64) dX9_disk_2 (by decide) ?_
  refine m_ldc2 C (1019) dX9_disk_3 lk_X9_307 ?_
  have t1 : (i0.toInt64).toInt = i0.toInt := i2l_t _
  have t2 : (0 : Int64).toInt = 0 := by decide
  have t3 : (1019 : Int64).toInt = 1019 := by decide
  refine m_invS C cal_X9_in (c_X9_in l hX g (i0.toInt64) (0 : Int64) (1019 : Int64) ) lk_X9_185 st_X9_in (by decide) rfl rfl (Nat.le_of_ble_eq_true rfl) dX9_disk_6 ⟨Nat.le_refl _, Nat.le_refl _⟩ (rI fun r4 g5 q6 => ?_)
  obtain ⟨eg5, ⟨rfl, h7⟩ | ⟨rfl, h7⟩⟩ := q6
  · skip
    subst g5
    refine m_if_eq C 21 dX9_disk_9 (by decide) (fun h => absurd h (by decide)) (fun _ => ?_)
    refine m_aload_n C dX9_disk_12 0 rfl ?_
    refine m_getr (rf := "") C 22 rfl gd9 (by decide) sh_34 rfl dX9_disk_13 lk_X9_53 ?_
    refine m_iload_n C dX9_disk_16 1 rfl ?_
    refine m_iald C sh_49 (i_in (by omega) (by omega)) dX9_disk_17 ?_
    have z8 := hF.t 49 i0.toNatClampNeg (by decide)
    refine m_goto C 23 dX9_disk_18 (by decide) ?_
    exact m_iret C dX9_disk_23 ⟨_, rfl, rfl, (by omega)⟩
  · skip
    subst g5
    refine m_if_eq C 21 dX9_disk_9 (by decide) (fun _ => ?_) (fun h => absurd (by decide) h)
    refine m_bipush C (-2 : Int32) dX9_disk_21 (by decide) ?_
    exact m_iret C dX9_disk_23 ⟨_, rfl, rfl, (by have hl : (-2 : Int32).toInt = -2 := (by decide); omega)⟩
set_option maxRecDepth 20000 in
set_option maxHeartbeats 4000000 in
theorem c_X9_spoil_f (l : Launch) {X : XT} (hX : Lok X) (g : Mem) (i0 : Int32) (v : Int32) (hI : Inv g) (hF : FM g) : Ctr l X yX9_spoil cX9_spoil 4 (some .int) (rmD 1) [.ref (aL X 34), .int i0, .int v] g (pI (fun r g2 => Inv g2 ∧ Kq [49] [] g g2 ∧ ((r.toInt = 0 ∧ (0 ≤ i0.toInt ∧ i0.toInt ≤ 1019 ∧ 1 ≤ v.toInt ∧ v.toInt ≤ 255)) ∨ (r.toInt = -2 ∧ ¬ (0 ≤ i0.toInt ∧ i0.toInt ≤ 1019 ∧ 1 ≤ v.toInt ∧ v.toInt ≤ 255))))) := by
  refine Ctr.of (lv := [(0, .ref (aL X 34)), (1, .int i0), (2, .int v)]) hX (by decide) rfl (Nat.le_of_ble_eq_true rfl) ?_
  intro p e s m below meth c C
  have zf0 := hF.t 34 16 (by decide)
  have zf1 := hF.t 34 17 (by decide)
  have zf2 := hF.t 34 20 (by decide)
  have zf3 := hF.t 34 21 (by decide)
  have zf4 := hF.t 34 26 (by decide)
  refine m_iload_n C dX9_spoil_0 1 rfl ?_
  refine m_i2l C dX9_spoil_1 ?_
  refine m_lconst C (0 : Int64) dX9_spoil_2 (by decide) ?_
  refine m_ldc2 C (1019) dX9_spoil_3 lk_X9_307 ?_
  have t1 : (i0.toInt64).toInt = i0.toInt := i2l_t _
  have t2 : (0 : Int64).toInt = 0 := by decide
  have t3 : (1019 : Int64).toInt = 1019 := by decide
  refine m_invS C cal_X9_in (c_X9_in l hX g (i0.toInt64) (0 : Int64) (1019 : Int64) ) lk_X9_185 st_X9_in (by decide) rfl rfl (Nat.le_of_ble_eq_true rfl) dX9_spoil_6 ⟨Nat.le_refl _, Nat.le_refl _⟩ (rI fun r4 g5 q6 => ?_)
  obtain ⟨eg5, ⟨rfl, h7⟩ | ⟨rfl, h7⟩⟩ := q6
  · skip
    subst g5
    refine m_if_eq C 24 dX9_spoil_9 (by decide) (fun h => absurd h (by decide)) (fun _ => ?_)
    refine m_iload_n C dX9_spoil_12 2 rfl ?_
    refine m_i2l C dX9_spoil_13 ?_
    refine m_lconst C (1 : Int64) dX9_spoil_14 (by decide) ?_
    refine m_ldc2 C (255) dX9_spoil_15 lk_X9_291 ?_
    have t8 : (v.toInt64).toInt = v.toInt := i2l_t _
    have t9 : (1 : Int64).toInt = 1 := by decide
    have t10 : (255 : Int64).toInt = 255 := by decide
    refine m_invS C cal_X9_in (c_X9_in l hX g (v.toInt64) (1 : Int64) (255 : Int64) ) lk_X9_185 st_X9_in (by decide) rfl rfl (Nat.le_of_ble_eq_true rfl) dX9_spoil_18 ⟨Nat.le_refl _, Nat.le_refl _⟩ (rI fun r11 g12 q13 => ?_)
    obtain ⟨eg12, ⟨rfl, h14⟩ | ⟨rfl, h14⟩⟩ := q13
    · skip
      subst g12
      refine m_if_ne C 27 dX9_spoil_21 (by decide) (fun _ => ?_) (fun h => absurd h (by decide))
      refine m_aload_n C dX9_spoil_27 0 rfl ?_
      refine m_getr (rf := "") C 22 rfl gd9 (by decide) sh_34 rfl dX9_spoil_28 lk_X9_53 ?_
      refine m_iload_n C dX9_spoil_31 1 rfl ?_
      refine m_iald C sh_49 (i_in (by omega) (by omega)) dX9_spoil_32 ?_
      have z15 := hF.t 49 i0.toNatClampNeg (by decide)
      refine m_name (fun x16 ex16 => ?_)
      have t17 : x16.toInt = (g 49 i0.toNatClampNeg).toInt := (congrArg Int32.toInt ex16).trans rfl
      refine m_istore_n C [(3, .int x16), (0, .ref (aL X 34)), (1, .int i0), (2, .int v)] dX9_spoil_33 (by decide) rfl ?_
      refine m_aload_n C dX9_spoil_34 1 rfl ?_
      refine m_getr (rf := "") C 22 rfl gd9 (by decide) sh_34 rfl dX9_spoil_35 lk_X9_53 ?_
      refine m_iload_n C dX9_spoil_38 2 rfl ?_
      refine m_iload_n C dX9_spoil_39 0 rfl ?_
      refine m_iload_n C dX9_spoil_40 3 rfl ?_
      refine m_ixor C dX9_spoil_41 ?_
      refine m_iast C sh_49 (i_in (by omega) (by omega)) dX9_spoil_42 ?_
      refine m_mem (fun g18 eg18 => ?_)
      have hI19 : Inv g18 := by rw [eg18]; exact hI.up (ok_any (by decide))
      have hK20 : Kq [49] [] g g18 := by rw [eg18]; exact Kq.upA Kq.rf (by decide) (by decide)
      refine m_iload_n C dX9_spoil_43 0 rfl ?_
      exact m_iret C dX9_spoil_44 ⟨_, rfl, hI19, hK20, (by omega)⟩
    · skip
      subst g12
      refine m_if_ne C 27 dX9_spoil_21 (by decide) (fun h => absurd (by decide) h) (fun _ => ?_)
      refine m_bipush C (-2 : Int32) dX9_spoil_24 (by decide) ?_
      exact m_iret C dX9_spoil_26 ⟨_, rfl, hI, Kq.rf, (by have hl : (-2 : Int32).toInt = -2 := (by decide); omega)⟩
  · skip
    subst g5
    refine m_if_eq C 24 dX9_spoil_9 (by decide) (fun _ => ?_) (fun h => absurd (by decide) h)
    refine m_bipush C (-2 : Int32) dX9_spoil_24 (by decide) ?_
    exact m_iret C dX9_spoil_26 ⟨_, rfl, hI, Kq.rf, (by have hl : (-2 : Int32).toInt = -2 := (by decide); omega)⟩
set_option maxRecDepth 20000 in
set_option maxHeartbeats 4000000 in
theorem c_X9_audit_f (l : Launch) {X : XT} (hX : Lok X) (g : Mem)  (hI : Inv g) (hF : FM g) : Ctr l X yX9_audit cX9_audit 4 (some .int) (rmD 0) [.ref (aL X 34)] g (pI (fun r g2 => Inv g2 ∧ Kq [] [] g g2 ∧ (r.toInt = -1))) := by
  refine Ctr.of (lv := [(0, .ref (aL X 34))]) hX (by decide) rfl (Nat.le_of_ble_eq_true rfl) ?_
  intro p e s m below meth c C
  have zf0 := hF.t 34 16 (by decide)
  have zf1 := hF.t 34 17 (by decide)
  have zf2 := hF.t 34 20 (by decide)
  have zf3 := hF.t 34 21 (by decide)
  have zf4 := hF.t 34 26 (by decide)
  refine m_aload_n C dX9_audit_0 0 rfl ?_
  refine m_geti (rf := "") C 17 rfl gd9 (by decide) sh_34 rfl dX9_audit_1 lk_X9_206 ?_
  have z1 := hF.t 34 17 (by decide)
  refine m_if_eq C 10 dX9_audit_4 (by decide) (fun h2 => ?_) (fun h2 => ?_)
  · skip
    have th2 := i_eq h2
    rw [show (0 : Int32).toInt = 0 by decide] at th2
    refine m_iconst C (0 : Int32) dX9_audit_10 (by decide) ?_
    refine m_istore_n C [(1, .int (0 : Int32)), (0, .ref (aL X 34))] dX9_audit_11 (by decide) rfl ?_
    have L12 : ∀ (n12 : Nat) (x4 : Int32) (g5 : Mem), (61 - x4.toInt).toNat < n12 → Inv g5 → Kq [] [] g g5 → 0 ≤ x4.toInt ∧ x4.toInt ≤ 60 → Wm X p l e (rmD 0) s m ([.ref (aL X 34)] : List Value).toArray below meth c 4 0 0 (MQ below (cQ X (pI (fun r g2 => Inv g2 ∧ Kq [] [] g g2 ∧ (r.toInt = -1)))) ([.ref (aL X 34)] : List Value).toArray s 0 0 (Ab X)) g5 12 [(0, .ref (aL X 34)), (1, .int x4)] [] := by
      intro n12
      induction n12 with
      | zero => intro x4 g5 hm; exact absurd hm (Nat.not_lt_zero _)
      | succ n12 ih12 =>
        intro x4 g5 hm12 hI6 hK7 i8
        obtain ⟨i8a, i8b⟩ := i8
        refine m_iload_n C dX9_audit_12 1 rfl ?_
        refine m_aload_n C dX9_audit_13 0 rfl ?_
        refine m_geti (rf := "") C 16 rfl gd9 (by decide) sh_34 rfl dX9_audit_14 lk_X9_210 ?_
        have r9 := iv_many hI6
        have ev10 : g5 34 16 = g 34 16 := hK7.2 16 (by decide)
        have tev10 := congrArg Int32.toInt ev10
        have z11 := hF.t 34 16 (by decide)
        refine m_icmp_ge C 153 dX9_audit_17 (by decide) (fun h12 => ?_) (fun h12 => ?_)
        · skip
          have th12 := i_le h12
          refine m_iconst C (-1 : Int32) dX9_audit_153 (by decide) ?_
          exact m_iret C dX9_audit_154 ⟨_, rfl, hI6, hK7, (by have hl : (-1 : Int32).toInt = -1 := (by decide); omega)⟩
        · skip
          have th12 := i_nle h12
          exact False.elim (by omega)
    have t13 : (0 : Int32).toInt = 0 := by decide
    refine m_lv [1, 0] rfl ?_
    exact L12 (((61 - (0 : Int32).toInt).toNat) + 1) (0 : Int32) g (Nat.lt_succ_self _) hI Kq.rf (by omega)
  · skip
    have th2 := i_ne h2
    rw [show (0 : Int32).toInt = 0 by decide] at th2
    refine m_bipush C (-3 : Int32) dX9_audit_7 (by decide) ?_
    exact m_iret C dX9_audit_9 ⟨_, rfl, hI, Kq.rf, (by have hl : (-3 : Int32).toInt = -3 := (by decide); omega)⟩
set_option maxRecDepth 20000 in
set_option maxHeartbeats 4000000 in
theorem c_X9_count_f (l : Launch) {X : XT} (hX : Lok X) (g : Mem) (w : Int32) (hI : Inv g) (hF : FM g) : Ctr l X yX9_count cX9_count 2 (some .int) (rmD 1) [.ref (aL X 34), .int w] g (pI (fun r g2 => g2 = g ∧ ((r.toInt = 0 ∧ (0 ≤ w.toInt ∧ w.toInt ≤ 7)) ∨ (r.toInt = -2 ∧ ¬ (0 ≤ w.toInt ∧ w.toInt ≤ 7))))) := by
  refine Ctr.of (lv := [(0, .ref (aL X 34)), (1, .int w)]) hX (by decide) rfl (Nat.le_of_ble_eq_true rfl) ?_
  intro p e s m below meth c C
  have zf0 := hF.t 34 16 (by decide)
  have zf1 := hF.t 34 17 (by decide)
  have zf2 := hF.t 34 20 (by decide)
  have zf3 := hF.t 34 21 (by decide)
  have zf4 := hF.t 34 26 (by decide)
  refine m_iload_n C dX9_count_0 1 rfl ?_
  rcases Int.lt_or_le (w).toInt 0 with h1 | h1
  · skip
    refine m_tabO C 96 dX9_count_1 (Or.inl h1) (by decide) ?_
    refine m_bipush C (-2 : Int32) dX9_count_96 (by decide) ?_
    exact m_iret C dX9_count_98 ⟨_, rfl, rfl, (by have hl : (-2 : Int32).toInt = -2 := (by decide); omega)⟩
  · skip
    by_cases h2 : (w).toInt = 0
    · skip
      refine m_tabI C 48 dX9_count_1 (by omega) (by omega) (off := 47) (by rw [h2]; rfl) (by decide) ?_
      refine m_aload_n C dX9_count_48 0 rfl ?_
      refine m_invV C cal_X9_entriesNow sh_34 rfl (c_X9_entriesNow l hX g  hI) lk_X9_262 im_X9_entriesNow se_X9_entriesNow (by decide) rfl rfl (Nat.le_of_ble_eq_true rfl) dX9_count_49 ⟨Nat.le_refl _, Nat.le_refl _⟩ (rI fun r3 g4 q5 => ?_)
      obtain ⟨eg4, p6⟩ := q5
      subst g4
      exact m_iret C dX9_count_52 ⟨_, rfl, rfl, (by omega)⟩
    · skip
      by_cases h7 : (w).toInt = 1
      · skip
        refine m_tabI C 53 dX9_count_1 (by omega) (by omega) (off := 52) (by rw [h7]; rfl) (by decide) ?_
        refine m_aload_n C dX9_count_53 0 rfl ?_
        refine m_geti (rf := "") C 20 rfl gd9 (by decide) sh_34 rfl dX9_count_54 lk_X9_220 ?_
        have r8 := iv_mwrt hI
        have z9 := hF.t 34 20 (by decide)
        exact m_iret C dX9_count_57 ⟨_, rfl, rfl, (by omega)⟩
      · skip
        by_cases h10 : (w).toInt = 2
        · skip
          refine m_tabI C 58 dX9_count_1 (by omega) (by omega) (off := 57) (by rw [h10]; rfl) (by decide) ?_
          refine m_aload_n C dX9_count_58 0 rfl ?_
          refine m_geti (rf := "") C 21 rfl gd9 (by decide) sh_34 rfl dX9_count_59 lk_X9_299 ?_
          have r11 := iv_msafe hI
          have z12 := hF.t 34 21 (by decide)
          exact m_iret C dX9_count_62 ⟨_, rfl, rfl, (by omega)⟩
        · skip
          by_cases h13 : (w).toInt = 3
          · skip
            refine m_tabI C 63 dX9_count_1 (by omega) (by omega) (off := 62) (by rw [h13]; rfl) (by decide) ?_
            refine m_aload_n C dX9_count_63 0 rfl ?_
            refine m_geti (rf := "") C 17 rfl gd9 (by decide) sh_34 rfl dX9_count_64 lk_X9_206 ?_
            have z14 := hF.t 34 17 (by decide)
            refine m_if_eq C 74 dX9_count_67 (by decide) (fun h15 => ?_) (fun h15 => ?_)
            · skip
              have th15 := i_eq h15
              rw [show (0 : Int32).toInt = 0 by decide] at th15
              refine m_iconst C (0 : Int32) dX9_count_74 (by decide) ?_
              exact m_iret C dX9_count_75 ⟨_, rfl, rfl, (by have hl : (0 : Int32).toInt = 0 := (by decide); omega)⟩
            · skip
              have th15 := i_ne h15
              rw [show (0 : Int32).toInt = 0 by decide] at th15
              refine m_iconst C (1 : Int32) dX9_count_70 (by decide) ?_
              refine m_goto C 75 dX9_count_71 (by decide) ?_
              exact m_iret C dX9_count_75 ⟨_, rfl, rfl, (by have hl : (1 : Int32).toInt = 1 := (by decide); omega)⟩
          · skip
            by_cases h16 : (w).toInt = 4
            · skip
              refine m_tabI C 76 dX9_count_1 (by omega) (by omega) (off := 75) (by rw [h16]; rfl) (by decide) ?_
              refine m_aload_n C dX9_count_76 0 rfl ?_
              refine m_geti (rf := "") C 6 rfl gd9 (by decide) sh_34 rfl dX9_count_77 lk_X9_201 ?_
              have r17 := iv_mclock hI
              have z18 := hF.t 34 6 (by decide)
              exact m_iret C dX9_count_80 ⟨_, rfl, rfl, (by omega)⟩
            · skip
              by_cases h19 : (w).toInt = 5
              · skip
                refine m_tabI C 81 dX9_count_1 (by omega) (by omega) (off := 80) (by rw [h19]; rfl) (by decide) ?_
                refine m_aload_n C dX9_count_81 0 rfl ?_
                refine m_geti (rf := "") C 26 rfl gd9 (by decide) sh_34 rfl dX9_count_82 lk_X9_281 ?_
                have r20 := iv_pmany hI
                have z21 := hF.t 34 26 (by decide)
                exact m_iret C dX9_count_85 ⟨_, rfl, rfl, (by omega)⟩
              · skip
                by_cases h22 : (w).toInt = 6
                · skip
                  refine m_tabI C 86 dX9_count_1 (by omega) (by omega) (off := 85) (by rw [h22]; rfl) (by decide) ?_
                  refine m_aload_n C dX9_count_86 0 rfl ?_
                  refine m_geti (rf := "") C 14 rfl gd9 (by decide) sh_34 rfl dX9_count_87 lk_X9_243 ?_
                  have z23 := hF.t 34 14 (by decide)
                  exact m_iret C dX9_count_90 ⟨_, rfl, rfl, (by omega)⟩
                · skip
                  by_cases h24 : (w).toInt = 7
                  · skip
                    refine m_tabI C 91 dX9_count_1 (by omega) (by omega) (off := 90) (by rw [h24]; rfl) (by decide) ?_
                    refine m_aload_n C dX9_count_91 0 rfl ?_
                    refine m_geti (rf := "") C 15 rfl gd9 (by decide) sh_34 rfl dX9_count_92 lk_X9_246 ?_
                    have z25 := hF.t 34 15 (by decide)
                    exact m_iret C dX9_count_95 ⟨_, rfl, rfl, (by omega)⟩
                  · skip
                    refine m_tabO C 96 dX9_count_1 (Or.inr (by omega)) (by decide) ?_
                    refine m_bipush C (-2 : Int32) dX9_count_96 (by decide) ?_
                    exact m_iret C dX9_count_98 ⟨_, rfl, rfl, (by have hl : (-2 : Int32).toInt = -2 := (by decide); omega)⟩
set_option maxRecDepth 20000 in
set_option maxHeartbeats 4000000 in
theorem c_X9_cut_f (l : Launch) {X : XT} (hX : Lok X) (g : Mem) (n0 : Int32) (hI : Inv g) (hF : FM g) : Ctr l X yX9_cut cX9_cut 4 (some .int) (rmD 1) [.ref (aL X 34), .int n0] g (pI (fun r g2 => Inv g2 ∧ Kq [49] [17, 20] g g2 ∧ ((r.toInt = 0 ∧ (0 ≤ n0.toInt ∧ n0.toInt ≤ 1020)) ∨ (r.toInt = -2 ∧ ¬ (0 ≤ n0.toInt ∧ n0.toInt ≤ 1020))))) := by
  refine Ctr.of (lv := [(0, .ref (aL X 34)), (1, .int n0)]) hX (by decide) rfl (Nat.le_of_ble_eq_true rfl) ?_
  intro p e s m below meth c C
  have zf0 := hF.t 34 16 (by decide)
  have zf1 := hF.t 34 17 (by decide)
  have zf2 := hF.t 34 20 (by decide)
  have zf3 := hF.t 34 21 (by decide)
  have zf4 := hF.t 34 26 (by decide)
  refine m_iload_n C dX9_cut_0 1 rfl ?_
  refine m_i2l C dX9_cut_1 ?_
  refine m_lconst C (0 : Int64) dX9_cut_2 (by decide) ?_
  refine m_ldc2 C (1020) dX9_cut_3 lk_X9_302 ?_
  have t1 : (n0.toInt64).toInt = n0.toInt := i2l_t _
  have t2 : (0 : Int64).toInt = 0 := by decide
  have t3 : (1020 : Int64).toInt = 1020 := by decide
  refine m_invS C cal_X9_in (c_X9_in l hX g (n0.toInt64) (0 : Int64) (1020 : Int64) ) lk_X9_185 st_X9_in (by decide) rfl rfl (Nat.le_of_ble_eq_true rfl) dX9_cut_6 ⟨Nat.le_refl _, Nat.le_refl _⟩ (rI fun r4 g5 q6 => ?_)
  obtain ⟨eg5, ⟨rfl, h7⟩ | ⟨rfl, h7⟩⟩ := q6
  · skip
    subst g5
    refine m_if_ne C 15 dX9_cut_9 (by decide) (fun _ => ?_) (fun h => absurd h (by decide))
    refine m_aload_n C dX9_cut_15 0 rfl ?_
    refine m_geti (rf := "") C 17 rfl gd9 (by decide) sh_34 rfl dX9_cut_16 lk_X9_206 ?_
    have z8 := hF.t 34 17 (by decide)
    refine m_if_eq C 25 dX9_cut_19 (by decide) (fun h9 => ?_) (fun h9 => ?_)
    · skip
      have th9 := i_eq h9
      rw [show (0 : Int32).toInt = 0 by decide] at th9
      refine m_aload_n C dX9_cut_25 0 rfl ?_
      refine m_geti (rf := "") C 21 rfl gd9 (by decide) sh_34 rfl dX9_cut_26 lk_X9_299 ?_
      have r10 := iv_msafe hI
      have z11 := hF.t 34 21 (by decide)
      refine m_iload_n C dX9_cut_29 1 rfl ?_
      refine m_iadd C dX9_cut_30 ?_
      refine m_aload_n C dX9_cut_31 0 rfl ?_
      refine m_geti (rf := "") C 20 rfl gd9 (by decide) sh_34 rfl dX9_cut_32 lk_X9_220 ?_
      have r12 := iv_mwrt hI
      have z13 := hF.t 34 20 (by decide)
      have t14 : ((g 34 21) + n0).toInt = (g 34 21).toInt + n0.toInt := i_add rfl rfl (by omega) (by omega)
      refine m_icmp_ge C 47 dX9_cut_35 (by decide) (fun h15 => ?_) (fun h15 => ?_)
      · skip
        have th15 := i_le h15
        refine m_aload_n C dX9_cut_47 0 rfl ?_
        refine m_geti (rf := "") C 20 rfl gd9 (by decide) sh_34 rfl dX9_cut_48 lk_X9_220 ?_
        have r16 := iv_mwrt hI
        have z17 := hF.t 34 20 (by decide)
        refine m_name (fun x18 ex18 => ?_)
        have t19 : x18.toInt = (g 34 20).toInt := (congrArg Int32.toInt ex18).trans rfl
        refine m_istore_n C [(2, .int x18), (0, .ref (aL X 34)), (1, .int n0)] dX9_cut_51 (by decide) rfl ?_
        refine m_iload_n C dX9_cut_52 0 rfl ?_
        refine m_istore_n C [(3, .int x18), (2, .int x18), (0, .ref (aL X 34)), (1, .int n0)] dX9_cut_53 (by decide) rfl ?_
        have L54 : ∀ (n54 : Nat) (x21 : Int32) (g22 : Mem), (1021 - x21.toInt).toNat < n54 → Inv g22 → Kq [49] [17, 20] g g22 → 0 ≤ x21.toInt ∧ x21.toInt ≤ 1020 → Wm X p l e (rmD 1) s m ([.ref (aL X 34), .int n0] : List Value).toArray below meth c 4 0 0 (MQ below (cQ X (pI (fun r g2 => Inv g2 ∧ Kq [49] [17, 20] g g2 ∧ ((r.toInt = 0 ∧ (0 ≤ n0.toInt ∧ n0.toInt ≤ 1020)) ∨ (r.toInt = -2 ∧ ¬ (0 ≤ n0.toInt ∧ n0.toInt ≤ 1020)))))) ([.ref (aL X 34), .int n0] : List Value).toArray s 0 0 (Ab X)) g22 54 [(0, .ref (aL X 34)), (1, .int n0), (2, .int x18), (3, .int x21)] [] := by
          intro n54
          induction n54 with
          | zero => intro x21 g22 hm; exact absurd hm (Nat.not_lt_zero _)
          | succ n54 ih54 =>
            intro x21 g22 hm54 hI23 hK24 i25
            obtain ⟨i25a, i25b⟩ := i25
            refine m_iload_n C dX9_cut_54 3 rfl ?_
            refine m_aload_n C dX9_cut_55 0 rfl ?_
            refine m_geti (rf := "") C 20 rfl gd9 (by decide) sh_34 rfl dX9_cut_56 lk_X9_220 ?_
            have r26 := iv_mwrt hI23
            have z27 := hF.t 34 20 (by decide)
            refine m_icmp_ge C 75 dX9_cut_59 (by decide) (fun h28 => ?_) (fun h28 => ?_)
            · skip
              have th28 := i_le h28
              refine m_aload_n C dX9_cut_75 0 rfl ?_
              refine m_iload_n C dX9_cut_76 2 rfl ?_
              refine m_put (rf := "") C 20 rfl gd9 (by decide) tyX9 tyX9_ok nmX9 rfl (tyX9_ok 20 (by decide)) rfl rfl sh_34 rfl dX9_cut_77 lk_X9_220 ?_
              refine m_mem (fun g29 eg29 => ?_)
              have hI30 : Inv g29 := by rw [eg29]; exact hI23.up (ok_mwrt (by omega) (by omega))
              have hK31 : Kq [49] [17, 20] g g29 := by rw [eg29]; exact Kq.upF hK24 (by decide)
              refine m_aload_n C dX9_cut_80 0 rfl ?_
              refine m_iconst C (1 : Int32) dX9_cut_81 (by decide) ?_
              refine m_put (rf := "") C 17 rfl gd9 (by decide) tyX9 tyX9_ok nmX9 rfl (tyX9_ok 17 (by decide)) (by decide) (by decide) sh_34 rfl dX9_cut_82 lk_X9_206 ?_
              refine m_mem (fun g32 eg32 => ?_)
              have hI33 : Inv g32 := by rw [eg32]; exact hI30.up (ok_mshut (Or.inr rfl))
              have hK34 : Kq [49] [17, 20] g g32 := by rw [eg32]; exact Kq.upF hK31 (by decide)
              refine m_iload_n C dX9_cut_85 2 rfl ?_
              exact m_iret C dX9_cut_86 ⟨_, rfl, hI33, hK34, (by omega)⟩
            · skip
              have th28 := i_nle h28
              refine m_aload_n C dX9_cut_62 0 rfl ?_
              refine m_getr (rf := "") C 22 rfl gd9 (by decide) sh_34 rfl dX9_cut_63 lk_X9_53 ?_
              refine m_iload_n C dX9_cut_66 3 rfl ?_
              refine m_iconst C (0 : Int32) dX9_cut_67 (by decide) ?_
              refine m_iast C sh_49 (i_in (by omega) (by omega)) dX9_cut_68 ?_
              refine m_mem (fun g35 eg35 => ?_)
              have hI36 : Inv g35 := by rw [eg35]; exact hI23.up (ok_any (by decide))
              have hK37 : Kq [49] [17, 20] g g35 := by rw [eg35]; exact Kq.upA hK24 (by decide) (by decide)
              have ev38 : g35 34 20 = g22 34 20 := by rw [eg35]; exact up2_nei (Or.inl (by decide))
              have tev38 := congrArg Int32.toInt ev38
              obtain ⟨x39, ex39⟩ : ∃ z : Int32, z = x21 + Int32.ofInt 1 := ⟨_, rfl⟩
              have t40 : (x21 + (Int32.ofInt 1)).toInt = x21.toInt + (1 : Int) := i_add rfl (by decide) (by omega) (by omega)
              have t41 : x39.toInt = (x21.toInt + (1 : Int)) := (congrArg Int32.toInt ex39).trans t40
              refine m_iinc C x39 [(3, .int x39), (0, .ref (aL X 34)), (1, .int n0), (2, .int x18)] dX9_cut_69 (q := 3) rfl ex39.symm (by decide) rfl ?_
              refine m_goto C 54 dX9_cut_72 (by decide) ?_
              refine m_lv [1, 2, 3, 0] rfl ?_
              exact ih54 x39 g35 (by omega) hI36 hK37 (by omega)
        refine m_lv [2, 3, 1, 0] rfl ?_
        exact L54 (((1021 - x18.toInt).toNat) + 1) x18 g (Nat.lt_succ_self _) hI Kq.rf (by omega)
      · skip
        have th15 := i_nle h15
        refine m_aload_n C dX9_cut_38 0 rfl ?_
        refine m_geti (rf := "") C 21 rfl gd9 (by decide) sh_34 rfl dX9_cut_39 lk_X9_299 ?_
        have r42 := iv_msafe hI
        have z43 := hF.t 34 21 (by decide)
        refine m_iload_n C dX9_cut_42 1 rfl ?_
        refine m_iadd C dX9_cut_43 ?_
        refine m_goto C 51 dX9_cut_44 (by decide) ?_
        refine m_name (fun x44 ex44 => ?_)
        have t45 : ((g 34 21) + n0).toInt = (g 34 21).toInt + n0.toInt := i_add rfl rfl (by omega) (by omega)
        have t46 : x44.toInt = ((g 34 21).toInt + n0.toInt) := (congrArg Int32.toInt ex44).trans t45
        refine m_istore_n C [(2, .int x44), (0, .ref (aL X 34)), (1, .int n0)] dX9_cut_51 (by decide) rfl ?_
        refine m_iload_n C dX9_cut_52 0 rfl ?_
        refine m_istore_n C [(3, .int x44), (2, .int x44), (0, .ref (aL X 34)), (1, .int n0)] dX9_cut_53 (by decide) rfl ?_
        have L54 : ∀ (n54 : Nat) (x48 : Int32) (g49 : Mem), (1021 - x48.toInt).toNat < n54 → Inv g49 → Kq [49] [17, 20] g g49 → 0 ≤ x48.toInt ∧ x48.toInt ≤ 1020 → Wm X p l e (rmD 1) s m ([.ref (aL X 34), .int n0] : List Value).toArray below meth c 4 0 0 (MQ below (cQ X (pI (fun r g2 => Inv g2 ∧ Kq [49] [17, 20] g g2 ∧ ((r.toInt = 0 ∧ (0 ≤ n0.toInt ∧ n0.toInt ≤ 1020)) ∨ (r.toInt = -2 ∧ ¬ (0 ≤ n0.toInt ∧ n0.toInt ≤ 1020)))))) ([.ref (aL X 34), .int n0] : List Value).toArray s 0 0 (Ab X)) g49 54 [(0, .ref (aL X 34)), (1, .int n0), (2, .int x44), (3, .int x48)] [] := by
          intro n54
          induction n54 with
          | zero => intro x48 g49 hm; exact absurd hm (Nat.not_lt_zero _)
          | succ n54 ih54 =>
            intro x48 g49 hm54 hI50 hK51 i52
            obtain ⟨i52a, i52b⟩ := i52
            refine m_iload_n C dX9_cut_54 3 rfl ?_
            refine m_aload_n C dX9_cut_55 0 rfl ?_
            refine m_geti (rf := "") C 20 rfl gd9 (by decide) sh_34 rfl dX9_cut_56 lk_X9_220 ?_
            have r53 := iv_mwrt hI50
            have z54 := hF.t 34 20 (by decide)
            refine m_icmp_ge C 75 dX9_cut_59 (by decide) (fun h55 => ?_) (fun h55 => ?_)
            · skip
              have th55 := i_le h55
              refine m_aload_n C dX9_cut_75 0 rfl ?_
              refine m_iload_n C dX9_cut_76 2 rfl ?_
              refine m_put (rf := "") C 20 rfl gd9 (by decide) tyX9 tyX9_ok nmX9 rfl (tyX9_ok 20 (by decide)) rfl rfl sh_34 rfl dX9_cut_77 lk_X9_220 ?_
              refine m_mem (fun g56 eg56 => ?_)
              have hI57 : Inv g56 := by rw [eg56]; exact hI50.up (ok_mwrt (by omega) (by omega))
              have hK58 : Kq [49] [17, 20] g g56 := by rw [eg56]; exact Kq.upF hK51 (by decide)
              refine m_aload_n C dX9_cut_80 0 rfl ?_
              refine m_iconst C (1 : Int32) dX9_cut_81 (by decide) ?_
              refine m_put (rf := "") C 17 rfl gd9 (by decide) tyX9 tyX9_ok nmX9 rfl (tyX9_ok 17 (by decide)) (by decide) (by decide) sh_34 rfl dX9_cut_82 lk_X9_206 ?_
              refine m_mem (fun g59 eg59 => ?_)
              have hI60 : Inv g59 := by rw [eg59]; exact hI57.up (ok_mshut (Or.inr rfl))
              have hK61 : Kq [49] [17, 20] g g59 := by rw [eg59]; exact Kq.upF hK58 (by decide)
              refine m_iload_n C dX9_cut_85 2 rfl ?_
              exact m_iret C dX9_cut_86 ⟨_, rfl, hI60, hK61, (by omega)⟩
            · skip
              have th55 := i_nle h55
              refine m_aload_n C dX9_cut_62 0 rfl ?_
              refine m_getr (rf := "") C 22 rfl gd9 (by decide) sh_34 rfl dX9_cut_63 lk_X9_53 ?_
              refine m_iload_n C dX9_cut_66 3 rfl ?_
              refine m_iconst C (0 : Int32) dX9_cut_67 (by decide) ?_
              refine m_iast C sh_49 (i_in (by omega) (by omega)) dX9_cut_68 ?_
              refine m_mem (fun g62 eg62 => ?_)
              have hI63 : Inv g62 := by rw [eg62]; exact hI50.up (ok_any (by decide))
              have hK64 : Kq [49] [17, 20] g g62 := by rw [eg62]; exact Kq.upA hK51 (by decide) (by decide)
              have ev65 : g62 34 20 = g49 34 20 := by rw [eg62]; exact up2_nei (Or.inl (by decide))
              have tev65 := congrArg Int32.toInt ev65
              obtain ⟨x66, ex66⟩ : ∃ z : Int32, z = x48 + Int32.ofInt 1 := ⟨_, rfl⟩
              have t67 : (x48 + (Int32.ofInt 1)).toInt = x48.toInt + (1 : Int) := i_add rfl (by decide) (by omega) (by omega)
              have t68 : x66.toInt = (x48.toInt + (1 : Int)) := (congrArg Int32.toInt ex66).trans t67
              refine m_iinc C x66 [(3, .int x66), (0, .ref (aL X 34)), (1, .int n0), (2, .int x44)] dX9_cut_69 (q := 3) rfl ex66.symm (by decide) rfl ?_
              refine m_goto C 54 dX9_cut_72 (by decide) ?_
              refine m_lv [1, 2, 3, 0] rfl ?_
              exact ih54 x66 g62 (by omega) hI63 hK64 (by omega)
        refine m_lv [2, 3, 1, 0] rfl ?_
        exact L54 (((1021 - x44.toInt).toNat) + 1) x44 g (Nat.lt_succ_self _) hI Kq.rf (by omega)
    · skip
      have th9 := i_ne h9
      rw [show (0 : Int32).toInt = 0 by decide] at th9
      refine m_bipush C (-3 : Int32) dX9_cut_22 (by decide) ?_
      exact m_iret C dX9_cut_24 ⟨_, rfl, hI, Kq.rf, (by have hl : (-3 : Int32).toInt = -3 := (by decide); omega)⟩
  · skip
    subst g5
    refine m_if_ne C 15 dX9_cut_9 (by decide) (fun h => absurd (by decide) h) (fun _ => ?_)
    refine m_bipush C (-2 : Int32) dX9_cut_12 (by decide) ?_
    exact m_iret C dX9_cut_14 ⟨_, rfl, hI, Kq.rf, (by have hl : (-2 : Int32).toInt = -2 := (by decide); omega)⟩
set_option maxRecDepth 20000 in
set_option maxHeartbeats 4000000 in
theorem c_X9_root_f (l : Launch) {X : XT} (hX : Lok X) (g : Mem) (n0 : Int32) (k : Int32) (hI : Inv g) (hF : FM g) (hR : ∀ t, t < 64 → g 35 t = vR t) : Ctr l X yX9_root cX9_root 3 (some .int) (rmD 6) [.ref (aL X 34), .int n0, .int k] g (pI (fun r g2 => Inv g2 ∧ Kq [36, 37, 38, 39, 50, 51, 52] [4] g g2 ∧ ((n0.toInt = 0 → hs_A 0 0 0 k r) ∧ (n0.toInt ≠ 0 → r.toInt = -2)))) := by
  refine Ctr.of (lv := [(0, .ref (aL X 34)), (1, .int n0), (2, .int k)]) hX (by decide) rfl (Nat.le_of_ble_eq_true rfl) ?_
  intro p e s m below meth c C
  have zf0 := hF.t 34 16 (by decide)
  have zf1 := hF.t 34 17 (by decide)
  have zf2 := hF.t 34 20 (by decide)
  have zf3 := hF.t 34 21 (by decide)
  have zf4 := hF.t 34 26 (by decide)
  refine m_iload_n C dX9_root_0 1 rfl ?_
  refine m_i2l C dX9_root_1 ?_
  refine m_lconst C (0 : Int64) dX9_root_2 (by decide) ?_
  refine m_aload_n C dX9_root_3 0 rfl ?_
  refine m_invV C cal_X9_entriesNow sh_34 rfl (c_X9_entriesNow l hX g  hI) lk_X9_262 im_X9_entriesNow se_X9_entriesNow (by decide) rfl rfl (Nat.le_of_ble_eq_true rfl) dX9_root_4 ⟨Nat.le_refl _, Nat.le_refl _⟩ (rI fun r1 g2 q3 => ?_)
  obtain ⟨eg2, p4⟩ := q3
  subst g2
  refine m_i2l C dX9_root_7 ?_
  have t5 : (n0.toInt64).toInt = n0.toInt := i2l_t _
  have t6 : (0 : Int64).toInt = 0 := by decide
  have t7 : (r1.toInt64).toInt = r1.toInt := i2l_t _
  refine m_invS C cal_X9_in (c_X9_in l hX g (n0.toInt64) (0 : Int64) (r1.toInt64) ) lk_X9_185 st_X9_in (by decide) rfl rfl (Nat.le_of_ble_eq_true rfl) dX9_root_8 ⟨Nat.le_refl _, Nat.le_refl _⟩ (rI fun r8 g9 q10 => ?_)
  obtain ⟨eg9, ⟨rfl, h11⟩ | ⟨rfl, h11⟩⟩ := q10
  · skip
    subst g9
    refine m_if_eq C 26 dX9_root_11 (by decide) (fun h => absurd h (by decide)) (fun _ => ?_)
    refine m_iload_n C dX9_root_14 2 rfl ?_
    refine m_i2l C dX9_root_15 ?_
    refine m_lconst C (0 : Int64) dX9_root_16 (by decide) ?_
    refine m_ldc2 C (31) dX9_root_17 lk_X9_265 ?_
    have t12 : (k.toInt64).toInt = k.toInt := i2l_t _
    have t13 : (0 : Int64).toInt = 0 := by decide
    have t14 : (31 : Int64).toInt = 31 := by decide
    refine m_invS C cal_X9_in (c_X9_in l hX g (k.toInt64) (0 : Int64) (31 : Int64) ) lk_X9_185 st_X9_in (by decide) rfl rfl (Nat.le_of_ble_eq_true rfl) dX9_root_20 ⟨Nat.le_refl _, Nat.le_refl _⟩ (rI fun r15 g16 q17 => ?_)
    obtain ⟨eg16, ⟨rfl, h18⟩ | ⟨rfl, h18⟩⟩ := q17
    · skip
      subst g16
      refine m_if_ne C 29 dX9_root_23 (by decide) (fun _ => ?_) (fun h => absurd h (by decide))
      refine m_aload_n C dX9_root_29 0 rfl ?_
      refine m_iconst C (0 : Int32) dX9_root_30 (by decide) ?_
      refine m_iload_n C dX9_root_31 1 rfl ?_
      have t19 : (0 : Int32).toInt = 0 := by decide
      refine m_invV C cal_X9_rootOf sh_34 rfl (c_X9_rootOf_f l hX g (0 : Int32) n0 hI (by omega) hR) lk_X9_277 im_X9_rootOf se_X9_rootOf (by decide) rfl rfl (Nat.le_of_ble_eq_true rfl) dX9_root_32 ⟨Nat.le_refl _, Nat.le_refl _⟩ (rV fun g21 q22 => ?_)
      obtain ⟨hI23, hK24, p25⟩ := q22
      have hK26 : Kq [36, 37, 38, 39, 50, 51, 52] [4] g g21 := (Kq.rf).tr hK24 (by decide) (by decide)
      refine m_aload_n C dX9_root_35 0 rfl ?_
      refine m_getr (rf := "") C 5 rfl gd9 (by decide) sh_34 rfl dX9_root_36 lk_X9_22 ?_
      refine m_iload_n C dX9_root_39 2 rfl ?_
      refine m_iald C sh_39 (i_in (by omega) (by omega)) dX9_root_40 ?_
      exact m_iret C dX9_root_41 ⟨_, rfl, hI23, hK26, ⟨fun _ => hs_goodR (by decide) (by decide) (by omega) (by omega) p25 rfl, fun _ => False.elim (by omega)⟩⟩
    · skip
      subst g16
      refine m_if_ne C 29 dX9_root_23 (by decide) (fun h => absurd (by decide) h) (fun _ => ?_)
      refine m_bipush C (-2 : Int32) dX9_root_26 (by decide) ?_
      exact m_iret C dX9_root_28 ⟨_, rfl, hI, Kq.rf, ⟨fun _ => hs_bad (by have hl : (0 : Int32).toInt = 0 := (by decide); omega), fun _ => by decide⟩⟩
  · skip
    subst g9
    refine m_if_eq C 26 dX9_root_11 (by decide) (fun _ => ?_) (fun h => absurd (by decide) h)
    refine m_bipush C (-2 : Int32) dX9_root_26 (by decide) ?_
    exact m_iret C dX9_root_28 ⟨_, rfl, hI, Kq.rf, ⟨fun _ => hs_bad (by have hl : (0 : Int32).toInt = 0 := (by decide); omega), fun _ => by decide⟩⟩
set_option maxRecDepth 20000 in
set_option maxHeartbeats 4000000 in
theorem c_X9_sync_f (l : Launch) {X : XT} (hX : Lok X) (g : Mem)  (hI : Inv g) (hF : FM g) : Ctr l X yX9_sync cX9_sync 1 (some .int) (rmD 0) [.ref (aL X 34)] g (pI (fun r g2 => Inv g2 ∧ Kq [] [21] g g2 ∧ (r.toInt = 0))) := by
  refine Ctr.of (lv := [(0, .ref (aL X 34))]) hX (by decide) rfl (Nat.le_of_ble_eq_true rfl) ?_
  intro p e s m below meth c C
  have zf0 := hF.t 34 16 (by decide)
  have zf1 := hF.t 34 17 (by decide)
  have zf2 := hF.t 34 20 (by decide)
  have zf3 := hF.t 34 21 (by decide)
  have zf4 := hF.t 34 26 (by decide)
  refine m_aload_n C dX9_sync_0 0 rfl ?_
  refine m_geti (rf := "") C 17 rfl gd9 (by decide) sh_34 rfl dX9_sync_1 lk_X9_206 ?_
  have z1 := hF.t 34 17 (by decide)
  refine m_if_eq C 10 dX9_sync_4 (by decide) (fun h2 => ?_) (fun h2 => ?_)
  · skip
    have th2 := i_eq h2
    rw [show (0 : Int32).toInt = 0 by decide] at th2
    refine m_aload_n C dX9_sync_10 0 rfl ?_
    refine m_aload_n C dX9_sync_11 0 rfl ?_
    refine m_geti (rf := "") C 20 rfl gd9 (by decide) sh_34 rfl dX9_sync_12 lk_X9_220 ?_
    have r3 := iv_mwrt hI
    have z4 := hF.t 34 20 (by decide)
    refine m_put (rf := "") C 21 rfl gd9 (by decide) tyX9 tyX9_ok nmX9 rfl (tyX9_ok 21 (by decide)) rfl rfl sh_34 rfl dX9_sync_15 lk_X9_299 ?_
    refine m_mem (fun g5 eg5 => ?_)
    have hI6 : Inv g5 := by rw [eg5]; exact hI.up (ok_msafe (by omega) (by omega))
    have hK7 : Kq [] [21] g g5 := by rw [eg5]; exact Kq.upF Kq.rf (by decide)
    have ev8 : g5 34 17 = g 34 17 := by rw [eg5]; exact up2_nei (Or.inr (by decide))
    have tev8 := congrArg Int32.toInt ev8
    have ev9 : g5 34 20 = g 34 20 := by rw [eg5]; exact up2_nei (Or.inr (by decide))
    have tev9 := congrArg Int32.toInt ev9
    have w10 : g5 34 21 = g 34 20 := by rw [eg5]; exact up2_self
    have tw10 := congrArg Int32.toInt w10
    refine m_aload_n C dX9_sync_18 0 rfl ?_
    refine m_geti (rf := "") C 21 rfl gd9 (by decide) sh_34 rfl dX9_sync_19 lk_X9_299 ?_
    have r11 := iv_msafe hI6
    have z12 := hF.t 34 21 (by decide)
    exact m_iret C dX9_sync_22 ⟨_, rfl, hI6, hK7, (by omega)⟩
  · skip
    have th2 := i_ne h2
    rw [show (0 : Int32).toInt = 0 by decide] at th2
    refine m_bipush C (-3 : Int32) dX9_sync_7 (by decide) ?_
    exact m_iret C dX9_sync_9 ⟨_, rfl, hI, Kq.rf, (by have hl : (-3 : Int32).toInt = -3 := (by decide); omega)⟩
set_option maxRecDepth 20000 in
set_option maxHeartbeats 4000000 in
theorem c_X9_judgeSteps_f (l : Launch) {X : XT} (hX : Lok X) (g : Mem) (m0 : Int32) (n0 : Int32) (o : Int32) (q : Int32) (hI : Inv g) (hF : FM g) : Ctr l X yX9_judgeSteps cX9_judgeSteps 10 (some .int) (rmD 4) [.ref (aL X 34), .int m0, .int n0, .int o, .int q] g (pI (fun r g2 => Inv g2 ∧ Kq [36, 37, 38, 39, 57, 58, 59] [4] g g2 ∧ (((0 ≤ m0.toInt ∧ m0.toInt ≤ 60 ∧ 0 ≤ n0.toInt ∧ n0.toInt ≤ 60 ∧ 0 ≤ o.toInt ∧ o.toInt ≤ 3 ∧ 0 ≤ q.toInt ∧ q.toInt ≤ 3) ∧ ((r.toInt = 1 ∧ m0.toInt = n0.toInt ∧ 1 ≤ m0.toInt) ∨ (r.toInt = 0 ∧ ¬ (m0.toInt = n0.toInt ∧ 1 ≤ m0.toInt)))) ∨ (r.toInt = -2 ∧ ¬ (0 ≤ m0.toInt ∧ m0.toInt ≤ 60 ∧ 0 ≤ n0.toInt ∧ n0.toInt ≤ 60 ∧ 0 ≤ o.toInt ∧ o.toInt ≤ 3 ∧ 0 ≤ q.toInt ∧ q.toInt ≤ 3))))) := by
  refine Ctr.of (lv := [(0, .ref (aL X 34)), (1, .int m0), (2, .int n0), (3, .int o), (4, .int q)]) hX (by decide) rfl (Nat.le_of_ble_eq_true rfl) ?_
  intro p e s m below meth c C
  have zf0 := hF.t 34 16 (by decide)
  have zf1 := hF.t 34 17 (by decide)
  have zf2 := hF.t 34 20 (by decide)
  have zf3 := hF.t 34 21 (by decide)
  have zf4 := hF.t 34 26 (by decide)
  refine m_iload_n C dX9_judgeSteps_0 1 rfl ?_
  refine m_i2l C dX9_judgeSteps_1 ?_
  refine m_lconst C (0 : Int64) dX9_judgeSteps_2 (by decide) ?_
  refine m_ldc2 C (60) dX9_judgeSteps_3 lk_X9_293 ?_
  have t1 : (m0.toInt64).toInt = m0.toInt := i2l_t _
  have t2 : (0 : Int64).toInt = 0 := by decide
  have t3 : (60 : Int64).toInt = 60 := by decide
  refine m_invS C cal_X9_in (c_X9_in l hX g (m0.toInt64) (0 : Int64) (60 : Int64) ) lk_X9_185 st_X9_in (by decide) rfl rfl (Nat.le_of_ble_eq_true rfl) dX9_judgeSteps_6 ⟨Nat.le_refl _, Nat.le_refl _⟩ (rI fun r4 g5 q6 => ?_)
  obtain ⟨eg5, ⟨rfl, h7⟩ | ⟨rfl, h7⟩⟩ := q6
  · skip
    subst g5
    refine m_if_eq C 49 dX9_judgeSteps_9 (by decide) (fun h => absurd h (by decide)) (fun _ => ?_)
    refine m_iload_n C dX9_judgeSteps_12 2 rfl ?_
    refine m_i2l C dX9_judgeSteps_13 ?_
    refine m_lconst C (0 : Int64) dX9_judgeSteps_14 (by decide) ?_
    refine m_ldc2 C (60) dX9_judgeSteps_15 lk_X9_293 ?_
    have t8 : (n0.toInt64).toInt = n0.toInt := i2l_t _
    have t9 : (0 : Int64).toInt = 0 := by decide
    have t10 : (60 : Int64).toInt = 60 := by decide
    refine m_invS C cal_X9_in (c_X9_in l hX g (n0.toInt64) (0 : Int64) (60 : Int64) ) lk_X9_185 st_X9_in (by decide) rfl rfl (Nat.le_of_ble_eq_true rfl) dX9_judgeSteps_18 ⟨Nat.le_refl _, Nat.le_refl _⟩ (rI fun r11 g12 q13 => ?_)
    obtain ⟨eg12, ⟨rfl, h14⟩ | ⟨rfl, h14⟩⟩ := q13
    · skip
      subst g12
      refine m_if_eq C 49 dX9_judgeSteps_21 (by decide) (fun h => absurd h (by decide)) (fun _ => ?_)
      refine m_iload_n C dX9_judgeSteps_24 3 rfl ?_
      refine m_i2l C dX9_judgeSteps_25 ?_
      refine m_lconst C (0 : Int64) dX9_judgeSteps_26 (by decide) ?_
      refine m_ldc2 C (3) dX9_judgeSteps_27 lk_X9_234 ?_
      have t15 : (o.toInt64).toInt = o.toInt := i2l_t _
      have t16 : (0 : Int64).toInt = 0 := by decide
      have t17 : (3 : Int64).toInt = 3 := by decide
      refine m_invS C cal_X9_in (c_X9_in l hX g (o.toInt64) (0 : Int64) (3 : Int64) ) lk_X9_185 st_X9_in (by decide) rfl rfl (Nat.le_of_ble_eq_true rfl) dX9_judgeSteps_30 ⟨Nat.le_refl _, Nat.le_refl _⟩ (rI fun r18 g19 q20 => ?_)
      obtain ⟨eg19, ⟨rfl, h21⟩ | ⟨rfl, h21⟩⟩ := q20
      · skip
        subst g19
        refine m_if_eq C 49 dX9_judgeSteps_33 (by decide) (fun h => absurd h (by decide)) (fun _ => ?_)
        refine m_iload C dX9_judgeSteps_36 4 rfl ?_
        refine m_i2l C dX9_judgeSteps_38 ?_
        refine m_lconst C (0 : Int64) dX9_judgeSteps_39 (by decide) ?_
        refine m_ldc2 C (3) dX9_judgeSteps_40 lk_X9_234 ?_
        have t22 : (q.toInt64).toInt = q.toInt := i2l_t _
        have t23 : (0 : Int64).toInt = 0 := by decide
        have t24 : (3 : Int64).toInt = 3 := by decide
        refine m_invS C cal_X9_in (c_X9_in l hX g (q.toInt64) (0 : Int64) (3 : Int64) ) lk_X9_185 st_X9_in (by decide) rfl rfl (Nat.le_of_ble_eq_true rfl) dX9_judgeSteps_43 ⟨Nat.le_refl _, Nat.le_refl _⟩ (rI fun r25 g26 q27 => ?_)
        obtain ⟨eg26, ⟨rfl, h28⟩ | ⟨rfl, h28⟩⟩ := q27
        · skip
          subst g26
          refine m_if_ne C 52 dX9_judgeSteps_46 (by decide) (fun _ => ?_) (fun h => absurd h (by decide))
          refine m_iload_n C dX9_judgeSteps_52 1 rfl ?_
          refine m_i2l C dX9_judgeSteps_53 ?_
          refine m_lconst C (1 : Int64) dX9_judgeSteps_54 (by decide) ?_
          refine m_iload_n C dX9_judgeSteps_55 2 rfl ?_
          refine m_i2l C dX9_judgeSteps_56 ?_
          have t29 : (m0.toInt64).toInt = m0.toInt := i2l_t _
          have t30 : (1 : Int64).toInt = 1 := by decide
          have t31 : (n0.toInt64).toInt = n0.toInt := i2l_t _
          refine m_invS C cal_X9_in (c_X9_in l hX g (m0.toInt64) (1 : Int64) (n0.toInt64) ) lk_X9_185 st_X9_in (by decide) rfl rfl (Nat.le_of_ble_eq_true rfl) dX9_judgeSteps_57 ⟨Nat.le_refl _, Nat.le_refl _⟩ (rI fun r32 g33 q34 => ?_)
          obtain ⟨eg33, ⟨rfl, h35⟩ | ⟨rfl, h35⟩⟩ := q34
          · skip
            subst g33
            refine m_if_ne C 65 dX9_judgeSteps_60 (by decide) (fun _ => ?_) (fun h => absurd h (by decide))
            refine m_iload_n C dX9_judgeSteps_65 1 rfl ?_
            refine m_iload_n C dX9_judgeSteps_66 2 rfl ?_
            refine m_icmp_ne C 106 dX9_judgeSteps_67 (by decide) (fun h36 => ?_) (fun h36 => ?_)
            · skip
              have th36 := i_ne h36
              refine m_iload_n C dX9_judgeSteps_106 1 rfl ?_
              refine m_iload_n C dX9_judgeSteps_107 1 rfl ?_
              refine m_iconst C (1 : Int32) dX9_judgeSteps_108 (by decide) ?_
              refine m_isub C dX9_judgeSteps_109 ?_
              refine m_iand C dX9_judgeSteps_110 ?_
              refine m_if_ne C 118 dX9_judgeSteps_111 (by decide) (fun h37 => ?_) (fun h37 => ?_)
              · skip
                have th37 := i_ne h37
                rw [show (0 : Int32).toInt = 0 by decide] at th37
                refine m_iconst C (0 : Int32) dX9_judgeSteps_118 (by decide) ?_
                refine m_istore C [(5, .int (0 : Int32)), (0, .ref (aL X 34)), (1, .int m0), (2, .int n0), (3, .int o), (4, .int q)] dX9_judgeSteps_119 (by decide) rfl ?_
                refine m_iconst C (0 : Int32) dX9_judgeSteps_121 (by decide) ?_
                refine m_istore C [(6, .int (0 : Int32)), (5, .int (0 : Int32)), (0, .ref (aL X 34)), (1, .int m0), (2, .int n0), (3, .int o), (4, .int q)] dX9_judgeSteps_122 (by decide) rfl ?_
                have L124 : ∀ (n124 : Nat) (x40 : Int32) (g41 : Mem), (33 - x40.toInt).toNat < n124 → Inv g41 → Kq [36, 37, 38, 39, 57, 58, 59] [4] g g41 → 0 ≤ x40.toInt ∧ x40.toInt ≤ 32 → Wm X p l e (rmD 4) s m ([.ref (aL X 34), .int m0, .int n0, .int o, .int q] : List Value).toArray below meth c 10 0 0 (MQ below (cQ X (pI (fun r g2 => Inv g2 ∧ Kq [36, 37, 38, 39, 57, 58, 59] [4] g g2 ∧ (((0 ≤ m0.toInt ∧ m0.toInt ≤ 60 ∧ 0 ≤ n0.toInt ∧ n0.toInt ≤ 60 ∧ 0 ≤ o.toInt ∧ o.toInt ≤ 3 ∧ 0 ≤ q.toInt ∧ q.toInt ≤ 3) ∧ ((r.toInt = 1 ∧ m0.toInt = n0.toInt ∧ 1 ≤ m0.toInt) ∨ (r.toInt = 0 ∧ ¬ (m0.toInt = n0.toInt ∧ 1 ≤ m0.toInt)))) ∨ (r.toInt = -2 ∧ ¬ (0 ≤ m0.toInt ∧ m0.toInt ≤ 60 ∧ 0 ≤ n0.toInt ∧ n0.toInt ≤ 60 ∧ 0 ≤ o.toInt ∧ o.toInt ≤ 3 ∧ 0 ≤ q.toInt ∧ q.toInt ≤ 3)))))) ([.ref (aL X 34), .int m0, .int n0, .int o, .int q] : List Value).toArray s 0 0 (Ab X)) g41 124 [(0, .ref (aL X 34)), (1, .int m0), (2, .int n0), (3, .int o), (4, .int q), (5, .int (0 : Int32)), (6, .int x40)] [] := by
                  intro n124
                  induction n124 with
                  | zero => intro x40 g41 hm; exact absurd hm (Nat.not_lt_zero _)
                  | succ n124 ih124 =>
                    intro x40 g41 hm124 hI42 hK43 i44
                    obtain ⟨i44a, i44b⟩ := i44
                    refine m_iload C dX9_judgeSteps_124 6 rfl ?_
                    refine m_bipush C (32 : Int32) dX9_judgeSteps_126 (by decide) ?_
                    refine m_icmp_ge C 156 dX9_judgeSteps_128 (by decide) (fun h45 => ?_) (fun h45 => ?_)
                    · skip
                      have th45 := i_le h45
                      rw [show (32 : Int32).toInt = 32 by decide] at th45
                      refine m_iconst C (0 : Int32) dX9_judgeSteps_156 (by decide) ?_
                      refine m_istore C [(6, .int (0 : Int32)), (0, .ref (aL X 34)), (1, .int m0), (2, .int n0), (3, .int o), (4, .int q), (5, .int (0 : Int32))] dX9_judgeSteps_157 (by decide) rfl ?_
                      have L159 : ∀ (n159 : Nat) (x47 : Int32) (g48 : Mem), (257 - x47.toInt).toNat < n159 → Inv g48 → Kq [36, 37, 38, 39, 57, 58, 59] [4] g g48 → 0 ≤ x47.toInt ∧ x47.toInt ≤ 256 → Wm X p l e (rmD 4) s m ([.ref (aL X 34), .int m0, .int n0, .int o, .int q] : List Value).toArray below meth c 10 0 0 (MQ below (cQ X (pI (fun r g2 => Inv g2 ∧ Kq [36, 37, 38, 39, 57, 58, 59] [4] g g2 ∧ (((0 ≤ m0.toInt ∧ m0.toInt ≤ 60 ∧ 0 ≤ n0.toInt ∧ n0.toInt ≤ 60 ∧ 0 ≤ o.toInt ∧ o.toInt ≤ 3 ∧ 0 ≤ q.toInt ∧ q.toInt ≤ 3) ∧ ((r.toInt = 1 ∧ m0.toInt = n0.toInt ∧ 1 ≤ m0.toInt) ∨ (r.toInt = 0 ∧ ¬ (m0.toInt = n0.toInt ∧ 1 ≤ m0.toInt)))) ∨ (r.toInt = -2 ∧ ¬ (0 ≤ m0.toInt ∧ m0.toInt ≤ 60 ∧ 0 ≤ n0.toInt ∧ n0.toInt ≤ 60 ∧ 0 ≤ o.toInt ∧ o.toInt ≤ 3 ∧ 0 ≤ q.toInt ∧ q.toInt ≤ 3)))))) ([.ref (aL X 34), .int m0, .int n0, .int o, .int q] : List Value).toArray s 0 0 (Ab X)) g48 159 [(0, .ref (aL X 34)), (1, .int m0), (2, .int n0), (3, .int o), (4, .int q), (5, .int (0 : Int32)), (6, .int x47)] [] := by
                        intro n159
                        induction n159 with
                        | zero => intro x47 g48 hm; exact absurd hm (Nat.not_lt_zero _)
                        | succ n159 ih159 =>
                          intro x47 g48 hm159 hI49 hK50 i51
                          obtain ⟨i51a, i51b⟩ := i51
                          refine m_iload C dX9_judgeSteps_159 6 rfl ?_
                          refine m_bipush C (32 : Int32) dX9_judgeSteps_161 (by decide) ?_
                          refine m_aload_n C dX9_judgeSteps_163 0 rfl ?_
                          refine m_geti (rf := "") C 26 rfl gd9 (by decide) sh_34 rfl dX9_judgeSteps_164 lk_X9_281 ?_
                          have r52 := iv_pmany hI49
                          have ev53 : g48 34 26 = g 34 26 := hK50.2 26 (by decide)
                          have tev53 := congrArg Int32.toInt ev53
                          have z54 := hF.t 34 26 (by decide)
                          refine m_imul C dX9_judgeSteps_167 ?_
                          have t55 : ((32 : Int32) * (g48 34 26)).toInt = (32 : Int) * (g48 34 26).toInt := i_mul (by decide) rfl (by omega) (by omega)
                          refine m_icmp_ge C 197 dX9_judgeSteps_168 (by decide) (fun h56 => ?_) (fun h56 => ?_)
                          · skip
                            have th56 := i_le h56
                            refine m_iload C dX9_judgeSteps_197 5 rfl ?_
                            refine m_aload_n C dX9_judgeSteps_199 0 rfl ?_
                            refine m_geti (rf := "") C 26 rfl gd9 (by decide) sh_34 rfl dX9_judgeSteps_200 lk_X9_281 ?_
                            have r57 := iv_pmany hI49
                            have ev58 : g48 34 26 = g 34 26 := hK50.2 26 (by decide)
                            have tev58 := congrArg Int32.toInt ev58
                            have z59 := hF.t 34 26 (by decide)
                            refine m_iadd C dX9_judgeSteps_203 ?_
                            refine m_name (fun x60 ex60 => ?_)
                            have t61 : ((0 : Int32) + (g48 34 26)).toInt = (0 : Int) + (g48 34 26).toInt := i_add (by decide) rfl (by omega) (by omega)
                            have t62 : x60.toInt = ((0 : Int) + (g48 34 26).toInt) := (congrArg Int32.toInt ex60).trans t61
                            refine m_istore C [(6, .int x60), (0, .ref (aL X 34)), (1, .int m0), (2, .int n0), (3, .int o), (4, .int q), (5, .int (0 : Int32))] dX9_judgeSteps_204 (by decide) rfl ?_
                            refine m_iload C dX9_judgeSteps_206 0 rfl ?_
                            refine m_if_ne C 213 dX9_judgeSteps_208 (by decide) (fun h63 => ?_) (fun h63 => ?_)
                            · skip
                              have th63 := i_ne h63
                              rw [show (0 : Int32).toInt = 0 by decide] at th63
                              refine m_iload_n C dX9_judgeSteps_213 2 rfl ?_
                              refine m_iconst C (1 : Int32) dX9_judgeSteps_214 (by decide) ?_
                              refine m_isub C dX9_judgeSteps_215 ?_
                              refine m_name (fun x64 ex64 => ?_)
                              have t65 : (m0 - (1 : Int32)).toInt = m0.toInt - (1 : Int) := i_sub rfl (by decide) (by omega) (by omega)
                              have t66 : x64.toInt = (m0.toInt - (1 : Int)) := (congrArg Int32.toInt ex64).trans t65
                              refine m_istore C [(7, .int x64), (6, .int x60), (0, .ref (aL X 34)), (1, .int m0), (2, .int n0), (3, .int o), (4, .int q), (5, .int (0 : Int32))] dX9_judgeSteps_216 (by decide) rfl ?_
                              refine m_iload_n C dX9_judgeSteps_218 4 rfl ?_
                              refine m_iconst C (1 : Int32) dX9_judgeSteps_219 (by decide) ?_
                              refine m_isub C dX9_judgeSteps_220 ?_
                              refine m_name (fun x67 ex67 => ?_)
                              have t68 : (n0 - (1 : Int32)).toInt = n0.toInt - (1 : Int) := i_sub rfl (by decide) (by omega) (by omega)
                              have t69 : x67.toInt = (n0.toInt - (1 : Int)) := (congrArg Int32.toInt ex67).trans t68
                              refine m_istore C [(8, .int x67), (7, .int x64), (6, .int x60), (0, .ref (aL X 34)), (1, .int m0), (2, .int n0), (3, .int o), (4, .int q), (5, .int (0 : Int32))] dX9_judgeSteps_221 (by decide) rfl ?_
                              have L223 : ∀ (n223 : Nat) (x70 : Int32) (x71 : Int32) (g72 : Mem), (x70.toInt).toNat < n223 → Inv g72 → Kq [36, 37, 38, 39, 57, 58, 59] [4] g g72 → 0 ≤ x70.toInt ∧ x70.toInt < x71.toInt → x71.toInt ≤ 60 → Wm X p l e (rmD 4) s m ([.ref (aL X 34), .int m0, .int n0, .int o, .int q] : List Value).toArray below meth c 10 0 0 (MQ below (cQ X (pI (fun r g2 => Inv g2 ∧ Kq [36, 37, 38, 39, 57, 58, 59] [4] g g2 ∧ (((0 ≤ m0.toInt ∧ m0.toInt ≤ 60 ∧ 0 ≤ n0.toInt ∧ n0.toInt ≤ 60 ∧ 0 ≤ o.toInt ∧ o.toInt ≤ 3 ∧ 0 ≤ q.toInt ∧ q.toInt ≤ 3) ∧ ((r.toInt = 1 ∧ m0.toInt = n0.toInt ∧ 1 ≤ m0.toInt) ∨ (r.toInt = 0 ∧ ¬ (m0.toInt = n0.toInt ∧ 1 ≤ m0.toInt)))) ∨ (r.toInt = -2 ∧ ¬ (0 ≤ m0.toInt ∧ m0.toInt ≤ 60 ∧ 0 ≤ n0.toInt ∧ n0.toInt ≤ 60 ∧ 0 ≤ o.toInt ∧ o.toInt ≤ 3 ∧ 0 ≤ q.toInt ∧ q.toInt ≤ 3)))))) ([.ref (aL X 34), .int m0, .int n0, .int o, .int q] : List Value).toArray s 0 0 (Ab X)) g72 223 [(0, .ref (aL X 34)), (1, .int m0), (2, .int n0), (3, .int o), (4, .int q), (5, .int (0 : Int32)), (6, .int x60), (7, .int x70), (8, .int x71)] [] := by
                                intro n223
                                induction n223 with
                                | zero => intro x70 x71 g72 hm; exact absurd hm (Nat.not_lt_zero _)
                                | succ n223 ih223 =>
                                  intro x70 x71 g72 hm223 hI73 hK74 i75 i76
                                  obtain ⟨i75a, i75b⟩ := i75
                                  refine m_iload C dX9_judgeSteps_223 7 rfl ?_
                                  refine m_iconst C (2 : Int32) dX9_judgeSteps_225 (by decide) ?_
                                  refine m_irem C dX9_judgeSteps_226 (by decide) ?_
                                  refine m_iconst C (1 : Int32) dX9_judgeSteps_227 (by decide) ?_
                                  have t77 : (x70 - x70 / (2 : Int32) * (2 : Int32)).toInt = x70.toInt % 2 := i_rem rfl (by omega) (by decide) (by decide)
                                  refine m_icmp_ne C 246 dX9_judgeSteps_228 (by decide) (fun h78 => ?_) (fun h78 => ?_)
                                  · skip
                                    have th78 := i_ne h78
                                    rw [show (1 : Int32).toInt = 1 by decide] at th78
                                    refine m_iconst C (0 : Int32) dX9_judgeSteps_246 (by decide) ?_
                                    refine m_istore C [(9, .int (0 : Int32)), (0, .ref (aL X 34)), (1, .int m0), (2, .int n0), (3, .int o), (4, .int q), (5, .int (0 : Int32)), (6, .int x60), (7, .int x70), (8, .int x71)] dX9_judgeSteps_247 (by decide) rfl ?_
                                    have L249 : ∀ (n249 : Nat) (x80 : Int32) (g81 : Mem), (33 - x80.toInt).toNat < n249 → Inv g81 → Kq [36, 37, 38, 39, 57, 58, 59] [4] g g81 → 0 ≤ x80.toInt ∧ x80.toInt ≤ 32 → Wm X p l e (rmD 4) s m ([.ref (aL X 34), .int m0, .int n0, .int o, .int q] : List Value).toArray below meth c 10 0 0 (MQ below (cQ X (pI (fun r g2 => Inv g2 ∧ Kq [36, 37, 38, 39, 57, 58, 59] [4] g g2 ∧ (((0 ≤ m0.toInt ∧ m0.toInt ≤ 60 ∧ 0 ≤ n0.toInt ∧ n0.toInt ≤ 60 ∧ 0 ≤ o.toInt ∧ o.toInt ≤ 3 ∧ 0 ≤ q.toInt ∧ q.toInt ≤ 3) ∧ ((r.toInt = 1 ∧ m0.toInt = n0.toInt ∧ 1 ≤ m0.toInt) ∨ (r.toInt = 0 ∧ ¬ (m0.toInt = n0.toInt ∧ 1 ≤ m0.toInt)))) ∨ (r.toInt = -2 ∧ ¬ (0 ≤ m0.toInt ∧ m0.toInt ≤ 60 ∧ 0 ≤ n0.toInt ∧ n0.toInt ≤ 60 ∧ 0 ≤ o.toInt ∧ o.toInt ≤ 3 ∧ 0 ≤ q.toInt ∧ q.toInt ≤ 3)))))) ([.ref (aL X 34), .int m0, .int n0, .int o, .int q] : List Value).toArray s 0 0 (Ab X)) g81 249 [(0, .ref (aL X 34)), (1, .int m0), (2, .int n0), (3, .int o), (4, .int q), (5, .int (0 : Int32)), (6, .int x60), (7, .int x70), (8, .int x71), (9, .int x80)] [] := by
                                      intro n249
                                      induction n249 with
                                      | zero => intro x80 g81 hm; exact absurd hm (Nat.not_lt_zero _)
                                      | succ n249 ih249 =>
                                        intro x80 g81 hm249 hI82 hK83 i84
                                        obtain ⟨i84a, i84b⟩ := i84
                                        refine m_iload C dX9_judgeSteps_249 9 rfl ?_
                                        refine m_bipush C (32 : Int32) dX9_judgeSteps_251 (by decide) ?_
                                        refine m_icmp_ge C 290 dX9_judgeSteps_253 (by decide) (fun h85 => ?_) (fun h85 => ?_)
                                        · skip
                                          have th85 := i_le h85
                                          rw [show (32 : Int32).toInt = 32 by decide] at th85
                                          refine m_iconst C (1 : Int32) dX9_judgeSteps_290 (by decide) ?_
                                          refine m_istore C [(9, .int (1 : Int32)), (0, .ref (aL X 34)), (1, .int m0), (2, .int n0), (3, .int o), (4, .int q), (5, .int (0 : Int32)), (6, .int x60), (7, .int x70), (8, .int x71)] dX9_judgeSteps_291 (by decide) rfl ?_
                                          have L293 : ∀ (n293 : Nat) (x87 : Int32) (g88 : Mem), (10 - x87.toInt).toNat < n293 → Inv g88 → Kq [36, 37, 38, 39, 57, 58, 59] [4] g g88 → 1 ≤ x87.toInt ∧ x87.toInt ≤ 9 → Wm X p l e (rmD 4) s m ([.ref (aL X 34), .int m0, .int n0, .int o, .int q] : List Value).toArray below meth c 10 0 0 (MQ below (cQ X (pI (fun r g2 => Inv g2 ∧ Kq [36, 37, 38, 39, 57, 58, 59] [4] g g2 ∧ (((0 ≤ m0.toInt ∧ m0.toInt ≤ 60 ∧ 0 ≤ n0.toInt ∧ n0.toInt ≤ 60 ∧ 0 ≤ o.toInt ∧ o.toInt ≤ 3 ∧ 0 ≤ q.toInt ∧ q.toInt ≤ 3) ∧ ((r.toInt = 1 ∧ m0.toInt = n0.toInt ∧ 1 ≤ m0.toInt) ∨ (r.toInt = 0 ∧ ¬ (m0.toInt = n0.toInt ∧ 1 ≤ m0.toInt)))) ∨ (r.toInt = -2 ∧ ¬ (0 ≤ m0.toInt ∧ m0.toInt ≤ 60 ∧ 0 ≤ n0.toInt ∧ n0.toInt ≤ 60 ∧ 0 ≤ o.toInt ∧ o.toInt ≤ 3 ∧ 0 ≤ q.toInt ∧ q.toInt ≤ 3)))))) ([.ref (aL X 34), .int m0, .int n0, .int o, .int q] : List Value).toArray s 0 0 (Ab X)) g88 293 [(0, .ref (aL X 34)), (1, .int m0), (2, .int n0), (3, .int o), (4, .int q), (5, .int (0 : Int32)), (6, .int x60), (7, .int x70), (8, .int x71), (9, .int x87)] [] := by
                                            intro n293
                                            induction n293 with
                                            | zero => intro x87 g88 hm; exact absurd hm (Nat.not_lt_zero _)
                                            | succ n293 ih293 =>
                                              intro x87 g88 hm293 hI89 hK90 i91
                                              obtain ⟨i91a, i91b⟩ := i91
                                              refine m_iload C dX9_judgeSteps_293 9 rfl ?_
                                              refine m_iload C dX9_judgeSteps_295 6 rfl ?_
                                              refine m_icmp_ge C 448 dX9_judgeSteps_297 (by decide) (fun h92 => ?_) (fun h92 => ?_)
                                              · skip
                                                have th92 := i_le h92
                                                refine m_iload C dX9_judgeSteps_448 8 rfl ?_
                                                refine m_if_ne C 496 dX9_judgeSteps_450 (by decide) (fun h93 => ?_) (fun h93 => ?_)
                                                · skip
                                                  have th93 := i_ne h93
                                                  rw [show (0 : Int32).toInt = 0 by decide] at th93
                                                  refine m_iconst C (0 : Int32) dX9_judgeSteps_496 (by decide) ?_
                                                  exact m_iret C dX9_judgeSteps_497 ⟨_, rfl, hI89, hK90, (by have hl : (0 : Int32).toInt = 0 := (by decide); omega)⟩
                                                · skip
                                                  have th93 := i_eq h93
                                                  rw [show (0 : Int32).toInt = 0 by decide] at th93
                                                  exact False.elim (by omega)
                                              · skip
                                                have th92 := i_nle h92
                                                exact False.elim (by omega)
                                          have t94 : (1 : Int32).toInt = 1 := by decide
                                          refine m_lv [1, 2, 3, 4, 5, 6, 7, 8, 9, 0] rfl ?_
                                          exact L293 (((10 - (1 : Int32).toInt).toNat) + 1) (1 : Int32) g81 (Nat.lt_succ_self _) hI82 hK83 (by omega)
                                        · skip
                                          have th85 := i_nle h85
                                          rw [show (32 : Int32).toInt = 32 by decide] at th85
                                          refine m_aload_n C dX9_judgeSteps_256 0 rfl ?_
                                          refine m_getr (rf := "") C 31 rfl gd9 (by decide) sh_34 rfl dX9_judgeSteps_257 lk_X9_77 ?_
                                          refine m_iload C dX9_judgeSteps_260 9 rfl ?_
                                          refine m_aload_n C dX9_judgeSteps_262 0 rfl ?_
                                          refine m_getr (rf := "") C 33 rfl gd9 (by decide) sh_34 rfl dX9_judgeSteps_263 lk_X9_83 ?_
                                          refine m_iload C dX9_judgeSteps_266 9 rfl ?_
                                          refine m_iald C sh_59 (i_in (by omega) (by omega)) dX9_judgeSteps_268 ?_
                                          refine m_iast C sh_57 (i_in (by omega) (by omega)) dX9_judgeSteps_269 ?_
                                          refine m_mem (fun g95 eg95 => ?_)
                                          have hI96 : Inv g95 := by rw [eg95]; exact hI82.up (ok_any (by decide))
                                          have hK97 : Kq [36, 37, 38, 39, 57, 58, 59] [4] g g95 := by rw [eg95]; exact Kq.upA hK83 (by decide) (by decide)
                                          refine m_aload_n C dX9_judgeSteps_270 0 rfl ?_
                                          refine m_getr (rf := "") C 32 rfl gd9 (by decide) sh_34 rfl dX9_judgeSteps_271 lk_X9_80 ?_
                                          refine m_iload C dX9_judgeSteps_274 9 rfl ?_
                                          refine m_aload_n C dX9_judgeSteps_276 0 rfl ?_
                                          refine m_getr (rf := "") C 33 rfl gd9 (by decide) sh_34 rfl dX9_judgeSteps_277 lk_X9_83 ?_
                                          refine m_iload C dX9_judgeSteps_280 9 rfl ?_
                                          refine m_iald C sh_59 (i_in (by omega) (by omega)) dX9_judgeSteps_282 ?_
                                          refine m_iast C sh_58 (i_in (by omega) (by omega)) dX9_judgeSteps_283 ?_
                                          refine m_mem (fun g98 eg98 => ?_)
                                          have hI99 : Inv g98 := by rw [eg98]; exact hI96.up (ok_any (by decide))
                                          have hK100 : Kq [36, 37, 38, 39, 57, 58, 59] [4] g g98 := by rw [eg98]; exact Kq.upA hK97 (by decide) (by decide)
                                          obtain ⟨x101, ex101⟩ : ∃ z : Int32, z = x80 + Int32.ofInt 1 := ⟨_, rfl⟩
                                          have t102 : (x80 + (Int32.ofInt 1)).toInt = x80.toInt + (1 : Int) := i_add rfl (by decide) (by omega) (by omega)
                                          have t103 : x101.toInt = (x80.toInt + (1 : Int)) := (congrArg Int32.toInt ex101).trans t102
                                          refine m_iinc C x101 [(9, .int x101), (0, .ref (aL X 34)), (1, .int m0), (2, .int n0), (3, .int o), (4, .int q), (5, .int (0 : Int32)), (6, .int x60), (7, .int x70), (8, .int x71)] dX9_judgeSteps_284 (q := 9) rfl ex101.symm (by decide) rfl ?_
                                          refine m_goto C 249 dX9_judgeSteps_287 (by decide) ?_
                                          refine m_lv [1, 2, 3, 4, 5, 6, 7, 8, 9, 0] rfl ?_
                                          exact ih249 x101 g98 (by omega) hI99 hK100 (by omega)
                                    have t104 : (0 : Int32).toInt = 0 := by decide
                                    refine m_lv [1, 2, 3, 4, 5, 6, 7, 8, 9, 0] rfl ?_
                                    exact L249 (((33 - (0 : Int32).toInt).toNat) + 1) (0 : Int32) g72 (Nat.lt_succ_self _) hI73 hK74 (by omega)
                                  · skip
                                    have th78 := i_eq h78
                                    rw [show (1 : Int32).toInt = 1 by decide] at th78
                                    refine m_iload C dX9_judgeSteps_231 7 rfl ?_
                                    refine m_iconst C (2 : Int32) dX9_judgeSteps_233 (by decide) ?_
                                    refine m_idiv C dX9_judgeSteps_234 (by decide) ?_
                                    refine m_name (fun x105 ex105 => ?_)
                                    have t106 : (x70 / (2 : Int32)).toInt = x70.toInt / 2 := i_div rfl (by omega) (by decide) (by decide)
                                    have t107 : x105.toInt = (x70.toInt / 2) := (congrArg Int32.toInt ex105).trans t106
                                    refine m_istore C [(7, .int x105), (0, .ref (aL X 34)), (1, .int m0), (2, .int n0), (3, .int o), (4, .int q), (5, .int (0 : Int32)), (6, .int x60), (8, .int x71)] dX9_judgeSteps_235 (by decide) rfl ?_
                                    refine m_iload C dX9_judgeSteps_237 8 rfl ?_
                                    refine m_iconst C (2 : Int32) dX9_judgeSteps_239 (by decide) ?_
                                    refine m_idiv C dX9_judgeSteps_240 (by decide) ?_
                                    refine m_name (fun x108 ex108 => ?_)
                                    have t109 : (x71 / (2 : Int32)).toInt = x71.toInt / 2 := i_div rfl (by omega) (by decide) (by decide)
                                    have t110 : x108.toInt = (x71.toInt / 2) := (congrArg Int32.toInt ex108).trans t109
                                    refine m_istore C [(8, .int x108), (7, .int x105), (0, .ref (aL X 34)), (1, .int m0), (2, .int n0), (3, .int o), (4, .int q), (5, .int (0 : Int32)), (6, .int x60)] dX9_judgeSteps_241 (by decide) rfl ?_
                                    refine m_goto C 223 dX9_judgeSteps_243 (by decide) ?_
                                    refine m_lv [2, 3, 4, 5, 6, 7, 8, 1, 0] rfl ?_
                                    exact ih223 x105 x108 g72 (by omega) hI73 hK74 (by omega) (by omega)
                              refine m_lv [3, 4, 5, 6, 7, 8, 2, 1, 0] rfl ?_
                              exact L223 (((x64.toInt).toNat) + 1) x64 x67 g48 (Nat.lt_succ_self _) hI49 hK50 (by omega) (by omega)
                            · skip
                              have th63 := i_eq h63
                              rw [show (0 : Int32).toInt = 0 by decide] at th63
                              refine m_iconst C (0 : Int32) dX9_judgeSteps_211 (by decide) ?_
                              exact m_iret C dX9_judgeSteps_212 ⟨_, rfl, hI49, hK50, (by have hl : (0 : Int32).toInt = 0 := (by decide); omega)⟩
                          · skip
                            have th56 := i_nle h56
                            exact False.elim (by omega)
                      have t111 : (0 : Int32).toInt = 0 := by decide
                      refine m_lv [1, 2, 3, 4, 5, 6, 0] rfl ?_
                      exact L159 (((257 - (0 : Int32).toInt).toNat) + 1) (0 : Int32) g41 (Nat.lt_succ_self _) hI42 hK43 (by omega)
                    · skip
                      have th45 := i_nle h45
                      rw [show (32 : Int32).toInt = 32 by decide] at th45
                      refine m_aload_n C dX9_judgeSteps_131 0 rfl ?_
                      refine m_getr (rf := "") C 33 rfl gd9 (by decide) sh_34 rfl dX9_judgeSteps_132 lk_X9_83 ?_
                      refine m_iload C dX9_judgeSteps_135 6 rfl ?_
                      refine m_aload_n C dX9_judgeSteps_137 0 rfl ?_
                      refine m_getr (rf := "") C 30 rfl gd9 (by decide) sh_34 rfl dX9_judgeSteps_138 lk_X9_74 ?_
                      refine m_bipush C (32 : Int32) dX9_judgeSteps_141 (by decide) ?_
                      refine m_iload_n C dX9_judgeSteps_143 3 rfl ?_
                      refine m_imul C dX9_judgeSteps_144 ?_
                      refine m_iload C dX9_judgeSteps_145 6 rfl ?_
                      refine m_iadd C dX9_judgeSteps_147 ?_
                      have t112 : ((32 : Int32) * o).toInt = (32 : Int) * o.toInt := i_mul (by decide) rfl (by omega) (by omega)
                      have t113 : (((32 : Int32) * o) + x40).toInt = ((32 : Int) * o.toInt) + x40.toInt := i_add t112 rfl (by omega) (by omega)
                      refine m_iald C sh_56 (i_in (by omega) (by omega)) dX9_judgeSteps_148 ?_
                      have z114 : (g41 56 (((32 : Int32) * o) + x40).toNatClampNeg).toInt = 0 := by rw [hK43.1 56 (by decide) (by decide)]; exact hF.t 56 _ (by decide)
                      refine m_iast C sh_59 (i_in (by omega) (by omega)) dX9_judgeSteps_149 ?_
                      refine m_mem (fun g115 eg115 => ?_)
                      have hI116 : Inv g115 := by rw [eg115]; exact hI42.up (ok_any (by decide))
                      have hK117 : Kq [36, 37, 38, 39, 57, 58, 59] [4] g g115 := by rw [eg115]; exact Kq.upA hK43 (by decide) (by decide)
                      obtain ⟨x118, ex118⟩ : ∃ z : Int32, z = x40 + Int32.ofInt 1 := ⟨_, rfl⟩
                      have t119 : (x40 + (Int32.ofInt 1)).toInt = x40.toInt + (1 : Int) := i_add rfl (by decide) (by omega) (by omega)
                      have t120 : x118.toInt = (x40.toInt + (1 : Int)) := (congrArg Int32.toInt ex118).trans t119
                      refine m_iinc C x118 [(6, .int x118), (0, .ref (aL X 34)), (1, .int m0), (2, .int n0), (3, .int o), (4, .int q), (5, .int (0 : Int32))] dX9_judgeSteps_150 (q := 6) rfl ex118.symm (by decide) rfl ?_
                      refine m_goto C 124 dX9_judgeSteps_153 (by decide) ?_
                      refine m_lv [1, 2, 3, 4, 5, 6, 0] rfl ?_
                      exact ih124 x118 g115 (by omega) hI116 hK117 (by omega)
                have t121 : (0 : Int32).toInt = 0 := by decide
                refine m_lv [2, 3, 4, 5, 6, 1, 0] rfl ?_
                exact L124 (((33 - (0 : Int32).toInt).toNat) + 1) (0 : Int32) g (Nat.lt_succ_self _) hI Kq.rf (by omega)
              · skip
                have th37 := i_eq h37
                rw [show (0 : Int32).toInt = 0 by decide] at th37
                refine m_iconst C (1 : Int32) dX9_judgeSteps_114 (by decide) ?_
                refine m_goto C 119 dX9_judgeSteps_115 (by decide) ?_
                refine m_istore C [(5, .int (1 : Int32)), (0, .ref (aL X 34)), (1, .int m0), (2, .int n0), (3, .int o), (4, .int q)] dX9_judgeSteps_119 (by decide) rfl ?_
                refine m_iconst C (0 : Int32) dX9_judgeSteps_121 (by decide) ?_
                refine m_istore C [(6, .int (0 : Int32)), (5, .int (1 : Int32)), (0, .ref (aL X 34)), (1, .int m0), (2, .int n0), (3, .int o), (4, .int q)] dX9_judgeSteps_122 (by decide) rfl ?_
                have L124 : ∀ (n124 : Nat) (x124 : Int32) (g125 : Mem), (33 - x124.toInt).toNat < n124 → Inv g125 → Kq [36, 37, 38, 39, 57, 58, 59] [4] g g125 → 0 ≤ x124.toInt ∧ x124.toInt ≤ 32 → Wm X p l e (rmD 4) s m ([.ref (aL X 34), .int m0, .int n0, .int o, .int q] : List Value).toArray below meth c 10 0 0 (MQ below (cQ X (pI (fun r g2 => Inv g2 ∧ Kq [36, 37, 38, 39, 57, 58, 59] [4] g g2 ∧ (((0 ≤ m0.toInt ∧ m0.toInt ≤ 60 ∧ 0 ≤ n0.toInt ∧ n0.toInt ≤ 60 ∧ 0 ≤ o.toInt ∧ o.toInt ≤ 3 ∧ 0 ≤ q.toInt ∧ q.toInt ≤ 3) ∧ ((r.toInt = 1 ∧ m0.toInt = n0.toInt ∧ 1 ≤ m0.toInt) ∨ (r.toInt = 0 ∧ ¬ (m0.toInt = n0.toInt ∧ 1 ≤ m0.toInt)))) ∨ (r.toInt = -2 ∧ ¬ (0 ≤ m0.toInt ∧ m0.toInt ≤ 60 ∧ 0 ≤ n0.toInt ∧ n0.toInt ≤ 60 ∧ 0 ≤ o.toInt ∧ o.toInt ≤ 3 ∧ 0 ≤ q.toInt ∧ q.toInt ≤ 3)))))) ([.ref (aL X 34), .int m0, .int n0, .int o, .int q] : List Value).toArray s 0 0 (Ab X)) g125 124 [(0, .ref (aL X 34)), (1, .int m0), (2, .int n0), (3, .int o), (4, .int q), (5, .int (1 : Int32)), (6, .int x124)] [] := by
                  intro n124
                  induction n124 with
                  | zero => intro x124 g125 hm; exact absurd hm (Nat.not_lt_zero _)
                  | succ n124 ih124 =>
                    intro x124 g125 hm124 hI126 hK127 i128
                    obtain ⟨i128a, i128b⟩ := i128
                    refine m_iload C dX9_judgeSteps_124 6 rfl ?_
                    refine m_bipush C (32 : Int32) dX9_judgeSteps_126 (by decide) ?_
                    refine m_icmp_ge C 156 dX9_judgeSteps_128 (by decide) (fun h129 => ?_) (fun h129 => ?_)
                    · skip
                      have th129 := i_le h129
                      rw [show (32 : Int32).toInt = 32 by decide] at th129
                      refine m_iconst C (0 : Int32) dX9_judgeSteps_156 (by decide) ?_
                      refine m_istore C [(6, .int (0 : Int32)), (0, .ref (aL X 34)), (1, .int m0), (2, .int n0), (3, .int o), (4, .int q), (5, .int (1 : Int32))] dX9_judgeSteps_157 (by decide) rfl ?_
                      have L159 : ∀ (n159 : Nat) (x131 : Int32) (g132 : Mem), (257 - x131.toInt).toNat < n159 → Inv g132 → Kq [36, 37, 38, 39, 57, 58, 59] [4] g g132 → 0 ≤ x131.toInt ∧ x131.toInt ≤ 256 → Wm X p l e (rmD 4) s m ([.ref (aL X 34), .int m0, .int n0, .int o, .int q] : List Value).toArray below meth c 10 0 0 (MQ below (cQ X (pI (fun r g2 => Inv g2 ∧ Kq [36, 37, 38, 39, 57, 58, 59] [4] g g2 ∧ (((0 ≤ m0.toInt ∧ m0.toInt ≤ 60 ∧ 0 ≤ n0.toInt ∧ n0.toInt ≤ 60 ∧ 0 ≤ o.toInt ∧ o.toInt ≤ 3 ∧ 0 ≤ q.toInt ∧ q.toInt ≤ 3) ∧ ((r.toInt = 1 ∧ m0.toInt = n0.toInt ∧ 1 ≤ m0.toInt) ∨ (r.toInt = 0 ∧ ¬ (m0.toInt = n0.toInt ∧ 1 ≤ m0.toInt)))) ∨ (r.toInt = -2 ∧ ¬ (0 ≤ m0.toInt ∧ m0.toInt ≤ 60 ∧ 0 ≤ n0.toInt ∧ n0.toInt ≤ 60 ∧ 0 ≤ o.toInt ∧ o.toInt ≤ 3 ∧ 0 ≤ q.toInt ∧ q.toInt ≤ 3)))))) ([.ref (aL X 34), .int m0, .int n0, .int o, .int q] : List Value).toArray s 0 0 (Ab X)) g132 159 [(0, .ref (aL X 34)), (1, .int m0), (2, .int n0), (3, .int o), (4, .int q), (5, .int (1 : Int32)), (6, .int x131)] [] := by
                        intro n159
                        induction n159 with
                        | zero => intro x131 g132 hm; exact absurd hm (Nat.not_lt_zero _)
                        | succ n159 ih159 =>
                          intro x131 g132 hm159 hI133 hK134 i135
                          obtain ⟨i135a, i135b⟩ := i135
                          refine m_iload C dX9_judgeSteps_159 6 rfl ?_
                          refine m_bipush C (32 : Int32) dX9_judgeSteps_161 (by decide) ?_
                          refine m_aload_n C dX9_judgeSteps_163 0 rfl ?_
                          refine m_geti (rf := "") C 26 rfl gd9 (by decide) sh_34 rfl dX9_judgeSteps_164 lk_X9_281 ?_
                          have r136 := iv_pmany hI133
                          have ev137 : g132 34 26 = g 34 26 := hK134.2 26 (by decide)
                          have tev137 := congrArg Int32.toInt ev137
                          have z138 := hF.t 34 26 (by decide)
                          refine m_imul C dX9_judgeSteps_167 ?_
                          have t139 : ((32 : Int32) * (g132 34 26)).toInt = (32 : Int) * (g132 34 26).toInt := i_mul (by decide) rfl (by omega) (by omega)
                          refine m_icmp_ge C 197 dX9_judgeSteps_168 (by decide) (fun h140 => ?_) (fun h140 => ?_)
                          · skip
                            have th140 := i_le h140
                            refine m_iload C dX9_judgeSteps_197 5 rfl ?_
                            refine m_aload_n C dX9_judgeSteps_199 0 rfl ?_
                            refine m_geti (rf := "") C 26 rfl gd9 (by decide) sh_34 rfl dX9_judgeSteps_200 lk_X9_281 ?_
                            have r141 := iv_pmany hI133
                            have ev142 : g132 34 26 = g 34 26 := hK134.2 26 (by decide)
                            have tev142 := congrArg Int32.toInt ev142
                            have z143 := hF.t 34 26 (by decide)
                            refine m_iadd C dX9_judgeSteps_203 ?_
                            refine m_name (fun x144 ex144 => ?_)
                            have t145 : ((1 : Int32) + (g132 34 26)).toInt = (1 : Int) + (g132 34 26).toInt := i_add (by decide) rfl (by omega) (by omega)
                            have t146 : x144.toInt = ((1 : Int) + (g132 34 26).toInt) := (congrArg Int32.toInt ex144).trans t145
                            refine m_istore C [(6, .int x144), (0, .ref (aL X 34)), (1, .int m0), (2, .int n0), (3, .int o), (4, .int q), (5, .int (1 : Int32))] dX9_judgeSteps_204 (by decide) rfl ?_
                            refine m_iload C dX9_judgeSteps_206 0 rfl ?_
                            refine m_if_ne C 213 dX9_judgeSteps_208 (by decide) (fun h147 => ?_) (fun h147 => ?_)
                            · skip
                              have th147 := i_ne h147
                              rw [show (0 : Int32).toInt = 0 by decide] at th147
                              refine m_iload_n C dX9_judgeSteps_213 2 rfl ?_
                              refine m_iconst C (1 : Int32) dX9_judgeSteps_214 (by decide) ?_
                              refine m_isub C dX9_judgeSteps_215 ?_
                              refine m_name (fun x148 ex148 => ?_)
                              have t149 : (m0 - (1 : Int32)).toInt = m0.toInt - (1 : Int) := i_sub rfl (by decide) (by omega) (by omega)
                              have t150 : x148.toInt = (m0.toInt - (1 : Int)) := (congrArg Int32.toInt ex148).trans t149
                              refine m_istore C [(7, .int x148), (6, .int x144), (0, .ref (aL X 34)), (1, .int m0), (2, .int n0), (3, .int o), (4, .int q), (5, .int (1 : Int32))] dX9_judgeSteps_216 (by decide) rfl ?_
                              refine m_iload_n C dX9_judgeSteps_218 4 rfl ?_
                              refine m_iconst C (1 : Int32) dX9_judgeSteps_219 (by decide) ?_
                              refine m_isub C dX9_judgeSteps_220 ?_
                              refine m_name (fun x151 ex151 => ?_)
                              have t152 : (n0 - (1 : Int32)).toInt = n0.toInt - (1 : Int) := i_sub rfl (by decide) (by omega) (by omega)
                              have t153 : x151.toInt = (n0.toInt - (1 : Int)) := (congrArg Int32.toInt ex151).trans t152
                              refine m_istore C [(8, .int x151), (7, .int x148), (6, .int x144), (0, .ref (aL X 34)), (1, .int m0), (2, .int n0), (3, .int o), (4, .int q), (5, .int (1 : Int32))] dX9_judgeSteps_221 (by decide) rfl ?_
                              have L223 : ∀ (n223 : Nat) (x154 : Int32) (x155 : Int32) (g156 : Mem), (x154.toInt).toNat < n223 → Inv g156 → Kq [36, 37, 38, 39, 57, 58, 59] [4] g g156 → 0 ≤ x154.toInt ∧ x154.toInt < x155.toInt → x155.toInt ≤ 60 → Wm X p l e (rmD 4) s m ([.ref (aL X 34), .int m0, .int n0, .int o, .int q] : List Value).toArray below meth c 10 0 0 (MQ below (cQ X (pI (fun r g2 => Inv g2 ∧ Kq [36, 37, 38, 39, 57, 58, 59] [4] g g2 ∧ (((0 ≤ m0.toInt ∧ m0.toInt ≤ 60 ∧ 0 ≤ n0.toInt ∧ n0.toInt ≤ 60 ∧ 0 ≤ o.toInt ∧ o.toInt ≤ 3 ∧ 0 ≤ q.toInt ∧ q.toInt ≤ 3) ∧ ((r.toInt = 1 ∧ m0.toInt = n0.toInt ∧ 1 ≤ m0.toInt) ∨ (r.toInt = 0 ∧ ¬ (m0.toInt = n0.toInt ∧ 1 ≤ m0.toInt)))) ∨ (r.toInt = -2 ∧ ¬ (0 ≤ m0.toInt ∧ m0.toInt ≤ 60 ∧ 0 ≤ n0.toInt ∧ n0.toInt ≤ 60 ∧ 0 ≤ o.toInt ∧ o.toInt ≤ 3 ∧ 0 ≤ q.toInt ∧ q.toInt ≤ 3)))))) ([.ref (aL X 34), .int m0, .int n0, .int o, .int q] : List Value).toArray s 0 0 (Ab X)) g156 223 [(0, .ref (aL X 34)), (1, .int m0), (2, .int n0), (3, .int o), (4, .int q), (5, .int (1 : Int32)), (6, .int x144), (7, .int x154), (8, .int x155)] [] := by
                                intro n223
                                induction n223 with
                                | zero => intro x154 x155 g156 hm; exact absurd hm (Nat.not_lt_zero _)
                                | succ n223 ih223 =>
                                  intro x154 x155 g156 hm223 hI157 hK158 i159 i160
                                  obtain ⟨i159a, i159b⟩ := i159
                                  refine m_iload C dX9_judgeSteps_223 7 rfl ?_
                                  refine m_iconst C (2 : Int32) dX9_judgeSteps_225 (by decide) ?_
                                  refine m_irem C dX9_judgeSteps_226 (by decide) ?_
                                  refine m_iconst C (1 : Int32) dX9_judgeSteps_227 (by decide) ?_
                                  have t161 : (x154 - x154 / (2 : Int32) * (2 : Int32)).toInt = x154.toInt % 2 := i_rem rfl (by omega) (by decide) (by decide)
                                  refine m_icmp_ne C 246 dX9_judgeSteps_228 (by decide) (fun h162 => ?_) (fun h162 => ?_)
                                  · skip
                                    have th162 := i_ne h162
                                    rw [show (1 : Int32).toInt = 1 by decide] at th162
                                    refine m_iconst C (0 : Int32) dX9_judgeSteps_246 (by decide) ?_
                                    refine m_istore C [(9, .int (0 : Int32)), (0, .ref (aL X 34)), (1, .int m0), (2, .int n0), (3, .int o), (4, .int q), (5, .int (1 : Int32)), (6, .int x144), (7, .int x154), (8, .int x155)] dX9_judgeSteps_247 (by decide) rfl ?_
                                    have L249 : ∀ (n249 : Nat) (x164 : Int32) (g165 : Mem), (33 - x164.toInt).toNat < n249 → Inv g165 → Kq [36, 37, 38, 39, 57, 58, 59] [4] g g165 → 0 ≤ x164.toInt ∧ x164.toInt ≤ 32 → Wm X p l e (rmD 4) s m ([.ref (aL X 34), .int m0, .int n0, .int o, .int q] : List Value).toArray below meth c 10 0 0 (MQ below (cQ X (pI (fun r g2 => Inv g2 ∧ Kq [36, 37, 38, 39, 57, 58, 59] [4] g g2 ∧ (((0 ≤ m0.toInt ∧ m0.toInt ≤ 60 ∧ 0 ≤ n0.toInt ∧ n0.toInt ≤ 60 ∧ 0 ≤ o.toInt ∧ o.toInt ≤ 3 ∧ 0 ≤ q.toInt ∧ q.toInt ≤ 3) ∧ ((r.toInt = 1 ∧ m0.toInt = n0.toInt ∧ 1 ≤ m0.toInt) ∨ (r.toInt = 0 ∧ ¬ (m0.toInt = n0.toInt ∧ 1 ≤ m0.toInt)))) ∨ (r.toInt = -2 ∧ ¬ (0 ≤ m0.toInt ∧ m0.toInt ≤ 60 ∧ 0 ≤ n0.toInt ∧ n0.toInt ≤ 60 ∧ 0 ≤ o.toInt ∧ o.toInt ≤ 3 ∧ 0 ≤ q.toInt ∧ q.toInt ≤ 3)))))) ([.ref (aL X 34), .int m0, .int n0, .int o, .int q] : List Value).toArray s 0 0 (Ab X)) g165 249 [(0, .ref (aL X 34)), (1, .int m0), (2, .int n0), (3, .int o), (4, .int q), (5, .int (1 : Int32)), (6, .int x144), (7, .int x154), (8, .int x155), (9, .int x164)] [] := by
                                      intro n249
                                      induction n249 with
                                      | zero => intro x164 g165 hm; exact absurd hm (Nat.not_lt_zero _)
                                      | succ n249 ih249 =>
                                        intro x164 g165 hm249 hI166 hK167 i168
                                        obtain ⟨i168a, i168b⟩ := i168
                                        refine m_iload C dX9_judgeSteps_249 9 rfl ?_
                                        refine m_bipush C (32 : Int32) dX9_judgeSteps_251 (by decide) ?_
                                        refine m_icmp_ge C 290 dX9_judgeSteps_253 (by decide) (fun h169 => ?_) (fun h169 => ?_)
                                        · skip
                                          have th169 := i_le h169
                                          rw [show (32 : Int32).toInt = 32 by decide] at th169
                                          refine m_iconst C (1 : Int32) dX9_judgeSteps_290 (by decide) ?_
                                          refine m_istore C [(9, .int (1 : Int32)), (0, .ref (aL X 34)), (1, .int m0), (2, .int n0), (3, .int o), (4, .int q), (5, .int (1 : Int32)), (6, .int x144), (7, .int x154), (8, .int x155)] dX9_judgeSteps_291 (by decide) rfl ?_
                                          have L293 : ∀ (n293 : Nat) (x171 : Int32) (g172 : Mem), (10 - x171.toInt).toNat < n293 → Inv g172 → Kq [36, 37, 38, 39, 57, 58, 59] [4] g g172 → 1 ≤ x171.toInt ∧ x171.toInt ≤ 9 → Wm X p l e (rmD 4) s m ([.ref (aL X 34), .int m0, .int n0, .int o, .int q] : List Value).toArray below meth c 10 0 0 (MQ below (cQ X (pI (fun r g2 => Inv g2 ∧ Kq [36, 37, 38, 39, 57, 58, 59] [4] g g2 ∧ (((0 ≤ m0.toInt ∧ m0.toInt ≤ 60 ∧ 0 ≤ n0.toInt ∧ n0.toInt ≤ 60 ∧ 0 ≤ o.toInt ∧ o.toInt ≤ 3 ∧ 0 ≤ q.toInt ∧ q.toInt ≤ 3) ∧ ((r.toInt = 1 ∧ m0.toInt = n0.toInt ∧ 1 ≤ m0.toInt) ∨ (r.toInt = 0 ∧ ¬ (m0.toInt = n0.toInt ∧ 1 ≤ m0.toInt)))) ∨ (r.toInt = -2 ∧ ¬ (0 ≤ m0.toInt ∧ m0.toInt ≤ 60 ∧ 0 ≤ n0.toInt ∧ n0.toInt ≤ 60 ∧ 0 ≤ o.toInt ∧ o.toInt ≤ 3 ∧ 0 ≤ q.toInt ∧ q.toInt ≤ 3)))))) ([.ref (aL X 34), .int m0, .int n0, .int o, .int q] : List Value).toArray s 0 0 (Ab X)) g172 293 [(0, .ref (aL X 34)), (1, .int m0), (2, .int n0), (3, .int o), (4, .int q), (5, .int (1 : Int32)), (6, .int x144), (7, .int x154), (8, .int x155), (9, .int x171)] [] := by
                                            intro n293
                                            induction n293 with
                                            | zero => intro x171 g172 hm; exact absurd hm (Nat.not_lt_zero _)
                                            | succ n293 ih293 =>
                                              intro x171 g172 hm293 hI173 hK174 i175
                                              obtain ⟨i175a, i175b⟩ := i175
                                              refine m_iload C dX9_judgeSteps_293 9 rfl ?_
                                              refine m_iload C dX9_judgeSteps_295 6 rfl ?_
                                              refine m_icmp_ge C 448 dX9_judgeSteps_297 (by decide) (fun h176 => ?_) (fun h176 => ?_)
                                              · skip
                                                have th176 := i_le h176
                                                refine m_iload C dX9_judgeSteps_448 8 rfl ?_
                                                refine m_if_ne C 496 dX9_judgeSteps_450 (by decide) (fun h177 => ?_) (fun h177 => ?_)
                                                · skip
                                                  have th177 := i_ne h177
                                                  rw [show (0 : Int32).toInt = 0 by decide] at th177
                                                  refine m_iconst C (0 : Int32) dX9_judgeSteps_496 (by decide) ?_
                                                  exact m_iret C dX9_judgeSteps_497 ⟨_, rfl, hI173, hK174, (by have hl : (0 : Int32).toInt = 0 := (by decide); omega)⟩
                                                · skip
                                                  have th177 := i_eq h177
                                                  rw [show (0 : Int32).toInt = 0 by decide] at th177
                                                  exact False.elim (by omega)
                                              · skip
                                                have th176 := i_nle h176
                                                exact False.elim (by omega)
                                          have t178 : (1 : Int32).toInt = 1 := by decide
                                          refine m_lv [1, 2, 3, 4, 5, 6, 7, 8, 9, 0] rfl ?_
                                          exact L293 (((10 - (1 : Int32).toInt).toNat) + 1) (1 : Int32) g165 (Nat.lt_succ_self _) hI166 hK167 (by omega)
                                        · skip
                                          have th169 := i_nle h169
                                          rw [show (32 : Int32).toInt = 32 by decide] at th169
                                          refine m_aload_n C dX9_judgeSteps_256 0 rfl ?_
                                          refine m_getr (rf := "") C 31 rfl gd9 (by decide) sh_34 rfl dX9_judgeSteps_257 lk_X9_77 ?_
                                          refine m_iload C dX9_judgeSteps_260 9 rfl ?_
                                          refine m_aload_n C dX9_judgeSteps_262 0 rfl ?_
                                          refine m_getr (rf := "") C 33 rfl gd9 (by decide) sh_34 rfl dX9_judgeSteps_263 lk_X9_83 ?_
                                          refine m_iload C dX9_judgeSteps_266 9 rfl ?_
                                          refine m_iald C sh_59 (i_in (by omega) (by omega)) dX9_judgeSteps_268 ?_
                                          refine m_iast C sh_57 (i_in (by omega) (by omega)) dX9_judgeSteps_269 ?_
                                          refine m_mem (fun g179 eg179 => ?_)
                                          have hI180 : Inv g179 := by rw [eg179]; exact hI166.up (ok_any (by decide))
                                          have hK181 : Kq [36, 37, 38, 39, 57, 58, 59] [4] g g179 := by rw [eg179]; exact Kq.upA hK167 (by decide) (by decide)
                                          refine m_aload_n C dX9_judgeSteps_270 0 rfl ?_
                                          refine m_getr (rf := "") C 32 rfl gd9 (by decide) sh_34 rfl dX9_judgeSteps_271 lk_X9_80 ?_
                                          refine m_iload C dX9_judgeSteps_274 9 rfl ?_
                                          refine m_aload_n C dX9_judgeSteps_276 0 rfl ?_
                                          refine m_getr (rf := "") C 33 rfl gd9 (by decide) sh_34 rfl dX9_judgeSteps_277 lk_X9_83 ?_
                                          refine m_iload C dX9_judgeSteps_280 9 rfl ?_
                                          refine m_iald C sh_59 (i_in (by omega) (by omega)) dX9_judgeSteps_282 ?_
                                          refine m_iast C sh_58 (i_in (by omega) (by omega)) dX9_judgeSteps_283 ?_
                                          refine m_mem (fun g182 eg182 => ?_)
                                          have hI183 : Inv g182 := by rw [eg182]; exact hI180.up (ok_any (by decide))
                                          have hK184 : Kq [36, 37, 38, 39, 57, 58, 59] [4] g g182 := by rw [eg182]; exact Kq.upA hK181 (by decide) (by decide)
                                          obtain ⟨x185, ex185⟩ : ∃ z : Int32, z = x164 + Int32.ofInt 1 := ⟨_, rfl⟩
                                          have t186 : (x164 + (Int32.ofInt 1)).toInt = x164.toInt + (1 : Int) := i_add rfl (by decide) (by omega) (by omega)
                                          have t187 : x185.toInt = (x164.toInt + (1 : Int)) := (congrArg Int32.toInt ex185).trans t186
                                          refine m_iinc C x185 [(9, .int x185), (0, .ref (aL X 34)), (1, .int m0), (2, .int n0), (3, .int o), (4, .int q), (5, .int (1 : Int32)), (6, .int x144), (7, .int x154), (8, .int x155)] dX9_judgeSteps_284 (q := 9) rfl ex185.symm (by decide) rfl ?_
                                          refine m_goto C 249 dX9_judgeSteps_287 (by decide) ?_
                                          refine m_lv [1, 2, 3, 4, 5, 6, 7, 8, 9, 0] rfl ?_
                                          exact ih249 x185 g182 (by omega) hI183 hK184 (by omega)
                                    have t188 : (0 : Int32).toInt = 0 := by decide
                                    refine m_lv [1, 2, 3, 4, 5, 6, 7, 8, 9, 0] rfl ?_
                                    exact L249 (((33 - (0 : Int32).toInt).toNat) + 1) (0 : Int32) g156 (Nat.lt_succ_self _) hI157 hK158 (by omega)
                                  · skip
                                    have th162 := i_eq h162
                                    rw [show (1 : Int32).toInt = 1 by decide] at th162
                                    refine m_iload C dX9_judgeSteps_231 7 rfl ?_
                                    refine m_iconst C (2 : Int32) dX9_judgeSteps_233 (by decide) ?_
                                    refine m_idiv C dX9_judgeSteps_234 (by decide) ?_
                                    refine m_name (fun x189 ex189 => ?_)
                                    have t190 : (x154 / (2 : Int32)).toInt = x154.toInt / 2 := i_div rfl (by omega) (by decide) (by decide)
                                    have t191 : x189.toInt = (x154.toInt / 2) := (congrArg Int32.toInt ex189).trans t190
                                    refine m_istore C [(7, .int x189), (0, .ref (aL X 34)), (1, .int m0), (2, .int n0), (3, .int o), (4, .int q), (5, .int (1 : Int32)), (6, .int x144), (8, .int x155)] dX9_judgeSteps_235 (by decide) rfl ?_
                                    refine m_iload C dX9_judgeSteps_237 8 rfl ?_
                                    refine m_iconst C (2 : Int32) dX9_judgeSteps_239 (by decide) ?_
                                    refine m_idiv C dX9_judgeSteps_240 (by decide) ?_
                                    refine m_name (fun x192 ex192 => ?_)
                                    have t193 : (x155 / (2 : Int32)).toInt = x155.toInt / 2 := i_div rfl (by omega) (by decide) (by decide)
                                    have t194 : x192.toInt = (x155.toInt / 2) := (congrArg Int32.toInt ex192).trans t193
                                    refine m_istore C [(8, .int x192), (7, .int x189), (0, .ref (aL X 34)), (1, .int m0), (2, .int n0), (3, .int o), (4, .int q), (5, .int (1 : Int32)), (6, .int x144)] dX9_judgeSteps_241 (by decide) rfl ?_
                                    refine m_goto C 223 dX9_judgeSteps_243 (by decide) ?_
                                    refine m_lv [2, 3, 4, 5, 6, 7, 8, 1, 0] rfl ?_
                                    exact ih223 x189 x192 g156 (by omega) hI157 hK158 (by omega) (by omega)
                              refine m_lv [3, 4, 5, 6, 7, 8, 2, 1, 0] rfl ?_
                              exact L223 (((x148.toInt).toNat) + 1) x148 x151 g132 (Nat.lt_succ_self _) hI133 hK134 (by omega) (by omega)
                            · skip
                              have th147 := i_eq h147
                              rw [show (0 : Int32).toInt = 0 by decide] at th147
                              refine m_iconst C (0 : Int32) dX9_judgeSteps_211 (by decide) ?_
                              exact m_iret C dX9_judgeSteps_212 ⟨_, rfl, hI133, hK134, (by have hl : (0 : Int32).toInt = 0 := (by decide); omega)⟩
                          · skip
                            have th140 := i_nle h140
                            exact False.elim (by omega)
                      have t195 : (0 : Int32).toInt = 0 := by decide
                      refine m_lv [1, 2, 3, 4, 5, 6, 0] rfl ?_
                      exact L159 (((257 - (0 : Int32).toInt).toNat) + 1) (0 : Int32) g125 (Nat.lt_succ_self _) hI126 hK127 (by omega)
                    · skip
                      have th129 := i_nle h129
                      rw [show (32 : Int32).toInt = 32 by decide] at th129
                      refine m_aload_n C dX9_judgeSteps_131 0 rfl ?_
                      refine m_getr (rf := "") C 33 rfl gd9 (by decide) sh_34 rfl dX9_judgeSteps_132 lk_X9_83 ?_
                      refine m_iload C dX9_judgeSteps_135 6 rfl ?_
                      refine m_aload_n C dX9_judgeSteps_137 0 rfl ?_
                      refine m_getr (rf := "") C 30 rfl gd9 (by decide) sh_34 rfl dX9_judgeSteps_138 lk_X9_74 ?_
                      refine m_bipush C (32 : Int32) dX9_judgeSteps_141 (by decide) ?_
                      refine m_iload_n C dX9_judgeSteps_143 3 rfl ?_
                      refine m_imul C dX9_judgeSteps_144 ?_
                      refine m_iload C dX9_judgeSteps_145 6 rfl ?_
                      refine m_iadd C dX9_judgeSteps_147 ?_
                      have t196 : ((32 : Int32) * o).toInt = (32 : Int) * o.toInt := i_mul (by decide) rfl (by omega) (by omega)
                      have t197 : (((32 : Int32) * o) + x124).toInt = ((32 : Int) * o.toInt) + x124.toInt := i_add t196 rfl (by omega) (by omega)
                      refine m_iald C sh_56 (i_in (by omega) (by omega)) dX9_judgeSteps_148 ?_
                      have z198 : (g125 56 (((32 : Int32) * o) + x124).toNatClampNeg).toInt = 0 := by rw [hK127.1 56 (by decide) (by decide)]; exact hF.t 56 _ (by decide)
                      refine m_iast C sh_59 (i_in (by omega) (by omega)) dX9_judgeSteps_149 ?_
                      refine m_mem (fun g199 eg199 => ?_)
                      have hI200 : Inv g199 := by rw [eg199]; exact hI126.up (ok_any (by decide))
                      have hK201 : Kq [36, 37, 38, 39, 57, 58, 59] [4] g g199 := by rw [eg199]; exact Kq.upA hK127 (by decide) (by decide)
                      obtain ⟨x202, ex202⟩ : ∃ z : Int32, z = x124 + Int32.ofInt 1 := ⟨_, rfl⟩
                      have t203 : (x124 + (Int32.ofInt 1)).toInt = x124.toInt + (1 : Int) := i_add rfl (by decide) (by omega) (by omega)
                      have t204 : x202.toInt = (x124.toInt + (1 : Int)) := (congrArg Int32.toInt ex202).trans t203
                      refine m_iinc C x202 [(6, .int x202), (0, .ref (aL X 34)), (1, .int m0), (2, .int n0), (3, .int o), (4, .int q), (5, .int (1 : Int32))] dX9_judgeSteps_150 (q := 6) rfl ex202.symm (by decide) rfl ?_
                      refine m_goto C 124 dX9_judgeSteps_153 (by decide) ?_
                      refine m_lv [1, 2, 3, 4, 5, 6, 0] rfl ?_
                      exact ih124 x202 g199 (by omega) hI200 hK201 (by omega)
                have t205 : (0 : Int32).toInt = 0 := by decide
                refine m_lv [2, 3, 4, 5, 6, 1, 0] rfl ?_
                exact L124 (((33 - (0 : Int32).toInt).toNat) + 1) (0 : Int32) g (Nat.lt_succ_self _) hI Kq.rf (by omega)
            · skip
              have th36 := i_eq h36
              refine m_aload_n C dX9_judgeSteps_70 0 rfl ?_
              refine m_geti (rf := "") C 26 rfl gd9 (by decide) sh_34 rfl dX9_judgeSteps_71 lk_X9_281 ?_
              have r206 := iv_pmany hI
              have z207 := hF.t 34 26 (by decide)
              refine m_if_ne C 104 dX9_judgeSteps_74 (by decide) (fun h208 => ?_) (fun h208 => ?_)
              · skip
                have th208 := i_ne h208
                rw [show (0 : Int32).toInt = 0 by decide] at th208
                refine m_iconst C (0 : Int32) dX9_judgeSteps_104 (by decide) ?_
                exact m_iret C dX9_judgeSteps_105 ⟨_, rfl, hI, Kq.rf, (by have hl : (0 : Int32).toInt = 0 := (by decide); omega)⟩
              · skip
                have th208 := i_eq h208
                rw [show (0 : Int32).toInt = 0 by decide] at th208
                refine m_aload_n C dX9_judgeSteps_77 0 rfl ?_
                refine m_getr (rf := "") C 30 rfl gd9 (by decide) sh_34 rfl dX9_judgeSteps_78 lk_X9_74 ?_
                refine m_bipush C (32 : Int32) dX9_judgeSteps_81 (by decide) ?_
                refine m_iload_n C dX9_judgeSteps_83 3 rfl ?_
                refine m_imul C dX9_judgeSteps_84 ?_
                refine m_aload_n C dX9_judgeSteps_85 0 rfl ?_
                refine m_getr (rf := "") C 30 rfl gd9 (by decide) sh_34 rfl dX9_judgeSteps_86 lk_X9_74 ?_
                refine m_bipush C (32 : Int32) dX9_judgeSteps_89 (by decide) ?_
                refine m_iload C dX9_judgeSteps_91 4 rfl ?_
                refine m_imul C dX9_judgeSteps_93 ?_
                have t209 : ((32 : Int32) * o).toInt = (32 : Int) * o.toInt := i_mul (by decide) rfl (by omega) (by omega)
                have t210 : ((32 : Int32) * q).toInt = (32 : Int) * q.toInt := i_mul (by decide) rfl (by omega) (by omega)
                refine m_invS C cal_X9_isLike (c_X9_isLike_f l hX g ((32 : Int32) * o) ((32 : Int32) * q) hI (by omega) (by omega) hF) lk_X9_295 st_X9_isLike (by decide) rfl rfl (Nat.le_of_ble_eq_true rfl) dX9_judgeSteps_94 ⟨Nat.le_refl _, Nat.le_refl _⟩ (rI fun r211 g212 q213 => ?_)
                obtain ⟨hI214, hK215, p216⟩ := q213
                have ev217 : g212 34 26 = g 34 26 := hK215.2 26 (by decide)
                have tev217 := congrArg Int32.toInt ev217
                have hK218 : Kq [36, 37, 38, 39, 57, 58, 59] [4] g g212 := (Kq.rf).tr hK215 (by decide) (by decide)
                refine m_if_eq C 104 dX9_judgeSteps_97 (by decide) (fun h219 => ?_) (fun h219 => ?_)
                · skip
                  have th219 := i_eq h219
                  rw [show (0 : Int32).toInt = 0 by decide] at th219
                  refine m_iconst C (0 : Int32) dX9_judgeSteps_104 (by decide) ?_
                  exact m_iret C dX9_judgeSteps_105 ⟨_, rfl, hI214, hK218, (by have hl : (0 : Int32).toInt = 0 := (by decide); omega)⟩
                · skip
                  have th219 := i_ne h219
                  rw [show (0 : Int32).toInt = 0 by decide] at th219
                  refine m_iconst C (1 : Int32) dX9_judgeSteps_100 (by decide) ?_
                  refine m_goto C 105 dX9_judgeSteps_101 (by decide) ?_
                  exact m_iret C dX9_judgeSteps_105 ⟨_, rfl, hI214, hK218, (by have hl : (1 : Int32).toInt = 1 := (by decide); omega)⟩
          · skip
            subst g33
            refine m_if_ne C 65 dX9_judgeSteps_60 (by decide) (fun h => absurd (by decide) h) (fun _ => ?_)
            refine m_iconst C (0 : Int32) dX9_judgeSteps_63 (by decide) ?_
            exact m_iret C dX9_judgeSteps_64 ⟨_, rfl, hI, Kq.rf, (by have hl : (0 : Int32).toInt = 0 := (by decide); omega)⟩
        · skip
          subst g26
          refine m_if_ne C 52 dX9_judgeSteps_46 (by decide) (fun h => absurd (by decide) h) (fun _ => ?_)
          refine m_bipush C (-2 : Int32) dX9_judgeSteps_49 (by decide) ?_
          exact m_iret C dX9_judgeSteps_51 ⟨_, rfl, hI, Kq.rf, (by have hl : (-2 : Int32).toInt = -2 := (by decide); omega)⟩
      · skip
        subst g19
        refine m_if_eq C 49 dX9_judgeSteps_33 (by decide) (fun _ => ?_) (fun h => absurd (by decide) h)
        refine m_bipush C (-2 : Int32) dX9_judgeSteps_49 (by decide) ?_
        exact m_iret C dX9_judgeSteps_51 ⟨_, rfl, hI, Kq.rf, (by have hl : (-2 : Int32).toInt = -2 := (by decide); omega)⟩
    · skip
      subst g12
      refine m_if_eq C 49 dX9_judgeSteps_21 (by decide) (fun _ => ?_) (fun h => absurd (by decide) h)
      refine m_bipush C (-2 : Int32) dX9_judgeSteps_49 (by decide) ?_
      exact m_iret C dX9_judgeSteps_51 ⟨_, rfl, hI, Kq.rf, (by have hl : (-2 : Int32).toInt = -2 := (by decide); omega)⟩
  · skip
    subst g5
    refine m_if_eq C 49 dX9_judgeSteps_9 (by decide) (fun _ => ?_) (fun h => absurd (by decide) h)
    refine m_bipush C (-2 : Int32) dX9_judgeSteps_49 (by decide) ?_
    exact m_iret C dX9_judgeSteps_51 ⟨_, rfl, hI, Kq.rf, (by have hl : (-2 : Int32).toInt = -2 := (by decide); omega)⟩
set_option maxRecDepth 20000 in
set_option maxHeartbeats 4000000 in
theorem c_X9_digest_f (l : Launch) {X : XT} (hX : Lok X) (g : Mem)  (hI : Inv g) (hF : FM g) : Ctr l X yX9_digest cX9_digest 5 (some .long) (rmD 3) [.ref (aL X 34)] g (pJ (fun r g2 => Inv g2 ∧ Kq [] [] g g2 ∧ (r = dz 1106))) := by
  refine Ctr.of (lv := [(0, .ref (aL X 34))]) hX (by decide) rfl (Nat.le_of_ble_eq_true rfl) ?_
  intro p e s m below meth c C
  have zf0 := hF.t 34 16 (by decide)
  have zf1 := hF.t 34 17 (by decide)
  have zf2 := hF.t 34 20 (by decide)
  have zf3 := hF.t 34 21 (by decide)
  have zf4 := hF.t 34 26 (by decide)
  refine m_ldc2 C (17) dX9_digest_0 lk_X9_309 ?_
  refine m_nameJ (fun x1 ex1 => ?_)
  refine m_lstore_n C [(1, .long x1), (0, .ref (aL X 34))] dX9_digest_3 (by decide) rfl ?_
  refine m_iconst C (0 : Int32) dX9_digest_4 (by decide) ?_
  refine m_istore_n C [(3, .int (0 : Int32)), (1, .long x1), (0, .ref (aL X 34))] dX9_digest_5 (by decide) rfl ?_
  have L6 : ∀ (n6 : Nat) (x3 : Int64) (x4 : Int32) (g5 : Mem), (13 - x4.toInt).toNat < n6 → Inv g5 → Kq [] [] g g5 → 0 ≤ x4.toInt ∧ x4.toInt ≤ 12 → x3 = dz (4 * x4.toInt).toNat → Wm X p l e (rmD 3) s m ([.ref (aL X 34)] : List Value).toArray below meth c 5 0 0 (MQ below (cQ X (pJ (fun r g2 => Inv g2 ∧ Kq [] [] g g2 ∧ (r = dz 1106)))) ([.ref (aL X 34)] : List Value).toArray s 0 0 (Ab X)) g5 6 [(0, .ref (aL X 34)), (1, .long x3), (3, .int x4)] [] := by
    intro n6
    induction n6 with
    | zero => intro x3 x4 g5 hm; exact absurd hm (Nat.not_lt_zero _)
    | succ n6 ih6 =>
      intro x3 x4 g5 hm6 hI6 hK7 i8 i9
      obtain ⟨i8a, i8b⟩ := i8
      refine m_iload_n C dX9_digest_6 2 rfl ?_
      refine m_bipush C (12 : Int32) dX9_digest_7 (by decide) ?_
      refine m_icmp_ge C 48 dX9_digest_9 (by decide) (fun h10 => ?_) (fun h10 => ?_)
      · skip
        have th10 := i_le h10
        rw [show (12 : Int32).toInt = 12 by decide] at th10
        refine m_iconst C (0 : Int32) dX9_digest_48 (by decide) ?_
        refine m_istore_n C [(3, .int (0 : Int32)), (0, .ref (aL X 34)), (1, .long x3)] dX9_digest_49 (by decide) rfl ?_
        have L50 : ∀ (n50 : Nat) (x12 : Int64) (x13 : Int32) (g14 : Mem), (17 - x13.toInt).toNat < n50 → Inv g14 → Kq [] [] g g14 → 0 ≤ x13.toInt ∧ x13.toInt ≤ 16 → x12 = dz (48 + 2 * x13.toInt).toNat → Wm X p l e (rmD 3) s m ([.ref (aL X 34)] : List Value).toArray below meth c 5 0 0 (MQ below (cQ X (pJ (fun r g2 => Inv g2 ∧ Kq [] [] g g2 ∧ (r = dz 1106)))) ([.ref (aL X 34)] : List Value).toArray s 0 0 (Ab X)) g14 50 [(0, .ref (aL X 34)), (1, .long x12), (3, .int x13)] [] := by
          intro n50
          induction n50 with
          | zero => intro x12 x13 g14 hm; exact absurd hm (Nat.not_lt_zero _)
          | succ n50 ih50 =>
            intro x12 x13 g14 hm50 hI15 hK16 i17 i18
            obtain ⟨i17a, i17b⟩ := i17
            refine m_iload_n C dX9_digest_50 2 rfl ?_
            refine m_bipush C (16 : Int32) dX9_digest_51 (by decide) ?_
            refine m_icmp_ge C 90 dX9_digest_53 (by decide) (fun h19 => ?_) (fun h19 => ?_)
            · skip
              have th19 := i_le h19
              rw [show (16 : Int32).toInt = 16 by decide] at th19
              refine m_iconst C (0 : Int32) dX9_digest_90 (by decide) ?_
              refine m_istore_n C [(3, .int (0 : Int32)), (0, .ref (aL X 34)), (1, .long x12)] dX9_digest_91 (by decide) rfl ?_
              have L92 : ∀ (n92 : Nat) (x21 : Int64) (x22 : Int32) (g23 : Mem), (1021 - x22.toInt).toNat < n92 → Inv g23 → Kq [] [] g g23 → 0 ≤ x22.toInt ∧ x22.toInt ≤ 1020 → x21 = dz (80 + x22.toInt).toNat → Wm X p l e (rmD 3) s m ([.ref (aL X 34)] : List Value).toArray below meth c 5 0 0 (MQ below (cQ X (pJ (fun r g2 => Inv g2 ∧ Kq [] [] g g2 ∧ (r = dz 1106)))) ([.ref (aL X 34)] : List Value).toArray s 0 0 (Ab X)) g23 92 [(0, .ref (aL X 34)), (1, .long x21), (3, .int x22)] [] := by
                intro n92
                induction n92 with
                | zero => intro x21 x22 g23 hm; exact absurd hm (Nat.not_lt_zero _)
                | succ n92 ih92 =>
                  intro x21 x22 g23 hm92 hI24 hK25 i26 i27
                  obtain ⟨i26a, i26b⟩ := i26
                  refine m_iload_n C dX9_digest_92 2 rfl ?_
                  refine m_sipush C (1020 : Int32) dX9_digest_93 (by decide) ?_
                  refine m_icmp_ge C 119 dX9_digest_96 (by decide) (fun h28 => ?_) (fun h28 => ?_)
                  · skip
                    have th28 := i_le h28
                    rw [show (1020 : Int32).toInt = 1020 by decide] at th28
                    refine m_iconst C (0 : Int32) dX9_digest_119 (by decide) ?_
                    refine m_istore_n C [(3, .int (0 : Int32)), (0, .ref (aL X 34)), (1, .long x21)] dX9_digest_120 (by decide) rfl ?_
                    have L121 : ∀ (n121 : Nat) (x30 : Int64) (x31 : Int32) (g32 : Mem), (7 - x31.toInt).toNat < n121 → Inv g32 → Kq [] [] g g32 → 0 ≤ x31.toInt ∧ x31.toInt ≤ 6 → x30 = dz (1100 + x31.toInt).toNat → Wm X p l e (rmD 3) s m ([.ref (aL X 34)] : List Value).toArray below meth c 5 0 0 (MQ below (cQ X (pJ (fun r g2 => Inv g2 ∧ Kq [] [] g g2 ∧ (r = dz 1106)))) ([.ref (aL X 34)] : List Value).toArray s 0 0 (Ab X)) g32 121 [(0, .ref (aL X 34)), (1, .long x30), (3, .int x31)] [] := by
                      intro n121
                      induction n121 with
                      | zero => intro x30 x31 g32 hm; exact absurd hm (Nat.not_lt_zero _)
                      | succ n121 ih121 =>
                        intro x30 x31 g32 hm121 hI33 hK34 i35 i36
                        obtain ⟨i35a, i35b⟩ := i35
                        refine m_iload_n C dX9_digest_121 2 rfl ?_
                        refine m_bipush C (6 : Int32) dX9_digest_122 (by decide) ?_
                        refine m_icmp_ge C 146 dX9_digest_124 (by decide) (fun h37 => ?_) (fun h37 => ?_)
                        · skip
                          have th37 := i_le h37
                          rw [show (6 : Int32).toInt = 6 by decide] at th37
                          refine m_lload_n C dX9_digest_146 1 rfl ?_
                          exact m_lret C dX9_digest_147 ⟨_, rfl, hI33, hK34, (dz_e i36 (by omega))⟩
                        · skip
                          have th37 := i_nle h37
                          rw [show (6 : Int32).toInt = 6 by decide] at th37
                          refine m_ldc2 C (31) dX9_digest_127 lk_X9_265 ?_
                          refine m_lload_n C dX9_digest_130 1 rfl ?_
                          refine m_lmul C dX9_digest_131 ?_
                          refine m_nameJ (fun x38 ex38 => ?_)
                          try have hjt := hju
                          try have hju := hjw
                          try have hjw := hjv
                          have hjv := ex38
                          refine m_aload_n C dX9_digest_132 0 rfl ?_
                          refine m_iload_n C dX9_digest_133 2 rfl ?_
                          refine m_invV C cal_X9_count sh_34 rfl (c_X9_count_f l hX g32 x31 hI33 (hF.kp hK34)) lk_X9_314 im_X9_count se_X9_count (by decide) rfl rfl (Nat.le_of_ble_eq_true rfl) dX9_digest_134 ⟨Nat.le_refl _, Nat.le_refl _⟩ (rI fun r39 g40 q41 => ?_)
                          obtain ⟨eg40, p42⟩ := q41
                          subst g40
                          refine m_i2l C dX9_digest_137 ?_
                          refine m_ladd C dX9_digest_138 ?_
                          refine m_nameJ (fun x43 ex43 => ?_)
                          try have hjt := hju
                          try have hju := hjw
                          try have hjw := hjv
                          have hjv := ex43
                          refine m_lstore_n C [(1, .long x43), (0, .ref (aL X 34)), (3, .int x31)] dX9_digest_139 (by decide) rfl ?_
                          obtain ⟨x45, ex45⟩ : ∃ z : Int32, z = x31 + Int32.ofInt 1 := ⟨_, rfl⟩
                          have t46 : (x31 + (Int32.ofInt 1)).toInt = x31.toInt + (1 : Int) := i_add rfl (by decide) (by omega) (by omega)
                          have t47 : x45.toInt = (x31.toInt + (1 : Int)) := (congrArg Int32.toInt ex45).trans t46
                          refine m_iinc C x45 [(3, .int x45), (1, .long x43), (0, .ref (aL X 34))] dX9_digest_140 (q := 2) rfl ex45.symm (by decide) rfl ?_
                          refine m_goto C 121 dX9_digest_143 (by decide) ?_
                          refine m_lv [2, 1, 0] rfl ?_
                          exact ih121 x43 x45 g32 (by omega) hI33 hK34 (by omega) (dz_s hjw hjv (by omega) i36 (by omega))
                    have t48 : (0 : Int32).toInt = 0 := by decide
                    refine m_lv [1, 2, 0] rfl ?_
                    exact L121 (((7 - (0 : Int32).toInt).toNat) + 1) x21 (0 : Int32) g23 (Nat.lt_succ_self _) hI24 hK25 (by omega) (dz_e i27 (by omega))
                  · skip
                    have th28 := i_nle h28
                    rw [show (1020 : Int32).toInt = 1020 by decide] at th28
                    refine m_ldc2 C (31) dX9_digest_99 lk_X9_265 ?_
                    refine m_lload_n C dX9_digest_102 1 rfl ?_
                    refine m_lmul C dX9_digest_103 ?_
                    refine m_nameJ (fun x49 ex49 => ?_)
                    try have hjt := hju
                    try have hju := hjw
                    try have hjw := hjv
                    have hjv := ex49
                    refine m_aload_n C dX9_digest_104 0 rfl ?_
                    refine m_getr (rf := "") C 22 rfl gd9 (by decide) sh_34 rfl dX9_digest_105 lk_X9_53 ?_
                    refine m_iload_n C dX9_digest_108 2 rfl ?_
                    refine m_iald C sh_49 (i_in (by omega) (by omega)) dX9_digest_109 ?_
                    have z50 : (g23 49 x22.toNatClampNeg).toInt = 0 := by rw [hK25.1 49 (by decide) (by decide)]; exact hF.t 49 _ (by decide)
                    refine m_i2l C dX9_digest_110 ?_
                    refine m_ladd C dX9_digest_111 ?_
                    refine m_nameJ (fun x51 ex51 => ?_)
                    try have hjt := hju
                    try have hju := hjw
                    try have hjw := hjv
                    have hjv := ex51
                    refine m_lstore_n C [(1, .long x51), (0, .ref (aL X 34)), (3, .int x22)] dX9_digest_112 (by decide) rfl ?_
                    obtain ⟨x53, ex53⟩ : ∃ z : Int32, z = x22 + Int32.ofInt 1 := ⟨_, rfl⟩
                    have t54 : (x22 + (Int32.ofInt 1)).toInt = x22.toInt + (1 : Int) := i_add rfl (by decide) (by omega) (by omega)
                    have t55 : x53.toInt = (x22.toInt + (1 : Int)) := (congrArg Int32.toInt ex53).trans t54
                    refine m_iinc C x53 [(3, .int x53), (1, .long x51), (0, .ref (aL X 34))] dX9_digest_113 (q := 2) rfl ex53.symm (by decide) rfl ?_
                    refine m_goto C 92 dX9_digest_116 (by decide) ?_
                    refine m_lv [2, 1, 0] rfl ?_
                    exact ih92 x51 x53 g23 (by omega) hI24 hK25 (by omega) (dz_s hjw hjv (by omega) i27 (by omega))
              have t56 : (0 : Int32).toInt = 0 := by decide
              refine m_lv [1, 2, 0] rfl ?_
              exact L92 (((1021 - (0 : Int32).toInt).toNat) + 1) x12 (0 : Int32) g14 (Nat.lt_succ_self _) hI15 hK16 (by omega) (dz_e i18 (by omega))
            · skip
              have th19 := i_nle h19
              rw [show (16 : Int32).toInt = 16 by decide] at th19
              refine m_ldc2 C (31) dX9_digest_56 lk_X9_265 ?_
              refine m_lload_n C dX9_digest_59 1 rfl ?_
              refine m_lmul C dX9_digest_60 ?_
              refine m_nameJ (fun x57 ex57 => ?_)
              try have hjt := hju
              try have hju := hjw
              try have hjw := hjv
              have hjv := ex57
              refine m_aload_n C dX9_digest_61 0 rfl ?_
              refine m_getr (rf := "") C 11 rfl gd9 (by decide) sh_34 rfl dX9_digest_62 lk_X9_38 ?_
              refine m_iload_n C dX9_digest_65 2 rfl ?_
              refine m_iald C sh_44 (i_in (by omega) (by omega)) dX9_digest_66 ?_
              have z58 : (g14 44 x13.toNatClampNeg).toInt = 0 := by rw [hK16.1 44 (by decide) (by decide)]; exact hF.t 44 _ (by decide)
              refine m_i2l C dX9_digest_67 ?_
              refine m_ladd C dX9_digest_68 ?_
              refine m_nameJ (fun x59 ex59 => ?_)
              try have hjt := hju
              try have hju := hjw
              try have hjw := hjv
              have hjv := ex59
              refine m_lstore_n C [(1, .long x59), (0, .ref (aL X 34)), (3, .int x13)] dX9_digest_69 (by decide) rfl ?_
              refine m_ldc2 C (31) dX9_digest_70 lk_X9_265 ?_
              refine m_lload_n C dX9_digest_73 0 rfl ?_
              refine m_lmul C dX9_digest_74 ?_
              refine m_nameJ (fun x61 ex61 => ?_)
              try have hjt := hju
              try have hju := hjw
              try have hjw := hjv
              have hjv := ex61
              refine m_aload_n C dX9_digest_75 1 rfl ?_
              refine m_getr (rf := "") C 12 rfl gd9 (by decide) sh_34 rfl dX9_digest_76 lk_X9_41 ?_
              refine m_iload_n C dX9_digest_79 2 rfl ?_
              refine m_iald C sh_45 (i_in (by omega) (by omega)) dX9_digest_80 ?_
              have z62 : (g14 45 x13.toNatClampNeg).toInt = 0 := by rw [hK16.1 45 (by decide) (by decide)]; exact hF.t 45 _ (by decide)
              refine m_i2l C dX9_digest_81 ?_
              refine m_ladd C dX9_digest_82 ?_
              refine m_nameJ (fun x63 ex63 => ?_)
              try have hjt := hju
              try have hju := hjw
              try have hjw := hjv
              have hjv := ex63
              refine m_lstore_n C [(1, .long x63), (0, .ref (aL X 34)), (3, .int x13)] dX9_digest_83 (by decide) rfl ?_
              obtain ⟨x65, ex65⟩ : ∃ z : Int32, z = x13 + Int32.ofInt 1 := ⟨_, rfl⟩
              have t66 : (x13 + (Int32.ofInt 1)).toInt = x13.toInt + (1 : Int) := i_add rfl (by decide) (by omega) (by omega)
              have t67 : x65.toInt = (x13.toInt + (1 : Int)) := (congrArg Int32.toInt ex65).trans t66
              refine m_iinc C x65 [(3, .int x65), (1, .long x63), (0, .ref (aL X 34))] dX9_digest_84 (q := 2) rfl ex65.symm (by decide) rfl ?_
              refine m_goto C 50 dX9_digest_87 (by decide) ?_
              refine m_lv [2, 1, 0] rfl ?_
              exact ih50 x63 x65 g14 (by omega) hI15 hK16 (by omega) (dz_s hjw hjv (by omega) (dz_s hjt hju (by omega) i18 rfl) (by omega))
        have t68 : (0 : Int32).toInt = 0 := by decide
        refine m_lv [1, 2, 0] rfl ?_
        exact L50 (((17 - (0 : Int32).toInt).toNat) + 1) x3 (0 : Int32) g5 (Nat.lt_succ_self _) hI6 hK7 (by omega) (dz_e i9 (by omega))
      · skip
        have th10 := i_nle h10
        rw [show (12 : Int32).toInt = 12 by decide] at th10
        refine m_iconst C (0 : Int32) dX9_digest_12 (by decide) ?_
        refine m_istore C [(4, .int (0 : Int32)), (0, .ref (aL X 34)), (1, .long x3), (3, .int x4)] dX9_digest_13 (by decide) rfl ?_
        have L15 : ∀ (n15 : Nat) (x70 : Int64) (x71 : Int32) (g72 : Mem), (5 - x71.toInt).toNat < n15 → Inv g72 → Kq [] [] g g72 → 0 ≤ x71.toInt ∧ x71.toInt ≤ 4 → x70 = dz (4 * x4.toInt + x71.toInt).toNat → Wm X p l e (rmD 3) s m ([.ref (aL X 34)] : List Value).toArray below meth c 5 0 0 (MQ below (cQ X (pJ (fun r g2 => Inv g2 ∧ Kq [] [] g g2 ∧ (r = dz 1106)))) ([.ref (aL X 34)] : List Value).toArray s 0 0 (Ab X)) g72 15 [(0, .ref (aL X 34)), (1, .long x70), (3, .int x4), (4, .int x71)] [] := by
          intro n15
          induction n15 with
          | zero => intro x70 x71 g72 hm; exact absurd hm (Nat.not_lt_zero _)
          | succ n15 ih15 =>
            intro x70 x71 g72 hm15 hI73 hK74 i75 i76
            obtain ⟨i75a, i75b⟩ := i75
            refine m_iload C dX9_digest_15 3 rfl ?_
            refine m_iconst C (4 : Int32) dX9_digest_17 (by decide) ?_
            refine m_icmp_ge C 42 dX9_digest_18 (by decide) (fun h77 => ?_) (fun h77 => ?_)
            · skip
              have th77 := i_le h77
              rw [show (4 : Int32).toInt = 4 by decide] at th77
              obtain ⟨x78, ex78⟩ : ∃ z : Int32, z = x4 + Int32.ofInt 1 := ⟨_, rfl⟩
              have t79 : (x4 + (Int32.ofInt 1)).toInt = x4.toInt + (1 : Int) := i_add rfl (by decide) (by omega) (by omega)
              have t80 : x78.toInt = (x4.toInt + (1 : Int)) := (congrArg Int32.toInt ex78).trans t79
              refine m_iinc C x78 [(3, .int x78), (0, .ref (aL X 34)), (1, .long x70), (4, .int x71)] dX9_digest_42 (q := 2) rfl ex78.symm (by decide) rfl ?_
              refine m_goto C 6 dX9_digest_45 (by decide) ?_
              refine m_lv [1, 2, 0] rfl ?_
              exact ih6 x70 x78 g72 (by omega) hI73 hK74 (by omega) (dz_e i76 (by omega))
            · skip
              have th77 := i_nle h77
              rw [show (4 : Int32).toInt = 4 by decide] at th77
              refine m_ldc2 C (31) dX9_digest_21 lk_X9_265 ?_
              refine m_lload_n C dX9_digest_24 1 rfl ?_
              refine m_lmul C dX9_digest_25 ?_
              refine m_nameJ (fun x81 ex81 => ?_)
              try have hjt := hju
              try have hju := hjw
              try have hjw := hjv
              have hjv := ex81
              refine m_aload_n C dX9_digest_26 0 rfl ?_
              refine m_iload_n C dX9_digest_27 2 rfl ?_
              refine m_iload C dX9_digest_28 3 rfl ?_
              refine m_invV C cal_X9_subjectAt sh_34 rfl (c_X9_subjectAt_f l hX g72 x4 x71 hI73 (hF.kp hK74)) lk_X9_311 im_X9_subjectAt se_X9_subjectAt (by decide) rfl rfl (Nat.le_of_ble_eq_true rfl) dX9_digest_30 ⟨Nat.le_refl _, Nat.le_refl _⟩ (rI fun r82 g83 q84 => ?_)
              obtain ⟨eg83, p85⟩ := q84
              subst g83
              refine m_i2l C dX9_digest_33 ?_
              refine m_ladd C dX9_digest_34 ?_
              refine m_nameJ (fun x86 ex86 => ?_)
              try have hjt := hju
              try have hju := hjw
              try have hjw := hjv
              have hjv := ex86
              refine m_lstore_n C [(1, .long x86), (0, .ref (aL X 34)), (3, .int x4), (4, .int x71)] dX9_digest_35 (by decide) rfl ?_
              obtain ⟨x88, ex88⟩ : ∃ z : Int32, z = x71 + Int32.ofInt 1 := ⟨_, rfl⟩
              have t89 : (x71 + (Int32.ofInt 1)).toInt = x71.toInt + (1 : Int) := i_add rfl (by decide) (by omega) (by omega)
              have t90 : x88.toInt = (x71.toInt + (1 : Int)) := (congrArg Int32.toInt ex88).trans t89
              refine m_iinc C x88 [(4, .int x88), (1, .long x86), (0, .ref (aL X 34)), (3, .int x4)] dX9_digest_36 (q := 3) rfl ex88.symm (by decide) rfl ?_
              refine m_goto C 15 dX9_digest_39 (by decide) ?_
              refine m_lv [2, 1, 3, 0] rfl ?_
              exact ih15 x86 x88 g72 (by omega) hI73 hK74 (by omega) (dz_s hjw hjv (by omega) i76 (by omega))
        have t91 : (0 : Int32).toInt = 0 := by decide
        refine m_lv [1, 2, 3, 0] rfl ?_
        exact L15 (((5 - (0 : Int32).toInt).toNat) + 1) x3 (0 : Int32) g5 (Nat.lt_succ_self _) hI6 hK7 (by omega) (dz_e i9 (by omega))
  have t92 : (0 : Int32).toInt = 0 := by decide
  refine m_lv [2, 1, 0] rfl ?_
  exact L6 (((13 - (0 : Int32).toInt).toNat) + 1) x1 (0 : Int32) g (Nat.lt_succ_self _) hI Kq.rf (by omega) (ex1.trans dz_0)
