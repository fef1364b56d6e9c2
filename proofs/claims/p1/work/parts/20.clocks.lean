set_option maxRecDepth 20000 in
set_option maxHeartbeats 4000000 in
theorem c_X8_clock (l : Launch) {X : XT} (hX : Lok X) (g : Mem) (v : Int32) (hI : Inv g) : Ctr l X yX8_clock cX8_clock 2 (some .int) (rmD 1) [.ref (aL X 0), .int v] g (pI (fun r g2 => Inv g2 ∧ (∀ k, k ≠ 0 → g2 k = g k) ∧ clk (g 0 9) v r (g2 0 9))) := by
  refine Ctr.of (lv := [(0, .ref (aL X 0)), (1, .int v)]) hX (by decide) rfl (Nat.le_of_ble_eq_true rfl) ?_
  intro p e s m below meth c C
  refine m_iload_n C dX8_clock_0 1 rfl ?_
  refine m_iconst C (0 : Int32) dX8_clock_1 (by decide) ?_
  refine m_ldc C (1000000) dX8_clock_2 lk_X8_86 ?_
  have t1 : (0 : Int32).toInt = 0 := by decide
  have t2 : (1000000 : Int32).toInt = 1000000 := by decide
  refine m_invS C cal_X8_within (c_X8_within l hX g v (0 : Int32) (1000000 : Int32) ) lk_X8_87 st_X8_within (by decide) rfl rfl (Nat.le_of_ble_eq_true rfl) dX8_clock_4 ⟨Nat.le_refl _, Nat.le_refl _⟩ (rI fun r3 g4 q5 => ?_)
  obtain ⟨eg4, ⟨rfl, h6⟩ | ⟨rfl, h6⟩⟩ := q5
  · skip
    subst g4
    refine m_if_eq C 21 dX8_clock_7 (by decide) (fun h => absurd h (by decide)) (fun _ => ?_)
    refine m_aload_n C dX8_clock_10 0 rfl ?_
    refine m_geti (rf := "") C 9 rfl gd8 (by decide) sh_0 rfl dX8_clock_11 lk_X8_78 ?_
    have r7 := iv_time hI
    refine m_iload_n C dX8_clock_14 1 rfl ?_
    refine m_iadd C dX8_clock_15 ?_
    refine m_ldc C (2000000000) dX8_clock_16 lk_X8_91 ?_
    have t8 : ((g 0 9) + v).toInt = (g 0 9).toInt + v.toInt := i_add rfl rfl (by omega) (by omega)
    refine m_icmp_le C 24 dX8_clock_18 (by decide) (fun h9 => ?_) (fun h9 => ?_)
    · skip
      have th9 := i_le h9
      rw [show (2000000000 : Int32).toInt = 2000000000 by decide] at th9
      refine m_aload_n C dX8_clock_24 0 rfl ?_
      refine m_dup C dX8_clock_25 rfl ?_
      refine m_geti (rf := "") C 9 rfl gd8 (by decide) sh_0 rfl dX8_clock_26 lk_X8_78 ?_
      have r10 := iv_time hI
      refine m_iload_n C dX8_clock_29 1 rfl ?_
      refine m_iadd C dX8_clock_30 ?_
      have t11 : ((g 0 9) + v).toInt = (g 0 9).toInt + v.toInt := i_add rfl rfl (by omega) (by omega)
      refine m_put (rf := "") C 9 rfl gd8 (by decide) tyX8 tyX8_ok nmX8 rfl (tyX8_ok 9 (by decide)) rfl rfl sh_0 rfl dX8_clock_31 lk_X8_78 ?_
      refine m_mem (fun g12 eg12 => ?_)
      have hI13 : Inv g12 := by rw [eg12]; exact hI.up (ok_time (by omega) (by omega))
      have w14 : g12 0 9 = (g 0 9) + v := by rw [eg12]; exact up2_self
      have tw14 := congrArg Int32.toInt w14
      refine m_aload_n C dX8_clock_34 0 rfl ?_
      refine m_geti (rf := "") C 9 rfl gd8 (by decide) sh_0 rfl dX8_clock_35 lk_X8_78 ?_
      have r15 := iv_time hI13
      exact m_iret C dX8_clock_38 ⟨_, rfl, hI13, (fun k hk => by rw [eg12]; exact up2_ne hk), Or.inl ⟨by omega, by omega, by omega, by omega, by omega⟩⟩
    · skip
      have th9 := i_nle h9
      rw [show (2000000000 : Int32).toInt = 2000000000 by decide] at th9
      refine m_bipush C (-2 : Int32) dX8_clock_21 (by decide) ?_
      exact m_iret C dX8_clock_23 ⟨_, rfl, hI, (fun _ _ => rfl), Or.inr ⟨by omega, by decide, rfl⟩⟩
  · skip
    subst g4
    refine m_if_eq C 21 dX8_clock_7 (by decide) (fun _ => ?_) (fun h => absurd (by decide) h)
    refine m_bipush C (-2 : Int32) dX8_clock_21 (by decide) ?_
    exact m_iret C dX8_clock_23 ⟨_, rfl, hI, (fun _ _ => rfl), Or.inr ⟨by omega, by decide, rfl⟩⟩
set_option maxRecDepth 20000 in
set_option maxHeartbeats 4000000 in
theorem c_X9_clock (l : Launch) {X : XT} (hX : Lok X) (g : Mem) (v : Int32) (hI : Inv g) : Ctr l X yX9_clock cX9_clock 2 (some .int) (rmD 1) [.ref (aL X 34), .int v] g (pI (fun r g2 => Inv g2 ∧ Kq [] [6] g g2 ∧ clk (g 34 6) v r (g2 34 6))) := by
  refine Ctr.of (lv := [(0, .ref (aL X 34)), (1, .int v)]) hX (by decide) rfl (Nat.le_of_ble_eq_true rfl) ?_
  intro p e s m below meth c C
  refine m_iload_n C dX9_clock_0 1 rfl ?_
  refine m_i2l C dX9_clock_1 ?_
  refine m_lconst C (0 : Int64) dX9_clock_2 (by decide) ?_
  refine m_ldc2 C (1000000) dX9_clock_3 lk_X9_199 ?_
  have t1 : (v.toInt64).toInt = v.toInt := i2l_t _
  have t2 : (0 : Int64).toInt = 0 := by decide
  have t3 : (1000000 : Int64).toInt = 1000000 := by decide
  refine m_invS C cal_X9_in (c_X9_in l hX g (v.toInt64) (0 : Int64) (1000000 : Int64) ) lk_X9_185 st_X9_in (by decide) rfl rfl (Nat.le_of_ble_eq_true rfl) dX9_clock_6 ⟨Nat.le_refl _, Nat.le_refl _⟩ (rI fun r4 g5 q6 => ?_)
  obtain ⟨eg5, ⟨rfl, h7⟩ | ⟨rfl, h7⟩⟩ := q6
  · skip
    subst g5
    refine m_if_eq C 30 dX9_clock_9 (by decide) (fun h => absurd h (by decide)) (fun _ => ?_)
    refine m_aload_n C dX9_clock_12 0 rfl ?_
    refine m_geti (rf := "") C 6 rfl gd9 (by decide) sh_34 rfl dX9_clock_13 lk_X9_201 ?_
    have r8 := iv_mclock hI
    refine m_i2l C dX9_clock_16 ?_
    refine m_iload_n C dX9_clock_17 1 rfl ?_
    refine m_i2l C dX9_clock_18 ?_
    refine m_ladd C dX9_clock_19 ?_
    refine m_nameJ (fun x9 ex9 => ?_)
    have tjx9 : x9.toInt = (g 34 6).toInt + v.toInt := by rw [ex9]; exact l_add
    refine m_lconst C (0 : Int64) dX9_clock_20 (by decide) ?_
    refine m_ldc2 C (2000000000) dX9_clock_21 lk_X9_204 ?_
    have t10 : (0 : Int64).toInt = 0 := by decide
    have t11 : (2000000000 : Int64).toInt = 2000000000 := by decide
    refine m_invS C cal_X9_in (c_X9_in l hX g x9 (0 : Int64) (2000000000 : Int64) ) lk_X9_185 st_X9_in (by decide) rfl rfl (Nat.le_of_ble_eq_true rfl) dX9_clock_24 ⟨Nat.le_refl _, Nat.le_refl _⟩ (rI fun r12 g13 q14 => ?_)
    obtain ⟨eg13, ⟨rfl, h15⟩ | ⟨rfl, h15⟩⟩ := q14
    · skip
      subst g13
      refine m_if_ne C 33 dX9_clock_27 (by decide) (fun _ => ?_) (fun h => absurd h (by decide))
      refine m_aload_n C dX9_clock_33 0 rfl ?_
      refine m_dup C dX9_clock_34 rfl ?_
      refine m_geti (rf := "") C 6 rfl gd9 (by decide) sh_34 rfl dX9_clock_35 lk_X9_201 ?_
      have r16 := iv_mclock hI
      refine m_iload_n C dX9_clock_38 1 rfl ?_
      refine m_iadd C dX9_clock_39 ?_
      have t17 : ((g 34 6) + v).toInt = (g 34 6).toInt + v.toInt := i_add rfl rfl (by omega) (by omega)
      refine m_put (rf := "") C 6 rfl gd9 (by decide) tyX9 tyX9_ok nmX9 rfl (tyX9_ok 6 (by decide)) rfl rfl sh_34 rfl dX9_clock_40 lk_X9_201 ?_
      refine m_mem (fun g18 eg18 => ?_)
      have hI19 : Inv g18 := by rw [eg18]; exact hI.up (ok_mclock (by omega) (by omega))
      have hK20 : Kq [] [6] g g18 := by rw [eg18]; exact Kq.upF Kq.rf (by decide)
      have w21 : g18 34 6 = (g 34 6) + v := by rw [eg18]; exact up2_self
      have tw21 := congrArg Int32.toInt w21
      refine m_aload_n C dX9_clock_43 0 rfl ?_
      refine m_geti (rf := "") C 6 rfl gd9 (by decide) sh_34 rfl dX9_clock_44 lk_X9_201 ?_
      have r22 := iv_mclock hI19
      exact m_iret C dX9_clock_47 ⟨_, rfl, hI19, hK20, Or.inl ⟨by omega, by omega, by omega, by omega, by omega⟩⟩
    · skip
      subst g13
      refine m_if_ne C 33 dX9_clock_27 (by decide) (fun h => absurd (by decide) h) (fun _ => ?_)
      refine m_bipush C (-2 : Int32) dX9_clock_30 (by decide) ?_
      exact m_iret C dX9_clock_32 ⟨_, rfl, hI, Kq.rf, Or.inr ⟨by omega, by decide, rfl⟩⟩
  · skip
    subst g5
    refine m_if_eq C 30 dX9_clock_9 (by decide) (fun _ => ?_) (fun h => absurd (by decide) h)
    refine m_bipush C (-2 : Int32) dX9_clock_30 (by decide) ?_
    exact m_iret C dX9_clock_32 ⟨_, rfl, hI, Kq.rf, Or.inr ⟨by omega, by decide, rfl⟩⟩
