set_option maxRecDepth 20000 in
set_option maxHeartbeats 4000000 in
theorem c_X6_splitOf (l : Launch) {X : XT} (hX : Lok X) (g : Mem) (n0 : Int32) (hI : Inv g) (h_n0 : 2 ≤ n0.toInt ∧ n0.toInt ≤ 60) : Ctr l X yX6_splitOf cX6_splitOf 3 (some .int) (rmD 0) [.int n0] g (pI (fun r g2 => Inv g2 ∧ Kp [] g g2 ∧ 1 ≤ r.toInt ∧ r.toInt < n0.toInt)) := by
  refine Ctr.of (lv := [(0, .int n0)]) hX (by decide) rfl (Nat.le_of_ble_eq_true rfl) ?_
  intro p e s m below meth c C
  refine m_iconst C (1 : Int32) dX6_splitOf_0 (by decide) ?_
  refine m_istore_n C [(1, .int (1 : Int32)), (0, .int n0)] dX6_splitOf_1 (by decide) rfl ?_
  refine m_iconst C (0 : Int32) dX6_splitOf_2 (by decide) ?_
  refine m_istore_n C [(2, .int (0 : Int32)), (1, .int (1 : Int32)), (0, .int n0)] dX6_splitOf_3 (by decide) rfl ?_
  have L4 : ∀ (n4 : Nat) (x3 : Int32) (x4 : Int32) (g5 : Mem), (7 - x4.toInt).toNat < n4 → Inv g5 → Kp [] g g5 → 0 ≤ x4.toInt ∧ x4.toInt ≤ 6 → 1 ≤ x3.toInt ∧ x3.toInt < n0.toInt → Wm X p l e (rmD 0) s m ([.int n0] : List Value).toArray below meth c 3 0 0 (MQ below (cQ X (pI (fun r g2 => Inv g2 ∧ Kp [] g g2 ∧ 1 ≤ r.toInt ∧ r.toInt < n0.toInt))) ([.int n0] : List Value).toArray s 0 0 (Ab X)) g5 4 [(0, .int n0), (1, .int x3), (2, .int x4)] [] := by
    intro n4
    induction n4 with
    | zero => intro x3 x4 g5 hm; exact absurd hm (Nat.not_lt_zero _)
    | succ n4 ih4 =>
      intro x3 x4 g5 hm4 hI6 hK7 i8 i9
      try obtain ⟨i8a, i8b⟩ := i8
      try obtain ⟨i9a, i9b⟩ := i9
      refine m_iload_n C dX6_splitOf_4 2 rfl ?_
      refine m_bipush C (6 : Int32) dX6_splitOf_5 (by decide) ?_
      refine m_icmp_ge C 27 dX6_splitOf_7 (by decide) (fun h10 => ?_) (fun h10 => ?_)
      · skip
        have th10 := i_le h10
        rw [show (6 : Int32).toInt = 6 by decide] at th10
        refine m_iload_n C dX6_splitOf_27 1 rfl ?_
        exact m_iret C dX6_splitOf_28 ⟨_, rfl, hI6, hK7, (by omega)⟩
      · skip
        have th10 := i_nle h10
        rw [show (6 : Int32).toInt = 6 by decide] at th10
        refine m_iconst C (2 : Int32) dX6_splitOf_10 (by decide) ?_
        refine m_iload_n C dX6_splitOf_11 1 rfl ?_
        refine m_imul C dX6_splitOf_12 ?_
        refine m_iload_n C dX6_splitOf_13 0 rfl ?_
        have t11 : ((2 : Int32) * x3).toInt = (2 : Int) * x3.toInt := i_mul (by decide) rfl (by omega) (by omega)
        refine m_icmp_ge C 27 dX6_splitOf_14 (by decide) (fun h12 => ?_) (fun h12 => ?_)
        · skip
          have th12 := i_le h12
          refine m_iload_n C dX6_splitOf_27 1 rfl ?_
          exact m_iret C dX6_splitOf_28 ⟨_, rfl, hI6, hK7, (by omega)⟩
        · skip
          have th12 := i_nle h12
          refine m_iconst C (2 : Int32) dX6_splitOf_17 (by decide) ?_
          refine m_iload_n C dX6_splitOf_18 1 rfl ?_
          refine m_imul C dX6_splitOf_19 ?_
          refine m_name (fun x13 ex13 => ?_)
          have t14 : ((2 : Int32) * x3).toInt = (2 : Int) * x3.toInt := i_mul (by decide) rfl (by omega) (by omega)
          have t15 : x13.toInt = ((2 : Int) * x3.toInt) := (congrArg Int32.toInt ex13).trans t14
          refine m_istore_n C [(1, .int x13), (0, .int n0), (2, .int x4)] dX6_splitOf_20 (by decide) rfl ?_
          obtain ⟨x16, ex16⟩ : ∃ z : Int32, z = x4 + Int32.ofInt 1 := ⟨_, rfl⟩
          have t17 : (x4 + (Int32.ofInt 1)).toInt = x4.toInt + (1 : Int) := i_add rfl (by decide) (by omega) (by omega)
          have t18 : x16.toInt = (x4.toInt + (1 : Int)) := (congrArg Int32.toInt ex16).trans t17
          refine m_iinc C x16 [(2, .int x16), (1, .int x13), (0, .int n0)] dX6_splitOf_21 (q := 2) rfl ex16.symm (by decide) rfl ?_
          refine m_goto C 4 dX6_splitOf_24 (by decide) ?_
          refine m_lv [2, 1, 0] rfl ?_
          exact ih4 x13 x16 g5 (by omega) hI6 hK7 (by omega) (by omega)
  have t19 : (1 : Int32).toInt = 1 := by decide
  have t20 : (0 : Int32).toInt = 0 := by decide
  refine m_lv [2, 1, 0] rfl ?_
  exact L4 (((7 - (0 : Int32).toInt).toNat) + 1) (1 : Int32) (0 : Int32) g (Nat.lt_succ_self _) hI Kp.rf (by omega) (by omega)
set_option maxRecDepth 20000 in
set_option maxHeartbeats 4000000 in
theorem c_X6_addRun (l : Launch) {X : XT} (hX : Lok X) (g : Mem) (a : Int32) (b : Int32) (hI : Inv g) (h_a : 0 ≤ a.toInt ∧ a.toInt ≤ 60) (h_b : 0 ≤ b.toInt ∧ b.toInt ≤ 60) : Ctr l X yX6_addRun cX6_addRun 3 none (rmD 0) [.ref (aL X 20), .int a, .int b] g (pV (fun g2 => Inv g2 ∧ Kp [20, 23, 24] g g2)) := by
  refine Ctr.of (lv := [(0, .ref (aL X 20)), (1, .int a), (2, .int b)]) hX (by decide) rfl (Nat.le_of_ble_eq_true rfl) ?_
  intro p e s m below meth c C
  refine m_aload_n C dX6_addRun_0 0 rfl ?_
  refine m_geti (rf := "") C 4 rfl gd6 (by decide) sh_20 rfl dX6_addRun_1 lk_X6_27 ?_
  have r1 := iv_runs hI
  refine m_bipush C (8 : Int32) dX6_addRun_4 (by decide) ?_
  refine m_icmp_ge C 39 dX6_addRun_6 (by decide) (fun h2 => ?_) (fun h2 => ?_)
  · skip
    have th2 := i_le h2
    rw [show (8 : Int32).toInt = 8 by decide] at th2
    exact m_vret C dX6_addRun_39 ⟨rfl, hI, Kp.rf⟩
  · skip
    have th2 := i_nle h2
    rw [show (8 : Int32).toInt = 8 by decide] at th2
    refine m_aload_n C dX6_addRun_9 0 rfl ?_
    refine m_getr (rf := "") C 2 rfl gd6 (by decide) sh_20 rfl dX6_addRun_10 lk_X6_20 ?_
    refine m_aload_n C dX6_addRun_13 0 rfl ?_
    refine m_geti (rf := "") C 4 rfl gd6 (by decide) sh_20 rfl dX6_addRun_14 lk_X6_27 ?_
    have r3 := iv_runs hI
    refine m_iload_n C dX6_addRun_17 1 rfl ?_
    refine m_iast C sh_23 (i_in (by omega) (by omega)) dX6_addRun_18 ?_
    refine m_mem (fun g4 eg4 => ?_)
    have hI5 : Inv g4 := by rw [eg4]; exact hI.up (ok_sts (by omega) (by omega))
    have hK6 : Kp [20, 23, 24] g g4 := by rw [eg4]; exact Kp.up Kp.rf (by decide) (Or.inl (by decide)) (Or.inl (by decide))
    have ev7 : g4 20 4 = g 20 4 := by rw [eg4]; exact up2_nei (Or.inl (by decide))
    have tev7 := congrArg Int32.toInt ev7
    refine m_aload_n C dX6_addRun_19 0 rfl ?_
    refine m_getr (rf := "") C 3 rfl gd6 (by decide) sh_20 rfl dX6_addRun_20 lk_X6_24 ?_
    refine m_aload_n C dX6_addRun_23 0 rfl ?_
    refine m_geti (rf := "") C 4 rfl gd6 (by decide) sh_20 rfl dX6_addRun_24 lk_X6_27 ?_
    have r8 := iv_runs hI5
    refine m_iload_n C dX6_addRun_27 2 rfl ?_
    refine m_iast C sh_24 (i_in (by omega) (by omega)) dX6_addRun_28 ?_
    refine m_mem (fun g9 eg9 => ?_)
    have hI10 : Inv g9 := by rw [eg9]; exact hI5.up (ok_ends (by omega) (by omega))
    have hK11 : Kp [20, 23, 24] g g9 := by rw [eg9]; exact Kp.up hK6 (by decide) (Or.inl (by decide)) (Or.inl (by decide))
    have ev12 : g9 20 4 = g4 20 4 := by rw [eg9]; exact up2_nei (Or.inl (by decide))
    have tev12 := congrArg Int32.toInt ev12
    refine m_aload_n C dX6_addRun_29 0 rfl ?_
    refine m_dup C dX6_addRun_30 rfl ?_
    refine m_geti (rf := "") C 4 rfl gd6 (by decide) sh_20 rfl dX6_addRun_31 lk_X6_27 ?_
    have r13 := iv_runs hI10
    refine m_iconst C (1 : Int32) dX6_addRun_34 (by decide) ?_
    refine m_iadd C dX6_addRun_35 ?_
    have t14 : ((g9 20 4) + (1 : Int32)).toInt = (g9 20 4).toInt + (1 : Int) := i_add rfl (by decide) (by omega) (by omega)
    refine m_put (rf := "") C 4 rfl gd6 (by decide) tyX6 tyX6_ok nmX6 rfl (tyX6_ok 4 (by decide)) rfl rfl sh_20 rfl dX6_addRun_36 lk_X6_27 ?_
    refine m_mem (fun g15 eg15 => ?_)
    have hI16 : Inv g15 := by rw [eg15]; exact hI10.up (ok_runs (by omega) (by omega))
    have hK17 : Kp [20, 23, 24] g g15 := by rw [eg15]; exact Kp.up hK11 (by decide) (Or.inl (by decide)) (Or.inl (by decide))
    exact m_vret C dX6_addRun_39 ⟨rfl, hI16, hK17⟩
set_option maxRecDepth 20000 in
set_option maxHeartbeats 4000000 in
theorem c_X6_fillFromRuns (l : Launch) {X : XT} (hX : Lok X) (g : Mem)  (hI : Inv g) : Ctr l X yX6_fillFromRuns cX6_fillFromRuns 3 (some .int) (rmD 5) [.ref (aL X 20)] g (pI (fun r g2 => Inv g2 ∧ Kp [9, 10, 11, 12, 20, 22] g g2)) := by
  refine Ctr.of (lv := [(0, .ref (aL X 20))]) hX (by decide) rfl (Nat.le_of_ble_eq_true rfl) ?_
  intro p e s m below meth c C
  refine m_iconst C (0 : Int32) dX6_fillFromRuns_0 (by decide) ?_
  refine m_istore_n C [(1, .int (0 : Int32)), (0, .ref (aL X 20))] dX6_fillFromRuns_1 (by decide) rfl ?_
  have L2 : ∀ (n2 : Nat) (x2 : Int32) (g3 : Mem), (9 - x2.toInt).toNat < n2 → Inv g3 → Kp [9, 10, 11, 12, 20, 22] g g3 → 0 ≤ x2.toInt ∧ x2.toInt ≤ 8 → Wm X p l e (rmD 5) s m ([.ref (aL X 20)] : List Value).toArray below meth c 3 0 0 (MQ below (cQ X (pI (fun r g2 => Inv g2 ∧ Kp [9, 10, 11, 12, 20, 22] g g2))) ([.ref (aL X 20)] : List Value).toArray s 0 0 (Ab X)) g3 2 [(0, .ref (aL X 20)), (1, .int x2)] [] := by
    intro n2
    induction n2 with
    | zero => intro x2 g3 hm; exact absurd hm (Nat.not_lt_zero _)
    | succ n2 ih2 =>
      intro x2 g3 hm2 hI4 hK5 i6
      try obtain ⟨i6a, i6b⟩ := i6
      refine m_iload_n C dX6_fillFromRuns_2 1 rfl ?_
      refine m_aload_n C dX6_fillFromRuns_3 0 rfl ?_
      refine m_geti (rf := "") C 4 rfl gd6 (by decide) sh_20 rfl dX6_fillFromRuns_4 lk_X6_27 ?_
      have r7 := iv_runs hI4
      refine m_icmp_ge C 49 dX6_fillFromRuns_7 (by decide) (fun h8 => ?_) (fun h8 => ?_)
      · skip
        have th8 := i_le h8
        refine m_aload_n C dX6_fillFromRuns_49 0 rfl ?_
        refine m_aload_n C dX6_fillFromRuns_50 0 rfl ?_
        refine m_geti (rf := "") C 4 rfl gd6 (by decide) sh_20 rfl dX6_fillFromRuns_51 lk_X6_27 ?_
        have r9 := iv_runs hI4
        refine m_put (rf := "") C 5 rfl gd6 (by decide) tyX6 tyX6_ok nmX6 rfl (tyX6_ok 5 (by decide)) rfl rfl sh_20 rfl dX6_fillFromRuns_54 lk_X6_31 ?_
        refine m_mem (fun g10 eg10 => ?_)
        have hI11 : Inv g10 := by rw [eg10]; exact hI4.up (ok_psize (by omega) (by omega))
        have hK12 : Kp [9, 10, 11, 12, 20, 22] g g10 := by rw [eg10]; exact Kp.up hK5 (by decide) (Or.inl (by decide)) (Or.inl (by decide))
        have ev13 : g10 20 4 = g3 20 4 := by rw [eg10]; exact up2_nei (Or.inr (by decide))
        have tev13 := congrArg Int32.toInt ev13
        refine m_aload_n C dX6_fillFromRuns_57 0 rfl ?_
        refine m_geti (rf := "") C 5 rfl gd6 (by decide) sh_20 rfl dX6_fillFromRuns_58 lk_X6_31 ?_
        have r14 := iv_psize hI11
        exact m_iret C dX6_fillFromRuns_61 ⟨_, rfl, hI11, hK12⟩
      · skip
        have th8 := i_nle h8
        refine m_aload_n C dX6_fillFromRuns_10 0 rfl ?_
        refine m_geti (rf := "") C 4 rfl gd6 (by decide) sh_20 rfl dX6_fillFromRuns_11 lk_X6_27 ?_
        have r15 := iv_runs hI4
        refine m_iconst C (1 : Int32) dX6_fillFromRuns_14 (by decide) ?_
        refine m_isub C dX6_fillFromRuns_15 ?_
        refine m_iload_n C dX6_fillFromRuns_16 1 rfl ?_
        refine m_isub C dX6_fillFromRuns_17 ?_
        refine m_name (fun x16 ex16 => ?_)
        have t17 : ((g3 20 4) - (1 : Int32)).toInt = (g3 20 4).toInt - (1 : Int) := i_sub rfl (by decide) (by omega) (by omega)
        have t18 : (((g3 20 4) - (1 : Int32)) - x2).toInt = ((g3 20 4).toInt - (1 : Int)) - x2.toInt := i_sub t17 rfl (by omega) (by omega)
        have t19 : x16.toInt = (((g3 20 4).toInt - (1 : Int)) - x2.toInt) := (congrArg Int32.toInt ex16).trans t18
        refine m_istore_n C [(2, .int x16), (0, .ref (aL X 20)), (1, .int x2)] dX6_fillFromRuns_18 (by decide) rfl ?_
        refine m_aload_n C dX6_fillFromRuns_19 1 rfl ?_
        refine m_getr (rf := "") C 0 rfl gd6 (by decide) sh_20 rfl dX6_fillFromRuns_20 lk_X6_34 ?_
        refine m_aload_n C dX6_fillFromRuns_23 1 rfl ?_
        refine m_getr (rf := "") C 2 rfl gd6 (by decide) sh_20 rfl dX6_fillFromRuns_24 lk_X6_20 ?_
        refine m_iload_n C dX6_fillFromRuns_27 0 rfl ?_
        refine m_iald C sh_23 (i_in (by omega) (by omega)) dX6_fillFromRuns_28 ?_
        have r20 := iv_sts hI4 x16.toNatClampNeg
        refine m_aload_n C dX6_fillFromRuns_29 1 rfl ?_
        refine m_getr (rf := "") C 3 rfl gd6 (by decide) sh_20 rfl dX6_fillFromRuns_30 lk_X6_24 ?_
        refine m_iload_n C dX6_fillFromRuns_33 0 rfl ?_
        refine m_iald C sh_24 (i_in (by omega) (by omega)) dX6_fillFromRuns_34 ?_
        have r21 := iv_ends hI4 x16.toNatClampNeg
        refine m_aload_n C dX6_fillFromRuns_35 1 rfl ?_
        refine m_getr (rf := "") C 1 rfl gd6 (by decide) sh_20 rfl dX6_fillFromRuns_36 lk_X6_14 ?_
        refine m_iload_n C dX6_fillFromRuns_39 2 rfl ?_
        refine m_invVN C cal_X7_rootOf sh_13 rfl (c_X7_rootOf_21 l hX g3 (g3 23 x16.toNatClampNeg) (g3 24 x16.toNatClampNeg) x2 hI4 (by omega) (by omega) (by omega)) lk_X6_50 im_X7_rootOf se_X7_rootOf (by decide) rfl rfl (Nat.le_of_ble_eq_true rfl) dX6_fillFromRuns_40 ⟨Nat.le_refl _, Nat.le_refl _⟩ (rV fun g23 q24 => ?_)
        obtain ⟨hI25, hK26⟩ := q24
        have ev27 : g23 20 4 = g3 20 4 := congrFun (hK26.1 20 (by decide)) 4
        have tev27 := congrArg Int32.toInt ev27
        have hK28 : Kp [9, 10, 11, 12, 20, 22] g g23 := (hK5).tr hK26 (by decide)
        obtain ⟨x29, ex29⟩ : ∃ z : Int32, z = x2 + Int32.ofInt 1 := ⟨_, rfl⟩
        have t30 : (x2 + (Int32.ofInt 1)).toInt = x2.toInt + (1 : Int) := i_add rfl (by decide) (by omega) (by omega)
        have t31 : x29.toInt = (x2.toInt + (1 : Int)) := (congrArg Int32.toInt ex29).trans t30
        refine m_iinc C x29 [(1, .int x29), (2, .int x16), (0, .ref (aL X 20))] dX6_fillFromRuns_43 (q := 2) rfl ex29.symm (by decide) rfl ?_
        refine m_goto C 2 dX6_fillFromRuns_46 (by decide) ?_
        refine m_lv [2, 0] rfl ?_
        exact ih2 x29 g23 (by omega) hI25 hK28 (by omega)
  have t32 : (0 : Int32).toInt = 0 := by decide
  refine m_lv [1, 0] rfl ?_
  exact L2 (((9 - (0 : Int32).toInt).toNat) + 1) (0 : Int32) g (Nat.lt_succ_self _) hI Kp.rf (by omega)
set_option maxRecDepth 20000 in
set_option maxHeartbeats 4000000 in
theorem c_X6_becomePath (l : Launch) {X : XT} (hX : Lok X) (g : Mem) (i0 : Int32) (n0 : Int32) (hI : Inv g) (h_n0 : 0 ≤ n0.toInt ∧ n0.toInt ≤ 60) : Ctr l X yX6_becomePath cX6_becomePath 7 (some .int) (rmD 6) [.ref (aL X 20), .int i0, .int n0] g (pI (fun r g2 => Inv g2 ∧ Kp [9, 10, 11, 12, 20, 22, 23, 24] g g2)) := by
  refine Ctr.of (lv := [(0, .ref (aL X 20)), (1, .int i0), (2, .int n0)]) hX (by decide) rfl (Nat.le_of_ble_eq_true rfl) ?_
  intro p e s m below meth c C
  refine m_iconst C (0 : Int32) dX6_becomePath_0 (by decide) ?_
  refine m_istore_n C [(3, .int (0 : Int32)), (0, .ref (aL X 20)), (1, .int i0), (2, .int n0)] dX6_becomePath_1 (by decide) rfl ?_
  refine m_iload_n C dX6_becomePath_2 3 rfl ?_
  refine m_istore C [(4, .int n0), (3, .int (0 : Int32)), (0, .ref (aL X 20)), (1, .int i0), (2, .int n0)] dX6_becomePath_3 (by decide) rfl ?_
  refine m_aload_n C dX6_becomePath_5 2 rfl ?_
  refine m_iconst C (0 : Int32) dX6_becomePath_6 (by decide) ?_
  refine m_put (rf := "") C 4 rfl gd6 (by decide) tyX6 tyX6_ok nmX6 rfl (tyX6_ok 4 (by decide)) rfl rfl sh_20 rfl dX6_becomePath_7 lk_X6_27 ?_
  refine m_mem (fun g3 eg3 => ?_)
  have hI4 : Inv g3 := by rw [eg3]; exact hI.up (ok_runs (by decide) (by decide))
  have hK5 : Kp [9, 10, 11, 12, 20, 22, 23, 24] g g3 := by rw [eg3]; exact Kp.up Kp.rf (by decide) (Or.inl (by decide)) (Or.inl (by decide))
  refine m_iconst C (0 : Int32) dX6_becomePath_10 (by decide) ?_
  refine m_istore C [(5, .int (0 : Int32)), (4, .int n0), (3, .int (0 : Int32)), (0, .ref (aL X 20)), (1, .int i0), (2, .int n0)] dX6_becomePath_11 (by decide) rfl ?_
  have L13 : ∀ (n13 : Nat) (x7 : Int32) (x8 : Int32) (x9 : Int32) (g10 : Mem), (9 - x9.toInt).toNat < n13 → Inv g10 → Kp [9, 10, 11, 12, 20, 22, 23, 24] g g10 → 0 ≤ x9.toInt ∧ x9.toInt ≤ 8 → 0 ≤ x7.toInt ∧ x7.toInt ≤ x8.toInt ∧ x8.toInt ≤ 60 → Wm X p l e (rmD 6) s m ([.ref (aL X 20), .int i0, .int n0] : List Value).toArray below meth c 7 0 0 (MQ below (cQ X (pI (fun r g2 => Inv g2 ∧ Kp [9, 10, 11, 12, 20, 22, 23, 24] g g2))) ([.ref (aL X 20), .int i0, .int n0] : List Value).toArray s 0 0 (Ab X)) g10 13 [(0, .ref (aL X 20)), (1, .int i0), (2, .int n0), (3, .int x7), (4, .int x8), (5, .int x9)] [] := by
    intro n13
    induction n13 with
    | zero => intro x7 x8 x9 g10 hm; exact absurd hm (Nat.not_lt_zero _)
    | succ n13 ih13 =>
      intro x7 x8 x9 g10 hm13 hI11 hK12 i13 i14
      try obtain ⟨i13a, i13b⟩ := i13
      try obtain ⟨i14a, i14b⟩ := i14
      refine m_iload C dX6_becomePath_13 5 rfl ?_
      refine m_bipush C (8 : Int32) dX6_becomePath_15 (by decide) ?_
      refine m_icmp_ge C 76 dX6_becomePath_17 (by decide) (fun h15 => ?_) (fun h15 => ?_)
      · skip
        have th15 := i_le h15
        rw [show (8 : Int32).toInt = 8 by decide] at th15
        refine m_aload_n C dX6_becomePath_76 0 rfl ?_
        refine m_invV C cal_X6_fillFromRuns sh_20 rfl (c_X6_fillFromRuns l hX g10  hI11) lk_X6_46 im_X6_fillFromRuns se_X6_fillFromRuns (by decide) rfl rfl (Nat.le_of_ble_eq_true rfl) dX6_becomePath_77 ⟨Nat.le_refl _, Nat.le_refl _⟩ (rI fun r16 g17 q18 => ?_)
        obtain ⟨hI19, hK20⟩ := q18
        have hK21 : Kp [9, 10, 11, 12, 20, 22, 23, 24] g g17 := (hK12).tr hK20 (by decide)
        exact m_iret C dX6_becomePath_80 ⟨_, rfl, hI19, hK21⟩
      · skip
        have th15 := i_nle h15
        rw [show (8 : Int32).toInt = 8 by decide] at th15
        refine m_iload C dX6_becomePath_20 4 rfl ?_
        refine m_iload_n C dX6_becomePath_22 3 rfl ?_
        refine m_isub C dX6_becomePath_23 ?_
        refine m_iconst C (1 : Int32) dX6_becomePath_24 (by decide) ?_
        have t22 : (x8 - x7).toInt = x8.toInt - x7.toInt := i_sub rfl rfl (by omega) (by omega)
        refine m_icmp_le C 76 dX6_becomePath_25 (by decide) (fun h23 => ?_) (fun h23 => ?_)
        · skip
          have th23 := i_le h23
          rw [show (1 : Int32).toInt = 1 by decide] at th23
          refine m_aload_n C dX6_becomePath_76 0 rfl ?_
          refine m_invV C cal_X6_fillFromRuns sh_20 rfl (c_X6_fillFromRuns l hX g10  hI11) lk_X6_46 im_X6_fillFromRuns se_X6_fillFromRuns (by decide) rfl rfl (Nat.le_of_ble_eq_true rfl) dX6_becomePath_77 ⟨Nat.le_refl _, Nat.le_refl _⟩ (rI fun r24 g25 q26 => ?_)
          obtain ⟨hI27, hK28⟩ := q26
          have hK29 : Kp [9, 10, 11, 12, 20, 22, 23, 24] g g25 := (hK12).tr hK28 (by decide)
          exact m_iret C dX6_becomePath_80 ⟨_, rfl, hI27, hK29⟩
        · skip
          have th23 := i_nle h23
          rw [show (1 : Int32).toInt = 1 by decide] at th23
          refine m_iload_n C dX6_becomePath_28 3 rfl ?_
          refine m_iload C dX6_becomePath_29 4 rfl ?_
          refine m_iload_n C dX6_becomePath_31 3 rfl ?_
          refine m_isub C dX6_becomePath_32 ?_
          have t30 : (x8 - x7).toInt = x8.toInt - x7.toInt := i_sub rfl rfl (by omega) (by omega)
          refine m_invS C cal_X6_splitOf (c_X6_splitOf l hX g10 (x8 - x7) hI11 (by omega)) lk_X6_38 st_X6_splitOf (by decide) rfl rfl (Nat.le_of_ble_eq_true rfl) dX6_becomePath_33 ⟨Nat.le_refl _, Nat.le_refl _⟩ (rI fun r31 g32 q33 => ?_)
          obtain ⟨hI34, hK35, p36⟩ := q33
          have hK37 : Kp [9, 10, 11, 12, 20, 22, 23, 24] g g32 := (hK12).tr hK35 (by decide)
          refine m_iadd C dX6_becomePath_36 ?_
          refine m_name (fun x38 ex38 => ?_)
          have t39 : (x7 + r31).toInt = x7.toInt + r31.toInt := i_add rfl rfl (by omega) (by omega)
          have t40 : x38.toInt = (x7.toInt + r31.toInt) := (congrArg Int32.toInt ex38).trans t39
          refine m_istore C [(6, .int x38), (0, .ref (aL X 20)), (1, .int i0), (2, .int n0), (3, .int x7), (4, .int x8), (5, .int x9)] dX6_becomePath_37 (by decide) rfl ?_
          refine m_iload_n C dX6_becomePath_39 2 rfl ?_
          refine m_iload C dX6_becomePath_40 0 rfl ?_
          refine m_icmp_ge C 60 dX6_becomePath_42 (by decide) (fun h41 => ?_) (fun h41 => ?_)
          · skip
            have th41 := i_le h41
            refine m_aload_n C dX6_becomePath_60 1 rfl ?_
            refine m_iload_n C dX6_becomePath_61 4 rfl ?_
            refine m_iload C dX6_becomePath_62 0 rfl ?_
            refine m_invV C cal_X6_addRun sh_20 rfl (c_X6_addRun l hX g32 x7 x38 hI34 (by omega) (by omega)) lk_X6_42 im_X6_addRun se_X6_addRun (by decide) rfl rfl (Nat.le_of_ble_eq_true rfl) dX6_becomePath_64 ⟨Nat.le_refl _, Nat.le_refl _⟩ (rV fun g43 q44 => ?_)
            obtain ⟨hI45, hK46⟩ := q44
            have hK47 : Kp [9, 10, 11, 12, 20, 22, 23, 24] g g43 := (hK37).tr hK46 (by decide)
            refine m_iload C dX6_becomePath_67 0 rfl ?_
            refine m_istore_n C [(3, .int x38), (6, .int x38), (0, .ref (aL X 20)), (1, .int i0), (2, .int n0), (4, .int x8), (5, .int x9)] dX6_becomePath_69 (by decide) rfl ?_
            obtain ⟨x49, ex49⟩ : ∃ z : Int32, z = x9 + Int32.ofInt 1 := ⟨_, rfl⟩
            have t50 : (x9 + (Int32.ofInt 1)).toInt = x9.toInt + (1 : Int) := i_add rfl (by decide) (by omega) (by omega)
            have t51 : x49.toInt = (x9.toInt + (1 : Int)) := (congrArg Int32.toInt ex49).trans t50
            refine m_iinc C x49 [(5, .int x49), (3, .int x38), (6, .int x38), (0, .ref (aL X 20)), (1, .int i0), (2, .int n0), (4, .int x8)] dX6_becomePath_70 (q := 6) rfl ex49.symm (by decide) rfl ?_
            refine m_goto C 13 dX6_becomePath_73 (by decide) ?_
            refine m_lv [3, 4, 5, 1, 6, 0] rfl ?_
            exact ih13 x38 x8 x49 g43 (by omega) hI45 hK47 (by omega) (by omega)
          · skip
            have th41 := i_nle h41
            refine m_aload_n C dX6_becomePath_45 1 rfl ?_
            refine m_iload C dX6_becomePath_46 0 rfl ?_
            refine m_iload C dX6_becomePath_48 5 rfl ?_
            refine m_invV C cal_X6_addRun sh_20 rfl (c_X6_addRun l hX g32 x38 x8 hI34 (by omega) (by omega)) lk_X6_42 im_X6_addRun se_X6_addRun (by decide) rfl rfl (Nat.le_of_ble_eq_true rfl) dX6_becomePath_50 ⟨Nat.le_refl _, Nat.le_refl _⟩ (rV fun g53 q54 => ?_)
            obtain ⟨hI55, hK56⟩ := q54
            have hK57 : Kp [9, 10, 11, 12, 20, 22, 23, 24] g g53 := (hK37).tr hK56 (by decide)
            refine m_iload C dX6_becomePath_53 0 rfl ?_
            refine m_istore C [(4, .int x38), (6, .int x38), (0, .ref (aL X 20)), (1, .int i0), (2, .int n0), (3, .int x7), (5, .int x9)] dX6_becomePath_55 (by decide) rfl ?_
            refine m_goto C 70 dX6_becomePath_57 (by decide) ?_
            obtain ⟨x59, ex59⟩ : ∃ z : Int32, z = x9 + Int32.ofInt 1 := ⟨_, rfl⟩
            have t60 : (x9 + (Int32.ofInt 1)).toInt = x9.toInt + (1 : Int) := i_add rfl (by decide) (by omega) (by omega)
            have t61 : x59.toInt = (x9.toInt + (1 : Int)) := (congrArg Int32.toInt ex59).trans t60
            refine m_iinc C x59 [(5, .int x59), (4, .int x38), (6, .int x38), (0, .ref (aL X 20)), (1, .int i0), (2, .int n0), (3, .int x7)] dX6_becomePath_70 (q := 6) rfl ex59.symm (by decide) rfl ?_
            refine m_goto C 13 dX6_becomePath_73 (by decide) ?_
            refine m_lv [3, 4, 5, 6, 1, 0] rfl ?_
            exact ih13 x7 x38 x59 g53 (by omega) hI55 hK57 (by omega) (by omega)
  have t62 : (0 : Int32).toInt = 0 := by decide
  have t63 : (0 : Int32).toInt = 0 := by decide
  refine m_lv [3, 4, 5, 2, 1, 0] rfl ?_
  exact L13 (((9 - (0 : Int32).toInt).toNat) + 1) (0 : Int32) n0 (0 : Int32) g3 (Nat.lt_succ_self _) hI4 hK5 (by omega) (by omega)
set_option maxRecDepth 20000 in
set_option maxHeartbeats 4000000 in
theorem c_X6_becomeSteps (l : Launch) {X : XT} (hX : Lok X) (g : Mem) (m0 : Int32) (n0 : Int32) (hI : Inv g) (h_m0 : 1 ≤ m0.toInt ∧ m0.toInt ≤ 60) (h_n0 : 0 ≤ n0.toInt ∧ n0.toInt ≤ 60) (h_mn : m0.toInt ≤ n0.toInt) : Ctr l X yX6_becomeSteps cX6_becomeSteps 7 (some .int) (rmD 6) [.ref (aL X 20), .int m0, .int n0] g (pI (fun r g2 => Inv g2 ∧ Kp [9, 10, 11, 12, 20, 22, 23, 24] g g2)) := by
  refine Ctr.of (lv := [(0, .ref (aL X 20)), (1, .int m0), (2, .int n0)]) hX (by decide) rfl (Nat.le_of_ble_eq_true rfl) ?_
  intro p e s m below meth c C
  refine m_iconst C (0 : Int32) dX6_becomeSteps_0 (by decide) ?_
  refine m_istore_n C [(3, .int (0 : Int32)), (0, .ref (aL X 20)), (1, .int m0), (2, .int n0)] dX6_becomeSteps_1 (by decide) rfl ?_
  refine m_iload_n C dX6_becomeSteps_2 3 rfl ?_
  refine m_istore C [(4, .int n0), (3, .int (0 : Int32)), (0, .ref (aL X 20)), (1, .int m0), (2, .int n0)] dX6_becomeSteps_3 (by decide) rfl ?_
  refine m_aload_n C dX6_becomeSteps_5 2 rfl ?_
  refine m_iconst C (0 : Int32) dX6_becomeSteps_6 (by decide) ?_
  refine m_put (rf := "") C 4 rfl gd6 (by decide) tyX6 tyX6_ok nmX6 rfl (tyX6_ok 4 (by decide)) rfl rfl sh_20 rfl dX6_becomeSteps_7 lk_X6_27 ?_
  refine m_mem (fun g3 eg3 => ?_)
  have hI4 : Inv g3 := by rw [eg3]; exact hI.up (ok_runs (by decide) (by decide))
  have hK5 : Kp [9, 10, 11, 12, 20, 22, 23, 24] g g3 := by rw [eg3]; exact Kp.up Kp.rf (by decide) (Or.inl (by decide)) (Or.inl (by decide))
  refine m_iconst C (0 : Int32) dX6_becomeSteps_10 (by decide) ?_
  refine m_istore C [(5, .int (0 : Int32)), (4, .int n0), (3, .int (0 : Int32)), (0, .ref (aL X 20)), (1, .int m0), (2, .int n0)] dX6_becomeSteps_11 (by decide) rfl ?_
  have L13 : ∀ (n13 : Nat) (x7 : Int32) (x8 : Int32) (x9 : Int32) (g10 : Mem), (9 - x9.toInt).toNat < n13 → Inv g10 → Kp [9, 10, 11, 12, 20, 22, 23, 24] g g10 → 0 ≤ x9.toInt ∧ x9.toInt ≤ 8 → 0 ≤ x7.toInt ∧ x7.toInt < m0.toInt ∧ m0.toInt ≤ x8.toInt ∧ x8.toInt ≤ 60 → Wm X p l e (rmD 6) s m ([.ref (aL X 20), .int m0, .int n0] : List Value).toArray below meth c 7 0 0 (MQ below (cQ X (pI (fun r g2 => Inv g2 ∧ Kp [9, 10, 11, 12, 20, 22, 23, 24] g g2))) ([.ref (aL X 20), .int m0, .int n0] : List Value).toArray s 0 0 (Ab X)) g10 13 [(0, .ref (aL X 20)), (1, .int m0), (2, .int n0), (3, .int x7), (4, .int x8), (5, .int x9)] [] := by
    intro n13
    induction n13 with
    | zero => intro x7 x8 x9 g10 hm; exact absurd hm (Nat.not_lt_zero _)
    | succ n13 ih13 =>
      intro x7 x8 x9 g10 hm13 hI11 hK12 i13 i14
      try obtain ⟨i13a, i13b⟩ := i13
      try obtain ⟨i14a, i14b⟩ := i14
      refine m_iload C dX6_becomeSteps_13 5 rfl ?_
      refine m_bipush C (8 : Int32) dX6_becomeSteps_15 (by decide) ?_
      refine m_icmp_ge C 74 dX6_becomeSteps_17 (by decide) (fun h15 => ?_) (fun h15 => ?_)
      · skip
        have th15 := i_le h15
        rw [show (8 : Int32).toInt = 8 by decide] at th15
        refine m_iload_n C dX6_becomeSteps_74 3 rfl ?_
        refine m_if_le C 85 dX6_becomeSteps_75 (by decide) (fun h16 => ?_) (fun h16 => ?_)
        · skip
          have th16 := i_le h16
          rw [show (0 : Int32).toInt = 0 by decide] at th16
          refine m_aload_n C dX6_becomeSteps_85 0 rfl ?_
          refine m_invV C cal_X6_fillFromRuns sh_20 rfl (c_X6_fillFromRuns l hX g10  hI11) lk_X6_46 im_X6_fillFromRuns se_X6_fillFromRuns (by decide) rfl rfl (Nat.le_of_ble_eq_true rfl) dX6_becomeSteps_86 ⟨Nat.le_refl _, Nat.le_refl _⟩ (rI fun r17 g18 q19 => ?_)
          obtain ⟨hI20, hK21⟩ := q19
          have hK22 : Kp [9, 10, 11, 12, 20, 22, 23, 24] g g18 := (hK12).tr hK21 (by decide)
          exact m_iret C dX6_becomeSteps_89 ⟨_, rfl, hI20, hK22⟩
        · skip
          have th16 := i_nle h16
          rw [show (0 : Int32).toInt = 0 by decide] at th16
          refine m_aload_n C dX6_becomeSteps_78 0 rfl ?_
          refine m_iload_n C dX6_becomeSteps_79 3 rfl ?_
          refine m_iload C dX6_becomeSteps_80 4 rfl ?_
          refine m_invV C cal_X6_addRun sh_20 rfl (c_X6_addRun l hX g10 x7 x8 hI11 (by omega) (by omega)) lk_X6_42 im_X6_addRun se_X6_addRun (by decide) rfl rfl (Nat.le_of_ble_eq_true rfl) dX6_becomeSteps_82 ⟨Nat.le_refl _, Nat.le_refl _⟩ (rV fun g24 q25 => ?_)
          obtain ⟨hI26, hK27⟩ := q25
          have hK28 : Kp [9, 10, 11, 12, 20, 22, 23, 24] g g24 := (hK12).tr hK27 (by decide)
          refine m_aload_n C dX6_becomeSteps_85 0 rfl ?_
          refine m_invV C cal_X6_fillFromRuns sh_20 rfl (c_X6_fillFromRuns l hX g24  hI26) lk_X6_46 im_X6_fillFromRuns se_X6_fillFromRuns (by decide) rfl rfl (Nat.le_of_ble_eq_true rfl) dX6_becomeSteps_86 ⟨Nat.le_refl _, Nat.le_refl _⟩ (rI fun r29 g30 q31 => ?_)
          obtain ⟨hI32, hK33⟩ := q31
          have hK34 : Kp [9, 10, 11, 12, 20, 22, 23, 24] g g30 := (hK28).tr hK33 (by decide)
          exact m_iret C dX6_becomeSteps_89 ⟨_, rfl, hI32, hK34⟩
      · skip
        have th15 := i_nle h15
        rw [show (8 : Int32).toInt = 8 by decide] at th15
        refine m_iload_n C dX6_becomeSteps_20 1 rfl ?_
        refine m_iload C dX6_becomeSteps_21 4 rfl ?_
        refine m_icmp_eq C 74 dX6_becomeSteps_23 (by decide) (fun h35 => ?_) (fun h35 => ?_)
        · skip
          have th35 := i_eq h35
          refine m_iload_n C dX6_becomeSteps_74 3 rfl ?_
          refine m_if_le C 85 dX6_becomeSteps_75 (by decide) (fun h36 => ?_) (fun h36 => ?_)
          · skip
            have th36 := i_le h36
            rw [show (0 : Int32).toInt = 0 by decide] at th36
            refine m_aload_n C dX6_becomeSteps_85 0 rfl ?_
            refine m_invV C cal_X6_fillFromRuns sh_20 rfl (c_X6_fillFromRuns l hX g10  hI11) lk_X6_46 im_X6_fillFromRuns se_X6_fillFromRuns (by decide) rfl rfl (Nat.le_of_ble_eq_true rfl) dX6_becomeSteps_86 ⟨Nat.le_refl _, Nat.le_refl _⟩ (rI fun r37 g38 q39 => ?_)
            obtain ⟨hI40, hK41⟩ := q39
            have hK42 : Kp [9, 10, 11, 12, 20, 22, 23, 24] g g38 := (hK12).tr hK41 (by decide)
            exact m_iret C dX6_becomeSteps_89 ⟨_, rfl, hI40, hK42⟩
          · skip
            have th36 := i_nle h36
            rw [show (0 : Int32).toInt = 0 by decide] at th36
            refine m_aload_n C dX6_becomeSteps_78 0 rfl ?_
            refine m_iload_n C dX6_becomeSteps_79 3 rfl ?_
            refine m_iload C dX6_becomeSteps_80 4 rfl ?_
            refine m_invV C cal_X6_addRun sh_20 rfl (c_X6_addRun l hX g10 x7 x8 hI11 (by omega) (by omega)) lk_X6_42 im_X6_addRun se_X6_addRun (by decide) rfl rfl (Nat.le_of_ble_eq_true rfl) dX6_becomeSteps_82 ⟨Nat.le_refl _, Nat.le_refl _⟩ (rV fun g44 q45 => ?_)
            obtain ⟨hI46, hK47⟩ := q45
            have hK48 : Kp [9, 10, 11, 12, 20, 22, 23, 24] g g44 := (hK12).tr hK47 (by decide)
            refine m_aload_n C dX6_becomeSteps_85 0 rfl ?_
            refine m_invV C cal_X6_fillFromRuns sh_20 rfl (c_X6_fillFromRuns l hX g44  hI46) lk_X6_46 im_X6_fillFromRuns se_X6_fillFromRuns (by decide) rfl rfl (Nat.le_of_ble_eq_true rfl) dX6_becomeSteps_86 ⟨Nat.le_refl _, Nat.le_refl _⟩ (rI fun r49 g50 q51 => ?_)
            obtain ⟨hI52, hK53⟩ := q51
            have hK54 : Kp [9, 10, 11, 12, 20, 22, 23, 24] g g50 := (hK48).tr hK53 (by decide)
            exact m_iret C dX6_becomeSteps_89 ⟨_, rfl, hI52, hK54⟩
        · skip
          have th35 := i_ne h35
          refine m_iload_n C dX6_becomeSteps_26 3 rfl ?_
          refine m_iload C dX6_becomeSteps_27 4 rfl ?_
          refine m_iload_n C dX6_becomeSteps_29 3 rfl ?_
          refine m_isub C dX6_becomeSteps_30 ?_
          have t55 : (x8 - x7).toInt = x8.toInt - x7.toInt := i_sub rfl rfl (by omega) (by omega)
          refine m_invS C cal_X6_splitOf (c_X6_splitOf l hX g10 (x8 - x7) hI11 (by omega)) lk_X6_38 st_X6_splitOf (by decide) rfl rfl (Nat.le_of_ble_eq_true rfl) dX6_becomeSteps_31 ⟨Nat.le_refl _, Nat.le_refl _⟩ (rI fun r56 g57 q58 => ?_)
          obtain ⟨hI59, hK60, p61⟩ := q58
          have hK62 : Kp [9, 10, 11, 12, 20, 22, 23, 24] g g57 := (hK12).tr hK60 (by decide)
          refine m_iadd C dX6_becomeSteps_34 ?_
          refine m_name (fun x63 ex63 => ?_)
          have t64 : (x7 + r56).toInt = x7.toInt + r56.toInt := i_add rfl rfl (by omega) (by omega)
          have t65 : x63.toInt = (x7.toInt + r56.toInt) := (congrArg Int32.toInt ex63).trans t64
          refine m_istore C [(6, .int x63), (0, .ref (aL X 20)), (1, .int m0), (2, .int n0), (3, .int x7), (4, .int x8), (5, .int x9)] dX6_becomeSteps_35 (by decide) rfl ?_
          refine m_iload_n C dX6_becomeSteps_37 2 rfl ?_
          refine m_iload C dX6_becomeSteps_38 0 rfl ?_
          refine m_icmp_gt C 58 dX6_becomeSteps_40 (by decide) (fun h66 => ?_) (fun h66 => ?_)
          · skip
            have th66 := i_lt h66
            refine m_aload_n C dX6_becomeSteps_58 1 rfl ?_
            refine m_iload_n C dX6_becomeSteps_59 4 rfl ?_
            refine m_iload C dX6_becomeSteps_60 0 rfl ?_
            refine m_invV C cal_X6_addRun sh_20 rfl (c_X6_addRun l hX g57 x7 x63 hI59 (by omega) (by omega)) lk_X6_42 im_X6_addRun se_X6_addRun (by decide) rfl rfl (Nat.le_of_ble_eq_true rfl) dX6_becomeSteps_62 ⟨Nat.le_refl _, Nat.le_refl _⟩ (rV fun g68 q69 => ?_)
            obtain ⟨hI70, hK71⟩ := q69
            have hK72 : Kp [9, 10, 11, 12, 20, 22, 23, 24] g g68 := (hK62).tr hK71 (by decide)
            refine m_iload C dX6_becomeSteps_65 0 rfl ?_
            refine m_istore_n C [(3, .int x63), (6, .int x63), (0, .ref (aL X 20)), (1, .int m0), (2, .int n0), (4, .int x8), (5, .int x9)] dX6_becomeSteps_67 (by decide) rfl ?_
            obtain ⟨x74, ex74⟩ : ∃ z : Int32, z = x9 + Int32.ofInt 1 := ⟨_, rfl⟩
            have t75 : (x9 + (Int32.ofInt 1)).toInt = x9.toInt + (1 : Int) := i_add rfl (by decide) (by omega) (by omega)
            have t76 : x74.toInt = (x9.toInt + (1 : Int)) := (congrArg Int32.toInt ex74).trans t75
            refine m_iinc C x74 [(5, .int x74), (3, .int x63), (6, .int x63), (0, .ref (aL X 20)), (1, .int m0), (2, .int n0), (4, .int x8)] dX6_becomeSteps_68 (q := 6) rfl ex74.symm (by decide) rfl ?_
            refine m_goto C 13 dX6_becomeSteps_71 (by decide) ?_
            refine m_lv [3, 4, 5, 1, 6, 0] rfl ?_
            exact ih13 x63 x8 x74 g68 (by omega) hI70 hK72 (by omega) (by omega)
          · skip
            have th66 := i_nlt h66
            refine m_aload_n C dX6_becomeSteps_43 1 rfl ?_
            refine m_iload C dX6_becomeSteps_44 0 rfl ?_
            refine m_iload C dX6_becomeSteps_46 5 rfl ?_
            refine m_invV C cal_X6_addRun sh_20 rfl (c_X6_addRun l hX g57 x63 x8 hI59 (by omega) (by omega)) lk_X6_42 im_X6_addRun se_X6_addRun (by decide) rfl rfl (Nat.le_of_ble_eq_true rfl) dX6_becomeSteps_48 ⟨Nat.le_refl _, Nat.le_refl _⟩ (rV fun g78 q79 => ?_)
            obtain ⟨hI80, hK81⟩ := q79
            have hK82 : Kp [9, 10, 11, 12, 20, 22, 23, 24] g g78 := (hK62).tr hK81 (by decide)
            refine m_iload C dX6_becomeSteps_51 0 rfl ?_
            refine m_istore C [(4, .int x63), (6, .int x63), (0, .ref (aL X 20)), (1, .int m0), (2, .int n0), (3, .int x7), (5, .int x9)] dX6_becomeSteps_53 (by decide) rfl ?_
            refine m_goto C 68 dX6_becomeSteps_55 (by decide) ?_
            obtain ⟨x84, ex84⟩ : ∃ z : Int32, z = x9 + Int32.ofInt 1 := ⟨_, rfl⟩
            have t85 : (x9 + (Int32.ofInt 1)).toInt = x9.toInt + (1 : Int) := i_add rfl (by decide) (by omega) (by omega)
            have t86 : x84.toInt = (x9.toInt + (1 : Int)) := (congrArg Int32.toInt ex84).trans t85
            refine m_iinc C x84 [(5, .int x84), (4, .int x63), (6, .int x63), (0, .ref (aL X 20)), (1, .int m0), (2, .int n0), (3, .int x7)] dX6_becomeSteps_68 (q := 6) rfl ex84.symm (by decide) rfl ?_
            refine m_goto C 13 dX6_becomeSteps_71 (by decide) ?_
            refine m_lv [3, 4, 5, 6, 1, 0] rfl ?_
            exact ih13 x7 x63 x84 g78 (by omega) hI80 hK82 (by omega) (by omega)
  have t87 : (0 : Int32).toInt = 0 := by decide
  have t88 : (0 : Int32).toInt = 0 := by decide
  refine m_lv [3, 4, 5, 2, 1, 0] rfl ?_
  exact L13 (((9 - (0 : Int32).toInt).toNat) + 1) (0 : Int32) n0 (0 : Int32) g3 (Nat.lt_succ_self _) hI4 hK5 (by omega) (by omega)
set_option maxRecDepth 20000 in
set_option maxHeartbeats 4000000 in
theorem c_X3_halve (l : Launch) {X : XT} (hX : Lok X) (g : Mem)  (hI : Inv g) : Ctr l X yX3_halve cX3_halve 1 none (rmD 0) [.ref (aL X 27)] g (pV (fun g2 => Inv g2 ∧ Kp [27] g g2)) := by
  refine Ctr.of (lv := [(0, .ref (aL X 27))]) hX (by decide) rfl (Nat.le_of_ble_eq_true rfl) ?_
  intro p e s m below meth c C
  refine m_aload_n C dX3_halve_0 0 rfl ?_
  refine m_aload_n C dX3_halve_1 0 rfl ?_
  refine m_geti (rf := "") C 4 rfl gd3 (by decide) sh_27 rfl dX3_halve_2 lk_X3_20 ?_
  refine m_iconst C (1 : Int32) dX3_halve_5 (by decide) ?_
  refine m_ishr C dX3_halve_6 ?_
  refine m_put (rf := "") C 4 rfl gd3 (by decide) tyX3 tyX3_ok nmX3 rfl (tyX3_ok 4 (by decide)) rfl rfl sh_27 rfl dX3_halve_7 lk_X3_20 ?_
  refine m_mem (fun g1 eg1 => ?_)
  have hI2 : Inv g1 := by rw [eg1]; exact hI.up (ok_any (by decide))
  have hK3 : Kp [27] g g1 := by rw [eg1]; exact Kp.up Kp.rf (by decide) (Or.inl (by decide)) (Or.inl (by decide))
  refine m_aload_n C dX3_halve_10 0 rfl ?_
  refine m_aload_n C dX3_halve_11 0 rfl ?_
  refine m_geti (rf := "") C 5 rfl gd3 (by decide) sh_27 rfl dX3_halve_12 lk_X3_24 ?_
  refine m_iconst C (1 : Int32) dX3_halve_15 (by decide) ?_
  refine m_ishr C dX3_halve_16 ?_
  refine m_put (rf := "") C 5 rfl gd3 (by decide) tyX3 tyX3_ok nmX3 rfl (tyX3_ok 5 (by decide)) rfl rfl sh_27 rfl dX3_halve_17 lk_X3_24 ?_
  refine m_mem (fun g4 eg4 => ?_)
  have hI5 : Inv g4 := by rw [eg4]; exact hI2.up (ok_any (by decide))
  have hK6 : Kp [27] g g4 := by rw [eg4]; exact Kp.up hK3 (by decide) (Or.inl (by decide)) (Or.inl (by decide))
  exact m_vret C dX3_halve_20 ⟨rfl, hI5, hK6⟩
set_option maxRecDepth 20000 in
set_option maxHeartbeats 4000000 in
theorem c_X3_comesFromLeft (l : Launch) {X : XT} (hX : Lok X) (g : Mem)  (hI : Inv g) : Ctr l X yX3_comesFromLeft cX3_comesFromLeft 1 (some .boolean) (rmD 0) [.ref (aL X 27)] g (pI (fun r g2 => g2 = g ∧ R01 r)) := by
  refine Ctr.of (lv := [(0, .ref (aL X 27))]) hX (by decide) rfl (Nat.le_of_ble_eq_true rfl) ?_
  intro p e s m below meth c C
  refine m_aload_n C dX3_comesFromLeft_0 0 rfl ?_
  refine m_geti (rf := "") C 4 rfl gd3 (by decide) sh_27 rfl dX3_comesFromLeft_1 lk_X3_20 ?_
  refine m_iconst C (1 : Int32) dX3_comesFromLeft_4 (by decide) ?_
  refine m_iand C dX3_comesFromLeft_5 ?_
  refine m_iconst C (1 : Int32) dX3_comesFromLeft_6 (by decide) ?_
  have t1 : 0 ≤ ((g 27 4) &&& (1 : Int32)).toInt ∧ ((g 27 4) &&& (1 : Int32)).toInt < 2 := i_and _ 1 (by decide) (by decide)
  refine m_icmp_eq C 21 dX3_comesFromLeft_7 (by decide) (fun h2 => ?_) (fun h2 => ?_)
  · skip
    have th2 := i_eq h2
    rw [show (1 : Int32).toInt = 1 by decide] at th2
    refine m_iconst C (1 : Int32) dX3_comesFromLeft_21 (by decide) ?_
    refine m_goto C 26 dX3_comesFromLeft_22 (by decide) ?_
    exact m_zret C dX3_comesFromLeft_26 (by decide) ⟨_, rfl, rfl, (by first | exact Or.inl rfl | exact Or.inr rfl)⟩
  · skip
    have th2 := i_ne h2
    rw [show (1 : Int32).toInt = 1 by decide] at th2
    refine m_aload_n C dX3_comesFromLeft_10 0 rfl ?_
    refine m_geti (rf := "") C 4 rfl gd3 (by decide) sh_27 rfl dX3_comesFromLeft_11 lk_X3_20 ?_
    refine m_aload_n C dX3_comesFromLeft_14 0 rfl ?_
    refine m_geti (rf := "") C 5 rfl gd3 (by decide) sh_27 rfl dX3_comesFromLeft_15 lk_X3_24 ?_
    refine m_icmp_ne C 25 dX3_comesFromLeft_18 (by decide) (fun h3 => ?_) (fun h3 => ?_)
    · skip
      have th3 := i_ne h3
      refine m_iconst C (0 : Int32) dX3_comesFromLeft_25 (by decide) ?_
      exact m_zret C dX3_comesFromLeft_26 (by decide) ⟨_, rfl, rfl, (by first | exact Or.inl rfl | exact Or.inr rfl)⟩
    · skip
      have th3 := i_eq h3
      refine m_iconst C (1 : Int32) dX3_comesFromLeft_21 (by decide) ?_
      refine m_goto C 26 dX3_comesFromLeft_22 (by decide) ?_
      exact m_zret C dX3_comesFromLeft_26 (by decide) ⟨_, rfl, rfl, (by first | exact Or.inl rfl | exact Or.inr rfl)⟩
set_option maxRecDepth 20000 in
set_option maxHeartbeats 4000000 in
theorem c_X3_skipLevels (l : Launch) {X : XT} (hX : Lok X) (g : Mem)  (hI : Inv g) : Ctr l X yX3_skipLevels cX3_skipLevels 2 none (rmD 1) [.ref (aL X 27)] g (pV (fun g2 => Inv g2 ∧ Kp [27] g g2)) := by
  refine Ctr.of (lv := [(0, .ref (aL X 27))]) hX (by decide) rfl (Nat.le_of_ble_eq_true rfl) ?_
  intro p e s m below meth c C
  refine m_iconst C (0 : Int32) dX3_skipLevels_0 (by decide) ?_
  refine m_istore_n C [(1, .int (0 : Int32)), (0, .ref (aL X 27))] dX3_skipLevels_1 (by decide) rfl ?_
  have L2 : ∀ (n2 : Nat) (x2 : Int32) (g3 : Mem), (7 - x2.toInt).toNat < n2 → Inv g3 → Kp [27] g g3 → 0 ≤ x2.toInt ∧ x2.toInt ≤ 6 → Wm X p l e (rmD 1) s m ([.ref (aL X 27)] : List Value).toArray below meth c 2 0 0 (MQ below (cQ X (pV (fun g2 => Inv g2 ∧ Kp [27] g g2))) ([.ref (aL X 27)] : List Value).toArray s 0 0 (Ab X)) g3 2 [(0, .ref (aL X 27)), (1, .int x2)] [] := by
    intro n2
    induction n2 with
    | zero => intro x2 g3 hm; exact absurd hm (Nat.not_lt_zero _)
    | succ n2 ih2 =>
      intro x2 g3 hm2 hI4 hK5 i6
      try obtain ⟨i6a, i6b⟩ := i6
      refine m_iload_n C dX3_skipLevels_2 1 rfl ?_
      refine m_bipush C (6 : Int32) dX3_skipLevels_3 (by decide) ?_
      refine m_icmp_ge C 34 dX3_skipLevels_5 (by decide) (fun h7 => ?_) (fun h7 => ?_)
      · skip
        have th7 := i_le h7
        rw [show (6 : Int32).toInt = 6 by decide] at th7
        exact m_vret C dX3_skipLevels_34 ⟨rfl, hI4, hK5⟩
      · skip
        have th7 := i_nle h7
        rw [show (6 : Int32).toInt = 6 by decide] at th7
        refine m_aload_n C dX3_skipLevels_8 0 rfl ?_
        refine m_geti (rf := "") C 4 rfl gd3 (by decide) sh_27 rfl dX3_skipLevels_9 lk_X3_20 ?_
        refine m_if_eq C 34 dX3_skipLevels_12 (by decide) (fun h8 => ?_) (fun h8 => ?_)
        · skip
          have th8 := i_eq h8
          rw [show (0 : Int32).toInt = 0 by decide] at th8
          exact m_vret C dX3_skipLevels_34 ⟨rfl, hI4, hK5⟩
        · skip
          have th8 := i_ne h8
          rw [show (0 : Int32).toInt = 0 by decide] at th8
          refine m_aload_n C dX3_skipLevels_15 0 rfl ?_
          refine m_geti (rf := "") C 4 rfl gd3 (by decide) sh_27 rfl dX3_skipLevels_16 lk_X3_20 ?_
          refine m_iconst C (1 : Int32) dX3_skipLevels_19 (by decide) ?_
          refine m_iand C dX3_skipLevels_20 ?_
          have t9 : 0 ≤ ((g3 27 4) &&& (1 : Int32)).toInt ∧ ((g3 27 4) &&& (1 : Int32)).toInt < 2 := i_and _ 1 (by decide) (by decide)
          refine m_if_ne C 34 dX3_skipLevels_21 (by decide) (fun h10 => ?_) (fun h10 => ?_)
          · skip
            have th10 := i_ne h10
            rw [show (0 : Int32).toInt = 0 by decide] at th10
            exact m_vret C dX3_skipLevels_34 ⟨rfl, hI4, hK5⟩
          · skip
            have th10 := i_eq h10
            rw [show (0 : Int32).toInt = 0 by decide] at th10
            refine m_aload_n C dX3_skipLevels_24 0 rfl ?_
            refine m_invV C cal_X3_halve sh_27 rfl (c_X3_halve l hX g3  hI4) lk_X3_61 im_X3_halve se_X3_halve (by decide) rfl rfl (Nat.le_of_ble_eq_true rfl) dX3_skipLevels_25 ⟨Nat.le_refl _, Nat.le_refl _⟩ (rV fun g12 q13 => ?_)
            obtain ⟨hI14, hK15⟩ := q13
            have hK16 : Kp [27] g g12 := (hK5).tr hK15 (by decide)
            obtain ⟨x17, ex17⟩ : ∃ z : Int32, z = x2 + Int32.ofInt 1 := ⟨_, rfl⟩
            have t18 : (x2 + (Int32.ofInt 1)).toInt = x2.toInt + (1 : Int) := i_add rfl (by decide) (by omega) (by omega)
            have t19 : x17.toInt = (x2.toInt + (1 : Int)) := (congrArg Int32.toInt ex17).trans t18
            refine m_iinc C x17 [(1, .int x17), (0, .ref (aL X 27))] dX3_skipLevels_28 (q := 1) rfl ex17.symm (by decide) rfl ?_
            refine m_goto C 2 dX3_skipLevels_31 (by decide) ?_
            refine m_lv [1, 0] rfl ?_
            exact ih2 x17 g12 (by omega) hI14 hK16 (by omega)
  have t20 : (0 : Int32).toInt = 0 := by decide
  refine m_lv [1, 0] rfl ?_
  exact L2 (((7 - (0 : Int32).toInt).toNat) + 1) (0 : Int32) g (Nat.lt_succ_self _) hI Kp.rf (by omega)
set_option maxRecDepth 20000 in
set_option maxHeartbeats 4000000 in
theorem c_X3_startSteps (l : Launch) {X : XT} (hX : Lok X) (g : Mem) (m0 : Int32) (n0 : Int32) (hI : Inv g) : Ctr l X yX3_startSteps cX3_startSteps 4 none (rmD 1) [.ref (aL X 27), .int m0, .int n0] g (pV (fun g2 => Inv g2 ∧ Kp [27] g g2)) := by
  refine Ctr.of (lv := [(0, .ref (aL X 27)), (1, .int m0), (2, .int n0)]) hX (by decide) rfl (Nat.le_of_ble_eq_true rfl) ?_
  intro p e s m below meth c C
  refine m_aload_n C dX3_startSteps_0 0 rfl ?_
  refine m_iload_n C dX3_startSteps_1 1 rfl ?_
  refine m_iconst C (1 : Int32) dX3_startSteps_2 (by decide) ?_
  refine m_isub C dX3_startSteps_3 ?_
  refine m_put (rf := "") C 4 rfl gd3 (by decide) tyX3 tyX3_ok nmX3 rfl (tyX3_ok 4 (by decide)) rfl rfl sh_27 rfl dX3_startSteps_4 lk_X3_20 ?_
  refine m_mem (fun g1 eg1 => ?_)
  have hI2 : Inv g1 := by rw [eg1]; exact hI.up (ok_any (by decide))
  have hK3 : Kp [27] g g1 := by rw [eg1]; exact Kp.up Kp.rf (by decide) (Or.inl (by decide)) (Or.inl (by decide))
  refine m_aload_n C dX3_startSteps_7 0 rfl ?_
  refine m_iload_n C dX3_startSteps_8 2 rfl ?_
  refine m_iconst C (1 : Int32) dX3_startSteps_9 (by decide) ?_
  refine m_isub C dX3_startSteps_10 ?_
  refine m_put (rf := "") C 5 rfl gd3 (by decide) tyX3 tyX3_ok nmX3 rfl (tyX3_ok 5 (by decide)) rfl rfl sh_27 rfl dX3_startSteps_11 lk_X3_24 ?_
  refine m_mem (fun g4 eg4 => ?_)
  have hI5 : Inv g4 := by rw [eg4]; exact hI2.up (ok_any (by decide))
  have hK6 : Kp [27] g g4 := by rw [eg4]; exact Kp.up hK3 (by decide) (Or.inl (by decide)) (Or.inl (by decide))
  refine m_iconst C (0 : Int32) dX3_startSteps_14 (by decide) ?_
  refine m_istore_n C [(3, .int (0 : Int32)), (0, .ref (aL X 27)), (1, .int m0), (2, .int n0)] dX3_startSteps_15 (by decide) rfl ?_
  have L16 : ∀ (n16 : Nat) (x8 : Int32) (g9 : Mem), (7 - x8.toInt).toNat < n16 → Inv g9 → Kp [27] g g9 → 0 ≤ x8.toInt ∧ x8.toInt ≤ 6 → Wm X p l e (rmD 1) s m ([.ref (aL X 27), .int m0, .int n0] : List Value).toArray below meth c 4 0 0 (MQ below (cQ X (pV (fun g2 => Inv g2 ∧ Kp [27] g g2))) ([.ref (aL X 27), .int m0, .int n0] : List Value).toArray s 0 0 (Ab X)) g9 16 [(0, .ref (aL X 27)), (1, .int m0), (2, .int n0), (3, .int x8)] [] := by
    intro n16
    induction n16 with
    | zero => intro x8 g9 hm; exact absurd hm (Nat.not_lt_zero _)
    | succ n16 ih16 =>
      intro x8 g9 hm16 hI10 hK11 i12
      try obtain ⟨i12a, i12b⟩ := i12
      refine m_iload_n C dX3_startSteps_16 3 rfl ?_
      refine m_bipush C (6 : Int32) dX3_startSteps_17 (by decide) ?_
      refine m_icmp_ge C 42 dX3_startSteps_19 (by decide) (fun h13 => ?_) (fun h13 => ?_)
      · skip
        have th13 := i_le h13
        rw [show (6 : Int32).toInt = 6 by decide] at th13
        exact m_vret C dX3_startSteps_42 ⟨rfl, hI10, hK11⟩
      · skip
        have th13 := i_nle h13
        rw [show (6 : Int32).toInt = 6 by decide] at th13
        refine m_aload_n C dX3_startSteps_22 0 rfl ?_
        refine m_geti (rf := "") C 4 rfl gd3 (by decide) sh_27 rfl dX3_startSteps_23 lk_X3_20 ?_
        refine m_iconst C (1 : Int32) dX3_startSteps_26 (by decide) ?_
        refine m_iand C dX3_startSteps_27 ?_
        refine m_iconst C (1 : Int32) dX3_startSteps_28 (by decide) ?_
        have t14 : 0 ≤ ((g9 27 4) &&& (1 : Int32)).toInt ∧ ((g9 27 4) &&& (1 : Int32)).toInt < 2 := i_and _ 1 (by decide) (by decide)
        refine m_icmp_ne C 42 dX3_startSteps_29 (by decide) (fun h15 => ?_) (fun h15 => ?_)
        · skip
          have th15 := i_ne h15
          rw [show (1 : Int32).toInt = 1 by decide] at th15
          exact m_vret C dX3_startSteps_42 ⟨rfl, hI10, hK11⟩
        · skip
          have th15 := i_eq h15
          rw [show (1 : Int32).toInt = 1 by decide] at th15
          refine m_aload_n C dX3_startSteps_32 0 rfl ?_
          refine m_invV C cal_X3_halve sh_27 rfl (c_X3_halve l hX g9  hI10) lk_X3_61 im_X3_halve se_X3_halve (by decide) rfl rfl (Nat.le_of_ble_eq_true rfl) dX3_startSteps_33 ⟨Nat.le_refl _, Nat.le_refl _⟩ (rV fun g17 q18 => ?_)
          obtain ⟨hI19, hK20⟩ := q18
          have hK21 : Kp [27] g g17 := (hK11).tr hK20 (by decide)
          obtain ⟨x22, ex22⟩ : ∃ z : Int32, z = x8 + Int32.ofInt 1 := ⟨_, rfl⟩
          have t23 : (x8 + (Int32.ofInt 1)).toInt = x8.toInt + (1 : Int) := i_add rfl (by decide) (by omega) (by omega)
          have t24 : x22.toInt = (x8.toInt + (1 : Int)) := (congrArg Int32.toInt ex22).trans t23
          refine m_iinc C x22 [(3, .int x22), (0, .ref (aL X 27)), (1, .int m0), (2, .int n0)] dX3_startSteps_36 (q := 3) rfl ex22.symm (by decide) rfl ?_
          refine m_goto C 16 dX3_startSteps_39 (by decide) ?_
          refine m_lv [1, 2, 3, 0] rfl ?_
          exact ih16 x22 g17 (by omega) hI19 hK21 (by omega)
  have t25 : (0 : Int32).toInt = 0 := by decide
  refine m_lv [1, 2, 3, 0] rfl ?_
  exact L16 (((7 - (0 : Int32).toInt).toNat) + 1) (0 : Int32) g4 (Nat.lt_succ_self _) hI5 hK6 (by omega)
set_option maxRecDepth 20000 in
set_option maxHeartbeats 4000000 in
theorem c_X3_putLeft (l : Launch) {X : XT} (hX : Lok X) (g : Mem) (h : Int32) (w : Int32) (hI : Inv g) (h_h : 0 ≤ h.toInt ∧ h.toInt ≤ 7) (h_w : 0 ≤ w.toInt ∧ w.toInt ≤ 1) : Ctr l X yX3_putLeft cX3_putLeft 3 none (rmD 4) [.ref (aL X 27), .int h, .int w] g (pV (fun g2 => Inv g2 ∧ Kp [9, 10, 11, 12, 29] g g2)) := by
  refine Ctr.of (lv := [(0, .ref (aL X 27)), (1, .int h), (2, .int w)]) hX (by decide) rfl (Nat.le_of_ble_eq_true rfl) ?_
  intro p e s m below meth c C
  refine m_aload_n C dX3_putLeft_0 0 rfl ?_
  refine m_getr (rf := "") C 0 rfl gd3 (by decide) sh_27 rfl dX3_putLeft_1 lk_X3_27 ?_
  refine m_aload_n C dX3_putLeft_4 0 rfl ?_
  refine m_getr (rf := "") C 1 rfl gd3 (by decide) sh_27 rfl dX3_putLeft_5 lk_X3_31 ?_
  refine m_getrN (rf := "") C 1 rfl gd6 (by decide) sh_20 rfl dX3_putLeft_8 lk_X3_68 ?_
  refine m_iload_n C dX3_putLeft_11 1 rfl ?_
  refine m_aload_n C dX3_putLeft_12 0 rfl ?_
  refine m_getr (rf := "") C 3 rfl gd3 (by decide) sh_27 rfl dX3_putLeft_13 lk_X3_14 ?_
  refine m_iload_n C dX3_putLeft_16 2 rfl ?_
  refine m_aload_n C dX3_putLeft_17 0 rfl ?_
  refine m_getr (rf := "") C 3 rfl gd3 (by decide) sh_27 rfl dX3_putLeft_18 lk_X3_14 ?_
  refine m_iload_n C dX3_putLeft_21 2 rfl ?_
  refine m_invVN C cal_X1_pairInto sh_9 rfl (c_X1_pairInto_21_28_28 l hX g h w w hI (by omega) (by omega) (by omega)) lk_X3_74 im_X1_pairInto se_X1_pairInto (by decide) rfl rfl (Nat.le_of_ble_eq_true rfl) dX3_putLeft_22 ⟨Nat.le_refl _, Nat.le_refl _⟩ (rV fun g2 q3 => ?_)
  obtain ⟨hI4, hK5⟩ := q3
  have hK6 : Kp [9, 10, 11, 12, 29] g g2 := (Kp.rf).tr hK5 (by decide)
  exact m_vret C dX3_putLeft_25 ⟨rfl, hI4, hK6⟩
set_option maxRecDepth 20000 in
set_option maxHeartbeats 4000000 in
theorem c_X3_putRight (l : Launch) {X : XT} (hX : Lok X) (g : Mem) (h : Int32) (w : Int32) (hI : Inv g) (h_h : 0 ≤ h.toInt ∧ h.toInt ≤ 7) (h_w : 0 ≤ w.toInt ∧ w.toInt ≤ 1) : Ctr l X yX3_putRight cX3_putRight 3 none (rmD 4) [.ref (aL X 27), .int h, .int w] g (pV (fun g2 => Inv g2 ∧ Kp [9, 10, 11, 12, 29] g g2)) := by
  refine Ctr.of (lv := [(0, .ref (aL X 27)), (1, .int h), (2, .int w)]) hX (by decide) rfl (Nat.le_of_ble_eq_true rfl) ?_
  intro p e s m below meth c C
  refine m_aload_n C dX3_putRight_0 0 rfl ?_
  refine m_getr (rf := "") C 0 rfl gd3 (by decide) sh_27 rfl dX3_putRight_1 lk_X3_27 ?_
  refine m_aload_n C dX3_putRight_4 0 rfl ?_
  refine m_getr (rf := "") C 3 rfl gd3 (by decide) sh_27 rfl dX3_putRight_5 lk_X3_14 ?_
  refine m_iload_n C dX3_putRight_8 2 rfl ?_
  refine m_aload_n C dX3_putRight_9 0 rfl ?_
  refine m_getr (rf := "") C 1 rfl gd3 (by decide) sh_27 rfl dX3_putRight_10 lk_X3_31 ?_
  refine m_getrN (rf := "") C 1 rfl gd6 (by decide) sh_20 rfl dX3_putRight_13 lk_X3_68 ?_
  refine m_iload_n C dX3_putRight_16 1 rfl ?_
  refine m_aload_n C dX3_putRight_17 0 rfl ?_
  refine m_getr (rf := "") C 3 rfl gd3 (by decide) sh_27 rfl dX3_putRight_18 lk_X3_14 ?_
  refine m_iload_n C dX3_putRight_21 2 rfl ?_
  refine m_invVN C cal_X1_pairInto sh_9 rfl (c_X1_pairInto_28_21_28 l hX g w h w hI (by omega) (by omega) (by omega)) lk_X3_74 im_X1_pairInto se_X1_pairInto (by decide) rfl rfl (Nat.le_of_ble_eq_true rfl) dX3_putRight_22 ⟨Nat.le_refl _, Nat.le_refl _⟩ (rV fun g2 q3 => ?_)
  obtain ⟨hI4, hK5⟩ := q3
  have hK6 : Kp [9, 10, 11, 12, 29] g g2 := (Kp.rf).tr hK5 (by decide)
  exact m_vret C dX3_putRight_25 ⟨rfl, hI4, hK6⟩
set_option maxRecDepth 20000 in
set_option maxHeartbeats 4000000 in
theorem c_X3_pathIsRight_32 (l : Launch) {X : XT} (hX : Lok X) (g : Mem) (i0 : Int32) (n0 : Int32) (q : Int32) (hI : Inv g) (h_q : 0 ≤ q.toInt ∧ q.toInt ≤ 3) : Ctr l X yX3_pathIsRight cX3_pathIsRight 6 (some .boolean) (rmD 5) [.ref (aL X 27), .int i0, .int n0, .ref (aL X 32), .int q] g (pI (fun r g2 => Inv g2 ∧ Kp [9, 10, 11, 12, 27, 29] g g2 ∧ R01 r)) := by
  refine Ctr.of (lv := [(0, .ref (aL X 27)), (1, .int i0), (2, .int n0), (3, .ref (aL X 32)), (4, .int q)]) hX (by decide) rfl (Nat.le_of_ble_eq_true rfl) ?_
  intro p e s m below meth c C
  refine m_iload_n C dX3_pathIsRight_0 1 rfl ?_
  refine m_if_lt C 9 dX3_pathIsRight_1 (by decide) (fun h1 => ?_) (fun h1 => ?_)
  · skip
    have th1 := i_lt h1
    rw [show (0 : Int32).toInt = 0 by decide] at th1
    refine m_iconst C (0 : Int32) dX3_pathIsRight_9 (by decide) ?_
    exact m_zret C dX3_pathIsRight_10 (by decide) ⟨_, rfl, hI, Kp.rf, (by first | exact Or.inl rfl | exact Or.inr rfl)⟩
  · skip
    have th1 := i_nlt h1
    rw [show (0 : Int32).toInt = 0 by decide] at th1
    refine m_iload_n C dX3_pathIsRight_4 1 rfl ?_
    refine m_iload_n C dX3_pathIsRight_5 2 rfl ?_
    refine m_icmp_lt C 11 dX3_pathIsRight_6 (by decide) (fun h2 => ?_) (fun h2 => ?_)
    · skip
      have th2 := i_lt h2
      refine m_aload_n C dX3_pathIsRight_11 0 rfl ?_
      refine m_iload_n C dX3_pathIsRight_12 1 rfl ?_
      refine m_put (rf := "") C 4 rfl gd3 (by decide) tyX3 tyX3_ok nmX3 rfl (tyX3_ok 4 (by decide)) rfl rfl sh_27 rfl dX3_pathIsRight_13 lk_X3_20 ?_
      refine m_mem (fun g3 eg3 => ?_)
      have hI4 : Inv g3 := by rw [eg3]; exact hI.up (ok_any (by decide))
      have hK5 : Kp [9, 10, 11, 12, 27, 29] g g3 := by rw [eg3]; exact Kp.up Kp.rf (by decide) (Or.inl (by decide)) (Or.inl (by decide))
      refine m_aload_n C dX3_pathIsRight_16 0 rfl ?_
      refine m_iload_n C dX3_pathIsRight_17 2 rfl ?_
      refine m_iconst C (1 : Int32) dX3_pathIsRight_18 (by decide) ?_
      refine m_isub C dX3_pathIsRight_19 ?_
      refine m_put (rf := "") C 5 rfl gd3 (by decide) tyX3 tyX3_ok nmX3 rfl (tyX3_ok 5 (by decide)) rfl rfl sh_27 rfl dX3_pathIsRight_20 lk_X3_24 ?_
      refine m_mem (fun g6 eg6 => ?_)
      have hI7 : Inv g6 := by rw [eg6]; exact hI4.up (ok_any (by decide))
      have hK8 : Kp [9, 10, 11, 12, 27, 29] g g6 := by rw [eg6]; exact Kp.up hK5 (by decide) (Or.inl (by decide)) (Or.inl (by decide))
      refine m_aload_n C dX3_pathIsRight_23 0 rfl ?_
      refine m_getr (rf := "") C 3 rfl gd3 (by decide) sh_27 rfl dX3_pathIsRight_24 lk_X3_14 ?_
      refine m_iconst C (1 : Int32) dX3_pathIsRight_27 (by decide) ?_
      refine m_aload_n C dX3_pathIsRight_28 3 rfl ?_
      refine m_iconst C (0 : Int32) dX3_pathIsRight_29 (by decide) ?_
      have t9 : (1 : Int32).toInt = 1 := by decide
      have t10 : (0 : Int32).toInt = 0 := by decide
      refine m_invVN C cal_X2_copyFrom sh_28 rfl (c_X2_copyFrom_28_32 l hX g6 (1 : Int32) (0 : Int32) hI7 (by omega) (by omega)) lk_X3_38 im_X2_copyFrom se_X2_copyFrom (by decide) rfl rfl (Nat.le_of_ble_eq_true rfl) dX3_pathIsRight_30 ⟨Nat.le_refl _, Nat.le_refl _⟩ (rV fun g12 q13 => ?_)
      obtain ⟨hI14, hK15⟩ := q13
      have hK16 : Kp [9, 10, 11, 12, 27, 29] g g12 := (hK8).tr hK15 (by decide)
      refine m_iconst C (0 : Int32) dX3_pathIsRight_33 (by decide) ?_
      refine m_istore C [(5, .int (0 : Int32)), (0, .ref (aL X 27)), (1, .int i0), (2, .int n0), (3, .ref (aL X 32)), (4, .int q)] dX3_pathIsRight_34 (by decide) rfl ?_
      have L36 : ∀ (n36 : Nat) (x18 : Int32) (g19 : Mem), (9 - x18.toInt).toNat < n36 → Inv g19 → Kp [9, 10, 11, 12, 27, 29] g g19 → 0 ≤ x18.toInt ∧ x18.toInt ≤ 8 → Wm X p l e (rmD 5) s m ([.ref (aL X 27), .int i0, .int n0, .ref (aL X 32), .int q] : List Value).toArray below meth c 6 0 0 (MQ below (cQ X (pI (fun r g2 => Inv g2 ∧ Kp [9, 10, 11, 12, 27, 29] g g2 ∧ R01 r))) ([.ref (aL X 27), .int i0, .int n0, .ref (aL X 32), .int q] : List Value).toArray s 0 0 (Ab X)) g19 36 [(0, .ref (aL X 27)), (1, .int i0), (2, .int n0), (3, .ref (aL X 32)), (4, .int q), (5, .int x18)] [] := by
        intro n36
        induction n36 with
        | zero => intro x18 g19 hm; exact absurd hm (Nat.not_lt_zero _)
        | succ n36 ih36 =>
          intro x18 g19 hm36 hI20 hK21 i22
          try obtain ⟨i22a, i22b⟩ := i22
          refine m_iload C dX3_pathIsRight_36 5 rfl ?_
          refine m_aload_n C dX3_pathIsRight_38 0 rfl ?_
          refine m_getr (rf := "") C 1 rfl gd3 (by decide) sh_27 rfl dX3_pathIsRight_39 lk_X3_31 ?_
          refine m_getiN (rf := "") C 5 rfl gd6 (by decide) sh_20 rfl dX3_pathIsRight_42 lk_X3_42 ?_
          have r23 := iv_psize hI20
          have ev24 : g19 20 5 = g 20 5 := congrFun (hK21.1 20 (by decide)) 5
          have tev24 := congrArg Int32.toInt ev24
          refine m_icmp_ge C 95 dX3_pathIsRight_45 (by decide) (fun h25 => ?_) (fun h25 => ?_)
          · skip
            have th25 := i_le h25
            refine m_aload_n C dX3_pathIsRight_95 0 rfl ?_
            refine m_geti (rf := "") C 5 rfl gd3 (by decide) sh_27 rfl dX3_pathIsRight_96 lk_X3_24 ?_
            refine m_if_ne C 123 dX3_pathIsRight_99 (by decide) (fun h26 => ?_) (fun h26 => ?_)
            · skip
              have th26 := i_ne h26
              rw [show (0 : Int32).toInt = 0 by decide] at th26
              refine m_iconst C (0 : Int32) dX3_pathIsRight_123 (by decide) ?_
              exact m_zret C dX3_pathIsRight_124 (by decide) ⟨_, rfl, hI20, hK21, (by first | exact Or.inl rfl | exact Or.inr rfl)⟩
            · skip
              have th26 := i_eq h26
              rw [show (0 : Int32).toInt = 0 by decide] at th26
              refine m_aload_n C dX3_pathIsRight_102 0 rfl ?_
              refine m_getr (rf := "") C 3 rfl gd3 (by decide) sh_27 rfl dX3_pathIsRight_103 lk_X3_14 ?_
              refine m_iconst C (1 : Int32) dX3_pathIsRight_106 (by decide) ?_
              refine m_aload_n C dX3_pathIsRight_107 0 rfl ?_
              refine m_getr (rf := "") C 2 rfl gd3 (by decide) sh_27 rfl dX3_pathIsRight_108 lk_X3_35 ?_
              refine m_iload C dX3_pathIsRight_111 4 rfl ?_
              have t27 : (1 : Int32).toInt = 1 := by decide
              refine m_invVN C cal_X2_isSame sh_28 rfl (c_X2_isSame_28_25 l hX g19 (1 : Int32) q hI20 (by omega) (by omega)) lk_X3_64 im_X2_isSame se_X2_isSame (by decide) rfl rfl (Nat.le_of_ble_eq_true rfl) dX3_pathIsRight_113 ⟨Nat.le_refl _, Nat.le_refl _⟩ (rI fun r28 g29 q30 => ?_)
              obtain ⟨hI31, hK32, p33⟩ := q30
              have ev34 : g29 20 5 = g19 20 5 := congrFun (hK32.1 20 (by decide)) 5
              have tev34 := congrArg Int32.toInt ev34
              have ev35 : g29 27 5 = g19 27 5 := congrFun (hK32.1 27 (by decide)) 5
              have tev35 := congrArg Int32.toInt ev35
              have hK36 : Kp [9, 10, 11, 12, 27, 29] g g29 := (hK21).tr hK32 (by decide)
              refine m_if_eq C 123 dX3_pathIsRight_116 (by decide) (fun h37 => ?_) (fun h37 => ?_)
              · skip
                have th37 := i_eq h37
                rw [show (0 : Int32).toInt = 0 by decide] at th37
                refine m_iconst C (0 : Int32) dX3_pathIsRight_123 (by decide) ?_
                exact m_zret C dX3_pathIsRight_124 (by decide) ⟨_, rfl, hI31, hK36, (by first | exact Or.inl rfl | exact Or.inr rfl)⟩
              · skip
                have th37 := i_ne h37
                rw [show (0 : Int32).toInt = 0 by decide] at th37
                refine m_iconst C (1 : Int32) dX3_pathIsRight_119 (by decide) ?_
                refine m_goto C 124 dX3_pathIsRight_120 (by decide) ?_
                exact m_zret C dX3_pathIsRight_124 (by decide) ⟨_, rfl, hI31, hK36, (by first | exact Or.inl rfl | exact Or.inr rfl)⟩
          · skip
            have th25 := i_nle h25
            refine m_aload_n C dX3_pathIsRight_48 0 rfl ?_
            refine m_geti (rf := "") C 5 rfl gd3 (by decide) sh_27 rfl dX3_pathIsRight_49 lk_X3_24 ?_
            refine m_if_ne C 57 dX3_pathIsRight_52 (by decide) (fun h38 => ?_) (fun h38 => ?_)
            · skip
              have th38 := i_ne h38
              rw [show (0 : Int32).toInt = 0 by decide] at th38
              refine m_aload_n C dX3_pathIsRight_57 0 rfl ?_
              refine m_invV C cal_X3_comesFromLeft sh_27 rfl (c_X3_comesFromLeft l hX g19  hI20) lk_X3_47 im_X3_comesFromLeft se_X3_comesFromLeft (by decide) rfl rfl (Nat.le_of_ble_eq_true rfl) dX3_pathIsRight_58 ⟨Nat.le_refl _, Nat.le_refl _⟩ (rI fun r39 g40 q41 => ?_)
              obtain ⟨eg40, p42⟩ := q41
              subst g40
              refine m_if_eq C 78 dX3_pathIsRight_61 (by decide) (fun h43 => ?_) (fun h43 => ?_)
              · skip
                have th43 := i_eq h43
                rw [show (0 : Int32).toInt = 0 by decide] at th43
                refine m_aload_n C dX3_pathIsRight_78 0 rfl ?_
                refine m_iload C dX3_pathIsRight_79 5 rfl ?_
                refine m_iconst C (1 : Int32) dX3_pathIsRight_81 (by decide) ?_
                have t44 : (1 : Int32).toInt = 1 := by decide
                refine m_invV C cal_X3_putRight sh_27 rfl (c_X3_putRight l hX g19 x18 (1 : Int32) hI20 (by omega) (by omega)) lk_X3_58 im_X3_putRight se_X3_putRight (by decide) rfl rfl (Nat.le_of_ble_eq_true rfl) dX3_pathIsRight_82 ⟨Nat.le_refl _, Nat.le_refl _⟩ (rV fun g46 q47 => ?_)
                obtain ⟨hI48, hK49⟩ := q47
                have ev50 : g46 20 5 = g19 20 5 := congrFun (hK49.1 20 (by decide)) 5
                have tev50 := congrArg Int32.toInt ev50
                have ev51 : g46 27 5 = g19 27 5 := congrFun (hK49.1 27 (by decide)) 5
                have tev51 := congrArg Int32.toInt ev51
                have hK52 : Kp [9, 10, 11, 12, 27, 29] g g46 := (hK21).tr hK49 (by decide)
                refine m_aload_n C dX3_pathIsRight_85 0 rfl ?_
                refine m_invV C cal_X3_halve sh_27 rfl (c_X3_halve l hX g46  hI48) lk_X3_61 im_X3_halve se_X3_halve (by decide) rfl rfl (Nat.le_of_ble_eq_true rfl) dX3_pathIsRight_86 ⟨Nat.le_refl _, Nat.le_refl _⟩ (rV fun g54 q55 => ?_)
                obtain ⟨hI56, hK57⟩ := q55
                have ev58 : g54 20 5 = g46 20 5 := congrFun (hK57.1 20 (by decide)) 5
                have tev58 := congrArg Int32.toInt ev58
                have hK59 : Kp [9, 10, 11, 12, 27, 29] g g54 := (hK52).tr hK57 (by decide)
                obtain ⟨x60, ex60⟩ : ∃ z : Int32, z = x18 + Int32.ofInt 1 := ⟨_, rfl⟩
                have t61 : (x18 + (Int32.ofInt 1)).toInt = x18.toInt + (1 : Int) := i_add rfl (by decide) (by omega) (by omega)
                have t62 : x60.toInt = (x18.toInt + (1 : Int)) := (congrArg Int32.toInt ex60).trans t61
                refine m_iinc C x60 [(5, .int x60), (0, .ref (aL X 27)), (1, .int i0), (2, .int n0), (3, .ref (aL X 32)), (4, .int q)] dX3_pathIsRight_89 (q := 5) rfl ex60.symm (by decide) rfl ?_
                refine m_goto C 36 dX3_pathIsRight_92 (by decide) ?_
                refine m_lv [1, 2, 3, 4, 5, 0] rfl ?_
                exact ih36 x60 g54 (by omega) hI56 hK59 (by omega)
              · skip
                have th43 := i_ne h43
                rw [show (0 : Int32).toInt = 0 by decide] at th43
                refine m_aload_n C dX3_pathIsRight_64 0 rfl ?_
                refine m_iload C dX3_pathIsRight_65 5 rfl ?_
                refine m_iconst C (1 : Int32) dX3_pathIsRight_67 (by decide) ?_
                have t63 : (1 : Int32).toInt = 1 := by decide
                refine m_invV C cal_X3_putLeft sh_27 rfl (c_X3_putLeft l hX g19 x18 (1 : Int32) hI20 (by omega) (by omega)) lk_X3_51 im_X3_putLeft se_X3_putLeft (by decide) rfl rfl (Nat.le_of_ble_eq_true rfl) dX3_pathIsRight_68 ⟨Nat.le_refl _, Nat.le_refl _⟩ (rV fun g65 q66 => ?_)
                obtain ⟨hI67, hK68⟩ := q66
                have ev69 : g65 20 5 = g19 20 5 := congrFun (hK68.1 20 (by decide)) 5
                have tev69 := congrArg Int32.toInt ev69
                have ev70 : g65 27 5 = g19 27 5 := congrFun (hK68.1 27 (by decide)) 5
                have tev70 := congrArg Int32.toInt ev70
                have hK71 : Kp [9, 10, 11, 12, 27, 29] g g65 := (hK21).tr hK68 (by decide)
                refine m_aload_n C dX3_pathIsRight_71 0 rfl ?_
                refine m_invV C cal_X3_skipLevels sh_27 rfl (c_X3_skipLevels l hX g65  hI67) lk_X3_55 im_X3_skipLevels se_X3_skipLevels (by decide) rfl rfl (Nat.le_of_ble_eq_true rfl) dX3_pathIsRight_72 ⟨Nat.le_refl _, Nat.le_refl _⟩ (rV fun g73 q74 => ?_)
                obtain ⟨hI75, hK76⟩ := q74
                have ev77 : g73 20 5 = g65 20 5 := congrFun (hK76.1 20 (by decide)) 5
                have tev77 := congrArg Int32.toInt ev77
                have hK78 : Kp [9, 10, 11, 12, 27, 29] g g73 := (hK71).tr hK76 (by decide)
                refine m_goto C 85 dX3_pathIsRight_75 (by decide) ?_
                refine m_aload_n C dX3_pathIsRight_85 0 rfl ?_
                refine m_invV C cal_X3_halve sh_27 rfl (c_X3_halve l hX g73  hI75) lk_X3_61 im_X3_halve se_X3_halve (by decide) rfl rfl (Nat.le_of_ble_eq_true rfl) dX3_pathIsRight_86 ⟨Nat.le_refl _, Nat.le_refl _⟩ (rV fun g80 q81 => ?_)
                obtain ⟨hI82, hK83⟩ := q81
                have ev84 : g80 20 5 = g73 20 5 := congrFun (hK83.1 20 (by decide)) 5
                have tev84 := congrArg Int32.toInt ev84
                have hK85 : Kp [9, 10, 11, 12, 27, 29] g g80 := (hK78).tr hK83 (by decide)
                obtain ⟨x86, ex86⟩ : ∃ z : Int32, z = x18 + Int32.ofInt 1 := ⟨_, rfl⟩
                have t87 : (x18 + (Int32.ofInt 1)).toInt = x18.toInt + (1 : Int) := i_add rfl (by decide) (by omega) (by omega)
                have t88 : x86.toInt = (x18.toInt + (1 : Int)) := (congrArg Int32.toInt ex86).trans t87
                refine m_iinc C x86 [(5, .int x86), (0, .ref (aL X 27)), (1, .int i0), (2, .int n0), (3, .ref (aL X 32)), (4, .int q)] dX3_pathIsRight_89 (q := 5) rfl ex86.symm (by decide) rfl ?_
                refine m_goto C 36 dX3_pathIsRight_92 (by decide) ?_
                refine m_lv [1, 2, 3, 4, 5, 0] rfl ?_
                exact ih36 x86 g80 (by omega) hI82 hK85 (by omega)
            · skip
              have th38 := i_eq h38
              rw [show (0 : Int32).toInt = 0 by decide] at th38
              refine m_iconst C (0 : Int32) dX3_pathIsRight_55 (by decide) ?_
              exact m_zret C dX3_pathIsRight_56 (by decide) ⟨_, rfl, hI20, hK21, (by first | exact Or.inl rfl | exact Or.inr rfl)⟩
      have t89 : (0 : Int32).toInt = 0 := by decide
      refine m_lv [1, 2, 3, 4, 5, 0] rfl ?_
      exact L36 (((9 - (0 : Int32).toInt).toNat) + 1) (0 : Int32) g12 (Nat.lt_succ_self _) hI14 hK16 (by omega)
    · skip
      have th2 := i_nlt h2
      refine m_iconst C (0 : Int32) dX3_pathIsRight_9 (by decide) ?_
      exact m_zret C dX3_pathIsRight_10 (by decide) ⟨_, rfl, hI, Kp.rf, (by first | exact Or.inl rfl | exact Or.inr rfl)⟩
set_option maxRecDepth 20000 in
set_option maxHeartbeats 4000000 in
theorem c_X3_stepsAreRight (l : Launch) {X : XT} (hX : Lok X) (g : Mem) (m0 : Int32) (n0 : Int32) (o : Int32) (q : Int32) (hI : Inv g) (h_o : 0 ≤ o.toInt ∧ o.toInt ≤ 3) (h_q : 0 ≤ q.toInt ∧ q.toInt ≤ 3) : Ctr l X yX3_stepsAreRight cX3_stepsAreRight 7 (some .boolean) (rmD 5) [.ref (aL X 27), .int m0, .int n0, .int o, .int q] g (pI (fun r g2 => Inv g2 ∧ Kp [9, 10, 11, 12, 27, 29] g g2 ∧ R01 r)) := by
  refine Ctr.of (lv := [(0, .ref (aL X 27)), (1, .int m0), (2, .int n0), (3, .int o), (4, .int q)]) hX (by decide) rfl (Nat.le_of_ble_eq_true rfl) ?_
  intro p e s m below meth c C
  refine m_iload_n C dX3_stepsAreRight_0 1 rfl ?_
  refine m_iconst C (1 : Int32) dX3_stepsAreRight_1 (by decide) ?_
  refine m_icmp_lt C 10 dX3_stepsAreRight_2 (by decide) (fun h1 => ?_) (fun h1 => ?_)
  · skip
    have th1 := i_lt h1
    rw [show (1 : Int32).toInt = 1 by decide] at th1
    refine m_iconst C (0 : Int32) dX3_stepsAreRight_10 (by decide) ?_
    exact m_zret C dX3_stepsAreRight_11 (by decide) ⟨_, rfl, hI, Kp.rf, (by first | exact Or.inl rfl | exact Or.inr rfl)⟩
  · skip
    have th1 := i_nlt h1
    rw [show (1 : Int32).toInt = 1 by decide] at th1
    refine m_iload_n C dX3_stepsAreRight_5 1 rfl ?_
    refine m_iload_n C dX3_stepsAreRight_6 2 rfl ?_
    refine m_icmp_le C 12 dX3_stepsAreRight_7 (by decide) (fun h2 => ?_) (fun h2 => ?_)
    · skip
      have th2 := i_le h2
      refine m_iload_n C dX3_stepsAreRight_12 1 rfl ?_
      refine m_iload_n C dX3_stepsAreRight_13 2 rfl ?_
      refine m_icmp_ne C 50 dX3_stepsAreRight_14 (by decide) (fun h3 => ?_) (fun h3 => ?_)
      · skip
        have th3 := i_ne h3
        refine m_iload_n C dX3_stepsAreRight_50 1 rfl ?_
        refine m_iload_n C dX3_stepsAreRight_51 1 rfl ?_
        refine m_iconst C (1 : Int32) dX3_stepsAreRight_52 (by decide) ?_
        refine m_isub C dX3_stepsAreRight_53 ?_
        refine m_iand C dX3_stepsAreRight_54 ?_
        refine m_if_ne C 62 dX3_stepsAreRight_55 (by decide) (fun h4 => ?_) (fun h4 => ?_)
        · skip
          have th4 := i_ne h4
          rw [show (0 : Int32).toInt = 0 by decide] at th4
          refine m_iconst C (0 : Int32) dX3_stepsAreRight_62 (by decide) ?_
          refine m_istore C [(5, .int (0 : Int32)), (0, .ref (aL X 27)), (1, .int m0), (2, .int n0), (3, .int o), (4, .int q)] dX3_stepsAreRight_63 (by decide) rfl ?_
          refine m_iload C dX3_stepsAreRight_65 0 rfl ?_
          refine m_if_ne C 82 dX3_stepsAreRight_67 (by decide) (fun h => absurd (by decide) h) (fun _ => ?_)
          refine m_aload_n C dX3_stepsAreRight_70 1 rfl ?_
          refine m_getr (rf := "") C 1 rfl gd3 (by decide) sh_27 rfl dX3_stepsAreRight_71 lk_X3_31 ?_
          refine m_getiN (rf := "") C 5 rfl gd6 (by decide) sh_20 rfl dX3_stepsAreRight_74 lk_X3_42 ?_
          have r6 := iv_psize hI
          refine m_if_ne C 82 dX3_stepsAreRight_77 (by decide) (fun h7 => ?_) (fun h7 => ?_)
          · skip
            have th7 := i_ne h7
            rw [show (0 : Int32).toInt = 0 by decide] at th7
            refine m_aload_n C dX3_stepsAreRight_82 1 rfl ?_
            refine m_getr (rf := "") C 3 rfl gd3 (by decide) sh_27 rfl dX3_stepsAreRight_83 lk_X3_14 ?_
            refine m_iconst C (0 : Int32) dX3_stepsAreRight_86 (by decide) ?_
            refine m_iload C dX3_stepsAreRight_87 0 rfl ?_
            refine m_if_eq C 99 dX3_stepsAreRight_89 (by decide) (fun _ => ?_) (fun h => absurd (by decide) h)
            refine m_aload_n C dX3_stepsAreRight_99 1 rfl ?_
            refine m_getr (rf := "") C 1 rfl gd3 (by decide) sh_27 rfl dX3_stepsAreRight_100 lk_X3_31 ?_
            refine m_getrN (rf := "") C 1 rfl gd6 (by decide) sh_20 rfl dX3_stepsAreRight_103 lk_X3_68 ?_
            refine m_iload C dX3_stepsAreRight_106 0 rfl ?_
            refine m_if_eq C 115 dX3_stepsAreRight_108 (by decide) (fun _ => ?_) (fun h => absurd (by decide) h)
            refine m_iconst C (0 : Int32) dX3_stepsAreRight_115 (by decide) ?_
            have t8 : (0 : Int32).toInt = 0 := by decide
            have t9 : (0 : Int32).toInt = 0 := by decide
            refine m_invVN C cal_X2_copyFrom sh_28 rfl (c_X2_copyFrom_28_21 l hX g (0 : Int32) (0 : Int32) hI (by omega) (by omega)) lk_X3_38 im_X2_copyFrom se_X2_copyFrom (by decide) rfl rfl (Nat.le_of_ble_eq_true rfl) dX3_stepsAreRight_116 ⟨Nat.le_refl _, Nat.le_refl _⟩ (rV fun g11 q12 => ?_)
            obtain ⟨hI13, hK14⟩ := q12
            have ev15 : g11 20 5 = g 20 5 := congrFun (hK14.1 20 (by decide)) 5
            have tev15 := congrArg Int32.toInt ev15
            have hK16 : Kp [9, 10, 11, 12, 27, 29] g g11 := (Kp.rf).tr hK14 (by decide)
            refine m_aload_n C dX3_stepsAreRight_119 1 rfl ?_
            refine m_getr (rf := "") C 3 rfl gd3 (by decide) sh_27 rfl dX3_stepsAreRight_120 lk_X3_14 ?_
            refine m_iconst C (1 : Int32) dX3_stepsAreRight_123 (by decide) ?_
            refine m_aload_n C dX3_stepsAreRight_124 1 rfl ?_
            refine m_getr (rf := "") C 3 rfl gd3 (by decide) sh_27 rfl dX3_stepsAreRight_125 lk_X3_14 ?_
            refine m_iconst C (0 : Int32) dX3_stepsAreRight_128 (by decide) ?_
            have t17 : (1 : Int32).toInt = 1 := by decide
            have t18 : (0 : Int32).toInt = 0 := by decide
            refine m_invVN C cal_X2_copyFrom sh_28 rfl (c_X2_copyFrom_28_28 l hX g11 (1 : Int32) (0 : Int32) hI13 (by omega) (by omega)) lk_X3_38 im_X2_copyFrom se_X2_copyFrom (by decide) rfl rfl (Nat.le_of_ble_eq_true rfl) dX3_stepsAreRight_129 ⟨Nat.le_refl _, Nat.le_refl _⟩ (rV fun g20 q21 => ?_)
            obtain ⟨hI22, hK23⟩ := q21
            have ev24 : g20 20 5 = g11 20 5 := congrFun (hK23.1 20 (by decide)) 5
            have tev24 := congrArg Int32.toInt ev24
            have hK25 : Kp [9, 10, 11, 12, 27, 29] g g20 := (hK16).tr hK23 (by decide)
            refine m_aload_n C dX3_stepsAreRight_132 1 rfl ?_
            refine m_iload_n C dX3_stepsAreRight_133 2 rfl ?_
            refine m_iload_n C dX3_stepsAreRight_134 3 rfl ?_
            refine m_invV C cal_X3_startSteps sh_27 rfl (c_X3_startSteps l hX g20 m0 n0 hI22) lk_X3_71 im_X3_startSteps se_X3_startSteps (by decide) rfl rfl (Nat.le_of_ble_eq_true rfl) dX3_stepsAreRight_135 ⟨Nat.le_refl _, Nat.le_refl _⟩ (rV fun g27 q28 => ?_)
            obtain ⟨hI29, hK30⟩ := q28
            have ev31 : g27 20 5 = g20 20 5 := congrFun (hK30.1 20 (by decide)) 5
            have tev31 := congrArg Int32.toInt ev31
            have hK32 : Kp [9, 10, 11, 12, 27, 29] g g27 := (hK25).tr hK30 (by decide)
            refine m_iload C dX3_stepsAreRight_138 0 rfl ?_
            refine m_if_eq C 147 dX3_stepsAreRight_140 (by decide) (fun _ => ?_) (fun h => absurd (by decide) h)
            refine m_iconst C (1 : Int32) dX3_stepsAreRight_147 (by decide) ?_
            refine m_istore C [(6, .int (1 : Int32)), (5, .int (0 : Int32)), (0, .ref (aL X 27)), (1, .int m0), (2, .int n0), (3, .int o), (4, .int q)] dX3_stepsAreRight_148 (by decide) rfl ?_
            have L150 : ∀ (n150 : Nat) (x34 : Int32) (g35 : Mem), (9 - x34.toInt).toNat < n150 → Inv g35 → Kp [9, 10, 11, 12, 27, 29] g g35 → 0 ≤ x34.toInt ∧ x34.toInt ≤ 8 → Wm X p l e (rmD 5) s m ([.ref (aL X 27), .int m0, .int n0, .int o, .int q] : List Value).toArray below meth c 7 0 0 (MQ below (cQ X (pI (fun r g2 => Inv g2 ∧ Kp [9, 10, 11, 12, 27, 29] g g2 ∧ R01 r))) ([.ref (aL X 27), .int m0, .int n0, .int o, .int q] : List Value).toArray s 0 0 (Ab X)) g35 150 [(0, .ref (aL X 27)), (1, .int m0), (2, .int n0), (3, .int o), (4, .int q), (5, .int (0 : Int32)), (6, .int x34)] [] := by
              intro n150
              induction n150 with
              | zero => intro x34 g35 hm; exact absurd hm (Nat.not_lt_zero _)
              | succ n150 ih150 =>
                intro x34 g35 hm150 hI36 hK37 i38
                try obtain ⟨i38a, i38b⟩ := i38
                refine m_iload C dX3_stepsAreRight_150 6 rfl ?_
                refine m_aload_n C dX3_stepsAreRight_152 0 rfl ?_
                refine m_getr (rf := "") C 1 rfl gd3 (by decide) sh_27 rfl dX3_stepsAreRight_153 lk_X3_31 ?_
                refine m_getiN (rf := "") C 5 rfl gd6 (by decide) sh_20 rfl dX3_stepsAreRight_156 lk_X3_42 ?_
                have r39 := iv_psize hI36
                have ev40 : g35 20 5 = g 20 5 := congrFun (hK37.1 20 (by decide)) 5
                have tev40 := congrArg Int32.toInt ev40
                refine m_icmp_ge C 216 dX3_stepsAreRight_159 (by decide) (fun h41 => ?_) (fun h41 => ?_)
                · skip
                  have th41 := i_le h41
                  refine m_aload_n C dX3_stepsAreRight_216 0 rfl ?_
                  refine m_geti (rf := "") C 5 rfl gd3 (by decide) sh_27 rfl dX3_stepsAreRight_217 lk_X3_24 ?_
                  refine m_if_ne C 260 dX3_stepsAreRight_220 (by decide) (fun h42 => ?_) (fun h42 => ?_)
                  · skip
                    have th42 := i_ne h42
                    rw [show (0 : Int32).toInt = 0 by decide] at th42
                    refine m_iconst C (0 : Int32) dX3_stepsAreRight_260 (by decide) ?_
                    exact m_zret C dX3_stepsAreRight_261 (by decide) ⟨_, rfl, hI36, hK37, (by first | exact Or.inl rfl | exact Or.inr rfl)⟩
                  · skip
                    have th42 := i_eq h42
                    rw [show (0 : Int32).toInt = 0 by decide] at th42
                    refine m_aload_n C dX3_stepsAreRight_223 0 rfl ?_
                    refine m_getr (rf := "") C 3 rfl gd3 (by decide) sh_27 rfl dX3_stepsAreRight_224 lk_X3_14 ?_
                    refine m_iconst C (0 : Int32) dX3_stepsAreRight_227 (by decide) ?_
                    refine m_aload_n C dX3_stepsAreRight_228 0 rfl ?_
                    refine m_getr (rf := "") C 2 rfl gd3 (by decide) sh_27 rfl dX3_stepsAreRight_229 lk_X3_35 ?_
                    refine m_iload_n C dX3_stepsAreRight_232 3 rfl ?_
                    have t43 : (0 : Int32).toInt = 0 := by decide
                    refine m_invVN C cal_X2_isSame sh_28 rfl (c_X2_isSame_28_25 l hX g35 (0 : Int32) o hI36 (by omega) (by omega)) lk_X3_64 im_X2_isSame se_X2_isSame (by decide) rfl rfl (Nat.le_of_ble_eq_true rfl) dX3_stepsAreRight_233 ⟨Nat.le_refl _, Nat.le_refl _⟩ (rI fun r44 g45 q46 => ?_)
                    obtain ⟨hI47, hK48, p49⟩ := q46
                    have ev50 : g45 20 5 = g35 20 5 := congrFun (hK48.1 20 (by decide)) 5
                    have tev50 := congrArg Int32.toInt ev50
                    have ev51 : g45 27 5 = g35 27 5 := congrFun (hK48.1 27 (by decide)) 5
                    have tev51 := congrArg Int32.toInt ev51
                    have hK52 : Kp [9, 10, 11, 12, 27, 29] g g45 := (hK37).tr hK48 (by decide)
                    refine m_if_eq C 260 dX3_stepsAreRight_236 (by decide) (fun h53 => ?_) (fun h53 => ?_)
                    · skip
                      have th53 := i_eq h53
                      rw [show (0 : Int32).toInt = 0 by decide] at th53
                      refine m_iconst C (0 : Int32) dX3_stepsAreRight_260 (by decide) ?_
                      exact m_zret C dX3_stepsAreRight_261 (by decide) ⟨_, rfl, hI47, hK52, (by first | exact Or.inl rfl | exact Or.inr rfl)⟩
                    · skip
                      have th53 := i_ne h53
                      rw [show (0 : Int32).toInt = 0 by decide] at th53
                      refine m_aload_n C dX3_stepsAreRight_239 0 rfl ?_
                      refine m_getr (rf := "") C 3 rfl gd3 (by decide) sh_27 rfl dX3_stepsAreRight_240 lk_X3_14 ?_
                      refine m_iconst C (1 : Int32) dX3_stepsAreRight_243 (by decide) ?_
                      refine m_aload_n C dX3_stepsAreRight_244 0 rfl ?_
                      refine m_getr (rf := "") C 2 rfl gd3 (by decide) sh_27 rfl dX3_stepsAreRight_245 lk_X3_35 ?_
                      refine m_iload C dX3_stepsAreRight_248 4 rfl ?_
                      have t54 : (1 : Int32).toInt = 1 := by decide
                      refine m_invVN C cal_X2_isSame sh_28 rfl (c_X2_isSame_28_25 l hX g45 (1 : Int32) q hI47 (by omega) (by omega)) lk_X3_64 im_X2_isSame se_X2_isSame (by decide) rfl rfl (Nat.le_of_ble_eq_true rfl) dX3_stepsAreRight_250 ⟨Nat.le_refl _, Nat.le_refl _⟩ (rI fun r55 g56 q57 => ?_)
                      obtain ⟨hI58, hK59, p60⟩ := q57
                      have ev61 : g56 20 5 = g45 20 5 := congrFun (hK59.1 20 (by decide)) 5
                      have tev61 := congrArg Int32.toInt ev61
                      have ev62 : g56 27 5 = g45 27 5 := congrFun (hK59.1 27 (by decide)) 5
                      have tev62 := congrArg Int32.toInt ev62
                      have hK63 : Kp [9, 10, 11, 12, 27, 29] g g56 := (hK52).tr hK59 (by decide)
                      refine m_if_eq C 260 dX3_stepsAreRight_253 (by decide) (fun h64 => ?_) (fun h64 => ?_)
                      · skip
                        have th64 := i_eq h64
                        rw [show (0 : Int32).toInt = 0 by decide] at th64
                        refine m_iconst C (0 : Int32) dX3_stepsAreRight_260 (by decide) ?_
                        exact m_zret C dX3_stepsAreRight_261 (by decide) ⟨_, rfl, hI58, hK63, (by first | exact Or.inl rfl | exact Or.inr rfl)⟩
                      · skip
                        have th64 := i_ne h64
                        rw [show (0 : Int32).toInt = 0 by decide] at th64
                        refine m_iconst C (1 : Int32) dX3_stepsAreRight_256 (by decide) ?_
                        refine m_goto C 261 dX3_stepsAreRight_257 (by decide) ?_
                        exact m_zret C dX3_stepsAreRight_261 (by decide) ⟨_, rfl, hI58, hK63, (by first | exact Or.inl rfl | exact Or.inr rfl)⟩
                · skip
                  have th41 := i_nle h41
                  refine m_aload_n C dX3_stepsAreRight_162 0 rfl ?_
                  refine m_geti (rf := "") C 5 rfl gd3 (by decide) sh_27 rfl dX3_stepsAreRight_163 lk_X3_24 ?_
                  refine m_if_ne C 171 dX3_stepsAreRight_166 (by decide) (fun h65 => ?_) (fun h65 => ?_)
                  · skip
                    have th65 := i_ne h65
                    rw [show (0 : Int32).toInt = 0 by decide] at th65
                    refine m_aload_n C dX3_stepsAreRight_171 0 rfl ?_
                    refine m_invV C cal_X3_comesFromLeft sh_27 rfl (c_X3_comesFromLeft l hX g35  hI36) lk_X3_47 im_X3_comesFromLeft se_X3_comesFromLeft (by decide) rfl rfl (Nat.le_of_ble_eq_true rfl) dX3_stepsAreRight_172 ⟨Nat.le_refl _, Nat.le_refl _⟩ (rI fun r66 g67 q68 => ?_)
                    obtain ⟨eg67, p69⟩ := q68
                    subst g67
                    refine m_if_eq C 199 dX3_stepsAreRight_175 (by decide) (fun h70 => ?_) (fun h70 => ?_)
                    · skip
                      have th70 := i_eq h70
                      rw [show (0 : Int32).toInt = 0 by decide] at th70
                      refine m_aload_n C dX3_stepsAreRight_199 0 rfl ?_
                      refine m_iload C dX3_stepsAreRight_200 6 rfl ?_
                      refine m_iconst C (1 : Int32) dX3_stepsAreRight_202 (by decide) ?_
                      have t71 : (1 : Int32).toInt = 1 := by decide
                      refine m_invV C cal_X3_putRight sh_27 rfl (c_X3_putRight l hX g35 x34 (1 : Int32) hI36 (by omega) (by omega)) lk_X3_58 im_X3_putRight se_X3_putRight (by decide) rfl rfl (Nat.le_of_ble_eq_true rfl) dX3_stepsAreRight_203 ⟨Nat.le_refl _, Nat.le_refl _⟩ (rV fun g73 q74 => ?_)
                      obtain ⟨hI75, hK76⟩ := q74
                      have ev77 : g73 20 5 = g35 20 5 := congrFun (hK76.1 20 (by decide)) 5
                      have tev77 := congrArg Int32.toInt ev77
                      have ev78 : g73 27 5 = g35 27 5 := congrFun (hK76.1 27 (by decide)) 5
                      have tev78 := congrArg Int32.toInt ev78
                      have hK79 : Kp [9, 10, 11, 12, 27, 29] g g73 := (hK37).tr hK76 (by decide)
                      refine m_aload_n C dX3_stepsAreRight_206 0 rfl ?_
                      refine m_invV C cal_X3_halve sh_27 rfl (c_X3_halve l hX g73  hI75) lk_X3_61 im_X3_halve se_X3_halve (by decide) rfl rfl (Nat.le_of_ble_eq_true rfl) dX3_stepsAreRight_207 ⟨Nat.le_refl _, Nat.le_refl _⟩ (rV fun g81 q82 => ?_)
                      obtain ⟨hI83, hK84⟩ := q82
                      have ev85 : g81 20 5 = g73 20 5 := congrFun (hK84.1 20 (by decide)) 5
                      have tev85 := congrArg Int32.toInt ev85
                      have hK86 : Kp [9, 10, 11, 12, 27, 29] g g81 := (hK79).tr hK84 (by decide)
                      obtain ⟨x87, ex87⟩ : ∃ z : Int32, z = x34 + Int32.ofInt 1 := ⟨_, rfl⟩
                      have t88 : (x34 + (Int32.ofInt 1)).toInt = x34.toInt + (1 : Int) := i_add rfl (by decide) (by omega) (by omega)
                      have t89 : x87.toInt = (x34.toInt + (1 : Int)) := (congrArg Int32.toInt ex87).trans t88
                      refine m_iinc C x87 [(6, .int x87), (0, .ref (aL X 27)), (1, .int m0), (2, .int n0), (3, .int o), (4, .int q), (5, .int (0 : Int32))] dX3_stepsAreRight_210 (q := 6) rfl ex87.symm (by decide) rfl ?_
                      refine m_goto C 150 dX3_stepsAreRight_213 (by decide) ?_
                      refine m_lv [1, 2, 3, 4, 5, 6, 0] rfl ?_
                      exact ih150 x87 g81 (by omega) hI83 hK86 (by omega)
                    · skip
                      have th70 := i_ne h70
                      rw [show (0 : Int32).toInt = 0 by decide] at th70
                      refine m_aload_n C dX3_stepsAreRight_178 0 rfl ?_
                      refine m_iload C dX3_stepsAreRight_179 6 rfl ?_
                      refine m_iconst C (0 : Int32) dX3_stepsAreRight_181 (by decide) ?_
                      have t90 : (0 : Int32).toInt = 0 := by decide
                      refine m_invV C cal_X3_putLeft sh_27 rfl (c_X3_putLeft l hX g35 x34 (0 : Int32) hI36 (by omega) (by omega)) lk_X3_51 im_X3_putLeft se_X3_putLeft (by decide) rfl rfl (Nat.le_of_ble_eq_true rfl) dX3_stepsAreRight_182 ⟨Nat.le_refl _, Nat.le_refl _⟩ (rV fun g92 q93 => ?_)
                      obtain ⟨hI94, hK95⟩ := q93
                      have ev96 : g92 20 5 = g35 20 5 := congrFun (hK95.1 20 (by decide)) 5
                      have tev96 := congrArg Int32.toInt ev96
                      have ev97 : g92 27 5 = g35 27 5 := congrFun (hK95.1 27 (by decide)) 5
                      have tev97 := congrArg Int32.toInt ev97
                      have hK98 : Kp [9, 10, 11, 12, 27, 29] g g92 := (hK37).tr hK95 (by decide)
                      refine m_aload_n C dX3_stepsAreRight_185 0 rfl ?_
                      refine m_iload C dX3_stepsAreRight_186 6 rfl ?_
                      refine m_iconst C (1 : Int32) dX3_stepsAreRight_188 (by decide) ?_
                      have t99 : (1 : Int32).toInt = 1 := by decide
                      refine m_invV C cal_X3_putLeft sh_27 rfl (c_X3_putLeft l hX g92 x34 (1 : Int32) hI94 (by omega) (by omega)) lk_X3_51 im_X3_putLeft se_X3_putLeft (by decide) rfl rfl (Nat.le_of_ble_eq_true rfl) dX3_stepsAreRight_189 ⟨Nat.le_refl _, Nat.le_refl _⟩ (rV fun g101 q102 => ?_)
                      obtain ⟨hI103, hK104⟩ := q102
                      have ev105 : g101 20 5 = g92 20 5 := congrFun (hK104.1 20 (by decide)) 5
                      have tev105 := congrArg Int32.toInt ev105
                      have ev106 : g101 27 5 = g92 27 5 := congrFun (hK104.1 27 (by decide)) 5
                      have tev106 := congrArg Int32.toInt ev106
                      have hK107 : Kp [9, 10, 11, 12, 27, 29] g g101 := (hK98).tr hK104 (by decide)
                      refine m_aload_n C dX3_stepsAreRight_192 0 rfl ?_
                      refine m_invV C cal_X3_skipLevels sh_27 rfl (c_X3_skipLevels l hX g101  hI103) lk_X3_55 im_X3_skipLevels se_X3_skipLevels (by decide) rfl rfl (Nat.le_of_ble_eq_true rfl) dX3_stepsAreRight_193 ⟨Nat.le_refl _, Nat.le_refl _⟩ (rV fun g109 q110 => ?_)
                      obtain ⟨hI111, hK112⟩ := q110
                      have ev113 : g109 20 5 = g101 20 5 := congrFun (hK112.1 20 (by decide)) 5
                      have tev113 := congrArg Int32.toInt ev113
                      have hK114 : Kp [9, 10, 11, 12, 27, 29] g g109 := (hK107).tr hK112 (by decide)
                      refine m_goto C 206 dX3_stepsAreRight_196 (by decide) ?_
                      refine m_aload_n C dX3_stepsAreRight_206 0 rfl ?_
                      refine m_invV C cal_X3_halve sh_27 rfl (c_X3_halve l hX g109  hI111) lk_X3_61 im_X3_halve se_X3_halve (by decide) rfl rfl (Nat.le_of_ble_eq_true rfl) dX3_stepsAreRight_207 ⟨Nat.le_refl _, Nat.le_refl _⟩ (rV fun g116 q117 => ?_)
                      obtain ⟨hI118, hK119⟩ := q117
                      have ev120 : g116 20 5 = g109 20 5 := congrFun (hK119.1 20 (by decide)) 5
                      have tev120 := congrArg Int32.toInt ev120
                      have hK121 : Kp [9, 10, 11, 12, 27, 29] g g116 := (hK114).tr hK119 (by decide)
                      obtain ⟨x122, ex122⟩ : ∃ z : Int32, z = x34 + Int32.ofInt 1 := ⟨_, rfl⟩
                      have t123 : (x34 + (Int32.ofInt 1)).toInt = x34.toInt + (1 : Int) := i_add rfl (by decide) (by omega) (by omega)
                      have t124 : x122.toInt = (x34.toInt + (1 : Int)) := (congrArg Int32.toInt ex122).trans t123
                      refine m_iinc C x122 [(6, .int x122), (0, .ref (aL X 27)), (1, .int m0), (2, .int n0), (3, .int o), (4, .int q), (5, .int (0 : Int32))] dX3_stepsAreRight_210 (q := 6) rfl ex122.symm (by decide) rfl ?_
                      refine m_goto C 150 dX3_stepsAreRight_213 (by decide) ?_
                      refine m_lv [1, 2, 3, 4, 5, 6, 0] rfl ?_
                      exact ih150 x122 g116 (by omega) hI118 hK121 (by omega)
                  · skip
                    have th65 := i_eq h65
                    rw [show (0 : Int32).toInt = 0 by decide] at th65
                    refine m_iconst C (0 : Int32) dX3_stepsAreRight_169 (by decide) ?_
                    exact m_zret C dX3_stepsAreRight_170 (by decide) ⟨_, rfl, hI36, hK37, (by first | exact Or.inl rfl | exact Or.inr rfl)⟩
            have t125 : (1 : Int32).toInt = 1 := by decide
            refine m_lv [2, 3, 4, 5, 6, 1, 0] rfl ?_
            exact L150 (((9 - (1 : Int32).toInt).toNat) + 1) (1 : Int32) g27 (Nat.lt_succ_self _) hI29 hK32 (by omega)
          · skip
            have th7 := i_eq h7
            rw [show (0 : Int32).toInt = 0 by decide] at th7
            refine m_iconst C (0 : Int32) dX3_stepsAreRight_80 (by decide) ?_
            exact m_zret C dX3_stepsAreRight_81 (by decide) ⟨_, rfl, hI, Kp.rf, (by first | exact Or.inl rfl | exact Or.inr rfl)⟩
        · skip
          have th4 := i_eq h4
          rw [show (0 : Int32).toInt = 0 by decide] at th4
          refine m_iconst C (1 : Int32) dX3_stepsAreRight_58 (by decide) ?_
          refine m_goto C 63 dX3_stepsAreRight_59 (by decide) ?_
          refine m_istore C [(5, .int (1 : Int32)), (0, .ref (aL X 27)), (1, .int m0), (2, .int n0), (3, .int o), (4, .int q)] dX3_stepsAreRight_63 (by decide) rfl ?_
          refine m_iload C dX3_stepsAreRight_65 0 rfl ?_
          refine m_if_ne C 82 dX3_stepsAreRight_67 (by decide) (fun _ => ?_) (fun h => absurd h (by decide))
          refine m_aload_n C dX3_stepsAreRight_82 1 rfl ?_
          refine m_getr (rf := "") C 3 rfl gd3 (by decide) sh_27 rfl dX3_stepsAreRight_83 lk_X3_14 ?_
          refine m_iconst C (0 : Int32) dX3_stepsAreRight_86 (by decide) ?_
          refine m_iload C dX3_stepsAreRight_87 0 rfl ?_
          refine m_if_eq C 99 dX3_stepsAreRight_89 (by decide) (fun h => absurd h (by decide)) (fun _ => ?_)
          refine m_aload_n C dX3_stepsAreRight_92 1 rfl ?_
          refine m_getr (rf := "") C 2 rfl gd3 (by decide) sh_27 rfl dX3_stepsAreRight_93 lk_X3_35 ?_
          refine m_goto C 106 dX3_stepsAreRight_96 (by decide) ?_
          refine m_iload C dX3_stepsAreRight_106 0 rfl ?_
          refine m_if_eq C 115 dX3_stepsAreRight_108 (by decide) (fun h => absurd h (by decide)) (fun _ => ?_)
          refine m_iload_n C dX3_stepsAreRight_111 4 rfl ?_
          refine m_goto C 116 dX3_stepsAreRight_112 (by decide) ?_
          have t127 : (0 : Int32).toInt = 0 := by decide
          refine m_invVN C cal_X2_copyFrom sh_28 rfl (c_X2_copyFrom_28_25 l hX g (0 : Int32) o hI (by omega) (by omega)) lk_X3_38 im_X2_copyFrom se_X2_copyFrom (by decide) rfl rfl (Nat.le_of_ble_eq_true rfl) dX3_stepsAreRight_116 ⟨Nat.le_refl _, Nat.le_refl _⟩ (rV fun g129 q130 => ?_)
          obtain ⟨hI131, hK132⟩ := q130
          have hK133 : Kp [9, 10, 11, 12, 27, 29] g g129 := (Kp.rf).tr hK132 (by decide)
          refine m_aload_n C dX3_stepsAreRight_119 1 rfl ?_
          refine m_getr (rf := "") C 3 rfl gd3 (by decide) sh_27 rfl dX3_stepsAreRight_120 lk_X3_14 ?_
          refine m_iconst C (1 : Int32) dX3_stepsAreRight_123 (by decide) ?_
          refine m_aload_n C dX3_stepsAreRight_124 1 rfl ?_
          refine m_getr (rf := "") C 3 rfl gd3 (by decide) sh_27 rfl dX3_stepsAreRight_125 lk_X3_14 ?_
          refine m_iconst C (0 : Int32) dX3_stepsAreRight_128 (by decide) ?_
          have t134 : (1 : Int32).toInt = 1 := by decide
          have t135 : (0 : Int32).toInt = 0 := by decide
          refine m_invVN C cal_X2_copyFrom sh_28 rfl (c_X2_copyFrom_28_28 l hX g129 (1 : Int32) (0 : Int32) hI131 (by omega) (by omega)) lk_X3_38 im_X2_copyFrom se_X2_copyFrom (by decide) rfl rfl (Nat.le_of_ble_eq_true rfl) dX3_stepsAreRight_129 ⟨Nat.le_refl _, Nat.le_refl _⟩ (rV fun g137 q138 => ?_)
          obtain ⟨hI139, hK140⟩ := q138
          have hK141 : Kp [9, 10, 11, 12, 27, 29] g g137 := (hK133).tr hK140 (by decide)
          refine m_aload_n C dX3_stepsAreRight_132 1 rfl ?_
          refine m_iload_n C dX3_stepsAreRight_133 2 rfl ?_
          refine m_iload_n C dX3_stepsAreRight_134 3 rfl ?_
          refine m_invV C cal_X3_startSteps sh_27 rfl (c_X3_startSteps l hX g137 m0 n0 hI139) lk_X3_71 im_X3_startSteps se_X3_startSteps (by decide) rfl rfl (Nat.le_of_ble_eq_true rfl) dX3_stepsAreRight_135 ⟨Nat.le_refl _, Nat.le_refl _⟩ (rV fun g143 q144 => ?_)
          obtain ⟨hI145, hK146⟩ := q144
          have hK147 : Kp [9, 10, 11, 12, 27, 29] g g143 := (hK141).tr hK146 (by decide)
          refine m_iload C dX3_stepsAreRight_138 0 rfl ?_
          refine m_if_eq C 147 dX3_stepsAreRight_140 (by decide) (fun h => absurd h (by decide)) (fun _ => ?_)
          refine m_iconst C (0 : Int32) dX3_stepsAreRight_143 (by decide) ?_
          refine m_goto C 148 dX3_stepsAreRight_144 (by decide) ?_
          refine m_istore C [(6, .int (0 : Int32)), (5, .int (1 : Int32)), (0, .ref (aL X 27)), (1, .int m0), (2, .int n0), (3, .int o), (4, .int q)] dX3_stepsAreRight_148 (by decide) rfl ?_
          have L150 : ∀ (n150 : Nat) (x149 : Int32) (g150 : Mem), (9 - x149.toInt).toNat < n150 → Inv g150 → Kp [9, 10, 11, 12, 27, 29] g g150 → 0 ≤ x149.toInt ∧ x149.toInt ≤ 8 → Wm X p l e (rmD 5) s m ([.ref (aL X 27), .int m0, .int n0, .int o, .int q] : List Value).toArray below meth c 7 0 0 (MQ below (cQ X (pI (fun r g2 => Inv g2 ∧ Kp [9, 10, 11, 12, 27, 29] g g2 ∧ R01 r))) ([.ref (aL X 27), .int m0, .int n0, .int o, .int q] : List Value).toArray s 0 0 (Ab X)) g150 150 [(0, .ref (aL X 27)), (1, .int m0), (2, .int n0), (3, .int o), (4, .int q), (5, .int (1 : Int32)), (6, .int x149)] [] := by
            intro n150
            induction n150 with
            | zero => intro x149 g150 hm; exact absurd hm (Nat.not_lt_zero _)
            | succ n150 ih150 =>
              intro x149 g150 hm150 hI151 hK152 i153
              try obtain ⟨i153a, i153b⟩ := i153
              refine m_iload C dX3_stepsAreRight_150 6 rfl ?_
              refine m_aload_n C dX3_stepsAreRight_152 0 rfl ?_
              refine m_getr (rf := "") C 1 rfl gd3 (by decide) sh_27 rfl dX3_stepsAreRight_153 lk_X3_31 ?_
              refine m_getiN (rf := "") C 5 rfl gd6 (by decide) sh_20 rfl dX3_stepsAreRight_156 lk_X3_42 ?_
              have r154 := iv_psize hI151
              have ev155 : g150 20 5 = g 20 5 := congrFun (hK152.1 20 (by decide)) 5
              have tev155 := congrArg Int32.toInt ev155
              refine m_icmp_ge C 216 dX3_stepsAreRight_159 (by decide) (fun h156 => ?_) (fun h156 => ?_)
              · skip
                have th156 := i_le h156
                refine m_aload_n C dX3_stepsAreRight_216 0 rfl ?_
                refine m_geti (rf := "") C 5 rfl gd3 (by decide) sh_27 rfl dX3_stepsAreRight_217 lk_X3_24 ?_
                refine m_if_ne C 260 dX3_stepsAreRight_220 (by decide) (fun h157 => ?_) (fun h157 => ?_)
                · skip
                  have th157 := i_ne h157
                  rw [show (0 : Int32).toInt = 0 by decide] at th157
                  refine m_iconst C (0 : Int32) dX3_stepsAreRight_260 (by decide) ?_
                  exact m_zret C dX3_stepsAreRight_261 (by decide) ⟨_, rfl, hI151, hK152, (by first | exact Or.inl rfl | exact Or.inr rfl)⟩
                · skip
                  have th157 := i_eq h157
                  rw [show (0 : Int32).toInt = 0 by decide] at th157
                  refine m_aload_n C dX3_stepsAreRight_223 0 rfl ?_
                  refine m_getr (rf := "") C 3 rfl gd3 (by decide) sh_27 rfl dX3_stepsAreRight_224 lk_X3_14 ?_
                  refine m_iconst C (0 : Int32) dX3_stepsAreRight_227 (by decide) ?_
                  refine m_aload_n C dX3_stepsAreRight_228 0 rfl ?_
                  refine m_getr (rf := "") C 2 rfl gd3 (by decide) sh_27 rfl dX3_stepsAreRight_229 lk_X3_35 ?_
                  refine m_iload_n C dX3_stepsAreRight_232 3 rfl ?_
                  have t158 : (0 : Int32).toInt = 0 := by decide
                  refine m_invVN C cal_X2_isSame sh_28 rfl (c_X2_isSame_28_25 l hX g150 (0 : Int32) o hI151 (by omega) (by omega)) lk_X3_64 im_X2_isSame se_X2_isSame (by decide) rfl rfl (Nat.le_of_ble_eq_true rfl) dX3_stepsAreRight_233 ⟨Nat.le_refl _, Nat.le_refl _⟩ (rI fun r159 g160 q161 => ?_)
                  obtain ⟨hI162, hK163, p164⟩ := q161
                  have ev165 : g160 20 5 = g150 20 5 := congrFun (hK163.1 20 (by decide)) 5
                  have tev165 := congrArg Int32.toInt ev165
                  have ev166 : g160 27 5 = g150 27 5 := congrFun (hK163.1 27 (by decide)) 5
                  have tev166 := congrArg Int32.toInt ev166
                  have hK167 : Kp [9, 10, 11, 12, 27, 29] g g160 := (hK152).tr hK163 (by decide)
                  refine m_if_eq C 260 dX3_stepsAreRight_236 (by decide) (fun h168 => ?_) (fun h168 => ?_)
                  · skip
                    have th168 := i_eq h168
                    rw [show (0 : Int32).toInt = 0 by decide] at th168
                    refine m_iconst C (0 : Int32) dX3_stepsAreRight_260 (by decide) ?_
                    exact m_zret C dX3_stepsAreRight_261 (by decide) ⟨_, rfl, hI162, hK167, (by first | exact Or.inl rfl | exact Or.inr rfl)⟩
                  · skip
                    have th168 := i_ne h168
                    rw [show (0 : Int32).toInt = 0 by decide] at th168
                    refine m_aload_n C dX3_stepsAreRight_239 0 rfl ?_
                    refine m_getr (rf := "") C 3 rfl gd3 (by decide) sh_27 rfl dX3_stepsAreRight_240 lk_X3_14 ?_
                    refine m_iconst C (1 : Int32) dX3_stepsAreRight_243 (by decide) ?_
                    refine m_aload_n C dX3_stepsAreRight_244 0 rfl ?_
                    refine m_getr (rf := "") C 2 rfl gd3 (by decide) sh_27 rfl dX3_stepsAreRight_245 lk_X3_35 ?_
                    refine m_iload C dX3_stepsAreRight_248 4 rfl ?_
                    have t169 : (1 : Int32).toInt = 1 := by decide
                    refine m_invVN C cal_X2_isSame sh_28 rfl (c_X2_isSame_28_25 l hX g160 (1 : Int32) q hI162 (by omega) (by omega)) lk_X3_64 im_X2_isSame se_X2_isSame (by decide) rfl rfl (Nat.le_of_ble_eq_true rfl) dX3_stepsAreRight_250 ⟨Nat.le_refl _, Nat.le_refl _⟩ (rI fun r170 g171 q172 => ?_)
                    obtain ⟨hI173, hK174, p175⟩ := q172
                    have ev176 : g171 20 5 = g160 20 5 := congrFun (hK174.1 20 (by decide)) 5
                    have tev176 := congrArg Int32.toInt ev176
                    have ev177 : g171 27 5 = g160 27 5 := congrFun (hK174.1 27 (by decide)) 5
                    have tev177 := congrArg Int32.toInt ev177
                    have hK178 : Kp [9, 10, 11, 12, 27, 29] g g171 := (hK167).tr hK174 (by decide)
                    refine m_if_eq C 260 dX3_stepsAreRight_253 (by decide) (fun h179 => ?_) (fun h179 => ?_)
                    · skip
                      have th179 := i_eq h179
                      rw [show (0 : Int32).toInt = 0 by decide] at th179
                      refine m_iconst C (0 : Int32) dX3_stepsAreRight_260 (by decide) ?_
                      exact m_zret C dX3_stepsAreRight_261 (by decide) ⟨_, rfl, hI173, hK178, (by first | exact Or.inl rfl | exact Or.inr rfl)⟩
                    · skip
                      have th179 := i_ne h179
                      rw [show (0 : Int32).toInt = 0 by decide] at th179
                      refine m_iconst C (1 : Int32) dX3_stepsAreRight_256 (by decide) ?_
                      refine m_goto C 261 dX3_stepsAreRight_257 (by decide) ?_
                      exact m_zret C dX3_stepsAreRight_261 (by decide) ⟨_, rfl, hI173, hK178, (by first | exact Or.inl rfl | exact Or.inr rfl)⟩
              · skip
                have th156 := i_nle h156
                refine m_aload_n C dX3_stepsAreRight_162 0 rfl ?_
                refine m_geti (rf := "") C 5 rfl gd3 (by decide) sh_27 rfl dX3_stepsAreRight_163 lk_X3_24 ?_
                refine m_if_ne C 171 dX3_stepsAreRight_166 (by decide) (fun h180 => ?_) (fun h180 => ?_)
                · skip
                  have th180 := i_ne h180
                  rw [show (0 : Int32).toInt = 0 by decide] at th180
                  refine m_aload_n C dX3_stepsAreRight_171 0 rfl ?_
                  refine m_invV C cal_X3_comesFromLeft sh_27 rfl (c_X3_comesFromLeft l hX g150  hI151) lk_X3_47 im_X3_comesFromLeft se_X3_comesFromLeft (by decide) rfl rfl (Nat.le_of_ble_eq_true rfl) dX3_stepsAreRight_172 ⟨Nat.le_refl _, Nat.le_refl _⟩ (rI fun r181 g182 q183 => ?_)
                  obtain ⟨eg182, p184⟩ := q183
                  subst g182
                  refine m_if_eq C 199 dX3_stepsAreRight_175 (by decide) (fun h185 => ?_) (fun h185 => ?_)
                  · skip
                    have th185 := i_eq h185
                    rw [show (0 : Int32).toInt = 0 by decide] at th185
                    refine m_aload_n C dX3_stepsAreRight_199 0 rfl ?_
                    refine m_iload C dX3_stepsAreRight_200 6 rfl ?_
                    refine m_iconst C (1 : Int32) dX3_stepsAreRight_202 (by decide) ?_
                    have t186 : (1 : Int32).toInt = 1 := by decide
                    refine m_invV C cal_X3_putRight sh_27 rfl (c_X3_putRight l hX g150 x149 (1 : Int32) hI151 (by omega) (by omega)) lk_X3_58 im_X3_putRight se_X3_putRight (by decide) rfl rfl (Nat.le_of_ble_eq_true rfl) dX3_stepsAreRight_203 ⟨Nat.le_refl _, Nat.le_refl _⟩ (rV fun g188 q189 => ?_)
                    obtain ⟨hI190, hK191⟩ := q189
                    have ev192 : g188 20 5 = g150 20 5 := congrFun (hK191.1 20 (by decide)) 5
                    have tev192 := congrArg Int32.toInt ev192
                    have ev193 : g188 27 5 = g150 27 5 := congrFun (hK191.1 27 (by decide)) 5
                    have tev193 := congrArg Int32.toInt ev193
                    have hK194 : Kp [9, 10, 11, 12, 27, 29] g g188 := (hK152).tr hK191 (by decide)
                    refine m_aload_n C dX3_stepsAreRight_206 0 rfl ?_
                    refine m_invV C cal_X3_halve sh_27 rfl (c_X3_halve l hX g188  hI190) lk_X3_61 im_X3_halve se_X3_halve (by decide) rfl rfl (Nat.le_of_ble_eq_true rfl) dX3_stepsAreRight_207 ⟨Nat.le_refl _, Nat.le_refl _⟩ (rV fun g196 q197 => ?_)
                    obtain ⟨hI198, hK199⟩ := q197
                    have ev200 : g196 20 5 = g188 20 5 := congrFun (hK199.1 20 (by decide)) 5
                    have tev200 := congrArg Int32.toInt ev200
                    have hK201 : Kp [9, 10, 11, 12, 27, 29] g g196 := (hK194).tr hK199 (by decide)
                    obtain ⟨x202, ex202⟩ : ∃ z : Int32, z = x149 + Int32.ofInt 1 := ⟨_, rfl⟩
                    have t203 : (x149 + (Int32.ofInt 1)).toInt = x149.toInt + (1 : Int) := i_add rfl (by decide) (by omega) (by omega)
                    have t204 : x202.toInt = (x149.toInt + (1 : Int)) := (congrArg Int32.toInt ex202).trans t203
                    refine m_iinc C x202 [(6, .int x202), (0, .ref (aL X 27)), (1, .int m0), (2, .int n0), (3, .int o), (4, .int q), (5, .int (1 : Int32))] dX3_stepsAreRight_210 (q := 6) rfl ex202.symm (by decide) rfl ?_
                    refine m_goto C 150 dX3_stepsAreRight_213 (by decide) ?_
                    refine m_lv [1, 2, 3, 4, 5, 6, 0] rfl ?_
                    exact ih150 x202 g196 (by omega) hI198 hK201 (by omega)
                  · skip
                    have th185 := i_ne h185
                    rw [show (0 : Int32).toInt = 0 by decide] at th185
                    refine m_aload_n C dX3_stepsAreRight_178 0 rfl ?_
                    refine m_iload C dX3_stepsAreRight_179 6 rfl ?_
                    refine m_iconst C (0 : Int32) dX3_stepsAreRight_181 (by decide) ?_
                    have t205 : (0 : Int32).toInt = 0 := by decide
                    refine m_invV C cal_X3_putLeft sh_27 rfl (c_X3_putLeft l hX g150 x149 (0 : Int32) hI151 (by omega) (by omega)) lk_X3_51 im_X3_putLeft se_X3_putLeft (by decide) rfl rfl (Nat.le_of_ble_eq_true rfl) dX3_stepsAreRight_182 ⟨Nat.le_refl _, Nat.le_refl _⟩ (rV fun g207 q208 => ?_)
                    obtain ⟨hI209, hK210⟩ := q208
                    have ev211 : g207 20 5 = g150 20 5 := congrFun (hK210.1 20 (by decide)) 5
                    have tev211 := congrArg Int32.toInt ev211
                    have ev212 : g207 27 5 = g150 27 5 := congrFun (hK210.1 27 (by decide)) 5
                    have tev212 := congrArg Int32.toInt ev212
                    have hK213 : Kp [9, 10, 11, 12, 27, 29] g g207 := (hK152).tr hK210 (by decide)
                    refine m_aload_n C dX3_stepsAreRight_185 0 rfl ?_
                    refine m_iload C dX3_stepsAreRight_186 6 rfl ?_
                    refine m_iconst C (1 : Int32) dX3_stepsAreRight_188 (by decide) ?_
                    have t214 : (1 : Int32).toInt = 1 := by decide
                    refine m_invV C cal_X3_putLeft sh_27 rfl (c_X3_putLeft l hX g207 x149 (1 : Int32) hI209 (by omega) (by omega)) lk_X3_51 im_X3_putLeft se_X3_putLeft (by decide) rfl rfl (Nat.le_of_ble_eq_true rfl) dX3_stepsAreRight_189 ⟨Nat.le_refl _, Nat.le_refl _⟩ (rV fun g216 q217 => ?_)
                    obtain ⟨hI218, hK219⟩ := q217
                    have ev220 : g216 20 5 = g207 20 5 := congrFun (hK219.1 20 (by decide)) 5
                    have tev220 := congrArg Int32.toInt ev220
                    have ev221 : g216 27 5 = g207 27 5 := congrFun (hK219.1 27 (by decide)) 5
                    have tev221 := congrArg Int32.toInt ev221
                    have hK222 : Kp [9, 10, 11, 12, 27, 29] g g216 := (hK213).tr hK219 (by decide)
                    refine m_aload_n C dX3_stepsAreRight_192 0 rfl ?_
                    refine m_invV C cal_X3_skipLevels sh_27 rfl (c_X3_skipLevels l hX g216  hI218) lk_X3_55 im_X3_skipLevels se_X3_skipLevels (by decide) rfl rfl (Nat.le_of_ble_eq_true rfl) dX3_stepsAreRight_193 ⟨Nat.le_refl _, Nat.le_refl _⟩ (rV fun g224 q225 => ?_)
                    obtain ⟨hI226, hK227⟩ := q225
                    have ev228 : g224 20 5 = g216 20 5 := congrFun (hK227.1 20 (by decide)) 5
                    have tev228 := congrArg Int32.toInt ev228
                    have hK229 : Kp [9, 10, 11, 12, 27, 29] g g224 := (hK222).tr hK227 (by decide)
                    refine m_goto C 206 dX3_stepsAreRight_196 (by decide) ?_
                    refine m_aload_n C dX3_stepsAreRight_206 0 rfl ?_
                    refine m_invV C cal_X3_halve sh_27 rfl (c_X3_halve l hX g224  hI226) lk_X3_61 im_X3_halve se_X3_halve (by decide) rfl rfl (Nat.le_of_ble_eq_true rfl) dX3_stepsAreRight_207 ⟨Nat.le_refl _, Nat.le_refl _⟩ (rV fun g231 q232 => ?_)
                    obtain ⟨hI233, hK234⟩ := q232
                    have ev235 : g231 20 5 = g224 20 5 := congrFun (hK234.1 20 (by decide)) 5
                    have tev235 := congrArg Int32.toInt ev235
                    have hK236 : Kp [9, 10, 11, 12, 27, 29] g g231 := (hK229).tr hK234 (by decide)
                    obtain ⟨x237, ex237⟩ : ∃ z : Int32, z = x149 + Int32.ofInt 1 := ⟨_, rfl⟩
                    have t238 : (x149 + (Int32.ofInt 1)).toInt = x149.toInt + (1 : Int) := i_add rfl (by decide) (by omega) (by omega)
                    have t239 : x237.toInt = (x149.toInt + (1 : Int)) := (congrArg Int32.toInt ex237).trans t238
                    refine m_iinc C x237 [(6, .int x237), (0, .ref (aL X 27)), (1, .int m0), (2, .int n0), (3, .int o), (4, .int q), (5, .int (1 : Int32))] dX3_stepsAreRight_210 (q := 6) rfl ex237.symm (by decide) rfl ?_
                    refine m_goto C 150 dX3_stepsAreRight_213 (by decide) ?_
                    refine m_lv [1, 2, 3, 4, 5, 6, 0] rfl ?_
                    exact ih150 x237 g231 (by omega) hI233 hK236 (by omega)
                · skip
                  have th180 := i_eq h180
                  rw [show (0 : Int32).toInt = 0 by decide] at th180
                  refine m_iconst C (0 : Int32) dX3_stepsAreRight_169 (by decide) ?_
                  exact m_zret C dX3_stepsAreRight_170 (by decide) ⟨_, rfl, hI151, hK152, (by first | exact Or.inl rfl | exact Or.inr rfl)⟩
          have t240 : (0 : Int32).toInt = 0 := by decide
          refine m_lv [2, 3, 4, 5, 6, 1, 0] rfl ?_
          exact L150 (((9 - (0 : Int32).toInt).toNat) + 1) (0 : Int32) g143 (Nat.lt_succ_self _) hI145 hK147 (by omega)
      · skip
        have th3 := i_eq h3
        refine m_aload_n C dX3_stepsAreRight_17 0 rfl ?_
        refine m_getr (rf := "") C 1 rfl gd3 (by decide) sh_27 rfl dX3_stepsAreRight_18 lk_X3_31 ?_
        refine m_getiN (rf := "") C 5 rfl gd6 (by decide) sh_20 rfl dX3_stepsAreRight_21 lk_X3_42 ?_
        have r241 := iv_psize hI
        refine m_if_ne C 48 dX3_stepsAreRight_24 (by decide) (fun h242 => ?_) (fun h242 => ?_)
        · skip
          have th242 := i_ne h242
          rw [show (0 : Int32).toInt = 0 by decide] at th242
          refine m_iconst C (0 : Int32) dX3_stepsAreRight_48 (by decide) ?_
          exact m_zret C dX3_stepsAreRight_49 (by decide) ⟨_, rfl, hI, Kp.rf, (by first | exact Or.inl rfl | exact Or.inr rfl)⟩
        · skip
          have th242 := i_eq h242
          rw [show (0 : Int32).toInt = 0 by decide] at th242
          refine m_aload_n C dX3_stepsAreRight_27 0 rfl ?_
          refine m_getr (rf := "") C 2 rfl gd3 (by decide) sh_27 rfl dX3_stepsAreRight_28 lk_X3_35 ?_
          refine m_iload_n C dX3_stepsAreRight_31 3 rfl ?_
          refine m_aload_n C dX3_stepsAreRight_32 0 rfl ?_
          refine m_getr (rf := "") C 2 rfl gd3 (by decide) sh_27 rfl dX3_stepsAreRight_33 lk_X3_35 ?_
          refine m_iload C dX3_stepsAreRight_36 4 rfl ?_
          refine m_invVN C cal_X2_isSame sh_25 rfl (c_X2_isSame_25_25 l hX g o q hI (by omega) (by omega)) lk_X3_64 im_X2_isSame se_X2_isSame (by decide) rfl rfl (Nat.le_of_ble_eq_true rfl) dX3_stepsAreRight_38 ⟨Nat.le_refl _, Nat.le_refl _⟩ (rI fun r243 g244 q245 => ?_)
          obtain ⟨hI246, hK247, p248⟩ := q245
          have ev249 : g244 20 5 = g 20 5 := congrFun (hK247.1 20 (by decide)) 5
          have tev249 := congrArg Int32.toInt ev249
          have hK250 : Kp [9, 10, 11, 12, 27, 29] g g244 := (Kp.rf).tr hK247 (by decide)
          refine m_if_eq C 48 dX3_stepsAreRight_41 (by decide) (fun h251 => ?_) (fun h251 => ?_)
          · skip
            have th251 := i_eq h251
            rw [show (0 : Int32).toInt = 0 by decide] at th251
            refine m_iconst C (0 : Int32) dX3_stepsAreRight_48 (by decide) ?_
            exact m_zret C dX3_stepsAreRight_49 (by decide) ⟨_, rfl, hI246, hK250, (by first | exact Or.inl rfl | exact Or.inr rfl)⟩
          · skip
            have th251 := i_ne h251
            rw [show (0 : Int32).toInt = 0 by decide] at th251
            refine m_iconst C (1 : Int32) dX3_stepsAreRight_44 (by decide) ?_
            refine m_goto C 49 dX3_stepsAreRight_45 (by decide) ?_
            exact m_zret C dX3_stepsAreRight_49 (by decide) ⟨_, rfl, hI246, hK250, (by first | exact Or.inl rfl | exact Or.inr rfl)⟩
    · skip
      have th2 := i_nle h2
      refine m_iconst C (0 : Int32) dX3_stepsAreRight_10 (by decide) ?_
      exact m_zret C dX3_stepsAreRight_11 (by decide) ⟨_, rfl, hI, Kp.rf, (by first | exact Or.inl rfl | exact Or.inr rfl)⟩
set_option maxRecDepth 20000 in
set_option maxHeartbeats 4000000 in
theorem c_X8_writeEntry (l : Launch) {X : XT} (hX : Lok X) (g : Mem) (a : Int32) (b : Int32) (q : Int32) (u : Int32) (v : Int32) (hI : Inv g) : Ctr l X yX8_writeEntry cX8_writeEntry 6 none (rmD 6) [.ref (aL X 0), .int a, .int b, .int q, .int u, .int v] g (pV (fun g2 => Inv g2 ∧ Kp [9, 10, 11, 12, 15, 16, 17, 19, 30, 31] g g2)) := by
  refine Ctr.of (lv := [(0, .ref (aL X 0)), (1, .int a), (2, .int b), (3, .int q), (4, .int u), (5, .int v)]) hX (by decide) rfl (Nat.le_of_ble_eq_true rfl) ?_
  intro p e s m below meth c C
  refine m_aload_n C dX8_writeEntry_0 0 rfl ?_
  refine m_getr (rf := "") C 3 rfl gd8 (by decide) sh_0 rfl dX8_writeEntry_1 lk_X8_37 ?_
  refine m_iload_n C dX8_writeEntry_4 1 rfl ?_
  refine m_iload_n C dX8_writeEntry_5 2 rfl ?_
  refine m_iload_n C dX8_writeEntry_6 3 rfl ?_
  refine m_iload C dX8_writeEntry_7 4 rfl ?_
  refine m_iload C dX8_writeEntry_9 5 rfl ?_
  refine m_invVN C cal_X4_draftHead sh_16 rfl (c_X4_draftHead l hX g a b q u v hI) lk_X8_263 im_X4_draftHead se_X4_draftHead (by decide) rfl rfl (Nat.le_of_ble_eq_true rfl) dX8_writeEntry_11 ⟨Nat.le_refl _, Nat.le_refl _⟩ (rV fun g2 q3 => ?_)
  obtain ⟨hI4, hK5⟩ := q3
  have hK6 : Kp [9, 10, 11, 12, 15, 16, 17, 19, 30, 31] g g2 := (Kp.rf).tr hK5 (by decide)
  refine m_aload_n C dX8_writeEntry_14 0 rfl ?_
  refine m_getr (rf := "") C 3 rfl gd8 (by decide) sh_0 rfl dX8_writeEntry_15 lk_X8_37 ?_
  refine m_aload_n C dX8_writeEntry_18 0 rfl ?_
  refine m_geti (rf := "") C 9 rfl gd8 (by decide) sh_0 rfl dX8_writeEntry_19 lk_X8_78 ?_
  have r7 := iv_time hI4
  have ev8 : g2 0 9 = g 0 9 := congrFun (hK6.1 0 (by decide)) 9
  have tev8 := congrArg Int32.toInt ev8
  refine m_invVN C cal_X4_draftTime sh_16 rfl (c_X4_draftTime l hX g2 (g2 0 9) hI4) lk_X8_266 im_X4_draftTime se_X4_draftTime (by decide) rfl rfl (Nat.le_of_ble_eq_true rfl) dX8_writeEntry_22 ⟨Nat.le_refl _, Nat.le_refl _⟩ (rV fun g10 q11 => ?_)
  obtain ⟨hI12, hK13⟩ := q11
  have ev14 : g10 0 9 = g2 0 9 := congrFun (hK13.1 0 (by decide)) 9
  have tev14 := congrArg Int32.toInt ev14
  have hK15 : Kp [9, 10, 11, 12, 15, 16, 17, 19, 30, 31] g g10 := (hK6).tr hK13 (by decide)
  refine m_aload_n C dX8_writeEntry_25 0 rfl ?_
  refine m_getr (rf := "") C 3 rfl gd8 (by decide) sh_0 rfl dX8_writeEntry_26 lk_X8_37 ?_
  refine m_invVN C cal_X4_linkDraft sh_16 rfl (c_X4_linkDraft l hX g10  hI12) lk_X8_269 im_X4_linkDraft se_X4_linkDraft (by decide) rfl rfl (Nat.le_of_ble_eq_true rfl) dX8_writeEntry_29 ⟨Nat.le_refl _, Nat.le_refl _⟩ (rV fun g17 q18 => ?_)
  obtain ⟨hI19, hK20⟩ := q18
  have ev21 : g17 0 9 = g10 0 9 := congrFun (hK20.1 0 (by decide)) 9
  have tev21 := congrArg Int32.toInt ev21
  have hK22 : Kp [9, 10, 11, 12, 15, 16, 17, 19, 30, 31] g g17 := (hK15).tr hK20 (by decide)
  refine m_aload_n C dX8_writeEntry_32 0 rfl ?_
  refine m_getr (rf := "") C 3 rfl gd8 (by decide) sh_0 rfl dX8_writeEntry_33 lk_X8_37 ?_
  refine m_invVN C cal_X4_accept sh_16 rfl (c_X4_accept l hX g17  hI19) lk_X8_215 im_X4_accept se_X4_accept (by decide) rfl rfl (Nat.le_of_ble_eq_true rfl) dX8_writeEntry_36 ⟨Nat.le_refl _, Nat.le_refl _⟩ (rV fun g24 q25 => ?_)
  obtain ⟨hI26, hK27, p28⟩ := q25
  have ev29 : g24 0 9 = g17 0 9 := congrFun (hK27.1 0 (by decide)) 9
  have tev29 := congrArg Int32.toInt ev29
  have hK30 : Kp [9, 10, 11, 12, 15, 16, 17, 19, 30, 31] g g24 := (hK22).tr hK27 (by decide)
  refine m_aload_n C dX8_writeEntry_39 0 rfl ?_
  refine m_getr (rf := "") C 7 rfl gd8 (by decide) sh_0 rfl dX8_writeEntry_40 lk_X8_71 ?_
  refine m_aload_n C dX8_writeEntry_43 0 rfl ?_
  refine m_getr (rf := "") C 3 rfl gd8 (by decide) sh_0 rfl dX8_writeEntry_44 lk_X8_37 ?_
  refine m_aload_n C dX8_writeEntry_47 0 rfl ?_
  refine m_getr (rf := "") C 3 rfl gd8 (by decide) sh_0 rfl dX8_writeEntry_48 lk_X8_37 ?_
  refine m_getiN (rf := "") C 4 rfl gd4 (by decide) sh_16 rfl dX8_writeEntry_51 lk_X8_211 ?_
  have r31 := iv_size hI26
  refine m_iconst C (1 : Int32) dX8_writeEntry_54 (by decide) ?_
  refine m_isub C dX8_writeEntry_55 ?_
  have t32 : ((g24 16 4) - (1 : Int32)).toInt = (g24 16 4).toInt - (1 : Int) := i_sub rfl (by decide) (by omega) (by omega)
  refine m_invVN C cal_X0_writeFrame sh_30 rfl (c_X0_writeFrame l hX g24 ((g24 16 4) - (1 : Int32)) hI26 (by omega)) lk_X8_272 im_X0_writeFrame se_X0_writeFrame (by decide) rfl rfl (Nat.le_of_ble_eq_true rfl) dX8_writeEntry_56 ⟨Nat.le_refl _, Nat.le_refl _⟩ (rV fun g34 q35 => ?_)
  obtain ⟨hI36, hK37⟩ := q35
  have ev38 : g34 0 9 = g24 0 9 := congrFun (hK37.1 0 (by decide)) 9
  have tev38 := congrArg Int32.toInt ev38
  have ev39 : g34 16 4 = g24 16 4 := congrFun (hK37.1 16 (by decide)) 4
  have tev39 := congrArg Int32.toInt ev39
  have hK40 : Kp [9, 10, 11, 12, 15, 16, 17, 19, 30, 31] g g34 := (hK30).tr hK37 (by decide)
  exact m_vret C dX8_writeEntry_59 ⟨rfl, hI36, hK40⟩
set_option maxRecDepth 20000 in
set_option maxHeartbeats 4000000 in
theorem c_X8_readFrame (l : Launch) {X : XT} (hX : Lok X) (g : Mem) (i0 : Int32) (hI : Inv g) (h_i0 : 0 ≤ i0.toInt ∧ i0.toInt ≤ 59) : Ctr l X yX8_readFrame cX8_readFrame 3 (some .boolean) (rmD 4) [.ref (aL X 0), .int i0] g (pI (fun r g2 => Inv g2 ∧ Kp [9, 10, 11, 12, 17, 19] g g2 ∧ R01 r)) := by
  refine Ctr.of (lv := [(0, .ref (aL X 0)), (1, .int i0)]) hX (by decide) rfl (Nat.le_of_ble_eq_true rfl) ?_
  intro p e s m below meth c C
  refine m_iconst C (0 : Int32) dX8_readFrame_0 (by decide) ?_
  refine m_istore_n C [(2, .int (0 : Int32)), (0, .ref (aL X 0)), (1, .int i0)] dX8_readFrame_1 (by decide) rfl ?_
  have L2 : ∀ (n2 : Nat) (x2 : Int32) (g3 : Mem), (13 - x2.toInt).toNat < n2 → Inv g3 → Kp [9, 10, 11, 12, 17, 19] g g3 → 0 ≤ x2.toInt ∧ x2.toInt ≤ 12 → Wm X p l e (rmD 4) s m ([.ref (aL X 0), .int i0] : List Value).toArray below meth c 3 0 0 (MQ below (cQ X (pI (fun r g2 => Inv g2 ∧ Kp [9, 10, 11, 12, 17, 19] g g2 ∧ R01 r))) ([.ref (aL X 0), .int i0] : List Value).toArray s 0 0 (Ab X)) g3 2 [(0, .ref (aL X 0)), (1, .int i0), (2, .int x2)] [] := by
    intro n2
    induction n2 with
    | zero => intro x2 g3 hm; exact absurd hm (Nat.not_lt_zero _)
    | succ n2 ih2 =>
      intro x2 g3 hm2 hI4 hK5 i6
      try obtain ⟨i6a, i6b⟩ := i6
      refine m_iload_n C dX8_readFrame_2 2 rfl ?_
      refine m_bipush C (12 : Int32) dX8_readFrame_3 (by decide) ?_
      refine m_icmp_ge C 38 dX8_readFrame_5 (by decide) (fun h7 => ?_) (fun h7 => ?_)
      · skip
        have th7 := i_le h7
        rw [show (12 : Int32).toInt = 12 by decide] at th7
        refine m_aload_n C dX8_readFrame_38 0 rfl ?_
        refine m_getr (rf := "") C 3 rfl gd8 (by decide) sh_0 rfl dX8_readFrame_39 lk_X8_37 ?_
        refine m_invVN C cal_X4_linkDraft sh_16 rfl (c_X4_linkDraft l hX g3  hI4) lk_X8_269 im_X4_linkDraft se_X4_linkDraft (by decide) rfl rfl (Nat.le_of_ble_eq_true rfl) dX8_readFrame_42 ⟨Nat.le_refl _, Nat.le_refl _⟩ (rV fun g9 q10 => ?_)
        obtain ⟨hI11, hK12⟩ := q10
        have hK13 : Kp [9, 10, 11, 12, 17, 19] g g9 := (hK5).tr hK12 (by decide)
        refine m_aload_n C dX8_readFrame_45 0 rfl ?_
        refine m_getr (rf := "") C 3 rfl gd8 (by decide) sh_0 rfl dX8_readFrame_46 lk_X8_37 ?_
        refine m_iload_n C dX8_readFrame_49 1 rfl ?_
        refine m_iconst C (0 : Int32) dX8_readFrame_50 (by decide) ?_
        have t14 : (0 : Int32).toInt = 0 := by decide
        refine m_invVN C cal_X4_entryByte sh_16 rfl (c_X4_entryByte l hX g9 i0 (0 : Int32) hI11 (by omega) (by omega)) lk_X8_151 im_X4_entryByte se_X4_entryByte (by decide) rfl rfl (Nat.le_of_ble_eq_true rfl) dX8_readFrame_51 ⟨Nat.le_refl _, Nat.le_refl _⟩ (rI fun r15 g16 q17 => ?_)
        obtain ⟨eg16, p18⟩ := q17
        subst g16
        refine m_bipush C (8 : Int32) dX8_readFrame_54 (by decide) ?_
        refine m_ishl C dX8_readFrame_56 ?_
        refine m_aload_n C dX8_readFrame_57 0 rfl ?_
        refine m_getr (rf := "") C 3 rfl gd8 (by decide) sh_0 rfl dX8_readFrame_58 lk_X8_37 ?_
        refine m_iload_n C dX8_readFrame_61 1 rfl ?_
        refine m_iconst C (1 : Int32) dX8_readFrame_62 (by decide) ?_
        have t19 : (1 : Int32).toInt = 1 := by decide
        refine m_invVN C cal_X4_entryByte sh_16 rfl (c_X4_entryByte l hX g9 i0 (1 : Int32) hI11 (by omega) (by omega)) lk_X8_151 im_X4_entryByte se_X4_entryByte (by decide) rfl rfl (Nat.le_of_ble_eq_true rfl) dX8_readFrame_63 ⟨Nat.le_refl _, Nat.le_refl _⟩ (rI fun r20 g21 q22 => ?_)
        obtain ⟨eg21, p23⟩ := q22
        subst g21
        refine m_ior C dX8_readFrame_66 ?_
        refine m_name (fun x24 ex24 => ?_)
        refine m_istore_n C [(2, .int x24), (0, .ref (aL X 0)), (1, .int i0)] dX8_readFrame_67 (by decide) rfl ?_
        refine m_iload_n C dX8_readFrame_68 0 rfl ?_
        refine m_iload_n C dX8_readFrame_69 2 rfl ?_
        refine m_icmp_ne C 92 dX8_readFrame_70 (by decide) (fun h25 => ?_) (fun h25 => ?_)
        · skip
          have th25 := i_ne h25
          refine m_iconst C (0 : Int32) dX8_readFrame_92 (by decide) ?_
          exact m_zret C dX8_readFrame_93 (by decide) ⟨_, rfl, hI11, hK13, (by first | exact Or.inl rfl | exact Or.inr rfl)⟩
        · skip
          have th25 := i_eq h25
          refine m_aload_n C dX8_readFrame_73 1 rfl ?_
          refine m_getr (rf := "") C 7 rfl gd8 (by decide) sh_0 rfl dX8_readFrame_74 lk_X8_71 ?_
          refine m_aload_n C dX8_readFrame_77 1 rfl ?_
          refine m_getr (rf := "") C 3 rfl gd8 (by decide) sh_0 rfl dX8_readFrame_78 lk_X8_37 ?_
          refine m_iload_n C dX8_readFrame_81 2 rfl ?_
          refine m_invVN C cal_X0_holdsFrame sh_30 rfl (c_X0_holdsFrame l hX g9 i0 hI11 (by omega)) lk_X8_225 im_X0_holdsFrame se_X0_holdsFrame (by decide) rfl rfl (Nat.le_of_ble_eq_true rfl) dX8_readFrame_82 ⟨Nat.le_refl _, Nat.le_refl _⟩ (rI fun r26 g27 q28 => ?_)
          obtain ⟨hI29, hK30, p31⟩ := q28
          have hK32 : Kp [9, 10, 11, 12, 17, 19] g g27 := (hK13).tr hK30 (by decide)
          refine m_if_eq C 92 dX8_readFrame_85 (by decide) (fun h33 => ?_) (fun h33 => ?_)
          · skip
            have th33 := i_eq h33
            rw [show (0 : Int32).toInt = 0 by decide] at th33
            refine m_iconst C (0 : Int32) dX8_readFrame_92 (by decide) ?_
            exact m_zret C dX8_readFrame_93 (by decide) ⟨_, rfl, hI29, hK32, (by first | exact Or.inl rfl | exact Or.inr rfl)⟩
          · skip
            have th33 := i_ne h33
            rw [show (0 : Int32).toInt = 0 by decide] at th33
            refine m_iconst C (1 : Int32) dX8_readFrame_88 (by decide) ?_
            refine m_goto C 93 dX8_readFrame_89 (by decide) ?_
            exact m_zret C dX8_readFrame_93 (by decide) ⟨_, rfl, hI29, hK32, (by first | exact Or.inl rfl | exact Or.inr rfl)⟩
      · skip
        have th7 := i_nle h7
        rw [show (12 : Int32).toInt = 12 by decide] at th7
        refine m_aload_n C dX8_readFrame_8 0 rfl ?_
        refine m_getr (rf := "") C 3 rfl gd8 (by decide) sh_0 rfl dX8_readFrame_9 lk_X8_37 ?_
        refine m_iload_n C dX8_readFrame_12 2 rfl ?_
        refine m_aload_n C dX8_readFrame_13 0 rfl ?_
        refine m_getr (rf := "") C 7 rfl gd8 (by decide) sh_0 rfl dX8_readFrame_14 lk_X8_71 ?_
        refine m_getrN (rf := "") C 0 rfl gd0 (by decide) sh_30 rfl dX8_readFrame_17 lk_X8_221 ?_
        refine m_iload_n C dX8_readFrame_20 1 rfl ?_
        refine m_bipush C (17 : Int32) dX8_readFrame_21 (by decide) ?_
        refine m_imul C dX8_readFrame_23 ?_
        refine m_iconst C (1 : Int32) dX8_readFrame_24 (by decide) ?_
        refine m_iadd C dX8_readFrame_25 ?_
        refine m_iload_n C dX8_readFrame_26 2 rfl ?_
        refine m_iadd C dX8_readFrame_27 ?_
        have t34 : (i0 * (17 : Int32)).toInt = i0.toInt * (17 : Int) := i_mul rfl (by decide) (by omega) (by omega)
        have t35 : ((i0 * (17 : Int32)) + (1 : Int32)).toInt = (i0.toInt * (17 : Int)) + (1 : Int) := i_add t34 (by decide) (by omega) (by omega)
        have t36 : (((i0 * (17 : Int32)) + (1 : Int32)) + x2).toInt = ((i0.toInt * (17 : Int)) + (1 : Int)) + x2.toInt := i_add t35 rfl (by omega) (by omega)
        refine m_iald C sh_31 (i_in (by omega) (by omega)) dX8_readFrame_28 ?_
        refine m_invVN C cal_X4_draftByte sh_16 rfl (c_X4_draftByte l hX g3 x2 (g3 31 (((i0 * (17 : Int32)) + (1 : Int32)) + x2).toNatClampNeg) hI4 (by omega)) lk_X8_276 im_X4_draftByte se_X4_draftByte (by decide) rfl rfl (Nat.le_of_ble_eq_true rfl) dX8_readFrame_29 ⟨Nat.le_refl _, Nat.le_refl _⟩ (rV fun g38 q39 => ?_)
        obtain ⟨hI40, hK41⟩ := q39
        have hK42 : Kp [9, 10, 11, 12, 17, 19] g g38 := (hK5).tr hK41 (by decide)
        obtain ⟨x43, ex43⟩ : ∃ z : Int32, z = x2 + Int32.ofInt 1 := ⟨_, rfl⟩
        have t44 : (x2 + (Int32.ofInt 1)).toInt = x2.toInt + (1 : Int) := i_add rfl (by decide) (by omega) (by omega)
        have t45 : x43.toInt = (x2.toInt + (1 : Int)) := (congrArg Int32.toInt ex43).trans t44
        refine m_iinc C x43 [(2, .int x43), (0, .ref (aL X 0)), (1, .int i0)] dX8_readFrame_32 (q := 2) rfl ex43.symm (by decide) rfl ?_
        refine m_goto C 2 dX8_readFrame_35 (by decide) ?_
        refine m_lv [1, 2, 0] rfl ?_
        exact ih2 x43 g38 (by omega) hI40 hK42 (by omega)
  have t46 : (0 : Int32).toInt = 0 := by decide
  refine m_lv [1, 2, 0] rfl ?_
  exact L2 (((13 - (0 : Int32).toInt).toNat) + 1) (0 : Int32) g (Nat.lt_succ_self _) hI Kp.rf (by omega)
set_option maxRecDepth 20000 in
set_option maxHeartbeats 4000000 in
theorem c_X8_setGiven (l : Launch) {X : XT} (hX : Lok X) (g : Mem) (pt : Int32) (o : Int32) (q : Int32) (z : Int32) (hI : Inv g) (hz : R01 z) : Ctr l X yX8_setGiven cX8_setGiven 7 (some .int) (rmD 7) [.ref (aL X 0), .int pt, .int o, .int q, .int z] g (pI (fun r g2 => Inv g2 ∧ Kp [8, 9, 10, 11, 12, 15, 16, 17, 19, 30, 31] g g2)) := by
  refine Ctr.of (lv := [(0, .ref (aL X 0)), (1, .int pt), (2, .int o), (3, .int q), (4, .int z)]) hX (by decide) rfl (Nat.le_of_ble_eq_true rfl) ?_
  intro p e s m below meth c C
  refine m_iload_n C dX8_setGiven_0 1 rfl ?_
  refine m_invS C cal_X8_isParty (c_X8_isParty l hX g pt ) lk_X8_142 st_X8_isParty (by decide) rfl rfl (Nat.le_of_ble_eq_true rfl) dX8_setGiven_1 ⟨Nat.le_refl _, Nat.le_refl _⟩ (rI fun r1 g2 q3 => ?_)
  obtain ⟨eg2, ⟨rfl, h4⟩ | ⟨rfl, h4⟩⟩ := q3
  · skip
    subst g2
    refine m_if_eq C 21 dX8_setGiven_4 (by decide) (fun h => absurd h (by decide)) (fun _ => ?_)
    refine m_iload_n C dX8_setGiven_7 2 rfl ?_
    refine m_invS C cal_X8_isObject (c_X8_isObject l hX g o ) lk_X8_96 st_X8_isObject (by decide) rfl rfl (Nat.le_of_ble_eq_true rfl) dX8_setGiven_8 ⟨Nat.le_refl _, Nat.le_refl _⟩ (rI fun r5 g6 q7 => ?_)
    obtain ⟨eg6, ⟨rfl, h8⟩ | ⟨rfl, h8⟩⟩ := q7
    · skip
      subst g6
      refine m_if_eq C 21 dX8_setGiven_11 (by decide) (fun h => absurd h (by decide)) (fun _ => ?_)
      refine m_iload_n C dX8_setGiven_14 3 rfl ?_
      refine m_invS C cal_X8_isRight (c_X8_isRight l hX g q ) lk_X8_99 st_X8_isRight (by decide) rfl rfl (Nat.le_of_ble_eq_true rfl) dX8_setGiven_15 ⟨Nat.le_refl _, Nat.le_refl _⟩ (rI fun r9 g10 q11 => ?_)
      obtain ⟨eg10, ⟨rfl, h12⟩ | ⟨rfl, h12⟩⟩ := q11
      · skip
        subst g10
        refine m_if_ne C 24 dX8_setGiven_18 (by decide) (fun _ => ?_) (fun h => absurd h (by decide))
        refine m_aload_n C dX8_setGiven_24 0 rfl ?_
        refine m_invV C cal_X8_refusal sh_0 rfl (c_X8_refusal l hX g  hI) lk_X8_102 im_X8_refusal se_X8_refusal (by decide) rfl rfl (Nat.le_of_ble_eq_true rfl) dX8_setGiven_25 ⟨Nat.le_refl _, Nat.le_refl _⟩ (rI fun r13 g14 q15 => ?_)
        obtain ⟨eg14, p16⟩ := q15
        subst g14
        refine m_istore C [(5, .int r13), (0, .ref (aL X 0)), (1, .int pt), (2, .int o), (3, .int q), (4, .int z)] dX8_setGiven_28 (by decide) rfl ?_
        refine m_iload C dX8_setGiven_30 0 rfl ?_
        refine m_if_eq C 38 dX8_setGiven_32 (by decide) (fun h18 => ?_) (fun h18 => ?_)
        · skip
          have th18 := i_eq h18
          rw [show (0 : Int32).toInt = 0 by decide] at th18
          refine m_aload_n C dX8_setGiven_38 1 rfl ?_
          refine m_getr (rf := "") C 0 rfl gd8 (by decide) sh_0 rfl dX8_setGiven_39 lk_X8_12 ?_
          refine m_iload_n C dX8_setGiven_42 2 rfl ?_
          refine m_iload_n C dX8_setGiven_43 3 rfl ?_
          refine m_iload_n C dX8_setGiven_44 4 rfl ?_
          refine m_invVN C cal_X5_hasBeenGiven sh_1 rfl (c_X5_hasBeenGiven l hX g pt o q hI (by omega) (by omega) (by omega)) lk_X8_145 im_X5_hasBeenGiven se_X5_hasBeenGiven (by decide) rfl rfl (Nat.le_of_ble_eq_true rfl) dX8_setGiven_45 ⟨Nat.le_refl _, Nat.le_refl _⟩ (rI fun r19 g20 q21 => ?_)
          obtain ⟨eg20, p22⟩ := q21
          subst g20
          refine m_istore C [(6, .int r19), (5, .int r13), (0, .ref (aL X 0)), (1, .int pt), (2, .int o), (3, .int q), (4, .int z)] dX8_setGiven_48 (by decide) rfl ?_
          refine m_aload_n C dX8_setGiven_50 2 rfl ?_
          refine m_getr (rf := "") C 0 rfl gd8 (by decide) sh_0 rfl dX8_setGiven_51 lk_X8_12 ?_
          refine m_iload_n C dX8_setGiven_54 3 rfl ?_
          refine m_iload_n C dX8_setGiven_55 4 rfl ?_
          refine m_iload_n C dX8_setGiven_56 5 rfl ?_
          refine m_iload C dX8_setGiven_57 6 rfl ?_
          refine m_invVN C cal_X5_setRight sh_1 rfl (c_X5_setRight l hX g pt o q z hI (by omega) (by omega) (by omega) (by first | assumption | exact Or.inl rfl | exact Or.inr rfl)) lk_X8_259 im_X5_setRight se_X5_setRight (by decide) rfl rfl (Nat.le_of_ble_eq_true rfl) dX8_setGiven_59 ⟨Nat.le_refl _, Nat.le_refl _⟩ (rV fun g25 q26 => ?_)
          obtain ⟨hI27, hK28⟩ := q26
          have hK29 : Kp [8, 9, 10, 11, 12, 15, 16, 17, 19, 30, 31] g g25 := (Kp.rf).tr hK28 (by decide)
          refine m_aload_n C dX8_setGiven_62 2 rfl ?_
          refine m_iload C dX8_setGiven_63 6 rfl ?_
          refine m_if_eq C 72 dX8_setGiven_65 (by decide) (fun h30 => ?_) (fun h30 => ?_)
          · skip
            have th30 := i_eq h30
            rw [show (0 : Int32).toInt = 0 by decide] at th30
            refine m_iconst C (2 : Int32) dX8_setGiven_72 (by decide) ?_
            refine m_iload_n C dX8_setGiven_73 3 rfl ?_
            refine m_iload_n C dX8_setGiven_74 4 rfl ?_
            refine m_iload_n C dX8_setGiven_75 5 rfl ?_
            refine m_iconst C (0 : Int32) dX8_setGiven_76 (by decide) ?_
            have t31 : (2 : Int32).toInt = 2 := by decide
            have t32 : (0 : Int32).toInt = 0 := by decide
            refine m_invV C cal_X8_writeEntry sh_0 rfl (c_X8_writeEntry l hX g25 (2 : Int32) pt o q (0 : Int32) hI27) lk_X8_114 im_X8_writeEntry se_X8_writeEntry (by decide) rfl rfl (Nat.le_of_ble_eq_true rfl) dX8_setGiven_77 ⟨Nat.le_refl _, Nat.le_refl _⟩ (rV fun g34 q35 => ?_)
            obtain ⟨hI36, hK37⟩ := q35
            have hK38 : Kp [8, 9, 10, 11, 12, 15, 16, 17, 19, 30, 31] g g34 := (hK29).tr hK37 (by decide)
            refine m_iload C dX8_setGiven_80 0 rfl ?_
            refine m_iload C dX8_setGiven_82 6 rfl ?_
            refine m_icmp_eq C 91 dX8_setGiven_84 (by decide) (fun h39 => ?_) (fun h39 => ?_)
            · skip
              have th39 := i_eq h39
              refine m_iconst C (0 : Int32) dX8_setGiven_91 (by decide) ?_
              exact m_iret C dX8_setGiven_92 ⟨_, rfl, hI36, hK38⟩
            · skip
              have th39 := i_ne h39
              refine m_iconst C (1 : Int32) dX8_setGiven_87 (by decide) ?_
              refine m_goto C 92 dX8_setGiven_88 (by decide) ?_
              exact m_iret C dX8_setGiven_92 ⟨_, rfl, hI36, hK38⟩
          · skip
            have th30 := i_ne h30
            rw [show (0 : Int32).toInt = 0 by decide] at th30
            refine m_iconst C (1 : Int32) dX8_setGiven_68 (by decide) ?_
            refine m_goto C 73 dX8_setGiven_69 (by decide) ?_
            refine m_iload_n C dX8_setGiven_73 3 rfl ?_
            refine m_iload_n C dX8_setGiven_74 4 rfl ?_
            refine m_iload_n C dX8_setGiven_75 5 rfl ?_
            refine m_iconst C (0 : Int32) dX8_setGiven_76 (by decide) ?_
            have t40 : (1 : Int32).toInt = 1 := by decide
            have t41 : (0 : Int32).toInt = 0 := by decide
            refine m_invV C cal_X8_writeEntry sh_0 rfl (c_X8_writeEntry l hX g25 (1 : Int32) pt o q (0 : Int32) hI27) lk_X8_114 im_X8_writeEntry se_X8_writeEntry (by decide) rfl rfl (Nat.le_of_ble_eq_true rfl) dX8_setGiven_77 ⟨Nat.le_refl _, Nat.le_refl _⟩ (rV fun g43 q44 => ?_)
            obtain ⟨hI45, hK46⟩ := q44
            have hK47 : Kp [8, 9, 10, 11, 12, 15, 16, 17, 19, 30, 31] g g43 := (hK29).tr hK46 (by decide)
            refine m_iload C dX8_setGiven_80 0 rfl ?_
            refine m_iload C dX8_setGiven_82 6 rfl ?_
            refine m_icmp_eq C 91 dX8_setGiven_84 (by decide) (fun h48 => ?_) (fun h48 => ?_)
            · skip
              have th48 := i_eq h48
              refine m_iconst C (0 : Int32) dX8_setGiven_91 (by decide) ?_
              exact m_iret C dX8_setGiven_92 ⟨_, rfl, hI45, hK47⟩
            · skip
              have th48 := i_ne h48
              refine m_iconst C (1 : Int32) dX8_setGiven_87 (by decide) ?_
              refine m_goto C 92 dX8_setGiven_88 (by decide) ?_
              exact m_iret C dX8_setGiven_92 ⟨_, rfl, hI45, hK47⟩
        · skip
          have th18 := i_ne h18
          rw [show (0 : Int32).toInt = 0 by decide] at th18
          refine m_iload C dX8_setGiven_35 0 rfl ?_
          exact m_iret C dX8_setGiven_37 ⟨_, rfl, hI, Kp.rf⟩
      · skip
        subst g10
        refine m_if_ne C 24 dX8_setGiven_18 (by decide) (fun h => absurd (by decide) h) (fun _ => ?_)
        refine m_bipush C (-2 : Int32) dX8_setGiven_21 (by decide) ?_
        exact m_iret C dX8_setGiven_23 ⟨_, rfl, hI, Kp.rf⟩
    · skip
      subst g6
      refine m_if_eq C 21 dX8_setGiven_11 (by decide) (fun _ => ?_) (fun h => absurd (by decide) h)
      refine m_bipush C (-2 : Int32) dX8_setGiven_21 (by decide) ?_
      exact m_iret C dX8_setGiven_23 ⟨_, rfl, hI, Kp.rf⟩
  · skip
    subst g2
    refine m_if_eq C 21 dX8_setGiven_4 (by decide) (fun _ => ?_) (fun h => absurd (by decide) h)
    refine m_bipush C (-2 : Int32) dX8_setGiven_21 (by decide) ?_
    exact m_iret C dX8_setGiven_23 ⟨_, rfl, hI, Kp.rf⟩
set_option maxRecDepth 20000 in
set_option maxHeartbeats 4000000 in
theorem c_X8_request (l : Launch) {X : XT} (hX : Lok X) (g : Mem) (a : Int32) (o : Int32) (q : Int32) (hI : Inv g) : Ctr l X yX8_request cX8_request 6 (some .int) (rmD 7) [.ref (aL X 0), .int a, .int o, .int q] g (pI (fun r g2 => Inv g2 ∧ Kp [1, 4, 5, 9, 10, 11, 12, 15, 16, 17, 19, 30, 31] g g2)) := by
  refine Ctr.of (lv := [(0, .ref (aL X 0)), (1, .int a), (2, .int o), (3, .int q)]) hX (by decide) rfl (Nat.le_of_ble_eq_true rfl) ?_
  intro p e s m below meth c C
  refine m_iload_n C dX8_request_0 1 rfl ?_
  refine m_invS C cal_X8_isSubject (c_X8_isSubject l hX g a ) lk_X8_92 st_X8_isSubject (by decide) rfl rfl (Nat.le_of_ble_eq_true rfl) dX8_request_1 ⟨Nat.le_refl _, Nat.le_refl _⟩ (rI fun r1 g2 q3 => ?_)
  obtain ⟨eg2, ⟨rfl, h4⟩ | ⟨rfl, h4⟩⟩ := q3
  · skip
    subst g2
    refine m_if_eq C 21 dX8_request_4 (by decide) (fun h => absurd h (by decide)) (fun _ => ?_)
    refine m_iload_n C dX8_request_7 2 rfl ?_
    refine m_invS C cal_X8_isObject (c_X8_isObject l hX g o ) lk_X8_96 st_X8_isObject (by decide) rfl rfl (Nat.le_of_ble_eq_true rfl) dX8_request_8 ⟨Nat.le_refl _, Nat.le_refl _⟩ (rI fun r5 g6 q7 => ?_)
    obtain ⟨eg6, ⟨rfl, h8⟩ | ⟨rfl, h8⟩⟩ := q7
    · skip
      subst g6
      refine m_if_eq C 21 dX8_request_11 (by decide) (fun h => absurd h (by decide)) (fun _ => ?_)
      refine m_iload_n C dX8_request_14 3 rfl ?_
      refine m_invS C cal_X8_isRight (c_X8_isRight l hX g q ) lk_X8_99 st_X8_isRight (by decide) rfl rfl (Nat.le_of_ble_eq_true rfl) dX8_request_15 ⟨Nat.le_refl _, Nat.le_refl _⟩ (rI fun r9 g10 q11 => ?_)
      obtain ⟨eg10, ⟨rfl, h12⟩ | ⟨rfl, h12⟩⟩ := q11
      · skip
        subst g10
        refine m_if_ne C 24 dX8_request_18 (by decide) (fun _ => ?_) (fun h => absurd h (by decide))
        refine m_aload_n C dX8_request_24 0 rfl ?_
        refine m_invV C cal_X8_refusal sh_0 rfl (c_X8_refusal l hX g  hI) lk_X8_102 im_X8_refusal se_X8_refusal (by decide) rfl rfl (Nat.le_of_ble_eq_true rfl) dX8_request_25 ⟨Nat.le_refl _, Nat.le_refl _⟩ (rI fun r13 g14 q15 => ?_)
        obtain ⟨eg14, p16⟩ := q15
        subst g14
        refine m_istore C [(4, .int r13), (0, .ref (aL X 0)), (1, .int a), (2, .int o), (3, .int q)] dX8_request_28 (by decide) rfl ?_
        refine m_iload C dX8_request_30 0 rfl ?_
        refine m_if_eq C 38 dX8_request_32 (by decide) (fun h18 => ?_) (fun h18 => ?_)
        · skip
          have th18 := i_eq h18
          rw [show (0 : Int32).toInt = 0 by decide] at th18
          refine m_aload_n C dX8_request_38 1 rfl ?_
          refine m_getr (rf := "") C 0 rfl gd8 (by decide) sh_0 rfl dX8_request_39 lk_X8_12 ?_
          refine m_iload_n C dX8_request_42 2 rfl ?_
          refine m_iload_n C dX8_request_43 3 rfl ?_
          refine m_iload_n C dX8_request_44 4 rfl ?_
          refine m_invVN C cal_X5_causeOf sh_1 rfl (c_X5_causeOf l hX g a o q hI (by omega) (by omega) (by omega)) lk_X8_106 im_X5_causeOf se_X5_causeOf (by decide) rfl rfl (Nat.le_of_ble_eq_true rfl) dX8_request_45 ⟨Nat.le_refl _, Nat.le_refl _⟩ (rI fun r19 g20 q21 => ?_)
          obtain ⟨eg20, p22⟩ := q21
          subst g20
          refine m_istore C [(5, .int r19), (4, .int r13), (0, .ref (aL X 0)), (1, .int a), (2, .int o), (3, .int q)] dX8_request_48 (by decide) rfl ?_
          refine m_aload_n C dX8_request_50 2 rfl ?_
          refine m_getr (rf := "") C 0 rfl gd8 (by decide) sh_0 rfl dX8_request_51 lk_X8_12 ?_
          refine m_iload_n C dX8_request_54 3 rfl ?_
          refine m_iload C dX8_request_55 0 rfl ?_
          refine m_if_ne C 64 dX8_request_57 (by decide) (fun h24 => ?_) (fun h24 => ?_)
          · skip
            have th24 := i_ne h24
            rw [show (0 : Int32).toInt = 0 by decide] at th24
            refine m_iconst C (0 : Int32) dX8_request_64 (by decide) ?_
            have t25 : (0 : Int32).toInt = 0 := by decide
            refine m_invVN C cal_X5_tally sh_1 rfl (c_X5_tally l hX g a (0 : Int32) hI (by omega)) lk_X8_110 im_X5_tally se_X5_tally (by decide) rfl rfl (Nat.le_of_ble_eq_true rfl) dX8_request_65 ⟨Nat.le_refl _, Nat.le_refl _⟩ (rV fun g27 q28 => ?_)
            obtain ⟨hI29, hK30⟩ := q28
            have hK31 : Kp [1, 4, 5, 9, 10, 11, 12, 15, 16, 17, 19, 30, 31] g g27 := (Kp.rf).tr hK30 (by decide)
            refine m_aload_n C dX8_request_68 2 rfl ?_
            refine m_iconst C (0 : Int32) dX8_request_69 (by decide) ?_
            refine m_iload_n C dX8_request_70 3 rfl ?_
            refine m_iload_n C dX8_request_71 4 rfl ?_
            refine m_iload_n C dX8_request_72 5 rfl ?_
            refine m_iload C dX8_request_73 0 rfl ?_
            have t32 : (0 : Int32).toInt = 0 := by decide
            refine m_invV C cal_X8_writeEntry sh_0 rfl (c_X8_writeEntry l hX g27 (0 : Int32) a o q r19 hI29) lk_X8_114 im_X8_writeEntry se_X8_writeEntry (by decide) rfl rfl (Nat.le_of_ble_eq_true rfl) dX8_request_75 ⟨Nat.le_refl _, Nat.le_refl _⟩ (rV fun g34 q35 => ?_)
            obtain ⟨hI36, hK37⟩ := q35
            have hK38 : Kp [1, 4, 5, 9, 10, 11, 12, 15, 16, 17, 19, 30, 31] g g34 := (hK31).tr hK37 (by decide)
            refine m_iload C dX8_request_78 0 rfl ?_
            exact m_iret C dX8_request_80 ⟨_, rfl, hI36, hK38⟩
          · skip
            have th24 := i_eq h24
            rw [show (0 : Int32).toInt = 0 by decide] at th24
            refine m_iconst C (1 : Int32) dX8_request_60 (by decide) ?_
            refine m_goto C 65 dX8_request_61 (by decide) ?_
            have t39 : (1 : Int32).toInt = 1 := by decide
            refine m_invVN C cal_X5_tally sh_1 rfl (c_X5_tally l hX g a (1 : Int32) hI (by omega)) lk_X8_110 im_X5_tally se_X5_tally (by decide) rfl rfl (Nat.le_of_ble_eq_true rfl) dX8_request_65 ⟨Nat.le_refl _, Nat.le_refl _⟩ (rV fun g41 q42 => ?_)
            obtain ⟨hI43, hK44⟩ := q42
            have hK45 : Kp [1, 4, 5, 9, 10, 11, 12, 15, 16, 17, 19, 30, 31] g g41 := (Kp.rf).tr hK44 (by decide)
            refine m_aload_n C dX8_request_68 2 rfl ?_
            refine m_iconst C (0 : Int32) dX8_request_69 (by decide) ?_
            refine m_iload_n C dX8_request_70 3 rfl ?_
            refine m_iload_n C dX8_request_71 4 rfl ?_
            refine m_iload_n C dX8_request_72 5 rfl ?_
            refine m_iload C dX8_request_73 0 rfl ?_
            have t46 : (0 : Int32).toInt = 0 := by decide
            refine m_invV C cal_X8_writeEntry sh_0 rfl (c_X8_writeEntry l hX g41 (0 : Int32) a o q r19 hI43) lk_X8_114 im_X8_writeEntry se_X8_writeEntry (by decide) rfl rfl (Nat.le_of_ble_eq_true rfl) dX8_request_75 ⟨Nat.le_refl _, Nat.le_refl _⟩ (rV fun g48 q49 => ?_)
            obtain ⟨hI50, hK51⟩ := q49
            have hK52 : Kp [1, 4, 5, 9, 10, 11, 12, 15, 16, 17, 19, 30, 31] g g48 := (hK45).tr hK51 (by decide)
            refine m_iload C dX8_request_78 0 rfl ?_
            exact m_iret C dX8_request_80 ⟨_, rfl, hI50, hK52⟩
        · skip
          have th18 := i_ne h18
          rw [show (0 : Int32).toInt = 0 by decide] at th18
          refine m_iload C dX8_request_35 0 rfl ?_
          exact m_iret C dX8_request_37 ⟨_, rfl, hI, Kp.rf⟩
      · skip
        subst g10
        refine m_if_ne C 24 dX8_request_18 (by decide) (fun h => absurd (by decide) h) (fun _ => ?_)
        refine m_bipush C (-2 : Int32) dX8_request_21 (by decide) ?_
        exact m_iret C dX8_request_23 ⟨_, rfl, hI, Kp.rf⟩
    · skip
      subst g6
      refine m_if_eq C 21 dX8_request_11 (by decide) (fun _ => ?_) (fun h => absurd (by decide) h)
      refine m_bipush C (-2 : Int32) dX8_request_21 (by decide) ?_
      exact m_iret C dX8_request_23 ⟨_, rfl, hI, Kp.rf⟩
  · skip
    subst g2
    refine m_if_eq C 21 dX8_request_4 (by decide) (fun _ => ?_) (fun h => absurd (by decide) h)
    refine m_bipush C (-2 : Int32) dX8_request_21 (by decide) ?_
    exact m_iret C dX8_request_23 ⟨_, rfl, hI, Kp.rf⟩
set_option maxRecDepth 20000 in
set_option maxHeartbeats 4000000 in
theorem c_X8_give (l : Launch) {X : XT} (hX : Lok X) (g : Mem) (pt : Int32) (o : Int32) (q : Int32) (hI : Inv g) : Ctr l X yX8_give cX8_give 4 (some .int) (rmD 8) [.ref (aL X 0), .int pt, .int o, .int q] g (pI (fun r g2 => Inv g2 ∧ Kp [8, 9, 10, 11, 12, 15, 16, 17, 19, 30, 31] g g2)) := by
  refine Ctr.of (lv := [(0, .ref (aL X 0)), (1, .int pt), (2, .int o), (3, .int q)]) hX (by decide) rfl (Nat.le_of_ble_eq_true rfl) ?_
  intro p e s m below meth c C
  refine m_aload_n C dX8_give_0 0 rfl ?_
  refine m_iload_n C dX8_give_1 1 rfl ?_
  refine m_iload_n C dX8_give_2 2 rfl ?_
  refine m_iload_n C dX8_give_3 3 rfl ?_
  refine m_iconst C (1 : Int32) dX8_give_4 (by decide) ?_
  have t1 : (1 : Int32).toInt = 1 := by decide
  refine m_invV C cal_X8_setGiven sh_0 rfl (c_X8_setGiven l hX g pt o q (1 : Int32) hI (by first | exact Or.inl rfl | exact Or.inr rfl)) lk_X8_118 im_X8_setGiven se_X8_setGiven (by decide) rfl rfl (Nat.le_of_ble_eq_true rfl) dX8_give_5 ⟨Nat.le_refl _, Nat.le_refl _⟩ (rI fun r2 g3 q4 => ?_)
  obtain ⟨hI5, hK6⟩ := q4
  have hK7 : Kp [8, 9, 10, 11, 12, 15, 16, 17, 19, 30, 31] g g3 := (Kp.rf).tr hK6 (by decide)
  exact m_iret C dX8_give_8 ⟨_, rfl, hI5, hK7⟩
set_option maxRecDepth 20000 in
set_option maxHeartbeats 4000000 in
theorem c_X8_take (l : Launch) {X : XT} (hX : Lok X) (g : Mem) (pt : Int32) (o : Int32) (q : Int32) (hI : Inv g) : Ctr l X yX8_take cX8_take 4 (some .int) (rmD 8) [.ref (aL X 0), .int pt, .int o, .int q] g (pI (fun r g2 => Inv g2 ∧ Kp [8, 9, 10, 11, 12, 15, 16, 17, 19, 30, 31] g g2)) := by
  refine Ctr.of (lv := [(0, .ref (aL X 0)), (1, .int pt), (2, .int o), (3, .int q)]) hX (by decide) rfl (Nat.le_of_ble_eq_true rfl) ?_
  intro p e s m below meth c C
  refine m_aload_n C dX8_take_0 0 rfl ?_
  refine m_iload_n C dX8_take_1 1 rfl ?_
  refine m_iload_n C dX8_take_2 2 rfl ?_
  refine m_iload_n C dX8_take_3 3 rfl ?_
  refine m_iconst C (0 : Int32) dX8_take_4 (by decide) ?_
  have t1 : (0 : Int32).toInt = 0 := by decide
  refine m_invV C cal_X8_setGiven sh_0 rfl (c_X8_setGiven l hX g pt o q (0 : Int32) hI (by first | exact Or.inl rfl | exact Or.inr rfl)) lk_X8_118 im_X8_setGiven se_X8_setGiven (by decide) rfl rfl (Nat.le_of_ble_eq_true rfl) dX8_take_5 ⟨Nat.le_refl _, Nat.le_refl _⟩ (rI fun r2 g3 q4 => ?_)
  obtain ⟨hI5, hK6⟩ := q4
  have hK7 : Kp [8, 9, 10, 11, 12, 15, 16, 17, 19, 30, 31] g g3 := (Kp.rf).tr hK6 (by decide)
  exact m_iret C dX8_take_8 ⟨_, rfl, hI5, hK7⟩
set_option maxRecDepth 20000 in
set_option maxHeartbeats 4000000 in
theorem c_X8_subject (l : Launch) {X : XT} (hX : Lok X) (g : Mem) (a : Int32) (v : Int32) (w : Int32) (hI : Inv g) : Ctr l X yX8_subject cX8_subject 5 (some .int) (rmD 7) [.ref (aL X 0), .int a, .int v, .int w] g (pI (fun r g2 => Inv g2 ∧ Kp [2, 3, 9, 10, 11, 12, 15, 16, 17, 19, 30, 31] g g2)) := by
  refine Ctr.of (lv := [(0, .ref (aL X 0)), (1, .int a), (2, .int v), (3, .int w)]) hX (by decide) rfl (Nat.le_of_ble_eq_true rfl) ?_
  intro p e s m below meth c C
  refine m_iload_n C dX8_subject_0 1 rfl ?_
  refine m_invS C cal_X8_isSubject (c_X8_isSubject l hX g a ) lk_X8_92 st_X8_isSubject (by decide) rfl rfl (Nat.le_of_ble_eq_true rfl) dX8_subject_1 ⟨Nat.le_refl _, Nat.le_refl _⟩ (rI fun r1 g2 q3 => ?_)
  obtain ⟨eg2, ⟨rfl, h4⟩ | ⟨rfl, h4⟩⟩ := q3
  · skip
    subst g2
    refine m_if_eq C 23 dX8_subject_4 (by decide) (fun h => absurd h (by decide)) (fun _ => ?_)
    refine m_iload_n C dX8_subject_7 2 rfl ?_
    refine m_invS C cal_X8_isLevel (c_X8_isLevel l hX g v ) lk_X8_122 st_X8_isLevel (by decide) rfl rfl (Nat.le_of_ble_eq_true rfl) dX8_subject_8 ⟨Nat.le_refl _, Nat.le_refl _⟩ (rI fun r5 g6 q7 => ?_)
    obtain ⟨eg6, ⟨rfl, h8⟩ | ⟨rfl, h8⟩⟩ := q7
    · skip
      subst g6
      refine m_if_eq C 23 dX8_subject_11 (by decide) (fun h => absurd h (by decide)) (fun _ => ?_)
      refine m_iload_n C dX8_subject_14 3 rfl ?_
      refine m_iconst C (0 : Int32) dX8_subject_15 (by decide) ?_
      refine m_iconst C (3 : Int32) dX8_subject_16 (by decide) ?_
      have t9 : (0 : Int32).toInt = 0 := by decide
      have t10 : (3 : Int32).toInt = 3 := by decide
      refine m_invS C cal_X8_within (c_X8_within l hX g w (0 : Int32) (3 : Int32) ) lk_X8_87 st_X8_within (by decide) rfl rfl (Nat.le_of_ble_eq_true rfl) dX8_subject_17 ⟨Nat.le_refl _, Nat.le_refl _⟩ (rI fun r11 g12 q13 => ?_)
      obtain ⟨eg12, ⟨rfl, h14⟩ | ⟨rfl, h14⟩⟩ := q13
      · skip
        subst g12
        refine m_if_ne C 26 dX8_subject_20 (by decide) (fun _ => ?_) (fun h => absurd h (by decide))
        refine m_aload_n C dX8_subject_26 0 rfl ?_
        refine m_invV C cal_X8_refusal sh_0 rfl (c_X8_refusal l hX g  hI) lk_X8_102 im_X8_refusal se_X8_refusal (by decide) rfl rfl (Nat.le_of_ble_eq_true rfl) dX8_subject_27 ⟨Nat.le_refl _, Nat.le_refl _⟩ (rI fun r15 g16 q17 => ?_)
        obtain ⟨eg16, p18⟩ := q17
        subst g16
        refine m_istore C [(4, .int r15), (0, .ref (aL X 0)), (1, .int a), (2, .int v), (3, .int w)] dX8_subject_30 (by decide) rfl ?_
        refine m_iload C dX8_subject_32 0 rfl ?_
        refine m_if_eq C 40 dX8_subject_34 (by decide) (fun h20 => ?_) (fun h20 => ?_)
        · skip
          have th20 := i_eq h20
          rw [show (0 : Int32).toInt = 0 by decide] at th20
          refine m_aload_n C dX8_subject_40 1 rfl ?_
          refine m_getr (rf := "") C 0 rfl gd8 (by decide) sh_0 rfl dX8_subject_41 lk_X8_12 ?_
          refine m_iload_n C dX8_subject_44 2 rfl ?_
          refine m_iload_n C dX8_subject_45 3 rfl ?_
          refine m_iload_n C dX8_subject_46 4 rfl ?_
          refine m_invVN C cal_X5_placeSubject sh_1 rfl (c_X5_placeSubject l hX g a v w hI (by omega) (by omega)) lk_X8_125 im_X5_placeSubject se_X5_placeSubject (by decide) rfl rfl (Nat.le_of_ble_eq_true rfl) dX8_subject_47 ⟨Nat.le_refl _, Nat.le_refl _⟩ (rV fun g22 q23 => ?_)
          obtain ⟨hI24, hK25⟩ := q23
          have hK26 : Kp [2, 3, 9, 10, 11, 12, 15, 16, 17, 19, 30, 31] g g22 := (Kp.rf).tr hK25 (by decide)
          refine m_aload_n C dX8_subject_50 1 rfl ?_
          refine m_iconst C (3 : Int32) dX8_subject_51 (by decide) ?_
          refine m_iload_n C dX8_subject_52 2 rfl ?_
          refine m_iload_n C dX8_subject_53 3 rfl ?_
          refine m_iload_n C dX8_subject_54 4 rfl ?_
          refine m_iconst C (0 : Int32) dX8_subject_55 (by decide) ?_
          have t27 : (3 : Int32).toInt = 3 := by decide
          have t28 : (0 : Int32).toInt = 0 := by decide
          refine m_invV C cal_X8_writeEntry sh_0 rfl (c_X8_writeEntry l hX g22 (3 : Int32) a v w (0 : Int32) hI24) lk_X8_114 im_X8_writeEntry se_X8_writeEntry (by decide) rfl rfl (Nat.le_of_ble_eq_true rfl) dX8_subject_56 ⟨Nat.le_refl _, Nat.le_refl _⟩ (rV fun g30 q31 => ?_)
          obtain ⟨hI32, hK33⟩ := q31
          have hK34 : Kp [2, 3, 9, 10, 11, 12, 15, 16, 17, 19, 30, 31] g g30 := (hK26).tr hK33 (by decide)
          refine m_iconst C (1 : Int32) dX8_subject_59 (by decide) ?_
          exact m_iret C dX8_subject_60 ⟨_, rfl, hI32, hK34⟩
        · skip
          have th20 := i_ne h20
          rw [show (0 : Int32).toInt = 0 by decide] at th20
          refine m_iload C dX8_subject_37 0 rfl ?_
          exact m_iret C dX8_subject_39 ⟨_, rfl, hI, Kp.rf⟩
      · skip
        subst g12
        refine m_if_ne C 26 dX8_subject_20 (by decide) (fun h => absurd (by decide) h) (fun _ => ?_)
        refine m_bipush C (-2 : Int32) dX8_subject_23 (by decide) ?_
        exact m_iret C dX8_subject_25 ⟨_, rfl, hI, Kp.rf⟩
    · skip
      subst g6
      refine m_if_eq C 23 dX8_subject_11 (by decide) (fun _ => ?_) (fun h => absurd (by decide) h)
      refine m_bipush C (-2 : Int32) dX8_subject_23 (by decide) ?_
      exact m_iret C dX8_subject_25 ⟨_, rfl, hI, Kp.rf⟩
  · skip
    subst g2
    refine m_if_eq C 23 dX8_subject_4 (by decide) (fun _ => ?_) (fun h => absurd (by decide) h)
    refine m_bipush C (-2 : Int32) dX8_subject_23 (by decide) ?_
    exact m_iret C dX8_subject_25 ⟨_, rfl, hI, Kp.rf⟩
set_option maxRecDepth 20000 in
set_option maxHeartbeats 4000000 in
theorem c_X8_object (l : Launch) {X : XT} (hX : Lok X) (g : Mem) (o : Int32) (v : Int32) (w : Int32) (hI : Inv g) : Ctr l X yX8_object cX8_object 5 (some .int) (rmD 7) [.ref (aL X 0), .int o, .int v, .int w] g (pI (fun r g2 => Inv g2 ∧ Kp [6, 7, 9, 10, 11, 12, 15, 16, 17, 19, 30, 31] g g2)) := by
  refine Ctr.of (lv := [(0, .ref (aL X 0)), (1, .int o), (2, .int v), (3, .int w)]) hX (by decide) rfl (Nat.le_of_ble_eq_true rfl) ?_
  intro p e s m below meth c C
  refine m_iload_n C dX8_object_0 1 rfl ?_
  refine m_invS C cal_X8_isObject (c_X8_isObject l hX g o ) lk_X8_96 st_X8_isObject (by decide) rfl rfl (Nat.le_of_ble_eq_true rfl) dX8_object_1 ⟨Nat.le_refl _, Nat.le_refl _⟩ (rI fun r1 g2 q3 => ?_)
  obtain ⟨eg2, ⟨rfl, h4⟩ | ⟨rfl, h4⟩⟩ := q3
  · skip
    subst g2
    refine m_if_eq C 21 dX8_object_4 (by decide) (fun h => absurd h (by decide)) (fun _ => ?_)
    refine m_iload_n C dX8_object_7 2 rfl ?_
    refine m_invS C cal_X8_isLevel (c_X8_isLevel l hX g v ) lk_X8_122 st_X8_isLevel (by decide) rfl rfl (Nat.le_of_ble_eq_true rfl) dX8_object_8 ⟨Nat.le_refl _, Nat.le_refl _⟩ (rI fun r5 g6 q7 => ?_)
    obtain ⟨eg6, ⟨rfl, h8⟩ | ⟨rfl, h8⟩⟩ := q7
    · skip
      subst g6
      refine m_if_eq C 21 dX8_object_11 (by decide) (fun h => absurd h (by decide)) (fun _ => ?_)
      refine m_iload_n C dX8_object_14 3 rfl ?_
      refine m_invS C cal_X8_isSubject (c_X8_isSubject l hX g w ) lk_X8_92 st_X8_isSubject (by decide) rfl rfl (Nat.le_of_ble_eq_true rfl) dX8_object_15 ⟨Nat.le_refl _, Nat.le_refl _⟩ (rI fun r9 g10 q11 => ?_)
      obtain ⟨eg10, ⟨rfl, h12⟩ | ⟨rfl, h12⟩⟩ := q11
      · skip
        subst g10
        refine m_if_ne C 24 dX8_object_18 (by decide) (fun _ => ?_) (fun h => absurd h (by decide))
        refine m_aload_n C dX8_object_24 0 rfl ?_
        refine m_invV C cal_X8_refusal sh_0 rfl (c_X8_refusal l hX g  hI) lk_X8_102 im_X8_refusal se_X8_refusal (by decide) rfl rfl (Nat.le_of_ble_eq_true rfl) dX8_object_25 ⟨Nat.le_refl _, Nat.le_refl _⟩ (rI fun r13 g14 q15 => ?_)
        obtain ⟨eg14, p16⟩ := q15
        subst g14
        refine m_istore C [(4, .int r13), (0, .ref (aL X 0)), (1, .int o), (2, .int v), (3, .int w)] dX8_object_28 (by decide) rfl ?_
        refine m_iload C dX8_object_30 0 rfl ?_
        refine m_if_eq C 38 dX8_object_32 (by decide) (fun h18 => ?_) (fun h18 => ?_)
        · skip
          have th18 := i_eq h18
          rw [show (0 : Int32).toInt = 0 by decide] at th18
          refine m_aload_n C dX8_object_38 1 rfl ?_
          refine m_getr (rf := "") C 0 rfl gd8 (by decide) sh_0 rfl dX8_object_39 lk_X8_12 ?_
          refine m_iload_n C dX8_object_42 2 rfl ?_
          refine m_iload_n C dX8_object_43 3 rfl ?_
          refine m_iload_n C dX8_object_44 4 rfl ?_
          refine m_invVN C cal_X5_placeObject sh_1 rfl (c_X5_placeObject l hX g o v w hI (by omega)) lk_X8_129 im_X5_placeObject se_X5_placeObject (by decide) rfl rfl (Nat.le_of_ble_eq_true rfl) dX8_object_45 ⟨Nat.le_refl _, Nat.le_refl _⟩ (rV fun g20 q21 => ?_)
          obtain ⟨hI22, hK23⟩ := q21
          have hK24 : Kp [6, 7, 9, 10, 11, 12, 15, 16, 17, 19, 30, 31] g g20 := (Kp.rf).tr hK23 (by decide)
          refine m_aload_n C dX8_object_48 1 rfl ?_
          refine m_iconst C (4 : Int32) dX8_object_49 (by decide) ?_
          refine m_iload_n C dX8_object_50 2 rfl ?_
          refine m_iload_n C dX8_object_51 3 rfl ?_
          refine m_iload_n C dX8_object_52 4 rfl ?_
          refine m_iconst C (0 : Int32) dX8_object_53 (by decide) ?_
          have t25 : (4 : Int32).toInt = 4 := by decide
          have t26 : (0 : Int32).toInt = 0 := by decide
          refine m_invV C cal_X8_writeEntry sh_0 rfl (c_X8_writeEntry l hX g20 (4 : Int32) o v w (0 : Int32) hI22) lk_X8_114 im_X8_writeEntry se_X8_writeEntry (by decide) rfl rfl (Nat.le_of_ble_eq_true rfl) dX8_object_54 ⟨Nat.le_refl _, Nat.le_refl _⟩ (rV fun g28 q29 => ?_)
          obtain ⟨hI30, hK31⟩ := q29
          have hK32 : Kp [6, 7, 9, 10, 11, 12, 15, 16, 17, 19, 30, 31] g g28 := (hK24).tr hK31 (by decide)
          refine m_iconst C (1 : Int32) dX8_object_57 (by decide) ?_
          exact m_iret C dX8_object_58 ⟨_, rfl, hI30, hK32⟩
        · skip
          have th18 := i_ne h18
          rw [show (0 : Int32).toInt = 0 by decide] at th18
          refine m_iload C dX8_object_35 0 rfl ?_
          exact m_iret C dX8_object_37 ⟨_, rfl, hI, Kp.rf⟩
      · skip
        subst g10
        refine m_if_ne C 24 dX8_object_18 (by decide) (fun h => absurd (by decide) h) (fun _ => ?_)
        refine m_bipush C (-2 : Int32) dX8_object_21 (by decide) ?_
        exact m_iret C dX8_object_23 ⟨_, rfl, hI, Kp.rf⟩
    · skip
      subst g6
      refine m_if_eq C 21 dX8_object_11 (by decide) (fun _ => ?_) (fun h => absurd (by decide) h)
      refine m_bipush C (-2 : Int32) dX8_object_21 (by decide) ?_
      exact m_iret C dX8_object_23 ⟨_, rfl, hI, Kp.rf⟩
  · skip
    subst g2
    refine m_if_eq C 21 dX8_object_4 (by decide) (fun _ => ?_) (fun h => absurd (by decide) h)
    refine m_bipush C (-2 : Int32) dX8_object_21 (by decide) ?_
    exact m_iret C dX8_object_23 ⟨_, rfl, hI, Kp.rf⟩
set_option maxRecDepth 20000 in
set_option maxHeartbeats 4000000 in
theorem c_X8_unlock (l : Launch) {X : XT} (hX : Lok X) (g : Mem) (a : Int32) (hI : Inv g) : Ctr l X yX8_unlock cX8_unlock 4 (some .int) (rmD 7) [.ref (aL X 0), .int a] g (pI (fun r g2 => Inv g2 ∧ Kp [4, 5, 9, 10, 11, 12, 15, 16, 17, 19, 30, 31] g g2)) := by
  refine Ctr.of (lv := [(0, .ref (aL X 0)), (1, .int a)]) hX (by decide) rfl (Nat.le_of_ble_eq_true rfl) ?_
  intro p e s m below meth c C
  refine m_iload_n C dX8_unlock_0 1 rfl ?_
  refine m_invS C cal_X8_isSubject (c_X8_isSubject l hX g a ) lk_X8_92 st_X8_isSubject (by decide) rfl rfl (Nat.le_of_ble_eq_true rfl) dX8_unlock_1 ⟨Nat.le_refl _, Nat.le_refl _⟩ (rI fun r1 g2 q3 => ?_)
  obtain ⟨eg2, ⟨rfl, h4⟩ | ⟨rfl, h4⟩⟩ := q3
  · skip
    subst g2
    refine m_if_ne C 10 dX8_unlock_4 (by decide) (fun _ => ?_) (fun h => absurd h (by decide))
    refine m_aload_n C dX8_unlock_10 0 rfl ?_
    refine m_invV C cal_X8_refusal sh_0 rfl (c_X8_refusal l hX g  hI) lk_X8_102 im_X8_refusal se_X8_refusal (by decide) rfl rfl (Nat.le_of_ble_eq_true rfl) dX8_unlock_11 ⟨Nat.le_refl _, Nat.le_refl _⟩ (rI fun r5 g6 q7 => ?_)
    obtain ⟨eg6, p8⟩ := q7
    subst g6
    refine m_istore_n C [(2, .int r5), (0, .ref (aL X 0)), (1, .int a)] dX8_unlock_14 (by decide) rfl ?_
    refine m_iload_n C dX8_unlock_15 0 rfl ?_
    refine m_if_eq C 21 dX8_unlock_16 (by decide) (fun h10 => ?_) (fun h10 => ?_)
    · skip
      have th10 := i_eq h10
      rw [show (0 : Int32).toInt = 0 by decide] at th10
      refine m_aload_n C dX8_unlock_21 1 rfl ?_
      refine m_getr (rf := "") C 0 rfl gd8 (by decide) sh_0 rfl dX8_unlock_22 lk_X8_12 ?_
      refine m_iload_n C dX8_unlock_25 2 rfl ?_
      refine m_invVN C cal_X5_release sh_1 rfl (c_X5_release l hX g a hI (by omega)) lk_X8_132 im_X5_release se_X5_release (by decide) rfl rfl (Nat.le_of_ble_eq_true rfl) dX8_unlock_26 ⟨Nat.le_refl _, Nat.le_refl _⟩ (rI fun r11 g12 q13 => ?_)
      obtain ⟨hI14, hK15, p16⟩ := q13
      have hK17 : Kp [4, 5, 9, 10, 11, 12, 15, 16, 17, 19, 30, 31] g g12 := (Kp.rf).tr hK15 (by decide)
      refine m_istore_n C [(3, .int r11), (2, .int r5), (0, .ref (aL X 0)), (1, .int a)] dX8_unlock_29 (by decide) rfl ?_
      refine m_aload_n C dX8_unlock_30 2 rfl ?_
      refine m_iconst C (5 : Int32) dX8_unlock_31 (by decide) ?_
      refine m_iload_n C dX8_unlock_32 3 rfl ?_
      refine m_iconst C (0 : Int32) dX8_unlock_33 (by decide) ?_
      refine m_iconst C (0 : Int32) dX8_unlock_34 (by decide) ?_
      refine m_iconst C (0 : Int32) dX8_unlock_35 (by decide) ?_
      have t19 : (5 : Int32).toInt = 5 := by decide
      have t20 : (0 : Int32).toInt = 0 := by decide
      have t21 : (0 : Int32).toInt = 0 := by decide
      have t22 : (0 : Int32).toInt = 0 := by decide
      refine m_invV C cal_X8_writeEntry sh_0 rfl (c_X8_writeEntry l hX g12 (5 : Int32) a (0 : Int32) (0 : Int32) (0 : Int32) hI14) lk_X8_114 im_X8_writeEntry se_X8_writeEntry (by decide) rfl rfl (Nat.le_of_ble_eq_true rfl) dX8_unlock_36 ⟨Nat.le_refl _, Nat.le_refl _⟩ (rV fun g24 q25 => ?_)
      obtain ⟨hI26, hK27⟩ := q25
      have hK28 : Kp [4, 5, 9, 10, 11, 12, 15, 16, 17, 19, 30, 31] g g24 := (hK17).tr hK27 (by decide)
      refine m_iload_n C dX8_unlock_39 0 rfl ?_
      refine m_if_eq C 47 dX8_unlock_40 (by decide) (fun h29 => ?_) (fun h29 => ?_)
      · skip
        have th29 := i_eq h29
        rw [show (0 : Int32).toInt = 0 by decide] at th29
        refine m_iconst C (0 : Int32) dX8_unlock_47 (by decide) ?_
        exact m_iret C dX8_unlock_48 ⟨_, rfl, hI26, hK28⟩
      · skip
        have th29 := i_ne h29
        rw [show (0 : Int32).toInt = 0 by decide] at th29
        refine m_iconst C (1 : Int32) dX8_unlock_43 (by decide) ?_
        refine m_goto C 48 dX8_unlock_44 (by decide) ?_
        exact m_iret C dX8_unlock_48 ⟨_, rfl, hI26, hK28⟩
    · skip
      have th10 := i_ne h10
      rw [show (0 : Int32).toInt = 0 by decide] at th10
      refine m_iload_n C dX8_unlock_19 0 rfl ?_
      exact m_iret C dX8_unlock_20 ⟨_, rfl, hI, Kp.rf⟩
  · skip
    subst g2
    refine m_if_ne C 10 dX8_unlock_4 (by decide) (fun h => absurd (by decide) h) (fun _ => ?_)
    refine m_bipush C (-2 : Int32) dX8_unlock_7 (by decide) ?_
    exact m_iret C dX8_unlock_9 ⟨_, rfl, hI, Kp.rf⟩
set_option maxRecDepth 20000 in
set_option maxHeartbeats 4000000 in
theorem c_X8_subjectAt (l : Launch) {X : XT} (hX : Lok X) (g : Mem) (a : Int32) (w : Int32) (hI : Inv g) : Ctr l X yX8_subjectAt cX8_subjectAt 3 (some .int) (rmD 2) [.ref (aL X 0), .int a, .int w] g (pI (fun r g2 => g2 = g ∧ True)) := by
  refine Ctr.of (lv := [(0, .ref (aL X 0)), (1, .int a), (2, .int w)]) hX (by decide) rfl (Nat.le_of_ble_eq_true rfl) ?_
  intro p e s m below meth c C
  refine m_iload_n C dX8_subjectAt_0 1 rfl ?_
  refine m_invS C cal_X8_isSubject (c_X8_isSubject l hX g a ) lk_X8_92 st_X8_isSubject (by decide) rfl rfl (Nat.le_of_ble_eq_true rfl) dX8_subjectAt_1 ⟨Nat.le_refl _, Nat.le_refl _⟩ (rI fun r1 g2 q3 => ?_)
  obtain ⟨eg2, ⟨rfl, h4⟩ | ⟨rfl, h4⟩⟩ := q3
  · skip
    subst g2
    refine m_if_ne C 10 dX8_subjectAt_4 (by decide) (fun _ => ?_) (fun h => absurd h (by decide))
    refine m_aload_n C dX8_subjectAt_10 0 rfl ?_
    refine m_getr (rf := "") C 0 rfl gd8 (by decide) sh_0 rfl dX8_subjectAt_11 lk_X8_12 ?_
    refine m_iload_n C dX8_subjectAt_14 1 rfl ?_
    refine m_iload_n C dX8_subjectAt_15 2 rfl ?_
    refine m_invVN C cal_X5_ofSubject sh_1 rfl (c_X5_ofSubject l hX g a w hI (by omega)) lk_X8_135 im_X5_ofSubject se_X5_ofSubject (by decide) rfl rfl (Nat.le_of_ble_eq_true rfl) dX8_subjectAt_16 ⟨Nat.le_refl _, Nat.le_refl _⟩ (rI fun r5 g6 q7 => ?_)
    obtain ⟨eg6, p8⟩ := q7
    subst g6
    exact m_iret C dX8_subjectAt_19 ⟨_, rfl, rfl, trivial⟩
  · skip
    subst g2
    refine m_if_ne C 10 dX8_subjectAt_4 (by decide) (fun h => absurd (by decide) h) (fun _ => ?_)
    refine m_bipush C (-2 : Int32) dX8_subjectAt_7 (by decide) ?_
    exact m_iret C dX8_subjectAt_9 ⟨_, rfl, rfl, trivial⟩
set_option maxRecDepth 20000 in
set_option maxHeartbeats 4000000 in
theorem c_X8_objectAt (l : Launch) {X : XT} (hX : Lok X) (g : Mem) (o : Int32) (w : Int32) (hI : Inv g) : Ctr l X yX8_objectAt cX8_objectAt 3 (some .int) (rmD 2) [.ref (aL X 0), .int o, .int w] g (pI (fun r g2 => g2 = g ∧ True)) := by
  refine Ctr.of (lv := [(0, .ref (aL X 0)), (1, .int o), (2, .int w)]) hX (by decide) rfl (Nat.le_of_ble_eq_true rfl) ?_
  intro p e s m below meth c C
  refine m_iload_n C dX8_objectAt_0 1 rfl ?_
  refine m_invS C cal_X8_isObject (c_X8_isObject l hX g o ) lk_X8_96 st_X8_isObject (by decide) rfl rfl (Nat.le_of_ble_eq_true rfl) dX8_objectAt_1 ⟨Nat.le_refl _, Nat.le_refl _⟩ (rI fun r1 g2 q3 => ?_)
  obtain ⟨eg2, ⟨rfl, h4⟩ | ⟨rfl, h4⟩⟩ := q3
  · skip
    subst g2
    refine m_if_ne C 10 dX8_objectAt_4 (by decide) (fun _ => ?_) (fun h => absurd h (by decide))
    refine m_aload_n C dX8_objectAt_10 0 rfl ?_
    refine m_getr (rf := "") C 0 rfl gd8 (by decide) sh_0 rfl dX8_objectAt_11 lk_X8_12 ?_
    refine m_iload_n C dX8_objectAt_14 1 rfl ?_
    refine m_iload_n C dX8_objectAt_15 2 rfl ?_
    refine m_invVN C cal_X5_ofObject sh_1 rfl (c_X5_ofObject l hX g o w hI (by omega)) lk_X8_139 im_X5_ofObject se_X5_ofObject (by decide) rfl rfl (Nat.le_of_ble_eq_true rfl) dX8_objectAt_16 ⟨Nat.le_refl _, Nat.le_refl _⟩ (rI fun r5 g6 q7 => ?_)
    obtain ⟨eg6, p8⟩ := q7
    subst g6
    exact m_iret C dX8_objectAt_19 ⟨_, rfl, rfl, trivial⟩
  · skip
    subst g2
    refine m_if_ne C 10 dX8_objectAt_4 (by decide) (fun h => absurd (by decide) h) (fun _ => ?_)
    refine m_bipush C (-2 : Int32) dX8_objectAt_7 (by decide) ?_
    exact m_iret C dX8_objectAt_9 ⟨_, rfl, rfl, trivial⟩
set_option maxRecDepth 20000 in
set_option maxHeartbeats 4000000 in
theorem c_X8_given (l : Launch) {X : XT} (hX : Lok X) (g : Mem) (pt : Int32) (o : Int32) (q : Int32) (hI : Inv g) : Ctr l X yX8_given cX8_given 4 (some .int) (rmD 3) [.ref (aL X 0), .int pt, .int o, .int q] g (pI (fun r g2 => g2 = g ∧ True)) := by
  refine Ctr.of (lv := [(0, .ref (aL X 0)), (1, .int pt), (2, .int o), (3, .int q)]) hX (by decide) rfl (Nat.le_of_ble_eq_true rfl) ?_
  intro p e s m below meth c C
  refine m_iload_n C dX8_given_0 1 rfl ?_
  refine m_invS C cal_X8_isParty (c_X8_isParty l hX g pt ) lk_X8_142 st_X8_isParty (by decide) rfl rfl (Nat.le_of_ble_eq_true rfl) dX8_given_1 ⟨Nat.le_refl _, Nat.le_refl _⟩ (rI fun r1 g2 q3 => ?_)
  obtain ⟨eg2, ⟨rfl, h4⟩ | ⟨rfl, h4⟩⟩ := q3
  · skip
    subst g2
    refine m_if_eq C 21 dX8_given_4 (by decide) (fun h => absurd h (by decide)) (fun _ => ?_)
    refine m_iload_n C dX8_given_7 2 rfl ?_
    refine m_invS C cal_X8_isObject (c_X8_isObject l hX g o ) lk_X8_96 st_X8_isObject (by decide) rfl rfl (Nat.le_of_ble_eq_true rfl) dX8_given_8 ⟨Nat.le_refl _, Nat.le_refl _⟩ (rI fun r5 g6 q7 => ?_)
    obtain ⟨eg6, ⟨rfl, h8⟩ | ⟨rfl, h8⟩⟩ := q7
    · skip
      subst g6
      refine m_if_eq C 21 dX8_given_11 (by decide) (fun h => absurd h (by decide)) (fun _ => ?_)
      refine m_iload_n C dX8_given_14 3 rfl ?_
      refine m_invS C cal_X8_isRight (c_X8_isRight l hX g q ) lk_X8_99 st_X8_isRight (by decide) rfl rfl (Nat.le_of_ble_eq_true rfl) dX8_given_15 ⟨Nat.le_refl _, Nat.le_refl _⟩ (rI fun r9 g10 q11 => ?_)
      obtain ⟨eg10, ⟨rfl, h12⟩ | ⟨rfl, h12⟩⟩ := q11
      · skip
        subst g10
        refine m_if_ne C 24 dX8_given_18 (by decide) (fun _ => ?_) (fun h => absurd h (by decide))
        refine m_aload_n C dX8_given_24 0 rfl ?_
        refine m_getr (rf := "") C 0 rfl gd8 (by decide) sh_0 rfl dX8_given_25 lk_X8_12 ?_
        refine m_iload_n C dX8_given_28 1 rfl ?_
        refine m_iload_n C dX8_given_29 2 rfl ?_
        refine m_iload_n C dX8_given_30 3 rfl ?_
        refine m_invVN C cal_X5_hasBeenGiven sh_1 rfl (c_X5_hasBeenGiven l hX g pt o q hI (by omega) (by omega) (by omega)) lk_X8_145 im_X5_hasBeenGiven se_X5_hasBeenGiven (by decide) rfl rfl (Nat.le_of_ble_eq_true rfl) dX8_given_31 ⟨Nat.le_refl _, Nat.le_refl _⟩ (rI fun r13 g14 q15 => ?_)
        obtain ⟨eg14, p16⟩ := q15
        subst g14
        refine m_if_eq C 41 dX8_given_34 (by decide) (fun h17 => ?_) (fun h17 => ?_)
        · skip
          have th17 := i_eq h17
          rw [show (0 : Int32).toInt = 0 by decide] at th17
          refine m_iconst C (0 : Int32) dX8_given_41 (by decide) ?_
          exact m_iret C dX8_given_42 ⟨_, rfl, rfl, trivial⟩
        · skip
          have th17 := i_ne h17
          rw [show (0 : Int32).toInt = 0 by decide] at th17
          refine m_iconst C (1 : Int32) dX8_given_37 (by decide) ?_
          refine m_goto C 42 dX8_given_38 (by decide) ?_
          exact m_iret C dX8_given_42 ⟨_, rfl, rfl, trivial⟩
      · skip
        subst g10
        refine m_if_ne C 24 dX8_given_18 (by decide) (fun h => absurd (by decide) h) (fun _ => ?_)
        refine m_bipush C (-2 : Int32) dX8_given_21 (by decide) ?_
        exact m_iret C dX8_given_23 ⟨_, rfl, rfl, trivial⟩
    · skip
      subst g6
      refine m_if_eq C 21 dX8_given_11 (by decide) (fun _ => ?_) (fun h => absurd (by decide) h)
      refine m_bipush C (-2 : Int32) dX8_given_21 (by decide) ?_
      exact m_iret C dX8_given_23 ⟨_, rfl, rfl, trivial⟩
  · skip
    subst g2
    refine m_if_eq C 21 dX8_given_4 (by decide) (fun _ => ?_) (fun h => absurd (by decide) h)
    refine m_bipush C (-2 : Int32) dX8_given_21 (by decide) ?_
    exact m_iret C dX8_given_23 ⟨_, rfl, rfl, trivial⟩
set_option maxRecDepth 20000 in
set_option maxHeartbeats 4000000 in
theorem c_X8_entry (l : Launch) {X : XT} (hX : Lok X) (g : Mem) (i0 : Int32) (kk : Int32) (hI : Inv g) : Ctr l X yX8_entry cX8_entry 3 (some .int) (rmD 2) [.ref (aL X 0), .int i0, .int kk] g (pI (fun r g2 => g2 = g ∧ True)) := by
  refine Ctr.of (lv := [(0, .ref (aL X 0)), (1, .int i0), (2, .int kk)]) hX (by decide) rfl (Nat.le_of_ble_eq_true rfl) ?_
  intro p e s m below meth c C
  refine m_aload_n C dX8_entry_0 0 rfl ?_
  refine m_iload_n C dX8_entry_1 1 rfl ?_
  refine m_invV C cal_X8_isEntry sh_0 rfl (c_X8_isEntry l hX g i0 hI) lk_X8_148 im_X8_isEntry se_X8_isEntry (by decide) rfl rfl (Nat.le_of_ble_eq_true rfl) dX8_entry_2 ⟨Nat.le_refl _, Nat.le_refl _⟩ (rI fun r1 g2 q3 => ?_)
  obtain ⟨eg2, ⟨rfl, h4⟩ | ⟨rfl, h4⟩⟩ := q3
  · skip
    subst g2
    have r5 := iv_size hI
    refine m_if_eq C 18 dX8_entry_5 (by decide) (fun h => absurd h (by decide)) (fun _ => ?_)
    refine m_iload_n C dX8_entry_8 2 rfl ?_
    refine m_iconst C (0 : Int32) dX8_entry_9 (by decide) ?_
    refine m_bipush C (11 : Int32) dX8_entry_10 (by decide) ?_
    have t6 : (0 : Int32).toInt = 0 := by decide
    have t7 : (11 : Int32).toInt = 11 := by decide
    refine m_invS C cal_X8_within (c_X8_within l hX g kk (0 : Int32) (11 : Int32) ) lk_X8_87 st_X8_within (by decide) rfl rfl (Nat.le_of_ble_eq_true rfl) dX8_entry_12 ⟨Nat.le_refl _, Nat.le_refl _⟩ (rI fun r8 g9 q10 => ?_)
    obtain ⟨eg9, ⟨rfl, h11⟩ | ⟨rfl, h11⟩⟩ := q10
    · skip
      subst g9
      refine m_if_ne C 21 dX8_entry_15 (by decide) (fun _ => ?_) (fun h => absurd h (by decide))
      refine m_aload_n C dX8_entry_21 0 rfl ?_
      refine m_getr (rf := "") C 3 rfl gd8 (by decide) sh_0 rfl dX8_entry_22 lk_X8_37 ?_
      refine m_iload_n C dX8_entry_25 1 rfl ?_
      refine m_iload_n C dX8_entry_26 2 rfl ?_
      refine m_invVN C cal_X4_entryByte sh_16 rfl (c_X4_entryByte l hX g i0 kk hI (by omega) (by omega)) lk_X8_151 im_X4_entryByte se_X4_entryByte (by decide) rfl rfl (Nat.le_of_ble_eq_true rfl) dX8_entry_27 ⟨Nat.le_refl _, Nat.le_refl _⟩ (rI fun r12 g13 q14 => ?_)
      obtain ⟨eg13, p15⟩ := q14
      subst g13
      exact m_iret C dX8_entry_30 ⟨_, rfl, rfl, trivial⟩
    · skip
      subst g9
      refine m_if_ne C 21 dX8_entry_15 (by decide) (fun h => absurd (by decide) h) (fun _ => ?_)
      refine m_bipush C (-2 : Int32) dX8_entry_18 (by decide) ?_
      exact m_iret C dX8_entry_20 ⟨_, rfl, rfl, trivial⟩
  · skip
    subst g2
    have r16 := iv_size hI
    refine m_if_eq C 18 dX8_entry_5 (by decide) (fun _ => ?_) (fun h => absurd (by decide) h)
    refine m_bipush C (-2 : Int32) dX8_entry_18 (by decide) ?_
    exact m_iret C dX8_entry_20 ⟨_, rfl, rfl, trivial⟩
set_option maxRecDepth 20000 in
set_option maxHeartbeats 4000000 in
theorem c_X8_chain (l : Launch) {X : XT} (hX : Lok X) (g : Mem) (ii : Int32) (k : Int32) (hI : Inv g) : Ctr l X yX8_chain cX8_chain 3 (some .int) (rmD 2) [.ref (aL X 0), .int ii, .int k] g (pI (fun r g2 => g2 = g ∧ True)) := by
  refine Ctr.of (lv := [(0, .ref (aL X 0)), (1, .int ii), (2, .int k)]) hX (by decide) rfl (Nat.le_of_ble_eq_true rfl) ?_
  intro p e s m below meth c C
  refine m_aload_n C dX8_chain_0 0 rfl ?_
  refine m_iload_n C dX8_chain_1 1 rfl ?_
  refine m_invV C cal_X8_isLength sh_0 rfl (c_X8_isLength l hX g ii hI) lk_X8_154 im_X8_isLength se_X8_isLength (by decide) rfl rfl (Nat.le_of_ble_eq_true rfl) dX8_chain_2 ⟨Nat.le_refl _, Nat.le_refl _⟩ (rI fun r1 g2 q3 => ?_)
  obtain ⟨eg2, ⟨rfl, h4⟩ | ⟨rfl, h4⟩⟩ := q3
  · skip
    subst g2
    have r5 := iv_size hI
    refine m_if_eq C 15 dX8_chain_5 (by decide) (fun h => absurd h (by decide)) (fun _ => ?_)
    refine m_iload_n C dX8_chain_8 2 rfl ?_
    refine m_invS C cal_X8_isHashByte (c_X8_isHashByte l hX g k ) lk_X8_157 st_X8_isHashByte (by decide) rfl rfl (Nat.le_of_ble_eq_true rfl) dX8_chain_9 ⟨Nat.le_refl _, Nat.le_refl _⟩ (rI fun r6 g7 q8 => ?_)
    obtain ⟨eg7, ⟨rfl, h9⟩ | ⟨rfl, h9⟩⟩ := q8
    · skip
      subst g7
      refine m_if_ne C 18 dX8_chain_12 (by decide) (fun _ => ?_) (fun h => absurd h (by decide))
      refine m_aload_n C dX8_chain_18 0 rfl ?_
      refine m_getr (rf := "") C 3 rfl gd8 (by decide) sh_0 rfl dX8_chain_19 lk_X8_37 ?_
      refine m_iload_n C dX8_chain_22 1 rfl ?_
      refine m_iload_n C dX8_chain_23 2 rfl ?_
      refine m_invVN C cal_X4_linkByte sh_16 rfl (c_X4_linkByte l hX g ii k hI (by omega) (by omega)) lk_X8_160 im_X4_linkByte se_X4_linkByte (by decide) rfl rfl (Nat.le_of_ble_eq_true rfl) dX8_chain_24 ⟨Nat.le_refl _, Nat.le_refl _⟩ (rI fun r10 g11 q12 => ?_)
      obtain ⟨eg11, p13⟩ := q12
      subst g11
      exact m_iret C dX8_chain_27 ⟨_, rfl, rfl, trivial⟩
    · skip
      subst g7
      refine m_if_ne C 18 dX8_chain_12 (by decide) (fun h => absurd (by decide) h) (fun _ => ?_)
      refine m_bipush C (-2 : Int32) dX8_chain_15 (by decide) ?_
      exact m_iret C dX8_chain_17 ⟨_, rfl, rfl, trivial⟩
  · skip
    subst g2
    have r14 := iv_size hI
    refine m_if_eq C 15 dX8_chain_5 (by decide) (fun _ => ?_) (fun h => absurd (by decide) h)
    refine m_bipush C (-2 : Int32) dX8_chain_15 (by decide) ?_
    exact m_iret C dX8_chain_17 ⟨_, rfl, rfl, trivial⟩
set_option maxRecDepth 20000 in
set_option maxHeartbeats 4000000 in
theorem c_X8_root (l : Launch) {X : XT} (hX : Lok X) (g : Mem) (n0 : Int32) (k : Int32) (hI : Inv g) : Ctr l X yX8_root cX8_root 3 (some .int) (rmD 5) [.ref (aL X 0), .int n0, .int k] g (pI (fun r g2 => Inv g2 ∧ Kp [9, 10, 11, 12, 33] g g2)) := by
  refine Ctr.of (lv := [(0, .ref (aL X 0)), (1, .int n0), (2, .int k)]) hX (by decide) rfl (Nat.le_of_ble_eq_true rfl) ?_
  intro p e s m below meth c C
  refine m_aload_n C dX8_root_0 0 rfl ?_
  refine m_iload_n C dX8_root_1 1 rfl ?_
  refine m_invV C cal_X8_isLength sh_0 rfl (c_X8_isLength l hX g n0 hI) lk_X8_154 im_X8_isLength se_X8_isLength (by decide) rfl rfl (Nat.le_of_ble_eq_true rfl) dX8_root_2 ⟨Nat.le_refl _, Nat.le_refl _⟩ (rI fun r1 g2 q3 => ?_)
  obtain ⟨eg2, ⟨rfl, h4⟩ | ⟨rfl, h4⟩⟩ := q3
  · skip
    subst g2
    have r5 := iv_size hI
    refine m_if_eq C 15 dX8_root_5 (by decide) (fun h => absurd h (by decide)) (fun _ => ?_)
    refine m_iload_n C dX8_root_8 2 rfl ?_
    refine m_invS C cal_X8_isHashByte (c_X8_isHashByte l hX g k ) lk_X8_157 st_X8_isHashByte (by decide) rfl rfl (Nat.le_of_ble_eq_true rfl) dX8_root_9 ⟨Nat.le_refl _, Nat.le_refl _⟩ (rI fun r6 g7 q8 => ?_)
    obtain ⟨eg7, ⟨rfl, h9⟩ | ⟨rfl, h9⟩⟩ := q8
    · skip
      subst g7
      refine m_if_ne C 18 dX8_root_12 (by decide) (fun _ => ?_) (fun h => absurd h (by decide))
      refine m_aload_n C dX8_root_18 0 rfl ?_
      refine m_getr (rf := "") C 2 rfl gd8 (by decide) sh_0 rfl dX8_root_19 lk_X8_28 ?_
      refine m_iconst C (0 : Int32) dX8_root_22 (by decide) ?_
      refine m_iload_n C dX8_root_23 1 rfl ?_
      refine m_aload_n C dX8_root_24 0 rfl ?_
      refine m_getr (rf := "") C 8 rfl gd8 (by decide) sh_0 rfl dX8_root_25 lk_X8_75 ?_
      refine m_iconst C (0 : Int32) dX8_root_28 (by decide) ?_
      have t10 : (0 : Int32).toInt = 0 := by decide
      have t11 : (0 : Int32).toInt = 0 := by decide
      refine m_invVN C cal_X7_rootOf sh_13 rfl (c_X7_rootOf_32 l hX g (0 : Int32) n0 (0 : Int32) hI (by omega) (by omega) (by omega)) lk_X8_163 im_X7_rootOf se_X7_rootOf (by decide) rfl rfl (Nat.le_of_ble_eq_true rfl) dX8_root_29 ⟨Nat.le_refl _, Nat.le_refl _⟩ (rV fun g13 q14 => ?_)
      obtain ⟨hI15, hK16⟩ := q14
      have hK17 : Kp [9, 10, 11, 12, 33] g g13 := (Kp.rf).tr hK16 (by decide)
      refine m_aload_n C dX8_root_32 0 rfl ?_
      refine m_getr (rf := "") C 8 rfl gd8 (by decide) sh_0 rfl dX8_root_33 lk_X8_75 ?_
      refine m_iconst C (0 : Int32) dX8_root_36 (by decide) ?_
      refine m_iload_n C dX8_root_37 2 rfl ?_
      have t18 : (0 : Int32).toInt = 0 := by decide
      refine m_invVN C cal_X2_byteAt sh_32 rfl (c_X2_byteAt_32 l hX g13 (0 : Int32) k hI15 (by omega) (by omega)) lk_X8_167 im_X2_byteAt se_X2_byteAt (by decide) rfl rfl (Nat.le_of_ble_eq_true rfl) dX8_root_38 ⟨Nat.le_refl _, Nat.le_refl _⟩ (rI fun r19 g20 q21 => ?_)
      obtain ⟨eg20, p22⟩ := q21
      subst g20
      exact m_iret C dX8_root_41 ⟨_, rfl, hI15, hK17⟩
    · skip
      subst g7
      refine m_if_ne C 18 dX8_root_12 (by decide) (fun h => absurd (by decide) h) (fun _ => ?_)
      refine m_bipush C (-2 : Int32) dX8_root_15 (by decide) ?_
      exact m_iret C dX8_root_17 ⟨_, rfl, hI, Kp.rf⟩
  · skip
    subst g2
    have r23 := iv_size hI
    refine m_if_eq C 15 dX8_root_5 (by decide) (fun _ => ?_) (fun h => absurd (by decide) h)
    refine m_bipush C (-2 : Int32) dX8_root_15 (by decide) ?_
    exact m_iret C dX8_root_17 ⟨_, rfl, hI, Kp.rf⟩
set_option maxRecDepth 20000 in
set_option maxHeartbeats 4000000 in
theorem c_X8_path (l : Launch) {X : XT} (hX : Lok X) (g : Mem) (i0 : Int32) (n0 : Int32) (hI : Inv g) : Ctr l X yX8_path cX8_path 3 (some .int) (rmD 7) [.ref (aL X 0), .int i0, .int n0] g (pI (fun r g2 => Inv g2 ∧ Kp [9, 10, 11, 12, 20, 22, 23, 24] g g2)) := by
  refine Ctr.of (lv := [(0, .ref (aL X 0)), (1, .int i0), (2, .int n0)]) hX (by decide) rfl (Nat.le_of_ble_eq_true rfl) ?_
  intro p e s m below meth c C
  refine m_aload_n C dX8_path_0 0 rfl ?_
  refine m_iload_n C dX8_path_1 2 rfl ?_
  refine m_invV C cal_X8_isLength sh_0 rfl (c_X8_isLength l hX g n0 hI) lk_X8_154 im_X8_isLength se_X8_isLength (by decide) rfl rfl (Nat.le_of_ble_eq_true rfl) dX8_path_2 ⟨Nat.le_refl _, Nat.le_refl _⟩ (rI fun r1 g2 q3 => ?_)
  obtain ⟨eg2, ⟨rfl, h4⟩ | ⟨rfl, h4⟩⟩ := q3
  · skip
    subst g2
    have r5 := iv_size hI
    refine m_if_eq C 19 dX8_path_5 (by decide) (fun h => absurd h (by decide)) (fun _ => ?_)
    refine m_iload_n C dX8_path_8 1 rfl ?_
    refine m_iconst C (0 : Int32) dX8_path_9 (by decide) ?_
    refine m_iload_n C dX8_path_10 2 rfl ?_
    refine m_iconst C (1 : Int32) dX8_path_11 (by decide) ?_
    refine m_isub C dX8_path_12 ?_
    have t6 : (n0 - (1 : Int32)).toInt = n0.toInt - (1 : Int) := i_sub rfl (by decide) (by omega) (by omega)
    have t7 : (0 : Int32).toInt = 0 := by decide
    refine m_invS C cal_X8_within (c_X8_within l hX g i0 (0 : Int32) (n0 - (1 : Int32)) ) lk_X8_87 st_X8_within (by decide) rfl rfl (Nat.le_of_ble_eq_true rfl) dX8_path_13 ⟨Nat.le_refl _, Nat.le_refl _⟩ (rI fun r8 g9 q10 => ?_)
    obtain ⟨eg9, ⟨rfl, h11⟩ | ⟨rfl, h11⟩⟩ := q10
    · skip
      subst g9
      refine m_if_ne C 22 dX8_path_16 (by decide) (fun _ => ?_) (fun h => absurd h (by decide))
      refine m_aload_n C dX8_path_22 0 rfl ?_
      refine m_getr (rf := "") C 4 rfl gd8 (by decide) sh_0 rfl dX8_path_23 lk_X8_46 ?_
      refine m_iload_n C dX8_path_26 1 rfl ?_
      refine m_iload_n C dX8_path_27 2 rfl ?_
      refine m_invVN C cal_X6_becomePath sh_20 rfl (c_X6_becomePath l hX g i0 n0 hI (by omega)) lk_X8_170 im_X6_becomePath se_X6_becomePath (by decide) rfl rfl (Nat.le_of_ble_eq_true rfl) dX8_path_28 ⟨Nat.le_refl _, Nat.le_refl _⟩ (rI fun r12 g13 q14 => ?_)
      obtain ⟨hI15, hK16⟩ := q14
      have hK17 : Kp [9, 10, 11, 12, 20, 22, 23, 24] g g13 := (Kp.rf).tr hK16 (by decide)
      exact m_iret C dX8_path_31 ⟨_, rfl, hI15, hK17⟩
    · skip
      subst g9
      refine m_if_ne C 22 dX8_path_16 (by decide) (fun h => absurd (by decide) h) (fun _ => ?_)
      refine m_bipush C (-2 : Int32) dX8_path_19 (by decide) ?_
      exact m_iret C dX8_path_21 ⟨_, rfl, hI, Kp.rf⟩
  · skip
    subst g2
    have r18 := iv_size hI
    refine m_if_eq C 19 dX8_path_5 (by decide) (fun _ => ?_) (fun h => absurd (by decide) h)
    refine m_bipush C (-2 : Int32) dX8_path_19 (by decide) ?_
    exact m_iret C dX8_path_21 ⟨_, rfl, hI, Kp.rf⟩
set_option maxRecDepth 20000 in
set_option maxHeartbeats 4000000 in
theorem c_X8_steps (l : Launch) {X : XT} (hX : Lok X) (g : Mem) (m0 : Int32) (n0 : Int32) (hI : Inv g) : Ctr l X yX8_steps cX8_steps 3 (some .int) (rmD 7) [.ref (aL X 0), .int m0, .int n0] g (pI (fun r g2 => Inv g2 ∧ Kp [9, 10, 11, 12, 20, 22, 23, 24] g g2)) := by
  refine Ctr.of (lv := [(0, .ref (aL X 0)), (1, .int m0), (2, .int n0)]) hX (by decide) rfl (Nat.le_of_ble_eq_true rfl) ?_
  intro p e s m below meth c C
  refine m_aload_n C dX8_steps_0 0 rfl ?_
  refine m_iload_n C dX8_steps_1 2 rfl ?_
  refine m_invV C cal_X8_isLength sh_0 rfl (c_X8_isLength l hX g n0 hI) lk_X8_154 im_X8_isLength se_X8_isLength (by decide) rfl rfl (Nat.le_of_ble_eq_true rfl) dX8_steps_2 ⟨Nat.le_refl _, Nat.le_refl _⟩ (rI fun r1 g2 q3 => ?_)
  obtain ⟨eg2, ⟨rfl, h4⟩ | ⟨rfl, h4⟩⟩ := q3
  · skip
    subst g2
    have r5 := iv_size hI
    refine m_if_eq C 17 dX8_steps_5 (by decide) (fun h => absurd h (by decide)) (fun _ => ?_)
    refine m_iload_n C dX8_steps_8 1 rfl ?_
    refine m_iconst C (1 : Int32) dX8_steps_9 (by decide) ?_
    refine m_iload_n C dX8_steps_10 2 rfl ?_
    have t6 : (1 : Int32).toInt = 1 := by decide
    refine m_invS C cal_X8_within (c_X8_within l hX g m0 (1 : Int32) n0 ) lk_X8_87 st_X8_within (by decide) rfl rfl (Nat.le_of_ble_eq_true rfl) dX8_steps_11 ⟨Nat.le_refl _, Nat.le_refl _⟩ (rI fun r7 g8 q9 => ?_)
    obtain ⟨eg8, ⟨rfl, h10⟩ | ⟨rfl, h10⟩⟩ := q9
    · skip
      subst g8
      refine m_if_ne C 20 dX8_steps_14 (by decide) (fun _ => ?_) (fun h => absurd h (by decide))
      refine m_aload_n C dX8_steps_20 0 rfl ?_
      refine m_getr (rf := "") C 4 rfl gd8 (by decide) sh_0 rfl dX8_steps_21 lk_X8_46 ?_
      refine m_iload_n C dX8_steps_24 1 rfl ?_
      refine m_iload_n C dX8_steps_25 2 rfl ?_
      refine m_invVN C cal_X6_becomeSteps sh_20 rfl (c_X6_becomeSteps l hX g m0 n0 hI (by omega) (by omega) (by omega)) lk_X8_173 im_X6_becomeSteps se_X6_becomeSteps (by decide) rfl rfl (Nat.le_of_ble_eq_true rfl) dX8_steps_26 ⟨Nat.le_refl _, Nat.le_refl _⟩ (rI fun r11 g12 q13 => ?_)
      obtain ⟨hI14, hK15⟩ := q13
      have hK16 : Kp [9, 10, 11, 12, 20, 22, 23, 24] g g12 := (Kp.rf).tr hK15 (by decide)
      exact m_iret C dX8_steps_29 ⟨_, rfl, hI14, hK16⟩
    · skip
      subst g8
      refine m_if_ne C 20 dX8_steps_14 (by decide) (fun h => absurd (by decide) h) (fun _ => ?_)
      refine m_bipush C (-2 : Int32) dX8_steps_17 (by decide) ?_
      exact m_iret C dX8_steps_19 ⟨_, rfl, hI, Kp.rf⟩
  · skip
    subst g2
    have r17 := iv_size hI
    refine m_if_eq C 17 dX8_steps_5 (by decide) (fun _ => ?_) (fun h => absurd (by decide) h)
    refine m_bipush C (-2 : Int32) dX8_steps_17 (by decide) ?_
    exact m_iret C dX8_steps_19 ⟨_, rfl, hI, Kp.rf⟩
set_option maxRecDepth 20000 in
set_option maxHeartbeats 4000000 in
theorem c_X8_proof (l : Launch) {X : XT} (hX : Lok X) (g : Mem) (h : Int32) (k : Int32) (hI : Inv g) : Ctr l X yX8_proof cX8_proof 3 (some .int) (rmD 2) [.ref (aL X 0), .int h, .int k] g (pI (fun r g2 => g2 = g ∧ True)) := by
  refine Ctr.of (lv := [(0, .ref (aL X 0)), (1, .int h), (2, .int k)]) hX (by decide) rfl (Nat.le_of_ble_eq_true rfl) ?_
  intro p e s m below meth c C
  refine m_aload_n C dX8_proof_0 0 rfl ?_
  refine m_iload_n C dX8_proof_1 1 rfl ?_
  refine m_invV C cal_X8_isProofHash sh_0 rfl (c_X8_isProofHash l hX g h hI) lk_X8_176 im_X8_isProofHash se_X8_isProofHash (by decide) rfl rfl (Nat.le_of_ble_eq_true rfl) dX8_proof_2 ⟨Nat.le_refl _, Nat.le_refl _⟩ (rI fun r1 g2 q3 => ?_)
  obtain ⟨eg2, ⟨rfl, h4⟩ | ⟨rfl, h4⟩⟩ := q3
  · skip
    subst g2
    have r5 := iv_psize hI
    refine m_if_eq C 15 dX8_proof_5 (by decide) (fun h => absurd h (by decide)) (fun _ => ?_)
    refine m_iload_n C dX8_proof_8 2 rfl ?_
    refine m_invS C cal_X8_isHashByte (c_X8_isHashByte l hX g k ) lk_X8_157 st_X8_isHashByte (by decide) rfl rfl (Nat.le_of_ble_eq_true rfl) dX8_proof_9 ⟨Nat.le_refl _, Nat.le_refl _⟩ (rI fun r6 g7 q8 => ?_)
    obtain ⟨eg7, ⟨rfl, h9⟩ | ⟨rfl, h9⟩⟩ := q8
    · skip
      subst g7
      refine m_if_ne C 18 dX8_proof_12 (by decide) (fun _ => ?_) (fun h => absurd h (by decide))
      refine m_aload_n C dX8_proof_18 0 rfl ?_
      refine m_getr (rf := "") C 4 rfl gd8 (by decide) sh_0 rfl dX8_proof_19 lk_X8_46 ?_
      refine m_getrN (rf := "") C 1 rfl gd6 (by decide) sh_20 rfl dX8_proof_22 lk_X8_179 ?_
      refine m_iload_n C dX8_proof_25 1 rfl ?_
      refine m_iload_n C dX8_proof_26 2 rfl ?_
      refine m_invVN C cal_X2_byteAt sh_21 rfl (c_X2_byteAt_21 l hX g h k hI (by omega) (by omega)) lk_X8_167 im_X2_byteAt se_X2_byteAt (by decide) rfl rfl (Nat.le_of_ble_eq_true rfl) dX8_proof_27 ⟨Nat.le_refl _, Nat.le_refl _⟩ (rI fun r10 g11 q12 => ?_)
      obtain ⟨eg11, p13⟩ := q12
      subst g11
      exact m_iret C dX8_proof_30 ⟨_, rfl, rfl, trivial⟩
    · skip
      subst g7
      refine m_if_ne C 18 dX8_proof_12 (by decide) (fun h => absurd (by decide) h) (fun _ => ?_)
      refine m_bipush C (-2 : Int32) dX8_proof_15 (by decide) ?_
      exact m_iret C dX8_proof_17 ⟨_, rfl, rfl, trivial⟩
  · skip
    subst g2
    have r14 := iv_psize hI
    refine m_if_eq C 15 dX8_proof_5 (by decide) (fun _ => ?_) (fun h => absurd (by decide) h)
    refine m_bipush C (-2 : Int32) dX8_proof_15 (by decide) ?_
    exact m_iret C dX8_proof_17 ⟨_, rfl, rfl, trivial⟩
set_option maxRecDepth 20000 in
set_option maxHeartbeats 4000000 in
theorem c_X8_spoilProof (l : Launch) {X : XT} (hX : Lok X) (g : Mem) (h : Int32) (k : Int32) (v : Int32) (hI : Inv g) : Ctr l X yX8_spoilProof cX8_spoilProof 4 (some .int) (rmD 2) [.ref (aL X 0), .int h, .int k, .int v] g (pI (fun r g2 => Inv g2 ∧ Kp [22] g g2)) := by
  refine Ctr.of (lv := [(0, .ref (aL X 0)), (1, .int h), (2, .int k), (3, .int v)]) hX (by decide) rfl (Nat.le_of_ble_eq_true rfl) ?_
  intro p e s m below meth c C
  refine m_aload_n C dX8_spoilProof_0 0 rfl ?_
  refine m_iload_n C dX8_spoilProof_1 1 rfl ?_
  refine m_invV C cal_X8_isProofHash sh_0 rfl (c_X8_isProofHash l hX g h hI) lk_X8_176 im_X8_isProofHash se_X8_isProofHash (by decide) rfl rfl (Nat.le_of_ble_eq_true rfl) dX8_spoilProof_2 ⟨Nat.le_refl _, Nat.le_refl _⟩ (rI fun r1 g2 q3 => ?_)
  obtain ⟨eg2, ⟨rfl, h4⟩ | ⟨rfl, h4⟩⟩ := q3
  · skip
    subst g2
    have r5 := iv_psize hI
    refine m_if_eq C 22 dX8_spoilProof_5 (by decide) (fun h => absurd h (by decide)) (fun _ => ?_)
    refine m_iload_n C dX8_spoilProof_8 2 rfl ?_
    refine m_invS C cal_X8_isHashByte (c_X8_isHashByte l hX g k ) lk_X8_157 st_X8_isHashByte (by decide) rfl rfl (Nat.le_of_ble_eq_true rfl) dX8_spoilProof_9 ⟨Nat.le_refl _, Nat.le_refl _⟩ (rI fun r6 g7 q8 => ?_)
    obtain ⟨eg7, ⟨rfl, h9⟩ | ⟨rfl, h9⟩⟩ := q8
    · skip
      subst g7
      refine m_if_eq C 22 dX8_spoilProof_12 (by decide) (fun h => absurd h (by decide)) (fun _ => ?_)
      refine m_iload_n C dX8_spoilProof_15 3 rfl ?_
      refine m_invS C cal_X8_isMask (c_X8_isMask l hX g v ) lk_X8_182 st_X8_isMask (by decide) rfl rfl (Nat.le_of_ble_eq_true rfl) dX8_spoilProof_16 ⟨Nat.le_refl _, Nat.le_refl _⟩ (rI fun r10 g11 q12 => ?_)
      obtain ⟨eg11, ⟨rfl, h13⟩ | ⟨rfl, h13⟩⟩ := q12
      · skip
        subst g11
        refine m_if_ne C 25 dX8_spoilProof_19 (by decide) (fun _ => ?_) (fun h => absurd h (by decide))
        refine m_aload_n C dX8_spoilProof_25 0 rfl ?_
        refine m_getr (rf := "") C 4 rfl gd8 (by decide) sh_0 rfl dX8_spoilProof_26 lk_X8_46 ?_
        refine m_getrN (rf := "") C 1 rfl gd6 (by decide) sh_20 rfl dX8_spoilProof_29 lk_X8_179 ?_
        refine m_iload_n C dX8_spoilProof_32 1 rfl ?_
        refine m_iload_n C dX8_spoilProof_33 2 rfl ?_
        refine m_iload_n C dX8_spoilProof_34 3 rfl ?_
        refine m_invVN C cal_X2_spoilByte sh_21 rfl (c_X2_spoilByte_21 l hX g h k v hI (by omega) (by omega)) lk_X8_185 im_X2_spoilByte se_X2_spoilByte (by decide) rfl rfl (Nat.le_of_ble_eq_true rfl) dX8_spoilProof_35 ⟨Nat.le_refl _, Nat.le_refl _⟩ (rI fun r14 g15 q16 => ?_)
        obtain ⟨hI17, hK18⟩ := q16
        have hK19 : Kp [22] g g15 := (Kp.rf).tr hK18 (by decide)
        exact m_iret C dX8_spoilProof_38 ⟨_, rfl, hI17, hK19⟩
      · skip
        subst g11
        refine m_if_ne C 25 dX8_spoilProof_19 (by decide) (fun h => absurd (by decide) h) (fun _ => ?_)
        refine m_bipush C (-2 : Int32) dX8_spoilProof_22 (by decide) ?_
        exact m_iret C dX8_spoilProof_24 ⟨_, rfl, hI, Kp.rf⟩
    · skip
      subst g7
      refine m_if_eq C 22 dX8_spoilProof_12 (by decide) (fun _ => ?_) (fun h => absurd (by decide) h)
      refine m_bipush C (-2 : Int32) dX8_spoilProof_22 (by decide) ?_
      exact m_iret C dX8_spoilProof_24 ⟨_, rfl, hI, Kp.rf⟩
  · skip
    subst g2
    have r20 := iv_psize hI
    refine m_if_eq C 22 dX8_spoilProof_5 (by decide) (fun _ => ?_) (fun h => absurd (by decide) h)
    refine m_bipush C (-2 : Int32) dX8_spoilProof_22 (by decide) ?_
    exact m_iret C dX8_spoilProof_24 ⟨_, rfl, hI, Kp.rf⟩
set_option maxRecDepth 20000 in
set_option maxHeartbeats 4000000 in
theorem c_X8_cutProof (l : Launch) {X : XT} (hX : Lok X) (g : Mem) (n0 : Int32) (hI : Inv g) : Ctr l X yX8_cutProof cX8_cutProof 3 (some .int) (rmD 2) [.ref (aL X 0), .int n0] g (pI (fun r g2 => Inv g2 ∧ Kp [20] g g2)) := by
  refine Ctr.of (lv := [(0, .ref (aL X 0)), (1, .int n0)]) hX (by decide) rfl (Nat.le_of_ble_eq_true rfl) ?_
  intro p e s m below meth c C
  refine m_iload_n C dX8_cutProof_0 1 rfl ?_
  refine m_iconst C (0 : Int32) dX8_cutProof_1 (by decide) ?_
  refine m_aload_n C dX8_cutProof_2 0 rfl ?_
  refine m_getr (rf := "") C 4 rfl gd8 (by decide) sh_0 rfl dX8_cutProof_3 lk_X8_46 ?_
  refine m_getiN (rf := "") C 5 rfl gd6 (by decide) sh_20 rfl dX8_cutProof_6 lk_X8_188 ?_
  have r1 := iv_psize hI
  have t2 : (0 : Int32).toInt = 0 := by decide
  refine m_invS C cal_X8_within (c_X8_within l hX g n0 (0 : Int32) (g 20 5) ) lk_X8_87 st_X8_within (by decide) rfl rfl (Nat.le_of_ble_eq_true rfl) dX8_cutProof_9 ⟨Nat.le_refl _, Nat.le_refl _⟩ (rI fun r3 g4 q5 => ?_)
  obtain ⟨eg4, ⟨rfl, h6⟩ | ⟨rfl, h6⟩⟩ := q5
  · skip
    subst g4
    refine m_if_ne C 18 dX8_cutProof_12 (by decide) (fun _ => ?_) (fun h => absurd h (by decide))
    refine m_aload_n C dX8_cutProof_18 0 rfl ?_
    refine m_getr (rf := "") C 4 rfl gd8 (by decide) sh_0 rfl dX8_cutProof_19 lk_X8_46 ?_
    refine m_getiN (rf := "") C 5 rfl gd6 (by decide) sh_20 rfl dX8_cutProof_22 lk_X8_188 ?_
    have r7 := iv_psize hI
    refine m_iload_n C dX8_cutProof_25 1 rfl ?_
    refine m_isub C dX8_cutProof_26 ?_
    refine m_name (fun x8 ex8 => ?_)
    have t9 : ((g 20 5) - n0).toInt = (g 20 5).toInt - n0.toInt := i_sub rfl rfl (by omega) (by omega)
    have t10 : x8.toInt = ((g 20 5).toInt - n0.toInt) := (congrArg Int32.toInt ex8).trans t9
    refine m_istore_n C [(2, .int x8), (0, .ref (aL X 0)), (1, .int n0)] dX8_cutProof_27 (by decide) rfl ?_
    refine m_aload_n C dX8_cutProof_28 1 rfl ?_
    refine m_getr (rf := "") C 4 rfl gd8 (by decide) sh_0 rfl dX8_cutProof_29 lk_X8_46 ?_
    refine m_iload_n C dX8_cutProof_32 2 rfl ?_
    refine m_putN (rf := "") C 5 rfl gd6 (by decide) tyX6 tyX6_ok nmX6 rfl (tyX6_ok 5 (by decide)) rfl rfl sh_20 rfl dX8_cutProof_33 lk_X8_188 ?_
    refine m_mem (fun g11 eg11 => ?_)
    have hI12 : Inv g11 := by rw [eg11]; exact hI.up (ok_psize (by omega) (by omega))
    have hK13 : Kp [20] g g11 := by rw [eg11]; exact Kp.up Kp.rf (by decide) (Or.inl (by decide)) (Or.inl (by decide))
    refine m_iload_n C dX8_cutProof_36 0 rfl ?_
    exact m_iret C dX8_cutProof_37 ⟨_, rfl, hI12, hK13⟩
  · skip
    subst g4
    refine m_if_ne C 18 dX8_cutProof_12 (by decide) (fun h => absurd (by decide) h) (fun _ => ?_)
    refine m_bipush C (-2 : Int32) dX8_cutProof_15 (by decide) ?_
    exact m_iret C dX8_cutProof_17 ⟨_, rfl, hI, Kp.rf⟩
set_option maxRecDepth 20000 in
set_option maxHeartbeats 4000000 in
theorem c_X8_keep (l : Launch) {X : XT} (hX : Lok X) (g : Mem) (q : Int32) (n0 : Int32) (hI : Inv g) : Ctr l X yX8_keep cX8_keep 3 (some .int) (rmD 5) [.ref (aL X 0), .int q, .int n0] g (pI (fun r g2 => Inv g2 ∧ Kp [9, 10, 11, 12, 26] g g2)) := by
  refine Ctr.of (lv := [(0, .ref (aL X 0)), (1, .int q), (2, .int n0)]) hX (by decide) rfl (Nat.le_of_ble_eq_true rfl) ?_
  intro p e s m below meth c C
  refine m_iload_n C dX8_keep_0 1 rfl ?_
  refine m_invS C cal_X8_isKeptRoot (c_X8_isKeptRoot l hX g q ) lk_X8_191 st_X8_isKeptRoot (by decide) rfl rfl (Nat.le_of_ble_eq_true rfl) dX8_keep_1 ⟨Nat.le_refl _, Nat.le_refl _⟩ (rI fun r1 g2 q3 => ?_)
  obtain ⟨eg2, ⟨rfl, h4⟩ | ⟨rfl, h4⟩⟩ := q3
  · skip
    subst g2
    refine m_if_eq C 15 dX8_keep_4 (by decide) (fun h => absurd h (by decide)) (fun _ => ?_)
    refine m_aload_n C dX8_keep_7 0 rfl ?_
    refine m_iload_n C dX8_keep_8 2 rfl ?_
    refine m_invV C cal_X8_isLength sh_0 rfl (c_X8_isLength l hX g n0 hI) lk_X8_154 im_X8_isLength se_X8_isLength (by decide) rfl rfl (Nat.le_of_ble_eq_true rfl) dX8_keep_9 ⟨Nat.le_refl _, Nat.le_refl _⟩ (rI fun r5 g6 q7 => ?_)
    obtain ⟨eg6, ⟨rfl, h8⟩ | ⟨rfl, h8⟩⟩ := q7
    · skip
      subst g6
      have r9 := iv_size hI
      refine m_if_ne C 18 dX8_keep_12 (by decide) (fun _ => ?_) (fun h => absurd h (by decide))
      refine m_aload_n C dX8_keep_18 0 rfl ?_
      refine m_getr (rf := "") C 2 rfl gd8 (by decide) sh_0 rfl dX8_keep_19 lk_X8_28 ?_
      refine m_iconst C (0 : Int32) dX8_keep_22 (by decide) ?_
      refine m_iload_n C dX8_keep_23 2 rfl ?_
      refine m_aload_n C dX8_keep_24 0 rfl ?_
      refine m_getr (rf := "") C 5 rfl gd8 (by decide) sh_0 rfl dX8_keep_25 lk_X8_55 ?_
      refine m_iload_n C dX8_keep_28 1 rfl ?_
      have t10 : (0 : Int32).toInt = 0 := by decide
      refine m_invVN C cal_X7_rootOf sh_13 rfl (c_X7_rootOf_25 l hX g (0 : Int32) n0 q hI (by omega) (by omega) (by omega)) lk_X8_163 im_X7_rootOf se_X7_rootOf (by decide) rfl rfl (Nat.le_of_ble_eq_true rfl) dX8_keep_29 ⟨Nat.le_refl _, Nat.le_refl _⟩ (rV fun g12 q13 => ?_)
      obtain ⟨hI14, hK15⟩ := q13
      have hK16 : Kp [9, 10, 11, 12, 26] g g12 := (Kp.rf).tr hK15 (by decide)
      refine m_iconst C (1 : Int32) dX8_keep_32 (by decide) ?_
      exact m_iret C dX8_keep_33 ⟨_, rfl, hI14, hK16⟩
    · skip
      subst g6
      have r17 := iv_size hI
      refine m_if_ne C 18 dX8_keep_12 (by decide) (fun h => absurd (by decide) h) (fun _ => ?_)
      refine m_bipush C (-2 : Int32) dX8_keep_15 (by decide) ?_
      exact m_iret C dX8_keep_17 ⟨_, rfl, hI, Kp.rf⟩
  · skip
    subst g2
    refine m_if_eq C 15 dX8_keep_4 (by decide) (fun _ => ?_) (fun h => absurd (by decide) h)
    refine m_bipush C (-2 : Int32) dX8_keep_15 (by decide) ?_
    exact m_iret C dX8_keep_17 ⟨_, rfl, hI, Kp.rf⟩
set_option maxRecDepth 20000 in
set_option maxHeartbeats 4000000 in
theorem c_X8_kept (l : Launch) {X : XT} (hX : Lok X) (g : Mem) (q : Int32) (k : Int32) (hI : Inv g) : Ctr l X yX8_kept cX8_kept 3 (some .int) (rmD 2) [.ref (aL X 0), .int q, .int k] g (pI (fun r g2 => g2 = g ∧ True)) := by
  refine Ctr.of (lv := [(0, .ref (aL X 0)), (1, .int q), (2, .int k)]) hX (by decide) rfl (Nat.le_of_ble_eq_true rfl) ?_
  intro p e s m below meth c C
  refine m_iload_n C dX8_kept_0 1 rfl ?_
  refine m_invS C cal_X8_isKeptRoot (c_X8_isKeptRoot l hX g q ) lk_X8_191 st_X8_isKeptRoot (by decide) rfl rfl (Nat.le_of_ble_eq_true rfl) dX8_kept_1 ⟨Nat.le_refl _, Nat.le_refl _⟩ (rI fun r1 g2 q3 => ?_)
  obtain ⟨eg2, ⟨rfl, h4⟩ | ⟨rfl, h4⟩⟩ := q3
  · skip
    subst g2
    refine m_if_eq C 14 dX8_kept_4 (by decide) (fun h => absurd h (by decide)) (fun _ => ?_)
    refine m_iload_n C dX8_kept_7 2 rfl ?_
    refine m_invS C cal_X8_isHashByte (c_X8_isHashByte l hX g k ) lk_X8_157 st_X8_isHashByte (by decide) rfl rfl (Nat.le_of_ble_eq_true rfl) dX8_kept_8 ⟨Nat.le_refl _, Nat.le_refl _⟩ (rI fun r5 g6 q7 => ?_)
    obtain ⟨eg6, ⟨rfl, h8⟩ | ⟨rfl, h8⟩⟩ := q7
    · skip
      subst g6
      refine m_if_ne C 17 dX8_kept_11 (by decide) (fun _ => ?_) (fun h => absurd h (by decide))
      refine m_aload_n C dX8_kept_17 0 rfl ?_
      refine m_getr (rf := "") C 5 rfl gd8 (by decide) sh_0 rfl dX8_kept_18 lk_X8_55 ?_
      refine m_iload_n C dX8_kept_21 1 rfl ?_
      refine m_iload_n C dX8_kept_22 2 rfl ?_
      refine m_invVN C cal_X2_byteAt sh_25 rfl (c_X2_byteAt_25 l hX g q k hI (by omega) (by omega)) lk_X8_167 im_X2_byteAt se_X2_byteAt (by decide) rfl rfl (Nat.le_of_ble_eq_true rfl) dX8_kept_23 ⟨Nat.le_refl _, Nat.le_refl _⟩ (rI fun r9 g10 q11 => ?_)
      obtain ⟨eg10, p12⟩ := q11
      subst g10
      exact m_iret C dX8_kept_26 ⟨_, rfl, rfl, trivial⟩
    · skip
      subst g6
      refine m_if_ne C 17 dX8_kept_11 (by decide) (fun h => absurd (by decide) h) (fun _ => ?_)
      refine m_bipush C (-2 : Int32) dX8_kept_14 (by decide) ?_
      exact m_iret C dX8_kept_16 ⟨_, rfl, rfl, trivial⟩
  · skip
    subst g2
    refine m_if_eq C 14 dX8_kept_4 (by decide) (fun _ => ?_) (fun h => absurd (by decide) h)
    refine m_bipush C (-2 : Int32) dX8_kept_14 (by decide) ?_
    exact m_iret C dX8_kept_16 ⟨_, rfl, rfl, trivial⟩
set_option maxRecDepth 20000 in
set_option maxHeartbeats 4000000 in
theorem c_X8_spoilKept (l : Launch) {X : XT} (hX : Lok X) (g : Mem) (q : Int32) (k : Int32) (v : Int32) (hI : Inv g) : Ctr l X yX8_spoilKept cX8_spoilKept 4 (some .int) (rmD 2) [.ref (aL X 0), .int q, .int k, .int v] g (pI (fun r g2 => Inv g2 ∧ Kp [26] g g2)) := by
  refine Ctr.of (lv := [(0, .ref (aL X 0)), (1, .int q), (2, .int k), (3, .int v)]) hX (by decide) rfl (Nat.le_of_ble_eq_true rfl) ?_
  intro p e s m below meth c C
  refine m_iload_n C dX8_spoilKept_0 1 rfl ?_
  refine m_invS C cal_X8_isKeptRoot (c_X8_isKeptRoot l hX g q ) lk_X8_191 st_X8_isKeptRoot (by decide) rfl rfl (Nat.le_of_ble_eq_true rfl) dX8_spoilKept_1 ⟨Nat.le_refl _, Nat.le_refl _⟩ (rI fun r1 g2 q3 => ?_)
  obtain ⟨eg2, ⟨rfl, h4⟩ | ⟨rfl, h4⟩⟩ := q3
  · skip
    subst g2
    refine m_if_eq C 21 dX8_spoilKept_4 (by decide) (fun h => absurd h (by decide)) (fun _ => ?_)
    refine m_iload_n C dX8_spoilKept_7 2 rfl ?_
    refine m_invS C cal_X8_isHashByte (c_X8_isHashByte l hX g k ) lk_X8_157 st_X8_isHashByte (by decide) rfl rfl (Nat.le_of_ble_eq_true rfl) dX8_spoilKept_8 ⟨Nat.le_refl _, Nat.le_refl _⟩ (rI fun r5 g6 q7 => ?_)
    obtain ⟨eg6, ⟨rfl, h8⟩ | ⟨rfl, h8⟩⟩ := q7
    · skip
      subst g6
      refine m_if_eq C 21 dX8_spoilKept_11 (by decide) (fun h => absurd h (by decide)) (fun _ => ?_)
      refine m_iload_n C dX8_spoilKept_14 3 rfl ?_
      refine m_invS C cal_X8_isMask (c_X8_isMask l hX g v ) lk_X8_182 st_X8_isMask (by decide) rfl rfl (Nat.le_of_ble_eq_true rfl) dX8_spoilKept_15 ⟨Nat.le_refl _, Nat.le_refl _⟩ (rI fun r9 g10 q11 => ?_)
      obtain ⟨eg10, ⟨rfl, h12⟩ | ⟨rfl, h12⟩⟩ := q11
      · skip
        subst g10
        refine m_if_ne C 24 dX8_spoilKept_18 (by decide) (fun _ => ?_) (fun h => absurd h (by decide))
        refine m_aload_n C dX8_spoilKept_24 0 rfl ?_
        refine m_getr (rf := "") C 5 rfl gd8 (by decide) sh_0 rfl dX8_spoilKept_25 lk_X8_55 ?_
        refine m_iload_n C dX8_spoilKept_28 1 rfl ?_
        refine m_iload_n C dX8_spoilKept_29 2 rfl ?_
        refine m_iload_n C dX8_spoilKept_30 3 rfl ?_
        refine m_invVN C cal_X2_spoilByte sh_25 rfl (c_X2_spoilByte_25 l hX g q k v hI (by omega) (by omega)) lk_X8_185 im_X2_spoilByte se_X2_spoilByte (by decide) rfl rfl (Nat.le_of_ble_eq_true rfl) dX8_spoilKept_31 ⟨Nat.le_refl _, Nat.le_refl _⟩ (rI fun r13 g14 q15 => ?_)
        obtain ⟨hI16, hK17⟩ := q15
        have hK18 : Kp [26] g g14 := (Kp.rf).tr hK17 (by decide)
        exact m_iret C dX8_spoilKept_34 ⟨_, rfl, hI16, hK18⟩
      · skip
        subst g10
        refine m_if_ne C 24 dX8_spoilKept_18 (by decide) (fun h => absurd (by decide) h) (fun _ => ?_)
        refine m_bipush C (-2 : Int32) dX8_spoilKept_21 (by decide) ?_
        exact m_iret C dX8_spoilKept_23 ⟨_, rfl, hI, Kp.rf⟩
    · skip
      subst g6
      refine m_if_eq C 21 dX8_spoilKept_11 (by decide) (fun _ => ?_) (fun h => absurd (by decide) h)
      refine m_bipush C (-2 : Int32) dX8_spoilKept_21 (by decide) ?_
      exact m_iret C dX8_spoilKept_23 ⟨_, rfl, hI, Kp.rf⟩
  · skip
    subst g2
    refine m_if_eq C 21 dX8_spoilKept_4 (by decide) (fun _ => ?_) (fun h => absurd (by decide) h)
    refine m_bipush C (-2 : Int32) dX8_spoilKept_21 (by decide) ?_
    exact m_iret C dX8_spoilKept_23 ⟨_, rfl, hI, Kp.rf⟩
set_option maxRecDepth 20000 in
set_option maxHeartbeats 4000000 in
theorem c_X8_judgePath (l : Launch) {X : XT} (hX : Lok X) (g : Mem) (i0 : Int32) (n0 : Int32) (e0 : Int32) (q : Int32) (hI : Inv g) : Ctr l X yX8_judgePath cX8_judgePath 5 (some .int) (rmD 6) [.ref (aL X 0), .int i0, .int n0, .int e0, .int q] g (pI (fun r g2 => Inv g2 ∧ Kp [9, 10, 11, 12, 27, 29, 33] g g2)) := by
  refine Ctr.of (lv := [(0, .ref (aL X 0)), (1, .int i0), (2, .int n0), (3, .int e0), (4, .int q)]) hX (by decide) rfl (Nat.le_of_ble_eq_true rfl) ?_
  intro p e s m below meth c C
  refine m_iload_n C dX8_judgePath_0 1 rfl ?_
  refine m_iconst C (0 : Int32) dX8_judgePath_1 (by decide) ?_
  refine m_bipush C (60 : Int32) dX8_judgePath_2 (by decide) ?_
  have t1 : (0 : Int32).toInt = 0 := by decide
  have t2 : (60 : Int32).toInt = 60 := by decide
  refine m_invS C cal_X8_within (c_X8_within l hX g i0 (0 : Int32) (60 : Int32) ) lk_X8_87 st_X8_within (by decide) rfl rfl (Nat.le_of_ble_eq_true rfl) dX8_judgePath_4 ⟨Nat.le_refl _, Nat.le_refl _⟩ (rI fun r3 g4 q5 => ?_)
  obtain ⟨eg4, ⟨rfl, h6⟩ | ⟨rfl, h6⟩⟩ := q5
  · skip
    subst g4
    refine m_if_eq C 36 dX8_judgePath_7 (by decide) (fun h => absurd h (by decide)) (fun _ => ?_)
    refine m_iload_n C dX8_judgePath_10 2 rfl ?_
    refine m_iconst C (0 : Int32) dX8_judgePath_11 (by decide) ?_
    refine m_bipush C (60 : Int32) dX8_judgePath_12 (by decide) ?_
    have t7 : (0 : Int32).toInt = 0 := by decide
    have t8 : (60 : Int32).toInt = 60 := by decide
    refine m_invS C cal_X8_within (c_X8_within l hX g n0 (0 : Int32) (60 : Int32) ) lk_X8_87 st_X8_within (by decide) rfl rfl (Nat.le_of_ble_eq_true rfl) dX8_judgePath_14 ⟨Nat.le_refl _, Nat.le_refl _⟩ (rI fun r9 g10 q11 => ?_)
    obtain ⟨eg10, ⟨rfl, h12⟩ | ⟨rfl, h12⟩⟩ := q11
    · skip
      subst g10
      refine m_if_eq C 36 dX8_judgePath_17 (by decide) (fun h => absurd h (by decide)) (fun _ => ?_)
      refine m_aload_n C dX8_judgePath_20 0 rfl ?_
      refine m_iload_n C dX8_judgePath_21 3 rfl ?_
      refine m_invV C cal_X8_isEntry sh_0 rfl (c_X8_isEntry l hX g e0 hI) lk_X8_148 im_X8_isEntry se_X8_isEntry (by decide) rfl rfl (Nat.le_of_ble_eq_true rfl) dX8_judgePath_22 ⟨Nat.le_refl _, Nat.le_refl _⟩ (rI fun r13 g14 q15 => ?_)
      obtain ⟨eg14, ⟨rfl, h16⟩ | ⟨rfl, h16⟩⟩ := q15
      · skip
        subst g14
        have r17 := iv_size hI
        refine m_if_eq C 36 dX8_judgePath_25 (by decide) (fun h => absurd h (by decide)) (fun _ => ?_)
        refine m_iload C dX8_judgePath_28 4 rfl ?_
        refine m_invS C cal_X8_isKeptRoot (c_X8_isKeptRoot l hX g q ) lk_X8_191 st_X8_isKeptRoot (by decide) rfl rfl (Nat.le_of_ble_eq_true rfl) dX8_judgePath_30 ⟨Nat.le_refl _, Nat.le_refl _⟩ (rI fun r18 g19 q20 => ?_)
        obtain ⟨eg19, ⟨rfl, h21⟩ | ⟨rfl, h21⟩⟩ := q20
        · skip
          subst g19
          refine m_if_ne C 39 dX8_judgePath_33 (by decide) (fun _ => ?_) (fun h => absurd h (by decide))
          refine m_aload_n C dX8_judgePath_39 0 rfl ?_
          refine m_getr (rf := "") C 2 rfl gd8 (by decide) sh_0 rfl dX8_judgePath_40 lk_X8_28 ?_
          refine m_iload_n C dX8_judgePath_43 3 rfl ?_
          refine m_iload_n C dX8_judgePath_44 3 rfl ?_
          refine m_iconst C (1 : Int32) dX8_judgePath_45 (by decide) ?_
          refine m_iadd C dX8_judgePath_46 ?_
          refine m_aload_n C dX8_judgePath_47 0 rfl ?_
          refine m_getr (rf := "") C 8 rfl gd8 (by decide) sh_0 rfl dX8_judgePath_48 lk_X8_75 ?_
          refine m_iconst C (0 : Int32) dX8_judgePath_51 (by decide) ?_
          have t22 : (e0 + (1 : Int32)).toInt = e0.toInt + (1 : Int) := i_add rfl (by decide) (by omega) (by omega)
          have t23 : (0 : Int32).toInt = 0 := by decide
          refine m_invVN C cal_X7_rootOf sh_13 rfl (c_X7_rootOf_32 l hX g e0 (e0 + (1 : Int32)) (0 : Int32) hI (by omega) (by omega) (by omega)) lk_X8_163 im_X7_rootOf se_X7_rootOf (by decide) rfl rfl (Nat.le_of_ble_eq_true rfl) dX8_judgePath_52 ⟨Nat.le_refl _, Nat.le_refl _⟩ (rV fun g25 q26 => ?_)
          obtain ⟨hI27, hK28⟩ := q26
          have hK29 : Kp [9, 10, 11, 12, 27, 29, 33] g g25 := (Kp.rf).tr hK28 (by decide)
          refine m_aload_n C dX8_judgePath_55 0 rfl ?_
          refine m_getr (rf := "") C 6 rfl gd8 (by decide) sh_0 rfl dX8_judgePath_56 lk_X8_64 ?_
          refine m_iload_n C dX8_judgePath_59 1 rfl ?_
          refine m_iload_n C dX8_judgePath_60 2 rfl ?_
          refine m_aload_n C dX8_judgePath_61 0 rfl ?_
          refine m_getr (rf := "") C 8 rfl gd8 (by decide) sh_0 rfl dX8_judgePath_62 lk_X8_75 ?_
          refine m_iload C dX8_judgePath_65 4 rfl ?_
          refine m_invVN C cal_X3_pathIsRight sh_27 rfl (c_X3_pathIsRight_32 l hX g25 i0 n0 q hI27 (by omega)) lk_X8_194 im_X3_pathIsRight se_X3_pathIsRight (by decide) rfl rfl (Nat.le_of_ble_eq_true rfl) dX8_judgePath_67 ⟨Nat.le_refl _, Nat.le_refl _⟩ (rI fun r30 g31 q32 => ?_)
          obtain ⟨hI33, hK34, p35⟩ := q32
          have hK36 : Kp [9, 10, 11, 12, 27, 29, 33] g g31 := (hK29).tr hK34 (by decide)
          refine m_if_eq C 77 dX8_judgePath_70 (by decide) (fun h37 => ?_) (fun h37 => ?_)
          · skip
            have th37 := i_eq h37
            rw [show (0 : Int32).toInt = 0 by decide] at th37
            refine m_iconst C (0 : Int32) dX8_judgePath_77 (by decide) ?_
            exact m_iret C dX8_judgePath_78 ⟨_, rfl, hI33, hK36⟩
          · skip
            have th37 := i_ne h37
            rw [show (0 : Int32).toInt = 0 by decide] at th37
            refine m_iconst C (1 : Int32) dX8_judgePath_73 (by decide) ?_
            refine m_goto C 78 dX8_judgePath_74 (by decide) ?_
            exact m_iret C dX8_judgePath_78 ⟨_, rfl, hI33, hK36⟩
        · skip
          subst g19
          refine m_if_ne C 39 dX8_judgePath_33 (by decide) (fun h => absurd (by decide) h) (fun _ => ?_)
          refine m_bipush C (-2 : Int32) dX8_judgePath_36 (by decide) ?_
          exact m_iret C dX8_judgePath_38 ⟨_, rfl, hI, Kp.rf⟩
      · skip
        subst g14
        have r38 := iv_size hI
        refine m_if_eq C 36 dX8_judgePath_25 (by decide) (fun _ => ?_) (fun h => absurd (by decide) h)
        refine m_bipush C (-2 : Int32) dX8_judgePath_36 (by decide) ?_
        exact m_iret C dX8_judgePath_38 ⟨_, rfl, hI, Kp.rf⟩
    · skip
      subst g10
      refine m_if_eq C 36 dX8_judgePath_17 (by decide) (fun _ => ?_) (fun h => absurd (by decide) h)
      refine m_bipush C (-2 : Int32) dX8_judgePath_36 (by decide) ?_
      exact m_iret C dX8_judgePath_38 ⟨_, rfl, hI, Kp.rf⟩
  · skip
    subst g4
    refine m_if_eq C 36 dX8_judgePath_7 (by decide) (fun _ => ?_) (fun h => absurd (by decide) h)
    refine m_bipush C (-2 : Int32) dX8_judgePath_36 (by decide) ?_
    exact m_iret C dX8_judgePath_38 ⟨_, rfl, hI, Kp.rf⟩
set_option maxRecDepth 20000 in
set_option maxHeartbeats 4000000 in
theorem c_X8_judgeSteps (l : Launch) {X : XT} (hX : Lok X) (g : Mem) (m0 : Int32) (n0 : Int32) (o : Int32) (q : Int32) (hI : Inv g) : Ctr l X yX8_judgeSteps cX8_judgeSteps 5 (some .int) (rmD 6) [.ref (aL X 0), .int m0, .int n0, .int o, .int q] g (pI (fun r g2 => Inv g2 ∧ Kp [9, 10, 11, 12, 27, 29] g g2)) := by
  refine Ctr.of (lv := [(0, .ref (aL X 0)), (1, .int m0), (2, .int n0), (3, .int o), (4, .int q)]) hX (by decide) rfl (Nat.le_of_ble_eq_true rfl) ?_
  intro p e s m below meth c C
  refine m_iload_n C dX8_judgeSteps_0 1 rfl ?_
  refine m_iconst C (0 : Int32) dX8_judgeSteps_1 (by decide) ?_
  refine m_bipush C (60 : Int32) dX8_judgeSteps_2 (by decide) ?_
  have t1 : (0 : Int32).toInt = 0 := by decide
  have t2 : (60 : Int32).toInt = 60 := by decide
  refine m_invS C cal_X8_within (c_X8_within l hX g m0 (0 : Int32) (60 : Int32) ) lk_X8_87 st_X8_within (by decide) rfl rfl (Nat.le_of_ble_eq_true rfl) dX8_judgeSteps_4 ⟨Nat.le_refl _, Nat.le_refl _⟩ (rI fun r3 g4 q5 => ?_)
  obtain ⟨eg4, ⟨rfl, h6⟩ | ⟨rfl, h6⟩⟩ := q5
  · skip
    subst g4
    refine m_if_eq C 35 dX8_judgeSteps_7 (by decide) (fun h => absurd h (by decide)) (fun _ => ?_)
    refine m_iload_n C dX8_judgeSteps_10 2 rfl ?_
    refine m_iconst C (0 : Int32) dX8_judgeSteps_11 (by decide) ?_
    refine m_bipush C (60 : Int32) dX8_judgeSteps_12 (by decide) ?_
    have t7 : (0 : Int32).toInt = 0 := by decide
    have t8 : (60 : Int32).toInt = 60 := by decide
    refine m_invS C cal_X8_within (c_X8_within l hX g n0 (0 : Int32) (60 : Int32) ) lk_X8_87 st_X8_within (by decide) rfl rfl (Nat.le_of_ble_eq_true rfl) dX8_judgeSteps_14 ⟨Nat.le_refl _, Nat.le_refl _⟩ (rI fun r9 g10 q11 => ?_)
    obtain ⟨eg10, ⟨rfl, h12⟩ | ⟨rfl, h12⟩⟩ := q11
    · skip
      subst g10
      refine m_if_eq C 35 dX8_judgeSteps_17 (by decide) (fun h => absurd h (by decide)) (fun _ => ?_)
      refine m_iload_n C dX8_judgeSteps_20 3 rfl ?_
      refine m_invS C cal_X8_isKeptRoot (c_X8_isKeptRoot l hX g o ) lk_X8_191 st_X8_isKeptRoot (by decide) rfl rfl (Nat.le_of_ble_eq_true rfl) dX8_judgeSteps_21 ⟨Nat.le_refl _, Nat.le_refl _⟩ (rI fun r13 g14 q15 => ?_)
      obtain ⟨eg14, ⟨rfl, h16⟩ | ⟨rfl, h16⟩⟩ := q15
      · skip
        subst g14
        refine m_if_eq C 35 dX8_judgeSteps_24 (by decide) (fun h => absurd h (by decide)) (fun _ => ?_)
        refine m_iload C dX8_judgeSteps_27 4 rfl ?_
        refine m_invS C cal_X8_isKeptRoot (c_X8_isKeptRoot l hX g q ) lk_X8_191 st_X8_isKeptRoot (by decide) rfl rfl (Nat.le_of_ble_eq_true rfl) dX8_judgeSteps_29 ⟨Nat.le_refl _, Nat.le_refl _⟩ (rI fun r17 g18 q19 => ?_)
        obtain ⟨eg18, ⟨rfl, h20⟩ | ⟨rfl, h20⟩⟩ := q19
        · skip
          subst g18
          refine m_if_ne C 38 dX8_judgeSteps_32 (by decide) (fun _ => ?_) (fun h => absurd h (by decide))
          refine m_aload_n C dX8_judgeSteps_38 0 rfl ?_
          refine m_getr (rf := "") C 6 rfl gd8 (by decide) sh_0 rfl dX8_judgeSteps_39 lk_X8_64 ?_
          refine m_iload_n C dX8_judgeSteps_42 1 rfl ?_
          refine m_iload_n C dX8_judgeSteps_43 2 rfl ?_
          refine m_iload_n C dX8_judgeSteps_44 3 rfl ?_
          refine m_iload C dX8_judgeSteps_45 4 rfl ?_
          refine m_invVN C cal_X3_stepsAreRight sh_27 rfl (c_X3_stepsAreRight l hX g m0 n0 o q hI (by omega) (by omega)) lk_X8_198 im_X3_stepsAreRight se_X3_stepsAreRight (by decide) rfl rfl (Nat.le_of_ble_eq_true rfl) dX8_judgeSteps_47 ⟨Nat.le_refl _, Nat.le_refl _⟩ (rI fun r21 g22 q23 => ?_)
          obtain ⟨hI24, hK25, p26⟩ := q23
          have hK27 : Kp [9, 10, 11, 12, 27, 29] g g22 := (Kp.rf).tr hK25 (by decide)
          refine m_if_eq C 57 dX8_judgeSteps_50 (by decide) (fun h28 => ?_) (fun h28 => ?_)
          · skip
            have th28 := i_eq h28
            rw [show (0 : Int32).toInt = 0 by decide] at th28
            refine m_iconst C (0 : Int32) dX8_judgeSteps_57 (by decide) ?_
            exact m_iret C dX8_judgeSteps_58 ⟨_, rfl, hI24, hK27⟩
          · skip
            have th28 := i_ne h28
            rw [show (0 : Int32).toInt = 0 by decide] at th28
            refine m_iconst C (1 : Int32) dX8_judgeSteps_53 (by decide) ?_
            refine m_goto C 58 dX8_judgeSteps_54 (by decide) ?_
            exact m_iret C dX8_judgeSteps_58 ⟨_, rfl, hI24, hK27⟩
        · skip
          subst g18
          refine m_if_ne C 38 dX8_judgeSteps_32 (by decide) (fun h => absurd (by decide) h) (fun _ => ?_)
          refine m_bipush C (-2 : Int32) dX8_judgeSteps_35 (by decide) ?_
          exact m_iret C dX8_judgeSteps_37 ⟨_, rfl, hI, Kp.rf⟩
      · skip
        subst g14
        refine m_if_eq C 35 dX8_judgeSteps_24 (by decide) (fun _ => ?_) (fun h => absurd (by decide) h)
        refine m_bipush C (-2 : Int32) dX8_judgeSteps_35 (by decide) ?_
        exact m_iret C dX8_judgeSteps_37 ⟨_, rfl, hI, Kp.rf⟩
    · skip
      subst g10
      refine m_if_eq C 35 dX8_judgeSteps_17 (by decide) (fun _ => ?_) (fun h => absurd (by decide) h)
      refine m_bipush C (-2 : Int32) dX8_judgeSteps_35 (by decide) ?_
      exact m_iret C dX8_judgeSteps_37 ⟨_, rfl, hI, Kp.rf⟩
  · skip
    subst g4
    refine m_if_eq C 35 dX8_judgeSteps_7 (by decide) (fun _ => ?_) (fun h => absurd (by decide) h)
    refine m_bipush C (-2 : Int32) dX8_judgeSteps_35 (by decide) ?_
    exact m_iret C dX8_judgeSteps_37 ⟨_, rfl, hI, Kp.rf⟩
set_option maxRecDepth 20000 in
set_option maxHeartbeats 4000000 in
theorem c_X8_sync (l : Launch) {X : XT} (hX : Lok X) (g : Mem)  (hI : Inv g) : Ctr l X yX8_sync cX8_sync 1 (some .int) (rmD 0) [.ref (aL X 0)] g (pI (fun r g2 => Inv g2 ∧ Kp [30] g g2)) := by
  refine Ctr.of (lv := [(0, .ref (aL X 0))]) hX (by decide) rfl (Nat.le_of_ble_eq_true rfl) ?_
  intro p e s m below meth c C
  refine m_aload_n C dX8_sync_0 0 rfl ?_
  refine m_geti (rf := "") C 10 rfl gd8 (by decide) sh_0 rfl dX8_sync_1 lk_X8_82 ?_
  refine m_if_eq C 10 dX8_sync_4 (by decide) (fun h1 => ?_) (fun h1 => ?_)
  · skip
    have th1 := i_eq h1
    rw [show (0 : Int32).toInt = 0 by decide] at th1
    refine m_aload_n C dX8_sync_10 0 rfl ?_
    refine m_getr (rf := "") C 7 rfl gd8 (by decide) sh_0 rfl dX8_sync_11 lk_X8_71 ?_
    refine m_aload_n C dX8_sync_14 0 rfl ?_
    refine m_getr (rf := "") C 7 rfl gd8 (by decide) sh_0 rfl dX8_sync_15 lk_X8_71 ?_
    refine m_getiN (rf := "") C 1 rfl gd0 (by decide) sh_30 rfl dX8_sync_18 lk_X8_202 ?_
    have r2 := iv_wrt hI
    refine m_putN (rf := "") C 2 rfl gd0 (by decide) tyX0 tyX0_ok nmX0 rfl (tyX0_ok 2 (by decide)) rfl rfl sh_30 rfl dX8_sync_21 lk_X8_205 ?_
    refine m_mem (fun g3 eg3 => ?_)
    have hI4 : Inv g3 := by rw [eg3]; exact hI.up (ok_safe (by omega) (by omega))
    have hK5 : Kp [30] g g3 := by rw [eg3]; exact Kp.up Kp.rf (by decide) (Or.inl (by decide)) (Or.inl (by decide))
    have ev6 : g3 0 10 = g 0 10 := by rw [eg3]; exact up2_nei (Or.inl (by decide))
    have tev6 := congrArg Int32.toInt ev6
    have ev7 : g3 30 1 = g 30 1 := by rw [eg3]; exact up2_nei (Or.inr (by decide))
    have tev7 := congrArg Int32.toInt ev7
    refine m_aload_n C dX8_sync_24 0 rfl ?_
    refine m_getr (rf := "") C 7 rfl gd8 (by decide) sh_0 rfl dX8_sync_25 lk_X8_71 ?_
    refine m_getiN (rf := "") C 2 rfl gd0 (by decide) sh_30 rfl dX8_sync_28 lk_X8_205 ?_
    have r8 := iv_safe hI4
    exact m_iret C dX8_sync_31 ⟨_, rfl, hI4, hK5⟩
  · skip
    have th1 := i_ne h1
    rw [show (0 : Int32).toInt = 0 by decide] at th1
    refine m_bipush C (-3 : Int32) dX8_sync_7 (by decide) ?_
    exact m_iret C dX8_sync_9 ⟨_, rfl, hI, Kp.rf⟩
set_option maxRecDepth 20000 in
set_option maxHeartbeats 4000000 in
theorem c_X8_cut (l : Launch) {X : XT} (hX : Lok X) (g : Mem) (k : Int32) (hI : Inv g) : Ctr l X yX8_cut cX8_cut 2 (some .int) (rmD 2) [.ref (aL X 0), .int k] g (pI (fun r g2 => Inv g2 ∧ Kp [0, 16, 30, 31] g g2)) := by
  refine Ctr.of (lv := [(0, .ref (aL X 0)), (1, .int k)]) hX (by decide) rfl (Nat.le_of_ble_eq_true rfl) ?_
  intro p e s m below meth c C
  refine m_iload_n C dX8_cut_0 1 rfl ?_
  refine m_iconst C (0 : Int32) dX8_cut_1 (by decide) ?_
  refine m_sipush C (1020 : Int32) dX8_cut_2 (by decide) ?_
  have t1 : (0 : Int32).toInt = 0 := by decide
  have t2 : (1020 : Int32).toInt = 1020 := by decide
  refine m_invS C cal_X8_within (c_X8_within l hX g k (0 : Int32) (1020 : Int32) ) lk_X8_87 st_X8_within (by decide) rfl rfl (Nat.le_of_ble_eq_true rfl) dX8_cut_5 ⟨Nat.le_refl _, Nat.le_refl _⟩ (rI fun r3 g4 q5 => ?_)
  obtain ⟨eg4, ⟨rfl, h6⟩ | ⟨rfl, h6⟩⟩ := q5
  · skip
    subst g4
    refine m_if_ne C 14 dX8_cut_8 (by decide) (fun _ => ?_) (fun h => absurd h (by decide))
    refine m_aload_n C dX8_cut_14 0 rfl ?_
    refine m_geti (rf := "") C 10 rfl gd8 (by decide) sh_0 rfl dX8_cut_15 lk_X8_82 ?_
    refine m_if_eq C 24 dX8_cut_18 (by decide) (fun h7 => ?_) (fun h7 => ?_)
    · skip
      have th7 := i_eq h7
      rw [show (0 : Int32).toInt = 0 by decide] at th7
      refine m_aload_n C dX8_cut_24 0 rfl ?_
      refine m_getr (rf := "") C 7 rfl gd8 (by decide) sh_0 rfl dX8_cut_25 lk_X8_71 ?_
      refine m_iload_n C dX8_cut_28 1 rfl ?_
      refine m_invVN C cal_X0_losePower sh_30 rfl (c_X0_losePower l hX g k hI (by omega)) lk_X8_208 im_X0_losePower se_X0_losePower (by decide) rfl rfl (Nat.le_of_ble_eq_true rfl) dX8_cut_29 ⟨Nat.le_refl _, Nat.le_refl _⟩ (rV fun g9 q10 => ?_)
      obtain ⟨hI11, hK12⟩ := q10
      have ev13 : g9 0 10 = g 0 10 := congrFun (hK12.1 0 (by decide)) 10
      have tev13 := congrArg Int32.toInt ev13
      have hK14 : Kp [0, 16, 30, 31] g g9 := (Kp.rf).tr hK12 (by decide)
      refine m_aload_n C dX8_cut_32 0 rfl ?_
      refine m_getr (rf := "") C 3 rfl gd8 (by decide) sh_0 rfl dX8_cut_33 lk_X8_37 ?_
      refine m_iconst C (0 : Int32) dX8_cut_36 (by decide) ?_
      refine m_putN (rf := "") C 4 rfl gd4 (by decide) tyX4 tyX4_ok nmX4 rfl (tyX4_ok 4 (by decide)) rfl rfl sh_16 rfl dX8_cut_37 lk_X8_211 ?_
      refine m_mem (fun g15 eg15 => ?_)
      have hI16 : Inv g15 := by rw [eg15]; exact hI11.up (ok_size (by decide) (by decide))
      have hK17 : Kp [0, 16, 30, 31] g g15 := by rw [eg15]; exact Kp.up hK14 (by decide) (Or.inl (by decide)) (Or.inl (by decide))
      have ev18 : g15 0 10 = g9 0 10 := by rw [eg15]; exact up2_nei (Or.inl (by decide))
      have tev18 := congrArg Int32.toInt ev18
      refine m_aload_n C dX8_cut_40 0 rfl ?_
      refine m_iconst C (1 : Int32) dX8_cut_41 (by decide) ?_
      refine m_put (rf := "") C 10 rfl gd8 (by decide) tyX8 tyX8_ok nmX8 rfl (tyX8_ok 10 (by decide)) (by decide) (by decide) sh_0 rfl dX8_cut_42 lk_X8_82 ?_
      refine m_mem (fun g19 eg19 => ?_)
      have hI20 : Inv g19 := by rw [eg19]; exact hI16.up (ok_shut (Or.inr rfl))
      have hK21 : Kp [0, 16, 30, 31] g g19 := by rw [eg19]; exact Kp.up hK17 (by decide) (Or.inl (by decide)) (Or.inr (by decide))
      refine m_aload_n C dX8_cut_45 0 rfl ?_
      refine m_getr (rf := "") C 7 rfl gd8 (by decide) sh_0 rfl dX8_cut_46 lk_X8_71 ?_
      refine m_getiN (rf := "") C 1 rfl gd0 (by decide) sh_30 rfl dX8_cut_49 lk_X8_202 ?_
      have r22 := iv_wrt hI20
      exact m_iret C dX8_cut_52 ⟨_, rfl, hI20, hK21⟩
    · skip
      have th7 := i_ne h7
      rw [show (0 : Int32).toInt = 0 by decide] at th7
      refine m_bipush C (-3 : Int32) dX8_cut_21 (by decide) ?_
      exact m_iret C dX8_cut_23 ⟨_, rfl, hI, Kp.rf⟩
  · skip
    subst g4
    refine m_if_ne C 14 dX8_cut_8 (by decide) (fun h => absurd (by decide) h) (fun _ => ?_)
    refine m_bipush C (-2 : Int32) dX8_cut_11 (by decide) ?_
    exact m_iret C dX8_cut_13 ⟨_, rfl, hI, Kp.rf⟩
set_option maxRecDepth 20000 in
set_option maxHeartbeats 4000000 in
theorem c_X8_open (l : Launch) {X : XT} (hX : Lok X) (g : Mem)  (hI : Inv g) : Ctr l X yX8_open cX8_open 2 (some .int) (rmD 6) [.ref (aL X 0)] g (pI (fun r g2 => Inv g2 ∧ Kp [0, 9, 10, 11, 12, 15, 16, 17, 19, 30, 31] g g2)) := by
  refine Ctr.of (lv := [(0, .ref (aL X 0))]) hX (by decide) rfl (Nat.le_of_ble_eq_true rfl) ?_
  intro p e s m below meth c C
  refine m_aload_n C dX8_open_0 0 rfl ?_
  refine m_geti (rf := "") C 10 rfl gd8 (by decide) sh_0 rfl dX8_open_1 lk_X8_82 ?_
  refine m_if_ne C 10 dX8_open_4 (by decide) (fun h1 => ?_) (fun h1 => ?_)
  · skip
    have th1 := i_ne h1
    rw [show (0 : Int32).toInt = 0 by decide] at th1
    refine m_iconst C (0 : Int32) dX8_open_10 (by decide) ?_
    refine m_istore_n C [(1, .int (0 : Int32)), (0, .ref (aL X 0))] dX8_open_11 (by decide) rfl ?_
    have L12 : ∀ (n12 : Nat) (x3 : Int32) (g4 : Mem), (61 - x3.toInt).toNat < n12 → Inv g4 → Kp [0, 9, 10, 11, 12, 15, 16, 17, 19, 30, 31] g g4 → 0 ≤ x3.toInt ∧ x3.toInt ≤ 60 → Wm X p l e (rmD 6) s m ([.ref (aL X 0)] : List Value).toArray below meth c 2 0 0 (MQ below (cQ X (pI (fun r g2 => Inv g2 ∧ Kp [0, 9, 10, 11, 12, 15, 16, 17, 19, 30, 31] g g2))) ([.ref (aL X 0)] : List Value).toArray s 0 0 (Ab X)) g4 12 [(0, .ref (aL X 0)), (1, .int x3)] [] := by
      intro n12
      induction n12 with
      | zero => intro x3 g4 hm; exact absurd hm (Nat.not_lt_zero _)
      | succ n12 ih12 =>
        intro x3 g4 hm12 hI5 hK6 i7
        try obtain ⟨i7a, i7b⟩ := i7
        refine m_iload_n C dX8_open_12 1 rfl ?_
        refine m_bipush C (60 : Int32) dX8_open_13 (by decide) ?_
        refine m_icmp_ge C 39 dX8_open_15 (by decide) (fun h8 => ?_) (fun h8 => ?_)
        · skip
          have th8 := i_le h8
          rw [show (60 : Int32).toInt = 60 by decide] at th8
          refine m_aload_n C dX8_open_39 0 rfl ?_
          refine m_getr (rf := "") C 7 rfl gd8 (by decide) sh_0 rfl dX8_open_40 lk_X8_71 ?_
          refine m_aload_n C dX8_open_43 0 rfl ?_
          refine m_getr (rf := "") C 3 rfl gd8 (by decide) sh_0 rfl dX8_open_44 lk_X8_37 ?_
          refine m_getiN (rf := "") C 4 rfl gd4 (by decide) sh_16 rfl dX8_open_47 lk_X8_211 ?_
          have r9 := iv_size hI5
          refine m_invVN C cal_X0_settle sh_30 rfl (c_X0_settle l hX g4 (g4 16 4) hI5 (by omega)) lk_X8_218 im_X0_settle se_X0_settle (by decide) rfl rfl (Nat.le_of_ble_eq_true rfl) dX8_open_50 ⟨Nat.le_refl _, Nat.le_refl _⟩ (rV fun g11 q12 => ?_)
          obtain ⟨hI13, hK14⟩ := q12
          have ev15 : g11 16 4 = g4 16 4 := congrFun (hK14.1 16 (by decide)) 4
          have tev15 := congrArg Int32.toInt ev15
          have hK16 : Kp [0, 9, 10, 11, 12, 15, 16, 17, 19, 30, 31] g g11 := (hK6).tr hK14 (by decide)
          refine m_aload_n C dX8_open_53 0 rfl ?_
          refine m_iconst C (0 : Int32) dX8_open_54 (by decide) ?_
          refine m_put (rf := "") C 10 rfl gd8 (by decide) tyX8 tyX8_ok nmX8 rfl (tyX8_ok 10 (by decide)) (by decide) (by decide) sh_0 rfl dX8_open_55 lk_X8_82 ?_
          refine m_mem (fun g17 eg17 => ?_)
          have hI18 : Inv g17 := by rw [eg17]; exact hI13.up (ok_shut (Or.inl rfl))
          have hK19 : Kp [0, 9, 10, 11, 12, 15, 16, 17, 19, 30, 31] g g17 := by rw [eg17]; exact Kp.up hK16 (by decide) (Or.inl (by decide)) (Or.inr (by decide))
          have ev20 : g17 16 4 = g11 16 4 := by rw [eg17]; exact up2_nei (Or.inl (by decide))
          have tev20 := congrArg Int32.toInt ev20
          refine m_aload_n C dX8_open_58 0 rfl ?_
          refine m_getr (rf := "") C 3 rfl gd8 (by decide) sh_0 rfl dX8_open_59 lk_X8_37 ?_
          refine m_getiN (rf := "") C 4 rfl gd4 (by decide) sh_16 rfl dX8_open_62 lk_X8_211 ?_
          have r21 := iv_size hI18
          exact m_iret C dX8_open_65 ⟨_, rfl, hI18, hK19⟩
        · skip
          have th8 := i_nle h8
          rw [show (60 : Int32).toInt = 60 by decide] at th8
          refine m_aload_n C dX8_open_18 0 rfl ?_
          refine m_iload_n C dX8_open_19 1 rfl ?_
          refine m_invV C cal_X8_readFrame sh_0 rfl (c_X8_readFrame l hX g4 x3 hI5 (by omega)) lk_X8_212 im_X8_readFrame se_X8_readFrame (by decide) rfl rfl (Nat.le_of_ble_eq_true rfl) dX8_open_20 ⟨Nat.le_refl _, Nat.le_refl _⟩ (rI fun r22 g23 q24 => ?_)
          obtain ⟨hI25, hK26, p27⟩ := q24
          have hK28 : Kp [0, 9, 10, 11, 12, 15, 16, 17, 19, 30, 31] g g23 := (hK6).tr hK26 (by decide)
          refine m_if_eq C 39 dX8_open_23 (by decide) (fun h29 => ?_) (fun h29 => ?_)
          · skip
            have th29 := i_eq h29
            rw [show (0 : Int32).toInt = 0 by decide] at th29
            refine m_aload_n C dX8_open_39 0 rfl ?_
            refine m_getr (rf := "") C 7 rfl gd8 (by decide) sh_0 rfl dX8_open_40 lk_X8_71 ?_
            refine m_aload_n C dX8_open_43 0 rfl ?_
            refine m_getr (rf := "") C 3 rfl gd8 (by decide) sh_0 rfl dX8_open_44 lk_X8_37 ?_
            refine m_getiN (rf := "") C 4 rfl gd4 (by decide) sh_16 rfl dX8_open_47 lk_X8_211 ?_
            have r30 := iv_size hI25
            refine m_invVN C cal_X0_settle sh_30 rfl (c_X0_settle l hX g23 (g23 16 4) hI25 (by omega)) lk_X8_218 im_X0_settle se_X0_settle (by decide) rfl rfl (Nat.le_of_ble_eq_true rfl) dX8_open_50 ⟨Nat.le_refl _, Nat.le_refl _⟩ (rV fun g32 q33 => ?_)
            obtain ⟨hI34, hK35⟩ := q33
            have ev36 : g32 16 4 = g23 16 4 := congrFun (hK35.1 16 (by decide)) 4
            have tev36 := congrArg Int32.toInt ev36
            have hK37 : Kp [0, 9, 10, 11, 12, 15, 16, 17, 19, 30, 31] g g32 := (hK28).tr hK35 (by decide)
            refine m_aload_n C dX8_open_53 0 rfl ?_
            refine m_iconst C (0 : Int32) dX8_open_54 (by decide) ?_
            refine m_put (rf := "") C 10 rfl gd8 (by decide) tyX8 tyX8_ok nmX8 rfl (tyX8_ok 10 (by decide)) (by decide) (by decide) sh_0 rfl dX8_open_55 lk_X8_82 ?_
            refine m_mem (fun g38 eg38 => ?_)
            have hI39 : Inv g38 := by rw [eg38]; exact hI34.up (ok_shut (Or.inl rfl))
            have hK40 : Kp [0, 9, 10, 11, 12, 15, 16, 17, 19, 30, 31] g g38 := by rw [eg38]; exact Kp.up hK37 (by decide) (Or.inl (by decide)) (Or.inr (by decide))
            have ev41 : g38 16 4 = g32 16 4 := by rw [eg38]; exact up2_nei (Or.inl (by decide))
            have tev41 := congrArg Int32.toInt ev41
            refine m_aload_n C dX8_open_58 0 rfl ?_
            refine m_getr (rf := "") C 3 rfl gd8 (by decide) sh_0 rfl dX8_open_59 lk_X8_37 ?_
            refine m_getiN (rf := "") C 4 rfl gd4 (by decide) sh_16 rfl dX8_open_62 lk_X8_211 ?_
            have r42 := iv_size hI39
            exact m_iret C dX8_open_65 ⟨_, rfl, hI39, hK40⟩
          · skip
            have th29 := i_ne h29
            rw [show (0 : Int32).toInt = 0 by decide] at th29
            refine m_aload_n C dX8_open_26 0 rfl ?_
            refine m_getr (rf := "") C 3 rfl gd8 (by decide) sh_0 rfl dX8_open_27 lk_X8_37 ?_
            refine m_invVN C cal_X4_accept sh_16 rfl (c_X4_accept l hX g23  hI25) lk_X8_215 im_X4_accept se_X4_accept (by decide) rfl rfl (Nat.le_of_ble_eq_true rfl) dX8_open_30 ⟨Nat.le_refl _, Nat.le_refl _⟩ (rV fun g44 q45 => ?_)
            obtain ⟨hI46, hK47, p48⟩ := q45
            have hK49 : Kp [0, 9, 10, 11, 12, 15, 16, 17, 19, 30, 31] g g44 := (hK28).tr hK47 (by decide)
            obtain ⟨x50, ex50⟩ : ∃ z : Int32, z = x3 + Int32.ofInt 1 := ⟨_, rfl⟩
            have t51 : (x3 + (Int32.ofInt 1)).toInt = x3.toInt + (1 : Int) := i_add rfl (by decide) (by omega) (by omega)
            have t52 : x50.toInt = (x3.toInt + (1 : Int)) := (congrArg Int32.toInt ex50).trans t51
            refine m_iinc C x50 [(1, .int x50), (0, .ref (aL X 0))] dX8_open_33 (q := 1) rfl ex50.symm (by decide) rfl ?_
            refine m_goto C 12 dX8_open_36 (by decide) ?_
            refine m_lv [1, 0] rfl ?_
            exact ih12 x50 g44 (by omega) hI46 hK49 (by omega)
    have t53 : (0 : Int32).toInt = 0 := by decide
    refine m_lv [1, 0] rfl ?_
    exact L12 (((61 - (0 : Int32).toInt).toNat) + 1) (0 : Int32) g (Nat.lt_succ_self _) hI Kp.rf (by omega)
  · skip
    have th1 := i_eq h1
    rw [show (0 : Int32).toInt = 0 by decide] at th1
    refine m_bipush C (-5 : Int32) dX8_open_7 (by decide) ?_
    exact m_iret C dX8_open_9 ⟨_, rfl, hI, Kp.rf⟩
set_option maxRecDepth 20000 in
set_option maxHeartbeats 4000000 in
theorem c_X8_disk (l : Launch) {X : XT} (hX : Lok X) (g : Mem) (i0 : Int32) (hI : Inv g) : Ctr l X yX8_disk cX8_disk 2 (some .int) (rmD 1) [.ref (aL X 0), .int i0] g (pI (fun r g2 => g2 = g ∧ True)) := by
  refine Ctr.of (lv := [(0, .ref (aL X 0)), (1, .int i0)]) hX (by decide) rfl (Nat.le_of_ble_eq_true rfl) ?_
  intro p e s m below meth c C
  refine m_iload_n C dX8_disk_0 1 rfl ?_
  refine m_iconst C (0 : Int32) dX8_disk_1 (by decide) ?_
  refine m_sipush C (1019 : Int32) dX8_disk_2 (by decide) ?_
  have t1 : (0 : Int32).toInt = 0 := by decide
  have t2 : (1019 : Int32).toInt = 1019 := by decide
  refine m_invS C cal_X8_within (c_X8_within l hX g i0 (0 : Int32) (1019 : Int32) ) lk_X8_87 st_X8_within (by decide) rfl rfl (Nat.le_of_ble_eq_true rfl) dX8_disk_5 ⟨Nat.le_refl _, Nat.le_refl _⟩ (rI fun r3 g4 q5 => ?_)
  obtain ⟨eg4, ⟨rfl, h6⟩ | ⟨rfl, h6⟩⟩ := q5
  · skip
    subst g4
    refine m_if_ne C 14 dX8_disk_8 (by decide) (fun _ => ?_) (fun h => absurd h (by decide))
    refine m_aload_n C dX8_disk_14 0 rfl ?_
    refine m_getr (rf := "") C 7 rfl gd8 (by decide) sh_0 rfl dX8_disk_15 lk_X8_71 ?_
    refine m_getrN (rf := "") C 0 rfl gd0 (by decide) sh_30 rfl dX8_disk_18 lk_X8_221 ?_
    refine m_iload_n C dX8_disk_21 1 rfl ?_
    refine m_iald C sh_31 (i_in (by omega) (by omega)) dX8_disk_22 ?_
    exact m_iret C dX8_disk_23 ⟨_, rfl, rfl, trivial⟩
  · skip
    subst g4
    refine m_if_ne C 14 dX8_disk_8 (by decide) (fun h => absurd (by decide) h) (fun _ => ?_)
    refine m_bipush C (-2 : Int32) dX8_disk_11 (by decide) ?_
    exact m_iret C dX8_disk_13 ⟨_, rfl, rfl, trivial⟩
set_option maxRecDepth 20000 in
set_option maxHeartbeats 4000000 in
theorem c_X8_spoil (l : Launch) {X : XT} (hX : Lok X) (g : Mem) (i0 : Int32) (v : Int32) (hI : Inv g) : Ctr l X yX8_spoil cX8_spoil 4 (some .int) (rmD 2) [.ref (aL X 0), .int i0, .int v] g (pI (fun r g2 => Inv g2 ∧ Kp [31] g g2)) := by
  refine Ctr.of (lv := [(0, .ref (aL X 0)), (1, .int i0), (2, .int v)]) hX (by decide) rfl (Nat.le_of_ble_eq_true rfl) ?_
  intro p e s m below meth c C
  refine m_iload_n C dX8_spoil_0 1 rfl ?_
  refine m_iconst C (0 : Int32) dX8_spoil_1 (by decide) ?_
  refine m_sipush C (1019 : Int32) dX8_spoil_2 (by decide) ?_
  have t1 : (0 : Int32).toInt = 0 := by decide
  have t2 : (1019 : Int32).toInt = 1019 := by decide
  refine m_invS C cal_X8_within (c_X8_within l hX g i0 (0 : Int32) (1019 : Int32) ) lk_X8_87 st_X8_within (by decide) rfl rfl (Nat.le_of_ble_eq_true rfl) dX8_spoil_5 ⟨Nat.le_refl _, Nat.le_refl _⟩ (rI fun r3 g4 q5 => ?_)
  obtain ⟨eg4, ⟨rfl, h6⟩ | ⟨rfl, h6⟩⟩ := q5
  · skip
    subst g4
    refine m_if_eq C 18 dX8_spoil_8 (by decide) (fun h => absurd h (by decide)) (fun _ => ?_)
    refine m_iload_n C dX8_spoil_11 2 rfl ?_
    refine m_invS C cal_X8_isMask (c_X8_isMask l hX g v ) lk_X8_182 st_X8_isMask (by decide) rfl rfl (Nat.le_of_ble_eq_true rfl) dX8_spoil_12 ⟨Nat.le_refl _, Nat.le_refl _⟩ (rI fun r7 g8 q9 => ?_)
    obtain ⟨eg8, ⟨rfl, h10⟩ | ⟨rfl, h10⟩⟩ := q9
    · skip
      subst g8
      refine m_if_ne C 21 dX8_spoil_15 (by decide) (fun _ => ?_) (fun h => absurd h (by decide))
      refine m_aload_n C dX8_spoil_21 0 rfl ?_
      refine m_getr (rf := "") C 7 rfl gd8 (by decide) sh_0 rfl dX8_spoil_22 lk_X8_71 ?_
      refine m_getrN (rf := "") C 0 rfl gd0 (by decide) sh_30 rfl dX8_spoil_25 lk_X8_221 ?_
      refine m_iload_n C dX8_spoil_28 1 rfl ?_
      refine m_iald C sh_31 (i_in (by omega) (by omega)) dX8_spoil_29 ?_
      refine m_name (fun x11 ex11 => ?_)
      refine m_istore_n C [(3, .int x11), (0, .ref (aL X 0)), (1, .int i0), (2, .int v)] dX8_spoil_30 (by decide) rfl ?_
      refine m_aload_n C dX8_spoil_31 1 rfl ?_
      refine m_getr (rf := "") C 7 rfl gd8 (by decide) sh_0 rfl dX8_spoil_32 lk_X8_71 ?_
      refine m_getrN (rf := "") C 0 rfl gd0 (by decide) sh_30 rfl dX8_spoil_35 lk_X8_221 ?_
      refine m_iload_n C dX8_spoil_38 2 rfl ?_
      refine m_iload_n C dX8_spoil_39 0 rfl ?_
      refine m_iload_n C dX8_spoil_40 3 rfl ?_
      refine m_ixor C dX8_spoil_41 ?_
      refine m_iast C sh_31 (i_in (by omega) (by omega)) dX8_spoil_42 ?_
      refine m_mem (fun g12 eg12 => ?_)
      have hI13 : Inv g12 := by rw [eg12]; exact hI.up (ok_any (by decide))
      have hK14 : Kp [31] g g12 := by rw [eg12]; exact Kp.up Kp.rf (by decide) (Or.inl (by decide)) (Or.inl (by decide))
      refine m_iload_n C dX8_spoil_43 0 rfl ?_
      exact m_iret C dX8_spoil_44 ⟨_, rfl, hI13, hK14⟩
    · skip
      subst g8
      refine m_if_ne C 21 dX8_spoil_15 (by decide) (fun h => absurd (by decide) h) (fun _ => ?_)
      refine m_bipush C (-2 : Int32) dX8_spoil_18 (by decide) ?_
      exact m_iret C dX8_spoil_20 ⟨_, rfl, hI, Kp.rf⟩
  · skip
    subst g4
    refine m_if_eq C 18 dX8_spoil_8 (by decide) (fun _ => ?_) (fun h => absurd (by decide) h)
    refine m_bipush C (-2 : Int32) dX8_spoil_18 (by decide) ?_
    exact m_iret C dX8_spoil_20 ⟨_, rfl, hI, Kp.rf⟩
set_option maxRecDepth 20000 in
set_option maxHeartbeats 4000000 in
theorem c_X8_audit (l : Launch) {X : XT} (hX : Lok X) (g : Mem)  (hI : Inv g) : Ctr l X yX8_audit cX8_audit 2 (some .int) (rmD 4) [.ref (aL X 0)] g (pI (fun r g2 => Inv g2 ∧ Kp [] g g2)) := by
  refine Ctr.of (lv := [(0, .ref (aL X 0))]) hX (by decide) rfl (Nat.le_of_ble_eq_true rfl) ?_
  intro p e s m below meth c C
  refine m_aload_n C dX8_audit_0 0 rfl ?_
  refine m_geti (rf := "") C 10 rfl gd8 (by decide) sh_0 rfl dX8_audit_1 lk_X8_82 ?_
  refine m_if_eq C 10 dX8_audit_4 (by decide) (fun h1 => ?_) (fun h1 => ?_)
  · skip
    have th1 := i_eq h1
    rw [show (0 : Int32).toInt = 0 by decide] at th1
    refine m_iconst C (0 : Int32) dX8_audit_10 (by decide) ?_
    refine m_istore_n C [(1, .int (0 : Int32)), (0, .ref (aL X 0))] dX8_audit_11 (by decide) rfl ?_
    have L12 : ∀ (n12 : Nat) (x3 : Int32) (g4 : Mem), (61 - x3.toInt).toNat < n12 → Inv g4 → Kp [] g g4 → 0 ≤ x3.toInt ∧ x3.toInt ≤ 60 → Wm X p l e (rmD 4) s m ([.ref (aL X 0)] : List Value).toArray below meth c 2 0 0 (MQ below (cQ X (pI (fun r g2 => Inv g2 ∧ Kp [] g g2))) ([.ref (aL X 0)] : List Value).toArray s 0 0 (Ab X)) g4 12 [(0, .ref (aL X 0)), (1, .int x3)] [] := by
      intro n12
      induction n12 with
      | zero => intro x3 g4 hm; exact absurd hm (Nat.not_lt_zero _)
      | succ n12 ih12 =>
        intro x3 g4 hm12 hI5 hK6 i7
        try obtain ⟨i7a, i7b⟩ := i7
        refine m_iload_n C dX8_audit_12 1 rfl ?_
        refine m_aload_n C dX8_audit_13 0 rfl ?_
        refine m_getr (rf := "") C 3 rfl gd8 (by decide) sh_0 rfl dX8_audit_14 lk_X8_37 ?_
        refine m_getiN (rf := "") C 4 rfl gd4 (by decide) sh_16 rfl dX8_audit_17 lk_X8_211 ?_
        have r8 := iv_size hI5
        have ev9 : g4 16 4 = g 16 4 := congrFun (hK6.1 16 (by decide)) 4
        have tev9 := congrArg Int32.toInt ev9
        refine m_icmp_ge C 46 dX8_audit_20 (by decide) (fun h10 => ?_) (fun h10 => ?_)
        · skip
          have th10 := i_le h10
          refine m_iconst C (-1 : Int32) dX8_audit_46 (by decide) ?_
          exact m_iret C dX8_audit_47 ⟨_, rfl, hI5, hK6⟩
        · skip
          have th10 := i_nle h10
          refine m_aload_n C dX8_audit_23 0 rfl ?_
          refine m_getr (rf := "") C 7 rfl gd8 (by decide) sh_0 rfl dX8_audit_24 lk_X8_71 ?_
          refine m_aload_n C dX8_audit_27 0 rfl ?_
          refine m_getr (rf := "") C 3 rfl gd8 (by decide) sh_0 rfl dX8_audit_28 lk_X8_37 ?_
          refine m_iload_n C dX8_audit_31 1 rfl ?_
          refine m_invVN C cal_X0_holdsFrame sh_30 rfl (c_X0_holdsFrame l hX g4 x3 hI5 (by omega)) lk_X8_225 im_X0_holdsFrame se_X0_holdsFrame (by decide) rfl rfl (Nat.le_of_ble_eq_true rfl) dX8_audit_32 ⟨Nat.le_refl _, Nat.le_refl _⟩ (rI fun r11 g12 q13 => ?_)
          obtain ⟨hI14, hK15, p16⟩ := q13
          have ev17 : g12 16 4 = g4 16 4 := congrFun (hK15.1 16 (by decide)) 4
          have tev17 := congrArg Int32.toInt ev17
          have hK18 : Kp [] g g12 := (hK6).tr hK15 (by decide)
          refine m_if_ne C 40 dX8_audit_35 (by decide) (fun h19 => ?_) (fun h19 => ?_)
          · skip
            have th19 := i_ne h19
            rw [show (0 : Int32).toInt = 0 by decide] at th19
            obtain ⟨x20, ex20⟩ : ∃ z : Int32, z = x3 + Int32.ofInt 1 := ⟨_, rfl⟩
            have t21 : (x3 + (Int32.ofInt 1)).toInt = x3.toInt + (1 : Int) := i_add rfl (by decide) (by omega) (by omega)
            have t22 : x20.toInt = (x3.toInt + (1 : Int)) := (congrArg Int32.toInt ex20).trans t21
            refine m_iinc C x20 [(1, .int x20), (0, .ref (aL X 0))] dX8_audit_40 (q := 1) rfl ex20.symm (by decide) rfl ?_
            refine m_goto C 12 dX8_audit_43 (by decide) ?_
            refine m_lv [1, 0] rfl ?_
            exact ih12 x20 g12 (by omega) hI14 hK18 (by omega)
          · skip
            have th19 := i_eq h19
            rw [show (0 : Int32).toInt = 0 by decide] at th19
            refine m_iload_n C dX8_audit_38 1 rfl ?_
            exact m_iret C dX8_audit_39 ⟨_, rfl, hI14, hK18⟩
    have t23 : (0 : Int32).toInt = 0 := by decide
    refine m_lv [1, 0] rfl ?_
    exact L12 (((61 - (0 : Int32).toInt).toNat) + 1) (0 : Int32) g (Nat.lt_succ_self _) hI Kp.rf (by omega)
  · skip
    have th1 := i_ne h1
    rw [show (0 : Int32).toInt = 0 by decide] at th1
    refine m_bipush C (-3 : Int32) dX8_audit_7 (by decide) ?_
    exact m_iret C dX8_audit_9 ⟨_, rfl, hI, Kp.rf⟩
set_option maxRecDepth 20000 in
set_option maxHeartbeats 4000000 in
theorem c_X8_hash (l : Launch) {X : XT} (hX : Lok X) (g : Mem) (la : Int64) (lb : Int64) (n0 : Int32) (k : Int32) (hI : Inv g) : Ctr l X yX8_hash cX8_hash 10 (some .int) (rmD 3) [.ref (aL X 0), .long la, .long lb, .int n0, .int k] g (pI (fun r g2 => Inv g2 ∧ Kp [9, 10, 11, 12, 33] g g2)) := by
  refine Ctr.of (lv := [(0, .ref (aL X 0)), (1, .long la), (3, .long lb), (5, .int n0), (6, .int k)]) hX (by decide) rfl (Nat.le_of_ble_eq_true rfl) ?_
  intro p e s m below meth c C
  refine m_iload C dX8_hash_0 3 rfl ?_
  refine m_iconst C (0 : Int32) dX8_hash_2 (by decide) ?_
  refine m_bipush C (16 : Int32) dX8_hash_3 (by decide) ?_
  have t1 : (0 : Int32).toInt = 0 := by decide
  have t2 : (16 : Int32).toInt = 16 := by decide
  refine m_invS C cal_X8_within (c_X8_within l hX g n0 (0 : Int32) (16 : Int32) ) lk_X8_87 st_X8_within (by decide) rfl rfl (Nat.le_of_ble_eq_true rfl) dX8_hash_5 ⟨Nat.le_refl _, Nat.le_refl _⟩ (rI fun r3 g4 q5 => ?_)
  obtain ⟨eg4, ⟨rfl, h6⟩ | ⟨rfl, h6⟩⟩ := q5
  · skip
    subst g4
    refine m_if_eq C 19 dX8_hash_8 (by decide) (fun h => absurd h (by decide)) (fun _ => ?_)
    refine m_iload C dX8_hash_11 4 rfl ?_
    refine m_invS C cal_X8_isHashByte (c_X8_isHashByte l hX g k ) lk_X8_157 st_X8_isHashByte (by decide) rfl rfl (Nat.le_of_ble_eq_true rfl) dX8_hash_13 ⟨Nat.le_refl _, Nat.le_refl _⟩ (rI fun r7 g8 q9 => ?_)
    obtain ⟨eg8, ⟨rfl, h10⟩ | ⟨rfl, h10⟩⟩ := q9
    · skip
      subst g8
      refine m_if_ne C 22 dX8_hash_16 (by decide) (fun _ => ?_) (fun h => absurd h (by decide))
      refine m_aload_n C dX8_hash_22 0 rfl ?_
      refine m_getr (rf := "") C 1 rfl gd8 (by decide) sh_0 rfl dX8_hash_23 lk_X8_19 ?_
      refine m_invVN C cal_X1_begin sh_9 rfl (c_X1_begin l hX g  hI) lk_X8_229 im_X1_begin se_X1_begin (by decide) rfl rfl (Nat.le_of_ble_eq_true rfl) dX8_hash_26 ⟨Nat.le_refl _, Nat.le_refl _⟩ (rV fun g12 q13 => ?_)
      obtain ⟨hI14, hK15⟩ := q13
      have hK16 : Kp [9, 10, 11, 12, 33] g g12 := (Kp.rf).tr hK15 (by decide)
      refine m_iconst C (0 : Int32) dX8_hash_29 (by decide) ?_
      refine m_istore C [(7, .int (0 : Int32)), (0, .ref (aL X 0)), (1, .long la), (3, .long lb), (5, .int n0), (6, .int k)] dX8_hash_30 (by decide) rfl ?_
      have L32 : ∀ (n32 : Nat) (x18 : Int32) (g19 : Mem), (17 - x18.toInt).toNat < n32 → Inv g19 → Kp [9, 10, 11, 12, 33] g g19 → 0 ≤ x18.toInt ∧ x18.toInt ≤ 16 → Wm X p l e (rmD 3) s m ([.ref (aL X 0), .long la, .long lb, .int n0, .int k] : List Value).toArray below meth c 10 0 0 (MQ below (cQ X (pI (fun r g2 => Inv g2 ∧ Kp [9, 10, 11, 12, 33] g g2))) ([.ref (aL X 0), .long la, .long lb, .int n0, .int k] : List Value).toArray s 0 0 (Ab X)) g19 32 [(0, .ref (aL X 0)), (1, .long la), (3, .long lb), (5, .int n0), (6, .int k), (7, .int x18)] [] := by
        intro n32
        induction n32 with
        | zero => intro x18 g19 hm; exact absurd hm (Nat.not_lt_zero _)
        | succ n32 ih32 =>
          intro x18 g19 hm32 hI20 hK21 i22
          try obtain ⟨i22a, i22b⟩ := i22
          refine m_iload C dX8_hash_32 5 rfl ?_
          refine m_iload C dX8_hash_34 3 rfl ?_
          refine m_icmp_ge C 85 dX8_hash_36 (by decide) (fun h23 => ?_) (fun h23 => ?_)
          · skip
            have th23 := i_le h23
            refine m_aload_n C dX8_hash_85 0 rfl ?_
            refine m_getr (rf := "") C 1 rfl gd8 (by decide) sh_0 rfl dX8_hash_86 lk_X8_19 ?_
            refine m_aload_n C dX8_hash_89 0 rfl ?_
            refine m_getr (rf := "") C 8 rfl gd8 (by decide) sh_0 rfl dX8_hash_90 lk_X8_75 ?_
            refine m_iconst C (0 : Int32) dX8_hash_93 (by decide) ?_
            have t24 : (0 : Int32).toInt = 0 := by decide
            refine m_invVN C cal_X1_finish sh_9 rfl (c_X1_finish_32 l hX g19 (0 : Int32) hI20 (by omega)) lk_X8_235 im_X1_finish se_X1_finish (by decide) rfl rfl (Nat.le_of_ble_eq_true rfl) dX8_hash_94 ⟨Nat.le_refl _, Nat.le_refl _⟩ (rV fun g26 q27 => ?_)
            obtain ⟨hI28, hK29⟩ := q27
            have hK30 : Kp [9, 10, 11, 12, 33] g g26 := (hK21).tr hK29 (by decide)
            refine m_aload_n C dX8_hash_97 0 rfl ?_
            refine m_getr (rf := "") C 8 rfl gd8 (by decide) sh_0 rfl dX8_hash_98 lk_X8_75 ?_
            refine m_iconst C (0 : Int32) dX8_hash_101 (by decide) ?_
            refine m_iload C dX8_hash_102 4 rfl ?_
            have t31 : (0 : Int32).toInt = 0 := by decide
            refine m_invVN C cal_X2_byteAt sh_32 rfl (c_X2_byteAt_32 l hX g26 (0 : Int32) k hI28 (by omega) (by omega)) lk_X8_167 im_X2_byteAt se_X2_byteAt (by decide) rfl rfl (Nat.le_of_ble_eq_true rfl) dX8_hash_104 ⟨Nat.le_refl _, Nat.le_refl _⟩ (rI fun r32 g33 q34 => ?_)
            obtain ⟨eg33, p35⟩ := q34
            subst g33
            exact m_iret C dX8_hash_107 ⟨_, rfl, hI28, hK30⟩
          · skip
            have th23 := i_nle h23
            refine m_iload C dX8_hash_39 5 rfl ?_
            refine m_bipush C (8 : Int32) dX8_hash_41 (by decide) ?_
            refine m_icmp_ge C 50 dX8_hash_43 (by decide) (fun h36 => ?_) (fun h36 => ?_)
            · skip
              have th36 := i_le h36
              rw [show (8 : Int32).toInt = 8 by decide] at th36
              refine m_lload_n C dX8_hash_50 2 rfl ?_
              refine m_lstore C [(8, .long lb), (0, .ref (aL X 0)), (1, .long la), (3, .long lb), (5, .int n0), (6, .int k), (7, .int x18)] dX8_hash_51 (by decide) rfl ?_
              refine m_aload_n C dX8_hash_53 1 rfl ?_
              refine m_getr (rf := "") C 1 rfl gd8 (by decide) sh_0 rfl dX8_hash_54 lk_X8_19 ?_
              refine m_lload C dX8_hash_57 0 rfl ?_
              refine m_bipush C (56 : Int32) dX8_hash_59 (by decide) ?_
              refine m_bipush C (8 : Int32) dX8_hash_61 (by decide) ?_
              refine m_iload C dX8_hash_63 6 rfl ?_
              refine m_bipush C (7 : Int32) dX8_hash_65 (by decide) ?_
              refine m_iand C dX8_hash_67 ?_
              refine m_imul C dX8_hash_68 ?_
              refine m_isub C dX8_hash_69 ?_
              refine m_lushr C dX8_hash_70 ?_
              refine m_nameJ (fun x38 ex38 => ?_)
              refine m_l2i C dX8_hash_71 ?_
              refine m_sipush C (255 : Int32) dX8_hash_72 (by decide) ?_
              refine m_iand C dX8_hash_75 ?_
              have t39 : 0 ≤ ((x38.toInt32) &&& (255 : Int32)).toInt ∧ ((x38.toInt32) &&& (255 : Int32)).toInt < 256 := i_and _ 8 (by decide) (by decide)
              refine m_invVN C cal_X1_add sh_9 rfl (c_X1_add l hX g19 ((x38.toInt32) &&& (255 : Int32)) hI20) lk_X8_232 im_X1_add se_X1_add (by decide) rfl rfl (Nat.le_of_ble_eq_true rfl) dX8_hash_76 ⟨Nat.le_refl _, Nat.le_refl _⟩ (rV fun g41 q42 => ?_)
              obtain ⟨hI43, hK44⟩ := q42
              have hK45 : Kp [9, 10, 11, 12, 33] g g41 := (hK21).tr hK44 (by decide)
              obtain ⟨x46, ex46⟩ : ∃ z : Int32, z = x18 + Int32.ofInt 1 := ⟨_, rfl⟩
              have t47 : (x18 + (Int32.ofInt 1)).toInt = x18.toInt + (1 : Int) := i_add rfl (by decide) (by omega) (by omega)
              have t48 : x46.toInt = (x18.toInt + (1 : Int)) := (congrArg Int32.toInt ex46).trans t47
              refine m_iinc C x46 [(7, .int x46), (8, .long lb), (0, .ref (aL X 0)), (1, .long la), (3, .long lb), (5, .int n0), (6, .int k)] dX8_hash_79 (q := 6) rfl ex46.symm (by decide) rfl ?_
              refine m_goto C 32 dX8_hash_82 (by decide) ?_
              refine m_lv [2, 3, 4, 5, 6, 0] rfl ?_
              exact ih32 x46 g41 (by omega) hI43 hK45 (by omega)
            · skip
              have th36 := i_nle h36
              rw [show (8 : Int32).toInt = 8 by decide] at th36
              refine m_lload_n C dX8_hash_46 1 rfl ?_
              refine m_goto C 51 dX8_hash_47 (by decide) ?_
              refine m_lstore C [(8, .long la), (0, .ref (aL X 0)), (1, .long la), (3, .long lb), (5, .int n0), (6, .int k), (7, .int x18)] dX8_hash_51 (by decide) rfl ?_
              refine m_aload_n C dX8_hash_53 1 rfl ?_
              refine m_getr (rf := "") C 1 rfl gd8 (by decide) sh_0 rfl dX8_hash_54 lk_X8_19 ?_
              refine m_lload C dX8_hash_57 0 rfl ?_
              refine m_bipush C (56 : Int32) dX8_hash_59 (by decide) ?_
              refine m_bipush C (8 : Int32) dX8_hash_61 (by decide) ?_
              refine m_iload C dX8_hash_63 6 rfl ?_
              refine m_bipush C (7 : Int32) dX8_hash_65 (by decide) ?_
              refine m_iand C dX8_hash_67 ?_
              refine m_imul C dX8_hash_68 ?_
              refine m_isub C dX8_hash_69 ?_
              refine m_lushr C dX8_hash_70 ?_
              refine m_nameJ (fun x50 ex50 => ?_)
              refine m_l2i C dX8_hash_71 ?_
              refine m_sipush C (255 : Int32) dX8_hash_72 (by decide) ?_
              refine m_iand C dX8_hash_75 ?_
              have t51 : 0 ≤ ((x50.toInt32) &&& (255 : Int32)).toInt ∧ ((x50.toInt32) &&& (255 : Int32)).toInt < 256 := i_and _ 8 (by decide) (by decide)
              refine m_invVN C cal_X1_add sh_9 rfl (c_X1_add l hX g19 ((x50.toInt32) &&& (255 : Int32)) hI20) lk_X8_232 im_X1_add se_X1_add (by decide) rfl rfl (Nat.le_of_ble_eq_true rfl) dX8_hash_76 ⟨Nat.le_refl _, Nat.le_refl _⟩ (rV fun g53 q54 => ?_)
              obtain ⟨hI55, hK56⟩ := q54
              have hK57 : Kp [9, 10, 11, 12, 33] g g53 := (hK21).tr hK56 (by decide)
              obtain ⟨x58, ex58⟩ : ∃ z : Int32, z = x18 + Int32.ofInt 1 := ⟨_, rfl⟩
              have t59 : (x18 + (Int32.ofInt 1)).toInt = x18.toInt + (1 : Int) := i_add rfl (by decide) (by omega) (by omega)
              have t60 : x58.toInt = (x18.toInt + (1 : Int)) := (congrArg Int32.toInt ex58).trans t59
              refine m_iinc C x58 [(7, .int x58), (8, .long la), (0, .ref (aL X 0)), (1, .long la), (3, .long lb), (5, .int n0), (6, .int k)] dX8_hash_79 (q := 6) rfl ex58.symm (by decide) rfl ?_
              refine m_goto C 32 dX8_hash_82 (by decide) ?_
              refine m_lv [2, 3, 4, 5, 6, 0] rfl ?_
              exact ih32 x58 g53 (by omega) hI55 hK57 (by omega)
      have t61 : (0 : Int32).toInt = 0 := by decide
      refine m_lv [1, 2, 3, 4, 5, 0] rfl ?_
      exact L32 (((17 - (0 : Int32).toInt).toNat) + 1) (0 : Int32) g12 (Nat.lt_succ_self _) hI14 hK16 (by omega)
    · skip
      subst g8
      refine m_if_ne C 22 dX8_hash_16 (by decide) (fun h => absurd (by decide) h) (fun _ => ?_)
      refine m_bipush C (-2 : Int32) dX8_hash_19 (by decide) ?_
      exact m_iret C dX8_hash_21 ⟨_, rfl, hI, Kp.rf⟩
  · skip
    subst g4
    refine m_if_eq C 19 dX8_hash_8 (by decide) (fun _ => ?_) (fun h => absurd (by decide) h)
    refine m_bipush C (-2 : Int32) dX8_hash_19 (by decide) ?_
    exact m_iret C dX8_hash_21 ⟨_, rfl, hI, Kp.rf⟩
set_option maxRecDepth 20000 in
set_option maxHeartbeats 4000000 in
theorem c_X8_count (l : Launch) {X : XT} (hX : Lok X) (g : Mem) (w : Int32) (hI : Inv g) : Ctr l X yX8_count cX8_count 2 (some .int) (rmD 0) [.ref (aL X 0), .int w] g (pI (fun r g2 => g2 = g ∧ True)) := by
  refine Ctr.of (lv := [(0, .ref (aL X 0)), (1, .int w)]) hX (by decide) rfl (Nat.le_of_ble_eq_true rfl) ?_
  intro p e s m below meth c C
  refine m_iload_n C dX8_count_0 1 rfl ?_
  rcases Int.lt_or_le (w).toInt 0 with h1 | h1
  · skip
    refine m_tabO C 114 dX8_count_1 (Or.inl h1) (by decide) ?_
    refine m_bipush C (-2 : Int32) dX8_count_114 (by decide) ?_
    exact m_iret C dX8_count_116 ⟨_, rfl, rfl, trivial⟩
  · skip
    by_cases h2 : (w).toInt = 0
    · skip
      refine m_tabI C 48 dX8_count_1 (by omega) (by omega) (off := 47) (by rw [h2]; rfl) (by decide) ?_
      refine m_aload_n C dX8_count_48 0 rfl ?_
      refine m_getr (rf := "") C 3 rfl gd8 (by decide) sh_0 rfl dX8_count_49 lk_X8_37 ?_
      refine m_getiN (rf := "") C 4 rfl gd4 (by decide) sh_16 rfl dX8_count_52 lk_X8_211 ?_
      have r3 := iv_size hI
      exact m_iret C dX8_count_55 ⟨_, rfl, rfl, trivial⟩
    · skip
      by_cases h4 : (w).toInt = 1
      · skip
        refine m_tabI C 56 dX8_count_1 (by omega) (by omega) (off := 55) (by rw [h4]; rfl) (by decide) ?_
        refine m_aload_n C dX8_count_56 0 rfl ?_
        refine m_getr (rf := "") C 7 rfl gd8 (by decide) sh_0 rfl dX8_count_57 lk_X8_71 ?_
        refine m_getiN (rf := "") C 1 rfl gd0 (by decide) sh_30 rfl dX8_count_60 lk_X8_202 ?_
        have r5 := iv_wrt hI
        exact m_iret C dX8_count_63 ⟨_, rfl, rfl, trivial⟩
      · skip
        by_cases h6 : (w).toInt = 2
        · skip
          refine m_tabI C 64 dX8_count_1 (by omega) (by omega) (off := 63) (by rw [h6]; rfl) (by decide) ?_
          refine m_aload_n C dX8_count_64 0 rfl ?_
          refine m_getr (rf := "") C 7 rfl gd8 (by decide) sh_0 rfl dX8_count_65 lk_X8_71 ?_
          refine m_getiN (rf := "") C 2 rfl gd0 (by decide) sh_30 rfl dX8_count_68 lk_X8_205 ?_
          have r7 := iv_safe hI
          exact m_iret C dX8_count_71 ⟨_, rfl, rfl, trivial⟩
        · skip
          by_cases h8 : (w).toInt = 3
          · skip
            refine m_tabI C 72 dX8_count_1 (by omega) (by omega) (off := 71) (by rw [h8]; rfl) (by decide) ?_
            refine m_aload_n C dX8_count_72 0 rfl ?_
            refine m_geti (rf := "") C 10 rfl gd8 (by decide) sh_0 rfl dX8_count_73 lk_X8_82 ?_
            refine m_if_eq C 83 dX8_count_76 (by decide) (fun h9 => ?_) (fun h9 => ?_)
            · skip
              have th9 := i_eq h9
              rw [show (0 : Int32).toInt = 0 by decide] at th9
              refine m_iconst C (0 : Int32) dX8_count_83 (by decide) ?_
              exact m_iret C dX8_count_84 ⟨_, rfl, rfl, trivial⟩
            · skip
              have th9 := i_ne h9
              rw [show (0 : Int32).toInt = 0 by decide] at th9
              refine m_iconst C (1 : Int32) dX8_count_79 (by decide) ?_
              refine m_goto C 84 dX8_count_80 (by decide) ?_
              exact m_iret C dX8_count_84 ⟨_, rfl, rfl, trivial⟩
          · skip
            by_cases h10 : (w).toInt = 4
            · skip
              refine m_tabI C 85 dX8_count_1 (by omega) (by omega) (off := 84) (by rw [h10]; rfl) (by decide) ?_
              refine m_aload_n C dX8_count_85 0 rfl ?_
              refine m_geti (rf := "") C 9 rfl gd8 (by decide) sh_0 rfl dX8_count_86 lk_X8_78 ?_
              have r11 := iv_time hI
              exact m_iret C dX8_count_89 ⟨_, rfl, rfl, trivial⟩
            · skip
              by_cases h12 : (w).toInt = 5
              · skip
                refine m_tabI C 90 dX8_count_1 (by omega) (by omega) (off := 89) (by rw [h12]; rfl) (by decide) ?_
                refine m_aload_n C dX8_count_90 0 rfl ?_
                refine m_getr (rf := "") C 4 rfl gd8 (by decide) sh_0 rfl dX8_count_91 lk_X8_46 ?_
                refine m_getiN (rf := "") C 5 rfl gd6 (by decide) sh_20 rfl dX8_count_94 lk_X8_188 ?_
                have r13 := iv_psize hI
                exact m_iret C dX8_count_97 ⟨_, rfl, rfl, trivial⟩
              · skip
                by_cases h14 : (w).toInt = 6
                · skip
                  refine m_tabI C 98 dX8_count_1 (by omega) (by omega) (off := 97) (by rw [h14]; rfl) (by decide) ?_
                  refine m_aload_n C dX8_count_98 0 rfl ?_
                  refine m_getr (rf := "") C 0 rfl gd8 (by decide) sh_0 rfl dX8_count_99 lk_X8_12 ?_
                  refine m_getiN (rf := "") C 7 rfl gd5 (by decide) sh_1 rfl dX8_count_102 lk_X8_239 ?_
                  exact m_iret C dX8_count_105 ⟨_, rfl, rfl, trivial⟩
                · skip
                  by_cases h15 : (w).toInt = 7
                  · skip
                    refine m_tabI C 106 dX8_count_1 (by omega) (by omega) (off := 105) (by rw [h15]; rfl) (by decide) ?_
                    refine m_aload_n C dX8_count_106 0 rfl ?_
                    refine m_getr (rf := "") C 0 rfl gd8 (by decide) sh_0 rfl dX8_count_107 lk_X8_12 ?_
                    refine m_getiN (rf := "") C 8 rfl gd5 (by decide) sh_1 rfl dX8_count_110 lk_X8_242 ?_
                    exact m_iret C dX8_count_113 ⟨_, rfl, rfl, trivial⟩
                  · skip
                    refine m_tabO C 114 dX8_count_1 (Or.inr (by omega)) (by decide) ?_
                    refine m_bipush C (-2 : Int32) dX8_count_114 (by decide) ?_
                    exact m_iret C dX8_count_116 ⟨_, rfl, rfl, trivial⟩
set_option maxRecDepth 20000 in
set_option maxHeartbeats 4000000 in
theorem c_X8_digest (l : Launch) {X : XT} (hX : Lok X) (g : Mem)  (hI : Inv g) : Ctr l X yX8_digest cX8_digest 5 (some .long) (rmD 3) [.ref (aL X 0)] g (pJ (fun r g2 => Inv g2 ∧ Kp [] g g2)) := by
  refine Ctr.of (lv := [(0, .ref (aL X 0))]) hX (by decide) rfl (Nat.le_of_ble_eq_true rfl) ?_
  intro p e s m below meth c C
  refine m_ldc2 C (17) dX8_digest_0 lk_X8_245 ?_
  refine m_nameJ (fun x1 ex1 => ?_)
  refine m_lstore_n C [(1, .long x1), (0, .ref (aL X 0))] dX8_digest_3 (by decide) rfl ?_
  refine m_iconst C (0 : Int32) dX8_digest_4 (by decide) ?_
  refine m_istore_n C [(3, .int (0 : Int32)), (1, .long x1), (0, .ref (aL X 0))] dX8_digest_5 (by decide) rfl ?_
  have L6 : ∀ (n6 : Nat) (x3 : Int64) (x4 : Int32) (g5 : Mem), (13 - x4.toInt).toNat < n6 → Inv g5 → Kp [] g g5 → 0 ≤ x4.toInt ∧ x4.toInt ≤ 12 → Wm X p l e (rmD 3) s m ([.ref (aL X 0)] : List Value).toArray below meth c 5 0 0 (MQ below (cQ X (pJ (fun r g2 => Inv g2 ∧ Kp [] g g2))) ([.ref (aL X 0)] : List Value).toArray s 0 0 (Ab X)) g5 6 [(0, .ref (aL X 0)), (1, .long x3), (3, .int x4)] [] := by
    intro n6
    induction n6 with
    | zero => intro x3 x4 g5 hm; exact absurd hm (Nat.not_lt_zero _)
    | succ n6 ih6 =>
      intro x3 x4 g5 hm6 hI6 hK7 i8
      try obtain ⟨i8a, i8b⟩ := i8
      refine m_iload_n C dX8_digest_6 2 rfl ?_
      refine m_bipush C (12 : Int32) dX8_digest_7 (by decide) ?_
      refine m_icmp_ge C 48 dX8_digest_9 (by decide) (fun h9 => ?_) (fun h9 => ?_)
      · skip
        have th9 := i_le h9
        rw [show (12 : Int32).toInt = 12 by decide] at th9
        refine m_iconst C (0 : Int32) dX8_digest_48 (by decide) ?_
        refine m_istore_n C [(3, .int (0 : Int32)), (0, .ref (aL X 0)), (1, .long x3)] dX8_digest_49 (by decide) rfl ?_
        have L50 : ∀ (n50 : Nat) (x11 : Int64) (x12 : Int32) (g13 : Mem), (17 - x12.toInt).toNat < n50 → Inv g13 → Kp [] g g13 → 0 ≤ x12.toInt ∧ x12.toInt ≤ 16 → Wm X p l e (rmD 3) s m ([.ref (aL X 0)] : List Value).toArray below meth c 5 0 0 (MQ below (cQ X (pJ (fun r g2 => Inv g2 ∧ Kp [] g g2))) ([.ref (aL X 0)] : List Value).toArray s 0 0 (Ab X)) g13 50 [(0, .ref (aL X 0)), (1, .long x11), (3, .int x12)] [] := by
          intro n50
          induction n50 with
          | zero => intro x11 x12 g13 hm; exact absurd hm (Nat.not_lt_zero _)
          | succ n50 ih50 =>
            intro x11 x12 g13 hm50 hI14 hK15 i16
            try obtain ⟨i16a, i16b⟩ := i16
            refine m_iload_n C dX8_digest_50 2 rfl ?_
            refine m_bipush C (16 : Int32) dX8_digest_51 (by decide) ?_
            refine m_icmp_ge C 92 dX8_digest_53 (by decide) (fun h17 => ?_) (fun h17 => ?_)
            · skip
              have th17 := i_le h17
              rw [show (16 : Int32).toInt = 16 by decide] at th17
              refine m_iconst C (0 : Int32) dX8_digest_92 (by decide) ?_
              refine m_istore_n C [(3, .int (0 : Int32)), (0, .ref (aL X 0)), (1, .long x11)] dX8_digest_93 (by decide) rfl ?_
              have L94 : ∀ (n94 : Nat) (x19 : Int64) (x20 : Int32) (g21 : Mem), (1021 - x20.toInt).toNat < n94 → Inv g21 → Kp [] g g21 → 0 ≤ x20.toInt ∧ x20.toInt ≤ 1020 → Wm X p l e (rmD 3) s m ([.ref (aL X 0)] : List Value).toArray below meth c 5 0 0 (MQ below (cQ X (pJ (fun r g2 => Inv g2 ∧ Kp [] g g2))) ([.ref (aL X 0)] : List Value).toArray s 0 0 (Ab X)) g21 94 [(0, .ref (aL X 0)), (1, .long x19), (3, .int x20)] [] := by
                intro n94
                induction n94 with
                | zero => intro x19 x20 g21 hm; exact absurd hm (Nat.not_lt_zero _)
                | succ n94 ih94 =>
                  intro x19 x20 g21 hm94 hI22 hK23 i24
                  try obtain ⟨i24a, i24b⟩ := i24
                  refine m_iload_n C dX8_digest_94 2 rfl ?_
                  refine m_sipush C (1020 : Int32) dX8_digest_95 (by decide) ?_
                  refine m_icmp_ge C 124 dX8_digest_98 (by decide) (fun h25 => ?_) (fun h25 => ?_)
                  · skip
                    have th25 := i_le h25
                    rw [show (1020 : Int32).toInt = 1020 by decide] at th25
                    refine m_iconst C (0 : Int32) dX8_digest_124 (by decide) ?_
                    refine m_istore_n C [(3, .int (0 : Int32)), (0, .ref (aL X 0)), (1, .long x19)] dX8_digest_125 (by decide) rfl ?_
                    have L126 : ∀ (n126 : Nat) (x27 : Int64) (x28 : Int32) (g29 : Mem), (7 - x28.toInt).toNat < n126 → Inv g29 → Kp [] g g29 → 0 ≤ x28.toInt ∧ x28.toInt ≤ 6 → Wm X p l e (rmD 3) s m ([.ref (aL X 0)] : List Value).toArray below meth c 5 0 0 (MQ below (cQ X (pJ (fun r g2 => Inv g2 ∧ Kp [] g g2))) ([.ref (aL X 0)] : List Value).toArray s 0 0 (Ab X)) g29 126 [(0, .ref (aL X 0)), (1, .long x27), (3, .int x28)] [] := by
                      intro n126
                      induction n126 with
                      | zero => intro x27 x28 g29 hm; exact absurd hm (Nat.not_lt_zero _)
                      | succ n126 ih126 =>
                        intro x27 x28 g29 hm126 hI30 hK31 i32
                        try obtain ⟨i32a, i32b⟩ := i32
                        refine m_iload_n C dX8_digest_126 2 rfl ?_
                        refine m_bipush C (6 : Int32) dX8_digest_127 (by decide) ?_
                        refine m_icmp_ge C 151 dX8_digest_129 (by decide) (fun h33 => ?_) (fun h33 => ?_)
                        · skip
                          have th33 := i_le h33
                          rw [show (6 : Int32).toInt = 6 by decide] at th33
                          refine m_lload_n C dX8_digest_151 1 rfl ?_
                          exact m_lret C dX8_digest_152 ⟨_, rfl, hI30, hK31⟩
                        · skip
                          have th33 := i_nle h33
                          rw [show (6 : Int32).toInt = 6 by decide] at th33
                          refine m_ldc2 C (31) dX8_digest_132 lk_X8_247 ?_
                          refine m_lload_n C dX8_digest_135 1 rfl ?_
                          refine m_lmul C dX8_digest_136 ?_
                          refine m_nameJ (fun x34 ex34 => ?_)
                          refine m_aload_n C dX8_digest_137 0 rfl ?_
                          refine m_iload_n C dX8_digest_138 2 rfl ?_
                          refine m_invV C cal_X8_count sh_0 rfl (c_X8_count l hX g29 x28 hI30) lk_X8_255 im_X8_count se_X8_count (by decide) rfl rfl (Nat.le_of_ble_eq_true rfl) dX8_digest_139 ⟨Nat.le_refl _, Nat.le_refl _⟩ (rI fun r35 g36 q37 => ?_)
                          obtain ⟨eg36, p38⟩ := q37
                          subst g36
                          refine m_i2l C dX8_digest_142 ?_
                          refine m_ladd C dX8_digest_143 ?_
                          refine m_nameJ (fun x39 ex39 => ?_)
                          refine m_lstore_n C [(1, .long x39), (0, .ref (aL X 0)), (3, .int x28)] dX8_digest_144 (by decide) rfl ?_
                          obtain ⟨x41, ex41⟩ : ∃ z : Int32, z = x28 + Int32.ofInt 1 := ⟨_, rfl⟩
                          have t42 : (x28 + (Int32.ofInt 1)).toInt = x28.toInt + (1 : Int) := i_add rfl (by decide) (by omega) (by omega)
                          have t43 : x41.toInt = (x28.toInt + (1 : Int)) := (congrArg Int32.toInt ex41).trans t42
                          refine m_iinc C x41 [(3, .int x41), (1, .long x39), (0, .ref (aL X 0))] dX8_digest_145 (q := 2) rfl ex41.symm (by decide) rfl ?_
                          refine m_goto C 126 dX8_digest_148 (by decide) ?_
                          refine m_lv [2, 1, 0] rfl ?_
                          exact ih126 x39 x41 g29 (by omega) hI30 hK31 (by omega)
                    have t44 : (0 : Int32).toInt = 0 := by decide
                    refine m_lv [1, 2, 0] rfl ?_
                    exact L126 (((7 - (0 : Int32).toInt).toNat) + 1) x19 (0 : Int32) g21 (Nat.lt_succ_self _) hI22 hK23 (by omega)
                  · skip
                    have th25 := i_nle h25
                    rw [show (1020 : Int32).toInt = 1020 by decide] at th25
                    refine m_ldc2 C (31) dX8_digest_101 lk_X8_247 ?_
                    refine m_lload_n C dX8_digest_104 1 rfl ?_
                    refine m_lmul C dX8_digest_105 ?_
                    refine m_nameJ (fun x45 ex45 => ?_)
                    refine m_aload_n C dX8_digest_106 0 rfl ?_
                    refine m_getr (rf := "") C 7 rfl gd8 (by decide) sh_0 rfl dX8_digest_107 lk_X8_71 ?_
                    refine m_getrN (rf := "") C 0 rfl gd0 (by decide) sh_30 rfl dX8_digest_110 lk_X8_221 ?_
                    refine m_iload_n C dX8_digest_113 2 rfl ?_
                    refine m_iald C sh_31 (i_in (by omega) (by omega)) dX8_digest_114 ?_
                    refine m_i2l C dX8_digest_115 ?_
                    refine m_ladd C dX8_digest_116 ?_
                    refine m_nameJ (fun x46 ex46 => ?_)
                    refine m_lstore_n C [(1, .long x46), (0, .ref (aL X 0)), (3, .int x20)] dX8_digest_117 (by decide) rfl ?_
                    obtain ⟨x48, ex48⟩ : ∃ z : Int32, z = x20 + Int32.ofInt 1 := ⟨_, rfl⟩
                    have t49 : (x20 + (Int32.ofInt 1)).toInt = x20.toInt + (1 : Int) := i_add rfl (by decide) (by omega) (by omega)
                    have t50 : x48.toInt = (x20.toInt + (1 : Int)) := (congrArg Int32.toInt ex48).trans t49
                    refine m_iinc C x48 [(3, .int x48), (1, .long x46), (0, .ref (aL X 0))] dX8_digest_118 (q := 2) rfl ex48.symm (by decide) rfl ?_
                    refine m_goto C 94 dX8_digest_121 (by decide) ?_
                    refine m_lv [2, 1, 0] rfl ?_
                    exact ih94 x46 x48 g21 (by omega) hI22 hK23 (by omega)
              have t51 : (0 : Int32).toInt = 0 := by decide
              refine m_lv [1, 2, 0] rfl ?_
              exact L94 (((1021 - (0 : Int32).toInt).toNat) + 1) x11 (0 : Int32) g13 (Nat.lt_succ_self _) hI14 hK15 (by omega)
            · skip
              have th17 := i_nle h17
              rw [show (16 : Int32).toInt = 16 by decide] at th17
              refine m_iconst C (0 : Int32) dX8_digest_56 (by decide) ?_
              refine m_istore C [(4, .int (0 : Int32)), (0, .ref (aL X 0)), (1, .long x11), (3, .int x12)] dX8_digest_57 (by decide) rfl ?_
              have L59 : ∀ (n59 : Nat) (x53 : Int64) (x54 : Int32) (g55 : Mem), (3 - x54.toInt).toNat < n59 → Inv g55 → Kp [] g g55 → 0 ≤ x54.toInt ∧ x54.toInt ≤ 2 → Wm X p l e (rmD 3) s m ([.ref (aL X 0)] : List Value).toArray below meth c 5 0 0 (MQ below (cQ X (pJ (fun r g2 => Inv g2 ∧ Kp [] g g2))) ([.ref (aL X 0)] : List Value).toArray s 0 0 (Ab X)) g55 59 [(0, .ref (aL X 0)), (1, .long x53), (3, .int x12), (4, .int x54)] [] := by
                intro n59
                induction n59 with
                | zero => intro x53 x54 g55 hm; exact absurd hm (Nat.not_lt_zero _)
                | succ n59 ih59 =>
                  intro x53 x54 g55 hm59 hI56 hK57 i58
                  try obtain ⟨i58a, i58b⟩ := i58
                  refine m_iload C dX8_digest_59 3 rfl ?_
                  refine m_iconst C (2 : Int32) dX8_digest_61 (by decide) ?_
                  refine m_icmp_ge C 86 dX8_digest_62 (by decide) (fun h59 => ?_) (fun h59 => ?_)
                  · skip
                    have th59 := i_le h59
                    rw [show (2 : Int32).toInt = 2 by decide] at th59
                    obtain ⟨x60, ex60⟩ : ∃ z : Int32, z = x12 + Int32.ofInt 1 := ⟨_, rfl⟩
                    have t61 : (x12 + (Int32.ofInt 1)).toInt = x12.toInt + (1 : Int) := i_add rfl (by decide) (by omega) (by omega)
                    have t62 : x60.toInt = (x12.toInt + (1 : Int)) := (congrArg Int32.toInt ex60).trans t61
                    refine m_iinc C x60 [(3, .int x60), (0, .ref (aL X 0)), (1, .long x53), (4, .int x54)] dX8_digest_86 (q := 2) rfl ex60.symm (by decide) rfl ?_
                    refine m_goto C 50 dX8_digest_89 (by decide) ?_
                    refine m_lv [1, 2, 0] rfl ?_
                    exact ih50 x53 x60 g55 (by omega) hI56 hK57 (by omega)
                  · skip
                    have th59 := i_nle h59
                    rw [show (2 : Int32).toInt = 2 by decide] at th59
                    refine m_ldc2 C (31) dX8_digest_65 lk_X8_247 ?_
                    refine m_lload_n C dX8_digest_68 1 rfl ?_
                    refine m_lmul C dX8_digest_69 ?_
                    refine m_nameJ (fun x63 ex63 => ?_)
                    refine m_aload_n C dX8_digest_70 0 rfl ?_
                    refine m_iload_n C dX8_digest_71 2 rfl ?_
                    refine m_iload C dX8_digest_72 3 rfl ?_
                    refine m_invV C cal_X8_objectAt sh_0 rfl (c_X8_objectAt l hX g55 x12 x54 hI56) lk_X8_252 im_X8_objectAt se_X8_objectAt (by decide) rfl rfl (Nat.le_of_ble_eq_true rfl) dX8_digest_74 ⟨Nat.le_refl _, Nat.le_refl _⟩ (rI fun r64 g65 q66 => ?_)
                    obtain ⟨eg65, p67⟩ := q66
                    subst g65
                    refine m_i2l C dX8_digest_77 ?_
                    refine m_ladd C dX8_digest_78 ?_
                    refine m_nameJ (fun x68 ex68 => ?_)
                    refine m_lstore_n C [(1, .long x68), (0, .ref (aL X 0)), (3, .int x12), (4, .int x54)] dX8_digest_79 (by decide) rfl ?_
                    obtain ⟨x70, ex70⟩ : ∃ z : Int32, z = x54 + Int32.ofInt 1 := ⟨_, rfl⟩
                    have t71 : (x54 + (Int32.ofInt 1)).toInt = x54.toInt + (1 : Int) := i_add rfl (by decide) (by omega) (by omega)
                    have t72 : x70.toInt = (x54.toInt + (1 : Int)) := (congrArg Int32.toInt ex70).trans t71
                    refine m_iinc C x70 [(4, .int x70), (1, .long x68), (0, .ref (aL X 0)), (3, .int x12)] dX8_digest_80 (q := 3) rfl ex70.symm (by decide) rfl ?_
                    refine m_goto C 59 dX8_digest_83 (by decide) ?_
                    refine m_lv [2, 1, 3, 0] rfl ?_
                    exact ih59 x68 x70 g55 (by omega) hI56 hK57 (by omega)
              have t73 : (0 : Int32).toInt = 0 := by decide
              refine m_lv [1, 2, 3, 0] rfl ?_
              exact L59 (((3 - (0 : Int32).toInt).toNat) + 1) x11 (0 : Int32) g13 (Nat.lt_succ_self _) hI14 hK15 (by omega)
        have t74 : (0 : Int32).toInt = 0 := by decide
        refine m_lv [1, 2, 0] rfl ?_
        exact L50 (((17 - (0 : Int32).toInt).toNat) + 1) x3 (0 : Int32) g5 (Nat.lt_succ_self _) hI6 hK7 (by omega)
      · skip
        have th9 := i_nle h9
        rw [show (12 : Int32).toInt = 12 by decide] at th9
        refine m_iconst C (0 : Int32) dX8_digest_12 (by decide) ?_
        refine m_istore C [(4, .int (0 : Int32)), (0, .ref (aL X 0)), (1, .long x3), (3, .int x4)] dX8_digest_13 (by decide) rfl ?_
        have L15 : ∀ (n15 : Nat) (x76 : Int64) (x77 : Int32) (g78 : Mem), (5 - x77.toInt).toNat < n15 → Inv g78 → Kp [] g g78 → 0 ≤ x77.toInt ∧ x77.toInt ≤ 4 → Wm X p l e (rmD 3) s m ([.ref (aL X 0)] : List Value).toArray below meth c 5 0 0 (MQ below (cQ X (pJ (fun r g2 => Inv g2 ∧ Kp [] g g2))) ([.ref (aL X 0)] : List Value).toArray s 0 0 (Ab X)) g78 15 [(0, .ref (aL X 0)), (1, .long x76), (3, .int x4), (4, .int x77)] [] := by
          intro n15
          induction n15 with
          | zero => intro x76 x77 g78 hm; exact absurd hm (Nat.not_lt_zero _)
          | succ n15 ih15 =>
            intro x76 x77 g78 hm15 hI79 hK80 i81
            try obtain ⟨i81a, i81b⟩ := i81
            refine m_iload C dX8_digest_15 3 rfl ?_
            refine m_iconst C (4 : Int32) dX8_digest_17 (by decide) ?_
            refine m_icmp_ge C 42 dX8_digest_18 (by decide) (fun h82 => ?_) (fun h82 => ?_)
            · skip
              have th82 := i_le h82
              rw [show (4 : Int32).toInt = 4 by decide] at th82
              obtain ⟨x83, ex83⟩ : ∃ z : Int32, z = x4 + Int32.ofInt 1 := ⟨_, rfl⟩
              have t84 : (x4 + (Int32.ofInt 1)).toInt = x4.toInt + (1 : Int) := i_add rfl (by decide) (by omega) (by omega)
              have t85 : x83.toInt = (x4.toInt + (1 : Int)) := (congrArg Int32.toInt ex83).trans t84
              refine m_iinc C x83 [(3, .int x83), (0, .ref (aL X 0)), (1, .long x76), (4, .int x77)] dX8_digest_42 (q := 2) rfl ex83.symm (by decide) rfl ?_
              refine m_goto C 6 dX8_digest_45 (by decide) ?_
              refine m_lv [1, 2, 0] rfl ?_
              exact ih6 x76 x83 g78 (by omega) hI79 hK80 (by omega)
            · skip
              have th82 := i_nle h82
              rw [show (4 : Int32).toInt = 4 by decide] at th82
              refine m_ldc2 C (31) dX8_digest_21 lk_X8_247 ?_
              refine m_lload_n C dX8_digest_24 1 rfl ?_
              refine m_lmul C dX8_digest_25 ?_
              refine m_nameJ (fun x86 ex86 => ?_)
              refine m_aload_n C dX8_digest_26 0 rfl ?_
              refine m_iload_n C dX8_digest_27 2 rfl ?_
              refine m_iload C dX8_digest_28 3 rfl ?_
              refine m_invV C cal_X8_subjectAt sh_0 rfl (c_X8_subjectAt l hX g78 x4 x77 hI79) lk_X8_249 im_X8_subjectAt se_X8_subjectAt (by decide) rfl rfl (Nat.le_of_ble_eq_true rfl) dX8_digest_30 ⟨Nat.le_refl _, Nat.le_refl _⟩ (rI fun r87 g88 q89 => ?_)
              obtain ⟨eg88, p90⟩ := q89
              subst g88
              refine m_i2l C dX8_digest_33 ?_
              refine m_ladd C dX8_digest_34 ?_
              refine m_nameJ (fun x91 ex91 => ?_)
              refine m_lstore_n C [(1, .long x91), (0, .ref (aL X 0)), (3, .int x4), (4, .int x77)] dX8_digest_35 (by decide) rfl ?_
              obtain ⟨x93, ex93⟩ : ∃ z : Int32, z = x77 + Int32.ofInt 1 := ⟨_, rfl⟩
              have t94 : (x77 + (Int32.ofInt 1)).toInt = x77.toInt + (1 : Int) := i_add rfl (by decide) (by omega) (by omega)
              have t95 : x93.toInt = (x77.toInt + (1 : Int)) := (congrArg Int32.toInt ex93).trans t94
              refine m_iinc C x93 [(4, .int x93), (1, .long x91), (0, .ref (aL X 0)), (3, .int x4)] dX8_digest_36 (q := 3) rfl ex93.symm (by decide) rfl ?_
              refine m_goto C 15 dX8_digest_39 (by decide) ?_
              refine m_lv [2, 1, 3, 0] rfl ?_
              exact ih15 x91 x93 g78 (by omega) hI79 hK80 (by omega)
        have t96 : (0 : Int32).toInt = 0 := by decide
        refine m_lv [1, 2, 3, 0] rfl ?_
        exact L15 (((5 - (0 : Int32).toInt).toNat) + 1) x3 (0 : Int32) g5 (Nat.lt_succ_self _) hI6 hK7 (by omega)
  have t97 : (0 : Int32).toInt = 0 := by decide
  refine m_lv [2, 1, 0] rfl ?_
  exact L6 (((13 - (0 : Int32).toInt).toNat) + 1) x1 (0 : Int32) g (Nat.lt_succ_self _) hI Kp.rf (by omega)
