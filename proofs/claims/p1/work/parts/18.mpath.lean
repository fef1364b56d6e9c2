set_option maxRecDepth 20000 in
set_option maxHeartbeats 4000000 in
theorem c_X9_root (l : Launch) {X : XT} (hX : Lok X) (g : Mem) (n0 : Int32) (k : Int32) (hI : Inv g) : Ctr l X yX9_root cX9_root 3 (some .int) (rmD 6) [.ref (aL X 34), .int n0, .int k] g (pI (fun r g2 => Inv g2 ∧ Kq [36, 37, 38, 39, 50, 51, 52] [4] g g2)) := by
  refine Ctr.of (lv := [(0, .ref (aL X 34)), (1, .int n0), (2, .int k)]) hX (by decide) rfl (Nat.le_of_ble_eq_true rfl) ?_
  intro p e s m below meth c C
  refine m_iload_n C dX9_root_0 1 rfl ?_
  refine m_i2l C dX9_root_1 ?_
  refine m_lconst C (0 : Int64) dX9_root_2 (by decide) ?_
  refine m_aload_n C dX9_root_3 0 rfl ?_
  refine m_invV C cal_X9_entriesNow sh_34 rfl (c_X9_entriesNow l hX g  hI) lk_X9_262 im_X9_entriesNow se_X9_entriesNow (by decide) rfl rfl (Nat.le_of_ble_eq_true rfl) dX9_root_4 ⟨Nat.le_refl _, Nat.le_refl _⟩ (rI fun r1 g2 q3 => ?_)
  obtain ⟨eg2, p4⟩ := q3
  subst g2
  refine m_i2l C dX9_root_7 ?_
  have t5 : (n0.toInt64).toInt = n0.toInt := i2l_t _
  have t6 : (0 : Int64).toInt = 0 := by decide
  have t7 : (r1.toInt64).toInt = r1.toInt := i2l_t _
  refine m_invS C cal_X9_in (c_X9_in l hX g (n0.toInt64) (0 : Int64) (r1.toInt64) ) lk_X9_185 st_X9_in (by decide) rfl rfl (Nat.le_of_ble_eq_true rfl) dX9_root_8 ⟨Nat.le_refl _, Nat.le_refl _⟩ (rI fun r8 g9 q10 => ?_)
  obtain ⟨eg9, ⟨rfl, h11⟩ | ⟨rfl, h11⟩⟩ := q10
  · skip
    subst g9
    refine m_if_eq C 26 dX9_root_11 (by decide) (fun h => absurd h (by decide)) (fun _ => ?_)
    refine m_iload_n C dX9_root_14 2 rfl ?_
    refine m_i2l C dX9_root_15 ?_
    refine m_lconst C (0 : Int64) dX9_root_16 (by decide) ?_
    refine m_ldc2 C (31) dX9_root_17 lk_X9_265 ?_
    have t12 : (k.toInt64).toInt = k.toInt := i2l_t _
    have t13 : (0 : Int64).toInt = 0 := by decide
    have t14 : (31 : Int64).toInt = 31 := by decide
    refine m_invS C cal_X9_in (c_X9_in l hX g (k.toInt64) (0 : Int64) (31 : Int64) ) lk_X9_185 st_X9_in (by decide) rfl rfl (Nat.le_of_ble_eq_true rfl) dX9_root_20 ⟨Nat.le_refl _, Nat.le_refl _⟩ (rI fun r15 g16 q17 => ?_)
    obtain ⟨eg16, ⟨rfl, h18⟩ | ⟨rfl, h18⟩⟩ := q17
    · skip
      subst g16
      refine m_if_ne C 29 dX9_root_23 (by decide) (fun _ => ?_) (fun h => absurd h (by decide))
      refine m_aload_n C dX9_root_29 0 rfl ?_
      refine m_iconst C (0 : Int32) dX9_root_30 (by decide) ?_
      refine m_iload_n C dX9_root_31 1 rfl ?_
      have t19 : (0 : Int32).toInt = 0 := by decide
      refine m_invV C cal_X9_rootOf sh_34 rfl (c_X9_rootOf l hX g (0 : Int32) n0 hI (by omega) (by omega) (by omega)) lk_X9_277 im_X9_rootOf se_X9_rootOf (by decide) rfl rfl (Nat.le_of_ble_eq_true rfl) dX9_root_32 ⟨Nat.le_refl _, Nat.le_refl _⟩ (rV fun g21 q22 => ?_)
      obtain ⟨hI23, hK24⟩ := q22
      have hK25 : Kq [36, 37, 38, 39, 50, 51, 52] [4] g g21 := (Kq.rf).tr hK24 (by decide) (by decide)
      refine m_aload_n C dX9_root_35 0 rfl ?_
      refine m_getr (rf := "") C 5 rfl gd9 (by decide) sh_34 rfl dX9_root_36 lk_X9_22 ?_
      refine m_iload_n C dX9_root_39 2 rfl ?_
      refine m_iald C sh_39 (i_in (by omega) (by omega)) dX9_root_40 ?_
      exact m_iret C dX9_root_41 ⟨_, rfl, hI23, hK25⟩
    · skip
      subst g16
      refine m_if_ne C 29 dX9_root_23 (by decide) (fun h => absurd (by decide) h) (fun _ => ?_)
      refine m_bipush C (-2 : Int32) dX9_root_26 (by decide) ?_
      exact m_iret C dX9_root_28 ⟨_, rfl, hI, Kq.rf⟩
  · skip
    subst g9
    refine m_if_eq C 26 dX9_root_11 (by decide) (fun _ => ?_) (fun h => absurd (by decide) h)
    refine m_bipush C (-2 : Int32) dX9_root_26 (by decide) ?_
    exact m_iret C dX9_root_28 ⟨_, rfl, hI, Kq.rf⟩
set_option maxRecDepth 20000 in
set_option maxHeartbeats 4000000 in
theorem c_X9_keep (l : Launch) {X : XT} (hX : Lok X) (g : Mem) (q : Int32) (n0 : Int32) (hI : Inv g) : Ctr l X yX9_keep cX9_keep 3 (some .int) (rmD 6) [.ref (aL X 34), .int q, .int n0] g (pI (fun r g2 => Inv g2 ∧ Kq [36, 37, 38, 39, 50, 51, 52, 56] [4] g g2)) := by
  refine Ctr.of (lv := [(0, .ref (aL X 34)), (1, .int q), (2, .int n0)]) hX (by decide) rfl (Nat.le_of_ble_eq_true rfl) ?_
  intro p e s m below meth c C
  refine m_iload_n C dX9_keep_0 1 rfl ?_
  refine m_i2l C dX9_keep_1 ?_
  refine m_lconst C (0 : Int64) dX9_keep_2 (by decide) ?_
  refine m_ldc2 C (3) dX9_keep_3 lk_X9_234 ?_
  have t1 : (q.toInt64).toInt = q.toInt := i2l_t _
  have t2 : (0 : Int64).toInt = 0 := by decide
  have t3 : (3 : Int64).toInt = 3 := by decide
  refine m_invS C cal_X9_in (c_X9_in l hX g (q.toInt64) (0 : Int64) (3 : Int64) ) lk_X9_185 st_X9_in (by decide) rfl rfl (Nat.le_of_ble_eq_true rfl) dX9_keep_6 ⟨Nat.le_refl _, Nat.le_refl _⟩ (rI fun r4 g5 q6 => ?_)
  obtain ⟨eg5, ⟨rfl, h7⟩ | ⟨rfl, h7⟩⟩ := q6
  · skip
    subst g5
    refine m_if_eq C 26 dX9_keep_9 (by decide) (fun h => absurd h (by decide)) (fun _ => ?_)
    refine m_iload_n C dX9_keep_12 2 rfl ?_
    refine m_i2l C dX9_keep_13 ?_
    refine m_lconst C (0 : Int64) dX9_keep_14 (by decide) ?_
    refine m_aload_n C dX9_keep_15 0 rfl ?_
    refine m_invV C cal_X9_entriesNow sh_34 rfl (c_X9_entriesNow l hX g  hI) lk_X9_262 im_X9_entriesNow se_X9_entriesNow (by decide) rfl rfl (Nat.le_of_ble_eq_true rfl) dX9_keep_16 ⟨Nat.le_refl _, Nat.le_refl _⟩ (rI fun r8 g9 q10 => ?_)
    obtain ⟨eg9, p11⟩ := q10
    subst g9
    refine m_i2l C dX9_keep_19 ?_
    have t12 : (n0.toInt64).toInt = n0.toInt := i2l_t _
    have t13 : (0 : Int64).toInt = 0 := by decide
    have t14 : (r8.toInt64).toInt = r8.toInt := i2l_t _
    refine m_invS C cal_X9_in (c_X9_in l hX g (n0.toInt64) (0 : Int64) (r8.toInt64) ) lk_X9_185 st_X9_in (by decide) rfl rfl (Nat.le_of_ble_eq_true rfl) dX9_keep_20 ⟨Nat.le_refl _, Nat.le_refl _⟩ (rI fun r15 g16 q17 => ?_)
    obtain ⟨eg16, ⟨rfl, h18⟩ | ⟨rfl, h18⟩⟩ := q17
    · skip
      subst g16
      refine m_if_ne C 29 dX9_keep_23 (by decide) (fun _ => ?_) (fun h => absurd h (by decide))
      refine m_aload_n C dX9_keep_29 0 rfl ?_
      refine m_iconst C (0 : Int32) dX9_keep_30 (by decide) ?_
      refine m_iload_n C dX9_keep_31 2 rfl ?_
      have t19 : (0 : Int32).toInt = 0 := by decide
      refine m_invV C cal_X9_rootOf sh_34 rfl (c_X9_rootOf l hX g (0 : Int32) n0 hI (by omega) (by omega) (by omega)) lk_X9_277 im_X9_rootOf se_X9_rootOf (by decide) rfl rfl (Nat.le_of_ble_eq_true rfl) dX9_keep_32 ⟨Nat.le_refl _, Nat.le_refl _⟩ (rV fun g21 q22 => ?_)
      obtain ⟨hI23, hK24⟩ := q22
      have hK25 : Kq [36, 37, 38, 39, 50, 51, 52, 56] [4] g g21 := (Kq.rf).tr hK24 (by decide) (by decide)
      refine m_aload_n C dX9_keep_35 0 rfl ?_
      refine m_aload_n C dX9_keep_36 0 rfl ?_
      refine m_getr (rf := "") C 30 rfl gd9 (by decide) sh_34 rfl dX9_keep_37 lk_X9_74 ?_
      refine m_bipush C (32 : Int32) dX9_keep_40 (by decide) ?_
      refine m_iload_n C dX9_keep_42 1 rfl ?_
      refine m_imul C dX9_keep_43 ?_
      have t26 : ((32 : Int32) * q).toInt = (32 : Int) * q.toInt := i_mul (by decide) rfl (by omega) (by omega)
      refine m_invV C cal_X9_lay sh_34 rfl (c_X9_lay_56 l hX g21 ((32 : Int32) * q) hI23 (by omega)) lk_X9_213 im_X9_lay se_X9_lay (by decide) rfl rfl (Nat.le_of_ble_eq_true rfl) dX9_keep_44 ⟨Nat.le_refl _, Nat.le_refl _⟩ (rV fun g28 q29 => ?_)
      obtain ⟨hI30, hK31⟩ := q29
      have hK32 : Kq [36, 37, 38, 39, 50, 51, 52, 56] [4] g g28 := (hK25).tr hK31 (by decide) (by decide)
      refine m_iconst C (1 : Int32) dX9_keep_47 (by decide) ?_
      exact m_iret C dX9_keep_48 ⟨_, rfl, hI30, hK32⟩
    · skip
      subst g16
      refine m_if_ne C 29 dX9_keep_23 (by decide) (fun h => absurd (by decide) h) (fun _ => ?_)
      refine m_bipush C (-2 : Int32) dX9_keep_26 (by decide) ?_
      exact m_iret C dX9_keep_28 ⟨_, rfl, hI, Kq.rf⟩
  · skip
    subst g5
    refine m_if_eq C 26 dX9_keep_9 (by decide) (fun _ => ?_) (fun h => absurd (by decide) h)
    refine m_bipush C (-2 : Int32) dX9_keep_26 (by decide) ?_
    exact m_iret C dX9_keep_28 ⟨_, rfl, hI, Kq.rf⟩
set_option maxRecDepth 20000 in
set_option maxHeartbeats 4000000 in
theorem c_X9_tells (l : Launch) {X : XT} (hX : Lok X) (g : Mem) (p0 : Int32) (hI : Inv g) (h_p0 : 0 ≤ p0.toInt ∧ p0.toInt ≤ 8) (hq : (g 34 26).toInt + p0.toInt ≤ 8) (hpf : n_pp g p0) : Ctr l X yX9_tells cX9_tells 3 (some .int) (rmD 6) [.ref (aL X 34), .int p0] g (pI (fun r g2 => Inv g2 ∧ Kq [36, 37, 38, 39, 50, 51, 52, 53] [4, 26] g g2)) := by
  refine Ctr.of (lv := [(0, .ref (aL X 34)), (1, .int p0)]) hX (by decide) rfl (Nat.le_of_ble_eq_true rfl) ?_
  intro p e s m below meth c C
  refine m_iload_n C dX9_tells_0 1 rfl ?_
  refine m_iconst C (1 : Int32) dX9_tells_1 (by decide) ?_
  refine m_isub C dX9_tells_2 ?_
  refine m_name (fun x1 ex1 => ?_)
  have t2 : (p0 - (1 : Int32)).toInt = p0.toInt - (1 : Int) := i_sub rfl (by decide) (by omega) (by omega)
  have t3 : x1.toInt = (p0.toInt - (1 : Int)) := (congrArg Int32.toInt ex1).trans t2
  refine m_istore_n C [(2, .int x1), (0, .ref (aL X 34)), (1, .int p0)] dX9_tells_3 (by decide) rfl ?_
  have L4 : ∀ (n4 : Nat) (x4 : Int32) (g5 : Mem), (x4.toInt + 1).toNat < n4 → Inv g5 → Kq [36, 37, 38, 39, 50, 51, 52, 53] [4, 26] g g5 → -1 ≤ x4.toInt ∧ x4.toInt < p0.toInt → (g5 34 26).toInt + x4.toInt + 1 ≤ 8 → Wm X p l e (rmD 6) s m ([.ref (aL X 34), .int p0] : List Value).toArray below meth c 3 0 0 (MQ below (cQ X (pI (fun r g2 => Inv g2 ∧ Kq [36, 37, 38, 39, 50, 51, 52, 53] [4, 26] g g2))) ([.ref (aL X 34), .int p0] : List Value).toArray s 0 0 (Ab X)) g5 4 [(0, .ref (aL X 34)), (1, .int p0), (2, .int x4)] [] := by
    intro n4
    induction n4 with
    | zero => intro x4 g5 hm; exact absurd hm (Nat.not_lt_zero _)
    | succ n4 ih4 =>
      intro x4 g5 hm4 hI6 hK7 i8 i9
      obtain ⟨i8a, i8b⟩ := i8
      refine m_iload_n C dX9_tells_4 2 rfl ?_
      refine m_if_lt C 55 dX9_tells_5 (by decide) (fun h10 => ?_) (fun h10 => ?_)
      · skip
        have th10 := i_lt h10
        rw [show (0 : Int32).toInt = 0 by decide] at th10
        refine m_aload_n C dX9_tells_55 0 rfl ?_
        refine m_geti (rf := "") C 26 rfl gd9 (by decide) sh_34 rfl dX9_tells_56 lk_X9_281 ?_
        have r11 := iv_pmany hI6
        exact m_iret C dX9_tells_59 ⟨_, rfl, hI6, hK7⟩
      · skip
        have th10 := i_nlt h10
        rw [show (0 : Int32).toInt = 0 by decide] at th10
        refine m_aload_n C dX9_tells_8 0 rfl ?_
        refine m_aload_n C dX9_tells_9 0 rfl ?_
        refine m_getr (rf := "") C 28 rfl gd9 (by decide) sh_34 rfl dX9_tells_10 lk_X9_68 ?_
        refine m_iload_n C dX9_tells_13 2 rfl ?_
        refine m_iald C sh_54 (i_in (by omega) (by omega)) dX9_tells_14 ?_
        refine m_aload_n C dX9_tells_15 0 rfl ?_
        refine m_getr (rf := "") C 29 rfl gd9 (by decide) sh_34 rfl dX9_tells_16 lk_X9_71 ?_
        refine m_iload_n C dX9_tells_19 2 rfl ?_
        refine m_iald C sh_55 (i_in (by omega) (by omega)) dX9_tells_20 ?_
        have hf1 := hpf x4.toNatClampNeg (by rw [i_cl (by omega)]; omega)
        rw [← hK7.1 54 (by decide) (by decide), ← hK7.1 55 (by decide) (by decide)] at hf1
        refine m_invV C cal_X9_rootOf sh_34 rfl (c_X9_rootOf l hX g5 (g5 54 x4.toNatClampNeg) (g5 55 x4.toNatClampNeg) hI6 (by omega) (by omega) (by omega)) lk_X9_277 im_X9_rootOf se_X9_rootOf (by decide) rfl rfl (Nat.le_of_ble_eq_true rfl) dX9_tells_21 ⟨Nat.le_refl _, Nat.le_refl _⟩ (rV fun g13 q14 => ?_)
        obtain ⟨hI15, hK16⟩ := q14
        have ev17 : g13 34 26 = g5 34 26 := hK16.2 26 (by decide)
        have tev17 := congrArg Int32.toInt ev17
        have hK18 : Kq [36, 37, 38, 39, 50, 51, 52, 53] [4, 26] g g13 := (hK7).tr hK16 (by decide) (by decide)
        refine m_aload_n C dX9_tells_24 0 rfl ?_
        refine m_aload_n C dX9_tells_25 0 rfl ?_
        refine m_getr (rf := "") C 27 rfl gd9 (by decide) sh_34 rfl dX9_tells_26 lk_X9_65 ?_
        refine m_bipush C (32 : Int32) dX9_tells_29 (by decide) ?_
        refine m_aload_n C dX9_tells_31 0 rfl ?_
        refine m_geti (rf := "") C 26 rfl gd9 (by decide) sh_34 rfl dX9_tells_32 lk_X9_281 ?_
        have r19 := iv_pmany hI15
        refine m_imul C dX9_tells_35 ?_
        have t20 : ((32 : Int32) * (g13 34 26)).toInt = (32 : Int) * (g13 34 26).toInt := i_mul (by decide) rfl (by omega) (by omega)
        refine m_invV C cal_X9_lay sh_34 rfl (c_X9_lay_53 l hX g13 ((32 : Int32) * (g13 34 26)) hI15 (by omega)) lk_X9_213 im_X9_lay se_X9_lay (by decide) rfl rfl (Nat.le_of_ble_eq_true rfl) dX9_tells_36 ⟨Nat.le_refl _, Nat.le_refl _⟩ (rV fun g22 q23 => ?_)
        obtain ⟨hI24, hK25⟩ := q23
        have ev26 : g22 34 26 = g13 34 26 := hK25.2 26 (by decide)
        have tev26 := congrArg Int32.toInt ev26
        have hK27 : Kq [36, 37, 38, 39, 50, 51, 52, 53] [4, 26] g g22 := (hK18).tr hK25 (by decide) (by decide)
        refine m_aload_n C dX9_tells_39 0 rfl ?_
        refine m_dup C dX9_tells_40 rfl ?_
        refine m_geti (rf := "") C 26 rfl gd9 (by decide) sh_34 rfl dX9_tells_41 lk_X9_281 ?_
        have r28 := iv_pmany hI24
        refine m_iconst C (1 : Int32) dX9_tells_44 (by decide) ?_
        refine m_iadd C dX9_tells_45 ?_
        have t29 : ((g22 34 26) + (1 : Int32)).toInt = (g22 34 26).toInt + (1 : Int) := i_add rfl (by decide) (by omega) (by omega)
        refine m_put (rf := "") C 26 rfl gd9 (by decide) tyX9 tyX9_ok nmX9 rfl (tyX9_ok 26 (by decide)) rfl rfl sh_34 rfl dX9_tells_46 lk_X9_281 ?_
        refine m_mem (fun g30 eg30 => ?_)
        have hI31 : Inv g30 := by rw [eg30]; exact hI24.up (ok_pmany (by omega) (by omega))
        have hK32 : Kq [36, 37, 38, 39, 50, 51, 52, 53] [4, 26] g g30 := by rw [eg30]; exact Kq.upF hK27 (by decide)
        have w33 : g30 34 26 = (g22 34 26) + (1 : Int32) := by rw [eg30]; exact up2_self
        have tw33 := congrArg Int32.toInt w33
        obtain ⟨x34, ex34⟩ : ∃ z : Int32, z = x4 - (1 : Int32) := ⟨_, rfl⟩
        have t35 : (x4 - (1 : Int32)).toInt = x4.toInt - (1 : Int) := i_sub rfl (by decide) (by omega) (by omega)
        have t36 : x34.toInt = (x4.toInt - (1 : Int)) := (congrArg Int32.toInt ex34).trans t35
        refine m_iinc C x34 [(2, .int x34), (0, .ref (aL X 34)), (1, .int p0)] dX9_tells_49 (q := 2) rfl ((iinc_m1 _).trans ex34.symm) (by decide) rfl ?_
        refine m_goto C 4 dX9_tells_52 (by decide) ?_
        refine m_lv [1, 2, 0] rfl ?_
        exact ih4 x34 g30 (by omega) hI31 hK32 (by omega) (by omega)
  refine m_lv [1, 2, 0] rfl ?_
  exact L4 (((x1.toInt + 1).toNat) + 1) x1 g (Nat.lt_succ_self _) hI Kq.rf (by omega) (by omega)
set_option maxRecDepth 20000 in
set_option maxHeartbeats 4000000 in
theorem c_X9_path (l : Launch) {X : XT} (hX : Lok X) (g : Mem) (i0 : Int32) (n0 : Int32) (hI : Inv g) : Ctr l X yX9_path cX9_path 8 (some .int) (rmD 7) [.ref (aL X 34), .int i0, .int n0] g (pI (fun r g2 => Inv g2 ∧ Kq [36, 37, 38, 39, 50, 51, 52, 53, 54, 55] [4, 26] g g2)) := by
  refine Ctr.of (lv := [(0, .ref (aL X 34)), (1, .int i0), (2, .int n0)]) hX (by decide) rfl (Nat.le_of_ble_eq_true rfl) ?_
  intro p e s m below meth c C
  refine m_iload_n C dX9_path_0 2 rfl ?_
  refine m_i2l C dX9_path_1 ?_
  refine m_lconst C (0 : Int64) dX9_path_2 (by decide) ?_
  refine m_aload_n C dX9_path_3 0 rfl ?_
  refine m_invV C cal_X9_entriesNow sh_34 rfl (c_X9_entriesNow l hX g  hI) lk_X9_262 im_X9_entriesNow se_X9_entriesNow (by decide) rfl rfl (Nat.le_of_ble_eq_true rfl) dX9_path_4 ⟨Nat.le_refl _, Nat.le_refl _⟩ (rI fun r1 g2 q3 => ?_)
  obtain ⟨eg2, p4⟩ := q3
  subst g2
  refine m_i2l C dX9_path_7 ?_
  have t5 : (n0.toInt64).toInt = n0.toInt := i2l_t _
  have t6 : (0 : Int64).toInt = 0 := by decide
  have t7 : (r1.toInt64).toInt = r1.toInt := i2l_t _
  refine m_invS C cal_X9_in (c_X9_in l hX g (n0.toInt64) (0 : Int64) (r1.toInt64) ) lk_X9_185 st_X9_in (by decide) rfl rfl (Nat.le_of_ble_eq_true rfl) dX9_path_8 ⟨Nat.le_refl _, Nat.le_refl _⟩ (rI fun r8 g9 q10 => ?_)
  obtain ⟨eg9, ⟨rfl, h11⟩ | ⟨rfl, h11⟩⟩ := q10
  · skip
    subst g9
    refine m_if_eq C 27 dX9_path_11 (by decide) (fun h => absurd h (by decide)) (fun _ => ?_)
    refine m_iload_n C dX9_path_14 1 rfl ?_
    refine m_i2l C dX9_path_15 ?_
    refine m_lconst C (0 : Int64) dX9_path_16 (by decide) ?_
    refine m_iload_n C dX9_path_17 2 rfl ?_
    refine m_iconst C (1 : Int32) dX9_path_18 (by decide) ?_
    refine m_isub C dX9_path_19 ?_
    refine m_i2l C dX9_path_20 ?_
    have t12 : (i0.toInt64).toInt = i0.toInt := i2l_t _
    have t13 : (0 : Int64).toInt = 0 := by decide
    have t14 : (n0 - (1 : Int32)).toInt = n0.toInt - (1 : Int) := i_sub rfl (by decide) (by omega) (by omega)
    have t15 : ((n0 - (1 : Int32)).toInt64).toInt = (n0 - (1 : Int32)).toInt := i2l_t _
    refine m_invS C cal_X9_in (c_X9_in l hX g (i0.toInt64) (0 : Int64) ((n0 - (1 : Int32)).toInt64) ) lk_X9_185 st_X9_in (by decide) rfl rfl (Nat.le_of_ble_eq_true rfl) dX9_path_21 ⟨Nat.le_refl _, Nat.le_refl _⟩ (rI fun r16 g17 q18 => ?_)
    obtain ⟨eg17, ⟨rfl, h19⟩ | ⟨rfl, h19⟩⟩ := q18
    · skip
      subst g17
      refine m_if_ne C 30 dX9_path_24 (by decide) (fun _ => ?_) (fun h => absurd h (by decide))
      refine m_aload_n C dX9_path_30 0 rfl ?_
      refine m_iconst C (0 : Int32) dX9_path_31 (by decide) ?_
      refine m_put (rf := "") C 26 rfl gd9 (by decide) tyX9 tyX9_ok nmX9 rfl (tyX9_ok 26 (by decide)) rfl rfl sh_34 rfl dX9_path_32 lk_X9_281 ?_
      refine m_mem (fun g20 eg20 => ?_)
      have hI21 : Inv g20 := by rw [eg20]; exact hI.up (ok_pmany (by decide) (by decide))
      have hK22 : Kq [36, 37, 38, 39, 50, 51, 52, 53, 54, 55] [4, 26] g g20 := by rw [eg20]; exact Kq.upF Kq.rf (by decide)
      have w23 : g20 34 26 = (0 : Int32) := by rw [eg20]; exact up2_self
      have tw23 := congrArg Int32.toInt w23
      rw [show (0 : Int32).toInt = 0 by decide] at tw23
      refine m_iconst C (0 : Int32) dX9_path_35 (by decide) ?_
      refine m_istore_n C [(3, .int (0 : Int32)), (0, .ref (aL X 34)), (1, .int i0), (2, .int n0)] dX9_path_36 (by decide) rfl ?_
      refine m_iload_n C dX9_path_37 3 rfl ?_
      refine m_istore C [(4, .int n0), (3, .int (0 : Int32)), (0, .ref (aL X 34)), (1, .int i0), (2, .int n0)] dX9_path_38 (by decide) rfl ?_
      refine m_iconst C (0 : Int32) dX9_path_40 (by decide) ?_
      refine m_istore C [(5, .int (0 : Int32)), (4, .int n0), (3, .int (0 : Int32)), (0, .ref (aL X 34)), (1, .int i0), (2, .int n0)] dX9_path_41 (by decide) rfl ?_
      have L43 : ∀ (n43 : Nat) (x27 : Int32) (x28 : Int32) (x29 : Int32) (g30 : Mem), (x28.toInt).toNat < n43 → Inv g30 → Kq [36, 37, 38, 39, 50, 51, 52, 53, 54, 55] [4, 26] g g30 → 0 ≤ x27.toInt ∧ 0 ≤ x28.toInt ∧ x27.toInt + x28.toInt ≤ 60 → n_hl x28 x29 → (g30 34 26).toInt = 0 → n_pp g30 x29 → Wm X p l e (rmD 7) s m ([.ref (aL X 34), .int i0, .int n0] : List Value).toArray below meth c 8 0 0 (MQ below (cQ X (pI (fun r g2 => Inv g2 ∧ Kq [36, 37, 38, 39, 50, 51, 52, 53, 54, 55] [4, 26] g g2))) ([.ref (aL X 34), .int i0, .int n0] : List Value).toArray s 0 0 (Ab X)) g30 43 [(0, .ref (aL X 34)), (1, .int i0), (2, .int n0), (3, .int x27), (4, .int x28), (5, .int x29)] [] := by
        intro n43
        induction n43 with
        | zero => intro x27 x28 x29 g30 hm; exact absurd hm (Nat.not_lt_zero _)
        | succ n43 ih43 =>
          intro x27 x28 x29 g30 hm43 hI31 hK32 i33 i34 i35 i36
          obtain ⟨i33a, i33b⟩ := i33
          refine m_iload C dX9_path_43 4 rfl ?_
          refine m_iconst C (1 : Int32) dX9_path_45 (by decide) ?_
          refine m_icmp_le C 150 dX9_path_46 (by decide) (fun h37 => ?_) (fun h37 => ?_)
          · skip
            have th37 := i_le h37
            rw [show (1 : Int32).toInt = 1 by decide] at th37
            have hde := n_hle (by assumption)
            refine m_aload_n C dX9_path_150 0 rfl ?_
            refine m_iload C dX9_path_151 5 rfl ?_
            refine m_invV C cal_X9_tells sh_34 rfl (c_X9_tells l hX g30 x29 hI31 (by omega) (by omega) (by assumption)) lk_X9_288 im_X9_tells se_X9_tells (by decide) rfl rfl (Nat.le_of_ble_eq_true rfl) dX9_path_153 ⟨Nat.le_refl _, Nat.le_refl _⟩ (rI fun r38 g39 q40 => ?_)
            obtain ⟨hI41, hK42⟩ := q40
            have hK43 : Kq [36, 37, 38, 39, 50, 51, 52, 53, 54, 55] [4, 26] g g39 := (hK32).tr hK42 (by decide) (by decide)
            exact m_iret C dX9_path_156 ⟨_, rfl, hI41, hK43⟩
          · skip
            have th37 := i_nle h37
            rw [show (1 : Int32).toInt = 1 by decide] at th37
            have hdp := n_hld (by assumption) (by omega)
            refine m_iload C dX9_path_49 4 rfl ?_
            refine m_invS C cal_X9_below (c_X9_below l hX g30 x28 hI31 (by omega)) lk_X9_284 st_X9_below (by decide) rfl rfl (Nat.le_of_ble_eq_true rfl) dX9_path_51 ⟨Nat.le_refl _, Nat.le_refl _⟩ (rI fun r44 g45 q46 => ?_)
            obtain ⟨hI47, hK48, ⟨p49, p49a, p49b⟩⟩ := q46
            have ev50 : g45 34 26 = g30 34 26 := hK48.2 26 (by decide)
            have tev50 := congrArg Int32.toInt ev50
            have hK51 : Kq [36, 37, 38, 39, 50, 51, 52, 53, 54, 55] [4, 26] g g45 := (hK32).tr hK48 (by decide) (by decide)
            refine m_istore C [(6, .int r44), (0, .ref (aL X 34)), (1, .int i0), (2, .int n0), (3, .int x27), (4, .int x28), (5, .int x29)] dX9_path_54 (by decide) rfl ?_
            refine m_iload_n C dX9_path_56 2 rfl ?_
            refine m_iload_n C dX9_path_57 4 rfl ?_
            refine m_isub C dX9_path_58 ?_
            refine m_iload C dX9_path_59 0 rfl ?_
            have t53 : (i0 - x27).toInt = i0.toInt - x27.toInt := i_sub rfl rfl (by omega) (by omega)
            refine m_icmp_ge C 68 dX9_path_61 (by decide) (fun h54 => ?_) (fun h54 => ?_)
            · skip
              have th54 := i_le h54
              refine m_iconst C (0 : Int32) dX9_path_68 (by decide) ?_
              refine m_istore C [(7, .int (0 : Int32)), (6, .int r44), (0, .ref (aL X 34)), (1, .int i0), (2, .int n0), (3, .int x27), (4, .int x28), (5, .int x29)] dX9_path_69 (by decide) rfl ?_
              refine m_aload_n C dX9_path_71 2 rfl ?_
              refine m_getr (rf := "") C 28 rfl gd9 (by decide) sh_34 rfl dX9_path_72 lk_X9_68 ?_
              refine m_iload C dX9_path_75 7 rfl ?_
              refine m_iload C dX9_path_77 0 rfl ?_
              refine m_if_eq C 89 dX9_path_79 (by decide) (fun _ => ?_) (fun h => absurd (by decide) h)
              refine m_iload_n C dX9_path_89 5 rfl ?_
              refine m_iast C sh_54 (i_in (by omega) (by omega)) dX9_path_90 ?_
              refine m_mem (fun g56 eg56 => ?_)
              have hI57 : Inv g56 := by rw [eg56]; exact hI47.up (ok_any (by decide))
              have hK58 : Kq [36, 37, 38, 39, 50, 51, 52, 53, 54, 55] [4, 26] g g56 := by rw [eg56]; exact Kq.upA hK51 (by decide) (by decide)
              have ev59 : g56 34 26 = g45 34 26 := by rw [eg56]; exact up2_nei (Or.inl (by decide))
              have tev59 := congrArg Int32.toInt ev59
              refine m_aload_n C dX9_path_91 2 rfl ?_
              refine m_getr (rf := "") C 29 rfl gd9 (by decide) sh_34 rfl dX9_path_92 lk_X9_71 ?_
              refine m_iload C dX9_path_95 7 rfl ?_
              refine m_iload C dX9_path_97 0 rfl ?_
              refine m_if_eq C 110 dX9_path_99 (by decide) (fun _ => ?_) (fun h => absurd (by decide) h)
              refine m_iload C dX9_path_110 1 rfl ?_
              refine m_iast C sh_55 (i_in (by omega) (by omega)) dX9_path_112 ?_
              refine m_mem (fun g60 eg60 => ?_)
              have hI61 : Inv g60 := by rw [eg60]; exact hI57.up (ok_any (by decide))
              have hK62 : Kq [36, 37, 38, 39, 50, 51, 52, 53, 54, 55] [4, 26] g g60 := by rw [eg60]; exact Kq.upA hK58 (by decide) (by decide)
              have ev63 : g60 34 26 = g56 34 26 := by rw [eg60]; exact up2_nei (Or.inl (by decide))
              have tev63 := congrArg Int32.toInt ev63
              obtain ⟨x64, ex64⟩ : ∃ z : Int32, z = x29 + Int32.ofInt 1 := ⟨_, rfl⟩
              have t65 : (x29 + (Int32.ofInt 1)).toInt = x29.toInt + (1 : Int) := i_add rfl (by decide) (by omega) (by omega)
              have t66 : x64.toInt = (x29.toInt + (1 : Int)) := (congrArg Int32.toInt ex64).trans t65
              refine m_iinc C x64 [(5, .int x64), (7, .int (0 : Int32)), (6, .int r44), (0, .ref (aL X 34)), (1, .int i0), (2, .int n0), (3, .int x27), (4, .int x28)] dX9_path_113 (q := 7) rfl ex64.symm (by decide) rfl ?_
              refine m_iload_n C dX9_path_116 6 rfl ?_
              refine m_iload C dX9_path_117 1 rfl ?_
              refine m_if_eq C 126 dX9_path_119 (by decide) (fun _ => ?_) (fun h => absurd (by decide) h)
              refine m_iload C dX9_path_126 2 rfl ?_
              refine m_iadd C dX9_path_128 ?_
              refine m_name (fun x67 ex67 => ?_)
              have t68 : (x27 + r44).toInt = x27.toInt + r44.toInt := i_add rfl rfl (by omega) (by omega)
              have t69 : x67.toInt = (x27.toInt + r44.toInt) := (congrArg Int32.toInt ex67).trans t68
              refine m_istore_n C [(3, .int x67), (5, .int x64), (7, .int (0 : Int32)), (6, .int r44), (0, .ref (aL X 34)), (1, .int i0), (2, .int n0), (4, .int x28)] dX9_path_129 (by decide) rfl ?_
              refine m_iload C dX9_path_130 2 rfl ?_
              refine m_if_eq C 140 dX9_path_132 (by decide) (fun _ => ?_) (fun h => absurd (by decide) h)
              refine m_iload C dX9_path_140 7 rfl ?_
              refine m_iload C dX9_path_142 3 rfl ?_
              refine m_isub C dX9_path_144 ?_
              refine m_name (fun x70 ex70 => ?_)
              have t71 : (x28 - r44).toInt = x28.toInt - r44.toInt := i_sub rfl rfl (by omega) (by omega)
              have t72 : x70.toInt = (x28.toInt - r44.toInt) := (congrArg Int32.toInt ex70).trans t71
              refine m_istore C [(4, .int x70), (3, .int x67), (5, .int x64), (7, .int (0 : Int32)), (6, .int r44), (0, .ref (aL X 34)), (1, .int i0), (2, .int n0)] dX9_path_145 (by decide) rfl ?_
              have hpp : n_pp g60 x64 := by rw [eg60, eg56]; exact n_pp_add (n_pp_eq (by assumption) (hK48.1 54 (by decide) (by decide)) (hK48.1 55 (by decide) (by decide))) (by omega) (by omega) (by omega) (by omega) (by omega)
              have hhl : n_hl x70 x64 := n_hl1 (k := r44) (by assumption) (by assumption) (by omega) (by omega) (by omega) (by omega)
              refine m_goto C 43 dX9_path_147 (by decide) ?_
              refine m_lv [5, 6, 7, 1, 0, 2] rfl ?_
              exact ih43 x67 x70 x64 g60 (by omega) hI61 hK62 (by omega) hhl (by omega) hpp
            · skip
              have th54 := i_nle h54
              refine m_iconst C (1 : Int32) dX9_path_64 (by decide) ?_
              refine m_goto C 69 dX9_path_65 (by decide) ?_
              refine m_istore C [(7, .int (1 : Int32)), (6, .int r44), (0, .ref (aL X 34)), (1, .int i0), (2, .int n0), (3, .int x27), (4, .int x28), (5, .int x29)] dX9_path_69 (by decide) rfl ?_
              refine m_aload_n C dX9_path_71 2 rfl ?_
              refine m_getr (rf := "") C 28 rfl gd9 (by decide) sh_34 rfl dX9_path_72 lk_X9_68 ?_
              refine m_iload C dX9_path_75 7 rfl ?_
              refine m_iload C dX9_path_77 0 rfl ?_
              refine m_if_eq C 89 dX9_path_79 (by decide) (fun h => absurd h (by decide)) (fun _ => ?_)
              refine m_iload_n C dX9_path_82 5 rfl ?_
              refine m_iload C dX9_path_83 1 rfl ?_
              refine m_iadd C dX9_path_85 ?_
              refine m_goto C 90 dX9_path_86 (by decide) ?_
              have t74 : (x27 + r44).toInt = x27.toInt + r44.toInt := i_add rfl rfl (by omega) (by omega)
              refine m_iast C sh_54 (i_in (by omega) (by omega)) dX9_path_90 ?_
              refine m_mem (fun g75 eg75 => ?_)
              have hI76 : Inv g75 := by rw [eg75]; exact hI47.up (ok_any (by decide))
              have hK77 : Kq [36, 37, 38, 39, 50, 51, 52, 53, 54, 55] [4, 26] g g75 := by rw [eg75]; exact Kq.upA hK51 (by decide) (by decide)
              have ev78 : g75 34 26 = g45 34 26 := by rw [eg75]; exact up2_nei (Or.inl (by decide))
              have tev78 := congrArg Int32.toInt ev78
              refine m_aload_n C dX9_path_91 2 rfl ?_
              refine m_getr (rf := "") C 29 rfl gd9 (by decide) sh_34 rfl dX9_path_92 lk_X9_71 ?_
              refine m_iload C dX9_path_95 7 rfl ?_
              refine m_iload C dX9_path_97 0 rfl ?_
              refine m_if_eq C 110 dX9_path_99 (by decide) (fun h => absurd h (by decide)) (fun _ => ?_)
              refine m_iload C dX9_path_102 6 rfl ?_
              refine m_iload C dX9_path_104 1 rfl ?_
              refine m_isub C dX9_path_106 ?_
              refine m_goto C 112 dX9_path_107 (by decide) ?_
              have t79 : (x28 - r44).toInt = x28.toInt - r44.toInt := i_sub rfl rfl (by omega) (by omega)
              refine m_iast C sh_55 (i_in (by omega) (by omega)) dX9_path_112 ?_
              refine m_mem (fun g80 eg80 => ?_)
              have hI81 : Inv g80 := by rw [eg80]; exact hI76.up (ok_any (by decide))
              have hK82 : Kq [36, 37, 38, 39, 50, 51, 52, 53, 54, 55] [4, 26] g g80 := by rw [eg80]; exact Kq.upA hK77 (by decide) (by decide)
              have ev83 : g80 34 26 = g75 34 26 := by rw [eg80]; exact up2_nei (Or.inl (by decide))
              have tev83 := congrArg Int32.toInt ev83
              obtain ⟨x84, ex84⟩ : ∃ z : Int32, z = x29 + Int32.ofInt 1 := ⟨_, rfl⟩
              have t85 : (x29 + (Int32.ofInt 1)).toInt = x29.toInt + (1 : Int) := i_add rfl (by decide) (by omega) (by omega)
              have t86 : x84.toInt = (x29.toInt + (1 : Int)) := (congrArg Int32.toInt ex84).trans t85
              refine m_iinc C x84 [(5, .int x84), (7, .int (1 : Int32)), (6, .int r44), (0, .ref (aL X 34)), (1, .int i0), (2, .int n0), (3, .int x27), (4, .int x28)] dX9_path_113 (q := 7) rfl ex84.symm (by decide) rfl ?_
              refine m_iload_n C dX9_path_116 6 rfl ?_
              refine m_iload C dX9_path_117 1 rfl ?_
              refine m_if_eq C 126 dX9_path_119 (by decide) (fun h => absurd h (by decide)) (fun _ => ?_)
              refine m_iconst C (0 : Int32) dX9_path_122 (by decide) ?_
              refine m_goto C 128 dX9_path_123 (by decide) ?_
              refine m_iadd C dX9_path_128 ?_
              refine m_name (fun x87 ex87 => ?_)
              have t88 : (x27 + (0 : Int32)).toInt = x27.toInt + (0 : Int) := i_add rfl (by decide) (by omega) (by omega)
              have t89 : x87.toInt = (x27.toInt + (0 : Int)) := (congrArg Int32.toInt ex87).trans t88
              refine m_istore_n C [(3, .int x87), (5, .int x84), (7, .int (1 : Int32)), (6, .int r44), (0, .ref (aL X 34)), (1, .int i0), (2, .int n0), (4, .int x28)] dX9_path_129 (by decide) rfl ?_
              refine m_iload C dX9_path_130 2 rfl ?_
              refine m_if_eq C 140 dX9_path_132 (by decide) (fun h => absurd h (by decide)) (fun _ => ?_)
              refine m_iload C dX9_path_135 3 rfl ?_
              refine m_goto C 145 dX9_path_137 (by decide) ?_
              refine m_istore C [(4, .int r44), (3, .int x87), (5, .int x84), (7, .int (1 : Int32)), (6, .int r44), (0, .ref (aL X 34)), (1, .int i0), (2, .int n0)] dX9_path_145 (by decide) rfl ?_
              have hpp : n_pp g80 x84 := by rw [eg80, eg75]; exact n_pp_add (n_pp_eq (by assumption) (hK48.1 54 (by decide) (by decide)) (hK48.1 55 (by decide) (by decide))) (by omega) (by omega) (by omega) (by omega) (by omega)
              have hhl : n_hl r44 x84 := n_hl1 (k := r44) (by assumption) (by assumption) (by omega) (by omega) (by omega) (by omega)
              refine m_goto C 43 dX9_path_147 (by decide) ?_
              refine m_lv [5, 6, 7, 1, 0, 2] rfl ?_
              exact ih43 x87 r44 x84 g80 (by omega) hI81 hK82 (by omega) hhl (by omega) hpp
      have t91 : (0 : Int32).toInt = 0 := by decide
      have t92 : (0 : Int32).toInt = 0 := by decide
      refine m_lv [3, 4, 5, 2, 1, 0] rfl ?_
      exact L43 (((n0.toInt).toNat) + 1) (0 : Int32) n0 (0 : Int32) g20 (Nat.lt_succ_self _) hI21 hK22 (by omega) (n_hl0 (by omega)) (by omega) n_pp0
    · skip
      subst g17
      refine m_if_ne C 30 dX9_path_24 (by decide) (fun h => absurd (by decide) h) (fun _ => ?_)
      refine m_bipush C (-2 : Int32) dX9_path_27 (by decide) ?_
      exact m_iret C dX9_path_29 ⟨_, rfl, hI, Kq.rf⟩
  · skip
    subst g9
    refine m_if_eq C 27 dX9_path_11 (by decide) (fun _ => ?_) (fun h => absurd (by decide) h)
    refine m_bipush C (-2 : Int32) dX9_path_27 (by decide) ?_
    exact m_iret C dX9_path_29 ⟨_, rfl, hI, Kq.rf⟩
set_option maxRecDepth 20000 in
set_option maxHeartbeats 4000000 in
theorem c_X9_steps (l : Launch) {X : XT} (hX : Lok X) (g : Mem) (m0 : Int32) (n0 : Int32) (hI : Inv g) : Ctr l X yX9_steps cX9_steps 10 (some .int) (rmD 7) [.ref (aL X 34), .int m0, .int n0] g (pI (fun r g2 => Inv g2 ∧ Kq [36, 37, 38, 39, 50, 51, 52, 53, 54, 55] [4, 26] g g2)) := by
  refine Ctr.of (lv := [(0, .ref (aL X 34)), (1, .int m0), (2, .int n0)]) hX (by decide) rfl (Nat.le_of_ble_eq_true rfl) ?_
  intro p e s m below meth c C
  refine m_iload_n C dX9_steps_0 2 rfl ?_
  refine m_i2l C dX9_steps_1 ?_
  refine m_lconst C (0 : Int64) dX9_steps_2 (by decide) ?_
  refine m_aload_n C dX9_steps_3 0 rfl ?_
  refine m_invV C cal_X9_entriesNow sh_34 rfl (c_X9_entriesNow l hX g  hI) lk_X9_262 im_X9_entriesNow se_X9_entriesNow (by decide) rfl rfl (Nat.le_of_ble_eq_true rfl) dX9_steps_4 ⟨Nat.le_refl _, Nat.le_refl _⟩ (rI fun r1 g2 q3 => ?_)
  obtain ⟨eg2, p4⟩ := q3
  subst g2
  refine m_i2l C dX9_steps_7 ?_
  have t5 : (n0.toInt64).toInt = n0.toInt := i2l_t _
  have t6 : (0 : Int64).toInt = 0 := by decide
  have t7 : (r1.toInt64).toInt = r1.toInt := i2l_t _
  refine m_invS C cal_X9_in (c_X9_in l hX g (n0.toInt64) (0 : Int64) (r1.toInt64) ) lk_X9_185 st_X9_in (by decide) rfl rfl (Nat.le_of_ble_eq_true rfl) dX9_steps_8 ⟨Nat.le_refl _, Nat.le_refl _⟩ (rI fun r8 g9 q10 => ?_)
  obtain ⟨eg9, ⟨rfl, h11⟩ | ⟨rfl, h11⟩⟩ := q10
  · skip
    subst g9
    refine m_if_eq C 25 dX9_steps_11 (by decide) (fun h => absurd h (by decide)) (fun _ => ?_)
    refine m_iload_n C dX9_steps_14 1 rfl ?_
    refine m_i2l C dX9_steps_15 ?_
    refine m_lconst C (1 : Int64) dX9_steps_16 (by decide) ?_
    refine m_iload_n C dX9_steps_17 2 rfl ?_
    refine m_i2l C dX9_steps_18 ?_
    have t12 : (m0.toInt64).toInt = m0.toInt := i2l_t _
    have t13 : (1 : Int64).toInt = 1 := by decide
    have t14 : (n0.toInt64).toInt = n0.toInt := i2l_t _
    refine m_invS C cal_X9_in (c_X9_in l hX g (m0.toInt64) (1 : Int64) (n0.toInt64) ) lk_X9_185 st_X9_in (by decide) rfl rfl (Nat.le_of_ble_eq_true rfl) dX9_steps_19 ⟨Nat.le_refl _, Nat.le_refl _⟩ (rI fun r15 g16 q17 => ?_)
    obtain ⟨eg16, ⟨rfl, h18⟩ | ⟨rfl, h18⟩⟩ := q17
    · skip
      subst g16
      refine m_if_ne C 28 dX9_steps_22 (by decide) (fun _ => ?_) (fun h => absurd h (by decide))
      refine m_aload_n C dX9_steps_28 0 rfl ?_
      refine m_iconst C (0 : Int32) dX9_steps_29 (by decide) ?_
      refine m_put (rf := "") C 26 rfl gd9 (by decide) tyX9 tyX9_ok nmX9 rfl (tyX9_ok 26 (by decide)) rfl rfl sh_34 rfl dX9_steps_30 lk_X9_281 ?_
      refine m_mem (fun g19 eg19 => ?_)
      have hI20 : Inv g19 := by rw [eg19]; exact hI.up (ok_pmany (by decide) (by decide))
      have hK21 : Kq [36, 37, 38, 39, 50, 51, 52, 53, 54, 55] [4, 26] g g19 := by rw [eg19]; exact Kq.upF Kq.rf (by decide)
      have w22 : g19 34 26 = (0 : Int32) := by rw [eg19]; exact up2_self
      have tw22 := congrArg Int32.toInt w22
      rw [show (0 : Int32).toInt = 0 by decide] at tw22
      refine m_iconst C (0 : Int32) dX9_steps_33 (by decide) ?_
      refine m_istore_n C [(3, .int (0 : Int32)), (0, .ref (aL X 34)), (1, .int m0), (2, .int n0)] dX9_steps_34 (by decide) rfl ?_
      refine m_iload_n C dX9_steps_35 2 rfl ?_
      refine m_istore C [(4, .int m0), (3, .int (0 : Int32)), (0, .ref (aL X 34)), (1, .int m0), (2, .int n0)] dX9_steps_36 (by decide) rfl ?_
      refine m_iload_n C dX9_steps_38 4 rfl ?_
      refine m_istore C [(5, .int n0), (4, .int m0), (3, .int (0 : Int32)), (0, .ref (aL X 34)), (1, .int m0), (2, .int n0)] dX9_steps_39 (by decide) rfl ?_
      refine m_iconst C (0 : Int32) dX9_steps_41 (by decide) ?_
      refine m_istore C [(6, .int (0 : Int32)), (5, .int n0), (4, .int m0), (3, .int (0 : Int32)), (0, .ref (aL X 34)), (1, .int m0), (2, .int n0)] dX9_steps_42 (by decide) rfl ?_
      refine m_iconst C (1 : Int32) dX9_steps_44 (by decide) ?_
      refine m_istore C [(7, .int (1 : Int32)), (6, .int (0 : Int32)), (5, .int n0), (4, .int m0), (3, .int (0 : Int32)), (0, .ref (aL X 34)), (1, .int m0), (2, .int n0)] dX9_steps_45 (by decide) rfl ?_
      have L47 : ∀ (n47 : Nat) (x28 : Int32) (x29 : Int32) (x30 : Int32) (x31 : Int32) (x32 : Int32) (g33 : Mem), (x30.toInt).toNat < n47 → Inv g33 → Kq [36, 37, 38, 39, 50, 51, 52, 53, 54, 55] [4, 26] g g33 → 0 ≤ x28.toInt ∧ 1 ≤ x29.toInt ∧ x29.toInt ≤ x30.toInt ∧ x28.toInt + x30.toInt ≤ 60 → n_hl x30 x31 → (g33 34 26).toInt = 0 → n_pp g33 x31 → Wm X p l e (rmD 7) s m ([.ref (aL X 34), .int m0, .int n0] : List Value).toArray below meth c 10 0 0 (MQ below (cQ X (pI (fun r g2 => Inv g2 ∧ Kq [36, 37, 38, 39, 50, 51, 52, 53, 54, 55] [4, 26] g g2))) ([.ref (aL X 34), .int m0, .int n0] : List Value).toArray s 0 0 (Ab X)) g33 47 [(0, .ref (aL X 34)), (1, .int m0), (2, .int n0), (3, .int x28), (4, .int x29), (5, .int x30), (6, .int x31), (7, .int x32)] [] := by
        intro n47
        induction n47 with
        | zero => intro x28 x29 x30 x31 x32 g33 hm; exact absurd hm (Nat.not_lt_zero _)
        | succ n47 ih47 =>
          intro x28 x29 x30 x31 x32 g33 hm47 hI34 hK35 i36 i37 i38 i39
          obtain ⟨i36a, i36b⟩ := i36
          refine m_iload C dX9_steps_47 4 rfl ?_
          refine m_iload C dX9_steps_49 5 rfl ?_
          refine m_icmp_ge C 187 dX9_steps_51 (by decide) (fun h40 => ?_) (fun h40 => ?_)
          · skip
            have th40 := i_le h40
            have hde := n_hle (by assumption)
            refine m_iload C dX9_steps_187 7 rfl ?_
            refine m_if_ne C 213 dX9_steps_189 (by decide) (fun h41 => ?_) (fun h41 => ?_)
            · skip
              have th41 := i_ne h41
              rw [show (0 : Int32).toInt = 0 by decide] at th41
              have hpp3 : n_pp g33 x31 := by first | assumption | exact n_pp_eq (by assumption) (by rw [eg33]; exact up2_ne (by decide)) (by rw [eg33]; exact up2_ne (by decide))
              refine m_aload_n C dX9_steps_213 0 rfl ?_
              refine m_iload C dX9_steps_214 6 rfl ?_
              refine m_invV C cal_X9_tells sh_34 rfl (c_X9_tells l hX g33 x31 hI34 (by omega) (by omega) (by assumption)) lk_X9_288 im_X9_tells se_X9_tells (by decide) rfl rfl (Nat.le_of_ble_eq_true rfl) dX9_steps_216 ⟨Nat.le_refl _, Nat.le_refl _⟩ (rI fun r42 g43 q44 => ?_)
              obtain ⟨hI45, hK46⟩ := q44
              have hK47 : Kq [36, 37, 38, 39, 50, 51, 52, 53, 54, 55] [4, 26] g g43 := (hK35).tr hK46 (by decide) (by decide)
              exact m_iret C dX9_steps_219 ⟨_, rfl, hI45, hK47⟩
            · skip
              have th41 := i_eq h41
              rw [show (0 : Int32).toInt = 0 by decide] at th41
              refine m_aload_n C dX9_steps_192 0 rfl ?_
              refine m_iload_n C dX9_steps_193 3 rfl ?_
              refine m_iload C dX9_steps_194 5 rfl ?_
              refine m_invV C cal_X9_rootOf sh_34 rfl (c_X9_rootOf l hX g33 x28 x30 hI34 (by omega) (by omega) (by omega)) lk_X9_277 im_X9_rootOf se_X9_rootOf (by decide) rfl rfl (Nat.le_of_ble_eq_true rfl) dX9_steps_196 ⟨Nat.le_refl _, Nat.le_refl _⟩ (rV fun g49 q50 => ?_)
              obtain ⟨hI51, hK52⟩ := q50
              have ev53 : g49 34 26 = g33 34 26 := hK52.2 26 (by decide)
              have tev53 := congrArg Int32.toInt ev53
              have hK54 : Kq [36, 37, 38, 39, 50, 51, 52, 53, 54, 55] [4, 26] g g49 := (hK35).tr hK52 (by decide) (by decide)
              have hpp1 : n_pp g49 x31 := n_pp_eq (by assumption) (hK52.1 54 (by decide) (by decide)) (hK52.1 55 (by decide) (by decide))
              refine m_aload_n C dX9_steps_199 0 rfl ?_
              refine m_aload_n C dX9_steps_200 0 rfl ?_
              refine m_getr (rf := "") C 27 rfl gd9 (by decide) sh_34 rfl dX9_steps_201 lk_X9_65 ?_
              refine m_iconst C (0 : Int32) dX9_steps_204 (by decide) ?_
              have t55 : (0 : Int32).toInt = 0 := by decide
              refine m_invV C cal_X9_lay sh_34 rfl (c_X9_lay_53 l hX g49 (0 : Int32) hI51 (by omega)) lk_X9_213 im_X9_lay se_X9_lay (by decide) rfl rfl (Nat.le_of_ble_eq_true rfl) dX9_steps_205 ⟨Nat.le_refl _, Nat.le_refl _⟩ (rV fun g57 q58 => ?_)
              obtain ⟨hI59, hK60⟩ := q58
              have ev61 : g57 34 26 = g49 34 26 := hK60.2 26 (by decide)
              have tev61 := congrArg Int32.toInt ev61
              have hK62 : Kq [36, 37, 38, 39, 50, 51, 52, 53, 54, 55] [4, 26] g g57 := (hK54).tr hK60 (by decide) (by decide)
              have hpp2 : n_pp g57 x31 := n_pp_eq (by assumption) (hK60.1 54 (by decide) (by decide)) (hK60.1 55 (by decide) (by decide))
              refine m_aload_n C dX9_steps_208 0 rfl ?_
              refine m_iconst C (1 : Int32) dX9_steps_209 (by decide) ?_
              refine m_put (rf := "") C 26 rfl gd9 (by decide) tyX9 tyX9_ok nmX9 rfl (tyX9_ok 26 (by decide)) rfl rfl sh_34 rfl dX9_steps_210 lk_X9_281 ?_
              refine m_mem (fun g63 eg63 => ?_)
              have hI64 : Inv g63 := by rw [eg63]; exact hI59.up (ok_pmany (by decide) (by decide))
              have hK65 : Kq [36, 37, 38, 39, 50, 51, 52, 53, 54, 55] [4, 26] g g63 := by rw [eg63]; exact Kq.upF hK62 (by decide)
              have w66 : g63 34 26 = (1 : Int32) := by rw [eg63]; exact up2_self
              have tw66 := congrArg Int32.toInt w66
              rw [show (1 : Int32).toInt = 1 by decide] at tw66
              have hpp3 : n_pp g63 x31 := by first | assumption | exact n_pp_eq (by assumption) (by rw [eg63]; exact up2_ne (by decide)) (by rw [eg63]; exact up2_ne (by decide))
              refine m_aload_n C dX9_steps_213 0 rfl ?_
              refine m_iload C dX9_steps_214 6 rfl ?_
              refine m_invV C cal_X9_tells sh_34 rfl (c_X9_tells l hX g63 x31 hI64 (by omega) (by omega) (by assumption)) lk_X9_288 im_X9_tells se_X9_tells (by decide) rfl rfl (Nat.le_of_ble_eq_true rfl) dX9_steps_216 ⟨Nat.le_refl _, Nat.le_refl _⟩ (rI fun r67 g68 q69 => ?_)
              obtain ⟨hI70, hK71⟩ := q69
              have hK72 : Kq [36, 37, 38, 39, 50, 51, 52, 53, 54, 55] [4, 26] g g68 := (hK65).tr hK71 (by decide) (by decide)
              exact m_iret C dX9_steps_219 ⟨_, rfl, hI70, hK72⟩
          · skip
            have th40 := i_nle h40
            have hdp := n_hld (by assumption) (by omega)
            refine m_iload C dX9_steps_54 5 rfl ?_
            refine m_invS C cal_X9_below (c_X9_below l hX g33 x30 hI34 (by omega)) lk_X9_284 st_X9_below (by decide) rfl rfl (Nat.le_of_ble_eq_true rfl) dX9_steps_56 ⟨Nat.le_refl _, Nat.le_refl _⟩ (rI fun r73 g74 q75 => ?_)
            obtain ⟨hI76, hK77, ⟨p78, p78a, p78b⟩⟩ := q75
            have ev79 : g74 34 26 = g33 34 26 := hK77.2 26 (by decide)
            have tev79 := congrArg Int32.toInt ev79
            have hK80 : Kq [36, 37, 38, 39, 50, 51, 52, 53, 54, 55] [4, 26] g g74 := (hK35).tr hK77 (by decide) (by decide)
            refine m_istore C [(8, .int r73), (0, .ref (aL X 34)), (1, .int m0), (2, .int n0), (3, .int x28), (4, .int x29), (5, .int x30), (6, .int x31), (7, .int x32)] dX9_steps_59 (by decide) rfl ?_
            refine m_iload C dX9_steps_61 5 rfl ?_
            refine m_iload C dX9_steps_63 0 rfl ?_
            refine m_icmp_gt C 72 dX9_steps_65 (by decide) (fun h82 => ?_) (fun h82 => ?_)
            · skip
              have th82 := i_lt h82
              refine m_iconst C (0 : Int32) dX9_steps_72 (by decide) ?_
              refine m_istore C [(9, .int (0 : Int32)), (8, .int r73), (0, .ref (aL X 34)), (1, .int m0), (2, .int n0), (3, .int x28), (4, .int x29), (5, .int x30), (6, .int x31), (7, .int x32)] dX9_steps_73 (by decide) rfl ?_
              refine m_aload_n C dX9_steps_75 2 rfl ?_
              refine m_getr (rf := "") C 28 rfl gd9 (by decide) sh_34 rfl dX9_steps_76 lk_X9_68 ?_
              refine m_iload C dX9_steps_79 8 rfl ?_
              refine m_iload C dX9_steps_81 0 rfl ?_
              refine m_if_eq C 93 dX9_steps_83 (by decide) (fun _ => ?_) (fun h => absurd (by decide) h)
              refine m_iload_n C dX9_steps_93 5 rfl ?_
              refine m_iast C sh_54 (i_in (by omega) (by omega)) dX9_steps_94 ?_
              refine m_mem (fun g84 eg84 => ?_)
              have hI85 : Inv g84 := by rw [eg84]; exact hI76.up (ok_any (by decide))
              have hK86 : Kq [36, 37, 38, 39, 50, 51, 52, 53, 54, 55] [4, 26] g g84 := by rw [eg84]; exact Kq.upA hK80 (by decide) (by decide)
              have ev87 : g84 34 26 = g74 34 26 := by rw [eg84]; exact up2_nei (Or.inl (by decide))
              have tev87 := congrArg Int32.toInt ev87
              refine m_aload_n C dX9_steps_95 2 rfl ?_
              refine m_getr (rf := "") C 29 rfl gd9 (by decide) sh_34 rfl dX9_steps_96 lk_X9_71 ?_
              refine m_iload C dX9_steps_99 8 rfl ?_
              refine m_iload C dX9_steps_101 0 rfl ?_
              refine m_if_eq C 114 dX9_steps_103 (by decide) (fun _ => ?_) (fun h => absurd (by decide) h)
              refine m_iload C dX9_steps_114 1 rfl ?_
              refine m_iast C sh_55 (i_in (by omega) (by omega)) dX9_steps_116 ?_
              refine m_mem (fun g88 eg88 => ?_)
              have hI89 : Inv g88 := by rw [eg88]; exact hI85.up (ok_any (by decide))
              have hK90 : Kq [36, 37, 38, 39, 50, 51, 52, 53, 54, 55] [4, 26] g g88 := by rw [eg88]; exact Kq.upA hK86 (by decide) (by decide)
              have ev91 : g88 34 26 = g84 34 26 := by rw [eg88]; exact up2_nei (Or.inl (by decide))
              have tev91 := congrArg Int32.toInt ev91
              obtain ⟨x92, ex92⟩ : ∃ z : Int32, z = x31 + Int32.ofInt 1 := ⟨_, rfl⟩
              have t93 : (x31 + (Int32.ofInt 1)).toInt = x31.toInt + (1 : Int) := i_add rfl (by decide) (by omega) (by omega)
              have t94 : x92.toInt = (x31.toInt + (1 : Int)) := (congrArg Int32.toInt ex92).trans t93
              refine m_iinc C x92 [(6, .int x92), (9, .int (0 : Int32)), (8, .int r73), (0, .ref (aL X 34)), (1, .int m0), (2, .int n0), (3, .int x28), (4, .int x29), (5, .int x30), (7, .int x32)] dX9_steps_117 (q := 8) rfl ex92.symm (by decide) rfl ?_
              refine m_iload_n C dX9_steps_120 6 rfl ?_
              refine m_iload C dX9_steps_121 1 rfl ?_
              refine m_if_eq C 130 dX9_steps_123 (by decide) (fun _ => ?_) (fun h => absurd (by decide) h)
              refine m_iload C dX9_steps_130 2 rfl ?_
              refine m_iadd C dX9_steps_132 ?_
              refine m_name (fun x95 ex95 => ?_)
              have t96 : (x28 + r73).toInt = x28.toInt + r73.toInt := i_add rfl rfl (by omega) (by omega)
              have t97 : x95.toInt = (x28.toInt + r73.toInt) := (congrArg Int32.toInt ex95).trans t96
              refine m_istore_n C [(3, .int x95), (6, .int x92), (9, .int (0 : Int32)), (8, .int r73), (0, .ref (aL X 34)), (1, .int m0), (2, .int n0), (4, .int x29), (5, .int x30), (7, .int x32)] dX9_steps_133 (by decide) rfl ?_
              refine m_iload C dX9_steps_134 7 rfl ?_
              refine m_iload C dX9_steps_136 2 rfl ?_
              refine m_if_eq C 145 dX9_steps_138 (by decide) (fun _ => ?_) (fun h => absurd (by decide) h)
              refine m_iload C dX9_steps_145 3 rfl ?_
              refine m_isub C dX9_steps_147 ?_
              refine m_name (fun x98 ex98 => ?_)
              have t99 : (x29 - r73).toInt = x29.toInt - r73.toInt := i_sub rfl rfl (by omega) (by omega)
              have t100 : x98.toInt = (x29.toInt - r73.toInt) := (congrArg Int32.toInt ex98).trans t99
              refine m_istore C [(4, .int x98), (3, .int x95), (6, .int x92), (9, .int (0 : Int32)), (8, .int r73), (0, .ref (aL X 34)), (1, .int m0), (2, .int n0), (5, .int x30), (7, .int x32)] dX9_steps_148 (by decide) rfl ?_
              refine m_iload C dX9_steps_150 3 rfl ?_
              refine m_if_eq C 160 dX9_steps_152 (by decide) (fun _ => ?_) (fun h => absurd (by decide) h)
              refine m_iload C dX9_steps_160 8 rfl ?_
              refine m_iload C dX9_steps_162 4 rfl ?_
              refine m_isub C dX9_steps_164 ?_
              refine m_name (fun x101 ex101 => ?_)
              have t102 : (x30 - r73).toInt = x30.toInt - r73.toInt := i_sub rfl rfl (by omega) (by omega)
              have t103 : x101.toInt = (x30.toInt - r73.toInt) := (congrArg Int32.toInt ex101).trans t102
              refine m_istore C [(5, .int x101), (4, .int x98), (3, .int x95), (6, .int x92), (9, .int (0 : Int32)), (8, .int r73), (0, .ref (aL X 34)), (1, .int m0), (2, .int n0), (7, .int x32)] dX9_steps_165 (by decide) rfl ?_
              refine m_iload C dX9_steps_167 9 rfl ?_
              refine m_if_eq C 181 dX9_steps_169 (by decide) (fun h104 => ?_) (fun h104 => ?_)
              · skip
                have th104 := i_eq h104
                rw [show (0 : Int32).toInt = 0 by decide] at th104
                refine m_iconst C (0 : Int32) dX9_steps_181 (by decide) ?_
                refine m_istore C [(7, .int (0 : Int32)), (5, .int x101), (4, .int x98), (3, .int x95), (6, .int x92), (9, .int (0 : Int32)), (8, .int r73), (0, .ref (aL X 34)), (1, .int m0), (2, .int n0)] dX9_steps_182 (by decide) rfl ?_
                have hpp : n_pp g88 x92 := by rw [eg88, eg84]; exact n_pp_add (n_pp_eq (by assumption) (hK77.1 54 (by decide) (by decide)) (hK77.1 55 (by decide) (by decide))) (by omega) (by omega) (by omega) (by omega) (by omega)
                have hhl : n_hl x101 x92 := n_hl1 (k := r73) (by assumption) (by assumption) (by omega) (by omega) (by omega) (by omega)
                refine m_goto C 47 dX9_steps_184 (by decide) ?_
                refine m_lv [7, 8, 9, 3, 2, 1, 4, 0] rfl ?_
                exact ih47 x95 x98 x101 x92 (0 : Int32) g88 (by omega) hI89 hK90 (by omega) hhl (by omega) hpp
              · skip
                have th104 := i_ne h104
                rw [show (0 : Int32).toInt = 0 by decide] at th104
                refine m_iload C dX9_steps_172 4 rfl ?_
                refine m_if_eq C 181 dX9_steps_174 (by decide) (fun _ => ?_) (fun h => absurd (by decide) h)
                refine m_iconst C (0 : Int32) dX9_steps_181 (by decide) ?_
                refine m_istore C [(7, .int (0 : Int32)), (5, .int x101), (4, .int x98), (3, .int x95), (6, .int x92), (9, .int (0 : Int32)), (8, .int r73), (0, .ref (aL X 34)), (1, .int m0), (2, .int n0)] dX9_steps_182 (by decide) rfl ?_
                have hpp : n_pp g88 x92 := by rw [eg88, eg84]; exact n_pp_add (n_pp_eq (by assumption) (hK77.1 54 (by decide) (by decide)) (hK77.1 55 (by decide) (by decide))) (by omega) (by omega) (by omega) (by omega) (by omega)
                have hhl : n_hl x101 x92 := n_hl1 (k := r73) (by assumption) (by assumption) (by omega) (by omega) (by omega) (by omega)
                refine m_goto C 47 dX9_steps_184 (by decide) ?_
                refine m_lv [7, 8, 9, 3, 2, 1, 4, 0] rfl ?_
                exact ih47 x95 x98 x101 x92 (0 : Int32) g88 (by omega) hI89 hK90 (by omega) hhl (by omega) hpp
            · skip
              have th82 := i_nlt h82
              refine m_iconst C (1 : Int32) dX9_steps_68 (by decide) ?_
              refine m_goto C 73 dX9_steps_69 (by decide) ?_
              refine m_istore C [(9, .int (1 : Int32)), (8, .int r73), (0, .ref (aL X 34)), (1, .int m0), (2, .int n0), (3, .int x28), (4, .int x29), (5, .int x30), (6, .int x31), (7, .int x32)] dX9_steps_73 (by decide) rfl ?_
              refine m_aload_n C dX9_steps_75 2 rfl ?_
              refine m_getr (rf := "") C 28 rfl gd9 (by decide) sh_34 rfl dX9_steps_76 lk_X9_68 ?_
              refine m_iload C dX9_steps_79 8 rfl ?_
              refine m_iload C dX9_steps_81 0 rfl ?_
              refine m_if_eq C 93 dX9_steps_83 (by decide) (fun h => absurd h (by decide)) (fun _ => ?_)
              refine m_iload_n C dX9_steps_86 5 rfl ?_
              refine m_iload C dX9_steps_87 1 rfl ?_
              refine m_iadd C dX9_steps_89 ?_
              refine m_goto C 94 dX9_steps_90 (by decide) ?_
              have t108 : (x28 + r73).toInt = x28.toInt + r73.toInt := i_add rfl rfl (by omega) (by omega)
              refine m_iast C sh_54 (i_in (by omega) (by omega)) dX9_steps_94 ?_
              refine m_mem (fun g109 eg109 => ?_)
              have hI110 : Inv g109 := by rw [eg109]; exact hI76.up (ok_any (by decide))
              have hK111 : Kq [36, 37, 38, 39, 50, 51, 52, 53, 54, 55] [4, 26] g g109 := by rw [eg109]; exact Kq.upA hK80 (by decide) (by decide)
              have ev112 : g109 34 26 = g74 34 26 := by rw [eg109]; exact up2_nei (Or.inl (by decide))
              have tev112 := congrArg Int32.toInt ev112
              refine m_aload_n C dX9_steps_95 2 rfl ?_
              refine m_getr (rf := "") C 29 rfl gd9 (by decide) sh_34 rfl dX9_steps_96 lk_X9_71 ?_
              refine m_iload C dX9_steps_99 8 rfl ?_
              refine m_iload C dX9_steps_101 0 rfl ?_
              refine m_if_eq C 114 dX9_steps_103 (by decide) (fun h => absurd h (by decide)) (fun _ => ?_)
              refine m_iload C dX9_steps_106 7 rfl ?_
              refine m_iload C dX9_steps_108 1 rfl ?_
              refine m_isub C dX9_steps_110 ?_
              refine m_goto C 116 dX9_steps_111 (by decide) ?_
              have t113 : (x30 - r73).toInt = x30.toInt - r73.toInt := i_sub rfl rfl (by omega) (by omega)
              refine m_iast C sh_55 (i_in (by omega) (by omega)) dX9_steps_116 ?_
              refine m_mem (fun g114 eg114 => ?_)
              have hI115 : Inv g114 := by rw [eg114]; exact hI110.up (ok_any (by decide))
              have hK116 : Kq [36, 37, 38, 39, 50, 51, 52, 53, 54, 55] [4, 26] g g114 := by rw [eg114]; exact Kq.upA hK111 (by decide) (by decide)
              have ev117 : g114 34 26 = g109 34 26 := by rw [eg114]; exact up2_nei (Or.inl (by decide))
              have tev117 := congrArg Int32.toInt ev117
              obtain ⟨x118, ex118⟩ : ∃ z : Int32, z = x31 + Int32.ofInt 1 := ⟨_, rfl⟩
              have t119 : (x31 + (Int32.ofInt 1)).toInt = x31.toInt + (1 : Int) := i_add rfl (by decide) (by omega) (by omega)
              have t120 : x118.toInt = (x31.toInt + (1 : Int)) := (congrArg Int32.toInt ex118).trans t119
              refine m_iinc C x118 [(6, .int x118), (9, .int (1 : Int32)), (8, .int r73), (0, .ref (aL X 34)), (1, .int m0), (2, .int n0), (3, .int x28), (4, .int x29), (5, .int x30), (7, .int x32)] dX9_steps_117 (q := 8) rfl ex118.symm (by decide) rfl ?_
              refine m_iload_n C dX9_steps_120 6 rfl ?_
              refine m_iload C dX9_steps_121 1 rfl ?_
              refine m_if_eq C 130 dX9_steps_123 (by decide) (fun h => absurd h (by decide)) (fun _ => ?_)
              refine m_iconst C (0 : Int32) dX9_steps_126 (by decide) ?_
              refine m_goto C 132 dX9_steps_127 (by decide) ?_
              refine m_iadd C dX9_steps_132 ?_
              refine m_name (fun x121 ex121 => ?_)
              have t122 : (x28 + (0 : Int32)).toInt = x28.toInt + (0 : Int) := i_add rfl (by decide) (by omega) (by omega)
              have t123 : x121.toInt = (x28.toInt + (0 : Int)) := (congrArg Int32.toInt ex121).trans t122
              refine m_istore_n C [(3, .int x121), (6, .int x118), (9, .int (1 : Int32)), (8, .int r73), (0, .ref (aL X 34)), (1, .int m0), (2, .int n0), (4, .int x29), (5, .int x30), (7, .int x32)] dX9_steps_133 (by decide) rfl ?_
              refine m_iload C dX9_steps_134 7 rfl ?_
              refine m_iload C dX9_steps_136 2 rfl ?_
              refine m_if_eq C 145 dX9_steps_138 (by decide) (fun h => absurd h (by decide)) (fun _ => ?_)
              refine m_iconst C (0 : Int32) dX9_steps_141 (by decide) ?_
              refine m_goto C 147 dX9_steps_142 (by decide) ?_
              refine m_isub C dX9_steps_147 ?_
              refine m_name (fun x124 ex124 => ?_)
              have t125 : (x29 - (0 : Int32)).toInt = x29.toInt - (0 : Int) := i_sub rfl (by decide) (by omega) (by omega)
              have t126 : x124.toInt = (x29.toInt - (0 : Int)) := (congrArg Int32.toInt ex124).trans t125
              refine m_istore C [(4, .int x124), (3, .int x121), (6, .int x118), (9, .int (1 : Int32)), (8, .int r73), (0, .ref (aL X 34)), (1, .int m0), (2, .int n0), (5, .int x30), (7, .int x32)] dX9_steps_148 (by decide) rfl ?_
              refine m_iload C dX9_steps_150 3 rfl ?_
              refine m_if_eq C 160 dX9_steps_152 (by decide) (fun h => absurd h (by decide)) (fun _ => ?_)
              refine m_iload C dX9_steps_155 4 rfl ?_
              refine m_goto C 165 dX9_steps_157 (by decide) ?_
              refine m_istore C [(5, .int r73), (4, .int x124), (3, .int x121), (6, .int x118), (9, .int (1 : Int32)), (8, .int r73), (0, .ref (aL X 34)), (1, .int m0), (2, .int n0), (7, .int x32)] dX9_steps_165 (by decide) rfl ?_
              refine m_iload C dX9_steps_167 9 rfl ?_
              refine m_if_eq C 181 dX9_steps_169 (by decide) (fun h128 => ?_) (fun h128 => ?_)
              · skip
                have th128 := i_eq h128
                rw [show (0 : Int32).toInt = 0 by decide] at th128
                refine m_iconst C (0 : Int32) dX9_steps_181 (by decide) ?_
                refine m_istore C [(7, .int (0 : Int32)), (5, .int r73), (4, .int x124), (3, .int x121), (6, .int x118), (9, .int (1 : Int32)), (8, .int r73), (0, .ref (aL X 34)), (1, .int m0), (2, .int n0)] dX9_steps_182 (by decide) rfl ?_
                have hpp : n_pp g114 x118 := by rw [eg114, eg109]; exact n_pp_add (n_pp_eq (by assumption) (hK77.1 54 (by decide) (by decide)) (hK77.1 55 (by decide) (by decide))) (by omega) (by omega) (by omega) (by omega) (by omega)
                have hhl : n_hl r73 x118 := n_hl1 (k := r73) (by assumption) (by assumption) (by omega) (by omega) (by omega) (by omega)
                refine m_goto C 47 dX9_steps_184 (by decide) ?_
                refine m_lv [7, 8, 9, 3, 2, 1, 4, 0] rfl ?_
                exact ih47 x121 x124 r73 x118 (0 : Int32) g114 (by omega) hI115 hK116 (by omega) hhl (by omega) hpp
              · skip
                have th128 := i_ne h128
                rw [show (0 : Int32).toInt = 0 by decide] at th128
                refine m_iload C dX9_steps_172 4 rfl ?_
                refine m_if_eq C 181 dX9_steps_174 (by decide) (fun h => absurd h (by decide)) (fun _ => ?_)
                refine m_iconst C (1 : Int32) dX9_steps_177 (by decide) ?_
                refine m_goto C 182 dX9_steps_178 (by decide) ?_
                refine m_istore C [(7, .int (1 : Int32)), (5, .int r73), (4, .int x124), (3, .int x121), (6, .int x118), (9, .int (1 : Int32)), (8, .int r73), (0, .ref (aL X 34)), (1, .int m0), (2, .int n0)] dX9_steps_182 (by decide) rfl ?_
                have hpp : n_pp g114 x118 := by rw [eg114, eg109]; exact n_pp_add (n_pp_eq (by assumption) (hK77.1 54 (by decide) (by decide)) (hK77.1 55 (by decide) (by decide))) (by omega) (by omega) (by omega) (by omega) (by omega)
                have hhl : n_hl r73 x118 := n_hl1 (k := r73) (by assumption) (by assumption) (by omega) (by omega) (by omega) (by omega)
                refine m_goto C 47 dX9_steps_184 (by decide) ?_
                refine m_lv [7, 8, 9, 3, 2, 1, 4, 0] rfl ?_
                exact ih47 x121 x124 r73 x118 (1 : Int32) g114 (by omega) hI115 hK116 (by omega) hhl (by omega) hpp
      have t131 : (0 : Int32).toInt = 0 := by decide
      have t132 : (0 : Int32).toInt = 0 := by decide
      have t133 : (1 : Int32).toInt = 1 := by decide
      refine m_lv [5, 6, 7, 4, 3, 2, 1, 0] rfl ?_
      exact L47 (((n0.toInt).toNat) + 1) (0 : Int32) m0 n0 (0 : Int32) (1 : Int32) g19 (Nat.lt_succ_self _) hI20 hK21 (by omega) (n_hl0 (by omega)) (by omega) n_pp0
    · skip
      subst g16
      refine m_if_ne C 28 dX9_steps_22 (by decide) (fun h => absurd (by decide) h) (fun _ => ?_)
      refine m_bipush C (-2 : Int32) dX9_steps_25 (by decide) ?_
      exact m_iret C dX9_steps_27 ⟨_, rfl, hI, Kq.rf⟩
  · skip
    subst g9
    refine m_if_eq C 25 dX9_steps_11 (by decide) (fun _ => ?_) (fun h => absurd (by decide) h)
    refine m_bipush C (-2 : Int32) dX9_steps_25 (by decide) ?_
    exact m_iret C dX9_steps_27 ⟨_, rfl, hI, Kq.rf⟩
set_option maxRecDepth 20000 in
set_option maxHeartbeats 4000000 in
theorem c_X9_judgePath (l : Launch) {X : XT} (hX : Lok X) (g : Mem) (i0 : Int32) (n0 : Int32) (e0 : Int32) (q : Int32) (hI : Inv g) : Ctr l X yX9_judgePath cX9_judgePath 8 (some .int) (rmD 4) [.ref (aL X 34), .int i0, .int n0, .int e0, .int q] g (pI (fun r g2 => Inv g2 ∧ Kq [36, 37, 38, 39, 57] [4] g g2)) := by
  refine Ctr.of (lv := [(0, .ref (aL X 34)), (1, .int i0), (2, .int n0), (3, .int e0), (4, .int q)]) hX (by decide) rfl (Nat.le_of_ble_eq_true rfl) ?_
  intro p e s m below meth c C
  refine m_iload_n C dX9_judgePath_0 1 rfl ?_
  refine m_i2l C dX9_judgePath_1 ?_
  refine m_lconst C (0 : Int64) dX9_judgePath_2 (by decide) ?_
  refine m_ldc2 C (60) dX9_judgePath_3 lk_X9_293 ?_
  have t1 : (i0.toInt64).toInt = i0.toInt := i2l_t _
  have t2 : (0 : Int64).toInt = 0 := by decide
  have t3 : (60 : Int64).toInt = 60 := by decide
  refine m_invS C cal_X9_in (c_X9_in l hX g (i0.toInt64) (0 : Int64) (60 : Int64) ) lk_X9_185 st_X9_in (by decide) rfl rfl (Nat.le_of_ble_eq_true rfl) dX9_judgePath_6 ⟨Nat.le_refl _, Nat.le_refl _⟩ (rI fun r4 g5 q6 => ?_)
  obtain ⟨eg5, ⟨rfl, h7⟩ | ⟨rfl, h7⟩⟩ := q6
  · skip
    subst g5
    refine m_if_eq C 53 dX9_judgePath_9 (by decide) (fun h => absurd h (by decide)) (fun _ => ?_)
    refine m_iload_n C dX9_judgePath_12 2 rfl ?_
    refine m_i2l C dX9_judgePath_13 ?_
    refine m_lconst C (0 : Int64) dX9_judgePath_14 (by decide) ?_
    refine m_ldc2 C (60) dX9_judgePath_15 lk_X9_293 ?_
    have t8 : (n0.toInt64).toInt = n0.toInt := i2l_t _
    have t9 : (0 : Int64).toInt = 0 := by decide
    have t10 : (60 : Int64).toInt = 60 := by decide
    refine m_invS C cal_X9_in (c_X9_in l hX g (n0.toInt64) (0 : Int64) (60 : Int64) ) lk_X9_185 st_X9_in (by decide) rfl rfl (Nat.le_of_ble_eq_true rfl) dX9_judgePath_18 ⟨Nat.le_refl _, Nat.le_refl _⟩ (rI fun r11 g12 q13 => ?_)
    obtain ⟨eg12, ⟨rfl, h14⟩ | ⟨rfl, h14⟩⟩ := q13
    · skip
      subst g12
      refine m_if_eq C 53 dX9_judgePath_21 (by decide) (fun h => absurd h (by decide)) (fun _ => ?_)
      refine m_iload_n C dX9_judgePath_24 3 rfl ?_
      refine m_i2l C dX9_judgePath_25 ?_
      refine m_lconst C (0 : Int64) dX9_judgePath_26 (by decide) ?_
      refine m_aload_n C dX9_judgePath_27 0 rfl ?_
      refine m_invV C cal_X9_entriesNow sh_34 rfl (c_X9_entriesNow l hX g  hI) lk_X9_262 im_X9_entriesNow se_X9_entriesNow (by decide) rfl rfl (Nat.le_of_ble_eq_true rfl) dX9_judgePath_28 ⟨Nat.le_refl _, Nat.le_refl _⟩ (rI fun r15 g16 q17 => ?_)
      obtain ⟨eg16, p18⟩ := q17
      subst g16
      refine m_iconst C (1 : Int32) dX9_judgePath_31 (by decide) ?_
      refine m_isub C dX9_judgePath_32 ?_
      refine m_i2l C dX9_judgePath_33 ?_
      have t19 : (e0.toInt64).toInt = e0.toInt := i2l_t _
      have t20 : (0 : Int64).toInt = 0 := by decide
      have t21 : (r15 - (1 : Int32)).toInt = r15.toInt - (1 : Int) := i_sub rfl (by decide) (by omega) (by omega)
      have t22 : ((r15 - (1 : Int32)).toInt64).toInt = (r15 - (1 : Int32)).toInt := i2l_t _
      refine m_invS C cal_X9_in (c_X9_in l hX g (e0.toInt64) (0 : Int64) ((r15 - (1 : Int32)).toInt64) ) lk_X9_185 st_X9_in (by decide) rfl rfl (Nat.le_of_ble_eq_true rfl) dX9_judgePath_34 ⟨Nat.le_refl _, Nat.le_refl _⟩ (rI fun r23 g24 q25 => ?_)
      obtain ⟨eg24, ⟨rfl, h26⟩ | ⟨rfl, h26⟩⟩ := q25
      · skip
        subst g24
        refine m_if_eq C 53 dX9_judgePath_37 (by decide) (fun h => absurd h (by decide)) (fun _ => ?_)
        refine m_iload C dX9_judgePath_40 4 rfl ?_
        refine m_i2l C dX9_judgePath_42 ?_
        refine m_lconst C (0 : Int64) dX9_judgePath_43 (by decide) ?_
        refine m_ldc2 C (3) dX9_judgePath_44 lk_X9_234 ?_
        have t27 : (q.toInt64).toInt = q.toInt := i2l_t _
        have t28 : (0 : Int64).toInt = 0 := by decide
        have t29 : (3 : Int64).toInt = 3 := by decide
        refine m_invS C cal_X9_in (c_X9_in l hX g (q.toInt64) (0 : Int64) (3 : Int64) ) lk_X9_185 st_X9_in (by decide) rfl rfl (Nat.le_of_ble_eq_true rfl) dX9_judgePath_47 ⟨Nat.le_refl _, Nat.le_refl _⟩ (rI fun r30 g31 q32 => ?_)
        obtain ⟨eg31, ⟨rfl, h33⟩ | ⟨rfl, h33⟩⟩ := q32
        · skip
          subst g31
          refine m_if_ne C 56 dX9_judgePath_50 (by decide) (fun _ => ?_) (fun h => absurd h (by decide))
          refine m_iload_n C dX9_judgePath_56 1 rfl ?_
          refine m_iload_n C dX9_judgePath_57 2 rfl ?_
          refine m_icmp_lt C 63 dX9_judgePath_58 (by decide) (fun h34 => ?_) (fun h34 => ?_)
          · skip
            have th34 := i_lt h34
            refine m_iload_n C dX9_judgePath_63 1 rfl ?_
            refine m_istore C [(5, .int i0), (0, .ref (aL X 34)), (1, .int i0), (2, .int n0), (3, .int e0), (4, .int q)] dX9_judgePath_64 (by decide) rfl ?_
            refine m_iload_n C dX9_judgePath_66 3 rfl ?_
            refine m_iconst C (1 : Int32) dX9_judgePath_67 (by decide) ?_
            refine m_isub C dX9_judgePath_68 ?_
            refine m_name (fun x36 ex36 => ?_)
            have t37 : (n0 - (1 : Int32)).toInt = n0.toInt - (1 : Int) := i_sub rfl (by decide) (by omega) (by omega)
            have t38 : x36.toInt = (n0.toInt - (1 : Int)) := (congrArg Int32.toInt ex36).trans t37
            refine m_istore C [(6, .int x36), (5, .int i0), (0, .ref (aL X 34)), (1, .int i0), (2, .int n0), (3, .int e0), (4, .int q)] dX9_judgePath_69 (by decide) rfl ?_
            refine m_aload_n C dX9_judgePath_71 2 rfl ?_
            refine m_iload_n C dX9_judgePath_72 5 rfl ?_
            refine m_invV C cal_X9_leaf sh_34 rfl (c_X9_leaf l hX g e0 hI (by omega)) lk_X9_267 im_X9_leaf se_X9_leaf (by decide) rfl rfl (Nat.le_of_ble_eq_true rfl) dX9_judgePath_73 ⟨Nat.le_refl _, Nat.le_refl _⟩ (rV fun g40 q41 => ?_)
            obtain ⟨hI42, hK43⟩ := q41
            have hK44 : Kq [36, 37, 38, 39, 57] [4] g g40 := (Kq.rf).tr hK43 (by decide) (by decide)
            refine m_aload_n C dX9_judgePath_76 2 rfl ?_
            refine m_aload_n C dX9_judgePath_77 2 rfl ?_
            refine m_getr (rf := "") C 31 rfl gd9 (by decide) sh_34 rfl dX9_judgePath_78 lk_X9_77 ?_
            refine m_iconst C (0 : Int32) dX9_judgePath_81 (by decide) ?_
            have t45 : (0 : Int32).toInt = 0 := by decide
            refine m_invV C cal_X9_lay sh_34 rfl (c_X9_lay_57 l hX g40 (0 : Int32) hI42 (by omega)) lk_X9_213 im_X9_lay se_X9_lay (by decide) rfl rfl (Nat.le_of_ble_eq_true rfl) dX9_judgePath_82 ⟨Nat.le_refl _, Nat.le_refl _⟩ (rV fun g47 q48 => ?_)
            obtain ⟨hI49, hK50⟩ := q48
            have hK51 : Kq [36, 37, 38, 39, 57] [4] g g47 := (hK44).tr hK50 (by decide) (by decide)
            refine m_iconst C (0 : Int32) dX9_judgePath_85 (by decide) ?_
            refine m_istore C [(7, .int (0 : Int32)), (6, .int x36), (5, .int i0), (0, .ref (aL X 34)), (1, .int i0), (2, .int n0), (3, .int e0), (4, .int q)] dX9_judgePath_86 (by decide) rfl ?_
            have L88 : ∀ (n88 : Nat) (x53 : Int32) (x54 : Int32) (x55 : Int32) (g56 : Mem), (9 - x55.toInt).toNat < n88 → Inv g56 → Kq [36, 37, 38, 39, 57] [4] g g56 → 0 ≤ x55.toInt ∧ x55.toInt ≤ 8 → 0 ≤ x53.toInt ∧ x53.toInt ≤ 60 → 0 ≤ x54.toInt ∧ x54.toInt ≤ 60 → Wm X p l e (rmD 4) s m ([.ref (aL X 34), .int i0, .int n0, .int e0, .int q] : List Value).toArray below meth c 8 0 0 (MQ below (cQ X (pI (fun r g2 => Inv g2 ∧ Kq [36, 37, 38, 39, 57] [4] g g2))) ([.ref (aL X 34), .int i0, .int n0, .int e0, .int q] : List Value).toArray s 0 0 (Ab X)) g56 88 [(0, .ref (aL X 34)), (1, .int i0), (2, .int n0), (3, .int e0), (4, .int q), (5, .int x53), (6, .int x54), (7, .int x55)] [] := by
              intro n88
              induction n88 with
              | zero => intro x53 x54 x55 g56 hm; exact absurd hm (Nat.not_lt_zero _)
              | succ n88 ih88 =>
                intro x53 x54 x55 g56 hm88 hI57 hK58 i59 i60 i61
                obtain ⟨i59a, i59b⟩ := i59
                obtain ⟨i60a, i60b⟩ := i60
                obtain ⟨i61a, i61b⟩ := i61
                refine m_iload C dX9_judgePath_88 7 rfl ?_
                refine m_aload_n C dX9_judgePath_90 0 rfl ?_
                refine m_geti (rf := "") C 26 rfl gd9 (by decide) sh_34 rfl dX9_judgePath_91 lk_X9_281 ?_
                have r62 := iv_pmany hI57
                have ev63 : g56 34 26 = g 34 26 := hK58.2 26 (by decide)
                have tev63 := congrArg Int32.toInt ev63
                refine m_icmp_ge C 209 dX9_judgePath_94 (by decide) (fun h64 => ?_) (fun h64 => ?_)
                · skip
                  have th64 := i_le h64
                  refine m_iload C dX9_judgePath_209 6 rfl ?_
                  refine m_if_ne C 238 dX9_judgePath_211 (by decide) (fun h65 => ?_) (fun h65 => ?_)
                  · skip
                    have th65 := i_ne h65
                    rw [show (0 : Int32).toInt = 0 by decide] at th65
                    refine m_iconst C (0 : Int32) dX9_judgePath_238 (by decide) ?_
                    exact m_iret C dX9_judgePath_239 ⟨_, rfl, hI57, hK58⟩
                  · skip
                    have th65 := i_eq h65
                    rw [show (0 : Int32).toInt = 0 by decide] at th65
                    refine m_aload_n C dX9_judgePath_214 0 rfl ?_
                    refine m_getr (rf := "") C 31 rfl gd9 (by decide) sh_34 rfl dX9_judgePath_215 lk_X9_77 ?_
                    refine m_iconst C (0 : Int32) dX9_judgePath_218 (by decide) ?_
                    refine m_aload_n C dX9_judgePath_219 0 rfl ?_
                    refine m_getr (rf := "") C 30 rfl gd9 (by decide) sh_34 rfl dX9_judgePath_220 lk_X9_74 ?_
                    refine m_bipush C (32 : Int32) dX9_judgePath_223 (by decide) ?_
                    refine m_iload C dX9_judgePath_225 4 rfl ?_
                    refine m_imul C dX9_judgePath_227 ?_
                    have t66 : ((32 : Int32) * q).toInt = (32 : Int) * q.toInt := i_mul (by decide) rfl (by omega) (by omega)
                    have t67 : (0 : Int32).toInt = 0 := by decide
                    refine m_invS C cal_X9_isLike (c_X9_isLike_57_56 l hX g56 (0 : Int32) ((32 : Int32) * q) hI57 (by omega) (by omega)) lk_X9_295 st_X9_isLike (by decide) rfl rfl (Nat.le_of_ble_eq_true rfl) dX9_judgePath_228 ⟨Nat.le_refl _, Nat.le_refl _⟩ (rI fun r68 g69 q70 => ?_)
                    obtain ⟨hI71, hK72, p73⟩ := q70
                    have ev74 : g69 34 26 = g56 34 26 := hK72.2 26 (by decide)
                    have tev74 := congrArg Int32.toInt ev74
                    have hK75 : Kq [36, 37, 38, 39, 57] [4] g g69 := (hK58).tr hK72 (by decide) (by decide)
                    refine m_if_eq C 238 dX9_judgePath_231 (by decide) (fun h76 => ?_) (fun h76 => ?_)
                    · skip
                      have th76 := i_eq h76
                      rw [show (0 : Int32).toInt = 0 by decide] at th76
                      refine m_iconst C (0 : Int32) dX9_judgePath_238 (by decide) ?_
                      exact m_iret C dX9_judgePath_239 ⟨_, rfl, hI71, hK75⟩
                    · skip
                      have th76 := i_ne h76
                      rw [show (0 : Int32).toInt = 0 by decide] at th76
                      refine m_iconst C (1 : Int32) dX9_judgePath_234 (by decide) ?_
                      refine m_goto C 239 dX9_judgePath_235 (by decide) ?_
                      exact m_iret C dX9_judgePath_239 ⟨_, rfl, hI71, hK75⟩
                · skip
                  have th64 := i_nle h64
                  refine m_iload C dX9_judgePath_97 6 rfl ?_
                  refine m_if_ne C 104 dX9_judgePath_99 (by decide) (fun h77 => ?_) (fun h77 => ?_)
                  · skip
                    have th77 := i_ne h77
                    rw [show (0 : Int32).toInt = 0 by decide] at th77
                    refine m_iload C dX9_judgePath_104 5 rfl ?_
                    refine m_iconst C (2 : Int32) dX9_judgePath_106 (by decide) ?_
                    refine m_irem C dX9_judgePath_107 (by decide) ?_
                    refine m_iconst C (1 : Int32) dX9_judgePath_108 (by decide) ?_
                    have t78 : (x53 - x53 / (2 : Int32) * (2 : Int32)).toInt = x53.toInt % 2 := i_rem rfl (by omega) (by decide) (by decide)
                    refine m_icmp_eq C 119 dX9_judgePath_109 (by decide) (fun h79 => ?_) (fun h79 => ?_)
                    · skip
                      have th79 := i_eq h79
                      rw [show (1 : Int32).toInt = 1 by decide] at th79
                      refine m_aload_n C dX9_judgePath_119 0 rfl ?_
                      refine m_aload_n C dX9_judgePath_120 0 rfl ?_
                      refine m_getr (rf := "") C 27 rfl gd9 (by decide) sh_34 rfl dX9_judgePath_121 lk_X9_65 ?_
                      refine m_bipush C (32 : Int32) dX9_judgePath_124 (by decide) ?_
                      refine m_iload C dX9_judgePath_126 7 rfl ?_
                      refine m_imul C dX9_judgePath_128 ?_
                      refine m_aload_n C dX9_judgePath_129 0 rfl ?_
                      refine m_getr (rf := "") C 31 rfl gd9 (by decide) sh_34 rfl dX9_judgePath_130 lk_X9_77 ?_
                      refine m_iconst C (0 : Int32) dX9_judgePath_133 (by decide) ?_
                      have t80 : ((32 : Int32) * x55).toInt = (32 : Int) * x55.toInt := i_mul (by decide) rfl (by omega) (by omega)
                      have t81 : (0 : Int32).toInt = 0 := by decide
                      refine m_invV C cal_X9_pair sh_34 rfl (c_X9_pair_53_57 l hX g56 ((32 : Int32) * x55) (0 : Int32) hI57 (by omega) (by omega)) lk_X9_273 im_X9_pair se_X9_pair (by decide) rfl rfl (Nat.le_of_ble_eq_true rfl) dX9_judgePath_134 ⟨Nat.le_refl _, Nat.le_refl _⟩ (rV fun g83 q84 => ?_)
                      obtain ⟨hI85, hK86⟩ := q84
                      have ev87 : g83 34 26 = g56 34 26 := hK86.2 26 (by decide)
                      have tev87 := congrArg Int32.toInt ev87
                      have hK88 : Kq [36, 37, 38, 39, 57] [4] g g83 := (hK58).tr hK86 (by decide) (by decide)
                      have L137 : ∀ (n137 : Nat) (x89 : Int32) (x90 : Int32) (g91 : Mem), (x89.toInt).toNat < n137 → Inv g91 → Kq [36, 37, 38, 39, 57] [4] g g91 → 0 ≤ x89.toInt ∧ x89.toInt ≤ 60 → 0 ≤ x90.toInt ∧ x90.toInt ≤ 60 → Wm X p l e (rmD 4) s m ([.ref (aL X 34), .int i0, .int n0, .int e0, .int q] : List Value).toArray below meth c 8 0 0 (MQ below (cQ X (pI (fun r g2 => Inv g2 ∧ Kq [36, 37, 38, 39, 57] [4] g g2))) ([.ref (aL X 34), .int i0, .int n0, .int e0, .int q] : List Value).toArray s 0 0 (Ab X)) g91 137 [(0, .ref (aL X 34)), (1, .int i0), (2, .int n0), (3, .int e0), (4, .int q), (5, .int x89), (6, .int x90), (7, .int x55)] [] := by
                        intro n137
                        induction n137 with
                        | zero => intro x89 x90 g91 hm; exact absurd hm (Nat.not_lt_zero _)
                        | succ n137 ih137 =>
                          intro x89 x90 g91 hm137 hI92 hK93 i94 i95
                          obtain ⟨i94a, i94b⟩ := i94
                          obtain ⟨i95a, i95b⟩ := i95
                          refine m_iload C dX9_judgePath_137 5 rfl ?_
                          refine m_iconst C (2 : Int32) dX9_judgePath_139 (by decide) ?_
                          refine m_irem C dX9_judgePath_140 (by decide) ?_
                          have t96 : (x89 - x89 / (2 : Int32) * (2 : Int32)).toInt = x89.toInt % 2 := i_rem rfl (by omega) (by decide) (by decide)
                          refine m_if_ne C 182 dX9_judgePath_141 (by decide) (fun h97 => ?_) (fun h97 => ?_)
                          · skip
                            have th97 := i_ne h97
                            rw [show (0 : Int32).toInt = 0 by decide] at th97
                            refine m_aload_n C dX9_judgePath_182 0 rfl ?_
                            refine m_aload_n C dX9_judgePath_183 0 rfl ?_
                            refine m_getr (rf := "") C 31 rfl gd9 (by decide) sh_34 rfl dX9_judgePath_184 lk_X9_77 ?_
                            refine m_iconst C (0 : Int32) dX9_judgePath_187 (by decide) ?_
                            have t98 : (0 : Int32).toInt = 0 := by decide
                            refine m_invV C cal_X9_lay sh_34 rfl (c_X9_lay_57 l hX g91 (0 : Int32) hI92 (by omega)) lk_X9_213 im_X9_lay se_X9_lay (by decide) rfl rfl (Nat.le_of_ble_eq_true rfl) dX9_judgePath_188 ⟨Nat.le_refl _, Nat.le_refl _⟩ (rV fun g100 q101 => ?_)
                            obtain ⟨hI102, hK103⟩ := q101
                            have hK104 : Kq [36, 37, 38, 39, 57] [4] g g100 := (hK93).tr hK103 (by decide) (by decide)
                            refine m_iload C dX9_judgePath_191 5 rfl ?_
                            refine m_iconst C (2 : Int32) dX9_judgePath_193 (by decide) ?_
                            refine m_idiv C dX9_judgePath_194 (by decide) ?_
                            refine m_name (fun x105 ex105 => ?_)
                            have t106 : (x89 / (2 : Int32)).toInt = x89.toInt / 2 := i_div rfl (by omega) (by decide) (by decide)
                            have t107 : x105.toInt = (x89.toInt / 2) := (congrArg Int32.toInt ex105).trans t106
                            refine m_istore C [(5, .int x105), (0, .ref (aL X 34)), (1, .int i0), (2, .int n0), (3, .int e0), (4, .int q), (6, .int x90), (7, .int x55)] dX9_judgePath_195 (by decide) rfl ?_
                            refine m_iload C dX9_judgePath_197 6 rfl ?_
                            refine m_iconst C (2 : Int32) dX9_judgePath_199 (by decide) ?_
                            refine m_idiv C dX9_judgePath_200 (by decide) ?_
                            refine m_name (fun x108 ex108 => ?_)
                            have t109 : (x90 / (2 : Int32)).toInt = x90.toInt / 2 := i_div rfl (by omega) (by decide) (by decide)
                            have t110 : x108.toInt = (x90.toInt / 2) := (congrArg Int32.toInt ex108).trans t109
                            refine m_istore C [(6, .int x108), (5, .int x105), (0, .ref (aL X 34)), (1, .int i0), (2, .int n0), (3, .int e0), (4, .int q), (7, .int x55)] dX9_judgePath_201 (by decide) rfl ?_
                            obtain ⟨x111, ex111⟩ : ∃ z : Int32, z = x55 + Int32.ofInt 1 := ⟨_, rfl⟩
                            have t112 : (x55 + (Int32.ofInt 1)).toInt = x55.toInt + (1 : Int) := i_add rfl (by decide) (by omega) (by omega)
                            have t113 : x111.toInt = (x55.toInt + (1 : Int)) := (congrArg Int32.toInt ex111).trans t112
                            refine m_iinc C x111 [(7, .int x111), (6, .int x108), (5, .int x105), (0, .ref (aL X 34)), (1, .int i0), (2, .int n0), (3, .int e0), (4, .int q)] dX9_judgePath_203 (q := 7) rfl ex111.symm (by decide) rfl ?_
                            refine m_goto C 88 dX9_judgePath_206 (by decide) ?_
                            refine m_lv [3, 4, 5, 6, 7, 2, 1, 0] rfl ?_
                            exact ih88 x105 x108 x111 g100 (by omega) hI102 hK104 (by omega) (by omega) (by omega)
                          · skip
                            have th97 := i_eq h97
                            rw [show (0 : Int32).toInt = 0 by decide] at th97
                            refine m_iload C dX9_judgePath_144 5 rfl ?_
                            refine m_if_eq C 182 dX9_judgePath_146 (by decide) (fun h114 => ?_) (fun h114 => ?_)
                            · skip
                              have th114 := i_eq h114
                              rw [show (0 : Int32).toInt = 0 by decide] at th114
                              refine m_aload_n C dX9_judgePath_182 0 rfl ?_
                              refine m_aload_n C dX9_judgePath_183 0 rfl ?_
                              refine m_getr (rf := "") C 31 rfl gd9 (by decide) sh_34 rfl dX9_judgePath_184 lk_X9_77 ?_
                              refine m_iconst C (0 : Int32) dX9_judgePath_187 (by decide) ?_
                              have t115 : (0 : Int32).toInt = 0 := by decide
                              refine m_invV C cal_X9_lay sh_34 rfl (c_X9_lay_57 l hX g91 (0 : Int32) hI92 (by omega)) lk_X9_213 im_X9_lay se_X9_lay (by decide) rfl rfl (Nat.le_of_ble_eq_true rfl) dX9_judgePath_188 ⟨Nat.le_refl _, Nat.le_refl _⟩ (rV fun g117 q118 => ?_)
                              obtain ⟨hI119, hK120⟩ := q118
                              have hK121 : Kq [36, 37, 38, 39, 57] [4] g g117 := (hK93).tr hK120 (by decide) (by decide)
                              refine m_iload C dX9_judgePath_191 5 rfl ?_
                              refine m_iconst C (2 : Int32) dX9_judgePath_193 (by decide) ?_
                              refine m_idiv C dX9_judgePath_194 (by decide) ?_
                              refine m_name (fun x122 ex122 => ?_)
                              have t123 : (x89 / (2 : Int32)).toInt = x89.toInt / 2 := i_div rfl (by omega) (by decide) (by decide)
                              have t124 : x122.toInt = (x89.toInt / 2) := (congrArg Int32.toInt ex122).trans t123
                              refine m_istore C [(5, .int x122), (0, .ref (aL X 34)), (1, .int i0), (2, .int n0), (3, .int e0), (4, .int q), (6, .int x90), (7, .int x55)] dX9_judgePath_195 (by decide) rfl ?_
                              refine m_iload C dX9_judgePath_197 6 rfl ?_
                              refine m_iconst C (2 : Int32) dX9_judgePath_199 (by decide) ?_
                              refine m_idiv C dX9_judgePath_200 (by decide) ?_
                              refine m_name (fun x125 ex125 => ?_)
                              have t126 : (x90 / (2 : Int32)).toInt = x90.toInt / 2 := i_div rfl (by omega) (by decide) (by decide)
                              have t127 : x125.toInt = (x90.toInt / 2) := (congrArg Int32.toInt ex125).trans t126
                              refine m_istore C [(6, .int x125), (5, .int x122), (0, .ref (aL X 34)), (1, .int i0), (2, .int n0), (3, .int e0), (4, .int q), (7, .int x55)] dX9_judgePath_201 (by decide) rfl ?_
                              obtain ⟨x128, ex128⟩ : ∃ z : Int32, z = x55 + Int32.ofInt 1 := ⟨_, rfl⟩
                              have t129 : (x55 + (Int32.ofInt 1)).toInt = x55.toInt + (1 : Int) := i_add rfl (by decide) (by omega) (by omega)
                              have t130 : x128.toInt = (x55.toInt + (1 : Int)) := (congrArg Int32.toInt ex128).trans t129
                              refine m_iinc C x128 [(7, .int x128), (6, .int x125), (5, .int x122), (0, .ref (aL X 34)), (1, .int i0), (2, .int n0), (3, .int e0), (4, .int q)] dX9_judgePath_203 (q := 7) rfl ex128.symm (by decide) rfl ?_
                              refine m_goto C 88 dX9_judgePath_206 (by decide) ?_
                              refine m_lv [3, 4, 5, 6, 7, 2, 1, 0] rfl ?_
                              exact ih88 x122 x125 x128 g117 (by omega) hI119 hK121 (by omega) (by omega) (by omega)
                            · skip
                              have th114 := i_ne h114
                              rw [show (0 : Int32).toInt = 0 by decide] at th114
                              refine m_iload C dX9_judgePath_149 5 rfl ?_
                              refine m_iconst C (2 : Int32) dX9_judgePath_151 (by decide) ?_
                              refine m_idiv C dX9_judgePath_152 (by decide) ?_
                              refine m_name (fun x131 ex131 => ?_)
                              have t132 : (x89 / (2 : Int32)).toInt = x89.toInt / 2 := i_div rfl (by omega) (by decide) (by decide)
                              have t133 : x131.toInt = (x89.toInt / 2) := (congrArg Int32.toInt ex131).trans t132
                              refine m_istore C [(5, .int x131), (0, .ref (aL X 34)), (1, .int i0), (2, .int n0), (3, .int e0), (4, .int q), (6, .int x90), (7, .int x55)] dX9_judgePath_153 (by decide) rfl ?_
                              refine m_iload C dX9_judgePath_155 6 rfl ?_
                              refine m_iconst C (2 : Int32) dX9_judgePath_157 (by decide) ?_
                              refine m_idiv C dX9_judgePath_158 (by decide) ?_
                              refine m_name (fun x134 ex134 => ?_)
                              have t135 : (x90 / (2 : Int32)).toInt = x90.toInt / 2 := i_div rfl (by omega) (by decide) (by decide)
                              have t136 : x134.toInt = (x90.toInt / 2) := (congrArg Int32.toInt ex134).trans t135
                              refine m_istore C [(6, .int x134), (5, .int x131), (0, .ref (aL X 34)), (1, .int i0), (2, .int n0), (3, .int e0), (4, .int q), (7, .int x55)] dX9_judgePath_159 (by decide) rfl ?_
                              refine m_goto C 137 dX9_judgePath_161 (by decide) ?_
                              refine m_lv [2, 3, 4, 5, 6, 1, 0, 7] rfl ?_
                              exact ih137 x131 x134 g91 (by omega) hI92 hK93 (by omega) (by omega)
                      refine m_lv [0, 1, 2, 3, 4, 5, 6, 7] rfl ?_
                      exact L137 (((x53.toInt).toNat) + 1) x53 x54 g83 (Nat.lt_succ_self _) hI85 hK88 (by omega) (by omega)
                    · skip
                      have th79 := i_ne h79
                      rw [show (1 : Int32).toInt = 1 by decide] at th79
                      refine m_iload C dX9_judgePath_112 5 rfl ?_
                      refine m_iload C dX9_judgePath_114 6 rfl ?_
                      refine m_icmp_ne C 164 dX9_judgePath_116 (by decide) (fun h137 => ?_) (fun h137 => ?_)
                      · skip
                        have th137 := i_ne h137
                        refine m_aload_n C dX9_judgePath_164 0 rfl ?_
                        refine m_aload_n C dX9_judgePath_165 0 rfl ?_
                        refine m_getr (rf := "") C 31 rfl gd9 (by decide) sh_34 rfl dX9_judgePath_166 lk_X9_77 ?_
                        refine m_iconst C (0 : Int32) dX9_judgePath_169 (by decide) ?_
                        refine m_aload_n C dX9_judgePath_170 0 rfl ?_
                        refine m_getr (rf := "") C 27 rfl gd9 (by decide) sh_34 rfl dX9_judgePath_171 lk_X9_65 ?_
                        refine m_bipush C (32 : Int32) dX9_judgePath_174 (by decide) ?_
                        refine m_iload C dX9_judgePath_176 7 rfl ?_
                        refine m_imul C dX9_judgePath_178 ?_
                        have t138 : ((32 : Int32) * x55).toInt = (32 : Int) * x55.toInt := i_mul (by decide) rfl (by omega) (by omega)
                        have t139 : (0 : Int32).toInt = 0 := by decide
                        refine m_invV C cal_X9_pair sh_34 rfl (c_X9_pair_57_53 l hX g56 (0 : Int32) ((32 : Int32) * x55) hI57 (by omega) (by omega)) lk_X9_273 im_X9_pair se_X9_pair (by decide) rfl rfl (Nat.le_of_ble_eq_true rfl) dX9_judgePath_179 ⟨Nat.le_refl _, Nat.le_refl _⟩ (rV fun g141 q142 => ?_)
                        obtain ⟨hI143, hK144⟩ := q142
                        have ev145 : g141 34 26 = g56 34 26 := hK144.2 26 (by decide)
                        have tev145 := congrArg Int32.toInt ev145
                        have hK146 : Kq [36, 37, 38, 39, 57] [4] g g141 := (hK58).tr hK144 (by decide) (by decide)
                        refine m_aload_n C dX9_judgePath_182 0 rfl ?_
                        refine m_aload_n C dX9_judgePath_183 0 rfl ?_
                        refine m_getr (rf := "") C 31 rfl gd9 (by decide) sh_34 rfl dX9_judgePath_184 lk_X9_77 ?_
                        refine m_iconst C (0 : Int32) dX9_judgePath_187 (by decide) ?_
                        have t147 : (0 : Int32).toInt = 0 := by decide
                        refine m_invV C cal_X9_lay sh_34 rfl (c_X9_lay_57 l hX g141 (0 : Int32) hI143 (by omega)) lk_X9_213 im_X9_lay se_X9_lay (by decide) rfl rfl (Nat.le_of_ble_eq_true rfl) dX9_judgePath_188 ⟨Nat.le_refl _, Nat.le_refl _⟩ (rV fun g149 q150 => ?_)
                        obtain ⟨hI151, hK152⟩ := q150
                        have ev153 : g149 34 26 = g141 34 26 := hK152.2 26 (by decide)
                        have tev153 := congrArg Int32.toInt ev153
                        have hK154 : Kq [36, 37, 38, 39, 57] [4] g g149 := (hK146).tr hK152 (by decide) (by decide)
                        refine m_iload C dX9_judgePath_191 5 rfl ?_
                        refine m_iconst C (2 : Int32) dX9_judgePath_193 (by decide) ?_
                        refine m_idiv C dX9_judgePath_194 (by decide) ?_
                        refine m_name (fun x155 ex155 => ?_)
                        have t156 : (x53 / (2 : Int32)).toInt = x53.toInt / 2 := i_div rfl (by omega) (by decide) (by decide)
                        have t157 : x155.toInt = (x53.toInt / 2) := (congrArg Int32.toInt ex155).trans t156
                        refine m_istore C [(5, .int x155), (0, .ref (aL X 34)), (1, .int i0), (2, .int n0), (3, .int e0), (4, .int q), (6, .int x54), (7, .int x55)] dX9_judgePath_195 (by decide) rfl ?_
                        refine m_iload C dX9_judgePath_197 6 rfl ?_
                        refine m_iconst C (2 : Int32) dX9_judgePath_199 (by decide) ?_
                        refine m_idiv C dX9_judgePath_200 (by decide) ?_
                        refine m_name (fun x158 ex158 => ?_)
                        have t159 : (x54 / (2 : Int32)).toInt = x54.toInt / 2 := i_div rfl (by omega) (by decide) (by decide)
                        have t160 : x158.toInt = (x54.toInt / 2) := (congrArg Int32.toInt ex158).trans t159
                        refine m_istore C [(6, .int x158), (5, .int x155), (0, .ref (aL X 34)), (1, .int i0), (2, .int n0), (3, .int e0), (4, .int q), (7, .int x55)] dX9_judgePath_201 (by decide) rfl ?_
                        obtain ⟨x161, ex161⟩ : ∃ z : Int32, z = x55 + Int32.ofInt 1 := ⟨_, rfl⟩
                        have t162 : (x55 + (Int32.ofInt 1)).toInt = x55.toInt + (1 : Int) := i_add rfl (by decide) (by omega) (by omega)
                        have t163 : x161.toInt = (x55.toInt + (1 : Int)) := (congrArg Int32.toInt ex161).trans t162
                        refine m_iinc C x161 [(7, .int x161), (6, .int x158), (5, .int x155), (0, .ref (aL X 34)), (1, .int i0), (2, .int n0), (3, .int e0), (4, .int q)] dX9_judgePath_203 (q := 7) rfl ex161.symm (by decide) rfl ?_
                        refine m_goto C 88 dX9_judgePath_206 (by decide) ?_
                        refine m_lv [3, 4, 5, 6, 7, 2, 1, 0] rfl ?_
                        exact ih88 x155 x158 x161 g149 (by omega) hI151 hK154 (by omega) (by omega) (by omega)
                      · skip
                        have th137 := i_eq h137
                        refine m_aload_n C dX9_judgePath_119 0 rfl ?_
                        refine m_aload_n C dX9_judgePath_120 0 rfl ?_
                        refine m_getr (rf := "") C 27 rfl gd9 (by decide) sh_34 rfl dX9_judgePath_121 lk_X9_65 ?_
                        refine m_bipush C (32 : Int32) dX9_judgePath_124 (by decide) ?_
                        refine m_iload C dX9_judgePath_126 7 rfl ?_
                        refine m_imul C dX9_judgePath_128 ?_
                        refine m_aload_n C dX9_judgePath_129 0 rfl ?_
                        refine m_getr (rf := "") C 31 rfl gd9 (by decide) sh_34 rfl dX9_judgePath_130 lk_X9_77 ?_
                        refine m_iconst C (0 : Int32) dX9_judgePath_133 (by decide) ?_
                        have t164 : ((32 : Int32) * x55).toInt = (32 : Int) * x55.toInt := i_mul (by decide) rfl (by omega) (by omega)
                        have t165 : (0 : Int32).toInt = 0 := by decide
                        refine m_invV C cal_X9_pair sh_34 rfl (c_X9_pair_53_57 l hX g56 ((32 : Int32) * x55) (0 : Int32) hI57 (by omega) (by omega)) lk_X9_273 im_X9_pair se_X9_pair (by decide) rfl rfl (Nat.le_of_ble_eq_true rfl) dX9_judgePath_134 ⟨Nat.le_refl _, Nat.le_refl _⟩ (rV fun g167 q168 => ?_)
                        obtain ⟨hI169, hK170⟩ := q168
                        have ev171 : g167 34 26 = g56 34 26 := hK170.2 26 (by decide)
                        have tev171 := congrArg Int32.toInt ev171
                        have hK172 : Kq [36, 37, 38, 39, 57] [4] g g167 := (hK58).tr hK170 (by decide) (by decide)
                        have L137 : ∀ (n137 : Nat) (x173 : Int32) (x174 : Int32) (g175 : Mem), (x173.toInt).toNat < n137 → Inv g175 → Kq [36, 37, 38, 39, 57] [4] g g175 → 0 ≤ x173.toInt ∧ x173.toInt ≤ 60 → 0 ≤ x174.toInt ∧ x174.toInt ≤ 60 → Wm X p l e (rmD 4) s m ([.ref (aL X 34), .int i0, .int n0, .int e0, .int q] : List Value).toArray below meth c 8 0 0 (MQ below (cQ X (pI (fun r g2 => Inv g2 ∧ Kq [36, 37, 38, 39, 57] [4] g g2))) ([.ref (aL X 34), .int i0, .int n0, .int e0, .int q] : List Value).toArray s 0 0 (Ab X)) g175 137 [(0, .ref (aL X 34)), (1, .int i0), (2, .int n0), (3, .int e0), (4, .int q), (5, .int x173), (6, .int x174), (7, .int x55)] [] := by
                          intro n137
                          induction n137 with
                          | zero => intro x173 x174 g175 hm; exact absurd hm (Nat.not_lt_zero _)
                          | succ n137 ih137 =>
                            intro x173 x174 g175 hm137 hI176 hK177 i178 i179
                            obtain ⟨i178a, i178b⟩ := i178
                            obtain ⟨i179a, i179b⟩ := i179
                            refine m_iload C dX9_judgePath_137 5 rfl ?_
                            refine m_iconst C (2 : Int32) dX9_judgePath_139 (by decide) ?_
                            refine m_irem C dX9_judgePath_140 (by decide) ?_
                            have t180 : (x173 - x173 / (2 : Int32) * (2 : Int32)).toInt = x173.toInt % 2 := i_rem rfl (by omega) (by decide) (by decide)
                            refine m_if_ne C 182 dX9_judgePath_141 (by decide) (fun h181 => ?_) (fun h181 => ?_)
                            · skip
                              have th181 := i_ne h181
                              rw [show (0 : Int32).toInt = 0 by decide] at th181
                              refine m_aload_n C dX9_judgePath_182 0 rfl ?_
                              refine m_aload_n C dX9_judgePath_183 0 rfl ?_
                              refine m_getr (rf := "") C 31 rfl gd9 (by decide) sh_34 rfl dX9_judgePath_184 lk_X9_77 ?_
                              refine m_iconst C (0 : Int32) dX9_judgePath_187 (by decide) ?_
                              have t182 : (0 : Int32).toInt = 0 := by decide
                              refine m_invV C cal_X9_lay sh_34 rfl (c_X9_lay_57 l hX g175 (0 : Int32) hI176 (by omega)) lk_X9_213 im_X9_lay se_X9_lay (by decide) rfl rfl (Nat.le_of_ble_eq_true rfl) dX9_judgePath_188 ⟨Nat.le_refl _, Nat.le_refl _⟩ (rV fun g184 q185 => ?_)
                              obtain ⟨hI186, hK187⟩ := q185
                              have hK188 : Kq [36, 37, 38, 39, 57] [4] g g184 := (hK177).tr hK187 (by decide) (by decide)
                              refine m_iload C dX9_judgePath_191 5 rfl ?_
                              refine m_iconst C (2 : Int32) dX9_judgePath_193 (by decide) ?_
                              refine m_idiv C dX9_judgePath_194 (by decide) ?_
                              refine m_name (fun x189 ex189 => ?_)
                              have t190 : (x173 / (2 : Int32)).toInt = x173.toInt / 2 := i_div rfl (by omega) (by decide) (by decide)
                              have t191 : x189.toInt = (x173.toInt / 2) := (congrArg Int32.toInt ex189).trans t190
                              refine m_istore C [(5, .int x189), (0, .ref (aL X 34)), (1, .int i0), (2, .int n0), (3, .int e0), (4, .int q), (6, .int x174), (7, .int x55)] dX9_judgePath_195 (by decide) rfl ?_
                              refine m_iload C dX9_judgePath_197 6 rfl ?_
                              refine m_iconst C (2 : Int32) dX9_judgePath_199 (by decide) ?_
                              refine m_idiv C dX9_judgePath_200 (by decide) ?_
                              refine m_name (fun x192 ex192 => ?_)
                              have t193 : (x174 / (2 : Int32)).toInt = x174.toInt / 2 := i_div rfl (by omega) (by decide) (by decide)
                              have t194 : x192.toInt = (x174.toInt / 2) := (congrArg Int32.toInt ex192).trans t193
                              refine m_istore C [(6, .int x192), (5, .int x189), (0, .ref (aL X 34)), (1, .int i0), (2, .int n0), (3, .int e0), (4, .int q), (7, .int x55)] dX9_judgePath_201 (by decide) rfl ?_
                              obtain ⟨x195, ex195⟩ : ∃ z : Int32, z = x55 + Int32.ofInt 1 := ⟨_, rfl⟩
                              have t196 : (x55 + (Int32.ofInt 1)).toInt = x55.toInt + (1 : Int) := i_add rfl (by decide) (by omega) (by omega)
                              have t197 : x195.toInt = (x55.toInt + (1 : Int)) := (congrArg Int32.toInt ex195).trans t196
                              refine m_iinc C x195 [(7, .int x195), (6, .int x192), (5, .int x189), (0, .ref (aL X 34)), (1, .int i0), (2, .int n0), (3, .int e0), (4, .int q)] dX9_judgePath_203 (q := 7) rfl ex195.symm (by decide) rfl ?_
                              refine m_goto C 88 dX9_judgePath_206 (by decide) ?_
                              refine m_lv [3, 4, 5, 6, 7, 2, 1, 0] rfl ?_
                              exact ih88 x189 x192 x195 g184 (by omega) hI186 hK188 (by omega) (by omega) (by omega)
                            · skip
                              have th181 := i_eq h181
                              rw [show (0 : Int32).toInt = 0 by decide] at th181
                              refine m_iload C dX9_judgePath_144 5 rfl ?_
                              refine m_if_eq C 182 dX9_judgePath_146 (by decide) (fun h198 => ?_) (fun h198 => ?_)
                              · skip
                                have th198 := i_eq h198
                                rw [show (0 : Int32).toInt = 0 by decide] at th198
                                refine m_aload_n C dX9_judgePath_182 0 rfl ?_
                                refine m_aload_n C dX9_judgePath_183 0 rfl ?_
                                refine m_getr (rf := "") C 31 rfl gd9 (by decide) sh_34 rfl dX9_judgePath_184 lk_X9_77 ?_
                                refine m_iconst C (0 : Int32) dX9_judgePath_187 (by decide) ?_
                                have t199 : (0 : Int32).toInt = 0 := by decide
                                refine m_invV C cal_X9_lay sh_34 rfl (c_X9_lay_57 l hX g175 (0 : Int32) hI176 (by omega)) lk_X9_213 im_X9_lay se_X9_lay (by decide) rfl rfl (Nat.le_of_ble_eq_true rfl) dX9_judgePath_188 ⟨Nat.le_refl _, Nat.le_refl _⟩ (rV fun g201 q202 => ?_)
                                obtain ⟨hI203, hK204⟩ := q202
                                have hK205 : Kq [36, 37, 38, 39, 57] [4] g g201 := (hK177).tr hK204 (by decide) (by decide)
                                refine m_iload C dX9_judgePath_191 5 rfl ?_
                                refine m_iconst C (2 : Int32) dX9_judgePath_193 (by decide) ?_
                                refine m_idiv C dX9_judgePath_194 (by decide) ?_
                                refine m_name (fun x206 ex206 => ?_)
                                have t207 : (x173 / (2 : Int32)).toInt = x173.toInt / 2 := i_div rfl (by omega) (by decide) (by decide)
                                have t208 : x206.toInt = (x173.toInt / 2) := (congrArg Int32.toInt ex206).trans t207
                                refine m_istore C [(5, .int x206), (0, .ref (aL X 34)), (1, .int i0), (2, .int n0), (3, .int e0), (4, .int q), (6, .int x174), (7, .int x55)] dX9_judgePath_195 (by decide) rfl ?_
                                refine m_iload C dX9_judgePath_197 6 rfl ?_
                                refine m_iconst C (2 : Int32) dX9_judgePath_199 (by decide) ?_
                                refine m_idiv C dX9_judgePath_200 (by decide) ?_
                                refine m_name (fun x209 ex209 => ?_)
                                have t210 : (x174 / (2 : Int32)).toInt = x174.toInt / 2 := i_div rfl (by omega) (by decide) (by decide)
                                have t211 : x209.toInt = (x174.toInt / 2) := (congrArg Int32.toInt ex209).trans t210
                                refine m_istore C [(6, .int x209), (5, .int x206), (0, .ref (aL X 34)), (1, .int i0), (2, .int n0), (3, .int e0), (4, .int q), (7, .int x55)] dX9_judgePath_201 (by decide) rfl ?_
                                obtain ⟨x212, ex212⟩ : ∃ z : Int32, z = x55 + Int32.ofInt 1 := ⟨_, rfl⟩
                                have t213 : (x55 + (Int32.ofInt 1)).toInt = x55.toInt + (1 : Int) := i_add rfl (by decide) (by omega) (by omega)
                                have t214 : x212.toInt = (x55.toInt + (1 : Int)) := (congrArg Int32.toInt ex212).trans t213
                                refine m_iinc C x212 [(7, .int x212), (6, .int x209), (5, .int x206), (0, .ref (aL X 34)), (1, .int i0), (2, .int n0), (3, .int e0), (4, .int q)] dX9_judgePath_203 (q := 7) rfl ex212.symm (by decide) rfl ?_
                                refine m_goto C 88 dX9_judgePath_206 (by decide) ?_
                                refine m_lv [3, 4, 5, 6, 7, 2, 1, 0] rfl ?_
                                exact ih88 x206 x209 x212 g201 (by omega) hI203 hK205 (by omega) (by omega) (by omega)
                              · skip
                                have th198 := i_ne h198
                                rw [show (0 : Int32).toInt = 0 by decide] at th198
                                refine m_iload C dX9_judgePath_149 5 rfl ?_
                                refine m_iconst C (2 : Int32) dX9_judgePath_151 (by decide) ?_
                                refine m_idiv C dX9_judgePath_152 (by decide) ?_
                                refine m_name (fun x215 ex215 => ?_)
                                have t216 : (x173 / (2 : Int32)).toInt = x173.toInt / 2 := i_div rfl (by omega) (by decide) (by decide)
                                have t217 : x215.toInt = (x173.toInt / 2) := (congrArg Int32.toInt ex215).trans t216
                                refine m_istore C [(5, .int x215), (0, .ref (aL X 34)), (1, .int i0), (2, .int n0), (3, .int e0), (4, .int q), (6, .int x174), (7, .int x55)] dX9_judgePath_153 (by decide) rfl ?_
                                refine m_iload C dX9_judgePath_155 6 rfl ?_
                                refine m_iconst C (2 : Int32) dX9_judgePath_157 (by decide) ?_
                                refine m_idiv C dX9_judgePath_158 (by decide) ?_
                                refine m_name (fun x218 ex218 => ?_)
                                have t219 : (x174 / (2 : Int32)).toInt = x174.toInt / 2 := i_div rfl (by omega) (by decide) (by decide)
                                have t220 : x218.toInt = (x174.toInt / 2) := (congrArg Int32.toInt ex218).trans t219
                                refine m_istore C [(6, .int x218), (5, .int x215), (0, .ref (aL X 34)), (1, .int i0), (2, .int n0), (3, .int e0), (4, .int q), (7, .int x55)] dX9_judgePath_159 (by decide) rfl ?_
                                refine m_goto C 137 dX9_judgePath_161 (by decide) ?_
                                refine m_lv [2, 3, 4, 5, 6, 1, 0, 7] rfl ?_
                                exact ih137 x215 x218 g175 (by omega) hI176 hK177 (by omega) (by omega)
                        refine m_lv [0, 1, 2, 3, 4, 5, 6, 7] rfl ?_
                        exact L137 (((x53.toInt).toNat) + 1) x53 x54 g167 (Nat.lt_succ_self _) hI169 hK172 (by omega) (by omega)
                  · skip
                    have th77 := i_eq h77
                    rw [show (0 : Int32).toInt = 0 by decide] at th77
                    refine m_iconst C (0 : Int32) dX9_judgePath_102 (by decide) ?_
                    exact m_iret C dX9_judgePath_103 ⟨_, rfl, hI57, hK58⟩
            have t221 : (0 : Int32).toInt = 0 := by decide
            refine m_lv [3, 4, 5, 6, 7, 2, 1, 0] rfl ?_
            exact L88 (((9 - (0 : Int32).toInt).toNat) + 1) i0 x36 (0 : Int32) g47 (Nat.lt_succ_self _) hI49 hK51 (by omega) (by omega) (by omega)
          · skip
            have th34 := i_nlt h34
            refine m_iconst C (0 : Int32) dX9_judgePath_61 (by decide) ?_
            exact m_iret C dX9_judgePath_62 ⟨_, rfl, hI, Kq.rf⟩
        · skip
          subst g31
          refine m_if_ne C 56 dX9_judgePath_50 (by decide) (fun h => absurd (by decide) h) (fun _ => ?_)
          refine m_bipush C (-2 : Int32) dX9_judgePath_53 (by decide) ?_
          exact m_iret C dX9_judgePath_55 ⟨_, rfl, hI, Kq.rf⟩
      · skip
        subst g24
        refine m_if_eq C 53 dX9_judgePath_37 (by decide) (fun _ => ?_) (fun h => absurd (by decide) h)
        refine m_bipush C (-2 : Int32) dX9_judgePath_53 (by decide) ?_
        exact m_iret C dX9_judgePath_55 ⟨_, rfl, hI, Kq.rf⟩
    · skip
      subst g12
      refine m_if_eq C 53 dX9_judgePath_21 (by decide) (fun _ => ?_) (fun h => absurd (by decide) h)
      refine m_bipush C (-2 : Int32) dX9_judgePath_53 (by decide) ?_
      exact m_iret C dX9_judgePath_55 ⟨_, rfl, hI, Kq.rf⟩
  · skip
    subst g5
    refine m_if_eq C 53 dX9_judgePath_9 (by decide) (fun _ => ?_) (fun h => absurd (by decide) h)
    refine m_bipush C (-2 : Int32) dX9_judgePath_53 (by decide) ?_
    exact m_iret C dX9_judgePath_55 ⟨_, rfl, hI, Kq.rf⟩
set_option maxRecDepth 20000 in
set_option maxHeartbeats 4000000 in
theorem c_X9_judgeSteps (l : Launch) {X : XT} (hX : Lok X) (g : Mem) (m0 : Int32) (n0 : Int32) (o : Int32) (q : Int32) (hI : Inv g) : Ctr l X yX9_judgeSteps cX9_judgeSteps 10 (some .int) (rmD 4) [.ref (aL X 34), .int m0, .int n0, .int o, .int q] g (pI (fun r g2 => Inv g2 ∧ Kq [36, 37, 38, 39, 57, 58, 59] [4] g g2)) := by
  refine Ctr.of (lv := [(0, .ref (aL X 34)), (1, .int m0), (2, .int n0), (3, .int o), (4, .int q)]) hX (by decide) rfl (Nat.le_of_ble_eq_true rfl) ?_
  intro p e s m below meth c C
  refine m_iload_n C dX9_judgeSteps_0 1 rfl ?_
  refine m_i2l C dX9_judgeSteps_1 ?_
  refine m_lconst C (0 : Int64) dX9_judgeSteps_2 (by decide) ?_
  refine m_ldc2 C (60) dX9_judgeSteps_3 lk_X9_293 ?_
  have t1 : (m0.toInt64).toInt = m0.toInt := i2l_t _
  have t2 : (0 : Int64).toInt = 0 := by decide
  have t3 : (60 : Int64).toInt = 60 := by decide
  refine m_invS C cal_X9_in (c_X9_in l hX g (m0.toInt64) (0 : Int64) (60 : Int64) ) lk_X9_185 st_X9_in (by decide) rfl rfl (Nat.le_of_ble_eq_true rfl) dX9_judgeSteps_6 ⟨Nat.le_refl _, Nat.le_refl _⟩ (rI fun r4 g5 q6 => ?_)
  obtain ⟨eg5, ⟨rfl, h7⟩ | ⟨rfl, h7⟩⟩ := q6
  · skip
    subst g5
    refine m_if_eq C 49 dX9_judgeSteps_9 (by decide) (fun h => absurd h (by decide)) (fun _ => ?_)
    refine m_iload_n C dX9_judgeSteps_12 2 rfl ?_
    refine m_i2l C dX9_judgeSteps_13 ?_
    refine m_lconst C (0 : Int64) dX9_judgeSteps_14 (by decide) ?_
    refine m_ldc2 C (60) dX9_judgeSteps_15 lk_X9_293 ?_
    have t8 : (n0.toInt64).toInt = n0.toInt := i2l_t _
    have t9 : (0 : Int64).toInt = 0 := by decide
    have t10 : (60 : Int64).toInt = 60 := by decide
    refine m_invS C cal_X9_in (c_X9_in l hX g (n0.toInt64) (0 : Int64) (60 : Int64) ) lk_X9_185 st_X9_in (by decide) rfl rfl (Nat.le_of_ble_eq_true rfl) dX9_judgeSteps_18 ⟨Nat.le_refl _, Nat.le_refl _⟩ (rI fun r11 g12 q13 => ?_)
    obtain ⟨eg12, ⟨rfl, h14⟩ | ⟨rfl, h14⟩⟩ := q13
    · skip
      subst g12
      refine m_if_eq C 49 dX9_judgeSteps_21 (by decide) (fun h => absurd h (by decide)) (fun _ => ?_)
      refine m_iload_n C dX9_judgeSteps_24 3 rfl ?_
      refine m_i2l C dX9_judgeSteps_25 ?_
      refine m_lconst C (0 : Int64) dX9_judgeSteps_26 (by decide) ?_
      refine m_ldc2 C (3) dX9_judgeSteps_27 lk_X9_234 ?_
      have t15 : (o.toInt64).toInt = o.toInt := i2l_t _
      have t16 : (0 : Int64).toInt = 0 := by decide
      have t17 : (3 : Int64).toInt = 3 := by decide
      refine m_invS C cal_X9_in (c_X9_in l hX g (o.toInt64) (0 : Int64) (3 : Int64) ) lk_X9_185 st_X9_in (by decide) rfl rfl (Nat.le_of_ble_eq_true rfl) dX9_judgeSteps_30 ⟨Nat.le_refl _, Nat.le_refl _⟩ (rI fun r18 g19 q20 => ?_)
      obtain ⟨eg19, ⟨rfl, h21⟩ | ⟨rfl, h21⟩⟩ := q20
      · skip
        subst g19
        refine m_if_eq C 49 dX9_judgeSteps_33 (by decide) (fun h => absurd h (by decide)) (fun _ => ?_)
        refine m_iload C dX9_judgeSteps_36 4 rfl ?_
        refine m_i2l C dX9_judgeSteps_38 ?_
        refine m_lconst C (0 : Int64) dX9_judgeSteps_39 (by decide) ?_
        refine m_ldc2 C (3) dX9_judgeSteps_40 lk_X9_234 ?_
        have t22 : (q.toInt64).toInt = q.toInt := i2l_t _
        have t23 : (0 : Int64).toInt = 0 := by decide
        have t24 : (3 : Int64).toInt = 3 := by decide
        refine m_invS C cal_X9_in (c_X9_in l hX g (q.toInt64) (0 : Int64) (3 : Int64) ) lk_X9_185 st_X9_in (by decide) rfl rfl (Nat.le_of_ble_eq_true rfl) dX9_judgeSteps_43 ⟨Nat.le_refl _, Nat.le_refl _⟩ (rI fun r25 g26 q27 => ?_)
        obtain ⟨eg26, ⟨rfl, h28⟩ | ⟨rfl, h28⟩⟩ := q27
        · skip
          subst g26
          refine m_if_ne C 52 dX9_judgeSteps_46 (by decide) (fun _ => ?_) (fun h => absurd h (by decide))
          refine m_iload_n C dX9_judgeSteps_52 1 rfl ?_
          refine m_i2l C dX9_judgeSteps_53 ?_
          refine m_lconst C (1 : Int64) dX9_judgeSteps_54 (by decide) ?_
          refine m_iload_n C dX9_judgeSteps_55 2 rfl ?_
          refine m_i2l C dX9_judgeSteps_56 ?_
          have t29 : (m0.toInt64).toInt = m0.toInt := i2l_t _
          have t30 : (1 : Int64).toInt = 1 := by decide
          have t31 : (n0.toInt64).toInt = n0.toInt := i2l_t _
          refine m_invS C cal_X9_in (c_X9_in l hX g (m0.toInt64) (1 : Int64) (n0.toInt64) ) lk_X9_185 st_X9_in (by decide) rfl rfl (Nat.le_of_ble_eq_true rfl) dX9_judgeSteps_57 ⟨Nat.le_refl _, Nat.le_refl _⟩ (rI fun r32 g33 q34 => ?_)
          obtain ⟨eg33, ⟨rfl, h35⟩ | ⟨rfl, h35⟩⟩ := q34
          · skip
            subst g33
            refine m_if_ne C 65 dX9_judgeSteps_60 (by decide) (fun _ => ?_) (fun h => absurd h (by decide))
            refine m_iload_n C dX9_judgeSteps_65 1 rfl ?_
            refine m_iload_n C dX9_judgeSteps_66 2 rfl ?_
            refine m_icmp_ne C 106 dX9_judgeSteps_67 (by decide) (fun h36 => ?_) (fun h36 => ?_)
            · skip
              have th36 := i_ne h36
              refine m_iload_n C dX9_judgeSteps_106 1 rfl ?_
              refine m_iload_n C dX9_judgeSteps_107 1 rfl ?_
              refine m_iconst C (1 : Int32) dX9_judgeSteps_108 (by decide) ?_
              refine m_isub C dX9_judgeSteps_109 ?_
              refine m_iand C dX9_judgeSteps_110 ?_
              refine m_if_ne C 118 dX9_judgeSteps_111 (by decide) (fun h37 => ?_) (fun h37 => ?_)
              · skip
                have th37 := i_ne h37
                rw [show (0 : Int32).toInt = 0 by decide] at th37
                refine m_iconst C (0 : Int32) dX9_judgeSteps_118 (by decide) ?_
                refine m_istore C [(5, .int (0 : Int32)), (0, .ref (aL X 34)), (1, .int m0), (2, .int n0), (3, .int o), (4, .int q)] dX9_judgeSteps_119 (by decide) rfl ?_
                refine m_iconst C (0 : Int32) dX9_judgeSteps_121 (by decide) ?_
                refine m_istore C [(6, .int (0 : Int32)), (5, .int (0 : Int32)), (0, .ref (aL X 34)), (1, .int m0), (2, .int n0), (3, .int o), (4, .int q)] dX9_judgeSteps_122 (by decide) rfl ?_
                have L124 : ∀ (n124 : Nat) (x40 : Int32) (g41 : Mem), (33 - x40.toInt).toNat < n124 → Inv g41 → Kq [36, 37, 38, 39, 57, 58, 59] [4] g g41 → 0 ≤ x40.toInt ∧ x40.toInt ≤ 32 → Wm X p l e (rmD 4) s m ([.ref (aL X 34), .int m0, .int n0, .int o, .int q] : List Value).toArray below meth c 10 0 0 (MQ below (cQ X (pI (fun r g2 => Inv g2 ∧ Kq [36, 37, 38, 39, 57, 58, 59] [4] g g2))) ([.ref (aL X 34), .int m0, .int n0, .int o, .int q] : List Value).toArray s 0 0 (Ab X)) g41 124 [(0, .ref (aL X 34)), (1, .int m0), (2, .int n0), (3, .int o), (4, .int q), (5, .int (0 : Int32)), (6, .int x40)] [] := by
                  intro n124
                  induction n124 with
                  | zero => intro x40 g41 hm; exact absurd hm (Nat.not_lt_zero _)
                  | succ n124 ih124 =>
                    intro x40 g41 hm124 hI42 hK43 i44
                    obtain ⟨i44a, i44b⟩ := i44
                    refine m_iload C dX9_judgeSteps_124 6 rfl ?_
                    refine m_bipush C (32 : Int32) dX9_judgeSteps_126 (by decide) ?_
                    refine m_icmp_ge C 156 dX9_judgeSteps_128 (by decide) (fun h45 => ?_) (fun h45 => ?_)
                    · skip
                      have th45 := i_le h45
                      rw [show (32 : Int32).toInt = 32 by decide] at th45
                      refine m_iconst C (0 : Int32) dX9_judgeSteps_156 (by decide) ?_
                      refine m_istore C [(6, .int (0 : Int32)), (0, .ref (aL X 34)), (1, .int m0), (2, .int n0), (3, .int o), (4, .int q), (5, .int (0 : Int32))] dX9_judgeSteps_157 (by decide) rfl ?_
                      have L159 : ∀ (n159 : Nat) (x47 : Int32) (g48 : Mem), (257 - x47.toInt).toNat < n159 → Inv g48 → Kq [36, 37, 38, 39, 57, 58, 59] [4] g g48 → 0 ≤ x47.toInt ∧ x47.toInt ≤ 256 → Wm X p l e (rmD 4) s m ([.ref (aL X 34), .int m0, .int n0, .int o, .int q] : List Value).toArray below meth c 10 0 0 (MQ below (cQ X (pI (fun r g2 => Inv g2 ∧ Kq [36, 37, 38, 39, 57, 58, 59] [4] g g2))) ([.ref (aL X 34), .int m0, .int n0, .int o, .int q] : List Value).toArray s 0 0 (Ab X)) g48 159 [(0, .ref (aL X 34)), (1, .int m0), (2, .int n0), (3, .int o), (4, .int q), (5, .int (0 : Int32)), (6, .int x47)] [] := by
                        intro n159
                        induction n159 with
                        | zero => intro x47 g48 hm; exact absurd hm (Nat.not_lt_zero _)
                        | succ n159 ih159 =>
                          intro x47 g48 hm159 hI49 hK50 i51
                          obtain ⟨i51a, i51b⟩ := i51
                          refine m_iload C dX9_judgeSteps_159 6 rfl ?_
                          refine m_bipush C (32 : Int32) dX9_judgeSteps_161 (by decide) ?_
                          refine m_aload_n C dX9_judgeSteps_163 0 rfl ?_
                          refine m_geti (rf := "") C 26 rfl gd9 (by decide) sh_34 rfl dX9_judgeSteps_164 lk_X9_281 ?_
                          have r52 := iv_pmany hI49
                          have ev53 : g48 34 26 = g 34 26 := hK50.2 26 (by decide)
                          have tev53 := congrArg Int32.toInt ev53
                          refine m_imul C dX9_judgeSteps_167 ?_
                          have t54 : ((32 : Int32) * (g48 34 26)).toInt = (32 : Int) * (g48 34 26).toInt := i_mul (by decide) rfl (by omega) (by omega)
                          refine m_icmp_ge C 197 dX9_judgeSteps_168 (by decide) (fun h55 => ?_) (fun h55 => ?_)
                          · skip
                            have th55 := i_le h55
                            refine m_iload C dX9_judgeSteps_197 5 rfl ?_
                            refine m_aload_n C dX9_judgeSteps_199 0 rfl ?_
                            refine m_geti (rf := "") C 26 rfl gd9 (by decide) sh_34 rfl dX9_judgeSteps_200 lk_X9_281 ?_
                            have r56 := iv_pmany hI49
                            have ev57 : g48 34 26 = g 34 26 := hK50.2 26 (by decide)
                            have tev57 := congrArg Int32.toInt ev57
                            refine m_iadd C dX9_judgeSteps_203 ?_
                            refine m_name (fun x58 ex58 => ?_)
                            have t59 : ((0 : Int32) + (g48 34 26)).toInt = (0 : Int) + (g48 34 26).toInt := i_add (by decide) rfl (by omega) (by omega)
                            have t60 : x58.toInt = ((0 : Int) + (g48 34 26).toInt) := (congrArg Int32.toInt ex58).trans t59
                            refine m_istore C [(6, .int x58), (0, .ref (aL X 34)), (1, .int m0), (2, .int n0), (3, .int o), (4, .int q), (5, .int (0 : Int32))] dX9_judgeSteps_204 (by decide) rfl ?_
                            refine m_iload C dX9_judgeSteps_206 0 rfl ?_
                            refine m_if_ne C 213 dX9_judgeSteps_208 (by decide) (fun h61 => ?_) (fun h61 => ?_)
                            · skip
                              have th61 := i_ne h61
                              rw [show (0 : Int32).toInt = 0 by decide] at th61
                              refine m_iload_n C dX9_judgeSteps_213 2 rfl ?_
                              refine m_iconst C (1 : Int32) dX9_judgeSteps_214 (by decide) ?_
                              refine m_isub C dX9_judgeSteps_215 ?_
                              refine m_name (fun x62 ex62 => ?_)
                              have t63 : (m0 - (1 : Int32)).toInt = m0.toInt - (1 : Int) := i_sub rfl (by decide) (by omega) (by omega)
                              have t64 : x62.toInt = (m0.toInt - (1 : Int)) := (congrArg Int32.toInt ex62).trans t63
                              refine m_istore C [(7, .int x62), (6, .int x58), (0, .ref (aL X 34)), (1, .int m0), (2, .int n0), (3, .int o), (4, .int q), (5, .int (0 : Int32))] dX9_judgeSteps_216 (by decide) rfl ?_
                              refine m_iload_n C dX9_judgeSteps_218 4 rfl ?_
                              refine m_iconst C (1 : Int32) dX9_judgeSteps_219 (by decide) ?_
                              refine m_isub C dX9_judgeSteps_220 ?_
                              refine m_name (fun x65 ex65 => ?_)
                              have t66 : (n0 - (1 : Int32)).toInt = n0.toInt - (1 : Int) := i_sub rfl (by decide) (by omega) (by omega)
                              have t67 : x65.toInt = (n0.toInt - (1 : Int)) := (congrArg Int32.toInt ex65).trans t66
                              refine m_istore C [(8, .int x65), (7, .int x62), (6, .int x58), (0, .ref (aL X 34)), (1, .int m0), (2, .int n0), (3, .int o), (4, .int q), (5, .int (0 : Int32))] dX9_judgeSteps_221 (by decide) rfl ?_
                              have L223 : ∀ (n223 : Nat) (x68 : Int32) (x69 : Int32) (g70 : Mem), (x68.toInt).toNat < n223 → Inv g70 → Kq [36, 37, 38, 39, 57, 58, 59] [4] g g70 → 0 ≤ x68.toInt ∧ x68.toInt ≤ 60 → 0 ≤ x69.toInt ∧ x69.toInt ≤ 60 → Wm X p l e (rmD 4) s m ([.ref (aL X 34), .int m0, .int n0, .int o, .int q] : List Value).toArray below meth c 10 0 0 (MQ below (cQ X (pI (fun r g2 => Inv g2 ∧ Kq [36, 37, 38, 39, 57, 58, 59] [4] g g2))) ([.ref (aL X 34), .int m0, .int n0, .int o, .int q] : List Value).toArray s 0 0 (Ab X)) g70 223 [(0, .ref (aL X 34)), (1, .int m0), (2, .int n0), (3, .int o), (4, .int q), (5, .int (0 : Int32)), (6, .int x58), (7, .int x68), (8, .int x69)] [] := by
                                intro n223
                                induction n223 with
                                | zero => intro x68 x69 g70 hm; exact absurd hm (Nat.not_lt_zero _)
                                | succ n223 ih223 =>
                                  intro x68 x69 g70 hm223 hI71 hK72 i73 i74
                                  obtain ⟨i73a, i73b⟩ := i73
                                  obtain ⟨i74a, i74b⟩ := i74
                                  refine m_iload C dX9_judgeSteps_223 7 rfl ?_
                                  refine m_iconst C (2 : Int32) dX9_judgeSteps_225 (by decide) ?_
                                  refine m_irem C dX9_judgeSteps_226 (by decide) ?_
                                  refine m_iconst C (1 : Int32) dX9_judgeSteps_227 (by decide) ?_
                                  have t75 : (x68 - x68 / (2 : Int32) * (2 : Int32)).toInt = x68.toInt % 2 := i_rem rfl (by omega) (by decide) (by decide)
                                  refine m_icmp_ne C 246 dX9_judgeSteps_228 (by decide) (fun h76 => ?_) (fun h76 => ?_)
                                  · skip
                                    have th76 := i_ne h76
                                    rw [show (1 : Int32).toInt = 1 by decide] at th76
                                    refine m_iconst C (0 : Int32) dX9_judgeSteps_246 (by decide) ?_
                                    refine m_istore C [(9, .int (0 : Int32)), (0, .ref (aL X 34)), (1, .int m0), (2, .int n0), (3, .int o), (4, .int q), (5, .int (0 : Int32)), (6, .int x58), (7, .int x68), (8, .int x69)] dX9_judgeSteps_247 (by decide) rfl ?_
                                    have L249 : ∀ (n249 : Nat) (x78 : Int32) (g79 : Mem), (33 - x78.toInt).toNat < n249 → Inv g79 → Kq [36, 37, 38, 39, 57, 58, 59] [4] g g79 → 0 ≤ x78.toInt ∧ x78.toInt ≤ 32 → Wm X p l e (rmD 4) s m ([.ref (aL X 34), .int m0, .int n0, .int o, .int q] : List Value).toArray below meth c 10 0 0 (MQ below (cQ X (pI (fun r g2 => Inv g2 ∧ Kq [36, 37, 38, 39, 57, 58, 59] [4] g g2))) ([.ref (aL X 34), .int m0, .int n0, .int o, .int q] : List Value).toArray s 0 0 (Ab X)) g79 249 [(0, .ref (aL X 34)), (1, .int m0), (2, .int n0), (3, .int o), (4, .int q), (5, .int (0 : Int32)), (6, .int x58), (7, .int x68), (8, .int x69), (9, .int x78)] [] := by
                                      intro n249
                                      induction n249 with
                                      | zero => intro x78 g79 hm; exact absurd hm (Nat.not_lt_zero _)
                                      | succ n249 ih249 =>
                                        intro x78 g79 hm249 hI80 hK81 i82
                                        obtain ⟨i82a, i82b⟩ := i82
                                        refine m_iload C dX9_judgeSteps_249 9 rfl ?_
                                        refine m_bipush C (32 : Int32) dX9_judgeSteps_251 (by decide) ?_
                                        refine m_icmp_ge C 290 dX9_judgeSteps_253 (by decide) (fun h83 => ?_) (fun h83 => ?_)
                                        · skip
                                          have th83 := i_le h83
                                          rw [show (32 : Int32).toInt = 32 by decide] at th83
                                          refine m_iconst C (1 : Int32) dX9_judgeSteps_290 (by decide) ?_
                                          refine m_istore C [(9, .int (1 : Int32)), (0, .ref (aL X 34)), (1, .int m0), (2, .int n0), (3, .int o), (4, .int q), (5, .int (0 : Int32)), (6, .int x58), (7, .int x68), (8, .int x69)] dX9_judgeSteps_291 (by decide) rfl ?_
                                          have L293 : ∀ (n293 : Nat) (x85 : Int32) (x86 : Int32) (x87 : Int32) (g88 : Mem), (10 - x87.toInt).toNat < n293 → Inv g88 → Kq [36, 37, 38, 39, 57, 58, 59] [4] g g88 → 0 ≤ x87.toInt ∧ x87.toInt ≤ 9 → 0 ≤ x85.toInt ∧ x85.toInt ≤ 60 → 0 ≤ x86.toInt ∧ x86.toInt ≤ 60 → Wm X p l e (rmD 4) s m ([.ref (aL X 34), .int m0, .int n0, .int o, .int q] : List Value).toArray below meth c 10 0 0 (MQ below (cQ X (pI (fun r g2 => Inv g2 ∧ Kq [36, 37, 38, 39, 57, 58, 59] [4] g g2))) ([.ref (aL X 34), .int m0, .int n0, .int o, .int q] : List Value).toArray s 0 0 (Ab X)) g88 293 [(0, .ref (aL X 34)), (1, .int m0), (2, .int n0), (3, .int o), (4, .int q), (5, .int (0 : Int32)), (6, .int x58), (7, .int x85), (8, .int x86), (9, .int x87)] [] := by
                                            intro n293
                                            induction n293 with
                                            | zero => intro x85 x86 x87 g88 hm; exact absurd hm (Nat.not_lt_zero _)
                                            | succ n293 ih293 =>
                                              intro x85 x86 x87 g88 hm293 hI89 hK90 i91 i92 i93
                                              obtain ⟨i91a, i91b⟩ := i91
                                              obtain ⟨i92a, i92b⟩ := i92
                                              obtain ⟨i93a, i93b⟩ := i93
                                              refine m_iload C dX9_judgeSteps_293 9 rfl ?_
                                              refine m_iload C dX9_judgeSteps_295 6 rfl ?_
                                              refine m_icmp_ge C 448 dX9_judgeSteps_297 (by decide) (fun h94 => ?_) (fun h94 => ?_)
                                              · skip
                                                have th94 := i_le h94
                                                refine m_iload C dX9_judgeSteps_448 8 rfl ?_
                                                refine m_if_ne C 496 dX9_judgeSteps_450 (by decide) (fun h95 => ?_) (fun h95 => ?_)
                                                · skip
                                                  have th95 := i_ne h95
                                                  rw [show (0 : Int32).toInt = 0 by decide] at th95
                                                  refine m_iconst C (0 : Int32) dX9_judgeSteps_496 (by decide) ?_
                                                  exact m_iret C dX9_judgeSteps_497 ⟨_, rfl, hI89, hK90⟩
                                                · skip
                                                  have th95 := i_eq h95
                                                  rw [show (0 : Int32).toInt = 0 by decide] at th95
                                                  refine m_aload_n C dX9_judgeSteps_453 0 rfl ?_
                                                  refine m_getr (rf := "") C 31 rfl gd9 (by decide) sh_34 rfl dX9_judgeSteps_454 lk_X9_77 ?_
                                                  refine m_iconst C (0 : Int32) dX9_judgeSteps_457 (by decide) ?_
                                                  refine m_aload_n C dX9_judgeSteps_458 0 rfl ?_
                                                  refine m_getr (rf := "") C 30 rfl gd9 (by decide) sh_34 rfl dX9_judgeSteps_459 lk_X9_74 ?_
                                                  refine m_bipush C (32 : Int32) dX9_judgeSteps_462 (by decide) ?_
                                                  refine m_iload_n C dX9_judgeSteps_464 3 rfl ?_
                                                  refine m_imul C dX9_judgeSteps_465 ?_
                                                  have t96 : ((32 : Int32) * o).toInt = (32 : Int) * o.toInt := i_mul (by decide) rfl (by omega) (by omega)
                                                  have t97 : (0 : Int32).toInt = 0 := by decide
                                                  refine m_invS C cal_X9_isLike (c_X9_isLike_57_56 l hX g88 (0 : Int32) ((32 : Int32) * o) hI89 (by omega) (by omega)) lk_X9_295 st_X9_isLike (by decide) rfl rfl (Nat.le_of_ble_eq_true rfl) dX9_judgeSteps_466 ⟨Nat.le_refl _, Nat.le_refl _⟩ (rI fun r98 g99 q100 => ?_)
                                                  obtain ⟨hI101, hK102, p103⟩ := q100
                                                  have hK104 : Kq [36, 37, 38, 39, 57, 58, 59] [4] g g99 := (hK90).tr hK102 (by decide) (by decide)
                                                  refine m_if_eq C 496 dX9_judgeSteps_469 (by decide) (fun h105 => ?_) (fun h105 => ?_)
                                                  · skip
                                                    have th105 := i_eq h105
                                                    rw [show (0 : Int32).toInt = 0 by decide] at th105
                                                    refine m_iconst C (0 : Int32) dX9_judgeSteps_496 (by decide) ?_
                                                    exact m_iret C dX9_judgeSteps_497 ⟨_, rfl, hI101, hK104⟩
                                                  · skip
                                                    have th105 := i_ne h105
                                                    rw [show (0 : Int32).toInt = 0 by decide] at th105
                                                    refine m_aload_n C dX9_judgeSteps_472 0 rfl ?_
                                                    refine m_getr (rf := "") C 32 rfl gd9 (by decide) sh_34 rfl dX9_judgeSteps_473 lk_X9_80 ?_
                                                    refine m_iconst C (0 : Int32) dX9_judgeSteps_476 (by decide) ?_
                                                    refine m_aload_n C dX9_judgeSteps_477 0 rfl ?_
                                                    refine m_getr (rf := "") C 30 rfl gd9 (by decide) sh_34 rfl dX9_judgeSteps_478 lk_X9_74 ?_
                                                    refine m_bipush C (32 : Int32) dX9_judgeSteps_481 (by decide) ?_
                                                    refine m_iload C dX9_judgeSteps_483 4 rfl ?_
                                                    refine m_imul C dX9_judgeSteps_485 ?_
                                                    have t106 : ((32 : Int32) * q).toInt = (32 : Int) * q.toInt := i_mul (by decide) rfl (by omega) (by omega)
                                                    have t107 : (0 : Int32).toInt = 0 := by decide
                                                    refine m_invS C cal_X9_isLike (c_X9_isLike_58_56 l hX g99 (0 : Int32) ((32 : Int32) * q) hI101 (by omega) (by omega)) lk_X9_295 st_X9_isLike (by decide) rfl rfl (Nat.le_of_ble_eq_true rfl) dX9_judgeSteps_486 ⟨Nat.le_refl _, Nat.le_refl _⟩ (rI fun r108 g109 q110 => ?_)
                                                    obtain ⟨hI111, hK112, p113⟩ := q110
                                                    have hK114 : Kq [36, 37, 38, 39, 57, 58, 59] [4] g g109 := (hK104).tr hK112 (by decide) (by decide)
                                                    refine m_if_eq C 496 dX9_judgeSteps_489 (by decide) (fun h115 => ?_) (fun h115 => ?_)
                                                    · skip
                                                      have th115 := i_eq h115
                                                      rw [show (0 : Int32).toInt = 0 by decide] at th115
                                                      refine m_iconst C (0 : Int32) dX9_judgeSteps_496 (by decide) ?_
                                                      exact m_iret C dX9_judgeSteps_497 ⟨_, rfl, hI111, hK114⟩
                                                    · skip
                                                      have th115 := i_ne h115
                                                      rw [show (0 : Int32).toInt = 0 by decide] at th115
                                                      refine m_iconst C (1 : Int32) dX9_judgeSteps_492 (by decide) ?_
                                                      refine m_goto C 497 dX9_judgeSteps_493 (by decide) ?_
                                                      exact m_iret C dX9_judgeSteps_497 ⟨_, rfl, hI111, hK114⟩
                                              · skip
                                                have th94 := i_nle h94
                                                refine m_iload C dX9_judgeSteps_300 8 rfl ?_
                                                refine m_if_ne C 307 dX9_judgeSteps_302 (by decide) (fun h116 => ?_) (fun h116 => ?_)
                                                · skip
                                                  have th116 := i_ne h116
                                                  rw [show (0 : Int32).toInt = 0 by decide] at th116
                                                  refine m_iload C dX9_judgeSteps_307 7 rfl ?_
                                                  refine m_iconst C (2 : Int32) dX9_judgeSteps_309 (by decide) ?_
                                                  refine m_irem C dX9_judgeSteps_310 (by decide) ?_
                                                  refine m_iconst C (1 : Int32) dX9_judgeSteps_311 (by decide) ?_
                                                  have t117 : (x85 - x85 / (2 : Int32) * (2 : Int32)).toInt = x85.toInt % 2 := i_rem rfl (by omega) (by decide) (by decide)
                                                  refine m_icmp_eq C 322 dX9_judgeSteps_312 (by decide) (fun h118 => ?_) (fun h118 => ?_)
                                                  · skip
                                                    have th118 := i_eq h118
                                                    rw [show (1 : Int32).toInt = 1 by decide] at th118
                                                    refine m_aload_n C dX9_judgeSteps_322 0 rfl ?_
                                                    refine m_aload_n C dX9_judgeSteps_323 0 rfl ?_
                                                    refine m_getr (rf := "") C 33 rfl gd9 (by decide) sh_34 rfl dX9_judgeSteps_324 lk_X9_83 ?_
                                                    refine m_bipush C (32 : Int32) dX9_judgeSteps_327 (by decide) ?_
                                                    refine m_iload C dX9_judgeSteps_329 9 rfl ?_
                                                    refine m_imul C dX9_judgeSteps_331 ?_
                                                    refine m_aload_n C dX9_judgeSteps_332 0 rfl ?_
                                                    refine m_getr (rf := "") C 31 rfl gd9 (by decide) sh_34 rfl dX9_judgeSteps_333 lk_X9_77 ?_
                                                    refine m_iconst C (0 : Int32) dX9_judgeSteps_336 (by decide) ?_
                                                    have t119 : ((32 : Int32) * x87).toInt = (32 : Int) * x87.toInt := i_mul (by decide) rfl (by omega) (by omega)
                                                    have t120 : (0 : Int32).toInt = 0 := by decide
                                                    refine m_invV C cal_X9_pair sh_34 rfl (c_X9_pair_59_57 l hX g88 ((32 : Int32) * x87) (0 : Int32) hI89 (by omega) (by omega)) lk_X9_273 im_X9_pair se_X9_pair (by decide) rfl rfl (Nat.le_of_ble_eq_true rfl) dX9_judgeSteps_337 ⟨Nat.le_refl _, Nat.le_refl _⟩ (rV fun g122 q123 => ?_)
                                                    obtain ⟨hI124, hK125⟩ := q123
                                                    have hK126 : Kq [36, 37, 38, 39, 57, 58, 59] [4] g g122 := (hK90).tr hK125 (by decide) (by decide)
                                                    refine m_aload_n C dX9_judgeSteps_340 0 rfl ?_
                                                    refine m_aload_n C dX9_judgeSteps_341 0 rfl ?_
                                                    refine m_getr (rf := "") C 31 rfl gd9 (by decide) sh_34 rfl dX9_judgeSteps_342 lk_X9_77 ?_
                                                    refine m_iconst C (0 : Int32) dX9_judgeSteps_345 (by decide) ?_
                                                    have t127 : (0 : Int32).toInt = 0 := by decide
                                                    refine m_invV C cal_X9_lay sh_34 rfl (c_X9_lay_57 l hX g122 (0 : Int32) hI124 (by omega)) lk_X9_213 im_X9_lay se_X9_lay (by decide) rfl rfl (Nat.le_of_ble_eq_true rfl) dX9_judgeSteps_346 ⟨Nat.le_refl _, Nat.le_refl _⟩ (rV fun g129 q130 => ?_)
                                                    obtain ⟨hI131, hK132⟩ := q130
                                                    have hK133 : Kq [36, 37, 38, 39, 57, 58, 59] [4] g g129 := (hK126).tr hK132 (by decide) (by decide)
                                                    refine m_aload_n C dX9_judgeSteps_349 0 rfl ?_
                                                    refine m_aload_n C dX9_judgeSteps_350 0 rfl ?_
                                                    refine m_getr (rf := "") C 33 rfl gd9 (by decide) sh_34 rfl dX9_judgeSteps_351 lk_X9_83 ?_
                                                    refine m_bipush C (32 : Int32) dX9_judgeSteps_354 (by decide) ?_
                                                    refine m_iload C dX9_judgeSteps_356 9 rfl ?_
                                                    refine m_imul C dX9_judgeSteps_358 ?_
                                                    refine m_aload_n C dX9_judgeSteps_359 0 rfl ?_
                                                    refine m_getr (rf := "") C 32 rfl gd9 (by decide) sh_34 rfl dX9_judgeSteps_360 lk_X9_80 ?_
                                                    refine m_iconst C (0 : Int32) dX9_judgeSteps_363 (by decide) ?_
                                                    have t134 : ((32 : Int32) * x87).toInt = (32 : Int) * x87.toInt := i_mul (by decide) rfl (by omega) (by omega)
                                                    have t135 : (0 : Int32).toInt = 0 := by decide
                                                    refine m_invV C cal_X9_pair sh_34 rfl (c_X9_pair_59_58 l hX g129 ((32 : Int32) * x87) (0 : Int32) hI131 (by omega) (by omega)) lk_X9_273 im_X9_pair se_X9_pair (by decide) rfl rfl (Nat.le_of_ble_eq_true rfl) dX9_judgeSteps_364 ⟨Nat.le_refl _, Nat.le_refl _⟩ (rV fun g137 q138 => ?_)
                                                    obtain ⟨hI139, hK140⟩ := q138
                                                    have hK141 : Kq [36, 37, 38, 39, 57, 58, 59] [4] g g137 := (hK133).tr hK140 (by decide) (by decide)
                                                    refine m_aload_n C dX9_judgeSteps_367 0 rfl ?_
                                                    refine m_aload_n C dX9_judgeSteps_368 0 rfl ?_
                                                    refine m_getr (rf := "") C 32 rfl gd9 (by decide) sh_34 rfl dX9_judgeSteps_369 lk_X9_80 ?_
                                                    refine m_iconst C (0 : Int32) dX9_judgeSteps_372 (by decide) ?_
                                                    have t142 : (0 : Int32).toInt = 0 := by decide
                                                    refine m_invV C cal_X9_lay sh_34 rfl (c_X9_lay_58 l hX g137 (0 : Int32) hI139 (by omega)) lk_X9_213 im_X9_lay se_X9_lay (by decide) rfl rfl (Nat.le_of_ble_eq_true rfl) dX9_judgeSteps_373 ⟨Nat.le_refl _, Nat.le_refl _⟩ (rV fun g144 q145 => ?_)
                                                    obtain ⟨hI146, hK147⟩ := q145
                                                    have hK148 : Kq [36, 37, 38, 39, 57, 58, 59] [4] g g144 := (hK141).tr hK147 (by decide) (by decide)
                                                    have L376 : ∀ (n376 : Nat) (x149 : Int32) (x150 : Int32) (g151 : Mem), (x149.toInt).toNat < n376 → Inv g151 → Kq [36, 37, 38, 39, 57, 58, 59] [4] g g151 → 0 ≤ x149.toInt ∧ x149.toInt ≤ 60 → 0 ≤ x150.toInt ∧ x150.toInt ≤ 60 → Wm X p l e (rmD 4) s m ([.ref (aL X 34), .int m0, .int n0, .int o, .int q] : List Value).toArray below meth c 10 0 0 (MQ below (cQ X (pI (fun r g2 => Inv g2 ∧ Kq [36, 37, 38, 39, 57, 58, 59] [4] g g2))) ([.ref (aL X 34), .int m0, .int n0, .int o, .int q] : List Value).toArray s 0 0 (Ab X)) g151 376 [(0, .ref (aL X 34)), (1, .int m0), (2, .int n0), (3, .int o), (4, .int q), (5, .int (0 : Int32)), (6, .int x58), (7, .int x149), (8, .int x150), (9, .int x87)] [] := by
                                                      intro n376
                                                      induction n376 with
                                                      | zero => intro x149 x150 g151 hm; exact absurd hm (Nat.not_lt_zero _)
                                                      | succ n376 ih376 =>
                                                        intro x149 x150 g151 hm376 hI152 hK153 i154 i155
                                                        obtain ⟨i154a, i154b⟩ := i154
                                                        obtain ⟨i155a, i155b⟩ := i155
                                                        refine m_iload C dX9_judgeSteps_376 7 rfl ?_
                                                        refine m_iconst C (2 : Int32) dX9_judgeSteps_378 (by decide) ?_
                                                        refine m_irem C dX9_judgeSteps_379 (by decide) ?_
                                                        have t156 : (x149 - x149 / (2 : Int32) * (2 : Int32)).toInt = x149.toInt % 2 := i_rem rfl (by omega) (by decide) (by decide)
                                                        refine m_if_ne C 430 dX9_judgeSteps_380 (by decide) (fun h157 => ?_) (fun h157 => ?_)
                                                        · skip
                                                          have th157 := i_ne h157
                                                          rw [show (0 : Int32).toInt = 0 by decide] at th157
                                                          refine m_iload C dX9_judgeSteps_430 7 rfl ?_
                                                          refine m_iconst C (2 : Int32) dX9_judgeSteps_432 (by decide) ?_
                                                          refine m_idiv C dX9_judgeSteps_433 (by decide) ?_
                                                          refine m_name (fun x158 ex158 => ?_)
                                                          have t159 : (x149 / (2 : Int32)).toInt = x149.toInt / 2 := i_div rfl (by omega) (by decide) (by decide)
                                                          have t160 : x158.toInt = (x149.toInt / 2) := (congrArg Int32.toInt ex158).trans t159
                                                          refine m_istore C [(7, .int x158), (0, .ref (aL X 34)), (1, .int m0), (2, .int n0), (3, .int o), (4, .int q), (5, .int (0 : Int32)), (6, .int x58), (8, .int x150), (9, .int x87)] dX9_judgeSteps_434 (by decide) rfl ?_
                                                          refine m_iload C dX9_judgeSteps_436 8 rfl ?_
                                                          refine m_iconst C (2 : Int32) dX9_judgeSteps_438 (by decide) ?_
                                                          refine m_idiv C dX9_judgeSteps_439 (by decide) ?_
                                                          refine m_name (fun x161 ex161 => ?_)
                                                          have t162 : (x150 / (2 : Int32)).toInt = x150.toInt / 2 := i_div rfl (by omega) (by decide) (by decide)
                                                          have t163 : x161.toInt = (x150.toInt / 2) := (congrArg Int32.toInt ex161).trans t162
                                                          refine m_istore C [(8, .int x161), (7, .int x158), (0, .ref (aL X 34)), (1, .int m0), (2, .int n0), (3, .int o), (4, .int q), (5, .int (0 : Int32)), (6, .int x58), (9, .int x87)] dX9_judgeSteps_440 (by decide) rfl ?_
                                                          obtain ⟨x164, ex164⟩ : ∃ z : Int32, z = x87 + Int32.ofInt 1 := ⟨_, rfl⟩
                                                          have t165 : (x87 + (Int32.ofInt 1)).toInt = x87.toInt + (1 : Int) := i_add rfl (by decide) (by omega) (by omega)
                                                          have t166 : x164.toInt = (x87.toInt + (1 : Int)) := (congrArg Int32.toInt ex164).trans t165
                                                          refine m_iinc C x164 [(9, .int x164), (8, .int x161), (7, .int x158), (0, .ref (aL X 34)), (1, .int m0), (2, .int n0), (3, .int o), (4, .int q), (5, .int (0 : Int32)), (6, .int x58)] dX9_judgeSteps_442 (q := 9) rfl ex164.symm (by decide) rfl ?_
                                                          refine m_goto C 293 dX9_judgeSteps_445 (by decide) ?_
                                                          refine m_lv [3, 4, 5, 6, 7, 8, 9, 2, 1, 0] rfl ?_
                                                          exact ih293 x158 x161 x164 g151 (by omega) hI152 hK153 (by omega) (by omega) (by omega)
                                                        · skip
                                                          have th157 := i_eq h157
                                                          rw [show (0 : Int32).toInt = 0 by decide] at th157
                                                          refine m_iload C dX9_judgeSteps_383 7 rfl ?_
                                                          refine m_if_eq C 430 dX9_judgeSteps_385 (by decide) (fun h167 => ?_) (fun h167 => ?_)
                                                          · skip
                                                            have th167 := i_eq h167
                                                            rw [show (0 : Int32).toInt = 0 by decide] at th167
                                                            refine m_iload C dX9_judgeSteps_430 7 rfl ?_
                                                            refine m_iconst C (2 : Int32) dX9_judgeSteps_432 (by decide) ?_
                                                            refine m_idiv C dX9_judgeSteps_433 (by decide) ?_
                                                            refine m_name (fun x168 ex168 => ?_)
                                                            have t169 : (x149 / (2 : Int32)).toInt = x149.toInt / 2 := i_div rfl (by omega) (by decide) (by decide)
                                                            have t170 : x168.toInt = (x149.toInt / 2) := (congrArg Int32.toInt ex168).trans t169
                                                            refine m_istore C [(7, .int x168), (0, .ref (aL X 34)), (1, .int m0), (2, .int n0), (3, .int o), (4, .int q), (5, .int (0 : Int32)), (6, .int x58), (8, .int x150), (9, .int x87)] dX9_judgeSteps_434 (by decide) rfl ?_
                                                            refine m_iload C dX9_judgeSteps_436 8 rfl ?_
                                                            refine m_iconst C (2 : Int32) dX9_judgeSteps_438 (by decide) ?_
                                                            refine m_idiv C dX9_judgeSteps_439 (by decide) ?_
                                                            refine m_name (fun x171 ex171 => ?_)
                                                            have t172 : (x150 / (2 : Int32)).toInt = x150.toInt / 2 := i_div rfl (by omega) (by decide) (by decide)
                                                            have t173 : x171.toInt = (x150.toInt / 2) := (congrArg Int32.toInt ex171).trans t172
                                                            refine m_istore C [(8, .int x171), (7, .int x168), (0, .ref (aL X 34)), (1, .int m0), (2, .int n0), (3, .int o), (4, .int q), (5, .int (0 : Int32)), (6, .int x58), (9, .int x87)] dX9_judgeSteps_440 (by decide) rfl ?_
                                                            obtain ⟨x174, ex174⟩ : ∃ z : Int32, z = x87 + Int32.ofInt 1 := ⟨_, rfl⟩
                                                            have t175 : (x87 + (Int32.ofInt 1)).toInt = x87.toInt + (1 : Int) := i_add rfl (by decide) (by omega) (by omega)
                                                            have t176 : x174.toInt = (x87.toInt + (1 : Int)) := (congrArg Int32.toInt ex174).trans t175
                                                            refine m_iinc C x174 [(9, .int x174), (8, .int x171), (7, .int x168), (0, .ref (aL X 34)), (1, .int m0), (2, .int n0), (3, .int o), (4, .int q), (5, .int (0 : Int32)), (6, .int x58)] dX9_judgeSteps_442 (q := 9) rfl ex174.symm (by decide) rfl ?_
                                                            refine m_goto C 293 dX9_judgeSteps_445 (by decide) ?_
                                                            refine m_lv [3, 4, 5, 6, 7, 8, 9, 2, 1, 0] rfl ?_
                                                            exact ih293 x168 x171 x174 g151 (by omega) hI152 hK153 (by omega) (by omega) (by omega)
                                                          · skip
                                                            have th167 := i_ne h167
                                                            rw [show (0 : Int32).toInt = 0 by decide] at th167
                                                            refine m_iload C dX9_judgeSteps_388 7 rfl ?_
                                                            refine m_iconst C (2 : Int32) dX9_judgeSteps_390 (by decide) ?_
                                                            refine m_idiv C dX9_judgeSteps_391 (by decide) ?_
                                                            refine m_name (fun x177 ex177 => ?_)
                                                            have t178 : (x149 / (2 : Int32)).toInt = x149.toInt / 2 := i_div rfl (by omega) (by decide) (by decide)
                                                            have t179 : x177.toInt = (x149.toInt / 2) := (congrArg Int32.toInt ex177).trans t178
                                                            refine m_istore C [(7, .int x177), (0, .ref (aL X 34)), (1, .int m0), (2, .int n0), (3, .int o), (4, .int q), (5, .int (0 : Int32)), (6, .int x58), (8, .int x150), (9, .int x87)] dX9_judgeSteps_392 (by decide) rfl ?_
                                                            refine m_iload C dX9_judgeSteps_394 8 rfl ?_
                                                            refine m_iconst C (2 : Int32) dX9_judgeSteps_396 (by decide) ?_
                                                            refine m_idiv C dX9_judgeSteps_397 (by decide) ?_
                                                            refine m_name (fun x180 ex180 => ?_)
                                                            have t181 : (x150 / (2 : Int32)).toInt = x150.toInt / 2 := i_div rfl (by omega) (by decide) (by decide)
                                                            have t182 : x180.toInt = (x150.toInt / 2) := (congrArg Int32.toInt ex180).trans t181
                                                            refine m_istore C [(8, .int x180), (7, .int x177), (0, .ref (aL X 34)), (1, .int m0), (2, .int n0), (3, .int o), (4, .int q), (5, .int (0 : Int32)), (6, .int x58), (9, .int x87)] dX9_judgeSteps_398 (by decide) rfl ?_
                                                            refine m_goto C 376 dX9_judgeSteps_400 (by decide) ?_
                                                            refine m_lv [2, 3, 4, 5, 6, 7, 8, 1, 0, 9] rfl ?_
                                                            exact ih376 x177 x180 g151 (by omega) hI152 hK153 (by omega) (by omega)
                                                    refine m_lv [0, 1, 2, 3, 4, 5, 6, 7, 8, 9] rfl ?_
                                                    exact L376 (((x85.toInt).toNat) + 1) x85 x86 g144 (Nat.lt_succ_self _) hI146 hK148 (by omega) (by omega)
                                                  · skip
                                                    have th118 := i_ne h118
                                                    rw [show (1 : Int32).toInt = 1 by decide] at th118
                                                    refine m_iload C dX9_judgeSteps_315 7 rfl ?_
                                                    refine m_iload C dX9_judgeSteps_317 8 rfl ?_
                                                    refine m_icmp_ne C 403 dX9_judgeSteps_319 (by decide) (fun h183 => ?_) (fun h183 => ?_)
                                                    · skip
                                                      have th183 := i_ne h183
                                                      refine m_aload_n C dX9_judgeSteps_403 0 rfl ?_
                                                      refine m_aload_n C dX9_judgeSteps_404 0 rfl ?_
                                                      refine m_getr (rf := "") C 32 rfl gd9 (by decide) sh_34 rfl dX9_judgeSteps_405 lk_X9_80 ?_
                                                      refine m_iconst C (0 : Int32) dX9_judgeSteps_408 (by decide) ?_
                                                      refine m_aload_n C dX9_judgeSteps_409 0 rfl ?_
                                                      refine m_getr (rf := "") C 33 rfl gd9 (by decide) sh_34 rfl dX9_judgeSteps_410 lk_X9_83 ?_
                                                      refine m_bipush C (32 : Int32) dX9_judgeSteps_413 (by decide) ?_
                                                      refine m_iload C dX9_judgeSteps_415 9 rfl ?_
                                                      refine m_imul C dX9_judgeSteps_417 ?_
                                                      have t184 : ((32 : Int32) * x87).toInt = (32 : Int) * x87.toInt := i_mul (by decide) rfl (by omega) (by omega)
                                                      have t185 : (0 : Int32).toInt = 0 := by decide
                                                      refine m_invV C cal_X9_pair sh_34 rfl (c_X9_pair_58_59 l hX g88 (0 : Int32) ((32 : Int32) * x87) hI89 (by omega) (by omega)) lk_X9_273 im_X9_pair se_X9_pair (by decide) rfl rfl (Nat.le_of_ble_eq_true rfl) dX9_judgeSteps_418 ⟨Nat.le_refl _, Nat.le_refl _⟩ (rV fun g187 q188 => ?_)
                                                      obtain ⟨hI189, hK190⟩ := q188
                                                      have hK191 : Kq [36, 37, 38, 39, 57, 58, 59] [4] g g187 := (hK90).tr hK190 (by decide) (by decide)
                                                      refine m_aload_n C dX9_judgeSteps_421 0 rfl ?_
                                                      refine m_aload_n C dX9_judgeSteps_422 0 rfl ?_
                                                      refine m_getr (rf := "") C 32 rfl gd9 (by decide) sh_34 rfl dX9_judgeSteps_423 lk_X9_80 ?_
                                                      refine m_iconst C (0 : Int32) dX9_judgeSteps_426 (by decide) ?_
                                                      have t192 : (0 : Int32).toInt = 0 := by decide
                                                      refine m_invV C cal_X9_lay sh_34 rfl (c_X9_lay_58 l hX g187 (0 : Int32) hI189 (by omega)) lk_X9_213 im_X9_lay se_X9_lay (by decide) rfl rfl (Nat.le_of_ble_eq_true rfl) dX9_judgeSteps_427 ⟨Nat.le_refl _, Nat.le_refl _⟩ (rV fun g194 q195 => ?_)
                                                      obtain ⟨hI196, hK197⟩ := q195
                                                      have hK198 : Kq [36, 37, 38, 39, 57, 58, 59] [4] g g194 := (hK191).tr hK197 (by decide) (by decide)
                                                      refine m_iload C dX9_judgeSteps_430 7 rfl ?_
                                                      refine m_iconst C (2 : Int32) dX9_judgeSteps_432 (by decide) ?_
                                                      refine m_idiv C dX9_judgeSteps_433 (by decide) ?_
                                                      refine m_name (fun x199 ex199 => ?_)
                                                      have t200 : (x85 / (2 : Int32)).toInt = x85.toInt / 2 := i_div rfl (by omega) (by decide) (by decide)
                                                      have t201 : x199.toInt = (x85.toInt / 2) := (congrArg Int32.toInt ex199).trans t200
                                                      refine m_istore C [(7, .int x199), (0, .ref (aL X 34)), (1, .int m0), (2, .int n0), (3, .int o), (4, .int q), (5, .int (0 : Int32)), (6, .int x58), (8, .int x86), (9, .int x87)] dX9_judgeSteps_434 (by decide) rfl ?_
                                                      refine m_iload C dX9_judgeSteps_436 8 rfl ?_
                                                      refine m_iconst C (2 : Int32) dX9_judgeSteps_438 (by decide) ?_
                                                      refine m_idiv C dX9_judgeSteps_439 (by decide) ?_
                                                      refine m_name (fun x202 ex202 => ?_)
                                                      have t203 : (x86 / (2 : Int32)).toInt = x86.toInt / 2 := i_div rfl (by omega) (by decide) (by decide)
                                                      have t204 : x202.toInt = (x86.toInt / 2) := (congrArg Int32.toInt ex202).trans t203
                                                      refine m_istore C [(8, .int x202), (7, .int x199), (0, .ref (aL X 34)), (1, .int m0), (2, .int n0), (3, .int o), (4, .int q), (5, .int (0 : Int32)), (6, .int x58), (9, .int x87)] dX9_judgeSteps_440 (by decide) rfl ?_
                                                      obtain ⟨x205, ex205⟩ : ∃ z : Int32, z = x87 + Int32.ofInt 1 := ⟨_, rfl⟩
                                                      have t206 : (x87 + (Int32.ofInt 1)).toInt = x87.toInt + (1 : Int) := i_add rfl (by decide) (by omega) (by omega)
                                                      have t207 : x205.toInt = (x87.toInt + (1 : Int)) := (congrArg Int32.toInt ex205).trans t206
                                                      refine m_iinc C x205 [(9, .int x205), (8, .int x202), (7, .int x199), (0, .ref (aL X 34)), (1, .int m0), (2, .int n0), (3, .int o), (4, .int q), (5, .int (0 : Int32)), (6, .int x58)] dX9_judgeSteps_442 (q := 9) rfl ex205.symm (by decide) rfl ?_
                                                      refine m_goto C 293 dX9_judgeSteps_445 (by decide) ?_
                                                      refine m_lv [3, 4, 5, 6, 7, 8, 9, 2, 1, 0] rfl ?_
                                                      exact ih293 x199 x202 x205 g194 (by omega) hI196 hK198 (by omega) (by omega) (by omega)
                                                    · skip
                                                      have th183 := i_eq h183
                                                      refine m_aload_n C dX9_judgeSteps_322 0 rfl ?_
                                                      refine m_aload_n C dX9_judgeSteps_323 0 rfl ?_
                                                      refine m_getr (rf := "") C 33 rfl gd9 (by decide) sh_34 rfl dX9_judgeSteps_324 lk_X9_83 ?_
                                                      refine m_bipush C (32 : Int32) dX9_judgeSteps_327 (by decide) ?_
                                                      refine m_iload C dX9_judgeSteps_329 9 rfl ?_
                                                      refine m_imul C dX9_judgeSteps_331 ?_
                                                      refine m_aload_n C dX9_judgeSteps_332 0 rfl ?_
                                                      refine m_getr (rf := "") C 31 rfl gd9 (by decide) sh_34 rfl dX9_judgeSteps_333 lk_X9_77 ?_
                                                      refine m_iconst C (0 : Int32) dX9_judgeSteps_336 (by decide) ?_
                                                      have t208 : ((32 : Int32) * x87).toInt = (32 : Int) * x87.toInt := i_mul (by decide) rfl (by omega) (by omega)
                                                      have t209 : (0 : Int32).toInt = 0 := by decide
                                                      refine m_invV C cal_X9_pair sh_34 rfl (c_X9_pair_59_57 l hX g88 ((32 : Int32) * x87) (0 : Int32) hI89 (by omega) (by omega)) lk_X9_273 im_X9_pair se_X9_pair (by decide) rfl rfl (Nat.le_of_ble_eq_true rfl) dX9_judgeSteps_337 ⟨Nat.le_refl _, Nat.le_refl _⟩ (rV fun g211 q212 => ?_)
                                                      obtain ⟨hI213, hK214⟩ := q212
                                                      have hK215 : Kq [36, 37, 38, 39, 57, 58, 59] [4] g g211 := (hK90).tr hK214 (by decide) (by decide)
                                                      refine m_aload_n C dX9_judgeSteps_340 0 rfl ?_
                                                      refine m_aload_n C dX9_judgeSteps_341 0 rfl ?_
                                                      refine m_getr (rf := "") C 31 rfl gd9 (by decide) sh_34 rfl dX9_judgeSteps_342 lk_X9_77 ?_
                                                      refine m_iconst C (0 : Int32) dX9_judgeSteps_345 (by decide) ?_
                                                      have t216 : (0 : Int32).toInt = 0 := by decide
                                                      refine m_invV C cal_X9_lay sh_34 rfl (c_X9_lay_57 l hX g211 (0 : Int32) hI213 (by omega)) lk_X9_213 im_X9_lay se_X9_lay (by decide) rfl rfl (Nat.le_of_ble_eq_true rfl) dX9_judgeSteps_346 ⟨Nat.le_refl _, Nat.le_refl _⟩ (rV fun g218 q219 => ?_)
                                                      obtain ⟨hI220, hK221⟩ := q219
                                                      have hK222 : Kq [36, 37, 38, 39, 57, 58, 59] [4] g g218 := (hK215).tr hK221 (by decide) (by decide)
                                                      refine m_aload_n C dX9_judgeSteps_349 0 rfl ?_
                                                      refine m_aload_n C dX9_judgeSteps_350 0 rfl ?_
                                                      refine m_getr (rf := "") C 33 rfl gd9 (by decide) sh_34 rfl dX9_judgeSteps_351 lk_X9_83 ?_
                                                      refine m_bipush C (32 : Int32) dX9_judgeSteps_354 (by decide) ?_
                                                      refine m_iload C dX9_judgeSteps_356 9 rfl ?_
                                                      refine m_imul C dX9_judgeSteps_358 ?_
                                                      refine m_aload_n C dX9_judgeSteps_359 0 rfl ?_
                                                      refine m_getr (rf := "") C 32 rfl gd9 (by decide) sh_34 rfl dX9_judgeSteps_360 lk_X9_80 ?_
                                                      refine m_iconst C (0 : Int32) dX9_judgeSteps_363 (by decide) ?_
                                                      have t223 : ((32 : Int32) * x87).toInt = (32 : Int) * x87.toInt := i_mul (by decide) rfl (by omega) (by omega)
                                                      have t224 : (0 : Int32).toInt = 0 := by decide
                                                      refine m_invV C cal_X9_pair sh_34 rfl (c_X9_pair_59_58 l hX g218 ((32 : Int32) * x87) (0 : Int32) hI220 (by omega) (by omega)) lk_X9_273 im_X9_pair se_X9_pair (by decide) rfl rfl (Nat.le_of_ble_eq_true rfl) dX9_judgeSteps_364 ⟨Nat.le_refl _, Nat.le_refl _⟩ (rV fun g226 q227 => ?_)
                                                      obtain ⟨hI228, hK229⟩ := q227
                                                      have hK230 : Kq [36, 37, 38, 39, 57, 58, 59] [4] g g226 := (hK222).tr hK229 (by decide) (by decide)
                                                      refine m_aload_n C dX9_judgeSteps_367 0 rfl ?_
                                                      refine m_aload_n C dX9_judgeSteps_368 0 rfl ?_
                                                      refine m_getr (rf := "") C 32 rfl gd9 (by decide) sh_34 rfl dX9_judgeSteps_369 lk_X9_80 ?_
                                                      refine m_iconst C (0 : Int32) dX9_judgeSteps_372 (by decide) ?_
                                                      have t231 : (0 : Int32).toInt = 0 := by decide
                                                      refine m_invV C cal_X9_lay sh_34 rfl (c_X9_lay_58 l hX g226 (0 : Int32) hI228 (by omega)) lk_X9_213 im_X9_lay se_X9_lay (by decide) rfl rfl (Nat.le_of_ble_eq_true rfl) dX9_judgeSteps_373 ⟨Nat.le_refl _, Nat.le_refl _⟩ (rV fun g233 q234 => ?_)
                                                      obtain ⟨hI235, hK236⟩ := q234
                                                      have hK237 : Kq [36, 37, 38, 39, 57, 58, 59] [4] g g233 := (hK230).tr hK236 (by decide) (by decide)
                                                      have L376 : ∀ (n376 : Nat) (x238 : Int32) (x239 : Int32) (g240 : Mem), (x238.toInt).toNat < n376 → Inv g240 → Kq [36, 37, 38, 39, 57, 58, 59] [4] g g240 → 0 ≤ x238.toInt ∧ x238.toInt ≤ 60 → 0 ≤ x239.toInt ∧ x239.toInt ≤ 60 → Wm X p l e (rmD 4) s m ([.ref (aL X 34), .int m0, .int n0, .int o, .int q] : List Value).toArray below meth c 10 0 0 (MQ below (cQ X (pI (fun r g2 => Inv g2 ∧ Kq [36, 37, 38, 39, 57, 58, 59] [4] g g2))) ([.ref (aL X 34), .int m0, .int n0, .int o, .int q] : List Value).toArray s 0 0 (Ab X)) g240 376 [(0, .ref (aL X 34)), (1, .int m0), (2, .int n0), (3, .int o), (4, .int q), (5, .int (0 : Int32)), (6, .int x58), (7, .int x238), (8, .int x239), (9, .int x87)] [] := by
                                                        intro n376
                                                        induction n376 with
                                                        | zero => intro x238 x239 g240 hm; exact absurd hm (Nat.not_lt_zero _)
                                                        | succ n376 ih376 =>
                                                          intro x238 x239 g240 hm376 hI241 hK242 i243 i244
                                                          obtain ⟨i243a, i243b⟩ := i243
                                                          obtain ⟨i244a, i244b⟩ := i244
                                                          refine m_iload C dX9_judgeSteps_376 7 rfl ?_
                                                          refine m_iconst C (2 : Int32) dX9_judgeSteps_378 (by decide) ?_
                                                          refine m_irem C dX9_judgeSteps_379 (by decide) ?_
                                                          have t245 : (x238 - x238 / (2 : Int32) * (2 : Int32)).toInt = x238.toInt % 2 := i_rem rfl (by omega) (by decide) (by decide)
                                                          refine m_if_ne C 430 dX9_judgeSteps_380 (by decide) (fun h246 => ?_) (fun h246 => ?_)
                                                          · skip
                                                            have th246 := i_ne h246
                                                            rw [show (0 : Int32).toInt = 0 by decide] at th246
                                                            refine m_iload C dX9_judgeSteps_430 7 rfl ?_
                                                            refine m_iconst C (2 : Int32) dX9_judgeSteps_432 (by decide) ?_
                                                            refine m_idiv C dX9_judgeSteps_433 (by decide) ?_
                                                            refine m_name (fun x247 ex247 => ?_)
                                                            have t248 : (x238 / (2 : Int32)).toInt = x238.toInt / 2 := i_div rfl (by omega) (by decide) (by decide)
                                                            have t249 : x247.toInt = (x238.toInt / 2) := (congrArg Int32.toInt ex247).trans t248
                                                            refine m_istore C [(7, .int x247), (0, .ref (aL X 34)), (1, .int m0), (2, .int n0), (3, .int o), (4, .int q), (5, .int (0 : Int32)), (6, .int x58), (8, .int x239), (9, .int x87)] dX9_judgeSteps_434 (by decide) rfl ?_
                                                            refine m_iload C dX9_judgeSteps_436 8 rfl ?_
                                                            refine m_iconst C (2 : Int32) dX9_judgeSteps_438 (by decide) ?_
                                                            refine m_idiv C dX9_judgeSteps_439 (by decide) ?_
                                                            refine m_name (fun x250 ex250 => ?_)
                                                            have t251 : (x239 / (2 : Int32)).toInt = x239.toInt / 2 := i_div rfl (by omega) (by decide) (by decide)
                                                            have t252 : x250.toInt = (x239.toInt / 2) := (congrArg Int32.toInt ex250).trans t251
                                                            refine m_istore C [(8, .int x250), (7, .int x247), (0, .ref (aL X 34)), (1, .int m0), (2, .int n0), (3, .int o), (4, .int q), (5, .int (0 : Int32)), (6, .int x58), (9, .int x87)] dX9_judgeSteps_440 (by decide) rfl ?_
                                                            obtain ⟨x253, ex253⟩ : ∃ z : Int32, z = x87 + Int32.ofInt 1 := ⟨_, rfl⟩
                                                            have t254 : (x87 + (Int32.ofInt 1)).toInt = x87.toInt + (1 : Int) := i_add rfl (by decide) (by omega) (by omega)
                                                            have t255 : x253.toInt = (x87.toInt + (1 : Int)) := (congrArg Int32.toInt ex253).trans t254
                                                            refine m_iinc C x253 [(9, .int x253), (8, .int x250), (7, .int x247), (0, .ref (aL X 34)), (1, .int m0), (2, .int n0), (3, .int o), (4, .int q), (5, .int (0 : Int32)), (6, .int x58)] dX9_judgeSteps_442 (q := 9) rfl ex253.symm (by decide) rfl ?_
                                                            refine m_goto C 293 dX9_judgeSteps_445 (by decide) ?_
                                                            refine m_lv [3, 4, 5, 6, 7, 8, 9, 2, 1, 0] rfl ?_
                                                            exact ih293 x247 x250 x253 g240 (by omega) hI241 hK242 (by omega) (by omega) (by omega)
                                                          · skip
                                                            have th246 := i_eq h246
                                                            rw [show (0 : Int32).toInt = 0 by decide] at th246
                                                            refine m_iload C dX9_judgeSteps_383 7 rfl ?_
                                                            refine m_if_eq C 430 dX9_judgeSteps_385 (by decide) (fun h256 => ?_) (fun h256 => ?_)
                                                            · skip
                                                              have th256 := i_eq h256
                                                              rw [show (0 : Int32).toInt = 0 by decide] at th256
                                                              refine m_iload C dX9_judgeSteps_430 7 rfl ?_
                                                              refine m_iconst C (2 : Int32) dX9_judgeSteps_432 (by decide) ?_
                                                              refine m_idiv C dX9_judgeSteps_433 (by decide) ?_
                                                              refine m_name (fun x257 ex257 => ?_)
                                                              have t258 : (x238 / (2 : Int32)).toInt = x238.toInt / 2 := i_div rfl (by omega) (by decide) (by decide)
                                                              have t259 : x257.toInt = (x238.toInt / 2) := (congrArg Int32.toInt ex257).trans t258
                                                              refine m_istore C [(7, .int x257), (0, .ref (aL X 34)), (1, .int m0), (2, .int n0), (3, .int o), (4, .int q), (5, .int (0 : Int32)), (6, .int x58), (8, .int x239), (9, .int x87)] dX9_judgeSteps_434 (by decide) rfl ?_
                                                              refine m_iload C dX9_judgeSteps_436 8 rfl ?_
                                                              refine m_iconst C (2 : Int32) dX9_judgeSteps_438 (by decide) ?_
                                                              refine m_idiv C dX9_judgeSteps_439 (by decide) ?_
                                                              refine m_name (fun x260 ex260 => ?_)
                                                              have t261 : (x239 / (2 : Int32)).toInt = x239.toInt / 2 := i_div rfl (by omega) (by decide) (by decide)
                                                              have t262 : x260.toInt = (x239.toInt / 2) := (congrArg Int32.toInt ex260).trans t261
                                                              refine m_istore C [(8, .int x260), (7, .int x257), (0, .ref (aL X 34)), (1, .int m0), (2, .int n0), (3, .int o), (4, .int q), (5, .int (0 : Int32)), (6, .int x58), (9, .int x87)] dX9_judgeSteps_440 (by decide) rfl ?_
                                                              obtain ⟨x263, ex263⟩ : ∃ z : Int32, z = x87 + Int32.ofInt 1 := ⟨_, rfl⟩
                                                              have t264 : (x87 + (Int32.ofInt 1)).toInt = x87.toInt + (1 : Int) := i_add rfl (by decide) (by omega) (by omega)
                                                              have t265 : x263.toInt = (x87.toInt + (1 : Int)) := (congrArg Int32.toInt ex263).trans t264
                                                              refine m_iinc C x263 [(9, .int x263), (8, .int x260), (7, .int x257), (0, .ref (aL X 34)), (1, .int m0), (2, .int n0), (3, .int o), (4, .int q), (5, .int (0 : Int32)), (6, .int x58)] dX9_judgeSteps_442 (q := 9) rfl ex263.symm (by decide) rfl ?_
                                                              refine m_goto C 293 dX9_judgeSteps_445 (by decide) ?_
                                                              refine m_lv [3, 4, 5, 6, 7, 8, 9, 2, 1, 0] rfl ?_
                                                              exact ih293 x257 x260 x263 g240 (by omega) hI241 hK242 (by omega) (by omega) (by omega)
                                                            · skip
                                                              have th256 := i_ne h256
                                                              rw [show (0 : Int32).toInt = 0 by decide] at th256
                                                              refine m_iload C dX9_judgeSteps_388 7 rfl ?_
                                                              refine m_iconst C (2 : Int32) dX9_judgeSteps_390 (by decide) ?_
                                                              refine m_idiv C dX9_judgeSteps_391 (by decide) ?_
                                                              refine m_name (fun x266 ex266 => ?_)
                                                              have t267 : (x238 / (2 : Int32)).toInt = x238.toInt / 2 := i_div rfl (by omega) (by decide) (by decide)
                                                              have t268 : x266.toInt = (x238.toInt / 2) := (congrArg Int32.toInt ex266).trans t267
                                                              refine m_istore C [(7, .int x266), (0, .ref (aL X 34)), (1, .int m0), (2, .int n0), (3, .int o), (4, .int q), (5, .int (0 : Int32)), (6, .int x58), (8, .int x239), (9, .int x87)] dX9_judgeSteps_392 (by decide) rfl ?_
                                                              refine m_iload C dX9_judgeSteps_394 8 rfl ?_
                                                              refine m_iconst C (2 : Int32) dX9_judgeSteps_396 (by decide) ?_
                                                              refine m_idiv C dX9_judgeSteps_397 (by decide) ?_
                                                              refine m_name (fun x269 ex269 => ?_)
                                                              have t270 : (x239 / (2 : Int32)).toInt = x239.toInt / 2 := i_div rfl (by omega) (by decide) (by decide)
                                                              have t271 : x269.toInt = (x239.toInt / 2) := (congrArg Int32.toInt ex269).trans t270
                                                              refine m_istore C [(8, .int x269), (7, .int x266), (0, .ref (aL X 34)), (1, .int m0), (2, .int n0), (3, .int o), (4, .int q), (5, .int (0 : Int32)), (6, .int x58), (9, .int x87)] dX9_judgeSteps_398 (by decide) rfl ?_
                                                              refine m_goto C 376 dX9_judgeSteps_400 (by decide) ?_
                                                              refine m_lv [2, 3, 4, 5, 6, 7, 8, 1, 0, 9] rfl ?_
                                                              exact ih376 x266 x269 g240 (by omega) hI241 hK242 (by omega) (by omega)
                                                      refine m_lv [0, 1, 2, 3, 4, 5, 6, 7, 8, 9] rfl ?_
                                                      exact L376 (((x85.toInt).toNat) + 1) x85 x86 g233 (Nat.lt_succ_self _) hI235 hK237 (by omega) (by omega)
                                                · skip
                                                  have th116 := i_eq h116
                                                  rw [show (0 : Int32).toInt = 0 by decide] at th116
                                                  refine m_iconst C (0 : Int32) dX9_judgeSteps_305 (by decide) ?_
                                                  exact m_iret C dX9_judgeSteps_306 ⟨_, rfl, hI89, hK90⟩
                                          have t272 : (1 : Int32).toInt = 1 := by decide
                                          refine m_lv [1, 2, 3, 4, 5, 6, 7, 8, 9, 0] rfl ?_
                                          exact L293 (((10 - (1 : Int32).toInt).toNat) + 1) x68 x69 (1 : Int32) g79 (Nat.lt_succ_self _) hI80 hK81 (by omega) (by omega) (by omega)
                                        · skip
                                          have th83 := i_nle h83
                                          rw [show (32 : Int32).toInt = 32 by decide] at th83
                                          refine m_aload_n C dX9_judgeSteps_256 0 rfl ?_
                                          refine m_getr (rf := "") C 31 rfl gd9 (by decide) sh_34 rfl dX9_judgeSteps_257 lk_X9_77 ?_
                                          refine m_iload C dX9_judgeSteps_260 9 rfl ?_
                                          refine m_aload_n C dX9_judgeSteps_262 0 rfl ?_
                                          refine m_getr (rf := "") C 33 rfl gd9 (by decide) sh_34 rfl dX9_judgeSteps_263 lk_X9_83 ?_
                                          refine m_iload C dX9_judgeSteps_266 9 rfl ?_
                                          refine m_iald C sh_59 (i_in (by omega) (by omega)) dX9_judgeSteps_268 ?_
                                          refine m_iast C sh_57 (i_in (by omega) (by omega)) dX9_judgeSteps_269 ?_
                                          refine m_mem (fun g273 eg273 => ?_)
                                          have hI274 : Inv g273 := by rw [eg273]; exact hI80.up (ok_any (by decide))
                                          have hK275 : Kq [36, 37, 38, 39, 57, 58, 59] [4] g g273 := by rw [eg273]; exact Kq.upA hK81 (by decide) (by decide)
                                          refine m_aload_n C dX9_judgeSteps_270 0 rfl ?_
                                          refine m_getr (rf := "") C 32 rfl gd9 (by decide) sh_34 rfl dX9_judgeSteps_271 lk_X9_80 ?_
                                          refine m_iload C dX9_judgeSteps_274 9 rfl ?_
                                          refine m_aload_n C dX9_judgeSteps_276 0 rfl ?_
                                          refine m_getr (rf := "") C 33 rfl gd9 (by decide) sh_34 rfl dX9_judgeSteps_277 lk_X9_83 ?_
                                          refine m_iload C dX9_judgeSteps_280 9 rfl ?_
                                          refine m_iald C sh_59 (i_in (by omega) (by omega)) dX9_judgeSteps_282 ?_
                                          refine m_iast C sh_58 (i_in (by omega) (by omega)) dX9_judgeSteps_283 ?_
                                          refine m_mem (fun g276 eg276 => ?_)
                                          have hI277 : Inv g276 := by rw [eg276]; exact hI274.up (ok_any (by decide))
                                          have hK278 : Kq [36, 37, 38, 39, 57, 58, 59] [4] g g276 := by rw [eg276]; exact Kq.upA hK275 (by decide) (by decide)
                                          obtain ⟨x279, ex279⟩ : ∃ z : Int32, z = x78 + Int32.ofInt 1 := ⟨_, rfl⟩
                                          have t280 : (x78 + (Int32.ofInt 1)).toInt = x78.toInt + (1 : Int) := i_add rfl (by decide) (by omega) (by omega)
                                          have t281 : x279.toInt = (x78.toInt + (1 : Int)) := (congrArg Int32.toInt ex279).trans t280
                                          refine m_iinc C x279 [(9, .int x279), (0, .ref (aL X 34)), (1, .int m0), (2, .int n0), (3, .int o), (4, .int q), (5, .int (0 : Int32)), (6, .int x58), (7, .int x68), (8, .int x69)] dX9_judgeSteps_284 (q := 9) rfl ex279.symm (by decide) rfl ?_
                                          refine m_goto C 249 dX9_judgeSteps_287 (by decide) ?_
                                          refine m_lv [1, 2, 3, 4, 5, 6, 7, 8, 9, 0] rfl ?_
                                          exact ih249 x279 g276 (by omega) hI277 hK278 (by omega)
                                    have t282 : (0 : Int32).toInt = 0 := by decide
                                    refine m_lv [1, 2, 3, 4, 5, 6, 7, 8, 9, 0] rfl ?_
                                    exact L249 (((33 - (0 : Int32).toInt).toNat) + 1) (0 : Int32) g70 (Nat.lt_succ_self _) hI71 hK72 (by omega)
                                  · skip
                                    have th76 := i_eq h76
                                    rw [show (1 : Int32).toInt = 1 by decide] at th76
                                    refine m_iload C dX9_judgeSteps_231 7 rfl ?_
                                    refine m_iconst C (2 : Int32) dX9_judgeSteps_233 (by decide) ?_
                                    refine m_idiv C dX9_judgeSteps_234 (by decide) ?_
                                    refine m_name (fun x283 ex283 => ?_)
                                    have t284 : (x68 / (2 : Int32)).toInt = x68.toInt / 2 := i_div rfl (by omega) (by decide) (by decide)
                                    have t285 : x283.toInt = (x68.toInt / 2) := (congrArg Int32.toInt ex283).trans t284
                                    refine m_istore C [(7, .int x283), (0, .ref (aL X 34)), (1, .int m0), (2, .int n0), (3, .int o), (4, .int q), (5, .int (0 : Int32)), (6, .int x58), (8, .int x69)] dX9_judgeSteps_235 (by decide) rfl ?_
                                    refine m_iload C dX9_judgeSteps_237 8 rfl ?_
                                    refine m_iconst C (2 : Int32) dX9_judgeSteps_239 (by decide) ?_
                                    refine m_idiv C dX9_judgeSteps_240 (by decide) ?_
                                    refine m_name (fun x286 ex286 => ?_)
                                    have t287 : (x69 / (2 : Int32)).toInt = x69.toInt / 2 := i_div rfl (by omega) (by decide) (by decide)
                                    have t288 : x286.toInt = (x69.toInt / 2) := (congrArg Int32.toInt ex286).trans t287
                                    refine m_istore C [(8, .int x286), (7, .int x283), (0, .ref (aL X 34)), (1, .int m0), (2, .int n0), (3, .int o), (4, .int q), (5, .int (0 : Int32)), (6, .int x58)] dX9_judgeSteps_241 (by decide) rfl ?_
                                    refine m_goto C 223 dX9_judgeSteps_243 (by decide) ?_
                                    refine m_lv [2, 3, 4, 5, 6, 7, 8, 1, 0] rfl ?_
                                    exact ih223 x283 x286 g70 (by omega) hI71 hK72 (by omega) (by omega)
                              refine m_lv [3, 4, 5, 6, 7, 8, 2, 1, 0] rfl ?_
                              exact L223 (((x62.toInt).toNat) + 1) x62 x65 g48 (Nat.lt_succ_self _) hI49 hK50 (by omega) (by omega)
                            · skip
                              have th61 := i_eq h61
                              rw [show (0 : Int32).toInt = 0 by decide] at th61
                              refine m_iconst C (0 : Int32) dX9_judgeSteps_211 (by decide) ?_
                              exact m_iret C dX9_judgeSteps_212 ⟨_, rfl, hI49, hK50⟩
                          · skip
                            have th55 := i_nle h55
                            refine m_aload_n C dX9_judgeSteps_171 0 rfl ?_
                            refine m_getr (rf := "") C 33 rfl gd9 (by decide) sh_34 rfl dX9_judgeSteps_172 lk_X9_83 ?_
                            refine m_bipush C (32 : Int32) dX9_judgeSteps_175 (by decide) ?_
                            refine m_iload C dX9_judgeSteps_177 5 rfl ?_
                            refine m_imul C dX9_judgeSteps_179 ?_
                            refine m_iload C dX9_judgeSteps_180 6 rfl ?_
                            refine m_iadd C dX9_judgeSteps_182 ?_
                            refine m_aload_n C dX9_judgeSteps_183 0 rfl ?_
                            refine m_getr (rf := "") C 27 rfl gd9 (by decide) sh_34 rfl dX9_judgeSteps_184 lk_X9_65 ?_
                            refine m_iload C dX9_judgeSteps_187 6 rfl ?_
                            refine m_iald C sh_53 (i_in (by omega) (by omega)) dX9_judgeSteps_189 ?_
                            have t289 : ((32 : Int32) * (0 : Int32)).toInt = (32 : Int) * (0 : Int) := i_mul (by decide) (by decide) (by omega) (by omega)
                            have t290 : (((32 : Int32) * (0 : Int32)) + x47).toInt = ((32 : Int) * (0 : Int)) + x47.toInt := i_add t289 rfl (by omega) (by omega)
                            refine m_iast C sh_59 (i_in (by omega) (by omega)) dX9_judgeSteps_190 ?_
                            refine m_mem (fun g291 eg291 => ?_)
                            have hI292 : Inv g291 := by rw [eg291]; exact hI49.up (ok_any (by decide))
                            have hK293 : Kq [36, 37, 38, 39, 57, 58, 59] [4] g g291 := by rw [eg291]; exact Kq.upA hK50 (by decide) (by decide)
                            have ev294 : g291 34 26 = g48 34 26 := by rw [eg291]; exact up2_nei (Or.inl (by decide))
                            have tev294 := congrArg Int32.toInt ev294
                            obtain ⟨x295, ex295⟩ : ∃ z : Int32, z = x47 + Int32.ofInt 1 := ⟨_, rfl⟩
                            have t296 : (x47 + (Int32.ofInt 1)).toInt = x47.toInt + (1 : Int) := i_add rfl (by decide) (by omega) (by omega)
                            have t297 : x295.toInt = (x47.toInt + (1 : Int)) := (congrArg Int32.toInt ex295).trans t296
                            refine m_iinc C x295 [(6, .int x295), (0, .ref (aL X 34)), (1, .int m0), (2, .int n0), (3, .int o), (4, .int q), (5, .int (0 : Int32))] dX9_judgeSteps_191 (q := 6) rfl ex295.symm (by decide) rfl ?_
                            refine m_goto C 159 dX9_judgeSteps_194 (by decide) ?_
                            refine m_lv [1, 2, 3, 4, 5, 6, 0] rfl ?_
                            exact ih159 x295 g291 (by omega) hI292 hK293 (by omega)
                      have t298 : (0 : Int32).toInt = 0 := by decide
                      refine m_lv [1, 2, 3, 4, 5, 6, 0] rfl ?_
                      exact L159 (((257 - (0 : Int32).toInt).toNat) + 1) (0 : Int32) g41 (Nat.lt_succ_self _) hI42 hK43 (by omega)
                    · skip
                      have th45 := i_nle h45
                      rw [show (32 : Int32).toInt = 32 by decide] at th45
                      refine m_aload_n C dX9_judgeSteps_131 0 rfl ?_
                      refine m_getr (rf := "") C 33 rfl gd9 (by decide) sh_34 rfl dX9_judgeSteps_132 lk_X9_83 ?_
                      refine m_iload C dX9_judgeSteps_135 6 rfl ?_
                      refine m_aload_n C dX9_judgeSteps_137 0 rfl ?_
                      refine m_getr (rf := "") C 30 rfl gd9 (by decide) sh_34 rfl dX9_judgeSteps_138 lk_X9_74 ?_
                      refine m_bipush C (32 : Int32) dX9_judgeSteps_141 (by decide) ?_
                      refine m_iload_n C dX9_judgeSteps_143 3 rfl ?_
                      refine m_imul C dX9_judgeSteps_144 ?_
                      refine m_iload C dX9_judgeSteps_145 6 rfl ?_
                      refine m_iadd C dX9_judgeSteps_147 ?_
                      have t299 : ((32 : Int32) * o).toInt = (32 : Int) * o.toInt := i_mul (by decide) rfl (by omega) (by omega)
                      have t300 : (((32 : Int32) * o) + x40).toInt = ((32 : Int) * o.toInt) + x40.toInt := i_add t299 rfl (by omega) (by omega)
                      refine m_iald C sh_56 (i_in (by omega) (by omega)) dX9_judgeSteps_148 ?_
                      refine m_iast C sh_59 (i_in (by omega) (by omega)) dX9_judgeSteps_149 ?_
                      refine m_mem (fun g301 eg301 => ?_)
                      have hI302 : Inv g301 := by rw [eg301]; exact hI42.up (ok_any (by decide))
                      have hK303 : Kq [36, 37, 38, 39, 57, 58, 59] [4] g g301 := by rw [eg301]; exact Kq.upA hK43 (by decide) (by decide)
                      obtain ⟨x304, ex304⟩ : ∃ z : Int32, z = x40 + Int32.ofInt 1 := ⟨_, rfl⟩
                      have t305 : (x40 + (Int32.ofInt 1)).toInt = x40.toInt + (1 : Int) := i_add rfl (by decide) (by omega) (by omega)
                      have t306 : x304.toInt = (x40.toInt + (1 : Int)) := (congrArg Int32.toInt ex304).trans t305
                      refine m_iinc C x304 [(6, .int x304), (0, .ref (aL X 34)), (1, .int m0), (2, .int n0), (3, .int o), (4, .int q), (5, .int (0 : Int32))] dX9_judgeSteps_150 (q := 6) rfl ex304.symm (by decide) rfl ?_
                      refine m_goto C 124 dX9_judgeSteps_153 (by decide) ?_
                      refine m_lv [1, 2, 3, 4, 5, 6, 0] rfl ?_
                      exact ih124 x304 g301 (by omega) hI302 hK303 (by omega)
                have t307 : (0 : Int32).toInt = 0 := by decide
                refine m_lv [2, 3, 4, 5, 6, 1, 0] rfl ?_
                exact L124 (((33 - (0 : Int32).toInt).toNat) + 1) (0 : Int32) g (Nat.lt_succ_self _) hI Kq.rf (by omega)
              · skip
                have th37 := i_eq h37
                rw [show (0 : Int32).toInt = 0 by decide] at th37
                refine m_iconst C (1 : Int32) dX9_judgeSteps_114 (by decide) ?_
                refine m_goto C 119 dX9_judgeSteps_115 (by decide) ?_
                refine m_istore C [(5, .int (1 : Int32)), (0, .ref (aL X 34)), (1, .int m0), (2, .int n0), (3, .int o), (4, .int q)] dX9_judgeSteps_119 (by decide) rfl ?_
                refine m_iconst C (0 : Int32) dX9_judgeSteps_121 (by decide) ?_
                refine m_istore C [(6, .int (0 : Int32)), (5, .int (1 : Int32)), (0, .ref (aL X 34)), (1, .int m0), (2, .int n0), (3, .int o), (4, .int q)] dX9_judgeSteps_122 (by decide) rfl ?_
                have L124 : ∀ (n124 : Nat) (x310 : Int32) (g311 : Mem), (33 - x310.toInt).toNat < n124 → Inv g311 → Kq [36, 37, 38, 39, 57, 58, 59] [4] g g311 → 0 ≤ x310.toInt ∧ x310.toInt ≤ 32 → Wm X p l e (rmD 4) s m ([.ref (aL X 34), .int m0, .int n0, .int o, .int q] : List Value).toArray below meth c 10 0 0 (MQ below (cQ X (pI (fun r g2 => Inv g2 ∧ Kq [36, 37, 38, 39, 57, 58, 59] [4] g g2))) ([.ref (aL X 34), .int m0, .int n0, .int o, .int q] : List Value).toArray s 0 0 (Ab X)) g311 124 [(0, .ref (aL X 34)), (1, .int m0), (2, .int n0), (3, .int o), (4, .int q), (5, .int (1 : Int32)), (6, .int x310)] [] := by
                  intro n124
                  induction n124 with
                  | zero => intro x310 g311 hm; exact absurd hm (Nat.not_lt_zero _)
                  | succ n124 ih124 =>
                    intro x310 g311 hm124 hI312 hK313 i314
                    obtain ⟨i314a, i314b⟩ := i314
                    refine m_iload C dX9_judgeSteps_124 6 rfl ?_
                    refine m_bipush C (32 : Int32) dX9_judgeSteps_126 (by decide) ?_
                    refine m_icmp_ge C 156 dX9_judgeSteps_128 (by decide) (fun h315 => ?_) (fun h315 => ?_)
                    · skip
                      have th315 := i_le h315
                      rw [show (32 : Int32).toInt = 32 by decide] at th315
                      refine m_iconst C (0 : Int32) dX9_judgeSteps_156 (by decide) ?_
                      refine m_istore C [(6, .int (0 : Int32)), (0, .ref (aL X 34)), (1, .int m0), (2, .int n0), (3, .int o), (4, .int q), (5, .int (1 : Int32))] dX9_judgeSteps_157 (by decide) rfl ?_
                      have L159 : ∀ (n159 : Nat) (x317 : Int32) (g318 : Mem), (257 - x317.toInt).toNat < n159 → Inv g318 → Kq [36, 37, 38, 39, 57, 58, 59] [4] g g318 → 0 ≤ x317.toInt ∧ x317.toInt ≤ 256 → Wm X p l e (rmD 4) s m ([.ref (aL X 34), .int m0, .int n0, .int o, .int q] : List Value).toArray below meth c 10 0 0 (MQ below (cQ X (pI (fun r g2 => Inv g2 ∧ Kq [36, 37, 38, 39, 57, 58, 59] [4] g g2))) ([.ref (aL X 34), .int m0, .int n0, .int o, .int q] : List Value).toArray s 0 0 (Ab X)) g318 159 [(0, .ref (aL X 34)), (1, .int m0), (2, .int n0), (3, .int o), (4, .int q), (5, .int (1 : Int32)), (6, .int x317)] [] := by
                        intro n159
                        induction n159 with
                        | zero => intro x317 g318 hm; exact absurd hm (Nat.not_lt_zero _)
                        | succ n159 ih159 =>
                          intro x317 g318 hm159 hI319 hK320 i321
                          obtain ⟨i321a, i321b⟩ := i321
                          refine m_iload C dX9_judgeSteps_159 6 rfl ?_
                          refine m_bipush C (32 : Int32) dX9_judgeSteps_161 (by decide) ?_
                          refine m_aload_n C dX9_judgeSteps_163 0 rfl ?_
                          refine m_geti (rf := "") C 26 rfl gd9 (by decide) sh_34 rfl dX9_judgeSteps_164 lk_X9_281 ?_
                          have r322 := iv_pmany hI319
                          have ev323 : g318 34 26 = g 34 26 := hK320.2 26 (by decide)
                          have tev323 := congrArg Int32.toInt ev323
                          refine m_imul C dX9_judgeSteps_167 ?_
                          have t324 : ((32 : Int32) * (g318 34 26)).toInt = (32 : Int) * (g318 34 26).toInt := i_mul (by decide) rfl (by omega) (by omega)
                          refine m_icmp_ge C 197 dX9_judgeSteps_168 (by decide) (fun h325 => ?_) (fun h325 => ?_)
                          · skip
                            have th325 := i_le h325
                            refine m_iload C dX9_judgeSteps_197 5 rfl ?_
                            refine m_aload_n C dX9_judgeSteps_199 0 rfl ?_
                            refine m_geti (rf := "") C 26 rfl gd9 (by decide) sh_34 rfl dX9_judgeSteps_200 lk_X9_281 ?_
                            have r326 := iv_pmany hI319
                            have ev327 : g318 34 26 = g 34 26 := hK320.2 26 (by decide)
                            have tev327 := congrArg Int32.toInt ev327
                            refine m_iadd C dX9_judgeSteps_203 ?_
                            refine m_name (fun x328 ex328 => ?_)
                            have t329 : ((1 : Int32) + (g318 34 26)).toInt = (1 : Int) + (g318 34 26).toInt := i_add (by decide) rfl (by omega) (by omega)
                            have t330 : x328.toInt = ((1 : Int) + (g318 34 26).toInt) := (congrArg Int32.toInt ex328).trans t329
                            refine m_istore C [(6, .int x328), (0, .ref (aL X 34)), (1, .int m0), (2, .int n0), (3, .int o), (4, .int q), (5, .int (1 : Int32))] dX9_judgeSteps_204 (by decide) rfl ?_
                            refine m_iload C dX9_judgeSteps_206 0 rfl ?_
                            refine m_if_ne C 213 dX9_judgeSteps_208 (by decide) (fun h331 => ?_) (fun h331 => ?_)
                            · skip
                              have th331 := i_ne h331
                              rw [show (0 : Int32).toInt = 0 by decide] at th331
                              refine m_iload_n C dX9_judgeSteps_213 2 rfl ?_
                              refine m_iconst C (1 : Int32) dX9_judgeSteps_214 (by decide) ?_
                              refine m_isub C dX9_judgeSteps_215 ?_
                              refine m_name (fun x332 ex332 => ?_)
                              have t333 : (m0 - (1 : Int32)).toInt = m0.toInt - (1 : Int) := i_sub rfl (by decide) (by omega) (by omega)
                              have t334 : x332.toInt = (m0.toInt - (1 : Int)) := (congrArg Int32.toInt ex332).trans t333
                              refine m_istore C [(7, .int x332), (6, .int x328), (0, .ref (aL X 34)), (1, .int m0), (2, .int n0), (3, .int o), (4, .int q), (5, .int (1 : Int32))] dX9_judgeSteps_216 (by decide) rfl ?_
                              refine m_iload_n C dX9_judgeSteps_218 4 rfl ?_
                              refine m_iconst C (1 : Int32) dX9_judgeSteps_219 (by decide) ?_
                              refine m_isub C dX9_judgeSteps_220 ?_
                              refine m_name (fun x335 ex335 => ?_)
                              have t336 : (n0 - (1 : Int32)).toInt = n0.toInt - (1 : Int) := i_sub rfl (by decide) (by omega) (by omega)
                              have t337 : x335.toInt = (n0.toInt - (1 : Int)) := (congrArg Int32.toInt ex335).trans t336
                              refine m_istore C [(8, .int x335), (7, .int x332), (6, .int x328), (0, .ref (aL X 34)), (1, .int m0), (2, .int n0), (3, .int o), (4, .int q), (5, .int (1 : Int32))] dX9_judgeSteps_221 (by decide) rfl ?_
                              have L223 : ∀ (n223 : Nat) (x338 : Int32) (x339 : Int32) (g340 : Mem), (x338.toInt).toNat < n223 → Inv g340 → Kq [36, 37, 38, 39, 57, 58, 59] [4] g g340 → 0 ≤ x338.toInt ∧ x338.toInt ≤ 60 → 0 ≤ x339.toInt ∧ x339.toInt ≤ 60 → Wm X p l e (rmD 4) s m ([.ref (aL X 34), .int m0, .int n0, .int o, .int q] : List Value).toArray below meth c 10 0 0 (MQ below (cQ X (pI (fun r g2 => Inv g2 ∧ Kq [36, 37, 38, 39, 57, 58, 59] [4] g g2))) ([.ref (aL X 34), .int m0, .int n0, .int o, .int q] : List Value).toArray s 0 0 (Ab X)) g340 223 [(0, .ref (aL X 34)), (1, .int m0), (2, .int n0), (3, .int o), (4, .int q), (5, .int (1 : Int32)), (6, .int x328), (7, .int x338), (8, .int x339)] [] := by
                                intro n223
                                induction n223 with
                                | zero => intro x338 x339 g340 hm; exact absurd hm (Nat.not_lt_zero _)
                                | succ n223 ih223 =>
                                  intro x338 x339 g340 hm223 hI341 hK342 i343 i344
                                  obtain ⟨i343a, i343b⟩ := i343
                                  obtain ⟨i344a, i344b⟩ := i344
                                  refine m_iload C dX9_judgeSteps_223 7 rfl ?_
                                  refine m_iconst C (2 : Int32) dX9_judgeSteps_225 (by decide) ?_
                                  refine m_irem C dX9_judgeSteps_226 (by decide) ?_
                                  refine m_iconst C (1 : Int32) dX9_judgeSteps_227 (by decide) ?_
                                  have t345 : (x338 - x338 / (2 : Int32) * (2 : Int32)).toInt = x338.toInt % 2 := i_rem rfl (by omega) (by decide) (by decide)
                                  refine m_icmp_ne C 246 dX9_judgeSteps_228 (by decide) (fun h346 => ?_) (fun h346 => ?_)
                                  · skip
                                    have th346 := i_ne h346
                                    rw [show (1 : Int32).toInt = 1 by decide] at th346
                                    refine m_iconst C (0 : Int32) dX9_judgeSteps_246 (by decide) ?_
                                    refine m_istore C [(9, .int (0 : Int32)), (0, .ref (aL X 34)), (1, .int m0), (2, .int n0), (3, .int o), (4, .int q), (5, .int (1 : Int32)), (6, .int x328), (7, .int x338), (8, .int x339)] dX9_judgeSteps_247 (by decide) rfl ?_
                                    have L249 : ∀ (n249 : Nat) (x348 : Int32) (g349 : Mem), (33 - x348.toInt).toNat < n249 → Inv g349 → Kq [36, 37, 38, 39, 57, 58, 59] [4] g g349 → 0 ≤ x348.toInt ∧ x348.toInt ≤ 32 → Wm X p l e (rmD 4) s m ([.ref (aL X 34), .int m0, .int n0, .int o, .int q] : List Value).toArray below meth c 10 0 0 (MQ below (cQ X (pI (fun r g2 => Inv g2 ∧ Kq [36, 37, 38, 39, 57, 58, 59] [4] g g2))) ([.ref (aL X 34), .int m0, .int n0, .int o, .int q] : List Value).toArray s 0 0 (Ab X)) g349 249 [(0, .ref (aL X 34)), (1, .int m0), (2, .int n0), (3, .int o), (4, .int q), (5, .int (1 : Int32)), (6, .int x328), (7, .int x338), (8, .int x339), (9, .int x348)] [] := by
                                      intro n249
                                      induction n249 with
                                      | zero => intro x348 g349 hm; exact absurd hm (Nat.not_lt_zero _)
                                      | succ n249 ih249 =>
                                        intro x348 g349 hm249 hI350 hK351 i352
                                        obtain ⟨i352a, i352b⟩ := i352
                                        refine m_iload C dX9_judgeSteps_249 9 rfl ?_
                                        refine m_bipush C (32 : Int32) dX9_judgeSteps_251 (by decide) ?_
                                        refine m_icmp_ge C 290 dX9_judgeSteps_253 (by decide) (fun h353 => ?_) (fun h353 => ?_)
                                        · skip
                                          have th353 := i_le h353
                                          rw [show (32 : Int32).toInt = 32 by decide] at th353
                                          refine m_iconst C (1 : Int32) dX9_judgeSteps_290 (by decide) ?_
                                          refine m_istore C [(9, .int (1 : Int32)), (0, .ref (aL X 34)), (1, .int m0), (2, .int n0), (3, .int o), (4, .int q), (5, .int (1 : Int32)), (6, .int x328), (7, .int x338), (8, .int x339)] dX9_judgeSteps_291 (by decide) rfl ?_
                                          have L293 : ∀ (n293 : Nat) (x355 : Int32) (x356 : Int32) (x357 : Int32) (g358 : Mem), (10 - x357.toInt).toNat < n293 → Inv g358 → Kq [36, 37, 38, 39, 57, 58, 59] [4] g g358 → 0 ≤ x357.toInt ∧ x357.toInt ≤ 9 → 0 ≤ x355.toInt ∧ x355.toInt ≤ 60 → 0 ≤ x356.toInt ∧ x356.toInt ≤ 60 → Wm X p l e (rmD 4) s m ([.ref (aL X 34), .int m0, .int n0, .int o, .int q] : List Value).toArray below meth c 10 0 0 (MQ below (cQ X (pI (fun r g2 => Inv g2 ∧ Kq [36, 37, 38, 39, 57, 58, 59] [4] g g2))) ([.ref (aL X 34), .int m0, .int n0, .int o, .int q] : List Value).toArray s 0 0 (Ab X)) g358 293 [(0, .ref (aL X 34)), (1, .int m0), (2, .int n0), (3, .int o), (4, .int q), (5, .int (1 : Int32)), (6, .int x328), (7, .int x355), (8, .int x356), (9, .int x357)] [] := by
                                            intro n293
                                            induction n293 with
                                            | zero => intro x355 x356 x357 g358 hm; exact absurd hm (Nat.not_lt_zero _)
                                            | succ n293 ih293 =>
                                              intro x355 x356 x357 g358 hm293 hI359 hK360 i361 i362 i363
                                              obtain ⟨i361a, i361b⟩ := i361
                                              obtain ⟨i362a, i362b⟩ := i362
                                              obtain ⟨i363a, i363b⟩ := i363
                                              refine m_iload C dX9_judgeSteps_293 9 rfl ?_
                                              refine m_iload C dX9_judgeSteps_295 6 rfl ?_
                                              refine m_icmp_ge C 448 dX9_judgeSteps_297 (by decide) (fun h364 => ?_) (fun h364 => ?_)
                                              · skip
                                                have th364 := i_le h364
                                                refine m_iload C dX9_judgeSteps_448 8 rfl ?_
                                                refine m_if_ne C 496 dX9_judgeSteps_450 (by decide) (fun h365 => ?_) (fun h365 => ?_)
                                                · skip
                                                  have th365 := i_ne h365
                                                  rw [show (0 : Int32).toInt = 0 by decide] at th365
                                                  refine m_iconst C (0 : Int32) dX9_judgeSteps_496 (by decide) ?_
                                                  exact m_iret C dX9_judgeSteps_497 ⟨_, rfl, hI359, hK360⟩
                                                · skip
                                                  have th365 := i_eq h365
                                                  rw [show (0 : Int32).toInt = 0 by decide] at th365
                                                  refine m_aload_n C dX9_judgeSteps_453 0 rfl ?_
                                                  refine m_getr (rf := "") C 31 rfl gd9 (by decide) sh_34 rfl dX9_judgeSteps_454 lk_X9_77 ?_
                                                  refine m_iconst C (0 : Int32) dX9_judgeSteps_457 (by decide) ?_
                                                  refine m_aload_n C dX9_judgeSteps_458 0 rfl ?_
                                                  refine m_getr (rf := "") C 30 rfl gd9 (by decide) sh_34 rfl dX9_judgeSteps_459 lk_X9_74 ?_
                                                  refine m_bipush C (32 : Int32) dX9_judgeSteps_462 (by decide) ?_
                                                  refine m_iload_n C dX9_judgeSteps_464 3 rfl ?_
                                                  refine m_imul C dX9_judgeSteps_465 ?_
                                                  have t366 : ((32 : Int32) * o).toInt = (32 : Int) * o.toInt := i_mul (by decide) rfl (by omega) (by omega)
                                                  have t367 : (0 : Int32).toInt = 0 := by decide
                                                  refine m_invS C cal_X9_isLike (c_X9_isLike_57_56 l hX g358 (0 : Int32) ((32 : Int32) * o) hI359 (by omega) (by omega)) lk_X9_295 st_X9_isLike (by decide) rfl rfl (Nat.le_of_ble_eq_true rfl) dX9_judgeSteps_466 ⟨Nat.le_refl _, Nat.le_refl _⟩ (rI fun r368 g369 q370 => ?_)
                                                  obtain ⟨hI371, hK372, p373⟩ := q370
                                                  have hK374 : Kq [36, 37, 38, 39, 57, 58, 59] [4] g g369 := (hK360).tr hK372 (by decide) (by decide)
                                                  refine m_if_eq C 496 dX9_judgeSteps_469 (by decide) (fun h375 => ?_) (fun h375 => ?_)
                                                  · skip
                                                    have th375 := i_eq h375
                                                    rw [show (0 : Int32).toInt = 0 by decide] at th375
                                                    refine m_iconst C (0 : Int32) dX9_judgeSteps_496 (by decide) ?_
                                                    exact m_iret C dX9_judgeSteps_497 ⟨_, rfl, hI371, hK374⟩
                                                  · skip
                                                    have th375 := i_ne h375
                                                    rw [show (0 : Int32).toInt = 0 by decide] at th375
                                                    refine m_aload_n C dX9_judgeSteps_472 0 rfl ?_
                                                    refine m_getr (rf := "") C 32 rfl gd9 (by decide) sh_34 rfl dX9_judgeSteps_473 lk_X9_80 ?_
                                                    refine m_iconst C (0 : Int32) dX9_judgeSteps_476 (by decide) ?_
                                                    refine m_aload_n C dX9_judgeSteps_477 0 rfl ?_
                                                    refine m_getr (rf := "") C 30 rfl gd9 (by decide) sh_34 rfl dX9_judgeSteps_478 lk_X9_74 ?_
                                                    refine m_bipush C (32 : Int32) dX9_judgeSteps_481 (by decide) ?_
                                                    refine m_iload C dX9_judgeSteps_483 4 rfl ?_
                                                    refine m_imul C dX9_judgeSteps_485 ?_
                                                    have t376 : ((32 : Int32) * q).toInt = (32 : Int) * q.toInt := i_mul (by decide) rfl (by omega) (by omega)
                                                    have t377 : (0 : Int32).toInt = 0 := by decide
                                                    refine m_invS C cal_X9_isLike (c_X9_isLike_58_56 l hX g369 (0 : Int32) ((32 : Int32) * q) hI371 (by omega) (by omega)) lk_X9_295 st_X9_isLike (by decide) rfl rfl (Nat.le_of_ble_eq_true rfl) dX9_judgeSteps_486 ⟨Nat.le_refl _, Nat.le_refl _⟩ (rI fun r378 g379 q380 => ?_)
                                                    obtain ⟨hI381, hK382, p383⟩ := q380
                                                    have hK384 : Kq [36, 37, 38, 39, 57, 58, 59] [4] g g379 := (hK374).tr hK382 (by decide) (by decide)
                                                    refine m_if_eq C 496 dX9_judgeSteps_489 (by decide) (fun h385 => ?_) (fun h385 => ?_)
                                                    · skip
                                                      have th385 := i_eq h385
                                                      rw [show (0 : Int32).toInt = 0 by decide] at th385
                                                      refine m_iconst C (0 : Int32) dX9_judgeSteps_496 (by decide) ?_
                                                      exact m_iret C dX9_judgeSteps_497 ⟨_, rfl, hI381, hK384⟩
                                                    · skip
                                                      have th385 := i_ne h385
                                                      rw [show (0 : Int32).toInt = 0 by decide] at th385
                                                      refine m_iconst C (1 : Int32) dX9_judgeSteps_492 (by decide) ?_
                                                      refine m_goto C 497 dX9_judgeSteps_493 (by decide) ?_
                                                      exact m_iret C dX9_judgeSteps_497 ⟨_, rfl, hI381, hK384⟩
                                              · skip
                                                have th364 := i_nle h364
                                                refine m_iload C dX9_judgeSteps_300 8 rfl ?_
                                                refine m_if_ne C 307 dX9_judgeSteps_302 (by decide) (fun h386 => ?_) (fun h386 => ?_)
                                                · skip
                                                  have th386 := i_ne h386
                                                  rw [show (0 : Int32).toInt = 0 by decide] at th386
                                                  refine m_iload C dX9_judgeSteps_307 7 rfl ?_
                                                  refine m_iconst C (2 : Int32) dX9_judgeSteps_309 (by decide) ?_
                                                  refine m_irem C dX9_judgeSteps_310 (by decide) ?_
                                                  refine m_iconst C (1 : Int32) dX9_judgeSteps_311 (by decide) ?_
                                                  have t387 : (x355 - x355 / (2 : Int32) * (2 : Int32)).toInt = x355.toInt % 2 := i_rem rfl (by omega) (by decide) (by decide)
                                                  refine m_icmp_eq C 322 dX9_judgeSteps_312 (by decide) (fun h388 => ?_) (fun h388 => ?_)
                                                  · skip
                                                    have th388 := i_eq h388
                                                    rw [show (1 : Int32).toInt = 1 by decide] at th388
                                                    refine m_aload_n C dX9_judgeSteps_322 0 rfl ?_
                                                    refine m_aload_n C dX9_judgeSteps_323 0 rfl ?_
                                                    refine m_getr (rf := "") C 33 rfl gd9 (by decide) sh_34 rfl dX9_judgeSteps_324 lk_X9_83 ?_
                                                    refine m_bipush C (32 : Int32) dX9_judgeSteps_327 (by decide) ?_
                                                    refine m_iload C dX9_judgeSteps_329 9 rfl ?_
                                                    refine m_imul C dX9_judgeSteps_331 ?_
                                                    refine m_aload_n C dX9_judgeSteps_332 0 rfl ?_
                                                    refine m_getr (rf := "") C 31 rfl gd9 (by decide) sh_34 rfl dX9_judgeSteps_333 lk_X9_77 ?_
                                                    refine m_iconst C (0 : Int32) dX9_judgeSteps_336 (by decide) ?_
                                                    have t389 : ((32 : Int32) * x357).toInt = (32 : Int) * x357.toInt := i_mul (by decide) rfl (by omega) (by omega)
                                                    have t390 : (0 : Int32).toInt = 0 := by decide
                                                    refine m_invV C cal_X9_pair sh_34 rfl (c_X9_pair_59_57 l hX g358 ((32 : Int32) * x357) (0 : Int32) hI359 (by omega) (by omega)) lk_X9_273 im_X9_pair se_X9_pair (by decide) rfl rfl (Nat.le_of_ble_eq_true rfl) dX9_judgeSteps_337 ⟨Nat.le_refl _, Nat.le_refl _⟩ (rV fun g392 q393 => ?_)
                                                    obtain ⟨hI394, hK395⟩ := q393
                                                    have hK396 : Kq [36, 37, 38, 39, 57, 58, 59] [4] g g392 := (hK360).tr hK395 (by decide) (by decide)
                                                    refine m_aload_n C dX9_judgeSteps_340 0 rfl ?_
                                                    refine m_aload_n C dX9_judgeSteps_341 0 rfl ?_
                                                    refine m_getr (rf := "") C 31 rfl gd9 (by decide) sh_34 rfl dX9_judgeSteps_342 lk_X9_77 ?_
                                                    refine m_iconst C (0 : Int32) dX9_judgeSteps_345 (by decide) ?_
                                                    have t397 : (0 : Int32).toInt = 0 := by decide
                                                    refine m_invV C cal_X9_lay sh_34 rfl (c_X9_lay_57 l hX g392 (0 : Int32) hI394 (by omega)) lk_X9_213 im_X9_lay se_X9_lay (by decide) rfl rfl (Nat.le_of_ble_eq_true rfl) dX9_judgeSteps_346 ⟨Nat.le_refl _, Nat.le_refl _⟩ (rV fun g399 q400 => ?_)
                                                    obtain ⟨hI401, hK402⟩ := q400
                                                    have hK403 : Kq [36, 37, 38, 39, 57, 58, 59] [4] g g399 := (hK396).tr hK402 (by decide) (by decide)
                                                    refine m_aload_n C dX9_judgeSteps_349 0 rfl ?_
                                                    refine m_aload_n C dX9_judgeSteps_350 0 rfl ?_
                                                    refine m_getr (rf := "") C 33 rfl gd9 (by decide) sh_34 rfl dX9_judgeSteps_351 lk_X9_83 ?_
                                                    refine m_bipush C (32 : Int32) dX9_judgeSteps_354 (by decide) ?_
                                                    refine m_iload C dX9_judgeSteps_356 9 rfl ?_
                                                    refine m_imul C dX9_judgeSteps_358 ?_
                                                    refine m_aload_n C dX9_judgeSteps_359 0 rfl ?_
                                                    refine m_getr (rf := "") C 32 rfl gd9 (by decide) sh_34 rfl dX9_judgeSteps_360 lk_X9_80 ?_
                                                    refine m_iconst C (0 : Int32) dX9_judgeSteps_363 (by decide) ?_
                                                    have t404 : ((32 : Int32) * x357).toInt = (32 : Int) * x357.toInt := i_mul (by decide) rfl (by omega) (by omega)
                                                    have t405 : (0 : Int32).toInt = 0 := by decide
                                                    refine m_invV C cal_X9_pair sh_34 rfl (c_X9_pair_59_58 l hX g399 ((32 : Int32) * x357) (0 : Int32) hI401 (by omega) (by omega)) lk_X9_273 im_X9_pair se_X9_pair (by decide) rfl rfl (Nat.le_of_ble_eq_true rfl) dX9_judgeSteps_364 ⟨Nat.le_refl _, Nat.le_refl _⟩ (rV fun g407 q408 => ?_)
                                                    obtain ⟨hI409, hK410⟩ := q408
                                                    have hK411 : Kq [36, 37, 38, 39, 57, 58, 59] [4] g g407 := (hK403).tr hK410 (by decide) (by decide)
                                                    refine m_aload_n C dX9_judgeSteps_367 0 rfl ?_
                                                    refine m_aload_n C dX9_judgeSteps_368 0 rfl ?_
                                                    refine m_getr (rf := "") C 32 rfl gd9 (by decide) sh_34 rfl dX9_judgeSteps_369 lk_X9_80 ?_
                                                    refine m_iconst C (0 : Int32) dX9_judgeSteps_372 (by decide) ?_
                                                    have t412 : (0 : Int32).toInt = 0 := by decide
                                                    refine m_invV C cal_X9_lay sh_34 rfl (c_X9_lay_58 l hX g407 (0 : Int32) hI409 (by omega)) lk_X9_213 im_X9_lay se_X9_lay (by decide) rfl rfl (Nat.le_of_ble_eq_true rfl) dX9_judgeSteps_373 ⟨Nat.le_refl _, Nat.le_refl _⟩ (rV fun g414 q415 => ?_)
                                                    obtain ⟨hI416, hK417⟩ := q415
                                                    have hK418 : Kq [36, 37, 38, 39, 57, 58, 59] [4] g g414 := (hK411).tr hK417 (by decide) (by decide)
                                                    have L376 : ∀ (n376 : Nat) (x419 : Int32) (x420 : Int32) (g421 : Mem), (x419.toInt).toNat < n376 → Inv g421 → Kq [36, 37, 38, 39, 57, 58, 59] [4] g g421 → 0 ≤ x419.toInt ∧ x419.toInt ≤ 60 → 0 ≤ x420.toInt ∧ x420.toInt ≤ 60 → Wm X p l e (rmD 4) s m ([.ref (aL X 34), .int m0, .int n0, .int o, .int q] : List Value).toArray below meth c 10 0 0 (MQ below (cQ X (pI (fun r g2 => Inv g2 ∧ Kq [36, 37, 38, 39, 57, 58, 59] [4] g g2))) ([.ref (aL X 34), .int m0, .int n0, .int o, .int q] : List Value).toArray s 0 0 (Ab X)) g421 376 [(0, .ref (aL X 34)), (1, .int m0), (2, .int n0), (3, .int o), (4, .int q), (5, .int (1 : Int32)), (6, .int x328), (7, .int x419), (8, .int x420), (9, .int x357)] [] := by
                                                      intro n376
                                                      induction n376 with
                                                      | zero => intro x419 x420 g421 hm; exact absurd hm (Nat.not_lt_zero _)
                                                      | succ n376 ih376 =>
                                                        intro x419 x420 g421 hm376 hI422 hK423 i424 i425
                                                        obtain ⟨i424a, i424b⟩ := i424
                                                        obtain ⟨i425a, i425b⟩ := i425
                                                        refine m_iload C dX9_judgeSteps_376 7 rfl ?_
                                                        refine m_iconst C (2 : Int32) dX9_judgeSteps_378 (by decide) ?_
                                                        refine m_irem C dX9_judgeSteps_379 (by decide) ?_
                                                        have t426 : (x419 - x419 / (2 : Int32) * (2 : Int32)).toInt = x419.toInt % 2 := i_rem rfl (by omega) (by decide) (by decide)
                                                        refine m_if_ne C 430 dX9_judgeSteps_380 (by decide) (fun h427 => ?_) (fun h427 => ?_)
                                                        · skip
                                                          have th427 := i_ne h427
                                                          rw [show (0 : Int32).toInt = 0 by decide] at th427
                                                          refine m_iload C dX9_judgeSteps_430 7 rfl ?_
                                                          refine m_iconst C (2 : Int32) dX9_judgeSteps_432 (by decide) ?_
                                                          refine m_idiv C dX9_judgeSteps_433 (by decide) ?_
                                                          refine m_name (fun x428 ex428 => ?_)
                                                          have t429 : (x419 / (2 : Int32)).toInt = x419.toInt / 2 := i_div rfl (by omega) (by decide) (by decide)
                                                          have t430 : x428.toInt = (x419.toInt / 2) := (congrArg Int32.toInt ex428).trans t429
                                                          refine m_istore C [(7, .int x428), (0, .ref (aL X 34)), (1, .int m0), (2, .int n0), (3, .int o), (4, .int q), (5, .int (1 : Int32)), (6, .int x328), (8, .int x420), (9, .int x357)] dX9_judgeSteps_434 (by decide) rfl ?_
                                                          refine m_iload C dX9_judgeSteps_436 8 rfl ?_
                                                          refine m_iconst C (2 : Int32) dX9_judgeSteps_438 (by decide) ?_
                                                          refine m_idiv C dX9_judgeSteps_439 (by decide) ?_
                                                          refine m_name (fun x431 ex431 => ?_)
                                                          have t432 : (x420 / (2 : Int32)).toInt = x420.toInt / 2 := i_div rfl (by omega) (by decide) (by decide)
                                                          have t433 : x431.toInt = (x420.toInt / 2) := (congrArg Int32.toInt ex431).trans t432
                                                          refine m_istore C [(8, .int x431), (7, .int x428), (0, .ref (aL X 34)), (1, .int m0), (2, .int n0), (3, .int o), (4, .int q), (5, .int (1 : Int32)), (6, .int x328), (9, .int x357)] dX9_judgeSteps_440 (by decide) rfl ?_
                                                          obtain ⟨x434, ex434⟩ : ∃ z : Int32, z = x357 + Int32.ofInt 1 := ⟨_, rfl⟩
                                                          have t435 : (x357 + (Int32.ofInt 1)).toInt = x357.toInt + (1 : Int) := i_add rfl (by decide) (by omega) (by omega)
                                                          have t436 : x434.toInt = (x357.toInt + (1 : Int)) := (congrArg Int32.toInt ex434).trans t435
                                                          refine m_iinc C x434 [(9, .int x434), (8, .int x431), (7, .int x428), (0, .ref (aL X 34)), (1, .int m0), (2, .int n0), (3, .int o), (4, .int q), (5, .int (1 : Int32)), (6, .int x328)] dX9_judgeSteps_442 (q := 9) rfl ex434.symm (by decide) rfl ?_
                                                          refine m_goto C 293 dX9_judgeSteps_445 (by decide) ?_
                                                          refine m_lv [3, 4, 5, 6, 7, 8, 9, 2, 1, 0] rfl ?_
                                                          exact ih293 x428 x431 x434 g421 (by omega) hI422 hK423 (by omega) (by omega) (by omega)
                                                        · skip
                                                          have th427 := i_eq h427
                                                          rw [show (0 : Int32).toInt = 0 by decide] at th427
                                                          refine m_iload C dX9_judgeSteps_383 7 rfl ?_
                                                          refine m_if_eq C 430 dX9_judgeSteps_385 (by decide) (fun h437 => ?_) (fun h437 => ?_)
                                                          · skip
                                                            have th437 := i_eq h437
                                                            rw [show (0 : Int32).toInt = 0 by decide] at th437
                                                            refine m_iload C dX9_judgeSteps_430 7 rfl ?_
                                                            refine m_iconst C (2 : Int32) dX9_judgeSteps_432 (by decide) ?_
                                                            refine m_idiv C dX9_judgeSteps_433 (by decide) ?_
                                                            refine m_name (fun x438 ex438 => ?_)
                                                            have t439 : (x419 / (2 : Int32)).toInt = x419.toInt / 2 := i_div rfl (by omega) (by decide) (by decide)
                                                            have t440 : x438.toInt = (x419.toInt / 2) := (congrArg Int32.toInt ex438).trans t439
                                                            refine m_istore C [(7, .int x438), (0, .ref (aL X 34)), (1, .int m0), (2, .int n0), (3, .int o), (4, .int q), (5, .int (1 : Int32)), (6, .int x328), (8, .int x420), (9, .int x357)] dX9_judgeSteps_434 (by decide) rfl ?_
                                                            refine m_iload C dX9_judgeSteps_436 8 rfl ?_
                                                            refine m_iconst C (2 : Int32) dX9_judgeSteps_438 (by decide) ?_
                                                            refine m_idiv C dX9_judgeSteps_439 (by decide) ?_
                                                            refine m_name (fun x441 ex441 => ?_)
                                                            have t442 : (x420 / (2 : Int32)).toInt = x420.toInt / 2 := i_div rfl (by omega) (by decide) (by decide)
                                                            have t443 : x441.toInt = (x420.toInt / 2) := (congrArg Int32.toInt ex441).trans t442
                                                            refine m_istore C [(8, .int x441), (7, .int x438), (0, .ref (aL X 34)), (1, .int m0), (2, .int n0), (3, .int o), (4, .int q), (5, .int (1 : Int32)), (6, .int x328), (9, .int x357)] dX9_judgeSteps_440 (by decide) rfl ?_
                                                            obtain ⟨x444, ex444⟩ : ∃ z : Int32, z = x357 + Int32.ofInt 1 := ⟨_, rfl⟩
                                                            have t445 : (x357 + (Int32.ofInt 1)).toInt = x357.toInt + (1 : Int) := i_add rfl (by decide) (by omega) (by omega)
                                                            have t446 : x444.toInt = (x357.toInt + (1 : Int)) := (congrArg Int32.toInt ex444).trans t445
                                                            refine m_iinc C x444 [(9, .int x444), (8, .int x441), (7, .int x438), (0, .ref (aL X 34)), (1, .int m0), (2, .int n0), (3, .int o), (4, .int q), (5, .int (1 : Int32)), (6, .int x328)] dX9_judgeSteps_442 (q := 9) rfl ex444.symm (by decide) rfl ?_
                                                            refine m_goto C 293 dX9_judgeSteps_445 (by decide) ?_
                                                            refine m_lv [3, 4, 5, 6, 7, 8, 9, 2, 1, 0] rfl ?_
                                                            exact ih293 x438 x441 x444 g421 (by omega) hI422 hK423 (by omega) (by omega) (by omega)
                                                          · skip
                                                            have th437 := i_ne h437
                                                            rw [show (0 : Int32).toInt = 0 by decide] at th437
                                                            refine m_iload C dX9_judgeSteps_388 7 rfl ?_
                                                            refine m_iconst C (2 : Int32) dX9_judgeSteps_390 (by decide) ?_
                                                            refine m_idiv C dX9_judgeSteps_391 (by decide) ?_
                                                            refine m_name (fun x447 ex447 => ?_)
                                                            have t448 : (x419 / (2 : Int32)).toInt = x419.toInt / 2 := i_div rfl (by omega) (by decide) (by decide)
                                                            have t449 : x447.toInt = (x419.toInt / 2) := (congrArg Int32.toInt ex447).trans t448
                                                            refine m_istore C [(7, .int x447), (0, .ref (aL X 34)), (1, .int m0), (2, .int n0), (3, .int o), (4, .int q), (5, .int (1 : Int32)), (6, .int x328), (8, .int x420), (9, .int x357)] dX9_judgeSteps_392 (by decide) rfl ?_
                                                            refine m_iload C dX9_judgeSteps_394 8 rfl ?_
                                                            refine m_iconst C (2 : Int32) dX9_judgeSteps_396 (by decide) ?_
                                                            refine m_idiv C dX9_judgeSteps_397 (by decide) ?_
                                                            refine m_name (fun x450 ex450 => ?_)
                                                            have t451 : (x420 / (2 : Int32)).toInt = x420.toInt / 2 := i_div rfl (by omega) (by decide) (by decide)
                                                            have t452 : x450.toInt = (x420.toInt / 2) := (congrArg Int32.toInt ex450).trans t451
                                                            refine m_istore C [(8, .int x450), (7, .int x447), (0, .ref (aL X 34)), (1, .int m0), (2, .int n0), (3, .int o), (4, .int q), (5, .int (1 : Int32)), (6, .int x328), (9, .int x357)] dX9_judgeSteps_398 (by decide) rfl ?_
                                                            refine m_goto C 376 dX9_judgeSteps_400 (by decide) ?_
                                                            refine m_lv [2, 3, 4, 5, 6, 7, 8, 1, 0, 9] rfl ?_
                                                            exact ih376 x447 x450 g421 (by omega) hI422 hK423 (by omega) (by omega)
                                                    refine m_lv [0, 1, 2, 3, 4, 5, 6, 7, 8, 9] rfl ?_
                                                    exact L376 (((x355.toInt).toNat) + 1) x355 x356 g414 (Nat.lt_succ_self _) hI416 hK418 (by omega) (by omega)
                                                  · skip
                                                    have th388 := i_ne h388
                                                    rw [show (1 : Int32).toInt = 1 by decide] at th388
                                                    refine m_iload C dX9_judgeSteps_315 7 rfl ?_
                                                    refine m_iload C dX9_judgeSteps_317 8 rfl ?_
                                                    refine m_icmp_ne C 403 dX9_judgeSteps_319 (by decide) (fun h453 => ?_) (fun h453 => ?_)
                                                    · skip
                                                      have th453 := i_ne h453
                                                      refine m_aload_n C dX9_judgeSteps_403 0 rfl ?_
                                                      refine m_aload_n C dX9_judgeSteps_404 0 rfl ?_
                                                      refine m_getr (rf := "") C 32 rfl gd9 (by decide) sh_34 rfl dX9_judgeSteps_405 lk_X9_80 ?_
                                                      refine m_iconst C (0 : Int32) dX9_judgeSteps_408 (by decide) ?_
                                                      refine m_aload_n C dX9_judgeSteps_409 0 rfl ?_
                                                      refine m_getr (rf := "") C 33 rfl gd9 (by decide) sh_34 rfl dX9_judgeSteps_410 lk_X9_83 ?_
                                                      refine m_bipush C (32 : Int32) dX9_judgeSteps_413 (by decide) ?_
                                                      refine m_iload C dX9_judgeSteps_415 9 rfl ?_
                                                      refine m_imul C dX9_judgeSteps_417 ?_
                                                      have t454 : ((32 : Int32) * x357).toInt = (32 : Int) * x357.toInt := i_mul (by decide) rfl (by omega) (by omega)
                                                      have t455 : (0 : Int32).toInt = 0 := by decide
                                                      refine m_invV C cal_X9_pair sh_34 rfl (c_X9_pair_58_59 l hX g358 (0 : Int32) ((32 : Int32) * x357) hI359 (by omega) (by omega)) lk_X9_273 im_X9_pair se_X9_pair (by decide) rfl rfl (Nat.le_of_ble_eq_true rfl) dX9_judgeSteps_418 ⟨Nat.le_refl _, Nat.le_refl _⟩ (rV fun g457 q458 => ?_)
                                                      obtain ⟨hI459, hK460⟩ := q458
                                                      have hK461 : Kq [36, 37, 38, 39, 57, 58, 59] [4] g g457 := (hK360).tr hK460 (by decide) (by decide)
                                                      refine m_aload_n C dX9_judgeSteps_421 0 rfl ?_
                                                      refine m_aload_n C dX9_judgeSteps_422 0 rfl ?_
                                                      refine m_getr (rf := "") C 32 rfl gd9 (by decide) sh_34 rfl dX9_judgeSteps_423 lk_X9_80 ?_
                                                      refine m_iconst C (0 : Int32) dX9_judgeSteps_426 (by decide) ?_
                                                      have t462 : (0 : Int32).toInt = 0 := by decide
                                                      refine m_invV C cal_X9_lay sh_34 rfl (c_X9_lay_58 l hX g457 (0 : Int32) hI459 (by omega)) lk_X9_213 im_X9_lay se_X9_lay (by decide) rfl rfl (Nat.le_of_ble_eq_true rfl) dX9_judgeSteps_427 ⟨Nat.le_refl _, Nat.le_refl _⟩ (rV fun g464 q465 => ?_)
                                                      obtain ⟨hI466, hK467⟩ := q465
                                                      have hK468 : Kq [36, 37, 38, 39, 57, 58, 59] [4] g g464 := (hK461).tr hK467 (by decide) (by decide)
                                                      refine m_iload C dX9_judgeSteps_430 7 rfl ?_
                                                      refine m_iconst C (2 : Int32) dX9_judgeSteps_432 (by decide) ?_
                                                      refine m_idiv C dX9_judgeSteps_433 (by decide) ?_
                                                      refine m_name (fun x469 ex469 => ?_)
                                                      have t470 : (x355 / (2 : Int32)).toInt = x355.toInt / 2 := i_div rfl (by omega) (by decide) (by decide)
                                                      have t471 : x469.toInt = (x355.toInt / 2) := (congrArg Int32.toInt ex469).trans t470
                                                      refine m_istore C [(7, .int x469), (0, .ref (aL X 34)), (1, .int m0), (2, .int n0), (3, .int o), (4, .int q), (5, .int (1 : Int32)), (6, .int x328), (8, .int x356), (9, .int x357)] dX9_judgeSteps_434 (by decide) rfl ?_
                                                      refine m_iload C dX9_judgeSteps_436 8 rfl ?_
                                                      refine m_iconst C (2 : Int32) dX9_judgeSteps_438 (by decide) ?_
                                                      refine m_idiv C dX9_judgeSteps_439 (by decide) ?_
                                                      refine m_name (fun x472 ex472 => ?_)
                                                      have t473 : (x356 / (2 : Int32)).toInt = x356.toInt / 2 := i_div rfl (by omega) (by decide) (by decide)
                                                      have t474 : x472.toInt = (x356.toInt / 2) := (congrArg Int32.toInt ex472).trans t473
                                                      refine m_istore C [(8, .int x472), (7, .int x469), (0, .ref (aL X 34)), (1, .int m0), (2, .int n0), (3, .int o), (4, .int q), (5, .int (1 : Int32)), (6, .int x328), (9, .int x357)] dX9_judgeSteps_440 (by decide) rfl ?_
                                                      obtain ⟨x475, ex475⟩ : ∃ z : Int32, z = x357 + Int32.ofInt 1 := ⟨_, rfl⟩
                                                      have t476 : (x357 + (Int32.ofInt 1)).toInt = x357.toInt + (1 : Int) := i_add rfl (by decide) (by omega) (by omega)
                                                      have t477 : x475.toInt = (x357.toInt + (1 : Int)) := (congrArg Int32.toInt ex475).trans t476
                                                      refine m_iinc C x475 [(9, .int x475), (8, .int x472), (7, .int x469), (0, .ref (aL X 34)), (1, .int m0), (2, .int n0), (3, .int o), (4, .int q), (5, .int (1 : Int32)), (6, .int x328)] dX9_judgeSteps_442 (q := 9) rfl ex475.symm (by decide) rfl ?_
                                                      refine m_goto C 293 dX9_judgeSteps_445 (by decide) ?_
                                                      refine m_lv [3, 4, 5, 6, 7, 8, 9, 2, 1, 0] rfl ?_
                                                      exact ih293 x469 x472 x475 g464 (by omega) hI466 hK468 (by omega) (by omega) (by omega)
                                                    · skip
                                                      have th453 := i_eq h453
                                                      refine m_aload_n C dX9_judgeSteps_322 0 rfl ?_
                                                      refine m_aload_n C dX9_judgeSteps_323 0 rfl ?_
                                                      refine m_getr (rf := "") C 33 rfl gd9 (by decide) sh_34 rfl dX9_judgeSteps_324 lk_X9_83 ?_
                                                      refine m_bipush C (32 : Int32) dX9_judgeSteps_327 (by decide) ?_
                                                      refine m_iload C dX9_judgeSteps_329 9 rfl ?_
                                                      refine m_imul C dX9_judgeSteps_331 ?_
                                                      refine m_aload_n C dX9_judgeSteps_332 0 rfl ?_
                                                      refine m_getr (rf := "") C 31 rfl gd9 (by decide) sh_34 rfl dX9_judgeSteps_333 lk_X9_77 ?_
                                                      refine m_iconst C (0 : Int32) dX9_judgeSteps_336 (by decide) ?_
                                                      have t478 : ((32 : Int32) * x357).toInt = (32 : Int) * x357.toInt := i_mul (by decide) rfl (by omega) (by omega)
                                                      have t479 : (0 : Int32).toInt = 0 := by decide
                                                      refine m_invV C cal_X9_pair sh_34 rfl (c_X9_pair_59_57 l hX g358 ((32 : Int32) * x357) (0 : Int32) hI359 (by omega) (by omega)) lk_X9_273 im_X9_pair se_X9_pair (by decide) rfl rfl (Nat.le_of_ble_eq_true rfl) dX9_judgeSteps_337 ⟨Nat.le_refl _, Nat.le_refl _⟩ (rV fun g481 q482 => ?_)
                                                      obtain ⟨hI483, hK484⟩ := q482
                                                      have hK485 : Kq [36, 37, 38, 39, 57, 58, 59] [4] g g481 := (hK360).tr hK484 (by decide) (by decide)
                                                      refine m_aload_n C dX9_judgeSteps_340 0 rfl ?_
                                                      refine m_aload_n C dX9_judgeSteps_341 0 rfl ?_
                                                      refine m_getr (rf := "") C 31 rfl gd9 (by decide) sh_34 rfl dX9_judgeSteps_342 lk_X9_77 ?_
                                                      refine m_iconst C (0 : Int32) dX9_judgeSteps_345 (by decide) ?_
                                                      have t486 : (0 : Int32).toInt = 0 := by decide
                                                      refine m_invV C cal_X9_lay sh_34 rfl (c_X9_lay_57 l hX g481 (0 : Int32) hI483 (by omega)) lk_X9_213 im_X9_lay se_X9_lay (by decide) rfl rfl (Nat.le_of_ble_eq_true rfl) dX9_judgeSteps_346 ⟨Nat.le_refl _, Nat.le_refl _⟩ (rV fun g488 q489 => ?_)
                                                      obtain ⟨hI490, hK491⟩ := q489
                                                      have hK492 : Kq [36, 37, 38, 39, 57, 58, 59] [4] g g488 := (hK485).tr hK491 (by decide) (by decide)
                                                      refine m_aload_n C dX9_judgeSteps_349 0 rfl ?_
                                                      refine m_aload_n C dX9_judgeSteps_350 0 rfl ?_
                                                      refine m_getr (rf := "") C 33 rfl gd9 (by decide) sh_34 rfl dX9_judgeSteps_351 lk_X9_83 ?_
                                                      refine m_bipush C (32 : Int32) dX9_judgeSteps_354 (by decide) ?_
                                                      refine m_iload C dX9_judgeSteps_356 9 rfl ?_
                                                      refine m_imul C dX9_judgeSteps_358 ?_
                                                      refine m_aload_n C dX9_judgeSteps_359 0 rfl ?_
                                                      refine m_getr (rf := "") C 32 rfl gd9 (by decide) sh_34 rfl dX9_judgeSteps_360 lk_X9_80 ?_
                                                      refine m_iconst C (0 : Int32) dX9_judgeSteps_363 (by decide) ?_
                                                      have t493 : ((32 : Int32) * x357).toInt = (32 : Int) * x357.toInt := i_mul (by decide) rfl (by omega) (by omega)
                                                      have t494 : (0 : Int32).toInt = 0 := by decide
                                                      refine m_invV C cal_X9_pair sh_34 rfl (c_X9_pair_59_58 l hX g488 ((32 : Int32) * x357) (0 : Int32) hI490 (by omega) (by omega)) lk_X9_273 im_X9_pair se_X9_pair (by decide) rfl rfl (Nat.le_of_ble_eq_true rfl) dX9_judgeSteps_364 ⟨Nat.le_refl _, Nat.le_refl _⟩ (rV fun g496 q497 => ?_)
                                                      obtain ⟨hI498, hK499⟩ := q497
                                                      have hK500 : Kq [36, 37, 38, 39, 57, 58, 59] [4] g g496 := (hK492).tr hK499 (by decide) (by decide)
                                                      refine m_aload_n C dX9_judgeSteps_367 0 rfl ?_
                                                      refine m_aload_n C dX9_judgeSteps_368 0 rfl ?_
                                                      refine m_getr (rf := "") C 32 rfl gd9 (by decide) sh_34 rfl dX9_judgeSteps_369 lk_X9_80 ?_
                                                      refine m_iconst C (0 : Int32) dX9_judgeSteps_372 (by decide) ?_
                                                      have t501 : (0 : Int32).toInt = 0 := by decide
                                                      refine m_invV C cal_X9_lay sh_34 rfl (c_X9_lay_58 l hX g496 (0 : Int32) hI498 (by omega)) lk_X9_213 im_X9_lay se_X9_lay (by decide) rfl rfl (Nat.le_of_ble_eq_true rfl) dX9_judgeSteps_373 ⟨Nat.le_refl _, Nat.le_refl _⟩ (rV fun g503 q504 => ?_)
                                                      obtain ⟨hI505, hK506⟩ := q504
                                                      have hK507 : Kq [36, 37, 38, 39, 57, 58, 59] [4] g g503 := (hK500).tr hK506 (by decide) (by decide)
                                                      have L376 : ∀ (n376 : Nat) (x508 : Int32) (x509 : Int32) (g510 : Mem), (x508.toInt).toNat < n376 → Inv g510 → Kq [36, 37, 38, 39, 57, 58, 59] [4] g g510 → 0 ≤ x508.toInt ∧ x508.toInt ≤ 60 → 0 ≤ x509.toInt ∧ x509.toInt ≤ 60 → Wm X p l e (rmD 4) s m ([.ref (aL X 34), .int m0, .int n0, .int o, .int q] : List Value).toArray below meth c 10 0 0 (MQ below (cQ X (pI (fun r g2 => Inv g2 ∧ Kq [36, 37, 38, 39, 57, 58, 59] [4] g g2))) ([.ref (aL X 34), .int m0, .int n0, .int o, .int q] : List Value).toArray s 0 0 (Ab X)) g510 376 [(0, .ref (aL X 34)), (1, .int m0), (2, .int n0), (3, .int o), (4, .int q), (5, .int (1 : Int32)), (6, .int x328), (7, .int x508), (8, .int x509), (9, .int x357)] [] := by
                                                        intro n376
                                                        induction n376 with
                                                        | zero => intro x508 x509 g510 hm; exact absurd hm (Nat.not_lt_zero _)
                                                        | succ n376 ih376 =>
                                                          intro x508 x509 g510 hm376 hI511 hK512 i513 i514
                                                          obtain ⟨i513a, i513b⟩ := i513
                                                          obtain ⟨i514a, i514b⟩ := i514
                                                          refine m_iload C dX9_judgeSteps_376 7 rfl ?_
                                                          refine m_iconst C (2 : Int32) dX9_judgeSteps_378 (by decide) ?_
                                                          refine m_irem C dX9_judgeSteps_379 (by decide) ?_
                                                          have t515 : (x508 - x508 / (2 : Int32) * (2 : Int32)).toInt = x508.toInt % 2 := i_rem rfl (by omega) (by decide) (by decide)
                                                          refine m_if_ne C 430 dX9_judgeSteps_380 (by decide) (fun h516 => ?_) (fun h516 => ?_)
                                                          · skip
                                                            have th516 := i_ne h516
                                                            rw [show (0 : Int32).toInt = 0 by decide] at th516
                                                            refine m_iload C dX9_judgeSteps_430 7 rfl ?_
                                                            refine m_iconst C (2 : Int32) dX9_judgeSteps_432 (by decide) ?_
                                                            refine m_idiv C dX9_judgeSteps_433 (by decide) ?_
                                                            refine m_name (fun x517 ex517 => ?_)
                                                            have t518 : (x508 / (2 : Int32)).toInt = x508.toInt / 2 := i_div rfl (by omega) (by decide) (by decide)
                                                            have t519 : x517.toInt = (x508.toInt / 2) := (congrArg Int32.toInt ex517).trans t518
                                                            refine m_istore C [(7, .int x517), (0, .ref (aL X 34)), (1, .int m0), (2, .int n0), (3, .int o), (4, .int q), (5, .int (1 : Int32)), (6, .int x328), (8, .int x509), (9, .int x357)] dX9_judgeSteps_434 (by decide) rfl ?_
                                                            refine m_iload C dX9_judgeSteps_436 8 rfl ?_
                                                            refine m_iconst C (2 : Int32) dX9_judgeSteps_438 (by decide) ?_
                                                            refine m_idiv C dX9_judgeSteps_439 (by decide) ?_
                                                            refine m_name (fun x520 ex520 => ?_)
                                                            have t521 : (x509 / (2 : Int32)).toInt = x509.toInt / 2 := i_div rfl (by omega) (by decide) (by decide)
                                                            have t522 : x520.toInt = (x509.toInt / 2) := (congrArg Int32.toInt ex520).trans t521
                                                            refine m_istore C [(8, .int x520), (7, .int x517), (0, .ref (aL X 34)), (1, .int m0), (2, .int n0), (3, .int o), (4, .int q), (5, .int (1 : Int32)), (6, .int x328), (9, .int x357)] dX9_judgeSteps_440 (by decide) rfl ?_
                                                            obtain ⟨x523, ex523⟩ : ∃ z : Int32, z = x357 + Int32.ofInt 1 := ⟨_, rfl⟩
                                                            have t524 : (x357 + (Int32.ofInt 1)).toInt = x357.toInt + (1 : Int) := i_add rfl (by decide) (by omega) (by omega)
                                                            have t525 : x523.toInt = (x357.toInt + (1 : Int)) := (congrArg Int32.toInt ex523).trans t524
                                                            refine m_iinc C x523 [(9, .int x523), (8, .int x520), (7, .int x517), (0, .ref (aL X 34)), (1, .int m0), (2, .int n0), (3, .int o), (4, .int q), (5, .int (1 : Int32)), (6, .int x328)] dX9_judgeSteps_442 (q := 9) rfl ex523.symm (by decide) rfl ?_
                                                            refine m_goto C 293 dX9_judgeSteps_445 (by decide) ?_
                                                            refine m_lv [3, 4, 5, 6, 7, 8, 9, 2, 1, 0] rfl ?_
                                                            exact ih293 x517 x520 x523 g510 (by omega) hI511 hK512 (by omega) (by omega) (by omega)
                                                          · skip
                                                            have th516 := i_eq h516
                                                            rw [show (0 : Int32).toInt = 0 by decide] at th516
                                                            refine m_iload C dX9_judgeSteps_383 7 rfl ?_
                                                            refine m_if_eq C 430 dX9_judgeSteps_385 (by decide) (fun h526 => ?_) (fun h526 => ?_)
                                                            · skip
                                                              have th526 := i_eq h526
                                                              rw [show (0 : Int32).toInt = 0 by decide] at th526
                                                              refine m_iload C dX9_judgeSteps_430 7 rfl ?_
                                                              refine m_iconst C (2 : Int32) dX9_judgeSteps_432 (by decide) ?_
                                                              refine m_idiv C dX9_judgeSteps_433 (by decide) ?_
                                                              refine m_name (fun x527 ex527 => ?_)
                                                              have t528 : (x508 / (2 : Int32)).toInt = x508.toInt / 2 := i_div rfl (by omega) (by decide) (by decide)
                                                              have t529 : x527.toInt = (x508.toInt / 2) := (congrArg Int32.toInt ex527).trans t528
                                                              refine m_istore C [(7, .int x527), (0, .ref (aL X 34)), (1, .int m0), (2, .int n0), (3, .int o), (4, .int q), (5, .int (1 : Int32)), (6, .int x328), (8, .int x509), (9, .int x357)] dX9_judgeSteps_434 (by decide) rfl ?_
                                                              refine m_iload C dX9_judgeSteps_436 8 rfl ?_
                                                              refine m_iconst C (2 : Int32) dX9_judgeSteps_438 (by decide) ?_
                                                              refine m_idiv C dX9_judgeSteps_439 (by decide) ?_
                                                              refine m_name (fun x530 ex530 => ?_)
                                                              have t531 : (x509 / (2 : Int32)).toInt = x509.toInt / 2 := i_div rfl (by omega) (by decide) (by decide)
                                                              have t532 : x530.toInt = (x509.toInt / 2) := (congrArg Int32.toInt ex530).trans t531
                                                              refine m_istore C [(8, .int x530), (7, .int x527), (0, .ref (aL X 34)), (1, .int m0), (2, .int n0), (3, .int o), (4, .int q), (5, .int (1 : Int32)), (6, .int x328), (9, .int x357)] dX9_judgeSteps_440 (by decide) rfl ?_
                                                              obtain ⟨x533, ex533⟩ : ∃ z : Int32, z = x357 + Int32.ofInt 1 := ⟨_, rfl⟩
                                                              have t534 : (x357 + (Int32.ofInt 1)).toInt = x357.toInt + (1 : Int) := i_add rfl (by decide) (by omega) (by omega)
                                                              have t535 : x533.toInt = (x357.toInt + (1 : Int)) := (congrArg Int32.toInt ex533).trans t534
                                                              refine m_iinc C x533 [(9, .int x533), (8, .int x530), (7, .int x527), (0, .ref (aL X 34)), (1, .int m0), (2, .int n0), (3, .int o), (4, .int q), (5, .int (1 : Int32)), (6, .int x328)] dX9_judgeSteps_442 (q := 9) rfl ex533.symm (by decide) rfl ?_
                                                              refine m_goto C 293 dX9_judgeSteps_445 (by decide) ?_
                                                              refine m_lv [3, 4, 5, 6, 7, 8, 9, 2, 1, 0] rfl ?_
                                                              exact ih293 x527 x530 x533 g510 (by omega) hI511 hK512 (by omega) (by omega) (by omega)
                                                            · skip
                                                              have th526 := i_ne h526
                                                              rw [show (0 : Int32).toInt = 0 by decide] at th526
                                                              refine m_iload C dX9_judgeSteps_388 7 rfl ?_
                                                              refine m_iconst C (2 : Int32) dX9_judgeSteps_390 (by decide) ?_
                                                              refine m_idiv C dX9_judgeSteps_391 (by decide) ?_
                                                              refine m_name (fun x536 ex536 => ?_)
                                                              have t537 : (x508 / (2 : Int32)).toInt = x508.toInt / 2 := i_div rfl (by omega) (by decide) (by decide)
                                                              have t538 : x536.toInt = (x508.toInt / 2) := (congrArg Int32.toInt ex536).trans t537
                                                              refine m_istore C [(7, .int x536), (0, .ref (aL X 34)), (1, .int m0), (2, .int n0), (3, .int o), (4, .int q), (5, .int (1 : Int32)), (6, .int x328), (8, .int x509), (9, .int x357)] dX9_judgeSteps_392 (by decide) rfl ?_
                                                              refine m_iload C dX9_judgeSteps_394 8 rfl ?_
                                                              refine m_iconst C (2 : Int32) dX9_judgeSteps_396 (by decide) ?_
                                                              refine m_idiv C dX9_judgeSteps_397 (by decide) ?_
                                                              refine m_name (fun x539 ex539 => ?_)
                                                              have t540 : (x509 / (2 : Int32)).toInt = x509.toInt / 2 := i_div rfl (by omega) (by decide) (by decide)
                                                              have t541 : x539.toInt = (x509.toInt / 2) := (congrArg Int32.toInt ex539).trans t540
                                                              refine m_istore C [(8, .int x539), (7, .int x536), (0, .ref (aL X 34)), (1, .int m0), (2, .int n0), (3, .int o), (4, .int q), (5, .int (1 : Int32)), (6, .int x328), (9, .int x357)] dX9_judgeSteps_398 (by decide) rfl ?_
                                                              refine m_goto C 376 dX9_judgeSteps_400 (by decide) ?_
                                                              refine m_lv [2, 3, 4, 5, 6, 7, 8, 1, 0, 9] rfl ?_
                                                              exact ih376 x536 x539 g510 (by omega) hI511 hK512 (by omega) (by omega)
                                                      refine m_lv [0, 1, 2, 3, 4, 5, 6, 7, 8, 9] rfl ?_
                                                      exact L376 (((x355.toInt).toNat) + 1) x355 x356 g503 (Nat.lt_succ_self _) hI505 hK507 (by omega) (by omega)
                                                · skip
                                                  have th386 := i_eq h386
                                                  rw [show (0 : Int32).toInt = 0 by decide] at th386
                                                  refine m_iconst C (0 : Int32) dX9_judgeSteps_305 (by decide) ?_
                                                  exact m_iret C dX9_judgeSteps_306 ⟨_, rfl, hI359, hK360⟩
                                          have t542 : (1 : Int32).toInt = 1 := by decide
                                          refine m_lv [1, 2, 3, 4, 5, 6, 7, 8, 9, 0] rfl ?_
                                          exact L293 (((10 - (1 : Int32).toInt).toNat) + 1) x338 x339 (1 : Int32) g349 (Nat.lt_succ_self _) hI350 hK351 (by omega) (by omega) (by omega)
                                        · skip
                                          have th353 := i_nle h353
                                          rw [show (32 : Int32).toInt = 32 by decide] at th353
                                          refine m_aload_n C dX9_judgeSteps_256 0 rfl ?_
                                          refine m_getr (rf := "") C 31 rfl gd9 (by decide) sh_34 rfl dX9_judgeSteps_257 lk_X9_77 ?_
                                          refine m_iload C dX9_judgeSteps_260 9 rfl ?_
                                          refine m_aload_n C dX9_judgeSteps_262 0 rfl ?_
                                          refine m_getr (rf := "") C 33 rfl gd9 (by decide) sh_34 rfl dX9_judgeSteps_263 lk_X9_83 ?_
                                          refine m_iload C dX9_judgeSteps_266 9 rfl ?_
                                          refine m_iald C sh_59 (i_in (by omega) (by omega)) dX9_judgeSteps_268 ?_
                                          refine m_iast C sh_57 (i_in (by omega) (by omega)) dX9_judgeSteps_269 ?_
                                          refine m_mem (fun g543 eg543 => ?_)
                                          have hI544 : Inv g543 := by rw [eg543]; exact hI350.up (ok_any (by decide))
                                          have hK545 : Kq [36, 37, 38, 39, 57, 58, 59] [4] g g543 := by rw [eg543]; exact Kq.upA hK351 (by decide) (by decide)
                                          refine m_aload_n C dX9_judgeSteps_270 0 rfl ?_
                                          refine m_getr (rf := "") C 32 rfl gd9 (by decide) sh_34 rfl dX9_judgeSteps_271 lk_X9_80 ?_
                                          refine m_iload C dX9_judgeSteps_274 9 rfl ?_
                                          refine m_aload_n C dX9_judgeSteps_276 0 rfl ?_
                                          refine m_getr (rf := "") C 33 rfl gd9 (by decide) sh_34 rfl dX9_judgeSteps_277 lk_X9_83 ?_
                                          refine m_iload C dX9_judgeSteps_280 9 rfl ?_
                                          refine m_iald C sh_59 (i_in (by omega) (by omega)) dX9_judgeSteps_282 ?_
                                          refine m_iast C sh_58 (i_in (by omega) (by omega)) dX9_judgeSteps_283 ?_
                                          refine m_mem (fun g546 eg546 => ?_)
                                          have hI547 : Inv g546 := by rw [eg546]; exact hI544.up (ok_any (by decide))
                                          have hK548 : Kq [36, 37, 38, 39, 57, 58, 59] [4] g g546 := by rw [eg546]; exact Kq.upA hK545 (by decide) (by decide)
                                          obtain ⟨x549, ex549⟩ : ∃ z : Int32, z = x348 + Int32.ofInt 1 := ⟨_, rfl⟩
                                          have t550 : (x348 + (Int32.ofInt 1)).toInt = x348.toInt + (1 : Int) := i_add rfl (by decide) (by omega) (by omega)
                                          have t551 : x549.toInt = (x348.toInt + (1 : Int)) := (congrArg Int32.toInt ex549).trans t550
                                          refine m_iinc C x549 [(9, .int x549), (0, .ref (aL X 34)), (1, .int m0), (2, .int n0), (3, .int o), (4, .int q), (5, .int (1 : Int32)), (6, .int x328), (7, .int x338), (8, .int x339)] dX9_judgeSteps_284 (q := 9) rfl ex549.symm (by decide) rfl ?_
                                          refine m_goto C 249 dX9_judgeSteps_287 (by decide) ?_
                                          refine m_lv [1, 2, 3, 4, 5, 6, 7, 8, 9, 0] rfl ?_
                                          exact ih249 x549 g546 (by omega) hI547 hK548 (by omega)
                                    have t552 : (0 : Int32).toInt = 0 := by decide
                                    refine m_lv [1, 2, 3, 4, 5, 6, 7, 8, 9, 0] rfl ?_
                                    exact L249 (((33 - (0 : Int32).toInt).toNat) + 1) (0 : Int32) g340 (Nat.lt_succ_self _) hI341 hK342 (by omega)
                                  · skip
                                    have th346 := i_eq h346
                                    rw [show (1 : Int32).toInt = 1 by decide] at th346
                                    refine m_iload C dX9_judgeSteps_231 7 rfl ?_
                                    refine m_iconst C (2 : Int32) dX9_judgeSteps_233 (by decide) ?_
                                    refine m_idiv C dX9_judgeSteps_234 (by decide) ?_
                                    refine m_name (fun x553 ex553 => ?_)
                                    have t554 : (x338 / (2 : Int32)).toInt = x338.toInt / 2 := i_div rfl (by omega) (by decide) (by decide)
                                    have t555 : x553.toInt = (x338.toInt / 2) := (congrArg Int32.toInt ex553).trans t554
                                    refine m_istore C [(7, .int x553), (0, .ref (aL X 34)), (1, .int m0), (2, .int n0), (3, .int o), (4, .int q), (5, .int (1 : Int32)), (6, .int x328), (8, .int x339)] dX9_judgeSteps_235 (by decide) rfl ?_
                                    refine m_iload C dX9_judgeSteps_237 8 rfl ?_
                                    refine m_iconst C (2 : Int32) dX9_judgeSteps_239 (by decide) ?_
                                    refine m_idiv C dX9_judgeSteps_240 (by decide) ?_
                                    refine m_name (fun x556 ex556 => ?_)
                                    have t557 : (x339 / (2 : Int32)).toInt = x339.toInt / 2 := i_div rfl (by omega) (by decide) (by decide)
                                    have t558 : x556.toInt = (x339.toInt / 2) := (congrArg Int32.toInt ex556).trans t557
                                    refine m_istore C [(8, .int x556), (7, .int x553), (0, .ref (aL X 34)), (1, .int m0), (2, .int n0), (3, .int o), (4, .int q), (5, .int (1 : Int32)), (6, .int x328)] dX9_judgeSteps_241 (by decide) rfl ?_
                                    refine m_goto C 223 dX9_judgeSteps_243 (by decide) ?_
                                    refine m_lv [2, 3, 4, 5, 6, 7, 8, 1, 0] rfl ?_
                                    exact ih223 x553 x556 g340 (by omega) hI341 hK342 (by omega) (by omega)
                              refine m_lv [3, 4, 5, 6, 7, 8, 2, 1, 0] rfl ?_
                              exact L223 (((x332.toInt).toNat) + 1) x332 x335 g318 (Nat.lt_succ_self _) hI319 hK320 (by omega) (by omega)
                            · skip
                              have th331 := i_eq h331
                              rw [show (0 : Int32).toInt = 0 by decide] at th331
                              refine m_iconst C (0 : Int32) dX9_judgeSteps_211 (by decide) ?_
                              exact m_iret C dX9_judgeSteps_212 ⟨_, rfl, hI319, hK320⟩
                          · skip
                            have th325 := i_nle h325
                            refine m_aload_n C dX9_judgeSteps_171 0 rfl ?_
                            refine m_getr (rf := "") C 33 rfl gd9 (by decide) sh_34 rfl dX9_judgeSteps_172 lk_X9_83 ?_
                            refine m_bipush C (32 : Int32) dX9_judgeSteps_175 (by decide) ?_
                            refine m_iload C dX9_judgeSteps_177 5 rfl ?_
                            refine m_imul C dX9_judgeSteps_179 ?_
                            refine m_iload C dX9_judgeSteps_180 6 rfl ?_
                            refine m_iadd C dX9_judgeSteps_182 ?_
                            refine m_aload_n C dX9_judgeSteps_183 0 rfl ?_
                            refine m_getr (rf := "") C 27 rfl gd9 (by decide) sh_34 rfl dX9_judgeSteps_184 lk_X9_65 ?_
                            refine m_iload C dX9_judgeSteps_187 6 rfl ?_
                            refine m_iald C sh_53 (i_in (by omega) (by omega)) dX9_judgeSteps_189 ?_
                            have t559 : ((32 : Int32) * (1 : Int32)).toInt = (32 : Int) * (1 : Int) := i_mul (by decide) (by decide) (by omega) (by omega)
                            have t560 : (((32 : Int32) * (1 : Int32)) + x317).toInt = ((32 : Int) * (1 : Int)) + x317.toInt := i_add t559 rfl (by omega) (by omega)
                            refine m_iast C sh_59 (i_in (by omega) (by omega)) dX9_judgeSteps_190 ?_
                            refine m_mem (fun g561 eg561 => ?_)
                            have hI562 : Inv g561 := by rw [eg561]; exact hI319.up (ok_any (by decide))
                            have hK563 : Kq [36, 37, 38, 39, 57, 58, 59] [4] g g561 := by rw [eg561]; exact Kq.upA hK320 (by decide) (by decide)
                            have ev564 : g561 34 26 = g318 34 26 := by rw [eg561]; exact up2_nei (Or.inl (by decide))
                            have tev564 := congrArg Int32.toInt ev564
                            obtain ⟨x565, ex565⟩ : ∃ z : Int32, z = x317 + Int32.ofInt 1 := ⟨_, rfl⟩
                            have t566 : (x317 + (Int32.ofInt 1)).toInt = x317.toInt + (1 : Int) := i_add rfl (by decide) (by omega) (by omega)
                            have t567 : x565.toInt = (x317.toInt + (1 : Int)) := (congrArg Int32.toInt ex565).trans t566
                            refine m_iinc C x565 [(6, .int x565), (0, .ref (aL X 34)), (1, .int m0), (2, .int n0), (3, .int o), (4, .int q), (5, .int (1 : Int32))] dX9_judgeSteps_191 (q := 6) rfl ex565.symm (by decide) rfl ?_
                            refine m_goto C 159 dX9_judgeSteps_194 (by decide) ?_
                            refine m_lv [1, 2, 3, 4, 5, 6, 0] rfl ?_
                            exact ih159 x565 g561 (by omega) hI562 hK563 (by omega)
                      have t568 : (0 : Int32).toInt = 0 := by decide
                      refine m_lv [1, 2, 3, 4, 5, 6, 0] rfl ?_
                      exact L159 (((257 - (0 : Int32).toInt).toNat) + 1) (0 : Int32) g311 (Nat.lt_succ_self _) hI312 hK313 (by omega)
                    · skip
                      have th315 := i_nle h315
                      rw [show (32 : Int32).toInt = 32 by decide] at th315
                      refine m_aload_n C dX9_judgeSteps_131 0 rfl ?_
                      refine m_getr (rf := "") C 33 rfl gd9 (by decide) sh_34 rfl dX9_judgeSteps_132 lk_X9_83 ?_
                      refine m_iload C dX9_judgeSteps_135 6 rfl ?_
                      refine m_aload_n C dX9_judgeSteps_137 0 rfl ?_
                      refine m_getr (rf := "") C 30 rfl gd9 (by decide) sh_34 rfl dX9_judgeSteps_138 lk_X9_74 ?_
                      refine m_bipush C (32 : Int32) dX9_judgeSteps_141 (by decide) ?_
                      refine m_iload_n C dX9_judgeSteps_143 3 rfl ?_
                      refine m_imul C dX9_judgeSteps_144 ?_
                      refine m_iload C dX9_judgeSteps_145 6 rfl ?_
                      refine m_iadd C dX9_judgeSteps_147 ?_
                      have t569 : ((32 : Int32) * o).toInt = (32 : Int) * o.toInt := i_mul (by decide) rfl (by omega) (by omega)
                      have t570 : (((32 : Int32) * o) + x310).toInt = ((32 : Int) * o.toInt) + x310.toInt := i_add t569 rfl (by omega) (by omega)
                      refine m_iald C sh_56 (i_in (by omega) (by omega)) dX9_judgeSteps_148 ?_
                      refine m_iast C sh_59 (i_in (by omega) (by omega)) dX9_judgeSteps_149 ?_
                      refine m_mem (fun g571 eg571 => ?_)
                      have hI572 : Inv g571 := by rw [eg571]; exact hI312.up (ok_any (by decide))
                      have hK573 : Kq [36, 37, 38, 39, 57, 58, 59] [4] g g571 := by rw [eg571]; exact Kq.upA hK313 (by decide) (by decide)
                      obtain ⟨x574, ex574⟩ : ∃ z : Int32, z = x310 + Int32.ofInt 1 := ⟨_, rfl⟩
                      have t575 : (x310 + (Int32.ofInt 1)).toInt = x310.toInt + (1 : Int) := i_add rfl (by decide) (by omega) (by omega)
                      have t576 : x574.toInt = (x310.toInt + (1 : Int)) := (congrArg Int32.toInt ex574).trans t575
                      refine m_iinc C x574 [(6, .int x574), (0, .ref (aL X 34)), (1, .int m0), (2, .int n0), (3, .int o), (4, .int q), (5, .int (1 : Int32))] dX9_judgeSteps_150 (q := 6) rfl ex574.symm (by decide) rfl ?_
                      refine m_goto C 124 dX9_judgeSteps_153 (by decide) ?_
                      refine m_lv [1, 2, 3, 4, 5, 6, 0] rfl ?_
                      exact ih124 x574 g571 (by omega) hI572 hK573 (by omega)
                have t577 : (0 : Int32).toInt = 0 := by decide
                refine m_lv [2, 3, 4, 5, 6, 1, 0] rfl ?_
                exact L124 (((33 - (0 : Int32).toInt).toNat) + 1) (0 : Int32) g (Nat.lt_succ_self _) hI Kq.rf (by omega)
            · skip
              have th36 := i_eq h36
              refine m_aload_n C dX9_judgeSteps_70 0 rfl ?_
              refine m_geti (rf := "") C 26 rfl gd9 (by decide) sh_34 rfl dX9_judgeSteps_71 lk_X9_281 ?_
              have r578 := iv_pmany hI
              refine m_if_ne C 104 dX9_judgeSteps_74 (by decide) (fun h579 => ?_) (fun h579 => ?_)
              · skip
                have th579 := i_ne h579
                rw [show (0 : Int32).toInt = 0 by decide] at th579
                refine m_iconst C (0 : Int32) dX9_judgeSteps_104 (by decide) ?_
                exact m_iret C dX9_judgeSteps_105 ⟨_, rfl, hI, Kq.rf⟩
              · skip
                have th579 := i_eq h579
                rw [show (0 : Int32).toInt = 0 by decide] at th579
                refine m_aload_n C dX9_judgeSteps_77 0 rfl ?_
                refine m_getr (rf := "") C 30 rfl gd9 (by decide) sh_34 rfl dX9_judgeSteps_78 lk_X9_74 ?_
                refine m_bipush C (32 : Int32) dX9_judgeSteps_81 (by decide) ?_
                refine m_iload_n C dX9_judgeSteps_83 3 rfl ?_
                refine m_imul C dX9_judgeSteps_84 ?_
                refine m_aload_n C dX9_judgeSteps_85 0 rfl ?_
                refine m_getr (rf := "") C 30 rfl gd9 (by decide) sh_34 rfl dX9_judgeSteps_86 lk_X9_74 ?_
                refine m_bipush C (32 : Int32) dX9_judgeSteps_89 (by decide) ?_
                refine m_iload C dX9_judgeSteps_91 4 rfl ?_
                refine m_imul C dX9_judgeSteps_93 ?_
                have t580 : ((32 : Int32) * o).toInt = (32 : Int) * o.toInt := i_mul (by decide) rfl (by omega) (by omega)
                have t581 : ((32 : Int32) * q).toInt = (32 : Int) * q.toInt := i_mul (by decide) rfl (by omega) (by omega)
                refine m_invS C cal_X9_isLike (c_X9_isLike_56_56 l hX g ((32 : Int32) * o) ((32 : Int32) * q) hI (by omega) (by omega)) lk_X9_295 st_X9_isLike (by decide) rfl rfl (Nat.le_of_ble_eq_true rfl) dX9_judgeSteps_94 ⟨Nat.le_refl _, Nat.le_refl _⟩ (rI fun r582 g583 q584 => ?_)
                obtain ⟨hI585, hK586, p587⟩ := q584
                have ev588 : g583 34 26 = g 34 26 := hK586.2 26 (by decide)
                have tev588 := congrArg Int32.toInt ev588
                have hK589 : Kq [36, 37, 38, 39, 57, 58, 59] [4] g g583 := (Kq.rf).tr hK586 (by decide) (by decide)
                refine m_if_eq C 104 dX9_judgeSteps_97 (by decide) (fun h590 => ?_) (fun h590 => ?_)
                · skip
                  have th590 := i_eq h590
                  rw [show (0 : Int32).toInt = 0 by decide] at th590
                  refine m_iconst C (0 : Int32) dX9_judgeSteps_104 (by decide) ?_
                  exact m_iret C dX9_judgeSteps_105 ⟨_, rfl, hI585, hK589⟩
                · skip
                  have th590 := i_ne h590
                  rw [show (0 : Int32).toInt = 0 by decide] at th590
                  refine m_iconst C (1 : Int32) dX9_judgeSteps_100 (by decide) ?_
                  refine m_goto C 105 dX9_judgeSteps_101 (by decide) ?_
                  exact m_iret C dX9_judgeSteps_105 ⟨_, rfl, hI585, hK589⟩
          · skip
            subst g33
            refine m_if_ne C 65 dX9_judgeSteps_60 (by decide) (fun h => absurd (by decide) h) (fun _ => ?_)
            refine m_iconst C (0 : Int32) dX9_judgeSteps_63 (by decide) ?_
            exact m_iret C dX9_judgeSteps_64 ⟨_, rfl, hI, Kq.rf⟩
        · skip
          subst g26
          refine m_if_ne C 52 dX9_judgeSteps_46 (by decide) (fun h => absurd (by decide) h) (fun _ => ?_)
          refine m_bipush C (-2 : Int32) dX9_judgeSteps_49 (by decide) ?_
          exact m_iret C dX9_judgeSteps_51 ⟨_, rfl, hI, Kq.rf⟩
      · skip
        subst g19
        refine m_if_eq C 49 dX9_judgeSteps_33 (by decide) (fun _ => ?_) (fun h => absurd (by decide) h)
        refine m_bipush C (-2 : Int32) dX9_judgeSteps_49 (by decide) ?_
        exact m_iret C dX9_judgeSteps_51 ⟨_, rfl, hI, Kq.rf⟩
    · skip
      subst g12
      refine m_if_eq C 49 dX9_judgeSteps_21 (by decide) (fun _ => ?_) (fun h => absurd (by decide) h)
      refine m_bipush C (-2 : Int32) dX9_judgeSteps_49 (by decide) ?_
      exact m_iret C dX9_judgeSteps_51 ⟨_, rfl, hI, Kq.rf⟩
  · skip
    subst g5
    refine m_if_eq C 49 dX9_judgeSteps_9 (by decide) (fun _ => ?_) (fun h => absurd (by decide) h)
    refine m_bipush C (-2 : Int32) dX9_judgeSteps_49 (by decide) ?_
    exact m_iret C dX9_judgeSteps_51 ⟨_, rfl, hI, Kq.rf⟩
