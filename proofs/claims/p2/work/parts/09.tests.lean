set_option maxRecDepth 20000 in
set_option maxHeartbeats 4000000 in
theorem c_X8_within (l : Launch) {X : XT} (hX : Lok X) (g : Mem) (v : Int32) (a : Int32) (b : Int32)  : Ctr l X yX8_within cX8_within 3 (some .boolean) (rmD 0) [.int v, .int a, .int b] g (pI (fun r g2 => g2 = g ∧ (r = 1 ∧ (a.toInt ≤ v.toInt ∧ v.toInt ≤ b.toInt) ∨ r = 0 ∧ ¬ (a.toInt ≤ v.toInt ∧ v.toInt ≤ b.toInt)))) := by
  refine Ctr.of (lv := [(0, .int v), (1, .int a), (2, .int b)]) hX (by decide) rfl (Nat.le_of_ble_eq_true rfl) ?_
  intro p e s m below meth c C
  refine m_iload_n C dX8_within_0 0 rfl ?_
  refine m_iload_n C dX8_within_1 1 rfl ?_
  refine m_icmp_lt C 14 dX8_within_2 (by decide) (fun h1 => ?_) (fun h1 => ?_)
  · skip
    have th1 := i_lt h1
    refine m_iconst C 0 dX8_within_14 (by decide) ?_
    exact m_zret C dX8_within_15 (by decide) ⟨_, rfl, rfl, Or.inr ⟨rfl, by omega⟩⟩
  · skip
    have th1 := i_nlt h1
    refine m_iload_n C dX8_within_5 0 rfl ?_
    refine m_iload_n C dX8_within_6 2 rfl ?_
    refine m_icmp_gt C 14 dX8_within_7 (by decide) (fun h2 => ?_) (fun h2 => ?_)
    · skip
      have th2 := i_lt h2
      refine m_iconst C 0 dX8_within_14 (by decide) ?_
      exact m_zret C dX8_within_15 (by decide) ⟨_, rfl, rfl, Or.inr ⟨rfl, by omega⟩⟩
    · skip
      have th2 := i_nlt h2
      refine m_iconst C 1 dX8_within_10 (by decide) ?_
      refine m_goto C 15 dX8_within_11 (by decide) ?_
      exact m_zret C dX8_within_15 (by decide) ⟨_, rfl, rfl, Or.inl ⟨rfl, by omega⟩⟩
set_option maxRecDepth 20000 in
set_option maxHeartbeats 4000000 in
theorem c_X8_isSubject (l : Launch) {X : XT} (hX : Lok X) (g : Mem) (v : Int32)  : Ctr l X yX8_isSubject cX8_isSubject 1 (some .boolean) (rmD 1) [.int v] g (pI (fun r g2 => g2 = g ∧ (r = 1 ∧ (0 ≤ v.toInt ∧ v.toInt ≤ 11) ∨ r = 0 ∧ ¬ (0 ≤ v.toInt ∧ v.toInt ≤ 11)))) := by
  refine Ctr.of (lv := [(0, .int v)]) hX (by decide) rfl (Nat.le_of_ble_eq_true rfl) ?_
  intro p e s m below meth c C
  refine m_iload_n C dX8_isSubject_0 0 rfl ?_
  refine m_iconst C 0 dX8_isSubject_1 (by decide) ?_
  refine m_bipush C 11 dX8_isSubject_2 (by decide) ?_
  have t1 : (0 : Int32).toInt = 0 := by decide
  have t2 : (11 : Int32).toInt = 11 := by decide
  refine m_invS C cal_X8_within (c_X8_within l hX g v 0 11 ) lk_X8_87 st_X8_within (by decide) rfl rfl (Nat.le_of_ble_eq_true rfl) dX8_isSubject_4 ⟨Nat.le_refl _, Nat.le_refl _⟩ (rI fun r3 g4 q5 => ?_)
  obtain ⟨eg4, ⟨rfl, h6⟩ | ⟨rfl, h6⟩⟩ := q5
  · skip
    subst g4
    exact m_zret C dX8_isSubject_7 (by decide) ⟨_, rfl, rfl, Or.inl ⟨rfl, by omega⟩⟩
  · skip
    subst g4
    exact m_zret C dX8_isSubject_7 (by decide) ⟨_, rfl, rfl, Or.inr ⟨rfl, by omega⟩⟩
set_option maxRecDepth 20000 in
set_option maxHeartbeats 4000000 in
theorem c_X8_isObject (l : Launch) {X : XT} (hX : Lok X) (g : Mem) (v : Int32)  : Ctr l X yX8_isObject cX8_isObject 1 (some .boolean) (rmD 1) [.int v] g (pI (fun r g2 => g2 = g ∧ (r = 1 ∧ (0 ≤ v.toInt ∧ v.toInt ≤ 15) ∨ r = 0 ∧ ¬ (0 ≤ v.toInt ∧ v.toInt ≤ 15)))) := by
  refine Ctr.of (lv := [(0, .int v)]) hX (by decide) rfl (Nat.le_of_ble_eq_true rfl) ?_
  intro p e s m below meth c C
  refine m_iload_n C dX8_isObject_0 0 rfl ?_
  refine m_iconst C 0 dX8_isObject_1 (by decide) ?_
  refine m_bipush C 15 dX8_isObject_2 (by decide) ?_
  have t1 : (0 : Int32).toInt = 0 := by decide
  have t2 : (15 : Int32).toInt = 15 := by decide
  refine m_invS C cal_X8_within (c_X8_within l hX g v 0 15 ) lk_X8_87 st_X8_within (by decide) rfl rfl (Nat.le_of_ble_eq_true rfl) dX8_isObject_4 ⟨Nat.le_refl _, Nat.le_refl _⟩ (rI fun r3 g4 q5 => ?_)
  obtain ⟨eg4, ⟨rfl, h6⟩ | ⟨rfl, h6⟩⟩ := q5
  · skip
    subst g4
    exact m_zret C dX8_isObject_7 (by decide) ⟨_, rfl, rfl, Or.inl ⟨rfl, by omega⟩⟩
  · skip
    subst g4
    exact m_zret C dX8_isObject_7 (by decide) ⟨_, rfl, rfl, Or.inr ⟨rfl, by omega⟩⟩
set_option maxRecDepth 20000 in
set_option maxHeartbeats 4000000 in
theorem c_X8_isRight (l : Launch) {X : XT} (hX : Lok X) (g : Mem) (v : Int32)  : Ctr l X yX8_isRight cX8_isRight 1 (some .boolean) (rmD 1) [.int v] g (pI (fun r g2 => g2 = g ∧ (r = 1 ∧ (0 ≤ v.toInt ∧ v.toInt ≤ 3) ∨ r = 0 ∧ ¬ (0 ≤ v.toInt ∧ v.toInt ≤ 3)))) := by
  refine Ctr.of (lv := [(0, .int v)]) hX (by decide) rfl (Nat.le_of_ble_eq_true rfl) ?_
  intro p e s m below meth c C
  refine m_iload_n C dX8_isRight_0 0 rfl ?_
  refine m_iconst C 0 dX8_isRight_1 (by decide) ?_
  refine m_iconst C 3 dX8_isRight_2 (by decide) ?_
  have t1 : (0 : Int32).toInt = 0 := by decide
  have t2 : (3 : Int32).toInt = 3 := by decide
  refine m_invS C cal_X8_within (c_X8_within l hX g v 0 3 ) lk_X8_87 st_X8_within (by decide) rfl rfl (Nat.le_of_ble_eq_true rfl) dX8_isRight_3 ⟨Nat.le_refl _, Nat.le_refl _⟩ (rI fun r3 g4 q5 => ?_)
  obtain ⟨eg4, ⟨rfl, h6⟩ | ⟨rfl, h6⟩⟩ := q5
  · skip
    subst g4
    exact m_zret C dX8_isRight_6 (by decide) ⟨_, rfl, rfl, Or.inl ⟨rfl, by omega⟩⟩
  · skip
    subst g4
    exact m_zret C dX8_isRight_6 (by decide) ⟨_, rfl, rfl, Or.inr ⟨rfl, by omega⟩⟩
set_option maxRecDepth 20000 in
set_option maxHeartbeats 4000000 in
theorem c_X8_isLevel (l : Launch) {X : XT} (hX : Lok X) (g : Mem) (v : Int32)  : Ctr l X yX8_isLevel cX8_isLevel 1 (some .boolean) (rmD 1) [.int v] g (pI (fun r g2 => g2 = g ∧ (r = 1 ∧ (0 ≤ v.toInt ∧ v.toInt ≤ 7) ∨ r = 0 ∧ ¬ (0 ≤ v.toInt ∧ v.toInt ≤ 7)))) := by
  refine Ctr.of (lv := [(0, .int v)]) hX (by decide) rfl (Nat.le_of_ble_eq_true rfl) ?_
  intro p e s m below meth c C
  refine m_iload_n C dX8_isLevel_0 0 rfl ?_
  refine m_iconst C 0 dX8_isLevel_1 (by decide) ?_
  refine m_bipush C 7 dX8_isLevel_2 (by decide) ?_
  have t1 : (0 : Int32).toInt = 0 := by decide
  have t2 : (7 : Int32).toInt = 7 := by decide
  refine m_invS C cal_X8_within (c_X8_within l hX g v 0 7 ) lk_X8_87 st_X8_within (by decide) rfl rfl (Nat.le_of_ble_eq_true rfl) dX8_isLevel_4 ⟨Nat.le_refl _, Nat.le_refl _⟩ (rI fun r3 g4 q5 => ?_)
  obtain ⟨eg4, ⟨rfl, h6⟩ | ⟨rfl, h6⟩⟩ := q5
  · skip
    subst g4
    exact m_zret C dX8_isLevel_7 (by decide) ⟨_, rfl, rfl, Or.inl ⟨rfl, by omega⟩⟩
  · skip
    subst g4
    exact m_zret C dX8_isLevel_7 (by decide) ⟨_, rfl, rfl, Or.inr ⟨rfl, by omega⟩⟩
set_option maxRecDepth 20000 in
set_option maxHeartbeats 4000000 in
theorem c_X8_isHashByte (l : Launch) {X : XT} (hX : Lok X) (g : Mem) (v : Int32)  : Ctr l X yX8_isHashByte cX8_isHashByte 1 (some .boolean) (rmD 1) [.int v] g (pI (fun r g2 => g2 = g ∧ (r = 1 ∧ (0 ≤ v.toInt ∧ v.toInt ≤ 31) ∨ r = 0 ∧ ¬ (0 ≤ v.toInt ∧ v.toInt ≤ 31)))) := by
  refine Ctr.of (lv := [(0, .int v)]) hX (by decide) rfl (Nat.le_of_ble_eq_true rfl) ?_
  intro p e s m below meth c C
  refine m_iload_n C dX8_isHashByte_0 0 rfl ?_
  refine m_iconst C 0 dX8_isHashByte_1 (by decide) ?_
  refine m_bipush C 31 dX8_isHashByte_2 (by decide) ?_
  have t1 : (0 : Int32).toInt = 0 := by decide
  have t2 : (31 : Int32).toInt = 31 := by decide
  refine m_invS C cal_X8_within (c_X8_within l hX g v 0 31 ) lk_X8_87 st_X8_within (by decide) rfl rfl (Nat.le_of_ble_eq_true rfl) dX8_isHashByte_4 ⟨Nat.le_refl _, Nat.le_refl _⟩ (rI fun r3 g4 q5 => ?_)
  obtain ⟨eg4, ⟨rfl, h6⟩ | ⟨rfl, h6⟩⟩ := q5
  · skip
    subst g4
    exact m_zret C dX8_isHashByte_7 (by decide) ⟨_, rfl, rfl, Or.inl ⟨rfl, by omega⟩⟩
  · skip
    subst g4
    exact m_zret C dX8_isHashByte_7 (by decide) ⟨_, rfl, rfl, Or.inr ⟨rfl, by omega⟩⟩
set_option maxRecDepth 20000 in
set_option maxHeartbeats 4000000 in
theorem c_X8_isMask (l : Launch) {X : XT} (hX : Lok X) (g : Mem) (v : Int32)  : Ctr l X yX8_isMask cX8_isMask 1 (some .boolean) (rmD 1) [.int v] g (pI (fun r g2 => g2 = g ∧ (r = 1 ∧ (1 ≤ v.toInt ∧ v.toInt ≤ 255) ∨ r = 0 ∧ ¬ (1 ≤ v.toInt ∧ v.toInt ≤ 255)))) := by
  refine Ctr.of (lv := [(0, .int v)]) hX (by decide) rfl (Nat.le_of_ble_eq_true rfl) ?_
  intro p e s m below meth c C
  refine m_iload_n C dX8_isMask_0 0 rfl ?_
  refine m_iconst C 1 dX8_isMask_1 (by decide) ?_
  refine m_sipush C 255 dX8_isMask_2 (by decide) ?_
  have t1 : (1 : Int32).toInt = 1 := by decide
  have t2 : (255 : Int32).toInt = 255 := by decide
  refine m_invS C cal_X8_within (c_X8_within l hX g v 1 255 ) lk_X8_87 st_X8_within (by decide) rfl rfl (Nat.le_of_ble_eq_true rfl) dX8_isMask_5 ⟨Nat.le_refl _, Nat.le_refl _⟩ (rI fun r3 g4 q5 => ?_)
  obtain ⟨eg4, ⟨rfl, h6⟩ | ⟨rfl, h6⟩⟩ := q5
  · skip
    subst g4
    exact m_zret C dX8_isMask_8 (by decide) ⟨_, rfl, rfl, Or.inl ⟨rfl, by omega⟩⟩
  · skip
    subst g4
    exact m_zret C dX8_isMask_8 (by decide) ⟨_, rfl, rfl, Or.inr ⟨rfl, by omega⟩⟩
set_option maxRecDepth 20000 in
set_option maxHeartbeats 4000000 in
theorem c_X8_isKeptRoot (l : Launch) {X : XT} (hX : Lok X) (g : Mem) (v : Int32)  : Ctr l X yX8_isKeptRoot cX8_isKeptRoot 1 (some .boolean) (rmD 1) [.int v] g (pI (fun r g2 => g2 = g ∧ (r = 1 ∧ (0 ≤ v.toInt ∧ v.toInt ≤ 3) ∨ r = 0 ∧ ¬ (0 ≤ v.toInt ∧ v.toInt ≤ 3)))) := by
  refine Ctr.of (lv := [(0, .int v)]) hX (by decide) rfl (Nat.le_of_ble_eq_true rfl) ?_
  intro p e s m below meth c C
  refine m_iload_n C dX8_isKeptRoot_0 0 rfl ?_
  refine m_iconst C 0 dX8_isKeptRoot_1 (by decide) ?_
  refine m_iconst C 3 dX8_isKeptRoot_2 (by decide) ?_
  have t1 : (0 : Int32).toInt = 0 := by decide
  have t2 : (3 : Int32).toInt = 3 := by decide
  refine m_invS C cal_X8_within (c_X8_within l hX g v 0 3 ) lk_X8_87 st_X8_within (by decide) rfl rfl (Nat.le_of_ble_eq_true rfl) dX8_isKeptRoot_3 ⟨Nat.le_refl _, Nat.le_refl _⟩ (rI fun r3 g4 q5 => ?_)
  obtain ⟨eg4, ⟨rfl, h6⟩ | ⟨rfl, h6⟩⟩ := q5
  · skip
    subst g4
    exact m_zret C dX8_isKeptRoot_6 (by decide) ⟨_, rfl, rfl, Or.inl ⟨rfl, by omega⟩⟩
  · skip
    subst g4
    exact m_zret C dX8_isKeptRoot_6 (by decide) ⟨_, rfl, rfl, Or.inr ⟨rfl, by omega⟩⟩
set_option maxRecDepth 20000 in
set_option maxHeartbeats 4000000 in
theorem c_X8_isParty (l : Launch) {X : XT} (hX : Lok X) (g : Mem) (v : Int32)  : Ctr l X yX8_isParty cX8_isParty 1 (some .boolean) (rmD 2) [.int v] g (pI (fun r g2 => g2 = g ∧ (r = 1 ∧ ((0 ≤ v.toInt ∧ v.toInt ≤ 11) ∨ (16 ≤ v.toInt ∧ v.toInt ≤ 19)) ∨ r = 0 ∧ ¬ ((0 ≤ v.toInt ∧ v.toInt ≤ 11) ∨ (16 ≤ v.toInt ∧ v.toInt ≤ 19))))) := by
  refine Ctr.of (lv := [(0, .int v)]) hX (by decide) rfl (Nat.le_of_ble_eq_true rfl) ?_
  intro p e s m below meth c C
  refine m_iload_n C dX8_isParty_0 0 rfl ?_
  refine m_invS C cal_X8_isSubject (c_X8_isSubject l hX g v ) lk_X8_92 st_X8_isSubject (by decide) rfl rfl (Nat.le_of_ble_eq_true rfl) dX8_isParty_1 ⟨Nat.le_refl _, Nat.le_refl _⟩ (rI fun r1 g2 q3 => ?_)
  obtain ⟨eg2, ⟨rfl, h4⟩ | ⟨rfl, h4⟩⟩ := q3
  · skip
    subst g2
    refine m_if_ne C 18 dX8_isParty_4 (by decide) (fun _ => ?_) (fun h => absurd h (by decide))
    refine m_iconst C 1 dX8_isParty_18 (by decide) ?_
    refine m_goto C 23 dX8_isParty_19 (by decide) ?_
    exact m_zret C dX8_isParty_23 (by decide) ⟨_, rfl, rfl, Or.inl ⟨rfl, by omega⟩⟩
  · skip
    subst g2
    refine m_if_ne C 18 dX8_isParty_4 (by decide) (fun h => absurd (by decide) h) (fun _ => ?_)
    refine m_iload_n C dX8_isParty_7 0 rfl ?_
    refine m_bipush C 16 dX8_isParty_8 (by decide) ?_
    refine m_bipush C 19 dX8_isParty_10 (by decide) ?_
    have t5 : (16 : Int32).toInt = 16 := by decide
    have t6 : (19 : Int32).toInt = 19 := by decide
    refine m_invS C cal_X8_within (c_X8_within l hX g v 16 19 ) lk_X8_87 st_X8_within (by decide) rfl rfl (Nat.le_of_ble_eq_true rfl) dX8_isParty_12 ⟨Nat.le_refl _, Nat.le_refl _⟩ (rI fun r7 g8 q9 => ?_)
    obtain ⟨eg8, ⟨rfl, h10⟩ | ⟨rfl, h10⟩⟩ := q9
    · skip
      subst g8
      refine m_if_eq C 22 dX8_isParty_15 (by decide) (fun h => absurd h (by decide)) (fun _ => ?_)
      refine m_iconst C 1 dX8_isParty_18 (by decide) ?_
      refine m_goto C 23 dX8_isParty_19 (by decide) ?_
      exact m_zret C dX8_isParty_23 (by decide) ⟨_, rfl, rfl, Or.inl ⟨rfl, by omega⟩⟩
    · skip
      subst g8
      refine m_if_eq C 22 dX8_isParty_15 (by decide) (fun _ => ?_) (fun h => absurd (by decide) h)
      refine m_iconst C 0 dX8_isParty_22 (by decide) ?_
      exact m_zret C dX8_isParty_23 (by decide) ⟨_, rfl, rfl, Or.inr ⟨rfl, by omega⟩⟩
set_option maxRecDepth 20000 in
set_option maxHeartbeats 4000000 in
theorem c_X0_clearFrom (l : Launch) {X : XT} (hX : Lok X) (g : Mem) (i0 : Int32) (hI : Inv g) (h0 : 0 ≤ i0.toInt) : Ctr l X yX0_clearFrom cX0_clearFrom 3 none (rmD 0) [.ref (aL X 30), .int i0] g (pV (fun g2 => Inv g2 ∧ Kp [31] g g2)) := by
  refine Ctr.of (lv := [(0, .ref (aL X 30)), (1, .int i0)]) hX (by decide) rfl (Nat.le_of_ble_eq_true rfl) ?_
  intro p e s m below meth c C
  refine m_iload_n C dX0_clearFrom_0 1 rfl ?_
  refine m_name (fun x1 ex1 => ?_)
  have t2 : x1.toInt = i0.toInt := (congrArg Int32.toInt ex1).trans rfl
  refine m_istore_n C [(2, .int x1), (0, .ref (aL X 30)), (1, .int i0)] dX0_clearFrom_1 (by decide) rfl ?_
  have L2 : ∀ (n2 : Nat) (x3 : Int32) (g4 : Mem), (1020 - x3.toInt).toNat < n2 → Inv g4 → Kp [31] g g4 → 0 ≤ x3.toInt → Wm X p l e (rmD 0) s m ([.ref (aL X 30), .int i0] : List Value).toArray below meth c 3 0 0 (MQ below (cQ X (pV (fun g2 => Inv g2 ∧ Kp [31] g g2))) ([.ref (aL X 30), .int i0] : List Value).toArray s 0 0 (Ab X)) g4 2 [(0, .ref (aL X 30)), (1, .int i0), (2, .int x3)] [] := by
    intro n2
    induction n2 with
    | zero => intro x3 g4 hm; exact absurd hm (Nat.not_lt_zero _)
    | succ n2 ih2 =>
      intro x3 g4 hm2 hI5 hK6 i7
      try obtain ⟨i7a, i7b⟩ := i7
      refine m_iload_n C dX0_clearFrom_2 2 rfl ?_
      refine m_sipush C 1020 dX0_clearFrom_3 (by decide) ?_
      refine m_icmp_ge C 22 dX0_clearFrom_6 (by decide) (fun h8 => ?_) (fun h8 => ?_)
      · skip
        have th8 := i_le h8
        rw [show (1020 : Int32).toInt = 1020 by decide] at th8
        exact m_vret C dX0_clearFrom_22 ⟨rfl, hI5, hK6⟩
      · skip
        have th8 := i_nle h8
        rw [show (1020 : Int32).toInt = 1020 by decide] at th8
        refine m_aload_n C dX0_clearFrom_9 0 rfl ?_
        refine m_getr (rf := "") C 0 rfl gd0 (by decide) sh_30 rfl dX0_clearFrom_10 lk_X0_9 ?_
        refine m_iload_n C dX0_clearFrom_13 2 rfl ?_
        refine m_iconst C 0 dX0_clearFrom_14 (by decide) ?_
        refine m_iast C sh_31 (i_in (by omega) (by omega)) dX0_clearFrom_15 ?_
        refine m_mem (fun g9 eg9 => ?_)
        have hI10 : Inv g9 := by rw [eg9]; exact hI5.up (ok_any (by decide))
        have hK11 : Kp [31] g g9 := by rw [eg9]; exact Kp.up hK6 (by decide)
        obtain ⟨x12, ex12⟩ : ∃ z : Int32, z = x3 + Int32.ofInt 1 := ⟨_, rfl⟩
        have t13 : (x3 + (Int32.ofInt 1)).toInt = x3.toInt + (1 : Int) := i_add rfl (by decide) (by omega) (by omega)
        have t14 : x12.toInt = (x3.toInt + (1 : Int)) := (congrArg Int32.toInt ex12).trans t13
        refine m_iinc C x12 [(2, .int x12), (0, .ref (aL X 30)), (1, .int i0)] dX0_clearFrom_16 (q := 2) rfl ex12.symm (by decide) rfl ?_
        refine m_goto C 2 dX0_clearFrom_19 (by decide) ?_
        refine m_lv [1, 2, 0] rfl ?_
        exact ih2 x12 g9 (by omega) hI10 hK11 (by omega)
  refine m_lv [1, 2, 0] rfl ?_
  exact L2 (((1020 - x1.toInt).toNat) + 1) x1 g (Nat.lt_succ_self _) hI Kp.rf (by omega)
