set_option maxRecDepth 20000 in
set_option maxHeartbeats 4000000 in
theorem c_X8_within (l : Launch) {X : XT} (hX : Lok X) (g : Mem) (v : Int32) (a : Int32) (b : Int32)  : Ctr l X yX8_within cX8_within 3 (some .boolean) (rmD 0) [.int v, .int a, .int b] g (pI (fun r g2 => g2 = g ∧ (r = 1 ∧ (a.toInt ≤ v.toInt ∧ v.toInt ≤ b.toInt) ∨ r = 0 ∧ ¬ (a.toInt ≤ v.toInt ∧ v.toInt ≤ b.toInt)))) := by
  refine Ctr.of (lv := [(0, .int v), (1, .int a), (2, .int b)]) hX (by decide) rfl (Nat.le_of_ble_eq_true rfl) ?_
  intro p e s m below meth c C
  refine m_iload_n C dX8_within_0 0 rfl ?_
  refine m_iload_n C dX8_within_1 1 rfl ?_
  refine m_icmp_lt C 14 dX8_within_2 (by decide) (fun h1 => ?_) (fun h1 => ?_)
  · skip
    have th1 := i_lt h1
    refine m_iconst C (0 : Int32) dX8_within_14 (by decide) ?_
    exact m_zret C dX8_within_15 (by decide) ⟨_, rfl, rfl, Or.inr ⟨rfl, by omega⟩⟩
  · skip
    have th1 := i_nlt h1
    refine m_iload_n C dX8_within_5 0 rfl ?_
    refine m_iload_n C dX8_within_6 2 rfl ?_
    refine m_icmp_gt C 14 dX8_within_7 (by decide) (fun h2 => ?_) (fun h2 => ?_)
    · skip
      have th2 := i_lt h2
      refine m_iconst C (0 : Int32) dX8_within_14 (by decide) ?_
      exact m_zret C dX8_within_15 (by decide) ⟨_, rfl, rfl, Or.inr ⟨rfl, by omega⟩⟩
    · skip
      have th2 := i_nlt h2
      refine m_iconst C (1 : Int32) dX8_within_10 (by decide) ?_
      refine m_goto C 15 dX8_within_11 (by decide) ?_
      exact m_zret C dX8_within_15 (by decide) ⟨_, rfl, rfl, Or.inl ⟨rfl, by omega⟩⟩
set_option maxRecDepth 20000 in
set_option maxHeartbeats 4000000 in
theorem c_X8_isSubject (l : Launch) {X : XT} (hX : Lok X) (g : Mem) (v : Int32)  : Ctr l X yX8_isSubject cX8_isSubject 1 (some .boolean) (rmD 1) [.int v] g (pI (fun r g2 => g2 = g ∧ (r = 1 ∧ (0 ≤ v.toInt ∧ v.toInt ≤ 11) ∨ r = 0 ∧ ¬ (0 ≤ v.toInt ∧ v.toInt ≤ 11)))) := by
  refine Ctr.of (lv := [(0, .int v)]) hX (by decide) rfl (Nat.le_of_ble_eq_true rfl) ?_
  intro p e s m below meth c C
  refine m_iload_n C dX8_isSubject_0 0 rfl ?_
  refine m_iconst C (0 : Int32) dX8_isSubject_1 (by decide) ?_
  refine m_bipush C (11 : Int32) dX8_isSubject_2 (by decide) ?_
  have t1 : (0 : Int32).toInt = 0 := by decide
  have t2 : (11 : Int32).toInt = 11 := by decide
  refine m_invS C cal_X8_within (c_X8_within l hX g v (0 : Int32) (11 : Int32) ) lk_X8_87 st_X8_within (by decide) rfl rfl (Nat.le_of_ble_eq_true rfl) dX8_isSubject_4 ⟨Nat.le_refl _, Nat.le_refl _⟩ (rI fun r3 g4 q5 => ?_)
  obtain ⟨eg4, ⟨rfl, h6⟩ | ⟨rfl, h6⟩⟩ := q5
  · skip
    subst g4
    exact m_zret C dX8_isSubject_7 (by decide) ⟨_, rfl, rfl, Or.inl ⟨rfl, by omega⟩⟩
  · skip
    subst g4
    exact m_zret C dX8_isSubject_7 (by decide) ⟨_, rfl, rfl, Or.inr ⟨rfl, by omega⟩⟩
set_option maxRecDepth 20000 in
set_option maxHeartbeats 4000000 in
theorem c_X8_isObject (l : Launch) {X : XT} (hX : Lok X) (g : Mem) (v : Int32)  : Ctr l X yX8_isObject cX8_isObject 1 (some .boolean) (rmD 1) [.int v] g (pI (fun r g2 => g2 = g ∧ (r = 1 ∧ (0 ≤ v.toInt ∧ v.toInt ≤ 15) ∨ r = 0 ∧ ¬ (0 ≤ v.toInt ∧ v.toInt ≤ 15)))) := by
  refine Ctr.of (lv := [(0, .int v)]) hX (by decide) rfl (Nat.le_of_ble_eq_true rfl) ?_
  intro p e s m below meth c C
  refine m_iload_n C dX8_isObject_0 0 rfl ?_
  refine m_iconst C (0 : Int32) dX8_isObject_1 (by decide) ?_
  refine m_bipush C (15 : Int32) dX8_isObject_2 (by decide) ?_
  have t1 : (0 : Int32).toInt = 0 := by decide
  have t2 : (15 : Int32).toInt = 15 := by decide
  refine m_invS C cal_X8_within (c_X8_within l hX g v (0 : Int32) (15 : Int32) ) lk_X8_87 st_X8_within (by decide) rfl rfl (Nat.le_of_ble_eq_true rfl) dX8_isObject_4 ⟨Nat.le_refl _, Nat.le_refl _⟩ (rI fun r3 g4 q5 => ?_)
  obtain ⟨eg4, ⟨rfl, h6⟩ | ⟨rfl, h6⟩⟩ := q5
  · skip
    subst g4
    exact m_zret C dX8_isObject_7 (by decide) ⟨_, rfl, rfl, Or.inl ⟨rfl, by omega⟩⟩
  · skip
    subst g4
    exact m_zret C dX8_isObject_7 (by decide) ⟨_, rfl, rfl, Or.inr ⟨rfl, by omega⟩⟩
set_option maxRecDepth 20000 in
set_option maxHeartbeats 4000000 in
theorem c_X8_isRight (l : Launch) {X : XT} (hX : Lok X) (g : Mem) (v : Int32)  : Ctr l X yX8_isRight cX8_isRight 1 (some .boolean) (rmD 1) [.int v] g (pI (fun r g2 => g2 = g ∧ (r = 1 ∧ (0 ≤ v.toInt ∧ v.toInt ≤ 3) ∨ r = 0 ∧ ¬ (0 ≤ v.toInt ∧ v.toInt ≤ 3)))) := by
  refine Ctr.of (lv := [(0, .int v)]) hX (by decide) rfl (Nat.le_of_ble_eq_true rfl) ?_
  intro p e s m below meth c C
  refine m_iload_n C dX8_isRight_0 0 rfl ?_
  refine m_iconst C (0 : Int32) dX8_isRight_1 (by decide) ?_
  refine m_iconst C (3 : Int32) dX8_isRight_2 (by decide) ?_
  have t1 : (0 : Int32).toInt = 0 := by decide
  have t2 : (3 : Int32).toInt = 3 := by decide
  refine m_invS C cal_X8_within (c_X8_within l hX g v (0 : Int32) (3 : Int32) ) lk_X8_87 st_X8_within (by decide) rfl rfl (Nat.le_of_ble_eq_true rfl) dX8_isRight_3 ⟨Nat.le_refl _, Nat.le_refl _⟩ (rI fun r3 g4 q5 => ?_)
  obtain ⟨eg4, ⟨rfl, h6⟩ | ⟨rfl, h6⟩⟩ := q5
  · skip
    subst g4
    exact m_zret C dX8_isRight_6 (by decide) ⟨_, rfl, rfl, Or.inl ⟨rfl, by omega⟩⟩
  · skip
    subst g4
    exact m_zret C dX8_isRight_6 (by decide) ⟨_, rfl, rfl, Or.inr ⟨rfl, by omega⟩⟩
set_option maxRecDepth 20000 in
set_option maxHeartbeats 4000000 in
theorem c_X8_isLevel (l : Launch) {X : XT} (hX : Lok X) (g : Mem) (v : Int32)  : Ctr l X yX8_isLevel cX8_isLevel 1 (some .boolean) (rmD 1) [.int v] g (pI (fun r g2 => g2 = g ∧ (r = 1 ∧ (0 ≤ v.toInt ∧ v.toInt ≤ 7) ∨ r = 0 ∧ ¬ (0 ≤ v.toInt ∧ v.toInt ≤ 7)))) := by
  refine Ctr.of (lv := [(0, .int v)]) hX (by decide) rfl (Nat.le_of_ble_eq_true rfl) ?_
  intro p e s m below meth c C
  refine m_iload_n C dX8_isLevel_0 0 rfl ?_
  refine m_iconst C (0 : Int32) dX8_isLevel_1 (by decide) ?_
  refine m_bipush C (7 : Int32) dX8_isLevel_2 (by decide) ?_
  have t1 : (0 : Int32).toInt = 0 := by decide
  have t2 : (7 : Int32).toInt = 7 := by decide
  refine m_invS C cal_X8_within (c_X8_within l hX g v (0 : Int32) (7 : Int32) ) lk_X8_87 st_X8_within (by decide) rfl rfl (Nat.le_of_ble_eq_true rfl) dX8_isLevel_4 ⟨Nat.le_refl _, Nat.le_refl _⟩ (rI fun r3 g4 q5 => ?_)
  obtain ⟨eg4, ⟨rfl, h6⟩ | ⟨rfl, h6⟩⟩ := q5
  · skip
    subst g4
    exact m_zret C dX8_isLevel_7 (by decide) ⟨_, rfl, rfl, Or.inl ⟨rfl, by omega⟩⟩
  · skip
    subst g4
    exact m_zret C dX8_isLevel_7 (by decide) ⟨_, rfl, rfl, Or.inr ⟨rfl, by omega⟩⟩
set_option maxRecDepth 20000 in
set_option maxHeartbeats 4000000 in
theorem c_X8_isHashByte (l : Launch) {X : XT} (hX : Lok X) (g : Mem) (v : Int32)  : Ctr l X yX8_isHashByte cX8_isHashByte 1 (some .boolean) (rmD 1) [.int v] g (pI (fun r g2 => g2 = g ∧ (r = 1 ∧ (0 ≤ v.toInt ∧ v.toInt ≤ 31) ∨ r = 0 ∧ ¬ (0 ≤ v.toInt ∧ v.toInt ≤ 31)))) := by
  refine Ctr.of (lv := [(0, .int v)]) hX (by decide) rfl (Nat.le_of_ble_eq_true rfl) ?_
  intro p e s m below meth c C
  refine m_iload_n C dX8_isHashByte_0 0 rfl ?_
  refine m_iconst C (0 : Int32) dX8_isHashByte_1 (by decide) ?_
  refine m_bipush C (31 : Int32) dX8_isHashByte_2 (by decide) ?_
  have t1 : (0 : Int32).toInt = 0 := by decide
  have t2 : (31 : Int32).toInt = 31 := by decide
  refine m_invS C cal_X8_within (c_X8_within l hX g v (0 : Int32) (31 : Int32) ) lk_X8_87 st_X8_within (by decide) rfl rfl (Nat.le_of_ble_eq_true rfl) dX8_isHashByte_4 ⟨Nat.le_refl _, Nat.le_refl _⟩ (rI fun r3 g4 q5 => ?_)
  obtain ⟨eg4, ⟨rfl, h6⟩ | ⟨rfl, h6⟩⟩ := q5
  · skip
    subst g4
    exact m_zret C dX8_isHashByte_7 (by decide) ⟨_, rfl, rfl, Or.inl ⟨rfl, by omega⟩⟩
  · skip
    subst g4
    exact m_zret C dX8_isHashByte_7 (by decide) ⟨_, rfl, rfl, Or.inr ⟨rfl, by omega⟩⟩
set_option maxRecDepth 20000 in
set_option maxHeartbeats 4000000 in
theorem c_X8_isMask (l : Launch) {X : XT} (hX : Lok X) (g : Mem) (v : Int32)  : Ctr l X yX8_isMask cX8_isMask 1 (some .boolean) (rmD 1) [.int v] g (pI (fun r g2 => g2 = g ∧ (r = 1 ∧ (1 ≤ v.toInt ∧ v.toInt ≤ 255) ∨ r = 0 ∧ ¬ (1 ≤ v.toInt ∧ v.toInt ≤ 255)))) := by
  refine Ctr.of (lv := [(0, .int v)]) hX (by decide) rfl (Nat.le_of_ble_eq_true rfl) ?_
  intro p e s m below meth c C
  refine m_iload_n C dX8_isMask_0 0 rfl ?_
  refine m_iconst C (1 : Int32) dX8_isMask_1 (by decide) ?_
  refine m_sipush C (255 : Int32) dX8_isMask_2 (by decide) ?_
  have t1 : (1 : Int32).toInt = 1 := by decide
  have t2 : (255 : Int32).toInt = 255 := by decide
  refine m_invS C cal_X8_within (c_X8_within l hX g v (1 : Int32) (255 : Int32) ) lk_X8_87 st_X8_within (by decide) rfl rfl (Nat.le_of_ble_eq_true rfl) dX8_isMask_5 ⟨Nat.le_refl _, Nat.le_refl _⟩ (rI fun r3 g4 q5 => ?_)
  obtain ⟨eg4, ⟨rfl, h6⟩ | ⟨rfl, h6⟩⟩ := q5
  · skip
    subst g4
    exact m_zret C dX8_isMask_8 (by decide) ⟨_, rfl, rfl, Or.inl ⟨rfl, by omega⟩⟩
  · skip
    subst g4
    exact m_zret C dX8_isMask_8 (by decide) ⟨_, rfl, rfl, Or.inr ⟨rfl, by omega⟩⟩
set_option maxRecDepth 20000 in
set_option maxHeartbeats 4000000 in
theorem c_X8_isKeptRoot (l : Launch) {X : XT} (hX : Lok X) (g : Mem) (v : Int32)  : Ctr l X yX8_isKeptRoot cX8_isKeptRoot 1 (some .boolean) (rmD 1) [.int v] g (pI (fun r g2 => g2 = g ∧ (r = 1 ∧ (0 ≤ v.toInt ∧ v.toInt ≤ 3) ∨ r = 0 ∧ ¬ (0 ≤ v.toInt ∧ v.toInt ≤ 3)))) := by
  refine Ctr.of (lv := [(0, .int v)]) hX (by decide) rfl (Nat.le_of_ble_eq_true rfl) ?_
  intro p e s m below meth c C
  refine m_iload_n C dX8_isKeptRoot_0 0 rfl ?_
  refine m_iconst C (0 : Int32) dX8_isKeptRoot_1 (by decide) ?_
  refine m_iconst C (3 : Int32) dX8_isKeptRoot_2 (by decide) ?_
  have t1 : (0 : Int32).toInt = 0 := by decide
  have t2 : (3 : Int32).toInt = 3 := by decide
  refine m_invS C cal_X8_within (c_X8_within l hX g v (0 : Int32) (3 : Int32) ) lk_X8_87 st_X8_within (by decide) rfl rfl (Nat.le_of_ble_eq_true rfl) dX8_isKeptRoot_3 ⟨Nat.le_refl _, Nat.le_refl _⟩ (rI fun r3 g4 q5 => ?_)
  obtain ⟨eg4, ⟨rfl, h6⟩ | ⟨rfl, h6⟩⟩ := q5
  · skip
    subst g4
    exact m_zret C dX8_isKeptRoot_6 (by decide) ⟨_, rfl, rfl, Or.inl ⟨rfl, by omega⟩⟩
  · skip
    subst g4
    exact m_zret C dX8_isKeptRoot_6 (by decide) ⟨_, rfl, rfl, Or.inr ⟨rfl, by omega⟩⟩
set_option maxRecDepth 20000 in
set_option maxHeartbeats 4000000 in
theorem c_X8_isParty (l : Launch) {X : XT} (hX : Lok X) (g : Mem) (v : Int32)  : Ctr l X yX8_isParty cX8_isParty 1 (some .boolean) (rmD 2) [.int v] g (pI (fun r g2 => g2 = g ∧ (r = 1 ∧ ((0 ≤ v.toInt ∧ v.toInt ≤ 11) ∨ (16 ≤ v.toInt ∧ v.toInt ≤ 19)) ∨ r = 0 ∧ ¬ ((0 ≤ v.toInt ∧ v.toInt ≤ 11) ∨ (16 ≤ v.toInt ∧ v.toInt ≤ 19))))) := by
  refine Ctr.of (lv := [(0, .int v)]) hX (by decide) rfl (Nat.le_of_ble_eq_true rfl) ?_
  intro p e s m below meth c C
  refine m_iload_n C dX8_isParty_0 0 rfl ?_
  refine m_invS C cal_X8_isSubject (c_X8_isSubject l hX g v ) lk_X8_92 st_X8_isSubject (by decide) rfl rfl (Nat.le_of_ble_eq_true rfl) dX8_isParty_1 ⟨Nat.le_refl _, Nat.le_refl _⟩ (rI fun r1 g2 q3 => ?_)
  obtain ⟨eg2, ⟨rfl, h4⟩ | ⟨rfl, h4⟩⟩ := q3
  · skip
    subst g2
    refine m_if_ne C 18 dX8_isParty_4 (by decide) (fun _ => ?_) (fun h => absurd h (by decide))
    refine m_iconst C (1 : Int32) dX8_isParty_18 (by decide) ?_
    refine m_goto C 23 dX8_isParty_19 (by decide) ?_
    exact m_zret C dX8_isParty_23 (by decide) ⟨_, rfl, rfl, Or.inl ⟨rfl, by omega⟩⟩
  · skip
    subst g2
    refine m_if_ne C 18 dX8_isParty_4 (by decide) (fun h => absurd (by decide) h) (fun _ => ?_)
    refine m_iload_n C dX8_isParty_7 0 rfl ?_
    refine m_bipush C (16 : Int32) dX8_isParty_8 (by decide) ?_
    refine m_bipush C (19 : Int32) dX8_isParty_10 (by decide) ?_
    have t5 : (16 : Int32).toInt = 16 := by decide
    have t6 : (19 : Int32).toInt = 19 := by decide
    refine m_invS C cal_X8_within (c_X8_within l hX g v (16 : Int32) (19 : Int32) ) lk_X8_87 st_X8_within (by decide) rfl rfl (Nat.le_of_ble_eq_true rfl) dX8_isParty_12 ⟨Nat.le_refl _, Nat.le_refl _⟩ (rI fun r7 g8 q9 => ?_)
    obtain ⟨eg8, ⟨rfl, h10⟩ | ⟨rfl, h10⟩⟩ := q9
    · skip
      subst g8
      refine m_if_eq C 22 dX8_isParty_15 (by decide) (fun h => absurd h (by decide)) (fun _ => ?_)
      refine m_iconst C (1 : Int32) dX8_isParty_18 (by decide) ?_
      refine m_goto C 23 dX8_isParty_19 (by decide) ?_
      exact m_zret C dX8_isParty_23 (by decide) ⟨_, rfl, rfl, Or.inl ⟨rfl, by omega⟩⟩
    · skip
      subst g8
      refine m_if_eq C 22 dX8_isParty_15 (by decide) (fun _ => ?_) (fun h => absurd (by decide) h)
      refine m_iconst C (0 : Int32) dX8_isParty_22 (by decide) ?_
      exact m_zret C dX8_isParty_23 (by decide) ⟨_, rfl, rfl, Or.inr ⟨rfl, by omega⟩⟩
set_option maxRecDepth 20000 in
set_option maxHeartbeats 4000000 in
theorem c_X8_isEntry (l : Launch) {X : XT} (hX : Lok X) (g : Mem) (v : Int32) (hI : Inv g) : Ctr l X yX8_isEntry cX8_isEntry 2 (some .boolean) (rmD 1) [.ref (aL X 0), .int v] g (pI (fun r g2 => g2 = g ∧ (r = 1 ∧ (0 ≤ v.toInt ∧ v.toInt ≤ (g 16 4).toInt - 1) ∨ r = 0 ∧ ¬ (0 ≤ v.toInt ∧ v.toInt ≤ (g 16 4).toInt - 1)))) := by
  refine Ctr.of (lv := [(0, .ref (aL X 0)), (1, .int v)]) hX (by decide) rfl (Nat.le_of_ble_eq_true rfl) ?_
  intro p e s m below meth c C
  refine m_iload_n C dX8_isEntry_0 1 rfl ?_
  refine m_iconst C (0 : Int32) dX8_isEntry_1 (by decide) ?_
  refine m_aload_n C dX8_isEntry_2 0 rfl ?_
  refine m_getr (rf := "") C 3 rfl gd8 (by decide) sh_0 rfl dX8_isEntry_3 lk_X8_37 ?_
  refine m_getiN (rf := "") C 4 rfl gd4 (by decide) sh_16 rfl dX8_isEntry_6 lk_X8_211 ?_
  have r1 := iv_size hI
  refine m_iconst C (1 : Int32) dX8_isEntry_9 (by decide) ?_
  refine m_isub C dX8_isEntry_10 ?_
  have t2 : ((g 16 4) - (1 : Int32)).toInt = (g 16 4).toInt - (1 : Int) := i_sub rfl (by decide) (by omega) (by omega)
  have t3 : (0 : Int32).toInt = 0 := by decide
  refine m_invS C cal_X8_within (c_X8_within l hX g v (0 : Int32) ((g 16 4) - (1 : Int32)) ) lk_X8_87 st_X8_within (by decide) rfl rfl (Nat.le_of_ble_eq_true rfl) dX8_isEntry_11 ⟨Nat.le_refl _, Nat.le_refl _⟩ (rI fun r4 g5 q6 => ?_)
  obtain ⟨eg5, ⟨rfl, h7⟩ | ⟨rfl, h7⟩⟩ := q6
  · skip
    subst g5
    exact m_zret C dX8_isEntry_14 (by decide) ⟨_, rfl, rfl, Or.inl ⟨rfl, by omega⟩⟩
  · skip
    subst g5
    exact m_zret C dX8_isEntry_14 (by decide) ⟨_, rfl, rfl, Or.inr ⟨rfl, by omega⟩⟩
set_option maxRecDepth 20000 in
set_option maxHeartbeats 4000000 in
theorem c_X8_isLength (l : Launch) {X : XT} (hX : Lok X) (g : Mem) (v : Int32) (hI : Inv g) : Ctr l X yX8_isLength cX8_isLength 2 (some .boolean) (rmD 1) [.ref (aL X 0), .int v] g (pI (fun r g2 => g2 = g ∧ (r = 1 ∧ (0 ≤ v.toInt ∧ v.toInt ≤ (g 16 4).toInt) ∨ r = 0 ∧ ¬ (0 ≤ v.toInt ∧ v.toInt ≤ (g 16 4).toInt)))) := by
  refine Ctr.of (lv := [(0, .ref (aL X 0)), (1, .int v)]) hX (by decide) rfl (Nat.le_of_ble_eq_true rfl) ?_
  intro p e s m below meth c C
  refine m_iload_n C dX8_isLength_0 1 rfl ?_
  refine m_iconst C (0 : Int32) dX8_isLength_1 (by decide) ?_
  refine m_aload_n C dX8_isLength_2 0 rfl ?_
  refine m_getr (rf := "") C 3 rfl gd8 (by decide) sh_0 rfl dX8_isLength_3 lk_X8_37 ?_
  refine m_getiN (rf := "") C 4 rfl gd4 (by decide) sh_16 rfl dX8_isLength_6 lk_X8_211 ?_
  have r1 := iv_size hI
  have t2 : (0 : Int32).toInt = 0 := by decide
  refine m_invS C cal_X8_within (c_X8_within l hX g v (0 : Int32) (g 16 4) ) lk_X8_87 st_X8_within (by decide) rfl rfl (Nat.le_of_ble_eq_true rfl) dX8_isLength_9 ⟨Nat.le_refl _, Nat.le_refl _⟩ (rI fun r3 g4 q5 => ?_)
  obtain ⟨eg4, ⟨rfl, h6⟩ | ⟨rfl, h6⟩⟩ := q5
  · skip
    subst g4
    exact m_zret C dX8_isLength_12 (by decide) ⟨_, rfl, rfl, Or.inl ⟨rfl, by omega⟩⟩
  · skip
    subst g4
    exact m_zret C dX8_isLength_12 (by decide) ⟨_, rfl, rfl, Or.inr ⟨rfl, by omega⟩⟩
set_option maxRecDepth 20000 in
set_option maxHeartbeats 4000000 in
theorem c_X8_isProofHash (l : Launch) {X : XT} (hX : Lok X) (g : Mem) (v : Int32) (hI : Inv g) : Ctr l X yX8_isProofHash cX8_isProofHash 2 (some .boolean) (rmD 1) [.ref (aL X 0), .int v] g (pI (fun r g2 => g2 = g ∧ (r = 1 ∧ (0 ≤ v.toInt ∧ v.toInt ≤ (g 20 5).toInt - 1) ∨ r = 0 ∧ ¬ (0 ≤ v.toInt ∧ v.toInt ≤ (g 20 5).toInt - 1)))) := by
  refine Ctr.of (lv := [(0, .ref (aL X 0)), (1, .int v)]) hX (by decide) rfl (Nat.le_of_ble_eq_true rfl) ?_
  intro p e s m below meth c C
  refine m_iload_n C dX8_isProofHash_0 1 rfl ?_
  refine m_iconst C (0 : Int32) dX8_isProofHash_1 (by decide) ?_
  refine m_aload_n C dX8_isProofHash_2 0 rfl ?_
  refine m_getr (rf := "") C 4 rfl gd8 (by decide) sh_0 rfl dX8_isProofHash_3 lk_X8_46 ?_
  refine m_getiN (rf := "") C 5 rfl gd6 (by decide) sh_20 rfl dX8_isProofHash_6 lk_X8_188 ?_
  have r1 := iv_psize hI
  refine m_iconst C (1 : Int32) dX8_isProofHash_9 (by decide) ?_
  refine m_isub C dX8_isProofHash_10 ?_
  have t2 : ((g 20 5) - (1 : Int32)).toInt = (g 20 5).toInt - (1 : Int) := i_sub rfl (by decide) (by omega) (by omega)
  have t3 : (0 : Int32).toInt = 0 := by decide
  refine m_invS C cal_X8_within (c_X8_within l hX g v (0 : Int32) ((g 20 5) - (1 : Int32)) ) lk_X8_87 st_X8_within (by decide) rfl rfl (Nat.le_of_ble_eq_true rfl) dX8_isProofHash_11 ⟨Nat.le_refl _, Nat.le_refl _⟩ (rI fun r4 g5 q6 => ?_)
  obtain ⟨eg5, ⟨rfl, h7⟩ | ⟨rfl, h7⟩⟩ := q6
  · skip
    subst g5
    exact m_zret C dX8_isProofHash_14 (by decide) ⟨_, rfl, rfl, Or.inl ⟨rfl, by omega⟩⟩
  · skip
    subst g5
    exact m_zret C dX8_isProofHash_14 (by decide) ⟨_, rfl, rfl, Or.inr ⟨rfl, by omega⟩⟩
set_option maxRecDepth 20000 in
set_option maxHeartbeats 4000000 in
theorem c_X8_refusal (l : Launch) {X : XT} (hX : Lok X) (g : Mem)  (hI : Inv g) : Ctr l X yX8_refusal cX8_refusal 1 (some .int) (rmD 0) [.ref (aL X 0)] g (pI (fun r g2 => g2 = g ∧ True)) := by
  refine Ctr.of (lv := [(0, .ref (aL X 0))]) hX (by decide) rfl (Nat.le_of_ble_eq_true rfl) ?_
  intro p e s m below meth c C
  refine m_aload_n C dX8_refusal_0 0 rfl ?_
  refine m_geti (rf := "") C 10 rfl gd8 (by decide) sh_0 rfl dX8_refusal_1 lk_X8_82 ?_
  refine m_if_eq C 10 dX8_refusal_4 (by decide) (fun h1 => ?_) (fun h1 => ?_)
  · skip
    have th1 := i_eq h1
    rw [show (0 : Int32).toInt = 0 by decide] at th1
    refine m_aload_n C dX8_refusal_10 0 rfl ?_
    refine m_getr (rf := "") C 3 rfl gd8 (by decide) sh_0 rfl dX8_refusal_11 lk_X8_37 ?_
    refine m_getiN (rf := "") C 4 rfl gd4 (by decide) sh_16 rfl dX8_refusal_14 lk_X8_211 ?_
    have r2 := iv_size hI
    refine m_bipush C (60 : Int32) dX8_refusal_17 (by decide) ?_
    refine m_icmp_lt C 27 dX8_refusal_19 (by decide) (fun h3 => ?_) (fun h3 => ?_)
    · skip
      have th3 := i_lt h3
      rw [show (60 : Int32).toInt = 60 by decide] at th3
      refine m_iconst C (0 : Int32) dX8_refusal_27 (by decide) ?_
      exact m_iret C dX8_refusal_28 ⟨_, rfl, rfl, trivial⟩
    · skip
      have th3 := i_nlt h3
      rw [show (60 : Int32).toInt = 60 by decide] at th3
      refine m_bipush C (-4 : Int32) dX8_refusal_22 (by decide) ?_
      refine m_goto C 28 dX8_refusal_24 (by decide) ?_
      exact m_iret C dX8_refusal_28 ⟨_, rfl, rfl, trivial⟩
  · skip
    have th1 := i_ne h1
    rw [show (0 : Int32).toInt = 0 by decide] at th1
    refine m_bipush C (-3 : Int32) dX8_refusal_7 (by decide) ?_
    exact m_iret C dX8_refusal_9 ⟨_, rfl, rfl, trivial⟩
set_option maxRecDepth 20000 in
set_option maxHeartbeats 4000000 in
theorem c_X2_byteAt_14 (l : Launch) {X : XT} (hX : Lok X) (g : Mem) (h : Int32) (k : Int32) (hI : Inv g) (h_h : 0 ≤ h.toInt ∧ h.toInt ≤ 126) (h_k : 0 ≤ k.toInt ∧ k.toInt ≤ 31) : Ctr l X yX2_byteAt cX2_byteAt 3 (some .int) (rmD 0) [.ref (aL X 14), .int h, .int k] g (pI (fun r g2 => g2 = g ∧ True)) := by
  refine Ctr.of (lv := [(0, .ref (aL X 14)), (1, .int h), (2, .int k)]) hX (by decide) rfl (Nat.le_of_ble_eq_true rfl) ?_
  intro p e s m below meth c C
  refine m_aload_n C dX2_byteAt_0 0 rfl ?_
  refine m_getr (rf := "") C 0 rfl gd2 (by decide) sh_14 rfl dX2_byteAt_1 lk_X2_9 ?_
  refine m_iload_n C dX2_byteAt_4 1 rfl ?_
  refine m_bipush C (8 : Int32) dX2_byteAt_5 (by decide) ?_
  refine m_imul C dX2_byteAt_7 ?_
  refine m_iload_n C dX2_byteAt_8 2 rfl ?_
  refine m_iconst C (2 : Int32) dX2_byteAt_9 (by decide) ?_
  refine m_ishr C dX2_byteAt_10 ?_
  refine m_iadd C dX2_byteAt_11 ?_
  have t1 : (h * (8 : Int32)).toInt = h.toInt * (8 : Int) := i_mul rfl (by decide) (by omega) (by omega)
  have t2 : (k >>> ((2 : Int32) &&& 31)).toInt = k.toInt / 4 := i_shr rfl 2 (by decide)
  have t3 : ((h * (8 : Int32)) + (k >>> ((2 : Int32) &&& 31))).toInt = (h.toInt * (8 : Int)) + (k.toInt / 4) := i_add t1 t2 (by omega) (by omega)
  refine m_iald C sh_15 (i_in (by omega) (by omega)) dX2_byteAt_12 ?_
  refine m_bipush C (24 : Int32) dX2_byteAt_13 (by decide) ?_
  refine m_bipush C (8 : Int32) dX2_byteAt_15 (by decide) ?_
  refine m_iload_n C dX2_byteAt_17 2 rfl ?_
  refine m_iconst C (3 : Int32) dX2_byteAt_18 (by decide) ?_
  refine m_iand C dX2_byteAt_19 ?_
  refine m_imul C dX2_byteAt_20 ?_
  refine m_isub C dX2_byteAt_21 ?_
  refine m_iushr C dX2_byteAt_22 ?_
  refine m_sipush C (255 : Int32) dX2_byteAt_23 (by decide) ?_
  refine m_iand C dX2_byteAt_26 ?_
  have t4 : 0 ≤ ((((g 15 ((h * (8 : Int32)) + (k >>> ((2 : Int32) &&& 31))).toNatClampNeg).toUInt32 >>> (((24 : Int32) - ((8 : Int32) * (k &&& (3 : Int32)))).toUInt32 &&& Int32.toUInt32 31)).toInt32) &&& (255 : Int32)).toInt ∧ ((((g 15 ((h * (8 : Int32)) + (k >>> ((2 : Int32) &&& 31))).toNatClampNeg).toUInt32 >>> (((24 : Int32) - ((8 : Int32) * (k &&& (3 : Int32)))).toUInt32 &&& Int32.toUInt32 31)).toInt32) &&& (255 : Int32)).toInt < 256 := i_and _ 8 (by decide) (by decide)
  exact m_iret C dX2_byteAt_27 ⟨_, rfl, rfl, trivial⟩
set_option maxRecDepth 20000 in
set_option maxHeartbeats 4000000 in
theorem c_X2_byteAt_18 (l : Launch) {X : XT} (hX : Lok X) (g : Mem) (h : Int32) (k : Int32) (hI : Inv g) (h_h : 0 ≤ h.toInt ∧ h.toInt ≤ 60) (h_k : 0 ≤ k.toInt ∧ k.toInt ≤ 31) : Ctr l X yX2_byteAt cX2_byteAt 3 (some .int) (rmD 0) [.ref (aL X 18), .int h, .int k] g (pI (fun r g2 => g2 = g ∧ True)) := by
  refine Ctr.of (lv := [(0, .ref (aL X 18)), (1, .int h), (2, .int k)]) hX (by decide) rfl (Nat.le_of_ble_eq_true rfl) ?_
  intro p e s m below meth c C
  refine m_aload_n C dX2_byteAt_0 0 rfl ?_
  refine m_getr (rf := "") C 0 rfl gd2 (by decide) sh_18 rfl dX2_byteAt_1 lk_X2_9 ?_
  refine m_iload_n C dX2_byteAt_4 1 rfl ?_
  refine m_bipush C (8 : Int32) dX2_byteAt_5 (by decide) ?_
  refine m_imul C dX2_byteAt_7 ?_
  refine m_iload_n C dX2_byteAt_8 2 rfl ?_
  refine m_iconst C (2 : Int32) dX2_byteAt_9 (by decide) ?_
  refine m_ishr C dX2_byteAt_10 ?_
  refine m_iadd C dX2_byteAt_11 ?_
  have t1 : (h * (8 : Int32)).toInt = h.toInt * (8 : Int) := i_mul rfl (by decide) (by omega) (by omega)
  have t2 : (k >>> ((2 : Int32) &&& 31)).toInt = k.toInt / 4 := i_shr rfl 2 (by decide)
  have t3 : ((h * (8 : Int32)) + (k >>> ((2 : Int32) &&& 31))).toInt = (h.toInt * (8 : Int)) + (k.toInt / 4) := i_add t1 t2 (by omega) (by omega)
  refine m_iald C sh_19 (i_in (by omega) (by omega)) dX2_byteAt_12 ?_
  refine m_bipush C (24 : Int32) dX2_byteAt_13 (by decide) ?_
  refine m_bipush C (8 : Int32) dX2_byteAt_15 (by decide) ?_
  refine m_iload_n C dX2_byteAt_17 2 rfl ?_
  refine m_iconst C (3 : Int32) dX2_byteAt_18 (by decide) ?_
  refine m_iand C dX2_byteAt_19 ?_
  refine m_imul C dX2_byteAt_20 ?_
  refine m_isub C dX2_byteAt_21 ?_
  refine m_iushr C dX2_byteAt_22 ?_
  refine m_sipush C (255 : Int32) dX2_byteAt_23 (by decide) ?_
  refine m_iand C dX2_byteAt_26 ?_
  have t4 : 0 ≤ ((((g 19 ((h * (8 : Int32)) + (k >>> ((2 : Int32) &&& 31))).toNatClampNeg).toUInt32 >>> (((24 : Int32) - ((8 : Int32) * (k &&& (3 : Int32)))).toUInt32 &&& Int32.toUInt32 31)).toInt32) &&& (255 : Int32)).toInt ∧ ((((g 19 ((h * (8 : Int32)) + (k >>> ((2 : Int32) &&& 31))).toNatClampNeg).toUInt32 >>> (((24 : Int32) - ((8 : Int32) * (k &&& (3 : Int32)))).toUInt32 &&& Int32.toUInt32 31)).toInt32) &&& (255 : Int32)).toInt < 256 := i_and _ 8 (by decide) (by decide)
  exact m_iret C dX2_byteAt_27 ⟨_, rfl, rfl, trivial⟩
set_option maxRecDepth 20000 in
set_option maxHeartbeats 4000000 in
theorem c_X2_byteAt_21 (l : Launch) {X : XT} (hX : Lok X) (g : Mem) (h : Int32) (k : Int32) (hI : Inv g) (h_h : 0 ≤ h.toInt ∧ h.toInt ≤ 7) (h_k : 0 ≤ k.toInt ∧ k.toInt ≤ 31) : Ctr l X yX2_byteAt cX2_byteAt 3 (some .int) (rmD 0) [.ref (aL X 21), .int h, .int k] g (pI (fun r g2 => g2 = g ∧ True)) := by
  refine Ctr.of (lv := [(0, .ref (aL X 21)), (1, .int h), (2, .int k)]) hX (by decide) rfl (Nat.le_of_ble_eq_true rfl) ?_
  intro p e s m below meth c C
  refine m_aload_n C dX2_byteAt_0 0 rfl ?_
  refine m_getr (rf := "") C 0 rfl gd2 (by decide) sh_21 rfl dX2_byteAt_1 lk_X2_9 ?_
  refine m_iload_n C dX2_byteAt_4 1 rfl ?_
  refine m_bipush C (8 : Int32) dX2_byteAt_5 (by decide) ?_
  refine m_imul C dX2_byteAt_7 ?_
  refine m_iload_n C dX2_byteAt_8 2 rfl ?_
  refine m_iconst C (2 : Int32) dX2_byteAt_9 (by decide) ?_
  refine m_ishr C dX2_byteAt_10 ?_
  refine m_iadd C dX2_byteAt_11 ?_
  have t1 : (h * (8 : Int32)).toInt = h.toInt * (8 : Int) := i_mul rfl (by decide) (by omega) (by omega)
  have t2 : (k >>> ((2 : Int32) &&& 31)).toInt = k.toInt / 4 := i_shr rfl 2 (by decide)
  have t3 : ((h * (8 : Int32)) + (k >>> ((2 : Int32) &&& 31))).toInt = (h.toInt * (8 : Int)) + (k.toInt / 4) := i_add t1 t2 (by omega) (by omega)
  refine m_iald C sh_22 (i_in (by omega) (by omega)) dX2_byteAt_12 ?_
  refine m_bipush C (24 : Int32) dX2_byteAt_13 (by decide) ?_
  refine m_bipush C (8 : Int32) dX2_byteAt_15 (by decide) ?_
  refine m_iload_n C dX2_byteAt_17 2 rfl ?_
  refine m_iconst C (3 : Int32) dX2_byteAt_18 (by decide) ?_
  refine m_iand C dX2_byteAt_19 ?_
  refine m_imul C dX2_byteAt_20 ?_
  refine m_isub C dX2_byteAt_21 ?_
  refine m_iushr C dX2_byteAt_22 ?_
  refine m_sipush C (255 : Int32) dX2_byteAt_23 (by decide) ?_
  refine m_iand C dX2_byteAt_26 ?_
  have t4 : 0 ≤ ((((g 22 ((h * (8 : Int32)) + (k >>> ((2 : Int32) &&& 31))).toNatClampNeg).toUInt32 >>> (((24 : Int32) - ((8 : Int32) * (k &&& (3 : Int32)))).toUInt32 &&& Int32.toUInt32 31)).toInt32) &&& (255 : Int32)).toInt ∧ ((((g 22 ((h * (8 : Int32)) + (k >>> ((2 : Int32) &&& 31))).toNatClampNeg).toUInt32 >>> (((24 : Int32) - ((8 : Int32) * (k &&& (3 : Int32)))).toUInt32 &&& Int32.toUInt32 31)).toInt32) &&& (255 : Int32)).toInt < 256 := i_and _ 8 (by decide) (by decide)
  exact m_iret C dX2_byteAt_27 ⟨_, rfl, rfl, trivial⟩
set_option maxRecDepth 20000 in
set_option maxHeartbeats 4000000 in
theorem c_X2_byteAt_25 (l : Launch) {X : XT} (hX : Lok X) (g : Mem) (h : Int32) (k : Int32) (hI : Inv g) (h_h : 0 ≤ h.toInt ∧ h.toInt ≤ 3) (h_k : 0 ≤ k.toInt ∧ k.toInt ≤ 31) : Ctr l X yX2_byteAt cX2_byteAt 3 (some .int) (rmD 0) [.ref (aL X 25), .int h, .int k] g (pI (fun r g2 => g2 = g ∧ True)) := by
  refine Ctr.of (lv := [(0, .ref (aL X 25)), (1, .int h), (2, .int k)]) hX (by decide) rfl (Nat.le_of_ble_eq_true rfl) ?_
  intro p e s m below meth c C
  refine m_aload_n C dX2_byteAt_0 0 rfl ?_
  refine m_getr (rf := "") C 0 rfl gd2 (by decide) sh_25 rfl dX2_byteAt_1 lk_X2_9 ?_
  refine m_iload_n C dX2_byteAt_4 1 rfl ?_
  refine m_bipush C (8 : Int32) dX2_byteAt_5 (by decide) ?_
  refine m_imul C dX2_byteAt_7 ?_
  refine m_iload_n C dX2_byteAt_8 2 rfl ?_
  refine m_iconst C (2 : Int32) dX2_byteAt_9 (by decide) ?_
  refine m_ishr C dX2_byteAt_10 ?_
  refine m_iadd C dX2_byteAt_11 ?_
  have t1 : (h * (8 : Int32)).toInt = h.toInt * (8 : Int) := i_mul rfl (by decide) (by omega) (by omega)
  have t2 : (k >>> ((2 : Int32) &&& 31)).toInt = k.toInt / 4 := i_shr rfl 2 (by decide)
  have t3 : ((h * (8 : Int32)) + (k >>> ((2 : Int32) &&& 31))).toInt = (h.toInt * (8 : Int)) + (k.toInt / 4) := i_add t1 t2 (by omega) (by omega)
  refine m_iald C sh_26 (i_in (by omega) (by omega)) dX2_byteAt_12 ?_
  refine m_bipush C (24 : Int32) dX2_byteAt_13 (by decide) ?_
  refine m_bipush C (8 : Int32) dX2_byteAt_15 (by decide) ?_
  refine m_iload_n C dX2_byteAt_17 2 rfl ?_
  refine m_iconst C (3 : Int32) dX2_byteAt_18 (by decide) ?_
  refine m_iand C dX2_byteAt_19 ?_
  refine m_imul C dX2_byteAt_20 ?_
  refine m_isub C dX2_byteAt_21 ?_
  refine m_iushr C dX2_byteAt_22 ?_
  refine m_sipush C (255 : Int32) dX2_byteAt_23 (by decide) ?_
  refine m_iand C dX2_byteAt_26 ?_
  have t4 : 0 ≤ ((((g 26 ((h * (8 : Int32)) + (k >>> ((2 : Int32) &&& 31))).toNatClampNeg).toUInt32 >>> (((24 : Int32) - ((8 : Int32) * (k &&& (3 : Int32)))).toUInt32 &&& Int32.toUInt32 31)).toInt32) &&& (255 : Int32)).toInt ∧ ((((g 26 ((h * (8 : Int32)) + (k >>> ((2 : Int32) &&& 31))).toNatClampNeg).toUInt32 >>> (((24 : Int32) - ((8 : Int32) * (k &&& (3 : Int32)))).toUInt32 &&& Int32.toUInt32 31)).toInt32) &&& (255 : Int32)).toInt < 256 := i_and _ 8 (by decide) (by decide)
  exact m_iret C dX2_byteAt_27 ⟨_, rfl, rfl, trivial⟩
set_option maxRecDepth 20000 in
set_option maxHeartbeats 4000000 in
theorem c_X2_byteAt_28 (l : Launch) {X : XT} (hX : Lok X) (g : Mem) (h : Int32) (k : Int32) (hI : Inv g) (h_h : 0 ≤ h.toInt ∧ h.toInt ≤ 1) (h_k : 0 ≤ k.toInt ∧ k.toInt ≤ 31) : Ctr l X yX2_byteAt cX2_byteAt 3 (some .int) (rmD 0) [.ref (aL X 28), .int h, .int k] g (pI (fun r g2 => g2 = g ∧ True)) := by
  refine Ctr.of (lv := [(0, .ref (aL X 28)), (1, .int h), (2, .int k)]) hX (by decide) rfl (Nat.le_of_ble_eq_true rfl) ?_
  intro p e s m below meth c C
  refine m_aload_n C dX2_byteAt_0 0 rfl ?_
  refine m_getr (rf := "") C 0 rfl gd2 (by decide) sh_28 rfl dX2_byteAt_1 lk_X2_9 ?_
  refine m_iload_n C dX2_byteAt_4 1 rfl ?_
  refine m_bipush C (8 : Int32) dX2_byteAt_5 (by decide) ?_
  refine m_imul C dX2_byteAt_7 ?_
  refine m_iload_n C dX2_byteAt_8 2 rfl ?_
  refine m_iconst C (2 : Int32) dX2_byteAt_9 (by decide) ?_
  refine m_ishr C dX2_byteAt_10 ?_
  refine m_iadd C dX2_byteAt_11 ?_
  have t1 : (h * (8 : Int32)).toInt = h.toInt * (8 : Int) := i_mul rfl (by decide) (by omega) (by omega)
  have t2 : (k >>> ((2 : Int32) &&& 31)).toInt = k.toInt / 4 := i_shr rfl 2 (by decide)
  have t3 : ((h * (8 : Int32)) + (k >>> ((2 : Int32) &&& 31))).toInt = (h.toInt * (8 : Int)) + (k.toInt / 4) := i_add t1 t2 (by omega) (by omega)
  refine m_iald C sh_29 (i_in (by omega) (by omega)) dX2_byteAt_12 ?_
  refine m_bipush C (24 : Int32) dX2_byteAt_13 (by decide) ?_
  refine m_bipush C (8 : Int32) dX2_byteAt_15 (by decide) ?_
  refine m_iload_n C dX2_byteAt_17 2 rfl ?_
  refine m_iconst C (3 : Int32) dX2_byteAt_18 (by decide) ?_
  refine m_iand C dX2_byteAt_19 ?_
  refine m_imul C dX2_byteAt_20 ?_
  refine m_isub C dX2_byteAt_21 ?_
  refine m_iushr C dX2_byteAt_22 ?_
  refine m_sipush C (255 : Int32) dX2_byteAt_23 (by decide) ?_
  refine m_iand C dX2_byteAt_26 ?_
  have t4 : 0 ≤ ((((g 29 ((h * (8 : Int32)) + (k >>> ((2 : Int32) &&& 31))).toNatClampNeg).toUInt32 >>> (((24 : Int32) - ((8 : Int32) * (k &&& (3 : Int32)))).toUInt32 &&& Int32.toUInt32 31)).toInt32) &&& (255 : Int32)).toInt ∧ ((((g 29 ((h * (8 : Int32)) + (k >>> ((2 : Int32) &&& 31))).toNatClampNeg).toUInt32 >>> (((24 : Int32) - ((8 : Int32) * (k &&& (3 : Int32)))).toUInt32 &&& Int32.toUInt32 31)).toInt32) &&& (255 : Int32)).toInt < 256 := i_and _ 8 (by decide) (by decide)
  exact m_iret C dX2_byteAt_27 ⟨_, rfl, rfl, trivial⟩
set_option maxRecDepth 20000 in
set_option maxHeartbeats 4000000 in
theorem c_X2_byteAt_32 (l : Launch) {X : XT} (hX : Lok X) (g : Mem) (h : Int32) (k : Int32) (hI : Inv g) (h_h : 0 ≤ h.toInt ∧ h.toInt ≤ 0) (h_k : 0 ≤ k.toInt ∧ k.toInt ≤ 31) : Ctr l X yX2_byteAt cX2_byteAt 3 (some .int) (rmD 0) [.ref (aL X 32), .int h, .int k] g (pI (fun r g2 => g2 = g ∧ True)) := by
  refine Ctr.of (lv := [(0, .ref (aL X 32)), (1, .int h), (2, .int k)]) hX (by decide) rfl (Nat.le_of_ble_eq_true rfl) ?_
  intro p e s m below meth c C
  refine m_aload_n C dX2_byteAt_0 0 rfl ?_
  refine m_getr (rf := "") C 0 rfl gd2 (by decide) sh_32 rfl dX2_byteAt_1 lk_X2_9 ?_
  refine m_iload_n C dX2_byteAt_4 1 rfl ?_
  refine m_bipush C (8 : Int32) dX2_byteAt_5 (by decide) ?_
  refine m_imul C dX2_byteAt_7 ?_
  refine m_iload_n C dX2_byteAt_8 2 rfl ?_
  refine m_iconst C (2 : Int32) dX2_byteAt_9 (by decide) ?_
  refine m_ishr C dX2_byteAt_10 ?_
  refine m_iadd C dX2_byteAt_11 ?_
  have t1 : (h * (8 : Int32)).toInt = h.toInt * (8 : Int) := i_mul rfl (by decide) (by omega) (by omega)
  have t2 : (k >>> ((2 : Int32) &&& 31)).toInt = k.toInt / 4 := i_shr rfl 2 (by decide)
  have t3 : ((h * (8 : Int32)) + (k >>> ((2 : Int32) &&& 31))).toInt = (h.toInt * (8 : Int)) + (k.toInt / 4) := i_add t1 t2 (by omega) (by omega)
  refine m_iald C sh_33 (i_in (by omega) (by omega)) dX2_byteAt_12 ?_
  refine m_bipush C (24 : Int32) dX2_byteAt_13 (by decide) ?_
  refine m_bipush C (8 : Int32) dX2_byteAt_15 (by decide) ?_
  refine m_iload_n C dX2_byteAt_17 2 rfl ?_
  refine m_iconst C (3 : Int32) dX2_byteAt_18 (by decide) ?_
  refine m_iand C dX2_byteAt_19 ?_
  refine m_imul C dX2_byteAt_20 ?_
  refine m_isub C dX2_byteAt_21 ?_
  refine m_iushr C dX2_byteAt_22 ?_
  refine m_sipush C (255 : Int32) dX2_byteAt_23 (by decide) ?_
  refine m_iand C dX2_byteAt_26 ?_
  have t4 : 0 ≤ ((((g 33 ((h * (8 : Int32)) + (k >>> ((2 : Int32) &&& 31))).toNatClampNeg).toUInt32 >>> (((24 : Int32) - ((8 : Int32) * (k &&& (3 : Int32)))).toUInt32 &&& Int32.toUInt32 31)).toInt32) &&& (255 : Int32)).toInt ∧ ((((g 33 ((h * (8 : Int32)) + (k >>> ((2 : Int32) &&& 31))).toNatClampNeg).toUInt32 >>> (((24 : Int32) - ((8 : Int32) * (k &&& (3 : Int32)))).toUInt32 &&& Int32.toUInt32 31)).toInt32) &&& (255 : Int32)).toInt < 256 := i_and _ 8 (by decide) (by decide)
  exact m_iret C dX2_byteAt_27 ⟨_, rfl, rfl, trivial⟩
set_option maxRecDepth 20000 in
set_option maxHeartbeats 4000000 in
theorem c_X2_spoilByte_21 (l : Launch) {X : XT} (hX : Lok X) (g : Mem) (h : Int32) (k : Int32) (mask : Int32) (hI : Inv g) (h_h : 0 ≤ h.toInt ∧ h.toInt ≤ 7) (h_k : 0 ≤ k.toInt ∧ k.toInt ≤ 31) : Ctr l X yX2_spoilByte cX2_spoilByte 5 (some .int) (rmD 1) [.ref (aL X 21), .int h, .int k, .int mask] g (pI (fun r g2 => Inv g2 ∧ Kp [22] g g2)) := by
  refine Ctr.of (lv := [(0, .ref (aL X 21)), (1, .int h), (2, .int k), (3, .int mask)]) hX (by decide) rfl (Nat.le_of_ble_eq_true rfl) ?_
  intro p e s m below meth c C
  refine m_aload_n C dX2_spoilByte_0 0 rfl ?_
  refine m_iload_n C dX2_spoilByte_1 1 rfl ?_
  refine m_iload_n C dX2_spoilByte_2 2 rfl ?_
  refine m_invV C cal_X2_byteAt sh_21 rfl (c_X2_byteAt_21 l hX g h k hI (by omega) (by omega)) lk_X2_15 im_X2_byteAt se_X2_byteAt (by decide) rfl rfl (Nat.le_of_ble_eq_true rfl) dX2_spoilByte_3 ⟨Nat.le_refl _, Nat.le_refl _⟩ (rI fun r1 g2 q3 => ?_)
  obtain ⟨eg2, p4⟩ := q3
  subst g2
  refine m_istore C [(4, .int r1), (0, .ref (aL X 21)), (1, .int h), (2, .int k), (3, .int mask)] dX2_spoilByte_6 (by decide) rfl ?_
  refine m_aload_n C dX2_spoilByte_8 1 rfl ?_
  refine m_getr (rf := "") C 0 rfl gd2 (by decide) sh_21 rfl dX2_spoilByte_9 lk_X2_9 ?_
  refine m_iload_n C dX2_spoilByte_12 2 rfl ?_
  refine m_bipush C (8 : Int32) dX2_spoilByte_13 (by decide) ?_
  refine m_imul C dX2_spoilByte_15 ?_
  refine m_iload_n C dX2_spoilByte_16 3 rfl ?_
  refine m_iconst C (2 : Int32) dX2_spoilByte_17 (by decide) ?_
  refine m_ishr C dX2_spoilByte_18 ?_
  refine m_iadd C dX2_spoilByte_19 ?_
  refine m_dup2 C dX2_spoilByte_20 rfl rfl ?_
  have t6 : (h * (8 : Int32)).toInt = h.toInt * (8 : Int) := i_mul rfl (by decide) (by omega) (by omega)
  have t7 : (k >>> ((2 : Int32) &&& 31)).toInt = k.toInt / 4 := i_shr rfl 2 (by decide)
  have t8 : ((h * (8 : Int32)) + (k >>> ((2 : Int32) &&& 31))).toInt = (h.toInt * (8 : Int)) + (k.toInt / 4) := i_add t6 t7 (by omega) (by omega)
  refine m_iald C sh_22 (i_in (by omega) (by omega)) dX2_spoilByte_21 ?_
  refine m_iload_n C dX2_spoilByte_22 4 rfl ?_
  refine m_bipush C (24 : Int32) dX2_spoilByte_23 (by decide) ?_
  refine m_bipush C (8 : Int32) dX2_spoilByte_25 (by decide) ?_
  refine m_iload_n C dX2_spoilByte_27 3 rfl ?_
  refine m_iconst C (3 : Int32) dX2_spoilByte_28 (by decide) ?_
  refine m_iand C dX2_spoilByte_29 ?_
  refine m_imul C dX2_spoilByte_30 ?_
  refine m_isub C dX2_spoilByte_31 ?_
  refine m_ishl C dX2_spoilByte_32 ?_
  refine m_ixor C dX2_spoilByte_33 ?_
  have t9 : (h * (8 : Int32)).toInt = h.toInt * (8 : Int) := i_mul rfl (by decide) (by omega) (by omega)
  have t10 : (k >>> ((2 : Int32) &&& 31)).toInt = k.toInt / 4 := i_shr rfl 2 (by decide)
  have t11 : ((h * (8 : Int32)) + (k >>> ((2 : Int32) &&& 31))).toInt = (h.toInt * (8 : Int)) + (k.toInt / 4) := i_add t9 t10 (by omega) (by omega)
  refine m_iast C sh_22 (i_in (by omega) (by omega)) dX2_spoilByte_34 ?_
  refine m_mem (fun g12 eg12 => ?_)
  have hI13 : Inv g12 := by rw [eg12]; exact hI.up (ok_any (by decide))
  have hK14 : Kp [22] g g12 := by rw [eg12]; exact Kp.up Kp.rf (by decide) (Or.inl (by decide)) (Or.inl (by decide))
  refine m_iload C dX2_spoilByte_35 0 rfl ?_
  exact m_iret C dX2_spoilByte_37 ⟨_, rfl, hI13, hK14⟩
set_option maxRecDepth 20000 in
set_option maxHeartbeats 4000000 in
theorem c_X2_spoilByte_25 (l : Launch) {X : XT} (hX : Lok X) (g : Mem) (h : Int32) (k : Int32) (mask : Int32) (hI : Inv g) (h_h : 0 ≤ h.toInt ∧ h.toInt ≤ 3) (h_k : 0 ≤ k.toInt ∧ k.toInt ≤ 31) : Ctr l X yX2_spoilByte cX2_spoilByte 5 (some .int) (rmD 1) [.ref (aL X 25), .int h, .int k, .int mask] g (pI (fun r g2 => Inv g2 ∧ Kp [26] g g2)) := by
  refine Ctr.of (lv := [(0, .ref (aL X 25)), (1, .int h), (2, .int k), (3, .int mask)]) hX (by decide) rfl (Nat.le_of_ble_eq_true rfl) ?_
  intro p e s m below meth c C
  refine m_aload_n C dX2_spoilByte_0 0 rfl ?_
  refine m_iload_n C dX2_spoilByte_1 1 rfl ?_
  refine m_iload_n C dX2_spoilByte_2 2 rfl ?_
  refine m_invV C cal_X2_byteAt sh_25 rfl (c_X2_byteAt_25 l hX g h k hI (by omega) (by omega)) lk_X2_15 im_X2_byteAt se_X2_byteAt (by decide) rfl rfl (Nat.le_of_ble_eq_true rfl) dX2_spoilByte_3 ⟨Nat.le_refl _, Nat.le_refl _⟩ (rI fun r1 g2 q3 => ?_)
  obtain ⟨eg2, p4⟩ := q3
  subst g2
  refine m_istore C [(4, .int r1), (0, .ref (aL X 25)), (1, .int h), (2, .int k), (3, .int mask)] dX2_spoilByte_6 (by decide) rfl ?_
  refine m_aload_n C dX2_spoilByte_8 1 rfl ?_
  refine m_getr (rf := "") C 0 rfl gd2 (by decide) sh_25 rfl dX2_spoilByte_9 lk_X2_9 ?_
  refine m_iload_n C dX2_spoilByte_12 2 rfl ?_
  refine m_bipush C (8 : Int32) dX2_spoilByte_13 (by decide) ?_
  refine m_imul C dX2_spoilByte_15 ?_
  refine m_iload_n C dX2_spoilByte_16 3 rfl ?_
  refine m_iconst C (2 : Int32) dX2_spoilByte_17 (by decide) ?_
  refine m_ishr C dX2_spoilByte_18 ?_
  refine m_iadd C dX2_spoilByte_19 ?_
  refine m_dup2 C dX2_spoilByte_20 rfl rfl ?_
  have t6 : (h * (8 : Int32)).toInt = h.toInt * (8 : Int) := i_mul rfl (by decide) (by omega) (by omega)
  have t7 : (k >>> ((2 : Int32) &&& 31)).toInt = k.toInt / 4 := i_shr rfl 2 (by decide)
  have t8 : ((h * (8 : Int32)) + (k >>> ((2 : Int32) &&& 31))).toInt = (h.toInt * (8 : Int)) + (k.toInt / 4) := i_add t6 t7 (by omega) (by omega)
  refine m_iald C sh_26 (i_in (by omega) (by omega)) dX2_spoilByte_21 ?_
  refine m_iload_n C dX2_spoilByte_22 4 rfl ?_
  refine m_bipush C (24 : Int32) dX2_spoilByte_23 (by decide) ?_
  refine m_bipush C (8 : Int32) dX2_spoilByte_25 (by decide) ?_
  refine m_iload_n C dX2_spoilByte_27 3 rfl ?_
  refine m_iconst C (3 : Int32) dX2_spoilByte_28 (by decide) ?_
  refine m_iand C dX2_spoilByte_29 ?_
  refine m_imul C dX2_spoilByte_30 ?_
  refine m_isub C dX2_spoilByte_31 ?_
  refine m_ishl C dX2_spoilByte_32 ?_
  refine m_ixor C dX2_spoilByte_33 ?_
  have t9 : (h * (8 : Int32)).toInt = h.toInt * (8 : Int) := i_mul rfl (by decide) (by omega) (by omega)
  have t10 : (k >>> ((2 : Int32) &&& 31)).toInt = k.toInt / 4 := i_shr rfl 2 (by decide)
  have t11 : ((h * (8 : Int32)) + (k >>> ((2 : Int32) &&& 31))).toInt = (h.toInt * (8 : Int)) + (k.toInt / 4) := i_add t9 t10 (by omega) (by omega)
  refine m_iast C sh_26 (i_in (by omega) (by omega)) dX2_spoilByte_34 ?_
  refine m_mem (fun g12 eg12 => ?_)
  have hI13 : Inv g12 := by rw [eg12]; exact hI.up (ok_any (by decide))
  have hK14 : Kp [26] g g12 := by rw [eg12]; exact Kp.up Kp.rf (by decide) (Or.inl (by decide)) (Or.inl (by decide))
  refine m_iload C dX2_spoilByte_35 0 rfl ?_
  exact m_iret C dX2_spoilByte_37 ⟨_, rfl, hI13, hK14⟩
set_option maxRecDepth 20000 in
set_option maxHeartbeats 4000000 in
theorem c_X2_copyFrom_32_14 (l : Launch) {X : XT} (hX : Lok X) (g : Mem) (h : Int32) (q : Int32) (hI : Inv g) (h_h : 0 ≤ h.toInt ∧ h.toInt ≤ 0) (h_q : 0 ≤ q.toInt ∧ q.toInt ≤ 126) : Ctr l X yX2_copyFrom cX2_copyFrom 5 none (rmD 0) [.ref (aL X 32), .int h, .ref (aL X 14), .int q] g (pV (fun g2 => Inv g2 ∧ Kp [33] g g2)) := by
  refine Ctr.of (lv := [(0, .ref (aL X 32)), (1, .int h), (2, .ref (aL X 14)), (3, .int q)]) hX (by decide) rfl (Nat.le_of_ble_eq_true rfl) ?_
  intro p e s m below meth c C
  refine m_iconst C (0 : Int32) dX2_copyFrom_0 (by decide) ?_
  refine m_istore C [(4, .int (0 : Int32)), (0, .ref (aL X 32)), (1, .int h), (2, .ref (aL X 14)), (3, .int q)] dX2_copyFrom_1 (by decide) rfl ?_
  have L3 : ∀ (n3 : Nat) (x2 : Int32) (g3 : Mem), (9 - x2.toInt).toNat < n3 → Inv g3 → Kp [33] g g3 → 0 ≤ x2.toInt ∧ x2.toInt ≤ 8 → Wm X p l e (rmD 0) s m ([.ref (aL X 32), .int h, .ref (aL X 14), .int q] : List Value).toArray below meth c 5 0 0 (MQ below (cQ X (pV (fun g2 => Inv g2 ∧ Kp [33] g g2))) ([.ref (aL X 32), .int h, .ref (aL X 14), .int q] : List Value).toArray s 0 0 (Ab X)) g3 3 [(0, .ref (aL X 32)), (1, .int h), (2, .ref (aL X 14)), (3, .int q), (4, .int x2)] [] := by
    intro n3
    induction n3 with
    | zero => intro x2 g3 hm; exact absurd hm (Nat.not_lt_zero _)
    | succ n3 ih3 =>
      intro x2 g3 hm3 hI4 hK5 i6
      try obtain ⟨i6a, i6b⟩ := i6
      refine m_iload C dX2_copyFrom_3 4 rfl ?_
      refine m_bipush C (8 : Int32) dX2_copyFrom_5 (by decide) ?_
      refine m_icmp_ge C 40 dX2_copyFrom_7 (by decide) (fun h7 => ?_) (fun h7 => ?_)
      · skip
        have th7 := i_le h7
        rw [show (8 : Int32).toInt = 8 by decide] at th7
        exact m_vret C dX2_copyFrom_40 ⟨rfl, hI4, hK5⟩
      · skip
        have th7 := i_nle h7
        rw [show (8 : Int32).toInt = 8 by decide] at th7
        refine m_aload_n C dX2_copyFrom_10 0 rfl ?_
        refine m_getr (rf := "") C 0 rfl gd2 (by decide) sh_32 rfl dX2_copyFrom_11 lk_X2_9 ?_
        refine m_iload_n C dX2_copyFrom_14 1 rfl ?_
        refine m_bipush C (8 : Int32) dX2_copyFrom_15 (by decide) ?_
        refine m_imul C dX2_copyFrom_17 ?_
        refine m_iload C dX2_copyFrom_18 4 rfl ?_
        refine m_iadd C dX2_copyFrom_20 ?_
        refine m_aload_n C dX2_copyFrom_21 2 rfl ?_
        refine m_getr (rf := "") C 0 rfl gd2 (by decide) sh_14 rfl dX2_copyFrom_22 lk_X2_9 ?_
        refine m_iload_n C dX2_copyFrom_25 3 rfl ?_
        refine m_bipush C (8 : Int32) dX2_copyFrom_26 (by decide) ?_
        refine m_imul C dX2_copyFrom_28 ?_
        refine m_iload C dX2_copyFrom_29 4 rfl ?_
        refine m_iadd C dX2_copyFrom_31 ?_
        have t8 : (q * (8 : Int32)).toInt = q.toInt * (8 : Int) := i_mul rfl (by decide) (by omega) (by omega)
        have t9 : ((q * (8 : Int32)) + x2).toInt = (q.toInt * (8 : Int)) + x2.toInt := i_add t8 rfl (by omega) (by omega)
        refine m_iald C sh_15 (i_in (by omega) (by omega)) dX2_copyFrom_32 ?_
        have t10 : (h * (8 : Int32)).toInt = h.toInt * (8 : Int) := i_mul rfl (by decide) (by omega) (by omega)
        have t11 : ((h * (8 : Int32)) + x2).toInt = (h.toInt * (8 : Int)) + x2.toInt := i_add t10 rfl (by omega) (by omega)
        refine m_iast C sh_33 (i_in (by omega) (by omega)) dX2_copyFrom_33 ?_
        refine m_mem (fun g12 eg12 => ?_)
        have hI13 : Inv g12 := by rw [eg12]; exact hI4.up (ok_any (by decide))
        have hK14 : Kp [33] g g12 := by rw [eg12]; exact Kp.up hK5 (by decide) (Or.inl (by decide)) (Or.inl (by decide))
        obtain ⟨x15, ex15⟩ : ∃ z : Int32, z = x2 + Int32.ofInt 1 := ⟨_, rfl⟩
        have t16 : (x2 + (Int32.ofInt 1)).toInt = x2.toInt + (1 : Int) := i_add rfl (by decide) (by omega) (by omega)
        have t17 : x15.toInt = (x2.toInt + (1 : Int)) := (congrArg Int32.toInt ex15).trans t16
        refine m_iinc C x15 [(4, .int x15), (0, .ref (aL X 32)), (1, .int h), (2, .ref (aL X 14)), (3, .int q)] dX2_copyFrom_34 (q := 4) rfl ex15.symm (by decide) rfl ?_
        refine m_goto C 3 dX2_copyFrom_37 (by decide) ?_
        refine m_lv [1, 2, 3, 4, 0] rfl ?_
        exact ih3 x15 g12 (by omega) hI13 hK14 (by omega)
  have t18 : (0 : Int32).toInt = 0 := by decide
  refine m_lv [1, 2, 3, 4, 0] rfl ?_
  exact L3 (((9 - (0 : Int32).toInt).toNat) + 1) (0 : Int32) g (Nat.lt_succ_self _) hI Kp.rf (by omega)
set_option maxRecDepth 20000 in
set_option maxHeartbeats 4000000 in
theorem c_X2_copyFrom_21_14 (l : Launch) {X : XT} (hX : Lok X) (g : Mem) (h : Int32) (q : Int32) (hI : Inv g) (h_h : 0 ≤ h.toInt ∧ h.toInt ≤ 7) (h_q : 0 ≤ q.toInt ∧ q.toInt ≤ 126) : Ctr l X yX2_copyFrom cX2_copyFrom 5 none (rmD 0) [.ref (aL X 21), .int h, .ref (aL X 14), .int q] g (pV (fun g2 => Inv g2 ∧ Kp [22] g g2)) := by
  refine Ctr.of (lv := [(0, .ref (aL X 21)), (1, .int h), (2, .ref (aL X 14)), (3, .int q)]) hX (by decide) rfl (Nat.le_of_ble_eq_true rfl) ?_
  intro p e s m below meth c C
  refine m_iconst C (0 : Int32) dX2_copyFrom_0 (by decide) ?_
  refine m_istore C [(4, .int (0 : Int32)), (0, .ref (aL X 21)), (1, .int h), (2, .ref (aL X 14)), (3, .int q)] dX2_copyFrom_1 (by decide) rfl ?_
  have L3 : ∀ (n3 : Nat) (x2 : Int32) (g3 : Mem), (9 - x2.toInt).toNat < n3 → Inv g3 → Kp [22] g g3 → 0 ≤ x2.toInt ∧ x2.toInt ≤ 8 → Wm X p l e (rmD 0) s m ([.ref (aL X 21), .int h, .ref (aL X 14), .int q] : List Value).toArray below meth c 5 0 0 (MQ below (cQ X (pV (fun g2 => Inv g2 ∧ Kp [22] g g2))) ([.ref (aL X 21), .int h, .ref (aL X 14), .int q] : List Value).toArray s 0 0 (Ab X)) g3 3 [(0, .ref (aL X 21)), (1, .int h), (2, .ref (aL X 14)), (3, .int q), (4, .int x2)] [] := by
    intro n3
    induction n3 with
    | zero => intro x2 g3 hm; exact absurd hm (Nat.not_lt_zero _)
    | succ n3 ih3 =>
      intro x2 g3 hm3 hI4 hK5 i6
      try obtain ⟨i6a, i6b⟩ := i6
      refine m_iload C dX2_copyFrom_3 4 rfl ?_
      refine m_bipush C (8 : Int32) dX2_copyFrom_5 (by decide) ?_
      refine m_icmp_ge C 40 dX2_copyFrom_7 (by decide) (fun h7 => ?_) (fun h7 => ?_)
      · skip
        have th7 := i_le h7
        rw [show (8 : Int32).toInt = 8 by decide] at th7
        exact m_vret C dX2_copyFrom_40 ⟨rfl, hI4, hK5⟩
      · skip
        have th7 := i_nle h7
        rw [show (8 : Int32).toInt = 8 by decide] at th7
        refine m_aload_n C dX2_copyFrom_10 0 rfl ?_
        refine m_getr (rf := "") C 0 rfl gd2 (by decide) sh_21 rfl dX2_copyFrom_11 lk_X2_9 ?_
        refine m_iload_n C dX2_copyFrom_14 1 rfl ?_
        refine m_bipush C (8 : Int32) dX2_copyFrom_15 (by decide) ?_
        refine m_imul C dX2_copyFrom_17 ?_
        refine m_iload C dX2_copyFrom_18 4 rfl ?_
        refine m_iadd C dX2_copyFrom_20 ?_
        refine m_aload_n C dX2_copyFrom_21 2 rfl ?_
        refine m_getr (rf := "") C 0 rfl gd2 (by decide) sh_14 rfl dX2_copyFrom_22 lk_X2_9 ?_
        refine m_iload_n C dX2_copyFrom_25 3 rfl ?_
        refine m_bipush C (8 : Int32) dX2_copyFrom_26 (by decide) ?_
        refine m_imul C dX2_copyFrom_28 ?_
        refine m_iload C dX2_copyFrom_29 4 rfl ?_
        refine m_iadd C dX2_copyFrom_31 ?_
        have t8 : (q * (8 : Int32)).toInt = q.toInt * (8 : Int) := i_mul rfl (by decide) (by omega) (by omega)
        have t9 : ((q * (8 : Int32)) + x2).toInt = (q.toInt * (8 : Int)) + x2.toInt := i_add t8 rfl (by omega) (by omega)
        refine m_iald C sh_15 (i_in (by omega) (by omega)) dX2_copyFrom_32 ?_
        have t10 : (h * (8 : Int32)).toInt = h.toInt * (8 : Int) := i_mul rfl (by decide) (by omega) (by omega)
        have t11 : ((h * (8 : Int32)) + x2).toInt = (h.toInt * (8 : Int)) + x2.toInt := i_add t10 rfl (by omega) (by omega)
        refine m_iast C sh_22 (i_in (by omega) (by omega)) dX2_copyFrom_33 ?_
        refine m_mem (fun g12 eg12 => ?_)
        have hI13 : Inv g12 := by rw [eg12]; exact hI4.up (ok_any (by decide))
        have hK14 : Kp [22] g g12 := by rw [eg12]; exact Kp.up hK5 (by decide) (Or.inl (by decide)) (Or.inl (by decide))
        obtain ⟨x15, ex15⟩ : ∃ z : Int32, z = x2 + Int32.ofInt 1 := ⟨_, rfl⟩
        have t16 : (x2 + (Int32.ofInt 1)).toInt = x2.toInt + (1 : Int) := i_add rfl (by decide) (by omega) (by omega)
        have t17 : x15.toInt = (x2.toInt + (1 : Int)) := (congrArg Int32.toInt ex15).trans t16
        refine m_iinc C x15 [(4, .int x15), (0, .ref (aL X 21)), (1, .int h), (2, .ref (aL X 14)), (3, .int q)] dX2_copyFrom_34 (q := 4) rfl ex15.symm (by decide) rfl ?_
        refine m_goto C 3 dX2_copyFrom_37 (by decide) ?_
        refine m_lv [1, 2, 3, 4, 0] rfl ?_
        exact ih3 x15 g12 (by omega) hI13 hK14 (by omega)
  have t18 : (0 : Int32).toInt = 0 := by decide
  refine m_lv [1, 2, 3, 4, 0] rfl ?_
  exact L3 (((9 - (0 : Int32).toInt).toNat) + 1) (0 : Int32) g (Nat.lt_succ_self _) hI Kp.rf (by omega)
set_option maxRecDepth 20000 in
set_option maxHeartbeats 4000000 in
theorem c_X2_copyFrom_25_14 (l : Launch) {X : XT} (hX : Lok X) (g : Mem) (h : Int32) (q : Int32) (hI : Inv g) (h_h : 0 ≤ h.toInt ∧ h.toInt ≤ 3) (h_q : 0 ≤ q.toInt ∧ q.toInt ≤ 126) : Ctr l X yX2_copyFrom cX2_copyFrom 5 none (rmD 0) [.ref (aL X 25), .int h, .ref (aL X 14), .int q] g (pV (fun g2 => Inv g2 ∧ Kp [26] g g2)) := by
  refine Ctr.of (lv := [(0, .ref (aL X 25)), (1, .int h), (2, .ref (aL X 14)), (3, .int q)]) hX (by decide) rfl (Nat.le_of_ble_eq_true rfl) ?_
  intro p e s m below meth c C
  refine m_iconst C (0 : Int32) dX2_copyFrom_0 (by decide) ?_
  refine m_istore C [(4, .int (0 : Int32)), (0, .ref (aL X 25)), (1, .int h), (2, .ref (aL X 14)), (3, .int q)] dX2_copyFrom_1 (by decide) rfl ?_
  have L3 : ∀ (n3 : Nat) (x2 : Int32) (g3 : Mem), (9 - x2.toInt).toNat < n3 → Inv g3 → Kp [26] g g3 → 0 ≤ x2.toInt ∧ x2.toInt ≤ 8 → Wm X p l e (rmD 0) s m ([.ref (aL X 25), .int h, .ref (aL X 14), .int q] : List Value).toArray below meth c 5 0 0 (MQ below (cQ X (pV (fun g2 => Inv g2 ∧ Kp [26] g g2))) ([.ref (aL X 25), .int h, .ref (aL X 14), .int q] : List Value).toArray s 0 0 (Ab X)) g3 3 [(0, .ref (aL X 25)), (1, .int h), (2, .ref (aL X 14)), (3, .int q), (4, .int x2)] [] := by
    intro n3
    induction n3 with
    | zero => intro x2 g3 hm; exact absurd hm (Nat.not_lt_zero _)
    | succ n3 ih3 =>
      intro x2 g3 hm3 hI4 hK5 i6
      try obtain ⟨i6a, i6b⟩ := i6
      refine m_iload C dX2_copyFrom_3 4 rfl ?_
      refine m_bipush C (8 : Int32) dX2_copyFrom_5 (by decide) ?_
      refine m_icmp_ge C 40 dX2_copyFrom_7 (by decide) (fun h7 => ?_) (fun h7 => ?_)
      · skip
        have th7 := i_le h7
        rw [show (8 : Int32).toInt = 8 by decide] at th7
        exact m_vret C dX2_copyFrom_40 ⟨rfl, hI4, hK5⟩
      · skip
        have th7 := i_nle h7
        rw [show (8 : Int32).toInt = 8 by decide] at th7
        refine m_aload_n C dX2_copyFrom_10 0 rfl ?_
        refine m_getr (rf := "") C 0 rfl gd2 (by decide) sh_25 rfl dX2_copyFrom_11 lk_X2_9 ?_
        refine m_iload_n C dX2_copyFrom_14 1 rfl ?_
        refine m_bipush C (8 : Int32) dX2_copyFrom_15 (by decide) ?_
        refine m_imul C dX2_copyFrom_17 ?_
        refine m_iload C dX2_copyFrom_18 4 rfl ?_
        refine m_iadd C dX2_copyFrom_20 ?_
        refine m_aload_n C dX2_copyFrom_21 2 rfl ?_
        refine m_getr (rf := "") C 0 rfl gd2 (by decide) sh_14 rfl dX2_copyFrom_22 lk_X2_9 ?_
        refine m_iload_n C dX2_copyFrom_25 3 rfl ?_
        refine m_bipush C (8 : Int32) dX2_copyFrom_26 (by decide) ?_
        refine m_imul C dX2_copyFrom_28 ?_
        refine m_iload C dX2_copyFrom_29 4 rfl ?_
        refine m_iadd C dX2_copyFrom_31 ?_
        have t8 : (q * (8 : Int32)).toInt = q.toInt * (8 : Int) := i_mul rfl (by decide) (by omega) (by omega)
        have t9 : ((q * (8 : Int32)) + x2).toInt = (q.toInt * (8 : Int)) + x2.toInt := i_add t8 rfl (by omega) (by omega)
        refine m_iald C sh_15 (i_in (by omega) (by omega)) dX2_copyFrom_32 ?_
        have t10 : (h * (8 : Int32)).toInt = h.toInt * (8 : Int) := i_mul rfl (by decide) (by omega) (by omega)
        have t11 : ((h * (8 : Int32)) + x2).toInt = (h.toInt * (8 : Int)) + x2.toInt := i_add t10 rfl (by omega) (by omega)
        refine m_iast C sh_26 (i_in (by omega) (by omega)) dX2_copyFrom_33 ?_
        refine m_mem (fun g12 eg12 => ?_)
        have hI13 : Inv g12 := by rw [eg12]; exact hI4.up (ok_any (by decide))
        have hK14 : Kp [26] g g12 := by rw [eg12]; exact Kp.up hK5 (by decide) (Or.inl (by decide)) (Or.inl (by decide))
        obtain ⟨x15, ex15⟩ : ∃ z : Int32, z = x2 + Int32.ofInt 1 := ⟨_, rfl⟩
        have t16 : (x2 + (Int32.ofInt 1)).toInt = x2.toInt + (1 : Int) := i_add rfl (by decide) (by omega) (by omega)
        have t17 : x15.toInt = (x2.toInt + (1 : Int)) := (congrArg Int32.toInt ex15).trans t16
        refine m_iinc C x15 [(4, .int x15), (0, .ref (aL X 25)), (1, .int h), (2, .ref (aL X 14)), (3, .int q)] dX2_copyFrom_34 (q := 4) rfl ex15.symm (by decide) rfl ?_
        refine m_goto C 3 dX2_copyFrom_37 (by decide) ?_
        refine m_lv [1, 2, 3, 4, 0] rfl ?_
        exact ih3 x15 g12 (by omega) hI13 hK14 (by omega)
  have t18 : (0 : Int32).toInt = 0 := by decide
  refine m_lv [1, 2, 3, 4, 0] rfl ?_
  exact L3 (((9 - (0 : Int32).toInt).toNat) + 1) (0 : Int32) g (Nat.lt_succ_self _) hI Kp.rf (by omega)
set_option maxRecDepth 20000 in
set_option maxHeartbeats 4000000 in
theorem c_X2_copyFrom_28_32 (l : Launch) {X : XT} (hX : Lok X) (g : Mem) (h : Int32) (q : Int32) (hI : Inv g) (h_h : 0 ≤ h.toInt ∧ h.toInt ≤ 1) (h_q : 0 ≤ q.toInt ∧ q.toInt ≤ 0) : Ctr l X yX2_copyFrom cX2_copyFrom 5 none (rmD 0) [.ref (aL X 28), .int h, .ref (aL X 32), .int q] g (pV (fun g2 => Inv g2 ∧ Kp [29] g g2)) := by
  refine Ctr.of (lv := [(0, .ref (aL X 28)), (1, .int h), (2, .ref (aL X 32)), (3, .int q)]) hX (by decide) rfl (Nat.le_of_ble_eq_true rfl) ?_
  intro p e s m below meth c C
  refine m_iconst C (0 : Int32) dX2_copyFrom_0 (by decide) ?_
  refine m_istore C [(4, .int (0 : Int32)), (0, .ref (aL X 28)), (1, .int h), (2, .ref (aL X 32)), (3, .int q)] dX2_copyFrom_1 (by decide) rfl ?_
  have L3 : ∀ (n3 : Nat) (x2 : Int32) (g3 : Mem), (9 - x2.toInt).toNat < n3 → Inv g3 → Kp [29] g g3 → 0 ≤ x2.toInt ∧ x2.toInt ≤ 8 → Wm X p l e (rmD 0) s m ([.ref (aL X 28), .int h, .ref (aL X 32), .int q] : List Value).toArray below meth c 5 0 0 (MQ below (cQ X (pV (fun g2 => Inv g2 ∧ Kp [29] g g2))) ([.ref (aL X 28), .int h, .ref (aL X 32), .int q] : List Value).toArray s 0 0 (Ab X)) g3 3 [(0, .ref (aL X 28)), (1, .int h), (2, .ref (aL X 32)), (3, .int q), (4, .int x2)] [] := by
    intro n3
    induction n3 with
    | zero => intro x2 g3 hm; exact absurd hm (Nat.not_lt_zero _)
    | succ n3 ih3 =>
      intro x2 g3 hm3 hI4 hK5 i6
      try obtain ⟨i6a, i6b⟩ := i6
      refine m_iload C dX2_copyFrom_3 4 rfl ?_
      refine m_bipush C (8 : Int32) dX2_copyFrom_5 (by decide) ?_
      refine m_icmp_ge C 40 dX2_copyFrom_7 (by decide) (fun h7 => ?_) (fun h7 => ?_)
      · skip
        have th7 := i_le h7
        rw [show (8 : Int32).toInt = 8 by decide] at th7
        exact m_vret C dX2_copyFrom_40 ⟨rfl, hI4, hK5⟩
      · skip
        have th7 := i_nle h7
        rw [show (8 : Int32).toInt = 8 by decide] at th7
        refine m_aload_n C dX2_copyFrom_10 0 rfl ?_
        refine m_getr (rf := "") C 0 rfl gd2 (by decide) sh_28 rfl dX2_copyFrom_11 lk_X2_9 ?_
        refine m_iload_n C dX2_copyFrom_14 1 rfl ?_
        refine m_bipush C (8 : Int32) dX2_copyFrom_15 (by decide) ?_
        refine m_imul C dX2_copyFrom_17 ?_
        refine m_iload C dX2_copyFrom_18 4 rfl ?_
        refine m_iadd C dX2_copyFrom_20 ?_
        refine m_aload_n C dX2_copyFrom_21 2 rfl ?_
        refine m_getr (rf := "") C 0 rfl gd2 (by decide) sh_32 rfl dX2_copyFrom_22 lk_X2_9 ?_
        refine m_iload_n C dX2_copyFrom_25 3 rfl ?_
        refine m_bipush C (8 : Int32) dX2_copyFrom_26 (by decide) ?_
        refine m_imul C dX2_copyFrom_28 ?_
        refine m_iload C dX2_copyFrom_29 4 rfl ?_
        refine m_iadd C dX2_copyFrom_31 ?_
        have t8 : (q * (8 : Int32)).toInt = q.toInt * (8 : Int) := i_mul rfl (by decide) (by omega) (by omega)
        have t9 : ((q * (8 : Int32)) + x2).toInt = (q.toInt * (8 : Int)) + x2.toInt := i_add t8 rfl (by omega) (by omega)
        refine m_iald C sh_33 (i_in (by omega) (by omega)) dX2_copyFrom_32 ?_
        have t10 : (h * (8 : Int32)).toInt = h.toInt * (8 : Int) := i_mul rfl (by decide) (by omega) (by omega)
        have t11 : ((h * (8 : Int32)) + x2).toInt = (h.toInt * (8 : Int)) + x2.toInt := i_add t10 rfl (by omega) (by omega)
        refine m_iast C sh_29 (i_in (by omega) (by omega)) dX2_copyFrom_33 ?_
        refine m_mem (fun g12 eg12 => ?_)
        have hI13 : Inv g12 := by rw [eg12]; exact hI4.up (ok_any (by decide))
        have hK14 : Kp [29] g g12 := by rw [eg12]; exact Kp.up hK5 (by decide) (Or.inl (by decide)) (Or.inl (by decide))
        obtain ⟨x15, ex15⟩ : ∃ z : Int32, z = x2 + Int32.ofInt 1 := ⟨_, rfl⟩
        have t16 : (x2 + (Int32.ofInt 1)).toInt = x2.toInt + (1 : Int) := i_add rfl (by decide) (by omega) (by omega)
        have t17 : x15.toInt = (x2.toInt + (1 : Int)) := (congrArg Int32.toInt ex15).trans t16
        refine m_iinc C x15 [(4, .int x15), (0, .ref (aL X 28)), (1, .int h), (2, .ref (aL X 32)), (3, .int q)] dX2_copyFrom_34 (q := 4) rfl ex15.symm (by decide) rfl ?_
        refine m_goto C 3 dX2_copyFrom_37 (by decide) ?_
        refine m_lv [1, 2, 3, 4, 0] rfl ?_
        exact ih3 x15 g12 (by omega) hI13 hK14 (by omega)
  have t18 : (0 : Int32).toInt = 0 := by decide
  refine m_lv [1, 2, 3, 4, 0] rfl ?_
  exact L3 (((9 - (0 : Int32).toInt).toNat) + 1) (0 : Int32) g (Nat.lt_succ_self _) hI Kp.rf (by omega)
set_option maxRecDepth 20000 in
set_option maxHeartbeats 4000000 in
theorem c_X2_copyFrom_28_25 (l : Launch) {X : XT} (hX : Lok X) (g : Mem) (h : Int32) (q : Int32) (hI : Inv g) (h_h : 0 ≤ h.toInt ∧ h.toInt ≤ 1) (h_q : 0 ≤ q.toInt ∧ q.toInt ≤ 3) : Ctr l X yX2_copyFrom cX2_copyFrom 5 none (rmD 0) [.ref (aL X 28), .int h, .ref (aL X 25), .int q] g (pV (fun g2 => Inv g2 ∧ Kp [29] g g2)) := by
  refine Ctr.of (lv := [(0, .ref (aL X 28)), (1, .int h), (2, .ref (aL X 25)), (3, .int q)]) hX (by decide) rfl (Nat.le_of_ble_eq_true rfl) ?_
  intro p e s m below meth c C
  refine m_iconst C (0 : Int32) dX2_copyFrom_0 (by decide) ?_
  refine m_istore C [(4, .int (0 : Int32)), (0, .ref (aL X 28)), (1, .int h), (2, .ref (aL X 25)), (3, .int q)] dX2_copyFrom_1 (by decide) rfl ?_
  have L3 : ∀ (n3 : Nat) (x2 : Int32) (g3 : Mem), (9 - x2.toInt).toNat < n3 → Inv g3 → Kp [29] g g3 → 0 ≤ x2.toInt ∧ x2.toInt ≤ 8 → Wm X p l e (rmD 0) s m ([.ref (aL X 28), .int h, .ref (aL X 25), .int q] : List Value).toArray below meth c 5 0 0 (MQ below (cQ X (pV (fun g2 => Inv g2 ∧ Kp [29] g g2))) ([.ref (aL X 28), .int h, .ref (aL X 25), .int q] : List Value).toArray s 0 0 (Ab X)) g3 3 [(0, .ref (aL X 28)), (1, .int h), (2, .ref (aL X 25)), (3, .int q), (4, .int x2)] [] := by
    intro n3
    induction n3 with
    | zero => intro x2 g3 hm; exact absurd hm (Nat.not_lt_zero _)
    | succ n3 ih3 =>
      intro x2 g3 hm3 hI4 hK5 i6
      try obtain ⟨i6a, i6b⟩ := i6
      refine m_iload C dX2_copyFrom_3 4 rfl ?_
      refine m_bipush C (8 : Int32) dX2_copyFrom_5 (by decide) ?_
      refine m_icmp_ge C 40 dX2_copyFrom_7 (by decide) (fun h7 => ?_) (fun h7 => ?_)
      · skip
        have th7 := i_le h7
        rw [show (8 : Int32).toInt = 8 by decide] at th7
        exact m_vret C dX2_copyFrom_40 ⟨rfl, hI4, hK5⟩
      · skip
        have th7 := i_nle h7
        rw [show (8 : Int32).toInt = 8 by decide] at th7
        refine m_aload_n C dX2_copyFrom_10 0 rfl ?_
        refine m_getr (rf := "") C 0 rfl gd2 (by decide) sh_28 rfl dX2_copyFrom_11 lk_X2_9 ?_
        refine m_iload_n C dX2_copyFrom_14 1 rfl ?_
        refine m_bipush C (8 : Int32) dX2_copyFrom_15 (by decide) ?_
        refine m_imul C dX2_copyFrom_17 ?_
        refine m_iload C dX2_copyFrom_18 4 rfl ?_
        refine m_iadd C dX2_copyFrom_20 ?_
        refine m_aload_n C dX2_copyFrom_21 2 rfl ?_
        refine m_getr (rf := "") C 0 rfl gd2 (by decide) sh_25 rfl dX2_copyFrom_22 lk_X2_9 ?_
        refine m_iload_n C dX2_copyFrom_25 3 rfl ?_
        refine m_bipush C (8 : Int32) dX2_copyFrom_26 (by decide) ?_
        refine m_imul C dX2_copyFrom_28 ?_
        refine m_iload C dX2_copyFrom_29 4 rfl ?_
        refine m_iadd C dX2_copyFrom_31 ?_
        have t8 : (q * (8 : Int32)).toInt = q.toInt * (8 : Int) := i_mul rfl (by decide) (by omega) (by omega)
        have t9 : ((q * (8 : Int32)) + x2).toInt = (q.toInt * (8 : Int)) + x2.toInt := i_add t8 rfl (by omega) (by omega)
        refine m_iald C sh_26 (i_in (by omega) (by omega)) dX2_copyFrom_32 ?_
        have t10 : (h * (8 : Int32)).toInt = h.toInt * (8 : Int) := i_mul rfl (by decide) (by omega) (by omega)
        have t11 : ((h * (8 : Int32)) + x2).toInt = (h.toInt * (8 : Int)) + x2.toInt := i_add t10 rfl (by omega) (by omega)
        refine m_iast C sh_29 (i_in (by omega) (by omega)) dX2_copyFrom_33 ?_
        refine m_mem (fun g12 eg12 => ?_)
        have hI13 : Inv g12 := by rw [eg12]; exact hI4.up (ok_any (by decide))
        have hK14 : Kp [29] g g12 := by rw [eg12]; exact Kp.up hK5 (by decide) (Or.inl (by decide)) (Or.inl (by decide))
        obtain ⟨x15, ex15⟩ : ∃ z : Int32, z = x2 + Int32.ofInt 1 := ⟨_, rfl⟩
        have t16 : (x2 + (Int32.ofInt 1)).toInt = x2.toInt + (1 : Int) := i_add rfl (by decide) (by omega) (by omega)
        have t17 : x15.toInt = (x2.toInt + (1 : Int)) := (congrArg Int32.toInt ex15).trans t16
        refine m_iinc C x15 [(4, .int x15), (0, .ref (aL X 28)), (1, .int h), (2, .ref (aL X 25)), (3, .int q)] dX2_copyFrom_34 (q := 4) rfl ex15.symm (by decide) rfl ?_
        refine m_goto C 3 dX2_copyFrom_37 (by decide) ?_
        refine m_lv [1, 2, 3, 4, 0] rfl ?_
        exact ih3 x15 g12 (by omega) hI13 hK14 (by omega)
  have t18 : (0 : Int32).toInt = 0 := by decide
  refine m_lv [1, 2, 3, 4, 0] rfl ?_
  exact L3 (((9 - (0 : Int32).toInt).toNat) + 1) (0 : Int32) g (Nat.lt_succ_self _) hI Kp.rf (by omega)
set_option maxRecDepth 20000 in
set_option maxHeartbeats 4000000 in
theorem c_X2_copyFrom_28_21 (l : Launch) {X : XT} (hX : Lok X) (g : Mem) (h : Int32) (q : Int32) (hI : Inv g) (h_h : 0 ≤ h.toInt ∧ h.toInt ≤ 1) (h_q : 0 ≤ q.toInt ∧ q.toInt ≤ 7) : Ctr l X yX2_copyFrom cX2_copyFrom 5 none (rmD 0) [.ref (aL X 28), .int h, .ref (aL X 21), .int q] g (pV (fun g2 => Inv g2 ∧ Kp [29] g g2)) := by
  refine Ctr.of (lv := [(0, .ref (aL X 28)), (1, .int h), (2, .ref (aL X 21)), (3, .int q)]) hX (by decide) rfl (Nat.le_of_ble_eq_true rfl) ?_
  intro p e s m below meth c C
  refine m_iconst C (0 : Int32) dX2_copyFrom_0 (by decide) ?_
  refine m_istore C [(4, .int (0 : Int32)), (0, .ref (aL X 28)), (1, .int h), (2, .ref (aL X 21)), (3, .int q)] dX2_copyFrom_1 (by decide) rfl ?_
  have L3 : ∀ (n3 : Nat) (x2 : Int32) (g3 : Mem), (9 - x2.toInt).toNat < n3 → Inv g3 → Kp [29] g g3 → 0 ≤ x2.toInt ∧ x2.toInt ≤ 8 → Wm X p l e (rmD 0) s m ([.ref (aL X 28), .int h, .ref (aL X 21), .int q] : List Value).toArray below meth c 5 0 0 (MQ below (cQ X (pV (fun g2 => Inv g2 ∧ Kp [29] g g2))) ([.ref (aL X 28), .int h, .ref (aL X 21), .int q] : List Value).toArray s 0 0 (Ab X)) g3 3 [(0, .ref (aL X 28)), (1, .int h), (2, .ref (aL X 21)), (3, .int q), (4, .int x2)] [] := by
    intro n3
    induction n3 with
    | zero => intro x2 g3 hm; exact absurd hm (Nat.not_lt_zero _)
    | succ n3 ih3 =>
      intro x2 g3 hm3 hI4 hK5 i6
      try obtain ⟨i6a, i6b⟩ := i6
      refine m_iload C dX2_copyFrom_3 4 rfl ?_
      refine m_bipush C (8 : Int32) dX2_copyFrom_5 (by decide) ?_
      refine m_icmp_ge C 40 dX2_copyFrom_7 (by decide) (fun h7 => ?_) (fun h7 => ?_)
      · skip
        have th7 := i_le h7
        rw [show (8 : Int32).toInt = 8 by decide] at th7
        exact m_vret C dX2_copyFrom_40 ⟨rfl, hI4, hK5⟩
      · skip
        have th7 := i_nle h7
        rw [show (8 : Int32).toInt = 8 by decide] at th7
        refine m_aload_n C dX2_copyFrom_10 0 rfl ?_
        refine m_getr (rf := "") C 0 rfl gd2 (by decide) sh_28 rfl dX2_copyFrom_11 lk_X2_9 ?_
        refine m_iload_n C dX2_copyFrom_14 1 rfl ?_
        refine m_bipush C (8 : Int32) dX2_copyFrom_15 (by decide) ?_
        refine m_imul C dX2_copyFrom_17 ?_
        refine m_iload C dX2_copyFrom_18 4 rfl ?_
        refine m_iadd C dX2_copyFrom_20 ?_
        refine m_aload_n C dX2_copyFrom_21 2 rfl ?_
        refine m_getr (rf := "") C 0 rfl gd2 (by decide) sh_21 rfl dX2_copyFrom_22 lk_X2_9 ?_
        refine m_iload_n C dX2_copyFrom_25 3 rfl ?_
        refine m_bipush C (8 : Int32) dX2_copyFrom_26 (by decide) ?_
        refine m_imul C dX2_copyFrom_28 ?_
        refine m_iload C dX2_copyFrom_29 4 rfl ?_
        refine m_iadd C dX2_copyFrom_31 ?_
        have t8 : (q * (8 : Int32)).toInt = q.toInt * (8 : Int) := i_mul rfl (by decide) (by omega) (by omega)
        have t9 : ((q * (8 : Int32)) + x2).toInt = (q.toInt * (8 : Int)) + x2.toInt := i_add t8 rfl (by omega) (by omega)
        refine m_iald C sh_22 (i_in (by omega) (by omega)) dX2_copyFrom_32 ?_
        have t10 : (h * (8 : Int32)).toInt = h.toInt * (8 : Int) := i_mul rfl (by decide) (by omega) (by omega)
        have t11 : ((h * (8 : Int32)) + x2).toInt = (h.toInt * (8 : Int)) + x2.toInt := i_add t10 rfl (by omega) (by omega)
        refine m_iast C sh_29 (i_in (by omega) (by omega)) dX2_copyFrom_33 ?_
        refine m_mem (fun g12 eg12 => ?_)
        have hI13 : Inv g12 := by rw [eg12]; exact hI4.up (ok_any (by decide))
        have hK14 : Kp [29] g g12 := by rw [eg12]; exact Kp.up hK5 (by decide) (Or.inl (by decide)) (Or.inl (by decide))
        obtain ⟨x15, ex15⟩ : ∃ z : Int32, z = x2 + Int32.ofInt 1 := ⟨_, rfl⟩
        have t16 : (x2 + (Int32.ofInt 1)).toInt = x2.toInt + (1 : Int) := i_add rfl (by decide) (by omega) (by omega)
        have t17 : x15.toInt = (x2.toInt + (1 : Int)) := (congrArg Int32.toInt ex15).trans t16
        refine m_iinc C x15 [(4, .int x15), (0, .ref (aL X 28)), (1, .int h), (2, .ref (aL X 21)), (3, .int q)] dX2_copyFrom_34 (q := 4) rfl ex15.symm (by decide) rfl ?_
        refine m_goto C 3 dX2_copyFrom_37 (by decide) ?_
        refine m_lv [1, 2, 3, 4, 0] rfl ?_
        exact ih3 x15 g12 (by omega) hI13 hK14 (by omega)
  have t18 : (0 : Int32).toInt = 0 := by decide
  refine m_lv [1, 2, 3, 4, 0] rfl ?_
  exact L3 (((9 - (0 : Int32).toInt).toNat) + 1) (0 : Int32) g (Nat.lt_succ_self _) hI Kp.rf (by omega)
set_option maxRecDepth 20000 in
set_option maxHeartbeats 4000000 in
theorem c_X2_copyFrom_28_28 (l : Launch) {X : XT} (hX : Lok X) (g : Mem) (h : Int32) (q : Int32) (hI : Inv g) (h_h : 0 ≤ h.toInt ∧ h.toInt ≤ 1) (h_q : 0 ≤ q.toInt ∧ q.toInt ≤ 1) : Ctr l X yX2_copyFrom cX2_copyFrom 5 none (rmD 0) [.ref (aL X 28), .int h, .ref (aL X 28), .int q] g (pV (fun g2 => Inv g2 ∧ Kp [29] g g2)) := by
  refine Ctr.of (lv := [(0, .ref (aL X 28)), (1, .int h), (2, .ref (aL X 28)), (3, .int q)]) hX (by decide) rfl (Nat.le_of_ble_eq_true rfl) ?_
  intro p e s m below meth c C
  refine m_iconst C (0 : Int32) dX2_copyFrom_0 (by decide) ?_
  refine m_istore C [(4, .int (0 : Int32)), (0, .ref (aL X 28)), (1, .int h), (2, .ref (aL X 28)), (3, .int q)] dX2_copyFrom_1 (by decide) rfl ?_
  have L3 : ∀ (n3 : Nat) (x2 : Int32) (g3 : Mem), (9 - x2.toInt).toNat < n3 → Inv g3 → Kp [29] g g3 → 0 ≤ x2.toInt ∧ x2.toInt ≤ 8 → Wm X p l e (rmD 0) s m ([.ref (aL X 28), .int h, .ref (aL X 28), .int q] : List Value).toArray below meth c 5 0 0 (MQ below (cQ X (pV (fun g2 => Inv g2 ∧ Kp [29] g g2))) ([.ref (aL X 28), .int h, .ref (aL X 28), .int q] : List Value).toArray s 0 0 (Ab X)) g3 3 [(0, .ref (aL X 28)), (1, .int h), (2, .ref (aL X 28)), (3, .int q), (4, .int x2)] [] := by
    intro n3
    induction n3 with
    | zero => intro x2 g3 hm; exact absurd hm (Nat.not_lt_zero _)
    | succ n3 ih3 =>
      intro x2 g3 hm3 hI4 hK5 i6
      try obtain ⟨i6a, i6b⟩ := i6
      refine m_iload C dX2_copyFrom_3 4 rfl ?_
      refine m_bipush C (8 : Int32) dX2_copyFrom_5 (by decide) ?_
      refine m_icmp_ge C 40 dX2_copyFrom_7 (by decide) (fun h7 => ?_) (fun h7 => ?_)
      · skip
        have th7 := i_le h7
        rw [show (8 : Int32).toInt = 8 by decide] at th7
        exact m_vret C dX2_copyFrom_40 ⟨rfl, hI4, hK5⟩
      · skip
        have th7 := i_nle h7
        rw [show (8 : Int32).toInt = 8 by decide] at th7
        refine m_aload_n C dX2_copyFrom_10 0 rfl ?_
        refine m_getr (rf := "") C 0 rfl gd2 (by decide) sh_28 rfl dX2_copyFrom_11 lk_X2_9 ?_
        refine m_iload_n C dX2_copyFrom_14 1 rfl ?_
        refine m_bipush C (8 : Int32) dX2_copyFrom_15 (by decide) ?_
        refine m_imul C dX2_copyFrom_17 ?_
        refine m_iload C dX2_copyFrom_18 4 rfl ?_
        refine m_iadd C dX2_copyFrom_20 ?_
        refine m_aload_n C dX2_copyFrom_21 2 rfl ?_
        refine m_getr (rf := "") C 0 rfl gd2 (by decide) sh_28 rfl dX2_copyFrom_22 lk_X2_9 ?_
        refine m_iload_n C dX2_copyFrom_25 3 rfl ?_
        refine m_bipush C (8 : Int32) dX2_copyFrom_26 (by decide) ?_
        refine m_imul C dX2_copyFrom_28 ?_
        refine m_iload C dX2_copyFrom_29 4 rfl ?_
        refine m_iadd C dX2_copyFrom_31 ?_
        have t8 : (q * (8 : Int32)).toInt = q.toInt * (8 : Int) := i_mul rfl (by decide) (by omega) (by omega)
        have t9 : ((q * (8 : Int32)) + x2).toInt = (q.toInt * (8 : Int)) + x2.toInt := i_add t8 rfl (by omega) (by omega)
        refine m_iald C sh_29 (i_in (by omega) (by omega)) dX2_copyFrom_32 ?_
        have t10 : (h * (8 : Int32)).toInt = h.toInt * (8 : Int) := i_mul rfl (by decide) (by omega) (by omega)
        have t11 : ((h * (8 : Int32)) + x2).toInt = (h.toInt * (8 : Int)) + x2.toInt := i_add t10 rfl (by omega) (by omega)
        refine m_iast C sh_29 (i_in (by omega) (by omega)) dX2_copyFrom_33 ?_
        refine m_mem (fun g12 eg12 => ?_)
        have hI13 : Inv g12 := by rw [eg12]; exact hI4.up (ok_any (by decide))
        have hK14 : Kp [29] g g12 := by rw [eg12]; exact Kp.up hK5 (by decide) (Or.inl (by decide)) (Or.inl (by decide))
        obtain ⟨x15, ex15⟩ : ∃ z : Int32, z = x2 + Int32.ofInt 1 := ⟨_, rfl⟩
        have t16 : (x2 + (Int32.ofInt 1)).toInt = x2.toInt + (1 : Int) := i_add rfl (by decide) (by omega) (by omega)
        have t17 : x15.toInt = (x2.toInt + (1 : Int)) := (congrArg Int32.toInt ex15).trans t16
        refine m_iinc C x15 [(4, .int x15), (0, .ref (aL X 28)), (1, .int h), (2, .ref (aL X 28)), (3, .int q)] dX2_copyFrom_34 (q := 4) rfl ex15.symm (by decide) rfl ?_
        refine m_goto C 3 dX2_copyFrom_37 (by decide) ?_
        refine m_lv [1, 2, 3, 4, 0] rfl ?_
        exact ih3 x15 g12 (by omega) hI13 hK14 (by omega)
  have t18 : (0 : Int32).toInt = 0 := by decide
  refine m_lv [1, 2, 3, 4, 0] rfl ?_
  exact L3 (((9 - (0 : Int32).toInt).toNat) + 1) (0 : Int32) g (Nat.lt_succ_self _) hI Kp.rf (by omega)
set_option maxRecDepth 20000 in
set_option maxHeartbeats 4000000 in
theorem c_X2_isSame_28_25 (l : Launch) {X : XT} (hX : Lok X) (g : Mem) (h : Int32) (q : Int32) (hI : Inv g) (h_h : 0 ≤ h.toInt ∧ h.toInt ≤ 1) (h_q : 0 ≤ q.toInt ∧ q.toInt ≤ 3) : Ctr l X yX2_isSame cX2_isSame 5 (some .boolean) (rmD 0) [.ref (aL X 28), .int h, .ref (aL X 25), .int q] g (pI (fun r g2 => Inv g2 ∧ Kp [] g g2 ∧ R01 r)) := by
  refine Ctr.of (lv := [(0, .ref (aL X 28)), (1, .int h), (2, .ref (aL X 25)), (3, .int q)]) hX (by decide) rfl (Nat.le_of_ble_eq_true rfl) ?_
  intro p e s m below meth c C
  refine m_iconst C (0 : Int32) dX2_isSame_0 (by decide) ?_
  refine m_istore C [(4, .int (0 : Int32)), (0, .ref (aL X 28)), (1, .int h), (2, .ref (aL X 25)), (3, .int q)] dX2_isSame_1 (by decide) rfl ?_
  have L3 : ∀ (n3 : Nat) (x2 : Int32) (g3 : Mem), (9 - x2.toInt).toNat < n3 → Inv g3 → Kp [] g g3 → 0 ≤ x2.toInt ∧ x2.toInt ≤ 8 → Wm X p l e (rmD 0) s m ([.ref (aL X 28), .int h, .ref (aL X 25), .int q] : List Value).toArray below meth c 5 0 0 (MQ below (cQ X (pI (fun r g2 => Inv g2 ∧ Kp [] g g2 ∧ R01 r))) ([.ref (aL X 28), .int h, .ref (aL X 25), .int q] : List Value).toArray s 0 0 (Ab X)) g3 3 [(0, .ref (aL X 28)), (1, .int h), (2, .ref (aL X 25)), (3, .int q), (4, .int x2)] [] := by
    intro n3
    induction n3 with
    | zero => intro x2 g3 hm; exact absurd hm (Nat.not_lt_zero _)
    | succ n3 ih3 =>
      intro x2 g3 hm3 hI4 hK5 i6
      try obtain ⟨i6a, i6b⟩ := i6
      refine m_iload C dX2_isSame_3 4 rfl ?_
      refine m_bipush C (8 : Int32) dX2_isSame_5 (by decide) ?_
      refine m_icmp_ge C 45 dX2_isSame_7 (by decide) (fun h7 => ?_) (fun h7 => ?_)
      · skip
        have th7 := i_le h7
        rw [show (8 : Int32).toInt = 8 by decide] at th7
        refine m_iconst C (1 : Int32) dX2_isSame_45 (by decide) ?_
        exact m_zret C dX2_isSame_46 (by decide) ⟨_, rfl, hI4, hK5, (by first | exact Or.inl rfl | exact Or.inr rfl)⟩
      · skip
        have th7 := i_nle h7
        rw [show (8 : Int32).toInt = 8 by decide] at th7
        refine m_aload_n C dX2_isSame_10 0 rfl ?_
        refine m_getr (rf := "") C 0 rfl gd2 (by decide) sh_28 rfl dX2_isSame_11 lk_X2_9 ?_
        refine m_iload_n C dX2_isSame_14 1 rfl ?_
        refine m_bipush C (8 : Int32) dX2_isSame_15 (by decide) ?_
        refine m_imul C dX2_isSame_17 ?_
        refine m_iload C dX2_isSame_18 4 rfl ?_
        refine m_iadd C dX2_isSame_20 ?_
        have t8 : (h * (8 : Int32)).toInt = h.toInt * (8 : Int) := i_mul rfl (by decide) (by omega) (by omega)
        have t9 : ((h * (8 : Int32)) + x2).toInt = (h.toInt * (8 : Int)) + x2.toInt := i_add t8 rfl (by omega) (by omega)
        refine m_iald C sh_29 (i_in (by omega) (by omega)) dX2_isSame_21 ?_
        refine m_aload_n C dX2_isSame_22 2 rfl ?_
        refine m_getr (rf := "") C 0 rfl gd2 (by decide) sh_25 rfl dX2_isSame_23 lk_X2_9 ?_
        refine m_iload_n C dX2_isSame_26 3 rfl ?_
        refine m_bipush C (8 : Int32) dX2_isSame_27 (by decide) ?_
        refine m_imul C dX2_isSame_29 ?_
        refine m_iload C dX2_isSame_30 4 rfl ?_
        refine m_iadd C dX2_isSame_32 ?_
        have t10 : (q * (8 : Int32)).toInt = q.toInt * (8 : Int) := i_mul rfl (by decide) (by omega) (by omega)
        have t11 : ((q * (8 : Int32)) + x2).toInt = (q.toInt * (8 : Int)) + x2.toInt := i_add t10 rfl (by omega) (by omega)
        refine m_iald C sh_26 (i_in (by omega) (by omega)) dX2_isSame_33 ?_
        refine m_icmp_eq C 39 dX2_isSame_34 (by decide) (fun h12 => ?_) (fun h12 => ?_)
        · skip
          have th12 := i_eq h12
          obtain ⟨x13, ex13⟩ : ∃ z : Int32, z = x2 + Int32.ofInt 1 := ⟨_, rfl⟩
          have t14 : (x2 + (Int32.ofInt 1)).toInt = x2.toInt + (1 : Int) := i_add rfl (by decide) (by omega) (by omega)
          have t15 : x13.toInt = (x2.toInt + (1 : Int)) := (congrArg Int32.toInt ex13).trans t14
          refine m_iinc C x13 [(4, .int x13), (0, .ref (aL X 28)), (1, .int h), (2, .ref (aL X 25)), (3, .int q)] dX2_isSame_39 (q := 4) rfl ex13.symm (by decide) rfl ?_
          refine m_goto C 3 dX2_isSame_42 (by decide) ?_
          refine m_lv [1, 2, 3, 4, 0] rfl ?_
          exact ih3 x13 g3 (by omega) hI4 hK5 (by omega)
        · skip
          have th12 := i_ne h12
          refine m_iconst C (0 : Int32) dX2_isSame_37 (by decide) ?_
          exact m_zret C dX2_isSame_38 (by decide) ⟨_, rfl, hI4, hK5, (by first | exact Or.inl rfl | exact Or.inr rfl)⟩
  have t16 : (0 : Int32).toInt = 0 := by decide
  refine m_lv [1, 2, 3, 4, 0] rfl ?_
  exact L3 (((9 - (0 : Int32).toInt).toNat) + 1) (0 : Int32) g (Nat.lt_succ_self _) hI Kp.rf (by omega)
set_option maxRecDepth 20000 in
set_option maxHeartbeats 4000000 in
theorem c_X2_isSame_25_25 (l : Launch) {X : XT} (hX : Lok X) (g : Mem) (h : Int32) (q : Int32) (hI : Inv g) (h_h : 0 ≤ h.toInt ∧ h.toInt ≤ 3) (h_q : 0 ≤ q.toInt ∧ q.toInt ≤ 3) : Ctr l X yX2_isSame cX2_isSame 5 (some .boolean) (rmD 0) [.ref (aL X 25), .int h, .ref (aL X 25), .int q] g (pI (fun r g2 => Inv g2 ∧ Kp [] g g2 ∧ R01 r)) := by
  refine Ctr.of (lv := [(0, .ref (aL X 25)), (1, .int h), (2, .ref (aL X 25)), (3, .int q)]) hX (by decide) rfl (Nat.le_of_ble_eq_true rfl) ?_
  intro p e s m below meth c C
  refine m_iconst C (0 : Int32) dX2_isSame_0 (by decide) ?_
  refine m_istore C [(4, .int (0 : Int32)), (0, .ref (aL X 25)), (1, .int h), (2, .ref (aL X 25)), (3, .int q)] dX2_isSame_1 (by decide) rfl ?_
  have L3 : ∀ (n3 : Nat) (x2 : Int32) (g3 : Mem), (9 - x2.toInt).toNat < n3 → Inv g3 → Kp [] g g3 → 0 ≤ x2.toInt ∧ x2.toInt ≤ 8 → Wm X p l e (rmD 0) s m ([.ref (aL X 25), .int h, .ref (aL X 25), .int q] : List Value).toArray below meth c 5 0 0 (MQ below (cQ X (pI (fun r g2 => Inv g2 ∧ Kp [] g g2 ∧ R01 r))) ([.ref (aL X 25), .int h, .ref (aL X 25), .int q] : List Value).toArray s 0 0 (Ab X)) g3 3 [(0, .ref (aL X 25)), (1, .int h), (2, .ref (aL X 25)), (3, .int q), (4, .int x2)] [] := by
    intro n3
    induction n3 with
    | zero => intro x2 g3 hm; exact absurd hm (Nat.not_lt_zero _)
    | succ n3 ih3 =>
      intro x2 g3 hm3 hI4 hK5 i6
      try obtain ⟨i6a, i6b⟩ := i6
      refine m_iload C dX2_isSame_3 4 rfl ?_
      refine m_bipush C (8 : Int32) dX2_isSame_5 (by decide) ?_
      refine m_icmp_ge C 45 dX2_isSame_7 (by decide) (fun h7 => ?_) (fun h7 => ?_)
      · skip
        have th7 := i_le h7
        rw [show (8 : Int32).toInt = 8 by decide] at th7
        refine m_iconst C (1 : Int32) dX2_isSame_45 (by decide) ?_
        exact m_zret C dX2_isSame_46 (by decide) ⟨_, rfl, hI4, hK5, (by first | exact Or.inl rfl | exact Or.inr rfl)⟩
      · skip
        have th7 := i_nle h7
        rw [show (8 : Int32).toInt = 8 by decide] at th7
        refine m_aload_n C dX2_isSame_10 0 rfl ?_
        refine m_getr (rf := "") C 0 rfl gd2 (by decide) sh_25 rfl dX2_isSame_11 lk_X2_9 ?_
        refine m_iload_n C dX2_isSame_14 1 rfl ?_
        refine m_bipush C (8 : Int32) dX2_isSame_15 (by decide) ?_
        refine m_imul C dX2_isSame_17 ?_
        refine m_iload C dX2_isSame_18 4 rfl ?_
        refine m_iadd C dX2_isSame_20 ?_
        have t8 : (h * (8 : Int32)).toInt = h.toInt * (8 : Int) := i_mul rfl (by decide) (by omega) (by omega)
        have t9 : ((h * (8 : Int32)) + x2).toInt = (h.toInt * (8 : Int)) + x2.toInt := i_add t8 rfl (by omega) (by omega)
        refine m_iald C sh_26 (i_in (by omega) (by omega)) dX2_isSame_21 ?_
        refine m_aload_n C dX2_isSame_22 2 rfl ?_
        refine m_getr (rf := "") C 0 rfl gd2 (by decide) sh_25 rfl dX2_isSame_23 lk_X2_9 ?_
        refine m_iload_n C dX2_isSame_26 3 rfl ?_
        refine m_bipush C (8 : Int32) dX2_isSame_27 (by decide) ?_
        refine m_imul C dX2_isSame_29 ?_
        refine m_iload C dX2_isSame_30 4 rfl ?_
        refine m_iadd C dX2_isSame_32 ?_
        have t10 : (q * (8 : Int32)).toInt = q.toInt * (8 : Int) := i_mul rfl (by decide) (by omega) (by omega)
        have t11 : ((q * (8 : Int32)) + x2).toInt = (q.toInt * (8 : Int)) + x2.toInt := i_add t10 rfl (by omega) (by omega)
        refine m_iald C sh_26 (i_in (by omega) (by omega)) dX2_isSame_33 ?_
        refine m_icmp_eq C 39 dX2_isSame_34 (by decide) (fun h12 => ?_) (fun h12 => ?_)
        · skip
          have th12 := i_eq h12
          obtain ⟨x13, ex13⟩ : ∃ z : Int32, z = x2 + Int32.ofInt 1 := ⟨_, rfl⟩
          have t14 : (x2 + (Int32.ofInt 1)).toInt = x2.toInt + (1 : Int) := i_add rfl (by decide) (by omega) (by omega)
          have t15 : x13.toInt = (x2.toInt + (1 : Int)) := (congrArg Int32.toInt ex13).trans t14
          refine m_iinc C x13 [(4, .int x13), (0, .ref (aL X 25)), (1, .int h), (2, .ref (aL X 25)), (3, .int q)] dX2_isSame_39 (q := 4) rfl ex13.symm (by decide) rfl ?_
          refine m_goto C 3 dX2_isSame_42 (by decide) ?_
          refine m_lv [1, 2, 3, 4, 0] rfl ?_
          exact ih3 x13 g3 (by omega) hI4 hK5 (by omega)
        · skip
          have th12 := i_ne h12
          refine m_iconst C (0 : Int32) dX2_isSame_37 (by decide) ?_
          exact m_zret C dX2_isSame_38 (by decide) ⟨_, rfl, hI4, hK5, (by first | exact Or.inl rfl | exact Or.inr rfl)⟩
  have t16 : (0 : Int32).toInt = 0 := by decide
  refine m_lv [1, 2, 3, 4, 0] rfl ?_
  exact L3 (((9 - (0 : Int32).toInt).toNat) + 1) (0 : Int32) g (Nat.lt_succ_self _) hI Kp.rf (by omega)
set_option maxRecDepth 20000 in
set_option maxHeartbeats 4000000 in
theorem c_X1_begin (l : Launch) {X : XT} (hX : Lok X) (g : Mem)  (hI : Inv g) : Ctr l X yX1_begin cX1_begin 1 none (rmD 0) [.ref (aL X 9)] g (pV (fun g2 => Inv g2 ∧ Kp [9] g g2)) := by
  refine Ctr.of (lv := [(0, .ref (aL X 9))]) hX (by decide) rfl (Nat.le_of_ble_eq_true rfl) ?_
  intro p e s m below meth c C
  refine m_aload_n C dX1_begin_0 0 rfl ?_
  refine m_iconst C (0 : Int32) dX1_begin_1 (by decide) ?_
  refine m_put (rf := "") C 3 rfl gd1 (by decide) tyX1 tyX1_ok nmX1 rfl (tyX1_ok 3 (by decide)) rfl rfl sh_9 rfl dX1_begin_2 lk_X1_21 ?_
  refine m_mem (fun g1 eg1 => ?_)
  have hI2 : Inv g1 := by rw [eg1]; exact hI.up (ok_hlen (by decide) (by decide))
  have hK3 : Kp [9] g g1 := by rw [eg1]; exact Kp.up Kp.rf (by decide) (Or.inl (by decide)) (Or.inl (by decide))
  exact m_vret C dX1_begin_5 ⟨rfl, hI2, hK3⟩
set_option maxRecDepth 20000 in
set_option maxHeartbeats 4000000 in
theorem c_X1_add (l : Launch) {X : XT} (hX : Lok X) (g : Mem) (v : Int32) (hI : Inv g) : Ctr l X yX1_add cX1_add 3 none (rmD 0) [.ref (aL X 9), .int v] g (pV (fun g2 => Inv g2 ∧ Kp [9, 10] g g2)) := by
  refine Ctr.of (lv := [(0, .ref (aL X 9)), (1, .int v)]) hX (by decide) rfl (Nat.le_of_ble_eq_true rfl) ?_
  intro p e s m below meth c C
  refine m_aload_n C dX1_add_0 0 rfl ?_
  refine m_geti (rf := "") C 3 rfl gd1 (by decide) sh_9 rfl dX1_add_1 lk_X1_21 ?_
  have r1 := iv_hlen hI
  refine m_iconst C (2 : Int32) dX1_add_4 (by decide) ?_
  refine m_ishr C dX1_add_5 ?_
  refine m_name (fun x2 ex2 => ?_)
  have t3 : ((g 9 3) >>> ((2 : Int32) &&& 31)).toInt = (g 9 3).toInt / 4 := i_shr rfl 2 (by decide)
  have t4 : x2.toInt = ((g 9 3).toInt / 4) := (congrArg Int32.toInt ex2).trans t3
  refine m_istore_n C [(2, .int x2), (0, .ref (aL X 9)), (1, .int v)] dX1_add_6 (by decide) rfl ?_
  refine m_iload_n C dX1_add_7 0 rfl ?_
  refine m_aload_n C dX1_add_8 1 rfl ?_
  refine m_getr (rf := "") C 0 rfl gd1 (by decide) sh_9 rfl dX1_add_9 lk_X1_11 ?_
  refine m_alen C 32 sh_10 (by decide) dX1_add_12 ?_
  refine m_icmp_ge C 47 dX1_add_13 (by decide) (fun h5 => ?_) (fun h5 => ?_)
  · skip
    have th5 := i_le h5
    rw [show (32 : Int32).toInt = 32 by decide] at th5
    exact m_vret C dX1_add_47 ⟨rfl, hI, Kp.rf⟩
  · skip
    have th5 := i_nle h5
    rw [show (32 : Int32).toInt = 32 by decide] at th5
    refine m_aload_n C dX1_add_16 1 rfl ?_
    refine m_getr (rf := "") C 0 rfl gd1 (by decide) sh_9 rfl dX1_add_17 lk_X1_11 ?_
    refine m_iload_n C dX1_add_20 0 rfl ?_
    refine m_aload_n C dX1_add_21 1 rfl ?_
    refine m_getr (rf := "") C 0 rfl gd1 (by decide) sh_9 rfl dX1_add_22 lk_X1_11 ?_
    refine m_iload_n C dX1_add_25 0 rfl ?_
    refine m_iald C sh_10 (i_in (by omega) (by omega)) dX1_add_26 ?_
    refine m_bipush C (8 : Int32) dX1_add_27 (by decide) ?_
    refine m_ishl C dX1_add_29 ?_
    refine m_iload_n C dX1_add_30 2 rfl ?_
    refine m_sipush C (255 : Int32) dX1_add_31 (by decide) ?_
    refine m_iand C dX1_add_34 ?_
    refine m_ior C dX1_add_35 ?_
    refine m_iast C sh_10 (i_in (by omega) (by omega)) dX1_add_36 ?_
    refine m_mem (fun g6 eg6 => ?_)
    have hI7 : Inv g6 := by rw [eg6]; exact hI.up (ok_any (by decide))
    have hK8 : Kp [9, 10] g g6 := by rw [eg6]; exact Kp.up Kp.rf (by decide) (Or.inl (by decide)) (Or.inl (by decide))
    have ev9 : g6 9 3 = g 9 3 := by rw [eg6]; exact up2_nei (Or.inl (by decide))
    have tev9 := congrArg Int32.toInt ev9
    refine m_aload_n C dX1_add_37 1 rfl ?_
    refine m_dup C dX1_add_38 rfl ?_
    refine m_geti (rf := "") C 3 rfl gd1 (by decide) sh_9 rfl dX1_add_39 lk_X1_21 ?_
    have r10 := iv_hlen hI7
    refine m_iconst C (1 : Int32) dX1_add_42 (by decide) ?_
    refine m_iadd C dX1_add_43 ?_
    have t11 : ((g6 9 3) + (1 : Int32)).toInt = (g6 9 3).toInt + (1 : Int) := i_add rfl (by decide) (by omega) (by omega)
    refine m_put (rf := "") C 3 rfl gd1 (by decide) tyX1 tyX1_ok nmX1 rfl (tyX1_ok 3 (by decide)) rfl rfl sh_9 rfl dX1_add_44 lk_X1_21 ?_
    refine m_mem (fun g12 eg12 => ?_)
    have hI13 : Inv g12 := by rw [eg12]; exact hI7.up (ok_hlen (by omega) (by omega))
    have hK14 : Kp [9, 10] g g12 := by rw [eg12]; exact Kp.up hK8 (by decide) (Or.inl (by decide)) (Or.inl (by decide))
    exact m_vret C dX1_add_47 ⟨rfl, hI13, hK14⟩
set_option maxRecDepth 20000 in
set_option maxHeartbeats 4000000 in
theorem c_X1_spread (l : Launch) {X : XT} (hX : Lok X) (g : Mem) (b : Int32) (hI : Inv g) (h_b : 0 ≤ b.toInt ∧ b.toInt ≤ 1) : Ctr l X yX1_spread cX1_spread 7 none (rmD 0) [.ref (aL X 9), .int b] g (pV (fun g2 => Inv g2 ∧ Kp [11] g g2)) := by
  refine Ctr.of (lv := [(0, .ref (aL X 9)), (1, .int b)]) hX (by decide) rfl (Nat.le_of_ble_eq_true rfl) ?_
  intro p e s m below meth c C
  refine m_iconst C (0 : Int32) dX1_spread_0 (by decide) ?_
  refine m_istore_n C [(2, .int (0 : Int32)), (0, .ref (aL X 9)), (1, .int b)] dX1_spread_1 (by decide) rfl ?_
  have L2 : ∀ (n2 : Nat) (x2 : Int32) (g3 : Mem), (17 - x2.toInt).toNat < n2 → Inv g3 → Kp [11] g g3 → 0 ≤ x2.toInt ∧ x2.toInt ≤ 16 → Wm X p l e (rmD 0) s m ([.ref (aL X 9), .int b] : List Value).toArray below meth c 7 0 0 (MQ below (cQ X (pV (fun g2 => Inv g2 ∧ Kp [11] g g2))) ([.ref (aL X 9), .int b] : List Value).toArray s 0 0 (Ab X)) g3 2 [(0, .ref (aL X 9)), (1, .int b), (2, .int x2)] [] := by
    intro n2
    induction n2 with
    | zero => intro x2 g3 hm; exact absurd hm (Nat.not_lt_zero _)
    | succ n2 ih2 =>
      intro x2 g3 hm2 hI4 hK5 i6
      try obtain ⟨i6a, i6b⟩ := i6
      refine m_iload_n C dX1_spread_2 2 rfl ?_
      refine m_bipush C (16 : Int32) dX1_spread_3 (by decide) ?_
      refine m_icmp_ge C 31 dX1_spread_5 (by decide) (fun h7 => ?_) (fun h7 => ?_)
      · skip
        have th7 := i_le h7
        rw [show (16 : Int32).toInt = 16 by decide] at th7
        refine m_bipush C (16 : Int32) dX1_spread_31 (by decide) ?_
        refine m_istore_n C [(2, .int (16 : Int32)), (0, .ref (aL X 9)), (1, .int b)] dX1_spread_33 (by decide) rfl ?_
        have L34 : ∀ (n34 : Nat) (x9 : Int32) (g10 : Mem), (65 - x9.toInt).toNat < n34 → Inv g10 → Kp [11] g g10 → 16 ≤ x9.toInt ∧ x9.toInt ≤ 64 → Wm X p l e (rmD 0) s m ([.ref (aL X 9), .int b] : List Value).toArray below meth c 7 0 0 (MQ below (cQ X (pV (fun g2 => Inv g2 ∧ Kp [11] g g2))) ([.ref (aL X 9), .int b] : List Value).toArray s 0 0 (Ab X)) g10 34 [(0, .ref (aL X 9)), (1, .int b), (2, .int x9)] [] := by
          intro n34
          induction n34 with
          | zero => intro x9 g10 hm; exact absurd hm (Nat.not_lt_zero _)
          | succ n34 ih34 =>
            intro x9 g10 hm34 hI11 hK12 i13
            try obtain ⟨i13a, i13b⟩ := i13
            refine m_iload_n C dX1_spread_34 2 rfl ?_
            refine m_bipush C (64 : Int32) dX1_spread_35 (by decide) ?_
            refine m_icmp_ge C 153 dX1_spread_37 (by decide) (fun h14 => ?_) (fun h14 => ?_)
            · skip
              have th14 := i_le h14
              rw [show (64 : Int32).toInt = 64 by decide] at th14
              exact m_vret C dX1_spread_153 ⟨rfl, hI11, hK12⟩
            · skip
              have th14 := i_nle h14
              rw [show (64 : Int32).toInt = 64 by decide] at th14
              refine m_aload_n C dX1_spread_40 0 rfl ?_
              refine m_getr (rf := "") C 1 rfl gd1 (by decide) sh_9 rfl dX1_spread_41 lk_X1_15 ?_
              refine m_iload_n C dX1_spread_44 2 rfl ?_
              refine m_bipush C (15 : Int32) dX1_spread_45 (by decide) ?_
              refine m_isub C dX1_spread_47 ?_
              have t15 : (x9 - (15 : Int32)).toInt = x9.toInt - (15 : Int) := i_sub rfl (by decide) (by omega) (by omega)
              refine m_iald C sh_11 (i_in (by omega) (by omega)) dX1_spread_48 ?_
              refine m_name (fun x16 ex16 => ?_)
              refine m_istore_n C [(3, .int x16), (0, .ref (aL X 9)), (1, .int b), (2, .int x9)] dX1_spread_49 (by decide) rfl ?_
              refine m_aload_n C dX1_spread_50 1 rfl ?_
              refine m_getr (rf := "") C 1 rfl gd1 (by decide) sh_9 rfl dX1_spread_51 lk_X1_15 ?_
              refine m_iload_n C dX1_spread_54 3 rfl ?_
              refine m_iconst C (2 : Int32) dX1_spread_55 (by decide) ?_
              refine m_isub C dX1_spread_56 ?_
              have t17 : (x9 - (2 : Int32)).toInt = x9.toInt - (2 : Int) := i_sub rfl (by decide) (by omega) (by omega)
              refine m_iald C sh_11 (i_in (by omega) (by omega)) dX1_spread_57 ?_
              refine m_name (fun x18 ex18 => ?_)
              refine m_istore C [(4, .int x18), (3, .int x16), (0, .ref (aL X 9)), (1, .int b), (2, .int x9)] dX1_spread_58 (by decide) rfl ?_
              refine m_iload_n C dX1_spread_60 1 rfl ?_
              refine m_bipush C (7 : Int32) dX1_spread_61 (by decide) ?_
              refine m_iushr C dX1_spread_63 ?_
              refine m_iload_n C dX1_spread_64 1 rfl ?_
              refine m_bipush C (25 : Int32) dX1_spread_65 (by decide) ?_
              refine m_ishl C dX1_spread_67 ?_
              refine m_ior C dX1_spread_68 ?_
              refine m_iload_n C dX1_spread_69 1 rfl ?_
              refine m_bipush C (18 : Int32) dX1_spread_70 (by decide) ?_
              refine m_iushr C dX1_spread_72 ?_
              refine m_iload_n C dX1_spread_73 1 rfl ?_
              refine m_bipush C (14 : Int32) dX1_spread_74 (by decide) ?_
              refine m_ishl C dX1_spread_76 ?_
              refine m_ior C dX1_spread_77 ?_
              refine m_ixor C dX1_spread_78 ?_
              refine m_iload_n C dX1_spread_79 1 rfl ?_
              refine m_iconst C (3 : Int32) dX1_spread_80 (by decide) ?_
              refine m_iushr C dX1_spread_81 ?_
              refine m_ixor C dX1_spread_82 ?_
              refine m_name (fun x19 ex19 => ?_)
              refine m_istore C [(5, .int x19), (4, .int x18), (3, .int x16), (0, .ref (aL X 9)), (1, .int b), (2, .int x9)] dX1_spread_83 (by decide) rfl ?_
              refine m_iload C dX1_spread_85 1 rfl ?_
              refine m_bipush C (17 : Int32) dX1_spread_87 (by decide) ?_
              refine m_iushr C dX1_spread_89 ?_
              refine m_iload C dX1_spread_90 1 rfl ?_
              refine m_bipush C (15 : Int32) dX1_spread_92 (by decide) ?_
              refine m_ishl C dX1_spread_94 ?_
              refine m_ior C dX1_spread_95 ?_
              refine m_iload C dX1_spread_96 1 rfl ?_
              refine m_bipush C (19 : Int32) dX1_spread_98 (by decide) ?_
              refine m_iushr C dX1_spread_100 ?_
              refine m_iload C dX1_spread_101 1 rfl ?_
              refine m_bipush C (13 : Int32) dX1_spread_103 (by decide) ?_
              refine m_ishl C dX1_spread_105 ?_
              refine m_ior C dX1_spread_106 ?_
              refine m_ixor C dX1_spread_107 ?_
              refine m_iload C dX1_spread_108 1 rfl ?_
              refine m_bipush C (10 : Int32) dX1_spread_110 (by decide) ?_
              refine m_iushr C dX1_spread_112 ?_
              refine m_ixor C dX1_spread_113 ?_
              refine m_name (fun x20 ex20 => ?_)
              refine m_istore C [(6, .int x20), (5, .int x19), (4, .int x18), (3, .int x16), (0, .ref (aL X 9)), (1, .int b), (2, .int x9)] dX1_spread_114 (by decide) rfl ?_
              refine m_aload_n C dX1_spread_116 4 rfl ?_
              refine m_getr (rf := "") C 1 rfl gd1 (by decide) sh_9 rfl dX1_spread_117 lk_X1_15 ?_
              refine m_iload_n C dX1_spread_120 6 rfl ?_
              refine m_aload_n C dX1_spread_121 4 rfl ?_
              refine m_getr (rf := "") C 1 rfl gd1 (by decide) sh_9 rfl dX1_spread_122 lk_X1_15 ?_
              refine m_iload_n C dX1_spread_125 6 rfl ?_
              refine m_bipush C (16 : Int32) dX1_spread_126 (by decide) ?_
              refine m_isub C dX1_spread_128 ?_
              have t21 : (x9 - (16 : Int32)).toInt = x9.toInt - (16 : Int) := i_sub rfl (by decide) (by omega) (by omega)
              refine m_iald C sh_11 (i_in (by omega) (by omega)) dX1_spread_129 ?_
              refine m_iload C dX1_spread_130 1 rfl ?_
              refine m_iadd C dX1_spread_132 ?_
              refine m_aload_n C dX1_spread_133 4 rfl ?_
              refine m_getr (rf := "") C 1 rfl gd1 (by decide) sh_9 rfl dX1_spread_134 lk_X1_15 ?_
              refine m_iload_n C dX1_spread_137 6 rfl ?_
              refine m_bipush C (7 : Int32) dX1_spread_138 (by decide) ?_
              refine m_isub C dX1_spread_140 ?_
              have t22 : (x9 - (7 : Int32)).toInt = x9.toInt - (7 : Int) := i_sub rfl (by decide) (by omega) (by omega)
              refine m_iald C sh_11 (i_in (by omega) (by omega)) dX1_spread_141 ?_
              refine m_iadd C dX1_spread_142 ?_
              refine m_iload C dX1_spread_143 0 rfl ?_
              refine m_iadd C dX1_spread_145 ?_
              refine m_iast C sh_11 (i_in (by omega) (by omega)) dX1_spread_146 ?_
              refine m_mem (fun g23 eg23 => ?_)
              have hI24 : Inv g23 := by rw [eg23]; exact hI11.up (ok_any (by decide))
              have hK25 : Kp [11] g g23 := by rw [eg23]; exact Kp.up hK12 (by decide) (Or.inl (by decide)) (Or.inl (by decide))
              obtain ⟨x26, ex26⟩ : ∃ z : Int32, z = x9 + Int32.ofInt 1 := ⟨_, rfl⟩
              have t27 : (x9 + (Int32.ofInt 1)).toInt = x9.toInt + (1 : Int) := i_add rfl (by decide) (by omega) (by omega)
              have t28 : x26.toInt = (x9.toInt + (1 : Int)) := (congrArg Int32.toInt ex26).trans t27
              refine m_iinc C x26 [(2, .int x26), (6, .int x20), (5, .int x19), (4, .int x18), (3, .int x16), (0, .ref (aL X 9)), (1, .int b)] dX1_spread_147 (q := 6) rfl ex26.symm (by decide) rfl ?_
              refine m_goto C 34 dX1_spread_150 (by decide) ?_
              refine m_lv [5, 6, 0] rfl ?_
              exact ih34 x26 g23 (by omega) hI24 hK25 (by omega)
        have t29 : (16 : Int32).toInt = 16 := by decide
        refine m_lv [1, 2, 0] rfl ?_
        exact L34 (((65 - (16 : Int32).toInt).toNat) + 1) (16 : Int32) g3 (Nat.lt_succ_self _) hI4 hK5 (by omega)
      · skip
        have th7 := i_nle h7
        rw [show (16 : Int32).toInt = 16 by decide] at th7
        refine m_aload_n C dX1_spread_8 0 rfl ?_
        refine m_getr (rf := "") C 1 rfl gd1 (by decide) sh_9 rfl dX1_spread_9 lk_X1_15 ?_
        refine m_iload_n C dX1_spread_12 2 rfl ?_
        refine m_aload_n C dX1_spread_13 0 rfl ?_
        refine m_getr (rf := "") C 0 rfl gd1 (by decide) sh_9 rfl dX1_spread_14 lk_X1_11 ?_
        refine m_iload_n C dX1_spread_17 1 rfl ?_
        refine m_bipush C (16 : Int32) dX1_spread_18 (by decide) ?_
        refine m_imul C dX1_spread_20 ?_
        refine m_iload_n C dX1_spread_21 2 rfl ?_
        refine m_iadd C dX1_spread_22 ?_
        have t30 : (b * (16 : Int32)).toInt = b.toInt * (16 : Int) := i_mul rfl (by decide) (by omega) (by omega)
        have t31 : ((b * (16 : Int32)) + x2).toInt = (b.toInt * (16 : Int)) + x2.toInt := i_add t30 rfl (by omega) (by omega)
        refine m_iald C sh_10 (i_in (by omega) (by omega)) dX1_spread_23 ?_
        refine m_iast C sh_11 (i_in (by omega) (by omega)) dX1_spread_24 ?_
        refine m_mem (fun g32 eg32 => ?_)
        have hI33 : Inv g32 := by rw [eg32]; exact hI4.up (ok_any (by decide))
        have hK34 : Kp [11] g g32 := by rw [eg32]; exact Kp.up hK5 (by decide) (Or.inl (by decide)) (Or.inl (by decide))
        obtain ⟨x35, ex35⟩ : ∃ z : Int32, z = x2 + Int32.ofInt 1 := ⟨_, rfl⟩
        have t36 : (x2 + (Int32.ofInt 1)).toInt = x2.toInt + (1 : Int) := i_add rfl (by decide) (by omega) (by omega)
        have t37 : x35.toInt = (x2.toInt + (1 : Int)) := (congrArg Int32.toInt ex35).trans t36
        refine m_iinc C x35 [(2, .int x35), (0, .ref (aL X 9)), (1, .int b)] dX1_spread_25 (q := 2) rfl ex35.symm (by decide) rfl ?_
        refine m_goto C 2 dX1_spread_28 (by decide) ?_
        refine m_lv [1, 2, 0] rfl ?_
        exact ih2 x35 g32 (by omega) hI33 hK34 (by omega)
  have t38 : (0 : Int32).toInt = 0 := by decide
  refine m_lv [1, 2, 0] rfl ?_
  exact L2 (((17 - (0 : Int32).toInt).toNat) + 1) (0 : Int32) g (Nat.lt_succ_self _) hI Kp.rf (by omega)
set_option maxRecDepth 20000 in
set_option maxHeartbeats 4000000 in
theorem c_X1_mix (l : Launch) {X : XT} (hX : Lok X) (g : Mem)  (hI : Inv g) : Ctr l X yX1_mix cX1_mix 14 none (rmD 0) [.ref (aL X 9)] g (pV (fun g2 => Inv g2 ∧ Kp [12] g g2)) := by
  refine Ctr.of (lv := [(0, .ref (aL X 9))]) hX (by decide) rfl (Nat.le_of_ble_eq_true rfl) ?_
  intro p e s m below meth c C
  refine m_aload_n C dX1_mix_0 0 rfl ?_
  refine m_getr (rf := "") C 2 rfl gd1 (by decide) sh_9 rfl dX1_mix_1 lk_X1_18 ?_
  refine m_iconst C (0 : Int32) dX1_mix_4 (by decide) ?_
  refine m_iald C sh_12 (i_in (by decide) (by decide)) dX1_mix_5 ?_
  refine m_name (fun x1 ex1 => ?_)
  refine m_istore_n C [(1, .int x1), (0, .ref (aL X 9))] dX1_mix_6 (by decide) rfl ?_
  refine m_aload_n C dX1_mix_7 1 rfl ?_
  refine m_getr (rf := "") C 2 rfl gd1 (by decide) sh_9 rfl dX1_mix_8 lk_X1_18 ?_
  refine m_iconst C (1 : Int32) dX1_mix_11 (by decide) ?_
  refine m_iald C sh_12 (i_in (by decide) (by decide)) dX1_mix_12 ?_
  refine m_name (fun x2 ex2 => ?_)
  refine m_istore_n C [(2, .int x2), (1, .int x1), (0, .ref (aL X 9))] dX1_mix_13 (by decide) rfl ?_
  refine m_aload_n C dX1_mix_14 2 rfl ?_
  refine m_getr (rf := "") C 2 rfl gd1 (by decide) sh_9 rfl dX1_mix_15 lk_X1_18 ?_
  refine m_iconst C (2 : Int32) dX1_mix_18 (by decide) ?_
  refine m_iald C sh_12 (i_in (by decide) (by decide)) dX1_mix_19 ?_
  refine m_name (fun x3 ex3 => ?_)
  refine m_istore_n C [(3, .int x3), (2, .int x2), (1, .int x1), (0, .ref (aL X 9))] dX1_mix_20 (by decide) rfl ?_
  refine m_aload_n C dX1_mix_21 3 rfl ?_
  refine m_getr (rf := "") C 2 rfl gd1 (by decide) sh_9 rfl dX1_mix_22 lk_X1_18 ?_
  refine m_iconst C (3 : Int32) dX1_mix_25 (by decide) ?_
  refine m_iald C sh_12 (i_in (by decide) (by decide)) dX1_mix_26 ?_
  refine m_name (fun x4 ex4 => ?_)
  refine m_istore C [(4, .int x4), (3, .int x3), (2, .int x2), (1, .int x1), (0, .ref (aL X 9))] dX1_mix_27 (by decide) rfl ?_
  refine m_aload_n C dX1_mix_29 4 rfl ?_
  refine m_getr (rf := "") C 2 rfl gd1 (by decide) sh_9 rfl dX1_mix_30 lk_X1_18 ?_
  refine m_iconst C (4 : Int32) dX1_mix_33 (by decide) ?_
  refine m_iald C sh_12 (i_in (by decide) (by decide)) dX1_mix_34 ?_
  refine m_name (fun x5 ex5 => ?_)
  refine m_istore C [(5, .int x5), (4, .int x4), (3, .int x3), (2, .int x2), (1, .int x1), (0, .ref (aL X 9))] dX1_mix_35 (by decide) rfl ?_
  refine m_aload_n C dX1_mix_37 5 rfl ?_
  refine m_getr (rf := "") C 2 rfl gd1 (by decide) sh_9 rfl dX1_mix_38 lk_X1_18 ?_
  refine m_iconst C (5 : Int32) dX1_mix_41 (by decide) ?_
  refine m_iald C sh_12 (i_in (by decide) (by decide)) dX1_mix_42 ?_
  refine m_name (fun x6 ex6 => ?_)
  refine m_istore C [(6, .int x6), (5, .int x5), (4, .int x4), (3, .int x3), (2, .int x2), (1, .int x1), (0, .ref (aL X 9))] dX1_mix_43 (by decide) rfl ?_
  refine m_aload_n C dX1_mix_45 6 rfl ?_
  refine m_getr (rf := "") C 2 rfl gd1 (by decide) sh_9 rfl dX1_mix_46 lk_X1_18 ?_
  refine m_bipush C (6 : Int32) dX1_mix_49 (by decide) ?_
  refine m_iald C sh_12 (i_in (by decide) (by decide)) dX1_mix_51 ?_
  refine m_name (fun x7 ex7 => ?_)
  refine m_istore C [(7, .int x7), (6, .int x6), (5, .int x5), (4, .int x4), (3, .int x3), (2, .int x2), (1, .int x1), (0, .ref (aL X 9))] dX1_mix_52 (by decide) rfl ?_
  refine m_aload_n C dX1_mix_54 7 rfl ?_
  refine m_getr (rf := "") C 2 rfl gd1 (by decide) sh_9 rfl dX1_mix_55 lk_X1_18 ?_
  refine m_bipush C (7 : Int32) dX1_mix_58 (by decide) ?_
  refine m_iald C sh_12 (i_in (by decide) (by decide)) dX1_mix_60 ?_
  refine m_name (fun x8 ex8 => ?_)
  refine m_istore C [(8, .int x8), (7, .int x7), (6, .int x6), (5, .int x5), (4, .int x4), (3, .int x3), (2, .int x2), (1, .int x1), (0, .ref (aL X 9))] dX1_mix_61 (by decide) rfl ?_
  refine m_iconst C (0 : Int32) dX1_mix_63 (by decide) ?_
  refine m_istore C [(9, .int (0 : Int32)), (8, .int x8), (7, .int x7), (6, .int x6), (5, .int x5), (4, .int x4), (3, .int x3), (2, .int x2), (1, .int x1), (0, .ref (aL X 9))] dX1_mix_64 (by decide) rfl ?_
  have L66 : ∀ (n66 : Nat) (x10 : Int32) (x11 : Int32) (x12 : Int32) (x13 : Int32) (x14 : Int32) (x15 : Int32) (x16 : Int32) (x17 : Int32) (x18 : Int32) (g19 : Mem), (65 - x18.toInt).toNat < n66 → Inv g19 → Kp [12] g g19 → 0 ≤ x18.toInt ∧ x18.toInt ≤ 64 → Wm X p l e (rmD 0) s m ([.ref (aL X 9)] : List Value).toArray below meth c 14 0 0 (MQ below (cQ X (pV (fun g2 => Inv g2 ∧ Kp [12] g g2))) ([.ref (aL X 9)] : List Value).toArray s 0 0 (Ab X)) g19 66 [(0, .ref (aL X 9)), (1, .int x10), (2, .int x11), (3, .int x12), (4, .int x13), (5, .int x14), (6, .int x15), (7, .int x16), (8, .int x17), (9, .int x18)] [] := by
    intro n66
    induction n66 with
    | zero => intro x10 x11 x12 x13 x14 x15 x16 x17 x18 g19 hm; exact absurd hm (Nat.not_lt_zero _)
    | succ n66 ih66 =>
      intro x10 x11 x12 x13 x14 x15 x16 x17 x18 g19 hm66 hI20 hK21 i22
      try obtain ⟨i22a, i22b⟩ := i22
      refine m_iload C dX1_mix_66 9 rfl ?_
      refine m_bipush C (64 : Int32) dX1_mix_68 (by decide) ?_
      refine m_icmp_ge C 230 dX1_mix_70 (by decide) (fun h23 => ?_) (fun h23 => ?_)
      · skip
        have th23 := i_le h23
        rw [show (64 : Int32).toInt = 64 by decide] at th23
        refine m_aload_n C dX1_mix_230 0 rfl ?_
        refine m_getr (rf := "") C 2 rfl gd1 (by decide) sh_9 rfl dX1_mix_231 lk_X1_18 ?_
        refine m_iconst C (0 : Int32) dX1_mix_234 (by decide) ?_
        refine m_dup2 C dX1_mix_235 rfl rfl ?_
        refine m_iald C sh_12 (i_in (by decide) (by decide)) dX1_mix_236 ?_
        refine m_iload_n C dX1_mix_237 1 rfl ?_
        refine m_iadd C dX1_mix_238 ?_
        refine m_iast C sh_12 (i_in (by decide) (by decide)) dX1_mix_239 ?_
        refine m_mem (fun g24 eg24 => ?_)
        have hI25 : Inv g24 := by rw [eg24]; exact hI20.up (ok_any (by decide))
        have hK26 : Kp [12] g g24 := by rw [eg24]; exact Kp.up hK21 (by decide) (Or.inl (by decide)) (Or.inl (by decide))
        refine m_aload_n C dX1_mix_240 0 rfl ?_
        refine m_getr (rf := "") C 2 rfl gd1 (by decide) sh_9 rfl dX1_mix_241 lk_X1_18 ?_
        refine m_iconst C (1 : Int32) dX1_mix_244 (by decide) ?_
        refine m_dup2 C dX1_mix_245 rfl rfl ?_
        refine m_iald C sh_12 (i_in (by decide) (by decide)) dX1_mix_246 ?_
        refine m_iload_n C dX1_mix_247 2 rfl ?_
        refine m_iadd C dX1_mix_248 ?_
        refine m_iast C sh_12 (i_in (by decide) (by decide)) dX1_mix_249 ?_
        refine m_mem (fun g27 eg27 => ?_)
        have hI28 : Inv g27 := by rw [eg27]; exact hI25.up (ok_any (by decide))
        have hK29 : Kp [12] g g27 := by rw [eg27]; exact Kp.up hK26 (by decide) (Or.inl (by decide)) (Or.inl (by decide))
        refine m_aload_n C dX1_mix_250 0 rfl ?_
        refine m_getr (rf := "") C 2 rfl gd1 (by decide) sh_9 rfl dX1_mix_251 lk_X1_18 ?_
        refine m_iconst C (2 : Int32) dX1_mix_254 (by decide) ?_
        refine m_dup2 C dX1_mix_255 rfl rfl ?_
        refine m_iald C sh_12 (i_in (by decide) (by decide)) dX1_mix_256 ?_
        refine m_iload_n C dX1_mix_257 3 rfl ?_
        refine m_iadd C dX1_mix_258 ?_
        refine m_iast C sh_12 (i_in (by decide) (by decide)) dX1_mix_259 ?_
        refine m_mem (fun g30 eg30 => ?_)
        have hI31 : Inv g30 := by rw [eg30]; exact hI28.up (ok_any (by decide))
        have hK32 : Kp [12] g g30 := by rw [eg30]; exact Kp.up hK29 (by decide) (Or.inl (by decide)) (Or.inl (by decide))
        refine m_aload_n C dX1_mix_260 0 rfl ?_
        refine m_getr (rf := "") C 2 rfl gd1 (by decide) sh_9 rfl dX1_mix_261 lk_X1_18 ?_
        refine m_iconst C (3 : Int32) dX1_mix_264 (by decide) ?_
        refine m_dup2 C dX1_mix_265 rfl rfl ?_
        refine m_iald C sh_12 (i_in (by decide) (by decide)) dX1_mix_266 ?_
        refine m_iload C dX1_mix_267 4 rfl ?_
        refine m_iadd C dX1_mix_269 ?_
        refine m_iast C sh_12 (i_in (by decide) (by decide)) dX1_mix_270 ?_
        refine m_mem (fun g33 eg33 => ?_)
        have hI34 : Inv g33 := by rw [eg33]; exact hI31.up (ok_any (by decide))
        have hK35 : Kp [12] g g33 := by rw [eg33]; exact Kp.up hK32 (by decide) (Or.inl (by decide)) (Or.inl (by decide))
        refine m_aload_n C dX1_mix_271 0 rfl ?_
        refine m_getr (rf := "") C 2 rfl gd1 (by decide) sh_9 rfl dX1_mix_272 lk_X1_18 ?_
        refine m_iconst C (4 : Int32) dX1_mix_275 (by decide) ?_
        refine m_dup2 C dX1_mix_276 rfl rfl ?_
        refine m_iald C sh_12 (i_in (by decide) (by decide)) dX1_mix_277 ?_
        refine m_iload C dX1_mix_278 5 rfl ?_
        refine m_iadd C dX1_mix_280 ?_
        refine m_iast C sh_12 (i_in (by decide) (by decide)) dX1_mix_281 ?_
        refine m_mem (fun g36 eg36 => ?_)
        have hI37 : Inv g36 := by rw [eg36]; exact hI34.up (ok_any (by decide))
        have hK38 : Kp [12] g g36 := by rw [eg36]; exact Kp.up hK35 (by decide) (Or.inl (by decide)) (Or.inl (by decide))
        refine m_aload_n C dX1_mix_282 0 rfl ?_
        refine m_getr (rf := "") C 2 rfl gd1 (by decide) sh_9 rfl dX1_mix_283 lk_X1_18 ?_
        refine m_iconst C (5 : Int32) dX1_mix_286 (by decide) ?_
        refine m_dup2 C dX1_mix_287 rfl rfl ?_
        refine m_iald C sh_12 (i_in (by decide) (by decide)) dX1_mix_288 ?_
        refine m_iload C dX1_mix_289 6 rfl ?_
        refine m_iadd C dX1_mix_291 ?_
        refine m_iast C sh_12 (i_in (by decide) (by decide)) dX1_mix_292 ?_
        refine m_mem (fun g39 eg39 => ?_)
        have hI40 : Inv g39 := by rw [eg39]; exact hI37.up (ok_any (by decide))
        have hK41 : Kp [12] g g39 := by rw [eg39]; exact Kp.up hK38 (by decide) (Or.inl (by decide)) (Or.inl (by decide))
        refine m_aload_n C dX1_mix_293 0 rfl ?_
        refine m_getr (rf := "") C 2 rfl gd1 (by decide) sh_9 rfl dX1_mix_294 lk_X1_18 ?_
        refine m_bipush C (6 : Int32) dX1_mix_297 (by decide) ?_
        refine m_dup2 C dX1_mix_299 rfl rfl ?_
        refine m_iald C sh_12 (i_in (by decide) (by decide)) dX1_mix_300 ?_
        refine m_iload C dX1_mix_301 7 rfl ?_
        refine m_iadd C dX1_mix_303 ?_
        refine m_iast C sh_12 (i_in (by decide) (by decide)) dX1_mix_304 ?_
        refine m_mem (fun g42 eg42 => ?_)
        have hI43 : Inv g42 := by rw [eg42]; exact hI40.up (ok_any (by decide))
        have hK44 : Kp [12] g g42 := by rw [eg42]; exact Kp.up hK41 (by decide) (Or.inl (by decide)) (Or.inl (by decide))
        refine m_aload_n C dX1_mix_305 0 rfl ?_
        refine m_getr (rf := "") C 2 rfl gd1 (by decide) sh_9 rfl dX1_mix_306 lk_X1_18 ?_
        refine m_bipush C (7 : Int32) dX1_mix_309 (by decide) ?_
        refine m_dup2 C dX1_mix_311 rfl rfl ?_
        refine m_iald C sh_12 (i_in (by decide) (by decide)) dX1_mix_312 ?_
        refine m_iload C dX1_mix_313 8 rfl ?_
        refine m_iadd C dX1_mix_315 ?_
        refine m_iast C sh_12 (i_in (by decide) (by decide)) dX1_mix_316 ?_
        refine m_mem (fun g45 eg45 => ?_)
        have hI46 : Inv g45 := by rw [eg45]; exact hI43.up (ok_any (by decide))
        have hK47 : Kp [12] g g45 := by rw [eg45]; exact Kp.up hK44 (by decide) (Or.inl (by decide)) (Or.inl (by decide))
        exact m_vret C dX1_mix_317 ⟨rfl, hI46, hK47⟩
      · skip
        have th23 := i_nle h23
        rw [show (64 : Int32).toInt = 64 by decide] at th23
        refine m_iload C dX1_mix_73 5 rfl ?_
        refine m_bipush C (6 : Int32) dX1_mix_75 (by decide) ?_
        refine m_iushr C dX1_mix_77 ?_
        refine m_iload C dX1_mix_78 5 rfl ?_
        refine m_bipush C (26 : Int32) dX1_mix_80 (by decide) ?_
        refine m_ishl C dX1_mix_82 ?_
        refine m_ior C dX1_mix_83 ?_
        refine m_iload C dX1_mix_84 5 rfl ?_
        refine m_bipush C (11 : Int32) dX1_mix_86 (by decide) ?_
        refine m_iushr C dX1_mix_88 ?_
        refine m_iload C dX1_mix_89 5 rfl ?_
        refine m_bipush C (21 : Int32) dX1_mix_91 (by decide) ?_
        refine m_ishl C dX1_mix_93 ?_
        refine m_ior C dX1_mix_94 ?_
        refine m_ixor C dX1_mix_95 ?_
        refine m_iload C dX1_mix_96 5 rfl ?_
        refine m_bipush C (25 : Int32) dX1_mix_98 (by decide) ?_
        refine m_iushr C dX1_mix_100 ?_
        refine m_iload C dX1_mix_101 5 rfl ?_
        refine m_bipush C (7 : Int32) dX1_mix_103 (by decide) ?_
        refine m_ishl C dX1_mix_105 ?_
        refine m_ior C dX1_mix_106 ?_
        refine m_ixor C dX1_mix_107 ?_
        refine m_name (fun x48 ex48 => ?_)
        refine m_istore C [(10, .int x48), (0, .ref (aL X 9)), (1, .int x10), (2, .int x11), (3, .int x12), (4, .int x13), (5, .int x14), (6, .int x15), (7, .int x16), (8, .int x17), (9, .int x18)] dX1_mix_108 (by decide) rfl ?_
        refine m_iload C dX1_mix_110 9 rfl ?_
        refine m_iload C dX1_mix_112 0 rfl ?_
        refine m_iadd C dX1_mix_114 ?_
        refine m_iload C dX1_mix_115 6 rfl ?_
        refine m_iload C dX1_mix_117 7 rfl ?_
        refine m_iand C dX1_mix_119 ?_
        refine m_iload C dX1_mix_120 6 rfl ?_
        refine m_iconst C (-1 : Int32) dX1_mix_122 (by decide) ?_
        refine m_ixor C dX1_mix_123 ?_
        refine m_iload C dX1_mix_124 8 rfl ?_
        refine m_iand C dX1_mix_126 ?_
        refine m_ixor C dX1_mix_127 ?_
        refine m_iadd C dX1_mix_128 ?_
        refine m_statR (host := "AuditVault") C dX1_mix_129 (by decide +kernel) ?_
        refine m_iload C dX1_mix_132 10 rfl ?_
        refine m_tldR C (i_in (by omega) (by omega)) dX1_mix_134 ?_
        refine m_iadd C dX1_mix_135 ?_
        refine m_aload_n C dX1_mix_136 1 rfl ?_
        refine m_getr (rf := "") C 1 rfl gd1 (by decide) sh_9 rfl dX1_mix_137 lk_X1_15 ?_
        refine m_iload C dX1_mix_140 10 rfl ?_
        refine m_iald C sh_11 (i_in (by omega) (by omega)) dX1_mix_142 ?_
        refine m_iadd C dX1_mix_143 ?_
        refine m_name (fun x49 ex49 => ?_)
        refine m_istore C [(11, .int x49), (10, .int x48), (0, .ref (aL X 9)), (1, .int x10), (2, .int x11), (3, .int x12), (4, .int x13), (5, .int x14), (6, .int x15), (7, .int x16), (8, .int x17), (9, .int x18)] dX1_mix_144 (by decide) rfl ?_
        refine m_iload_n C dX1_mix_146 3 rfl ?_
        refine m_iconst C (2 : Int32) dX1_mix_147 (by decide) ?_
        refine m_iushr C dX1_mix_148 ?_
        refine m_iload_n C dX1_mix_149 3 rfl ?_
        refine m_bipush C (30 : Int32) dX1_mix_150 (by decide) ?_
        refine m_ishl C dX1_mix_152 ?_
        refine m_ior C dX1_mix_153 ?_
        refine m_iload_n C dX1_mix_154 3 rfl ?_
        refine m_bipush C (13 : Int32) dX1_mix_155 (by decide) ?_
        refine m_iushr C dX1_mix_157 ?_
        refine m_iload_n C dX1_mix_158 3 rfl ?_
        refine m_bipush C (19 : Int32) dX1_mix_159 (by decide) ?_
        refine m_ishl C dX1_mix_161 ?_
        refine m_ior C dX1_mix_162 ?_
        refine m_ixor C dX1_mix_163 ?_
        refine m_iload_n C dX1_mix_164 3 rfl ?_
        refine m_bipush C (22 : Int32) dX1_mix_165 (by decide) ?_
        refine m_iushr C dX1_mix_167 ?_
        refine m_iload_n C dX1_mix_168 3 rfl ?_
        refine m_bipush C (10 : Int32) dX1_mix_169 (by decide) ?_
        refine m_ishl C dX1_mix_171 ?_
        refine m_ior C dX1_mix_172 ?_
        refine m_ixor C dX1_mix_173 ?_
        refine m_name (fun x50 ex50 => ?_)
        refine m_istore C [(12, .int x50), (11, .int x49), (10, .int x48), (0, .ref (aL X 9)), (1, .int x10), (2, .int x11), (3, .int x12), (4, .int x13), (5, .int x14), (6, .int x15), (7, .int x16), (8, .int x17), (9, .int x18)] dX1_mix_174 (by decide) rfl ?_
        refine m_iload C dX1_mix_176 0 rfl ?_
        refine m_iload_n C dX1_mix_178 4 rfl ?_
        refine m_iload_n C dX1_mix_179 5 rfl ?_
        refine m_iand C dX1_mix_180 ?_
        refine m_iload_n C dX1_mix_181 4 rfl ?_
        refine m_iload_n C dX1_mix_182 6 rfl ?_
        refine m_iand C dX1_mix_183 ?_
        refine m_ixor C dX1_mix_184 ?_
        refine m_iload_n C dX1_mix_185 5 rfl ?_
        refine m_iload_n C dX1_mix_186 6 rfl ?_
        refine m_iand C dX1_mix_187 ?_
        refine m_ixor C dX1_mix_188 ?_
        refine m_iadd C dX1_mix_189 ?_
        refine m_name (fun x51 ex51 => ?_)
        refine m_istore C [(13, .int x51), (12, .int x50), (11, .int x49), (10, .int x48), (0, .ref (aL X 9)), (1, .int x10), (2, .int x11), (3, .int x12), (4, .int x13), (5, .int x14), (6, .int x15), (7, .int x16), (8, .int x17), (9, .int x18)] dX1_mix_190 (by decide) rfl ?_
        refine m_iload C dX1_mix_192 11 rfl ?_
        refine m_istore C [(8, .int x16), (13, .int x51), (12, .int x50), (11, .int x49), (10, .int x48), (0, .ref (aL X 9)), (1, .int x10), (2, .int x11), (3, .int x12), (4, .int x13), (5, .int x14), (6, .int x15), (7, .int x16), (9, .int x18)] dX1_mix_194 (by decide) rfl ?_
        refine m_iload C dX1_mix_196 11 rfl ?_
        refine m_istore C [(7, .int x15), (8, .int x16), (13, .int x51), (12, .int x50), (11, .int x49), (10, .int x48), (0, .ref (aL X 9)), (1, .int x10), (2, .int x11), (3, .int x12), (4, .int x13), (5, .int x14), (6, .int x15), (9, .int x18)] dX1_mix_198 (by decide) rfl ?_
        refine m_iload C dX1_mix_200 11 rfl ?_
        refine m_istore C [(6, .int x14), (7, .int x15), (8, .int x16), (13, .int x51), (12, .int x50), (11, .int x49), (10, .int x48), (0, .ref (aL X 9)), (1, .int x10), (2, .int x11), (3, .int x12), (4, .int x13), (5, .int x14), (9, .int x18)] dX1_mix_202 (by decide) rfl ?_
        refine m_iload C dX1_mix_204 11 rfl ?_
        refine m_iload C dX1_mix_206 5 rfl ?_
        refine m_iadd C dX1_mix_208 ?_
        refine m_name (fun x55 ex55 => ?_)
        refine m_istore C [(5, .int x55), (6, .int x14), (7, .int x15), (8, .int x16), (13, .int x51), (12, .int x50), (11, .int x49), (10, .int x48), (0, .ref (aL X 9)), (1, .int x10), (2, .int x11), (3, .int x12), (4, .int x13), (9, .int x18)] dX1_mix_209 (by decide) rfl ?_
        refine m_iload_n C dX1_mix_211 11 rfl ?_
        refine m_istore C [(4, .int x12), (5, .int x55), (6, .int x14), (7, .int x15), (8, .int x16), (13, .int x51), (12, .int x50), (11, .int x49), (10, .int x48), (0, .ref (aL X 9)), (1, .int x10), (2, .int x11), (3, .int x12), (9, .int x18)] dX1_mix_212 (by decide) rfl ?_
        refine m_iload_n C dX1_mix_214 11 rfl ?_
        refine m_istore_n C [(3, .int x11), (4, .int x12), (5, .int x55), (6, .int x14), (7, .int x15), (8, .int x16), (13, .int x51), (12, .int x50), (11, .int x49), (10, .int x48), (0, .ref (aL X 9)), (1, .int x10), (2, .int x11), (9, .int x18)] dX1_mix_215 (by decide) rfl ?_
        refine m_iload_n C dX1_mix_216 11 rfl ?_
        refine m_istore_n C [(2, .int x10), (3, .int x11), (4, .int x12), (5, .int x55), (6, .int x14), (7, .int x15), (8, .int x16), (13, .int x51), (12, .int x50), (11, .int x49), (10, .int x48), (0, .ref (aL X 9)), (1, .int x10), (9, .int x18)] dX1_mix_217 (by decide) rfl ?_
        refine m_iload C dX1_mix_218 9 rfl ?_
        refine m_iload C dX1_mix_220 7 rfl ?_
        refine m_iadd C dX1_mix_222 ?_
        refine m_name (fun x59 ex59 => ?_)
        refine m_istore_n C [(1, .int x59), (2, .int x10), (3, .int x11), (4, .int x12), (5, .int x55), (6, .int x14), (7, .int x15), (8, .int x16), (13, .int x51), (12, .int x50), (11, .int x49), (10, .int x48), (0, .ref (aL X 9)), (9, .int x18)] dX1_mix_223 (by decide) rfl ?_
        obtain ⟨x60, ex60⟩ : ∃ z : Int32, z = x18 + Int32.ofInt 1 := ⟨_, rfl⟩
        have t61 : (x18 + (Int32.ofInt 1)).toInt = x18.toInt + (1 : Int) := i_add rfl (by decide) (by omega) (by omega)
        have t62 : x60.toInt = (x18.toInt + (1 : Int)) := (congrArg Int32.toInt ex60).trans t61
        refine m_iinc C x60 [(9, .int x60), (1, .int x59), (2, .int x10), (3, .int x11), (4, .int x12), (5, .int x55), (6, .int x14), (7, .int x15), (8, .int x16), (13, .int x51), (12, .int x50), (11, .int x49), (10, .int x48), (0, .ref (aL X 9))] dX1_mix_224 (q := 13) rfl ex60.symm (by decide) rfl ?_
        refine m_goto C 66 dX1_mix_227 (by decide) ?_
        refine m_lv [13, 1, 2, 3, 4, 5, 6, 7, 8, 0] rfl ?_
        exact ih66 x59 x10 x11 x12 x55 x14 x15 x16 x60 g19 (by omega) hI20 hK21 (by omega)
  have t63 : (0 : Int32).toInt = 0 := by decide
  refine m_lv [9, 8, 7, 6, 5, 4, 3, 2, 1, 0] rfl ?_
  exact L66 (((65 - (0 : Int32).toInt).toNat) + 1) x1 x2 x3 x4 x5 x6 x7 x8 (0 : Int32) g (Nat.lt_succ_self _) hI Kp.rf (by omega)
set_option maxRecDepth 20000 in
set_option maxHeartbeats 4000000 in
theorem c_X1_addHash_14 (l : Launch) {X : XT} (hX : Lok X) (g : Mem) (h : Int32) (hI : Inv g) (h_h : 0 ≤ h.toInt ∧ h.toInt ≤ 126) : Ctr l X yX1_addHash cX1_addHash 4 none (rmD 1) [.ref (aL X 9), .ref (aL X 14), .int h] g (pV (fun g2 => Inv g2 ∧ Kp [9, 10] g g2)) := by
  refine Ctr.of (lv := [(0, .ref (aL X 9)), (1, .ref (aL X 14)), (2, .int h)]) hX (by decide) rfl (Nat.le_of_ble_eq_true rfl) ?_
  intro p e s m below meth c C
  refine m_iconst C (0 : Int32) dX1_addHash_0 (by decide) ?_
  refine m_istore_n C [(3, .int (0 : Int32)), (0, .ref (aL X 9)), (1, .ref (aL X 14)), (2, .int h)] dX1_addHash_1 (by decide) rfl ?_
  have L2 : ∀ (n2 : Nat) (x2 : Int32) (g3 : Mem), (33 - x2.toInt).toNat < n2 → Inv g3 → Kp [9, 10] g g3 → 0 ≤ x2.toInt ∧ x2.toInt ≤ 32 → Wm X p l e (rmD 1) s m ([.ref (aL X 9), .ref (aL X 14), .int h] : List Value).toArray below meth c 4 0 0 (MQ below (cQ X (pV (fun g2 => Inv g2 ∧ Kp [9, 10] g g2))) ([.ref (aL X 9), .ref (aL X 14), .int h] : List Value).toArray s 0 0 (Ab X)) g3 2 [(0, .ref (aL X 9)), (1, .ref (aL X 14)), (2, .int h), (3, .int x2)] [] := by
    intro n2
    induction n2 with
    | zero => intro x2 g3 hm; exact absurd hm (Nat.not_lt_zero _)
    | succ n2 ih2 =>
      intro x2 g3 hm2 hI4 hK5 i6
      try obtain ⟨i6a, i6b⟩ := i6
      refine m_iload_n C dX1_addHash_2 3 rfl ?_
      refine m_bipush C (32 : Int32) dX1_addHash_3 (by decide) ?_
      refine m_icmp_ge C 24 dX1_addHash_5 (by decide) (fun h7 => ?_) (fun h7 => ?_)
      · skip
        have th7 := i_le h7
        rw [show (32 : Int32).toInt = 32 by decide] at th7
        exact m_vret C dX1_addHash_24 ⟨rfl, hI4, hK5⟩
      · skip
        have th7 := i_nle h7
        rw [show (32 : Int32).toInt = 32 by decide] at th7
        refine m_aload_n C dX1_addHash_8 0 rfl ?_
        refine m_aload_n C dX1_addHash_9 1 rfl ?_
        refine m_iload_n C dX1_addHash_10 2 rfl ?_
        refine m_iload_n C dX1_addHash_11 3 rfl ?_
        refine m_invVN C cal_X2_byteAt sh_14 rfl (c_X2_byteAt_14 l hX g3 h x2 hI4 (by omega) (by omega)) lk_X1_25 im_X2_byteAt se_X2_byteAt (by decide) rfl rfl (Nat.le_of_ble_eq_true rfl) dX1_addHash_12 ⟨Nat.le_refl _, Nat.le_refl _⟩ (rI fun r8 g9 q10 => ?_)
        obtain ⟨eg9, p11⟩ := q10
        subst g9
        refine m_invV C cal_X1_add sh_9 rfl (c_X1_add l hX g3 r8 hI4) lk_X1_31 im_X1_add se_X1_add (by decide) rfl rfl (Nat.le_of_ble_eq_true rfl) dX1_addHash_15 ⟨Nat.le_refl _, Nat.le_refl _⟩ (rV fun g13 q14 => ?_)
        obtain ⟨hI15, hK16⟩ := q14
        have hK17 : Kp [9, 10] g g13 := (hK5).tr hK16 (by decide)
        obtain ⟨x18, ex18⟩ : ∃ z : Int32, z = x2 + Int32.ofInt 1 := ⟨_, rfl⟩
        have t19 : (x2 + (Int32.ofInt 1)).toInt = x2.toInt + (1 : Int) := i_add rfl (by decide) (by omega) (by omega)
        have t20 : x18.toInt = (x2.toInt + (1 : Int)) := (congrArg Int32.toInt ex18).trans t19
        refine m_iinc C x18 [(3, .int x18), (0, .ref (aL X 9)), (1, .ref (aL X 14)), (2, .int h)] dX1_addHash_18 (q := 3) rfl ex18.symm (by decide) rfl ?_
        refine m_goto C 2 dX1_addHash_21 (by decide) ?_
        refine m_lv [1, 2, 3, 0] rfl ?_
        exact ih2 x18 g13 (by omega) hI15 hK17 (by omega)
  have t21 : (0 : Int32).toInt = 0 := by decide
  refine m_lv [1, 2, 3, 0] rfl ?_
  exact L2 (((33 - (0 : Int32).toInt).toNat) + 1) (0 : Int32) g (Nat.lt_succ_self _) hI Kp.rf (by omega)
set_option maxRecDepth 20000 in
set_option maxHeartbeats 4000000 in
theorem c_X1_addHash_18 (l : Launch) {X : XT} (hX : Lok X) (g : Mem) (h : Int32) (hI : Inv g) (h_h : 0 ≤ h.toInt ∧ h.toInt ≤ 60) : Ctr l X yX1_addHash cX1_addHash 4 none (rmD 1) [.ref (aL X 9), .ref (aL X 18), .int h] g (pV (fun g2 => Inv g2 ∧ Kp [9, 10] g g2)) := by
  refine Ctr.of (lv := [(0, .ref (aL X 9)), (1, .ref (aL X 18)), (2, .int h)]) hX (by decide) rfl (Nat.le_of_ble_eq_true rfl) ?_
  intro p e s m below meth c C
  refine m_iconst C (0 : Int32) dX1_addHash_0 (by decide) ?_
  refine m_istore_n C [(3, .int (0 : Int32)), (0, .ref (aL X 9)), (1, .ref (aL X 18)), (2, .int h)] dX1_addHash_1 (by decide) rfl ?_
  have L2 : ∀ (n2 : Nat) (x2 : Int32) (g3 : Mem), (33 - x2.toInt).toNat < n2 → Inv g3 → Kp [9, 10] g g3 → 0 ≤ x2.toInt ∧ x2.toInt ≤ 32 → Wm X p l e (rmD 1) s m ([.ref (aL X 9), .ref (aL X 18), .int h] : List Value).toArray below meth c 4 0 0 (MQ below (cQ X (pV (fun g2 => Inv g2 ∧ Kp [9, 10] g g2))) ([.ref (aL X 9), .ref (aL X 18), .int h] : List Value).toArray s 0 0 (Ab X)) g3 2 [(0, .ref (aL X 9)), (1, .ref (aL X 18)), (2, .int h), (3, .int x2)] [] := by
    intro n2
    induction n2 with
    | zero => intro x2 g3 hm; exact absurd hm (Nat.not_lt_zero _)
    | succ n2 ih2 =>
      intro x2 g3 hm2 hI4 hK5 i6
      try obtain ⟨i6a, i6b⟩ := i6
      refine m_iload_n C dX1_addHash_2 3 rfl ?_
      refine m_bipush C (32 : Int32) dX1_addHash_3 (by decide) ?_
      refine m_icmp_ge C 24 dX1_addHash_5 (by decide) (fun h7 => ?_) (fun h7 => ?_)
      · skip
        have th7 := i_le h7
        rw [show (32 : Int32).toInt = 32 by decide] at th7
        exact m_vret C dX1_addHash_24 ⟨rfl, hI4, hK5⟩
      · skip
        have th7 := i_nle h7
        rw [show (32 : Int32).toInt = 32 by decide] at th7
        refine m_aload_n C dX1_addHash_8 0 rfl ?_
        refine m_aload_n C dX1_addHash_9 1 rfl ?_
        refine m_iload_n C dX1_addHash_10 2 rfl ?_
        refine m_iload_n C dX1_addHash_11 3 rfl ?_
        refine m_invVN C cal_X2_byteAt sh_18 rfl (c_X2_byteAt_18 l hX g3 h x2 hI4 (by omega) (by omega)) lk_X1_25 im_X2_byteAt se_X2_byteAt (by decide) rfl rfl (Nat.le_of_ble_eq_true rfl) dX1_addHash_12 ⟨Nat.le_refl _, Nat.le_refl _⟩ (rI fun r8 g9 q10 => ?_)
        obtain ⟨eg9, p11⟩ := q10
        subst g9
        refine m_invV C cal_X1_add sh_9 rfl (c_X1_add l hX g3 r8 hI4) lk_X1_31 im_X1_add se_X1_add (by decide) rfl rfl (Nat.le_of_ble_eq_true rfl) dX1_addHash_15 ⟨Nat.le_refl _, Nat.le_refl _⟩ (rV fun g13 q14 => ?_)
        obtain ⟨hI15, hK16⟩ := q14
        have hK17 : Kp [9, 10] g g13 := (hK5).tr hK16 (by decide)
        obtain ⟨x18, ex18⟩ : ∃ z : Int32, z = x2 + Int32.ofInt 1 := ⟨_, rfl⟩
        have t19 : (x2 + (Int32.ofInt 1)).toInt = x2.toInt + (1 : Int) := i_add rfl (by decide) (by omega) (by omega)
        have t20 : x18.toInt = (x2.toInt + (1 : Int)) := (congrArg Int32.toInt ex18).trans t19
        refine m_iinc C x18 [(3, .int x18), (0, .ref (aL X 9)), (1, .ref (aL X 18)), (2, .int h)] dX1_addHash_18 (q := 3) rfl ex18.symm (by decide) rfl ?_
        refine m_goto C 2 dX1_addHash_21 (by decide) ?_
        refine m_lv [1, 2, 3, 0] rfl ?_
        exact ih2 x18 g13 (by omega) hI15 hK17 (by omega)
  have t21 : (0 : Int32).toInt = 0 := by decide
  refine m_lv [1, 2, 3, 0] rfl ?_
  exact L2 (((33 - (0 : Int32).toInt).toNat) + 1) (0 : Int32) g (Nat.lt_succ_self _) hI Kp.rf (by omega)
set_option maxRecDepth 20000 in
set_option maxHeartbeats 4000000 in
theorem c_X1_addHash_21 (l : Launch) {X : XT} (hX : Lok X) (g : Mem) (h : Int32) (hI : Inv g) (h_h : 0 ≤ h.toInt ∧ h.toInt ≤ 7) : Ctr l X yX1_addHash cX1_addHash 4 none (rmD 1) [.ref (aL X 9), .ref (aL X 21), .int h] g (pV (fun g2 => Inv g2 ∧ Kp [9, 10] g g2)) := by
  refine Ctr.of (lv := [(0, .ref (aL X 9)), (1, .ref (aL X 21)), (2, .int h)]) hX (by decide) rfl (Nat.le_of_ble_eq_true rfl) ?_
  intro p e s m below meth c C
  refine m_iconst C (0 : Int32) dX1_addHash_0 (by decide) ?_
  refine m_istore_n C [(3, .int (0 : Int32)), (0, .ref (aL X 9)), (1, .ref (aL X 21)), (2, .int h)] dX1_addHash_1 (by decide) rfl ?_
  have L2 : ∀ (n2 : Nat) (x2 : Int32) (g3 : Mem), (33 - x2.toInt).toNat < n2 → Inv g3 → Kp [9, 10] g g3 → 0 ≤ x2.toInt ∧ x2.toInt ≤ 32 → Wm X p l e (rmD 1) s m ([.ref (aL X 9), .ref (aL X 21), .int h] : List Value).toArray below meth c 4 0 0 (MQ below (cQ X (pV (fun g2 => Inv g2 ∧ Kp [9, 10] g g2))) ([.ref (aL X 9), .ref (aL X 21), .int h] : List Value).toArray s 0 0 (Ab X)) g3 2 [(0, .ref (aL X 9)), (1, .ref (aL X 21)), (2, .int h), (3, .int x2)] [] := by
    intro n2
    induction n2 with
    | zero => intro x2 g3 hm; exact absurd hm (Nat.not_lt_zero _)
    | succ n2 ih2 =>
      intro x2 g3 hm2 hI4 hK5 i6
      try obtain ⟨i6a, i6b⟩ := i6
      refine m_iload_n C dX1_addHash_2 3 rfl ?_
      refine m_bipush C (32 : Int32) dX1_addHash_3 (by decide) ?_
      refine m_icmp_ge C 24 dX1_addHash_5 (by decide) (fun h7 => ?_) (fun h7 => ?_)
      · skip
        have th7 := i_le h7
        rw [show (32 : Int32).toInt = 32 by decide] at th7
        exact m_vret C dX1_addHash_24 ⟨rfl, hI4, hK5⟩
      · skip
        have th7 := i_nle h7
        rw [show (32 : Int32).toInt = 32 by decide] at th7
        refine m_aload_n C dX1_addHash_8 0 rfl ?_
        refine m_aload_n C dX1_addHash_9 1 rfl ?_
        refine m_iload_n C dX1_addHash_10 2 rfl ?_
        refine m_iload_n C dX1_addHash_11 3 rfl ?_
        refine m_invVN C cal_X2_byteAt sh_21 rfl (c_X2_byteAt_21 l hX g3 h x2 hI4 (by omega) (by omega)) lk_X1_25 im_X2_byteAt se_X2_byteAt (by decide) rfl rfl (Nat.le_of_ble_eq_true rfl) dX1_addHash_12 ⟨Nat.le_refl _, Nat.le_refl _⟩ (rI fun r8 g9 q10 => ?_)
        obtain ⟨eg9, p11⟩ := q10
        subst g9
        refine m_invV C cal_X1_add sh_9 rfl (c_X1_add l hX g3 r8 hI4) lk_X1_31 im_X1_add se_X1_add (by decide) rfl rfl (Nat.le_of_ble_eq_true rfl) dX1_addHash_15 ⟨Nat.le_refl _, Nat.le_refl _⟩ (rV fun g13 q14 => ?_)
        obtain ⟨hI15, hK16⟩ := q14
        have hK17 : Kp [9, 10] g g13 := (hK5).tr hK16 (by decide)
        obtain ⟨x18, ex18⟩ : ∃ z : Int32, z = x2 + Int32.ofInt 1 := ⟨_, rfl⟩
        have t19 : (x2 + (Int32.ofInt 1)).toInt = x2.toInt + (1 : Int) := i_add rfl (by decide) (by omega) (by omega)
        have t20 : x18.toInt = (x2.toInt + (1 : Int)) := (congrArg Int32.toInt ex18).trans t19
        refine m_iinc C x18 [(3, .int x18), (0, .ref (aL X 9)), (1, .ref (aL X 21)), (2, .int h)] dX1_addHash_18 (q := 3) rfl ex18.symm (by decide) rfl ?_
        refine m_goto C 2 dX1_addHash_21 (by decide) ?_
        refine m_lv [1, 2, 3, 0] rfl ?_
        exact ih2 x18 g13 (by omega) hI15 hK17 (by omega)
  have t21 : (0 : Int32).toInt = 0 := by decide
  refine m_lv [1, 2, 3, 0] rfl ?_
  exact L2 (((33 - (0 : Int32).toInt).toNat) + 1) (0 : Int32) g (Nat.lt_succ_self _) hI Kp.rf (by omega)
set_option maxRecDepth 20000 in
set_option maxHeartbeats 4000000 in
theorem c_X1_addHash_25 (l : Launch) {X : XT} (hX : Lok X) (g : Mem) (h : Int32) (hI : Inv g) (h_h : 0 ≤ h.toInt ∧ h.toInt ≤ 3) : Ctr l X yX1_addHash cX1_addHash 4 none (rmD 1) [.ref (aL X 9), .ref (aL X 25), .int h] g (pV (fun g2 => Inv g2 ∧ Kp [9, 10] g g2)) := by
  refine Ctr.of (lv := [(0, .ref (aL X 9)), (1, .ref (aL X 25)), (2, .int h)]) hX (by decide) rfl (Nat.le_of_ble_eq_true rfl) ?_
  intro p e s m below meth c C
  refine m_iconst C (0 : Int32) dX1_addHash_0 (by decide) ?_
  refine m_istore_n C [(3, .int (0 : Int32)), (0, .ref (aL X 9)), (1, .ref (aL X 25)), (2, .int h)] dX1_addHash_1 (by decide) rfl ?_
  have L2 : ∀ (n2 : Nat) (x2 : Int32) (g3 : Mem), (33 - x2.toInt).toNat < n2 → Inv g3 → Kp [9, 10] g g3 → 0 ≤ x2.toInt ∧ x2.toInt ≤ 32 → Wm X p l e (rmD 1) s m ([.ref (aL X 9), .ref (aL X 25), .int h] : List Value).toArray below meth c 4 0 0 (MQ below (cQ X (pV (fun g2 => Inv g2 ∧ Kp [9, 10] g g2))) ([.ref (aL X 9), .ref (aL X 25), .int h] : List Value).toArray s 0 0 (Ab X)) g3 2 [(0, .ref (aL X 9)), (1, .ref (aL X 25)), (2, .int h), (3, .int x2)] [] := by
    intro n2
    induction n2 with
    | zero => intro x2 g3 hm; exact absurd hm (Nat.not_lt_zero _)
    | succ n2 ih2 =>
      intro x2 g3 hm2 hI4 hK5 i6
      try obtain ⟨i6a, i6b⟩ := i6
      refine m_iload_n C dX1_addHash_2 3 rfl ?_
      refine m_bipush C (32 : Int32) dX1_addHash_3 (by decide) ?_
      refine m_icmp_ge C 24 dX1_addHash_5 (by decide) (fun h7 => ?_) (fun h7 => ?_)
      · skip
        have th7 := i_le h7
        rw [show (32 : Int32).toInt = 32 by decide] at th7
        exact m_vret C dX1_addHash_24 ⟨rfl, hI4, hK5⟩
      · skip
        have th7 := i_nle h7
        rw [show (32 : Int32).toInt = 32 by decide] at th7
        refine m_aload_n C dX1_addHash_8 0 rfl ?_
        refine m_aload_n C dX1_addHash_9 1 rfl ?_
        refine m_iload_n C dX1_addHash_10 2 rfl ?_
        refine m_iload_n C dX1_addHash_11 3 rfl ?_
        refine m_invVN C cal_X2_byteAt sh_25 rfl (c_X2_byteAt_25 l hX g3 h x2 hI4 (by omega) (by omega)) lk_X1_25 im_X2_byteAt se_X2_byteAt (by decide) rfl rfl (Nat.le_of_ble_eq_true rfl) dX1_addHash_12 ⟨Nat.le_refl _, Nat.le_refl _⟩ (rI fun r8 g9 q10 => ?_)
        obtain ⟨eg9, p11⟩ := q10
        subst g9
        refine m_invV C cal_X1_add sh_9 rfl (c_X1_add l hX g3 r8 hI4) lk_X1_31 im_X1_add se_X1_add (by decide) rfl rfl (Nat.le_of_ble_eq_true rfl) dX1_addHash_15 ⟨Nat.le_refl _, Nat.le_refl _⟩ (rV fun g13 q14 => ?_)
        obtain ⟨hI15, hK16⟩ := q14
        have hK17 : Kp [9, 10] g g13 := (hK5).tr hK16 (by decide)
        obtain ⟨x18, ex18⟩ : ∃ z : Int32, z = x2 + Int32.ofInt 1 := ⟨_, rfl⟩
        have t19 : (x2 + (Int32.ofInt 1)).toInt = x2.toInt + (1 : Int) := i_add rfl (by decide) (by omega) (by omega)
        have t20 : x18.toInt = (x2.toInt + (1 : Int)) := (congrArg Int32.toInt ex18).trans t19
        refine m_iinc C x18 [(3, .int x18), (0, .ref (aL X 9)), (1, .ref (aL X 25)), (2, .int h)] dX1_addHash_18 (q := 3) rfl ex18.symm (by decide) rfl ?_
        refine m_goto C 2 dX1_addHash_21 (by decide) ?_
        refine m_lv [1, 2, 3, 0] rfl ?_
        exact ih2 x18 g13 (by omega) hI15 hK17 (by omega)
  have t21 : (0 : Int32).toInt = 0 := by decide
  refine m_lv [1, 2, 3, 0] rfl ?_
  exact L2 (((33 - (0 : Int32).toInt).toNat) + 1) (0 : Int32) g (Nat.lt_succ_self _) hI Kp.rf (by omega)
set_option maxRecDepth 20000 in
set_option maxHeartbeats 4000000 in
theorem c_X1_addHash_28 (l : Launch) {X : XT} (hX : Lok X) (g : Mem) (h : Int32) (hI : Inv g) (h_h : 0 ≤ h.toInt ∧ h.toInt ≤ 1) : Ctr l X yX1_addHash cX1_addHash 4 none (rmD 1) [.ref (aL X 9), .ref (aL X 28), .int h] g (pV (fun g2 => Inv g2 ∧ Kp [9, 10] g g2)) := by
  refine Ctr.of (lv := [(0, .ref (aL X 9)), (1, .ref (aL X 28)), (2, .int h)]) hX (by decide) rfl (Nat.le_of_ble_eq_true rfl) ?_
  intro p e s m below meth c C
  refine m_iconst C (0 : Int32) dX1_addHash_0 (by decide) ?_
  refine m_istore_n C [(3, .int (0 : Int32)), (0, .ref (aL X 9)), (1, .ref (aL X 28)), (2, .int h)] dX1_addHash_1 (by decide) rfl ?_
  have L2 : ∀ (n2 : Nat) (x2 : Int32) (g3 : Mem), (33 - x2.toInt).toNat < n2 → Inv g3 → Kp [9, 10] g g3 → 0 ≤ x2.toInt ∧ x2.toInt ≤ 32 → Wm X p l e (rmD 1) s m ([.ref (aL X 9), .ref (aL X 28), .int h] : List Value).toArray below meth c 4 0 0 (MQ below (cQ X (pV (fun g2 => Inv g2 ∧ Kp [9, 10] g g2))) ([.ref (aL X 9), .ref (aL X 28), .int h] : List Value).toArray s 0 0 (Ab X)) g3 2 [(0, .ref (aL X 9)), (1, .ref (aL X 28)), (2, .int h), (3, .int x2)] [] := by
    intro n2
    induction n2 with
    | zero => intro x2 g3 hm; exact absurd hm (Nat.not_lt_zero _)
    | succ n2 ih2 =>
      intro x2 g3 hm2 hI4 hK5 i6
      try obtain ⟨i6a, i6b⟩ := i6
      refine m_iload_n C dX1_addHash_2 3 rfl ?_
      refine m_bipush C (32 : Int32) dX1_addHash_3 (by decide) ?_
      refine m_icmp_ge C 24 dX1_addHash_5 (by decide) (fun h7 => ?_) (fun h7 => ?_)
      · skip
        have th7 := i_le h7
        rw [show (32 : Int32).toInt = 32 by decide] at th7
        exact m_vret C dX1_addHash_24 ⟨rfl, hI4, hK5⟩
      · skip
        have th7 := i_nle h7
        rw [show (32 : Int32).toInt = 32 by decide] at th7
        refine m_aload_n C dX1_addHash_8 0 rfl ?_
        refine m_aload_n C dX1_addHash_9 1 rfl ?_
        refine m_iload_n C dX1_addHash_10 2 rfl ?_
        refine m_iload_n C dX1_addHash_11 3 rfl ?_
        refine m_invVN C cal_X2_byteAt sh_28 rfl (c_X2_byteAt_28 l hX g3 h x2 hI4 (by omega) (by omega)) lk_X1_25 im_X2_byteAt se_X2_byteAt (by decide) rfl rfl (Nat.le_of_ble_eq_true rfl) dX1_addHash_12 ⟨Nat.le_refl _, Nat.le_refl _⟩ (rI fun r8 g9 q10 => ?_)
        obtain ⟨eg9, p11⟩ := q10
        subst g9
        refine m_invV C cal_X1_add sh_9 rfl (c_X1_add l hX g3 r8 hI4) lk_X1_31 im_X1_add se_X1_add (by decide) rfl rfl (Nat.le_of_ble_eq_true rfl) dX1_addHash_15 ⟨Nat.le_refl _, Nat.le_refl _⟩ (rV fun g13 q14 => ?_)
        obtain ⟨hI15, hK16⟩ := q14
        have hK17 : Kp [9, 10] g g13 := (hK5).tr hK16 (by decide)
        obtain ⟨x18, ex18⟩ : ∃ z : Int32, z = x2 + Int32.ofInt 1 := ⟨_, rfl⟩
        have t19 : (x2 + (Int32.ofInt 1)).toInt = x2.toInt + (1 : Int) := i_add rfl (by decide) (by omega) (by omega)
        have t20 : x18.toInt = (x2.toInt + (1 : Int)) := (congrArg Int32.toInt ex18).trans t19
        refine m_iinc C x18 [(3, .int x18), (0, .ref (aL X 9)), (1, .ref (aL X 28)), (2, .int h)] dX1_addHash_18 (q := 3) rfl ex18.symm (by decide) rfl ?_
        refine m_goto C 2 dX1_addHash_21 (by decide) ?_
        refine m_lv [1, 2, 3, 0] rfl ?_
        exact ih2 x18 g13 (by omega) hI15 hK17 (by omega)
  have t21 : (0 : Int32).toInt = 0 := by decide
  refine m_lv [1, 2, 3, 0] rfl ?_
  exact L2 (((33 - (0 : Int32).toInt).toNat) + 1) (0 : Int32) g (Nat.lt_succ_self _) hI Kp.rf (by omega)
set_option maxRecDepth 20000 in
set_option maxHeartbeats 4000000 in
theorem c_X1_addHash_32 (l : Launch) {X : XT} (hX : Lok X) (g : Mem) (h : Int32) (hI : Inv g) (h_h : 0 ≤ h.toInt ∧ h.toInt ≤ 0) : Ctr l X yX1_addHash cX1_addHash 4 none (rmD 1) [.ref (aL X 9), .ref (aL X 32), .int h] g (pV (fun g2 => Inv g2 ∧ Kp [9, 10] g g2)) := by
  refine Ctr.of (lv := [(0, .ref (aL X 9)), (1, .ref (aL X 32)), (2, .int h)]) hX (by decide) rfl (Nat.le_of_ble_eq_true rfl) ?_
  intro p e s m below meth c C
  refine m_iconst C (0 : Int32) dX1_addHash_0 (by decide) ?_
  refine m_istore_n C [(3, .int (0 : Int32)), (0, .ref (aL X 9)), (1, .ref (aL X 32)), (2, .int h)] dX1_addHash_1 (by decide) rfl ?_
  have L2 : ∀ (n2 : Nat) (x2 : Int32) (g3 : Mem), (33 - x2.toInt).toNat < n2 → Inv g3 → Kp [9, 10] g g3 → 0 ≤ x2.toInt ∧ x2.toInt ≤ 32 → Wm X p l e (rmD 1) s m ([.ref (aL X 9), .ref (aL X 32), .int h] : List Value).toArray below meth c 4 0 0 (MQ below (cQ X (pV (fun g2 => Inv g2 ∧ Kp [9, 10] g g2))) ([.ref (aL X 9), .ref (aL X 32), .int h] : List Value).toArray s 0 0 (Ab X)) g3 2 [(0, .ref (aL X 9)), (1, .ref (aL X 32)), (2, .int h), (3, .int x2)] [] := by
    intro n2
    induction n2 with
    | zero => intro x2 g3 hm; exact absurd hm (Nat.not_lt_zero _)
    | succ n2 ih2 =>
      intro x2 g3 hm2 hI4 hK5 i6
      try obtain ⟨i6a, i6b⟩ := i6
      refine m_iload_n C dX1_addHash_2 3 rfl ?_
      refine m_bipush C (32 : Int32) dX1_addHash_3 (by decide) ?_
      refine m_icmp_ge C 24 dX1_addHash_5 (by decide) (fun h7 => ?_) (fun h7 => ?_)
      · skip
        have th7 := i_le h7
        rw [show (32 : Int32).toInt = 32 by decide] at th7
        exact m_vret C dX1_addHash_24 ⟨rfl, hI4, hK5⟩
      · skip
        have th7 := i_nle h7
        rw [show (32 : Int32).toInt = 32 by decide] at th7
        refine m_aload_n C dX1_addHash_8 0 rfl ?_
        refine m_aload_n C dX1_addHash_9 1 rfl ?_
        refine m_iload_n C dX1_addHash_10 2 rfl ?_
        refine m_iload_n C dX1_addHash_11 3 rfl ?_
        refine m_invVN C cal_X2_byteAt sh_32 rfl (c_X2_byteAt_32 l hX g3 h x2 hI4 (by omega) (by omega)) lk_X1_25 im_X2_byteAt se_X2_byteAt (by decide) rfl rfl (Nat.le_of_ble_eq_true rfl) dX1_addHash_12 ⟨Nat.le_refl _, Nat.le_refl _⟩ (rI fun r8 g9 q10 => ?_)
        obtain ⟨eg9, p11⟩ := q10
        subst g9
        refine m_invV C cal_X1_add sh_9 rfl (c_X1_add l hX g3 r8 hI4) lk_X1_31 im_X1_add se_X1_add (by decide) rfl rfl (Nat.le_of_ble_eq_true rfl) dX1_addHash_15 ⟨Nat.le_refl _, Nat.le_refl _⟩ (rV fun g13 q14 => ?_)
        obtain ⟨hI15, hK16⟩ := q14
        have hK17 : Kp [9, 10] g g13 := (hK5).tr hK16 (by decide)
        obtain ⟨x18, ex18⟩ : ∃ z : Int32, z = x2 + Int32.ofInt 1 := ⟨_, rfl⟩
        have t19 : (x2 + (Int32.ofInt 1)).toInt = x2.toInt + (1 : Int) := i_add rfl (by decide) (by omega) (by omega)
        have t20 : x18.toInt = (x2.toInt + (1 : Int)) := (congrArg Int32.toInt ex18).trans t19
        refine m_iinc C x18 [(3, .int x18), (0, .ref (aL X 9)), (1, .ref (aL X 32)), (2, .int h)] dX1_addHash_18 (q := 3) rfl ex18.symm (by decide) rfl ?_
        refine m_goto C 2 dX1_addHash_21 (by decide) ?_
        refine m_lv [1, 2, 3, 0] rfl ?_
        exact ih2 x18 g13 (by omega) hI15 hK17 (by omega)
  have t21 : (0 : Int32).toInt = 0 := by decide
  refine m_lv [1, 2, 3, 0] rfl ?_
  exact L2 (((33 - (0 : Int32).toInt).toNat) + 1) (0 : Int32) g (Nat.lt_succ_self _) hI Kp.rf (by omega)
set_option maxRecDepth 20000 in
set_option maxHeartbeats 4000000 in
theorem c_X1_finish_14 (l : Launch) {X : XT} (hX : Lok X) (g : Mem) (t : Int32) (hI : Inv g) (h_t : 0 ≤ t.toInt ∧ t.toInt ≤ 126) : Ctr l X yX1_finish cX1_finish 6 none (rmD 2) [.ref (aL X 9), .ref (aL X 14), .int t] g (pV (fun g2 => Inv g2 ∧ Kp [9, 10, 11, 12, 15] g g2)) := by
  refine Ctr.of (lv := [(0, .ref (aL X 9)), (1, .ref (aL X 14)), (2, .int t)]) hX (by decide) rfl (Nat.le_of_ble_eq_true rfl) ?_
  intro p e s m below meth c C
  refine m_aload_n C dX1_finish_0 0 rfl ?_
  refine m_geti (rf := "") C 3 rfl gd1 (by decide) sh_9 rfl dX1_finish_1 lk_X1_21 ?_
  have r1 := iv_hlen hI
  refine m_bipush C (8 : Int32) dX1_finish_4 (by decide) ?_
  refine m_imul C dX1_finish_6 ?_
  refine m_name (fun x2 ex2 => ?_)
  have t3 : ((g 9 3) * (8 : Int32)).toInt = (g 9 3).toInt * (8 : Int) := i_mul rfl (by decide) (by omega) (by omega)
  have t4 : x2.toInt = ((g 9 3).toInt * (8 : Int)) := (congrArg Int32.toInt ex2).trans t3
  refine m_istore_n C [(3, .int x2), (0, .ref (aL X 9)), (1, .ref (aL X 14)), (2, .int t)] dX1_finish_7 (by decide) rfl ?_
  refine m_aload_n C dX1_finish_8 1 rfl ?_
  refine m_geti (rf := "") C 3 rfl gd1 (by decide) sh_9 rfl dX1_finish_9 lk_X1_21 ?_
  have r5 := iv_hlen hI
  refine m_bipush C (9 : Int32) dX1_finish_12 (by decide) ?_
  refine m_iadd C dX1_finish_14 ?_
  refine m_bipush C (64 : Int32) dX1_finish_15 (by decide) ?_
  have t6 : ((g 9 3) + (9 : Int32)).toInt = (g 9 3).toInt + (9 : Int) := i_add rfl (by decide) (by omega) (by omega)
  refine m_icmp_gt C 24 dX1_finish_17 (by decide) (fun h7 => ?_) (fun h7 => ?_)
  · skip
    have th7 := i_lt h7
    rw [show (64 : Int32).toInt = 64 by decide] at th7
    refine m_iconst C (2 : Int32) dX1_finish_24 (by decide) ?_
    refine m_istore C [(4, .int (2 : Int32)), (3, .int x2), (0, .ref (aL X 9)), (1, .ref (aL X 14)), (2, .int t)] dX1_finish_25 (by decide) rfl ?_
    refine m_aload_n C dX1_finish_27 2 rfl ?_
    refine m_sipush C (128 : Int32) dX1_finish_28 (by decide) ?_
    have t9 : (128 : Int32).toInt = 128 := by decide
    refine m_invV C cal_X1_add sh_9 rfl (c_X1_add l hX g (128 : Int32) hI) lk_X1_31 im_X1_add se_X1_add (by decide) rfl rfl (Nat.le_of_ble_eq_true rfl) dX1_finish_31 ⟨Nat.le_refl _, Nat.le_refl _⟩ (rV fun g11 q12 => ?_)
    obtain ⟨hI13, hK14⟩ := q12
    have hK15 : Kp [9, 10, 11, 12, 15] g g11 := (Kp.rf).tr hK14 (by decide)
    refine m_aload_n C dX1_finish_34 2 rfl ?_
    refine m_geti (rf := "") C 3 rfl gd1 (by decide) sh_9 rfl dX1_finish_35 lk_X1_21 ?_
    have r16 := iv_hlen hI13
    refine m_name (fun x17 ex17 => ?_)
    have t18 : x17.toInt = (g11 9 3).toInt := (congrArg Int32.toInt ex17).trans rfl
    refine m_istore C [(5, .int x17), (4, .int (2 : Int32)), (3, .int x2), (0, .ref (aL X 9)), (1, .ref (aL X 14)), (2, .int t)] dX1_finish_38 (by decide) rfl ?_
    have L40 : ∀ (n40 : Nat) (x19 : Int32) (g20 : Mem), (201 - x19.toInt).toNat < n40 → Inv g20 → Kp [9, 10, 11, 12, 15] g g20 → 0 ≤ x19.toInt ∧ x19.toInt ≤ 200 → Wm X p l e (rmD 2) s m ([.ref (aL X 9), .ref (aL X 14), .int t] : List Value).toArray below meth c 6 0 0 (MQ below (cQ X (pV (fun g2 => Inv g2 ∧ Kp [9, 10, 11, 12, 15] g g2))) ([.ref (aL X 9), .ref (aL X 14), .int t] : List Value).toArray s 0 0 (Ab X)) g20 40 [(0, .ref (aL X 9)), (1, .ref (aL X 14)), (2, .int t), (3, .int x2), (4, .int (2 : Int32)), (5, .int x19)] [] := by
      intro n40
      induction n40 with
      | zero => intro x19 g20 hm; exact absurd hm (Nat.not_lt_zero _)
      | succ n40 ih40 =>
        intro x19 g20 hm40 hI21 hK22 i23
        try obtain ⟨i23a, i23b⟩ := i23
        refine m_iload C dX1_finish_40 5 rfl ?_
        refine m_iload C dX1_finish_42 4 rfl ?_
        refine m_bipush C (64 : Int32) dX1_finish_44 (by decide) ?_
        refine m_imul C dX1_finish_46 ?_
        refine m_iconst C (4 : Int32) dX1_finish_47 (by decide) ?_
        refine m_isub C dX1_finish_48 ?_
        have t24 : ((2 : Int32) * (64 : Int32)).toInt = (2 : Int) * (64 : Int) := i_mul (by decide) (by decide) (by omega) (by omega)
        have t25 : (((2 : Int32) * (64 : Int32)) - (4 : Int32)).toInt = ((2 : Int) * (64 : Int)) - (4 : Int) := i_sub t24 (by decide) (by omega) (by omega)
        refine m_icmp_ge C 63 dX1_finish_49 (by decide) (fun h26 => ?_) (fun h26 => ?_)
        · skip
          have th26 := i_le h26
          refine m_aload_n C dX1_finish_63 0 rfl ?_
          refine m_getr (rf := "") C 0 rfl gd1 (by decide) sh_9 rfl dX1_finish_64 lk_X1_11 ?_
          refine m_iload C dX1_finish_67 4 rfl ?_
          refine m_bipush C (16 : Int32) dX1_finish_69 (by decide) ?_
          refine m_imul C dX1_finish_71 ?_
          refine m_iconst C (1 : Int32) dX1_finish_72 (by decide) ?_
          refine m_isub C dX1_finish_73 ?_
          refine m_iload_n C dX1_finish_74 3 rfl ?_
          have t27 : ((2 : Int32) * (16 : Int32)).toInt = (2 : Int) * (16 : Int) := i_mul (by decide) (by decide) (by omega) (by omega)
          have t28 : (((2 : Int32) * (16 : Int32)) - (1 : Int32)).toInt = ((2 : Int) * (16 : Int)) - (1 : Int) := i_sub t27 (by decide) (by omega) (by omega)
          refine m_iast C sh_10 (i_in (by omega) (by omega)) dX1_finish_75 ?_
          refine m_mem (fun g29 eg29 => ?_)
          have hI30 : Inv g29 := by rw [eg29]; exact hI21.up (ok_any (by decide))
          have hK31 : Kp [9, 10, 11, 12, 15] g g29 := by rw [eg29]; exact Kp.up hK22 (by decide) (Or.inl (by decide)) (Or.inl (by decide))
          refine m_iconst C (0 : Int32) dX1_finish_76 (by decide) ?_
          refine m_istore C [(5, .int (0 : Int32)), (0, .ref (aL X 9)), (1, .ref (aL X 14)), (2, .int t), (3, .int x2), (4, .int (2 : Int32))] dX1_finish_77 (by decide) rfl ?_
          have L79 : ∀ (n79 : Nat) (x33 : Int32) (g34 : Mem), (9 - x33.toInt).toNat < n79 → Inv g34 → Kp [9, 10, 11, 12, 15] g g34 → 0 ≤ x33.toInt ∧ x33.toInt ≤ 8 → Wm X p l e (rmD 2) s m ([.ref (aL X 9), .ref (aL X 14), .int t] : List Value).toArray below meth c 6 0 0 (MQ below (cQ X (pV (fun g2 => Inv g2 ∧ Kp [9, 10, 11, 12, 15] g g2))) ([.ref (aL X 9), .ref (aL X 14), .int t] : List Value).toArray s 0 0 (Ab X)) g34 79 [(0, .ref (aL X 9)), (1, .ref (aL X 14)), (2, .int t), (3, .int x2), (4, .int (2 : Int32)), (5, .int x33)] [] := by
            intro n79
            induction n79 with
            | zero => intro x33 g34 hm; exact absurd hm (Nat.not_lt_zero _)
            | succ n79 ih79 =>
              intro x33 g34 hm79 hI35 hK36 i37
              try obtain ⟨i37a, i37b⟩ := i37
              refine m_iload C dX1_finish_79 5 rfl ?_
              refine m_bipush C (8 : Int32) dX1_finish_81 (by decide) ?_
              refine m_icmp_ge C 105 dX1_finish_83 (by decide) (fun h38 => ?_) (fun h38 => ?_)
              · skip
                have th38 := i_le h38
                rw [show (8 : Int32).toInt = 8 by decide] at th38
                refine m_iconst C (0 : Int32) dX1_finish_105 (by decide) ?_
                refine m_istore C [(5, .int (0 : Int32)), (0, .ref (aL X 9)), (1, .ref (aL X 14)), (2, .int t), (3, .int x2), (4, .int (2 : Int32))] dX1_finish_106 (by decide) rfl ?_
                have L108 : ∀ (n108 : Nat) (x40 : Int32) (g41 : Mem), (3 - x40.toInt).toNat < n108 → Inv g41 → Kp [9, 10, 11, 12, 15] g g41 → 0 ≤ x40.toInt ∧ x40.toInt ≤ 2 → Wm X p l e (rmD 2) s m ([.ref (aL X 9), .ref (aL X 14), .int t] : List Value).toArray below meth c 6 0 0 (MQ below (cQ X (pV (fun g2 => Inv g2 ∧ Kp [9, 10, 11, 12, 15] g g2))) ([.ref (aL X 9), .ref (aL X 14), .int t] : List Value).toArray s 0 0 (Ab X)) g41 108 [(0, .ref (aL X 9)), (1, .ref (aL X 14)), (2, .int t), (3, .int x2), (4, .int (2 : Int32)), (5, .int x40)] [] := by
                  intro n108
                  induction n108 with
                  | zero => intro x40 g41 hm; exact absurd hm (Nat.not_lt_zero _)
                  | succ n108 ih108 =>
                    intro x40 g41 hm108 hI42 hK43 i44
                    try obtain ⟨i44a, i44b⟩ := i44
                    refine m_iload C dX1_finish_108 5 rfl ?_
                    refine m_iload C dX1_finish_110 4 rfl ?_
                    refine m_icmp_ge C 131 dX1_finish_112 (by decide) (fun h45 => ?_) (fun h45 => ?_)
                    · skip
                      have th45 := i_le h45
                      rw [show (2 : Int32).toInt = 2 by decide] at th45
                      refine m_iconst C (0 : Int32) dX1_finish_131 (by decide) ?_
                      refine m_istore C [(5, .int (0 : Int32)), (0, .ref (aL X 9)), (1, .ref (aL X 14)), (2, .int t), (3, .int x2), (4, .int (2 : Int32))] dX1_finish_132 (by decide) rfl ?_
                      have L134 : ∀ (n134 : Nat) (x47 : Int32) (g48 : Mem), (9 - x47.toInt).toNat < n134 → Inv g48 → Kp [9, 10, 11, 12, 15] g g48 → 0 ≤ x47.toInt ∧ x47.toInt ≤ 8 → Wm X p l e (rmD 2) s m ([.ref (aL X 9), .ref (aL X 14), .int t] : List Value).toArray below meth c 6 0 0 (MQ below (cQ X (pV (fun g2 => Inv g2 ∧ Kp [9, 10, 11, 12, 15] g g2))) ([.ref (aL X 9), .ref (aL X 14), .int t] : List Value).toArray s 0 0 (Ab X)) g48 134 [(0, .ref (aL X 9)), (1, .ref (aL X 14)), (2, .int t), (3, .int x2), (4, .int (2 : Int32)), (5, .int x47)] [] := by
                        intro n134
                        induction n134 with
                        | zero => intro x47 g48 hm; exact absurd hm (Nat.not_lt_zero _)
                        | succ n134 ih134 =>
                          intro x47 g48 hm134 hI49 hK50 i51
                          try obtain ⟨i51a, i51b⟩ := i51
                          refine m_iload C dX1_finish_134 5 rfl ?_
                          refine m_bipush C (8 : Int32) dX1_finish_136 (by decide) ?_
                          refine m_icmp_ge C 166 dX1_finish_138 (by decide) (fun h52 => ?_) (fun h52 => ?_)
                          · skip
                            have th52 := i_le h52
                            rw [show (8 : Int32).toInt = 8 by decide] at th52
                            exact m_vret C dX1_finish_166 ⟨rfl, hI49, hK50⟩
                          · skip
                            have th52 := i_nle h52
                            rw [show (8 : Int32).toInt = 8 by decide] at th52
                            refine m_aload_n C dX1_finish_141 1 rfl ?_
                            refine m_getrN (rf := "") C 0 rfl gd2 (by decide) sh_14 rfl dX1_finish_142 lk_X1_54 ?_
                            refine m_iload_n C dX1_finish_145 2 rfl ?_
                            refine m_bipush C (8 : Int32) dX1_finish_146 (by decide) ?_
                            refine m_imul C dX1_finish_148 ?_
                            refine m_iload C dX1_finish_149 5 rfl ?_
                            refine m_iadd C dX1_finish_151 ?_
                            refine m_aload_n C dX1_finish_152 0 rfl ?_
                            refine m_getr (rf := "") C 2 rfl gd1 (by decide) sh_9 rfl dX1_finish_153 lk_X1_18 ?_
                            refine m_iload C dX1_finish_156 5 rfl ?_
                            refine m_iald C sh_12 (i_in (by omega) (by omega)) dX1_finish_158 ?_
                            have t53 : (t * (8 : Int32)).toInt = t.toInt * (8 : Int) := i_mul rfl (by decide) (by omega) (by omega)
                            have t54 : ((t * (8 : Int32)) + x47).toInt = (t.toInt * (8 : Int)) + x47.toInt := i_add t53 rfl (by omega) (by omega)
                            refine m_iast C sh_15 (i_in (by omega) (by omega)) dX1_finish_159 ?_
                            refine m_mem (fun g55 eg55 => ?_)
                            have hI56 : Inv g55 := by rw [eg55]; exact hI49.up (ok_any (by decide))
                            have hK57 : Kp [9, 10, 11, 12, 15] g g55 := by rw [eg55]; exact Kp.up hK50 (by decide) (Or.inl (by decide)) (Or.inl (by decide))
                            obtain ⟨x58, ex58⟩ : ∃ z : Int32, z = x47 + Int32.ofInt 1 := ⟨_, rfl⟩
                            have t59 : (x47 + (Int32.ofInt 1)).toInt = x47.toInt + (1 : Int) := i_add rfl (by decide) (by omega) (by omega)
                            have t60 : x58.toInt = (x47.toInt + (1 : Int)) := (congrArg Int32.toInt ex58).trans t59
                            refine m_iinc C x58 [(5, .int x58), (0, .ref (aL X 9)), (1, .ref (aL X 14)), (2, .int t), (3, .int x2), (4, .int (2 : Int32))] dX1_finish_160 (q := 5) rfl ex58.symm (by decide) rfl ?_
                            refine m_goto C 134 dX1_finish_163 (by decide) ?_
                            refine m_lv [1, 2, 3, 4, 5, 0] rfl ?_
                            exact ih134 x58 g55 (by omega) hI56 hK57 (by omega)
                      have t61 : (0 : Int32).toInt = 0 := by decide
                      refine m_lv [1, 2, 3, 4, 5, 0] rfl ?_
                      exact L134 (((9 - (0 : Int32).toInt).toNat) + 1) (0 : Int32) g41 (Nat.lt_succ_self _) hI42 hK43 (by omega)
                    · skip
                      have th45 := i_nle h45
                      rw [show (2 : Int32).toInt = 2 by decide] at th45
                      refine m_aload_n C dX1_finish_115 0 rfl ?_
                      refine m_iload C dX1_finish_116 5 rfl ?_
                      refine m_invV C cal_X1_spread sh_9 rfl (c_X1_spread l hX g41 x40 hI42 (by omega)) lk_X1_48 im_X1_spread se_X1_spread (by decide) rfl rfl (Nat.le_of_ble_eq_true rfl) dX1_finish_118 ⟨Nat.le_refl _, Nat.le_refl _⟩ (rV fun g63 q64 => ?_)
                      obtain ⟨hI65, hK66⟩ := q64
                      have hK67 : Kp [9, 10, 11, 12, 15] g g63 := (hK43).tr hK66 (by decide)
                      refine m_aload_n C dX1_finish_121 0 rfl ?_
                      refine m_invV C cal_X1_mix sh_9 rfl (c_X1_mix l hX g63  hI65) lk_X1_51 im_X1_mix se_X1_mix (by decide) rfl rfl (Nat.le_of_ble_eq_true rfl) dX1_finish_122 ⟨Nat.le_refl _, Nat.le_refl _⟩ (rV fun g69 q70 => ?_)
                      obtain ⟨hI71, hK72⟩ := q70
                      have hK73 : Kp [9, 10, 11, 12, 15] g g69 := (hK67).tr hK72 (by decide)
                      obtain ⟨x74, ex74⟩ : ∃ z : Int32, z = x40 + Int32.ofInt 1 := ⟨_, rfl⟩
                      have t75 : (x40 + (Int32.ofInt 1)).toInt = x40.toInt + (1 : Int) := i_add rfl (by decide) (by omega) (by omega)
                      have t76 : x74.toInt = (x40.toInt + (1 : Int)) := (congrArg Int32.toInt ex74).trans t75
                      refine m_iinc C x74 [(5, .int x74), (0, .ref (aL X 9)), (1, .ref (aL X 14)), (2, .int t), (3, .int x2), (4, .int (2 : Int32))] dX1_finish_125 (q := 5) rfl ex74.symm (by decide) rfl ?_
                      refine m_goto C 108 dX1_finish_128 (by decide) ?_
                      refine m_lv [1, 2, 3, 4, 5, 0] rfl ?_
                      exact ih108 x74 g69 (by omega) hI71 hK73 (by omega)
                have t77 : (0 : Int32).toInt = 0 := by decide
                refine m_lv [1, 2, 3, 4, 5, 0] rfl ?_
                exact L108 (((3 - (0 : Int32).toInt).toNat) + 1) (0 : Int32) g34 (Nat.lt_succ_self _) hI35 hK36 (by omega)
              · skip
                have th38 := i_nle h38
                rw [show (8 : Int32).toInt = 8 by decide] at th38
                refine m_aload_n C dX1_finish_86 0 rfl ?_
                refine m_getr (rf := "") C 2 rfl gd1 (by decide) sh_9 rfl dX1_finish_87 lk_X1_18 ?_
                refine m_iload C dX1_finish_90 5 rfl ?_
                refine m_statS (host := "AuditVault") C dX1_finish_92 (by decide +kernel) ?_
                refine m_iload C dX1_finish_95 5 rfl ?_
                refine m_tldS C (i_in (by omega) (by omega)) dX1_finish_97 ?_
                refine m_iast C sh_12 (i_in (by omega) (by omega)) dX1_finish_98 ?_
                refine m_mem (fun g78 eg78 => ?_)
                have hI79 : Inv g78 := by rw [eg78]; exact hI35.up (ok_any (by decide))
                have hK80 : Kp [9, 10, 11, 12, 15] g g78 := by rw [eg78]; exact Kp.up hK36 (by decide) (Or.inl (by decide)) (Or.inl (by decide))
                obtain ⟨x81, ex81⟩ : ∃ z : Int32, z = x33 + Int32.ofInt 1 := ⟨_, rfl⟩
                have t82 : (x33 + (Int32.ofInt 1)).toInt = x33.toInt + (1 : Int) := i_add rfl (by decide) (by omega) (by omega)
                have t83 : x81.toInt = (x33.toInt + (1 : Int)) := (congrArg Int32.toInt ex81).trans t82
                refine m_iinc C x81 [(5, .int x81), (0, .ref (aL X 9)), (1, .ref (aL X 14)), (2, .int t), (3, .int x2), (4, .int (2 : Int32))] dX1_finish_99 (q := 5) rfl ex81.symm (by decide) rfl ?_
                refine m_goto C 79 dX1_finish_102 (by decide) ?_
                refine m_lv [1, 2, 3, 4, 5, 0] rfl ?_
                exact ih79 x81 g78 (by omega) hI79 hK80 (by omega)
          have t84 : (0 : Int32).toInt = 0 := by decide
          refine m_lv [1, 2, 3, 4, 5, 0] rfl ?_
          exact L79 (((9 - (0 : Int32).toInt).toNat) + 1) (0 : Int32) g29 (Nat.lt_succ_self _) hI30 hK31 (by omega)
        · skip
          have th26 := i_nle h26
          refine m_aload_n C dX1_finish_52 0 rfl ?_
          refine m_iconst C (0 : Int32) dX1_finish_53 (by decide) ?_
          have t85 : (0 : Int32).toInt = 0 := by decide
          refine m_invV C cal_X1_add sh_9 rfl (c_X1_add l hX g20 (0 : Int32) hI21) lk_X1_31 im_X1_add se_X1_add (by decide) rfl rfl (Nat.le_of_ble_eq_true rfl) dX1_finish_54 ⟨Nat.le_refl _, Nat.le_refl _⟩ (rV fun g87 q88 => ?_)
          obtain ⟨hI89, hK90⟩ := q88
          have hK91 : Kp [9, 10, 11, 12, 15] g g87 := (hK22).tr hK90 (by decide)
          obtain ⟨x92, ex92⟩ : ∃ z : Int32, z = x19 + Int32.ofInt 1 := ⟨_, rfl⟩
          have t93 : (x19 + (Int32.ofInt 1)).toInt = x19.toInt + (1 : Int) := i_add rfl (by decide) (by omega) (by omega)
          have t94 : x92.toInt = (x19.toInt + (1 : Int)) := (congrArg Int32.toInt ex92).trans t93
          refine m_iinc C x92 [(5, .int x92), (0, .ref (aL X 9)), (1, .ref (aL X 14)), (2, .int t), (3, .int x2), (4, .int (2 : Int32))] dX1_finish_57 (q := 5) rfl ex92.symm (by decide) rfl ?_
          refine m_goto C 40 dX1_finish_60 (by decide) ?_
          refine m_lv [1, 2, 3, 4, 5, 0] rfl ?_
          exact ih40 x92 g87 (by omega) hI89 hK91 (by omega)
    refine m_lv [3, 4, 5, 2, 1, 0] rfl ?_
    exact L40 (((201 - x17.toInt).toNat) + 1) x17 g11 (Nat.lt_succ_self _) hI13 hK15 (by omega)
  · skip
    have th7 := i_nlt h7
    rw [show (64 : Int32).toInt = 64 by decide] at th7
    refine m_iconst C (1 : Int32) dX1_finish_20 (by decide) ?_
    refine m_goto C 25 dX1_finish_21 (by decide) ?_
    refine m_istore C [(4, .int (1 : Int32)), (3, .int x2), (0, .ref (aL X 9)), (1, .ref (aL X 14)), (2, .int t)] dX1_finish_25 (by decide) rfl ?_
    refine m_aload_n C dX1_finish_27 2 rfl ?_
    refine m_sipush C (128 : Int32) dX1_finish_28 (by decide) ?_
    have t96 : (128 : Int32).toInt = 128 := by decide
    refine m_invV C cal_X1_add sh_9 rfl (c_X1_add l hX g (128 : Int32) hI) lk_X1_31 im_X1_add se_X1_add (by decide) rfl rfl (Nat.le_of_ble_eq_true rfl) dX1_finish_31 ⟨Nat.le_refl _, Nat.le_refl _⟩ (rV fun g98 q99 => ?_)
    obtain ⟨hI100, hK101⟩ := q99
    have hK102 : Kp [9, 10, 11, 12, 15] g g98 := (Kp.rf).tr hK101 (by decide)
    refine m_aload_n C dX1_finish_34 2 rfl ?_
    refine m_geti (rf := "") C 3 rfl gd1 (by decide) sh_9 rfl dX1_finish_35 lk_X1_21 ?_
    have r103 := iv_hlen hI100
    refine m_name (fun x104 ex104 => ?_)
    have t105 : x104.toInt = (g98 9 3).toInt := (congrArg Int32.toInt ex104).trans rfl
    refine m_istore C [(5, .int x104), (4, .int (1 : Int32)), (3, .int x2), (0, .ref (aL X 9)), (1, .ref (aL X 14)), (2, .int t)] dX1_finish_38 (by decide) rfl ?_
    have L40 : ∀ (n40 : Nat) (x106 : Int32) (g107 : Mem), (201 - x106.toInt).toNat < n40 → Inv g107 → Kp [9, 10, 11, 12, 15] g g107 → 0 ≤ x106.toInt ∧ x106.toInt ≤ 200 → Wm X p l e (rmD 2) s m ([.ref (aL X 9), .ref (aL X 14), .int t] : List Value).toArray below meth c 6 0 0 (MQ below (cQ X (pV (fun g2 => Inv g2 ∧ Kp [9, 10, 11, 12, 15] g g2))) ([.ref (aL X 9), .ref (aL X 14), .int t] : List Value).toArray s 0 0 (Ab X)) g107 40 [(0, .ref (aL X 9)), (1, .ref (aL X 14)), (2, .int t), (3, .int x2), (4, .int (1 : Int32)), (5, .int x106)] [] := by
      intro n40
      induction n40 with
      | zero => intro x106 g107 hm; exact absurd hm (Nat.not_lt_zero _)
      | succ n40 ih40 =>
        intro x106 g107 hm40 hI108 hK109 i110
        try obtain ⟨i110a, i110b⟩ := i110
        refine m_iload C dX1_finish_40 5 rfl ?_
        refine m_iload C dX1_finish_42 4 rfl ?_
        refine m_bipush C (64 : Int32) dX1_finish_44 (by decide) ?_
        refine m_imul C dX1_finish_46 ?_
        refine m_iconst C (4 : Int32) dX1_finish_47 (by decide) ?_
        refine m_isub C dX1_finish_48 ?_
        have t111 : ((1 : Int32) * (64 : Int32)).toInt = (1 : Int) * (64 : Int) := i_mul (by decide) (by decide) (by omega) (by omega)
        have t112 : (((1 : Int32) * (64 : Int32)) - (4 : Int32)).toInt = ((1 : Int) * (64 : Int)) - (4 : Int) := i_sub t111 (by decide) (by omega) (by omega)
        refine m_icmp_ge C 63 dX1_finish_49 (by decide) (fun h113 => ?_) (fun h113 => ?_)
        · skip
          have th113 := i_le h113
          refine m_aload_n C dX1_finish_63 0 rfl ?_
          refine m_getr (rf := "") C 0 rfl gd1 (by decide) sh_9 rfl dX1_finish_64 lk_X1_11 ?_
          refine m_iload C dX1_finish_67 4 rfl ?_
          refine m_bipush C (16 : Int32) dX1_finish_69 (by decide) ?_
          refine m_imul C dX1_finish_71 ?_
          refine m_iconst C (1 : Int32) dX1_finish_72 (by decide) ?_
          refine m_isub C dX1_finish_73 ?_
          refine m_iload_n C dX1_finish_74 3 rfl ?_
          have t114 : ((1 : Int32) * (16 : Int32)).toInt = (1 : Int) * (16 : Int) := i_mul (by decide) (by decide) (by omega) (by omega)
          have t115 : (((1 : Int32) * (16 : Int32)) - (1 : Int32)).toInt = ((1 : Int) * (16 : Int)) - (1 : Int) := i_sub t114 (by decide) (by omega) (by omega)
          refine m_iast C sh_10 (i_in (by omega) (by omega)) dX1_finish_75 ?_
          refine m_mem (fun g116 eg116 => ?_)
          have hI117 : Inv g116 := by rw [eg116]; exact hI108.up (ok_any (by decide))
          have hK118 : Kp [9, 10, 11, 12, 15] g g116 := by rw [eg116]; exact Kp.up hK109 (by decide) (Or.inl (by decide)) (Or.inl (by decide))
          refine m_iconst C (0 : Int32) dX1_finish_76 (by decide) ?_
          refine m_istore C [(5, .int (0 : Int32)), (0, .ref (aL X 9)), (1, .ref (aL X 14)), (2, .int t), (3, .int x2), (4, .int (1 : Int32))] dX1_finish_77 (by decide) rfl ?_
          have L79 : ∀ (n79 : Nat) (x120 : Int32) (g121 : Mem), (9 - x120.toInt).toNat < n79 → Inv g121 → Kp [9, 10, 11, 12, 15] g g121 → 0 ≤ x120.toInt ∧ x120.toInt ≤ 8 → Wm X p l e (rmD 2) s m ([.ref (aL X 9), .ref (aL X 14), .int t] : List Value).toArray below meth c 6 0 0 (MQ below (cQ X (pV (fun g2 => Inv g2 ∧ Kp [9, 10, 11, 12, 15] g g2))) ([.ref (aL X 9), .ref (aL X 14), .int t] : List Value).toArray s 0 0 (Ab X)) g121 79 [(0, .ref (aL X 9)), (1, .ref (aL X 14)), (2, .int t), (3, .int x2), (4, .int (1 : Int32)), (5, .int x120)] [] := by
            intro n79
            induction n79 with
            | zero => intro x120 g121 hm; exact absurd hm (Nat.not_lt_zero _)
            | succ n79 ih79 =>
              intro x120 g121 hm79 hI122 hK123 i124
              try obtain ⟨i124a, i124b⟩ := i124
              refine m_iload C dX1_finish_79 5 rfl ?_
              refine m_bipush C (8 : Int32) dX1_finish_81 (by decide) ?_
              refine m_icmp_ge C 105 dX1_finish_83 (by decide) (fun h125 => ?_) (fun h125 => ?_)
              · skip
                have th125 := i_le h125
                rw [show (8 : Int32).toInt = 8 by decide] at th125
                refine m_iconst C (0 : Int32) dX1_finish_105 (by decide) ?_
                refine m_istore C [(5, .int (0 : Int32)), (0, .ref (aL X 9)), (1, .ref (aL X 14)), (2, .int t), (3, .int x2), (4, .int (1 : Int32))] dX1_finish_106 (by decide) rfl ?_
                have L108 : ∀ (n108 : Nat) (x127 : Int32) (g128 : Mem), (3 - x127.toInt).toNat < n108 → Inv g128 → Kp [9, 10, 11, 12, 15] g g128 → 0 ≤ x127.toInt ∧ x127.toInt ≤ 2 → Wm X p l e (rmD 2) s m ([.ref (aL X 9), .ref (aL X 14), .int t] : List Value).toArray below meth c 6 0 0 (MQ below (cQ X (pV (fun g2 => Inv g2 ∧ Kp [9, 10, 11, 12, 15] g g2))) ([.ref (aL X 9), .ref (aL X 14), .int t] : List Value).toArray s 0 0 (Ab X)) g128 108 [(0, .ref (aL X 9)), (1, .ref (aL X 14)), (2, .int t), (3, .int x2), (4, .int (1 : Int32)), (5, .int x127)] [] := by
                  intro n108
                  induction n108 with
                  | zero => intro x127 g128 hm; exact absurd hm (Nat.not_lt_zero _)
                  | succ n108 ih108 =>
                    intro x127 g128 hm108 hI129 hK130 i131
                    try obtain ⟨i131a, i131b⟩ := i131
                    refine m_iload C dX1_finish_108 5 rfl ?_
                    refine m_iload C dX1_finish_110 4 rfl ?_
                    refine m_icmp_ge C 131 dX1_finish_112 (by decide) (fun h132 => ?_) (fun h132 => ?_)
                    · skip
                      have th132 := i_le h132
                      rw [show (1 : Int32).toInt = 1 by decide] at th132
                      refine m_iconst C (0 : Int32) dX1_finish_131 (by decide) ?_
                      refine m_istore C [(5, .int (0 : Int32)), (0, .ref (aL X 9)), (1, .ref (aL X 14)), (2, .int t), (3, .int x2), (4, .int (1 : Int32))] dX1_finish_132 (by decide) rfl ?_
                      have L134 : ∀ (n134 : Nat) (x134 : Int32) (g135 : Mem), (9 - x134.toInt).toNat < n134 → Inv g135 → Kp [9, 10, 11, 12, 15] g g135 → 0 ≤ x134.toInt ∧ x134.toInt ≤ 8 → Wm X p l e (rmD 2) s m ([.ref (aL X 9), .ref (aL X 14), .int t] : List Value).toArray below meth c 6 0 0 (MQ below (cQ X (pV (fun g2 => Inv g2 ∧ Kp [9, 10, 11, 12, 15] g g2))) ([.ref (aL X 9), .ref (aL X 14), .int t] : List Value).toArray s 0 0 (Ab X)) g135 134 [(0, .ref (aL X 9)), (1, .ref (aL X 14)), (2, .int t), (3, .int x2), (4, .int (1 : Int32)), (5, .int x134)] [] := by
                        intro n134
                        induction n134 with
                        | zero => intro x134 g135 hm; exact absurd hm (Nat.not_lt_zero _)
                        | succ n134 ih134 =>
                          intro x134 g135 hm134 hI136 hK137 i138
                          try obtain ⟨i138a, i138b⟩ := i138
                          refine m_iload C dX1_finish_134 5 rfl ?_
                          refine m_bipush C (8 : Int32) dX1_finish_136 (by decide) ?_
                          refine m_icmp_ge C 166 dX1_finish_138 (by decide) (fun h139 => ?_) (fun h139 => ?_)
                          · skip
                            have th139 := i_le h139
                            rw [show (8 : Int32).toInt = 8 by decide] at th139
                            exact m_vret C dX1_finish_166 ⟨rfl, hI136, hK137⟩
                          · skip
                            have th139 := i_nle h139
                            rw [show (8 : Int32).toInt = 8 by decide] at th139
                            refine m_aload_n C dX1_finish_141 1 rfl ?_
                            refine m_getrN (rf := "") C 0 rfl gd2 (by decide) sh_14 rfl dX1_finish_142 lk_X1_54 ?_
                            refine m_iload_n C dX1_finish_145 2 rfl ?_
                            refine m_bipush C (8 : Int32) dX1_finish_146 (by decide) ?_
                            refine m_imul C dX1_finish_148 ?_
                            refine m_iload C dX1_finish_149 5 rfl ?_
                            refine m_iadd C dX1_finish_151 ?_
                            refine m_aload_n C dX1_finish_152 0 rfl ?_
                            refine m_getr (rf := "") C 2 rfl gd1 (by decide) sh_9 rfl dX1_finish_153 lk_X1_18 ?_
                            refine m_iload C dX1_finish_156 5 rfl ?_
                            refine m_iald C sh_12 (i_in (by omega) (by omega)) dX1_finish_158 ?_
                            have t140 : (t * (8 : Int32)).toInt = t.toInt * (8 : Int) := i_mul rfl (by decide) (by omega) (by omega)
                            have t141 : ((t * (8 : Int32)) + x134).toInt = (t.toInt * (8 : Int)) + x134.toInt := i_add t140 rfl (by omega) (by omega)
                            refine m_iast C sh_15 (i_in (by omega) (by omega)) dX1_finish_159 ?_
                            refine m_mem (fun g142 eg142 => ?_)
                            have hI143 : Inv g142 := by rw [eg142]; exact hI136.up (ok_any (by decide))
                            have hK144 : Kp [9, 10, 11, 12, 15] g g142 := by rw [eg142]; exact Kp.up hK137 (by decide) (Or.inl (by decide)) (Or.inl (by decide))
                            obtain ⟨x145, ex145⟩ : ∃ z : Int32, z = x134 + Int32.ofInt 1 := ⟨_, rfl⟩
                            have t146 : (x134 + (Int32.ofInt 1)).toInt = x134.toInt + (1 : Int) := i_add rfl (by decide) (by omega) (by omega)
                            have t147 : x145.toInt = (x134.toInt + (1 : Int)) := (congrArg Int32.toInt ex145).trans t146
                            refine m_iinc C x145 [(5, .int x145), (0, .ref (aL X 9)), (1, .ref (aL X 14)), (2, .int t), (3, .int x2), (4, .int (1 : Int32))] dX1_finish_160 (q := 5) rfl ex145.symm (by decide) rfl ?_
                            refine m_goto C 134 dX1_finish_163 (by decide) ?_
                            refine m_lv [1, 2, 3, 4, 5, 0] rfl ?_
                            exact ih134 x145 g142 (by omega) hI143 hK144 (by omega)
                      have t148 : (0 : Int32).toInt = 0 := by decide
                      refine m_lv [1, 2, 3, 4, 5, 0] rfl ?_
                      exact L134 (((9 - (0 : Int32).toInt).toNat) + 1) (0 : Int32) g128 (Nat.lt_succ_self _) hI129 hK130 (by omega)
                    · skip
                      have th132 := i_nle h132
                      rw [show (1 : Int32).toInt = 1 by decide] at th132
                      refine m_aload_n C dX1_finish_115 0 rfl ?_
                      refine m_iload C dX1_finish_116 5 rfl ?_
                      refine m_invV C cal_X1_spread sh_9 rfl (c_X1_spread l hX g128 x127 hI129 (by omega)) lk_X1_48 im_X1_spread se_X1_spread (by decide) rfl rfl (Nat.le_of_ble_eq_true rfl) dX1_finish_118 ⟨Nat.le_refl _, Nat.le_refl _⟩ (rV fun g150 q151 => ?_)
                      obtain ⟨hI152, hK153⟩ := q151
                      have hK154 : Kp [9, 10, 11, 12, 15] g g150 := (hK130).tr hK153 (by decide)
                      refine m_aload_n C dX1_finish_121 0 rfl ?_
                      refine m_invV C cal_X1_mix sh_9 rfl (c_X1_mix l hX g150  hI152) lk_X1_51 im_X1_mix se_X1_mix (by decide) rfl rfl (Nat.le_of_ble_eq_true rfl) dX1_finish_122 ⟨Nat.le_refl _, Nat.le_refl _⟩ (rV fun g156 q157 => ?_)
                      obtain ⟨hI158, hK159⟩ := q157
                      have hK160 : Kp [9, 10, 11, 12, 15] g g156 := (hK154).tr hK159 (by decide)
                      obtain ⟨x161, ex161⟩ : ∃ z : Int32, z = x127 + Int32.ofInt 1 := ⟨_, rfl⟩
                      have t162 : (x127 + (Int32.ofInt 1)).toInt = x127.toInt + (1 : Int) := i_add rfl (by decide) (by omega) (by omega)
                      have t163 : x161.toInt = (x127.toInt + (1 : Int)) := (congrArg Int32.toInt ex161).trans t162
                      refine m_iinc C x161 [(5, .int x161), (0, .ref (aL X 9)), (1, .ref (aL X 14)), (2, .int t), (3, .int x2), (4, .int (1 : Int32))] dX1_finish_125 (q := 5) rfl ex161.symm (by decide) rfl ?_
                      refine m_goto C 108 dX1_finish_128 (by decide) ?_
                      refine m_lv [1, 2, 3, 4, 5, 0] rfl ?_
                      exact ih108 x161 g156 (by omega) hI158 hK160 (by omega)
                have t164 : (0 : Int32).toInt = 0 := by decide
                refine m_lv [1, 2, 3, 4, 5, 0] rfl ?_
                exact L108 (((3 - (0 : Int32).toInt).toNat) + 1) (0 : Int32) g121 (Nat.lt_succ_self _) hI122 hK123 (by omega)
              · skip
                have th125 := i_nle h125
                rw [show (8 : Int32).toInt = 8 by decide] at th125
                refine m_aload_n C dX1_finish_86 0 rfl ?_
                refine m_getr (rf := "") C 2 rfl gd1 (by decide) sh_9 rfl dX1_finish_87 lk_X1_18 ?_
                refine m_iload C dX1_finish_90 5 rfl ?_
                refine m_statS (host := "AuditVault") C dX1_finish_92 (by decide +kernel) ?_
                refine m_iload C dX1_finish_95 5 rfl ?_
                refine m_tldS C (i_in (by omega) (by omega)) dX1_finish_97 ?_
                refine m_iast C sh_12 (i_in (by omega) (by omega)) dX1_finish_98 ?_
                refine m_mem (fun g165 eg165 => ?_)
                have hI166 : Inv g165 := by rw [eg165]; exact hI122.up (ok_any (by decide))
                have hK167 : Kp [9, 10, 11, 12, 15] g g165 := by rw [eg165]; exact Kp.up hK123 (by decide) (Or.inl (by decide)) (Or.inl (by decide))
                obtain ⟨x168, ex168⟩ : ∃ z : Int32, z = x120 + Int32.ofInt 1 := ⟨_, rfl⟩
                have t169 : (x120 + (Int32.ofInt 1)).toInt = x120.toInt + (1 : Int) := i_add rfl (by decide) (by omega) (by omega)
                have t170 : x168.toInt = (x120.toInt + (1 : Int)) := (congrArg Int32.toInt ex168).trans t169
                refine m_iinc C x168 [(5, .int x168), (0, .ref (aL X 9)), (1, .ref (aL X 14)), (2, .int t), (3, .int x2), (4, .int (1 : Int32))] dX1_finish_99 (q := 5) rfl ex168.symm (by decide) rfl ?_
                refine m_goto C 79 dX1_finish_102 (by decide) ?_
                refine m_lv [1, 2, 3, 4, 5, 0] rfl ?_
                exact ih79 x168 g165 (by omega) hI166 hK167 (by omega)
          have t171 : (0 : Int32).toInt = 0 := by decide
          refine m_lv [1, 2, 3, 4, 5, 0] rfl ?_
          exact L79 (((9 - (0 : Int32).toInt).toNat) + 1) (0 : Int32) g116 (Nat.lt_succ_self _) hI117 hK118 (by omega)
        · skip
          have th113 := i_nle h113
          refine m_aload_n C dX1_finish_52 0 rfl ?_
          refine m_iconst C (0 : Int32) dX1_finish_53 (by decide) ?_
          have t172 : (0 : Int32).toInt = 0 := by decide
          refine m_invV C cal_X1_add sh_9 rfl (c_X1_add l hX g107 (0 : Int32) hI108) lk_X1_31 im_X1_add se_X1_add (by decide) rfl rfl (Nat.le_of_ble_eq_true rfl) dX1_finish_54 ⟨Nat.le_refl _, Nat.le_refl _⟩ (rV fun g174 q175 => ?_)
          obtain ⟨hI176, hK177⟩ := q175
          have hK178 : Kp [9, 10, 11, 12, 15] g g174 := (hK109).tr hK177 (by decide)
          obtain ⟨x179, ex179⟩ : ∃ z : Int32, z = x106 + Int32.ofInt 1 := ⟨_, rfl⟩
          have t180 : (x106 + (Int32.ofInt 1)).toInt = x106.toInt + (1 : Int) := i_add rfl (by decide) (by omega) (by omega)
          have t181 : x179.toInt = (x106.toInt + (1 : Int)) := (congrArg Int32.toInt ex179).trans t180
          refine m_iinc C x179 [(5, .int x179), (0, .ref (aL X 9)), (1, .ref (aL X 14)), (2, .int t), (3, .int x2), (4, .int (1 : Int32))] dX1_finish_57 (q := 5) rfl ex179.symm (by decide) rfl ?_
          refine m_goto C 40 dX1_finish_60 (by decide) ?_
          refine m_lv [1, 2, 3, 4, 5, 0] rfl ?_
          exact ih40 x179 g174 (by omega) hI176 hK178 (by omega)
    refine m_lv [3, 4, 5, 2, 1, 0] rfl ?_
    exact L40 (((201 - x104.toInt).toNat) + 1) x104 g98 (Nat.lt_succ_self _) hI100 hK102 (by omega)
set_option maxRecDepth 20000 in
set_option maxHeartbeats 4000000 in
theorem c_X1_finish_18 (l : Launch) {X : XT} (hX : Lok X) (g : Mem) (t : Int32) (hI : Inv g) (h_t : 0 ≤ t.toInt ∧ t.toInt ≤ 60) : Ctr l X yX1_finish cX1_finish 6 none (rmD 2) [.ref (aL X 9), .ref (aL X 18), .int t] g (pV (fun g2 => Inv g2 ∧ Kp [9, 10, 11, 12, 19] g g2)) := by
  refine Ctr.of (lv := [(0, .ref (aL X 9)), (1, .ref (aL X 18)), (2, .int t)]) hX (by decide) rfl (Nat.le_of_ble_eq_true rfl) ?_
  intro p e s m below meth c C
  refine m_aload_n C dX1_finish_0 0 rfl ?_
  refine m_geti (rf := "") C 3 rfl gd1 (by decide) sh_9 rfl dX1_finish_1 lk_X1_21 ?_
  have r1 := iv_hlen hI
  refine m_bipush C (8 : Int32) dX1_finish_4 (by decide) ?_
  refine m_imul C dX1_finish_6 ?_
  refine m_name (fun x2 ex2 => ?_)
  have t3 : ((g 9 3) * (8 : Int32)).toInt = (g 9 3).toInt * (8 : Int) := i_mul rfl (by decide) (by omega) (by omega)
  have t4 : x2.toInt = ((g 9 3).toInt * (8 : Int)) := (congrArg Int32.toInt ex2).trans t3
  refine m_istore_n C [(3, .int x2), (0, .ref (aL X 9)), (1, .ref (aL X 18)), (2, .int t)] dX1_finish_7 (by decide) rfl ?_
  refine m_aload_n C dX1_finish_8 1 rfl ?_
  refine m_geti (rf := "") C 3 rfl gd1 (by decide) sh_9 rfl dX1_finish_9 lk_X1_21 ?_
  have r5 := iv_hlen hI
  refine m_bipush C (9 : Int32) dX1_finish_12 (by decide) ?_
  refine m_iadd C dX1_finish_14 ?_
  refine m_bipush C (64 : Int32) dX1_finish_15 (by decide) ?_
  have t6 : ((g 9 3) + (9 : Int32)).toInt = (g 9 3).toInt + (9 : Int) := i_add rfl (by decide) (by omega) (by omega)
  refine m_icmp_gt C 24 dX1_finish_17 (by decide) (fun h7 => ?_) (fun h7 => ?_)
  · skip
    have th7 := i_lt h7
    rw [show (64 : Int32).toInt = 64 by decide] at th7
    refine m_iconst C (2 : Int32) dX1_finish_24 (by decide) ?_
    refine m_istore C [(4, .int (2 : Int32)), (3, .int x2), (0, .ref (aL X 9)), (1, .ref (aL X 18)), (2, .int t)] dX1_finish_25 (by decide) rfl ?_
    refine m_aload_n C dX1_finish_27 2 rfl ?_
    refine m_sipush C (128 : Int32) dX1_finish_28 (by decide) ?_
    have t9 : (128 : Int32).toInt = 128 := by decide
    refine m_invV C cal_X1_add sh_9 rfl (c_X1_add l hX g (128 : Int32) hI) lk_X1_31 im_X1_add se_X1_add (by decide) rfl rfl (Nat.le_of_ble_eq_true rfl) dX1_finish_31 ⟨Nat.le_refl _, Nat.le_refl _⟩ (rV fun g11 q12 => ?_)
    obtain ⟨hI13, hK14⟩ := q12
    have hK15 : Kp [9, 10, 11, 12, 19] g g11 := (Kp.rf).tr hK14 (by decide)
    refine m_aload_n C dX1_finish_34 2 rfl ?_
    refine m_geti (rf := "") C 3 rfl gd1 (by decide) sh_9 rfl dX1_finish_35 lk_X1_21 ?_
    have r16 := iv_hlen hI13
    refine m_name (fun x17 ex17 => ?_)
    have t18 : x17.toInt = (g11 9 3).toInt := (congrArg Int32.toInt ex17).trans rfl
    refine m_istore C [(5, .int x17), (4, .int (2 : Int32)), (3, .int x2), (0, .ref (aL X 9)), (1, .ref (aL X 18)), (2, .int t)] dX1_finish_38 (by decide) rfl ?_
    have L40 : ∀ (n40 : Nat) (x19 : Int32) (g20 : Mem), (201 - x19.toInt).toNat < n40 → Inv g20 → Kp [9, 10, 11, 12, 19] g g20 → 0 ≤ x19.toInt ∧ x19.toInt ≤ 200 → Wm X p l e (rmD 2) s m ([.ref (aL X 9), .ref (aL X 18), .int t] : List Value).toArray below meth c 6 0 0 (MQ below (cQ X (pV (fun g2 => Inv g2 ∧ Kp [9, 10, 11, 12, 19] g g2))) ([.ref (aL X 9), .ref (aL X 18), .int t] : List Value).toArray s 0 0 (Ab X)) g20 40 [(0, .ref (aL X 9)), (1, .ref (aL X 18)), (2, .int t), (3, .int x2), (4, .int (2 : Int32)), (5, .int x19)] [] := by
      intro n40
      induction n40 with
      | zero => intro x19 g20 hm; exact absurd hm (Nat.not_lt_zero _)
      | succ n40 ih40 =>
        intro x19 g20 hm40 hI21 hK22 i23
        try obtain ⟨i23a, i23b⟩ := i23
        refine m_iload C dX1_finish_40 5 rfl ?_
        refine m_iload C dX1_finish_42 4 rfl ?_
        refine m_bipush C (64 : Int32) dX1_finish_44 (by decide) ?_
        refine m_imul C dX1_finish_46 ?_
        refine m_iconst C (4 : Int32) dX1_finish_47 (by decide) ?_
        refine m_isub C dX1_finish_48 ?_
        have t24 : ((2 : Int32) * (64 : Int32)).toInt = (2 : Int) * (64 : Int) := i_mul (by decide) (by decide) (by omega) (by omega)
        have t25 : (((2 : Int32) * (64 : Int32)) - (4 : Int32)).toInt = ((2 : Int) * (64 : Int)) - (4 : Int) := i_sub t24 (by decide) (by omega) (by omega)
        refine m_icmp_ge C 63 dX1_finish_49 (by decide) (fun h26 => ?_) (fun h26 => ?_)
        · skip
          have th26 := i_le h26
          refine m_aload_n C dX1_finish_63 0 rfl ?_
          refine m_getr (rf := "") C 0 rfl gd1 (by decide) sh_9 rfl dX1_finish_64 lk_X1_11 ?_
          refine m_iload C dX1_finish_67 4 rfl ?_
          refine m_bipush C (16 : Int32) dX1_finish_69 (by decide) ?_
          refine m_imul C dX1_finish_71 ?_
          refine m_iconst C (1 : Int32) dX1_finish_72 (by decide) ?_
          refine m_isub C dX1_finish_73 ?_
          refine m_iload_n C dX1_finish_74 3 rfl ?_
          have t27 : ((2 : Int32) * (16 : Int32)).toInt = (2 : Int) * (16 : Int) := i_mul (by decide) (by decide) (by omega) (by omega)
          have t28 : (((2 : Int32) * (16 : Int32)) - (1 : Int32)).toInt = ((2 : Int) * (16 : Int)) - (1 : Int) := i_sub t27 (by decide) (by omega) (by omega)
          refine m_iast C sh_10 (i_in (by omega) (by omega)) dX1_finish_75 ?_
          refine m_mem (fun g29 eg29 => ?_)
          have hI30 : Inv g29 := by rw [eg29]; exact hI21.up (ok_any (by decide))
          have hK31 : Kp [9, 10, 11, 12, 19] g g29 := by rw [eg29]; exact Kp.up hK22 (by decide) (Or.inl (by decide)) (Or.inl (by decide))
          refine m_iconst C (0 : Int32) dX1_finish_76 (by decide) ?_
          refine m_istore C [(5, .int (0 : Int32)), (0, .ref (aL X 9)), (1, .ref (aL X 18)), (2, .int t), (3, .int x2), (4, .int (2 : Int32))] dX1_finish_77 (by decide) rfl ?_
          have L79 : ∀ (n79 : Nat) (x33 : Int32) (g34 : Mem), (9 - x33.toInt).toNat < n79 → Inv g34 → Kp [9, 10, 11, 12, 19] g g34 → 0 ≤ x33.toInt ∧ x33.toInt ≤ 8 → Wm X p l e (rmD 2) s m ([.ref (aL X 9), .ref (aL X 18), .int t] : List Value).toArray below meth c 6 0 0 (MQ below (cQ X (pV (fun g2 => Inv g2 ∧ Kp [9, 10, 11, 12, 19] g g2))) ([.ref (aL X 9), .ref (aL X 18), .int t] : List Value).toArray s 0 0 (Ab X)) g34 79 [(0, .ref (aL X 9)), (1, .ref (aL X 18)), (2, .int t), (3, .int x2), (4, .int (2 : Int32)), (5, .int x33)] [] := by
            intro n79
            induction n79 with
            | zero => intro x33 g34 hm; exact absurd hm (Nat.not_lt_zero _)
            | succ n79 ih79 =>
              intro x33 g34 hm79 hI35 hK36 i37
              try obtain ⟨i37a, i37b⟩ := i37
              refine m_iload C dX1_finish_79 5 rfl ?_
              refine m_bipush C (8 : Int32) dX1_finish_81 (by decide) ?_
              refine m_icmp_ge C 105 dX1_finish_83 (by decide) (fun h38 => ?_) (fun h38 => ?_)
              · skip
                have th38 := i_le h38
                rw [show (8 : Int32).toInt = 8 by decide] at th38
                refine m_iconst C (0 : Int32) dX1_finish_105 (by decide) ?_
                refine m_istore C [(5, .int (0 : Int32)), (0, .ref (aL X 9)), (1, .ref (aL X 18)), (2, .int t), (3, .int x2), (4, .int (2 : Int32))] dX1_finish_106 (by decide) rfl ?_
                have L108 : ∀ (n108 : Nat) (x40 : Int32) (g41 : Mem), (3 - x40.toInt).toNat < n108 → Inv g41 → Kp [9, 10, 11, 12, 19] g g41 → 0 ≤ x40.toInt ∧ x40.toInt ≤ 2 → Wm X p l e (rmD 2) s m ([.ref (aL X 9), .ref (aL X 18), .int t] : List Value).toArray below meth c 6 0 0 (MQ below (cQ X (pV (fun g2 => Inv g2 ∧ Kp [9, 10, 11, 12, 19] g g2))) ([.ref (aL X 9), .ref (aL X 18), .int t] : List Value).toArray s 0 0 (Ab X)) g41 108 [(0, .ref (aL X 9)), (1, .ref (aL X 18)), (2, .int t), (3, .int x2), (4, .int (2 : Int32)), (5, .int x40)] [] := by
                  intro n108
                  induction n108 with
                  | zero => intro x40 g41 hm; exact absurd hm (Nat.not_lt_zero _)
                  | succ n108 ih108 =>
                    intro x40 g41 hm108 hI42 hK43 i44
                    try obtain ⟨i44a, i44b⟩ := i44
                    refine m_iload C dX1_finish_108 5 rfl ?_
                    refine m_iload C dX1_finish_110 4 rfl ?_
                    refine m_icmp_ge C 131 dX1_finish_112 (by decide) (fun h45 => ?_) (fun h45 => ?_)
                    · skip
                      have th45 := i_le h45
                      rw [show (2 : Int32).toInt = 2 by decide] at th45
                      refine m_iconst C (0 : Int32) dX1_finish_131 (by decide) ?_
                      refine m_istore C [(5, .int (0 : Int32)), (0, .ref (aL X 9)), (1, .ref (aL X 18)), (2, .int t), (3, .int x2), (4, .int (2 : Int32))] dX1_finish_132 (by decide) rfl ?_
                      have L134 : ∀ (n134 : Nat) (x47 : Int32) (g48 : Mem), (9 - x47.toInt).toNat < n134 → Inv g48 → Kp [9, 10, 11, 12, 19] g g48 → 0 ≤ x47.toInt ∧ x47.toInt ≤ 8 → Wm X p l e (rmD 2) s m ([.ref (aL X 9), .ref (aL X 18), .int t] : List Value).toArray below meth c 6 0 0 (MQ below (cQ X (pV (fun g2 => Inv g2 ∧ Kp [9, 10, 11, 12, 19] g g2))) ([.ref (aL X 9), .ref (aL X 18), .int t] : List Value).toArray s 0 0 (Ab X)) g48 134 [(0, .ref (aL X 9)), (1, .ref (aL X 18)), (2, .int t), (3, .int x2), (4, .int (2 : Int32)), (5, .int x47)] [] := by
                        intro n134
                        induction n134 with
                        | zero => intro x47 g48 hm; exact absurd hm (Nat.not_lt_zero _)
                        | succ n134 ih134 =>
                          intro x47 g48 hm134 hI49 hK50 i51
                          try obtain ⟨i51a, i51b⟩ := i51
                          refine m_iload C dX1_finish_134 5 rfl ?_
                          refine m_bipush C (8 : Int32) dX1_finish_136 (by decide) ?_
                          refine m_icmp_ge C 166 dX1_finish_138 (by decide) (fun h52 => ?_) (fun h52 => ?_)
                          · skip
                            have th52 := i_le h52
                            rw [show (8 : Int32).toInt = 8 by decide] at th52
                            exact m_vret C dX1_finish_166 ⟨rfl, hI49, hK50⟩
                          · skip
                            have th52 := i_nle h52
                            rw [show (8 : Int32).toInt = 8 by decide] at th52
                            refine m_aload_n C dX1_finish_141 1 rfl ?_
                            refine m_getrN (rf := "") C 0 rfl gd2 (by decide) sh_18 rfl dX1_finish_142 lk_X1_54 ?_
                            refine m_iload_n C dX1_finish_145 2 rfl ?_
                            refine m_bipush C (8 : Int32) dX1_finish_146 (by decide) ?_
                            refine m_imul C dX1_finish_148 ?_
                            refine m_iload C dX1_finish_149 5 rfl ?_
                            refine m_iadd C dX1_finish_151 ?_
                            refine m_aload_n C dX1_finish_152 0 rfl ?_
                            refine m_getr (rf := "") C 2 rfl gd1 (by decide) sh_9 rfl dX1_finish_153 lk_X1_18 ?_
                            refine m_iload C dX1_finish_156 5 rfl ?_
                            refine m_iald C sh_12 (i_in (by omega) (by omega)) dX1_finish_158 ?_
                            have t53 : (t * (8 : Int32)).toInt = t.toInt * (8 : Int) := i_mul rfl (by decide) (by omega) (by omega)
                            have t54 : ((t * (8 : Int32)) + x47).toInt = (t.toInt * (8 : Int)) + x47.toInt := i_add t53 rfl (by omega) (by omega)
                            refine m_iast C sh_19 (i_in (by omega) (by omega)) dX1_finish_159 ?_
                            refine m_mem (fun g55 eg55 => ?_)
                            have hI56 : Inv g55 := by rw [eg55]; exact hI49.up (ok_any (by decide))
                            have hK57 : Kp [9, 10, 11, 12, 19] g g55 := by rw [eg55]; exact Kp.up hK50 (by decide) (Or.inl (by decide)) (Or.inl (by decide))
                            obtain ⟨x58, ex58⟩ : ∃ z : Int32, z = x47 + Int32.ofInt 1 := ⟨_, rfl⟩
                            have t59 : (x47 + (Int32.ofInt 1)).toInt = x47.toInt + (1 : Int) := i_add rfl (by decide) (by omega) (by omega)
                            have t60 : x58.toInt = (x47.toInt + (1 : Int)) := (congrArg Int32.toInt ex58).trans t59
                            refine m_iinc C x58 [(5, .int x58), (0, .ref (aL X 9)), (1, .ref (aL X 18)), (2, .int t), (3, .int x2), (4, .int (2 : Int32))] dX1_finish_160 (q := 5) rfl ex58.symm (by decide) rfl ?_
                            refine m_goto C 134 dX1_finish_163 (by decide) ?_
                            refine m_lv [1, 2, 3, 4, 5, 0] rfl ?_
                            exact ih134 x58 g55 (by omega) hI56 hK57 (by omega)
                      have t61 : (0 : Int32).toInt = 0 := by decide
                      refine m_lv [1, 2, 3, 4, 5, 0] rfl ?_
                      exact L134 (((9 - (0 : Int32).toInt).toNat) + 1) (0 : Int32) g41 (Nat.lt_succ_self _) hI42 hK43 (by omega)
                    · skip
                      have th45 := i_nle h45
                      rw [show (2 : Int32).toInt = 2 by decide] at th45
                      refine m_aload_n C dX1_finish_115 0 rfl ?_
                      refine m_iload C dX1_finish_116 5 rfl ?_
                      refine m_invV C cal_X1_spread sh_9 rfl (c_X1_spread l hX g41 x40 hI42 (by omega)) lk_X1_48 im_X1_spread se_X1_spread (by decide) rfl rfl (Nat.le_of_ble_eq_true rfl) dX1_finish_118 ⟨Nat.le_refl _, Nat.le_refl _⟩ (rV fun g63 q64 => ?_)
                      obtain ⟨hI65, hK66⟩ := q64
                      have hK67 : Kp [9, 10, 11, 12, 19] g g63 := (hK43).tr hK66 (by decide)
                      refine m_aload_n C dX1_finish_121 0 rfl ?_
                      refine m_invV C cal_X1_mix sh_9 rfl (c_X1_mix l hX g63  hI65) lk_X1_51 im_X1_mix se_X1_mix (by decide) rfl rfl (Nat.le_of_ble_eq_true rfl) dX1_finish_122 ⟨Nat.le_refl _, Nat.le_refl _⟩ (rV fun g69 q70 => ?_)
                      obtain ⟨hI71, hK72⟩ := q70
                      have hK73 : Kp [9, 10, 11, 12, 19] g g69 := (hK67).tr hK72 (by decide)
                      obtain ⟨x74, ex74⟩ : ∃ z : Int32, z = x40 + Int32.ofInt 1 := ⟨_, rfl⟩
                      have t75 : (x40 + (Int32.ofInt 1)).toInt = x40.toInt + (1 : Int) := i_add rfl (by decide) (by omega) (by omega)
                      have t76 : x74.toInt = (x40.toInt + (1 : Int)) := (congrArg Int32.toInt ex74).trans t75
                      refine m_iinc C x74 [(5, .int x74), (0, .ref (aL X 9)), (1, .ref (aL X 18)), (2, .int t), (3, .int x2), (4, .int (2 : Int32))] dX1_finish_125 (q := 5) rfl ex74.symm (by decide) rfl ?_
                      refine m_goto C 108 dX1_finish_128 (by decide) ?_
                      refine m_lv [1, 2, 3, 4, 5, 0] rfl ?_
                      exact ih108 x74 g69 (by omega) hI71 hK73 (by omega)
                have t77 : (0 : Int32).toInt = 0 := by decide
                refine m_lv [1, 2, 3, 4, 5, 0] rfl ?_
                exact L108 (((3 - (0 : Int32).toInt).toNat) + 1) (0 : Int32) g34 (Nat.lt_succ_self _) hI35 hK36 (by omega)
              · skip
                have th38 := i_nle h38
                rw [show (8 : Int32).toInt = 8 by decide] at th38
                refine m_aload_n C dX1_finish_86 0 rfl ?_
                refine m_getr (rf := "") C 2 rfl gd1 (by decide) sh_9 rfl dX1_finish_87 lk_X1_18 ?_
                refine m_iload C dX1_finish_90 5 rfl ?_
                refine m_statS (host := "AuditVault") C dX1_finish_92 (by decide +kernel) ?_
                refine m_iload C dX1_finish_95 5 rfl ?_
                refine m_tldS C (i_in (by omega) (by omega)) dX1_finish_97 ?_
                refine m_iast C sh_12 (i_in (by omega) (by omega)) dX1_finish_98 ?_
                refine m_mem (fun g78 eg78 => ?_)
                have hI79 : Inv g78 := by rw [eg78]; exact hI35.up (ok_any (by decide))
                have hK80 : Kp [9, 10, 11, 12, 19] g g78 := by rw [eg78]; exact Kp.up hK36 (by decide) (Or.inl (by decide)) (Or.inl (by decide))
                obtain ⟨x81, ex81⟩ : ∃ z : Int32, z = x33 + Int32.ofInt 1 := ⟨_, rfl⟩
                have t82 : (x33 + (Int32.ofInt 1)).toInt = x33.toInt + (1 : Int) := i_add rfl (by decide) (by omega) (by omega)
                have t83 : x81.toInt = (x33.toInt + (1 : Int)) := (congrArg Int32.toInt ex81).trans t82
                refine m_iinc C x81 [(5, .int x81), (0, .ref (aL X 9)), (1, .ref (aL X 18)), (2, .int t), (3, .int x2), (4, .int (2 : Int32))] dX1_finish_99 (q := 5) rfl ex81.symm (by decide) rfl ?_
                refine m_goto C 79 dX1_finish_102 (by decide) ?_
                refine m_lv [1, 2, 3, 4, 5, 0] rfl ?_
                exact ih79 x81 g78 (by omega) hI79 hK80 (by omega)
          have t84 : (0 : Int32).toInt = 0 := by decide
          refine m_lv [1, 2, 3, 4, 5, 0] rfl ?_
          exact L79 (((9 - (0 : Int32).toInt).toNat) + 1) (0 : Int32) g29 (Nat.lt_succ_self _) hI30 hK31 (by omega)
        · skip
          have th26 := i_nle h26
          refine m_aload_n C dX1_finish_52 0 rfl ?_
          refine m_iconst C (0 : Int32) dX1_finish_53 (by decide) ?_
          have t85 : (0 : Int32).toInt = 0 := by decide
          refine m_invV C cal_X1_add sh_9 rfl (c_X1_add l hX g20 (0 : Int32) hI21) lk_X1_31 im_X1_add se_X1_add (by decide) rfl rfl (Nat.le_of_ble_eq_true rfl) dX1_finish_54 ⟨Nat.le_refl _, Nat.le_refl _⟩ (rV fun g87 q88 => ?_)
          obtain ⟨hI89, hK90⟩ := q88
          have hK91 : Kp [9, 10, 11, 12, 19] g g87 := (hK22).tr hK90 (by decide)
          obtain ⟨x92, ex92⟩ : ∃ z : Int32, z = x19 + Int32.ofInt 1 := ⟨_, rfl⟩
          have t93 : (x19 + (Int32.ofInt 1)).toInt = x19.toInt + (1 : Int) := i_add rfl (by decide) (by omega) (by omega)
          have t94 : x92.toInt = (x19.toInt + (1 : Int)) := (congrArg Int32.toInt ex92).trans t93
          refine m_iinc C x92 [(5, .int x92), (0, .ref (aL X 9)), (1, .ref (aL X 18)), (2, .int t), (3, .int x2), (4, .int (2 : Int32))] dX1_finish_57 (q := 5) rfl ex92.symm (by decide) rfl ?_
          refine m_goto C 40 dX1_finish_60 (by decide) ?_
          refine m_lv [1, 2, 3, 4, 5, 0] rfl ?_
          exact ih40 x92 g87 (by omega) hI89 hK91 (by omega)
    refine m_lv [3, 4, 5, 2, 1, 0] rfl ?_
    exact L40 (((201 - x17.toInt).toNat) + 1) x17 g11 (Nat.lt_succ_self _) hI13 hK15 (by omega)
  · skip
    have th7 := i_nlt h7
    rw [show (64 : Int32).toInt = 64 by decide] at th7
    refine m_iconst C (1 : Int32) dX1_finish_20 (by decide) ?_
    refine m_goto C 25 dX1_finish_21 (by decide) ?_
    refine m_istore C [(4, .int (1 : Int32)), (3, .int x2), (0, .ref (aL X 9)), (1, .ref (aL X 18)), (2, .int t)] dX1_finish_25 (by decide) rfl ?_
    refine m_aload_n C dX1_finish_27 2 rfl ?_
    refine m_sipush C (128 : Int32) dX1_finish_28 (by decide) ?_
    have t96 : (128 : Int32).toInt = 128 := by decide
    refine m_invV C cal_X1_add sh_9 rfl (c_X1_add l hX g (128 : Int32) hI) lk_X1_31 im_X1_add se_X1_add (by decide) rfl rfl (Nat.le_of_ble_eq_true rfl) dX1_finish_31 ⟨Nat.le_refl _, Nat.le_refl _⟩ (rV fun g98 q99 => ?_)
    obtain ⟨hI100, hK101⟩ := q99
    have hK102 : Kp [9, 10, 11, 12, 19] g g98 := (Kp.rf).tr hK101 (by decide)
    refine m_aload_n C dX1_finish_34 2 rfl ?_
    refine m_geti (rf := "") C 3 rfl gd1 (by decide) sh_9 rfl dX1_finish_35 lk_X1_21 ?_
    have r103 := iv_hlen hI100
    refine m_name (fun x104 ex104 => ?_)
    have t105 : x104.toInt = (g98 9 3).toInt := (congrArg Int32.toInt ex104).trans rfl
    refine m_istore C [(5, .int x104), (4, .int (1 : Int32)), (3, .int x2), (0, .ref (aL X 9)), (1, .ref (aL X 18)), (2, .int t)] dX1_finish_38 (by decide) rfl ?_
    have L40 : ∀ (n40 : Nat) (x106 : Int32) (g107 : Mem), (201 - x106.toInt).toNat < n40 → Inv g107 → Kp [9, 10, 11, 12, 19] g g107 → 0 ≤ x106.toInt ∧ x106.toInt ≤ 200 → Wm X p l e (rmD 2) s m ([.ref (aL X 9), .ref (aL X 18), .int t] : List Value).toArray below meth c 6 0 0 (MQ below (cQ X (pV (fun g2 => Inv g2 ∧ Kp [9, 10, 11, 12, 19] g g2))) ([.ref (aL X 9), .ref (aL X 18), .int t] : List Value).toArray s 0 0 (Ab X)) g107 40 [(0, .ref (aL X 9)), (1, .ref (aL X 18)), (2, .int t), (3, .int x2), (4, .int (1 : Int32)), (5, .int x106)] [] := by
      intro n40
      induction n40 with
      | zero => intro x106 g107 hm; exact absurd hm (Nat.not_lt_zero _)
      | succ n40 ih40 =>
        intro x106 g107 hm40 hI108 hK109 i110
        try obtain ⟨i110a, i110b⟩ := i110
        refine m_iload C dX1_finish_40 5 rfl ?_
        refine m_iload C dX1_finish_42 4 rfl ?_
        refine m_bipush C (64 : Int32) dX1_finish_44 (by decide) ?_
        refine m_imul C dX1_finish_46 ?_
        refine m_iconst C (4 : Int32) dX1_finish_47 (by decide) ?_
        refine m_isub C dX1_finish_48 ?_
        have t111 : ((1 : Int32) * (64 : Int32)).toInt = (1 : Int) * (64 : Int) := i_mul (by decide) (by decide) (by omega) (by omega)
        have t112 : (((1 : Int32) * (64 : Int32)) - (4 : Int32)).toInt = ((1 : Int) * (64 : Int)) - (4 : Int) := i_sub t111 (by decide) (by omega) (by omega)
        refine m_icmp_ge C 63 dX1_finish_49 (by decide) (fun h113 => ?_) (fun h113 => ?_)
        · skip
          have th113 := i_le h113
          refine m_aload_n C dX1_finish_63 0 rfl ?_
          refine m_getr (rf := "") C 0 rfl gd1 (by decide) sh_9 rfl dX1_finish_64 lk_X1_11 ?_
          refine m_iload C dX1_finish_67 4 rfl ?_
          refine m_bipush C (16 : Int32) dX1_finish_69 (by decide) ?_
          refine m_imul C dX1_finish_71 ?_
          refine m_iconst C (1 : Int32) dX1_finish_72 (by decide) ?_
          refine m_isub C dX1_finish_73 ?_
          refine m_iload_n C dX1_finish_74 3 rfl ?_
          have t114 : ((1 : Int32) * (16 : Int32)).toInt = (1 : Int) * (16 : Int) := i_mul (by decide) (by decide) (by omega) (by omega)
          have t115 : (((1 : Int32) * (16 : Int32)) - (1 : Int32)).toInt = ((1 : Int) * (16 : Int)) - (1 : Int) := i_sub t114 (by decide) (by omega) (by omega)
          refine m_iast C sh_10 (i_in (by omega) (by omega)) dX1_finish_75 ?_
          refine m_mem (fun g116 eg116 => ?_)
          have hI117 : Inv g116 := by rw [eg116]; exact hI108.up (ok_any (by decide))
          have hK118 : Kp [9, 10, 11, 12, 19] g g116 := by rw [eg116]; exact Kp.up hK109 (by decide) (Or.inl (by decide)) (Or.inl (by decide))
          refine m_iconst C (0 : Int32) dX1_finish_76 (by decide) ?_
          refine m_istore C [(5, .int (0 : Int32)), (0, .ref (aL X 9)), (1, .ref (aL X 18)), (2, .int t), (3, .int x2), (4, .int (1 : Int32))] dX1_finish_77 (by decide) rfl ?_
          have L79 : ∀ (n79 : Nat) (x120 : Int32) (g121 : Mem), (9 - x120.toInt).toNat < n79 → Inv g121 → Kp [9, 10, 11, 12, 19] g g121 → 0 ≤ x120.toInt ∧ x120.toInt ≤ 8 → Wm X p l e (rmD 2) s m ([.ref (aL X 9), .ref (aL X 18), .int t] : List Value).toArray below meth c 6 0 0 (MQ below (cQ X (pV (fun g2 => Inv g2 ∧ Kp [9, 10, 11, 12, 19] g g2))) ([.ref (aL X 9), .ref (aL X 18), .int t] : List Value).toArray s 0 0 (Ab X)) g121 79 [(0, .ref (aL X 9)), (1, .ref (aL X 18)), (2, .int t), (3, .int x2), (4, .int (1 : Int32)), (5, .int x120)] [] := by
            intro n79
            induction n79 with
            | zero => intro x120 g121 hm; exact absurd hm (Nat.not_lt_zero _)
            | succ n79 ih79 =>
              intro x120 g121 hm79 hI122 hK123 i124
              try obtain ⟨i124a, i124b⟩ := i124
              refine m_iload C dX1_finish_79 5 rfl ?_
              refine m_bipush C (8 : Int32) dX1_finish_81 (by decide) ?_
              refine m_icmp_ge C 105 dX1_finish_83 (by decide) (fun h125 => ?_) (fun h125 => ?_)
              · skip
                have th125 := i_le h125
                rw [show (8 : Int32).toInt = 8 by decide] at th125
                refine m_iconst C (0 : Int32) dX1_finish_105 (by decide) ?_
                refine m_istore C [(5, .int (0 : Int32)), (0, .ref (aL X 9)), (1, .ref (aL X 18)), (2, .int t), (3, .int x2), (4, .int (1 : Int32))] dX1_finish_106 (by decide) rfl ?_
                have L108 : ∀ (n108 : Nat) (x127 : Int32) (g128 : Mem), (3 - x127.toInt).toNat < n108 → Inv g128 → Kp [9, 10, 11, 12, 19] g g128 → 0 ≤ x127.toInt ∧ x127.toInt ≤ 2 → Wm X p l e (rmD 2) s m ([.ref (aL X 9), .ref (aL X 18), .int t] : List Value).toArray below meth c 6 0 0 (MQ below (cQ X (pV (fun g2 => Inv g2 ∧ Kp [9, 10, 11, 12, 19] g g2))) ([.ref (aL X 9), .ref (aL X 18), .int t] : List Value).toArray s 0 0 (Ab X)) g128 108 [(0, .ref (aL X 9)), (1, .ref (aL X 18)), (2, .int t), (3, .int x2), (4, .int (1 : Int32)), (5, .int x127)] [] := by
                  intro n108
                  induction n108 with
                  | zero => intro x127 g128 hm; exact absurd hm (Nat.not_lt_zero _)
                  | succ n108 ih108 =>
                    intro x127 g128 hm108 hI129 hK130 i131
                    try obtain ⟨i131a, i131b⟩ := i131
                    refine m_iload C dX1_finish_108 5 rfl ?_
                    refine m_iload C dX1_finish_110 4 rfl ?_
                    refine m_icmp_ge C 131 dX1_finish_112 (by decide) (fun h132 => ?_) (fun h132 => ?_)
                    · skip
                      have th132 := i_le h132
                      rw [show (1 : Int32).toInt = 1 by decide] at th132
                      refine m_iconst C (0 : Int32) dX1_finish_131 (by decide) ?_
                      refine m_istore C [(5, .int (0 : Int32)), (0, .ref (aL X 9)), (1, .ref (aL X 18)), (2, .int t), (3, .int x2), (4, .int (1 : Int32))] dX1_finish_132 (by decide) rfl ?_
                      have L134 : ∀ (n134 : Nat) (x134 : Int32) (g135 : Mem), (9 - x134.toInt).toNat < n134 → Inv g135 → Kp [9, 10, 11, 12, 19] g g135 → 0 ≤ x134.toInt ∧ x134.toInt ≤ 8 → Wm X p l e (rmD 2) s m ([.ref (aL X 9), .ref (aL X 18), .int t] : List Value).toArray below meth c 6 0 0 (MQ below (cQ X (pV (fun g2 => Inv g2 ∧ Kp [9, 10, 11, 12, 19] g g2))) ([.ref (aL X 9), .ref (aL X 18), .int t] : List Value).toArray s 0 0 (Ab X)) g135 134 [(0, .ref (aL X 9)), (1, .ref (aL X 18)), (2, .int t), (3, .int x2), (4, .int (1 : Int32)), (5, .int x134)] [] := by
                        intro n134
                        induction n134 with
                        | zero => intro x134 g135 hm; exact absurd hm (Nat.not_lt_zero _)
                        | succ n134 ih134 =>
                          intro x134 g135 hm134 hI136 hK137 i138
                          try obtain ⟨i138a, i138b⟩ := i138
                          refine m_iload C dX1_finish_134 5 rfl ?_
                          refine m_bipush C (8 : Int32) dX1_finish_136 (by decide) ?_
                          refine m_icmp_ge C 166 dX1_finish_138 (by decide) (fun h139 => ?_) (fun h139 => ?_)
                          · skip
                            have th139 := i_le h139
                            rw [show (8 : Int32).toInt = 8 by decide] at th139
                            exact m_vret C dX1_finish_166 ⟨rfl, hI136, hK137⟩
                          · skip
                            have th139 := i_nle h139
                            rw [show (8 : Int32).toInt = 8 by decide] at th139
                            refine m_aload_n C dX1_finish_141 1 rfl ?_
                            refine m_getrN (rf := "") C 0 rfl gd2 (by decide) sh_18 rfl dX1_finish_142 lk_X1_54 ?_
                            refine m_iload_n C dX1_finish_145 2 rfl ?_
                            refine m_bipush C (8 : Int32) dX1_finish_146 (by decide) ?_
                            refine m_imul C dX1_finish_148 ?_
                            refine m_iload C dX1_finish_149 5 rfl ?_
                            refine m_iadd C dX1_finish_151 ?_
                            refine m_aload_n C dX1_finish_152 0 rfl ?_
                            refine m_getr (rf := "") C 2 rfl gd1 (by decide) sh_9 rfl dX1_finish_153 lk_X1_18 ?_
                            refine m_iload C dX1_finish_156 5 rfl ?_
                            refine m_iald C sh_12 (i_in (by omega) (by omega)) dX1_finish_158 ?_
                            have t140 : (t * (8 : Int32)).toInt = t.toInt * (8 : Int) := i_mul rfl (by decide) (by omega) (by omega)
                            have t141 : ((t * (8 : Int32)) + x134).toInt = (t.toInt * (8 : Int)) + x134.toInt := i_add t140 rfl (by omega) (by omega)
                            refine m_iast C sh_19 (i_in (by omega) (by omega)) dX1_finish_159 ?_
                            refine m_mem (fun g142 eg142 => ?_)
                            have hI143 : Inv g142 := by rw [eg142]; exact hI136.up (ok_any (by decide))
                            have hK144 : Kp [9, 10, 11, 12, 19] g g142 := by rw [eg142]; exact Kp.up hK137 (by decide) (Or.inl (by decide)) (Or.inl (by decide))
                            obtain ⟨x145, ex145⟩ : ∃ z : Int32, z = x134 + Int32.ofInt 1 := ⟨_, rfl⟩
                            have t146 : (x134 + (Int32.ofInt 1)).toInt = x134.toInt + (1 : Int) := i_add rfl (by decide) (by omega) (by omega)
                            have t147 : x145.toInt = (x134.toInt + (1 : Int)) := (congrArg Int32.toInt ex145).trans t146
                            refine m_iinc C x145 [(5, .int x145), (0, .ref (aL X 9)), (1, .ref (aL X 18)), (2, .int t), (3, .int x2), (4, .int (1 : Int32))] dX1_finish_160 (q := 5) rfl ex145.symm (by decide) rfl ?_
                            refine m_goto C 134 dX1_finish_163 (by decide) ?_
                            refine m_lv [1, 2, 3, 4, 5, 0] rfl ?_
                            exact ih134 x145 g142 (by omega) hI143 hK144 (by omega)
                      have t148 : (0 : Int32).toInt = 0 := by decide
                      refine m_lv [1, 2, 3, 4, 5, 0] rfl ?_
                      exact L134 (((9 - (0 : Int32).toInt).toNat) + 1) (0 : Int32) g128 (Nat.lt_succ_self _) hI129 hK130 (by omega)
                    · skip
                      have th132 := i_nle h132
                      rw [show (1 : Int32).toInt = 1 by decide] at th132
                      refine m_aload_n C dX1_finish_115 0 rfl ?_
                      refine m_iload C dX1_finish_116 5 rfl ?_
                      refine m_invV C cal_X1_spread sh_9 rfl (c_X1_spread l hX g128 x127 hI129 (by omega)) lk_X1_48 im_X1_spread se_X1_spread (by decide) rfl rfl (Nat.le_of_ble_eq_true rfl) dX1_finish_118 ⟨Nat.le_refl _, Nat.le_refl _⟩ (rV fun g150 q151 => ?_)
                      obtain ⟨hI152, hK153⟩ := q151
                      have hK154 : Kp [9, 10, 11, 12, 19] g g150 := (hK130).tr hK153 (by decide)
                      refine m_aload_n C dX1_finish_121 0 rfl ?_
                      refine m_invV C cal_X1_mix sh_9 rfl (c_X1_mix l hX g150  hI152) lk_X1_51 im_X1_mix se_X1_mix (by decide) rfl rfl (Nat.le_of_ble_eq_true rfl) dX1_finish_122 ⟨Nat.le_refl _, Nat.le_refl _⟩ (rV fun g156 q157 => ?_)
                      obtain ⟨hI158, hK159⟩ := q157
                      have hK160 : Kp [9, 10, 11, 12, 19] g g156 := (hK154).tr hK159 (by decide)
                      obtain ⟨x161, ex161⟩ : ∃ z : Int32, z = x127 + Int32.ofInt 1 := ⟨_, rfl⟩
                      have t162 : (x127 + (Int32.ofInt 1)).toInt = x127.toInt + (1 : Int) := i_add rfl (by decide) (by omega) (by omega)
                      have t163 : x161.toInt = (x127.toInt + (1 : Int)) := (congrArg Int32.toInt ex161).trans t162
                      refine m_iinc C x161 [(5, .int x161), (0, .ref (aL X 9)), (1, .ref (aL X 18)), (2, .int t), (3, .int x2), (4, .int (1 : Int32))] dX1_finish_125 (q := 5) rfl ex161.symm (by decide) rfl ?_
                      refine m_goto C 108 dX1_finish_128 (by decide) ?_
                      refine m_lv [1, 2, 3, 4, 5, 0] rfl ?_
                      exact ih108 x161 g156 (by omega) hI158 hK160 (by omega)
                have t164 : (0 : Int32).toInt = 0 := by decide
                refine m_lv [1, 2, 3, 4, 5, 0] rfl ?_
                exact L108 (((3 - (0 : Int32).toInt).toNat) + 1) (0 : Int32) g121 (Nat.lt_succ_self _) hI122 hK123 (by omega)
              · skip
                have th125 := i_nle h125
                rw [show (8 : Int32).toInt = 8 by decide] at th125
                refine m_aload_n C dX1_finish_86 0 rfl ?_
                refine m_getr (rf := "") C 2 rfl gd1 (by decide) sh_9 rfl dX1_finish_87 lk_X1_18 ?_
                refine m_iload C dX1_finish_90 5 rfl ?_
                refine m_statS (host := "AuditVault") C dX1_finish_92 (by decide +kernel) ?_
                refine m_iload C dX1_finish_95 5 rfl ?_
                refine m_tldS C (i_in (by omega) (by omega)) dX1_finish_97 ?_
                refine m_iast C sh_12 (i_in (by omega) (by omega)) dX1_finish_98 ?_
                refine m_mem (fun g165 eg165 => ?_)
                have hI166 : Inv g165 := by rw [eg165]; exact hI122.up (ok_any (by decide))
                have hK167 : Kp [9, 10, 11, 12, 19] g g165 := by rw [eg165]; exact Kp.up hK123 (by decide) (Or.inl (by decide)) (Or.inl (by decide))
                obtain ⟨x168, ex168⟩ : ∃ z : Int32, z = x120 + Int32.ofInt 1 := ⟨_, rfl⟩
                have t169 : (x120 + (Int32.ofInt 1)).toInt = x120.toInt + (1 : Int) := i_add rfl (by decide) (by omega) (by omega)
                have t170 : x168.toInt = (x120.toInt + (1 : Int)) := (congrArg Int32.toInt ex168).trans t169
                refine m_iinc C x168 [(5, .int x168), (0, .ref (aL X 9)), (1, .ref (aL X 18)), (2, .int t), (3, .int x2), (4, .int (1 : Int32))] dX1_finish_99 (q := 5) rfl ex168.symm (by decide) rfl ?_
                refine m_goto C 79 dX1_finish_102 (by decide) ?_
                refine m_lv [1, 2, 3, 4, 5, 0] rfl ?_
                exact ih79 x168 g165 (by omega) hI166 hK167 (by omega)
          have t171 : (0 : Int32).toInt = 0 := by decide
          refine m_lv [1, 2, 3, 4, 5, 0] rfl ?_
          exact L79 (((9 - (0 : Int32).toInt).toNat) + 1) (0 : Int32) g116 (Nat.lt_succ_self _) hI117 hK118 (by omega)
        · skip
          have th113 := i_nle h113
          refine m_aload_n C dX1_finish_52 0 rfl ?_
          refine m_iconst C (0 : Int32) dX1_finish_53 (by decide) ?_
          have t172 : (0 : Int32).toInt = 0 := by decide
          refine m_invV C cal_X1_add sh_9 rfl (c_X1_add l hX g107 (0 : Int32) hI108) lk_X1_31 im_X1_add se_X1_add (by decide) rfl rfl (Nat.le_of_ble_eq_true rfl) dX1_finish_54 ⟨Nat.le_refl _, Nat.le_refl _⟩ (rV fun g174 q175 => ?_)
          obtain ⟨hI176, hK177⟩ := q175
          have hK178 : Kp [9, 10, 11, 12, 19] g g174 := (hK109).tr hK177 (by decide)
          obtain ⟨x179, ex179⟩ : ∃ z : Int32, z = x106 + Int32.ofInt 1 := ⟨_, rfl⟩
          have t180 : (x106 + (Int32.ofInt 1)).toInt = x106.toInt + (1 : Int) := i_add rfl (by decide) (by omega) (by omega)
          have t181 : x179.toInt = (x106.toInt + (1 : Int)) := (congrArg Int32.toInt ex179).trans t180
          refine m_iinc C x179 [(5, .int x179), (0, .ref (aL X 9)), (1, .ref (aL X 18)), (2, .int t), (3, .int x2), (4, .int (1 : Int32))] dX1_finish_57 (q := 5) rfl ex179.symm (by decide) rfl ?_
          refine m_goto C 40 dX1_finish_60 (by decide) ?_
          refine m_lv [1, 2, 3, 4, 5, 0] rfl ?_
          exact ih40 x179 g174 (by omega) hI176 hK178 (by omega)
    refine m_lv [3, 4, 5, 2, 1, 0] rfl ?_
    exact L40 (((201 - x104.toInt).toNat) + 1) x104 g98 (Nat.lt_succ_self _) hI100 hK102 (by omega)
set_option maxRecDepth 20000 in
set_option maxHeartbeats 4000000 in
theorem c_X1_finish_21 (l : Launch) {X : XT} (hX : Lok X) (g : Mem) (t : Int32) (hI : Inv g) (h_t : 0 ≤ t.toInt ∧ t.toInt ≤ 7) : Ctr l X yX1_finish cX1_finish 6 none (rmD 2) [.ref (aL X 9), .ref (aL X 21), .int t] g (pV (fun g2 => Inv g2 ∧ Kp [9, 10, 11, 12, 22] g g2)) := by
  refine Ctr.of (lv := [(0, .ref (aL X 9)), (1, .ref (aL X 21)), (2, .int t)]) hX (by decide) rfl (Nat.le_of_ble_eq_true rfl) ?_
  intro p e s m below meth c C
  refine m_aload_n C dX1_finish_0 0 rfl ?_
  refine m_geti (rf := "") C 3 rfl gd1 (by decide) sh_9 rfl dX1_finish_1 lk_X1_21 ?_
  have r1 := iv_hlen hI
  refine m_bipush C (8 : Int32) dX1_finish_4 (by decide) ?_
  refine m_imul C dX1_finish_6 ?_
  refine m_name (fun x2 ex2 => ?_)
  have t3 : ((g 9 3) * (8 : Int32)).toInt = (g 9 3).toInt * (8 : Int) := i_mul rfl (by decide) (by omega) (by omega)
  have t4 : x2.toInt = ((g 9 3).toInt * (8 : Int)) := (congrArg Int32.toInt ex2).trans t3
  refine m_istore_n C [(3, .int x2), (0, .ref (aL X 9)), (1, .ref (aL X 21)), (2, .int t)] dX1_finish_7 (by decide) rfl ?_
  refine m_aload_n C dX1_finish_8 1 rfl ?_
  refine m_geti (rf := "") C 3 rfl gd1 (by decide) sh_9 rfl dX1_finish_9 lk_X1_21 ?_
  have r5 := iv_hlen hI
  refine m_bipush C (9 : Int32) dX1_finish_12 (by decide) ?_
  refine m_iadd C dX1_finish_14 ?_
  refine m_bipush C (64 : Int32) dX1_finish_15 (by decide) ?_
  have t6 : ((g 9 3) + (9 : Int32)).toInt = (g 9 3).toInt + (9 : Int) := i_add rfl (by decide) (by omega) (by omega)
  refine m_icmp_gt C 24 dX1_finish_17 (by decide) (fun h7 => ?_) (fun h7 => ?_)
  · skip
    have th7 := i_lt h7
    rw [show (64 : Int32).toInt = 64 by decide] at th7
    refine m_iconst C (2 : Int32) dX1_finish_24 (by decide) ?_
    refine m_istore C [(4, .int (2 : Int32)), (3, .int x2), (0, .ref (aL X 9)), (1, .ref (aL X 21)), (2, .int t)] dX1_finish_25 (by decide) rfl ?_
    refine m_aload_n C dX1_finish_27 2 rfl ?_
    refine m_sipush C (128 : Int32) dX1_finish_28 (by decide) ?_
    have t9 : (128 : Int32).toInt = 128 := by decide
    refine m_invV C cal_X1_add sh_9 rfl (c_X1_add l hX g (128 : Int32) hI) lk_X1_31 im_X1_add se_X1_add (by decide) rfl rfl (Nat.le_of_ble_eq_true rfl) dX1_finish_31 ⟨Nat.le_refl _, Nat.le_refl _⟩ (rV fun g11 q12 => ?_)
    obtain ⟨hI13, hK14⟩ := q12
    have hK15 : Kp [9, 10, 11, 12, 22] g g11 := (Kp.rf).tr hK14 (by decide)
    refine m_aload_n C dX1_finish_34 2 rfl ?_
    refine m_geti (rf := "") C 3 rfl gd1 (by decide) sh_9 rfl dX1_finish_35 lk_X1_21 ?_
    have r16 := iv_hlen hI13
    refine m_name (fun x17 ex17 => ?_)
    have t18 : x17.toInt = (g11 9 3).toInt := (congrArg Int32.toInt ex17).trans rfl
    refine m_istore C [(5, .int x17), (4, .int (2 : Int32)), (3, .int x2), (0, .ref (aL X 9)), (1, .ref (aL X 21)), (2, .int t)] dX1_finish_38 (by decide) rfl ?_
    have L40 : ∀ (n40 : Nat) (x19 : Int32) (g20 : Mem), (201 - x19.toInt).toNat < n40 → Inv g20 → Kp [9, 10, 11, 12, 22] g g20 → 0 ≤ x19.toInt ∧ x19.toInt ≤ 200 → Wm X p l e (rmD 2) s m ([.ref (aL X 9), .ref (aL X 21), .int t] : List Value).toArray below meth c 6 0 0 (MQ below (cQ X (pV (fun g2 => Inv g2 ∧ Kp [9, 10, 11, 12, 22] g g2))) ([.ref (aL X 9), .ref (aL X 21), .int t] : List Value).toArray s 0 0 (Ab X)) g20 40 [(0, .ref (aL X 9)), (1, .ref (aL X 21)), (2, .int t), (3, .int x2), (4, .int (2 : Int32)), (5, .int x19)] [] := by
      intro n40
      induction n40 with
      | zero => intro x19 g20 hm; exact absurd hm (Nat.not_lt_zero _)
      | succ n40 ih40 =>
        intro x19 g20 hm40 hI21 hK22 i23
        try obtain ⟨i23a, i23b⟩ := i23
        refine m_iload C dX1_finish_40 5 rfl ?_
        refine m_iload C dX1_finish_42 4 rfl ?_
        refine m_bipush C (64 : Int32) dX1_finish_44 (by decide) ?_
        refine m_imul C dX1_finish_46 ?_
        refine m_iconst C (4 : Int32) dX1_finish_47 (by decide) ?_
        refine m_isub C dX1_finish_48 ?_
        have t24 : ((2 : Int32) * (64 : Int32)).toInt = (2 : Int) * (64 : Int) := i_mul (by decide) (by decide) (by omega) (by omega)
        have t25 : (((2 : Int32) * (64 : Int32)) - (4 : Int32)).toInt = ((2 : Int) * (64 : Int)) - (4 : Int) := i_sub t24 (by decide) (by omega) (by omega)
        refine m_icmp_ge C 63 dX1_finish_49 (by decide) (fun h26 => ?_) (fun h26 => ?_)
        · skip
          have th26 := i_le h26
          refine m_aload_n C dX1_finish_63 0 rfl ?_
          refine m_getr (rf := "") C 0 rfl gd1 (by decide) sh_9 rfl dX1_finish_64 lk_X1_11 ?_
          refine m_iload C dX1_finish_67 4 rfl ?_
          refine m_bipush C (16 : Int32) dX1_finish_69 (by decide) ?_
          refine m_imul C dX1_finish_71 ?_
          refine m_iconst C (1 : Int32) dX1_finish_72 (by decide) ?_
          refine m_isub C dX1_finish_73 ?_
          refine m_iload_n C dX1_finish_74 3 rfl ?_
          have t27 : ((2 : Int32) * (16 : Int32)).toInt = (2 : Int) * (16 : Int) := i_mul (by decide) (by decide) (by omega) (by omega)
          have t28 : (((2 : Int32) * (16 : Int32)) - (1 : Int32)).toInt = ((2 : Int) * (16 : Int)) - (1 : Int) := i_sub t27 (by decide) (by omega) (by omega)
          refine m_iast C sh_10 (i_in (by omega) (by omega)) dX1_finish_75 ?_
          refine m_mem (fun g29 eg29 => ?_)
          have hI30 : Inv g29 := by rw [eg29]; exact hI21.up (ok_any (by decide))
          have hK31 : Kp [9, 10, 11, 12, 22] g g29 := by rw [eg29]; exact Kp.up hK22 (by decide) (Or.inl (by decide)) (Or.inl (by decide))
          refine m_iconst C (0 : Int32) dX1_finish_76 (by decide) ?_
          refine m_istore C [(5, .int (0 : Int32)), (0, .ref (aL X 9)), (1, .ref (aL X 21)), (2, .int t), (3, .int x2), (4, .int (2 : Int32))] dX1_finish_77 (by decide) rfl ?_
          have L79 : ∀ (n79 : Nat) (x33 : Int32) (g34 : Mem), (9 - x33.toInt).toNat < n79 → Inv g34 → Kp [9, 10, 11, 12, 22] g g34 → 0 ≤ x33.toInt ∧ x33.toInt ≤ 8 → Wm X p l e (rmD 2) s m ([.ref (aL X 9), .ref (aL X 21), .int t] : List Value).toArray below meth c 6 0 0 (MQ below (cQ X (pV (fun g2 => Inv g2 ∧ Kp [9, 10, 11, 12, 22] g g2))) ([.ref (aL X 9), .ref (aL X 21), .int t] : List Value).toArray s 0 0 (Ab X)) g34 79 [(0, .ref (aL X 9)), (1, .ref (aL X 21)), (2, .int t), (3, .int x2), (4, .int (2 : Int32)), (5, .int x33)] [] := by
            intro n79
            induction n79 with
            | zero => intro x33 g34 hm; exact absurd hm (Nat.not_lt_zero _)
            | succ n79 ih79 =>
              intro x33 g34 hm79 hI35 hK36 i37
              try obtain ⟨i37a, i37b⟩ := i37
              refine m_iload C dX1_finish_79 5 rfl ?_
              refine m_bipush C (8 : Int32) dX1_finish_81 (by decide) ?_
              refine m_icmp_ge C 105 dX1_finish_83 (by decide) (fun h38 => ?_) (fun h38 => ?_)
              · skip
                have th38 := i_le h38
                rw [show (8 : Int32).toInt = 8 by decide] at th38
                refine m_iconst C (0 : Int32) dX1_finish_105 (by decide) ?_
                refine m_istore C [(5, .int (0 : Int32)), (0, .ref (aL X 9)), (1, .ref (aL X 21)), (2, .int t), (3, .int x2), (4, .int (2 : Int32))] dX1_finish_106 (by decide) rfl ?_
                have L108 : ∀ (n108 : Nat) (x40 : Int32) (g41 : Mem), (3 - x40.toInt).toNat < n108 → Inv g41 → Kp [9, 10, 11, 12, 22] g g41 → 0 ≤ x40.toInt ∧ x40.toInt ≤ 2 → Wm X p l e (rmD 2) s m ([.ref (aL X 9), .ref (aL X 21), .int t] : List Value).toArray below meth c 6 0 0 (MQ below (cQ X (pV (fun g2 => Inv g2 ∧ Kp [9, 10, 11, 12, 22] g g2))) ([.ref (aL X 9), .ref (aL X 21), .int t] : List Value).toArray s 0 0 (Ab X)) g41 108 [(0, .ref (aL X 9)), (1, .ref (aL X 21)), (2, .int t), (3, .int x2), (4, .int (2 : Int32)), (5, .int x40)] [] := by
                  intro n108
                  induction n108 with
                  | zero => intro x40 g41 hm; exact absurd hm (Nat.not_lt_zero _)
                  | succ n108 ih108 =>
                    intro x40 g41 hm108 hI42 hK43 i44
                    try obtain ⟨i44a, i44b⟩ := i44
                    refine m_iload C dX1_finish_108 5 rfl ?_
                    refine m_iload C dX1_finish_110 4 rfl ?_
                    refine m_icmp_ge C 131 dX1_finish_112 (by decide) (fun h45 => ?_) (fun h45 => ?_)
                    · skip
                      have th45 := i_le h45
                      rw [show (2 : Int32).toInt = 2 by decide] at th45
                      refine m_iconst C (0 : Int32) dX1_finish_131 (by decide) ?_
                      refine m_istore C [(5, .int (0 : Int32)), (0, .ref (aL X 9)), (1, .ref (aL X 21)), (2, .int t), (3, .int x2), (4, .int (2 : Int32))] dX1_finish_132 (by decide) rfl ?_
                      have L134 : ∀ (n134 : Nat) (x47 : Int32) (g48 : Mem), (9 - x47.toInt).toNat < n134 → Inv g48 → Kp [9, 10, 11, 12, 22] g g48 → 0 ≤ x47.toInt ∧ x47.toInt ≤ 8 → Wm X p l e (rmD 2) s m ([.ref (aL X 9), .ref (aL X 21), .int t] : List Value).toArray below meth c 6 0 0 (MQ below (cQ X (pV (fun g2 => Inv g2 ∧ Kp [9, 10, 11, 12, 22] g g2))) ([.ref (aL X 9), .ref (aL X 21), .int t] : List Value).toArray s 0 0 (Ab X)) g48 134 [(0, .ref (aL X 9)), (1, .ref (aL X 21)), (2, .int t), (3, .int x2), (4, .int (2 : Int32)), (5, .int x47)] [] := by
                        intro n134
                        induction n134 with
                        | zero => intro x47 g48 hm; exact absurd hm (Nat.not_lt_zero _)
                        | succ n134 ih134 =>
                          intro x47 g48 hm134 hI49 hK50 i51
                          try obtain ⟨i51a, i51b⟩ := i51
                          refine m_iload C dX1_finish_134 5 rfl ?_
                          refine m_bipush C (8 : Int32) dX1_finish_136 (by decide) ?_
                          refine m_icmp_ge C 166 dX1_finish_138 (by decide) (fun h52 => ?_) (fun h52 => ?_)
                          · skip
                            have th52 := i_le h52
                            rw [show (8 : Int32).toInt = 8 by decide] at th52
                            exact m_vret C dX1_finish_166 ⟨rfl, hI49, hK50⟩
                          · skip
                            have th52 := i_nle h52
                            rw [show (8 : Int32).toInt = 8 by decide] at th52
                            refine m_aload_n C dX1_finish_141 1 rfl ?_
                            refine m_getrN (rf := "") C 0 rfl gd2 (by decide) sh_21 rfl dX1_finish_142 lk_X1_54 ?_
                            refine m_iload_n C dX1_finish_145 2 rfl ?_
                            refine m_bipush C (8 : Int32) dX1_finish_146 (by decide) ?_
                            refine m_imul C dX1_finish_148 ?_
                            refine m_iload C dX1_finish_149 5 rfl ?_
                            refine m_iadd C dX1_finish_151 ?_
                            refine m_aload_n C dX1_finish_152 0 rfl ?_
                            refine m_getr (rf := "") C 2 rfl gd1 (by decide) sh_9 rfl dX1_finish_153 lk_X1_18 ?_
                            refine m_iload C dX1_finish_156 5 rfl ?_
                            refine m_iald C sh_12 (i_in (by omega) (by omega)) dX1_finish_158 ?_
                            have t53 : (t * (8 : Int32)).toInt = t.toInt * (8 : Int) := i_mul rfl (by decide) (by omega) (by omega)
                            have t54 : ((t * (8 : Int32)) + x47).toInt = (t.toInt * (8 : Int)) + x47.toInt := i_add t53 rfl (by omega) (by omega)
                            refine m_iast C sh_22 (i_in (by omega) (by omega)) dX1_finish_159 ?_
                            refine m_mem (fun g55 eg55 => ?_)
                            have hI56 : Inv g55 := by rw [eg55]; exact hI49.up (ok_any (by decide))
                            have hK57 : Kp [9, 10, 11, 12, 22] g g55 := by rw [eg55]; exact Kp.up hK50 (by decide) (Or.inl (by decide)) (Or.inl (by decide))
                            obtain ⟨x58, ex58⟩ : ∃ z : Int32, z = x47 + Int32.ofInt 1 := ⟨_, rfl⟩
                            have t59 : (x47 + (Int32.ofInt 1)).toInt = x47.toInt + (1 : Int) := i_add rfl (by decide) (by omega) (by omega)
                            have t60 : x58.toInt = (x47.toInt + (1 : Int)) := (congrArg Int32.toInt ex58).trans t59
                            refine m_iinc C x58 [(5, .int x58), (0, .ref (aL X 9)), (1, .ref (aL X 21)), (2, .int t), (3, .int x2), (4, .int (2 : Int32))] dX1_finish_160 (q := 5) rfl ex58.symm (by decide) rfl ?_
                            refine m_goto C 134 dX1_finish_163 (by decide) ?_
                            refine m_lv [1, 2, 3, 4, 5, 0] rfl ?_
                            exact ih134 x58 g55 (by omega) hI56 hK57 (by omega)
                      have t61 : (0 : Int32).toInt = 0 := by decide
                      refine m_lv [1, 2, 3, 4, 5, 0] rfl ?_
                      exact L134 (((9 - (0 : Int32).toInt).toNat) + 1) (0 : Int32) g41 (Nat.lt_succ_self _) hI42 hK43 (by omega)
                    · skip
                      have th45 := i_nle h45
                      rw [show (2 : Int32).toInt = 2 by decide] at th45
                      refine m_aload_n C dX1_finish_115 0 rfl ?_
                      refine m_iload C dX1_finish_116 5 rfl ?_
                      refine m_invV C cal_X1_spread sh_9 rfl (c_X1_spread l hX g41 x40 hI42 (by omega)) lk_X1_48 im_X1_spread se_X1_spread (by decide) rfl rfl (Nat.le_of_ble_eq_true rfl) dX1_finish_118 ⟨Nat.le_refl _, Nat.le_refl _⟩ (rV fun g63 q64 => ?_)
                      obtain ⟨hI65, hK66⟩ := q64
                      have hK67 : Kp [9, 10, 11, 12, 22] g g63 := (hK43).tr hK66 (by decide)
                      refine m_aload_n C dX1_finish_121 0 rfl ?_
                      refine m_invV C cal_X1_mix sh_9 rfl (c_X1_mix l hX g63  hI65) lk_X1_51 im_X1_mix se_X1_mix (by decide) rfl rfl (Nat.le_of_ble_eq_true rfl) dX1_finish_122 ⟨Nat.le_refl _, Nat.le_refl _⟩ (rV fun g69 q70 => ?_)
                      obtain ⟨hI71, hK72⟩ := q70
                      have hK73 : Kp [9, 10, 11, 12, 22] g g69 := (hK67).tr hK72 (by decide)
                      obtain ⟨x74, ex74⟩ : ∃ z : Int32, z = x40 + Int32.ofInt 1 := ⟨_, rfl⟩
                      have t75 : (x40 + (Int32.ofInt 1)).toInt = x40.toInt + (1 : Int) := i_add rfl (by decide) (by omega) (by omega)
                      have t76 : x74.toInt = (x40.toInt + (1 : Int)) := (congrArg Int32.toInt ex74).trans t75
                      refine m_iinc C x74 [(5, .int x74), (0, .ref (aL X 9)), (1, .ref (aL X 21)), (2, .int t), (3, .int x2), (4, .int (2 : Int32))] dX1_finish_125 (q := 5) rfl ex74.symm (by decide) rfl ?_
                      refine m_goto C 108 dX1_finish_128 (by decide) ?_
                      refine m_lv [1, 2, 3, 4, 5, 0] rfl ?_
                      exact ih108 x74 g69 (by omega) hI71 hK73 (by omega)
                have t77 : (0 : Int32).toInt = 0 := by decide
                refine m_lv [1, 2, 3, 4, 5, 0] rfl ?_
                exact L108 (((3 - (0 : Int32).toInt).toNat) + 1) (0 : Int32) g34 (Nat.lt_succ_self _) hI35 hK36 (by omega)
              · skip
                have th38 := i_nle h38
                rw [show (8 : Int32).toInt = 8 by decide] at th38
                refine m_aload_n C dX1_finish_86 0 rfl ?_
                refine m_getr (rf := "") C 2 rfl gd1 (by decide) sh_9 rfl dX1_finish_87 lk_X1_18 ?_
                refine m_iload C dX1_finish_90 5 rfl ?_
                refine m_statS (host := "AuditVault") C dX1_finish_92 (by decide +kernel) ?_
                refine m_iload C dX1_finish_95 5 rfl ?_
                refine m_tldS C (i_in (by omega) (by omega)) dX1_finish_97 ?_
                refine m_iast C sh_12 (i_in (by omega) (by omega)) dX1_finish_98 ?_
                refine m_mem (fun g78 eg78 => ?_)
                have hI79 : Inv g78 := by rw [eg78]; exact hI35.up (ok_any (by decide))
                have hK80 : Kp [9, 10, 11, 12, 22] g g78 := by rw [eg78]; exact Kp.up hK36 (by decide) (Or.inl (by decide)) (Or.inl (by decide))
                obtain ⟨x81, ex81⟩ : ∃ z : Int32, z = x33 + Int32.ofInt 1 := ⟨_, rfl⟩
                have t82 : (x33 + (Int32.ofInt 1)).toInt = x33.toInt + (1 : Int) := i_add rfl (by decide) (by omega) (by omega)
                have t83 : x81.toInt = (x33.toInt + (1 : Int)) := (congrArg Int32.toInt ex81).trans t82
                refine m_iinc C x81 [(5, .int x81), (0, .ref (aL X 9)), (1, .ref (aL X 21)), (2, .int t), (3, .int x2), (4, .int (2 : Int32))] dX1_finish_99 (q := 5) rfl ex81.symm (by decide) rfl ?_
                refine m_goto C 79 dX1_finish_102 (by decide) ?_
                refine m_lv [1, 2, 3, 4, 5, 0] rfl ?_
                exact ih79 x81 g78 (by omega) hI79 hK80 (by omega)
          have t84 : (0 : Int32).toInt = 0 := by decide
          refine m_lv [1, 2, 3, 4, 5, 0] rfl ?_
          exact L79 (((9 - (0 : Int32).toInt).toNat) + 1) (0 : Int32) g29 (Nat.lt_succ_self _) hI30 hK31 (by omega)
        · skip
          have th26 := i_nle h26
          refine m_aload_n C dX1_finish_52 0 rfl ?_
          refine m_iconst C (0 : Int32) dX1_finish_53 (by decide) ?_
          have t85 : (0 : Int32).toInt = 0 := by decide
          refine m_invV C cal_X1_add sh_9 rfl (c_X1_add l hX g20 (0 : Int32) hI21) lk_X1_31 im_X1_add se_X1_add (by decide) rfl rfl (Nat.le_of_ble_eq_true rfl) dX1_finish_54 ⟨Nat.le_refl _, Nat.le_refl _⟩ (rV fun g87 q88 => ?_)
          obtain ⟨hI89, hK90⟩ := q88
          have hK91 : Kp [9, 10, 11, 12, 22] g g87 := (hK22).tr hK90 (by decide)
          obtain ⟨x92, ex92⟩ : ∃ z : Int32, z = x19 + Int32.ofInt 1 := ⟨_, rfl⟩
          have t93 : (x19 + (Int32.ofInt 1)).toInt = x19.toInt + (1 : Int) := i_add rfl (by decide) (by omega) (by omega)
          have t94 : x92.toInt = (x19.toInt + (1 : Int)) := (congrArg Int32.toInt ex92).trans t93
          refine m_iinc C x92 [(5, .int x92), (0, .ref (aL X 9)), (1, .ref (aL X 21)), (2, .int t), (3, .int x2), (4, .int (2 : Int32))] dX1_finish_57 (q := 5) rfl ex92.symm (by decide) rfl ?_
          refine m_goto C 40 dX1_finish_60 (by decide) ?_
          refine m_lv [1, 2, 3, 4, 5, 0] rfl ?_
          exact ih40 x92 g87 (by omega) hI89 hK91 (by omega)
    refine m_lv [3, 4, 5, 2, 1, 0] rfl ?_
    exact L40 (((201 - x17.toInt).toNat) + 1) x17 g11 (Nat.lt_succ_self _) hI13 hK15 (by omega)
  · skip
    have th7 := i_nlt h7
    rw [show (64 : Int32).toInt = 64 by decide] at th7
    refine m_iconst C (1 : Int32) dX1_finish_20 (by decide) ?_
    refine m_goto C 25 dX1_finish_21 (by decide) ?_
    refine m_istore C [(4, .int (1 : Int32)), (3, .int x2), (0, .ref (aL X 9)), (1, .ref (aL X 21)), (2, .int t)] dX1_finish_25 (by decide) rfl ?_
    refine m_aload_n C dX1_finish_27 2 rfl ?_
    refine m_sipush C (128 : Int32) dX1_finish_28 (by decide) ?_
    have t96 : (128 : Int32).toInt = 128 := by decide
    refine m_invV C cal_X1_add sh_9 rfl (c_X1_add l hX g (128 : Int32) hI) lk_X1_31 im_X1_add se_X1_add (by decide) rfl rfl (Nat.le_of_ble_eq_true rfl) dX1_finish_31 ⟨Nat.le_refl _, Nat.le_refl _⟩ (rV fun g98 q99 => ?_)
    obtain ⟨hI100, hK101⟩ := q99
    have hK102 : Kp [9, 10, 11, 12, 22] g g98 := (Kp.rf).tr hK101 (by decide)
    refine m_aload_n C dX1_finish_34 2 rfl ?_
    refine m_geti (rf := "") C 3 rfl gd1 (by decide) sh_9 rfl dX1_finish_35 lk_X1_21 ?_
    have r103 := iv_hlen hI100
    refine m_name (fun x104 ex104 => ?_)
    have t105 : x104.toInt = (g98 9 3).toInt := (congrArg Int32.toInt ex104).trans rfl
    refine m_istore C [(5, .int x104), (4, .int (1 : Int32)), (3, .int x2), (0, .ref (aL X 9)), (1, .ref (aL X 21)), (2, .int t)] dX1_finish_38 (by decide) rfl ?_
    have L40 : ∀ (n40 : Nat) (x106 : Int32) (g107 : Mem), (201 - x106.toInt).toNat < n40 → Inv g107 → Kp [9, 10, 11, 12, 22] g g107 → 0 ≤ x106.toInt ∧ x106.toInt ≤ 200 → Wm X p l e (rmD 2) s m ([.ref (aL X 9), .ref (aL X 21), .int t] : List Value).toArray below meth c 6 0 0 (MQ below (cQ X (pV (fun g2 => Inv g2 ∧ Kp [9, 10, 11, 12, 22] g g2))) ([.ref (aL X 9), .ref (aL X 21), .int t] : List Value).toArray s 0 0 (Ab X)) g107 40 [(0, .ref (aL X 9)), (1, .ref (aL X 21)), (2, .int t), (3, .int x2), (4, .int (1 : Int32)), (5, .int x106)] [] := by
      intro n40
      induction n40 with
      | zero => intro x106 g107 hm; exact absurd hm (Nat.not_lt_zero _)
      | succ n40 ih40 =>
        intro x106 g107 hm40 hI108 hK109 i110
        try obtain ⟨i110a, i110b⟩ := i110
        refine m_iload C dX1_finish_40 5 rfl ?_
        refine m_iload C dX1_finish_42 4 rfl ?_
        refine m_bipush C (64 : Int32) dX1_finish_44 (by decide) ?_
        refine m_imul C dX1_finish_46 ?_
        refine m_iconst C (4 : Int32) dX1_finish_47 (by decide) ?_
        refine m_isub C dX1_finish_48 ?_
        have t111 : ((1 : Int32) * (64 : Int32)).toInt = (1 : Int) * (64 : Int) := i_mul (by decide) (by decide) (by omega) (by omega)
        have t112 : (((1 : Int32) * (64 : Int32)) - (4 : Int32)).toInt = ((1 : Int) * (64 : Int)) - (4 : Int) := i_sub t111 (by decide) (by omega) (by omega)
        refine m_icmp_ge C 63 dX1_finish_49 (by decide) (fun h113 => ?_) (fun h113 => ?_)
        · skip
          have th113 := i_le h113
          refine m_aload_n C dX1_finish_63 0 rfl ?_
          refine m_getr (rf := "") C 0 rfl gd1 (by decide) sh_9 rfl dX1_finish_64 lk_X1_11 ?_
          refine m_iload C dX1_finish_67 4 rfl ?_
          refine m_bipush C (16 : Int32) dX1_finish_69 (by decide) ?_
          refine m_imul C dX1_finish_71 ?_
          refine m_iconst C (1 : Int32) dX1_finish_72 (by decide) ?_
          refine m_isub C dX1_finish_73 ?_
          refine m_iload_n C dX1_finish_74 3 rfl ?_
          have t114 : ((1 : Int32) * (16 : Int32)).toInt = (1 : Int) * (16 : Int) := i_mul (by decide) (by decide) (by omega) (by omega)
          have t115 : (((1 : Int32) * (16 : Int32)) - (1 : Int32)).toInt = ((1 : Int) * (16 : Int)) - (1 : Int) := i_sub t114 (by decide) (by omega) (by omega)
          refine m_iast C sh_10 (i_in (by omega) (by omega)) dX1_finish_75 ?_
          refine m_mem (fun g116 eg116 => ?_)
          have hI117 : Inv g116 := by rw [eg116]; exact hI108.up (ok_any (by decide))
          have hK118 : Kp [9, 10, 11, 12, 22] g g116 := by rw [eg116]; exact Kp.up hK109 (by decide) (Or.inl (by decide)) (Or.inl (by decide))
          refine m_iconst C (0 : Int32) dX1_finish_76 (by decide) ?_
          refine m_istore C [(5, .int (0 : Int32)), (0, .ref (aL X 9)), (1, .ref (aL X 21)), (2, .int t), (3, .int x2), (4, .int (1 : Int32))] dX1_finish_77 (by decide) rfl ?_
          have L79 : ∀ (n79 : Nat) (x120 : Int32) (g121 : Mem), (9 - x120.toInt).toNat < n79 → Inv g121 → Kp [9, 10, 11, 12, 22] g g121 → 0 ≤ x120.toInt ∧ x120.toInt ≤ 8 → Wm X p l e (rmD 2) s m ([.ref (aL X 9), .ref (aL X 21), .int t] : List Value).toArray below meth c 6 0 0 (MQ below (cQ X (pV (fun g2 => Inv g2 ∧ Kp [9, 10, 11, 12, 22] g g2))) ([.ref (aL X 9), .ref (aL X 21), .int t] : List Value).toArray s 0 0 (Ab X)) g121 79 [(0, .ref (aL X 9)), (1, .ref (aL X 21)), (2, .int t), (3, .int x2), (4, .int (1 : Int32)), (5, .int x120)] [] := by
            intro n79
            induction n79 with
            | zero => intro x120 g121 hm; exact absurd hm (Nat.not_lt_zero _)
            | succ n79 ih79 =>
              intro x120 g121 hm79 hI122 hK123 i124
              try obtain ⟨i124a, i124b⟩ := i124
              refine m_iload C dX1_finish_79 5 rfl ?_
              refine m_bipush C (8 : Int32) dX1_finish_81 (by decide) ?_
              refine m_icmp_ge C 105 dX1_finish_83 (by decide) (fun h125 => ?_) (fun h125 => ?_)
              · skip
                have th125 := i_le h125
                rw [show (8 : Int32).toInt = 8 by decide] at th125
                refine m_iconst C (0 : Int32) dX1_finish_105 (by decide) ?_
                refine m_istore C [(5, .int (0 : Int32)), (0, .ref (aL X 9)), (1, .ref (aL X 21)), (2, .int t), (3, .int x2), (4, .int (1 : Int32))] dX1_finish_106 (by decide) rfl ?_
                have L108 : ∀ (n108 : Nat) (x127 : Int32) (g128 : Mem), (3 - x127.toInt).toNat < n108 → Inv g128 → Kp [9, 10, 11, 12, 22] g g128 → 0 ≤ x127.toInt ∧ x127.toInt ≤ 2 → Wm X p l e (rmD 2) s m ([.ref (aL X 9), .ref (aL X 21), .int t] : List Value).toArray below meth c 6 0 0 (MQ below (cQ X (pV (fun g2 => Inv g2 ∧ Kp [9, 10, 11, 12, 22] g g2))) ([.ref (aL X 9), .ref (aL X 21), .int t] : List Value).toArray s 0 0 (Ab X)) g128 108 [(0, .ref (aL X 9)), (1, .ref (aL X 21)), (2, .int t), (3, .int x2), (4, .int (1 : Int32)), (5, .int x127)] [] := by
                  intro n108
                  induction n108 with
                  | zero => intro x127 g128 hm; exact absurd hm (Nat.not_lt_zero _)
                  | succ n108 ih108 =>
                    intro x127 g128 hm108 hI129 hK130 i131
                    try obtain ⟨i131a, i131b⟩ := i131
                    refine m_iload C dX1_finish_108 5 rfl ?_
                    refine m_iload C dX1_finish_110 4 rfl ?_
                    refine m_icmp_ge C 131 dX1_finish_112 (by decide) (fun h132 => ?_) (fun h132 => ?_)
                    · skip
                      have th132 := i_le h132
                      rw [show (1 : Int32).toInt = 1 by decide] at th132
                      refine m_iconst C (0 : Int32) dX1_finish_131 (by decide) ?_
                      refine m_istore C [(5, .int (0 : Int32)), (0, .ref (aL X 9)), (1, .ref (aL X 21)), (2, .int t), (3, .int x2), (4, .int (1 : Int32))] dX1_finish_132 (by decide) rfl ?_
                      have L134 : ∀ (n134 : Nat) (x134 : Int32) (g135 : Mem), (9 - x134.toInt).toNat < n134 → Inv g135 → Kp [9, 10, 11, 12, 22] g g135 → 0 ≤ x134.toInt ∧ x134.toInt ≤ 8 → Wm X p l e (rmD 2) s m ([.ref (aL X 9), .ref (aL X 21), .int t] : List Value).toArray below meth c 6 0 0 (MQ below (cQ X (pV (fun g2 => Inv g2 ∧ Kp [9, 10, 11, 12, 22] g g2))) ([.ref (aL X 9), .ref (aL X 21), .int t] : List Value).toArray s 0 0 (Ab X)) g135 134 [(0, .ref (aL X 9)), (1, .ref (aL X 21)), (2, .int t), (3, .int x2), (4, .int (1 : Int32)), (5, .int x134)] [] := by
                        intro n134
                        induction n134 with
                        | zero => intro x134 g135 hm; exact absurd hm (Nat.not_lt_zero _)
                        | succ n134 ih134 =>
                          intro x134 g135 hm134 hI136 hK137 i138
                          try obtain ⟨i138a, i138b⟩ := i138
                          refine m_iload C dX1_finish_134 5 rfl ?_
                          refine m_bipush C (8 : Int32) dX1_finish_136 (by decide) ?_
                          refine m_icmp_ge C 166 dX1_finish_138 (by decide) (fun h139 => ?_) (fun h139 => ?_)
                          · skip
                            have th139 := i_le h139
                            rw [show (8 : Int32).toInt = 8 by decide] at th139
                            exact m_vret C dX1_finish_166 ⟨rfl, hI136, hK137⟩
                          · skip
                            have th139 := i_nle h139
                            rw [show (8 : Int32).toInt = 8 by decide] at th139
                            refine m_aload_n C dX1_finish_141 1 rfl ?_
                            refine m_getrN (rf := "") C 0 rfl gd2 (by decide) sh_21 rfl dX1_finish_142 lk_X1_54 ?_
                            refine m_iload_n C dX1_finish_145 2 rfl ?_
                            refine m_bipush C (8 : Int32) dX1_finish_146 (by decide) ?_
                            refine m_imul C dX1_finish_148 ?_
                            refine m_iload C dX1_finish_149 5 rfl ?_
                            refine m_iadd C dX1_finish_151 ?_
                            refine m_aload_n C dX1_finish_152 0 rfl ?_
                            refine m_getr (rf := "") C 2 rfl gd1 (by decide) sh_9 rfl dX1_finish_153 lk_X1_18 ?_
                            refine m_iload C dX1_finish_156 5 rfl ?_
                            refine m_iald C sh_12 (i_in (by omega) (by omega)) dX1_finish_158 ?_
                            have t140 : (t * (8 : Int32)).toInt = t.toInt * (8 : Int) := i_mul rfl (by decide) (by omega) (by omega)
                            have t141 : ((t * (8 : Int32)) + x134).toInt = (t.toInt * (8 : Int)) + x134.toInt := i_add t140 rfl (by omega) (by omega)
                            refine m_iast C sh_22 (i_in (by omega) (by omega)) dX1_finish_159 ?_
                            refine m_mem (fun g142 eg142 => ?_)
                            have hI143 : Inv g142 := by rw [eg142]; exact hI136.up (ok_any (by decide))
                            have hK144 : Kp [9, 10, 11, 12, 22] g g142 := by rw [eg142]; exact Kp.up hK137 (by decide) (Or.inl (by decide)) (Or.inl (by decide))
                            obtain ⟨x145, ex145⟩ : ∃ z : Int32, z = x134 + Int32.ofInt 1 := ⟨_, rfl⟩
                            have t146 : (x134 + (Int32.ofInt 1)).toInt = x134.toInt + (1 : Int) := i_add rfl (by decide) (by omega) (by omega)
                            have t147 : x145.toInt = (x134.toInt + (1 : Int)) := (congrArg Int32.toInt ex145).trans t146
                            refine m_iinc C x145 [(5, .int x145), (0, .ref (aL X 9)), (1, .ref (aL X 21)), (2, .int t), (3, .int x2), (4, .int (1 : Int32))] dX1_finish_160 (q := 5) rfl ex145.symm (by decide) rfl ?_
                            refine m_goto C 134 dX1_finish_163 (by decide) ?_
                            refine m_lv [1, 2, 3, 4, 5, 0] rfl ?_
                            exact ih134 x145 g142 (by omega) hI143 hK144 (by omega)
                      have t148 : (0 : Int32).toInt = 0 := by decide
                      refine m_lv [1, 2, 3, 4, 5, 0] rfl ?_
                      exact L134 (((9 - (0 : Int32).toInt).toNat) + 1) (0 : Int32) g128 (Nat.lt_succ_self _) hI129 hK130 (by omega)
                    · skip
                      have th132 := i_nle h132
                      rw [show (1 : Int32).toInt = 1 by decide] at th132
                      refine m_aload_n C dX1_finish_115 0 rfl ?_
                      refine m_iload C dX1_finish_116 5 rfl ?_
                      refine m_invV C cal_X1_spread sh_9 rfl (c_X1_spread l hX g128 x127 hI129 (by omega)) lk_X1_48 im_X1_spread se_X1_spread (by decide) rfl rfl (Nat.le_of_ble_eq_true rfl) dX1_finish_118 ⟨Nat.le_refl _, Nat.le_refl _⟩ (rV fun g150 q151 => ?_)
                      obtain ⟨hI152, hK153⟩ := q151
                      have hK154 : Kp [9, 10, 11, 12, 22] g g150 := (hK130).tr hK153 (by decide)
                      refine m_aload_n C dX1_finish_121 0 rfl ?_
                      refine m_invV C cal_X1_mix sh_9 rfl (c_X1_mix l hX g150  hI152) lk_X1_51 im_X1_mix se_X1_mix (by decide) rfl rfl (Nat.le_of_ble_eq_true rfl) dX1_finish_122 ⟨Nat.le_refl _, Nat.le_refl _⟩ (rV fun g156 q157 => ?_)
                      obtain ⟨hI158, hK159⟩ := q157
                      have hK160 : Kp [9, 10, 11, 12, 22] g g156 := (hK154).tr hK159 (by decide)
                      obtain ⟨x161, ex161⟩ : ∃ z : Int32, z = x127 + Int32.ofInt 1 := ⟨_, rfl⟩
                      have t162 : (x127 + (Int32.ofInt 1)).toInt = x127.toInt + (1 : Int) := i_add rfl (by decide) (by omega) (by omega)
                      have t163 : x161.toInt = (x127.toInt + (1 : Int)) := (congrArg Int32.toInt ex161).trans t162
                      refine m_iinc C x161 [(5, .int x161), (0, .ref (aL X 9)), (1, .ref (aL X 21)), (2, .int t), (3, .int x2), (4, .int (1 : Int32))] dX1_finish_125 (q := 5) rfl ex161.symm (by decide) rfl ?_
                      refine m_goto C 108 dX1_finish_128 (by decide) ?_
                      refine m_lv [1, 2, 3, 4, 5, 0] rfl ?_
                      exact ih108 x161 g156 (by omega) hI158 hK160 (by omega)
                have t164 : (0 : Int32).toInt = 0 := by decide
                refine m_lv [1, 2, 3, 4, 5, 0] rfl ?_
                exact L108 (((3 - (0 : Int32).toInt).toNat) + 1) (0 : Int32) g121 (Nat.lt_succ_self _) hI122 hK123 (by omega)
              · skip
                have th125 := i_nle h125
                rw [show (8 : Int32).toInt = 8 by decide] at th125
                refine m_aload_n C dX1_finish_86 0 rfl ?_
                refine m_getr (rf := "") C 2 rfl gd1 (by decide) sh_9 rfl dX1_finish_87 lk_X1_18 ?_
                refine m_iload C dX1_finish_90 5 rfl ?_
                refine m_statS (host := "AuditVault") C dX1_finish_92 (by decide +kernel) ?_
                refine m_iload C dX1_finish_95 5 rfl ?_
                refine m_tldS C (i_in (by omega) (by omega)) dX1_finish_97 ?_
                refine m_iast C sh_12 (i_in (by omega) (by omega)) dX1_finish_98 ?_
                refine m_mem (fun g165 eg165 => ?_)
                have hI166 : Inv g165 := by rw [eg165]; exact hI122.up (ok_any (by decide))
                have hK167 : Kp [9, 10, 11, 12, 22] g g165 := by rw [eg165]; exact Kp.up hK123 (by decide) (Or.inl (by decide)) (Or.inl (by decide))
                obtain ⟨x168, ex168⟩ : ∃ z : Int32, z = x120 + Int32.ofInt 1 := ⟨_, rfl⟩
                have t169 : (x120 + (Int32.ofInt 1)).toInt = x120.toInt + (1 : Int) := i_add rfl (by decide) (by omega) (by omega)
                have t170 : x168.toInt = (x120.toInt + (1 : Int)) := (congrArg Int32.toInt ex168).trans t169
                refine m_iinc C x168 [(5, .int x168), (0, .ref (aL X 9)), (1, .ref (aL X 21)), (2, .int t), (3, .int x2), (4, .int (1 : Int32))] dX1_finish_99 (q := 5) rfl ex168.symm (by decide) rfl ?_
                refine m_goto C 79 dX1_finish_102 (by decide) ?_
                refine m_lv [1, 2, 3, 4, 5, 0] rfl ?_
                exact ih79 x168 g165 (by omega) hI166 hK167 (by omega)
          have t171 : (0 : Int32).toInt = 0 := by decide
          refine m_lv [1, 2, 3, 4, 5, 0] rfl ?_
          exact L79 (((9 - (0 : Int32).toInt).toNat) + 1) (0 : Int32) g116 (Nat.lt_succ_self _) hI117 hK118 (by omega)
        · skip
          have th113 := i_nle h113
          refine m_aload_n C dX1_finish_52 0 rfl ?_
          refine m_iconst C (0 : Int32) dX1_finish_53 (by decide) ?_
          have t172 : (0 : Int32).toInt = 0 := by decide
          refine m_invV C cal_X1_add sh_9 rfl (c_X1_add l hX g107 (0 : Int32) hI108) lk_X1_31 im_X1_add se_X1_add (by decide) rfl rfl (Nat.le_of_ble_eq_true rfl) dX1_finish_54 ⟨Nat.le_refl _, Nat.le_refl _⟩ (rV fun g174 q175 => ?_)
          obtain ⟨hI176, hK177⟩ := q175
          have hK178 : Kp [9, 10, 11, 12, 22] g g174 := (hK109).tr hK177 (by decide)
          obtain ⟨x179, ex179⟩ : ∃ z : Int32, z = x106 + Int32.ofInt 1 := ⟨_, rfl⟩
          have t180 : (x106 + (Int32.ofInt 1)).toInt = x106.toInt + (1 : Int) := i_add rfl (by decide) (by omega) (by omega)
          have t181 : x179.toInt = (x106.toInt + (1 : Int)) := (congrArg Int32.toInt ex179).trans t180
          refine m_iinc C x179 [(5, .int x179), (0, .ref (aL X 9)), (1, .ref (aL X 21)), (2, .int t), (3, .int x2), (4, .int (1 : Int32))] dX1_finish_57 (q := 5) rfl ex179.symm (by decide) rfl ?_
          refine m_goto C 40 dX1_finish_60 (by decide) ?_
          refine m_lv [1, 2, 3, 4, 5, 0] rfl ?_
          exact ih40 x179 g174 (by omega) hI176 hK178 (by omega)
    refine m_lv [3, 4, 5, 2, 1, 0] rfl ?_
    exact L40 (((201 - x104.toInt).toNat) + 1) x104 g98 (Nat.lt_succ_self _) hI100 hK102 (by omega)
set_option maxRecDepth 20000 in
set_option maxHeartbeats 4000000 in
theorem c_X1_finish_25 (l : Launch) {X : XT} (hX : Lok X) (g : Mem) (t : Int32) (hI : Inv g) (h_t : 0 ≤ t.toInt ∧ t.toInt ≤ 3) : Ctr l X yX1_finish cX1_finish 6 none (rmD 2) [.ref (aL X 9), .ref (aL X 25), .int t] g (pV (fun g2 => Inv g2 ∧ Kp [9, 10, 11, 12, 26] g g2)) := by
  refine Ctr.of (lv := [(0, .ref (aL X 9)), (1, .ref (aL X 25)), (2, .int t)]) hX (by decide) rfl (Nat.le_of_ble_eq_true rfl) ?_
  intro p e s m below meth c C
  refine m_aload_n C dX1_finish_0 0 rfl ?_
  refine m_geti (rf := "") C 3 rfl gd1 (by decide) sh_9 rfl dX1_finish_1 lk_X1_21 ?_
  have r1 := iv_hlen hI
  refine m_bipush C (8 : Int32) dX1_finish_4 (by decide) ?_
  refine m_imul C dX1_finish_6 ?_
  refine m_name (fun x2 ex2 => ?_)
  have t3 : ((g 9 3) * (8 : Int32)).toInt = (g 9 3).toInt * (8 : Int) := i_mul rfl (by decide) (by omega) (by omega)
  have t4 : x2.toInt = ((g 9 3).toInt * (8 : Int)) := (congrArg Int32.toInt ex2).trans t3
  refine m_istore_n C [(3, .int x2), (0, .ref (aL X 9)), (1, .ref (aL X 25)), (2, .int t)] dX1_finish_7 (by decide) rfl ?_
  refine m_aload_n C dX1_finish_8 1 rfl ?_
  refine m_geti (rf := "") C 3 rfl gd1 (by decide) sh_9 rfl dX1_finish_9 lk_X1_21 ?_
  have r5 := iv_hlen hI
  refine m_bipush C (9 : Int32) dX1_finish_12 (by decide) ?_
  refine m_iadd C dX1_finish_14 ?_
  refine m_bipush C (64 : Int32) dX1_finish_15 (by decide) ?_
  have t6 : ((g 9 3) + (9 : Int32)).toInt = (g 9 3).toInt + (9 : Int) := i_add rfl (by decide) (by omega) (by omega)
  refine m_icmp_gt C 24 dX1_finish_17 (by decide) (fun h7 => ?_) (fun h7 => ?_)
  · skip
    have th7 := i_lt h7
    rw [show (64 : Int32).toInt = 64 by decide] at th7
    refine m_iconst C (2 : Int32) dX1_finish_24 (by decide) ?_
    refine m_istore C [(4, .int (2 : Int32)), (3, .int x2), (0, .ref (aL X 9)), (1, .ref (aL X 25)), (2, .int t)] dX1_finish_25 (by decide) rfl ?_
    refine m_aload_n C dX1_finish_27 2 rfl ?_
    refine m_sipush C (128 : Int32) dX1_finish_28 (by decide) ?_
    have t9 : (128 : Int32).toInt = 128 := by decide
    refine m_invV C cal_X1_add sh_9 rfl (c_X1_add l hX g (128 : Int32) hI) lk_X1_31 im_X1_add se_X1_add (by decide) rfl rfl (Nat.le_of_ble_eq_true rfl) dX1_finish_31 ⟨Nat.le_refl _, Nat.le_refl _⟩ (rV fun g11 q12 => ?_)
    obtain ⟨hI13, hK14⟩ := q12
    have hK15 : Kp [9, 10, 11, 12, 26] g g11 := (Kp.rf).tr hK14 (by decide)
    refine m_aload_n C dX1_finish_34 2 rfl ?_
    refine m_geti (rf := "") C 3 rfl gd1 (by decide) sh_9 rfl dX1_finish_35 lk_X1_21 ?_
    have r16 := iv_hlen hI13
    refine m_name (fun x17 ex17 => ?_)
    have t18 : x17.toInt = (g11 9 3).toInt := (congrArg Int32.toInt ex17).trans rfl
    refine m_istore C [(5, .int x17), (4, .int (2 : Int32)), (3, .int x2), (0, .ref (aL X 9)), (1, .ref (aL X 25)), (2, .int t)] dX1_finish_38 (by decide) rfl ?_
    have L40 : ∀ (n40 : Nat) (x19 : Int32) (g20 : Mem), (201 - x19.toInt).toNat < n40 → Inv g20 → Kp [9, 10, 11, 12, 26] g g20 → 0 ≤ x19.toInt ∧ x19.toInt ≤ 200 → Wm X p l e (rmD 2) s m ([.ref (aL X 9), .ref (aL X 25), .int t] : List Value).toArray below meth c 6 0 0 (MQ below (cQ X (pV (fun g2 => Inv g2 ∧ Kp [9, 10, 11, 12, 26] g g2))) ([.ref (aL X 9), .ref (aL X 25), .int t] : List Value).toArray s 0 0 (Ab X)) g20 40 [(0, .ref (aL X 9)), (1, .ref (aL X 25)), (2, .int t), (3, .int x2), (4, .int (2 : Int32)), (5, .int x19)] [] := by
      intro n40
      induction n40 with
      | zero => intro x19 g20 hm; exact absurd hm (Nat.not_lt_zero _)
      | succ n40 ih40 =>
        intro x19 g20 hm40 hI21 hK22 i23
        try obtain ⟨i23a, i23b⟩ := i23
        refine m_iload C dX1_finish_40 5 rfl ?_
        refine m_iload C dX1_finish_42 4 rfl ?_
        refine m_bipush C (64 : Int32) dX1_finish_44 (by decide) ?_
        refine m_imul C dX1_finish_46 ?_
        refine m_iconst C (4 : Int32) dX1_finish_47 (by decide) ?_
        refine m_isub C dX1_finish_48 ?_
        have t24 : ((2 : Int32) * (64 : Int32)).toInt = (2 : Int) * (64 : Int) := i_mul (by decide) (by decide) (by omega) (by omega)
        have t25 : (((2 : Int32) * (64 : Int32)) - (4 : Int32)).toInt = ((2 : Int) * (64 : Int)) - (4 : Int) := i_sub t24 (by decide) (by omega) (by omega)
        refine m_icmp_ge C 63 dX1_finish_49 (by decide) (fun h26 => ?_) (fun h26 => ?_)
        · skip
          have th26 := i_le h26
          refine m_aload_n C dX1_finish_63 0 rfl ?_
          refine m_getr (rf := "") C 0 rfl gd1 (by decide) sh_9 rfl dX1_finish_64 lk_X1_11 ?_
          refine m_iload C dX1_finish_67 4 rfl ?_
          refine m_bipush C (16 : Int32) dX1_finish_69 (by decide) ?_
          refine m_imul C dX1_finish_71 ?_
          refine m_iconst C (1 : Int32) dX1_finish_72 (by decide) ?_
          refine m_isub C dX1_finish_73 ?_
          refine m_iload_n C dX1_finish_74 3 rfl ?_
          have t27 : ((2 : Int32) * (16 : Int32)).toInt = (2 : Int) * (16 : Int) := i_mul (by decide) (by decide) (by omega) (by omega)
          have t28 : (((2 : Int32) * (16 : Int32)) - (1 : Int32)).toInt = ((2 : Int) * (16 : Int)) - (1 : Int) := i_sub t27 (by decide) (by omega) (by omega)
          refine m_iast C sh_10 (i_in (by omega) (by omega)) dX1_finish_75 ?_
          refine m_mem (fun g29 eg29 => ?_)
          have hI30 : Inv g29 := by rw [eg29]; exact hI21.up (ok_any (by decide))
          have hK31 : Kp [9, 10, 11, 12, 26] g g29 := by rw [eg29]; exact Kp.up hK22 (by decide) (Or.inl (by decide)) (Or.inl (by decide))
          refine m_iconst C (0 : Int32) dX1_finish_76 (by decide) ?_
          refine m_istore C [(5, .int (0 : Int32)), (0, .ref (aL X 9)), (1, .ref (aL X 25)), (2, .int t), (3, .int x2), (4, .int (2 : Int32))] dX1_finish_77 (by decide) rfl ?_
          have L79 : ∀ (n79 : Nat) (x33 : Int32) (g34 : Mem), (9 - x33.toInt).toNat < n79 → Inv g34 → Kp [9, 10, 11, 12, 26] g g34 → 0 ≤ x33.toInt ∧ x33.toInt ≤ 8 → Wm X p l e (rmD 2) s m ([.ref (aL X 9), .ref (aL X 25), .int t] : List Value).toArray below meth c 6 0 0 (MQ below (cQ X (pV (fun g2 => Inv g2 ∧ Kp [9, 10, 11, 12, 26] g g2))) ([.ref (aL X 9), .ref (aL X 25), .int t] : List Value).toArray s 0 0 (Ab X)) g34 79 [(0, .ref (aL X 9)), (1, .ref (aL X 25)), (2, .int t), (3, .int x2), (4, .int (2 : Int32)), (5, .int x33)] [] := by
            intro n79
            induction n79 with
            | zero => intro x33 g34 hm; exact absurd hm (Nat.not_lt_zero _)
            | succ n79 ih79 =>
              intro x33 g34 hm79 hI35 hK36 i37
              try obtain ⟨i37a, i37b⟩ := i37
              refine m_iload C dX1_finish_79 5 rfl ?_
              refine m_bipush C (8 : Int32) dX1_finish_81 (by decide) ?_
              refine m_icmp_ge C 105 dX1_finish_83 (by decide) (fun h38 => ?_) (fun h38 => ?_)
              · skip
                have th38 := i_le h38
                rw [show (8 : Int32).toInt = 8 by decide] at th38
                refine m_iconst C (0 : Int32) dX1_finish_105 (by decide) ?_
                refine m_istore C [(5, .int (0 : Int32)), (0, .ref (aL X 9)), (1, .ref (aL X 25)), (2, .int t), (3, .int x2), (4, .int (2 : Int32))] dX1_finish_106 (by decide) rfl ?_
                have L108 : ∀ (n108 : Nat) (x40 : Int32) (g41 : Mem), (3 - x40.toInt).toNat < n108 → Inv g41 → Kp [9, 10, 11, 12, 26] g g41 → 0 ≤ x40.toInt ∧ x40.toInt ≤ 2 → Wm X p l e (rmD 2) s m ([.ref (aL X 9), .ref (aL X 25), .int t] : List Value).toArray below meth c 6 0 0 (MQ below (cQ X (pV (fun g2 => Inv g2 ∧ Kp [9, 10, 11, 12, 26] g g2))) ([.ref (aL X 9), .ref (aL X 25), .int t] : List Value).toArray s 0 0 (Ab X)) g41 108 [(0, .ref (aL X 9)), (1, .ref (aL X 25)), (2, .int t), (3, .int x2), (4, .int (2 : Int32)), (5, .int x40)] [] := by
                  intro n108
                  induction n108 with
                  | zero => intro x40 g41 hm; exact absurd hm (Nat.not_lt_zero _)
                  | succ n108 ih108 =>
                    intro x40 g41 hm108 hI42 hK43 i44
                    try obtain ⟨i44a, i44b⟩ := i44
                    refine m_iload C dX1_finish_108 5 rfl ?_
                    refine m_iload C dX1_finish_110 4 rfl ?_
                    refine m_icmp_ge C 131 dX1_finish_112 (by decide) (fun h45 => ?_) (fun h45 => ?_)
                    · skip
                      have th45 := i_le h45
                      rw [show (2 : Int32).toInt = 2 by decide] at th45
                      refine m_iconst C (0 : Int32) dX1_finish_131 (by decide) ?_
                      refine m_istore C [(5, .int (0 : Int32)), (0, .ref (aL X 9)), (1, .ref (aL X 25)), (2, .int t), (3, .int x2), (4, .int (2 : Int32))] dX1_finish_132 (by decide) rfl ?_
                      have L134 : ∀ (n134 : Nat) (x47 : Int32) (g48 : Mem), (9 - x47.toInt).toNat < n134 → Inv g48 → Kp [9, 10, 11, 12, 26] g g48 → 0 ≤ x47.toInt ∧ x47.toInt ≤ 8 → Wm X p l e (rmD 2) s m ([.ref (aL X 9), .ref (aL X 25), .int t] : List Value).toArray below meth c 6 0 0 (MQ below (cQ X (pV (fun g2 => Inv g2 ∧ Kp [9, 10, 11, 12, 26] g g2))) ([.ref (aL X 9), .ref (aL X 25), .int t] : List Value).toArray s 0 0 (Ab X)) g48 134 [(0, .ref (aL X 9)), (1, .ref (aL X 25)), (2, .int t), (3, .int x2), (4, .int (2 : Int32)), (5, .int x47)] [] := by
                        intro n134
                        induction n134 with
                        | zero => intro x47 g48 hm; exact absurd hm (Nat.not_lt_zero _)
                        | succ n134 ih134 =>
                          intro x47 g48 hm134 hI49 hK50 i51
                          try obtain ⟨i51a, i51b⟩ := i51
                          refine m_iload C dX1_finish_134 5 rfl ?_
                          refine m_bipush C (8 : Int32) dX1_finish_136 (by decide) ?_
                          refine m_icmp_ge C 166 dX1_finish_138 (by decide) (fun h52 => ?_) (fun h52 => ?_)
                          · skip
                            have th52 := i_le h52
                            rw [show (8 : Int32).toInt = 8 by decide] at th52
                            exact m_vret C dX1_finish_166 ⟨rfl, hI49, hK50⟩
                          · skip
                            have th52 := i_nle h52
                            rw [show (8 : Int32).toInt = 8 by decide] at th52
                            refine m_aload_n C dX1_finish_141 1 rfl ?_
                            refine m_getrN (rf := "") C 0 rfl gd2 (by decide) sh_25 rfl dX1_finish_142 lk_X1_54 ?_
                            refine m_iload_n C dX1_finish_145 2 rfl ?_
                            refine m_bipush C (8 : Int32) dX1_finish_146 (by decide) ?_
                            refine m_imul C dX1_finish_148 ?_
                            refine m_iload C dX1_finish_149 5 rfl ?_
                            refine m_iadd C dX1_finish_151 ?_
                            refine m_aload_n C dX1_finish_152 0 rfl ?_
                            refine m_getr (rf := "") C 2 rfl gd1 (by decide) sh_9 rfl dX1_finish_153 lk_X1_18 ?_
                            refine m_iload C dX1_finish_156 5 rfl ?_
                            refine m_iald C sh_12 (i_in (by omega) (by omega)) dX1_finish_158 ?_
                            have t53 : (t * (8 : Int32)).toInt = t.toInt * (8 : Int) := i_mul rfl (by decide) (by omega) (by omega)
                            have t54 : ((t * (8 : Int32)) + x47).toInt = (t.toInt * (8 : Int)) + x47.toInt := i_add t53 rfl (by omega) (by omega)
                            refine m_iast C sh_26 (i_in (by omega) (by omega)) dX1_finish_159 ?_
                            refine m_mem (fun g55 eg55 => ?_)
                            have hI56 : Inv g55 := by rw [eg55]; exact hI49.up (ok_any (by decide))
                            have hK57 : Kp [9, 10, 11, 12, 26] g g55 := by rw [eg55]; exact Kp.up hK50 (by decide) (Or.inl (by decide)) (Or.inl (by decide))
                            obtain ⟨x58, ex58⟩ : ∃ z : Int32, z = x47 + Int32.ofInt 1 := ⟨_, rfl⟩
                            have t59 : (x47 + (Int32.ofInt 1)).toInt = x47.toInt + (1 : Int) := i_add rfl (by decide) (by omega) (by omega)
                            have t60 : x58.toInt = (x47.toInt + (1 : Int)) := (congrArg Int32.toInt ex58).trans t59
                            refine m_iinc C x58 [(5, .int x58), (0, .ref (aL X 9)), (1, .ref (aL X 25)), (2, .int t), (3, .int x2), (4, .int (2 : Int32))] dX1_finish_160 (q := 5) rfl ex58.symm (by decide) rfl ?_
                            refine m_goto C 134 dX1_finish_163 (by decide) ?_
                            refine m_lv [1, 2, 3, 4, 5, 0] rfl ?_
                            exact ih134 x58 g55 (by omega) hI56 hK57 (by omega)
                      have t61 : (0 : Int32).toInt = 0 := by decide
                      refine m_lv [1, 2, 3, 4, 5, 0] rfl ?_
                      exact L134 (((9 - (0 : Int32).toInt).toNat) + 1) (0 : Int32) g41 (Nat.lt_succ_self _) hI42 hK43 (by omega)
                    · skip
                      have th45 := i_nle h45
                      rw [show (2 : Int32).toInt = 2 by decide] at th45
                      refine m_aload_n C dX1_finish_115 0 rfl ?_
                      refine m_iload C dX1_finish_116 5 rfl ?_
                      refine m_invV C cal_X1_spread sh_9 rfl (c_X1_spread l hX g41 x40 hI42 (by omega)) lk_X1_48 im_X1_spread se_X1_spread (by decide) rfl rfl (Nat.le_of_ble_eq_true rfl) dX1_finish_118 ⟨Nat.le_refl _, Nat.le_refl _⟩ (rV fun g63 q64 => ?_)
                      obtain ⟨hI65, hK66⟩ := q64
                      have hK67 : Kp [9, 10, 11, 12, 26] g g63 := (hK43).tr hK66 (by decide)
                      refine m_aload_n C dX1_finish_121 0 rfl ?_
                      refine m_invV C cal_X1_mix sh_9 rfl (c_X1_mix l hX g63  hI65) lk_X1_51 im_X1_mix se_X1_mix (by decide) rfl rfl (Nat.le_of_ble_eq_true rfl) dX1_finish_122 ⟨Nat.le_refl _, Nat.le_refl _⟩ (rV fun g69 q70 => ?_)
                      obtain ⟨hI71, hK72⟩ := q70
                      have hK73 : Kp [9, 10, 11, 12, 26] g g69 := (hK67).tr hK72 (by decide)
                      obtain ⟨x74, ex74⟩ : ∃ z : Int32, z = x40 + Int32.ofInt 1 := ⟨_, rfl⟩
                      have t75 : (x40 + (Int32.ofInt 1)).toInt = x40.toInt + (1 : Int) := i_add rfl (by decide) (by omega) (by omega)
                      have t76 : x74.toInt = (x40.toInt + (1 : Int)) := (congrArg Int32.toInt ex74).trans t75
                      refine m_iinc C x74 [(5, .int x74), (0, .ref (aL X 9)), (1, .ref (aL X 25)), (2, .int t), (3, .int x2), (4, .int (2 : Int32))] dX1_finish_125 (q := 5) rfl ex74.symm (by decide) rfl ?_
                      refine m_goto C 108 dX1_finish_128 (by decide) ?_
                      refine m_lv [1, 2, 3, 4, 5, 0] rfl ?_
                      exact ih108 x74 g69 (by omega) hI71 hK73 (by omega)
                have t77 : (0 : Int32).toInt = 0 := by decide
                refine m_lv [1, 2, 3, 4, 5, 0] rfl ?_
                exact L108 (((3 - (0 : Int32).toInt).toNat) + 1) (0 : Int32) g34 (Nat.lt_succ_self _) hI35 hK36 (by omega)
              · skip
                have th38 := i_nle h38
                rw [show (8 : Int32).toInt = 8 by decide] at th38
                refine m_aload_n C dX1_finish_86 0 rfl ?_
                refine m_getr (rf := "") C 2 rfl gd1 (by decide) sh_9 rfl dX1_finish_87 lk_X1_18 ?_
                refine m_iload C dX1_finish_90 5 rfl ?_
                refine m_statS (host := "AuditVault") C dX1_finish_92 (by decide +kernel) ?_
                refine m_iload C dX1_finish_95 5 rfl ?_
                refine m_tldS C (i_in (by omega) (by omega)) dX1_finish_97 ?_
                refine m_iast C sh_12 (i_in (by omega) (by omega)) dX1_finish_98 ?_
                refine m_mem (fun g78 eg78 => ?_)
                have hI79 : Inv g78 := by rw [eg78]; exact hI35.up (ok_any (by decide))
                have hK80 : Kp [9, 10, 11, 12, 26] g g78 := by rw [eg78]; exact Kp.up hK36 (by decide) (Or.inl (by decide)) (Or.inl (by decide))
                obtain ⟨x81, ex81⟩ : ∃ z : Int32, z = x33 + Int32.ofInt 1 := ⟨_, rfl⟩
                have t82 : (x33 + (Int32.ofInt 1)).toInt = x33.toInt + (1 : Int) := i_add rfl (by decide) (by omega) (by omega)
                have t83 : x81.toInt = (x33.toInt + (1 : Int)) := (congrArg Int32.toInt ex81).trans t82
                refine m_iinc C x81 [(5, .int x81), (0, .ref (aL X 9)), (1, .ref (aL X 25)), (2, .int t), (3, .int x2), (4, .int (2 : Int32))] dX1_finish_99 (q := 5) rfl ex81.symm (by decide) rfl ?_
                refine m_goto C 79 dX1_finish_102 (by decide) ?_
                refine m_lv [1, 2, 3, 4, 5, 0] rfl ?_
                exact ih79 x81 g78 (by omega) hI79 hK80 (by omega)
          have t84 : (0 : Int32).toInt = 0 := by decide
          refine m_lv [1, 2, 3, 4, 5, 0] rfl ?_
          exact L79 (((9 - (0 : Int32).toInt).toNat) + 1) (0 : Int32) g29 (Nat.lt_succ_self _) hI30 hK31 (by omega)
        · skip
          have th26 := i_nle h26
          refine m_aload_n C dX1_finish_52 0 rfl ?_
          refine m_iconst C (0 : Int32) dX1_finish_53 (by decide) ?_
          have t85 : (0 : Int32).toInt = 0 := by decide
          refine m_invV C cal_X1_add sh_9 rfl (c_X1_add l hX g20 (0 : Int32) hI21) lk_X1_31 im_X1_add se_X1_add (by decide) rfl rfl (Nat.le_of_ble_eq_true rfl) dX1_finish_54 ⟨Nat.le_refl _, Nat.le_refl _⟩ (rV fun g87 q88 => ?_)
          obtain ⟨hI89, hK90⟩ := q88
          have hK91 : Kp [9, 10, 11, 12, 26] g g87 := (hK22).tr hK90 (by decide)
          obtain ⟨x92, ex92⟩ : ∃ z : Int32, z = x19 + Int32.ofInt 1 := ⟨_, rfl⟩
          have t93 : (x19 + (Int32.ofInt 1)).toInt = x19.toInt + (1 : Int) := i_add rfl (by decide) (by omega) (by omega)
          have t94 : x92.toInt = (x19.toInt + (1 : Int)) := (congrArg Int32.toInt ex92).trans t93
          refine m_iinc C x92 [(5, .int x92), (0, .ref (aL X 9)), (1, .ref (aL X 25)), (2, .int t), (3, .int x2), (4, .int (2 : Int32))] dX1_finish_57 (q := 5) rfl ex92.symm (by decide) rfl ?_
          refine m_goto C 40 dX1_finish_60 (by decide) ?_
          refine m_lv [1, 2, 3, 4, 5, 0] rfl ?_
          exact ih40 x92 g87 (by omega) hI89 hK91 (by omega)
    refine m_lv [3, 4, 5, 2, 1, 0] rfl ?_
    exact L40 (((201 - x17.toInt).toNat) + 1) x17 g11 (Nat.lt_succ_self _) hI13 hK15 (by omega)
  · skip
    have th7 := i_nlt h7
    rw [show (64 : Int32).toInt = 64 by decide] at th7
    refine m_iconst C (1 : Int32) dX1_finish_20 (by decide) ?_
    refine m_goto C 25 dX1_finish_21 (by decide) ?_
    refine m_istore C [(4, .int (1 : Int32)), (3, .int x2), (0, .ref (aL X 9)), (1, .ref (aL X 25)), (2, .int t)] dX1_finish_25 (by decide) rfl ?_
    refine m_aload_n C dX1_finish_27 2 rfl ?_
    refine m_sipush C (128 : Int32) dX1_finish_28 (by decide) ?_
    have t96 : (128 : Int32).toInt = 128 := by decide
    refine m_invV C cal_X1_add sh_9 rfl (c_X1_add l hX g (128 : Int32) hI) lk_X1_31 im_X1_add se_X1_add (by decide) rfl rfl (Nat.le_of_ble_eq_true rfl) dX1_finish_31 ⟨Nat.le_refl _, Nat.le_refl _⟩ (rV fun g98 q99 => ?_)
    obtain ⟨hI100, hK101⟩ := q99
    have hK102 : Kp [9, 10, 11, 12, 26] g g98 := (Kp.rf).tr hK101 (by decide)
    refine m_aload_n C dX1_finish_34 2 rfl ?_
    refine m_geti (rf := "") C 3 rfl gd1 (by decide) sh_9 rfl dX1_finish_35 lk_X1_21 ?_
    have r103 := iv_hlen hI100
    refine m_name (fun x104 ex104 => ?_)
    have t105 : x104.toInt = (g98 9 3).toInt := (congrArg Int32.toInt ex104).trans rfl
    refine m_istore C [(5, .int x104), (4, .int (1 : Int32)), (3, .int x2), (0, .ref (aL X 9)), (1, .ref (aL X 25)), (2, .int t)] dX1_finish_38 (by decide) rfl ?_
    have L40 : ∀ (n40 : Nat) (x106 : Int32) (g107 : Mem), (201 - x106.toInt).toNat < n40 → Inv g107 → Kp [9, 10, 11, 12, 26] g g107 → 0 ≤ x106.toInt ∧ x106.toInt ≤ 200 → Wm X p l e (rmD 2) s m ([.ref (aL X 9), .ref (aL X 25), .int t] : List Value).toArray below meth c 6 0 0 (MQ below (cQ X (pV (fun g2 => Inv g2 ∧ Kp [9, 10, 11, 12, 26] g g2))) ([.ref (aL X 9), .ref (aL X 25), .int t] : List Value).toArray s 0 0 (Ab X)) g107 40 [(0, .ref (aL X 9)), (1, .ref (aL X 25)), (2, .int t), (3, .int x2), (4, .int (1 : Int32)), (5, .int x106)] [] := by
      intro n40
      induction n40 with
      | zero => intro x106 g107 hm; exact absurd hm (Nat.not_lt_zero _)
      | succ n40 ih40 =>
        intro x106 g107 hm40 hI108 hK109 i110
        try obtain ⟨i110a, i110b⟩ := i110
        refine m_iload C dX1_finish_40 5 rfl ?_
        refine m_iload C dX1_finish_42 4 rfl ?_
        refine m_bipush C (64 : Int32) dX1_finish_44 (by decide) ?_
        refine m_imul C dX1_finish_46 ?_
        refine m_iconst C (4 : Int32) dX1_finish_47 (by decide) ?_
        refine m_isub C dX1_finish_48 ?_
        have t111 : ((1 : Int32) * (64 : Int32)).toInt = (1 : Int) * (64 : Int) := i_mul (by decide) (by decide) (by omega) (by omega)
        have t112 : (((1 : Int32) * (64 : Int32)) - (4 : Int32)).toInt = ((1 : Int) * (64 : Int)) - (4 : Int) := i_sub t111 (by decide) (by omega) (by omega)
        refine m_icmp_ge C 63 dX1_finish_49 (by decide) (fun h113 => ?_) (fun h113 => ?_)
        · skip
          have th113 := i_le h113
          refine m_aload_n C dX1_finish_63 0 rfl ?_
          refine m_getr (rf := "") C 0 rfl gd1 (by decide) sh_9 rfl dX1_finish_64 lk_X1_11 ?_
          refine m_iload C dX1_finish_67 4 rfl ?_
          refine m_bipush C (16 : Int32) dX1_finish_69 (by decide) ?_
          refine m_imul C dX1_finish_71 ?_
          refine m_iconst C (1 : Int32) dX1_finish_72 (by decide) ?_
          refine m_isub C dX1_finish_73 ?_
          refine m_iload_n C dX1_finish_74 3 rfl ?_
          have t114 : ((1 : Int32) * (16 : Int32)).toInt = (1 : Int) * (16 : Int) := i_mul (by decide) (by decide) (by omega) (by omega)
          have t115 : (((1 : Int32) * (16 : Int32)) - (1 : Int32)).toInt = ((1 : Int) * (16 : Int)) - (1 : Int) := i_sub t114 (by decide) (by omega) (by omega)
          refine m_iast C sh_10 (i_in (by omega) (by omega)) dX1_finish_75 ?_
          refine m_mem (fun g116 eg116 => ?_)
          have hI117 : Inv g116 := by rw [eg116]; exact hI108.up (ok_any (by decide))
          have hK118 : Kp [9, 10, 11, 12, 26] g g116 := by rw [eg116]; exact Kp.up hK109 (by decide) (Or.inl (by decide)) (Or.inl (by decide))
          refine m_iconst C (0 : Int32) dX1_finish_76 (by decide) ?_
          refine m_istore C [(5, .int (0 : Int32)), (0, .ref (aL X 9)), (1, .ref (aL X 25)), (2, .int t), (3, .int x2), (4, .int (1 : Int32))] dX1_finish_77 (by decide) rfl ?_
          have L79 : ∀ (n79 : Nat) (x120 : Int32) (g121 : Mem), (9 - x120.toInt).toNat < n79 → Inv g121 → Kp [9, 10, 11, 12, 26] g g121 → 0 ≤ x120.toInt ∧ x120.toInt ≤ 8 → Wm X p l e (rmD 2) s m ([.ref (aL X 9), .ref (aL X 25), .int t] : List Value).toArray below meth c 6 0 0 (MQ below (cQ X (pV (fun g2 => Inv g2 ∧ Kp [9, 10, 11, 12, 26] g g2))) ([.ref (aL X 9), .ref (aL X 25), .int t] : List Value).toArray s 0 0 (Ab X)) g121 79 [(0, .ref (aL X 9)), (1, .ref (aL X 25)), (2, .int t), (3, .int x2), (4, .int (1 : Int32)), (5, .int x120)] [] := by
            intro n79
            induction n79 with
            | zero => intro x120 g121 hm; exact absurd hm (Nat.not_lt_zero _)
            | succ n79 ih79 =>
              intro x120 g121 hm79 hI122 hK123 i124
              try obtain ⟨i124a, i124b⟩ := i124
              refine m_iload C dX1_finish_79 5 rfl ?_
              refine m_bipush C (8 : Int32) dX1_finish_81 (by decide) ?_
              refine m_icmp_ge C 105 dX1_finish_83 (by decide) (fun h125 => ?_) (fun h125 => ?_)
              · skip
                have th125 := i_le h125
                rw [show (8 : Int32).toInt = 8 by decide] at th125
                refine m_iconst C (0 : Int32) dX1_finish_105 (by decide) ?_
                refine m_istore C [(5, .int (0 : Int32)), (0, .ref (aL X 9)), (1, .ref (aL X 25)), (2, .int t), (3, .int x2), (4, .int (1 : Int32))] dX1_finish_106 (by decide) rfl ?_
                have L108 : ∀ (n108 : Nat) (x127 : Int32) (g128 : Mem), (3 - x127.toInt).toNat < n108 → Inv g128 → Kp [9, 10, 11, 12, 26] g g128 → 0 ≤ x127.toInt ∧ x127.toInt ≤ 2 → Wm X p l e (rmD 2) s m ([.ref (aL X 9), .ref (aL X 25), .int t] : List Value).toArray below meth c 6 0 0 (MQ below (cQ X (pV (fun g2 => Inv g2 ∧ Kp [9, 10, 11, 12, 26] g g2))) ([.ref (aL X 9), .ref (aL X 25), .int t] : List Value).toArray s 0 0 (Ab X)) g128 108 [(0, .ref (aL X 9)), (1, .ref (aL X 25)), (2, .int t), (3, .int x2), (4, .int (1 : Int32)), (5, .int x127)] [] := by
                  intro n108
                  induction n108 with
                  | zero => intro x127 g128 hm; exact absurd hm (Nat.not_lt_zero _)
                  | succ n108 ih108 =>
                    intro x127 g128 hm108 hI129 hK130 i131
                    try obtain ⟨i131a, i131b⟩ := i131
                    refine m_iload C dX1_finish_108 5 rfl ?_
                    refine m_iload C dX1_finish_110 4 rfl ?_
                    refine m_icmp_ge C 131 dX1_finish_112 (by decide) (fun h132 => ?_) (fun h132 => ?_)
                    · skip
                      have th132 := i_le h132
                      rw [show (1 : Int32).toInt = 1 by decide] at th132
                      refine m_iconst C (0 : Int32) dX1_finish_131 (by decide) ?_
                      refine m_istore C [(5, .int (0 : Int32)), (0, .ref (aL X 9)), (1, .ref (aL X 25)), (2, .int t), (3, .int x2), (4, .int (1 : Int32))] dX1_finish_132 (by decide) rfl ?_
                      have L134 : ∀ (n134 : Nat) (x134 : Int32) (g135 : Mem), (9 - x134.toInt).toNat < n134 → Inv g135 → Kp [9, 10, 11, 12, 26] g g135 → 0 ≤ x134.toInt ∧ x134.toInt ≤ 8 → Wm X p l e (rmD 2) s m ([.ref (aL X 9), .ref (aL X 25), .int t] : List Value).toArray below meth c 6 0 0 (MQ below (cQ X (pV (fun g2 => Inv g2 ∧ Kp [9, 10, 11, 12, 26] g g2))) ([.ref (aL X 9), .ref (aL X 25), .int t] : List Value).toArray s 0 0 (Ab X)) g135 134 [(0, .ref (aL X 9)), (1, .ref (aL X 25)), (2, .int t), (3, .int x2), (4, .int (1 : Int32)), (5, .int x134)] [] := by
                        intro n134
                        induction n134 with
                        | zero => intro x134 g135 hm; exact absurd hm (Nat.not_lt_zero _)
                        | succ n134 ih134 =>
                          intro x134 g135 hm134 hI136 hK137 i138
                          try obtain ⟨i138a, i138b⟩ := i138
                          refine m_iload C dX1_finish_134 5 rfl ?_
                          refine m_bipush C (8 : Int32) dX1_finish_136 (by decide) ?_
                          refine m_icmp_ge C 166 dX1_finish_138 (by decide) (fun h139 => ?_) (fun h139 => ?_)
                          · skip
                            have th139 := i_le h139
                            rw [show (8 : Int32).toInt = 8 by decide] at th139
                            exact m_vret C dX1_finish_166 ⟨rfl, hI136, hK137⟩
                          · skip
                            have th139 := i_nle h139
                            rw [show (8 : Int32).toInt = 8 by decide] at th139
                            refine m_aload_n C dX1_finish_141 1 rfl ?_
                            refine m_getrN (rf := "") C 0 rfl gd2 (by decide) sh_25 rfl dX1_finish_142 lk_X1_54 ?_
                            refine m_iload_n C dX1_finish_145 2 rfl ?_
                            refine m_bipush C (8 : Int32) dX1_finish_146 (by decide) ?_
                            refine m_imul C dX1_finish_148 ?_
                            refine m_iload C dX1_finish_149 5 rfl ?_
                            refine m_iadd C dX1_finish_151 ?_
                            refine m_aload_n C dX1_finish_152 0 rfl ?_
                            refine m_getr (rf := "") C 2 rfl gd1 (by decide) sh_9 rfl dX1_finish_153 lk_X1_18 ?_
                            refine m_iload C dX1_finish_156 5 rfl ?_
                            refine m_iald C sh_12 (i_in (by omega) (by omega)) dX1_finish_158 ?_
                            have t140 : (t * (8 : Int32)).toInt = t.toInt * (8 : Int) := i_mul rfl (by decide) (by omega) (by omega)
                            have t141 : ((t * (8 : Int32)) + x134).toInt = (t.toInt * (8 : Int)) + x134.toInt := i_add t140 rfl (by omega) (by omega)
                            refine m_iast C sh_26 (i_in (by omega) (by omega)) dX1_finish_159 ?_
                            refine m_mem (fun g142 eg142 => ?_)
                            have hI143 : Inv g142 := by rw [eg142]; exact hI136.up (ok_any (by decide))
                            have hK144 : Kp [9, 10, 11, 12, 26] g g142 := by rw [eg142]; exact Kp.up hK137 (by decide) (Or.inl (by decide)) (Or.inl (by decide))
                            obtain ⟨x145, ex145⟩ : ∃ z : Int32, z = x134 + Int32.ofInt 1 := ⟨_, rfl⟩
                            have t146 : (x134 + (Int32.ofInt 1)).toInt = x134.toInt + (1 : Int) := i_add rfl (by decide) (by omega) (by omega)
                            have t147 : x145.toInt = (x134.toInt + (1 : Int)) := (congrArg Int32.toInt ex145).trans t146
                            refine m_iinc C x145 [(5, .int x145), (0, .ref (aL X 9)), (1, .ref (aL X 25)), (2, .int t), (3, .int x2), (4, .int (1 : Int32))] dX1_finish_160 (q := 5) rfl ex145.symm (by decide) rfl ?_
                            refine m_goto C 134 dX1_finish_163 (by decide) ?_
                            refine m_lv [1, 2, 3, 4, 5, 0] rfl ?_
                            exact ih134 x145 g142 (by omega) hI143 hK144 (by omega)
                      have t148 : (0 : Int32).toInt = 0 := by decide
                      refine m_lv [1, 2, 3, 4, 5, 0] rfl ?_
                      exact L134 (((9 - (0 : Int32).toInt).toNat) + 1) (0 : Int32) g128 (Nat.lt_succ_self _) hI129 hK130 (by omega)
                    · skip
                      have th132 := i_nle h132
                      rw [show (1 : Int32).toInt = 1 by decide] at th132
                      refine m_aload_n C dX1_finish_115 0 rfl ?_
                      refine m_iload C dX1_finish_116 5 rfl ?_
                      refine m_invV C cal_X1_spread sh_9 rfl (c_X1_spread l hX g128 x127 hI129 (by omega)) lk_X1_48 im_X1_spread se_X1_spread (by decide) rfl rfl (Nat.le_of_ble_eq_true rfl) dX1_finish_118 ⟨Nat.le_refl _, Nat.le_refl _⟩ (rV fun g150 q151 => ?_)
                      obtain ⟨hI152, hK153⟩ := q151
                      have hK154 : Kp [9, 10, 11, 12, 26] g g150 := (hK130).tr hK153 (by decide)
                      refine m_aload_n C dX1_finish_121 0 rfl ?_
                      refine m_invV C cal_X1_mix sh_9 rfl (c_X1_mix l hX g150  hI152) lk_X1_51 im_X1_mix se_X1_mix (by decide) rfl rfl (Nat.le_of_ble_eq_true rfl) dX1_finish_122 ⟨Nat.le_refl _, Nat.le_refl _⟩ (rV fun g156 q157 => ?_)
                      obtain ⟨hI158, hK159⟩ := q157
                      have hK160 : Kp [9, 10, 11, 12, 26] g g156 := (hK154).tr hK159 (by decide)
                      obtain ⟨x161, ex161⟩ : ∃ z : Int32, z = x127 + Int32.ofInt 1 := ⟨_, rfl⟩
                      have t162 : (x127 + (Int32.ofInt 1)).toInt = x127.toInt + (1 : Int) := i_add rfl (by decide) (by omega) (by omega)
                      have t163 : x161.toInt = (x127.toInt + (1 : Int)) := (congrArg Int32.toInt ex161).trans t162
                      refine m_iinc C x161 [(5, .int x161), (0, .ref (aL X 9)), (1, .ref (aL X 25)), (2, .int t), (3, .int x2), (4, .int (1 : Int32))] dX1_finish_125 (q := 5) rfl ex161.symm (by decide) rfl ?_
                      refine m_goto C 108 dX1_finish_128 (by decide) ?_
                      refine m_lv [1, 2, 3, 4, 5, 0] rfl ?_
                      exact ih108 x161 g156 (by omega) hI158 hK160 (by omega)
                have t164 : (0 : Int32).toInt = 0 := by decide
                refine m_lv [1, 2, 3, 4, 5, 0] rfl ?_
                exact L108 (((3 - (0 : Int32).toInt).toNat) + 1) (0 : Int32) g121 (Nat.lt_succ_self _) hI122 hK123 (by omega)
              · skip
                have th125 := i_nle h125
                rw [show (8 : Int32).toInt = 8 by decide] at th125
                refine m_aload_n C dX1_finish_86 0 rfl ?_
                refine m_getr (rf := "") C 2 rfl gd1 (by decide) sh_9 rfl dX1_finish_87 lk_X1_18 ?_
                refine m_iload C dX1_finish_90 5 rfl ?_
                refine m_statS (host := "AuditVault") C dX1_finish_92 (by decide +kernel) ?_
                refine m_iload C dX1_finish_95 5 rfl ?_
                refine m_tldS C (i_in (by omega) (by omega)) dX1_finish_97 ?_
                refine m_iast C sh_12 (i_in (by omega) (by omega)) dX1_finish_98 ?_
                refine m_mem (fun g165 eg165 => ?_)
                have hI166 : Inv g165 := by rw [eg165]; exact hI122.up (ok_any (by decide))
                have hK167 : Kp [9, 10, 11, 12, 26] g g165 := by rw [eg165]; exact Kp.up hK123 (by decide) (Or.inl (by decide)) (Or.inl (by decide))
                obtain ⟨x168, ex168⟩ : ∃ z : Int32, z = x120 + Int32.ofInt 1 := ⟨_, rfl⟩
                have t169 : (x120 + (Int32.ofInt 1)).toInt = x120.toInt + (1 : Int) := i_add rfl (by decide) (by omega) (by omega)
                have t170 : x168.toInt = (x120.toInt + (1 : Int)) := (congrArg Int32.toInt ex168).trans t169
                refine m_iinc C x168 [(5, .int x168), (0, .ref (aL X 9)), (1, .ref (aL X 25)), (2, .int t), (3, .int x2), (4, .int (1 : Int32))] dX1_finish_99 (q := 5) rfl ex168.symm (by decide) rfl ?_
                refine m_goto C 79 dX1_finish_102 (by decide) ?_
                refine m_lv [1, 2, 3, 4, 5, 0] rfl ?_
                exact ih79 x168 g165 (by omega) hI166 hK167 (by omega)
          have t171 : (0 : Int32).toInt = 0 := by decide
          refine m_lv [1, 2, 3, 4, 5, 0] rfl ?_
          exact L79 (((9 - (0 : Int32).toInt).toNat) + 1) (0 : Int32) g116 (Nat.lt_succ_self _) hI117 hK118 (by omega)
        · skip
          have th113 := i_nle h113
          refine m_aload_n C dX1_finish_52 0 rfl ?_
          refine m_iconst C (0 : Int32) dX1_finish_53 (by decide) ?_
          have t172 : (0 : Int32).toInt = 0 := by decide
          refine m_invV C cal_X1_add sh_9 rfl (c_X1_add l hX g107 (0 : Int32) hI108) lk_X1_31 im_X1_add se_X1_add (by decide) rfl rfl (Nat.le_of_ble_eq_true rfl) dX1_finish_54 ⟨Nat.le_refl _, Nat.le_refl _⟩ (rV fun g174 q175 => ?_)
          obtain ⟨hI176, hK177⟩ := q175
          have hK178 : Kp [9, 10, 11, 12, 26] g g174 := (hK109).tr hK177 (by decide)
          obtain ⟨x179, ex179⟩ : ∃ z : Int32, z = x106 + Int32.ofInt 1 := ⟨_, rfl⟩
          have t180 : (x106 + (Int32.ofInt 1)).toInt = x106.toInt + (1 : Int) := i_add rfl (by decide) (by omega) (by omega)
          have t181 : x179.toInt = (x106.toInt + (1 : Int)) := (congrArg Int32.toInt ex179).trans t180
          refine m_iinc C x179 [(5, .int x179), (0, .ref (aL X 9)), (1, .ref (aL X 25)), (2, .int t), (3, .int x2), (4, .int (1 : Int32))] dX1_finish_57 (q := 5) rfl ex179.symm (by decide) rfl ?_
          refine m_goto C 40 dX1_finish_60 (by decide) ?_
          refine m_lv [1, 2, 3, 4, 5, 0] rfl ?_
          exact ih40 x179 g174 (by omega) hI176 hK178 (by omega)
    refine m_lv [3, 4, 5, 2, 1, 0] rfl ?_
    exact L40 (((201 - x104.toInt).toNat) + 1) x104 g98 (Nat.lt_succ_self _) hI100 hK102 (by omega)
set_option maxRecDepth 20000 in
set_option maxHeartbeats 4000000 in
theorem c_X1_finish_28 (l : Launch) {X : XT} (hX : Lok X) (g : Mem) (t : Int32) (hI : Inv g) (h_t : 0 ≤ t.toInt ∧ t.toInt ≤ 1) : Ctr l X yX1_finish cX1_finish 6 none (rmD 2) [.ref (aL X 9), .ref (aL X 28), .int t] g (pV (fun g2 => Inv g2 ∧ Kp [9, 10, 11, 12, 29] g g2)) := by
  refine Ctr.of (lv := [(0, .ref (aL X 9)), (1, .ref (aL X 28)), (2, .int t)]) hX (by decide) rfl (Nat.le_of_ble_eq_true rfl) ?_
  intro p e s m below meth c C
  refine m_aload_n C dX1_finish_0 0 rfl ?_
  refine m_geti (rf := "") C 3 rfl gd1 (by decide) sh_9 rfl dX1_finish_1 lk_X1_21 ?_
  have r1 := iv_hlen hI
  refine m_bipush C (8 : Int32) dX1_finish_4 (by decide) ?_
  refine m_imul C dX1_finish_6 ?_
  refine m_name (fun x2 ex2 => ?_)
  have t3 : ((g 9 3) * (8 : Int32)).toInt = (g 9 3).toInt * (8 : Int) := i_mul rfl (by decide) (by omega) (by omega)
  have t4 : x2.toInt = ((g 9 3).toInt * (8 : Int)) := (congrArg Int32.toInt ex2).trans t3
  refine m_istore_n C [(3, .int x2), (0, .ref (aL X 9)), (1, .ref (aL X 28)), (2, .int t)] dX1_finish_7 (by decide) rfl ?_
  refine m_aload_n C dX1_finish_8 1 rfl ?_
  refine m_geti (rf := "") C 3 rfl gd1 (by decide) sh_9 rfl dX1_finish_9 lk_X1_21 ?_
  have r5 := iv_hlen hI
  refine m_bipush C (9 : Int32) dX1_finish_12 (by decide) ?_
  refine m_iadd C dX1_finish_14 ?_
  refine m_bipush C (64 : Int32) dX1_finish_15 (by decide) ?_
  have t6 : ((g 9 3) + (9 : Int32)).toInt = (g 9 3).toInt + (9 : Int) := i_add rfl (by decide) (by omega) (by omega)
  refine m_icmp_gt C 24 dX1_finish_17 (by decide) (fun h7 => ?_) (fun h7 => ?_)
  · skip
    have th7 := i_lt h7
    rw [show (64 : Int32).toInt = 64 by decide] at th7
    refine m_iconst C (2 : Int32) dX1_finish_24 (by decide) ?_
    refine m_istore C [(4, .int (2 : Int32)), (3, .int x2), (0, .ref (aL X 9)), (1, .ref (aL X 28)), (2, .int t)] dX1_finish_25 (by decide) rfl ?_
    refine m_aload_n C dX1_finish_27 2 rfl ?_
    refine m_sipush C (128 : Int32) dX1_finish_28 (by decide) ?_
    have t9 : (128 : Int32).toInt = 128 := by decide
    refine m_invV C cal_X1_add sh_9 rfl (c_X1_add l hX g (128 : Int32) hI) lk_X1_31 im_X1_add se_X1_add (by decide) rfl rfl (Nat.le_of_ble_eq_true rfl) dX1_finish_31 ⟨Nat.le_refl _, Nat.le_refl _⟩ (rV fun g11 q12 => ?_)
    obtain ⟨hI13, hK14⟩ := q12
    have hK15 : Kp [9, 10, 11, 12, 29] g g11 := (Kp.rf).tr hK14 (by decide)
    refine m_aload_n C dX1_finish_34 2 rfl ?_
    refine m_geti (rf := "") C 3 rfl gd1 (by decide) sh_9 rfl dX1_finish_35 lk_X1_21 ?_
    have r16 := iv_hlen hI13
    refine m_name (fun x17 ex17 => ?_)
    have t18 : x17.toInt = (g11 9 3).toInt := (congrArg Int32.toInt ex17).trans rfl
    refine m_istore C [(5, .int x17), (4, .int (2 : Int32)), (3, .int x2), (0, .ref (aL X 9)), (1, .ref (aL X 28)), (2, .int t)] dX1_finish_38 (by decide) rfl ?_
    have L40 : ∀ (n40 : Nat) (x19 : Int32) (g20 : Mem), (201 - x19.toInt).toNat < n40 → Inv g20 → Kp [9, 10, 11, 12, 29] g g20 → 0 ≤ x19.toInt ∧ x19.toInt ≤ 200 → Wm X p l e (rmD 2) s m ([.ref (aL X 9), .ref (aL X 28), .int t] : List Value).toArray below meth c 6 0 0 (MQ below (cQ X (pV (fun g2 => Inv g2 ∧ Kp [9, 10, 11, 12, 29] g g2))) ([.ref (aL X 9), .ref (aL X 28), .int t] : List Value).toArray s 0 0 (Ab X)) g20 40 [(0, .ref (aL X 9)), (1, .ref (aL X 28)), (2, .int t), (3, .int x2), (4, .int (2 : Int32)), (5, .int x19)] [] := by
      intro n40
      induction n40 with
      | zero => intro x19 g20 hm; exact absurd hm (Nat.not_lt_zero _)
      | succ n40 ih40 =>
        intro x19 g20 hm40 hI21 hK22 i23
        try obtain ⟨i23a, i23b⟩ := i23
        refine m_iload C dX1_finish_40 5 rfl ?_
        refine m_iload C dX1_finish_42 4 rfl ?_
        refine m_bipush C (64 : Int32) dX1_finish_44 (by decide) ?_
        refine m_imul C dX1_finish_46 ?_
        refine m_iconst C (4 : Int32) dX1_finish_47 (by decide) ?_
        refine m_isub C dX1_finish_48 ?_
        have t24 : ((2 : Int32) * (64 : Int32)).toInt = (2 : Int) * (64 : Int) := i_mul (by decide) (by decide) (by omega) (by omega)
        have t25 : (((2 : Int32) * (64 : Int32)) - (4 : Int32)).toInt = ((2 : Int) * (64 : Int)) - (4 : Int) := i_sub t24 (by decide) (by omega) (by omega)
        refine m_icmp_ge C 63 dX1_finish_49 (by decide) (fun h26 => ?_) (fun h26 => ?_)
        · skip
          have th26 := i_le h26
          refine m_aload_n C dX1_finish_63 0 rfl ?_
          refine m_getr (rf := "") C 0 rfl gd1 (by decide) sh_9 rfl dX1_finish_64 lk_X1_11 ?_
          refine m_iload C dX1_finish_67 4 rfl ?_
          refine m_bipush C (16 : Int32) dX1_finish_69 (by decide) ?_
          refine m_imul C dX1_finish_71 ?_
          refine m_iconst C (1 : Int32) dX1_finish_72 (by decide) ?_
          refine m_isub C dX1_finish_73 ?_
          refine m_iload_n C dX1_finish_74 3 rfl ?_
          have t27 : ((2 : Int32) * (16 : Int32)).toInt = (2 : Int) * (16 : Int) := i_mul (by decide) (by decide) (by omega) (by omega)
          have t28 : (((2 : Int32) * (16 : Int32)) - (1 : Int32)).toInt = ((2 : Int) * (16 : Int)) - (1 : Int) := i_sub t27 (by decide) (by omega) (by omega)
          refine m_iast C sh_10 (i_in (by omega) (by omega)) dX1_finish_75 ?_
          refine m_mem (fun g29 eg29 => ?_)
          have hI30 : Inv g29 := by rw [eg29]; exact hI21.up (ok_any (by decide))
          have hK31 : Kp [9, 10, 11, 12, 29] g g29 := by rw [eg29]; exact Kp.up hK22 (by decide) (Or.inl (by decide)) (Or.inl (by decide))
          refine m_iconst C (0 : Int32) dX1_finish_76 (by decide) ?_
          refine m_istore C [(5, .int (0 : Int32)), (0, .ref (aL X 9)), (1, .ref (aL X 28)), (2, .int t), (3, .int x2), (4, .int (2 : Int32))] dX1_finish_77 (by decide) rfl ?_
          have L79 : ∀ (n79 : Nat) (x33 : Int32) (g34 : Mem), (9 - x33.toInt).toNat < n79 → Inv g34 → Kp [9, 10, 11, 12, 29] g g34 → 0 ≤ x33.toInt ∧ x33.toInt ≤ 8 → Wm X p l e (rmD 2) s m ([.ref (aL X 9), .ref (aL X 28), .int t] : List Value).toArray below meth c 6 0 0 (MQ below (cQ X (pV (fun g2 => Inv g2 ∧ Kp [9, 10, 11, 12, 29] g g2))) ([.ref (aL X 9), .ref (aL X 28), .int t] : List Value).toArray s 0 0 (Ab X)) g34 79 [(0, .ref (aL X 9)), (1, .ref (aL X 28)), (2, .int t), (3, .int x2), (4, .int (2 : Int32)), (5, .int x33)] [] := by
            intro n79
            induction n79 with
            | zero => intro x33 g34 hm; exact absurd hm (Nat.not_lt_zero _)
            | succ n79 ih79 =>
              intro x33 g34 hm79 hI35 hK36 i37
              try obtain ⟨i37a, i37b⟩ := i37
              refine m_iload C dX1_finish_79 5 rfl ?_
              refine m_bipush C (8 : Int32) dX1_finish_81 (by decide) ?_
              refine m_icmp_ge C 105 dX1_finish_83 (by decide) (fun h38 => ?_) (fun h38 => ?_)
              · skip
                have th38 := i_le h38
                rw [show (8 : Int32).toInt = 8 by decide] at th38
                refine m_iconst C (0 : Int32) dX1_finish_105 (by decide) ?_
                refine m_istore C [(5, .int (0 : Int32)), (0, .ref (aL X 9)), (1, .ref (aL X 28)), (2, .int t), (3, .int x2), (4, .int (2 : Int32))] dX1_finish_106 (by decide) rfl ?_
                have L108 : ∀ (n108 : Nat) (x40 : Int32) (g41 : Mem), (3 - x40.toInt).toNat < n108 → Inv g41 → Kp [9, 10, 11, 12, 29] g g41 → 0 ≤ x40.toInt ∧ x40.toInt ≤ 2 → Wm X p l e (rmD 2) s m ([.ref (aL X 9), .ref (aL X 28), .int t] : List Value).toArray below meth c 6 0 0 (MQ below (cQ X (pV (fun g2 => Inv g2 ∧ Kp [9, 10, 11, 12, 29] g g2))) ([.ref (aL X 9), .ref (aL X 28), .int t] : List Value).toArray s 0 0 (Ab X)) g41 108 [(0, .ref (aL X 9)), (1, .ref (aL X 28)), (2, .int t), (3, .int x2), (4, .int (2 : Int32)), (5, .int x40)] [] := by
                  intro n108
                  induction n108 with
                  | zero => intro x40 g41 hm; exact absurd hm (Nat.not_lt_zero _)
                  | succ n108 ih108 =>
                    intro x40 g41 hm108 hI42 hK43 i44
                    try obtain ⟨i44a, i44b⟩ := i44
                    refine m_iload C dX1_finish_108 5 rfl ?_
                    refine m_iload C dX1_finish_110 4 rfl ?_
                    refine m_icmp_ge C 131 dX1_finish_112 (by decide) (fun h45 => ?_) (fun h45 => ?_)
                    · skip
                      have th45 := i_le h45
                      rw [show (2 : Int32).toInt = 2 by decide] at th45
                      refine m_iconst C (0 : Int32) dX1_finish_131 (by decide) ?_
                      refine m_istore C [(5, .int (0 : Int32)), (0, .ref (aL X 9)), (1, .ref (aL X 28)), (2, .int t), (3, .int x2), (4, .int (2 : Int32))] dX1_finish_132 (by decide) rfl ?_
                      have L134 : ∀ (n134 : Nat) (x47 : Int32) (g48 : Mem), (9 - x47.toInt).toNat < n134 → Inv g48 → Kp [9, 10, 11, 12, 29] g g48 → 0 ≤ x47.toInt ∧ x47.toInt ≤ 8 → Wm X p l e (rmD 2) s m ([.ref (aL X 9), .ref (aL X 28), .int t] : List Value).toArray below meth c 6 0 0 (MQ below (cQ X (pV (fun g2 => Inv g2 ∧ Kp [9, 10, 11, 12, 29] g g2))) ([.ref (aL X 9), .ref (aL X 28), .int t] : List Value).toArray s 0 0 (Ab X)) g48 134 [(0, .ref (aL X 9)), (1, .ref (aL X 28)), (2, .int t), (3, .int x2), (4, .int (2 : Int32)), (5, .int x47)] [] := by
                        intro n134
                        induction n134 with
                        | zero => intro x47 g48 hm; exact absurd hm (Nat.not_lt_zero _)
                        | succ n134 ih134 =>
                          intro x47 g48 hm134 hI49 hK50 i51
                          try obtain ⟨i51a, i51b⟩ := i51
                          refine m_iload C dX1_finish_134 5 rfl ?_
                          refine m_bipush C (8 : Int32) dX1_finish_136 (by decide) ?_
                          refine m_icmp_ge C 166 dX1_finish_138 (by decide) (fun h52 => ?_) (fun h52 => ?_)
                          · skip
                            have th52 := i_le h52
                            rw [show (8 : Int32).toInt = 8 by decide] at th52
                            exact m_vret C dX1_finish_166 ⟨rfl, hI49, hK50⟩
                          · skip
                            have th52 := i_nle h52
                            rw [show (8 : Int32).toInt = 8 by decide] at th52
                            refine m_aload_n C dX1_finish_141 1 rfl ?_
                            refine m_getrN (rf := "") C 0 rfl gd2 (by decide) sh_28 rfl dX1_finish_142 lk_X1_54 ?_
                            refine m_iload_n C dX1_finish_145 2 rfl ?_
                            refine m_bipush C (8 : Int32) dX1_finish_146 (by decide) ?_
                            refine m_imul C dX1_finish_148 ?_
                            refine m_iload C dX1_finish_149 5 rfl ?_
                            refine m_iadd C dX1_finish_151 ?_
                            refine m_aload_n C dX1_finish_152 0 rfl ?_
                            refine m_getr (rf := "") C 2 rfl gd1 (by decide) sh_9 rfl dX1_finish_153 lk_X1_18 ?_
                            refine m_iload C dX1_finish_156 5 rfl ?_
                            refine m_iald C sh_12 (i_in (by omega) (by omega)) dX1_finish_158 ?_
                            have t53 : (t * (8 : Int32)).toInt = t.toInt * (8 : Int) := i_mul rfl (by decide) (by omega) (by omega)
                            have t54 : ((t * (8 : Int32)) + x47).toInt = (t.toInt * (8 : Int)) + x47.toInt := i_add t53 rfl (by omega) (by omega)
                            refine m_iast C sh_29 (i_in (by omega) (by omega)) dX1_finish_159 ?_
                            refine m_mem (fun g55 eg55 => ?_)
                            have hI56 : Inv g55 := by rw [eg55]; exact hI49.up (ok_any (by decide))
                            have hK57 : Kp [9, 10, 11, 12, 29] g g55 := by rw [eg55]; exact Kp.up hK50 (by decide) (Or.inl (by decide)) (Or.inl (by decide))
                            obtain ⟨x58, ex58⟩ : ∃ z : Int32, z = x47 + Int32.ofInt 1 := ⟨_, rfl⟩
                            have t59 : (x47 + (Int32.ofInt 1)).toInt = x47.toInt + (1 : Int) := i_add rfl (by decide) (by omega) (by omega)
                            have t60 : x58.toInt = (x47.toInt + (1 : Int)) := (congrArg Int32.toInt ex58).trans t59
                            refine m_iinc C x58 [(5, .int x58), (0, .ref (aL X 9)), (1, .ref (aL X 28)), (2, .int t), (3, .int x2), (4, .int (2 : Int32))] dX1_finish_160 (q := 5) rfl ex58.symm (by decide) rfl ?_
                            refine m_goto C 134 dX1_finish_163 (by decide) ?_
                            refine m_lv [1, 2, 3, 4, 5, 0] rfl ?_
                            exact ih134 x58 g55 (by omega) hI56 hK57 (by omega)
                      have t61 : (0 : Int32).toInt = 0 := by decide
                      refine m_lv [1, 2, 3, 4, 5, 0] rfl ?_
                      exact L134 (((9 - (0 : Int32).toInt).toNat) + 1) (0 : Int32) g41 (Nat.lt_succ_self _) hI42 hK43 (by omega)
                    · skip
                      have th45 := i_nle h45
                      rw [show (2 : Int32).toInt = 2 by decide] at th45
                      refine m_aload_n C dX1_finish_115 0 rfl ?_
                      refine m_iload C dX1_finish_116 5 rfl ?_
                      refine m_invV C cal_X1_spread sh_9 rfl (c_X1_spread l hX g41 x40 hI42 (by omega)) lk_X1_48 im_X1_spread se_X1_spread (by decide) rfl rfl (Nat.le_of_ble_eq_true rfl) dX1_finish_118 ⟨Nat.le_refl _, Nat.le_refl _⟩ (rV fun g63 q64 => ?_)
                      obtain ⟨hI65, hK66⟩ := q64
                      have hK67 : Kp [9, 10, 11, 12, 29] g g63 := (hK43).tr hK66 (by decide)
                      refine m_aload_n C dX1_finish_121 0 rfl ?_
                      refine m_invV C cal_X1_mix sh_9 rfl (c_X1_mix l hX g63  hI65) lk_X1_51 im_X1_mix se_X1_mix (by decide) rfl rfl (Nat.le_of_ble_eq_true rfl) dX1_finish_122 ⟨Nat.le_refl _, Nat.le_refl _⟩ (rV fun g69 q70 => ?_)
                      obtain ⟨hI71, hK72⟩ := q70
                      have hK73 : Kp [9, 10, 11, 12, 29] g g69 := (hK67).tr hK72 (by decide)
                      obtain ⟨x74, ex74⟩ : ∃ z : Int32, z = x40 + Int32.ofInt 1 := ⟨_, rfl⟩
                      have t75 : (x40 + (Int32.ofInt 1)).toInt = x40.toInt + (1 : Int) := i_add rfl (by decide) (by omega) (by omega)
                      have t76 : x74.toInt = (x40.toInt + (1 : Int)) := (congrArg Int32.toInt ex74).trans t75
                      refine m_iinc C x74 [(5, .int x74), (0, .ref (aL X 9)), (1, .ref (aL X 28)), (2, .int t), (3, .int x2), (4, .int (2 : Int32))] dX1_finish_125 (q := 5) rfl ex74.symm (by decide) rfl ?_
                      refine m_goto C 108 dX1_finish_128 (by decide) ?_
                      refine m_lv [1, 2, 3, 4, 5, 0] rfl ?_
                      exact ih108 x74 g69 (by omega) hI71 hK73 (by omega)
                have t77 : (0 : Int32).toInt = 0 := by decide
                refine m_lv [1, 2, 3, 4, 5, 0] rfl ?_
                exact L108 (((3 - (0 : Int32).toInt).toNat) + 1) (0 : Int32) g34 (Nat.lt_succ_self _) hI35 hK36 (by omega)
              · skip
                have th38 := i_nle h38
                rw [show (8 : Int32).toInt = 8 by decide] at th38
                refine m_aload_n C dX1_finish_86 0 rfl ?_
                refine m_getr (rf := "") C 2 rfl gd1 (by decide) sh_9 rfl dX1_finish_87 lk_X1_18 ?_
                refine m_iload C dX1_finish_90 5 rfl ?_
                refine m_statS (host := "AuditVault") C dX1_finish_92 (by decide +kernel) ?_
                refine m_iload C dX1_finish_95 5 rfl ?_
                refine m_tldS C (i_in (by omega) (by omega)) dX1_finish_97 ?_
                refine m_iast C sh_12 (i_in (by omega) (by omega)) dX1_finish_98 ?_
                refine m_mem (fun g78 eg78 => ?_)
                have hI79 : Inv g78 := by rw [eg78]; exact hI35.up (ok_any (by decide))
                have hK80 : Kp [9, 10, 11, 12, 29] g g78 := by rw [eg78]; exact Kp.up hK36 (by decide) (Or.inl (by decide)) (Or.inl (by decide))
                obtain ⟨x81, ex81⟩ : ∃ z : Int32, z = x33 + Int32.ofInt 1 := ⟨_, rfl⟩
                have t82 : (x33 + (Int32.ofInt 1)).toInt = x33.toInt + (1 : Int) := i_add rfl (by decide) (by omega) (by omega)
                have t83 : x81.toInt = (x33.toInt + (1 : Int)) := (congrArg Int32.toInt ex81).trans t82
                refine m_iinc C x81 [(5, .int x81), (0, .ref (aL X 9)), (1, .ref (aL X 28)), (2, .int t), (3, .int x2), (4, .int (2 : Int32))] dX1_finish_99 (q := 5) rfl ex81.symm (by decide) rfl ?_
                refine m_goto C 79 dX1_finish_102 (by decide) ?_
                refine m_lv [1, 2, 3, 4, 5, 0] rfl ?_
                exact ih79 x81 g78 (by omega) hI79 hK80 (by omega)
          have t84 : (0 : Int32).toInt = 0 := by decide
          refine m_lv [1, 2, 3, 4, 5, 0] rfl ?_
          exact L79 (((9 - (0 : Int32).toInt).toNat) + 1) (0 : Int32) g29 (Nat.lt_succ_self _) hI30 hK31 (by omega)
        · skip
          have th26 := i_nle h26
          refine m_aload_n C dX1_finish_52 0 rfl ?_
          refine m_iconst C (0 : Int32) dX1_finish_53 (by decide) ?_
          have t85 : (0 : Int32).toInt = 0 := by decide
          refine m_invV C cal_X1_add sh_9 rfl (c_X1_add l hX g20 (0 : Int32) hI21) lk_X1_31 im_X1_add se_X1_add (by decide) rfl rfl (Nat.le_of_ble_eq_true rfl) dX1_finish_54 ⟨Nat.le_refl _, Nat.le_refl _⟩ (rV fun g87 q88 => ?_)
          obtain ⟨hI89, hK90⟩ := q88
          have hK91 : Kp [9, 10, 11, 12, 29] g g87 := (hK22).tr hK90 (by decide)
          obtain ⟨x92, ex92⟩ : ∃ z : Int32, z = x19 + Int32.ofInt 1 := ⟨_, rfl⟩
          have t93 : (x19 + (Int32.ofInt 1)).toInt = x19.toInt + (1 : Int) := i_add rfl (by decide) (by omega) (by omega)
          have t94 : x92.toInt = (x19.toInt + (1 : Int)) := (congrArg Int32.toInt ex92).trans t93
          refine m_iinc C x92 [(5, .int x92), (0, .ref (aL X 9)), (1, .ref (aL X 28)), (2, .int t), (3, .int x2), (4, .int (2 : Int32))] dX1_finish_57 (q := 5) rfl ex92.symm (by decide) rfl ?_
          refine m_goto C 40 dX1_finish_60 (by decide) ?_
          refine m_lv [1, 2, 3, 4, 5, 0] rfl ?_
          exact ih40 x92 g87 (by omega) hI89 hK91 (by omega)
    refine m_lv [3, 4, 5, 2, 1, 0] rfl ?_
    exact L40 (((201 - x17.toInt).toNat) + 1) x17 g11 (Nat.lt_succ_self _) hI13 hK15 (by omega)
  · skip
    have th7 := i_nlt h7
    rw [show (64 : Int32).toInt = 64 by decide] at th7
    refine m_iconst C (1 : Int32) dX1_finish_20 (by decide) ?_
    refine m_goto C 25 dX1_finish_21 (by decide) ?_
    refine m_istore C [(4, .int (1 : Int32)), (3, .int x2), (0, .ref (aL X 9)), (1, .ref (aL X 28)), (2, .int t)] dX1_finish_25 (by decide) rfl ?_
    refine m_aload_n C dX1_finish_27 2 rfl ?_
    refine m_sipush C (128 : Int32) dX1_finish_28 (by decide) ?_
    have t96 : (128 : Int32).toInt = 128 := by decide
    refine m_invV C cal_X1_add sh_9 rfl (c_X1_add l hX g (128 : Int32) hI) lk_X1_31 im_X1_add se_X1_add (by decide) rfl rfl (Nat.le_of_ble_eq_true rfl) dX1_finish_31 ⟨Nat.le_refl _, Nat.le_refl _⟩ (rV fun g98 q99 => ?_)
    obtain ⟨hI100, hK101⟩ := q99
    have hK102 : Kp [9, 10, 11, 12, 29] g g98 := (Kp.rf).tr hK101 (by decide)
    refine m_aload_n C dX1_finish_34 2 rfl ?_
    refine m_geti (rf := "") C 3 rfl gd1 (by decide) sh_9 rfl dX1_finish_35 lk_X1_21 ?_
    have r103 := iv_hlen hI100
    refine m_name (fun x104 ex104 => ?_)
    have t105 : x104.toInt = (g98 9 3).toInt := (congrArg Int32.toInt ex104).trans rfl
    refine m_istore C [(5, .int x104), (4, .int (1 : Int32)), (3, .int x2), (0, .ref (aL X 9)), (1, .ref (aL X 28)), (2, .int t)] dX1_finish_38 (by decide) rfl ?_
    have L40 : ∀ (n40 : Nat) (x106 : Int32) (g107 : Mem), (201 - x106.toInt).toNat < n40 → Inv g107 → Kp [9, 10, 11, 12, 29] g g107 → 0 ≤ x106.toInt ∧ x106.toInt ≤ 200 → Wm X p l e (rmD 2) s m ([.ref (aL X 9), .ref (aL X 28), .int t] : List Value).toArray below meth c 6 0 0 (MQ below (cQ X (pV (fun g2 => Inv g2 ∧ Kp [9, 10, 11, 12, 29] g g2))) ([.ref (aL X 9), .ref (aL X 28), .int t] : List Value).toArray s 0 0 (Ab X)) g107 40 [(0, .ref (aL X 9)), (1, .ref (aL X 28)), (2, .int t), (3, .int x2), (4, .int (1 : Int32)), (5, .int x106)] [] := by
      intro n40
      induction n40 with
      | zero => intro x106 g107 hm; exact absurd hm (Nat.not_lt_zero _)
      | succ n40 ih40 =>
        intro x106 g107 hm40 hI108 hK109 i110
        try obtain ⟨i110a, i110b⟩ := i110
        refine m_iload C dX1_finish_40 5 rfl ?_
        refine m_iload C dX1_finish_42 4 rfl ?_
        refine m_bipush C (64 : Int32) dX1_finish_44 (by decide) ?_
        refine m_imul C dX1_finish_46 ?_
        refine m_iconst C (4 : Int32) dX1_finish_47 (by decide) ?_
        refine m_isub C dX1_finish_48 ?_
        have t111 : ((1 : Int32) * (64 : Int32)).toInt = (1 : Int) * (64 : Int) := i_mul (by decide) (by decide) (by omega) (by omega)
        have t112 : (((1 : Int32) * (64 : Int32)) - (4 : Int32)).toInt = ((1 : Int) * (64 : Int)) - (4 : Int) := i_sub t111 (by decide) (by omega) (by omega)
        refine m_icmp_ge C 63 dX1_finish_49 (by decide) (fun h113 => ?_) (fun h113 => ?_)
        · skip
          have th113 := i_le h113
          refine m_aload_n C dX1_finish_63 0 rfl ?_
          refine m_getr (rf := "") C 0 rfl gd1 (by decide) sh_9 rfl dX1_finish_64 lk_X1_11 ?_
          refine m_iload C dX1_finish_67 4 rfl ?_
          refine m_bipush C (16 : Int32) dX1_finish_69 (by decide) ?_
          refine m_imul C dX1_finish_71 ?_
          refine m_iconst C (1 : Int32) dX1_finish_72 (by decide) ?_
          refine m_isub C dX1_finish_73 ?_
          refine m_iload_n C dX1_finish_74 3 rfl ?_
          have t114 : ((1 : Int32) * (16 : Int32)).toInt = (1 : Int) * (16 : Int) := i_mul (by decide) (by decide) (by omega) (by omega)
          have t115 : (((1 : Int32) * (16 : Int32)) - (1 : Int32)).toInt = ((1 : Int) * (16 : Int)) - (1 : Int) := i_sub t114 (by decide) (by omega) (by omega)
          refine m_iast C sh_10 (i_in (by omega) (by omega)) dX1_finish_75 ?_
          refine m_mem (fun g116 eg116 => ?_)
          have hI117 : Inv g116 := by rw [eg116]; exact hI108.up (ok_any (by decide))
          have hK118 : Kp [9, 10, 11, 12, 29] g g116 := by rw [eg116]; exact Kp.up hK109 (by decide) (Or.inl (by decide)) (Or.inl (by decide))
          refine m_iconst C (0 : Int32) dX1_finish_76 (by decide) ?_
          refine m_istore C [(5, .int (0 : Int32)), (0, .ref (aL X 9)), (1, .ref (aL X 28)), (2, .int t), (3, .int x2), (4, .int (1 : Int32))] dX1_finish_77 (by decide) rfl ?_
          have L79 : ∀ (n79 : Nat) (x120 : Int32) (g121 : Mem), (9 - x120.toInt).toNat < n79 → Inv g121 → Kp [9, 10, 11, 12, 29] g g121 → 0 ≤ x120.toInt ∧ x120.toInt ≤ 8 → Wm X p l e (rmD 2) s m ([.ref (aL X 9), .ref (aL X 28), .int t] : List Value).toArray below meth c 6 0 0 (MQ below (cQ X (pV (fun g2 => Inv g2 ∧ Kp [9, 10, 11, 12, 29] g g2))) ([.ref (aL X 9), .ref (aL X 28), .int t] : List Value).toArray s 0 0 (Ab X)) g121 79 [(0, .ref (aL X 9)), (1, .ref (aL X 28)), (2, .int t), (3, .int x2), (4, .int (1 : Int32)), (5, .int x120)] [] := by
            intro n79
            induction n79 with
            | zero => intro x120 g121 hm; exact absurd hm (Nat.not_lt_zero _)
            | succ n79 ih79 =>
              intro x120 g121 hm79 hI122 hK123 i124
              try obtain ⟨i124a, i124b⟩ := i124
              refine m_iload C dX1_finish_79 5 rfl ?_
              refine m_bipush C (8 : Int32) dX1_finish_81 (by decide) ?_
              refine m_icmp_ge C 105 dX1_finish_83 (by decide) (fun h125 => ?_) (fun h125 => ?_)
              · skip
                have th125 := i_le h125
                rw [show (8 : Int32).toInt = 8 by decide] at th125
                refine m_iconst C (0 : Int32) dX1_finish_105 (by decide) ?_
                refine m_istore C [(5, .int (0 : Int32)), (0, .ref (aL X 9)), (1, .ref (aL X 28)), (2, .int t), (3, .int x2), (4, .int (1 : Int32))] dX1_finish_106 (by decide) rfl ?_
                have L108 : ∀ (n108 : Nat) (x127 : Int32) (g128 : Mem), (3 - x127.toInt).toNat < n108 → Inv g128 → Kp [9, 10, 11, 12, 29] g g128 → 0 ≤ x127.toInt ∧ x127.toInt ≤ 2 → Wm X p l e (rmD 2) s m ([.ref (aL X 9), .ref (aL X 28), .int t] : List Value).toArray below meth c 6 0 0 (MQ below (cQ X (pV (fun g2 => Inv g2 ∧ Kp [9, 10, 11, 12, 29] g g2))) ([.ref (aL X 9), .ref (aL X 28), .int t] : List Value).toArray s 0 0 (Ab X)) g128 108 [(0, .ref (aL X 9)), (1, .ref (aL X 28)), (2, .int t), (3, .int x2), (4, .int (1 : Int32)), (5, .int x127)] [] := by
                  intro n108
                  induction n108 with
                  | zero => intro x127 g128 hm; exact absurd hm (Nat.not_lt_zero _)
                  | succ n108 ih108 =>
                    intro x127 g128 hm108 hI129 hK130 i131
                    try obtain ⟨i131a, i131b⟩ := i131
                    refine m_iload C dX1_finish_108 5 rfl ?_
                    refine m_iload C dX1_finish_110 4 rfl ?_
                    refine m_icmp_ge C 131 dX1_finish_112 (by decide) (fun h132 => ?_) (fun h132 => ?_)
                    · skip
                      have th132 := i_le h132
                      rw [show (1 : Int32).toInt = 1 by decide] at th132
                      refine m_iconst C (0 : Int32) dX1_finish_131 (by decide) ?_
                      refine m_istore C [(5, .int (0 : Int32)), (0, .ref (aL X 9)), (1, .ref (aL X 28)), (2, .int t), (3, .int x2), (4, .int (1 : Int32))] dX1_finish_132 (by decide) rfl ?_
                      have L134 : ∀ (n134 : Nat) (x134 : Int32) (g135 : Mem), (9 - x134.toInt).toNat < n134 → Inv g135 → Kp [9, 10, 11, 12, 29] g g135 → 0 ≤ x134.toInt ∧ x134.toInt ≤ 8 → Wm X p l e (rmD 2) s m ([.ref (aL X 9), .ref (aL X 28), .int t] : List Value).toArray below meth c 6 0 0 (MQ below (cQ X (pV (fun g2 => Inv g2 ∧ Kp [9, 10, 11, 12, 29] g g2))) ([.ref (aL X 9), .ref (aL X 28), .int t] : List Value).toArray s 0 0 (Ab X)) g135 134 [(0, .ref (aL X 9)), (1, .ref (aL X 28)), (2, .int t), (3, .int x2), (4, .int (1 : Int32)), (5, .int x134)] [] := by
                        intro n134
                        induction n134 with
                        | zero => intro x134 g135 hm; exact absurd hm (Nat.not_lt_zero _)
                        | succ n134 ih134 =>
                          intro x134 g135 hm134 hI136 hK137 i138
                          try obtain ⟨i138a, i138b⟩ := i138
                          refine m_iload C dX1_finish_134 5 rfl ?_
                          refine m_bipush C (8 : Int32) dX1_finish_136 (by decide) ?_
                          refine m_icmp_ge C 166 dX1_finish_138 (by decide) (fun h139 => ?_) (fun h139 => ?_)
                          · skip
                            have th139 := i_le h139
                            rw [show (8 : Int32).toInt = 8 by decide] at th139
                            exact m_vret C dX1_finish_166 ⟨rfl, hI136, hK137⟩
                          · skip
                            have th139 := i_nle h139
                            rw [show (8 : Int32).toInt = 8 by decide] at th139
                            refine m_aload_n C dX1_finish_141 1 rfl ?_
                            refine m_getrN (rf := "") C 0 rfl gd2 (by decide) sh_28 rfl dX1_finish_142 lk_X1_54 ?_
                            refine m_iload_n C dX1_finish_145 2 rfl ?_
                            refine m_bipush C (8 : Int32) dX1_finish_146 (by decide) ?_
                            refine m_imul C dX1_finish_148 ?_
                            refine m_iload C dX1_finish_149 5 rfl ?_
                            refine m_iadd C dX1_finish_151 ?_
                            refine m_aload_n C dX1_finish_152 0 rfl ?_
                            refine m_getr (rf := "") C 2 rfl gd1 (by decide) sh_9 rfl dX1_finish_153 lk_X1_18 ?_
                            refine m_iload C dX1_finish_156 5 rfl ?_
                            refine m_iald C sh_12 (i_in (by omega) (by omega)) dX1_finish_158 ?_
                            have t140 : (t * (8 : Int32)).toInt = t.toInt * (8 : Int) := i_mul rfl (by decide) (by omega) (by omega)
                            have t141 : ((t * (8 : Int32)) + x134).toInt = (t.toInt * (8 : Int)) + x134.toInt := i_add t140 rfl (by omega) (by omega)
                            refine m_iast C sh_29 (i_in (by omega) (by omega)) dX1_finish_159 ?_
                            refine m_mem (fun g142 eg142 => ?_)
                            have hI143 : Inv g142 := by rw [eg142]; exact hI136.up (ok_any (by decide))
                            have hK144 : Kp [9, 10, 11, 12, 29] g g142 := by rw [eg142]; exact Kp.up hK137 (by decide) (Or.inl (by decide)) (Or.inl (by decide))
                            obtain ⟨x145, ex145⟩ : ∃ z : Int32, z = x134 + Int32.ofInt 1 := ⟨_, rfl⟩
                            have t146 : (x134 + (Int32.ofInt 1)).toInt = x134.toInt + (1 : Int) := i_add rfl (by decide) (by omega) (by omega)
                            have t147 : x145.toInt = (x134.toInt + (1 : Int)) := (congrArg Int32.toInt ex145).trans t146
                            refine m_iinc C x145 [(5, .int x145), (0, .ref (aL X 9)), (1, .ref (aL X 28)), (2, .int t), (3, .int x2), (4, .int (1 : Int32))] dX1_finish_160 (q := 5) rfl ex145.symm (by decide) rfl ?_
                            refine m_goto C 134 dX1_finish_163 (by decide) ?_
                            refine m_lv [1, 2, 3, 4, 5, 0] rfl ?_
                            exact ih134 x145 g142 (by omega) hI143 hK144 (by omega)
                      have t148 : (0 : Int32).toInt = 0 := by decide
                      refine m_lv [1, 2, 3, 4, 5, 0] rfl ?_
                      exact L134 (((9 - (0 : Int32).toInt).toNat) + 1) (0 : Int32) g128 (Nat.lt_succ_self _) hI129 hK130 (by omega)
                    · skip
                      have th132 := i_nle h132
                      rw [show (1 : Int32).toInt = 1 by decide] at th132
                      refine m_aload_n C dX1_finish_115 0 rfl ?_
                      refine m_iload C dX1_finish_116 5 rfl ?_
                      refine m_invV C cal_X1_spread sh_9 rfl (c_X1_spread l hX g128 x127 hI129 (by omega)) lk_X1_48 im_X1_spread se_X1_spread (by decide) rfl rfl (Nat.le_of_ble_eq_true rfl) dX1_finish_118 ⟨Nat.le_refl _, Nat.le_refl _⟩ (rV fun g150 q151 => ?_)
                      obtain ⟨hI152, hK153⟩ := q151
                      have hK154 : Kp [9, 10, 11, 12, 29] g g150 := (hK130).tr hK153 (by decide)
                      refine m_aload_n C dX1_finish_121 0 rfl ?_
                      refine m_invV C cal_X1_mix sh_9 rfl (c_X1_mix l hX g150  hI152) lk_X1_51 im_X1_mix se_X1_mix (by decide) rfl rfl (Nat.le_of_ble_eq_true rfl) dX1_finish_122 ⟨Nat.le_refl _, Nat.le_refl _⟩ (rV fun g156 q157 => ?_)
                      obtain ⟨hI158, hK159⟩ := q157
                      have hK160 : Kp [9, 10, 11, 12, 29] g g156 := (hK154).tr hK159 (by decide)
                      obtain ⟨x161, ex161⟩ : ∃ z : Int32, z = x127 + Int32.ofInt 1 := ⟨_, rfl⟩
                      have t162 : (x127 + (Int32.ofInt 1)).toInt = x127.toInt + (1 : Int) := i_add rfl (by decide) (by omega) (by omega)
                      have t163 : x161.toInt = (x127.toInt + (1 : Int)) := (congrArg Int32.toInt ex161).trans t162
                      refine m_iinc C x161 [(5, .int x161), (0, .ref (aL X 9)), (1, .ref (aL X 28)), (2, .int t), (3, .int x2), (4, .int (1 : Int32))] dX1_finish_125 (q := 5) rfl ex161.symm (by decide) rfl ?_
                      refine m_goto C 108 dX1_finish_128 (by decide) ?_
                      refine m_lv [1, 2, 3, 4, 5, 0] rfl ?_
                      exact ih108 x161 g156 (by omega) hI158 hK160 (by omega)
                have t164 : (0 : Int32).toInt = 0 := by decide
                refine m_lv [1, 2, 3, 4, 5, 0] rfl ?_
                exact L108 (((3 - (0 : Int32).toInt).toNat) + 1) (0 : Int32) g121 (Nat.lt_succ_self _) hI122 hK123 (by omega)
              · skip
                have th125 := i_nle h125
                rw [show (8 : Int32).toInt = 8 by decide] at th125
                refine m_aload_n C dX1_finish_86 0 rfl ?_
                refine m_getr (rf := "") C 2 rfl gd1 (by decide) sh_9 rfl dX1_finish_87 lk_X1_18 ?_
                refine m_iload C dX1_finish_90 5 rfl ?_
                refine m_statS (host := "AuditVault") C dX1_finish_92 (by decide +kernel) ?_
                refine m_iload C dX1_finish_95 5 rfl ?_
                refine m_tldS C (i_in (by omega) (by omega)) dX1_finish_97 ?_
                refine m_iast C sh_12 (i_in (by omega) (by omega)) dX1_finish_98 ?_
                refine m_mem (fun g165 eg165 => ?_)
                have hI166 : Inv g165 := by rw [eg165]; exact hI122.up (ok_any (by decide))
                have hK167 : Kp [9, 10, 11, 12, 29] g g165 := by rw [eg165]; exact Kp.up hK123 (by decide) (Or.inl (by decide)) (Or.inl (by decide))
                obtain ⟨x168, ex168⟩ : ∃ z : Int32, z = x120 + Int32.ofInt 1 := ⟨_, rfl⟩
                have t169 : (x120 + (Int32.ofInt 1)).toInt = x120.toInt + (1 : Int) := i_add rfl (by decide) (by omega) (by omega)
                have t170 : x168.toInt = (x120.toInt + (1 : Int)) := (congrArg Int32.toInt ex168).trans t169
                refine m_iinc C x168 [(5, .int x168), (0, .ref (aL X 9)), (1, .ref (aL X 28)), (2, .int t), (3, .int x2), (4, .int (1 : Int32))] dX1_finish_99 (q := 5) rfl ex168.symm (by decide) rfl ?_
                refine m_goto C 79 dX1_finish_102 (by decide) ?_
                refine m_lv [1, 2, 3, 4, 5, 0] rfl ?_
                exact ih79 x168 g165 (by omega) hI166 hK167 (by omega)
          have t171 : (0 : Int32).toInt = 0 := by decide
          refine m_lv [1, 2, 3, 4, 5, 0] rfl ?_
          exact L79 (((9 - (0 : Int32).toInt).toNat) + 1) (0 : Int32) g116 (Nat.lt_succ_self _) hI117 hK118 (by omega)
        · skip
          have th113 := i_nle h113
          refine m_aload_n C dX1_finish_52 0 rfl ?_
          refine m_iconst C (0 : Int32) dX1_finish_53 (by decide) ?_
          have t172 : (0 : Int32).toInt = 0 := by decide
          refine m_invV C cal_X1_add sh_9 rfl (c_X1_add l hX g107 (0 : Int32) hI108) lk_X1_31 im_X1_add se_X1_add (by decide) rfl rfl (Nat.le_of_ble_eq_true rfl) dX1_finish_54 ⟨Nat.le_refl _, Nat.le_refl _⟩ (rV fun g174 q175 => ?_)
          obtain ⟨hI176, hK177⟩ := q175
          have hK178 : Kp [9, 10, 11, 12, 29] g g174 := (hK109).tr hK177 (by decide)
          obtain ⟨x179, ex179⟩ : ∃ z : Int32, z = x106 + Int32.ofInt 1 := ⟨_, rfl⟩
          have t180 : (x106 + (Int32.ofInt 1)).toInt = x106.toInt + (1 : Int) := i_add rfl (by decide) (by omega) (by omega)
          have t181 : x179.toInt = (x106.toInt + (1 : Int)) := (congrArg Int32.toInt ex179).trans t180
          refine m_iinc C x179 [(5, .int x179), (0, .ref (aL X 9)), (1, .ref (aL X 28)), (2, .int t), (3, .int x2), (4, .int (1 : Int32))] dX1_finish_57 (q := 5) rfl ex179.symm (by decide) rfl ?_
          refine m_goto C 40 dX1_finish_60 (by decide) ?_
          refine m_lv [1, 2, 3, 4, 5, 0] rfl ?_
          exact ih40 x179 g174 (by omega) hI176 hK178 (by omega)
    refine m_lv [3, 4, 5, 2, 1, 0] rfl ?_
    exact L40 (((201 - x104.toInt).toNat) + 1) x104 g98 (Nat.lt_succ_self _) hI100 hK102 (by omega)
set_option maxRecDepth 20000 in
set_option maxHeartbeats 4000000 in
theorem c_X1_finish_32 (l : Launch) {X : XT} (hX : Lok X) (g : Mem) (t : Int32) (hI : Inv g) (h_t : 0 ≤ t.toInt ∧ t.toInt ≤ 0) : Ctr l X yX1_finish cX1_finish 6 none (rmD 2) [.ref (aL X 9), .ref (aL X 32), .int t] g (pV (fun g2 => Inv g2 ∧ Kp [9, 10, 11, 12, 33] g g2)) := by
  refine Ctr.of (lv := [(0, .ref (aL X 9)), (1, .ref (aL X 32)), (2, .int t)]) hX (by decide) rfl (Nat.le_of_ble_eq_true rfl) ?_
  intro p e s m below meth c C
  refine m_aload_n C dX1_finish_0 0 rfl ?_
  refine m_geti (rf := "") C 3 rfl gd1 (by decide) sh_9 rfl dX1_finish_1 lk_X1_21 ?_
  have r1 := iv_hlen hI
  refine m_bipush C (8 : Int32) dX1_finish_4 (by decide) ?_
  refine m_imul C dX1_finish_6 ?_
  refine m_name (fun x2 ex2 => ?_)
  have t3 : ((g 9 3) * (8 : Int32)).toInt = (g 9 3).toInt * (8 : Int) := i_mul rfl (by decide) (by omega) (by omega)
  have t4 : x2.toInt = ((g 9 3).toInt * (8 : Int)) := (congrArg Int32.toInt ex2).trans t3
  refine m_istore_n C [(3, .int x2), (0, .ref (aL X 9)), (1, .ref (aL X 32)), (2, .int t)] dX1_finish_7 (by decide) rfl ?_
  refine m_aload_n C dX1_finish_8 1 rfl ?_
  refine m_geti (rf := "") C 3 rfl gd1 (by decide) sh_9 rfl dX1_finish_9 lk_X1_21 ?_
  have r5 := iv_hlen hI
  refine m_bipush C (9 : Int32) dX1_finish_12 (by decide) ?_
  refine m_iadd C dX1_finish_14 ?_
  refine m_bipush C (64 : Int32) dX1_finish_15 (by decide) ?_
  have t6 : ((g 9 3) + (9 : Int32)).toInt = (g 9 3).toInt + (9 : Int) := i_add rfl (by decide) (by omega) (by omega)
  refine m_icmp_gt C 24 dX1_finish_17 (by decide) (fun h7 => ?_) (fun h7 => ?_)
  · skip
    have th7 := i_lt h7
    rw [show (64 : Int32).toInt = 64 by decide] at th7
    refine m_iconst C (2 : Int32) dX1_finish_24 (by decide) ?_
    refine m_istore C [(4, .int (2 : Int32)), (3, .int x2), (0, .ref (aL X 9)), (1, .ref (aL X 32)), (2, .int t)] dX1_finish_25 (by decide) rfl ?_
    refine m_aload_n C dX1_finish_27 2 rfl ?_
    refine m_sipush C (128 : Int32) dX1_finish_28 (by decide) ?_
    have t9 : (128 : Int32).toInt = 128 := by decide
    refine m_invV C cal_X1_add sh_9 rfl (c_X1_add l hX g (128 : Int32) hI) lk_X1_31 im_X1_add se_X1_add (by decide) rfl rfl (Nat.le_of_ble_eq_true rfl) dX1_finish_31 ⟨Nat.le_refl _, Nat.le_refl _⟩ (rV fun g11 q12 => ?_)
    obtain ⟨hI13, hK14⟩ := q12
    have hK15 : Kp [9, 10, 11, 12, 33] g g11 := (Kp.rf).tr hK14 (by decide)
    refine m_aload_n C dX1_finish_34 2 rfl ?_
    refine m_geti (rf := "") C 3 rfl gd1 (by decide) sh_9 rfl dX1_finish_35 lk_X1_21 ?_
    have r16 := iv_hlen hI13
    refine m_name (fun x17 ex17 => ?_)
    have t18 : x17.toInt = (g11 9 3).toInt := (congrArg Int32.toInt ex17).trans rfl
    refine m_istore C [(5, .int x17), (4, .int (2 : Int32)), (3, .int x2), (0, .ref (aL X 9)), (1, .ref (aL X 32)), (2, .int t)] dX1_finish_38 (by decide) rfl ?_
    have L40 : ∀ (n40 : Nat) (x19 : Int32) (g20 : Mem), (201 - x19.toInt).toNat < n40 → Inv g20 → Kp [9, 10, 11, 12, 33] g g20 → 0 ≤ x19.toInt ∧ x19.toInt ≤ 200 → Wm X p l e (rmD 2) s m ([.ref (aL X 9), .ref (aL X 32), .int t] : List Value).toArray below meth c 6 0 0 (MQ below (cQ X (pV (fun g2 => Inv g2 ∧ Kp [9, 10, 11, 12, 33] g g2))) ([.ref (aL X 9), .ref (aL X 32), .int t] : List Value).toArray s 0 0 (Ab X)) g20 40 [(0, .ref (aL X 9)), (1, .ref (aL X 32)), (2, .int t), (3, .int x2), (4, .int (2 : Int32)), (5, .int x19)] [] := by
      intro n40
      induction n40 with
      | zero => intro x19 g20 hm; exact absurd hm (Nat.not_lt_zero _)
      | succ n40 ih40 =>
        intro x19 g20 hm40 hI21 hK22 i23
        try obtain ⟨i23a, i23b⟩ := i23
        refine m_iload C dX1_finish_40 5 rfl ?_
        refine m_iload C dX1_finish_42 4 rfl ?_
        refine m_bipush C (64 : Int32) dX1_finish_44 (by decide) ?_
        refine m_imul C dX1_finish_46 ?_
        refine m_iconst C (4 : Int32) dX1_finish_47 (by decide) ?_
        refine m_isub C dX1_finish_48 ?_
        have t24 : ((2 : Int32) * (64 : Int32)).toInt = (2 : Int) * (64 : Int) := i_mul (by decide) (by decide) (by omega) (by omega)
        have t25 : (((2 : Int32) * (64 : Int32)) - (4 : Int32)).toInt = ((2 : Int) * (64 : Int)) - (4 : Int) := i_sub t24 (by decide) (by omega) (by omega)
        refine m_icmp_ge C 63 dX1_finish_49 (by decide) (fun h26 => ?_) (fun h26 => ?_)
        · skip
          have th26 := i_le h26
          refine m_aload_n C dX1_finish_63 0 rfl ?_
          refine m_getr (rf := "") C 0 rfl gd1 (by decide) sh_9 rfl dX1_finish_64 lk_X1_11 ?_
          refine m_iload C dX1_finish_67 4 rfl ?_
          refine m_bipush C (16 : Int32) dX1_finish_69 (by decide) ?_
          refine m_imul C dX1_finish_71 ?_
          refine m_iconst C (1 : Int32) dX1_finish_72 (by decide) ?_
          refine m_isub C dX1_finish_73 ?_
          refine m_iload_n C dX1_finish_74 3 rfl ?_
          have t27 : ((2 : Int32) * (16 : Int32)).toInt = (2 : Int) * (16 : Int) := i_mul (by decide) (by decide) (by omega) (by omega)
          have t28 : (((2 : Int32) * (16 : Int32)) - (1 : Int32)).toInt = ((2 : Int) * (16 : Int)) - (1 : Int) := i_sub t27 (by decide) (by omega) (by omega)
          refine m_iast C sh_10 (i_in (by omega) (by omega)) dX1_finish_75 ?_
          refine m_mem (fun g29 eg29 => ?_)
          have hI30 : Inv g29 := by rw [eg29]; exact hI21.up (ok_any (by decide))
          have hK31 : Kp [9, 10, 11, 12, 33] g g29 := by rw [eg29]; exact Kp.up hK22 (by decide) (Or.inl (by decide)) (Or.inl (by decide))
          refine m_iconst C (0 : Int32) dX1_finish_76 (by decide) ?_
          refine m_istore C [(5, .int (0 : Int32)), (0, .ref (aL X 9)), (1, .ref (aL X 32)), (2, .int t), (3, .int x2), (4, .int (2 : Int32))] dX1_finish_77 (by decide) rfl ?_
          have L79 : ∀ (n79 : Nat) (x33 : Int32) (g34 : Mem), (9 - x33.toInt).toNat < n79 → Inv g34 → Kp [9, 10, 11, 12, 33] g g34 → 0 ≤ x33.toInt ∧ x33.toInt ≤ 8 → Wm X p l e (rmD 2) s m ([.ref (aL X 9), .ref (aL X 32), .int t] : List Value).toArray below meth c 6 0 0 (MQ below (cQ X (pV (fun g2 => Inv g2 ∧ Kp [9, 10, 11, 12, 33] g g2))) ([.ref (aL X 9), .ref (aL X 32), .int t] : List Value).toArray s 0 0 (Ab X)) g34 79 [(0, .ref (aL X 9)), (1, .ref (aL X 32)), (2, .int t), (3, .int x2), (4, .int (2 : Int32)), (5, .int x33)] [] := by
            intro n79
            induction n79 with
            | zero => intro x33 g34 hm; exact absurd hm (Nat.not_lt_zero _)
            | succ n79 ih79 =>
              intro x33 g34 hm79 hI35 hK36 i37
              try obtain ⟨i37a, i37b⟩ := i37
              refine m_iload C dX1_finish_79 5 rfl ?_
              refine m_bipush C (8 : Int32) dX1_finish_81 (by decide) ?_
              refine m_icmp_ge C 105 dX1_finish_83 (by decide) (fun h38 => ?_) (fun h38 => ?_)
              · skip
                have th38 := i_le h38
                rw [show (8 : Int32).toInt = 8 by decide] at th38
                refine m_iconst C (0 : Int32) dX1_finish_105 (by decide) ?_
                refine m_istore C [(5, .int (0 : Int32)), (0, .ref (aL X 9)), (1, .ref (aL X 32)), (2, .int t), (3, .int x2), (4, .int (2 : Int32))] dX1_finish_106 (by decide) rfl ?_
                have L108 : ∀ (n108 : Nat) (x40 : Int32) (g41 : Mem), (3 - x40.toInt).toNat < n108 → Inv g41 → Kp [9, 10, 11, 12, 33] g g41 → 0 ≤ x40.toInt ∧ x40.toInt ≤ 2 → Wm X p l e (rmD 2) s m ([.ref (aL X 9), .ref (aL X 32), .int t] : List Value).toArray below meth c 6 0 0 (MQ below (cQ X (pV (fun g2 => Inv g2 ∧ Kp [9, 10, 11, 12, 33] g g2))) ([.ref (aL X 9), .ref (aL X 32), .int t] : List Value).toArray s 0 0 (Ab X)) g41 108 [(0, .ref (aL X 9)), (1, .ref (aL X 32)), (2, .int t), (3, .int x2), (4, .int (2 : Int32)), (5, .int x40)] [] := by
                  intro n108
                  induction n108 with
                  | zero => intro x40 g41 hm; exact absurd hm (Nat.not_lt_zero _)
                  | succ n108 ih108 =>
                    intro x40 g41 hm108 hI42 hK43 i44
                    try obtain ⟨i44a, i44b⟩ := i44
                    refine m_iload C dX1_finish_108 5 rfl ?_
                    refine m_iload C dX1_finish_110 4 rfl ?_
                    refine m_icmp_ge C 131 dX1_finish_112 (by decide) (fun h45 => ?_) (fun h45 => ?_)
                    · skip
                      have th45 := i_le h45
                      rw [show (2 : Int32).toInt = 2 by decide] at th45
                      refine m_iconst C (0 : Int32) dX1_finish_131 (by decide) ?_
                      refine m_istore C [(5, .int (0 : Int32)), (0, .ref (aL X 9)), (1, .ref (aL X 32)), (2, .int t), (3, .int x2), (4, .int (2 : Int32))] dX1_finish_132 (by decide) rfl ?_
                      have L134 : ∀ (n134 : Nat) (x47 : Int32) (g48 : Mem), (9 - x47.toInt).toNat < n134 → Inv g48 → Kp [9, 10, 11, 12, 33] g g48 → 0 ≤ x47.toInt ∧ x47.toInt ≤ 8 → Wm X p l e (rmD 2) s m ([.ref (aL X 9), .ref (aL X 32), .int t] : List Value).toArray below meth c 6 0 0 (MQ below (cQ X (pV (fun g2 => Inv g2 ∧ Kp [9, 10, 11, 12, 33] g g2))) ([.ref (aL X 9), .ref (aL X 32), .int t] : List Value).toArray s 0 0 (Ab X)) g48 134 [(0, .ref (aL X 9)), (1, .ref (aL X 32)), (2, .int t), (3, .int x2), (4, .int (2 : Int32)), (5, .int x47)] [] := by
                        intro n134
                        induction n134 with
                        | zero => intro x47 g48 hm; exact absurd hm (Nat.not_lt_zero _)
                        | succ n134 ih134 =>
                          intro x47 g48 hm134 hI49 hK50 i51
                          try obtain ⟨i51a, i51b⟩ := i51
                          refine m_iload C dX1_finish_134 5 rfl ?_
                          refine m_bipush C (8 : Int32) dX1_finish_136 (by decide) ?_
                          refine m_icmp_ge C 166 dX1_finish_138 (by decide) (fun h52 => ?_) (fun h52 => ?_)
                          · skip
                            have th52 := i_le h52
                            rw [show (8 : Int32).toInt = 8 by decide] at th52
                            exact m_vret C dX1_finish_166 ⟨rfl, hI49, hK50⟩
                          · skip
                            have th52 := i_nle h52
                            rw [show (8 : Int32).toInt = 8 by decide] at th52
                            refine m_aload_n C dX1_finish_141 1 rfl ?_
                            refine m_getrN (rf := "") C 0 rfl gd2 (by decide) sh_32 rfl dX1_finish_142 lk_X1_54 ?_
                            refine m_iload_n C dX1_finish_145 2 rfl ?_
                            refine m_bipush C (8 : Int32) dX1_finish_146 (by decide) ?_
                            refine m_imul C dX1_finish_148 ?_
                            refine m_iload C dX1_finish_149 5 rfl ?_
                            refine m_iadd C dX1_finish_151 ?_
                            refine m_aload_n C dX1_finish_152 0 rfl ?_
                            refine m_getr (rf := "") C 2 rfl gd1 (by decide) sh_9 rfl dX1_finish_153 lk_X1_18 ?_
                            refine m_iload C dX1_finish_156 5 rfl ?_
                            refine m_iald C sh_12 (i_in (by omega) (by omega)) dX1_finish_158 ?_
                            have t53 : (t * (8 : Int32)).toInt = t.toInt * (8 : Int) := i_mul rfl (by decide) (by omega) (by omega)
                            have t54 : ((t * (8 : Int32)) + x47).toInt = (t.toInt * (8 : Int)) + x47.toInt := i_add t53 rfl (by omega) (by omega)
                            refine m_iast C sh_33 (i_in (by omega) (by omega)) dX1_finish_159 ?_
                            refine m_mem (fun g55 eg55 => ?_)
                            have hI56 : Inv g55 := by rw [eg55]; exact hI49.up (ok_any (by decide))
                            have hK57 : Kp [9, 10, 11, 12, 33] g g55 := by rw [eg55]; exact Kp.up hK50 (by decide) (Or.inl (by decide)) (Or.inl (by decide))
                            obtain ⟨x58, ex58⟩ : ∃ z : Int32, z = x47 + Int32.ofInt 1 := ⟨_, rfl⟩
                            have t59 : (x47 + (Int32.ofInt 1)).toInt = x47.toInt + (1 : Int) := i_add rfl (by decide) (by omega) (by omega)
                            have t60 : x58.toInt = (x47.toInt + (1 : Int)) := (congrArg Int32.toInt ex58).trans t59
                            refine m_iinc C x58 [(5, .int x58), (0, .ref (aL X 9)), (1, .ref (aL X 32)), (2, .int t), (3, .int x2), (4, .int (2 : Int32))] dX1_finish_160 (q := 5) rfl ex58.symm (by decide) rfl ?_
                            refine m_goto C 134 dX1_finish_163 (by decide) ?_
                            refine m_lv [1, 2, 3, 4, 5, 0] rfl ?_
                            exact ih134 x58 g55 (by omega) hI56 hK57 (by omega)
                      have t61 : (0 : Int32).toInt = 0 := by decide
                      refine m_lv [1, 2, 3, 4, 5, 0] rfl ?_
                      exact L134 (((9 - (0 : Int32).toInt).toNat) + 1) (0 : Int32) g41 (Nat.lt_succ_self _) hI42 hK43 (by omega)
                    · skip
                      have th45 := i_nle h45
                      rw [show (2 : Int32).toInt = 2 by decide] at th45
                      refine m_aload_n C dX1_finish_115 0 rfl ?_
                      refine m_iload C dX1_finish_116 5 rfl ?_
                      refine m_invV C cal_X1_spread sh_9 rfl (c_X1_spread l hX g41 x40 hI42 (by omega)) lk_X1_48 im_X1_spread se_X1_spread (by decide) rfl rfl (Nat.le_of_ble_eq_true rfl) dX1_finish_118 ⟨Nat.le_refl _, Nat.le_refl _⟩ (rV fun g63 q64 => ?_)
                      obtain ⟨hI65, hK66⟩ := q64
                      have hK67 : Kp [9, 10, 11, 12, 33] g g63 := (hK43).tr hK66 (by decide)
                      refine m_aload_n C dX1_finish_121 0 rfl ?_
                      refine m_invV C cal_X1_mix sh_9 rfl (c_X1_mix l hX g63  hI65) lk_X1_51 im_X1_mix se_X1_mix (by decide) rfl rfl (Nat.le_of_ble_eq_true rfl) dX1_finish_122 ⟨Nat.le_refl _, Nat.le_refl _⟩ (rV fun g69 q70 => ?_)
                      obtain ⟨hI71, hK72⟩ := q70
                      have hK73 : Kp [9, 10, 11, 12, 33] g g69 := (hK67).tr hK72 (by decide)
                      obtain ⟨x74, ex74⟩ : ∃ z : Int32, z = x40 + Int32.ofInt 1 := ⟨_, rfl⟩
                      have t75 : (x40 + (Int32.ofInt 1)).toInt = x40.toInt + (1 : Int) := i_add rfl (by decide) (by omega) (by omega)
                      have t76 : x74.toInt = (x40.toInt + (1 : Int)) := (congrArg Int32.toInt ex74).trans t75
                      refine m_iinc C x74 [(5, .int x74), (0, .ref (aL X 9)), (1, .ref (aL X 32)), (2, .int t), (3, .int x2), (4, .int (2 : Int32))] dX1_finish_125 (q := 5) rfl ex74.symm (by decide) rfl ?_
                      refine m_goto C 108 dX1_finish_128 (by decide) ?_
                      refine m_lv [1, 2, 3, 4, 5, 0] rfl ?_
                      exact ih108 x74 g69 (by omega) hI71 hK73 (by omega)
                have t77 : (0 : Int32).toInt = 0 := by decide
                refine m_lv [1, 2, 3, 4, 5, 0] rfl ?_
                exact L108 (((3 - (0 : Int32).toInt).toNat) + 1) (0 : Int32) g34 (Nat.lt_succ_self _) hI35 hK36 (by omega)
              · skip
                have th38 := i_nle h38
                rw [show (8 : Int32).toInt = 8 by decide] at th38
                refine m_aload_n C dX1_finish_86 0 rfl ?_
                refine m_getr (rf := "") C 2 rfl gd1 (by decide) sh_9 rfl dX1_finish_87 lk_X1_18 ?_
                refine m_iload C dX1_finish_90 5 rfl ?_
                refine m_statS (host := "AuditVault") C dX1_finish_92 (by decide +kernel) ?_
                refine m_iload C dX1_finish_95 5 rfl ?_
                refine m_tldS C (i_in (by omega) (by omega)) dX1_finish_97 ?_
                refine m_iast C sh_12 (i_in (by omega) (by omega)) dX1_finish_98 ?_
                refine m_mem (fun g78 eg78 => ?_)
                have hI79 : Inv g78 := by rw [eg78]; exact hI35.up (ok_any (by decide))
                have hK80 : Kp [9, 10, 11, 12, 33] g g78 := by rw [eg78]; exact Kp.up hK36 (by decide) (Or.inl (by decide)) (Or.inl (by decide))
                obtain ⟨x81, ex81⟩ : ∃ z : Int32, z = x33 + Int32.ofInt 1 := ⟨_, rfl⟩
                have t82 : (x33 + (Int32.ofInt 1)).toInt = x33.toInt + (1 : Int) := i_add rfl (by decide) (by omega) (by omega)
                have t83 : x81.toInt = (x33.toInt + (1 : Int)) := (congrArg Int32.toInt ex81).trans t82
                refine m_iinc C x81 [(5, .int x81), (0, .ref (aL X 9)), (1, .ref (aL X 32)), (2, .int t), (3, .int x2), (4, .int (2 : Int32))] dX1_finish_99 (q := 5) rfl ex81.symm (by decide) rfl ?_
                refine m_goto C 79 dX1_finish_102 (by decide) ?_
                refine m_lv [1, 2, 3, 4, 5, 0] rfl ?_
                exact ih79 x81 g78 (by omega) hI79 hK80 (by omega)
          have t84 : (0 : Int32).toInt = 0 := by decide
          refine m_lv [1, 2, 3, 4, 5, 0] rfl ?_
          exact L79 (((9 - (0 : Int32).toInt).toNat) + 1) (0 : Int32) g29 (Nat.lt_succ_self _) hI30 hK31 (by omega)
        · skip
          have th26 := i_nle h26
          refine m_aload_n C dX1_finish_52 0 rfl ?_
          refine m_iconst C (0 : Int32) dX1_finish_53 (by decide) ?_
          have t85 : (0 : Int32).toInt = 0 := by decide
          refine m_invV C cal_X1_add sh_9 rfl (c_X1_add l hX g20 (0 : Int32) hI21) lk_X1_31 im_X1_add se_X1_add (by decide) rfl rfl (Nat.le_of_ble_eq_true rfl) dX1_finish_54 ⟨Nat.le_refl _, Nat.le_refl _⟩ (rV fun g87 q88 => ?_)
          obtain ⟨hI89, hK90⟩ := q88
          have hK91 : Kp [9, 10, 11, 12, 33] g g87 := (hK22).tr hK90 (by decide)
          obtain ⟨x92, ex92⟩ : ∃ z : Int32, z = x19 + Int32.ofInt 1 := ⟨_, rfl⟩
          have t93 : (x19 + (Int32.ofInt 1)).toInt = x19.toInt + (1 : Int) := i_add rfl (by decide) (by omega) (by omega)
          have t94 : x92.toInt = (x19.toInt + (1 : Int)) := (congrArg Int32.toInt ex92).trans t93
          refine m_iinc C x92 [(5, .int x92), (0, .ref (aL X 9)), (1, .ref (aL X 32)), (2, .int t), (3, .int x2), (4, .int (2 : Int32))] dX1_finish_57 (q := 5) rfl ex92.symm (by decide) rfl ?_
          refine m_goto C 40 dX1_finish_60 (by decide) ?_
          refine m_lv [1, 2, 3, 4, 5, 0] rfl ?_
          exact ih40 x92 g87 (by omega) hI89 hK91 (by omega)
    refine m_lv [3, 4, 5, 2, 1, 0] rfl ?_
    exact L40 (((201 - x17.toInt).toNat) + 1) x17 g11 (Nat.lt_succ_self _) hI13 hK15 (by omega)
  · skip
    have th7 := i_nlt h7
    rw [show (64 : Int32).toInt = 64 by decide] at th7
    refine m_iconst C (1 : Int32) dX1_finish_20 (by decide) ?_
    refine m_goto C 25 dX1_finish_21 (by decide) ?_
    refine m_istore C [(4, .int (1 : Int32)), (3, .int x2), (0, .ref (aL X 9)), (1, .ref (aL X 32)), (2, .int t)] dX1_finish_25 (by decide) rfl ?_
    refine m_aload_n C dX1_finish_27 2 rfl ?_
    refine m_sipush C (128 : Int32) dX1_finish_28 (by decide) ?_
    have t96 : (128 : Int32).toInt = 128 := by decide
    refine m_invV C cal_X1_add sh_9 rfl (c_X1_add l hX g (128 : Int32) hI) lk_X1_31 im_X1_add se_X1_add (by decide) rfl rfl (Nat.le_of_ble_eq_true rfl) dX1_finish_31 ⟨Nat.le_refl _, Nat.le_refl _⟩ (rV fun g98 q99 => ?_)
    obtain ⟨hI100, hK101⟩ := q99
    have hK102 : Kp [9, 10, 11, 12, 33] g g98 := (Kp.rf).tr hK101 (by decide)
    refine m_aload_n C dX1_finish_34 2 rfl ?_
    refine m_geti (rf := "") C 3 rfl gd1 (by decide) sh_9 rfl dX1_finish_35 lk_X1_21 ?_
    have r103 := iv_hlen hI100
    refine m_name (fun x104 ex104 => ?_)
    have t105 : x104.toInt = (g98 9 3).toInt := (congrArg Int32.toInt ex104).trans rfl
    refine m_istore C [(5, .int x104), (4, .int (1 : Int32)), (3, .int x2), (0, .ref (aL X 9)), (1, .ref (aL X 32)), (2, .int t)] dX1_finish_38 (by decide) rfl ?_
    have L40 : ∀ (n40 : Nat) (x106 : Int32) (g107 : Mem), (201 - x106.toInt).toNat < n40 → Inv g107 → Kp [9, 10, 11, 12, 33] g g107 → 0 ≤ x106.toInt ∧ x106.toInt ≤ 200 → Wm X p l e (rmD 2) s m ([.ref (aL X 9), .ref (aL X 32), .int t] : List Value).toArray below meth c 6 0 0 (MQ below (cQ X (pV (fun g2 => Inv g2 ∧ Kp [9, 10, 11, 12, 33] g g2))) ([.ref (aL X 9), .ref (aL X 32), .int t] : List Value).toArray s 0 0 (Ab X)) g107 40 [(0, .ref (aL X 9)), (1, .ref (aL X 32)), (2, .int t), (3, .int x2), (4, .int (1 : Int32)), (5, .int x106)] [] := by
      intro n40
      induction n40 with
      | zero => intro x106 g107 hm; exact absurd hm (Nat.not_lt_zero _)
      | succ n40 ih40 =>
        intro x106 g107 hm40 hI108 hK109 i110
        try obtain ⟨i110a, i110b⟩ := i110
        refine m_iload C dX1_finish_40 5 rfl ?_
        refine m_iload C dX1_finish_42 4 rfl ?_
        refine m_bipush C (64 : Int32) dX1_finish_44 (by decide) ?_
        refine m_imul C dX1_finish_46 ?_
        refine m_iconst C (4 : Int32) dX1_finish_47 (by decide) ?_
        refine m_isub C dX1_finish_48 ?_
        have t111 : ((1 : Int32) * (64 : Int32)).toInt = (1 : Int) * (64 : Int) := i_mul (by decide) (by decide) (by omega) (by omega)
        have t112 : (((1 : Int32) * (64 : Int32)) - (4 : Int32)).toInt = ((1 : Int) * (64 : Int)) - (4 : Int) := i_sub t111 (by decide) (by omega) (by omega)
        refine m_icmp_ge C 63 dX1_finish_49 (by decide) (fun h113 => ?_) (fun h113 => ?_)
        · skip
          have th113 := i_le h113
          refine m_aload_n C dX1_finish_63 0 rfl ?_
          refine m_getr (rf := "") C 0 rfl gd1 (by decide) sh_9 rfl dX1_finish_64 lk_X1_11 ?_
          refine m_iload C dX1_finish_67 4 rfl ?_
          refine m_bipush C (16 : Int32) dX1_finish_69 (by decide) ?_
          refine m_imul C dX1_finish_71 ?_
          refine m_iconst C (1 : Int32) dX1_finish_72 (by decide) ?_
          refine m_isub C dX1_finish_73 ?_
          refine m_iload_n C dX1_finish_74 3 rfl ?_
          have t114 : ((1 : Int32) * (16 : Int32)).toInt = (1 : Int) * (16 : Int) := i_mul (by decide) (by decide) (by omega) (by omega)
          have t115 : (((1 : Int32) * (16 : Int32)) - (1 : Int32)).toInt = ((1 : Int) * (16 : Int)) - (1 : Int) := i_sub t114 (by decide) (by omega) (by omega)
          refine m_iast C sh_10 (i_in (by omega) (by omega)) dX1_finish_75 ?_
          refine m_mem (fun g116 eg116 => ?_)
          have hI117 : Inv g116 := by rw [eg116]; exact hI108.up (ok_any (by decide))
          have hK118 : Kp [9, 10, 11, 12, 33] g g116 := by rw [eg116]; exact Kp.up hK109 (by decide) (Or.inl (by decide)) (Or.inl (by decide))
          refine m_iconst C (0 : Int32) dX1_finish_76 (by decide) ?_
          refine m_istore C [(5, .int (0 : Int32)), (0, .ref (aL X 9)), (1, .ref (aL X 32)), (2, .int t), (3, .int x2), (4, .int (1 : Int32))] dX1_finish_77 (by decide) rfl ?_
          have L79 : ∀ (n79 : Nat) (x120 : Int32) (g121 : Mem), (9 - x120.toInt).toNat < n79 → Inv g121 → Kp [9, 10, 11, 12, 33] g g121 → 0 ≤ x120.toInt ∧ x120.toInt ≤ 8 → Wm X p l e (rmD 2) s m ([.ref (aL X 9), .ref (aL X 32), .int t] : List Value).toArray below meth c 6 0 0 (MQ below (cQ X (pV (fun g2 => Inv g2 ∧ Kp [9, 10, 11, 12, 33] g g2))) ([.ref (aL X 9), .ref (aL X 32), .int t] : List Value).toArray s 0 0 (Ab X)) g121 79 [(0, .ref (aL X 9)), (1, .ref (aL X 32)), (2, .int t), (3, .int x2), (4, .int (1 : Int32)), (5, .int x120)] [] := by
            intro n79
            induction n79 with
            | zero => intro x120 g121 hm; exact absurd hm (Nat.not_lt_zero _)
            | succ n79 ih79 =>
              intro x120 g121 hm79 hI122 hK123 i124
              try obtain ⟨i124a, i124b⟩ := i124
              refine m_iload C dX1_finish_79 5 rfl ?_
              refine m_bipush C (8 : Int32) dX1_finish_81 (by decide) ?_
              refine m_icmp_ge C 105 dX1_finish_83 (by decide) (fun h125 => ?_) (fun h125 => ?_)
              · skip
                have th125 := i_le h125
                rw [show (8 : Int32).toInt = 8 by decide] at th125
                refine m_iconst C (0 : Int32) dX1_finish_105 (by decide) ?_
                refine m_istore C [(5, .int (0 : Int32)), (0, .ref (aL X 9)), (1, .ref (aL X 32)), (2, .int t), (3, .int x2), (4, .int (1 : Int32))] dX1_finish_106 (by decide) rfl ?_
                have L108 : ∀ (n108 : Nat) (x127 : Int32) (g128 : Mem), (3 - x127.toInt).toNat < n108 → Inv g128 → Kp [9, 10, 11, 12, 33] g g128 → 0 ≤ x127.toInt ∧ x127.toInt ≤ 2 → Wm X p l e (rmD 2) s m ([.ref (aL X 9), .ref (aL X 32), .int t] : List Value).toArray below meth c 6 0 0 (MQ below (cQ X (pV (fun g2 => Inv g2 ∧ Kp [9, 10, 11, 12, 33] g g2))) ([.ref (aL X 9), .ref (aL X 32), .int t] : List Value).toArray s 0 0 (Ab X)) g128 108 [(0, .ref (aL X 9)), (1, .ref (aL X 32)), (2, .int t), (3, .int x2), (4, .int (1 : Int32)), (5, .int x127)] [] := by
                  intro n108
                  induction n108 with
                  | zero => intro x127 g128 hm; exact absurd hm (Nat.not_lt_zero _)
                  | succ n108 ih108 =>
                    intro x127 g128 hm108 hI129 hK130 i131
                    try obtain ⟨i131a, i131b⟩ := i131
                    refine m_iload C dX1_finish_108 5 rfl ?_
                    refine m_iload C dX1_finish_110 4 rfl ?_
                    refine m_icmp_ge C 131 dX1_finish_112 (by decide) (fun h132 => ?_) (fun h132 => ?_)
                    · skip
                      have th132 := i_le h132
                      rw [show (1 : Int32).toInt = 1 by decide] at th132
                      refine m_iconst C (0 : Int32) dX1_finish_131 (by decide) ?_
                      refine m_istore C [(5, .int (0 : Int32)), (0, .ref (aL X 9)), (1, .ref (aL X 32)), (2, .int t), (3, .int x2), (4, .int (1 : Int32))] dX1_finish_132 (by decide) rfl ?_
                      have L134 : ∀ (n134 : Nat) (x134 : Int32) (g135 : Mem), (9 - x134.toInt).toNat < n134 → Inv g135 → Kp [9, 10, 11, 12, 33] g g135 → 0 ≤ x134.toInt ∧ x134.toInt ≤ 8 → Wm X p l e (rmD 2) s m ([.ref (aL X 9), .ref (aL X 32), .int t] : List Value).toArray below meth c 6 0 0 (MQ below (cQ X (pV (fun g2 => Inv g2 ∧ Kp [9, 10, 11, 12, 33] g g2))) ([.ref (aL X 9), .ref (aL X 32), .int t] : List Value).toArray s 0 0 (Ab X)) g135 134 [(0, .ref (aL X 9)), (1, .ref (aL X 32)), (2, .int t), (3, .int x2), (4, .int (1 : Int32)), (5, .int x134)] [] := by
                        intro n134
                        induction n134 with
                        | zero => intro x134 g135 hm; exact absurd hm (Nat.not_lt_zero _)
                        | succ n134 ih134 =>
                          intro x134 g135 hm134 hI136 hK137 i138
                          try obtain ⟨i138a, i138b⟩ := i138
                          refine m_iload C dX1_finish_134 5 rfl ?_
                          refine m_bipush C (8 : Int32) dX1_finish_136 (by decide) ?_
                          refine m_icmp_ge C 166 dX1_finish_138 (by decide) (fun h139 => ?_) (fun h139 => ?_)
                          · skip
                            have th139 := i_le h139
                            rw [show (8 : Int32).toInt = 8 by decide] at th139
                            exact m_vret C dX1_finish_166 ⟨rfl, hI136, hK137⟩
                          · skip
                            have th139 := i_nle h139
                            rw [show (8 : Int32).toInt = 8 by decide] at th139
                            refine m_aload_n C dX1_finish_141 1 rfl ?_
                            refine m_getrN (rf := "") C 0 rfl gd2 (by decide) sh_32 rfl dX1_finish_142 lk_X1_54 ?_
                            refine m_iload_n C dX1_finish_145 2 rfl ?_
                            refine m_bipush C (8 : Int32) dX1_finish_146 (by decide) ?_
                            refine m_imul C dX1_finish_148 ?_
                            refine m_iload C dX1_finish_149 5 rfl ?_
                            refine m_iadd C dX1_finish_151 ?_
                            refine m_aload_n C dX1_finish_152 0 rfl ?_
                            refine m_getr (rf := "") C 2 rfl gd1 (by decide) sh_9 rfl dX1_finish_153 lk_X1_18 ?_
                            refine m_iload C dX1_finish_156 5 rfl ?_
                            refine m_iald C sh_12 (i_in (by omega) (by omega)) dX1_finish_158 ?_
                            have t140 : (t * (8 : Int32)).toInt = t.toInt * (8 : Int) := i_mul rfl (by decide) (by omega) (by omega)
                            have t141 : ((t * (8 : Int32)) + x134).toInt = (t.toInt * (8 : Int)) + x134.toInt := i_add t140 rfl (by omega) (by omega)
                            refine m_iast C sh_33 (i_in (by omega) (by omega)) dX1_finish_159 ?_
                            refine m_mem (fun g142 eg142 => ?_)
                            have hI143 : Inv g142 := by rw [eg142]; exact hI136.up (ok_any (by decide))
                            have hK144 : Kp [9, 10, 11, 12, 33] g g142 := by rw [eg142]; exact Kp.up hK137 (by decide) (Or.inl (by decide)) (Or.inl (by decide))
                            obtain ⟨x145, ex145⟩ : ∃ z : Int32, z = x134 + Int32.ofInt 1 := ⟨_, rfl⟩
                            have t146 : (x134 + (Int32.ofInt 1)).toInt = x134.toInt + (1 : Int) := i_add rfl (by decide) (by omega) (by omega)
                            have t147 : x145.toInt = (x134.toInt + (1 : Int)) := (congrArg Int32.toInt ex145).trans t146
                            refine m_iinc C x145 [(5, .int x145), (0, .ref (aL X 9)), (1, .ref (aL X 32)), (2, .int t), (3, .int x2), (4, .int (1 : Int32))] dX1_finish_160 (q := 5) rfl ex145.symm (by decide) rfl ?_
                            refine m_goto C 134 dX1_finish_163 (by decide) ?_
                            refine m_lv [1, 2, 3, 4, 5, 0] rfl ?_
                            exact ih134 x145 g142 (by omega) hI143 hK144 (by omega)
                      have t148 : (0 : Int32).toInt = 0 := by decide
                      refine m_lv [1, 2, 3, 4, 5, 0] rfl ?_
                      exact L134 (((9 - (0 : Int32).toInt).toNat) + 1) (0 : Int32) g128 (Nat.lt_succ_self _) hI129 hK130 (by omega)
                    · skip
                      have th132 := i_nle h132
                      rw [show (1 : Int32).toInt = 1 by decide] at th132
                      refine m_aload_n C dX1_finish_115 0 rfl ?_
                      refine m_iload C dX1_finish_116 5 rfl ?_
                      refine m_invV C cal_X1_spread sh_9 rfl (c_X1_spread l hX g128 x127 hI129 (by omega)) lk_X1_48 im_X1_spread se_X1_spread (by decide) rfl rfl (Nat.le_of_ble_eq_true rfl) dX1_finish_118 ⟨Nat.le_refl _, Nat.le_refl _⟩ (rV fun g150 q151 => ?_)
                      obtain ⟨hI152, hK153⟩ := q151
                      have hK154 : Kp [9, 10, 11, 12, 33] g g150 := (hK130).tr hK153 (by decide)
                      refine m_aload_n C dX1_finish_121 0 rfl ?_
                      refine m_invV C cal_X1_mix sh_9 rfl (c_X1_mix l hX g150  hI152) lk_X1_51 im_X1_mix se_X1_mix (by decide) rfl rfl (Nat.le_of_ble_eq_true rfl) dX1_finish_122 ⟨Nat.le_refl _, Nat.le_refl _⟩ (rV fun g156 q157 => ?_)
                      obtain ⟨hI158, hK159⟩ := q157
                      have hK160 : Kp [9, 10, 11, 12, 33] g g156 := (hK154).tr hK159 (by decide)
                      obtain ⟨x161, ex161⟩ : ∃ z : Int32, z = x127 + Int32.ofInt 1 := ⟨_, rfl⟩
                      have t162 : (x127 + (Int32.ofInt 1)).toInt = x127.toInt + (1 : Int) := i_add rfl (by decide) (by omega) (by omega)
                      have t163 : x161.toInt = (x127.toInt + (1 : Int)) := (congrArg Int32.toInt ex161).trans t162
                      refine m_iinc C x161 [(5, .int x161), (0, .ref (aL X 9)), (1, .ref (aL X 32)), (2, .int t), (3, .int x2), (4, .int (1 : Int32))] dX1_finish_125 (q := 5) rfl ex161.symm (by decide) rfl ?_
                      refine m_goto C 108 dX1_finish_128 (by decide) ?_
                      refine m_lv [1, 2, 3, 4, 5, 0] rfl ?_
                      exact ih108 x161 g156 (by omega) hI158 hK160 (by omega)
                have t164 : (0 : Int32).toInt = 0 := by decide
                refine m_lv [1, 2, 3, 4, 5, 0] rfl ?_
                exact L108 (((3 - (0 : Int32).toInt).toNat) + 1) (0 : Int32) g121 (Nat.lt_succ_self _) hI122 hK123 (by omega)
              · skip
                have th125 := i_nle h125
                rw [show (8 : Int32).toInt = 8 by decide] at th125
                refine m_aload_n C dX1_finish_86 0 rfl ?_
                refine m_getr (rf := "") C 2 rfl gd1 (by decide) sh_9 rfl dX1_finish_87 lk_X1_18 ?_
                refine m_iload C dX1_finish_90 5 rfl ?_
                refine m_statS (host := "AuditVault") C dX1_finish_92 (by decide +kernel) ?_
                refine m_iload C dX1_finish_95 5 rfl ?_
                refine m_tldS C (i_in (by omega) (by omega)) dX1_finish_97 ?_
                refine m_iast C sh_12 (i_in (by omega) (by omega)) dX1_finish_98 ?_
                refine m_mem (fun g165 eg165 => ?_)
                have hI166 : Inv g165 := by rw [eg165]; exact hI122.up (ok_any (by decide))
                have hK167 : Kp [9, 10, 11, 12, 33] g g165 := by rw [eg165]; exact Kp.up hK123 (by decide) (Or.inl (by decide)) (Or.inl (by decide))
                obtain ⟨x168, ex168⟩ : ∃ z : Int32, z = x120 + Int32.ofInt 1 := ⟨_, rfl⟩
                have t169 : (x120 + (Int32.ofInt 1)).toInt = x120.toInt + (1 : Int) := i_add rfl (by decide) (by omega) (by omega)
                have t170 : x168.toInt = (x120.toInt + (1 : Int)) := (congrArg Int32.toInt ex168).trans t169
                refine m_iinc C x168 [(5, .int x168), (0, .ref (aL X 9)), (1, .ref (aL X 32)), (2, .int t), (3, .int x2), (4, .int (1 : Int32))] dX1_finish_99 (q := 5) rfl ex168.symm (by decide) rfl ?_
                refine m_goto C 79 dX1_finish_102 (by decide) ?_
                refine m_lv [1, 2, 3, 4, 5, 0] rfl ?_
                exact ih79 x168 g165 (by omega) hI166 hK167 (by omega)
          have t171 : (0 : Int32).toInt = 0 := by decide
          refine m_lv [1, 2, 3, 4, 5, 0] rfl ?_
          exact L79 (((9 - (0 : Int32).toInt).toNat) + 1) (0 : Int32) g116 (Nat.lt_succ_self _) hI117 hK118 (by omega)
        · skip
          have th113 := i_nle h113
          refine m_aload_n C dX1_finish_52 0 rfl ?_
          refine m_iconst C (0 : Int32) dX1_finish_53 (by decide) ?_
          have t172 : (0 : Int32).toInt = 0 := by decide
          refine m_invV C cal_X1_add sh_9 rfl (c_X1_add l hX g107 (0 : Int32) hI108) lk_X1_31 im_X1_add se_X1_add (by decide) rfl rfl (Nat.le_of_ble_eq_true rfl) dX1_finish_54 ⟨Nat.le_refl _, Nat.le_refl _⟩ (rV fun g174 q175 => ?_)
          obtain ⟨hI176, hK177⟩ := q175
          have hK178 : Kp [9, 10, 11, 12, 33] g g174 := (hK109).tr hK177 (by decide)
          obtain ⟨x179, ex179⟩ : ∃ z : Int32, z = x106 + Int32.ofInt 1 := ⟨_, rfl⟩
          have t180 : (x106 + (Int32.ofInt 1)).toInt = x106.toInt + (1 : Int) := i_add rfl (by decide) (by omega) (by omega)
          have t181 : x179.toInt = (x106.toInt + (1 : Int)) := (congrArg Int32.toInt ex179).trans t180
          refine m_iinc C x179 [(5, .int x179), (0, .ref (aL X 9)), (1, .ref (aL X 32)), (2, .int t), (3, .int x2), (4, .int (1 : Int32))] dX1_finish_57 (q := 5) rfl ex179.symm (by decide) rfl ?_
          refine m_goto C 40 dX1_finish_60 (by decide) ?_
          refine m_lv [1, 2, 3, 4, 5, 0] rfl ?_
          exact ih40 x179 g174 (by omega) hI176 hK178 (by omega)
    refine m_lv [3, 4, 5, 2, 1, 0] rfl ?_
    exact L40 (((201 - x104.toInt).toNat) + 1) x104 g98 (Nat.lt_succ_self _) hI100 hK102 (by omega)
set_option maxRecDepth 20000 in
set_option maxHeartbeats 4000000 in
theorem c_X1_pairInto_14_14_14 (l : Launch) {X : XT} (hX : Lok X) (g : Mem) (x : Int32) (y : Int32) (t : Int32) (hI : Inv g) (h_x : 0 ≤ x.toInt ∧ x.toInt ≤ 126) (h_y : 0 ≤ y.toInt ∧ y.toInt ≤ 126) (h_t : 0 ≤ t.toInt ∧ t.toInt ≤ 126) : Ctr l X yX1_pairInto cX1_pairInto 7 none (rmD 3) [.ref (aL X 9), .ref (aL X 14), .int x, .ref (aL X 14), .int y, .ref (aL X 14), .int t] g (pV (fun g2 => Inv g2 ∧ Kp [9, 10, 11, 12, 15] g g2)) := by
  refine Ctr.of (lv := [(0, .ref (aL X 9)), (1, .ref (aL X 14)), (2, .int x), (3, .ref (aL X 14)), (4, .int y), (5, .ref (aL X 14)), (6, .int t)]) hX (by decide) rfl (Nat.le_of_ble_eq_true rfl) ?_
  intro p e s m below meth c C
  refine m_aload_n C dX1_pairInto_0 0 rfl ?_
  refine m_invV C cal_X1_begin sh_9 rfl (c_X1_begin l hX g  hI) lk_X1_35 im_X1_begin se_X1_begin (by decide) rfl rfl (Nat.le_of_ble_eq_true rfl) dX1_pairInto_1 ⟨Nat.le_refl _, Nat.le_refl _⟩ (rV fun g2 q3 => ?_)
  obtain ⟨hI4, hK5⟩ := q3
  have hK6 : Kp [9, 10, 11, 12, 15] g g2 := (Kp.rf).tr hK5 (by decide)
  refine m_aload_n C dX1_pairInto_4 0 rfl ?_
  refine m_iconst C (1 : Int32) dX1_pairInto_5 (by decide) ?_
  have t7 : (1 : Int32).toInt = 1 := by decide
  refine m_invV C cal_X1_add sh_9 rfl (c_X1_add l hX g2 (1 : Int32) hI4) lk_X1_31 im_X1_add se_X1_add (by decide) rfl rfl (Nat.le_of_ble_eq_true rfl) dX1_pairInto_6 ⟨Nat.le_refl _, Nat.le_refl _⟩ (rV fun g9 q10 => ?_)
  obtain ⟨hI11, hK12⟩ := q10
  have hK13 : Kp [9, 10, 11, 12, 15] g g9 := (hK6).tr hK12 (by decide)
  refine m_aload_n C dX1_pairInto_9 0 rfl ?_
  refine m_aload_n C dX1_pairInto_10 1 rfl ?_
  refine m_iload_n C dX1_pairInto_11 2 rfl ?_
  refine m_invV C cal_X1_addHash sh_9 rfl (c_X1_addHash_14 l hX g9 x hI11 (by omega)) lk_X1_38 im_X1_addHash se_X1_addHash (by decide) rfl rfl (Nat.le_of_ble_eq_true rfl) dX1_pairInto_12 ⟨Nat.le_refl _, Nat.le_refl _⟩ (rV fun g15 q16 => ?_)
  obtain ⟨hI17, hK18⟩ := q16
  have hK19 : Kp [9, 10, 11, 12, 15] g g15 := (hK13).tr hK18 (by decide)
  refine m_aload_n C dX1_pairInto_15 0 rfl ?_
  refine m_aload_n C dX1_pairInto_16 3 rfl ?_
  refine m_iload C dX1_pairInto_17 4 rfl ?_
  refine m_invV C cal_X1_addHash sh_9 rfl (c_X1_addHash_14 l hX g15 y hI17 (by omega)) lk_X1_38 im_X1_addHash se_X1_addHash (by decide) rfl rfl (Nat.le_of_ble_eq_true rfl) dX1_pairInto_19 ⟨Nat.le_refl _, Nat.le_refl _⟩ (rV fun g21 q22 => ?_)
  obtain ⟨hI23, hK24⟩ := q22
  have hK25 : Kp [9, 10, 11, 12, 15] g g21 := (hK19).tr hK24 (by decide)
  refine m_aload_n C dX1_pairInto_22 0 rfl ?_
  refine m_aload C dX1_pairInto_23 5 rfl ?_
  refine m_iload C dX1_pairInto_25 6 rfl ?_
  refine m_invV C cal_X1_finish sh_9 rfl (c_X1_finish_14 l hX g21 t hI23 (by omega)) lk_X1_42 im_X1_finish se_X1_finish (by decide) rfl rfl (Nat.le_of_ble_eq_true rfl) dX1_pairInto_27 ⟨Nat.le_refl _, Nat.le_refl _⟩ (rV fun g27 q28 => ?_)
  obtain ⟨hI29, hK30⟩ := q28
  have hK31 : Kp [9, 10, 11, 12, 15] g g27 := (hK25).tr hK30 (by decide)
  exact m_vret C dX1_pairInto_30 ⟨rfl, hI29, hK31⟩
set_option maxRecDepth 20000 in
set_option maxHeartbeats 4000000 in
theorem c_X1_pairInto_14_32_32 (l : Launch) {X : XT} (hX : Lok X) (g : Mem) (x : Int32) (y : Int32) (t : Int32) (hI : Inv g) (h_x : 0 ≤ x.toInt ∧ x.toInt ≤ 126) (h_y : 0 ≤ y.toInt ∧ y.toInt ≤ 0) (h_t : 0 ≤ t.toInt ∧ t.toInt ≤ 0) : Ctr l X yX1_pairInto cX1_pairInto 7 none (rmD 3) [.ref (aL X 9), .ref (aL X 14), .int x, .ref (aL X 32), .int y, .ref (aL X 32), .int t] g (pV (fun g2 => Inv g2 ∧ Kp [9, 10, 11, 12, 33] g g2)) := by
  refine Ctr.of (lv := [(0, .ref (aL X 9)), (1, .ref (aL X 14)), (2, .int x), (3, .ref (aL X 32)), (4, .int y), (5, .ref (aL X 32)), (6, .int t)]) hX (by decide) rfl (Nat.le_of_ble_eq_true rfl) ?_
  intro p e s m below meth c C
  refine m_aload_n C dX1_pairInto_0 0 rfl ?_
  refine m_invV C cal_X1_begin sh_9 rfl (c_X1_begin l hX g  hI) lk_X1_35 im_X1_begin se_X1_begin (by decide) rfl rfl (Nat.le_of_ble_eq_true rfl) dX1_pairInto_1 ⟨Nat.le_refl _, Nat.le_refl _⟩ (rV fun g2 q3 => ?_)
  obtain ⟨hI4, hK5⟩ := q3
  have hK6 : Kp [9, 10, 11, 12, 33] g g2 := (Kp.rf).tr hK5 (by decide)
  refine m_aload_n C dX1_pairInto_4 0 rfl ?_
  refine m_iconst C (1 : Int32) dX1_pairInto_5 (by decide) ?_
  have t7 : (1 : Int32).toInt = 1 := by decide
  refine m_invV C cal_X1_add sh_9 rfl (c_X1_add l hX g2 (1 : Int32) hI4) lk_X1_31 im_X1_add se_X1_add (by decide) rfl rfl (Nat.le_of_ble_eq_true rfl) dX1_pairInto_6 ⟨Nat.le_refl _, Nat.le_refl _⟩ (rV fun g9 q10 => ?_)
  obtain ⟨hI11, hK12⟩ := q10
  have hK13 : Kp [9, 10, 11, 12, 33] g g9 := (hK6).tr hK12 (by decide)
  refine m_aload_n C dX1_pairInto_9 0 rfl ?_
  refine m_aload_n C dX1_pairInto_10 1 rfl ?_
  refine m_iload_n C dX1_pairInto_11 2 rfl ?_
  refine m_invV C cal_X1_addHash sh_9 rfl (c_X1_addHash_14 l hX g9 x hI11 (by omega)) lk_X1_38 im_X1_addHash se_X1_addHash (by decide) rfl rfl (Nat.le_of_ble_eq_true rfl) dX1_pairInto_12 ⟨Nat.le_refl _, Nat.le_refl _⟩ (rV fun g15 q16 => ?_)
  obtain ⟨hI17, hK18⟩ := q16
  have hK19 : Kp [9, 10, 11, 12, 33] g g15 := (hK13).tr hK18 (by decide)
  refine m_aload_n C dX1_pairInto_15 0 rfl ?_
  refine m_aload_n C dX1_pairInto_16 3 rfl ?_
  refine m_iload C dX1_pairInto_17 4 rfl ?_
  refine m_invV C cal_X1_addHash sh_9 rfl (c_X1_addHash_32 l hX g15 y hI17 (by omega)) lk_X1_38 im_X1_addHash se_X1_addHash (by decide) rfl rfl (Nat.le_of_ble_eq_true rfl) dX1_pairInto_19 ⟨Nat.le_refl _, Nat.le_refl _⟩ (rV fun g21 q22 => ?_)
  obtain ⟨hI23, hK24⟩ := q22
  have hK25 : Kp [9, 10, 11, 12, 33] g g21 := (hK19).tr hK24 (by decide)
  refine m_aload_n C dX1_pairInto_22 0 rfl ?_
  refine m_aload C dX1_pairInto_23 5 rfl ?_
  refine m_iload C dX1_pairInto_25 6 rfl ?_
  refine m_invV C cal_X1_finish sh_9 rfl (c_X1_finish_32 l hX g21 t hI23 (by omega)) lk_X1_42 im_X1_finish se_X1_finish (by decide) rfl rfl (Nat.le_of_ble_eq_true rfl) dX1_pairInto_27 ⟨Nat.le_refl _, Nat.le_refl _⟩ (rV fun g27 q28 => ?_)
  obtain ⟨hI29, hK30⟩ := q28
  have hK31 : Kp [9, 10, 11, 12, 33] g g27 := (hK25).tr hK30 (by decide)
  exact m_vret C dX1_pairInto_30 ⟨rfl, hI29, hK31⟩
set_option maxRecDepth 20000 in
set_option maxHeartbeats 4000000 in
theorem c_X1_pairInto_14_21_21 (l : Launch) {X : XT} (hX : Lok X) (g : Mem) (x : Int32) (y : Int32) (t : Int32) (hI : Inv g) (h_x : 0 ≤ x.toInt ∧ x.toInt ≤ 126) (h_y : 0 ≤ y.toInt ∧ y.toInt ≤ 7) (h_t : 0 ≤ t.toInt ∧ t.toInt ≤ 7) : Ctr l X yX1_pairInto cX1_pairInto 7 none (rmD 3) [.ref (aL X 9), .ref (aL X 14), .int x, .ref (aL X 21), .int y, .ref (aL X 21), .int t] g (pV (fun g2 => Inv g2 ∧ Kp [9, 10, 11, 12, 22] g g2)) := by
  refine Ctr.of (lv := [(0, .ref (aL X 9)), (1, .ref (aL X 14)), (2, .int x), (3, .ref (aL X 21)), (4, .int y), (5, .ref (aL X 21)), (6, .int t)]) hX (by decide) rfl (Nat.le_of_ble_eq_true rfl) ?_
  intro p e s m below meth c C
  refine m_aload_n C dX1_pairInto_0 0 rfl ?_
  refine m_invV C cal_X1_begin sh_9 rfl (c_X1_begin l hX g  hI) lk_X1_35 im_X1_begin se_X1_begin (by decide) rfl rfl (Nat.le_of_ble_eq_true rfl) dX1_pairInto_1 ⟨Nat.le_refl _, Nat.le_refl _⟩ (rV fun g2 q3 => ?_)
  obtain ⟨hI4, hK5⟩ := q3
  have hK6 : Kp [9, 10, 11, 12, 22] g g2 := (Kp.rf).tr hK5 (by decide)
  refine m_aload_n C dX1_pairInto_4 0 rfl ?_
  refine m_iconst C (1 : Int32) dX1_pairInto_5 (by decide) ?_
  have t7 : (1 : Int32).toInt = 1 := by decide
  refine m_invV C cal_X1_add sh_9 rfl (c_X1_add l hX g2 (1 : Int32) hI4) lk_X1_31 im_X1_add se_X1_add (by decide) rfl rfl (Nat.le_of_ble_eq_true rfl) dX1_pairInto_6 ⟨Nat.le_refl _, Nat.le_refl _⟩ (rV fun g9 q10 => ?_)
  obtain ⟨hI11, hK12⟩ := q10
  have hK13 : Kp [9, 10, 11, 12, 22] g g9 := (hK6).tr hK12 (by decide)
  refine m_aload_n C dX1_pairInto_9 0 rfl ?_
  refine m_aload_n C dX1_pairInto_10 1 rfl ?_
  refine m_iload_n C dX1_pairInto_11 2 rfl ?_
  refine m_invV C cal_X1_addHash sh_9 rfl (c_X1_addHash_14 l hX g9 x hI11 (by omega)) lk_X1_38 im_X1_addHash se_X1_addHash (by decide) rfl rfl (Nat.le_of_ble_eq_true rfl) dX1_pairInto_12 ⟨Nat.le_refl _, Nat.le_refl _⟩ (rV fun g15 q16 => ?_)
  obtain ⟨hI17, hK18⟩ := q16
  have hK19 : Kp [9, 10, 11, 12, 22] g g15 := (hK13).tr hK18 (by decide)
  refine m_aload_n C dX1_pairInto_15 0 rfl ?_
  refine m_aload_n C dX1_pairInto_16 3 rfl ?_
  refine m_iload C dX1_pairInto_17 4 rfl ?_
  refine m_invV C cal_X1_addHash sh_9 rfl (c_X1_addHash_21 l hX g15 y hI17 (by omega)) lk_X1_38 im_X1_addHash se_X1_addHash (by decide) rfl rfl (Nat.le_of_ble_eq_true rfl) dX1_pairInto_19 ⟨Nat.le_refl _, Nat.le_refl _⟩ (rV fun g21 q22 => ?_)
  obtain ⟨hI23, hK24⟩ := q22
  have hK25 : Kp [9, 10, 11, 12, 22] g g21 := (hK19).tr hK24 (by decide)
  refine m_aload_n C dX1_pairInto_22 0 rfl ?_
  refine m_aload C dX1_pairInto_23 5 rfl ?_
  refine m_iload C dX1_pairInto_25 6 rfl ?_
  refine m_invV C cal_X1_finish sh_9 rfl (c_X1_finish_21 l hX g21 t hI23 (by omega)) lk_X1_42 im_X1_finish se_X1_finish (by decide) rfl rfl (Nat.le_of_ble_eq_true rfl) dX1_pairInto_27 ⟨Nat.le_refl _, Nat.le_refl _⟩ (rV fun g27 q28 => ?_)
  obtain ⟨hI29, hK30⟩ := q28
  have hK31 : Kp [9, 10, 11, 12, 22] g g27 := (hK25).tr hK30 (by decide)
  exact m_vret C dX1_pairInto_30 ⟨rfl, hI29, hK31⟩
set_option maxRecDepth 20000 in
set_option maxHeartbeats 4000000 in
theorem c_X1_pairInto_14_25_25 (l : Launch) {X : XT} (hX : Lok X) (g : Mem) (x : Int32) (y : Int32) (t : Int32) (hI : Inv g) (h_x : 0 ≤ x.toInt ∧ x.toInt ≤ 126) (h_y : 0 ≤ y.toInt ∧ y.toInt ≤ 3) (h_t : 0 ≤ t.toInt ∧ t.toInt ≤ 3) : Ctr l X yX1_pairInto cX1_pairInto 7 none (rmD 3) [.ref (aL X 9), .ref (aL X 14), .int x, .ref (aL X 25), .int y, .ref (aL X 25), .int t] g (pV (fun g2 => Inv g2 ∧ Kp [9, 10, 11, 12, 26] g g2)) := by
  refine Ctr.of (lv := [(0, .ref (aL X 9)), (1, .ref (aL X 14)), (2, .int x), (3, .ref (aL X 25)), (4, .int y), (5, .ref (aL X 25)), (6, .int t)]) hX (by decide) rfl (Nat.le_of_ble_eq_true rfl) ?_
  intro p e s m below meth c C
  refine m_aload_n C dX1_pairInto_0 0 rfl ?_
  refine m_invV C cal_X1_begin sh_9 rfl (c_X1_begin l hX g  hI) lk_X1_35 im_X1_begin se_X1_begin (by decide) rfl rfl (Nat.le_of_ble_eq_true rfl) dX1_pairInto_1 ⟨Nat.le_refl _, Nat.le_refl _⟩ (rV fun g2 q3 => ?_)
  obtain ⟨hI4, hK5⟩ := q3
  have hK6 : Kp [9, 10, 11, 12, 26] g g2 := (Kp.rf).tr hK5 (by decide)
  refine m_aload_n C dX1_pairInto_4 0 rfl ?_
  refine m_iconst C (1 : Int32) dX1_pairInto_5 (by decide) ?_
  have t7 : (1 : Int32).toInt = 1 := by decide
  refine m_invV C cal_X1_add sh_9 rfl (c_X1_add l hX g2 (1 : Int32) hI4) lk_X1_31 im_X1_add se_X1_add (by decide) rfl rfl (Nat.le_of_ble_eq_true rfl) dX1_pairInto_6 ⟨Nat.le_refl _, Nat.le_refl _⟩ (rV fun g9 q10 => ?_)
  obtain ⟨hI11, hK12⟩ := q10
  have hK13 : Kp [9, 10, 11, 12, 26] g g9 := (hK6).tr hK12 (by decide)
  refine m_aload_n C dX1_pairInto_9 0 rfl ?_
  refine m_aload_n C dX1_pairInto_10 1 rfl ?_
  refine m_iload_n C dX1_pairInto_11 2 rfl ?_
  refine m_invV C cal_X1_addHash sh_9 rfl (c_X1_addHash_14 l hX g9 x hI11 (by omega)) lk_X1_38 im_X1_addHash se_X1_addHash (by decide) rfl rfl (Nat.le_of_ble_eq_true rfl) dX1_pairInto_12 ⟨Nat.le_refl _, Nat.le_refl _⟩ (rV fun g15 q16 => ?_)
  obtain ⟨hI17, hK18⟩ := q16
  have hK19 : Kp [9, 10, 11, 12, 26] g g15 := (hK13).tr hK18 (by decide)
  refine m_aload_n C dX1_pairInto_15 0 rfl ?_
  refine m_aload_n C dX1_pairInto_16 3 rfl ?_
  refine m_iload C dX1_pairInto_17 4 rfl ?_
  refine m_invV C cal_X1_addHash sh_9 rfl (c_X1_addHash_25 l hX g15 y hI17 (by omega)) lk_X1_38 im_X1_addHash se_X1_addHash (by decide) rfl rfl (Nat.le_of_ble_eq_true rfl) dX1_pairInto_19 ⟨Nat.le_refl _, Nat.le_refl _⟩ (rV fun g21 q22 => ?_)
  obtain ⟨hI23, hK24⟩ := q22
  have hK25 : Kp [9, 10, 11, 12, 26] g g21 := (hK19).tr hK24 (by decide)
  refine m_aload_n C dX1_pairInto_22 0 rfl ?_
  refine m_aload C dX1_pairInto_23 5 rfl ?_
  refine m_iload C dX1_pairInto_25 6 rfl ?_
  refine m_invV C cal_X1_finish sh_9 rfl (c_X1_finish_25 l hX g21 t hI23 (by omega)) lk_X1_42 im_X1_finish se_X1_finish (by decide) rfl rfl (Nat.le_of_ble_eq_true rfl) dX1_pairInto_27 ⟨Nat.le_refl _, Nat.le_refl _⟩ (rV fun g27 q28 => ?_)
  obtain ⟨hI29, hK30⟩ := q28
  have hK31 : Kp [9, 10, 11, 12, 26] g g27 := (hK25).tr hK30 (by decide)
  exact m_vret C dX1_pairInto_30 ⟨rfl, hI29, hK31⟩
set_option maxRecDepth 20000 in
set_option maxHeartbeats 4000000 in
theorem c_X1_pairInto_21_28_28 (l : Launch) {X : XT} (hX : Lok X) (g : Mem) (x : Int32) (y : Int32) (t : Int32) (hI : Inv g) (h_x : 0 ≤ x.toInt ∧ x.toInt ≤ 7) (h_y : 0 ≤ y.toInt ∧ y.toInt ≤ 1) (h_t : 0 ≤ t.toInt ∧ t.toInt ≤ 1) : Ctr l X yX1_pairInto cX1_pairInto 7 none (rmD 3) [.ref (aL X 9), .ref (aL X 21), .int x, .ref (aL X 28), .int y, .ref (aL X 28), .int t] g (pV (fun g2 => Inv g2 ∧ Kp [9, 10, 11, 12, 29] g g2)) := by
  refine Ctr.of (lv := [(0, .ref (aL X 9)), (1, .ref (aL X 21)), (2, .int x), (3, .ref (aL X 28)), (4, .int y), (5, .ref (aL X 28)), (6, .int t)]) hX (by decide) rfl (Nat.le_of_ble_eq_true rfl) ?_
  intro p e s m below meth c C
  refine m_aload_n C dX1_pairInto_0 0 rfl ?_
  refine m_invV C cal_X1_begin sh_9 rfl (c_X1_begin l hX g  hI) lk_X1_35 im_X1_begin se_X1_begin (by decide) rfl rfl (Nat.le_of_ble_eq_true rfl) dX1_pairInto_1 ⟨Nat.le_refl _, Nat.le_refl _⟩ (rV fun g2 q3 => ?_)
  obtain ⟨hI4, hK5⟩ := q3
  have hK6 : Kp [9, 10, 11, 12, 29] g g2 := (Kp.rf).tr hK5 (by decide)
  refine m_aload_n C dX1_pairInto_4 0 rfl ?_
  refine m_iconst C (1 : Int32) dX1_pairInto_5 (by decide) ?_
  have t7 : (1 : Int32).toInt = 1 := by decide
  refine m_invV C cal_X1_add sh_9 rfl (c_X1_add l hX g2 (1 : Int32) hI4) lk_X1_31 im_X1_add se_X1_add (by decide) rfl rfl (Nat.le_of_ble_eq_true rfl) dX1_pairInto_6 ⟨Nat.le_refl _, Nat.le_refl _⟩ (rV fun g9 q10 => ?_)
  obtain ⟨hI11, hK12⟩ := q10
  have hK13 : Kp [9, 10, 11, 12, 29] g g9 := (hK6).tr hK12 (by decide)
  refine m_aload_n C dX1_pairInto_9 0 rfl ?_
  refine m_aload_n C dX1_pairInto_10 1 rfl ?_
  refine m_iload_n C dX1_pairInto_11 2 rfl ?_
  refine m_invV C cal_X1_addHash sh_9 rfl (c_X1_addHash_21 l hX g9 x hI11 (by omega)) lk_X1_38 im_X1_addHash se_X1_addHash (by decide) rfl rfl (Nat.le_of_ble_eq_true rfl) dX1_pairInto_12 ⟨Nat.le_refl _, Nat.le_refl _⟩ (rV fun g15 q16 => ?_)
  obtain ⟨hI17, hK18⟩ := q16
  have hK19 : Kp [9, 10, 11, 12, 29] g g15 := (hK13).tr hK18 (by decide)
  refine m_aload_n C dX1_pairInto_15 0 rfl ?_
  refine m_aload_n C dX1_pairInto_16 3 rfl ?_
  refine m_iload C dX1_pairInto_17 4 rfl ?_
  refine m_invV C cal_X1_addHash sh_9 rfl (c_X1_addHash_28 l hX g15 y hI17 (by omega)) lk_X1_38 im_X1_addHash se_X1_addHash (by decide) rfl rfl (Nat.le_of_ble_eq_true rfl) dX1_pairInto_19 ⟨Nat.le_refl _, Nat.le_refl _⟩ (rV fun g21 q22 => ?_)
  obtain ⟨hI23, hK24⟩ := q22
  have hK25 : Kp [9, 10, 11, 12, 29] g g21 := (hK19).tr hK24 (by decide)
  refine m_aload_n C dX1_pairInto_22 0 rfl ?_
  refine m_aload C dX1_pairInto_23 5 rfl ?_
  refine m_iload C dX1_pairInto_25 6 rfl ?_
  refine m_invV C cal_X1_finish sh_9 rfl (c_X1_finish_28 l hX g21 t hI23 (by omega)) lk_X1_42 im_X1_finish se_X1_finish (by decide) rfl rfl (Nat.le_of_ble_eq_true rfl) dX1_pairInto_27 ⟨Nat.le_refl _, Nat.le_refl _⟩ (rV fun g27 q28 => ?_)
  obtain ⟨hI29, hK30⟩ := q28
  have hK31 : Kp [9, 10, 11, 12, 29] g g27 := (hK25).tr hK30 (by decide)
  exact m_vret C dX1_pairInto_30 ⟨rfl, hI29, hK31⟩
set_option maxRecDepth 20000 in
set_option maxHeartbeats 4000000 in
theorem c_X1_pairInto_28_21_28 (l : Launch) {X : XT} (hX : Lok X) (g : Mem) (x : Int32) (y : Int32) (t : Int32) (hI : Inv g) (h_x : 0 ≤ x.toInt ∧ x.toInt ≤ 1) (h_y : 0 ≤ y.toInt ∧ y.toInt ≤ 7) (h_t : 0 ≤ t.toInt ∧ t.toInt ≤ 1) : Ctr l X yX1_pairInto cX1_pairInto 7 none (rmD 3) [.ref (aL X 9), .ref (aL X 28), .int x, .ref (aL X 21), .int y, .ref (aL X 28), .int t] g (pV (fun g2 => Inv g2 ∧ Kp [9, 10, 11, 12, 29] g g2)) := by
  refine Ctr.of (lv := [(0, .ref (aL X 9)), (1, .ref (aL X 28)), (2, .int x), (3, .ref (aL X 21)), (4, .int y), (5, .ref (aL X 28)), (6, .int t)]) hX (by decide) rfl (Nat.le_of_ble_eq_true rfl) ?_
  intro p e s m below meth c C
  refine m_aload_n C dX1_pairInto_0 0 rfl ?_
  refine m_invV C cal_X1_begin sh_9 rfl (c_X1_begin l hX g  hI) lk_X1_35 im_X1_begin se_X1_begin (by decide) rfl rfl (Nat.le_of_ble_eq_true rfl) dX1_pairInto_1 ⟨Nat.le_refl _, Nat.le_refl _⟩ (rV fun g2 q3 => ?_)
  obtain ⟨hI4, hK5⟩ := q3
  have hK6 : Kp [9, 10, 11, 12, 29] g g2 := (Kp.rf).tr hK5 (by decide)
  refine m_aload_n C dX1_pairInto_4 0 rfl ?_
  refine m_iconst C (1 : Int32) dX1_pairInto_5 (by decide) ?_
  have t7 : (1 : Int32).toInt = 1 := by decide
  refine m_invV C cal_X1_add sh_9 rfl (c_X1_add l hX g2 (1 : Int32) hI4) lk_X1_31 im_X1_add se_X1_add (by decide) rfl rfl (Nat.le_of_ble_eq_true rfl) dX1_pairInto_6 ⟨Nat.le_refl _, Nat.le_refl _⟩ (rV fun g9 q10 => ?_)
  obtain ⟨hI11, hK12⟩ := q10
  have hK13 : Kp [9, 10, 11, 12, 29] g g9 := (hK6).tr hK12 (by decide)
  refine m_aload_n C dX1_pairInto_9 0 rfl ?_
  refine m_aload_n C dX1_pairInto_10 1 rfl ?_
  refine m_iload_n C dX1_pairInto_11 2 rfl ?_
  refine m_invV C cal_X1_addHash sh_9 rfl (c_X1_addHash_28 l hX g9 x hI11 (by omega)) lk_X1_38 im_X1_addHash se_X1_addHash (by decide) rfl rfl (Nat.le_of_ble_eq_true rfl) dX1_pairInto_12 ⟨Nat.le_refl _, Nat.le_refl _⟩ (rV fun g15 q16 => ?_)
  obtain ⟨hI17, hK18⟩ := q16
  have hK19 : Kp [9, 10, 11, 12, 29] g g15 := (hK13).tr hK18 (by decide)
  refine m_aload_n C dX1_pairInto_15 0 rfl ?_
  refine m_aload_n C dX1_pairInto_16 3 rfl ?_
  refine m_iload C dX1_pairInto_17 4 rfl ?_
  refine m_invV C cal_X1_addHash sh_9 rfl (c_X1_addHash_21 l hX g15 y hI17 (by omega)) lk_X1_38 im_X1_addHash se_X1_addHash (by decide) rfl rfl (Nat.le_of_ble_eq_true rfl) dX1_pairInto_19 ⟨Nat.le_refl _, Nat.le_refl _⟩ (rV fun g21 q22 => ?_)
  obtain ⟨hI23, hK24⟩ := q22
  have hK25 : Kp [9, 10, 11, 12, 29] g g21 := (hK19).tr hK24 (by decide)
  refine m_aload_n C dX1_pairInto_22 0 rfl ?_
  refine m_aload C dX1_pairInto_23 5 rfl ?_
  refine m_iload C dX1_pairInto_25 6 rfl ?_
  refine m_invV C cal_X1_finish sh_9 rfl (c_X1_finish_28 l hX g21 t hI23 (by omega)) lk_X1_42 im_X1_finish se_X1_finish (by decide) rfl rfl (Nat.le_of_ble_eq_true rfl) dX1_pairInto_27 ⟨Nat.le_refl _, Nat.le_refl _⟩ (rV fun g27 q28 => ?_)
  obtain ⟨hI29, hK30⟩ := q28
  have hK31 : Kp [9, 10, 11, 12, 29] g g27 := (hK25).tr hK30 (by decide)
  exact m_vret C dX1_pairInto_30 ⟨rfl, hI29, hK31⟩
set_option maxRecDepth 20000 in
set_option maxHeartbeats 4000000 in
theorem c_X0_clearFrom (l : Launch) {X : XT} (hX : Lok X) (g : Mem) (i0 : Int32) (hI : Inv g) (h0 : 0 ≤ i0.toInt) : Ctr l X yX0_clearFrom cX0_clearFrom 3 none (rmD 0) [.ref (aL X 30), .int i0] g (pV (fun g2 => Inv g2 ∧ Kp [31] g g2)) := by
  refine Ctr.of (lv := [(0, .ref (aL X 30)), (1, .int i0)]) hX (by decide) rfl (Nat.le_of_ble_eq_true rfl) ?_
  intro p e s m below meth c C
  refine m_iload_n C dX0_clearFrom_0 1 rfl ?_
  refine m_istore_n C [(2, .int i0), (0, .ref (aL X 30)), (1, .int i0)] dX0_clearFrom_1 (by decide) rfl ?_
  have L2 : ∀ (n2 : Nat) (x2 : Int32) (g3 : Mem), (1020 - x2.toInt).toNat < n2 → Inv g3 → Kp [31] g g3 → 0 ≤ x2.toInt → Wm X p l e (rmD 0) s m ([.ref (aL X 30), .int i0] : List Value).toArray below meth c 3 0 0 (MQ below (cQ X (pV (fun g2 => Inv g2 ∧ Kp [31] g g2))) ([.ref (aL X 30), .int i0] : List Value).toArray s 0 0 (Ab X)) g3 2 [(0, .ref (aL X 30)), (1, .int i0), (2, .int x2)] [] := by
    intro n2
    induction n2 with
    | zero => intro x2 g3 hm; exact absurd hm (Nat.not_lt_zero _)
    | succ n2 ih2 =>
      intro x2 g3 hm2 hI4 hK5 i6
      try obtain ⟨i6a, i6b⟩ := i6
      refine m_iload_n C dX0_clearFrom_2 2 rfl ?_
      refine m_sipush C (1020 : Int32) dX0_clearFrom_3 (by decide) ?_
      refine m_icmp_ge C 22 dX0_clearFrom_6 (by decide) (fun h7 => ?_) (fun h7 => ?_)
      · skip
        have th7 := i_le h7
        rw [show (1020 : Int32).toInt = 1020 by decide] at th7
        exact m_vret C dX0_clearFrom_22 ⟨rfl, hI4, hK5⟩
      · skip
        have th7 := i_nle h7
        rw [show (1020 : Int32).toInt = 1020 by decide] at th7
        refine m_aload_n C dX0_clearFrom_9 0 rfl ?_
        refine m_getr (rf := "") C 0 rfl gd0 (by decide) sh_30 rfl dX0_clearFrom_10 lk_X0_9 ?_
        refine m_iload_n C dX0_clearFrom_13 2 rfl ?_
        refine m_iconst C (0 : Int32) dX0_clearFrom_14 (by decide) ?_
        refine m_iast C sh_31 (i_in (by omega) (by omega)) dX0_clearFrom_15 ?_
        refine m_mem (fun g8 eg8 => ?_)
        have hI9 : Inv g8 := by rw [eg8]; exact hI4.up (ok_any (by decide))
        have hK10 : Kp [31] g g8 := by rw [eg8]; exact Kp.up hK5 (by decide) (Or.inl (by decide)) (Or.inl (by decide))
        obtain ⟨x11, ex11⟩ : ∃ z : Int32, z = x2 + Int32.ofInt 1 := ⟨_, rfl⟩
        have t12 : (x2 + (Int32.ofInt 1)).toInt = x2.toInt + (1 : Int) := i_add rfl (by decide) (by omega) (by omega)
        have t13 : x11.toInt = (x2.toInt + (1 : Int)) := (congrArg Int32.toInt ex11).trans t12
        refine m_iinc C x11 [(2, .int x11), (0, .ref (aL X 30)), (1, .int i0)] dX0_clearFrom_16 (q := 2) rfl ex11.symm (by decide) rfl ?_
        refine m_goto C 2 dX0_clearFrom_19 (by decide) ?_
        refine m_lv [1, 2, 0] rfl ?_
        exact ih2 x11 g8 (by omega) hI9 hK10 (by omega)
  refine m_lv [1, 2, 0] rfl ?_
  exact L2 (((1020 - i0.toInt).toNat) + 1) i0 g (Nat.lt_succ_self _) hI Kp.rf (by omega)
set_option maxRecDepth 20000 in
set_option maxHeartbeats 4000000 in
theorem c_X0_losePower (l : Launch) {X : XT} (hX : Lok X) (g : Mem) (k : Int32) (hI : Inv g) (h_k : 0 ≤ k.toInt ∧ k.toInt ≤ 1020) : Ctr l X yX0_losePower cX0_losePower 2 none (rmD 1) [.ref (aL X 30), .int k] g (pV (fun g2 => Inv g2 ∧ Kp [30, 31] g g2)) := by
  refine Ctr.of (lv := [(0, .ref (aL X 30)), (1, .int k)]) hX (by decide) rfl (Nat.le_of_ble_eq_true rfl) ?_
  intro p e s m below meth c C
  refine m_aload_n C dX0_losePower_0 0 rfl ?_
  refine m_aload_n C dX0_losePower_1 0 rfl ?_
  refine m_geti (rf := "") C 2 rfl gd0 (by decide) sh_30 rfl dX0_losePower_2 lk_X0_19 ?_
  have r1 := iv_safe hI
  refine m_iload_n C dX0_losePower_5 1 rfl ?_
  refine m_iadd C dX0_losePower_6 ?_
  have t2 : ((g 30 2) + k).toInt = (g 30 2).toInt + k.toInt := i_add rfl rfl (by omega) (by omega)
  refine m_invV C cal_X0_clearFrom sh_30 rfl (c_X0_clearFrom l hX g ((g 30 2) + k) hI (by omega)) lk_X0_28 im_X0_clearFrom se_X0_clearFrom (by decide) rfl rfl (Nat.le_of_ble_eq_true rfl) dX0_losePower_7 ⟨Nat.le_refl _, Nat.le_refl _⟩ (rV fun g4 q5 => ?_)
  obtain ⟨hI6, hK7⟩ := q5
  have ev8 : g4 30 2 = g 30 2 := congrFun (hK7.1 30 (by decide)) 2
  have tev8 := congrArg Int32.toInt ev8
  have hK9 : Kp [30, 31] g g4 := (Kp.rf).tr hK7 (by decide)
  refine m_aload_n C dX0_losePower_10 0 rfl ?_
  refine m_aload_n C dX0_losePower_11 0 rfl ?_
  refine m_geti (rf := "") C 1 rfl gd0 (by decide) sh_30 rfl dX0_losePower_12 lk_X0_15 ?_
  have r10 := iv_wrt hI6
  refine m_aload_n C dX0_losePower_15 0 rfl ?_
  refine m_geti (rf := "") C 2 rfl gd0 (by decide) sh_30 rfl dX0_losePower_16 lk_X0_19 ?_
  have r11 := iv_safe hI6
  refine m_iload_n C dX0_losePower_19 1 rfl ?_
  refine m_iadd C dX0_losePower_20 ?_
  refine m_min C dX0_losePower_21 (gtbl_of (by decide +kernel) (by decide +kernel)) ⟨Nat.le_of_ble_eq_true rfl, Nat.le_of_ble_eq_true rfl⟩ ⟨Nat.le_refl _, Nat.le_refl _⟩ ?_
  refine m_name (fun x12 ex12 => ?_)
  have t13 : ((g4 30 2) + k).toInt = (g4 30 2).toInt + k.toInt := i_add rfl rfl (by omega) (by omega)
  have tx12 := i_min ex12
  refine m_put (rf := "") C 1 rfl gd0 (by decide) tyX0 tyX0_ok nmX0 rfl (tyX0_ok 1 (by decide)) rfl rfl sh_30 rfl dX0_losePower_24 lk_X0_15 ?_
  refine m_mem (fun g14 eg14 => ?_)
  have hI15 : Inv g14 := by rw [eg14]; exact hI6.up (ok_wrt (by omega) (by omega))
  have hK16 : Kp [30, 31] g g14 := by rw [eg14]; exact Kp.up hK9 (by decide) (Or.inl (by decide)) (Or.inl (by decide))
  have ev17 : g14 30 2 = g4 30 2 := by rw [eg14]; exact up2_nei (Or.inr (by decide))
  have tev17 := congrArg Int32.toInt ev17
  exact m_vret C dX0_losePower_27 ⟨rfl, hI15, hK16⟩
set_option maxRecDepth 20000 in
set_option maxHeartbeats 4000000 in
theorem c_X0_settle (l : Launch) {X : XT} (hX : Lok X) (g : Mem) (k : Int32) (hI : Inv g) (h_k : 0 ≤ k.toInt ∧ k.toInt ≤ 60) : Ctr l X yX0_settle cX0_settle 2 none (rmD 1) [.ref (aL X 30), .int k] g (pV (fun g2 => Inv g2 ∧ Kp [30, 31] g g2)) := by
  refine Ctr.of (lv := [(0, .ref (aL X 30)), (1, .int k)]) hX (by decide) rfl (Nat.le_of_ble_eq_true rfl) ?_
  intro p e s m below meth c C
  refine m_aload_n C dX0_settle_0 0 rfl ?_
  refine m_iload_n C dX0_settle_1 1 rfl ?_
  refine m_bipush C (17 : Int32) dX0_settle_2 (by decide) ?_
  refine m_imul C dX0_settle_4 ?_
  have t1 : (k * (17 : Int32)).toInt = k.toInt * (17 : Int) := i_mul rfl (by decide) (by omega) (by omega)
  refine m_put (rf := "") C 1 rfl gd0 (by decide) tyX0 tyX0_ok nmX0 rfl (tyX0_ok 1 (by decide)) rfl rfl sh_30 rfl dX0_settle_5 lk_X0_15 ?_
  refine m_mem (fun g2 eg2 => ?_)
  have hI3 : Inv g2 := by rw [eg2]; exact hI.up (ok_wrt (by omega) (by omega))
  have hK4 : Kp [30, 31] g g2 := by rw [eg2]; exact Kp.up Kp.rf (by decide) (Or.inl (by decide)) (Or.inl (by decide))
  refine m_aload_n C dX0_settle_8 0 rfl ?_
  refine m_aload_n C dX0_settle_9 0 rfl ?_
  refine m_geti (rf := "") C 1 rfl gd0 (by decide) sh_30 rfl dX0_settle_10 lk_X0_15 ?_
  have r5 := iv_wrt hI3
  refine m_put (rf := "") C 2 rfl gd0 (by decide) tyX0 tyX0_ok nmX0 rfl (tyX0_ok 2 (by decide)) rfl rfl sh_30 rfl dX0_settle_13 lk_X0_19 ?_
  refine m_mem (fun g6 eg6 => ?_)
  have hI7 : Inv g6 := by rw [eg6]; exact hI3.up (ok_safe (by omega) (by omega))
  have hK8 : Kp [30, 31] g g6 := by rw [eg6]; exact Kp.up hK4 (by decide) (Or.inl (by decide)) (Or.inl (by decide))
  have ev9 : g6 30 1 = g2 30 1 := by rw [eg6]; exact up2_nei (Or.inr (by decide))
  have tev9 := congrArg Int32.toInt ev9
  refine m_aload_n C dX0_settle_16 0 rfl ?_
  refine m_aload_n C dX0_settle_17 0 rfl ?_
  refine m_geti (rf := "") C 1 rfl gd0 (by decide) sh_30 rfl dX0_settle_18 lk_X0_15 ?_
  have r10 := iv_wrt hI7
  refine m_invV C cal_X0_clearFrom sh_30 rfl (c_X0_clearFrom l hX g6 (g6 30 1) hI7 (by omega)) lk_X0_28 im_X0_clearFrom se_X0_clearFrom (by decide) rfl rfl (Nat.le_of_ble_eq_true rfl) dX0_settle_21 ⟨Nat.le_refl _, Nat.le_refl _⟩ (rV fun g12 q13 => ?_)
  obtain ⟨hI14, hK15⟩ := q13
  have ev16 : g12 30 1 = g6 30 1 := congrFun (hK15.1 30 (by decide)) 1
  have tev16 := congrArg Int32.toInt ev16
  have hK17 : Kp [30, 31] g g12 := (hK8).tr hK15 (by decide)
  exact m_vret C dX0_settle_24 ⟨rfl, hI14, hK17⟩
set_option maxRecDepth 20000 in
set_option maxHeartbeats 4000000 in
theorem c_X5_rightAt (l : Launch) {X : XT} (hX : Lok X) (g : Mem) (pt : Int32) (o : Int32) (q : Int32) (hI : Inv g) (h_pt : 0 ≤ pt.toInt ∧ pt.toInt ≤ 19) (h_o : 0 ≤ o.toInt ∧ o.toInt ≤ 15) (h_q : 0 ≤ q.toInt ∧ q.toInt ≤ 3) : Ctr l X yX5_rightAt cX5_rightAt 3 (some .int) (rmD 0) [.int pt, .int o, .int q] g (pI (fun r g2 => g2 = g ∧ 0 ≤ r.toInt ∧ r.toInt ≤ 1279)) := by
  refine Ctr.of (lv := [(0, .int pt), (1, .int o), (2, .int q)]) hX (by decide) rfl (Nat.le_of_ble_eq_true rfl) ?_
  intro p e s m below meth c C
  refine m_iload_n C dX5_rightAt_0 0 rfl ?_
  refine m_bipush C (16 : Int32) dX5_rightAt_1 (by decide) ?_
  refine m_imul C dX5_rightAt_3 ?_
  refine m_iload_n C dX5_rightAt_4 1 rfl ?_
  refine m_iadd C dX5_rightAt_5 ?_
  refine m_iconst C (4 : Int32) dX5_rightAt_6 (by decide) ?_
  refine m_imul C dX5_rightAt_7 ?_
  refine m_iload_n C dX5_rightAt_8 2 rfl ?_
  refine m_iadd C dX5_rightAt_9 ?_
  have t1 : (pt * (16 : Int32)).toInt = pt.toInt * (16 : Int) := i_mul rfl (by decide) (by omega) (by omega)
  have t2 : ((pt * (16 : Int32)) + o).toInt = (pt.toInt * (16 : Int)) + o.toInt := i_add t1 rfl (by omega) (by omega)
  have t3 : (((pt * (16 : Int32)) + o) * (4 : Int32)).toInt = ((pt.toInt * (16 : Int)) + o.toInt) * (4 : Int) := i_mul t2 (by decide) (by omega) (by omega)
  have t4 : ((((pt * (16 : Int32)) + o) * (4 : Int32)) + q).toInt = (((pt.toInt * (16 : Int)) + o.toInt) * (4 : Int)) + q.toInt := i_add t3 rfl (by omega) (by omega)
  exact m_iret C dX5_rightAt_10 ⟨_, rfl, rfl, (by omega)⟩
set_option maxRecDepth 20000 in
set_option maxHeartbeats 4000000 in
theorem c_X5_hasBeenGiven (l : Launch) {X : XT} (hX : Lok X) (g : Mem) (pt : Int32) (o : Int32) (q : Int32) (hI : Inv g) (h_pt : 0 ≤ pt.toInt ∧ pt.toInt ≤ 19) (h_o : 0 ≤ o.toInt ∧ o.toInt ≤ 15) (h_q : 0 ≤ q.toInt ∧ q.toInt ≤ 3) : Ctr l X yX5_hasBeenGiven cX5_hasBeenGiven 4 (some .boolean) (rmD 1) [.ref (aL X 1), .int pt, .int o, .int q] g (pI (fun r g2 => g2 = g ∧ R01 r)) := by
  refine Ctr.of (lv := [(0, .ref (aL X 1)), (1, .int pt), (2, .int o), (3, .int q)]) hX (by decide) rfl (Nat.le_of_ble_eq_true rfl) ?_
  intro p e s m below meth c C
  refine m_aload_n C dX5_hasBeenGiven_0 0 rfl ?_
  refine m_getr (rf := "") C 6 rfl gd5 (by decide) sh_1 rfl dX5_hasBeenGiven_1 lk_X5_31 ?_
  refine m_iload_n C dX5_hasBeenGiven_4 1 rfl ?_
  refine m_iload_n C dX5_hasBeenGiven_5 2 rfl ?_
  refine m_iload_n C dX5_hasBeenGiven_6 3 rfl ?_
  refine m_invS C cal_X5_rightAt (c_X5_rightAt l hX g pt o q hI (by omega) (by omega) (by omega)) lk_X5_48 st_X5_rightAt (by decide) rfl rfl (Nat.le_of_ble_eq_true rfl) dX5_hasBeenGiven_7 ⟨Nat.le_refl _, Nat.le_refl _⟩ (rI fun r1 g2 q3 => ?_)
  obtain ⟨eg2, p4⟩ := q3
  subst g2
  refine m_zald C sh_8 (i_in (by omega) (by omega)) dX5_hasBeenGiven_10 ?_
  exact m_zret C dX5_hasBeenGiven_11 (iv_rts hI _).nar ⟨_, rfl, rfl, iv_rts hI _⟩
set_option maxRecDepth 20000 in
set_option maxHeartbeats 4000000 in
theorem c_X5_setRight (l : Launch) {X : XT} (hX : Lok X) (g : Mem) (pt : Int32) (o : Int32) (q : Int32) (z : Int32) (hI : Inv g) (h_pt : 0 ≤ pt.toInt ∧ pt.toInt ≤ 19) (h_o : 0 ≤ o.toInt ∧ o.toInt ≤ 15) (h_q : 0 ≤ q.toInt ∧ q.toInt ≤ 3) (hz : R01 z) : Ctr l X yX5_setRight cX5_setRight 5 none (rmD 1) [.ref (aL X 1), .int pt, .int o, .int q, .int z] g (pV (fun g2 => Inv g2 ∧ Kp [8] g g2)) := by
  refine Ctr.of (lv := [(0, .ref (aL X 1)), (1, .int pt), (2, .int o), (3, .int q), (4, .int z)]) hX (by decide) rfl (Nat.le_of_ble_eq_true rfl) ?_
  intro p e s m below meth c C
  refine m_aload_n C dX5_setRight_0 0 rfl ?_
  refine m_getr (rf := "") C 6 rfl gd5 (by decide) sh_1 rfl dX5_setRight_1 lk_X5_31 ?_
  refine m_iload_n C dX5_setRight_4 1 rfl ?_
  refine m_iload_n C dX5_setRight_5 2 rfl ?_
  refine m_iload_n C dX5_setRight_6 3 rfl ?_
  refine m_invS C cal_X5_rightAt (c_X5_rightAt l hX g pt o q hI (by omega) (by omega) (by omega)) lk_X5_48 st_X5_rightAt (by decide) rfl rfl (Nat.le_of_ble_eq_true rfl) dX5_setRight_7 ⟨Nat.le_refl _, Nat.le_refl _⟩ (rI fun r1 g2 q3 => ?_)
  obtain ⟨eg2, p4⟩ := q3
  subst g2
  refine m_iload C dX5_setRight_10 4 rfl ?_
  refine m_zast C sh_8 (i_in (by omega) (by omega)) hz.vp dX5_setRight_12 ?_
  refine m_mem (fun g5 eg5 => ?_)
  have hI6 : Inv g5 := by rw [eg5]; exact hI.up (ok_rts hz)
  have hK7 : Kp [8] g g5 := by rw [eg5]; exact Kp.up Kp.rf (by decide) (Or.inl (by decide)) (Or.inl (by decide))
  exact m_vret C dX5_setRight_13 ⟨rfl, hI6, hK7⟩
set_option maxRecDepth 20000 in
set_option maxHeartbeats 4000000 in
theorem c_X5_holds (l : Launch) {X : XT} (hX : Lok X) (g : Mem) (a : Int32) (o : Int32) (q : Int32) (hI : Inv g) (h_a : 0 ≤ a.toInt ∧ a.toInt ≤ 11) (h_o : 0 ≤ o.toInt ∧ o.toInt ≤ 15) (h_q : 0 ≤ q.toInt ∧ q.toInt ≤ 3) : Ctr l X yX5_holds cX5_holds 4 (some .boolean) (rmD 2) [.ref (aL X 1), .int a, .int o, .int q] g (pI (fun r g2 => g2 = g ∧ R01 r)) := by
  refine Ctr.of (lv := [(0, .ref (aL X 1)), (1, .int a), (2, .int o), (3, .int q)]) hX (by decide) rfl (Nat.le_of_ble_eq_true rfl) ?_
  intro p e s m below meth c C
  refine m_aload_n C dX5_holds_0 0 rfl ?_
  refine m_getr (rf := "") C 5 rfl gd5 (by decide) sh_1 rfl dX5_holds_1 lk_X5_28 ?_
  refine m_iload_n C dX5_holds_4 2 rfl ?_
  refine m_iald C sh_7 (i_in (by omega) (by omega)) dX5_holds_5 ?_
  refine m_iload_n C dX5_holds_6 1 rfl ?_
  refine m_icmp_eq C 38 dX5_holds_7 (by decide) (fun h1 => ?_) (fun h1 => ?_)
  · skip
    have th1 := i_eq h1
    refine m_iconst C (1 : Int32) dX5_holds_38 (by decide) ?_
    refine m_goto C 43 dX5_holds_39 (by decide) ?_
    exact m_zret C dX5_holds_43 (by decide) ⟨_, rfl, rfl, (by first | exact Or.inl rfl | exact Or.inr rfl)⟩
  · skip
    have th1 := i_ne h1
    refine m_aload_n C dX5_holds_10 0 rfl ?_
    refine m_iload_n C dX5_holds_11 1 rfl ?_
    refine m_iload_n C dX5_holds_12 2 rfl ?_
    refine m_iload_n C dX5_holds_13 3 rfl ?_
    refine m_invV C cal_X5_hasBeenGiven sh_1 rfl (c_X5_hasBeenGiven l hX g a o q hI (by omega) (by omega) (by omega)) lk_X5_45 im_X5_hasBeenGiven se_X5_hasBeenGiven (by decide) rfl rfl (Nat.le_of_ble_eq_true rfl) dX5_holds_14 ⟨Nat.le_refl _, Nat.le_refl _⟩ (rI fun r2 g3 q4 => ?_)
    obtain ⟨eg3, p5⟩ := q4
    subst g3
    refine m_if_ne C 38 dX5_holds_17 (by decide) (fun h6 => ?_) (fun h6 => ?_)
    · skip
      have th6 := i_ne h6
      rw [show (0 : Int32).toInt = 0 by decide] at th6
      refine m_iconst C (1 : Int32) dX5_holds_38 (by decide) ?_
      refine m_goto C 43 dX5_holds_39 (by decide) ?_
      exact m_zret C dX5_holds_43 (by decide) ⟨_, rfl, rfl, (by first | exact Or.inl rfl | exact Or.inr rfl)⟩
    · skip
      have th6 := i_eq h6
      rw [show (0 : Int32).toInt = 0 by decide] at th6
      refine m_aload_n C dX5_holds_20 0 rfl ?_
      refine m_bipush C (16 : Int32) dX5_holds_21 (by decide) ?_
      refine m_aload_n C dX5_holds_23 0 rfl ?_
      refine m_getr (rf := "") C 1 rfl gd5 (by decide) sh_1 rfl dX5_holds_24 lk_X5_15 ?_
      refine m_iload_n C dX5_holds_27 1 rfl ?_
      refine m_iald C sh_3 (i_in (by omega) (by omega)) dX5_holds_28 ?_
      have r7 := iv_grp hI a.toNatClampNeg
      refine m_iadd C dX5_holds_29 ?_
      refine m_iload_n C dX5_holds_30 2 rfl ?_
      refine m_iload_n C dX5_holds_31 3 rfl ?_
      have t8 : ((16 : Int32) + (g 3 a.toNatClampNeg)).toInt = (16 : Int) + (g 3 a.toNatClampNeg).toInt := i_add (by decide) rfl (by omega) (by omega)
      refine m_invV C cal_X5_hasBeenGiven sh_1 rfl (c_X5_hasBeenGiven l hX g ((16 : Int32) + (g 3 a.toNatClampNeg)) o q hI (by omega) (by omega) (by omega)) lk_X5_45 im_X5_hasBeenGiven se_X5_hasBeenGiven (by decide) rfl rfl (Nat.le_of_ble_eq_true rfl) dX5_holds_32 ⟨Nat.le_refl _, Nat.le_refl _⟩ (rI fun r9 g10 q11 => ?_)
      obtain ⟨eg10, p12⟩ := q11
      subst g10
      refine m_if_eq C 42 dX5_holds_35 (by decide) (fun h13 => ?_) (fun h13 => ?_)
      · skip
        have th13 := i_eq h13
        rw [show (0 : Int32).toInt = 0 by decide] at th13
        refine m_iconst C (0 : Int32) dX5_holds_42 (by decide) ?_
        exact m_zret C dX5_holds_43 (by decide) ⟨_, rfl, rfl, (by first | exact Or.inl rfl | exact Or.inr rfl)⟩
      · skip
        have th13 := i_ne h13
        rw [show (0 : Int32).toInt = 0 by decide] at th13
        refine m_iconst C (1 : Int32) dX5_holds_38 (by decide) ?_
        refine m_goto C 43 dX5_holds_39 (by decide) ?_
        exact m_zret C dX5_holds_43 (by decide) ⟨_, rfl, rfl, (by first | exact Or.inl rfl | exact Or.inr rfl)⟩
set_option maxRecDepth 20000 in
set_option maxHeartbeats 4000000 in
theorem c_X5_causeOf (l : Launch) {X : XT} (hX : Lok X) (g : Mem) (a : Int32) (o : Int32) (q : Int32) (hI : Inv g) (h_a : 0 ≤ a.toInt ∧ a.toInt ≤ 11) (h_o : 0 ≤ o.toInt ∧ o.toInt ≤ 15) (h_q : 0 ≤ q.toInt ∧ q.toInt ≤ 3) : Ctr l X yX5_causeOf cX5_causeOf 6 (some .int) (rmD 3) [.ref (aL X 1), .int a, .int o, .int q] g (pI (fun r g2 => g2 = g ∧ True)) := by
  refine Ctr.of (lv := [(0, .ref (aL X 1)), (1, .int a), (2, .int o), (3, .int q)]) hX (by decide) rfl (Nat.le_of_ble_eq_true rfl) ?_
  intro p e s m below meth c C
  refine m_aload_n C dX5_causeOf_0 0 rfl ?_
  refine m_getr (rf := "") C 0 rfl gd5 (by decide) sh_1 rfl dX5_causeOf_1 lk_X5_9 ?_
  refine m_iload_n C dX5_causeOf_4 1 rfl ?_
  refine m_iald C sh_2 (i_in (by omega) (by omega)) dX5_causeOf_5 ?_
  refine m_name (fun x1 ex1 => ?_)
  refine m_istore C [(4, .int x1), (0, .ref (aL X 1)), (1, .int a), (2, .int o), (3, .int q)] dX5_causeOf_6 (by decide) rfl ?_
  refine m_aload_n C dX5_causeOf_8 1 rfl ?_
  refine m_getr (rf := "") C 4 rfl gd5 (by decide) sh_1 rfl dX5_causeOf_9 lk_X5_25 ?_
  refine m_iload_n C dX5_causeOf_12 3 rfl ?_
  refine m_iald C sh_6 (i_in (by omega) (by omega)) dX5_causeOf_13 ?_
  refine m_name (fun x2 ex2 => ?_)
  refine m_istore C [(5, .int x2), (4, .int x1), (0, .ref (aL X 1)), (1, .int a), (2, .int o), (3, .int q)] dX5_causeOf_14 (by decide) rfl ?_
  refine m_aload_n C dX5_causeOf_16 2 rfl ?_
  refine m_getr (rf := "") C 2 rfl gd5 (by decide) sh_1 rfl dX5_causeOf_17 lk_X5_18 ?_
  refine m_iload_n C dX5_causeOf_20 3 rfl ?_
  refine m_zald C sh_4 (i_in (by omega) (by omega)) dX5_causeOf_21 ?_
  refine m_if_eq C 27 dX5_causeOf_22 (by decide) (fun h3 => ?_) (fun h3 => ?_)
  · skip
    have th3 := i_eq h3
    rw [show (0 : Int32).toInt = 0 by decide] at th3
    refine m_iload_n C dX5_causeOf_27 5 rfl ?_
    refine m_if_eq C 36 dX5_causeOf_28 (by decide) (fun h4 => ?_) (fun h4 => ?_)
    · skip
      have th4 := i_eq h4
      rw [show (0 : Int32).toInt = 0 by decide] at th4
      refine m_iload C dX5_causeOf_36 1 rfl ?_
      refine m_iload C dX5_causeOf_38 0 rfl ?_
      refine m_icmp_ge C 45 dX5_causeOf_40 (by decide) (fun h5 => ?_) (fun h5 => ?_)
      · skip
        have th5 := i_le h5
        refine m_iload_n C dX5_causeOf_45 5 rfl ?_
        refine m_iconst C (1 : Int32) dX5_causeOf_46 (by decide) ?_
        refine m_icmp_eq C 55 dX5_causeOf_47 (by decide) (fun h6 => ?_) (fun h6 => ?_)
        · skip
          have th6 := i_eq h6
          rw [show (1 : Int32).toInt = 1 by decide] at th6
          refine m_iload C dX5_causeOf_55 1 rfl ?_
          refine m_iload C dX5_causeOf_57 0 rfl ?_
          refine m_icmp_le C 64 dX5_causeOf_59 (by decide) (fun h7 => ?_) (fun h7 => ?_)
          · skip
            have th7 := i_le h7
            refine m_aload_n C dX5_causeOf_64 2 rfl ?_
            refine m_iload_n C dX5_causeOf_65 3 rfl ?_
            refine m_iload_n C dX5_causeOf_66 4 rfl ?_
            refine m_iload_n C dX5_causeOf_67 5 rfl ?_
            refine m_invV C cal_X5_holds sh_1 rfl (c_X5_holds l hX g a o q hI (by omega) (by omega) (by omega)) lk_X5_41 im_X5_holds se_X5_holds (by decide) rfl rfl (Nat.le_of_ble_eq_true rfl) dX5_causeOf_68 ⟨Nat.le_refl _, Nat.le_refl _⟩ (rI fun r8 g9 q10 => ?_)
            obtain ⟨eg9, p11⟩ := q10
            subst g9
            refine m_if_eq C 78 dX5_causeOf_71 (by decide) (fun h12 => ?_) (fun h12 => ?_)
            · skip
              have th12 := i_eq h12
              rw [show (0 : Int32).toInt = 0 by decide] at th12
              refine m_iconst C (4 : Int32) dX5_causeOf_78 (by decide) ?_
              exact m_iret C dX5_causeOf_79 ⟨_, rfl, rfl, trivial⟩
            · skip
              have th12 := i_ne h12
              rw [show (0 : Int32).toInt = 0 by decide] at th12
              refine m_iconst C (0 : Int32) dX5_causeOf_74 (by decide) ?_
              refine m_goto C 79 dX5_causeOf_75 (by decide) ?_
              exact m_iret C dX5_causeOf_79 ⟨_, rfl, rfl, trivial⟩
          · skip
            have th7 := i_nle h7
            refine m_iconst C (3 : Int32) dX5_causeOf_62 (by decide) ?_
            exact m_iret C dX5_causeOf_63 ⟨_, rfl, rfl, trivial⟩
        · skip
          have th6 := i_ne h6
          rw [show (1 : Int32).toInt = 1 by decide] at th6
          refine m_iload_n C dX5_causeOf_50 5 rfl ?_
          refine m_iconst C (2 : Int32) dX5_causeOf_51 (by decide) ?_
          refine m_icmp_ne C 64 dX5_causeOf_52 (by decide) (fun h13 => ?_) (fun h13 => ?_)
          · skip
            have th13 := i_ne h13
            rw [show (2 : Int32).toInt = 2 by decide] at th13
            refine m_aload_n C dX5_causeOf_64 2 rfl ?_
            refine m_iload_n C dX5_causeOf_65 3 rfl ?_
            refine m_iload_n C dX5_causeOf_66 4 rfl ?_
            refine m_iload_n C dX5_causeOf_67 5 rfl ?_
            refine m_invV C cal_X5_holds sh_1 rfl (c_X5_holds l hX g a o q hI (by omega) (by omega) (by omega)) lk_X5_41 im_X5_holds se_X5_holds (by decide) rfl rfl (Nat.le_of_ble_eq_true rfl) dX5_causeOf_68 ⟨Nat.le_refl _, Nat.le_refl _⟩ (rI fun r14 g15 q16 => ?_)
            obtain ⟨eg15, p17⟩ := q16
            subst g15
            refine m_if_eq C 78 dX5_causeOf_71 (by decide) (fun h18 => ?_) (fun h18 => ?_)
            · skip
              have th18 := i_eq h18
              rw [show (0 : Int32).toInt = 0 by decide] at th18
              refine m_iconst C (4 : Int32) dX5_causeOf_78 (by decide) ?_
              exact m_iret C dX5_causeOf_79 ⟨_, rfl, rfl, trivial⟩
            · skip
              have th18 := i_ne h18
              rw [show (0 : Int32).toInt = 0 by decide] at th18
              refine m_iconst C (0 : Int32) dX5_causeOf_74 (by decide) ?_
              refine m_goto C 79 dX5_causeOf_75 (by decide) ?_
              exact m_iret C dX5_causeOf_79 ⟨_, rfl, rfl, trivial⟩
          · skip
            have th13 := i_eq h13
            rw [show (2 : Int32).toInt = 2 by decide] at th13
            refine m_iload C dX5_causeOf_55 1 rfl ?_
            refine m_iload C dX5_causeOf_57 0 rfl ?_
            refine m_icmp_le C 64 dX5_causeOf_59 (by decide) (fun h19 => ?_) (fun h19 => ?_)
            · skip
              have th19 := i_le h19
              refine m_aload_n C dX5_causeOf_64 2 rfl ?_
              refine m_iload_n C dX5_causeOf_65 3 rfl ?_
              refine m_iload_n C dX5_causeOf_66 4 rfl ?_
              refine m_iload_n C dX5_causeOf_67 5 rfl ?_
              refine m_invV C cal_X5_holds sh_1 rfl (c_X5_holds l hX g a o q hI (by omega) (by omega) (by omega)) lk_X5_41 im_X5_holds se_X5_holds (by decide) rfl rfl (Nat.le_of_ble_eq_true rfl) dX5_causeOf_68 ⟨Nat.le_refl _, Nat.le_refl _⟩ (rI fun r20 g21 q22 => ?_)
              obtain ⟨eg21, p23⟩ := q22
              subst g21
              refine m_if_eq C 78 dX5_causeOf_71 (by decide) (fun h24 => ?_) (fun h24 => ?_)
              · skip
                have th24 := i_eq h24
                rw [show (0 : Int32).toInt = 0 by decide] at th24
                refine m_iconst C (4 : Int32) dX5_causeOf_78 (by decide) ?_
                exact m_iret C dX5_causeOf_79 ⟨_, rfl, rfl, trivial⟩
              · skip
                have th24 := i_ne h24
                rw [show (0 : Int32).toInt = 0 by decide] at th24
                refine m_iconst C (0 : Int32) dX5_causeOf_74 (by decide) ?_
                refine m_goto C 79 dX5_causeOf_75 (by decide) ?_
                exact m_iret C dX5_causeOf_79 ⟨_, rfl, rfl, trivial⟩
            · skip
              have th19 := i_nle h19
              refine m_iconst C (3 : Int32) dX5_causeOf_62 (by decide) ?_
              exact m_iret C dX5_causeOf_63 ⟨_, rfl, rfl, trivial⟩
      · skip
        have th5 := i_nle h5
        refine m_iconst C (2 : Int32) dX5_causeOf_43 (by decide) ?_
        exact m_iret C dX5_causeOf_44 ⟨_, rfl, rfl, trivial⟩
    · skip
      have th4 := i_ne h4
      rw [show (0 : Int32).toInt = 0 by decide] at th4
      refine m_iload_n C dX5_causeOf_31 5 rfl ?_
      refine m_iconst C (1 : Int32) dX5_causeOf_32 (by decide) ?_
      refine m_icmp_ne C 45 dX5_causeOf_33 (by decide) (fun h25 => ?_) (fun h25 => ?_)
      · skip
        have th25 := i_ne h25
        rw [show (1 : Int32).toInt = 1 by decide] at th25
        refine m_iload_n C dX5_causeOf_45 5 rfl ?_
        refine m_iconst C (1 : Int32) dX5_causeOf_46 (by decide) ?_
        refine m_icmp_eq C 55 dX5_causeOf_47 (by decide) (fun h26 => ?_) (fun h26 => ?_)
        · skip
          have th26 := i_eq h26
          rw [show (1 : Int32).toInt = 1 by decide] at th26
          refine m_iload C dX5_causeOf_55 1 rfl ?_
          refine m_iload C dX5_causeOf_57 0 rfl ?_
          refine m_icmp_le C 64 dX5_causeOf_59 (by decide) (fun h27 => ?_) (fun h27 => ?_)
          · skip
            have th27 := i_le h27
            refine m_aload_n C dX5_causeOf_64 2 rfl ?_
            refine m_iload_n C dX5_causeOf_65 3 rfl ?_
            refine m_iload_n C dX5_causeOf_66 4 rfl ?_
            refine m_iload_n C dX5_causeOf_67 5 rfl ?_
            refine m_invV C cal_X5_holds sh_1 rfl (c_X5_holds l hX g a o q hI (by omega) (by omega) (by omega)) lk_X5_41 im_X5_holds se_X5_holds (by decide) rfl rfl (Nat.le_of_ble_eq_true rfl) dX5_causeOf_68 ⟨Nat.le_refl _, Nat.le_refl _⟩ (rI fun r28 g29 q30 => ?_)
            obtain ⟨eg29, p31⟩ := q30
            subst g29
            refine m_if_eq C 78 dX5_causeOf_71 (by decide) (fun h32 => ?_) (fun h32 => ?_)
            · skip
              have th32 := i_eq h32
              rw [show (0 : Int32).toInt = 0 by decide] at th32
              refine m_iconst C (4 : Int32) dX5_causeOf_78 (by decide) ?_
              exact m_iret C dX5_causeOf_79 ⟨_, rfl, rfl, trivial⟩
            · skip
              have th32 := i_ne h32
              rw [show (0 : Int32).toInt = 0 by decide] at th32
              refine m_iconst C (0 : Int32) dX5_causeOf_74 (by decide) ?_
              refine m_goto C 79 dX5_causeOf_75 (by decide) ?_
              exact m_iret C dX5_causeOf_79 ⟨_, rfl, rfl, trivial⟩
          · skip
            have th27 := i_nle h27
            refine m_iconst C (3 : Int32) dX5_causeOf_62 (by decide) ?_
            exact m_iret C dX5_causeOf_63 ⟨_, rfl, rfl, trivial⟩
        · skip
          have th26 := i_ne h26
          rw [show (1 : Int32).toInt = 1 by decide] at th26
          refine m_iload_n C dX5_causeOf_50 5 rfl ?_
          refine m_iconst C (2 : Int32) dX5_causeOf_51 (by decide) ?_
          refine m_icmp_ne C 64 dX5_causeOf_52 (by decide) (fun h33 => ?_) (fun h33 => ?_)
          · skip
            have th33 := i_ne h33
            rw [show (2 : Int32).toInt = 2 by decide] at th33
            refine m_aload_n C dX5_causeOf_64 2 rfl ?_
            refine m_iload_n C dX5_causeOf_65 3 rfl ?_
            refine m_iload_n C dX5_causeOf_66 4 rfl ?_
            refine m_iload_n C dX5_causeOf_67 5 rfl ?_
            refine m_invV C cal_X5_holds sh_1 rfl (c_X5_holds l hX g a o q hI (by omega) (by omega) (by omega)) lk_X5_41 im_X5_holds se_X5_holds (by decide) rfl rfl (Nat.le_of_ble_eq_true rfl) dX5_causeOf_68 ⟨Nat.le_refl _, Nat.le_refl _⟩ (rI fun r34 g35 q36 => ?_)
            obtain ⟨eg35, p37⟩ := q36
            subst g35
            refine m_if_eq C 78 dX5_causeOf_71 (by decide) (fun h38 => ?_) (fun h38 => ?_)
            · skip
              have th38 := i_eq h38
              rw [show (0 : Int32).toInt = 0 by decide] at th38
              refine m_iconst C (4 : Int32) dX5_causeOf_78 (by decide) ?_
              exact m_iret C dX5_causeOf_79 ⟨_, rfl, rfl, trivial⟩
            · skip
              have th38 := i_ne h38
              rw [show (0 : Int32).toInt = 0 by decide] at th38
              refine m_iconst C (0 : Int32) dX5_causeOf_74 (by decide) ?_
              refine m_goto C 79 dX5_causeOf_75 (by decide) ?_
              exact m_iret C dX5_causeOf_79 ⟨_, rfl, rfl, trivial⟩
          · skip
            have th33 := i_eq h33
            rw [show (2 : Int32).toInt = 2 by decide] at th33
            refine m_iload C dX5_causeOf_55 1 rfl ?_
            refine m_iload C dX5_causeOf_57 0 rfl ?_
            refine m_icmp_le C 64 dX5_causeOf_59 (by decide) (fun h39 => ?_) (fun h39 => ?_)
            · skip
              have th39 := i_le h39
              refine m_aload_n C dX5_causeOf_64 2 rfl ?_
              refine m_iload_n C dX5_causeOf_65 3 rfl ?_
              refine m_iload_n C dX5_causeOf_66 4 rfl ?_
              refine m_iload_n C dX5_causeOf_67 5 rfl ?_
              refine m_invV C cal_X5_holds sh_1 rfl (c_X5_holds l hX g a o q hI (by omega) (by omega) (by omega)) lk_X5_41 im_X5_holds se_X5_holds (by decide) rfl rfl (Nat.le_of_ble_eq_true rfl) dX5_causeOf_68 ⟨Nat.le_refl _, Nat.le_refl _⟩ (rI fun r40 g41 q42 => ?_)
              obtain ⟨eg41, p43⟩ := q42
              subst g41
              refine m_if_eq C 78 dX5_causeOf_71 (by decide) (fun h44 => ?_) (fun h44 => ?_)
              · skip
                have th44 := i_eq h44
                rw [show (0 : Int32).toInt = 0 by decide] at th44
                refine m_iconst C (4 : Int32) dX5_causeOf_78 (by decide) ?_
                exact m_iret C dX5_causeOf_79 ⟨_, rfl, rfl, trivial⟩
              · skip
                have th44 := i_ne h44
                rw [show (0 : Int32).toInt = 0 by decide] at th44
                refine m_iconst C (0 : Int32) dX5_causeOf_74 (by decide) ?_
                refine m_goto C 79 dX5_causeOf_75 (by decide) ?_
                exact m_iret C dX5_causeOf_79 ⟨_, rfl, rfl, trivial⟩
            · skip
              have th39 := i_nle h39
              refine m_iconst C (3 : Int32) dX5_causeOf_62 (by decide) ?_
              exact m_iret C dX5_causeOf_63 ⟨_, rfl, rfl, trivial⟩
      · skip
        have th25 := i_eq h25
        rw [show (1 : Int32).toInt = 1 by decide] at th25
        refine m_iload C dX5_causeOf_36 1 rfl ?_
        refine m_iload C dX5_causeOf_38 0 rfl ?_
        refine m_icmp_ge C 45 dX5_causeOf_40 (by decide) (fun h45 => ?_) (fun h45 => ?_)
        · skip
          have th45 := i_le h45
          refine m_iload_n C dX5_causeOf_45 5 rfl ?_
          refine m_iconst C (1 : Int32) dX5_causeOf_46 (by decide) ?_
          refine m_icmp_eq C 55 dX5_causeOf_47 (by decide) (fun h46 => ?_) (fun h46 => ?_)
          · skip
            have th46 := i_eq h46
            rw [show (1 : Int32).toInt = 1 by decide] at th46
            refine m_iload C dX5_causeOf_55 1 rfl ?_
            refine m_iload C dX5_causeOf_57 0 rfl ?_
            refine m_icmp_le C 64 dX5_causeOf_59 (by decide) (fun h47 => ?_) (fun h47 => ?_)
            · skip
              have th47 := i_le h47
              refine m_aload_n C dX5_causeOf_64 2 rfl ?_
              refine m_iload_n C dX5_causeOf_65 3 rfl ?_
              refine m_iload_n C dX5_causeOf_66 4 rfl ?_
              refine m_iload_n C dX5_causeOf_67 5 rfl ?_
              refine m_invV C cal_X5_holds sh_1 rfl (c_X5_holds l hX g a o q hI (by omega) (by omega) (by omega)) lk_X5_41 im_X5_holds se_X5_holds (by decide) rfl rfl (Nat.le_of_ble_eq_true rfl) dX5_causeOf_68 ⟨Nat.le_refl _, Nat.le_refl _⟩ (rI fun r48 g49 q50 => ?_)
              obtain ⟨eg49, p51⟩ := q50
              subst g49
              refine m_if_eq C 78 dX5_causeOf_71 (by decide) (fun h52 => ?_) (fun h52 => ?_)
              · skip
                have th52 := i_eq h52
                rw [show (0 : Int32).toInt = 0 by decide] at th52
                refine m_iconst C (4 : Int32) dX5_causeOf_78 (by decide) ?_
                exact m_iret C dX5_causeOf_79 ⟨_, rfl, rfl, trivial⟩
              · skip
                have th52 := i_ne h52
                rw [show (0 : Int32).toInt = 0 by decide] at th52
                refine m_iconst C (0 : Int32) dX5_causeOf_74 (by decide) ?_
                refine m_goto C 79 dX5_causeOf_75 (by decide) ?_
                exact m_iret C dX5_causeOf_79 ⟨_, rfl, rfl, trivial⟩
            · skip
              have th47 := i_nle h47
              refine m_iconst C (3 : Int32) dX5_causeOf_62 (by decide) ?_
              exact m_iret C dX5_causeOf_63 ⟨_, rfl, rfl, trivial⟩
          · skip
            have th46 := i_ne h46
            rw [show (1 : Int32).toInt = 1 by decide] at th46
            refine m_iload_n C dX5_causeOf_50 5 rfl ?_
            refine m_iconst C (2 : Int32) dX5_causeOf_51 (by decide) ?_
            refine m_icmp_ne C 64 dX5_causeOf_52 (by decide) (fun h53 => ?_) (fun h53 => ?_)
            · skip
              have th53 := i_ne h53
              rw [show (2 : Int32).toInt = 2 by decide] at th53
              refine m_aload_n C dX5_causeOf_64 2 rfl ?_
              refine m_iload_n C dX5_causeOf_65 3 rfl ?_
              refine m_iload_n C dX5_causeOf_66 4 rfl ?_
              refine m_iload_n C dX5_causeOf_67 5 rfl ?_
              refine m_invV C cal_X5_holds sh_1 rfl (c_X5_holds l hX g a o q hI (by omega) (by omega) (by omega)) lk_X5_41 im_X5_holds se_X5_holds (by decide) rfl rfl (Nat.le_of_ble_eq_true rfl) dX5_causeOf_68 ⟨Nat.le_refl _, Nat.le_refl _⟩ (rI fun r54 g55 q56 => ?_)
              obtain ⟨eg55, p57⟩ := q56
              subst g55
              refine m_if_eq C 78 dX5_causeOf_71 (by decide) (fun h58 => ?_) (fun h58 => ?_)
              · skip
                have th58 := i_eq h58
                rw [show (0 : Int32).toInt = 0 by decide] at th58
                refine m_iconst C (4 : Int32) dX5_causeOf_78 (by decide) ?_
                exact m_iret C dX5_causeOf_79 ⟨_, rfl, rfl, trivial⟩
              · skip
                have th58 := i_ne h58
                rw [show (0 : Int32).toInt = 0 by decide] at th58
                refine m_iconst C (0 : Int32) dX5_causeOf_74 (by decide) ?_
                refine m_goto C 79 dX5_causeOf_75 (by decide) ?_
                exact m_iret C dX5_causeOf_79 ⟨_, rfl, rfl, trivial⟩
            · skip
              have th53 := i_eq h53
              rw [show (2 : Int32).toInt = 2 by decide] at th53
              refine m_iload C dX5_causeOf_55 1 rfl ?_
              refine m_iload C dX5_causeOf_57 0 rfl ?_
              refine m_icmp_le C 64 dX5_causeOf_59 (by decide) (fun h59 => ?_) (fun h59 => ?_)
              · skip
                have th59 := i_le h59
                refine m_aload_n C dX5_causeOf_64 2 rfl ?_
                refine m_iload_n C dX5_causeOf_65 3 rfl ?_
                refine m_iload_n C dX5_causeOf_66 4 rfl ?_
                refine m_iload_n C dX5_causeOf_67 5 rfl ?_
                refine m_invV C cal_X5_holds sh_1 rfl (c_X5_holds l hX g a o q hI (by omega) (by omega) (by omega)) lk_X5_41 im_X5_holds se_X5_holds (by decide) rfl rfl (Nat.le_of_ble_eq_true rfl) dX5_causeOf_68 ⟨Nat.le_refl _, Nat.le_refl _⟩ (rI fun r60 g61 q62 => ?_)
                obtain ⟨eg61, p63⟩ := q62
                subst g61
                refine m_if_eq C 78 dX5_causeOf_71 (by decide) (fun h64 => ?_) (fun h64 => ?_)
                · skip
                  have th64 := i_eq h64
                  rw [show (0 : Int32).toInt = 0 by decide] at th64
                  refine m_iconst C (4 : Int32) dX5_causeOf_78 (by decide) ?_
                  exact m_iret C dX5_causeOf_79 ⟨_, rfl, rfl, trivial⟩
                · skip
                  have th64 := i_ne h64
                  rw [show (0 : Int32).toInt = 0 by decide] at th64
                  refine m_iconst C (0 : Int32) dX5_causeOf_74 (by decide) ?_
                  refine m_goto C 79 dX5_causeOf_75 (by decide) ?_
                  exact m_iret C dX5_causeOf_79 ⟨_, rfl, rfl, trivial⟩
              · skip
                have th59 := i_nle h59
                refine m_iconst C (3 : Int32) dX5_causeOf_62 (by decide) ?_
                exact m_iret C dX5_causeOf_63 ⟨_, rfl, rfl, trivial⟩
        · skip
          have th45 := i_nle h45
          refine m_iconst C (2 : Int32) dX5_causeOf_43 (by decide) ?_
          exact m_iret C dX5_causeOf_44 ⟨_, rfl, rfl, trivial⟩
  · skip
    have th3 := i_ne h3
    rw [show (0 : Int32).toInt = 0 by decide] at th3
    refine m_iconst C (1 : Int32) dX5_causeOf_25 (by decide) ?_
    exact m_iret C dX5_causeOf_26 ⟨_, rfl, rfl, trivial⟩
set_option maxRecDepth 20000 in
set_option maxHeartbeats 4000000 in
theorem c_X5_tally (l : Launch) {X : XT} (hX : Lok X) (g : Mem) (a : Int32) (z : Int32) (hI : Inv g) (h_a : 0 ≤ a.toInt ∧ a.toInt ≤ 11) : Ctr l X yX5_tally cX5_tally 3 none (rmD 0) [.ref (aL X 1), .int a, .int z] g (pV (fun g2 => Inv g2 ∧ Kp [1, 4, 5] g g2)) := by
  refine Ctr.of (lv := [(0, .ref (aL X 1)), (1, .int a), (2, .int z)]) hX (by decide) rfl (Nat.le_of_ble_eq_true rfl) ?_
  intro p e s m below meth c C
  refine m_iload_n C dX5_tally_0 2 rfl ?_
  refine m_if_eq C 22 dX5_tally_1 (by decide) (fun h1 => ?_) (fun h1 => ?_)
  · skip
    have th1 := i_eq h1
    rw [show (0 : Int32).toInt = 0 by decide] at th1
    refine m_aload_n C dX5_tally_22 0 rfl ?_
    refine m_dup C dX5_tally_23 rfl ?_
    refine m_geti (rf := "") C 8 rfl gd5 (by decide) sh_1 rfl dX5_tally_24 lk_X5_38 ?_
    refine m_iconst C (1 : Int32) dX5_tally_27 (by decide) ?_
    refine m_iadd C dX5_tally_28 ?_
    refine m_put (rf := "") C 8 rfl gd5 (by decide) tyX5 tyX5_ok nmX5 rfl (tyX5_ok 8 (by decide)) rfl rfl sh_1 rfl dX5_tally_29 lk_X5_38 ?_
    refine m_mem (fun g2 eg2 => ?_)
    have hI3 : Inv g2 := by rw [eg2]; exact hI.up (ok_any (by decide))
    have hK4 : Kp [1, 4, 5] g g2 := by rw [eg2]; exact Kp.up Kp.rf (by decide) (Or.inl (by decide)) (Or.inl (by decide))
    refine m_aload_n C dX5_tally_32 0 rfl ?_
    refine m_getr (rf := "") C 3 rfl gd5 (by decide) sh_1 rfl dX5_tally_33 lk_X5_22 ?_
    refine m_iload_n C dX5_tally_36 1 rfl ?_
    refine m_dup2 C dX5_tally_37 rfl rfl ?_
    refine m_iald C sh_5 (i_in (by omega) (by omega)) dX5_tally_38 ?_
    refine m_iconst C (1 : Int32) dX5_tally_39 (by decide) ?_
    refine m_iadd C dX5_tally_40 ?_
    refine m_iast C sh_5 (i_in (by omega) (by omega)) dX5_tally_41 ?_
    refine m_mem (fun g5 eg5 => ?_)
    have hI6 : Inv g5 := by rw [eg5]; exact hI3.up (ok_any (by decide))
    have hK7 : Kp [1, 4, 5] g g5 := by rw [eg5]; exact Kp.up hK4 (by decide) (Or.inl (by decide)) (Or.inl (by decide))
    refine m_aload_n C dX5_tally_42 0 rfl ?_
    refine m_getr (rf := "") C 3 rfl gd5 (by decide) sh_1 rfl dX5_tally_43 lk_X5_22 ?_
    refine m_iload_n C dX5_tally_46 1 rfl ?_
    refine m_iald C sh_5 (i_in (by omega) (by omega)) dX5_tally_47 ?_
    refine m_iconst C (3 : Int32) dX5_tally_48 (by decide) ?_
    refine m_icmp_lt C 59 dX5_tally_49 (by decide) (fun h8 => ?_) (fun h8 => ?_)
    · skip
      have th8 := i_lt h8
      rw [show (3 : Int32).toInt = 3 by decide] at th8
      exact m_vret C dX5_tally_59 ⟨rfl, hI6, hK7⟩
    · skip
      have th8 := i_nlt h8
      rw [show (3 : Int32).toInt = 3 by decide] at th8
      refine m_aload_n C dX5_tally_52 0 rfl ?_
      refine m_getr (rf := "") C 2 rfl gd5 (by decide) sh_1 rfl dX5_tally_53 lk_X5_18 ?_
      refine m_iload_n C dX5_tally_56 1 rfl ?_
      refine m_iconst C (1 : Int32) dX5_tally_57 (by decide) ?_
      refine m_zast C sh_4 (i_in (by omega) (by omega)) (by decide) dX5_tally_58 ?_
      refine m_mem (fun g9 eg9 => ?_)
      have hI10 : Inv g9 := by rw [eg9]; exact hI6.up (ok_lock (Or.inr rfl))
      have hK11 : Kp [1, 4, 5] g g9 := by rw [eg9]; exact Kp.up hK7 (by decide) (Or.inl (by decide)) (Or.inl (by decide))
      exact m_vret C dX5_tally_59 ⟨rfl, hI10, hK11⟩
  · skip
    have th1 := i_ne h1
    rw [show (0 : Int32).toInt = 0 by decide] at th1
    refine m_aload_n C dX5_tally_4 0 rfl ?_
    refine m_dup C dX5_tally_5 rfl ?_
    refine m_geti (rf := "") C 7 rfl gd5 (by decide) sh_1 rfl dX5_tally_6 lk_X5_34 ?_
    refine m_iconst C (1 : Int32) dX5_tally_9 (by decide) ?_
    refine m_iadd C dX5_tally_10 ?_
    refine m_put (rf := "") C 7 rfl gd5 (by decide) tyX5 tyX5_ok nmX5 rfl (tyX5_ok 7 (by decide)) rfl rfl sh_1 rfl dX5_tally_11 lk_X5_34 ?_
    refine m_mem (fun g12 eg12 => ?_)
    have hI13 : Inv g12 := by rw [eg12]; exact hI.up (ok_any (by decide))
    have hK14 : Kp [1, 4, 5] g g12 := by rw [eg12]; exact Kp.up Kp.rf (by decide) (Or.inl (by decide)) (Or.inl (by decide))
    refine m_aload_n C dX5_tally_14 0 rfl ?_
    refine m_getr (rf := "") C 3 rfl gd5 (by decide) sh_1 rfl dX5_tally_15 lk_X5_22 ?_
    refine m_iload_n C dX5_tally_18 1 rfl ?_
    refine m_iconst C (0 : Int32) dX5_tally_19 (by decide) ?_
    refine m_iast C sh_5 (i_in (by omega) (by omega)) dX5_tally_20 ?_
    refine m_mem (fun g15 eg15 => ?_)
    have hI16 : Inv g15 := by rw [eg15]; exact hI13.up (ok_any (by decide))
    have hK17 : Kp [1, 4, 5] g g15 := by rw [eg15]; exact Kp.up hK14 (by decide) (Or.inl (by decide)) (Or.inl (by decide))
    exact m_vret C dX5_tally_21 ⟨rfl, hI16, hK17⟩
set_option maxRecDepth 20000 in
set_option maxHeartbeats 4000000 in
theorem c_X5_release (l : Launch) {X : XT} (hX : Lok X) (g : Mem) (a : Int32) (hI : Inv g) (h_a : 0 ≤ a.toInt ∧ a.toInt ≤ 11) : Ctr l X yX5_release cX5_release 3 (some .boolean) (rmD 0) [.ref (aL X 1), .int a] g (pI (fun r g2 => Inv g2 ∧ Kp [4, 5] g g2 ∧ R01 r)) := by
  refine Ctr.of (lv := [(0, .ref (aL X 1)), (1, .int a)]) hX (by decide) rfl (Nat.le_of_ble_eq_true rfl) ?_
  intro p e s m below meth c C
  refine m_aload_n C dX5_release_0 0 rfl ?_
  refine m_getr (rf := "") C 2 rfl gd5 (by decide) sh_1 rfl dX5_release_1 lk_X5_18 ?_
  refine m_iload_n C dX5_release_4 1 rfl ?_
  refine m_zald C sh_4 (i_in (by omega) (by omega)) dX5_release_5 ?_
  refine m_name (fun x1 ex1 => ?_)
  refine m_istore_n C [(2, .int x1), (0, .ref (aL X 1)), (1, .int a)] dX5_release_6 (by decide) rfl ?_
  refine m_aload_n C dX5_release_7 1 rfl ?_
  refine m_getr (rf := "") C 2 rfl gd5 (by decide) sh_1 rfl dX5_release_8 lk_X5_18 ?_
  refine m_iload_n C dX5_release_11 2 rfl ?_
  refine m_iconst C (0 : Int32) dX5_release_12 (by decide) ?_
  refine m_zast C sh_4 (i_in (by omega) (by omega)) (by decide) dX5_release_13 ?_
  refine m_mem (fun g2 eg2 => ?_)
  have hI3 : Inv g2 := by rw [eg2]; exact hI.up (ok_lock (Or.inl rfl))
  have hK4 : Kp [4, 5] g g2 := by rw [eg2]; exact Kp.up Kp.rf (by decide) (Or.inl (by decide)) (Or.inl (by decide))
  refine m_aload_n C dX5_release_14 1 rfl ?_
  refine m_getr (rf := "") C 3 rfl gd5 (by decide) sh_1 rfl dX5_release_15 lk_X5_22 ?_
  refine m_iload_n C dX5_release_18 2 rfl ?_
  refine m_iconst C (0 : Int32) dX5_release_19 (by decide) ?_
  refine m_iast C sh_5 (i_in (by omega) (by omega)) dX5_release_20 ?_
  refine m_mem (fun g5 eg5 => ?_)
  have hI6 : Inv g5 := by rw [eg5]; exact hI3.up (ok_any (by decide))
  have hK7 : Kp [4, 5] g g5 := by rw [eg5]; exact Kp.up hK4 (by decide) (Or.inl (by decide)) (Or.inl (by decide))
  refine m_iload_n C dX5_release_21 0 rfl ?_
  exact m_zret C dX5_release_22 (R01.nar (by rw [ex1]; exact iv_lock hI _)) ⟨_, rfl, hI6, hK7, (by rw [ex1]; exact iv_lock hI _)⟩
set_option maxRecDepth 20000 in
set_option maxHeartbeats 4000000 in
theorem c_X5_placeSubject (l : Launch) {X : XT} (hX : Lok X) (g : Mem) (a : Int32) (v : Int32) (w : Int32) (hI : Inv g) (h_a : 0 ≤ a.toInt ∧ a.toInt ≤ 11) (h_w : 0 ≤ w.toInt ∧ w.toInt ≤ 3) : Ctr l X yX5_placeSubject cX5_placeSubject 4 none (rmD 0) [.ref (aL X 1), .int a, .int v, .int w] g (pV (fun g2 => Inv g2 ∧ Kp [2, 3] g g2)) := by
  refine Ctr.of (lv := [(0, .ref (aL X 1)), (1, .int a), (2, .int v), (3, .int w)]) hX (by decide) rfl (Nat.le_of_ble_eq_true rfl) ?_
  intro p e s m below meth c C
  refine m_aload_n C dX5_placeSubject_0 0 rfl ?_
  refine m_getr (rf := "") C 0 rfl gd5 (by decide) sh_1 rfl dX5_placeSubject_1 lk_X5_9 ?_
  refine m_iload_n C dX5_placeSubject_4 1 rfl ?_
  refine m_iload_n C dX5_placeSubject_5 2 rfl ?_
  refine m_iast C sh_2 (i_in (by omega) (by omega)) dX5_placeSubject_6 ?_
  refine m_mem (fun g1 eg1 => ?_)
  have hI2 : Inv g1 := by rw [eg1]; exact hI.up (ok_any (by decide))
  have hK3 : Kp [2, 3] g g1 := by rw [eg1]; exact Kp.up Kp.rf (by decide) (Or.inl (by decide)) (Or.inl (by decide))
  refine m_aload_n C dX5_placeSubject_7 0 rfl ?_
  refine m_getr (rf := "") C 1 rfl gd5 (by decide) sh_1 rfl dX5_placeSubject_8 lk_X5_15 ?_
  refine m_iload_n C dX5_placeSubject_11 1 rfl ?_
  refine m_iload_n C dX5_placeSubject_12 3 rfl ?_
  refine m_iast C sh_3 (i_in (by omega) (by omega)) dX5_placeSubject_13 ?_
  refine m_mem (fun g4 eg4 => ?_)
  have hI5 : Inv g4 := by rw [eg4]; exact hI2.up (ok_grp (by omega) (by omega))
  have hK6 : Kp [2, 3] g g4 := by rw [eg4]; exact Kp.up hK3 (by decide) (Or.inl (by decide)) (Or.inl (by decide))
  exact m_vret C dX5_placeSubject_14 ⟨rfl, hI5, hK6⟩
set_option maxRecDepth 20000 in
set_option maxHeartbeats 4000000 in
theorem c_X5_placeObject (l : Launch) {X : XT} (hX : Lok X) (g : Mem) (o : Int32) (v : Int32) (w : Int32) (hI : Inv g) (h_o : 0 ≤ o.toInt ∧ o.toInt ≤ 15) : Ctr l X yX5_placeObject cX5_placeObject 4 none (rmD 0) [.ref (aL X 1), .int o, .int v, .int w] g (pV (fun g2 => Inv g2 ∧ Kp [6, 7] g g2)) := by
  refine Ctr.of (lv := [(0, .ref (aL X 1)), (1, .int o), (2, .int v), (3, .int w)]) hX (by decide) rfl (Nat.le_of_ble_eq_true rfl) ?_
  intro p e s m below meth c C
  refine m_aload_n C dX5_placeObject_0 0 rfl ?_
  refine m_getr (rf := "") C 4 rfl gd5 (by decide) sh_1 rfl dX5_placeObject_1 lk_X5_25 ?_
  refine m_iload_n C dX5_placeObject_4 1 rfl ?_
  refine m_iload_n C dX5_placeObject_5 2 rfl ?_
  refine m_iast C sh_6 (i_in (by omega) (by omega)) dX5_placeObject_6 ?_
  refine m_mem (fun g1 eg1 => ?_)
  have hI2 : Inv g1 := by rw [eg1]; exact hI.up (ok_any (by decide))
  have hK3 : Kp [6, 7] g g1 := by rw [eg1]; exact Kp.up Kp.rf (by decide) (Or.inl (by decide)) (Or.inl (by decide))
  refine m_aload_n C dX5_placeObject_7 0 rfl ?_
  refine m_getr (rf := "") C 5 rfl gd5 (by decide) sh_1 rfl dX5_placeObject_8 lk_X5_28 ?_
  refine m_iload_n C dX5_placeObject_11 1 rfl ?_
  refine m_iload_n C dX5_placeObject_12 3 rfl ?_
  refine m_iast C sh_7 (i_in (by omega) (by omega)) dX5_placeObject_13 ?_
  refine m_mem (fun g4 eg4 => ?_)
  have hI5 : Inv g4 := by rw [eg4]; exact hI2.up (ok_any (by decide))
  have hK6 : Kp [6, 7] g g4 := by rw [eg4]; exact Kp.up hK3 (by decide) (Or.inl (by decide)) (Or.inl (by decide))
  exact m_vret C dX5_placeObject_14 ⟨rfl, hI5, hK6⟩
set_option maxRecDepth 20000 in
set_option maxHeartbeats 4000000 in
theorem c_X5_ofSubject (l : Launch) {X : XT} (hX : Lok X) (g : Mem) (a : Int32) (w : Int32) (hI : Inv g) (h_a : 0 ≤ a.toInt ∧ a.toInt ≤ 11) : Ctr l X yX5_ofSubject cX5_ofSubject 3 (some .int) (rmD 0) [.ref (aL X 1), .int a, .int w] g (pI (fun r g2 => g2 = g ∧ True)) := by
  refine Ctr.of (lv := [(0, .ref (aL X 1)), (1, .int a), (2, .int w)]) hX (by decide) rfl (Nat.le_of_ble_eq_true rfl) ?_
  intro p e s m below meth c C
  refine m_iload_n C dX5_ofSubject_0 2 rfl ?_
  rcases Int.lt_or_le (w).toInt 0 with h1 | h1
  · skip
    refine m_tabO C 68 dX5_ofSubject_1 (Or.inl h1) (by decide) ?_
    refine m_bipush C (-2 : Int32) dX5_ofSubject_68 (by decide) ?_
    exact m_iret C dX5_ofSubject_70 ⟨_, rfl, rfl, trivial⟩
  · skip
    by_cases h2 : (w).toInt = 0
    · skip
      refine m_tabI C 32 dX5_ofSubject_1 (by omega) (by omega) (off := 31) (by rw [h2]; rfl) (by decide) ?_
      refine m_aload_n C dX5_ofSubject_32 0 rfl ?_
      refine m_getr (rf := "") C 0 rfl gd5 (by decide) sh_1 rfl dX5_ofSubject_33 lk_X5_9 ?_
      refine m_iload_n C dX5_ofSubject_36 1 rfl ?_
      refine m_iald C sh_2 (i_in (by omega) (by omega)) dX5_ofSubject_37 ?_
      exact m_iret C dX5_ofSubject_38 ⟨_, rfl, rfl, trivial⟩
    · skip
      by_cases h3 : (w).toInt = 1
      · skip
        refine m_tabI C 39 dX5_ofSubject_1 (by omega) (by omega) (off := 38) (by rw [h3]; rfl) (by decide) ?_
        refine m_aload_n C dX5_ofSubject_39 0 rfl ?_
        refine m_getr (rf := "") C 1 rfl gd5 (by decide) sh_1 rfl dX5_ofSubject_40 lk_X5_15 ?_
        refine m_iload_n C dX5_ofSubject_43 1 rfl ?_
        refine m_iald C sh_3 (i_in (by omega) (by omega)) dX5_ofSubject_44 ?_
        have r4 := iv_grp hI a.toNatClampNeg
        exact m_iret C dX5_ofSubject_45 ⟨_, rfl, rfl, trivial⟩
      · skip
        by_cases h5 : (w).toInt = 2
        · skip
          refine m_tabI C 46 dX5_ofSubject_1 (by omega) (by omega) (off := 45) (by rw [h5]; rfl) (by decide) ?_
          refine m_aload_n C dX5_ofSubject_46 0 rfl ?_
          refine m_getr (rf := "") C 2 rfl gd5 (by decide) sh_1 rfl dX5_ofSubject_47 lk_X5_18 ?_
          refine m_iload_n C dX5_ofSubject_50 1 rfl ?_
          refine m_zald C sh_4 (i_in (by omega) (by omega)) dX5_ofSubject_51 ?_
          refine m_if_eq C 59 dX5_ofSubject_52 (by decide) (fun h6 => ?_) (fun h6 => ?_)
          · skip
            have th6 := i_eq h6
            rw [show (0 : Int32).toInt = 0 by decide] at th6
            refine m_iconst C (0 : Int32) dX5_ofSubject_59 (by decide) ?_
            exact m_iret C dX5_ofSubject_60 ⟨_, rfl, rfl, trivial⟩
          · skip
            have th6 := i_ne h6
            rw [show (0 : Int32).toInt = 0 by decide] at th6
            refine m_iconst C (1 : Int32) dX5_ofSubject_55 (by decide) ?_
            refine m_goto C 60 dX5_ofSubject_56 (by decide) ?_
            exact m_iret C dX5_ofSubject_60 ⟨_, rfl, rfl, trivial⟩
        · skip
          by_cases h7 : (w).toInt = 3
          · skip
            refine m_tabI C 61 dX5_ofSubject_1 (by omega) (by omega) (off := 60) (by rw [h7]; rfl) (by decide) ?_
            refine m_aload_n C dX5_ofSubject_61 0 rfl ?_
            refine m_getr (rf := "") C 3 rfl gd5 (by decide) sh_1 rfl dX5_ofSubject_62 lk_X5_22 ?_
            refine m_iload_n C dX5_ofSubject_65 1 rfl ?_
            refine m_iald C sh_5 (i_in (by omega) (by omega)) dX5_ofSubject_66 ?_
            exact m_iret C dX5_ofSubject_67 ⟨_, rfl, rfl, trivial⟩
          · skip
            refine m_tabO C 68 dX5_ofSubject_1 (Or.inr (by omega)) (by decide) ?_
            refine m_bipush C (-2 : Int32) dX5_ofSubject_68 (by decide) ?_
            exact m_iret C dX5_ofSubject_70 ⟨_, rfl, rfl, trivial⟩
set_option maxRecDepth 20000 in
set_option maxHeartbeats 4000000 in
theorem c_X5_ofObject (l : Launch) {X : XT} (hX : Lok X) (g : Mem) (o : Int32) (w : Int32) (hI : Inv g) (h_o : 0 ≤ o.toInt ∧ o.toInt ≤ 15) : Ctr l X yX5_ofObject cX5_ofObject 3 (some .int) (rmD 0) [.ref (aL X 1), .int o, .int w] g (pI (fun r g2 => g2 = g ∧ True)) := by
  refine Ctr.of (lv := [(0, .ref (aL X 1)), (1, .int o), (2, .int w)]) hX (by decide) rfl (Nat.le_of_ble_eq_true rfl) ?_
  intro p e s m below meth c C
  refine m_iload_n C dX5_ofObject_0 2 rfl ?_
  by_cases h1 : (w).toInt = 0
  · skip
    refine m_look C 28 dX5_ofObject_1 (by decide) (off := 27) (by rw [h1]; decide) (by decide) ?_
    refine m_aload_n C dX5_ofObject_28 0 rfl ?_
    refine m_getr (rf := "") C 4 rfl gd5 (by decide) sh_1 rfl dX5_ofObject_29 lk_X5_25 ?_
    refine m_iload_n C dX5_ofObject_32 1 rfl ?_
    refine m_iald C sh_6 (i_in (by omega) (by omega)) dX5_ofObject_33 ?_
    exact m_iret C dX5_ofObject_34 ⟨_, rfl, rfl, trivial⟩
  · skip
    by_cases h2 : (w).toInt = 1
    · skip
      refine m_look C 35 dX5_ofObject_1 (by decide) (off := 34) (by rw [h2]; decide) (by decide) ?_
      refine m_aload_n C dX5_ofObject_35 0 rfl ?_
      refine m_getr (rf := "") C 5 rfl gd5 (by decide) sh_1 rfl dX5_ofObject_36 lk_X5_28 ?_
      refine m_iload_n C dX5_ofObject_39 1 rfl ?_
      refine m_iald C sh_7 (i_in (by omega) (by omega)) dX5_ofObject_40 ?_
      exact m_iret C dX5_ofObject_41 ⟨_, rfl, rfl, trivial⟩
    · skip
      refine m_look C 42 dX5_ofObject_1 (by decide) (off := 41) (by simp [Op.lookupswitch.offset]; rw [if_neg (by omega), if_neg (by omega)]) (by decide) ?_
      refine m_bipush C (-2 : Int32) dX5_ofObject_42 (by decide) ?_
      exact m_iret C dX5_ofObject_44 ⟨_, rfl, rfl, trivial⟩
