set_option maxRecDepth 100000 in
theorem kal_X8_init : CalC yX8_init cX8_init 1 0 := ⟨gtbl_of (List.mem_of_getElem? (i := 90) (rfl)) (by decide +kernel), gtbl_of (List.mem_of_getElem? (i := 75) (by decide +kernel)) (by decide +kernel), by decide +kernel, rfl, gtbl_of (List.mem_of_getElem? (i := 89) (by decide +kernel)) (by decide +kernel)⟩
set_option maxRecDepth 100000 in
theorem kal_X9_init : CalC yX9_init cX9_init 1 0 := ⟨gtbl_of (List.mem_of_getElem? (i := 735) (rfl)) (by decide +kernel), gtbl_of (List.mem_of_getElem? (i := 84) (by decide +kernel)) (by decide +kernel), by decide +kernel, rfl, gtbl_of (List.mem_of_getElem? (i := 734) (by decide +kernel)) (by decide +kernel)⟩
theorem l_nat {N : Nat} (h : N ≤ 3584) : (Int32.ofNat N).toInt = (N : Int) := Int32.toInt_ofNat_of_lt (by omega)
set_option maxRecDepth 20000 in
set_option maxHeartbeats 4000000 in
theorem law_one {X : XT} {p : Program} {l : Launch} {e : Env} {s : State} {m : MethodId} {below : List Frame} {meth : Method} {c : Code} {cells slots : Nat} {b N : Nat} {xs : Nat → Int32} (Z : LC X p s m meth c b N xs) (hN7 : N ≤ 7) (hcl : cells ≤ room_1.cells) (hsl : slots ≤ room_1.slots) (g : Mem) (hI : Inv g) (hX0 : FX g) (hM0 : FM g) (hR0 : hs_Rq g) : Wm X p l e room_1 s m #[Value.ref b] below meth c 4 cells slots (lw_Z below #[Value.ref b] s) g 18 (lvL X b 0) [] := by
  have z0 : (0 : Int32).toInt = 0 := by decide
  have z7 : (7 : Int32).toInt = 7 := by decide
  have hN := Z.2.2.2.2.1
  refine m_iload_n Z.1 dL_law_18 3 rfl ?_
  refine m_aload_n Z.1 dL_law_19 0 rfl ?_
  refine l_slen Z dL_law_20 ?_
  refine m_bipush Z.1 (7 : Int32) dL_law_21 (by decide) ?_
  refine m_isub Z.1 dL_law_23 ?_
  refine m_name (fun y ey => ?_)
  have ty : y.toInt = (N : Int) - 7 := by rw [ey]; exact i_sub (l_nat hN) (by decide) (by omega) (by omega)
  refine m_icmp_gt Z.1 1301 dL_law_24 (by decide) (fun q => ?_) (fun q => ?_)
  · exact l_end Z hcl hsl dL_law_1301 dL_law_1302
  · have q := i_nlt q
    have hi : 0 ≤ (0 : Int32).toInt ∧ (0 : Int32).toInt + 7 ≤ N := ⟨by omega, by omega⟩
    refine m_aload_n Z.1 dL_law_27 0 rfl ?_
    refine m_iload_n Z.1 dL_law_28 3 rfl ?_
    refine l_sld Z (l_in (by omega) (by omega)) dL_law_29 ?_
    refine m_bipush Z.1 (31 : Int32) dL_law_30 (by decide) ?_
    refine m_iand Z.1 dL_law_32 ?_
    refine m_name (fun x ex => ?_)
    have rx : 0 ≤ x.toInt ∧ x.toInt < 32 := by rw [ex]; exact i_and _ 5 (by decide) (by decide)
    have kk : ∀ g2 : Mem, Wm X p l e room_1 s m #[Value.ref b] below meth c 4 cells slots (lw_Z below #[Value.ref b] s) g2 1295 (lvL X b 0) [] := by
      intro g2
      refine m_iinc Z.1 (7 : Int32) [(3, .int 7), (0, .ref b), (1, .ref (aL X 0)), (2, .ref (aL X 34))] dL_law_1295 (q := 3) rfl (by decide) (by decide) rfl ?_
      refine m_goto Z.1 18 dL_law_1298 (by decide) ?_
      refine m_lv [1, 2, 3, 0] rfl ?_
      refine m_iload_n Z.1 dL_law_18 3 rfl ?_
      refine m_aload_n Z.1 dL_law_19 0 rfl ?_
      refine l_slen Z dL_law_20 ?_
      refine m_bipush Z.1 (7 : Int32) dL_law_21 (by decide) ?_
      refine m_isub Z.1 dL_law_23 ?_
      refine m_name (fun y2 ey2 => ?_)
      have ty2 : y2.toInt = (N : Int) - 7 := by rw [ey2]; exact i_sub (l_nat hN) (by decide) (by omega) (by omega)
      refine m_icmp_gt Z.1 1301 dL_law_24 (by decide) (fun q => ?_) (fun q => ?_)
      · exact l_end Z hcl hsl dL_law_1301 dL_law_1302
      · have q := i_nlt q
        exact False.elim (by omega)
    rcases (show x.toInt = 0 ∨ x.toInt = 1 ∨ x.toInt = 2 ∨ x.toInt = 3 ∨ x.toInt = 4 ∨ x.toInt = 5 ∨ x.toInt = 6 ∨ x.toInt = 7 ∨ x.toInt = 8 ∨ x.toInt = 9 ∨ x.toInt = 10 ∨ x.toInt = 11 ∨ x.toInt = 12 ∨ x.toInt = 13 ∨ x.toInt = 14 ∨ x.toInt = 15 ∨ x.toInt = 16 ∨ x.toInt = 17 ∨ x.toInt = 18 ∨ x.toInt = 19 ∨ x.toInt = 20 ∨ x.toInt = 21 ∨ x.toInt = 22 ∨ x.toInt = 23 ∨ x.toInt = 24 ∨ x.toInt = 25 ∨ x.toInt = 26 ∨ x.toInt = 27 ∨ x.toInt = 28 ∨ x.toInt = 29 ∨ x.toInt = 30 ∨ x.toInt = 31 by omega) with hx | hx | hx | hx | hx | hx | hx | hx | hx | hx | hx | hx | hx | hx | hx | hx | hx | hx | hx | hx | hx | hx | hx | hx | hx | hx | hx | hx | hx | hx | hx | hx
    · exact m_tabI (off := 143) Z.1 176 dL_law_33 (by omega) (by omega) (by rw [hx]; rfl) (by decide) (lc_0 Z hi hcl hsl hI hX0 hM0 hR0 kk)
    · exact m_tabI (off := 166) Z.1 199 dL_law_33 (by omega) (by omega) (by rw [hx]; rfl) (by decide) (lc_1 Z hi hcl hsl hI hX0 hM0 hR0 kk)
    · exact m_tabI (off := 209) Z.1 242 dL_law_33 (by omega) (by omega) (by rw [hx]; rfl) (by decide) (lc_2 Z hi hcl hsl hI hX0 hM0 hR0 kk)
    · exact m_tabI (off := 252) Z.1 285 dL_law_33 (by omega) (by omega) (by rw [hx]; rfl) (by decide) (lc_3 Z hi hcl hsl hI hX0 hM0 hR0 kk)
    · exact m_tabI (off := 295) Z.1 328 dL_law_33 (by omega) (by omega) (by rw [hx]; rfl) (by decide) (lc_4 Z hi hcl hsl hI hX0 hM0 hR0 kk)
    · exact m_tabI (off := 338) Z.1 371 dL_law_33 (by omega) (by omega) (by rw [hx]; rfl) (by decide) (lc_5 Z hi hcl hsl hI hX0 hM0 hR0 kk)
    · exact m_tabI (off := 381) Z.1 414 dL_law_33 (by omega) (by omega) (by rw [hx]; rfl) (by decide) (lc_6 Z hi hcl hsl hI hX0 hM0 hR0 kk)
    · exact m_tabI (off := 404) Z.1 437 dL_law_33 (by omega) (by omega) (by rw [hx]; rfl) (by decide) (lc_7 Z hi hcl hsl hI hX0 hM0 hR0 kk)
    · exact m_tabI (off := 437) Z.1 470 dL_law_33 (by omega) (by omega) (by rw [hx]; rfl) (by decide) (lc_8 Z hi hcl hsl hI hX0 hM0 hR0 kk)
    · exact m_tabI (off := 470) Z.1 503 dL_law_33 (by omega) (by omega) (by rw [hx]; rfl) (by decide) (lc_9 Z hi hcl hsl hI hX0 hM0 hR0 kk)
    · exact m_tabI (off := 513) Z.1 546 dL_law_33 (by omega) (by omega) (by rw [hx]; rfl) (by decide) (lc_10 Z hi hcl hsl hI hX0 hM0 hR0 kk)
    · exact m_tabI (off := 546) Z.1 579 dL_law_33 (by omega) (by omega) (by rw [hx]; rfl) (by decide) (lc_11 Z hi hcl hsl hI hX0 hM0 hR0 kk)
    · exact m_tabI (off := 579) Z.1 612 dL_law_33 (by omega) (by omega) (by rw [hx]; rfl) (by decide) (lc_12 Z hi hcl hsl hI hX0 hM0 hR0 kk)
    · exact m_tabI (off := 612) Z.1 645 dL_law_33 (by omega) (by omega) (by rw [hx]; rfl) (by decide) (lc_13 Z hi hcl hsl hI hX0 hM0 hR0 kk)
    · exact m_tabI (off := 645) Z.1 678 dL_law_33 (by omega) (by omega) (by rw [hx]; rfl) (by decide) (lc_14 Z hi hcl hsl hI hX0 hM0 hR0 kk)
    · exact m_tabI (off := 678) Z.1 711 dL_law_33 (by omega) (by omega) (by rw [hx]; rfl) (by decide) (lc_15 Z hi hcl hsl hI hX0 hM0 hR0 kk)
    · exact m_tabI (off := 711) Z.1 744 dL_law_33 (by omega) (by omega) (by rw [hx]; rfl) (by decide) (lc_16 Z hi hcl hsl hI hX0 hM0 hR0 kk)
    · exact m_tabI (off := 754) Z.1 787 dL_law_33 (by omega) (by omega) (by rw [hx]; rfl) (by decide) (lc_17 Z hi hcl hsl hI hX0 hM0 hR0 kk)
    · exact m_tabI (off := 777) Z.1 810 dL_law_33 (by omega) (by omega) (by rw [hx]; rfl) (by decide) (lc_18 Z hi hcl hsl hI hX0 hM0 hR0 kk)
    · exact m_tabI (off := 810) Z.1 843 dL_law_33 (by omega) (by omega) (by rw [hx]; rfl) (by decide) (lc_19 Z hi hcl hsl hI hX0 hM0 hR0 kk)
    · exact m_tabI (off := 843) Z.1 876 dL_law_33 (by omega) (by omega) (by rw [hx]; rfl) (by decide) (lc_20 Z hi hcl hsl hI hX0 hM0 hR0 kk)
    · exact m_tabI (off := 886) Z.1 919 dL_law_33 (by omega) (by omega) (by rw [hx]; rfl) (by decide) (lc_21 Z hi hcl hsl hI hX0 hM0 hR0 kk)
    · exact m_tabI (off := 939) Z.1 972 dL_law_33 (by omega) (by omega) (by rw [hx]; rfl) (by decide) (lc_22 Z hi hcl hsl hI hX0 hM0 hR0 kk)
    · exact m_tabI (off := 992) Z.1 1025 dL_law_33 (by omega) (by omega) (by rw [hx]; rfl) (by decide) (lc_23 Z hi hcl hsl hI hX0 hM0 hR0 kk)
    · exact m_tabI (off := 1005) Z.1 1038 dL_law_33 (by omega) (by omega) (by rw [hx]; rfl) (by decide) (lc_24 Z hi hcl hsl hI hX0 hM0 hR0 kk)
    · exact m_tabI (off := 1028) Z.1 1061 dL_law_33 (by omega) (by omega) (by rw [hx]; rfl) (by decide) (lc_25 Z hi hcl hsl hI hX0 hM0 hR0 kk)
    · exact m_tabI (off := 1041) Z.1 1074 dL_law_33 (by omega) (by omega) (by rw [hx]; rfl) (by decide) (lc_26 Z hi hcl hsl hI hX0 hM0 hR0 kk)
    · exact m_tabI (off := 1064) Z.1 1097 dL_law_33 (by omega) (by omega) (by rw [hx]; rfl) (by decide) (lc_27 Z hi hcl hsl hI hX0 hM0 hR0 kk)
    · exact m_tabI (off := 1097) Z.1 1130 dL_law_33 (by omega) (by omega) (by rw [hx]; rfl) (by decide) (lc_28 Z hi hcl hsl hI hX0 hM0 hR0 kk)
    · exact m_tabI (off := 1110) Z.1 1143 dL_law_33 (by omega) (by omega) (by rw [hx]; rfl) (by decide) (lc_29 Z hi hcl hsl hI hX0 hM0 hR0 kk)
    · exact m_tabI (off := 1225) Z.1 1258 dL_law_33 (by omega) (by omega) (by rw [hx]; rfl) (by decide) (lc_30 Z hi hcl hsl hI hX0 hM0 hR0 kk)
    · exact m_tabI (off := 1248) Z.1 1281 dL_law_33 (by omega) (by omega) (by rw [hx]; rfl) (by decide) (lc_31 Z hi hcl hsl hI hX0 hM0 hR0 kk)
set_option maxRecDepth 20000 in
set_option maxHeartbeats 4000000 in
theorem whole_start {p : Program} {e : Env} {s : State} {m : MethodId} {below : List Frame} {meth : Method} {c : Code} (l : Launch) {b L : Nat} {xs : Nat → Int32} (hL : L ≤ 7) (C0 : lw_At p s m meth c b L xs) : W p l e room_1 s m #[Value.ref b] below meth c s.heap [] 0 0 (lw_Z below #[Value.ref b] s) (entryFrame m ([Value.ref b] : List Value).toArray 4) := by
  obtain ⟨hx, hb, hr, hml, hown, hts, hX, hbl, hlocks, hgv⟩ := id C0
  obtain ⟨X, hXb, hF⟩ := en_Fx hts hgv
  have htg : ∀ w ∈ gtbl, w.before #[Value.ref b] s = true := fun w h => hts w (List.mem_filter.mp h).1
  have hA : ∀ q, s.heap.size ≤ q → Ab X q := fun q h => by
    show X.2.2.2.2.1 ≤ q
    rw [hXb]; exact h
  have hA2 : ∀ q, Ab X q → s.heap.size ≤ q := fun q h => by
    have h : X.2.2.2.2.1 ≤ q := h
    rw [hXb] at h; exact h
  have C : Cw X p s m #[Value.ref b] c cL_law 4 RL := ⟨hx, hb, hml, hown, htg, hF, hA⟩
  have hl := lv_entry ([.ref b] : List Value) (n := 4) (Nat.le_of_ble_eq_true rfl)
  rw [lg_entry_eq]
  have K : Wc X p l e room_1 s m #[Value.ref b] below meth c 4 (lw_Z below #[Value.ref b] s) (fun _ => 0) [] 0 0 0 [(0, .ref b)] [] := by
    refine w_new (ci := 8) C [some none, some none, some none, some none, some none, some none, some none, some none, some none, none, none] tyX8 tyX8_ok rfl gd8 (gtbl_of (by decide +kernel) (by decide +kernel)) (gtbl_of (by decide +kernel) (by decide +kernel)) (gtbl_of (by decide +kernel) (by decide +kernel)) (by decide) (by decide) (fun j hj => match j, hj with | 0, _ => rfl | 1, _ => rfl | 2, _ => rfl | 3, _ => rfl | 4, _ => rfl | 5, _ => rfl | 6, _ => rfl | 7, _ => rfl | 8, _ => rfl | 9, _ => rfl | 10, _ => rfl | j + 11, h => absurd h (by omega)) (Nat.le_of_ble_eq_true rfl) (Nat.le_of_ble_eq_true rfl) dL_law_0 (fun L1 gL1 => ?_)
    refine c_shs (b := [.inl (8, [some none, some none, some none, some none, some none, some none, some none, some none, some none, none, none])]) (sb := [.ref (L1 0)]) rfl rfl ?_
    refine w_dup C dL_law_3 rfl ?_
    refine w_init (st := [.ref (L1 0)]) C kal_X8_init (k_X8_init_1 l X L1) lk_L_9 ⟨Nat.le_of_ble_eq_true rfl, Nat.le_of_ble_eq_true rfl⟩ rfl rfl (Nat.le_of_ble_eq_true rfl) dL_law_4 ⟨Nat.le_of_ble_eq_true rfl, Nat.le_of_ble_eq_true rfl⟩ (fun L2 gL2 => ?_)
    rw [← gL2 0 (by decide)]
    refine w_astore_n C [(1, .ref (L2 0)), (0, .ref b)] dL_law_7 (by decide) rfl ?_
    refine w_new (ci := 9) C [some none, some none, some none, some none, none, some none, none, some none, some none, some none, some none, some none, some none, some none, none, none, none, none, some none, some none, none, none, some none, some none, some none, some none, none, some none, some none, some none, some none, some none, some none, some none] tyX9 tyX9_ok rfl gd9 (gtbl_of (by decide +kernel) (by decide +kernel)) (gtbl_of (by decide +kernel) (by decide +kernel)) (gtbl_of (by decide +kernel) (by decide +kernel)) (by decide) (by decide) (fun j hj => match j, hj with | 0, _ => rfl | 1, _ => rfl | 2, _ => rfl | 3, _ => rfl | 4, _ => rfl | 5, _ => rfl | 6, _ => rfl | 7, _ => rfl | 8, _ => rfl | 9, _ => rfl | 10, _ => rfl | 11, _ => rfl | 12, _ => rfl | 13, _ => rfl | 14, _ => rfl | 15, _ => rfl | 16, _ => rfl | 17, _ => rfl | 18, _ => rfl | 19, _ => rfl | 20, _ => rfl | 21, _ => rfl | 22, _ => rfl | 23, _ => rfl | 24, _ => rfl | 25, _ => rfl | 26, _ => rfl | 27, _ => rfl | 28, _ => rfl | 29, _ => rfl | 30, _ => rfl | 31, _ => rfl | 32, _ => rfl | 33, _ => rfl | j + 34, h => absurd h (by omega)) (Nat.le_of_ble_eq_true rfl) (Nat.le_of_ble_eq_true rfl) dL_law_8 (fun L3 gL3 => ?_)
    rw [← gL3 0 (by decide)]
    refine c_shs (b := [.inl (8, [some (some 1), some (some 9), some (some 13), some (some 16), some (some 20), some (some 25), some (some 27), some (some 30), some (some 32), none, none]), .inl (5, [some (some 2), some (some 3), some (some 4), some (some 5), some (some 6), some (some 7), some (some 8), none, none]), .inr (false, 12), .inr (false, 12), .inr (true, 12), .inr (false, 12), .inr (false, 16), .inr (false, 16), .inr (true, 1280), .inl (1, [some (some 10), some (some 11), some (some 12), none]), .inr (false, 32), .inr (false, 64), .inr (false, 8), .inl (7, [some (some 9), some (some 14)]), .inl (2, [some (some 15)]), .inr (false, 1016), .inl (4, [some (some 9), some (some 13), some (some 17), some (some 18), none]), .inr (false, 720), .inl (2, [some (some 19)]), .inr (false, 488), .inl (6, [some (some 13), some (some 21), some (some 23), some (some 24), none, none]), .inl (2, [some (some 22)]), .inr (false, 64), .inr (false, 8), .inr (false, 8), .inl (2, [some (some 26)]), .inr (false, 32), .inl (3, [some (some 9), some (some 20), some (some 25), some (some 28), none, none]), .inl (2, [some (some 29)]), .inr (false, 16), .inl (0, [some (some 31), none, none]), .inr (false, 1020), .inl (2, [some (some 33)]), .inr (false, 8), .inl (9, [some none, some none, some none, some none, none, some none, none, some none, some none, some none, some none, some none, some none, some none, none, none, none, none, some none, some none, none, none, some none, some none, some none, some none, none, some none, some none, some none, some none, some none, some none, some none])]) (sb := [.ref (L3 34)]) rfl rfl ?_
    refine w_dup C dL_law_11 rfl ?_
    refine w_initM (st := [.ref (L3 34)]) C kal_X9_init (k_X9_init l X L3) lk_L_12 ⟨Nat.le_of_ble_eq_true rfl, Nat.le_of_ble_eq_true rfl⟩ rfl rfl (Nat.le_of_ble_eq_true rfl) dL_law_12 ⟨Nat.le_of_ble_eq_true rfl, Nat.le_of_ble_eq_true rfl⟩ (fun L4 g gL4 hlk hI hK => ?_)
    rw [← gL4 0 (by decide), ← gL4 34 (by decide)]
    have Z : LC (XL X L4) p s m meth c b L xs := ⟨⟨hx, hb, hml, hown, htg, hF, hlk, hr, hlocks⟩, hX, hbl, fun h => absurd (hA2 b h) (Nat.not_le.mpr hbl), Nat.le_trans hL (by decide), hA2⟩
    refine m_astore_n Z.1 [(2, .ref (L4 34)), (1, .ref (L4 0)), (0, .ref b)] dL_law_15 (by decide) rfl ?_
    refine m_iconst Z.1 (0 : Int32) dL_law_16 (by decide) ?_
    refine m_istore_n Z.1 [(3, .int 0), (2, .ref (L4 34)), (1, .ref (L4 0)), (0, .ref b)] dL_law_17 (by decide) rfl ?_
    refine m_lv [3, 2, 1, 0] rfl ?_
    have hE : hs_Rq g := hK.2
    have hX0 : FX g := fun k i hk => congrFun (hK.1.1 k (by simp; omega) (by omega)) i
    have hM0 : FM g := FM.zero hK.1
    exact law_one Z hL (by decide) (by decide) g hI hX0 hM0 hE
  exact K s.heap [] _ (fun k q h => by simp [wlq] at h) ⟨fun i j p q h => by simp [wlq] at h, fun k q h => by simp [wlq] at h⟩ va_S.rf hl
set_option maxHeartbeats 4000000 in
theorem lw_walk (l : Launch) (b : Addr) (xs : List Int32) : MetFree l x (headSpec (Jvm.Cond.code x code maxLocals ret :: tables_1) room_1) (lw_P b xs) (fun _ _ _ _ _ => True) lw_Q := by
  refine MetFree.of_bodyS (code := code) (maxLocals := maxLocals) (ret := ret) (by decide) ?_ ?_
  · intro args s m h hn
    obtain ⟨meth, c, h1, h2, h3, h4, h5, h6, -, -⟩ := Cond.code_spec hn (atoms_spec (ws := Jvm.Cond.code x code maxLocals ret :: tables_1) h _ List.mem_cons_self)
    exact ⟨meth, c, h1, h2, h3, h4, h5, h6⟩
  · intro p e s m args below meth c s₁ B hml0 hP _
    obtain ⟨rfl, hx, hbd, hgv⟩ := hP
    obtain ⟨scr, harrAt, hlist, hof, hsmall⟩ := hx
    obtain ⟨hcb, hkn, -, -⟩ := State.arrayAt?_spec harrAt
    have hown : s.vm.findClass R_law = some m.cls := findClass_of_methodNamed B.named
    have hts0 : ∀ c ∈ (Jvm.Cond.code x code maxLocals ret :: tables_1), c.before #[Value.ref b] s = true := atoms_spec (ws := Jvm.Cond.code x code maxLocals ret :: tables_1) B.pre
    have hts : ∀ w ∈ lw_tbl, w.before #[Value.ref b] s = true := k2_hts_sels lw_privs (fun w hw => hts0 w (List.mem_cons_of_mem _ hw)) lw_privs_ok
    have hml : c.maxLocals = 4 := B.maxLocals_eq (hts0 _ List.mem_cons_self)
    have X₀ : Stand p l e room_1 s m #[Value.ref b] below meth c s₁ [] 0 0 := Stand.of_body B
    have hh0 : s₁.heap = s.heap := by rw [B.state]; rfl
    have hsz : scr.slots.size = xs.length := by rw [← Array.length_toList, hlist, List.length_map]
    have hval : ∀ j : Nat, j < xs.length → scr.slots[j]? = some (.int (xs.getD j 0)) := fun j hj => by
      rw [← Array.getElem?_toList, hlist]
      simp [hj]
    have hbl : b < s.heap.size := (Array.getElem?_eq_some_iff.mp hcb).1
    have hX : va_X b xs.length (fun j => xs.getD j 0) s s.heap := ⟨scr, hcb, hof, hkn, hsz, hval⟩
    have K : W p l e room_1 s m #[Value.ref b] below meth c s₁.heap [] 0 0 (lw_Z below #[Value.ref b] s) (entryFrame m ([Value.ref b] : List Value).toArray 4) := by
      rw [hh0]
      exact whole_start l hbd ⟨B.exec, B.bytes, B.returns, hml, hown, hts, hX, hbl, B.notSynchronized, hgv⟩
    obtain ⟨t, a1, o, b1, b2, b3⟩ := K s₁ rfl X₀
    exact ⟨t, o, a1, b1, b2, b3⟩
theorem lw_pre_spec {args : Array Value} {s : State} (h : (Jvm.Cond.and given_1 narrow_1).before args s = true) (hr : rest_1_c.before args s = true) : ∃ (b : Addr) (xs : List Int32), lw_P b xs args s := by
  have hs := flat_of_before _ h
  have hq := flat_of_before _ hr
  have hc : (Cond.count 1).before args s = true := hs _ (by decide +kernel)
  have harr : (Cond.arrayOf (.arg 0) .int).before args s = true := hs _ (by decide +kernel)
  have hle : (Cond.le (.length (.arg 0)) (.int 7)).before args s = true := hs _ (by decide +kernel)
  have hlen : (Cond.isInt (.length (.arg 0))).before args s = true := hq _ (by decide +kernel)
  have hall : (Cond.all (.arg 0) (.isInt (.elem (.arg 0) (.index 0)))).before args s = true := hq _ (by decide +kernel)
  obtain ⟨b, xs, hb, hx⟩ := State.ints_of_pre rfl harr hlen hall
  have hsm : xs.length < 2 ^ 31 := hx.choose_spec.2.2.2
  have hev : (Term.length (.arg 0)).eval args s none [] s = some (.int xs.length.toInt32) := hx.length_eval hb
  have hv := Cond.le_ints hev (show (Term.int 7).eval args s none [] s = some (.int 7) from rfl)
  have hd : xs.length.toInt32 ≤ 7 := by
    simpa [Cond.before, Cond.holds, hv] using hle
  have hN : xs.length ≤ 7 := (Int32.ofNat_le_ofNat hsm (by decide)).mp (show Int32.ofNat xs.length ≤ Int32.ofNat 7 from hd)
  exact ⟨b, xs, Cond.one_arg hc (show args[0]? = some (.ref b) from hb), hx, hN, h⟩
theorem lw_comes (l : Launch) : Comes l x (Jvm.Cond.code x code maxLocals ret :: tables_1) room_1 (fun tb e args s => Calls_1 tb e args s ∧ rest_1 tb e args s ∧ Pre_1 tb e args s)
    (fun _ _ args s o t => lw_Q args s o t) := by
  intro p e ha hc hk s m args below hf hfit hheap happ hpre
  obtain ⟨b, xs, hP⟩ := lw_pre_spec hpre.2.2 hpre.2.1
  obtain ⟨k, o, h1, h2, h3, hQ⟩ := lw_walk l b xs p e ha hc hk s m args below hf ((Spec.applies_iff_loose hf).mp happ).1 hP trivial
  exact ⟨k, o, h1, h2, h3, hQ⟩
theorem lw_frame {s t : State} {o : Outcome} {args : Array Value} (h : Framed s o t [] 600000 7302250) :
    Framed s o t (fieldLocs frame_1_writes args s ++ arrayLocs frame_1_arrays args s ++ staticLocs frame_1_statics s) 600000 7302250 := h
theorem lw_limb (L : Cond) (hL : ∀ (args : Array Value) (s t : State), L.after args s (.returned (some (.int 1))) t = true) :
    ArmFor flags0 classFile x code maxLocals ret World_1 tables_1 room_1 Calls_1 rest_1 Pre_1
      (fun tb e a s o t => postC L tb e a s o t ∧ Framed s o t (fieldLocs frame_1_writes a s ++ arrayLocs frame_1_arrays a s ++ staticLocs frame_1_statics s) 600000 7302250) := by
  intro l _ _ _ p e ha hc hk s m args below hf hfit hheap happ hpre
  obtain ⟨k, o, h1, h2, h3, rfl, hF⟩ := lw_comes l p e ha hc hk s m args below hf hfit hheap happ hpre
  exact ⟨k, _, h1, h2, h3, hL args s _, lw_frame hF⟩
theorem i_vc : Claimed_1_1 ∧ Claimed_1_2 := ⟨lw_limb limb_1_1 (fun args s t => by simp [limb_1_1, Cond.after, Cond.holds, Cond.value]), lw_limb limb_1_2 (fun args s t => Cond.after_iff.mpr (by
  first | (rw [show limb_1_2 = Cond.eq .result (.int 1) from rfl, Cond.eq_ints (x := 1) (y := 1) rfl rfl]; simp; done) | (simp [limb_1_2, Cond.value, Term.eval]; done)))⟩
