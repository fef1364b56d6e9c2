/-! ===== what a step of the hashers does, said of the flat memory ===== -/
theorem hs_nx {x x' : Int32} (hx : x'.toInt = x.toInt + 1) (h0 : 0 ≤ x.toInt) : x'.toNatClampNeg = x.toNatClampNeg + 1 := by
  have a := i_cl h0
  have b := i_cl (x := x') (by omega)
  omega
theorem hs_nn {x y : Int32} (h : x.toInt = y.toInt) : x.toNatClampNeg = y.toNatClampNeg := by rw [Int32.toInt_inj.mp h]
theorem hs_nv {x : Int32} {n : Nat} (h : x.toInt = (n : Int)) : x.toNatClampNeg = n := by
  have a := i_cl (x := x) (by omega)
  omega
theorem hs_z {P : Nat → Prop} : ∀ t, t < (0 : Int32).toNatClampNeg → P t := fun t h => absurd (show t < 0 from h) (Nat.not_lt_zero t)
theorem hs_up {gn gp : Mem} {k : Nat} {x x' v : Int32} {f : Nat → Int32} (en : gn = up2 gp k x.toNatClampNeg v) (hv : v = f x.toNatClampNeg) (hx : x'.toInt = x.toInt + 1) (h0 : 0 ≤ x.toInt) (h : ∀ t, t < x.toNatClampNeg → gp k t = f t) : ∀ t, t < x'.toNatClampNeg → gn k t = f t := by
  intro t ht
  rw [hs_nx hx h0] at ht
  rw [en]
  by_cases e : t = x.toNatClampNeg
  · rw [e, up2_self, hv]
  · rw [up2_nei (Or.inr e)]; exact h t (by omega)
theorem hs_kp {gn gp : Mem} {k i a : Nat} {v : Int32} {P : (Nat → Int32) → Prop} (e : gn = up2 gp k i v) (hk : a ≠ k) (h : P (gp a)) : P (gn a) := by rw [e, up2_ne hk]; exact h
theorem hs_add {g ga gb : Mem} {x v : Int32} (ea : ga = up2 g 10 x.toNatClampNeg (g 10 x.toNatClampNeg <<< ((8 : Int32) &&& 31) ||| (v &&& (255 : Int32)))) (eb : gb = up2 ga 9 3 (ga 9 3 + (1 : Int32))) (hx : x.toInt = (g 9 3).toInt / 4) (h0 : 0 ≤ (g 9 3).toInt) (h1 : (g 9 3).toInt ≤ 59) : (gb 9 3).toInt = (g 9 3).toInt + 1 ∧ (∀ j, gb 10 j = if j = (g 9 3).toNatClampNeg / 4 then hs_a0 (g 10 j) (v &&& 255) else g 10 j) := by
  have hga : ga 9 3 = g 9 3 := by rw [ea, up2_nei (Or.inl (by decide))]
  have hxn : x.toNatClampNeg = (g 9 3).toNatClampNeg / 4 := by
    have a := i_cl h0
    have b := i_cl (x := x) (by omega)
    omega
  refine ⟨?_, fun j => ?_⟩
  · rw [eb, up2_self, hga]
    exact i_add rfl (by decide) (by omega) (by omega)
  · rw [eb, up2_nei (Or.inl (by decide)), ea, ← hxn]
    by_cases e : j = x.toNatClampNeg
    · rw [if_pos e, e, up2_self]; rfl
    · rw [if_neg e, up2_nei (Or.inr e)]
/-- one more byte of the row -/
theorem hs_Msx {b : Nat → Int32} {g g2 : Mem} {n x v : Int32} (hm : hs_Ms b n.toNatClampNeg (g 10)) (hv : v = b n.toNatClampNeg) (hf : ∀ j, g2 10 j = if j = (g 9 3).toNatClampNeg / 4 then hs_a0 (g 10 j) v else g 10 j) (hl : (g 9 3).toInt = n.toInt) (h0 : 0 ≤ n.toInt) (hx : x.toInt = n.toInt + 1) : hs_Ms b x.toNatClampNeg (g2 10) := by
  rw [hs_nx hx h0]
  refine hs_Ms_up hm hv (fun j => ?_)
  rw [hf j, hs_nn hl]
/-- spread -/
theorem hs_sp1 {g gp gn : Mem} {x x' b : Int32} (en : gn = up2 gp 11 x.toNatClampNeg (gp 10 (b * (16 : Int32) + x).toNatClampNeg)) (hb : b = 0) (hK : gn 10 = g 10) (hx : x'.toInt = x.toInt + 1) (h0 : 0 ≤ x.toInt) (h : ∀ t, t < x.toNatClampNeg → gp 11 t = g 10 t) : ∀ t, t < x'.toNatClampNeg → gn 11 t = g 10 t := by
  have hK2 : gp 10 = g 10 := by rw [en, up2_ne (by decide)] at hK; exact hK
  refine hs_up en ?_ hx h0 h
  rw [hK2, hb]
  have : (0 : Int32) * 16 + x = x := by
    rw [show (0 : Int32) * 16 = 0 by decide]; exact Int32.zero_add x
  rw [this]
theorem hs_Sn16 {M W : Nat → Int32} {x : Int32} (h : ∀ t, t < x.toNatClampNeg → W t = M t) (hx : x.toInt = 16) : hs_Sn M W (16 : Int32).toNatClampNeg := by
  have e : (16 : Int32).toNatClampNeg = 16 := by decide
  rw [hs_nv (n := 16) hx] at h
  rw [e]
  exact ⟨h, fun t h1 h2 => absurd h2 (by omega)⟩
theorem hs_Sn64 {M W : Nat → Int32} {x : Int32} (h : hs_Sn M W x.toNatClampNeg) (hx : x.toInt = 64) : hs_Sn M W 64 := by
  rw [hs_nv (n := 64) hx] at h; exact h
theorem hs_ix {x : Int32} {k : Int32} {n : Nat} (hk : k.toInt = (n : Int)) (h16 : 16 ≤ x.toInt) (hn : n ≤ 16) (h64 : x.toInt ≤ 64) : (x - k).toNatClampNeg = x.toNatClampNeg - n := by
  have e := i_sub (x := x) (y := k) rfl hk (by omega) (by omega)
  have a := i_cl (x := x) (by omega)
  have b := i_cl (x := x - k) (by omega)
  omega
theorem hs_sp2 {M : Nat → Int32} {gp gn : Mem} {k : Nat} {x x' p q lo hi : Int32} (en : gn = up2 gp k x.toNatClampNeg (((gp k (x - (16 : Int32)).toNatClampNeg + lo) + gp k (x - (7 : Int32)).toNatClampNeg) + hi)) (ep : p = gp k (x - (15 : Int32)).toNatClampNeg) (eq : q = gp k (x - (2 : Int32)).toNatClampNeg) (elo : lo = hs_lo p) (ehi : hi = hs_hi q) (h16 : 16 ≤ x.toInt) (h64 : x.toInt ≤ 63) (hx : x'.toInt = x.toInt + 1) (h : hs_Sn M (gp k) x.toNatClampNeg) : hs_Sn M (gn k) x'.toNatClampNeg := by
  have hc := i_cl (x := x) (by omega)
  rw [hs_nx hx (by omega), en]
  have e : up2 gp k x.toNatClampNeg (((gp k (x - (16 : Int32)).toNatClampNeg + lo) + gp k (x - (7 : Int32)).toNatClampNeg) + hi) k = upd (gp k) x.toNatClampNeg (((gp k (x - (16 : Int32)).toNatClampNeg + lo) + gp k (x - (7 : Int32)).toNatClampNeg) + hi) := up2_eq
  rw [e]
  refine hs_Sn_up (by omega) h ?_
  rw [elo, ehi, ep, eq, hs_ix (n := 16) (by decide) h16 (by decide) (by omega), hs_ix (n := 15) (by decide) h16 (by decide) (by omega), hs_ix (n := 7) (by decide) h16 (by decide) (by omega), hs_ix (n := 2) (by decide) h16 (by decide) (by omega)]
/-- mix -/
theorem hs_mi {K W f fm : Nat → Int32} {a b c d e f' g h : Int32} (hk : fm = f) (e1 : a = fm (0 : Int32).toNatClampNeg) (e2 : b = fm (1 : Int32).toNatClampNeg) (e3 : c = fm (2 : Int32).toNatClampNeg) (e4 : d = fm (3 : Int32).toNatClampNeg) (e5 : e = fm (4 : Int32).toNatClampNeg) (e6 : f' = fm (5 : Int32).toNatClampNeg) (e7 : g = fm (6 : Int32).toNatClampNeg) (e8 : h = fm (7 : Int32).toNatClampNeg) : (a, b, c, d, e, f', g, h) = hs_rn K W (hs_t8 f) (0 : Int32).toNatClampNeg := by
  rw [e1, e2, e3, e4, e5, e6, e7, e8, hk]; rfl
theorem hs_ms {K W Wm : Nat → Int32} {s0 : hs_8} {a b c d e f g h tu on ot tw e' a' x x' : Int32} (e10 : tu = (hs_rt e 6 26 ^^^ hs_rt e 11 21) ^^^ hs_rt e 25 7) (e11 : on = (((h + tu) + ((e &&& f) ^^^ ((e ^^^ (-1 : Int32)) &&& g))) + K x.toNatClampNeg) + Wm x.toNatClampNeg) (e12 : ot = (hs_rt a 2 30 ^^^ hs_rt a 13 19) ^^^ hs_rt a 22 10) (e13 : tw = ot + (((a &&& b) ^^^ (a &&& c)) ^^^ (b &&& c))) (e5 : e' = d + on) (e1 : a' = on + tw) (hW : Wm = W) (hx : x'.toInt = x.toInt + 1) (h0 : 0 ≤ x.toInt) (hi : (a, b, c, d, e, f, g, h) = hs_rn K W s0 x.toNatClampNeg) : (a', a, b, c, e', e, f, g) = hs_rn K W s0 x'.toNatClampNeg := by
  rw [hs_nx hx h0, hs_rn, ← hi, e1, e5, e13, e11, e12, e10, hW]; rfl
theorem hs_mf {g g0 g1 g2 g3 g4 g5 g6 g7 g8 : Mem} {K W : Nat → Int32} {k : Nat} {a b c d e f' g' h x : Int32} (e1 : g1 = up2 g0 k (0 : Int32).toNatClampNeg (g0 k (0 : Int32).toNatClampNeg + a)) (e2 : g2 = up2 g1 k (1 : Int32).toNatClampNeg (g1 k (1 : Int32).toNatClampNeg + b)) (e3 : g3 = up2 g2 k (2 : Int32).toNatClampNeg (g2 k (2 : Int32).toNatClampNeg + c)) (e4 : g4 = up2 g3 k (3 : Int32).toNatClampNeg (g3 k (3 : Int32).toNatClampNeg + d)) (e5 : g5 = up2 g4 k (4 : Int32).toNatClampNeg (g4 k (4 : Int32).toNatClampNeg + e)) (e6 : g6 = up2 g5 k (5 : Int32).toNatClampNeg (g5 k (5 : Int32).toNatClampNeg + f')) (e7 : g7 = up2 g6 k (6 : Int32).toNatClampNeg (g6 k (6 : Int32).toNatClampNeg + g')) (e8 : g8 = up2 g7 k (7 : Int32).toNatClampNeg (g7 k (7 : Int32).toNatClampNeg + h)) (hk : g0 k = g k) (hi : (a, b, c, d, e, f', g', h) = hs_rn K W (hs_t8 (g k)) x.toNatClampNeg) (hx : x.toInt = 64) : (∀ j, j < 8 → g8 k j = hs_mx K W (g k) j) ∧ ∀ c, c ≠ k → g8 c = g0 c := by
  rw [hs_nv (n := 64) hx] at hi
  have c0 : (0 : Int32).toNatClampNeg = 0 := by decide
  have c1 : (1 : Int32).toNatClampNeg = 1 := by decide
  have c2 : (2 : Int32).toNatClampNeg = 2 := by decide
  have c3 : (3 : Int32).toNatClampNeg = 3 := by decide
  have c4 : (4 : Int32).toNatClampNeg = 4 := by decide
  have c5 : (5 : Int32).toNatClampNeg = 5 := by decide
  have c6 : (6 : Int32).toNatClampNeg = 6 := by decide
  have c7 : (7 : Int32).toNatClampNeg = 7 := by decide
  rw [c0] at e1; rw [c1] at e2; rw [c2] at e3; rw [c3] at e4; rw [c4] at e5; rw [c5] at e6; rw [c6] at e7; rw [c7] at e8
  refine ⟨fun j hj => ?_, fun q hq => by rw [e8, up2_ne hq, e7, up2_ne hq, e6, up2_ne hq, e5, up2_ne hq, e4, up2_ne hq, e3, up2_ne hq, e2, up2_ne hq, e1, up2_ne hq]⟩
  rw [hs_mx, ← hi, ← hk, e8, e7, e6, e5, e4, e3, e2, e1]
  match j, hj with
  | 0, _ => simp [up2, upd, hs_pr]
  | 1, _ => simp [up2, upd, hs_pr]
  | 2, _ => simp [up2, upd, hs_pr]
  | 3, _ => simp [up2, upd, hs_pr]
  | 4, _ => simp [up2, upd, hs_pr]
  | 5, _ => simp [up2, upd, hs_pr]
  | 6, _ => simp [up2, upd, hs_pr]
  | 7, _ => simp [up2, upd, hs_pr]
  | j + 8, h => exact absurd h (by omega)
theorem hs_bf {g g0 g8 : Mem} {M : Nat → Int32} {K : Nat → Int32} (mf : (∀ j, j < 8 → g8 37 j = hs_mx K (g0 36) (g 37) j) ∧ ∀ c, c ≠ 37 → g8 c = g0 c) (hS : hs_Sn M (g0 36) 64) : hs_Sn M (g8 36) 64 ∧ (∀ j, j < 8 → g8 37 j = hs_mx K (g8 36) (g 37) j) := by
  rw [mf.2 36 (by decide)]; exact ⟨hS, mf.1⟩
theorem hs_ltn {n x : Int32} (h0 : 0 ≤ n.toInt) (h : n.toInt < x.toInt) : n.toNatClampNeg < x.toNatClampNeg := by
  have a := i_cl h0
  have b := i_cl (x := x) (by omega)
  omega
theorem hs_dn {P : Nat → Prop} {n x : Int32} (h : ∀ j, j < n.toNatClampNeg → P j) (hl : x.toInt = n.toInt) : ∀ j, j < x.toNatClampNeg → P j := by rw [hs_nn hl]; exact h
theorem hs_bv1 {b : Nat → Int32} {n x v : Int32} (hb : b n.toNatClampNeg = v) (hl : x.toInt = n.toInt) : v = b x.toNatClampNeg := by rw [hs_nn hl]; exact hb.symm
theorem hs_vv {b : Nat → Int32} {i x v : Int32} (hl : x.toInt = i.toInt) (hv : v = b i.toNatClampNeg) : v = b x.toNatClampNeg := by rw [hs_nn hl]; exact hv
theorem hs_z0 {P : Nat → Prop} {x : Int32} (h : x.toInt = 0) : ∀ j, j < x.toNatClampNeg → P j := by
  rw [hs_nv (n := 0) h]
  exact fun j hj => absurd hj (Nat.not_lt_zero j)
/-- finish -/
def hs_Mq (b : Nat → Int32) (n : Int32) (f : Nat → Int32) : Prop := ∀ j, j < 16 → f j = hs_MM b n j
def hs_Vq (f : Nat → Int32) : Prop := ∀ j, j < 8 → f j = vS j
def hs_Fq (b : Nat → Int32) (n : Int32) (f : Nat → Int32) : Prop := ∃ W : Nat → Int32, hs_Sn (hs_MM b n) W 64 ∧ ∀ j, j < 8 → f j = hs_fin W j
theorem hs_f2 {b : Nat → Int32} {g gm gn : Mem} {n x bits : Int32} (en : gn = up2 gm 10 ((1 : Int32) * (16 : Int32) - (1 : Int32)).toNatClampNeg bits) (eb : bits = g 9 3 * (8 : Int32)) (hl : (g 9 3).toInt = n.toInt) (hm : hs_Ms b x.toNatClampNeg (gm 10)) (hx : x.toInt = 60) : hs_Mq b n (gn 10) := by
  have c : ((1 : Int32) * (16 : Int32) - (1 : Int32)).toNatClampNeg = 15 := by decide
  rw [c] at en
  rw [hs_nv (n := 60) hx] at hm
  intro j hj
  rw [hs_MM, en]
  by_cases e : j < 15
  · rw [if_pos e, up2_nei (Or.inr (by omega))]
    exact hs_Ms_wd hm (by omega)
  · rw [if_neg e, show j = 15 by omega, up2_self, eb, Int32.toInt_inj.mp hl]
theorem hs_v8 {x : Int32} {f : Nat → Int32} (h : ∀ t, t < x.toNatClampNeg → f t = vS t) (hx : x.toInt = 8) : hs_Vq f := by
  rw [hs_nv (n := 8) hx] at h; exact h
theorem hs_Sn_M {M M' W : Nat → Int32} {n : Nat} (h : hs_Sn M W n) (hM : ∀ t, t < 16 → M t = M' t) : hs_Sn M' W n := ⟨fun t ht => (h.1 t ht).trans (hM t ht), h.2⟩
theorem hs_f3 {b : Nat → Int32} {n : Int32} {gm gs gx : Mem} (h1 : hs_Mq b n (gm 10)) (h2 : hs_Vq (gm 12)) (hs : hs_Sn (gm 10) (gs 11) 64) (hk : gs 12 = gm 12) (hm : ∀ j, j < 8 → gx 12 j = hs_mx vR (gs 11) (gs 12) j) : hs_Fq b n (gx 12) :=
  ⟨gs 11, hs_Sn_M hs h1, fun j hj => by rw [hm j hj, hk]; exact hs_mx_eq (fun _ _ => rfl) (fun _ _ => rfl) h2 j hj⟩
theorem hs_f4 {gp gn : Mem} {x x' t : Int32} (en : gn = up2 gp 33 (t * (8 : Int32) + x).toNatClampNeg (gp 12 x.toNatClampNeg)) (ht : t = 0) (hx : x'.toInt = x.toInt + 1) (h0 : 0 ≤ x.toInt) (h : ∀ t, t < x.toNatClampNeg → gp 33 t = gp 12 t) : ∀ t, t < x'.toNatClampNeg → gn 33 t = gn 12 t := by
  have e : t * (8 : Int32) + x = x := by
    rw [ht, show (0 : Int32) * 8 = 0 by decide]; exact Int32.zero_add x
  rw [e] at en
  have e2 : gn 12 = gp 12 := by rw [en, up2_ne (by decide)]
  rw [e2]
  exact hs_up en rfl hx h0 h
theorem hs_f5 {b : Nat → Int32} {n x : Int32} {g : Mem} (h : ∀ t, t < x.toNatClampNeg → g 33 t = g 12 t) (hF : hs_Fq b n (g 12)) (hx : x.toInt = 8) : hs_Fq b n (g 33) := by
  rw [hs_nv (n := 8) hx] at h
  obtain ⟨W, h1, h2⟩ := hF
  exact ⟨W, h1, fun j hj => (h j hj).trans (h2 j hj)⟩
theorem hs_ba {g : Mem} {h k : Int32} (hh : h = 0) (hk : 0 ≤ k.toInt ∧ k.toInt ≤ 31) : hs_us (g 33 (h * (8 : Int32) + k >>> ((2 : Int32) &&& 31)).toNatClampNeg) ((24 : Int32) - (8 : Int32) * (k &&& (3 : Int32))) &&& (255 : Int32) = hs_us (g 33 (k.toNatClampNeg / 4)) ((24 : Int32) - (8 : Int32) * (k &&& 3)) &&& 255 := by
  have e : h * (8 : Int32) + k >>> ((2 : Int32) &&& 31) = k >>> ((2 : Int32) &&& 31) := by
    rw [hh, show (0 : Int32) * 8 = 0 by decide]; exact Int32.zero_add _
  have s : (k >>> ((2 : Int32) &&& 31)).toInt = k.toInt / 4 := i_shr rfl 2 (by decide)
  have a := i_cl hk.1
  have b := i_cl (x := k >>> ((2 : Int32) &&& 31)) (by omega)
  rw [e, show (k >>> ((2 : Int32) &&& 31)).toNatClampNeg = k.toNatClampNeg / 4 by omega]
theorem hs_bad {la lb : Int64} {n k : Int32} (h : ¬ ((0 ≤ n.toInt ∧ n.toInt ≤ 16) ∧ 0 ≤ k.toInt ∧ k.toInt ≤ 31)) : hs_A la lb n k (-2) := Or.inr ⟨h, rfl⟩
theorem hs_good {la lb : Int64} {n k r : Int32} {f : Nat → Int32} (h1 : 0 ≤ n.toInt) (h2 : n.toInt ≤ 16) (h3 : 0 ≤ k.toInt) (h4 : k.toInt ≤ 31) (hF : hs_Fq (hs_b la lb n) n f) (hr : r = hs_us (f (k.toNatClampNeg / 4)) ((24 : Int32) - (8 : Int32) * (k &&& 3)) &&& 255) : hs_A la lb n k r := by
  obtain ⟨W, h5, h6⟩ := hF
  have a := i_cl h3
  exact Or.inl ⟨⟨⟨h1, h2⟩, h3, h4⟩, W, h5, by rw [hr, h6 _ (by omega)]; rfl⟩
theorem hs_Ms00 {b f : Nat → Int32} : hs_Ms b (0 : Int32).toNatClampNeg f := hs_Ms0
theorem hs_Mst {b f : Nat → Int32} {x n : Int32} (h : hs_Ms b x.toNatClampNeg f) (hx : x.toInt = n.toInt) : hs_Ms b n.toNatClampNeg f := by rw [← hs_nn hx]; exact h
/-! ===== the reference ===== -/
def hs_dw (f : Nat → Int32) (t : Nat) : Int32 := hs_wd (f (4 * t)) (f (4 * t + 1)) (f (4 * t + 2)) (f (4 * t + 3))
theorem hs_put {g ga gb : Mem} {v : Int32} (ea : ga = up2 g 38 (g 34 4).toNatClampNeg v) (eb : gb = up2 ga 34 4 (ga 34 4 + (1 : Int32))) (h0 : 0 ≤ (g 34 4).toInt) (h1 : (g 34 4).toInt ≤ 127) : (gb 34 4).toInt = (g 34 4).toInt + 1 ∧ (∀ j, gb 38 j = if j = (g 34 4).toNatClampNeg then v else g 38 j) := by
  have hga : ga 34 4 = g 34 4 := by rw [ea, up2_nei (Or.inl (by decide))]
  refine ⟨?_, fun j => ?_⟩
  · rw [eb, up2_self, hga]
    exact i_add rfl (by decide) (by omega) (by omega)
  · rw [eb, up2_nei (Or.inl (by decide)), ea]
    by_cases e : j = (g 34 4).toNatClampNeg
    · rw [if_pos e, e, up2_self]
    · rw [if_neg e, up2_nei (Or.inr e)]
theorem hs_pu {b : Nat → Int32} {g g2 : Mem} {v : Int32} (h : ∀ j, j < (g 34 4).toNatClampNeg → g 38 j = b j) (hv : v = b (g 34 4).toNatClampNeg) (hf : ∀ j, g2 38 j = if j = (g 34 4).toNatClampNeg then v else g 38 j) (hs : (g2 34 4).toInt = (g 34 4).toInt + 1) (h0 : 0 ≤ (g 34 4).toInt) : ∀ j, j < (g2 34 4).toNatClampNeg → g2 38 j = b j := by
  intro j hj
  rw [hs_nx hs h0] at hj
  rw [hf j]
  by_cases e : j = (g 34 4).toNatClampNeg
  · rw [if_pos e, e, hv]
  · rw [if_neg e]; exact h j (by omega)
theorem hs_bl1 {g gp gn : Mem} {x x' at' : Int32} (en : gn = up2 gp 36 x.toNatClampNeg (((gp 38 at'.toNatClampNeg <<< ((24 : Int32) &&& 31) ||| gp 38 (at' + (1 : Int32)).toNatClampNeg <<< ((16 : Int32) &&& 31)) ||| gp 38 (at' + (2 : Int32)).toNatClampNeg <<< ((8 : Int32) &&& 31)) ||| gp 38 (at' + (3 : Int32)).toNatClampNeg)) (ea : at'.toInt = 4 * x.toInt) (hK : gn 38 = g 38) (hx : x'.toInt = x.toInt + 1) (h0 : 0 ≤ x.toInt) (h15 : x.toInt ≤ 15) (h : ∀ t, t < x.toNatClampNeg → gp 36 t = hs_dw (g 38) t) : ∀ t, t < x'.toNatClampNeg → gn 36 t = hs_dw (g 38) t := by
  have hK2 : gp 38 = g 38 := by rw [en, up2_ne (by decide)] at hK; exact hK
  refine hs_up en ?_ hx h0 h
  have a := i_cl h0
  have c0 := i_cl (x := at') (by omega)
  have e1 := i_add (x := at') (y := (1 : Int32)) (b := 1) rfl (by decide) (by omega) (by omega)
  have e2 := i_add (x := at') (y := (2 : Int32)) (b := 2) rfl (by decide) (by omega) (by omega)
  have e3 := i_add (x := at') (y := (3 : Int32)) (b := 3) rfl (by decide) (by omega) (by omega)
  have c1 := i_cl (x := at' + (1 : Int32)) (by omega)
  have c2 := i_cl (x := at' + (2 : Int32)) (by omega)
  have c3 := i_cl (x := at' + (3 : Int32)) (by omega)
  rw [hK2, show at'.toNatClampNeg = 4 * x.toNatClampNeg by omega, show (at' + (1 : Int32)).toNatClampNeg = 4 * x.toNatClampNeg + 1 by omega, show (at' + (2 : Int32)).toNatClampNeg = 4 * x.toNatClampNeg + 2 by omega, show (at' + (3 : Int32)).toNatClampNeg = 4 * x.toNatClampNeg + 3 by omega]
  rfl
theorem hs_tu (v a b : Int32) (h : (32 : Int32) - a = b) : hs_us v a ||| hs_sl v ((32 : Int32) - a) = hs_rt v a b := by rw [h]; rfl
theorem hs_loR (v : Int32) : ((hs_us v 7 ||| hs_sl v ((32 : Int32) - 7)) ^^^ (hs_us v 18 ||| hs_sl v ((32 : Int32) - 18))) ^^^ hs_us v 3 = hs_lo v := by
  rw [hs_tu v 7 25 (by decide), hs_tu v 18 14 (by decide)]; rfl
theorem hs_hiR (v : Int32) : ((hs_us v 17 ||| hs_sl v ((32 : Int32) - 17)) ^^^ (hs_us v 19 ||| hs_sl v ((32 : Int32) - 19))) ^^^ hs_us v 10 = hs_hi v := by
  rw [hs_tu v 17 15 (by decide), hs_tu v 19 13 (by decide)]; rfl
theorem hs_s1R (v : Int32) : ((hs_us v 6 ||| hs_sl v ((32 : Int32) - 6)) ^^^ (hs_us v 11 ||| hs_sl v ((32 : Int32) - 11))) ^^^ (hs_us v 25 ||| hs_sl v ((32 : Int32) - 25)) = (hs_rt v 6 26 ^^^ hs_rt v 11 21) ^^^ hs_rt v 25 7 := by
  rw [hs_tu v 6 26 (by decide), hs_tu v 11 21 (by decide), hs_tu v 25 7 (by decide)]
theorem hs_s0R (v : Int32) : ((hs_us v 2 ||| hs_sl v ((32 : Int32) - 2)) ^^^ (hs_us v 13 ||| hs_sl v ((32 : Int32) - 13))) ^^^ (hs_us v 22 ||| hs_sl v ((32 : Int32) - 22)) = (hs_rt v 2 30 ^^^ hs_rt v 13 19) ^^^ hs_rt v 22 10 := by
  rw [hs_tu v 2 30 (by decide), hs_tu v 13 19 (by decide), hs_tu v 22 10 (by decide)]
theorem hs_sp2R {M : Nat → Int32} {gp gn : Mem} {x x' lo hi : Int32} (en : gn = up2 gp 36 x.toNatClampNeg (((gp 36 (x - (16 : Int32)).toNatClampNeg + lo) + gp 36 (x - (7 : Int32)).toNatClampNeg) + hi)) (elo : lo = ((hs_us (gp 36 (x - (15 : Int32)).toNatClampNeg) 7 ||| hs_sl (gp 36 (x - (15 : Int32)).toNatClampNeg) ((32 : Int32) - 7)) ^^^ (hs_us (gp 36 (x - (15 : Int32)).toNatClampNeg) 18 ||| hs_sl (gp 36 (x - (15 : Int32)).toNatClampNeg) ((32 : Int32) - 18))) ^^^ hs_us (gp 36 (x - (15 : Int32)).toNatClampNeg) 3) (ehi : hi = ((hs_us (gp 36 (x - (2 : Int32)).toNatClampNeg) 17 ||| hs_sl (gp 36 (x - (2 : Int32)).toNatClampNeg) ((32 : Int32) - 17)) ^^^ (hs_us (gp 36 (x - (2 : Int32)).toNatClampNeg) 19 ||| hs_sl (gp 36 (x - (2 : Int32)).toNatClampNeg) ((32 : Int32) - 19))) ^^^ hs_us (gp 36 (x - (2 : Int32)).toNatClampNeg) 10) (h16 : 16 ≤ x.toInt) (h64 : x.toInt ≤ 63) (hx : x'.toInt = x.toInt + 1) (h : hs_Sn M (gp 36) x.toNatClampNeg) : hs_Sn M (gn 36) x'.toNatClampNeg :=
  hs_sp2 en rfl rfl (elo.trans (hs_loR _)) (ehi.trans (hs_hiR _)) h16 h64 hx h
theorem hs_msR {K W Wm Km : Nat → Int32} {s0 : hs_8} {a b c d e f g h on tw e' a' x x' : Int32} (e11 : on = (((h + (((hs_us e 6 ||| hs_sl e ((32 : Int32) - 6)) ^^^ (hs_us e 11 ||| hs_sl e ((32 : Int32) - 11))) ^^^ (hs_us e 25 ||| hs_sl e ((32 : Int32) - 25)))) + ((e &&& f) ^^^ ((e ^^^ (-1 : Int32)) &&& g))) + Km x.toNatClampNeg) + Wm x.toNatClampNeg) (e13 : tw = (((hs_us a 2 ||| hs_sl a ((32 : Int32) - 2)) ^^^ (hs_us a 13 ||| hs_sl a ((32 : Int32) - 13))) ^^^ (hs_us a 22 ||| hs_sl a ((32 : Int32) - 22))) + (((a &&& b) ^^^ (a &&& c)) ^^^ (b &&& c))) (e5 : e' = d + on) (e1 : a' = on + tw) (hK : Km = K) (hW : Wm = W) (hx : x'.toInt = x.toInt + 1) (h0 : 0 ≤ x.toInt) (hi : (a, b, c, d, e, f, g, h) = hs_rn K W s0 x.toNatClampNeg) : (a', a, b, c, e', e, f, g) = hs_rn K W s0 x'.toNatClampNeg :=
  hs_ms (tu := (hs_rt e 6 26 ^^^ hs_rt e 11 21) ^^^ hs_rt e 25 7) (ot := (hs_rt a 2 30 ^^^ hs_rt a 13 19) ^^^ hs_rt a 22 10) rfl (by rw [e11, hs_s1R, hK]) rfl (by rw [e13, hs_s0R]) e5 e1 hW hx h0 hi
def hs_Dq (b : Nat → Int32) (n : Int32) (f : Nat → Int32) : Prop := ∀ t, t < 16 → hs_dw f t = hs_MM b n t
theorem hs_15 : ∀ q, q < 17 → hs_wd (hs_us ((8 : Int32) * Int32.ofNat q) 24) (hs_us ((8 : Int32) * Int32.ofNat q) 16 &&& 255) (hs_us ((8 : Int32) * Int32.ofNat q) 8 &&& 255) ((8 : Int32) * Int32.ofNat q &&& 255) = Int32.ofNat q * 8 := by decide +kernel
theorem hs_dq {b : Nat → Int32} {g gl g1 g2 g3 g4 : Mem} {n bits : Int32} (eb : bits = (8 : Int32) * g 34 4) (hl : (g 34 4).toInt = n.toInt) (hn : 0 ≤ n.toInt ∧ n.toInt ≤ 16) (h : ∀ j, j < (gl 34 4).toNatClampNeg → gl 38 j = b j) (h60 : (gl 34 4).toInt = 60)
    (s1 : (g1 34 4).toInt = (gl 34 4).toInt + 1) (f1 : ∀ j, g1 38 j = if j = (gl 34 4).toNatClampNeg then hs_us bits 24 else gl 38 j)
    (s2 : (g2 34 4).toInt = (g1 34 4).toInt + 1) (f2 : ∀ j, g2 38 j = if j = (g1 34 4).toNatClampNeg then hs_us bits 16 &&& 255 else g1 38 j)
    (s3 : (g3 34 4).toInt = (g2 34 4).toInt + 1) (f3 : ∀ j, g3 38 j = if j = (g2 34 4).toNatClampNeg then hs_us bits 8 &&& 255 else g2 38 j)
    (f4 : ∀ j, g4 38 j = if j = (g3 34 4).toNatClampNeg then bits &&& 255 else g3 38 j) : hs_Dq b n (g4 38) := by
  have n0 : (gl 34 4).toNatClampNeg = 60 := hs_nv h60
  have n1 : (g1 34 4).toNatClampNeg = 61 := hs_nv (by omega)
  have n2 : (g2 34 4).toNatClampNeg = 62 := hs_nv (by omega)
  have n3 : (g3 34 4).toNatClampNeg = 63 := hs_nv (by omega)
  rw [n0] at h f1; rw [n1] at f2; rw [n2] at f3; rw [n3] at f4
  have lo : ∀ j, j < 60 → g4 38 j = b j := fun j hj => by
    rw [f4, if_neg (by omega), f3, if_neg (by omega), f2, if_neg (by omega), f1, if_neg (by omega)]; exact h j hj
  intro t ht
  rw [hs_dw, hs_MM]
  by_cases e : t < 15
  · rw [if_pos e, lo _ (by omega), lo _ (by omega), lo _ (by omega), lo _ (by omega)]
  · rw [if_neg e, show t = 15 by omega]
    have q0 : g4 38 (4 * 15) = hs_us bits 24 := by rw [f4, if_neg (by decide), f3, if_neg (by decide), f2, if_neg (by decide), f1, if_pos rfl]
    have q1 : g4 38 (4 * 15 + 1) = hs_us bits 16 &&& 255 := by rw [f4, if_neg (by decide), f3, if_neg (by decide), f2, if_pos rfl]
    have q2 : g4 38 (4 * 15 + 2) = hs_us bits 8 &&& 255 := by rw [f4, if_neg (by decide), f3, if_pos rfl]
    have q3 : g4 38 (4 * 15 + 3) = bits &&& 255 := by rw [f4, if_pos rfl]
    have a := i_cl hn.1
    have := hs_15 n.toNatClampNeg (by omega)
    rw [hs_of hn.1] at this
    rw [q0, q1, q2, q3, eb, Int32.toInt_inj.mp hl]
    exact this
theorem hs_st8 {b : Nat → Int32} {n : Int32} {g0 g1 g2 g3 g4 g5 g6 g7 g8 : Mem} (e1 : g1 = up2 g0 37 (0 : Int32).toNatClampNeg (1779033703 : Int32)) (e2 : g2 = up2 g1 37 (1 : Int32).toNatClampNeg (-1150833019 : Int32)) (e3 : g3 = up2 g2 37 (2 : Int32).toNatClampNeg (1013904242 : Int32)) (e4 : g4 = up2 g3 37 (3 : Int32).toNatClampNeg (-1521486534 : Int32)) (e5 : g5 = up2 g4 37 (4 : Int32).toNatClampNeg (1359893119 : Int32)) (e6 : g6 = up2 g5 37 (5 : Int32).toNatClampNeg (-1694144372 : Int32)) (e7 : g7 = up2 g6 37 (6 : Int32).toNatClampNeg (528734635 : Int32)) (e8 : g8 = up2 g7 37 (7 : Int32).toNatClampNeg (1541459225 : Int32)) (h : hs_Dq b n (g0 38)) : hs_Dq b n (g8 38) ∧ hs_Vq (g8 37) := by
  have c0 : (0 : Int32).toNatClampNeg = 0 := by decide
  have c1 : (1 : Int32).toNatClampNeg = 1 := by decide
  have c2 : (2 : Int32).toNatClampNeg = 2 := by decide
  have c3 : (3 : Int32).toNatClampNeg = 3 := by decide
  have c4 : (4 : Int32).toNatClampNeg = 4 := by decide
  have c5 : (5 : Int32).toNatClampNeg = 5 := by decide
  have c6 : (6 : Int32).toNatClampNeg = 6 := by decide
  have c7 : (7 : Int32).toNatClampNeg = 7 := by decide
  rw [c0] at e1; rw [c1] at e2; rw [c2] at e3; rw [c3] at e4; rw [c4] at e5; rw [c5] at e6; rw [c6] at e7; rw [c7] at e8
  have ne : (38 : Nat) ≠ 37 := by decide
  refine ⟨by rw [e8, up2_ne ne, e7, up2_ne ne, e6, up2_ne ne, e5, up2_ne ne, e4, up2_ne ne, e3, up2_ne ne, e2, up2_ne ne, e1, up2_ne ne]; exact h, fun j hj => ?_⟩
  rw [e8, e7, e6, e5, e4, e3, e2, e1]
  match j, hj with
  | 0, _ => simp [up2, upd, vS]
  | 1, _ => simp [up2, upd, vS]
  | 2, _ => simp [up2, upd, vS]
  | 3, _ => simp [up2, upd, vS]
  | 4, _ => simp [up2, upd, vS]
  | 5, _ => simp [up2, upd, vS]
  | 6, _ => simp [up2, upd, vS]
  | 7, _ => simp [up2, upd, vS]
  | j + 8, h => exact absurd h (by omega)
theorem hs_f3R {b : Nat → Int32} {n : Int32} {g gm gx : Mem} (h1 : hs_Dq b n (gm 38)) (h2 : hs_Vq (gm 37)) (hk : gm 35 = g 35) (hR : ∀ t, t < 64 → g 35 t = vR t) (hs : hs_Sn (hs_dw (gm 38)) (gx 36) 64) (hm : ∀ j, j < 8 → gx 37 j = hs_mx (gm 35) (gx 36) (gm 37) j) : hs_Fq b n (gx 37) :=
  ⟨gx 36, hs_Sn_M hs h1, fun j hj => by rw [hm j hj, hk]; exact hs_mx_eq hR (fun _ _ => rfl) h2 j hj⟩
def hs_o1 (f : Nat → Int32) (k : Int32) : Int32 := hs_us (f (k.toNatClampNeg / 4)) ((24 : Int32) - (8 : Int32) * (k &&& 3)) &&& 255
theorem hs_3 : ∀ q, q < 32 → (Int32.ofNat q - Int32.ofNat q / 4 * 4 = Int32.ofNat q &&& 3) ∧ (Int32.ofNat q / 4).toNatClampNeg = q / 4 := by decide +kernel
theorem hs_sm {gp gn : Mem} {x x' : Int32} (en : gn = up2 gp 39 x.toNatClampNeg (hs_us (gp 37 (x / (4 : Int32)).toNatClampNeg) ((24 : Int32) - (8 : Int32) * (x - x / (4 : Int32) * (4 : Int32))) &&& (255 : Int32))) (hx : x'.toInt = x.toInt + 1) (h0 : 0 ≤ x.toInt) (h31 : x.toInt ≤ 31) (h : ∀ t, t < x.toNatClampNeg → gp 39 t = hs_o1 (gp 37) (Int32.ofNat t)) : ∀ t, t < x'.toNatClampNeg → gn 39 t = hs_o1 (gn 37) (Int32.ofNat t) := by
  have e2 : gn 37 = gp 37 := by rw [en, up2_ne (by decide)]
  rw [e2]
  refine hs_up (f := fun t => hs_o1 (gp 37) (Int32.ofNat t)) en ?_ hx h0 h
  have a := i_cl h0
  have q := hs_3 x.toNatClampNeg (by omega)
  rw [hs_of h0] at q
  show _ = hs_o1 (gp 37) (Int32.ofNat x.toNatClampNeg)
  rw [hs_of h0, hs_o1, q.1, q.2]
def hs_Gq (b : Nat → Int32) (n : Int32) (f : Nat → Int32) : Prop := ∃ W : Nat → Int32, hs_Sn (hs_MM b n) W 64 ∧ ∀ k : Int32, 0 ≤ k.toInt → k.toInt ≤ 31 → f k.toNatClampNeg = hs_out W k
theorem hs_g5 {b : Nat → Int32} {n x : Int32} {g : Mem} (h : ∀ t, t < x.toNatClampNeg → g 39 t = hs_o1 (g 37) (Int32.ofNat t)) (hF : hs_Fq b n (g 37)) (hx : x.toInt = 32) : hs_Gq b n (g 39) := by
  rw [hs_nv (n := 32) hx] at h
  obtain ⟨W, h1, h2⟩ := hF
  refine ⟨W, h1, fun k k0 k1 => ?_⟩
  have a := i_cl k0
  rw [h _ (by omega), hs_of k0, hs_o1, h2 _ (by omega)]; rfl
theorem hs_goodR {la lb : Int64} {n k r : Int32} {f : Nat → Int32} (h1 : 0 ≤ n.toInt) (h2 : n.toInt ≤ 16) (h3 : 0 ≤ k.toInt) (h4 : k.toInt ≤ 31) (hG : hs_Gq (hs_b la lb n) n f) (hr : r = f k.toNatClampNeg) : hs_A la lb n k r := by
  obtain ⟨W, h5, h6⟩ := hG
  exact Or.inl ⟨⟨⟨h1, h2⟩, h3, h4⟩, W, h5, by rw [hr]; exact h6 k h3 h4⟩
