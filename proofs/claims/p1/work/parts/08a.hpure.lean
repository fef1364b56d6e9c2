/-! ===== the hash, said without a machine ===== -/
def hs_us (x y : Int32) : Int32 := (x.toUInt32 >>> (y.toUInt32 &&& Int32.toUInt32 31)).toInt32
def hs_sl (x y : Int32) : Int32 := x <<< (y &&& 31)
def hs_rt (x a b : Int32) : Int32 := hs_us x a ||| hs_sl x b
def hs_lo (x : Int32) : Int32 := (hs_rt x 7 25 ^^^ hs_rt x 18 14) ^^^ hs_us x 3
def hs_hi (x : Int32) : Int32 := (hs_rt x 17 15 ^^^ hs_rt x 19 13) ^^^ hs_us x 10
/-- the schedule up to n -/
def hs_Sn (M W : Nat → Int32) (n : Nat) : Prop := (∀ t, t < 16 → W t = M t) ∧ ∀ t, 16 ≤ t → t < n → W t = ((W (t - 16) + hs_lo (W (t - 15))) + W (t - 7)) + hs_hi (W (t - 2))
theorem hs_Sn_up {M W : Nat → Int32} {n : Nat} {v : Int32} (hn : 16 ≤ n) (h : hs_Sn M W n) (hv : v = ((W (n - 16) + hs_lo (W (n - 15))) + W (n - 7)) + hs_hi (W (n - 2))) : hs_Sn M (upd W n v) (n + 1) := by
  have ne : ∀ t, t ≠ n → upd W n v t = W t := fun t ht => by simp [upd, ht]
  refine ⟨fun t ht => by rw [ne t (by omega)]; exact h.1 t ht, fun t h1 h2 => ?_⟩
  rw [ne (t - 16) (by omega), ne (t - 15) (by omega), ne (t - 7) (by omega), ne (t - 2) (by omega)]
  by_cases e : t = n
  · subst e
    rw [← hv]; simp [upd]
  · rw [ne t e]; exact h.2 t h1 (by omega)
theorem hs_Sn_eq {M M' W W' : Nat → Int32} (h : hs_Sn M W 64) (h' : hs_Sn M' W' 64) (hM : ∀ t, t < 16 → M t = M' t) : ∀ t, t < 64 → W t = W' t := by
  intro t
  induction t using Nat.strongRecOn with
  | ind t ih =>
    intro ht
    by_cases e : t < 16
    · rw [h.1 t e, h'.1 t e, hM t e]
    · rw [h.2 t (by omega) ht, h'.2 t (by omega) ht, ih (t - 16) (by omega) (by omega), ih (t - 15) (by omega) (by omega), ih (t - 7) (by omega) (by omega), ih (t - 2) (by omega) (by omega)]
abbrev hs_8 : Type := Int32 × Int32 × Int32 × Int32 × Int32 × Int32 × Int32 × Int32
def hs_one (k w : Int32) (s : hs_8) : Int32 := match s with
  | (_, _, _, _, e, f, g, h) => (((h + ((hs_rt e 6 26 ^^^ hs_rt e 11 21) ^^^ hs_rt e 25 7)) + ((e &&& f) ^^^ ((e ^^^ (-1 : Int32)) &&& g))) + k) + w
def hs_two (s : hs_8) : Int32 := match s with
  | (a, b, c, _, _, _, _, _) => ((hs_rt a 2 30 ^^^ hs_rt a 13 19) ^^^ hs_rt a 22 10) + (((a &&& b) ^^^ (a &&& c)) ^^^ (b &&& c))
def hs_st (k w : Int32) (s : hs_8) : hs_8 := match s with
  | (a, b, c, d, e, f, g, h) => (hs_one k w (a, b, c, d, e, f, g, h) + hs_two (a, b, c, d, e, f, g, h), a, b, c, d + hs_one k w (a, b, c, d, e, f, g, h), e, f, g)
def hs_rn (K W : Nat → Int32) (s : hs_8) : Nat → hs_8
  | 0 => s
  | n + 1 => hs_st (K n) (W n) (hs_rn K W s n)
theorem hs_rn_eq {K K' W W' : Nat → Int32} {s : hs_8} (hK : ∀ t, t < 64 → K t = K' t) (hW : ∀ t, t < 64 → W t = W' t) : ∀ n, n ≤ 64 → hs_rn K W s n = hs_rn K' W' s n := by
  intro n
  induction n with
  | zero => intro _; rfl
  | succ n ih => intro hn; rw [hs_rn, hs_rn, ih (by omega), hK n (by omega), hW n (by omega)]
def hs_t8 (f : Nat → Int32) : hs_8 := (f 0, f 1, f 2, f 3, f 4, f 5, f 6, f 7)
def hs_pr (s : hs_8) (j : Nat) : Int32 := match s with
  | (a, b, c, d, e, f, g, h) => match j with
    | 0 => a | 1 => b | 2 => c | 3 => d | 4 => e | 5 => f | 6 => g | _ => h
/-- the state behind a block -/
def hs_mx (K W f : Nat → Int32) (j : Nat) : Int32 := f j + hs_pr (hs_rn K W (hs_t8 f) 64) j
def hs_fin (W : Nat → Int32) (j : Nat) : Int32 := hs_mx vR W vS j
def hs_out (W : Nat → Int32) (k : Int32) : Int32 := hs_us (hs_fin W (k.toNatClampNeg / 4)) ((24 : Int32) - (8 : Int32) * (k &&& 3)) &&& 255
theorem hs_t8_eq {f f' : Nat → Int32} (h : ∀ j, j < 8 → f j = f' j) : hs_t8 f = hs_t8 f' := by
  simp only [hs_t8]
  rw [h 0 (by decide), h 1 (by decide), h 2 (by decide), h 3 (by decide), h 4 (by decide), h 5 (by decide), h 6 (by decide), h 7 (by decide)]
theorem hs_mx_eq {K K' W W' f f' : Nat → Int32} (hK : ∀ t, t < 64 → K t = K' t) (hW : ∀ t, t < 64 → W t = W' t) (hf : ∀ j, j < 8 → f j = f' j) : ∀ j, j < 8 → hs_mx K W f j = hs_mx K' W' f' j := by
  intro j hj
  rw [hs_mx, hs_mx, hf j hj, hs_t8_eq hf, hs_rn_eq hK hW 64 (Nat.le_refl _)]
theorem hs_out_eq {M M' W W' : Nat → Int32} {k : Int32} (h : hs_Sn M W 64) (h' : hs_Sn M' W' 64) (hM : ∀ t, t < 16 → M t = M' t) (hk : k.toNatClampNeg / 4 < 8) : hs_out W k = hs_out W' k := by
  rw [hs_out, hs_out, hs_fin, hs_fin, hs_mx_eq (fun _ _ => rfl) (hs_Sn_eq h h' hM) (fun _ _ => rfl) _ hk]
/-! ===== the message's words ===== -/
def hs_a0 (o v : Int32) : Int32 := o <<< ((8 : Int32) &&& 31) ||| v
def hs_wd (a b c d : Int32) : Int32 := ((a <<< ((24 : Int32) &&& 31) ||| b <<< ((16 : Int32) &&& 31)) ||| c <<< ((8 : Int32) &&& 31)) ||| d
theorem hs_s8 (x : Int32) : (x <<< ((8 : Int32) &&& 31)).toBitVec = x.toBitVec <<< 8 := rfl
theorem hs_s16 (x : Int32) : (x <<< ((16 : Int32) &&& 31)).toBitVec = x.toBitVec <<< 16 := rfl
theorem hs_s24 (x : Int32) : (x <<< ((24 : Int32) &&& 31)).toBitVec = x.toBitVec <<< 24 := rfl
theorem hs_ad4 (o a b c d : Int32) : hs_a0 (hs_a0 (hs_a0 (hs_a0 o a) b) c) d = hs_wd a b c d := by
  apply Int32.toBitVec_inj.mp
  simp only [hs_a0, hs_wd, Int32.toBitVec_or, hs_s8, hs_s16, hs_s24]
  apply BitVec.eq_of_getLsbD_eq
  intro i hi
  simp only [BitVec.getLsbD_or, BitVec.getLsbD_shiftLeft]
  rcases (show i < 8 ∨ (8 ≤ i ∧ i < 16) ∨ (16 ≤ i ∧ i < 24) ∨ (24 ≤ i ∧ i < 32) by omega) with h | h | h | h
  · simp [h, show i < 16 by omega, show i < 24 by omega]
  · simp [hi, show ¬ i < 8 by omega, show i < 16 by omega, show i < 24 by omega, show i - 8 < 8 by omega, show i - 8 < 32 by omega]
  · simp [hi, show ¬ i < 8 by omega, show ¬ i < 16 by omega, show i < 24 by omega, show ¬ i - 8 < 8 by omega, show i - 8 - 8 < 8 by omega, show i - 8 < 32 by omega, show i - 8 - 8 < 32 by omega, show i - 8 - 8 = i - 16 by omega, show i - 16 < 8 by omega]
  · simp [hi, show ¬ i < 8 by omega, show ¬ i < 16 by omega, show ¬ i < 24 by omega, show ¬ i - 8 < 8 by omega, show ¬ i - 8 - 8 < 8 by omega, show i - 8 - 8 - 8 < 8 by omega, show i - 8 < 32 by omega, show i - 8 - 8 < 32 by omega, show i - 8 - 8 - 8 < 32 by omega, show i - 8 - 8 = i - 16 by omega, show i - 16 - 8 = i - 24 by omega, show i - 16 < 32 by omega, show ¬ i - 16 < 8 by omega, show i - 24 < 8 by omega, show i - 24 < 32 by omega]
def hs_acc (b : Nat → Int32) (s : Nat) (o : Int32) : Nat → Int32
  | 0 => o
  | r + 1 => hs_a0 (hs_acc b s o r) (b (s + r))
/-- n bytes of the row b have been added -/
def hs_Ms (b : Nat → Int32) (n : Nat) (f : Nat → Int32) : Prop := ∀ j, 4 * j < n → ∃ o, f j = hs_acc b (4 * j) o (min 4 (n - 4 * j))
theorem hs_Ms0 {b f : Nat → Int32} : hs_Ms b 0 f := fun j h => absurd h (by omega)
theorem hs_Ms_up {b f f' : Nat → Int32} {n : Nat} {v : Int32} (h : hs_Ms b n f) (hv : v = b n) (hf : ∀ j, f' j = if j = n / 4 then hs_a0 (f j) v else f j) : hs_Ms b (n + 1) f' := by
  intro j hj
  rw [hf j]
  by_cases e : j = n / 4
  · rw [if_pos e]
    by_cases e2 : 4 * j < n
    · obtain ⟨o, ho⟩ := h j e2
      refine ⟨o, ?_⟩
      rw [show min 4 (n + 1 - 4 * j) = min 4 (n - 4 * j) + 1 by omega, hs_acc, ← ho, show 4 * j + min 4 (n - 4 * j) = n by omega, hv]
    · refine ⟨f j, ?_⟩
      rw [show min 4 (n + 1 - 4 * j) = 0 + 1 by omega, hs_acc, hs_acc, hv, show 4 * j + 0 = n by omega]
  · rw [if_neg e]
    obtain ⟨o, ho⟩ := h j (by omega)
    exact ⟨o, by rw [ho, show min 4 (n + 1 - 4 * j) = min 4 (n - 4 * j) by omega]⟩
theorem hs_Ms_wd {b f : Nat → Int32} {n : Nat} (h : hs_Ms b n f) {j : Nat} (hj : 4 * j + 4 ≤ n) : f j = hs_wd (b (4 * j)) (b (4 * j + 1)) (b (4 * j + 2)) (b (4 * j + 3)) := by
  obtain ⟨o, ho⟩ := h j (by omega)
  rw [ho, show min 4 (n - 4 * j) = 0 + 1 + 1 + 1 + 1 by omega]
  simp only [hs_acc]
  exact hs_ad4 _ _ _ _ _
/-- the byte that stands at place i of the two longs -/
def hs_by (la lb : Int64) (i : Int32) : Int32 := (((if i < 8 then la else lb) >>> (((56 : Int32) - (8 : Int32) * (i - i / 8 * 8)).toInt64 &&& 63)) &&& (255 : Int64)).toInt32
def hs_b (la lb : Int64) (n : Int32) (j : Nat) : Int32 := if j < n.toNatClampNeg then hs_by la lb (Int32.ofNat j) else if j = n.toNatClampNeg then 128 else 0
def hs_MM (b : Nat → Int32) (n : Int32) (j : Nat) : Int32 := if j < 15 then hs_wd (b (4 * j)) (b (4 * j + 1)) (b (4 * j + 2)) (b (4 * j + 3)) else n * 8
abbrev hs_M (la lb : Int64) (n : Int32) : Nat → Int32 := hs_MM (hs_b la lb n) n
def hs_ok (n k : Int32) : Prop := (0 ≤ n.toInt ∧ n.toInt ≤ 16) ∧ 0 ≤ k.toInt ∧ k.toInt ≤ 31
/-- what hash answers -/
def hs_A (la lb : Int64) (n k r : Int32) : Prop := (hs_ok n k ∧ ∃ W : Nat → Int32, hs_Sn (hs_M la lb n) W 64 ∧ r = hs_out W k) ∨ (¬ hs_ok n k ∧ r = -2)
theorem hs_A_fun {la lb : Int64} {n k r r' : Int32} (h : hs_A la lb n k r) (h' : hs_A la lb n k r') : r = r' := by
  rcases h with ⟨h1, W, h2, h3⟩ | ⟨h1, h3⟩
  · rcases h' with ⟨h4, W', h5, h6⟩ | ⟨h4, _⟩
    · rw [h3, h6]
      have := i_cl h1.2.1
      exact hs_out_eq h2 h5 (fun _ _ => rfl) (by have := h1.2.2; omega)
    · exact absurd h1 h4
  · rcases h' with ⟨h4, _⟩ | ⟨h4, h6⟩
    · exact absurd h4 h1
    · rw [h3, h6]
/-! ===== bytes ===== -/
theorem hs_255 : ∀ j, j < 32 → (255#32).getLsbD j = decide (j < 8) := by decide
theorem hs_255L : ∀ j, j < 64 → (255#64).getLsbD j = decide (j < 8) := by decide
theorem hs_bv (x : BitVec 64) (s : Nat) (hs : s ≤ 56) : ((x >>> s).signExtend 32 &&& 255#32) &&& 255#32 = ((x.sshiftRight s) &&& 255#64).signExtend 32 := by
  apply BitVec.eq_of_getLsbD_eq
  intro j hj
  rw [BitVec.signExtend_eq_setWidth_of_le _ (by decide), BitVec.signExtend_eq_setWidth_of_le _ (by decide)]
  simp only [BitVec.getLsbD_and, BitVec.getLsbD_setWidth, BitVec.getLsbD_ushiftRight, BitVec.getLsbD_sshiftRight, hs_255 j hj, hs_255L j (by omega)]
  by_cases h : j < 8
  · simp [h, hj, show ¬ 64 ≤ j by omega, show s + j < 64 by omega]
  · simp [h]
theorem hs_bye1 (x : Int64) : ((x.toInt32 &&& 255) &&& 255).toBitVec = (x.toBitVec.signExtend 32 &&& 255#32) &&& 255#32 := rfl
theorem hs_bye2 (x : Int64) : ((x &&& (255 : Int64)).toInt32).toBitVec = (x.toBitVec &&& 255#64).signExtend 32 := rfl
def hs_lus (h : Int64) (y : Int32) : Int64 := (h.toUInt64 >>> (y.toInt64.toUInt64 &&& Int64.toUInt64 63)).toInt64
def hs_lsr (h : Int64) (y : Int32) : Int64 := h >>> (y.toInt64 &&& 63)
theorem hs_by8 (h : Int64) : ∀ q : Nat, q < 8 → (((hs_lus h ((56 : Int32) - (8 : Int32) * Int32.ofNat q)).toInt32 &&& 255) &&& 255) = ((hs_lsr h ((56 : Int32) - (8 : Int32) * Int32.ofNat q)) &&& (255 : Int64)).toInt32 := by
  intro q hq
  apply Int32.toBitVec_inj.mp
  rw [hs_bye1, hs_bye2]
  match q, hq with
  | 0, _ => exact hs_bv h.toBitVec 56 (by decide)
  | 1, _ => exact hs_bv h.toBitVec 48 (by decide)
  | 2, _ => exact hs_bv h.toBitVec 40 (by decide)
  | 3, _ => exact hs_bv h.toBitVec 32 (by decide)
  | 4, _ => exact hs_bv h.toBitVec 24 (by decide)
  | 5, _ => exact hs_bv h.toBitVec 16 (by decide)
  | 6, _ => exact hs_bv h.toBitVec 8 (by decide)
  | 7, _ => exact hs_bv h.toBitVec 0 (by decide)
  | q + 8, h => exact absurd h (by omega)
theorem hs_7 : ∀ q, q < 16 → (Int32.ofNat q &&& (7 : Int32) = Int32.ofNat (q % 8)) ∧ (Int32.ofNat q - Int32.ofNat q / 8 * 8 = Int32.ofNat (q % 8)) := by decide +kernel
theorem hs_of {i : Int32} (h0 : 0 ≤ i.toInt) : Int32.ofNat i.toNatClampNeg = i := by
  apply Int32.toInt_inj.mp
  rw [Int32.toInt_ofNat_of_lt i.toNatClampNeg_lt, i_cl h0]
/-- the byte that the class adds is that of the reference -/
theorem hs_byC {la lb h : Int64} {i : Int32} (hh : h = if i < 8 then la else lb) (h0 : 0 ≤ i.toInt) (h1 : i.toInt ≤ 15) : ((hs_lus h ((56 : Int32) - (8 : Int32) * (i &&& (7 : Int32)))).toInt32 &&& 255) &&& 255 = hs_by la lb i := by
  have hc := i_cl h0
  have hq : i.toNatClampNeg < 16 := by omega
  have e := hs_7 _ hq
  rw [hs_of h0] at e
  rw [hs_by, ← hh, e.1, e.2]
  exact hs_by8 h _ (Nat.mod_lt _ (by decide))
theorem hs_lt8 {i : Int32} (h : i.toInt < 8) : i < 8 := by
  rw [Int32.lt_iff_toInt_lt]
  exact Int.lt_of_lt_of_le h (by decide)
theorem hs_nlt8 {i : Int32} (h : 8 ≤ i.toInt) : ¬ i < 8 := by
  rw [Int32.lt_iff_toInt_lt]
  have : (8 : Int32).toInt = 8 := by decide
  omega
theorem hs_bA {la lb : Int64} {n i : Int32} (h0 : 0 ≤ i.toInt) (h1 : i.toInt < n.toInt) : hs_b la lb n i.toNatClampNeg = hs_by la lb i := by
  have a := i_cl h0
  have b := i_cl (x := n) (by omega)
  rw [hs_b, if_pos (by omega), hs_of h0]
theorem hs_hvA {la lb x : Int64} {n i : Int32} (ex : x = hs_lus la ((56 : Int32) - (8 : Int32) * (i &&& (7 : Int32)))) (h0 : 0 ≤ i.toInt) (h1 : i.toInt ≤ 15) (h2 : i.toInt < n.toInt) (h8 : i.toInt < 8) : (x.toInt32 &&& 255) &&& 255 = hs_b la lb n i.toNatClampNeg := by
  rw [hs_bA h0 h2, ex]
  exact hs_byC (if_pos (hs_lt8 h8)).symm h0 h1
theorem hs_hvB {la lb x : Int64} {n i : Int32} (ex : x = hs_lus lb ((56 : Int32) - (8 : Int32) * (i &&& (7 : Int32)))) (h0 : 0 ≤ i.toInt) (h1 : i.toInt ≤ 15) (h2 : i.toInt < n.toInt) (h8 : 8 ≤ i.toInt) : (x.toInt32 &&& 255) &&& 255 = hs_b la lb n i.toNatClampNeg := by
  rw [hs_bA h0 h2, ex]
  exact hs_byC (if_neg (hs_nlt8 h8)).symm h0 h1
theorem hs_hvC {la lb x y : Int64} {n i : Int32} (ex : x = hs_lsr la ((56 : Int32) - (8 : Int32) * (i - i / 8 * 8))) (ey : y = x &&& (255 : Int64)) (h0 : 0 ≤ i.toInt) (h2 : i.toInt < n.toInt) (h8 : i.toInt < 8) : y.toInt32 = hs_b la lb n i.toNatClampNeg := by
  rw [hs_bA h0 h2, hs_by, if_pos (hs_lt8 h8), ey, ex]; rfl
theorem hs_hvD {la lb x y : Int64} {n i : Int32} (ex : x = hs_lsr lb ((56 : Int32) - (8 : Int32) * (i - i / 8 * 8))) (ey : y = x &&& (255 : Int64)) (h0 : 0 ≤ i.toInt) (h2 : i.toInt < n.toInt) (h8 : 8 ≤ i.toInt) : y.toInt32 = hs_b la lb n i.toNatClampNeg := by
  rw [hs_bA h0 h2, hs_by, if_neg (hs_nlt8 h8), ey, ex]; rfl
theorem hs_b1 {la lb : Int64} {n : Int32} : hs_b la lb n n.toNatClampNeg = 128 := by simp [hs_b]
theorem hs_b2 {la lb : Int64} {n : Int32} : ∀ j, n.toNatClampNeg < j → hs_b la lb n j = 0 := fun j h => by
  rw [hs_b, if_neg (by omega), if_neg (by omega)]
