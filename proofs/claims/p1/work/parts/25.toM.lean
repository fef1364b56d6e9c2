/-! ===== all cells stand: from the growing world to the flat one ===== -/
def zM : Mem := fun _ _ => 0
/-- the reference's row of constants is the class's table -/
def hs_Rq (g : Mem) : Prop := ∀ t, t < 64 → g 35 t = vR t
theorem hs_Ru {g : Mem} {j : Nat} {i v : Int32} (hi : i.toNatClampNeg = j) (hv : v = vR j) (h : ∀ t, t < j → g 35 t = vR t) : ∀ t, t < j + 1 → up2 g 35 i.toNatClampNeg v 35 t = vR t := by
  intro t ht
  rw [hi]
  by_cases e : t = j
  · rw [e, up2_self, hv]
  · rw [up2_nei (Or.inr e)]; exact h t (by omega)
abbrev XL (X : XT) (L : Nat → Nat) : XT := (X.1, X.2.1, X.2.2.1, L, X.2.2.2.2.1, X.2.2.2.2.2.1, X.2.2.2.2.2.2)
def upS (sh : shp) : shp2 := match sh with
  | .inl q => .inl (q.1, q.2.map (fun o => match o with | some r => some (some r) | none => none))
  | .inr q => .inr q
theorem cv_up {X : XT} {L : Nat → Nat} {sh : shp} {k : Nat} : cv2 X L (upS sh) = cv X.2.1 X.2.2.1 L sh (zM k) := by
  cases sh with
  | inl q =>
    simp only [upS, cv2, cv]
    congr 2
    apply List.ext_getElem?
    intro i
    simp only [List.getElem?_map, List.getElem?_zipIdx]
    cases hs : q.2[i]? with
    | none => simp
    | some o => cases o <;> simp [fv2, fv, zM]
  | inr q => rfl
theorem wlq_wld {X : XT} {L : Nat → Nat} : wlq X L (shapes.map upS) = wld (XL X L) zM := by
  apply List.ext_getElem?
  intro j
  cases hs : shapes[j]? with
  | none =>
    rw [wlq_none (by simp [hs])]
    simp [wld, List.getElem?_map, List.getElem?_zipIdx, hs]
  | some sh =>
    rw [wlq_at (sh := upS sh) (by simp [hs]), wld_at hs]
    rw [cv_up (k := j)]
theorem lokOf {X : XT} {L : Nat → Nat} (h : va_D (Ab X) (wlq X L (shapes.map upS))) : Lok (XL X L) := by
  have at' : ∀ i, i < shapes.length → ∃ e, (wlq X L (shapes.map upS))[i]? = some (L i, e) := by
    intro i hi
    have e1 : shapes[i]? = some shapes[i] := List.getElem?_eq_getElem hi
    exact ⟨_, wlq_at (sh := upS shapes[i]) (by rw [List.getElem?_map, e1]; rfl)⟩
  refine ⟨fun i j hi hj e => ?_, fun i hi => ?_⟩
  · obtain ⟨_, h1⟩ := at' i hi
    obtain ⟨_, h2⟩ := at' j hj
    exact h.1 i j _ _ h1 h2 e
  · obtain ⟨_, h1⟩ := at' i hi
    exact h.2 i _ h1
theorem c_toM {X : XT} {p : Program} {l : Launch} {e : Env} {R : Room} {s : State} {m : MethodId} {args : Array Value} {below : List Frame} {meth : Method} {c : Code} {nL cells slots : Nat} {Q : State → Prop} {L : Nat → Nat} {shs : List shp2} {pc : Nat} {lv : List (Nat × Value)} {st : List Value} {cc : ByteArray} {own : String} (C : Cc X p s m args meth c cc nL own) (hs : shs = shapes.map upS) (k : Cx (XL X L) p s m args meth c cc nL none own → Wm (XL X L) p l e R s m args below meth c nL cells slots Q zM pc lv st) : Wc X p l e R s m args below meth c nL Q L shs cells slots pc lv st := by
  subst hs
  intro H locs ls hP hD hS hl
  obtain ⟨hx, hb, hml, hown, hts, hF, hA, hr, hlk, -⟩ := C
  exact k ⟨hx, hb, hml, hown, hts, hF, lokOf hD, hr, hlk⟩ H locs ls (by rw [← wlq_wld]; exact hP) hS hl
/-- behind the reference's constructor: all 60 cells, its row of constants filled -/
def cQm (X : XT) (L : Nat → Nat) (n : Nat) : Array Value → State → Outcome → State → Prop := fun _ st oc t => (∃ (L' : Nat → Nat) (g : Mem), (∀ r, r < n → L' r = L r) ∧ oc = .returned none ∧ va_P X.1 vwCl (wld (XL X L') g) t.heap ∧ Lok (XL X L') ∧ Inv g ∧ Kq [35] [] zM g ∧ hs_Rq g) ∧ va_F (Ab X) st t
theorem c_mret {X : XT} {p : Program} {l : Launch} {e : Env} {R : Room} {s : State} {m : MethodId} {args : Array Value} {below : List Frame} {meth : Method} {c : Code} {nL cells slots : Nat} {L L0 : Nat → Nat} {pc n : Nat} {lv : List (Nat × Value)} {cc : ByteArray} {own : String} {g : Mem} (C : Cx (XL X L) p s m args meth c cc nL none own) (hd : decode cc pc = .ok (.return_, 1)) (hL : ∀ r, r < n → L r = L0 r) (hI : Inv g) (hK : Kq [35] [] zM g) (hR : hs_Rq g) : Wm (XL X L) p l e R s m args below meth c nL cells slots (MQ below (cQm X L0 n) args s cells slots (Ab X)) g pc lv [] := fun H locs ls hP hS hl => W.vret C.1 C.2.1 C.2.2.2.2.2.2.2.1 (fun t ht _ => ⟨⟨L, g, hL, rfl, by rw [ht]; exact hP, C.2.2.2.2.2.2.1, hI, hK, hR⟩, hS.F ht⟩) hS.2.2 hd C.2.2.2.2.2.2.2.2
theorem Inv0 : Inv zM := fun k i => by
  have a : ∀ b : Int, 0 ≤ b → Rg 0 b 0 := fun b hb => ⟨by decide, by rw [show (0 : Int32).toInt = 0 by decide]; exact hb⟩
  have r : R01 0 := Or.inl rfl
  simp [okv, zM, a 60 (by decide), a 8 (by decide), a 128 (by decide), a 1020 (by decide), a 2000000000 (by decide), a 3 (by decide), r]
