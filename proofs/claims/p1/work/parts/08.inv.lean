def R01 (x : Int32) : Prop := x = 0 ∨ x = 1
def Rg (a b : Int) (x : Int32) : Prop := a ≤ x.toInt ∧ x.toInt ≤ b
def okv (k i : Nat) (x : Int32) : Prop := if k = 16 ∧ i = 4 then Rg 0 60 x else if k = 20 ∧ i = 5 then Rg 0 8 x else if k = 20 ∧ i = 4 then Rg 0 8 x else if k = 9 ∧ i = 3 then Rg 0 128 x else if k = 30 ∧ i = 1 then Rg 0 1020 x else if k = 30 ∧ i = 2 then Rg 0 1020 x else if k = 0 ∧ i = 9 then Rg 0 2000000000 x else if k = 34 ∧ i = 4 then Rg 0 128 x else if k = 34 ∧ i = 6 then Rg 0 2000000000 x else if k = 34 ∧ i = 16 then Rg 0 60 x else if k = 34 ∧ i = 20 then Rg 0 1020 x else if k = 34 ∧ i = 21 then Rg 0 1020 x else if k = 34 ∧ i = 26 then Rg 0 8 x else if k = 0 ∧ i = 10 then R01 x else if k = 34 ∧ i = 17 then R01 x else if k = 3 then Rg 0 3 x else if k = 41 then Rg 0 3 x else if k = 23 then Rg 0 60 x else if k = 24 then Rg 0 60 x else if k = 4 then R01 x else if k = 8 then R01 x else if k = 42 then R01 x else if k = 46 then R01 x else True
def Inv (g : Mem) : Prop := ∀ k i, okv k i (g k i)
theorem Inv.up {g : Mem} {k i : Nat} {x : Int32} (h : Inv g) (hx : okv k i x) : Inv (up2 g k i x) := by
  intro a j
  by_cases e : a = k ∧ j = i
  · obtain ⟨rfl, rfl⟩ := e
    rw [up2_self]; exact hx
  · rw [up2_nei (by by_cases h : a = k <;> simp_all)]; exact h a j
theorem iv_size {g : Mem} (h : Inv g) : 0 ≤ (g 16 4).toInt ∧ (g 16 4).toInt ≤ 60 := by have := h 16 4; simpa [okv, Rg] using this
theorem ok_size {x : Int32} (h1 : 0 ≤ x.toInt) (h2 : x.toInt ≤ 60) : okv 16 4 x := by simp [okv, Rg, h1, h2]
theorem iv_psize {g : Mem} (h : Inv g) : 0 ≤ (g 20 5).toInt ∧ (g 20 5).toInt ≤ 8 := by have := h 20 5; simpa [okv, Rg] using this
theorem ok_psize {x : Int32} (h1 : 0 ≤ x.toInt) (h2 : x.toInt ≤ 8) : okv 20 5 x := by simp [okv, Rg, h1, h2]
theorem iv_runs {g : Mem} (h : Inv g) : 0 ≤ (g 20 4).toInt ∧ (g 20 4).toInt ≤ 8 := by have := h 20 4; simpa [okv, Rg] using this
theorem ok_runs {x : Int32} (h1 : 0 ≤ x.toInt) (h2 : x.toInt ≤ 8) : okv 20 4 x := by simp [okv, Rg, h1, h2]
theorem iv_hlen {g : Mem} (h : Inv g) : 0 ≤ (g 9 3).toInt ∧ (g 9 3).toInt ≤ 128 := by have := h 9 3; simpa [okv, Rg] using this
theorem ok_hlen {x : Int32} (h1 : 0 ≤ x.toInt) (h2 : x.toInt ≤ 128) : okv 9 3 x := by simp [okv, Rg, h1, h2]
theorem iv_wrt {g : Mem} (h : Inv g) : 0 ≤ (g 30 1).toInt ∧ (g 30 1).toInt ≤ 1020 := by have := h 30 1; simpa [okv, Rg] using this
theorem ok_wrt {x : Int32} (h1 : 0 ≤ x.toInt) (h2 : x.toInt ≤ 1020) : okv 30 1 x := by simp [okv, Rg, h1, h2]
theorem iv_safe {g : Mem} (h : Inv g) : 0 ≤ (g 30 2).toInt ∧ (g 30 2).toInt ≤ 1020 := by have := h 30 2; simpa [okv, Rg] using this
theorem ok_safe {x : Int32} (h1 : 0 ≤ x.toInt) (h2 : x.toInt ≤ 1020) : okv 30 2 x := by simp [okv, Rg, h1, h2]
theorem iv_time {g : Mem} (h : Inv g) : 0 ≤ (g 0 9).toInt ∧ (g 0 9).toInt ≤ 2000000000 := by have := h 0 9; simpa [okv, Rg] using this
theorem ok_time {x : Int32} (h1 : 0 ≤ x.toInt) (h2 : x.toInt ≤ 2000000000) : okv 0 9 x := by simp [okv, Rg, h1, h2]
theorem iv_msize {g : Mem} (h : Inv g) : 0 ≤ (g 34 4).toInt ∧ (g 34 4).toInt ≤ 128 := by have := h 34 4; simpa [okv, Rg] using this
theorem ok_msize {x : Int32} (h1 : 0 ≤ x.toInt) (h2 : x.toInt ≤ 128) : okv 34 4 x := by simp [okv, Rg, h1, h2]
theorem iv_mclock {g : Mem} (h : Inv g) : 0 ≤ (g 34 6).toInt ∧ (g 34 6).toInt ≤ 2000000000 := by have := h 34 6; simpa [okv, Rg] using this
theorem ok_mclock {x : Int32} (h1 : 0 ≤ x.toInt) (h2 : x.toInt ≤ 2000000000) : okv 34 6 x := by simp [okv, Rg, h1, h2]
theorem iv_many {g : Mem} (h : Inv g) : 0 ≤ (g 34 16).toInt ∧ (g 34 16).toInt ≤ 60 := by have := h 34 16; simpa [okv, Rg] using this
theorem ok_many {x : Int32} (h1 : 0 ≤ x.toInt) (h2 : x.toInt ≤ 60) : okv 34 16 x := by simp [okv, Rg, h1, h2]
theorem iv_mwrt {g : Mem} (h : Inv g) : 0 ≤ (g 34 20).toInt ∧ (g 34 20).toInt ≤ 1020 := by have := h 34 20; simpa [okv, Rg] using this
theorem ok_mwrt {x : Int32} (h1 : 0 ≤ x.toInt) (h2 : x.toInt ≤ 1020) : okv 34 20 x := by simp [okv, Rg, h1, h2]
theorem iv_msafe {g : Mem} (h : Inv g) : 0 ≤ (g 34 21).toInt ∧ (g 34 21).toInt ≤ 1020 := by have := h 34 21; simpa [okv, Rg] using this
theorem ok_msafe {x : Int32} (h1 : 0 ≤ x.toInt) (h2 : x.toInt ≤ 1020) : okv 34 21 x := by simp [okv, Rg, h1, h2]
theorem iv_pmany {g : Mem} (h : Inv g) : 0 ≤ (g 34 26).toInt ∧ (g 34 26).toInt ≤ 8 := by have := h 34 26; simpa [okv, Rg] using this
theorem ok_pmany {x : Int32} (h1 : 0 ≤ x.toInt) (h2 : x.toInt ≤ 8) : okv 34 26 x := by simp [okv, Rg, h1, h2]
theorem iv_shut {g : Mem} (h : Inv g) : R01 (g 0 10) := by have := h 0 10; simpa [okv] using this
theorem ok_shut {x : Int32} (h1 : R01 x) : okv 0 10 x := by simp [okv, h1]
theorem iv_mshut {g : Mem} (h : Inv g) : R01 (g 34 17) := by have := h 34 17; simpa [okv] using this
theorem ok_mshut {x : Int32} (h1 : R01 x) : okv 34 17 x := by simp [okv, h1]
theorem iv_grp {g : Mem} (h : Inv g) (i : Nat) : 0 ≤ (g 3 i).toInt ∧ (g 3 i).toInt ≤ 3 := by have := h 3 i; simpa [okv, Rg] using this
theorem ok_grp {x : Int32} {i : Nat} (h1 : 0 ≤ x.toInt) (h2 : x.toInt ≤ 3) : okv 3 i x := by simp [okv, Rg, h1, h2]
theorem iv_mgrp {g : Mem} (h : Inv g) (i : Nat) : 0 ≤ (g 41 i).toInt ∧ (g 41 i).toInt ≤ 3 := by have := h 41 i; simpa [okv, Rg] using this
theorem ok_mgrp {x : Int32} {i : Nat} (h1 : 0 ≤ x.toInt) (h2 : x.toInt ≤ 3) : okv 41 i x := by simp [okv, Rg, h1, h2]
theorem iv_sts {g : Mem} (h : Inv g) (i : Nat) : 0 ≤ (g 23 i).toInt ∧ (g 23 i).toInt ≤ 60 := by have := h 23 i; simpa [okv, Rg] using this
theorem ok_sts {x : Int32} {i : Nat} (h1 : 0 ≤ x.toInt) (h2 : x.toInt ≤ 60) : okv 23 i x := by simp [okv, Rg, h1, h2]
theorem iv_ends {g : Mem} (h : Inv g) (i : Nat) : 0 ≤ (g 24 i).toInt ∧ (g 24 i).toInt ≤ 60 := by have := h 24 i; simpa [okv, Rg] using this
theorem ok_ends {x : Int32} {i : Nat} (h1 : 0 ≤ x.toInt) (h2 : x.toInt ≤ 60) : okv 24 i x := by simp [okv, Rg, h1, h2]
theorem iv_lock {g : Mem} (h : Inv g) (i : Nat) : R01 (g 4 i) := by have := h 4 i; simpa [okv] using this
theorem ok_lock {x : Int32} {i : Nat} (h1 : R01 x) : okv 4 i x := by simp [okv, h1]
theorem iv_rts {g : Mem} (h : Inv g) (i : Nat) : R01 (g 8 i) := by have := h 8 i; simpa [okv] using this
theorem ok_rts {x : Int32} {i : Nat} (h1 : R01 x) : okv 8 i x := by simp [okv, h1]
theorem iv_mlock {g : Mem} (h : Inv g) (i : Nat) : R01 (g 42 i) := by have := h 42 i; simpa [okv] using this
theorem ok_mlock {x : Int32} {i : Nat} (h1 : R01 x) : okv 42 i x := by simp [okv, h1]
theorem iv_mgives {g : Mem} (h : Inv g) (i : Nat) : R01 (g 46 i) := by have := h 46 i; simpa [okv] using this
theorem ok_mgives {x : Int32} {i : Nat} (h1 : R01 x) : okv 46 i x := by simp [okv, h1]
theorem ok_any {k i : Nat} {x : Int32} (h : [0, 3, 4, 8, 9, 16, 20, 23, 24, 30, 34, 41, 42, 46].contains k = false) : okv k i x := by
  simp at h
  simp [okv, h]
theorem R01.nar {x : Int32} (h : R01 x) : narrow .boolean (.int x) = .int x := by rcases h with rfl | rfl <;> decide
theorem R01.vp {x : Int32} (h : R01 x) : vp_nar .boolean x = x := by rcases h with rfl | rfl <;> decide
theorem R01.fit {x : Int32} (h : R01 x) : fits .boolean (.int x) = true := by rcases h with rfl | rfl <;> decide
/-- which cells may have changed; the two clocks have not -/
def Kp (S : List Nat) (g g2 : Mem) : Prop := (∀ k, k ∉ S → g2 k = g k) ∧ g2 34 6 = g 34 6 ∧ g2 0 9 = g 0 9
theorem Kp.rf {S : List Nat} {g : Mem} : Kp S g g := ⟨fun _ _ => rfl, rfl, rfl⟩
theorem Kp.up {S : List Nat} {g g2 : Mem} {k i : Nat} {x : Int32} (h : Kp S g g2) (hk : k ∈ S) (h1 : k ≠ 34 ∨ i ≠ 6) (h2 : k ≠ 0 ∨ i ≠ 9) : Kp S g (up2 g2 k i x) := by
  refine ⟨fun a ha => ?_, ?_, ?_⟩
  · have e : a ≠ k := fun e => ha (by rw [e]; exact hk)
    rw [up2_ne e]; exact h.1 a ha
  · rw [up2_nei (h1.imp Ne.symm Ne.symm)]; exact h.2.1
  · rw [up2_nei (h2.imp Ne.symm Ne.symm)]; exact h.2.2
theorem Kp.tr {S S' : List Nat} {g g2 g3 : Mem} (h : Kp S g g2) (h2 : Kp S' g2 g3) (hs : ∀ k ∈ S', k ∈ S) : Kp S g g3 := ⟨fun a ha => (h2.1 a (fun q => ha (hs a q))).trans (h.1 a ha), h2.2.1.trans h.2.1, h2.2.2.trans h.2.2⟩
theorem i_min {x y z : Int32} (h : z = if y < x then y else x) : z.toInt ≤ x.toInt ∧ z.toInt ≤ y.toInt ∧ (z.toInt = x.toInt ∨ z.toInt = y.toInt) := by
  subst h
  split
  · rename_i h; have := i_lt h; omega
  · rename_i h; have := i_nlt h; omega
section MX
variable {X : XT} {p : Program} {l : Launch} {e : Env} {R : Room} {s : State} {m : MethodId} {args : Array Value} {below : List Frame} {meth : Method} {c : Code} {nL cells slots : Nat} {Q : State → Prop} {g : Mem} {pc : Nat} {lv : List (Nat × Value)} {st : List Value} {cc : ByteArray} {ret : Option FieldType} {own : String}
theorem m_tabO (C : Cx X p s m args meth c cc nL ret own) {dflt lo hi : Int} {offs : Array Int} {len : Nat} {x : Int32} (tgt : Nat) (hd : decode cc pc = .ok (.tableswitch dflt lo hi offs, len)) (h : x.toInt < lo ∨ hi < x.toInt) (ht : (pc : Int) + dflt = (tgt : Int)) (k : Wm X p l e R s m args below meth c nL cells slots Q g tgt lv st) : Wm X p l e R s m args below meth c nL cells slots Q g pc lv (.int x :: st) := fun H locs ls hP hS hl => lv_tableOut C.1 C.2.1 hd h ht (k H locs ls hP hS hl)
theorem m_tabI (C : Cx X p s m args meth c cc nL ret own) {dflt lo hi : Int} {offs : Array Int} {len : Nat} {x : Int32} {off : Int} (tgt : Nat) (hd : decode cc pc = .ok (.tableswitch dflt lo hi offs, len)) (h1 : ¬ x.toInt < lo) (h2 : ¬ hi < x.toInt) (ho : offs[(x.toInt - lo).toNat]? = some off) (ht : (pc : Int) + off = (tgt : Int)) (k : Wm X p l e R s m args below meth c nL cells slots Q g tgt lv st) : Wm X p l e R s m args below meth c nL cells slots Q g pc lv (.int x :: st) := fun H locs ls hP hS hl => lv_tableIn C.1 C.2.1 hd h1 h2 ho ht (k H locs ls hP hS hl)
theorem m_look (C : Cx X p s m args meth c cc nL ret own) {dflt : Int} {ps : Array (Int × Int)} {len : Nat} {x : Int32} {off : Int} (tgt : Nat) (hd : decode cc pc = .ok (.lookupswitch dflt ps, len)) (hp : (ps.toList.zip (ps.toList.drop 1)).all (fun (a, next) => a.1 < next.1) = true) (ho : Op.lookupswitch.offset ps.toList dflt x.toInt = off) (ht : (pc : Int) + off = (tgt : Int)) (k : Wm X p l e R s m args below meth c nL cells slots Q g tgt lv st) : Wm X p l e R s m args below meth c nL cells slots Q g pc lv (.int x :: st) := fun H locs ls hP hS hl => lv_lookup C.1 C.2.1 hd hp ho ht (k H locs ls hP hS hl)
theorem m_min (C : Cx X p s m args meth c cc nL ret own) {ix : Nat} {x y : Int32} (hd : decode cc pc = .ok (.invokestatic ix, 3)) (hw : Cond.methodLink own ix Lib.Math.min.name ∈ gtbl) (hR : 1 ≤ R.frames ∧ (st.map fun v => v.category).sum + 13 ≤ R.locals) (hf : cells ≤ R.cells ∧ slots ≤ R.slots) (k : Wm X p l e R s m args below meth c nL cells slots Q g (pc + 3) lv (.int (if y < x then y else x) :: st)) : Wm X p l e R s m args below meth c nL cells slots Q g pc lv (.int y :: .int x :: st) := fun H locs ls hP hS hl => va_mmin C.1 C.2.1 (C.2.2.1.trans hl.1.symm) C.2.2.2.1 (C.2.2.2.2.1 _ hw) (C.2.2.2.2.1 _ (gtbl_of (by decide +kernel) (by decide +kernel))) (C.2.2.2.2.1 _ (gtbl_of (by decide +kernel) (by decide +kernel))) (C.2.2.2.2.1 _ (gtbl_of (by decide +kernel) (by decide +kernel))) hR.1 hR.2 hf.1 hf.2 hd (k H locs ls hP hS hl)
end MX
