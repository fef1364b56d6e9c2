def cPc (X : XT) (av : List Value) (L : Nat → Nat) (shs : List shp2) : Array Value → State → Prop := va_Pc av (fun U => va_P X.1 vwCl (wlq X L shs) U.heap ∧ va_D (Ab X) (wlq X L shs) ∧ Fx X U ∧ ∀ q, U.heap.size ≤ q → Ab X q)
def cQc (X : XT) (L : Nat → Nat) (n : Nat) (shs : List shp2) : Array Value → State → Outcome → State → Prop := fun _ st oc t => (∃ L' : Nat → Nat, (∀ r, r < n → L' r = L r) ∧ oc = .returned none ∧ va_P X.1 vwCl (wlq X L' shs) t.heap ∧ va_D (Ab X) (wlq X L' shs)) ∧ va_F (Ab X) st t
def rmC (d mc ms : Nat) : Room := { frames := d, cells := mc, slots := ms, locals := 32 * d }
def CtrC (l : Launch) (X : XT) (y : MethodName) (cc : ByteArray) (nL d : Nat) (av : List Value) (L : Nat → Nat) (shs shs' : List shp2) (mc ms : Nat) : Prop := Met l y (.code y cc nL none :: gtbl) (rmC d mc ms) (cPc X av L shs) (cQc X L shs.length shs') mc ms (Ab X)
def CalC (y : MethodName) (bytes : ByteArray) (maxL n : Nat) : Prop := Cond.code y bytes maxL none ∈ gtbl ∧ Cond.initialized y.cls ∈ gtbl ∧ (y.cls ≠ "java/lang/invoke/MethodHandle" ∧ y.cls ≠ "java/lang/invoke/VarHandle" ∧ (parseMethodDescriptor y.desc).map (fun d => d.parameters.length) = some n) ∧ y.name = "<init>" ∧ Cond.instanceMethod y ∈ gtbl
theorem cPc_blind {X : XT} {av : List Value} {L : Nat → Nat} {shs : List shp2} : FrameBlind (cPc X av L shs) := fun a U f mk ⟨h1, h2, h3, h4, h5⟩ => ⟨h1, h2, h3, h4.call, h5⟩
theorem CtrC.of {l : Launch} {X : XT} {y : MethodName} {cc : ByteArray} {nL d mc ms : Nat} {av : List Value} {L : Nat → Nat} {shs shs' : List shp2} {lv : List (Nat × Value)} (hy : plainName y.cls = true) (hyn : y.name = "<init>") (hlv : lv_args 0 av = lv) (hn : (lg_sl av).length ≤ nL)
    (body : ∀ p e s m below meth c, Cc X p s m av.toArray meth c cc nL y.cls → Wc X p l e (rmC d mc ms) s m av.toArray below meth c nL (MQ below (cQc X L shs.length shs') av.toArray s mc ms (Ab X)) L shs 0 0 0 lv []) : CtrC l X y cc nL d av L shs shs' mc ms := by
  refine Met.ofW (cc := cc) (maxL := nL) (ret := none) hy rfl ?_
  intro p e s m args below meth c s₁ B hml hv
  obtain ⟨rfl, hP, hD, hF, hA⟩ := hv
  have hts := atoms_spec (ws := .code y cc nL none :: gtbl) B.pre
  have hown : s.vm.findClass y.cls = some m.cls := findClass_of_methodNamed B.named
  have hnm : meth.name = y.name := (name_of_methodNamed B.named B.method).1
  rw [lg_entry_eq]
  exact body p e s m below meth c ⟨B.exec, B.bytes, hml, hown, fun w hw => hts w (List.mem_cons_of_mem _ hw), hF, hA, B.returns, B.notSynchronized, hnm.trans hyn⟩ s.heap [] _ hP hD va_S.rf (hlv ▸ lv_entry av hn)
section CU
variable {X : XT} {p : Program} {l : Launch} {e : Env} {R : Room} {s : State} {m : MethodId} {args : Array Value} {below : List Frame} {meth : Method} {c : Code} {nL cells slots : Nat} {Q : State → Prop} {L L0 : Nat → Nat} {shs : List shp2} {pc : Nat} {lv : List (Nat × Value)} {st : List Value} {cc : ByteArray} {own : String}
theorem c_vret (C : Cc X p s m args meth c cc nL own) {n : Nat} (hd : decode cc pc = .ok (.return_, 1)) (hL : ∀ r, r < n → L r = L0 r) : Wc X p l e R s m args below meth c nL (MQ below (cQc X L0 n shs) args s cells slots (Ab X)) L shs cells slots pc lv [] := fun H locs ls hP hD hS hl => W.vret C.1 C.2.1 C.2.2.2.2.2.2.2.1 (fun t ht _ => ⟨⟨L, hL, rfl, by rw [ht]; exact hP, hD⟩, hS.F ht⟩) hS.2.2 hd C.2.2.2.2.2.2.2.2.1
theorem c_run {a : Array Value} {mc ms : Nat} {st0 : List Value} {shs' : List shp2} {H : Heap} {locs : List Loc} {ls : Array Slot} (hS : va_S (Ab X) s.heap H locs) (hl : lv_has ls nL lv) (hr : va_Run p l e R s m args below meth c H locs cells slots mc ms (F0 m pc ls st0) st (cQc X L shs.length shs' a) (Ab X))
    (kk : ∀ L' : Nat → Nat, (∀ r, r < shs.length → L' r = L r) → Wc X p l e R s m args below meth c nL Q L' shs' (cells + mc) (slots + ms) (pc + 3) lv st) : W p l e R s m args below meth c H locs cells slots Q (F0 m pc ls st0) := by
  intro T hT W0
  obtain ⟨v, st₀, t, T', Lc, h0, X', hL, e1, e2, ⟨⟨L', hL', hv, hw, hw2⟩, hz, hk⟩, stp⟩ := hr T hT W0
  cases hv
  rw [h0] at hz hk
  obtain ⟨t2, a1, b1⟩ := kk L' hL' T'.heap (locs ++ Lc) ls (by rw [e1]; exact hw) hw2 ⟨Nat.le_trans hS.1 (by rw [e1]; exact hz), fun q h1 h2 => by rw [e1, hk q (Nat.lt_of_lt_of_le h1 hS.1) h2]; exact hS.2.1 q h1 h2, fun q hq => by
      rcases List.mem_append.mp hq with h | h
      · exact hS.2.2 q h
      · exact hL q h⟩ hl T' rfl X'
  exact ⟨t2, stp t2 a1, b1⟩
theorem c_initN {host : String} {y : MethodName} {bytes : ByteArray} {maxL n ix d mc ms a : Nat} {As st0 : List Value} {shs' : List shp2} (C : Cc X p s m args meth c cc nL own) (hc : CalC y bytes maxL n) (hM : CtrC l X y bytes maxL d (.ref a :: As) L shs shs' mc ms) (hw : (own, ix, y, host) ∈ nestM) (hR : d + 1 ≤ R.frames ∧ 8 + (maxL + 11) + 32 * d ≤ R.locals) (hn : As.length = n) (hst : st0 = As.reverse ++ .ref a :: st) (hW : (st.map fun v => v.category).sum ≤ 8) (hd : decode cc pc = .ok (.invokespecial ix, 3)) (hf : cells + mc ≤ R.cells ∧ slots + ms ≤ R.slots)
    (kk : ∀ L' : Nat → Nat, (∀ r, r < shs.length → L' r = L r) → Wc X p l e R s m args below meth c nL Q L' shs' (cells + mc) (slots + ms) (pc + 3) lv st) : Wc X p l e R s m args below meth c nL Q L shs cells slots pc lv st0 := by
  intro H locs ls hP hD hS hl
  obtain ⟨hx, hb, hml, hown, hts, hF, hA, -⟩ := C
  exact c_run hS hl (va_runIN (cc := cc) (nL := nL) (Ts := gtbl) (own := own) ⟨hx, hb, hml, hown, hts⟩ hM ⟨va_cnB n hts (gtbl_good' hc.1) rfl rfl rfl (hF.2.1.2 _ hw) (hts _ hc.2.1) hc.2.2.1 hR, hc.2.2.2.1, hts _ hc.2.2.2.2⟩ ⟨cPc_blind, fun U hU hW0 => ⟨rfl, by rw [hU]; exact hP, hD, hF.to hW0 hS hU, fun q hq => hA q (Nat.le_trans hS.1 (by rw [hU] at hq; exact hq))⟩⟩ rfl hn hl.1 hst (lv_room hW) hd hf) kk
end CU
