/-! THE CLAIM OUT OF ONE WALK OF THE LAW'S BODY. Your part is whole_start (and what it stands on); all else here is the same for every law, but numbers. -/
def R_law : String := "AuditVaultLaw"
def lw_P (b : Addr) (xs : List Int32) (args : Array Value) (s : State) : Prop := args = #[.ref b] ∧ s.IntsAt b xs ∧ xs.length ≤ 7 ∧ (Jvm.Cond.and given_1 narrow_1).before args s = true
def lw_Q (_ : Array Value) (s : State) (o : Outcome) (t : State) : Prop := o = .returned (some (.int 1)) ∧ Framed s o t [] 600000 7302250
def lw_Z (below : List Frame) (a : Array Value) (s : State) : State → Prop := fun t => ∃ o, t.status = .running ∧ Ended t below o ∧ lw_Q a s o t
/-- the law's own end, with 1 on the stack, nothing written that was there before, its room as the claim has it -/
theorem lw_ret {p : Program} {l : Launch} {e : Env} {s : State} {m : MethodId} {below : List Frame} {meth : Method} {c : Code} {b : Nat} (hx : p.tables.exec = Jvm.exec) (hb : c.code = code) (hr : meth.sig.returnType = ret) (hlocks : meth.locks = false) {pc : Nat} {H : Heap} {ls : Array Slot} (hdg : decode code pc = .ok (.ireturn, 1)) : W p l e room_1 s m #[Value.ref b] below meth c H [] 600000 7302250 (lw_Z below #[Value.ref b] s) (F0 m pc ls [.int 1]) := by
  intro T hT X
  obtain ⟨fs, hret, hrun, hended, hW, hframe⟩ := X.leave (v := some (.int 1)) (hlocks := hlocks) (fun h => by rw [hr] at h; cases h)
  have hmeth' : T.vm.method? m = some meth := X.method'
  refine ⟨T.setFrames fs, ?_, .returned (some (.int 1)), hrun, hended, rfl, ⟨_, rfl⟩, hW, hframe⟩
  jvm_step X.here [X.here.top, hx, hb, hdg, hmeth', hr, ret, narrow_b1]
  (try refine ⟨rfl, ?_⟩); (try refine ⟨rfl, ?_⟩)
  first | (intro acts; rw [hret _ acts rfl rfl rfl]) | rw [hret _ _ rfl rfl rfl]
  exact Steps.refl _
/-- what holds at the law's entry: the machine, the code, the tables' words (any of lw_tbl by 'hts w (by decide +kernel)'), the script of L ints xs at the cell b, what the Statement gives of the start (any of its parts by flat_of_before) -/
def lw_At (p : Program) (s : State) (m : MethodId) (meth : Method) (c : Code) (b L : Nat) (xs : Nat → Int32) : Prop :=
  p.tables.exec = Jvm.exec ∧ c.code = code ∧ meth.sig.returnType = ret ∧ c.maxLocals = 4 ∧ s.vm.findClass R_law = some m.cls ∧ (∀ w ∈ lw_tbl, w.before #[Value.ref b] s = true) ∧ va_X b L xs s s.heap ∧ b < s.heap.size ∧ meth.locks = false ∧ (Jvm.Cond.and given_1 narrow_1).before #[Value.ref b] s = true

/-- what the law's walk holds before the cells stand -/
def Cw (X : XT) (p : Program) (s : State) (m : MethodId) (args : Array Value) (c : Code) (cc : ByteArray) (nL : Nat) (own : String) : Prop :=
  p.tables.exec = Jvm.exec ∧ c.code = cc ∧ c.maxLocals = nL ∧ s.vm.findClass own = some m.cls ∧ (∀ w ∈ gtbl, w.before args s = true) ∧ Fx X s ∧ (∀ q, s.heap.size ≤ q → Ab X q)
section LW
variable {X : XT} {p : Program} {l : Launch} {e : Env} {R : Room} {s : State} {m : MethodId} {args : Array Value} {below : List Frame} {meth : Method} {c : Code} {nL cells slots : Nat} {Q : State → Prop} {L : Nat → Nat} {shs : List shp2} {pc : Nat} {lv : List (Nat × Value)} {st : List Value} {cc : ByteArray} {own : String}
theorem w_new (C : Cw X p s m args c cc nL own) {ix ci N : Nat} {cn : String} {T : u_T} (fs : List (Option (Option Nat))) (ty : Nat → FieldType) (hty : ∀ k, k < N → parseFieldDescriptor (T k).2.2.1 = some (ty k)) (hc : vwCl[ci]? = some (cn, T, N)) (hin : ∀ w ∈ u_ws cn T N, w ∈ gtbl) (hcl : Cond.classLink own ix cn ∈ gtbl) (hinst : Cond.instantiable cn N ∈ gtbl) (hini : Cond.initialized cn ∈ gtbl) (hr : shs.all (okr shs.length) = true) (hs : okr shs.length (.inl (ci, fs)) = true)
    (hfs : ∀ j, j < N → defaultValue (ty j) = vp_V (fs.map (fv2 L)) j) (hcells : cells + 1 ≤ R.cells) (hslots : slots + N ≤ R.slots) (hd : decode cc pc = .ok (.new ix, 3))
    (k : ∀ L' : Nat → Nat, (∀ r, r < shs.length → L' r = L r) → Wc X p l e R s m args below meth c nL Q L' (shs ++ [.inl (ci, fs)]) (cells + 1) (slots + N) (pc + 3) lv (.ref (L' shs.length) :: st)) : Wc X p l e R s m args below meth c nL Q L shs cells slots pc lv st := by
  intro H locs ls hP hD hS hl
  obtain ⟨hx, hb, -, hown, hts, hF, hA⟩ := C
  refine va_new (ci := ci) (fs := fs.map (fv2 L)) hx hb hts hin ty hty hown (hts _ hcl) (hts _ hinst) (hts _ hini) hF.1 hP hD hS hA hc hfs hcells hslots hd (fun q H1 hP1 hD1 hS1 => ?_)
  have hL : ∀ r, r < shs.length → (fun k => if k = shs.length then q else L k) r = L r := fun r h => if_neg (by omega)
  have e := wlq_app (X := X) (q := q) (L' := fun k => if k = shs.length then q else L k) hr hs hL (if_pos rfl)
  have hP2 : va_P X.1 vwCl (wlq X (fun k => if k = shs.length then q else L k) (shs ++ [.inl (ci, fs)])) H1 := e ▸ hP1
  have hD2 : va_D (Ab X) (wlq X (fun k => if k = shs.length then q else L k) (shs ++ [.inl (ci, fs)])) := e ▸ hD1
  have := k _ hL H1 locs ls hP2 hD2 hS1 hl
  rw [if_pos rfl] at this
  exact this
theorem w_dup (C : Cw X p s m args c cc nL own) {v : Value} (hd : decode cc pc = .ok (.dup, 1)) (hc : v.category = 1) (k : Wc X p l e R s m args below meth c nL Q L shs cells slots (pc + 1) lv (v :: v :: st)) : Wc X p l e R s m args below meth c nL Q L shs cells slots pc lv (v :: st) := fun H locs ls hP hD hS hl => lv_dup C.1 C.2.1 hd hc (k H locs ls hP hD hS hl)
theorem w_astore_n (C : Cw X p s m args c cc nL own) {i : Fin 4} {x : Nat} (lv' : List (Nat × Value)) (hd : decode cc pc = .ok (.astore_n i, 1)) (hn : i.val < nL) (hl' : (i.val, Value.ref x) :: lv.filter (fun q => !(q.1 == i.val) && !(q.1 + 1 == i.val && q.2.category == 2)) = lv') (k : Wc X p l e R s m args below meth c nL Q L shs cells slots (pc + 1) lv' st) : Wc X p l e R s m args below meth c nL Q L shs cells slots pc lv (.ref x :: st) := fun H locs ls hP hD hS hl => lv_astore_n C.1 C.2.1 hd rfl hl hn hl' (fun ls' h => k H locs ls' hP hD hS h)
theorem w_init {y : MethodName} {bytes : ByteArray} {maxL n ix d mc ms a : Nat} {As st0 : List Value} {shs' : List shp2} (C : Cw X p s m args c cc nL own) (hc : CalC y bytes maxL n) (hM : CtrC l X y bytes maxL d (.ref a :: As) L shs shs' mc ms) (hw : Cond.methodLink own ix y ∈ gtbl) (hR : d + 1 ≤ R.frames ∧ 8 + (maxL + 11) + 32 * d ≤ R.locals) (hn : As.length = n) (hst : st0 = As.reverse ++ .ref a :: st) (hW : (st.map fun v => v.category).sum ≤ 8) (hd : decode cc pc = .ok (.invokespecial ix, 3)) (hf : cells + mc ≤ R.cells ∧ slots + ms ≤ R.slots)
    (kk : ∀ L' : Nat → Nat, (∀ r, r < shs.length → L' r = L r) → Wc X p l e R s m args below meth c nL Q L' shs' (cells + mc) (slots + ms) (pc + 3) lv st) : Wc X p l e R s m args below meth c nL Q L shs cells slots pc lv st0 := by
  intro H locs ls hP hD hS hl
  obtain ⟨hx, hb, hml, hown, hts, hF, hA⟩ := C
  exact c_run hS hl (va_runI (cc := cc) (nL := nL) (Ts := gtbl) (own := own) ⟨hx, hb, hml, hown, hts⟩ hM (cwI n hts (gtbl_good' hc.1) rfl rfl rfl (hts _ hc.2.1) (hts _ hw) (hts _ hc.2.2.2.2) hc.2.2.2.1 hc.2.2.1 hR) ⟨cPc_blind, fun U hU hW0 => ⟨rfl, by rw [hU]; exact hP, hD, hF.to hW0 hS hU, fun q hq => hA q (Nat.le_trans hS.1 (by rw [hU] at hq; exact hq))⟩⟩ rfl hn hl.1 hst (lv_room hW) hd hf) kk
theorem w_runM {a : Array Value} {mc ms n : Nat} {st0 : List Value} {H : Heap} {locs : List Loc} {ls : Array Slot} (hS : va_S (Ab X) s.heap H locs) (hl : lv_has ls nL lv) (hr : va_Run p l e R s m args below meth c H locs cells slots mc ms (F0 m pc ls st0) st (cQm X L n a) (Ab X))
    (kk : ∀ (L' : Nat → Nat) (g : Mem), (∀ r, r < n → L' r = L r) → Lok (XL X L') → Inv g → Kq [35] [] zM g ∧ hs_Rq g → Wm (XL X L') p l e R s m args below meth c nL (cells + mc) (slots + ms) Q g (pc + 3) lv st) : W p l e R s m args below meth c H locs cells slots Q (F0 m pc ls st0) := by
  intro T hT W0
  obtain ⟨v, st₀, t, T', Lc, h0, X', hL, e1, e2, ⟨⟨L', g, hL', hv, hw, hlk, hI, hK⟩, hz, hk⟩, stp⟩ := hr T hT W0
  cases hv
  rw [h0] at hz hk
  obtain ⟨t2, a1, b1⟩ := kk L' g hL' hlk hI hK T'.heap (locs ++ Lc) ls (by rw [e1]; exact hw) ⟨Nat.le_trans hS.1 (by rw [e1]; exact hz), fun q h1 h2 => by rw [e1, hk q (Nat.lt_of_lt_of_le h1 hS.1) h2]; exact hS.2.1 q h1 h2, fun q hq => by
      rcases List.mem_append.mp hq with h | h
      · exact hS.2.2 q h
      · exact hL q h⟩ hl T' rfl X'
  exact ⟨t2, stp t2 a1, b1⟩
theorem w_initM {y : MethodName} {bytes : ByteArray} {maxL n n0 ix d mc ms a : Nat} {As st0 : List Value} (C : Cw X p s m args c cc nL own) (hc : CalC y bytes maxL n) (hM : Met l y (.code y bytes maxL none :: gtbl) (rmC d mc ms) (cPc X (.ref a :: As) L shs) (cQm X L n0) mc ms (Ab X)) (hw : Cond.methodLink own ix y ∈ gtbl) (hR : d + 1 ≤ R.frames ∧ 8 + (maxL + 11) + 32 * d ≤ R.locals) (hn : As.length = n) (hst : st0 = As.reverse ++ .ref a :: st) (hW : (st.map fun v => v.category).sum ≤ 8) (hd : decode cc pc = .ok (.invokespecial ix, 3)) (hf : cells + mc ≤ R.cells ∧ slots + ms ≤ R.slots)
    (kk : ∀ (L' : Nat → Nat) (g : Mem), (∀ r, r < n0 → L' r = L r) → Lok (XL X L') → Inv g → Kq [35] [] zM g ∧ hs_Rq g → Wm (XL X L') p l e R s m args below meth c nL (cells + mc) (slots + ms) Q g (pc + 3) lv st) : Wc X p l e R s m args below meth c nL Q L shs cells slots pc lv st0 := by
  intro H locs ls hP hD hS hl
  obtain ⟨hx, hb, hml, hown, hts, hF, hA⟩ := C
  exact w_runM hS hl (va_runI (cc := cc) (nL := nL) (Ts := gtbl) (own := own) ⟨hx, hb, hml, hown, hts⟩ hM (cwI n hts (gtbl_good' hc.1) rfl rfl rfl (hts _ hc.2.1) (hts _ hw) (hts _ hc.2.2.2.2) hc.2.2.2.1 hc.2.2.1 hR) ⟨cPc_blind, fun U hU hW0 => ⟨rfl, by rw [hU]; exact hP, hD, hF.to hW0 hS hU, fun q hq => hA q (Nat.le_trans hS.1 (by rw [hU] at hq; exact hq))⟩⟩ rfl hn hl.1 hst (lv_room hW) hd hf) kk
end LW
/-- the law's walk over the flat memory: its context, the script, its frame -/
def LC (X : XT) (p : Program) (s : State) (m : MethodId) (meth : Method) (c : Code) (b N : Nat) (xs : Nat → Int32) : Prop := Cx X p s m #[Value.ref b] meth c cL_law 4 ret RL ∧ va_X b N xs s s.heap ∧ b < s.heap.size ∧ ¬ Ab X b ∧ N ≤ 3584 ∧ (∀ q, Ab X q → s.heap.size ≤ q)
abbrev lvL (X : XT) (b : Nat) (i : Int32) : List (Nat × Value) := [(0, .ref b), (1, .ref (aL X 0)), (2, .ref (aL X 34)), (3, .int i)]
def ar (xs : Nat → Int32) (i : Int32) (n : Int32) : Int32 := xs (i + n).toNatClampNeg
section LV
variable {X : XT} {p : Program} {l : Launch} {e : Env} {R : Room} {s : State} {m : MethodId} {below : List Frame} {meth : Method} {c : Code} {cells slots : Nat} {Q : State → Prop} {g : Mem} {pc : Nat} {lv : List (Nat × Value)} {st : List Value} {b N : Nat} {xs : Nat → Int32} {i : Int32}
theorem l_sld (Z : LC X p s m meth c b N xs) {j : Int32} (hin : vp_in j N) (hd : decode cL_law pc = .ok (.iaload, 1)) (k : Wm X p l e R s m #[Value.ref b] below meth c 4 cells slots Q g (pc + 1) lv (.int (xs j.toNatClampNeg) :: st)) : Wm X p l e R s m #[Value.ref b] below meth c 4 cells slots Q g pc lv (.int j :: .ref b :: st) := fun H locs ls hP hS hl => va_sld Z.1.1 Z.1.2.1 Z.2.1 Z.2.2.1 Z.2.2.2.1 hS hin hd (k H locs ls hP hS hl)
theorem l_slen (Z : LC X p s m meth c b N xs) (hd : decode cL_law pc = .ok (.arraylength, 1)) (k : Wm X p l e R s m #[Value.ref b] below meth c 4 cells slots Q g (pc + 1) lv (.int (Int32.ofNat N) :: st)) : Wm X p l e R s m #[Value.ref b] below meth c 4 cells slots Q g pc lv (.ref b :: st) := fun H locs ls hP hS hl => va_slen Z.1.1 Z.1.2.1 Z.2.1 Z.2.2.1 Z.2.2.2.1 hS hd (k H locs ls hP hS hl)
theorem l_in {j : Int32} {N : Nat} (h1 : 0 ≤ j.toInt) (h2 : j.toInt < N) : vp_in j N := i_in h1 h2
theorem l_at {j n : Int32} {N : Nat} (hN : N ≤ 3584) (h1 : 0 ≤ j.toInt) (h2 : j.toInt + 7 ≤ N) (h3 : 0 ≤ n.toInt) (h4 : n.toInt ≤ 6) : vp_in (j + n) N := by
  have h := i_add (x := j) (y := n) rfl rfl (by omega) (by omega)
  exact l_in (by omega) (by omega)
theorem l_arg (Z : LC X p s m meth c b N xs) (hi : 0 ≤ i.toInt ∧ i.toInt + 7 ≤ N) {n : Int} (v : Int32) (d1 : decode cL_law pc = .ok (.aload_n 0, 1)) (d2 : decode cL_law (pc + 1) = .ok (.iload_n 3, 1)) (d3 : decode cL_law (pc + 1 + 1) = .ok (.iconst n, 1)) (d4 : decode cL_law (pc + 1 + 1 + 1) = .ok (.iadd, 1)) (d5 : decode cL_law (pc + 1 + 1 + 1 + 1) = .ok (.iaload, 1)) (hv : Int32.ofInt n = v) (hv2 : 0 ≤ v.toInt ∧ v.toInt ≤ 6)
    (k : Wm X p l e R s m #[Value.ref b] below meth c 4 cells slots Q g (pc + 1 + 1 + 1 + 1 + 1) (lvL X b i) (.int (ar xs i v) :: st)) : Wm X p l e R s m #[Value.ref b] below meth c 4 cells slots Q g pc (lvL X b i) st := by
  refine m_aload_n Z.1 d1 0 rfl ?_
  refine m_iload_n Z.1 d2 3 rfl ?_
  refine m_iconst Z.1 v d3 hv ?_
  refine m_iadd Z.1 d4 ?_
  exact l_sld Z (l_at Z.2.2.2.2.1 hi.1 hi.2 hv2.1 hv2.2) d5 k
theorem l_argB (Z : LC X p s m meth c b N xs) (hi : 0 ≤ i.toInt ∧ i.toInt + 7 ≤ N) {n : Int} (v : Int32) (d1 : decode cL_law pc = .ok (.aload_n 0, 1)) (d2 : decode cL_law (pc + 1) = .ok (.iload_n 3, 1)) (d3 : decode cL_law (pc + 1 + 1) = .ok (.bipush n, 2)) (d4 : decode cL_law (pc + 1 + 1 + 2) = .ok (.iadd, 1)) (d5 : decode cL_law (pc + 1 + 1 + 2 + 1) = .ok (.iaload, 1)) (hv : (Int8.ofInt n).toInt32 = v) (hv2 : 0 ≤ v.toInt ∧ v.toInt ≤ 6)
    (k : Wm X p l e R s m #[Value.ref b] below meth c 4 cells slots Q g (pc + 1 + 1 + 2 + 1 + 1) (lvL X b i) (.int (ar xs i v) :: st)) : Wm X p l e R s m #[Value.ref b] below meth c 4 cells slots Q g pc (lvL X b i) st := by
  refine m_aload_n Z.1 d1 0 rfl ?_
  refine m_iload_n Z.1 d2 3 rfl ?_
  refine m_bipush Z.1 v d3 hv ?_
  refine m_iadd Z.1 d4 ?_
  exact l_sld Z (l_at Z.2.2.2.2.1 hi.1 hi.2 hv2.1 hv2.2) d5 k
theorem l_end (Z : LC X p s m meth c b N xs) (h1 : cells ≤ 600000) (h2 : slots ≤ 7302250) (d1 : decode cL_law pc = .ok (.iconst 1, 1)) (d2 : decode cL_law (pc + 1) = .ok (.ireturn, 1)) : Wm X p l e room_1 s m #[Value.ref b] below meth c 4 cells slots (lw_Z below #[Value.ref b] s) g pc lv [] := fun H locs ls hP hS hl =>
  lv_iconst (v := 1) Z.1.1 Z.1.2.1 d1 (by decide) (va_forget (fun q hq => Z.2.2.2.2.2 _ (hS.2.2 q hq)) (W.widen h1 h2 (lw_ret Z.1.1 Z.1.2.1 Z.1.2.2.2.2.2.2.2.1 Z.1.2.2.2.2.2.2.2.2 d2)))
end LV
