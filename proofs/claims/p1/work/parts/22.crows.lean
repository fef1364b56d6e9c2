section CT
variable {X : XT} {p : Program} {l : Launch} {e : Env} {R : Room} {s : State} {m : MethodId} {args : Array Value} {below : List Frame} {meth : Method} {c : Code} {nL cells slots : Nat} {Q : State → Prop} {L : Nat → Nat} {shs : List shp2} {pc : Nat} {lv : List (Nat × Value)} {st : List Value} {cc : ByteArray} {own : String}
theorem c_newI (C : Cc X p s m args meth c cc nL own) {atype : ArrayType} {n : Int32} {N : Nat} (hty : newarray.typeOf atype = .int) (harr : Cond.arrayClass (newarray.typeOf atype) ∈ gtbl) (hn : ¬ n < 0) (hN : n.toNatClampNeg = N) (hb4 : N * componentBytes .int ≤ 536870912) (hr : shs.all (okr shs.length) = true) (hcells : cells + 1 ≤ R.cells) (hslots : slots + N ≤ R.slots) (hd : decode cc pc = .ok (.newarray atype, 2))
    (k : ∀ L' : Nat → Nat, (∀ r, r < shs.length → L' r = L r) → Wc X p l e R s m args below meth c nL Q L' (shs ++ [.inr (false, N)]) (cells + 1) (slots + N) (pc + 2) lv (.ref (L' shs.length) :: st)) : Wc X p l e R s m args below meth c nL Q L shs cells slots pc lv (.int n :: st) := by
  intro H locs ls hP hD hS hl
  obtain ⟨hx, hb, -, hown, hts, hF, hA, -⟩ := C
  refine va_newa hx hb (hts _ harr) hty hF.1 hP hD hS hA (a0 := (N, .inl (fun _ => 0))) (fun _ => rfl) hn hN hb4 hcells hslots hd (fun q cA H1 hK1 hP1 hD1 hS1 => ?_)
  have hcA : cA = X.2.1 := Option.some.inj ((hK1.2 2 _ rfl).2.symm.trans (hF.1.2 0 _ rfl).2)
  subst hcA
  have hL : ∀ r, r < shs.length → (fun k => if k = shs.length then q else L k) r = L r := fun r h => if_neg (by omega)
  have e := wlq_app (X := X) (q := q) (sh := .inr (false, N)) (L' := fun k => if k = shs.length then q else L k) hr rfl hL (if_pos rfl)
  have hP2 : va_P X.1 vwCl (wlq X (fun k => if k = shs.length then q else L k) (shs ++ [.inr (false, N)])) H1 := e ▸ hP1
  have hD2 : va_D (Ab X) (wlq X (fun k => if k = shs.length then q else L k) (shs ++ [.inr (false, N)])) := e ▸ hD1
  have := k _ hL H1 locs ls hP2 hD2 hS1 hl
  rw [if_pos rfl] at this
  exact this
theorem c_newZ (C : Cc X p s m args meth c cc nL own) {atype : ArrayType} {n : Int32} {N : Nat} (hty : newarray.typeOf atype = .boolean) (harr : Cond.arrayClass (newarray.typeOf atype) ∈ gtbl) (hn : ¬ n < 0) (hN : n.toNatClampNeg = N) (hb4 : N * componentBytes .boolean ≤ 536870912) (hr : shs.all (okr shs.length) = true) (hcells : cells + 1 ≤ R.cells) (hslots : slots + N ≤ R.slots) (hd : decode cc pc = .ok (.newarray atype, 2))
    (k : ∀ L' : Nat → Nat, (∀ r, r < shs.length → L' r = L r) → Wc X p l e R s m args below meth c nL Q L' (shs ++ [.inr (true, N)]) (cells + 1) (slots + N) (pc + 2) lv (.ref (L' shs.length) :: st)) : Wc X p l e R s m args below meth c nL Q L shs cells slots pc lv (.int n :: st) := by
  intro H locs ls hP hD hS hl
  obtain ⟨hx, hb, -, hown, hts, hF, hA, -⟩ := C
  refine va_newa hx hb (hts _ harr) hty hF.1 hP hD hS hA (a0 := (N, .inl (fun _ => 0))) (fun _ => rfl) hn hN hb4 hcells hslots hd (fun q cA H1 hK1 hP1 hD1 hS1 => ?_)
  have hcA : cA = X.2.2.1 := Option.some.inj ((hK1.2 2 _ rfl).2.symm.trans (hF.1.2 1 _ rfl).2)
  subst hcA
  have hL : ∀ r, r < shs.length → (fun k => if k = shs.length then q else L k) r = L r := fun r h => if_neg (by omega)
  have e := wlq_app (X := X) (q := q) (sh := .inr (true, N)) (L' := fun k => if k = shs.length then q else L k) hr rfl hL (if_pos rfl)
  have hP2 : va_P X.1 vwCl (wlq X (fun k => if k = shs.length then q else L k) (shs ++ [.inr (true, N)])) H1 := e ▸ hP1
  have hD2 : va_D (Ab X) (wlq X (fun k => if k = shs.length then q else L k) (shs ++ [.inr (true, N)])) := e ▸ hD1
  have := k _ hL H1 locs ls hP2 hD2 hS1 hl
  rw [if_pos rfl] at this
  exact this
theorem c_putr (C : Cc X p s m args meth c cc nL own) {a ci r : Nat} {fs : List (Option (Option Nat))} (j : Nat) {cn : String} {T : u_T} {N ix : Nat} {ty : FieldType} (hc : vwCl[ci]? = some (cn, T, N)) (hin : ∀ w ∈ u_ws cn T N, w ∈ gtbl) (hj : j < N) (ty0 : Nat → FieldType) (hty : ∀ k, k < N → parseFieldDescriptor (T k).2.2.1 = some (ty0 k)) (hnm : ∀ a, a < N → ∀ b, b < N → a ≠ b → (T a).2.1 ≠ (T b).2.1) (hfin : (T j).2.2.2 = true) (hdecl : (T j).1 = own) (hpd : parseFieldDescriptor (T j).2.2.1 = some ty) (hnr : narrow ty (.ref (L r)) = .ref (L r)) (hft : fits ty (.ref (L r)) = true) (hs : shs[a]? = some (.inl (ci, fs))) (hjl : j < fs.length) (hd : decode cc pc = .ok (.putfield ix, 3)) (hw : Cond.fieldLink own ix (T j).1 (T j).2.1 (T j).2.2.1 ∈ gtbl)
    (k : Wc X p l e R s m args below meth c nL Q L (shs.set a (.inl (ci, fs.set j (some (some r))))) cells slots (pc + 3) lv st) : Wc X p l e R s m args below meth c nL Q L shs cells slots pc lv (.ref (L r) :: .ref (L a) :: st) := by
  intro H locs ls hP hD hS hl
  obtain ⟨hx, hb, -, hown, hts, hF, hA, -, -, hin2⟩ := C
  have ha : a < shs.length := (List.getElem?_eq_some_iff.mp hs).1
  refine va_putF hx hb hts hin ty0 hty hnm hown hF.1 hP hD hS a (wlq_at hs) hc j hj (hts _ hw) (fun _ h9 => h9) hfin hin2 hdecl hpd hnr hft (by simpa using hjl) hd (fun H1 locs1 hP1 hD1 hS1 => ?_)
  have e : ((fs.map (fv2 L)).set j (.ref (L r))) = (fs.set j (some (some r))).map (fv2 L) := by rw [List.map_set]; rfl
  rw [e] at hP1 hD1
  exact k H1 locs1 ls (by rw [← wlq_set ha]; exact hP1) (by rw [← wlq_set ha]; exact hD1) hS1 hl
theorem c_put0 (C : Cc X p s m args meth c cc nL own) {a ci : Nat} {fs : List (Option (Option Nat))} (j : Nat) {cn : String} {T : u_T} {N ix : Nat} {ty : FieldType} (hc : vwCl[ci]? = some (cn, T, N)) (hin : ∀ w ∈ u_ws cn T N, w ∈ gtbl) (hj : j < N) (ty0 : Nat → FieldType) (hty : ∀ k, k < N → parseFieldDescriptor (T k).2.2.1 = some (ty0 k)) (hnm : ∀ a, a < N → ∀ b, b < N → a ≠ b → (T a).2.1 ≠ (T b).2.1) (hfin : (T j).2.2.2 = false) (hpd : parseFieldDescriptor (T j).2.2.1 = some ty) (hnr : narrow ty (.int 0) = .int 0) (hft : fits ty (.int 0) = true) (hs : shs[a]? = some (.inl (ci, fs))) (hf : fs[j]? = some none) (hd : decode cc pc = .ok (.putfield ix, 3)) (hw : Cond.fieldLink own ix (T j).1 (T j).2.1 (T j).2.2.1 ∈ gtbl)
    (k : Wc X p l e R s m args below meth c nL Q L shs cells slots (pc + 3) lv st) : Wc X p l e R s m args below meth c nL Q L shs cells slots pc lv (.int 0 :: .ref (L a) :: st) := by
  intro H locs ls hP hD hS hl
  obtain ⟨hx, hb, -, hown, hts, hF, hA, -⟩ := C
  have ha : a < shs.length := (List.getElem?_eq_some_iff.mp hs).1
  have hjl : j < fs.length := (List.getElem?_eq_some_iff.mp hf).1
  refine va_put hx hb hts hin ty0 hty hnm hown hF.1 hP hD hS a (wlq_at hs) hc j hj (hts _ hw) (fun _ h9 => h9) hfin hpd hnr hft (by simpa using hjl) hd (fun H1 locs1 hP1 hD1 hS1 => ?_)
  have e : ((fs.map (fv2 L)).set j (.int 0)) = (fs.set j none).map (fv2 L) := by rw [List.map_set]; rfl
  have e2 : fs.set j none = fs := by
    apply List.ext_getElem?
    intro i
    by_cases q : i = j
    · subst q; rw [hf]; simp [hjl]
    · rw [List.getElem?_set_ne (fun z => q z.symm)]
  have e3 : shs.set a (.inl (ci, fs)) = shs := by
    apply List.ext_getElem?
    intro i
    by_cases q : i = a
    · subst q; rw [hs]; simp [ha]
    · rw [List.getElem?_set_ne (fun z => q z.symm)]
  rw [e, e2] at hP1 hD1
  have e4 := wlq_set (X := X) (L := L) (sh := .inl (ci, fs)) ha
  rw [e3] at e4
  exact k H1 locs1 ls (by rw [← e4]; exact hP1) (by rw [← e4]; exact hD1) hS1 hl
theorem c_aload_n (C : Cc X p s m args meth c cc nL own) {i : Fin 4} {x : Nat} (hd : decode cc pc = .ok (.aload_n i, 1)) (q : Nat) (hq : lv[q]? = some (i.val, .ref x)) (k : Wc X p l e R s m args below meth c nL Q L shs cells slots (pc + 1) lv (.ref x :: st)) : Wc X p l e R s m args below meth c nL Q L shs cells slots pc lv st := fun H locs ls hP hD hS hl => lv_aload_n C.1 C.2.1 hd rfl (lv_at hl q hq) (k H locs ls hP hD hS hl)
theorem c_iload_n (C : Cc X p s m args meth c cc nL own) {i : Fin 4} {x : Int32} (hd : decode cc pc = .ok (.iload_n i, 1)) (q : Nat) (hq : lv[q]? = some (i.val, .int x)) (k : Wc X p l e R s m args below meth c nL Q L shs cells slots (pc + 1) lv (.int x :: st)) : Wc X p l e R s m args below meth c nL Q L shs cells slots pc lv st := fun H locs ls hP hD hS hl => lv_iload_n C.1 C.2.1 hd rfl (lv_at hl q hq) (k H locs ls hP hD hS hl)
theorem c_iconst (C : Cc X p s m args meth c cc nL own) {n : Int} (v : Int32) (hd : decode cc pc = .ok (.iconst n, 1)) (hv : Int32.ofInt n = v) (k : Wc X p l e R s m args below meth c nL Q L shs cells slots (pc + 1) lv (.int v :: st)) : Wc X p l e R s m args below meth c nL Q L shs cells slots pc lv st := fun H locs ls hP hD hS hl => lv_iconst C.1 C.2.1 hd hv (k H locs ls hP hD hS hl)
theorem c_bipush (C : Cc X p s m args meth c cc nL own) {n : Int} (v : Int32) (hd : decode cc pc = .ok (.bipush n, 2)) (hv : (Int8.ofInt n).toInt32 = v) (k : Wc X p l e R s m args below meth c nL Q L shs cells slots (pc + 2) lv (.int v :: st)) : Wc X p l e R s m args below meth c nL Q L shs cells slots pc lv st := fun H locs ls hP hD hS hl => lv_bipush C.1 C.2.1 hd hv (k H locs ls hP hD hS hl)
theorem c_sipush (C : Cc X p s m args meth c cc nL own) {n : Int} (v : Int32) (hd : decode cc pc = .ok (.sipush n, 3)) (hv : (Int16.ofInt n).toInt32 = v) (k : Wc X p l e R s m args below meth c nL Q L shs cells slots (pc + 3) lv (.int v :: st)) : Wc X p l e R s m args below meth c nL Q L shs cells slots pc lv st := fun H locs ls hP hD hS hl => lv_sipush C.1 C.2.1 hd hv (k H locs ls hP hD hS hl)
theorem c_imul (C : Cc X p s m args meth c cc nL own) {x y : Int32} (v : Int32) (hd : decode cc pc = .ok (.imul, 1)) (hv : x * y = v) (k : Wc X p l e R s m args below meth c nL Q L shs cells slots (pc + 1) lv (.int v :: st)) : Wc X p l e R s m args below meth c nL Q L shs cells slots pc lv (.int y :: .int x :: st) := fun H locs ls hP hD hS hl => lv_imul C.1 C.2.1 hd (by rw [hv]; exact k H locs ls hP hD hS hl)
theorem c_dup (C : Cc X p s m args meth c cc nL own) {v : Value} (hd : decode cc pc = .ok (.dup, 1)) (hc : v.category = 1) (k : Wc X p l e R s m args below meth c nL Q L shs cells slots (pc + 1) lv (v :: v :: st)) : Wc X p l e R s m args below meth c nL Q L shs cells slots pc lv (v :: st) := fun H locs ls hP hD hS hl => lv_dup C.1 C.2.1 hd hc (k H locs ls hP hD hS hl)
theorem c_obj (C : Cc X p s m args meth c cc nL own) {ix a : Nat} (hw : Cond.methodLink own ix Lib.objectInit ∈ gtbl) (h1 : Cond.instanceMethod Lib.objectInit ∈ gtbl) (h2 : Cond.code Lib.objectInit ⟨#[0xb1]⟩ 1 none ∈ gtbl) (hd : decode cc pc = .ok (.invokespecial ix, 3)) (hR : 1 ≤ R.frames ∧ (st.map fun v => v.category).sum + 12 ≤ R.locals) (k : Wc X p l e R s m args below meth c nL Q L shs cells slots (pc + 3) lv st) : Wc X p l e R s m args below meth c nL Q L shs cells slots pc lv (.ref a :: st) := fun H locs ls hP hD hS hl => W.objInit C.1 C.2.1 C.2.2.2.1 (C.2.2.2.2.1 _ hw) (C.2.2.2.2.1 _ h1) (C.2.2.2.2.1 _ h2) rfl (by rw [C.2.2.1]; exact hl.1) rfl hd hR.1 (by show 2 * 0 + _ + 12 ≤ _; omega) (k H locs ls hP hD hS hl)
end CT
