/-! ===== constructors: the world grows; cell k stands at L k; fields that hold nothing yet ===== -/
abbrev shp2 : Type := (Nat × List (Option (Option Nat))) ⊕ (Bool × Nat)
def fv2 (L : Nat → Nat) (q : Option (Option Nat)) : Value := match q with
  | none => .int 0
  | some none => .null
  | some (some r) => .ref (L r)
def cv2 (X : XT) (L : Nat → Nat) (sh : shp2) : va_E := match sh with
  | .inl q => .inr (q.1, q.2.map (fv2 L))
  | .inr q => .inl (if q.1 then X.2.2.1 else X.2.1, q.2, .inl (fun _ => 0))
def wlq (X : XT) (L : Nat → Nat) (shs : List shp2) : va_W := shs.zipIdx.map (fun q => (L q.2, cv2 X L q.1))
/-- refs point below n -/
def okr (n : Nat) (sh : shp2) : Bool := match sh with
  | .inl q => q.2.all (fun o => match o with | some (some r) => decide (r < n) | _ => true)
  | .inr _ => true
theorem wlq_at {X : XT} {L : Nat → Nat} {shs : List shp2} {k : Nat} {sh : shp2} (h : shs[k]? = some sh) : (wlq X L shs)[k]? = some (L k, cv2 X L sh) := by
  simp [wlq, List.getElem?_map, List.getElem?_zipIdx, h]
theorem wlq_none {X : XT} {L : Nat → Nat} {shs : List shp2} {k : Nat} (h : shs[k]? = none) : (wlq X L shs)[k]? = none := by
  simp [wlq, List.getElem?_map, List.getElem?_zipIdx, h]
theorem cv2_eq {X : XT} {L L' : Nat → Nat} {n : Nat} {sh : shp2} (h : okr n sh = true) (hL : ∀ r, r < n → L' r = L r) : cv2 X L' sh = cv2 X L sh := by
  cases sh with
  | inl q =>
    simp only [cv2]
    congr 2
    apply List.map_congr_left
    intro o ho
    simp only [okr, List.all_eq_true] at h
    have := h o ho
    rcases o with _ | _ | r
    · rfl
    · rfl
    · simp only [decide_eq_true_eq] at this
      simp [fv2, hL r this]
  | inr q => rfl
theorem wlq_app {X : XT} {L L' : Nat → Nat} {shs : List shp2} {sh : shp2} {q : Nat} (hr : shs.all (okr shs.length) = true) (hs : okr shs.length sh = true) (hL : ∀ r, r < shs.length → L' r = L r) (hq : L' shs.length = q) : wlq X L shs ++ [(q, cv2 X L sh)] = wlq X L' (shs ++ [sh]) := by
  apply List.ext_getElem?
  intro j
  have hlen : (wlq X L shs).length = shs.length := by simp [wlq]
  by_cases h1 : j < shs.length
  · have e1 : shs[j]? = some shs[j] := List.getElem?_eq_getElem h1
    rw [List.getElem?_append_left (by omega), wlq_at e1, wlq_at (sh := shs[j]) (by rw [List.getElem?_append_left h1]; exact e1), hL j h1, cv2_eq (List.all_eq_true.mp hr _ (List.getElem_mem h1)) hL]
  · by_cases h2 : j = shs.length
    · subst h2
      rw [List.getElem?_append_right (by omega), wlq_at (sh := sh) (by simp), hq, cv2_eq hs hL, hlen]
      simp
    · rw [wlq_none (by simp; omega)]
      simp [hlen]; omega
theorem wlq_set {X : XT} {L : Nat → Nat} {shs : List shp2} {k : Nat} {sh : shp2} (h : k < shs.length) : (wlq X L shs).set k (L k, cv2 X L sh) = wlq X L (shs.set k sh) := by
  apply List.ext_getElem?
  intro j
  by_cases e : j = k
  · subst e
    have h2 : (shs.set j sh)[j]? = some sh := by simp [h]
    rw [wlq_at h2]
    simp [wlq, h]
  · rw [List.getElem?_set_ne (fun q => e q.symm)]
    have h2 : (shs.set k sh)[j]? = shs[j]? := List.getElem?_set_ne (fun q => e q.symm)
    cases hs : shs[j]? with
    | none => rw [wlq_none hs, wlq_none (by rw [h2]; exact hs)]
    | some a => rw [wlq_at hs, wlq_at (by rw [h2]; exact hs)]
def Wc (X : XT) (p : Program) (l : Launch) (e : Env) (R : Room) (s : State) (m : MethodId) (args : Array Value) (below : List Frame) (meth : Method) (c : Code) (nL : Nat) (Q : State → Prop) (L : Nat → Nat) (shs : List shp2) (cells slots pc : Nat) (lv : List (Nat × Value)) (st : List Value) : Prop :=
  ∀ (H : Heap) (locs : List Loc) (ls : Array Slot), va_P X.1 vwCl (wlq X L shs) H → va_D (Ab X) (wlq X L shs) → va_S (Ab X) s.heap H locs → lv_has ls nL lv → W p l e R s m args below meth c H locs cells slots Q (F0 m pc ls st)
def Cc (X : XT) (p : Program) (s : State) (m : MethodId) (args : Array Value) (meth : Method) (c : Code) (cc : ByteArray) (nL : Nat) (own : String) : Prop :=
  p.tables.exec = Jvm.exec ∧ c.code = cc ∧ c.maxLocals = nL ∧ s.vm.findClass own = some m.cls ∧ (∀ w ∈ gtbl, w.before args s = true) ∧ Fx X s ∧ (∀ q, s.heap.size ≤ q → Ab X q) ∧ meth.sig.returnType = none ∧ meth.locks = false ∧ meth.name = "<init>"
section CS
variable {X : XT} {p : Program} {l : Launch} {e : Env} {R : Room} {s : State} {m : MethodId} {args : Array Value} {below : List Frame} {meth : Method} {c : Code} {nL cells slots : Nat} {Q : State → Prop} {L : Nat → Nat} {shs : List shp2} {pc : Nat} {lv : List (Nat × Value)} {st : List Value} {cc : ByteArray} {own : String}
theorem c_new (C : Cc X p s m args meth c cc nL own) {ix ci N : Nat} {cn : String} {T : u_T} (fs : List (Option (Option Nat))) (ty : Nat → FieldType) (hty : ∀ k, k < N → parseFieldDescriptor (T k).2.2.1 = some (ty k)) (hc : vwCl[ci]? = some (cn, T, N)) (hin : ∀ w ∈ u_ws cn T N, w ∈ gtbl) (hcl : Cond.classLink own ix cn ∈ gtbl) (hinst : Cond.instantiable cn N ∈ gtbl) (hini : Cond.initialized cn ∈ gtbl) (hr : shs.all (okr shs.length) = true) (hs : okr shs.length (.inl (ci, fs)) = true)
    (hfs : ∀ j, j < N → defaultValue (ty j) = vp_V (fs.map (fv2 L)) j) (hcells : cells + 1 ≤ R.cells) (hslots : slots + N ≤ R.slots) (hd : decode cc pc = .ok (.new ix, 3))
    (k : ∀ L' : Nat → Nat, (∀ r, r < shs.length → L' r = L r) → Wc X p l e R s m args below meth c nL Q L' (shs ++ [.inl (ci, fs)]) (cells + 1) (slots + N) (pc + 3) lv (.ref (L' shs.length) :: st)) : Wc X p l e R s m args below meth c nL Q L shs cells slots pc lv st := by
  intro H locs ls hP hD hS hl
  obtain ⟨hx, hb, -, hown, hts, hF, hA, -⟩ := C
  refine va_new (ci := ci) (fs := fs.map (fv2 L)) hx hb hts hin ty hty hown (hts _ hcl) (hts _ hinst) (hts _ hini) hF.1 hP hD hS hA hc hfs hcells hslots hd (fun q H1 hP1 hD1 hS1 => ?_)
  have hL : ∀ r, r < shs.length → (fun k => if k = shs.length then q else L k) r = L r := fun r h => if_neg (by omega)
  have e := wlq_app (X := X) (q := q) (L' := fun k => if k = shs.length then q else L k) hr hs hL (if_pos rfl)
  have hP2 : va_P X.1 vwCl (wlq X (fun k => if k = shs.length then q else L k) (shs ++ [.inl (ci, fs)])) H1 := e ▸ hP1
  have hD2 : va_D (Ab X) (wlq X (fun k => if k = shs.length then q else L k) (shs ++ [.inl (ci, fs)])) := e ▸ hD1
  have := k _ hL H1 locs ls hP2 hD2 hS1 hl
  rw [if_pos rfl] at this
  exact this
end CS
