/-! ===== the flat memory: cell, place -> Int32; one world for the class and the reference ===== -/
abbrev Mem : Type := Nat → Nat → Int32
def up2 (g : Mem) (k i : Nat) (x : Int32) : Mem := fun a => if a = k then upd (g k) i x else g a
abbrev shp : Type := (Nat × List (Option Nat)) ⊕ (Bool × Nat)
def shapes : List shp := [.inl (8, [some 1, some 9, some 13, some 16, some 20, some 25, some 27, some 30, some 32, none, none]), .inl (5, [some 2, some 3, some 4, some 5, some 6, some 7, some 8, none, none]), .inr (false, 12), .inr (false, 12), .inr (true, 12), .inr (false, 12), .inr (false, 16), .inr (false, 16), .inr (true, 1280), .inl (1, [some 10, some 11, some 12, none]), .inr (false, 32), .inr (false, 64), .inr (false, 8), .inl (7, [some 9, some 14]), .inl (2, [some 15]), .inr (false, 1016), .inl (4, [some 9, some 13, some 17, some 18, none]), .inr (false, 720), .inl (2, [some 19]), .inr (false, 488), .inl (6, [some 13, some 21, some 23, some 24, none, none]), .inl (2, [some 22]), .inr (false, 64), .inr (false, 8), .inr (false, 8), .inl (2, [some 26]), .inr (false, 32), .inl (3, [some 9, some 20, some 25, some 28, none, none]), .inl (2, [some 29]), .inr (false, 16), .inl (0, [some 31, none, none]), .inr (false, 1020), .inl (2, [some 33]), .inr (false, 8), .inl (9, [some 35, some 36, some 37, some 38, none, some 39, none, some 40, some 41, some 42, some 43, some 44, some 45, some 46, none, none, none, none, some 47, some 48, none, none, some 49, some 50, some 51, some 52, none, some 53, some 54, some 55, some 56, some 57, some 58, some 59]), .inr (false, 64), .inr (false, 64), .inr (false, 8), .inr (false, 128), .inr (false, 32), .inr (false, 12), .inr (false, 12), .inr (true, 12), .inr (false, 12), .inr (false, 16), .inr (false, 16), .inr (true, 1024), .inr (false, 720), .inr (false, 1952), .inr (false, 1020), .inr (false, 256), .inr (false, 8), .inr (false, 32), .inr (false, 256), .inr (false, 8), .inr (false, 8), .inr (false, 128), .inr (false, 32), .inr (false, 32), .inr (false, 288)]
def fv (L : Nat → Nat) (f : Nat → Int32) (q : Option Nat × Nat) : Value := match q.1 with
  | some r => .ref (L r)
  | none => .int (f q.2)
def cv (cI cZ : ClassId) (L : Nat → Nat) (sh : shp) (f : Nat → Int32) : va_E := match sh with
  | .inl q => .inr (q.1, q.2.zipIdx.map (fv L f))
  | .inr q => .inl (if q.1 then cZ else cI, q.2, .inl f)
/-- the place: (numbers of the classes and slots, class of int[], class of boolean[], the cells' addresses, the first new address, the two tables) -/
abbrev XT : Type := va_G × ClassId × ClassId × (Nat → Nat) × Nat × Nat × Nat
def wld (X : XT) (g : Mem) : va_W := shapes.zipIdx.map (fun q => (X.2.2.2.1 q.2, cv X.2.1 X.2.2.1 X.2.2.2.1 q.1 (g q.2)))
abbrev aL (X : XT) : Nat → Nat := X.2.2.2.1
abbrev Ab (X : XT) : Nat → Prop := fun q => X.2.2.2.2.1 ≤ q
theorem wld_at {X : XT} {g : Mem} {k : Nat} {sh : shp} (h : shapes[k]? = some sh) : (wld X g)[k]? = some (aL X k, cv X.2.1 X.2.2.1 (aL X) sh (g k)) := by
  simp [wld, List.getElem?_map, List.getElem?_zipIdx, h]
theorem up2_eq {g : Mem} {k i : Nat} {x : Int32} : up2 g k i x k = upd (g k) i x := by simp [up2]
theorem up2_ne {g : Mem} {k i a : Nat} {x : Int32} (h : a ≠ k) : up2 g k i x a = g a := by simp [up2, h]
theorem up2_self {g : Mem} {k i : Nat} {x : Int32} : up2 g k i x k i = x := by simp [up2, upd]
theorem up2_nei {g : Mem} {k i a j : Nat} {x : Int32} (h : a ≠ k ∨ j ≠ i) : up2 g k i x a j = g a j := by
  rcases h with h | h
  · simp [up2, h]
  · by_cases e : a = k
    · subst e; simp [up2, upd, h]
    · simp [up2, e]
theorem wld_set {X : XT} {g g' : Mem} {k : Nat} {sh : shp} {v : va_E} (h : shapes[k]? = some sh) (hv : v = cv X.2.1 X.2.2.1 (aL X) sh (g' k)) (ho : ∀ a, a ≠ k → g' a = g a) : (wld X g).set k (aL X k, v) = wld X g' := by
  apply List.ext_getElem?
  intro j
  by_cases e : j = k
  · subst e
    rw [wld_at h, hv]
    have hl : j < (wld X g).length := by
      have := wld_at (X := X) (g := g) h
      exact (List.getElem?_eq_some_iff.mp this).1
    simp [hl]
  · rw [List.getElem?_set_ne (fun q => e q.symm)]
    cases hs : shapes[j]? with
    | none => simp [wld, List.getElem?_map, List.getElem?_zipIdx, hs]
    | some sh' => rw [wld_at hs, wld_at hs, ho j e]
theorem wld_setA {X : XT} {g : Mem} {k n i : Nat} {z : Bool} {x : Int32} (h : shapes[k]? = some (.inr (z, n))) : (wld X g).set k (aL X k, .inl (if z then X.2.2.1 else X.2.1, n, .inl (upd (g k) i x))) = wld X (up2 g k i x) :=
  wld_set h (by simp [cv, up2_eq]) (fun a ha => up2_ne ha)
theorem fv_set {L : Nat → Nat} {f : Nat → Int32} {fs : List (Option Nat)} {j : Nat} {x : Int32} (h : fs[j]? = some none) : (fs.zipIdx.map (fv L f)).set j (.int x) = fs.zipIdx.map (fv L (upd f j x)) := by
  apply List.ext_getElem?
  intro i
  have hl : j < fs.length := (List.getElem?_eq_some_iff.mp h).1
  by_cases e : i = j
  · subst e
    have e2 : fs[i] = none := (List.getElem?_eq_some_iff.mp h).2
    simp [List.getElem?_map, List.getElem?_zipIdx, hl, fv, upd, e2]
  · rw [List.getElem?_set_ne (fun q => e q.symm)]
    simp only [List.getElem?_map, List.getElem?_zipIdx]
    cases hs : fs[i]? with
    | none => simp
    | some o => cases o <;> simp [fv, upd, e]
theorem wld_setF {X : XT} {g : Mem} {k ci j : Nat} {fs : List (Option Nat)} {x : Int32} (h : shapes[k]? = some (.inl (ci, fs))) (hj : fs[j]? = some none) : (wld X g).set k (aL X k, .inr (ci, (fs.zipIdx.map (fv (aL X) (g k))).set j (.int x))) = wld X (up2 g k j x) :=
  wld_set h (by simp [cv, up2_eq, fv_set hj]) (fun a ha => up2_ne ha)
/-- the cells are apart, and new -/
def Lok (X : XT) : Prop := (∀ i j, i < shapes.length → j < shapes.length → aL X i = aL X j → i = j) ∧ ∀ i, i < shapes.length → Ab X (aL X i)
theorem wld_D {X : XT} (h : Lok X) (g : Mem) : va_D (Ab X) (wld X g) := by
  have key : ∀ (i : Nat) (q : Nat × va_E), (wld X g)[i]? = some q → i < shapes.length ∧ q.1 = aL X i := by
    intro i q hq
    cases hs : shapes[i]? with
    | none => simp [wld, List.getElem?_map, List.getElem?_zipIdx, hs] at hq
    | some sh =>
      rw [wld_at hs] at hq
      cases hq
      exact ⟨(List.getElem?_eq_some_iff.mp hs).1, rfl⟩
  refine ⟨fun i j a b ha hb hab => ?_, fun k q hk => ?_⟩
  · obtain ⟨h1, h2⟩ := key i a ha
    obtain ⟨h3, h4⟩ := key j b hb
    exact h.1 i j h1 h3 (by rw [← h2, ← h4]; exact hab)
  · obtain ⟨h1, h2⟩ := key k q hk
    rw [h2]
    exact h.2 k h1
def nestF : List (String × Nat × String × String × String × String) := [("AuditVault", 179, "AuditVault$Proof", "row", "LAuditVault$Hashes;", "AuditVault"), ("AuditVault", 188, "AuditVault$Proof", "size", "I", "AuditVault"), ("AuditVault", 202, "AuditVault$Disk", "written", "I", "AuditVault"), ("AuditVault", 205, "AuditVault$Disk", "safe", "I", "AuditVault"), ("AuditVault", 211, "AuditVault$Log", "size", "I", "AuditVault"), ("AuditVault", 221, "AuditVault$Disk", "bytes", "[I", "AuditVault"), ("AuditVault", 239, "AuditVault$Monitor", "allowed", "I", "AuditVault"), ("AuditVault", 242, "AuditVault$Monitor", "denied", "I", "AuditVault"), ("AuditVault$Hasher", 45, "AuditVault", "HASH_START", "[I", "AuditVault"), ("AuditVault$Hasher", 54, "AuditVault$Hashes", "words", "[I", "AuditVault"), ("AuditVault$Hasher", 57, "AuditVault", "HASH_ROUND", "[I", "AuditVault"), ("AuditVault$Judge", 42, "AuditVault$Proof", "size", "I", "AuditVault"), ("AuditVault$Judge", 68, "AuditVault$Proof", "row", "LAuditVault$Hashes;", "AuditVault")]
def nestM : List (String × Nat × MethodName × String) := [("AuditVault", 11, ⟨"AuditVault$Monitor", "<init>", "()V"⟩, "AuditVault"), ("AuditVault", 18, ⟨"AuditVault$Hasher", "<init>", "()V"⟩, "AuditVault"), ("AuditVault", 25, ⟨"AuditVault$Tree", "<init>", "(LAuditVault$Hasher;)V"⟩, "AuditVault"), ("AuditVault", 34, ⟨"AuditVault$Log", "<init>", "(LAuditVault$Hasher;LAuditVault$Tree;)V"⟩, "AuditVault"), ("AuditVault", 43, ⟨"AuditVault$Proof", "<init>", "(LAuditVault$Tree;)V"⟩, "AuditVault"), ("AuditVault", 52, ⟨"AuditVault$Hashes", "<init>", "(I)V"⟩, "AuditVault"), ("AuditVault", 61, ⟨"AuditVault$Judge", "<init>", "(LAuditVault$Hasher;LAuditVault$Proof;LAuditVault$Hashes;)V"⟩, "AuditVault"), ("AuditVault", 70, ⟨"AuditVault$Disk", "<init>", "()V"⟩, "AuditVault"), ("AuditVault", 106, ⟨"AuditVault$Monitor", "causeOf", "(III)I"⟩, "AuditVault"), ("AuditVault", 110, ⟨"AuditVault$Monitor", "tally", "(IZ)V"⟩, "AuditVault"), ("AuditVault", 125, ⟨"AuditVault$Monitor", "placeSubject", "(III)V"⟩, "AuditVault"), ("AuditVault", 129, ⟨"AuditVault$Monitor", "placeObject", "(III)V"⟩, "AuditVault"), ("AuditVault", 132, ⟨"AuditVault$Monitor", "release", "(I)Z"⟩, "AuditVault"), ("AuditVault", 135, ⟨"AuditVault$Monitor", "ofSubject", "(II)I"⟩, "AuditVault"), ("AuditVault", 139, ⟨"AuditVault$Monitor", "ofObject", "(II)I"⟩, "AuditVault"), ("AuditVault", 145, ⟨"AuditVault$Monitor", "hasBeenGiven", "(III)Z"⟩, "AuditVault"), ("AuditVault", 151, ⟨"AuditVault$Log", "entryByte", "(II)I"⟩, "AuditVault"), ("AuditVault", 160, ⟨"AuditVault$Log", "linkByte", "(II)I"⟩, "AuditVault"), ("AuditVault", 163, ⟨"AuditVault$Tree", "rootOf", "(IILAuditVault$Hashes;I)V"⟩, "AuditVault"), ("AuditVault", 167, ⟨"AuditVault$Hashes", "byteAt", "(II)I"⟩, "AuditVault"), ("AuditVault", 170, ⟨"AuditVault$Proof", "becomePath", "(II)I"⟩, "AuditVault"), ("AuditVault", 173, ⟨"AuditVault$Proof", "becomeSteps", "(II)I"⟩, "AuditVault"), ("AuditVault", 185, ⟨"AuditVault$Hashes", "spoilByte", "(III)I"⟩, "AuditVault"), ("AuditVault", 194, ⟨"AuditVault$Judge", "pathIsRight", "(IILAuditVault$Hashes;I)Z"⟩, "AuditVault"), ("AuditVault", 198, ⟨"AuditVault$Judge", "stepsAreRight", "(IIII)Z"⟩, "AuditVault"), ("AuditVault", 208, ⟨"AuditVault$Disk", "losePower", "(I)V"⟩, "AuditVault"), ("AuditVault", 215, ⟨"AuditVault$Log", "accept", "()V"⟩, "AuditVault"), ("AuditVault", 218, ⟨"AuditVault$Disk", "settle", "(I)V"⟩, "AuditVault"), ("AuditVault", 225, ⟨"AuditVault$Disk", "holdsFrame", "(LAuditVault$Log;I)Z"⟩, "AuditVault"), ("AuditVault", 229, ⟨"AuditVault$Hasher", "begin", "()V"⟩, "AuditVault"), ("AuditVault", 232, ⟨"AuditVault$Hasher", "add", "(I)V"⟩, "AuditVault"), ("AuditVault", 235, ⟨"AuditVault$Hasher", "finish", "(LAuditVault$Hashes;I)V"⟩, "AuditVault"), ("AuditVault", 259, ⟨"AuditVault$Monitor", "setRight", "(IIIZ)V"⟩, "AuditVault"), ("AuditVault", 263, ⟨"AuditVault$Log", "draftHead", "(IIIII)V"⟩, "AuditVault"), ("AuditVault", 266, ⟨"AuditVault$Log", "draftTime", "(I)V"⟩, "AuditVault"), ("AuditVault", 269, ⟨"AuditVault$Log", "linkDraft", "()V"⟩, "AuditVault"), ("AuditVault", 272, ⟨"AuditVault$Disk", "writeFrame", "(LAuditVault$Log;I)V"⟩, "AuditVault"), ("AuditVault", 276, ⟨"AuditVault$Log", "draftByte", "(II)V"⟩, "AuditVault"), ("AuditVault$Disk", 22, ⟨"AuditVault$Log", "frameByte", "(II)I"⟩, "AuditVault"), ("AuditVault$Hasher", 25, ⟨"AuditVault$Hashes", "byteAt", "(II)I"⟩, "AuditVault"), ("AuditVault$Judge", 11, ⟨"AuditVault$Hashes", "<init>", "(I)V"⟩, "AuditVault"), ("AuditVault$Judge", 38, ⟨"AuditVault$Hashes", "copyFrom", "(ILAuditVault$Hashes;I)V"⟩, "AuditVault"), ("AuditVault$Judge", 64, ⟨"AuditVault$Hashes", "isSame", "(ILAuditVault$Hashes;I)Z"⟩, "AuditVault"), ("AuditVault$Judge", 74, ⟨"AuditVault$Hasher", "pairInto", "(LAuditVault$Hashes;ILAuditVault$Hashes;ILAuditVault$Hashes;I)V"⟩, "AuditVault"), ("AuditVault$Log", 17, ⟨"AuditVault$Hashes", "<init>", "(I)V"⟩, "AuditVault"), ("AuditVault$Log", 36, ⟨"AuditVault$Hashes", "byteAt", "(II)I"⟩, "AuditVault"), ("AuditVault$Log", 50, ⟨"AuditVault$Hasher", "begin", "()V"⟩, "AuditVault"), ("AuditVault$Log", 55, ⟨"AuditVault$Hasher", "addHash", "(LAuditVault$Hashes;I)V"⟩, "AuditVault"), ("AuditVault$Log", 59, ⟨"AuditVault$Hasher", "add", "(I)V"⟩, "AuditVault"), ("AuditVault$Log", 62, ⟨"AuditVault$Hasher", "finish", "(LAuditVault$Hashes;I)V"⟩, "AuditVault"), ("AuditVault$Log", 65, ⟨"AuditVault$Tree", "addLeaf", "([II)V"⟩, "AuditVault"), ("AuditVault$Proof", 11, ⟨"AuditVault$Hashes", "<init>", "(I)V"⟩, "AuditVault"), ("AuditVault$Proof", 50, ⟨"AuditVault$Tree", "rootOf", "(IILAuditVault$Hashes;I)V"⟩, "AuditVault"), ("AuditVault$Tree", 11, ⟨"AuditVault$Hashes", "<init>", "(I)V"⟩, "AuditVault"), ("AuditVault$Tree", 24, ⟨"AuditVault$Hasher", "begin", "()V"⟩, "AuditVault"), ("AuditVault$Tree", 29, ⟨"AuditVault$Hasher", "add", "(I)V"⟩, "AuditVault"), ("AuditVault$Tree", 36, ⟨"AuditVault$Hasher", "finish", "(LAuditVault$Hashes;I)V"⟩, "AuditVault"), ("AuditVault$Tree", 40, ⟨"AuditVault$Hasher", "pairInto", "(LAuditVault$Hashes;ILAuditVault$Hashes;ILAuditVault$Hashes;I)V"⟩, "AuditVault"), ("AuditVault$Tree", 44, ⟨"AuditVault$Hashes", "copyFrom", "(ILAuditVault$Hashes;I)V"⟩, "AuditVault")]
def vS (j : Nat) : Int32 := ([1779033703, -1150833019, 1013904242, -1521486534, 1359893119, -1694144372, 528734635, 1541459225] : List Int32).getD j 0
def vR (j : Nat) : Int32 := ([1116352408, 1899447441, -1245643825, -373957723, 961987163, 1508970993, -1841331548, -1424204075, -670586216, 310598401, 607225278, 1426881987, 1925078388, -2132889090, -1680079193, -1046744716, -459576895, -272742522, 264347078, 604807628, 770255983, 1249150122, 1555081692, 1996064986, -1740746414, -1473132947, -1341970488, -1084653625, -958395405, -710438585, 113926993, 338241895, 666307205, 773529912, 1294757372, 1396182291, 1695183700, 1986661051, -2117940946, -1838011259, -1564481375, -1474664885, -1035236496, -949202525, -778901479, -694614492, -200395387, 275423344, 430227734, 506948616, 659060556, 883997877, 958139571, 1322822218, 1537002063, 1747873779, 1955562222, 2024104815, -2067236844, -1933114872, -1866530822, -1538233109, -1090935817, -965641998] : List Int32).getD j 0
/-! ===== what holds of the machine's tables and of the two static tables, at any state of a run ===== -/
def gtbl : List Cond := lw_tbl.filter goodWord
theorem gtbl_of {w : Cond} (h : w ∈ lw_tbl) (hg : goodWord w = true) : w ∈ gtbl := List.mem_filter.mpr ⟨h, hg⟩
theorem gtbl_good {c c' : Cond} (hc : c ∈ gtbl) : GoodIn (c' :: gtbl) (c :: gtbl) := by
  intro q hq
  have h : q ∈ gtbl := by
    rcases List.mem_cons.mp hq with e | e
    · rw [e]; exact hc
    · exact e
  exact ⟨List.mem_cons_of_mem _ h, good_of_word (List.mem_filter.mp h).2⟩
theorem gtbl_good' {c : Cond} (hc : c ∈ gtbl) : GoodIn gtbl (c :: gtbl) := by
  intro q hq
  have h : q ∈ gtbl := by
    rcases List.mem_cons.mp hq with e | e
    · rw [e]; exact hc
    · exact e
  exact ⟨h, good_of_word (List.mem_filter.mp h).2⟩
def Nok (U : State) : Prop := (∀ q ∈ nestF, va_Nw (.fieldLinkNest q.1 q.2.1 q.2.2.1 q.2.2.2.1 q.2.2.2.2.1 q.2.2.2.2.2) U) ∧ ∀ q ∈ nestM, va_Nw (.methodLinkNest q.1 q.2.1 q.2.2.1 q.2.2.2) U
theorem Nok.warm {s U : State} (hW : s.WarmedH U.vm) (h : Nok s) : Nok U := ⟨fun q hq => (h.1 q hq).warmF hW, fun q hq => (h.2 q hq).warmM hW⟩
def tS (X : XT) : Nat := X.2.2.2.2.2.1
def tR (X : XT) : Nat := X.2.2.2.2.2.2
def Fx (X : XT) (U : State) : Prop := va_K X.1 vwCl [(X.2.1, .int), (X.2.2.1, .boolean)] U ∧ Nok U ∧ (va_Z "AuditVault" "HASH_START" "[I" (.ref (tS X)) (Ab X) U U.heap ∧ va_T .int (tS X) 8 (fun j => .int (vS j)) (Ab X) U U.heap) ∧ va_Z "AuditVault" "HASH_ROUND" "[I" (.ref (tR X)) (Ab X) U U.heap ∧ va_T .int (tR X) 64 (fun j => .int (vR j)) (Ab X) U U.heap
theorem Fx.to {X : XT} {s U : State} {H : Heap} {locs : List Loc} (h : Fx X s) (hW : s.WarmedH U.vm) (hS : va_S (Ab X) s.heap H locs) (hU : U.heap = H) : Fx X U := by
  obtain ⟨h1, h2, ⟨h3, h4⟩, h5, h6⟩ := h
  have hq : ∀ a : Nat, a < s.heap.size → ¬ Ab X a → U.heap[a]? = s.heap[a]? := fun a h1 h2 => by rw [hU]; exact hS.2.1 a h1 h2
  exact ⟨va_K.moved hW.alike h1, h2.warm hW, ⟨(h3.kept hq).moved hW.alike, (h4.kept hq).moved hW.alike⟩, (h5.kept hq).moved hW.alike, (h6.kept hq).moved hW.alike⟩
theorem Fx.call {X : XT} {U : State} {g : JFrame} {mk : MethodId} {a : Array Value} (h : Fx X U) : Fx X (U.calling g mk a) := by
  obtain ⟨h1, h2, ⟨h3, h4⟩, h5, h6⟩ := h
  have e : U.vm.Alike (U.calling g mk a).vm := Vm.Alike.refl U.vm
  exact ⟨va_K.moved e h1, ⟨fun q hq => va_Nw.same rfl rfl (h2.1 q hq), fun q hq => va_Nw.same rfl rfl (h2.2 q hq)⟩, ⟨h3.moved e, h4.moved e⟩, h5.moved e, h6.moved e⟩
/-! ===== contracts over the flat memory ===== -/
def cP (X : XT) (av : List Value) (g : Mem) : Array Value → State → Prop := va_Pc av (fun U => va_P X.1 vwCl (wld X g) U.heap ∧ Fx X U)
def cQ (X : XT) (P : Option Value → Mem → Prop) : Array Value → State → Outcome → State → Prop := fun _ st oc t => (∃ r g', oc = .returned r ∧ P r g' ∧ va_P X.1 vwCl (wld X g') t.heap) ∧ va_F (Ab X) st t
def Ctr (l : Launch) (X : XT) (y : MethodName) (cc : ByteArray) (nL : Nat) (ret : Option FieldType) (rm : Room) (av : List Value) (g : Mem) (P : Option Value → Mem → Prop) : Prop := Met l y (.code y cc nL ret :: gtbl) rm (cP X av g) (cQ X P) 0 0 (Ab X)
def pI (P : Int32 → Mem → Prop) : Option Value → Mem → Prop := fun r g => ∃ v, r = some (.int v) ∧ P v g
def pJ (P : Int64 → Mem → Prop) : Option Value → Mem → Prop := fun r g => ∃ v, r = some (.long v) ∧ P v g
def pV (P : Mem → Prop) : Option Value → Mem → Prop := fun r g => r = none ∧ P g
def Cx (X : XT) (p : Program) (s : State) (m : MethodId) (args : Array Value) (meth : Method) (c : Code) (cc : ByteArray) (nL : Nat) (ret : Option FieldType) (own : String) : Prop :=
  p.tables.exec = Jvm.exec ∧ c.code = cc ∧ c.maxLocals = nL ∧ s.vm.findClass own = some m.cls ∧ (∀ w ∈ gtbl, w.before args s = true) ∧ Fx X s ∧ Lok X ∧ meth.sig.returnType = ret ∧ meth.locks = false
def Wm (X : XT) (p : Program) (l : Launch) (e : Env) (R : Room) (s : State) (m : MethodId) (args : Array Value) (below : List Frame) (meth : Method) (c : Code) (nL cells slots : Nat) (Q : State → Prop) (g : Mem) (pc : Nat) (lv : List (Nat × Value)) (st : List Value) : Prop :=
  ∀ (H : Heap) (locs : List Loc) (ls : Array Slot), va_P X.1 vwCl (wld X g) H → va_S (Ab X) s.heap H locs → lv_has ls nL lv → W p l e R s m args below meth c H locs cells slots Q (F0 m pc ls st)
theorem cP_blind {X : XT} {av : List Value} {g : Mem} : FrameBlind (cP X av g) := fun a U f mk ⟨h1, h2, h3⟩ => ⟨h1, h2, h3.call⟩
/-- a contract out of a walk from its entry -/
theorem Ctr.of {l : Launch} {X : XT} {y : MethodName} {cc : ByteArray} {nL : Nat} {ret : Option FieldType} {rm : Room} {av : List Value} {g : Mem} {P : Option Value → Mem → Prop} {lv : List (Nat × Value)} (hX : Lok X) (hy : plainName y.cls = true) (hlv : lv_args 0 av = lv) (hn : (lg_sl av).length ≤ nL)
    (body : ∀ p e s m below meth c, Cx X p s m av.toArray meth c cc nL ret y.cls → Wm X p l e rm s m av.toArray below meth c nL 0 0 (MQ below (cQ X P) av.toArray s 0 0 (Ab X)) g 0 lv []) : Ctr l X y cc nL ret rm av g P := by
  refine Met.ofW (cc := cc) (maxL := nL) (ret := ret) hy rfl ?_
  intro p e s m args below meth c s₁ B hml hv
  obtain ⟨rfl, hP, hF⟩ := hv
  have hts := atoms_spec (ws := .code y cc nL ret :: gtbl) B.pre
  have hown : s.vm.findClass y.cls = some m.cls := findClass_of_methodNamed B.named
  rw [lg_entry_eq]
  exact body p e s m below meth c ⟨B.exec, B.bytes, hml, hown, fun w hw => hts w (List.mem_cons_of_mem _ hw), hF, hX, B.returns, B.notSynchronized⟩ s.heap [] _ hP va_S.rf (hlv ▸ lv_entry av hn)
