theorem en_F0 : Cond.fieldLinkNest "AuditVault" 179 "AuditVault$Proof" "row" "LAuditVault$Hashes;" "AuditVault" ∈ lw_tbl := List.mem_of_getElem? (i := 211) (by decide +kernel)
theorem en_F1 : Cond.fieldLinkNest "AuditVault" 188 "AuditVault$Proof" "size" "I" "AuditVault" ∈ lw_tbl := List.mem_of_getElem? (i := 217) (by decide +kernel)
theorem en_F2 : Cond.fieldLinkNest "AuditVault" 202 "AuditVault$Disk" "written" "I" "AuditVault" ∈ lw_tbl := List.mem_of_getElem? (i := 269) (by decide +kernel)
theorem en_F3 : Cond.fieldLinkNest "AuditVault" 205 "AuditVault$Disk" "safe" "I" "AuditVault" ∈ lw_tbl := List.mem_of_getElem? (i := 271) (by decide +kernel)
theorem en_F4 : Cond.fieldLinkNest "AuditVault" 211 "AuditVault$Log" "size" "I" "AuditVault" ∈ lw_tbl := List.mem_of_getElem? (i := 188) (by decide +kernel)
theorem en_F5 : Cond.fieldLinkNest "AuditVault" 221 "AuditVault$Disk" "bytes" "[I" "AuditVault" ∈ lw_tbl := List.mem_of_getElem? (i := 267) (by decide +kernel)
theorem en_F6 : Cond.fieldLinkNest "AuditVault" 239 "AuditVault$Monitor" "allowed" "I" "AuditVault" ∈ lw_tbl := List.mem_of_getElem? (i := 108) (by decide +kernel)
theorem en_F7 : Cond.fieldLinkNest "AuditVault" 242 "AuditVault$Monitor" "denied" "I" "AuditVault" ∈ lw_tbl := List.mem_of_getElem? (i := 110) (by decide +kernel)
theorem en_F8 : Cond.fieldLinkNest "AuditVault$Hasher" 45 "AuditVault" "HASH_START" "[I" "AuditVault" ∈ lw_tbl := List.mem_of_getElem? (i := 403) (by decide +kernel)
theorem en_F9 : Cond.fieldLinkNest "AuditVault$Hasher" 54 "AuditVault$Hashes" "words" "[I" "AuditVault" ∈ lw_tbl := List.mem_of_getElem? (i := 164) (by decide +kernel)
theorem en_F10 : Cond.fieldLinkNest "AuditVault$Hasher" 57 "AuditVault" "HASH_ROUND" "[I" "AuditVault" ∈ lw_tbl := List.mem_of_getElem? (i := 413) (by decide +kernel)
theorem en_F11 : Cond.fieldLinkNest "AuditVault$Judge" 42 "AuditVault$Proof" "size" "I" "AuditVault" ∈ lw_tbl := List.mem_of_getElem? (i := 216) (by decide +kernel)
theorem en_F12 : Cond.fieldLinkNest "AuditVault$Judge" 68 "AuditVault$Proof" "row" "LAuditVault$Hashes;" "AuditVault" ∈ lw_tbl := List.mem_of_getElem? (i := 210) (by decide +kernel)
theorem en_M0 : Cond.methodLinkNest "AuditVault" 11 ⟨"AuditVault$Monitor", "<init>", "()V"⟩ "AuditVault" ∈ lw_tbl := List.mem_of_getElem? (i := 96) (by decide +kernel)
theorem en_M1 : Cond.methodLinkNest "AuditVault" 18 ⟨"AuditVault$Hasher", "<init>", "()V"⟩ "AuditVault" ∈ lw_tbl := List.mem_of_getElem? (i := 134) (by decide +kernel)
theorem en_M2 : Cond.methodLinkNest "AuditVault" 25 ⟨"AuditVault$Tree", "<init>", "(LAuditVault$Hasher;)V"⟩ "AuditVault" ∈ lw_tbl := List.mem_of_getElem? (i := 153) (by decide +kernel)
theorem en_M3 : Cond.methodLinkNest "AuditVault" 34 ⟨"AuditVault$Log", "<init>", "(LAuditVault$Hasher;LAuditVault$Tree;)V"⟩ "AuditVault" ∈ lw_tbl := List.mem_of_getElem? (i := 177) (by decide +kernel)
theorem en_M4 : Cond.methodLinkNest "AuditVault" 43 ⟨"AuditVault$Proof", "<init>", "(LAuditVault$Tree;)V"⟩ "AuditVault" ∈ lw_tbl := List.mem_of_getElem? (i := 202) (by decide +kernel)
theorem en_M5 : Cond.methodLinkNest "AuditVault" 52 ⟨"AuditVault$Hashes", "<init>", "(I)V"⟩ "AuditVault" ∈ lw_tbl := List.mem_of_getElem? (i := 232) (by decide +kernel)
theorem en_M6 : Cond.methodLinkNest "AuditVault" 61 ⟨"AuditVault$Judge", "<init>", "(LAuditVault$Hasher;LAuditVault$Proof;LAuditVault$Hashes;)V"⟩ "AuditVault" ∈ lw_tbl := List.mem_of_getElem? (i := 235) (by decide +kernel)
theorem en_M7 : Cond.methodLinkNest "AuditVault" 70 ⟨"AuditVault$Disk", "<init>", "()V"⟩ "AuditVault" ∈ lw_tbl := List.mem_of_getElem? (i := 262) (by decide +kernel)
theorem en_M8 : Cond.methodLinkNest "AuditVault" 106 ⟨"AuditVault$Monitor", "causeOf", "(III)I"⟩ "AuditVault" ∈ lw_tbl := List.mem_of_getElem? (i := 339) (by decide +kernel)
theorem en_M9 : Cond.methodLinkNest "AuditVault" 110 ⟨"AuditVault$Monitor", "tally", "(IZ)V"⟩ "AuditVault" ∈ lw_tbl := List.mem_of_getElem? (i := 354) (by decide +kernel)
theorem en_M10 : Cond.methodLinkNest "AuditVault" 125 ⟨"AuditVault$Monitor", "placeSubject", "(III)V"⟩ "AuditVault" ∈ lw_tbl := List.mem_of_getElem? (i := 476) (by decide +kernel)
theorem en_M11 : Cond.methodLinkNest "AuditVault" 129 ⟨"AuditVault$Monitor", "placeObject", "(III)V"⟩ "AuditVault" ∈ lw_tbl := List.mem_of_getElem? (i := 484) (by decide +kernel)
theorem en_M12 : Cond.methodLinkNest "AuditVault" 132 ⟨"AuditVault$Monitor", "release", "(I)Z"⟩ "AuditVault" ∈ lw_tbl := List.mem_of_getElem? (i := 492) (by decide +kernel)
theorem en_M13 : Cond.methodLinkNest "AuditVault" 135 ⟨"AuditVault$Monitor", "ofSubject", "(II)I"⟩ "AuditVault" ∈ lw_tbl := List.mem_of_getElem? (i := 500) (by decide +kernel)
theorem en_M14 : Cond.methodLinkNest "AuditVault" 139 ⟨"AuditVault$Monitor", "ofObject", "(II)I"⟩ "AuditVault" ∈ lw_tbl := List.mem_of_getElem? (i := 508) (by decide +kernel)
theorem en_M15 : Cond.methodLinkNest "AuditVault" 145 ⟨"AuditVault$Monitor", "hasBeenGiven", "(III)Z"⟩ "AuditVault" ∈ lw_tbl := List.mem_of_getElem? (i := 460) (by decide +kernel)
theorem en_M16 : Cond.methodLinkNest "AuditVault" 151 ⟨"AuditVault$Log", "entryByte", "(II)I"⟩ "AuditVault" ∈ lw_tbl := List.mem_of_getElem? (i := 524) (by decide +kernel)
theorem en_M17 : Cond.methodLinkNest "AuditVault" 160 ⟨"AuditVault$Log", "linkByte", "(II)I"⟩ "AuditVault" ∈ lw_tbl := List.mem_of_getElem? (i := 536) (by decide +kernel)
theorem en_M18 : Cond.methodLinkNest "AuditVault" 163 ⟨"AuditVault$Tree", "rootOf", "(IILAuditVault$Hashes;I)V"⟩ "AuditVault" ∈ lw_tbl := List.mem_of_getElem? (i := 541) (by decide +kernel)
theorem en_M19 : Cond.methodLinkNest "AuditVault" 167 ⟨"AuditVault$Hashes", "byteAt", "(II)I"⟩ "AuditVault" ∈ lw_tbl := List.mem_of_getElem? (i := 549) (by decide +kernel)
theorem en_M20 : Cond.methodLinkNest "AuditVault" 170 ⟨"AuditVault$Proof", "becomePath", "(II)I"⟩ "AuditVault" ∈ lw_tbl := List.mem_of_getElem? (i := 554) (by decide +kernel)
theorem en_M21 : Cond.methodLinkNest "AuditVault" 173 ⟨"AuditVault$Proof", "becomeSteps", "(II)I"⟩ "AuditVault" ∈ lw_tbl := List.mem_of_getElem? (i := 574) (by decide +kernel)
theorem en_M22 : Cond.methodLinkNest "AuditVault" 185 ⟨"AuditVault$Hashes", "spoilByte", "(III)I"⟩ "AuditVault" ∈ lw_tbl := List.mem_of_getElem? (i := 593) (by decide +kernel)
theorem en_M23 : Cond.methodLinkNest "AuditVault" 194 ⟨"AuditVault$Judge", "pathIsRight", "(IILAuditVault$Hashes;I)Z"⟩ "AuditVault" ∈ lw_tbl := List.mem_of_getElem? (i := 621) (by decide +kernel)
theorem en_M24 : Cond.methodLinkNest "AuditVault" 198 ⟨"AuditVault$Judge", "stepsAreRight", "(IIII)Z"⟩ "AuditVault" ∈ lw_tbl := List.mem_of_getElem? (i := 655) (by decide +kernel)
theorem en_M25 : Cond.methodLinkNest "AuditVault" 208 ⟨"AuditVault$Disk", "losePower", "(I)V"⟩ "AuditVault" ∈ lw_tbl := List.mem_of_getElem? (i := 671) (by decide +kernel)
theorem en_M26 : Cond.methodLinkNest "AuditVault" 215 ⟨"AuditVault$Log", "accept", "()V"⟩ "AuditVault" ∈ lw_tbl := List.mem_of_getElem? (i := 415) (by decide +kernel)
theorem en_M27 : Cond.methodLinkNest "AuditVault" 218 ⟨"AuditVault$Disk", "settle", "(I)V"⟩ "AuditVault" ∈ lw_tbl := List.mem_of_getElem? (i := 695) (by decide +kernel)
theorem en_M28 : Cond.methodLinkNest "AuditVault" 225 ⟨"AuditVault$Disk", "holdsFrame", "(LAuditVault$Log;I)Z"⟩ "AuditVault" ∈ lw_tbl := List.mem_of_getElem? (i := 691) (by decide +kernel)
theorem en_M29 : Cond.methodLinkNest "AuditVault" 229 ⟨"AuditVault$Hasher", "begin", "()V"⟩ "AuditVault" ∈ lw_tbl := List.mem_of_getElem? (i := 715) (by decide +kernel)
theorem en_M30 : Cond.methodLinkNest "AuditVault" 232 ⟨"AuditVault$Hasher", "add", "(I)V"⟩ "AuditVault" ∈ lw_tbl := List.mem_of_getElem? (i := 716) (by decide +kernel)
theorem en_M31 : Cond.methodLinkNest "AuditVault" 235 ⟨"AuditVault$Hasher", "finish", "(LAuditVault$Hashes;I)V"⟩ "AuditVault" ∈ lw_tbl := List.mem_of_getElem? (i := 717) (by decide +kernel)
theorem en_M32 : Cond.methodLinkNest "AuditVault" 259 ⟨"AuditVault$Monitor", "setRight", "(IIIZ)V"⟩ "AuditVault" ∈ lw_tbl := List.mem_of_getElem? (i := 461) (by decide +kernel)
theorem en_M33 : Cond.methodLinkNest "AuditVault" 263 ⟨"AuditVault$Log", "draftHead", "(IIIII)V"⟩ "AuditVault" ∈ lw_tbl := List.mem_of_getElem? (i := 362) (by decide +kernel)
theorem en_M34 : Cond.methodLinkNest "AuditVault" 266 ⟨"AuditVault$Log", "draftTime", "(I)V"⟩ "AuditVault" ∈ lw_tbl := List.mem_of_getElem? (i := 370) (by decide +kernel)
theorem en_M35 : Cond.methodLinkNest "AuditVault" 269 ⟨"AuditVault$Log", "linkDraft", "()V"⟩ "AuditVault" ∈ lw_tbl := List.mem_of_getElem? (i := 374) (by decide +kernel)
theorem en_M36 : Cond.methodLinkNest "AuditVault" 272 ⟨"AuditVault$Disk", "writeFrame", "(LAuditVault$Log;I)V"⟩ "AuditVault" ∈ lw_tbl := List.mem_of_getElem? (i := 436) (by decide +kernel)
theorem en_M37 : Cond.methodLinkNest "AuditVault" 276 ⟨"AuditVault$Log", "draftByte", "(II)V"⟩ "AuditVault" ∈ lw_tbl := List.mem_of_getElem? (i := 690) (by decide +kernel)
theorem en_M38 : Cond.methodLinkNest "AuditVault$Disk" 22 ⟨"AuditVault$Log", "frameByte", "(II)I"⟩ "AuditVault" ∈ lw_tbl := List.mem_of_getElem? (i := 440) (by decide +kernel)
theorem en_M39 : Cond.methodLinkNest "AuditVault$Hasher" 25 ⟨"AuditVault$Hashes", "byteAt", "(II)I"⟩ "AuditVault" ∈ lw_tbl := List.mem_of_getElem? (i := 386) (by decide +kernel)
theorem en_M40 : Cond.methodLinkNest "AuditVault$Judge" 11 ⟨"AuditVault$Hashes", "<init>", "(I)V"⟩ "AuditVault" ∈ lw_tbl := List.mem_of_getElem? (i := 240) (by decide +kernel)
theorem en_M41 : Cond.methodLinkNest "AuditVault$Judge" 38 ⟨"AuditVault$Hashes", "copyFrom", "(ILAuditVault$Hashes;I)V"⟩ "AuditVault" ∈ lw_tbl := List.mem_of_getElem? (i := 625) (by decide +kernel)
theorem en_M42 : Cond.methodLinkNest "AuditVault$Judge" 64 ⟨"AuditVault$Hashes", "isSame", "(ILAuditVault$Hashes;I)Z"⟩ "AuditVault" ∈ lw_tbl := List.mem_of_getElem? (i := 647) (by decide +kernel)
theorem en_M43 : Cond.methodLinkNest "AuditVault$Judge" 74 ⟨"AuditVault$Hasher", "pairInto", "(LAuditVault$Hashes;ILAuditVault$Hashes;ILAuditVault$Hashes;I)V"⟩ "AuditVault" ∈ lw_tbl := List.mem_of_getElem? (i := 634) (by decide +kernel)
theorem en_M44 : Cond.methodLinkNest "AuditVault$Log" 17 ⟨"AuditVault$Hashes", "<init>", "(I)V"⟩ "AuditVault" ∈ lw_tbl := List.mem_of_getElem? (i := 182) (by decide +kernel)
theorem en_M45 : Cond.methodLinkNest "AuditVault$Log" 36 ⟨"AuditVault$Hashes", "byteAt", "(II)I"⟩ "AuditVault" ∈ lw_tbl := List.mem_of_getElem? (i := 448) (by decide +kernel)
theorem en_M46 : Cond.methodLinkNest "AuditVault$Log" 50 ⟨"AuditVault$Hasher", "begin", "()V"⟩ "AuditVault" ∈ lw_tbl := List.mem_of_getElem? (i := 378) (by decide +kernel)
theorem en_M47 : Cond.methodLinkNest "AuditVault$Log" 55 ⟨"AuditVault$Hasher", "addHash", "(LAuditVault$Hashes;I)V"⟩ "AuditVault" ∈ lw_tbl := List.mem_of_getElem? (i := 382) (by decide +kernel)
theorem en_M48 : Cond.methodLinkNest "AuditVault$Log" 59 ⟨"AuditVault$Hasher", "add", "(I)V"⟩ "AuditVault" ∈ lw_tbl := List.mem_of_getElem? (i := 398) (by decide +kernel)
theorem en_M49 : Cond.methodLinkNest "AuditVault$Log" 62 ⟨"AuditVault$Hasher", "finish", "(LAuditVault$Hashes;I)V"⟩ "AuditVault" ∈ lw_tbl := List.mem_of_getElem? (i := 399) (by decide +kernel)
theorem en_M50 : Cond.methodLinkNest "AuditVault$Log" 65 ⟨"AuditVault$Tree", "addLeaf", "([II)V"⟩ "AuditVault" ∈ lw_tbl := List.mem_of_getElem? (i := 419) (by decide +kernel)
theorem en_M51 : Cond.methodLinkNest "AuditVault$Proof" 11 ⟨"AuditVault$Hashes", "<init>", "(I)V"⟩ "AuditVault" ∈ lw_tbl := List.mem_of_getElem? (i := 207) (by decide +kernel)
theorem en_M52 : Cond.methodLinkNest "AuditVault$Proof" 50 ⟨"AuditVault$Tree", "rootOf", "(IILAuditVault$Hashes;I)V"⟩ "AuditVault" ∈ lw_tbl := List.mem_of_getElem? (i := 569) (by decide +kernel)
theorem en_M53 : Cond.methodLinkNest "AuditVault$Tree" 11 ⟨"AuditVault$Hashes", "<init>", "(I)V"⟩ "AuditVault" ∈ lw_tbl := List.mem_of_getElem? (i := 159) (by decide +kernel)
theorem en_M54 : Cond.methodLinkNest "AuditVault$Tree" 24 ⟨"AuditVault$Hasher", "begin", "()V"⟩ "AuditVault" ∈ lw_tbl := List.mem_of_getElem? (i := 423) (by decide +kernel)
theorem en_M55 : Cond.methodLinkNest "AuditVault$Tree" 29 ⟨"AuditVault$Hasher", "add", "(I)V"⟩ "AuditVault" ∈ lw_tbl := List.mem_of_getElem? (i := 424) (by decide +kernel)
theorem en_M56 : Cond.methodLinkNest "AuditVault$Tree" 36 ⟨"AuditVault$Hasher", "finish", "(LAuditVault$Hashes;I)V"⟩ "AuditVault" ∈ lw_tbl := List.mem_of_getElem? (i := 428) (by decide +kernel)
theorem en_M57 : Cond.methodLinkNest "AuditVault$Tree" 40 ⟨"AuditVault$Hasher", "pairInto", "(LAuditVault$Hashes;ILAuditVault$Hashes;ILAuditVault$Hashes;I)V"⟩ "AuditVault" ∈ lw_tbl := List.mem_of_getElem? (i := 429) (by decide +kernel)
theorem en_M58 : Cond.methodLinkNest "AuditVault$Tree" 44 ⟨"AuditVault$Hashes", "copyFrom", "(ILAuditVault$Hashes;I)V"⟩ "AuditVault" ∈ lw_tbl := List.mem_of_getElem? (i := 545) (by decide +kernel)
theorem en_F : ∀ q ∈ nestF, Cond.fieldLinkNest q.1 q.2.1 q.2.2.1 q.2.2.2.1 q.2.2.2.2.1 q.2.2.2.2.2 ∈ lw_tbl := List.forall_mem_cons.mpr ⟨en_F0, List.forall_mem_cons.mpr ⟨en_F1, List.forall_mem_cons.mpr ⟨en_F2, List.forall_mem_cons.mpr ⟨en_F3, List.forall_mem_cons.mpr ⟨en_F4, List.forall_mem_cons.mpr ⟨en_F5, List.forall_mem_cons.mpr ⟨en_F6, List.forall_mem_cons.mpr ⟨en_F7, List.forall_mem_cons.mpr ⟨en_F8, List.forall_mem_cons.mpr ⟨en_F9, List.forall_mem_cons.mpr ⟨en_F10, List.forall_mem_cons.mpr ⟨en_F11, List.forall_mem_cons.mpr ⟨en_F12, fun _ h => absurd h List.not_mem_nil⟩⟩⟩⟩⟩⟩⟩⟩⟩⟩⟩⟩⟩
theorem en_M : ∀ q ∈ nestM, Cond.methodLinkNest q.1 q.2.1 q.2.2.1 q.2.2.2 ∈ lw_tbl := List.forall_mem_cons.mpr ⟨en_M0, List.forall_mem_cons.mpr ⟨en_M1, List.forall_mem_cons.mpr ⟨en_M2, List.forall_mem_cons.mpr ⟨en_M3, List.forall_mem_cons.mpr ⟨en_M4, List.forall_mem_cons.mpr ⟨en_M5, List.forall_mem_cons.mpr ⟨en_M6, List.forall_mem_cons.mpr ⟨en_M7, List.forall_mem_cons.mpr ⟨en_M8, List.forall_mem_cons.mpr ⟨en_M9, List.forall_mem_cons.mpr ⟨en_M10, List.forall_mem_cons.mpr ⟨en_M11, List.forall_mem_cons.mpr ⟨en_M12, List.forall_mem_cons.mpr ⟨en_M13, List.forall_mem_cons.mpr ⟨en_M14, List.forall_mem_cons.mpr ⟨en_M15, List.forall_mem_cons.mpr ⟨en_M16, List.forall_mem_cons.mpr ⟨en_M17, List.forall_mem_cons.mpr ⟨en_M18, List.forall_mem_cons.mpr ⟨en_M19, List.forall_mem_cons.mpr ⟨en_M20, List.forall_mem_cons.mpr ⟨en_M21, List.forall_mem_cons.mpr ⟨en_M22, List.forall_mem_cons.mpr ⟨en_M23, List.forall_mem_cons.mpr ⟨en_M24, List.forall_mem_cons.mpr ⟨en_M25, List.forall_mem_cons.mpr ⟨en_M26, List.forall_mem_cons.mpr ⟨en_M27, List.forall_mem_cons.mpr ⟨en_M28, List.forall_mem_cons.mpr ⟨en_M29, List.forall_mem_cons.mpr ⟨en_M30, List.forall_mem_cons.mpr ⟨en_M31, List.forall_mem_cons.mpr ⟨en_M32, List.forall_mem_cons.mpr ⟨en_M33, List.forall_mem_cons.mpr ⟨en_M34, List.forall_mem_cons.mpr ⟨en_M35, List.forall_mem_cons.mpr ⟨en_M36, List.forall_mem_cons.mpr ⟨en_M37, List.forall_mem_cons.mpr ⟨en_M38, List.forall_mem_cons.mpr ⟨en_M39, List.forall_mem_cons.mpr ⟨en_M40, List.forall_mem_cons.mpr ⟨en_M41, List.forall_mem_cons.mpr ⟨en_M42, List.forall_mem_cons.mpr ⟨en_M43, List.forall_mem_cons.mpr ⟨en_M44, List.forall_mem_cons.mpr ⟨en_M45, List.forall_mem_cons.mpr ⟨en_M46, List.forall_mem_cons.mpr ⟨en_M47, List.forall_mem_cons.mpr ⟨en_M48, List.forall_mem_cons.mpr ⟨en_M49, List.forall_mem_cons.mpr ⟨en_M50, List.forall_mem_cons.mpr ⟨en_M51, List.forall_mem_cons.mpr ⟨en_M52, List.forall_mem_cons.mpr ⟨en_M53, List.forall_mem_cons.mpr ⟨en_M54, List.forall_mem_cons.mpr ⟨en_M55, List.forall_mem_cons.mpr ⟨en_M56, List.forall_mem_cons.mpr ⟨en_M57, List.forall_mem_cons.mpr ⟨en_M58, fun _ h => absurd h List.not_mem_nil⟩⟩⟩⟩⟩⟩⟩⟩⟩⟩⟩⟩⟩⟩⟩⟩⟩⟩⟩⟩⟩⟩⟩⟩⟩⟩⟩⟩⟩⟩⟩⟩⟩⟩⟩⟩⟩⟩⟩⟩⟩⟩⟩⟩⟩⟩⟩⟩⟩⟩⟩⟩⟩⟩⟩⟩⟩⟩⟩
theorem en_Nok {s : State} {a : Array Value} (hts : ∀ w ∈ lw_tbl, w.before a s = true) : Nok s := ⟨fun q hq => va_Nw.of rfl (hts _ (en_F q hq)), fun q hq => va_Nw.of rfl (hts _ (en_M q hq))⟩
theorem en_I0 : Cond.instantiable RX0 3 ∈ lw_tbl := List.mem_of_getElem? (i := 261) (by decide +kernel)
theorem en_I1 : Cond.instantiable RX1 4 ∈ lw_tbl := List.mem_of_getElem? (i := 133) (by decide +kernel)
theorem en_I2 : Cond.instantiable RX2 1 ∈ lw_tbl := List.mem_of_getElem? (i := 158) (by decide +kernel)
theorem en_I3 : Cond.instantiable RX3 6 ∈ lw_tbl := List.mem_of_getElem? (i := 234) (by decide +kernel)
theorem en_I4 : Cond.instantiable RX4 5 ∈ lw_tbl := List.mem_of_getElem? (i := 176) (by decide +kernel)
theorem en_I5 : Cond.instantiable RX5 9 ∈ lw_tbl := List.mem_of_getElem? (i := 95) (by decide +kernel)
theorem en_I6 : Cond.instantiable RX6 6 ∈ lw_tbl := List.mem_of_getElem? (i := 201) (by decide +kernel)
theorem en_I7 : Cond.instantiable RX7 2 ∈ lw_tbl := List.mem_of_getElem? (i := 152) (by decide +kernel)
theorem en_I8 : Cond.instantiable RX8 11 ∈ lw_tbl := List.mem_of_getElem? (i := 87) (by decide +kernel)
theorem en_I9 : Cond.instantiable RX9 34 ∈ lw_tbl := List.mem_of_getElem? (i := 732) (by decide +kernel)
theorem en_K {s : State} {a : Array Value} (hts : ∀ w ∈ lw_tbl, w.before a s = true) : ∃ (G : va_G) (cI cZ : ClassId), va_K G vwCl [(cI, .int), (cZ, .boolean)] s := by
  have htg : ∀ w ∈ gtbl, w.before a s = true := fun w h => hts w (List.mem_filter.mp h).1
  obtain ⟨c0, i0, h0⟩ := u_known (C := RX0) (T := TX0) (N := 3) (n := 3) htg gd0 (hts _ en_I0)
  obtain ⟨c1, i1, h1⟩ := u_known (C := RX1) (T := TX1) (N := 4) (n := 4) htg gd1 (hts _ en_I1)
  obtain ⟨c2, i2, h2⟩ := u_known (C := RX2) (T := TX2) (N := 1) (n := 1) htg gd2 (hts _ en_I2)
  obtain ⟨c3, i3, h3⟩ := u_known (C := RX3) (T := TX3) (N := 6) (n := 6) htg gd3 (hts _ en_I3)
  obtain ⟨c4, i4, h4⟩ := u_known (C := RX4) (T := TX4) (N := 5) (n := 5) htg gd4 (hts _ en_I4)
  obtain ⟨c5, i5, h5⟩ := u_known (C := RX5) (T := TX5) (N := 9) (n := 9) htg gd5 (hts _ en_I5)
  obtain ⟨c6, i6, h6⟩ := u_known (C := RX6) (T := TX6) (N := 6) (n := 6) htg gd6 (hts _ en_I6)
  obtain ⟨c7, i7, h7⟩ := u_known (C := RX7) (T := TX7) (N := 2) (n := 2) htg gd7 (hts _ en_I7)
  obtain ⟨c8, i8, h8⟩ := u_known (C := RX8) (T := TX8) (N := 11) (n := 11) htg gd8 (hts _ en_I8)
  obtain ⟨c9, i9, h9⟩ := u_known (C := RX9) (T := TX9) (N := 34) (n := 34) htg gd9 (hts _ en_I9)
  obtain ⟨cI, kI, oI, fI, gI, eI⟩ := Cond.arrayClass_spec (hts (.arrayClass .int) (by decide +kernel))
  obtain ⟨cZ, kZ, oZ, fZ, gZ, eZ⟩ := Cond.arrayClass_spec (hts (.arrayClass .boolean) (by decide +kernel))
  refine ⟨(fun k => match k with | 0 => c0 | 1 => c1 | 2 => c2 | 3 => c3 | 4 => c4 | 5 => c5 | 6 => c6 | 7 => c7 | 8 => c8 | _ => c9, fun k => match k with | 0 => i0 | 1 => i1 | 2 => i2 | 3 => i3 | 4 => i4 | 5 => i5 | 6 => i6 | 7 => i7 | 8 => i8 | _ => i9), cI, cZ, ?_, ?_⟩
  · intro k q hq
    match k, hq with
    | 0, hq => cases hq; exact h0
    | 1, hq => cases hq; exact h1
    | 2, hq => cases hq; exact h2
    | 3, hq => cases hq; exact h3
    | 4, hq => cases hq; exact h4
    | 5, hq => cases hq; exact h5
    | 6, hq => cases hq; exact h6
    | 7, hq => cases hq; exact h7
    | 8, hq => cases hq; exact h8
    | 9, hq => cases hq; exact h9
    | k + 10, hq => simp [vwCl] at hq
  · intro k q hq
    match k, hq with
    | 0, hq => cases hq; exact ⟨fun n z => ⟨fun k h => (by cases h), kI, gI, oI, eI⟩, fI⟩
    | 1, hq => cases hq; exact ⟨fun n z => ⟨fun k h => (by cases h), kZ, gZ, oZ, eZ⟩, fZ⟩
    | k + 2, hq => simp at hq
theorem en_vSm : ∀ j, j < 8 → Cond.eq (.elem (Term.static "AuditVault" "HASH_START" "[I") (.int (Int32.ofNat j))) (.int (vS j)) ∈ flatC (Jvm.Cond.and given_1 narrow_1) := by decide +kernel
theorem en_vS {s : State} {a : Array Value} {A : Nat → Prop} (hts : ∀ w ∈ lw_tbl, w.before a s = true) (hgv : (Jvm.Cond.and given_1 narrow_1).before a s = true) (hA : ∀ q : Nat, q < s.heap.size → ¬ A q) : ∃ t : Nat, va_Z "AuditVault" "HASH_START" "[I" (.ref t) A s s.heap ∧ va_T .int t 8 (fun j => .int (vS j)) A s s.heap := by
  have hs := flat_of_before _ hgv
  obtain ⟨t, h1, h2⟩ := va_Tof (tm := (Term.static "AuditVault" "HASH_START" "[I")) (ty := .int) (N := 8) (f := fun j => .int (vS j)) (A := A) (by decide) (hs _ (by decide +kernel)) (va_eqt (z := Int32.ofNat 8) (hs _ (by decide +kernel))) (fun j hj => va_eqt (hs _ (en_vSm j hj))) hA
  exact ⟨t, va_Zref (hts (.laysStatic "AuditVault" "HASH_START" "[I") (by decide +kernel)) (hts (.initialized "AuditVault") (by decide +kernel)) h1 hA, h2⟩
theorem en_vRm : ∀ j, j < 64 → Cond.eq (.elem (Term.static "AuditVault" "HASH_ROUND" "[I") (.int (Int32.ofNat j))) (.int (vR j)) ∈ flatC (Jvm.Cond.and given_1 narrow_1) := by decide +kernel
theorem en_vR {s : State} {a : Array Value} {A : Nat → Prop} (hts : ∀ w ∈ lw_tbl, w.before a s = true) (hgv : (Jvm.Cond.and given_1 narrow_1).before a s = true) (hA : ∀ q : Nat, q < s.heap.size → ¬ A q) : ∃ t : Nat, va_Z "AuditVault" "HASH_ROUND" "[I" (.ref t) A s s.heap ∧ va_T .int t 64 (fun j => .int (vR j)) A s s.heap := by
  have hs := flat_of_before _ hgv
  obtain ⟨t, h1, h2⟩ := va_Tof (tm := (Term.static "AuditVault" "HASH_ROUND" "[I")) (ty := .int) (N := 64) (f := fun j => .int (vR j)) (A := A) (by decide) (hs _ (by decide +kernel)) (va_eqt (z := Int32.ofNat 64) (hs _ (by decide +kernel))) (fun j hj => va_eqt (hs _ (en_vRm j hj))) hA
  exact ⟨t, va_Zref (hts (.laysStatic "AuditVault" "HASH_ROUND" "[I") (by decide +kernel)) (hts (.initialized "AuditVault") (by decide +kernel)) h1 hA, h2⟩
theorem en_Fx {s : State} {a : Array Value} (hts : ∀ w ∈ lw_tbl, w.before a s = true) (hgv : (Jvm.Cond.and given_1 narrow_1).before a s = true) : ∃ X : XT, X.2.2.2.2.1 = s.heap.size ∧ Fx X s := by
  obtain ⟨G, cI, cZ, hK⟩ := en_K hts
  have hA : ∀ q : Nat, q < s.heap.size → ¬ (fun q : Nat => s.heap.size ≤ q) q := fun q h => Nat.not_le.mpr h
  obtain ⟨tS, hS⟩ := en_vS (A := fun q : Nat => s.heap.size ≤ q) hts hgv hA
  obtain ⟨tR, hR⟩ := en_vR (A := fun q : Nat => s.heap.size ≤ q) hts hgv hA
  exact ⟨(G, cI, cZ, fun _ => 0, s.heap.size, tS, tR), rfl, hK, en_Nok hts, hS, hR⟩
