theorem lw_n1 : ∀ w ∈ tables_1_1, isNestW w = true → w ∈ lw_nest := fun w h g => List.mem_filter.mpr ⟨List.mem_append_right _ (show w ∈ tables_1 from List.mem_append_left _ h), g⟩
theorem lw_n2 : ∀ w ∈ tables_1_2, isNestW w = true → w ∈ lw_nest := fun w h g => List.mem_filter.mpr ⟨List.mem_append_right _ (show w ∈ tables_1 from List.mem_append_right _ (List.mem_append_left _ h)), g⟩
theorem lw_n3 : ∀ w ∈ tables_1_3, isNestW w = true → w ∈ lw_nest := fun w h g => List.mem_filter.mpr ⟨List.mem_append_right _ (show w ∈ tables_1 from List.mem_append_right _ (List.mem_append_right _ (List.mem_append_left _ h))), g⟩
theorem lw_n4 : ∀ w ∈ tables_1_4, isNestW w = true → w ∈ lw_nest := fun w h g => List.mem_filter.mpr ⟨List.mem_append_right _ (show w ∈ tables_1 from List.mem_append_right _ (List.mem_append_right _ (List.mem_append_right _ (List.mem_append_left _ h)))), g⟩
theorem lw_n5 : ∀ w ∈ tables_1_5, isNestW w = true → w ∈ lw_nest := fun w h g => List.mem_filter.mpr ⟨List.mem_append_right _ (show w ∈ tables_1 from List.mem_append_right _ (List.mem_append_right _ (List.mem_append_right _ (List.mem_append_right _ (List.mem_append_left _ h))))), g⟩
theorem lw_n6 : ∀ w ∈ tables_1_6, isNestW w = true → w ∈ lw_nest := fun w h g => List.mem_filter.mpr ⟨List.mem_append_right _ (show w ∈ tables_1 from List.mem_append_right _ (List.mem_append_right _ (List.mem_append_right _ (List.mem_append_right _ (List.mem_append_right _ (List.mem_append_left _ h)))))), g⟩
theorem lw_n7 : ∀ w ∈ tables_1_7, isNestW w = true → w ∈ lw_nest := fun w h g => List.mem_filter.mpr ⟨List.mem_append_right _ (show w ∈ tables_1 from List.mem_append_right _ (List.mem_append_right _ (List.mem_append_right _ (List.mem_append_right _ (List.mem_append_right _ (List.mem_append_right _ (List.mem_append_left _ h))))))), g⟩
theorem lw_n8 : ∀ w ∈ tables_1_8, isNestW w = true → w ∈ lw_nest := fun w h g => List.mem_filter.mpr ⟨List.mem_append_right _ (show w ∈ tables_1 from List.mem_append_right _ (List.mem_append_right _ (List.mem_append_right _ (List.mem_append_right _ (List.mem_append_right _ (List.mem_append_right _ (List.mem_append_right _ (h)))))))), g⟩
theorem nw129 : (Jvm.Cond.methodLinkNest "OnlyDifferences" (11 : Nat) ({ cls := "OnlyDifferences$Tape", name := "<init>", desc := "()V" } : Jvm.MethodName) "OnlyDifferences") ∈ lw_nest := lw_n1 _ (List.mem_of_getElem? (i := 30) rfl) rfl
theorem nw136 : (Jvm.Cond.fieldLinkNest "OnlyDifferences" (102 : Nat) "OnlyDifferences$Tape" "length" "I" "OnlyDifferences") ∈ lw_nest := lw_n1 _ (List.mem_of_getElem? (i := 37) rfl) rfl
theorem nw139 : (Jvm.Cond.fieldLinkNest "OnlyDifferences$Market" (72 : Nat) "OnlyDifferences$Tape" "at" "I" "OnlyDifferences") ∈ lw_nest := lw_n1 _ (List.mem_of_getElem? (i := 40) rfl) rfl
theorem nw140 : (Jvm.Cond.fieldLinkNest "OnlyDifferences$LawReader" (50 : Nat) "OnlyDifferences$Tape" "at" "I" "OnlyDifferences") ∈ lw_nest := lw_n1 _ (List.mem_of_getElem? (i := 41) rfl) rfl
theorem nw141 : (Jvm.Cond.fieldLinkNest "OnlyDifferences$Claims" (58 : Nat) "OnlyDifferences$Tape" "at" "I" "OnlyDifferences") ∈ lw_nest := lw_n1 _ (List.mem_of_getElem? (i := 42) rfl) rfl
theorem nw171 : (Jvm.Cond.fieldLinkNest "OnlyDifferences$Bounds" (50 : Nat) "OnlyDifferences$Claims" "size" "I" "OnlyDifferences") ∈ lw_nest := lw_n1 _ (List.mem_of_getElem? (i := 72) rfl) rfl
theorem nw172 : (Jvm.Cond.fieldLinkNest "OnlyDifferences" (163 : Nat) "OnlyDifferences$Claims" "size" "I" "OnlyDifferences") ∈ lw_nest := lw_n1 _ (List.mem_of_getElem? (i := 73) rfl) rfl
theorem nw174 : (Jvm.Cond.fieldLinkNest "OnlyDifferences$Bounds" (62 : Nat) "OnlyDifferences$Claims" "first" "[I" "OnlyDifferences") ∈ lw_nest := lw_n1 _ (List.mem_of_getElem? (i := 75) rfl) rfl
theorem nw175 : (Jvm.Cond.fieldLinkNest "OnlyDifferences" (182 : Nat) "OnlyDifferences$Claims" "first" "[I" "OnlyDifferences") ∈ lw_nest := lw_n1 _ (List.mem_of_getElem? (i := 76) rfl) rfl
theorem nw177 : (Jvm.Cond.fieldLinkNest "OnlyDifferences$Bounds" (65 : Nat) "OnlyDifferences$Claims" "second" "[I" "OnlyDifferences") ∈ lw_nest := lw_n1 _ (List.mem_of_getElem? (i := 78) rfl) rfl
theorem nw178 : (Jvm.Cond.fieldLinkNest "OnlyDifferences" (185 : Nat) "OnlyDifferences$Claims" "second" "[I" "OnlyDifferences") ∈ lw_nest := lw_n1 _ (List.mem_of_getElem? (i := 79) rfl) rfl
theorem nw180 : (Jvm.Cond.fieldLinkNest "OnlyDifferences$Bounds" (59 : Nat) "OnlyDifferences$Claims" "kind" "[I" "OnlyDifferences") ∈ lw_nest := lw_n1 _ (List.mem_of_getElem? (i := 81) rfl) rfl
theorem nw181 : (Jvm.Cond.fieldLinkNest "OnlyDifferences" (188 : Nat) "OnlyDifferences$Claims" "kind" "[I" "OnlyDifferences") ∈ lw_nest := lw_n1 _ (List.mem_of_getElem? (i := 82) rfl) rfl
theorem nw183 : (Jvm.Cond.fieldLinkNest "OnlyDifferences$Bounds" (68 : Nat) "OnlyDifferences$Claims" "number" "[I" "OnlyDifferences") ∈ lw_nest := lw_n1 _ (List.mem_of_getElem? (i := 84) rfl) rfl
theorem nw184 : (Jvm.Cond.fieldLinkNest "OnlyDifferences" (191 : Nat) "OnlyDifferences$Claims" "number" "[I" "OnlyDifferences") ∈ lw_nest := lw_n1 _ (List.mem_of_getElem? (i := 85) rfl) rfl
theorem nw204 : (Jvm.Cond.methodLinkNest "OnlyDifferences" (28 : Nat) ({ cls := "OnlyDifferences$Bounds", name := "<init>", desc := "()V" } : Jvm.MethodName) "OnlyDifferences") ∈ lw_nest := lw_n1 _ (List.mem_of_getElem? (i := 105) rfl) rfl
theorem nw209 : (Jvm.Cond.fieldLinkNest "OnlyDifferences" (152 : Nat) "OnlyDifferences$Bounds" "direct" "[I" "OnlyDifferences") ∈ lw_nest := lw_n1 _ (List.mem_of_getElem? (i := 110) rfl) rfl
theorem nw213 : (Jvm.Cond.fieldLinkNest "OnlyDifferences" (143 : Nat) "OnlyDifferences$Bounds" "canHold" "Z" "OnlyDifferences") ∈ lw_nest := lw_n1 _ (List.mem_of_getElem? (i := 114) rfl) rfl
theorem nw225 : (Jvm.Cond.methodLinkNest "OnlyDifferences" (38 : Nat) ({ cls := "OnlyDifferences$RingSearch", name := "<init>", desc := "()V" } : Jvm.MethodName) "OnlyDifferences") ∈ lw_nest := lw_n1 _ (List.mem_of_getElem? (i := 126) rfl) rfl
theorem nw251 : (Jvm.Cond.methodLinkNest "OnlyDifferences" (54 : Nat) ({ cls := "OnlyDifferences$Law", name := "<init>", desc := "()V" } : Jvm.MethodName) "OnlyDifferences") ∈ lw_nest := lw_n1 _ (List.mem_of_getElem? (i := 152) rfl) rfl
theorem nw267 : (Jvm.Cond.fieldLinkNest "OnlyDifferences$LawReader" (38 : Nat) "OnlyDifferences$Law" "size" "I" "OnlyDifferences") ∈ lw_nest := lw_n1 _ (List.mem_of_getElem? (i := 168) rfl) rfl
theorem nw268 : (Jvm.Cond.fieldLinkNest "OnlyDifferences" (381 : Nat) "OnlyDifferences$Law" "size" "I" "OnlyDifferences") ∈ lw_nest := lw_n1 _ (List.mem_of_getElem? (i := 169) rfl) rfl
theorem nw274 : (Jvm.Cond.fieldLinkNest "OnlyDifferences$LawReader" (60 : Nat) "OnlyDifferences$Law" "length" "I" "OnlyDifferences") ∈ lw_nest := lw_n1 _ (List.mem_of_getElem? (i := 175) rfl) rfl
theorem nw306 : (Jvm.Cond.methodLinkNest "OnlyDifferences" (64 : Nat) ({ cls := "OnlyDifferences$Market", name := "<init>", desc := "()V" } : Jvm.MethodName) "OnlyDifferences") ∈ lw_nest := lw_n1 _ (List.mem_of_getElem? (i := 207) rfl) rfl
theorem nw311 : (Jvm.Cond.fieldLinkNest "OnlyDifferences" (375 : Nat) "OnlyDifferences$Market" "told" "I" "OnlyDifferences") ∈ lw_nest := lw_n1 _ (List.mem_of_getElem? (i := 212) rfl) rfl
theorem nw313 : (Jvm.Cond.fieldLinkNest "OnlyDifferences$Law" (59 : Nat) "OnlyDifferences$Market" "upper" "[I" "OnlyDifferences") ∈ lw_nest := lw_n1 _ (List.mem_of_getElem? (i := 214) rfl) rfl
theorem nw314 : (Jvm.Cond.fieldLinkNest "OnlyDifferences" (349 : Nat) "OnlyDifferences$Market" "upper" "[I" "OnlyDifferences") ∈ lw_nest := lw_n1 _ (List.mem_of_getElem? (i := 215) rfl) rfl
theorem nw316 : (Jvm.Cond.fieldLinkNest "OnlyDifferences$Law" (64 : Nat) "OnlyDifferences$Market" "lower" "[I" "OnlyDifferences") ∈ lw_nest := lw_n1 _ (List.mem_of_getElem? (i := 217) rfl) rfl
theorem nw317 : (Jvm.Cond.fieldLinkNest "OnlyDifferences" (352 : Nat) "OnlyDifferences$Market" "lower" "[I" "OnlyDifferences") ∈ lw_nest := lw_n1 _ (List.mem_of_getElem? (i := 218) rfl) rfl
theorem nw319 : (Jvm.Cond.fieldLinkNest "OnlyDifferences$Law" (71 : Nat) "OnlyDifferences$Market" "money" "[I" "OnlyDifferences") ∈ lw_nest := lw_n1 _ (List.mem_of_getElem? (i := 220) rfl) rfl
theorem nw320 : (Jvm.Cond.fieldLinkNest "OnlyDifferences" (343 : Nat) "OnlyDifferences$Market" "money" "[I" "OnlyDifferences") ∈ lw_nest := lw_n1 _ (List.mem_of_getElem? (i := 221) rfl) rfl
theorem nw322 : (Jvm.Cond.fieldLinkNest "OnlyDifferences$Law" (74 : Nat) "OnlyDifferences$Market" "soldOut" "[I" "OnlyDifferences") ∈ lw_nest := lw_n1 _ (List.mem_of_getElem? (i := 223) rfl) rfl
theorem nw323 : (Jvm.Cond.fieldLinkNest "OnlyDifferences" (355 : Nat) "OnlyDifferences$Market" "soldOut" "[I" "OnlyDifferences") ∈ lw_nest := lw_n1 _ (List.mem_of_getElem? (i := 224) rfl) rfl
theorem nw325 : (Jvm.Cond.fieldLinkNest "OnlyDifferences$Law" (80 : Nat) "OnlyDifferences$Market" "day" "I" "OnlyDifferences") ∈ lw_nest := lw_n1 _ (List.mem_of_getElem? (i := 226) rfl) rfl
theorem nw326 : (Jvm.Cond.fieldLinkNest "OnlyDifferences" (369 : Nat) "OnlyDifferences$Market" "day" "I" "OnlyDifferences") ∈ lw_nest := lw_n1 _ (List.mem_of_getElem? (i := 227) rfl) rfl
theorem nw328 : (Jvm.Cond.fieldLinkNest "OnlyDifferences" (366 : Nat) "OnlyDifferences$Market" "x" "I" "OnlyDifferences") ∈ lw_nest := lw_n1 _ (List.mem_of_getElem? (i := 229) rfl) rfl
theorem nw330 : (Jvm.Cond.fieldLinkNest "OnlyDifferences" (325 : Nat) "OnlyDifferences$Market" "sales" "I" "OnlyDifferences") ∈ lw_nest := lw_n1 _ (List.mem_of_getElem? (i := 231) rfl) rfl
theorem nw332 : (Jvm.Cond.fieldLinkNest "OnlyDifferences" (337 : Nat) "OnlyDifferences$Market" "timesSoldOut" "I" "OnlyDifferences") ∈ lw_nest := lw_n1 _ (List.mem_of_getElem? (i := 233) rfl) rfl
theorem nw334 : (Jvm.Cond.fieldLinkNest "OnlyDifferences" (358 : Nat) "OnlyDifferences$Market" "soldOutToday" "I" "OnlyDifferences") ∈ lw_nest := lw_n1 _ (List.mem_of_getElem? (i := 235) rfl) rfl
theorem nw358 : (Jvm.Cond.methodLinkNest "OnlyDifferences" (81 : Nat) ({ cls := "OnlyDifferences$Triangles", name := "<init>", desc := "()V" } : Jvm.MethodName) "OnlyDifferences") ∈ lw_nest := lw_n2 _ (List.mem_of_getElem? (i := 19) rfl) rfl
theorem nw364 : (Jvm.Cond.fieldLinkNest "OnlyDifferences" (256 : Nat) "OnlyDifferences$Triangles" "many" "I" "OnlyDifferences") ∈ lw_nest := lw_n2 _ (List.mem_of_getElem? (i := 25) rfl) rfl
theorem nw366 : (Jvm.Cond.fieldLinkNest "OnlyDifferences" (259 : Nat) "OnlyDifferences$Triangles" "least" "[I" "OnlyDifferences") ∈ lw_nest := lw_n2 _ (List.mem_of_getElem? (i := 27) rfl) rfl
theorem nw477 : (Jvm.Cond.methodLinkNest "OnlyDifferences$Tape" (34 : Nat) ({ cls := "OnlyDifferences", name := "isFrom", desc := "(III)Z" } : Jvm.MethodName) "OnlyDifferences") ∈ lw_nest := lw_n2 _ (List.mem_of_getElem? (i := 138) rfl) rfl
theorem nw611 : (Jvm.Cond.methodLinkNest "OnlyDifferences$Law" (53 : Nat) ({ cls := "OnlyDifferences", name := "isFrom", desc := "(III)Z" } : Jvm.MethodName) "OnlyDifferences") ∈ lw_nest := lw_n3 _ (List.mem_of_getElem? (i := 32) rfl) rfl
theorem nw688 : (Jvm.Cond.methodLinkNest "OnlyDifferences$Market" (106 : Nat) ({ cls := "OnlyDifferences", name := "isFrom", desc := "(III)Z" } : Jvm.MethodName) "OnlyDifferences") ∈ lw_nest := lw_n3 _ (List.mem_of_getElem? (i := 109) rfl) rfl
theorem nw689 : (Jvm.Cond.methodLinkNest "OnlyDifferences$Market" (110 : Nat) ({ cls := "OnlyDifferences", name := "isIn", desc := "(II)Z" } : Jvm.MethodName) "OnlyDifferences") ∈ lw_nest := lw_n3 _ (List.mem_of_getElem? (i := 110) rfl) rfl
theorem nw765 : (Jvm.Cond.methodLinkNest "OnlyDifferences$RingSearch" (47 : Nat) ({ cls := "OnlyDifferences", name := "isIn", desc := "(II)Z" } : Jvm.MethodName) "OnlyDifferences") ∈ lw_nest := lw_n3 _ (List.mem_of_getElem? (i := 186) rfl) rfl
theorem nw773 : (Jvm.Cond.methodLinkNest "OnlyDifferences$RingSearch" (34 : Nat) ({ cls := "OnlyDifferences", name := "lowestIn", desc := "(I)I" } : Jvm.MethodName) "OnlyDifferences") ∈ lw_nest := lw_n3 _ (List.mem_of_getElem? (i := 194) rfl) rfl
theorem nw817 : (Jvm.Cond.methodLinkNest "OnlyDifferences$Claims" (93 : Nat) ({ cls := "OnlyDifferences", name := "isFrom", desc := "(III)Z" } : Jvm.MethodName) "OnlyDifferences") ∈ lw_nest := lw_n3 _ (List.mem_of_getElem? (i := 238) rfl) rfl
theorem nw845 : (Jvm.Cond.methodLinkNest "OnlyDifferences$Bounds" (98 : Nat) ({ cls := "OnlyDifferences", name := "isIn", desc := "(II)Z" } : Jvm.MethodName) "OnlyDifferences") ∈ lw_nest := lw_n4 _ (List.mem_of_getElem? (i := 26) rfl) rfl
theorem nw851 : (Jvm.Cond.methodLinkNest "OnlyDifferences" (207 : Nat) ({ cls := "OnlyDifferences$Bounds", name := "waysToWeigh", desc := "([I[IIII)I" } : Jvm.MethodName) "OnlyDifferences") ∈ lw_nest := lw_n4 _ (List.mem_of_getElem? (i := 32) rfl) rfl
theorem nw854 : (Jvm.Cond.methodLinkNest "OnlyDifferences$Bounds" (102 : Nat) ({ cls := "OnlyDifferences", name := "lowestIn", desc := "(I)I" } : Jvm.MethodName) "OnlyDifferences") ∈ lw_nest := lw_n4 _ (List.mem_of_getElem? (i := 35) rfl) rfl
theorem nw941 : (Jvm.Cond.methodLinkNest "OnlyDifferences$Triangles" (42 : Nat) ({ cls := "OnlyDifferences", name := "isIn", desc := "(II)Z" } : Jvm.MethodName) "OnlyDifferences") ∈ lw_nest := lw_n4 _ (List.mem_of_getElem? (i := 122) rfl) rfl
section GN
variable {p : Program} {l : Launch} {e : Env} {R : Room} {s : State} {m : MethodId} {args : Array Value} {below : List Frame} {meth : Method} {c : Code} {cells slots : Nat} {Q : State → Prop} {cc : ByteArray} {pc nL : Nat} {D : va_G} {tys : List (ClassId × FieldType)} {ws : va_W} {A : Nat → Prop} {H0 : Heap} {lv : List (Nat × Value)} {st : List Value} {own : String}
theorem gN_get (X : CX p m c cc nL s args own D tys A H0) {ref C host : String} {T : u_T} {N ci index a : Nat} (q0 : Nat) {fs : List Value} (he : ws[q0]? = some (a, .inr (ci, fs))) (hc : vwCl[ci]? = some (C, T, N)) (hin : ∀ w ∈ u_ws C T N, w ∈ lw_U) (k : Nat) (hk : k < N) (hlink : Cond.fieldLinkNest own index ref (T k).2.1 (T k).2.2.1 host ∈ lw_nest) (href : ref = (T k).1) {v : Value} (hv : fs[k]? = some v) (hdg : decode cc pc = .ok (.getfield index, 3)) (kk : GG p l e R s m args below meth c cells slots Q D A H0 nL ws (pc + 3) lv (v :: st)) : GG p l e R s m args below meth c cells slots Q D A H0 nL ws pc lv (.ref a :: st) := fun H locs ls hP hD hS hl => va_getN (ref := ref) X.1.1 X.1.2.1 X.1.2.2.2.2 hin X.1.2.2.2.1 X.2.1 hP q0 he hc k hk (va_Nw.use rfl (X.2.2.2.1 _ hlink)) (fun x h => by rw [href]; exact h) hv hdg (kk H locs ls hP hD hS hl)
theorem gN_put (X : CX p m c cc nL s args own D tys A H0) {ref C host : String} {T : u_T} {N ci index a : Nat} (q0 : Nat) {fs : List Value} (he : ws[q0]? = some (a, .inr (ci, fs))) (hc : vwCl[ci]? = some (C, T, N)) (hin : ∀ w ∈ u_ws C T N, w ∈ lw_U) (ty0 : Nat → FieldType) (hty : ∀ k, k < N → parseFieldDescriptor (T k).2.2.1 = some (ty0 k)) (hnm : ∀ a, a < N → ∀ b, b < N → a ≠ b → (T a).2.1 ≠ (T b).2.1) (k : Nat) (hk : k < N) (hlink : Cond.fieldLinkNest own index ref (T k).2.1 (T k).2.2.1 host ∈ lw_nest) (href : ref = (T k).1) (hfin : (T k).2.2.2 = false) {v : Value} (hn : narrow (ty0 k) v = v) (hfit : fits (ty0 k) v = true) (hl0 : k < fs.length) (hdg : decode cc pc = .ok (.putfield index, 3)) {ws2 : va_W} (hws : ws.set q0 (a, .inr (ci, fs.set k v)) = ws2) (kk : GG p l e R s m args below meth c cells slots Q D A H0 nL ws2 (pc + 3) lv st) : GG p l e R s m args below meth c cells slots Q D A H0 nL ws pc lv (v :: .ref a :: st) := fun H locs ls hP hD hS hl => va_putN (ref := ref) X.1.1 X.1.2.1 X.1.2.2.2.2 hin ty0 hty hnm X.1.2.2.2.1 X.2.1 hP hD hS q0 he hc k hk (va_Nw.use rfl (X.2.2.2.1 _ hlink)) (fun x h => by rw [href]; exact h) hfin (hty k hk) hn hfit hl0 hdg (fun H locs hP hD hS => kk H locs ls (hws ▸ hP) (hws ▸ hD) hS hl)
theorem g_dup2 (X : CX p m c cc nL s args own D tys A H0) {x y : Value} (hx : x.category = 1) (hy : y.category = 1) (hdg : decode cc pc = .ok (.dup2, 1)) (kk : GG p l e R s m args below meth c cells slots Q D A H0 nL ws (pc + 1) lv (x :: y :: x :: y :: st)) : GG p l e R s m args below meth c cells slots Q D A H0 nL ws pc lv (x :: y :: st) := fun H locs ls hP hD hS hl => lv_dup2_11 X.1.1 X.1.2.1 hdg hx hy (kk H locs ls hP hD hS hl)
theorem g_null (X : CX p m c cc nL s args own D tys A H0) (hdg : decode cc pc = .ok (.aconst_null, 1)) (kk : GG p l e R s m args below meth c cells slots Q D A H0 nL ws (pc + 1) lv (.null :: st)) : GG p l e R s m args below meth c cells slots Q D A H0 nL ws pc lv st := fun H locs ls hP hD hS hl => lv_null X.1.1 X.1.2.1 hdg (kk H locs ls hP hD hS hl)
theorem g_look (X : CX p m c cc nL s args own D tys A H0) {dflt : Int} {ps : Array (Int × Int)} {len : Nat} {z off : Int} {tgt : Nat} (hdg : decode cc pc = .ok (.lookupswitch dflt ps, len)) (hp : (ps.toList.zip (ps.toList.drop 1)).all (fun (a, next) => a.1 < next.1) = true) (hz : IR z) (ho : Op.lookupswitch.offset ps.toList dflt z = off) (ht : (pc : Int) + off = (tgt : Int)) (kk : GG p l e R s m args below meth c cells slots Q D A H0 nL ws tgt lv st) : GG p l e R s m args below meth c cells slots Q D A H0 nL ws pc lv (vI z :: st) := fun H locs ls hP hD hS hl => lv_lookup X.1.1 X.1.2.1 hdg hp (by rw [zI_toInt hz]; exact ho) ht (kk H locs ls hP hD hS hl)
def z_lor (a b : Int) : Int := (zL a ||| zL b).toInt
theorem z_lor_e (a b : Int) : zL a ||| zL b = zL (z_lor a b) := (Int64.ofInt_toInt _).symm
def z_lshl (a b : Int) : Int := (zL a <<< ((zI b).toInt64 &&& 63)).toInt
def z_lushr (a b : Int) : Int := ((zL a).toUInt64 >>> ((zI b).toInt64.toUInt64 &&& Int64.toUInt64 63)).toInt64.toInt
def z_l2i (a : Int) : Int := (zL a).toInt32.toInt
theorem g_lor (X : CX p m c cc nL s args own D tys A H0) {a b : Int} (hdg : decode cc pc = .ok (.lor, 1)) (kk : GG p l e R s m args below meth c cells slots Q D A H0 nL ws (pc + 1) lv (vL (z_lor a b) :: st)) : GG p l e R s m args below meth c cells slots Q D A H0 nL ws pc lv (vL b :: vL a :: st) := fun H locs ls hP hD hS hl => lv_lor X.1.1 X.1.2.1 hdg (z_lor_e a b ▸ kk H locs ls hP hD hS hl)
theorem g_lshl (X : CX p m c cc nL s args own D tys A H0) {a b : Int} (hdg : decode cc pc = .ok (.lshl, 1)) (kk : GG p l e R s m args below meth c cells slots Q D A H0 nL ws (pc + 1) lv (vL (z_lshl a b) :: st)) : GG p l e R s m args below meth c cells slots Q D A H0 nL ws pc lv (vI b :: vL a :: st) := fun H locs ls hP hD hS hl => lv_lshl X.1.1 X.1.2.1 hdg (Int64.ofInt_toInt _).symm (kk H locs ls hP hD hS hl)
theorem g_lushr (X : CX p m c cc nL s args own D tys A H0) {a b : Int} (hdg : decode cc pc = .ok (.lushr, 1)) (kk : GG p l e R s m args below meth c cells slots Q D A H0 nL ws (pc + 1) lv (vL (z_lushr a b) :: st)) : GG p l e R s m args below meth c cells slots Q D A H0 nL ws pc lv (vI b :: vL a :: st) := fun H locs ls hP hD hS hl => lv_lushr X.1.1 X.1.2.1 hdg (Int64.ofInt_toInt _).symm (kk H locs ls hP hD hS hl)
theorem g_l2i (X : CX p m c cc nL s args own D tys A H0) {a : Int} (hdg : decode cc pc = .ok (.l2i, 1)) (kk : GG p l e R s m args below meth c cells slots Q D A H0 nL ws (pc + 1) lv (vI (z_l2i a) :: st)) : GG p l e R s m args below meth c cells slots Q D A H0 nL ws pc lv (vL a :: st) := fun H locs ls hP hD hS hl => lv_l2i X.1.1 X.1.2.1 hdg (Int32.ofInt_toInt _).symm (kk H locs ls hP hD hS hl)
def z_cpy (f g : Nat → Int) (sp dp n : Nat) : Nat → Int := fun k => if dp ≤ k ∧ k < dp + n then f (sp + (k - dp)) else g k
theorem zA_cpy {f g : Nat → Int} {sp dp n : Int} (h1 : 0 ≤ sp ∧ sp ≤ 2147483647) (h2 : 0 ≤ dp ∧ dp ≤ 2147483647) (h3 : 0 ≤ n ∧ n ≤ 2147483647) : va_cpy (zA f) (zA g) (zI sp).toNatClampNeg (zI dp).toNatClampNeg (zI n).toNatClampNeg = zA (z_cpy f g sp.toNat dp.toNat n.toNat) := by
  rw [zI_cl h1.1 h1.2, zI_cl h2.1 h2.2, zI_cl h3.1 h3.2]
  funext j
  unfold va_cpy zA z_cpy
  split <;> rfl
theorem z_nlt {a : Int} (h : 0 ≤ a ∧ a ≤ 2147483647) : ¬ zI a < 0 := fun q => by
  have h1 := (zI_lt (a := a) (b := 0) (by omega) (by omega)).mp q
  omega
theorem RA_cpy {lo hi : Int} {f g : Nat → Int} {sp dp n : Nat} (hf : RA lo hi f) (hg : RA lo hi g) : RA lo hi (z_cpy f g sp dp n) := by
  intro j
  unfold z_cpy
  split
  · exact hf _
  · exact hg j
theorem g_acopy (X : CX p m c cc nL s args own D tys A H0) {a0 a1 n0 n1 index : Nat} {cA : ClassId} {f g : Nat → Int} {sp dp n : Int} (q0 q1 : Nat) (he0 : ws[q0]? = some (a0, eI cA n0 f)) (he1 : ws[q1]? = some (a1, eI cA n1 g)) (ht : tys[0]? = some (cA, .int)) (hlk : Cond.methodLink own index arraycopyName ∈ lw_U) (hnat : Cond.native arraycopyName ∈ lw_U) (hst : Cond.static arraycopyName ∈ lw_U) (hini : Cond.initialized "java/lang/System" ∈ lw_U) (h1 : 0 ≤ sp ∧ sp ≤ 2147483647) (h2 : 0 ≤ dp ∧ dp ≤ 2147483647) (h3 : 0 ≤ n ∧ n ≤ 2147483647) (h4 : sp + n ≤ n0) (h5 : dp + n ≤ n1) (hR : 1 ≤ R.frames ∧ (st.map fun v => v.category).sum + 18 ≤ R.locals) (hdg : decode cc pc = .ok (.invokestatic index, 3)) (kk : ∀ f', f' = z_cpy f g sp.toNat dp.toNat n.toNat → GG p l e R s m args below meth c cells slots Q D A H0 nL (ws.set q1 (a1, eI cA n1 f')) (pc + 3) lv st) : GG p l e R s m args below meth c cells slots Q D A H0 nL ws pc lv (vI n :: vI dp :: .ref a1 :: vI sp :: .ref a0 :: st) := fun H locs ls hP hD hS hl => va_copyi X.1.1 X.1.2.1 (X.1.2.2.1.trans hl.1.symm) X.1.2.2.2.1 (X.1.2.2.2.2 _ hlk) (X.1.2.2.2.2 _ hnat) (X.1.2.2.2.2 _ hst) (X.1.2.2.2.2 _ hini) X.2.1 hP hD hS q0 q1 0 0 he0 he1 ht ht rfl (z_nlt h1) (z_nlt h2) (z_nlt h3) (by rw [zI_cl h1.1 h1.2, zI_cl h3.1 h3.2]; omega) (by rw [zI_cl h2.1 h2.2, zI_cl h3.1 h3.2]; omega) (fun i hi => rfl) hR.1 hR.2 hdg (fun H locs hP hD hS => by rw [zA_cpy h1 h2 h3] at hP hD; exact kk _ rfl H locs ls hP hD hS hl)
end GN
def CtR (l : Launch) (y : MethodName) (b : ByteArray) (nL : Nat) (ret : Option FieldType) (rm : Room) (D : va_G) (tys : List (ClassId × FieldType)) (ws : va_W) (av : List Value) (post : Nat → va_W → Prop) : Prop :=
  ∀ sz : Nat, Met l y (wU y b nL ret) rm (va_Pc av (PreZ D tys ws sz)) (va_Qr (fun (u : Nat × va_W) => post u.1 u.2) (fun u ra t => ra = u.1 ∧ BZ D tys (va_A ws sz) u.2 t) (va_A ws sz)) 0 0 (va_A ws sz)
theorem hdrR {l : Launch} {y : MethodName} {cc : ByteArray} {nL : Nat} {rm : Room} {D : va_G} {tys : List (ClassId × FieldType)} {ws : va_W} {av : List Value} {post : Nat → va_W → Prop} {own : String} (hown : y.cls = own) (hy : plainName y.cls = true) (hlen : (lg_sl av).length ≤ nL)
    (body : ∀ (p : Program) (e : Env) (s : State) (m : MethodId) (args : Array Value) (below : List Frame) (meth : Method) (c : Code) (Q : State → Prop) (A : Nat → Prop), CX p m c cc nL s args own D tys A s.heap → (∀ (z : Nat) (ws' : va_W) (pc : Nat) (lv : List (Nat × Value)), decode cc pc = .ok (.areturn, 1) → post z ws' → GG p l e rm s m args below meth c 0 0 Q D A s.heap nL ws' pc lv [.ref z]) → GG p l e rm s m args below meth c 0 0 Q D A s.heap nL ws 0 (lv_args 0 av) []) : CtR l y cc nL (some (.array .int)) rm D tys ws av post := by
  intro sz
  refine Met.ofW (cc := cc) (maxL := nL) (ret := some (.array .int)) hy rfl ?_
  intro p e s m args below meth c s₁ B hml hv
  obtain ⟨rfl, hsz, hP, hK, hD0, hN, hZ⟩ := hv
  subst hsz
  have hD := hD0.self (sz := s.heap.size)
  have hl := lv_entry av (n := nL) hlen
  rw [lg_entry_eq]
  exact body p e s m _ below meth c _ (va_A ws s.heap.size) ⟨⟨B.exec, B.bytes, hml, hown ▸ findClass_of_methodNamed B.named, fun w hw => atoms_spec (ws := wU y cc nL (some (.array .int))) B.pre w (List.mem_cons_of_mem _ hw)⟩, hK, fun q h => Or.inr h, hN, hZ⟩ (fun z ws' pc lv hd hp => fun H locs ls hP hD hS hl => W.aret (v := .ref z) (rt := .array .int) B.exec B.bytes B.returns (Or.inr ⟨_, rfl⟩) (Or.inr ⟨z, rfl⟩) (fun t ht hW => ⟨⟨(z, ws'), z, rfl, hp, rfl, by rw [ht]; exact hP, va_K.moved hW.alike hK, hD⟩, hS.F ht⟩) hS.2.2 hd B.notSynchronized) s.heap [] _ hP hD va_S.rf hl
theorem CalVN_w {C : String} {y : MethodName} {b : ByteArray} {nL : Nat} {ret : Option FieldType} {n : Nat} (h : CalV C y b nL ret n) {R : Room} {s : State} {args : Array Value} {own host : String} {index : Nat} {rm : Room} (ht : ∀ w ∈ lw_U, w.before args s = true) (hl : va_Nw (.methodLinkNest own index y host) s) (hrm : rm.cells = 0 ∧ rm.slots = 0 ∧ rm.frames + 1 ≤ R.frames ∧ 8 + (nL + 11) + rm.locals ≤ R.locals) : va_CN R s args own index y host b nL ret (wU y b nL ret) rm 0 0 n ∧ (Cond.instanceMethod y).before args s = true ∧ (Cond.selects C y y).before args s = true :=
  ⟨va_cnB n ht (lw_Uw h.1) rfl hrm.1 hrm.2.1 hl (by rw [h.2.2.2.2.1]; exact ht _ h.2.2.2.1) h.2.2.2.2.2 hrm.2.2, ht _ h.2.1, ht _ h.2.2.1⟩
theorem CalSN_w {y : MethodName} {b : ByteArray} {nL : Nat} {ret : Option FieldType} {n : Nat} (h : CalS y b nL ret n) {R : Room} {s : State} {args : Array Value} {own host : String} {index : Nat} {rm : Room} (ht : ∀ w ∈ lw_U, w.before args s = true) (hl : va_Nw (.methodLinkNest own index y host) s) (hrm : rm.cells = 0 ∧ rm.slots = 0 ∧ rm.frames + 1 ≤ R.frames ∧ 8 + (nL + 11) + rm.locals ≤ R.locals) : va_CN R s args own index y host b nL ret (wU y b nL ret) rm 0 0 n ∧ (Cond.static y).before args s = true ∧ True :=
  ⟨va_cnB n ht (lw_Uw h.1) rfl hrm.1 hrm.2.1 hl (ht _ h.2.2.1) h.2.2.2 hrm.2.2, ht _ h.2.1, trivial⟩
section GCC
variable {p : Program} {l : Launch} {e : Env} {R : Room} {s : State} {m : MethodId} {args : Array Value} {below : List Frame} {meth : Method} {c : Code} {cells slots : Nat} {Q : State → Prop} {cc : ByteArray} {pc nL : Nat} {D : va_G} {tys : List (ClassId × FieldType)} {ws : va_W} {A : Nat → Prop} {H0 : Heap} {lv : List (Nat × Value)} {st : List Value} {own : String}
variable {y : MethodName} {bytes : ByteArray} {maxL n index : Nat} {ret : Option FieldType} {rm : Room} {C : String} {b : Nat} {As st0 : List Value}
theorem g_callVNI0 (X : CX p m c cc nL s args own D tys A H0)  {post : Int → va_W → Prop} (hM : CtI l y bytes maxL ret rm D tys ws (.ref b :: As) post) (cv : CalV C y bytes maxL ret n) {host : String} (hlk : Cond.methodLinkNest own index y host ∈ lw_nest) (hrm : rm.cells = 0 ∧ rm.slots = 0 ∧ rm.frames + 1 ≤ R.frames ∧ 8 + (maxL + 11) + rm.locals ≤ R.locals) {ci : Nat} {r : vw_C} {fs : List Value} (q0 : Nat) (he : ws[q0]? = some (b, .inr (ci, fs))) (hc : vwCl[ci]? = some r) (hrC : r.1 = C) (hn : As.length = n) (hst0 : st0 = As.reverse ++ .ref b :: st) (hcat : (st.map fun v => v.category).sum ≤ 8) (hcs : cells ≤ R.cells ∧ slots ≤ R.slots) (hdg : decode cc pc = .ok (.invokevirtual index, 3)) (kk : ∀ (z : Int) (ws1 : va_W), post z ws1 → GG p l e R s m args below meth c cells slots Q D A H0 nL ws1 (pc + 3) lv (vI z :: st)) : GG p l e R s m args below meth c cells slots Q D A H0 nL ws pc lv st0 := by
  intro H locs ls hP hD hS hl
  subst hst0
  have hPc := hP
  have hDc := hD
  have hFc := va_freeA hD hS X.2.2.1
  refine va_calli (va_runVN (As := As) (rest := st) X.1 (hM H.size) (CalVN_w cv X.1.2.2.2.2 (X.2.2.2.1 _ hlk) hrm) ⟨fun a U g mk q => by obtain ⟨q0, q1, qP, qK, qD, qN, qZ⟩ := q; exact ⟨q0, q1, qP, va_K.moved (u := U) (U := U.calling g mk a) (Vm.Alike.refl U.vm) qK, qD, NK.same (u := U) (U := U.calling g mk a) rfl qN, SZ.same (u := U) (U := U.calling g mk a) rfl qZ⟩, hrC ▸ va_recv X.2.1 hPc hc he, fun U hU hW => ⟨rfl, by rw [hU], by rw [hU]; exact hPc, va_K.moved hW.alike X.2.1, hDc.weaken (fun _ _ _ _ => trivial), NK.warm hW X.2.2.2.1, by rw [hU]; exact SZ.call X.2.2.2.2 hS hFc hW⟩⟩ rfl hn hl.1 rfl (lv_room hcat) hdg hcs) hS (fun q _ h => hFc q h) hFc (fun r u t H1 locs ht hvm hw hB hz1 hk1 hS => ?_)
  obtain ⟨z, rfl, hz⟩ := hw
  obtain ⟨hP1, hK1, hD1⟩ := hB
  rw [ht] at hP1
  exact kk z u hz H1 locs ls hP1 (hD1.weaken fun _ _ _ h => hFc _ h) hS hl
theorem g_callVNL0 (X : CX p m c cc nL s args own D tys A H0)  {post : Int → va_W → Prop} (hM : CtL l y bytes maxL ret rm D tys ws (.ref b :: As) post) (cv : CalV C y bytes maxL ret n) {host : String} (hlk : Cond.methodLinkNest own index y host ∈ lw_nest) (hrm : rm.cells = 0 ∧ rm.slots = 0 ∧ rm.frames + 1 ≤ R.frames ∧ 8 + (maxL + 11) + rm.locals ≤ R.locals) {ci : Nat} {r : vw_C} {fs : List Value} (q0 : Nat) (he : ws[q0]? = some (b, .inr (ci, fs))) (hc : vwCl[ci]? = some r) (hrC : r.1 = C) (hn : As.length = n) (hst0 : st0 = As.reverse ++ .ref b :: st) (hcat : (st.map fun v => v.category).sum ≤ 8) (hcs : cells ≤ R.cells ∧ slots ≤ R.slots) (hdg : decode cc pc = .ok (.invokevirtual index, 3)) (kk : ∀ (z : Int) (ws1 : va_W), post z ws1 → GG p l e R s m args below meth c cells slots Q D A H0 nL ws1 (pc + 3) lv (vL z :: st)) : GG p l e R s m args below meth c cells slots Q D A H0 nL ws pc lv st0 := by
  intro H locs ls hP hD hS hl
  subst hst0
  have hPc := hP
  have hDc := hD
  have hFc := va_freeA hD hS X.2.2.1
  refine va_calll (va_runVN (As := As) (rest := st) X.1 (hM H.size) (CalVN_w cv X.1.2.2.2.2 (X.2.2.2.1 _ hlk) hrm) ⟨fun a U g mk q => by obtain ⟨q0, q1, qP, qK, qD, qN, qZ⟩ := q; exact ⟨q0, q1, qP, va_K.moved (u := U) (U := U.calling g mk a) (Vm.Alike.refl U.vm) qK, qD, NK.same (u := U) (U := U.calling g mk a) rfl qN, SZ.same (u := U) (U := U.calling g mk a) rfl qZ⟩, hrC ▸ va_recv X.2.1 hPc hc he, fun U hU hW => ⟨rfl, by rw [hU], by rw [hU]; exact hPc, va_K.moved hW.alike X.2.1, hDc.weaken (fun _ _ _ _ => trivial), NK.warm hW X.2.2.2.1, by rw [hU]; exact SZ.call X.2.2.2.2 hS hFc hW⟩⟩ rfl hn hl.1 rfl (lv_room hcat) hdg hcs) hS (fun q _ h => hFc q h) hFc (fun r u t H1 locs ht hvm hw hB hz1 hk1 hS => ?_)
  obtain ⟨z, rfl, hz⟩ := hw
  obtain ⟨hP1, hK1, hD1⟩ := hB
  rw [ht] at hP1
  exact kk z u hz H1 locs ls hP1 (hD1.weaken fun _ _ _ h => hFc _ h) hS hl
theorem g_callVR0 (X : CX p m c cc nL s args own D tys A H0)  {post : Nat → va_W → Prop} (hM : CtR l y bytes maxL ret rm D tys ws (.ref b :: As) post) (cv : CalV C y bytes maxL ret n) (hlk : Cond.methodLink own index y ∈ lw_U) (hrm : rm.cells = 0 ∧ rm.slots = 0 ∧ rm.frames + 1 ≤ R.frames ∧ 8 + (maxL + 11) + rm.locals ≤ R.locals) {ci : Nat} {r : vw_C} {fs : List Value} (q0 : Nat) (he : ws[q0]? = some (b, .inr (ci, fs))) (hc : vwCl[ci]? = some r) (hrC : r.1 = C) (hn : As.length = n) (hst0 : st0 = As.reverse ++ .ref b :: st) (hcat : (st.map fun v => v.category).sum ≤ 8) (hcs : cells ≤ R.cells ∧ slots ≤ R.slots) (hdg : decode cc pc = .ok (.invokevirtual index, 3)) (kk : ∀ (z : Nat) (ws1 : va_W), post z ws1 → GG p l e R s m args below meth c cells slots Q D A H0 nL ws1 (pc + 3) lv (.ref z :: st)) : GG p l e R s m args below meth c cells slots Q D A H0 nL ws pc lv st0 := by
  intro H locs ls hP hD hS hl
  subst hst0
  have hPc := hP
  have hDc := hD
  have hFc := va_freeA hD hS X.2.2.1
  refine va_callr (va_runV (As := As) (rest := st) X.1 (hM H.size) (CalV_w cv X.1.2.2.2.2 hlk hrm) ⟨fun a U g mk q => by obtain ⟨q0, q1, qP, qK, qD, qN, qZ⟩ := q; exact ⟨q0, q1, qP, va_K.moved (u := U) (U := U.calling g mk a) (Vm.Alike.refl U.vm) qK, qD, NK.same (u := U) (U := U.calling g mk a) rfl qN, SZ.same (u := U) (U := U.calling g mk a) rfl qZ⟩, hrC ▸ va_recv X.2.1 hPc hc he, fun U hU hW => ⟨rfl, by rw [hU], by rw [hU]; exact hPc, va_K.moved hW.alike X.2.1, hDc.weaken (fun _ _ _ _ => trivial), NK.warm hW X.2.2.2.1, by rw [hU]; exact SZ.call X.2.2.2.2 hS hFc hW⟩⟩ rfl hn hl.1 rfl (lv_room hcat) hdg hcs) hS (fun q _ h => hFc q h) hFc (fun u z t H1 locs ht hvm hw hB hz1 hk1 hS => ?_)
  obtain ⟨w0, u⟩ := u
  obtain ⟨rfl, hB⟩ := hB
  have hz := hw
  obtain ⟨hP1, hK1, hD1⟩ := hB
  rw [ht] at hP1
  exact kk z u hz H1 locs ls hP1 (hD1.weaken fun _ _ _ h => hFc _ h) hS hl
theorem g_callVNR0 (X : CX p m c cc nL s args own D tys A H0)  {post : Nat → va_W → Prop} (hM : CtR l y bytes maxL ret rm D tys ws (.ref b :: As) post) (cv : CalV C y bytes maxL ret n) {host : String} (hlk : Cond.methodLinkNest own index y host ∈ lw_nest) (hrm : rm.cells = 0 ∧ rm.slots = 0 ∧ rm.frames + 1 ≤ R.frames ∧ 8 + (maxL + 11) + rm.locals ≤ R.locals) {ci : Nat} {r : vw_C} {fs : List Value} (q0 : Nat) (he : ws[q0]? = some (b, .inr (ci, fs))) (hc : vwCl[ci]? = some r) (hrC : r.1 = C) (hn : As.length = n) (hst0 : st0 = As.reverse ++ .ref b :: st) (hcat : (st.map fun v => v.category).sum ≤ 8) (hcs : cells ≤ R.cells ∧ slots ≤ R.slots) (hdg : decode cc pc = .ok (.invokevirtual index, 3)) (kk : ∀ (z : Nat) (ws1 : va_W), post z ws1 → GG p l e R s m args below meth c cells slots Q D A H0 nL ws1 (pc + 3) lv (.ref z :: st)) : GG p l e R s m args below meth c cells slots Q D A H0 nL ws pc lv st0 := by
  intro H locs ls hP hD hS hl
  subst hst0
  have hPc := hP
  have hDc := hD
  have hFc := va_freeA hD hS X.2.2.1
  refine va_callr (va_runVN (As := As) (rest := st) X.1 (hM H.size) (CalVN_w cv X.1.2.2.2.2 (X.2.2.2.1 _ hlk) hrm) ⟨fun a U g mk q => by obtain ⟨q0, q1, qP, qK, qD, qN, qZ⟩ := q; exact ⟨q0, q1, qP, va_K.moved (u := U) (U := U.calling g mk a) (Vm.Alike.refl U.vm) qK, qD, NK.same (u := U) (U := U.calling g mk a) rfl qN, SZ.same (u := U) (U := U.calling g mk a) rfl qZ⟩, hrC ▸ va_recv X.2.1 hPc hc he, fun U hU hW => ⟨rfl, by rw [hU], by rw [hU]; exact hPc, va_K.moved hW.alike X.2.1, hDc.weaken (fun _ _ _ _ => trivial), NK.warm hW X.2.2.2.1, by rw [hU]; exact SZ.call X.2.2.2.2 hS hFc hW⟩⟩ rfl hn hl.1 rfl (lv_room hcat) hdg hcs) hS (fun q _ h => hFc q h) hFc (fun u z t H1 locs ht hvm hw hB hz1 hk1 hS => ?_)
  obtain ⟨w0, u⟩ := u
  obtain ⟨rfl, hB⟩ := hB
  have hz := hw
  obtain ⟨hP1, hK1, hD1⟩ := hB
  rw [ht] at hP1
  exact kk z u hz H1 locs ls hP1 (hD1.weaken fun _ _ _ h => hFc _ h) hS hl
theorem g_callVNV0 (X : CX p m c cc nL s args own D tys A H0)  {post : va_W → Prop} (hM : CtV l y bytes maxL ret rm D tys ws (.ref b :: As) post) (cv : CalV C y bytes maxL ret n) {host : String} (hlk : Cond.methodLinkNest own index y host ∈ lw_nest) (hrm : rm.cells = 0 ∧ rm.slots = 0 ∧ rm.frames + 1 ≤ R.frames ∧ 8 + (maxL + 11) + rm.locals ≤ R.locals) {ci : Nat} {r : vw_C} {fs : List Value} (q0 : Nat) (he : ws[q0]? = some (b, .inr (ci, fs))) (hc : vwCl[ci]? = some r) (hrC : r.1 = C) (hn : As.length = n) (hst0 : st0 = As.reverse ++ .ref b :: st) (hcat : (st.map fun v => v.category).sum ≤ 8) (hcs : cells ≤ R.cells ∧ slots ≤ R.slots) (hdg : decode cc pc = .ok (.invokevirtual index, 3)) (kk : ∀ (ws1 : va_W), post ws1 → GG p l e R s m args below meth c cells slots Q D A H0 nL ws1 (pc + 3) lv st) : GG p l e R s m args below meth c cells slots Q D A H0 nL ws pc lv st0 := by
  intro H locs ls hP hD hS hl
  subst hst0
  have hPc := hP
  have hDc := hD
  have hFc := va_freeA hD hS X.2.2.1
  refine va_callv (va_runVN (As := As) (rest := st) X.1 (hM H.size) (CalVN_w cv X.1.2.2.2.2 (X.2.2.2.1 _ hlk) hrm) ⟨fun a U g mk q => by obtain ⟨q0, q1, qP, qK, qD, qN, qZ⟩ := q; exact ⟨q0, q1, qP, va_K.moved (u := U) (U := U.calling g mk a) (Vm.Alike.refl U.vm) qK, qD, NK.same (u := U) (U := U.calling g mk a) rfl qN, SZ.same (u := U) (U := U.calling g mk a) rfl qZ⟩, hrC ▸ va_recv X.2.1 hPc hc he, fun U hU hW => ⟨rfl, by rw [hU], by rw [hU]; exact hPc, va_K.moved hW.alike X.2.1, hDc.weaken (fun _ _ _ _ => trivial), NK.warm hW X.2.2.2.1, by rw [hU]; exact SZ.call X.2.2.2.2 hS hFc hW⟩⟩ rfl hn hl.1 rfl (lv_room hcat) hdg hcs) hS (fun q _ h => hFc q h) hFc (fun u t H1 locs ht hvm hw hB hz1 hk1 hS => ?_)
  obtain ⟨hP1, hK1, hD1⟩ := hB
  rw [ht] at hP1
  exact kk u hw H1 locs ls hP1 (hD1.weaken fun _ _ _ h => hFc _ h) hS hl
theorem g_callSNI0 (X : CX p m c cc nL s args own D tys A H0)  {post : Int → va_W → Prop} (hM : CtI l y bytes maxL ret rm D tys ws As post) (cv : CalS y bytes maxL ret n) {host : String} (hlk : Cond.methodLinkNest own index y host ∈ lw_nest) (hrm : rm.cells = 0 ∧ rm.slots = 0 ∧ rm.frames + 1 ≤ R.frames ∧ 8 + (maxL + 11) + rm.locals ≤ R.locals)  (hn : As.length = n) (hst0 : st0 = As.reverse ++ st) (hcat : (st.map fun v => v.category).sum ≤ 8) (hcs : cells ≤ R.cells ∧ slots ≤ R.slots) (hdg : decode cc pc = .ok (.invokestatic index, 3)) (kk : ∀ (z : Int) (ws1 : va_W), post z ws1 → GG p l e R s m args below meth c cells slots Q D A H0 nL ws1 (pc + 3) lv (vI z :: st)) : GG p l e R s m args below meth c cells slots Q D A H0 nL ws pc lv st0 := by
  intro H locs ls hP hD hS hl
  subst hst0
  have hPc := hP
  have hDc := hD
  have hFc := va_freeA hD hS X.2.2.1
  refine va_calli (va_runSN (As := As) (rest := st) X.1 (hM H.size) (CalSN_w cv X.1.2.2.2.2 (X.2.2.2.1 _ hlk) hrm) ⟨fun a U g mk q => by obtain ⟨q0, q1, qP, qK, qD, qN, qZ⟩ := q; exact ⟨q0, q1, qP, va_K.moved (u := U) (U := U.calling g mk a) (Vm.Alike.refl U.vm) qK, qD, NK.same (u := U) (U := U.calling g mk a) rfl qN, SZ.same (u := U) (U := U.calling g mk a) rfl qZ⟩, fun U hU hW => ⟨rfl, by rw [hU], by rw [hU]; exact hPc, va_K.moved hW.alike X.2.1, hDc.weaken (fun _ _ _ _ => trivial), NK.warm hW X.2.2.2.1, by rw [hU]; exact SZ.call X.2.2.2.2 hS hFc hW⟩⟩ rfl hn hl.1 rfl (lv_room hcat) hdg hcs) hS (fun q _ h => hFc q h) hFc (fun r u t H1 locs ht hvm hw hB hz1 hk1 hS => ?_)
  obtain ⟨z, rfl, hz⟩ := hw
  obtain ⟨hP1, hK1, hD1⟩ := hB
  rw [ht] at hP1
  exact kk z u hz H1 locs ls hP1 (hD1.weaken fun _ _ _ h => hFc _ h) hS hl
theorem g_callSL0 (X : CX p m c cc nL s args own D tys A H0)  {post : Int → va_W → Prop} (hM : CtL l y bytes maxL ret rm D tys ws As post) (cv : CalS y bytes maxL ret n) (hlk : Cond.methodLink own index y ∈ lw_U) (hrm : rm.cells = 0 ∧ rm.slots = 0 ∧ rm.frames + 1 ≤ R.frames ∧ 8 + (maxL + 11) + rm.locals ≤ R.locals)  (hn : As.length = n) (hst0 : st0 = As.reverse ++ st) (hcat : (st.map fun v => v.category).sum ≤ 8) (hcs : cells ≤ R.cells ∧ slots ≤ R.slots) (hdg : decode cc pc = .ok (.invokestatic index, 3)) (kk : ∀ (z : Int) (ws1 : va_W), post z ws1 → GG p l e R s m args below meth c cells slots Q D A H0 nL ws1 (pc + 3) lv (vL z :: st)) : GG p l e R s m args below meth c cells slots Q D A H0 nL ws pc lv st0 := by
  intro H locs ls hP hD hS hl
  subst hst0
  have hPc := hP
  have hDc := hD
  have hFc := va_freeA hD hS X.2.2.1
  refine va_calll (va_runS (As := As) (rest := st) X.1 (hM H.size) (CalS_w cv X.1.2.2.2.2 hlk hrm) ⟨fun a U g mk q => by obtain ⟨q0, q1, qP, qK, qD, qN, qZ⟩ := q; exact ⟨q0, q1, qP, va_K.moved (u := U) (U := U.calling g mk a) (Vm.Alike.refl U.vm) qK, qD, NK.same (u := U) (U := U.calling g mk a) rfl qN, SZ.same (u := U) (U := U.calling g mk a) rfl qZ⟩, fun U hU hW => ⟨rfl, by rw [hU], by rw [hU]; exact hPc, va_K.moved hW.alike X.2.1, hDc.weaken (fun _ _ _ _ => trivial), NK.warm hW X.2.2.2.1, by rw [hU]; exact SZ.call X.2.2.2.2 hS hFc hW⟩⟩ rfl hn hl.1 rfl (lv_room hcat) hdg hcs) hS (fun q _ h => hFc q h) hFc (fun r u t H1 locs ht hvm hw hB hz1 hk1 hS => ?_)
  obtain ⟨z, rfl, hz⟩ := hw
  obtain ⟨hP1, hK1, hD1⟩ := hB
  rw [ht] at hP1
  exact kk z u hz H1 locs ls hP1 (hD1.weaken fun _ _ _ h => hFc _ h) hS hl
theorem g_callSNL0 (X : CX p m c cc nL s args own D tys A H0)  {post : Int → va_W → Prop} (hM : CtL l y bytes maxL ret rm D tys ws As post) (cv : CalS y bytes maxL ret n) {host : String} (hlk : Cond.methodLinkNest own index y host ∈ lw_nest) (hrm : rm.cells = 0 ∧ rm.slots = 0 ∧ rm.frames + 1 ≤ R.frames ∧ 8 + (maxL + 11) + rm.locals ≤ R.locals)  (hn : As.length = n) (hst0 : st0 = As.reverse ++ st) (hcat : (st.map fun v => v.category).sum ≤ 8) (hcs : cells ≤ R.cells ∧ slots ≤ R.slots) (hdg : decode cc pc = .ok (.invokestatic index, 3)) (kk : ∀ (z : Int) (ws1 : va_W), post z ws1 → GG p l e R s m args below meth c cells slots Q D A H0 nL ws1 (pc + 3) lv (vL z :: st)) : GG p l e R s m args below meth c cells slots Q D A H0 nL ws pc lv st0 := by
  intro H locs ls hP hD hS hl
  subst hst0
  have hPc := hP
  have hDc := hD
  have hFc := va_freeA hD hS X.2.2.1
  refine va_calll (va_runSN (As := As) (rest := st) X.1 (hM H.size) (CalSN_w cv X.1.2.2.2.2 (X.2.2.2.1 _ hlk) hrm) ⟨fun a U g mk q => by obtain ⟨q0, q1, qP, qK, qD, qN, qZ⟩ := q; exact ⟨q0, q1, qP, va_K.moved (u := U) (U := U.calling g mk a) (Vm.Alike.refl U.vm) qK, qD, NK.same (u := U) (U := U.calling g mk a) rfl qN, SZ.same (u := U) (U := U.calling g mk a) rfl qZ⟩, fun U hU hW => ⟨rfl, by rw [hU], by rw [hU]; exact hPc, va_K.moved hW.alike X.2.1, hDc.weaken (fun _ _ _ _ => trivial), NK.warm hW X.2.2.2.1, by rw [hU]; exact SZ.call X.2.2.2.2 hS hFc hW⟩⟩ rfl hn hl.1 rfl (lv_room hcat) hdg hcs) hS (fun q _ h => hFc q h) hFc (fun r u t H1 locs ht hvm hw hB hz1 hk1 hS => ?_)
  obtain ⟨z, rfl, hz⟩ := hw
  obtain ⟨hP1, hK1, hD1⟩ := hB
  rw [ht] at hP1
  exact kk z u hz H1 locs ls hP1 (hD1.weaken fun _ _ _ h => hFc _ h) hS hl
theorem g_callSR0 (X : CX p m c cc nL s args own D tys A H0)  {post : Nat → va_W → Prop} (hM : CtR l y bytes maxL ret rm D tys ws As post) (cv : CalS y bytes maxL ret n) (hlk : Cond.methodLink own index y ∈ lw_U) (hrm : rm.cells = 0 ∧ rm.slots = 0 ∧ rm.frames + 1 ≤ R.frames ∧ 8 + (maxL + 11) + rm.locals ≤ R.locals)  (hn : As.length = n) (hst0 : st0 = As.reverse ++ st) (hcat : (st.map fun v => v.category).sum ≤ 8) (hcs : cells ≤ R.cells ∧ slots ≤ R.slots) (hdg : decode cc pc = .ok (.invokestatic index, 3)) (kk : ∀ (z : Nat) (ws1 : va_W), post z ws1 → GG p l e R s m args below meth c cells slots Q D A H0 nL ws1 (pc + 3) lv (.ref z :: st)) : GG p l e R s m args below meth c cells slots Q D A H0 nL ws pc lv st0 := by
  intro H locs ls hP hD hS hl
  subst hst0
  have hPc := hP
  have hDc := hD
  have hFc := va_freeA hD hS X.2.2.1
  refine va_callr (va_runS (As := As) (rest := st) X.1 (hM H.size) (CalS_w cv X.1.2.2.2.2 hlk hrm) ⟨fun a U g mk q => by obtain ⟨q0, q1, qP, qK, qD, qN, qZ⟩ := q; exact ⟨q0, q1, qP, va_K.moved (u := U) (U := U.calling g mk a) (Vm.Alike.refl U.vm) qK, qD, NK.same (u := U) (U := U.calling g mk a) rfl qN, SZ.same (u := U) (U := U.calling g mk a) rfl qZ⟩, fun U hU hW => ⟨rfl, by rw [hU], by rw [hU]; exact hPc, va_K.moved hW.alike X.2.1, hDc.weaken (fun _ _ _ _ => trivial), NK.warm hW X.2.2.2.1, by rw [hU]; exact SZ.call X.2.2.2.2 hS hFc hW⟩⟩ rfl hn hl.1 rfl (lv_room hcat) hdg hcs) hS (fun q _ h => hFc q h) hFc (fun u z t H1 locs ht hvm hw hB hz1 hk1 hS => ?_)
  obtain ⟨w0, u⟩ := u
  obtain ⟨rfl, hB⟩ := hB
  have hz := hw
  obtain ⟨hP1, hK1, hD1⟩ := hB
  rw [ht] at hP1
  exact kk z u hz H1 locs ls hP1 (hD1.weaken fun _ _ _ h => hFc _ h) hS hl
theorem g_callSNR0 (X : CX p m c cc nL s args own D tys A H0)  {post : Nat → va_W → Prop} (hM : CtR l y bytes maxL ret rm D tys ws As post) (cv : CalS y bytes maxL ret n) {host : String} (hlk : Cond.methodLinkNest own index y host ∈ lw_nest) (hrm : rm.cells = 0 ∧ rm.slots = 0 ∧ rm.frames + 1 ≤ R.frames ∧ 8 + (maxL + 11) + rm.locals ≤ R.locals)  (hn : As.length = n) (hst0 : st0 = As.reverse ++ st) (hcat : (st.map fun v => v.category).sum ≤ 8) (hcs : cells ≤ R.cells ∧ slots ≤ R.slots) (hdg : decode cc pc = .ok (.invokestatic index, 3)) (kk : ∀ (z : Nat) (ws1 : va_W), post z ws1 → GG p l e R s m args below meth c cells slots Q D A H0 nL ws1 (pc + 3) lv (.ref z :: st)) : GG p l e R s m args below meth c cells slots Q D A H0 nL ws pc lv st0 := by
  intro H locs ls hP hD hS hl
  subst hst0
  have hPc := hP
  have hDc := hD
  have hFc := va_freeA hD hS X.2.2.1
  refine va_callr (va_runSN (As := As) (rest := st) X.1 (hM H.size) (CalSN_w cv X.1.2.2.2.2 (X.2.2.2.1 _ hlk) hrm) ⟨fun a U g mk q => by obtain ⟨q0, q1, qP, qK, qD, qN, qZ⟩ := q; exact ⟨q0, q1, qP, va_K.moved (u := U) (U := U.calling g mk a) (Vm.Alike.refl U.vm) qK, qD, NK.same (u := U) (U := U.calling g mk a) rfl qN, SZ.same (u := U) (U := U.calling g mk a) rfl qZ⟩, fun U hU hW => ⟨rfl, by rw [hU], by rw [hU]; exact hPc, va_K.moved hW.alike X.2.1, hDc.weaken (fun _ _ _ _ => trivial), NK.warm hW X.2.2.2.1, by rw [hU]; exact SZ.call X.2.2.2.2 hS hFc hW⟩⟩ rfl hn hl.1 rfl (lv_room hcat) hdg hcs) hS (fun q _ h => hFc q h) hFc (fun u z t H1 locs ht hvm hw hB hz1 hk1 hS => ?_)
  obtain ⟨w0, u⟩ := u
  obtain ⟨rfl, hB⟩ := hB
  have hz := hw
  obtain ⟨hP1, hK1, hD1⟩ := hB
  rw [ht] at hP1
  exact kk z u hz H1 locs ls hP1 (hD1.weaken fun _ _ _ h => hFc _ h) hS hl
theorem g_callSNV0 (X : CX p m c cc nL s args own D tys A H0)  {post : va_W → Prop} (hM : CtV l y bytes maxL ret rm D tys ws As post) (cv : CalS y bytes maxL ret n) {host : String} (hlk : Cond.methodLinkNest own index y host ∈ lw_nest) (hrm : rm.cells = 0 ∧ rm.slots = 0 ∧ rm.frames + 1 ≤ R.frames ∧ 8 + (maxL + 11) + rm.locals ≤ R.locals)  (hn : As.length = n) (hst0 : st0 = As.reverse ++ st) (hcat : (st.map fun v => v.category).sum ≤ 8) (hcs : cells ≤ R.cells ∧ slots ≤ R.slots) (hdg : decode cc pc = .ok (.invokestatic index, 3)) (kk : ∀ (ws1 : va_W), post ws1 → GG p l e R s m args below meth c cells slots Q D A H0 nL ws1 (pc + 3) lv st) : GG p l e R s m args below meth c cells slots Q D A H0 nL ws pc lv st0 := by
  intro H locs ls hP hD hS hl
  subst hst0
  have hPc := hP
  have hDc := hD
  have hFc := va_freeA hD hS X.2.2.1
  refine va_callv (va_runSN (As := As) (rest := st) X.1 (hM H.size) (CalSN_w cv X.1.2.2.2.2 (X.2.2.2.1 _ hlk) hrm) ⟨fun a U g mk q => by obtain ⟨q0, q1, qP, qK, qD, qN, qZ⟩ := q; exact ⟨q0, q1, qP, va_K.moved (u := U) (U := U.calling g mk a) (Vm.Alike.refl U.vm) qK, qD, NK.same (u := U) (U := U.calling g mk a) rfl qN, SZ.same (u := U) (U := U.calling g mk a) rfl qZ⟩, fun U hU hW => ⟨rfl, by rw [hU], by rw [hU]; exact hPc, va_K.moved hW.alike X.2.1, hDc.weaken (fun _ _ _ _ => trivial), NK.warm hW X.2.2.2.1, by rw [hU]; exact SZ.call X.2.2.2.2 hS hFc hW⟩⟩ rfl hn hl.1 rfl (lv_room hcat) hdg hcs) hS (fun q _ h => hFc q h) hFc (fun u t H1 locs ht hvm hw hB hz1 hk1 hS => ?_)
  obtain ⟨hP1, hK1, hD1⟩ := hB
  rw [ht] at hP1
  exact kk u hw H1 locs ls hP1 (hD1.weaken fun _ _ _ h => hFc _ h) hS hl
theorem g_callSNIE (X : CX p m c cc nL s args own D tys A H0) {post : Int → va_W → Prop} (hM : CtI l y bytes maxL ret rm D tys [] As post) (cv : CalS y bytes maxL ret n) {host : String} (hlk : Cond.methodLinkNest own index y host ∈ lw_nest) (hrm : rm.cells = 0 ∧ rm.slots = 0 ∧ rm.frames + 1 ≤ R.frames ∧ 8 + (maxL + 11) + rm.locals ≤ R.locals) (hn : As.length = n) (hst0 : st0 = As.reverse ++ st) (hcat : (st.map fun v => v.category).sum ≤ 8) (hcs : cells ≤ R.cells ∧ slots ≤ R.slots) (hdg : decode cc pc = .ok (.invokestatic index, 3)) (kk : ∀ (z : Int) (ws1 : va_W), post z ws1 → GG p l e R s m args below meth c cells slots Q D A H0 nL ws (pc + 3) lv (vI z :: st)) : GG p l e R s m args below meth c cells slots Q D A H0 nL ws pc lv st0 := by
  intro H locs ls hP hD hS hl
  subst hst0
  have hPc : va_P D vwCl [] H := fun k q h => by simp at h
  have hDc : va_D (fun _ => True) [] := ⟨fun i j p q h => by simp at h, fun k q h => by simp at h⟩
  have hN : ∀ q, va_A [] H.size q → H.size ≤ q := fun q h => h.elim (fun ⟨k, e, hk⟩ => by simp at hk) id
  have hFc : ∀ q, va_A [] H.size q → A q := fun q h => X.2.2.1 q (Nat.le_trans hS.1 (hN q h))
  refine va_calli (va_runSN (As := As) (rest := st) X.1 (hM H.size) (CalSN_w cv X.1.2.2.2.2 (X.2.2.2.1 _ hlk) hrm) ⟨fun a U g mk q => by obtain ⟨q0, q1, qP, qK, qD, qN, qZ⟩ := q; exact ⟨q0, q1, qP, va_K.moved (u := U) (U := U.calling g mk a) (Vm.Alike.refl U.vm) qK, qD, NK.same (u := U) (U := U.calling g mk a) rfl qN, SZ.same (u := U) (U := U.calling g mk a) rfl qZ⟩, fun U hU hW => ⟨rfl, by rw [hU], by rw [hU]; exact hPc, va_K.moved hW.alike X.2.1, hDc, NK.warm hW X.2.2.2.1, by rw [hU]; exact SZ.call X.2.2.2.2 hS hFc hW⟩⟩ rfl hn hl.1 rfl (lv_room hcat) hdg hcs) hS (fun q _ h => hFc q h) hFc (fun r u t H1 locs ht hvm hw hB hz1 hk1 hS => ?_)
  obtain ⟨z, rfl, hz⟩ := hw
  exact kk z u hz H1 locs ls (hP.kept fun k q hk => hk1 q.1 (hP k q hk).lt (fun h => absurd (hN _ h) (Nat.not_le.mpr (hP k q hk).lt))) hD hS hl
theorem g_callSLE (X : CX p m c cc nL s args own D tys A H0) {post : Int → va_W → Prop} (hM : CtL l y bytes maxL ret rm D tys [] As post) (cv : CalS y bytes maxL ret n) (hlk : Cond.methodLink own index y ∈ lw_U) (hrm : rm.cells = 0 ∧ rm.slots = 0 ∧ rm.frames + 1 ≤ R.frames ∧ 8 + (maxL + 11) + rm.locals ≤ R.locals) (hn : As.length = n) (hst0 : st0 = As.reverse ++ st) (hcat : (st.map fun v => v.category).sum ≤ 8) (hcs : cells ≤ R.cells ∧ slots ≤ R.slots) (hdg : decode cc pc = .ok (.invokestatic index, 3)) (kk : ∀ (z : Int) (ws1 : va_W), post z ws1 → GG p l e R s m args below meth c cells slots Q D A H0 nL ws (pc + 3) lv (vL z :: st)) : GG p l e R s m args below meth c cells slots Q D A H0 nL ws pc lv st0 := by
  intro H locs ls hP hD hS hl
  subst hst0
  have hPc : va_P D vwCl [] H := fun k q h => by simp at h
  have hDc : va_D (fun _ => True) [] := ⟨fun i j p q h => by simp at h, fun k q h => by simp at h⟩
  have hN : ∀ q, va_A [] H.size q → H.size ≤ q := fun q h => h.elim (fun ⟨k, e, hk⟩ => by simp at hk) id
  have hFc : ∀ q, va_A [] H.size q → A q := fun q h => X.2.2.1 q (Nat.le_trans hS.1 (hN q h))
  refine va_calll (va_runS (As := As) (rest := st) X.1 (hM H.size) (CalS_w cv X.1.2.2.2.2 hlk hrm) ⟨fun a U g mk q => by obtain ⟨q0, q1, qP, qK, qD, qN, qZ⟩ := q; exact ⟨q0, q1, qP, va_K.moved (u := U) (U := U.calling g mk a) (Vm.Alike.refl U.vm) qK, qD, NK.same (u := U) (U := U.calling g mk a) rfl qN, SZ.same (u := U) (U := U.calling g mk a) rfl qZ⟩, fun U hU hW => ⟨rfl, by rw [hU], by rw [hU]; exact hPc, va_K.moved hW.alike X.2.1, hDc, NK.warm hW X.2.2.2.1, by rw [hU]; exact SZ.call X.2.2.2.2 hS hFc hW⟩⟩ rfl hn hl.1 rfl (lv_room hcat) hdg hcs) hS (fun q _ h => hFc q h) hFc (fun r u t H1 locs ht hvm hw hB hz1 hk1 hS => ?_)
  obtain ⟨z, rfl, hz⟩ := hw
  exact kk z u hz H1 locs ls (hP.kept fun k q hk => hk1 q.1 (hP k q hk).lt (fun h => absurd (hN _ h) (Nat.not_le.mpr (hP k q hk).lt))) hD hS hl
theorem g_callSNLE (X : CX p m c cc nL s args own D tys A H0) {post : Int → va_W → Prop} (hM : CtL l y bytes maxL ret rm D tys [] As post) (cv : CalS y bytes maxL ret n) {host : String} (hlk : Cond.methodLinkNest own index y host ∈ lw_nest) (hrm : rm.cells = 0 ∧ rm.slots = 0 ∧ rm.frames + 1 ≤ R.frames ∧ 8 + (maxL + 11) + rm.locals ≤ R.locals) (hn : As.length = n) (hst0 : st0 = As.reverse ++ st) (hcat : (st.map fun v => v.category).sum ≤ 8) (hcs : cells ≤ R.cells ∧ slots ≤ R.slots) (hdg : decode cc pc = .ok (.invokestatic index, 3)) (kk : ∀ (z : Int) (ws1 : va_W), post z ws1 → GG p l e R s m args below meth c cells slots Q D A H0 nL ws (pc + 3) lv (vL z :: st)) : GG p l e R s m args below meth c cells slots Q D A H0 nL ws pc lv st0 := by
  intro H locs ls hP hD hS hl
  subst hst0
  have hPc : va_P D vwCl [] H := fun k q h => by simp at h
  have hDc : va_D (fun _ => True) [] := ⟨fun i j p q h => by simp at h, fun k q h => by simp at h⟩
  have hN : ∀ q, va_A [] H.size q → H.size ≤ q := fun q h => h.elim (fun ⟨k, e, hk⟩ => by simp at hk) id
  have hFc : ∀ q, va_A [] H.size q → A q := fun q h => X.2.2.1 q (Nat.le_trans hS.1 (hN q h))
  refine va_calll (va_runSN (As := As) (rest := st) X.1 (hM H.size) (CalSN_w cv X.1.2.2.2.2 (X.2.2.2.1 _ hlk) hrm) ⟨fun a U g mk q => by obtain ⟨q0, q1, qP, qK, qD, qN, qZ⟩ := q; exact ⟨q0, q1, qP, va_K.moved (u := U) (U := U.calling g mk a) (Vm.Alike.refl U.vm) qK, qD, NK.same (u := U) (U := U.calling g mk a) rfl qN, SZ.same (u := U) (U := U.calling g mk a) rfl qZ⟩, fun U hU hW => ⟨rfl, by rw [hU], by rw [hU]; exact hPc, va_K.moved hW.alike X.2.1, hDc, NK.warm hW X.2.2.2.1, by rw [hU]; exact SZ.call X.2.2.2.2 hS hFc hW⟩⟩ rfl hn hl.1 rfl (lv_room hcat) hdg hcs) hS (fun q _ h => hFc q h) hFc (fun r u t H1 locs ht hvm hw hB hz1 hk1 hS => ?_)
  obtain ⟨z, rfl, hz⟩ := hw
  exact kk z u hz H1 locs ls (hP.kept fun k q hk => hk1 q.1 (hP k q hk).lt (fun h => absurd (hN _ h) (Nat.not_le.mpr (hP k q hk).lt))) hD hS hl
theorem g_callSRE (X : CX p m c cc nL s args own D tys A H0) {post : Nat → va_W → Prop} (hM : CtR l y bytes maxL ret rm D tys [] As post) (cv : CalS y bytes maxL ret n) (hlk : Cond.methodLink own index y ∈ lw_U) (hrm : rm.cells = 0 ∧ rm.slots = 0 ∧ rm.frames + 1 ≤ R.frames ∧ 8 + (maxL + 11) + rm.locals ≤ R.locals) (hn : As.length = n) (hst0 : st0 = As.reverse ++ st) (hcat : (st.map fun v => v.category).sum ≤ 8) (hcs : cells ≤ R.cells ∧ slots ≤ R.slots) (hdg : decode cc pc = .ok (.invokestatic index, 3)) (kk : ∀ (z : Nat) (ws1 : va_W), post z ws1 → GG p l e R s m args below meth c cells slots Q D A H0 nL ws (pc + 3) lv (.ref z :: st)) : GG p l e R s m args below meth c cells slots Q D A H0 nL ws pc lv st0 := by
  intro H locs ls hP hD hS hl
  subst hst0
  have hPc : va_P D vwCl [] H := fun k q h => by simp at h
  have hDc : va_D (fun _ => True) [] := ⟨fun i j p q h => by simp at h, fun k q h => by simp at h⟩
  have hN : ∀ q, va_A [] H.size q → H.size ≤ q := fun q h => h.elim (fun ⟨k, e, hk⟩ => by simp at hk) id
  have hFc : ∀ q, va_A [] H.size q → A q := fun q h => X.2.2.1 q (Nat.le_trans hS.1 (hN q h))
  refine va_callr (va_runS (As := As) (rest := st) X.1 (hM H.size) (CalS_w cv X.1.2.2.2.2 hlk hrm) ⟨fun a U g mk q => by obtain ⟨q0, q1, qP, qK, qD, qN, qZ⟩ := q; exact ⟨q0, q1, qP, va_K.moved (u := U) (U := U.calling g mk a) (Vm.Alike.refl U.vm) qK, qD, NK.same (u := U) (U := U.calling g mk a) rfl qN, SZ.same (u := U) (U := U.calling g mk a) rfl qZ⟩, fun U hU hW => ⟨rfl, by rw [hU], by rw [hU]; exact hPc, va_K.moved hW.alike X.2.1, hDc, NK.warm hW X.2.2.2.1, by rw [hU]; exact SZ.call X.2.2.2.2 hS hFc hW⟩⟩ rfl hn hl.1 rfl (lv_room hcat) hdg hcs) hS (fun q _ h => hFc q h) hFc (fun u z t H1 locs ht hvm hw hB hz1 hk1 hS => ?_)
  obtain ⟨w0, u⟩ := u
  obtain ⟨rfl, hB⟩ := hB
  have hz := hw
  exact kk z u hz H1 locs ls (hP.kept fun k q hk => hk1 q.1 (hP k q hk).lt (fun h => absurd (hN _ h) (Nat.not_le.mpr (hP k q hk).lt))) hD hS hl
theorem g_callSNRE (X : CX p m c cc nL s args own D tys A H0) {post : Nat → va_W → Prop} (hM : CtR l y bytes maxL ret rm D tys [] As post) (cv : CalS y bytes maxL ret n) {host : String} (hlk : Cond.methodLinkNest own index y host ∈ lw_nest) (hrm : rm.cells = 0 ∧ rm.slots = 0 ∧ rm.frames + 1 ≤ R.frames ∧ 8 + (maxL + 11) + rm.locals ≤ R.locals) (hn : As.length = n) (hst0 : st0 = As.reverse ++ st) (hcat : (st.map fun v => v.category).sum ≤ 8) (hcs : cells ≤ R.cells ∧ slots ≤ R.slots) (hdg : decode cc pc = .ok (.invokestatic index, 3)) (kk : ∀ (z : Nat) (ws1 : va_W), post z ws1 → GG p l e R s m args below meth c cells slots Q D A H0 nL ws (pc + 3) lv (.ref z :: st)) : GG p l e R s m args below meth c cells slots Q D A H0 nL ws pc lv st0 := by
  intro H locs ls hP hD hS hl
  subst hst0
  have hPc : va_P D vwCl [] H := fun k q h => by simp at h
  have hDc : va_D (fun _ => True) [] := ⟨fun i j p q h => by simp at h, fun k q h => by simp at h⟩
  have hN : ∀ q, va_A [] H.size q → H.size ≤ q := fun q h => h.elim (fun ⟨k, e, hk⟩ => by simp at hk) id
  have hFc : ∀ q, va_A [] H.size q → A q := fun q h => X.2.2.1 q (Nat.le_trans hS.1 (hN q h))
  refine va_callr (va_runSN (As := As) (rest := st) X.1 (hM H.size) (CalSN_w cv X.1.2.2.2.2 (X.2.2.2.1 _ hlk) hrm) ⟨fun a U g mk q => by obtain ⟨q0, q1, qP, qK, qD, qN, qZ⟩ := q; exact ⟨q0, q1, qP, va_K.moved (u := U) (U := U.calling g mk a) (Vm.Alike.refl U.vm) qK, qD, NK.same (u := U) (U := U.calling g mk a) rfl qN, SZ.same (u := U) (U := U.calling g mk a) rfl qZ⟩, fun U hU hW => ⟨rfl, by rw [hU], by rw [hU]; exact hPc, va_K.moved hW.alike X.2.1, hDc, NK.warm hW X.2.2.2.1, by rw [hU]; exact SZ.call X.2.2.2.2 hS hFc hW⟩⟩ rfl hn hl.1 rfl (lv_room hcat) hdg hcs) hS (fun q _ h => hFc q h) hFc (fun u z t H1 locs ht hvm hw hB hz1 hk1 hS => ?_)
  obtain ⟨w0, u⟩ := u
  obtain ⟨rfl, hB⟩ := hB
  have hz := hw
  exact kk z u hz H1 locs ls (hP.kept fun k q hk => hk1 q.1 (hP k q hk).lt (fun h => absurd (hN _ h) (Nat.not_le.mpr (hP k q hk).lt))) hD hS hl
theorem g_callSNVE (X : CX p m c cc nL s args own D tys A H0) {post : va_W → Prop} (hM : CtV l y bytes maxL ret rm D tys [] As post) (cv : CalS y bytes maxL ret n) {host : String} (hlk : Cond.methodLinkNest own index y host ∈ lw_nest) (hrm : rm.cells = 0 ∧ rm.slots = 0 ∧ rm.frames + 1 ≤ R.frames ∧ 8 + (maxL + 11) + rm.locals ≤ R.locals) (hn : As.length = n) (hst0 : st0 = As.reverse ++ st) (hcat : (st.map fun v => v.category).sum ≤ 8) (hcs : cells ≤ R.cells ∧ slots ≤ R.slots) (hdg : decode cc pc = .ok (.invokestatic index, 3)) (kk : ∀ (ws1 : va_W), post ws1 → GG p l e R s m args below meth c cells slots Q D A H0 nL ws (pc + 3) lv st) : GG p l e R s m args below meth c cells slots Q D A H0 nL ws pc lv st0 := by
  intro H locs ls hP hD hS hl
  subst hst0
  have hPc : va_P D vwCl [] H := fun k q h => by simp at h
  have hDc : va_D (fun _ => True) [] := ⟨fun i j p q h => by simp at h, fun k q h => by simp at h⟩
  have hN : ∀ q, va_A [] H.size q → H.size ≤ q := fun q h => h.elim (fun ⟨k, e, hk⟩ => by simp at hk) id
  have hFc : ∀ q, va_A [] H.size q → A q := fun q h => X.2.2.1 q (Nat.le_trans hS.1 (hN q h))
  refine va_callv (va_runSN (As := As) (rest := st) X.1 (hM H.size) (CalSN_w cv X.1.2.2.2.2 (X.2.2.2.1 _ hlk) hrm) ⟨fun a U g mk q => by obtain ⟨q0, q1, qP, qK, qD, qN, qZ⟩ := q; exact ⟨q0, q1, qP, va_K.moved (u := U) (U := U.calling g mk a) (Vm.Alike.refl U.vm) qK, qD, NK.same (u := U) (U := U.calling g mk a) rfl qN, SZ.same (u := U) (U := U.calling g mk a) rfl qZ⟩, fun U hU hW => ⟨rfl, by rw [hU], by rw [hU]; exact hPc, va_K.moved hW.alike X.2.1, hDc, NK.warm hW X.2.2.2.1, by rw [hU]; exact SZ.call X.2.2.2.2 hS hFc hW⟩⟩ rfl hn hl.1 rfl (lv_room hcat) hdg hcs) hS (fun q _ h => hFc q h) hFc (fun u t H1 locs ht hvm hw hB hz1 hk1 hS => ?_)
  exact kk u hw H1 locs ls (hP.kept fun k q hk => hk1 q.1 (hP k q hk).lt (fun h => absurd (hN _ h) (Nat.not_le.mpr (hP k q hk).lt))) hD hS hl
theorem g_callVNIw (X : CX p m c cc nL s args own D tys A H0) {wc : va_W} {post : Int → va_W → Prop} (hM : CtI l y bytes maxL ret rm D tys wc (.ref b :: As) post) (isC : List Nat) (hC : isC.map (fun i => ws[i]?) = wc.map some) (hC2 : isC.filterMap (fun i => ws[i]?) = wc) (hnC : va_nd isC = true) (cv : CalV C y bytes maxL ret n) {host : String} (hlk : Cond.methodLinkNest own index y host ∈ lw_nest) (hrm : rm.cells = 0 ∧ rm.slots = 0 ∧ rm.frames + 1 ≤ R.frames ∧ 8 + (maxL + 11) + rm.locals ≤ R.locals) {ci : Nat} {r : vw_C} {fs : List Value} (q0 : Nat) (he : wc[q0]? = some (b, .inr (ci, fs))) (hc : vwCl[ci]? = some r) (hrC : r.1 = C) (hn : As.length = n) (hst0 : st0 = As.reverse ++ .ref b :: st) (hcat : (st.map fun v => v.category).sum ≤ 8) (hcs : cells ≤ R.cells ∧ slots ≤ R.slots) (hdg : decode cc pc = .ok (.invokevirtual index, 3)) (kk : ∀ (z : Int) (ws1 : va_W), post z ws1 → ws1.map (·.1) = wc.map (·.1) ∧ GG p l e R s m args below meth c cells slots Q D A H0 nL (setW 0 (isC.zip ws1) ws) (pc + 3) lv (vI z :: st)) : GG p l e R s m args below meth c cells slots Q D A H0 nL ws pc lv st0 := by
  intro H locs ls hP hD hS hl
  subst hst0
  have hPc := hP.sub (ws' := wc) isC hC2
  have hDc := hD.sub (ws' := wc) isC hnC hC
  have hFc := va_free (wc := wc) hD hS X.2.2.1 isC hC
  refine va_calli (va_runVN (As := As) (rest := st) X.1 (hM H.size) (CalVN_w cv X.1.2.2.2.2 (X.2.2.2.1 _ hlk) hrm) ⟨fun a U g mk q => by obtain ⟨q0, q1, qP, qK, qD, qN, qZ⟩ := q; exact ⟨q0, q1, qP, va_K.moved (u := U) (U := U.calling g mk a) (Vm.Alike.refl U.vm) qK, qD, NK.same (u := U) (U := U.calling g mk a) rfl qN, SZ.same (u := U) (U := U.calling g mk a) rfl qZ⟩, hrC ▸ va_recv X.2.1 hPc hc he, fun U hU hW => ⟨rfl, by rw [hU], by rw [hU]; exact hPc, va_K.moved hW.alike X.2.1, hDc.weaken (fun _ _ _ _ => trivial), NK.warm hW X.2.2.2.1, by rw [hU]; exact SZ.call X.2.2.2.2 hS hFc hW⟩⟩ rfl hn hl.1 rfl (lv_room hcat) hdg hcs) hS (fun q _ h => hFc q h) hFc (fun r u t H1 locs ht hvm hw hB hz1 hk1 hS => ?_)
  obtain ⟨z, rfl, hz⟩ := hw
  obtain ⟨hP1, hK1, hD1⟩ := hB
  rw [ht] at hP1
  obtain ⟨hadr, kk2⟩ := kk z u hz
  obtain ⟨hP2, hD2⟩ := va_setW hP hD isC hC hadr hk1 hP1
  exact kk2 H1 locs ls hP2 hD2 hS hl
theorem g_callVLw (X : CX p m c cc nL s args own D tys A H0) {wc : va_W} {post : Int → va_W → Prop} (hM : CtL l y bytes maxL ret rm D tys wc (.ref b :: As) post) (isC : List Nat) (hC : isC.map (fun i => ws[i]?) = wc.map some) (hC2 : isC.filterMap (fun i => ws[i]?) = wc) (hnC : va_nd isC = true) (cv : CalV C y bytes maxL ret n) (hlk : Cond.methodLink own index y ∈ lw_U) (hrm : rm.cells = 0 ∧ rm.slots = 0 ∧ rm.frames + 1 ≤ R.frames ∧ 8 + (maxL + 11) + rm.locals ≤ R.locals) {ci : Nat} {r : vw_C} {fs : List Value} (q0 : Nat) (he : wc[q0]? = some (b, .inr (ci, fs))) (hc : vwCl[ci]? = some r) (hrC : r.1 = C) (hn : As.length = n) (hst0 : st0 = As.reverse ++ .ref b :: st) (hcat : (st.map fun v => v.category).sum ≤ 8) (hcs : cells ≤ R.cells ∧ slots ≤ R.slots) (hdg : decode cc pc = .ok (.invokevirtual index, 3)) (kk : ∀ (z : Int) (ws1 : va_W), post z ws1 → ws1.map (·.1) = wc.map (·.1) ∧ GG p l e R s m args below meth c cells slots Q D A H0 nL (setW 0 (isC.zip ws1) ws) (pc + 3) lv (vL z :: st)) : GG p l e R s m args below meth c cells slots Q D A H0 nL ws pc lv st0 := by
  intro H locs ls hP hD hS hl
  subst hst0
  have hPc := hP.sub (ws' := wc) isC hC2
  have hDc := hD.sub (ws' := wc) isC hnC hC
  have hFc := va_free (wc := wc) hD hS X.2.2.1 isC hC
  refine va_calll (va_runV (As := As) (rest := st) X.1 (hM H.size) (CalV_w cv X.1.2.2.2.2 hlk hrm) ⟨fun a U g mk q => by obtain ⟨q0, q1, qP, qK, qD, qN, qZ⟩ := q; exact ⟨q0, q1, qP, va_K.moved (u := U) (U := U.calling g mk a) (Vm.Alike.refl U.vm) qK, qD, NK.same (u := U) (U := U.calling g mk a) rfl qN, SZ.same (u := U) (U := U.calling g mk a) rfl qZ⟩, hrC ▸ va_recv X.2.1 hPc hc he, fun U hU hW => ⟨rfl, by rw [hU], by rw [hU]; exact hPc, va_K.moved hW.alike X.2.1, hDc.weaken (fun _ _ _ _ => trivial), NK.warm hW X.2.2.2.1, by rw [hU]; exact SZ.call X.2.2.2.2 hS hFc hW⟩⟩ rfl hn hl.1 rfl (lv_room hcat) hdg hcs) hS (fun q _ h => hFc q h) hFc (fun r u t H1 locs ht hvm hw hB hz1 hk1 hS => ?_)
  obtain ⟨z, rfl, hz⟩ := hw
  obtain ⟨hP1, hK1, hD1⟩ := hB
  rw [ht] at hP1
  obtain ⟨hadr, kk2⟩ := kk z u hz
  obtain ⟨hP2, hD2⟩ := va_setW hP hD isC hC hadr hk1 hP1
  exact kk2 H1 locs ls hP2 hD2 hS hl
theorem g_callVNLw (X : CX p m c cc nL s args own D tys A H0) {wc : va_W} {post : Int → va_W → Prop} (hM : CtL l y bytes maxL ret rm D tys wc (.ref b :: As) post) (isC : List Nat) (hC : isC.map (fun i => ws[i]?) = wc.map some) (hC2 : isC.filterMap (fun i => ws[i]?) = wc) (hnC : va_nd isC = true) (cv : CalV C y bytes maxL ret n) {host : String} (hlk : Cond.methodLinkNest own index y host ∈ lw_nest) (hrm : rm.cells = 0 ∧ rm.slots = 0 ∧ rm.frames + 1 ≤ R.frames ∧ 8 + (maxL + 11) + rm.locals ≤ R.locals) {ci : Nat} {r : vw_C} {fs : List Value} (q0 : Nat) (he : wc[q0]? = some (b, .inr (ci, fs))) (hc : vwCl[ci]? = some r) (hrC : r.1 = C) (hn : As.length = n) (hst0 : st0 = As.reverse ++ .ref b :: st) (hcat : (st.map fun v => v.category).sum ≤ 8) (hcs : cells ≤ R.cells ∧ slots ≤ R.slots) (hdg : decode cc pc = .ok (.invokevirtual index, 3)) (kk : ∀ (z : Int) (ws1 : va_W), post z ws1 → ws1.map (·.1) = wc.map (·.1) ∧ GG p l e R s m args below meth c cells slots Q D A H0 nL (setW 0 (isC.zip ws1) ws) (pc + 3) lv (vL z :: st)) : GG p l e R s m args below meth c cells slots Q D A H0 nL ws pc lv st0 := by
  intro H locs ls hP hD hS hl
  subst hst0
  have hPc := hP.sub (ws' := wc) isC hC2
  have hDc := hD.sub (ws' := wc) isC hnC hC
  have hFc := va_free (wc := wc) hD hS X.2.2.1 isC hC
  refine va_calll (va_runVN (As := As) (rest := st) X.1 (hM H.size) (CalVN_w cv X.1.2.2.2.2 (X.2.2.2.1 _ hlk) hrm) ⟨fun a U g mk q => by obtain ⟨q0, q1, qP, qK, qD, qN, qZ⟩ := q; exact ⟨q0, q1, qP, va_K.moved (u := U) (U := U.calling g mk a) (Vm.Alike.refl U.vm) qK, qD, NK.same (u := U) (U := U.calling g mk a) rfl qN, SZ.same (u := U) (U := U.calling g mk a) rfl qZ⟩, hrC ▸ va_recv X.2.1 hPc hc he, fun U hU hW => ⟨rfl, by rw [hU], by rw [hU]; exact hPc, va_K.moved hW.alike X.2.1, hDc.weaken (fun _ _ _ _ => trivial), NK.warm hW X.2.2.2.1, by rw [hU]; exact SZ.call X.2.2.2.2 hS hFc hW⟩⟩ rfl hn hl.1 rfl (lv_room hcat) hdg hcs) hS (fun q _ h => hFc q h) hFc (fun r u t H1 locs ht hvm hw hB hz1 hk1 hS => ?_)
  obtain ⟨z, rfl, hz⟩ := hw
  obtain ⟨hP1, hK1, hD1⟩ := hB
  rw [ht] at hP1
  obtain ⟨hadr, kk2⟩ := kk z u hz
  obtain ⟨hP2, hD2⟩ := va_setW hP hD isC hC hadr hk1 hP1
  exact kk2 H1 locs ls hP2 hD2 hS hl
theorem g_callVRw (X : CX p m c cc nL s args own D tys A H0) {wc : va_W} {post : Nat → va_W → Prop} (hM : CtR l y bytes maxL ret rm D tys wc (.ref b :: As) post) (isC : List Nat) (hC : isC.map (fun i => ws[i]?) = wc.map some) (hC2 : isC.filterMap (fun i => ws[i]?) = wc) (hnC : va_nd isC = true) (cv : CalV C y bytes maxL ret n) (hlk : Cond.methodLink own index y ∈ lw_U) (hrm : rm.cells = 0 ∧ rm.slots = 0 ∧ rm.frames + 1 ≤ R.frames ∧ 8 + (maxL + 11) + rm.locals ≤ R.locals) {ci : Nat} {r : vw_C} {fs : List Value} (q0 : Nat) (he : wc[q0]? = some (b, .inr (ci, fs))) (hc : vwCl[ci]? = some r) (hrC : r.1 = C) (hn : As.length = n) (hst0 : st0 = As.reverse ++ .ref b :: st) (hcat : (st.map fun v => v.category).sum ≤ 8) (hcs : cells ≤ R.cells ∧ slots ≤ R.slots) (hdg : decode cc pc = .ok (.invokevirtual index, 3)) (kk : ∀ (z : Nat) (ws1 : va_W), post z ws1 → ws1.map (·.1) = wc.map (·.1) ∧ GG p l e R s m args below meth c cells slots Q D A H0 nL (setW 0 (isC.zip ws1) ws) (pc + 3) lv (.ref z :: st)) : GG p l e R s m args below meth c cells slots Q D A H0 nL ws pc lv st0 := by
  intro H locs ls hP hD hS hl
  subst hst0
  have hPc := hP.sub (ws' := wc) isC hC2
  have hDc := hD.sub (ws' := wc) isC hnC hC
  have hFc := va_free (wc := wc) hD hS X.2.2.1 isC hC
  refine va_callr (va_runV (As := As) (rest := st) X.1 (hM H.size) (CalV_w cv X.1.2.2.2.2 hlk hrm) ⟨fun a U g mk q => by obtain ⟨q0, q1, qP, qK, qD, qN, qZ⟩ := q; exact ⟨q0, q1, qP, va_K.moved (u := U) (U := U.calling g mk a) (Vm.Alike.refl U.vm) qK, qD, NK.same (u := U) (U := U.calling g mk a) rfl qN, SZ.same (u := U) (U := U.calling g mk a) rfl qZ⟩, hrC ▸ va_recv X.2.1 hPc hc he, fun U hU hW => ⟨rfl, by rw [hU], by rw [hU]; exact hPc, va_K.moved hW.alike X.2.1, hDc.weaken (fun _ _ _ _ => trivial), NK.warm hW X.2.2.2.1, by rw [hU]; exact SZ.call X.2.2.2.2 hS hFc hW⟩⟩ rfl hn hl.1 rfl (lv_room hcat) hdg hcs) hS (fun q _ h => hFc q h) hFc (fun u z t H1 locs ht hvm hw hB hz1 hk1 hS => ?_)
  obtain ⟨w0, u⟩ := u
  obtain ⟨rfl, hB⟩ := hB
  have hz := hw
  obtain ⟨hP1, hK1, hD1⟩ := hB
  rw [ht] at hP1
  obtain ⟨hadr, kk2⟩ := kk z u hz
  obtain ⟨hP2, hD2⟩ := va_setW hP hD isC hC hadr hk1 hP1
  exact kk2 H1 locs ls hP2 hD2 hS hl
theorem g_callVNRw (X : CX p m c cc nL s args own D tys A H0) {wc : va_W} {post : Nat → va_W → Prop} (hM : CtR l y bytes maxL ret rm D tys wc (.ref b :: As) post) (isC : List Nat) (hC : isC.map (fun i => ws[i]?) = wc.map some) (hC2 : isC.filterMap (fun i => ws[i]?) = wc) (hnC : va_nd isC = true) (cv : CalV C y bytes maxL ret n) {host : String} (hlk : Cond.methodLinkNest own index y host ∈ lw_nest) (hrm : rm.cells = 0 ∧ rm.slots = 0 ∧ rm.frames + 1 ≤ R.frames ∧ 8 + (maxL + 11) + rm.locals ≤ R.locals) {ci : Nat} {r : vw_C} {fs : List Value} (q0 : Nat) (he : wc[q0]? = some (b, .inr (ci, fs))) (hc : vwCl[ci]? = some r) (hrC : r.1 = C) (hn : As.length = n) (hst0 : st0 = As.reverse ++ .ref b :: st) (hcat : (st.map fun v => v.category).sum ≤ 8) (hcs : cells ≤ R.cells ∧ slots ≤ R.slots) (hdg : decode cc pc = .ok (.invokevirtual index, 3)) (kk : ∀ (z : Nat) (ws1 : va_W), post z ws1 → ws1.map (·.1) = wc.map (·.1) ∧ GG p l e R s m args below meth c cells slots Q D A H0 nL (setW 0 (isC.zip ws1) ws) (pc + 3) lv (.ref z :: st)) : GG p l e R s m args below meth c cells slots Q D A H0 nL ws pc lv st0 := by
  intro H locs ls hP hD hS hl
  subst hst0
  have hPc := hP.sub (ws' := wc) isC hC2
  have hDc := hD.sub (ws' := wc) isC hnC hC
  have hFc := va_free (wc := wc) hD hS X.2.2.1 isC hC
  refine va_callr (va_runVN (As := As) (rest := st) X.1 (hM H.size) (CalVN_w cv X.1.2.2.2.2 (X.2.2.2.1 _ hlk) hrm) ⟨fun a U g mk q => by obtain ⟨q0, q1, qP, qK, qD, qN, qZ⟩ := q; exact ⟨q0, q1, qP, va_K.moved (u := U) (U := U.calling g mk a) (Vm.Alike.refl U.vm) qK, qD, NK.same (u := U) (U := U.calling g mk a) rfl qN, SZ.same (u := U) (U := U.calling g mk a) rfl qZ⟩, hrC ▸ va_recv X.2.1 hPc hc he, fun U hU hW => ⟨rfl, by rw [hU], by rw [hU]; exact hPc, va_K.moved hW.alike X.2.1, hDc.weaken (fun _ _ _ _ => trivial), NK.warm hW X.2.2.2.1, by rw [hU]; exact SZ.call X.2.2.2.2 hS hFc hW⟩⟩ rfl hn hl.1 rfl (lv_room hcat) hdg hcs) hS (fun q _ h => hFc q h) hFc (fun u z t H1 locs ht hvm hw hB hz1 hk1 hS => ?_)
  obtain ⟨w0, u⟩ := u
  obtain ⟨rfl, hB⟩ := hB
  have hz := hw
  obtain ⟨hP1, hK1, hD1⟩ := hB
  rw [ht] at hP1
  obtain ⟨hadr, kk2⟩ := kk z u hz
  obtain ⟨hP2, hD2⟩ := va_setW hP hD isC hC hadr hk1 hP1
  exact kk2 H1 locs ls hP2 hD2 hS hl
theorem g_callVNVw (X : CX p m c cc nL s args own D tys A H0) {wc : va_W} {post : va_W → Prop} (hM : CtV l y bytes maxL ret rm D tys wc (.ref b :: As) post) (isC : List Nat) (hC : isC.map (fun i => ws[i]?) = wc.map some) (hC2 : isC.filterMap (fun i => ws[i]?) = wc) (hnC : va_nd isC = true) (cv : CalV C y bytes maxL ret n) {host : String} (hlk : Cond.methodLinkNest own index y host ∈ lw_nest) (hrm : rm.cells = 0 ∧ rm.slots = 0 ∧ rm.frames + 1 ≤ R.frames ∧ 8 + (maxL + 11) + rm.locals ≤ R.locals) {ci : Nat} {r : vw_C} {fs : List Value} (q0 : Nat) (he : wc[q0]? = some (b, .inr (ci, fs))) (hc : vwCl[ci]? = some r) (hrC : r.1 = C) (hn : As.length = n) (hst0 : st0 = As.reverse ++ .ref b :: st) (hcat : (st.map fun v => v.category).sum ≤ 8) (hcs : cells ≤ R.cells ∧ slots ≤ R.slots) (hdg : decode cc pc = .ok (.invokevirtual index, 3)) (kk : ∀ (ws1 : va_W), post ws1 → ws1.map (·.1) = wc.map (·.1) ∧ GG p l e R s m args below meth c cells slots Q D A H0 nL (setW 0 (isC.zip ws1) ws) (pc + 3) lv st) : GG p l e R s m args below meth c cells slots Q D A H0 nL ws pc lv st0 := by
  intro H locs ls hP hD hS hl
  subst hst0
  have hPc := hP.sub (ws' := wc) isC hC2
  have hDc := hD.sub (ws' := wc) isC hnC hC
  have hFc := va_free (wc := wc) hD hS X.2.2.1 isC hC
  refine va_callv (va_runVN (As := As) (rest := st) X.1 (hM H.size) (CalVN_w cv X.1.2.2.2.2 (X.2.2.2.1 _ hlk) hrm) ⟨fun a U g mk q => by obtain ⟨q0, q1, qP, qK, qD, qN, qZ⟩ := q; exact ⟨q0, q1, qP, va_K.moved (u := U) (U := U.calling g mk a) (Vm.Alike.refl U.vm) qK, qD, NK.same (u := U) (U := U.calling g mk a) rfl qN, SZ.same (u := U) (U := U.calling g mk a) rfl qZ⟩, hrC ▸ va_recv X.2.1 hPc hc he, fun U hU hW => ⟨rfl, by rw [hU], by rw [hU]; exact hPc, va_K.moved hW.alike X.2.1, hDc.weaken (fun _ _ _ _ => trivial), NK.warm hW X.2.2.2.1, by rw [hU]; exact SZ.call X.2.2.2.2 hS hFc hW⟩⟩ rfl hn hl.1 rfl (lv_room hcat) hdg hcs) hS (fun q _ h => hFc q h) hFc (fun u t H1 locs ht hvm hw hB hz1 hk1 hS => ?_)
  obtain ⟨hP1, hK1, hD1⟩ := hB
  rw [ht] at hP1
  obtain ⟨hadr, kk2⟩ := kk u hw
  obtain ⟨hP2, hD2⟩ := va_setW hP hD isC hC hadr hk1 hP1
  exact kk2 H1 locs ls hP2 hD2 hS hl
theorem g_callSNIw (X : CX p m c cc nL s args own D tys A H0) {wc : va_W} {post : Int → va_W → Prop} (hM : CtI l y bytes maxL ret rm D tys wc As post) (isC : List Nat) (hC : isC.map (fun i => ws[i]?) = wc.map some) (hC2 : isC.filterMap (fun i => ws[i]?) = wc) (hnC : va_nd isC = true) (cv : CalS y bytes maxL ret n) {host : String} (hlk : Cond.methodLinkNest own index y host ∈ lw_nest) (hrm : rm.cells = 0 ∧ rm.slots = 0 ∧ rm.frames + 1 ≤ R.frames ∧ 8 + (maxL + 11) + rm.locals ≤ R.locals)  (hn : As.length = n) (hst0 : st0 = As.reverse ++ st) (hcat : (st.map fun v => v.category).sum ≤ 8) (hcs : cells ≤ R.cells ∧ slots ≤ R.slots) (hdg : decode cc pc = .ok (.invokestatic index, 3)) (kk : ∀ (z : Int) (ws1 : va_W), post z ws1 → ws1.map (·.1) = wc.map (·.1) ∧ GG p l e R s m args below meth c cells slots Q D A H0 nL (setW 0 (isC.zip ws1) ws) (pc + 3) lv (vI z :: st)) : GG p l e R s m args below meth c cells slots Q D A H0 nL ws pc lv st0 := by
  intro H locs ls hP hD hS hl
  subst hst0
  have hPc := hP.sub (ws' := wc) isC hC2
  have hDc := hD.sub (ws' := wc) isC hnC hC
  have hFc := va_free (wc := wc) hD hS X.2.2.1 isC hC
  refine va_calli (va_runSN (As := As) (rest := st) X.1 (hM H.size) (CalSN_w cv X.1.2.2.2.2 (X.2.2.2.1 _ hlk) hrm) ⟨fun a U g mk q => by obtain ⟨q0, q1, qP, qK, qD, qN, qZ⟩ := q; exact ⟨q0, q1, qP, va_K.moved (u := U) (U := U.calling g mk a) (Vm.Alike.refl U.vm) qK, qD, NK.same (u := U) (U := U.calling g mk a) rfl qN, SZ.same (u := U) (U := U.calling g mk a) rfl qZ⟩, fun U hU hW => ⟨rfl, by rw [hU], by rw [hU]; exact hPc, va_K.moved hW.alike X.2.1, hDc.weaken (fun _ _ _ _ => trivial), NK.warm hW X.2.2.2.1, by rw [hU]; exact SZ.call X.2.2.2.2 hS hFc hW⟩⟩ rfl hn hl.1 rfl (lv_room hcat) hdg hcs) hS (fun q _ h => hFc q h) hFc (fun r u t H1 locs ht hvm hw hB hz1 hk1 hS => ?_)
  obtain ⟨z, rfl, hz⟩ := hw
  obtain ⟨hP1, hK1, hD1⟩ := hB
  rw [ht] at hP1
  obtain ⟨hadr, kk2⟩ := kk z u hz
  obtain ⟨hP2, hD2⟩ := va_setW hP hD isC hC hadr hk1 hP1
  exact kk2 H1 locs ls hP2 hD2 hS hl
theorem g_callSLw (X : CX p m c cc nL s args own D tys A H0) {wc : va_W} {post : Int → va_W → Prop} (hM : CtL l y bytes maxL ret rm D tys wc As post) (isC : List Nat) (hC : isC.map (fun i => ws[i]?) = wc.map some) (hC2 : isC.filterMap (fun i => ws[i]?) = wc) (hnC : va_nd isC = true) (cv : CalS y bytes maxL ret n) (hlk : Cond.methodLink own index y ∈ lw_U) (hrm : rm.cells = 0 ∧ rm.slots = 0 ∧ rm.frames + 1 ≤ R.frames ∧ 8 + (maxL + 11) + rm.locals ≤ R.locals)  (hn : As.length = n) (hst0 : st0 = As.reverse ++ st) (hcat : (st.map fun v => v.category).sum ≤ 8) (hcs : cells ≤ R.cells ∧ slots ≤ R.slots) (hdg : decode cc pc = .ok (.invokestatic index, 3)) (kk : ∀ (z : Int) (ws1 : va_W), post z ws1 → ws1.map (·.1) = wc.map (·.1) ∧ GG p l e R s m args below meth c cells slots Q D A H0 nL (setW 0 (isC.zip ws1) ws) (pc + 3) lv (vL z :: st)) : GG p l e R s m args below meth c cells slots Q D A H0 nL ws pc lv st0 := by
  intro H locs ls hP hD hS hl
  subst hst0
  have hPc := hP.sub (ws' := wc) isC hC2
  have hDc := hD.sub (ws' := wc) isC hnC hC
  have hFc := va_free (wc := wc) hD hS X.2.2.1 isC hC
  refine va_calll (va_runS (As := As) (rest := st) X.1 (hM H.size) (CalS_w cv X.1.2.2.2.2 hlk hrm) ⟨fun a U g mk q => by obtain ⟨q0, q1, qP, qK, qD, qN, qZ⟩ := q; exact ⟨q0, q1, qP, va_K.moved (u := U) (U := U.calling g mk a) (Vm.Alike.refl U.vm) qK, qD, NK.same (u := U) (U := U.calling g mk a) rfl qN, SZ.same (u := U) (U := U.calling g mk a) rfl qZ⟩, fun U hU hW => ⟨rfl, by rw [hU], by rw [hU]; exact hPc, va_K.moved hW.alike X.2.1, hDc.weaken (fun _ _ _ _ => trivial), NK.warm hW X.2.2.2.1, by rw [hU]; exact SZ.call X.2.2.2.2 hS hFc hW⟩⟩ rfl hn hl.1 rfl (lv_room hcat) hdg hcs) hS (fun q _ h => hFc q h) hFc (fun r u t H1 locs ht hvm hw hB hz1 hk1 hS => ?_)
  obtain ⟨z, rfl, hz⟩ := hw
  obtain ⟨hP1, hK1, hD1⟩ := hB
  rw [ht] at hP1
  obtain ⟨hadr, kk2⟩ := kk z u hz
  obtain ⟨hP2, hD2⟩ := va_setW hP hD isC hC hadr hk1 hP1
  exact kk2 H1 locs ls hP2 hD2 hS hl
theorem g_callSNLw (X : CX p m c cc nL s args own D tys A H0) {wc : va_W} {post : Int → va_W → Prop} (hM : CtL l y bytes maxL ret rm D tys wc As post) (isC : List Nat) (hC : isC.map (fun i => ws[i]?) = wc.map some) (hC2 : isC.filterMap (fun i => ws[i]?) = wc) (hnC : va_nd isC = true) (cv : CalS y bytes maxL ret n) {host : String} (hlk : Cond.methodLinkNest own index y host ∈ lw_nest) (hrm : rm.cells = 0 ∧ rm.slots = 0 ∧ rm.frames + 1 ≤ R.frames ∧ 8 + (maxL + 11) + rm.locals ≤ R.locals)  (hn : As.length = n) (hst0 : st0 = As.reverse ++ st) (hcat : (st.map fun v => v.category).sum ≤ 8) (hcs : cells ≤ R.cells ∧ slots ≤ R.slots) (hdg : decode cc pc = .ok (.invokestatic index, 3)) (kk : ∀ (z : Int) (ws1 : va_W), post z ws1 → ws1.map (·.1) = wc.map (·.1) ∧ GG p l e R s m args below meth c cells slots Q D A H0 nL (setW 0 (isC.zip ws1) ws) (pc + 3) lv (vL z :: st)) : GG p l e R s m args below meth c cells slots Q D A H0 nL ws pc lv st0 := by
  intro H locs ls hP hD hS hl
  subst hst0
  have hPc := hP.sub (ws' := wc) isC hC2
  have hDc := hD.sub (ws' := wc) isC hnC hC
  have hFc := va_free (wc := wc) hD hS X.2.2.1 isC hC
  refine va_calll (va_runSN (As := As) (rest := st) X.1 (hM H.size) (CalSN_w cv X.1.2.2.2.2 (X.2.2.2.1 _ hlk) hrm) ⟨fun a U g mk q => by obtain ⟨q0, q1, qP, qK, qD, qN, qZ⟩ := q; exact ⟨q0, q1, qP, va_K.moved (u := U) (U := U.calling g mk a) (Vm.Alike.refl U.vm) qK, qD, NK.same (u := U) (U := U.calling g mk a) rfl qN, SZ.same (u := U) (U := U.calling g mk a) rfl qZ⟩, fun U hU hW => ⟨rfl, by rw [hU], by rw [hU]; exact hPc, va_K.moved hW.alike X.2.1, hDc.weaken (fun _ _ _ _ => trivial), NK.warm hW X.2.2.2.1, by rw [hU]; exact SZ.call X.2.2.2.2 hS hFc hW⟩⟩ rfl hn hl.1 rfl (lv_room hcat) hdg hcs) hS (fun q _ h => hFc q h) hFc (fun r u t H1 locs ht hvm hw hB hz1 hk1 hS => ?_)
  obtain ⟨z, rfl, hz⟩ := hw
  obtain ⟨hP1, hK1, hD1⟩ := hB
  rw [ht] at hP1
  obtain ⟨hadr, kk2⟩ := kk z u hz
  obtain ⟨hP2, hD2⟩ := va_setW hP hD isC hC hadr hk1 hP1
  exact kk2 H1 locs ls hP2 hD2 hS hl
theorem g_callSRw (X : CX p m c cc nL s args own D tys A H0) {wc : va_W} {post : Nat → va_W → Prop} (hM : CtR l y bytes maxL ret rm D tys wc As post) (isC : List Nat) (hC : isC.map (fun i => ws[i]?) = wc.map some) (hC2 : isC.filterMap (fun i => ws[i]?) = wc) (hnC : va_nd isC = true) (cv : CalS y bytes maxL ret n) (hlk : Cond.methodLink own index y ∈ lw_U) (hrm : rm.cells = 0 ∧ rm.slots = 0 ∧ rm.frames + 1 ≤ R.frames ∧ 8 + (maxL + 11) + rm.locals ≤ R.locals)  (hn : As.length = n) (hst0 : st0 = As.reverse ++ st) (hcat : (st.map fun v => v.category).sum ≤ 8) (hcs : cells ≤ R.cells ∧ slots ≤ R.slots) (hdg : decode cc pc = .ok (.invokestatic index, 3)) (kk : ∀ (z : Nat) (ws1 : va_W), post z ws1 → ws1.map (·.1) = wc.map (·.1) ∧ GG p l e R s m args below meth c cells slots Q D A H0 nL (setW 0 (isC.zip ws1) ws) (pc + 3) lv (.ref z :: st)) : GG p l e R s m args below meth c cells slots Q D A H0 nL ws pc lv st0 := by
  intro H locs ls hP hD hS hl
  subst hst0
  have hPc := hP.sub (ws' := wc) isC hC2
  have hDc := hD.sub (ws' := wc) isC hnC hC
  have hFc := va_free (wc := wc) hD hS X.2.2.1 isC hC
  refine va_callr (va_runS (As := As) (rest := st) X.1 (hM H.size) (CalS_w cv X.1.2.2.2.2 hlk hrm) ⟨fun a U g mk q => by obtain ⟨q0, q1, qP, qK, qD, qN, qZ⟩ := q; exact ⟨q0, q1, qP, va_K.moved (u := U) (U := U.calling g mk a) (Vm.Alike.refl U.vm) qK, qD, NK.same (u := U) (U := U.calling g mk a) rfl qN, SZ.same (u := U) (U := U.calling g mk a) rfl qZ⟩, fun U hU hW => ⟨rfl, by rw [hU], by rw [hU]; exact hPc, va_K.moved hW.alike X.2.1, hDc.weaken (fun _ _ _ _ => trivial), NK.warm hW X.2.2.2.1, by rw [hU]; exact SZ.call X.2.2.2.2 hS hFc hW⟩⟩ rfl hn hl.1 rfl (lv_room hcat) hdg hcs) hS (fun q _ h => hFc q h) hFc (fun u z t H1 locs ht hvm hw hB hz1 hk1 hS => ?_)
  obtain ⟨w0, u⟩ := u
  obtain ⟨rfl, hB⟩ := hB
  have hz := hw
  obtain ⟨hP1, hK1, hD1⟩ := hB
  rw [ht] at hP1
  obtain ⟨hadr, kk2⟩ := kk z u hz
  obtain ⟨hP2, hD2⟩ := va_setW hP hD isC hC hadr hk1 hP1
  exact kk2 H1 locs ls hP2 hD2 hS hl
theorem g_callSNRw (X : CX p m c cc nL s args own D tys A H0) {wc : va_W} {post : Nat → va_W → Prop} (hM : CtR l y bytes maxL ret rm D tys wc As post) (isC : List Nat) (hC : isC.map (fun i => ws[i]?) = wc.map some) (hC2 : isC.filterMap (fun i => ws[i]?) = wc) (hnC : va_nd isC = true) (cv : CalS y bytes maxL ret n) {host : String} (hlk : Cond.methodLinkNest own index y host ∈ lw_nest) (hrm : rm.cells = 0 ∧ rm.slots = 0 ∧ rm.frames + 1 ≤ R.frames ∧ 8 + (maxL + 11) + rm.locals ≤ R.locals)  (hn : As.length = n) (hst0 : st0 = As.reverse ++ st) (hcat : (st.map fun v => v.category).sum ≤ 8) (hcs : cells ≤ R.cells ∧ slots ≤ R.slots) (hdg : decode cc pc = .ok (.invokestatic index, 3)) (kk : ∀ (z : Nat) (ws1 : va_W), post z ws1 → ws1.map (·.1) = wc.map (·.1) ∧ GG p l e R s m args below meth c cells slots Q D A H0 nL (setW 0 (isC.zip ws1) ws) (pc + 3) lv (.ref z :: st)) : GG p l e R s m args below meth c cells slots Q D A H0 nL ws pc lv st0 := by
  intro H locs ls hP hD hS hl
  subst hst0
  have hPc := hP.sub (ws' := wc) isC hC2
  have hDc := hD.sub (ws' := wc) isC hnC hC
  have hFc := va_free (wc := wc) hD hS X.2.2.1 isC hC
  refine va_callr (va_runSN (As := As) (rest := st) X.1 (hM H.size) (CalSN_w cv X.1.2.2.2.2 (X.2.2.2.1 _ hlk) hrm) ⟨fun a U g mk q => by obtain ⟨q0, q1, qP, qK, qD, qN, qZ⟩ := q; exact ⟨q0, q1, qP, va_K.moved (u := U) (U := U.calling g mk a) (Vm.Alike.refl U.vm) qK, qD, NK.same (u := U) (U := U.calling g mk a) rfl qN, SZ.same (u := U) (U := U.calling g mk a) rfl qZ⟩, fun U hU hW => ⟨rfl, by rw [hU], by rw [hU]; exact hPc, va_K.moved hW.alike X.2.1, hDc.weaken (fun _ _ _ _ => trivial), NK.warm hW X.2.2.2.1, by rw [hU]; exact SZ.call X.2.2.2.2 hS hFc hW⟩⟩ rfl hn hl.1 rfl (lv_room hcat) hdg hcs) hS (fun q _ h => hFc q h) hFc (fun u z t H1 locs ht hvm hw hB hz1 hk1 hS => ?_)
  obtain ⟨w0, u⟩ := u
  obtain ⟨rfl, hB⟩ := hB
  have hz := hw
  obtain ⟨hP1, hK1, hD1⟩ := hB
  rw [ht] at hP1
  obtain ⟨hadr, kk2⟩ := kk z u hz
  obtain ⟨hP2, hD2⟩ := va_setW hP hD isC hC hadr hk1 hP1
  exact kk2 H1 locs ls hP2 hD2 hS hl
theorem g_callSNVw (X : CX p m c cc nL s args own D tys A H0) {wc : va_W} {post : va_W → Prop} (hM : CtV l y bytes maxL ret rm D tys wc As post) (isC : List Nat) (hC : isC.map (fun i => ws[i]?) = wc.map some) (hC2 : isC.filterMap (fun i => ws[i]?) = wc) (hnC : va_nd isC = true) (cv : CalS y bytes maxL ret n) {host : String} (hlk : Cond.methodLinkNest own index y host ∈ lw_nest) (hrm : rm.cells = 0 ∧ rm.slots = 0 ∧ rm.frames + 1 ≤ R.frames ∧ 8 + (maxL + 11) + rm.locals ≤ R.locals)  (hn : As.length = n) (hst0 : st0 = As.reverse ++ st) (hcat : (st.map fun v => v.category).sum ≤ 8) (hcs : cells ≤ R.cells ∧ slots ≤ R.slots) (hdg : decode cc pc = .ok (.invokestatic index, 3)) (kk : ∀ (ws1 : va_W), post ws1 → ws1.map (·.1) = wc.map (·.1) ∧ GG p l e R s m args below meth c cells slots Q D A H0 nL (setW 0 (isC.zip ws1) ws) (pc + 3) lv st) : GG p l e R s m args below meth c cells slots Q D A H0 nL ws pc lv st0 := by
  intro H locs ls hP hD hS hl
  subst hst0
  have hPc := hP.sub (ws' := wc) isC hC2
  have hDc := hD.sub (ws' := wc) isC hnC hC
  have hFc := va_free (wc := wc) hD hS X.2.2.1 isC hC
  refine va_callv (va_runSN (As := As) (rest := st) X.1 (hM H.size) (CalSN_w cv X.1.2.2.2.2 (X.2.2.2.1 _ hlk) hrm) ⟨fun a U g mk q => by obtain ⟨q0, q1, qP, qK, qD, qN, qZ⟩ := q; exact ⟨q0, q1, qP, va_K.moved (u := U) (U := U.calling g mk a) (Vm.Alike.refl U.vm) qK, qD, NK.same (u := U) (U := U.calling g mk a) rfl qN, SZ.same (u := U) (U := U.calling g mk a) rfl qZ⟩, fun U hU hW => ⟨rfl, by rw [hU], by rw [hU]; exact hPc, va_K.moved hW.alike X.2.1, hDc.weaken (fun _ _ _ _ => trivial), NK.warm hW X.2.2.2.1, by rw [hU]; exact SZ.call X.2.2.2.2 hS hFc hW⟩⟩ rfl hn hl.1 rfl (lv_room hcat) hdg hcs) hS (fun q _ h => hFc q h) hFc (fun u t H1 locs ht hvm hw hB hz1 hk1 hS => ?_)
  obtain ⟨hP1, hK1, hD1⟩ := hB
  rw [ht] at hP1
  obtain ⟨hadr, kk2⟩ := kk u hw
  obtain ⟨hP2, hD2⟩ := va_setW hP hD isC hC hadr hk1 hP1
  exact kk2 H1 locs ls hP2 hD2 hS hl
end GCC
