/-! worlds of blocks: contracts over a part of a world hold over the whole -/
theorem va_P.mem {D : va_G} {cl : List vw_C} {ws ws2 : va_W} {H : Heap} (h : va_P D cl ws H) (hs : ∀ q ∈ ws2, q ∈ ws) : va_P D cl ws2 H := by
  intro k q hk
  obtain ⟨j, hj⟩ := List.mem_iff_getElem?.mp (hs q (List.mem_of_getElem? hk))
  exact h j q hj
theorem va_D_nd {A : Nat → Prop} {ws : va_W} : va_D A ws ↔ (ws.map (·.1)).Nodup ∧ ∀ q ∈ ws, A q.1 := by
  constructor
  · intro h
    refine ⟨?_, fun q hq => ?_⟩
    · rw [List.nodup_iff_pairwise_ne, List.pairwise_iff_getElem]
      intro i j hi hj hij e
      rw [List.getElem_map, List.getElem_map] at e
      rw [List.length_map] at hi hj
      have := h.1 i j ws[i] ws[j] (List.getElem?_eq_getElem hi) (List.getElem?_eq_getElem hj) e
      omega
    · obtain ⟨k, hk⟩ := List.mem_iff_getElem?.mp hq
      exact h.2 k q hk
  · intro h
    refine ⟨fun i j p q hi hj e => ?_, fun k q hk => h.2 q (List.mem_of_getElem? hk)⟩
    have hn := h.1
    rw [List.nodup_iff_pairwise_ne, List.pairwise_iff_getElem] at hn
    obtain ⟨hi1, hi2⟩ := List.getElem?_eq_some_iff.mp hi
    obtain ⟨hj1, hj2⟩ := List.getElem?_eq_some_iff.mp hj
    rcases Nat.lt_trichotomy i j with hlt | heq | hgt
    · exact absurd (by rw [List.getElem_map, List.getElem_map, hi2, hj2]; exact e) (hn i j (by rw [List.length_map]; exact hi1) (by rw [List.length_map]; exact hj1) hlt)
    · exact heq
    · exact absurd (by rw [List.getElem_map, List.getElem_map, hi2, hj2]; exact e.symm) (hn j i (by rw [List.length_map]; exact hj1) (by rw [List.length_map]; exact hi1) hgt)
theorem va_P.perm {D : va_G} {cl : List vw_C} {ws ws2 : va_W} {H : Heap} (h : va_P D cl ws H) (hp : ws.Perm ws2) : va_P D cl ws2 H := h.mem fun q hq => hp.mem_iff.mpr hq
theorem va_D.perm {A : Nat → Prop} {ws ws2 : va_W} (h : va_D A ws) (hp : ws.Perm ws2) : va_D A ws2 := by
  rw [va_D_nd] at h ⊢
  exact ⟨(hp.map _).nodup h.1, fun q hq => h.2 q (hp.mem_iff.mpr hq)⟩
theorem va_D.left {A : Nat → Prop} {w1 w2 : va_W} (h : va_D A (w1 ++ w2)) : va_D A w1 := by
  rw [va_D_nd] at h ⊢
  rw [List.map_append] at h
  exact ⟨(List.nodup_append.mp h.1).1, fun q hq => h.2 q (List.mem_append_left _ hq)⟩
theorem va_D.right {A : Nat → Prop} {w1 w2 : va_W} (h : va_D A (w1 ++ w2)) : va_D A w2 := by
  rw [va_D_nd] at h ⊢
  rw [List.map_append] at h
  exact ⟨(List.nodup_append.mp h.1).2.1, fun q hq => h.2 q (List.mem_append_right _ hq)⟩
theorem va_D.apart {A : Nat → Prop} {w1 w2 : va_W} (h : va_D A (w1 ++ w2)) {p q : Nat × va_E} (hp : p ∈ w1) (hq : q ∈ w2) : p.1 ≠ q.1 := by
  rw [va_D_nd, List.map_append] at h
  exact (List.nodup_append.mp h.1).2.2 p.1 (List.mem_map.mpr ⟨p, hp, rfl⟩) q.1 (List.mem_map.mpr ⟨q, hq, rfl⟩)
theorem va_A_perm {ws wc wr : va_W} (hp : ws.Perm (wc ++ wr)) {sz q : Nat} (h : va_A wc sz q) : va_A ws sz q := by
  rcases h with ⟨k, e, hk⟩ | h
  · obtain ⟨j, hj⟩ := List.mem_iff_getElem?.mp (hp.mem_iff.mpr (List.mem_append_left _ (List.mem_of_getElem? hk)))
    exact Or.inl ⟨j, e, hj⟩
  · exact Or.inr h
theorem SZ.narrow {A B : Nat → Prop} {H : Heap} {U : State} (h : SZ A H U) (hF : ∀ q, B q → A q) : SZ B H U := by
  obtain ⟨a, v, h1, h2, h3, h4, h5, h6, h7, h8⟩ := h
  exact ⟨a, v, h1, h2, h3.narrow hF, h4.narrow hF, h5.narrow hF, h6.narrow hF, h7.narrow hF, h8.narrow hF⟩
/-- the cells beside a callee's -/
theorem va_beside {D : va_G} {tys : List (ClassId × FieldType)} {ws wc wr u : va_W} {s t : State} (hp : ws.Perm (wc ++ wr)) (hP : va_P D vwCl ws s.heap) (hD : va_D (fun _ => True) ws) (hB : BZ D tys (va_A wc s.heap.size) u t) (hF : va_F (va_A wc s.heap.size) s t) : BZ D tys (va_A ws s.heap.size) (u ++ wr) t := by
  obtain ⟨hP1, hK1, hD1⟩ := hB
  have hP2 := hP.perm hp
  have hD2 := hD.perm hp
  have hr : va_P D vwCl wr s.heap := hP2.mem fun q hq => List.mem_append_right _ hq
  have hlt : ∀ q ∈ wr, q.1 < s.heap.size := fun q hq => by
    obtain ⟨k, hk⟩ := List.mem_iff_getElem?.mp hq
    exact (hr k q hk).lt
  have hna : ∀ q ∈ wr, ¬ va_A wc s.heap.size q.1 := by
    intro q hq h
    rcases h with ⟨k, e, hk⟩ | h
    · exact hD2.apart (List.mem_of_getElem? hk) hq rfl
    · exact absurd (hlt q hq) (Nat.not_lt.mpr h)
  refine ⟨hP1.app (hr.kept fun k q hk => hF.2 q.1 (hlt q (List.mem_of_getElem? hk)) (hna q (List.mem_of_getElem? hk))), hK1, ?_⟩
  refine va_D.app (hD1.weaken fun k q hk hq => va_A_perm hp hq) ?_ ?_
  · rw [va_D_nd]
    refine ⟨(va_D_nd.mp hD2.right).1, fun q hq => ?_⟩
    obtain ⟨j, hj⟩ := List.mem_iff_getElem?.mp (hp.mem_iff.mpr (List.mem_append_right wc hq))
    exact Or.inl ⟨j, q.2, hj⟩
  · intro i j p q hi hj e
    exact hna q (List.mem_of_getElem? hj) (e ▸ hD1.2 i p hi)
theorem va_F.weaken {A B : Nat → Prop} {s t : State} (h : va_F A s t) (hAB : ∀ q, A q → B q) : va_F B s t := ⟨h.1, fun q h1 h2 => h.2 q h1 fun z => h2 (hAB q z)⟩
section FR
variable {l : Launch} {y : MethodName} {b : ByteArray} {nL : Nat} {ret : Option FieldType} {rm : Room} {D : va_G} {tys : List (ClassId × FieldType)} {ws wc wr : va_W} {av : List Value} {mc ms : Nat}
theorem CtI.frame {post : Int → va_W → Prop} (hM : CtI l y b nL ret rm D tys wc av post) (hp : ws.Perm (wc ++ wr)) : CtI l y b nL ret rm D tys ws av (fun z ws' => ∃ w1, post z w1 ∧ ws' = w1 ++ wr) := by
  intro sz p e h1 h2 h3 s m args below h4 h5 hpre h7
  obtain ⟨ha, hsz, hP, hK, hD, hN, hZ⟩ := hpre
  subst hsz
  obtain ⟨n, o, a1, a2, a3, ⟨⟨r, u, e1, ⟨z, e2, hz⟩, hB⟩, hF⟩, L, hL, hfree⟩ := hM s.heap.size p e h1 h2 h3 s m args below h4 h5 ⟨ha, rfl, (hP.perm hp).mem (fun q hq => List.mem_append_left _ hq), hK, (hD.perm hp).left, hN, hZ.narrow fun q hq => va_A_perm hp hq⟩ h7
  exact ⟨n, o, a1, a2, a3, ⟨⟨r, u ++ wr, e1, ⟨z, e2, u, hz, rfl⟩, va_beside hp hP hD hB hF⟩, hF.weaken fun q hq => va_A_perm hp hq⟩, L, hL, fun q hq => va_A_perm hp (hfree q hq)⟩
theorem CtL.frame {post : Int → va_W → Prop} (hM : CtL l y b nL ret rm D tys wc av post) (hp : ws.Perm (wc ++ wr)) : CtL l y b nL ret rm D tys ws av (fun z ws' => ∃ w1, post z w1 ∧ ws' = w1 ++ wr) := by
  intro sz p e h1 h2 h3 s m args below h4 h5 hpre h7
  obtain ⟨ha, hsz, hP, hK, hD, hN, hZ⟩ := hpre
  subst hsz
  obtain ⟨n, o, a1, a2, a3, ⟨⟨r, u, e1, ⟨z, e2, hz⟩, hB⟩, hF⟩, L, hL, hfree⟩ := hM s.heap.size p e h1 h2 h3 s m args below h4 h5 ⟨ha, rfl, (hP.perm hp).mem (fun q hq => List.mem_append_left _ hq), hK, (hD.perm hp).left, hN, hZ.narrow fun q hq => va_A_perm hp hq⟩ h7
  exact ⟨n, o, a1, a2, a3, ⟨⟨r, u ++ wr, e1, ⟨z, e2, u, hz, rfl⟩, va_beside hp hP hD hB hF⟩, hF.weaken fun q hq => va_A_perm hp hq⟩, L, hL, fun q hq => va_A_perm hp (hfree q hq)⟩
theorem CtIJ.frame {post : Int → va_W → Prop} (hM : CtIJ l y b nL ret rm D tys wc av post mc ms) (hp : ws.Perm (wc ++ wr)) : CtIJ l y b nL ret rm D tys ws av (fun z ws' => ∃ w1, post z w1 ∧ ws' = w1 ++ wr) mc ms := by
  intro sz p e h1 h2 h3 s m args below h4 h5 hpre h7
  obtain ⟨ha, hsz, hP, hK, hD, hN, hZ⟩ := hpre
  subst hsz
  obtain ⟨n, o, a1, a2, a3, ⟨⟨r, u, e1, ⟨z, e2, hz⟩, hB⟩, hF⟩, L, hL, hfree⟩ := hM s.heap.size p e h1 h2 h3 s m args below h4 h5 ⟨ha, rfl, (hP.perm hp).mem (fun q hq => List.mem_append_left _ hq), hK, (hD.perm hp).left, hN, hZ.narrow fun q hq => va_A_perm hp hq⟩ h7
  exact ⟨n, o, a1, a2, a3, ⟨⟨r, u ++ wr, e1, ⟨z, e2, u, hz, rfl⟩, va_beside hp hP hD hB hF⟩, hF.weaken fun q hq => va_A_perm hp hq⟩, L, hL, fun q hq => va_A_perm hp (hfree q hq)⟩
theorem CtI.imp {post post2 : Int → va_W → Prop} (hM : CtI l y b nL ret rm D tys ws av post) (hi : ∀ z w, post z w → post2 z w) : CtI l y b nL ret rm D tys ws av post2 := by
  intro sz p e h1 h2 h3 s m args below h4 h5 hpre h7
  obtain ⟨n, o, a1, a2, a3, ⟨⟨r, u, e1, ⟨z, e2, hz⟩, hB⟩, hF⟩, L⟩ := hM sz p e h1 h2 h3 s m args below h4 h5 hpre h7
  exact ⟨n, o, a1, a2, a3, ⟨⟨r, u, e1, ⟨z, e2, hi z u hz⟩, hB⟩, hF⟩, L⟩
theorem CtL.imp {post post2 : Int → va_W → Prop} (hM : CtL l y b nL ret rm D tys ws av post) (hi : ∀ z w, post z w → post2 z w) : CtL l y b nL ret rm D tys ws av post2 := by
  intro sz p e h1 h2 h3 s m args below h4 h5 hpre h7
  obtain ⟨n, o, a1, a2, a3, ⟨⟨r, u, e1, ⟨z, e2, hz⟩, hB⟩, hF⟩, L⟩ := hM sz p e h1 h2 h3 s m args below h4 h5 hpre h7
  exact ⟨n, o, a1, a2, a3, ⟨⟨r, u, e1, ⟨z, e2, hi z u hz⟩, hB⟩, hF⟩, L⟩
theorem CtIJ.imp {post post2 : Int → va_W → Prop} (hM : CtIJ l y b nL ret rm D tys ws av post mc ms) (hi : ∀ z w, post z w → post2 z w) : CtIJ l y b nL ret rm D tys ws av post2 mc ms := by
  intro sz p e h1 h2 h3 s m args below h4 h5 hpre h7
  obtain ⟨n, o, a1, a2, a3, ⟨⟨r, u, e1, ⟨z, e2, hz⟩, hB⟩, hF⟩, L⟩ := hM sz p e h1 h2 h3 s m args below h4 h5 hpre h7
  exact ⟨n, o, a1, a2, a3, ⟨⟨r, u, e1, ⟨z, e2, hi z u hz⟩, hB⟩, hF⟩, L⟩
theorem CtI.toJ {post : Int → va_W → Prop} (hM : CtI l y b nL ret rm D tys ws av post) : CtIJ l y b nL ret rm D tys ws av post 0 0 := hM
end FR
theorem va_permc (l1 l2 : va_W) (h : ∀ p : (Nat × va_E) → Bool, l1.countP p = l2.countP p) : l1.Perm l2 := by
  exact (@List.perm_iff_count (Nat × va_E) (@instBEqOfDecidableEq _ (fun a b => Classical.propDecidable (a = b))) (by infer_instance) l1 l2).mpr (fun a => h _)
