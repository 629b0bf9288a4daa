/-! THE PURE MACHINE AND THE MACHINE: cell k of the list lies at address B + k -/
def pv_v (B : Nat) : Value → Value
  | .ref k => .ref (B + k)
  | v => v
def pv_e (cA : Nat → ClassId) (B : Nat) : va_E → va_E
  | .inl (t, a) => .inl (cA t, a)
  | .inr (ci, fs) => .inr (ci, fs.map (pv_v B))
def pv_w (cA : Nat → ClassId) (B : Nat) (h : pv_H) : va_W := h.mapIdx (fun k e => (B + k, pv_e cA B e))
def pv_l (B : Nat) (ls : pv_L) : pv_L := ls.map (fun q => (q.1, pv_v B q.2))
def pv_ty (cA : Nat → ClassId) : List (ClassId × FieldType) := [(cA 0, .int), (cA 1, .boolean), (cA 2, .byte), (cA 3, .long)]
def pv_K (D : va_G) (cA : Nat → ClassId) (U : State) : Prop := va_K D vwCl (pv_ty cA) U ∧ ∀ w ∈ pv_N, va_Nw w U
def pv_ce : va_E → Nat
  | .inl (_, n, _) => n
  | .inr (_, fs) => fs.length
def pv_sl (h : pv_H) : Nat := (h.map pv_ce).sum
theorem pv_v_cat (B : Nat) (v : Value) : (pv_v B v).category = v.category := by cases v <;> rfl
theorem pv_cat_map (B : Nat) (st : List Value) : ((st.map (pv_v B)).map fun v => v.category).sum = pv_cat st := by
  simp only [pv_cat, List.map_map]
  congr 1
  apply List.map_congr_left
  intro v _
  exact pv_v_cat B v
theorem pv_w_get {cA : Nat → ClassId} {B : Nat} {h : pv_H} {k : Nat} {e : va_E} (hk : h[k]? = some e) : (pv_w cA B h)[k]? = some (B + k, pv_e cA B e) := by
  simp [pv_w, List.getElem?_mapIdx, hk]
theorem pv_w_get' {cA : Nat → ClassId} {B : Nat} {h : pv_H} {k : Nat} {q : Nat × va_E} (hk : (pv_w cA B h)[k]? = some q) : q.1 = B + k ∧ k < h.length := by
  simp only [pv_w, List.getElem?_mapIdx] at hk
  cases hq : h[k]? with
  | none => rw [hq] at hk; cases hk
  | some e =>
    rw [hq] at hk
    cases hk
    exact ⟨rfl, (List.getElem?_eq_some_iff.mp hq).1⟩
theorem pv_w_set (cA : Nat → ClassId) (B : Nat) (h : pv_H) (k : Nat) (e : va_E) : pv_w cA B (h.set k e) = (pv_w cA B h).set k (B + k, pv_e cA B e) := by
  apply List.ext_getElem?
  intro i
  simp only [pv_w, List.getElem?_mapIdx, List.getElem?_set, List.length_mapIdx]
  by_cases hki : k = i
  · subst hki
    by_cases hl : k < h.length
    · simp [hl]
    · simp [hl]
  · simp [hki]
theorem pv_w_app (cA : Nat → ClassId) (B : Nat) (h : pv_H) (e : va_E) : pv_w cA B (h ++ [e]) = pv_w cA B h ++ [(B + h.length, pv_e cA B e)] := by
  simp [pv_w, List.mapIdx_append]
theorem pv_w_len (cA : Nat → ClassId) (B : Nat) (h : pv_H) : (pv_w cA B h).length = h.length := by simp [pv_w]
theorem pv_D {A : Nat → Prop} (cA : Nat → ClassId) (B : Nat) (h : pv_H) (hA : ∀ k, k < h.length → A (B + k)) : va_D A (pv_w cA B h) := by
  refine ⟨fun i j x y hi hj hxy => ?_, fun k q hk => ?_⟩
  · have h1 := (pv_w_get' hi).1
    have h2 := (pv_w_get' hj).1
    omega
  · obtain ⟨h1, h2⟩ := pv_w_get' hk
    rw [h1]
    exact hA k h2
theorem pv_l_get {B : Nat} {i : Nat} {v : Value} : ∀ {ls : pv_L}, pv_get ls i = some v → (i, pv_v B v) ∈ pv_l B ls
  | [], h => by cases h
  | (j, w) :: ls, h => by
    unfold pv_get at h
    by_cases hj : j = i
    · rw [if_pos hj] at h
      cases h
      subst hj
      exact List.mem_cons_self
    · rw [if_neg hj] at h
      exact List.mem_cons_of_mem _ (pv_l_get h)
theorem pv_l_set1 (B : Nat) (ls : pv_L) (i : Nat) (v : Value) : (i, pv_v B v) :: (pv_l B ls).filter (fun q => !(q.1 == i) && !(q.1 + 1 == i && q.2.category == 2)) = pv_l B (pv_set1 ls i v) := by
  simp only [pv_l, pv_set1, List.map_cons, List.filter_map]
  congr 2
  apply List.filter_congr
  intro q _
  simp [pv_v_cat]
theorem pv_l_set2 (B : Nat) (ls : pv_L) (i : Nat) (v : Value) : (i, pv_v B v) :: (pv_l B ls).filter (fun q => !(q.1 == i) && (!(q.1 == i + 1) && !(q.1 + 1 == i && q.2.category == 2))) = pv_l B (pv_set2 ls i v) := by
  simp only [pv_l, pv_set2, List.map_cons, List.filter_map]
  congr 2
  apply List.filter_congr
  intro q _
  simp [pv_v_cat]
theorem pv_l_args (B : Nat) : ∀ (vs : List Value) (i : Nat), lv_args i (vs.map (pv_v B)) = pv_l B (lv_args i vs)
  | [], _ => rfl
  | v :: vs, i => by
    simp only [List.map_cons, lv_args, pv_v_cat, pv_l_args B vs]
    rfl
theorem pv_sl_set {h : pv_H} {a : Nat} {e e' : va_E} (ha : h[a]? = some e) (he : pv_ce e' = pv_ce e) : pv_sl (h.set a e') = pv_sl h := by
  have : (h.set a e').map pv_ce = h.map pv_ce := by
    rw [List.map_set, he]
    apply List.ext_getElem?
    intro i
    rw [List.getElem?_set]
    by_cases hi : a = i
    · subst hi
      obtain ⟨hl, hv⟩ := List.getElem?_eq_some_iff.mp ha
      simp [hl, hv]
    · simp [hi]
  simp [pv_sl, this]
theorem pv_sl_app (h : pv_H) (e : va_E) : pv_sl (h ++ [e]) = pv_sl h + pv_ce e := by simp [pv_sl]
theorem pv_K.warm {D : va_G} {cA : Nat → ClassId} {s U : State} (hW : s.WarmedH U.vm) (h : pv_K D cA s) : pv_K D cA U := by
  refine ⟨va_K.moved hW.alike h.1, fun w hw => ?_⟩
  have h1 := h.2 w hw
  have h2 := (List.mem_filter.mp hw).2
  cases w with
  | fieldLinkNest a i b n d hh => exact va_Nw.warmF hW h1
  | methodLinkNest a i x hh => exact va_Nw.warmM hW h1
  | _ => cases h2
theorem pv_K.same {D : va_G} {cA : Nat → ClassId} {s U : State} (hv : s.vm = U.vm) (h : pv_K D cA s) : pv_K D cA U := by
  refine ⟨va_K.moved (by rw [hv]; exact Vm.Alike.refl _) h.1, fun w hw => ?_⟩
  have h1 := h.2 w hw
  have h2 := (List.mem_filter.mp hw).2
  cases w with
  | fieldLinkNest a i b n d hh => exact va_Nw.same rfl hv h1
  | methodLinkNest a i x hh => exact va_Nw.same rfl hv h1
  | _ => cases h2
/-- where the heap ends: no more cells than were counted -/
theorem pv_bound {p : Program} {l : Launch} {e : Env} {R : Room} {s : State} {m : MethodId} {args : Array Value} {below : List Frame} {meth : Method} {c : Code} {H : Heap} {locs : List Loc} {cells slots : Nat} {Q : State → Prop} {g : JFrame}
    (kk : H.size ≤ s.heap.size + cells → W p l e R s m args below meth c H locs cells slots Q g) : W p l e R s m args below meth c H locs cells slots Q g := by
  intro T hT X
  have h1 : (T.setVm s.vm).heap.size ≤ s.heap.size + cells := X.same.2.2.1
  exact kk (by rw [← hT]; exact h1) T hT X
/-- the five texts lie below B -/
def pv_G (B : Nat) (U : State) : Prop := ∃ adK adV : Nat → Nat, vk_S 5 pzL pzY adK adV (fun q => B ≤ q) U U.heap ∧ va_Z "java/lang/String" "COMPACT_STRINGS" "Z" (.int 1) (fun q => B ≤ q) U U.heap ∧ ∀ i, i < 5 → vk_R "CliffGarden$Reader" (pzX.getD i 0) (pzT.getD i "") (adK i) U
theorem va_Z.kept9 {C n d : String} {v : Value} {A : Nat → Prop} {U : State} {H H1 : Heap} (h : va_Z C n d v A U H) (hq : ∀ a : Nat, a < H.size → ¬ A a → H1[a]? = H[a]?) : va_Z C n d v A U H1 := by
  obtain ⟨cf, kf, fi, f, a, cell, h1, h2, h3, h4, h5, h6, h7, h8⟩ := h
  exact ⟨cf, kf, fi, f, a, cell, h1, h2, h3, h4, by rw [hq a (Array.getElem?_eq_some_iff.mp h5).1 h8]; exact h5, h6, h7, h8⟩
theorem va_Z.narrow9 {C n d : String} {v : Value} {A A' : Nat → Prop} {U : State} {H : Heap} (h : va_Z C n d v A U H) (hq : ∀ a : Nat, A' a → A a) : va_Z C n d v A' U H := by
  obtain ⟨cf, kf, fi, f, a, cell, h1, h2, h3, h4, h5, h6, h7, h8⟩ := h
  exact ⟨cf, kf, fi, f, a, cell, h1, h2, h3, h4, h5, h6, h7, fun z => h8 (hq a z)⟩
theorem pv_G.warm {B : Nat} {s U : State} (hW : s.WarmedH U.vm) (hk : ∀ q : Nat, q < s.heap.size → ¬ B ≤ q → U.heap[q]? = s.heap[q]?) (h : pv_G B s) : pv_G B U := by
  obtain ⟨adK, adV, h1, h2, h3⟩ := h
  exact ⟨adK, adV, vk_S.kept (vk_S.moved hW.alike h1) hk, va_Z.kept9 (va_Z.moved hW.alike h2) hk, fun i hi => vk_R.warm hW (h3 i hi)⟩
theorem pv_G.same {B : Nat} {s U : State} (hv : s.vm = U.vm) (hh : U.heap = s.heap) (h : pv_G B s) : pv_G B U := by
  obtain ⟨adK, adV, h1, h2, h3⟩ := h
  have ha : s.vm.Alike U.vm := by rw [hv]; exact Vm.Alike.refl _
  exact ⟨adK, adV, by rw [hh]; exact vk_S.moved ha h1, by rw [hh]; exact va_Z.moved ha h2, fun i hi => vk_R.same hv.symm (h3 i hi)⟩
