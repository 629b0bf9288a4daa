/-! TEXTS: String.indexOf(int) on the program's five constants -/
def pzL : List Nat := [14, 6, 3, 2, 3]
def pzY : List (List Int32) := [[107, 121, 120, 108, 115, 110, 106, 119, 114, 112, 100, 116, 109, 98], [103, 102, 97, 99, 111, 113], [60, 62, 61], [43, 45], [42, 47, 37]]
def pzX : List Nat := [132, 62, 114, 119, 124]
def pzT : List String := ["kyxlsnjwrpdtmb", "gfacoq", "<>=", "+-", "*/%"]
abbrev pzN : Nat → Prop := fun _ => False
def pz_Z (adK adV : Nat → Nat) (U : State) : Prop := vk_S 5 pzL pzY adK adV pzN U U.heap ∧ va_Z "java/lang/String" "COMPACT_STRINGS" "Z" (.int 1) pzN U U.heap
def pz_Q (r : Int32) : Array Value → State → Outcome → State → Prop := va_Qi (S := Unit) (fun z _ => z = r) (fun _ _ => True) pzN
def pz_rm (d : Nat) : Room := { frames := d, cells := 0, slots := 0, locals := 60 * d }
def pz_M (l : Launch) (d : Nat) (y : MethodName) (cc : ByteArray) (nL : Nat) (ret : Option FieldType) (adK adV : Nat → Nat) (as : List Value) (r : Int32) : Prop := Met l y (Cond.code y cc nL ret :: pv_T) (pz_rm d) (va_Pc as (pz_Z adK adV)) (pz_Q r) 0 0 pzN
theorem pz_good {y : MethodName} {cc : ByteArray} {nL : Nat} {ret : Option FieldType} (hc : Cond.code y cc nL ret ∈ pv_T) : GoodIn pv_T (Cond.code y cc nL ret :: pv_T) := by
  intro w hw
  rcases List.mem_cons.mp hw with rfl | hw
  · exact ⟨hc, good_of_word (List.mem_filter.mp hc).2⟩
  · exact ⟨hw, good_of_word (List.mem_filter.mp hw).2⟩
theorem pz_Z.moved {adK adV : Nat → Nat} {u U : State} (hv : u.vm.Alike U.vm) (hh : U.heap = u.heap) (h : pz_Z adK adV u) : pz_Z adK adV U := by
  unfold pz_Z
  rw [hh]
  exact ⟨vk_S.moved hv h.1, va_Z.moved hv h.2⟩
theorem pz_Z.kept {adK adV : Nat → Nat} {u U : State} (hv : u.vm.Alike U.vm) (hh : ∀ q, q < u.heap.size → U.heap[q]? = u.heap[q]?) (h : pz_Z adK adV u) : pz_Z adK adV U := by
  refine ⟨vk_S.kept (vk_S.moved hv h.1) (fun q h1 _ => hh q h1), ?_⟩
  obtain ⟨cf, kf, fi, f, a, cell, h1, h2, h3, h4, h5, h6⟩ := va_Z.moved hv h.2
  exact ⟨cf, kf, fi, f, a, cell, h1, h2, h3, h4, by rw [hh a (Array.getElem?_eq_some_iff.mp h5).1]; exact h5, h6⟩
theorem pz_blind (adK adV : Nat → Nat) (as : List Value) : FrameBlind (va_Pc as (pz_Z adK adV)) :=
  fun _ U g mk q => ⟨q.1, pz_Z.moved (u := U) (Vm.Alike.refl _) rfl q.2⟩
theorem pz_q {r : Int32} {args : Array Value} {s t : State} {H : Heap} {locs : List Loc} (hS : va_S pzN s.heap H locs) (ht : t.heap = H) : pz_Q r args s (.returned (some (.int r))) t := ⟨⟨r, (), rfl, rfl, trivial⟩, hS.F ht⟩
/-- a contract by a walk from the method's entry -/
theorem pz_open {l : Launch} {d : Nat} {y : MethodName} {cc : ByteArray} {nL : Nat} {ret : Option FieldType} {adK adV : Nat → Nat} {as : List Value} {r : Int32} (hp : plainName y.cls = true) (hn : (lg_sl as).length ≤ nL)
    (body : ∀ (p : Program) (e : Env) (R : Room) (s : State) (m : MethodId) (args : Array Value) (below : List Frame) (meth : Method) (c : Code) (ls : Array Slot), CallFix p m c cc nL s args pv_T y.cls → meth.sig.returnType = ret → meth.locks = false → pz_Z adK adV s → d + 1 = R.frames → 60 * (d + 1) = R.locals → lv_has ls nL (lv_args 0 as) → W p l e R s m args below meth c s.heap [] 0 0 (MQ below (pz_Q r) args s 0 0 pzN) (F0 m 0 ls [])) : pz_M l (d + 1) y cc nL ret adK adV as r := by
  refine Met.ofW (cc := cc) (maxL := nL) (ret := ret) hp rfl ?_
  intro p e s m args below meth c s₁ BB hml hv
  obtain ⟨rfl, hZ⟩ := hv
  have hts := atoms_spec (ws := Cond.code y cc nL ret :: pv_T) BB.pre
  have hown : s.vm.findClass y.cls = some m.cls := findClass_of_methodNamed BB.named
  have hl := lv_entry as (n := nL) hn
  rw [lg_entry_eq]
  exact body p e (headSpec (Cond.code y cc nL ret :: pv_T) (pz_rm (d + 1))).room s m as.toArray below meth c _ ⟨BB.exec, BB.bytes, hml, hown, fun w hw => hts w (List.mem_cons_of_mem _ hw)⟩ BB.returns BB.notSynchronized hZ rfl rfl hl
section PZ
variable {p : Program} {l : Launch} {e : Env} {R : Room} {s : State} {m : MethodId} {args : Array Value} {below : List Frame} {meth : Method} {c : Code} {H : Heap} {locs : List Loc} {cells slots : Nat} {Q : State → Prop} {cc : ByteArray} {nL pc : Nat} {own : String} {ls : Array Slot} {A : Nat → Prop}
/-- a static call of a text's method -/
theorem pz_callS {d n idx nM : Nat} {y : MethodName} {cM : ByteArray} {ret : Option FieldType} {adK adV : Nat → Nat} {as rest : List Value} {r : Int32} (hM : pz_M l d y cM nM ret adK adV as r) (S : CallFix p m c cc nL s args pv_T own) (hS : va_S A s.heap H locs) (hZH : ∀ U : State, s.vm.Alike U.vm → U.heap = H → pz_Z adK adV U) (hcode : Cond.code y cM nM ret ∈ pv_T) (hini : Cond.initialized y.cls ∈ pv_T) (hlink : Cond.methodLink own idx y ∈ pv_T) (hst : Cond.static y ∈ pv_T) (hy : y.cls ≠ "java/lang/invoke/MethodHandle" ∧ y.cls ≠ "java/lang/invoke/VarHandle" ∧ (parseMethodDescriptor y.desc).map (fun d => d.parameters.length) = some n) (hR : d + 1 ≤ R.frames ∧ 8 + (nM + 11) + 60 * d ≤ R.locals) (hn : as.length = n) (hls : ls.size = nL) (hW : (rest.map fun v => v.category).sum ≤ 8) (hd : decode cc pc = .ok (.invokestatic idx, 3)) (hc : cells ≤ R.cells) (hs : slots ≤ R.slots)
    (kk : ∀ (H1 : Heap) (locs1 : List Loc), va_S A s.heap H1 locs1 → H.size ≤ H1.size → (∀ q, q < H.size → H1[q]? = H[q]?) → W p l e R s m args below meth c H1 locs1 cells slots Q (F0 m (pc + 3) ls (.int r :: rest))) : W p l e R s m args below meth c H locs cells slots Q (F0 m pc ls (as.reverse ++ rest)) := by
  have hts := S.2.2.2.2
  refine va_calli (va_runS (mc := 0) (ms := 0) (As := as) (rest := rest) S hM ⟨callB_of n hts (pz_good hcode) rfl rfl rfl (hts _ hini) (hts _ hlink) hy hR, hts _ hst⟩ ⟨pz_blind adK adV as, fun U hU hWm => ⟨rfl, hZH U hWm.alike hU⟩⟩ rfl hn hls rfl (by show 2 * 0 + _ ≤ 8; omega) hd ⟨by omega, by omega⟩) hS (fun _ _ h => h.elim) (fun _ h => h.elim) ?_
  intro r1 u t H1 locs1 _ _ hr _ hsz hkp hS1
  have hr : r1 = r := hr
  subst hr
  exact kk H1 locs1 hS1 hsz (fun q hq => hkp q hq (fun h => h))
/-- a call on a text -/
theorem pz_callV {d n idx nM b : Nat} {y : MethodName} {cM : ByteArray} {ret : Option FieldType} {adK adV : Nat → Nat} {as rest : List Value} {r : Int32} (hM : pz_M l d y cM nM ret adK adV (.ref b :: as) r) (S : CallFix p m c cc nL s args pv_T own) (hS : va_S A s.heap H locs) (hZH : ∀ U : State, s.vm.Alike U.vm → U.heap = H → pz_Z adK adV U) (hrec : ∃ cell : Cell, H[b]? = some cell ∧ cell.vm.isStatics = false ∧ s.vm.findClass y.cls = some cell.cls) (hcode : Cond.code y cM nM ret ∈ pv_T) (hini : Cond.initialized y.cls ∈ pv_T) (hlink : Cond.methodLink own idx y ∈ pv_T) (hst : Cond.instanceMethod y ∈ pv_T) (hsel : Cond.selects y.cls y y ∈ pv_T) (hy : y.cls ≠ "java/lang/invoke/MethodHandle" ∧ y.cls ≠ "java/lang/invoke/VarHandle" ∧ (parseMethodDescriptor y.desc).map (fun d => d.parameters.length) = some n) (hR : d + 1 ≤ R.frames ∧ 8 + (nM + 11) + 60 * d ≤ R.locals) (hn : as.length = n) (hls : ls.size = nL) (hW : (rest.map fun v => v.category).sum ≤ 8) (hd : decode cc pc = .ok (.invokevirtual idx, 3)) (hc : cells ≤ R.cells) (hs : slots ≤ R.slots)
    (kk : ∀ (H1 : Heap) (locs1 : List Loc), va_S A s.heap H1 locs1 → H.size ≤ H1.size → (∀ q, q < H.size → H1[q]? = H[q]?) → W p l e R s m args below meth c H1 locs1 cells slots Q (F0 m (pc + 3) ls (.int r :: rest))) : W p l e R s m args below meth c H locs cells slots Q (F0 m pc ls (as.reverse ++ .ref b :: rest)) := by
  have hts := S.2.2.2.2
  refine va_calli (va_runV (C := y.cls) (mc := 0) (ms := 0) (As := as) (rest := rest) S hM ⟨callB_of n hts (pz_good hcode) rfl rfl rfl (hts _ hini) (hts _ hlink) hy hR, hts _ hst, hts _ hsel⟩ ⟨pz_blind adK adV (.ref b :: as), hrec, fun U hU hWm => ⟨rfl, hZH U hWm.alike hU⟩⟩ rfl hn hls rfl (by show 2 * 0 + _ ≤ 8; omega) hd ⟨by omega, by omega⟩) hS (fun _ _ h => h.elim) (fun _ h => h.elim) ?_
  intro r1 u t H1 locs1 _ _ hr _ hsz hkp hS1
  have hr : r1 = r := hr
  subst hr
  exact kk H1 locs1 hS1 hsz (fun q hq => hkp q hq (fun h => h))
end PZ
