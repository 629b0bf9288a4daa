/-! EVERY CALL KEEPS THE TWO WORLDS -/
theorem LD_fr {W : List Nat} {V : List (Nat × Nat)} {A A' : qA} (h : LD A) (f : frm W V A A') (c : ((noW 34 W && noVf 34 4 V) && (noW 0 W && noVf 0 10 V)) = true) : LD A' := by
  simp only [Bool.and_eq_true] at c
  obtain ⟨⟨a1, a2⟩, ⟨b1, b2⟩⟩ := c
  unfold LD
  rw [frm_f f (by rw [a1, a2]; rfl), frm_f f (by rw [b1, b2]; rfl)]
  exact h
theorem LD_w {A : qA} (h : LD A) : LW A := by
  rcases h with h | h
  · exact Or.inl h.1
  · exact Or.inr h.1
def CI (A : qA) : Prop := iva IC A ∧ ivf JC A ∧ KO A ∧ LD A
def MI (A : qA) : Prop := iva IM A ∧ ivf JM A ∧ WF A ∧ LZ A
def pK (I : qA → Prop) (t : Bool) : qK := fun v A' => (∃ z, v = some (bif t then nl z else ni z)) ∧ I A'
def cK (L : List qY) (I : qA → Prop) (t : Bool) (v : Option Value) (h : pv_H) : Prop := (∃ w : Value, v = some w ∧ (bif t then ∃ y, w = .long y else ∃ x, w = .int x)) ∧ ∃ A', h = qH L A' ∧ qokA L A' ∧ I A'
def qa : Value → qV
  | .int x => ni x.toInt
  | .long y => nl y.toInt
  | .ref n => rf n
  | _ => rf 0
def isV : Value → Bool
  | .int _ => true
  | .long _ => true
  | .ref _ => true
  | _ => false
theorem qa_v {v : Value} (h : isV v = true) : qv (qa v) = v := by
  cases v with
  | int x => show Value.int (Int32.ofInt x.toInt) = _; rw [Int32.ofInt_toInt]
  | long y => show Value.long (Int64.ofInt y.toInt) = _; rw [Int64.ofInt_toInt]
  | ref n => rfl
  | _ => cases h
theorem qa_ok (v : Value) : qok (qa v) := by
  cases v with
  | int x => exact i_rng x
  | long y => exact l_rng y
  | _ => trivial
theorem qa_vs : ∀ {vs : List Value}, vs.all isV = true → (vs.map qa).map qv = vs
  | [], _ => rfl
  | v :: vs, h => by
    simp only [List.all_cons, Bool.and_eq_true] at h
    simp only [List.map_cons, qa_v h.1, qa_vs h.2]
theorem c_of {L : List qY} {I : qA → Prop} {t : Bool} {D j : Nat} {sp : qS} (ok : okM L D j sp) (hD : D ≤ 60) {vs : List Value} (hv : vs.all isV = true) {A : qA} (hA : qokA L A) (hk : sp (vs.map qa) A (pK I t)) : wR 60 j vs (qH L A) (cK L I t) := by
  have h1 := ok 60 hD (vs.map qa) A _ hA (fun v hv9 => by
    obtain ⟨w, _, rfl⟩ := List.mem_map.mp hv9
    exact qa_ok w) hk
  rw [qa_vs hv] at h1
  obtain ⟨F, v, h', e, r, A', rfl, rfl, h2, h3, ⟨z, rfl⟩, h4⟩ := h1
  refine ⟨F, _, _, e, ⟨_, rfl, ?_⟩, A', rfl, h2, h4⟩
  cases t
  · exact ⟨_, rfl⟩
  · exact ⟨_, rfl⟩
def cE (L : List qY) (I : qA → Prop) (x : Int32) (v : Option Value) (h : pv_H) : Prop := v = some (.int x) ∧ ∃ A', h = qH L A' ∧ qokA L A' ∧ I A'
theorem c_eq {L : List qY} {I : qA → Prop} {D j : Nat} {z : Int} {sp : qS} (ok : okM L D j sp) (hD : D ≤ 60) {vs : List Value} (hv : vs.all isV = true) {A : qA} (hA : qokA L A) (hk : sp (vs.map qa) A (fun v A' => v = some (ni z) ∧ I A')) : wR 60 j vs (qH L A) (cE L I (Int32.ofInt z)) := by
  have h1 := ok 60 hD (vs.map qa) A _ hA (fun v hv9 => by
    obtain ⟨w, _, rfl⟩ := List.mem_map.mp hv9
    exact qa_ok w) hk
  rw [qa_vs hv] at h1
  obtain ⟨F, v, h', e, r, A', rfl, rfl, h2, h3, rfl, h4⟩ := h1
  exact ⟨F, _, _, e, rfl, A', rfl, h2, h4⟩
def sC_law : qS := fun as A K => sC_law_36 as A K ∨ sC_law_71 as A K
theorem okC_law : okM LC 46 104 sC_law := okM_or okC_law_36 okC_law_71 (fun _ _ _ h => h)
