/-! EVERY CALL KEEPS THE TWO WORLDS -/
theorem LD_fr {W : List Nat} {V : List (Nat × Nat)} {A A' : qA} (h : LD A) (f : frm W V A A') (c : ((noW 34 W && noVf 34 4 V) && (noW 0 W && noVf 0 10 V)) = true) : LD A' := by
  simp only [Bool.and_eq_true] at c
  obtain ⟨⟨a1, a2⟩, ⟨b1, b2⟩⟩ := c
  unfold LD
  rw [frm_f f (by rw [a1, a2]; rfl), frm_f f (by rw [b1, b2]; rfl)]
  exact h
theorem LD_w {A : qA} (h : LD A) : LW A := by
  rcases h with h | h
  · exact Or.inl h.1
  · exact Or.inr h.1
def CI (A : qA) : Prop := iva IC A ∧ ivf JC A ∧ KO A ∧ LD A
def MI (A : qA) : Prop := iva IM A ∧ ivf JM A ∧ WF A ∧ LZ A
def pK (I : qA → Prop) (t : Bool) : qK := fun v A' => (∃ z, v = some (bif t then nl z else ni z)) ∧ I A'
def cK (L : List qY) (I : qA → Prop) (t : Bool) (v : Option Value) (h : pv_H) : Prop := (∃ w : Value, v = some w ∧ (bif t then ∃ y, w = .long y else ∃ x, w = .int x)) ∧ ∃ A', h = qH L A' ∧ qokA L A' ∧ I A'
def qa : Value → qV
  | .int x => ni x.toInt
  | .long y => nl y.toInt
  | .ref n => rf n
  | _ => rf 0
def isV : Value → Bool
  | .int _ => true
  | .long _ => true
  | .ref _ => true
  | _ => false
theorem qa_v {v : Value} (h : isV v = true) : qv (qa v) = v := by
  cases v with
  | int x => show Value.int (Int32.ofInt x.toInt) = _; rw [Int32.ofInt_toInt]
  | long y => show Value.long (Int64.ofInt y.toInt) = _; rw [Int64.ofInt_toInt]
  | ref n => rfl
  | _ => cases h
theorem qa_ok (v : Value) : qok (qa v) := by
  cases v with
  | int x => exact i_rng x
  | long y => exact l_rng y
  | _ => trivial
theorem qa_vs : ∀ {vs : List Value}, vs.all isV = true → (vs.map qa).map qv = vs
  | [], _ => rfl
  | v :: vs, h => by
    simp only [List.all_cons, Bool.and_eq_true] at h
    simp only [List.map_cons, qa_v h.1, qa_vs h.2]
theorem c_of {L : List qY} {I : qA → Prop} {t : Bool} {D j : Nat} {sp : qS} (ok : okM L D j sp) (hD : D ≤ 60) {vs : List Value} (hv : vs.all isV = true) {A : qA} (hA : qokA L A) (hk : sp (vs.map qa) A (pK I t)) : wR 60 j vs (qH L A) (cK L I t) := by
  have h1 := ok 60 hD (vs.map qa) A _ hA (fun v hv9 => by
    obtain ⟨w, _, rfl⟩ := List.mem_map.mp hv9
    exact qa_ok w) hk
  rw [qa_vs hv] at h1
  obtain ⟨F, v, h', e, r, A', rfl, rfl, h2, h3, ⟨z, rfl⟩, h4⟩ := h1
  refine ⟨F, _, _, e, ⟨_, rfl, ?_⟩, A', rfl, h2, h4⟩
  cases t
  · exact ⟨_, rfl⟩
  · exact ⟨_, rfl⟩
def cE (L : List qY) (I : qA → Prop) (x : Int32) (v : Option Value) (h : pv_H) : Prop := v = some (.int x) ∧ ∃ A', h = qH L A' ∧ qokA L A' ∧ I A'
theorem c_eq {L : List qY} {I : qA → Prop} {D j : Nat} {z : Int} {sp : qS} (ok : okM L D j sp) (hD : D ≤ 60) {vs : List Value} (hv : vs.all isV = true) {A : qA} (hA : qokA L A) (hk : sp (vs.map qa) A (fun v A' => v = some (ni z) ∧ I A')) : wR 60 j vs (qH L A) (cE L I (Int32.ofInt z)) := by
  have h1 := ok 60 hD (vs.map qa) A _ hA (fun v hv9 => by
    obtain ⟨w, _, rfl⟩ := List.mem_map.mp hv9
    exact qa_ok w) hk
  rw [qa_vs hv] at h1
  obtain ⟨F, v, h', e, r, A', rfl, rfl, h2, h3, rfl, h4⟩ := h1
  exact ⟨F, _, _, e, rfl, A', rfl, h2, h4⟩
def sC_law : qS := fun as A K => sC_law_36 as A K ∨ sC_law_71 as A K
theorem okC_law : okM LC 27 104 sC_law := okM_or okC_law_36 okC_law_71 (fun _ _ _ h => h)
theorem kC_hang (x0 : Int32) (x1 : Int32) (x2 : Int32) (x3 : Int32) (x4 : Int32) (x5 : Int32) {A : qA} (hA : qokA LC A) (h : CI A) : wR 60 95 [.ref 0, .int x0, .int x1, .int x2, .int x3, .int x4, .int x5] (qH LC A) (cK LC CI false) :=
  c_of okC_hang (by decide) rfl hA ⟨x0.toInt, x1.toInt, x2.toInt, x3.toInt, x4.toInt, x5.toInt, rfl, ⟨h.1, h.2.1⟩, fun A9 i9 j9 f9 r _ _ => ⟨⟨r, rfl⟩, i9, j9, KO_fr h.2.2.1 f9 rfl, LD_fr h.2.2.2 f9 rfl⟩⟩
theorem kC_knot (x0 : Int32) (x1 : Int32) (x2 : Int32) {A : qA} (hA : qokA LC A) (h : CI A) : wR 60 96 [.ref 0, .int x0, .int x1, .int x2] (qH LC A) (cK LC CI false) :=
  c_of okC_knot (by decide) rfl hA ⟨x0.toInt, x1.toInt, x2.toInt, rfl, ⟨h.1, h.2.1⟩, fun A9 i9 j9 f9 r _ _ => ⟨⟨r, rfl⟩, i9, j9, KO_fr h.2.2.1 f9 rfl, LD_fr h.2.2.2 f9 rfl⟩⟩
theorem kC_kind (x0 : Int32) (x1 : Int32) (x2 : Int32) (x3 : Int32) {A : qA} (hA : qokA LC A) (h : CI A) : wR 60 97 [.ref 0, .int x0, .int x1, .int x2, .int x3] (qH LC A) (cK LC CI false) :=
  c_of okC_kind (by decide) rfl hA ⟨x0.toInt, x1.toInt, x2.toInt, x3.toInt, rfl, ⟨h.1, h.2.1⟩, fun A9 i9 j9 f9 => ⟨fun _ => ⟨⟨1, rfl⟩, i9, j9, KO_fr h.2.2.1 f9 rfl, LD_fr h.2.2.2 f9 rfl⟩, fun _ => ⟨⟨0, rfl⟩, i9, j9, KO_fr h.2.2.1 f9 rfl, LD_fr h.2.2.2 f9 rfl⟩⟩⟩
theorem kC_plant (x0 : Int32) (x1 : Int32) (x2 : Int32) (x3 : Int32) {A : qA} (hA : qokA LC A) (h : CI A) : wR 60 98 [.ref 0, .int x0, .int x1, .int x2, .int x3] (qH LC A) (cK LC CI false) :=
  c_of okC_plant (by decide) rfl hA ⟨x0.toInt, x1.toInt, x2.toInt, x3.toInt, rfl, ⟨h.1, h.2.1⟩, fun A9 i9 j9 f9 r _ _ => ⟨⟨r, rfl⟩, i9, j9, KO_fr h.2.2.1 f9 rfl, LD_fr h.2.2.2 f9 rfl⟩⟩
theorem kC_valve (x0 : Int32) (x1 : Int32) {A : qA} (hA : qokA LC A) (h : CI A) : wR 60 99 [.ref 0, .int x0, .int x1] (qH LC A) (cK LC CI false) :=
  c_of okC_valve (by decide) rfl hA ⟨x0.toInt, x1.toInt, rfl, ⟨h.1, h.2.1⟩, fun A9 i9 j9 f9 => ⟨fun _ => ⟨⟨1, rfl⟩, i9, j9, KO_fr h.2.2.1 f9 rfl, LD_fr h.2.2.2 f9 rfl⟩, fun _ => ⟨⟨0, rfl⟩, i9, j9, KO_fr h.2.2.1 f9 rfl, LD_fr h.2.2.2 f9 rfl⟩⟩⟩
theorem kC_kitchen (x0 : Int32) (x1 : Int32) (x2 : Int32) {A : qA} (hA : qokA LC A) (h : CI A) : wR 60 100 [.ref 0, .int x0, .int x1, .int x2] (qH LC A) (cK LC CI false) :=
  c_of okC_kitchen (by decide) rfl hA ⟨x0.toInt, x1.toInt, x2.toInt, rfl, ⟨h.1, h.2.1⟩, fun A9 i9 j9 f9 => ⟨fun _ => ⟨⟨1, rfl⟩, i9, j9, KO_fr h.2.2.1 f9 rfl, LD_fr h.2.2.2 f9 rfl⟩, fun _ => ⟨⟨0, rfl⟩, i9, j9, KO_fr h.2.2.1 f9 rfl, LD_fr h.2.2.2 f9 rfl⟩⟩⟩
theorem kC_rope (x0 : Int32) (x1 : Int32) (x2 : Int32) {A : qA} (hA : qokA LC A) (h : CI A) : wR 60 101 [.ref 0, .int x0, .int x1, .int x2] (qH LC A) (cK LC CI false) :=
  c_of okC_rope (by decide) rfl hA ⟨x0.toInt, x1.toInt, x2.toInt, rfl, ⟨h.1, h.2.1⟩, fun A9 i9 j9 f9 => ⟨fun _ => ⟨⟨1, rfl⟩, i9, j9, KO_fr h.2.2.1 f9 rfl, LD_fr h.2.2.2 f9 rfl⟩, fun _ => ⟨⟨0, rfl⟩, i9, j9, KO_fr h.2.2.1 f9 rfl, LD_fr h.2.2.2 f9 rfl⟩⟩⟩
theorem kC_seed (x0 : Int32) {A : qA} (hA : qokA LC A) (h : CI A) : wR 60 102 [.ref 0, .int x0] (qH LC A) (cK LC CI false) :=
  c_of okC_seed (by decide) rfl hA ⟨x0.toInt, rfl, ⟨h.1, h.2.1⟩, fun A9 i9 j9 f9 => ⟨fun _ => ⟨⟨1, rfl⟩, i9, j9, KO_fr h.2.2.1 f9 rfl, LD_fr h.2.2.2 f9 rfl⟩, fun _ => ⟨⟨0, rfl⟩, i9, j9, KO_fr h.2.2.1 f9 rfl, LD_fr h.2.2.2 f9 rfl⟩⟩⟩
theorem kC_seedE (x0 : Int32) {A : qA} (hA : qokA LC A) (h : CI A) : wR 60 102 [.ref 0, .int x0] (qH LC A) (cE LC CI (Int32.ofInt (if 0 ≤ x0.toInt ∧ x0.toInt ≤ 65535 then 1 else 0))) :=
  c_eq okC_seed (by decide) rfl hA ⟨x0.toInt, rfl, ⟨h.1, h.2.1⟩, fun A9 i9 j9 f9 => ⟨fun q => ⟨by rw [if_pos q], i9, j9, KO_fr h.2.2.1 f9 rfl, LD_fr h.2.2.2 f9 rfl⟩, fun q => ⟨by rw [if_neg q], i9, j9, KO_fr h.2.2.1 f9 rfl, LD_fr h.2.2.2 f9 rfl⟩⟩⟩
theorem kC_feed (x0 : Int32) (x1 : Int32) (x2 : Int32) (x3 : Int32) (x4 : Int32) {A : qA} (hA : qokA LC A) (h : CI A) : wR 60 103 [.ref 0, .int x0, .int x1, .int x2, .int x3, .int x4] (qH LC A) (cK LC CI false) :=
  c_of okC_feed (by decide) rfl hA ⟨x0.toInt, x1.toInt, x2.toInt, x3.toInt, x4.toInt, rfl, ⟨h.1, h.2.1⟩, fun A9 i9 j9 f9 r _ _ => ⟨⟨r, rfl⟩, i9, j9, KO_fr h.2.2.1 f9 rfl, LD_fr h.2.2.2 f9 rfl⟩⟩
theorem kC_cell (x0 : Int32) (x1 : Int32) (x2 : Int32) {A : qA} (hA : qokA LC A) (h : CI A) : wR 60 105 [.ref 0, .int x0, .int x1, .int x2] (qH LC A) (cK LC CI false) :=
  c_of okC_cell (by decide) rfl hA ⟨x0.toInt, x1.toInt, x2.toInt, rfl, ⟨h.1, h.2.1⟩, fun r _ => ⟨⟨r, rfl⟩, h⟩⟩
theorem kC_byLaw (x0 : Int32) (x1 : Int32) (x2 : Int32) {A : qA} (hA : qokA LC A) (h : CI A) : wR 60 106 [.ref 0, .int x0, .int x1, .int x2] (qH LC A) (cK LC CI false) :=
  c_of okC_byLaw (by decide) rfl hA ⟨x0.toInt, x1.toInt, x2.toInt, rfl, ⟨h.1, h.2.1, (LD_w h.2.2.2), h.2.2.1⟩, fun A9 i9 j9 f9 r _ _ => ⟨⟨r, rfl⟩, i9, j9, KO_fr h.2.2.1 f9 rfl, LD_fr h.2.2.2 f9 rfl⟩⟩
theorem kC_water  {A : qA} (hA : qokA LC A) (h : CI A) : wR 60 107 [.ref 0] (qH LC A) (cK LC CI false) :=
  c_of okC_water (by decide) rfl hA ⟨rfl, ⟨h.1, h.2.1⟩, fun A9 i9 j9 f9 r _ => ⟨⟨r, rfl⟩, i9, j9, KO_fr h.2.2.1 f9 rfl, LD_fr h.2.2.2 f9 rfl⟩⟩
theorem kC_fall (x0 : Int32) (x1 : Int32) {A : qA} (hA : qokA LC A) (h : CI A) : wR 60 108 [.ref 0, .int x0, .int x1] (qH LC A) (cK LC CI false) :=
  c_of okC_fall (by decide) rfl hA ⟨x0.toInt, x1.toInt, rfl, ⟨h.1, h.2.1, (LD_w h.2.2.2), h.2.2.1⟩, fun A9 i9 j9 f9 r _ _ => ⟨⟨r, rfl⟩, i9, j9, KO_fr h.2.2.1 f9 rfl, LD_fr h.2.2.2 f9 rfl⟩⟩
theorem kC_go  {A : qA} (hA : qokA LC A) (h : CI A) : wR 60 109 [.ref 0] (qH LC A) (cK LC CI false) :=
  c_of okC_go (by decide) rfl hA ⟨rfl, ⟨h.1, h.2.1, (LD_w h.2.2.2), h.2.2.1⟩, fun A9 i9 j9 f9 r _ => ⟨⟨r, rfl⟩, i9, j9, KO_fr h.2.2.1 f9 rfl, LD_fr h.2.2.2 f9 rfl⟩⟩
theorem kC_day  {A : qA} (hA : qokA LC A) (h : CI A) : wR 60 110 [.ref 0] (qH LC A) (cK LC CI false) :=
  c_of okC_day (by decide) rfl hA ⟨rfl, ⟨h.1, h.2.1, (LD_w h.2.2.2), h.2.2.1⟩, fun A9 i9 j9 f9 r _ => ⟨⟨r, rfl⟩, i9, j9, KO_fr h.2.2.1 f9 rfl, LD_fr h.2.2.2 f9 rfl⟩⟩
theorem kC_torn (x0 : Int32) (x1 : Int32) {A : qA} (hA : qokA LC A) (h : CI A) : wR 60 111 [.ref 0, .int x0, .int x1] (qH LC A) (cK LC CI true) :=
  c_of okC_torn (by decide) rfl hA ⟨x0.toInt, x1.toInt, rfl, ⟨h.1, h.2.1⟩, fun A9 i9 j9 f9 r _ => ⟨⟨r, rfl⟩, i9, j9, KO_fr h.2.2.1 f9 rfl, LD_fr h.2.2.2 f9 rfl⟩⟩
theorem kC_fallIs (x0 : Int32) (x1 : Int32) {A : qA} (hA : qokA LC A) (h : CI A) : wR 60 112 [.ref 0, .int x0, .int x1] (qH LC A) (cK LC CI false) :=
  c_of okC_fallIs (by decide) rfl hA ⟨x0.toInt, x1.toInt, rfl, ⟨h.1, h.2.1⟩, fun r _ => ⟨⟨r, rfl⟩, h⟩⟩
theorem kC_claimed (x0 : Int32) (x1 : Int32) {A : qA} (hA : qokA LC A) (h : CI A) : wR 60 113 [.ref 0, .int x0, .int x1] (qH LC A) (cK LC CI false) :=
  c_of okC_claimed (by decide) rfl hA ⟨x0.toInt, x1.toInt, rfl, ⟨h.1, h.2.1, (LD_w h.2.2.2), h.2.2.1⟩, fun A9 i9 j9 f9 r _ _ => ⟨⟨r, rfl⟩, i9, j9, KO_fr h.2.2.1 f9 rfl, LD_fr h.2.2.2 f9 rfl⟩⟩
theorem kC_right (x0 : Int32) (x1 : Int32) {A : qA} (hA : qokA LC A) (h : CI A) : wR 60 114 [.ref 0, .int x0, .int x1] (qH LC A) (cK LC CI false) :=
  c_of okC_right (by decide) rfl hA ⟨x0.toInt, x1.toInt, rfl, ⟨h.1, h.2.1, (LD_w h.2.2.2), h.2.2.1⟩, fun A9 i9 j9 f9 r _ => ⟨⟨r, rfl⟩, i9, j9, KO_fr h.2.2.1 f9 rfl, LD_fr h.2.2.2 f9 rfl⟩⟩
theorem kC_food (x0 : Int32) {A : qA} (hA : qokA LC A) (h : CI A) : wR 60 115 [.ref 0, .int x0] (qH LC A) (cK LC CI false) :=
  c_of okC_food (by decide) rfl hA ⟨x0.toInt, rfl, ⟨h.1, h.2.1⟩, fun r _ => ⟨⟨r, rfl⟩, h⟩⟩
theorem kC_kitchenIs (x0 : Int32) (x1 : Int32) {A : qA} (hA : qokA LC A) (h : CI A) : wR 60 116 [.ref 0, .int x0, .int x1] (qH LC A) (cK LC CI false) :=
  c_of okC_kitchenIs (by decide) rfl hA ⟨x0.toInt, x1.toInt, rfl, ⟨h.1, h.2.1⟩, fun r _ => ⟨⟨r, rfl⟩, h⟩⟩
theorem kC_mayWork (x0 : Int32) (x1 : Int32) (x2 : Int32) {A : qA} (hA : qokA LC A) (h : CI A) : wR 60 117 [.ref 0, .int x0, .int x1, .int x2] (qH LC A) (cK LC CI false) :=
  c_of okC_mayWork (by decide) rfl hA ⟨x0.toInt, x1.toInt, x2.toInt, rfl, ⟨h.1, h.2.1⟩, fun r _ _ => ⟨⟨r, rfl⟩, h⟩⟩
theorem kC_work (x0 : Int32) (x1 : Int32) (x2 : Int64) (x3 : Int32) {A : qA} (hA : qokA LC A) (h : CI A) : wR 60 118 [.ref 0, .int x0, .int x1, .long x2, .int x3] (qH LC A) (cK LC CI false) :=
  c_of okC_work (by decide) rfl hA ⟨x0.toInt, x1.toInt, x2.toInt, x3.toInt, rfl, ⟨h.1, h.2.1⟩, fun A9 i9 j9 f9 r _ => ⟨⟨r, rfl⟩, i9, j9, KO_fr h.2.2.1 f9 rfl, LD_fr h.2.2.2 f9 rfl⟩⟩
theorem kC_pollen (x0 : Int32) (x1 : Int32) (x2 : Int32) (x3 : Int32) (x4 : Int32) {A : qA} (hA : qokA LC A) (h : CI A) : wR 60 119 [.ref 0, .int x0, .int x1, .int x2, .int x3, .int x4] (qH LC A) (cK LC CI true) :=
  c_of okC_pollen (by decide) rfl hA ⟨x0.toInt, x1.toInt, x2.toInt, x3.toInt, x4.toInt, rfl, ⟨h.1, h.2.1⟩, fun A9 i9 j9 f9 r _ => ⟨⟨r, rfl⟩, i9, j9, KO_fr h.2.2.1 f9 rfl, LD_fr h.2.2.2 f9 rfl⟩⟩
theorem kC_pollinate (x0 : Int32) (x1 : Int32) {A : qA} (hA : qokA LC A) (h : CI A) : wR 60 120 [.ref 0, .int x0, .int x1] (qH LC A) (cK LC CI false) :=
  c_of okC_pollinate (by decide) rfl hA ⟨x0.toInt, x1.toInt, rfl, ⟨h.1, h.2.1⟩, fun A9 i9 j9 f9 r _ => ⟨⟨r, rfl⟩, i9, j9, KO_fr h.2.2.1 f9 rfl, LD_fr h.2.2.2 f9 rfl⟩⟩
theorem kC_planted (x0 : Int64) (x1 : Int32) {A : qA} (hA : qokA LC A) (h : CI A) : wR 60 121 [.ref 0, .long x0, .int x1] (qH LC A) (cK LC CI false) :=
  c_of okC_planted (by decide) rfl hA ⟨x0.toInt, x1.toInt, rfl, ⟨h.1, h.2.1⟩, fun A9 i9 j9 f9 r _ => ⟨⟨r, rfl⟩, i9, j9, KO_fr h.2.2.1 f9 rfl, LD_fr h.2.2.2 f9 rfl⟩⟩
theorem kC_drought (x0 : Int32) (x1 : Int32) (x2 : Int32) {A : qA} (hA : qokA LC A) (h : CI A) : wR 60 122 [.ref 0, .int x0, .int x1, .int x2] (qH LC A) (cK LC CI false) :=
  c_of okC_drought (by decide) rfl hA ⟨x0.toInt, x1.toInt, x2.toInt, rfl, ⟨h.1, h.2.1, (LD_w h.2.2.2), h.2.2.1⟩, fun A9 i9 j9 f9 r _ => ⟨⟨r, rfl⟩, i9, j9, KO_fr h.2.2.1 f9 rfl, LD_fr h.2.2.2 f9 rfl⟩⟩
theorem kC_mended (x0 : Int64) (x1 : Int32) {A : qA} (hA : qokA LC A) (h : CI A) : wR 60 123 [.ref 0, .long x0, .int x1] (qH LC A) (cK LC CI false) :=
  c_of okC_mended (by decide) rfl hA ⟨x0.toInt, x1.toInt, rfl, ⟨h.1, h.2.1⟩, fun A9 i9 j9 f9 r _ => ⟨⟨r, rfl⟩, i9, j9, KO_fr h.2.2.1 f9 rfl, LD_fr h.2.2.2 f9 rfl⟩⟩
theorem kC_hail (x0 : Int32) {A : qA} (hA : qokA LC A) (h : CI A) : wR 60 124 [.ref 0, .int x0] (qH LC A) (cK LC CI false) :=
  c_of okC_hail (by decide) rfl hA ⟨x0.toInt, rfl, ⟨h.1, h.2.1⟩, fun r _ _ => ⟨⟨r, rfl⟩, h⟩⟩
theorem kC_check (x0 : Int32) (x1 : Int32) {A : qA} (hA : qokA LC A) (h : CI A) : wR 60 125 [.ref 0, .int x0, .int x1] (qH LC A) (cK LC CI false) :=
  c_of okC_check (by decide) rfl hA ⟨x0.toInt, x1.toInt, rfl, ⟨h.1, h.2.1⟩, fun A9 i9 j9 f9 r _ => ⟨⟨r, rfl⟩, i9, j9, KO_fr h.2.2.1 f9 rfl, LD_fr h.2.2.2 f9 rfl⟩⟩
theorem kC_count (x0 : Int32) {A : qA} (hA : qokA LC A) (h : CI A) : wR 60 126 [.ref 0, .int x0] (qH LC A) (cK LC CI false) :=
  c_of okC_count (by decide) rfl hA ⟨x0.toInt, rfl, ⟨h.1, h.2.1, (LD_w h.2.2.2)⟩, fun r _ => ⟨⟨r, rfl⟩, h⟩⟩
theorem kC_law (x0 : Int32) {A : qA} (hA : qokA LC A) (h : CI A) : wR 60 104 [.ref 0, .int x0] (qH LC A) (cK LC CI false) := by
  refine c_of okC_law (by decide) rfl hA ?_
  rcases h.2.2.2 with q | q
  · exact Or.inr ⟨x0.toInt, rfl, ⟨h.1, h.2.1, ⟨by omega, by omega⟩, ⟨by omega, by omega⟩, h.2.2.1⟩, fun A9 i9 j9 f9 r _ g0 g1 => ⟨⟨r, rfl⟩, i9, j9, g0, g1⟩⟩
  · exact Or.inl ⟨x0.toInt, rfl, ⟨h.1, h.2.1, ⟨by omega, by omega⟩, ⟨by omega, by omega⟩, h.2.2.1⟩, fun A9 i9 j9 f9 r _ g0 g1 => ⟨⟨r, rfl⟩, i9, j9, g0, g1⟩⟩
theorem kM_hang (x0 : Int32) (x1 : Int32) (x2 : Int32) (x3 : Int32) (x4 : Int32) (x5 : Int32) {A : qA} (hA : qokA LM A) (h : MI A) : wR 60 151 [.ref 0, .int x0, .int x1, .int x2, .int x3, .int x4, .int x5] (qH LM A) (cK LM MI false) :=
  c_of okM_hang (by decide) rfl hA ⟨x0.toInt, x1.toInt, x2.toInt, x3.toInt, x4.toInt, x5.toInt, rfl, ⟨h.1, h.2.1⟩, fun A9 i9 j9 f9 r _ _ => ⟨⟨r, rfl⟩, i9, j9, WF_fr h.2.2.1 f9 rfl, LZ_fr h.2.2.2 f9 rfl⟩⟩
theorem kM_knot (x0 : Int32) (x1 : Int32) (x2 : Int32) {A : qA} (hA : qokA LM A) (h : MI A) : wR 60 153 [.ref 0, .int x0, .int x1, .int x2] (qH LM A) (cK LM MI false) :=
  c_of okM_knot (by decide) rfl hA ⟨x0.toInt, x1.toInt, x2.toInt, rfl, ⟨h.1, h.2.1⟩, fun A9 i9 j9 f9 r _ _ => ⟨⟨r, rfl⟩, i9, j9, WF_fr h.2.2.1 f9 rfl, LZ_fr h.2.2.2 f9 rfl⟩⟩
theorem kM_kind (x0 : Int32) (x1 : Int32) (x2 : Int32) (x3 : Int32) {A : qA} (hA : qokA LM A) (h : MI A) : wR 60 154 [.ref 0, .int x0, .int x1, .int x2, .int x3] (qH LM A) (cK LM MI false) :=
  c_of okM_kind (by decide) rfl hA ⟨x0.toInt, x1.toInt, x2.toInt, x3.toInt, rfl, ⟨h.1, h.2.1⟩, fun A9 i9 j9 f9 => ⟨fun _ => ⟨⟨1, rfl⟩, i9, j9, WF_fr h.2.2.1 f9 rfl, LZ_fr h.2.2.2 f9 rfl⟩, fun _ => ⟨⟨0, rfl⟩, i9, j9, WF_fr h.2.2.1 f9 rfl, LZ_fr h.2.2.2 f9 rfl⟩⟩⟩
theorem kM_plant (x0 : Int32) (x1 : Int32) (x2 : Int32) (x3 : Int32) {A : qA} (hA : qokA LM A) (h : MI A) : wR 60 155 [.ref 0, .int x0, .int x1, .int x2, .int x3] (qH LM A) (cK LM MI false) :=
  c_of okM_plant (by decide) rfl hA ⟨x0.toInt, x1.toInt, x2.toInt, x3.toInt, rfl, ⟨h.1, h.2.1⟩, fun A9 i9 j9 f9 r _ _ => ⟨⟨r, rfl⟩, i9, j9, WF_fr h.2.2.1 f9 rfl, LZ_fr h.2.2.2 f9 rfl⟩⟩
theorem kM_valve (x0 : Int32) (x1 : Int32) {A : qA} (hA : qokA LM A) (h : MI A) : wR 60 156 [.ref 0, .int x0, .int x1] (qH LM A) (cK LM MI false) :=
  c_of okM_valve (by decide) rfl hA ⟨x0.toInt, x1.toInt, rfl, ⟨h.1, h.2.1⟩, fun A9 i9 j9 f9 => ⟨fun _ => ⟨⟨1, rfl⟩, i9, j9, WF_fr h.2.2.1 f9 rfl, LZ_fr h.2.2.2 f9 rfl⟩, fun _ => ⟨⟨0, rfl⟩, i9, j9, WF_fr h.2.2.1 f9 rfl, LZ_fr h.2.2.2 f9 rfl⟩⟩⟩
theorem kM_kitchen (x0 : Int32) (x1 : Int32) (x2 : Int32) {A : qA} (hA : qokA LM A) (h : MI A) : wR 60 157 [.ref 0, .int x0, .int x1, .int x2] (qH LM A) (cK LM MI false) :=
  c_of okM_kitchen (by decide) rfl hA ⟨x0.toInt, x1.toInt, x2.toInt, rfl, ⟨h.1, h.2.1⟩, fun A9 i9 j9 f9 => ⟨fun _ => ⟨⟨1, rfl⟩, i9, j9, WF_fr h.2.2.1 f9 rfl, LZ_fr h.2.2.2 f9 rfl⟩, fun _ => ⟨⟨0, rfl⟩, i9, j9, WF_fr h.2.2.1 f9 rfl, LZ_fr h.2.2.2 f9 rfl⟩⟩⟩
theorem kM_rope (x0 : Int32) (x1 : Int32) (x2 : Int32) {A : qA} (hA : qokA LM A) (h : MI A) : wR 60 158 [.ref 0, .int x0, .int x1, .int x2] (qH LM A) (cK LM MI false) :=
  c_of okM_rope (by decide) rfl hA ⟨x0.toInt, x1.toInt, x2.toInt, rfl, ⟨h.1, h.2.1⟩, fun A9 i9 j9 f9 => ⟨fun _ => ⟨⟨1, rfl⟩, i9, j9, WF_fr h.2.2.1 f9 rfl, LZ_fr h.2.2.2 f9 rfl⟩, fun _ => ⟨⟨0, rfl⟩, i9, j9, WF_fr h.2.2.1 f9 rfl, LZ_fr h.2.2.2 f9 rfl⟩⟩⟩
theorem kM_seed (x0 : Int32) {A : qA} (hA : qokA LM A) (h : MI A) : wR 60 159 [.ref 0, .int x0] (qH LM A) (cK LM MI false) :=
  c_of okM_seed (by decide) rfl hA ⟨x0.toInt, rfl, ⟨h.1, h.2.1⟩, fun A9 i9 j9 f9 => ⟨fun _ => ⟨⟨1, rfl⟩, i9, j9, WF_fr h.2.2.1 f9 rfl, LZ_fr h.2.2.2 f9 rfl⟩, fun _ => ⟨⟨0, rfl⟩, i9, j9, WF_fr h.2.2.1 f9 rfl, LZ_fr h.2.2.2 f9 rfl⟩⟩⟩
theorem kM_seedE (x0 : Int32) {A : qA} (hA : qokA LM A) (h : MI A) : wR 60 159 [.ref 0, .int x0] (qH LM A) (cE LM MI (Int32.ofInt (if 0 ≤ x0.toInt ∧ x0.toInt ≤ 65535 then 1 else 0))) :=
  c_eq okM_seed (by decide) rfl hA ⟨x0.toInt, rfl, ⟨h.1, h.2.1⟩, fun A9 i9 j9 f9 => ⟨fun q => ⟨by rw [if_pos q], i9, j9, WF_fr h.2.2.1 f9 rfl, LZ_fr h.2.2.2 f9 rfl⟩, fun q => ⟨by rw [if_neg q], i9, j9, WF_fr h.2.2.1 f9 rfl, LZ_fr h.2.2.2 f9 rfl⟩⟩⟩
theorem kM_feed (x0 : Int32) (x1 : Int32) (x2 : Int32) (x3 : Int32) (x4 : Int32) {A : qA} (hA : qokA LM A) (h : MI A) : wR 60 161 [.ref 0, .int x0, .int x1, .int x2, .int x3, .int x4] (qH LM A) (cK LM MI false) :=
  c_of okM_feed (by decide) rfl hA ⟨x0.toInt, x1.toInt, x2.toInt, x3.toInt, x4.toInt, rfl, ⟨h.1, h.2.1⟩, fun A9 i9 j9 f9 r _ _ => ⟨⟨r, rfl⟩, i9, j9, WF_fr h.2.2.1 f9 rfl, LZ_fr h.2.2.2 f9 rfl⟩⟩
theorem kM_law (x0 : Int32) {A : qA} (hA : qokA LM A) (h : MI A) : wR 60 183 [.ref 0, .int x0] (qH LM A) (cK LM MI false) :=
  c_of okM_law (by decide) rfl hA ⟨x0.toInt, rfl, ⟨h.1, h.2.1, h.2.2.1⟩, fun A9 i9 j9 f9 r _ g0 => ⟨⟨r, rfl⟩, i9, j9, g0, LZ_fr h.2.2.2 f9 rfl⟩⟩
theorem kM_cell (x0 : Int32) (x1 : Int32) (x2 : Int32) {A : qA} (hA : qokA LM A) (h : MI A) : wR 60 199 [.ref 0, .int x0, .int x1, .int x2] (qH LM A) (cK LM MI false) :=
  c_of okM_cell (by decide) rfl hA ⟨x0.toInt, x1.toInt, x2.toInt, rfl, ⟨h.1, h.2.1⟩, fun r _ => ⟨⟨r, rfl⟩, h⟩⟩
theorem kM_byLaw (x0 : Int32) (x1 : Int32) (x2 : Int32) {A : qA} (hA : qokA LM A) (h : MI A) : wR 60 192 [.ref 0, .int x0, .int x1, .int x2] (qH LM A) (cK LM MI false) :=
  c_of okM_byLaw (by decide) rfl hA ⟨x0.toInt, x1.toInt, x2.toInt, rfl, ⟨h.1, h.2.1, h.2.2.1⟩, fun A9 i9 j9 f9 r _ _ => ⟨⟨r, rfl⟩, i9, j9, WF_fr h.2.2.1 f9 rfl, LZ_fr h.2.2.2 f9 rfl⟩⟩
theorem kM_water  {A : qA} (hA : qokA LM A) (h : MI A) : wR 60 196 [.ref 0] (qH LM A) (cK LM MI false) :=
  c_of okM_water (by decide) rfl hA ⟨rfl, ⟨h.1, h.2.1⟩, fun A9 i9 j9 f9 r _ => ⟨⟨r, rfl⟩, i9, j9, WF_fr h.2.2.1 f9 rfl, LZ_fr h.2.2.2 f9 rfl⟩⟩
theorem kM_fall (x0 : Int32) (x1 : Int32) {A : qA} (hA : qokA LM A) (h : MI A) : wR 60 203 [.ref 0, .int x0, .int x1] (qH LM A) (cK LM MI false) :=
  c_of okM_fall (by decide) rfl hA ⟨x0.toInt, x1.toInt, rfl, ⟨h.1, h.2.1, h.2.2.1, h.2.2.2⟩, fun A9 i9 j9 f9 r _ _ g0 => ⟨⟨r, rfl⟩, i9, j9, WF_fr h.2.2.1 f9 rfl, g0⟩⟩
theorem kM_go  {A : qA} (hA : qokA LM A) (h : MI A) : wR 60 207 [.ref 0] (qH LM A) (cK LM MI false) :=
  c_of okM_go (by decide) rfl hA ⟨rfl, ⟨h.1, h.2.1, h.2.2.1, h.2.2.2⟩, fun A9 i9 j9 f9 r _ g0 => ⟨⟨r, rfl⟩, i9, j9, WF_fr h.2.2.1 f9 rfl, g0⟩⟩
theorem kM_day  {A : qA} (hA : qokA LM A) (h : MI A) : wR 60 209 [.ref 0] (qH LM A) (cK LM MI false) :=
  c_of okM_day (by decide) rfl hA ⟨rfl, ⟨h.1, h.2.1, h.2.2.1, h.2.2.2⟩, fun A9 i9 j9 f9 r _ g0 => ⟨⟨r, rfl⟩, i9, j9, WF_fr h.2.2.1 f9 rfl, g0⟩⟩
theorem kM_torn (x0 : Int32) (x1 : Int32) {A : qA} (hA : qokA LM A) (h : MI A) : wR 60 208 [.ref 0, .int x0, .int x1] (qH LM A) (cK LM MI true) :=
  c_of okM_torn (by decide) rfl hA ⟨x0.toInt, x1.toInt, rfl, ⟨h.1, h.2.1, h.2.2.1, h.2.2.2⟩, fun A9 i9 j9 f9 r _ g0 => ⟨⟨r, rfl⟩, i9, j9, WF_fr h.2.2.1 f9 rfl, g0⟩⟩
theorem kM_fallIs (x0 : Int32) (x1 : Int32) {A : qA} (hA : qokA LM A) (h : MI A) : wR 60 211 [.ref 0, .int x0, .int x1] (qH LM A) (cK LM MI false) :=
  c_of okM_fallIs (by decide) rfl hA ⟨x0.toInt, x1.toInt, rfl, ⟨h.1, h.2.1⟩, fun r _ => ⟨⟨r, rfl⟩, h⟩⟩
theorem kM_claimed (x0 : Int32) (x1 : Int32) {A : qA} (hA : qokA LM A) (h : MI A) : wR 60 213 [.ref 0, .int x0, .int x1] (qH LM A) (cK LM MI false) :=
  c_of okM_claimed (by decide) rfl hA ⟨x0.toInt, x1.toInt, rfl, ⟨h.1, h.2.1, h.2.2.1⟩, fun A9 i9 j9 f9 r _ _ => ⟨⟨r, rfl⟩, i9, j9, WF_fr h.2.2.1 f9 rfl, LZ_fr h.2.2.2 f9 rfl⟩⟩
theorem kM_right (x0 : Int32) (x1 : Int32) {A : qA} (hA : qokA LM A) (h : MI A) : wR 60 214 [.ref 0, .int x0, .int x1] (qH LM A) (cK LM MI false) :=
  c_of okM_right (by decide) rfl hA ⟨x0.toInt, x1.toInt, rfl, ⟨h.1, h.2.1, h.2.2.1, h.2.2.2⟩, fun A9 i9 j9 f9 r _ g0 => ⟨⟨r, rfl⟩, i9, j9, WF_fr h.2.2.1 f9 rfl, g0⟩⟩
theorem kM_food (x0 : Int32) {A : qA} (hA : qokA LM A) (h : MI A) : wR 60 215 [.ref 0, .int x0] (qH LM A) (cK LM MI false) :=
  c_of okM_food (by decide) rfl hA ⟨x0.toInt, rfl, ⟨h.1, h.2.1⟩, fun r _ => ⟨⟨r, rfl⟩, h⟩⟩
theorem kM_kitchenIs (x0 : Int32) (x1 : Int32) {A : qA} (hA : qokA LM A) (h : MI A) : wR 60 216 [.ref 0, .int x0, .int x1] (qH LM A) (cK LM MI false) :=
  c_of okM_kitchenIs (by decide) rfl hA ⟨x0.toInt, x1.toInt, rfl, ⟨h.1, h.2.1⟩, fun r _ => ⟨⟨r, rfl⟩, h⟩⟩
theorem kM_mayWork (x0 : Int32) (x1 : Int32) (x2 : Int32) {A : qA} (hA : qokA LM A) (h : MI A) : wR 60 219 [.ref 0, .int x0, .int x1, .int x2] (qH LM A) (cK LM MI false) :=
  c_of okM_mayWork (by decide) rfl hA ⟨x0.toInt, x1.toInt, x2.toInt, rfl, ⟨h.1, h.2.1⟩, fun r _ _ => ⟨⟨r, rfl⟩, h⟩⟩
theorem kM_work (x0 : Int32) (x1 : Int32) (x2 : Int64) (x3 : Int32) {A : qA} (hA : qokA LM A) (h : MI A) : wR 60 223 [.ref 0, .int x0, .int x1, .long x2, .int x3] (qH LM A) (cK LM MI false) :=
  c_of okM_work (by decide) rfl hA ⟨x0.toInt, x1.toInt, x2.toInt, x3.toInt, rfl, ⟨h.1, h.2.1⟩, fun A9 i9 j9 f9 r _ => ⟨⟨r, rfl⟩, i9, j9, WF_fr h.2.2.1 f9 rfl, LZ_fr h.2.2.2 f9 rfl⟩⟩
theorem kM_pollen (x0 : Int32) (x1 : Int32) (x2 : Int32) (x3 : Int32) (x4 : Int32) {A : qA} (hA : qokA LM A) (h : MI A) : wR 60 229 [.ref 0, .int x0, .int x1, .int x2, .int x3, .int x4] (qH LM A) (cK LM MI true) :=
  c_of okM_pollen (by decide) rfl hA ⟨x0.toInt, x1.toInt, x2.toInt, x3.toInt, x4.toInt, rfl, ⟨h.1, h.2.1⟩, fun A9 i9 j9 f9 r _ => ⟨⟨r, rfl⟩, i9, j9, WF_fr h.2.2.1 f9 rfl, LZ_fr h.2.2.2 f9 rfl⟩⟩
theorem kM_pollinate (x0 : Int32) (x1 : Int32) {A : qA} (hA : qokA LM A) (h : MI A) : wR 60 230 [.ref 0, .int x0, .int x1] (qH LM A) (cK LM MI false) :=
  c_of okM_pollinate (by decide) rfl hA ⟨x0.toInt, x1.toInt, rfl, ⟨h.1, h.2.1⟩, fun A9 i9 j9 f9 r _ => ⟨⟨r, rfl⟩, i9, j9, WF_fr h.2.2.1 f9 rfl, LZ_fr h.2.2.2 f9 rfl⟩⟩
theorem kM_planted (x0 : Int64) (x1 : Int32) {A : qA} (hA : qokA LM A) (h : MI A) : wR 60 233 [.ref 0, .long x0, .int x1] (qH LM A) (cK LM MI false) :=
  c_of okM_planted (by decide) rfl hA ⟨x0.toInt, x1.toInt, rfl, ⟨h.1, h.2.1⟩, fun A9 i9 j9 f9 r _ => ⟨⟨r, rfl⟩, i9, j9, WF_fr h.2.2.1 f9 rfl, LZ_fr h.2.2.2 f9 rfl⟩⟩
theorem kM_drought (x0 : Int32) (x1 : Int32) (x2 : Int32) {A : qA} (hA : qokA LM A) (h : MI A) : wR 60 235 [.ref 0, .int x0, .int x1, .int x2] (qH LM A) (cK LM MI false) :=
  c_of okM_drought (by decide) rfl hA ⟨x0.toInt, x1.toInt, x2.toInt, rfl, ⟨h.1, h.2.1, h.2.2.1⟩, fun A9 i9 j9 f9 r _ => ⟨⟨r, rfl⟩, i9, j9, WF_fr h.2.2.1 f9 rfl, LZ_fr h.2.2.2 f9 rfl⟩⟩
theorem kM_mended (x0 : Int64) (x1 : Int32) {A : qA} (hA : qokA LM A) (h : MI A) : wR 60 241 [.ref 0, .long x0, .int x1] (qH LM A) (cK LM MI false) :=
  c_of okM_mended (by decide) rfl hA ⟨x0.toInt, x1.toInt, rfl, ⟨h.1, h.2.1⟩, fun A9 i9 j9 f9 r _ => ⟨⟨r, rfl⟩, i9, j9, WF_fr h.2.2.1 f9 rfl, LZ_fr h.2.2.2 f9 rfl⟩⟩
theorem kM_hail (x0 : Int32) {A : qA} (hA : qokA LM A) (h : MI A) : wR 60 243 [.ref 0, .int x0] (qH LM A) (cK LM MI false) :=
  c_of okM_hail (by decide) rfl hA ⟨x0.toInt, rfl, ⟨h.1, h.2.1⟩, fun r _ _ => ⟨⟨r, rfl⟩, h⟩⟩
theorem kM_check (x0 : Int32) (x1 : Int32) {A : qA} (hA : qokA LM A) (h : MI A) : wR 60 245 [.ref 0, .int x0, .int x1] (qH LM A) (cK LM MI false) :=
  c_of okM_check (by decide) rfl hA ⟨x0.toInt, x1.toInt, rfl, ⟨h.1, h.2.1⟩, fun A9 i9 j9 f9 r _ => ⟨⟨r, rfl⟩, i9, j9, WF_fr h.2.2.1 f9 rfl, LZ_fr h.2.2.2 f9 rfl⟩⟩
theorem kM_count (x0 : Int32) {A : qA} (hA : qokA LM A) (h : MI A) : wR 60 247 [.ref 0, .int x0] (qH LM A) (cK LM MI false) :=
  c_of okM_count (by decide) rfl hA ⟨x0.toInt, rfl, ⟨h.1, h.2.1⟩, fun r _ => ⟨⟨r, rfl⟩, h⟩⟩
