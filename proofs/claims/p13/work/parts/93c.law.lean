/-! THE LAW'S WALK: what it loads -/
theorem lw_arr {args : Array Value} {s : State} {ty : FieldType} (hty : ∀ C, ty ≠ .object C) (h : (Cond.arrayClass ty).before args s = true) : ∃ c, ArrOfT s c ty ∧ va_RA s c ty := by
  obtain ⟨c, k, comp, h1, h2, h3⟩ := Cond.arrayClass_spec h
  refine ⟨c, fun n z => ?_, ?_⟩
  · simp [State.isArrayOf, arrV, h2, h3]
  · cases ty <;> first | exact h1 | exact absurd rfl (hty _)
theorem lw_known {args : Array Value} {s : State} (hts : ∀ w ∈ lw_tbl, w.before args s = true) (hi : ∀ (ci : Nat) (q : vw_C), vwCl[ci]? = some q → Cond.instantiable q.1 q.2.2 ∈ lw_tbl) : ∃ (D : va_G) (cA : Nat → ClassId), pv_K D cA s := by
  have hT : ∀ w ∈ pv_T, w.before args s = true := fun w hw => hts w (List.mem_filter.mp hw).1
  have h1 : ∀ ci : Nat, ∃ d : ClassId × (Nat → Nat), ∀ q, vwCl[ci]? = some q → u_Kn s q.1 q.2.1 q.2.2 d.1 d.2 := by
    intro ci
    cases hq : vwCl[ci]? with
    | none => exact ⟨(0, fun _ => 0), fun q h => by cases h⟩
    | some q =>
      obtain ⟨a, b, h⟩ := u_known hT (pv_cl ci hq).1 (hts _ (hi ci q hq))
      exact ⟨(a, b), fun q' h' => by cases h'; exact h⟩
  obtain ⟨fD, hD⟩ := Classical.axiomOfChoice h1
  obtain ⟨a0, b0⟩ := lw_arr (ty := .int) (fun C h => by cases h) (hT _ pv_arr.1)
  obtain ⟨a1, b1⟩ := lw_arr (ty := .boolean) (fun C h => by cases h) (hT _ pv_arr.2.1)
  obtain ⟨a2, b2⟩ := lw_arr (ty := .byte) (fun C h => by cases h) (hT _ pv_arr.2.2.1)
  obtain ⟨a3, b3⟩ := lw_arr (ty := .long) (fun C h => by cases h) (hT _ pv_arr.2.2.2)
  refine ⟨(fun k => (fD k).1, fun k => (fD k).2), fun t => match t with | 0 => a0 | 1 => a1 | 2 => a2 | _ => a3, ⟨fun c q hq => hD c q hq, fun k q hq => ?_⟩, fun w hw => ?_⟩
  · match k, hq with
    | 0, hq => cases hq; exact b0
    | 1, hq => cases hq; exact b1
    | 2, hq => cases hq; exact b2
    | 3, hq => cases hq; exact b3
  · have h2 := List.mem_filter.mp hw
    cases w <;> first | (cases h2.2; done) | exact hts _ h2.1
/-- an argument: number k of the script, or the long of numbers k and k + 1 -/
def lw_val (xs : Nat → Int32) (q : Nat × Bool) : Value := bif q.2 then .long (((xs q.1).toInt64 <<< (((Int8.ofInt 32).toInt32).toInt64 &&& 63)) ||| ((xs (q.1 + 1)).toInt64 &&& 4294967295)) else .int (xs q.1)
def lw_ok1 (pc k : Nat) : Bool := decide (decode code pc = .ok (.aload_n 0, 1) ∧ decode code (pc + 1) = .ok (.iload_n 3, 1) ∧ (k < 6 ∧ decode code (pc + 2) = .ok (.iconst k, 1) ∧ decode code (pc + 3) = .ok (.iadd, 1) ∧ decode code (pc + 4) = .ok (.iaload, 1) ∨ k = 6 ∧ decode code (pc + 2) = .ok (.bipush 6, 2) ∧ decode code (pc + 4) = .ok (.iadd, 1) ∧ decode code (pc + 5) = .ok (.iaload, 1)))
def lw_n1 (k : Nat) : Nat := bif Nat.blt k 6 then 5 else 6
def lw_okl (pc k idx : Nat) : Bool := lw_ok1 pc k && (lw_ok1 (pc + 9) (k + 1) && decide (k < 5 ∧ decode code (pc + 5) = .ok (.i2l, 1) ∧ decode code (pc + 6) = .ok (.bipush 32, 2) ∧ decode code (pc + 8) = .ok (.lshl, 1) ∧ decode code (pc + 14) = .ok (.i2l, 1) ∧ decode code (pc + 15) = .ok (.ldc2_w idx, 3) ∧ decode code (pc + 18) = .ok (.land, 1) ∧ decode code (pc + 19) = .ok (.lor, 1)))
def lw_chk (idx : Nat) : Nat → List (Nat × Bool) → Option Nat
  | pc, [] => some pc
  | pc, (k, false) :: r => bif lw_ok1 pc k then lw_chk idx (pc + lw_n1 k) r else none
  | pc, (k, true) :: r => bif lw_okl pc k idx then lw_chk idx (pc + 20) r else none
section LAW2
variable {p : Program} {l : Launch} {e : Env} {R : Room} {s : State} {m : MethodId} {below : List Frame} {meth : Method} {c : Code} {H : Heap} {locs : List Loc} {cells slots : Nat} {Q : State → Prop} {b : Nat} {xs : Nat → Int32} {ls : Array Slot} {lv : List (Nat × Value)}
/-- where the law stands: the code, its script, its locals, at the call from number i on -/
def lw_In (p : Program) (s : State) (m : MethodId) (c : Code) (b L i : Nat) (xs : Nat → Int32) (ls : Array Slot) (B : Nat) : Prop := CallFix p m c code 4 s #[.ref b] pv_T R_law ∧ va_X b L xs s s.heap ∧ b < s.heap.size ∧ lv_has ls 4 [(3, .int (Int32.ofNat i)), (2, .ref (B + 79)), (1, .ref B), (0, .ref b)] ∧ i + 7 ≤ L ∧ L ≤ 3584
abbrev lw_A (s : State) : Nat → Prop := fun q => s.heap.size ≤ q
theorem lw_ofk (k : Nat) (hk : k < 8) : Int32.ofInt (k : Int) = Int32.ofNat k := by
  have h : k = 0 ∨ k = 1 ∨ k = 2 ∨ k = 3 ∨ k = 4 ∨ k = 5 ∨ k = 6 ∨ k = 7 := by omega
  rcases h with h | h | h | h | h | h | h | h <;> subst h <;> decide
theorem lw_addk {i k : Nat} (hk : k < 8) : Int32.ofNat i + Int32.ofInt (k : Int) = Int32.ofNat (i + k) := by
  rw [lw_ofk k hk, Int32.ofNat_add]
theorem lw_nat {n : Nat} (h : n < 100000) : (Int32.ofNat n).toInt = n := Int32.toInt_ofNat_of_lt (by omega)
theorem lw_idx {i k L : Nat} (hk : k < 7) (h1 : i + 7 ≤ L) (h2 : L ≤ 3584) : (Int32.ofNat i + Int32.ofInt (k : Int)).toNatClampNeg = i + k ∧ vp_in (Int32.ofNat i + Int32.ofInt (k : Int)) L := by
  rw [lw_addk (by omega)]
  have e := lw_nat (n := i + k) (by omega)
  have e2 : (Int32.ofNat (i + k)).toNatClampNeg = i + k := by
    show (Int32.ofNat (i + k)).toInt.toNat = i + k
    omega
  refine ⟨e2, fun z => ?_⟩
  rcases z with z | z
  · have := Int32.lt_iff_toInt_lt.mp z
    have z0 : (0 : Int32).toInt = 0 := rfl
    omega
  · omega
theorem lw_load1 {B L i pc k : Nat} {rest : List Value} (I : lw_In p s m c b L i xs ls B) (hS : va_S (lw_A s) s.heap H locs) (ok : lw_ok1 pc k = true) (kk : W p l e R s m #[.ref b] below meth c H locs cells slots Q (F0 m (pc + lw_n1 k) ls (.int (xs (i + k)) :: rest))) : W p l e R s m #[.ref b] below meth c H locs cells slots Q (F0 m pc ls rest) := by
  obtain ⟨⟨hx, hb, hml, hown, hts⟩, hX, hbl, hl, hi1, hi2⟩ := I
  obtain ⟨d1, d2, d3⟩ := of_decide_eq_true ok
  have hnA : ¬ (lw_A s) b := Nat.not_le.mpr hbl
  refine lv_aload_n hx hb d1 rfl (lv_at hl 3 rfl) (lv_iload_n hx hb d2 rfl (lv_at hl 0 rfl) ?_)
  rcases d3 with ⟨hk, d3, d4, d5⟩ | ⟨hk, d3, d4, d5⟩
  · have h9 := lw_idx (i := i) (k := k) (L := L) (by omega) hi1 hi2
    rw [show lw_n1 k = 5 by unfold lw_n1; rw [Nat.blt_eq.mpr hk]; rfl] at kk
    refine lv_iconst (v := Int32.ofInt k) hx hb d3 rfl (lv_iadd hx hb d4 (va_sld hx hb hX hbl hnA hS h9.2 d5 ?_))
    rw [h9.1]
    exact kk
  · subst hk
    have h9 := lw_idx (i := i) (k := 6) (L := L) (by omega) hi1 hi2
    refine lv_bipush (v := Int32.ofInt (6 : Nat)) hx hb d3 (by decide) (lv_iadd hx hb d4 (va_sld hx hb hX hbl hnA hS h9.2 d5 ?_))
    rw [h9.1]
    exact kk
theorem lw_loadl {B L i pc k idx : Nat} {rest : List Value} (I : lw_In p s m c b L i xs ls B) (hS : va_S (lw_A s) s.heap H locs) (hw : Cond.constantLong R_law idx 4294967295 ∈ pv_T) (ok : lw_okl pc k idx = true) (kk : W p l e R s m #[.ref b] below meth c H locs cells slots Q (F0 m (pc + 20) ls (lw_val (fun k => xs (i + k)) (k, true) :: rest))) : W p l e R s m #[.ref b] below meth c H locs cells slots Q (F0 m pc ls rest) := by
  unfold lw_okl at ok
  simp only [Bool.and_eq_true, decide_eq_true_eq] at ok
  obtain ⟨o1, o2, hk, d1, d2, d3, d4, d5, d6, d7⟩ := ok
  have n1 : lw_n1 k = 5 := by unfold lw_n1; rw [Nat.blt_eq.mpr (by omega)]; rfl
  have n2 : lw_n1 (k + 1) = 5 := by unfold lw_n1; rw [Nat.blt_eq.mpr (by omega)]; rfl
  obtain ⟨⟨hx, hb, hml, hown, hts⟩, hX, hbl, hl, hi1, hi2⟩ := id I
  refine lw_load1 I hS o1 ?_
  rw [n1]
  refine lv_i2l hx hb d1 rfl (lv_bipush (v := (Int8.ofInt 32).toInt32) hx hb d2 rfl (lv_lshl hx hb d3 rfl (lw_load1 I hS o2 ?_)))
  rw [n2]
  refine lv_i2l hx hb d4 rfl (lv_ldc2 (v := 4294967295) hx hb hown (hts _ hw) d5 (lv_land hx hb d6 (lv_lor hx hb d7 ?_)))
  exact kk
theorem lw_loads {B L i idx : Nat} (I : lw_In p s m c b L i xs ls B) (hS : va_S (lw_A s) s.heap H locs) (hw : Cond.constantLong R_law idx 4294967295 ∈ pv_T) : ∀ (sp : List (Nat × Bool)) (pc pc' : Nat) (rest : List Value), lw_chk idx pc sp = some pc' → W p l e R s m #[.ref b] below meth c H locs cells slots Q (F0 m pc' ls ((sp.map (lw_val (fun k => xs (i + k)))).reverse ++ rest)) → W p l e R s m #[.ref b] below meth c H locs cells slots Q (F0 m pc ls rest) := by
  intro sp
  induction sp with
  | nil =>
    intro pc pc' rest hc kk
    cases hc
    exact kk
  | cons q r ih =>
    intro pc pc' rest hc kk
    have e9 : ((q :: r).map (lw_val (fun k => xs (i + k)))).reverse ++ rest = (r.map (lw_val (fun k => xs (i + k)))).reverse ++ (lw_val (fun k => xs (i + k)) q :: rest) := by simp
    rw [e9] at kk
    obtain ⟨k, t⟩ := q
    cases t with
    | false =>
      unfold lw_chk at hc
      cases ho : lw_ok1 pc k with
      | false => rw [ho] at hc; cases hc
      | true =>
        rw [ho, cond_true] at hc
        exact lw_load1 I hS ho (ih _ _ _ hc kk)
    | true =>
      unfold lw_chk at hc
      cases ho : lw_okl pc k idx with
      | false => rw [ho] at hc; cases hc
      | true =>
        rw [ho, cond_true] at hc
        exact lw_loadl I hS hw ho (ih _ _ _ hc kk)
end LAW2
