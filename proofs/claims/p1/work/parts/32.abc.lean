/-! cells: loads, stores, hulls -/
def ab_rng (df : Nat × Nat) (es : List (Nat × Nat)) : Nat → Nat → Nat × Nat
  | i, 0 => ab_el df es i
  | i, c + 1 => ab_hul (ab_el df es i) (ab_rng df es (i + 1) c)
theorem ab_rng_ok {df : Nat × Nat} {es : List (Nat × Nat)} {k X : Nat} (h : (ab_el df es k).1 ≤ X ∧ X ≤ (ab_el df es k).2) : ∀ (c i : Nat), i ≤ k → k ≤ i + c → (ab_rng df es i c).1 ≤ X ∧ X ≤ (ab_rng df es i c).2
  | 0, i, h1, h2 => by
    have : k = i := by omega
    subst this
    exact h
  | c + 1, i, h1, h2 => by
    unfold ab_rng
    by_cases hk : k = i
    · subst hk; exact ab_hul_l h
    · exact ab_hul_r (ab_rng_ok h c (i + 1) (by omega) (by omega))
def ab_ldr (df : Nat × Nat) (es : List (Nat × Nat)) (i c : Nat) : Nat × Nat := match es with
  | [] => df
  | e :: es => ab_rng df (e :: es) i c
theorem ab_ldr_ok {df : Nat × Nat} {es : List (Nat × Nat)} {k X i c : Nat} (h : (ab_el df es k).1 ≤ X ∧ X ≤ (ab_el df es k).2) (h1 : i ≤ k) (h2 : k ≤ i + c) : (ab_ldr df es i c).1 ≤ X ∧ X ≤ (ab_ldr df es i c).2 := by
  cases es with
  | nil => exact h
  | cons e es => exact ab_rng_ok h c i h1 h2
def ab_wk (i j : Nat) (v : Nat × Nat) : Nat → List (Nat × Nat) → List (Nat × Nat)
  | _, [] => []
  | k, e :: es => (bif Nat.ble i k && Nat.ble k j then ab_hul e v else e) :: ab_wk i j v (k + 1) es
theorem ab_wk_get {i j : Nat} {v : Nat × Nat} : ∀ (es : List (Nat × Nat)) (k m : Nat), (ab_wk i j v k es)[m]? = (es[m]?).map (fun e => bif Nat.ble i (k + m) && Nat.ble (k + m) j then ab_hul e v else e)
  | [], _, _ => by simp [ab_wk]
  | e :: es, k, 0 => by simp [ab_wk]
  | e :: es, k, m + 1 => by
    simp only [ab_wk, List.getElem?_cons_succ]
    rw [ab_wk_get es (k + 1) m, show k + 1 + m = k + (m + 1) by omega]
def ab_sto (df : Nat × Nat) (es : List (Nat × Nat)) (i c : Nat) (v : Nat × Nat) : (Nat × Nat) × List (Nat × Nat) := bif c == 0 && Nat.blt i es.length then (df, es.set i v) else (ab_hul df v, ab_wk i (i + c) v 0 es)
theorem ab_sto_ok {df : Nat × Nat} {es : List (Nat × Nat)} {i c k X : Nat} {v : Nat × Nat} {n : Nat} {F : Nat → Nat} (h : ∀ m, m < n → (ab_el df es m).1 ≤ F m ∧ F m ≤ (ab_el df es m).2) (h1 : i ≤ k) (h2 : k ≤ i + c) (hv : v.1 ≤ X ∧ X ≤ v.2) (m : Nat) (hm : m < n) : (ab_el (ab_sto df es i c v).1 (ab_sto df es i c v).2 m).1 ≤ (if m = k then X else F m) ∧ (if m = k then X else F m) ≤ (ab_el (ab_sto df es i c v).1 (ab_sto df es i c v).2 m).2 := by
  have h0 := h m hm
  unfold ab_sto
  cases hc : (c == 0 && Nat.blt i es.length) with
  | true =>
    simp only [Bool.and_eq_true, beq_iff_eq, Nat.blt_eq] at hc
    simp only [cond_true]
    have hk : k = i := by omega
    subst hk
    by_cases hmk : m = k
    · subst hmk
      rw [if_pos rfl]
      unfold ab_el
      rw [List.getElem?_set_self hc.2]
      exact hv
    · rw [if_neg hmk]
      unfold ab_el at h0 ⊢
      rw [List.getElem?_set_ne (fun q => hmk q.symm)]
      exact h0
  | false =>
    simp only [cond_false]
    unfold ab_el at h0 ⊢
    rw [ab_wk_get]
    cases he : es[m]? with
    | none =>
      rw [he] at h0
      simp only [Option.map_none]
      by_cases hmk : m = k
      · rw [if_pos hmk]; exact ab_hul_r hv
      · rw [if_neg hmk]; exact ab_hul_l h0
    | some e =>
      rw [he] at h0
      simp only [Option.map_some, Nat.zero_add]
      by_cases hmk : m = k
      · rw [if_pos hmk]
        have hb : (Nat.ble i m && Nat.ble m (i + c)) = true := by simp only [Bool.and_eq_true, Nat.ble_eq]; omega
        rw [hb]
        exact ab_hul_r hv
      · rw [if_neg hmk]
        cases (Nat.ble i m && Nat.ble m (i + c)) with
        | true => exact ab_hul_l h0
        | false => exact h0
def ab_cp (d1 : Nat × Nat) (e1 : List (Nat × Nat)) (d2 : Nat × Nat) (e2 : List (Nat × Nat)) (sp dp n n1 : Nat) : List (Nat × Nat) := (List.range n1).map (fun j => bif Nat.ble dp j && Nat.blt j (dp + n) then ab_el d1 e1 (sp + (j - dp)) else ab_el d2 e2 j)
theorem ab_cp_el {d d1 : Nat × Nat} {e1 : List (Nat × Nat)} {d2 : Nat × Nat} {e2 : List (Nat × Nat)} {sp dp n n1 m : Nat} (hm : m < n1) : ab_el d (ab_cp d1 e1 d2 e2 sp dp n n1) m = if dp ≤ m ∧ m < dp + n then ab_el d1 e1 (sp + (m - dp)) else ab_el d2 e2 m := by
  have e : ab_el d (ab_cp d1 e1 d2 e2 sp dp n n1) m = (bif Nat.ble dp m && Nat.blt m (dp + n) then ab_el d1 e1 (sp + (m - dp)) else ab_el d2 e2 m) := by
    conv => lhs; unfold ab_el ab_cp
    rw [List.getElem?_map, List.getElem?_range hm]
    rfl
  rw [e]
  by_cases hc : dp ≤ m ∧ m < dp + n
  · rw [if_pos hc, show (Nat.ble dp m && Nat.blt m (dp + n)) = true by simp only [Bool.and_eq_true, Nat.ble_eq, Nat.blt_eq]; exact hc]
    rfl
  · rw [if_neg hc]
    cases hb : (Nat.ble dp m && Nat.blt m (dp + n)) with
    | true => simp only [Bool.and_eq_true, Nat.ble_eq, Nat.blt_eq] at hb; exact absurd hb hc
    | false => rfl
/-- hulls -/
def ab_hv (G1 G2 : ab_G) (a b : ab_V) : Option ab_V := bif a.1 == b.1 && (a.2.1 == b.2.1 && a.2.2 == b.2.2) then some a else match ab_iv G1 a, ab_iv G2 b with
  | some p, some q => some (0, ab_hul p q)
  | _, _ => match ab_lv a, ab_lv b with
    | some p, some q => some (2, ab_hul p q)
    | _, _ => none
theorem ab_hv_l {g : Nat} {G1 G2 : ab_G} {a b c : ab_V} {v : Value} (hG : G1.1 ≤ g ∧ g ≤ G1.2) (h : ab_hv G1 G2 a b = some c) (hv : ab_gv g a v) : ab_gv g c v := by
  unfold ab_hv at h
  cases hc : (a.1 == b.1 && (a.2.1 == b.2.1 && a.2.2 == b.2.2)) with
  | true => rw [hc] at h; cases h; exact hv
  | false =>
    rw [hc, cond_false] at h
    split at h
    · next p q hp hq =>
      cases h
      obtain ⟨x, h1, h2⟩ := ab_iv_ok hG hv hp
      exact ⟨x, h1, ab_hul_l h2⟩
    · split at h
      · next p q hp hq =>
        cases h
        obtain ⟨x, h1, h2⟩ := ab_lv_ok hv hp
        exact ⟨x, h1, ab_hul_l h2⟩
      · cases h
theorem ab_hv_r {g : Nat} {G1 G2 : ab_G} {a b c : ab_V} {v : Value} (hG : G2.1 ≤ g ∧ g ≤ G2.2) (h : ab_hv G1 G2 a b = some c) (hv : ab_gv g b v) : ab_gv g c v := by
  unfold ab_hv at h
  cases hc : (a.1 == b.1 && (a.2.1 == b.2.1 && a.2.2 == b.2.2)) with
  | true =>
    rw [hc] at h; cases h
    simp only [Bool.and_eq_true, beq_iff_eq] at hc
    have : a = b := Prod.ext hc.1 (Prod.ext hc.2.1 hc.2.2)
    rw [this]; exact hv
  | false =>
    rw [hc, cond_false] at h
    split at h
    · next p q hp hq =>
      cases h
      obtain ⟨x, h1, h2⟩ := ab_iv_ok hG hv hq
      exact ⟨x, h1, ab_hul_r h2⟩
    · split at h
      · next p q hp hq =>
        cases h
        obtain ⟨x, h1, h2⟩ := ab_lv_ok hv hq
        exact ⟨x, h1, ab_hul_r h2⟩
      · cases h
def ab_h2 {α : Type} (f : α → α → Option α) : List α → List α → Option (List α)
  | [], [] => some []
  | a :: as, b :: bs => match f a b, ab_h2 f as bs with
    | some c, some cs => some (c :: cs)
    | _, _ => none
  | _, _ => none
theorem ab_h2_ok {α β : Type} {R1 R2 R3 : α → β → Prop} {f : α → α → Option α} (hf : ∀ a b c v, f a b = some c → (R1 a v → R3 c v) ∧ (R2 b v → R3 c v)) : ∀ {as bs cs : List α} {vs : List β}, ab_h2 f as bs = some cs → (ab_all2 R1 as vs → ab_all2 R3 cs vs) ∧ (ab_all2 R2 bs vs → ab_all2 R3 cs vs)
  | [], [], cs, vs, h => by
    unfold ab_h2 at h
    cases h
    constructor <;> intro hv <;> rw [ab2_nil hv] <;> trivial
  | a :: as, b :: bs, cs, vs, h => by
    unfold ab_h2 at h
    split at h
    · next c cs' h1 h2 =>
      cases h
      cases vs with
      | nil => exact ⟨fun q => q.elim, fun q => q.elim⟩
      | cons v vs => exact ⟨fun q => ⟨(hf a b c v h1).1 q.1, (ab_h2_ok hf h2).1 q.2⟩, fun q => ⟨(hf a b c v h1).2 q.1, (ab_h2_ok hf h2).2 q.2⟩⟩
    · cases h
  | [], _ :: _, _, _, h => by unfold ab_h2 at h; cases h
  | _ :: _, [], _, _, h => by unfold ab_h2 at h; cases h
def ab_hes (d1 d2 : Nat × Nat) : List (Nat × Nat) → List (Nat × Nat) → List (Nat × Nat)
  | [], bs => bs.map (fun b => ab_hul d1 b)
  | a :: as, bs => match bs with
    | [] => (a :: as).map (fun a => ab_hul a d2)
    | b :: bs => ab_hul a b :: ab_hes d1 d2 as bs
theorem ab_hes_ok {d1 d2 : Nat × Nat} {X : Nat} : ∀ (e1 e2 : List (Nat × Nat)) (m : Nat), (((ab_el d1 e1 m).1 ≤ X ∧ X ≤ (ab_el d1 e1 m).2) ∨ ((ab_el d2 e2 m).1 ≤ X ∧ X ≤ (ab_el d2 e2 m).2)) → (ab_el (ab_hul d1 d2) (ab_hes d1 d2 e1 e2) m).1 ≤ X ∧ X ≤ (ab_el (ab_hul d1 d2) (ab_hes d1 d2 e1 e2) m).2
  | [], bs, m, h => by
    unfold ab_hes
    simp only [ab_el, List.getElem?_nil, List.getElem?_map] at h ⊢
    cases hb : bs[m]? with
    | none => rw [hb] at h; exact h.elim ab_hul_l ab_hul_r
    | some b => rw [hb] at h; exact h.elim ab_hul_l ab_hul_r
  | a :: as, [], m, h => by
    unfold ab_hes
    simp only [ab_el, List.getElem?_nil, List.getElem?_map] at h ⊢
    cases hb : (a :: as)[m]? with
    | none => rw [hb] at h; exact h.elim ab_hul_l ab_hul_r
    | some b => rw [hb] at h; exact h.elim ab_hul_l ab_hul_r
  | a :: as, b :: bs, 0, h => by
    unfold ab_hes
    simp only [ab_el, List.getElem?_cons_zero] at h ⊢
    exact h.elim ab_hul_l ab_hul_r
  | a :: as, b :: bs, m + 1, h => by
    have ih := ab_hes_ok (d1 := d1) (d2 := d2) (X := X) as bs m
    unfold ab_hes
    simp only [ab_el, List.getElem?_cons_succ] at h ih ⊢
    exact ih h
def ab_hc (G1 G2 : ab_G) (a b : ab_C) : Option ab_C := match a, b with
  | .inl (t, n, d1, e1), .inl (t', n', d2, e2) => bif t == t' && n == n' then some (.inl (t, n, ab_hul d1 d2, ab_hes d1 d2 e1 e2)) else none
  | .inr (ci, as), .inr (ci', bs) => bif ci == ci' then (match ab_h2 (ab_hv G1 G2) as bs with
    | some cs => some (.inr (ci, cs))
    | none => none) else none
  | _, _ => none
theorem ab_hc_ok {g : Nat} {G1 G2 : ab_G} {a b c : ab_C} {e : va_E} (h : ab_hc G1 G2 a b = some c) : ((G1.1 ≤ g ∧ g ≤ G1.2) ∧ ab_gc g a e → ab_gc g c e) ∧ ((G2.1 ≤ g ∧ g ≤ G2.2) ∧ ab_gc g b e → ab_gc g c e) := by
  match a, b, h with
  | .inl (t, n, d1, e1), .inl (t', n', d2, e2), h =>
    change (bif t == t' && n == n' then some (Sum.inl (t, n, ab_hul d1 d2, ab_hes d1 d2 e1 e2)) else none) = some c at h
    cases hc : (t == t' && n == n') with
    | false => rw [hc] at h; cases h
    | true =>
      rw [hc] at h
      cases h
      simp only [Bool.and_eq_true, beq_iff_eq] at hc
      obtain ⟨rfl, rfl⟩ := hc
      match e with
      | .inr o => exact ⟨fun q => q.2.elim, fun q => q.2.elim⟩
      | .inl (u, m, .inl f) => exact ⟨fun q => ⟨q.2.1, q.2.2.1, q.2.2.2.1, fun j hj => ab_hes_ok e1 e2 j (Or.inl (q.2.2.2.2 j hj))⟩, fun q => ⟨q.2.1, q.2.2.1, q.2.2.2.1, fun j hj => ab_hes_ok e1 e2 j (Or.inr (q.2.2.2.2 j hj))⟩⟩
      | .inl (u, m, .inr (.inl f)) => exact ⟨fun q => ⟨q.2.1, q.2.2.1, q.2.2.2.1, fun j hj => ab_hes_ok e1 e2 j (Or.inl (q.2.2.2.2 j hj))⟩, fun q => ⟨q.2.1, q.2.2.1, q.2.2.2.1, fun j hj => ab_hes_ok e1 e2 j (Or.inr (q.2.2.2.2 j hj))⟩⟩
      | .inl (u, m, .inr (.inr f)) => exact ⟨fun q => q.2.elim, fun q => q.2.elim⟩
  | .inr (ci, as), .inr (ci', bs), h =>
    change (bif ci == ci' then (match ab_h2 (ab_hv G1 G2) as bs with
      | some cs => some (Sum.inr (ci, cs))
      | none => none) else none) = some c at h
    cases hc : (ci == ci') with
    | false => rw [hc] at h; cases h
    | true =>
      rw [hc, cond_true] at h
      simp only [beq_iff_eq] at hc
      subst hc
      split at h
      · next cs hcs =>
        cases h
        match e with
        | .inl o => exact ⟨fun q => q.2.elim, fun q => q.2.elim⟩
        | .inr (cj, fs) =>
          have k1 := ab_h2_ok (R1 := fun a v => (G1.1 ≤ g ∧ g ≤ G1.2) ∧ ab_gv g a v) (R2 := fun a v => (G2.1 ≤ g ∧ g ≤ G2.2) ∧ ab_gv g a v) (R3 := ab_gv g) (vs := fs) (fun a b c v hh => ⟨fun q => ab_hv_l q.1 hh q.2, fun q => ab_hv_r q.1 hh q.2⟩) hcs
          exact ⟨fun q => ⟨q.2.1, k1.1 (ab2_mono (fun _ _ w => ⟨q.1, w⟩) q.2.2)⟩, fun q => ⟨q.2.1, k1.2 (ab2_mono (fun _ _ w => ⟨q.1, w⟩) q.2.2)⟩⟩
      · cases h
  | .inl _, .inr _, h => cases h
  | .inr _, .inl _, h => cases h
def ab_hf (G1 G2 : ab_G) (L1 L2 : ab_L) (i : Nat) : Option ab_V := match ab_get L1 i, ab_get L2 i with
  | some a, some b => ab_hv G1 G2 a b
  | _, _ => none
def ab_hl (G1 G2 : ab_G) (L1 L2 : ab_L) : ab_L := L1.filterMap (fun q => (ab_hf G1 G2 L1 L2 q.1).map (fun c => (q.1, c)))
theorem ab_get_fm {fv : Nat → Option ab_V} {i : Nat} {c : ab_V} : ∀ (L : ab_L), ab_get (L.filterMap (fun q => (fv q.1).map (fun c => (q.1, c)))) i = some c → fv i = some c
  | [], h => by cases h
  | (j, v) :: L, h => by
    rw [List.filterMap_cons] at h
    cases hj : fv j with
    | none => simp only [hj, Option.map_none] at h; exact ab_get_fm L h
    | some d =>
      simp only [hj, Option.map_some] at h
      rw [ab_get_cons] at h
      by_cases hji : j = i
      · rw [if_pos hji] at h; cases h; rw [← hji]; exact hj
      · rw [if_neg hji] at h; exact ab_get_fm L h
theorem ab_hl_get {G1 G2 : ab_G} {L1 L2 : ab_L} {i : Nat} {c : ab_V} (h : ab_get (ab_hl G1 G2 L1 L2) i = some c) : ∃ a b, ab_get L1 i = some a ∧ ab_get L2 i = some b ∧ ab_hv G1 G2 a b = some c := by
  have h2 := ab_get_fm _ h
  unfold ab_hf at h2
  split at h2
  · next a b h3 h4 => exact ⟨a, b, h3, h4, h2⟩
  · cases h2
def ab_hs (s1 s2 : ab_S) : Option ab_S := match ab_h2 (ab_hv s1.1 s2.1) s1.2.2.1 s2.2.2.1, ab_h2 (ab_hc s1.1 s2.1) s1.2.2.2 s2.2.2.2 with
  | some st, some h => some (ab_hul s1.1 s2.1, ab_hl s1.1 s2.1 s1.2.1 s2.2.1, st, h)
  | _, _ => none
theorem ab_hs_ok {g : Nat} {s1 s2 s3 : ab_S} {lo : pv_L} {st : List Value} {h : pv_H} (e : ab_hs s1 s2 = some s3) : (ab_gs g s1 lo st h → ab_gs g s3 lo st h) ∧ (ab_gs g s2 lo st h → ab_gs g s3 lo st h) := by
  unfold ab_hs at e
  split at e
  · next st3 h3 e1 e2 =>
    cases e
    have k1 := ab_h2_ok (R1 := fun a v => (s1.1.1 ≤ g ∧ g ≤ s1.1.2) ∧ ab_gv g a v) (R2 := fun a v => (s2.1.1 ≤ g ∧ g ≤ s2.1.2) ∧ ab_gv g a v) (R3 := ab_gv g) (vs := st) (fun a b c v hh => ⟨fun q => ab_hv_l q.1 hh q.2, fun q => ab_hv_r q.1 hh q.2⟩) e1
    have k2 := ab_h2_ok (R1 := fun a v => (s1.1.1 ≤ g ∧ g ≤ s1.1.2) ∧ ab_gc g a v) (R2 := fun a v => (s2.1.1 ≤ g ∧ g ≤ s2.1.2) ∧ ab_gc g a v) (R3 := ab_gc g) (vs := h) (fun a b c v hh => ab_hc_ok hh) e2
    constructor
    · intro q
      refine ⟨ab_hul_l q.1, fun i c hc => ?_, k1.1 (ab2_mono (fun _ _ w => ⟨q.1, w⟩) q.2.2.1), k2.1 (ab2_mono (fun _ _ w => ⟨q.1, w⟩) q.2.2.2)⟩
      obtain ⟨a, b, h4, h5, h6⟩ := ab_hl_get hc
      obtain ⟨v, h7, h8⟩ := q.2.1 i a h4
      exact ⟨v, h7, ab_hv_l q.1 h6 h8⟩
    · intro q
      refine ⟨ab_hul_r q.1, fun i c hc => ?_, k1.2 (ab2_mono (fun _ _ w => ⟨q.1, w⟩) q.2.2.1), k2.2 (ab2_mono (fun _ _ w => ⟨q.1, w⟩) q.2.2.2)⟩
      obtain ⟨a, b, h4, h5, h6⟩ := ab_hl_get hc
      obtain ⟨v, h7, h8⟩ := q.2.1 i b h5
      exact ⟨v, h7, ab_hv_r q.1 h6 h8⟩
  · cases e
