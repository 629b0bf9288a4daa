section PVT
variable {p : Program} {l : Launch} {e : Env} {R : Room} {s : State} {m : MethodId} {args : Array Value} {below : List Frame} {meth : Method} {c : Code} {H : Heap} {locs : List Loc} {cells slots : Nat} {Q : State → Prop}
variable {rows : List pv_R} {own mn : String} {cc : ByteArray} {nL k pc len : Nat} {xs ps : List Nat} {lo : pv_L} {st : List Value} {h : pv_H} {ls : Array Slot} {c' : pv_C} {D : va_G} {cA : Nat → ClassId} {B : Nat} {A : Nat → Prop}
/-- a new cell lies behind the last one -/
theorem pv_next {q : Nat} {e9 : va_E} {H1 : Heap} {n : Nat} (hB : s.heap.size + n = B + h.length + 1) (hP : va_P D vwCl (pv_w cA B h ++ [(q, e9)]) H1) (hAB : ∀ q, A q → B ≤ q) (hD : va_D A (pv_w cA B h ++ [(q, e9)])) (hz : H1.size ≤ s.heap.size + n) : q = B + h.length := by
  have hlast : (pv_w cA B h ++ [(q, e9)])[(pv_w cA B h).length]? = some (q, e9) := by simp
  have h1 : q < H1.size := (hP _ _ hlast).lt
  have h2 : B ≤ q := hAB _ (hD.2 _ _ hlast)
  rcases Nat.lt_or_ge q (B + h.length) with h3 | h3
  · exfalso
    have hk : q - B < h.length := by omega
    have h4 : (pv_w cA B h)[q - B]? = some (B + (q - B), pv_e cA B h[q - B]) := pv_w_get (by simp [hk])
    have h5 : (pv_w cA B h ++ [(q, e9)])[q - B]? = some (B + (q - B), pv_e cA B h[q - B]) := by
      rw [List.getElem?_append_left (by rw [pv_w_len]; exact hk)]
      exact h4
    have h6 := hD.1 _ _ _ _ h5 hlast (by show B + (q - B) = q; omega)
    rw [pv_w_len] at h6
    omega
  · omega
theorem pv_ra {cA' : ClassId} {ty : FieldType} {t : Nat} {cA2 : ClassId} (h1 : va_RA s cA' ty) (h2 : va_RA s cA2 ty) (hp : (∃ C, ty = .object C) ∨ True) (hno : ∀ C, ty ≠ .object C) : cA' = cA2 := by
  cases ty with
  | object C => exact absurd rfl (hno C)
  | _ => exact Option.some.inj (Eq.trans (Eq.symm h1) h2)
set_option maxHeartbeats 4000000 in
theorem pv_newa (t : Nat) (ty : FieldType) (at0 : ArrayType) (a0 : Nat → vp_A) (S : pv_St p s m args meth c R cc own mn nL D cA B A) (hI : pv_I D cA B A s h H locs) (hl : lv_has ls nL (pv_l B lo)) (hat : newarray.typeOf at0 = ty) (hno : ∀ C, ty ≠ .object C) (htt : (pv_ty cA)[t]? = some (cA t, ty)) (harr : Cond.arrayClass ty ∈ pv_T)
    (ha0 : ∀ (N : Nat) (cX : ClassId), vp_cell cX (a0 N) = arrV cX N (fun _ => defaultValue ty)) (hN0 : ∀ N, (a0 N).1 = N) (hby : componentBytes ty ≤ 8) {n : Int32} {r : List Value} (hd : decode cc pc = .ok (.newarray at0, 2)) (hn : pv_pc rows (k + 1) = pc + 2) (hcn : ¬ (n < 0 ∨ 100000 < n.toNatClampNeg)) (hB : s.heap.size + cells = B + h.length)
    (hc : cells + (h ++ [Sum.inl (t, a0 n.toNatClampNeg)]).length ≤ R.cells + h.length) (hs : slots + pv_sl (h ++ [Sum.inl (t, a0 n.toNatClampNeg)]) ≤ R.slots + pv_sl h)
    (kk : pv_KK p l e R s m args below meth c cells slots Q rows nL D cA B A h (k + 1, lo, .ref h.length :: r, h ++ [.inl (t, a0 n.toNatClampNeg)])) : W p l e R s m args below meth c H locs cells slots Q (F0 m pc ls (.int n :: r.map (pv_v B))) := by
  obtain ⟨⟨hex, hb, hml, hown, hts⟩, hmn, hK, hBs, -⟩ := S
  obtain ⟨hP, hS, hAk⟩ := id hI
  have hn0 : ¬ n < 0 := fun q => hcn (Or.inl q)
  have hn1 : ¬ 100000 < n.toNatClampNeg := fun q => hcn (Or.inr q)
  have hce : pv_ce (Sum.inl (t, a0 n.toNatClampNeg)) = n.toNatClampNeg := hN0 _
  rw [List.length_append, List.length_singleton] at hc
  rw [pv_sl_app, hce] at hs
  refine va_newa (N' := n.toNatClampNeg) (a0 := a0 n.toNatClampNeg) hex hb (by rw [hat]; exact hts _ harr) hat hK.1 hP (pv_D cA B h hAk) hS hBs.1 (fun cX => ha0 _ cX) hn0 rfl (by
    have := Nat.mul_le_mul (Nat.le_of_not_lt hn1) hby
    omega) (by omega) (by omega) hd (fun q cX H1 hK1 hP1 hD1 hS1 => ?_)
  refine pv_bound (fun hz => ?_)
  have hq : q = B + h.length := pv_next (n := cells + 1) (by omega) hP1 hBs.2 hD1 hz
  subst hq
  have hcx : cX = cA t := by
    have h1 := (hK1.2 (pv_ty cA).length (cX, ty) (by simp)).2
    have h2 := (hK.1.2 t _ htt).2
    exact pv_ra (t := t) h1 h2 (Or.inr trivial) hno
  subst hcx
  have hP2 : va_P D vwCl (pv_w cA B (h ++ [.inl (t, a0 n.toNatClampNeg)])) H1 := by
    rw [pv_w_app]
    exact hP1
  refine kk H1 locs ls (cells + 1) (slots + n.toNatClampNeg) _ hn ⟨hP2, hS1, fun k9 h9 => by
    rcases Nat.lt_or_ge k9 h.length with h5 | h5
    · exact hAk k9 h5
    · exact hBs.1 _ (by omega)⟩ hl ?_ ?_
  · simp; omega
  · show _ = slots + pv_sl (h ++ [_])
    rw [pv_sl_app, hce]; omega
theorem pv_dvd (ty : FieldType) (h : pv_dv ty = defaultValue ty) : defaultValue ty = pv_dv ty := h.symm
theorem pv_fr {ci : Nat} {q : vw_C} (hq : vwCl[ci]? = some q) : ∀ j, j < q.2.2 → defaultValue (pv_tyX ci j) = vp_V ((pv_fresh ci).map (pv_v B)) j := by
  have key : ∀ j, j < q.2.2 → defaultValue (pv_tyX ci j) = pv_v B (pv_dv (pv_tyX ci j)) → defaultValue (pv_tyX ci j) = vp_V ((pv_fresh ci).map (pv_v B)) j := by
    intro j hj he
    have hN : pv_nX ci = q.2.2 := by simp [pv_nX, hq]
    simp [vp_V, pv_fresh, hN, hj, he]
  intro j hj
  refine key j hj ?_
  have ht : ∀ ty : FieldType, ty = .int ∨ ty = .long ∨ (∃ C, ty = .object C) ∨ (∃ t, ty = .array t) → defaultValue ty = pv_v B (pv_dv ty) := by
    intro ty h
    rcases h with rfl | rfl | ⟨C, rfl⟩ | ⟨t, rfl⟩ <;> rfl
  have hall : ∀ ci, ci < 13 → ∀ j, j < pv_nX ci → (match pv_tyX ci j with | .int => true | .long => true | .object _ => true | .array _ => true | _ => false) = true := by decide +kernel
  have hN : pv_nX ci = q.2.2 := by simp [pv_nX, hq]
  have hci : ci < 13 := (List.getElem?_eq_some_iff.mp hq).1
  have h1 := hall ci hci j (by omega)
  apply ht
  revert h1
  cases pv_tyX ci j <;> simp
theorem pv_frl {ci : Nat} {q : vw_C} (hq : vwCl[ci]? = some q) : (pv_fresh ci).length = q.2.2 := by
  simp [pv_fresh, pv_nX, hq]
set_option maxHeartbeats 4000000 in
theorem pv_new (S : pv_St p s m args meth c R cc own mn nL D cA B A) (hI : pv_I D cA B A s h H locs) (hl : lv_has ls nL (pv_l B lo)) {idx ci : Nat} {q : vw_C} (hq : vwCl[ci]? = some q) (hd : decode cc pc = .ok (.new idx, 3)) (hn : pv_pc rows (k + 1) = pc + 3) (w1 : Cond.classLink own idx q.1 ∈ pv_T) (w2 : Cond.instantiable q.1 q.2.2 ∈ pv_T) (w3 : Cond.initialized q.1 ∈ pv_T) (hB : s.heap.size + cells = B + h.length)
    (hc : cells + (h ++ [Sum.inr (ci, pv_fresh ci)]).length ≤ R.cells + h.length) (hs : slots + pv_sl (h ++ [Sum.inr (ci, pv_fresh ci)]) ≤ R.slots + pv_sl h)
    (kk : pv_KK p l e R s m args below meth c cells slots Q rows nL D cA B A h (k + 1, lo, .ref h.length :: st, h ++ [.inr (ci, pv_fresh ci)])) : W p l e R s m args below meth c H locs cells slots Q (F0 m pc ls (st.map (pv_v B))) := by
  obtain ⟨⟨hex, hb, hml, hown, hts⟩, hmn, hK, hBs, -⟩ := S
  obtain ⟨hP, hS, hAk⟩ := id hI
  have hce : pv_ce (Sum.inr (ci, pv_fresh ci)) = q.2.2 := pv_frl hq
  rw [List.length_append, List.length_singleton] at hc
  rw [pv_sl_app, hce] at hs
  obtain ⟨hin, hty, hnm⟩ := pv_cl ci hq
  refine va_new (C := q.1) (T := q.2.1) (N := q.2.2) (ci := ci) (fs := (pv_fresh ci).map (pv_v B)) hex hb hts hin (pv_tyX ci) hty hown (hts _ w1) (hts _ w2) (hts _ w3) hK.1 hP (pv_D cA B h hAk) hS hBs.1 hq (pv_fr hq) (by omega) (by omega) hd (fun a H1 hP1 hD1 hS1 => ?_)
  refine pv_bound (fun hz => ?_)
  have ha : a = B + h.length := pv_next (n := cells + 1) (by omega) hP1 hBs.2 hD1 hz
  subst ha
  have hP2 : va_P D vwCl (pv_w cA B (h ++ [.inr (ci, pv_fresh ci)])) H1 := by
    rw [pv_w_app]
    exact hP1
  refine kk H1 locs ls (cells + 1) (slots + q.2.2) _ hn ⟨hP2, hS1, fun k9 h9 => by
    rcases Nat.lt_or_ge k9 h.length with h5 | h5
    · exact hAk k9 h5
    · exact hBs.1 _ (by omega)⟩ hl ?_ ?_
  · simp; omega
  · show _ = slots + pv_sl (h ++ [_])
    rw [pv_sl_app, hce]; omega
set_option maxHeartbeats 4000000 in
theorem pv_stepAst (t : Nat) (g : Int32 → Int32) {i9 : Instr} (hI : pv_I D cA B A s h H locs) (hl : lv_has ls nL (pv_l B lo)) (hn : pv_pc rows (k + 1) = pc + 1) (hx : pv_ast t g k lo st h = some c')
    (row : ∀ (x i : Int32) (a : Nat) (r : List Value) (n : Nat) (f : Nat → Int32), (pv_w cA B h)[a]? = some (B + a, .inl (cA t, n, .inl f)) → vp_in i n → (∀ (H1 : Heap) (locs1 : List Loc), va_P D vwCl ((pv_w cA B h).set a (B + a, .inl (cA t, n, .inl (upd f i.toNatClampNeg (g x))))) H1 → va_D A ((pv_w cA B h).set a (B + a, .inl (cA t, n, .inl (upd f i.toNatClampNeg (g x))))) → va_S A s.heap H1 locs1 → W p l e R s m args below meth c H1 locs1 cells slots Q (F0 m (pc + 1) ls r)) → W p l e R s m args below meth c H locs cells slots Q (F0 m pc ls (.int x :: .int i :: .ref (B + a) :: r)))
    (kk : pv_KK p l e R s m args below meth c cells slots Q rows nL D cA B A h c') : W p l e R s m args below meth c H locs cells slots Q (F0 m pc ls (st.map (pv_v B))) := by
  obtain ⟨x, i, a, r, n, f, rfl, ha, hin, rfl⟩ := pv_ast_inv hx
  have hAk := hI.2.2
  refine row x i a (r.map (pv_v B)) n f (pv_w_get ha) hin (fun H1 locs1 hP1 _ hS1 => ?_)
  have hset : (pv_w cA B h).set a (B + a, .inl (cA t, n, .inl (upd f i.toNatClampNeg (g x)))) = pv_w cA B (h.set a (.inl (t, n, .inl (upd f i.toNatClampNeg (g x))))) := by
    rw [pv_w_set]; rfl
  rw [hset] at hP1
  exact kk H1 locs1 ls cells slots _ hn ⟨hP1, hS1, fun k9 h9 => hAk k9 (by simpa using h9)⟩ hl (by simp) (by rw [pv_sl_set ha (by rfl)])
end PVT
