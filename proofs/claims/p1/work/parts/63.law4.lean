/-! THE LAW'S WALK: its end, its making of the two -/
theorem lw_dT : decode code 1446 = .ok (.iinc 3 7, 3) ∧ decode code 1449 = .ok (.goto (-1431), 3) ∧ decode code 18 = .ok (.iload_n 3, 1) ∧ decode code 19 = .ok (.aload_n 0, 1) ∧ decode code 20 = .ok (.arraylength, 1) ∧ decode code 21 = .ok (.bipush 7, 2) ∧ decode code 23 = .ok (.isub, 1) ∧ decode code 24 = .ok (.if_icmp .gt 1428, 3) ∧ decode code 1452 = .ok (.iconst 1, 1) ∧ decode code 1453 = .ok (.ireturn, 1) := by decide +kernel
theorem lw_dN : decode code 0 = .ok (.new 7, 3) ∧ decode code 3 = .ok (.dup, 1) ∧ decode code 4 = .ok (.invokespecial 9, 3) ∧ decode code 7 = .ok (.astore_n 1, 1) ∧ decode code 8 = .ok (.new 10, 3) ∧ decode code 11 = .ok (.dup, 1) ∧ decode code 12 = .ok (.invokespecial 12, 3) ∧ decode code 15 = .ok (.astore_n 2, 1) ∧ decode code 16 = .ok (.iconst 0, 1) ∧ decode code 17 = .ok (.istore_n 3, 1) := by decide +kernel
section LAW4
variable {p : Program} {l : Launch} {e : Env} {R : Room} {s : State} {m : MethodId} {below : List Frame} {meth : Method} {c : Code} {H : Heap} {locs : List Loc} {cells slots : Nat} {Q : State → Prop} {b : Nat} {xs : Nat → Int32} {ls : Array Slot} {D : va_G} {cA : Nat → ClassId}
/-- out with true -/
theorem lw_true (hx : p.tables.exec = Jvm.exec) (hb : c.code = code) (hr : meth.sig.returnType = ret) (hlocks : meth.locks = false) (hS : va_S (lw_A s) s.heap H locs) (hc : cells ≤ 600000) (hs : slots ≤ 7302250) : W p l e room_1 s m #[.ref b] below meth c H locs cells slots (lw_Z below #[.ref b] s) (F0 m 1452 ls []) := by
  refine lv_iconst (v := 1) hx hb lw_dT.2.2.2.2.2.2.2.2.1 (by decide) ?_
  refine va_forget hS.2.2 (W.widen hc hs ?_)
  exact lw_ret hx hb hr hlocks lw_dT.2.2.2.2.2.2.2.2.2
/-- the round's end: the script has no further call -/
theorem lw_fin {B : Nat} (I : lw_In p s m c b xs ls B) (hr : meth.sig.returnType = ret) (hlocks : meth.locks = false) (hS : va_S (lw_A s) s.heap H locs) (hc : cells ≤ 600000) (hs : slots ≤ 7302250) : W p l e room_1 s m #[.ref b] below meth c H locs cells slots (lw_Z below #[.ref b] s) (F0 m 1446 ls []) := by
  obtain ⟨⟨hx, hb, hml, hown, hts⟩, hX, hbl, hl⟩ := I
  obtain ⟨d1, d2, d3, d4, d5, d6, d7, d8, -, -⟩ := lw_dT
  have hnA : ¬ (lw_A s) b := Nat.not_le.mpr hbl
  refine lv_iinc (k := 0) (v := 7) (lv' := [(3, .int 7), (2, .ref (B + 79)), (1, .ref B), (0, .ref b)]) hx hb d1 hl rfl (by decide) (by decide) rfl (fun ls' hl' => ?_)
  refine lv_goto (tgt := 18) hx hb d2 (by decide) ?_
  refine lv_iload_n hx hb d3 rfl (lv_at hl' 0 rfl) (lv_aload_n hx hb d4 rfl (lv_at hl' 3 rfl) (va_slen hx hb hX hbl hnA hS d5 ?_))
  refine lv_bipush (v := 7) hx hb d6 (by decide) (lv_isub hx hb d7 ?_)
  refine lv_icmp_gt (tgt := 1452) hx hb d8 (by decide) (fun _ => lw_true hx hb hr hlocks hS hc hs) (fun h => ?_)
  exact absurd (by decide) h
/-- a constructor's call, out of the law -/
theorem lw_callI {own : String} {cc : ByteArray} {nL j idx pc F B : Nat} {M : pv_M} {rest : List Value} {h h1 : pv_H} {ls : Array Slot} {args : Array Value} {A : Nat → Prop} (hF : CallFix p m c cc nL s args pv_T own) (hK : pv_K D cA s) (hP : va_P D vwCl (pv_w cA B h) H) (hS : va_S A s.heap H locs) (hA : ∀ q, s.heap.size ≤ q → A q) (hB : s.heap.size ≤ B) (hlow : H.size = B + h.length)
    (hj : pv_prog[j]? = some M) (hrun : pv_run pv_prog F 12 j [.ref 0] h = some (none, h1)) (w0 : Cond.methodLink own idx M.1 ∈ pv_T) (w1 : Cond.instanceMethod M.1 ∈ pv_T) (w4 : pv_my M.1 0 = true) (w6 : M.1.name = "<init>") (w7 : M.2.2.2.1 = none) (hcat : pv_cat rest ≤ 8)
    (hsz : ls.size = nL) (hd : decode cc pc = .ok (.invokespecial idx, 3)) (hRf : 13 ≤ R.frames) (hRl : 780 ≤ R.locals) (hRc : cells + (h1.length - h.length) ≤ R.cells) (hRs : slots + (pv_sl h1 - pv_sl h) ≤ R.slots)
    (kk : ∀ (H1 : Heap) (locs1 : List Loc), va_P D vwCl (pv_w cA B h1) H1 → va_S A s.heap H1 locs1 → (∀ q, q < H.size → ¬ (B ≤ q ∧ q < B + h.length) → H1[q]? = H[q]?) → W p l e R s m args below meth c H1 locs1 (cells + (h1.length - h.length)) (slots + (pv_sl h1 - pv_sl h)) Q (F0 m (pc + 3) ls rest)) : W p l e R s m args below meth c H locs cells slots Q (F0 m pc ls (.ref B :: rest)) := by
  have hts := hF.2.2.2.2
  obtain ⟨M', hj', hMet⟩ := pv_runs (l := l) (D := D) (cA := cA) (B := B) (sz := H.size) F 12 j [.ref 0] h none h1 hrun (by omega) (fun z => hlow)
  rw [hj] at hj'
  cases hj'
  obtain ⟨w3, w2⟩ := pv_all.2 j M hj
  have w5 := (kms_all M (List.mem_of_getElem? hj)).2
  have hm30 : M.2.2.1 ≤ 30 := by
    simp only [pv_okM, Bool.and_eq_true, decide_eq_true_eq] at w5
    exact w5.1.2
  have hG := pv_goodT M w3
  simp only [pv_my, decide_eq_true_eq] at w4
  have hpre : ∀ U : State, U.heap = H → s.WarmedH U.vm → pv_Pc D cA B H.size [.ref 0] h (Value.ref B :: ([] : List Value)).toArray U := fun U hU hW => ⟨rfl, by rw [hU], pv_K.warm hW hK, by rw [hU]; exact hP⟩
  have hW9 : 2 * (F0 m pc ls (.ref B :: rest)).monitorRoom + (rest.map fun v => v.category).sum ≤ 8 := lv_room hcat
  have hwM : pv_ws M = Cond.code M.1 M.2.1 M.2.2.1 none :: pv_T := by unfold pv_ws; rw [w7]
  refine pv_after2 (va_runI (As := []) (rest := rest) hF hMet (cwI 0 hts hG hwM rfl rfl (hts _ w2) (hts _ w0) (hts _ w1) w6 w4 ⟨hRf, by show 8 + (M.2.2.1 + 11) + 60 * 12 ≤ R.locals; omega⟩) ⟨pv_blind D cA B _ _ h, hpre⟩ rfl rfl hsz rfl hW9 hd ⟨hRc, hRs⟩) hS (fun q hq => ?_) (fun H1 locs1 hP1 hS1 hk hz => ?_)
  · rcases hq with ⟨q1, q2⟩ | q1
    · exact hA _ (Nat.le_trans hB q1)
    · exact hA _ (Nat.le_trans hS.1 q1)
  · refine kk H1 locs1 hP1 hS1 (fun q h1 h2 => hk q h1 (fun z => ?_))
    rcases z with z | z
    · exact h2 z
    · exact absurd h1 (Nat.not_lt.mpr z)
/-- a new object, out of the law, behind a world h -/
theorem lw_new {own : String} {cc : ByteArray} {nL idx pc ci B : Nat} {q : vw_C} {rest : List Value} {h : pv_H} {ls : Array Slot} {args : Array Value} (hF : CallFix p m c cc nL s args pv_T own) (hK : pv_K D cA s) (hP : va_P D vwCl (pv_w cA B h) H) (hS : va_S (lw_A s) s.heap H locs) (hB : s.heap.size = B) (hc0 : cells = h.length) (hq : vwCl[ci]? = some q) (w1 : Cond.classLink own idx q.1 ∈ pv_T) (w2 : Cond.instantiable q.1 q.2.2 ∈ pv_T) (w3 : Cond.initialized q.1 ∈ pv_T) (hd : decode cc pc = .ok (.new idx, 3)) (hRc : cells + 1 ≤ R.cells) (hRs : slots + q.2.2 ≤ R.slots)
    (kk : ∀ (H1 : Heap), va_P D vwCl (pv_w cA B h) H1 → va_P D vwCl (pv_w cA (B + h.length) [.inr (ci, pv_fresh ci)]) H1 → va_S (lw_A s) s.heap H1 locs → H1.size = B + h.length + 1 → W p l e R s m args below meth c H1 locs (cells + 1) (slots + q.2.2) Q (F0 m (pc + 3) ls (.ref (B + h.length) :: rest))) : W p l e R s m args below meth c H locs cells slots Q (F0 m pc ls rest) := by
  obtain ⟨hex, hb, hml, hown, hts⟩ := id hF
  obtain ⟨hin, hty, hnm⟩ := pv_cl ci hq
  have hD : va_D (lw_A s) (pv_w cA B h) := pv_D cA B h (fun k hk => by show s.heap.size ≤ B + k; omega)
  refine va_new (C := q.1) (T := q.2.1) (N := q.2.2) (ci := ci) (fs := (pv_fresh ci).map (pv_v (B + h.length))) hex hb hts hin (pv_tyX ci) hty hown (hts _ w1) (hts _ w2) (hts _ w3) hK.1 hP hD hS (fun _ h => h) hq (pv_fr hq) hRc hRs hd (fun a H1 hP1 hD1 hS1 => ?_)
  refine pv_bound (fun hz => ?_)
  have ha : a = B + h.length := pv_next (n := cells + 1) (by omega) hP1 (fun q hq => by show B ≤ q; rw [← hB]; exact hq) hD1 hz
  subst ha
  have hPa : va_P D vwCl (pv_w cA B h) H1 := fun k q9 hk => hP1 k q9 (by rw [List.getElem?_append_left (List.getElem?_eq_some_iff.mp hk).1]; exact hk)
  have hPb : va_P D vwCl (pv_w cA (B + h.length) [.inr (ci, pv_fresh ci)]) H1 := by
    intro k q9 hk
    have hk0 := (pv_w_get' hk).2
    simp only [List.length_singleton] at hk0
    have hk1 : k = 0 := by omega
    subst hk1
    have hk2 : (pv_w cA (B + h.length) [.inr (ci, pv_fresh ci)])[0]? = some (B + h.length, .inr (ci, (pv_fresh ci).map (pv_v (B + h.length)))) := rfl
    rw [hk2] at hk
    cases hk
    exact hP1 h.length _ (by rw [List.getElem?_append_right (by rw [pv_w_len]; exact Nat.le_refl _), pv_w_len, Nat.sub_self]; rfl)
  have hs1 : H1.size = B + h.length + 1 := by
    have h9 := (hPb 0 _ rfl).lt
    have h8 : B + h.length + 0 < H1.size := h9
    omega
  exact kk H1 hPa hPb hS1 hs1
end LAW4
