/-! cells keep their sizes -/
theorem pv_pre_set {h : pv_H} {a : Nat} {e1 e2 : va_E} (h1 : h[a]? = some e1) (h2 : pv_ce e2 = pv_ce e1) : h.map pv_ce <+: (h.set a e2).map pv_ce := by
  have e : (h.set a e2).map pv_ce = h.map pv_ce := by
    apply List.ext_getElem?
    intro i
    simp only [List.getElem?_map, List.getElem?_set]
    by_cases hi : a = i
    · subst hi
      have hl := (List.getElem?_eq_some_iff.mp h1).1
      rw [if_pos rfl, if_pos hl, h1]
      simp [h2]
    · rw [if_neg hi]
  rw [e]
  exact List.prefix_rfl
set_option maxHeartbeats 8000000 in
theorem pv_x_pre {i : Instr} {xs : List Nat} {k : Nat} {lo : pv_L} {st : List Value} {h : pv_H} {c' : pv_C} (hx : pv_x i xs k lo st h = some c') : h.map pv_ce <+: c'.2.2.2.map pv_ce := by
  have same : ∀ {k' : Nat} {l' : pv_L} {s' : List Value}, c' = (k', l', s', h) → h.map pv_ce <+: c'.2.2.2.map pv_ce := by
    intro k' l' s' e; subst e; exact List.prefix_rfl
  have put : ∀ {k' : Nat} {l' : pv_L} {s' : List Value} {a : Nat} {e1 e2 : va_E}, h[a]? = some e1 → pv_ce e2 = pv_ce e1 → c' = (k', l', s', h.set a e2) → h.map pv_ce <+: c'.2.2.2.map pv_ce := by
    intro k' l' s' a e1 e2 h1 h2 e; subst e; exact pv_pre_set h1 h2
  have app : ∀ {k' : Nat} {l' : pv_L} {s' : List Value} {e2 : va_E}, c' = (k', l', s', h ++ [e2]) → h.map pv_ce <+: c'.2.2.2.map pv_ce := by
    intro k' l' s' e2 e; subst e; exact ⟨[pv_ce e2], by simp⟩
  cases i with
  | iload i => obtain ⟨_, _, e⟩ := pv_lod0 hx; exact same e
  | iload_n i => obtain ⟨_, _, e⟩ := pv_lod0 hx; exact same e
  | lload i => obtain ⟨_, _, e⟩ := pv_lod1 hx; exact same e
  | lload_n i => obtain ⟨_, _, e⟩ := pv_lod1 hx; exact same e
  | aload i => obtain ⟨_, _, e⟩ := pv_lod2 hx; exact same e
  | aload_n i => obtain ⟨_, _, e⟩ := pv_lod2 hx; exact same e
  | istore i => obtain ⟨_, _, _, e⟩ := pv_sto0 hx; exact same e
  | istore_n i => obtain ⟨_, _, _, e⟩ := pv_sto0 hx; exact same e
  | lstore i => obtain ⟨_, _, _, e⟩ := pv_sto1 hx; exact same e
  | lstore_n i => obtain ⟨_, _, _, e⟩ := pv_sto1 hx; exact same e
  | astore i => obtain ⟨_, _, _, e⟩ := pv_sto2 hx; exact same e
  | astore_n i => obtain ⟨_, _, _, e⟩ := pv_sto2 hx; exact same e
  | ifCond cd off =>
    obtain ⟨t, x, r, _, _, e⟩ := pv_b1_inv hx
    split at e <;> exact same e
  | if_icmp cd off =>
    obtain ⟨t, x, y, r, _, _, e⟩ := pv_b2_inv hx
    split at e <;> exact same e
  | iaload => obtain ⟨_, _, _, _, _, _, _, _, e⟩ := pv_ald_inv hx; exact same e
  | iastore => obtain ⟨_, _, _, _, _, _, _, ha, _, e⟩ := pv_ast_inv hx; exact put ha (by rfl) e
  | baload =>
    simp only [pv_x] at hx
    split at hx
    · split at hx
      · obtain ⟨_, _, _, _, _, _, _, _, e⟩ := pv_ald_inv hx; exact same e
      · cases hx
    · cases hx
  | bastore =>
    simp only [pv_x] at hx
    split at hx
    · obtain ⟨_, _, _, _, _, _, _, ha, _, e⟩ := pv_ast_inv hx; exact put ha (by rfl) e
    · obtain ⟨_, _, _, _, _, _, _, ha, _, e⟩ := pv_ast_inv hx; exact put ha (by rfl) e
    · cases hx
  | _ =>
    simp only [pv_x, pv_i2, pv_l2, pv_lsh] at hx
    repeat' split at hx
    all_goals first
      | (cases hx; done)
      | (cases hx; exact same rfl)
      | (cases hx; exact app rfl)
      | (cases hx; exact put (by assumption) (by first | rfl | simp [pv_ce]) rfl)
theorem pv_go_pre {call : Nat → List Value → pv_H → Option (Option Value × pv_H)} (hcall : ∀ j as h v h', call j as h = some (v, h') → h.map pv_ce <+: h'.map pv_ce) {rows : List pv_R} : ∀ (f k : Nat) (lo : pv_L) (st : List Value) (h : pv_H) (v : Option Value) (h' : pv_H), pv_go call rows f k lo st h = some (v, h') → h.map pv_ce <+: h'.map pv_ce := by
  intro f
  induction f with
  | zero => intro k lo st h v h' hx; cases hx
  | succ f ih =>
    intro k lo st h v h' hx
    simp only [pv_go] at hx
    split at hx
    · cases hx
    · split at hx
      · cases hx; exact List.prefix_rfl
      · split at hx
        · split at hx
          · next v1 h1 hc => exact (hcall _ _ _ _ _ hc).trans (ih _ _ _ _ _ _ hx)
          · cases hx
        · split at hx
          · next hc => exact (pv_x_pre hc).trans (ih _ _ _ _ _ _ hx)
          · cases hx
theorem pv_run_pre {pr : List pv_M} {F : Nat} : ∀ (d j : Nat) (as : List Value) (h : pv_H) (v : Option Value) (h' : pv_H), pv_run pr F d j as h = some (v, h') → h.map pv_ce <+: h'.map pv_ce := by
  intro d
  induction d with
  | zero => intro j as h v h' hx; cases hx
  | succ d ih =>
    intro j as h v h' hx
    simp only [pv_run] at hx
    split at hx
    · split at hx
      · exact pv_go_pre ih _ _ _ _ _ _ _ hx
      · cases hx
    · cases hx
theorem pv_run_sl {pr : List pv_M} {F d j : Nat} {as : List Value} {h : pv_H} {v : Option Value} {h' : pv_H} (hx : pv_run pr F d j as h = some (v, h')) (hl : h'.length = h.length) : pv_sl h' = pv_sl h := by
  have h1 := (pv_run_pre d j as h v h' hx).eq_of_length (by simp [hl])
  unfold pv_sl
  rw [h1]
theorem va_P_same {D : va_G} {cl : List vw_C} {ws : va_W} {H H1 : Heap} (h : va_P D cl ws H) (hs : ∀ (k : Nat) (q : Nat × va_E), ws[k]? = some q → H1[q.1]? = H[q.1]?) : va_P D cl ws H1 := by
  intro k q hq
  have h1 := h k q hq
  have h2 := hs k q hq
  unfold va_at at h1 ⊢
  split at h1
  · next a ha => rw [h2]; exact h1
  · next o ho =>
    obtain ⟨r, r1, r2⟩ := h1
    exact ⟨r, r1, by unfold t_OB at r2 ⊢; rw [h2]; exact r2⟩
section LAW
variable {p : Program} {l : Launch} {e : Env} {R : Room} {s : State} {m : MethodId} {args : Array Value} {below : List Frame} {meth : Method} {c : Code} {H : Heap} {locs : List Loc} {cells slots : Nat} {Q : State → Prop}
variable {D : va_G} {cA : Nat → ClassId} {B : Nat} {A A1 : Nat → Prop}
/-- behind a call, with what it left as it was -/
theorem pv_after2 {mc ms pc : Nat} {ls : Array Slot} {st0 rest : List Value} {v : Option Value} {h1 : pv_H} {a : Array Value} (hr : va_Run p l e R s m args below meth c H locs cells slots mc ms (F0 m pc ls st0) rest (pv_Qc D cA B A1 v h1 a) A1) (hS : va_S A s.heap H locs) (hAA : ∀ q, A1 q → A q)
    (kk : ∀ (H1 : Heap) (locs1 : List Loc), va_P D vwCl (pv_w cA B h1) H1 → va_S A s.heap H1 locs1 → (∀ q, q < H.size → ¬ A1 q → H1[q]? = H[q]?) → H.size ≤ H1.size → W p l e R s m args below meth c H1 locs1 (cells + mc) (slots + ms) Q (F0 m (pc + 3) ls ((v.map (pv_v B)).toList ++ rest))) : W p l e R s m args below meth c H locs cells slots Q (F0 m pc ls st0) := by
  intro T hT X
  obtain ⟨v', st₀, t, T', L, h0, X', hL, e1, e2, ⟨hv, hKt, hPt, hz, hk⟩, st⟩ := hr T hT X
  cases hv
  rw [h0] at hz hk
  obtain ⟨t2, a1, b1⟩ := kk T'.heap (locs ++ L) (by rw [e1]; exact hPt) ⟨Nat.le_trans hS.1 (by rw [e1]; exact hz), fun q h1 h2 => by
    rw [e1, hk q (Nat.lt_of_lt_of_le h1 hS.1) (fun z => h2 (hAA q z))]; exact hS.2.1 q h1 h2, fun q hq => by
      rcases List.mem_append.mp hq with h | h
      · exact hS.2.2 q h
      · exact hAA _ (hL q h)⟩ (fun q h1 h2 => by rw [e1]; exact hk q h1 h2) (by rw [e1]; exact hz) T' rfl X'
  exact ⟨t2, st t2 a1, b1⟩
/-- a call of an object's method, out of the law -/
theorem lw_callV {own : String} {cc : ByteArray} {nL j n idx ci pc F : Nat} {M : pv_M} {as rest : List Value} {h h1 : pv_H} {v : Option Value} {fs : List Value} {q : vw_C} {ls : Array Slot} (hF : CallFix p m c cc nL s args pv_T own) (hK : pv_K D cA s) (hG : pv_G B s) (hP : va_P D vwCl (pv_w cA B h) H) (hS : va_S A s.heap H locs) (hA : ∀ q, s.heap.size ≤ q ↔ A q) (hB : s.heap.size ≤ B) (hlow : B + h.length ≤ H.size)
    (hj : pv_prog[j]? = some M) (hq : vwCl[ci]? = some q) (h0 : h[0]? = some (.inr (ci, fs))) (hrun : pv_run pv_prog F 60 j (.ref 0 :: as) h = some (v, h1)) (hlen : h1.length = h.length) (w0 : Cond.methodLink own idx M.1 ∈ pv_T) (w1 : Cond.instanceMethod M.1 ∈ pv_T) (w6 : Cond.selects M.1.cls M.1 M.1 ∈ pv_T) (w4 : pv_my M.1 n = true) (w7 : q.1 = M.1.cls) (has : as.length = n) (hav : as.map (pv_v B) = as) (hcat : pv_cat rest ≤ 8)
    (hsz : ls.size = nL) (hd : decode cc pc = .ok (.invokevirtual idx, 3)) (hRf : 67 ≤ R.frames) (hRl : 5000 ≤ R.locals) (hRc : cells ≤ R.cells) (hRs : slots ≤ R.slots)
    (kk : ∀ (H1 : Heap) (locs1 : List Loc), va_P D vwCl (pv_w cA B h1) H1 → va_S A s.heap H1 locs1 → (∀ q, q < H.size → ¬ (B ≤ q ∧ q < B + h.length) → H1[q]? = H[q]?) → H.size ≤ H1.size → W p l e R s m args below meth c H1 locs1 cells slots Q (F0 m (pc + 3) ls ((v.map (pv_v B)).toList ++ rest))) : W p l e R s m args below meth c H locs cells slots Q (F0 m pc ls (as.reverse ++ .ref B :: rest)) := by
  have hts := hF.2.2.2.2
  obtain ⟨M', hj', hMet⟩ := pv_runs (l := l) (D := D) (cA := cA) (B := B) (sz := H.size) F 60 j (.ref 0 :: as) h v h1 hrun hlow (fun z => by omega)
  rw [hj] at hj'
  cases hj'
  have hsl := pv_run_sl hrun hlen
  have hc0 : h1.length - h.length = 0 := by omega
  have hs0 : pv_sl h1 - pv_sl h = 0 := by omega
  obtain ⟨w3, w2⟩ := pv_all.2 j M hj
  have w5 := (kms_all M (List.mem_of_getElem? hj)).2
  have hm30 : M.2.2.1 ≤ 30 := by
    simp only [pv_okM2, Bool.and_eq_true, decide_eq_true_eq] at w5
    exact w5.1.2
  have hGd := pv_goodT M w3
  simp only [pv_my, decide_eq_true_eq] at w4
  have hrec := va_recv hK.1 hP hq (pv_w_get h0)
  rw [w7, Nat.add_zero] at hrec
  have hpre : ∀ U : State, U.heap = H → s.WarmedH U.vm → pv_Pc D cA B H.size (.ref 0 :: as) h (Value.ref B :: as).toArray U := fun U hU hW => ⟨by rw [List.map_cons, hav]; rfl, by rw [hU], pv_K.warm hW hK, by rw [hU]; exact hP, pv_G.warm hW (fun q h1 _ => by rw [hU]; exact hS.2.1 q h1 (fun z => absurd ((hA q).mpr z) (Nat.not_le.mpr h1))) hG⟩
  have hW9 : 2 * (F0 m pc ls (as.reverse ++ .ref B :: rest)).monitorRoom + (rest.map fun v => v.category).sum ≤ 8 := lv_room hcat
  refine pv_after2 (va_runV (C := M.1.cls) (As := as) (rest := rest) hF hMet ⟨callB_of n hts hGd rfl rfl rfl (hts _ w2) (hts _ w0) w4 ⟨by have q9 : (pv_rm 60 h h1).frames = 66 := rfl; omega, by have q9 : (pv_rm 60 h h1).locals = 3960 := rfl; omega⟩, hts _ w1, hts _ w6⟩ ⟨pv_blind D cA B _ _ h, hrec, hpre⟩ rfl has hsz rfl hW9 hd ⟨by omega, by omega⟩) hS (fun q hq => ?_) (fun H1 locs1 hP1 hS1 hk hz => ?_)
  · rcases hq with ⟨q1, q2⟩ | q1
    · exact (hA _).mp (Nat.le_trans hB q1)
    · exact (hA _).mp (Nat.le_trans hS.1 q1)
  · rw [hc0, hs0]
    refine kk H1 locs1 hP1 hS1 (fun q h1 h2 => hk q h1 (fun z => ?_)) hz
    rcases z with z | z
    · exact h2 z
    · exact absurd h1 (Nat.not_lt.mpr z)
end LAW
