/-! WHAT THE PURE MACHINE ANSWERS, THE MACHINE ANSWERS -/
def pv_A (B n z : Nat) : Nat → Prop := fun q => (B ≤ q ∧ q < B + n) ∨ z ≤ q
def pv_Qc (D : va_G) (cA : Nat → ClassId) (B : Nat) (A : Nat → Prop) (v : Option Value) (h' : pv_H) : Array Value → State → Outcome → State → Prop := fun _ st o t =>
  o = .returned (v.map (pv_v B)) ∧ pv_K D cA t ∧ va_P D vwCl (pv_w cA B h') t.heap ∧ va_F A st t
def pv_Pc (D : va_G) (cA : Nat → ClassId) (B sz : Nat) (as : List Value) (h : pv_H) : Array Value → State → Prop :=
  va_Pc (as.map (pv_v B)) (fun U => U.heap.size = sz ∧ pv_K D cA U ∧ va_P D vwCl (pv_w cA B h) U.heap ∧ pv_G B U)
def pv_rm (d : Nat) (h h' : pv_H) : Room := { frames := d + 6, cells := h'.length - h.length, slots := pv_sl h' - pv_sl h, locals := 60 * (d + 6) }
def pv_ws (M : pv_M) : List Cond := Cond.code M.1 M.2.1 M.2.2.1 M.2.2.2.1 :: pv_T
def pv_Met (l : Launch) (D : va_G) (cA : Nat → ClassId) (B sz : Nat) (pr : List pv_M) (d j : Nat) (as : List Value) (h : pv_H) (v : Option Value) (h' : pv_H) : Prop :=
  ∃ M, pr[j]? = some M ∧ Met l M.1 (pv_ws M) (pv_rm d h h') (pv_Pc D cA B sz as h) (pv_Qc D cA B (pv_A B h.length sz) v h') (h'.length - h.length) (pv_sl h' - pv_sl h) (pv_A B h.length sz)
theorem pv_blind (D : va_G) (cA : Nat → ClassId) (B sz : Nat) (as : List Value) (h : pv_H) : FrameBlind (pv_Pc D cA B sz as h) :=
  fun _ U g mk q => ⟨q.1, q.2.1, pv_K.same (s := U) rfl q.2.2.1, q.2.2.2.1, pv_G.same (s := U) rfl rfl q.2.2.2.2⟩
theorem pv_goodT (M : pv_M) (hc : Cond.code M.1 M.2.1 M.2.2.1 M.2.2.2.1 ∈ pv_T) : GoodIn pv_T (pv_ws M) := by
  intro w hw
  rcases List.mem_cons.mp hw with rfl | hw
  · exact ⟨hc, good_of_word (List.mem_filter.mp hc).2⟩
  · exact ⟨hw, good_of_word (List.mem_filter.mp hw).2⟩
theorem pv_low {D : va_G} {cA : Nat → ClassId} {B : Nat} {A : Nat → Prop} {s : State} {h : pv_H} {H : Heap} {locs : List Loc} (hI : pv_I D cA B A s h H locs) (hBs : (∀ q, s.heap.size ≤ q → A q) ∧ ∀ q, A q → B ≤ q) : B + h.length ≤ H.size := by
  rcases Nat.eq_zero_or_pos h.length with h0 | h0
  · have := hBs.2 _ (hBs.1 _ hI.2.1.1)
    omega
  · have hk : h.length - 1 < h.length := by omega
    have h2 : (pv_w cA B h)[h.length - 1]? = some (B + (h.length - 1), pv_e cA B h[h.length - 1]) := pv_w_get (by simp [hk])
    have h4 : B + (h.length - 1) < H.size := (hI.1 _ _ h2).lt
    omega
section PVV
variable {p : Program} {l : Launch} {e : Env} {R : Room} {s : State} {m : MethodId} {args : Array Value} {below : List Frame} {meth : Method} {c : Code} {H : Heap} {locs : List Loc} {cells slots : Nat} {Q : State → Prop}
variable {D : va_G} {cA : Nat → ClassId} {B : Nat} {A A1 : Nat → Prop}
/-- behind a call -/
theorem pv_after {mc ms pc : Nat} {ls : Array Slot} {st0 rest : List Value} {v : Option Value} {h1 : pv_H} {a : Array Value} (hr : va_Run p l e R s m args below meth c H locs cells slots mc ms (F0 m pc ls st0) rest (pv_Qc D cA B A1 v h1 a) A1) (hS : va_S A s.heap H locs) (hAA : ∀ q, A1 q → A q) (hAk : ∀ k, k < h1.length → A (B + k))
    (kk : ∀ (H1 : Heap) (locs1 : List Loc), pv_I D cA B A s h1 H1 locs1 → W p l e R s m args below meth c H1 locs1 (cells + mc) (slots + ms) Q (F0 m (pc + 3) ls ((v.map (pv_v B)).toList ++ rest))) : W p l e R s m args below meth c H locs cells slots Q (F0 m pc ls st0) := by
  intro T hT X
  obtain ⟨v', st₀, t, T', L, h0, X', hL, e1, e2, ⟨hv, hKt, hPt, hz, hk⟩, st⟩ := hr T hT X
  cases hv
  rw [h0] at hz hk
  obtain ⟨t2, a1, b1⟩ := kk T'.heap (locs ++ L) ⟨by rw [e1]; exact hPt, ⟨Nat.le_trans hS.1 (by rw [e1]; exact hz), fun q h1 h2 => by
    rw [e1, hk q (Nat.lt_of_lt_of_le h1 hS.1) (fun z => h2 (hAA q z))]; exact hS.2.1 q h1 h2, fun q hq => by
      rcases List.mem_append.mp hq with h | h
      · exact hS.2.2 q h
      · exact hAA _ (hL q h)⟩, hAk⟩ T' rfl X'
  exact ⟨t2, st t2 a1, b1⟩
theorem pv_lsl (B : Nat) (vs : List Value) : (lg_sl (vs.map (pv_v B))).length = pv_cat vs := by
  induction vs with
  | nil => rfl
  | cons v vs ih =>
    simp only [lg_sl, pv_cat, List.map_cons, List.flatMap_cons, List.length_append, List.sum_cons] at ih ⊢
    rw [ih, pv_v_cat]
    rcases lv_cat v with h | h <;> simp [h]
theorem pv_okc_s {LK : List (List Nat)} {o idx j n : Nat} {ps : List Nat} (h : pv_okc LK o (.invokestatic idx) [j, n] ps = true) : [7, o, idx, j, n] ∈ LK := by
  rcases ps with _ | ⟨p0, _ | ⟨p1, pr9⟩⟩ <;> try (cases h; done)
  have h : pv_lk LK p0 [7, o, idx, j, n] = true := h
  exact pv_lk_inv h
theorem pv_okc_v {LK : List (List Nat)} {o idx j n ci : Nat} {ps : List Nat} (h : pv_okc LK o (.invokevirtual idx) [j, n, ci] ps = true) : [8, o, idx, j, n, ci] ∈ LK ∧ ci < 13 := by
  rcases ps with _ | ⟨p0, _ | ⟨p1, pr9⟩⟩ <;> try (cases h; done)
  have h : (pv_lk LK p0 [8, o, idx, j, n, ci] && decide (ci < 13)) = true := h
  simp only [Bool.and_eq_true, decide_eq_true_eq] at h
  exact ⟨pv_lk_inv h.1, h.2⟩
theorem pv_okc_i {LK : List (List Nat)} {o idx j n z : Nat} {ps : List Nat} (h : pv_okc LK o (.invokespecial idx) [j, n, z] ps = true) : [9, o, idx, j, n] ∈ LK := by
  rcases ps with _ | ⟨p0, _ | ⟨p1, pr9⟩⟩ <;> try (cases h; done)
  have h : pv_lk LK p0 [9, o, idx, j, n] = true := h
  exact pv_lk_inv h
set_option maxHeartbeats 8000000 in
/-- a call -/
theorem pv_call {rows : List pv_R} {own mn : String} {cc : ByteArray} {nL k pc len d j : Nat} {i : Instr} {xs ps : List Nat} {lo : pv_L} {st as rest : List Value} {h h1 : pv_H} {v : Option Value} {ls : Array Slot} {pr : List pv_M} {LK : List (List Nat)} {o : Nat} (hLK : pv_LKs pr LK) (ho : pv_cn[o]? = some own)
    (S : pv_St p s m args meth c R cc own mn nL D cA B A) (hI : pv_I D cA B A s h H locs) (hl : lv_has ls nL (pv_l B lo)) (hd : decode cc pc = .ok (i, 3)) (hok : pv_okc LK o i xs ps = true) (hx : pv_inv i xs st h = some (j, as, rest)) (hM : ∀ sz, B + h.length ≤ sz → (h.length < h1.length → sz = B + h.length) → pv_Met l D cA B sz pr d j as h v h1) (hlen1 : h.length ≤ h1.length) (hB : h.length < h1.length → s.heap.size + cells = B + h.length) (hRf : d + 7 ≤ R.frames) (hRl : 60 * (d + 7) ≤ R.locals) (hm30 : ∀ M, pr[j]? = some M → M.2.2.1 ≤ 30) (hRc : cells + (h1.length - h.length) ≤ R.cells) (hRs : slots + (pv_sl h1 - pv_sl h) ≤ R.slots)
    (kk : ∀ (H1 : Heap) (locs1 : List Loc), pv_I D cA B A s h1 H1 locs1 → W p l e R s m args below meth c H1 locs1 (cells + (h1.length - h.length)) (slots + (pv_sl h1 - pv_sl h)) Q (F0 m (pc + 3) ls ((v.toList ++ rest).map (pv_v B)))) : W p l e R s m args below meth c H locs cells slots Q (F0 m pc ls (st.map (pv_v B))) := by
  obtain ⟨hF, hmn, hK, hBs, hfr, hlo, hG9⟩ := id S
  obtain ⟨hex, hb, hml, hown, hts⟩ := id hF
  obtain ⟨hP, hS, hAk⟩ := id hI
  have kk2 : ∀ (H1 : Heap) (locs1 : List Loc), pv_I D cA B A s h1 H1 locs1 → W p l e R s m args below meth c H1 locs1 (cells + (h1.length - h.length)) (slots + (pv_sl h1 - pv_sl h)) Q (F0 m (pc + 3) ls ((v.map (pv_v B)).toList ++ rest.map (pv_v B))) := by
    intro H1 locs1 hI1
    have h9 := kk H1 locs1 hI1
    have e9 : (v.toList ++ rest).map (pv_v B) = (v.map (pv_v B)).toList ++ rest.map (pv_v B) := by cases v <;> simp
    rw [e9] at h9
    exact h9
  refine pv_bound (fun hz => ?_)
  have hlow := pv_low hI hBs
  have hsz : h.length < h1.length → H.size = B + h.length := fun q => by have := hB q; omega
  obtain ⟨M, hj, hMet⟩ := hM H.size hlow hsz
  have w5 := hm30 M hj
  obtain ⟨w3, w2⟩ := hLK.2 j M hj
  have hAA : ∀ q, pv_A B h.length H.size q → A q := by
    intro q hq
    rcases hq with ⟨q1, q2⟩ | q1
    · have h5 := hAk (q - B) (by omega)
      rw [show B + (q - B) = q by omega] at h5
      exact h5
    · exact hBs.1 _ (Nat.le_trans hS.1 q1)
  have hAk1 : ∀ k, k < h1.length → A (B + k) := by
    intro k9 h9
    rcases Nat.lt_or_ge k9 h.length with h5 | h5
    · exact hAk k9 h5
    · have := hsz (by omega)
      exact hBs.1 _ (by have := hS.1; omega)
  have hpre : ∀ U : State, U.heap = H → s.WarmedH U.vm → pv_Pc D cA B H.size as h (as.map (pv_v B)).toArray U := fun U hU hW => ⟨rfl, by rw [hU], pv_K.warm hW hK, by rw [hU]; exact hP, pv_G.warm hW (fun q h1 h2 => by rw [hU]; exact hS.2.1 q h1 (fun z => h2 (hBs.2 q z))) hG9⟩
  unfold pv_inv at hx
  split at hx
  · next idx j2 n =>
    split at hx
    · next hcn =>
      cases hx
      obtain ⟨w0, w1, w4⟩ : (Cond.methodLink own idx M.1 ∈ pv_T ∨ ∃ hst, Cond.methodLinkNest own idx M.1 hst ∈ pv_N) ∧ Cond.static M.1 ∈ pv_T ∧ pv_my M.1 n = true := hLK.1 _ (pv_okc_s hok) own M ho hj
      · skip
        have hG := pv_goodT M w3
        simp only [pv_my, decide_eq_true_eq] at w4
        have hn9 : ((st.take n).reverse.map (pv_v B)).length = n := by simp; omega
        have hst9 : st.map (pv_v B) = ((st.take n).reverse.map (pv_v B)).reverse ++ (st.drop n).map (pv_v B) := by
          rw [← List.map_reverse, List.reverse_reverse, ← List.map_append, List.take_append_drop]
        have hW9 : 2 * (F0 m pc ls (st.map (pv_v B))).monitorRoom + (((st.drop n).map (pv_v B)).map fun v => v.category).sum ≤ 8 := lv_room (by rw [pv_cat_map]; exact hcn.2)
        rcases w0 with hl9 | ⟨hst, hl9⟩
        · exact pv_after (va_runS (As := (st.take n).reverse.map (pv_v B)) (rest := (st.drop n).map (pv_v B)) hF hMet ⟨callB_of n hts hG rfl rfl rfl (hts _ w2) (hts _ hl9) w4 ⟨by have q9 : (pv_rm d h h1).frames = d + 6 := rfl; omega, by have q9 : (pv_rm d h h1).locals = 60 * (d + 6) := rfl; omega⟩, hts _ w1⟩ ⟨pv_blind D cA B _ _ h, hpre⟩ rfl hn9 hl.1 hst9 hW9 hd ⟨hRc, hRs⟩) hS hAA hAk1 kk2
        · exact pv_after (va_runSN (As := (st.take n).reverse.map (pv_v B)) (rest := (st.drop n).map (pv_v B)) hF hMet ⟨va_cnB n hts hG rfl rfl rfl (hK.2 _ hl9) (hts _ w2) w4 ⟨by have q9 : (pv_rm d h h1).frames = d + 6 := rfl; omega, by have q9 : (pv_rm d h h1).locals = 60 * (d + 6) := rfl; omega⟩, hts _ w1, trivial⟩ ⟨pv_blind D cA B _ _ h, hpre⟩ rfl hn9 hl.1 hst9 hW9 hd ⟨hRc, hRs⟩) hS hAA hAk1 kk2
    · cases hx
  · next idx j2 n ci =>
    split at hx
    · next b r hdrop =>
      split at hx
      · next ci2 fs hb9 =>
        split at hx
        · next hcn =>
          obtain ⟨rfl, hcat⟩ := hcn
          cases hx
          obtain ⟨hok8, hci⟩ := pv_okc_v hok
          obtain ⟨q, hq⟩ : ∃ q, vwCl[ci2]? = some q := ⟨_, List.getElem?_eq_getElem (by exact hci)⟩
          obtain ⟨w0, w1, w6, w4, w7⟩ : (Cond.methodLink own idx M.1 ∈ pv_T ∨ ∃ hst, Cond.methodLinkNest own idx M.1 hst ∈ pv_N) ∧ Cond.instanceMethod M.1 ∈ pv_T ∧ Cond.selects M.1.cls M.1 M.1 ∈ pv_T ∧ pv_my M.1 n = true ∧ q.1 = M.1.cls := hLK.1 _ hok8 own M q ho hj hq
          · · skip
              have hG := pv_goodT M w3
              simp only [pv_my, decide_eq_true_eq] at w4
              have hlen : n ≤ st.length := by
                rcases Nat.lt_or_ge st.length n with h5 | h5
                · rw [List.drop_eq_nil_of_le (by omega)] at hdrop; cases hdrop
                · exact h5
              have hn9 : ((st.take n).reverse.map (pv_v B)).length = n := by simp; omega
              have hst9 : st.map (pv_v B) = ((st.take n).reverse.map (pv_v B)).reverse ++ .ref (B + b) :: rest.map (pv_v B) := by
                have h5 : st = st.take n ++ (.ref b :: rest) := by rw [← hdrop, List.take_append_drop]
                rw [← List.map_reverse, List.reverse_reverse]
                conv => lhs; rw [h5]
                rw [List.map_append]
                rfl
              have hW9 : 2 * (F0 m pc ls (st.map (pv_v B))).monitorRoom + ((rest.map (pv_v B)).map fun v => v.category).sum ≤ 8 := lv_room (by rw [pv_cat_map]; exact hcat)
              have hrec := va_recv hK.1 hP hq (pv_w_get hb9)
              rw [w7] at hrec
              rcases w0 with hl9 | ⟨hst, hl9⟩
              · exact pv_after (va_runV (C := M.1.cls) (As := (st.take n).reverse.map (pv_v B)) (rest := rest.map (pv_v B)) hF hMet ⟨callB_of n hts hG rfl rfl rfl (hts _ w2) (hts _ hl9) w4 ⟨by have q9 : (pv_rm d h h1).frames = d + 6 := rfl; omega, by have q9 : (pv_rm d h h1).locals = 60 * (d + 6) := rfl; omega⟩, hts _ w1, hts _ w6⟩ ⟨pv_blind D cA B _ _ h, hrec, hpre⟩ rfl hn9 hl.1 hst9 hW9 hd ⟨hRc, hRs⟩) hS hAA hAk1 kk2
              · exact pv_after (va_runVN (C := M.1.cls) (As := (st.take n).reverse.map (pv_v B)) (rest := rest.map (pv_v B)) hF hMet ⟨va_cnB n hts hG rfl rfl rfl (hK.2 _ hl9) (hts _ w2) w4 ⟨by have q9 : (pv_rm d h h1).frames = d + 6 := rfl; omega, by have q9 : (pv_rm d h h1).locals = 60 * (d + 6) := rfl; omega⟩, hts _ w1, hts _ w6⟩ ⟨pv_blind D cA B _ _ h, hrec, hpre⟩ rfl hn9 hl.1 hst9 hW9 hd ⟨hRc, hRs⟩) hS hAA hAk1 kk2
        · cases hx
      · cases hx
    · cases hx
  · next idx j2 n z =>
    split at hx
    · next b r hdrop =>
      split at hx
      · next hcat =>
        cases hx
        obtain ⟨w0, w1, w4, w6, w7⟩ : (Cond.methodLink own idx M.1 ∈ pv_T ∨ ∃ hst, Cond.methodLinkNest own idx M.1 hst ∈ pv_N) ∧ Cond.instanceMethod M.1 ∈ pv_T ∧ pv_my M.1 n = true ∧ M.1.name = "<init>" ∧ M.2.2.2.1 = none := hLK.1 _ (pv_okc_i hok) own M ho hj
        · skip
          have hG := pv_goodT M w3
          simp only [pv_my, decide_eq_true_eq] at w4
          have hlen : n ≤ st.length := by
            rcases Nat.lt_or_ge st.length n with h5 | h5
            · rw [List.drop_eq_nil_of_le (by omega)] at hdrop; cases hdrop
            · exact h5
          have hn9 : ((st.take n).reverse.map (pv_v B)).length = n := by simp; omega
          have hst9 : st.map (pv_v B) = ((st.take n).reverse.map (pv_v B)).reverse ++ .ref (B + b) :: rest.map (pv_v B) := by
            have h5 : st = st.take n ++ (.ref b :: rest) := by rw [← hdrop, List.take_append_drop]
            rw [← List.map_reverse, List.reverse_reverse]
            conv => lhs; rw [h5]
            rw [List.map_append]
            rfl
          have hW9 : 2 * (F0 m pc ls (st.map (pv_v B))).monitorRoom + ((rest.map (pv_v B)).map fun v => v.category).sum ≤ 8 := lv_room (by rw [pv_cat_map]; exact hcat)
          have hwM : pv_ws M = Cond.code M.1 M.2.1 M.2.2.1 none :: pv_T := by unfold pv_ws; rw [w7]
          rcases w0 with hl9 | ⟨hst, hl9⟩
          · exact pv_after (va_runI (As := (st.take n).reverse.map (pv_v B)) (rest := rest.map (pv_v B)) hF hMet (cwI n hts hG hwM rfl rfl (hts _ w2) (hts _ hl9) (hts _ w1) w6 w4 ⟨by have q9 : (pv_rm d h h1).frames = d + 6 := rfl; omega, by have q9 : (pv_rm d h h1).locals = 60 * (d + 6) := rfl; omega⟩) ⟨pv_blind D cA B _ _ h, hpre⟩ rfl hn9 hl.1 hst9 hW9 hd ⟨hRc, hRs⟩) hS hAA hAk1 kk2
          · exact pv_after (va_runIN (As := (st.take n).reverse.map (pv_v B)) (rest := rest.map (pv_v B)) hF hMet ⟨va_cnB n hts hG hwM rfl rfl (hK.2 _ hl9) (hts _ w2) w4 ⟨by have q9 : (pv_rm d h h1).frames = d + 6 := rfl; omega, by have q9 : (pv_rm d h h1).locals = 60 * (d + 6) := rfl; omega⟩, w6, hts _ w1⟩ ⟨pv_blind D cA B _ _ h, hpre⟩ rfl hn9 hl.1 hst9 hW9 hd ⟨hRc, hRs⟩) hS hAA hAk1 kk2
      · cases hx
    · cases hx
  · cases hx
end PVV
