/-! WHOLE METHODS -/
section PVX
variable {p : Program} {l : Launch} {e : Env} {R : Room} {s : State} {m : MethodId} {args : Array Value} {below : List Frame} {meth : Method} {c : Code}
variable {D : va_G} {cA : Nat → ClassId} {B : Nat} {A : Nat → Prop}
set_option maxHeartbeats 8000000 in
theorem pv_goW {call : Nat → List Value → pv_H → Option (Option Value × pv_H)} {pr : List pv_M} {LK : List (List Nat)} (hLK : pv_LKs pr LK) (hm30 : ∀ (j : Nat) (M : pv_M), pr[j]? = some M → M.2.2.1 ≤ 30) {d : Nat} (hcall : ∀ j as h v h', call j as h = some (v, h') → ∀ sz, B + h.length ≤ sz → (h.length < h'.length → sz = B + h.length) → pv_Met l D cA B sz pr d j as h v h') (hlen : ∀ j as h v h', call j as h = some (v, h') → h.length ≤ h'.length ∧ pv_sl h ≤ pv_sl h')
    {M : pv_M} (hM : pv_okM2 LK M = true) (S : pv_St p s m args meth c R M.2.1 M.1.cls M.1.name M.2.2.1 D cA B A) (hr : meth.sig.returnType = M.2.2.2.1) (hlocks : meth.locks = false) {v : Option Value} {h' : pv_H} {n0 s0 : Nat} (hs0 : n0 < h'.length → s.heap.size = B + n0) (hRf : d + 7 ≤ R.frames) (hRl : 60 * (d + 7) ≤ R.locals) (hRc : R.cells + n0 = h'.length) (hRs : R.slots + s0 = pv_sl h') :
    ∀ (f k : Nat) (lo : pv_L) (st : List Value) (h : pv_H), pv_go call M.2.2.2.2 f k lo st h = some (v, h') → ∀ (H : Heap) (locs : List Loc) (ls : Array Slot) (cells slots pc : Nat), pv_pc M.2.2.2.2 k = pc → pv_I D cA B A s h H locs → lv_has ls M.2.2.1 (pv_l B lo) → cells + n0 = h.length → slots + s0 = pv_sl h → W p l e R s m args below meth c H locs cells slots (MQ below (pv_Qc D cA B A v h') args s R.cells R.slots A) (F0 m pc ls (st.map (pv_v B))) := by
  obtain ⟨o, ho, hrows⟩ := pv_okM_row hM
  intro f
  induction f with
  | zero => intro k lo st h hx; cases hx
  | succ f ih =>
    intro k lo st h hx H locs ls cells slots pc hpc hI hl hcn hsn
    obtain ⟨hF, hmn, hK, hBs, hfr, hlo, hG9⟩ := id S
    obtain ⟨hex, hb, hml, hown, hts⟩ := id hF
    simp only [pv_go] at hx
    split at hx
    · cases hx
    · next r hrow =>
      have hpc' : r.1 = pc := by rw [← hpc]; simp [pv_pc, hrow]
      rcases hrows _ _ hrow with hnop | hok
      · exfalso
        rw [hnop] at hx
        simp [pv_ret, pv_inv, pv_x] at hx
      simp only [pv_okR2, Bool.and_eq_true, decide_eq_true_eq] at hok
      obtain ⟨hdec, hok⟩ := hok
      rw [hpc'] at hdec hok
      split at hx
      · next v9 hret =>
        cases hx
        rw [if_pos (pv_ret_is hret)] at hok
        simp only [Bool.and_eq_true, beq_iff_eq] at hok
        obtain ⟨hokr, hlen1⟩ := hok
        rw [hlen1] at hdec
        have hc9 : R.cells = cells := by omega
        have hs9 : R.slots = slots := by omega
        rw [hc9, hs9]
        have hq : ∀ (v9 : Option Value), ∀ t : State, t.heap = H → s.WarmedH t.vm → pv_Qc D cA B A v9 h' args s (.returned (v9.map (pv_v B))) t := fun v9 t ht hW => ⟨rfl, pv_K.warm hW hK, by rw [ht]; exact hI.1, hI.2.1.F ht⟩
        obtain ⟨rpc, ri, rlen, rxs, rps⟩ := r
        dsimp only at hret hokr hdec
        unfold pv_ret at hret
        split at hret
        · next z =>
          split at hret
          · cases hret
            have hokr : decide (M.2.2.2.1 = some .int) = true := hokr
            exact W.iret hex hb (hr.trans (of_decide_eq_true hokr)) (hq (some (.int z))) hI.2.1.2.2 hdec hlocks
          · split at hret
            · next hz =>
              cases hret
              have hokr : decide (M.2.2.2.1 = some .boolean) = true := hokr
              exact W.zret (ty := .boolean) hex hb (hr.trans (of_decide_eq_true hokr)) (by rcases hz with rfl | rfl <;> rfl) (hq (some (.int z))) hI.2.1.2.2 hdec hlocks
            · cases hret
          · cases hret
        · next z =>
          cases hret
          have hokr : decide (M.2.2.2.1 = some .long) = true := hokr
          exact W.lret hex hb (hr.trans (of_decide_eq_true hokr)) (hq (some (.long z))) hI.2.1.2.2 hdec hlocks
        · cases hret
          have hokr : decide (M.2.2.2.1 = none) = true := hokr
          exact W.vret hex hb (hr.trans (of_decide_eq_true hokr)) (hq none) hI.2.1.2.2 hdec hlocks
        · cases hret
      · split at hx
        · next j as rest hinv =>
          obtain ⟨i1, i2⟩ := pv_inv_is hinv
          rw [if_neg (by rw [i1]; decide), if_pos i2] at hok
          simp only [Bool.and_eq_true] at hok
          obtain ⟨hokc, hnx⟩ := hok
          obtain ⟨hl3, hn⟩ := pv_nx_inv hnx
          rw [hl3] at hdec
          split at hx
          · next v1 h1 hc =>
            have a1 := hlen _ _ _ _ _ hc
            have a2 := pv_go_len hlen _ _ _ _ _ _ _ hx
            refine pv_call (rows := M.2.2.2.2) (k := k) (len := 3) hLK ho S hI hl hdec hokc hinv (hcall _ _ _ _ _ hc) a1.1 (fun q => by have := hs0 (by omega); omega) hRf hRl (fun M9 h9 => hm30 _ M9 h9) (by omega) (by omega) (fun H1 locs1 hI1 => ?_)
            exact ih _ _ _ _ hx H1 locs1 ls _ _ _ hn hI1 hl (by omega) (by omega)
          · cases hx
        · split at hx
          · next k1 lo1 st1 h1 hc =>
            obtain ⟨i1, i2⟩ := pv_x_is hc
            rw [if_neg (by rw [i1]; decide), if_neg (by rw [i2]; decide)] at hok
            have a1 := pv_x_len hc
            have a2 := pv_go_len hlen _ _ _ _ _ _ _ hx
            dsimp only at a1
            have a3 : h1.length ≤ h'.length := a2.1
            have a4 : pv_sl h1 ≤ pv_sl h' := a2.2
            split at hok
            · next hist =>
              refine pv_text ho S hI hl hdec hist hok hc ⟨by omega, by omega⟩ (by omega) (by omega) (fun H1 locs1 ls1 cells1 slots1 pc1 hp1 hI1 hl1 e1 e2 => ?_)
              dsimp only at e1 e2 hp1 hI1 hl1
              exact ih _ _ _ _ hx H1 locs1 ls1 cells1 slots1 pc1 hp1 hI1 hl1 (by omega) (by omega)
            · next hist =>
              refine pv_step hLK ho S hI hl hdec hok hc (fun q => by have q : h.length < h1.length := q; have := hs0 (by omega); omega) (by dsimp only; omega) (by dsimp only; omega) (fun H1 locs1 ls1 cells1 slots1 pc1 hp1 hI1 hl1 e1 e2 => ?_)
              dsimp only at e1 e2 hp1 hI1 hl1
              exact ih _ _ _ _ hx H1 locs1 ls1 cells1 slots1 pc1 hp1 hI1 hl1 (by omega) (by omega)
          · cases hx
end PVX
set_option maxHeartbeats 8000000 in
theorem pv_runMet {l : Launch} {D : va_G} {cA : Nat → ClassId} {B : Nat} {pr : List pv_M} {LK : List (List Nat)} (hLK : pv_LKs pr LK) (hpr : ∀ (j : Nat) (M : pv_M), pr[j]? = some M → pv_okM2 LK M = true) (F : Nat) : ∀ (d j : Nat) (as : List Value) (h : pv_H) (v : Option Value) (h' : pv_H), pv_run pr F d j as h = some (v, h') → ∀ sz, B + h.length ≤ sz → (h.length < h'.length → sz = B + h.length) → pv_Met l D cA B sz pr d j as h v h' := by
  have hm30 : ∀ (j : Nat) (M : pv_M), pr[j]? = some M → M.2.2.1 ≤ 30 := by
    intro j M hj
    have h1 := hpr j M hj
    simp only [pv_okM2, Bool.and_eq_true, decide_eq_true_eq] at h1
    exact h1.1.2
  intro d
  induction d with
  | zero => intro j as h v h' hx; cases hx
  | succ d ih =>
    intro j as h v h' hx sz hsz0 hsz1
    simp only [pv_run] at hx
    split at hx
    · next M hj =>
      split at hx
      · next hcat =>
        refine ⟨M, hj, ?_⟩
        have hM := hpr j M hj
        have hM2 := hM
        simp only [pv_okM2, Bool.and_eq_true, beq_iff_eq, decide_eq_true_eq] at hM2
        have hlen := pv_go_len (pv_run_len d) _ _ _ _ _ _ _ hx
        refine Met.ofW (cc := M.2.1) (maxL := M.2.2.1) (ret := M.2.2.2.1) hM2.1.1.1 rfl ?_
        intro p e s m args below meth c s₁ BB hml hv
        obtain ⟨rfl, hsz, hK, hP, hG9⟩ := hv
        have hts := atoms_spec (ws := pv_ws M) BB.pre
        have hown : s.vm.findClass M.1.cls = some m.cls := findClass_of_methodNamed BB.named
        have hin : meth.name = M.1.name := (name_of_methodNamed BB.named BB.method).1
        have S : pv_St p s m (as.map (pv_v B)).toArray meth c (headSpec (pv_ws M) (pv_rm (d + 1) h h')).room M.2.1 M.1.cls M.1.name M.2.2.1 D cA B (pv_A B h.length sz) := by
          refine ⟨⟨BB.exec, BB.bytes, hml, hown, fun w hw => hts w (List.mem_cons_of_mem _ hw)⟩, hin, hK, ⟨fun q hq => Or.inr (by rw [← hsz]; exact hq), fun q hq => by rcases hq with hq | hq <;> omega⟩, ?_, ?_, hG9⟩
          · show 1 ≤ d + 1 + 6
            omega
          · show 60 ≤ 60 * (d + 1 + 6)
            omega
        have hl := lv_entry (as.map (pv_v B)) (n := M.2.2.1) (by rw [pv_lsl]; exact hcat)
        rw [pv_l_args] at hl
        rw [lg_entry_eq]
        exact pv_goW (R := (headSpec (pv_ws M) (pv_rm (d + 1) h h')).room) hLK hm30 (d := d) ih (pv_run_len d) hM S BB.returns BB.notSynchronized (n0 := h.length) (s0 := pv_sl h) (fun q => by rw [hsz]; exact hsz1 q) (by show d + 7 ≤ d + 1 + 6; omega) (by show 60 * (d + 7) ≤ 60 * (d + 1 + 6); omega) (by show h'.length - h.length + h.length = _; omega) (by show pv_sl h' - pv_sl h + pv_sl h = _; omega) F 0 (lv_args 0 as) [] h hx s.heap [] _ 0 0 0 hM2.1.1.2 ⟨hP, va_S.rf, fun k9 h9 => Or.inl ⟨by omega, by omega⟩⟩ hl (by omega) (by omega)
      · cases hx
    · cases hx
