/-! THE LAW'S WALK: its making of the two, its texts -/
theorem lw_dN : decode code 0 = .ok (.new 7, 3) ∧ decode code 3 = .ok (.dup, 1) ∧ decode code 4 = .ok (.invokespecial 9, 3) ∧ decode code 7 = .ok (.astore_n 1, 1) ∧ decode code 8 = .ok (.new 10, 3) ∧ decode code 11 = .ok (.dup, 1) ∧ decode code 12 = .ok (.invokespecial 12, 3) ∧ decode code 15 = .ok (.astore_n 2, 1) ∧ decode code 16 = .ok (.iconst 0, 1) ∧ decode code 17 = .ok (.istore_n 3, 1) := by decide +kernel
section LAW4
variable {p : Program} {l : Launch} {e : Env} {R : Room} {s : State} {m : MethodId} {below : List Frame} {meth : Method} {c : Code} {H : Heap} {locs : List Loc} {cells slots : Nat} {Q : State → Prop} {b : Nat} {xs : Nat → Int32} {ls : Array Slot} {D : va_G} {cA : Nat → ClassId}
/-- a constructor's call, out of the law -/
theorem lw_callI {own : String} {cc : ByteArray} {nL j idx pc F B : Nat} {M : pv_M} {rest : List Value} {h h1 : pv_H} {ls : Array Slot} {args : Array Value} {A : Nat → Prop} (hF : CallFix p m c cc nL s args pv_T own) (hK : pv_K D cA s) (hG : pv_G B s) (hP : va_P D vwCl (pv_w cA B h) H) (hS : va_S A s.heap H locs) (hA : ∀ q, s.heap.size ≤ q ↔ A q) (hB : s.heap.size ≤ B) (hlow : H.size = B + h.length)
    (hj : pv_prog[j]? = some M) (hrun : pv_run pv_prog F 12 j [.ref 0] h = some (none, h1)) (w0 : Cond.methodLink own idx M.1 ∈ pv_T) (w1 : Cond.instanceMethod M.1 ∈ pv_T) (w4 : pv_my M.1 0 = true) (w6 : M.1.name = "<init>") (w7 : M.2.2.2.1 = none) (hcat : pv_cat rest ≤ 8)
    (hsz : ls.size = nL) (hd : decode cc pc = .ok (.invokespecial idx, 3)) (hRf : 67 ≤ R.frames) (hRl : 5000 ≤ R.locals) (hRc : cells + (h1.length - h.length) ≤ R.cells) (hRs : slots + (pv_sl h1 - pv_sl h) ≤ R.slots)
    (kk : ∀ (H1 : Heap) (locs1 : List Loc), va_P D vwCl (pv_w cA B h1) H1 → va_S A s.heap H1 locs1 → (∀ q, q < H.size → ¬ (B ≤ q ∧ q < B + h.length) → H1[q]? = H[q]?) → W p l e R s m args below meth c H1 locs1 (cells + (h1.length - h.length)) (slots + (pv_sl h1 - pv_sl h)) Q (F0 m (pc + 3) ls rest)) : W p l e R s m args below meth c H locs cells slots Q (F0 m pc ls (.ref B :: rest)) := by
  have hts := hF.2.2.2.2
  obtain ⟨M', hj', hMet⟩ := pv_runs (l := l) (D := D) (cA := cA) (B := B) (sz := H.size) F 12 j [.ref 0] h none h1 hrun (by omega) (fun z => hlow)
  rw [hj] at hj'
  cases hj'
  obtain ⟨w3, w2⟩ := pv_all.2 j M hj
  have w5 := (kms_all M (List.mem_of_getElem? hj)).2
  have hm30 : M.2.2.1 ≤ 30 := by
    simp only [pv_okM2, Bool.and_eq_true, decide_eq_true_eq] at w5
    exact w5.1.2
  have hGd := pv_goodT M w3
  simp only [pv_my, decide_eq_true_eq] at w4
  have hpre : ∀ U : State, U.heap = H → s.WarmedH U.vm → pv_Pc D cA B H.size [.ref 0] h (Value.ref B :: ([] : List Value)).toArray U := fun U hU hW => ⟨rfl, by rw [hU], pv_K.warm hW hK, by rw [hU]; exact hP, pv_G.warm hW (fun q h1 _ => by rw [hU]; exact hS.2.1 q h1 (fun z => absurd ((hA q).mpr z) (Nat.not_le.mpr h1))) hG⟩
  have hW9 : 2 * (F0 m pc ls (.ref B :: rest)).monitorRoom + (rest.map fun v => v.category).sum ≤ 8 := lv_room hcat
  have hwM : pv_ws M = Cond.code M.1 M.2.1 M.2.2.1 none :: pv_T := by unfold pv_ws; rw [w7]
  refine pv_after2 (va_runI (As := []) (rest := rest) hF hMet (cwI 0 hts hGd hwM rfl rfl (hts _ w2) (hts _ w0) (hts _ w1) w6 w4 ⟨by have q9 : (pv_rm 12 h h1).frames = 18 := rfl; omega, by have q9 : (pv_rm 12 h h1).locals = 1080 := rfl; omega⟩) ⟨pv_blind D cA B _ _ h, hpre⟩ rfl rfl hsz rfl hW9 hd ⟨hRc, hRs⟩) hS (fun q hq => ?_) (fun H1 locs1 hP1 hS1 hk hz => ?_)
  · rcases hq with ⟨q1, q2⟩ | q1
    · exact (hA _).mp (Nat.le_trans hB q1)
    · exact (hA _).mp (Nat.le_trans hS.1 q1)
  · refine kk H1 locs1 hP1 hS1 (fun q h1 h2 => hk q h1 (fun z => ?_))
    rcases z with z | z
    · exact h2 z
    · exact absurd h1 (Nat.not_lt.mpr z)
/-- a new object, out of the law, behind a world h -/
theorem lw_new {own : String} {cc : ByteArray} {nL idx pc ci B : Nat} {q : vw_C} {rest : List Value} {h : pv_H} {ls : Array Slot} {args : Array Value} (hF : CallFix p m c cc nL s args pv_T own) (hK : pv_K D cA s) (hP : va_P D vwCl (pv_w cA B h) H) (hS : va_S (lw_A s) s.heap H locs) (hB : s.heap.size = B) (hc0 : cells = h.length) (hq : vwCl[ci]? = some q) (w1 : Cond.classLink own idx q.1 ∈ pv_T) (w2 : Cond.instantiable q.1 q.2.2 ∈ pv_T) (w3 : Cond.initialized q.1 ∈ pv_T) (hd : decode cc pc = .ok (.new idx, 3)) (hRc : cells + 1 ≤ R.cells) (hRs : slots + q.2.2 ≤ R.slots)
    (kk : ∀ (H1 : Heap), va_P D vwCl (pv_w cA B h) H1 → va_P D vwCl (pv_w cA (B + h.length) [.inr (ci, pv_fresh ci)]) H1 → va_S (lw_A s) s.heap H1 locs → H1.size = B + h.length + 1 → W p l e R s m args below meth c H1 locs (cells + 1) (slots + q.2.2) Q (F0 m (pc + 3) ls (.ref (B + h.length) :: rest))) : W p l e R s m args below meth c H locs cells slots Q (F0 m pc ls rest) := by
  obtain ⟨hex, hb, hml, hown, hts⟩ := id hF
  obtain ⟨hin, hty, hnm⟩ := pv_cl ci hq
  have hD : va_D (lw_A s) (pv_w cA B h) := pv_D cA B h (fun k hk => by show s.heap.size ≤ B + k; omega)
  refine va_new (C := q.1) (T := q.2.1) (N := q.2.2) (ci := ci) (fs := (pv_fresh ci).map (pv_v (B + h.length))) hex hb hts hin (pv_tyX ci) hty hown (hts _ w1) (hts _ w2) (hts _ w3) hK.1 hP hD hS (fun _ h => h) hq (pv_fr hq) hRc hRs hd (fun a H1 hP1 hD1 hS1 => ?_)
  refine pv_bound (fun hz => ?_)
  have ha : a = B + h.length := pv_next (n := cells + 1) (by omega) hP1 (fun q hq => by show B ≤ q; rw [← hB]; exact hq) hD1 hz
  subst ha
  have hPa : va_P D vwCl (pv_w cA B h) H1 := fun k q9 hk => hP1 k q9 (by rw [List.getElem?_append_left (List.getElem?_eq_some_iff.mp hk).1]; exact hk)
  have hPb : va_P D vwCl (pv_w cA (B + h.length) [.inr (ci, pv_fresh ci)]) H1 := by
    intro k q9 hk
    have hk0 := (pv_w_get' hk).2
    simp only [List.length_singleton] at hk0
    have hk1 : k = 0 := by omega
    subst hk1
    have hk2 : (pv_w cA (B + h.length) [.inr (ci, pv_fresh ci)])[0]? = some (B + h.length, .inr (ci, (pv_fresh ci).map (pv_v (B + h.length)))) := rfl
    rw [hk2] at hk
    cases hk
    exact hP1 h.length _ (by rw [List.getElem?_append_right (by rw [pv_w_len]; exact Nat.le_refl _), pv_w_len, Nat.sub_self]; rfl)
  have hs1 : H1.size = B + h.length + 1 := by
    have h9 := (hPb 0 _ rfl).lt
    have h8 : B + h.length + 0 < H1.size := h9
    omega
  exact kk H1 hPa hPb hS1 hs1
end LAW4
def qsz : qY → Nat
  | (0, _, n, _) => n
  | (1, _, n, _) => n
  | (_, _, _, ks) => ks.length
theorem pv_sl_q (A : qA) : ∀ (L : List qY) (r : Nat), pv_sl (qmk A r L) = (L.map qsz).sum
  | [], _ => rfl
  | y :: L, r => by
    have ih := pv_sl_q A L (r + 1)
    unfold pv_sl at ih ⊢
    show (pv_ce (qce A r y) :: (qmk A (r + 1) L).map pv_ce).sum = (qsz y :: L.map qsz).sum
    rw [List.sum_cons, List.sum_cons, ih]
    congr 1
    obtain ⟨a, t, n, ks⟩ := y
    rcases a with _ | _ | a
    · rfl
    · rfl
    · exact qfs_len A r ks 0
theorem lw_szC : (LC.map qsz).sum ≤ 90000 := by decide +kernel
theorem lw_szM : (LM.map qsz).sum ≤ 90000 := by decide +kernel
theorem lw_slC (A : qA) : 0 + 12 + (pv_sl (qH LC A) - pv_sl [.inr (11, pv_fresh 11)]) ≤ 100000 := by
  have h : pv_sl (qH LC A) ≤ 90000 := by
    unfold qH
    rw [pv_sl_q]
    exact lw_szC
  generalize pv_sl (qH LC A) = a at h ⊢
  generalize pv_sl [.inr (11, pv_fresh 11)] = b
  omega
theorem lw_slM (A : qA) : 100000 + 78 + (pv_sl (qH LM A) - pv_sl [.inr (12, pv_fresh 12)]) ≤ 200000 := by
  have h : pv_sl (qH LM A) ≤ 90000 := by
    unfold qH
    rw [pv_sl_q]
    exact lw_szM
  generalize pv_sl (qH LM A) = a at h ⊢
  generalize pv_sl [.inr (12, pv_fresh 12)] = b
  omega
abbrev lw_tm (i : Nat) : Term := Term.string "CliffGarden$Reader" (pzX.getD i 0)
theorem lw_s1 : ∀ i < 5, Cond.exactly (lw_tm i) "java/lang/String" ∈ flatC (Jvm.Cond.and given_1 narrow_1) ∧ Cond.eq (.field (lw_tm i) "java/lang/String" "coder" "B") (.int 0) ∈ flatC (Jvm.Cond.and given_1 narrow_1) ∧ Cond.arrayOf (.field (lw_tm i) "java/lang/String" "value" "[B") .byte ∈ flatC (Jvm.Cond.and given_1 narrow_1) ∧ Cond.eq (.length (.field (lw_tm i) "java/lang/String" "value" "[B")) (.int (Int32.ofNat (pzL.getD i 0))) ∈ flatC (Jvm.Cond.and given_1 narrow_1) := by decide +kernel
theorem lw_s2 : ∀ i < 5, ∀ j < pzL.getD i 0, Cond.eq (.elem (.field (lw_tm i) "java/lang/String" "value" "[B") (.int (Int32.ofNat j))) (.int ((pzY.getD i []).getD j 0)) ∈ flatC (Jvm.Cond.and given_1 narrow_1) := by decide +kernel
theorem lw_s3 : ∀ i < 5, ∀ j < 5, i ≠ j → Cond.not (Cond.eq (lw_tm i) (lw_tm j)) ∈ flatC (Jvm.Cond.and given_1 narrow_1) ∨ Cond.not (Cond.eq (lw_tm j) (lw_tm i)) ∈ flatC (Jvm.Cond.and given_1 narrow_1) := by decide +kernel
theorem lw_s4 : Cond.eq (.static "java/lang/String" "COMPACT_STRINGS" "Z") (.int 1) ∈ flatC (Jvm.Cond.and given_1 narrow_1) := by decide +kernel
theorem lw_s5 : Cond.laysStatic "java/lang/String" "COMPACT_STRINGS" "Z" ∈ lw_tbl ∧ Cond.initialized "java/lang/String" ∈ lw_tbl := by decide +kernel
theorem lw_s6 : ∀ i < 5, Cond.stringRef "CliffGarden$Reader" (pzX.getD i 0) (pzT.getD i "") ∈ lw_tbl := by decide +kernel
theorem lw_G {s : State} {b : Nat} (hts : ∀ w ∈ lw_tbl, w.before #[Value.ref b] s = true) (hgv : (Jvm.Cond.and given_1 narrow_1).before #[Value.ref b] s = true) : pv_G s.heap.size s := by
  have hs := flat_of_before _ hgv
  obtain ⟨adK, adV, h1, h2⟩ := vk_Sof (N := 5) (tm := lw_tm) (len := pzL) (byt := pzY) (A := fun q => s.heap.size ≤ q) (args := #[Value.ref b]) (s := s) (fun i hi => Nat.lt_of_lt_of_le (pz_ln i hi).2.1 (by decide)) (fun i hi => hs _ (lw_s1 i hi).1) (fun i hi => hs _ (lw_s1 i hi).2.1) (fun i hi => hs _ (lw_s1 i hi).2.2.1) (fun i hi => hs _ (lw_s1 i hi).2.2.2) (fun i hi j hj => hs _ (lw_s2 i hi j hj)) (fun i j hi hj hij => (lw_s3 i hi j hj hij).imp (fun z => hs _ z) (fun z => hs _ z)) (fun a h z => absurd h (Nat.not_lt.mpr z))
  exact ⟨adK, adV, h1, va_Zof (hts _ lw_s5.1) (hts _ lw_s5.2) (va_eqt (hs _ lw_s4)) (fun a h z => absurd h (Nat.not_lt.mpr z)), fun i hi => vk_R.of (hts _ (lw_s6 i hi)) (h2 i hi)⟩
set_option maxHeartbeats 4000000 in
set_option maxRecDepth 100000 in
theorem whole_start {p : Program} {e : Env} {s : State} {m : MethodId} {below : List Frame} {meth : Method} {c : Code} (l : Launch) {b L : Nat} {xs : Nat → Int32} (hL : L ≤ 3584) (C0 : lw_At p s m meth c b L xs) : W p l e room_1 s m #[Value.ref b] below meth c s.heap [] 0 0 (lw_Z below #[Value.ref b] s) (entryFrame m ([Value.ref b] : List Value).toArray 4) := by
  obtain ⟨hx, hb, hr, hml, hown, hts, hX, hbl, hlocks, hgv⟩ := id C0
  have hT : ∀ w ∈ pv_T, w.before #[Value.ref b] s = true := fun w hw => hts w (List.mem_filter.mp hw).1
  have hF : CallFix p m c code 4 s #[.ref b] pv_T R_law := ⟨hx, hb, hml, hown, hT⟩
  obtain ⟨D, cA, hK⟩ := lw_known hts lw_inst
  have hG := lw_G hts hgv
  obtain ⟨d0, d3, d4, d7, d8, d11, d12, d15, d16, d17⟩ := lw_dN
  obtain ⟨MC, jC, wC1, wC2, wC3, wC4, wC5⟩ := lw_iC
  obtain ⟨MM, jM, wM1, wM2, wM3, wM4, wM5⟩ := lw_iM
  obtain ⟨A1, runC, o1, i1, f1, g1, ea1, hF1⟩ := qC_new2
  obtain ⟨A2, runM, o2, i2, f2, g2, ea2, hF2⟩ := qM_new2
  have hl := lv_entry ([.ref b]) (n := 4) (Nat.le_of_ble_eq_true rfl)
  rw [lg_entry_eq]
  generalize (lg_sl ([.ref b]) ++ List.replicate (4 - (lg_sl ([.ref b])).length) Slot.unset).toArray = ls at hl ⊢
  have hl : lv_has ls 4 [(0, .ref b)] := hl
  refine lw_new (ci := 11) (q := _) (h := []) (B := s.heap.size) hF hK (fun k q h => by cases h) va_S.rf rfl rfl rfl lw_nC.1 lw_nC.2.1 lw_nC.2.2 d0 (Nat.le_of_ble_eq_true rfl) (Nat.le_of_ble_eq_true rfl) (fun H1 _ hPb hS1 hs1 => ?_)
  simp only [List.length_nil, Nat.add_zero] at hPb hs1 ⊢
  refine lv_dup hx hb d3 rfl ?_
  refine lw_callI (B := s.heap.size) (h := [.inr (11, pv_fresh 11)]) (rest := [.ref s.heap.size]) hF hK hG hPb hS1 (fun _ => Iff.rfl) (Nat.le_refl _) hs1 jC runC wC1 wC2 wC3 wC4 wC5 (Nat.le_of_ble_eq_true rfl) hl.1 d4 (Nat.le_of_ble_eq_true rfl) (Nat.le_of_ble_eq_true rfl) (by rw [qC_len]; exact Nat.le_of_ble_eq_true rfl) (Nat.le_trans (lw_slC A1) (Nat.le_of_ble_eq_true rfl)) (fun H2 locs2 hP2 hS2 _ => ?_)
  refine W.widen (k := 79) (n := 100000) (by rw [qC_len]; exact Nat.le_of_eq rfl) (lw_slC A1) ?_
  refine lv_astore_n (lv' := [(1, .ref s.heap.size), (0, .ref b)]) hx hb d7 rfl hl (by decide) rfl (fun ls hl => ?_)
  refine lw_new (ci := 12) (q := _) (h := qH LC A1) (B := s.heap.size) hF hK hP2 hS2 rfl (qC_len A1).symm rfl lw_nM.1 lw_nM.2.1 lw_nM.2.2 d8 (Nat.le_of_ble_eq_true rfl) (Nat.le_of_ble_eq_true rfl) (fun H3 hPa hPb3 hS3 hs3 => ?_)
  rw [qC_len] at hPb3 hs3 ⊢
  refine lv_dup hx hb d11 rfl ?_
  refine lw_callI (B := s.heap.size + 79) (h := [.inr (12, pv_fresh 12)]) (rest := [.ref (s.heap.size + 79)]) hF hK (hG.mono (by omega)) hPb3 hS3 (fun _ => Iff.rfl) (by omega) hs3 jM runM wM1 wM2 wM3 wM4 wM5 (Nat.le_of_ble_eq_true rfl) hl.1 d12 (Nat.le_of_ble_eq_true rfl) (Nat.le_of_ble_eq_true rfl) (by rw [qM_len]; exact Nat.le_of_ble_eq_true rfl) (Nat.le_trans (lw_slM A2) (Nat.le_of_ble_eq_true rfl)) (fun H4 locs4 hP4 hS4 hk4 => ?_)
  have hPc : va_P D vwCl (pv_w cA s.heap.size (qH LC A1)) H4 := va_P_same hPa (fun k q hq => by
    obtain ⟨u1, u2⟩ := pv_w_get' hq
    rw [qC_len] at u2
    exact hk4 q.1 (by omega) (by show ¬ (s.heap.size + 79 ≤ q.1 ∧ q.1 < s.heap.size + 79 + 1); omega))
  have hsz : s.heap.size + 143 ≤ H4.size := by
    obtain ⟨e9, he9⟩ : ∃ e9, (qH LM A2)[63]? = some e9 := ⟨_, rfl⟩
    have h9 := (hP4 63 _ (pv_w_get he9)).lt
    have h8 : s.heap.size + 79 + 63 < H4.size := h9
    omega
  refine W.widen (k := 143) (n := 200000) (by rw [qM_len]; exact Nat.le_of_eq rfl) (lw_slM A2) ?_
  refine lv_astore_n (lv' := [(2, .ref (s.heap.size + 79)), (1, .ref s.heap.size), (0, .ref b)]) hx hb d15 rfl hl (by decide) rfl (fun ls hl => ?_)
  refine lv_iconst (v := 0) hx hb d16 (by decide) ?_
  refine lv_istore_n (lv' := [(3, .int 0), (2, .ref (s.heap.size + 79)), (1, .ref s.heap.size), (0, .ref b)]) hx hb d17 rfl hl (by decide) rfl (fun ls hl => ?_)
  exact lw_loop hF hX hbl hL hr hlocks hK hG (Nat.le_refl _) (by decide) (by decide) 3600 0 (by omega) (by omega) H4 locs4 ls ⟨A1, A2, hPc, hP4, ⟨o1, i1, o2, i2, by rw [ea1, ea2]; exact lw_R0 hF1 hF2⟩, hS4, hsz⟩ hl
