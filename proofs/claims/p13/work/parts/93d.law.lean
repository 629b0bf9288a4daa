/-! THE LAW'S WALK: one call of the class beside one of the model -/
def lw_md (kd : Nat) : Nat := bif Nat.blt 1 kd then 0 else 1
def lw_pp (kd pc : Nat) : Bool := match kd with
  | 0 => decide (decode code pc = .ok (.pop, 1))
  | 1 => decide (decode code pc = .ok (.pop2, 1))
  | _ => true
def lw_tl (kd pc : Nat) : Bool := match kd with
  | 2 => decide (decode code pc = .ok (.if_icmp .eq (1444 - (pc : Int)), 3))
  | 3 => decide (decode code pc = .ok (.lcmp, 1) ∧ decode code (pc + 1) = .ok (.ifCond .eq (1444 - ((pc + 1 : Nat) : Int)), 3))
  | k => lw_pp k pc && decide (decode code (pc + 1) = .ok (.goto (1444 - ((pc + 1 : Nat) : Int)), 3))
def lw_two (idx pc : Nat) (sp : List (Nat × Bool)) (idC idM kd : Nat) : Bool := match lw_chk idx (pc + 1) sp with
  | some p1 => (match lw_chk idx (p1 + 3 + lw_md kd + 1) sp with
    | some p2 => decide (decode code pc = .ok (.aload_n 1, 1) ∧ decode code p1 = .ok (.invokevirtual idC, 3) ∧ decode code (p1 + 3 + lw_md kd) = .ok (.aload_n 2, 1) ∧ decode code p2 = .ok (.invokevirtual idM, 3)) && (lw_pp kd (p1 + 3) && lw_tl kd (p2 + 3))
    | none => false)
  | none => false
/-- the words of a call out of the law, by their places -/
def lw_wdb (j idx n ci p1 p2 p3 : Nat) : Bool := match pv_prog[j]?, vwCl[ci]? with
  | some M, some q => ((decide (lw_look p1 = some (.methodLink R_law idx M.1)) && goodWord (.methodLink R_law idx M.1)) && (decide (lw_look p2 = some (.instanceMethod M.1)) && goodWord (.instanceMethod M.1))) && ((decide (lw_look p3 = some (.selects M.1.cls M.1 M.1)) && goodWord (.selects M.1.cls M.1 M.1)) && (pv_my M.1 n && decide (q.1 = M.1.cls)))
  | _, _ => false
theorem lw_wdb_ok {j idx n ci p1 p2 p3 : Nat} (h : lw_wdb j idx n ci p1 p2 p3 = true) : ∃ M q, pv_prog[j]? = some M ∧ vwCl[ci]? = some q ∧ Cond.methodLink R_law idx M.1 ∈ pv_T ∧ Cond.instanceMethod M.1 ∈ pv_T ∧ Cond.selects M.1.cls M.1 M.1 ∈ pv_T ∧ pv_my M.1 n = true ∧ q.1 = M.1.cls := by
  unfold lw_wdb at h
  split at h
  · next M q hM hq =>
    simp only [Bool.and_eq_true] at h
    obtain ⟨⟨h1, h2⟩, h3, h4, h5⟩ := h
    exact ⟨M, q, hM, hq, pv_mT p1 (by simp only [Bool.and_eq_true]; exact h1), pv_mT p2 (by simp only [Bool.and_eq_true]; exact h2), pv_mT p3 (by simp only [Bool.and_eq_true]; exact h3), h4, of_decide_eq_true h5⟩
  · cases h
theorem lw_val_v (xs : Nat → Int32) (B : Nat) (sp : List (Nat × Bool)) : (sp.map (lw_val xs)).map (pv_v B) = sp.map (lw_val xs) := by
  rw [List.map_map]
  apply List.map_congr_left
  intro q _
  obtain ⟨k, t⟩ := q
  cases t <;> rfl
section LAW3
variable {p : Program} {l : Launch} {e : Env} {R : Room} {s : State} {m : MethodId} {below : List Frame} {meth : Method} {c : Code} {H : Heap} {locs : List Loc} {cells slots : Nat} {Q : State → Prop} {b L i : Nat} {xs : Nat → Int32} {ls : Array Slot} {D : va_G} {cA : Nat → ClassId}
/-- the two worlds in the heap -/
def lw_Wd (D : va_G) (cA : Nat → ClassId) (s : State) (B i : Nat) (H : Heap) (locs : List Loc) : Prop := ∃ A1 A2 : qA, va_P D vwCl (pv_w cA B (qH LC A1)) H ∧ va_P D vwCl (pv_w cA (B + 79) (qH LM A2)) H ∧ (qokA LC A1 ∧ CI A1 ∧ qokA LM A2 ∧ MI A2 ∧ lw_R i A1 A2) ∧ va_S (lw_A s) s.heap H locs ∧ B + 143 ≤ H.size
theorem lw_h0C (A : qA) : (qH LC A)[0]? = some (.inr (11, qfs A 0 0 [(3, 1), (3, 15), (3, 24), (3, 34), (3, 44), (3, 52), (3, 54), (3, 55), (3, 63), (3, 68), (2, 0), (0, 0)])) := rfl
theorem lw_h0M (A : qA) : ∃ fs, (qH LM A)[0]? = some (.inr (12, fs)) := ⟨_, rfl⟩
theorem pv_G.mono {B B' : Nat} {s : State} (h : pv_G B s) (hb : B ≤ B') : pv_G B' s := by
  obtain ⟨adK, adV, h1, h2, h3⟩ := h
  exact ⟨adK, adV, vk_S.narrow h1 (fun q z => Nat.le_trans hb z), va_Z.narrow h2 (fun q z => Nat.le_trans hb z), h3⟩
set_option maxHeartbeats 2000000 in
/-- two calls, one beside the other: what they answer, and the worlds behind them -/
theorem lw_both {B pc idx idC idM jC jM c1 c2 c3 m1 m2 m3 kd : Nat} {t cmp : Bool} {sp : List (Nat × Bool)} (hkd : kd < 4) (hkt : t = (Nat.beq kd 1 || Nat.beq kd 3)) (I : lw_In p s m c b L i xs ls B) (hw : Cond.constantLong R_law idx 4294967295 ∈ pv_T) (hK : pv_K D cA s) (hG : pv_G B s) (hB : s.heap.size ≤ B) (hW : lw_Wd D cA s B i H locs)
    (hRf : 67 ≤ R.frames) (hRl : 5000 ≤ R.locals) (hRc : cells ≤ R.cells) (hRs : slots ≤ R.slots) (ck : lw_two idx pc sp idC idM kd = true) (wC : lw_wdb jC idC sp.length 11 c1 c2 c3 = true) (wM : lw_wdb jM idM sp.length 12 m1 m2 m3 = true)
    (h2 : lw_call2 t cmp jC jM (.ref 0 :: sp.map (lw_val (fun k => xs (i + k)))))
    (kk : ∀ (H1 : Heap) (locs1 : List Loc) (p2 : Nat) (w w2 : Value), lw_ty t w → lw_ty t w2 → (cmp = true → w = w2) → lw_Wd D cA s B (i + 7) H1 locs1 → lw_tl kd (p2 + 3) = true → W p l e R s m #[.ref b] below meth c H1 locs1 cells slots Q (F0 m (p2 + 3) ls (w2 :: (bif Nat.blt 1 kd then [w] else [])))) : W p l e R s m #[.ref b] below meth c H locs cells slots Q (F0 m pc ls []) := by
  obtain ⟨A1, A2, hP1, hP2, ⟨o1, i1, o2, i2, r12⟩, hS, hsz⟩ := hW
  unfold lw_two at ck
  split at ck
  · next p1 hp1 =>
    split at ck
    · next p2 hp2 =>
      simp only [Bool.and_eq_true, decide_eq_true_eq] at ck
      obtain ⟨⟨d1, d2, d3, d4⟩, d5, d6⟩ := ck
      obtain ⟨⟨hx, hb, hml, hown, hts⟩, hX, hbl, hl, hi1, hi2⟩ := id I
      obtain ⟨MC, qC, a1, a2, a3, a4, a5, a6, a7⟩ := lw_wdb_ok wC
      obtain ⟨MM, qM, b1, b2, b3, b4, b5, b6, b7⟩ := lw_wdb_ok wM
      obtain ⟨FC, FM, w, w2, A1', A2', r1, s1, o1', i1', o2', i2', r12', hw1, hw2, hcmp⟩ := h2 i (Nat.le_trans hi1 hi2) A1 A2 o1 i1 o2 i2 r12
      obtain ⟨e1, e2⟩ := lw_ty_c hw1
      obtain ⟨g1, g2⟩ := lw_ty_c hw2
      refine lv_aload_n hx hb d1 rfl (lv_at hl 2 rfl) (lw_loads I hS hw sp _ _ _ hp1 ?_)
      refine lw_callV (B := B) (rest := []) I.1 hK hG hP1 hS (fun _ => Iff.rfl) hB (by rw [qC_len]; omega) a1 a2 (lw_h0C A1) r1 (by rw [qC_len, qC_len]) a3 a4 a5 a6 a7 (by simp) (lw_val_v _ B sp) (by decide) hl.1 d2 hRf hRl hRc hRs (fun H1 locs1 hQ1 hS1 hk1 hz1 => ?_)
      rw [show ((some w).map (pv_v B)).toList ++ ([] : List Value) = [w] by simp [e1]]
      have hP2' : va_P D vwCl (pv_w cA (B + 79) (qH LM A2)) H1 := va_P_same hP2 (fun k q hq => by
        obtain ⟨u1, u2⟩ := pv_w_get' hq
        rw [qM_len] at u2
        exact hk1 q.1 (by omega) (by rw [qC_len]; omega))
      obtain ⟨fs, hfs⟩ := lw_h0M A2
      have go2 : ∀ rest : List Value, pv_cat rest ≤ 8 → (∀ (H2 : Heap) (locs2 : List Loc), lw_Wd D cA s B (i + 7) H2 locs2 → W p l e R s m #[.ref b] below meth c H2 locs2 cells slots Q (F0 m (p2 + 3) ls (w2 :: rest))) → W p l e R s m #[.ref b] below meth c H1 locs1 cells slots Q (F0 m (p1 + 3 + lw_md kd) ls rest) := by
        intro rest hrc k9
        refine lv_aload_n hx hb d3 rfl (lv_at hl 1 rfl) (lw_loads I hS1 hw sp _ _ _ hp2 ?_)
        refine lw_callV (B := B + 79) (rest := rest) I.1 hK (hG.mono (by omega)) hP2' hS1 (fun _ => Iff.rfl) (by omega) (by rw [qM_len]; omega) b1 b2 hfs s1 (by rw [qM_len, qM_len]) b3 b4 b5 b6 b7 (by simp) (lw_val_v _ (B + 79) sp) hrc hl.1 d4 hRf hRl hRc hRs (fun H2 locs2 hQ2 hS2 hk2 hz2 => ?_)
        rw [show ((some w2).map (pv_v (B + 79))).toList ++ rest = w2 :: rest by simp [g1]]
        refine k9 H2 locs2 ⟨A1', A2', ?_, hQ2, ⟨o1', i1', o2', i2', r12'⟩, hS2, by omega⟩
        refine va_P_same hQ1 (fun k q hq => ?_)
        obtain ⟨u1, u2⟩ := pv_w_get' hq
        rw [qC_len] at u2
        exact hk2 q.1 (by omega) (by rw [qM_len]; omega)
      have e2 : w.category = (bif Nat.beq kd 1 || Nat.beq kd 3 then 2 else 1) := by rw [← hkt]; exact e2
      rcases kd with _ | _ | _ | _ | kd
      · have d5 : decide (decode code (p1 + 3) = .ok (.pop, 1)) = true := d5
        refine lv_pop hx hb (of_decide_eq_true d5) e2 ?_
        exact go2 [] (by decide) (fun H2 locs2 hW2 => kk H2 locs2 p2 w w2 hw1 hw2 hcmp hW2 d6)
      · have d5 : decide (decode code (p1 + 3) = .ok (.pop2, 1)) = true := d5
        refine lv_pop2_2 hx hb (of_decide_eq_true d5) e2 ?_
        exact go2 [] (by decide) (fun H2 locs2 hW2 => kk H2 locs2 p2 w w2 hw1 hw2 hcmp hW2 d6)
      · exact go2 [w] (by show w.category + 0 ≤ 8; rw [e2]; decide) (fun H2 locs2 hW2 => kk H2 locs2 p2 w w2 hw1 hw2 hcmp hW2 d6)
      · exact go2 [w] (by show w.category + 0 ≤ 8; rw [e2]; decide) (fun H2 locs2 hW2 => kk H2 locs2 p2 w w2 hw1 hw2 hcmp hW2 d6)
      · exact absurd hkd (by omega)
    · cases ck
  · cases ck
theorem lw_case {B pc idx idC idM jC jM c1 c2 c3 m1 m2 m3 kd : Nat} {sp : List (Nat × Bool)} {t cmp : Bool} (I : lw_In p s m c b L i xs ls B) (hw : Cond.constantLong R_law idx 4294967295 ∈ pv_T) (hK : pv_K D cA s) (hG : pv_G B s) (hB : s.heap.size ≤ B) (hW : lw_Wd D cA s B i H locs) (hR : 67 ≤ R.frames ∧ 5000 ≤ R.locals ∧ cells ≤ R.cells ∧ slots ≤ R.slots)
    (kk : ∀ (H1 : Heap) (locs1 : List Loc), lw_Wd D cA s B (i + 7) H1 locs1 → W p l e R s m #[.ref b] below meth c H1 locs1 cells slots Q (F0 m 1444 ls [])) (hkd : (kd = 0 ∧ t = false) ∨ (kd = 1 ∧ t = true) ∨ (kd = 2 ∧ t = false ∧ cmp = true) ∨ (kd = 3 ∧ t = true ∧ cmp = true)) (h2 : lw_call2 t cmp jC jM (.ref 0 :: sp.map (lw_val (fun k => xs (i + k))))) (ck : (lw_two idx pc sp idC idM kd && (lw_wdb jC idC sp.length 11 c1 c2 c3 && lw_wdb jM idM sp.length 12 m1 m2 m3)) = true) : W p l e R s m #[.ref b] below meth c H locs cells slots Q (F0 m pc ls []) := by
  simp only [Bool.and_eq_true] at ck
  have hkt : t = (Nat.beq kd 1 || Nat.beq kd 3) := by
    rcases hkd with ⟨rfl, rfl⟩ | ⟨rfl, rfl⟩ | ⟨rfl, rfl, _⟩ | ⟨rfl, rfl, _⟩ <;> rfl
  refine lw_both (kd := kd) (by omega) hkt I hw hK hG hB hW hR.1 hR.2.1 hR.2.2.1 hR.2.2.2 ck.1 ck.2.1 ck.2.2 h2 (fun H1 locs1 p2 w w2 hw1 hw2 hcmp hW1 ht => ?_)
  obtain ⟨e1, e2⟩ := lw_ty_c hw2
  rcases hkd with ⟨rfl, rfl⟩ | ⟨rfl, rfl⟩ | ⟨rfl, rfl, rfl⟩ | ⟨rfl, rfl, rfl⟩
  · have ht : (decide (decode code (p2 + 3) = .ok (.pop, 1)) && decide (decode code (p2 + 3 + 1) = .ok (.goto (1444 - ((p2 + 3 + 1 : Nat) : Int)), 3))) = true := ht
    simp only [Bool.and_eq_true, decide_eq_true_eq] at ht
    exact lv_pop I.1.1 I.1.2.1 ht.1 e2 (lv_goto (tgt := 1444) I.1.1 I.1.2.1 ht.2 (by omega) (kk H1 locs1 hW1))
  · have ht : (decide (decode code (p2 + 3) = .ok (.pop2, 1)) && decide (decode code (p2 + 3 + 1) = .ok (.goto (1444 - ((p2 + 3 + 1 : Nat) : Int)), 3))) = true := ht
    simp only [Bool.and_eq_true, decide_eq_true_eq] at ht
    exact lv_pop2_2 I.1.1 I.1.2.1 ht.1 e2 (lv_goto (tgt := 1444) I.1.1 I.1.2.1 ht.2 (by omega) (kk H1 locs1 hW1))
  · have hww := hcmp rfl
    subst hww
    obtain ⟨x, rfl⟩ := hw1
    have ht : decide (decode code (p2 + 3) = .ok (.if_icmp .eq (1444 - ((p2 + 3 : Nat) : Int)), 3)) = true := ht
    exact lv_icmp_eq (tgt := 1444) I.1.1 I.1.2.1 (of_decide_eq_true ht) (by omega) (fun _ => kk H1 locs1 hW1) (fun h => absurd rfl h)
  · have hww := hcmp rfl
    subst hww
    obtain ⟨x, rfl⟩ := hw1
    have ht : decide (decode code (p2 + 3) = .ok (.lcmp, 1) ∧ decode code (p2 + 3 + 1) = .ok (.ifCond .eq (1444 - ((p2 + 3 + 1 : Nat) : Int)), 3)) = true := ht
    obtain ⟨d1, d2⟩ := of_decide_eq_true ht
    refine W.lcmp I.1.1 I.1.2.1 d1 ?_
    have hz : lg_cmp x x = 0 := by
      unfold lg_cmp
      have h9 : ¬ x > x := fun q => by
        have := Int64.lt_iff_toInt_lt.mp q
        omega
      rw [if_neg h9, if_pos rfl]
    exact lv_if_eq (tgt := 1444) I.1.1 I.1.2.1 d2 (by omega) (fun _ => kk H1 locs1 hW1) (fun h => absurd hz h)
end LAW3
