/-! THE LAW'S WALK: one call of the class beside one of the model -/
def lw_two (idx pc : Nat) (sp : List (Nat × Bool)) (idC idM : Nat) (tl : Nat → Bool) : Bool := match lw_chk idx (pc + 1) sp with
  | some p1 => (match lw_chk idx (p1 + 4) sp with
    | some p2 => decide (decode code pc = .ok (.aload_n 1, 1) ∧ decode code p1 = .ok (.invokevirtual idC, 3) ∧ decode code (p1 + 3) = .ok (.aload_n 2, 1) ∧ decode code p2 = .ok (.invokevirtual idM, 3)) && tl p2
    | none => false)
  | none => false
def lw_tlI (p2 : Nat) : Bool := decide (decode code (p2 + 3) = .ok (.if_icmp .eq (1446 - ((p2 + 3 : Nat) : Int)), 3))
def lw_tlL (p2 : Nat) : Bool := decide (decode code (p2 + 3) = .ok (.lcmp, 1) ∧ decode code (p2 + 4) = .ok (.ifCond .eq (1446 - ((p2 + 4 : Nat) : Int)), 3))
/-- the words of a call out of the law, by their places -/
def lw_wdb (j idx n ci p1 p2 p3 : Nat) : Bool := match pv_prog[j]?, vwCl[ci]? with
  | some M, some q => ((decide (lw_tbl[p1]? = some (.methodLink R_law idx M.1)) && goodWord (.methodLink R_law idx M.1)) && (decide (lw_tbl[p2]? = some (.instanceMethod M.1)) && goodWord (.instanceMethod M.1))) && ((decide (lw_tbl[p3]? = some (.selects M.1.cls M.1 M.1)) && goodWord (.selects M.1.cls M.1 M.1)) && (pv_my M.1 n && decide (q.1 = M.1.cls)))
  | _, _ => false
theorem lw_wdb_ok {j idx n ci p1 p2 p3 : Nat} (h : lw_wdb j idx n ci p1 p2 p3 = true) : ∃ M q, pv_prog[j]? = some M ∧ vwCl[ci]? = some q ∧ Cond.methodLink R_law idx M.1 ∈ pv_T ∧ Cond.instanceMethod M.1 ∈ pv_T ∧ Cond.selects M.1.cls M.1 M.1 ∈ pv_T ∧ pv_my M.1 n = true ∧ q.1 = M.1.cls := by
  unfold lw_wdb at h
  split at h
  · next M q hM hq =>
    simp only [Bool.and_eq_true] at h
    obtain ⟨⟨h1, h2⟩, h3, h4, h5⟩ := h
    exact ⟨M, q, hM, hq, pv_mT p1 (by simp only [Bool.and_eq_true]; exact h1), pv_mT p2 (by simp only [Bool.and_eq_true]; exact h2), pv_mT p3 (by simp only [Bool.and_eq_true]; exact h3), h4, of_decide_eq_true h5⟩
  · cases h
theorem lw_val_v (xs : Nat → Int32) (B : Nat) (sp : List (Nat × Bool)) : (sp.map (lw_val xs)).map (pv_v B) = sp.map (lw_val xs) := by
  rw [List.map_map]
  apply List.map_congr_left
  intro q _
  obtain ⟨k, t⟩ := q
  cases t <;> rfl
section LAW3
variable {p : Program} {l : Launch} {e : Env} {R : Room} {s : State} {m : MethodId} {below : List Frame} {meth : Method} {c : Code} {H : Heap} {locs : List Loc} {cells slots : Nat} {Q : State → Prop} {b : Nat} {xs : Nat → Int32} {ls : Array Slot} {D : va_G} {cA : Nat → ClassId}
set_option maxHeartbeats 2000000 in
theorem lw_case {B pc idx idC idM jC jM c1 c2 c3 m1 m2 m3 : Nat} {sp : List (Nat × Bool)} {tl : Nat → Bool} {f f2 : Nat → Nat → Int32} {g g2 : Nat → Nat → Int64} {w : Value} (hwv : ∀ B, pv_v B w = w) (hwc : pv_cat [w] ≤ 8) (I : lw_In p s m c b xs ls B) (hw : Cond.constantLong R_law idx 4294967295 ∈ pv_T) (hK : pv_K D cA s) (hB : s.heap.size ≤ B) (hP1 : va_P D vwCl (pv_w cA B (gC f g)) H) (hP2 : va_P D vwCl (pv_w cA (B + 79) (gM f2 g2)) H) (hS : va_S (lw_A s) s.heap H locs) (hsz : B + 143 ≤ H.size)
    (hRf : 13 ≤ R.frames) (hRl : 780 ≤ R.locals) (hRc : cells ≤ R.cells) (hRs : slots ≤ R.slots) (ck : lw_two idx pc sp idC idM tl = true) (wC : lw_wdb jC idC sp.length 11 c1 c2 c3 = true) (wM : lw_wdb jM idM sp.length 12 m1 m2 m3 = true) (hC : wR 12 jC (.ref 0 :: sp.map (lw_val xs)) (gC f g) (fun v h => v = some w ∧ h.length = 79)) (hM : wR 12 jM (.ref 0 :: sp.map (lw_val xs)) (gM f2 g2) (fun v h => v = some w ∧ h.length = 64))
    (kk : ∀ (H1 : Heap) (locs1 : List Loc) (p2 : Nat), va_S (lw_A s) s.heap H1 locs1 → tl p2 = true → W p l e R s m #[.ref b] below meth c H1 locs1 cells slots Q (F0 m (p2 + 3) ls [w, w])) : W p l e R s m #[.ref b] below meth c H locs cells slots Q (F0 m pc ls []) := by
  unfold lw_two at ck
  split at ck
  · next p1 hp1 =>
    split at ck
    · next p2 hp2 =>
      simp only [Bool.and_eq_true, decide_eq_true_eq] at ck
      obtain ⟨⟨d1, d2, d3, d4⟩, d5⟩ := ck
      obtain ⟨⟨hx, hb, hml, hown, hts⟩, hX, hbl, hl⟩ := id I
      obtain ⟨MC, qC, a1, a2, a3, a4, a5, a6, a7⟩ := lw_wdb_ok wC
      obtain ⟨MM, qM, b1, b2, b3, b4, b5, b6, b7⟩ := lw_wdb_ok wM
      obtain ⟨FC, vC, hC', r1, rfl, r3⟩ := hC
      obtain ⟨FM, vM, hM', s1, rfl, s3⟩ := hM
      refine lv_aload_n hx hb d1 rfl (lv_at hl 2 rfl) (lw_loads I hS hw sp _ _ _ hp1 ?_)
      refine lw_callV (B := B) (rest := []) I.1 hK hP1 hS (fun _ h => h) hB (by show B + 79 ≤ _; omega) a1 a2 rfl r1 (by rw [r3]; rfl) a3 a4 a5 a6 a7 (by simp) (lw_val_v xs B sp) (by decide) hl.1 d2 hRf hRl hRc hRs (fun H1 locs1 hS1 hk1 hz1 => ?_)
      rw [show ((some w).map (pv_v B)).toList ++ ([] : List Value) = [w] by simp [hwv]]
      refine lv_aload_n hx hb d3 rfl (lv_at hl 1 rfl) (lw_loads I hS1 hw sp _ _ _ hp2 ?_)
      have hP2' : va_P D vwCl (pv_w cA (B + 79) (gM f2 g2)) H1 := va_P_same hP2 (fun k q hq => by
        obtain ⟨u1, u2⟩ := pv_w_get' hq
        have u3 : k < 64 := u2
        exact hk1 q.1 (by omega) (by show ¬ (B ≤ q.1 ∧ q.1 < B + 79); omega))
      refine lw_callV (B := B + 79) (rest := [w]) I.1 hK hP2' hS1 (fun _ h => h) (by omega) (by show B + 79 + 64 ≤ _; omega) b1 b2 rfl s1 (by rw [s3]; rfl) b3 b4 b5 b6 b7 (by simp) (lw_val_v xs (B + 79) sp) hwc hl.1 d4 hRf hRl hRc hRs (fun H2 locs2 hS2 _ _ => ?_)
      rw [show ((some w).map (pv_v (B + 79))).toList ++ [w] = [w, w] by simp [hwv]]
      exact kk H2 locs2 p2 hS2 d5
    · cases ck
  · cases ck
theorem lw_caseI {B pc idx idC idM jC jM c1 c2 c3 m1 m2 m3 : Nat} {sp : List (Nat × Bool)} {f f2 : Nat → Nat → Int32} {g g2 : Nat → Nat → Int64} (I : lw_In p s m c b xs ls B) (hw : Cond.constantLong R_law idx 4294967295 ∈ pv_T) (hK : pv_K D cA s) (hB : s.heap.size ≤ B) (hP1 : va_P D vwCl (pv_w cA B (gC f g)) H) (hP2 : va_P D vwCl (pv_w cA (B + 79) (gM f2 g2)) H) (hS : va_S (lw_A s) s.heap H locs) (hsz : B + 143 ≤ H.size)
    (hR : 13 ≤ R.frames ∧ 780 ≤ R.locals ∧ cells ≤ R.cells ∧ slots ≤ R.slots) (hF1 : fr_ok vlC f) (hF2 : fr_ok vlM f2) (kk : ∀ (H1 : Heap) (locs1 : List Loc), va_S (lw_A s) s.heap H1 locs1 → W p l e R s m #[.ref b] below meth c H1 locs1 cells slots Q (F0 m 1446 ls [])) (heq : eqv jC jM (.ref 0 :: sp.map (lw_val xs))) (ck : (lw_two idx pc sp idC idM lw_tlI && (lw_wdb jC idC sp.length 11 c1 c2 c3 && lw_wdb jM idM sp.length 12 m1 m2 m3)) = true) : W p l e R s m #[.ref b] below meth c H locs cells slots Q (F0 m pc ls []) := by
  simp only [Bool.and_eq_true] at ck
  obtain ⟨x, h1, h2⟩ := heq
  refine lw_case (w := .int x) (fun _ => rfl) (by show 1 ≤ 8; decide) I hw hK hB hP1 hP2 hS hsz hR.1 hR.2.1 hR.2.2.1 hR.2.2.2 ck.1 ck.2.1 ck.2.2 (h1 f g hF1) (h2 f2 g2 hF2) (fun H1 locs1 p2 hS1 ht => ?_)
  have hd := of_decide_eq_true ht
  exact lv_icmp_eq (tgt := 1446) I.1.1 I.1.2.1 hd (by omega) (fun _ => kk H1 locs1 hS1) (fun h => absurd rfl h)
theorem lw_caseL {B pc idx idC idM jC jM c1 c2 c3 m1 m2 m3 : Nat} {sp : List (Nat × Bool)} {f f2 : Nat → Nat → Int32} {g g2 : Nat → Nat → Int64} (I : lw_In p s m c b xs ls B) (hw : Cond.constantLong R_law idx 4294967295 ∈ pv_T) (hK : pv_K D cA s) (hB : s.heap.size ≤ B) (hP1 : va_P D vwCl (pv_w cA B (gC f g)) H) (hP2 : va_P D vwCl (pv_w cA (B + 79) (gM f2 g2)) H) (hS : va_S (lw_A s) s.heap H locs) (hsz : B + 143 ≤ H.size)
    (hR : 13 ≤ R.frames ∧ 780 ≤ R.locals ∧ cells ≤ R.cells ∧ slots ≤ R.slots) (hF1 : fr_ok vlC f) (hF2 : fr_ok vlM f2) (kk : ∀ (H1 : Heap) (locs1 : List Loc), va_S (lw_A s) s.heap H1 locs1 → W p l e R s m #[.ref b] below meth c H1 locs1 cells slots Q (F0 m 1446 ls [])) (heq : eqvL jC jM (.ref 0 :: sp.map (lw_val xs))) (ck : (lw_two idx pc sp idC idM lw_tlL && (lw_wdb jC idC sp.length 11 c1 c2 c3 && lw_wdb jM idM sp.length 12 m1 m2 m3)) = true) : W p l e R s m #[.ref b] below meth c H locs cells slots Q (F0 m pc ls []) := by
  simp only [Bool.and_eq_true] at ck
  obtain ⟨x, h1, h2⟩ := heq
  refine lw_case (w := .long x) (fun _ => rfl) (by show 2 ≤ 8; decide) I hw hK hB hP1 hP2 hS hsz hR.1 hR.2.1 hR.2.2.1 hR.2.2.2 ck.1 ck.2.1 ck.2.2 (h1 f g hF1) (h2 f2 g2 hF2) (fun H1 locs1 p2 hS1 ht => ?_)
  obtain ⟨d1, d2⟩ := of_decide_eq_true ht
  refine W.lcmp I.1.1 I.1.2.1 d1 ?_
  have hz : lg_cmp x x = 0 := by
    unfold lg_cmp
    have h9 : ¬ x > x := fun q => by
      have := Int64.lt_iff_toInt_lt.mp q
      omega
    rw [if_neg h9, if_pos rfl]
  exact lv_if_eq (tgt := 1446) I.1.1 I.1.2.1 d2 (by omega) (fun _ => kk H1 locs1 hS1) (fun h => absurd hz h)
end LAW3
