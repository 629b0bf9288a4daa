/-! A STEP OF THE PURE MACHINE IS A STEP OF THE MACHINE -/
def pv_St (p : Program) (s : State) (m : MethodId) (args : Array Value) (meth : Method) (c : Code) (R : Room) (cc : ByteArray) (own mn : String) (nL : Nat) (D : va_G) (cA : Nat → ClassId) (B : Nat) (A : Nat → Prop) : Prop :=
  CallFix p m c cc nL s args pv_T own ∧ meth.name = mn ∧ pv_K D cA s ∧ ((∀ q, s.heap.size ≤ q → A q) ∧ ∀ q, A q → B ≤ q) ∧ 1 ≤ R.frames ∧ 60 ≤ R.locals ∧ pv_G B s
def pv_I (D : va_G) (cA : Nat → ClassId) (B : Nat) (A : Nat → Prop) (s : State) (h : pv_H) (H : Heap) (locs : List Loc) : Prop := va_P D vwCl (pv_w cA B h) H ∧ va_S A s.heap H locs ∧ ∀ k, k < h.length → A (B + k)
def pv_KK (p : Program) (l : Launch) (e : Env) (R : Room) (s : State) (m : MethodId) (args : Array Value) (below : List Frame) (meth : Method) (c : Code) (cells slots : Nat) (Q : State → Prop) (rows : List pv_R) (nL : Nat) (D : va_G) (cA : Nat → ClassId) (B : Nat) (A : Nat → Prop) (h : pv_H) (c' : pv_C) : Prop :=
  ∀ (H' : Heap) (locs' : List Loc) (ls' : Array Slot) (cells' slots' pc' : Nat), pv_pc rows c'.1 = pc' → pv_I D cA B A s c'.2.2.2 H' locs' → lv_has ls' nL (pv_l B c'.2.1) → cells' + h.length = cells + c'.2.2.2.length → slots' + pv_sl h = slots + pv_sl c'.2.2.2 → W p l e R s m args below meth c H' locs' cells' slots' Q (F0 m pc' ls' (c'.2.2.1.map (pv_v B)))
theorem pv_lod0 {lo : pv_L} {i k : Nat} {st : List Value} {h : pv_H} {c' : pv_C} (hx : pv_lod lo i k 0 st h = some c') : ∃ x, pv_get lo i = some (.int x) ∧ c' = (k + 1, lo, .int x :: st, h) := by
  unfold pv_lod at hx
  cases hg : pv_get lo i with
  | none => rw [hg] at hx; cases hx
  | some v => rw [hg] at hx; cases v with
    | int x => cases hx; exact ⟨x, rfl, rfl⟩
    | _ => cases hx
theorem pv_lod1 {lo : pv_L} {i k : Nat} {st : List Value} {h : pv_H} {c' : pv_C} (hx : pv_lod lo i k 1 st h = some c') : ∃ x, pv_get lo i = some (.long x) ∧ c' = (k + 1, lo, .long x :: st, h) := by
  unfold pv_lod at hx
  cases hg : pv_get lo i with
  | none => rw [hg] at hx; cases hx
  | some v => rw [hg] at hx; cases v with
    | long x => cases hx; exact ⟨x, rfl, rfl⟩
    | _ => cases hx
theorem pv_lod2 {lo : pv_L} {i k : Nat} {st : List Value} {h : pv_H} {c' : pv_C} (hx : pv_lod lo i k 2 st h = some c') : ∃ x, pv_get lo i = some (.ref x) ∧ c' = (k + 1, lo, .ref x :: st, h) := by
  unfold pv_lod at hx
  cases hg : pv_get lo i with
  | none => rw [hg] at hx; cases hx
  | some v => rw [hg] at hx; cases v with
    | ref x => cases hx; exact ⟨x, rfl, rfl⟩
    | _ => cases hx
theorem pv_sto0 {lo : pv_L} {i k : Nat} {st : List Value} {h : pv_H} {c' : pv_C} (hx : pv_sto lo i k 0 st h = some c') : ∃ x r, st = .int x :: r ∧ c' = (k + 1, pv_set1 lo i (.int x), r, h) := by
  unfold pv_sto at hx
  cases st with
  | nil => cases hx
  | cons v r => cases v with
    | int x => cases hx; exact ⟨x, r, rfl, rfl⟩
    | _ => cases hx
theorem pv_sto1 {lo : pv_L} {i k : Nat} {st : List Value} {h : pv_H} {c' : pv_C} (hx : pv_sto lo i k 1 st h = some c') : ∃ x r, st = .long x :: r ∧ c' = (k + 1, pv_set2 lo i (.long x), r, h) := by
  unfold pv_sto at hx
  cases st with
  | nil => cases hx
  | cons v r => cases v with
    | long x => cases hx; exact ⟨x, r, rfl, rfl⟩
    | _ => cases hx
theorem pv_sto2 {lo : pv_L} {i k : Nat} {st : List Value} {h : pv_H} {c' : pv_C} (hx : pv_sto lo i k 2 st h = some c') : ∃ x r, st = .ref x :: r ∧ c' = (k + 1, pv_set1 lo i (.ref x), r, h) := by
  unfold pv_sto at hx
  cases st with
  | nil => cases hx
  | cons v r => cases v with
    | ref x => cases hx; exact ⟨x, r, rfl, rfl⟩
    | _ => cases hx
theorem pv_i2_inv {f : Int32 → Int32 → Int32} {lo : pv_L} {k : Nat} {st : List Value} {h : pv_H} {c' : pv_C} (hx : pv_i2 f k lo st h = some c') : ∃ x y r, st = .int y :: .int x :: r ∧ c' = (k + 1, lo, .int (f x y) :: r, h) := by
  unfold pv_i2 at hx
  split at hx
  · cases hx; exact ⟨_, _, _, rfl, rfl⟩
  · cases hx
theorem pv_l2_inv {f : Int64 → Int64 → Int64} {lo : pv_L} {k : Nat} {st : List Value} {h : pv_H} {c' : pv_C} (hx : pv_l2 f k lo st h = some c') : ∃ x y r, st = .long y :: .long x :: r ∧ c' = (k + 1, lo, .long (f x y) :: r, h) := by
  unfold pv_l2 at hx
  split at hx
  · cases hx; exact ⟨_, _, _, rfl, rfl⟩
  · cases hx
theorem pv_lsh_inv {f : Int64 → Int32 → Int64} {lo : pv_L} {k : Nat} {st : List Value} {h : pv_H} {c' : pv_C} (hx : pv_lsh f k lo st h = some c') : ∃ x y r, st = .int y :: .long x :: r ∧ c' = (k + 1, lo, .long (f x y) :: r, h) := by
  unfold pv_lsh at hx
  split at hx
  · cases hx; exact ⟨_, _, _, rfl, rfl⟩
  · cases hx
theorem pv_b1_inv {f : Int32 → Bool} {xs : List Nat} {lo : pv_L} {k : Nat} {st : List Value} {h : pv_H} {c' : pv_C} (hx : pv_b1 f xs k lo st h = some c') : ∃ t x r, xs = [t] ∧ st = .int x :: r ∧ c' = if f x then (t, lo, r, h) else (k + 1, lo, r, h) := by
  unfold pv_b1 at hx
  split at hx
  · next t x r =>
    refine ⟨t, x, r, rfl, rfl, ?_⟩
    by_cases hc : f x = true
    · rw [if_pos hc] at hx ⊢; cases hx; rfl
    · rw [if_neg hc] at hx ⊢; cases hx; rfl
  · cases hx
theorem pv_b2_inv {f : Int32 → Int32 → Bool} {xs : List Nat} {lo : pv_L} {k : Nat} {st : List Value} {h : pv_H} {c' : pv_C} (hx : pv_b2 f xs k lo st h = some c') : ∃ t x y r, xs = [t] ∧ st = .int y :: .int x :: r ∧ c' = if f x y then (t, lo, r, h) else (k + 1, lo, r, h) := by
  unfold pv_b2 at hx
  split at hx
  · next t y x r =>
    refine ⟨t, x, y, r, rfl, rfl, ?_⟩
    by_cases hc : f x y = true
    · rw [if_pos hc] at hx ⊢; cases hx; rfl
    · rw [if_neg hc] at hx ⊢; cases hx; rfl
  · cases hx
theorem pv_ald_inv {t : Nat} {lo : pv_L} {k : Nat} {st : List Value} {h : pv_H} {c' : pv_C} (hx : pv_ald t k lo st h = some c') : ∃ (i : Int32) (a : Nat) (r : List Value) (n : Nat) (f : Nat → Int32), st = .int i :: .ref a :: r ∧ h[a]? = some (.inl (t, n, .inl f)) ∧ vp_in i n ∧ c' = (k + 1, lo, .int (f i.toNatClampNeg) :: r, h) := by
  unfold pv_ald at hx
  split at hx
  · next i a r =>
    split at hx
    · next t' n f hh =>
      by_cases ht : t' = t
      · rw [if_pos ht] at hx
        subst ht
        by_cases hi : i < 0 ∨ n ≤ i.toNatClampNeg
        · rw [if_pos hi] at hx; cases hx
        · rw [if_neg hi] at hx; cases hx
          exact ⟨i, a, r, n, f, rfl, hh, hi, rfl⟩
      · rw [if_neg ht] at hx; cases hx
    · cases hx
  · cases hx
theorem pv_ast_inv {t : Nat} {g : Int32 → Int32} {lo : pv_L} {k : Nat} {st : List Value} {h : pv_H} {c' : pv_C} (hx : pv_ast t g k lo st h = some c') : ∃ (x i : Int32) (a : Nat) (r : List Value) (n : Nat) (f : Nat → Int32), st = .int x :: .int i :: .ref a :: r ∧ h[a]? = some (.inl (t, n, .inl f)) ∧ vp_in i n ∧ c' = (k + 1, lo, r, h.set a (.inl (t, n, .inl (upd f i.toNatClampNeg (g x))))) := by
  unfold pv_ast at hx
  split at hx
  · next x i a r =>
    split at hx
    · next t' n f hh =>
      by_cases ht : t' = t
      · rw [if_pos ht] at hx
        subst ht
        by_cases hi : i < 0 ∨ n ≤ i.toNatClampNeg
        · rw [if_pos hi] at hx; cases hx
        · rw [if_neg hi] at hx; cases hx
          exact ⟨x, i, a, r, n, f, rfl, hh, hi, rfl⟩
      · rw [if_neg ht] at hx; cases hx
    · cases hx
  · cases hx
section PVS
variable {p : Program} {l : Launch} {e : Env} {R : Room} {s : State} {m : MethodId} {args : Array Value} {below : List Frame} {meth : Method} {c : Code} {H : Heap} {locs : List Loc} {cells slots : Nat} {Q : State → Prop}
variable {LK : List (List Nat)} {pr : List pv_M} {o : Nat} {rows : List pv_R} {own mn : String} {cc : ByteArray} {nL k pc len : Nat} {xs ps : List Nat} {lo : pv_L} {st : List Value} {h : pv_H} {ls : Array Slot} {c' : pv_C} {D : va_G} {cA : Nat → ClassId} {B : Nat} {A : Nat → Prop}
/-- a branch's two ways -/
theorem pv_if (t : Nat) (b : Bool) (r : List Value) (hI : pv_I D cA B A s h H locs) (hl : lv_has ls nL (pv_l B lo)) (hn : pv_pc rows (k + 1) = pc + 3)
    (kk : pv_KK p l e R s m args below meth c cells slots Q rows nL D cA B A h (if b then (t, lo, r, h) else (k + 1, lo, r, h))) :
    (b = true → W p l e R s m args below meth c H locs cells slots Q (F0 m (pv_pc rows t) ls (r.map (pv_v B)))) ∧ (b = false → W p l e R s m args below meth c H locs cells slots Q (F0 m (pc + 3) ls (r.map (pv_v B)))) := by
  refine ⟨fun hb => ?_, fun hb => ?_⟩
  · subst hb; exact kk H locs ls cells slots _ rfl hI hl rfl rfl
  · subst hb; exact kk H locs ls cells slots _ hn hI hl rfl rfl
set_option maxHeartbeats 4000000 in
theorem pv_stepB1 (S : pv_St p s m args meth c R cc own mn nL D cA B A) (hI : pv_I D cA B A s h H locs) (hl : lv_has ls nL (pv_l B lo)) {cd : Jvm.ClassFile.Cond} {off : Int} (hd : decode cc pc = .ok (.ifCond cd off, len)) (hok : pv_okx LK rows o mn nL k pc len (.ifCond cd off) xs ps = true) (hx : pv_x (.ifCond cd off) xs k lo st h = some c') (kk : pv_KK p l e R s m args below meth c cells slots Q rows nL D cA B A h c') : W p l e R s m args below meth c H locs cells slots Q (F0 m pc ls (st.map (pv_v B))) := by
  obtain ⟨⟨hex, hb, hml, hown, hts⟩, -⟩ := S
  obtain ⟨t, x, r, rfl, rfl, rfl⟩ := pv_b1_inv hx
  have hok : (pv_nx rows k pc len 3 && pv_jp rows pc off t) = true := hok
  simp only [Bool.and_eq_true] at hok
  obtain ⟨rfl, hn⟩ := pv_nx_inv hok.1
  have hj := pv_jp_inv hok.2
  obtain ⟨k1, k2⟩ := pv_if t _ r hI hl hn kk
  cases cd with
  | eq => exact lv_if_eq hex hb hd hj (fun q => k1 (by simp [pv_cond, q])) (fun q => k2 (by simp [pv_cond, q]))
  | ne => exact lv_if_ne hex hb hd hj (fun q => k1 (by simp [pv_cond, q])) (fun q => k2 (by simp [pv_cond, q]))
  | lt => exact lv_if_lt hex hb hd hj (fun q => k1 (by simp only [pv_cond, decide_eq_true_eq]; exact q)) (fun q => k2 (by simp only [pv_cond, decide_eq_false_iff_not]; exact q))
  | ge => exact lv_if_ge hex hb hd hj (fun q => k1 (by simp only [pv_cond, decide_eq_true_eq]; exact q)) (fun q => k2 (by simp only [pv_cond, decide_eq_false_iff_not]; exact q))
  | gt => exact lv_if_gt hex hb hd hj (fun q => k1 (by simp only [pv_cond, decide_eq_true_eq]; exact q)) (fun q => k2 (by simp only [pv_cond, decide_eq_false_iff_not]; exact q))
  | le => exact lv_if_le hex hb hd hj (fun q => k1 (by simp only [pv_cond, decide_eq_true_eq]; exact q)) (fun q => k2 (by simp only [pv_cond, decide_eq_false_iff_not]; exact q))
set_option maxHeartbeats 4000000 in
theorem pv_stepB2 (S : pv_St p s m args meth c R cc own mn nL D cA B A) (hI : pv_I D cA B A s h H locs) (hl : lv_has ls nL (pv_l B lo)) {cd : Jvm.ClassFile.Cond} {off : Int} (hd : decode cc pc = .ok (.if_icmp cd off, len)) (hok : pv_okx LK rows o mn nL k pc len (.if_icmp cd off) xs ps = true) (hx : pv_x (.if_icmp cd off) xs k lo st h = some c') (kk : pv_KK p l e R s m args below meth c cells slots Q rows nL D cA B A h c') : W p l e R s m args below meth c H locs cells slots Q (F0 m pc ls (st.map (pv_v B))) := by
  obtain ⟨⟨hex, hb, hml, hown, hts⟩, -⟩ := S
  obtain ⟨t, x, y, r, rfl, rfl, rfl⟩ := pv_b2_inv hx
  have hok : (pv_nx rows k pc len 3 && pv_jp rows pc off t) = true := hok
  simp only [Bool.and_eq_true] at hok
  obtain ⟨rfl, hn⟩ := pv_nx_inv hok.1
  have hj := pv_jp_inv hok.2
  obtain ⟨k1, k2⟩ := pv_if t _ r hI hl hn kk
  cases cd with
  | eq => exact lv_icmp_eq hex hb hd hj (fun q => k1 (by simp [pv_cond, q])) (fun q => k2 (by simp [pv_cond, q]))
  | ne => exact lv_icmp_ne hex hb hd hj (fun q => k1 (by simp [pv_cond, q])) (fun q => k2 (by simp [pv_cond, q]))
  | lt => exact lv_icmp_lt hex hb hd hj (fun q => k1 (by simp only [pv_cond, decide_eq_true_eq]; exact q)) (fun q => k2 (by simp only [pv_cond, decide_eq_false_iff_not]; exact q))
  | ge => exact lv_icmp_ge hex hb hd hj (fun q => k1 (by simp only [pv_cond, decide_eq_true_eq]; exact q)) (fun q => k2 (by simp only [pv_cond, decide_eq_false_iff_not]; exact q))
  | gt => exact lv_icmp_gt hex hb hd hj (fun q => k1 (by simp only [pv_cond, decide_eq_true_eq]; exact q)) (fun q => k2 (by simp only [pv_cond, decide_eq_false_iff_not]; exact q))
  | le => exact lv_icmp_le hex hb hd hj (fun q => k1 (by simp only [pv_cond, decide_eq_true_eq]; exact q)) (fun q => k2 (by simp only [pv_cond, decide_eq_false_iff_not]; exact q))
set_option maxHeartbeats 4000000 in
theorem pv_stepGet (hLK : pv_LKs pr LK) (ho : pv_cn[o]? = some own) (S : pv_St p s m args meth c R cc own mn nL D cA B A) (hI : pv_I D cA B A s h H locs) (hl : lv_has ls nL (pv_l B lo)) {idx : Nat} (hd : decode cc pc = .ok (.getfield idx, len)) (hok : pv_okx LK rows o mn nL k pc len (.getfield idx) xs ps = true) (hx : pv_x (.getfield idx) xs k lo st h = some c') (kk : pv_KK p l e R s m args below meth c cells slots Q rows nL D cA B A h c') : W p l e R s m args below meth c H locs cells slots Q (F0 m pc ls (st.map (pv_v B))) := by
  obtain ⟨⟨hex, hb, hml, hown, hts⟩, -, hK, -⟩ := S
  obtain ⟨hP, hS, hAk⟩ := id hI
  simp only [pv_x] at hx
  split at hx
  · next ci j a r =>
    split at hx
    · next ci' fs ha =>
      by_cases hci : ci' = ci
      · rw [if_pos hci] at hx
        subst hci
        split at hx
        · next v hv =>
          cases hx
          simp only [pv_okx] at hok
          split at hok
          · next ci2 j2 p0 e1 =>
            cases e1
            simp only [Bool.and_eq_true] at hok
            obtain ⟨hnx, hok⟩ := hok
            obtain ⟨rfl, hn⟩ := pv_nx_inv hnx
            split at hok
            · next q hq =>
              simp only [Bool.and_eq_true, decide_eq_true_eq] at hok
              obtain ⟨hj, hfk⟩ := hok
              obtain ⟨hin, hty, hnm⟩ := pv_cl ci' hq
              have hw := pv_w_get (cA := cA) (B := B) ha
              have hv' : (fs.map (pv_v B))[j]? = some (pv_v B v) := by simp [hv]
              have hfk : (Cond.fieldLink own idx (q.2.1 j).1 (q.2.1 j).2.1 (q.2.1 j).2.2.1 ∈ pv_T ∨ ∃ hst, Cond.fieldLinkNest own idx (q.2.1 j).1 (q.2.1 j).2.1 (q.2.1 j).2.2.1 hst ∈ pv_N) := hLK.1 _ (pv_lk_inv hfk) own q ho hq
              rcases hfk with hf | ⟨hst, hf⟩
              · exact va_get (C := q.1) (T := q.2.1) (N := q.2.2) hex hb hts hin hown hK.1 hP a hw hq j hj (hts _ hf) (fun _ h9 => h9) hv' hd (kk H locs ls cells slots _ hn hI hl rfl rfl)
              · exact va_getN (C := q.1) (T := q.2.1) (N := q.2.2) hex hb hts hin hown hK.1 hP a hw hq j hj (va_Nw.use rfl (hK.2 _ hf)) (fun _ h9 => h9) hv' hd (kk H locs ls cells slots _ hn hI hl rfl rfl)
            · cases hok
          · cases hok
        · cases hx
      · rw [if_neg hci] at hx; cases hx
    · cases hx
  · cases hx
set_option maxHeartbeats 4000000 in
theorem pv_stepPut (hLK : pv_LKs pr LK) (ho : pv_cn[o]? = some own) (S : pv_St p s m args meth c R cc own mn nL D cA B A) (hI : pv_I D cA B A s h H locs) (hl : lv_has ls nL (pv_l B lo)) {idx : Nat} (hd : decode cc pc = .ok (.putfield idx, len)) (hok : pv_okx LK rows o mn nL k pc len (.putfield idx) xs ps = true) (hx : pv_x (.putfield idx) xs k lo st h = some c') (kk : pv_KK p l e R s m args below meth c cells slots Q rows nL D cA B A h c') : W p l e R s m args below meth c H locs cells slots Q (F0 m pc ls (st.map (pv_v B))) := by
  obtain ⟨⟨hex, hb, hml, hown, hts⟩, hmn, hK, -⟩ := S
  obtain ⟨hP, hS, hAk⟩ := id hI
  simp only [pv_x] at hx
  split at hx
  · next ci j v a r =>
    split at hx
    · next ci' fs ha =>
      split at hx
      · next hcnd =>
        obtain ⟨rfl, hjl, hnar, hfit⟩ := hcnd
        cases hx
        simp only [pv_okx] at hok
        split at hok
        · next ci2 j2 p0 e1 =>
          cases e1
          simp only [Bool.and_eq_true] at hok
          obtain ⟨hnx, hok⟩ := hok
          obtain ⟨rfl, hn⟩ := pv_nx_inv hnx
          split at hok
          · next q hq =>
            simp only [Bool.and_eq_true, decide_eq_true_eq] at hok
            obtain ⟨hj, hfk⟩ := hok
            obtain ⟨hin, hty, hnm⟩ := pv_cl ci' hq
            have hw := pv_w_get (cA := cA) (B := B) ha
            have hnar' : narrow (pv_tyX ci' j) (pv_v B v) = pv_v B v := by
              cases v <;> first | exact hnar | (cases pv_tyX ci' j <;> rfl)
            have hfit' : fits (pv_tyX ci' j) (pv_v B v) = true := by
              cases v <;> first | exact hfit | (revert hfit; cases pv_tyX ci' j <;> simp [fits, pv_v])
            have hlen : j < (fs.map (pv_v B)).length := by simpa using hjl
            have hset : (pv_w cA B h).set a (B + a, .inr (ci', (fs.map (pv_v B)).set j (pv_v B v))) = pv_w cA B (h.set a (.inr (ci', fs.set j v))) := by
              rw [pv_w_set]
              simp [pv_e, List.map_set]
            have hkk : ∀ (H1 : Heap) (locs1 : List Loc), va_P D vwCl ((pv_w cA B h).set a (B + a, .inr (ci', (fs.map (pv_v B)).set j (pv_v B v)))) H1 → va_D A ((pv_w cA B h).set a (B + a, .inr (ci', (fs.map (pv_v B)).set j (pv_v B v)))) → va_S A s.heap H1 locs1 → W p l e R s m args below meth c H1 locs1 cells slots Q (F0 m (pc + 3) ls (r.map (pv_v B))) := by
              intro H1 locs1 hP1 _ hS1
              rw [hset] at hP1
              exact kk H1 locs1 ls cells slots _ hn ⟨hP1, hS1, fun k9 h9 => hAk k9 (by simpa using h9)⟩ hl (by simp) (by rw [pv_sl_set ha (by simp [pv_ce])])
            by_cases hfin : (q.2.1 j).2.2.2 = true
            · rw [if_pos hfin] at hfk
              simp only [Bool.and_eq_true, decide_eq_true_eq] at hfk
              obtain ⟨hfp, hmn2⟩ := hfk
              have hfp : Cond.fieldLink own idx (q.2.1 j).1 (q.2.1 j).2.1 (q.2.1 j).2.2.1 ∈ pv_T ∧ (q.2.1 j).1 = own := hLK.1 _ (pv_lk_inv hfp) own q ho hq
              obtain ⟨hfp, hdecl⟩ := hfp
              exact va_putF (C := q.1) (T := q.2.1) (N := q.2.2) hex hb hts hin (pv_tyX ci') hty hnm hown hK.1 hP (pv_D cA B h hAk) hS a hw hq j hj (hts _ hfp) (fun _ h9 => h9) hfin (hmn.trans hmn2) hdecl (hty j hj) hnar' hfit' hlen hd hkk
            · rw [if_neg hfin] at hfk
              have hfin : (q.2.1 j).2.2.2 = false := by simpa using hfin
              have hfk : (Cond.fieldLink own idx (q.2.1 j).1 (q.2.1 j).2.1 (q.2.1 j).2.2.1 ∈ pv_T ∨ ∃ hst, Cond.fieldLinkNest own idx (q.2.1 j).1 (q.2.1 j).2.1 (q.2.1 j).2.2.1 hst ∈ pv_N) := hLK.1 _ (pv_lk_inv hfk) own q ho hq
              rcases hfk with hf | ⟨hst, hf⟩
              · exact va_put (C := q.1) (T := q.2.1) (N := q.2.2) hex hb hts hin (pv_tyX ci') hty hnm hown hK.1 hP (pv_D cA B h hAk) hS a hw hq j hj (hts _ hf) (fun _ h9 => h9) hfin (hty j hj) hnar' hfit' hlen hd hkk
              · exact va_putN (C := q.1) (T := q.2.1) (N := q.2.2) hex hb hts hin (pv_tyX ci') hty hnm hown hK.1 hP (pv_D cA B h hAk) hS a hw hq j hj (va_Nw.use rfl (hK.2 _ hf)) (fun _ h9 => h9) hfin (hty j hj) hnar' hfit' hlen hd hkk
          · cases hok
        · cases hok
      · cases hx
    · cases hx
  · cases hx
end PVS
