/-! METHODS BY THEIR CONDITIONS -/
def qokr (r : Option qV) : Prop := match r with
  | none => True
  | some v => qok v
def qQ (L : List qY) (K : qK) (v : Option Value) (h : pv_H) : Prop := ∃ r A', v = r.map qv ∧ h = qH L A' ∧ qokA L A' ∧ qokr r ∧ K r A'
/-- method j keeps what sp says of it, at depth D and deeper -/
def okM (L : List qY) (D j : Nat) (sp : qS) : Prop := ∀ d, D ≤ d → ∀ as A K, qokA L A → qoks as → sp as A K → wR d j (as.map qv) (qH L A) (qQ L K)
def okS (L : List qY) (D : Nat) : List (Nat × qS) → Prop
  | [] => True
  | (j, sp) :: S => okM L D j sp ∧ okS L D S
theorem okM.le {L : List qY} {D D' j : Nat} {sp : qS} (h : okM L D j sp) (hD : D ≤ D') : okM L D' j sp := fun d hd => h d (Nat.le_trans hD hd)
theorem okS_find {L : List qY} {D j : Nat} {sp : qS} : ∀ {S : List (Nat × qS)}, okS L D S → qfind S j = some sp → okM L D j sp
  | (i, s) :: S, h, e => by
    unfold qfind at e
    cases hb : Nat.beq i j
    · rw [hb] at e; exact okS_find h.2 e
    · rw [hb] at e; cases e; rw [← beq_p hb]; exact h.1
theorem qargs_p {d j : Nat} {rows : List pv_R} {md : Bool} : ∀ (as : List qV) (P : List qV → Prop), qoks as → qargs md as P → ∃ bs, bs.map qv = as.map qv ∧ qoks bs ∧ P bs
  | [], P, _, h => ⟨[], rfl, (fun v hv => by cases hv), h⟩
  | .inl (t, x) :: as, P, ho, h => by
    obtain ⟨x', h1, e1, h2⟩ := qput_p (qoks_h ho) h
    obtain ⟨bs, e, o, p⟩ := qargs_p (d := d) (j := j) (rows := rows) as _ (qoks_t ho) h2
    refine ⟨ni x' :: bs, ?_, qoks_c (show qok (ni x') from h1) o, p⟩
    rw [List.map_cons, List.map_cons, e]
    show Value.int (Int32.ofInt x') :: _ = Value.int (Int32.ofInt x) :: _
    rw [e1]
  | .inr x :: as, P, ho, h => by
    obtain ⟨bs, e, o, p⟩ := qargs_p (d := d) (j := j) (rows := rows) as _ (qoks_t ho) h
    exact ⟨.inr x :: bs, by rw [List.map_cons, List.map_cons, e], qoks_c (qoks_h ho) o, p⟩
theorem qret_p {L : List qY} {md : Bool} {i : Instr} {xs : List Nat} {st : List qV} {A : qA} {K : qK} {P : Prop} (h : qret md i xs st A K = some P) (hs : qoks st) (hP : P) : ∃ r, pv_ret i xs (st.map qv) = some (r.map qv) ∧ qokr r ∧ K r A := by
  unfold qret at h
  split at h
  · next t x =>
    split at h
    · cases h
      obtain ⟨z, z1, z2, z3⟩ := qput_p (qoks_h hs) hP
      refine ⟨some (ni z), ?_, z1, z3⟩
      show some (some (Value.int (Int32.ofInt x))) = some (some (Value.int (Int32.ofInt z)))
      rw [z2]
    · cases h
      obtain ⟨h1, h2⟩ := hP
      have hr : rng x := ⟨by omega, by omega⟩
      refine ⟨some (ni x), ?_, hr, h2⟩
      show (if Int32.ofInt x = 0 ∨ Int32.ofInt x = 1 then some (some (Value.int (Int32.ofInt x))) else none) = _
      rw [if_pos (by rcases h1 with e | e <;> rw [e] <;> decide)]; rfl
    · cases h
  · next z =>
    cases h
    exact ⟨some (nl z), rfl, qoks_h hs, hP⟩
  · cases h
    exact ⟨none, rfl, trivial, hP⟩
  · cases h
theorem qinv_p {L : List qY} {i : Instr} {xs : List Nat} {st : List qV} {A : qA} {j : Nat} {as rest : List qV} (h : qinv L i xs st = some (j, as, rest)) : pv_ret i xs (st.map qv) = none ∧ pv_inv i xs (st.map qv) (qH L A) = some (j, as.map qv, rest.map qv) ∧ (qoks st → qoks as ∧ qoks rest) := by
  have hd : ∀ n, qoks st → qoks (st.drop n) := fun n hs v hv => hs v (List.mem_of_mem_drop hv)
  have ht : ∀ n, qoks st → qoks (st.take n).reverse := fun n hs v hv => hs v (List.mem_of_mem_take (List.mem_reverse.mp hv))
  unfold qinv at h
  split at h
  · next idx j2 n =>
    cases hb : (Nat.ble n st.length && Nat.ble (qcats (st.drop n)) 8)
    · rw [hb] at h; cases h
    · rw [hb] at h
      cases h
      simp only [Bool.and_eq_true] at hb
      refine ⟨by unfold pv_ret; rfl, ?_, fun hs => ⟨ht n hs, hd n hs⟩⟩
      show (if n ≤ (st.map qv).length ∧ pv_cat ((st.map qv).drop n) ≤ 8 then some (j, ((st.map qv).take n).reverse, (st.map qv).drop n) else none) = _
      rw [← List.map_drop, ← List.map_take, ← List.map_reverse, qcats_p, List.length_map, if_pos ⟨Nat.le_of_ble_eq_true hb.1, Nat.le_of_ble_eq_true hb.2⟩]
  · next idx j2 n ci =>
    split at h
    · next b r e1 =>
      split at h
      · next ci' _ e2 =>
        cases hb : (Nat.beq ci' ci && Nat.ble (qcats r) 8)
        · rw [hb] at h; cases h
        · rw [hb] at h
          cases h
          simp only [Bool.and_eq_true] at hb
          have hci := beq_p hb.1
          subst hci
          refine ⟨by unfold pv_ret; rfl, ?_, fun hs => ⟨qoks_c trivial (ht n hs), qoks_t (e1 ▸ hd n hs)⟩⟩
          show (match (st.map qv).drop n with
            | .ref b :: r => (match (qH L A)[b]? with
              | some (.inr (c', _)) => if c' = ci' ∧ pv_cat r ≤ 8 then some (j, Value.ref b :: ((st.map qv).take n).reverse, r) else none
              | _ => none)
            | _ => none) = _
          rw [← List.map_drop, ← List.map_take, ← List.map_reverse, e1]
          show (match (qH L A)[b]? with
              | some (.inr (c', _)) => if c' = ci' ∧ pv_cat (rest.map qv) ≤ 8 then some (j, Value.ref b :: ((st.take n).reverse.map qv), rest.map qv) else none
              | _ => none) = _
          rw [qH_at e2]
          show (if ci' = ci' ∧ pv_cat (rest.map qv) ≤ 8 then some (j, Value.ref b :: ((st.take n).reverse.map qv), rest.map qv) else none) = _
          rw [qcats_p, if_pos ⟨rfl, Nat.le_of_ble_eq_true hb.2⟩]; rfl
      · cases h
    · cases h
  · cases h
theorem qrz_ok : ∀ (tm : List (Nat × Nat × Nat)) (zs : List Int), qrz tm zs → ∀ q ∈ qfill tm zs, qok q.2
  | [], _, _, q, hq => by cases hq
  | (i, 0, _) :: tm, z :: zs, h, q, hq => by
    rcases List.mem_cons.mp hq with rfl | hq
    · exact h.1
    · exact qrz_ok tm zs h.2 q hq
  | (i, 1, _) :: tm, z :: zs, h, q, hq => by
    rcases List.mem_cons.mp hq with rfl | hq
    · exact h.1
    · exact qrz_ok tm zs h.2 q hq
  | (i, 2, n) :: tm, zs, h, q, hq => by
    rcases List.mem_cons.mp hq with rfl | hq
    · trivial
    · exact qrz_ok tm zs h q hq
  | (i, n + 3, _) :: tm, z :: zs, h, q, hq => by
    rcases List.mem_cons.mp hq with rfl | hq
    · exact h.1
    · exact qrz_ok tm zs h.2 q hq
  | (i, 0, _) :: tm, [], h, q, hq => by cases hq
  | (i, 1, _) :: tm, [], h, q, hq => by cases hq
  | (i, n + 3, _) :: tm, [], h, q, hq => by cases hq
theorem qall_p : ∀ (n : Nat) (P : List Int → Prop), qall n P → ∀ zs : List Int, zs.length = n → P zs
  | 0, P, h, [], _ => h
  | n + 1, P, h, z :: zs, e => qall_p n _ (h z) zs (by simpa using e)
def qdist : List (Nat × Nat × Nat) → Bool
  | [] => true
  | t :: tm => tm.all (fun u => !(Nat.beq u.1 t.1)) && qdist tm
theorem qdist_p : ∀ (tm : List (Nat × Nat × Nat)) (zs : List Int), qdist tm = true → ((qfill tm zs).map (fun q => q.1)).Nodup
  | [], _, _ => List.nodup_nil
  | (i, k, m) :: tm, zs, h => by
    simp only [qdist, Bool.and_eq_true] at h
    have gen : ∀ (tm : List (Nat × Nat × Nat)) (zs : List Int), tm.all (fun u => !(Nat.beq u.1 i)) = true → i ∉ (qfill tm zs).map (fun q => q.1) := by
      intro tm
      induction tm with
      | nil => intro p' _ hm; cases hm
      | cons t tm ih =>
        intro zs ha hm
        obtain ⟨i', k', m'⟩ := t
        simp only [List.all_cons, Bool.and_eq_true, Bool.not_eq_true'] at ha
        have hne : i' ≠ i := fun q => by subst q; rw [Nat.beq_refl] at ha; exact absurd ha.1 (by decide)
        rcases k' with _ | _ | _ | k' <;> rcases zs with _ | ⟨z, zs⟩ <;> first | (cases hm; done) | (rcases List.mem_cons.mp hm with q | q; exact hne q.symm; exact ih _ ha.2 q)
    rcases k with _ | _ | _ | k <;> rcases zs with _ | ⟨z, zs⟩ <;> first | exact List.nodup_nil | exact List.nodup_cons.mpr ⟨gen _ _ h.1, qdist_p tm _ h.2⟩
theorem qget_at : ∀ {lo : qL} {j : Nat} {v : qV}, (lo.map (fun q => q.1)).Nodup → qget lo j = some v → pv_at j (ql lo) = [(j, qv v)]
  | (i, w) :: lo, j, v, hn, e => by
    have hn := List.nodup_cons.mp hn
    unfold qget at e
    cases hb : Nat.beq i j
    · rw [hb] at e
      have hne : i ≠ j := fun q => by subst q; rw [Nat.beq_refl] at hb; cases hb
      show List.filter _ ((i, qv w) :: ql lo) = _
      rw [List.filter_cons, if_neg (by simpa using hne)]
      exact qget_at hn.2 e
    · rw [hb] at e
      cases e
      have hij := beq_p hb
      subst hij
      show List.filter _ ((i, qv w) :: ql lo) = _
      rw [List.filter_cons, if_pos (by simp)]
      congr 1
      rw [List.filter_eq_nil_iff]
      intro q hq
      obtain ⟨q0, hq0, e⟩ := List.mem_map.mp hq
      simp only [beq_iff_eq]
      intro he
      exact hn.1 (List.mem_map.mpr ⟨q0, hq0, by rw [← e] at he; exact he⟩)
theorem qget_no : ∀ {lo : qL} {j : Nat}, qget lo j = none → pv_at j (ql lo) = []
  | [], _, _ => rfl
  | (i, w) :: lo, j, e => by
    unfold qget at e
    cases hb : Nat.beq i j
    · rw [hb] at e
      have hne : i ≠ j := fun q => by subst q; rw [Nat.beq_refl] at hb; cases hb
      show List.filter _ ((i, qv w) :: ql lo) = _
      rw [List.filter_cons, if_neg (by simpa using hne)]
      exact qget_no e
    · rw [hb] at e; cases e
/-- what was collected fills the same locals -/
theorem qcol_p {md : Bool} : ∀ (tm : List (Nat × Nat × Nat)) (lo : qL) (c : List Int → Prop), (∀ q ∈ lo, qok q.2) → qcol md tm lo c → ∃ zs : List Int, c zs ∧ zs.length = qcnt tm ∧ qrz tm zs ∧ ∀ q ∈ qfill tm zs, ∃ v, qget lo q.1 = some v ∧ qv v = qv q.2
  | [], lo, c, _, h => ⟨[], h, rfl, trivial, fun q hq => by cases hq⟩
  | (i, 0, m) :: tm, lo, c, ho, h => by
    simp only [qcol] at h
    split at h
    · next t x e =>
      obtain ⟨w, h1, h3, h2⟩ := qput_p (qget_ok ho e) h
      obtain ⟨zs, c1, c2, c3, c4⟩ := qcol_p tm lo _ ho h2
      refine ⟨w :: zs, c1, by rw [List.length_cons, c2]; rfl, ⟨h1, c3⟩, fun q hq => ?_⟩
      rcases List.mem_cons.mp hq with rfl | hq
      · exact ⟨_, e, by show Value.int (Int32.ofInt x) = Value.int (Int32.ofInt w); rw [h3]⟩
      · exact c4 q hq
    · exact h.elim
  | (i, 1, m) :: tm, lo, c, ho, h => by
    simp only [qcol] at h
    split at h
    · next x e =>
      have h1 : rngL x := qget_ok ho e
      obtain ⟨zs, c1, c2, c3, c4⟩ := qcol_p tm lo _ ho h
      refine ⟨x :: zs, c1, by rw [List.length_cons, c2]; rfl, ⟨h1, c3⟩, fun q hq => ?_⟩
      rcases List.mem_cons.mp hq with rfl | hq
      · exact ⟨_, e, rfl⟩
      · exact c4 q hq
    · exact h.elim
  | (i, 2, m) :: tm, lo, c, ho, h => by
    simp only [qcol] at h
    split at h
    · next x e =>
      obtain ⟨hb, h⟩ := bif_p h
      have hb := beq_p hb
      obtain ⟨zs, c1, c2, c3, c4⟩ := qcol_p tm lo _ ho h
      refine ⟨zs, c1, c2, c3, fun q hq => ?_⟩
      rcases List.mem_cons.mp hq with rfl | hq
      · exact ⟨_, e, by rw [hb]⟩
      · exact c4 q hq
    · exact h.elim
  | (i, k + 3, m) :: tm, lo, c, ho, h => by
    simp only [qcol] at h
    split at h
    · next t x e =>
      obtain ⟨w, h1, h3, h2⟩ := qput_p (qget_ok ho e) h
      obtain ⟨zs, c1, c2, c3, c4⟩ := qcol_p tm lo _ ho h2
      refine ⟨w :: zs, c1, by rw [List.length_cons, c2]; rfl, ⟨h1, c3⟩, fun q hq => ?_⟩
      rcases List.mem_cons.mp hq with rfl | hq
      · exact ⟨_, e, by show Value.int (Int32.ofInt x) = Value.int (Int32.ofInt w); rw [h3]⟩
      · exact c4 q hq
    · exact h.elim
theorem qfill_le {lo : qL} {zs : List Int} {tm : List (Nat × Nat × Nat)} (hd : qdist tm = true) (hn : (lo.map (fun q => q.1)).Nodup) (h : ∀ q ∈ qfill tm zs, ∃ v, qget lo q.1 = some v ∧ qv v = qv q.2) : pv_le (ql (qfill tm zs)) (ql lo) := by
  intro j
  cases e : qget (qfill tm zs) j with
  | none => exact Or.inl (qget_no e)
  | some v =>
    refine Or.inr ?_
    rw [qget_at (qdist_p tm zs hd) e]
    have hm : (j, v) ∈ qfill tm zs := by
      have gen : ∀ {l : qL}, qget l j = some v → (j, v) ∈ l := by
        intro l
        induction l with
        | nil => intro h; cases h
        | cons p l ih =>
          intro h
          obtain ⟨i, w⟩ := p
          unfold qget at h
          cases hb : Nat.beq i j
          · rw [hb] at h; exact List.mem_cons_of_mem _ (ih h)
          · rw [hb] at h; cases h; rw [beq_p hb]; exact List.mem_cons_self
      exact gen e
    obtain ⟨v', e1, e2⟩ := h _ hm
    rw [qget_at hn e1, e2]
theorem wG_le {d : Nat} {rows : List pv_R} {k : Nat} {lo lo' : pv_L} {st : List Value} {h : pv_H} {Q : Option Value → pv_H → Prop} (hle : pv_le lo lo') (kk : wG d rows k lo st h Q) : wG d rows k lo' st h Q := by
  obtain ⟨F, f, v, h', hf, hg, hq⟩ := kk
  exact ⟨F, f, v, h', hf, pv_go_lo f k _ _ st h _ hle hg, hq⟩
/-- a cut that is reached ends well -/
def qcutW (L : List qY) (d : Nat) (rows : List pv_R) (Q : Option Value → pv_H → Prop) (bd : Option Nat) (c : qC) : Prop := qdist c.2.1 = true ∧ ∀ (zs : List Int) (A : qA) (n : Nat), zs.length = qcnt c.2.1 → (∀ m, bd = some m → n < m) → qokA L A → qrz c.2.1 zs → c.2.2 zs A n → wG d rows c.1 (ql (qfill c.2.1 zs)) [] (qH L A) Q
theorem qfindC_p : ∀ {C : List qC} {k : Nat} {c : qC}, qfindC C k = some c → c ∈ C ∧ c.1 = k
  | c' :: C, k, c, h => by
    unfold qfindC at h
    cases hb : Nat.beq c'.1 k
    · rw [hb] at h; obtain ⟨a, b⟩ := qfindC_p h; exact ⟨List.mem_cons_of_mem _ a, b⟩
    · rw [hb] at h; cases h; exact ⟨List.mem_cons_self, beq_p hb⟩
theorem qjmp_ok {L : List qY} {d : Nat} {rows : List pv_R} {Q : Option Value → pv_H → Prop} {C : List qC} {bd : Option Nat} {md : Bool} {go : Nat → qL → List qV → qA → Prop} (hgo : qgood L d rows Q go) (hC : ∀ c ∈ C, qcutW L d rows Q bd c) : qgood L d rows Q (qjmp md C bd go) := by
  intro k lo st A hA hl hs h
  unfold qjmp at h
  split at h
  · exact hgo _ _ _ _ hA hl hs h
  · next c e =>
    split at h
    · obtain ⟨hm, hk⟩ := qfindC_p e
      obtain ⟨hd, hw⟩ := hC c hm
      obtain ⟨zs, h1, a0, a1, a2⟩ := qcol_p _ _ _ hl.1 h
      have hb : ∃ n, (∀ m, bd = some m → n < m) ∧ c.2.2 zs A n := by
        unfold qbd at h1
        split at h1
        · obtain ⟨n, hn⟩ := h1; exact ⟨n, (fun m hm => by cases hm), hn⟩
        · next m =>
          obtain ⟨n, hn, h3⟩ := h1; exact ⟨n, (fun m' hm => by cases hm; exact hn), h3⟩
      obtain ⟨n, hn, h3⟩ := hb
      subst hk
      exact wG_le (qfill_le hd hl.2 a2) (hw _ _ n a0 hn hA a1 h3)
    · exact h.elim
theorem qwp_ok {L : List qY} {T : List (Nat × Nat × Nat)} {md : Bool} {S : List (Nat × qS)} {C : List qC} {rows : List pv_R} {K : qK} {bd : Option Nat} {D d : Nat} (hd : D ≤ d) (hS : okS L D S) (hC : ∀ c ∈ C, qcutW L d rows (qQ L K) bd c) : ∀ f, qgood L d rows (qQ L K) (qwp L T md S C rows K bd f)
  | 0 => fun _ _ _ _ _ _ _ h => h.elim
  | f + 1 => by
    intro k lo st A hA hl hs h
    have hgo := qjmp_ok (md := md) (qwp_ok (T := T) (md := md) hd hS hC f) hC
    simp only [qwp] at h
    split at h
    · exact h.elim
    · next r hr =>
      split at h
      · next P e =>
        obtain ⟨v, e1, e2, e3⟩ := qret_p (L := L) e hs h
        exact wG_ret hr e1 ⟨v, A, rfl, rfl, hA, e2, e3⟩
      · split at h
        · next j as rest e =>
          split at h
          · next sp e2 =>
            obtain ⟨i1, i2, i3⟩ := qinv_p (A := A) e
            obtain ⟨o1, o2⟩ := i3 hs
            obtain ⟨bs, b1, b2, b3⟩ := qargs_p (d := d) (j := j) (rows := rows) as _ o1 h
            refine wG_call hr i1 i2 ?_
            rw [← b1]
            refine wR_mono ?_ (okS_find hS e2 d hd bs A _ hA b2 b3)
            intro v h' hq
            obtain ⟨r', A', rfl, rfl, hA', hr', hk⟩ := hq
            have hst : qoks (r'.toList ++ rest) := by
              intro w hw
              rcases List.mem_append.mp hw with hw | hw
              · cases r' with
                | none => cases hw
                | some w' =>
                  have : w = w' := by simpa using hw
                  rw [this]; exact hr'
              · exact o2 w hw
            have := hgo _ _ _ _ hA' hl hst hk
            rw [List.map_append] at this
            cases r' <;> exact this
          · exact h.elim
        · exact qx_ok hgo hr hA hl hs h
/-- what is owed for the cuts -/
def qcuts (L : List qY) (T : List (Nat × Nat × Nat)) (md : Bool) (S : List (Nat × qS)) (C0 : List qC) (rows : List pv_R) (K : qK) (F : Nat) : List qC → Prop
  | [] => True
  | c :: C => (qdist c.2.1 = true ∧ qall (qcnt c.2.1) (fun zs => ∀ (A : qA) (m : Nat), qokA L A → qrz c.2.1 zs → c.2.2 zs A m → qwp L T md S C0 rows K (some m) F c.1 (qfill c.2.1 zs) [] A)) ∧ qcuts L T md S C0 rows K F C
theorem qcuts_p {L : List qY} {T : List (Nat × Nat × Nat)} {md : Bool} {S : List (Nat × qS)} {C0 : List qC} {rows : List pv_R} {K : qK} {F : Nat} {c : qC} : ∀ {C : List qC}, qcuts L T md S C0 rows K F C → c ∈ C → qdist c.2.1 = true ∧ qall (qcnt c.2.1) (fun zs => ∀ (A : qA) (m : Nat), qokA L A → qrz c.2.1 zs → c.2.2 zs A m → qwp L T md S C0 rows K (some m) F c.1 (qfill c.2.1 zs) [] A)
  | _ :: C, h, hc => by
    rcases List.mem_cons.mp hc with rfl | hc
    · exact h.1
    · exact qcuts_p h.2 hc
theorem qcuts_ok {L : List qY} {T : List (Nat × Nat × Nat)} {md : Bool} {S : List (Nat × qS)} {C : List qC} {rows : List pv_R} {K : qK} {D d F : Nat} (hd : D ≤ d) (hS : okS L D S) (hC : qcuts L T md S C rows K F C) : ∀ m, ∀ c ∈ C, qcutW L d rows (qQ L K) (some m) c
  | 0 => fun c hc => ⟨(qcuts_p hC hc).1, fun zs A n _ hn => absurd (hn 0 rfl) (Nat.not_lt_zero _)⟩
  | m + 1 => fun c hc => ⟨(qcuts_p hC hc).1, fun zs A n hl hn hA hz hI => by
    have hn : n < m + 1 := hn _ rfl
    have ih : ∀ c ∈ C, qcutW L d rows (qQ L K) (some n) c := fun c' hc' => by
      obtain ⟨a1, a2⟩ := qcuts_ok hd hS hC m c' hc'
      exact ⟨a1, fun zs A k hl hk => a2 zs A k hl (fun m' hm' => by cases hm'; have := hk n rfl; omega)⟩
    exact qwp_ok hd hS ih F _ _ _ _ hA ⟨qrz_ok _ zs hz, qdist_p _ zs (qcuts_p hC hc).1⟩ (fun v hv => by cases hv) (qall_p _ _ (qcuts_p hC hc).2 zs hl A n hA hz hI)⟩
/-- A METHOD -/
theorem qmeth {L : List qY} {D j : Nat} {sp : qS} {M : pv_M} (T : List (Nat × Nat × Nat)) (md : Bool) (S : List (Nat × qS)) (F : Nat) (hM : pv_prog[j]? = some M) (hS : okS L D S)
    (H : ∀ as A K, qokA L A → qoks as → sp as A K → qcats as ≤ M.2.2.1 ∧ ∃ C : List qC, qcuts L T md S C M.2.2.2.2 K F C ∧ qwp L T md S C M.2.2.2.2 K none F 0 (qargsL 0 as) [] A) : okM L (D + 1) j sp := by
  intro d hd as A K hA has hsp
  obtain ⟨hc, C, h1, h2⟩ := H as A K hA has hsp
  obtain ⟨d', rfl⟩ : ∃ d', d = d' + 1 := ⟨d - 1, by omega⟩
  have hD : D ≤ d' := by omega
  refine wR_in hM (by rw [qcats_p]; exact hc) ?_
  rw [← qargsL_p]
  have hnd : ∀ (as : List qV) (i : Nat), ((qargsL i as).map (fun q => q.1)).Nodup ∧ ∀ q ∈ (qargsL i as).map (fun q => q.1), i ≤ q := by
    intro as
    induction as with
    | nil => exact fun i => ⟨List.nodup_nil, fun q hq => by cases hq⟩
    | cons v vs ih =>
      intro i
      obtain ⟨a1, a2⟩ := ih (bif qcat v == 2 then i + 2 else i + 1)
      have hlt : i < (bif qcat v == 2 then i + 2 else i + 1) := by cases (qcat v == 2) <;> simp
      refine ⟨List.nodup_cons.mpr ⟨fun hm => ?_, a1⟩, fun q hq => ?_⟩
      · have : (bif qcat v == 2 then i + 2 else i + 1) ≤ i := a2 _ hm
        omega
      · rcases List.mem_cons.mp hq with rfl | hq
        · exact Nat.le_refl _
        · have := a2 _ hq; omega
  refine qwp_ok hD hS (fun c hc => ?_) F _ _ _ _ hA ⟨qargsL_ok has, (hnd as 0).1⟩ (fun v hv => by cases hv) h2
  refine ⟨(qcuts_p h1 hc).1, fun zs A n hl _ hA hz hI => ?_⟩
  exact (qcuts_ok hD hS h1 (n + 1) c hc).2 zs A n hl (fun m hm => by cases hm; exact Nat.lt_succ_self n) hA hz hI
