/-! PLANTING: rows of kinds, the best of them -/
/-- what the picks weigh at and below c in its column -/
def plS (cc rp : Int → Int) (c : Int) : Int → List Int → Int
  | _, [] => 0
  | i, d :: ds => (if d ≠ -1 ∧ c ≤ cc i ∧ cc i / 6 = c / 6 then rp d else 0) + plS cc rp c (i + 1) ds
/-- what the picks weigh in c alone -/
def pkS (cc rp : Int → Int) (c : Int) : Int → List Int → Int
  | _, [] => 0
  | i, d :: ds => (if d ≠ -1 ∧ cc i = c then rp d else 0) + pkS cc rp c (i + 1) ds
def rfS (cc rp roof : Int → Int) : Int → List Int → Prop
  | _, [] => True
  | i, d :: ds => (d ≠ -1 → rp d * (6 - cc i % 6) ≤ roof (cc i / 6)) ∧ rfS cc rp roof (i + 1) ds
def wtS (rp wt : Int → Int) : List Int → Int
  | [] => 0
  | d :: ds => (if d = -1 then 0 else wt d * rp d) + wtS rp wt ds
theorem plS_a (cc rp : Int → Int) (c d : Int) : ∀ (pre : List Int) (i : Int), plS cc rp c i (pre ++ [d]) = plS cc rp c i pre + (if d ≠ -1 ∧ c ≤ cc (i + pre.length) ∧ cc (i + pre.length) / 6 = c / 6 then rp d else 0)
  | [], i => by
    show (if d ≠ -1 ∧ c ≤ cc i ∧ cc i / 6 = c / 6 then rp d else 0) + 0 = 0 + _
    rw [List.length_nil, show i + ((0 : Nat) : Int) = i by omega]
    omega
  | x :: pre, i => by
    show _ + plS cc rp c (i + 1) (pre ++ [d]) = _ + plS cc rp c (i + 1) pre + _
    rw [plS_a cc rp c d pre (i + 1), List.length_cons, show i + ((pre.length + 1 : Nat) : Int) = i + 1 + (pre.length : Int) by omega]
    omega
theorem rfS_a (cc rp roof : Int → Int) (d : Int) : ∀ (pre : List Int) (i : Int), rfS cc rp roof i (pre ++ [d]) ↔ (rfS cc rp roof i pre ∧ (d ≠ -1 → rp d * (6 - cc (i + pre.length) % 6) ≤ roof (cc (i + pre.length) / 6)))
  | [], i => by
    show (_ ∧ True) ↔ (True ∧ _)
    rw [List.length_nil, show i + ((0 : Nat) : Int) = i by omega]
    exact ⟨fun h => ⟨trivial, h.1⟩, fun h => ⟨h.2, trivial⟩⟩
  | x :: pre, i => by
    have ih := rfS_a cc rp roof d pre (i + 1)
    show (_ ∧ rfS cc rp roof (i + 1) (pre ++ [d])) ↔ ((_ ∧ rfS cc rp roof (i + 1) pre) ∧ _)
    rw [ih, List.length_cons, show i + ((pre.length + 1 : Nat) : Int) = i + 1 + (pre.length : Int) by omega]
    exact ⟨fun h => ⟨⟨h.1, h.2.1⟩, h.2.2⟩, fun h => ⟨h.1.1, h.1.2, h.2⟩⟩
theorem wtS_a (rp wt : Int → Int) (d : Int) : ∀ pre : List Int, wtS rp wt (pre ++ [d]) = wtS rp wt pre + (if d = -1 then 0 else wt d * rp d)
  | [] => by
    show _ + 0 = 0 + _
    omega
  | x :: pre => by
    show _ + wtS rp wt (pre ++ [d]) = _ + wtS rp wt pre + _
    rw [wtS_a rp wt d pre]
    omega
theorem plS_c (cc rp : Int → Int) (c : Int) (h : (c + 1) / 6 = c / 6) : ∀ (pre : List Int) (i : Int), plS cc rp c i pre = pkS cc rp c i pre + plS cc rp (c + 1) i pre
  | [], i => rfl
  | d :: ds, i => by
    show _ + plS cc rp c (i + 1) ds = _ + pkS cc rp c (i + 1) ds + (_ + plS cc rp (c + 1) (i + 1) ds)
    rw [plS_c cc rp c h ds (i + 1)]
    by_cases q : d = -1
    · rw [if_neg (fun z => z.1 q), if_neg (fun z => z.1 q), if_neg (fun z => z.1 q)]
      omega
    · by_cases p : cc i = c
      · rw [if_pos ⟨q, by omega, by rw [p]⟩, if_pos ⟨q, p⟩, if_neg (fun z => by omega)]
        omega
      · by_cases w : c + 1 ≤ cc i ∧ cc i / 6 = (c + 1) / 6
        · rw [if_pos ⟨q, by omega, by omega⟩, if_neg (fun z => p z.2), if_pos ⟨q, w⟩]
          omega
        · rw [if_neg (fun z => w ⟨by omega, by omega⟩), if_neg (fun z => p z.2), if_neg (fun z => w z.2)]
          omega
theorem plS_5 (cc rp : Int → Int) (c : Int) (h : c % 6 = 5) : ∀ (pre : List Int) (i : Int), plS cc rp c i pre = pkS cc rp c i pre
  | [], i => rfl
  | d :: ds, i => by
    show _ + plS cc rp c (i + 1) ds = _ + pkS cc rp c (i + 1) ds
    rw [plS_5 cc rp c h ds (i + 1)]
    by_cases q : d = -1
    · rw [if_neg (fun z => z.1 q), if_neg (fun z => z.1 q)]
    · by_cases p : cc i = c
      · rw [if_pos ⟨q, by omega, by rw [p]⟩, if_pos ⟨q, p⟩]
      · rw [if_neg (fun z => p (by omega)), if_neg (fun z => p z.2)]
/-- digits: none, or a kind -/
def dig (d : Int) : Prop := -1 ≤ d ∧ d ≤ 5
/-- a row of kinds may be: G's rows are cells told (0), ripe (1), worth (2), roofs (3), loads without (4), knots (5), what hangs (6) -/
def fea (G : qA) (pre : List Int) : Prop := rfS (G 0) (G 1) (G 3) 0 pre ∧ ∀ c, 0 ≤ c → c < 48 → G 6 c ≠ 0 → G 4 c + plS (G 0) (G 1) c 0 pre ≤ G 5 c
noncomputable def stp (G : qA) (row : List Int) (s : Int × List Int) : Int × List Int := @ite _ (fea G row ∧ s.1 < wtS (G 1) (G 2) row) (Classical.propDecidable _) (wtS (G 1) (G 2) row, row) s
theorem stp_y {G : qA} {row : List Int} {s : Int × List Int} (h : fea G row ∧ s.1 < wtS (G 1) (G 2) row) : stp G row s = (wtS (G 1) (G 2) row, row) := by
  unfold stp
  exact @if_pos _ (Classical.propDecidable _) h _ _ _
theorem stp_n {G : qA} {row : List Int} {s : Int × List Int} (h : ¬ (fea G row ∧ s.1 < wtS (G 1) (G 2) row)) : stp G row s = s := by
  unfold stp
  exact @if_neg _ (Classical.propDecidable _) h _ _ _
def fdg (f : Int → Int × List Int → Int × List Int) : Nat → Int × List Int → Int × List Int
  | 0, s => s
  | r + 1, s => fdg f r (f (5 - r) s)
noncomputable def blk (G : qA) : Nat → List Int → Int × List Int → Int × List Int
  | 0, pre, s => stp G pre s
  | m + 1, pre, s => fdg (fun d s => blk G m (pre ++ [d]) s) 6 (blk G m (pre ++ [-1]) s)
def rpos (G : qA) : Prop := (∀ k, 0 ≤ k → k ≤ 5 → 1 ≤ G 1 k ∧ G 1 k ≤ 200 ∧ 0 ≤ G 2 k ∧ G 2 k ≤ 99)
theorem fea_m {G : qA} (hp : rpos G) {pre : List Int} {d : Int} (hd : dig d) (h : fea G (pre ++ [d])) : fea G pre := by
  obtain ⟨h1, h2⟩ := h
  refine ⟨((rfS_a _ _ _ d pre 0).mp h1).1, fun c c0 c1 z => ?_⟩
  have := h2 c c0 c1 z
  rw [plS_a] at this
  by_cases q : d ≠ -1 ∧ c ≤ G 0 (0 + pre.length) ∧ G 0 (0 + pre.length) / 6 = c / 6
  · rw [if_pos q] at this
    have := hp d (by have := hd.1; omega) hd.2
    omega
  · rw [if_neg q] at this
    omega
theorem fdg_id {f : Int → Int × List Int → Int × List Int} : ∀ (r : Nat) (s : Int × List Int), r ≤ 6 → (∀ d s, dig d → f d s = s) → fdg f r s = s
  | 0, s, _, _ => rfl
  | r + 1, s, hr, h => by
    show fdg f r (f (5 - r) s) = s
    rw [h (5 - r) s ⟨by omega, by omega⟩]
    exact fdg_id r s (by omega) h
theorem blk_bad {G : qA} (hp : rpos G) : ∀ (m : Nat) (pre : List Int) (s : Int × List Int), ¬ fea G pre → blk G m pre s = s
  | 0, pre, s, h => stp_n (fun z => h z.1)
  | m + 1, pre, s, h => by
    have ih : ∀ d s, dig d → blk G m (pre ++ [d]) s = s := fun d s hd => blk_bad hp m (pre ++ [d]) s (fun z => h (fea_m hp hd z))
    show fdg (fun d s => blk G m (pre ++ [d]) s) 6 (blk G m (pre ++ [-1]) s) = s
    rw [ih (-1) s ⟨by decide, by decide⟩]
    exact fdg_id 6 s (Nat.le_refl _) ih
theorem fea_n {G : qA} {pre : List Int} : fea G (pre ++ [-1]) ↔ fea G pre := by
  unfold fea
  rw [rfS_a]
  constructor
  · rintro ⟨h1, h2⟩
    refine ⟨h1.1, fun c c0 c1 z => ?_⟩
    have := h2 c c0 c1 z
    rw [plS_a, if_neg (fun w => w.1 rfl)] at this
    omega
  · rintro ⟨h1, h2⟩
    refine ⟨⟨h1, fun z => absurd rfl z⟩, fun c c0 c1 z => ?_⟩
    have := h2 c c0 c1 z
    rw [plS_a, if_neg (fun w => w.1 rfl)]
    omega
/-- two memories of the best, alike where there is one -/
def eqS (s t : Int × List Int) : Prop := s.1 = t.1 ∧ (s.1 ≠ -1 → s.2 = t.2)
theorem stp_e {G : qA} {row : List Int} {s t : Int × List Int} (h : eqS s t) : eqS (stp G row s) (stp G row t) := by
  by_cases q : fea G row ∧ s.1 < wtS (G 1) (G 2) row
  · rw [stp_y q, stp_y (by rw [← h.1]; exact q)]
    exact ⟨rfl, fun _ => rfl⟩
  · rw [stp_n q, stp_n (by rw [← h.1]; exact q)]
    exact h
theorem fdg_e {f : Int → Int × List Int → Int × List Int} (hf : ∀ d s t, eqS s t → eqS (f d s) (f d t)) : ∀ (r : Nat) (s t : Int × List Int), eqS s t → eqS (fdg f r s) (fdg f r t)
  | 0, _, _, h => h
  | r + 1, s, t, h => fdg_e hf r _ _ (hf _ _ _ h)
theorem blk_e {G : qA} : ∀ (m : Nat) (pre : List Int) (s t : Int × List Int), eqS s t → eqS (blk G m pre s) (blk G m pre t)
  | 0, pre, s, t, h => stp_e h
  | m + 1, pre, s, t, h => fdg_e (fun d s t h => blk_e m (pre ++ [d]) s t h) 6 _ _ (blk_e m (pre ++ [-1]) s t h)
theorem stp_ge {G : qA} {row : List Int} (s : Int × List Int) : s.1 ≤ (stp G row s).1 := by
  by_cases q : fea G row ∧ s.1 < wtS (G 1) (G 2) row
  · rw [stp_y q]
    exact Int.le_of_lt q.2
  · rw [stp_n q]
    exact Int.le_refl _
theorem fdg_ge {f : Int → Int × List Int → Int × List Int} (hf : ∀ d s, s.1 ≤ (f d s).1) : ∀ (r : Nat) (s : Int × List Int), s.1 ≤ (fdg f r s).1
  | 0, s => Int.le_refl _
  | r + 1, s => Int.le_trans (hf _ s) (fdg_ge hf r _)
theorem blk_ge {G : qA} : ∀ (m : Nat) (pre : List Int) (s : Int × List Int), s.1 ≤ (blk G m pre s).1
  | 0, pre, s => stp_ge s
  | m + 1, pre, s => Int.le_trans (blk_ge m (pre ++ [-1]) s) (fdg_ge (fun d s => blk_ge m (pre ++ [d]) s) 6 _)
theorem blk_pos {G : qA} : ∀ (m : Nat) (pre : List Int) (s : Int × List Int), fea G pre → 0 ≤ wtS (G 1) (G 2) pre → 0 ≤ (blk G m pre s).1
  | 0, pre, s, h, h0 => by
    show 0 ≤ (stp G pre s).1
    by_cases q : fea G pre ∧ s.1 < wtS (G 1) (G 2) pre
    · rw [stp_y q]; exact h0
    · rw [stp_n q]
      by_cases z : s.1 < wtS (G 1) (G 2) pre
      · exact absurd ⟨h, z⟩ q
      · omega
  | m + 1, pre, s, h, h0 => Int.le_trans (blk_pos m (pre ++ [-1]) s (fea_n.mpr h) (by rw [wtS_a, if_pos rfl, Int.add_zero]; exact h0)) (fdg_ge (fun d s => blk_ge m (pre ++ [d]) s) 6 _)
def dgs (pre : List Int) : Prop := ∀ d ∈ pre, dig d
theorem dgs_a {pre : List Int} {d : Int} (h : dgs pre) (hd : dig d) : dgs (pre ++ [d]) := fun x hx => by
  rcases List.mem_append.mp hx with q | q
  · exact h x q
  · rw [List.mem_singleton.mp q]; exact hd
theorem wtS_bd {G : qA} (hp : rpos G) : ∀ pre : List Int, dgs pre → 0 ≤ wtS (G 1) (G 2) pre ∧ wtS (G 1) (G 2) pre ≤ 19800 * (pre.length : Int)
  | [], _ => ⟨Int.le_refl _, Int.le_refl _⟩
  | d :: ds, h => by
    obtain ⟨i1, i2⟩ := wtS_bd hp ds (fun x hx => h x (List.mem_cons_of_mem _ hx))
    have hd := h d List.mem_cons_self
    show 0 ≤ (if d = -1 then 0 else G 2 d * G 1 d) + wtS (G 1) (G 2) ds ∧ (if d = -1 then 0 else G 2 d * G 1 d) + wtS (G 1) (G 2) ds ≤ _
    rw [List.length_cons]
    by_cases q : d = -1
    · rw [if_pos q]; omega
    · rw [if_neg q]
      obtain ⟨a, b, c, e⟩ := hp d (by have := hd.1; omega) hd.2
      have := mul_bd (a := G 2 d) (b := G 1 d) (p := 99) (q := 200) c e (by omega) b
      omega
theorem plS_bd {G : qA} (hp : rpos G) (c : Int) : ∀ (pre : List Int) (i : Int), dgs pre → 0 ≤ plS (G 0) (G 1) c i pre ∧ plS (G 0) (G 1) c i pre ≤ 200 * (pre.length : Int)
  | [], i, _ => ⟨Int.le_refl _, Int.le_refl _⟩
  | d :: ds, i, h => by
    obtain ⟨i1, i2⟩ := plS_bd hp c ds (i + 1) (fun x hx => h x (List.mem_cons_of_mem _ hx))
    have hd := h d List.mem_cons_self
    show 0 ≤ (if d ≠ -1 ∧ c ≤ G 0 i ∧ G 0 i / 6 = c / 6 then G 1 d else 0) + plS (G 0) (G 1) c (i + 1) ds ∧ (if d ≠ -1 ∧ c ≤ G 0 i ∧ G 0 i / 6 = c / 6 then G 1 d else 0) + plS (G 0) (G 1) c (i + 1) ds ≤ _
    rw [List.length_cons]
    by_cases q : d ≠ -1 ∧ c ≤ G 0 i ∧ G 0 i / 6 = c / 6
    · rw [if_pos q]
      obtain ⟨a, b, _⟩ := hp d (by have := hd.1; have := q.1; omega) hd.2
      omega
    · rw [if_neg q]; omega
/-- a row of places as a list -/
def rw_ (f : Int → Int) : Nat → Int → List Int
  | 0, _ => []
  | n + 1, i => f i :: rw_ f n (i + 1)
theorem rw_len (f : Int → Int) : ∀ (n : Nat) (i : Int), (rw_ f n i).length = n
  | 0, _ => rfl
  | n + 1, i => by
    show (rw_ f n (i + 1)).length + 1 = n + 1
    rw [rw_len f n (i + 1)]
theorem rw_e {f g : Int → Int} : ∀ (n : Nat) (i : Int), (∀ j, i ≤ j → j < i + n → f j = g j) → rw_ f n i = rw_ g n i
  | 0, _, _ => rfl
  | n + 1, i, h => by
    show f i :: rw_ f n (i + 1) = g i :: rw_ g n (i + 1)
    rw [h i (Int.le_refl _) (by omega), rw_e n (i + 1) (fun j h0 h1 => h j (by omega) (by omega))]
theorem rw_a (f : Int → Int) : ∀ (n : Nat) (i : Int), rw_ f (n + 1) i = rw_ f n i ++ [f (i + n)]
  | 0, i => by
    show [f i] = [] ++ [f (i + ((0 : Nat) : Int))]
    rw [show i + ((0 : Nat) : Int) = i by omega]
    rfl
  | n + 1, i => by
    show f i :: rw_ f (n + 1) (i + 1) = f i :: (rw_ f n (i + 1) ++ [f (i + ((n + 1 : Nat) : Int))])
    rw [rw_a f n (i + 1), show i + 1 + (n : Int) = i + ((n + 1 : Nat) : Int) by omega]
theorem rw_g {f g : Int → Int} : ∀ (n : Nat) (i : Int), rw_ f n i = rw_ g n i → ∀ j, i ≤ j → j < i + n → f j = g j
  | 0, i, _, j, h0, h1 => absurd h1 (by omega)
  | n + 1, i, h, j, h0, h1 => by
    have h : f i :: rw_ f n (i + 1) = g i :: rw_ g n (i + 1) := h
    injection h with h2 h3
    by_cases q : j = i
    · rw [q]; exact h2
    · exact rw_g n (i + 1) h3 j (by omega) (by omega)
theorem rw_in {f : Int → Int} : ∀ (n : Nat) (a i : Int), a ≤ i → i < a + n → f i ∈ rw_ f n a
  | 0, a, i, h1, h2 => absurd h2 (by omega)
  | n + 1, a, i, h1, h2 => by
    show f i ∈ f a :: rw_ f n (a + 1)
    by_cases q : i = a
    · rw [q]; exact List.mem_cons_self
    · exact List.mem_cons_of_mem _ (rw_in n (a + 1) i (by omega) (by omega))
def dgQ (s : Int × List Int) : Prop := s.1 ≠ -1 → dgs s.2
theorem stp_d {G : qA} {row : List Int} {s : Int × List Int} (hd : dgs row) (h : dgQ s) : dgQ (stp G row s) := by
  by_cases q : fea G row ∧ s.1 < wtS (G 1) (G 2) row
  · rw [stp_y q]
    exact fun _ => hd
  · rw [stp_n q]
    exact h
theorem fdg_d {f : Int → Int × List Int → Int × List Int} (hf : ∀ d s, dig d → dgQ s → dgQ (f d s)) : ∀ (r : Nat) (s : Int × List Int), r ≤ 6 → dgQ s → dgQ (fdg f r s)
  | 0, _, _, h => h
  | r + 1, s, hr, h => fdg_d hf r _ (by omega) (hf _ _ ⟨by omega, by omega⟩ h)
theorem blk_d {G : qA} : ∀ (m : Nat) (pre : List Int) (s : Int × List Int), dgs pre → dgQ s → dgQ (blk G m pre s)
  | 0, pre, s, hd, h => stp_d hd h
  | m + 1, pre, s, hd, h => fdg_d (fun d s hd2 h => blk_d m (pre ++ [d]) s (dgs_a hd hd2) h) 6 _ (Nat.le_refl _) (blk_d m (pre ++ [-1]) s (dgs_a hd ⟨by decide, by decide⟩) h)
