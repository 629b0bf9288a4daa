/-! THE POLLEN: one arrival -/
def ad (f : Int → Int) (i v : Int) : Int → Int := fun j => if j = i then f j + v else f j
def sm (f : Int → Int) : Nat → Int
  | 0 => 0
  | n + 1 => sm f n + f (n : Int)
def sb (f : Int → Int) : Nat → Int
  | 0 => 0
  | n + 1 => sb f n + f ((n : Int) * 3 + 2)
def dst (b to c t : Int) : Int := if t = 0 then (if ia (sr b c) 1 = 0 then c * 3 + t else if c = to then c * 3 + 2 else c * 3 + 1) else if t = 1 then (if c = to then c * 3 + 2 else c * 3 + t) else c * 3 + t
theorem dst_0 (b to c : Int) : dst b to c 0 = if ia (sr b c) 1 = 0 then c * 3 else if c = to then c * 3 + 2 else c * 3 + 1 := by
  unfold dst
  rw [if_pos rfl, Int.add_zero]
theorem dst_1 (b to c : Int) : dst b to c 1 = if c = to then c * 3 + 2 else c * 3 + 1 := by
  unfold dst
  rw [if_neg (by decide), if_pos rfl]
theorem dst_2 (b to c : Int) : dst b to c 2 = c * 3 + 2 := by
  unfold dst
  rw [if_neg (by decide), if_neg (by decide)]
theorem dst_r {b to c t : Int} (c0 : 0 ≤ c) (c1 : c < 8) (t0 : 0 ≤ t) (t1 : t < 3) : 0 ≤ dst b to c t ∧ dst b to c t < 24 := by
  unfold dst
  split
  · split
    · constructor <;> omega
    · split <;> constructor <;> omega
  · split
    · split <;> constructor <;> omega
    · constructor <;> omega
theorem arr_is {c t y to b : Int} {A : qA} : fC_arrive c t y to b A = qu A 69 (dst b to c t) (wI (A 69 (dst b to c t) + y)) := by
  unfold fC_arrive dst
  simp only [qlet_e]
  by_cases h0 : t = 0
  · rw [if_pos h0, if_pos h0]
    by_cases h1 : ia (sr b c) 1 = 0
    · rw [if_pos h1, if_pos h1]
    · rw [if_neg h1, if_neg h1]
      by_cases h2 : c = to
      · rw [if_pos h2, if_pos h2]
      · rw [if_neg h2, if_neg h2]
  · rw [if_neg h0, if_neg h0]
    by_cases h1 : t = 1
    · rw [if_pos h1, if_pos h1]
      by_cases h2 : c = to
      · rw [if_pos h2, if_pos h2]
      · rw [if_neg h2, if_neg h2]
    · rw [if_neg h1, if_neg h1]
theorem qu_ad (A : qA) (r : Nat) (d v : Int) : (qu A r d (A r d + v)) r = ad (A r) d v := by
  funext j
  unfold ad
  rw [qu_is]
  by_cases h : j = d
  · rw [if_pos ⟨rfl, h⟩, if_pos h, h]
  · rw [if_neg (fun q => h q.2), if_neg h]
theorem ad_le {f : Int → Int} {i v j : Int} (v0 : 0 ≤ v) : f j ≤ ad f i v j ∧ ad f i v j ≤ f j + v := by
  unfold ad
  split <;> constructor <;> omega
theorem sm_ad {f : Int → Int} {i v : Int} (i0 : 0 ≤ i) : ∀ n : Nat, sm (ad f i v) n = sm f n + if i < n then v else 0 := by
  intro n
  induction n with
  | zero =>
    rw [if_neg (by omega)]
    rfl
  | succ n ih =>
    show sm (ad f i v) n + ad f i v n = sm f n + f n + _
    rw [ih]
    unfold ad
    by_cases h : i < (n : Int)
    · rw [if_pos h, if_neg (show ¬ (n : Int) = i by omega), if_pos (show i < ((n + 1 : Nat) : Int) by omega)]; omega
    · rw [if_neg h]
      by_cases h2 : (n : Int) = i
      · rw [if_pos h2, if_pos (show i < ((n + 1 : Nat) : Int) by omega)]; omega
      · rw [if_neg h2, if_neg (show ¬ i < ((n + 1 : Nat) : Int) by omega)]; omega
theorem sb_ad {f : Int → Int} {c v : Int} (i0 : 0 ≤ c) : ∀ n : Nat, sb (ad f (c * 3 + 2) v) n = sb f n + if c < n then v else 0 := by
  intro n
  induction n with
  | zero =>
    rw [if_neg (by omega)]
    rfl
  | succ n ih =>
    show sb (ad f (c * 3 + 2) v) n + ad f (c * 3 + 2) v ((n : Int) * 3 + 2) = sb f n + f ((n : Int) * 3 + 2) + _
    rw [ih]
    unfold ad
    by_cases h : c < (n : Int)
    · rw [if_pos h, if_neg (show ¬ (n : Int) * 3 + 2 = c * 3 + 2 by omega), if_pos (show c < ((n + 1 : Nat) : Int) by omega)]; omega
    · rw [if_neg h]
      by_cases h2 : (n : Int) = c
      · rw [if_pos (by omega), if_pos (show c < ((n + 1 : Nat) : Int) by omega)]; omega
      · rw [if_neg (by omega), if_neg (show ¬ c < ((n + 1 : Nat) : Int) by omega)]; omega
theorem sb_ad0 {f : Int → Int} {d v : Int} (hd : d % 3 ≠ 2) : ∀ n : Nat, sb (ad f d v) n = sb f n := by
  intro n
  induction n with
  | zero => rfl
  | succ n ih =>
    show sb (ad f d v) n + ad f d v ((n : Int) * 3 + 2) = sb f n + f ((n : Int) * 3 + 2)
    rw [ih]
    unfold ad
    rw [if_neg (by omega)]
theorem sm_c {f g : Int → Int} : ∀ n : Nat, (∀ j, 0 ≤ j → j < (n : Int) → f j = g j) → sm f n = sm g n := by
  intro n
  induction n with
  | zero => intro _; rfl
  | succ n ih =>
    intro h
    show sm f n + f n = sm g n + g n
    rw [ih (fun j j0 j1 => h j j0 (by omega)), h n (by omega) (by omega)]
theorem sb_c {f g : Int → Int} : ∀ n : Nat, (∀ j, 0 ≤ j → j < (n : Int) * 3 → f j = g j) → sb f n = sb g n := by
  intro n
  induction n with
  | zero => intro _; rfl
  | succ n ih =>
    intro h
    show sb f n + f ((n : Int) * 3 + 2) = sb g n + g ((n : Int) * 3 + 2)
    rw [ih (fun j j0 j1 => h j j0 (by omega)), h _ (by omega) (by omega)]
theorem sm_le {f : Int → Int} : ∀ n : Nat, (∀ j, 0 ≤ j → j < (n : Int) → 0 ≤ f j) → 0 ≤ sm f n ∧ ∀ j, 0 ≤ j → j < (n : Int) → f j ≤ sm f n := by
  intro n
  induction n with
  | zero => intro _; exact ⟨Int.le_refl 0, fun j _ _ => by omega⟩
  | succ n ih =>
    intro h
    have h1 := ih (fun j j0 j1 => h j j0 (by omega))
    have h2 := h n (by omega) (by omega)
    show 0 ≤ sm f n + f n ∧ ∀ j, 0 ≤ j → j < ((n + 1 : Nat) : Int) → f j ≤ sm f n + f n
    refine ⟨by omega, fun j j0 j1 => ?_⟩
    by_cases e : j = n
    · rw [e]; omega
    · have := h1.2 j j0 (by omega); omega
/-- both ways alike while they arrive -/
def PR (b to : Int) (W N Y : Int → Int) (s t : Int) : Prop := (∀ y, 0 ≤ y → y < 8 → W (y * 3) = if ia (sr b y) 1 = 0 then N y else 0) ∧ (∀ y, 0 ≤ y → y < 8 → W (y * 3 + 1) = if y = to then 0 else Y y + if ia (sr b y) 1 = 0 then 0 else N y) ∧ (sb W 8 = s + (Y to + if ia (sr b to) 1 = 0 then 0 else N to)) ∧ (∀ j, 0 ≤ j → j < 24 → 0 ≤ W j) ∧ sm W 24 = t ∧ (∀ y, 0 ≤ y → y < 8 → 0 ≤ N y ∧ 0 ≤ Y y) ∧ sm N 8 + sm Y 8 ≤ t
theorem PR_c {b to s t : Int} {W N Y W' N' Y' : Int → Int} (h : PR b to W N Y s t) (t0 : 0 ≤ to) (t1 : to < 8) (hW : ∀ j, 0 ≤ j → j < 24 → W' j = W j) (hN : ∀ y, 0 ≤ y → y < 8 → N' y = N y) (hY : ∀ y, 0 ≤ y → y < 8 → Y' y = Y y) : PR b to W' N' Y' s t := by
  obtain ⟨a1, a2, a3, a4, a5, a6, a7⟩ := h
  refine ⟨fun y y0 y1 => ?_, fun y y0 y1 => ?_, ?_, fun j j0 j1 => ?_, ?_, fun y y0 y1 => ?_, ?_⟩
  · rw [hW _ (by omega) (by omega), hN y y0 y1]; exact a1 y y0 y1
  · rw [hW _ (by omega) (by omega), hN y y0 y1, hY y y0 y1]; exact a2 y y0 y1
  · rw [sb_c 8 (fun j j0 j1 => hW j j0 (by omega)), hN to t0 t1, hY to t0 t1]; exact a3
  · rw [hW j j0 j1]; exact a4 j j0 j1
  · rw [sm_c 24 (fun j j0 j1 => hW j j0 j1)]; exact a5
  · rw [hN y y0 y1, hY y y0 y1]; exact a6 y y0 y1
  · rw [sm_c 8 (fun j j0 j1 => hN j j0 j1), sm_c 8 (fun j j0 j1 => hY j j0 j1)]; exact a7
theorem PR_tot {b to s t c v : Int} {W N Y : Int → Int} {d : Int} (h : PR b to W N Y s t) (d0 : 0 ≤ d) (d1 : d < 24) (v0 : 0 ≤ v) : (∀ j, 0 ≤ j → j < 24 → 0 ≤ ad W d v j) ∧ sm (ad W d v) 24 = t + v := by
  obtain ⟨a1, a2, a3, a4, a5, a6, a7⟩ := h
  refine ⟨fun j j0 j1 => ?_, ?_⟩
  · have := a4 j j0 j1
    have h2 := (ad_le (f := W) (i := d) (j := j) v0).1
    omega
  · rw [sm_ad d0, a5, if_pos (by omega)]
theorem PR_0 {b to s t c v : Int} {W N Y : Int → Int} (h : PR b to W N Y s t) (c0 : 0 ≤ c) (c1 : c < 8) (t0 : 0 ≤ to) (t1 : to < 8) (v0 : 0 ≤ v) : PR b to (ad W (dst b to c 0) v) (ad N c v) Y s (t + v) := by
  have ht := PR_tot (c := c) h (dst_r (b := b) (to := to) c0 c1 (show 0 ≤ (0 : Int) by decide) (by decide)).1 (dst_r (b := b) (to := to) c0 c1 (show 0 ≤ (0 : Int) by decide) (by decide)).2 v0
  obtain ⟨a1, a2, a3, a4, a5, a6, a7⟩ := h
  refine ⟨fun y y0 y1 => ?_, fun y y0 y1 => ?_, ?_, ht.1, ht.2, fun y y0 y1 => ⟨?_, (a6 y y0 y1).2⟩, ?_⟩
  · have hy := a1 y y0 y1
    rw [dst_0]
    unfold ad
    by_cases e : y = c
    · subst e
      by_cases hb : ia (sr b y) 1 = 0
      · rw [if_pos hb, if_pos hb, if_pos rfl, if_pos rfl, hy, if_pos hb]
      · rw [if_neg hb, if_neg hb]
        by_cases h2 : y = to
        · rw [if_pos h2, if_neg (by omega), hy, if_neg hb]
        · rw [if_neg h2, if_neg (by omega), hy, if_neg hb]
    · rw [if_neg e, ← hy]
      by_cases hb : ia (sr b c) 1 = 0
      · rw [if_pos hb, if_neg (by omega)]
      · rw [if_neg hb]
        by_cases h2 : c = to
        · rw [if_pos h2, if_neg (by omega)]
        · rw [if_neg h2, if_neg (by omega)]
  · have hy := a2 y y0 y1
    rw [dst_0]
    unfold ad
    by_cases e : y = c
    · subst e
      by_cases hb : ia (sr b y) 1 = 0
      · rw [if_pos hb, if_pos hb, if_neg (by omega), hy, if_pos hb]
      · rw [if_neg hb, if_neg hb]
        rw [if_neg hb] at hy
        by_cases h2 : y = to
        · rw [if_pos h2, if_pos h2, if_neg (by omega), hy, if_pos h2]
        · rw [if_neg h2, if_neg h2, if_pos rfl, if_pos rfl, hy, if_neg h2]; omega
    · rw [if_neg e, ← hy]
      by_cases hb : ia (sr b c) 1 = 0
      · rw [if_pos hb, if_neg (by omega)]
      · rw [if_neg hb]
        by_cases h2 : c = to
        · rw [if_pos h2, if_neg (by omega)]
        · rw [if_neg h2, if_neg (by omega)]
  · rw [dst_0]
    by_cases hb : ia (sr b c) 1 = 0
    · rw [if_pos hb, sb_ad0 (by omega), a3]
      by_cases h2 : to = c
      · rw [h2, if_pos hb, if_pos hb]
      · unfold ad; rw [if_neg h2]
    · rw [if_neg hb]
      by_cases h2 : c = to
      · rw [if_pos h2, sb_ad c0, if_pos (by omega), a3, ← h2, if_neg hb, if_neg hb]
        unfold ad; rw [if_pos rfl]; omega
      · rw [if_neg h2, sb_ad0 (by omega), a3]
        unfold ad; rw [if_neg (show ¬ to = c from fun q => h2 q.symm)]
  · have := (a6 y y0 y1).1
    have h2 := (ad_le (f := N) (i := c) (j := y) v0).1
    omega
  · rw [sm_ad c0, if_pos (by omega)]; omega
theorem PR_1 {b to s t c v : Int} {W N Y : Int → Int} (h : PR b to W N Y s t) (c0 : 0 ≤ c) (c1 : c < 8) (t0 : 0 ≤ to) (t1 : to < 8) (v0 : 0 ≤ v) : PR b to (ad W (dst b to c 1) v) N (ad Y c v) s (t + v) := by
  have ht := PR_tot (c := c) h (dst_r (b := b) (to := to) c0 c1 (show 0 ≤ (1 : Int) by decide) (by decide)).1 (dst_r (b := b) (to := to) c0 c1 (show 0 ≤ (1 : Int) by decide) (by decide)).2 v0
  obtain ⟨a1, a2, a3, a4, a5, a6, a7⟩ := h
  refine ⟨fun y y0 y1 => ?_, fun y y0 y1 => ?_, ?_, ht.1, ht.2, fun y y0 y1 => ⟨(a6 y y0 y1).1, ?_⟩, ?_⟩
  · rw [← a1 y y0 y1, dst_1]
    unfold ad
    by_cases h2 : c = to
    · rw [if_pos h2, if_neg (by omega)]
    · rw [if_neg h2, if_neg (by omega)]
  · have hy := a2 y y0 y1
    rw [dst_1]
    unfold ad
    by_cases h2 : c = to
    · rw [if_pos h2, if_neg (by omega), hy]
      by_cases h3 : y = to
      · rw [if_pos h3, if_pos h3]
      · rw [if_neg h3, if_neg h3, if_neg (show ¬ y = c by omega)]
    · rw [if_neg h2]
      by_cases e : y = c
      · rw [if_pos (by omega), hy, if_neg (show ¬ y = to by omega), if_neg (show ¬ y = to by omega), if_pos e]; omega
      · rw [if_neg (by omega), hy, if_neg e]
  · rw [dst_1]
    by_cases h2 : c = to
    · rw [if_pos h2, sb_ad c0, if_pos (by omega), a3]
      unfold ad; rw [if_pos h2.symm]; omega
    · rw [if_neg h2, sb_ad0 (by omega), a3]
      unfold ad; rw [if_neg (show ¬ to = c from fun q => h2 q.symm)]
  · have := (a6 y y0 y1).2
    have h2 := (ad_le (f := Y) (i := c) (j := y) v0).1
    omega
  · rw [sm_ad c0, if_pos (by omega)]; omega
theorem PR_2 {b to s t c v : Int} {W N Y : Int → Int} (h : PR b to W N Y s t) (c0 : 0 ≤ c) (c1 : c < 8) (v0 : 0 ≤ v) : PR b to (ad W (dst b to c 2) v) N Y (s + v) (t + v) := by
  have ht := PR_tot (c := c) h (dst_r (b := b) (to := to) c0 c1 (show 0 ≤ (2 : Int) by decide) (by decide)).1 (dst_r (b := b) (to := to) c0 c1 (show 0 ≤ (2 : Int) by decide) (by decide)).2 v0
  obtain ⟨a1, a2, a3, a4, a5, a6, a7⟩ := h
  refine ⟨fun y y0 y1 => ?_, fun y y0 y1 => ?_, ?_, ht.1, ht.2, a6, by omega⟩
  · rw [← a1 y y0 y1, dst_2]
    unfold ad
    rw [if_neg (by omega)]
  · rw [← a2 y y0 y1, dst_2]
    unfold ad
    rw [if_neg (by omega)]
  · rw [dst_2, sb_ad c0, if_pos (by omega), a3]; omega
