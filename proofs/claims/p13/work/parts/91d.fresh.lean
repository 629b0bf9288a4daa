/-! THE TWO FRESH HEAPS -/
def fr_sh : va_E → Nat × Nat × Nat × List Value
  | .inl (t, n, .inl _) => (0, t, n, [])
  | .inl (t, n, .inr (.inl _)) => (1, t, n, [])
  | .inl (t, n, _) => (3, t, n, [])
  | .inr (ci, fs) => (2, ci, 0, fs)
def fr_f (h : pv_H) (a : Nat) : Nat → Int32 := match h[a]? with
  | some (.inl (_, _, .inl f)) => f
  | _ => fun _ => 0
def fr_g (h : pv_H) (a : Nat) : Nat → Int64 := match h[a]? with
  | some (.inl (_, _, .inr (.inl f))) => f
  | _ => fun _ => 0
def fr_ce (k : Nat) (s : Nat × Nat × Nat × List Value) (f : Nat → Nat → Int32) (g : Nat → Nat → Int64) : va_E := match s with
  | (0, t, n, _) => .inl (t, n, .inl (f k))
  | (1, t, n, _) => .inl (t, n, .inr (.inl (g k)))
  | (2, ci, _, fs) => .inr (ci, fs)
  | (_, t, n, _) => .inl (t, n, .inl (f k))
def fr_re (k : Nat) : List (Nat × Nat × Nat × List Value) → (Nat → Nat → Int32) → (Nat → Nat → Int64) → pv_H
  | [], _, _ => []
  | s :: L, f, g => fr_ce k s f g :: fr_re (k + 1) L f g
theorem fr_ce_eq {e : va_E} {k : Nat} {f : Nat → Nat → Int32} {g : Nat → Nat → Int64} (h3 : (fr_sh e).1 ≠ 3) (hf : ∀ t n f0, e = .inl (t, n, .inl f0) → f k = f0) (hg : ∀ t n f0, e = .inl (t, n, .inr (.inl f0)) → g k = f0) : fr_ce k (fr_sh e) f g = e := by
  cases e with
  | inr o => rfl
  | inl a =>
    obtain ⟨t, n, x⟩ := a
    cases x with
    | inl f0 => show Sum.inl (t, n, Sum.inl (f k)) = _; rw [hf t n f0 rfl]
    | inr y => cases y with
      | inl f0 => show Sum.inl (t, n, Sum.inr (Sum.inl (g k))) = _; rw [hg t n f0 rfl]
      | inr z => exact absurd rfl h3
theorem fr_re_gen {f : Nat → Nat → Int32} {g : Nat → Nat → Int64} : ∀ (h : pv_H) (k : Nat), (∀ e ∈ h, (fr_sh e).1 ≠ 3) → (∀ (i : Nat) (t n : Nat) (f0 : Nat → Int32), h[i]? = some (.inl (t, n, .inl f0)) → f (k + i) = f0) → (∀ (i : Nat) (t n : Nat) (f0 : Nat → Int64), h[i]? = some (.inl (t, n, .inr (.inl f0))) → g (k + i) = f0) → h = fr_re k (h.map fr_sh) f g
  | [], _, _, _, _ => rfl
  | e :: h, k, h3, hf, hg => by
    show e :: h = fr_ce k (fr_sh e) f g :: fr_re (k + 1) (h.map fr_sh) f g
    rw [fr_ce_eq (k := k) (h3 e List.mem_cons_self) (fun t n f0 q => hf 0 t n f0 (by rw [q]; rfl)) (fun t n f0 q => hg 0 t n f0 (by rw [q]; rfl)), ← fr_re_gen h (k + 1) (fun e he => h3 e (List.mem_cons_of_mem _ he)) (fun i t n f0 q => by
      have := hf (i + 1) t n f0 (by simpa using q)
      rw [← this]; congr 1; omega) (fun i t n f0 q => by
      have := hg (i + 1) t n f0 (by simpa using q)
      rw [← this]; congr 1; omega)]
theorem fr_re_eq {h : pv_H} {L : List (Nat × Nat × Nat × List Value)} (hs : h.map fr_sh = L) (h3 : (L.all fun s => decide (s.1 ≠ 3)) = true := by decide +kernel) : h = fr_re 0 L (fr_f h) (fr_g h) := by
  subst hs
  refine fr_re_gen h 0 (fun e he => ?_) (fun i t n f0 q => ?_) (fun i t n f0 q => ?_)
  · have h1 := List.all_eq_true.mp h3 (fr_sh e) (List.mem_map_of_mem he)
    exact of_decide_eq_true h1
  · simp [fr_f, q]
  · simp [fr_g, q]
def shC : List (Nat × Nat × Nat × List Value) := [(2, 11, 0, [.ref 1, .ref 15, .ref 24, .ref 34, .ref 44, .ref 52, .ref 54, .ref 55, .ref 63, .ref 68, .ref 71, .int 1]),
  (2, 3, 0, [.long 0, .ref 2, .ref 3, .ref 4, .ref 5, .ref 6, .ref 7, .ref 8, .ref 9, .ref 10, .ref 11, .ref 12, .ref 13, .ref 14]),
  (0, 0, 48, []),
  (0, 0, 48, []),
  (0, 0, 48, []),
  (0, 0, 48, []),
  (0, 0, 48, []),
  (0, 0, 48, []),
  (0, 0, 48, []),
  (0, 0, 48, []),
  (0, 1, 48, []),
  (0, 0, 6, []),
  (0, 0, 6, []),
  (0, 0, 6, []),
  (0, 0, 48, []),
  (2, 0, 0, [.ref 16, .ref 17, .ref 18, .ref 19, .ref 20, .ref 21, .ref 22, .ref 23, .int 0]),
  (0, 0, 8, []),
  (0, 0, 8, []),
  (0, 0, 8, []),
  (0, 0, 8, []),
  (0, 0, 8, []),
  (0, 0, 8, []),
  (0, 0, 8, []),
  (0, 0, 8, []),
  (2, 2, 0, [.ref 25, .ref 26, .ref 27, .ref 28, .ref 29, .ref 30, .ref 31, .ref 32, .ref 33, .int 0, .int 0]),
  (0, 0, 61, []),
  (0, 0, 61, []),
  (0, 0, 61, []),
  (0, 1, 61, []),
  (0, 1, 61, []),
  (0, 0, 61, []),
  (0, 0, 61, []),
  (0, 0, 61, []),
  (0, 0, 61, []),
  (2, 1, 0, [.ref 1, .ref 15, .ref 24, .ref 35, .ref 36]),
  (0, 0, 14, []),
  (2, 7, 0, [.ref 37, .ref 38, .ref 39, .ref 40, .ref 41, .ref 42, .ref 43, .int 0, .int 0, .int 0]),
  (0, 0, 200, []),
  (0, 0, 200, []),
  (0, 0, 14, []),
  (0, 0, 14, []),
  (0, 0, 14, []),
  (0, 0, 14, []),
  (0, 0, 40, []),
  (2, 10, 0, [.ref 1, .ref 34, .ref 45, .ref 46, .ref 47, .ref 48, .ref 49, .ref 50, .ref 51, .int 0, .int 0]),
  (0, 0, 8, []),
  (0, 0, 8, []),
  (0, 0, 4, []),
  (0, 0, 4, []),
  (0, 0, 8, []),
  (0, 0, 48, []),
  (0, 0, 1008, []),
  (2, 9, 0, [.ref 53, .int 0]),
  (0, 0, 220, []),
  (2, 5, 0, [.null, .null, .int 0, .int 0, .int 0]),
  (2, 6, 0, [.ref 56, .ref 57, .ref 58, .ref 59, .ref 60, .ref 61, .ref 62, .int 0]),
  (0, 0, 8, []),
  (0, 0, 72, []),
  (0, 0, 8, []),
  (0, 0, 8, []),
  (0, 0, 8, []),
  (0, 0, 2304, []),
  (0, 0, 8, []),
  (2, 4, 0, [.ref 1, .ref 15, .ref 64, .ref 65, .ref 66, .ref 67, .int 0, .int 0]),
  (0, 0, 48, []),
  (0, 0, 5, []),
  (0, 0, 5, []),
  (0, 0, 5, []),
  (2, 8, 0, [.ref 69, .ref 70, .int 0, .int 0]),
  (0, 0, 24, []),
  (0, 0, 24, []),
  (2, 7, 0, [.ref 72, .ref 73, .ref 74, .ref 75, .ref 76, .ref 77, .ref 78, .int 0, .int 0, .int 0]),
  (0, 0, 200, []),
  (0, 0, 200, []),
  (0, 0, 14, []),
  (0, 0, 14, []),
  (0, 0, 14, []),
  (0, 0, 14, []),
  (0, 0, 40, [])]
/-- the heap behind CliffGarden(), its arrays' contents f (ints), g (longs) -/
def gC (f : Nat → Nat → Int32) (g : Nat → Nat → Int64) : pv_H := [.inr (11, [.ref 1, .ref 15, .ref 24, .ref 34, .ref 44, .ref 52, .ref 54, .ref 55, .ref 63, .ref 68, .ref 71, .int 1]),
  .inr (3, [.long 0, .ref 2, .ref 3, .ref 4, .ref 5, .ref 6, .ref 7, .ref 8, .ref 9, .ref 10, .ref 11, .ref 12, .ref 13, .ref 14]),
  .inl (0, 48, .inl (f 2)),
  .inl (0, 48, .inl (f 3)),
  .inl (0, 48, .inl (f 4)),
  .inl (0, 48, .inl (f 5)),
  .inl (0, 48, .inl (f 6)),
  .inl (0, 48, .inl (f 7)),
  .inl (0, 48, .inl (f 8)),
  .inl (0, 48, .inl (f 9)),
  .inl (1, 48, .inl (f 10)),
  .inl (0, 6, .inl (f 11)),
  .inl (0, 6, .inl (f 12)),
  .inl (0, 6, .inl (f 13)),
  .inl (0, 48, .inl (f 14)),
  .inr (0, [.ref 16, .ref 17, .ref 18, .ref 19, .ref 20, .ref 21, .ref 22, .ref 23, .int 0]),
  .inl (0, 8, .inl (f 16)),
  .inl (0, 8, .inl (f 17)),
  .inl (0, 8, .inl (f 18)),
  .inl (0, 8, .inl (f 19)),
  .inl (0, 8, .inl (f 20)),
  .inl (0, 8, .inl (f 21)),
  .inl (0, 8, .inl (f 22)),
  .inl (0, 8, .inl (f 23)),
  .inr (2, [.ref 25, .ref 26, .ref 27, .ref 28, .ref 29, .ref 30, .ref 31, .ref 32, .ref 33, .int 0, .int 0]),
  .inl (0, 61, .inl (f 25)),
  .inl (0, 61, .inl (f 26)),
  .inl (0, 61, .inl (f 27)),
  .inl (1, 61, .inl (f 28)),
  .inl (1, 61, .inl (f 29)),
  .inl (0, 61, .inl (f 30)),
  .inl (0, 61, .inl (f 31)),
  .inl (0, 61, .inl (f 32)),
  .inl (0, 61, .inl (f 33)),
  .inr (1, [.ref 1, .ref 15, .ref 24, .ref 35, .ref 36]),
  .inl (0, 14, .inl (f 35)),
  .inr (7, [.ref 37, .ref 38, .ref 39, .ref 40, .ref 41, .ref 42, .ref 43, .int 0, .int 0, .int 0]),
  .inl (0, 200, .inl (f 37)),
  .inl (0, 200, .inl (f 38)),
  .inl (0, 14, .inl (f 39)),
  .inl (0, 14, .inl (f 40)),
  .inl (0, 14, .inl (f 41)),
  .inl (0, 14, .inl (f 42)),
  .inl (0, 40, .inl (f 43)),
  .inr (10, [.ref 1, .ref 34, .ref 45, .ref 46, .ref 47, .ref 48, .ref 49, .ref 50, .ref 51, .int 0, .int 0]),
  .inl (0, 8, .inl (f 45)),
  .inl (0, 8, .inl (f 46)),
  .inl (0, 4, .inl (f 47)),
  .inl (0, 4, .inl (f 48)),
  .inl (0, 8, .inl (f 49)),
  .inl (0, 48, .inl (f 50)),
  .inl (0, 1008, .inl (f 51)),
  .inr (9, [.ref 53, .int 0]),
  .inl (0, 220, .inl (f 53)),
  .inr (5, [.null, .null, .int 0, .int 0, .int 0]),
  .inr (6, [.ref 56, .ref 57, .ref 58, .ref 59, .ref 60, .ref 61, .ref 62, .int 0]),
  .inl (0, 8, .inl (f 56)),
  .inl (0, 72, .inl (f 57)),
  .inl (0, 8, .inl (f 58)),
  .inl (0, 8, .inl (f 59)),
  .inl (0, 8, .inl (f 60)),
  .inl (0, 2304, .inl (f 61)),
  .inl (0, 8, .inl (f 62)),
  .inr (4, [.ref 1, .ref 15, .ref 64, .ref 65, .ref 66, .ref 67, .int 0, .int 0]),
  .inl (0, 48, .inl (f 64)),
  .inl (0, 5, .inl (f 65)),
  .inl (0, 5, .inl (f 66)),
  .inl (0, 5, .inl (f 67)),
  .inr (8, [.ref 69, .ref 70, .int 0, .int 0]),
  .inl (0, 24, .inl (f 69)),
  .inl (0, 24, .inl (f 70)),
  .inr (7, [.ref 72, .ref 73, .ref 74, .ref 75, .ref 76, .ref 77, .ref 78, .int 0, .int 0, .int 0]),
  .inl (0, 200, .inl (f 72)),
  .inl (0, 200, .inl (f 73)),
  .inl (0, 14, .inl (f 74)),
  .inl (0, 14, .inl (f 75)),
  .inl (0, 14, .inl (f 76)),
  .inl (0, 14, .inl (f 77)),
  .inl (0, 40, .inl (f 78))]
def vlC : List (Nat × Nat × Int32) := [(2, 48, 0), (3, 48, 0), (4, 48, 0), (5, 48, 0), (6, 48, (-1)), (7, 48, 0), (8, 48, 0), (9, 48, 0), (10, 48, 0), (11, 6, 1), (12, 6, 50), (13, 6, 1), (14, 48, 0), (16, 8, 0), (17, 8, 0), (18, 8, 9999), (19, 8, 0), (20, 8, 0), (21, 8, 0), (22, 8, 1), (23, 8, 0), (25, 61, 0), (26, 61, 0), (27, 61, 0), (28, 61, 0), (29, 61, 0), (30, 61, 0), (31, 61, 0), (32, 61, 0), (33, 61, 0), (35, 14, 0), (37, 200, 0), (38, 200, 0), (39, 14, 0), (40, 14, 0), (41, 14, 0), (42, 14, 0), (43, 40, 0), (45, 8, 0), (46, 8, 0), (47, 4, 0), (48, 4, 0), (49, 8, 0), (50, 48, 0), (51, 1008, 0), (53, 220, 0), (56, 8, 0), (57, 72, 0), (58, 8, 0), (59, 8, 0), (60, 8, 0), (61, 2304, 0), (62, 8, 0), (64, 48, 0), (65, 5, 0), (66, 5, 0), (67, 5, 0), (69, 24, 0), (70, 24, 0), (72, 200, 0), (73, 200, 0), (74, 14, 0), (75, 14, 0), (76, 14, 0), (77, 14, 0), (78, 40, 0)]
def nC : pv_H := match pv_run pv_prog 3000 12 94 [.ref 0] [.inr (11, pv_fresh 11)] with
  | some (_, h) => h
  | none => []
theorem nC_run : (match pv_run pv_prog 3000 12 94 [.ref 0] [.inr (11, pv_fresh 11)] with
  | some (none, _) => true
  | _ => false) = true := by decide +kernel
theorem nC_shape : nC.map fr_sh = shC := by decide +kernel
theorem nC_vals : (vlC.all fun t => (List.range t.2.1).all fun j => decide (fr_f nC t.1 j = t.2.2)) = true := by decide +kernel
theorem gC_eq (f : Nat → Nat → Int32) (g : Nat → Nat → Int64) : fr_re 0 shC f g = gC f g := rfl
/-- the fresh heap of CliffGarden: which contents its arrays may have -/
def FrC (f : Nat → Nat → Int32) : Prop := ∀ t ∈ vlC, ∀ j, j < t.2.1 → f t.1 j = t.2.2
theorem nC_new : ∃ f g, pv_run pv_prog 3000 12 94 [.ref 0] [.inr (11, pv_fresh 11)] = some (none, gC f g) ∧ FrC f := by
  refine ⟨fr_f nC, fr_g nC, ?_, ?_⟩
  · have h1 := nC_run
    have h2 : nC = gC (fr_f nC) (fr_g nC) := by rw [← gC_eq]; exact fr_re_eq nC_shape
    rw [← h2]
    unfold nC
    split at h1
    · next h hh => rw [hh]
    · cases h1
  · intro t ht j hj
    have h1 := List.all_eq_true.mp nC_vals t ht
    have h2 := List.all_eq_true.mp h1 j (List.mem_range.mpr hj)
    exact of_decide_eq_true h2
def shM : List (Nat × Nat × Nat × List Value) := [(2, 12, 0, [.int 0, .int 1, .int 0, .int 0, .ref 1, .ref 2, .ref 3, .ref 4, .ref 5, .ref 6, .ref 7, .ref 8, .ref 9, .ref 10, .ref 11, .ref 12, .ref 13, .ref 14, .ref 15, .ref 16, .ref 17, .ref 18, .ref 19, .ref 20, .ref 21, .ref 22, .int 0, .int 0, .int 0, .int 0, .int 0, .int 0, .int 0, .int 0, .int 0, .int 0, .ref 23, .ref 24, .ref 25, .ref 26, .ref 27, .ref 28, .ref 29, .ref 30, .ref 31, .ref 32, .ref 33, .ref 34, .ref 35, .ref 36, .ref 37, .ref 38, .ref 39, .ref 40, .ref 41, .ref 42, .ref 43, .ref 44, .ref 45, .ref 46, .ref 47, .ref 48, .ref 49, .int 0, .ref 50, .ref 51, .ref 52, .ref 53, .ref 54, .ref 55, .ref 56, .ref 57, .ref 58, .ref 59, .ref 60, .ref 61, .ref 62, .ref 63]),
  (0, 1, 48, []),
  (0, 1, 48, []),
  (0, 0, 48, []),
  (0, 0, 48, []),
  (0, 0, 48, []),
  (0, 0, 48, []),
  (0, 0, 48, []),
  (0, 0, 48, []),
  (0, 0, 48, []),
  (0, 0, 48, []),
  (0, 0, 6, []),
  (0, 0, 6, []),
  (0, 0, 6, []),
  (0, 0, 8, []),
  (0, 0, 8, []),
  (0, 0, 8, []),
  (0, 0, 8, []),
  (0, 0, 8, []),
  (0, 0, 8, []),
  (0, 0, 8, []),
  (0, 0, 8, []),
  (0, 2, 220, []),
  (0, 0, 220, []),
  (0, 0, 220, []),
  (0, 0, 14, []),
  (0, 0, 14, []),
  (0, 0, 14, []),
  (0, 0, 14, []),
  (0, 0, 220, []),
  (0, 0, 14, []),
  (0, 0, 14, []),
  (0, 0, 14, []),
  (0, 0, 14, []),
  (0, 0, 220, []),
  (0, 0, 14, []),
  (0, 0, 8, []),
  (0, 0, 8, []),
  (0, 0, 60, []),
  (0, 0, 60, []),
  (0, 0, 60, []),
  (0, 0, 60, []),
  (0, 0, 60, []),
  (0, 0, 60, []),
  (0, 0, 60, []),
  (0, 1, 60, []),
  (0, 1, 60, []),
  (0, 1, 48, []),
  (0, 0, 48, []),
  (0, 0, 48, []),
  (0, 0, 8, []),
  (0, 0, 8, []),
  (0, 0, 8, []),
  (0, 0, 2048, []),
  (1, 3, 8, []),
  (1, 3, 8, []),
  (1, 3, 8, []),
  (1, 3, 8, []),
  (0, 0, 48, []),
  (0, 0, 48, []),
  (0, 0, 4, []),
  (0, 0, 4, []),
  (0, 0, 4, []),
  (0, 0, 256, [])]
/-- the heap behind CliffGardenModel(), its arrays' contents f (ints), g (longs) -/
def gM (f : Nat → Nat → Int32) (g : Nat → Nat → Int64) : pv_H := [.inr (12, [.int 0, .int 1, .int 0, .int 0, .ref 1, .ref 2, .ref 3, .ref 4, .ref 5, .ref 6, .ref 7, .ref 8, .ref 9, .ref 10, .ref 11, .ref 12, .ref 13, .ref 14, .ref 15, .ref 16, .ref 17, .ref 18, .ref 19, .ref 20, .ref 21, .ref 22, .int 0, .int 0, .int 0, .int 0, .int 0, .int 0, .int 0, .int 0, .int 0, .int 0, .ref 23, .ref 24, .ref 25, .ref 26, .ref 27, .ref 28, .ref 29, .ref 30, .ref 31, .ref 32, .ref 33, .ref 34, .ref 35, .ref 36, .ref 37, .ref 38, .ref 39, .ref 40, .ref 41, .ref 42, .ref 43, .ref 44, .ref 45, .ref 46, .ref 47, .ref 48, .ref 49, .int 0, .ref 50, .ref 51, .ref 52, .ref 53, .ref 54, .ref 55, .ref 56, .ref 57, .ref 58, .ref 59, .ref 60, .ref 61, .ref 62, .ref 63]),
  .inl (1, 48, .inl (f 1)),
  .inl (1, 48, .inl (f 2)),
  .inl (0, 48, .inl (f 3)),
  .inl (0, 48, .inl (f 4)),
  .inl (0, 48, .inl (f 5)),
  .inl (0, 48, .inl (f 6)),
  .inl (0, 48, .inl (f 7)),
  .inl (0, 48, .inl (f 8)),
  .inl (0, 48, .inl (f 9)),
  .inl (0, 48, .inl (f 10)),
  .inl (0, 6, .inl (f 11)),
  .inl (0, 6, .inl (f 12)),
  .inl (0, 6, .inl (f 13)),
  .inl (0, 8, .inl (f 14)),
  .inl (0, 8, .inl (f 15)),
  .inl (0, 8, .inl (f 16)),
  .inl (0, 8, .inl (f 17)),
  .inl (0, 8, .inl (f 18)),
  .inl (0, 8, .inl (f 19)),
  .inl (0, 8, .inl (f 20)),
  .inl (0, 8, .inl (f 21)),
  .inl (2, 220, .inl (f 22)),
  .inl (0, 220, .inl (f 23)),
  .inl (0, 220, .inl (f 24)),
  .inl (0, 14, .inl (f 25)),
  .inl (0, 14, .inl (f 26)),
  .inl (0, 14, .inl (f 27)),
  .inl (0, 14, .inl (f 28)),
  .inl (0, 220, .inl (f 29)),
  .inl (0, 14, .inl (f 30)),
  .inl (0, 14, .inl (f 31)),
  .inl (0, 14, .inl (f 32)),
  .inl (0, 14, .inl (f 33)),
  .inl (0, 220, .inl (f 34)),
  .inl (0, 14, .inl (f 35)),
  .inl (0, 8, .inl (f 36)),
  .inl (0, 8, .inl (f 37)),
  .inl (0, 60, .inl (f 38)),
  .inl (0, 60, .inl (f 39)),
  .inl (0, 60, .inl (f 40)),
  .inl (0, 60, .inl (f 41)),
  .inl (0, 60, .inl (f 42)),
  .inl (0, 60, .inl (f 43)),
  .inl (0, 60, .inl (f 44)),
  .inl (1, 60, .inl (f 45)),
  .inl (1, 60, .inl (f 46)),
  .inl (1, 48, .inl (f 47)),
  .inl (0, 48, .inl (f 48)),
  .inl (0, 48, .inl (f 49)),
  .inl (0, 8, .inl (f 50)),
  .inl (0, 8, .inl (f 51)),
  .inl (0, 8, .inl (f 52)),
  .inl (0, 2048, .inl (f 53)),
  .inl (3, 8, .inr (.inl (g 54))),
  .inl (3, 8, .inr (.inl (g 55))),
  .inl (3, 8, .inr (.inl (g 56))),
  .inl (3, 8, .inr (.inl (g 57))),
  .inl (0, 48, .inl (f 58)),
  .inl (0, 48, .inl (f 59)),
  .inl (0, 4, .inl (f 60)),
  .inl (0, 4, .inl (f 61)),
  .inl (0, 4, .inl (f 62)),
  .inl (0, 256, .inl (f 63))]
def vlM : List (Nat × Nat × Int32) := [(1, 48, 0), (2, 48, 0), (3, 48, 0), (4, 48, 0), (5, 48, 0), (6, 48, 0), (7, 48, (-1)), (8, 48, 0), (9, 48, 0), (10, 48, 0), (11, 6, 1), (12, 6, 50), (13, 6, 1), (14, 8, 0), (15, 8, 0), (16, 8, 9999), (17, 8, 0), (18, 8, 0), (19, 8, 0), (20, 8, 0), (21, 8, 1), (22, 220, 0), (23, 220, 0), (24, 220, 0), (25, 14, 0), (26, 14, 0), (27, 14, 0), (28, 14, 0), (29, 220, 0), (30, 14, 0), (31, 14, 0), (32, 14, 0), (33, 14, 0), (34, 220, 0), (35, 14, 0), (36, 8, 0), (37, 8, 0), (38, 60, 0), (39, 60, 0), (40, 60, 0), (41, 60, 0), (42, 60, 0), (43, 60, 0), (44, 60, 0), (45, 60, 0), (46, 60, 0), (47, 48, 0), (48, 48, 0), (49, 48, 0), (50, 8, 0), (51, 8, 0), (52, 8, 0), (53, 2048, 0), (58, 48, 0), (59, 48, 0), (60, 4, 0), (61, 4, 0), (62, 4, 0), (63, 256, 0)]
def nM : pv_H := match pv_run pv_prog 3000 12 144 [.ref 0] [.inr (12, pv_fresh 12)] with
  | some (_, h) => h
  | none => []
theorem nM_run : (match pv_run pv_prog 3000 12 144 [.ref 0] [.inr (12, pv_fresh 12)] with
  | some (none, _) => true
  | _ => false) = true := by decide +kernel
theorem nM_shape : nM.map fr_sh = shM := by decide +kernel
theorem nM_vals : (vlM.all fun t => (List.range t.2.1).all fun j => decide (fr_f nM t.1 j = t.2.2)) = true := by decide +kernel
theorem gM_eq (f : Nat → Nat → Int32) (g : Nat → Nat → Int64) : fr_re 0 shM f g = gM f g := rfl
/-- the fresh heap of CliffGardenModel: which contents its arrays may have -/
def FrM (f : Nat → Nat → Int32) : Prop := ∀ t ∈ vlM, ∀ j, j < t.2.1 → f t.1 j = t.2.2
theorem nM_new : ∃ f g, pv_run pv_prog 3000 12 144 [.ref 0] [.inr (12, pv_fresh 12)] = some (none, gM f g) ∧ FrM f := by
  refine ⟨fr_f nM, fr_g nM, ?_, ?_⟩
  · have h1 := nM_run
    have h2 : nM = gM (fr_f nM) (fr_g nM) := by rw [← gM_eq]; exact fr_re_eq nM_shape
    rw [← h2]
    unfold nM
    split at h1
    · next h hh => rw [hh]
    · cases h1
  · intro t ht j hj
    have h1 := List.all_eq_true.mp nM_vals t ht
    have h2 := List.all_eq_true.mp h1 j (List.mem_range.mpr hj)
    exact of_decide_eq_true h2
