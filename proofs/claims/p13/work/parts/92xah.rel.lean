/-! THE TWO GARDENS ALIKE: what stays when other places are written -/
def okFr (AL : List Nat) (FL : List (Nat × Nat)) (W : List Nat) (V : List (Nat × Nat)) : Bool := AL.all (fun r => noW r W && noV r V) && FL.all (fun x => noW x.1 W && noVf x.1 x.2 V)
theorem okFr_a {AL : List Nat} {FL : List (Nat × Nat)} {W : List Nat} {V : List (Nat × Nat)} {A B : qA} (f : frm W V A B) (c : okFr AL FL W V = true) : (∀ r ∈ AL, B r = A r) ∧ (∀ x ∈ FL, B x.1 (fd x.2) = A x.1 (fd x.2)) := by
  unfold okFr at c
  rw [Bool.and_eq_true, List.all_eq_true, List.all_eq_true] at c
  exact ⟨fun r hr => frm_a f (c.1 r hr), fun x hx => frm_f f (c.2 x hx)⟩
def aC1 : List Nat := [2, 3, 4, 5, 6, 7, 8, 9, 10]
def aM1 : List Nat := [1, 2, 3, 4, 5, 6, 7, 8, 9, 10]
def aC2 : List Nat := [11, 12, 13, 16, 17, 18, 19, 20, 21, 22]
def aM2 : List Nat := [11, 12, 13, 14, 15, 16, 17, 18, 20, 21]
def aC3 : List Nat := [25, 26, 27, 28, 29, 30, 33]
def aM3 : List Nat := [38, 39, 40, 41, 43, 45, 46]
def aC4 : List Nat := [37, 38, 39, 40, 41, 42, 72, 73, 74, 75, 76, 77]
def aM4 : List Nat := [29, 30, 31, 32, 33]
theorem RC_f {A1 A2 B1 B2 : qA} {W1 W2 : List Nat} {V1 V2 : List (Nat × Nat)} (h : RC A1 A2) (f1 : frm W1 V1 A1 B1) (f2 : frm W2 V2 A2 B2) (c1 : okFr aC1 [(1, 0)] W1 V1 = true) (c2 : okFr aM1 [] W2 V2 = true) : RC B1 B2 := by
  obtain ⟨a, b⟩ := okFr_a f1 c1
  obtain ⟨c, _⟩ := okFr_a f2 c2
  exact RC_fr h (b (1, 0) (by decide)) ⟨a 2 (by decide), a 3 (by decide), a 4 (by decide), a 5 (by decide), a 6 (by decide), a 7 (by decide), a 8 (by decide), a 9 (by decide), a 10 (by decide)⟩ ⟨c 1 (by decide), c 2 (by decide), c 3 (by decide), c 4 (by decide), c 5 (by decide), c 6 (by decide), c 7 (by decide), c 8 (by decide), c 9 (by decide), c 10 (by decide)⟩
theorem RB_f {A1 A2 B1 B2 : qA} {W1 W2 : List Nat} {V1 V2 : List (Nat × Nat)} (h : RB A1 A2) (f1 : frm W1 V1 A1 B1) (f2 : frm W2 V2 A2 B2) (c1 : okFr aC2 [(15, 8), (0, 11)] W1 V1 = true) (c2 : okFr aM2 [(0, 0), (0, 1)] W2 V2 = true) : RB B1 B2 := by
  obtain ⟨a, b⟩ := okFr_a f1 c1
  obtain ⟨c, d⟩ := okFr_a f2 c2
  have b1 := b (15, 8) (by decide)
  have b2 := b (0, 11) (by decide)
  have d1 := d (0, 0) (by decide)
  have d2 := d (0, 1) (by decide)
  unfold RB at h ⊢
  rw [a 11 (by decide), a 12 (by decide), a 13 (by decide), a 16 (by decide), a 17 (by decide), a 18 (by decide), a 19 (by decide), a 20 (by decide), a 21 (by decide), a 22 (by decide), c 11 (by decide), c 12 (by decide), c 13 (by decide), c 14 (by decide), c 15 (by decide), c 16 (by decide), c 17 (by decide), c 18 (by decide), c 20 (by decide), c 21 (by decide), b1, b2, d1, d2]
  exact h
theorem RF_f {A1 A2 B1 B2 : qA} {W1 W2 : List Nat} {V1 V2 : List (Nat × Nat)} (h : RF A1 A2) (f1 : frm W1 V1 A1 B1) (f2 : frm W2 V2 A2 B2) (c1 : okFr aC3 [(24, 9)] W1 V1 = true) (c2 : okFr aM3 [(0, 2)] W2 V2 = true) : RF B1 B2 := by
  obtain ⟨a, b⟩ := okFr_a f1 c1
  obtain ⟨c, d⟩ := okFr_a f2 c2
  have b1 := b (24, 9) (by decide)
  have d1 := d (0, 2) (by decide)
  unfold RF at h ⊢
  rw [a 25 (by decide), a 26 (by decide), a 27 (by decide), a 28 (by decide), a 29 (by decide), a 30 (by decide), a 33 (by decide), c 38 (by decide), c 39 (by decide), c 40 (by decide), c 41 (by decide), c 43 (by decide), c 45 (by decide), c 46 (by decide), b1, d1]
  exact h
theorem RL36_f {A1 A2 B1 B2 : qA} {W1 W2 : List Nat} {V1 V2 : List (Nat × Nat)} (h : RL36 A1 A2) (f1 : frm W1 V1 A1 B1) (f2 : frm W2 V2 A2 B2) (c1 : okFr [37, 38, 39, 40, 41, 42] [(36, 7)] W1 V1 = true) (c2 : okFr aM4 [(0, 35)] W2 V2 = true) : RL36 B1 B2 := by
  obtain ⟨a, b⟩ := okFr_a f1 c1
  obtain ⟨c, d⟩ := okFr_a f2 c2
  have b2 := b (36, 7) (by decide)
  have d1 := d (0, 35) (by decide)
  unfold RL36 txC36 txM at h ⊢
  rw [a 37 (by decide), a 38 (by decide), a 39 (by decide), a 40 (by decide), a 41 (by decide), a 42 (by decide), c 29 (by decide), c 30 (by decide), c 31 (by decide), c 32 (by decide), c 33 (by decide), b2, d1]
  exact h
theorem RL71_f {A1 A2 B1 B2 : qA} {W1 W2 : List Nat} {V1 V2 : List (Nat × Nat)} (h : RL71 A1 A2) (f1 : frm W1 V1 A1 B1) (f2 : frm W2 V2 A2 B2) (c1 : okFr [72, 73, 74, 75, 76, 77] [(71, 7)] W1 V1 = true) (c2 : okFr aM4 [(0, 35)] W2 V2 = true) : RL71 B1 B2 := by
  obtain ⟨a, b⟩ := okFr_a f1 c1
  obtain ⟨c, d⟩ := okFr_a f2 c2
  have b2 := b (71, 7) (by decide)
  have d1 := d (0, 35) (by decide)
  unfold RL71 txC71 txM at h ⊢
  rw [a 72 (by decide), a 73 (by decide), a 74 (by decide), a 75 (by decide), a 76 (by decide), a 77 (by decide), c 29 (by decide), c 30 (by decide), c 31 (by decide), c 32 (by decide), c 33 (by decide), b2, d1]
  exact h
def RL (A1 A2 : qA) : Prop := (A1 34 (fd 4) = 36 ∧ RL36 A1 A2) ∨ (A1 34 (fd 4) = 71 ∧ RL71 A1 A2)
theorem RL_f {A1 A2 B1 B2 : qA} {W1 W2 : List Nat} {V1 V2 : List (Nat × Nat)} (h : RL A1 A2) (f1 : frm W1 V1 A1 B1) (f2 : frm W2 V2 A2 B2) (c1 : okFr aC4 [(34, 4), (36, 7), (71, 7)] W1 V1 = true) (c2 : okFr aM4 [(0, 35)] W2 V2 = true) : RL B1 B2 := by
  obtain ⟨a, b⟩ := okFr_a f1 c1
  obtain ⟨c, d⟩ := okFr_a f2 c2
  have b1 := b (34, 4) (by decide)
  have b2 := b (36, 7) (by decide)
  have b3 := b (71, 7) (by decide)
  have d1 := d (0, 35) (by decide)
  unfold RL RL36 RL71 txC36 txC71 txM at h ⊢
  rw [a 37 (by decide), a 38 (by decide), a 39 (by decide), a 40 (by decide), a 41 (by decide), a 42 (by decide), a 72 (by decide), a 73 (by decide), a 74 (by decide), a 75 (by decide), a 76 (by decide), a 77 (by decide), c 29 (by decide), c 30 (by decide), c 31 (by decide), c 32 (by decide), c 33 (by decide), b1, b2, b3, d1]
  exact h
theorem RT_f {A1 A2 B1 B2 : qA} {W1 W2 : List Nat} {V1 V2 : List (Nat × Nat)} (h : RT A1 A2) (f1 : frm W1 V1 A1 B1) (f2 : frm W2 V2 A2 B2) (c1 : okFr [53] [(52, 1)] W1 V1 = true) (c2 : okFr [22] [(0, 26)] W2 V2 = true) : RT B1 B2 := by
  obtain ⟨a, b⟩ := okFr_a f1 c1
  obtain ⟨c, d⟩ := okFr_a f2 c2
  exact RT_k h (b (52, 1) (by decide)) (a 53 (by decide)) (d (0, 26) (by decide)) (c 22 (by decide))
def RG (A1 A2 : qA) : Prop := RC A1 A2 ∧ RB A1 A2 ∧ RF A1 A2 ∧ RL A1 A2 ∧ RT A1 A2
theorem RG_f {A1 A2 B1 B2 : qA} {W1 W2 : List Nat} {V1 V2 : List (Nat × Nat)} (h : RG A1 A2) (f1 : frm W1 V1 A1 B1) (f2 : frm W2 V2 A2 B2) (c1 : (okFr aC1 [(1, 0)] W1 V1 && (okFr aC2 [(15, 8), (0, 11)] W1 V1 && (okFr aC3 [(24, 9)] W1 V1 && (okFr aC4 [(34, 4), (36, 7), (71, 7)] W1 V1 && okFr [53] [(52, 1)] W1 V1)))) = true) (c2 : (okFr aM1 [] W2 V2 && (okFr aM2 [(0, 0), (0, 1)] W2 V2 && (okFr aM3 [(0, 2)] W2 V2 && (okFr aM4 [(0, 35)] W2 V2 && okFr [22] [(0, 26)] W2 V2)))) = true) : RG B1 B2 := by
  simp only [Bool.and_eq_true] at c1 c2
  exact ⟨RC_f h.1 f1 f2 c1.1 c2.1, RB_f h.2.1 f1 f2 c1.2.1 c2.2.1, RF_f h.2.2.1 f1 f2 c1.2.2.1 c2.2.2.1, RL_f h.2.2.2.1 f1 f2 c1.2.2.2.1 c2.2.2.2.1, RT_f h.2.2.2.2 f1 f2 c1.2.2.2.2 c2.2.2.2.2⟩
