/-! A CROP FALLS: alike -/
/-- a row of the falls holds what falls from the reference's cell c -/
def rowOf (A1 A2 : qA) (row c : Int) : Prop := A1 25 row = c ∧ A1 26 row = A2 7 c ∧ A1 27 row = A2 8 c ∧ A1 28 row = fM_isRipe c A2 ∧ A1 29 row = A2 2 c
/-- what is seen of a cell k, of what falls from c -/
theorem seen_is {A1 A2 : qA} {row c k v : Int} (hr : rowOf A1 A2 row c) (h : RN A1 A2 k) (hb : RB A1 A2) (k0 : 0 ≤ k) (k1 : k < 48) (hh : A2 1 k ≠ 0) : ∀ i, 0 ≤ i → i ≤ 13 → (qu (fC_seeFallen row (fC_seeCell k A1)) 35 12 v) 35 i = (fM_feelsCrop (A2 7 c) (A2 8 c) (fM_isRipe c A2) (A2 2 c) (fM_feelsCell k v 0 A2)) 35 i := by
  intro i i0 i1
  obtain ⟨r1, r2, r3, r4, r5⟩ := hr
  obtain ⟨⟨g2, g3, g4, g5⟩, ⟨g8, g9⟩⟩ := h.2 hh
  have f1 := fr_seeCell k A1
  have s1 := seeC_is k0 A1 i i0 i1
  have s2 := feelC_is (f := v) (w := 0) k0 A2 i i0 i1
  simp only [hh, if_false] at s2
  have s3 := seeFallen_is row (fC_seeCell k A1) i i0 i1
  have s4 := feelsCrop_is (A2 7 c) (A2 8 c) (fM_isRipe c A2) (A2 2 c) (fM_feelsCell k v 0 A2) i i0 i1
  rw [frm_a f1 (r := 26) rfl, frm_a f1 (r := 27) rfl, frm_a f1 (r := 28) rfl, frm_a f1 (r := 29) rfl, r2, r3, r4, r5, s1] at s3
  rw [s2] at s4
  have hx := hb.2.1 (k / 6) (by omega) (by omega)
  have hd := hb.2.2.1
  rw [s4, qu_is]
  by_cases h12 : i = 12
  · rw [if_pos ⟨rfl, h12⟩, h12]
    simp
  · rw [if_neg (fun q => h12 q.2), s3]
    have hi : i = 0 ∨ i = 1 ∨ i = 2 ∨ i = 3 ∨ i = 4 ∨ i = 5 ∨ i = 6 ∨ i = 7 ∨ i = 8 ∨ i = 9 ∨ i = 10 ∨ i = 11 ∨ i = 13 := by omega
    rcases hi with rfl | rfl | rfl | rfl | rfl | rfl | rfl | rfl | rfl | rfl | rfl | rfl | rfl <;> simp [g2, g3, g4, g9, hx.1.2.1, hd]
/-- what is seen of a cell and of what falls from it into the kitchen -/
theorem seenK_is {A1 A2 : qA} {row c : Int} (hr : rowOf A1 A2 row c) (h : RN A1 A2 c) (hb : RB A1 A2) (c0 : 0 ≤ c) (c1 : c < 48) (hh : A2 1 c ≠ 0) (hk : A2 7 c ≠ -1) (h30 : A1 30 row = 6) : ∀ i, 0 ≤ i → i ≤ 13 → (fC_seeFall row A1) 35 i = (qu (fM_feels c A2) 35 12 (6 - c % 6)) 35 i := by
  intro i i0 i1
  have s := seen_is (v := 6 - c % 6) hr h hb c0 c1 hh i i0 i1
  have e1 : fC_seeFall row A1 = qu (fC_seeFallen row (fC_seeCell c A1)) 35 12 (6 - c % 6) := by
    unfold fC_seeFall
    simp only [qlet]
    have f1 := fr_seeCell c A1
    rw [hr.1]
    have f2 := fr_seeFallen row (fC_seeCell c A1)
    rw [frm_a f2 (r := 30) rfl, frm_a f1 (r := 30) rfl, h30, qm_nn c0]
  rw [e1, s, qu_is]
  have f3 := fr_feelsCell c 0 0 A2
  have e2 : fM_feels c A2 = fM_feelsCrop (A2 7 c) (A2 8 c) (fM_isRipe c A2) (A2 2 c) (fM_feelsCell c 0 0 A2) := by
    unfold fM_feels
    simp only [qlet]
    rw [frm_a f3 (r := 7) rfl, frm_a f3 (r := 8) rfl, frm_a f3 (r := 2) rfl, if_neg hk, ripeM_k c (frm_a f3 rfl) (frm_a f3 rfl) (frm_a f3 rfl)]
  have s3 := feelsCrop_is (A2 7 c) (A2 8 c) (fM_isRipe c A2) (A2 2 c) (fM_feelsCell c (6 - c % 6) 0 A2) i i0 i1
  have s4 := feelsCrop_is (A2 7 c) (A2 8 c) (fM_isRipe c A2) (A2 2 c) (fM_feelsCell c 0 0 A2) i i0 i1
  have s5 := feelC_is (f := 6 - c % 6) (w := 0) c0 A2 i i0 i1
  have s6 := feelC_is (f := 0) (w := 0) c0 A2 i i0 i1
  rw [s5] at s3
  rw [s6] at s4
  by_cases h12 : i = 12
  · rw [if_pos ⟨rfl, h12⟩, s3, h12]
    simp
  · rw [if_neg (fun q => h12 q.2), e2, s3, s4]
    simp only [h12, if_false]
def cIf (x : Int) : Int := if x = -1 then 6 else x % 6
