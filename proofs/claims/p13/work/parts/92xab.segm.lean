/-! WHAT A STEP COMES TO in the reference -/
theorem dec_q {o x : Int} (h : 0 ≤ o) (hx : 0 ≤ x ∧ x ≤ 999999) : qd (1048576 * o + x) 1048576 = o ∧ qm (1048576 * o + x) 1048576 = x := by
  rw [qd_nn (by omega), qm_nn (by omega)]
  constructor <;> omega
theorem opc_ne {g : Int} (hg : 2 ≤ opc g ∧ opc g ≤ 9) : (g ≠ 48 ∧ g ≠ 107 ∧ g ≠ 33 ∧ g ≠ 38 ∧ g ≠ 124) ∧ ((g = 47 ∨ g = 37) ↔ (opc g = 5 ∨ opc g = 6)) := by
  refine ⟨⟨fun q => ?_, fun q => ?_, fun q => ?_, fun q => ?_, fun q => ?_⟩, ?_⟩
  · rw [q] at hg; exact absurd hg (by decide)
  · rw [q] at hg; exact absurd hg (by decide)
  · rw [q] at hg; exact absurd hg (by decide)
  · rw [q] at hg; exact absurd hg (by decide)
  · rw [q] at hg; exact absurd hg (by decide)
  · unfold opc
    repeat' split
    all_goals omega
theorem opc_all {g : Int} (hg : 2 ≤ opc g ∧ opc g ≤ 9) : g = 43 ∨ g = 45 ∨ g = 42 ∨ g = 47 ∨ g = 37 ∨ g = 60 ∨ g = 62 ∨ g = 61 := by
  unfold opc at hg
  repeat' split at hg
  all_goals omega
theorem joined_is {g a b : Int} (hg : 2 ≤ opc g ∧ opc g ≤ 9) (hz : (g = 47 ∨ g = 37) → b ≠ 0) (B1 B2 : qA) : fC_joined g a b B1 = fM_reckon (opc g) a b B2 := by
  have e2 : opc 43 = 2 ∧ opc 45 = 3 ∧ opc 42 = 4 ∧ opc 47 = 5 ∧ opc 37 = 6 ∧ opc 60 = 7 ∧ opc 62 = 8 ∧ opc 61 = 9 := by decide
  obtain ⟨u1, u2, u3, u4, u5, u6, u7, u8⟩ := e2
  unfold fC_joined fM_reckon
  simp only [qlet]
  rcases opc_all hg with h | h | h | h | h | h | h | h
  · subst h; rw [u1]; simp
  · subst h; rw [u2]; simp
  · subst h; rw [u3]; simp
  · subst h; rw [u4]; simp [hz (Or.inl rfl)]
  · subst h; rw [u5]; simp [hz (Or.inr rfl)]
  · subst h; rw [u6]; simp
  · subst h; rw [u7]; simp
  · subst h; rw [u8]; simp
theorem reckon_bo {o : Int} (h7 : 7 ≤ o) (h9 : o ≤ 9) (a b : Int) (B : qA) : fM_reckon o a b B = 0 ∨ fM_reckon o a b B = 1 := by
  unfold fM_reckon
  simp only [qlet]
  repeat' split
  all_goals omega
theorem stM_num {t z x h : Int} {F : Nat} {B : qA} (hz : z < t) (z0 : 0 ≤ z) (ht : t ≤ 200) (hc : B 29 z = 1048576 * opc 48 + x) (hx : 0 ≤ x ∧ x ≤ 99999) (h0 : 0 ≤ h) (h1 : h < 100) : fM_comesTo_L (F + 1) 10 [t, h, 0, z] B = fM_comesTo_L F 10 [t, h + 1, 0, z + 1] (qu B 34 h x) := by
  have hd := dec_q (o := 0) (x := x) (by decide) (by omega)
  rw [show opc 48 = 0 from rfl] at hc
  rw [fM_comesTo_L10]
  unfold fM_comesTo_c10
  simp only [qlet]
  rw [qn20]
  rw [if_pos hz, hc, hd.1, hd.2, if_pos (show wI 0 = 0 from wI_id ⟨by decide, by decide⟩)]
  rw [show wI (h + 1) = h + 1 from wI_id ⟨by omega, by omega⟩, show wI (z + 1) = z + 1 from wI_id ⟨by omega, by omega⟩]
theorem stM_let {t z x h : Int} {F : Nat} {B : qA} (hz : z < t) (z0 : 0 ≤ z) (ht : t ≤ 200) (hc : B 29 z = 1048576 * opc 107 + x) (hx : 0 ≤ x ∧ x ≤ 13) (h0 : 0 ≤ h) (h1 : h < 100) : fM_comesTo_L (F + 1) 10 [t, h, 0, z] B = fM_comesTo_L F 10 [t, h + 1, 0, z + 1] (qu B 34 h (B 35 x)) := by
  have hd := dec_q (o := 1) (x := x) (by decide) (by omega)
  rw [show opc 107 = 1 from rfl] at hc
  rw [fM_comesTo_L10]
  unfold fM_comesTo_c10
  simp only [qlet]
  rw [qn20]
  rw [if_pos hz, hc, hd.1, hd.2, show wI 1 = 1 from wI_id ⟨by decide, by decide⟩, if_neg (show ¬ (1 : Int) = 0 by decide), if_pos rfl]
  rw [show wI (h + 1) = h + 1 from wI_id ⟨by omega, by omega⟩, show wI (z + 1) = z + 1 from wI_id ⟨by omega, by omega⟩]
theorem stM_not {t z h : Int} {F : Nat} {B : qA} (hz : z < t) (z0 : 0 ≤ z) (ht : t ≤ 200) (hc : B 29 z = 1048576 * opc 33 + 0) (h0 : 0 ≤ h) (h1 : h < 100) : fM_comesTo_L (F + 1) 10 [t, h + 1, 0, z] B = fM_comesTo_L F 10 [t, h + 1, 0, z + 1] (qu B 34 h (wI (1 - B 34 h))) := by
  have hd := dec_q (o := 10) (x := 0) (by decide) (by decide)
  rw [show opc 33 = 10 from rfl] at hc
  rw [fM_comesTo_L10]
  unfold fM_comesTo_c10
  simp only [qlet]
  rw [qn20]
  rw [if_pos hz, hc, hd.1, hd.2, show wI 10 = 10 from wI_id ⟨by decide, by decide⟩, if_neg (show ¬ (10 : Int) = 0 by decide), if_neg (show ¬ (10 : Int) = 1 by decide), if_pos rfl, show h + 1 - 1 = h by omega]
  rw [show wI (z + 1) = z + 1 from wI_id ⟨by omega, by omega⟩]
theorem stM_and {t z x h : Int} {F : Nat} {B : qA} (hz : z < t) (z0 : 0 ≤ z) (ht : t ≤ 200) (hc : B 29 z = 1048576 * opc 38 + x) (hx : z < x) (hx2 : x ≤ t) (h0 : 0 ≤ h) (h1 : h < 100) : fM_comesTo_L (F + 1) 10 [t, h + 1, 0, z] B = if B 34 h = 0 then fM_comesTo_L F 10 [t, h + 1, 0, x] B else fM_comesTo_L F 10 [t, h, 0, z + 1] B := by
  have hd := dec_q (o := 11) (x := x) (by decide) (by omega)
  rw [show opc 38 = 11 from rfl] at hc
  rw [fM_comesTo_L10]
  unfold fM_comesTo_c10
  simp only [qlet]
  rw [qn20]
  rw [if_pos hz, hc, hd.1, hd.2, show wI 11 = 11 from wI_id ⟨by decide, by decide⟩, if_neg (show ¬ (11 : Int) = 0 by decide), if_neg (show ¬ (11 : Int) = 1 by decide), if_neg (show ¬ (11 : Int) = 10 by decide), if_pos rfl, show h + 1 - 1 = h by omega]
  rw [show wI (0 + x) = x from by rw [Int.zero_add]; exact wI_id ⟨by omega, by omega⟩, show wI h = h from wI_id ⟨by omega, by omega⟩, show wI (z + 1) = z + 1 from wI_id ⟨by omega, by omega⟩]
theorem stM_or {t z x h : Int} {F : Nat} {B : qA} (hz : z < t) (z0 : 0 ≤ z) (ht : t ≤ 200) (hc : B 29 z = 1048576 * opc 124 + x) (hx : z < x) (hx2 : x ≤ t) (h0 : 0 ≤ h) (h1 : h < 100) : fM_comesTo_L (F + 1) 10 [t, h + 1, 0, z] B = if B 34 h = 1 then fM_comesTo_L F 10 [t, h + 1, 0, x] B else fM_comesTo_L F 10 [t, h, 0, z + 1] B := by
  have hd := dec_q (o := 12) (x := x) (by decide) (by omega)
  rw [show opc 124 = 12 from rfl] at hc
  rw [fM_comesTo_L10]
  unfold fM_comesTo_c10
  simp only [qlet]
  rw [qn20]
  rw [if_pos hz, hc, hd.1, hd.2, show wI 12 = 12 from wI_id ⟨by decide, by decide⟩, if_neg (show ¬ (12 : Int) = 0 by decide), if_neg (show ¬ (12 : Int) = 1 by decide), if_neg (show ¬ (12 : Int) = 10 by decide), if_neg (show ¬ (12 : Int) = 11 by decide), if_pos rfl, show h + 1 - 1 = h by omega]
  rw [show wI (0 + x) = x from by rw [Int.zero_add]; exact wI_id ⟨by omega, by omega⟩, show wI h = h from wI_id ⟨by omega, by omega⟩, show wI (z + 1) = z + 1 from wI_id ⟨by omega, by omega⟩]
theorem stM_bin {t z g h : Int} {F : Nat} {B : qA} (hz : z < t) (z0 : 0 ≤ z) (ht : t ≤ 200) (hc : B 29 z = 1048576 * opc g) (hg : 2 ≤ opc g ∧ opc g ≤ 9) (h0 : 0 ≤ h) (h1 : h < 100) : fM_comesTo_L (F + 1) 10 [t, h + 2, 0, z] B = if B 34 (h + 1) = 0 ∧ (opc g = 5 ∨ opc g = 6) then (0, B) else fM_comesTo_L F 10 [t, h + 1, 0, z + 1] (qu B 34 h (fM_reckon (opc g) (B 34 h) (B 34 (h + 1)) B)) := by
  have hd := dec_q (o := opc g) (x := 0) (by omega) (by decide)
  rw [Int.add_zero] at hd
  rw [fM_comesTo_L10]
  unfold fM_comesTo_c10
  simp only [qlet]
  rw [qn20]
  rw [if_pos hz, hc, hd.1, hd.2, show wI (opc g) = opc g from wI_id ⟨by omega, by omega⟩, if_neg (show ¬ opc g = 0 by omega), if_neg (show ¬ opc g = 1 by omega), if_neg (show ¬ opc g = 10 by omega), if_neg (show ¬ opc g = 11 by omega), if_neg (show ¬ opc g = 12 by omega), show h + 2 - 1 = h + 1 by omega, show h + 1 - 1 = h by omega]
  rw [show wI (h + 1) = h + 1 from wI_id ⟨by omega, by omega⟩, show wI (z + 1) = z + 1 from wI_id ⟨by omega, by omega⟩]
  by_cases h5 : opc g = 5
  · rw [if_pos h5]
    by_cases hb : B 34 (h + 1) = 0
    · rw [if_pos hb, if_pos ⟨hb, Or.inl h5⟩]
    · rw [if_neg hb, if_neg (fun q => hb q.1)]
  · rw [if_neg h5]
    by_cases h6 : opc g = 6
    · rw [if_pos h6]
      by_cases hb : B 34 (h + 1) = 0
      · rw [if_pos hb, if_pos ⟨hb, Or.inr h6⟩]
      · rw [if_neg hb, if_neg (fun q => hb q.1)]
    · rw [if_neg h6, if_neg (fun q => by omega)]
theorem stM_end {t h : Int} {F : Nat} {B : qA} : fM_comesTo_L (F + 1) 10 [t, h, 0, t] B = (B 34 0, B) := by
  rw [fM_comesTo_L10]
  unfold fM_comesTo_c10
  simp only [qlet]
  rw [if_neg (show ¬ t < t by omega)]
theorem txLen_le : ∀ (T : List pX) (z : Int), z ≤ txLen z T
  | [], z => Int.le_refl _
  | x :: T, z => by
    have := txLen_le T (z + x.2.1.length + x.2.2.length)
    show z ≤ txLen (z + x.2.1.length + x.2.2.length) T
    omega
