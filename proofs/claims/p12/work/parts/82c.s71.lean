/-! WHAT THE STEPS COME TO: class beside reference -/
def Env71 (C1 C2 B1 B2 : qA) : Prop := frm [78] [(71, 9)] C1 B1 ∧ frm [34] [] C2 B2
def Sim71 (C1 C2 B1 B2 : qA) (h : Int) : Prop := Env71 C1 C2 B1 B2 ∧ B1 71 (fd 9) = h ∧ ∀ i, 0 ≤ i → i < h → B1 78 i = B2 34 i
def Seg71 (C1 C2 : qA) (t z z' h : Int) (bo : Bool) : Prop := ∀ (Q : Int × qA → Int × qA → Prop) (F1 F2 : Nat) (B1 B2 : qA), t - z < F1 → t - z < F2 → Sim71 C1 C2 B1 B2 h → (∀ B1' B2', Env71 C1 C2 B1' B2' → Q (0, B1') (0, B2')) → (∀ (F1' F2' : Nat) (B1' B2' : qA), t - z' < F1' → t - z' < F2' → Sim71 C1 C2 B1' B2' (h + 1) → (bo = true → (B1' 78 h = 0 ∨ B1' 78 h = 1)) → Q (fC_reckon71_L F1' 5 [t, z'] B1') (fM_comesTo_L F2' 10 [t, h + 1, 0, z'] B2')) → Q (fC_reckon71_L F1 5 [t, z] B1) (fM_comesTo_L F2 10 [t, h, 0, z] B2)
/-- the same step in both codes -/
def cd71 (C1 C2 : qA) (z g x : Int) : Prop := C1 72 z = g ∧ C1 73 z = x ∧ C2 29 z = 1048576 * opc g + x
theorem cd71_e {C1 C2 B1 B2 : qA} {z g x : Int} (h : cd71 C1 C2 z g x) (e : Env71 C1 C2 B1 B2) : cd71 B1 B2 z g x := by
  unfold cd71 at h ⊢
  rw [frm_a e.1 (r := 72) rfl, frm_a e.1 (r := 73) rfl, frm_a e.2 (r := 29) rfl]
  exact h
theorem push71 {C1 C2 B1 B2 : qA} {h v : Int} (hS : Sim71 C1 C2 B1 B2 h) (h0 : 0 ≤ h) : Sim71 C1 C2 (qu (qu B1 78 h v) 71 (fd 9) (h + 1)) (qu B2 34 h v) (h + 1) := by
  obtain ⟨⟨a, b⟩, c, d⟩ := hS
  refine ⟨⟨frm_sf (frm_s a rfl rfl) rfl rfl, frm_s b rfl rfl⟩, qu_at _ _ _ _, fun i i0 i1 => ?_⟩
  by_cases hi : i = h
  · simp [qu_is, hi]
  · have := d i i0 (by omega)
    simp [qu_is, hi, this]
theorem stC_num71 {t z x h : Int} {F : Nat} {B : qA} (hz : z < t) (z0 : 0 ≤ z) (ht : t ≤ 200) (c1 : B 72 z = 48) (c2 : B 73 z = x) (hh : B 71 (fd 9) = h) (h0 : 0 ≤ h) (h1 : h < 40) : fC_reckon71_L (F + 1) 5 [t, z] B = fC_reckon71_L F 5 [t, z + 1] (qu (qu B 78 h x) 71 (fd 9) (h + 1)) := by
  rw [fC_reckon71_L5]
  unfold fC_reckon71_c5
  simp only [qlet]
  rw [if_pos hz, c1, if_pos rfl, hh, if_pos h1, c2]
  rw [show wI (h + 1) = h + 1 from wI_id ⟨by omega, by omega⟩, show wI (z + 1) = z + 1 from wI_id ⟨by omega, by omega⟩]
theorem stC_let71 {t z x h : Int} {F : Nat} {B : qA} (hz : z < t) (z0 : 0 ≤ z) (ht : t ≤ 200) (c1 : B 72 z = 107) (c2 : B 73 z = x) (hh : B 71 (fd 9) = h) (h0 : 0 ≤ h) (h1 : h < 40) : fC_reckon71_L (F + 1) 5 [t, z] B = fC_reckon71_L F 5 [t, z + 1] (qu (qu B 78 h (B 35 x)) 71 (fd 9) (h + 1)) := by
  rw [fC_reckon71_L5]
  unfold fC_reckon71_c5
  simp only [qlet]
  rw [if_pos hz, c1, if_neg (show ¬ (107 : Int) = 48 by decide), if_pos rfl, hh, if_pos h1, c2]
  rw [show wI (h + 1) = h + 1 from wI_id ⟨by omega, by omega⟩, show wI (z + 1) = z + 1 from wI_id ⟨by omega, by omega⟩]
theorem stC_not71 {t z h : Int} {F : Nat} {B : qA} (hz : z < t) (z0 : 0 ≤ z) (ht : t ≤ 200) (c1 : B 72 z = 33) (hh : B 71 (fd 9) = h + 1) (h0 : 0 ≤ h) : fC_reckon71_L (F + 1) 5 [t, z] B = fC_reckon71_L F 5 [t, z + 1] (qu B 78 h (wI (1 - B 78 h))) := by
  rw [fC_reckon71_L5]
  unfold fC_reckon71_c5
  simp only [qlet]
  rw [if_pos hz, c1, if_neg (show ¬ (33 : Int) = 48 by decide), if_neg (show ¬ (33 : Int) = 107 by decide), hh, if_neg (show ¬ h + 1 < 1 by omega), if_pos rfl, show h + 1 - 1 = h by omega]
  rw [show wI (z + 1) = z + 1 from wI_id ⟨by omega, by omega⟩]
theorem stC_and71 {t z x h : Int} {F : Nat} {B : qA} (hz : z < t) (z0 : 0 ≤ z) (ht : t ≤ 200) (c1 : B 72 z = 38) (c2 : B 73 z = x) (hx : z < x) (hx2 : x ≤ t) (hh : B 71 (fd 9) = h + 1) (h0 : 0 ≤ h) (h1 : h < 100) : fC_reckon71_L (F + 1) 5 [t, z] B = if B 78 h = 0 then fC_reckon71_L F 5 [t, x] B else fC_reckon71_L F 5 [t, z + 1] (qu B 71 (fd 9) h) := by
  rw [fC_reckon71_L5]
  unfold fC_reckon71_c5
  simp only [qlet]
  rw [if_pos hz, c1, if_neg (show ¬ (38 : Int) = 48 by decide), if_neg (show ¬ (38 : Int) = 107 by decide), hh, if_neg (show ¬ h + 1 < 1 by omega), if_neg (show ¬ (38 : Int) = 33 by decide), if_pos rfl, show h + 1 - 1 = h by omega, c2]
  rw [show wI (z + 1) = z + 1 from wI_id ⟨by omega, by omega⟩, show wI h = h from wI_id ⟨by omega, by omega⟩, show wI (x - 1) = x - 1 from wI_id ⟨by omega, by omega⟩, show max z (x - 1) + 1 = x by omega, show wI x = x from wI_id ⟨by omega, by omega⟩]
theorem stC_or71 {t z x h : Int} {F : Nat} {B : qA} (hz : z < t) (z0 : 0 ≤ z) (ht : t ≤ 200) (c1 : B 72 z = 124) (c2 : B 73 z = x) (hx : z < x) (hx2 : x ≤ t) (hh : B 71 (fd 9) = h + 1) (h0 : 0 ≤ h) (h1 : h < 100) : fC_reckon71_L (F + 1) 5 [t, z] B = if B 78 h = 0 then fC_reckon71_L F 5 [t, z + 1] (qu B 71 (fd 9) h) else fC_reckon71_L F 5 [t, x] B := by
  rw [fC_reckon71_L5]
  unfold fC_reckon71_c5
  simp only [qlet]
  rw [if_pos hz, c1, if_neg (show ¬ (124 : Int) = 48 by decide), if_neg (show ¬ (124 : Int) = 107 by decide), hh, if_neg (show ¬ h + 1 < 1 by omega), if_neg (show ¬ (124 : Int) = 33 by decide), if_neg (show ¬ (124 : Int) = 38 by decide), if_pos rfl, show h + 1 - 1 = h by omega, c2]
  rw [show wI (z + 1) = z + 1 from wI_id ⟨by omega, by omega⟩, show wI h = h from wI_id ⟨by omega, by omega⟩, show wI (x - 1) = x - 1 from wI_id ⟨by omega, by omega⟩, show max z (x - 1) + 1 = x by omega, show wI x = x from wI_id ⟨by omega, by omega⟩]
theorem stC_bin71 {t z g h : Int} {F : Nat} {B : qA} (hz : z < t) (z0 : 0 ≤ z) (ht : t ≤ 200) (c1 : B 72 z = g) (hg : g ≠ 48 ∧ g ≠ 107 ∧ g ≠ 33 ∧ g ≠ 38 ∧ g ≠ 124) (hh : B 71 (fd 9) = h + 2) (h0 : 0 ≤ h) (h1 : h < 100) : fC_reckon71_L (F + 1) 5 [t, z] B = if B 78 (h + 1) = 0 ∧ (g = 47 ∨ g = 37) then (0, B) else fC_reckon71_L F 5 [t, z + 1] (qu (qu B 71 (fd 9) (h + 1)) 78 h (fC_joined g (B 78 h) (B 78 (h + 1)) B)) := by
  rw [fC_reckon71_L5]
  unfold fC_reckon71_c5
  simp only [qlet]
  rw [if_pos hz, c1, if_neg hg.1, if_neg hg.2.1, hh, if_neg (show ¬ h + 2 < 1 by omega), if_neg hg.2.2.1, if_neg hg.2.2.2.1, if_neg hg.2.2.2.2, if_neg (show ¬ h + 2 < 2 by omega), show h + 2 - 1 = h + 1 by omega]
  rw [show wI (z + 1) = z + 1 from wI_id ⟨by omega, by omega⟩, show wI (h + 1) = h + 1 from wI_id ⟨by omega, by omega⟩, show h + 1 - 1 = h by omega]
  have e1 : (qu B 71 (fd 9) (h + 1)) 78 = B 78 := by funext i; simp [qu_is]
  rw [e1]
  have e2 : ∀ a b, fC_joined g a b (qu B 71 (fd 9) (h + 1)) = fC_joined g a b B := fun _ _ => rfl
  rw [e2]
  by_cases h2 : B 78 (h + 1) = 0
  · rw [if_pos h2]
    by_cases h3 : g = 47
    · rw [if_pos h3, if_pos ⟨h2, Or.inl h3⟩]
    · rw [if_neg h3]
      by_cases h4 : g = 37
      · rw [if_pos h4, if_pos ⟨h2, Or.inr h4⟩]
      · rw [if_neg h4, if_neg (fun q => by omega)]
  · rw [if_neg h2, if_neg (fun q => h2 q.1)]
theorem stC_end71 {t h : Int} {F : Nat} {B : qA} (hh : B 71 (fd 9) = h) (h0 : 0 < h) : fC_reckon71_L (F + 1) 5 [t, t] B = (B 78 0, B) := by
  rw [fC_reckon71_L5]
  unfold fC_reckon71_c5
  simp only [qlet]
  rw [if_neg (show ¬ t < t by omega), hh, if_pos h0]
theorem seg_num71 {C1 C2 : qA} {t z x h : Int} (hz : z < t) (z0 : 0 ≤ z) (ht : t ≤ 200) (hc : cd71 C1 C2 z 48 x) (hx : 0 ≤ x ∧ x ≤ 99999) (h0 : 0 ≤ h) (h1 : h < 40) : Seg71 C1 C2 t z (z + 1) h false := by
  intro Q F1 F2 B1 B2 f1 f2 hS hR hK
  obtain ⟨F1, rfl⟩ : ∃ F', F1 = F' + 1 := ⟨F1 - 1, by omega⟩
  obtain ⟨F2, rfl⟩ : ∃ F', F2 = F' + 1 := ⟨F2 - 1, by omega⟩
  have hc := cd71_e hc hS.1
  rw [stC_num71 hz z0 ht hc.1 hc.2.1 hS.2.1 h0 h1, stM_num hz z0 ht hc.2.2 hx h0 (by omega)]
  exact hK F1 F2 _ _ (by omega) (by omega) (push71 hS h0) (fun q => by cases q)
theorem seg_let71 {C1 C2 : qA} {t z x h : Int} (hz : z < t) (z0 : 0 ≤ z) (ht : t ≤ 200) (hc : cd71 C1 C2 z 107 x) (hx : 0 ≤ x ∧ x ≤ 13) (hf : ∀ i, 0 ≤ i → i ≤ 13 → C1 35 i = C2 35 i) (h0 : 0 ≤ h) (h1 : h < 40) : Seg71 C1 C2 t z (z + 1) h false := by
  intro Q F1 F2 B1 B2 f1 f2 hS hR hK
  obtain ⟨F1, rfl⟩ : ∃ F', F1 = F' + 1 := ⟨F1 - 1, by omega⟩
  obtain ⟨F2, rfl⟩ : ∃ F', F2 = F' + 1 := ⟨F2 - 1, by omega⟩
  have hc := cd71_e hc hS.1
  have he : B1 35 x = B2 35 x := by rw [frm_a hS.1.1 (r := 35) rfl, frm_a hS.1.2 (r := 35) rfl]; exact hf x hx.1 hx.2
  rw [stC_let71 hz z0 ht hc.1 hc.2.1 hS.2.1 h0 h1, stM_let hz z0 ht hc.2.2 hx h0 (by omega), he]
  exact hK F1 F2 _ _ (by omega) (by omega) (push71 hS h0) (fun q => by cases q)
theorem seg_op71 {C1 C2 : qA} {t z z1 z2 g h : Int} {bo : Bool} (hz : z2 < t) (z0 : 0 ≤ z2) (ht : t ≤ 200) (hc : cd71 C1 C2 z2 g 0) (hg : (2 ≤ opc g ∧ opc g ≤ 9)) (hbo : bo = true → 7 ≤ opc g) (h0 : 0 ≤ h) (h1 : h < 90) (s1 : Seg71 C1 C2 t z z1 h false) (s2 : Seg71 C1 C2 t z1 z2 (h + 1) false) : Seg71 C1 C2 t z (z2 + 1) h bo := by
  intro Q F1 F2 B1 B2 f1 f2 hS hR hK
  refine s1 Q F1 F2 B1 B2 f1 f2 hS hR (fun F1 F2 B1 B2 f1 f2 hS _ => ?_)
  refine s2 Q F1 F2 B1 B2 f1 f2 hS hR (fun F1 F2 B1 B2 f1 f2 hS _ => ?_)
  obtain ⟨F1, rfl⟩ : ∃ F', F1 = F' + 1 := ⟨F1 - 1, by omega⟩
  obtain ⟨F2, rfl⟩ : ∃ F', F2 = F' + 1 := ⟨F2 - 1, by omega⟩
  have hc := cd71_e hc hS.1
  have hgg := opc_ne hg
  have ea : B1 78 h = B2 34 h := hS.2.2 h h0 (by omega)
  have eb : B1 78 (h + 1) = B2 34 (h + 1) := hS.2.2 (h + 1) (by omega) (by omega)
  have hc2 := hc.2.2
  rw [Int.add_zero] at hc2
  rw [show h + 1 + 1 = h + 2 by omega] at hS ⊢
  rw [stC_bin71 hz z0 ht hc.1 hgg.1 hS.2.1 h0 (by omega), stM_bin hz z0 ht hc2 hg h0 (by omega), ea, eb]
  by_cases hd : B2 34 (h + 1) = 0 ∧ (g = 47 ∨ g = 37)
  · rw [if_pos hd, if_pos ⟨hd.1, hgg.2.mp hd.2⟩]
    exact hR _ _ hS.1
  · rw [if_neg hd, if_neg (fun q => hd ⟨q.1, hgg.2.mpr q.2⟩), joined_is hg (fun q => by
      by_cases q2 : B2 34 (h + 1) = 0
      · exact absurd ⟨q2, q⟩ hd
      · exact q2) B1 B2]
    refine hK F1 F2 _ _ (by omega) (by omega) ?_ (fun q => ?_)
    · obtain ⟨⟨a, b⟩, c, d⟩ := hS
      refine ⟨⟨frm_s (frm_sf a rfl rfl) rfl rfl, frm_s b rfl rfl⟩, by simp [qu_is], fun i i0 i1 => ?_⟩
      by_cases hi : i = h
      · simp [qu_is, hi]
      · have := d i i0 (by omega)
        simp [qu_is, hi, this]
    · rw [qu_at]
      exact reckon_bo (hbo q) hg.2 _ _ _
theorem seg_not71 {C1 C2 : qA} {t z z1 h : Int} (hz : z1 < t) (z0 : 0 ≤ z1) (ht : t ≤ 200) (hc : cd71 C1 C2 z1 33 0) (h0 : 0 ≤ h) (h1 : h < 90) (s1 : Seg71 C1 C2 t z z1 h true) : Seg71 C1 C2 t z (z1 + 1) h true := by
  intro Q F1 F2 B1 B2 f1 f2 hS hR hK
  refine s1 Q F1 F2 B1 B2 f1 f2 hS hR (fun F1 F2 B1 B2 f1 f2 hS hb => ?_)
  obtain ⟨F1, rfl⟩ : ∃ F', F1 = F' + 1 := ⟨F1 - 1, by omega⟩
  obtain ⟨F2, rfl⟩ : ∃ F', F2 = F' + 1 := ⟨F2 - 1, by omega⟩
  have hc := cd71_e hc hS.1
  have ea : B1 78 h = B2 34 h := hS.2.2 h h0 (by omega)
  have hb := hb rfl
  rw [stC_not71 hz z0 ht hc.1 hS.2.1 h0, stM_not hz z0 ht hc.2.2 h0 (by omega), ← ea]
  have hv : wI (1 - B1 78 h) = 0 ∨ wI (1 - B1 78 h) = 1 := by
    rcases hb with q | q
    · rw [q]; exact Or.inr (wI_id ⟨by decide, by decide⟩)
    · rw [q]; exact Or.inl (wI_id ⟨by decide, by decide⟩)
  refine hK F1 F2 _ _ (by omega) (by omega) ?_ (fun _ => by rw [qu_at]; exact hv)
  obtain ⟨⟨a, b⟩, c, d⟩ := hS
  refine ⟨⟨frm_s a rfl rfl, frm_s b rfl rfl⟩, by simp [qu_is, c], fun i i0 i1 => ?_⟩
  by_cases hi : i = h
  · simp [qu_is, hi]
  · have := d i i0 (by omega)
    simp [qu_is, hi, this]
theorem seg_jmp71 {C1 C2 : qA} {t z z1 z2 g h : Int} (hz : z1 < z2) (hz2 : z2 ≤ t) (z0 : 0 ≤ z1) (ht : t ≤ 200) (hg : g = 38 ∨ g = 124) (hc : cd71 C1 C2 z1 g z2) (h0 : 0 ≤ h) (h1 : h < 90) (s1 : Seg71 C1 C2 t z z1 h true) (s2 : Seg71 C1 C2 t (z1 + 1) z2 h true) : Seg71 C1 C2 t z z2 h true := by
  intro Q F1 F2 B1 B2 f1 f2 hS hR hK
  refine s1 Q F1 F2 B1 B2 f1 f2 hS hR (fun F1 F2 B1 B2 f1 f2 hS hb => ?_)
  obtain ⟨F1, rfl⟩ : ∃ F', F1 = F' + 1 := ⟨F1 - 1, by omega⟩
  obtain ⟨F2, rfl⟩ : ∃ F', F2 = F' + 1 := ⟨F2 - 1, by omega⟩
  have hc := cd71_e hc hS.1
  have ea : B1 78 h = B2 34 h := hS.2.2 h h0 (by omega)
  have hb := hb rfl
  have hgo : Q (fC_reckon71_L F1 5 [t, z1 + 1] (qu B1 71 (fd 9) h)) (fM_comesTo_L F2 10 [t, h, 0, z1 + 1] B2) := by
    refine s2 Q F1 F2 _ _ (by omega) (by omega) ?_ hR hK
    obtain ⟨⟨a, b⟩, c, d⟩ := hS
    exact ⟨⟨frm_sf a rfl rfl, b⟩, qu_at _ _ _ _, fun i i0 i1 => by rw [← d i i0 (by omega)]; simp [qu_is]⟩
  have hju : Q (fC_reckon71_L F1 5 [t, z2] B1) (fM_comesTo_L F2 10 [t, h + 1, 0, z2] B2) := hK F1 F2 _ _ (by omega) (by omega) hS (fun _ => hb)
  rcases hg with rfl | rfl
  · rw [stC_and71 (by omega) z0 ht hc.1 hc.2.1 hz hz2 hS.2.1 h0 (by omega), stM_and (by omega) z0 ht hc.2.2 hz hz2 h0 (by omega), ea]
    by_cases q : B2 34 h = 0
    · rw [if_pos q, if_pos q]; exact hju
    · rw [if_neg q, if_neg q]; exact hgo
  · rw [stC_or71 (by omega) z0 ht hc.1 hc.2.1 hz hz2 hS.2.1 h0 (by omega), stM_or (by omega) z0 ht hc.2.2 hz hz2 h0 (by omega), ea]
    rw [ea] at hb
    rcases hb with q | q
    · rw [if_pos q, if_neg (show ¬ B2 34 h = 1 by omega)]; exact hgo
    · rw [if_neg (show ¬ B2 34 h = 0 by omega), if_pos q]; exact hju
/-! what P reads -/
def lay71 (C1 C2 : qA) (z : Int) (c : List (Int × Int)) : Prop := cat (C1 72) (C1 73) z c ∧ mcat (C2 29) z (c.map en)
theorem lay71_app {C1 C2 : qA} {z : Int} {c c' : List (Int × Int)} : lay71 C1 C2 z (c ++ c') ↔ lay71 C1 C2 z c ∧ lay71 C1 C2 (z + c.length) c' := by
  unfold lay71
  rw [List.map_append, cat_app, mcat_app, List.length_map]
  exact ⟨fun h => ⟨⟨h.1.1, h.2.1⟩, h.1.2, h.2.2⟩, fun h => ⟨⟨h.1.1, h.2.1⟩, h.1.2, h.2.2⟩⟩
theorem lay71_1 {C1 C2 : qA} {z g x : Int} (h : lay71 C1 C2 z [(g, x)]) : cd71 C1 C2 z g x := ⟨h.1.1.1, h.1.1.2, h.2.1⟩
theorem seg_numP71 {C1 C2 : qA} {lk : Int → Int} {t h : Int} (ht : t ≤ 200) (h0 : 0 ≤ h) (h1 : h < 40) : ∀ (k : Nat) (p x q : Int) (c : List (Int × Int)) (z : Int), p_num lk k p x = .inr (q, c) → (0 ≤ x ∧ (x + 1) * 10 ^ k ≤ 100000) → 0 ≤ z → z + c.length ≤ t → lay71 C1 C2 z c → Seg71 C1 C2 t z (z + c.length) h false
  | 0, p, x, q, c, z, e, hx, z0, hz, hl => by
    unfold p_num at e
    split at e
    · cases e
    · cases e
      simp only [List.length_cons, List.length_nil] at hz ⊢
      exact seg_num71 (by omega) z0 ht (lay71_1 hl) (by omega) h0 h1
  | k + 1, p, x, q, c, z, e, hx, z0, hz, hl => by
    unfold p_num at e
    split at e
    · next hd =>
      refine seg_numP71 ht h0 h1 k _ _ q c z e ?_ z0 hz hl
      have hp : (0 : Int) < 10 ^ k := Int.pow_pos (by decide)
      have e10 : (10 : Int) ^ (k + 1) = 10 ^ k * 10 := Int.pow_succ ..
      rw [e10] at hx
      refine ⟨by omega, ?_⟩
      have h2 : (10 * x + lk p - 48 + 1) * 10 ^ k ≤ (10 * (x + 1)) * 10 ^ k := Int.mul_le_mul_of_nonneg_right (by omega) (by omega)
      have h3 : (10 * (x + 1)) * 10 ^ k = (x + 1) * (10 ^ k * 10) := by
        rw [Int.mul_comm 10 (x + 1), Int.mul_assoc, Int.mul_comm 10 (10 ^ k)]
      omega
    · cases e
      simp only [List.length_cons, List.length_nil] at hz ⊢
      refine seg_num71 (by omega) z0 ht (lay71_1 hl) ?_ h0 h1
      have hp : (1 : Int) ≤ 10 ^ (k + 1) := by
        have := Int.pow_pos (n := (10 : Int)) (m := k + 1) (by decide)
        omega
      have := Int.mul_le_mul_of_nonneg_left hp (show (0 : Int) ≤ x + 1 by omega)
      omega
theorem seg_fac71 {C1 C2 : qA} {n : Int} {lk : Int → Int} (hlk : lkok n lk) {t h : Int} (ht : t ≤ 200) (h0 : 0 ≤ h) (h1 : h < 40) (hf : ∀ i, 0 ≤ i → i ≤ 13 → C1 35 i = C2 35 i) {op : Int → pR} {p q z : Int} {c : List (Int × Int)} (hp : 0 ≤ p) (e : p_fac lk op p = .inr (q, c)) (z0 : 0 ≤ z) (hz : z + c.length ≤ t) (hl : lay71 C1 C2 z c) (hop : op p = .inr (q, c) → Seg71 C1 C2 t z (z + c.length) h false) : Seg71 C1 C2 t z (z + c.length) h false := by
  unfold p_fac at e
  split at e
  · exact hop e
  · split at e
    · exact seg_numP71 ht h0 h1 5 p 0 q c z e ⟨by decide, by decide⟩ z0 hz hl
    · split at e
      · cases e
      · next h3 =>
        cases e
        have hb := hlk p hp
        have hi := lk_one hlk hp h3
        have hq := qix_bd 0 (lk p)
        simp only [List.length_cons, List.length_nil] at hz ⊢
        exact seg_let71 (by omega) z0 ht (lay71_1 hl) (by omega) hf h0 h1
/-- one behind the other -/
theorem seg_bin71 {C1 C2 : qA} {n : Int} {lk : Int → Int} (hlk : lkok n lk) {t h d : Int} {o : Nat} {f : Int → pR} (ho : o = 3 ∨ o = 4) (ht : t ≤ 200) (h0 : 0 ≤ h) (hd : h + 1 + d ≤ 40) (d0 : 0 ≤ d) (hok : ∀ p, 0 ≤ p → p ≤ n → pOk n p (f p)) (hf : ∀ p q c z h', 0 ≤ p → p ≤ n → f p = .inr (q, c) → 0 ≤ z → z + c.length ≤ t → lay71 C1 C2 z c → 0 ≤ h' → h' + d ≤ 40 → Seg71 C1 C2 t z (z + c.length) h' false) {z : Int} (z0 : 0 ≤ z) : ∀ (k : Nat) (p q : Int) (c c1 : List (Int × Int)), 0 ≤ p → p ≤ n → p_bin lk o f k p c = .inr (q, c1) → z + c1.length ≤ t → lay71 C1 C2 z c1 → (z + c.length ≤ t → lay71 C1 C2 z c → Seg71 C1 C2 t z (z + c.length) h false) → Seg71 C1 C2 t z (z + c1.length) h false
  | 0, p, q, c, c1, hp, hn, e, hz, hl, hs => by
    unfold p_bin at e
    cases e
    exact hs hz hl
  | k + 1, p, q, c, c1, hp, hn, e, hz, hl, hs => by
    unfold p_bin at e
    split at e
    · cases e
      exact hs hz hl
    · next hq =>
      have hin := lk_one hlk hp hq
      have h8 := hok (p + 1) (by omega) (by omega)
      rcases hx : f (p + 1) with e' | ⟨q', c'⟩
      · rw [hx] at e
        cases e
      · rw [hx] at e h8
        obtain ⟨a1, a2, a3⟩ := h8
        refine seg_bin71 hlk ho ht h0 hd d0 hok hf z0 k q' q _ c1 (by omega) a2 e hz hl (fun hz2 hl2 => ?_)
        obtain ⟨l1, l2⟩ := lay71_app.mp hl2
        obtain ⟨l3, l4⟩ := lay71_app.mp l1
        simp only [List.length_append, List.length_cons, List.length_nil] at hz2 l2 ⊢
        have hs1 := hs (by omega) l3
        have hs2 := hf (p + 1) q' c' (z + c.length) (h + 1) (by omega) (by omega) hx (by omega) (by omega) l4 (by omega) (by omega)
        have hb := hlk p hp
        have hsg := sg_sum hb.1.1 hb.1.2 aZ
        have hg : 2 ≤ opc (lk p) ∧ opc (lk p) ≤ 9 := by
          rcases hsg with y | y | y
          · rcases ho with rfl | rfl
            · exact absurd y.1 hq
            · exact absurd y.2.1 hq
          · omega
          · omega
        have := seg_op71 (bo := false) (z := z) (z1 := z + c.length) (z2 := z + c.length + c'.length) (g := lk p) (by omega) (by omega) ht (by
          have := lay71_1 l2
          rw [show z + ((c.length + c'.length : Nat) : Int) = z + c.length + c'.length by omega] at this
          exact this) hg (fun q => by cases q) h0 (by omega) hs1 hs2
        rw [show z + ((c.length + c'.length + (0 + 1) : Nat) : Int) = z + c.length + c'.length + 1 by omega]
        exact this
theorem seg_term71 {C1 C2 : qA} {n : Int} {lk : Int → Int} (hlk : lkok n lk) {t d : Int} {f : Int → pR} (ht : t ≤ 200) (d0 : 0 ≤ d) (hok : ∀ p, 0 ≤ p → p ≤ n → pOk n p (f p)) (hf : ∀ p q c z h', 0 ≤ p → p ≤ n → f p = .inr (q, c) → 0 ≤ z → z + c.length ≤ t → lay71 C1 C2 z c → 0 ≤ h' → h' + d ≤ 40 → Seg71 C1 C2 t z (z + c.length) h' false) (o : Nat) (ho : o = 3 ∨ o = 4) (p q : Int) (c : List (Int × Int)) (z h : Int) (hp : 0 ≤ p) (hn : p ≤ n) (e : p_bind (f p) (fun q c => p_bin lk o f 200 q c) = .inr (q, c)) (z0 : 0 ≤ z) (hz : z + c.length ≤ t) (hl : lay71 C1 C2 z c) (h0 : 0 ≤ h) (hd : h + (d + 1) ≤ 40) : Seg71 C1 C2 t z (z + c.length) h false := by
  have h8 := hok p hp hn
  rcases hx : f p with e' | ⟨q', c'⟩
  · rw [hx] at e
    cases e
  · rw [hx] at e h8
    obtain ⟨a1, a2, a3⟩ := h8
    exact seg_bin71 hlk ho ht h0 (by omega) d0 hok hf z0 200 q' q c' c (by omega) a2 e hz hl (fun hz2 hl2 => hf p q' c' z h hp hn hx z0 hz2 hl2 h0 (by omega))
theorem seg_facE71 {C1 C2 : qA} {n : Int} {lk : Int → Int} (hlk : lkok n lk) {t : Int} (ht : t ≤ 200) (hf : ∀ i, 0 ≤ i → i ≤ 13 → C1 35 i = C2 35 i) : ∀ (e : Nat) (p q : Int) (c : List (Int × Int)) (z h : Int), 0 ≤ p → p ≤ n → p_facE lk e p = .inr (q, c) → 0 ≤ z → z + c.length ≤ t → lay71 C1 C2 z c → 0 ≤ h → h + (2 * (e : Int) + 1) ≤ 40 → Seg71 C1 C2 t z (z + c.length) h false
  | 0, p, q, c, z, h, hp, hn, he, z0, hz, hl, h0, hd => by
    refine seg_fac71 hlk ht h0 (by omega) hf hp he z0 hz hl (fun q => by cases q)
  | e + 1, p, q, c, z, h, hp, hn, he, z0, hz, hl, h0, hd => by
    refine seg_fac71 hlk ht h0 (by omega) hf hp he z0 hz hl (fun hq => ?_)
    obtain ⟨q', hx⟩ := clo_inv hq
    have hpn : p + 1 ≤ n := by
      by_cases h9 : p + 1 ≤ n
      · exact h9
      · exfalso
        have h91 : lk p = 91 := by
          by_cases h91 : lk p = 91
          · exact h91
          · exfalso
            have he : p_fac lk _ p = .inr (q, c) := he
            unfold p_fac at he
            rw [if_neg h91] at he
            have := (hlk p hp).2 (by omega)
            rw [this, if_neg (by decide), if_pos (by decide)] at he
            cases he
        have := lk_in hlk hp (by omega)
        omega
    exact seg_term71 hlk ht (d := 2 * (e : Int) + 2) (by omega) (pOk_termE hlk e) (fun p q c z h hp hn he z0 hz hl h0 hd => seg_term71 hlk ht (d := 2 * (e : Int) + 1) (by omega) (pOk_facE hlk e) (seg_facE71 hlk ht hf e) 4 (Or.inr rfl) p q c z h hp hn he z0 hz hl h0 (by omega)) 3 (Or.inl rfl) (p + 1) q' c z h (by omega) hpn hx z0 hz hl h0 (by omega)
theorem seg_sumE71 {C1 C2 : qA} {n : Int} {lk : Int → Int} (hlk : lkok n lk) {t : Int} (ht : t ≤ 200) (hf : ∀ i, 0 ≤ i → i ≤ 13 → C1 35 i = C2 35 i) (e : Nat) (p q : Int) (c : List (Int × Int)) (z h : Int) (hp : 0 ≤ p) (hn : p ≤ n) (he : p_sumE lk e p = .inr (q, c)) (z0 : 0 ≤ z) (hz : z + c.length ≤ t) (hl : lay71 C1 C2 z c) (h0 : 0 ≤ h) (hd : h + (2 * (e : Int) + 3) ≤ 40) : Seg71 C1 C2 t z (z + c.length) h false :=
  seg_term71 hlk ht (d := 2 * (e : Int) + 2) (by omega) (pOk_termE hlk e) (fun p q c z h hp hn he z0 hz hl h0 hd => seg_term71 hlk ht (d := 2 * (e : Int) + 1) (by omega) (pOk_facE hlk e) (seg_facE71 hlk ht hf e) 4 (Or.inr rfl) p q c z h hp hn he z0 hz hl h0 (by omega)) 3 (Or.inl rfl) p q c z h hp hn he z0 hz hl h0 (by omega)
theorem seg_cmp71 {C1 C2 : qA} {n : Int} {lk : Int → Int} (hlk : lkok n lk) {t : Int} (ht : t ≤ 200) (hf : ∀ i, 0 ≤ i → i ≤ 13 → C1 35 i = C2 35 i) (e : Nat) (he6 : e ≤ 6) (p q : Int) (c : List (Int × Int)) (z : Int) (hp : 0 ≤ p) (hn : p ≤ n) (he : p_cmp lk (p_sumE lk e) p = .inr (q, c)) (z0 : 0 ≤ z) (hz : z + c.length ≤ t) (hl : lay71 C1 C2 z c) : Seg71 C1 C2 t z (z + c.length) 0 true := by
  have h8 := pOk_sumE hlk e p hp hn
  unfold p_cmp at he
  rcases hx : p_sumE lk e p with e' | ⟨q1, c1⟩
  · rw [hx] at he
    cases he
  · rw [hx] at he h8
    obtain ⟨a1, a2, a3⟩ := h8
    have he : (if qone 2 (lk q1) = 0 then (.inl (-1000 - q1) : pR) else p_bind (p_sumE lk e (q1 + 1)) fun q' c' => .inr (q', c1 ++ c' ++ [(lk q1, 0)])) = .inr (q, c) := he
    split at he
    · cases he
    · next hq =>
      have hin := lk_one hlk (p := q1) (by omega) hq
      have h8 := pOk_sumE hlk e (q1 + 1) (by omega) (by omega)
      rcases hy : p_sumE lk e (q1 + 1) with e' | ⟨q2, c2⟩
      · rw [hy] at he
        cases he
      · rw [hy] at he h8
        cases he
        obtain ⟨l1, l2⟩ := lay71_app.mp hl
        obtain ⟨l3, l4⟩ := lay71_app.mp l1
        simp only [List.length_append, List.length_cons, List.length_nil] at hz l2 ⊢
        have hs1 := seg_sumE71 hlk ht hf e p q1 c1 z 0 hp hn hx z0 (by omega) l3 (by decide) (by omega)
        have hs2 := seg_sumE71 hlk ht hf e (q1 + 1) q c2 (z + c1.length) (0 + 1) (by omega) (by omega) hy (by omega) (by omega) l4 (by decide) (by omega)
        have hb := hlk q1 (by omega)
        have hcm := sg_cmp hb.1.1 hb.1.2
        have hg : 7 ≤ opc (lk q1) ∧ opc (lk q1) ≤ 9 := by
          have h3 : lk q1 = 60 ∨ lk q1 = 62 ∨ lk q1 = 61 := by
            by_cases y : lk q1 = 60 ∨ lk q1 = 62 ∨ lk q1 = 61
            · exact y
            · exact absurd (hcm.mpr y) hq
          rcases h3 with y | y | y <;> rw [y] <;> decide
        have := seg_op71 (bo := true) (z := z) (z1 := z + c1.length) (z2 := z + c1.length + c2.length) (g := lk q1) (by omega) (by omega) ht (by
          have := lay71_1 l2
          rw [show z + ((c1.length + c2.length : Nat) : Int) = z + c1.length + c2.length by omega] at this
          exact this) (by omega) (fun _ => hg.1) (by decide) (by decide) hs1 hs2
        rw [show z + ((c1.length + c2.length + (0 + 1) : Nat) : Int) = z + c1.length + c2.length + 1 by omega]
        exact this
theorem seg_jmpP71 {C1 C2 : qA} {n : Int} {lk : Int → Int} (hlk : lkok n lk) {t g : Int} {f : Int → Int → pR} (hg : g = 38 ∨ g = 124) (ht : t ≤ 200) (hok : ∀ y p, 0 ≤ p → p ≤ n → pOk n p (f y p)) (hf : ∀ p q c z, 0 ≤ p → p ≤ n → f z p = .inr (q, c) → 0 ≤ z → z + c.length ≤ t → lay71 C1 C2 z c → Seg71 C1 C2 t z (z + c.length) 0 true) {z : Int} (z0 : 0 ≤ z) : ∀ (k : Nat) (p q : Int) (c c1 : List (Int × Int)), 0 ≤ p → p ≤ n → p_jmp lk g f z k p c = .inr (q, c1) → z + c1.length ≤ t → lay71 C1 C2 z c1 → (z + c.length ≤ t → lay71 C1 C2 z c → Seg71 C1 C2 t z (z + c.length) 0 true) → Seg71 C1 C2 t z (z + c1.length) 0 true
  | 0, p, q, c, c1, hp, hn, e, hz, hl, hs => by
    unfold p_jmp at e
    cases e
    exact hs hz hl
  | k + 1, p, q, c, c1, hp, hn, e, hz, hl, hs => by
    unfold p_jmp at e
    split at e
    · next hq =>
      have hin := lk_in hlk hp (by omega)
      have h8 := hok (z + c.length + 1) (p + 1) (by omega) (by omega)
      rcases hx : f (z + c.length + 1) (p + 1) with e' | ⟨q', c'⟩
      · rw [hx] at e
        cases e
      · rw [hx] at e h8
        obtain ⟨a1, a2, a3⟩ := h8
        refine seg_jmpP71 hlk hg ht hok hf z0 k q' q _ c1 (by omega) a2 e hz hl (fun hz2 hl2 => ?_)
        obtain ⟨l1, l2⟩ := lay71_app.mp hl2
        obtain ⟨l3, l4⟩ := lay71_app.mp l1
        simp only [List.length_append, List.length_cons, List.length_nil] at hz2 l2 ⊢
        have hs1 := hs (by omega) l3
        rw [show z + ((c.length + (0 + 1) : Nat) : Int) = z + c.length + 1 by omega] at l2
        have hs2 := hf (p + 1) q' c' (z + c.length + 1) (by omega) (by omega) hx (by omega) (by omega) l2
        have := seg_jmp71 (z := z) (z1 := z + c.length) (z2 := z + c.length + 1 + c'.length) (by omega) (by omega) (by omega) ht hg (lay71_1 l4) (by decide) (by decide) hs1 hs2
        rw [show z + ((c.length + (0 + 1) + c'.length : Nat) : Int) = z + c.length + 1 + c'.length by omega]
        exact this
    · cases e
      exact hs hz hl
theorem seg_part71 {C1 C2 : qA} {n : Int} {lk : Int → Int} (hlk : lkok n lk) {t g : Int} {f : Int → Int → pR} (hg : g = 38 ∨ g = 124) (ht : t ≤ 200) (hok : ∀ y p, 0 ≤ p → p ≤ n → pOk n p (f y p)) (hf : ∀ p q c z, 0 ≤ p → p ≤ n → f z p = .inr (q, c) → 0 ≤ z → z + c.length ≤ t → lay71 C1 C2 z c → Seg71 C1 C2 t z (z + c.length) 0 true) (p q : Int) (c : List (Int × Int)) (z : Int) (hp : 0 ≤ p) (hn : p ≤ n) (e : p_bind (f z p) (fun q c => p_jmp lk g f z 200 q c) = .inr (q, c)) (z0 : 0 ≤ z) (hz : z + c.length ≤ t) (hl : lay71 C1 C2 z c) : Seg71 C1 C2 t z (z + c.length) 0 true := by
  have h8 := hok z p hp hn
  rcases hx : f z p with e' | ⟨q', c'⟩
  · rw [hx] at e
    cases e
  · rw [hx] at e h8
    obtain ⟨a1, a2, a3⟩ := h8
    exact seg_jmpP71 hlk hg ht hok hf z0 200 q' q c' c (by omega) a2 e hz hl (fun hz2 hl2 => hf p q' c' z hp hn hx z0 hz2 hl2)
theorem seg_pieceE71 {C1 C2 : qA} {n : Int} {lk : Int → Int} (hlk : lkok n lk) {t : Int} (ht : t ≤ 200) (hf : ∀ i, 0 ≤ i → i ≤ 13 → C1 35 i = C2 35 i) : ∀ (e : Nat), e ≤ 6 → ∀ (p q : Int) (c : List (Int × Int)) (z : Int), 0 ≤ p → p ≤ n → p_pieceE lk e z p = .inr (q, c) → 0 ≤ z → z + c.length ≤ t → lay71 C1 C2 z c → Seg71 C1 C2 t z (z + c.length) 0 true
  | 0, he6, p, q, c, z, hp, hn, he, z0, hz, hl => by
    have he : (if lk p = 40 then (.inl (-5000 - p) : pR) else (if lk p = 33 then .inl (-5000 - p) else p_cmp lk (p_sumE lk 0) p)) = .inr (q, c) := he
    split at he
    · cases he
    · split at he
      · cases he
      · exact seg_cmp71 hlk ht hf 0 (by decide) p q c z hp hn he z0 hz hl
  | e + 1, he6, p, q, c, z, hp, hn, he, z0, hz, hl => by
    have he : (if lk p = 40 then p_clo lk (p_cond lk (p_pieceE lk e) z (p + 1)) 41 else (if lk p = 33 then p_bind (p_pieceE lk e z (p + 1)) fun q c => .inr (q, c ++ [(33, 0)]) else p_cmp lk (p_sumE lk (e + 1)) p)) = .inr (q, c) := he
    split at he
    · next h1 =>
      have hin := lk_in hlk hp (by omega)
      obtain ⟨q', hx⟩ := clo_inv he
      exact seg_part71 hlk (Or.inr rfl) ht (pOk_part hlk (pOk_pieceE hlk e)) (fun p q c z hp hn he z0 hz hl => seg_part71 hlk (Or.inl rfl) ht (pOk_pieceE hlk e) (fun p q c z hp hn he z0 hz hl => seg_pieceE71 hlk ht hf e (by omega) p q c z hp hn he z0 hz hl) p q c z hp hn he z0 hz hl) (p + 1) q' c z (by omega) (by omega) hx z0 hz hl
    · split at he
      · next h2 =>
        have hin := lk_in hlk hp (by omega)
        rcases hx : p_pieceE lk e z (p + 1) with e' | ⟨q', c'⟩
        · rw [hx] at he
          cases he
        · rw [hx] at he
          cases he
          obtain ⟨l1, l2⟩ := lay71_app.mp hl
          simp only [List.length_append, List.length_cons, List.length_nil] at hz ⊢
          have hs := seg_pieceE71 hlk ht hf e (by omega) (p + 1) q c' z (by omega) (by omega) hx z0 (by omega) l1
          have := seg_not71 (z1 := z + c'.length) (by omega) (by omega) ht (lay71_1 l2) (by decide) (by decide) hs
          rw [show z + ((c'.length + (0 + 1) : Nat) : Int) = z + c'.length + 1 by omega]
          exact this
      · exact seg_cmp71 hlk ht hf (e + 1) he6 p q c z hp hn he z0 hz hl
theorem seg_condE71 {C1 C2 : qA} {n : Int} {lk : Int → Int} (hlk : lkok n lk) {t : Int} (ht : t ≤ 200) (hf : ∀ i, 0 ≤ i → i ≤ 13 → C1 35 i = C2 35 i) (e : Nat) (he6 : e ≤ 6) (p q : Int) (c : List (Int × Int)) (z : Int) (hp : 0 ≤ p) (hn : p ≤ n) (he : p_condE lk e z p = .inr (q, c)) (z0 : 0 ≤ z) (hz : z + c.length ≤ t) (hl : lay71 C1 C2 z c) : Seg71 C1 C2 t z (z + c.length) 0 true :=
  seg_part71 hlk (Or.inr rfl) ht (pOk_part hlk (pOk_pieceE hlk e)) (fun p q c z hp hn he z0 hz hl => seg_part71 hlk (Or.inl rfl) ht (pOk_pieceE hlk e) (fun p q c z hp hn he z0 hz hl => seg_pieceE71 hlk ht hf e he6 p q c z hp hn he z0 hz hl) p q c z hp hn he z0 hz hl) p q c z hp hn he z0 hz hl
/-! WHAT THE LAW ANSWERS: class beside reference -/
theorem run36 {A1 A2 : qA} {f t : Int} {bo : Bool} (hs : Seg36 A1 A2 t f t 0 bo) (f0 : 0 ≤ f) (hft : f ≤ t) (ht : t ≤ 200) : (fC_reckon36 f t A1).1 = (fM_comesTo f t A2).1 ∧ Env36 A1 A2 (fC_reckon36 f t A1).2 (fM_comesTo f t A2).2 ∧ (bo = true → ((fC_reckon36 f t A1).1 = 0 ∨ (fC_reckon36 f t A1).1 = 1)) := by
  have e1 : fC_reckon36 f t A1 = fC_reckon36_L 100000 5 [t, f] (qu A1 36 (fd 9) 0) := rfl
  have e2 : fM_comesTo f t A2 = fM_comesTo_L 100000 10 [t, 0, 0, f] A2 := by
    unfold fM_comesTo
    simp only [qlet]
    rw [qd_nn f0, show f / 220 = 0 by omega, show wI (220 * 0) = 0 from wI_id ⟨by decide, by decide⟩]
  rw [e1, e2]
  refine hs (fun y1 y2 => y1.1 = y2.1 ∧ Env36 A1 A2 y1.2 y2.2 ∧ (bo = true → (y1.1 = 0 ∨ y1.1 = 1))) 100000 100000 _ _ (by omega) (by omega) ⟨⟨frm_sf (frm_0 _ _ _) rfl rfl, frm_0 _ _ _⟩, qu_at _ _ _ _, fun i i0 i1 => by omega⟩ (fun B1 B2 hE => ⟨rfl, hE, fun _ => Or.inl rfl⟩) (fun F1 F2 B1 B2 f1 f2 hS hb => ?_)
  obtain ⟨F1, rfl⟩ : ∃ F', F1 = F' + 1 := ⟨F1 - 1, by omega⟩
  obtain ⟨F2, rfl⟩ : ∃ F', F2 = F' + 1 := ⟨F2 - 1, by omega⟩
  rw [stC_end36 hS.2.1 (by decide), stM_end]
  exact ⟨hS.2.2 0 (by decide) (by decide), hS.1, hb⟩
/-- the clauses T, from number q on, lie in both worlds -/
def lawR36 (A1 A2 : qA) (q z : Int) (T : List pX) : Prop := tx (A1 39) (A1 40) (A1 41) (A1 42) (cat (A1 37) (A1 38)) q z T ∧ tx (A2 30) (A2 31) (A2 32) (A2 33) (fun z c => mcat (A2 29) z (c.map en)) q z T
theorem lawR36_e {A1 A2 B1 B2 : qA} {q z : Int} {T : List pX} (h : lawR36 A1 A2 q z T) (e : Env36 A1 A2 B1 B2) : lawR36 B1 B2 q z T := by
  unfold lawR36 at h ⊢
  rw [frm_a e.1 (r := 39) rfl, frm_a e.1 (r := 40) rfl, frm_a e.1 (r := 41) rfl, frm_a e.1 (r := 42) rfl, frm_a e.1 (r := 37) rfl, frm_a e.1 (r := 38) rfl, frm_a e.2 (r := 29) rfl, frm_a e.2 (r := 30) rfl, frm_a e.2 (r := 31) rfl, frm_a e.2 (r := 32) rfl, frm_a e.2 (r := 33) rfl]
  exact h
theorem Env36_tr {A1 A2 B1 B2 C1 C2 : qA} (h : Env36 A1 A2 B1 B2) (h2 : Env36 B1 B2 C1 C2) : Env36 A1 A2 C1 C2 := ⟨frm_c h.1 h2.1 rfl, frm_c h.2 h2.2 rfl⟩
theorem ans36 {n : Int} {lk : Int → Int} (hlk : lkok n lk) {w m : Int} (hm : 0 ≤ m) : ∀ (T : List pX) (q z : Int) (F1 F2 : Nat) (A1 A2 : qA), T.length < F1 → T.length < F2 → 0 ≤ z → txLen z T ≤ 200 → A1 36 (fd 7) = q + T.length → A2 0 (fd 35) = q + T.length → lawR36 A1 A2 q z T → goodT n lk z T → (∀ i, 0 ≤ i → i ≤ 13 → A1 35 i = A2 35 i) → (fC_answer36_L F1 2 [w, m, q] A1).1 = (fM_told_L F2 2 [w, m, q] A2).1 ∧ (0 ≤ (fC_answer36_L F1 2 [w, m, q] A1).1 ∧ (fC_answer36_L F1 2 [w, m, q] A1).1 ≤ m) ∧ Env36 A1 A2 (fC_answer36_L F1 2 [w, m, q] A1).2 (fM_told_L F2 2 [w, m, q] A2).2
  | T, q, z, 0, F2, A1, A2, h, _, _, _, _, _, _, _, _ => absurd h (Nat.not_lt_zero _)
  | T, q, z, F1 + 1, 0, A1, A2, _, h, _, _, _, _, _, _, _ => absurd h (Nat.not_lt_zero _)
  | [], q, z, F1 + 1, F2 + 1, A1, A2, _, _, z0, hz, c1, c2, hL, hG, hf => by
    rw [fC_answer36_L2, fM_told_L2]
    unfold fC_answer36_c2 fM_told_c2
    simp only [qlet, qlp]
    simp only [List.length_nil] at c1 c2
    rw [if_neg (show ¬ q < A1 36 (fd 7) by omega), if_neg (show ¬ q < A2 0 (fd 35) by omega)]
    exact ⟨rfl, ⟨Int.le_refl _, hm⟩, frm_0 _ _ _, frm_0 _ _ _⟩
  | x :: T, q, z, F1 + 1, F2 + 1, A1, A2, hF1, hF2, z0, hz, c1, c2, hL, hG, hf => by
    simp only [List.length_cons] at c1 c2 hF1 hF2
    obtain ⟨⟨⟨a1, a2, a3, a4, a5, a6⟩, a7⟩, ⟨⟨b1, b2, b3, b4, b5, b6⟩, b7⟩⟩ := id hL
    obtain ⟨⟨⟨p1, q1, g1, g1n, g2⟩, ⟨p2, q2, g3, g3n, g4⟩⟩, g5⟩ := hG
    have hle := txLen_le T (z + x.2.1.length + x.2.2.length)
    have hz : txLen (z + x.2.1.length + x.2.2.length) T ≤ 200 := hz
    have segs : ∀ (B1 B2 : qA), Env36 A1 A2 B1 B2 → Seg36 B1 B2 (z + x.2.1.length) z (z + x.2.1.length) 0 false ∧ Seg36 B1 B2 (z + x.2.1.length + x.2.2.length) (z + x.2.1.length) (z + x.2.1.length + x.2.2.length) 0 true := by
      intro B1 B2 hE
      obtain ⟨⟨⟨_, _, _, _, u5, u6⟩, _⟩, ⟨⟨_, _, _, _, v5, v6⟩, _⟩⟩ := lawR36_e hL hE
      have hf2 : ∀ i, 0 ≤ i → i ≤ 13 → B1 35 i = B2 35 i := fun i i0 i1 => by rw [frm_a hE.1 (r := 35) rfl, frm_a hE.2 (r := 35) rfl]; exact hf i i0 i1
      exact ⟨seg_sumE36 hlk (by omega) hf2 6 p1 q1 x.2.1 z 0 g1 g1n g2 z0 (Int.le_refl _) ⟨u5, v5⟩ (by decide) (by decide), seg_condE36 hlk (by omega) hf2 5 (by decide) p2 q2 x.2.2 (z + x.2.1.length) g3 g3n g4 (by omega) (Int.le_refl _) ⟨u6, v6⟩⟩
    rw [fC_answer36_L2, fM_told_L2]
    unfold fC_answer36_c2 fM_told_c2
    simp only [qlet, qlp]
    rw [if_pos (show q < A1 36 (fd 7) by omega), if_pos (show q < A2 0 (fd 35) by omega), a1, b1]
    by_cases hw : x.1 = w
    · rw [if_pos hw, if_pos hw, a3, a4, b3, b4]
      have r1 := run36 (segs A1 A2 ⟨frm_0 _ _ _, frm_0 _ _ _⟩).2 (by omega) (by omega) (by omega)
      generalize fC_reckon36 (z + x.2.1.length) (z + x.2.1.length + x.2.2.length) A1 = y1 at r1 ⊢
      generalize fM_comesTo (z + x.2.1.length) (z + x.2.1.length + x.2.2.length) A2 = y2 at r1 ⊢
      obtain ⟨e1, e2, e3⟩ := r1
      have e3 := e3 rfl
      have hL2 := lawR36_e hL e2
      by_cases h0 : y1.1 = 0
      · rw [if_pos h0, if_neg (show ¬ y2.1 = 1 by omega)]
        have ih := ans36 (w := w) hlk hm T (q + 1) (z + x.2.1.length + x.2.2.length) F1 F2 y1.2 y2.2 (by omega) (by omega) (by omega) hz (by rw [frm_f e2.1 (r := 36) (j := 7) rfl]; omega) (by rw [frm_f e2.2 (r := 0) (j := 35) rfl]; omega) ⟨hL2.1.2, hL2.2.2⟩ g5 (fun i i0 i1 => by rw [frm_a e2.1 (r := 35) rfl, frm_a e2.2 (r := 35) rfl]; exact hf i i0 i1)
        exact ⟨ih.1, ih.2.1, Env36_tr e2 ih.2.2⟩
      · rw [if_neg h0, if_pos (show y2.1 = 1 by omega)]
        obtain ⟨⟨⟨_, u2, u3, _, _, _⟩, _⟩, ⟨⟨_, v2, v3, _, _, _⟩, _⟩⟩ := hL2
        rw [u2, v2]
        have r2 := run36 (segs y1.2 y2.2 e2).1 z0 (by omega) (by omega)
        generalize fC_reckon36 z (z + x.2.1.length) y1.2 = k1 at r2 ⊢
        generalize fM_comesTo z (z + x.2.1.length) y2.2 = k2 at r2 ⊢
        obtain ⟨d1, d2, _⟩ := r2
        have hE := Env36_tr e2 d2
        rw [d1]
        by_cases n1 : k2.1 < 0
        · rw [if_pos n1]
          exact ⟨by show max 0 (min m k2.1) = 0; omega, ⟨by show 0 ≤ max 0 (min m k2.1); omega, by show max 0 (min m k2.1) ≤ m; omega⟩, hE⟩
        · rw [if_neg n1]
          by_cases n2 : m < k2.1
          · rw [if_pos n2]
            exact ⟨by show max 0 (min m k2.1) = m; omega, ⟨by show 0 ≤ max 0 (min m k2.1); omega, by show max 0 (min m k2.1) ≤ m; omega⟩, hE⟩
          · rw [if_neg n2]
            exact ⟨by show max 0 (min m k2.1) = k2.1; omega, ⟨by show 0 ≤ max 0 (min m k2.1); omega, by show max 0 (min m k2.1) ≤ m; omega⟩, hE⟩
    · rw [if_neg hw, if_neg hw]
      exact ans36 hlk hm T (q + 1) (z + x.2.1.length + x.2.2.length) F1 F2 A1 A2 (by omega) (by omega) (by omega) hz (by omega) (by omega) ⟨a7, b7⟩ g5 hf
/-! WHAT THE LAW ANSWERS: class beside reference -/
theorem run71 {A1 A2 : qA} {f t : Int} {bo : Bool} (hs : Seg71 A1 A2 t f t 0 bo) (f0 : 0 ≤ f) (hft : f ≤ t) (ht : t ≤ 200) : (fC_reckon71 f t A1).1 = (fM_comesTo f t A2).1 ∧ Env71 A1 A2 (fC_reckon71 f t A1).2 (fM_comesTo f t A2).2 ∧ (bo = true → ((fC_reckon71 f t A1).1 = 0 ∨ (fC_reckon71 f t A1).1 = 1)) := by
  have e1 : fC_reckon71 f t A1 = fC_reckon71_L 100000 5 [t, f] (qu A1 71 (fd 9) 0) := rfl
  have e2 : fM_comesTo f t A2 = fM_comesTo_L 100000 10 [t, 0, 0, f] A2 := by
    unfold fM_comesTo
    simp only [qlet]
    rw [qd_nn f0, show f / 220 = 0 by omega, show wI (220 * 0) = 0 from wI_id ⟨by decide, by decide⟩]
  rw [e1, e2]
  refine hs (fun y1 y2 => y1.1 = y2.1 ∧ Env71 A1 A2 y1.2 y2.2 ∧ (bo = true → (y1.1 = 0 ∨ y1.1 = 1))) 100000 100000 _ _ (by omega) (by omega) ⟨⟨frm_sf (frm_0 _ _ _) rfl rfl, frm_0 _ _ _⟩, qu_at _ _ _ _, fun i i0 i1 => by omega⟩ (fun B1 B2 hE => ⟨rfl, hE, fun _ => Or.inl rfl⟩) (fun F1 F2 B1 B2 f1 f2 hS hb => ?_)
  obtain ⟨F1, rfl⟩ : ∃ F', F1 = F' + 1 := ⟨F1 - 1, by omega⟩
  obtain ⟨F2, rfl⟩ : ∃ F', F2 = F' + 1 := ⟨F2 - 1, by omega⟩
  rw [stC_end71 hS.2.1 (by decide), stM_end]
  exact ⟨hS.2.2 0 (by decide) (by decide), hS.1, hb⟩
/-- the clauses T, from number q on, lie in both worlds -/
def lawR71 (A1 A2 : qA) (q z : Int) (T : List pX) : Prop := tx (A1 74) (A1 75) (A1 76) (A1 77) (cat (A1 72) (A1 73)) q z T ∧ tx (A2 30) (A2 31) (A2 32) (A2 33) (fun z c => mcat (A2 29) z (c.map en)) q z T
theorem lawR71_e {A1 A2 B1 B2 : qA} {q z : Int} {T : List pX} (h : lawR71 A1 A2 q z T) (e : Env71 A1 A2 B1 B2) : lawR71 B1 B2 q z T := by
  unfold lawR71 at h ⊢
  rw [frm_a e.1 (r := 74) rfl, frm_a e.1 (r := 75) rfl, frm_a e.1 (r := 76) rfl, frm_a e.1 (r := 77) rfl, frm_a e.1 (r := 72) rfl, frm_a e.1 (r := 73) rfl, frm_a e.2 (r := 29) rfl, frm_a e.2 (r := 30) rfl, frm_a e.2 (r := 31) rfl, frm_a e.2 (r := 32) rfl, frm_a e.2 (r := 33) rfl]
  exact h
theorem Env71_tr {A1 A2 B1 B2 C1 C2 : qA} (h : Env71 A1 A2 B1 B2) (h2 : Env71 B1 B2 C1 C2) : Env71 A1 A2 C1 C2 := ⟨frm_c h.1 h2.1 rfl, frm_c h.2 h2.2 rfl⟩
theorem ans71 {n : Int} {lk : Int → Int} (hlk : lkok n lk) {w m : Int} (hm : 0 ≤ m) : ∀ (T : List pX) (q z : Int) (F1 F2 : Nat) (A1 A2 : qA), T.length < F1 → T.length < F2 → 0 ≤ z → txLen z T ≤ 200 → A1 71 (fd 7) = q + T.length → A2 0 (fd 35) = q + T.length → lawR71 A1 A2 q z T → goodT n lk z T → (∀ i, 0 ≤ i → i ≤ 13 → A1 35 i = A2 35 i) → (fC_answer71_L F1 2 [w, m, q] A1).1 = (fM_told_L F2 2 [w, m, q] A2).1 ∧ (0 ≤ (fC_answer71_L F1 2 [w, m, q] A1).1 ∧ (fC_answer71_L F1 2 [w, m, q] A1).1 ≤ m) ∧ Env71 A1 A2 (fC_answer71_L F1 2 [w, m, q] A1).2 (fM_told_L F2 2 [w, m, q] A2).2
  | T, q, z, 0, F2, A1, A2, h, _, _, _, _, _, _, _, _ => absurd h (Nat.not_lt_zero _)
  | T, q, z, F1 + 1, 0, A1, A2, _, h, _, _, _, _, _, _, _ => absurd h (Nat.not_lt_zero _)
  | [], q, z, F1 + 1, F2 + 1, A1, A2, _, _, z0, hz, c1, c2, hL, hG, hf => by
    rw [fC_answer71_L2, fM_told_L2]
    unfold fC_answer71_c2 fM_told_c2
    simp only [qlet, qlp]
    simp only [List.length_nil] at c1 c2
    rw [if_neg (show ¬ q < A1 71 (fd 7) by omega), if_neg (show ¬ q < A2 0 (fd 35) by omega)]
    exact ⟨rfl, ⟨Int.le_refl _, hm⟩, frm_0 _ _ _, frm_0 _ _ _⟩
  | x :: T, q, z, F1 + 1, F2 + 1, A1, A2, hF1, hF2, z0, hz, c1, c2, hL, hG, hf => by
    simp only [List.length_cons] at c1 c2 hF1 hF2
    obtain ⟨⟨⟨a1, a2, a3, a4, a5, a6⟩, a7⟩, ⟨⟨b1, b2, b3, b4, b5, b6⟩, b7⟩⟩ := id hL
    obtain ⟨⟨⟨p1, q1, g1, g1n, g2⟩, ⟨p2, q2, g3, g3n, g4⟩⟩, g5⟩ := hG
    have hle := txLen_le T (z + x.2.1.length + x.2.2.length)
    have hz : txLen (z + x.2.1.length + x.2.2.length) T ≤ 200 := hz
    have segs : ∀ (B1 B2 : qA), Env71 A1 A2 B1 B2 → Seg71 B1 B2 (z + x.2.1.length) z (z + x.2.1.length) 0 false ∧ Seg71 B1 B2 (z + x.2.1.length + x.2.2.length) (z + x.2.1.length) (z + x.2.1.length + x.2.2.length) 0 true := by
      intro B1 B2 hE
      obtain ⟨⟨⟨_, _, _, _, u5, u6⟩, _⟩, ⟨⟨_, _, _, _, v5, v6⟩, _⟩⟩ := lawR71_e hL hE
      have hf2 : ∀ i, 0 ≤ i → i ≤ 13 → B1 35 i = B2 35 i := fun i i0 i1 => by rw [frm_a hE.1 (r := 35) rfl, frm_a hE.2 (r := 35) rfl]; exact hf i i0 i1
      exact ⟨seg_sumE71 hlk (by omega) hf2 6 p1 q1 x.2.1 z 0 g1 g1n g2 z0 (Int.le_refl _) ⟨u5, v5⟩ (by decide) (by decide), seg_condE71 hlk (by omega) hf2 5 (by decide) p2 q2 x.2.2 (z + x.2.1.length) g3 g3n g4 (by omega) (Int.le_refl _) ⟨u6, v6⟩⟩
    rw [fC_answer71_L2, fM_told_L2]
    unfold fC_answer71_c2 fM_told_c2
    simp only [qlet, qlp]
    rw [if_pos (show q < A1 71 (fd 7) by omega), if_pos (show q < A2 0 (fd 35) by omega), a1, b1]
    by_cases hw : x.1 = w
    · rw [if_pos hw, if_pos hw, a3, a4, b3, b4]
      have r1 := run71 (segs A1 A2 ⟨frm_0 _ _ _, frm_0 _ _ _⟩).2 (by omega) (by omega) (by omega)
      generalize fC_reckon71 (z + x.2.1.length) (z + x.2.1.length + x.2.2.length) A1 = y1 at r1 ⊢
      generalize fM_comesTo (z + x.2.1.length) (z + x.2.1.length + x.2.2.length) A2 = y2 at r1 ⊢
      obtain ⟨e1, e2, e3⟩ := r1
      have e3 := e3 rfl
      have hL2 := lawR71_e hL e2
      by_cases h0 : y1.1 = 0
      · rw [if_pos h0, if_neg (show ¬ y2.1 = 1 by omega)]
        have ih := ans71 (w := w) hlk hm T (q + 1) (z + x.2.1.length + x.2.2.length) F1 F2 y1.2 y2.2 (by omega) (by omega) (by omega) hz (by rw [frm_f e2.1 (r := 71) (j := 7) rfl]; omega) (by rw [frm_f e2.2 (r := 0) (j := 35) rfl]; omega) ⟨hL2.1.2, hL2.2.2⟩ g5 (fun i i0 i1 => by rw [frm_a e2.1 (r := 35) rfl, frm_a e2.2 (r := 35) rfl]; exact hf i i0 i1)
        exact ⟨ih.1, ih.2.1, Env71_tr e2 ih.2.2⟩
      · rw [if_neg h0, if_pos (show y2.1 = 1 by omega)]
        obtain ⟨⟨⟨_, u2, u3, _, _, _⟩, _⟩, ⟨⟨_, v2, v3, _, _, _⟩, _⟩⟩ := hL2
        rw [u2, v2]
        have r2 := run71 (segs y1.2 y2.2 e2).1 z0 (by omega) (by omega)
        generalize fC_reckon71 z (z + x.2.1.length) y1.2 = k1 at r2 ⊢
        generalize fM_comesTo z (z + x.2.1.length) y2.2 = k2 at r2 ⊢
        obtain ⟨d1, d2, _⟩ := r2
        have hE := Env71_tr e2 d2
        rw [d1]
        by_cases n1 : k2.1 < 0
        · rw [if_pos n1]
          exact ⟨by show max 0 (min m k2.1) = 0; omega, ⟨by show 0 ≤ max 0 (min m k2.1); omega, by show max 0 (min m k2.1) ≤ m; omega⟩, hE⟩
        · rw [if_neg n1]
          by_cases n2 : m < k2.1
          · rw [if_pos n2]
            exact ⟨by show max 0 (min m k2.1) = m; omega, ⟨by show 0 ≤ max 0 (min m k2.1); omega, by show max 0 (min m k2.1) ≤ m; omega⟩, hE⟩
          · rw [if_neg n2]
            exact ⟨by show max 0 (min m k2.1) = k2.1; omega, ⟨by show 0 ≤ max 0 (min m k2.1); omega, by show max 0 (min m k2.1) ≤ m; omega⟩, hE⟩
    · rw [if_neg hw, if_neg hw]
      exact ans71 hlk hm T (q + 1) (z + x.2.1.length + x.2.2.length) F1 F2 A1 A2 (by omega) (by omega) (by omega) hz (by omega) (by omega) ⟨a7, b7⟩ g5 hf
/-! THE TWO GARDENS ALIKE: cells -/
/-- of one cell: net, farmer, what lies in it -/
def RN (A1 A2 : qA) (c : Int) : Prop := (HG A1 c ↔ A2 1 c ≠ 0) ∧ (A2 1 c ≠ 0 → (A1 2 c = A2 3 c ∧ A1 3 c = A2 4 c ∧ A1 4 c = A2 5 c ∧ A1 5 c = A2 6 c) ∧ (A1 8 c = A2 9 c ∧ A1 9 c = A2 10 c))
/-- of one cell: its crop -/
def RK (A1 A2 : qA) (c : Int) : Prop := A2 1 c ≠ 0 → (A1 6 c = A2 7 c ∧ A1 7 c = A2 8 c ∧ A1 10 c = A2 2 c) ∧ (A2 7 c = -1 → A2 8 c = 0 ∧ A2 2 c = 0) ∧ (-1 ≤ A2 7 c ∧ A2 7 c ≤ 5) ∧ (A2 2 c = 0 ∨ A2 2 c = 1) ∧ (0 ≤ A2 8 c ∧ A2 8 c ≤ 200)
def RC1 (A1 A2 : qA) (c : Int) : Prop := RN A1 A2 c ∧ RK A1 A2 c
def RC (A1 A2 : qA) : Prop := (∀ c, 0 ≤ c → c < 48 → RC1 A1 A2 c) ∧ ∀ c, 0 ≤ c → c < 48 → c % 6 ≠ 0 → A2 1 c ≠ 0 → A2 1 (c - 1) ≠ 0
/-- kinds, brow, kitchens, ropes, the day, the seed -/
def RB (A1 A2 : qA) : Prop := (∀ k, 0 ≤ k → k < 6 → (A1 11 k = A2 11 k ∧ A1 12 k = A2 12 k ∧ A1 13 k = A2 13 k) ∧ (0 ≤ A2 11 k ∧ A2 11 k ≤ 20) ∧ (1 ≤ A2 12 k ∧ A2 12 k ≤ 200) ∧ (0 ≤ A2 13 k ∧ A2 13 k ≤ 99)) ∧ (∀ x, 0 ≤ x → x < 8 → (A1 16 x = A2 14 x ∧ A1 17 x = A2 15 x ∧ A1 18 x = A2 16 x) ∧ (A1 19 x = A2 17 x ∧ A1 20 x = A2 18 x) ∧ (A1 21 x = A2 20 x ∧ A1 22 x = A2 21 x) ∧ (0 ≤ A2 14 x ∧ A2 14 x ≤ 99)) ∧ A1 15 (fd 8) = A2 0 (fd 0) ∧ A1 0 (fd 11) = A2 0 (fd 1) ∧ (0 ≤ A2 0 (fd 1) ∧ A2 0 (fd 1) ≤ 65535)
/-- falls -/
def RF (A1 A2 : qA) : Prop := A1 24 (fd 9) = A2 0 (fd 2) ∧ (0 ≤ A2 0 (fd 2) ∧ A2 0 (fd 2) ≤ 60) ∧ ∀ i, 0 ≤ i → i < A2 0 (fd 2) → (A1 25 i = A2 38 i ∧ A1 26 i = A2 39 i ∧ A1 27 i = A2 40 i ∧ A1 30 i = A2 41 i ∧ A1 33 i = A2 43 i) ∧ A1 28 i = A2 45 i ∧ A1 29 i = A2 46 i
/-- the law -/
def RL36 (A1 A2 : qA) : Prop := ∃ (n : Int) (lk : Int → Int) (T : List pX), n ≤ 200 ∧ lkok n lk ∧ goodT n lk 0 T ∧ txLen 0 T ≤ 200 ∧ T.length ≤ 14 ∧ txC36 A1 T ∧ txM A2 T
/-- the law -/
def RL71 (A1 A2 : qA) : Prop := ∃ (n : Int) (lk : Int → Int) (T : List pX), n ≤ 200 ∧ lkok n lk ∧ goodT n lk 0 T ∧ txLen 0 T ≤ 200 ∧ T.length ≤ 14 ∧ txC71 A1 T ∧ txM A2 T
def aRN : List Nat := [2, 3, 4, 5, 8, 9]
def aRNm : List Nat := [3, 4, 5, 6, 9, 10]
def aRK : List Nat := [6, 7, 10]
def aRKm : List Nat := [7, 8, 2]
/-- the places of number d of some rows stay -/
def at_ (L : List Nat) (d : Int) (A B : qA) : Prop := ∀ r ∈ L, B r d = A r d
theorem at_0 (L : List Nat) (d : Int) (A : qA) : at_ L d A A := fun _ _ => rfl
theorem at_c {L : List Nat} {d : Int} {A B C : qA} (h : at_ L d A B) (g : at_ L d B C) : at_ L d A C := fun r hr => (g r hr).trans (h r hr)
theorem at_j {L : List Nat} {d : Int} {A B : qA} (h : at_ L d A B) {r : Nat} {j v : Int} (e : d ≠ j) : at_ L d A (qu B r j v) := fun b hb => (if_neg (fun q => e q.2)).trans (h b hb)
theorem at_n {L : List Nat} {d : Int} {A B : qA} (h : at_ L d A B) {r : Nat} {j v : Int} (e : L.contains r = false) : at_ L d A (qu B r j v) := fun b hb => by
  rw [qu_ne (show b ≠ r from fun q => by
    rw [q] at hb
    have := List.contains_iff_mem.mpr hb
    rw [this] at e
    cases e)]
  exact h b hb
theorem at_f {L : List Nat} {d : Int} {W : List Nat} {V : List (Nat × Nat)} {A B : qA} (f : frm W V A B) (c : (L.all (fun r => noW r W && noV r V)) = true) : at_ L d A B := fun r hr => by rw [frm_a f (List.all_eq_true.mp c r hr)]
theorem RN_e {A1 A2 B1 B2 : qA} {c : Int} (h : RN A1 A2 c) (e1 : B1 1 (fd 0) = A1 1 (fd 0)) (e2 : B2 1 c = A2 1 c) (f : at_ aRN c A1 B1) (g : at_ aRNm c A2 B2) : RN B1 B2 c := by
  unfold RN
  rw [HG_k e1 c, e2, f 2 (by decide), f 3 (by decide), f 4 (by decide), f 5 (by decide), f 8 (by decide), f 9 (by decide), g 3 (by decide), g 4 (by decide), g 5 (by decide), g 6 (by decide), g 9 (by decide), g 10 (by decide)]
  exact h
theorem RK_e {A1 A2 B1 B2 : qA} {c : Int} (h : RK A1 A2 c) (e2 : B2 1 c = A2 1 c) (f : at_ aRK c A1 B1) (g : at_ aRKm c A2 B2) : RK B1 B2 c := by
  unfold RK
  rw [e2, f 6 (by decide), f 7 (by decide), f 10 (by decide), g 7 (by decide), g 8 (by decide), g 2 (by decide)]
  exact h
/-- cells are alike where those that hang are -/
theorem RC_pt {A1 A2 B1 B2 : qA} (h : RC A1 A2) (e1 : B1 1 (fd 0) = A1 1 (fd 0)) (e2 : B2 1 = A2 1) (hp : ∀ d, 0 ≤ d → d < 48 → A2 1 d ≠ 0 → RC1 B1 B2 d) : RC B1 B2 := by
  refine ⟨fun c h0 h1 => ?_, fun c h0 h1 h2 h3 => ?_⟩
  · by_cases q : A2 1 c = 0
    · have q2 : B2 1 c = 0 := by rw [e2]; exact q
      refine ⟨⟨?_, fun z => absurd q2 z⟩, fun z => absurd q2 z⟩
      rw [HG_k e1 c, e2]
      exact (h.1 c h0 h1).1.1
    · exact hp c h0 h1 q
  · rw [e2] at h3 ⊢
    exact h.2 c h0 h1 h2 h3
theorem RC_fr {A1 A2 B1 B2 : qA} (h : RC A1 A2) (e1 : B1 1 (fd 0) = A1 1 (fd 0)) (e2 : B1 2 = A1 2 ∧ B1 3 = A1 3 ∧ B1 4 = A1 4 ∧ B1 5 = A1 5 ∧ B1 6 = A1 6 ∧ B1 7 = A1 7 ∧ B1 8 = A1 8 ∧ B1 9 = A1 9 ∧ B1 10 = A1 10) (f2 : B2 1 = A2 1 ∧ B2 2 = A2 2 ∧ B2 3 = A2 3 ∧ B2 4 = A2 4 ∧ B2 5 = A2 5 ∧ B2 6 = A2 6 ∧ B2 7 = A2 7 ∧ B2 8 = A2 8 ∧ B2 9 = A2 9 ∧ B2 10 = A2 10) : RC B1 B2 := by
  obtain ⟨a2, a3, a4, a5, a6, a7, a8, a9, a10⟩ := e2
  obtain ⟨b1, b2, b3, b4, b5, b6, b7, b8, b9, b10⟩ := f2
  refine ⟨fun c h0 h1 => ?_, fun c h0 h1 h2 h3 => ?_⟩
  · have := h.1 c h0 h1
    unfold RC1 RN RK at this ⊢
    rw [HG_k e1 c, a2, a3, a4, a5, a6, a7, a8, a9, a10, b1, b2, b3, b4, b5, b6, b7, b8, b9, b10]
    exact this
  · rw [b1] at h3 ⊢
    exact h.2 c h0 h1 h2 h3
/-- a cell with a crop: both say so -/
theorem crop_is {A1 A2 : qA} {c : Int} (h : RC1 A1 A2 c) (h0 : 0 ≤ c) (h1 : c < 48) : (0 ≤ c ∧ c ≤ 47 ∧ HG A1 c ∧ 0 ≤ A1 6 c ∧ A1 6 c ≤ 5) ↔ (A2 1 c ≠ 0 ∧ A2 7 c ≠ -1) := by
  obtain ⟨⟨a, _⟩, b⟩ := h
  constructor
  · rintro ⟨_, _, h2, h3, h4⟩
    have h5 := a.mp h2
    have := (b h5).1.1
    exact ⟨h5, by omega⟩
  · rintro ⟨h5, h6⟩
    obtain ⟨⟨g1, _⟩, _, ⟨g2, g3⟩, _⟩ := b h5
    exact ⟨h0, by omega, a.mpr h5, by omega, by omega⟩
theorem hang_is {A1 A2 : qA} {c : Int} (h : RC1 A1 A2 c) (h0 : 0 ≤ c) (h1 : c < 48) : (0 ≤ c ∧ c ≤ 47 ∧ HG A1 c) ↔ A2 1 c ≠ 0 :=
  ⟨fun q => h.1.1.mp q.2.2, fun q => ⟨h0, by omega, h.1.1.mpr q⟩⟩
/-- loads -/
theorem wI_add (a b : Int) : wI (a + wI b) = wI (a + b) := by
  unfold wI
  rw [Int32.toInt_ofInt, Int32.toInt_ofInt, Int32.toInt_ofInt]
  exact Int.add_bmod_bmod
theorem wI_wI (a : Int) : wI (wI a) = wI a := by
  have := wI_add 0 a
  rw [Int.zero_add, Int.zero_add] at this
  exact this
/-- below a cell that does not hang none hangs -/
theorem RC_below {A1 A2 : qA} (h : RC A1 A2) {c : Int} : ∀ (m : Nat) (d : Int), d = c + m → 0 ≤ c → d < 48 → d / 6 = c / 6 → A2 1 c = 0 → A2 1 d = 0
  | 0, d, hd, h0, h1, h2, h3 => by
    rw [show d = c by omega]; exact h3
  | m + 1, d, hd, h0, h1, h2, h3 => by
    have ih := RC_below h m (d - 1) (by omega) h0 (by omega) (by omega) h3
    by_cases q : A2 1 d = 0
    · exact q
    · exact absurd ih (h.2 d (by omega) h1 (by omega) q)
theorem loadM_0 {A1 A2 : qA} (h : RC A1 A2) {c : Int} (h0 : 0 ≤ c) (h1 : c < 48) : ∀ (m F : Nat) (s k : Int), m < F → 6 * (c / 6 + 1) - k ≤ m → c ≤ k → (k < 6 * (c / 6 + 1) → A2 1 k = 0) → rng s → fM_loadOf_L F 4 [c, s, k] A2 = s
  | _, 0, _, _, h, _, _, _, _ => absurd h (Nat.not_lt_zero _)
  | m, F + 1, s, k, hF, hm, hk, hz, hs => by
    rw [fM_loadOf_L4]
    unfold fM_loadOf_c4
    simp only [qlet]
    rw [qd_nn h0, show wI (6 * (c / 6 + 1)) = 6 * (c / 6 + 1) from wI_id ⟨by omega, by omega⟩]
    by_cases hk2 : k < 6 * (c / 6 + 1)
    · rw [if_pos hk2, if_pos (hz hk2), Int.add_zero, wI_id hs, show wI (k + 1) = k + 1 from wI_id ⟨by omega, by omega⟩]
      cases m with
      | zero => exfalso; omega
      | succ m => exact loadM_0 h h0 h1 m F s (k + 1) (by omega) (by omega) (by omega) (fun q => RC_below h (c := k) 1 (k + 1) rfl (by omega) (by omega) (by omega) (hz hk2)) hs
    · rw [if_neg hk2]
theorem load_L {A1 A2 : qA} (h : RC A1 A2) {c : Int} (h0 : 0 ≤ c) (h1 : c < 48) : ∀ (m F1 F2 : Nat) (s k : Int), m < F1 → m < F2 → 6 * (c / 6 + 1) - k ≤ m → c ≤ k → rng s → fC_loadOf_L F1 7 [s, 6 * (c / 6 + 1), k] A1 = fM_loadOf_L F2 4 [c, s, k] A2
  | _, 0, _, _, _, h, _, _, _, _ => absurd h (Nat.not_lt_zero _)
  | _, _, 0, _, _, _, h, _, _, _ => absurd h (Nat.not_lt_zero _)
  | m, F1 + 1, F2 + 1, s, k, hF1, hF2, hm, hk, hs => by
    by_cases hk2 : k < 6 * (c / 6 + 1)
    · have hg := hang_is (h.1 k (by omega) (by omega)) (by omega) (by omega)
      by_cases hh : A2 1 k = 0
      · rw [loadM_0 h h0 h1 m (F2 + 1) s k (by omega) hm hk (fun _ => hh) hs, fC_loadOf_L7]
        unfold fC_loadOf_c7
        simp only [qlet]
        rw [if_pos hk2, if_neg (fun q => hg.mp q hh)]
      · obtain ⟨⟨_, g2, _, _⟩, ⟨g8, g9⟩⟩ := (h.1 k (by omega) (by omega)).1.2 hh
        have g6 := ((h.1 k (by omega) (by omega)).2 hh).1.2.1
        rw [fC_loadOf_L7, fM_loadOf_L4]
        unfold fC_loadOf_c7 fM_loadOf_c4 fM_ownLoad
        simp only [qlet]
        rw [if_pos hk2, if_pos (hg.mpr hh), qd_nn h0, show wI (6 * (c / 6 + 1)) = 6 * (c / 6 + 1) from wI_id ⟨by omega, by omega⟩, if_pos hk2, if_neg hh, g2, g6, g8, g9, wI_add, show wI (k + 1) = k + 1 from wI_id ⟨by omega, by omega⟩]
        cases m with
        | zero => exfalso; omega
        | succ m => exact load_L h h0 h1 m F1 F2 _ (k + 1) (by omega) (by omega) (by omega) (by omega) (wI_rng _)
    · rw [fC_loadOf_L7, fM_loadOf_L4]
      unfold fC_loadOf_c7 fM_loadOf_c4
      simp only [qlet]
      rw [if_neg hk2, qd_nn h0, show wI (6 * (c / 6 + 1)) = 6 * (c / 6 + 1) from wI_id ⟨by omega, by omega⟩, if_neg hk2]
theorem load_is {A1 A2 : qA} (h : RC A1 A2) {c : Int} (h0 : 0 ≤ c) (h1 : c < 48) : fC_loadOf c A1 = fM_loadOf c A2 := by
  have e1 : fC_loadOf c A1 = fC_loadOf_L 100000 7 [0, 6 * (c / 6 + 1), c] A1 := by
    unfold fC_loadOf
    rw [show c - c % 6 + 6 = 6 * (c / 6 + 1) by omega]
  rw [e1]
  exact load_L h h0 h1 10 100000 100000 0 c (by decide) (by decide) (by omega) (Int.le_refl _) ⟨by decide, by decide⟩
/-- which goes first -/
theorem first_L {A1 A2 : qA} (h : RC A1 A2) : ∀ (m F1 F2 : Nat) (k : Int), m < F1 → m < F2 → 48 - k ≤ m → 0 ≤ k → fC_firstOverloaded_L F1 2 [k] A1 = fM_firstGoing_L F2 2 [k] A2
  | _, 0, _, _, h, _, _, _ => absurd h (Nat.not_lt_zero _)
  | _, _, 0, _, _, h, _, _ => absurd h (Nat.not_lt_zero _)
  | m, F1 + 1, F2 + 1, k, hF1, hF2, hm, hk => by
    rw [fC_firstOverloaded_L2, fM_firstGoing_L2]
    unfold fC_firstOverloaded_c2 fM_firstGoing_c2
    simp only [qlet]
    by_cases hk2 : k < 48
    · have hg := hang_is (h.1 k hk hk2) hk hk2
      have hw : wI (k + 1) = k + 1 := wI_id ⟨by omega, by omega⟩
      have hnx : fC_firstOverloaded_L F1 2 [k + 1] A1 = fM_firstGoing_L F2 2 [k + 1] A2 := by
        cases m with
        | zero => exfalso; omega
        | succ m => exact first_L h m F1 F2 (k + 1) (by omega) (by omega) (by omega) (by omega)
      rw [if_pos hk2, if_pos hk2, hw]
      by_cases hh : A2 1 k = 0
      · rw [if_neg (fun q => hg.mp q hh), if_pos hh]
        exact hnx
      · have hkn := ((h.1 k hk hk2).1.2 hh).1.1
        rw [if_pos (hg.mpr hh), if_neg hh, load_is h hk hk2, hkn]
        by_cases hl : A2 3 k < fM_loadOf k A2
        · rw [if_pos hl, if_pos hl]
        · rw [if_neg hl, if_neg hl]
          exact hnx
    · rw [if_neg hk2, if_neg hk2]
theorem first_is {A1 A2 : qA} (h : RC A1 A2) : fC_firstOverloaded A1 = fM_firstGoing A2 := first_L h 48 100000 100000 0 (by decide) (by decide) (by decide) (by decide)
/-! THE TWO GARDENS ALIKE: what stays when other places are written -/
def okFr (AL : List Nat) (FL : List (Nat × Nat)) (W : List Nat) (V : List (Nat × Nat)) : Bool := AL.all (fun r => noW r W && noV r V) && FL.all (fun x => noW x.1 W && noVf x.1 x.2 V)
theorem okFr_a {AL : List Nat} {FL : List (Nat × Nat)} {W : List Nat} {V : List (Nat × Nat)} {A B : qA} (f : frm W V A B) (c : okFr AL FL W V = true) : (∀ r ∈ AL, B r = A r) ∧ (∀ x ∈ FL, B x.1 (fd x.2) = A x.1 (fd x.2)) := by
  unfold okFr at c
  rw [Bool.and_eq_true, List.all_eq_true, List.all_eq_true] at c
  exact ⟨fun r hr => frm_a f (c.1 r hr), fun x hx => frm_f f (c.2 x hx)⟩
def aC1 : List Nat := [2, 3, 4, 5, 6, 7, 8, 9, 10]
def aM1 : List Nat := [1, 2, 3, 4, 5, 6, 7, 8, 9, 10]
def aC2 : List Nat := [11, 12, 13, 16, 17, 18, 19, 20, 21, 22]
def aM2 : List Nat := [11, 12, 13, 14, 15, 16, 17, 18, 20, 21]
def aC3 : List Nat := [25, 26, 27, 28, 29, 30, 33]
def aM3 : List Nat := [38, 39, 40, 41, 43, 45, 46]
def aC4 : List Nat := [37, 38, 39, 40, 41, 42, 72, 73, 74, 75, 76, 77]
def aM4 : List Nat := [29, 30, 31, 32, 33]
theorem RC_f {A1 A2 B1 B2 : qA} {W1 W2 : List Nat} {V1 V2 : List (Nat × Nat)} (h : RC A1 A2) (f1 : frm W1 V1 A1 B1) (f2 : frm W2 V2 A2 B2) (c1 : okFr aC1 [(1, 0)] W1 V1 = true) (c2 : okFr aM1 [] W2 V2 = true) : RC B1 B2 := by
  obtain ⟨a, b⟩ := okFr_a f1 c1
  obtain ⟨c, _⟩ := okFr_a f2 c2
  exact RC_fr h (b (1, 0) (by decide)) ⟨a 2 (by decide), a 3 (by decide), a 4 (by decide), a 5 (by decide), a 6 (by decide), a 7 (by decide), a 8 (by decide), a 9 (by decide), a 10 (by decide)⟩ ⟨c 1 (by decide), c 2 (by decide), c 3 (by decide), c 4 (by decide), c 5 (by decide), c 6 (by decide), c 7 (by decide), c 8 (by decide), c 9 (by decide), c 10 (by decide)⟩
theorem RB_f {A1 A2 B1 B2 : qA} {W1 W2 : List Nat} {V1 V2 : List (Nat × Nat)} (h : RB A1 A2) (f1 : frm W1 V1 A1 B1) (f2 : frm W2 V2 A2 B2) (c1 : okFr aC2 [(15, 8), (0, 11)] W1 V1 = true) (c2 : okFr aM2 [(0, 0), (0, 1)] W2 V2 = true) : RB B1 B2 := by
  obtain ⟨a, b⟩ := okFr_a f1 c1
  obtain ⟨c, d⟩ := okFr_a f2 c2
  have b1 := b (15, 8) (by decide)
  have b2 := b (0, 11) (by decide)
  have d1 := d (0, 0) (by decide)
  have d2 := d (0, 1) (by decide)
  unfold RB at h ⊢
  rw [a 11 (by decide), a 12 (by decide), a 13 (by decide), a 16 (by decide), a 17 (by decide), a 18 (by decide), a 19 (by decide), a 20 (by decide), a 21 (by decide), a 22 (by decide), c 11 (by decide), c 12 (by decide), c 13 (by decide), c 14 (by decide), c 15 (by decide), c 16 (by decide), c 17 (by decide), c 18 (by decide), c 20 (by decide), c 21 (by decide), b1, b2, d1, d2]
  exact h
theorem RF_f {A1 A2 B1 B2 : qA} {W1 W2 : List Nat} {V1 V2 : List (Nat × Nat)} (h : RF A1 A2) (f1 : frm W1 V1 A1 B1) (f2 : frm W2 V2 A2 B2) (c1 : okFr aC3 [(24, 9)] W1 V1 = true) (c2 : okFr aM3 [(0, 2)] W2 V2 = true) : RF B1 B2 := by
  obtain ⟨a, b⟩ := okFr_a f1 c1
  obtain ⟨c, d⟩ := okFr_a f2 c2
  have b1 := b (24, 9) (by decide)
  have d1 := d (0, 2) (by decide)
  unfold RF at h ⊢
  rw [a 25 (by decide), a 26 (by decide), a 27 (by decide), a 28 (by decide), a 29 (by decide), a 30 (by decide), a 33 (by decide), c 38 (by decide), c 39 (by decide), c 40 (by decide), c 41 (by decide), c 43 (by decide), c 45 (by decide), c 46 (by decide), b1, d1]
  exact h
theorem RL36_f {A1 A2 B1 B2 : qA} {W1 W2 : List Nat} {V1 V2 : List (Nat × Nat)} (h : RL36 A1 A2) (f1 : frm W1 V1 A1 B1) (f2 : frm W2 V2 A2 B2) (c1 : okFr [37, 38, 39, 40, 41, 42] [(36, 7)] W1 V1 = true) (c2 : okFr aM4 [(0, 35)] W2 V2 = true) : RL36 B1 B2 := by
  obtain ⟨a, b⟩ := okFr_a f1 c1
  obtain ⟨c, d⟩ := okFr_a f2 c2
  have b2 := b (36, 7) (by decide)
  have d1 := d (0, 35) (by decide)
  unfold RL36 txC36 txM at h ⊢
  rw [a 37 (by decide), a 38 (by decide), a 39 (by decide), a 40 (by decide), a 41 (by decide), a 42 (by decide), c 29 (by decide), c 30 (by decide), c 31 (by decide), c 32 (by decide), c 33 (by decide), b2, d1]
  exact h
theorem RL71_f {A1 A2 B1 B2 : qA} {W1 W2 : List Nat} {V1 V2 : List (Nat × Nat)} (h : RL71 A1 A2) (f1 : frm W1 V1 A1 B1) (f2 : frm W2 V2 A2 B2) (c1 : okFr [72, 73, 74, 75, 76, 77] [(71, 7)] W1 V1 = true) (c2 : okFr aM4 [(0, 35)] W2 V2 = true) : RL71 B1 B2 := by
  obtain ⟨a, b⟩ := okFr_a f1 c1
  obtain ⟨c, d⟩ := okFr_a f2 c2
  have b2 := b (71, 7) (by decide)
  have d1 := d (0, 35) (by decide)
  unfold RL71 txC71 txM at h ⊢
  rw [a 72 (by decide), a 73 (by decide), a 74 (by decide), a 75 (by decide), a 76 (by decide), a 77 (by decide), c 29 (by decide), c 30 (by decide), c 31 (by decide), c 32 (by decide), c 33 (by decide), b2, d1]
  exact h
def RL (A1 A2 : qA) : Prop := (A1 34 (fd 4) = 36 ∧ RL36 A1 A2) ∨ (A1 34 (fd 4) = 71 ∧ RL71 A1 A2)
theorem RL_f {A1 A2 B1 B2 : qA} {W1 W2 : List Nat} {V1 V2 : List (Nat × Nat)} (h : RL A1 A2) (f1 : frm W1 V1 A1 B1) (f2 : frm W2 V2 A2 B2) (c1 : okFr aC4 [(34, 4), (36, 7), (71, 7)] W1 V1 = true) (c2 : okFr aM4 [(0, 35)] W2 V2 = true) : RL B1 B2 := by
  obtain ⟨a, b⟩ := okFr_a f1 c1
  obtain ⟨c, d⟩ := okFr_a f2 c2
  have b1 := b (34, 4) (by decide)
  have b2 := b (36, 7) (by decide)
  have b3 := b (71, 7) (by decide)
  have d1 := d (0, 35) (by decide)
  unfold RL RL36 RL71 txC36 txC71 txM at h ⊢
  rw [a 37 (by decide), a 38 (by decide), a 39 (by decide), a 40 (by decide), a 41 (by decide), a 42 (by decide), a 72 (by decide), a 73 (by decide), a 74 (by decide), a 75 (by decide), a 76 (by decide), a 77 (by decide), c 29 (by decide), c 30 (by decide), c 31 (by decide), c 32 (by decide), c 33 (by decide), b1, b2, b3, d1]
  exact h
theorem RT_f {A1 A2 B1 B2 : qA} {W1 W2 : List Nat} {V1 V2 : List (Nat × Nat)} (h : RT A1 A2) (f1 : frm W1 V1 A1 B1) (f2 : frm W2 V2 A2 B2) (c1 : okFr [53] [(52, 1)] W1 V1 = true) (c2 : okFr [22] [(0, 26)] W2 V2 = true) : RT B1 B2 := by
  obtain ⟨a, b⟩ := okFr_a f1 c1
  obtain ⟨c, d⟩ := okFr_a f2 c2
  exact RT_k h (b (52, 1) (by decide)) (a 53 (by decide)) (d (0, 26) (by decide)) (c 22 (by decide))
def RG (A1 A2 : qA) : Prop := RC A1 A2 ∧ RB A1 A2 ∧ RF A1 A2 ∧ RL A1 A2 ∧ RT A1 A2
theorem RG_f {A1 A2 B1 B2 : qA} {W1 W2 : List Nat} {V1 V2 : List (Nat × Nat)} (h : RG A1 A2) (f1 : frm W1 V1 A1 B1) (f2 : frm W2 V2 A2 B2) (c1 : (okFr aC1 [(1, 0)] W1 V1 && (okFr aC2 [(15, 8), (0, 11)] W1 V1 && (okFr aC3 [(24, 9)] W1 V1 && (okFr aC4 [(34, 4), (36, 7), (71, 7)] W1 V1 && okFr [53] [(52, 1)] W1 V1)))) = true) (c2 : (okFr aM1 [] W2 V2 && (okFr aM2 [(0, 0), (0, 1)] W2 V2 && (okFr aM3 [(0, 2)] W2 V2 && (okFr aM4 [(0, 35)] W2 V2 && okFr [22] [(0, 26)] W2 V2)))) = true) : RG B1 B2 := by
  simp only [Bool.and_eq_true] at c1 c2
  exact ⟨RC_f h.1 f1 f2 c1.1 c2.1, RB_f h.2.1 f1 f2 c1.2.1 c2.2.1, RF_f h.2.2.1 f1 f2 c1.2.2.1 c2.2.2.1, RL_f h.2.2.2.1 f1 f2 c1.2.2.2.1 c2.2.2.2.1, RT_f h.2.2.2.2 f1 f2 c1.2.2.2.2 c2.2.2.2.2⟩
