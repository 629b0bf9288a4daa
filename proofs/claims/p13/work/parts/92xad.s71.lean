/-! WHAT THE STEPS COME TO: class beside reference -/
def Env71 (C1 C2 B1 B2 : qA) : Prop := frm [78] [(71, 9)] C1 B1 ∧ frm [34] [] C2 B2
def Sim71 (C1 C2 B1 B2 : qA) (h : Int) : Prop := Env71 C1 C2 B1 B2 ∧ B1 71 (fd 9) = h ∧ ∀ i, 0 ≤ i → i < h → B1 78 i = B2 34 i
def Seg71 (C1 C2 : qA) (t z z' h : Int) (bo : Bool) : Prop := ∀ (Q : Int × qA → Int × qA → Prop) (F1 F2 : Nat) (B1 B2 : qA), t - z < F1 → t - z < F2 → Sim71 C1 C2 B1 B2 h → (∀ B1' B2', Env71 C1 C2 B1' B2' → Q (0, B1') (0, B2')) → (∀ (F1' F2' : Nat) (B1' B2' : qA), t - z' < F1' → t - z' < F2' → Sim71 C1 C2 B1' B2' (h + 1) → (bo = true → (B1' 78 h = 0 ∨ B1' 78 h = 1)) → Q (fC_reckon71_L F1' 5 [t, z'] B1') (fM_comesTo_L F2' 10 [t, h + 1, 0, z'] B2')) → Q (fC_reckon71_L F1 5 [t, z] B1) (fM_comesTo_L F2 10 [t, h, 0, z] B2)
/-- the same step in both codes -/
def cd71 (C1 C2 : qA) (z g x : Int) : Prop := C1 72 z = g ∧ C1 73 z = x ∧ C2 29 z = 1048576 * opc g + x
theorem cd71_e {C1 C2 B1 B2 : qA} {z g x : Int} (h : cd71 C1 C2 z g x) (e : Env71 C1 C2 B1 B2) : cd71 B1 B2 z g x := by
  unfold cd71 at h ⊢
  rw [frm_a e.1 (r := 72) rfl, frm_a e.1 (r := 73) rfl, frm_a e.2 (r := 29) rfl]
  exact h
theorem push71 {C1 C2 B1 B2 : qA} {h v : Int} (hS : Sim71 C1 C2 B1 B2 h) (h0 : 0 ≤ h) : Sim71 C1 C2 (qu (qu B1 78 h v) 71 (fd 9) (h + 1)) (qu B2 34 h v) (h + 1) := by
  obtain ⟨⟨a, b⟩, c, d⟩ := hS
  refine ⟨⟨frm_sf (frm_s a rfl rfl) rfl rfl, frm_s b rfl rfl⟩, qu_at _ _ _ _, fun i i0 i1 => ?_⟩
  by_cases hi : i = h
  · simp [qu_is, hi]
  · have := d i i0 (by omega)
    simp [qu_is, hi, this]
theorem stC_num71 {t z x h : Int} {F : Nat} {B : qA} (hz : z < t) (z0 : 0 ≤ z) (ht : t ≤ 200) (c1 : B 72 z = 48) (c2 : B 73 z = x) (hh : B 71 (fd 9) = h) (h0 : 0 ≤ h) (h1 : h < 40) : fC_reckon71_L (F + 1) 5 [t, z] B = fC_reckon71_L F 5 [t, z + 1] (qu (qu B 78 h x) 71 (fd 9) (h + 1)) := by
  rw [fC_reckon71_L5]
  unfold fC_reckon71_c5
  simp only [qlet]
  rw [if_pos hz, c1, if_pos rfl, hh, if_pos h1, c2]
  rw [show wI (h + 1) = h + 1 from wI_id ⟨by omega, by omega⟩, show wI (z + 1) = z + 1 from wI_id ⟨by omega, by omega⟩]
theorem stC_let71 {t z x h : Int} {F : Nat} {B : qA} (hz : z < t) (z0 : 0 ≤ z) (ht : t ≤ 200) (c1 : B 72 z = 107) (c2 : B 73 z = x) (hh : B 71 (fd 9) = h) (h0 : 0 ≤ h) (h1 : h < 40) : fC_reckon71_L (F + 1) 5 [t, z] B = fC_reckon71_L F 5 [t, z + 1] (qu (qu B 78 h (B 35 x)) 71 (fd 9) (h + 1)) := by
  rw [fC_reckon71_L5]
  unfold fC_reckon71_c5
  simp only [qlet]
  rw [if_pos hz, c1, if_neg (show ¬ (107 : Int) = 48 by decide), if_pos rfl, hh, if_pos h1, c2]
  rw [show wI (h + 1) = h + 1 from wI_id ⟨by omega, by omega⟩, show wI (z + 1) = z + 1 from wI_id ⟨by omega, by omega⟩]
theorem stC_not71 {t z h : Int} {F : Nat} {B : qA} (hz : z < t) (z0 : 0 ≤ z) (ht : t ≤ 200) (c1 : B 72 z = 33) (hh : B 71 (fd 9) = h + 1) (h0 : 0 ≤ h) : fC_reckon71_L (F + 1) 5 [t, z] B = fC_reckon71_L F 5 [t, z + 1] (qu B 78 h (wI (1 - B 78 h))) := by
  rw [fC_reckon71_L5]
  unfold fC_reckon71_c5
  simp only [qlet]
  rw [if_pos hz, c1, if_neg (show ¬ (33 : Int) = 48 by decide), if_neg (show ¬ (33 : Int) = 107 by decide), hh, if_neg (show ¬ h + 1 < 1 by omega), if_pos rfl, show h + 1 - 1 = h by omega]
  rw [show wI (z + 1) = z + 1 from wI_id ⟨by omega, by omega⟩]
theorem stC_and71 {t z x h : Int} {F : Nat} {B : qA} (hz : z < t) (z0 : 0 ≤ z) (ht : t ≤ 200) (c1 : B 72 z = 38) (c2 : B 73 z = x) (hx : z < x) (hx2 : x ≤ t) (hh : B 71 (fd 9) = h + 1) (h0 : 0 ≤ h) (h1 : h < 100) : fC_reckon71_L (F + 1) 5 [t, z] B = if B 78 h = 0 then fC_reckon71_L F 5 [t, x] B else fC_reckon71_L F 5 [t, z + 1] (qu B 71 (fd 9) h) := by
  rw [fC_reckon71_L5]
  unfold fC_reckon71_c5
  simp only [qlet]
  rw [if_pos hz, c1, if_neg (show ¬ (38 : Int) = 48 by decide), if_neg (show ¬ (38 : Int) = 107 by decide), hh, if_neg (show ¬ h + 1 < 1 by omega), if_neg (show ¬ (38 : Int) = 33 by decide), if_pos rfl, show h + 1 - 1 = h by omega, c2]
  rw [show wI (z + 1) = z + 1 from wI_id ⟨by omega, by omega⟩, show wI h = h from wI_id ⟨by omega, by omega⟩, show wI (x - 1) = x - 1 from wI_id ⟨by omega, by omega⟩, show max z (x - 1) + 1 = x by omega, show wI x = x from wI_id ⟨by omega, by omega⟩]
theorem stC_or71 {t z x h : Int} {F : Nat} {B : qA} (hz : z < t) (z0 : 0 ≤ z) (ht : t ≤ 200) (c1 : B 72 z = 124) (c2 : B 73 z = x) (hx : z < x) (hx2 : x ≤ t) (hh : B 71 (fd 9) = h + 1) (h0 : 0 ≤ h) (h1 : h < 100) : fC_reckon71_L (F + 1) 5 [t, z] B = if B 78 h = 0 then fC_reckon71_L F 5 [t, z + 1] (qu B 71 (fd 9) h) else fC_reckon71_L F 5 [t, x] B := by
  rw [fC_reckon71_L5]
  unfold fC_reckon71_c5
  simp only [qlet]
  rw [if_pos hz, c1, if_neg (show ¬ (124 : Int) = 48 by decide), if_neg (show ¬ (124 : Int) = 107 by decide), hh, if_neg (show ¬ h + 1 < 1 by omega), if_neg (show ¬ (124 : Int) = 33 by decide), if_neg (show ¬ (124 : Int) = 38 by decide), if_pos rfl, show h + 1 - 1 = h by omega, c2]
  rw [show wI (z + 1) = z + 1 from wI_id ⟨by omega, by omega⟩, show wI h = h from wI_id ⟨by omega, by omega⟩, show wI (x - 1) = x - 1 from wI_id ⟨by omega, by omega⟩, show max z (x - 1) + 1 = x by omega, show wI x = x from wI_id ⟨by omega, by omega⟩]
theorem stC_bin71 {t z g h : Int} {F : Nat} {B : qA} (hz : z < t) (z0 : 0 ≤ z) (ht : t ≤ 200) (c1 : B 72 z = g) (hg : g ≠ 48 ∧ g ≠ 107 ∧ g ≠ 33 ∧ g ≠ 38 ∧ g ≠ 124) (hh : B 71 (fd 9) = h + 2) (h0 : 0 ≤ h) (h1 : h < 100) : fC_reckon71_L (F + 1) 5 [t, z] B = if B 78 (h + 1) = 0 ∧ (g = 47 ∨ g = 37) then (0, B) else fC_reckon71_L F 5 [t, z + 1] (qu (qu B 71 (fd 9) (h + 1)) 78 h (fC_joined g (B 78 h) (B 78 (h + 1)) B)) := by
  rw [fC_reckon71_L5]
  unfold fC_reckon71_c5
  simp only [qlet]
  rw [if_pos hz, c1, if_neg hg.1, if_neg hg.2.1, hh, if_neg (show ¬ h + 2 < 1 by omega), if_neg hg.2.2.1, if_neg hg.2.2.2.1, if_neg hg.2.2.2.2, if_neg (show ¬ h + 2 < 2 by omega), show h + 2 - 1 = h + 1 by omega]
  rw [show wI (z + 1) = z + 1 from wI_id ⟨by omega, by omega⟩, show wI (h + 1) = h + 1 from wI_id ⟨by omega, by omega⟩, show h + 1 - 1 = h by omega]
  have e1 : (qu B 71 (fd 9) (h + 1)) 78 = B 78 := by funext i; simp [qu_is]
  rw [e1]
  have e2 : ∀ a b, fC_joined g a b (qu B 71 (fd 9) (h + 1)) = fC_joined g a b B := fun _ _ => rfl
  rw [e2]
  by_cases h2 : B 78 (h + 1) = 0
  · rw [if_pos h2]
    by_cases h3 : g = 47
    · rw [if_pos h3, if_pos ⟨h2, Or.inl h3⟩]
    · rw [if_neg h3]
      by_cases h4 : g = 37
      · rw [if_pos h4, if_pos ⟨h2, Or.inr h4⟩]
      · rw [if_neg h4, if_neg (fun q => by omega)]
  · rw [if_neg h2, if_neg (fun q => h2 q.1)]
theorem stC_end71 {t h : Int} {F : Nat} {B : qA} (hh : B 71 (fd 9) = h) (h0 : 0 < h) : fC_reckon71_L (F + 1) 5 [t, t] B = (B 78 0, B) := by
  rw [fC_reckon71_L5]
  unfold fC_reckon71_c5
  simp only [qlet]
  rw [if_neg (show ¬ t < t by omega), hh, if_pos h0]
theorem seg_num71 {C1 C2 : qA} {t z x h : Int} (hz : z < t) (z0 : 0 ≤ z) (ht : t ≤ 200) (hc : cd71 C1 C2 z 48 x) (hx : 0 ≤ x ∧ x ≤ 99999) (h0 : 0 ≤ h) (h1 : h < 40) : Seg71 C1 C2 t z (z + 1) h false := by
  intro Q F1 F2 B1 B2 f1 f2 hS hR hK
  obtain ⟨F1, rfl⟩ : ∃ F', F1 = F' + 1 := ⟨F1 - 1, by omega⟩
  obtain ⟨F2, rfl⟩ : ∃ F', F2 = F' + 1 := ⟨F2 - 1, by omega⟩
  have hc := cd71_e hc hS.1
  rw [stC_num71 hz z0 ht hc.1 hc.2.1 hS.2.1 h0 h1, stM_num hz z0 ht hc.2.2 hx h0 (by omega)]
  exact hK F1 F2 _ _ (by omega) (by omega) (push71 hS h0) (fun q => by cases q)
theorem seg_let71 {C1 C2 : qA} {t z x h : Int} (hz : z < t) (z0 : 0 ≤ z) (ht : t ≤ 200) (hc : cd71 C1 C2 z 107 x) (hx : 0 ≤ x ∧ x ≤ 13) (hf : ∀ i, 0 ≤ i → i ≤ 13 → C1 35 i = C2 35 i) (h0 : 0 ≤ h) (h1 : h < 40) : Seg71 C1 C2 t z (z + 1) h false := by
  intro Q F1 F2 B1 B2 f1 f2 hS hR hK
  obtain ⟨F1, rfl⟩ : ∃ F', F1 = F' + 1 := ⟨F1 - 1, by omega⟩
  obtain ⟨F2, rfl⟩ : ∃ F', F2 = F' + 1 := ⟨F2 - 1, by omega⟩
  have hc := cd71_e hc hS.1
  have he : B1 35 x = B2 35 x := by rw [frm_a hS.1.1 (r := 35) rfl, frm_a hS.1.2 (r := 35) rfl]; exact hf x hx.1 hx.2
  rw [stC_let71 hz z0 ht hc.1 hc.2.1 hS.2.1 h0 h1, stM_let hz z0 ht hc.2.2 hx h0 (by omega), he]
  exact hK F1 F2 _ _ (by omega) (by omega) (push71 hS h0) (fun q => by cases q)
theorem seg_op71 {C1 C2 : qA} {t z z1 z2 g h : Int} {bo : Bool} (hz : z2 < t) (z0 : 0 ≤ z2) (ht : t ≤ 200) (hc : cd71 C1 C2 z2 g 0) (hg : (2 ≤ opc g ∧ opc g ≤ 9)) (hbo : bo = true → 7 ≤ opc g) (h0 : 0 ≤ h) (h1 : h < 90) (s1 : Seg71 C1 C2 t z z1 h false) (s2 : Seg71 C1 C2 t z1 z2 (h + 1) false) : Seg71 C1 C2 t z (z2 + 1) h bo := by
  intro Q F1 F2 B1 B2 f1 f2 hS hR hK
  refine s1 Q F1 F2 B1 B2 f1 f2 hS hR (fun F1 F2 B1 B2 f1 f2 hS _ => ?_)
  refine s2 Q F1 F2 B1 B2 f1 f2 hS hR (fun F1 F2 B1 B2 f1 f2 hS _ => ?_)
  obtain ⟨F1, rfl⟩ : ∃ F', F1 = F' + 1 := ⟨F1 - 1, by omega⟩
  obtain ⟨F2, rfl⟩ : ∃ F', F2 = F' + 1 := ⟨F2 - 1, by omega⟩
  have hc := cd71_e hc hS.1
  have hgg := opc_ne hg
  have ea : B1 78 h = B2 34 h := hS.2.2 h h0 (by omega)
  have eb : B1 78 (h + 1) = B2 34 (h + 1) := hS.2.2 (h + 1) (by omega) (by omega)
  have hc2 := hc.2.2
  rw [Int.add_zero] at hc2
  rw [show h + 1 + 1 = h + 2 by omega] at hS ⊢
  rw [stC_bin71 hz z0 ht hc.1 hgg.1 hS.2.1 h0 (by omega), stM_bin hz z0 ht hc2 hg h0 (by omega), ea, eb]
  by_cases hd : B2 34 (h + 1) = 0 ∧ (g = 47 ∨ g = 37)
  · rw [if_pos hd, if_pos ⟨hd.1, hgg.2.mp hd.2⟩]
    exact hR _ _ hS.1
  · rw [if_neg hd, if_neg (fun q => hd ⟨q.1, hgg.2.mpr q.2⟩), joined_is hg (fun q => by
      by_cases q2 : B2 34 (h + 1) = 0
      · exact absurd ⟨q2, q⟩ hd
      · exact q2) B1 B2]
    refine hK F1 F2 _ _ (by omega) (by omega) ?_ (fun q => ?_)
    · obtain ⟨⟨a, b⟩, c, d⟩ := hS
      refine ⟨⟨frm_s (frm_sf a rfl rfl) rfl rfl, frm_s b rfl rfl⟩, by simp [qu_is], fun i i0 i1 => ?_⟩
      by_cases hi : i = h
      · simp [qu_is, hi]
      · have := d i i0 (by omega)
        simp [qu_is, hi, this]
    · rw [qu_at]
      exact reckon_bo (hbo q) hg.2 _ _ _
theorem seg_not71 {C1 C2 : qA} {t z z1 h : Int} (hz : z1 < t) (z0 : 0 ≤ z1) (ht : t ≤ 200) (hc : cd71 C1 C2 z1 33 0) (h0 : 0 ≤ h) (h1 : h < 90) (s1 : Seg71 C1 C2 t z z1 h true) : Seg71 C1 C2 t z (z1 + 1) h true := by
  intro Q F1 F2 B1 B2 f1 f2 hS hR hK
  refine s1 Q F1 F2 B1 B2 f1 f2 hS hR (fun F1 F2 B1 B2 f1 f2 hS hb => ?_)
  obtain ⟨F1, rfl⟩ : ∃ F', F1 = F' + 1 := ⟨F1 - 1, by omega⟩
  obtain ⟨F2, rfl⟩ : ∃ F', F2 = F' + 1 := ⟨F2 - 1, by omega⟩
  have hc := cd71_e hc hS.1
  have ea : B1 78 h = B2 34 h := hS.2.2 h h0 (by omega)
  have hb := hb rfl
  rw [stC_not71 hz z0 ht hc.1 hS.2.1 h0, stM_not hz z0 ht hc.2.2 h0 (by omega), ← ea]
  have hv : wI (1 - B1 78 h) = 0 ∨ wI (1 - B1 78 h) = 1 := by
    rcases hb with q | q
    · rw [q]; exact Or.inr (wI_id ⟨by decide, by decide⟩)
    · rw [q]; exact Or.inl (wI_id ⟨by decide, by decide⟩)
  refine hK F1 F2 _ _ (by omega) (by omega) ?_ (fun _ => by rw [qu_at]; exact hv)
  obtain ⟨⟨a, b⟩, c, d⟩ := hS
  refine ⟨⟨frm_s a rfl rfl, frm_s b rfl rfl⟩, by simp [qu_is, c], fun i i0 i1 => ?_⟩
  by_cases hi : i = h
  · simp [qu_is, hi]
  · have := d i i0 (by omega)
    simp [qu_is, hi, this]
theorem seg_jmp71 {C1 C2 : qA} {t z z1 z2 g h : Int} (hz : z1 < z2) (hz2 : z2 ≤ t) (z0 : 0 ≤ z1) (ht : t ≤ 200) (hg : g = 38 ∨ g = 124) (hc : cd71 C1 C2 z1 g z2) (h0 : 0 ≤ h) (h1 : h < 90) (s1 : Seg71 C1 C2 t z z1 h true) (s2 : Seg71 C1 C2 t (z1 + 1) z2 h true) : Seg71 C1 C2 t z z2 h true := by
  intro Q F1 F2 B1 B2 f1 f2 hS hR hK
  refine s1 Q F1 F2 B1 B2 f1 f2 hS hR (fun F1 F2 B1 B2 f1 f2 hS hb => ?_)
  obtain ⟨F1, rfl⟩ : ∃ F', F1 = F' + 1 := ⟨F1 - 1, by omega⟩
  obtain ⟨F2, rfl⟩ : ∃ F', F2 = F' + 1 := ⟨F2 - 1, by omega⟩
  have hc := cd71_e hc hS.1
  have ea : B1 78 h = B2 34 h := hS.2.2 h h0 (by omega)
  have hb := hb rfl
  have hgo : Q (fC_reckon71_L F1 5 [t, z1 + 1] (qu B1 71 (fd 9) h)) (fM_comesTo_L F2 10 [t, h, 0, z1 + 1] B2) := by
    refine s2 Q F1 F2 _ _ (by omega) (by omega) ?_ hR hK
    obtain ⟨⟨a, b⟩, c, d⟩ := hS
    exact ⟨⟨frm_sf a rfl rfl, b⟩, qu_at _ _ _ _, fun i i0 i1 => by rw [← d i i0 (by omega)]; simp [qu_is]⟩
  have hju : Q (fC_reckon71_L F1 5 [t, z2] B1) (fM_comesTo_L F2 10 [t, h + 1, 0, z2] B2) := hK F1 F2 _ _ (by omega) (by omega) hS (fun _ => hb)
  rcases hg with rfl | rfl
  · rw [stC_and71 (by omega) z0 ht hc.1 hc.2.1 hz hz2 hS.2.1 h0 (by omega), stM_and (by omega) z0 ht hc.2.2 hz hz2 h0 (by omega), ea]
    by_cases q : B2 34 h = 0
    · rw [if_pos q, if_pos q]; exact hju
    · rw [if_neg q, if_neg q]; exact hgo
  · rw [stC_or71 (by omega) z0 ht hc.1 hc.2.1 hz hz2 hS.2.1 h0 (by omega), stM_or (by omega) z0 ht hc.2.2 hz hz2 h0 (by omega), ea]
    rw [ea] at hb
    rcases hb with q | q
    · rw [if_pos q, if_neg (show ¬ B2 34 h = 1 by omega)]; exact hgo
    · rw [if_neg (show ¬ B2 34 h = 0 by omega), if_pos q]; exact hju
/-! what P reads -/
def lay71 (C1 C2 : qA) (z : Int) (c : List (Int × Int)) : Prop := cat (C1 72) (C1 73) z c ∧ mcat (C2 29) z (c.map en)
theorem lay71_app {C1 C2 : qA} {z : Int} {c c' : List (Int × Int)} : lay71 C1 C2 z (c ++ c') ↔ lay71 C1 C2 z c ∧ lay71 C1 C2 (z + c.length) c' := by
  unfold lay71
  rw [List.map_append, cat_app, mcat_app, List.length_map]
  exact ⟨fun h => ⟨⟨h.1.1, h.2.1⟩, h.1.2, h.2.2⟩, fun h => ⟨⟨h.1.1, h.2.1⟩, h.1.2, h.2.2⟩⟩
theorem lay71_1 {C1 C2 : qA} {z g x : Int} (h : lay71 C1 C2 z [(g, x)]) : cd71 C1 C2 z g x := ⟨h.1.1.1, h.1.1.2, h.2.1⟩
theorem seg_numP71 {C1 C2 : qA} {lk : Int → Int} {t h : Int} (ht : t ≤ 200) (h0 : 0 ≤ h) (h1 : h < 40) : ∀ (k : Nat) (p x q : Int) (c : List (Int × Int)) (z : Int), p_num lk k p x = .inr (q, c) → (0 ≤ x ∧ (x + 1) * 10 ^ k ≤ 100000) → 0 ≤ z → z + c.length ≤ t → lay71 C1 C2 z c → Seg71 C1 C2 t z (z + c.length) h false
  | 0, p, x, q, c, z, e, hx, z0, hz, hl => by
    unfold p_num at e
    split at e
    · cases e
    · cases e
      simp only [List.length_cons, List.length_nil] at hz ⊢
      exact seg_num71 (by omega) z0 ht (lay71_1 hl) (by omega) h0 h1
  | k + 1, p, x, q, c, z, e, hx, z0, hz, hl => by
    unfold p_num at e
    split at e
    · next hd =>
      refine seg_numP71 ht h0 h1 k _ _ q c z e ?_ z0 hz hl
      have hp : (0 : Int) < 10 ^ k := Int.pow_pos (by decide)
      have e10 : (10 : Int) ^ (k + 1) = 10 ^ k * 10 := Int.pow_succ ..
      rw [e10] at hx
      refine ⟨by omega, ?_⟩
      have h2 : (10 * x + lk p - 48 + 1) * 10 ^ k ≤ (10 * (x + 1)) * 10 ^ k := Int.mul_le_mul_of_nonneg_right (by omega) (by omega)
      have h3 : (10 * (x + 1)) * 10 ^ k = (x + 1) * (10 ^ k * 10) := by
        rw [Int.mul_comm 10 (x + 1), Int.mul_assoc, Int.mul_comm 10 (10 ^ k)]
      omega
    · cases e
      simp only [List.length_cons, List.length_nil] at hz ⊢
      refine seg_num71 (by omega) z0 ht (lay71_1 hl) ?_ h0 h1
      have hp : (1 : Int) ≤ 10 ^ (k + 1) := by
        have := Int.pow_pos (n := (10 : Int)) (m := k + 1) (by decide)
        omega
      have := Int.mul_le_mul_of_nonneg_left hp (show (0 : Int) ≤ x + 1 by omega)
      omega
theorem seg_fac71 {C1 C2 : qA} {n : Int} {lk : Int → Int} (hlk : lkok n lk) {t h : Int} (ht : t ≤ 200) (h0 : 0 ≤ h) (h1 : h < 40) (hf : ∀ i, 0 ≤ i → i ≤ 13 → C1 35 i = C2 35 i) {op : Int → pR} {p q z : Int} {c : List (Int × Int)} (hp : 0 ≤ p) (e : p_fac lk op p = .inr (q, c)) (z0 : 0 ≤ z) (hz : z + c.length ≤ t) (hl : lay71 C1 C2 z c) (hop : op p = .inr (q, c) → Seg71 C1 C2 t z (z + c.length) h false) : Seg71 C1 C2 t z (z + c.length) h false := by
  unfold p_fac at e
  split at e
  · exact hop e
  · split at e
    · exact seg_numP71 ht h0 h1 5 p 0 q c z e ⟨by decide, by decide⟩ z0 hz hl
    · split at e
      · cases e
      · next h3 =>
        cases e
        have hb := hlk p hp
        have hi := lk_one hlk hp h3
        have hq := qix_bd 0 (lk p)
        simp only [List.length_cons, List.length_nil] at hz ⊢
        exact seg_let71 (by omega) z0 ht (lay71_1 hl) (by omega) hf h0 h1
/-- one behind the other -/
theorem seg_bin71 {C1 C2 : qA} {n : Int} {lk : Int → Int} (hlk : lkok n lk) {t h d : Int} {o : Nat} {f : Int → pR} (ho : o = 3 ∨ o = 4) (ht : t ≤ 200) (h0 : 0 ≤ h) (hd : h + 1 + d ≤ 40) (d0 : 0 ≤ d) (hok : ∀ p, 0 ≤ p → p ≤ n → pOk n p (f p)) (hf : ∀ p q c z h', 0 ≤ p → p ≤ n → f p = .inr (q, c) → 0 ≤ z → z + c.length ≤ t → lay71 C1 C2 z c → 0 ≤ h' → h' + d ≤ 40 → Seg71 C1 C2 t z (z + c.length) h' false) {z : Int} (z0 : 0 ≤ z) : ∀ (k : Nat) (p q : Int) (c c1 : List (Int × Int)), 0 ≤ p → p ≤ n → p_bin lk o f k p c = .inr (q, c1) → z + c1.length ≤ t → lay71 C1 C2 z c1 → (z + c.length ≤ t → lay71 C1 C2 z c → Seg71 C1 C2 t z (z + c.length) h false) → Seg71 C1 C2 t z (z + c1.length) h false
  | 0, p, q, c, c1, hp, hn, e, hz, hl, hs => by
    unfold p_bin at e
    cases e
    exact hs hz hl
  | k + 1, p, q, c, c1, hp, hn, e, hz, hl, hs => by
    unfold p_bin at e
    split at e
    · cases e
      exact hs hz hl
    · next hq =>
      have hin := lk_one hlk hp hq
      have h8 := hok (p + 1) (by omega) (by omega)
      rcases hx : f (p + 1) with e' | ⟨q', c'⟩
      · rw [hx] at e
        cases e
      · rw [hx] at e h8
        obtain ⟨a1, a2, a3⟩ := h8
        refine seg_bin71 hlk ho ht h0 hd d0 hok hf z0 k q' q _ c1 (by omega) a2 e hz hl (fun hz2 hl2 => ?_)
        obtain ⟨l1, l2⟩ := lay71_app.mp hl2
        obtain ⟨l3, l4⟩ := lay71_app.mp l1
        simp only [List.length_append, List.length_cons, List.length_nil] at hz2 l2 ⊢
        have hs1 := hs (by omega) l3
        have hs2 := hf (p + 1) q' c' (z + c.length) (h + 1) (by omega) (by omega) hx (by omega) (by omega) l4 (by omega) (by omega)
        have hb := hlk p hp
        have hsg := sg_sum hb.1.1 hb.1.2 aZ
        have hg : 2 ≤ opc (lk p) ∧ opc (lk p) ≤ 9 := by
          rcases hsg with y | y | y
          · rcases ho with rfl | rfl
            · exact absurd y.1 hq
            · exact absurd y.2.1 hq
          · omega
          · omega
        have := seg_op71 (bo := false) (z := z) (z1 := z + c.length) (z2 := z + c.length + c'.length) (g := lk p) (by omega) (by omega) ht (by
          have := lay71_1 l2
          rw [show z + ((c.length + c'.length : Nat) : Int) = z + c.length + c'.length by omega] at this
          exact this) hg (fun q => by cases q) h0 (by omega) hs1 hs2
        rw [show z + ((c.length + c'.length + (0 + 1) : Nat) : Int) = z + c.length + c'.length + 1 by omega]
        exact this
theorem seg_term71 {C1 C2 : qA} {n : Int} {lk : Int → Int} (hlk : lkok n lk) {t d : Int} {f : Int → pR} (ht : t ≤ 200) (d0 : 0 ≤ d) (hok : ∀ p, 0 ≤ p → p ≤ n → pOk n p (f p)) (hf : ∀ p q c z h', 0 ≤ p → p ≤ n → f p = .inr (q, c) → 0 ≤ z → z + c.length ≤ t → lay71 C1 C2 z c → 0 ≤ h' → h' + d ≤ 40 → Seg71 C1 C2 t z (z + c.length) h' false) (o : Nat) (ho : o = 3 ∨ o = 4) (p q : Int) (c : List (Int × Int)) (z h : Int) (hp : 0 ≤ p) (hn : p ≤ n) (e : p_bind (f p) (fun q c => p_bin lk o f 200 q c) = .inr (q, c)) (z0 : 0 ≤ z) (hz : z + c.length ≤ t) (hl : lay71 C1 C2 z c) (h0 : 0 ≤ h) (hd : h + (d + 1) ≤ 40) : Seg71 C1 C2 t z (z + c.length) h false := by
  have h8 := hok p hp hn
  rcases hx : f p with e' | ⟨q', c'⟩
  · rw [hx] at e
    cases e
  · rw [hx] at e h8
    obtain ⟨a1, a2, a3⟩ := h8
    exact seg_bin71 hlk ho ht h0 (by omega) d0 hok hf z0 200 q' q c' c (by omega) a2 e hz hl (fun hz2 hl2 => hf p q' c' z h hp hn hx z0 hz2 hl2 h0 (by omega))
theorem seg_facE71 {C1 C2 : qA} {n : Int} {lk : Int → Int} (hlk : lkok n lk) {t : Int} (ht : t ≤ 200) (hf : ∀ i, 0 ≤ i → i ≤ 13 → C1 35 i = C2 35 i) : ∀ (e : Nat) (p q : Int) (c : List (Int × Int)) (z h : Int), 0 ≤ p → p ≤ n → p_facE lk e p = .inr (q, c) → 0 ≤ z → z + c.length ≤ t → lay71 C1 C2 z c → 0 ≤ h → h + (2 * (e : Int) + 1) ≤ 40 → Seg71 C1 C2 t z (z + c.length) h false
  | 0, p, q, c, z, h, hp, hn, he, z0, hz, hl, h0, hd => by
    refine seg_fac71 hlk ht h0 (by omega) hf hp he z0 hz hl (fun q => by cases q)
  | e + 1, p, q, c, z, h, hp, hn, he, z0, hz, hl, h0, hd => by
    refine seg_fac71 hlk ht h0 (by omega) hf hp he z0 hz hl (fun hq => ?_)
    obtain ⟨q', hx⟩ := clo_inv hq
    have hpn : p + 1 ≤ n := by
      by_cases h9 : p + 1 ≤ n
      · exact h9
      · exfalso
        have h91 : lk p = 91 := by
          by_cases h91 : lk p = 91
          · exact h91
          · exfalso
            have he : p_fac lk _ p = .inr (q, c) := he
            unfold p_fac at he
            rw [if_neg h91] at he
            have := (hlk p hp).2 (by omega)
            rw [this, if_neg (by decide), if_pos (by decide)] at he
            cases he
        have := lk_in hlk hp (by omega)
        omega
    exact seg_term71 hlk ht (d := 2 * (e : Int) + 2) (by omega) (pOk_termE hlk e) (fun p q c z h hp hn he z0 hz hl h0 hd => seg_term71 hlk ht (d := 2 * (e : Int) + 1) (by omega) (pOk_facE hlk e) (seg_facE71 hlk ht hf e) 4 (Or.inr rfl) p q c z h hp hn he z0 hz hl h0 (by omega)) 3 (Or.inl rfl) (p + 1) q' c z h (by omega) hpn hx z0 hz hl h0 (by omega)
theorem seg_sumE71 {C1 C2 : qA} {n : Int} {lk : Int → Int} (hlk : lkok n lk) {t : Int} (ht : t ≤ 200) (hf : ∀ i, 0 ≤ i → i ≤ 13 → C1 35 i = C2 35 i) (e : Nat) (p q : Int) (c : List (Int × Int)) (z h : Int) (hp : 0 ≤ p) (hn : p ≤ n) (he : p_sumE lk e p = .inr (q, c)) (z0 : 0 ≤ z) (hz : z + c.length ≤ t) (hl : lay71 C1 C2 z c) (h0 : 0 ≤ h) (hd : h + (2 * (e : Int) + 3) ≤ 40) : Seg71 C1 C2 t z (z + c.length) h false :=
  seg_term71 hlk ht (d := 2 * (e : Int) + 2) (by omega) (pOk_termE hlk e) (fun p q c z h hp hn he z0 hz hl h0 hd => seg_term71 hlk ht (d := 2 * (e : Int) + 1) (by omega) (pOk_facE hlk e) (seg_facE71 hlk ht hf e) 4 (Or.inr rfl) p q c z h hp hn he z0 hz hl h0 (by omega)) 3 (Or.inl rfl) p q c z h hp hn he z0 hz hl h0 (by omega)
theorem seg_cmp71 {C1 C2 : qA} {n : Int} {lk : Int → Int} (hlk : lkok n lk) {t : Int} (ht : t ≤ 200) (hf : ∀ i, 0 ≤ i → i ≤ 13 → C1 35 i = C2 35 i) (e : Nat) (he6 : e ≤ 6) (p q : Int) (c : List (Int × Int)) (z : Int) (hp : 0 ≤ p) (hn : p ≤ n) (he : p_cmp lk (p_sumE lk e) p = .inr (q, c)) (z0 : 0 ≤ z) (hz : z + c.length ≤ t) (hl : lay71 C1 C2 z c) : Seg71 C1 C2 t z (z + c.length) 0 true := by
  have h8 := pOk_sumE hlk e p hp hn
  unfold p_cmp at he
  rcases hx : p_sumE lk e p with e' | ⟨q1, c1⟩
  · rw [hx] at he
    cases he
  · rw [hx] at he h8
    obtain ⟨a1, a2, a3⟩ := h8
    have he : (if qone 2 (lk q1) = 0 then (.inl (-1000 - q1) : pR) else p_bind (p_sumE lk e (q1 + 1)) fun q' c' => .inr (q', c1 ++ c' ++ [(lk q1, 0)])) = .inr (q, c) := he
    split at he
    · cases he
    · next hq =>
      have hin := lk_one hlk (p := q1) (by omega) hq
      have h8 := pOk_sumE hlk e (q1 + 1) (by omega) (by omega)
      rcases hy : p_sumE lk e (q1 + 1) with e' | ⟨q2, c2⟩
      · rw [hy] at he
        cases he
      · rw [hy] at he h8
        cases he
        obtain ⟨l1, l2⟩ := lay71_app.mp hl
        obtain ⟨l3, l4⟩ := lay71_app.mp l1
        simp only [List.length_append, List.length_cons, List.length_nil] at hz l2 ⊢
        have hs1 := seg_sumE71 hlk ht hf e p q1 c1 z 0 hp hn hx z0 (by omega) l3 (by decide) (by omega)
        have hs2 := seg_sumE71 hlk ht hf e (q1 + 1) q c2 (z + c1.length) (0 + 1) (by omega) (by omega) hy (by omega) (by omega) l4 (by decide) (by omega)
        have hb := hlk q1 (by omega)
        have hcm := sg_cmp hb.1.1 hb.1.2
        have hg : 7 ≤ opc (lk q1) ∧ opc (lk q1) ≤ 9 := by
          have h3 : lk q1 = 60 ∨ lk q1 = 62 ∨ lk q1 = 61 := by
            by_cases y : lk q1 = 60 ∨ lk q1 = 62 ∨ lk q1 = 61
            · exact y
            · exact absurd (hcm.mpr y) hq
          rcases h3 with y | y | y <;> rw [y] <;> decide
        have := seg_op71 (bo := true) (z := z) (z1 := z + c1.length) (z2 := z + c1.length + c2.length) (g := lk q1) (by omega) (by omega) ht (by
          have := lay71_1 l2
          rw [show z + ((c1.length + c2.length : Nat) : Int) = z + c1.length + c2.length by omega] at this
          exact this) (by omega) (fun _ => hg.1) (by decide) (by decide) hs1 hs2
        rw [show z + ((c1.length + c2.length + (0 + 1) : Nat) : Int) = z + c1.length + c2.length + 1 by omega]
        exact this
theorem seg_jmpP71 {C1 C2 : qA} {n : Int} {lk : Int → Int} (hlk : lkok n lk) {t g : Int} {f : Int → Int → pR} (hg : g = 38 ∨ g = 124) (ht : t ≤ 200) (hok : ∀ y p, 0 ≤ p → p ≤ n → pOk n p (f y p)) (hf : ∀ p q c z, 0 ≤ p → p ≤ n → f z p = .inr (q, c) → 0 ≤ z → z + c.length ≤ t → lay71 C1 C2 z c → Seg71 C1 C2 t z (z + c.length) 0 true) {z : Int} (z0 : 0 ≤ z) : ∀ (k : Nat) (p q : Int) (c c1 : List (Int × Int)), 0 ≤ p → p ≤ n → p_jmp lk g f z k p c = .inr (q, c1) → z + c1.length ≤ t → lay71 C1 C2 z c1 → (z + c.length ≤ t → lay71 C1 C2 z c → Seg71 C1 C2 t z (z + c.length) 0 true) → Seg71 C1 C2 t z (z + c1.length) 0 true
  | 0, p, q, c, c1, hp, hn, e, hz, hl, hs => by
    unfold p_jmp at e
    cases e
    exact hs hz hl
  | k + 1, p, q, c, c1, hp, hn, e, hz, hl, hs => by
    unfold p_jmp at e
    split at e
    · next hq =>
      have hin := lk_in hlk hp (by omega)
      have h8 := hok (z + c.length + 1) (p + 1) (by omega) (by omega)
      rcases hx : f (z + c.length + 1) (p + 1) with e' | ⟨q', c'⟩
      · rw [hx] at e
        cases e
      · rw [hx] at e h8
        obtain ⟨a1, a2, a3⟩ := h8
        refine seg_jmpP71 hlk hg ht hok hf z0 k q' q _ c1 (by omega) a2 e hz hl (fun hz2 hl2 => ?_)
        obtain ⟨l1, l2⟩ := lay71_app.mp hl2
        obtain ⟨l3, l4⟩ := lay71_app.mp l1
        simp only [List.length_append, List.length_cons, List.length_nil] at hz2 l2 ⊢
        have hs1 := hs (by omega) l3
        rw [show z + ((c.length + (0 + 1) : Nat) : Int) = z + c.length + 1 by omega] at l2
        have hs2 := hf (p + 1) q' c' (z + c.length + 1) (by omega) (by omega) hx (by omega) (by omega) l2
        have := seg_jmp71 (z := z) (z1 := z + c.length) (z2 := z + c.length + 1 + c'.length) (by omega) (by omega) (by omega) ht hg (lay71_1 l4) (by decide) (by decide) hs1 hs2
        rw [show z + ((c.length + (0 + 1) + c'.length : Nat) : Int) = z + c.length + 1 + c'.length by omega]
        exact this
    · cases e
      exact hs hz hl
theorem seg_part71 {C1 C2 : qA} {n : Int} {lk : Int → Int} (hlk : lkok n lk) {t g : Int} {f : Int → Int → pR} (hg : g = 38 ∨ g = 124) (ht : t ≤ 200) (hok : ∀ y p, 0 ≤ p → p ≤ n → pOk n p (f y p)) (hf : ∀ p q c z, 0 ≤ p → p ≤ n → f z p = .inr (q, c) → 0 ≤ z → z + c.length ≤ t → lay71 C1 C2 z c → Seg71 C1 C2 t z (z + c.length) 0 true) (p q : Int) (c : List (Int × Int)) (z : Int) (hp : 0 ≤ p) (hn : p ≤ n) (e : p_bind (f z p) (fun q c => p_jmp lk g f z 200 q c) = .inr (q, c)) (z0 : 0 ≤ z) (hz : z + c.length ≤ t) (hl : lay71 C1 C2 z c) : Seg71 C1 C2 t z (z + c.length) 0 true := by
  have h8 := hok z p hp hn
  rcases hx : f z p with e' | ⟨q', c'⟩
  · rw [hx] at e
    cases e
  · rw [hx] at e h8
    obtain ⟨a1, a2, a3⟩ := h8
    exact seg_jmpP71 hlk hg ht hok hf z0 200 q' q c' c (by omega) a2 e hz hl (fun hz2 hl2 => hf p q' c' z hp hn hx z0 hz2 hl2)
theorem seg_pieceE71 {C1 C2 : qA} {n : Int} {lk : Int → Int} (hlk : lkok n lk) {t : Int} (ht : t ≤ 200) (hf : ∀ i, 0 ≤ i → i ≤ 13 → C1 35 i = C2 35 i) : ∀ (e : Nat), e ≤ 6 → ∀ (p q : Int) (c : List (Int × Int)) (z : Int), 0 ≤ p → p ≤ n → p_pieceE lk e z p = .inr (q, c) → 0 ≤ z → z + c.length ≤ t → lay71 C1 C2 z c → Seg71 C1 C2 t z (z + c.length) 0 true
  | 0, he6, p, q, c, z, hp, hn, he, z0, hz, hl => by
    have he : (if lk p = 40 then (.inl (-5000 - p) : pR) else (if lk p = 33 then .inl (-5000 - p) else p_cmp lk (p_sumE lk 0) p)) = .inr (q, c) := he
    split at he
    · cases he
    · split at he
      · cases he
      · exact seg_cmp71 hlk ht hf 0 (by decide) p q c z hp hn he z0 hz hl
  | e + 1, he6, p, q, c, z, hp, hn, he, z0, hz, hl => by
    have he : (if lk p = 40 then p_clo lk (p_cond lk (p_pieceE lk e) z (p + 1)) 41 else (if lk p = 33 then p_bind (p_pieceE lk e z (p + 1)) fun q c => .inr (q, c ++ [(33, 0)]) else p_cmp lk (p_sumE lk (e + 1)) p)) = .inr (q, c) := he
    split at he
    · next h1 =>
      have hin := lk_in hlk hp (by omega)
      obtain ⟨q', hx⟩ := clo_inv he
      exact seg_part71 hlk (Or.inr rfl) ht (pOk_part hlk (pOk_pieceE hlk e)) (fun p q c z hp hn he z0 hz hl => seg_part71 hlk (Or.inl rfl) ht (pOk_pieceE hlk e) (fun p q c z hp hn he z0 hz hl => seg_pieceE71 hlk ht hf e (by omega) p q c z hp hn he z0 hz hl) p q c z hp hn he z0 hz hl) (p + 1) q' c z (by omega) (by omega) hx z0 hz hl
    · split at he
      · next h2 =>
        have hin := lk_in hlk hp (by omega)
        rcases hx : p_pieceE lk e z (p + 1) with e' | ⟨q', c'⟩
        · rw [hx] at he
          cases he
        · rw [hx] at he
          cases he
          obtain ⟨l1, l2⟩ := lay71_app.mp hl
          simp only [List.length_append, List.length_cons, List.length_nil] at hz ⊢
          have hs := seg_pieceE71 hlk ht hf e (by omega) (p + 1) q c' z (by omega) (by omega) hx z0 (by omega) l1
          have := seg_not71 (z1 := z + c'.length) (by omega) (by omega) ht (lay71_1 l2) (by decide) (by decide) hs
          rw [show z + ((c'.length + (0 + 1) : Nat) : Int) = z + c'.length + 1 by omega]
          exact this
      · exact seg_cmp71 hlk ht hf (e + 1) he6 p q c z hp hn he z0 hz hl
theorem seg_condE71 {C1 C2 : qA} {n : Int} {lk : Int → Int} (hlk : lkok n lk) {t : Int} (ht : t ≤ 200) (hf : ∀ i, 0 ≤ i → i ≤ 13 → C1 35 i = C2 35 i) (e : Nat) (he6 : e ≤ 6) (p q : Int) (c : List (Int × Int)) (z : Int) (hp : 0 ≤ p) (hn : p ≤ n) (he : p_condE lk e z p = .inr (q, c)) (z0 : 0 ≤ z) (hz : z + c.length ≤ t) (hl : lay71 C1 C2 z c) : Seg71 C1 C2 t z (z + c.length) 0 true :=
  seg_part71 hlk (Or.inr rfl) ht (pOk_part hlk (pOk_pieceE hlk e)) (fun p q c z hp hn he z0 hz hl => seg_part71 hlk (Or.inl rfl) ht (pOk_pieceE hlk e) (fun p q c z hp hn he z0 hz hl => seg_pieceE71 hlk ht hf e he6 p q c z hp hn he z0 hz hl) p q c z hp hn he z0 hz hl) p q c z hp hn he z0 hz hl
