/-! DROUGHT: what a row weighs, alike in both -/
def setV (A : qA) (v : Int → Int) : qA := fun r i => if r = 49 then v i else A r i
def setM (A : qA) (v : Int → Int) : qA := fun r i => if r = 36 then v i else A r i
theorem setV_n {A : qA} {v : Int → Int} {r : Nat} (h : r ≠ 49) : (setV A v) r = A r := by
  funext i
  exact if_neg h
theorem setM_n {A : qA} {v : Int → Int} {r : Nat} (h : r ≠ 36) : (setM A v) r = A r := by
  funext i
  exact if_neg h
theorem setV_y {A : qA} {v : Int → Int} (i : Int) : (setV A v) 49 i = v i := if_pos rfl
theorem setM_y {A : qA} {v : Int → Int} (i : Int) : (setM A v) 36 i = v i := if_pos rfl
def WT (A1 : qA) (v : Int → Int) : Int := sumP (fun c => gvv A1 c ((fC_pourB (setV A1 v)) 50 c)) 48 0
def DCW : List Nat := [49, 47, 48, 51, 45, 46, 50, 35, 43, 78]
def DCV : List (Nat × Nat) := [(44, 9), (44, 10), (36, 9), (71, 9)]
theorem gvv_0 {A1 A2 : qA} {c k : Int} (h : GR A1 A2) (c0 : 0 ≤ c) (c1 : c < 48) (hz : ¬ (A2 1 c ≠ 0 ∧ A2 7 c ≠ -1)) : gvv A1 c k = 0 := by
  unfold gvv
  rw [if_neg (fun z => hz ((crop_is (h.1.2 c c0 c1 trivial) c0 c1).mp z))]
theorem gvv_bd {A1 A2 : qA} {c k : Int} (h : GR A1 A2) (c0 : 0 ≤ c) (c1 : c < 48) : 0 ≤ gvv A1 c k ∧ gvv A1 c k ≤ 50 := by
  by_cases z : A2 1 c ≠ 0 ∧ A2 7 c ≠ -1
  · unfold gvv
    rw [if_pos ((crop_is (h.1.2 c c0 c1 trivial) c0 c1).mpr z)]
    exact (grow_same (k := k) h (frm_0 EW EXv A1) c0 c1 z.1).2.1
  · rw [gvv_0 h c0 c1 z]
    exact ⟨by decide, by decide⟩
theorem WT_eq {A1 A2 : qA} (h : GR A1 A2) {κ v : Int → Int} (e : ∀ c, 0 ≤ c → c < 48 → A2 1 c ≠ 0 → κ c = (fC_pourB (setV A1 v)) 50 c) : sumP (fun c => gvv A1 c (κ c)) 48 0 = WT A1 v := by
  unfold WT
  refine sumP_c 48 0 (fun i i0 i1 => ?_)
  by_cases z : A2 1 i ≠ 0
  · rw [e i i0 (by omega) z]
  · rw [gvv_0 h i0 (by omega) (fun q => z q.1), gvv_0 h i0 (by omega) (fun q => z q.1)]
theorem WT_nn {A1 A2 : qA} (h : GR A1 A2) (v : Int → Int) : 0 ≤ WT A1 v := sumP_nn 48 0 (fun i i0 i1 => (gvv_bd h i0 (by omega)).1)
theorem WH_k {A1 A2 B1 B2 : qA} (h : WH A1 A2) (e1 : B1 1 (fd 0) = A1 1 (fd 0)) (e5 : B1 5 = A1 5) (e6 : B1 6 = A1 6) (e11 : B1 11 = A1 11) (m1 : B2 1 = A2 1) (m6 : B2 6 = A2 6) (m7 : B2 7 = A2 7) (m11 : B2 11 = A2 11) : WH B1 B2 := by
  refine ⟨fun d d0 d1 => ?_, fun k k0 k1 => ?_⟩
  · rw [HG_k e1 d, e5, e6, m1, m6, m7]
    exact h.1 d d0 d1
  · rw [e11, m11]
    exact h.2 k k0 k1
theorem keptM {A1 A2 C : qA} {v : Int → Int} (hH : WH A1 A2) (f : frm DRW [] A2 C) (hv : ∀ x, 0 ≤ x → x < 8 → C 36 x = v x ∧ 0 ≤ v x ∧ v x ≤ 99) : ∀ c, 0 ≤ c → c < 48 → A2 1 c ≠ 0 → (fM_flows C) 10 c = (fC_pourB (setV A1 v)) 50 c := by
  have hW : WH (setV A1 v) C := WH_k hH (by rw [setV_n (by decide)]) (setV_n (by decide)) (setV_n (by decide)) (setV_n (by decide)) (frm_a f (r := 1) rfl) (frm_a f (r := 6) rfl) (frm_a f (r := 7) rfl) (frm_a f (r := 11) rfl)
  obtain ⟨_, _, p⟩ := pourB_is hW (fun i i0 i1 => by
    obtain ⟨u, w⟩ := hv i i0 i1
    rw [setV_y, u]
    exact ⟨rfl, w⟩)
  intro c c0 c1 z
  exact (p c c0 c1 (by rw [frm_a f (r := 1) rfl]; exact z) (by omega)).symm
theorem keptC2 {A1 A2 B : qA} {v : Int → Int} (hH : WH A1 A2) (f : frm DCW DCV A1 B) (hv : ∀ x, 0 ≤ x → x < 8 → B 49 x = v x ∧ 0 ≤ v x ∧ v x ≤ 99) : frm [45, 46, 50] [] B (fC_pourB B) ∧ ∀ c, 0 ≤ c → c < 48 → A2 1 c ≠ 0 → (fC_pourB B) 50 c = (fC_pourB (setV A1 v)) 50 c := by
  have hW1 : WH B (setM A2 v) := WH_k hH (frm_f f rfl) (frm_a f rfl) (frm_a f rfl) (frm_a f rfl) (setM_n (by decide)) (setM_n (by decide)) (setM_n (by decide)) (setM_n (by decide))
  have hW2 : WH (setV A1 v) (setM A2 v) := WH_k hH (by rw [setV_n (by decide)]) (setV_n (by decide)) (setV_n (by decide)) (setV_n (by decide)) (setM_n (by decide)) (setM_n (by decide)) (setM_n (by decide)) (setM_n (by decide))
  obtain ⟨⟨f1, _⟩, _, p⟩ := pourB_is hW1 (fun i i0 i1 => by
    obtain ⟨u, w⟩ := hv i i0 i1
    rw [setM_y, u]
    exact ⟨rfl, w⟩)
  obtain ⟨_, _, q⟩ := pourB_is hW2 (fun i i0 i1 => by
    obtain ⟨u, w⟩ := hv i i0 i1
    rw [setM_y, setV_y]
    exact ⟨rfl, w⟩)
  refine ⟨f1, fun c c0 c1 z => ?_⟩
  have z2 : (setM A2 v) 1 c ≠ 0 := by rw [setM_n (by decide)]; exact z
  exact (p c c0 c1 z2 (by omega)).trans (q c c0 c1 z2 (by omega)).symm
theorem qlp_e {β : Type} (p : Int × qA) (f : Int → qA → β) : qlp p f = f p.1 p.2 := (qlp.eq_1 p f).trans (Eq.refl (f p.1 p.2))
theorem growM_L {A1 A2 M : qA} (h : GR A1 A2) (f : frm DRW [] A2 M) : ∀ (m F : Nat) (c s : Int) (B : qA), c + m = 48 → 0 ≤ c → frm [34, 35] [] M B → 0 ≤ s → s ≤ 50 * c → (fM_growth_L (F + m + 1) 4 [s, c] B).1 = s + sumP (fun x => gvv A1 x (M 10 x)) m c := by
  intro m
  induction m with
  | zero =>
    intro F c s B hm c0 g s0 s1
    rw [fM_growth_L4]
    unfold fM_growth_c4
    simp only [qlet_e]
    rw [if_neg (show ¬ c < 48 by omega)]
    show s = s + 0
    omega
  | succ m ih =>
    intro F c s B hm c0 g s0 s1
    have c1 : c < 48 := by omega
    have g2 : frm DRW [] A2 B := frm_c f g rfl
    have hc := h.1.2 c c0 c1 trivial
    have hb := gvv_bd (k := M 10 c) h c0 c1
    rw [show F + (m + 1) + 1 = (F + m + 1) + 1 by omega, fM_growth_L4]
    unfold fM_growth_c4
    simp only [qlet_e, qlp_e]
    rw [if_pos c1, show wI (c + 1) = c + 1 from wI_id ⟨by omega, by omega⟩, frm_a g2 (r := 1) rfl, frm_a g2 (r := 7) rfl]
    show _ = s + (gvv A1 c (M 10 c) + sumP (fun x => gvv A1 x (M 10 x)) m (c + 1))
    by_cases q : A2 1 c = 0
    · rw [if_pos q, ih F (c + 1) s B (by omega) (by omega) g s0 (by omega), gvv_0 h c0 c1 (fun z => z.1 q)]
      omega
    · rw [if_neg q]
      by_cases w : A2 7 c = -1
      · rw [if_pos w, ih F (c + 1) s B (by omega) (by omega) g s0 (by omega), gvv_0 h c0 c1 (fun z => z.2 w)]
        omega
      · rw [if_neg w]
        have hk := RC1_k (k := M 10 c) hc
        have hB : RC1 (qu A1 9 c (M 10 c)) B c := ⟨RN_e hk.1 rfl (by rw [frm_a g2 (r := 1) rfl, qu_ne (by decide)]) (at_0 _ _ _) (fun r hr => by
          simp only [aRNm, List.mem_cons, List.not_mem_nil, or_false] at hr
          rcases hr with rfl | rfl | rfl | rfl | rfl | rfl
          · rw [frm_a g2 (r := 3) rfl, qu_ne (by decide)]
          · rw [frm_a g2 (r := 4) rfl, qu_ne (by decide)]
          · rw [frm_a g2 (r := 5) rfl, qu_ne (by decide)]
          · rw [frm_a g2 (r := 6) rfl, qu_ne (by decide)]
          · rw [frm_a g2 (r := 9) rfl, qu_ne (by decide)]
          · rw [frm_a g (r := 10) rfl, qu_at]), RK_e hk.2 (by rw [frm_a g2 (r := 1) rfl, qu_ne (by decide)]) (at_0 _ _ _) (fun r hr => by
          simp only [aRKm, List.mem_cons, List.not_mem_nil, or_false] at hr
          rcases hr with rfl | rfl | rfl
          · rw [frm_a g2 (r := 7) rfl, qu_ne (by decide)]
          · rw [frm_a g2 (r := 8) rfl, qu_ne (by decide)]
          · rw [frm_a g2 (r := 2) rfl, qu_ne (by decide)])⟩
        obtain ⟨k1, k2, _⟩ := growth_k (c := c) (k := M 10 c) hB (RB_f h.2.1 (frm_0 [] [] A1) g2 rfl rfl) (RL_f h.2.2.2 (frm_0 [] [] A1) g2 rfl rfl) c0 c1 (by rw [frm_a g2 (r := 1) rfl]; exact q)
        have hv : (fM_asked c 103 50 B).1 = gvv A1 c (M 10 c) := by
          unfold gvv
          rw [if_pos ((crop_is hc c0 c1).mpr ⟨q, w⟩), k1]
        rw [hv, show wI (s + gvv A1 c (M 10 c)) = s + gvv A1 c (M 10 c) from wI_id ⟨by omega, by omega⟩, ih F (c + 1) _ _ (by omega) (by omega) (frm_c g (frM_asked c 103 50 B) rfl) (by omega) (by omega)]
        omega
theorem growM {A1 A2 C : qA} {v : Int → Int} (h : GR A1 A2) (hH : WH A1 A2) (f : frm DRW [] A2 C) (hv : ∀ x, 0 ≤ x → x < 8 → C 36 x = v x ∧ 0 ≤ v x ∧ v x ≤ 99) : (fM_growth (fM_flows C)).1 = WT A1 v := by
  have hk := keptM hH f hv
  have f2 : frm DRW [] A2 (fM_flows C) := frm_c f (frM_flows C) rfl
  generalize fM_flows C = M at hk f2
  obtain ⟨F, g⟩ : ∃ F : Nat, F + 48 + 1 = 100000 := ⟨99951, by decide⟩
  have key := growM_L h f2 48 F 0 0 M (by decide) (by decide) (frm_0 _ _ _) (by decide) (by decide)
  rw [g, Int.zero_add, WT_eq h hk] at key
  rw [← key]
  rfl
/-- rows as valves -/
def vfx (cc : Int → Int) : Int → List Int → Int → Int
  | _, [], _ => 0
  | i, d :: ds, x => if cc i = x then d else vfx cc (i + 1) ds x
def d9 (row : List Int) : Prop := ∀ x ∈ row, 0 ≤ x ∧ x ≤ 9
theorem d9_a {pre : List Int} {x : Int} (h : d9 pre) (x0 : 0 ≤ x) (x1 : x ≤ 9) : d9 (pre ++ [x]) := fun y hy => by
  rcases List.mem_append.mp hy with q | q
  · exact h y q
  · rw [List.mem_singleton.mp q]; exact ⟨x0, x1⟩
theorem vfx_bd {cc : Int → Int} : ∀ (row : List Int) (i x : Int), d9 row → 0 ≤ vfx cc i row x ∧ vfx cc i row x ≤ 9
  | [], _, _, _ => ⟨Int.le_refl _, by show (0 : Int) ≤ 9; decide⟩
  | d :: ds, i, x, h => by
    have ih := vfx_bd (cc := cc) ds (i + 1) x (fun y hy => h y (List.mem_cons_of_mem _ hy))
    have hd := h d List.mem_cons_self
    show 0 ≤ (if cc i = x then d else vfx cc (i + 1) ds x) ∧ (if cc i = x then d else vfx cc (i + 1) ds x) ≤ 9
    by_cases q : cc i = x
    · rw [if_pos q]; exact hd
    · rw [if_neg q]; exact ih
theorem vfx_sum {cc : Int → Int} : ∀ (row : List Int) (i : Int), d9 row → sumP (vfx cc i row) 8 0 ≤ sumL row
  | [], i, _ => by
    rw [sumP_0 (vfx cc i []) 8 0 (fun _ _ _ => rfl)]
    exact Int.le_refl _
  | d :: ds, i, h => by
    have h2 : d9 ds := fun y hy => h y (List.mem_cons_of_mem _ hy)
    have ih := vfx_sum (cc := cc) ds (i + 1) h2
    have hd := h d List.mem_cons_self
    have h1 := sumP_le (f := vfx cc i (d :: ds)) (g := fun x => (if x = cc i then d else 0) + vfx cc (i + 1) ds x) 8 0 (fun x _ _ => by
      have hb := vfx_bd (cc := cc) ds (i + 1) x h2
      show (if cc i = x then d else vfx cc (i + 1) ds x) ≤ (if x = cc i then d else 0) + vfx cc (i + 1) ds x
      by_cases q : cc i = x
      · rw [if_pos q, if_pos q.symm]; omega
      · rw [if_neg q, if_neg (fun z => q z.symm)]; omega)
    rw [sumP_add (fun x => if x = cc i then d else 0) (vfx cc (i + 1) ds) (fun x => (if x = cc i then d else 0) + vfx cc (i + 1) ds x) 8 0 (fun _ _ _ => rfl), sumP_1] at h1
    show sumP (vfx cc i (d :: ds)) 8 0 ≤ d + sumL ds
    have h3 : (if 0 ≤ cc i ∧ cc i < 0 + ((8 : Nat) : Int) then d else 0) ≤ d := by
      split <;> omega
    omega
theorem vfx_is {cc g : Int → Int} : ∀ (m : Nat) (i : Int) (row : List Int) (x : Int), rw_ (fun j => g (cc j)) m i = row → ((∀ j, i ≤ j → j < i + m → x ≠ cc j) → g x = 0) → g x = vfx cc i row x
  | 0, i, row, x, hr, h => by
    rw [← hr]
    exact h (fun j j0 j1 => by omega)
  | m + 1, i, row, x, hr, h => by
    rw [← hr]
    show g x = if cc i = x then g (cc i) else vfx cc (i + 1) (rw_ (fun j => g (cc j)) m (i + 1)) x
    by_cases q : cc i = x
    · rw [if_pos q, q]
    · rw [if_neg q]
      exact vfx_is m (i + 1) _ x rfl (fun z => h (fun j j0 j1 => by
        by_cases e : j = i
        · rw [e]; exact fun w => q w.symm
        · exact z j (by omega) (by omega)))
