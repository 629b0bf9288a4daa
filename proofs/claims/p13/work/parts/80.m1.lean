def IM : List (Nat × Int × Int × Int) := [(1, 48, 0, 1), (2, 48, 0, 1), (7, 48, (-1), 5), (11, 6, 0, 20), (12, 6, 1, 200), (13, 6, 0, 99), (15, 8, 0, 7), (16, 8, 0, 9999), (20, 8, 0, 999), (21, 8, 0, 99), (22, 220, (-128), 127), (23, 220, 0, 2147483647), (24, 220, 0, 2147483647), (29, 220, 0, 2147483647), (38, 60, 0, 47), (39, 60, (-1), 5), (41, 60, 0, 6), (42, 60, (-1), 7), (45, 60, 0, 1), (46, 60, 0, 1), (47, 48, 0, 1), (50, 8, 0, 47), (51, 8, (-1), 5), (52, 8, (-1), 5), (60, 4, 0, 7), (61, 4, 0, 9), (62, 4, 0, 9), (26, 14, 0, 220), (27, 14, 0, 220), (28, 14, 0, 220), (31, 14, 0, 220), (32, 14, 0, 220), (33, 14, 0, 220)]
def JM : List (Nat × Nat × Int × Int) := [(0, 2, 0, 60), (0, 26, 0, 220), (0, 63, 0, 8), (0, 35, 0, 14), (0, 33, 0, 14), (0, 1, 0, 65535), (0, 27, 0, 200), (0, 28, 0, 200), (0, 31, 0, 220), (0, 32, 0, 220)]
/-- a stretch of the reference's code that is well made -/
def STEP (A : qA) (t : Int) (δ : Int → Int) (k : Int) : Prop := 0 ≤ δ k ∧ δ k ≤ 218 ∧ ((A 29 k / 1048576 = 0 ∧ δ (k + 1) = δ k + 1) ∨ (A 29 k / 1048576 = 1 ∧ A 29 k % 1048576 ≤ 13 ∧ δ (k + 1) = δ k + 1) ∨ (A 29 k / 1048576 = 10 ∧ 1 ≤ δ k ∧ δ (k + 1) = δ k) ∨ ((A 29 k / 1048576 = 11 ∨ A 29 k / 1048576 = 12) ∧ 1 ≤ δ k ∧ δ (k + 1) = δ k - 1 ∧ k < A 29 k % 1048576 ∧ A 29 k % 1048576 ≤ t ∧ δ (A 29 k % 1048576) = δ k) ∨ (2 ≤ A 29 k / 1048576 ∧ A 29 k / 1048576 ≤ 9 ∧ 2 ≤ δ k ∧ δ (k + 1) = δ k - 1))
def SG (A : qA) (f t : Int) (δ : Int → Int) : Prop := 0 ≤ f ∧ f ≤ 219 ∧ (f ≤ t ∧ t ≤ 220) ∧ δ f = 0 ∧ ∀ k, f ≤ k → k < t → STEP A t δ k
def SEG (A : qA) (f t : Int) : Prop := ∃ δ : Int → Int, SG A f t δ
theorem SEG_k {A A' : qA} {f t : Int} (h : SEG A f t) (e : A' 29 = A 29) : SEG A' f t := by
  obtain ⟨δ, a, b, c, d, h⟩ := h
  refine ⟨δ, a, b, c, d, fun k h0 h1 => ?_⟩
  have := h k h0 h1
  unfold STEP at this ⊢
  rw [e]
  exact this
def WF (A : qA) : Prop := ∀ q, 0 ≤ q → q < A 0 (fd 35) → SEG A (A 31 q) (A 32 q) ∧ SEG A (A 32 q) (A 33 q)
theorem WF_fr {W : List Nat} {V : List (Nat × Nat)} {A A' : qA} (h : WF A) (f : frm W V A A') (c : ((noW 29 W && noV 29 V) && (noW 31 W && noV 31 V) && (noW 32 W && noV 32 V) && (noW 33 W && noV 33 V) && (noW 0 W && noVf 0 35 V)) = true) : WF A' := by
  simp only [Bool.and_eq_true] at c
  obtain ⟨⟨⟨⟨⟨a1, a2⟩, ⟨b1, b2⟩⟩, ⟨c1, c2⟩⟩, ⟨d1, d2⟩⟩, ⟨e1, e2⟩⟩ := c
  intro q h0 h1
  rw [frm_f f (by rw [e1, e2]; rfl)] at h1
  rw [frm_a f (r := 31) (by rw [b1, b2]; rfl), frm_a f (r := 32) (by rw [c1, c2]; rfl), frm_a f (r := 33) (by rw [d1, d2]; rfl)]
  have e29 := frm_a f (r := 29) (by rw [a1, a2]; rfl)
  exact ⟨SEG_k (h q h0 h1).1 e29, SEG_k (h q h0 h1).2 e29⟩
def sM_in : qS := fun as A K => ∃ v a b : Int, as = [ni v, ni a, ni b] ∧ ((a ≤ v ∧ v ≤ b → K (some (ni 1)) A) ∧ (¬ (a ≤ v ∧ v ≤ b) → K (some (ni 0)) A))
theorem okM_in : okM LM 1 145 sM_in := by
  refine qmeth [] false [] 16 rfl trivial ?_
  rintro _ A K hA has ⟨v, a, b, rfl, hK⟩
  have rg_v : rng v := has (ni v) (by simp)
  have rg_a : rng a := has (ni a) (by simp)
  have rg_b : rng b := has (ni b) (by simp)
  refine ⟨Nat.le_of_ble_eq_true rfl, [], trivial, ?_⟩
  refine And.intro (fun h1 => ?_) (fun h1 => ?_)
  · exact And.intro (by (first | (clear hm hnf; omega) | omega)) (hK.2 (by first | omega | (subst_vars; omega) | (simp_all; done) | (simp_all; omega)))
  · refine And.intro (fun h2 => ?_) (fun h2 => ?_)
    · exact And.intro (by (first | (clear hm hnf; omega) | omega)) (hK.2 (by first | omega | (subst_vars; omega) | (simp_all; done) | (simp_all; omega)))
    · exact And.intro (by (first | (clear hm hnf; omega) | omega)) (hK.1 (by first | omega | (subst_vars; omega) | (simp_all; done) | (simp_all; omega)))
def fM_less (a b : Int) (A : qA) : Int := (if a < b then a else b)
def sM_less : qS := fun as A K => ∃ a b : Int, as = [ni a, ni b] ∧ (∀ r : Int, rng r → ((r = a ∧ a < b) ∨ (r = b ∧ b ≤ a)) → (r = fM_less a b A) → K (some (ni r)) A)
theorem okM_less : okM LM 1 146 sM_less := by
  refine qmeth [] false [] 13 rfl trivial ?_
  rintro _ A K hA has ⟨a, b, rfl, hK⟩
  have rg_a : rng a := has (ni a) (by simp)
  have rg_b : rng b := has (ni b) (by simp)
  have hT : _ = fM_less a b A := (fM_less.eq_1 a b A).symm
  refine ⟨Nat.le_of_ble_eq_true rfl, [], trivial, ?_⟩
  refine And.intro (fun h1 => ?_) (fun h1 => ?_)
  · replace hT := (if_neg (Int.not_lt.mpr h1)).symm.trans hT
    exact hK _ (by first | assumption | exact ⟨by (first | (clear hm hnf; omega) | omega), by (first | (clear hm hnf; omega) | omega)⟩ | exact wI_rng _ | exact i_rng _ | (subst_vars; exact i_rng _) | exact (hA _ _).2 rfl) (by first | assumption | omega | simp_all) hT
  · replace hT := (if_pos h1).symm.trans hT
    exact hK _ (by first | assumption | exact ⟨by (first | (clear hm hnf; omega) | omega), by (first | (clear hm hnf; omega) | omega)⟩ | exact wI_rng _ | exact i_rng _ | (subst_vars; exact i_rng _) | exact (hA _ _).2 rfl) (by first | assumption | omega | simp_all) hT
theorem pM_less {a b : Int} {A : qA} (hA : qokA LM A) (rg_a : rng a) (rg_b : rng b) : rng (fM_less a b A) ∧ (((fM_less a b A) = a ∧ a < b) ∨ ((fM_less a b A) = b ∧ b ≤ a)) := by
  obtain ⟨r, B, hB, _, hk⟩ := okM_ex okM_less (as := [ni a, ni b]) (K := fun _ B => B = A ∧ rng (fM_less a b A) ∧ (((fM_less a b A) = a ∧ a < b) ∨ ((fM_less a b A) = b ∧ b ≤ a))) hA (qoks_c (rg_a) (qoks_c (rg_b) qoks_n)) ⟨a, b, rfl, fun r9 g9 x0 x1 => (by rw [← x1]; exact ⟨rfl, g9, x0⟩)⟩
  exact hk.2
def fM_more (a b : Int) (A : qA) : Int := (if b < a then a else b)
def sM_more : qS := fun as A K => ∃ a b : Int, as = [ni a, ni b] ∧ (∀ r : Int, rng r → ((r = a ∧ b < a) ∨ (r = b ∧ a ≤ b)) → (r = fM_more a b A) → K (some (ni r)) A)
theorem okM_more : okM LM 1 147 sM_more := by
  refine qmeth [] false [] 13 rfl trivial ?_
  rintro _ A K hA has ⟨a, b, rfl, hK⟩
  have rg_a : rng a := has (ni a) (by simp)
  have rg_b : rng b := has (ni b) (by simp)
  have hT : _ = fM_more a b A := (fM_more.eq_1 a b A).symm
  refine ⟨Nat.le_of_ble_eq_true rfl, [], trivial, ?_⟩
  refine And.intro (fun h1 => ?_) (fun h1 => ?_)
  · replace hT := (if_neg (Int.not_lt.mpr h1)).symm.trans hT
    exact hK _ (by first | assumption | exact ⟨by (first | (clear hm hnf; omega) | omega), by (first | (clear hm hnf; omega) | omega)⟩ | exact wI_rng _ | exact i_rng _ | (subst_vars; exact i_rng _) | exact (hA _ _).2 rfl) (by first | assumption | omega | simp_all) hT
  · replace hT := (if_pos h1).symm.trans hT
    exact hK _ (by first | assumption | exact ⟨by (first | (clear hm hnf; omega) | omega), by (first | (clear hm hnf; omega) | omega)⟩ | exact wI_rng _ | exact i_rng _ | (subst_vars; exact i_rng _) | exact (hA _ _).2 rfl) (by first | assumption | omega | simp_all) hT
theorem pM_more {a b : Int} {A : qA} (hA : qokA LM A) (rg_a : rng a) (rg_b : rng b) : rng (fM_more a b A) ∧ (((fM_more a b A) = a ∧ b < a) ∨ ((fM_more a b A) = b ∧ a ≤ b)) := by
  obtain ⟨r, B, hB, _, hk⟩ := okM_ex okM_more (as := [ni a, ni b]) (K := fun _ B => B = A ∧ rng (fM_more a b A) ∧ (((fM_more a b A) = a ∧ b < a) ∨ ((fM_more a b A) = b ∧ a ≤ b))) hA (qoks_c (rg_a) (qoks_c (rg_b) qoks_n)) ⟨a, b, rfl, fun r9 g9 x0 x1 => (by rw [← x1]; exact ⟨rfl, g9, x0⟩)⟩
  exact hk.2
def sM_isCell : qS := fun as A K => ∃ c l : Int, as = [ni c, ni l] ∧ (((0 ≤ c ∧ c ≤ 7) ∧ (0 ≤ l ∧ l ≤ 5) → K (some (ni 1)) A) ∧ (¬ ((0 ≤ c ∧ c ≤ 7) ∧ (0 ≤ l ∧ l ≤ 5)) → K (some (ni 0)) A))
theorem okM_isCell : okM LM 2 148 sM_isCell := by
  refine qmeth [] false [(145, sM_in)] 20 rfl ⟨okM_in.le (by decide), trivial⟩ ?_
  rintro _ A K hA has ⟨c, l, rfl, hK⟩
  have rg_c : rng c := has (ni c) (by simp)
  have rg_l : rng l := has (ni l) (by simp)
  refine ⟨Nat.le_of_ble_eq_true rfl, [], trivial, ?_⟩
  refine Exists.intro c (Exists.intro 0 (Exists.intro 7 (And.intro rfl (And.intro (fun h1 => ?_) (fun h1 => ?_)))))
  · refine And.intro (fun h2 => by exfalso; omega) (fun h2 => ?_)
    refine Exists.intro l (Exists.intro 0 (Exists.intro 5 (And.intro rfl (And.intro (fun h3 => ?_) (fun h3 => ?_)))))
    · refine And.intro (fun h4 => by exfalso; omega) (fun h4 => ?_)
      exact And.intro (by (first | (clear hm hnf; omega) | omega)) (hK.1 (by first | omega | (subst_vars; omega) | (simp_all; done) | (simp_all; omega)))
    · refine And.intro (fun h5 => ?_) (fun h5 => by exfalso; omega)
      exact And.intro (by (first | (clear hm hnf; omega) | omega)) (hK.2 (by first | omega | (subst_vars; omega) | (simp_all; done) | (simp_all; omega)))
  · refine And.intro (fun h6 => ?_) (fun h6 => by exfalso; omega)
    exact And.intro (by (first | (clear hm hnf; omega) | omega)) (hK.2 (by first | omega | (subst_vars; omega) | (simp_all; done) | (simp_all; omega)))
def sM_at : qS := fun as A K => ∃ c l : Int, as = [ni c, ni l] ∧ (0 ≤ c ∧ c ≤ 7 ∧ (-1) ≤ l ∧ l ≤ 5) ∧ (K (some (ni (6 * c + l))) A)
theorem okM_at : okM LM 1 149 sM_at := by
  refine qmeth [] false [] 12 rfl trivial ?_
  rintro _ A K hA has ⟨c, l, rfl, ⟨p1, p2, p3, p4⟩, hK⟩
  have rg_c : rng c := has (ni c) (by simp)
  have rg_l : rng l := has (ni l) (by simp)
  refine ⟨Nat.le_of_ble_eq_true rfl, [], trivial, ?_⟩
  refine fun v5 e6 => ?_
  refine fun v7 e8 => ?_
  refine And.intro (by (first | (clear hm hnf; omega) | omega)) (?_)
  have hq : v7 = 6 * c + l := by first | rfl | omega | simp_all
  rw [hq]
  exact hK
def sM_isHung : qS := fun as A K => ∃ c l : Int, as = [rf 0, ni c, ni l] ∧ (iva IM A ∧ ivf JM A) ∧ ((((0 ≤ c ∧ c ≤ 7) ∧ (0 ≤ l ∧ l ≤ 5)) ∧ A 1 (6 * c + l) ≠ 0 → K (some (ni 1)) A) ∧ (¬ (((0 ≤ c ∧ c ≤ 7) ∧ (0 ≤ l ∧ l ≤ 5)) ∧ A 1 (6 * c + l) ≠ 0) → K (some (ni 0)) A))
theorem okM_isHung : okM LM 3 150 sM_isHung := by
  refine qmeth [] false [(148, sM_isCell), (149, sM_at)] 21 rfl ⟨okM_isCell.le (by decide), ⟨okM_at.le (by decide), trivial⟩⟩ ?_
  rintro _ A K hA has ⟨c, l, rfl, ⟨i0, j0⟩, hK⟩
  have rg_c : rng c := has (ni c) (by simp)
  have rg_l : rng l := has (ni l) (by simp)
  have f0 := frm_0 [] [] A
  refine ⟨Nat.le_of_ble_eq_true rfl, [], trivial, ?_⟩
  refine Exists.intro c (Exists.intro l (And.intro rfl (And.intro (fun h1 => ?_) (fun h1 => ?_))))
  · refine And.intro (fun h2 => by exfalso; omega) (fun h2 => ?_)
    refine Exists.intro c (Exists.intro l (And.intro rfl (And.intro (And.intro (by (first | (clear hm hnf; omega) | omega)) (And.intro (by (first | (clear hm hnf; omega) | omega)) (And.intro (by (first | (clear hm hnf; omega) | omega)) (by (first | (clear hm hnf; omega) | omega))))) ?_)))
    refine And.intro (by (first | (clear hm hnf; omega) | omega)) (fun v3 gv3 e4 => ?_)
    have b5 := iva_at i0 0 rfl (i := (6 * c + l)) (by (first | (clear hm hnf; omega) | omega)) (by (first | (clear hm hnf; omega) | omega))
    refine And.intro (fun h6 => ?_) (fun h6 => ?_)
    · exact And.intro (by (first | (clear hm hnf; omega) | omega)) (hK.2 (by first | omega | (subst_vars; omega) | (simp_all; done) | (simp_all; omega)))
    · exact And.intro (by (first | (clear hm hnf; omega) | omega)) (hK.1 (by first | omega | (subst_vars; omega) | (simp_all; done) | (simp_all; omega)))
  · refine And.intro (fun h7 => ?_) (fun h7 => by exfalso; omega)
    exact And.intro (by (first | (clear hm hnf; omega) | omega)) (hK.2 (by first | omega | (subst_vars; omega) | (simp_all; done) | (simp_all; omega)))
def fM_empties (c : Int) (A : qA) : qA := qlet (qu A 7 c (-1)) fun A3 => qlet (qu A3 8 c 0) fun A8 => qlet (qu A8 2 c 0) fun A13 => A13
def sM_empties : qS := fun as A K => ∃ c : Int, as = [rf 0, ni c] ∧ (iva IM A ∧ ivf JM A ∧ 0 ≤ c ∧ c ≤ 47) ∧ (∀ A' : qA, iva IM A' → ivf JM A' → frm [7, 8, 2] [] A A' → (A' = fM_empties c A) → K none A')
theorem okM_empties : okM LM 1 152 sM_empties := by
  refine qmeth [] false [] 22 rfl trivial ?_
  rintro _ A K hA has ⟨c, rfl, ⟨i0, j0, p1, p2⟩, hK⟩
  have rg_c : rng c := has (ni c) (by simp)
  have f0 := frm_0 [7, 8, 2] [] A
  have hT : _ = fM_empties c A := (fM_empties.eq_1 c A).symm
  refine ⟨Nat.le_of_ble_eq_true rfl, [], trivial, ?_⟩
  refine And.intro (by (first | (clear hm hnf; omega) | omega)) (fun A3 e4 => ?_)
  replace hT := qlc e4 hT
  have i5 := iva_st i0 e4 (And.intro (by (first | (clear hm hnf; omega) | omega)) trivial)
  have j6 := ivf_sa j0 e4 rfl
  have f7 := frm_s f0 e4 rfl
  refine And.intro (by (first | (clear hm hnf; omega) | omega)) (fun A8 e9 => ?_)
  replace hT := qlc e9 hT
  have i10 := iva_st i5 e9 trivial
  have j11 := ivf_sa j6 e9 rfl
  have f12 := frm_s f7 e9 rfl
  refine And.intro (by (first | (clear hm hnf; omega) | omega)) (And.intro (by (first | (clear hm hnf; omega) | omega)) (fun A13 e14 => ?_))
  replace hT := qlc e14 hT
  have i15 := iva_st i10 e14 (And.intro (by (first | (clear hm hnf; omega) | omega)) trivial)
  have j16 := ivf_sa j11 e14 rfl
  have f17 := frm_s f12 e14 rfl
  exact hK _ i15 j16 f17 hT
theorem pM_empties {c : Int} {A : qA} (hA : qokA LM A) (p0 : iva IM A) (p1 : ivf JM A) (p2 : 0 ≤ c) (p3 : c ≤ 47) : qokA LM (fM_empties c A) ∧ iva IM (fM_empties c A) ∧ ivf JM (fM_empties c A) ∧ frm [7, 8, 2] [] A (fM_empties c A) := by
  obtain ⟨r, B, hB, _, hk⟩ := okM_ex okM_empties (as := [rf 0, ni c]) (K := fun _ B => B = (fM_empties c A) ∧ iva IM (fM_empties c A) ∧ ivf JM (fM_empties c A) ∧ frm [7, 8, 2] [] A (fM_empties c A)) hA (qoks_c (show qok (rf _) from trivial) (qoks_c (show rng c from ⟨by (first | (clear hm hnf; omega) | omega), by (first | (clear hm hnf; omega) | omega)⟩) qoks_n)) ⟨c, rfl, ⟨p0, p1, p2, p3⟩, fun A9 i9 j9 f9 x0 => (by rw [← x0]; exact ⟨rfl, i9, j9, f9⟩)⟩
  exact ⟨hk.1 ▸ hB, hk.2⟩
def fM_hang (c l s n f w : Int) (A : qA) : Int × qA := (if (0 ≤ c ∧ c ≤ 7) ∧ (0 ≤ l ∧ l ≤ 5) then (if 0 ≤ s ∧ s ≤ 9 then (if 0 ≤ n ∧ n ≤ 9999 then (if 0 ≤ f ∧ f ≤ 7 then (if 0 ≤ w ∧ w ≤ 3 then qlet (A 1 (6 * c + l)) fun v11 => (if v11 = 0 then (if 0 < l then qlet (l - 1) fun v57 => qlet (A 1 (6 * c + v57)) fun v59 => (if v59 = 0 then (0, A) else qlet (qu A 1 (6 * c + l) 1) fun A63 => qlet (qu A63 4 (6 * c + l) s) fun A68 => qlet (qu A68 3 (6 * c + l) n) fun A73 => qlet (qu A73 5 (6 * c + l) f) fun A78 => qlet (qu A78 6 (6 * c + l) w) fun A83 => qlet (fM_empties (6 * c + l) A83) fun A88 => qlet (qu A88 9 (6 * c + l) 0) fun A94 => qlet (qu A94 10 (6 * c + l) 0) fun A99 => (1, A99)) else qlet (qu A 1 (6 * c + l) 1) fun A16 => qlet (qu A16 4 (6 * c + l) s) fun A21 => qlet (qu A21 3 (6 * c + l) n) fun A26 => qlet (qu A26 5 (6 * c + l) f) fun A31 => qlet (qu A31 6 (6 * c + l) w) fun A36 => qlet (fM_empties (6 * c + l) A36) fun A41 => qlet (qu A41 9 (6 * c + l) 0) fun A47 => qlet (qu A47 10 (6 * c + l) 0) fun A52 => (1, A52)) else (0, A)) else (0, A)) else (0, A)) else (0, A)) else (0, A)) else (0, A))
def sM_hang : qS := fun as A K => ∃ c l s n f w : Int, as = [rf 0, ni c, ni l, ni s, ni n, ni f, ni w] ∧ (iva IM A ∧ ivf JM A) ∧ (∀ A' : qA, iva IM A' → ivf JM A' → frm [1, 4, 3, 5, 6, 7, 8, 2, 9, 10] [] A A' → ∀ r : Int, 0 ≤ r → r ≤ 1 → (r = (fM_hang c l s n f w A).1) → (A' = (fM_hang c l s n f w A).2) → K (some (ni r)) A')
theorem okM_hang : okM LM 3 151 sM_hang := by
  refine qmeth [] false [(148, sM_isCell), (145, sM_in), (149, sM_at), (152, sM_empties)] 94 rfl ⟨okM_isCell.le (by decide), ⟨okM_in.le (by decide), ⟨okM_at.le (by decide), ⟨okM_empties.le (by decide), trivial⟩⟩⟩⟩ ?_
  rintro _ A K hA has ⟨c, l, s, n, f, w, rfl, ⟨i0, j0⟩, hK⟩
  have rg_c : rng c := has (ni c) (by simp)
  have rg_l : rng l := has (ni l) (by simp)
  have rg_s : rng s := has (ni s) (by simp)
  have rg_n : rng n := has (ni n) (by simp)
  have rg_f : rng f := has (ni f) (by simp)
  have rg_w : rng w := has (ni w) (by simp)
  have f0 := frm_0 [1, 4, 3, 5, 6, 7, 8, 2, 9, 10] [] A
  have hT : _ = fM_hang c l s n f w A := (fM_hang.eq_1 c l s n f w A).symm
  refine ⟨Nat.le_of_ble_eq_true rfl, [], trivial, ?_⟩
  refine Exists.intro c (Exists.intro l (And.intro rfl (And.intro (fun h1 => ?_) (fun h1 => ?_))))
  · replace hT := (if_pos h1).symm.trans hT
    refine And.intro (fun h2 => by exfalso; omega) (fun h2 => ?_)
    refine Exists.intro s (Exists.intro 0 (Exists.intro 9 (And.intro rfl (And.intro (fun h3 => ?_) (fun h3 => ?_)))))
    · replace hT := (if_pos h3).symm.trans hT
      refine And.intro (fun h4 => by exfalso; omega) (fun h4 => ?_)
      refine Exists.intro n (Exists.intro 0 (Exists.intro 9999 (And.intro rfl (And.intro (fun h5 => ?_) (fun h5 => ?_)))))
      · replace hT := (if_pos h5).symm.trans hT
        refine And.intro (fun h6 => by exfalso; omega) (fun h6 => ?_)
        refine Exists.intro f (Exists.intro 0 (Exists.intro 7 (And.intro rfl (And.intro (fun h7 => ?_) (fun h7 => ?_)))))
        · replace hT := (if_pos h7).symm.trans hT
          refine And.intro (fun h8 => by exfalso; omega) (fun h8 => ?_)
          refine Exists.intro w (Exists.intro 0 (Exists.intro 3 (And.intro rfl (And.intro (fun h9 => ?_) (fun h9 => ?_)))))
          · replace hT := (if_pos h9).symm.trans hT
            refine And.intro (fun h10 => by exfalso; omega) (fun h10 => ?_)
            refine Exists.intro c (Exists.intro l (And.intro rfl (And.intro (And.intro (by (first | (clear hm hnf; omega) | omega)) (And.intro (by (first | (clear hm hnf; omega) | omega)) (And.intro (by (first | (clear hm hnf; omega) | omega)) (by (first | (clear hm hnf; omega) | omega))))) ?_)))
            refine And.intro (by (first | (clear hm hnf; omega) | omega)) (fun v11 gv11 e12 => ?_)
            replace hT := qlc e12 hT
            have b13 := iva_at i0 0 rfl (i := (6 * c + l)) (by (first | (clear hm hnf; omega) | omega)) (by (first | (clear hm hnf; omega) | omega))
            refine And.intro (fun h14 => ?_) (fun h14 => ?_)
            · replace hT := (if_neg h14).symm.trans hT
              exact And.intro (by (first | (clear hm hnf; omega) | omega)) (hK _ i0 j0 f0 _ (by (first | (clear hm hnf; omega) | omega)) (by (first | (clear hm hnf; omega) | omega)) (congrArg Prod.fst hT) (congrArg Prod.snd hT))
            · replace hT := (if_pos h14).symm.trans hT
              refine And.intro (fun h15 => ?_) (fun h15 => ?_)
              · replace hT := (if_neg (Int.not_lt.mpr h15)).symm.trans hT
                refine Exists.intro c (Exists.intro l (And.intro rfl (And.intro (And.intro (by (first | (clear hm hnf; omega) | omega)) (And.intro (by (first | (clear hm hnf; omega) | omega)) (And.intro (by (first | (clear hm hnf; omega) | omega)) (by (first | (clear hm hnf; omega) | omega))))) ?_)))
                refine And.intro (by (first | (clear hm hnf; omega) | omega)) (And.intro (by (first | (clear hm hnf; omega) | omega)) (fun A16 e17 => ?_))
                replace hT := qlc e17 hT
                have i18 := iva_st i0 e17 (And.intro (by (first | (clear hm hnf; omega) | omega)) trivial)
                have j19 := ivf_sa j0 e17 rfl
                have f20 := frm_s f0 e17 rfl
                refine And.intro (by (first | (clear hm hnf; omega) | omega)) (fun A21 e22 => ?_)
                replace hT := qlc e22 hT
                have i23 := iva_st i18 e22 trivial
                have j24 := ivf_sa j19 e22 rfl
                have f25 := frm_s f20 e22 rfl
                refine And.intro (by (first | (clear hm hnf; omega) | omega)) (fun A26 e27 => ?_)
                replace hT := qlc e27 hT
                have i28 := iva_st i23 e27 trivial
                have j29 := ivf_sa j24 e27 rfl
                have f30 := frm_s f25 e27 rfl
                refine And.intro (by (first | (clear hm hnf; omega) | omega)) (fun A31 e32 => ?_)
                replace hT := qlc e32 hT
                have i33 := iva_st i28 e32 trivial
                have j34 := ivf_sa j29 e32 rfl
                have f35 := frm_s f30 e32 rfl
                refine And.intro (by (first | (clear hm hnf; omega) | omega)) (fun A36 e37 => ?_)
                replace hT := qlc e37 hT
                have i38 := iva_st i33 e37 trivial
                have j39 := ivf_sa j34 e37 rfl
                have f40 := frm_s f35 e37 rfl
                refine Exists.intro (6 * c + l) (And.intro rfl (And.intro (And.intro i38 (And.intro j39 (And.intro (by (first | (clear hm hnf; omega) | omega)) (by (first | (clear hm hnf; omega) | omega))))) (fun A41 i42 j43 f44 g45 => ?_)))
                replace hT := qlc g45 hT
                have f46 := frm_c f40 f44 rfl
                refine And.intro (by (first | (clear hm hnf; omega) | omega)) (fun A47 e48 => ?_)
                replace hT := qlc e48 hT
                have i49 := iva_st i42 e48 trivial
                have j50 := ivf_sa j43 e48 rfl
                have f51 := frm_s f46 e48 rfl
                refine And.intro (by (first | (clear hm hnf; omega) | omega)) (fun A52 e53 => ?_)
                replace hT := qlc e53 hT
                have i54 := iva_st i49 e53 trivial
                have j55 := ivf_sa j50 e53 rfl
                have f56 := frm_s f51 e53 rfl
                exact And.intro (by (first | (clear hm hnf; omega) | omega)) (hK _ i54 j55 f56 _ (by (first | (clear hm hnf; omega) | omega)) (by (first | (clear hm hnf; omega) | omega)) (congrArg Prod.fst hT) (congrArg Prod.snd hT))
              · replace hT := (if_pos h15).symm.trans hT
                refine fun v57 e58 => ?_
                replace hT := qlc e58 hT
                refine And.intro (by (first | (clear hm hnf; omega) | omega)) (Exists.intro c (Exists.intro v57 (And.intro rfl (And.intro (And.intro (by (first | (clear hm hnf; omega) | omega)) (And.intro (by (first | (clear hm hnf; omega) | omega)) (And.intro (by (first | (clear hm hnf; omega) | omega)) (by (first | (clear hm hnf; omega) | omega))))) ?_))))
                refine And.intro (by (first | (clear hm hnf; omega) | omega)) (fun v59 gv59 e60 => ?_)
                replace hT := qlc e60 hT
                have b61 := iva_at i0 0 rfl (i := (6 * c + v57)) (by (first | (clear hm hnf; omega) | omega)) (by (first | (clear hm hnf; omega) | omega))
                refine And.intro (fun h62 => ?_) (fun h62 => ?_)
                · replace hT := (if_neg h62).symm.trans hT
                  refine Exists.intro c (Exists.intro l (And.intro rfl (And.intro (And.intro (by (first | (clear hm hnf; omega) | omega)) (And.intro (by (first | (clear hm hnf; omega) | omega)) (And.intro (by (first | (clear hm hnf; omega) | omega)) (by (first | (clear hm hnf; omega) | omega))))) ?_)))
                  refine And.intro (by (first | (clear hm hnf; omega) | omega)) (And.intro (by (first | (clear hm hnf; omega) | omega)) (fun A63 e64 => ?_))
                  replace hT := qlc e64 hT
                  have i65 := iva_st i0 e64 (And.intro (by (first | (clear hm hnf; omega) | omega)) trivial)
                  have j66 := ivf_sa j0 e64 rfl
                  have f67 := frm_s f0 e64 rfl
                  refine And.intro (by (first | (clear hm hnf; omega) | omega)) (fun A68 e69 => ?_)
                  replace hT := qlc e69 hT
                  have i70 := iva_st i65 e69 trivial
                  have j71 := ivf_sa j66 e69 rfl
                  have f72 := frm_s f67 e69 rfl
                  refine And.intro (by (first | (clear hm hnf; omega) | omega)) (fun A73 e74 => ?_)
                  replace hT := qlc e74 hT
                  have i75 := iva_st i70 e74 trivial
                  have j76 := ivf_sa j71 e74 rfl
                  have f77 := frm_s f72 e74 rfl
                  refine And.intro (by (first | (clear hm hnf; omega) | omega)) (fun A78 e79 => ?_)
                  replace hT := qlc e79 hT
                  have i80 := iva_st i75 e79 trivial
                  have j81 := ivf_sa j76 e79 rfl
                  have f82 := frm_s f77 e79 rfl
                  refine And.intro (by (first | (clear hm hnf; omega) | omega)) (fun A83 e84 => ?_)
                  replace hT := qlc e84 hT
                  have i85 := iva_st i80 e84 trivial
                  have j86 := ivf_sa j81 e84 rfl
                  have f87 := frm_s f82 e84 rfl
                  refine Exists.intro (6 * c + l) (And.intro rfl (And.intro (And.intro i85 (And.intro j86 (And.intro (by (first | (clear hm hnf; omega) | omega)) (by (first | (clear hm hnf; omega) | omega))))) (fun A88 i89 j90 f91 g92 => ?_)))
                  replace hT := qlc g92 hT
                  have f93 := frm_c f87 f91 rfl
                  refine And.intro (by (first | (clear hm hnf; omega) | omega)) (fun A94 e95 => ?_)
                  replace hT := qlc e95 hT
                  have i96 := iva_st i89 e95 trivial
                  have j97 := ivf_sa j90 e95 rfl
                  have f98 := frm_s f93 e95 rfl
                  refine And.intro (by (first | (clear hm hnf; omega) | omega)) (fun A99 e100 => ?_)
                  replace hT := qlc e100 hT
                  have i101 := iva_st i96 e100 trivial
                  have j102 := ivf_sa j97 e100 rfl
                  have f103 := frm_s f98 e100 rfl
                  exact And.intro (by (first | (clear hm hnf; omega) | omega)) (hK _ i101 j102 f103 _ (by (first | (clear hm hnf; omega) | omega)) (by (first | (clear hm hnf; omega) | omega)) (congrArg Prod.fst hT) (congrArg Prod.snd hT))
                · replace hT := (if_pos h62).symm.trans hT
                  exact And.intro (by (first | (clear hm hnf; omega) | omega)) (hK _ i0 j0 f0 _ (by (first | (clear hm hnf; omega) | omega)) (by (first | (clear hm hnf; omega) | omega)) (congrArg Prod.fst hT) (congrArg Prod.snd hT))
          · replace hT := (if_neg h9).symm.trans hT
            refine And.intro (fun h104 => ?_) (fun h104 => by exfalso; omega)
            exact And.intro (by (first | (clear hm hnf; omega) | omega)) (hK _ i0 j0 f0 _ (by (first | (clear hm hnf; omega) | omega)) (by (first | (clear hm hnf; omega) | omega)) (congrArg Prod.fst hT) (congrArg Prod.snd hT))
        · replace hT := (if_neg h7).symm.trans hT
          refine And.intro (fun h105 => ?_) (fun h105 => by exfalso; omega)
          exact And.intro (by (first | (clear hm hnf; omega) | omega)) (hK _ i0 j0 f0 _ (by (first | (clear hm hnf; omega) | omega)) (by (first | (clear hm hnf; omega) | omega)) (congrArg Prod.fst hT) (congrArg Prod.snd hT))
      · replace hT := (if_neg h5).symm.trans hT
        refine And.intro (fun h106 => ?_) (fun h106 => by exfalso; omega)
        exact And.intro (by (first | (clear hm hnf; omega) | omega)) (hK _ i0 j0 f0 _ (by (first | (clear hm hnf; omega) | omega)) (by (first | (clear hm hnf; omega) | omega)) (congrArg Prod.fst hT) (congrArg Prod.snd hT))
    · replace hT := (if_neg h3).symm.trans hT
      refine And.intro (fun h107 => ?_) (fun h107 => by exfalso; omega)
      exact And.intro (by (first | (clear hm hnf; omega) | omega)) (hK _ i0 j0 f0 _ (by (first | (clear hm hnf; omega) | omega)) (by (first | (clear hm hnf; omega) | omega)) (congrArg Prod.fst hT) (congrArg Prod.snd hT))
  · replace hT := (if_neg h1).symm.trans hT
    refine And.intro (fun h108 => ?_) (fun h108 => by exfalso; omega)
    exact And.intro (by (first | (clear hm hnf; omega) | omega)) (hK _ i0 j0 f0 _ (by (first | (clear hm hnf; omega) | omega)) (by (first | (clear hm hnf; omega) | omega)) (congrArg Prod.fst hT) (congrArg Prod.snd hT))
theorem pM_hang {c l s n f w : Int} {A : qA} (hA : qokA LM A) (rg_c : rng c) (rg_l : rng l) (rg_s : rng s) (rg_n : rng n) (rg_f : rng f) (rg_w : rng w) (p0 : iva IM A) (p1 : ivf JM A) : qokA LM (fM_hang c l s n f w A).2 ∧ iva IM (fM_hang c l s n f w A).2 ∧ ivf JM (fM_hang c l s n f w A).2 ∧ frm [1, 4, 3, 5, 6, 7, 8, 2, 9, 10] [] A (fM_hang c l s n f w A).2 ∧ (0 ≤ (fM_hang c l s n f w A).1 ∧ (fM_hang c l s n f w A).1 ≤ 1) := by
  obtain ⟨r, B, hB, _, hk⟩ := okM_ex okM_hang (as := [rf 0, ni c, ni l, ni s, ni n, ni f, ni w]) (K := fun _ B => B = (fM_hang c l s n f w A).2 ∧ iva IM (fM_hang c l s n f w A).2 ∧ ivf JM (fM_hang c l s n f w A).2 ∧ frm [1, 4, 3, 5, 6, 7, 8, 2, 9, 10] [] A (fM_hang c l s n f w A).2 ∧ (0 ≤ (fM_hang c l s n f w A).1 ∧ (fM_hang c l s n f w A).1 ≤ 1)) hA (qoks_c (show qok (rf _) from trivial) (qoks_c (rg_c) (qoks_c (rg_l) (qoks_c (rg_s) (qoks_c (rg_n) (qoks_c (rg_f) (qoks_c (rg_w) qoks_n))))))) ⟨c, l, s, n, f, w, rfl, ⟨p0, p1⟩, fun A9 i9 j9 f9 r9 g8 g9 x0 x1 => (by rw [← x1]; (try rw [← x0]); exact ⟨rfl, i9, j9, f9, ⟨g8, g9⟩⟩)⟩
  exact ⟨hk.1 ▸ hB, hk.2⟩
def fM_knot (c l n : Int) (A : qA) : Int × qA := (if ((0 ≤ c ∧ c ≤ 7) ∧ (0 ≤ l ∧ l ≤ 5)) ∧ A 1 (6 * c + l) ≠ 0 then (if 0 ≤ n ∧ n ≤ 9999 then qlet (qu A 3 (6 * c + l) n) fun A5 => (1, A5) else (0, A)) else (0, A))
def sM_knot : qS := fun as A K => ∃ c l n : Int, as = [rf 0, ni c, ni l, ni n] ∧ (iva IM A ∧ ivf JM A) ∧ (∀ A' : qA, iva IM A' → ivf JM A' → frm [3] [] A A' → ∀ r : Int, 0 ≤ r → r ≤ 1 → (r = (fM_knot c l n A).1) → (A' = (fM_knot c l n A).2) → K (some (ni r)) A')
theorem okM_knot : okM LM 4 153 sM_knot := by
  refine qmeth [] false [(150, sM_isHung), (145, sM_in), (149, sM_at)] 27 rfl ⟨okM_isHung.le (by decide), ⟨okM_in.le (by decide), ⟨okM_at.le (by decide), trivial⟩⟩⟩ ?_
  rintro _ A K hA has ⟨c, l, n, rfl, ⟨i0, j0⟩, hK⟩
  have rg_c : rng c := has (ni c) (by simp)
  have rg_l : rng l := has (ni l) (by simp)
  have rg_n : rng n := has (ni n) (by simp)
  have f0 := frm_0 [3] [] A
  have hT : _ = fM_knot c l n A := (fM_knot.eq_1 c l n A).symm
  refine ⟨Nat.le_of_ble_eq_true rfl, [], trivial, ?_⟩
  refine Exists.intro c (Exists.intro l (And.intro rfl (And.intro (And.intro i0 j0) (And.intro (fun h1 => ?_) (fun h1 => ?_)))))
  · replace hT := (if_pos h1).symm.trans hT
    refine And.intro (fun h2 => by exfalso; omega) (fun h2 => ?_)
    refine Exists.intro n (Exists.intro 0 (Exists.intro 9999 (And.intro rfl (And.intro (fun h3 => ?_) (fun h3 => ?_)))))
    · replace hT := (if_pos h3).symm.trans hT
      refine And.intro (fun h4 => ?_) (fun h4 => by exfalso; omega)
      refine Exists.intro c (Exists.intro l (And.intro rfl (And.intro (And.intro (by (first | (clear hm hnf; omega) | omega)) (And.intro (by (first | (clear hm hnf; omega) | omega)) (And.intro (by (first | (clear hm hnf; omega) | omega)) (by (first | (clear hm hnf; omega) | omega))))) ?_)))
      refine And.intro (by (first | (clear hm hnf; omega) | omega)) (fun A5 e6 => ?_)
      replace hT := qlc e6 hT
      have i7 := iva_st i0 e6 trivial
      have j8 := ivf_sa j0 e6 rfl
      have f9 := frm_s f0 e6 rfl
      exact And.intro (by (first | (clear hm hnf; omega) | omega)) (hK _ i7 j8 f9 _ (by (first | (clear hm hnf; omega) | omega)) (by (first | (clear hm hnf; omega) | omega)) (congrArg Prod.fst hT) (congrArg Prod.snd hT))
    · replace hT := (if_neg h3).symm.trans hT
      refine And.intro (fun h10 => by exfalso; omega) (fun h10 => ?_)
      exact And.intro (by (first | (clear hm hnf; omega) | omega)) (hK _ i0 j0 f0 _ (by (first | (clear hm hnf; omega) | omega)) (by (first | (clear hm hnf; omega) | omega)) (congrArg Prod.fst hT) (congrArg Prod.snd hT))
  · replace hT := (if_neg h1).symm.trans hT
    refine And.intro (fun h11 => ?_) (fun h11 => by exfalso; omega)
    exact And.intro (by (first | (clear hm hnf; omega) | omega)) (hK _ i0 j0 f0 _ (by (first | (clear hm hnf; omega) | omega)) (by (first | (clear hm hnf; omega) | omega)) (congrArg Prod.fst hT) (congrArg Prod.snd hT))
theorem pM_knot {c l n : Int} {A : qA} (hA : qokA LM A) (rg_c : rng c) (rg_l : rng l) (rg_n : rng n) (p0 : iva IM A) (p1 : ivf JM A) : qokA LM (fM_knot c l n A).2 ∧ iva IM (fM_knot c l n A).2 ∧ ivf JM (fM_knot c l n A).2 ∧ frm [3] [] A (fM_knot c l n A).2 ∧ (0 ≤ (fM_knot c l n A).1 ∧ (fM_knot c l n A).1 ≤ 1) := by
  obtain ⟨r, B, hB, _, hk⟩ := okM_ex okM_knot (as := [rf 0, ni c, ni l, ni n]) (K := fun _ B => B = (fM_knot c l n A).2 ∧ iva IM (fM_knot c l n A).2 ∧ ivf JM (fM_knot c l n A).2 ∧ frm [3] [] A (fM_knot c l n A).2 ∧ (0 ≤ (fM_knot c l n A).1 ∧ (fM_knot c l n A).1 ≤ 1)) hA (qoks_c (show qok (rf _) from trivial) (qoks_c (rg_c) (qoks_c (rg_l) (qoks_c (rg_n) qoks_n)))) ⟨c, l, n, rfl, ⟨p0, p1⟩, fun A9 i9 j9 f9 r9 g8 g9 x0 x1 => (by rw [← x1]; (try rw [← x0]); exact ⟨rfl, i9, j9, f9, ⟨g8, g9⟩⟩)⟩
  exact ⟨hk.1 ▸ hB, hk.2⟩
def fM_kind (k n r w : Int) (A : qA) : qA := (if 0 ≤ k ∧ k ≤ 5 then (if 0 ≤ n ∧ n ≤ 20 then (if 1 ≤ r ∧ r ≤ 200 then (if 0 ≤ w ∧ w ≤ 99 then qlet (qu A 11 k n) fun A9 => qlet (qu A9 12 k r) fun A14 => qlet (qu A14 13 k w) fun A19 => A19 else A) else A) else A) else A)
def sM_kind : qS := fun as A K => ∃ k n r w : Int, as = [rf 0, ni k, ni n, ni r, ni w] ∧ (iva IM A ∧ ivf JM A) ∧ (∀ A' : qA, iva IM A' → ivf JM A' → frm [11, 12, 13] [] A A' → (A' = fM_kind k n r w A) → ((0 ≤ k ∧ k ≤ 5) ∧ (0 ≤ n ∧ n ≤ 20) ∧ (1 ≤ r ∧ r ≤ 200) ∧ (0 ≤ w ∧ w ≤ 99) → K (some (ni 1)) A') ∧ (¬ ((0 ≤ k ∧ k ≤ 5) ∧ (0 ≤ n ∧ n ≤ 20) ∧ (1 ≤ r ∧ r ≤ 200) ∧ (0 ≤ w ∧ w ≤ 99)) → K (some (ni 0)) A'))
theorem okM_kind : okM LM 2 154 sM_kind := by
  refine qmeth [] false [(145, sM_in)] 45 rfl ⟨okM_in.le (by decide), trivial⟩ ?_
  rintro _ A K hA has ⟨k, n, r, w, rfl, ⟨i0, j0⟩, hK⟩
  have rg_k : rng k := has (ni k) (by simp)
  have rg_n : rng n := has (ni n) (by simp)
  have rg_r : rng r := has (ni r) (by simp)
  have rg_w : rng w := has (ni w) (by simp)
  have f0 := frm_0 [11, 12, 13] [] A
  have hT : _ = fM_kind k n r w A := (fM_kind.eq_1 k n r w A).symm
  refine ⟨Nat.le_of_ble_eq_true rfl, [], trivial, ?_⟩
  refine Exists.intro k (Exists.intro 0 (Exists.intro 5 (And.intro rfl (And.intro (fun h1 => ?_) (fun h1 => ?_)))))
  · replace hT := (if_pos h1).symm.trans hT
    refine And.intro (fun h2 => by exfalso; omega) (fun h2 => ?_)
    refine Exists.intro n (Exists.intro 0 (Exists.intro 20 (And.intro rfl (And.intro (fun h3 => ?_) (fun h3 => ?_)))))
    · replace hT := (if_pos h3).symm.trans hT
      refine And.intro (fun h4 => by exfalso; omega) (fun h4 => ?_)
      refine Exists.intro r (Exists.intro 1 (Exists.intro 200 (And.intro rfl (And.intro (fun h5 => ?_) (fun h5 => ?_)))))
      · replace hT := (if_pos h5).symm.trans hT
        refine And.intro (fun h6 => by exfalso; omega) (fun h6 => ?_)
        refine Exists.intro w (Exists.intro 0 (Exists.intro 99 (And.intro rfl (And.intro (fun h7 => ?_) (fun h7 => ?_)))))
        · replace hT := (if_pos h7).symm.trans hT
          refine And.intro (fun h8 => ?_) (fun h8 => by exfalso; omega)
          refine And.intro (by (first | (clear hm hnf; omega) | omega)) (fun A9 e10 => ?_)
          replace hT := qlc e10 hT
          have i11 := iva_st i0 e10 (And.intro (by (first | (clear hm hnf; omega) | omega)) trivial)
          have j12 := ivf_sa j0 e10 rfl
          have f13 := frm_s f0 e10 rfl
          refine And.intro (by (first | (clear hm hnf; omega) | omega)) (fun A14 e15 => ?_)
          replace hT := qlc e15 hT
          have i16 := iva_st i11 e15 (And.intro (by (first | (clear hm hnf; omega) | omega)) trivial)
          have j17 := ivf_sa j12 e15 rfl
          have f18 := frm_s f13 e15 rfl
          refine And.intro (by (first | (clear hm hnf; omega) | omega)) (fun A19 e20 => ?_)
          replace hT := qlc e20 hT
          have i21 := iva_st i16 e20 (And.intro (by (first | (clear hm hnf; omega) | omega)) trivial)
          have j22 := ivf_sa j17 e20 rfl
          have f23 := frm_s f18 e20 rfl
          exact And.intro (by (first | (clear hm hnf; omega) | omega)) ((hK _ i21 j22 f23 hT).1 (by first | omega | (subst_vars; omega) | (simp_all; done) | (simp_all; omega)))
        · replace hT := (if_neg h7).symm.trans hT
          refine And.intro (fun h24 => by exfalso; omega) (fun h24 => ?_)
          exact And.intro (by (first | (clear hm hnf; omega) | omega)) ((hK _ i0 j0 f0 hT).2 (by first | omega | (subst_vars; omega) | (simp_all; done) | (simp_all; omega)))
      · replace hT := (if_neg h5).symm.trans hT
        refine And.intro (fun h25 => ?_) (fun h25 => by exfalso; omega)
        exact And.intro (by (first | (clear hm hnf; omega) | omega)) ((hK _ i0 j0 f0 hT).2 (by first | omega | (subst_vars; omega) | (simp_all; done) | (simp_all; omega)))
    · replace hT := (if_neg h3).symm.trans hT
      refine And.intro (fun h26 => ?_) (fun h26 => by exfalso; omega)
      exact And.intro (by (first | (clear hm hnf; omega) | omega)) ((hK _ i0 j0 f0 hT).2 (by first | omega | (subst_vars; omega) | (simp_all; done) | (simp_all; omega)))
  · replace hT := (if_neg h1).symm.trans hT
    refine And.intro (fun h27 => ?_) (fun h27 => by exfalso; omega)
    exact And.intro (by (first | (clear hm hnf; omega) | omega)) ((hK _ i0 j0 f0 hT).2 (by first | omega | (subst_vars; omega) | (simp_all; done) | (simp_all; omega)))
theorem pM_kind {k n r w : Int} {A : qA} (hA : qokA LM A) (rg_k : rng k) (rg_n : rng n) (rg_r : rng r) (rg_w : rng w) (p0 : iva IM A) (p1 : ivf JM A) : qokA LM (fM_kind k n r w A) ∧ iva IM (fM_kind k n r w A) ∧ ivf JM (fM_kind k n r w A) ∧ frm [11, 12, 13] [] A (fM_kind k n r w A) := by
  obtain ⟨r, B, hB, _, hk⟩ := okM_ex okM_kind (as := [rf 0, ni k, ni n, ni r, ni w]) (K := fun _ B => B = (fM_kind k n r w A) ∧ iva IM (fM_kind k n r w A) ∧ ivf JM (fM_kind k n r w A) ∧ frm [11, 12, 13] [] A (fM_kind k n r w A)) hA (qoks_c (show qok (rf _) from trivial) (qoks_c (rg_k) (qoks_c (rg_n) (qoks_c (rg_r) (qoks_c (rg_w) qoks_n))))) ⟨k, n, r, w, rfl, ⟨p0, p1⟩, fun A9 i9 j9 f9 x0 => (by rw [← x0]; exact ⟨fun _ => ⟨rfl, i9, j9, f9⟩, fun _ => ⟨rfl, i9, j9, f9⟩⟩)⟩
  exact ⟨hk.1 ▸ hB, hk.2⟩
def fM_plant (c l k w : Int) (A : qA) : Int × qA := (if ((0 ≤ c ∧ c ≤ 7) ∧ (0 ≤ l ∧ l ≤ 5)) ∧ A 1 (6 * c + l) ≠ 0 then qlet (A 7 (6 * c + l)) fun v3 => (if v3 = (-1) then (if 0 ≤ k ∧ k ≤ 5 then (if 0 ≤ w ∧ w ≤ 200 then qlet (qu A 7 (6 * c + l) k) fun A11 => qlet (qu A11 8 (6 * c + l) w) fun A16 => (1, A16) else (0, A)) else (0, A)) else (0, A)) else (0, A))
def sM_plant : qS := fun as A K => ∃ c l k w : Int, as = [rf 0, ni c, ni l, ni k, ni w] ∧ (iva IM A ∧ ivf JM A) ∧ (∀ A' : qA, iva IM A' → ivf JM A' → frm [7, 8] [] A A' → ∀ r : Int, 0 ≤ r → r ≤ 1 → (r = (fM_plant c l k w A).1) → (A' = (fM_plant c l k w A).2) → K (some (ni r)) A')
theorem okM_plant : okM LM 4 155 sM_plant := by
  refine qmeth [] false [(150, sM_isHung), (149, sM_at), (145, sM_in)] 47 rfl ⟨okM_isHung.le (by decide), ⟨okM_at.le (by decide), ⟨okM_in.le (by decide), trivial⟩⟩⟩ ?_
  rintro _ A K hA has ⟨c, l, k, w, rfl, ⟨i0, j0⟩, hK⟩
  have rg_c : rng c := has (ni c) (by simp)
  have rg_l : rng l := has (ni l) (by simp)
  have rg_k : rng k := has (ni k) (by simp)
  have rg_w : rng w := has (ni w) (by simp)
  have f0 := frm_0 [7, 8] [] A
  have hT : _ = fM_plant c l k w A := (fM_plant.eq_1 c l k w A).symm
  refine ⟨Nat.le_of_ble_eq_true rfl, [], trivial, ?_⟩
  refine Exists.intro c (Exists.intro l (And.intro rfl (And.intro (And.intro i0 j0) (And.intro (fun h1 => ?_) (fun h1 => ?_)))))
  · replace hT := (if_pos h1).symm.trans hT
    refine And.intro (fun h2 => by exfalso; omega) (fun h2 => ?_)
    refine Exists.intro c (Exists.intro l (And.intro rfl (And.intro (And.intro (by (first | (clear hm hnf; omega) | omega)) (And.intro (by (first | (clear hm hnf; omega) | omega)) (And.intro (by (first | (clear hm hnf; omega) | omega)) (by (first | (clear hm hnf; omega) | omega))))) ?_)))
    refine And.intro (by (first | (clear hm hnf; omega) | omega)) (fun v3 gv3 e4 => ?_)
    replace hT := qlc e4 hT
    have b5 := iva_at i0 2 rfl (i := (6 * c + l)) (by (first | (clear hm hnf; omega) | omega)) (by (first | (clear hm hnf; omega) | omega))
    refine And.intro (fun h6 => ?_) (fun h6 => ?_)
    · replace hT := (if_neg h6).symm.trans hT
      exact And.intro (by (first | (clear hm hnf; omega) | omega)) (hK _ i0 j0 f0 _ (by (first | (clear hm hnf; omega) | omega)) (by (first | (clear hm hnf; omega) | omega)) (congrArg Prod.fst hT) (congrArg Prod.snd hT))
    · replace hT := (if_pos h6).symm.trans hT
      refine Exists.intro k (Exists.intro 0 (Exists.intro 5 (And.intro rfl (And.intro (fun h7 => ?_) (fun h7 => ?_)))))
      · replace hT := (if_pos h7).symm.trans hT
        refine And.intro (fun h8 => by exfalso; omega) (fun h8 => ?_)
        refine Exists.intro w (Exists.intro 0 (Exists.intro 200 (And.intro rfl (And.intro (fun h9 => ?_) (fun h9 => ?_)))))
        · replace hT := (if_pos h9).symm.trans hT
          refine And.intro (fun h10 => ?_) (fun h10 => by exfalso; omega)
          refine Exists.intro c (Exists.intro l (And.intro rfl (And.intro (And.intro (by (first | (clear hm hnf; omega) | omega)) (And.intro (by (first | (clear hm hnf; omega) | omega)) (And.intro (by (first | (clear hm hnf; omega) | omega)) (by (first | (clear hm hnf; omega) | omega))))) ?_)))
          refine And.intro (by (first | (clear hm hnf; omega) | omega)) (fun A11 e12 => ?_)
          replace hT := qlc e12 hT
          have i13 := iva_st i0 e12 (And.intro (by (first | (clear hm hnf; omega) | omega)) trivial)
          have j14 := ivf_sa j0 e12 rfl
          have f15 := frm_s f0 e12 rfl
          refine Exists.intro c (Exists.intro l (And.intro rfl (And.intro (And.intro (by (first | (clear hm hnf; omega) | omega)) (And.intro (by (first | (clear hm hnf; omega) | omega)) (And.intro (by (first | (clear hm hnf; omega) | omega)) (by (first | (clear hm hnf; omega) | omega))))) ?_)))
          refine And.intro (by (first | (clear hm hnf; omega) | omega)) (fun A16 e17 => ?_)
          replace hT := qlc e17 hT
          have i18 := iva_st i13 e17 trivial
          have j19 := ivf_sa j14 e17 rfl
          have f20 := frm_s f15 e17 rfl
          exact And.intro (by (first | (clear hm hnf; omega) | omega)) (hK _ i18 j19 f20 _ (by (first | (clear hm hnf; omega) | omega)) (by (first | (clear hm hnf; omega) | omega)) (congrArg Prod.fst hT) (congrArg Prod.snd hT))
        · replace hT := (if_neg h9).symm.trans hT
          refine And.intro (fun h21 => by exfalso; omega) (fun h21 => ?_)
          exact And.intro (by (first | (clear hm hnf; omega) | omega)) (hK _ i0 j0 f0 _ (by (first | (clear hm hnf; omega) | omega)) (by (first | (clear hm hnf; omega) | omega)) (congrArg Prod.fst hT) (congrArg Prod.snd hT))
      · replace hT := (if_neg h7).symm.trans hT
        refine And.intro (fun h22 => ?_) (fun h22 => by exfalso; omega)
        exact And.intro (by (first | (clear hm hnf; omega) | omega)) (hK _ i0 j0 f0 _ (by (first | (clear hm hnf; omega) | omega)) (by (first | (clear hm hnf; omega) | omega)) (congrArg Prod.fst hT) (congrArg Prod.snd hT))
  · replace hT := (if_neg h1).symm.trans hT
    refine And.intro (fun h23 => ?_) (fun h23 => by exfalso; omega)
    exact And.intro (by (first | (clear hm hnf; omega) | omega)) (hK _ i0 j0 f0 _ (by (first | (clear hm hnf; omega) | omega)) (by (first | (clear hm hnf; omega) | omega)) (congrArg Prod.fst hT) (congrArg Prod.snd hT))
theorem pM_plant {c l k w : Int} {A : qA} (hA : qokA LM A) (rg_c : rng c) (rg_l : rng l) (rg_k : rng k) (rg_w : rng w) (p0 : iva IM A) (p1 : ivf JM A) : qokA LM (fM_plant c l k w A).2 ∧ iva IM (fM_plant c l k w A).2 ∧ ivf JM (fM_plant c l k w A).2 ∧ frm [7, 8] [] A (fM_plant c l k w A).2 ∧ (0 ≤ (fM_plant c l k w A).1 ∧ (fM_plant c l k w A).1 ≤ 1) := by
  obtain ⟨r, B, hB, _, hk⟩ := okM_ex okM_plant (as := [rf 0, ni c, ni l, ni k, ni w]) (K := fun _ B => B = (fM_plant c l k w A).2 ∧ iva IM (fM_plant c l k w A).2 ∧ ivf JM (fM_plant c l k w A).2 ∧ frm [7, 8] [] A (fM_plant c l k w A).2 ∧ (0 ≤ (fM_plant c l k w A).1 ∧ (fM_plant c l k w A).1 ≤ 1)) hA (qoks_c (show qok (rf _) from trivial) (qoks_c (rg_c) (qoks_c (rg_l) (qoks_c (rg_k) (qoks_c (rg_w) qoks_n))))) ⟨c, l, k, w, rfl, ⟨p0, p1⟩, fun A9 i9 j9 f9 r9 g8 g9 x0 x1 => (by rw [← x1]; (try rw [← x0]); exact ⟨rfl, i9, j9, f9, ⟨g8, g9⟩⟩)⟩
  exact ⟨hk.1 ▸ hB, hk.2⟩
def fM_valve (c d : Int) (A : qA) : qA := (if 0 ≤ c ∧ c ≤ 7 then (if 0 ≤ d ∧ d ≤ 99 then qlet (qu A 14 c d) fun A5 => A5 else A) else A)
def sM_valve : qS := fun as A K => ∃ c d : Int, as = [rf 0, ni c, ni d] ∧ (iva IM A ∧ ivf JM A) ∧ (∀ A' : qA, iva IM A' → ivf JM A' → frm [14] [] A A' → (A' = fM_valve c d A) → ((0 ≤ c ∧ c ≤ 7) ∧ (0 ≤ d ∧ d ≤ 99) → K (some (ni 1)) A') ∧ (¬ ((0 ≤ c ∧ c ≤ 7) ∧ (0 ≤ d ∧ d ≤ 99)) → K (some (ni 0)) A'))
theorem okM_valve : okM LM 2 156 sM_valve := by
  refine qmeth [] false [(145, sM_in)] 25 rfl ⟨okM_in.le (by decide), trivial⟩ ?_
  rintro _ A K hA has ⟨c, d, rfl, ⟨i0, j0⟩, hK⟩
  have rg_c : rng c := has (ni c) (by simp)
  have rg_d : rng d := has (ni d) (by simp)
  have f0 := frm_0 [14] [] A
  have hT : _ = fM_valve c d A := (fM_valve.eq_1 c d A).symm
  refine ⟨Nat.le_of_ble_eq_true rfl, [], trivial, ?_⟩
  refine Exists.intro c (Exists.intro 0 (Exists.intro 7 (And.intro rfl (And.intro (fun h1 => ?_) (fun h1 => ?_)))))
  · replace hT := (if_pos h1).symm.trans hT
    refine And.intro (fun h2 => by exfalso; omega) (fun h2 => ?_)
    refine Exists.intro d (Exists.intro 0 (Exists.intro 99 (And.intro rfl (And.intro (fun h3 => ?_) (fun h3 => ?_)))))
    · replace hT := (if_pos h3).symm.trans hT
      refine And.intro (fun h4 => ?_) (fun h4 => by exfalso; omega)
      refine And.intro (by (first | (clear hm hnf; omega) | omega)) (fun A5 e6 => ?_)
      replace hT := qlc e6 hT
      have i7 := iva_st i0 e6 trivial
      have j8 := ivf_sa j0 e6 rfl
      have f9 := frm_s f0 e6 rfl
      exact And.intro (by (first | (clear hm hnf; omega) | omega)) ((hK _ i7 j8 f9 hT).1 (by first | omega | (subst_vars; omega) | (simp_all; done) | (simp_all; omega)))
    · replace hT := (if_neg h3).symm.trans hT
      refine And.intro (fun h10 => by exfalso; omega) (fun h10 => ?_)
      exact And.intro (by (first | (clear hm hnf; omega) | omega)) ((hK _ i0 j0 f0 hT).2 (by first | omega | (subst_vars; omega) | (simp_all; done) | (simp_all; omega)))
  · replace hT := (if_neg h1).symm.trans hT
    refine And.intro (fun h11 => ?_) (fun h11 => by exfalso; omega)
    exact And.intro (by (first | (clear hm hnf; omega) | omega)) ((hK _ i0 j0 f0 hT).2 (by first | omega | (subst_vars; omega) | (simp_all; done) | (simp_all; omega)))
theorem pM_valve {c d : Int} {A : qA} (hA : qokA LM A) (rg_c : rng c) (rg_d : rng d) (p0 : iva IM A) (p1 : ivf JM A) : qokA LM (fM_valve c d A) ∧ iva IM (fM_valve c d A) ∧ ivf JM (fM_valve c d A) ∧ frm [14] [] A (fM_valve c d A) := by
  obtain ⟨r, B, hB, _, hk⟩ := okM_ex okM_valve (as := [rf 0, ni c, ni d]) (K := fun _ B => B = (fM_valve c d A) ∧ iva IM (fM_valve c d A) ∧ ivf JM (fM_valve c d A) ∧ frm [14] [] A (fM_valve c d A)) hA (qoks_c (show qok (rf _) from trivial) (qoks_c (rg_c) (qoks_c (rg_d) qoks_n))) ⟨c, d, rfl, ⟨p0, p1⟩, fun A9 i9 j9 f9 x0 => (by rw [← x0]; exact ⟨fun _ => ⟨rfl, i9, j9, f9⟩, fun _ => ⟨rfl, i9, j9, f9⟩⟩)⟩
  exact ⟨hk.1 ▸ hB, hk.2⟩
def fM_kitchen (c o f : Int) (A : qA) : qA := (if 0 ≤ c ∧ c ≤ 7 then (if 0 ≤ o ∧ o ≤ 7 then (if 0 ≤ f ∧ f ≤ 9999 then qlet (qu A 15 c o) fun A7 => qlet (qu A7 16 c f) fun A12 => A12 else A) else A) else A)
def sM_kitchen : qS := fun as A K => ∃ c o f : Int, as = [rf 0, ni c, ni o, ni f] ∧ (iva IM A ∧ ivf JM A) ∧ (∀ A' : qA, iva IM A' → ivf JM A' → frm [15, 16] [] A A' → (A' = fM_kitchen c o f A) → ((0 ≤ c ∧ c ≤ 7) ∧ (0 ≤ o ∧ o ≤ 7) ∧ (0 ≤ f ∧ f ≤ 9999) → K (some (ni 1)) A') ∧ (¬ ((0 ≤ c ∧ c ≤ 7) ∧ (0 ≤ o ∧ o ≤ 7) ∧ (0 ≤ f ∧ f ≤ 9999)) → K (some (ni 0)) A'))
theorem okM_kitchen : okM LM 2 157 sM_kitchen := by
  refine qmeth [] false [(145, sM_in)] 35 rfl ⟨okM_in.le (by decide), trivial⟩ ?_
  rintro _ A K hA has ⟨c, o, f, rfl, ⟨i0, j0⟩, hK⟩
  have rg_c : rng c := has (ni c) (by simp)
  have rg_o : rng o := has (ni o) (by simp)
  have rg_f : rng f := has (ni f) (by simp)
  have f0 := frm_0 [15, 16] [] A
  have hT : _ = fM_kitchen c o f A := (fM_kitchen.eq_1 c o f A).symm
  refine ⟨Nat.le_of_ble_eq_true rfl, [], trivial, ?_⟩
  refine Exists.intro c (Exists.intro 0 (Exists.intro 7 (And.intro rfl (And.intro (fun h1 => ?_) (fun h1 => ?_)))))
  · replace hT := (if_pos h1).symm.trans hT
    refine And.intro (fun h2 => by exfalso; omega) (fun h2 => ?_)
    refine Exists.intro o (Exists.intro 0 (Exists.intro 7 (And.intro rfl (And.intro (fun h3 => ?_) (fun h3 => ?_)))))
    · replace hT := (if_pos h3).symm.trans hT
      refine And.intro (fun h4 => by exfalso; omega) (fun h4 => ?_)
      refine Exists.intro f (Exists.intro 0 (Exists.intro 9999 (And.intro rfl (And.intro (fun h5 => ?_) (fun h5 => ?_)))))
      · replace hT := (if_pos h5).symm.trans hT
        refine And.intro (fun h6 => ?_) (fun h6 => by exfalso; omega)
        refine And.intro (by (first | (clear hm hnf; omega) | omega)) (fun A7 e8 => ?_)
        replace hT := qlc e8 hT
        have i9 := iva_st i0 e8 (And.intro (by (first | (clear hm hnf; omega) | omega)) trivial)
        have j10 := ivf_sa j0 e8 rfl
        have f11 := frm_s f0 e8 rfl
        refine And.intro (by (first | (clear hm hnf; omega) | omega)) (fun A12 e13 => ?_)
        replace hT := qlc e13 hT
        have i14 := iva_st i9 e13 (And.intro (by (first | (clear hm hnf; omega) | omega)) trivial)
        have j15 := ivf_sa j10 e13 rfl
        have f16 := frm_s f11 e13 rfl
        exact And.intro (by (first | (clear hm hnf; omega) | omega)) ((hK _ i14 j15 f16 hT).1 (by first | omega | (subst_vars; omega) | (simp_all; done) | (simp_all; omega)))
      · replace hT := (if_neg h5).symm.trans hT
        refine And.intro (fun h17 => by exfalso; omega) (fun h17 => ?_)
        exact And.intro (by (first | (clear hm hnf; omega) | omega)) ((hK _ i0 j0 f0 hT).2 (by first | omega | (subst_vars; omega) | (simp_all; done) | (simp_all; omega)))
    · replace hT := (if_neg h3).symm.trans hT
      refine And.intro (fun h18 => ?_) (fun h18 => by exfalso; omega)
      exact And.intro (by (first | (clear hm hnf; omega) | omega)) ((hK _ i0 j0 f0 hT).2 (by first | omega | (subst_vars; omega) | (simp_all; done) | (simp_all; omega)))
  · replace hT := (if_neg h1).symm.trans hT
    refine And.intro (fun h19 => ?_) (fun h19 => by exfalso; omega)
    exact And.intro (by (first | (clear hm hnf; omega) | omega)) ((hK _ i0 j0 f0 hT).2 (by first | omega | (subst_vars; omega) | (simp_all; done) | (simp_all; omega)))
theorem pM_kitchen {c o f : Int} {A : qA} (hA : qokA LM A) (rg_c : rng c) (rg_o : rng o) (rg_f : rng f) (p0 : iva IM A) (p1 : ivf JM A) : qokA LM (fM_kitchen c o f A) ∧ iva IM (fM_kitchen c o f A) ∧ ivf JM (fM_kitchen c o f A) ∧ frm [15, 16] [] A (fM_kitchen c o f A) := by
  obtain ⟨r, B, hB, _, hk⟩ := okM_ex okM_kitchen (as := [rf 0, ni c, ni o, ni f]) (K := fun _ B => B = (fM_kitchen c o f A) ∧ iva IM (fM_kitchen c o f A) ∧ ivf JM (fM_kitchen c o f A) ∧ frm [15, 16] [] A (fM_kitchen c o f A)) hA (qoks_c (show qok (rf _) from trivial) (qoks_c (rg_c) (qoks_c (rg_o) (qoks_c (rg_f) qoks_n)))) ⟨c, o, f, rfl, ⟨p0, p1⟩, fun A9 i9 j9 f9 x0 => (by rw [← x0]; exact ⟨fun _ => ⟨rfl, i9, j9, f9⟩, fun _ => ⟨rfl, i9, j9, f9⟩⟩)⟩
  exact ⟨hk.1 ▸ hB, hk.2⟩
def fM_rope (c b w : Int) (A : qA) : qA := (if 0 ≤ c ∧ c ≤ 7 then (if 0 ≤ b ∧ b ≤ 999 then (if 0 ≤ w ∧ w ≤ 99 then qlet (qu A 20 c b) fun A7 => qlet (qu A7 21 c w) fun A12 => A12 else A) else A) else A)
def sM_rope : qS := fun as A K => ∃ c b w : Int, as = [rf 0, ni c, ni b, ni w] ∧ (iva IM A ∧ ivf JM A) ∧ (∀ A' : qA, iva IM A' → ivf JM A' → frm [20, 21] [] A A' → (A' = fM_rope c b w A) → ((0 ≤ c ∧ c ≤ 7) ∧ (0 ≤ b ∧ b ≤ 999) ∧ (0 ≤ w ∧ w ≤ 99) → K (some (ni 1)) A') ∧ (¬ ((0 ≤ c ∧ c ≤ 7) ∧ (0 ≤ b ∧ b ≤ 999) ∧ (0 ≤ w ∧ w ≤ 99)) → K (some (ni 0)) A'))
theorem okM_rope : okM LM 2 158 sM_rope := by
  refine qmeth [] false [(145, sM_in)] 35 rfl ⟨okM_in.le (by decide), trivial⟩ ?_
  rintro _ A K hA has ⟨c, b, w, rfl, ⟨i0, j0⟩, hK⟩
  have rg_c : rng c := has (ni c) (by simp)
  have rg_b : rng b := has (ni b) (by simp)
  have rg_w : rng w := has (ni w) (by simp)
  have f0 := frm_0 [20, 21] [] A
  have hT : _ = fM_rope c b w A := (fM_rope.eq_1 c b w A).symm
  refine ⟨Nat.le_of_ble_eq_true rfl, [], trivial, ?_⟩
  refine Exists.intro c (Exists.intro 0 (Exists.intro 7 (And.intro rfl (And.intro (fun h1 => ?_) (fun h1 => ?_)))))
  · replace hT := (if_pos h1).symm.trans hT
    refine And.intro (fun h2 => by exfalso; omega) (fun h2 => ?_)
    refine Exists.intro b (Exists.intro 0 (Exists.intro 999 (And.intro rfl (And.intro (fun h3 => ?_) (fun h3 => ?_)))))
    · replace hT := (if_pos h3).symm.trans hT
      refine And.intro (fun h4 => by exfalso; omega) (fun h4 => ?_)
      refine Exists.intro w (Exists.intro 0 (Exists.intro 99 (And.intro rfl (And.intro (fun h5 => ?_) (fun h5 => ?_)))))
      · replace hT := (if_pos h5).symm.trans hT
        refine And.intro (fun h6 => ?_) (fun h6 => by exfalso; omega)
        refine And.intro (by (first | (clear hm hnf; omega) | omega)) (fun A7 e8 => ?_)
        replace hT := qlc e8 hT
        have i9 := iva_st i0 e8 (And.intro (by (first | (clear hm hnf; omega) | omega)) trivial)
        have j10 := ivf_sa j0 e8 rfl
        have f11 := frm_s f0 e8 rfl
        refine And.intro (by (first | (clear hm hnf; omega) | omega)) (fun A12 e13 => ?_)
        replace hT := qlc e13 hT
        have i14 := iva_st i9 e13 (And.intro (by (first | (clear hm hnf; omega) | omega)) trivial)
        have j15 := ivf_sa j10 e13 rfl
        have f16 := frm_s f11 e13 rfl
        exact And.intro (by (first | (clear hm hnf; omega) | omega)) ((hK _ i14 j15 f16 hT).1 (by first | omega | (subst_vars; omega) | (simp_all; done) | (simp_all; omega)))
      · replace hT := (if_neg h5).symm.trans hT
        refine And.intro (fun h17 => by exfalso; omega) (fun h17 => ?_)
        exact And.intro (by (first | (clear hm hnf; omega) | omega)) ((hK _ i0 j0 f0 hT).2 (by first | omega | (subst_vars; omega) | (simp_all; done) | (simp_all; omega)))
    · replace hT := (if_neg h3).symm.trans hT
      refine And.intro (fun h18 => ?_) (fun h18 => by exfalso; omega)
      exact And.intro (by (first | (clear hm hnf; omega) | omega)) ((hK _ i0 j0 f0 hT).2 (by first | omega | (subst_vars; omega) | (simp_all; done) | (simp_all; omega)))
  · replace hT := (if_neg h1).symm.trans hT
    refine And.intro (fun h19 => ?_) (fun h19 => by exfalso; omega)
    exact And.intro (by (first | (clear hm hnf; omega) | omega)) ((hK _ i0 j0 f0 hT).2 (by first | omega | (subst_vars; omega) | (simp_all; done) | (simp_all; omega)))
theorem pM_rope {c b w : Int} {A : qA} (hA : qokA LM A) (rg_c : rng c) (rg_b : rng b) (rg_w : rng w) (p0 : iva IM A) (p1 : ivf JM A) : qokA LM (fM_rope c b w A) ∧ iva IM (fM_rope c b w A) ∧ ivf JM (fM_rope c b w A) ∧ frm [20, 21] [] A (fM_rope c b w A) := by
  obtain ⟨r, B, hB, _, hk⟩ := okM_ex okM_rope (as := [rf 0, ni c, ni b, ni w]) (K := fun _ B => B = (fM_rope c b w A) ∧ iva IM (fM_rope c b w A) ∧ ivf JM (fM_rope c b w A) ∧ frm [20, 21] [] A (fM_rope c b w A)) hA (qoks_c (show qok (rf _) from trivial) (qoks_c (rg_c) (qoks_c (rg_b) (qoks_c (rg_w) qoks_n)))) ⟨c, b, w, rfl, ⟨p0, p1⟩, fun A9 i9 j9 f9 x0 => (by rw [← x0]; exact ⟨fun _ => ⟨rfl, i9, j9, f9⟩, fun _ => ⟨rfl, i9, j9, f9⟩⟩)⟩
  exact ⟨hk.1 ▸ hB, hk.2⟩
def fM_seed (x : Int) (A : qA) : qA := (if 0 ≤ x ∧ x ≤ (qn 65535) then qlet (qu A 0 (fd 1) x) fun A4 => A4 else A)
def sM_seed : qS := fun as A K => ∃ x : Int, as = [rf 0, ni x] ∧ (iva IM A ∧ ivf JM A) ∧ (∀ A' : qA, iva IM A' → ivf JM A' → frm [] [(0, 1)] A A' → (A' = fM_seed x A) → (0 ≤ x ∧ x ≤ 65535 → K (some (ni 1)) A') ∧ (¬ (0 ≤ x ∧ x ≤ 65535) → K (some (ni 0)) A'))
theorem okM_seed : okM LM 2 159 sM_seed := by
  refine qmeth [] false [(145, sM_in)] 18 rfl ⟨okM_in.le (by decide), trivial⟩ ?_
  rintro _ A K hA has ⟨x, rfl, ⟨i0, j0⟩, hK⟩
  have rg_x : rng x := has (ni x) (by simp)
  have f0 := frm_0 [] [(0, 1)] A
  have hT : _ = fM_seed x A := (fM_seed.eq_1 x A).symm
  refine ⟨Nat.le_of_ble_eq_true rfl, [], trivial, ?_⟩
  have k1 : qn 65535 = 65535 := by decide
  refine Exists.intro x (Exists.intro 0 (Exists.intro (qn 65535) (And.intro rfl (And.intro (fun h2 => ?_) (fun h2 => ?_)))))
  · replace hT := (if_pos h2).symm.trans hT
    refine And.intro (fun h3 => ?_) (fun h3 => by exfalso; omega)
    refine fun A4 e5 => ?_
    replace hT := qlc e5 hT
    have i6 := iva_sf i0 e5 rfl
    have j7 := ivf_st j0 e5 (And.intro (by (first | (clear hm hnf; omega) | omega)) trivial)
    have f8 := frm_sf f0 e5 rfl
    exact And.intro (by (first | (clear hm hnf; omega) | omega)) ((hK _ i6 j7 f8 hT).1 (by first | omega | (subst_vars; omega) | (simp_all; done) | (simp_all; omega)))
  · replace hT := (if_neg h2).symm.trans hT
    refine And.intro (fun h9 => by exfalso; omega) (fun h9 => ?_)
    exact And.intro (by (first | (clear hm hnf; omega) | omega)) ((hK _ i0 j0 f0 hT).2 (by first | omega | (subst_vars; omega) | (simp_all; done) | (simp_all; omega)))
theorem pM_seed {x : Int} {A : qA} (hA : qokA LM A) (rg_x : rng x) (p0 : iva IM A) (p1 : ivf JM A) : qokA LM (fM_seed x A) ∧ iva IM (fM_seed x A) ∧ ivf JM (fM_seed x A) ∧ frm [] [(0, 1)] A (fM_seed x A) := by
  obtain ⟨r, B, hB, _, hk⟩ := okM_ex okM_seed (as := [rf 0, ni x]) (K := fun _ B => B = (fM_seed x A) ∧ iva IM (fM_seed x A) ∧ ivf JM (fM_seed x A) ∧ frm [] [(0, 1)] A (fM_seed x A)) hA (qoks_c (show qok (rf _) from trivial) (qoks_c (rg_x) qoks_n)) ⟨x, rfl, ⟨p0, p1⟩, fun A9 i9 j9 f9 x0 => (by rw [← x0]; exact ⟨fun _ => ⟨rfl, i9, j9, f9⟩, fun _ => ⟨rfl, i9, j9, f9⟩⟩)⟩
  exact ⟨hk.1 ▸ hB, hk.2⟩
def fM_types_c2 (rec : Nat → List Int → qA → qA) (l1 k : Int) (B : qA) : qA := (if k < 0 then B else qlet (B 0 (fd 26)) fun v3 => qlet (8 * k) fun v6 => qlet (sr l1 v6) fun v8 => qlet (w8 v8) fun v10 => qlet (qu B 22 v3 v10) fun A13 => qlet (A13 0 (fd 26)) fun v19 => qlet (v3 + 1) fun v23 => qlet (qu A13 0 (fd 26) v23) fun A25 => qlet (k + (-1)) fun v31 => rec 2 [l1, v31] A25)
def fM_types_L : Nat → Nat → List Int → qA → qA
  | 0 => fun _ _ B => B
  | nF + 1 => fun k zs B => bif Nat.beq k 2 then (match zs with | [l1, k] => fM_types_c2 (fM_types_L nF) l1 k B | _ => B) else B
theorem fM_types_L2 (nF : Nat) (l1 k : Int) (B : qA) : fM_types_L (nF + 1) 2 [l1, k] B = fM_types_c2 (fM_types_L nF) l1 k B := (congrFun (congrFun (congrFun (fM_types_L.eq_2 nF) 2) [l1, k]) B).trans (qL1 rfl rfl)
def fM_types (x : Int) (A : qA) : qA := (fM_types_L 100000) 2 [x, 3] A
def sM_types : qS := fun as A K => ∃ x : Int, as = [rf 0, ni x] ∧ (iva IM A ∧ ivf JM A ∧ (A 0 (fd 26) ≤ 216)) ∧ (∀ A' : qA, iva IM A' → ivf JM A' → frm [22] [(0, 26)] A A' → (A' 0 (fd 26) = A 0 (fd 26) + 4) → (A' = fM_types x A) → K none A')
theorem okM_types : okM LM 1 160 sM_types := by
  refine qmeth [] false [] 30 rfl trivial ?_
  rintro _ A K hA has ⟨x, rfl, ⟨i0, j0, p1⟩, hK⟩
  have rg_x : rng x := has (ni x) (by simp)
  have f0 := frm_0 [22] [(0, 26)] A
  have hb_0_26 := ivf_at j0 1 rfl
  have hT : _ = fM_types x A := (fM_types.eq_1 x A).symm
  refine ⟨Nat.le_of_ble_eq_true rfl, [(2, [(0, 2, 0), (1, 0, 0), (2, 0, 0)], fun zs B nn => match zs with | [l1, k] => iva IM B ∧ ivf JM B ∧ frm [22] [(0, 26)] A B ∧ nn = (k + 1 : Int).toNat ∧ (l1 = x) ∧ ((-1) ≤ k) ∧ (k ≤ 3) ∧ (B 0 (fd 26) = A 0 (fd 26) + 3 - k) ∧ (∃ nf : Nat, nn < nf ∧ fM_types_L nf 2 [l1, k] B = fM_types x A) | _ => False)], ?_, ?_⟩
  · refine ⟨⟨rfl, ?_⟩, trivial⟩
    · refine fun l1 k B mm hB hz hI => ?_
      obtain ⟨i1, j1, f1, hm, c0, c1, c2, c3, ⟨nf, hnf, hT⟩⟩ := hI
      obtain ⟨hz_l1, hz_k, _⟩ := hz
      obtain ⟨ng, rfl⟩ : ∃ k, nf = k + 1 := ⟨nf - 1, by omega⟩
      replace hT := (fM_types_c2.eq_1 (fM_types_L ng) l1 k B).symm.trans ((fM_types_L2 ng l1 k B).symm.trans hT)
      have hc_0_26 := ivf_at j1 1 rfl
      refine And.intro (fun h2 => ?_) (fun h2 => ?_)
      · replace hT := (if_pos h2).symm.trans hT
        exact hK _ i1 j1 f1 (by first | assumption | omega | simp_all) hT
      · replace hT := (if_neg (Int.not_lt.mpr h2)).symm.trans hT
        refine fun v3 gv3 e4 => ?_
        replace hT := qlc e4 hT
        have b5 := ivf_at j1 1 rfl
        refine fun v6 e7 => ?_
        replace hT := qlc e7 hT
        refine fun v8 e9 => ?_
        replace hT := qlc e9 hT
        refine fun v10 e11 => ?_
        replace hT := qlc e11 hT
        have h12 := w8_bd v8
        refine And.intro (by (first | (clear hm hnf; omega) | omega)) (And.intro (by (first | (clear hm hnf; omega) | omega)) (fun A13 e14 => ?_))
        replace hT := qlc e14 hT
        have i15 := iva_st i1 e14 (And.intro (by (first | (clear hm hnf; omega) | omega)) trivial)
        have j16 := ivf_sa j1 e14 rfl
        have f17 := frm_s f1 e14 rfl
        have t18 : A13 0 (fd 26) = B 0 (fd 26) := (congrFun (st_a e14 rfl) _)
        refine fun v19 gv19 e20 => ?_
        replace hT := qlc e20 hT
        have b21 := ivf_at j16 1 rfl
        have q22 : v3 = v19 := (e20.trans ((congrFun (st_a e14 rfl) _).trans e4.symm)).symm
        subst q22
        refine fun v23 e24 => ?_
        replace hT := qlc e24 hT
        refine And.intro (by (first | (clear hm hnf; omega) | omega)) (fun A25 e26 => ?_)
        replace hT := qlc e26 hT
        have i27 := iva_sf i15 e26 rfl
        have j28 := ivf_st j16 e26 (And.intro (by (first | (clear hm hnf; omega) | omega)) trivial)
        have f29 := frm_sf f17 e26 rfl
        have t30 := st_v e26
        refine fun v31 e32 => ?_
        replace hT := qlc e32 hT
        exact And.intro (by (first | (clear hm hnf; omega) | omega)) (Exists.intro (v31 + 1 : Int).toNat (And.intro (by first | exact qtn hm (by (try clear hm hnf); omega) | omega) (And.intro i27 (And.intro j28 (And.intro f29 (And.intro rfl (And.intro (by (first | (clear hm hnf; omega) | omega)) (And.intro (by (first | (clear hm hnf; omega) | omega)) (And.intro (by (first | (clear hm hnf; omega) | omega)) (And.intro (by (first | (clear hm hnf; omega) | omega)) (Exists.intro ng (And.intro (by first | exact qtm hm hnf (by (try clear hm hnf); omega) | omega) hT))))))))))))
  · exact Exists.intro (3 + 1 : Int).toNat (And.intro i0 (And.intro j0 (And.intro f0 (And.intro rfl (And.intro (by (first | (clear hm hnf; omega) | omega)) (And.intro (by (first | (clear hm hnf; omega) | omega)) (And.intro (by (first | (clear hm hnf; omega) | omega)) (And.intro (by (first | (clear hm hnf; omega) | omega)) (Exists.intro 100000 (And.intro (by (first | (clear hm hnf; omega) | omega)) hT))))))))))
theorem pM_types {x : Int} {A : qA} (hA : qokA LM A) (rg_x : rng x) (p0 : iva IM A) (p1 : ivf JM A) (p2 : A 0 (fd 26) ≤ 216) : qokA LM (fM_types x A) ∧ iva IM (fM_types x A) ∧ ivf JM (fM_types x A) ∧ frm [22] [(0, 26)] A (fM_types x A) ∧ ((fM_types x A) 0 (fd 26) = A 0 (fd 26) + 4) := by
  obtain ⟨r, B, hB, _, hk⟩ := okM_ex okM_types (as := [rf 0, ni x]) (K := fun _ B => B = (fM_types x A) ∧ iva IM (fM_types x A) ∧ ivf JM (fM_types x A) ∧ frm [22] [(0, 26)] A (fM_types x A) ∧ ((fM_types x A) 0 (fd 26) = A 0 (fd 26) + 4)) hA (qoks_c (show qok (rf _) from trivial) (qoks_c (rg_x) qoks_n)) ⟨x, rfl, ⟨p0, p1, p2⟩, fun A9 i9 j9 f9 x0 x1 => (by rw [← x1]; exact ⟨rfl, i9, j9, f9, x0⟩)⟩
  exact ⟨hk.1 ▸ hB, hk.2⟩
