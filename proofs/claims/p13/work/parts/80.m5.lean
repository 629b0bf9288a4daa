theorem jc_p (a b : Int) : (jc a b = 0 ∧ a = b) ∨ (jc a b = 1 ∧ b < a) ∨ (jc a b = -1 ∧ a < b) := by
  unfold jc
  split
  · next h => exact Or.inl ⟨rfl, h⟩
  · split
    · next h => exact Or.inr (Or.inl ⟨rfl, h⟩)
    · exact Or.inr (Or.inr ⟨rfl, by (first | (clear hm hnf; omega) | omega)⟩)
/-- what goes: the cell hangs no more, and none begins to hang -/
def HZ (c : Int) (A A' : qA) : Prop := A' 1 c = 0 ∧ ∀ i, 0 ≤ i → i < 48 → (A' 1 i = A 1 i ∨ A' 1 i = 0)
def hsN (A : qA) : Nat → Int
  | 0 => 0
  | n + 1 => hsN A n + A 1 n
def hs (A : qA) : Int := hsN A 48
theorem hsN_le {A A' : qA} (h : ∀ i, 0 ≤ i → i < 48 → 0 ≤ A' 1 i ∧ A' 1 i ≤ A 1 i) : ∀ n, n ≤ 48 → 0 ≤ hsN A' n ∧ hsN A' n ≤ hsN A n
  | 0, _ => ⟨Int.le_refl _, Int.le_refl _⟩
  | n + 1, hn => by
    have h1 := hsN_le h n (by (first | (clear hm hnf; omega) | omega))
    have h2 := h n (by (first | (clear hm hnf; omega) | omega)) (by (first | (clear hm hnf; omega) | omega))
    exact ⟨by show 0 ≤ hsN A' n + A' 1 n; omega, by show hsN A' n + A' 1 n ≤ hsN A n + A 1 n; omega⟩
theorem hsN_lt {A A' : qA} {c : Nat} (h : ∀ i, 0 ≤ i → i < 48 → 0 ≤ A' 1 i ∧ A' 1 i ≤ A 1 i) (hl : A' 1 c < A 1 c) : ∀ n, n ≤ 48 → c < n → hsN A' n < hsN A n
  | n + 1, hn, hc => by
    have h2 := h n (by (first | (clear hm hnf; omega) | omega)) (by (first | (clear hm hnf; omega) | omega))
    show hsN A' n + A' 1 n < hsN A n + A 1 n
    by_cases he : c = n
    · subst he
      have h1 := hsN_le h c (by (first | (clear hm hnf; omega) | omega))
      omega
    · have h1 := hsN_lt h hl n (by (first | (clear hm hnf; omega) | omega)) (by (first | (clear hm hnf; omega) | omega))
      omega
theorem hs_lt {A A' : qA} {c : Int} (hz : HZ c A A') (ia : iva IM A) (h0 : 0 ≤ c) (h1 : c < 48) (hn : A 1 c ≠ 0) : 0 ≤ hs A' ∧ hs A' < hs A := by
  have key : ∀ i, 0 ≤ i → i < 48 → 0 ≤ A' 1 i ∧ A' 1 i ≤ A 1 i := fun i a b => by
    have b1 := iva_at ia 0 rfl (i := i) a b
    rcases hz.2 i a b with q | q <;> omega
  have b1 := iva_at ia 0 rfl (i := c) h0 h1
  obtain ⟨n, rfl⟩ := Int.eq_ofNat_of_zero_le h0
  refine ⟨(hsN_le key 48 (Nat.le_refl _)).1, hsN_lt (c := n) key ?_ 48 (Nat.le_refl _) (by (first | (clear hm hnf; omega) | omega))⟩
  have := hz.1
  omega
theorem hs_bd {A : qA} (ia : iva IM A) : 0 ≤ hs A ∧ hs A ≤ 48 := by
  have gen : ∀ n : Nat, n ≤ 48 → 0 ≤ hsN A n ∧ hsN A n ≤ n := by
    intro n
    induction n with
    | zero => exact fun _ => ⟨Int.le_refl _, Int.le_refl _⟩
    | succ n ih =>
      intro hn
      have h1 := ih (by (first | (clear hm hnf; omega) | omega))
      have b1 := iva_at ia 0 rfl (i := (n : Int)) (by (first | (clear hm hnf; omega) | omega)) (by (first | (clear hm hnf; omega) | omega))
      refine ⟨by show 0 ≤ hsN A n + A 1 n; omega, by show hsN A n + A 1 n ≤ _; omega⟩
  exact gen 48 (Nat.le_refl _)
def fM_goesOff_c18 (rec : Nat → List Int → qA → Int × qA) (l1 l2 t s k : Int) (B : qA) : Int × qA := (if k < l1 then rec 48 [l1, t, s, l1] B else qlet (B 1 k) fun v27 => (if v27 = 0 then qlet (k + (-1)) fun v73 => rec 18 [l1, l2, t, s, ((wI v73))] B else (if l2 = 0 then qlet (s + 1) fun v32 => qlet (k + (-1)) fun v34 => rec 18 [l1, l2, t, ((wI v32)), ((wI v34))] B else qlet (B 7 k) fun v39 => (if v39 = (-1) then qlet (s + 1) fun v43 => qlet (k + (-1)) fun v45 => rec 18 [l1, l2, t, ((wI v43)), ((wI v45))] B else qlp (fM_falls k 0 B) fun r58 A54 => qlet (s + 1) fun v66 => qlet (k + (-1)) fun v68 => rec 18 [l1, l2, t, ((wI v66)), ((wI v68))] A54))))
def fM_goesOff_c48 (rec : Nat → List Int → qA → Int × qA) (l1 t s k : Int) (B : qA) : Int × qA := qlet (qd l1 6) fun v77 => qlet (v77 + 1) fun v80 => qlet (6 * v80) fun v82 => (if k < (wI v82) then qlet (qu B 1 k 0) fun A117 => qlet (k + 1) fun v123 => rec 48 [l1, t, s, ((wI v123))] A117 else qlet (l1 - 6) fun v87 => qlet (qm l1 6) fun v89 => qlet (fM_tears (wI v87) v89 t B) fun A94 => qlet (l1 + 6) fun v102 => qlet (qm l1 6) fun v104 => qlet (fM_tears (wI v102) v104 t A94) fun A109 => (s, A109))
def fM_goesOff_L : Nat → Nat → List Int → qA → Int × qA
  | 0 => fun _ _ B => (0, B)
  | nF + 1 => fun k zs B => bif Nat.beq k 18 then (match zs with | [l1, l2, t, s, k] => fM_goesOff_c18 (fM_goesOff_L nF) l1 l2 t s k B | _ => (0, B)) else bif Nat.beq k 48 then (match zs with | [l1, t, s, k] => fM_goesOff_c48 (fM_goesOff_L nF) l1 t s k B | _ => (0, B)) else (0, B)
theorem fM_goesOff_L18 (nF : Nat) (l1 l2 t s k : Int) (B : qA) : fM_goesOff_L (nF + 1) 18 [l1, l2, t, s, k] B = fM_goesOff_c18 (fM_goesOff_L nF) l1 l2 t s k B := (congrFun (congrFun (congrFun (fM_goesOff_L.eq_2 nF) 18) [l1, l2, t, s, k]) B).trans (qL1 rfl rfl)
theorem fM_goesOff_L48 (nF : Nat) (l1 t s k : Int) (B : qA) : fM_goesOff_L (nF + 1) 48 [l1, t, s, k] B = fM_goesOff_c48 (fM_goesOff_L nF) l1 t s k B := (congrFun (congrFun (congrFun (fM_goesOff_L.eq_2 nF) 48) [l1, t, s, k]) B).trans (qL0 rfl (qL1 rfl rfl))
def fM_goesOff (c b : Int) (A : qA) : Int × qA := qlet (fM_loadOf c A) fun r7 => qlet (qd r7 10) fun v10 => qlet (qd c 6) fun v13 => qlet (v13 + 1) fun v16 => qlet (6 * v16) fun v18 => qlet (v18 - 1) fun v20 => (fM_goesOff_L 100000) 18 [c, b, ((wI v10)), 0, ((wI v20))] A
def sM_goesOff : qS := fun as A K => ∃ c b : Int, as = [rf 0, ni c, ni b] ∧ (iva IM A ∧ ivf JM A ∧ 0 ≤ c ∧ c ≤ 47 ∧ 0 ≤ b ∧ b ≤ 1 ∧ (WF A) ∧ (LZ A)) ∧ (∀ A' : qA, iva IM A' → ivf JM A' → frm [34, 35, 9, 19, 18, 7, 8, 2, 38, 39, 40, 41, 42, 43, 44, 45, 46, 1, 3] [(0, 2), (0, 3)] A A' → ∀ r : Int, rng r → (LZ A') → (HZ c A A') → (r = (fM_goesOff c b A).1) → (A' = (fM_goesOff c b A).2) → K (some (ni r)) A')
theorem okM_goesOff : okM LM 6 206 sM_goesOff := by
  refine qmeth [] true [(198, sM_loadOf), (202, sM_falls), (205, sM_tears)] 90 rfl ⟨okM_loadOf.le (by decide), ⟨okM_falls.le (by decide), ⟨okM_tears.le (by decide), trivial⟩⟩⟩ ?_
  rintro _ A K hA has ⟨c, b, rfl, ⟨i0, j0, p1, p2, p3, p4, p5, p6⟩, hK⟩
  have rg_c : rng c := has (ni c) (by simp)
  have rg_b : rng b := has (ni b) (by simp)
  have f0 := frm_0 [34, 35, 9, 19, 18, 7, 8, 2, 38, 39, 40, 41, 42, 43, 44, 45, 46, 1, 3] [(0, 2), (0, 3)] A
  have hT : _ = fM_goesOff c b A := (fM_goesOff.eq_1 c b A).symm
  refine ⟨Nat.le_of_ble_eq_true rfl, [(18, [(0, 2, 0), (1, 0, 0), (2, 0, 0), (3, 0, 0), (4, 0, 0), (5, 0, 0)], fun zs B nn => match zs with | [l1, l2, t, s, k] => iva IM B ∧ ivf JM B ∧ frm [34, 35, 9, 19, 18, 7, 8, 2, 38, 39, 40, 41, 42, 43, 44, 45, 46, 1, 3] [(0, 2), (0, 3)] A B ∧ nn = (200 + k : Int).toNat ∧ (l1 = c) ∧ (l2 = b) ∧ ((-1) ≤ k) ∧ (k ≤ 47) ∧ (LZ B) ∧ (B 1 = A 1) ∧ (∃ nf : Nat, nn < nf ∧ fM_goesOff_L nf 18 [l1, l2, t, s, k] B = fM_goesOff c b A) | _ => False), (48, [(0, 2, 0), (1, 0, 0), (3, 0, 0), (4, 0, 0), (5, 0, 0)], fun zs B nn => match zs with | [l1, t, s, k] => iva IM B ∧ ivf JM B ∧ frm [34, 35, 9, 19, 18, 7, 8, 2, 38, 39, 40, 41, 42, 43, 44, 45, 46, 1, 3] [(0, 2), (0, 3)] A B ∧ nn = (48 - k : Int).toNat ∧ (l1 = c) ∧ (0 ≤ k) ∧ (k ≤ 48) ∧ (LZ B) ∧ (c ≤ k) ∧ (∀ i, 0 ≤ i → i < 48 → (B 1 i = A 1 i ∨ B 1 i = 0)) ∧ (c < k → B 1 c = 0) ∧ (∃ nf : Nat, nn < nf ∧ fM_goesOff_L nf 48 [l1, t, s, k] B = fM_goesOff c b A) | _ => False)], ?_, ?_⟩
  · refine ⟨⟨rfl, ?_⟩, ⟨rfl, ?_⟩, trivial⟩
    · refine fun l1 l2 t s k B mm hB hz hI => ?_
      obtain ⟨i1, j1, f1, hm, c0, c1, c2, c3, c4, c5, ⟨nf, hnf, hT⟩⟩ := hI
      obtain ⟨hz_l1, hz_l2, hz_t, hz_s, hz_k, _⟩ := hz
      obtain ⟨ng, rfl⟩ : ∃ k, nf = k + 1 := ⟨nf - 1, by omega⟩
      replace hT := (fM_goesOff_c18.eq_1 (fM_goesOff_L ng) l1 l2 t s k B).symm.trans ((fM_goesOff_L18 ng l1 l2 t s k B).symm.trans hT)
      refine And.intro (fun h26 => ?_) (fun h26 => ?_)
      · replace hT := (if_pos h26).symm.trans hT
        exact Exists.intro (48 - l1 : Int).toNat (And.intro (by first | exact qtn hm (by (try clear hm hnf); omega) | omega) (And.intro i1 (And.intro j1 (And.intro f1 (And.intro rfl (And.intro (by (first | (clear hm hnf; omega) | omega)) (And.intro (by (first | (clear hm hnf; omega) | omega)) (And.intro (by (first | (clear hm hnf; omega) | omega)) (And.intro c4 (And.intro (by (first | (clear hm hnf; omega) | omega)) (And.intro (by first | (intro i h0 h1; rw [f1, qu_is]; split; exact Or.inr rfl; exact c5 i h0 h1) | (intro i h0 h1; exact Or.inl (congrFun c5 i))) (And.intro (by first | omega | (intro hq; rw [f1, qu_is]; split; rfl; rename_i hh; exact c6 (by (first | (clear hm hnf; omega) | omega)))) (Exists.intro ng (And.intro (by first | exact qtm hm hnf (by (try clear hm hnf); omega) | omega) hT))))))))))))))
      · replace hT := (if_neg (Int.not_lt.mpr h26)).symm.trans hT
        refine And.intro (by (first | (clear hm hnf; omega) | omega)) (fun v27 gv27 e28 => ?_)
        replace hT := qlc e28 hT
        have b29 := iva_at i1 0 rfl (i := k) (by (first | (clear hm hnf; omega) | omega)) (by (first | (clear hm hnf; omega) | omega))
        refine And.intro (fun h30 => ?_) (fun h30 => ?_)
        · replace hT := (if_neg h30).symm.trans hT
          refine And.intro (fun h31 => ?_) (fun h31 => ?_)
          · replace hT := (if_pos h31).symm.trans hT
            refine fun v32 e33 => ?_
            replace hT := qlc e33 hT
            refine fun v34 e35 => ?_
            replace hT := qlc e35 hT
            have w36 := wI_rng v32
            have w37 := wI_rng v34
            have w38 : wI v34 = v34 := wI_id (by (first | (clear hm hnf; omega) | omega))
            exact Exists.intro (200 + ((wI v34)) : Int).toNat (And.intro (by first | exact qtn hm (by (try clear hm hnf); omega) | omega) (And.intro i1 (And.intro j1 (And.intro f1 (And.intro rfl (And.intro (by (first | (clear hm hnf; omega) | omega)) (And.intro (by (first | (clear hm hnf; omega) | omega)) (And.intro (by (first | (clear hm hnf; omega) | omega)) (And.intro (by (first | (clear hm hnf; omega) | omega)) (And.intro c4 (And.intro c5 (Exists.intro ng (And.intro (by first | exact qtm hm hnf (by (try clear hm hnf); omega) | omega) hT)))))))))))))
          · replace hT := (if_neg h31).symm.trans hT
            refine And.intro (by (first | (clear hm hnf; omega) | omega)) (fun v39 gv39 e40 => ?_)
            replace hT := qlc e40 hT
            have b41 := iva_at i1 2 rfl (i := k) (by (first | (clear hm hnf; omega) | omega)) (by (first | (clear hm hnf; omega) | omega))
            refine And.intro (fun h42 => ?_) (fun h42 => ?_)
            · replace hT := (if_pos h42).symm.trans hT
              refine fun v43 e44 => ?_
              replace hT := qlc e44 hT
              refine fun v45 e46 => ?_
              replace hT := qlc e46 hT
              have w47 := wI_rng v43
              have w48 := wI_rng v45
              have w49 : wI v45 = v45 := wI_id (by (first | (clear hm hnf; omega) | omega))
              exact Exists.intro (200 + ((wI v45)) : Int).toNat (And.intro (by first | exact qtn hm (by (try clear hm hnf); omega) | omega) (And.intro i1 (And.intro j1 (And.intro f1 (And.intro rfl (And.intro (by (first | (clear hm hnf; omega) | omega)) (And.intro (by (first | (clear hm hnf; omega) | omega)) (And.intro (by (first | (clear hm hnf; omega) | omega)) (And.intro (by (first | (clear hm hnf; omega) | omega)) (And.intro c4 (And.intro c5 (Exists.intro ng (And.intro (by first | exact qtm hm hnf (by (try clear hm hnf); omega) | omega) hT)))))))))))))
            · replace hT := (if_neg h42).symm.trans hT
              obtain ⟨v50, e51⟩ : ∃ v, v = B 7 k := ⟨_, rfl⟩
              have b52 := iva_at i1 2 rfl (i := k) (by (first | (clear hm hnf; omega) | omega)) (by (first | (clear hm hnf; omega) | omega))
              have q53 : v39 = v50 := (e51.trans e40.symm).symm
              subst q53
              refine Exists.intro k (Exists.intro 0 (And.intro rfl (And.intro (And.intro i1 (And.intro j1 (And.intro (by (first | (clear hm hnf; omega) | omega)) (And.intro (by (first | (clear hm hnf; omega) | omega)) (And.intro (by (first | (clear hm hnf; omega) | omega)) (And.intro (by (first | (clear hm hnf; omega) | omega)) (And.intro (by rw [← e51]; omega) (And.intro (WF_fr p5 f1 rfl) c4)))))))) (fun A54 i55 j56 f57 r58 g62 g63 g59 g60 g61 => ?_))))
              replace hT := qlpc g60 g61 hT
              clear g60 g61
              have f64 := frm_c f1 f57 rfl
              refine fun v66 e67 => ?_
              replace hT := qlc e67 hT
              refine fun v68 e69 => ?_
              replace hT := qlc e69 hT
              have w70 := wI_rng v66
              have w71 := wI_rng v68
              have w72 : wI v68 = v68 := wI_id (by (first | (clear hm hnf; omega) | omega))
              exact Exists.intro (200 + ((wI v68)) : Int).toNat (And.intro (by first | exact qtn hm (by (try clear hm hnf); omega) | omega) (And.intro i55 (And.intro j56 (And.intro f64 (And.intro rfl (And.intro (by (first | (clear hm hnf; omega) | omega)) (And.intro (by (first | (clear hm hnf; omega) | omega)) (And.intro (by (first | (clear hm hnf; omega) | omega)) (And.intro (by (first | (clear hm hnf; omega) | omega)) (And.intro g59 (And.intro (Eq.trans (frm_a f57 rfl) c5) (Exists.intro ng (And.intro (by first | exact qtm hm hnf (by (try clear hm hnf); omega) | omega) hT)))))))))))))
        · replace hT := (if_pos h30).symm.trans hT
          refine fun v73 e74 => ?_
          replace hT := qlc e74 hT
          have w75 := wI_rng v73
          have w76 : wI v73 = v73 := wI_id (by (first | (clear hm hnf; omega) | omega))
          exact Exists.intro (200 + ((wI v73)) : Int).toNat (And.intro (by first | exact qtn hm (by (try clear hm hnf); omega) | omega) (And.intro i1 (And.intro j1 (And.intro f1 (And.intro rfl (And.intro (by (first | (clear hm hnf; omega) | omega)) (And.intro (by (first | (clear hm hnf; omega) | omega)) (And.intro (by (first | (clear hm hnf; omega) | omega)) (And.intro (by (first | (clear hm hnf; omega) | omega)) (And.intro c4 (And.intro c5 (Exists.intro ng (And.intro (by first | exact qtm hm hnf (by (try clear hm hnf); omega) | omega) hT)))))))))))))
    · refine fun l1 t s k B mm hB hz hI => ?_
      obtain ⟨i1, j1, f1, hm, c0, c1, c2, c3, c4, c5, c6, ⟨nf, hnf, hT⟩⟩ := hI
      obtain ⟨hz_l1, hz_t, hz_s, hz_k, _⟩ := hz
      obtain ⟨ng, rfl⟩ : ∃ k, nf = k + 1 := ⟨nf - 1, by omega⟩
      replace hT := (fM_goesOff_c48.eq_1 (fM_goesOff_L ng) l1 t s k B).symm.trans ((fM_goesOff_L48 ng l1 t s k B).symm.trans hT)
      refine And.intro (by (first | (clear hm hnf; omega) | omega)) (fun v77 e78 => ?_)
      replace hT := qlc e78 hT
      have h79 := qd_nn (a := l1) (b := 6) (by (first | (clear hm hnf; omega) | omega))
      refine fun v80 e81 => ?_
      replace hT := qlc e81 hT
      refine fun v82 e83 => ?_
      replace hT := qlc e83 hT
      have w85 := wI_rng v82
      have w86 : wI v82 = v82 := wI_id (by (first | (clear hm hnf; omega) | omega))
      refine And.intro (fun h84 => ?_) (fun h84 => ?_)
      · replace hT := (if_neg (Int.not_lt.mpr h84)).symm.trans hT
        refine fun v87 e88 => ?_
        replace hT := qlc e88 hT
        refine And.intro (by (first | (clear hm hnf; omega) | omega)) (fun v89 e90 => ?_)
        replace hT := qlc e90 hT
        have h91 := qm_nn (a := l1) (b := 6) (by (first | (clear hm hnf; omega) | omega))
        have w92 := wI_rng v87
        have w93 : wI v87 = v87 := wI_id (by (first | (clear hm hnf; omega) | omega))
        refine Exists.intro (wI v87) (Exists.intro v89 (Exists.intro t (And.intro rfl (And.intro (And.intro i1 (And.intro j1 (And.intro (by (first | (clear hm hnf; omega) | omega)) (by (first | (clear hm hnf; omega) | omega))))) (fun A94 i95 j96 f97 g98 => ?_)))))
        replace hT := qlc g98 hT
        have f99 := frm_c f1 f97 rfl
        have cz101 := LZ_fr c3 f97 rfl
        refine fun v102 e103 => ?_
        replace hT := qlc e103 hT
        refine And.intro (by (first | (clear hm hnf; omega) | omega)) (fun v104 e105 => ?_)
        replace hT := qlc e105 hT
        have h106 := qm_nn (a := l1) (b := 6) (by (first | (clear hm hnf; omega) | omega))
        have w107 := wI_rng v102
        have w108 : wI v102 = v102 := wI_id (by (first | (clear hm hnf; omega) | omega))
        refine Exists.intro (wI v102) (Exists.intro v104 (Exists.intro t (And.intro rfl (And.intro (And.intro i95 (And.intro j96 (And.intro (by (first | (clear hm hnf; omega) | omega)) (by (first | (clear hm hnf; omega) | omega))))) (fun A109 i110 j111 f112 g113 => ?_)))))
        replace hT := qlc g113 hT
        have f114 := frm_c f99 f112 rfl
        have cz116 := LZ_fr cz101 f112 rfl
        exact hK _ i110 j111 f114 _ (by first | exact wI_rng _ | omega) cz116 (by have q1 : A109 1 = B 1 := (Eq.trans (frm_a f112 rfl) (frm_a f97 rfl)); exact ⟨by rw [q1]; exact c6 (by (first | (clear hm hnf; omega) | omega)), by rw [q1]; exact c5⟩) (congrArg Prod.fst hT) (congrArg Prod.snd hT)
      · replace hT := (if_pos h84).symm.trans hT
        refine And.intro (by (first | (clear hm hnf; omega) | omega)) (And.intro (by (first | (clear hm hnf; omega) | omega)) (fun A117 e118 => ?_))
        replace hT := qlc e118 hT
        have i119 := iva_st i1 e118 (And.intro (by (first | (clear hm hnf; omega) | omega)) trivial)
        have j120 := ivf_sa j1 e118 rfl
        have f121 := frm_s f1 e118 rfl
        have cz122 := LZ_k c3 (st_a e118 rfl) (st_a e118 rfl)
        refine fun v123 e124 => ?_
        replace hT := qlc e124 hT
        have w125 := wI_rng v123
        have w126 : wI v123 = v123 := wI_id (by (first | (clear hm hnf; omega) | omega))
        exact Exists.intro (48 - ((wI v123)) : Int).toNat (And.intro (by first | exact qtn hm (by (try clear hm hnf); omega) | omega) (And.intro i119 (And.intro j120 (And.intro f121 (And.intro rfl (And.intro (by (first | (clear hm hnf; omega) | omega)) (And.intro (by (first | (clear hm hnf; omega) | omega)) (And.intro (by (first | (clear hm hnf; omega) | omega)) (And.intro cz122 (And.intro (by (first | (clear hm hnf; omega) | omega)) (And.intro (by first | (intro i h0 h1; rw [e118, qu_is]; split; exact Or.inr rfl; exact c5 i h0 h1) | (intro i h0 h1; exact Or.inl (congrFun c5 i))) (And.intro (by first | omega | (intro hq; rw [e118, qu_is]; split; rfl; rename_i hh; exact c6 (by (first | (clear hm hnf; omega) | omega)))) (Exists.intro ng (And.intro (by first | exact qtm hm hnf (by (try clear hm hnf); omega) | omega) hT))))))))))))))
  · refine Exists.intro c (And.intro rfl (And.intro (And.intro i0 (And.intro j0 (And.intro (by (first | (clear hm hnf; omega) | omega)) (by (first | (clear hm hnf; omega) | omega))))) (fun r7 g9 g8 => ?_)))
    replace hT := qlc g8 hT
    clear g8
    refine And.intro (by (first | (clear hm hnf; omega) | omega)) (fun v10 e11 => ?_)
    replace hT := qlc e11 hT
    have h12 := qd_bd (a := r7) (b := 10) (lo := (-2147483648)) (hi := 2147483647) (by (first | (clear hm hnf; omega) | omega)) (by (first | (clear hm hnf; omega) | omega)) (by (first | (clear hm hnf; omega) | omega)) (by (first | (clear hm hnf; omega) | omega)) (by (first | (clear hm hnf; omega) | omega))
    refine And.intro (by (first | (clear hm hnf; omega) | omega)) (fun v13 e14 => ?_)
    replace hT := qlc e14 hT
    have h15 := qd_nn (a := c) (b := 6) (by (first | (clear hm hnf; omega) | omega))
    refine fun v16 e17 => ?_
    replace hT := qlc e17 hT
    refine fun v18 e19 => ?_
    replace hT := qlc e19 hT
    refine fun v20 e21 => ?_
    replace hT := qlc e21 hT
    have w22 := wI_rng v10
    have w23 : wI v10 = v10 := wI_id (by (first | (clear hm hnf; omega) | omega))
    have w24 := wI_rng v20
    have w25 : wI v20 = v20 := wI_id (by (first | (clear hm hnf; omega) | omega))
    exact Exists.intro (200 + ((wI v20)) : Int).toNat (And.intro i0 (And.intro j0 (And.intro f0 (And.intro rfl (And.intro (by (first | (clear hm hnf; omega) | omega)) (And.intro (by (first | (clear hm hnf; omega) | omega)) (And.intro (by (first | (clear hm hnf; omega) | omega)) (And.intro (by (first | (clear hm hnf; omega) | omega)) (And.intro p6 (And.intro rfl (Exists.intro 100000 (And.intro (by (first | (clear hm hnf; omega) | omega)) hT))))))))))))
theorem pM_goesOff {c b : Int} {A : qA} (hA : qokA LM A) (p0 : iva IM A) (p1 : ivf JM A) (p2 : 0 ≤ c) (p3 : c ≤ 47) (p4 : 0 ≤ b) (p5 : b ≤ 1) (p6 : WF A) (p7 : LZ A) : qokA LM (fM_goesOff c b A).2 ∧ iva IM (fM_goesOff c b A).2 ∧ ivf JM (fM_goesOff c b A).2 ∧ frm [34, 35, 9, 19, 18, 7, 8, 2, 38, 39, 40, 41, 42, 43, 44, 45, 46, 1, 3] [(0, 2), (0, 3)] A (fM_goesOff c b A).2 ∧ rng (fM_goesOff c b A).1 ∧ (LZ (fM_goesOff c b A).2) ∧ (HZ c A (fM_goesOff c b A).2) := by
  obtain ⟨r, B, hB, _, hk⟩ := okM_ex okM_goesOff (as := [rf 0, ni c, ni b]) (K := fun _ B => B = (fM_goesOff c b A).2 ∧ iva IM (fM_goesOff c b A).2 ∧ ivf JM (fM_goesOff c b A).2 ∧ frm [34, 35, 9, 19, 18, 7, 8, 2, 38, 39, 40, 41, 42, 43, 44, 45, 46, 1, 3] [(0, 2), (0, 3)] A (fM_goesOff c b A).2 ∧ rng (fM_goesOff c b A).1 ∧ (LZ (fM_goesOff c b A).2) ∧ (HZ c A (fM_goesOff c b A).2)) hA (qoks_c (show qok (rf _) from trivial) (qoks_c (show rng c from ⟨by (first | (clear hm hnf; omega) | omega), by (first | (clear hm hnf; omega) | omega)⟩) (qoks_c (show rng b from ⟨by (first | (clear hm hnf; omega) | omega), by (first | (clear hm hnf; omega) | omega)⟩) qoks_n))) ⟨c, b, rfl, ⟨p0, p1, p2, p3, p4, p5, p6, p7⟩, fun A9 i9 j9 f9 r9 g9 x0 x1 x2 x3 => (by rw [← x3]; (try rw [← x2]); exact ⟨rfl, i9, j9, f9, g9, x0, x1⟩)⟩
  exact ⟨hk.1 ▸ hB, hk.2⟩
def fM_go_c5 (rec : Nat → List Int → qA → Int × qA) (s c : Int) (B : qA) : Int × qA := (if c = (-1) then (s, B) else qlp (fM_goesOff c 1 B) fun r13 A9 => qlet (s + r13) fun v21 => qlet (fM_firstGoing A9) fun r23 => rec 5 [((wI v21)), r23] A9)
def fM_go_L : Nat → Nat → List Int → qA → Int × qA
  | 0 => fun _ _ B => (0, B)
  | nF + 1 => fun k zs B => bif Nat.beq k 5 then (match zs with | [s, c] => fM_go_c5 (fM_go_L nF) s c B | _ => (0, B)) else (0, B)
theorem fM_go_L5 (nF : Nat) (s c : Int) (B : qA) : fM_go_L (nF + 1) 5 [s, c] B = fM_go_c5 (fM_go_L nF) s c B := (congrFun (congrFun (congrFun (fM_go_L.eq_2 nF) 5) [s, c]) B).trans (qL1 rfl rfl)
def fM_go (A : qA) : Int × qA := qlet (fM_firstGoing A) fun r3 => (fM_go_L 100000) 5 [0, r3] A
def sM_go : qS := fun as A K => as = [rf 0] ∧ (iva IM A ∧ ivf JM A ∧ (WF A) ∧ (LZ A)) ∧ (∀ A' : qA, iva IM A' → ivf JM A' → frm [34, 35, 9, 19, 18, 7, 8, 2, 38, 39, 40, 41, 42, 43, 44, 45, 46, 1, 3] [(0, 2), (0, 3)] A A' → ∀ r : Int, rng r → (LZ A') → (r = (fM_go A).1) → (A' = (fM_go A).2) → K (some (ni r)) A')
theorem okM_go : okM LM 7 207 sM_go := by
  refine qmeth [] true [(204, sM_firstGoing), (206, sM_goesOff)] 27 rfl ⟨okM_firstGoing.le (by decide), ⟨okM_goesOff.le (by decide), trivial⟩⟩ ?_
  rintro _ A K hA has ⟨rfl, ⟨i0, j0, p1, p2⟩, hK⟩
  have f0 := frm_0 [34, 35, 9, 19, 18, 7, 8, 2, 38, 39, 40, 41, 42, 43, 44, 45, 46, 1, 3] [(0, 2), (0, 3)] A
  have hT : _ = fM_go A := (fM_go.eq_1 A).symm
  refine ⟨Nat.le_of_ble_eq_true rfl, [(5, [(0, 2, 0), (1, 0, 0), (2, 0, 0)], fun zs B nn => match zs with | [s, c] => iva IM B ∧ ivf JM B ∧ frm [34, 35, 9, 19, 18, 7, 8, 2, 38, 39, 40, 41, 42, 43, 44, 45, 46, 1, 3] [(0, 2), (0, 3)] A B ∧ nn = (hs B : Int).toNat ∧ ((-1) ≤ c) ∧ (c ≤ 47) ∧ (c < 0 ∨ B 1 c ≠ 0) ∧ (LZ B) ∧ (∃ nf : Nat, nn < nf ∧ fM_go_L nf 5 [s, c] B = fM_go A) | _ => False)], ?_, ?_⟩
  · refine ⟨⟨rfl, ?_⟩, trivial⟩
    · refine fun s c B mm hB hz hI => ?_
      obtain ⟨i1, j1, f1, hm, c0, c1, c2, c3, ⟨nf, hnf, hT⟩⟩ := hI
      obtain ⟨hz_s, hz_c, _⟩ := hz
      obtain ⟨ng, rfl⟩ : ∃ k, nf = k + 1 := ⟨nf - 1, by omega⟩
      replace hT := (fM_go_c5.eq_1 (fM_go_L ng) s c B).symm.trans ((fM_go_L5 ng s c B).symm.trans hT)
      refine And.intro (fun h8 => ?_) (fun h8 => ?_)
      · replace hT := (if_pos h8).symm.trans hT
        exact hK _ i1 j1 f1 _ (by first | assumption | exact ⟨by (first | (clear hm hnf; omega) | omega), by (first | (clear hm hnf; omega) | omega)⟩ | exact wI_rng _ | exact i_rng _ | (subst_vars; exact i_rng _) | exact (hA _ _).2 rfl) c3 (congrArg Prod.fst hT) (congrArg Prod.snd hT)
      · replace hT := (if_neg h8).symm.trans hT
        refine Exists.intro c (Exists.intro 1 (And.intro rfl (And.intro (And.intro i1 (And.intro j1 (And.intro (by (first | (clear hm hnf; omega) | omega)) (And.intro (by (first | (clear hm hnf; omega) | omega)) (And.intro (by (first | (clear hm hnf; omega) | omega)) (And.intro (by (first | (clear hm hnf; omega) | omega)) (And.intro (WF_fr p1 f1 rfl) c3))))))) (fun A9 i10 j11 f12 r13 g18 g14 g15 g16 g17 => ?_))))
        replace hT := qlpc g16 g17 hT
        clear g16 g17
        have f19 := frm_c f1 f12 rfl
        have hh := hs_lt g15 i1 (by (first | (clear hm hnf; omega) | omega)) (by (first | (clear hm hnf; omega) | omega)) (by (first | (clear hm hnf; omega) | omega))
        refine fun v21 e22 => ?_
        replace hT := qlc e22 hT
        refine And.intro rfl (And.intro (And.intro i10 j11) (fun r23 g26 g27 g24 g25 => ?_))
        replace hT := qlc g25 hT
        clear g25
        have w28 := wI_rng v21
        exact Exists.intro (hs A9 : Int).toNat (And.intro (by first | exact qtn hm (by (try clear hm hnf); omega) | omega) (And.intro i10 (And.intro j11 (And.intro f19 (And.intro rfl (And.intro (by (first | (clear hm hnf; omega) | omega)) (And.intro (by (first | (clear hm hnf; omega) | omega)) (And.intro (by (first | (clear hm hnf; omega) | omega)) (And.intro g14 (Exists.intro ng (And.intro (by first | exact qtm hm hnf (by (try clear hm hnf); omega) | omega) hT)))))))))))
  · have hh0 := hs_bd i0
    refine And.intro rfl (And.intro (And.intro i0 j0) (fun r3 g6 g7 g4 g5 => ?_))
    replace hT := qlc g5 hT
    clear g5
    exact Exists.intro (hs A : Int).toNat (And.intro i0 (And.intro j0 (And.intro f0 (And.intro rfl (And.intro (by (first | (clear hm hnf; omega) | omega)) (And.intro (by (first | (clear hm hnf; omega) | omega)) (And.intro (by (first | (clear hm hnf; omega) | omega)) (And.intro p2 (Exists.intro 100000 (And.intro (by (first | (clear hm hnf; omega) | omega)) hT))))))))))
theorem pM_go {A : qA} (hA : qokA LM A) (p0 : iva IM A) (p1 : ivf JM A) (p2 : WF A) (p3 : LZ A) : qokA LM (fM_go A).2 ∧ iva IM (fM_go A).2 ∧ ivf JM (fM_go A).2 ∧ frm [34, 35, 9, 19, 18, 7, 8, 2, 38, 39, 40, 41, 42, 43, 44, 45, 46, 1, 3] [(0, 2), (0, 3)] A (fM_go A).2 ∧ rng (fM_go A).1 ∧ (LZ (fM_go A).2) := by
  obtain ⟨r, B, hB, _, hk⟩ := okM_ex okM_go (as := [rf 0]) (K := fun _ B => B = (fM_go A).2 ∧ iva IM (fM_go A).2 ∧ ivf JM (fM_go A).2 ∧ frm [34, 35, 9, 19, 18, 7, 8, 2, 38, 39, 40, 41, 42, 43, 44, 45, 46, 1, 3] [(0, 2), (0, 3)] A (fM_go A).2 ∧ rng (fM_go A).1 ∧ (LZ (fM_go A).2)) hA (qoks_c (show qok (rf _) from trivial) qoks_n) ⟨rfl, ⟨p0, p1, p2, p3⟩, fun A9 i9 j9 f9 r9 g9 x0 x1 x2 => (by rw [← x2]; (try rw [← x1]); exact ⟨rfl, i9, j9, f9, g9, x0⟩)⟩
  exact ⟨hk.1 ▸ hB, hk.2⟩
def fM_torn_c9 (rec : Nat → List Int → qA → Int × qA) (l1 l2 k : Int) (B : qA) : Int × qA := (if k < 48 then qlet (B 1 k) fun v24 => qlet (qu B 47 k v24) fun A27 => qlet (A27 3 k) fun v33 => qlet (qu A27 48 k v33) fun A35 => qlet (k + 1) fun v41 => rec 9 [l1, l2, v41] A35 else qlp (fM_goesOff (6 * l1 + l2) 0 B) fun r11 A7 => qlet (fM_firstGoing A7) fun r19 => rec 40 [r19] A7)
def fM_torn_c40 (rec : Nat → List Int → qA → Int × qA) (cc : Int) (B : qA) : Int × qA := (if cc = (-1) then qlet ((0 : Int)) fun v44 => rec 56 [v44, 0] B else qlp (fM_goesOff cc 0 B) fun r50 A46 => qlet (fM_firstGoing A46) fun r58 => rec 40 [r58] A46)
def fM_torn_c56 (rec : Nat → List Int → qA → Int × qA) (l3 k : Int) (B : qA) : Int × qA := (if k < 48 then qlet (B 47 k) fun v64 => (if v64 = 0 then qlet (B 47 k) fun v68 => qlet (qu B 1 k v64) fun A72 => qlet (A72 48 k) fun v78 => qlet (qu A72 3 k v78) fun A80 => qlet (k + 1) fun v86 => rec 56 [l3, v86] A80 else qlet (B 1 k) fun v88 => (if v88 = 0 then qlet ((1 : Int)) fun v112 => qlet (jsl v112 k) fun v114 => qlet (jo l3 v114) fun v116 => qlet (B 47 k) fun v118 => qlet (qu B 1 k v64) fun A122 => qlet (A122 48 k) fun v128 => qlet (qu A122 3 k v128) fun A130 => qlet (k + 1) fun v136 => rec 56 [v116, v136] A130 else qlet (B 47 k) fun v92 => qlet (qu B 1 k v64) fun A96 => qlet (A96 48 k) fun v102 => qlet (qu A96 3 k v102) fun A104 => qlet (k + 1) fun v110 => rec 56 [l3, v110] A104)) else (l3, B))
def fM_torn_L : Nat → Nat → List Int → qA → Int × qA
  | 0 => fun _ _ B => (0, B)
  | nF + 1 => fun k zs B => bif Nat.beq k 9 then (match zs with | [l1, l2, k] => fM_torn_c9 (fM_torn_L nF) l1 l2 k B | _ => (0, B)) else bif Nat.beq k 40 then (match zs with | [cc] => fM_torn_c40 (fM_torn_L nF) cc B | _ => (0, B)) else bif Nat.beq k 56 then (match zs with | [l3, k] => fM_torn_c56 (fM_torn_L nF) l3 k B | _ => (0, B)) else (0, B)
theorem fM_torn_L9 (nF : Nat) (l1 l2 k : Int) (B : qA) : fM_torn_L (nF + 1) 9 [l1, l2, k] B = fM_torn_c9 (fM_torn_L nF) l1 l2 k B := (congrFun (congrFun (congrFun (fM_torn_L.eq_2 nF) 9) [l1, l2, k]) B).trans (qL1 rfl rfl)
theorem fM_torn_L40 (nF : Nat) (cc : Int) (B : qA) : fM_torn_L (nF + 1) 40 [cc] B = fM_torn_c40 (fM_torn_L nF) cc B := (congrFun (congrFun (congrFun (fM_torn_L.eq_2 nF) 40) [cc]) B).trans (qL0 rfl (qL1 rfl rfl))
theorem fM_torn_L56 (nF : Nat) (l3 k : Int) (B : qA) : fM_torn_L (nF + 1) 56 [l3, k] B = fM_torn_c56 (fM_torn_L nF) l3 k B := (congrFun (congrFun (congrFun (fM_torn_L.eq_2 nF) 56) [l3, k]) B).trans (qL0 rfl (qL0 rfl (qL1 rfl rfl)))
def fM_torn (c l : Int) (A : qA) : Int × qA := (if ((0 ≤ c ∧ c ≤ 7) ∧ (0 ≤ l ∧ l ≤ 5)) ∧ A 1 (6 * c + l) ≠ 0 then (fM_torn_L 100000) 9 [c, l, 0] A else ((qnL 18446744073709551615), A))
def sM_torn : qS := fun as A K => ∃ c l : Int, as = [rf 0, ni c, ni l] ∧ (iva IM A ∧ ivf JM A ∧ (WF A) ∧ (LZ A)) ∧ (∀ A' : qA, iva IM A' → ivf JM A' → frm [34, 35, 9, 19, 18, 7, 8, 2, 38, 39, 40, 41, 42, 43, 44, 45, 46, 1, 3, 47, 48] [(0, 2), (0, 3)] A A' → ∀ r : Int, rngL r → (LZ A') → (r = (fM_torn c l A).1) → (A' = (fM_torn c l A).2) → K (some (nl r)) A')
theorem okM_torn : okM LM 7 208 sM_torn := by
  refine qmeth [] false [(150, sM_isHung), (149, sM_at), (206, sM_goesOff), (204, sM_firstGoing)] 103 rfl ⟨okM_isHung.le (by decide), ⟨okM_at.le (by decide), ⟨okM_goesOff.le (by decide), ⟨okM_firstGoing.le (by decide), trivial⟩⟩⟩⟩ ?_
  rintro _ A K hA has ⟨c, l, rfl, ⟨i0, j0, p1, p2⟩, hK⟩
  have rg_c : rng c := has (ni c) (by simp)
  have rg_l : rng l := has (ni l) (by simp)
  have f0 := frm_0 [34, 35, 9, 19, 18, 7, 8, 2, 38, 39, 40, 41, 42, 43, 44, 45, 46, 1, 3, 47, 48] [(0, 2), (0, 3)] A
  have hT : _ = fM_torn c l A := (fM_torn.eq_1 c l A).symm
  refine ⟨Nat.le_of_ble_eq_true rfl, [(9, [(0, 2, 0), (1, 0, 0), (2, 0, 0), (3, 0, 0)], fun zs B nn => match zs with | [l1, l2, k] => iva IM B ∧ ivf JM B ∧ frm [34, 35, 9, 19, 18, 7, 8, 2, 38, 39, 40, 41, 42, 43, 44, 45, 46, 1, 3, 47, 48] [(0, 2), (0, 3)] A B ∧ nn = (5000 - k : Int).toNat ∧ (l1 = c) ∧ (l2 = l) ∧ (0 ≤ k) ∧ (k ≤ 48) ∧ (LZ B) ∧ (0 ≤ c) ∧ (c ≤ 7) ∧ (0 ≤ l) ∧ (l ≤ 5) ∧ (∃ nf : Nat, nn < nf ∧ fM_torn_L nf 9 [l1, l2, k] B = fM_torn c l A) | _ => False), (40, [(0, 2, 0), (3, 0, 0)], fun zs B nn => match zs with | [cc] => iva IM B ∧ ivf JM B ∧ frm [34, 35, 9, 19, 18, 7, 8, 2, 38, 39, 40, 41, 42, 43, 44, 45, 46, 1, 3, 47, 48] [(0, 2), (0, 3)] A B ∧ nn = (1000 + hs B : Int).toNat ∧ ((-1) ≤ cc) ∧ (cc ≤ 47) ∧ (cc < 0 ∨ B 1 cc ≠ 0) ∧ (LZ B) ∧ (∃ nf : Nat, nn < nf ∧ fM_torn_L nf 40 [cc] B = fM_torn c l A) | _ => False), (56, [(0, 2, 0), (3, 1, 0), (5, 0, 0)], fun zs B nn => match zs with | [l3, k] => iva IM B ∧ ivf JM B ∧ frm [34, 35, 9, 19, 18, 7, 8, 2, 38, 39, 40, 41, 42, 43, 44, 45, 46, 1, 3, 47, 48] [(0, 2), (0, 3)] A B ∧ nn = (48 - k : Int).toNat ∧ (0 ≤ k) ∧ (k ≤ 48) ∧ (LZ B) ∧ (∃ nf : Nat, nn < nf ∧ fM_torn_L nf 56 [l3, k] B = fM_torn c l A) | _ => False)], ?_, ?_⟩
  · refine ⟨⟨rfl, ?_⟩, ⟨rfl, ?_⟩, ⟨rfl, ?_⟩, trivial⟩
    · refine fun l1 l2 k B mm hB hz hI => ?_
      obtain ⟨i1, j1, f1, hm, c0, c1, c2, c3, c4, c5, c6, c7, c8, ⟨nf, hnf, hT⟩⟩ := hI
      obtain ⟨hz_l1, hz_l2, hz_k, _⟩ := hz
      obtain ⟨ng, rfl⟩ : ∃ k, nf = k + 1 := ⟨nf - 1, by omega⟩
      replace hT := (fM_torn_c9.eq_1 (fM_torn_L ng) l1 l2 k B).symm.trans ((fM_torn_L9 ng l1 l2 k B).symm.trans hT)
      refine And.intro (fun h6 => ?_) (fun h6 => ?_)
      · replace hT := (if_neg (Int.not_lt.mpr h6)).symm.trans hT
        refine Exists.intro l1 (Exists.intro l2 (And.intro rfl (And.intro (And.intro (by (first | (clear hm hnf; omega) | omega)) (And.intro (by (first | (clear hm hnf; omega) | omega)) (And.intro (by (first | (clear hm hnf; omega) | omega)) (by (first | (clear hm hnf; omega) | omega))))) ?_)))
        refine Exists.intro (6 * l1 + l2) (Exists.intro 0 (And.intro rfl (And.intro (And.intro i1 (And.intro j1 (And.intro (by (first | (clear hm hnf; omega) | omega)) (And.intro (by (first | (clear hm hnf; omega) | omega)) (And.intro (by (first | (clear hm hnf; omega) | omega)) (And.intro (by (first | (clear hm hnf; omega) | omega)) (And.intro (WF_fr p1 f1 rfl) c4))))))) (fun A7 i8 j9 f10 r11 g16 g12 g13 g14 g15 => ?_))))
        replace hT := qlpc g14 g15 hT
        clear g14 g15
        have f17 := frm_c f1 f10 rfl
        refine And.intro rfl (And.intro (And.intro i8 j9) (fun r19 g22 g23 g20 g21 => ?_))
        replace hT := qlc g21 hT
        clear g21
        have hh2 := hs_bd i8
        exact Exists.intro (1000 + hs A7 : Int).toNat (And.intro (by first | exact qtn hm (by (try clear hm hnf); omega) | omega) (And.intro i8 (And.intro j9 (And.intro f17 (And.intro rfl (And.intro (by (first | (clear hm hnf; omega) | omega)) (And.intro (by (first | (clear hm hnf; omega) | omega)) (And.intro (by (first | (clear hm hnf; omega) | omega)) (And.intro g12 (Exists.intro ng (And.intro (by first | exact qtm hm hnf (by (try clear hm hnf); omega) | omega) hT)))))))))))
      · replace hT := (if_pos h6).symm.trans hT
        refine And.intro (by (first | (clear hm hnf; omega) | omega)) (fun v24 gv24 e25 => ?_)
        replace hT := qlc e25 hT
        have b26 := iva_at i1 0 rfl (i := k) (by (first | (clear hm hnf; omega) | omega)) (by (first | (clear hm hnf; omega) | omega))
        refine And.intro (by (first | (clear hm hnf; omega) | omega)) (And.intro (by (first | (clear hm hnf; omega) | omega)) (fun A27 e28 => ?_))
        replace hT := qlc e28 hT
        have i29 := iva_st i1 e28 (And.intro (by (first | (clear hm hnf; omega) | omega)) trivial)
        have j30 := ivf_sa j1 e28 rfl
        have f31 := frm_s f1 e28 rfl
        have cz32 := LZ_k c4 (st_a e28 rfl) (st_a e28 rfl)
        refine And.intro (by (first | (clear hm hnf; omega) | omega)) (fun v33 gv33 e34 => ?_)
        replace hT := qlc e34 hT
        refine And.intro (by (first | (clear hm hnf; omega) | omega)) (fun A35 e36 => ?_)
        replace hT := qlc e36 hT
        have i37 := iva_st i29 e36 trivial
        have j38 := ivf_sa j30 e36 rfl
        have f39 := frm_s f31 e36 rfl
        have cz40 := LZ_k cz32 (st_a e36 rfl) (st_a e36 rfl)
        refine fun v41 e42 => ?_
        replace hT := qlc e42 hT
        exact And.intro (by (first | (clear hm hnf; omega) | omega)) (Exists.intro (5000 - v41 : Int).toNat (And.intro (by first | exact qtn hm (by (try clear hm hnf); omega) | omega) (And.intro i37 (And.intro j38 (And.intro f39 (And.intro rfl (And.intro (by (first | (clear hm hnf; omega) | omega)) (And.intro (by (first | (clear hm hnf; omega) | omega)) (And.intro (by (first | (clear hm hnf; omega) | omega)) (And.intro (by (first | (clear hm hnf; omega) | omega)) (And.intro cz40 (And.intro (by (first | (clear hm hnf; omega) | omega)) (And.intro (by (first | (clear hm hnf; omega) | omega)) (And.intro (by (first | (clear hm hnf; omega) | omega)) (And.intro (by (first | (clear hm hnf; omega) | omega)) (Exists.intro ng (And.intro (by first | exact qtm hm hnf (by (try clear hm hnf); omega) | omega) hT)))))))))))))))))
    · refine fun cc B mm hB hz hI => ?_
      obtain ⟨i1, j1, f1, hm, c0, c1, c2, c3, ⟨nf, hnf, hT⟩⟩ := hI
      obtain ⟨hz_cc, _⟩ := hz
      obtain ⟨ng, rfl⟩ : ∃ k, nf = k + 1 := ⟨nf - 1, by omega⟩
      replace hT := (fM_torn_c40.eq_1 (fM_torn_L ng) cc B).symm.trans ((fM_torn_L40 ng cc B).symm.trans hT)
      have hh3 := hs_bd i1
      refine And.intro (fun h43 => ?_) (fun h43 => ?_)
      · replace hT := (if_pos h43).symm.trans hT
        refine fun (v44 : Int) (e45 : v44 = 0) => ?_
        replace hT := qlc e45 hT
        exact Exists.intro (48 - 0 : Int).toNat (And.intro (by first | exact qtn hm (by (try clear hm hnf); omega) | omega) (And.intro i1 (And.intro j1 (And.intro f1 (And.intro rfl (And.intro (by (first | (clear hm hnf; omega) | omega)) (And.intro (by (first | (clear hm hnf; omega) | omega)) (And.intro c3 (Exists.intro ng (And.intro (by first | exact qtm hm hnf (by (try clear hm hnf); omega) | omega) hT))))))))))
      · replace hT := (if_neg h43).symm.trans hT
        refine Exists.intro cc (Exists.intro 0 (And.intro rfl (And.intro (And.intro i1 (And.intro j1 (And.intro (by (first | (clear hm hnf; omega) | omega)) (And.intro (by (first | (clear hm hnf; omega) | omega)) (And.intro (by (first | (clear hm hnf; omega) | omega)) (And.intro (by (first | (clear hm hnf; omega) | omega)) (And.intro (WF_fr p1 f1 rfl) c3))))))) (fun A46 i47 j48 f49 r50 g55 g51 g52 g53 g54 => ?_))))
        replace hT := qlpc g53 g54 hT
        clear g53 g54
        have f56 := frm_c f1 f49 rfl
        try have hh := hs_lt g52 i1 (by (first | (clear hm hnf; omega) | omega)) (by (first | (clear hm hnf; omega) | omega)) (by (first | (clear hm hnf; omega) | omega))
        refine And.intro rfl (And.intro (And.intro i47 j48) (fun r58 g61 g62 g59 g60 => ?_))
        replace hT := qlc g60 hT
        clear g60
        exact Exists.intro (1000 + hs A46 : Int).toNat (And.intro (by first | exact qtn hm (by (try clear hm hnf); omega) | omega) (And.intro i47 (And.intro j48 (And.intro f56 (And.intro rfl (And.intro (by (first | (clear hm hnf; omega) | omega)) (And.intro (by (first | (clear hm hnf; omega) | omega)) (And.intro (by (first | (clear hm hnf; omega) | omega)) (And.intro g51 (Exists.intro ng (And.intro (by first | exact qtm hm hnf (by (try clear hm hnf); omega) | omega) hT)))))))))))
    · refine fun l3 k B mm hB hz hI => ?_
      obtain ⟨i1, j1, f1, hm, c0, c1, c2, ⟨nf, hnf, hT⟩⟩ := hI
      obtain ⟨hz_l3, hz_k, _⟩ := hz
      obtain ⟨ng, rfl⟩ : ∃ k, nf = k + 1 := ⟨nf - 1, by omega⟩
      replace hT := (fM_torn_c56.eq_1 (fM_torn_L ng) l3 k B).symm.trans ((fM_torn_L56 ng l3 k B).symm.trans hT)
      refine And.intro (fun h63 => ?_) (fun h63 => ?_)
      · replace hT := (if_neg (Int.not_lt.mpr h63)).symm.trans hT
        exact hK _ i1 j1 f1 _ (by first | assumption | omega | (subst_vars; exact l_rng _) | (subst_vars; exact (hB _ _).1) | exact qnL_rng (by decide)) c2 (congrArg Prod.fst hT) (congrArg Prod.snd hT)
      · replace hT := (if_pos h63).symm.trans hT
        refine And.intro (by (first | (clear hm hnf; omega) | omega)) (fun v64 gv64 e65 => ?_)
        replace hT := qlc e65 hT
        have b66 := iva_at i1 20 rfl (i := k) (by (first | (clear hm hnf; omega) | omega)) (by (first | (clear hm hnf; omega) | omega))
        refine And.intro (fun h67 => ?_) (fun h67 => ?_)
        · replace hT := (if_pos h67).symm.trans hT
          refine And.intro (by (first | (clear hm hnf; omega) | omega)) (fun v68 gv68 e69 => ?_)
          replace hT := qlc e69 hT
          have b70 := iva_at i1 20 rfl (i := k) (by (first | (clear hm hnf; omega) | omega)) (by (first | (clear hm hnf; omega) | omega))
          have q71 : v64 = v68 := (e69.trans e65.symm).symm
          subst q71
          refine And.intro (by (first | (clear hm hnf; omega) | omega)) (And.intro (by (first | (clear hm hnf; omega) | omega)) (fun A72 e73 => ?_))
          replace hT := qlc e73 hT
          have i74 := iva_st i1 e73 (And.intro (by (first | (clear hm hnf; omega) | omega)) trivial)
          have j75 := ivf_sa j1 e73 rfl
          have f76 := frm_s f1 e73 rfl
          have cz77 := LZ_k c2 (st_a e73 rfl) (st_a e73 rfl)
          refine And.intro (by (first | (clear hm hnf; omega) | omega)) (fun v78 gv78 e79 => ?_)
          replace hT := qlc e79 hT
          refine And.intro (by (first | (clear hm hnf; omega) | omega)) (fun A80 e81 => ?_)
          replace hT := qlc e81 hT
          have i82 := iva_st i74 e81 trivial
          have j83 := ivf_sa j75 e81 rfl
          have f84 := frm_s f76 e81 rfl
          have cz85 := LZ_k cz77 (st_a e81 rfl) (st_a e81 rfl)
          refine fun v86 e87 => ?_
          replace hT := qlc e87 hT
          exact And.intro (by (first | (clear hm hnf; omega) | omega)) (Exists.intro (48 - v86 : Int).toNat (And.intro (by first | exact qtn hm (by (try clear hm hnf); omega) | omega) (And.intro i82 (And.intro j83 (And.intro f84 (And.intro rfl (And.intro (by (first | (clear hm hnf; omega) | omega)) (And.intro (by (first | (clear hm hnf; omega) | omega)) (And.intro cz85 (Exists.intro ng (And.intro (by first | exact qtm hm hnf (by (try clear hm hnf); omega) | omega) hT)))))))))))
        · replace hT := (if_neg h67).symm.trans hT
          refine And.intro (by (first | (clear hm hnf; omega) | omega)) (fun v88 gv88 e89 => ?_)
          replace hT := qlc e89 hT
          have b90 := iva_at i1 0 rfl (i := k) (by (first | (clear hm hnf; omega) | omega)) (by (first | (clear hm hnf; omega) | omega))
          refine And.intro (fun h91 => ?_) (fun h91 => ?_)
          · replace hT := (if_neg h91).symm.trans hT
            refine And.intro (by (first | (clear hm hnf; omega) | omega)) (fun v92 gv92 e93 => ?_)
            replace hT := qlc e93 hT
            have b94 := iva_at i1 20 rfl (i := k) (by (first | (clear hm hnf; omega) | omega)) (by (first | (clear hm hnf; omega) | omega))
            have q95 : v64 = v92 := (e93.trans e65.symm).symm
            subst q95
            refine And.intro (by (first | (clear hm hnf; omega) | omega)) (And.intro (by (first | (clear hm hnf; omega) | omega)) (fun A96 e97 => ?_))
            replace hT := qlc e97 hT
            have i98 := iva_st i1 e97 (And.intro (by (first | (clear hm hnf; omega) | omega)) trivial)
            have j99 := ivf_sa j1 e97 rfl
            have f100 := frm_s f1 e97 rfl
            have cz101 := LZ_k c2 (st_a e97 rfl) (st_a e97 rfl)
            refine And.intro (by (first | (clear hm hnf; omega) | omega)) (fun v102 gv102 e103 => ?_)
            replace hT := qlc e103 hT
            refine And.intro (by (first | (clear hm hnf; omega) | omega)) (fun A104 e105 => ?_)
            replace hT := qlc e105 hT
            have i106 := iva_st i98 e105 trivial
            have j107 := ivf_sa j99 e105 rfl
            have f108 := frm_s f100 e105 rfl
            have cz109 := LZ_k cz101 (st_a e105 rfl) (st_a e105 rfl)
            refine fun v110 e111 => ?_
            replace hT := qlc e111 hT
            exact And.intro (by (first | (clear hm hnf; omega) | omega)) (Exists.intro (48 - v110 : Int).toNat (And.intro (by first | exact qtn hm (by (try clear hm hnf); omega) | omega) (And.intro i106 (And.intro j107 (And.intro f108 (And.intro rfl (And.intro (by (first | (clear hm hnf; omega) | omega)) (And.intro (by (first | (clear hm hnf; omega) | omega)) (And.intro cz109 (Exists.intro ng (And.intro (by first | exact qtm hm hnf (by (try clear hm hnf); omega) | omega) hT)))))))))))
          · replace hT := (if_pos h91).symm.trans hT
            refine fun (v112 : Int) (e113 : v112 = 1) => ?_
            replace hT := qlc e113 hT
            refine fun v114 e115 => ?_
            replace hT := qlc e115 hT
            refine fun v116 e117 => ?_
            replace hT := qlc e117 hT
            refine And.intro (by (first | (clear hm hnf; omega) | omega)) (fun v118 gv118 e119 => ?_)
            replace hT := qlc e119 hT
            have b120 := iva_at i1 20 rfl (i := k) (by (first | (clear hm hnf; omega) | omega)) (by (first | (clear hm hnf; omega) | omega))
            have q121 : v64 = v118 := (e119.trans e65.symm).symm
            subst q121
            refine And.intro (by (first | (clear hm hnf; omega) | omega)) (And.intro (by (first | (clear hm hnf; omega) | omega)) (fun A122 e123 => ?_))
            replace hT := qlc e123 hT
            have i124 := iva_st i1 e123 (And.intro (by (first | (clear hm hnf; omega) | omega)) trivial)
            have j125 := ivf_sa j1 e123 rfl
            have f126 := frm_s f1 e123 rfl
            have cz127 := LZ_k c2 (st_a e123 rfl) (st_a e123 rfl)
            refine And.intro (by (first | (clear hm hnf; omega) | omega)) (fun v128 gv128 e129 => ?_)
            replace hT := qlc e129 hT
            refine And.intro (by (first | (clear hm hnf; omega) | omega)) (fun A130 e131 => ?_)
            replace hT := qlc e131 hT
            have i132 := iva_st i124 e131 trivial
            have j133 := ivf_sa j125 e131 rfl
            have f134 := frm_s f126 e131 rfl
            have cz135 := LZ_k cz127 (st_a e131 rfl) (st_a e131 rfl)
            refine fun v136 e137 => ?_
            replace hT := qlc e137 hT
            exact And.intro (by (first | (clear hm hnf; omega) | omega)) (Exists.intro (48 - v136 : Int).toNat (And.intro (by first | exact qtn hm (by (try clear hm hnf); omega) | omega) (And.intro i132 (And.intro j133 (And.intro f134 (And.intro rfl (And.intro (by (first | (clear hm hnf; omega) | omega)) (And.intro (by (first | (clear hm hnf; omega) | omega)) (And.intro cz135 (Exists.intro ng (And.intro (by first | exact qtm hm hnf (by (try clear hm hnf); omega) | omega) hT)))))))))))
  · refine Exists.intro c (Exists.intro l (And.intro rfl (And.intro (And.intro i0 j0) (And.intro (fun h3 => ?_) (fun h3 => ?_)))))
    · replace hT := (if_pos h3).symm.trans hT
      refine And.intro (fun h4 => ?_) (fun h4 => by exfalso; omega)
      exact Exists.intro (5000 - 0 : Int).toNat (And.intro i0 (And.intro j0 (And.intro f0 (And.intro rfl (And.intro (by (first | (clear hm hnf; omega) | omega)) (And.intro (by (first | (clear hm hnf; omega) | omega)) (And.intro (by (first | (clear hm hnf; omega) | omega)) (And.intro (by (first | (clear hm hnf; omega) | omega)) (And.intro p2 (And.intro (by (first | (clear hm hnf; omega) | omega)) (And.intro (by (first | (clear hm hnf; omega) | omega)) (And.intro (by (first | (clear hm hnf; omega) | omega)) (And.intro (by (first | (clear hm hnf; omega) | omega)) (Exists.intro 100000 (And.intro (by (first | (clear hm hnf; omega) | omega)) hT)))))))))))))))
    · replace hT := (if_neg h3).symm.trans hT
      refine And.intro (fun h5 => by exfalso; omega) (fun h5 => ?_)
      exact hK _ i0 j0 f0 _ (by first | assumption | omega | (subst_vars; exact l_rng _) | (subst_vars; exact (hB _ _).1) | exact qnL_rng (by decide)) p2 (congrArg Prod.fst hT) (congrArg Prod.snd hT)
theorem pM_torn {c l : Int} {A : qA} (hA : qokA LM A) (rg_c : rng c) (rg_l : rng l) (p0 : iva IM A) (p1 : ivf JM A) (p2 : WF A) (p3 : LZ A) : qokA LM (fM_torn c l A).2 ∧ iva IM (fM_torn c l A).2 ∧ ivf JM (fM_torn c l A).2 ∧ frm [34, 35, 9, 19, 18, 7, 8, 2, 38, 39, 40, 41, 42, 43, 44, 45, 46, 1, 3, 47, 48] [(0, 2), (0, 3)] A (fM_torn c l A).2 ∧ rngL (fM_torn c l A).1 ∧ (LZ (fM_torn c l A).2) := by
  obtain ⟨r, B, hB, _, hk⟩ := okM_ex okM_torn (as := [rf 0, ni c, ni l]) (K := fun _ B => B = (fM_torn c l A).2 ∧ iva IM (fM_torn c l A).2 ∧ ivf JM (fM_torn c l A).2 ∧ frm [34, 35, 9, 19, 18, 7, 8, 2, 38, 39, 40, 41, 42, 43, 44, 45, 46, 1, 3, 47, 48] [(0, 2), (0, 3)] A (fM_torn c l A).2 ∧ rngL (fM_torn c l A).1 ∧ (LZ (fM_torn c l A).2)) hA (qoks_c (show qok (rf _) from trivial) (qoks_c (rg_c) (qoks_c (rg_l) qoks_n))) ⟨c, l, rfl, ⟨p0, p1, p2, p3⟩, fun A9 i9 j9 f9 r9 g9 x0 x1 x2 => (by rw [← x2]; (try rw [← x1]); exact ⟨rfl, i9, j9, f9, g9, x0⟩)⟩
  exact ⟨hk.1 ▸ hB, hk.2⟩
def fM_day_c8 (rec : Nat → List Int → qA → Int × qA) (c : Int) (B : qA) : Int × qA := (if c < 48 then qlet (B 1 c) fun v21 => (if v21 = 0 then qlet (c + 1) fun v25 => rec 8 [((wI v25))] B else qlet (B 7 c) fun v29 => (if v29 = (-1) then qlet (c + 1) fun v33 => rec 8 [((wI v33))] B else qlet (B 8 c) fun v37 => qlp (fM_asked c 103 50 B) fun r43 A39 => qlet (v37 + r43) fun v52 => qlet (fM_less 200 (wI v52) A39) fun r55 => qlet (qu A39 8 c r55) fun A59 => qlet (c + 1) fun v65 => rec 8 [((wI v65))] A59)) else rec 42 [0] B)
def fM_day_c42 (rec : Nat → List Int → qA → Int × qA) (c : Int) (B : qA) : Int × qA := (if c < 48 then qlet (B 1 c) fun v70 => (if v70 = 0 then qlet (c + 1) fun v74 => rec 42 [((wI v74))] B else qlet (B 7 c) fun v78 => (if v78 = (-1) then qlet (c + 1) fun v146 => rec 42 [((wI v146))] B else qlet (B 0 (fd 1)) fun v82 => qlet (25173 * v82) fun v85 => qlet (v85 + 13849) fun v87 => qlet (qm (wI v87) (qn 65536)) fun v90 => qlet (qu B 0 (fd 1) v90) fun A95 => qlet (A95 0 (fd 1)) fun v101 => qlet (qm v90 1000) fun v105 => qlp (fM_asked c 102 1000 A95) fun r112 A108 => (if v105 < r112 then qlp (fM_falls c 1 A108) fun r134 A130 => qlet (c + 1) fun v142 => rec 42 [((wI v142))] A130 else qlet (c + 1) fun v122 => rec 42 [((wI v122))] A108))) else rec 86 [0] B)
def fM_day_c86 (rec : Nat → List Int → qA → Int × qA) (c : Int) (B : qA) : Int × qA := (if c < 48 then qlet (B 1 c) fun v151 => (if v151 = 0 then qlet (qu B 49 c 0) fun A155 => qlet (c + 1) fun v161 => rec 86 [((wI v161))] A155 else qlp (fM_asked c 97 999 B) fun r169 A165 => qlet (qu A165 49 c r169) fun A178 => qlet (c + 1) fun v184 => rec 86 [((wI v184))] A178) else rec 109 [0] B)
def fM_day_c109 (rec : Nat → List Int → qA → Int × qA) (c : Int) (B : qA) : Int × qA := (if c < 48 then qlet (B 3 c) fun v213 => qlet (B 49 c) fun v215 => qlet (v213 - v215) fun v217 => qlet (fM_more 0 (wI v217) B) fun r220 => qlet (qu B 3 c r220) fun A224 => qlet (c + 1) fun v230 => rec 109 [((wI v230))] A224 else qlp (fM_go B) fun r193 A189 => qlet (A189 0 (fd 0)) fun v200 => qlet (v200 + 1) fun v202 => qlet (qu A189 0 (fd 0) (wI v202)) fun A204 => qlet (A204 0 (fd 3)) fun v211 => (v211, A204))
def fM_day_L : Nat → Nat → List Int → qA → Int × qA
  | 0 => fun _ _ B => (0, B)
  | nF + 1 => fun k zs B => bif Nat.beq k 8 then (match zs with | [c] => fM_day_c8 (fM_day_L nF) c B | _ => (0, B)) else bif Nat.beq k 42 then (match zs with | [c] => fM_day_c42 (fM_day_L nF) c B | _ => (0, B)) else bif Nat.beq k 86 then (match zs with | [c] => fM_day_c86 (fM_day_L nF) c B | _ => (0, B)) else bif Nat.beq k 109 then (match zs with | [c] => fM_day_c109 (fM_day_L nF) c B | _ => (0, B)) else (0, B)
theorem fM_day_L8 (nF : Nat) (c : Int) (B : qA) : fM_day_L (nF + 1) 8 [c] B = fM_day_c8 (fM_day_L nF) c B := (congrFun (congrFun (congrFun (fM_day_L.eq_2 nF) 8) [c]) B).trans (qL1 rfl rfl)
theorem fM_day_L42 (nF : Nat) (c : Int) (B : qA) : fM_day_L (nF + 1) 42 [c] B = fM_day_c42 (fM_day_L nF) c B := (congrFun (congrFun (congrFun (fM_day_L.eq_2 nF) 42) [c]) B).trans (qL0 rfl (qL1 rfl rfl))
theorem fM_day_L86 (nF : Nat) (c : Int) (B : qA) : fM_day_L (nF + 1) 86 [c] B = fM_day_c86 (fM_day_L nF) c B := (congrFun (congrFun (congrFun (fM_day_L.eq_2 nF) 86) [c]) B).trans (qL0 rfl (qL0 rfl (qL1 rfl rfl)))
theorem fM_day_L109 (nF : Nat) (c : Int) (B : qA) : fM_day_L (nF + 1) 109 [c] B = fM_day_c109 (fM_day_L nF) c B := (congrFun (congrFun (congrFun (fM_day_L.eq_2 nF) 109) [c]) B).trans (qL0 rfl (qL0 rfl (qL0 rfl (qL1 rfl rfl))))
def fM_day (A : qA) : Int × qA := qlet (qu A 0 (fd 3) 0) fun A3 => qlp (fM_water A3) fun r13 A9 => (fM_day_L 100000) 8 [0] A9
def sM_day : qS := fun as A K => as = [rf 0] ∧ (iva IM A ∧ ivf JM A ∧ (WF A) ∧ (LZ A)) ∧ (∀ A' : qA, iva IM A' → ivf JM A' → frm [34, 35, 9, 19, 18, 7, 8, 2, 38, 39, 40, 41, 42, 43, 44, 45, 46, 1, 3, 36, 37, 10, 17, 49] [(0, 2), (0, 3), (0, 1), (0, 0)] A A' → ∀ r : Int, rng r → (LZ A') → (r = (fM_day A).1) → (A' = (fM_day A).2) → K (some (ni r)) A')
theorem okM_day : okM LM 8 209 sM_day := by
  refine qmeth [] true [(196, sM_water), (191, sM_asked), (146, sM_less), (202, sM_falls), (207, sM_go), (147, sM_more)] 147 rfl ⟨okM_water.le (by decide), ⟨okM_asked.le (by decide), ⟨okM_less.le (by decide), ⟨okM_falls.le (by decide), ⟨okM_go.le (by decide), ⟨okM_more.le (by decide), trivial⟩⟩⟩⟩⟩⟩ ?_
  rintro _ A K hA has ⟨rfl, ⟨i0, j0, p1, p2⟩, hK⟩
  have f0 := frm_0 [34, 35, 9, 19, 18, 7, 8, 2, 38, 39, 40, 41, 42, 43, 44, 45, 46, 1, 3, 36, 37, 10, 17, 49] [(0, 2), (0, 3), (0, 1), (0, 0)] A
  have hT : _ = fM_day A := (fM_day.eq_1 A).symm
  refine ⟨Nat.le_of_ble_eq_true rfl, [(8, [(0, 2, 0), (1, 0, 0)], fun zs B nn => match zs with | [c] => iva IM B ∧ ivf JM B ∧ frm [34, 35, 9, 19, 18, 7, 8, 2, 38, 39, 40, 41, 42, 43, 44, 45, 46, 1, 3, 36, 37, 10, 17, 49] [(0, 2), (0, 3), (0, 1), (0, 0)] A B ∧ nn = (1000 - c : Int).toNat ∧ (0 ≤ c) ∧ (c ≤ 48) ∧ (LZ B) ∧ (∃ nf : Nat, nn < nf ∧ fM_day_L nf 8 [c] B = fM_day A) | _ => False), (42, [(0, 2, 0), (1, 0, 0)], fun zs B nn => match zs with | [c] => iva IM B ∧ ivf JM B ∧ frm [34, 35, 9, 19, 18, 7, 8, 2, 38, 39, 40, 41, 42, 43, 44, 45, 46, 1, 3, 36, 37, 10, 17, 49] [(0, 2), (0, 3), (0, 1), (0, 0)] A B ∧ nn = (800 - c : Int).toNat ∧ (0 ≤ c) ∧ (c ≤ 48) ∧ (LZ B) ∧ (∃ nf : Nat, nn < nf ∧ fM_day_L nf 42 [c] B = fM_day A) | _ => False), (86, [(0, 2, 0), (1, 0, 0)], fun zs B nn => match zs with | [c] => iva IM B ∧ ivf JM B ∧ frm [34, 35, 9, 19, 18, 7, 8, 2, 38, 39, 40, 41, 42, 43, 44, 45, 46, 1, 3, 36, 37, 10, 17, 49] [(0, 2), (0, 3), (0, 1), (0, 0)] A B ∧ nn = (600 - c : Int).toNat ∧ (0 ≤ c) ∧ (c ≤ 48) ∧ (LZ B) ∧ (∃ nf : Nat, nn < nf ∧ fM_day_L nf 86 [c] B = fM_day A) | _ => False), (109, [(0, 2, 0), (1, 0, 0)], fun zs B nn => match zs with | [c] => iva IM B ∧ ivf JM B ∧ frm [34, 35, 9, 19, 18, 7, 8, 2, 38, 39, 40, 41, 42, 43, 44, 45, 46, 1, 3, 36, 37, 10, 17, 49] [(0, 2), (0, 3), (0, 1), (0, 0)] A B ∧ nn = (400 - c : Int).toNat ∧ (0 ≤ c) ∧ (c ≤ 48) ∧ (LZ B) ∧ (∃ nf : Nat, nn < nf ∧ fM_day_L nf 109 [c] B = fM_day A) | _ => False)], ?_, ?_⟩
  · refine ⟨⟨rfl, ?_⟩, ⟨rfl, ?_⟩, ⟨rfl, ?_⟩, ⟨rfl, ?_⟩, trivial⟩
    · refine fun c B mm hB hz hI => ?_
      obtain ⟨i1, j1, f1, hm, c0, c1, c2, ⟨nf, hnf, hT⟩⟩ := hI
      obtain ⟨hz_c, _⟩ := hz
      obtain ⟨ng, rfl⟩ : ∃ k, nf = k + 1 := ⟨nf - 1, by omega⟩
      replace hT := (fM_day_c8.eq_1 (fM_day_L ng) c B).symm.trans ((fM_day_L8 ng c B).symm.trans hT)
      refine And.intro (fun h20 => ?_) (fun h20 => ?_)
      · replace hT := (if_neg (Int.not_lt.mpr h20)).symm.trans hT
        exact Exists.intro (800 - 0 : Int).toNat (And.intro (by first | exact qtn hm (by (try clear hm hnf); omega) | omega) (And.intro i1 (And.intro j1 (And.intro f1 (And.intro rfl (And.intro (by (first | (clear hm hnf; omega) | omega)) (And.intro (by (first | (clear hm hnf; omega) | omega)) (And.intro c2 (Exists.intro ng (And.intro (by first | exact qtm hm hnf (by (try clear hm hnf); omega) | omega) hT))))))))))
      · replace hT := (if_pos h20).symm.trans hT
        refine And.intro (by (first | (clear hm hnf; omega) | omega)) (fun v21 gv21 e22 => ?_)
        replace hT := qlc e22 hT
        have b23 := iva_at i1 0 rfl (i := c) (by (first | (clear hm hnf; omega) | omega)) (by (first | (clear hm hnf; omega) | omega))
        refine And.intro (fun h24 => ?_) (fun h24 => ?_)
        · replace hT := (if_pos h24).symm.trans hT
          refine fun v25 e26 => ?_
          replace hT := qlc e26 hT
          have w27 := wI_rng v25
          have w28 : wI v25 = v25 := wI_id (by (first | (clear hm hnf; omega) | omega))
          exact Exists.intro (1000 - ((wI v25)) : Int).toNat (And.intro (by first | exact qtn hm (by (try clear hm hnf); omega) | omega) (And.intro i1 (And.intro j1 (And.intro f1 (And.intro rfl (And.intro (by (first | (clear hm hnf; omega) | omega)) (And.intro (by (first | (clear hm hnf; omega) | omega)) (And.intro c2 (Exists.intro ng (And.intro (by first | exact qtm hm hnf (by (try clear hm hnf); omega) | omega) hT))))))))))
        · replace hT := (if_neg h24).symm.trans hT
          refine And.intro (by (first | (clear hm hnf; omega) | omega)) (fun v29 gv29 e30 => ?_)
          replace hT := qlc e30 hT
          have b31 := iva_at i1 2 rfl (i := c) (by (first | (clear hm hnf; omega) | omega)) (by (first | (clear hm hnf; omega) | omega))
          refine And.intro (fun h32 => ?_) (fun h32 => ?_)
          · replace hT := (if_pos h32).symm.trans hT
            refine fun v33 e34 => ?_
            replace hT := qlc e34 hT
            have w35 := wI_rng v33
            have w36 : wI v33 = v33 := wI_id (by (first | (clear hm hnf; omega) | omega))
            exact Exists.intro (1000 - ((wI v33)) : Int).toNat (And.intro (by first | exact qtn hm (by (try clear hm hnf); omega) | omega) (And.intro i1 (And.intro j1 (And.intro f1 (And.intro rfl (And.intro (by (first | (clear hm hnf; omega) | omega)) (And.intro (by (first | (clear hm hnf; omega) | omega)) (And.intro c2 (Exists.intro ng (And.intro (by first | exact qtm hm hnf (by (try clear hm hnf); omega) | omega) hT))))))))))
          · replace hT := (if_neg h32).symm.trans hT
            refine And.intro (by (first | (clear hm hnf; omega) | omega)) (fun v37 gv37 e38 => ?_)
            replace hT := qlc e38 hT
            refine Exists.intro c (Exists.intro 103 (Exists.intro 50 (And.intro rfl (And.intro (And.intro i1 (And.intro j1 (And.intro (by (first | (clear hm hnf; omega) | omega)) (And.intro (by (first | (clear hm hnf; omega) | omega)) (And.intro (by (first | (clear hm hnf; omega) | omega)) (And.intro (by (first | (clear hm hnf; omega) | omega)) (WF_fr p1 f1 rfl))))))) (fun A39 i40 j41 f42 r43 g47 g48 g44 g45 g46 => ?_)))))
            replace hT := qlpc g45 g46 hT
            clear g45 g46
            have f49 := frm_c f1 f42 rfl
            have cz51 := LZ_fr c2 f42 rfl
            refine fun v52 e53 => ?_
            replace hT := qlc e53 hT
            have w54 := wI_rng v52
            refine Exists.intro 200 (Exists.intro (wI v52) (And.intro rfl (fun r55 g58 g56 g57 => ?_)))
            replace hT := qlc g57 hT
            clear g57
            refine And.intro (by (first | (clear hm hnf; omega) | omega)) (fun A59 e60 => ?_)
            replace hT := qlc e60 hT
            have i61 := iva_st i40 e60 trivial
            have j62 := ivf_sa j41 e60 rfl
            have f63 := frm_s f49 e60 rfl
            have cz64 := LZ_k cz51 (st_a e60 rfl) (st_a e60 rfl)
            refine fun v65 e66 => ?_
            replace hT := qlc e66 hT
            have w67 := wI_rng v65
            have w68 : wI v65 = v65 := wI_id (by (first | (clear hm hnf; omega) | omega))
            exact Exists.intro (1000 - ((wI v65)) : Int).toNat (And.intro (by first | exact qtn hm (by (try clear hm hnf); omega) | omega) (And.intro i61 (And.intro j62 (And.intro f63 (And.intro rfl (And.intro (by (first | (clear hm hnf; omega) | omega)) (And.intro (by (first | (clear hm hnf; omega) | omega)) (And.intro cz64 (Exists.intro ng (And.intro (by first | exact qtm hm hnf (by (try clear hm hnf); omega) | omega) hT))))))))))
    · refine fun c B mm hB hz hI => ?_
      obtain ⟨i1, j1, f1, hm, c0, c1, c2, ⟨nf, hnf, hT⟩⟩ := hI
      obtain ⟨hz_c, _⟩ := hz
      obtain ⟨ng, rfl⟩ : ∃ k, nf = k + 1 := ⟨nf - 1, by omega⟩
      replace hT := (fM_day_c42.eq_1 (fM_day_L ng) c B).symm.trans ((fM_day_L42 ng c B).symm.trans hT)
      refine And.intro (fun h69 => ?_) (fun h69 => ?_)
      · replace hT := (if_neg (Int.not_lt.mpr h69)).symm.trans hT
        exact Exists.intro (600 - 0 : Int).toNat (And.intro (by first | exact qtn hm (by (try clear hm hnf); omega) | omega) (And.intro i1 (And.intro j1 (And.intro f1 (And.intro rfl (And.intro (by (first | (clear hm hnf; omega) | omega)) (And.intro (by (first | (clear hm hnf; omega) | omega)) (And.intro c2 (Exists.intro ng (And.intro (by first | exact qtm hm hnf (by (try clear hm hnf); omega) | omega) hT))))))))))
      · replace hT := (if_pos h69).symm.trans hT
        refine And.intro (by (first | (clear hm hnf; omega) | omega)) (fun v70 gv70 e71 => ?_)
        replace hT := qlc e71 hT
        have b72 := iva_at i1 0 rfl (i := c) (by (first | (clear hm hnf; omega) | omega)) (by (first | (clear hm hnf; omega) | omega))
        refine And.intro (fun h73 => ?_) (fun h73 => ?_)
        · replace hT := (if_pos h73).symm.trans hT
          refine fun v74 e75 => ?_
          replace hT := qlc e75 hT
          have w76 := wI_rng v74
          have w77 : wI v74 = v74 := wI_id (by (first | (clear hm hnf; omega) | omega))
          exact Exists.intro (800 - ((wI v74)) : Int).toNat (And.intro (by first | exact qtn hm (by (try clear hm hnf); omega) | omega) (And.intro i1 (And.intro j1 (And.intro f1 (And.intro rfl (And.intro (by (first | (clear hm hnf; omega) | omega)) (And.intro (by (first | (clear hm hnf; omega) | omega)) (And.intro c2 (Exists.intro ng (And.intro (by first | exact qtm hm hnf (by (try clear hm hnf); omega) | omega) hT))))))))))
        · replace hT := (if_neg h73).symm.trans hT
          refine And.intro (by (first | (clear hm hnf; omega) | omega)) (fun v78 gv78 e79 => ?_)
          replace hT := qlc e79 hT
          have b80 := iva_at i1 2 rfl (i := c) (by (first | (clear hm hnf; omega) | omega)) (by (first | (clear hm hnf; omega) | omega))
          refine And.intro (fun h81 => ?_) (fun h81 => ?_)
          · replace hT := (if_neg h81).symm.trans hT
            refine fun v82 gv82 e83 => ?_
            replace hT := qlc e83 hT
            have b84 := ivf_at j1 5 rfl
            refine fun v85 e86 => ?_
            replace hT := qlc e86 hT
            refine fun v87 e88 => ?_
            replace hT := qlc e88 hT
            have k89 : qn 65536 = 65536 := by decide
            have w92 := wI_rng v87
            have w93 : wI v87 = v87 := wI_id (by (first | (clear hm hnf; omega) | omega))
            refine And.intro (by (first | (clear hm hnf; omega) | omega)) (fun v90 e91 => ?_)
            replace hT := qlc e91 hT
            have h94 := qm_nn (a := (wI v87)) (b := (qn 65536)) (by (first | (clear hm hnf; omega) | omega))
            rw [show qn 65536 = 65536 by decide] at h94 e91
            refine fun A95 e96 => ?_
            replace hT := qlc e96 hT
            have i97 := iva_sf i1 e96 rfl
            have j98 := ivf_st j1 e96 (And.intro (by (first | (clear hm hnf; omega) | omega)) trivial)
            have f99 := frm_sf f1 e96 rfl
            have cz100 := LZ_k c2 (st_a e96 rfl) (st_a e96 rfl)
            refine fun v101 gv101 e102 => ?_
            replace hT := qlc e102 hT
            have b103 := ivf_at j98 5 rfl
            have q104 : v90 = v101 := (e102.trans (st_v e96)).symm
            subst q104
            refine And.intro (by (first | (clear hm hnf; omega) | omega)) (fun v105 e106 => ?_)
            replace hT := qlc e106 hT
            have h107 := qm_nn (a := v90) (b := 1000) (by (first | (clear hm hnf; omega) | omega))
            refine Exists.intro c (Exists.intro 102 (Exists.intro 1000 (And.intro rfl (And.intro (And.intro i97 (And.intro j98 (And.intro (by (first | (clear hm hnf; omega) | omega)) (And.intro (by (first | (clear hm hnf; omega) | omega)) (And.intro (by (first | (clear hm hnf; omega) | omega)) (And.intro (by (first | (clear hm hnf; omega) | omega)) (WF_fr p1 f99 rfl))))))) (fun A108 i109 j110 f111 r112 g116 g117 g113 g114 g115 => ?_)))))
            replace hT := qlpc g114 g115 hT
            clear g114 g115
            have f118 := frm_c f99 f111 rfl
            have cz120 := LZ_fr cz100 f111 rfl
            refine And.intro (fun h121 => ?_) (fun h121 => ?_)
            · replace hT := (if_neg (Int.not_lt.mpr h121)).symm.trans hT
              refine fun v122 e123 => ?_
              replace hT := qlc e123 hT
              have w124 := wI_rng v122
              have w125 : wI v122 = v122 := wI_id (by (first | (clear hm hnf; omega) | omega))
              exact Exists.intro (800 - ((wI v122)) : Int).toNat (And.intro (by first | exact qtn hm (by (try clear hm hnf); omega) | omega) (And.intro i109 (And.intro j110 (And.intro f118 (And.intro rfl (And.intro (by (first | (clear hm hnf; omega) | omega)) (And.intro (by (first | (clear hm hnf; omega) | omega)) (And.intro cz120 (Exists.intro ng (And.intro (by first | exact qtm hm hnf (by (try clear hm hnf); omega) | omega) hT))))))))))
            · replace hT := (if_pos h121).symm.trans hT
              obtain ⟨v126, e127⟩ : ∃ v, v = A108 7 c := ⟨_, rfl⟩
              have b128 := iva_at i109 2 rfl (i := c) (by (first | (clear hm hnf; omega) | omega)) (by (first | (clear hm hnf; omega) | omega))
              have q129 : v78 = v126 := (e127.trans ((congrFun (Eq.trans (frm_a f111 rfl) (st_a e96 rfl)) _).trans e79.symm)).symm
              subst q129
              refine Exists.intro c (Exists.intro 1 (And.intro rfl (And.intro (And.intro i109 (And.intro j110 (And.intro (by (first | (clear hm hnf; omega) | omega)) (And.intro (by (first | (clear hm hnf; omega) | omega)) (And.intro (by (first | (clear hm hnf; omega) | omega)) (And.intro (by (first | (clear hm hnf; omega) | omega)) (And.intro (by rw [← e127]; omega) (And.intro (WF_fr p1 f118 rfl) cz120)))))))) (fun A130 i131 j132 f133 r134 g138 g139 g135 g136 g137 => ?_))))
              replace hT := qlpc g136 g137 hT
              clear g136 g137
              have f140 := frm_c f118 f133 rfl
              refine fun v142 e143 => ?_
              replace hT := qlc e143 hT
              have w144 := wI_rng v142
              have w145 : wI v142 = v142 := wI_id (by (first | (clear hm hnf; omega) | omega))
              exact Exists.intro (800 - ((wI v142)) : Int).toNat (And.intro (by first | exact qtn hm (by (try clear hm hnf); omega) | omega) (And.intro i131 (And.intro j132 (And.intro f140 (And.intro rfl (And.intro (by (first | (clear hm hnf; omega) | omega)) (And.intro (by (first | (clear hm hnf; omega) | omega)) (And.intro g135 (Exists.intro ng (And.intro (by first | exact qtm hm hnf (by (try clear hm hnf); omega) | omega) hT))))))))))
          · replace hT := (if_pos h81).symm.trans hT
            refine fun v146 e147 => ?_
            replace hT := qlc e147 hT
            have w148 := wI_rng v146
            have w149 : wI v146 = v146 := wI_id (by (first | (clear hm hnf; omega) | omega))
            exact Exists.intro (800 - ((wI v146)) : Int).toNat (And.intro (by first | exact qtn hm (by (try clear hm hnf); omega) | omega) (And.intro i1 (And.intro j1 (And.intro f1 (And.intro rfl (And.intro (by (first | (clear hm hnf; omega) | omega)) (And.intro (by (first | (clear hm hnf; omega) | omega)) (And.intro c2 (Exists.intro ng (And.intro (by first | exact qtm hm hnf (by (try clear hm hnf); omega) | omega) hT))))))))))
    · refine fun c B mm hB hz hI => ?_
      obtain ⟨i1, j1, f1, hm, c0, c1, c2, ⟨nf, hnf, hT⟩⟩ := hI
      obtain ⟨hz_c, _⟩ := hz
      obtain ⟨ng, rfl⟩ : ∃ k, nf = k + 1 := ⟨nf - 1, by omega⟩
      replace hT := (fM_day_c86.eq_1 (fM_day_L ng) c B).symm.trans ((fM_day_L86 ng c B).symm.trans hT)
      refine And.intro (fun h150 => ?_) (fun h150 => ?_)
      · replace hT := (if_neg (Int.not_lt.mpr h150)).symm.trans hT
        exact Exists.intro (400 - 0 : Int).toNat (And.intro (by first | exact qtn hm (by (try clear hm hnf); omega) | omega) (And.intro i1 (And.intro j1 (And.intro f1 (And.intro rfl (And.intro (by (first | (clear hm hnf; omega) | omega)) (And.intro (by (first | (clear hm hnf; omega) | omega)) (And.intro c2 (Exists.intro ng (And.intro (by first | exact qtm hm hnf (by (try clear hm hnf); omega) | omega) hT))))))))))
      · replace hT := (if_pos h150).symm.trans hT
        refine And.intro (by (first | (clear hm hnf; omega) | omega)) (fun v151 gv151 e152 => ?_)
        replace hT := qlc e152 hT
        have b153 := iva_at i1 0 rfl (i := c) (by (first | (clear hm hnf; omega) | omega)) (by (first | (clear hm hnf; omega) | omega))
        refine And.intro (fun h154 => ?_) (fun h154 => ?_)
        · replace hT := (if_pos h154).symm.trans hT
          refine And.intro (by (first | (clear hm hnf; omega) | omega)) (fun A155 e156 => ?_)
          replace hT := qlc e156 hT
          have i157 := iva_st i1 e156 trivial
          have j158 := ivf_sa j1 e156 rfl
          have f159 := frm_s f1 e156 rfl
          have cz160 := LZ_k c2 (st_a e156 rfl) (st_a e156 rfl)
          refine fun v161 e162 => ?_
          replace hT := qlc e162 hT
          have w163 := wI_rng v161
          have w164 : wI v161 = v161 := wI_id (by (first | (clear hm hnf; omega) | omega))
          exact Exists.intro (600 - ((wI v161)) : Int).toNat (And.intro (by first | exact qtn hm (by (try clear hm hnf); omega) | omega) (And.intro i157 (And.intro j158 (And.intro f159 (And.intro rfl (And.intro (by (first | (clear hm hnf; omega) | omega)) (And.intro (by (first | (clear hm hnf; omega) | omega)) (And.intro cz160 (Exists.intro ng (And.intro (by first | exact qtm hm hnf (by (try clear hm hnf); omega) | omega) hT))))))))))
        · replace hT := (if_neg h154).symm.trans hT
          refine Exists.intro c (Exists.intro 97 (Exists.intro 999 (And.intro rfl (And.intro (And.intro i1 (And.intro j1 (And.intro (by (first | (clear hm hnf; omega) | omega)) (And.intro (by (first | (clear hm hnf; omega) | omega)) (And.intro (by (first | (clear hm hnf; omega) | omega)) (And.intro (by (first | (clear hm hnf; omega) | omega)) (WF_fr p1 f1 rfl))))))) (fun A165 i166 j167 f168 r169 g173 g174 g170 g171 g172 => ?_)))))
          replace hT := qlpc g171 g172 hT
          clear g171 g172
          have f175 := frm_c f1 f168 rfl
          have cz177 := LZ_fr c2 f168 rfl
          refine And.intro (by (first | (clear hm hnf; omega) | omega)) (fun A178 e179 => ?_)
          replace hT := qlc e179 hT
          have i180 := iva_st i166 e179 trivial
          have j181 := ivf_sa j167 e179 rfl
          have f182 := frm_s f175 e179 rfl
          have cz183 := LZ_k cz177 (st_a e179 rfl) (st_a e179 rfl)
          refine fun v184 e185 => ?_
          replace hT := qlc e185 hT
          have w186 := wI_rng v184
          have w187 : wI v184 = v184 := wI_id (by (first | (clear hm hnf; omega) | omega))
          exact Exists.intro (600 - ((wI v184)) : Int).toNat (And.intro (by first | exact qtn hm (by (try clear hm hnf); omega) | omega) (And.intro i180 (And.intro j181 (And.intro f182 (And.intro rfl (And.intro (by (first | (clear hm hnf; omega) | omega)) (And.intro (by (first | (clear hm hnf; omega) | omega)) (And.intro cz183 (Exists.intro ng (And.intro (by first | exact qtm hm hnf (by (try clear hm hnf); omega) | omega) hT))))))))))
    · refine fun c B mm hB hz hI => ?_
      obtain ⟨i1, j1, f1, hm, c0, c1, c2, ⟨nf, hnf, hT⟩⟩ := hI
      obtain ⟨hz_c, _⟩ := hz
      obtain ⟨ng, rfl⟩ : ∃ k, nf = k + 1 := ⟨nf - 1, by omega⟩
      replace hT := (fM_day_c109.eq_1 (fM_day_L ng) c B).symm.trans ((fM_day_L109 ng c B).symm.trans hT)
      refine And.intro (fun h188 => ?_) (fun h188 => ?_)
      · replace hT := (if_neg (Int.not_lt.mpr h188)).symm.trans hT
        refine And.intro rfl (And.intro (And.intro i1 (And.intro j1 (And.intro (WF_fr p1 f1 rfl) c2))) (fun A189 i190 j191 f192 r193 g197 g194 g195 g196 => ?_))
        replace hT := qlpc g195 g196 hT
        clear g195 g196
        have f198 := frm_c f1 f192 rfl
        refine fun v200 gv200 e201 => ?_
        replace hT := qlc e201 hT
        refine fun v202 e203 => ?_
        replace hT := qlc e203 hT
        have w206 := wI_rng v202
        refine fun A204 e205 => ?_
        replace hT := qlc e205 hT
        have i207 := iva_sf i190 e205 rfl
        have j208 := ivf_st j191 e205 trivial
        have f209 := frm_sf f198 e205 rfl
        have cz210 := LZ_k g194 (st_a e205 rfl) (st_a e205 rfl)
        refine fun v211 gv211 e212 => ?_
        replace hT := qlc e212 hT
        exact hK _ i207 j208 f209 _ (by first | assumption | exact ⟨by (first | (clear hm hnf; omega) | omega), by (first | (clear hm hnf; omega) | omega)⟩ | exact wI_rng _ | exact i_rng _ | (subst_vars; exact i_rng _) | exact (hA _ _).2 rfl) cz210 (congrArg Prod.fst hT) (congrArg Prod.snd hT)
      · replace hT := (if_pos h188).symm.trans hT
        refine And.intro (by (first | (clear hm hnf; omega) | omega)) (fun v213 gv213 e214 => ?_)
        replace hT := qlc e214 hT
        refine And.intro (by (first | (clear hm hnf; omega) | omega)) (fun v215 gv215 e216 => ?_)
        replace hT := qlc e216 hT
        refine fun v217 e218 => ?_
        replace hT := qlc e218 hT
        have w219 := wI_rng v217
        refine Exists.intro 0 (Exists.intro (wI v217) (And.intro rfl (fun r220 g223 g221 g222 => ?_)))
        replace hT := qlc g222 hT
        clear g222
        refine And.intro (by (first | (clear hm hnf; omega) | omega)) (fun A224 e225 => ?_)
        replace hT := qlc e225 hT
        have i226 := iva_st i1 e225 trivial
        have j227 := ivf_sa j1 e225 rfl
        have f228 := frm_s f1 e225 rfl
        have cz229 := LZ_k c2 (st_a e225 rfl) (st_a e225 rfl)
        refine fun v230 e231 => ?_
        replace hT := qlc e231 hT
        have w232 := wI_rng v230
        have w233 : wI v230 = v230 := wI_id (by (first | (clear hm hnf; omega) | omega))
        exact Exists.intro (400 - ((wI v230)) : Int).toNat (And.intro (by first | exact qtn hm (by (try clear hm hnf); omega) | omega) (And.intro i226 (And.intro j227 (And.intro f228 (And.intro rfl (And.intro (by (first | (clear hm hnf; omega) | omega)) (And.intro (by (first | (clear hm hnf; omega) | omega)) (And.intro cz229 (Exists.intro ng (And.intro (by first | exact qtm hm hnf (by (try clear hm hnf); omega) | omega) hT))))))))))
  · refine fun A3 e4 => ?_
    replace hT := qlc e4 hT
    have i5 := iva_sf i0 e4 rfl
    have j6 := ivf_st j0 e4 trivial
    have f7 := frm_sf f0 e4 rfl
    have cz8 := LZ_k p2 (st_a e4 rfl) (st_a e4 rfl)
    refine And.intro rfl (And.intro (And.intro i5 j6) (fun A9 i10 j11 f12 r13 g16 g14 g15 => ?_))
    replace hT := qlpc g14 g15 hT
    clear g14 g15
    have f17 := frm_c f7 f12 rfl
    have cz19 := LZ_fr cz8 f12 rfl
    exact Exists.intro (1000 - 0 : Int).toNat (And.intro i10 (And.intro j11 (And.intro f17 (And.intro rfl (And.intro (by (first | (clear hm hnf; omega) | omega)) (And.intro (by (first | (clear hm hnf; omega) | omega)) (And.intro cz19 (Exists.intro 100000 (And.intro (by (first | (clear hm hnf; omega) | omega)) hT)))))))))
theorem pM_day {A : qA} (hA : qokA LM A) (p0 : iva IM A) (p1 : ivf JM A) (p2 : WF A) (p3 : LZ A) : qokA LM (fM_day A).2 ∧ iva IM (fM_day A).2 ∧ ivf JM (fM_day A).2 ∧ frm [34, 35, 9, 19, 18, 7, 8, 2, 38, 39, 40, 41, 42, 43, 44, 45, 46, 1, 3, 36, 37, 10, 17, 49] [(0, 2), (0, 3), (0, 1), (0, 0)] A (fM_day A).2 ∧ rng (fM_day A).1 ∧ (LZ (fM_day A).2) := by
  obtain ⟨r, B, hB, _, hk⟩ := okM_ex okM_day (as := [rf 0]) (K := fun _ B => B = (fM_day A).2 ∧ iva IM (fM_day A).2 ∧ ivf JM (fM_day A).2 ∧ frm [34, 35, 9, 19, 18, 7, 8, 2, 38, 39, 40, 41, 42, 43, 44, 45, 46, 1, 3, 36, 37, 10, 17, 49] [(0, 2), (0, 3), (0, 1), (0, 0)] A (fM_day A).2 ∧ rng (fM_day A).1 ∧ (LZ (fM_day A).2)) hA (qoks_c (show qok (rf _) from trivial) qoks_n) ⟨rfl, ⟨p0, p1, p2, p3⟩, fun A9 i9 j9 f9 r9 g9 x0 x1 x2 => (by rw [← x2]; (try rw [← x1]); exact ⟨rfl, i9, j9, f9, g9, x0⟩)⟩
  exact ⟨hk.1 ▸ hB, hk.2⟩
def fM_gcd_c4 (rec : Nat → List Int → qA → Int) (p q : Int) (A : qA) : Int := qlet ((0 : Int)) fun v4 => qlet (jc q v4) fun v6 => (if v6 = 0 then p else qlet (Int.tmod p q) fun v10 => rec 4 [q, v10] A)
def fM_gcd_L : Nat → Nat → List Int → qA → Int
  | 0 => fun _ _ B => 0
  | nF + 1 => fun k zs B => bif Nat.beq k 4 then (match zs with | [p, q] => fM_gcd_c4 (fM_gcd_L nF) p q B | _ => 0) else 0
theorem fM_gcd_L4 (nF : Nat) (p q : Int) (B : qA) : fM_gcd_L (nF + 1) 4 [p, q] B = fM_gcd_c4 (fM_gcd_L nF) p q B := (congrFun (congrFun (congrFun (fM_gcd_L.eq_2 nF) 4) [p, q]) B).trans (qL1 rfl rfl)
def fM_gcd (x y : Int) (A : qA) : Int := (fM_gcd_L 10000000000000000000) 4 [x, y] A
def sM_gcd : qS := fun as A K => ∃ x y : Int, as = [nl x, nl y] ∧ ((0 ≤ x) ∧ (0 ≤ y) ∧ (0 < x ∨ 0 < y)) ∧ (∀ r : Int, rngL r → (0 < r) → (r = fM_gcd x y A) → K (some (nl r)) A)
theorem okM_gcd : okM LM 1 228 sM_gcd := by
  refine qmeth [] false [] 25 rfl trivial ?_
  rintro _ A K hA has ⟨x, y, rfl, ⟨p1, p2, p3⟩, hK⟩
  have rg_x : rngL x := has (nl x) (by simp)
  have rg_y : rngL y := has (nl y) (by simp)
  have hT : _ = fM_gcd x y A := (fM_gcd.eq_1 x y A).symm
  refine ⟨Nat.le_of_ble_eq_true rfl, [(4, [(4, 1, 0), (6, 1, 0)], fun zs B nn => match zs with | [p, q] => A = B ∧ nn = (q : Int).toNat ∧ (0 ≤ p) ∧ (0 ≤ q) ∧ (0 < p ∨ 0 < q) ∧ (∃ nf : Nat, nn < nf ∧ fM_gcd_L nf 4 [p, q] B = fM_gcd x y A) | _ => False)], ?_, ?_⟩
  · refine ⟨⟨rfl, ?_⟩, trivial⟩
    · refine fun p q B mm hB hz hI => ?_
      obtain ⟨rfl, hm, c0, c1, c2, ⟨nf, hnf, hT⟩⟩ := hI
      obtain ⟨hz_p, hz_q, _⟩ := hz
      obtain ⟨ng, rfl⟩ : ∃ k, nf = k + 1 := ⟨nf - 1, by omega⟩
      replace hT := (fM_gcd_c4.eq_1 (fM_gcd_L ng) p q A).symm.trans ((fM_gcd_L4 ng p q A).symm.trans hT)
      refine fun (v4 : Int) (e5 : v4 = 0) => ?_
      replace hT := qlc e5 hT
      refine fun v6 e7 => ?_
      replace hT := qlc e7 hT
      have h8 := jc_p q v4
      refine And.intro (fun h9 => ?_) (fun h9 => ?_)
      · replace hT := (if_pos h9).symm.trans hT
        exact hK _ (by first | assumption | omega | (subst_vars; exact l_rng _) | (subst_vars; exact (hB _ _).1) | exact qnL_rng (by decide)) (by (first | (clear hm hnf; omega) | omega)) hT
      · replace hT := (if_neg h9).symm.trans hT
        refine And.intro (by (first | (clear hm hnf; omega) | omega)) (fun v10 e11 => ?_)
        replace hT := qlc e11 hT
        have hm := Int.tmod_nonneg q (show 0 ≤ p by (first | (clear hm hnf; omega) | omega))
        have hm2 := Int.tmod_lt_of_pos p (show 0 < q by (first | (clear hm hnf; omega) | omega))
        exact Exists.intro (v10 : Int).toNat (And.intro (by first | exact qtn hm (by (try clear hm hnf); omega) | omega) (And.intro rfl (And.intro rfl (And.intro (by (first | (clear hm hnf; omega) | omega)) (And.intro (by (first | (clear hm hnf; omega) | omega)) (And.intro (by (first | (clear hm hnf; omega) | omega)) (Exists.intro ng (And.intro (by first | exact qtm hm hnf (by (try clear hm hnf); omega) | omega) hT))))))))
  · exact Exists.intro (y : Int).toNat (And.intro rfl (And.intro rfl (And.intro (by (first | (clear hm hnf; omega) | omega)) (And.intro (by (first | (clear hm hnf; omega) | omega)) (And.intro (by (first | (clear hm hnf; omega) | omega)) (Exists.intro 10000000000000000000 (And.intro (by (first | (clear hm hnf; omega) | omega)) hT)))))))
theorem pM_gcd {x y : Int} {A : qA} (hA : qokA LM A) (rg_x : rngL x) (rg_y : rngL y) (p0 : 0 ≤ x) (p1 : 0 ≤ y) (p2 : 0 < x ∨ 0 < y) : rngL (fM_gcd x y A) ∧ (0 < (fM_gcd x y A)) := by
  obtain ⟨r, B, hB, _, hk⟩ := okM_ex okM_gcd (as := [nl x, nl y]) (K := fun _ B => B = A ∧ rngL (fM_gcd x y A) ∧ (0 < (fM_gcd x y A))) hA (qoks_c (rg_x) (qoks_c (rg_y) qoks_n)) ⟨x, y, rfl, ⟨p0, p1, p2⟩, fun r9 g9 x0 x1 => (by rw [← x1]; exact ⟨rfl, g9, x0⟩)⟩
  exact hk.2
