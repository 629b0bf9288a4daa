theorem jc_p (a b : Int) : (jc a b = 0 ∧ a = b) ∨ (jc a b = 1 ∧ b < a) ∨ (jc a b = -1 ∧ a < b) := by
  unfold jc
  split
  · next h => exact Or.inl ⟨rfl, h⟩
  · split
    · next h => exact Or.inr (Or.inl ⟨rfl, h⟩)
    · exact Or.inr (Or.inr ⟨rfl, by omega⟩)
/-- what goes: the cell hangs no more, and none begins to hang -/
def HZ (c : Int) (A A' : qA) : Prop := A' 1 c = 0 ∧ ∀ i, 0 ≤ i → i < 48 → (A' 1 i = A 1 i ∨ A' 1 i = 0)
def hsN (A : qA) : Nat → Int
  | 0 => 0
  | n + 1 => hsN A n + A 1 n
def hs (A : qA) : Int := hsN A 48
theorem hsN_le {A A' : qA} (h : ∀ i, 0 ≤ i → i < 48 → 0 ≤ A' 1 i ∧ A' 1 i ≤ A 1 i) : ∀ n, n ≤ 48 → 0 ≤ hsN A' n ∧ hsN A' n ≤ hsN A n
  | 0, _ => ⟨Int.le_refl _, Int.le_refl _⟩
  | n + 1, hn => by
    have h1 := hsN_le h n (by omega)
    have h2 := h n (by omega) (by omega)
    exact ⟨by show 0 ≤ hsN A' n + A' 1 n; omega, by show hsN A' n + A' 1 n ≤ hsN A n + A 1 n; omega⟩
theorem hsN_lt {A A' : qA} {c : Nat} (h : ∀ i, 0 ≤ i → i < 48 → 0 ≤ A' 1 i ∧ A' 1 i ≤ A 1 i) (hl : A' 1 c < A 1 c) : ∀ n, n ≤ 48 → c < n → hsN A' n < hsN A n
  | n + 1, hn, hc => by
    have h2 := h n (by omega) (by omega)
    show hsN A' n + A' 1 n < hsN A n + A 1 n
    by_cases he : c = n
    · subst he
      have h1 := hsN_le h c (by omega)
      omega
    · have h1 := hsN_lt h hl n (by omega) (by omega)
      omega
theorem hs_lt {A A' : qA} {c : Int} (hz : HZ c A A') (ia : iva IM A) (h0 : 0 ≤ c) (h1 : c < 48) (hn : A 1 c ≠ 0) : 0 ≤ hs A' ∧ hs A' < hs A := by
  have key : ∀ i, 0 ≤ i → i < 48 → 0 ≤ A' 1 i ∧ A' 1 i ≤ A 1 i := fun i a b => by
    have b1 := iva_at ia 0 rfl (i := i) a b
    rcases hz.2 i a b with q | q <;> omega
  have b1 := iva_at ia 0 rfl (i := c) h0 h1
  obtain ⟨n, rfl⟩ := Int.eq_ofNat_of_zero_le h0
  refine ⟨(hsN_le key 48 (Nat.le_refl _)).1, hsN_lt (c := n) key ?_ 48 (Nat.le_refl _) (by omega)⟩
  have := hz.1
  omega
theorem hs_bd {A : qA} (ia : iva IM A) : 0 ≤ hs A ∧ hs A ≤ 48 := by
  have gen : ∀ n : Nat, n ≤ 48 → 0 ≤ hsN A n ∧ hsN A n ≤ n := by
    intro n
    induction n with
    | zero => exact fun _ => ⟨Int.le_refl _, Int.le_refl _⟩
    | succ n ih =>
      intro hn
      have h1 := ih (by omega)
      have b1 := iva_at ia 0 rfl (i := (n : Int)) (by omega) (by omega)
      refine ⟨by show 0 ≤ hsN A n + A 1 n; omega, by show hsN A n + A 1 n ≤ _; omega⟩
  exact gen 48 (Nat.le_refl _)
def sM_goesOff : qS := fun as A K => ∃ c b : Int, as = [rf 0, ni c, ni b] ∧ (iva IM A ∧ ivf JM A ∧ 0 ≤ c ∧ c ≤ 47 ∧ 0 ≤ b ∧ b ≤ 1 ∧ (WF A) ∧ (LZ A)) ∧ (∀ A' : qA, iva IM A' → ivf JM A' → frm [34, 35, 9, 19, 18, 7, 8, 2, 38, 39, 40, 41, 42, 43, 44, 45, 46, 1, 3] [(0, 2), (0, 3)] A A' → ∀ r : Int, rng r → (LZ A') → (HZ c A A') → K (some (ni r)) A')
theorem okM_goesOff : okM LM 6 206 sM_goesOff := by
  refine qmeth [] true [(198, sM_loadOf), (202, sM_falls), (205, sM_tears)] 90 rfl ⟨okM_loadOf.le (by decide), ⟨okM_falls.le (by decide), ⟨okM_tears.le (by decide), trivial⟩⟩⟩ ?_
  rintro _ A K hA has ⟨c, b, rfl, ⟨i0, j0, p1, p2, p3, p4, p5, p6⟩, hK⟩
  have rg_c : rng c := has (ni c) (by simp)
  have rg_b : rng b := has (ni b) (by simp)
  have f0 := frm_0 [34, 35, 9, 19, 18, 7, 8, 2, 38, 39, 40, 41, 42, 43, 44, 45, 46, 1, 3] [(0, 2), (0, 3)] A
  refine ⟨Nat.le_of_ble_eq_true rfl, [(18, [(0, 2, 0), (1, 0, 0), (2, 0, 0), (3, 0, 0), (4, 0, 0), (5, 0, 0)], fun zs B nn => match zs with | [l1, l2, t, s, k] => iva IM B ∧ ivf JM B ∧ frm [34, 35, 9, 19, 18, 7, 8, 2, 38, 39, 40, 41, 42, 43, 44, 45, 46, 1, 3] [(0, 2), (0, 3)] A B ∧ nn = (200 + k : Int).toNat ∧ (l1 = c) ∧ (l2 = b) ∧ ((-1) ≤ k) ∧ (k ≤ 47) ∧ (LZ B) ∧ (B 1 = A 1) | _ => False), (48, [(0, 2, 0), (1, 0, 0), (3, 0, 0), (4, 0, 0), (5, 0, 0)], fun zs B nn => match zs with | [l1, t, s, k] => iva IM B ∧ ivf JM B ∧ frm [34, 35, 9, 19, 18, 7, 8, 2, 38, 39, 40, 41, 42, 43, 44, 45, 46, 1, 3] [(0, 2), (0, 3)] A B ∧ nn = (48 - k : Int).toNat ∧ (l1 = c) ∧ (0 ≤ k) ∧ (k ≤ 48) ∧ (LZ B) ∧ (c ≤ k) ∧ (∀ i, 0 ≤ i → i < 48 → (B 1 i = A 1 i ∨ B 1 i = 0)) ∧ (c < k → B 1 c = 0) | _ => False)], ?_, ?_⟩
  · refine ⟨⟨rfl, ?_⟩, ⟨rfl, ?_⟩, trivial⟩
    · refine fun l1 l2 t s k B mm hB hz hI => ?_
      obtain ⟨i1, j1, f1, hm, c0, c1, c2, c3, c4, c5⟩ := hI
      obtain ⟨hz_l1, hz_l2, hz_t, hz_s, hz_k, _⟩ := hz
      refine And.intro (fun h25 => ?_) (fun h25 => ?_)
      · exact Exists.intro (48 - l1 : Int).toNat (And.intro (by omega) (And.intro i1 (And.intro j1 (And.intro f1 (And.intro rfl (And.intro (by omega) (And.intro (by omega) (And.intro (by omega) (And.intro c4 (And.intro (by omega) (And.intro (by first | (intro i h0 h1; rw [f1, qu_is]; split; exact Or.inr rfl; exact c5 i h0 h1) | (intro i h0 h1; exact Or.inl (congrFun c5 i))) (by first | omega | (intro hq; rw [f1, qu_is]; split; rfl; rename_i hh; exact c6 (by omega))))))))))))))
      · refine And.intro (by omega) (fun v26 gv26 e27 => ?_)
        have b28 := iva_at i1 0 rfl (i := k) (by omega) (by omega)
        refine And.intro (fun h29 => ?_) (fun h29 => ?_)
        · refine And.intro (fun h30 => ?_) (fun h30 => ?_)
          · refine fun v31 e32 => ?_
            refine fun v33 e34 => ?_
            have w35 := wI_rng v31
            have w36 := wI_rng v33
            have w37 : wI v33 = v33 := wI_id (by omega)
            exact Exists.intro (200 + ((wI v33)) : Int).toNat (And.intro (by omega) (And.intro i1 (And.intro j1 (And.intro f1 (And.intro rfl (And.intro (by omega) (And.intro (by omega) (And.intro (by omega) (And.intro (by omega) (And.intro c4 c5))))))))))
          · refine And.intro (by omega) (fun v38 gv38 e39 => ?_)
            have b40 := iva_at i1 2 rfl (i := k) (by omega) (by omega)
            refine And.intro (fun h41 => ?_) (fun h41 => ?_)
            · refine fun v42 e43 => ?_
              refine fun v44 e45 => ?_
              have w46 := wI_rng v42
              have w47 := wI_rng v44
              have w48 : wI v44 = v44 := wI_id (by omega)
              exact Exists.intro (200 + ((wI v44)) : Int).toNat (And.intro (by omega) (And.intro i1 (And.intro j1 (And.intro f1 (And.intro rfl (And.intro (by omega) (And.intro (by omega) (And.intro (by omega) (And.intro (by omega) (And.intro c4 c5))))))))))
            · obtain ⟨v49, e50⟩ : ∃ v, v = B 7 k := ⟨_, rfl⟩
              have b51 := iva_at i1 2 rfl (i := k) (by omega) (by omega)
              have q52 : v38 = v49 := (e50.trans e39.symm).symm
              subst q52
              refine Exists.intro k (Exists.intro 0 (And.intro rfl (And.intro (And.intro i1 (And.intro j1 (And.intro (by omega) (And.intro (by omega) (And.intro (by omega) (And.intro (by omega) (And.intro (by rw [← e50]; omega) (And.intro (WF_fr p5 f1 rfl) c4)))))))) (fun A53 i54 j55 f56 r57 g59 g60 g58 => ?_))))
              have f61 := frm_c f1 f56 rfl
              refine fun v63 e64 => ?_
              refine fun v65 e66 => ?_
              have w67 := wI_rng v63
              have w68 := wI_rng v65
              have w69 : wI v65 = v65 := wI_id (by omega)
              exact Exists.intro (200 + ((wI v65)) : Int).toNat (And.intro (by omega) (And.intro i54 (And.intro j55 (And.intro f61 (And.intro rfl (And.intro (by omega) (And.intro (by omega) (And.intro (by omega) (And.intro (by omega) (And.intro g58 (Eq.trans (frm_a f56 rfl) c5)))))))))))
        · refine fun v70 e71 => ?_
          have w72 := wI_rng v70
          have w73 : wI v70 = v70 := wI_id (by omega)
          exact Exists.intro (200 + ((wI v70)) : Int).toNat (And.intro (by omega) (And.intro i1 (And.intro j1 (And.intro f1 (And.intro rfl (And.intro (by omega) (And.intro (by omega) (And.intro (by omega) (And.intro (by omega) (And.intro c4 c5))))))))))
    · refine fun l1 t s k B mm hB hz hI => ?_
      obtain ⟨i1, j1, f1, hm, c0, c1, c2, c3, c4, c5, c6⟩ := hI
      obtain ⟨hz_l1, hz_t, hz_s, hz_k, _⟩ := hz
      refine And.intro (by omega) (fun v74 e75 => ?_)
      have h76 := qd_nn (a := l1) (b := 6) (by omega)
      refine fun v77 e78 => ?_
      refine fun v79 e80 => ?_
      have w82 := wI_rng v79
      have w83 : wI v79 = v79 := wI_id (by omega)
      refine And.intro (fun h81 => ?_) (fun h81 => ?_)
      · refine fun v84 e85 => ?_
        refine And.intro (by omega) (fun v86 e87 => ?_)
        have h88 := qm_nn (a := l1) (b := 6) (by omega)
        have w89 := wI_rng v84
        have w90 : wI v84 = v84 := wI_id (by omega)
        refine Exists.intro (wI v84) (Exists.intro v86 (Exists.intro t (And.intro rfl (And.intro (And.intro i1 (And.intro j1 (And.intro (by omega) (by omega)))) (fun A91 i92 j93 f94 => ?_)))))
        have f95 := frm_c f1 f94 rfl
        have cz97 := LZ_fr c3 f94 rfl
        refine fun v98 e99 => ?_
        refine And.intro (by omega) (fun v100 e101 => ?_)
        have h102 := qm_nn (a := l1) (b := 6) (by omega)
        have w103 := wI_rng v98
        have w104 : wI v98 = v98 := wI_id (by omega)
        refine Exists.intro (wI v98) (Exists.intro v100 (Exists.intro t (And.intro rfl (And.intro (And.intro i92 (And.intro j93 (And.intro (by omega) (by omega)))) (fun A105 i106 j107 f108 => ?_)))))
        have f109 := frm_c f95 f108 rfl
        have cz111 := LZ_fr cz97 f108 rfl
        exact hK _ i106 j107 f109 _ (by first | exact wI_rng _ | omega) cz111 (by have q1 : A105 1 = B 1 := (Eq.trans (frm_a f108 rfl) (frm_a f94 rfl)); exact ⟨by rw [q1]; exact c6 (by omega), by rw [q1]; exact c5⟩)
      · refine And.intro (by omega) (And.intro (by omega) (fun A112 e113 => ?_))
        have i114 := iva_st i1 e113 (And.intro (by omega) trivial)
        have j115 := ivf_sa j1 e113 rfl
        have f116 := frm_s f1 e113 rfl
        have cz117 := LZ_k c3 (st_a e113 rfl) (st_a e113 rfl)
        refine fun v118 e119 => ?_
        have w120 := wI_rng v118
        have w121 : wI v118 = v118 := wI_id (by omega)
        exact Exists.intro (48 - ((wI v118)) : Int).toNat (And.intro (by omega) (And.intro i114 (And.intro j115 (And.intro f116 (And.intro rfl (And.intro (by omega) (And.intro (by omega) (And.intro (by omega) (And.intro cz117 (And.intro (by omega) (And.intro (by first | (intro i h0 h1; rw [e113, qu_is]; split; exact Or.inr rfl; exact c5 i h0 h1) | (intro i h0 h1; exact Or.inl (congrFun c5 i))) (by first | omega | (intro hq; rw [e113, qu_is]; split; rfl; rename_i hh; exact c6 (by omega))))))))))))))
  · refine Exists.intro c (And.intro rfl (And.intro (And.intro i0 (And.intro j0 (And.intro (by omega) (by omega)))) (fun r7 g8 => ?_)))
    refine And.intro (by omega) (fun v9 e10 => ?_)
    have h11 := qd_bd (a := r7) (b := 10) (lo := (-2147483648)) (hi := 2147483647) (by omega) (by omega) (by omega) (by omega) (by omega)
    refine And.intro (by omega) (fun v12 e13 => ?_)
    have h14 := qd_nn (a := c) (b := 6) (by omega)
    refine fun v15 e16 => ?_
    refine fun v17 e18 => ?_
    refine fun v19 e20 => ?_
    have w21 := wI_rng v9
    have w22 : wI v9 = v9 := wI_id (by omega)
    have w23 := wI_rng v19
    have w24 : wI v19 = v19 := wI_id (by omega)
    exact Exists.intro (200 + ((wI v19)) : Int).toNat (And.intro i0 (And.intro j0 (And.intro f0 (And.intro rfl (And.intro (by omega) (And.intro (by omega) (And.intro (by omega) (And.intro (by omega) (And.intro p6 rfl)))))))))
def sM_go : qS := fun as A K => as = [rf 0] ∧ (iva IM A ∧ ivf JM A ∧ (WF A) ∧ (LZ A)) ∧ (∀ A' : qA, iva IM A' → ivf JM A' → frm [34, 35, 9, 19, 18, 7, 8, 2, 38, 39, 40, 41, 42, 43, 44, 45, 46, 1, 3] [(0, 2), (0, 3)] A A' → ∀ r : Int, rng r → (LZ A') → K (some (ni r)) A')
theorem okM_go : okM LM 7 207 sM_go := by
  refine qmeth [] true [(204, sM_firstGoing), (206, sM_goesOff)] 27 rfl ⟨okM_firstGoing.le (by decide), ⟨okM_goesOff.le (by decide), trivial⟩⟩ ?_
  rintro _ A K hA has ⟨rfl, ⟨i0, j0, p1, p2⟩, hK⟩
  have f0 := frm_0 [34, 35, 9, 19, 18, 7, 8, 2, 38, 39, 40, 41, 42, 43, 44, 45, 46, 1, 3] [(0, 2), (0, 3)] A
  refine ⟨Nat.le_of_ble_eq_true rfl, [(5, [(0, 2, 0), (1, 0, 0), (2, 0, 0)], fun zs B nn => match zs with | [s, c] => iva IM B ∧ ivf JM B ∧ frm [34, 35, 9, 19, 18, 7, 8, 2, 38, 39, 40, 41, 42, 43, 44, 45, 46, 1, 3] [(0, 2), (0, 3)] A B ∧ nn = (hs B : Int).toNat ∧ ((-1) ≤ c) ∧ (c ≤ 47) ∧ (c < 0 ∨ B 1 c ≠ 0) ∧ (LZ B) | _ => False)], ?_, ?_⟩
  · refine ⟨⟨rfl, ?_⟩, trivial⟩
    · refine fun s c B mm hB hz hI => ?_
      obtain ⟨i1, j1, f1, hm, c0, c1, c2, c3⟩ := hI
      obtain ⟨hz_s, hz_c, _⟩ := hz
      refine And.intro (fun h7 => ?_) (fun h7 => ?_)
      · exact hK _ i1 j1 f1 _ (by first | exact wI_rng _ | omega | (exact (hA _ _).2 rfl)) c3
      · refine Exists.intro c (Exists.intro 1 (And.intro rfl (And.intro (And.intro i1 (And.intro j1 (And.intro (by omega) (And.intro (by omega) (And.intro (by omega) (And.intro (by omega) (And.intro (WF_fr p1 f1 rfl) c3))))))) (fun A8 i9 j10 f11 r12 g15 g13 g14 => ?_))))
        have f16 := frm_c f1 f11 rfl
        have hh := hs_lt g14 i1 (by omega) (by omega) (by omega)
        refine fun v18 e19 => ?_
        refine And.intro rfl (And.intro (And.intro i9 j10) (fun r20 g22 g23 g21 => ?_))
        have w24 := wI_rng v18
        exact Exists.intro (hs A8 : Int).toNat (And.intro (by omega) (And.intro i9 (And.intro j10 (And.intro f16 (And.intro rfl (And.intro (by omega) (And.intro (by omega) (And.intro (by omega) g13))))))))
  · refine And.intro rfl (And.intro (And.intro i0 j0) (fun r3 g5 g6 g4 => ?_))
    exact Exists.intro (hs A : Int).toNat (And.intro i0 (And.intro j0 (And.intro f0 (And.intro rfl (And.intro (by omega) (And.intro (by omega) (And.intro (by omega) p2)))))))
def sM_torn : qS := fun as A K => ∃ c l : Int, as = [rf 0, ni c, ni l] ∧ (iva IM A ∧ ivf JM A ∧ (WF A) ∧ (LZ A)) ∧ (∀ A' : qA, iva IM A' → ivf JM A' → frm [34, 35, 9, 19, 18, 7, 8, 2, 38, 39, 40, 41, 42, 43, 44, 45, 46, 1, 3, 47, 48] [(0, 2), (0, 3)] A A' → ∀ r : Int, rngL r → (LZ A') → K (some (nl r)) A')
theorem okM_torn : okM LM 7 208 sM_torn := by
  refine qmeth [] false [(150, sM_isHung), (149, sM_at), (206, sM_goesOff), (204, sM_firstGoing)] 103 rfl ⟨okM_isHung.le (by decide), ⟨okM_at.le (by decide), ⟨okM_goesOff.le (by decide), ⟨okM_firstGoing.le (by decide), trivial⟩⟩⟩⟩ ?_
  rintro _ A K hA has ⟨c, l, rfl, ⟨i0, j0, p1, p2⟩, hK⟩
  have rg_c : rng c := has (ni c) (by simp)
  have rg_l : rng l := has (ni l) (by simp)
  have f0 := frm_0 [34, 35, 9, 19, 18, 7, 8, 2, 38, 39, 40, 41, 42, 43, 44, 45, 46, 1, 3, 47, 48] [(0, 2), (0, 3)] A
  refine ⟨Nat.le_of_ble_eq_true rfl, [(9, [(0, 2, 0), (1, 0, 0), (2, 0, 0), (3, 0, 0)], fun zs B nn => match zs with | [l1, l2, k] => iva IM B ∧ ivf JM B ∧ frm [34, 35, 9, 19, 18, 7, 8, 2, 38, 39, 40, 41, 42, 43, 44, 45, 46, 1, 3, 47, 48] [(0, 2), (0, 3)] A B ∧ nn = (5000 - k : Int).toNat ∧ (l1 = c) ∧ (l2 = l) ∧ (0 ≤ k) ∧ (k ≤ 48) ∧ (LZ B) ∧ (0 ≤ c) ∧ (c ≤ 7) ∧ (0 ≤ l) ∧ (l ≤ 5) | _ => False), (40, [(0, 2, 0), (3, 0, 0)], fun zs B nn => match zs with | [c] => iva IM B ∧ ivf JM B ∧ frm [34, 35, 9, 19, 18, 7, 8, 2, 38, 39, 40, 41, 42, 43, 44, 45, 46, 1, 3, 47, 48] [(0, 2), (0, 3)] A B ∧ nn = (1000 + hs B : Int).toNat ∧ ((-1) ≤ c) ∧ (c ≤ 47) ∧ (c < 0 ∨ B 1 c ≠ 0) ∧ (LZ B) | _ => False), (56, [(0, 2, 0), (3, 1, 0), (5, 0, 0)], fun zs B nn => match zs with | [l3, k] => iva IM B ∧ ivf JM B ∧ frm [34, 35, 9, 19, 18, 7, 8, 2, 38, 39, 40, 41, 42, 43, 44, 45, 46, 1, 3, 47, 48] [(0, 2), (0, 3)] A B ∧ nn = (48 - k : Int).toNat ∧ (0 ≤ k) ∧ (k ≤ 48) ∧ (LZ B) | _ => False)], ?_, ?_⟩
  · refine ⟨⟨rfl, ?_⟩, ⟨rfl, ?_⟩, ⟨rfl, ?_⟩, trivial⟩
    · refine fun l1 l2 k B mm hB hz hI => ?_
      obtain ⟨i1, j1, f1, hm, c0, c1, c2, c3, c4, c5, c6, c7, c8⟩ := hI
      obtain ⟨hz_l1, hz_l2, hz_k, _⟩ := hz
      refine And.intro (fun h6 => ?_) (fun h6 => ?_)
      · refine Exists.intro l1 (Exists.intro l2 (And.intro rfl (And.intro (And.intro (by omega) (And.intro (by omega) (And.intro (by omega) (by omega)))) ?_)))
        refine Exists.intro (6 * l1 + l2) (Exists.intro 0 (And.intro rfl (And.intro (And.intro i1 (And.intro j1 (And.intro (by omega) (And.intro (by omega) (And.intro (by omega) (And.intro (by omega) (And.intro (WF_fr p1 f1 rfl) c4))))))) (fun A7 i8 j9 f10 r11 g14 g12 g13 => ?_))))
        have f15 := frm_c f1 f10 rfl
        refine And.intro rfl (And.intro (And.intro i8 j9) (fun r17 g19 g20 g18 => ?_))
        have hh2 := hs_bd i8
        exact Exists.intro (1000 + hs A7 : Int).toNat (And.intro (by omega) (And.intro i8 (And.intro j9 (And.intro f15 (And.intro rfl (And.intro (by omega) (And.intro (by omega) (And.intro (by omega) g12))))))))
      · refine And.intro (by omega) (fun v21 gv21 e22 => ?_)
        have b23 := iva_at i1 0 rfl (i := k) (by omega) (by omega)
        refine And.intro (by omega) (And.intro (by omega) (fun A24 e25 => ?_))
        have i26 := iva_st i1 e25 (And.intro (by omega) trivial)
        have j27 := ivf_sa j1 e25 rfl
        have f28 := frm_s f1 e25 rfl
        have cz29 := LZ_k c4 (st_a e25 rfl) (st_a e25 rfl)
        refine And.intro (by omega) (fun v30 gv30 e31 => ?_)
        refine And.intro (by omega) (fun A32 e33 => ?_)
        have i34 := iva_st i26 e33 trivial
        have j35 := ivf_sa j27 e33 rfl
        have f36 := frm_s f28 e33 rfl
        have cz37 := LZ_k cz29 (st_a e33 rfl) (st_a e33 rfl)
        refine fun v38 e39 => ?_
        exact And.intro (by omega) (Exists.intro (5000 - v38 : Int).toNat (And.intro (by omega) (And.intro i34 (And.intro j35 (And.intro f36 (And.intro rfl (And.intro (by omega) (And.intro (by omega) (And.intro (by omega) (And.intro (by omega) (And.intro cz37 (And.intro (by omega) (And.intro (by omega) (And.intro (by omega) (by omega)))))))))))))))
    · refine fun c B mm hB hz hI => ?_
      obtain ⟨i1, j1, f1, hm, c0, c1, c2, c3⟩ := hI
      obtain ⟨hz_c, _⟩ := hz
      have hh3 := hs_bd i1
      refine And.intro (fun h40 => ?_) (fun h40 => ?_)
      · refine fun (v41 : Int) (e42 : v41 = 0) => ?_
        exact Exists.intro (48 - 0 : Int).toNat (And.intro (by omega) (And.intro i1 (And.intro j1 (And.intro f1 (And.intro rfl (And.intro (by omega) (And.intro (by omega) c3)))))))
      · refine Exists.intro c (Exists.intro 0 (And.intro rfl (And.intro (And.intro i1 (And.intro j1 (And.intro (by omega) (And.intro (by omega) (And.intro (by omega) (And.intro (by omega) (And.intro (WF_fr p1 f1 rfl) c3))))))) (fun A43 i44 j45 f46 r47 g50 g48 g49 => ?_))))
        have f51 := frm_c f1 f46 rfl
        try have hh := hs_lt g49 i1 (by omega) (by omega) (by omega)
        refine And.intro rfl (And.intro (And.intro i44 j45) (fun r53 g55 g56 g54 => ?_))
        exact Exists.intro (1000 + hs A43 : Int).toNat (And.intro (by omega) (And.intro i44 (And.intro j45 (And.intro f51 (And.intro rfl (And.intro (by omega) (And.intro (by omega) (And.intro (by omega) g48))))))))
    · refine fun l3 k B mm hB hz hI => ?_
      obtain ⟨i1, j1, f1, hm, c0, c1, c2⟩ := hI
      obtain ⟨hz_l3, hz_k, _⟩ := hz
      refine And.intro (fun h57 => ?_) (fun h57 => ?_)
      · exact hK _ i1 j1 f1 _ (by first | assumption | omega | (subst_vars; exact l_rng _) | (subst_vars; exact (hB _ _).1) | exact qnL_rng (by decide)) c2
      · refine And.intro (by omega) (fun v58 gv58 e59 => ?_)
        have b60 := iva_at i1 20 rfl (i := k) (by omega) (by omega)
        refine And.intro (fun h61 => ?_) (fun h61 => ?_)
        · refine And.intro (by omega) (fun v62 gv62 e63 => ?_)
          have b64 := iva_at i1 20 rfl (i := k) (by omega) (by omega)
          have q65 : v58 = v62 := (e63.trans e59.symm).symm
          subst q65
          refine And.intro (by omega) (And.intro (by omega) (fun A66 e67 => ?_))
          have i68 := iva_st i1 e67 (And.intro (by omega) trivial)
          have j69 := ivf_sa j1 e67 rfl
          have f70 := frm_s f1 e67 rfl
          have cz71 := LZ_k c2 (st_a e67 rfl) (st_a e67 rfl)
          refine And.intro (by omega) (fun v72 gv72 e73 => ?_)
          refine And.intro (by omega) (fun A74 e75 => ?_)
          have i76 := iva_st i68 e75 trivial
          have j77 := ivf_sa j69 e75 rfl
          have f78 := frm_s f70 e75 rfl
          have cz79 := LZ_k cz71 (st_a e75 rfl) (st_a e75 rfl)
          refine fun v80 e81 => ?_
          exact And.intro (by omega) (Exists.intro (48 - v80 : Int).toNat (And.intro (by omega) (And.intro i76 (And.intro j77 (And.intro f78 (And.intro rfl (And.intro (by omega) (And.intro (by omega) cz79))))))))
        · refine And.intro (by omega) (fun v82 gv82 e83 => ?_)
          have b84 := iva_at i1 0 rfl (i := k) (by omega) (by omega)
          refine And.intro (fun h85 => ?_) (fun h85 => ?_)
          · refine And.intro (by omega) (fun v86 gv86 e87 => ?_)
            have b88 := iva_at i1 20 rfl (i := k) (by omega) (by omega)
            have q89 : v58 = v86 := (e87.trans e59.symm).symm
            subst q89
            refine And.intro (by omega) (And.intro (by omega) (fun A90 e91 => ?_))
            have i92 := iva_st i1 e91 (And.intro (by omega) trivial)
            have j93 := ivf_sa j1 e91 rfl
            have f94 := frm_s f1 e91 rfl
            have cz95 := LZ_k c2 (st_a e91 rfl) (st_a e91 rfl)
            refine And.intro (by omega) (fun v96 gv96 e97 => ?_)
            refine And.intro (by omega) (fun A98 e99 => ?_)
            have i100 := iva_st i92 e99 trivial
            have j101 := ivf_sa j93 e99 rfl
            have f102 := frm_s f94 e99 rfl
            have cz103 := LZ_k cz95 (st_a e99 rfl) (st_a e99 rfl)
            refine fun v104 e105 => ?_
            exact And.intro (by omega) (Exists.intro (48 - v104 : Int).toNat (And.intro (by omega) (And.intro i100 (And.intro j101 (And.intro f102 (And.intro rfl (And.intro (by omega) (And.intro (by omega) cz103))))))))
          · refine fun (v106 : Int) (e107 : v106 = 1) => ?_
            refine fun v108 e109 => ?_
            refine fun v110 e111 => ?_
            refine And.intro (by omega) (fun v112 gv112 e113 => ?_)
            have b114 := iva_at i1 20 rfl (i := k) (by omega) (by omega)
            have q115 : v58 = v112 := (e113.trans e59.symm).symm
            subst q115
            refine And.intro (by omega) (And.intro (by omega) (fun A116 e117 => ?_))
            have i118 := iva_st i1 e117 (And.intro (by omega) trivial)
            have j119 := ivf_sa j1 e117 rfl
            have f120 := frm_s f1 e117 rfl
            have cz121 := LZ_k c2 (st_a e117 rfl) (st_a e117 rfl)
            refine And.intro (by omega) (fun v122 gv122 e123 => ?_)
            refine And.intro (by omega) (fun A124 e125 => ?_)
            have i126 := iva_st i118 e125 trivial
            have j127 := ivf_sa j119 e125 rfl
            have f128 := frm_s f120 e125 rfl
            have cz129 := LZ_k cz121 (st_a e125 rfl) (st_a e125 rfl)
            refine fun v130 e131 => ?_
            exact And.intro (by omega) (Exists.intro (48 - v130 : Int).toNat (And.intro (by omega) (And.intro i126 (And.intro j127 (And.intro f128 (And.intro rfl (And.intro (by omega) (And.intro (by omega) cz129))))))))
  · refine Exists.intro c (Exists.intro l (And.intro rfl (And.intro (And.intro i0 j0) (And.intro (fun h3 => ?_) (fun h3 => ?_)))))
    · refine And.intro (fun h4 => ?_) (fun h4 => by exfalso; omega)
      exact Exists.intro (5000 - 0 : Int).toNat (And.intro i0 (And.intro j0 (And.intro f0 (And.intro rfl (And.intro (by omega) (And.intro (by omega) (And.intro (by omega) (And.intro (by omega) (And.intro p2 (And.intro (by omega) (And.intro (by omega) (And.intro (by omega) (by omega)))))))))))))
    · refine And.intro (fun h5 => by exfalso; omega) (fun h5 => ?_)
      exact hK _ i0 j0 f0 _ (by first | assumption | omega | (subst_vars; exact l_rng _) | (subst_vars; exact (hB _ _).1) | exact qnL_rng (by decide)) p2
def sM_day : qS := fun as A K => as = [rf 0] ∧ (iva IM A ∧ ivf JM A ∧ (WF A) ∧ (LZ A)) ∧ (∀ A' : qA, iva IM A' → ivf JM A' → frm [34, 35, 9, 19, 18, 7, 8, 2, 38, 39, 40, 41, 42, 43, 44, 45, 46, 1, 3, 36, 37, 10, 17, 49] [(0, 2), (0, 3), (0, 1), (0, 0)] A A' → ∀ r : Int, rng r → (LZ A') → K (some (ni r)) A')
theorem okM_day : okM LM 8 209 sM_day := by
  refine qmeth [] true [(196, sM_water), (191, sM_asked), (146, sM_less), (202, sM_falls), (207, sM_go), (147, sM_more)] 147 rfl ⟨okM_water.le (by decide), ⟨okM_asked.le (by decide), ⟨okM_less.le (by decide), ⟨okM_falls.le (by decide), ⟨okM_go.le (by decide), ⟨okM_more.le (by decide), trivial⟩⟩⟩⟩⟩⟩ ?_
  rintro _ A K hA has ⟨rfl, ⟨i0, j0, p1, p2⟩, hK⟩
  have f0 := frm_0 [34, 35, 9, 19, 18, 7, 8, 2, 38, 39, 40, 41, 42, 43, 44, 45, 46, 1, 3, 36, 37, 10, 17, 49] [(0, 2), (0, 3), (0, 1), (0, 0)] A
  refine ⟨Nat.le_of_ble_eq_true rfl, [(8, [(0, 2, 0), (1, 0, 0)], fun zs B nn => match zs with | [c] => iva IM B ∧ ivf JM B ∧ frm [34, 35, 9, 19, 18, 7, 8, 2, 38, 39, 40, 41, 42, 43, 44, 45, 46, 1, 3, 36, 37, 10, 17, 49] [(0, 2), (0, 3), (0, 1), (0, 0)] A B ∧ nn = (1000 - c : Int).toNat ∧ (0 ≤ c) ∧ (c ≤ 48) ∧ (LZ B) | _ => False), (42, [(0, 2, 0), (1, 0, 0)], fun zs B nn => match zs with | [c] => iva IM B ∧ ivf JM B ∧ frm [34, 35, 9, 19, 18, 7, 8, 2, 38, 39, 40, 41, 42, 43, 44, 45, 46, 1, 3, 36, 37, 10, 17, 49] [(0, 2), (0, 3), (0, 1), (0, 0)] A B ∧ nn = (800 - c : Int).toNat ∧ (0 ≤ c) ∧ (c ≤ 48) ∧ (LZ B) | _ => False), (86, [(0, 2, 0), (1, 0, 0)], fun zs B nn => match zs with | [c] => iva IM B ∧ ivf JM B ∧ frm [34, 35, 9, 19, 18, 7, 8, 2, 38, 39, 40, 41, 42, 43, 44, 45, 46, 1, 3, 36, 37, 10, 17, 49] [(0, 2), (0, 3), (0, 1), (0, 0)] A B ∧ nn = (600 - c : Int).toNat ∧ (0 ≤ c) ∧ (c ≤ 48) ∧ (LZ B) | _ => False), (109, [(0, 2, 0), (1, 0, 0)], fun zs B nn => match zs with | [c] => iva IM B ∧ ivf JM B ∧ frm [34, 35, 9, 19, 18, 7, 8, 2, 38, 39, 40, 41, 42, 43, 44, 45, 46, 1, 3, 36, 37, 10, 17, 49] [(0, 2), (0, 3), (0, 1), (0, 0)] A B ∧ nn = (400 - c : Int).toNat ∧ (0 ≤ c) ∧ (c ≤ 48) ∧ (LZ B) | _ => False)], ?_, ?_⟩
  · refine ⟨⟨rfl, ?_⟩, ⟨rfl, ?_⟩, ⟨rfl, ?_⟩, ⟨rfl, ?_⟩, trivial⟩
    · refine fun c B mm hB hz hI => ?_
      obtain ⟨i1, j1, f1, hm, c0, c1, c2⟩ := hI
      obtain ⟨hz_c, _⟩ := hz
      refine And.intro (fun h18 => ?_) (fun h18 => ?_)
      · exact Exists.intro (800 - 0 : Int).toNat (And.intro (by omega) (And.intro i1 (And.intro j1 (And.intro f1 (And.intro rfl (And.intro (by omega) (And.intro (by omega) c2)))))))
      · refine And.intro (by omega) (fun v19 gv19 e20 => ?_)
        have b21 := iva_at i1 0 rfl (i := c) (by omega) (by omega)
        refine And.intro (fun h22 => ?_) (fun h22 => ?_)
        · refine fun v23 e24 => ?_
          have w25 := wI_rng v23
          have w26 : wI v23 = v23 := wI_id (by omega)
          exact Exists.intro (1000 - ((wI v23)) : Int).toNat (And.intro (by omega) (And.intro i1 (And.intro j1 (And.intro f1 (And.intro rfl (And.intro (by omega) (And.intro (by omega) c2)))))))
        · refine And.intro (by omega) (fun v27 gv27 e28 => ?_)
          have b29 := iva_at i1 2 rfl (i := c) (by omega) (by omega)
          refine And.intro (fun h30 => ?_) (fun h30 => ?_)
          · refine fun v31 e32 => ?_
            have w33 := wI_rng v31
            have w34 : wI v31 = v31 := wI_id (by omega)
            exact Exists.intro (1000 - ((wI v31)) : Int).toNat (And.intro (by omega) (And.intro i1 (And.intro j1 (And.intro f1 (And.intro rfl (And.intro (by omega) (And.intro (by omega) c2)))))))
          · refine And.intro (by omega) (fun v35 gv35 e36 => ?_)
            refine Exists.intro c (Exists.intro 103 (Exists.intro 50 (And.intro rfl (And.intro (And.intro i1 (And.intro j1 (And.intro (by omega) (And.intro (by omega) (And.intro (by omega) (And.intro (by omega) (WF_fr p1 f1 rfl))))))) (fun A37 i38 j39 f40 r41 g43 g44 g42 => ?_)))))
            have f45 := frm_c f1 f40 rfl
            have cz47 := LZ_fr c2 f40 rfl
            refine fun v48 e49 => ?_
            have w50 := wI_rng v48
            refine Exists.intro 200 (Exists.intro (wI v48) (And.intro rfl (fun r51 g53 g52 => ?_)))
            refine And.intro (by omega) (fun A54 e55 => ?_)
            have i56 := iva_st i38 e55 trivial
            have j57 := ivf_sa j39 e55 rfl
            have f58 := frm_s f45 e55 rfl
            have cz59 := LZ_k cz47 (st_a e55 rfl) (st_a e55 rfl)
            refine fun v60 e61 => ?_
            have w62 := wI_rng v60
            have w63 : wI v60 = v60 := wI_id (by omega)
            exact Exists.intro (1000 - ((wI v60)) : Int).toNat (And.intro (by omega) (And.intro i56 (And.intro j57 (And.intro f58 (And.intro rfl (And.intro (by omega) (And.intro (by omega) cz59)))))))
    · refine fun c B mm hB hz hI => ?_
      obtain ⟨i1, j1, f1, hm, c0, c1, c2⟩ := hI
      obtain ⟨hz_c, _⟩ := hz
      refine And.intro (fun h64 => ?_) (fun h64 => ?_)
      · exact Exists.intro (600 - 0 : Int).toNat (And.intro (by omega) (And.intro i1 (And.intro j1 (And.intro f1 (And.intro rfl (And.intro (by omega) (And.intro (by omega) c2)))))))
      · refine And.intro (by omega) (fun v65 gv65 e66 => ?_)
        have b67 := iva_at i1 0 rfl (i := c) (by omega) (by omega)
        refine And.intro (fun h68 => ?_) (fun h68 => ?_)
        · refine fun v69 e70 => ?_
          have w71 := wI_rng v69
          have w72 : wI v69 = v69 := wI_id (by omega)
          exact Exists.intro (800 - ((wI v69)) : Int).toNat (And.intro (by omega) (And.intro i1 (And.intro j1 (And.intro f1 (And.intro rfl (And.intro (by omega) (And.intro (by omega) c2)))))))
        · refine And.intro (by omega) (fun v73 gv73 e74 => ?_)
          have b75 := iva_at i1 2 rfl (i := c) (by omega) (by omega)
          refine And.intro (fun h76 => ?_) (fun h76 => ?_)
          · refine fun v77 gv77 e78 => ?_
            have b79 := ivf_at j1 5 rfl
            refine fun v80 e81 => ?_
            refine fun v82 e83 => ?_
            have k84 : qn 65536 = 65536 := by decide
            have w87 := wI_rng v82
            have w88 : wI v82 = v82 := wI_id (by omega)
            refine And.intro (by omega) (fun v85 e86 => ?_)
            have h89 := qm_nn (a := (wI v82)) (b := (qn 65536)) (by omega)
            rw [show qn 65536 = 65536 by decide] at h89 e86
            refine fun A90 e91 => ?_
            have i92 := iva_sf i1 e91 rfl
            have j93 := ivf_st j1 e91 (And.intro (by omega) trivial)
            have f94 := frm_sf f1 e91 rfl
            have cz95 := LZ_k c2 (st_a e91 rfl) (st_a e91 rfl)
            refine fun v96 gv96 e97 => ?_
            have b98 := ivf_at j93 5 rfl
            have q99 : v85 = v96 := (e97.trans (st_v e91)).symm
            subst q99
            refine And.intro (by omega) (fun v100 e101 => ?_)
            have h102 := qm_nn (a := v85) (b := 1000) (by omega)
            refine Exists.intro c (Exists.intro 102 (Exists.intro 1000 (And.intro rfl (And.intro (And.intro i92 (And.intro j93 (And.intro (by omega) (And.intro (by omega) (And.intro (by omega) (And.intro (by omega) (WF_fr p1 f94 rfl))))))) (fun A103 i104 j105 f106 r107 g109 g110 g108 => ?_)))))
            have f111 := frm_c f94 f106 rfl
            have cz113 := LZ_fr cz95 f106 rfl
            refine And.intro (fun h114 => ?_) (fun h114 => ?_)
            · refine fun v115 e116 => ?_
              have w117 := wI_rng v115
              have w118 : wI v115 = v115 := wI_id (by omega)
              exact Exists.intro (800 - ((wI v115)) : Int).toNat (And.intro (by omega) (And.intro i104 (And.intro j105 (And.intro f111 (And.intro rfl (And.intro (by omega) (And.intro (by omega) cz113)))))))
            · obtain ⟨v119, e120⟩ : ∃ v, v = A103 7 c := ⟨_, rfl⟩
              have b121 := iva_at i104 2 rfl (i := c) (by omega) (by omega)
              have q122 : v73 = v119 := (e120.trans ((congrFun (Eq.trans (frm_a f106 rfl) (st_a e91 rfl)) _).trans e74.symm)).symm
              subst q122
              refine Exists.intro c (Exists.intro 1 (And.intro rfl (And.intro (And.intro i104 (And.intro j105 (And.intro (by omega) (And.intro (by omega) (And.intro (by omega) (And.intro (by omega) (And.intro (by rw [← e120]; omega) (And.intro (WF_fr p1 f111 rfl) cz113)))))))) (fun A123 i124 j125 f126 r127 g129 g130 g128 => ?_))))
              have f131 := frm_c f111 f126 rfl
              refine fun v133 e134 => ?_
              have w135 := wI_rng v133
              have w136 : wI v133 = v133 := wI_id (by omega)
              exact Exists.intro (800 - ((wI v133)) : Int).toNat (And.intro (by omega) (And.intro i124 (And.intro j125 (And.intro f131 (And.intro rfl (And.intro (by omega) (And.intro (by omega) g128)))))))
          · refine fun v137 e138 => ?_
            have w139 := wI_rng v137
            have w140 : wI v137 = v137 := wI_id (by omega)
            exact Exists.intro (800 - ((wI v137)) : Int).toNat (And.intro (by omega) (And.intro i1 (And.intro j1 (And.intro f1 (And.intro rfl (And.intro (by omega) (And.intro (by omega) c2)))))))
    · refine fun c B mm hB hz hI => ?_
      obtain ⟨i1, j1, f1, hm, c0, c1, c2⟩ := hI
      obtain ⟨hz_c, _⟩ := hz
      refine And.intro (fun h141 => ?_) (fun h141 => ?_)
      · exact Exists.intro (400 - 0 : Int).toNat (And.intro (by omega) (And.intro i1 (And.intro j1 (And.intro f1 (And.intro rfl (And.intro (by omega) (And.intro (by omega) c2)))))))
      · refine And.intro (by omega) (fun v142 gv142 e143 => ?_)
        have b144 := iva_at i1 0 rfl (i := c) (by omega) (by omega)
        refine And.intro (fun h145 => ?_) (fun h145 => ?_)
        · refine And.intro (by omega) (fun A146 e147 => ?_)
          have i148 := iva_st i1 e147 trivial
          have j149 := ivf_sa j1 e147 rfl
          have f150 := frm_s f1 e147 rfl
          have cz151 := LZ_k c2 (st_a e147 rfl) (st_a e147 rfl)
          refine fun v152 e153 => ?_
          have w154 := wI_rng v152
          have w155 : wI v152 = v152 := wI_id (by omega)
          exact Exists.intro (600 - ((wI v152)) : Int).toNat (And.intro (by omega) (And.intro i148 (And.intro j149 (And.intro f150 (And.intro rfl (And.intro (by omega) (And.intro (by omega) cz151)))))))
        · refine Exists.intro c (Exists.intro 97 (Exists.intro 999 (And.intro rfl (And.intro (And.intro i1 (And.intro j1 (And.intro (by omega) (And.intro (by omega) (And.intro (by omega) (And.intro (by omega) (WF_fr p1 f1 rfl))))))) (fun A156 i157 j158 f159 r160 g162 g163 g161 => ?_)))))
          have f164 := frm_c f1 f159 rfl
          have cz166 := LZ_fr c2 f159 rfl
          refine And.intro (by omega) (fun A167 e168 => ?_)
          have i169 := iva_st i157 e168 trivial
          have j170 := ivf_sa j158 e168 rfl
          have f171 := frm_s f164 e168 rfl
          have cz172 := LZ_k cz166 (st_a e168 rfl) (st_a e168 rfl)
          refine fun v173 e174 => ?_
          have w175 := wI_rng v173
          have w176 : wI v173 = v173 := wI_id (by omega)
          exact Exists.intro (600 - ((wI v173)) : Int).toNat (And.intro (by omega) (And.intro i169 (And.intro j170 (And.intro f171 (And.intro rfl (And.intro (by omega) (And.intro (by omega) cz172)))))))
    · refine fun c B mm hB hz hI => ?_
      obtain ⟨i1, j1, f1, hm, c0, c1, c2⟩ := hI
      obtain ⟨hz_c, _⟩ := hz
      refine And.intro (fun h177 => ?_) (fun h177 => ?_)
      · refine And.intro rfl (And.intro (And.intro i1 (And.intro j1 (And.intro (WF_fr p1 f1 rfl) c2))) (fun A178 i179 j180 f181 r182 g184 g183 => ?_))
        have f185 := frm_c f1 f181 rfl
        refine fun v187 gv187 e188 => ?_
        refine fun v189 e190 => ?_
        have w193 := wI_rng v189
        refine fun A191 e192 => ?_
        have i194 := iva_sf i179 e192 rfl
        have j195 := ivf_st j180 e192 trivial
        have f196 := frm_sf f185 e192 rfl
        have cz197 := LZ_k g183 (st_a e192 rfl) (st_a e192 rfl)
        refine fun v198 gv198 e199 => ?_
        exact hK _ i194 j195 f196 _ (by first | exact wI_rng _ | omega | (exact (hA _ _).2 rfl)) cz197
      · refine And.intro (by omega) (fun v200 gv200 e201 => ?_)
        refine And.intro (by omega) (fun v202 gv202 e203 => ?_)
        refine fun v204 e205 => ?_
        have w206 := wI_rng v204
        refine Exists.intro 0 (Exists.intro (wI v204) (And.intro rfl (fun r207 g209 g208 => ?_)))
        refine And.intro (by omega) (fun A210 e211 => ?_)
        have i212 := iva_st i1 e211 trivial
        have j213 := ivf_sa j1 e211 rfl
        have f214 := frm_s f1 e211 rfl
        have cz215 := LZ_k c2 (st_a e211 rfl) (st_a e211 rfl)
        refine fun v216 e217 => ?_
        have w218 := wI_rng v216
        have w219 : wI v216 = v216 := wI_id (by omega)
        exact Exists.intro (400 - ((wI v216)) : Int).toNat (And.intro (by omega) (And.intro i212 (And.intro j213 (And.intro f214 (And.intro rfl (And.intro (by omega) (And.intro (by omega) cz215)))))))
  · refine fun A3 e4 => ?_
    have i5 := iva_sf i0 e4 rfl
    have j6 := ivf_st j0 e4 trivial
    have f7 := frm_sf f0 e4 rfl
    have cz8 := LZ_k p2 (st_a e4 rfl) (st_a e4 rfl)
    refine And.intro rfl (And.intro (And.intro i5 j6) (fun A9 i10 j11 f12 r13 g14 => ?_))
    have f15 := frm_c f7 f12 rfl
    have cz17 := LZ_fr cz8 f12 rfl
    exact Exists.intro (1000 - 0 : Int).toNat (And.intro i10 (And.intro j11 (And.intro f15 (And.intro rfl (And.intro (by omega) (And.intro (by omega) cz17))))))
def sM_gcd : qS := fun as A K => ∃ x y : Int, as = [nl x, nl y] ∧ ((0 ≤ x) ∧ (0 ≤ y) ∧ (0 < x ∨ 0 < y)) ∧ (∀ r : Int, rngL r → (0 < r) → K (some (nl r)) A)
theorem okM_gcd : okM LM 1 228 sM_gcd := by
  refine qmeth [] false [] 25 rfl trivial ?_
  rintro _ A K hA has ⟨x, y, rfl, ⟨p1, p2, p3⟩, hK⟩
  have rg_x : rngL x := has (nl x) (by simp)
  have rg_y : rngL y := has (nl y) (by simp)
  refine ⟨Nat.le_of_ble_eq_true rfl, [(4, [(4, 1, 0), (6, 1, 0)], fun zs B nn => match zs with | [p, q] => A = B ∧ nn = (q : Int).toNat ∧ (0 ≤ p) ∧ (0 ≤ q) ∧ (0 < p ∨ 0 < q) | _ => False)], ?_, ?_⟩
  · refine ⟨⟨rfl, ?_⟩, trivial⟩
    · refine fun p q B mm hB hz hI => ?_
      obtain ⟨rfl, hm, c0, c1, c2⟩ := hI
      obtain ⟨hz_p, hz_q, _⟩ := hz
      refine fun (v4 : Int) (e5 : v4 = 0) => ?_
      refine fun v6 e7 => ?_
      have h8 := jc_p q v4
      refine And.intro (fun h9 => ?_) (fun h9 => ?_)
      · exact hK _ (by first | assumption | omega | (subst_vars; exact l_rng _) | (subst_vars; exact (hB _ _).1) | exact qnL_rng (by decide)) (by omega)
      · refine And.intro (by omega) (fun v10 e11 => ?_)
        have hm := Int.tmod_nonneg q (show 0 ≤ p by omega)
        have hm2 := Int.tmod_lt_of_pos p (show 0 < q by omega)
        exact Exists.intro (v10 : Int).toNat (And.intro (by omega) (And.intro rfl (And.intro rfl (And.intro (by omega) (And.intro (by omega) (by omega))))))
  · exact Exists.intro (y : Int).toNat (And.intro rfl (And.intro rfl (And.intro (by omega) (And.intro (by omega) (by omega)))))
