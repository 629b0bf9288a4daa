section PVY
variable {p : Program} {l : Launch} {e : Env} {R : Room} {s : State} {m : MethodId} {args : Array Value} {below : List Frame} {meth : Method} {c : Code} {H : Heap} {locs : List Loc} {cells slots : Nat} {Q : State → Prop}
variable {o : Nat} {own mn : String} {nL k pc len : Nat} {xs : List Nat} {lo : pv_L} {st : List Value} {h : pv_H} {ls : Array Slot} {c' : pv_C} {D : va_G} {cA : Nat → ClassId} {B : Nat} {A : Nat → Prop} {M : pv_M}
theorem pv_lsw_is {rows : List pv_R} {pc t0 : Nat} {d : Int} {x : Int32} (hd : pv_jp rows pc d t0 = true) : ∀ (prs : List (Int × Int)) (ps : List Nat), pv_lsc rows pc prs ps = true → (pc : Int) + Op.lookupswitch.offset prs d x.toInt = (pv_pc rows ((pv_lsw ps x).getD t0) : Int)
  | [], [], _ => pv_jp_inv hd
  | (a, f) :: prs, k :: t :: ps, hx => by
    have hx : (decide (a = (k : Int)) && decide (k < 2147483648) && pv_jp rows pc f t && pv_lsc rows pc prs ps) = true := hx
    simp only [Bool.and_eq_true, decide_eq_true_eq] at hx
    obtain ⟨⟨⟨h1, h2⟩, h3⟩, h4⟩ := hx
    have hk : (Int32.ofNat k).toInt = k := Int32.toInt_ofNat_of_lt (by omega)
    rw [Op.lookupswitch.offset_cons]
    unfold pv_lsw
    by_cases hxk : x = Int32.ofNat k
    · rw [if_pos hxk, if_pos (by rw [hxk, hk]; exact h1)]
      exact pv_jp_inv h3
    · rw [if_neg hxk, if_neg (fun z => hxk (Int32.toInt_inj.mp (by rw [hk]; omega)))]
      exact pv_lsw_is hd prs ps h4
  | [], _ :: _, hx => by cases hx
  | (_, _) :: _, [], hx => by cases hx
  | (_, _) :: _, [_], hx => by cases hx
set_option maxHeartbeats 4000000 in
/-- a text's step, a lookup -/
theorem pv_text {i : Instr} (ho : pv_cn[o]? = some own) (S : pv_St p s m args meth c R M.2.1 own mn nL D cA B A) (hI : pv_I D cA B A s h H locs) (hl : lv_has ls nL (pv_l B lo)) (hd : decode M.2.1 pc = .ok (i, len)) (hist : pv_ist i xs = true) (hok : pv_okt M o k pc len i xs = true) (hx : pv_x i xs k lo st h = some c') (hR : 7 ≤ R.frames ∧ 420 ≤ R.locals) (hc : cells ≤ R.cells) (hs : slots ≤ R.slots) (kk : pv_KK p l e R s m args below meth c cells slots Q M.2.2.2.2 nL D cA B A h c') : W p l e R s m args below meth c H locs cells slots Q (F0 m pc ls (st.map (pv_v B))) := by
  obtain ⟨hF, hmn, hK, hBs, hfr, hlo, hG9⟩ := id S
  obtain ⟨hex, hb, hml, hown, hts⟩ := id hF
  obtain ⟨hP, hS, hAk⟩ := id hI
  obtain ⟨adK, adV, g1, g2, g3⟩ := hG9
  have hkp : ∀ q : Nat, q < s.heap.size → ¬ B ≤ q → H[q]? = s.heap[q]? := fun q h1 h2 => hS.2.1 q h1 (fun z => h2 (hBs.2 q z))
  have hZH : ∀ U : State, s.vm.Alike U.vm → U.heap = H → pz_Z adK adV U := fun U hv hU => by
    unfold pz_Z
    rw [hU]
    exact ⟨vk_S.narrow (vk_S.kept (vk_S.moved hv g1) hkp) (fun _ z => z.elim), va_Z.narrow9 (va_Z.kept9 (va_Z.moved hv g2) hkp) (fun _ z => z.elim)⟩
  have hPk : ∀ H1 : Heap, (∀ q, q < H.size → H1[q]? = H[q]?) → va_P D vwCl (pv_w cA B h) H1 := fun H1 hk => va_P.kept hP (fun k9 q9 h9 => hk _ (hP k9 q9 h9).lt)
  cases i with
  | ldc idx =>
    rcases xs with _ | ⟨s9, _ | ⟨z9, _ | ⟨j9, _ | ⟨w9, r9⟩⟩⟩⟩
    · cases hist
    · cases hist
    · cases hist
    · rcases z9 with _ | _ | z9
      · have hok : (decide (o = 5) && decide (s9 < 5) && decide (pzX.getD s9 0 = idx) && len == 2 && decide (decode M.2.1 (pc + 2) = .ok (.invokestatic 64, 3)) && pv_pc M.2.2.2.2 (k + 2) == pc + 5) = true := hok
        simp only [Bool.and_eq_true, decide_eq_true_eq, beq_iff_eq] at hok
        obtain ⟨⟨⟨⟨⟨h1, h2⟩, h3⟩, h4⟩, h5⟩, h6⟩ := hok
        subst h1 h3 h4
        cases ho
        rcases st with _ | ⟨v, r⟩
        · cases hx
        · cases v with
          | int x =>
            have hx : (if pv_cat r ≤ 4 then some (k + 2, lo, .int (pv_one s9 x) :: r, h) else none : Option pv_C) = some c' := hx
            by_cases hcat : pv_cat r ≤ 4
            · rw [if_pos hcat] at hx
              cases hx
              refine va_ldcS hex hb hown (g3 _ h2) hd ?_
              refine pz_callS (as := [.int x, .ref (adK s9)]) (n := 2) (rest := r.map (pv_v B)) (pz_one l 0 adK adV h2 x) hF hS hZH (pz_w 29 rfl) (pz_w 30 rfl) (pz_w 40 rfl) (pz_w 31 rfl) (by decide) ⟨by omega, by omega⟩ rfl hl.1 (by rw [pv_cat_map]; omega) h5 hc hs ?_
              intro H1 locs1 hS1 hz hk1
              exact kk H1 locs1 ls cells slots _ h6 ⟨hPk H1 hk1, hS1, hAk⟩ hl rfl rfl
            · rw [if_neg hcat] at hx
              cases hx
          | _ => cases hx
      · have hok : (decide (o = 5) && decide (s9 < 5) && decide (pzX.getD s9 0 = idx) && len == 2 && j9 == 2 && decide (decode M.2.1 (pc + 2) = .ok (.iload_n 2, 1)) && decide (decode M.2.1 (pc + 3) = .ok (.i2c, 1)) && decide (decode M.2.1 (pc + 4) = .ok (.invokevirtual 56, 3)) && pv_pc M.2.2.2.2 (k + 4) == pc + 7) = true := hok
        simp only [Bool.and_eq_true, decide_eq_true_eq, beq_iff_eq] at hok
        obtain ⟨⟨⟨⟨⟨⟨⟨⟨h1, h2⟩, h3⟩, h4⟩, h5⟩, h6⟩, h7⟩, h8⟩, h9⟩ := hok
        subst h1 h3 h4 h5
        cases ho
        have hx : (match pv_get lo 2 with | some (.int x) => if pv_cat st ≤ 4 then some (k + 4, lo, .int (pv_ix s9 (pv_chr x)) :: st, h) else none | _ => none : Option pv_C) = some c' := hx
        split at hx
        · next x hg =>
          by_cases hcat : pv_cat st ≤ 4
          · rw [if_pos hcat] at hx
            cases hx
            refine va_ldcS hex hb hown (g3 _ h2) hd ?_
            refine lv_iload_n hex hb h6 rfl (hl.2.2 _ (pv_l_get hg)) ?_
            refine lv_i2c hex hb h7 rfl ?_
            obtain ⟨n, hn, en⟩ := pz_cn x
            have en2 : (x.toUInt32 % 65536).toInt32 = Int32.ofNat n := en
            rw [en2]
            rw [en] at kk
            refine pz_callV (as := [.int (Int32.ofNat n)]) (n := 1) (b := adK s9) (rest := st.map (pv_v B)) (pz_ix1 l 0 adK adV h2 hn) hF hS hZH (vk_recv (vk_S.narrow g1 hBs.2) h2 hS) (pz_w 0 rfl) (pz_w 1 rfl) (pz_w 39 rfl) (pz_w 2 rfl) (pz_w 3 rfl) (by decide) ⟨by omega, by omega⟩ rfl hl.1 (by rw [pv_cat_map]; omega) h8 hc hs ?_
            intro H1 locs1 hS1 hz hk1
            exact kk H1 locs1 ls cells slots _ h9 ⟨hPk H1 hk1, hS1, hAk⟩ hl rfl rfl
          · rw [if_neg hcat] at hx
            cases hx
        · cases hx
      · simp [pv_okt] at hok
    · cases hist
  | lookupswitch d9 prs9 =>
    rcases xs with _ | ⟨t9, ps9⟩
    · simp [pv_okt] at hok
    · have hok : ((prs9.toList.zip (prs9.toList.drop 1)).all (fun (a, next) => a.1 < next.1) && pv_jp M.2.2.2.2 pc d9 t9 && pv_lsc M.2.2.2.2 pc prs9.toList ps9) = true := hok
      obtain ⟨h12, h3⟩ := Bool.and_eq_true_iff.mp hok
      obtain ⟨h1, h2⟩ := Bool.and_eq_true_iff.mp h12
      rcases st with _ | ⟨v, r⟩
      · cases hx
      · cases v with
        | int x =>
          have hx : (some ((pv_lsw ps9 x).getD t9, lo, r, h) : Option pv_C) = some c' := hx
          cases hx
          exact lv_lookup hex hb hd h1 rfl (pv_lsw_is h2 _ _ h3) (kk H locs ls cells slots _ rfl hI hl rfl rfl)
        | _ => cases hx
  | _ => cases hist
end PVY
