/-! THE TWO FRESH HEAPS AS FUNCTIONS OF PLACES -/
def tval : Value → Int
  | .int x => x.toInt
  | .ref n => n
  | .null => -1
  | _ => 0
def tvs (sh : List (Nat × Nat × Nat × List Value)) (r j : Nat) : Int := match sh[r]? with
  | some (2, _, _, fs) => (match fs[j]? with
    | some v => tval v
    | none => 0)
  | _ => 0
def aq (L : List qY) (sh : List (Nat × Nat × Nat × List Value)) (f : Nat → Nat → Int32) (g : Nat → Nat → Int64) : qA := fun r i => match L[r]? with
  | some (0, _) => (f r i.toNat).toInt
  | some (1, _) => (g r i.toNat).toInt
  | _ => tvs sh r i.toNat
theorem qfs_c {A A' : qA} {r : Nat} (h : A r = A' r) : ∀ (ks : List (Nat × Nat)) (j : Nat), qfs A r j ks = qfs A' r j ks
  | [], _ => rfl
  | k :: ks, j => by
    show qfv A r j k :: qfs A r (j + 1) ks = qfv A' r j k :: qfs A' r (j + 1) ks
    rw [qfs_c h ks (j + 1)]
    congr 1
    obtain ⟨a, b⟩ := k
    rcases a with _ | _ | _ | a
    · show Value.int (Int32.ofInt (A r j)) = _; rw [h]; rfl
    · show Value.long (Int64.ofInt (A r j)) = _; rw [h]; rfl
    · show (if A r j < 0 then Value.null else .ref (A r j).toNat) = _; rw [h]; rfl
    · rfl
def qch (sh : List (Nat × Nat × Nat × List Value)) (r : Nat) (y : qY) (s : Nat × Nat × Nat × List Value) : Bool := match y, s with
  | (0, t, n, _), (0, t', n', _) => decide (t = t' ∧ n = n')
  | (1, t, n, _), (1, t', n', _) => decide (t = t' ∧ n = n')
  | (2, ci, _, ks), (2, ci', _, fs) => decide (ci = ci' ∧ qfs (fun r i => tvs sh r i.toNat) r 0 ks = fs)
  | _, _ => false
def qchs (sh : List (Nat × Nat × Nat × List Value)) : Nat → List qY → List (Nat × Nat × Nat × List Value) → Bool
  | _, [], [] => true
  | r, y :: L, s :: S => qch sh r y s && qchs sh (r + 1) L S
  | _, _, _ => false
theorem qce_fr {L : List qY} {sh : List (Nat × Nat × Nat × List Value)} {f : Nat → Nat → Int32} {g : Nat → Nat → Int64} {r : Nat} {y : qY} {s : Nat × Nat × Nat × List Value} (hy : L[r]? = some y) (h : qch sh r y s = true) : qce (aq L sh f g) r y = fr_ce r s f g := by
  obtain ⟨a, t, n, ks⟩ := y
  obtain ⟨a', t', n', fs⟩ := s
  rcases a with _ | _ | _ | a
  · rcases a' with _ | a'
    · have h : decide (t = t' ∧ n = n') = true := h
      obtain ⟨rfl, rfl⟩ := of_decide_eq_true h
      show Sum.inl (t, n, Sum.inl (fun j : Nat => Int32.ofInt (aq L sh f g r j))) = Sum.inl (t, n, Sum.inl (f r))
      congr 4
      funext j
      show Int32.ofInt (aq L sh f g r j) = f r j
      unfold aq
      rw [hy]
      show Int32.ofInt (f r (j : Int).toNat).toInt = f r j
      rw [Int32.ofInt_toInt, Int.toNat_natCast]
    · cases h
  · rcases a' with _ | _ | a'
    · cases h
    · have h : decide (t = t' ∧ n = n') = true := h
      obtain ⟨rfl, rfl⟩ := of_decide_eq_true h
      show Sum.inl (t, n, Sum.inr (Sum.inl (fun j : Nat => Int64.ofInt (aq L sh f g r j)))) = Sum.inl (t, n, Sum.inr (Sum.inl (g r)))
      congr 5
      funext j
      show Int64.ofInt (aq L sh f g r j) = g r j
      unfold aq
      rw [hy]
      show Int64.ofInt (g r (j : Int).toNat).toInt = g r j
      rw [Int64.ofInt_toInt, Int.toNat_natCast]
    · cases h
  · rcases a' with _ | _ | _ | a'
    · cases h
    · cases h
    · have h : decide (t = t' ∧ qfs (fun r i => tvs sh r i.toNat) r 0 ks = fs) = true := h
      obtain ⟨rfl, h2⟩ := of_decide_eq_true h
      show Sum.inr (t, qfs (aq L sh f g) r 0 ks) = Sum.inr (t, fs)
      rw [← h2]
      congr 2
      refine qfs_c ?_ ks 0
      funext i
      unfold aq
      rw [hy]
      rfl
    · cases h
  · cases h
theorem qmk_fr {L0 : List qY} {sh : List (Nat × Nat × Nat × List Value)} {f : Nat → Nat → Int32} {g : Nat → Nat → Int64} : ∀ (L : List qY) (S : List (Nat × Nat × Nat × List Value)) (r : Nat), (∀ i y, L[i]? = some y → L0[r + i]? = some y) → qchs sh r L S = true → qmk (aq L0 sh f g) r L = fr_re r S f g
  | [], [], _, _, _ => rfl
  | y :: L, s :: S, r, hL, h => by
    have h : (qch sh r y s && qchs sh (r + 1) L S) = true := h
    simp only [Bool.and_eq_true] at h
    show qce (aq L0 sh f g) r y :: qmk (aq L0 sh f g) (r + 1) L = fr_ce r s f g :: fr_re (r + 1) S f g
    have hy0 : L0[r]? = some y := by
      have := hL 0 y rfl
      rwa [Nat.add_zero] at this
    rw [qce_fr hy0 h.1, qmk_fr L S (r + 1) (fun i y9 h9 => by
      have := hL (i + 1) y9 (by simpa using h9)
      rw [← this]; congr 1; omega) h.2]
  | [], _ :: _, _, _, h => by cases h
  | _ :: _, [], _, _, h => by cases h
theorem tvs_rng {sh : List (Nat × Nat × Nat × List Value)} (h : ∀ s ∈ sh, ∀ v ∈ s.2.2.2, -2147483648 ≤ tval v ∧ tval v < 2147483648) (r j : Nat) : rng (tvs sh r j) := by
  unfold tvs
  split
  · next a b fs hs =>
    split
    · next v hv => exact h _ (List.mem_of_getElem? hs) v (List.mem_of_getElem? hv)
    · exact ⟨by decide, by decide⟩
  · exact ⟨by decide, by decide⟩
theorem aq_ok {L : List qY} {sh : List (Nat × Nat × Nat × List Value)} {f : Nat → Nat → Int32} {g : Nat → Nat → Int64} (h : ∀ s ∈ sh, ∀ v ∈ s.2.2.2, -2147483648 ≤ tval v ∧ tval v < 2147483648) : qokA L (aq L sh f g) := by
  intro r j
  have hr : ∀ z : Int, rng z → rngL z := fun z hz => ⟨by omega, by omega⟩
  unfold aq qlng
  split
  · exact ⟨hr _ (i_rng _), fun _ => i_rng _⟩
  · next y hy =>
    rw [hy]
    exact ⟨l_rng _, fun q => by cases q⟩
  · exact ⟨hr _ (tvs_rng h _ _), fun _ => tvs_rng h _ _⟩
/-- an array's number at the start -/
theorem aq_v {L : List qY} {sh : List (Nat × Nat × Nat × List Value)} {vl : List (Nat × Nat × Int32)} {f : Nat → Nat → Int32} {g : Nat → Nat → Int64} (hf : ∀ t ∈ vl, ∀ j, j < t.2.1 → f t.1 j = t.2.2) {r : Nat} {n lo hi : Int} (hc : (match L[r]? with | some (0, _) => vl.any (fun t => decide (t.1 = r ∧ n ≤ t.2.1 ∧ lo ≤ t.2.2.toInt ∧ t.2.2.toInt ≤ hi)) | _ => false) = true) {i : Int} (h0 : 0 ≤ i) (h1 : i < n) : lo ≤ aq L sh f g r i ∧ aq L sh f g r i ≤ hi := by
  unfold aq
  split at hc
  · next y hy =>
    obtain ⟨t, ht, hd⟩ := List.any_eq_true.mp hc
    obtain ⟨rfl, a, b, c⟩ := of_decide_eq_true hd
    rw [hy]
    show lo ≤ (f t.1 i.toNat).toInt ∧ (f t.1 i.toNat).toInt ≤ hi
    rw [hf t ht i.toNat (by omega)]
    exact ⟨b, c⟩
  · cases hc
theorem aq_f {L : List qY} {sh : List (Nat × Nat × Nat × List Value)} {f : Nat → Nat → Int32} {g : Nat → Nat → Int64} {r j : Nat} (hc : (match L[r]? with | some (0, _) => false | some (1, _) => false | _ => true) = true) : aq L sh f g r (fd j) = tvs sh r j := by
  unfold aq
  split at hc
  · cases hc
  · cases hc
  · exact congrArg (tvs sh r) (Int.toNat_natCast j)
theorem shC_rng : ∀ s ∈ shC, ∀ v ∈ s.2.2.2, -2147483648 ≤ tval v ∧ tval v < 2147483648 := by decide +kernel
theorem shM_rng : ∀ s ∈ shM, ∀ v ∈ s.2.2.2, -2147483648 ≤ tval v ∧ tval v < 2147483648 := by decide +kernel
theorem shC_ch : qchs shC 0 LC shC = true := by decide +kernel
theorem shM_ch : qchs shM 0 LM shM = true := by decide +kernel
theorem IC_ch : (IC.all fun c => match LC[c.1]? with | some (0, _) => vlC.any (fun t => decide (t.1 = c.1 ∧ c.2.1 ≤ t.2.1 ∧ c.2.2.1 ≤ t.2.2.toInt ∧ t.2.2.toInt ≤ c.2.2.2)) | _ => false) = true := by decide +kernel
theorem IM_ch : (IM.all fun c => match LM[c.1]? with | some (0, _) => vlM.any (fun t => decide (t.1 = c.1 ∧ c.2.1 ≤ t.2.1 ∧ c.2.2.1 ≤ t.2.2.toInt ∧ t.2.2.toInt ≤ c.2.2.2)) | _ => false) = true := by decide +kernel
theorem JC_ch : (JC.all fun c => (match LC[c.1]? with | some (0, _) => false | some (1, _) => false | _ => true) && decide (c.2.2.1 ≤ tvs shC c.1 c.2.1 ∧ tvs shC c.1 c.2.1 ≤ c.2.2.2)) = true := by decide +kernel
theorem JM_ch : (JM.all fun c => (match LM[c.1]? with | some (0, _) => false | some (1, _) => false | _ => true) && decide (c.2.2.1 ≤ tvs shM c.1 c.2.1 ∧ tvs shM c.1 c.2.1 ≤ c.2.2.2)) = true := by decide +kernel
theorem qC_new : ∃ A, pv_run pv_prog 3000 12 94 [.ref 0] [.inr (11, pv_fresh 11)] = some (none, qH LC A) ∧ qokA LC A ∧ CI A := by
  obtain ⟨f, g, hr, hF⟩ := nC_new
  refine ⟨aq LC shC f g, ?_, aq_ok shC_rng, ?_, ?_, ⟨?_, ?_⟩, Or.inl ⟨?_, ?_⟩⟩
  · have e : qH LC (aq LC shC f g) = gC f g := by
      rw [← gC_eq]
      exact qmk_fr LC shC 0 (fun i y h => by rw [Nat.zero_add]; exact h) shC_ch
    rw [e]
    exact hr
  · intro c hc i h0 h1
    exact aq_v hF (List.all_eq_true.mp IC_ch c hc) h0 h1
  · intro c hc
    have h := List.all_eq_true.mp JC_ch c hc
    simp only [Bool.and_eq_true, decide_eq_true_eq] at h
    rw [aq_f h.1]
    exact h.2
  · intro i h0 h1 h2
    have := aq_v (L := LC) (sh := shC) (g := g) hF (r := 37) (n := 200) (lo := 0) (hi := 0) (by decide +kernel) h0 h1
    omega
  · intro i h0 h1 h2
    have := aq_v (L := LC) (sh := shC) (g := g) hF (r := 72) (n := 200) (lo := 0) (hi := 0) (by decide +kernel) h0 h1
    omega
  · rw [aq_f rfl]; decide +kernel
  · rw [aq_f rfl]; decide +kernel
theorem qM_new : ∃ A, pv_run pv_prog 3000 12 144 [.ref 0] [.inr (12, pv_fresh 12)] = some (none, qH LM A) ∧ qokA LM A ∧ MI A := by
  obtain ⟨f, g, hr, hF⟩ := nM_new
  refine ⟨aq LM shM f g, ?_, aq_ok shM_rng, ?_, ?_, ?_, ?_⟩
  · have e : qH LM (aq LM shM f g) = gM f g := by
      rw [← gM_eq]
      exact qmk_fr LM shM 0 (fun i y h => by rw [Nat.zero_add]; exact h) shM_ch
    rw [e]
    exact hr
  · intro c hc i h0 h1
    exact aq_v hF (List.all_eq_true.mp IM_ch c hc) h0 h1
  · intro c hc
    have h := List.all_eq_true.mp JM_ch c hc
    simp only [Bool.and_eq_true, decide_eq_true_eq] at h
    rw [aq_f h.1]
    exact h.2
  · intro q h0 h1
    rw [aq_f rfl] at h1
    have e : tvs shM 0 35 = 0 := by decide +kernel
    omega
  · intro i h0 h1 h2
    have := aq_v (L := LM) (sh := shM) (g := g) hF (r := 41) (n := 60) (lo := 0) (hi := 0) (by decide +kernel) h0 h1
    omega
theorem qmk_len (A : qA) : ∀ (L : List qY) (r : Nat), (qmk A r L).length = L.length
  | [], _ => rfl
  | _ :: L, r => by show (qmk A (r + 1) L).length + 1 = L.length + 1; rw [qmk_len A L]
theorem qC_len (A : qA) : (qH LC A).length = 79 := qmk_len A LC 0
theorem qM_len (A : qA) : (qH LM A).length = 64 := qmk_len A LM 0
theorem qfs_len (A : qA) (r : Nat) : ∀ (ks : List (Nat × Nat)) (j : Nat), (qfs A r j ks).length = ks.length
  | [], _ => rfl
  | _ :: ks, j => by show (qfs A r (j + 1) ks).length + 1 = _; rw [qfs_len A r ks]; rfl
