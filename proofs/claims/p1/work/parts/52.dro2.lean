def dr_aM : List ab_C := (((ab_aM).set 36 (.inl (0, 8, (2147483648, 2147483648), List.replicate 8 (2147483648, 2147483648)))).set 37 (.inl (0, 8, (2147483648, 2147483648), List.replicate 8 (2147483648, 2147483648)))).set 62 (.inl (0, 4, (2147483648, 2147483648), List.replicate 4 (2147483648, 2147483648)))
theorem dr_aM_ok : ab_chk vlM 0 shM dr_aM = true := by decide +kernel
def dr_Ha : List ab_C := (dr_aM).set 60 (.inl (0, 4, (2147483648, 2147483655), []))
def dr_Hb : List ab_C := ((((dr_aM).set 36 (.inl (0, 8, (2147483648, 2147483657), List.replicate 8 (2147483648, 2147483657)))).set 37 (.inl (0, 8, (2147483648, 2147483657), List.replicate 8 (2147483648, 2147483657)))).set 60 (.inl (0, 4, (2147483648, 2147483655), []))).set 62 (.inl (0, 4, (2147483648, 2147483657), List.replicate 4 (2147483648, 2147483657)))
def dr_fa : ab_E := (4, 195, [(3, 0, 0)], dr_Ha, [], dr_Ha)
set_option maxRecDepth 100000 in
theorem dr_fa_val : ab_val dr_fa := ab_val_of (es := []) (jt := dr_jt) (F := 4000) _ ab_nil (by decide +kernel) (by decide +kernel) (ab_cov0 rfl)
def dr_ga : ab_E := (4, 234, [(3, 0, 0)], dr_Ha, [(0, 2147483648, 2147483648)], dr_Ha)
set_option maxRecDepth 100000 in
theorem dr_ga_val : ab_val dr_ga := ab_val_of (es := []) (jt := dr_jt) (F := 4000) _ ab_nil (by decide +kernel) (by decide +kernel) (ab_cov0 rfl)
def dr_fb : ab_E := (4, 195, [(3, 0, 0)], dr_Hb, [], dr_Hb)
set_option maxRecDepth 100000 in
theorem dr_fb_val : ab_val dr_fb := ab_val_of (es := []) (jt := dr_jt) (F := 4000) _ ab_nil (by decide +kernel) (by decide +kernel) (ab_cov0 rfl)
def dr_gb : ab_E := (4, 234, [(3, 0, 0)], dr_Hb, [(0, 2147483648, 2147483648)], dr_Hb)
set_option maxRecDepth 100000 in
theorem dr_gb_val : ab_val dr_gb := ab_val_of (es := []) (jt := dr_jt) (F := 4000) _ ab_nil (by decide +kernel) (by decide +kernel) (ab_cov0 rfl)
def dr_cC : ab_K := ab_run [dr_s] dr_jt 4000 11
def dr_cM : ab_K := ab_run [dr_fa, dr_ga, dr_fb, dr_gb] dr_jt 4000 11
theorem dr_cC_ok : ab_cl 11 dr_cC := ab_run_ok (ab_cons1 dr_s_val ab_nil) 11
theorem dr_cM_ok : ab_cl 11 dr_cM := ab_run_ok (ab_cons1 dr_fa_val (ab_cons1 dr_ga_val (ab_cons1 dr_fb_val (ab_cons1 dr_gb_val ab_nil)))) 11
def dr_jC : List (Nat × Nat) := [(33, 42)]
def dr_jM : List (Nat × Nat) := [(22, 41), (28, 39), (54, 65), (71, 78), (84, 170), (93, 101), (106, 138), (140, 168), (149, 168), (157, 168), (174, 185), (187, 194)]
def dr_0C (n : Nat) : ab_S := ((0, 4294967295), ab_args 0 [(3, 0, 0), (0, 2147483648, 2147483684), (0, n + 2147483648, n + 2147483648), (1, 0, 0)], [], ab_aC)
def dr_0M (n : Nat) : ab_S := ((0, 4294967295), ab_args 0 [(3, 0, 0), (0, 2147483648, 2147483684), (0, n + 2147483648, n + 2147483648), (1, 0, 0)], [], dr_aM)
def dr_15 (t : Nat) : ab_S := ((0, 4294967295), [(0, (3, 0, 0)), (1, (0, 2147483648, 2147483684)), (2, (0, 2147483649, 2147483903)), (3, (1, 0, 0)), (4, (0, t + 2147483648, t + 2147483648))], [], ab_aC)
def dr_41 (t : Nat) : ab_S := ((0, 4294967295), [(0, (3, 0, 0)), (1, (0, 2147483648, 2147483684)), (2, (0, 2147483649, 2147483903)), (3, (1, 0, 0)), (4, (0, t + 2147483648, t + 2147483648))], [], dr_Ha)
def dr_8a (t lo hi : Nat) : ab_S := ((0, 0), [(0, (3, 0, 0)), (1, (0, 2147483648, 2147483684)), (2, (0, 2147483649, 2147483903)), (3, (0, lo, hi)), (4, (0, t + 2147483648, t + 2147483648)), (5, (0, 10 ^ t + 2147483648, 10 ^ t + 2147483648)), (6, (0, 2147483647, 2147483647)), (7, (0, 2147483648, 2147483648))], [], dr_Ha)
def dr_8b (t lo hi : Nat) : ab_S := ((2147483649, 10 ^ t + 2147483648), [(0, (3, 0, 0)), (1, (0, 2147483648, 2147483684)), (2, (0, 2147483649, 2147483903)), (3, (0, lo, hi)), (4, (0, t + 2147483648, t + 2147483648)), (5, (0, 10 ^ t + 2147483648, 10 ^ t + 2147483648)), (6, (0, 2147483648, 2147483648)), (7, (1, 0, 0))], [], dr_Hb)
def dr_kC (n : Nat) : Bool := ab_fwd2 dr_cC (pv_rw 122) dr_jC 4000 0 (dr_0C n) 15 3 (dr_15 (pcn n))
def dr_kM (n : Nat) : Bool := bif Nat.ble (pcn n) 4 then ab_fwd2 dr_cM (pv_rw 235) dr_jM 4000 0 (dr_0M n) 41 3 (dr_41 (pcn n)) else ab_fwd dr_cM (pv_rw 235) dr_jM 4000 0 (dr_0M n) 9999 9999 ab_off [(0, ab_n (-2), ab_n (-2))] dr_aM
def dr_ck (p : Nat → Bool) (k : Nat) : Bool := (List.range 32).all fun i => Nat.ble 256 (32 * k + i + 1) || p (32 * k + i + 1)
theorem dr_ck_all {p : Nat → Bool} (h0 : dr_ck p 0 = true) (h1 : dr_ck p 1 = true) (h2 : dr_ck p 2 = true) (h3 : dr_ck p 3 = true) (h4 : dr_ck p 4 = true) (h5 : dr_ck p 5 = true) (h6 : dr_ck p 6 = true) (h7 : dr_ck p 7 = true) (n : Nat) (hn : 1 ≤ n ∧ n ≤ 255) : p n = true := by
  have key : ∀ k, dr_ck p k = true → (n - 1) / 32 = k → p n = true := by
    intro k hk hq
    have h9 := List.all_eq_true.mp hk ((n - 1) % 32) (List.mem_range.mpr (by omega))
    rw [show 32 * k + (n - 1) % 32 + 1 = n by omega, Bool.or_eq_true, Nat.ble_eq] at h9
    rcases h9 with h9 | h9
    · omega
    · exact h9
  have hk : (n - 1) / 32 = 0 ∨ (n - 1) / 32 = 1 ∨ (n - 1) / 32 = 2 ∨ (n - 1) / 32 = 3 ∨ (n - 1) / 32 = 4 ∨ (n - 1) / 32 = 5 ∨ (n - 1) / 32 = 6 ∨ (n - 1) / 32 = 7 := by omega
  rcases hk with q | q | q | q | q | q | q | q
  · exact key 0 h0 q
  · exact key 1 h1 q
  · exact key 2 h2 q
  · exact key 3 h3 q
  · exact key 4 h4 q
  · exact key 5 h5 q
  · exact key 6 h6 q
  · exact key 7 h7 q
set_option maxRecDepth 100000 in
theorem dr_tC0 : dr_ck dr_kC 0 = true := by decide +kernel
set_option maxRecDepth 100000 in
theorem dr_tC1 : dr_ck dr_kC 1 = true := by decide +kernel
set_option maxRecDepth 100000 in
theorem dr_tC2 : dr_ck dr_kC 2 = true := by decide +kernel
set_option maxRecDepth 100000 in
theorem dr_tC3 : dr_ck dr_kC 3 = true := by decide +kernel
set_option maxRecDepth 100000 in
theorem dr_tC4 : dr_ck dr_kC 4 = true := by decide +kernel
set_option maxRecDepth 100000 in
theorem dr_tC5 : dr_ck dr_kC 5 = true := by decide +kernel
set_option maxRecDepth 100000 in
theorem dr_tC6 : dr_ck dr_kC 6 = true := by decide +kernel
set_option maxRecDepth 100000 in
theorem dr_tC7 : dr_ck dr_kC 7 = true := by decide +kernel
theorem dr_tC (n : Nat) (hn : 1 ≤ n ∧ n ≤ 255) : dr_kC n = true := dr_ck_all dr_tC0 dr_tC1 dr_tC2 dr_tC3 dr_tC4 dr_tC5 dr_tC6 dr_tC7 n hn
set_option maxRecDepth 100000 in
theorem dr_tM0 : dr_ck dr_kM 0 = true := by decide +kernel
set_option maxRecDepth 100000 in
theorem dr_tM1 : dr_ck dr_kM 1 = true := by decide +kernel
set_option maxRecDepth 100000 in
theorem dr_tM2 : dr_ck dr_kM 2 = true := by decide +kernel
set_option maxRecDepth 100000 in
theorem dr_tM3 : dr_ck dr_kM 3 = true := by decide +kernel
set_option maxRecDepth 100000 in
theorem dr_tM4 : dr_ck dr_kM 4 = true := by decide +kernel
set_option maxRecDepth 100000 in
theorem dr_tM5 : dr_ck dr_kM 5 = true := by decide +kernel
set_option maxRecDepth 100000 in
theorem dr_tM6 : dr_ck dr_kM 6 = true := by decide +kernel
set_option maxRecDepth 100000 in
theorem dr_tM7 : dr_ck dr_kM 7 = true := by decide +kernel
theorem dr_tM (n : Nat) (hn : 1 ≤ n ∧ n ≤ 255) : dr_kM n = true := dr_ck_all dr_tM0 dr_tM1 dr_tM2 dr_tM3 dr_tM4 dr_tM5 dr_tM6 dr_tM7 n hn
theorem dr_pc : ((List.range 255).all fun i => Nat.ble 1 (pcn (i + 1)) && Nat.ble (pcn (i + 1)) 8) = true := by decide +kernel
def dr_lC (t lo hi : Nat) (x : Int32) (H : List ab_C) : Bool := ab_fwd dr_cC (pv_rw 122) dr_jC 4000 15 ((lo, hi), (dr_15 t).2) 9999 9999 ab_off [(0, ab_n x, ab_n x)] H && H.length == 79
def dr_lM (t lo hi : Nat) (x : Int32) (H : List ab_C) : Bool := ab_fwd dr_cM (pv_rw 235) dr_jM 4000 41 ((lo, hi), (dr_41 t).2) 9999 9999 ab_off [(0, ab_n x, ab_n x)] H && H.length == 64
def dr_lo (t lo hi : Nat) : Bool := ab_fwd dr_cM (pv_rw 235) dr_jM 4000 41 ((lo, hi), (dr_41 t).2) 82 9999 (dr_8a t lo hi) [(9, 0, 0), (9, 0, 0)] [] && (ab_fwd dr_cM (pv_rw 235) dr_jM 4000 82 (dr_8a t lo hi) 82 7 (dr_8b t lo hi) [(9, 0, 0), (9, 0, 0)] [] && (ab_rnd dr_cM (pv_rw 235) dr_jM 4000 82 7 (dr_8b t lo hi) [(0, ab_n 0, ab_n 0)] dr_Hb && dr_Hb.length == 64))
theorem dr_C {n lo hi : Nat} {x : Int32} {H : List ab_C} {a b c : Int32} (h1 : 2147483648 ≤ ab_n a ∧ ab_n a ≤ 2147483684) (hb : ab_n b = n + 2147483648) (hn : 1 ≤ n ∧ n ≤ 255) (hc : lo ≤ ab_n c ∧ ab_n c ≤ hi) (e : dr_lC (pcn n) lo hi x H = true) (f : Nat → Nat → Int32) (g : Nat → Nat → Int64) (hF : fr_ok vlC f) : wR 12 122 [.ref 0, .int a, .int b, .int c] (gC f g) (fun v h => v = some (.int x) ∧ h.length = 79) := by
  unfold dr_lC at e
  simp only [Bool.and_eq_true, beq_iff_eq] at e
  have ht := dr_tC n hn
  unfold dr_kC at ht
  refine wR_rw rfl (Nat.le_of_ble_eq_true rfl) (ab_fwd2_ok dr_cC_ok ht (ab_n c) (fun lo' st' h' hs' => ?_) _ _ _ ⟨⟨Nat.zero_le _, by have := ab_n_lt c; show ab_n c ≤ 4294967295; omega⟩, ab_args_ok 0 (vs := [.ref 0, .int a, .int b, .int c]) ⟨rfl, ⟨a, rfl, h1⟩, ⟨b, rfl, by unfold ab_in; simp only; omega⟩, ⟨c, rfl, (Nat.add_zero _).symm⟩, trivial⟩, trivial, ab_freC hF ab_aC_ok _⟩)
  exact ab_end x dr_cC_ok e.1 e.2 (ab_n c) lo' st' h' ⟨hc, hs'.2⟩
theorem dr_M1 {n : Nat} {Q : Option Value → pv_H → Prop} {a b c : Int32} (h1 : 2147483648 ≤ ab_n a ∧ ab_n a ≤ 2147483684) (hb : ab_n b = n + 2147483648) (hn : 1 ≤ n ∧ n ≤ 255) (h4 : pcn n ≤ 4) (e : ∀ lo st h, ab_gs (ab_n c) (dr_41 (pcn n)) lo st h → wG 11 (pv_rw 235) 41 lo st h Q) (f : Nat → Nat → Int32) (g : Nat → Nat → Int64) (hF : fr_ok vlM f) : wR 12 235 [.ref 0, .int a, .int b, .int c] (gM f g) Q := by
  have ht := dr_tM n hn
  unfold dr_kM at ht
  rw [Nat.ble_eq.mpr h4, cond_true] at ht
  exact wR_rw rfl (Nat.le_of_ble_eq_true rfl) (ab_fwd2_ok dr_cM_ok ht (ab_n c) e _ _ _ ⟨⟨Nat.zero_le _, by have := ab_n_lt c; show ab_n c ≤ 4294967295; omega⟩, ab_args_ok 0 (vs := [.ref 0, .int a, .int b, .int c]) ⟨rfl, ⟨a, rfl, h1⟩, ⟨b, rfl, by unfold ab_in; simp only; omega⟩, ⟨c, rfl, (Nat.add_zero _).symm⟩, trivial⟩, trivial, ab_freM hF dr_aM_ok _⟩)
theorem dr_M5 {n : Nat} {a b c : Int32} (h1 : 2147483648 ≤ ab_n a ∧ ab_n a ≤ 2147483684) (hb : ab_n b = n + 2147483648) (hn : 1 ≤ n ∧ n ≤ 255) (h4 : ¬ pcn n ≤ 4) (f : Nat → Nat → Int32) (g : Nat → Nat → Int64) (hF : fr_ok vlM f) : wR 12 235 [.ref 0, .int a, .int b, .int c] (gM f g) (fun v h => v = some (.int (-2)) ∧ h.length = 64) := by
  have ht := dr_tM n hn
  unfold dr_kM at ht
  have hf : Nat.ble (pcn n) 4 = false := by
    cases q : Nat.ble (pcn n) 4 with
    | false => rfl
    | true => exact absurd (Nat.ble_eq.mp q) h4
  rw [hf, cond_false] at ht
  exact wR_rw rfl (Nat.le_of_ble_eq_true rfl) (ab_end (-2) dr_cM_ok ht (by decide +kernel) (ab_n c) _ _ _ ⟨⟨Nat.zero_le _, by have := ab_n_lt c; show ab_n c ≤ 4294967295; omega⟩, ab_args_ok 0 (vs := [.ref 0, .int a, .int b, .int c]) ⟨rfl, ⟨a, rfl, h1⟩, ⟨b, rfl, by unfold ab_in; simp only; omega⟩, ⟨c, rfl, (Nat.add_zero _).symm⟩, trivial⟩, trivial, ab_freM hF dr_aM_ok _⟩)
theorem dr_bad {n lo hi : Nat} {a b c : Int32} (h1 : 2147483648 ≤ ab_n a ∧ ab_n a ≤ 2147483684) (hb : ab_n b = n + 2147483648) (hn : 1 ≤ n ∧ n ≤ 255) (h4 : pcn n ≤ 4) (hc : lo ≤ ab_n c ∧ ab_n c ≤ hi) (e : (dr_lC (pcn n) lo hi (-2) ab_aC && dr_lM (pcn n) lo hi (-2) dr_Ha) = true) : eqv 122 235 [.ref 0, .int a, .int b, .int c] := by
  simp only [Bool.and_eq_true] at e
  refine ⟨-2, dr_C h1 hb hn hc e.1, dr_M1 h1 hb hn h4 (fun lo' st' h' hs' => ?_)⟩
  have e2 := e.2
  unfold dr_lM at e2
  simp only [Bool.and_eq_true, beq_iff_eq] at e2
  exact ab_end (-2) dr_cM_ok e2.1 e2.2 (ab_n c) lo' st' h' ⟨hc, hs'.2⟩
theorem dr_good {n lo hi : Nat} {a b c : Int32} (h1 : 2147483648 ≤ ab_n a ∧ ab_n a ≤ 2147483684) (hb : ab_n b = n + 2147483648) (hn : 1 ≤ n ∧ n ≤ 255) (h4 : pcn n ≤ 4) (hc : lo ≤ ab_n c ∧ ab_n c ≤ hi) (e : (dr_lC (pcn n) lo hi 0 dr_H0 && dr_lo (pcn n) lo hi) = true) : eqv 122 235 [.ref 0, .int a, .int b, .int c] := by
  simp only [Bool.and_eq_true] at e
  refine ⟨0, dr_C h1 hb hn hc e.1, dr_M1 h1 hb hn h4 (fun lo' st' h' hs' => ?_)⟩
  have e2 := e.2
  unfold dr_lo at e2
  simp only [Bool.and_eq_true, beq_iff_eq] at e2
  refine ab_to dr_cM_ok e2.1 (ab_to dr_cM_ok e2.2.1 (ab_rnd_end 0 dr_cM_ok e2.2.2.1 e2.2.2.2)) (ab_n c) lo' st' h' ⟨hc, hs'.2⟩
theorem dr_five {n : Nat} {a b c : Int32} (h1 : 2147483648 ≤ ab_n a ∧ ab_n a ≤ 2147483684) (hb : ab_n b = n + 2147483648) (hn : 1 ≤ n ∧ n ≤ 255) (h4 : ¬ pcn n ≤ 4) (e : dr_lC (pcn n) 0 4294967295 (-2) ab_aC = true) : eqv 122 235 [.ref 0, .int a, .int b, .int c] :=
  ⟨-2, dr_C h1 hb hn ⟨Nat.zero_le _, by have := ab_n_lt c; omega⟩ e, dr_M5 h1 hb hn h4⟩
set_option maxRecDepth 100000 in
theorem eq_drought (a b c : Int32) : eqv 122 235 [.ref 0, .int a, .int b, .int c] := by
  have la := ab_n_lt a
  have lb := ab_n_lt b
  have lc := ab_n_lt c
  by_cases c0 : ab_n a < 2147483648
  · exact eqv_int (as := [(3, 0, 0), (0, 0, 2147483647), (0, 0, 4294967295), (0, 0, 4294967295)]) (-2) (by decide +kernel) ⟨ab_ref0, ab_arg (p := (0, 2147483647)) (by omega) (by omega), ab_arg (p := (0, 4294967295)) (by omega) (by omega), ab_arg (p := (0, 4294967295)) (by omega) (by omega), trivial⟩
  by_cases c1 : 2147483684 < ab_n a
  · exact eqv_int (as := [(3, 0, 0), (0, 2147483685, 4294967295), (0, 0, 4294967295), (0, 0, 4294967295)]) (-2) (by decide +kernel) ⟨ab_ref0, ab_arg (p := (2147483685, 4294967295)) (by omega) (by omega), ab_arg (p := (0, 4294967295)) (by omega) (by omega), ab_arg (p := (0, 4294967295)) (by omega) (by omega), trivial⟩
  by_cases c2 : ab_n b < 2147483649
  · exact eqv_int (as := [(3, 0, 0), (0, 2147483648, 2147483684), (0, 0, 2147483648), (0, 0, 4294967295)]) (-2) (by decide +kernel) ⟨ab_ref0, ab_arg (p := (2147483648, 2147483684)) (by omega) (by omega), ab_arg (p := (0, 2147483648)) (by omega) (by omega), ab_arg (p := (0, 4294967295)) (by omega) (by omega), trivial⟩
  by_cases c3 : 2147483903 < ab_n b
  · exact eqv_int (as := [(3, 0, 0), (0, 2147483648, 2147483684), (0, 2147483904, 4294967295), (0, 0, 4294967295)]) (-2) (by decide +kernel) ⟨ab_ref0, ab_arg (p := (2147483648, 2147483684)) (by omega) (by omega), ab_arg (p := (2147483904, 4294967295)) (by omega) (by omega), ab_arg (p := (0, 4294967295)) (by omega) (by omega), trivial⟩
  obtain ⟨n, hb⟩ : ∃ n, ab_n b = n + 2147483648 := ⟨ab_n b - 2147483648, by omega⟩
  have h1 : 2147483648 ≤ ab_n a ∧ ab_n a ≤ 2147483684 := by omega
  have hn : 1 ≤ n ∧ n ≤ 255 := by omega
  have hp := List.all_eq_true.mp dr_pc (n - 1) (List.mem_range.mpr (by omega))
  rw [show n - 1 + 1 = n by omega, Bool.and_eq_true, Nat.ble_eq, Nat.ble_eq] at hp
  by_cases t1 : pcn n = 1
  · by_cases d0 : ab_n c < 2147483647
    · exact dr_bad (lo := 0) (hi := 2147483646) h1 hb hn (by omega) (by omega) (by rw [t1]; decide +kernel)
    by_cases d1 : ab_n c < 2147483648
    · exact dr_good (lo := 2147483647) (hi := 2147483647) h1 hb hn (by omega) (by omega) (by rw [t1]; decide +kernel)
    by_cases d2 : ab_n c < 2147483649
    · exact dr_good (lo := 2147483648) (hi := 2147483648) h1 hb hn (by omega) (by omega) (by rw [t1]; decide +kernel)
    · exact dr_bad (lo := 2147483649) (hi := 4294967295) h1 hb hn (by omega) (by omega) (by rw [t1]; decide +kernel)
  by_cases t2 : pcn n = 2
  · by_cases d0 : ab_n c < 2147483647
    · exact dr_bad (lo := 0) (hi := 2147483646) h1 hb hn (by omega) (by omega) (by rw [t2]; decide +kernel)
    by_cases d1 : ab_n c < 2147483648
    · exact dr_good (lo := 2147483647) (hi := 2147483647) h1 hb hn (by omega) (by omega) (by rw [t2]; decide +kernel)
    by_cases d2 : ab_n c < 2147483650
    · exact dr_good (lo := 2147483648) (hi := 2147483649) h1 hb hn (by omega) (by omega) (by rw [t2]; decide +kernel)
    · exact dr_bad (lo := 2147483650) (hi := 4294967295) h1 hb hn (by omega) (by omega) (by rw [t2]; decide +kernel)
  by_cases t3 : pcn n = 3
  · by_cases d0 : ab_n c < 2147483647
    · exact dr_bad (lo := 0) (hi := 2147483646) h1 hb hn (by omega) (by omega) (by rw [t3]; decide +kernel)
    by_cases d1 : ab_n c < 2147483648
    · exact dr_good (lo := 2147483647) (hi := 2147483647) h1 hb hn (by omega) (by omega) (by rw [t3]; decide +kernel)
    by_cases d2 : ab_n c < 2147483651
    · exact dr_good (lo := 2147483648) (hi := 2147483650) h1 hb hn (by omega) (by omega) (by rw [t3]; decide +kernel)
    · exact dr_bad (lo := 2147483651) (hi := 4294967295) h1 hb hn (by omega) (by omega) (by rw [t3]; decide +kernel)
  by_cases t4 : pcn n = 4
  · by_cases d0 : ab_n c < 2147483647
    · exact dr_bad (lo := 0) (hi := 2147483646) h1 hb hn (by omega) (by omega) (by rw [t4]; decide +kernel)
    by_cases d1 : ab_n c < 2147483648
    · exact dr_good (lo := 2147483647) (hi := 2147483647) h1 hb hn (by omega) (by omega) (by rw [t4]; decide +kernel)
    by_cases d2 : ab_n c < 2147483652
    · exact dr_good (lo := 2147483648) (hi := 2147483651) h1 hb hn (by omega) (by omega) (by rw [t4]; decide +kernel)
    · exact dr_bad (lo := 2147483652) (hi := 4294967295) h1 hb hn (by omega) (by omega) (by rw [t4]; decide +kernel)
  by_cases t5 : pcn n = 5
  · exact dr_five h1 hb hn (by omega) (by rw [t5]; decide +kernel)
  by_cases t6 : pcn n = 6
  · exact dr_five h1 hb hn (by omega) (by rw [t6]; decide +kernel)
  by_cases t7 : pcn n = 7
  · exact dr_five h1 hb hn (by omega) (by rw [t7]; decide +kernel)
  by_cases t8 : pcn n = 8
  · exact dr_five h1 hb hn (by omega) (by rw [t8]; decide +kernel)
  omega

