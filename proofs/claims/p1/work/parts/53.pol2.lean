def ab_aCp : List ab_C := (ab_aC).set 69 (.inl (0, 24, (2147483648, 2147483648), List.replicate 24 (2147483648, 2147483648)))
def ab_aMp : List ab_C := ((((ab_aM).set 54 (.inl (3, 8, (0, 18446744073709551615), List.replicate 8 (0, 18446744073709551615)))).set 55 (.inl (3, 8, (0, 18446744073709551615), List.replicate 8 (0, 18446744073709551615)))).set 56 (.inl (3, 8, (0, 18446744073709551615), List.replicate 8 (0, 18446744073709551615)))).set 57 (.inl (3, 8, (0, 18446744073709551615), List.replicate 8 (0, 18446744073709551615)))
theorem ab_aCp_ok : ab_chk vlC 0 shC ab_aCp = true := by decide +kernel
theorem ab_aMp_ok : ab_chk vlM 0 shM ab_aMp = true := by decide +kernel
def ab_hA : List ab_C := (ab_aCp).set 69 (.inl (0, 24, (2147483648, 2147483648), [(2147483648, 2147483649), (2147483648, 2147483648), (2147483648, 2147483648), (2147483648, 2147483649), (2147483648, 2147483648), (2147483648, 2147483648), (2147483648, 2147483649), (2147483648, 2147483648), (2147483648, 2147483648), (2147483648, 2147483649), (2147483648, 2147483648), (2147483648, 2147483648), (2147483648, 2147483649), (2147483648, 2147483648), (2147483648, 2147483648), (2147483648, 2147483649), (2147483648, 2147483648), (2147483648, 2147483648), (2147483648, 2147483649), (2147483648, 2147483648), (2147483648, 2147483648), (2147483648, 2147483649), (2147483648, 2147483648), (2147483648, 2147483648)]))
def ab_hF : List ab_C := (((ab_aCp).set 68 (.inr (8, [(3, 69, 0), (3, 70, 0), (0, 2147483648, 2147483648), (0, 2147483649, 2147483649)]))).set 69 (.inl (0, 24, (0, 4294967295), []))).set 70 (.inl (0, 24, (0, 4294967295), []))
def pl_e1 : ab_E := (1, 81, [(3, 68, 0), (0, 2147483648, 2147483655), (0, 2147483648, 2147483648), (0, 2147483649, 2147483649), (0, 2147483648, 2147483655), (0, 2147483648, 2147483648)], ab_aCp, [], ab_hA)
def pl_e2 : ab_E := (2, 80, [(3, 68, 0), (0, 2147483648, 2147483655), (0, 2147483648, 2147483655), (0, 2147483648, 2147483648), (0, 2147483649, 2147483660)], ab_aCp, [], ab_hF)
set_option maxRecDepth 100000 in
theorem pl_e1_val : ab_val pl_e1 := ab_val_of (es := []) (jt := ab_jt) (F := 4000) _ ab_nil (by decide +kernel) (by decide +kernel) (ab_cov 1 2147483648 7 rfl rfl)
def pl_S (i : Nat) : ab_S := ((bif i == 0 then 2147483649 else i + 2147483648, 2147483660), [(0, (3, 68, 0)), (1, (0, 2147483648, 2147483655)), (2, (0, 2147483648, 2147483655)), (3, (0, 2147483648, 2147483648)), (4, (1, 0, 0)), (5, (0, i + 2147483648, i + 2147483648))], [], ((ab_aCp.set 68 (.inr (8, [(3, 69, 0), (3, 70, 0), (0, 2147483648, 2147483648), (0, 3 ^ i + 2147483648, 3 ^ i + 2147483648)]))).set 69 (.inl (0, 24, (2147483648, 2147483648), (List.range 24).map (fun k => (2147483648, bif k % 3 == 0 then 3 ^ i + 2147483648 else 2147483648))))).set 70 (.inl (0, 24, (0, 4294967295), [])))
def pl_cl : ab_K := ab_run [pl_e1] ab_jt 4000 1
theorem pl_cl_ok : ab_cl 1 pl_cl := ab_run_ok (ab_one1 pl_e1_val) 1
def pl_jn : List (Nat × Nat) := [(35, 86), (101, 117)]
def pl_rd (i : Nat) : Bool := ab_fwd pl_cl (pv_rw 80) pl_jn 4000 16 (pl_S i) 16 4 (pl_S (i + 1)) [] ab_hF
set_option maxRecDepth 100000 in
theorem pl_rd0 : pl_rd 0 = true := by decide +kernel
set_option maxRecDepth 100000 in
theorem pl_rd1 : pl_rd 1 = true := by decide +kernel
set_option maxRecDepth 100000 in
theorem pl_rd2 : pl_rd 2 = true := by decide +kernel
set_option maxRecDepth 100000 in
theorem pl_rd3 : pl_rd 3 = true := by decide +kernel
set_option maxRecDepth 100000 in
theorem pl_rd4 : pl_rd 4 = true := by decide +kernel
set_option maxRecDepth 100000 in
theorem pl_rd5 : pl_rd 5 = true := by decide +kernel
set_option maxRecDepth 100000 in
theorem pl_rd6 : pl_rd 6 = true := by decide +kernel
set_option maxRecDepth 100000 in
theorem pl_rd7 : pl_rd 7 = true := by decide +kernel
set_option maxRecDepth 100000 in
theorem pl_rd8 : pl_rd 8 = true := by decide +kernel
set_option maxRecDepth 100000 in
theorem pl_rd9 : pl_rd 9 = true := by decide +kernel
set_option maxRecDepth 100000 in
theorem pl_rd10 : pl_rd 10 = true := by decide +kernel
set_option maxRecDepth 100000 in
theorem pl_rd11 : pl_rd 11 = true := by decide +kernel
set_option maxRecDepth 100000 in
theorem pl_rd12 : pl_rd 12 = true := by decide +kernel
set_option maxRecDepth 100000 in
theorem pl_in : ab_fwd pl_cl (pv_rw 80) pl_jn 4000 0 ((2147483649, 2147483660), ab_args 0 [(3, 68, 0), (0, 2147483648, 2147483655), (0, 2147483648, 2147483655), (0, 2147483648, 2147483648), (1, 0, 0)], [], ab_aCp) 16 4 (pl_S 0) [(9, 0, 0), (9, 0, 0)] [] = true := by decide +kernel
def pl_Q (g : Nat) : Option Value → pv_H → Prop := fun w h1 => ab_all2 (ab_gv g) [] w.toList ∧ ab_all2 (ab_gc g) ab_hF h1
theorem pl_tl : ab_tl ab_hF = true := by decide +kernel
theorem pl_tlp : ab_tl ab_aCp = true := by decide +kernel
theorem pl_Q0 {g : Nat} (w : Option Value) (h : pv_H) (h1 : ab_all2 (ab_gv 0) [] w.toList) (h2 : ab_all2 (ab_gc 0) ab_hF h) : pl_Q g w h := ⟨ab_all_tl rfl h1, ab_tl_ok pl_tl h2⟩
theorem pl_nx {g0 i : Nat} (e : pl_rd i = true) (k : ∀ g lo st h, ab_gs g (pl_S (i + 1)) lo st h → wG 1 (pv_rw 80) 16 lo st h (pl_Q g0)) : ∀ g lo st h, ab_gs g (pl_S i) lo st h → wG 1 (pv_rw 80) 16 lo st h (pl_Q g0) := ab_fwd_ok pl_cl_ok e pl_Q0 k
theorem pl_13 {g0 : Nat} : ∀ g lo st h, ab_gs g (pl_S 13) lo st h → wG 1 (pv_rw 80) 16 lo st h (pl_Q g0) := by
  intro g lo st h hs
  have h1 : 13 + 2147483648 ≤ g := hs.1.1
  have h2 : g ≤ 2147483660 := hs.1.2
  omega
theorem pl_e2_val : ab_val pl_e2 := by
  intro g as hh h1 h2
  obtain ⟨g', q1, q2⟩ := ab_ent1 h1 rfl 4 2147483649 2147483660 rfl
  have h3 := ab_ct_sum h1
  refine wR_rw rfl (by rw [h3]; decide) (ab_to pl_cl_ok pl_in (pl_nx pl_rd0 (pl_nx pl_rd1 (pl_nx pl_rd2 (pl_nx pl_rd3 (pl_nx pl_rd4 (pl_nx pl_rd5 (pl_nx pl_rd6 (pl_nx pl_rd7 (pl_nx pl_rd8 (pl_nx pl_rd9 (pl_nx pl_rd10 (pl_nx pl_rd11 (pl_nx pl_rd12 pl_13))))))))))))) g' _ _ hh ⟨q1, ab_args_ok 0 q2, trivial, ab_tl_ok pl_tlp h2⟩)
def pl_Hm : List ab_C := (ab_aMp).set 55 (.inl (3, 8, (0, 18446744073709551615), List.replicate 8 (0, 0)))
def pl_f : ab_E := (4, 227, [(3, 0, 0)], pl_Hm, [], pl_Hm)
def pl_u : ab_E := (4, 225, [(3, 0, 0), (0, 2147483648, 2147483655), (0, 2147483648, 2147483653)], pl_Hm, [(2, 0, 0)], pl_Hm)
set_option maxRecDepth 100000 in
theorem pl_f_val : ab_val pl_f := ab_val_of (es := []) (jt := ab_jt) (F := 4000) _ ab_nil (by decide +kernel) (by decide +kernel) (ab_cov0 rfl)
set_option maxRecDepth 100000 in
theorem pl_u_val : ab_val pl_u := ab_val_of (es := []) (jt := ab_jt) (F := 4000) _ ab_nil (by decide +kernel) (by decide +kernel) (ab_cov0 rfl)
set_option maxRecDepth 100000 in
theorem pol_m0 : ab_is [pl_f, pl_u] ab_jt 60000 12 229 [(3, 0, 0), (0, 2147483648, 2147483655), (0, 2147483648, 2147483655), (0, 2147483648, 2147483653), (1, 0, 0), (0, 2147483648, 2147483648)] (2147483649, 2147483660) ab_aMp 2 (ab_m 0) = true := by decide +kernel
set_option maxRecDepth 100000 in
theorem pol_m1 : ab_is [pl_f, pl_u] ab_jt 60000 12 229 [(3, 0, 0), (0, 2147483648, 2147483655), (0, 2147483648, 2147483655), (0, 2147483648, 2147483653), (1, 0, 0), (0, 2147483649, 2147483649)] (2147483649, 2147483660) ab_aMp 2 (ab_m 1) = true := by decide +kernel
set_option maxRecDepth 100000 in
theorem eq_pollen (a b c e i : Int32) : eqvL 119 229 [.ref 0, .int a, .int b, .int c, .int e, .int i] := by
  have la := ab_n_lt a
  have lb := ab_n_lt b
  have lc := ab_n_lt c
  have le := ab_n_lt e
  have li := ab_n_lt i
  by_cases c0_0 : ab_n a < 2147483648
  · skip
    exact eqv_lng (FC := 4000) (FM := 4000) (esC := []) (esM := []) (asC := ([(3, 0, 0), (0, 0, 2147483647), (0, 0, 4294967295), (0, 0, 4294967295), (0, 0, 4294967295), (0, 0, 4294967295)] : List ab_V)) (asM := ([(3, 0, 0), (0, 0, 2147483647), (0, 0, 4294967295), (0, 0, 4294967295), (0, 0, 4294967295), (0, 0, 4294967295)] : List ab_V)) (GC := (0, 0)) (GM := (0, 0)) (g1 := 0) (g2 := 0) (-1) ab_nil ab_nil ab_aC_ok ab_aM_ok (by decide +kernel) (by decide +kernel) ab_z0 ⟨ab_ref0, ab_arg (p := (0, 2147483647)) (by omega) (by omega), ab_arg (p := (0, 4294967295)) (by omega) (by omega), ab_arg (p := (0, 4294967295)) (by omega) (by omega), ab_arg (p := (0, 4294967295)) (by omega) (by omega), ab_arg (p := (0, 4294967295)) (by omega) (by omega), trivial⟩ ab_z0 ⟨ab_ref0, ab_arg (p := (0, 2147483647)) (by omega) (by omega), ab_arg (p := (0, 4294967295)) (by omega) (by omega), ab_arg (p := (0, 4294967295)) (by omega) (by omega), ab_arg (p := (0, 4294967295)) (by omega) (by omega), ab_arg (p := (0, 4294967295)) (by omega) (by omega), trivial⟩
  · skip
    by_cases c0_1 : ab_n a < 2147483656
    · skip
      by_cases c1_0 : ab_n b < 2147483648
      · skip
        exact eqv_lng (FC := 4000) (FM := 4000) (esC := []) (esM := []) (asC := ([(3, 0, 0), (0, 2147483648, 2147483655), (0, 0, 2147483647), (0, 0, 4294967295), (0, 0, 4294967295), (0, 0, 4294967295)] : List ab_V)) (asM := ([(3, 0, 0), (0, 2147483648, 2147483655), (0, 0, 2147483647), (0, 0, 4294967295), (0, 0, 4294967295), (0, 0, 4294967295)] : List ab_V)) (GC := (0, 0)) (GM := (0, 0)) (g1 := 0) (g2 := 0) (-1) ab_nil ab_nil ab_aC_ok ab_aM_ok (by decide +kernel) (by decide +kernel) ab_z0 ⟨ab_ref0, ab_arg (p := (2147483648, 2147483655)) (by omega) (by omega), ab_arg (p := (0, 2147483647)) (by omega) (by omega), ab_arg (p := (0, 4294967295)) (by omega) (by omega), ab_arg (p := (0, 4294967295)) (by omega) (by omega), ab_arg (p := (0, 4294967295)) (by omega) (by omega), trivial⟩ ab_z0 ⟨ab_ref0, ab_arg (p := (2147483648, 2147483655)) (by omega) (by omega), ab_arg (p := (0, 2147483647)) (by omega) (by omega), ab_arg (p := (0, 4294967295)) (by omega) (by omega), ab_arg (p := (0, 4294967295)) (by omega) (by omega), ab_arg (p := (0, 4294967295)) (by omega) (by omega), trivial⟩
      · skip
        by_cases c1_1 : ab_n b < 2147483656
        · skip
          by_cases c2_0 : ab_n c < 2147483648
          · skip
            exact eqv_lng (FC := 4000) (FM := 4000) (esC := []) (esM := []) (asC := ([(3, 0, 0), (0, 2147483648, 2147483655), (0, 2147483648, 2147483655), (0, 0, 2147483647), (0, 0, 4294967295), (0, 0, 4294967295)] : List ab_V)) (asM := ([(3, 0, 0), (0, 2147483648, 2147483655), (0, 2147483648, 2147483655), (0, 0, 2147483647), (0, 0, 4294967295), (0, 0, 4294967295)] : List ab_V)) (GC := (0, 0)) (GM := (0, 0)) (g1 := 0) (g2 := 0) (-1) ab_nil ab_nil ab_aC_ok ab_aM_ok (by decide +kernel) (by decide +kernel) ab_z0 ⟨ab_ref0, ab_arg (p := (2147483648, 2147483655)) (by omega) (by omega), ab_arg (p := (2147483648, 2147483655)) (by omega) (by omega), ab_arg (p := (0, 2147483647)) (by omega) (by omega), ab_arg (p := (0, 4294967295)) (by omega) (by omega), ab_arg (p := (0, 4294967295)) (by omega) (by omega), trivial⟩ ab_z0 ⟨ab_ref0, ab_arg (p := (2147483648, 2147483655)) (by omega) (by omega), ab_arg (p := (2147483648, 2147483655)) (by omega) (by omega), ab_arg (p := (0, 2147483647)) (by omega) (by omega), ab_arg (p := (0, 4294967295)) (by omega) (by omega), ab_arg (p := (0, 4294967295)) (by omega) (by omega), trivial⟩
          · skip
            by_cases c2_1 : ab_n c < 2147483654
            · skip
              by_cases c3_0 : ab_n e < 2147483649
              · skip
                exact eqv_lng (FC := 4000) (FM := 4000) (esC := []) (esM := []) (asC := ([(3, 0, 0), (0, 2147483648, 2147483655), (0, 2147483648, 2147483655), (0, 2147483648, 2147483653), (0, 0, 2147483648), (0, 0, 4294967295)] : List ab_V)) (asM := ([(3, 0, 0), (0, 2147483648, 2147483655), (0, 2147483648, 2147483655), (0, 2147483648, 2147483653), (0, 0, 2147483648), (0, 0, 4294967295)] : List ab_V)) (GC := (0, 0)) (GM := (0, 0)) (g1 := 0) (g2 := 0) (-1) ab_nil ab_nil ab_aC_ok ab_aM_ok (by decide +kernel) (by decide +kernel) ab_z0 ⟨ab_ref0, ab_arg (p := (2147483648, 2147483655)) (by omega) (by omega), ab_arg (p := (2147483648, 2147483655)) (by omega) (by omega), ab_arg (p := (2147483648, 2147483653)) (by omega) (by omega), ab_arg (p := (0, 2147483648)) (by omega) (by omega), ab_arg (p := (0, 4294967295)) (by omega) (by omega), trivial⟩ ab_z0 ⟨ab_ref0, ab_arg (p := (2147483648, 2147483655)) (by omega) (by omega), ab_arg (p := (2147483648, 2147483655)) (by omega) (by omega), ab_arg (p := (2147483648, 2147483653)) (by omega) (by omega), ab_arg (p := (0, 2147483648)) (by omega) (by omega), ab_arg (p := (0, 4294967295)) (by omega) (by omega), trivial⟩
              · skip
                by_cases c3_1 : ab_n e < 2147483661
                · skip
                  by_cases c4_0 : ab_n i < 2147483648
                  · skip
                    exact eqv_lng (FC := 4000) (FM := 4000) (esC := []) (esM := []) (asC := ([(3, 0, 0), (0, 2147483648, 2147483655), (0, 2147483648, 2147483655), (0, 2147483648, 2147483653), (0, 2147483649, 2147483660), (0, 0, 2147483647)] : List ab_V)) (asM := ([(3, 0, 0), (0, 2147483648, 2147483655), (0, 2147483648, 2147483655), (0, 2147483648, 2147483653), (0, 2147483649, 2147483660), (0, 0, 2147483647)] : List ab_V)) (GC := (0, 0)) (GM := (0, 0)) (g1 := 0) (g2 := 0) (-1) ab_nil ab_nil ab_aC_ok ab_aM_ok (by decide +kernel) (by decide +kernel) ab_z0 ⟨ab_ref0, ab_arg (p := (2147483648, 2147483655)) (by omega) (by omega), ab_arg (p := (2147483648, 2147483655)) (by omega) (by omega), ab_arg (p := (2147483648, 2147483653)) (by omega) (by omega), ab_arg (p := (2147483649, 2147483660)) (by omega) (by omega), ab_arg (p := (0, 2147483647)) (by omega) (by omega), trivial⟩ ab_z0 ⟨ab_ref0, ab_arg (p := (2147483648, 2147483655)) (by omega) (by omega), ab_arg (p := (2147483648, 2147483655)) (by omega) (by omega), ab_arg (p := (2147483648, 2147483653)) (by omega) (by omega), ab_arg (p := (2147483649, 2147483660)) (by omega) (by omega), ab_arg (p := (0, 2147483647)) (by omega) (by omega), trivial⟩
                  · skip
                    by_cases c4_1 : ab_n i < 2147483649
                    · skip
                      exact eqv_lng (FC := 60000) (FM := 60000) (esC := [pl_e2]) (esM := [pl_f, pl_u]) (asC := ([(3, 0, 0), (0, 2147483648, 2147483655), (0, 2147483648, 2147483655), (0, 2147483648, 2147483653), (0, 2147483649, 2147483660), (0, 2147483648, 2147483648)] : List ab_V)) (asM := ([(3, 0, 0), (0, 2147483648, 2147483655), (0, 2147483648, 2147483655), (0, 2147483648, 2147483653), (1, 0, 0), (0, 2147483648, 2147483648)] : List ab_V)) (GC := (0, 0)) (GM := (2147483649, 2147483660)) (g1 := 0) (g2 := ab_n e) 0 (ab_one1 pl_e2_val) (ab_cons1 pl_f_val (ab_one1 pl_u_val)) ab_aCp_ok ab_aMp_ok (by decide +kernel) pol_m0 ab_z0 ⟨ab_ref0, ab_arg (p := (2147483648, 2147483655)) (by omega) (by omega), ab_arg (p := (2147483648, 2147483655)) (by omega) (by omega), ab_arg (p := (2147483648, 2147483653)) (by omega) (by omega), ab_arg (p := (2147483649, 2147483660)) (by omega) (by omega), ab_arg (p := (2147483648, 2147483648)) (by omega) (by omega), trivial⟩ ⟨by omega, by omega⟩ ⟨rfl, ⟨a, rfl, by omega, by omega⟩, ⟨b, rfl, by omega, by omega⟩, ⟨c, rfl, by omega, by omega⟩, ⟨e, rfl, (Nat.add_zero _).symm⟩, ⟨i, rfl, by omega, by omega⟩, trivial⟩
                    · skip
                      by_cases c4_2 : ab_n i < 2147483650
                      · skip
                        exact eqv_lng (FC := 60000) (FM := 60000) (esC := [pl_e2]) (esM := [pl_f, pl_u]) (asC := ([(3, 0, 0), (0, 2147483648, 2147483655), (0, 2147483648, 2147483655), (0, 2147483648, 2147483653), (0, 2147483649, 2147483660), (0, 2147483649, 2147483649)] : List ab_V)) (asM := ([(3, 0, 0), (0, 2147483648, 2147483655), (0, 2147483648, 2147483655), (0, 2147483648, 2147483653), (1, 0, 0), (0, 2147483649, 2147483649)] : List ab_V)) (GC := (0, 0)) (GM := (2147483649, 2147483660)) (g1 := 0) (g2 := ab_n e) 1 (ab_one1 pl_e2_val) (ab_cons1 pl_f_val (ab_one1 pl_u_val)) ab_aCp_ok ab_aMp_ok (by decide +kernel) pol_m1 ab_z0 ⟨ab_ref0, ab_arg (p := (2147483648, 2147483655)) (by omega) (by omega), ab_arg (p := (2147483648, 2147483655)) (by omega) (by omega), ab_arg (p := (2147483648, 2147483653)) (by omega) (by omega), ab_arg (p := (2147483649, 2147483660)) (by omega) (by omega), ab_arg (p := (2147483649, 2147483649)) (by omega) (by omega), trivial⟩ ⟨by omega, by omega⟩ ⟨rfl, ⟨a, rfl, by omega, by omega⟩, ⟨b, rfl, by omega, by omega⟩, ⟨c, rfl, by omega, by omega⟩, ⟨e, rfl, (Nat.add_zero _).symm⟩, ⟨i, rfl, by omega, by omega⟩, trivial⟩
                      · skip
                        exact eqv_lng (FC := 4000) (FM := 4000) (esC := []) (esM := []) (asC := ([(3, 0, 0), (0, 2147483648, 2147483655), (0, 2147483648, 2147483655), (0, 2147483648, 2147483653), (0, 2147483649, 2147483660), (0, 2147483650, 4294967295)] : List ab_V)) (asM := ([(3, 0, 0), (0, 2147483648, 2147483655), (0, 2147483648, 2147483655), (0, 2147483648, 2147483653), (0, 2147483649, 2147483660), (0, 2147483650, 4294967295)] : List ab_V)) (GC := (0, 0)) (GM := (0, 0)) (g1 := 0) (g2 := 0) (-1) ab_nil ab_nil ab_aC_ok ab_aM_ok (by decide +kernel) (by decide +kernel) ab_z0 ⟨ab_ref0, ab_arg (p := (2147483648, 2147483655)) (by omega) (by omega), ab_arg (p := (2147483648, 2147483655)) (by omega) (by omega), ab_arg (p := (2147483648, 2147483653)) (by omega) (by omega), ab_arg (p := (2147483649, 2147483660)) (by omega) (by omega), ab_arg (p := (2147483650, 4294967295)) (by omega) (by omega), trivial⟩ ab_z0 ⟨ab_ref0, ab_arg (p := (2147483648, 2147483655)) (by omega) (by omega), ab_arg (p := (2147483648, 2147483655)) (by omega) (by omega), ab_arg (p := (2147483648, 2147483653)) (by omega) (by omega), ab_arg (p := (2147483649, 2147483660)) (by omega) (by omega), ab_arg (p := (2147483650, 4294967295)) (by omega) (by omega), trivial⟩
                · skip
                  exact eqv_lng (FC := 4000) (FM := 4000) (esC := []) (esM := []) (asC := ([(3, 0, 0), (0, 2147483648, 2147483655), (0, 2147483648, 2147483655), (0, 2147483648, 2147483653), (0, 2147483661, 4294967295), (0, 0, 4294967295)] : List ab_V)) (asM := ([(3, 0, 0), (0, 2147483648, 2147483655), (0, 2147483648, 2147483655), (0, 2147483648, 2147483653), (0, 2147483661, 4294967295), (0, 0, 4294967295)] : List ab_V)) (GC := (0, 0)) (GM := (0, 0)) (g1 := 0) (g2 := 0) (-1) ab_nil ab_nil ab_aC_ok ab_aM_ok (by decide +kernel) (by decide +kernel) ab_z0 ⟨ab_ref0, ab_arg (p := (2147483648, 2147483655)) (by omega) (by omega), ab_arg (p := (2147483648, 2147483655)) (by omega) (by omega), ab_arg (p := (2147483648, 2147483653)) (by omega) (by omega), ab_arg (p := (2147483661, 4294967295)) (by omega) (by omega), ab_arg (p := (0, 4294967295)) (by omega) (by omega), trivial⟩ ab_z0 ⟨ab_ref0, ab_arg (p := (2147483648, 2147483655)) (by omega) (by omega), ab_arg (p := (2147483648, 2147483655)) (by omega) (by omega), ab_arg (p := (2147483648, 2147483653)) (by omega) (by omega), ab_arg (p := (2147483661, 4294967295)) (by omega) (by omega), ab_arg (p := (0, 4294967295)) (by omega) (by omega), trivial⟩
            · skip
              exact eqv_lng (FC := 4000) (FM := 4000) (esC := []) (esM := []) (asC := ([(3, 0, 0), (0, 2147483648, 2147483655), (0, 2147483648, 2147483655), (0, 2147483654, 4294967295), (0, 0, 4294967295), (0, 0, 4294967295)] : List ab_V)) (asM := ([(3, 0, 0), (0, 2147483648, 2147483655), (0, 2147483648, 2147483655), (0, 2147483654, 4294967295), (0, 0, 4294967295), (0, 0, 4294967295)] : List ab_V)) (GC := (0, 0)) (GM := (0, 0)) (g1 := 0) (g2 := 0) (-1) ab_nil ab_nil ab_aC_ok ab_aM_ok (by decide +kernel) (by decide +kernel) ab_z0 ⟨ab_ref0, ab_arg (p := (2147483648, 2147483655)) (by omega) (by omega), ab_arg (p := (2147483648, 2147483655)) (by omega) (by omega), ab_arg (p := (2147483654, 4294967295)) (by omega) (by omega), ab_arg (p := (0, 4294967295)) (by omega) (by omega), ab_arg (p := (0, 4294967295)) (by omega) (by omega), trivial⟩ ab_z0 ⟨ab_ref0, ab_arg (p := (2147483648, 2147483655)) (by omega) (by omega), ab_arg (p := (2147483648, 2147483655)) (by omega) (by omega), ab_arg (p := (2147483654, 4294967295)) (by omega) (by omega), ab_arg (p := (0, 4294967295)) (by omega) (by omega), ab_arg (p := (0, 4294967295)) (by omega) (by omega), trivial⟩
        · skip
          exact eqv_lng (FC := 4000) (FM := 4000) (esC := []) (esM := []) (asC := ([(3, 0, 0), (0, 2147483648, 2147483655), (0, 2147483656, 4294967295), (0, 0, 4294967295), (0, 0, 4294967295), (0, 0, 4294967295)] : List ab_V)) (asM := ([(3, 0, 0), (0, 2147483648, 2147483655), (0, 2147483656, 4294967295), (0, 0, 4294967295), (0, 0, 4294967295), (0, 0, 4294967295)] : List ab_V)) (GC := (0, 0)) (GM := (0, 0)) (g1 := 0) (g2 := 0) (-1) ab_nil ab_nil ab_aC_ok ab_aM_ok (by decide +kernel) (by decide +kernel) ab_z0 ⟨ab_ref0, ab_arg (p := (2147483648, 2147483655)) (by omega) (by omega), ab_arg (p := (2147483656, 4294967295)) (by omega) (by omega), ab_arg (p := (0, 4294967295)) (by omega) (by omega), ab_arg (p := (0, 4294967295)) (by omega) (by omega), ab_arg (p := (0, 4294967295)) (by omega) (by omega), trivial⟩ ab_z0 ⟨ab_ref0, ab_arg (p := (2147483648, 2147483655)) (by omega) (by omega), ab_arg (p := (2147483656, 4294967295)) (by omega) (by omega), ab_arg (p := (0, 4294967295)) (by omega) (by omega), ab_arg (p := (0, 4294967295)) (by omega) (by omega), ab_arg (p := (0, 4294967295)) (by omega) (by omega), trivial⟩
    · skip
      exact eqv_lng (FC := 4000) (FM := 4000) (esC := []) (esM := []) (asC := ([(3, 0, 0), (0, 2147483656, 4294967295), (0, 0, 4294967295), (0, 0, 4294967295), (0, 0, 4294967295), (0, 0, 4294967295)] : List ab_V)) (asM := ([(3, 0, 0), (0, 2147483656, 4294967295), (0, 0, 4294967295), (0, 0, 4294967295), (0, 0, 4294967295), (0, 0, 4294967295)] : List ab_V)) (GC := (0, 0)) (GM := (0, 0)) (g1 := 0) (g2 := 0) (-1) ab_nil ab_nil ab_aC_ok ab_aM_ok (by decide +kernel) (by decide +kernel) ab_z0 ⟨ab_ref0, ab_arg (p := (2147483656, 4294967295)) (by omega) (by omega), ab_arg (p := (0, 4294967295)) (by omega) (by omega), ab_arg (p := (0, 4294967295)) (by omega) (by omega), ab_arg (p := (0, 4294967295)) (by omega) (by omega), ab_arg (p := (0, 4294967295)) (by omega) (by omega), trivial⟩ ab_z0 ⟨ab_ref0, ab_arg (p := (2147483656, 4294967295)) (by omega) (by omega), ab_arg (p := (0, 4294967295)) (by omega) (by omega), ab_arg (p := (0, 4294967295)) (by omega) (by omega), ab_arg (p := (0, 4294967295)) (by omega) (by omega), ab_arg (p := (0, 4294967295)) (by omega) (by omega), trivial⟩
