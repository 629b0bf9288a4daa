set_option maxRecDepth 100000 in
theorem eq_seed (a : Int32) : eqv 102 159 [.ref 0, .int a] := by
  have la := ab_n_lt a
  by_cases c0_0 : ab_n a < 2147483648
  · exact eqv_int (as := [(3, 0, 0), (0, 0, 2147483647)]) (0) (by decide +kernel) ⟨ab_ref0, ab_arg (p := (0, 2147483647)) (by omega) (by omega), trivial⟩
  · skip
    by_cases c0_1 : ab_n a < 2147549184
    · exact eqv_int (as := [(3, 0, 0), (0, 2147483648, 2147549183)]) (1) (by decide +kernel) ⟨ab_ref0, ab_arg (p := (2147483648, 2147549183)) (by omega) (by omega), trivial⟩
    · skip
      exact eqv_int (as := [(3, 0, 0), (0, 2147549184, 4294967295)]) (0) (by decide +kernel) ⟨ab_ref0, ab_arg (p := (2147549184, 4294967295)) (by omega) (by omega), trivial⟩

set_option maxRecDepth 100000 in
theorem eq_valve (a b : Int32) : eqv 99 156 [.ref 0, .int a, .int b] := by
  have la := ab_n_lt a
  have lb := ab_n_lt b
  by_cases c0_0 : ab_n a < 2147483648
  · exact eqv_int (as := [(3, 0, 0), (0, 0, 2147483647), (0, 0, 4294967295)]) (0) (by decide +kernel) ⟨ab_ref0, ab_arg (p := (0, 2147483647)) (by omega) (by omega), ab_arg (p := (0, 4294967295)) (by omega) (by omega), trivial⟩
  · skip
    by_cases c0_1 : ab_n a < 2147483656
    · by_cases c1_0 : ab_n b < 2147483648
      · exact eqv_int (as := [(3, 0, 0), (0, 2147483648, 2147483655), (0, 0, 2147483647)]) (0) (by decide +kernel) ⟨ab_ref0, ab_arg (p := (2147483648, 2147483655)) (by omega) (by omega), ab_arg (p := (0, 2147483647)) (by omega) (by omega), trivial⟩
      · skip
        by_cases c1_1 : ab_n b < 2147483748
        · exact eqv_int (as := [(3, 0, 0), (0, 2147483648, 2147483655), (0, 2147483648, 2147483747)]) (1) (by decide +kernel) ⟨ab_ref0, ab_arg (p := (2147483648, 2147483655)) (by omega) (by omega), ab_arg (p := (2147483648, 2147483747)) (by omega) (by omega), trivial⟩
        · skip
          exact eqv_int (as := [(3, 0, 0), (0, 2147483648, 2147483655), (0, 2147483748, 4294967295)]) (0) (by decide +kernel) ⟨ab_ref0, ab_arg (p := (2147483648, 2147483655)) (by omega) (by omega), ab_arg (p := (2147483748, 4294967295)) (by omega) (by omega), trivial⟩
    · skip
      exact eqv_int (as := [(3, 0, 0), (0, 2147483656, 4294967295), (0, 0, 4294967295)]) (0) (by decide +kernel) ⟨ab_ref0, ab_arg (p := (2147483656, 4294967295)) (by omega) (by omega), ab_arg (p := (0, 4294967295)) (by omega) (by omega), trivial⟩

set_option maxRecDepth 100000 in
theorem eq_kitchen (a b c : Int32) : eqv 100 157 [.ref 0, .int a, .int b, .int c] := by
  have la := ab_n_lt a
  have lb := ab_n_lt b
  have lc := ab_n_lt c
  by_cases c0_0 : ab_n a < 2147483648
  · exact eqv_int (as := [(3, 0, 0), (0, 0, 2147483647), (0, 0, 4294967295), (0, 0, 4294967295)]) (0) (by decide +kernel) ⟨ab_ref0, ab_arg (p := (0, 2147483647)) (by omega) (by omega), ab_arg (p := (0, 4294967295)) (by omega) (by omega), ab_arg (p := (0, 4294967295)) (by omega) (by omega), trivial⟩
  · skip
    by_cases c0_1 : ab_n a < 2147483656
    · by_cases c1_0 : ab_n b < 2147483648
      · exact eqv_int (as := [(3, 0, 0), (0, 2147483648, 2147483655), (0, 0, 2147483647), (0, 0, 4294967295)]) (0) (by decide +kernel) ⟨ab_ref0, ab_arg (p := (2147483648, 2147483655)) (by omega) (by omega), ab_arg (p := (0, 2147483647)) (by omega) (by omega), ab_arg (p := (0, 4294967295)) (by omega) (by omega), trivial⟩
      · skip
        by_cases c1_1 : ab_n b < 2147483656
        · by_cases c2_0 : ab_n c < 2147483648
          · exact eqv_int (as := [(3, 0, 0), (0, 2147483648, 2147483655), (0, 2147483648, 2147483655), (0, 0, 2147483647)]) (0) (by decide +kernel) ⟨ab_ref0, ab_arg (p := (2147483648, 2147483655)) (by omega) (by omega), ab_arg (p := (2147483648, 2147483655)) (by omega) (by omega), ab_arg (p := (0, 2147483647)) (by omega) (by omega), trivial⟩
          · skip
            by_cases c2_1 : ab_n c < 2147493648
            · exact eqv_int (as := [(3, 0, 0), (0, 2147483648, 2147483655), (0, 2147483648, 2147483655), (0, 2147483648, 2147493647)]) (1) (by decide +kernel) ⟨ab_ref0, ab_arg (p := (2147483648, 2147483655)) (by omega) (by omega), ab_arg (p := (2147483648, 2147483655)) (by omega) (by omega), ab_arg (p := (2147483648, 2147493647)) (by omega) (by omega), trivial⟩
            · skip
              exact eqv_int (as := [(3, 0, 0), (0, 2147483648, 2147483655), (0, 2147483648, 2147483655), (0, 2147493648, 4294967295)]) (0) (by decide +kernel) ⟨ab_ref0, ab_arg (p := (2147483648, 2147483655)) (by omega) (by omega), ab_arg (p := (2147483648, 2147483655)) (by omega) (by omega), ab_arg (p := (2147493648, 4294967295)) (by omega) (by omega), trivial⟩
        · skip
          exact eqv_int (as := [(3, 0, 0), (0, 2147483648, 2147483655), (0, 2147483656, 4294967295), (0, 0, 4294967295)]) (0) (by decide +kernel) ⟨ab_ref0, ab_arg (p := (2147483648, 2147483655)) (by omega) (by omega), ab_arg (p := (2147483656, 4294967295)) (by omega) (by omega), ab_arg (p := (0, 4294967295)) (by omega) (by omega), trivial⟩
    · skip
      exact eqv_int (as := [(3, 0, 0), (0, 2147483656, 4294967295), (0, 0, 4294967295), (0, 0, 4294967295)]) (0) (by decide +kernel) ⟨ab_ref0, ab_arg (p := (2147483656, 4294967295)) (by omega) (by omega), ab_arg (p := (0, 4294967295)) (by omega) (by omega), ab_arg (p := (0, 4294967295)) (by omega) (by omega), trivial⟩

set_option maxRecDepth 100000 in
theorem eq_rope (a b c : Int32) : eqv 101 158 [.ref 0, .int a, .int b, .int c] := by
  have la := ab_n_lt a
  have lb := ab_n_lt b
  have lc := ab_n_lt c
  by_cases c0_0 : ab_n a < 2147483648
  · exact eqv_int (as := [(3, 0, 0), (0, 0, 2147483647), (0, 0, 4294967295), (0, 0, 4294967295)]) (0) (by decide +kernel) ⟨ab_ref0, ab_arg (p := (0, 2147483647)) (by omega) (by omega), ab_arg (p := (0, 4294967295)) (by omega) (by omega), ab_arg (p := (0, 4294967295)) (by omega) (by omega), trivial⟩
  · skip
    by_cases c0_1 : ab_n a < 2147483656
    · by_cases c1_0 : ab_n b < 2147483648
      · exact eqv_int (as := [(3, 0, 0), (0, 2147483648, 2147483655), (0, 0, 2147483647), (0, 0, 4294967295)]) (0) (by decide +kernel) ⟨ab_ref0, ab_arg (p := (2147483648, 2147483655)) (by omega) (by omega), ab_arg (p := (0, 2147483647)) (by omega) (by omega), ab_arg (p := (0, 4294967295)) (by omega) (by omega), trivial⟩
      · skip
        by_cases c1_1 : ab_n b < 2147484648
        · by_cases c2_0 : ab_n c < 2147483648
          · exact eqv_int (as := [(3, 0, 0), (0, 2147483648, 2147483655), (0, 2147483648, 2147484647), (0, 0, 2147483647)]) (0) (by decide +kernel) ⟨ab_ref0, ab_arg (p := (2147483648, 2147483655)) (by omega) (by omega), ab_arg (p := (2147483648, 2147484647)) (by omega) (by omega), ab_arg (p := (0, 2147483647)) (by omega) (by omega), trivial⟩
          · skip
            by_cases c2_1 : ab_n c < 2147483748
            · exact eqv_int (as := [(3, 0, 0), (0, 2147483648, 2147483655), (0, 2147483648, 2147484647), (0, 2147483648, 2147483747)]) (1) (by decide +kernel) ⟨ab_ref0, ab_arg (p := (2147483648, 2147483655)) (by omega) (by omega), ab_arg (p := (2147483648, 2147484647)) (by omega) (by omega), ab_arg (p := (2147483648, 2147483747)) (by omega) (by omega), trivial⟩
            · skip
              exact eqv_int (as := [(3, 0, 0), (0, 2147483648, 2147483655), (0, 2147483648, 2147484647), (0, 2147483748, 4294967295)]) (0) (by decide +kernel) ⟨ab_ref0, ab_arg (p := (2147483648, 2147483655)) (by omega) (by omega), ab_arg (p := (2147483648, 2147484647)) (by omega) (by omega), ab_arg (p := (2147483748, 4294967295)) (by omega) (by omega), trivial⟩
        · skip
          exact eqv_int (as := [(3, 0, 0), (0, 2147483648, 2147483655), (0, 2147484648, 4294967295), (0, 0, 4294967295)]) (0) (by decide +kernel) ⟨ab_ref0, ab_arg (p := (2147483648, 2147483655)) (by omega) (by omega), ab_arg (p := (2147484648, 4294967295)) (by omega) (by omega), ab_arg (p := (0, 4294967295)) (by omega) (by omega), trivial⟩
    · skip
      exact eqv_int (as := [(3, 0, 0), (0, 2147483656, 4294967295), (0, 0, 4294967295), (0, 0, 4294967295)]) (0) (by decide +kernel) ⟨ab_ref0, ab_arg (p := (2147483656, 4294967295)) (by omega) (by omega), ab_arg (p := (0, 4294967295)) (by omega) (by omega), ab_arg (p := (0, 4294967295)) (by omega) (by omega), trivial⟩

set_option maxRecDepth 100000 in
theorem eq_kind (a b c d : Int32) : eqv 97 154 [.ref 0, .int a, .int b, .int c, .int d] := by
  have la := ab_n_lt a
  have lb := ab_n_lt b
  have lc := ab_n_lt c
  have ld := ab_n_lt d
  by_cases c0_0 : ab_n a < 2147483648
  · exact eqv_int (as := [(3, 0, 0), (0, 0, 2147483647), (0, 0, 4294967295), (0, 0, 4294967295), (0, 0, 4294967295)]) (0) (by decide +kernel) ⟨ab_ref0, ab_arg (p := (0, 2147483647)) (by omega) (by omega), ab_arg (p := (0, 4294967295)) (by omega) (by omega), ab_arg (p := (0, 4294967295)) (by omega) (by omega), ab_arg (p := (0, 4294967295)) (by omega) (by omega), trivial⟩
  · skip
    by_cases c0_1 : ab_n a < 2147483654
    · by_cases c1_0 : ab_n b < 2147483648
      · exact eqv_int (as := [(3, 0, 0), (0, 2147483648, 2147483653), (0, 0, 2147483647), (0, 0, 4294967295), (0, 0, 4294967295)]) (0) (by decide +kernel) ⟨ab_ref0, ab_arg (p := (2147483648, 2147483653)) (by omega) (by omega), ab_arg (p := (0, 2147483647)) (by omega) (by omega), ab_arg (p := (0, 4294967295)) (by omega) (by omega), ab_arg (p := (0, 4294967295)) (by omega) (by omega), trivial⟩
      · skip
        by_cases c1_1 : ab_n b < 2147483669
        · by_cases c2_0 : ab_n c < 2147483649
          · exact eqv_int (as := [(3, 0, 0), (0, 2147483648, 2147483653), (0, 2147483648, 2147483668), (0, 0, 2147483648), (0, 0, 4294967295)]) (0) (by decide +kernel) ⟨ab_ref0, ab_arg (p := (2147483648, 2147483653)) (by omega) (by omega), ab_arg (p := (2147483648, 2147483668)) (by omega) (by omega), ab_arg (p := (0, 2147483648)) (by omega) (by omega), ab_arg (p := (0, 4294967295)) (by omega) (by omega), trivial⟩
          · skip
            by_cases c2_1 : ab_n c < 2147483849
            · by_cases c3_0 : ab_n d < 2147483648
              · exact eqv_int (as := [(3, 0, 0), (0, 2147483648, 2147483653), (0, 2147483648, 2147483668), (0, 2147483649, 2147483848), (0, 0, 2147483647)]) (0) (by decide +kernel) ⟨ab_ref0, ab_arg (p := (2147483648, 2147483653)) (by omega) (by omega), ab_arg (p := (2147483648, 2147483668)) (by omega) (by omega), ab_arg (p := (2147483649, 2147483848)) (by omega) (by omega), ab_arg (p := (0, 2147483647)) (by omega) (by omega), trivial⟩
              · skip
                by_cases c3_1 : ab_n d < 2147483748
                · exact eqv_int (as := [(3, 0, 0), (0, 2147483648, 2147483653), (0, 2147483648, 2147483668), (0, 2147483649, 2147483848), (0, 2147483648, 2147483747)]) (1) (by decide +kernel) ⟨ab_ref0, ab_arg (p := (2147483648, 2147483653)) (by omega) (by omega), ab_arg (p := (2147483648, 2147483668)) (by omega) (by omega), ab_arg (p := (2147483649, 2147483848)) (by omega) (by omega), ab_arg (p := (2147483648, 2147483747)) (by omega) (by omega), trivial⟩
                · skip
                  exact eqv_int (as := [(3, 0, 0), (0, 2147483648, 2147483653), (0, 2147483648, 2147483668), (0, 2147483649, 2147483848), (0, 2147483748, 4294967295)]) (0) (by decide +kernel) ⟨ab_ref0, ab_arg (p := (2147483648, 2147483653)) (by omega) (by omega), ab_arg (p := (2147483648, 2147483668)) (by omega) (by omega), ab_arg (p := (2147483649, 2147483848)) (by omega) (by omega), ab_arg (p := (2147483748, 4294967295)) (by omega) (by omega), trivial⟩
            · skip
              exact eqv_int (as := [(3, 0, 0), (0, 2147483648, 2147483653), (0, 2147483648, 2147483668), (0, 2147483849, 4294967295), (0, 0, 4294967295)]) (0) (by decide +kernel) ⟨ab_ref0, ab_arg (p := (2147483648, 2147483653)) (by omega) (by omega), ab_arg (p := (2147483648, 2147483668)) (by omega) (by omega), ab_arg (p := (2147483849, 4294967295)) (by omega) (by omega), ab_arg (p := (0, 4294967295)) (by omega) (by omega), trivial⟩
        · skip
          exact eqv_int (as := [(3, 0, 0), (0, 2147483648, 2147483653), (0, 2147483669, 4294967295), (0, 0, 4294967295), (0, 0, 4294967295)]) (0) (by decide +kernel) ⟨ab_ref0, ab_arg (p := (2147483648, 2147483653)) (by omega) (by omega), ab_arg (p := (2147483669, 4294967295)) (by omega) (by omega), ab_arg (p := (0, 4294967295)) (by omega) (by omega), ab_arg (p := (0, 4294967295)) (by omega) (by omega), trivial⟩
    · skip
      exact eqv_int (as := [(3, 0, 0), (0, 2147483654, 4294967295), (0, 0, 4294967295), (0, 0, 4294967295), (0, 0, 4294967295)]) (0) (by decide +kernel) ⟨ab_ref0, ab_arg (p := (2147483654, 4294967295)) (by omega) (by omega), ab_arg (p := (0, 4294967295)) (by omega) (by omega), ab_arg (p := (0, 4294967295)) (by omega) (by omega), ab_arg (p := (0, 4294967295)) (by omega) (by omega), trivial⟩

set_option maxRecDepth 100000 in
theorem eq_knot (a b c : Int32) : eqv 96 153 [.ref 0, .int a, .int b, .int c] := by
  have la := ab_n_lt a
  have lb := ab_n_lt b
  have lc := ab_n_lt c
  by_cases c0_0 : ab_n a < 2147483648
  · exact eqv_int (as := [(3, 0, 0), (0, 0, 2147483647), (0, 0, 4294967295), (0, 0, 4294967295)]) (0) (by decide +kernel) ⟨ab_ref0, ab_arg (p := (0, 2147483647)) (by omega) (by omega), ab_arg (p := (0, 4294967295)) (by omega) (by omega), ab_arg (p := (0, 4294967295)) (by omega) (by omega), trivial⟩
  · skip
    by_cases c0_1 : ab_n a < 2147483656
    · by_cases c1_0 : ab_n b < 2147483648
      · exact eqv_int (as := [(3, 0, 0), (0, 2147483648, 2147483655), (0, 0, 2147483647), (0, 0, 4294967295)]) (0) (by decide +kernel) ⟨ab_ref0, ab_arg (p := (2147483648, 2147483655)) (by omega) (by omega), ab_arg (p := (0, 2147483647)) (by omega) (by omega), ab_arg (p := (0, 4294967295)) (by omega) (by omega), trivial⟩
      · skip
        by_cases c1_1 : ab_n b < 2147483654
        · exact eqv_int (as := [(3, 0, 0), (0, 2147483648, 2147483655), (0, 2147483648, 2147483653), (0, 0, 4294967295)]) (0) (by decide +kernel) ⟨ab_ref0, ab_arg (p := (2147483648, 2147483655)) (by omega) (by omega), ab_arg (p := (2147483648, 2147483653)) (by omega) (by omega), ab_arg (p := (0, 4294967295)) (by omega) (by omega), trivial⟩
        · skip
          exact eqv_int (as := [(3, 0, 0), (0, 2147483648, 2147483655), (0, 2147483654, 4294967295), (0, 0, 4294967295)]) (0) (by decide +kernel) ⟨ab_ref0, ab_arg (p := (2147483648, 2147483655)) (by omega) (by omega), ab_arg (p := (2147483654, 4294967295)) (by omega) (by omega), ab_arg (p := (0, 4294967295)) (by omega) (by omega), trivial⟩
    · skip
      exact eqv_int (as := [(3, 0, 0), (0, 2147483656, 4294967295), (0, 0, 4294967295), (0, 0, 4294967295)]) (0) (by decide +kernel) ⟨ab_ref0, ab_arg (p := (2147483656, 4294967295)) (by omega) (by omega), ab_arg (p := (0, 4294967295)) (by omega) (by omega), ab_arg (p := (0, 4294967295)) (by omega) (by omega), trivial⟩

set_option maxRecDepth 100000 in
theorem eq_law (a : Int32) : eqv 104 183 [.ref 0, .int a] := by
  have la := ab_n_lt a
  by_cases c0_0 : ab_n a < 2147483649
  · exact eqv_int (as := [(3, 0, 0), (0, 0, 2147483648)]) (-1) (by decide +kernel) ⟨ab_ref0, ab_arg (p := (0, 2147483648)) (by omega) (by omega), trivial⟩
  · skip
    by_cases c0_1 : ab_n a < 2147483849
    · exact eqv_int (as := [(3, 0, 0), (0, 2147483649, 2147483848)]) (-1) (by decide +kernel) ⟨ab_ref0, ab_arg (p := (2147483649, 2147483848)) (by omega) (by omega), trivial⟩
    · skip
      exact eqv_int (as := [(3, 0, 0), (0, 2147483849, 4294967295)]) (-1) (by decide +kernel) ⟨ab_ref0, ab_arg (p := (2147483849, 4294967295)) (by omega) (by omega), trivial⟩

set_option maxRecDepth 100000 in
theorem eq_fallIs (a b : Int32) : eqv 112 211 [.ref 0, .int a, .int b] := by
  have la := ab_n_lt a
  have lb := ab_n_lt b
  by_cases c0_0 : ab_n a < 2147483648
  · exact eqv_int (as := [(3, 0, 0), (0, 0, 2147483647), (0, 0, 4294967295)]) (-1000) (by decide +kernel) ⟨ab_ref0, ab_arg (p := (0, 2147483647)) (by omega) (by omega), ab_arg (p := (0, 4294967295)) (by omega) (by omega), trivial⟩
  · skip
    by_cases c0_1 : ab_n a < 2147483649
    · exact eqv_int (as := [(3, 0, 0), (0, 2147483648, 2147483648), (0, 0, 4294967295)]) (-1000) (by decide +kernel) ⟨ab_ref0, ab_arg (p := (2147483648, 2147483648)) (by omega) (by omega), ab_arg (p := (0, 4294967295)) (by omega) (by omega), trivial⟩
    · skip
      exact eqv_int (as := [(3, 0, 0), (0, 2147483649, 4294967295), (0, 0, 4294967295)]) (-1000) (by decide +kernel) ⟨ab_ref0, ab_arg (p := (2147483649, 4294967295)) (by omega) (by omega), ab_arg (p := (0, 4294967295)) (by omega) (by omega), trivial⟩

set_option maxRecDepth 100000 in
theorem eq_claimed (a b : Int32) : eqv 113 213 [.ref 0, .int a, .int b] := by
  have la := ab_n_lt a
  have lb := ab_n_lt b
  by_cases c0_0 : ab_n a < 2147483648
  · exact eqv_int (as := [(3, 0, 0), (0, 0, 2147483647), (0, 0, 4294967295)]) (-1) (by decide +kernel) ⟨ab_ref0, ab_arg (p := (0, 2147483647)) (by omega) (by omega), ab_arg (p := (0, 4294967295)) (by omega) (by omega), trivial⟩
  · skip
    by_cases c0_1 : ab_n a < 2147483649
    · exact eqv_int (as := [(3, 0, 0), (0, 2147483648, 2147483648), (0, 0, 4294967295)]) (-1) (by decide +kernel) ⟨ab_ref0, ab_arg (p := (2147483648, 2147483648)) (by omega) (by omega), ab_arg (p := (0, 4294967295)) (by omega) (by omega), trivial⟩
    · skip
      exact eqv_int (as := [(3, 0, 0), (0, 2147483649, 4294967295), (0, 0, 4294967295)]) (-1) (by decide +kernel) ⟨ab_ref0, ab_arg (p := (2147483649, 4294967295)) (by omega) (by omega), ab_arg (p := (0, 4294967295)) (by omega) (by omega), trivial⟩

set_option maxRecDepth 100000 in
theorem eq_food (a : Int32) : eqv 115 215 [.ref 0, .int a] := by
  have la := ab_n_lt a
  by_cases c0_0 : ab_n a < 2147483648
  · exact eqv_int (as := [(3, 0, 0), (0, 0, 2147483647)]) (-1) (by decide +kernel) ⟨ab_ref0, ab_arg (p := (0, 2147483647)) (by omega) (by omega), trivial⟩
  · skip
    by_cases c0_1 : ab_n a < 2147483656
    · exact eqv_int (as := [(3, 0, 0), (0, 2147483648, 2147483655)]) (0) (by decide +kernel) ⟨ab_ref0, ab_arg (p := (2147483648, 2147483655)) (by omega) (by omega), trivial⟩
    · skip
      exact eqv_int (as := [(3, 0, 0), (0, 2147483656, 4294967295)]) (-1) (by decide +kernel) ⟨ab_ref0, ab_arg (p := (2147483656, 4294967295)) (by omega) (by omega), trivial⟩

set_option maxRecDepth 100000 in
theorem eq_right (a b : Int32) : eqv 114 214 [.ref 0, .int a, .int b] := by
  have la := ab_n_lt a
  have lb := ab_n_lt b
  by_cases c0_0 : ab_n a < 2147483648
  · exact eqv_int (as := [(3, 0, 0), (0, 0, 2147483647), (0, 0, 4294967295)]) (-1) (by decide +kernel) ⟨ab_ref0, ab_arg (p := (0, 2147483647)) (by omega) (by omega), ab_arg (p := (0, 4294967295)) (by omega) (by omega), trivial⟩
  · skip
    by_cases c0_1 : ab_n a < 2147483649
    · exact eqv_int (as := [(3, 0, 0), (0, 2147483648, 2147483648), (0, 0, 4294967295)]) (-1) (by decide +kernel) ⟨ab_ref0, ab_arg (p := (2147483648, 2147483648)) (by omega) (by omega), ab_arg (p := (0, 4294967295)) (by omega) (by omega), trivial⟩
    · skip
      exact eqv_int (as := [(3, 0, 0), (0, 2147483649, 4294967295), (0, 0, 4294967295)]) (-1) (by decide +kernel) ⟨ab_ref0, ab_arg (p := (2147483649, 4294967295)) (by omega) (by omega), ab_arg (p := (0, 4294967295)) (by omega) (by omega), trivial⟩

set_option maxRecDepth 100000 in
theorem eq_plant (a b c d : Int32) : eqv 98 155 [.ref 0, .int a, .int b, .int c, .int d] := by
  have la := ab_n_lt a
  have lb := ab_n_lt b
  have lc := ab_n_lt c
  have ld := ab_n_lt d
  by_cases c0_0 : ab_n a < 2147483648
  · exact eqv_int (as := [(3, 0, 0), (0, 0, 2147483647), (0, 0, 4294967295), (0, 0, 4294967295), (0, 0, 4294967295)]) (0) (by decide +kernel) ⟨ab_ref0, ab_arg (p := (0, 2147483647)) (by omega) (by omega), ab_arg (p := (0, 4294967295)) (by omega) (by omega), ab_arg (p := (0, 4294967295)) (by omega) (by omega), ab_arg (p := (0, 4294967295)) (by omega) (by omega), trivial⟩
  · skip
    by_cases c0_1 : ab_n a < 2147483656
    · by_cases c1_0 : ab_n b < 2147483648
      · exact eqv_int (as := [(3, 0, 0), (0, 2147483648, 2147483655), (0, 0, 2147483647), (0, 0, 4294967295), (0, 0, 4294967295)]) (0) (by decide +kernel) ⟨ab_ref0, ab_arg (p := (2147483648, 2147483655)) (by omega) (by omega), ab_arg (p := (0, 2147483647)) (by omega) (by omega), ab_arg (p := (0, 4294967295)) (by omega) (by omega), ab_arg (p := (0, 4294967295)) (by omega) (by omega), trivial⟩
      · skip
        by_cases c1_1 : ab_n b < 2147483654
        · exact eqv_int (as := [(3, 0, 0), (0, 2147483648, 2147483655), (0, 2147483648, 2147483653), (0, 0, 4294967295), (0, 0, 4294967295)]) (0) (by decide +kernel) ⟨ab_ref0, ab_arg (p := (2147483648, 2147483655)) (by omega) (by omega), ab_arg (p := (2147483648, 2147483653)) (by omega) (by omega), ab_arg (p := (0, 4294967295)) (by omega) (by omega), ab_arg (p := (0, 4294967295)) (by omega) (by omega), trivial⟩
        · skip
          exact eqv_int (as := [(3, 0, 0), (0, 2147483648, 2147483655), (0, 2147483654, 4294967295), (0, 0, 4294967295), (0, 0, 4294967295)]) (0) (by decide +kernel) ⟨ab_ref0, ab_arg (p := (2147483648, 2147483655)) (by omega) (by omega), ab_arg (p := (2147483654, 4294967295)) (by omega) (by omega), ab_arg (p := (0, 4294967295)) (by omega) (by omega), ab_arg (p := (0, 4294967295)) (by omega) (by omega), trivial⟩
    · skip
      exact eqv_int (as := [(3, 0, 0), (0, 2147483656, 4294967295), (0, 0, 4294967295), (0, 0, 4294967295), (0, 0, 4294967295)]) (0) (by decide +kernel) ⟨ab_ref0, ab_arg (p := (2147483656, 4294967295)) (by omega) (by omega), ab_arg (p := (0, 4294967295)) (by omega) (by omega), ab_arg (p := (0, 4294967295)) (by omega) (by omega), ab_arg (p := (0, 4294967295)) (by omega) (by omega), trivial⟩

set_option maxRecDepth 100000 in
theorem eq_fall (a b : Int32) : eqv 108 203 [.ref 0, .int a, .int b] := by
  have la := ab_n_lt a
  have lb := ab_n_lt b
  by_cases c0_0 : ab_n a < 2147483648
  · exact eqv_int (as := [(3, 0, 0), (0, 0, 2147483647), (0, 0, 4294967295)]) (-1) (by decide +kernel) ⟨ab_ref0, ab_arg (p := (0, 2147483647)) (by omega) (by omega), ab_arg (p := (0, 4294967295)) (by omega) (by omega), trivial⟩
  · skip
    by_cases c0_1 : ab_n a < 2147483656
    · by_cases c1_0 : ab_n b < 2147483648
      · exact eqv_int (as := [(3, 0, 0), (0, 2147483648, 2147483655), (0, 0, 2147483647)]) (-1) (by decide +kernel) ⟨ab_ref0, ab_arg (p := (2147483648, 2147483655)) (by omega) (by omega), ab_arg (p := (0, 2147483647)) (by omega) (by omega), trivial⟩
      · skip
        by_cases c1_1 : ab_n b < 2147483654
        · exact eqv_int (as := [(3, 0, 0), (0, 2147483648, 2147483655), (0, 2147483648, 2147483653)]) (-1) (by decide +kernel) ⟨ab_ref0, ab_arg (p := (2147483648, 2147483655)) (by omega) (by omega), ab_arg (p := (2147483648, 2147483653)) (by omega) (by omega), trivial⟩
        · skip
          exact eqv_int (as := [(3, 0, 0), (0, 2147483648, 2147483655), (0, 2147483654, 4294967295)]) (-1) (by decide +kernel) ⟨ab_ref0, ab_arg (p := (2147483648, 2147483655)) (by omega) (by omega), ab_arg (p := (2147483654, 4294967295)) (by omega) (by omega), trivial⟩
    · skip
      exact eqv_int (as := [(3, 0, 0), (0, 2147483656, 4294967295), (0, 0, 4294967295)]) (-1) (by decide +kernel) ⟨ab_ref0, ab_arg (p := (2147483656, 4294967295)) (by omega) (by omega), ab_arg (p := (0, 4294967295)) (by omega) (by omega), trivial⟩

set_option maxRecDepth 100000 in
theorem eq_torn (a b : Int32) : eqvL 111 208 [.ref 0, .int a, .int b] := by
  have la := ab_n_lt a
  have lb := ab_n_lt b
  by_cases c0_0 : ab_n a < 2147483648
  · exact eqv_lng (FC := 4000) (FM := 4000) (esC := []) (esM := []) (asC := ([(3, 0, 0), (0, 0, 2147483647), (0, 0, 4294967295)] : List ab_V)) (asM := ([(3, 0, 0), (0, 0, 2147483647), (0, 0, 4294967295)] : List ab_V)) (GC := (0, 0)) (GM := (0, 0)) (g1 := 0) (g2 := 0) (-1) ab_nil ab_nil ab_aC_ok ab_aM_ok (by decide +kernel) (by decide +kernel) ab_z0 ⟨ab_ref0, ab_arg (p := (0, 2147483647)) (by omega) (by omega), ab_arg (p := (0, 4294967295)) (by omega) (by omega), trivial⟩ ab_z0 ⟨ab_ref0, ab_arg (p := (0, 2147483647)) (by omega) (by omega), ab_arg (p := (0, 4294967295)) (by omega) (by omega), trivial⟩
  · skip
    by_cases c0_1 : ab_n a < 2147483656
    · by_cases c1_0 : ab_n b < 2147483648
      · exact eqv_lng (FC := 4000) (FM := 4000) (esC := []) (esM := []) (asC := ([(3, 0, 0), (0, 2147483648, 2147483655), (0, 0, 2147483647)] : List ab_V)) (asM := ([(3, 0, 0), (0, 2147483648, 2147483655), (0, 0, 2147483647)] : List ab_V)) (GC := (0, 0)) (GM := (0, 0)) (g1 := 0) (g2 := 0) (-1) ab_nil ab_nil ab_aC_ok ab_aM_ok (by decide +kernel) (by decide +kernel) ab_z0 ⟨ab_ref0, ab_arg (p := (2147483648, 2147483655)) (by omega) (by omega), ab_arg (p := (0, 2147483647)) (by omega) (by omega), trivial⟩ ab_z0 ⟨ab_ref0, ab_arg (p := (2147483648, 2147483655)) (by omega) (by omega), ab_arg (p := (0, 2147483647)) (by omega) (by omega), trivial⟩
      · skip
        by_cases c1_1 : ab_n b < 2147483654
        · exact eqv_lng (FC := 4000) (FM := 4000) (esC := []) (esM := []) (asC := ([(3, 0, 0), (0, 2147483648, 2147483655), (0, 2147483648, 2147483653)] : List ab_V)) (asM := ([(3, 0, 0), (0, 2147483648, 2147483655), (0, 2147483648, 2147483653)] : List ab_V)) (GC := (0, 0)) (GM := (0, 0)) (g1 := 0) (g2 := 0) (-1) ab_nil ab_nil ab_aC_ok ab_aM_ok (by decide +kernel) (by decide +kernel) ab_z0 ⟨ab_ref0, ab_arg (p := (2147483648, 2147483655)) (by omega) (by omega), ab_arg (p := (2147483648, 2147483653)) (by omega) (by omega), trivial⟩ ab_z0 ⟨ab_ref0, ab_arg (p := (2147483648, 2147483655)) (by omega) (by omega), ab_arg (p := (2147483648, 2147483653)) (by omega) (by omega), trivial⟩
        · skip
          exact eqv_lng (FC := 4000) (FM := 4000) (esC := []) (esM := []) (asC := ([(3, 0, 0), (0, 2147483648, 2147483655), (0, 2147483654, 4294967295)] : List ab_V)) (asM := ([(3, 0, 0), (0, 2147483648, 2147483655), (0, 2147483654, 4294967295)] : List ab_V)) (GC := (0, 0)) (GM := (0, 0)) (g1 := 0) (g2 := 0) (-1) ab_nil ab_nil ab_aC_ok ab_aM_ok (by decide +kernel) (by decide +kernel) ab_z0 ⟨ab_ref0, ab_arg (p := (2147483648, 2147483655)) (by omega) (by omega), ab_arg (p := (2147483654, 4294967295)) (by omega) (by omega), trivial⟩ ab_z0 ⟨ab_ref0, ab_arg (p := (2147483648, 2147483655)) (by omega) (by omega), ab_arg (p := (2147483654, 4294967295)) (by omega) (by omega), trivial⟩
    · skip
      exact eqv_lng (FC := 4000) (FM := 4000) (esC := []) (esM := []) (asC := ([(3, 0, 0), (0, 2147483656, 4294967295), (0, 0, 4294967295)] : List ab_V)) (asM := ([(3, 0, 0), (0, 2147483656, 4294967295), (0, 0, 4294967295)] : List ab_V)) (GC := (0, 0)) (GM := (0, 0)) (g1 := 0) (g2 := 0) (-1) ab_nil ab_nil ab_aC_ok ab_aM_ok (by decide +kernel) (by decide +kernel) ab_z0 ⟨ab_ref0, ab_arg (p := (2147483656, 4294967295)) (by omega) (by omega), ab_arg (p := (0, 4294967295)) (by omega) (by omega), trivial⟩ ab_z0 ⟨ab_ref0, ab_arg (p := (2147483656, 4294967295)) (by omega) (by omega), ab_arg (p := (0, 4294967295)) (by omega) (by omega), trivial⟩

set_option maxRecDepth 100000 in
theorem eq_byLaw (a b c : Int32) : eqv 106 192 [.ref 0, .int a, .int b, .int c] := by
  have la := ab_n_lt a
  have lb := ab_n_lt b
  have lc := ab_n_lt c
  by_cases c0_0 : ab_n a < 2147483648
  · exact eqv_int (as := [(3, 0, 0), (0, 0, 2147483647), (0, 0, 4294967295), (0, 0, 4294967295)]) (-1) (by decide +kernel) ⟨ab_ref0, ab_arg (p := (0, 2147483647)) (by omega) (by omega), ab_arg (p := (0, 4294967295)) (by omega) (by omega), ab_arg (p := (0, 4294967295)) (by omega) (by omega), trivial⟩
  · skip
    by_cases c0_1 : ab_n a < 2147483656
    · by_cases c1_0 : ab_n b < 2147483648
      · exact eqv_int (as := [(3, 0, 0), (0, 2147483648, 2147483655), (0, 0, 2147483647), (0, 0, 4294967295)]) (-1) (by decide +kernel) ⟨ab_ref0, ab_arg (p := (2147483648, 2147483655)) (by omega) (by omega), ab_arg (p := (0, 2147483647)) (by omega) (by omega), ab_arg (p := (0, 4294967295)) (by omega) (by omega), trivial⟩
      · skip
        by_cases c1_1 : ab_n b < 2147483654
        · by_cases c2_0 : ab_n c < 2147483648
          · exact eqv_int (as := [(3, 0, 0), (0, 2147483648, 2147483655), (0, 2147483648, 2147483653), (0, 0, 2147483647)]) (-1) (by decide +kernel) ⟨ab_ref0, ab_arg (p := (2147483648, 2147483655)) (by omega) (by omega), ab_arg (p := (2147483648, 2147483653)) (by omega) (by omega), ab_arg (p := (0, 2147483647)) (by omega) (by omega), trivial⟩
          · skip
            by_cases c2_1 : ab_n c < 2147483651
            · exact eqv_int (as := [(3, 0, 0), (0, 2147483648, 2147483655), (0, 2147483648, 2147483653), (0, 2147483648, 2147483650)]) (-2) (by decide +kernel) ⟨ab_ref0, ab_arg (p := (2147483648, 2147483655)) (by omega) (by omega), ab_arg (p := (2147483648, 2147483653)) (by omega) (by omega), ab_arg (p := (2147483648, 2147483650)) (by omega) (by omega), trivial⟩
            · skip
              exact eqv_int (as := [(3, 0, 0), (0, 2147483648, 2147483655), (0, 2147483648, 2147483653), (0, 2147483651, 4294967295)]) (-1) (by decide +kernel) ⟨ab_ref0, ab_arg (p := (2147483648, 2147483655)) (by omega) (by omega), ab_arg (p := (2147483648, 2147483653)) (by omega) (by omega), ab_arg (p := (2147483651, 4294967295)) (by omega) (by omega), trivial⟩
        · skip
          exact eqv_int (as := [(3, 0, 0), (0, 2147483648, 2147483655), (0, 2147483654, 4294967295), (0, 0, 4294967295)]) (-1) (by decide +kernel) ⟨ab_ref0, ab_arg (p := (2147483648, 2147483655)) (by omega) (by omega), ab_arg (p := (2147483654, 4294967295)) (by omega) (by omega), ab_arg (p := (0, 4294967295)) (by omega) (by omega), trivial⟩
    · skip
      exact eqv_int (as := [(3, 0, 0), (0, 2147483656, 4294967295), (0, 0, 4294967295), (0, 0, 4294967295)]) (-1) (by decide +kernel) ⟨ab_ref0, ab_arg (p := (2147483656, 4294967295)) (by omega) (by omega), ab_arg (p := (0, 4294967295)) (by omega) (by omega), ab_arg (p := (0, 4294967295)) (by omega) (by omega), trivial⟩

set_option maxRecDepth 100000 in
theorem eq_cell (a b c : Int32) : eqv 105 199 [.ref 0, .int a, .int b, .int c] := by
  have la := ab_n_lt a
  have lb := ab_n_lt b
  have lc := ab_n_lt c
  by_cases c0_0 : ab_n a < 2147483648
  · exact eqv_int (as := [(3, 0, 0), (0, 0, 2147483647), (0, 0, 4294967295), (0, 0, 4294967295)]) (-1000) (by decide +kernel) ⟨ab_ref0, ab_arg (p := (0, 2147483647)) (by omega) (by omega), ab_arg (p := (0, 4294967295)) (by omega) (by omega), ab_arg (p := (0, 4294967295)) (by omega) (by omega), trivial⟩
  · skip
    by_cases c0_1 : ab_n a < 2147483656
    · by_cases c1_0 : ab_n b < 2147483648
      · exact eqv_int (as := [(3, 0, 0), (0, 2147483648, 2147483655), (0, 0, 2147483647), (0, 0, 4294967295)]) (-1000) (by decide +kernel) ⟨ab_ref0, ab_arg (p := (2147483648, 2147483655)) (by omega) (by omega), ab_arg (p := (0, 2147483647)) (by omega) (by omega), ab_arg (p := (0, 4294967295)) (by omega) (by omega), trivial⟩
      · skip
        by_cases c1_1 : ab_n b < 2147483654
        · by_cases c2_0 : ab_n c < 2147483648
          · exact eqv_int (as := [(3, 0, 0), (0, 2147483648, 2147483655), (0, 2147483648, 2147483653), (0, 0, 2147483647)]) (-1000) (by decide +kernel) ⟨ab_ref0, ab_arg (p := (2147483648, 2147483655)) (by omega) (by omega), ab_arg (p := (2147483648, 2147483653)) (by omega) (by omega), ab_arg (p := (0, 2147483647)) (by omega) (by omega), trivial⟩
          · skip
            by_cases c2_1 : ab_n c < 2147483649
            · exact eqv_int (as := [(3, 0, 0), (0, 2147483648, 2147483655), (0, 2147483648, 2147483653), (0, 2147483648, 2147483648)]) (0) (by decide +kernel) ⟨ab_ref0, ab_arg (p := (2147483648, 2147483655)) (by omega) (by omega), ab_arg (p := (2147483648, 2147483653)) (by omega) (by omega), ab_arg (p := (2147483648, 2147483648)) (by omega) (by omega), trivial⟩
            · skip
              exact eqv_int (as := [(3, 0, 0), (0, 2147483648, 2147483655), (0, 2147483648, 2147483653), (0, 2147483649, 4294967295)]) (-1000) (by decide +kernel) ⟨ab_ref0, ab_arg (p := (2147483648, 2147483655)) (by omega) (by omega), ab_arg (p := (2147483648, 2147483653)) (by omega) (by omega), ab_arg (p := (2147483649, 4294967295)) (by omega) (by omega), trivial⟩
        · skip
          exact eqv_int (as := [(3, 0, 0), (0, 2147483648, 2147483655), (0, 2147483654, 4294967295), (0, 0, 4294967295)]) (-1000) (by decide +kernel) ⟨ab_ref0, ab_arg (p := (2147483648, 2147483655)) (by omega) (by omega), ab_arg (p := (2147483654, 4294967295)) (by omega) (by omega), ab_arg (p := (0, 4294967295)) (by omega) (by omega), trivial⟩
    · skip
      exact eqv_int (as := [(3, 0, 0), (0, 2147483656, 4294967295), (0, 0, 4294967295), (0, 0, 4294967295)]) (-1000) (by decide +kernel) ⟨ab_ref0, ab_arg (p := (2147483656, 4294967295)) (by omega) (by omega), ab_arg (p := (0, 4294967295)) (by omega) (by omega), ab_arg (p := (0, 4294967295)) (by omega) (by omega), trivial⟩

set_option maxRecDepth 100000 in
theorem eq_hang (a b c d e i : Int32) : eqv 95 151 [.ref 0, .int a, .int b, .int c, .int d, .int e, .int i] := by
  have la := ab_n_lt a
  have lb := ab_n_lt b
  have lc := ab_n_lt c
  have ld := ab_n_lt d
  have le := ab_n_lt e
  have li := ab_n_lt i
  by_cases c0_0 : ab_n a < 2147483648
  · exact eqv_int (as := [(3, 0, 0), (0, 0, 2147483647), (0, 0, 4294967295), (0, 0, 4294967295), (0, 0, 4294967295), (0, 0, 4294967295), (0, 0, 4294967295)]) (0) (by decide +kernel) ⟨ab_ref0, ab_arg (p := (0, 2147483647)) (by omega) (by omega), ab_arg (p := (0, 4294967295)) (by omega) (by omega), ab_arg (p := (0, 4294967295)) (by omega) (by omega), ab_arg (p := (0, 4294967295)) (by omega) (by omega), ab_arg (p := (0, 4294967295)) (by omega) (by omega), ab_arg (p := (0, 4294967295)) (by omega) (by omega), trivial⟩
  · skip
    by_cases c0_1 : ab_n a < 2147483656
    · by_cases c1_0 : ab_n b < 2147483648
      · exact eqv_int (as := [(3, 0, 0), (0, 2147483648, 2147483655), (0, 0, 2147483647), (0, 0, 4294967295), (0, 0, 4294967295), (0, 0, 4294967295), (0, 0, 4294967295)]) (0) (by decide +kernel) ⟨ab_ref0, ab_arg (p := (2147483648, 2147483655)) (by omega) (by omega), ab_arg (p := (0, 2147483647)) (by omega) (by omega), ab_arg (p := (0, 4294967295)) (by omega) (by omega), ab_arg (p := (0, 4294967295)) (by omega) (by omega), ab_arg (p := (0, 4294967295)) (by omega) (by omega), ab_arg (p := (0, 4294967295)) (by omega) (by omega), trivial⟩
      · skip
        by_cases c1_1 : ab_n b < 2147483649
        · by_cases c2_0 : ab_n c < 2147483648
          · exact eqv_int (as := [(3, 0, 0), (0, 2147483648, 2147483655), (0, 2147483648, 2147483648), (0, 0, 2147483647), (0, 0, 4294967295), (0, 0, 4294967295), (0, 0, 4294967295)]) (0) (by decide +kernel) ⟨ab_ref0, ab_arg (p := (2147483648, 2147483655)) (by omega) (by omega), ab_arg (p := (2147483648, 2147483648)) (by omega) (by omega), ab_arg (p := (0, 2147483647)) (by omega) (by omega), ab_arg (p := (0, 4294967295)) (by omega) (by omega), ab_arg (p := (0, 4294967295)) (by omega) (by omega), ab_arg (p := (0, 4294967295)) (by omega) (by omega), trivial⟩
          · skip
            by_cases c2_1 : ab_n c < 2147483658
            · by_cases c3_0 : ab_n d < 2147483648
              · exact eqv_int (as := [(3, 0, 0), (0, 2147483648, 2147483655), (0, 2147483648, 2147483648), (0, 2147483648, 2147483657), (0, 0, 2147483647), (0, 0, 4294967295), (0, 0, 4294967295)]) (0) (by decide +kernel) ⟨ab_ref0, ab_arg (p := (2147483648, 2147483655)) (by omega) (by omega), ab_arg (p := (2147483648, 2147483648)) (by omega) (by omega), ab_arg (p := (2147483648, 2147483657)) (by omega) (by omega), ab_arg (p := (0, 2147483647)) (by omega) (by omega), ab_arg (p := (0, 4294967295)) (by omega) (by omega), ab_arg (p := (0, 4294967295)) (by omega) (by omega), trivial⟩
              · skip
                by_cases c3_1 : ab_n d < 2147493648
                · by_cases c4_0 : ab_n e < 2147483648
                  · exact eqv_int (as := [(3, 0, 0), (0, 2147483648, 2147483655), (0, 2147483648, 2147483648), (0, 2147483648, 2147483657), (0, 2147483648, 2147493647), (0, 0, 2147483647), (0, 0, 4294967295)]) (0) (by decide +kernel) ⟨ab_ref0, ab_arg (p := (2147483648, 2147483655)) (by omega) (by omega), ab_arg (p := (2147483648, 2147483648)) (by omega) (by omega), ab_arg (p := (2147483648, 2147483657)) (by omega) (by omega), ab_arg (p := (2147483648, 2147493647)) (by omega) (by omega), ab_arg (p := (0, 2147483647)) (by omega) (by omega), ab_arg (p := (0, 4294967295)) (by omega) (by omega), trivial⟩
                  · skip
                    by_cases c4_1 : ab_n e < 2147483656
                    · by_cases c5_0 : ab_n i < 2147483648
                      · exact eqv_int (as := [(3, 0, 0), (0, 2147483648, 2147483655), (0, 2147483648, 2147483648), (0, 2147483648, 2147483657), (0, 2147483648, 2147493647), (0, 2147483648, 2147483655), (0, 0, 2147483647)]) (0) (by decide +kernel) ⟨ab_ref0, ab_arg (p := (2147483648, 2147483655)) (by omega) (by omega), ab_arg (p := (2147483648, 2147483648)) (by omega) (by omega), ab_arg (p := (2147483648, 2147483657)) (by omega) (by omega), ab_arg (p := (2147483648, 2147493647)) (by omega) (by omega), ab_arg (p := (2147483648, 2147483655)) (by omega) (by omega), ab_arg (p := (0, 2147483647)) (by omega) (by omega), trivial⟩
                      · skip
                        by_cases c5_1 : ab_n i < 2147483652
                        · exact eqv_int (as := [(3, 0, 0), (0, 2147483648, 2147483655), (0, 2147483648, 2147483648), (0, 2147483648, 2147483657), (0, 2147483648, 2147493647), (0, 2147483648, 2147483655), (0, 2147483648, 2147483651)]) (1) (by decide +kernel) ⟨ab_ref0, ab_arg (p := (2147483648, 2147483655)) (by omega) (by omega), ab_arg (p := (2147483648, 2147483648)) (by omega) (by omega), ab_arg (p := (2147483648, 2147483657)) (by omega) (by omega), ab_arg (p := (2147483648, 2147493647)) (by omega) (by omega), ab_arg (p := (2147483648, 2147483655)) (by omega) (by omega), ab_arg (p := (2147483648, 2147483651)) (by omega) (by omega), trivial⟩
                        · skip
                          exact eqv_int (as := [(3, 0, 0), (0, 2147483648, 2147483655), (0, 2147483648, 2147483648), (0, 2147483648, 2147483657), (0, 2147483648, 2147493647), (0, 2147483648, 2147483655), (0, 2147483652, 4294967295)]) (0) (by decide +kernel) ⟨ab_ref0, ab_arg (p := (2147483648, 2147483655)) (by omega) (by omega), ab_arg (p := (2147483648, 2147483648)) (by omega) (by omega), ab_arg (p := (2147483648, 2147483657)) (by omega) (by omega), ab_arg (p := (2147483648, 2147493647)) (by omega) (by omega), ab_arg (p := (2147483648, 2147483655)) (by omega) (by omega), ab_arg (p := (2147483652, 4294967295)) (by omega) (by omega), trivial⟩
                    · skip
                      exact eqv_int (as := [(3, 0, 0), (0, 2147483648, 2147483655), (0, 2147483648, 2147483648), (0, 2147483648, 2147483657), (0, 2147483648, 2147493647), (0, 2147483656, 4294967295), (0, 0, 4294967295)]) (0) (by decide +kernel) ⟨ab_ref0, ab_arg (p := (2147483648, 2147483655)) (by omega) (by omega), ab_arg (p := (2147483648, 2147483648)) (by omega) (by omega), ab_arg (p := (2147483648, 2147483657)) (by omega) (by omega), ab_arg (p := (2147483648, 2147493647)) (by omega) (by omega), ab_arg (p := (2147483656, 4294967295)) (by omega) (by omega), ab_arg (p := (0, 4294967295)) (by omega) (by omega), trivial⟩
                · skip
                  exact eqv_int (as := [(3, 0, 0), (0, 2147483648, 2147483655), (0, 2147483648, 2147483648), (0, 2147483648, 2147483657), (0, 2147493648, 4294967295), (0, 0, 4294967295), (0, 0, 4294967295)]) (0) (by decide +kernel) ⟨ab_ref0, ab_arg (p := (2147483648, 2147483655)) (by omega) (by omega), ab_arg (p := (2147483648, 2147483648)) (by omega) (by omega), ab_arg (p := (2147483648, 2147483657)) (by omega) (by omega), ab_arg (p := (2147493648, 4294967295)) (by omega) (by omega), ab_arg (p := (0, 4294967295)) (by omega) (by omega), ab_arg (p := (0, 4294967295)) (by omega) (by omega), trivial⟩
            · skip
              exact eqv_int (as := [(3, 0, 0), (0, 2147483648, 2147483655), (0, 2147483648, 2147483648), (0, 2147483658, 4294967295), (0, 0, 4294967295), (0, 0, 4294967295), (0, 0, 4294967295)]) (0) (by decide +kernel) ⟨ab_ref0, ab_arg (p := (2147483648, 2147483655)) (by omega) (by omega), ab_arg (p := (2147483648, 2147483648)) (by omega) (by omega), ab_arg (p := (2147483658, 4294967295)) (by omega) (by omega), ab_arg (p := (0, 4294967295)) (by omega) (by omega), ab_arg (p := (0, 4294967295)) (by omega) (by omega), ab_arg (p := (0, 4294967295)) (by omega) (by omega), trivial⟩
        · skip
          by_cases c1_2 : ab_n b < 2147483654
          · exact eqv_int (as := [(3, 0, 0), (0, 2147483648, 2147483655), (0, 2147483649, 2147483653), (0, 0, 4294967295), (0, 0, 4294967295), (0, 0, 4294967295), (0, 0, 4294967295)]) (0) (by decide +kernel) ⟨ab_ref0, ab_arg (p := (2147483648, 2147483655)) (by omega) (by omega), ab_arg (p := (2147483649, 2147483653)) (by omega) (by omega), ab_arg (p := (0, 4294967295)) (by omega) (by omega), ab_arg (p := (0, 4294967295)) (by omega) (by omega), ab_arg (p := (0, 4294967295)) (by omega) (by omega), ab_arg (p := (0, 4294967295)) (by omega) (by omega), trivial⟩
          · skip
            exact eqv_int (as := [(3, 0, 0), (0, 2147483648, 2147483655), (0, 2147483654, 4294967295), (0, 0, 4294967295), (0, 0, 4294967295), (0, 0, 4294967295), (0, 0, 4294967295)]) (0) (by decide +kernel) ⟨ab_ref0, ab_arg (p := (2147483648, 2147483655)) (by omega) (by omega), ab_arg (p := (2147483654, 4294967295)) (by omega) (by omega), ab_arg (p := (0, 4294967295)) (by omega) (by omega), ab_arg (p := (0, 4294967295)) (by omega) (by omega), ab_arg (p := (0, 4294967295)) (by omega) (by omega), ab_arg (p := (0, 4294967295)) (by omega) (by omega), trivial⟩
    · skip
      exact eqv_int (as := [(3, 0, 0), (0, 2147483656, 4294967295), (0, 0, 4294967295), (0, 0, 4294967295), (0, 0, 4294967295), (0, 0, 4294967295), (0, 0, 4294967295)]) (0) (by decide +kernel) ⟨ab_ref0, ab_arg (p := (2147483656, 4294967295)) (by omega) (by omega), ab_arg (p := (0, 4294967295)) (by omega) (by omega), ab_arg (p := (0, 4294967295)) (by omega) (by omega), ab_arg (p := (0, 4294967295)) (by omega) (by omega), ab_arg (p := (0, 4294967295)) (by omega) (by omega), ab_arg (p := (0, 4294967295)) (by omega) (by omega), trivial⟩
