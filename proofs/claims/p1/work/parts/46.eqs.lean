set_option maxRecDepth 100000 in
theorem eq_hail (a : Int32) : eqv 124 243 [.ref 0, .int a] := by
  have la := ab_n_lt a
  by_cases c0_0 : ab_n a < 2147483648
  · exact eqv_int (as := [(3, 0, 0), (0, 0, 2147483647)]) (-1) (by decide +kernel) ⟨ab_ref0, ab_arg (p := (0, 2147483647)) (by omega) (by omega), trivial⟩
  · skip
    by_cases c0_1 : ab_n a < 2147483712
    · exact eqv_int (as := [(3, 0, 0), (0, 2147483648, 2147483711)]) (0) (by decide +kernel) ⟨ab_ref0, ab_arg (p := (2147483648, 2147483711)) (by omega) (by omega), trivial⟩
    · skip
      exact eqv_int (as := [(3, 0, 0), (0, 2147483712, 4294967295)]) (-1) (by decide +kernel) ⟨ab_ref0, ab_arg (p := (2147483712, 4294967295)) (by omega) (by omega), trivial⟩

set_option maxRecDepth 100000 in
theorem eq_pollinate (a b : Int32) : eqv 120 230 [.ref 0, .int a, .int b] := by
  have la := ab_n_lt a
  have lb := ab_n_lt b
  by_cases c0_0 : ab_n a < 2147483648
  · exact eqv_int (as := [(3, 0, 0), (0, 0, 2147483647), (0, 0, 4294967295)]) (-1) (by decide +kernel) ⟨ab_ref0, ab_arg (p := (0, 2147483647)) (by omega) (by omega), ab_arg (p := (0, 4294967295)) (by omega) (by omega), trivial⟩
  · skip
    by_cases c0_1 : ab_n a < 2147483649
    · by_cases c1_0 : ab_n b < 2147483648
      · exact eqv_int (as := [(3, 0, 0), (0, 2147483648, 2147483648), (0, 0, 2147483647)]) (-1) (by decide +kernel) ⟨ab_ref0, ab_arg (p := (2147483648, 2147483648)) (by omega) (by omega), ab_arg (p := (0, 2147483647)) (by omega) (by omega), trivial⟩
      · skip
        by_cases c1_1 : ab_n b < 2147483654
        · exact eqv_int (as := [(3, 0, 0), (0, 2147483648, 2147483648), (0, 2147483648, 2147483653)]) (0) (by decide +kernel) ⟨ab_ref0, ab_arg (p := (2147483648, 2147483648)) (by omega) (by omega), ab_arg (p := (2147483648, 2147483653)) (by omega) (by omega), trivial⟩
        · skip
          exact eqv_int (as := [(3, 0, 0), (0, 2147483648, 2147483648), (0, 2147483654, 4294967295)]) (-1) (by decide +kernel) ⟨ab_ref0, ab_arg (p := (2147483648, 2147483648)) (by omega) (by omega), ab_arg (p := (2147483654, 4294967295)) (by omega) (by omega), trivial⟩
    · skip
      by_cases c0_2 : ab_n a < 2147483650
      · by_cases c1_0 : ab_n b < 2147483648
        · exact eqv_int (as := [(3, 0, 0), (0, 2147483649, 2147483649), (0, 0, 2147483647)]) (-1) (by decide +kernel) ⟨ab_ref0, ab_arg (p := (2147483649, 2147483649)) (by omega) (by omega), ab_arg (p := (0, 2147483647)) (by omega) (by omega), trivial⟩
        · skip
          by_cases c1_1 : ab_n b < 2147483654
          · exact eqv_int (as := [(3, 0, 0), (0, 2147483649, 2147483649), (0, 2147483648, 2147483653)]) (0) (by decide +kernel) ⟨ab_ref0, ab_arg (p := (2147483649, 2147483649)) (by omega) (by omega), ab_arg (p := (2147483648, 2147483653)) (by omega) (by omega), trivial⟩
          · skip
            exact eqv_int (as := [(3, 0, 0), (0, 2147483649, 2147483649), (0, 2147483654, 4294967295)]) (-1) (by decide +kernel) ⟨ab_ref0, ab_arg (p := (2147483649, 2147483649)) (by omega) (by omega), ab_arg (p := (2147483654, 4294967295)) (by omega) (by omega), trivial⟩
      · skip
        by_cases c0_3 : ab_n a < 2147483651
        · by_cases c1_0 : ab_n b < 2147483648
          · exact eqv_int (as := [(3, 0, 0), (0, 2147483650, 2147483650), (0, 0, 2147483647)]) (-1) (by decide +kernel) ⟨ab_ref0, ab_arg (p := (2147483650, 2147483650)) (by omega) (by omega), ab_arg (p := (0, 2147483647)) (by omega) (by omega), trivial⟩
          · skip
            by_cases c1_1 : ab_n b < 2147483654
            · exact eqv_int (as := [(3, 0, 0), (0, 2147483650, 2147483650), (0, 2147483648, 2147483653)]) (0) (by decide +kernel) ⟨ab_ref0, ab_arg (p := (2147483650, 2147483650)) (by omega) (by omega), ab_arg (p := (2147483648, 2147483653)) (by omega) (by omega), trivial⟩
            · skip
              exact eqv_int (as := [(3, 0, 0), (0, 2147483650, 2147483650), (0, 2147483654, 4294967295)]) (-1) (by decide +kernel) ⟨ab_ref0, ab_arg (p := (2147483650, 2147483650)) (by omega) (by omega), ab_arg (p := (2147483654, 4294967295)) (by omega) (by omega), trivial⟩
        · skip
          by_cases c0_4 : ab_n a < 2147483652
          · by_cases c1_0 : ab_n b < 2147483648
            · exact eqv_int (as := [(3, 0, 0), (0, 2147483651, 2147483651), (0, 0, 2147483647)]) (-1) (by decide +kernel) ⟨ab_ref0, ab_arg (p := (2147483651, 2147483651)) (by omega) (by omega), ab_arg (p := (0, 2147483647)) (by omega) (by omega), trivial⟩
            · skip
              by_cases c1_1 : ab_n b < 2147483654
              · exact eqv_int (as := [(3, 0, 0), (0, 2147483651, 2147483651), (0, 2147483648, 2147483653)]) (0) (by decide +kernel) ⟨ab_ref0, ab_arg (p := (2147483651, 2147483651)) (by omega) (by omega), ab_arg (p := (2147483648, 2147483653)) (by omega) (by omega), trivial⟩
              · skip
                exact eqv_int (as := [(3, 0, 0), (0, 2147483651, 2147483651), (0, 2147483654, 4294967295)]) (-1) (by decide +kernel) ⟨ab_ref0, ab_arg (p := (2147483651, 2147483651)) (by omega) (by omega), ab_arg (p := (2147483654, 4294967295)) (by omega) (by omega), trivial⟩
          · skip
            by_cases c0_5 : ab_n a < 2147483653
            · by_cases c1_0 : ab_n b < 2147483648
              · exact eqv_int (as := [(3, 0, 0), (0, 2147483652, 2147483652), (0, 0, 2147483647)]) (-1) (by decide +kernel) ⟨ab_ref0, ab_arg (p := (2147483652, 2147483652)) (by omega) (by omega), ab_arg (p := (0, 2147483647)) (by omega) (by omega), trivial⟩
              · skip
                by_cases c1_1 : ab_n b < 2147483654
                · exact eqv_int (as := [(3, 0, 0), (0, 2147483652, 2147483652), (0, 2147483648, 2147483653)]) (0) (by decide +kernel) ⟨ab_ref0, ab_arg (p := (2147483652, 2147483652)) (by omega) (by omega), ab_arg (p := (2147483648, 2147483653)) (by omega) (by omega), trivial⟩
                · skip
                  exact eqv_int (as := [(3, 0, 0), (0, 2147483652, 2147483652), (0, 2147483654, 4294967295)]) (-1) (by decide +kernel) ⟨ab_ref0, ab_arg (p := (2147483652, 2147483652)) (by omega) (by omega), ab_arg (p := (2147483654, 4294967295)) (by omega) (by omega), trivial⟩
            · skip
              by_cases c0_6 : ab_n a < 2147483654
              · by_cases c1_0 : ab_n b < 2147483648
                · exact eqv_int (as := [(3, 0, 0), (0, 2147483653, 2147483653), (0, 0, 2147483647)]) (-1) (by decide +kernel) ⟨ab_ref0, ab_arg (p := (2147483653, 2147483653)) (by omega) (by omega), ab_arg (p := (0, 2147483647)) (by omega) (by omega), trivial⟩
                · skip
                  by_cases c1_1 : ab_n b < 2147483654
                  · exact eqv_int (as := [(3, 0, 0), (0, 2147483653, 2147483653), (0, 2147483648, 2147483653)]) (0) (by decide +kernel) ⟨ab_ref0, ab_arg (p := (2147483653, 2147483653)) (by omega) (by omega), ab_arg (p := (2147483648, 2147483653)) (by omega) (by omega), trivial⟩
                  · skip
                    exact eqv_int (as := [(3, 0, 0), (0, 2147483653, 2147483653), (0, 2147483654, 4294967295)]) (-1) (by decide +kernel) ⟨ab_ref0, ab_arg (p := (2147483653, 2147483653)) (by omega) (by omega), ab_arg (p := (2147483654, 4294967295)) (by omega) (by omega), trivial⟩
              · skip
                by_cases c0_7 : ab_n a < 2147483655
                · by_cases c1_0 : ab_n b < 2147483648
                  · exact eqv_int (as := [(3, 0, 0), (0, 2147483654, 2147483654), (0, 0, 2147483647)]) (-1) (by decide +kernel) ⟨ab_ref0, ab_arg (p := (2147483654, 2147483654)) (by omega) (by omega), ab_arg (p := (0, 2147483647)) (by omega) (by omega), trivial⟩
                  · skip
                    by_cases c1_1 : ab_n b < 2147483654
                    · exact eqv_int (as := [(3, 0, 0), (0, 2147483654, 2147483654), (0, 2147483648, 2147483653)]) (0) (by decide +kernel) ⟨ab_ref0, ab_arg (p := (2147483654, 2147483654)) (by omega) (by omega), ab_arg (p := (2147483648, 2147483653)) (by omega) (by omega), trivial⟩
                    · skip
                      exact eqv_int (as := [(3, 0, 0), (0, 2147483654, 2147483654), (0, 2147483654, 4294967295)]) (-1) (by decide +kernel) ⟨ab_ref0, ab_arg (p := (2147483654, 2147483654)) (by omega) (by omega), ab_arg (p := (2147483654, 4294967295)) (by omega) (by omega), trivial⟩
                · skip
                  by_cases c0_8 : ab_n a < 2147483656
                  · by_cases c1_0 : ab_n b < 2147483648
                    · exact eqv_int (as := [(3, 0, 0), (0, 2147483655, 2147483655), (0, 0, 2147483647)]) (-1) (by decide +kernel) ⟨ab_ref0, ab_arg (p := (2147483655, 2147483655)) (by omega) (by omega), ab_arg (p := (0, 2147483647)) (by omega) (by omega), trivial⟩
                    · skip
                      by_cases c1_1 : ab_n b < 2147483654
                      · exact eqv_int (as := [(3, 0, 0), (0, 2147483655, 2147483655), (0, 2147483648, 2147483653)]) (0) (by decide +kernel) ⟨ab_ref0, ab_arg (p := (2147483655, 2147483655)) (by omega) (by omega), ab_arg (p := (2147483648, 2147483653)) (by omega) (by omega), trivial⟩
                      · skip
                        exact eqv_int (as := [(3, 0, 0), (0, 2147483655, 2147483655), (0, 2147483654, 4294967295)]) (-1) (by decide +kernel) ⟨ab_ref0, ab_arg (p := (2147483655, 2147483655)) (by omega) (by omega), ab_arg (p := (2147483654, 4294967295)) (by omega) (by omega), trivial⟩
                  · skip
                    exact eqv_int (as := [(3, 0, 0), (0, 2147483656, 4294967295), (0, 0, 4294967295)]) (-1) (by decide +kernel) ⟨ab_ref0, ab_arg (p := (2147483656, 4294967295)) (by omega) (by omega), ab_arg (p := (0, 4294967295)) (by omega) (by omega), trivial⟩

set_option maxRecDepth 100000 in
theorem eq_check (a b : Int32) : eqv 125 245 [.ref 0, .int a, .int b] := by
  have la := ab_n_lt a
  have lb := ab_n_lt b
  by_cases c0_0 : ab_n a < 2147483648
  · exact eqv_int (as := [(3, 0, 0), (0, 0, 2147483647), (0, 0, 4294967295)]) (-2) (by decide +kernel) ⟨ab_ref0, ab_arg (p := (0, 2147483647)) (by omega) (by omega), ab_arg (p := (0, 4294967295)) (by omega) (by omega), trivial⟩
  · skip
    by_cases c0_1 : ab_n a < 2147483656
    · by_cases c1_0 : ab_n b < 2147483648
      · exact eqv_int (as := [(3, 0, 0), (0, 2147483648, 2147483655), (0, 0, 2147483647)]) (-2) (by decide +kernel) ⟨ab_ref0, ab_arg (p := (2147483648, 2147483655)) (by omega) (by omega), ab_arg (p := (0, 2147483647)) (by omega) (by omega), trivial⟩
      · skip
        by_cases c1_1 : ab_n b < 2147483649
        · exact eqv_int (as := [(3, 0, 0), (0, 2147483648, 2147483655), (0, 2147483648, 2147483648)]) (0) (by decide +kernel) ⟨ab_ref0, ab_arg (p := (2147483648, 2147483655)) (by omega) (by omega), ab_arg (p := (2147483648, 2147483648)) (by omega) (by omega), trivial⟩
        · skip
          exact eqv_int (as := [(3, 0, 0), (0, 2147483648, 2147483655), (0, 2147483649, 4294967295)]) (-2) (by decide +kernel) ⟨ab_ref0, ab_arg (p := (2147483648, 2147483655)) (by omega) (by omega), ab_arg (p := (2147483649, 4294967295)) (by omega) (by omega), trivial⟩
    · skip
      exact eqv_int (as := [(3, 0, 0), (0, 2147483656, 4294967295), (0, 0, 4294967295)]) (-2) (by decide +kernel) ⟨ab_ref0, ab_arg (p := (2147483656, 4294967295)) (by omega) (by omega), ab_arg (p := (0, 4294967295)) (by omega) (by omega), trivial⟩

set_option maxRecDepth 100000 in
theorem eq_feed (a b c d e : Int32) : eqv 103 161 [.ref 0, .int a, .int b, .int c, .int d, .int e] := by
  have la := ab_n_lt a
  have lb := ab_n_lt b
  have lc := ab_n_lt c
  have ld := ab_n_lt d
  have le := ab_n_lt e
  exact eqv_int (as := [(3, 0, 0), (0, 0, 4294967295), (0, 0, 4294967295), (0, 0, 4294967295), (0, 0, 4294967295), (0, 0, 4294967295)]) (20) (by decide +kernel) ⟨ab_ref0, ab_arg (p := (0, 4294967295)) (by omega) (by omega), ab_arg (p := (0, 4294967295)) (by omega) (by omega), ab_arg (p := (0, 4294967295)) (by omega) (by omega), ab_arg (p := (0, 4294967295)) (by omega) (by omega), ab_arg (p := (0, 4294967295)) (by omega) (by omega), trivial⟩

set_option maxRecDepth 100000 in
theorem eq_kitchenIs (a b : Int32) : eqv 116 216 [.ref 0, .int a, .int b] := by
  have la := ab_n_lt a
  have lb := ab_n_lt b
  by_cases c0_0 : ab_n a < 2147483648
  · exact eqv_int (as := [(3, 0, 0), (0, 0, 2147483647), (0, 0, 4294967295)]) (-1) (by decide +kernel) ⟨ab_ref0, ab_arg (p := (0, 2147483647)) (by omega) (by omega), ab_arg (p := (0, 4294967295)) (by omega) (by omega), trivial⟩
  · skip
    by_cases c0_1 : ab_n a < 2147483656
    · by_cases c1_0 : ab_n b < 2147483648
      · exact eqv_int (as := [(3, 0, 0), (0, 2147483648, 2147483655), (0, 0, 2147483647)]) (-1) (by decide +kernel) ⟨ab_ref0, ab_arg (p := (2147483648, 2147483655)) (by omega) (by omega), ab_arg (p := (0, 2147483647)) (by omega) (by omega), trivial⟩
      · skip
        by_cases c1_1 : ab_n b < 2147483649
        · exact eqv_int (as := [(3, 0, 0), (0, 2147483648, 2147483655), (0, 2147483648, 2147483648)]) (0) (by decide +kernel) ⟨ab_ref0, ab_arg (p := (2147483648, 2147483655)) (by omega) (by omega), ab_arg (p := (2147483648, 2147483648)) (by omega) (by omega), trivial⟩
        · skip
          by_cases c1_2 : ab_n b < 2147483650
          · exact eqv_int (as := [(3, 0, 0), (0, 2147483648, 2147483655), (0, 2147483649, 2147483649)]) (9999) (by decide +kernel) ⟨ab_ref0, ab_arg (p := (2147483648, 2147483655)) (by omega) (by omega), ab_arg (p := (2147483649, 2147483649)) (by omega) (by omega), trivial⟩
          · skip
            by_cases c1_3 : ab_n b < 2147483652
            · exact eqv_int (as := [(3, 0, 0), (0, 2147483648, 2147483655), (0, 2147483650, 2147483651)]) (0) (by decide +kernel) ⟨ab_ref0, ab_arg (p := (2147483648, 2147483655)) (by omega) (by omega), ab_arg (p := (2147483650, 2147483651)) (by omega) (by omega), trivial⟩
            · skip
              exact eqv_int (as := [(3, 0, 0), (0, 2147483648, 2147483655), (0, 2147483652, 4294967295)]) (-1) (by decide +kernel) ⟨ab_ref0, ab_arg (p := (2147483648, 2147483655)) (by omega) (by omega), ab_arg (p := (2147483652, 4294967295)) (by omega) (by omega), trivial⟩
    · skip
      exact eqv_int (as := [(3, 0, 0), (0, 2147483656, 4294967295), (0, 0, 4294967295)]) (-1) (by decide +kernel) ⟨ab_ref0, ab_arg (p := (2147483656, 4294967295)) (by omega) (by omega), ab_arg (p := (0, 4294967295)) (by omega) (by omega), trivial⟩

set_option maxRecDepth 100000 in
theorem eq_mayWork (a b c : Int32) : eqv 117 219 [.ref 0, .int a, .int b, .int c] := by
  have la := ab_n_lt a
  have lb := ab_n_lt b
  have lc := ab_n_lt c
  by_cases c0_0 : ab_n a < 2147483649
  · exact eqv_int (as := [(3, 0, 0), (0, 0, 2147483648), (0, 0, 4294967295), (0, 0, 4294967295)]) (-1) (by decide +kernel) ⟨ab_ref0, ab_arg (p := (0, 2147483648)) (by omega) (by omega), ab_arg (p := (0, 4294967295)) (by omega) (by omega), ab_arg (p := (0, 4294967295)) (by omega) (by omega), trivial⟩
  · skip
    by_cases c0_1 : ab_n a < 2147483748
    · by_cases c1_0 : ab_n b < 2147483648
      · exact eqv_int (as := [(3, 0, 0), (0, 2147483649, 2147483747), (0, 0, 2147483647), (0, 0, 4294967295)]) (-1) (by decide +kernel) ⟨ab_ref0, ab_arg (p := (2147483649, 2147483747)) (by omega) (by omega), ab_arg (p := (0, 2147483647)) (by omega) (by omega), ab_arg (p := (0, 4294967295)) (by omega) (by omega), trivial⟩
      · skip
        by_cases c1_1 : ab_n b < 2147483656
        · by_cases c2_0 : ab_n c < 2147483648
          · exact eqv_int (as := [(3, 0, 0), (0, 2147483649, 2147483747), (0, 2147483648, 2147483655), (0, 0, 2147483647)]) (-1) (by decide +kernel) ⟨ab_ref0, ab_arg (p := (2147483649, 2147483747)) (by omega) (by omega), ab_arg (p := (2147483648, 2147483655)) (by omega) (by omega), ab_arg (p := (0, 2147483647)) (by omega) (by omega), trivial⟩
          · skip
            by_cases c2_1 : ab_n c < 2147483654
            · exact eqv_int (as := [(3, 0, 0), (0, 2147483649, 2147483747), (0, 2147483648, 2147483655), (0, 2147483648, 2147483653)]) (0) (by decide +kernel) ⟨ab_ref0, ab_arg (p := (2147483649, 2147483747)) (by omega) (by omega), ab_arg (p := (2147483648, 2147483655)) (by omega) (by omega), ab_arg (p := (2147483648, 2147483653)) (by omega) (by omega), trivial⟩
            · skip
              exact eqv_int (as := [(3, 0, 0), (0, 2147483649, 2147483747), (0, 2147483648, 2147483655), (0, 2147483654, 4294967295)]) (-1) (by decide +kernel) ⟨ab_ref0, ab_arg (p := (2147483649, 2147483747)) (by omega) (by omega), ab_arg (p := (2147483648, 2147483655)) (by omega) (by omega), ab_arg (p := (2147483654, 4294967295)) (by omega) (by omega), trivial⟩
        · skip
          exact eqv_int (as := [(3, 0, 0), (0, 2147483649, 2147483747), (0, 2147483656, 4294967295), (0, 0, 4294967295)]) (-1) (by decide +kernel) ⟨ab_ref0, ab_arg (p := (2147483649, 2147483747)) (by omega) (by omega), ab_arg (p := (2147483656, 4294967295)) (by omega) (by omega), ab_arg (p := (0, 4294967295)) (by omega) (by omega), trivial⟩
    · skip
      exact eqv_int (as := [(3, 0, 0), (0, 2147483748, 4294967295), (0, 0, 4294967295), (0, 0, 4294967295)]) (-1) (by decide +kernel) ⟨ab_ref0, ab_arg (p := (2147483748, 4294967295)) (by omega) (by omega), ab_arg (p := (0, 4294967295)) (by omega) (by omega), ab_arg (p := (0, 4294967295)) (by omega) (by omega), trivial⟩

set_option maxRecDepth 100000 in
theorem eq_count (a : Int32) : eqv 126 247 [.ref 0, .int a] := by
  have la := ab_n_lt a
  by_cases c0_0 : ab_n a < 2147483648
  · exact eqv_int (as := [(3, 0, 0), (0, 0, 2147483647)]) (-1) (by decide +kernel) ⟨ab_ref0, ab_arg (p := (0, 2147483647)) (by omega) (by omega), trivial⟩
  · skip
    by_cases c0_1 : ab_n a < 2147483649
    · exact eqv_int (as := [(3, 0, 0), (0, 2147483648, 2147483648)]) (0) (by decide +kernel) ⟨ab_ref0, ab_arg (p := (2147483648, 2147483648)) (by omega) (by omega), trivial⟩
    · skip
      by_cases c0_2 : ab_n a < 2147483650
      · exact eqv_int (as := [(3, 0, 0), (0, 2147483649, 2147483649)]) (0) (by decide +kernel) ⟨ab_ref0, ab_arg (p := (2147483649, 2147483649)) (by omega) (by omega), trivial⟩
      · skip
        by_cases c0_3 : ab_n a < 2147483651
        · exact eqv_int (as := [(3, 0, 0), (0, 2147483650, 2147483650)]) (0) (by decide +kernel) ⟨ab_ref0, ab_arg (p := (2147483650, 2147483650)) (by omega) (by omega), trivial⟩
        · skip
          by_cases c0_4 : ab_n a < 2147483652
          · exact eqv_int (as := [(3, 0, 0), (0, 2147483651, 2147483651)]) (0) (by decide +kernel) ⟨ab_ref0, ab_arg (p := (2147483651, 2147483651)) (by omega) (by omega), trivial⟩
          · skip
            by_cases c0_5 : ab_n a < 2147483653
            · exact eqv_int (as := [(3, 0, 0), (0, 2147483652, 2147483652)]) (0) (by decide +kernel) ⟨ab_ref0, ab_arg (p := (2147483652, 2147483652)) (by omega) (by omega), trivial⟩
            · skip
              by_cases c0_6 : ab_n a < 2147483654
              · exact eqv_int (as := [(3, 0, 0), (0, 2147483653, 2147483653)]) (1) (by decide +kernel) ⟨ab_ref0, ab_arg (p := (2147483653, 2147483653)) (by omega) (by omega), trivial⟩
              · skip
                by_cases c0_7 : ab_n a < 2147483655
                · exact eqv_int (as := [(3, 0, 0), (0, 2147483654, 2147483654)]) (0) (by decide +kernel) ⟨ab_ref0, ab_arg (p := (2147483654, 2147483654)) (by omega) (by omega), trivial⟩
                · skip
                  by_cases c0_8 : ab_n a < 2147483658
                  · exact eqv_int (as := [(3, 0, 0), (0, 2147483655, 2147483657)]) (-1) (by decide +kernel) ⟨ab_ref0, ab_arg (p := (2147483655, 2147483657)) (by omega) (by omega), trivial⟩
                  · skip
                    by_cases c0_9 : ab_n a < 2147483666
                    · exact eqv_int (as := [(3, 0, 0), (0, 2147483658, 2147483665)]) (0) (by decide +kernel) ⟨ab_ref0, ab_arg (p := (2147483658, 2147483665)) (by omega) (by omega), trivial⟩
                    · skip
                      by_cases c0_10 : ab_n a < 2147483668
                      · exact eqv_int (as := [(3, 0, 0), (0, 2147483666, 2147483667)]) (-1) (by decide +kernel) ⟨ab_ref0, ab_arg (p := (2147483666, 2147483667)) (by omega) (by omega), trivial⟩
                      · skip
                        by_cases c0_11 : ab_n a < 2147483669
                        · exact eqv_int (as := [(3, 0, 0), (0, 2147483668, 2147483668)]) (1) (by decide +kernel) ⟨ab_ref0, ab_arg (p := (2147483668, 2147483668)) (by omega) (by omega), trivial⟩
                        · skip
                          by_cases c0_12 : ab_n a < 2147483670
                          · exact eqv_int (as := [(3, 0, 0), (0, 2147483669, 2147483669)]) (50) (by decide +kernel) ⟨ab_ref0, ab_arg (p := (2147483669, 2147483669)) (by omega) (by omega), trivial⟩
                          · skip
                            by_cases c0_13 : ab_n a < 2147483671
                            · exact eqv_int (as := [(3, 0, 0), (0, 2147483670, 2147483670)]) (1) (by decide +kernel) ⟨ab_ref0, ab_arg (p := (2147483670, 2147483670)) (by omega) (by omega), trivial⟩
                            · skip
                              by_cases c0_14 : ab_n a < 2147483672
                              · exact eqv_int (as := [(3, 0, 0), (0, 2147483671, 2147483671)]) (1) (by decide +kernel) ⟨ab_ref0, ab_arg (p := (2147483671, 2147483671)) (by omega) (by omega), trivial⟩
                              · skip
                                by_cases c0_15 : ab_n a < 2147483673
                                · exact eqv_int (as := [(3, 0, 0), (0, 2147483672, 2147483672)]) (50) (by decide +kernel) ⟨ab_ref0, ab_arg (p := (2147483672, 2147483672)) (by omega) (by omega), trivial⟩
                                · skip
                                  by_cases c0_16 : ab_n a < 2147483674
                                  · exact eqv_int (as := [(3, 0, 0), (0, 2147483673, 2147483673)]) (1) (by decide +kernel) ⟨ab_ref0, ab_arg (p := (2147483673, 2147483673)) (by omega) (by omega), trivial⟩
                                  · skip
                                    by_cases c0_17 : ab_n a < 2147483675
                                    · exact eqv_int (as := [(3, 0, 0), (0, 2147483674, 2147483674)]) (1) (by decide +kernel) ⟨ab_ref0, ab_arg (p := (2147483674, 2147483674)) (by omega) (by omega), trivial⟩
                                    · skip
                                      by_cases c0_18 : ab_n a < 2147483676
                                      · exact eqv_int (as := [(3, 0, 0), (0, 2147483675, 2147483675)]) (50) (by decide +kernel) ⟨ab_ref0, ab_arg (p := (2147483675, 2147483675)) (by omega) (by omega), trivial⟩
                                      · skip
                                        by_cases c0_19 : ab_n a < 2147483677
                                        · exact eqv_int (as := [(3, 0, 0), (0, 2147483676, 2147483676)]) (1) (by decide +kernel) ⟨ab_ref0, ab_arg (p := (2147483676, 2147483676)) (by omega) (by omega), trivial⟩
                                        · skip
                                          by_cases c0_20 : ab_n a < 2147483678
                                          · exact eqv_int (as := [(3, 0, 0), (0, 2147483677, 2147483677)]) (1) (by decide +kernel) ⟨ab_ref0, ab_arg (p := (2147483677, 2147483677)) (by omega) (by omega), trivial⟩
                                          · skip
                                            by_cases c0_21 : ab_n a < 2147483679
                                            · exact eqv_int (as := [(3, 0, 0), (0, 2147483678, 2147483678)]) (50) (by decide +kernel) ⟨ab_ref0, ab_arg (p := (2147483678, 2147483678)) (by omega) (by omega), trivial⟩
                                            · skip
                                              by_cases c0_22 : ab_n a < 2147483680
                                              · exact eqv_int (as := [(3, 0, 0), (0, 2147483679, 2147483679)]) (1) (by decide +kernel) ⟨ab_ref0, ab_arg (p := (2147483679, 2147483679)) (by omega) (by omega), trivial⟩
                                              · skip
                                                by_cases c0_23 : ab_n a < 2147483681
                                                · exact eqv_int (as := [(3, 0, 0), (0, 2147483680, 2147483680)]) (1) (by decide +kernel) ⟨ab_ref0, ab_arg (p := (2147483680, 2147483680)) (by omega) (by omega), trivial⟩
                                                · skip
                                                  by_cases c0_24 : ab_n a < 2147483682
                                                  · exact eqv_int (as := [(3, 0, 0), (0, 2147483681, 2147483681)]) (50) (by decide +kernel) ⟨ab_ref0, ab_arg (p := (2147483681, 2147483681)) (by omega) (by omega), trivial⟩
                                                  · skip
                                                    by_cases c0_25 : ab_n a < 2147483683
                                                    · exact eqv_int (as := [(3, 0, 0), (0, 2147483682, 2147483682)]) (1) (by decide +kernel) ⟨ab_ref0, ab_arg (p := (2147483682, 2147483682)) (by omega) (by omega), trivial⟩
                                                    · skip
                                                      by_cases c0_26 : ab_n a < 2147483684
                                                      · exact eqv_int (as := [(3, 0, 0), (0, 2147483683, 2147483683)]) (1) (by decide +kernel) ⟨ab_ref0, ab_arg (p := (2147483683, 2147483683)) (by omega) (by omega), trivial⟩
                                                      · skip
                                                        by_cases c0_27 : ab_n a < 2147483685
                                                        · exact eqv_int (as := [(3, 0, 0), (0, 2147483684, 2147483684)]) (50) (by decide +kernel) ⟨ab_ref0, ab_arg (p := (2147483684, 2147483684)) (by omega) (by omega), trivial⟩
                                                        · skip
                                                          by_cases c0_28 : ab_n a < 2147483686
                                                          · exact eqv_int (as := [(3, 0, 0), (0, 2147483685, 2147483685)]) (1) (by decide +kernel) ⟨ab_ref0, ab_arg (p := (2147483685, 2147483685)) (by omega) (by omega), trivial⟩
                                                          · skip
                                                            exact eqv_int (as := [(3, 0, 0), (0, 2147483686, 4294967295)]) (-1) (by decide +kernel) ⟨ab_ref0, ab_arg (p := (2147483686, 4294967295)) (by omega) (by omega), trivial⟩

set_option maxRecDepth 100000 in
theorem eq_water : eqv 107 196 [.ref 0] := by
  exact eqv_int (as := [(3, 0, 0)]) (0) (by decide +kernel) ⟨ab_ref0, trivial⟩

set_option maxRecDepth 100000 in
theorem eq_go : eqv 109 207 [.ref 0] := by
  exact eqv_int (as := [(3, 0, 0)]) (0) (by decide +kernel) ⟨ab_ref0, trivial⟩

set_option maxRecDepth 100000 in
theorem eq_day : eqv 110 209 [.ref 0] := by
  exact eqv_int (as := [(3, 0, 0)]) (0) (by decide +kernel) ⟨ab_ref0, trivial⟩
