/-! THE TABLES BY CHUNKS -/
theorem dq_ar {α : Type} {l1 l2 : List α} {n q : Nat} {w : α} (hn : l1.length = n) (h : l2[q]? = some w) : (l1 ++ l2)[n + q]? = some w := by
  rw [← hn, List.getElem?_append_right (by omega), Nat.add_sub_cancel_left]
  exact h
theorem dq_al {α : Type} {l1 l2 : List α} {q : Nat} {w : α} (h : l1[q]? = some w) : (l1 ++ l2)[q]? = some w := by
  rw [List.getElem?_append_left (List.getElem?_eq_some_iff.mp h).1]
  exact h
set_option maxRecDepth 100000 in
theorem dq_n0 : (k2_sels lw_privs).length = 145 := by decide +kernel
set_option maxRecDepth 100000 in
theorem dq_n1 : tables_1_1.length = 240 := by decide +kernel
set_option maxRecDepth 100000 in
theorem dq_n2 : tables_1_2.length = 240 := by decide +kernel
set_option maxRecDepth 100000 in
theorem dq_n3 : tables_1_3.length = 240 := by decide +kernel
set_option maxRecDepth 100000 in
theorem dq_n4 : tables_1_4.length = 240 := by decide +kernel
set_option maxRecDepth 100000 in
theorem dq_n5 : tables_1_5.length = 240 := by decide +kernel
set_option maxRecDepth 100000 in
theorem dq_n6 : tables_1_6.length = 240 := by decide +kernel
set_option maxRecDepth 100000 in
theorem dq_n7 : tables_1_7.length = 240 := by decide +kernel
theorem dq_o1 {q : Nat} {w : Cond} (h : tables_1_1[q]? = some w) : lw_tbl[145 + q]? = some w := dq_ar dq_n0 (dq_al h)
theorem dq_m1 (q : Nat) {w : Cond} (h : tables_1_1[q]? = some w) : w ∈ lw_tbl := List.mem_of_getElem? (dq_o1 h)
theorem dq_o2 {q : Nat} {w : Cond} (h : tables_1_2[q]? = some w) : lw_tbl[145 + (240 + q)]? = some w := dq_ar dq_n0 (dq_ar dq_n1 (dq_al h))
theorem dq_m2 (q : Nat) {w : Cond} (h : tables_1_2[q]? = some w) : w ∈ lw_tbl := List.mem_of_getElem? (dq_o2 h)
theorem dq_o3 {q : Nat} {w : Cond} (h : tables_1_3[q]? = some w) : lw_tbl[145 + (240 + (240 + q))]? = some w := dq_ar dq_n0 (dq_ar dq_n1 (dq_ar dq_n2 (dq_al h)))
theorem dq_m3 (q : Nat) {w : Cond} (h : tables_1_3[q]? = some w) : w ∈ lw_tbl := List.mem_of_getElem? (dq_o3 h)
theorem dq_o4 {q : Nat} {w : Cond} (h : tables_1_4[q]? = some w) : lw_tbl[145 + (240 + (240 + (240 + q)))]? = some w := dq_ar dq_n0 (dq_ar dq_n1 (dq_ar dq_n2 (dq_ar dq_n3 (dq_al h))))
theorem dq_m4 (q : Nat) {w : Cond} (h : tables_1_4[q]? = some w) : w ∈ lw_tbl := List.mem_of_getElem? (dq_o4 h)
theorem dq_o5 {q : Nat} {w : Cond} (h : tables_1_5[q]? = some w) : lw_tbl[145 + (240 + (240 + (240 + (240 + q))))]? = some w := dq_ar dq_n0 (dq_ar dq_n1 (dq_ar dq_n2 (dq_ar dq_n3 (dq_ar dq_n4 (dq_al h)))))
theorem dq_m5 (q : Nat) {w : Cond} (h : tables_1_5[q]? = some w) : w ∈ lw_tbl := List.mem_of_getElem? (dq_o5 h)
theorem dq_o6 {q : Nat} {w : Cond} (h : tables_1_6[q]? = some w) : lw_tbl[145 + (240 + (240 + (240 + (240 + (240 + q)))))]? = some w := dq_ar dq_n0 (dq_ar dq_n1 (dq_ar dq_n2 (dq_ar dq_n3 (dq_ar dq_n4 (dq_ar dq_n5 (dq_al h))))))
theorem dq_m6 (q : Nat) {w : Cond} (h : tables_1_6[q]? = some w) : w ∈ lw_tbl := List.mem_of_getElem? (dq_o6 h)
theorem dq_o7 {q : Nat} {w : Cond} (h : tables_1_7[q]? = some w) : lw_tbl[145 + (240 + (240 + (240 + (240 + (240 + (240 + q))))))]? = some w := dq_ar dq_n0 (dq_ar dq_n1 (dq_ar dq_n2 (dq_ar dq_n3 (dq_ar dq_n4 (dq_ar dq_n5 (dq_ar dq_n6 (dq_al h)))))))
theorem dq_m7 (q : Nat) {w : Cond} (h : tables_1_7[q]? = some w) : w ∈ lw_tbl := List.mem_of_getElem? (dq_o7 h)
theorem dq_o8 {q : Nat} {w : Cond} (h : tables_1_8[q]? = some w) : lw_tbl[145 + (240 + (240 + (240 + (240 + (240 + (240 + (240 + q)))))))]? = some w := dq_ar dq_n0 (dq_ar dq_n1 (dq_ar dq_n2 (dq_ar dq_n3 (dq_ar dq_n4 (dq_ar dq_n5 (dq_ar dq_n6 (dq_ar dq_n7 (h))))))))
theorem dq_m8 (q : Nat) {w : Cond} (h : tables_1_8[q]? = some w) : w ∈ lw_tbl := List.mem_of_getElem? (dq_o8 h)
theorem dq_m0 (q : Nat) {w : Cond} (h : (k2_sels lw_privs)[q]? = some w) : w ∈ lw_tbl := List.mem_of_getElem? (i := q) (dq_al h)
def lw_look (p : Nat) : Option Cond := if p < 145 then (k2_sels lw_privs)[p]? else if p < 385 then tables_1_1[p - 145]? else if p < 625 then tables_1_2[p - 385]? else if p < 865 then tables_1_3[p - 625]? else if p < 1105 then tables_1_4[p - 865]? else if p < 1345 then tables_1_5[p - 1105]? else if p < 1585 then tables_1_6[p - 1345]? else if p < 1825 then tables_1_7[p - 1585]? else tables_1_8[p - 1825]?
theorem lw_look_ok {p : Nat} {w : Cond} (h : lw_look p = some w) : lw_tbl[p]? = some w := by
  unfold lw_look at h
  by_cases h0 : p < 145
  · rw [if_pos h0] at h
    exact dq_al h
  rw [if_neg h0] at h
  by_cases h1 : p < 385
  · rw [if_pos h1] at h
    have e : p = 145 + (p - 145) := by omega
    rw [e]
    exact dq_o1 h
  rw [if_neg h1] at h
  by_cases h2 : p < 625
  · rw [if_pos h2] at h
    have e : p = 145 + (240 + (p - 385)) := by omega
    rw [e]
    exact dq_o2 h
  rw [if_neg h2] at h
  by_cases h3 : p < 865
  · rw [if_pos h3] at h
    have e : p = 145 + (240 + (240 + (p - 625))) := by omega
    rw [e]
    exact dq_o3 h
  rw [if_neg h3] at h
  by_cases h4 : p < 1105
  · rw [if_pos h4] at h
    have e : p = 145 + (240 + (240 + (240 + (p - 865)))) := by omega
    rw [e]
    exact dq_o4 h
  rw [if_neg h4] at h
  by_cases h5 : p < 1345
  · rw [if_pos h5] at h
    have e : p = 145 + (240 + (240 + (240 + (240 + (p - 1105))))) := by omega
    rw [e]
    exact dq_o5 h
  rw [if_neg h5] at h
  by_cases h6 : p < 1585
  · rw [if_pos h6] at h
    have e : p = 145 + (240 + (240 + (240 + (240 + (240 + (p - 1345)))))) := by omega
    rw [e]
    exact dq_o6 h
  rw [if_neg h6] at h
  by_cases h7 : p < 1825
  · rw [if_pos h7] at h
    have e : p = 145 + (240 + (240 + (240 + (240 + (240 + (240 + (p - 1585))))))) := by omega
    rw [e]
    exact dq_o7 h
  rw [if_neg h7] at h
  have e : p = 145 + (240 + (240 + (240 + (240 + (240 + (240 + (240 + (p - 1825)))))))) := by omega
  rw [e]
  exact dq_o8 h
