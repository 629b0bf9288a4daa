/-! THE LAW'S CALLS AGAINST ITS BYTES, by windows -/
def lw_dc (lo : Nat) (w : List Nat) (pc : Nat) (i : Instr) (n : Nat) : Bool := Nat.ble lo pc && dq_ins i n (w.drop (pc - lo))
section LAWF
variable {lo : Nat} {w : List Nat}
theorem lw_dc_ok (hw : dq_pre w ((dq_bytes code).drop lo) = true) {pc n : Nat} {i : Instr} (h : lw_dc lo w pc i n = true) : decode code pc = .ok (i, n) := by
  unfold lw_dc at h
  rw [Bool.and_eq_true] at h
  have hle := Nat.le_of_ble_eq_true h.1
  refine dq_ins_ok (fun k b hb => ?_) h.2
  rw [List.getElem?_drop] at hb
  have h4 := dq_pre_ok _ _ hw _ _ hb
  rw [List.getElem?_drop, show lo + (pc - lo + k) = pc + k by omega] at h4
  exact h4
def lw_ok1F (lo : Nat) (w : List Nat) (pc k : Nat) : Bool := (lw_dc lo w pc (.aload_n 0) 1 && lw_dc lo w (pc + 1) (.iload_n 3) 1) && ((Nat.blt k 6 && (lw_dc lo w (pc + 2) (.iconst k) 1 && (lw_dc lo w (pc + 3) .iadd 1 && lw_dc lo w (pc + 4) .iaload 1))) || (Nat.beq k 6 && (lw_dc lo w (pc + 2) (.bipush 6) 2 && (lw_dc lo w (pc + 4) .iadd 1 && lw_dc lo w (pc + 5) .iaload 1))))
theorem lw_ok1F_ok (hw : dq_pre w ((dq_bytes code).drop lo) = true) {pc k : Nat} (h : lw_ok1F lo w pc k = true) : lw_ok1 pc k = true := by
  unfold lw_ok1F at h
  simp only [Bool.and_eq_true, Bool.or_eq_true] at h
  obtain ⟨⟨a, b⟩, c⟩ := h
  refine decide_eq_true ⟨lw_dc_ok hw a, lw_dc_ok hw b, ?_⟩
  rcases c with ⟨c0, c1, c2, c3⟩ | ⟨c0, c1, c2, c3⟩
  · exact Or.inl ⟨Nat.le_of_ble_eq_true c0, lw_dc_ok hw c1, lw_dc_ok hw c2, lw_dc_ok hw c3⟩
  · exact Or.inr ⟨Nat.eq_of_beq_eq_true c0, lw_dc_ok hw c1, lw_dc_ok hw c2, lw_dc_ok hw c3⟩
def lw_oklF (lo : Nat) (w : List Nat) (pc k idx : Nat) : Bool := (lw_ok1F lo w pc k && lw_ok1F lo w (pc + 9) (k + 1)) && (Nat.blt k 5 && (lw_dc lo w (pc + 5) .i2l 1 && (lw_dc lo w (pc + 6) (.bipush 32) 2 && (lw_dc lo w (pc + 8) .lshl 1 && (lw_dc lo w (pc + 14) .i2l 1 && (lw_dc lo w (pc + 15) (.ldc2_w idx) 3 && (lw_dc lo w (pc + 18) .land 1 && lw_dc lo w (pc + 19) .lor 1)))))))
theorem lw_oklF_ok (hw : dq_pre w ((dq_bytes code).drop lo) = true) {pc k idx : Nat} (h : lw_oklF lo w pc k idx = true) : lw_okl pc k idx = true := by
  unfold lw_oklF at h
  simp only [Bool.and_eq_true] at h
  obtain ⟨⟨a, b⟩, c0, c1, c2, c3, c4, c5, c6, c7⟩ := h
  unfold lw_okl
  simp only [Bool.and_eq_true]
  exact ⟨lw_ok1F_ok hw a, lw_ok1F_ok hw b, decide_eq_true ⟨Nat.le_of_ble_eq_true c0, lw_dc_ok hw c1, lw_dc_ok hw c2, lw_dc_ok hw c3, lw_dc_ok hw c4, lw_dc_ok hw c5, lw_dc_ok hw c6, lw_dc_ok hw c7⟩⟩
def lw_chkF (lo : Nat) (w : List Nat) (idx : Nat) : List (Nat × Bool) → Nat → Option Nat
  | [] => fun pc => some pc
  | q :: r => fun pc => bif q.2 then (bif lw_oklF lo w pc q.1 idx then lw_chkF lo w idx r (pc + 20) else none) else (bif lw_ok1F lo w pc q.1 then lw_chkF lo w idx r (pc + lw_n1 q.1) else none)
theorem lw_chkF_ok (hw : dq_pre w ((dq_bytes code).drop lo) = true) {idx : Nat} : ∀ (sp : List (Nat × Bool)) (pc p1 : Nat), lw_chkF lo w idx sp pc = some p1 → lw_chk idx pc sp = some p1
  | [], pc, p1, h => by
    unfold lw_chk
    exact h
  | (k, true) :: r, pc, p1, h => by
    have h : (bif lw_oklF lo w pc k idx then lw_chkF lo w idx r (pc + 20) else none) = some p1 := h
    cases e : lw_oklF lo w pc k idx with
    | false => rw [e] at h; cases h
    | true =>
      rw [e] at h
      unfold lw_chk
      rw [lw_oklF_ok hw e]
      exact lw_chkF_ok hw r _ p1 h
  | (k, false) :: r, pc, p1, h => by
    have h : (bif lw_ok1F lo w pc k then lw_chkF lo w idx r (pc + lw_n1 k) else none) = some p1 := h
    cases e : lw_ok1F lo w pc k with
    | false => rw [e] at h; cases h
    | true =>
      rw [e] at h
      unfold lw_chk
      rw [lw_ok1F_ok hw e]
      exact lw_chkF_ok hw r _ p1 h
def lw_ppF (lo : Nat) (w : List Nat) (kd pc : Nat) : Bool := match kd with
  | 0 => lw_dc lo w pc .pop 1
  | 1 => lw_dc lo w pc .pop2 1
  | _ => true
theorem lw_ppF_ok (hw : dq_pre w ((dq_bytes code).drop lo) = true) {kd pc : Nat} (h : lw_ppF lo w kd pc = true) : lw_pp kd pc = true := by
  match kd, h with
  | 0, h =>
    have h : lw_dc lo w pc .pop 1 = true := h
    show decide (decode code pc = .ok (.pop, 1)) = true
    exact decide_eq_true (lw_dc_ok hw h)
  | 1, h =>
    have h : lw_dc lo w pc .pop2 1 = true := h
    show decide (decode code pc = .ok (.pop2, 1)) = true
    exact decide_eq_true (lw_dc_ok hw h)
  | _ + 2, _ => rfl
def lw_tlF (lo : Nat) (w : List Nat) (kd pc : Nat) : Bool := match kd with
  | 2 => lw_dc lo w pc (.if_icmp .eq (1444 - (pc : Int))) 3
  | 3 => lw_dc lo w pc .lcmp 1 && lw_dc lo w (pc + 1) (.ifCond .eq (1444 - ((pc + 1 : Nat) : Int))) 3
  | k => lw_ppF lo w k pc && lw_dc lo w (pc + 1) (.goto (1444 - ((pc + 1 : Nat) : Int))) 3
theorem lw_tlF_ok (hw : dq_pre w ((dq_bytes code).drop lo) = true) {kd pc : Nat} (h : lw_tlF lo w kd pc = true) : lw_tl kd pc = true := by
  match kd, h with
  | 2, h =>
    have h : lw_dc lo w pc (.if_icmp .eq (1444 - (pc : Int))) 3 = true := h
    show decide (decode code pc = .ok (.if_icmp .eq (1444 - (pc : Int)), 3)) = true
    exact decide_eq_true (lw_dc_ok hw h)
  | 3, h =>
    have h : (lw_dc lo w pc .lcmp 1 && lw_dc lo w (pc + 1) (.ifCond .eq (1444 - ((pc + 1 : Nat) : Int))) 3) = true := h
    rw [Bool.and_eq_true] at h
    show decide (decode code pc = .ok (.lcmp, 1) ∧ decode code (pc + 1) = .ok (.ifCond .eq (1444 - ((pc + 1 : Nat) : Int)), 3)) = true
    exact decide_eq_true ⟨lw_dc_ok hw h.1, lw_dc_ok hw h.2⟩
  | 0, h =>
    have h : (lw_ppF lo w 0 pc && lw_dc lo w (pc + 1) (.goto (1444 - ((pc + 1 : Nat) : Int))) 3) = true := h
    rw [Bool.and_eq_true] at h
    show (lw_pp 0 pc && decide (decode code (pc + 1) = .ok (.goto (1444 - ((pc + 1 : Nat) : Int)), 3))) = true
    rw [Bool.and_eq_true]
    exact ⟨lw_ppF_ok hw h.1, decide_eq_true (lw_dc_ok hw h.2)⟩
  | 1, h =>
    have h : (lw_ppF lo w 1 pc && lw_dc lo w (pc + 1) (.goto (1444 - ((pc + 1 : Nat) : Int))) 3) = true := h
    rw [Bool.and_eq_true] at h
    show (lw_pp 1 pc && decide (decode code (pc + 1) = .ok (.goto (1444 - ((pc + 1 : Nat) : Int)), 3))) = true
    rw [Bool.and_eq_true]
    exact ⟨lw_ppF_ok hw h.1, decide_eq_true (lw_dc_ok hw h.2)⟩
  | k + 4, h =>
    have h : (lw_ppF lo w (k + 4) pc && lw_dc lo w (pc + 1) (.goto (1444 - ((pc + 1 : Nat) : Int))) 3) = true := h
    rw [Bool.and_eq_true] at h
    show (lw_pp (k + 4) pc && decide (decode code (pc + 1) = .ok (.goto (1444 - ((pc + 1 : Nat) : Int)), 3))) = true
    rw [Bool.and_eq_true]
    exact ⟨lw_ppF_ok hw h.1, decide_eq_true (lw_dc_ok hw h.2)⟩
def lw_twoF (lo : Nat) (w : List Nat) (idx pc : Nat) (sp : List (Nat × Bool)) (idC idM kd : Nat) : Bool := match lw_chkF lo w idx sp (pc + 1) with
  | some p1 => (match lw_chkF lo w idx sp (p1 + 3 + lw_md kd + 1) with
    | some p2 => ((lw_dc lo w pc (.aload_n 1) 1 && lw_dc lo w p1 (.invokevirtual idC) 3) && (lw_dc lo w (p1 + 3 + lw_md kd) (.aload_n 2) 1 && lw_dc lo w p2 (.invokevirtual idM) 3)) && (lw_ppF lo w kd (p1 + 3) && lw_tlF lo w kd (p2 + 3))
    | none => false)
  | none => false
theorem lw_twoF_ok (hw : dq_pre w ((dq_bytes code).drop lo) = true) {idx pc idC idM kd : Nat} {sp : List (Nat × Bool)} (h : lw_twoF lo w idx pc sp idC idM kd = true) : lw_two idx pc sp idC idM kd = true := by
  unfold lw_twoF at h
  split at h
  · next p1 hp1 =>
    split at h
    · next p2 hp2 =>
      simp only [Bool.and_eq_true] at h
      obtain ⟨⟨⟨d1, d2⟩, d3, d4⟩, d5, d6⟩ := h
      unfold lw_two
      rw [lw_chkF_ok hw sp _ p1 hp1]
      show (match lw_chk idx (p1 + 3 + lw_md kd + 1) sp with
        | some p2 => decide (decode code pc = .ok (.aload_n 1, 1) ∧ decode code p1 = .ok (.invokevirtual idC, 3) ∧ decode code (p1 + 3 + lw_md kd) = .ok (.aload_n 2, 1) ∧ decode code p2 = .ok (.invokevirtual idM, 3)) && (lw_pp kd (p1 + 3) && lw_tl kd (p2 + 3))
        | none => false) = true
      rw [lw_chkF_ok hw sp _ p2 hp2]
      show (decide (decode code pc = .ok (.aload_n 1, 1) ∧ decode code p1 = .ok (.invokevirtual idC, 3) ∧ decode code (p1 + 3 + lw_md kd) = .ok (.aload_n 2, 1) ∧ decode code p2 = .ok (.invokevirtual idM, 3)) && (lw_pp kd (p1 + 3) && lw_tl kd (p2 + 3))) = true
      rw [Bool.and_eq_true, Bool.and_eq_true]
      exact ⟨decide_eq_true ⟨lw_dc_ok hw d1, lw_dc_ok hw d2, lw_dc_ok hw d3, lw_dc_ok hw d4⟩, lw_ppF_ok hw d5, lw_tlF_ok hw d6⟩
    · cases h
  · cases h
theorem lw_ckF (hw : dq_pre w ((dq_bytes code).drop lo) = true) {idx pc idC idM kd : Nat} {sp : List (Nat × Bool)} {z : Bool} (h : lw_twoF lo w idx pc sp idC idM kd = true) (hz : z = true) : (lw_two idx pc sp idC idM kd && z) = true := by
  rw [lw_twoF_ok hw h, hz]
  rfl
end LAWF
