/-! what a row must keep, texts and lookups too -/
def pv_ist (i : Instr) (xs : List Nat) : Bool := match i, xs with
  | .ldc _, [_, _, _] => true
  | .lookupswitch _ _, _ => true
  | _, _ => false
def pv_lsc (rows : List pv_R) (pc : Nat) : List (Int × Int) → List Nat → Bool
  | [], [] => true
  | (a, o) :: prs, k :: t :: ps => decide (a = (k : Int)) && decide (k < 2147483648) && pv_jp rows pc o t && pv_lsc rows pc prs ps
  | _, _ => false
def pv_okt (M : pv_M) (o k pc len : Nat) (i : Instr) (xs : List Nat) : Bool := match i, xs with
  | .ldc idx, [s, 0, _] => decide (o = 5) && decide (s < 5) && decide (pzX.getD s 0 = idx) && len == 2 && decide (decode M.2.1 (pc + 2) = .ok (.invokestatic 64, 3)) && pv_pc M.2.2.2.2 (k + 2) == pc + 5
  | .ldc idx, [s, 1, j] => decide (o = 5) && decide (s < 5) && decide (pzX.getD s 0 = idx) && len == 2 && j == 2 && decide (decode M.2.1 (pc + 2) = .ok (.iload_n 2, 1)) && decide (decode M.2.1 (pc + 3) = .ok (.i2c, 1)) && decide (decode M.2.1 (pc + 4) = .ok (.invokevirtual 56, 3)) && pv_pc M.2.2.2.2 (k + 4) == pc + 7
  | .lookupswitch d prs, t :: ps => (prs.toList.zip (prs.toList.drop 1)).all (fun (a, next) => a.1 < next.1) && pv_jp M.2.2.2.2 pc d t && pv_lsc M.2.2.2.2 pc prs.toList ps
  | _, _ => false
def pv_okR2 (LK : List (List Nat)) (M : pv_M) (o k : Nat) (r : pv_R) : Bool := decide (decode M.2.1 r.1 = .ok (r.2.1, r.2.2.1)) &&
  (if pv_isR r.2.1 then pv_okr M.2.2.2.1 r.2.1 r.2.2.2.1 && r.2.2.1 == 1
   else if pv_isC r.2.1 r.2.2.2.1 then pv_okc LK o r.2.1 r.2.2.2.1 r.2.2.2.2 && pv_nx M.2.2.2.2 k r.1 r.2.2.1 3
   else if pv_ist r.2.1 r.2.2.2.1 then pv_okt M o k r.1 r.2.2.1 r.2.1 r.2.2.2.1
   else pv_okx LK M.2.2.2.2 o M.1.name M.2.2.1 k r.1 r.2.2.1 r.2.1 r.2.2.2.1 r.2.2.2.2)
def pv_okM2 (LK : List (List Nat)) (M : pv_M) : Bool := plainName M.1.cls && pv_pc M.2.2.2.2 0 == 0 && decide (M.2.2.1 ≤ 30) && (List.range pv_cn.length).any (fun o => decide (pv_cn[o]? = some M.1.cls) && (List.range M.2.2.2.2.length).all (fun k => match M.2.2.2.2[k]? with
  | some r => decide (r.2.1 = .nop) || pv_okR2 LK M o k r
  | none => true))
