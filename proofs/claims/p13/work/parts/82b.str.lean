abbrev cz_ix1 : ByteArray := prog_19_method_79_code
def yz_ix1 : MethodName := ⟨"java/lang/String", "indexOf", "(I)I"⟩
abbrev cz_ix2 : ByteArray := prog_19_method_80_code
def yz_ix2 : MethodName := ⟨"java/lang/String", "indexOf", "(II)I"⟩
abbrev cz_lat : ByteArray := prog_19_method_154_code
def yz_lat : MethodName := ⟨"java/lang/String", "isLatin1", "()Z"⟩
abbrev cz_len : ByteArray := prog_19_method_54_code
def yz_len : MethodName := ⟨"java/lang/String", "length", "()I"⟩
abbrev cz_cod : ByteArray := prog_19_method_152_code
def yz_cod : MethodName := ⟨"java/lang/String", "coder", "()B"⟩
abbrev cz_enc : ByteArray := prog_20_method_4_code
def yz_enc : MethodName := ⟨"java/lang/StringLatin1", "canEncode", "(I)Z"⟩
abbrev cz_lix : ByteArray := prog_20_method_22_code
def yz_lix : MethodName := ⟨"java/lang/StringLatin1", "indexOf", "([BIII)I"⟩
abbrev cz_chr : ByteArray := prog_20_method_23_code
def yz_chr : MethodName := ⟨"java/lang/StringLatin1", "indexOfChar", "([BIII)I"⟩
abbrev cz_one : ByteArray := prog_7_method_7_code
def yz_one : MethodName := ⟨"CliffGarden$Reader", "isOneOf", "(ILjava/lang/String;)Z"⟩
def pzW : List Cond := [.code yz_ix1 cz_ix1 2 (some .int), .initialized "java/lang/String", .instanceMethod yz_ix1, .selects "java/lang/String" yz_ix1 yz_ix1, .code yz_ix2 cz_ix2 3 (some .int), .initialized "java/lang/String", .instanceMethod yz_ix2, .selects "java/lang/String" yz_ix2 yz_ix2, .code yz_lat cz_lat 1 (some .boolean), .initialized "java/lang/String", .instanceMethod yz_lat, .selects "java/lang/String" yz_lat yz_lat, .code yz_len cz_len 1 (some .int), .initialized "java/lang/String", .instanceMethod yz_len, .selects "java/lang/String" yz_len yz_len, .code yz_cod cz_cod 1 (some .byte), .initialized "java/lang/String", .instanceMethod yz_cod, .selects "java/lang/String" yz_cod yz_cod, .code yz_enc cz_enc 1 (some .boolean), .initialized "java/lang/StringLatin1", .static yz_enc, .code yz_lix cz_lix 4 (some .int), .initialized "java/lang/StringLatin1", .static yz_lix, .code yz_chr cz_chr 6 (some .int), .initialized "java/lang/StringLatin1", .static yz_chr, .code yz_one cz_one 2 (some .boolean), .initialized "CliffGarden$Reader", .static yz_one, .methodLink "java/lang/String" 633 yz_ix2, .methodLink "java/lang/String" 492 yz_lat, .methodLink "java/lang/String" 505 yz_len, .methodLink "java/lang/String" 335 yz_cod, .methodLink "java/lang/String" 637 yz_lix, .methodLink "java/lang/StringLatin1" 88 yz_enc, .methodLink "java/lang/StringLatin1" 95 yz_chr, .methodLink "CliffGarden$Reader" 56 yz_ix1, .methodLink "CliffGarden$Reader" 64 yz_one, .fieldLink "java/lang/String" 38 "java/lang/String" "COMPACT_STRINGS" "Z", .fieldLink "java/lang/String" 15 "java/lang/String" "coder" "B", .fieldLink "java/lang/String" 9 "java/lang/String" "value" "[B", .methodLink "java/lang/StringLatin1" 92 Lib.Math.max.name, .methodLink "java/lang/StringLatin1" 38 Lib.Math.min.name, .static Lib.Math.max.name, .static Lib.Math.min.name, .initialized "java/lang/Math", .code Lib.Math.max.name Lib.Math.max.code 2 (some .int), .code Lib.Math.min.name Lib.Math.min.code 2 (some .int)]
theorem pzW_in : ∀ w ∈ pzW, w ∈ lw_tbl ∧ goodWord w = true := by decide +kernel
theorem pz_w (k : Nat) {w : Cond} (h : pzW[k]? = some w) : w ∈ pv_T := List.mem_filter.mpr (pzW_in w (List.mem_of_getElem? h))
theorem pz_by : ∀ i < 5, ∀ j < pzL.getD i 0, (pzY.getD i []).getD j 0 = Int32.ofNat ((pv_str.getD i []).getD j 0) := by decide +kernel
theorem pz_ln : ∀ i < 5, (pv_str.getD i []).length = pzL.getD i 0 ∧ pzL.getD i 0 < 15 ∧ 0 < pzL.getD i 0 := by decide +kernel
theorem pz_k : ∀ k < 16, ¬ Int32.ofNat k < 0 ∧ (Int32.ofNat k).toNatClampNeg = k ∧ Int32.ofNat k + Int32.ofInt 1 = Int32.ofNat (k + 1) ∧ Int32.ofNat k >>> ((0 : Int32) &&& 31) = Int32.ofNat k ∧ (if (0 : Int32) < (0 : Int32) then (0 : Int32) else 0) = 0 := by decide +kernel
theorem pz_le : ∀ a < 16, ∀ b < 16, (Int32.ofNat a ≤ Int32.ofNat b ↔ a ≤ b) ∧ (Int32.ofNat a < Int32.ofNat b ↔ a < b) := by decide +kernel
theorem pz_b1 : ∀ n < 128, (Int32.ofNat n).toInt8.toInt32 = Int32.ofNat n := by decide +kernel
theorem pz_b2 : ∀ n < 256, 128 ≤ n → ((Int32.ofNat n).toInt8.toInt32).toInt < 0 ∧ 128 ≤ (Int32.ofNat n).toInt := by decide +kernel
theorem pz_b3 : ∀ i < 5, ∀ b ∈ pv_str.getD i [], 0 ≤ (Int32.ofNat b).toInt ∧ (Int32.ofNat b).toInt < 128 := by decide +kernel
theorem pz_bb : ∀ n < 256, ∀ i < 5, ∀ b ∈ pv_str.getD i [], Int32.ofNat b = (Int32.ofNat n).toInt8.toInt32 ↔ Int32.ofNat b = Int32.ofNat n := by
  intro n hn i hi b hb
  have h3 := pz_b3 i hi b hb
  by_cases h : n < 128
  · rw [pz_b1 n h]
  · have h2 := pz_b2 n hn (Nat.le_of_not_lt h)
    constructor
    · intro e
      rw [e] at h3
      exact absurd h3.1 (Int.not_le.mpr h2.1)
    · intro e
      rw [e] at h3
      exact absurd h3.2 (Int.not_lt.mpr h2.2)
theorem pz_n : ∀ n < 256, ¬ Int32.ofNat n < 0 ∧ ¬ 255 < Int32.ofNat n := by decide +kernel
theorem pz_nn (n : Nat) (h : n < 65536) (h2 : 256 ≤ n) : ¬ Int32.ofNat n < 0 ∧ 255 < Int32.ofNat n := by
  have e : (Int32.ofNat n).toInt = n := by rw [Int32.toInt_ofNat_of_lt]; omega
  refine ⟨fun q => ?_, ?_⟩
  · have := Int32.lt_iff_toInt_lt.mp q
    rw [e] at this
    have z : (0 : Int32).toInt = 0 := rfl
    omega
  · refine Int32.lt_iff_toInt_lt.mpr ?_
    rw [e]
    have z : (255 : Int32).toInt = 255 := rfl
    omega
theorem pz_dr {l : List Nat} {k : Nat} (h : k < l.length) : l.drop k = l.getD k 0 :: l.drop (k + 1) := by
  rw [List.drop_eq_getElem_cons h]
  congr 1
  simp [List.getD, h]
theorem pz_no {x : Int32} : ∀ (l : List Nat) (k : Nat), (∀ b ∈ l, Int32.ofNat b ≠ x) → pv_ixF x l k = -1
  | [], _, _ => rfl
  | b :: l, k, h => by
    rw [pv_ixF, if_neg (h b List.mem_cons_self)]
    exact pz_no l (k + 1) (fun c hc => h c (List.mem_cons_of_mem _ hc))
theorem pz_big : ∀ i < 5, ∀ b ∈ pv_str.getD i [], b < 256 := by decide +kernel
theorem pz_enc (l : Launch) (d : Nat) (adK adV : Nat → Nat) (x : Int32) : pz_M l (d + 1) yz_enc cz_enc 1 (some .boolean) adK adV [.int x] (if x < 0 then 0 else if 255 < x then 0 else 1) := by
  refine pz_open (by decide) (Nat.le_of_ble_eq_true rfl) ?_
  intro p e R s m args below meth c ls S hr hlk hZ hf hlo hl
  obtain ⟨hex, hb, hml, hown, hts⟩ := id S
  have hS : va_S pzN s.heap s.heap [] := va_S.rf
  have hZH : ∀ {H : Heap}, (∀ q, q < s.heap.size → H[q]? = s.heap[q]?) → ∀ U : State, s.vm.Alike U.vm → U.heap = H → pz_Z adK adV U := fun hk U hv hU => pz_Z.kept hv (fun q hq => by rw [hU]; exact hk q hq) hZ
  refine lv_iload_n hex hb (by decide +kernel : decode cz_enc 0 = .ok (.iload_n 0, 1)) rfl (lv_at hl 0 rfl) ?_
  refine lv_if_lt hex hb (by decide +kernel : decode cz_enc 1 = .ok (.ifCond .lt 14, 3)) (tgt := 15) (by decide) (fun q => ?_) (fun q => ?_)
  · rw [if_pos q]
    refine lv_iconst hex hb (by decide +kernel : decode cz_enc 15 = .ok (.iconst 0, 1)) rfl ?_
    exact W.zret (ty := .boolean) hex hb hr rfl (fun t ht _ => pz_q hS ht) (fun q h => hS.2.2 q h) (by decide +kernel : decode cz_enc 16 = .ok (.ireturn, 1)) hlk
  · rw [if_neg q]
    refine lv_iload_n hex hb (by decide +kernel : decode cz_enc 4 = .ok (.iload_n 0, 1)) rfl (lv_at hl 0 rfl) ?_
    refine lv_sipush hex hb (by decide +kernel : decode cz_enc 5 = .ok (.sipush 255, 3)) (v := 255) rfl ?_
    refine lv_icmp_gt hex hb (by decide +kernel : decode cz_enc 8 = .ok (.if_icmp .gt 7, 3)) (tgt := 15) (by decide) (fun q => ?_) (fun q => ?_)
    · rw [if_pos q]
      refine lv_iconst hex hb (by decide +kernel : decode cz_enc 15 = .ok (.iconst 0, 1)) rfl ?_
      exact W.zret (ty := .boolean) hex hb hr rfl (fun t ht _ => pz_q hS ht) (fun q h => hS.2.2 q h) (by decide +kernel : decode cz_enc 16 = .ok (.ireturn, 1)) hlk
    · rw [if_neg q]
      refine lv_iconst hex hb (by decide +kernel : decode cz_enc 11 = .ok (.iconst 1, 1)) rfl ?_
      refine lv_goto hex hb (by decide +kernel : decode cz_enc 12 = .ok (.goto 4, 3)) (tgt := 16) (by decide) ?_
      exact W.zret (ty := .boolean) hex hb hr rfl (fun t ht _ => pz_q hS ht) (fun q h => hS.2.2 q h) (by decide +kernel : decode cz_enc 16 = .ok (.ireturn, 1)) hlk
theorem pz_lat (l : Launch) (d : Nat) (adK adV : Nat → Nat) {i : Nat} (hi : i < 5) : pz_M l (d + 1) yz_lat cz_lat 1 (some .boolean) adK adV [.ref (adK i)] 1 := by
  refine pz_open (by decide) (Nat.le_of_ble_eq_true rfl) ?_
  intro p e R s m args below meth c ls S hr hlk hZ hf hlo hl
  obtain ⟨hex, hb, hml, hown, hts⟩ := id S
  have hS : va_S pzN s.heap s.heap [] := va_S.rf
  have hZH : ∀ {H : Heap}, (∀ q, q < s.heap.size → H[q]? = s.heap[q]?) → ∀ U : State, s.vm.Alike U.vm → U.heap = H → pz_Z adK adV U := fun hk U hv hU => pz_Z.kept hv (fun q hq => by rw [hU]; exact hk q hq) hZ
  refine va_gets hex hb hZ.2 hS hown (hts _ (pz_w 41 rfl)) (fun x h => h) (by decide +kernel : decode cz_lat 0 = .ok (.getstatic 38, 3)) ?_
  refine lv_if_eq hex hb (by decide +kernel : decode cz_lat 3 = .ok (.ifCond .eq 14, 3)) (tgt := 17) (by decide) (fun q => absurd q (by decide)) (fun q => ?_)
  refine lv_aload_n hex hb (by decide +kernel : decode cz_lat 6 = .ok (.aload_n 0, 1)) rfl (lv_at hl 0 rfl) ?_
  refine vk_getf hex hb (hZ.1.1 i hi).2.1 hS hown (hts _ (pz_w 42 rfl)) (fun x h => h) (by decide +kernel : decode cz_lat 7 = .ok (.getfield 15, 3)) ?_
  refine lv_if_ne hex hb (by decide +kernel : decode cz_lat 10 = .ok (.ifCond .ne 7, 3)) (tgt := 17) (by decide) (fun q => absurd rfl q) (fun q => ?_)
  refine lv_iconst hex hb (by decide +kernel : decode cz_lat 13 = .ok (.iconst 1, 1)) rfl ?_
  refine lv_goto hex hb (by decide +kernel : decode cz_lat 14 = .ok (.goto 4, 3)) (tgt := 18) (by decide) ?_
  exact W.zret (ty := .boolean) hex hb hr rfl (fun t ht _ => pz_q hS ht) (fun q h => hS.2.2 q h) (by decide +kernel : decode cz_lat 18 = .ok (.ireturn, 1)) hlk
theorem pz_cod (l : Launch) (d : Nat) (adK adV : Nat → Nat) {i : Nat} (hi : i < 5) : pz_M l (d + 1) yz_cod cz_cod 1 (some .byte) adK adV [.ref (adK i)] 0 := by
  refine pz_open (by decide) (Nat.le_of_ble_eq_true rfl) ?_
  intro p e R s m args below meth c ls S hr hlk hZ hf hlo hl
  obtain ⟨hex, hb, hml, hown, hts⟩ := id S
  have hS : va_S pzN s.heap s.heap [] := va_S.rf
  have hZH : ∀ {H : Heap}, (∀ q, q < s.heap.size → H[q]? = s.heap[q]?) → ∀ U : State, s.vm.Alike U.vm → U.heap = H → pz_Z adK adV U := fun hk U hv hU => pz_Z.kept hv (fun q hq => by rw [hU]; exact hk q hq) hZ
  refine va_gets hex hb hZ.2 hS hown (hts _ (pz_w 41 rfl)) (fun x h => h) (by decide +kernel : decode cz_cod 0 = .ok (.getstatic 38, 3)) ?_
  refine lv_if_eq hex hb (by decide +kernel : decode cz_cod 3 = .ok (.ifCond .eq 10, 3)) (tgt := 13) (by decide) (fun q => absurd q (by decide)) (fun q => ?_)
  refine lv_aload_n hex hb (by decide +kernel : decode cz_cod 6 = .ok (.aload_n 0, 1)) rfl (lv_at hl 0 rfl) ?_
  refine vk_getf hex hb (hZ.1.1 i hi).2.1 hS hown (hts _ (pz_w 42 rfl)) (fun x h => h) (by decide +kernel : decode cz_cod 7 = .ok (.getfield 15, 3)) ?_
  refine lv_goto hex hb (by decide +kernel : decode cz_cod 10 = .ok (.goto 4, 3)) (tgt := 14) (by decide) ?_
  exact W.zret (ty := .byte) hex hb hr rfl (fun t ht _ => pz_q hS ht) (fun q h => hS.2.2 q h) (by decide +kernel : decode cz_cod 14 = .ok (.ireturn, 1)) hlk
theorem pz_len (l : Launch) (d : Nat) (adK adV : Nat → Nat) {i : Nat} (hi : i < 5) : pz_M l (d + 1 + 1) yz_len cz_len 1 (some .int) adK adV [.ref (adK i)] (Int32.ofNat (pzL.getD i 0)) := by
  refine pz_open (by decide) (Nat.le_of_ble_eq_true rfl) ?_
  intro p e R s m args below meth c ls S hr hlk hZ hf hlo hl
  obtain ⟨hex, hb, hml, hown, hts⟩ := id S
  have hS : va_S pzN s.heap s.heap [] := va_S.rf
  have hZH : ∀ {H : Heap}, (∀ q, q < s.heap.size → H[q]? = s.heap[q]?) → ∀ U : State, s.vm.Alike U.vm → U.heap = H → pz_Z adK adV U := fun hk U hv hU => pz_Z.kept hv (fun q hq => by rw [hU]; exact hk q hq) hZ
  refine lv_aload_n hex hb (by decide +kernel : decode cz_len 0 = .ok (.aload_n 0, 1)) rfl (lv_at hl 0 rfl) ?_
  refine vk_getf hex hb (hZ.1.1 i hi).2.2.1 hS hown (hts _ (pz_w 43 rfl)) (fun x h => h) (by decide +kernel : decode cz_len 1 = .ok (.getfield 9, 3)) ?_
  refine va_tlen hex hb (hZ.1.1 i hi).2.2.2 hS rfl (by decide +kernel : decode cz_len 4 = .ok (.arraylength, 1)) ?_
  refine lv_aload_n hex hb (by decide +kernel : decode cz_len 5 = .ok (.aload_n 0, 1)) rfl (lv_at hl 0 rfl) ?_
  refine pz_callV (as := []) (n := 0) (pz_cod l d adK adV hi) S hS (hZH (fun _ _ => rfl)) (vk_recv hZ.1 hi hS) (pz_w 16 rfl) (pz_w 17 rfl) (pz_w 35 rfl) (pz_w 18 rfl) (pz_w 19 rfl) (by decide) ⟨by omega, by omega⟩ rfl hl.1 (Nat.le_of_ble_eq_true rfl) (by decide +kernel : decode cz_len 6 = .ok (.invokevirtual 335, 3)) (Nat.zero_le _) (Nat.zero_le _) ?_
  intro H1 locs1 hS1 _ hk
  refine lv_ishr hex hb (by decide +kernel : decode cz_len 9 = .ok (.ishr, 1)) ?_
  rw [(pz_k _ (Nat.lt_succ_of_lt (pz_ln i hi).2.1)).2.2.2.1]
  exact W.iret hex hb hr (fun t ht _ => pz_q hS1 ht) (fun q h => hS1.2.2 q h) (by decide +kernel : decode cz_len 10 = .ok (.ireturn, 1)) hlk
section PZL
variable {p : Program} {l : Launch} {e : Env} {R : Room} {s : State} {m : MethodId} {args : Array Value} {below : List Frame} {meth : Method} {c : Code}
theorem pz_loop {adK adV : Nat → Nat} {i n : Nat} {r : Int32} (hi : i < 5) (hn : n < 256) (hex : p.tables.exec = Jvm.exec) (hb : c.code = cz_chr) (hr : meth.sig.returnType = some .int) (hlk : meth.locks = false) (hZ : pz_Z adK adV s) : ∀ (t k : Nat), k + t = pzL.getD i 0 → r = pv_ixF (Int32.ofNat n) ((pv_str.getD i []).drop k) k → ∀ ls : Array Slot, lv_has ls 6 [(5, .int (Int32.ofNat k)), (4, .int (Int32.ofNat n).toInt8.toInt32), (0, .ref (adV i)), (3, .int (Int32.ofNat (pzL.getD i 0)))] → W p l e R s m args below meth c s.heap [] 0 0 (MQ below (pz_Q r) args s 0 0 pzN) (F0 m 7 ls []) := by
  have hS : va_S pzN s.heap s.heap [] := va_S.rf
  have hL := pz_ln i hi
  intro t
  induction t with
  | zero =>
    intro k hk hrr ls hl
    refine lv_iload hex hb (by decide +kernel : decode cz_chr 7 = .ok (.iload 5, 2)) (lv_at hl 0 rfl) ?_
    refine lv_iload_n hex hb (by decide +kernel : decode cz_chr 9 = .ok (.iload_n 3, 1)) rfl (lv_at hl 3 rfl) ?_
    refine lv_icmp_ge hex hb (by decide +kernel : decode cz_chr 10 = .ok (.if_icmp .ge 21, 3)) (tgt := 31) (by decide) (fun q => ?_) (fun q => absurd (((pz_le _ (by omega) _ (by omega)).1).mpr (by omega)) q)
    refine lv_iconst hex hb (by decide +kernel : decode cz_chr 31 = .ok (.iconst (-1), 1)) (v := -1) rfl ?_
    have e9 : r = -1 := by
      rw [hrr, List.drop_eq_nil_of_le (by omega)]
      rfl
    rw [← e9]
    exact W.iret hex hb hr (fun t ht _ => pz_q hS ht) (fun q h => hS.2.2 q h) (by decide +kernel : decode cz_chr 32 = .ok (.ireturn, 1)) hlk
  | succ t ih =>
    intro k hk hrr ls hl
    have hkk := pz_k k (by omega)
    refine lv_iload hex hb (by decide +kernel : decode cz_chr 7 = .ok (.iload 5, 2)) (lv_at hl 0 rfl) ?_
    refine lv_iload_n hex hb (by decide +kernel : decode cz_chr 9 = .ok (.iload_n 3, 1)) rfl (lv_at hl 3 rfl) ?_
    refine lv_icmp_ge hex hb (by decide +kernel : decode cz_chr 10 = .ok (.if_icmp .ge 21, 3)) (tgt := 31) (by decide) (fun q => absurd (((pz_le _ (by omega) _ (by omega)).1).mp q) (by omega)) (fun q => ?_)
    refine lv_aload_n hex hb (by decide +kernel : decode cz_chr 13 = .ok (.aload_n 0, 1)) rfl (lv_at hl 2 rfl) ?_
    refine lv_iload hex hb (by decide +kernel : decode cz_chr 14 = .ok (.iload 5, 2)) (lv_at hl 0 rfl) ?_
    refine va_tb hex hb (hZ.1.1 i hi).2.2.2 hS (i := Int32.ofNat k) (fun z => by rcases z with z | z; exact hkk.1 z; rw [hkk.2.1] at z; omega) rfl (by decide +kernel : decode cz_chr 16 = .ok (.baload, 1)) ?_
    rw [hkk.2.1, pz_by i hi k (by omega)]
    refine lv_iload hex hb (by decide +kernel : decode cz_chr 17 = .ok (.iload 4, 2)) (lv_at hl 1 rfl) ?_
    have hd : (pv_str.getD i []).drop k = (pv_str.getD i []).getD k 0 :: (pv_str.getD i []).drop (k + 1) := pz_dr (by omega)
    have hm : (pv_str.getD i []).getD k 0 ∈ pv_str.getD i [] := by
      have : (pv_str.getD i []).getD k 0 ∈ (pv_str.getD i []).drop k := by rw [hd]; exact List.mem_cons_self
      exact List.mem_of_mem_drop this
    have hbb := pz_bb n hn i hi _ hm
    rw [hd, pv_ixF] at hrr
    refine lv_icmp_ne hex hb (by decide +kernel : decode cz_chr 19 = .ok (.if_icmp .ne 6, 3)) (tgt := 25) (by decide) (fun q => ?_) (fun q => ?_)
    · rw [if_neg (fun z => q (hbb.mpr z))] at hrr
      refine lv_iinc hex hb (by decide +kernel : decode cz_chr 25 = .ok (.iinc 5 1, 3)) hl (k := 0) rfl hkk.2.2.1 (by decide) rfl (fun ls9 hl9 => ?_)
      refine lv_goto hex hb (by decide +kernel : decode cz_chr 28 = .ok (.goto (-21), 3)) (tgt := 7) (by decide) ?_
      exact ih (k + 1) (by omega) hrr ls9 hl9
    · rw [if_pos (hbb.mp q)] at hrr
      refine lv_iload hex hb (by decide +kernel : decode cz_chr 22 = .ok (.iload 5, 2)) (lv_at hl 0 rfl) ?_
      rw [← hrr]
      exact W.iret hex hb hr (fun t ht _ => pz_q hS ht) (fun q h => hS.2.2 q h) (by decide +kernel : decode cz_chr 24 = .ok (.ireturn, 1)) hlk
end PZL
theorem pz_chr (l : Launch) (d : Nat) (adK adV : Nat → Nat) {i n : Nat} (hi : i < 5) (hn : n < 256) : pz_M l (d + 1) yz_chr cz_chr 6 (some .int) adK adV [.ref (adV i), .int (Int32.ofNat n), .int 0, .int (Int32.ofNat (pzL.getD i 0))] (pv_ix i (Int32.ofNat n)) := by
  refine pz_open (by decide) (Nat.le_of_ble_eq_true rfl) ?_
  intro p e R s m args below meth c ls S hr hlk hZ hf hlo hl
  obtain ⟨hex, hb, hml, hown, hts⟩ := id S
  have hS : va_S pzN s.heap s.heap [] := va_S.rf
  have hZH : ∀ {H : Heap}, (∀ q, q < s.heap.size → H[q]? = s.heap[q]?) → ∀ U : State, s.vm.Alike U.vm → U.heap = H → pz_Z adK adV U := fun hk U hv hU => pz_Z.kept hv (fun q hq => by rw [hU]; exact hk q hq) hZ
  refine lv_iload_n hex hb (by decide +kernel : decode cz_chr 0 = .ok (.iload_n 1, 1)) rfl (lv_at hl 1 rfl) ?_
  refine lv_i2b hex hb (by decide +kernel : decode cz_chr 1 = .ok (.i2b, 1)) rfl ?_
  refine lv_istore hex hb (by decide +kernel : decode cz_chr 2 = .ok (.istore 4, 2)) hl (by decide) rfl (fun ls9 hl9 => ?_)
  refine lv_iload_n hex hb (by decide +kernel : decode cz_chr 4 = .ok (.iload_n 2, 1)) rfl (lv_at hl9 3 rfl) ?_
  refine lv_istore hex hb (by decide +kernel : decode cz_chr 5 = .ok (.istore 5, 2)) hl9 (by decide) rfl (fun ls8 hl8 => ?_)
  exact pz_loop hi hn hex hb hr hlk hZ (pzL.getD i 0) 0 (Nat.zero_add _) rfl ls8 (lv_sub hl8 [0, 1, 2, 5] rfl)
theorem pz_lix (l : Launch) (d : Nat) (adK adV : Nat → Nat) {i n : Nat} (hi : i < 5) (hn : n < 65536) : pz_M l (d + 1 + 1) yz_lix cz_lix 4 (some .int) adK adV [.ref (adV i), .int (Int32.ofNat n), .int 0, .int (Int32.ofNat (pzL.getD i 0))] (pv_ix i (Int32.ofNat n)) := by
  refine pz_open (by decide) (Nat.le_of_ble_eq_true rfl) ?_
  intro p e R s m args below meth c ls S hr hlk hZ hf hlo hl
  obtain ⟨hex, hb, hml, hown, hts⟩ := id S
  have hS : va_S pzN s.heap s.heap [] := va_S.rf
  have hZH : ∀ {H : Heap}, (∀ q, q < s.heap.size → H[q]? = s.heap[q]?) → ∀ U : State, s.vm.Alike U.vm → U.heap = H → pz_Z adK adV U := fun hk U hv hU => pz_Z.kept hv (fun q hq => by rw [hU]; exact hk q hq) hZ
  have hL := pz_ln i hi
  refine lv_iload_n hex hb (by decide +kernel : decode cz_lix 0 = .ok (.iload_n 1, 1)) rfl (lv_at hl 1 rfl) ?_
  refine pz_callS (as := [.int (Int32.ofNat n)]) (n := 1) (pz_enc l d adK adV (Int32.ofNat n)) S hS (hZH (fun _ _ => rfl)) (pz_w 20 rfl) (pz_w 21 rfl) (pz_w 37 rfl) (pz_w 22 rfl) (by decide) ⟨by omega, by omega⟩ rfl hl.1 (Nat.le_of_ble_eq_true rfl) (by decide +kernel : decode cz_lix 1 = .ok (.invokestatic 88, 3)) (Nat.zero_le _) (Nat.zero_le _) ?_
  intro H1 locs1 hS1 _ hk1
  rcases Nat.lt_or_ge n 256 with h256 | h256
  · have hc := pz_n n h256
    rw [if_neg hc.1, if_neg hc.2]
    refine lv_if_ne hex hb (by decide +kernel : decode cz_lix 4 = .ok (.ifCond .ne 5, 3)) (tgt := 9) (by decide) (fun q => ?_) (fun q => absurd q (by decide))
    refine lv_iload_n hex hb (by decide +kernel : decode cz_lix 9 = .ok (.iload_n 2, 1)) rfl (lv_at hl 2 rfl) ?_
    refine lv_iconst hex hb (by decide +kernel : decode cz_lix 10 = .ok (.iconst 0, 1)) (v := 0) rfl ?_
    refine va_mmax hex hb (by rw [hml]; exact hl.1.symm) hown (hts _ (pz_w 44 rfl)) (hts _ (pz_w 46 rfl)) (hts _ (pz_w 48 rfl)) (hts _ (pz_w 49 rfl)) (by omega) (by show 0 + 13 ≤ R.locals; omega) (Nat.zero_le _) (Nat.zero_le _) (by decide +kernel : decode cz_lix 11 = .ok (.invokestatic 92, 3)) ?_
    refine lv_istore_n hex hb (by decide +kernel : decode cz_lix 14 = .ok (.istore_n 2, 1)) rfl hl (by decide) rfl (fun ls9 hl9 => ?_)
    refine lv_iload_n hex hb (by decide +kernel : decode cz_lix 15 = .ok (.iload_n 3, 1)) rfl (lv_at hl9 3 rfl) ?_
    refine lv_aload_n hex hb (by decide +kernel : decode cz_lix 16 = .ok (.aload_n 0, 1)) rfl (lv_at hl9 1 rfl) ?_
    refine va_tlen hex hb (hZ.1.1 i hi).2.2.2 hS1 rfl (by decide +kernel : decode cz_lix 17 = .ok (.arraylength, 1)) ?_
    refine va_mmin hex hb (by rw [hml]; exact hl9.1.symm) hown (hts _ (pz_w 45 rfl)) (hts _ (pz_w 47 rfl)) (hts _ (pz_w 48 rfl)) (hts _ (pz_w 50 rfl)) (by omega) (by show 0 + 13 ≤ R.locals; omega) (Nat.zero_le _) (Nat.zero_le _) (by decide +kernel : decode cz_lix 18 = .ok (.invokestatic 38, 3)) ?_
    rw [ite_self]
    refine lv_istore_n hex hb (by decide +kernel : decode cz_lix 21 = .ok (.istore_n 3, 1)) rfl hl9 (by decide) rfl (fun ls8 hl8 => ?_)
    refine lv_iload_n hex hb (by decide +kernel : decode cz_lix 22 = .ok (.iload_n 2, 1)) rfl (lv_at hl8 1 rfl) ?_
    refine lv_iload_n hex hb (by decide +kernel : decode cz_lix 23 = .ok (.iload_n 3, 1)) rfl (lv_at hl8 0 rfl) ?_
    rw [ite_self]
    refine lv_icmp_lt hex hb (by decide +kernel : decode cz_lix 24 = .ok (.if_icmp .lt 5, 3)) (tgt := 29) (by decide) (fun q => ?_) (fun q => absurd (((pz_le 0 (by omega) _ (by omega)).2).mpr hL.2.2) q)
    refine lv_aload_n hex hb (by decide +kernel : decode cz_lix 29 = .ok (.aload_n 0, 1)) rfl (lv_at hl8 2 rfl) ?_
    refine lv_iload_n hex hb (by decide +kernel : decode cz_lix 30 = .ok (.iload_n 1, 1)) rfl (lv_at hl8 3 rfl) ?_
    refine lv_iload_n hex hb (by decide +kernel : decode cz_lix 31 = .ok (.iload_n 2, 1)) rfl (lv_at hl8 1 rfl) ?_
    refine lv_iload_n hex hb (by decide +kernel : decode cz_lix 32 = .ok (.iload_n 3, 1)) rfl (lv_at hl8 0 rfl) ?_
    rw [ite_self]
    refine pz_callS (as := [.ref (adV i), .int (Int32.ofNat n), .int 0, .int (Int32.ofNat (pzL.getD i 0))]) (n := 4) (pz_chr l d adK adV hi h256) S hS1 (hZH (fun q hq => hk1 q hq)) (pz_w 26 rfl) (pz_w 27 rfl) (pz_w 38 rfl) (pz_w 28 rfl) (by decide) ⟨by omega, by omega⟩ rfl hl8.1 (Nat.le_of_ble_eq_true rfl) (by decide +kernel : decode cz_lix 33 = .ok (.invokestatic 95, 3)) (Nat.zero_le _) (Nat.zero_le _) ?_
    intro H2 locs2 hS2 _ _
    exact W.iret hex hb hr (fun t ht _ => pz_q hS2 ht) (fun q h => hS2.2.2 q h) (by decide +kernel : decode cz_lix 36 = .ok (.ireturn, 1)) hlk
  · have hc := pz_nn n hn h256
    rw [if_neg hc.1, if_pos hc.2]
    refine lv_if_ne hex hb (by decide +kernel : decode cz_lix 4 = .ok (.ifCond .ne 5, 3)) (tgt := 9) (by decide) (fun q => absurd rfl q) (fun q => ?_)
    refine lv_iconst hex hb (by decide +kernel : decode cz_lix 7 = .ok (.iconst (-1), 1)) (v := -1) rfl ?_
    have e9 : pv_ix i (Int32.ofNat n) = -1 := pz_no _ _ (fun b hb9 e => by
      have h1 := pz_big i hi b hb9
      have h2 := congrArg Int32.toInt e
      rw [Int32.toInt_ofNat_of_lt (by omega), Int32.toInt_ofNat_of_lt (by omega)] at h2
      omega)
    rw [e9]
    exact W.iret hex hb hr (fun t ht _ => pz_q hS1 ht) (fun q h => hS1.2.2 q h) (by decide +kernel : decode cz_lix 8 = .ok (.ireturn, 1)) hlk
theorem pz_ix2 (l : Launch) (d : Nat) (adK adV : Nat → Nat) {i n : Nat} (hi : i < 5) (hn : n < 65536) : pz_M l (d + 1 + 1 + 1) yz_ix2 cz_ix2 3 (some .int) adK adV [.ref (adK i), .int (Int32.ofNat n), .int 0] (pv_ix i (Int32.ofNat n)) := by
  refine pz_open (by decide) (Nat.le_of_ble_eq_true rfl) ?_
  intro p e R s m args below meth c ls S hr hlk hZ hf hlo hl
  obtain ⟨hex, hb, hml, hown, hts⟩ := id S
  have hS : va_S pzN s.heap s.heap [] := va_S.rf
  have hZH : ∀ {H : Heap}, (∀ q, q < s.heap.size → H[q]? = s.heap[q]?) → ∀ U : State, s.vm.Alike U.vm → U.heap = H → pz_Z adK adV U := fun hk U hv hU => pz_Z.kept hv (fun q hq => by rw [hU]; exact hk q hq) hZ
  refine lv_aload_n hex hb (by decide +kernel : decode cz_ix2 0 = .ok (.aload_n 0, 1)) rfl (lv_at hl 0 rfl) ?_
  refine pz_callV (as := []) (n := 0) (pz_lat l (d + 1) adK adV hi) S hS (hZH (fun _ _ => rfl)) (vk_recv hZ.1 hi hS) (pz_w 8 rfl) (pz_w 9 rfl) (pz_w 33 rfl) (pz_w 10 rfl) (pz_w 11 rfl) (by decide) ⟨by omega, by omega⟩ rfl hl.1 (Nat.le_of_ble_eq_true rfl) (by decide +kernel : decode cz_ix2 1 = .ok (.invokevirtual 492, 3)) (Nat.zero_le _) (Nat.zero_le _) ?_
  intro H1 locs1 hS1 z1 hk1
  refine lv_if_eq hex hb (by decide +kernel : decode cz_ix2 4 = .ok (.ifCond .eq 19, 3)) (tgt := 23) (by decide) (fun q => absurd q (by decide)) (fun q => ?_)
  refine lv_aload_n hex hb (by decide +kernel : decode cz_ix2 7 = .ok (.aload_n 0, 1)) rfl (lv_at hl 0 rfl) ?_
  refine vk_getf hex hb (hZ.1.1 i hi).2.2.1 hS1 hown (hts _ (pz_w 43 rfl)) (fun x h => h) (by decide +kernel : decode cz_ix2 8 = .ok (.getfield 9, 3)) ?_
  refine lv_iload_n hex hb (by decide +kernel : decode cz_ix2 11 = .ok (.iload_n 1, 1)) rfl (lv_at hl 1 rfl) ?_
  refine lv_iload_n hex hb (by decide +kernel : decode cz_ix2 12 = .ok (.iload_n 2, 1)) rfl (lv_at hl 2 rfl) ?_
  refine lv_aload_n hex hb (by decide +kernel : decode cz_ix2 13 = .ok (.aload_n 0, 1)) rfl (lv_at hl 0 rfl) ?_
  refine pz_callV (as := []) (n := 0) (pz_len l d adK adV hi) S hS1 (hZH (fun q hq => hk1 q hq)) (vk_recv hZ.1 hi hS1) (pz_w 12 rfl) (pz_w 13 rfl) (pz_w 34 rfl) (pz_w 14 rfl) (pz_w 15 rfl) (by decide) ⟨by omega, by omega⟩ rfl hl.1 (Nat.le_of_ble_eq_true rfl) (by decide +kernel : decode cz_ix2 14 = .ok (.invokevirtual 505, 3)) (Nat.zero_le _) (Nat.zero_le _) ?_
  intro H2 locs2 hS2 z2 hk2
  refine pz_callS (as := [.ref (adV i), .int (Int32.ofNat n), .int 0, .int (Int32.ofNat (pzL.getD i 0))]) (n := 4) (pz_lix l d adK adV hi hn) S hS2 (hZH (fun q hq => (hk2 q (Nat.lt_of_lt_of_le hq z1)).trans (hk1 q hq))) (pz_w 23 rfl) (pz_w 24 rfl) (pz_w 36 rfl) (pz_w 25 rfl) (by decide) ⟨by omega, by omega⟩ rfl hl.1 (Nat.le_of_ble_eq_true rfl) (by decide +kernel : decode cz_ix2 17 = .ok (.invokestatic 637, 3)) (Nat.zero_le _) (Nat.zero_le _) ?_
  intro H3 locs3 hS3 z3 hk3
  refine lv_goto hex hb (by decide +kernel : decode cz_ix2 20 = .ok (.goto 16, 3)) (tgt := 36) (by decide) ?_
  exact W.iret hex hb hr (fun t ht _ => pz_q hS3 ht) (fun q h => hS3.2.2 q h) (by decide +kernel : decode cz_ix2 36 = .ok (.ireturn, 1)) hlk
theorem pz_ix1 (l : Launch) (d : Nat) (adK adV : Nat → Nat) {i n : Nat} (hi : i < 5) (hn : n < 65536) : pz_M l (d + 1 + 1 + 1 + 1) yz_ix1 cz_ix1 2 (some .int) adK adV [.ref (adK i), .int (Int32.ofNat n)] (pv_ix i (Int32.ofNat n)) := by
  refine pz_open (by decide) (Nat.le_of_ble_eq_true rfl) ?_
  intro p e R s m args below meth c ls S hr hlk hZ hf hlo hl
  obtain ⟨hex, hb, hml, hown, hts⟩ := id S
  have hS : va_S pzN s.heap s.heap [] := va_S.rf
  have hZH : ∀ {H : Heap}, (∀ q, q < s.heap.size → H[q]? = s.heap[q]?) → ∀ U : State, s.vm.Alike U.vm → U.heap = H → pz_Z adK adV U := fun hk U hv hU => pz_Z.kept hv (fun q hq => by rw [hU]; exact hk q hq) hZ
  refine lv_aload_n hex hb (by decide +kernel : decode cz_ix1 0 = .ok (.aload_n 0, 1)) rfl (lv_at hl 0 rfl) ?_
  refine lv_iload_n hex hb (by decide +kernel : decode cz_ix1 1 = .ok (.iload_n 1, 1)) rfl (lv_at hl 1 rfl) ?_
  refine lv_iconst hex hb (by decide +kernel : decode cz_ix1 2 = .ok (.iconst 0, 1)) (v := 0) rfl ?_
  refine pz_callV (as := [.int (Int32.ofNat n), .int 0]) (n := 2) (pz_ix2 l d adK adV hi hn) S hS (hZH (fun _ _ => rfl)) (vk_recv hZ.1 hi hS) (pz_w 4 rfl) (pz_w 5 rfl) (pz_w 32 rfl) (pz_w 6 rfl) (pz_w 7 rfl) (by decide) ⟨by omega, by omega⟩ rfl hl.1 (Nat.le_of_ble_eq_true rfl) (by decide +kernel : decode cz_ix1 3 = .ok (.invokevirtual 633, 3)) (Nat.zero_le _) (Nat.zero_le _) ?_
  intro H1 locs1 hS1 z1 hk1
  exact W.iret hex hb hr (fun t ht _ => pz_q hS1 ht) (fun q h => hS1.2.2 q h) (by decide +kernel : decode cz_ix1 6 = .ok (.ireturn, 1)) hlk
theorem pz_cn (x : Int32) : ∃ n, n < 65536 ∧ pv_chr x = Int32.ofNat n := by
  refine ⟨(x.toUInt32 % 65536).toNat, ?_, ?_⟩
  · rw [UInt32.toNat_mod]
    exact Nat.mod_lt _ (by decide)
  · unfold pv_chr
    apply Int32.toBitVec_inj.mp
    show (x.toUInt32 % 65536).toBitVec = _
    rw [Int32.toBitVec_ofNat']
    exact BitVec.eq_of_toNat_eq (by rw [BitVec.toNat_ofNat]; exact (Nat.mod_eq_of_lt (BitVec.isLt (x.toUInt32 % 65536).toBitVec)).symm)
theorem pz_one (l : Launch) (d : Nat) (adK adV : Nat → Nat) {i : Nat} (hi : i < 5) (x : Int32) : pz_M l (d + 1 + 1 + 1 + 1 + 1) yz_one cz_one 2 (some .boolean) adK adV [.int x, .ref (adK i)] (pv_one i x) := by
  refine pz_open (by decide) (Nat.le_of_ble_eq_true rfl) ?_
  intro p e R s m args below meth c ls S hr hlk hZ hf hlo hl
  obtain ⟨hex, hb, hml, hown, hts⟩ := id S
  have hS : va_S pzN s.heap s.heap [] := va_S.rf
  have hZH : ∀ {H : Heap}, (∀ q, q < s.heap.size → H[q]? = s.heap[q]?) → ∀ U : State, s.vm.Alike U.vm → U.heap = H → pz_Z adK adV U := fun hk U hv hU => pz_Z.kept hv (fun q hq => by rw [hU]; exact hk q hq) hZ
  refine lv_iload_n hex hb (by decide +kernel : decode cz_one 0 = .ok (.iload_n 0, 1)) rfl (lv_at hl 0 rfl) ?_
  refine lv_if_le hex hb (by decide +kernel : decode cz_one 1 = .ok (.ifCond .le 16, 3)) (tgt := 17) (by decide) (fun q => ?_) (fun q => ?_)
  · refine lv_iconst hex hb (by decide +kernel : decode cz_one 17 = .ok (.iconst 0, 1)) (v := 0) rfl ?_
    have e9 : pv_one i x = 0 := if_neg (fun z => absurd z.1 (Int32.not_lt.mpr q))
    rw [e9]
    exact W.zret (ty := .boolean) hex hb hr rfl (fun t ht _ => pz_q hS ht) (fun q h => hS.2.2 q h) (by decide +kernel : decode cz_one 18 = .ok (.ireturn, 1)) hlk
  · refine lv_aload_n hex hb (by decide +kernel : decode cz_one 4 = .ok (.aload_n 1, 1)) rfl (lv_at hl 1 rfl) ?_
    refine lv_iload_n hex hb (by decide +kernel : decode cz_one 5 = .ok (.iload_n 0, 1)) rfl (lv_at hl 0 rfl) ?_
    refine lv_i2c hex hb (by decide +kernel : decode cz_one 6 = .ok (.i2c, 1)) rfl ?_
    obtain ⟨n, hn, en⟩ := pz_cn x
    have en2 : (x.toUInt32 % 65536).toInt32 = Int32.ofNat n := en
    rw [en2]
    refine pz_callV (as := [.int (Int32.ofNat n)]) (n := 1) (pz_ix1 l d adK adV hi hn) S hS (hZH (fun _ _ => rfl)) (vk_recv hZ.1 hi hS) (pz_w 0 rfl) (pz_w 1 rfl) (pz_w 39 rfl) (pz_w 2 rfl) (pz_w 3 rfl) (by decide) ⟨by omega, by omega⟩ rfl hl.1 (Nat.le_of_ble_eq_true rfl) (by decide +kernel : decode cz_one 7 = .ok (.invokevirtual 56, 3)) (Nat.zero_le _) (Nat.zero_le _) ?_
    intro H1 locs1 hS1 z1 hk1
    refine lv_if_lt hex hb (by decide +kernel : decode cz_one 10 = .ok (.ifCond .lt 7, 3)) (tgt := 17) (by decide) (fun q2 => ?_) (fun q2 => ?_)
    · refine lv_iconst hex hb (by decide +kernel : decode cz_one 17 = .ok (.iconst 0, 1)) (v := 0) rfl ?_
      have e9 : pv_one i x = 0 := if_neg (fun z => absurd z.2 (by rw [en]; exact Int32.not_le.mpr q2))
      rw [e9]
      exact W.zret (ty := .boolean) hex hb hr rfl (fun t ht _ => pz_q hS1 ht) (fun q h => hS1.2.2 q h) (by decide +kernel : decode cz_one 18 = .ok (.ireturn, 1)) hlk
    · refine lv_iconst hex hb (by decide +kernel : decode cz_one 13 = .ok (.iconst 1, 1)) (v := 1) rfl ?_
      refine lv_goto hex hb (by decide +kernel : decode cz_one 14 = .ok (.goto 4, 3)) (tgt := 18) (by decide) ?_
      have e9 : pv_one i x = 1 := if_pos ⟨Int32.not_le.mp q, by rw [en]; exact Int32.not_lt.mp q2⟩
      rw [e9]
      exact W.zret (ty := .boolean) hex hb hr rfl (fun t ht _ => pz_q hS1 ht) (fun q h => hS1.2.2 q h) (by decide +kernel : decode cz_one 18 = .ok (.ireturn, 1)) hlk
