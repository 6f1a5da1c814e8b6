/-! the state's reads, second half -/
def g_tot (f : Nat → Nat) : Nat → Nat
  | 0 => 0
  | n + 1 => g_tot f n + f n
theorem g_tot_le {f : Nat → Nat} {m : Nat} (h : ∀ k, f k ≤ m) : ∀ n, g_tot f n ≤ n * m
  | 0 => Nat.zero_le _
  | n + 1 => by
    have := g_tot_le h n
    have := h n
    rw [g_tot, Nat.succ_mul]
    omega
theorem g_tot_congr {f g : Nat → Nat} : ∀ {n : Nat}, (∀ k, k < n → f k = g k) → g_tot f n = g_tot g n
  | 0, _ => rfl
  | n + 1, h => by rw [g_tot, g_tot, g_tot_congr (fun k hk => h k (by omega)), h n (by omega)]
theorem c_marksOnBacks {d : Nat} {b : Nat} {S : c_St} {h : m_Hp} (hs : Hst h b S) (ok : Oks S) : m_Call m_P (d + 2) 31 [.ref b] (h) (some (.int (nI (g_tot (fun c => g_pop ((c_backs S).getD c 0)) 24)))) (h) := by
  refine m_call_of (tab := tX3_marksOnBacks) (nL := 3) rfl rfl ?_
  obtain ⟨h0, h1, h2, h3, h4, h5, h6, h7, h8⟩ := hs
  obtain ⟨k1, k2, k3, k4, k5, k6, k7, k8, k9, k10, k11, k12, k13⟩ := ok
  refine m_E.run 4 (pc1 := 4) (ls1 := [some _, some _, some _]) (st1 := []) rfl ?_
  refine m_E.up (fun i => (4, [some (.ref b), some (.int (nI (g_tot (fun c => g_pop ((c_backs S).getD c 0)) i))), some (.int (nI i))], [], h)) 24 (fun i => True) (fun i hi hI K => ?_) ?_ (fun hI => ?_)
  · skip
    show m_E _ _ 4 [some (.ref b), some (.int (nI (g_tot (fun c => g_pop ((c_backs S).getD c 0)) i))), some (.int (nI i))] [] (h) _
    refine m_E.run 2 (pc1 := 7) (ls1 := [some _, some _, some _]) (st1 := [_, _]) rfl ?_
    refine m_E.icf (by rw [m_leI (by omega) (by omega), decide_eq_false_iff_not]; omega) rfl ?_
    refine m_E.run 2 (pc1 := 12) (ls1 := [some _, some _, some _]) (st1 := [_, _]) rfl ?_
    refine m_E.gf h1 h0 rfl rfl ?_
    refine m_E.run 1 (pc1 := 16) (ls1 := [some _, some _, some _]) (st1 := [_, _, _]) rfl ?_
    refine m_E.ild h4 (Or.inl rfl) rfl (by rw [List.length_map]; omega) (by rw [List.length_map]; omega) rfl ?_
    have hlt : (c_backs S).getD i 0 < 16 := g_getD_lt k5 (by omega)
    refine m_E.cv rfl rfl (c_bitCount (m_mapD _ _) (by omega)) ?_
    refine m_E.run 4 (pc1 := 4) (ls1 := [some _, some _, some _]) (st1 := []) rfl ?_
    dsimp only
    rw [nI_add, nI_add]
    exact K trivial
  · skip
    trivial
  · skip
    show m_E _ _ 4 ((fun i => [some (.ref b), some (.int (nI (g_tot (fun c => g_pop ((c_backs S).getD c 0)) i))), some (.int (nI i))]) (24)) [] ((fun i => h) (24)) _
    dsimp only
    refine m_E.run 2 (pc1 := 7) (ls1 := [some _, some _, some _]) (st1 := [_, _]) rfl ?_
    refine m_E.ict (by decide) rfl ?_
    refine m_E.run 1 (pc1 := 29) (ls1 := [some _, some _, some _]) (st1 := [_]) rfl ?_
    exact m_E.iret rfl ⟨rfl, rfl⟩
theorem c_sheetAt {d : Nat} {b j : Nat} {S : c_St} {x : Int32} {h : m_Hp} (hs : Hst h b S) (ok : Oks S) (hx : x = nI j) (hj : j < c_piled S) : m_Call m_P (d + 1) 32 [.ref b, .int x] (h) (some (m_rf ((c_pile S).getD (c_piled S - 1 - j) none))) (h) := by
  refine m_call_of (tab := tX3_sheetAt) (nL := 2) rfl rfl ?_
  subst hx
  obtain ⟨h0, h1, h2, h3, h4, h5, h6, h7, h8⟩ := hs
  obtain ⟨k1, k2, k3, k4, k5, k6, k7, k8, k9, k10, k11, k12, k13⟩ := ok
  refine m_E.run 1 (pc1 := 1) (ls1 := [some _, some _]) (st1 := [_]) rfl ?_
  refine m_E.iff (m_lt0 (by omega)) rfl ?_
  refine m_E.run 2 (pc1 := 6) (ls1 := [some _, some _]) (st1 := [_, _]) rfl ?_
  refine m_E.gf h1 h0 rfl rfl ?_
  refine m_E.icf (by rw [m_leI (by omega) (by omega), decide_eq_false_iff_not]; omega) rfl ?_
  refine m_E.run 1 (pc1 := 13) (ls1 := [some _, some _]) (st1 := [_]) rfl ?_
  refine m_E.gf h1 h0 rfl rfl ?_
  refine m_E.run 1 (pc1 := 18) (ls1 := [some _, some _]) (st1 := [_, _]) rfl ?_
  refine m_E.ict (by rw [m_leI (by omega) (by omega), decide_eq_true_eq]; omega) rfl ?_
  refine m_E.run 1 (pc1 := 24) (ls1 := [some _, some _]) (st1 := [_]) rfl ?_
  refine m_E.gf h1 h0 rfl rfl ?_
  refine m_E.run 1 (pc1 := 28) (ls1 := [some _, some _]) (st1 := [_, _]) rfl ?_
  refine m_E.gf h1 h0 rfl rfl ?_
  refine m_E.run 4 (pc1 := 35) (ls1 := [some _, some _]) (st1 := [_, _]) rfl ?_
  dsimp only
  rw [pk_sub (by omega), pk_sub (by omega)]
  refine m_E.ald h6 (Or.inl rfl) (by omega) rfl (by omega) (by omega) rfl ?_
  cases (c_pile S).getD (c_piled S - 1 - j) none
  · exact m_E.ret rfl rfl ⟨rfl, rfl⟩
  exact m_E.ret rfl rfl ⟨rfl, rfl⟩
theorem c_sheetAt0 {d : Nat} {b : Nat} {S : c_St} {x : Int32} {h : m_Hp} (hs : Hst h b S) (ok : Oks S) (hx : x < 0 ∨ nI (c_piled S) ≤ x) : m_Call m_P (d + 1) 32 [.ref b, .int x] (h) (some .null) (h) := by
  refine m_call_of (tab := tX3_sheetAt) (nL := 2) rfl rfl ?_
  obtain ⟨h0, h1, h2, h3, h4, h5, h6, h7, h8⟩ := hs
  refine m_E.run 1 (pc1 := 1) (ls1 := [some _, some _]) (st1 := [_]) rfl ?_
  refine m_E.if2 rfl (fun q1 => ?_) (fun q1 => ?_)
  · skip
    refine m_E.run 1 (pc1 := 22) (ls1 := [some _, some _]) (st1 := [_]) rfl ?_
    exact m_E.ret rfl rfl ⟨rfl, rfl⟩
  · skip
    refine m_E.run 2 (pc1 := 6) (ls1 := [some _, some _]) (st1 := [_, _]) rfl ?_
    refine m_E.gf h1 h0 rfl rfl ?_
    refine m_E.ict (by rw [decide_eq_false_iff_not] at q1; rw [decide_eq_true_eq]; exact hx.resolve_left q1) rfl ?_
    refine m_E.run 1 (pc1 := 22) (ls1 := [some _, some _]) (st1 := [_]) rfl ?_
    exact m_E.ret rfl rfl ⟨rfl, rfl⟩
/-- why a pack of the sheet s can't be sold -/
def g_known (S : c_St) (s : c_Sh) : Nat := g_cnt (fun j => g_can (c_order S) s.2.1 (c_dealt S) (24 - c_dealt S) j == 1) (g_left (c_fr S) (c_dealt S))
def g_reason (S : c_St) (s : c_Sh) : Nat :=
  if 0 < c_dealt S then 1 else if 0 < g_beyond s.2.2 (nI ((c_settings S).getD 1 0)) 24 then 2 else if (c_settings S).getD 2 0 < g_known S s then 3 else 0
theorem g_beyond_le (xs : List Int32) (l : Int32) : ∀ n, g_beyond xs l n ≤ n
  | 0 => Nat.le_refl _
  | n + 1 => by
    have := g_beyond_le xs l n
    rw [g_beyond]
    split <;> omega
theorem c_reason {d : Nat} {b k : Nat} {S : c_St} {s : c_Sh} {h : m_Hp} (hs : Hst h b S) (ok : Oks S) (hf : c_fr S = some k) (hsh : Hsh h k s) (hm : g_sm s) : m_Call m_P (d + 6) 36 [.ref b] (h) (some (.int (nI (g_reason S s)))) (h) := by
  refine m_call_of (tab := tX3_reasonAgainstSale) (nL := 2) rfl rfl ?_
  have hpk := hs.pk ok
  have hps : Hps h (b + 6) (b + 7) (c_order S) (c_fr S) (c_dealt S) s := ⟨hpk, fun k2 e => by rw [hf] at e; cases e; exact hsh, hm⟩
  obtain ⟨h0, h1, h2, h3, h4, h5, h6, h7, h8⟩ := hs
  obtain ⟨k1, k2, k3, k4, k5, k6, k7, k8, k9, k10, k11, k12, k13⟩ := ok
  obtain ⟨s1, s2, s3, s4, s5, s6, s7, s8⟩ := hsh
  have hl : s.2.2.length < 2 ^ 31 := by omega
  have hbl := g_beyond_le s.2.2 (nI ((c_settings S).getD 1 0)) 24
  have hset : (c_settings S).getD 2 0 < 100 := g_getD_lt k7 (by omega)
  have hkn : g_known S s ≤ 24 := Nat.le_trans (g_cnt_le _ _) (g_left_le _ _)
  rw [hf] at h7
  refine m_E.run 1 (pc1 := 1) (ls1 := [some _, none]) (st1 := [_]) rfl ?_
  refine m_E.gf h1 h0 rfl rfl ?_
  refine m_E.gf h7 (by omega) rfl rfl ?_
  refine m_E.run 2 (pc1 := 9) (ls1 := [some _, some _]) (st1 := [_]) rfl ?_
  refine m_E.gf h1 h0 rfl rfl ?_
  refine m_E.gf h7 (by omega) rfl rfl ?_
  refine m_E.if2 rfl (fun q1 => ?_) (fun q1 => ?_)
  · skip
    rw [show (0 : Int32) = nI 0 from rfl, m_leI (by omega) (by omega), decide_eq_true_eq] at q1
    refine m_E.run 1 (pc1 := 21) (ls1 := [some _, some _]) (st1 := [_]) rfl ?_
    refine m_E.run 1 (pc1 := 24) (ls1 := [some _, some _]) (st1 := []) rfl ?_
    refine m_E.run 1 (pc1 := 25) (ls1 := [some _, some _]) (st1 := [_]) rfl ?_
    refine m_E.gf s2 s1 rfl rfl ?_
    refine m_E.run 1 (pc1 := 29) (ls1 := [some _, some _]) (st1 := [_, _]) rfl ?_
    refine m_E.gf h1 h0 rfl rfl ?_
    refine m_E.run 1 (pc1 := 33) (ls1 := [some _, some _]) (st1 := [_, _, _]) rfl ?_
    refine m_E.cv rfl rfl (c_at h5 (j := 1) rfl (by rw [List.length_map]; omega) (by rw [List.length_map]; omega)) ?_
    rw [m_mapD]
    refine m_E.cv rfl rfl (c_courtsBeyond s5 hl) ?_
    rw [s8]
    refine m_E.if2 rfl (fun q2 => ?_) (fun q2 => ?_)
    · skip
      rw [show (0 : Int32) = nI 0 from rfl, m_leI (by omega) (by omega), decide_eq_true_eq] at q2
      refine m_E.run 1 (pc1 := 45) (ls1 := [some _, some _]) (st1 := [_]) rfl ?_
      refine m_E.gf h1 h0 rfl rfl ?_
      refine m_E.ov h7 (by omega) rfl rfl rfl (c_known hps) ?_
      refine m_E.run 1 (pc1 := 52) (ls1 := [some _, some _]) (st1 := [_, _]) rfl ?_
      refine m_E.gf h1 h0 rfl rfl ?_
      refine m_E.run 1 (pc1 := 56) (ls1 := [some _, some _]) (st1 := [_, _, _]) rfl ?_
      refine m_E.cv rfl rfl (c_at h5 (j := 2) rfl (by rw [List.length_map]; omega) (by rw [List.length_map]; omega)) ?_
      rw [m_mapD]
      refine m_E.ic2 rfl (fun q3 => ?_) (fun q3 => ?_)
      · skip
        change decide (nI (g_known S s) ≤ nI ((c_settings S).getD 2 0)) = true at q3
        rw [m_leI (by omega) (by omega), decide_eq_true_eq] at q3
        refine m_E.run 1 (pc1 := 67) (ls1 := [some _, some _]) (st1 := [_]) rfl ?_
        refine m_E.iret rfl ⟨?_, rfl⟩
        unfold g_reason
        rw [if_neg (by omega), if_neg (by omega), if_neg (by omega)]
      · skip
        change decide (nI (g_known S s) ≤ nI ((c_settings S).getD 2 0)) = false at q3
        rw [m_leI (by omega) (by omega), decide_eq_false_iff_not] at q3
        refine m_E.run 2 (pc1 := 67) (ls1 := [some _, some _]) (st1 := [_]) rfl ?_
        refine m_E.iret rfl ⟨?_, rfl⟩
        unfold g_reason
        rw [if_neg (by omega), if_neg (by omega), if_pos (by omega)]
    · skip
      rw [show (0 : Int32) = nI 0 from rfl, m_leI (by omega) (by omega), decide_eq_false_iff_not] at q2
      refine m_E.run 1 (pc1 := 43) (ls1 := [some _, some _]) (st1 := [_]) rfl ?_
      refine m_E.iret rfl ⟨?_, rfl⟩
      unfold g_reason
      rw [if_neg (by omega), if_pos (by omega)]
  · skip
    rw [show (0 : Int32) = nI 0 from rfl, m_leI (by omega) (by omega), decide_eq_false_iff_not] at q1
    refine m_E.run 1 (pc1 := 19) (ls1 := [some _, some _]) (st1 := [_]) rfl ?_
    refine m_E.iret rfl ⟨?_, rfl⟩
    unfold g_reason
    rw [if_pos (by omega)]
/-! what a sharper would know of a pack printed now -/
/-- the marks behind a cell, one cell bare (24: none) -/
def g_bk (backs : List Nat) (turned : Bool) (bare : Nat) (c : Nat) : Nat := if (if turned then 23 - c else c) = bare then 0 else backs.getD (if turned then 23 - c else c) 0
def g_seen (f : Nat → Nat) : Nat → Nat
  | 0 => 0
  | n + 1 => g_seen f n ||| 2 ^ f n
def g_again (f : Nat → Nat) : Nat → Nat
  | 0 => 0
  | n + 1 => g_again f n ||| (g_seen f n &&& 2 ^ f n)
theorem g_seen_lt {f : Nat → Nat} (hf : ∀ k, f k < 16) : ∀ n, g_seen f n < 2 ^ 16
  | 0 => (by decide : (0 : Nat) < 2 ^ 16)
  | n + 1 => Nat.or_lt_two_pow (g_seen_lt hf n) (Nat.pow_lt_pow_right (by decide) (hf n))
theorem g_again_lt {f : Nat → Nat} (hf : ∀ k, f k < 16) : ∀ n, g_again f n < 2 ^ 16
  | 0 => (by decide : (0 : Nat) < 2 ^ 16)
  | n + 1 => Nat.or_lt_two_pow (g_again_lt hf n) (Nat.lt_of_le_of_lt Nat.and_le_left (g_seen_lt hf n))
theorem g_seen_bit {f : Nat → Nat} {v : Nat} : ∀ n, (g_seen f n).testBit v = decide (1 ≤ g_cnt (fun c => f c == v) n)
  | 0 => by simp [g_seen, g_cnt]
  | n + 1 => by
    rw [g_seen, Nat.testBit_or, g_seen_bit n, g_cnt, Nat.testBit_two_pow]
    by_cases h : f n = v
    · simp [h]
    · simp [h]
theorem g_again_bit {f : Nat → Nat} {v : Nat} : ∀ n, (g_again f n).testBit v = decide (2 ≤ g_cnt (fun c => f c == v) n)
  | 0 => by simp [g_again, g_cnt]
  | n + 1 => by
    rw [g_again, Nat.testBit_or, Nat.testBit_and, g_again_bit n, g_seen_bit n, g_cnt, Nat.testBit_two_pow]
    by_cases h : f n = v
    · simp [h]
      omega
    · simp [h]
theorem g_shl : ∀ v, v < 16 → (nI 1) <<< (nI v &&& 31) = nI (2 ^ v) := by decide +kernel
theorem g_less {a b : Nat} (ha : a < 2 ^ 16) (hb : b < 2 ^ 16) : nI a &&& (nI b ^^^ (-1)) = nI (a &&& (b ^^^ 65535)) := by
  rw [← m_and, ← m_xor]
  apply Int32.toBitVec_inj.1
  apply BitVec.eq_of_getLsbD_eq
  intro i hi
  by_cases h : i < 16
  · have h1 : (-1 : Int32).toBitVec.getLsbD i = true := (by decide +kernel : ∀ i, i < 32 → (-1 : Int32).toBitVec.getLsbD i = true) i hi
    have h2 : (nI 65535).toBitVec.getLsbD i = true := (by decide +kernel : ∀ i, i < 16 → (nI 65535).toBitVec.getLsbD i = true) i h
    rw [Int32.toBitVec_and, Int32.toBitVec_and, Int32.toBitVec_xor, Int32.toBitVec_xor, BitVec.getLsbD_and, BitVec.getLsbD_and, BitVec.getLsbD_xor, BitVec.getLsbD_xor, h1, h2]
  · have h3 : (nI a).toBitVec.getLsbD i = false := by
      show (BitVec.ofNat 32 a).getLsbD i = false
      rw [BitVec.getLsbD_ofNat, Nat.testBit_lt_two_pow (Nat.lt_of_lt_of_le ha (Nat.pow_le_pow_right (by decide) (by omega)))]
      simp
    rw [Int32.toBitVec_and, Int32.toBitVec_and, BitVec.getLsbD_and, BitVec.getLsbD_and, h3]
    rfl
theorem g_ones {f : Nat → Nat} {n : Nat} : g_pop (g_seen f n &&& (g_again f n ^^^ 65535)) = g_cnt (fun v => g_cnt (fun c => f c == v) n == 1) 16 := by
  unfold g_pop
  refine g_cnt_congr fun v hv => ?_
  rw [Nat.testBit_and, Nat.testBit_xor, g_seen_bit, g_again_bit, (by decide +kernel : ∀ v, v < 16 → (65535 : Nat).testBit v = true) v hv]
  by_cases h1 : g_cnt (fun c => f c == v) n = 1
  · simp [h1]
  · by_cases h2 : 2 ≤ g_cnt (fun c => f c == v) n
    · simp [h1, h2]
    · have h3 : g_cnt (fun c => f c == v) n = 0 := by omega
      simp [h3]
theorem c_knownIf {d : Nat} {b bare : Nat} {tu : Bool} {S : c_St} {x y : Int32} {h : m_Hp} (hs : Hst h b S) (ok : Oks S) (hx : x = m_bI tu) (hy : (y = nI bare ∧ bare < 24) ∨ (y = -1 ∧ bare = 24)) : m_Call m_P (d + 2) 37 [.ref b, .int x, .int y] (h) (some (.int (nI (g_cnt (fun v => g_cnt (fun c => g_bk (c_backs S) tu bare c == v) 24 == 1) 16)))) (h) := by
  refine m_call_of (tab := tX3_knownIfPrinted) (nL := 8) rfl rfl ?_
  subst hx
  obtain ⟨h0, h1, h2, h3, h4, h5, h6, h7, h8⟩ := hs
  obtain ⟨k1, k2, k3, k4, k5, k6, k7, k8, k9, k10, k11, k12, k13⟩ := ok
  have fl : ∀ c, g_bk (c_backs S) tu bare c < 16 := by
    intro c
    unfold g_bk
    by_cases e : (if tu = true then 23 - c else c) = bare
    · rw [if_pos e]; decide
    · rw [if_neg e, List.getD_eq_getElem?_getD]
      cases hq : (c_backs S)[(if tu = true then 23 - c else c)]? with
      | none => decide
      | some z => exact k5 z (List.mem_of_getElem? hq)
  have hyb : ∀ q, q < 24 → (nI q == y) = decide (q = bare) := by
    intro q hq
    rcases hy with ⟨rfl, hb⟩ | ⟨rfl, rfl⟩
    · exact m_beqI (by omega) (by omega)
    · rw [decide_eq_false (by omega)]
      exact (by decide +kernel : ∀ q, q < 24 → (nI q == (-1 : Int32)) = false) q hq
  refine m_E.run 6 (pc1 := 8) (ls1 := [some _, some _, some _, some _, some _, some _, none, none]) (st1 := []) rfl ?_
  refine m_E.up (fun i => (8, [some (.ref b), some (.int (m_bI tu)), some (.int y), some (.int (nI (g_seen (g_bk (c_backs S) tu bare) i))), some (.int (nI (g_again (g_bk (c_backs S) tu bare) i))), some (.int (nI i)), g_l3 (fun c => if tu then 23 - c else c) i, g_l3 (g_bk (c_backs S) tu bare) i], [], h)) 24 (fun i => True) (fun i hi hI K => ?_) ?_ (fun hI => ?_)
  · skip
    show m_E _ _ 8 [some (.ref b), some (.int (m_bI tu)), some (.int y), some (.int (nI (g_seen (g_bk (c_backs S) tu bare) i))), some (.int (nI (g_again (g_bk (c_backs S) tu bare) i))), some (.int (nI i)), g_l3 (fun c => if tu then 23 - c else c) i, g_l3 (g_bk (c_backs S) tu bare) i] [] (h) _
    have lseen := g_seen_lt fl i
    have lagain := g_again_lt fl i
    refine m_E.run 2 (pc1 := 12) (ls1 := [some _, some _, some _, some _, some _, some _, _, _]) (st1 := [_, _]) rfl ?_
    refine m_E.icf (by rw [m_leI (by omega) (by omega), decide_eq_false_iff_not]; omega) rfl ?_
    have go : m_E (m_Call m_P (d + 1)) tX3_knownIfPrinted 29 [some (.ref b), some (.int (m_bI tu)), some (.int y), some (.int (nI (g_seen (g_bk (c_backs S) tu bare) i))), some (.int (nI (g_again (g_bk (c_backs S) tu bare) i))), some (.int (nI i)), g_l3 (fun c => if tu then 23 - c else c) i, g_l3 (g_bk (c_backs S) tu bare) i] [.int (nI (if tu then 23 - i else i))] h (fun r2 h2 => r2 = some (.int (nI (g_cnt (fun v => g_cnt (fun c => g_bk (c_backs S) tu bare c == v) 24 == 1) 16))) ∧ h2 = h) := by
      have hlt : (if tu then 23 - i else i) < 24 := by split <;> omega
      have go2 : m_E (m_Call m_P (d + 1)) tX3_knownIfPrinted 50 [some (.ref b), some (.int (m_bI tu)), some (.int y), some (.int (nI (g_seen (g_bk (c_backs S) tu bare) i))), some (.int (nI (g_again (g_bk (c_backs S) tu bare) i))), some (.int (nI i)), some (.int (nI (if tu then 23 - i else i))), g_l3 (g_bk (c_backs S) tu bare) i] [.int (nI (g_bk (c_backs S) tu bare i))] h (fun r2 h2 => r2 = some (.int (nI (g_cnt (fun v => g_cnt (fun c => g_bk (c_backs S) tu bare c == v) 24 == 1) 16))) ∧ h2 = h) := by
        refine m_E.run 9 (pc1 := 63) (ls1 := [some _, some _, some _, some _, some _, some _, some _, some _]) (st1 := []) rfl ?_
        refine m_E.run 8 (pc1 := 8) (ls1 := [some _, some _, some _, some _, some _, some _, some _, some _]) (st1 := []) rfl ?_
        dsimp only
        rw [g_shl _ (fl i), m_and, m_or, m_or, nI_add]
        exact K trivial
      refine m_E.run 3 (pc1 := 34) (ls1 := [some _, some _, some _, some _, some _, some _, some _, _]) (st1 := [_, _]) rfl ?_
      refine m_E.ic2 rfl (fun q1 => ?_) (fun q1 => ?_)
      · rw [hyb _ hlt, Bool.not_eq_true', decide_eq_false_iff_not] at q1
        refine m_E.run 1 (pc1 := 42) (ls1 := [some _, some _, some _, some _, some _, some _, some _, _]) (st1 := [_]) rfl ?_
        refine m_E.gf h1 h0 rfl rfl ?_
        refine m_E.run 1 (pc1 := 47) (ls1 := [some _, some _, some _, some _, some _, some _, some _, _]) (st1 := [_, _]) rfl ?_
        refine m_E.cv rfl rfl (c_at h4 rfl (by rw [List.length_map]; omega) (by rw [List.length_map]; omega)) ?_
        rw [m_mapD]
        have e : g_bk (c_backs S) tu bare i = (c_backs S).getD (if tu = true then 23 - i else i) 0 := by unfold g_bk; rw [if_neg q1]
        rw [← e]
        exact go2
      · rw [hyb _ hlt, Bool.not_eq_false', decide_eq_true_eq] at q1
        have e : g_bk (c_backs S) tu bare i = 0 := by unfold g_bk; rw [if_pos q1]
        refine m_E.run 2 (pc1 := 50) (ls1 := [some _, some _, some _, some _, some _, some _, some _, _]) (st1 := [_]) rfl ?_
        rw [e] at go2
        exact go2
    refine m_E.run 1 (pc1 := 16) (ls1 := [some _, some _, some _, some _, some _, some _, _, _]) (st1 := [_]) rfl ?_
    cases tu
    · skip
      refine m_E.ift (by decide) rfl ?_
      refine m_E.run 1 (pc1 := 29) (ls1 := [some _, some _, some _, some _, some _, some _, _, _]) (st1 := [_]) rfl ?_
      exact go
    · refine m_E.iff (by decide) rfl ?_
      refine m_E.run 4 (pc1 := 29) (ls1 := [some _, some _, some _, some _, some _, some _, _, _]) (st1 := [_]) rfl ?_
      dsimp only
      rw [pk_sub (by omega)]
      exact go
  · skip
    trivial
  · skip
    show m_E _ _ 8 ((fun i => [some (.ref b), some (.int (m_bI tu)), some (.int y), some (.int (nI (g_seen (g_bk (c_backs S) tu bare) i))), some (.int (nI (g_again (g_bk (c_backs S) tu bare) i))), some (.int (nI i)), g_l3 (fun c => if tu then 23 - c else c) i, g_l3 (g_bk (c_backs S) tu bare) i]) (24)) [] ((fun i => h) (24)) _
    dsimp only
    have lseen := g_seen_lt fl 24
    have lagain := g_again_lt fl 24
    refine m_E.run 2 (pc1 := 12) (ls1 := [some _, some _, some _, some _, some _, some _, _, _]) (st1 := [_, _]) rfl ?_
    refine m_E.ict (by decide) rfl ?_
    refine m_E.run 5 (pc1 := 82) (ls1 := [some _, some _, some _, some _, some _, some _, _, _]) (st1 := [_]) rfl ?_
    dsimp only
    rw [g_less lseen lagain]
    refine m_E.cv rfl rfl (c_bitCount rfl (Nat.lt_of_le_of_lt Nat.and_le_left lseen)) ?_
    rw [g_ones]
    exact m_E.iret rfl ⟨rfl, rfl⟩
