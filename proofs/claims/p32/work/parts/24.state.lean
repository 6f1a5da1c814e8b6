/-! a state of the shop upon the plain heap; its reads -/
abbrev c_St : Type := List Nat × List Int32 × List Nat × List Nat × List (Option Nat) × List Nat × Option Nat × Nat × Nat × Nat × Int32 × Int32 × Int32
def c_cards (S : c_St) : List Nat := S.1
def c_leans (S : c_St) : List Int32 := S.2.1
def c_backs (S : c_St) : List Nat := S.2.2.1
def c_settings (S : c_St) : List Nat := S.2.2.2.1
def c_pile (S : c_St) : List (Option Nat) := S.2.2.2.2.1
def c_order (S : c_St) : List Nat := S.2.2.2.2.2.1
def c_fr (S : c_St) : Option Nat := S.2.2.2.2.2.2.1
def c_dealt (S : c_St) : Nat := S.2.2.2.2.2.2.2.1
def c_piled (S : c_St) : Nat := S.2.2.2.2.2.2.2.2.1
def c_printed (S : c_St) : Nat := S.2.2.2.2.2.2.2.2.2.1
def c_sold (S : c_St) : Int32 := S.2.2.2.2.2.2.2.2.2.2.1
def c_pulped (S : c_St) : Int32 := S.2.2.2.2.2.2.2.2.2.2.2.1
def c_coins (S : c_St) : Int32 := S.2.2.2.2.2.2.2.2.2.2.2.2
def c_mk (cards : List Nat) (leans : List Int32) (backs settings : List Nat) (pile : List (Option Nat)) (order : List Nat) (fr : Option Nat) (dealt piled printed : Nat) (sold pulped coins : Int32) : c_St := (cards, leans, backs, settings, pile, order, fr, dealt, piled, printed, sold, pulped, coins)
/-- the fields of the object at b -/
def c_flds (b : Nat) (S : c_St) : List Value := [.ref (b + 1), .ref (b + 2), .ref (b + 3), .ref (b + 4), .ref (b + 5), .ref (b + 6), .int (nI (c_piled S)), .int (nI (c_printed S)), .int (c_sold S), .int (c_pulped S), .int (c_coins S)]
/-- what the state may be -/
def Oks (S : c_St) : Prop := (c_cards S).length = 24 ∧ (∀ x, x ∈ c_cards S → x < 24) ∧ (c_leans S).length = 24 ∧ (c_backs S).length = 24 ∧ (∀ x, x ∈ c_backs S → x < 16) ∧ (c_settings S).length = 4 ∧ (∀ x, x ∈ c_settings S → x < 100) ∧ (c_pile S).length = 6 ∧ (c_order S).length = 24 ∧ (∀ x, x ∈ c_order S → x < 24) ∧ c_dealt S ≤ 24 ∧ c_piled S ≤ 6 ∧ c_printed S < 2 ^ 30
/-- the eight cells of a state, from b on -/
def Hst (h : m_Hp) (b : Nat) (S : c_St) : Prop := 3 < b ∧ h[b]? = some (.inr (.inl (3, c_flds b S))) ∧ h[b + 1]? = some (.inl (0, (c_cards S).map nI)) ∧ h[b + 2]? = some (.inl (0, c_leans S)) ∧ h[b + 3]? = some (.inl (0, (c_backs S).map nI)) ∧ h[b + 4]? = some (.inl (0, (c_settings S).map nI)) ∧ h[b + 5]? = some (.inr (.inr (2, c_pile S))) ∧ h[b + 6]? = some (.inr (.inl (1, [.ref (b + 7), m_rf (c_fr S), .int (nI (c_dealt S))]))) ∧ h[b + 7]? = some (.inl (0, (c_order S).map nI))
theorem Hst.pk {h : m_Hp} {b : Nat} {S : c_St} (hs : Hst h b S) (ok : Oks S) : Hpk h (b + 6) (b + 7) (c_order S) (c_fr S) (c_dealt S) := by
  obtain ⟨h0, h1, h2, h3, h4, h5, h6, h7, h8⟩ := hs
  obtain ⟨k1, k2, k3, k4, k5, k6, k7, k8, k9, k10, k11, k12, k13⟩ := ok
  exact ⟨by omega, h7, h8, k9, k11, k10⟩
theorem c_cellOf {d : Nat} {b card : Nat} {S : c_St} {x : Int32} {h : m_Hp} (hs : Hst h b S) (ok : Oks S) (hx : x = nI card) (hc : card < 24) (r : Nat) (hr : r < 24 ∧ (c_cards S).getD r 0 = card ∧ ∀ k, k < r → (c_cards S).getD k 0 ≠ card) : m_Call m_P (d + 1) 28 [.ref b, .int x] (h) (some (.int (nI r))) (h) := by
  refine m_call_of (tab := tX3_cellOf) (nL := 3) rfl rfl ?_
  subst hx
  obtain ⟨h0, h1, h2, h3, h4, h5, h6, h7, h8⟩ := hs
  obtain ⟨k1, k2, k3, k4, k5, k6, k7, k8, k9, k10, k11, k12, k13⟩ := ok
  refine m_E.run 2 (pc1 := 2) (ls1 := [some _, some _, some _]) (st1 := []) rfl ?_
  refine m_E.up (fun i => (2, [some (.ref b), some (.int (nI card)), some (.int (nI i))], [], h)) 24 (fun i => (∀ k, k < i → (c_cards S).getD k 0 ≠ card)) (fun i hi hI K => ?_) ?_ (fun hI => ?_)
  · skip
    show m_E _ _ 2 [some (.ref b), some (.int (nI card)), some (.int (nI i))] [] (h) _
    refine m_E.run 2 (pc1 := 5) (ls1 := [some _, some _, some _]) (st1 := [_, _]) rfl ?_
    refine m_E.icf (by rw [m_leI (by omega) (by omega), decide_eq_false_iff_not]; omega) rfl ?_
    refine m_E.run 1 (pc1 := 9) (ls1 := [some _, some _, some _]) (st1 := [_]) rfl ?_
    refine m_E.gf h1 h0 rfl rfl ?_
    refine m_E.run 1 (pc1 := 13) (ls1 := [some _, some _, some _]) (st1 := [_, _]) rfl ?_
    refine m_E.ild h2 (Or.inl rfl) rfl (by rw [List.length_map]; omega) (by rw [List.length_map]; omega) rfl ?_
    rw [m_mapD]
    refine m_E.run 1 (pc1 := 15) (ls1 := [some _, some _, some _]) (st1 := [_, _]) rfl ?_
    have hlt : (c_cards S).getD i 0 < 24 := g_getD_lt k2 (by omega)
    refine m_E.ic2 rfl (fun q1 => ?_) (fun q1 => ?_)
    · skip
      rw [m_neI (by omega) (by omega), decide_eq_true_eq] at q1
      refine m_E.run 2 (pc1 := 2) (ls1 := [some _, some _, some _]) (st1 := []) rfl ?_
      rw [nI_add]
      refine K (fun k hk => ?_)
      by_cases e : k = i
      · rw [e]; exact q1
      · exact hI k (by omega)
    · skip
      rw [m_neI (by omega) (by omega), decide_eq_false_iff_not, Decidable.not_not] at q1
      refine m_E.run 1 (pc1 := 19) (ls1 := [some _, some _, some _]) (st1 := [_]) rfl ?_
      refine m_E.iret rfl ⟨?_, rfl⟩
      have e : r = i := by
        rcases Nat.lt_trichotomy r i with q | q | q
        · exact absurd hr.2.1 (hI r q)
        · exact q
        · exact absurd q1 (hr.2.2 i q)
      rw [e]
  · skip
    exact fun k hk => absurd hk (Nat.not_lt_zero k)
  · skip
    show m_E _ _ 2 ((fun i => [some (.ref b), some (.int (nI card)), some (.int (nI i))]) (24)) [] ((fun i => h) (24)) _
    dsimp only
    exact absurd hr.2.1 (hI r hr.1)
/-- a mark of a set -/
def g_bit (v m : Nat) : Bool := v.testBit m
theorem g_bit_shr : ∀ v, v < 16 → ∀ m, m < 4 → (nI v >>> (nI m &&& 31)) &&& nI 1 = m_bI (v.testBit m) := by decide +kernel
theorem c_hasMark {d : Nat} {b cell m : Nat} {S : c_St} {x y : Int32} {h : m_Hp} (hs : Hst h b S) (ok : Oks S) (hx : x = nI cell) (hc : cell < 24) (hy : y = nI m) (hm : m < 4) : m_Call m_P (d + 2) 29 [.ref b, .int x, .int y] (h) (some (.int (m_bI (((c_backs S).getD cell 0).testBit m)))) (h) := by
  refine m_call_of (tab := tX3_hasMark) (nL := 3) rfl rfl ?_
  subst hx hy
  obtain ⟨h0, h1, h2, h3, h4, h5, h6, h7, h8⟩ := hs
  obtain ⟨k1, k2, k3, k4, k5, k6, k7, k8, k9, k10, k11, k12, k13⟩ := ok
  have hlt : (c_backs S).getD cell 0 < 16 := g_getD_lt k5 (by omega)
  refine m_E.run 1 (pc1 := 1) (ls1 := [some _, some _, some _]) (st1 := [_]) rfl ?_
  refine m_E.gf h1 h0 rfl rfl ?_
  refine m_E.run 1 (pc1 := 5) (ls1 := [some _, some _, some _]) (st1 := [_, _]) rfl ?_
  refine m_E.cv rfl rfl (c_at h4 rfl (by rw [List.length_map]; omega) (by rw [List.length_map]; omega)) ?_
  rw [m_mapD]
  refine m_E.run 5 (pc1 := 13) (ls1 := [some _, some _, some _]) (st1 := [_, _]) rfl ?_
  dsimp only
  rw [g_bit_shr _ hlt _ hm]
  cases ((c_backs S).getD cell 0).testBit m
  · skip
    refine m_E.ict (by decide) rfl ?_
    refine m_E.run 1 (pc1 := 21) (ls1 := [some _, some _, some _]) (st1 := [_]) rfl ?_
    exact m_E.zret (by decide) rfl ⟨rfl, rfl⟩
  refine m_E.icf (by decide) rfl ?_
  refine m_E.run 2 (pc1 := 21) (ls1 := [some _, some _, some _]) (st1 := [_]) rfl ?_
  exact m_E.zret (by decide) rfl ⟨rfl, rfl⟩

/-! bits -/
theorem m_and (a b : Nat) : nI a &&& nI b = nI (a &&& b) := by
  apply Int32.toBitVec_inj.1
  show BitVec.ofNat 32 a &&& BitVec.ofNat 32 b = BitVec.ofNat 32 (a &&& b)
  apply BitVec.eq_of_getLsbD_eq
  intro i hi
  simp [hi]
theorem m_or (a b : Nat) : nI a ||| nI b = nI (a ||| b) := by
  apply Int32.toBitVec_inj.1
  show BitVec.ofNat 32 a ||| BitVec.ofNat 32 b = BitVec.ofNat 32 (a ||| b)
  apply BitVec.eq_of_getLsbD_eq
  intro i hi
  simp [hi]
theorem m_xor (a b : Nat) : nI a ^^^ nI b = nI (a ^^^ b) := by
  apply Int32.toBitVec_inj.1
  show BitVec.ofNat 32 a ^^^ BitVec.ofNat 32 b = BitVec.ofNat 32 (a ^^^ b)
  apply BitVec.eq_of_getLsbD_eq
  intro i hi
  simp [hi]
theorem m_ushr {n k : Nat} (hn : n < 2 ^ 32) (hk : ((nI k).toUInt32 &&& Int32.toUInt32 31).toBitVec % 32 = BitVec.ofNat 32 k ∧ k < 32) : ((nI n).toUInt32 >>> ((nI k).toUInt32 &&& Int32.toUInt32 31)).toInt32 = nI (n / 2 ^ k) := pk_ushrN hn (nI k) k (by rw [hk.1, BitVec.toNat_ofNat, Nat.mod_eq_of_lt (by omega)])
def g_pop (v : Nat) : Nat := g_cnt (fun i => v.testBit i) 16
/-- what bitCount's own steps make of a small number -/
def g_bc3 (v : Nat) : Nat :=
  let x1 := v - ((v / 2) &&& 1431655765)
  let x2 := (x1 &&& 858993459) + ((x1 / 4) &&& 858993459)
  (x2 + x2 / 16) &&& 252645135
def g_bc (v : Nat) : Nat :=
  let x3 := g_bc3 v
  let x4 := x3 + x3 / 256
  (x4 + x4 / 65536) &&& 63
theorem m_split (x i : Nat) : x.testBit i = if i < 8 then (x % 256).testBit i else (x / 256).testBit (i - 8) := by
  have hx : x = 2 ^ 8 * (x / 256) + x % 256 := by omega
  have h := Nat.testBit_two_pow_mul_add (x / 256) (show x % 256 < 2 ^ 8 by omega) i
  rw [← hx] at h
  exact h
theorem m_andS (x y : Nat) : x &&& y = 256 * ((x / 256) &&& (y / 256)) + ((x % 256) &&& (y % 256)) := by
  apply Nat.eq_of_testBit_eq
  intro i
  have hl : (x % 256 &&& y % 256) < 2 ^ 8 := Nat.lt_of_le_of_lt Nat.and_le_left (by omega)
  have h := Nat.testBit_two_pow_mul_add ((x / 256) &&& (y / 256)) hl i
  rw [show (256 : Nat) * (x / 256 &&& y / 256) = 2 ^ 8 * (x / 256 &&& y / 256) from rfl, h, Nat.testBit_and, m_split x i, m_split y i]
  by_cases hi : i < 8
  · rw [if_pos hi, if_pos hi, if_pos hi, Nat.testBit_and]
  · rw [if_neg hi, if_neg hi, if_neg hi, Nat.testBit_and]
def g_p1 (a : Nat) : Nat := a - ((a / 2) &&& 85)
def g_p2 (a : Nat) : Nat := (g_p1 a &&& 51) + ((g_p1 a / 4) &&& 51)
def g_p3 (a : Nat) : Nat := (g_p2 a + g_p2 a / 16) &&& 15
theorem g_pb : ∀ a, a < 256 → ((a / 2) &&& 85) ≤ a ∧ g_p1 a < 256 ∧ g_p2 a ≤ 68 ∧ g_p3 a = g_cnt (fun i => a.testBit i) 8 ∧ g_p3 a ≤ 8 ∧ g_p2 a % 16 ≤ 4 := by decide +kernel
theorem g_lo1 : ∀ r, r < 2 → ∀ b, b < 256 → (128 * r + b / 2) &&& 85 = (b / 2) &&& 85 := by decide +kernel
theorem g_hi1 : ∀ a, a < 256 → (a / 2) &&& 5592405 = (a / 2) &&& 85 := by decide +kernel
theorem g_lo2 : ∀ r, r < 4 → ∀ b, b < 256 → (64 * r + b / 4) &&& 51 = (b / 4) &&& 51 := by decide +kernel
theorem g_hi2 : ∀ a, a < 256 → (a &&& 3355443 = a &&& 51) ∧ ((a / 4) &&& 3355443 = (a / 4) &&& 51) := by decide +kernel
theorem g_lo3 : ∀ r, r < 16 → ∀ b, b < 73 → (b + 16 * r) &&& 15 = b &&& 15 := by decide +kernel
theorem g_hi3 : ∀ a, a < 256 → a &&& 986895 = a &&& 15 := by decide +kernel
theorem g_bc3_ok {a b : Nat} (ha : a < 256) (hb : b < 256) : g_bc3 (256 * a + b) = 256 * g_p3 a + g_p3 b ∧ (((256 * a + b) / 2) &&& 1431655765) ≤ 256 * a + b := by
  obtain ⟨a1, a2, a3, a4, a5, a6⟩ := g_pb a ha
  obtain ⟨b1, b2, b3, b4, b5, b6⟩ := g_pb b hb
  have t1 : ((256 * a + b) / 2) &&& 1431655765 = 256 * ((a / 2) &&& 85) + ((b / 2) &&& 85) := by
    rw [m_andS, show (256 * a + b) / 2 / 256 = a / 2 by omega, show (256 * a + b) / 2 % 256 = 128 * (a % 2) + b / 2 by omega, show (1431655765 : Nat) / 256 = 5592405 from rfl, show (1431655765 : Nat) % 256 = 85 from rfl, g_hi1 a ha, g_lo1 (a % 2) (by omega) b hb]
  have x1 : 256 * a + b - (((256 * a + b) / 2) &&& 1431655765) = 256 * g_p1 a + g_p1 b := by rw [t1]; unfold g_p1; omega
  have x2a : (256 * g_p1 a + g_p1 b) &&& 858993459 = 256 * (g_p1 a &&& 51) + (g_p1 b &&& 51) := by
    rw [m_andS, show (256 * g_p1 a + g_p1 b) / 256 = g_p1 a by omega, show (256 * g_p1 a + g_p1 b) % 256 = g_p1 b by omega, show (858993459 : Nat) / 256 = 3355443 from rfl, show (858993459 : Nat) % 256 = 51 from rfl, (g_hi2 _ a2).1]
  have x2b : ((256 * g_p1 a + g_p1 b) / 4) &&& 858993459 = 256 * ((g_p1 a / 4) &&& 51) + ((g_p1 b / 4) &&& 51) := by
    rw [m_andS, show (256 * g_p1 a + g_p1 b) / 4 / 256 = g_p1 a / 4 by omega, show (256 * g_p1 a + g_p1 b) / 4 % 256 = 64 * (g_p1 a % 4) + g_p1 b / 4 by omega, show (858993459 : Nat) / 256 = 3355443 from rfl, show (858993459 : Nat) % 256 = 51 from rfl, (g_hi2 _ a2).2, g_lo2 _ (by omega) _ b2]
  have x2 : ((256 * g_p1 a + g_p1 b) &&& 858993459) + (((256 * g_p1 a + g_p1 b) / 4) &&& 858993459) = 256 * g_p2 a + g_p2 b := by rw [x2a, x2b]; unfold g_p2; omega
  have x3 : ((256 * g_p2 a + g_p2 b) + (256 * g_p2 a + g_p2 b) / 16) &&& 252645135 = 256 * g_p3 a + g_p3 b := by
    have e1 : ((256 * g_p2 a + g_p2 b) + (256 * g_p2 a + g_p2 b) / 16) / 256 = g_p2 a + g_p2 a / 16 := by omega
    have e2 : ((256 * g_p2 a + g_p2 b) + (256 * g_p2 a + g_p2 b) / 16) % 256 = (g_p2 b + g_p2 b / 16) + 16 * (g_p2 a % 16) := by omega
    rw [m_andS, e1, e2, show (252645135 : Nat) / 256 = 986895 from rfl, show (252645135 : Nat) % 256 = 15 from rfl, g_hi3 _ (by omega), g_lo3 _ (by omega) _ (by omega)]
    rfl
  refine ⟨?_, by rw [t1]; omega⟩
  unfold g_bc3
  dsimp only
  rw [x1, x2, x3]
theorem g_cnt_add (p : Nat → Bool) (m : Nat) : ∀ n, g_cnt p (m + n) = g_cnt p m + g_cnt (fun i => p (m + i)) n
  | 0 => rfl
  | n + 1 => by rw [← Nat.add_assoc, g_cnt, g_cnt, g_cnt_add p m n]; omega
theorem g_bc_ok {a b : Nat} (ha : a < 256) (hb : b < 256) : g_bc (256 * a + b) = g_pop (256 * a + b) := by
  obtain ⟨a1, a2, a3, a4, a5, a6⟩ := g_pb a ha
  obtain ⟨b1, b2, b3, b4, b5, b6⟩ := g_pb b hb
  have e : g_bc (256 * a + b) = g_p3 a + g_p3 b := by
    unfold g_bc
    dsimp only
    rw [(g_bc3_ok ha hb).1]
    have q : (256 * g_p3 a + g_p3 b + (256 * g_p3 a + g_p3 b) / 256 + (256 * g_p3 a + g_p3 b + (256 * g_p3 a + g_p3 b) / 256) / 65536) = 256 * g_p3 a + (g_p3 a + g_p3 b) := by omega
    rw [q, show (63 : Nat) = 2 ^ 6 - 1 from rfl, Nat.and_two_pow_sub_one_eq_mod]
    omega
  rw [e, a4, b4]
  unfold g_pop
  rw [show (16 : Nat) = 8 + 8 from rfl, g_cnt_add, Nat.add_comm]
  congr 1
  · refine g_cnt_congr fun k hk => ?_
    rw [show 256 * a + b = 2 ^ 8 * a + b from rfl, Nat.testBit_two_pow_mul_add a (by omega), if_pos hk]
  · refine g_cnt_congr fun k hk => ?_
    rw [show 256 * a + b = 2 ^ 8 * a + b from rfl, Nat.testBit_two_pow_mul_add a (by omega), if_neg (by omega), Nat.add_sub_cancel_left]
theorem c_bitCount {d : Nat} {v : Nat} {x : Int32} {h : m_Hp} (hx : x = nI v) (hv : v < 65536) : m_Call m_P (d + 1) 72 [.int x] (h) (some (.int (nI (g_pop v)))) (h) := by
  refine m_call_of (tab := tJ6_bitCount_0f7a4) (nL := 1) rfl rfl ?_
  subst hx
  have e0 := g_bc_ok (a := v / 256) (b := v % 256) (by omega) (by omega)
  have e9 := (g_bc3_ok (a := v / 256) (b := v % 256) (by omega) (by omega)).2
  rw [show 256 * (v / 256) + v % 256 = v by omega] at e0 e9
  have l1 : (v / 2) &&& 1431655765 ≤ v := e9
  have b1 : v - ((v / 2) &&& 1431655765) < 65536 := by omega
  have b2 : ((v - ((v / 2 ^ 1) &&& 1431655765)) &&& 858993459) + (((v - ((v / 2 ^ 1) &&& 1431655765)) / 2 ^ 2) &&& 858993459) < 2 ^ 20 := by
    have q1 : ((v - ((v / 2 ^ 1) &&& 1431655765)) &&& 858993459) ≤ (v - ((v / 2 ^ 1) &&& 1431655765)) := Nat.and_le_left
    have q2 : (((v - ((v / 2 ^ 1) &&& 1431655765)) / 2 ^ 2) &&& 858993459) ≤ ((v - ((v / 2 ^ 1) &&& 1431655765)) / 2 ^ 2) := Nat.and_le_left
    omega
  have b3 : g_bc3 v < 2 ^ 22 := by
    have q : g_bc3 v ≤ (((v - ((v / 2 ^ 1) &&& 1431655765)) &&& 858993459) + (((v - ((v / 2 ^ 1) &&& 1431655765)) / 2 ^ 2) &&& 858993459)) + (((v - ((v / 2 ^ 1) &&& 1431655765)) &&& 858993459) + (((v - ((v / 2 ^ 1) &&& 1431655765)) / 2 ^ 2) &&& 858993459)) / 2 ^ 4 := Nat.and_le_left
    omega
  refine m_E.run 8 (pc1 := 10) (ls1 := [some _]) (st1 := []) rfl ?_
  dsimp only
  rw [m_ushr (n := v) (k := 1) (by omega) (by decide), show (1431655765 : Int32) = nI 1431655765 from rfl, m_and, pk_sub (by simpa using l1)]
  refine m_E.run 10 (pc1 := 24) (ls1 := [some _]) (st1 := []) rfl ?_
  dsimp only
  rw [m_ushr (k := 2) (by omega) (by decide), show (858993459 : Int32) = nI 858993459 from rfl, m_and, m_and, nI_add]
  refine m_E.run 8 (pc1 := 34) (ls1 := [some _]) (st1 := []) rfl ?_
  dsimp only
  rw [m_ushr (k := 4) (by omega) (by decide), show (252645135 : Int32) = nI 252645135 from rfl, nI_add, m_and]
  have e3 : g_bc3 v = (((v - (v / 2 ^ 1 &&& 1431655765)) &&& 858993459) + ((v - (v / 2 ^ 1 &&& 1431655765)) / 2 ^ 2 &&& 858993459) + (((v - (v / 2 ^ 1 &&& 1431655765)) &&& 858993459) + ((v - (v / 2 ^ 1 &&& 1431655765)) / 2 ^ 2 &&& 858993459)) / 2 ^ 4) &&& 252645135 := rfl
  rw [← e3]
  refine m_E.run 6 (pc1 := 41) (ls1 := [some _]) (st1 := []) rfl ?_
  dsimp only
  rw [m_ushr (k := 8) (by omega) (by decide), nI_add]
  refine m_E.run 6 (pc1 := 48) (ls1 := [some _]) (st1 := []) rfl ?_
  dsimp only
  rw [m_ushr (k := 16) (by omega) (by decide), nI_add]
  refine m_E.run 3 (pc1 := 52) (ls1 := [some _]) (st1 := [_]) rfl ?_
  dsimp only
  rw [m_and]
  have e4 : (g_bc3 v + g_bc3 v / 2 ^ 8 + (g_bc3 v + g_bc3 v / 2 ^ 8) / 2 ^ 16) &&& 63 = g_bc v := rfl
  rw [e4, e0]
  exact m_E.iret rfl ⟨rfl, rfl⟩
