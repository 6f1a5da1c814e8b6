/-! the model's calls that write: the pack -/
theorem Enc.prm {n p : Nat} {F : Nat → c_Sh} {S : c_St} {r r2 : List Int32} {f : Nat → Nat} (E : Enc F S r) (t : Tok n p S) (hf : c_fr S ≠ none) (ff : ∀ k, k < c_lf S → f k < c_lf S) (hl : r2.length = 611) (ho : ∀ i, i < 83 ∨ 107 ≤ i → r2.getD i 0 = r.getD i 0) (hn : ∀ k, k < c_lf S → r2.getD (83 + k) 0 = r.getD (83 + f k) 0) : Enc F (c_prt S f) r2 := by
  obtain ⟨_, eb, en, ⟨p1, p2, p3, p4⟩, el⟩ := E.to
  have q := c_lf_eq t hf
  have gd : ∀ k, k < 24 → (c_order (c_prt S f)).getD k 0 = if c_dealt S ≤ k ∧ k < c_dealt S + c_lf S then (c_order S).getD (c_dealt S + f (k - c_dealt S)) 0 else (c_order S).getD k 0 := fun k hk => by
    show (g_prt f (c_dealt S) (c_lf S) (c_order S)).getD k 0 = _
    rw [List.getD_eq_getElem?_getD, g_prt_get hk]; rfl
  refine Enc.of hl (eb.same fun i hi => ho i (by omega)) (en.same fun i hi => ho i (by omega)) ⟨(ho _ (by omega)).trans p1, (ho _ (by omega)).trans p2, fun k hk => ?_, fun s hs => ⟨fun k hk => (ho _ (by omega)).trans ((p4 s hs).1 k hk), fun k hk => (ho _ (by omega)).trans ((p4 s hs).2.1 k hk), fun k hk => ?_⟩⟩ (el.same fun i hi => ho i (by omega))
  · have hk2 : k < c_lf S := hk
    rw [hn k hk2, p3 _ (ff k hk2)]
    show _ = nI ((c_order (c_prt S f)).getD (c_dealt S + k) 0)
    rw [gd _ (by omega), if_pos (by omega), Nat.add_sub_cancel_left]
  · rw [ho _ (by omega), gd k hk]
    show _ = nI (if k < c_dealt S then 1 else 0)
    by_cases e : c_dealt S ≤ k ∧ k < c_dealt S + c_lf S
    · have q2 := ff (k - c_dealt S) (by omega)
      rw [if_pos e, (p4 s hs).2.2 _ (by omega), if_neg (by omega), if_neg (by omega)]
    · rw [if_neg e]; exact (p4 s hs).2.2 k hk
theorem e_canPart {d : Nat} {n : Nat} {x : Int32} {M : c_M} {h : m_Hp} (H : Hmo h M) (hl : (d_state M).length = 611) (h7 : (d_state M).getD 7 0 = nI n) (hn : n < 100) : m_Call m_P (d + 2) 122 [.ref 61, .int x] (h) (some (.int (m_bI (!decide (x < nI 1) && !decide (nI n ≤ x))))) (h) := by
  refine m_call_of (tab := tX6_canPart) (nL := 2) rfl rfl ?_
  refine m_E.run 3 (pc1 := 3) (ls1 := [some _, some _]) (st1 := [_, _, _]) rfl ?_
  refine m_E.gf H.o (by decide) rfl rfl ?_
  refine m_E.run 1 (pc1 := 8) (ls1 := [some _, some _]) (st1 := [_, _, _, _]) rfl ?_
  refine m_E.rs H hl rfl (by omega) (h7) rfl ?_
  refine m_E.run 2 (pc1 := 11) (ls1 := [some _, some _]) (st1 := [_, _, _]) rfl ?_
  dsimp only
  refine m_E.cv rfl rfl (e_within) ?_
  rw [w_in_1 (show n < 2 ^ 30 by omega)]
  exact m_E.zret (m_bI_z _) rfl ⟨rfl, rfl⟩
theorem e_takeOrder {d : Nat} {n : Nat} {M : c_M} {h : m_Hp} (H : Hmo h M) (ok : Okm M) (h7 : (d_state M).getD 7 0 = nI n) (hn : n ≤ 24) : ∃ r h', m_Call m_P (d + 1) 123 [.ref 61] (h) r h' ∧ (fun r h2 => r = none ∧ ∃ row, Hmo h2 (d_set_order M row) ∧ row.length = 24 ∧ (∀ k, k < n → row.getD k 0 = (d_state M).getD (83 + k) 0) ∧ Chg 61 69 h h2) r h' := by
  refine m_call_ex (tab := tX6_takeOrder) (nL := 2) rfl rfl ?_
  have lo : (d_order M).length = 24 := ok.2.2.2.2.2.2.2.2.1
  refine m_E.run 2 (pc1 := 2) (ls1 := [some _, some _]) (st1 := []) rfl ?_
  refine m_E.lp (fun i ls hh => ∃ row, ls = [some (.ref 61), some (.int (nI i))] ∧ (Hmo hh (d_set_order M row) ∧ row.length = 24 ∧ (∀ k, k < i → row.getD k 0 = (d_state M).getD (83 + k) 0) ∧ Chg 61 69 h hh)) n ?_ ?_ ?_
  · skip
    rintro i _ hh hi ⟨row, rfl, hI⟩ K
    obtain ⟨Hi, li, vi, ci⟩ := hI
    refine m_E.run 2 (pc1 := 4) (ls1 := [some _, some _]) (st1 := [_, _]) rfl ?_
    refine m_E.gf Hi.o (by decide) rfl rfl ?_
    refine m_E.run 1 (pc1 := 9) (ls1 := [some _, some _]) (st1 := [_, _, _]) rfl ?_
    refine m_E.rs Hi ok.1 rfl (by omega) (h7) rfl ?_
    refine m_E.icf ((m_leI (by omega) (by omega)).trans (decide_eq_false (by omega))) rfl ?_
    refine m_E.run 1 (pc1 := 14) (ls1 := [some _, some _]) (st1 := [_]) rfl ?_
    refine m_E.gf Hi.o (by decide) rfl rfl ?_
    refine m_E.run 2 (pc1 := 19) (ls1 := [some _, some _]) (st1 := [_, _, _]) rfl ?_
    refine m_E.gf Hi.o (by decide) rfl rfl ?_
    refine m_E.run 3 (pc1 := 26) (ls1 := [some _, some _]) (st1 := [_, _, _, _]) rfl ?_
    dsimp only
    refine m_E.rs Hi ok.1 (nI_add _ _) (by omega) (rfl) rfl ?_
    refine m_E.ig Hi.2.2.2.2.2.2.1 (by decide) rfl (show i < row.length by omega) (show row.length < 2 ^ 31 by omega) rfl (fun h3 u3 => ?_)
    refine m_E.run 2 (pc1 := 2) (ls1 := [some _, some _]) (st1 := []) rfl ?_
    rw [nI_add]
    refine K _ _ ⟨_, rfl, Hi.w_order u3, (List.length_set ..).trans li, fun k hk => ?_, ci.tr (u3.chg (by decide) (by decide))⟩
    show (row.set i _).getD k 0 = _
    rw [g_sd (by omega)]
    by_cases e : k = i
    · rw [if_pos e, e]; rfl
    · rw [if_neg e]; exact vi k (by omega)
  · skip
    exact ⟨_, rfl, H, lo, fun k hk => absurd hk (Nat.not_lt_zero k), Chg.rf⟩
  · skip
    rintro _ hh ⟨row, rfl, hI⟩
    obtain ⟨Hi, li, vi, ci⟩ := hI
    refine m_E.run 2 (pc1 := 4) (ls1 := [some _, some _]) (st1 := [_, _]) rfl ?_
    refine m_E.gf Hi.o (by decide) rfl rfl ?_
    refine m_E.run 1 (pc1 := 9) (ls1 := [some _, some _]) (st1 := [_, _, _]) rfl ?_
    refine m_E.rs Hi ok.1 rfl (by omega) (h7) rfl ?_
    refine m_E.ict ((m_leI (by omega) (by omega)).trans (decide_eq_true (Nat.le_refl _))) rfl ?_
    exact m_E.vret rfl ⟨rfl, row, Hi, li, vi, ci⟩
theorem e_cameFrom {d : Nat} {n k top : Nat} {x y : Int32} {M : c_M} {h : m_Hp} (H : Hmo h M) (hl : (d_state M).length = 611) (h7 : (d_state M).getD 7 0 = nI n) (hn : n < 100) (hx : x = nI k) (hk : k < 100) (hy : y = nI top) (ht : top ≤ n) : m_Call m_P (d + 1) 125 [.ref 61, .int x, .int y] (h) (some (.int (nI (g_before k top n)))) (h) := by
  refine m_call_of (tab := tX6_cameFrom) (nL := 4) rfl rfl ?_
  subst hx hy
  refine m_E.run 2 (pc1 := 2) (ls1 := [some _, some _, some _, none]) (st1 := [_, _]) rfl ?_
  refine m_E.gf H.o (by decide) rfl rfl ?_
  refine m_E.run 1 (pc1 := 7) (ls1 := [some _, some _, some _, none]) (st1 := [_, _, _]) rfl ?_
  refine m_E.rs H hl rfl (by omega) (h7) rfl ?_
  refine m_E.run 2 (pc1 := 10) (ls1 := [some _, some _, some _, none]) (st1 := [_, _]) rfl ?_
  dsimp only
  rw [pk_sub ht]
  have tail : ∀ m, m = min top (n - top) → m_E (m_Call m_P d) tX6_cameFrom 26 [some (.ref 61), some (.int (nI k)), some (.int (nI top)), none] [.int (nI m)] h (fun r2 h2 => r2 = some (.int (nI (g_before k top n))) ∧ h2 = h) := by
    intro m em
    refine m_E.run 5 (pc1 := 31) (ls1 := [some _, some _, some _, some _]) (st1 := [_, _]) rfl ?_
    dsimp only
    rw [pk_mul]
    by_cases e1 : k < 2 * m
    · skip
      have eg : g_before k top n = if k % 2 = 0 then k / 2 else top + k / 2 := by rw [g_before, if_pos (by omega)]
      refine m_E.icf ((m_leI (by omega) (by omega)).trans (decide_eq_false (by omega))) rfl ?_
      refine m_E.run 2 (pc1 := 36) (ls1 := [some _, some _, some _, some _]) (st1 := [_, _]) rfl ?_
      refine m_E.div (by decide) rfl ?_
      rw [m_rem (by omega) 2 (by decide) (by decide)]
      by_cases e2 : k % 2 = 0
      · skip
        rw [eg, if_pos e2]
        refine m_E.iff (by rw [e2]; decide) rfl ?_
        refine m_E.run 2 (pc1 := 42) (ls1 := [some _, some _, some _, some _]) (st1 := [_, _]) rfl ?_
        refine m_E.div (by decide) rfl ?_
        rw [pk_div (by omega) (by decide) (by decide)]
        refine m_E.run 1 (pc1 := 51) (ls1 := [some _, some _, some _, some _]) (st1 := [_]) rfl ?_
        exact m_E.iret rfl ⟨rfl, rfl⟩
      · skip
        rw [eg, if_neg e2]
        refine m_E.ift (by rw [m_beq0 (by omega), decide_eq_false e2]; rfl) rfl ?_
        refine m_E.run 3 (pc1 := 49) (ls1 := [some _, some _, some _, some _]) (st1 := [_, _, _]) rfl ?_
        refine m_E.div (by decide) rfl ?_
        rw [pk_div (by omega) (by decide) (by decide)]
        refine m_E.run 1 (pc1 := 51) (ls1 := [some _, some _, some _, some _]) (st1 := [_]) rfl ?_
        dsimp only
        rw [nI_add]
        exact m_E.iret rfl ⟨rfl, rfl⟩
    · skip
      refine m_E.ict ((m_leI (by omega) (by omega)).trans (decide_eq_true (by omega))) rfl ?_
      refine m_E.run 2 (pc1 := 54) (ls1 := [some _, some _, some _, some _]) (st1 := [_, _]) rfl ?_
      by_cases e2 : m < top
      · skip
        have eg : g_before k top n = k - m := by rw [g_before, if_neg (by omega), if_pos (by omega), em]
        rw [eg]
        refine m_E.icf ((m_leI (by omega) (by omega)).trans (decide_eq_false (by omega))) rfl ?_
        refine m_E.run 4 (pc1 := 64) (ls1 := [some _, some _, some _, some _]) (st1 := [_]) rfl ?_
        dsimp only
        rw [pk_sub (by omega)]
        exact m_E.iret rfl ⟨rfl, rfl⟩
      · skip
        have eg : g_before k top n = k := by rw [g_before, if_neg (by omega), if_neg (by omega)]
        rw [eg]
        refine m_E.ict ((m_leI (by omega) (by omega)).trans (decide_eq_true (by omega))) rfl ?_
        refine m_E.run 1 (pc1 := 64) (ls1 := [some _, some _, some _, some _]) (st1 := [_]) rfl ?_
        exact m_E.iret rfl ⟨rfl, rfl⟩
  by_cases e0 : top < n - top
  · skip
    refine m_E.icf ((m_leI (by omega) (by omega)).trans (decide_eq_false (by omega))) rfl ?_
    refine m_E.run 2 (pc1 := 26) (ls1 := [some _, some _, some _, none]) (st1 := [_]) rfl ?_
    exact tail top (by omega)
  · skip
    refine m_E.ict ((m_leI (by omega) (by omega)).trans (decide_eq_true (by omega))) rfl ?_
    refine m_E.run 1 (pc1 := 18) (ls1 := [some _, some _, some _, none]) (st1 := [_]) rfl ?_
    refine m_E.gf H.o (by decide) rfl rfl ?_
    refine m_E.run 1 (pc1 := 23) (ls1 := [some _, some _, some _, none]) (st1 := [_, _]) rfl ?_
    refine m_E.rs H hl rfl (by omega) (h7) rfl ?_
    refine m_E.run 2 (pc1 := 26) (ls1 := [some _, some _, some _, none]) (st1 := [_]) rfl ?_
    dsimp only
    rw [pk_sub ht]
    exact tail (n - top) (by omega)
theorem g_cutf_lt {top n k : Nat} (h : top < n) (hk : k < n) : g_cutf top n k < n := by rw [g_cutf]; split <;> omega
theorem g_cutf_mod {top n k : Nat} (h : top < n) (hk : k < n) : (k + top) % n = g_cutf top n k := by
  rw [g_cutf]
  split
  · exact Nat.mod_eq_of_lt (by assumption)
  · rw [show k + top = (k + top - n) + n by omega, Nat.add_mod_right, Nat.mod_eq_of_lt (by omega)]; omega
theorem e_cutPack {d : Nat} {n p : Nat} {F : Nat → c_Sh} {W : c_W} {x : Int32} {M : c_M} {h : m_Hp} (H : Hmo h M) (ok : Okm M) (R : Rl F W M) (t : Tok n p (w_now W)) : ∃ r h', m_Call m_P (d + 3) 124 [.ref 61, .int x] (h) r h' ∧ (Opm F (w_res W (b_cutp (w_now W) x).2) h (b_cutp (w_now W) x).1) r h' := by
  refine m_call_ex (tab := tX6_cutPack) (nL := 3) rfl rfl ?_
  have ll : c_lf (w_now W) ≤ 24 := g_left_le _ _
  refine m_E.run 1 (pc1 := 1) (ls1 := [some _, some _, none]) (st1 := [_]) rfl ?_
  refine m_E.gf H.o (by decide) rfl rfl ?_
  refine m_E.run 1 (pc1 := 6) (ls1 := [some _, some _, none]) (st1 := [_, _]) rfl ?_
  refine m_E.rs H ok.1 rfl (by omega) (R.1.has) rfl ?_
  by_cases ef : c_fr (w_now W) = none
  · skip
    have e : b_cutp (w_now W) x = (-4, none) := by rw [b_cutp, if_pos ef]
    rw [e, if_pos ef]
    refine m_E.iff (rfl) rfl ?_
    refine m_E.run 1 (pc1 := 12) (ls1 := [some _, some _, none]) (st1 := [_]) rfl ?_
    exact m_E.iret rfl (Opm.same H ok R)
  · skip
    rw [if_neg ef]
    refine m_E.ift (rfl) rfl ?_
    refine m_E.run 2 (pc1 := 15) (ls1 := [some _, some _, none]) (st1 := [_, _]) rfl ?_
    refine m_E.ov H.o (by decide) rfl rfl rfl (e_canPart H ok.1 R.1.lf (by omega)) ?_
    by_cases ex : x < nI 1 ∨ nI (c_lf (w_now W)) ≤ x
    · skip
      have e : b_cutp (w_now W) x = (-2, none) := by rw [b_cutp, if_neg ef, if_pos ex]
      have eb : (!decide (x < nI 1) && !decide (nI (c_lf (w_now W)) ≤ x)) = false := by rcases ex with z | z <;> simp [z]
      rw [e, eb]
      refine m_E.iff (rfl) rfl ?_
      refine m_E.run 1 (pc1 := 23) (ls1 := [some _, some _, none]) (st1 := [_]) rfl ?_
      exact m_E.iret rfl (Opm.same H ok R)
    · skip
      obtain ⟨top, rfl, t1, t2⟩ := m_rng2 (show c_lf (w_now W) < 100 by omega) (fun z => ex (Or.inl z)) (fun z => ex (Or.inr z)) (by decide)
      have e : b_cutp (w_now W) (nI top) = (nI ((c_order (c_prt (w_now W) (g_cutf top (c_lf (w_now W))))).getD (c_dealt (w_now W)) 0), some (c_prt (w_now W) (g_cutf top (c_lf (w_now W))))) := by rw [b_cutp, if_neg ef, if_neg ex, m_cl (by omega)]
      have eb : (!decide (nI top < nI 1) && !decide (nI (c_lf (w_now W)) ≤ nI top)) = true := by rw [decide_eq_false (fun z => ex (Or.inl z)), decide_eq_false (fun z => ex (Or.inr z))]; rfl
      rw [e, eb]
      refine m_E.ift (rfl) rfl ?_
      refine m_E.run 1 (pc1 := 25) (ls1 := [some _, some _, none]) (st1 := [_]) rfl ?_
      obtain ⟨h1, M1, p1, H1, ok1, R1, c1⟩ := e_rec2 (d := d) H ok R
      refine m_E.on H.o (by decide) rfl rfl rfl (p1) ?_
      refine m_E.run 1 (pc1 := 29) (ls1 := [some _, some _, none]) (st1 := [_]) rfl ?_
      have E1 : Enc F (w_now W) (d_state M1) := R1.1
      obtain ⟨_, h2, p2, rfl, row, H2, l2, v2, c2⟩ := e_takeOrder (d := d + 1) H1 ok1 E1.lf ll
      refine m_E.on H1.o (by decide) rfl rfl rfl (p2) ?_
      have ok2 : Okm (d_set_order M1 row) := ok1.order l2
      have c12 := c1.tr c2
      refine m_E.run 2 (pc1 := 34) (ls1 := [some _, some _, some _]) (st1 := []) rfl ?_
      refine m_E.lp (fun i ls hh => ∃ r, ls = [some (.ref 61), some (.int (nI top)), some (.int (nI i))] ∧ (Hmo hh (d_set_state (d_set_order M1 row) r) ∧ r.length = 611 ∧ (∀ k, k < 83 ∨ 107 ≤ k → r.getD k 0 = (d_state M1).getD k 0) ∧ (∀ k, k < i → r.getD (83 + k) 0 = (d_state M1).getD (83 + g_cutf top (c_lf (w_now W)) k) 0) ∧ Chg 61 69 h hh)) (c_lf (w_now W)) ?_ ?_ ?_
      · skip
        rintro i _ hh hi ⟨r, rfl, hI⟩ K
        obtain ⟨Hi, li, oi, vi, ci⟩ := hI
        have r7 : r.getD 7 0 = nI (c_lf (w_now W)) := (oi 7 (by omega)).trans E1.lf
        refine m_E.run 2 (pc1 := 36) (ls1 := [some _, some _, some _]) (st1 := [_, _]) rfl ?_
        refine m_E.gf Hi.o (by decide) rfl rfl ?_
        refine m_E.run 1 (pc1 := 41) (ls1 := [some _, some _, some _]) (st1 := [_, _, _]) rfl ?_
        refine m_E.rs Hi li rfl (by omega) (r7) rfl ?_
        refine m_E.icf ((m_leI (by omega) (by omega)).trans (decide_eq_false (by omega))) rfl ?_
        refine m_E.run 1 (pc1 := 46) (ls1 := [some _, some _, some _]) (st1 := [_]) rfl ?_
        refine m_E.gf Hi.o (by decide) rfl rfl ?_
        refine m_E.run 4 (pc1 := 54) (ls1 := [some _, some _, some _]) (st1 := [_, _, _]) rfl ?_
        dsimp only
        refine m_E.gf Hi.o (by decide) rfl rfl ?_
        refine m_E.run 4 (pc1 := 61) (ls1 := [some _, some _, some _]) (st1 := [_, _, _, _, _]) rfl ?_
        dsimp only
        refine m_E.gf Hi.o (by decide) rfl rfl ?_
        refine m_E.run 1 (pc1 := 66) (ls1 := [some _, some _, some _]) (st1 := [_, _, _, _, _, _]) rfl ?_
        rw [nI_add]
        rw [nI_add]
        refine m_E.rs Hi li rfl (by omega) (r7) rfl ?_
        refine m_E.div (m_ne0 (by omega) (by omega)) rfl ?_
        rw [m_rem (by omega) _ (by omega) (by omega), g_cutf_mod t2 hi]
        have lf2 := g_cutf_lt t2 hi
        refine m_E.ild Hi.2.2.2.2.2.2.1 (j := g_cutf top (c_lf (w_now W)) i) (Or.inl rfl) rfl (show _ < row.length by omega) (show row.length < 2 ^ 31 by omega) rfl ?_
        change m_E _ _ _ _ (.int (row.getD (g_cutf top (c_lf (w_now W)) i) 0) :: _) _ _
        rw [v2 _ lf2]
        refine m_E.ws Hi li rfl (by omega) rfl (fun h3 H3 c3 => ?_)
        refine m_E.run 2 (pc1 := 34) (ls1 := [some _, some _, some _]) (st1 := []) rfl ?_
        rw [nI_add]
        refine K _ _ ⟨_, rfl, H3, (List.length_set ..).trans li, fun k hk => (g_so (by omega)).trans (oi k hk), fun k hk => ?_, ci.tr c3⟩
        show (r.set (83 + i) _).getD (83 + k) 0 = _
        rw [g_sd (by omega)]
        by_cases e : k = i
        · rw [if_pos (by omega), e]
        · rw [if_neg (by omega)]; exact vi k (by omega)
      · skip
        exact ⟨_, rfl, H2, ok1.1, fun _ _ => rfl, fun k hk => absurd hk (Nat.not_lt_zero k), c12⟩
      · skip
        rintro _ hh ⟨r, rfl, hI⟩
        obtain ⟨Hi, li, oi, vi, ci⟩ := hI
        have r7 : r.getD 7 0 = nI (c_lf (w_now W)) := (oi 7 (by omega)).trans E1.lf
        have E2 : Enc F (c_prt (w_now W) (g_cutf top (c_lf (w_now W)))) r := E1.prm t ef (fun k hk => g_cutf_lt t2 hk) li oi vi
        refine m_E.run 2 (pc1 := 36) (ls1 := [some _, some _, some _]) (st1 := [_, _]) rfl ?_
        refine m_E.gf Hi.o (by decide) rfl rfl ?_
        refine m_E.run 1 (pc1 := 41) (ls1 := [some _, some _, some _]) (st1 := [_, _, _]) rfl ?_
        refine m_E.rs Hi li rfl (by omega) (r7) rfl ?_
        refine m_E.ict ((m_leI (by omega) (by omega)).trans (decide_eq_true (Nat.le_refl _))) rfl ?_
        refine m_E.run 1 (pc1 := 77) (ls1 := [some _, some _, some _]) (st1 := [_]) rfl ?_
        refine m_E.gf Hi.o (by decide) rfl rfl ?_
        refine m_E.run 1 (pc1 := 82) (ls1 := [some _, some _, some _]) (st1 := [_, _]) rfl ?_
        refine m_E.rs Hi li rfl (by omega) (E2.ord (k := 0) (show 0 < c_lf (w_now W) by omega)) rfl ?_
        exact m_E.iret rfl ⟨rfl, _, Hi, ok2.state li, (Rl.order R1 row).setS E2, ci⟩
theorem e_shuffle {d : Nat} {n p : Nat} {F : Nat → c_Sh} {W : c_W} {x : Int32} {M : c_M} {h : m_Hp} (H : Hmo h M) (ok : Okm M) (R : Rl F W M) (t : Tok n p (w_now W)) : ∃ r h', m_Call m_P (d + 3) 126 [.ref 61, .int x] (h) r h' ∧ (Opm F (w_res W (b_shuf (w_now W) x).2) h (b_shuf (w_now W) x).1) r h' := by
  refine m_call_ex (tab := tX6_shuffle) (nL := 5) rfl rfl ?_
  have ll : c_lf (w_now W) ≤ 24 := g_left_le _ _
  refine m_E.run 1 (pc1 := 1) (ls1 := [some _, some _, none, none, none]) (st1 := [_]) rfl ?_
  refine m_E.gf H.o (by decide) rfl rfl ?_
  refine m_E.run 1 (pc1 := 6) (ls1 := [some _, some _, none, none, none]) (st1 := [_, _]) rfl ?_
  refine m_E.rs H ok.1 rfl (by omega) (R.1.has) rfl ?_
  by_cases ef : c_fr (w_now W) = none
  · skip
    have e : b_shuf (w_now W) x = (-4, none) := by rw [b_shuf, if_pos ef]
    rw [e, if_pos ef]
    refine m_E.iff (rfl) rfl ?_
    refine m_E.run 1 (pc1 := 12) (ls1 := [some _, some _, none, none, none]) (st1 := [_]) rfl ?_
    exact m_E.iret rfl (Opm.same H ok R)
  · skip
    rw [if_neg ef]
    refine m_E.ift (rfl) rfl ?_
    refine m_E.run 2 (pc1 := 15) (ls1 := [some _, some _, none, none, none]) (st1 := [_, _]) rfl ?_
    refine m_E.ov H.o (by decide) rfl rfl rfl (e_canPart H ok.1 R.1.lf (by omega)) ?_
    by_cases ex : x < nI 1 ∨ nI (c_lf (w_now W)) ≤ x
    · skip
      have e : b_shuf (w_now W) x = (-2, none) := by rw [b_shuf, if_neg ef, if_pos ex]
      have eb : (!decide (x < nI 1) && !decide (nI (c_lf (w_now W)) ≤ x)) = false := by rcases ex with z | z <;> simp [z]
      rw [e, eb]
      refine m_E.iff (rfl) rfl ?_
      refine m_E.run 1 (pc1 := 23) (ls1 := [some _, some _, none, none, none]) (st1 := [_]) rfl ?_
      exact m_E.iret rfl (Opm.same H ok R)
    · skip
      obtain ⟨top, rfl, t1, t2⟩ := m_rng2 (show c_lf (w_now W) < 100 by omega) (fun z => ex (Or.inl z)) (fun z => ex (Or.inr z)) (by decide)
      have e : b_shuf (w_now W) (nI top) = (nI (g_cnt (fun j => !(g_before j top (c_lf (w_now W)) == j)) (c_lf (w_now W))), some (c_prt (w_now W) (fun j => g_before j top (c_lf (w_now W))))) := by rw [b_shuf, if_neg ef, if_neg ex, m_cl (by omega)]
      have eb : (!decide (nI top < nI 1) && !decide (nI (c_lf (w_now W)) ≤ nI top)) = true := by rw [decide_eq_false (fun z => ex (Or.inl z)), decide_eq_false (fun z => ex (Or.inr z))]; rfl
      rw [e, eb]
      refine m_E.ift (rfl) rfl ?_
      refine m_E.run 1 (pc1 := 25) (ls1 := [some _, some _, none, none, none]) (st1 := [_]) rfl ?_
      obtain ⟨h1, M1, p1, H1, ok1, R1, c1⟩ := e_rec2 (d := d) H ok R
      refine m_E.on H.o (by decide) rfl rfl rfl (p1) ?_
      refine m_E.run 1 (pc1 := 29) (ls1 := [some _, some _, none, none, none]) (st1 := [_]) rfl ?_
      have E1 : Enc F (w_now W) (d_state M1) := R1.1
      obtain ⟨_, h2, p2, rfl, row, H2, l2, v2, c2⟩ := e_takeOrder (d := d + 1) H1 ok1 E1.lf ll
      refine m_E.on H1.o (by decide) rfl rfl rfl (p2) ?_
      have ok2 : Okm (d_set_order M1 row) := ok1.order l2
      have c12 := c1.tr c2
      refine m_E.run 4 (pc1 := 36) (ls1 := [some _, some _, some _, some _, none]) (st1 := []) rfl ?_
      refine m_E.lp (fun i ls hh => ∃ v4, ∃ r, ls = [some (.ref 61), some (.int (nI top)), some (.int (nI (g_cnt (fun j => !(g_before j top (c_lf (w_now W)) == j)) i))), some (.int (nI i)), v4] ∧ (Hmo hh (d_set_state (d_set_order M1 row) r) ∧ r.length = 611 ∧ (∀ k, k < 83 ∨ 107 ≤ k → r.getD k 0 = (d_state M1).getD k 0) ∧ (∀ k, k < i → r.getD (83 + k) 0 = (d_state M1).getD (83 + g_before k top (c_lf (w_now W))) 0) ∧ Chg 61 69 h hh)) (c_lf (w_now W)) ?_ ?_ ?_
      · skip
        rintro i _ hh hi ⟨v4, r, rfl, hI⟩ K
        obtain ⟨Hi, li, oi, vi, ci⟩ := hI
        have r7 : r.getD 7 0 = nI (c_lf (w_now W)) := (oi 7 (by omega)).trans E1.lf
        have lf2 : g_before i top (c_lf (w_now W)) < c_lf (w_now W) := g_before_lt (by omega) hi
        refine m_E.run 2 (pc1 := 38) (ls1 := [some _, some _, some _, some _, _]) (st1 := [_, _]) rfl ?_
        refine m_E.gf Hi.o (by decide) rfl rfl ?_
        refine m_E.run 1 (pc1 := 43) (ls1 := [some _, some _, some _, some _, _]) (st1 := [_, _, _]) rfl ?_
        refine m_E.rs Hi li rfl (by omega) (r7) rfl ?_
        refine m_E.icf ((m_leI (by omega) (by omega)).trans (decide_eq_false (by omega))) rfl ?_
        refine m_E.run 3 (pc1 := 50) (ls1 := [some _, some _, some _, some _, _]) (st1 := [_, _, _]) rfl ?_
        refine m_E.ov Hi.o (by decide) rfl rfl rfl (e_cameFrom Hi li r7 (by omega) rfl (by omega) rfl (by omega)) ?_
        refine m_E.run 2 (pc1 := 56) (ls1 := [some _, some _, some _, some _, some _]) (st1 := [_]) rfl ?_
        refine m_E.gf Hi.o (by decide) rfl rfl ?_
        refine m_E.run 4 (pc1 := 64) (ls1 := [some _, some _, some _, some _, some _]) (st1 := [_, _, _]) rfl ?_
        dsimp only
        refine m_E.gf Hi.o (by decide) rfl rfl ?_
        refine m_E.run 1 (pc1 := 69) (ls1 := [some _, some _, some _, some _, some _]) (st1 := [_, _, _, _]) rfl ?_
        rw [nI_add]
        refine m_E.ild Hi.2.2.2.2.2.2.1 (j := g_before i top (c_lf (w_now W))) (Or.inl rfl) rfl (show _ < row.length by omega) (show row.length < 2 ^ 31 by omega) rfl ?_
        change m_E _ _ _ _ (.int (row.getD (g_before i top (c_lf (w_now W))) 0) :: _) _ _
        rw [v2 _ lf2]
        refine m_E.ws Hi li rfl (by omega) rfl (fun h3 H3 c3 => ?_)
        have nx : Hmo h3 (d_set_state (d_set_order M1 row) (r.set (83 + i) ((d_state M1).getD (83 + g_before i top (c_lf (w_now W))) 0))) ∧ (r.set (83 + i) ((d_state M1).getD (83 + g_before i top (c_lf (w_now W))) 0)).length = 611 ∧ (∀ k, k < 83 ∨ 107 ≤ k → (r.set (83 + i) ((d_state M1).getD (83 + g_before i top (c_lf (w_now W))) 0)).getD k 0 = (d_state M1).getD k 0) ∧ (∀ k, k < i + 1 → (r.set (83 + i) ((d_state M1).getD (83 + g_before i top (c_lf (w_now W))) 0)).getD (83 + k) 0 = (d_state M1).getD (83 + g_before k top (c_lf (w_now W))) 0) ∧ Chg 61 69 h h3 := by
          refine ⟨H3, (List.length_set ..).trans li, fun k hk => (g_so (by omega)).trans (oi k hk), fun k hk => ?_, ci.tr c3⟩
          rw [g_sd (by omega)]
          by_cases e : k = i
          · rw [if_pos (by omega), e]
          · rw [if_neg (by omega)]; exact vi k (by omega)
        refine m_E.run 3 (pc1 := 75) (ls1 := [some _, some _, some _, some _, some _]) (st1 := [_, _, _]) rfl ?_
        by_cases e1 : g_before i top (c_lf (w_now W)) = i
        · skip
          refine m_E.icf (by rw [e1, m_neI (by omega) (by omega)]; simp) rfl ?_
          refine m_E.run 6 (pc1 := 36) (ls1 := [some _, some _, some _, some _, some _]) (st1 := []) rfl ?_
          dsimp only
          rw [g_c0 (p := fun j => !(g_before j top (c_lf (w_now W)) == j)) (by rw [m_beqE e1]; rfl), nI_add]
          exact K _ _ ⟨_, _, rfl, nx⟩
        · skip
          refine m_E.ict (by rw [m_neI (by omega) (by omega)]; exact decide_eq_true e1) rfl ?_
          refine m_E.run 5 (pc1 := 36) (ls1 := [some _, some _, some _, some _, some _]) (st1 := []) rfl ?_
          dsimp only
          rw [g_c1 (p := fun j => !(g_before j top (c_lf (w_now W)) == j)) (by rw [m_beqN e1]; rfl), nI_add]
          exact K _ _ ⟨_, _, rfl, nx⟩
      · skip
        exact ⟨_, _, rfl, H2, ok1.1, fun _ _ => rfl, fun k hk => absurd hk (Nat.not_lt_zero k), c12⟩
      · skip
        rintro _ hh ⟨v4, r, rfl, hI⟩
        obtain ⟨Hi, li, oi, vi, ci⟩ := hI
        have r7 : r.getD 7 0 = nI (c_lf (w_now W)) := (oi 7 (by omega)).trans E1.lf
        have E2 : Enc F (c_prt (w_now W) (fun j => g_before j top (c_lf (w_now W)))) r := E1.prm t ef (fun k hk => g_before_lt (by omega) hk) li oi vi
        refine m_E.run 2 (pc1 := 38) (ls1 := [some _, some _, some _, some _, _]) (st1 := [_, _]) rfl ?_
        refine m_E.gf Hi.o (by decide) rfl rfl ?_
        refine m_E.run 1 (pc1 := 43) (ls1 := [some _, some _, some _, some _, _]) (st1 := [_, _, _]) rfl ?_
        refine m_E.rs Hi li rfl (by omega) (r7) rfl ?_
        refine m_E.ict ((m_leI (by omega) (by omega)).trans (decide_eq_true (Nat.le_refl _))) rfl ?_
        refine m_E.run 1 (pc1 := 92) (ls1 := [some _, some _, some _, some _, _]) (st1 := [_]) rfl ?_
        exact m_E.iret rfl ⟨rfl, _, Hi, ok2.state li, (Rl.order R1 row).setS E2, ci⟩
