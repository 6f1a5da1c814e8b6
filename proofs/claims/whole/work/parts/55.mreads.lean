/-! the model's reads -/
def Gsh (n : Nat) (F : Nat → c_Sh) : Prop := ∀ i, i < n → s_ok (F i) ∧ (F i).1.length = 24 ∧ (F i).2.1.length = 24 ∧ (F i).2.2.length = 24
theorem Hcl.gsh {h : m_Hp} {n : Nat} {F : Nat → c_Sh} {W : c_W} (H : Hcl h n F W) : Gsh n F := fun i hi => by
  obtain ⟨a, b⟩ := H.shp.2 i hi
  exact ⟨b, a.2.2.2.2.2⟩
section
variable {n p : Nat} {F : Nat → c_Sh} {S : c_St} {r : List Int32}
theorem Gsh.at (G : Gsh n F) {k : Nat} (hk : ∃ i, i < n ∧ k = 69 + 4 * i) : s_ok (g_sh F k) ∧ (g_sh F k).1.length = 24 ∧ (g_sh F k).2.1.length = 24 ∧ (g_sh F k).2.2.length = 24 := by
  obtain ⟨i, hi, rfl⟩ := hk
  rw [g_sh, show (69 + 4 * i - 69) / 4 = i by omega]
  exact G i hi
theorem lf_lt (t : Tok n p S) {i : Nat} (hi : i < c_lf S) : c_fr S ≠ none ∧ c_dealt S + i < 24 := by
  obtain ⟨a, k, b⟩ := g_left_lt t.1.2.2.2.2.2.2.2.2.2.2.1 hi
  exact ⟨(by rw [b]; intro z; cases z), a⟩
theorem c_shf_some {s : Nat} (h : c_fr S = some s) : c_shf F S = g_sh F s := by rw [c_shf, h]
theorem Enc.pmc (E : Enc F S r) (hf : c_fr S ≠ none) {c : Nat} (hc : c < 24) : r.getD (131 + c) 0 = nI ((c_shf F S).2.1.getD c 0) := by
  cases e : c_fr S with
  | none => exact absurd e hf
  | some s => rw [c_shf_some e]; exact (E.pack e).2.1 c hc
theorem Enc.plc (E : Enc F S r) (hf : c_fr S ≠ none) {c : Nat} (hc : c < 24) : r.getD (107 + c) 0 = (c_shf F S).2.2.getD c 0 := by
  cases e : c_fr S with
  | none => exact absurd e hf
  | some s => rw [c_shf_some e]; exact (E.pack e).1 c hc
theorem Enc.dlc (E : Enc F S r) (t : Tok n p S) (hf : c_fr S ≠ none) {c : Nat} (hc : c < 24) : r.getD (155 + c) 0 = nI (if q_dl S c = true then 1 else 0) := by
  cases e : c_fr S with
  | none => exact absurd e hf
  | some s =>
    have q := (E.pack e).2.2 (g_ix (c_order S) c 24 0) (g_ix_perm (t.2.2.2.2.1 hf) hc)
    rw [g_ix_of (t.2.2.2.2.1 hf) hc] at q
    rw [q, q_dl]
    by_cases z : g_ix (c_order S) c 24 0 < c_dealt S
    · rw [if_pos z, if_pos (decide_eq_true z)]
    · rw [if_neg z, if_neg (by rw [decide_eq_false z]; decide)]
theorem q_mk_lt (t : Tok n p S) (G : Gsh n F) {i : Nat} (hi : i < c_lf S) : q_mk F S i < 16 := by
  obtain ⟨hf, h2⟩ := lf_lt t hi
  cases e : c_fr S with
  | none => exact absurd e hf
  | some s =>
    have g := G.at (t.2.2.1.2.2 s e)
    rw [q_mk, c_shf_some e]
    exact g_mk_lt g.1.1 g.2.2.1 (t.ord _ h2)
theorem q_mc_lt (t : Tok n p S) (G : Gsh n F) (hf : c_fr S ≠ none) {c : Nat} (hc : c < 24) : (c_shf F S).2.1.getD c 0 < 16 := by
  cases e : c_fr S with
  | none => exact absurd e hf
  | some s =>
    have g := G.at (t.2.2.1.2.2 s e)
    rw [c_shf_some e]
    exact g_getD_lt g.1.1 (by rw [g.2.2.1]; exact hc)
end
theorem g_c1 {p : Nat → Bool} {i : Nat} (hb : p i = true) : nI (g_cnt p i) + nI 1 = nI (g_cnt p (i + 1)) := by rw [nI_add, g_cnt, if_pos hb]
theorem g_c0 {p : Nat → Bool} {i : Nat} (hb : p i = false) : nI (g_cnt p i) + nI 0 = nI (g_cnt p (i + 1)) := by rw [nI_add, g_cnt, if_neg (by rw [hb]; decide)]
def q_k1 (F : Nat → c_Sh) (S : c_St) (j : Nat) : Bool := q_can F S j == 1
def q_r1 (F : Nat → c_Sh) (S : c_St) (j : Nat) : Bool := q_gs F S j == (c_order S).getD (c_dealt S + j) 0
theorem m_beqE {a b : Nat} (h : a = b) : (a == b) = true := decide_eq_true h
theorem m_beqN {a b : Nat} (h : ¬ a = b) : (a == b) = false := decide_eq_false h
theorem e_marksAt {d : Nat} {n p i : Nat} {F : Nat → c_Sh} {S : c_St} {x : Int32} {M : c_M} {h : m_Hp} (H : Hmo h M) (E : Enc F S (d_state M)) (t : Tok n p S) (hx : x = nI i) (hi : i < c_lf S) : m_Call m_P (d + 1) 129 [.ref 61, .int x] (h) (some (.int (nI (q_mk F S i)))) (h) := by
  refine m_call_of (tab := tX6_marksAt) (nL := 2) rfl rfl ?_
  subst hx
  obtain ⟨hf, h2⟩ := lf_lt t hi
  have lc := t.ord _ h2
  refine m_E.run 1 (pc1 := 1) (ls1 := [some _, some _]) (st1 := [_]) rfl ?_
  refine m_E.gf H.o (by decide) rfl rfl ?_
  refine m_E.run 2 (pc1 := 8) (ls1 := [some _, some _]) (st1 := [_, _, _]) rfl ?_
  refine m_E.gf H.o (by decide) rfl rfl ?_
  refine m_E.run 3 (pc1 := 15) (ls1 := [some _, some _]) (st1 := [_, _, _, _]) rfl ?_
  dsimp only
  refine m_E.rs H E.len (nI_add _ _) (by omega) (E.ord hi) rfl ?_
  refine m_E.run 1 (pc1 := 17) (ls1 := [some _, some _]) (st1 := [_, _]) rfl ?_
  dsimp only
  refine m_E.rs H E.len (nI_add _ _) (by omega) (E.pmc hf lc) rfl ?_
  exact m_E.iret rfl ⟨rfl, rfl⟩
theorem e_alike {d : Nat} {n p m : Nat} {F : Nat → c_Sh} {S : c_St} {x : Int32} {M : c_M} {h : m_Hp} (H : Hmo h M) (E : Enc F S (d_state M)) (t : Tok n p S) (G : Gsh n F) (hf : c_fr S ≠ none) (hx : x = nI m) (hm : m < 16) : m_Call m_P (d + 1) 128 [.ref 61, .int x] (h) (some (.int (nI (q_al F S m)))) (h) := by
  refine m_call_of (tab := tX6_alike) (nL := 4) rfl rfl ?_
  subst hx
  refine m_E.run 4 (pc1 := 4) (ls1 := [some _, some _, some _, some _]) (st1 := []) rfl ?_
  refine m_E.up (fun i => (4, [some (.ref 61), some (.int (nI m)), some (.int (nI (g_cnt (q_q F S m) i))), some (.int (nI i))], [], h)) 24 (fun i => True) (fun i hi hI K => ?_) ?_ (fun hI => ?_)
  · skip
    show m_E _ _ 4 [some (.ref 61), some (.int (nI m)), some (.int (nI (g_cnt (q_q F S m) i))), some (.int (nI i))] [] (h) _
    refine m_E.run 2 (pc1 := 7) (ls1 := [some _, some _, some _, some _]) (st1 := [_, _]) rfl ?_
    refine m_E.icf ((m_leI (by omega) (by omega)).trans (decide_eq_false (by omega))) rfl ?_
    refine m_E.run 2 (pc1 := 12) (ls1 := [some _, some _, some _, some _]) (st1 := [_, _]) rfl ?_
    refine m_E.gf H.o (by decide) rfl rfl ?_
    refine m_E.run 3 (pc1 := 20) (ls1 := [some _, some _, some _, some _]) (st1 := [_, _, _]) rfl ?_
    dsimp only
    refine m_E.rs H E.len (nI_add _ _) (by omega) (E.dlc t hf hi) rfl ?_
    cases hdl : q_dl S i
    · skip
      refine m_E.iff (rfl) rfl ?_
      refine m_E.run 1 (pc1 := 25) (ls1 := [some _, some _, some _, some _]) (st1 := [_, _]) rfl ?_
      refine m_E.gf H.o (by decide) rfl rfl ?_
      refine m_E.run 3 (pc1 := 33) (ls1 := [some _, some _, some _, some _]) (st1 := [_, _, _]) rfl ?_
      dsimp only
      refine m_E.rs H E.len (nI_add _ _) (by omega) (E.pmc hf hi) rfl ?_
      refine m_E.run 1 (pc1 := 35) (ls1 := [some _, some _, some _, some _]) (st1 := [_, _, _]) rfl ?_
      have lm := q_mc_lt t G hf hi
      by_cases em : (c_shf F S).2.1.getD i 0 = m
      · skip
        refine m_E.icf (by rw [em, m_neI (by omega) (by omega)]; simp) rfl ?_
        refine m_E.run 6 (pc1 := 4) (ls1 := [some _, some _, some _, some _]) (st1 := []) rfl ?_
        dsimp only
        rw [g_c1 (p := q_q F S m) (by rw [q_q, hdl, em, m_beqE rfl]; rfl), nI_add]
        exact K trivial
      · skip
        refine m_E.ict (by rw [m_neI (by omega) (by omega)]; exact decide_eq_true em) rfl ?_
        refine m_E.run 5 (pc1 := 4) (ls1 := [some _, some _, some _, some _]) (st1 := []) rfl ?_
        dsimp only
        rw [g_c0 (p := q_q F S m) (by rw [q_q, hdl, m_beqN em]; rfl), nI_add]
        exact K trivial
    · skip
      refine m_E.ift (rfl) rfl ?_
      refine m_E.run 5 (pc1 := 4) (ls1 := [some _, some _, some _, some _]) (st1 := []) rfl ?_
      dsimp only
      rw [g_c0 (p := q_q F S m) (by rw [q_q, hdl]; rfl), nI_add]
      exact K trivial
  · skip
    trivial
  · skip
    show m_E _ _ 4 ((fun i => [some (.ref 61), some (.int (nI m)), some (.int (nI (g_cnt (q_q F S m) i))), some (.int (nI i))]) (24)) [] ((fun i => h) (24)) _
    dsimp only
    refine m_E.run 2 (pc1 := 7) (ls1 := [some _, some _, some _, some _]) (st1 := [_, _]) rfl ?_
    refine m_E.ict (by decide) rfl ?_
    refine m_E.run 1 (pc1 := 52) (ls1 := [some _, some _, some _, some _]) (st1 := [_]) rfl ?_
    exact m_E.iret rfl ⟨rfl, rfl⟩
theorem e_known {d : Nat} {n p : Nat} {F : Nat → c_Sh} {S : c_St} {M : c_M} {h : m_Hp} (H : Hmo h M) (E : Enc F S (d_state M)) (t : Tok n p S) (G : Gsh n F) : m_Call m_P (d + 2) 131 [.ref 61] (h) (some (.int (nI (g_cnt (q_k1 F S) (c_lf S))))) (h) := by
  refine m_call_of (tab := tX6_known) (nL := 3) rfl rfl ?_
  have ll : c_lf S ≤ 24 := g_left_le _ _
  refine m_E.run 4 (pc1 := 4) (ls1 := [some _, some _, some _]) (st1 := []) rfl ?_
  refine m_E.up (fun i => (4, [some (.ref 61), some (.int (nI (g_cnt (q_k1 F S) i))), some (.int (nI i))], [], h)) (c_lf S) (fun i => True) (fun i hi hI K => ?_) ?_ (fun hI => ?_)
  · skip
    show m_E _ _ 4 [some (.ref 61), some (.int (nI (g_cnt (q_k1 F S) i))), some (.int (nI i))] [] (h) _
    refine m_E.run 2 (pc1 := 6) (ls1 := [some _, some _, some _]) (st1 := [_, _]) rfl ?_
    refine m_E.gf H.o (by decide) rfl rfl ?_
    refine m_E.run 1 (pc1 := 11) (ls1 := [some _, some _, some _]) (st1 := [_, _, _]) rfl ?_
    refine m_E.rs H E.len rfl (by omega) (E.lf) rfl ?_
    refine m_E.icf ((m_leI (by omega) (by omega)).trans (decide_eq_false (by omega))) rfl ?_
    refine m_E.run 4 (pc1 := 19) (ls1 := [some _, some _, some _]) (st1 := [_, _, _, _]) rfl ?_
    refine m_E.ov H.o (by decide) rfl rfl rfl (e_marksAt H E t rfl hi) ?_
    refine m_E.ov H.o (by decide) rfl rfl rfl (e_alike H E t G (lf_lt t hi).1 rfl (q_mk_lt t G hi)) ?_
    rw [q_al_can t (lf_lt t hi).1]
    have lq : q_can F S i ≤ 24 := Nat.le_trans (g_cnt_le _ _) (Nat.sub_le _ _)
    refine m_E.run 1 (pc1 := 26) (ls1 := [some _, some _, some _]) (st1 := [_, _, _]) rfl ?_
    by_cases e1 : q_can F S i = 1
    · skip
      refine m_E.icf (by rw [e1]; rfl) rfl ?_
      refine m_E.run 6 (pc1 := 4) (ls1 := [some _, some _, some _]) (st1 := []) rfl ?_
      dsimp only
      rw [g_c1 (p := q_k1 F S) (m_beqE e1), nI_add]
      exact K trivial
    · skip
      refine m_E.ict (by rw [m_neI (by omega) (by omega)]; exact decide_eq_true e1) rfl ?_
      refine m_E.run 5 (pc1 := 4) (ls1 := [some _, some _, some _]) (st1 := []) rfl ?_
      dsimp only
      rw [g_c0 (p := q_k1 F S) (m_beqN e1), nI_add]
      exact K trivial
  · skip
    trivial
  · skip
    show m_E _ _ 4 ((fun i => [some (.ref 61), some (.int (nI (g_cnt (q_k1 F S) i))), some (.int (nI i))]) ((c_lf S))) [] ((fun i => h) ((c_lf S))) _
    dsimp only
    refine m_E.run 2 (pc1 := 6) (ls1 := [some _, some _, some _]) (st1 := [_, _]) rfl ?_
    refine m_E.gf H.o (by decide) rfl rfl ?_
    refine m_E.run 1 (pc1 := 11) (ls1 := [some _, some _, some _]) (st1 := [_, _, _]) rfl ?_
    refine m_E.rs H E.len rfl (by omega) (E.lf) rfl ?_
    refine m_E.ict ((m_leI (by omega) (by omega)).trans (decide_eq_true (Nat.le_refl _))) rfl ?_
    refine m_E.run 1 (pc1 := 43) (ls1 := [some _, some _, some _]) (st1 := [_]) rfl ?_
    exact m_E.iret rfl ⟨rfl, rfl⟩
theorem e_guess {d : Nat} {n p j : Nat} {F : Nat → c_Sh} {S : c_St} {x : Int32} {M : c_M} {h : m_Hp} (H : Hmo h M) (E : Enc F S (d_state M)) (t : Tok n p S) (G : Gsh n F) (hx : x = nI j) (hj : j < c_lf S) : m_Call m_P (d + 2) 130 [.ref 61, .int x] (h) (some (.int (nI (q_gs F S j)))) (h) := by
  refine m_call_of (tab := tX6_guess) (nL := 3) rfl rfl ?_
  subst hx
  obtain ⟨hf, h2⟩ := lf_lt t hj
  obtain ⟨g1, g2, g3⟩ := q_gs_ok (F := F) t hf h2
  have lk := q_mk_lt t G hj
  refine m_E.run 2 (pc1 := 2) (ls1 := [some _, some _, some _]) (st1 := []) rfl ?_
  refine m_E.up (fun i => (2, [some (.ref 61), some (.int (nI j)), some (.int (nI i))], [], h)) (q_gs F S j) (fun i => True) (fun i hi hI K => ?_) ?_ (fun hI => ?_)
  · skip
    show m_E _ _ 2 [some (.ref 61), some (.int (nI j)), some (.int (nI i))] [] (h) _
    have hq := g3 i hi
    have lm := q_mc_lt t G hf (show i < 24 by omega)
    refine m_E.run 1 (pc1 := 3) (ls1 := [some _, some _, some _]) (st1 := [_]) rfl ?_
    refine m_E.gf H.o (by decide) rfl rfl ?_
    refine m_E.run 3 (pc1 := 11) (ls1 := [some _, some _, some _]) (st1 := [_, _]) rfl ?_
    dsimp only
    refine m_E.rs H E.len (nI_add _ _) (by omega) (E.dlc t hf (show i < 24 by omega)) rfl ?_
    cases hdl : q_dl S i
    · skip
      refine m_E.run 1 (pc1 := 13) (ls1 := [some _, some _, some _]) (st1 := [_, _]) rfl ?_
      refine m_E.icf (rfl) rfl ?_
      refine m_E.run 1 (pc1 := 17) (ls1 := [some _, some _, some _]) (st1 := [_]) rfl ?_
      refine m_E.gf H.o (by decide) rfl rfl ?_
      refine m_E.run 3 (pc1 := 25) (ls1 := [some _, some _, some _]) (st1 := [_, _]) rfl ?_
      dsimp only
      refine m_E.rs H E.len (nI_add _ _) (by omega) (E.pmc hf (show i < 24 by omega)) rfl ?_
      refine m_E.run 2 (pc1 := 28) (ls1 := [some _, some _, some _]) (st1 := [_, _, _]) rfl ?_
      refine m_E.ov H.o (by decide) rfl rfl rfl (e_marksAt H E t rfl hj) ?_
      refine m_E.icf (by rw [m_beqI (by omega) (by omega)]; rw [q_q, hdl] at hq; exact hq) rfl ?_
      refine m_E.run 2 (pc1 := 2) (ls1 := [some _, some _, some _]) (st1 := []) rfl ?_
      rw [nI_add]
      exact K trivial
    · skip
      refine m_E.run 1 (pc1 := 13) (ls1 := [some _, some _, some _]) (st1 := [_, _]) rfl ?_
      refine m_E.ict (rfl) rfl ?_
      refine m_E.run 2 (pc1 := 2) (ls1 := [some _, some _, some _]) (st1 := []) rfl ?_
      rw [nI_add]
      exact K trivial
  · skip
    trivial
  · skip
    show m_E _ _ 2 ((fun i => [some (.ref 61), some (.int (nI j)), some (.int (nI i))]) ((q_gs F S j))) [] ((fun i => h) ((q_gs F S j))) _
    dsimp only
    have lm := q_mc_lt t G hf g1
    refine m_E.run 1 (pc1 := 3) (ls1 := [some _, some _, some _]) (st1 := [_]) rfl ?_
    refine m_E.gf H.o (by decide) rfl rfl ?_
    refine m_E.run 3 (pc1 := 11) (ls1 := [some _, some _, some _]) (st1 := [_, _]) rfl ?_
    dsimp only
    refine m_E.rs H E.len (nI_add _ _) (by omega) (E.dlc t hf g1) rfl ?_
    rw [q_q, Bool.and_eq_true] at g2
    cases hdl : q_dl S (q_gs F S j)
    · skip
      refine m_E.run 1 (pc1 := 13) (ls1 := [some _, some _, some _]) (st1 := [_, _]) rfl ?_
      refine m_E.icf (rfl) rfl ?_
      refine m_E.run 1 (pc1 := 17) (ls1 := [some _, some _, some _]) (st1 := [_]) rfl ?_
      refine m_E.gf H.o (by decide) rfl rfl ?_
      refine m_E.run 3 (pc1 := 25) (ls1 := [some _, some _, some _]) (st1 := [_, _]) rfl ?_
      dsimp only
      refine m_E.rs H E.len (nI_add _ _) (by omega) (E.pmc hf g1) rfl ?_
      refine m_E.run 2 (pc1 := 28) (ls1 := [some _, some _, some _]) (st1 := [_, _, _]) rfl ?_
      refine m_E.ov H.o (by decide) rfl rfl rfl (e_marksAt H E t rfl hj) ?_
      refine m_E.ict (by rw [m_beqI (by omega) (by omega)]; exact g2.2) rfl ?_
      refine m_E.run 1 (pc1 := 41) (ls1 := [some _, some _, some _]) (st1 := [_]) rfl ?_
      exact m_E.iret rfl ⟨rfl, rfl⟩
    · skip
      rw [hdl] at g2
      exact absurd g2.1 (by decide)
theorem e_rightOnes {d : Nat} {n p : Nat} {F : Nat → c_Sh} {S : c_St} {M : c_M} {h : m_Hp} (H : Hmo h M) (E : Enc F S (d_state M)) (t : Tok n p S) (G : Gsh n F) : m_Call m_P (d + 3) 132 [.ref 61] (h) (some (.int (nI (g_cnt (q_r1 F S) (c_lf S))))) (h) := by
  refine m_call_of (tab := tX6_rightOnes) (nL := 3) rfl rfl ?_
  have ll : c_lf S ≤ 24 := g_left_le _ _
  refine m_E.run 4 (pc1 := 4) (ls1 := [some _, some _, some _]) (st1 := []) rfl ?_
  refine m_E.up (fun i => (4, [some (.ref 61), some (.int (nI (g_cnt (q_r1 F S) i))), some (.int (nI i))], [], h)) (c_lf S) (fun i => True) (fun i hi hI K => ?_) ?_ (fun hI => ?_)
  · skip
    show m_E _ _ 4 [some (.ref 61), some (.int (nI (g_cnt (q_r1 F S) i))), some (.int (nI i))] [] (h) _
    obtain ⟨hf, h2⟩ := lf_lt t hi
    have g1 := (q_gs_ok (F := F) t hf h2).1
    have lo := t.ord _ h2
    refine m_E.run 2 (pc1 := 6) (ls1 := [some _, some _, some _]) (st1 := [_, _]) rfl ?_
    refine m_E.gf H.o (by decide) rfl rfl ?_
    refine m_E.run 1 (pc1 := 11) (ls1 := [some _, some _, some _]) (st1 := [_, _, _]) rfl ?_
    refine m_E.rs H E.len rfl (by omega) (E.lf) rfl ?_
    refine m_E.icf ((m_leI (by omega) (by omega)).trans (decide_eq_false (by omega))) rfl ?_
    refine m_E.run 3 (pc1 := 18) (ls1 := [some _, some _, some _]) (st1 := [_, _, _]) rfl ?_
    refine m_E.ov H.o (by decide) rfl rfl rfl (e_guess H E t G rfl hi) ?_
    refine m_E.run 1 (pc1 := 22) (ls1 := [some _, some _, some _]) (st1 := [_, _, _]) rfl ?_
    refine m_E.gf H.o (by decide) rfl rfl ?_
    refine m_E.run 3 (pc1 := 29) (ls1 := [some _, some _, some _]) (st1 := [_, _, _, _]) rfl ?_
    dsimp only
    refine m_E.rs H E.len (nI_add _ _) (by omega) (E.ord hi) rfl ?_
    by_cases e1 : q_gs F S i = (c_order S).getD (c_dealt S + i) 0
    · skip
      refine m_E.icf (by rw [e1, m_neI (by omega) (by omega)]; simp) rfl ?_
      refine m_E.run 6 (pc1 := 4) (ls1 := [some _, some _, some _]) (st1 := []) rfl ?_
      dsimp only
      rw [g_c1 (p := q_r1 F S) (m_beqE e1), nI_add]
      exact K trivial
    · skip
      refine m_E.ict (by rw [m_neI (by omega) (by omega)]; exact decide_eq_true e1) rfl ?_
      refine m_E.run 5 (pc1 := 4) (ls1 := [some _, some _, some _]) (st1 := []) rfl ?_
      dsimp only
      rw [g_c0 (p := q_r1 F S) (m_beqN e1), nI_add]
      exact K trivial
  · skip
    trivial
  · skip
    show m_E _ _ 4 ((fun i => [some (.ref 61), some (.int (nI (g_cnt (q_r1 F S) i))), some (.int (nI i))]) ((c_lf S))) [] ((fun i => h) ((c_lf S))) _
    dsimp only
    refine m_E.run 2 (pc1 := 6) (ls1 := [some _, some _, some _]) (st1 := [_, _]) rfl ?_
    refine m_E.gf H.o (by decide) rfl rfl ?_
    refine m_E.run 1 (pc1 := 11) (ls1 := [some _, some _, some _]) (st1 := [_, _, _]) rfl ?_
    refine m_E.rs H E.len rfl (by omega) (E.lf) rfl ?_
    refine m_E.ict ((m_leI (by omega) (by omega)).trans (decide_eq_true (Nat.le_refl _))) rfl ?_
    refine m_E.run 1 (pc1 := 47) (ls1 := [some _, some _, some _]) (st1 := [_]) rfl ?_
    exact m_E.iret rfl ⟨rfl, rfl⟩
theorem e_leaning {d : Nat} {part : Nat} {xs : List Int32} {lim x : Int32} {M : c_M} {h : m_Hp} (H : Hmo h M) (hl : (d_state M).length = 611) (hx : x = nI part) (hp : part < 300) (hv : ∀ k, k < 24 → (d_state M).getD (part + k) 0 = xs.getD k 0) (h1 : (d_state M).getD 1 0 = lim) : m_Call m_P (d + 2) 134 [.ref 61, .int x] (h) (some (.int (nI (g_beyond xs lim 24)))) (h) := by
  refine m_call_of (tab := tX6_leaning) (nL := 4) rfl rfl ?_
  subst hx
  refine m_E.run 4 (pc1 := 4) (ls1 := [some _, some _, some _, some _]) (st1 := []) rfl ?_
  refine m_E.up (fun i => (4, [some (.ref 61), some (.int (nI part)), some (.int (nI (g_beyond xs lim i))), some (.int (nI i))], [], h)) 24 (fun i => True) (fun i hi hI K => ?_) ?_ (fun hI => ?_)
  · skip
    show m_E _ _ 4 [some (.ref 61), some (.int (nI part)), some (.int (nI (g_beyond xs lim i))), some (.int (nI i))] [] (h) _
    refine m_E.run 2 (pc1 := 7) (ls1 := [some _, some _, some _, some _]) (st1 := [_, _]) rfl ?_
    refine m_E.icf ((m_leI (by omega) (by omega)).trans (decide_eq_false (by omega))) rfl ?_
    refine m_E.run 2 (pc1 := 12) (ls1 := [some _, some _, some _, some _]) (st1 := [_, _]) rfl ?_
    refine m_E.gf H.o (by decide) rfl rfl ?_
    refine m_E.run 3 (pc1 := 18) (ls1 := [some _, some _, some _, some _]) (st1 := [_, _, _]) rfl ?_
    dsimp only
    refine m_E.rs H hl (nI_add _ _) (by omega) (hv i hi) rfl ?_
    refine m_E.cv rfl rfl (e_great) ?_
    refine m_E.run 1 (pc1 := 23) (ls1 := [some _, some _, some _, some _]) (st1 := [_, _, _]) rfl ?_
    refine m_E.gf H.o (by decide) rfl rfl ?_
    refine m_E.run 1 (pc1 := 27) (ls1 := [some _, some _, some _, some _]) (st1 := [_, _, _, _]) rfl ?_
    refine m_E.rs H hl rfl (by omega) (h1) rfl ?_
    refine m_E.ic2 rfl (fun q1 => ?_) (fun q1 => ?_)
    · skip
      have e : g_beyond xs lim (i + 1) = g_beyond xs lim i := by rw [g_beyond, if_neg (Int32.not_lt.mpr (of_decide_eq_true q1)), Nat.add_zero]
      refine m_E.run 5 (pc1 := 4) (ls1 := [some _, some _, some _, some _]) (st1 := []) rfl ?_
      dsimp only
      rw [show nI (g_beyond xs lim i) + nI 0 = nI (g_beyond xs lim (i + 1)) from by rw [nI_add, e, Nat.add_zero], nI_add]
      exact K trivial
    · skip
      have e : g_beyond xs lim (i + 1) = g_beyond xs lim i + 1 := by rw [g_beyond, if_pos (Int32.not_le.mp (of_decide_eq_false q1))]
      refine m_E.run 6 (pc1 := 4) (ls1 := [some _, some _, some _, some _]) (st1 := []) rfl ?_
      dsimp only
      rw [nI_add, ← e, nI_add]
      exact K trivial
  · skip
    trivial
  · skip
    show m_E _ _ 4 ((fun i => [some (.ref 61), some (.int (nI part)), some (.int (nI (g_beyond xs lim i))), some (.int (nI i))]) (24)) [] ((fun i => h) (24)) _
    dsimp only
    refine m_E.run 2 (pc1 := 7) (ls1 := [some _, some _, some _, some _]) (st1 := [_, _]) rfl ?_
    refine m_E.ict (by decide) rfl ?_
    refine m_E.run 1 (pc1 := 45) (ls1 := [some _, some _, some _, some _]) (st1 := [_]) rfl ?_
    exact m_E.iret rfl ⟨rfl, rfl⟩
theorem g_reason_eq {F : Nat → c_Sh} {S : c_St} {s : Nat} (hf : c_fr S = some s) : g_reason S (g_sh F s) = if c_lf S < 24 then 1 else if 0 < g_beyond (c_shf F S).2.2 (nI ((c_settings S).getD 1 0)) 24 then 2 else if (c_settings S).getD 2 0 < g_cnt (q_k1 F S) (c_lf S) then 3 else 0 := by
  have e : g_known S (g_sh F s) = g_cnt (q_k1 F S) (c_lf S) := by rw [← c_shf_some (F := F) hf]; rfl
  have e2 : c_lf S = 24 - c_dealt S := by rw [c_lf, hf]; rfl
  rw [g_reason, e, c_shf_some hf, e2]
  by_cases z : 0 < c_dealt S
  · rw [if_pos z, if_pos (by omega)]
  · rw [if_neg z, if_neg (show ¬ 24 - c_dealt S < 24 by omega)]
theorem e_reason {d : Nat} {n p s : Nat} {F : Nat → c_Sh} {S : c_St} {M : c_M} {h : m_Hp} (H : Hmo h M) (E : Enc F S (d_state M)) (t : Tok n p S) (G : Gsh n F) (hf : c_fr S = some s) : m_Call m_P (d + 3) 135 [.ref 61] (h) (some (.int (nI (g_reason S (g_sh F s))))) (h) := by
  refine m_call_of (tab := tX6_reason) (nL := 1) rfl rfl ?_
  have hf2 : c_fr S ≠ none := by rw [hf]; intro z; cases z
  have ll : c_lf S ≤ 24 := g_left_le _ _
  have lk := g_cnt_le (q_k1 F S) (c_lf S)
  have lb := g_beyond_le (c_shf F S).2.2 (nI ((c_settings S).getD 1 0)) 24
  have ls2 : (c_settings S).getD 2 0 < 100 := g_getD_lt t.1.2.2.2.2.2.2.1 (by rw [t.1.2.2.2.2.2.1]; decide)
  rw [g_reason_eq hf]
  refine m_E.run 1 (pc1 := 1) (ls1 := [some _]) (st1 := [_]) rfl ?_
  refine m_E.gf H.o (by decide) rfl rfl ?_
  refine m_E.run 1 (pc1 := 6) (ls1 := [some _]) (st1 := [_, _]) rfl ?_
  refine m_E.rs H E.len rfl (by omega) (E.lf) rfl ?_
  refine m_E.run 1 (pc1 := 9) (ls1 := [some _]) (st1 := [_, _]) rfl ?_
  refine m_E.ic2 rfl (fun q1 => ?_) (fun q1 => ?_)
  · skip
    have z := of_decide_eq_true ((m_leI (by omega) (by omega)).symm.trans q1)
    rw [if_neg (by omega)]
    refine m_E.run 2 (pc1 := 17) (ls1 := [some _]) (st1 := [_, _]) rfl ?_
    refine m_E.ov H.o (by decide) rfl rfl rfl (e_leaning H E.len rfl (by decide) (fun k hk => E.plc hf2 hk) (E.set (k := 1) (by decide))) ?_
    refine m_E.if2 rfl (fun q2 => ?_) (fun q2 => ?_)
    · skip
      have z2 := of_decide_eq_true ((m_leI (a := g_beyond (c_shf F S).2.2 (nI ((c_settings S).getD 1 0)) 24) (b := 0) (by omega) (by omega)).symm.trans q2)
      rw [if_neg (by omega)]
      refine m_E.run 1 (pc1 := 28) (ls1 := [some _]) (st1 := [_]) rfl ?_
      refine m_E.ov H.o (by decide) rfl rfl rfl (e_known H E t G) ?_
      refine m_E.run 1 (pc1 := 32) (ls1 := [some _]) (st1 := [_, _]) rfl ?_
      refine m_E.gf H.o (by decide) rfl rfl ?_
      refine m_E.run 1 (pc1 := 36) (ls1 := [some _]) (st1 := [_, _, _]) rfl ?_
      refine m_E.rs H E.len rfl (by omega) (E.set (k := 2) (by decide)) rfl ?_
      refine m_E.ic2 rfl (fun q3 => ?_) (fun q3 => ?_)
      · skip
        have z3 := of_decide_eq_true ((m_leI (by omega) (by omega)).symm.trans q3)
        rw [if_neg (by omega)]
        refine m_E.run 1 (pc1 := 45) (ls1 := [some _]) (st1 := [_]) rfl ?_
        exact m_E.iret rfl ⟨rfl, rfl⟩
      · skip
        have z3 := of_decide_eq_false ((m_leI (by omega) (by omega)).symm.trans q3)
        rw [if_pos (by omega)]
        refine m_E.run 2 (pc1 := 45) (ls1 := [some _]) (st1 := [_]) rfl ?_
        exact m_E.iret rfl ⟨rfl, rfl⟩
    · skip
      have z2 := of_decide_eq_false ((m_leI (a := g_beyond (c_shf F S).2.2 (nI ((c_settings S).getD 1 0)) 24) (b := 0) (by omega) (by omega)).symm.trans q2)
      rw [if_pos (by omega)]
      refine m_E.run 2 (pc1 := 45) (ls1 := [some _]) (st1 := [_]) rfl ?_
      exact m_E.iret rfl ⟨rfl, rfl⟩
  · skip
    have z := of_decide_eq_false ((m_leI (by omega) (by omega)).symm.trans q1)
    rw [if_pos (by omega)]
    refine m_E.run 1 (pc1 := 13) (ls1 := [some _]) (st1 := [_]) rfl ?_
    exact m_E.iret rfl ⟨rfl, rfl⟩
theorem e_cellOf {d : Nat} {n p c : Nat} {F : Nat → c_Sh} {S : c_St} {x : Int32} {M : c_M} {h : m_Hp} (H : Hmo h M) (E : Enc F S (d_state M)) (t : Tok n p S) (hx : x = nI c) (hc : c < 24) : m_Call m_P (d + 1) 151 [.ref 61, .int x] (h) (some (.int (nI (g_ix (c_cards S) c 24 0)))) (h) := by
  refine m_call_of (tab := tX6_cellOf) (nL := 3) rfl rfl ?_
  subst hx
  have g1 := g_ix_perm t.2.2.2.1 hc
  have g2 := g_ix_of t.2.2.2.1 hc
  have g3 := (g_ix_ok (c_cards S) c 24 0).2.2.2
  refine m_E.run 2 (pc1 := 2) (ls1 := [some _, some _, some _]) (st1 := []) rfl ?_
  refine m_E.up (fun i => (2, [some (.ref 61), some (.int (nI c)), some (.int (nI i))], [], h)) (g_ix (c_cards S) c 24 0) (fun i => True) (fun i hi hI K => ?_) ?_ (fun hI => ?_)
  · skip
    show m_E _ _ 2 [some (.ref 61), some (.int (nI c)), some (.int (nI i))] [] (h) _
    have hq := g3 i (Nat.zero_le _) hi
    have lm := t.crd i (by omega)
    refine m_E.run 1 (pc1 := 3) (ls1 := [some _, some _, some _]) (st1 := [_]) rfl ?_
    refine m_E.gf H.o (by decide) rfl rfl ?_
    refine m_E.run 3 (pc1 := 10) (ls1 := [some _, some _, some _]) (st1 := [_, _]) rfl ?_
    dsimp only
    refine m_E.rs H E.len (nI_add _ _) (by omega) (E.card (show i < 24 by omega)) rfl ?_
    refine m_E.run 1 (pc1 := 12) (ls1 := [some _, some _, some _]) (st1 := [_, _]) rfl ?_
    refine m_E.icf (by rw [m_beqI (by omega) (by omega)]; exact decide_eq_false hq) rfl ?_
    refine m_E.run 2 (pc1 := 2) (ls1 := [some _, some _, some _]) (st1 := []) rfl ?_
    rw [nI_add]
    exact K trivial
  · skip
    trivial
  · skip
    show m_E _ _ 2 ((fun i => [some (.ref 61), some (.int (nI c)), some (.int (nI i))]) ((g_ix (c_cards S) c 24 0))) [] ((fun i => h) ((g_ix (c_cards S) c 24 0))) _
    dsimp only
    refine m_E.run 1 (pc1 := 3) (ls1 := [some _, some _, some _]) (st1 := [_]) rfl ?_
    refine m_E.gf H.o (by decide) rfl rfl ?_
    refine m_E.run 3 (pc1 := 10) (ls1 := [some _, some _, some _]) (st1 := [_, _]) rfl ?_
    dsimp only
    refine m_E.rs H E.len (nI_add _ _) (by omega) (E.card g1) rfl ?_
    refine m_E.run 1 (pc1 := 12) (ls1 := [some _, some _, some _]) (st1 := [_, _]) rfl ?_
    refine m_E.ict (by rw [g2]; exact decide_eq_true rfl) rfl ?_
    refine m_E.run 1 (pc1 := 22) (ls1 := [some _, some _, some _]) (st1 := [_]) rfl ?_
    exact m_E.iret rfl ⟨rfl, rfl⟩
theorem r_place_at {S : c_St} {c i : Nat} (hi : i < c_lf S) (h : (c_order S).getD (c_dealt S + i) 0 = c) (hn : ∀ j, j < i → (c_order S).getD (c_dealt S + j) 0 ≠ c) : r_place S c = nI i := by
  obtain ⟨a, b, e, f⟩ := g_ix_ok (c_order S) c (c_lf S) (c_dealt S)
  have e2 : g_ix (c_order S) c (c_lf S) (c_dealt S) = c_dealt S + i := by
    rcases Nat.lt_trichotomy (g_ix (c_order S) c (c_lf S) (c_dealt S)) (c_dealt S + i) with z | z | z
    · have q := hn (g_ix (c_order S) c (c_lf S) (c_dealt S) - c_dealt S) (by omega)
      rw [show c_dealt S + (g_ix (c_order S) c (c_lf S) (c_dealt S) - c_dealt S) = g_ix (c_order S) c (c_lf S) (c_dealt S) by omega] at q
      exact absurd (e (by omega)) q
    · exact z
    · exact absurd h (f _ (by omega) z)
  rw [r_place, e2, if_pos (by omega), Nat.add_sub_cancel_left]
theorem r_place_no {S : c_St} {c : Nat} (hn : ∀ j, j < c_lf S → (c_order S).getD (c_dealt S + j) 0 ≠ c) : r_place S c = -5 := by
  obtain ⟨a, b, e, f⟩ := g_ix_ok (c_order S) c (c_lf S) (c_dealt S)
  rw [r_place, if_neg]
  intro z
  have q := hn (g_ix (c_order S) c (c_lf S) (c_dealt S) - c_dealt S) (by omega)
  rw [show c_dealt S + (g_ix (c_order S) c (c_lf S) (c_dealt S) - c_dealt S) = g_ix (c_order S) c (c_lf S) (c_dealt S) by omega] at q
  exact q (e z)
theorem e_placeOf {d : Nat} {n p c : Nat} {F : Nat → c_Sh} {S : c_St} {x : Int32} {M : c_M} {h : m_Hp} (H : Hmo h M) (E : Enc F S (d_state M)) (t : Tok n p S) (hx : x = nI c) (hc : c < 24) : m_Call m_P (d + 1) 152 [.ref 61, .int x] (h) (some (.int (r_place S c))) (h) := by
  refine m_call_of (tab := tX6_placeOf) (nL := 3) rfl rfl ?_
  subst hx
  have ll : c_lf S ≤ 24 := g_left_le _ _
  refine m_E.run 2 (pc1 := 2) (ls1 := [some _, some _, some _]) (st1 := []) rfl ?_
  refine m_E.up (fun i => (2, [some (.ref 61), some (.int (nI c)), some (.int (nI i))], [], h)) (c_lf S) (fun i => (∀ j, j < i → (c_order S).getD (c_dealt S + j) 0 ≠ c)) (fun i hi hI K => ?_) ?_ (fun hI => ?_)
  · skip
    show m_E _ _ 2 [some (.ref 61), some (.int (nI c)), some (.int (nI i))] [] (h) _
    have lo := t.ord _ (lf_lt t hi).2
    refine m_E.run 2 (pc1 := 4) (ls1 := [some _, some _, some _]) (st1 := [_, _]) rfl ?_
    refine m_E.gf H.o (by decide) rfl rfl ?_
    refine m_E.run 1 (pc1 := 9) (ls1 := [some _, some _, some _]) (st1 := [_, _, _]) rfl ?_
    refine m_E.rs H E.len rfl (by omega) (E.lf) rfl ?_
    refine m_E.icf ((m_leI (by omega) (by omega)).trans (decide_eq_false (by omega))) rfl ?_
    refine m_E.run 1 (pc1 := 14) (ls1 := [some _, some _, some _]) (st1 := [_]) rfl ?_
    refine m_E.gf H.o (by decide) rfl rfl ?_
    refine m_E.run 3 (pc1 := 21) (ls1 := [some _, some _, some _]) (st1 := [_, _]) rfl ?_
    dsimp only
    refine m_E.rs H E.len (nI_add _ _) (by omega) (E.ord hi) rfl ?_
    refine m_E.run 1 (pc1 := 23) (ls1 := [some _, some _, some _]) (st1 := [_, _]) rfl ?_
    by_cases e1 : (c_order S).getD (c_dealt S + i) 0 = c
    · skip
      refine m_E.icf (by rw [e1, m_neI (by omega) (by omega)]; simp) rfl ?_
      refine m_E.run 1 (pc1 := 27) (ls1 := [some _, some _, some _]) (st1 := [_]) rfl ?_
      rw [r_place_at hi e1 hI]
      exact m_E.iret rfl ⟨rfl, rfl⟩
    · skip
      refine m_E.ict (by rw [m_neI (by omega) (by omega)]; exact decide_eq_true e1) rfl ?_
      refine m_E.run 2 (pc1 := 2) (ls1 := [some _, some _, some _]) (st1 := []) rfl ?_
      rw [nI_add]
      refine K (fun j hj => ?_)
      by_cases z : j = i
      · rw [z]; exact e1
      · exact hI j (by omega)
  · skip
    exact fun j hj => absurd hj (Nat.not_lt_zero j)
  · skip
    show m_E _ _ 2 ((fun i => [some (.ref 61), some (.int (nI c)), some (.int (nI i))]) ((c_lf S))) [] ((fun i => h) ((c_lf S))) _
    dsimp only
    refine m_E.run 2 (pc1 := 4) (ls1 := [some _, some _, some _]) (st1 := [_, _]) rfl ?_
    refine m_E.gf H.o (by decide) rfl rfl ?_
    refine m_E.run 1 (pc1 := 9) (ls1 := [some _, some _, some _]) (st1 := [_, _, _]) rfl ?_
    refine m_E.rs H E.len rfl (by omega) (E.lf) rfl ?_
    refine m_E.ict ((m_leI (by omega) (by omega)).trans (decide_eq_true (Nat.le_refl _))) rfl ?_
    refine m_E.run 1 (pc1 := 36) (ls1 := [some _, some _, some _]) (st1 := [_]) rfl ?_
    rw [r_place_no hI]
    exact m_E.iret rfl ⟨rfl, rfl⟩
theorem e_marksOfBacks {d : Nat} {n p : Nat} {F : Nat → c_Sh} {S : c_St} {M : c_M} {h : m_Hp} (H : Hmo h M) (E : Enc F S (d_state M)) (t : Tok n p S) : m_Call m_P (d + 2) 156 [.ref 61] (h) (some (.int (nI (g_tot (fun c => g_pop ((c_backs S).getD c 0)) 24)))) (h) := by
  refine m_call_of (tab := tX6_marksOfBacks) (nL := 3) rfl rfl ?_
  refine m_E.run 4 (pc1 := 4) (ls1 := [some _, some _, some _]) (st1 := []) rfl ?_
  refine m_E.up (fun i => (4, [some (.ref 61), some (.int (nI (g_tot (fun c => g_pop ((c_backs S).getD c 0)) i))), some (.int (nI i))], [], h)) 24 (fun i => True) (fun i hi hI K => ?_) ?_ (fun hI => ?_)
  · skip
    show m_E _ _ 4 [some (.ref 61), some (.int (nI (g_tot (fun c => g_pop ((c_backs S).getD c 0)) i))), some (.int (nI i))] [] (h) _
    refine m_E.run 2 (pc1 := 7) (ls1 := [some _, some _, some _]) (st1 := [_, _]) rfl ?_
    refine m_E.icf ((m_leI (by omega) (by omega)).trans (decide_eq_false (by omega))) rfl ?_
    refine m_E.run 2 (pc1 := 12) (ls1 := [some _, some _, some _]) (st1 := [_, _]) rfl ?_
    refine m_E.gf H.o (by decide) rfl rfl ?_
    refine m_E.run 3 (pc1 := 19) (ls1 := [some _, some _, some _]) (st1 := [_, _, _]) rfl ?_
    dsimp only
    refine m_E.rs H E.len (nI_add _ _) (by omega) (E.back hi) rfl ?_
    refine m_E.cv rfl rfl (e_ones rfl (t.bck i hi)) ?_
    refine m_E.run 4 (pc1 := 4) (ls1 := [some _, some _, some _]) (st1 := []) rfl ?_
    dsimp only
    rw [nI_add, nI_add]
    exact K trivial
  · skip
    trivial
  · skip
    show m_E _ _ 4 ((fun i => [some (.ref 61), some (.int (nI (g_tot (fun c => g_pop ((c_backs S).getD c 0)) i))), some (.int (nI i))]) (24)) [] ((fun i => h) (24)) _
    dsimp only
    refine m_E.run 2 (pc1 := 7) (ls1 := [some _, some _, some _]) (st1 := [_, _]) rfl ?_
    refine m_E.ict (by decide) rfl ?_
    refine m_E.run 1 (pc1 := 32) (ls1 := [some _, some _, some _]) (st1 := [_]) rfl ?_
    exact m_E.iret rfl ⟨rfl, rfl⟩
theorem e_single {d : Nat} {f : Nat → Nat} {M : c_M} {h : m_Hp} (H : Hmo h M) (ok : Okm M) (hf : ∀ k, k < 24 → f k < 16) (hv : ∀ k, k < 24 → (d_seen M).getD k 0 = nI (f k)) : m_Call m_P (d + 1) 160 [.ref 61] (h) (some (.int (nI (g_cnt (fun v => g_cnt (fun c => f c == v) 24 == 1) 16)))) (h) := by
  refine m_call_of (tab := tX6_single) (nL := 5) rfl rfl ?_
  have ls : (d_seen M).length = 24 := ok.2.2.2.2.2.2.2.2.2
  rw [← g_once hf]
  refine m_E.run 4 (pc1 := 4) (ls1 := [some _, some _, some _, none, none]) (st1 := []) rfl ?_
  refine m_E.lp (fun i ls hh => ∃ v3, ∃ v4, ls = [some (.ref 61), some (.int (nI (g_cnt (fun k => g_cnt (fun e => f k == f e) 24 == 1) i))), some (.int (nI i)), v3, v4] ∧ (hh = h)) 24 ?_ ?_ ?_
  · skip
    rintro i _ hh hi ⟨v3, v4, rfl, hI⟩ K
    subst hI
    refine m_E.run 2 (pc1 := 7) (ls1 := [some _, some _, some _, _, _]) (st1 := [_, _]) rfl ?_
    refine m_E.icf ((m_leI (by omega) (by omega)).trans (decide_eq_false (by omega))) rfl ?_
    refine m_E.run 4 (pc1 := 15) (ls1 := [some _, some _, some _, some _, some _]) (st1 := []) rfl ?_
    refine m_E.up (fun j => (15, [some (.ref 61), some (.int (nI (g_cnt (fun k => g_cnt (fun e => f k == f e) 24 == 1) i))), some (.int (nI i)), some (.int (nI (g_cnt (fun e => f i == f e) j))), some (.int (nI j))], [], hh)) 24 (fun j => True) (fun j hi hI K => ?_) ?_ (fun hI => ?_)
    · skip
      show m_E _ _ 15 [some (.ref 61), some (.int (nI (g_cnt (fun k => g_cnt (fun e => f k == f e) 24 == 1) i))), some (.int (nI i)), some (.int (nI (g_cnt (fun e => f i == f e) j))), some (.int (nI j))] [] (hh) _
      have hj : j < 24 := by assumption
      have l1 := hf i (by assumption)
      have l2 := hf j hj
      refine m_E.run 2 (pc1 := 19) (ls1 := [some _, some _, some _, some _, some _]) (st1 := [_, _]) rfl ?_
      refine m_E.icf ((m_leI (by omega) (by omega)).trans (decide_eq_false (by omega))) rfl ?_
      refine m_E.run 2 (pc1 := 24) (ls1 := [some _, some _, some _, some _, some _]) (st1 := [_, _]) rfl ?_
      refine m_E.gf H.o (by decide) rfl rfl ?_
      refine m_E.run 1 (pc1 := 28) (ls1 := [some _, some _, some _, some _, some _]) (st1 := [_, _, _]) rfl ?_
      refine m_E.ild H.2.2.2.2.2.2.2 (j := i) (Or.inl rfl) rfl (by omega) (by omega) rfl ?_
      rw [hv i (by assumption)]
      refine m_E.run 1 (pc1 := 30) (ls1 := [some _, some _, some _, some _, some _]) (st1 := [_, _, _]) rfl ?_
      refine m_E.gf H.o (by decide) rfl rfl ?_
      refine m_E.run 1 (pc1 := 35) (ls1 := [some _, some _, some _, some _, some _]) (st1 := [_, _, _, _]) rfl ?_
      refine m_E.ild H.2.2.2.2.2.2.2 (j := j) (Or.inl rfl) rfl (by omega) (by omega) rfl ?_
      rw [hv j hj]
      by_cases e1 : f i = f j
      · skip
        refine m_E.icf (by rw [e1, m_neI (by omega) (by omega)]; simp) rfl ?_
        refine m_E.run 6 (pc1 := 15) (ls1 := [some _, some _, some _, some _, some _]) (st1 := []) rfl ?_
        dsimp only
        rw [g_c1 (p := fun e => f i == f e) (m_beqE e1), nI_add]
        exact K trivial
      · skip
        refine m_E.ict (by rw [m_neI (by omega) (by omega)]; exact decide_eq_true e1) rfl ?_
        refine m_E.run 5 (pc1 := 15) (ls1 := [some _, some _, some _, some _, some _]) (st1 := []) rfl ?_
        dsimp only
        rw [g_c0 (p := fun e => f i == f e) (m_beqN e1), nI_add]
        exact K trivial
    · skip
      trivial
    · skip
      show m_E _ _ 15 ((fun j => [some (.ref 61), some (.int (nI (g_cnt (fun k => g_cnt (fun e => f k == f e) 24 == 1) i))), some (.int (nI i)), some (.int (nI (g_cnt (fun e => f i == f e) j))), some (.int (nI j))]) (24)) [] ((fun j => hh) (24)) _
      dsimp only
      have lc := g_cnt_le (fun e => f i == f e) 24
      refine m_E.run 2 (pc1 := 19) (ls1 := [some _, some _, some _, some _, some _]) (st1 := [_, _]) rfl ?_
      refine m_E.ict (by decide) rfl ?_
      refine m_E.run 3 (pc1 := 55) (ls1 := [some _, some _, some _, some _, some _]) (st1 := [_, _, _]) rfl ?_
      by_cases e1 : g_cnt (fun e => f i == f e) 24 = 1
      · skip
        refine m_E.icf (by rw [e1]; rfl) rfl ?_
        refine m_E.run 6 (pc1 := 4) (ls1 := [some _, some _, some _, some _, some _]) (st1 := []) rfl ?_
        dsimp only
        rw [g_c1 (p := fun k => g_cnt (fun e => f k == f e) 24 == 1) (m_beqE e1), nI_add]
        exact K _ _ ⟨_, _, rfl, rfl⟩
      · skip
        refine m_E.ict (by rw [m_neI (by omega) (by omega)]; exact decide_eq_true e1) rfl ?_
        refine m_E.run 5 (pc1 := 4) (ls1 := [some _, some _, some _, some _, some _]) (st1 := []) rfl ?_
        dsimp only
        rw [g_c0 (p := fun k => g_cnt (fun e => f k == f e) 24 == 1) (m_beqN e1), nI_add]
        exact K _ _ ⟨_, _, rfl, rfl⟩
  · skip
    exact ⟨none, none, rfl, rfl⟩
  · skip
    rintro _ hh ⟨v3, v4, rfl, hI⟩
    subst hI
    refine m_E.run 2 (pc1 := 7) (ls1 := [some _, some _, some _, _, _]) (st1 := [_, _]) rfl ?_
    refine m_E.ict (by decide) rfl ?_
    refine m_E.run 1 (pc1 := 72) (ls1 := [some _, some _, some _, _, _]) (st1 := [_]) rfl ?_
    exact m_E.iret rfl ⟨rfl, rfl⟩
