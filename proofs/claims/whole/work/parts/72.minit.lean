/-! the model's object, new -/
theorem m_E.ap {C : m_CR} {tab : m_Tab} {pc : Nat} {ls : m_Ls} {st : List Value} {h : m_Hp} {Q : Option Value → m_Hp → Prop} {k j n : Nat} {fs : List Value} (hl : h.length = n) (h61 : 61 < n) (ho : h[61]? = some (.inr (.inl (6, fs)))) (hj : j ≤ 100000) (hk : k < fs.length) (e0 : m_at tab pc = some (m_nar 0)) (e1 : m_at tab (pc + 2) = some (m_put 6 k 1)) (kk : ∀ h2, h2.length = n + 1 → h2[61]? = some (.inr (.inl (6, fs.set k (.ref n)))) → h2[n]? = some (.inl (0, List.replicate j 0)) → (∀ q, q < n → q ≠ 61 → h2[q]? = h[q]?) → m_E C tab (pc + 5) ls st h2 Q) : m_E C tab pc ls (.int (nI j) :: .ref 61 :: st) h Q := by
  refine m_E.nar rfl hj e0 (fun h1 w1 => ?_)
  rw [hl]
  refine m_E.pg (fs := fs) ((w1.2.2 61 (by omega)).trans ho) (by decide) rfl hk e1 (fun h2 u2 => ?_)
  refine kk h2 (u2.1.trans (w1.1.trans (by rw [hl]))) u2.2.1 ((u2.2.2 n (by omega)).trans (by rw [← hl]; exact w1.2.1)) (fun q hq hq2 => (u2.2.2 q hq2).trans (w1.2.2 q (by omega)))
def d_new : m_Cel := .inr (.inl (6, [.null, .null, .null, .int 0, .null, .int 0, .null, .int 0, .int 0, .int 0, .int 0, .int 0, .null, .null]))
def d_M0 (row : List Int32) : c_M := d_mk row (List.replicate 611 0) (List.replicate 2444 0) 0 (List.replicate 611 0) false (List.replicate 60 0) 0 0 0 0 0 (List.replicate 24 0) (List.replicate 24 0)
/-- the first row of the model -/
def d_row0 (i : Nat) : Int32 := if i = 0 then nI 10 else if i = 1 then nI 3 else if i = 2 then nI 4 else if i = 3 then nI 12 else if 11 ≤ i ∧ i < 35 then nI (i - 11) else 0
theorem g_rep0 (n i : Nat) : (List.replicate n (0 : Int32)).getD i 0 = 0 := by
  rw [List.getD_eq_getElem?_getD, List.getElem?_replicate]
  split <;> rfl
theorem d_row0_eq (i : Nat) : (if 11 ≤ i ∧ i < 11 + 24 then nI (i - 11) else if i = 3 then nI 12 else if i = 2 then nI 4 else if i = 1 then nI 3 else if i = 0 then nI 10 else 0) = d_row0 i := by
  by_cases a : i = 0
  · subst a; rfl
  · by_cases b : i = 1
    · subst b; rfl
    · by_cases c : i = 2
      · subst c; rfl
      · by_cases e : i = 3
        · subst e; rfl
        · by_cases f : 11 ≤ i ∧ i < 35
          · rw [d_row0, if_pos (by omega), if_neg a, if_neg b, if_neg c, if_neg e, if_pos f]
          · rw [d_row0, if_neg (by omega), if_neg e, if_neg c, if_neg b, if_neg a, if_neg a, if_neg b, if_neg c, if_neg e, if_neg f]
theorem e_init {d : Nat} {P : m_Hp} (hP : P.length = 61) : ∃ r h', m_Call m_P (d + 1) 95 [.ref 61] (P ++ [d_new]) r h' ∧ (fun r h2 => r = none ∧ ∃ row, Hmo h2 (d_M0 row) ∧ row.length = 611 ∧ (∀ i, i < 611 → row.getD i 0 = d_row0 i) ∧ h2.length = 69 ∧ ∀ k, k < 61 → h2[k]? = P[k]?) r h' := by
  refine m_call_ex (tab := tX6_init) (nL := 2) rfl rfl ?_
  have l0 : (P ++ [d_new]).length = 62 := by rw [List.length_append, hP]; rfl
  have o0 : (P ++ [d_new])[61]? = some d_new := by rw [List.getElem?_append_right (by omega), hP]; rfl
  have q0 : ∀ k, k < 61 → (P ++ [d_new])[k]? = P[k]? := fun k hk => List.getElem?_append_left (by omega)
  generalize P ++ [d_new] = h0 at l0 o0 q0
  refine m_E.run 4 (pc1 := 8) (ls1 := [some _, none]) (st1 := [_, _]) rfl ?_
  refine m_E.ap (k := 0) l0 (by decide) o0 (by decide) (Nat.le_of_ble_eq_true rfl) rfl rfl (fun h1 l1 o1 n1 q1 => ?_)
  refine m_E.run 2 (pc1 := 17) (ls1 := [some _, none]) (st1 := [_, _]) rfl ?_
  refine m_E.ap (k := 1) l1 (by decide) o1 (by decide) (Nat.le_of_ble_eq_true rfl) rfl rfl (fun h2 l2 o2 n2 q2 => ?_)
  refine m_E.run 2 (pc1 := 26) (ls1 := [some _, none]) (st1 := [_, _]) rfl ?_
  refine m_E.ap (k := 2) l2 (by decide) o2 (by decide) (Nat.le_of_ble_eq_true rfl) rfl rfl (fun h3 l3 o3 n3 q3 => ?_)
  refine m_E.run 2 (pc1 := 35) (ls1 := [some _, none]) (st1 := [_, _]) rfl ?_
  refine m_E.ap (k := 4) l3 (by decide) o3 (by decide) (Nat.le_of_ble_eq_true rfl) rfl rfl (fun h4 l4 o4 n4 q4 => ?_)
  refine m_E.run 2 (pc1 := 43) (ls1 := [some _, none]) (st1 := [_, _]) rfl ?_
  refine m_E.ap (k := 6) l4 (by decide) o4 (by decide) (Nat.le_of_ble_eq_true rfl) rfl rfl (fun h5 l5 o5 n5 q5 => ?_)
  refine m_E.run 2 (pc1 := 51) (ls1 := [some _, none]) (st1 := [_, _]) rfl ?_
  refine m_E.ap (k := 12) l5 (by decide) o5 (by decide) (Nat.le_of_ble_eq_true rfl) rfl rfl (fun h6 l6 o6 n6 q6 => ?_)
  refine m_E.run 2 (pc1 := 59) (ls1 := [some _, none]) (st1 := [_, _]) rfl ?_
  refine m_E.ap (k := 13) l6 (by decide) o6 (by decide) (Nat.le_of_ble_eq_true rfl) rfl rfl (fun h7 l7 o7 n7 q7 => ?_)
  have H : Hmo h7 (d_M0 (List.replicate 611 0)) := ⟨o7, (q7 62 (by decide) (by decide)).trans ((q6 62 (by decide) (by decide)).trans ((q5 62 (by decide) (by decide)).trans ((q4 62 (by decide) (by decide)).trans ((q3 62 (by decide) (by decide)).trans ((q2 62 (by decide) (by decide)).trans n1))))), (q7 63 (by decide) (by decide)).trans ((q6 63 (by decide) (by decide)).trans ((q5 63 (by decide) (by decide)).trans ((q4 63 (by decide) (by decide)).trans ((q3 63 (by decide) (by decide)).trans n2)))), (q7 64 (by decide) (by decide)).trans ((q6 64 (by decide) (by decide)).trans ((q5 64 (by decide) (by decide)).trans ((q4 64 (by decide) (by decide)).trans n3))), (q7 65 (by decide) (by decide)).trans ((q6 65 (by decide) (by decide)).trans ((q5 65 (by decide) (by decide)).trans n4)), (q7 66 (by decide) (by decide)).trans ((q6 66 (by decide) (by decide)).trans (by rw [n5, g_zeros]; rfl)), (q7 67 (by decide) (by decide)).trans n6, n7⟩
  have qP : ∀ k, k < 61 → h7[k]? = P[k]? := fun k hk => (q7 k (by omega) (by omega)).trans ((q6 k (by omega) (by omega)).trans ((q5 k (by omega) (by omega)).trans ((q4 k (by omega) (by omega)).trans ((q3 k (by omega) (by omega)).trans ((q2 k (by omega) (by omega)).trans ((q1 k (by omega) (by omega)).trans (q0 k hk)))))))
  have r0 : (List.replicate 611 (0 : Int32)).length = 611 := List.length_replicate
  have z0 : ∀ i, (List.replicate 611 (0 : Int32)).getD i 0 = 0 := fun i => g_rep0 611 i
  generalize List.replicate 611 (0 : Int32) = row0 at H r0 z0
  refine m_E.run 1 (pc1 := 65) (ls1 := [some _, none]) (st1 := [_]) rfl ?_
  refine m_E.gf H.o (by decide) rfl rfl ?_
  refine m_E.run 2 (pc1 := 71) (ls1 := [some _, none]) (st1 := [_, _, _]) rfl ?_
  refine m_E.ws H r0 rfl (by omega) rfl (fun h8 H8 c8 => ?_)
  change Hmo h8 (d_M0 (row0.set 0 (nI 10))) at H8
  have r1 : (row0.set 0 (nI 10)).length = 611 := (List.length_set ..).trans r0
  refine m_E.run 1 (pc1 := 73) (ls1 := [some _, none]) (st1 := [_]) rfl ?_
  refine m_E.gf H8.o (by decide) rfl rfl ?_
  refine m_E.run 2 (pc1 := 78) (ls1 := [some _, none]) (st1 := [_, _, _]) rfl ?_
  refine m_E.ws H8 r1 rfl (by omega) rfl (fun h9 H9 c9 => ?_)
  change Hmo h9 (d_M0 ((row0.set 0 (nI 10)).set 1 (nI 3))) at H9
  have r2 : ((row0.set 0 (nI 10)).set 1 (nI 3)).length = 611 := (List.length_set ..).trans r1
  refine m_E.run 1 (pc1 := 80) (ls1 := [some _, none]) (st1 := [_]) rfl ?_
  refine m_E.gf H9.o (by decide) rfl rfl ?_
  refine m_E.run 2 (pc1 := 85) (ls1 := [some _, none]) (st1 := [_, _, _]) rfl ?_
  refine m_E.ws H9 r2 rfl (by omega) rfl (fun h10 H10 c10 => ?_)
  change Hmo h10 (d_M0 (((row0.set 0 (nI 10)).set 1 (nI 3)).set 2 (nI 4))) at H10
  have r3 : (((row0.set 0 (nI 10)).set 1 (nI 3)).set 2 (nI 4)).length = 611 := (List.length_set ..).trans r2
  refine m_E.run 1 (pc1 := 87) (ls1 := [some _, none]) (st1 := [_]) rfl ?_
  refine m_E.gf H10.o (by decide) rfl rfl ?_
  refine m_E.run 2 (pc1 := 93) (ls1 := [some _, none]) (st1 := [_, _, _]) rfl ?_
  refine m_E.ws H10 r3 rfl (by omega) rfl (fun h11 H11 c11 => ?_)
  change Hmo h11 (d_M0 ((((row0.set 0 (nI 10)).set 1 (nI 3)).set 2 (nI 4)).set 3 (nI 12))) at H11
  have r4 : ((((row0.set 0 (nI 10)).set 1 (nI 3)).set 2 (nI 4)).set 3 (nI 12)).length = 611 := (List.length_set ..).trans r3
  have v4 : ∀ i, ((((row0.set 0 (nI 10)).set 1 (nI 3)).set 2 (nI 4)).set 3 (nI 12)).getD i 0 = if i = 3 then nI 12 else if i = 2 then nI 4 else if i = 1 then nI 3 else if i = 0 then nI 10 else 0 := fun i => by rw [g_sd (by omega), g_sd (by omega), g_sd (by omega), g_sd (by omega), z0]
  have c4 := c8.tr (c9.tr (c10.tr c11))
  generalize (((row0.set 0 (nI 10)).set 1 (nI 3)).set 2 (nI 4)).set 3 (nI 12) = row4 at H11 r4 v4
  refine m_E.run 2 (pc1 := 96) (ls1 := [some _, some _]) (st1 := []) rfl ?_
  refine m_E.lp (fun i ls hh => ∃ row, ls = [some (.ref 61), some (.int (nI i))] ∧ (Hmo hh (d_M0 row) ∧ row.length = 611 ∧ (∀ k, row.getD k 0 = if 11 ≤ k ∧ k < 11 + i then nI (k - 11) else row4.getD k 0) ∧ Chg 61 69 h7 hh)) 24 ?_ ?_ ?_
  · skip
    rintro i _ hh hi ⟨row, rfl, hI⟩ K
    obtain ⟨Hi, li, vi, ci⟩ := hI
    refine m_E.run 2 (pc1 := 99) (ls1 := [some _, some _]) (st1 := [_, _]) rfl ?_
    refine m_E.icf ((m_leI (by omega) (by omega)).trans (decide_eq_false (by omega))) rfl ?_
    refine m_E.run 1 (pc1 := 103) (ls1 := [some _, some _]) (st1 := [_]) rfl ?_
    refine m_E.gf Hi.o (by decide) rfl rfl ?_
    refine m_E.run 4 (pc1 := 111) (ls1 := [some _, some _]) (st1 := [_, _, _]) rfl ?_
    dsimp only
    refine m_E.ws Hi li (nI_add _ _) (by omega) rfl (fun h12 H12 c12 => ?_)
    refine m_E.run 2 (pc1 := 96) (ls1 := [some _, some _]) (st1 := []) rfl ?_
    rw [nI_add]
    refine K _ _ ⟨row.set (11 + i) (nI i), rfl, H12, (List.length_set ..).trans li, fun k => ?_, ci.tr c12⟩
    rw [g_sd (by omega)]
    by_cases e : k = 11 + i
    · rw [if_pos e, if_pos (by omega), e, Nat.add_sub_cancel_left]
    · rw [if_neg e, vi k]
      by_cases e2 : 11 ≤ k ∧ k < 11 + i
      · rw [if_pos e2, if_pos (by omega)]
      · rw [if_neg e2, if_neg (by omega)]
  · skip
    exact ⟨row4, rfl, H11, r4, fun k => by rw [if_neg (by omega)], c4⟩
  · skip
    rintro _ hh ⟨row, rfl, hI⟩
    obtain ⟨Hi, li, vi, ci⟩ := hI
    refine m_E.run 2 (pc1 := 99) (ls1 := [some _, some _]) (st1 := [_, _]) rfl ?_
    refine m_E.ict (by decide) rfl ?_
    exact m_E.vret rfl ⟨rfl, row, Hi, li, fun i hi => by rw [vi, v4]; exact d_row0_eq i, ci.1.trans l7, fun k hk => (ci.2 k (by omega)).trans (qP k hk)⟩
