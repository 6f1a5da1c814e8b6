/-! the model prints -/
theorem g_behind_at {cards backs : List Nat} {tu : Bool} (hi : ∀ a b, a < 24 → b < 24 → cards.getD a 0 = cards.getD b 0 → a = b) (hc : ∀ k, k < 24 → cards.getD k 0 < 24) : ∀ n, n ≤ 24 → ∀ k, k < n → (g_behind cards backs tu n).getD (cards.getD k 0) 0 = backs.getD (if tu then 23 - k else k) 0
  | 0, _, k, hk => absurd hk (Nat.not_lt_zero k)
  | n + 1, hn, k, hk => by
    rw [g_behind, g_sdN (by rw [g_behind_len]; exact hc n (by omega))]
    by_cases e : k = n
    · rw [if_pos (by rw [e]), e]
    · rw [if_neg (fun z => e (hi k n (by omega) (by omega) z))]
      exact g_behind_at hi hc n (by omega) k (by omega)
/-- the state when a sheet was printed, before the wear -/
def g_prn (S : c_St) (k : Nat) : c_St := c_setPrinted (c_setPiled (c_setPile S ((c_pile S).set (c_piled S) (some k))) (c_piled S + 1)) (c_printed S + 1)
theorem Tok.prn {n p : Nat} {S : c_St} (t : Tok n p S) (hp : c_piled S < 6) (h2 : p + 1 < 2 ^ 30) : Tok (n + 1) (p + 1) (g_prn S (69 + 4 * n)) := by
  obtain ⟨⟨k1, k2, k3, k4, k5, k6, k7, k8, k9, k10, k11, k12, k13⟩, l2, ⟨r1, r2, r3⟩, l4, l5, l6, l7⟩ := t
  refine ⟨⟨k1, k2, k3, k4, k5, k6, k7, (List.length_set ..).trans k8, k9, k10, k11, show c_piled S + 1 ≤ 6 by omega, show c_printed S + 1 < 2 ^ 30 by omega⟩, show c_printed S + 1 ≤ p + 1 by omega, ⟨fun j hj => ?_, fun j hj => ?_, fun j hj => ?_⟩, l4, l5, l6, l7⟩
  · rcases List.mem_or_eq_of_mem_set (show some j ∈ (c_pile S).set (c_piled S) (some (69 + 4 * n)) from hj) with z | z
    · obtain ⟨i, hi, e⟩ := r1 j z
      exact ⟨i, by omega, e⟩
    · exact ⟨n, by omega, Option.some.inj z⟩
  · have hj2 : j < c_piled S + 1 := hj
    by_cases e : j = c_piled S
    · refine ⟨n, by omega, ?_⟩
      show ((c_pile S).set (c_piled S) (some (69 + 4 * n))).getD j none = _
      rw [e, List.getD_eq_getElem?_getD, List.getElem?_set_self (by omega)]; rfl
    · obtain ⟨i, hi, e2⟩ := r2 j (by omega)
      refine ⟨i, by omega, ?_⟩
      show ((c_pile S).set (c_piled S) (some (69 + 4 * n))).getD j none = _
      rw [List.getD_eq_getElem?_getD, List.getElem?_set_ne (Ne.symm e), ← List.getD_eq_getElem?_getD]; exact e2
  · obtain ⟨i, hi, e⟩ := r3 j hj
    exact ⟨i, by omega, e⟩
theorem g_sheet_1 (S : c_St) (tu : Bool) : (g_sheet S tu).1 = c_cards S := rfl
theorem g_sheet_2 (S : c_St) (tu : Bool) : (g_sheet S tu).2.1 = g_behind (c_cards S) (c_backs S) tu 24 := by unfold g_sheet; dsimp only
theorem g_sheet_3 (S : c_St) (tu : Bool) : (g_sheet S tu).2.2 = c_leans S := rfl
theorem Enc.prn {n p : Nat} {tu : Bool} {F : Nat → c_Sh} {S : c_St} {r r2 : List Int32} (E : Enc F S r) (t : Tok n p S) (hp : c_piled S < 6) (hF : g_sh F (69 + 4 * n) = g_sheet S tu) (hl : r2.length = 611) (ho : ∀ k, k < 4 ∨ (6 ≤ k ∧ k < 179 + 72 * c_piled S) ∨ 251 + 72 * c_piled S ≤ k → r2.getD k 0 = r.getD k 0) (h4 : r2.getD 4 0 = nI (c_printed S + 1)) (h5 : r2.getD 5 0 = nI (c_piled S + 1))
    (v1 : ∀ k, k < 24 → r2.getD (179 + 72 * c_piled S + k) 0 = r.getD (11 + k) 0) (v2 : ∀ k, k < 24 → r2.getD (203 + 72 * c_piled S + k) 0 = r.getD (35 + k) 0) (v3 : ∀ k, k < 24 → r2.getD (227 + 72 * c_piled S + k) 0 = r.getD (59 + (if tu then 23 - k else k)) 0) : Enc F (g_prn S (69 + 4 * n)) r2 := by
  have E0 := E
  obtain ⟨_, eb, ⟨n1, n2, n3, n4, n5⟩, ep, el⟩ := E.to
  have lp := t.1.2.2.2.2.2.2.2.1
  refine Enc.of hl (eb.same fun i hi => ho i (by omega)) ⟨h4, h5, (ho _ (by omega)).trans n3, (ho _ (by omega)).trans n4, (ho _ (by omega)).trans n5⟩ (EncP.same (S := S) ep t fun i hi => ho i (by omega)) (fun j hj s hs k hk => ?_)
  have hj2 : j < c_piled S + 1 := hj
  have hs2 : ((c_pile S).set (c_piled S) (some (69 + 4 * n))).getD j none = some s := hs
  by_cases e : j = c_piled S
  · rw [e, List.getD_eq_getElem?_getD, List.getElem?_set_self (by omega)] at hs2
    have es : 69 + 4 * n = s := Option.some.inj hs2
    subst es
    subst e
    rw [hF, v1 k hk, v2 k hk, v3 k hk, E0.card hk, E0.lean hk, E0.back (show (if tu = true then 23 - k else k) < 24 by split <;> omega)]
    rw [g_sheet_1, g_sheet_2, g_sheet_3]
    refine ⟨rfl, rfl, ?_⟩
    rw [g_behind_at (fun a b ha hb z => g_perm_inj t.2.2.2.1 t.crd ha hb z) t.crd 24 (Nat.le_refl _) k hk]
  · rw [List.getD_eq_getElem?_getD, List.getElem?_set_ne (Ne.symm e), ← List.getD_eq_getElem?_getD] at hs2
    have z := el j (by omega) s hs2 k hk
    exact ⟨(ho _ (by omega)).trans z.1, (ho _ (by omega)).trans z.2.1, (ho _ (by omega)).trans z.2.2⟩
theorem e_printFull {d : Nat} {n p : Nat} {x : Int32} {F : Nat → c_Sh} {W : c_W} {M : c_M} {h : m_Hp} (H : Hmo h M) (ok : Okm M) (R : Rl F W M) (t : Tok n p (w_now W)) (hf : ¬ c_piled (w_now W) < 6) : ∃ r h', m_Call m_P (d + 3) 119 [.ref 61, .int x] (h) r h' ∧ (Opm F (w_res W none) h (-3)) r h' := by
  refine m_call_ex (tab := tX6_print) (nL := 3) rfl rfl ?_
  have lp := t.1.2.2.2.2.2.2.2.2.2.2.2.1
  refine m_E.run 1 (pc1 := 1) (ls1 := [some _, some _, none]) (st1 := [_]) rfl ?_
  refine m_E.gf H.o (by decide) rfl rfl ?_
  refine m_E.run 1 (pc1 := 5) (ls1 := [some _, some _, none]) (st1 := [_, _]) rfl ?_
  refine m_E.rs H ok.1 rfl (by omega) (R.1.pil) rfl ?_
  refine m_E.run 1 (pc1 := 8) (ls1 := [some _, some _, none]) (st1 := [_, _]) rfl ?_
  refine m_E.icf (by rw [show c_piled (w_now W) = 6 by omega]; decide) rfl ?_
  refine m_E.run 1 (pc1 := 13) (ls1 := [some _, some _, none]) (st1 := [_]) rfl ?_
  exact m_E.iret rfl (Opm.same H ok R)
theorem e_print {d : Nat} {n p : Nat} {tu : Bool} {x : Int32} {F : Nat → c_Sh} {W : c_W} {M : c_M} {h : m_Hp} (H : Hmo h M) (ok : Okm M) (R0 : Rl F W M) (okw : Okw n p W) (hf : c_piled (w_now W) < 6) (hp : p + 1 < 2 ^ 30) (hx : x = m_bI tu) : ∃ r h', m_Call m_P (d + 3) 119 [.ref 61, .int x] (h) r h' ∧ (Opm (g_upd F n (g_sheet (w_now W) tu)) (w_S (w_rec W) (g_printed (w_now W) (69 + 4 * n))) h (nI (c_piled (w_now W) + 1))) r h' := by
  refine m_call_ex (tab := tX6_print) (nL := 3) rfl rfl ?_
  subst hx
  have t := okw.1
  have R := R0.grow (s := g_sheet (w_now W) tu) okw
  have hF : g_sh (g_upd F n (g_sheet (w_now W) tu)) (69 + 4 * n) = g_sheet (w_now W) tu := g_sh_new
  generalize g_upd F n (g_sheet (w_now W) tu) = F2 at R hF ⊢
  have lpr := t.1.2.2.2.2.2.2.2.2.2.2.2.2
  refine m_E.run 1 (pc1 := 1) (ls1 := [some _, some _, none]) (st1 := [_]) rfl ?_
  refine m_E.gf H.o (by decide) rfl rfl ?_
  refine m_E.run 1 (pc1 := 5) (ls1 := [some _, some _, none]) (st1 := [_, _]) rfl ?_
  refine m_E.rs H ok.1 rfl (by omega) (R.1.pil) rfl ?_
  refine m_E.run 1 (pc1 := 8) (ls1 := [some _, some _, none]) (st1 := [_, _]) rfl ?_
  refine m_E.ict (by rw [m_neI (by omega) (by omega)]; exact decide_eq_true (by omega)) rfl ?_
  refine m_E.run 1 (pc1 := 15) (ls1 := [some _, some _, none]) (st1 := [_]) rfl ?_
  obtain ⟨h1, M1, p1, H1, ok1, R1, c1⟩ := e_rec2 (d := d) H ok R
  have E1 : Enc F2 (w_now W) (d_state M1) := R1.1
  refine m_E.on H.o (by decide) rfl rfl rfl (p1) ?_
  refine m_E.run 1 (pc1 := 19) (ls1 := [some _, some _, none]) (st1 := [_]) rfl ?_
  refine m_E.gf H1.o (by decide) rfl rfl ?_
  refine m_E.run 2 (pc1 := 24) (ls1 := [some _, some _, none]) (st1 := [_, _, _, _]) rfl ?_
  refine m_E.rs H1 ok1.1 rfl (by omega) (E1.pil) rfl ?_
  refine m_E.run 2 (pc1 := 27) (ls1 := [some _, some _, none]) (st1 := [_, _, _]) rfl ?_
  dsimp only
  rw [nI_add]
  refine m_E.ws H1 ok1.1 rfl (by omega) rfl (fun h2 H2 c2 => ?_)
  have l2 : ((d_state M1).set 5 (nI (c_piled (w_now W) + 1))).length = 611 := (List.length_set ..).trans ok1.1
  have s2 : ((d_state M1).set 5 (nI (c_piled (w_now W) + 1))).getD 5 0 = nI (c_piled (w_now W) + 1) := (g_sd (by rw [ok1.1]; omega)).trans (if_pos rfl)
  have o2 : ∀ k, k ≠ 5 → ((d_state M1).set 5 (nI (c_piled (w_now W) + 1))).getD k 0 = (d_state M1).getD k 0 := fun k hk => g_so hk
  generalize hr : (d_state M1).set 5 (nI (c_piled (w_now W) + 1)) = r2 at H2 l2 s2 o2
  refine m_E.run 2 (pc1 := 30) (ls1 := [some _, some _, some _]) (st1 := []) rfl ?_
  refine m_E.lp (fun i ls hh => ∃ r, ls = [some (.ref 61), some (.int (m_bI tu)), some (.int (nI i))] ∧ (Hmo hh (d_set_state M1 r) ∧ r.length = 611 ∧ (∀ k, k < 179 + 72 * c_piled (w_now W) ∨ 251 + 72 * c_piled (w_now W) ≤ k → r.getD k 0 = r2.getD k 0) ∧ (∀ k, k < i → r.getD (179 + 72 * c_piled (w_now W) + k) 0 = r2.getD (11 + k) 0) ∧ (∀ k, k < i → r.getD (203 + 72 * c_piled (w_now W) + k) 0 = r2.getD (35 + k) 0) ∧ (∀ k, k < i → r.getD (227 + 72 * c_piled (w_now W) + k) 0 = r2.getD (59 + (if tu then 23 - k else k)) 0) ∧ Chg 61 69 h hh)) 24 ?_ ?_ ?_
  · skip
    rintro i _ hh hi ⟨r, rfl, hI⟩ K
    obtain ⟨Hi, li, oi, w1, w2, w3, ci⟩ := hI
    generalize hP : c_piled (w_now W) = P at *
    have lt : (if tu = true then 23 - i else i) < 24 := by split <;> omega
    have r5 : r.getD 5 0 = nI (P + 1) := (oi 5 (by omega)).trans s2
    refine m_E.run 2 (pc1 := 33) (ls1 := [some _, some _, some _]) (st1 := [_, _]) rfl ?_
    refine m_E.icf ((m_leI (by omega) (by omega)).trans (decide_eq_false (by omega))) rfl ?_
    refine m_E.run 1 (pc1 := 37) (ls1 := [some _, some _, some _]) (st1 := [_]) rfl ?_
    refine m_E.gf Hi.o (by decide) rfl rfl ?_
    refine m_E.run 1 (pc1 := 41) (ls1 := [some _, some _, some _]) (st1 := [_, _]) rfl ?_
    refine m_E.ov Hi.o (by decide) rfl rfl rfl (e_top Hi li r5) ?_
    refine m_E.run 3 (pc1 := 47) (ls1 := [some _, some _, some _]) (st1 := [_, _, _]) rfl ?_
    dsimp only
    refine m_E.gf Hi.o (by decide) rfl rfl ?_
    refine m_E.run 3 (pc1 := 54) (ls1 := [some _, some _, some _]) (st1 := [_, _, _, _]) rfl ?_
    dsimp only
    rw [nI_add]
    rw [nI_add]
    refine m_E.rs Hi li rfl (by omega) (oi (11 + i) (by omega)) rfl ?_
    refine m_E.ws Hi li rfl (by omega) rfl (fun h3 H3 c3 => ?_)
    have l3 : (r.set (179 + 72 * P + i) (r2.getD (11 + i) 0)).length = 611 := (List.length_set ..).trans li
    have o3 : ∀ k, k ≠ 179 + 72 * P + i → (r.set (179 + 72 * P + i) (r2.getD (11 + i) 0)).getD k 0 = r.getD k 0 := fun k hk => g_so hk
    have s3 : (r.set (179 + 72 * P + i) (r2.getD (11 + i) 0)).getD (179 + 72 * P + i) 0 = r2.getD (11 + i) 0 := (g_sd (by omega)).trans (if_pos rfl)
    change Hmo h3 (d_set_state M1 (r.set (179 + 72 * P + i) (r2.getD (11 + i) 0))) at H3
    generalize r.set (179 + 72 * P + i) (r2.getD (11 + i) 0) = ra at H3 l3 o3 s3
    refine m_E.run 1 (pc1 := 57) (ls1 := [some _, some _, some _]) (st1 := [_]) rfl ?_
    refine m_E.gf H3.o (by decide) rfl rfl ?_
    refine m_E.run 1 (pc1 := 61) (ls1 := [some _, some _, some _]) (st1 := [_, _]) rfl ?_
    refine m_E.ov H3.o (by decide) rfl rfl rfl (e_top H3 l3 ((o3 5 (by omega)).trans r5)) ?_
    refine m_E.run 5 (pc1 := 70) (ls1 := [some _, some _, some _]) (st1 := [_, _, _]) rfl ?_
    dsimp only
    refine m_E.gf H3.o (by decide) rfl rfl ?_
    refine m_E.run 3 (pc1 := 77) (ls1 := [some _, some _, some _]) (st1 := [_, _, _, _]) rfl ?_
    dsimp only
    rw [nI_add]
    rw [nI_add]
    rw [nI_add]
    refine m_E.rs H3 l3 rfl (by omega) (((o3 (35 + i) (by omega)).trans (oi (35 + i) (by omega)))) rfl ?_
    refine m_E.ws H3 l3 rfl (by omega) rfl (fun h4 H4 c4 => ?_)
    have l4 : (ra.set (179 + 72 * P + 24 + i) (r2.getD (35 + i) 0)).length = 611 := (List.length_set ..).trans l3
    have o4 : ∀ k, k ≠ 203 + 72 * P + i → (ra.set (179 + 72 * P + 24 + i) (r2.getD (35 + i) 0)).getD k 0 = ra.getD k 0 := fun k hk => g_so (by omega)
    have s4 : (ra.set (179 + 72 * P + 24 + i) (r2.getD (35 + i) 0)).getD (203 + 72 * P + i) 0 = r2.getD (35 + i) 0 := (g_sd (by omega)).trans (if_pos (by omega))
    change Hmo h4 (d_set_state M1 (ra.set (179 + 72 * P + 24 + i) (r2.getD (35 + i) 0))) at H4
    generalize ra.set (179 + 72 * P + 24 + i) (r2.getD (35 + i) 0) = rb at H4 l4 o4 s4
    refine m_E.run 1 (pc1 := 80) (ls1 := [some _, some _, some _]) (st1 := [_]) rfl ?_
    refine m_E.gf H4.o (by decide) rfl rfl ?_
    refine m_E.run 1 (pc1 := 84) (ls1 := [some _, some _, some _]) (st1 := [_, _]) rfl ?_
    refine m_E.ov H4.o (by decide) rfl rfl rfl (e_top H4 l4 ((o4 5 (by omega)).trans ((o3 5 (by omega)).trans r5))) ?_
    refine m_E.run 7 (pc1 := 95) (ls1 := [some _, some _, some _]) (st1 := [_, _, _, _, _]) rfl ?_
    dsimp only
    rw [nI_add]
    rw [nI_add]
    refine m_E.ov H4.o (by decide) rfl rfl rfl (e_backOf (tu := tu) H4 l4 rfl hi rfl) ?_
    rw [show (d_state (d_set_state M1 rb)).getD (59 + (if tu = true then 23 - i else i)) 0 = r2.getD (59 + (if tu = true then 23 - i else i)) 0 from (o4 _ (by omega)).trans ((o3 _ (by omega)).trans (oi _ (by omega)))]
    refine m_E.ws H4 l4 rfl (by omega) rfl (fun h5 H5 c5 => ?_)
    have l5 : (rb.set (179 + 72 * P + 48 + i) (r2.getD (59 + (if tu = true then 23 - i else i)) 0)).length = 611 := (List.length_set ..).trans l4
    have o5 : ∀ k, k ≠ 227 + 72 * P + i → (rb.set (179 + 72 * P + 48 + i) (r2.getD (59 + (if tu = true then 23 - i else i)) 0)).getD k 0 = rb.getD k 0 := fun k hk => g_so (by omega)
    have s5 : (rb.set (179 + 72 * P + 48 + i) (r2.getD (59 + (if tu = true then 23 - i else i)) 0)).getD (227 + 72 * P + i) 0 = r2.getD (59 + (if tu = true then 23 - i else i)) 0 := (g_sd (by omega)).trans (if_pos (by omega))
    change Hmo h5 (d_set_state M1 (rb.set (179 + 72 * P + 48 + i) (r2.getD (59 + (if tu = true then 23 - i else i)) 0))) at H5
    generalize rb.set (179 + 72 * P + 48 + i) (r2.getD (59 + (if tu = true then 23 - i else i)) 0) = rc at H5 l5 o5 s5
    refine m_E.run 2 (pc1 := 30) (ls1 := [some _, some _, some _]) (st1 := []) rfl ?_
    rw [nI_add]
    refine K _ _ ⟨rc, rfl, H5, l5, fun k hk => ?_, fun k hk => ?_, fun k hk => ?_, fun k hk => ?_, ci.tr (c3.tr (c4.tr c5))⟩
    · rw [o5 _ (by omega), o4 _ (by omega), o3 _ (by omega)]; exact oi k hk
    · by_cases e : k = i
      · rw [e, o5 _ (by omega), o4 _ (by omega)]; exact s3
      · rw [o5 _ (by omega), o4 _ (by omega), o3 _ (by omega)]; exact w1 k (by omega)
    · by_cases e : k = i
      · rw [e, o5 _ (by omega)]; exact s4
      · rw [o5 _ (by omega), o4 _ (by omega), o3 _ (by omega)]; exact w2 k (by omega)
    · by_cases e : k = i
      · rw [e]; exact s5
      · rw [o5 _ (by omega), o4 _ (by omega), o3 _ (by omega)]; exact w3 k (by omega)
  · skip
    exact ⟨r2, rfl, H2, l2, fun _ _ => rfl, fun q hq => absurd hq (Nat.not_lt_zero q), fun q hq => absurd hq (Nat.not_lt_zero q), fun q hq => absurd hq (Nat.not_lt_zero q), c1.tr c2⟩
  · skip
    rintro _ hh ⟨r, rfl, hI⟩
    obtain ⟨Hi, li, oi, w1, w2, w3, ci⟩ := hI
    refine m_E.run 2 (pc1 := 33) (ls1 := [some _, some _, some _]) (st1 := [_, _]) rfl ?_
    refine m_E.ict (by decide) rfl ?_
    refine m_E.run 1 (pc1 := 106) (ls1 := [some _, some _, some _]) (st1 := [_]) rfl ?_
    refine m_E.gf Hi.o (by decide) rfl rfl ?_
    refine m_E.run 2 (pc1 := 111) (ls1 := [some _, some _, some _]) (st1 := [_, _, _, _]) rfl ?_
    refine m_E.rs Hi li rfl (by omega) ((oi 4 (by omega)).trans ((o2 4 (by omega)).trans E1.prt)) rfl ?_
    refine m_E.run 2 (pc1 := 114) (ls1 := [some _, some _, some _]) (st1 := [_, _, _]) rfl ?_
    dsimp only
    rw [nI_add]
    refine m_E.ws Hi li rfl (by omega) rfl (fun h3 H3 c3 => ?_)
    have l3 : (r.set 4 (nI (c_printed (w_now W) + 1))).length = 611 := (List.length_set ..).trans li
    have o3 : ∀ k, k ≠ 4 → (r.set 4 (nI (c_printed (w_now W) + 1))).getD k 0 = r.getD k 0 := fun k hk => g_so hk
    have s3 : (r.set 4 (nI (c_printed (w_now W) + 1))).getD 4 0 = nI (c_printed (w_now W) + 1) := (g_sd (by omega)).trans (if_pos rfl)
    change Hmo h3 (d_set_state M1 (r.set 4 (nI (c_printed (w_now W) + 1)))) at H3
    generalize r.set 4 (nI (c_printed (w_now W) + 1)) = r3 at H3 l3 o3 s3
    have E3 : Enc F2 (g_prn (w_now W) (69 + 4 * n)) r3 := Enc.prn (p := p) (tu := tu) E1 t hf hF l3 (fun k hk => by rw [o3 k (by omega), oi k (by omega), o2 k (by omega)]) s3 ((o3 5 (by omega)).trans ((oi 5 (by omega)).trans s2)) (fun k hk => by rw [o3 _ (by omega), w1 k hk, o2 _ (by omega)]) (fun k hk => by rw [o3 _ (by omega), w2 k hk, o2 _ (by omega)]) (fun k hk => by rw [o3 _ (by omega), w3 k hk, o2 _ (by split <;> omega)])
    have t3 := t.prn hf hp
    have ls0 : (c_settings (w_now W)).getD 0 0 < 100 := g_getD_lt t.1.2.2.2.2.2.2.1 (by rw [t.1.2.2.2.2.2.1]; decide)
    have ls1 : 1 ≤ (c_settings (w_now W)).getD 0 0 := t.2.2.2.2.2.2
    have es0 : r3.getD 0 0 = nI ((c_settings (w_now W)).getD 0 0) := E3.set (k := 0) (by decide)
    have epc : c_piled (g_printed (w_now W) (69 + 4 * n)) = c_piled (w_now W) + 1 := Hst.piled
    have ew : g_printed (w_now W) (69 + 4 * n) = if (c_printed (w_now W) + 1) % (c_settings (w_now W)).getD 0 0 = 0 then c_mark (g_prn (w_now W) (69 + 4 * n)) ((c_printed (w_now W) + 1) % 24) ((c_printed (w_now W) + 1) / (c_settings (w_now W)).getD 0 0 % 4) true else g_prn (w_now W) (69 + 4 * n) := by
      show g_wear (g_prn (w_now W) (69 + 4 * n)) = _
      rw [g_wear]
      by_cases z : (c_printed (w_now W) + 1) % (c_settings (w_now W)).getD 0 0 = 0
      · rw [if_pos z, if_pos ⟨ls1, z⟩]; rfl
      · rw [if_neg z, if_neg (fun z2 => z z2.2)]
    generalize (c_settings (w_now W)).getD 0 0 = s0 at ls0 ls1 es0 ew
    have fin : ∀ h5 r5 c, Hmo h5 (d_set_state M1 r5) → Enc F2 (g_printed (w_now W) (69 + 4 * n)) r5 → Chg 61 69 h h5 → m_E (m_Call m_P (d + 2)) tX6_print 152 [some (.ref 61), some (.int (m_bI tu)), some (.int c)] [] h5 (Opm F2 (w_S (w_rec W) (g_printed (w_now W) (69 + 4 * n))) h (nI (c_piled (w_now W) + 1))) := by
      intro h5 r5 c H5 E5 c5
      have l5 := E5.len
      refine m_E.run 1 (pc1 := 153) (ls1 := [some _, some _, some _]) (st1 := [_]) rfl ?_
      refine m_E.gf H5.o (by decide) rfl rfl ?_
      refine m_E.run 1 (pc1 := 157) (ls1 := [some _, some _, some _]) (st1 := [_, _]) rfl ?_
      refine m_E.rs H5 l5 rfl (by omega) (E5.pil.trans (by rw [epc])) rfl ?_
      exact m_E.iret rfl ⟨rfl, _, H5, ok1.state l5, R1.setS E5, c5⟩
    refine m_E.run 1 (pc1 := 116) (ls1 := [some _, some _, some _]) (st1 := [_]) rfl ?_
    refine m_E.gf H3.o (by decide) rfl rfl ?_
    refine m_E.run 1 (pc1 := 120) (ls1 := [some _, some _, some _]) (st1 := [_, _]) rfl ?_
    refine m_E.rs H3 l3 rfl (by omega) (s3) rfl ?_
    refine m_E.run 3 (pc1 := 124) (ls1 := [some _, some _, some _]) (st1 := [_, _]) rfl ?_
    refine m_E.gf H3.o (by decide) rfl rfl ?_
    refine m_E.run 1 (pc1 := 128) (ls1 := [some _, some _, some _]) (st1 := [_, _, _]) rfl ?_
    refine m_E.rs H3 l3 rfl (by omega) (es0) rfl ?_
    refine m_E.div (m_ne0 (by omega) (by omega)) rfl ?_
    rw [m_rem (by omega) _ (by omega) (by omega)]
    have lrem : (c_printed (w_now W) + 1) % s0 < 100 := Nat.lt_of_lt_of_le (Nat.mod_lt _ (by omega)) (by omega)
    by_cases z : (c_printed (w_now W) + 1) % s0 = 0
    · skip
      rw [if_pos z] at ew
      refine m_E.iff (by rw [z]; decide) rfl ?_
      refine m_E.run 3 (pc1 := 137) (ls1 := [some _, some _, some _]) (st1 := [_, _, _]) rfl ?_
      refine m_E.div (by decide) rfl ?_
      rw [m_rem (by omega) 24 (by decide) (by decide)]
      refine m_E.run 2 (pc1 := 140) (ls1 := [some _, some _, some _]) (st1 := [_, _, _, _]) rfl ?_
      refine m_E.gf H3.o (by decide) rfl rfl ?_
      refine m_E.run 1 (pc1 := 144) (ls1 := [some _, some _, some _]) (st1 := [_, _, _, _, _]) rfl ?_
      refine m_E.rs H3 l3 rfl (by omega) (es0) rfl ?_
      refine m_E.div (m_ne0 (by omega) (by omega)) rfl ?_
      rw [pk_div (by omega) (by omega) (by omega)]
      have ld : (c_printed (w_now W) + 1) / s0 ≤ c_printed (w_now W) + 1 := Nat.div_le_self _ _
      refine m_E.run 1 (pc1 := 147) (ls1 := [some _, some _, some _]) (st1 := [_, _, _, _]) rfl ?_
      refine m_E.div (by decide) rfl ?_
      rw [m_rem (by omega) 4 (by decide) (by decide)]
      refine m_E.run 1 (pc1 := 149) (ls1 := [some _, some _, some _]) (st1 := [_, _, _, _]) rfl ?_
      have li2 : (c_printed (w_now W) + 1) % 24 < 24 := Nat.mod_lt _ (by decide)
      obtain ⟨_, h4, p4, rfl, H4, c4⟩ := e_setMark (d := d + 1) (is := true) H3 l3 (rfl : nI ((c_printed (w_now W) + 1) % 24) = nI ((c_printed (w_now W) + 1) % 24)) li2 (rfl : nI ((c_printed (w_now W) + 1) / s0 % 4) = nI ((c_printed (w_now W) + 1) / s0 % 4)) (Nat.mod_lt _ (by decide)) rfl (E3.back li2) (t3.bck _ li2)
      refine m_E.on H3.o (by decide) rfl rfl rfl (p4) ?_
      exact fin h4 _ _ H4 (by rw [ew]; exact E3.mark t3 li2) (ci.tr (c3.tr c4))
    · skip
      rw [if_neg z] at ew
      refine m_E.ift (by rw [m_beq0 (by omega), decide_eq_false z]; rfl) rfl ?_
      exact fin h3 _ _ H3 (by rw [ew]; exact E3) (ci.tr c3)
