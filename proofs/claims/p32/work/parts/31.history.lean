/-! the ring of states -/
def g_upd {α : Type} (R : Nat → α) (i : Nat) (v : α) : Nat → α := fun j => if j = i then v else R j
theorem g_upd_at {α : Type} (R : Nat → α) (i : Nat) (v : α) : g_upd R i v i = v := if_pos rfl
theorem g_upd_off {α : Type} (R : Nat → α) {i j : Nat} (v : α) (h : j ≠ i) : g_upd R i v j = R j := if_neg h
theorem g_slots (q i : Nat) (hi : i < 4) : [some (q + 2), some (q + 10), some (q + 18), some (q + 26)].getD i none = some (q + 2 + 8 * i) := by
  match i, hi with
  | 0, _ => rfl
  | 1, _ => rfl
  | 2, _ => rfl
  | 3, _ => rfl
def Hhi (h : m_Hp) (q next size : Nat) (R : Nat → c_St) : Prop := 3 < q ∧ h[q]? = some (.inr (.inl (0, [.ref (q + 1), .int (nI next), .int (nI size)]))) ∧ h[q + 1]? = some (.inr (.inr (3, [some (q + 2), some (q + 10), some (q + 18), some (q + 26)]))) ∧ (∀ j, j < 4 → Hst h (q + 2 + 8 * j) (R j)) ∧ (∀ j, j < 4 → Oks (R j)) ∧ next < 4 ∧ size ≤ 4
theorem Hhi.off {h h1 : m_Hp} {q next size lo hi : Nat} {R : Nat → c_St} (H : Hhi h q next size R) (hc : Chg lo hi h h1) (hd : q + 34 ≤ lo ∨ hi ≤ q) : Hhi h1 q next size R := by
  obtain ⟨h0, h1, h2, h3, h4, h5, h6⟩ := H
  exact ⟨h0, (hc.2 q (by omega)).trans h1, (hc.2 (q + 1) (by omega)).trans h2, fun j hj => (h3 j hj).off hc (by omega), h4, h5, h6⟩
theorem Hhi.same {h h1 : m_Hp} {q next size : Nat} {R : Nat → c_St} (H : Hhi h q next size R) (hc : ∀ k, k < h.length → h1[k]? = h[k]?) : Hhi h1 q next size R := by
  obtain ⟨h0, h1, h2, h3, h4, h5, h6⟩ := H
  have e : ∀ (k : Nat) (c : m_Cel), h[k]? = some c → _ := fun k c hk => (hc k (List.getElem?_eq_some_iff.mp hk).1).trans hk
  exact ⟨h0, e _ _ h1, e _ _ h2, fun j hj => (h3 j hj).same hc, h4, h5, h6⟩
theorem Hhi.num {h h1 : m_Hp} {q next size next2 size2 : Nat} {R : Nat → c_St} (H : Hhi h q next size R) (u : Upd q (.inr (.inl (0, [.ref (q + 1), .int (nI next2), .int (nI size2)]))) h h1) (hn : next2 < 4) (hs : size2 ≤ 4) : Hhi h1 q next2 size2 R := by
  obtain ⟨h0, h1, h2, h3, h4, h5, h6⟩ := H
  exact ⟨h0, u.2.1, (u.2.2 (q + 1) (by omega)).trans h2, fun j hj => (h3 j hj).off (u.chg (lo := q) (hi := q + 1) (by omega) (by omega)) (by omega), h4, hn, hs⟩
theorem c_copyTo {d : Nat} {b q i next size : Nat} {R : Nat → c_St} {S : c_St} {x : Int32} {h : m_Hp} (H : Hhi h q next size R) (hs : Hst h b S) (ok : Oks S) (hd : b + 8 ≤ q ∨ q + 34 ≤ b) (hpl : ∀ k, some k ∈ c_pile S → (k < q ∨ q + 34 ≤ k) ∧ 3 < k ∧ ∃ fs, h[k]? = some (.inr (.inl (2, fs)))) (hx : x = nI i) (hi : i < 4) : ∃ r h', m_Call m_P (d + 4) 3 [.ref q, .int x, .ref b] (h) r h' ∧ (fun r h2 => r = none ∧ Hhi h2 q next size (g_upd R i S) ∧ Chg q (q + 34) h h2) r h' := by
  refine m_call_ex (tab := tX0_copyTo) (nL := 4) rfl rfl ?_
  subst hx
  obtain ⟨h0, h1, h2, h3, h4, h5, h6⟩ := id H
  refine m_E.run 1 (pc1 := 1) (ls1 := [some _, some _, some _, none]) (st1 := [_]) rfl ?_
  refine m_E.iff (by rw [show (0 : Int32) = nI 0 from rfl, m_ltI (by omega) (by omega), decide_eq_false_iff_not]; omega) rfl ?_
  refine m_E.run 2 (pc1 := 6) (ls1 := [some _, some _, some _, none]) (st1 := [_, _]) rfl ?_
  refine m_E.ict (by rw [m_ltI (by omega) (by omega), decide_eq_true_eq]; omega) rfl ?_
  refine m_E.run 1 (pc1 := 11) (ls1 := [some _, some _, some _, none]) (st1 := [_]) rfl ?_
  refine m_E.gf h1 h0 rfl rfl ?_
  refine m_E.run 1 (pc1 := 15) (ls1 := [some _, some _, some _, none]) (st1 := [_, _]) rfl ?_
  refine m_E.ald h2 (Or.inr rfl) (by omega) rfl hi (by show 4 < 2 ^ 31; decide) rfl ?_
  rw [g_slots q i hi]
  refine m_E.run 2 (pc1 := 18) (ls1 := [some _, some _, some _, some _]) (st1 := [_]) rfl ?_
  refine m_E.run 1 (pc1 := 21) (ls1 := [some _, some _, some _, some _]) (st1 := []) rfl ?_
  refine m_E.run 2 (pc1 := 23) (ls1 := [some _, some _, some _, some _]) (st1 := [_, _]) rfl ?_
  obtain ⟨_, h7, p1, rfl, p2, p3, p4⟩ := c_copyFrom (d := d) (h3 i hi) hs (by omega) (h4 i hi) ok (fun k hk => ⟨by have := (hpl k hk).1; omega, (hpl k hk).2⟩)
  refine m_E.on (h3 i hi).2.1 (by omega) rfl rfl rfl (p1) ?_
  exact m_E.vret rfl ⟨rfl, ⟨h0, (p4.2 _ (by omega)).trans h1, (p4.2 _ (by omega)).trans h2, fun j hj => if e : j = i then by rw [e, g_upd_at]; exact p2 else by rw [g_upd_off _ _ e]; exact (h3 j hj).off p4 (by omega), fun j hj => if e : j = i then by rw [e, g_upd_at]; exact ok else by rw [g_upd_off _ _ e]; exact h4 j hj, h5, h6⟩, p4.wide (by omega) (by omega)⟩
theorem c_record {d : Nat} {b q next size : Nat} {R : Nat → c_St} {S : c_St} {h : m_Hp} (H : Hhi h q next size R) (hs : Hst h b S) (ok : Oks S) (hd : b + 8 ≤ q ∨ q + 34 ≤ b) (hpl : ∀ k, some k ∈ c_pile S → (k < q ∨ q + 34 ≤ k) ∧ 3 < k ∧ ∃ fs, h[k]? = some (.inr (.inl (2, fs)))) : ∃ r h', m_Call m_P (d + 5) 1 [.ref q, .ref b] (h) r h' ∧ (fun r h2 => r = none ∧ Hhi h2 q ((next + 1) % 4) (min (size + 1) 4) (g_upd R next S) ∧ Chg q (q + 34) h h2) r h' := by
  refine m_call_ex (tab := tX0_record) (nL := 2) rfl rfl ?_
  obtain ⟨_, h1, p1, rfl, H1, c1⟩ := c_copyTo (d := d) H hs ok hd hpl rfl H.2.2.2.2.2.1
  have hq : 3 < q := H.1
  have hn := H.2.2.2.2.2.1
  have hz := H.2.2.2.2.2.2
  refine m_E.run 2 (pc1 := 2) (ls1 := [some _, some _]) (st1 := [_, _]) rfl ?_
  refine m_E.gf H.2.1 hq rfl rfl ?_
  refine m_E.run 1 (pc1 := 6) (ls1 := [some _, some _]) (st1 := [_, _, _]) rfl ?_
  refine m_E.on H.2.1 hq rfl rfl rfl (p1) ?_
  refine m_E.run 2 (pc1 := 11) (ls1 := [some _, some _]) (st1 := [_, _]) rfl ?_
  refine m_E.gf H1.2.1 hq rfl rfl ?_
  refine m_E.run 3 (pc1 := 17) (ls1 := [some _, some _]) (st1 := [_, _, _]) rfl ?_
  dsimp only
  change m_E _ _ _ _ (.int (nI 4) :: .int (nI next + nI 1) :: _) _ _
  refine m_E.div (by decide) rfl ?_
  rw [nI_add, m_rem (by omega) 4 (by decide) (by decide)]
  refine m_E.pg H1.2.1 hq rfl (Nat.le_of_ble_eq_true rfl) rfl (fun h2 u2 => ?_)
  have H2 := H1.num (next2 := (next + 1) % 4) (size2 := size) u2 (Nat.mod_lt _ (by decide)) hz
  refine m_E.run 2 (pc1 := 23) (ls1 := [some _, some _]) (st1 := [_, _]) rfl ?_
  refine m_E.gf H2.2.1 hq rfl rfl ?_
  refine m_E.run 4 (pc1 := 32) (ls1 := [some _, some _]) (st1 := [_, _]) rfl ?_
  dsimp only
  change m_E _ _ _ _ (.int (if nI 4 < nI size + nI 1 then nI 4 else nI size + nI 1) :: _) _ _
  rw [nI_add, m_minI (by omega) (by omega)]
  refine m_E.pg H2.2.1 hq rfl (Nat.le_of_ble_eq_true rfl) rfl (fun h3 u3 => ?_)
  have H3 := H2.num (next2 := (next + 1) % 4) (size2 := min (size + 1) 4) u3 (Nat.mod_lt _ (by decide)) (by omega)
  exact m_E.vret rfl ⟨rfl, H3, c1.tr ((u2.chg (by omega) (by omega)).tr (u3.chg (by omega) (by omega)))⟩
theorem c_takeLatest {d : Nat} {b q next size : Nat} {R : Nat → c_St} {S : c_St} {h : m_Hp} (H : Hhi h q next size R) (hs : Hst h b S) (ok : Oks S) (hd : b + 8 ≤ q ∨ q + 34 ≤ b) (hz : 0 < size) (hpl : ∀ k, some k ∈ c_pile (R ((next + 3) % 4)) → (k < b ∨ b + 8 ≤ k) ∧ k ≠ q ∧ 3 < k ∧ ∃ fs, h[k]? = some (.inr (.inl (2, fs)))) : ∃ r h', m_Call m_P (d + 4) 2 [.ref q, .ref b] (h) r h' ∧ (fun r h2 => r = none ∧ Hhi h2 q ((next + 3) % 4) (size - 1) R ∧ Hst h2 b (R ((next + 3) % 4)) ∧ h2.length = h.length ∧ (∀ k, k ≠ q → (k < b ∨ b + 8 ≤ k) → h2[k]? = h[k]?)) r h' := by
  refine m_call_ex (tab := tX0_takeLatestInto) (nL := 2) rfl rfl ?_
  have hq : 3 < q := H.1
  have hn := H.2.2.2.2.2.1
  have hz2 := H.2.2.2.2.2.2
  have hm : (next + 3) % 4 < 4 := Nat.mod_lt _ (by decide)
  refine m_E.run 1 (pc1 := 1) (ls1 := [some _, some _]) (st1 := [_]) rfl ?_
  refine m_E.gf H.2.1 hq rfl rfl ?_
  refine m_E.ift (by rw [m_beq0 (by omega), Bool.not_eq_true', decide_eq_false_iff_not]; omega) rfl ?_
  refine m_E.run 2 (pc1 := 10) (ls1 := [some _, some _]) (st1 := [_, _]) rfl ?_
  refine m_E.gf H.2.1 hq rfl rfl ?_
  refine m_E.run 5 (pc1 := 18) (ls1 := [some _, some _]) (st1 := [_, _, _]) rfl ?_
  dsimp only
  change m_E _ _ _ _ (.int (nI 4) :: .int (nI next + nI 4 - nI 1) :: _) _ _
  refine m_E.div (by decide) rfl ?_
  rw [nI_add, pk_sub (by omega), m_rem (by omega) 4 (by decide) (by decide), show next + 4 - 1 = next + 3 from rfl]
  refine m_E.pg H.2.1 hq rfl (Nat.le_of_ble_eq_true rfl) rfl (fun h1 u1 => ?_)
  have H1 := H.num (next2 := (next + 3) % 4) (size2 := size) u1 hm hz2
  have e1 := u1.chg (lo := q) (hi := q + 1) (by omega) (by omega)
  refine m_E.run 2 (pc1 := 24) (ls1 := [some _, some _]) (st1 := [_, _]) rfl ?_
  refine m_E.gf H1.2.1 hq rfl rfl ?_
  refine m_E.run 2 (pc1 := 29) (ls1 := [some _, some _]) (st1 := [_, _]) rfl ?_
  dsimp only
  change m_E _ _ _ _ (.int (nI size - nI 1) :: _) _ _
  rw [pk_sub (by omega)]
  refine m_E.pg H1.2.1 hq rfl (Nat.le_of_ble_eq_true rfl) rfl (fun h2 u2 => ?_)
  have H2 := H1.num (next2 := (next + 3) % 4) (size2 := size - 1) u2 hm (by omega)
  replace e1 := e1.tr (u2.chg (lo := q) (hi := q + 1) (by omega) (by omega))
  have g2 := hs.off e1 (by omega)
  refine m_E.run 1 (pc1 := 33) (ls1 := [some _, some _]) (st1 := [_]) rfl ?_
  refine m_E.gf H2.2.1 hq rfl rfl ?_
  refine m_E.iff (by rw [show (0 : Int32) = nI 0 from rfl, m_ltI (by omega) (by omega), decide_eq_false_iff_not]; omega) rfl ?_
  refine m_E.run 1 (pc1 := 40) (ls1 := [some _, some _]) (st1 := [_]) rfl ?_
  refine m_E.gf H2.2.1 hq rfl rfl ?_
  refine m_E.run 1 (pc1 := 44) (ls1 := [some _, some _]) (st1 := [_, _]) rfl ?_
  refine m_E.icf (by rw [m_leI (by omega) (by omega), decide_eq_false_iff_not]; omega) rfl ?_
  refine m_E.run 2 (pc1 := 49) (ls1 := [some _, some _]) (st1 := [_, _]) rfl ?_
  refine m_E.gf H2.2.1 hq rfl rfl ?_
  refine m_E.run 1 (pc1 := 53) (ls1 := [some _, some _]) (st1 := [_, _, _]) rfl ?_
  refine m_E.gf H2.2.1 hq rfl rfl ?_
  refine m_E.ald H2.2.2.1 (Or.inr rfl) (by omega) rfl hm (by show 4 < 2 ^ 31; decide) rfl ?_
  rw [g_slots q _ hm]
  obtain ⟨_, h7, p1, rfl, p2, p3, p4⟩ := c_copyFrom (d := d) g2 (H2.2.2.2.1 _ hm) (by omega) ok (H2.2.2.2.2.1 _ hm) (fun k hk => ⟨(hpl k hk).1, (hpl k hk).2.2.1, by obtain ⟨fs, z⟩ := (hpl k hk).2.2.2; exact ⟨fs, (e1.2 k (by have := (hpl k hk).2.1; omega)).trans z⟩⟩)
  refine m_E.on g2.2.1 g2.1 rfl rfl rfl (p1) ?_
  exact m_E.vret rfl ⟨rfl, H2.off p4 (by omega), p2, p4.1.trans e1.1, fun k h3 h4 => (p4.2 k h4).trans (e1.2 k (by omega))⟩
