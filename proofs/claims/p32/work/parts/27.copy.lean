/-! copying a state into another one's cells; the history -/
theorem m_E.he {C : m_CR} {tab : m_Tab} {pc : Nat} {ls : m_Ls} {st : List Value} {h h2 : m_Hp} {Q : Option Value → m_Hp → Prop} (e : h = h2) (k : m_E C tab pc ls st h2 Q) : m_E C tab pc ls st h Q := by rw [e]; exact k
theorem m_set_self {α : Type} {h : List α} {k : Nat} {c : α} (hk : h[k]? = some c) : h.set k c = h := by
  apply List.ext_getElem?
  intro i
  by_cases e : i = k
  · subst e; rw [List.getElem?_set_self (List.getElem?_eq_some_iff.mp hk).1, hk]
  · rw [List.getElem?_set_ne (Ne.symm e)]
theorem m_mix {α : Type} {P Q : List α} {i : Nat} {d : α} (hp : i < P.length) (hq : P.length = Q.length) : (P.take i ++ Q.drop i).set i (P.getD i d) = P.take (i + 1) ++ Q.drop (i + 1) := by
  have hl : (P.take i).length = i := by rw [List.length_take]; omega
  have e1 : Q.drop i = Q[i]'(by omega) :: Q.drop (i + 1) := List.drop_eq_getElem_cons (by omega)
  have e2 : P.take (i + 1) = P.take i ++ [P[i]] := by rw [List.take_add_one, List.getElem?_eq_getElem hp]; rfl
  have e3 : P.getD i d = P[i] := by rw [List.getD_eq_getElem?_getD, List.getElem?_eq_getElem hp]; rfl
  rw [e2, e3, List.set_append_right _ _ (by omega), hl, Nat.sub_self, e1, List.set_cons_zero, List.append_assoc]; rfl
section
variable {C : m_CR} {tab : m_Tab} {pc : Nat} {ls : m_Ls} {st : List Value} {h : m_Hp} {Q : Option Value → m_Hp → Prop} {b ci ty : Nat} {S : c_St}
theorem m_E.mv {P : m_Hp → Prop} (p : P h) (k : ∀ h2, P h2 → m_E C tab pc ls st h2 Q) : m_E C tab pc ls st h Q := k h p
def c_setPiled (S : c_St) (v : Nat) : c_St := c_setNum S v (c_printed S) (c_sold S) (c_pulped S) (c_coins S)
def c_setPrinted (S : c_St) (v : Nat) : c_St := c_setNum S (c_piled S) v (c_sold S) (c_pulped S) (c_coins S)
def c_setSold (S : c_St) (v : Int32) : c_St := c_setNum S (c_piled S) (c_printed S) v (c_pulped S) (c_coins S)
def c_setPulped (S : c_St) (v : Int32) : c_St := c_setNum S (c_piled S) (c_printed S) (c_sold S) v (c_coins S)
def c_setCoins (S : c_St) (v : Int32) : c_St := c_setNum S (c_piled S) (c_printed S) (c_sold S) (c_pulped S) v
def c_setFr (S : c_St) (v : Option Nat) : c_St := c_setPk S v (c_dealt S)
def c_setDealt (S : c_St) (v : Nat) : c_St := c_setPk S (c_fr S) v
theorem Hst.p6 {v : Nat} (hs : Hst h b S) (hf : m_fit ty (.int (nI v)) = true) (e1 : m_at tab pc = some (m_put 3 6 ty)) (kk : ∀ h1, Hst h1 b (c_setPiled S v) → Chg b (b + 8) h h1 → m_E C tab (pc + 3) ls st h1 Q) : m_E C tab pc ls (.int (nI v) :: .ref b :: st) h Q :=
  m_E.put hs.2.1 hs.1 hf (Nat.le_of_ble_eq_true rfl) e1 (kk _ (hs.s0 v _ _ _ _) (Chg.set (by omega) (by omega)))
theorem Hst.p7 {v : Nat} (hs : Hst h b S) (hf : m_fit ty (.int (nI v)) = true) (e1 : m_at tab pc = some (m_put 3 7 ty)) (kk : ∀ h1, Hst h1 b (c_setPrinted S v) → Chg b (b + 8) h h1 → m_E C tab (pc + 3) ls st h1 Q) : m_E C tab pc ls (.int (nI v) :: .ref b :: st) h Q :=
  m_E.put hs.2.1 hs.1 hf (Nat.le_of_ble_eq_true rfl) e1 (kk _ (hs.s0 _ v _ _ _) (Chg.set (by omega) (by omega)))
theorem Hst.p8 {v : Int32} (hs : Hst h b S) (hf : m_fit ty (.int v) = true) (e1 : m_at tab pc = some (m_put 3 8 ty)) (kk : ∀ h1, Hst h1 b (c_setSold S v) → Chg b (b + 8) h h1 → m_E C tab (pc + 3) ls st h1 Q) : m_E C tab pc ls (.int v :: .ref b :: st) h Q :=
  m_E.put hs.2.1 hs.1 hf (Nat.le_of_ble_eq_true rfl) e1 (kk _ (hs.s0 _ _ v _ _) (Chg.set (by omega) (by omega)))
theorem Hst.p9 {v : Int32} (hs : Hst h b S) (hf : m_fit ty (.int v) = true) (e1 : m_at tab pc = some (m_put 3 9 ty)) (kk : ∀ h1, Hst h1 b (c_setPulped S v) → Chg b (b + 8) h h1 → m_E C tab (pc + 3) ls st h1 Q) : m_E C tab pc ls (.int v :: .ref b :: st) h Q :=
  m_E.put hs.2.1 hs.1 hf (Nat.le_of_ble_eq_true rfl) e1 (kk _ (hs.s0 _ _ _ v _) (Chg.set (by omega) (by omega)))
theorem Hst.p10 {v : Int32} (hs : Hst h b S) (hf : m_fit ty (.int v) = true) (e1 : m_at tab pc = some (m_put 3 10 ty)) (kk : ∀ h1, Hst h1 b (c_setCoins S v) → Chg b (b + 8) h h1 → m_E C tab (pc + 3) ls st h1 Q) : m_E C tab pc ls (.int v :: .ref b :: st) h Q :=
  m_E.put hs.2.1 hs.1 hf (Nat.le_of_ble_eq_true rfl) e1 (kk _ (hs.s0 _ _ _ _ v) (Chg.set (by omega) (by omega)))
theorem Hst.pf {v : Option Nat} (hs : Hst h b S) (hf : m_fit ty (m_rf v) = true) (e1 : m_at tab pc = some (m_put 1 1 ty)) (kk : ∀ h1, Hst h1 b (c_setFr S v) → Chg b (b + 8) h h1 → m_E C tab (pc + 3) ls st h1 Q) : m_E C tab pc ls (m_rf v :: .ref (b + 6) :: st) h Q :=
  m_E.put hs.2.2.2.2.2.2.2.1 (by have := hs.1; omega) hf (Nat.le_of_ble_eq_true rfl) e1 (kk _ (hs.s6 v _) (Chg.set (by omega) (by omega)))
theorem Hst.pd {v : Nat} (hs : Hst h b S) (hf : m_fit ty (.int (nI v)) = true) (e1 : m_at tab pc = some (m_put 1 2 ty)) (kk : ∀ h1, Hst h1 b (c_setDealt S v) → Chg b (b + 8) h h1 → m_E C tab (pc + 3) ls st h1 Q) : m_E C tab pc ls (.int (nI v) :: .ref (b + 6) :: st) h Q :=
  m_E.put hs.2.2.2.2.2.2.2.1 (by have := hs.1; omega) hf (Nat.le_of_ble_eq_true rfl) e1 (kk _ (hs.s6 _ v) (Chg.set (by omega) (by omega)))
end
section
variable {a0 : List Nat} {a1 : List Int32} {a2 a3 : List Nat} {a4 : List (Option Nat)} {a5 : List Nat} {a6 : Option Nat} {a7 a8 a9 : Nat} {a10 a11 a12 : Int32}
theorem cp_cards : c_cards (c_mk a0 a1 a2 a3 a4 a5 a6 a7 a8 a9 a10 a11 a12) = a0 := rfl
theorem cp_leans : c_leans (c_mk a0 a1 a2 a3 a4 a5 a6 a7 a8 a9 a10 a11 a12) = a1 := rfl
theorem cp_backs : c_backs (c_mk a0 a1 a2 a3 a4 a5 a6 a7 a8 a9 a10 a11 a12) = a2 := rfl
theorem cp_settings : c_settings (c_mk a0 a1 a2 a3 a4 a5 a6 a7 a8 a9 a10 a11 a12) = a3 := rfl
theorem cp_pile : c_pile (c_mk a0 a1 a2 a3 a4 a5 a6 a7 a8 a9 a10 a11 a12) = a4 := rfl
theorem cp_order : c_order (c_mk a0 a1 a2 a3 a4 a5 a6 a7 a8 a9 a10 a11 a12) = a5 := rfl
theorem cp_fr : c_fr (c_mk a0 a1 a2 a3 a4 a5 a6 a7 a8 a9 a10 a11 a12) = a6 := rfl
theorem cp_dealt : c_dealt (c_mk a0 a1 a2 a3 a4 a5 a6 a7 a8 a9 a10 a11 a12) = a7 := rfl
theorem cp_piled : c_piled (c_mk a0 a1 a2 a3 a4 a5 a6 a7 a8 a9 a10 a11 a12) = a8 := rfl
theorem cp_printed : c_printed (c_mk a0 a1 a2 a3 a4 a5 a6 a7 a8 a9 a10 a11 a12) = a9 := rfl
theorem cp_sold : c_sold (c_mk a0 a1 a2 a3 a4 a5 a6 a7 a8 a9 a10 a11 a12) = a10 := rfl
theorem cp_pulped : c_pulped (c_mk a0 a1 a2 a3 a4 a5 a6 a7 a8 a9 a10 a11 a12) = a11 := rfl
theorem cp_coins : c_coins (c_mk a0 a1 a2 a3 a4 a5 a6 a7 a8 a9 a10 a11 a12) = a12 := rfl
end
theorem c_eta (S : c_St) : c_mk (c_cards S) (c_leans S) (c_backs S) (c_settings S) (c_pile S) (c_order S) (c_fr S) (c_dealt S) (c_piled S) (c_printed S) (c_sold S) (c_pulped S) (c_coins S) = S := rfl
theorem Hst.eq {h : m_Hp} {b : Nat} {S T : c_St} (hs : Hst h b S) (e : S = T) : Hst h b T := e ▸ hs
theorem c_pkCopy {d : Nat} {b c : Nat} {S S2 : c_St} {h : m_Hp} (hs : Hst h b S) (ht : Hst h c S2) (hd : b + 8 ≤ c ∨ c + 8 ≤ b) (ok : Oks S) (ok2 : Oks S2) : ∃ r h', m_Call m_P (d + 2) 5 [.ref (b + 6), .ref (c + 6)] (h) r h' ∧ (fun r h2 => r = none ∧ Hst h2 b (c_setDealt (c_setFr (c_setOrder S (c_order S2)) (c_fr S2)) (c_dealt S2)) ∧ Hst h2 c S2 ∧ Chg b (b + 8) h h2) r h' := by
  refine m_call_ex (tab := tX1_copyFrom) (nL := 2) rfl rfl ?_
  have k9 := ok.2.2.2.2.2.2.2.2.1
  have l9 := ok2.2.2.2.2.2.2.2.2.1
  have hb : 3 < b := hs.1
  have hc : 3 < c := ht.1
  refine m_E.run 1 (pc1 := 1) (ls1 := [some _, some _]) (st1 := [_]) rfl ?_
  refine m_E.gf ht.2.2.2.2.2.2.2.1 (by omega) rfl rfl ?_
  refine m_E.run 1 (pc1 := 5) (ls1 := [some _, some _]) (st1 := [_, _]) rfl ?_
  refine m_E.gf hs.2.2.2.2.2.2.2.1 (by omega) rfl rfl ?_
  refine m_E.cn rfl rfl (c_copyRow ht.2.2.2.2.2.2.2.2 hs.2.2.2.2.2.2.2.2 (by omega) (by rw [List.length_map, List.length_map]; omega) (by rw [List.length_map]; omega)) ?_
  have g1 := hs.s7 (c_order S2)
  have c1 : Chg b (b + 8) h (h.set (b + 7) (.inl (0, (c_order S2).map nI))) := Chg.set (by omega) (by omega)
  have g2 := ht.off c1 (by omega)
  generalize h.set (b + 7) (.inl (0, (c_order S2).map nI)) = h1 at g1 g2 c1 ⊢
  refine m_E.run 2 (pc1 := 13) (ls1 := [some _, some _]) (st1 := [_, _]) rfl ?_
  refine m_E.gf g2.2.2.2.2.2.2.2.1 (by omega) rfl rfl ?_
  refine g1.pf (v := c_fr S2) (by cases c_fr S2 <;> rfl) rfl (fun h2 g3 c2 => ?_)
  have g4 := g2.off c2 (by omega)
  have c3 := c1.tr c2
  refine m_E.run 2 (pc1 := 21) (ls1 := [some _, some _]) (st1 := [_, _]) rfl ?_
  refine m_E.gf g4.2.2.2.2.2.2.2.1 (by omega) rfl rfl ?_
  refine g3.pd (v := c_dealt S2) rfl rfl (fun h3 g5 c4 => ?_)
  exact m_E.vret rfl ⟨rfl, g5, g4.off c4 (by omega), c3.tr c4⟩
theorem c_copyFrom {d : Nat} {b c : Nat} {S S2 : c_St} {h : m_Hp} (hs : Hst h b S) (ht : Hst h c S2) (hd : b + 8 ≤ c ∨ c + 8 ≤ b) (ok : Oks S) (ok2 : Oks S2) (hpl : ∀ k, some k ∈ c_pile S2 → (k < b ∨ b + 8 ≤ k) ∧ 3 < k ∧ ∃ fs, h[k]? = some (.inr (.inl (2, fs)))) : ∃ r h', m_Call m_P (d + 3) 26 [.ref b, .ref c] (h) r h' ∧ (fun r h2 => r = none ∧ Hst h2 b S2 ∧ Hst h2 c S2 ∧ Chg b (b + 8) h h2) r h' := by
  refine m_call_ex (tab := tX3_copyFrom) (nL := 3) rfl rfl ?_
  obtain ⟨k1, k2, k3, k4, k5, k6, k7, k8, k9, k10, k11, k12, k13⟩ := id ok
  obtain ⟨l1, l2, l3, l4, l5, l6, l7, l8, l9, l10, l11, l12, l13⟩ := id ok2
  have hb : 3 < b := hs.1
  have hc : 3 < c := ht.1
  have hpl2 := hpl
  refine m_E.run 1 (pc1 := 1) (ls1 := [some _, some _, none]) (st1 := [_]) rfl ?_
  refine m_E.run 1 (pc1 := 5) (ls1 := [some _, some _, none]) (st1 := []) rfl ?_
  refine m_E.run 1 (pc1 := 6) (ls1 := [some _, some _, none]) (st1 := [_]) rfl ?_
  refine m_E.gf ht.2.1 hc rfl rfl ?_
  refine m_E.run 1 (pc1 := 10) (ls1 := [some _, some _, none]) (st1 := [_, _]) rfl ?_
  refine m_E.gf hs.2.1 hb rfl rfl ?_
  refine m_E.cn rfl rfl (c_copyRow ht.2.2.1 hs.2.2.1 (by omega) (by rw [List.length_map, List.length_map]; omega) (by rw [List.length_map]; omega)) ?_
  have g1 := hs.s1 (c_cards S2)
  have c1 : Chg b (b + 8) h (h.set (b + 1) (.inl (0, (c_cards S2).map nI))) := Chg.set (by omega) (by omega)
  have g2 := ht.off c1 (by omega)
  generalize h.set (b + 1) (.inl (0, (c_cards S2).map nI)) = h1 at g1 g2 c1 ⊢
  refine m_E.run 1 (pc1 := 17) (ls1 := [some _, some _, none]) (st1 := [_]) rfl ?_
  refine m_E.gf g2.2.1 hc rfl rfl ?_
  refine m_E.run 1 (pc1 := 21) (ls1 := [some _, some _, none]) (st1 := [_, _]) rfl ?_
  refine m_E.gf g1.2.1 hb rfl rfl ?_
  refine m_E.cn rfl rfl (c_copyRow g2.2.2.2.1 g1.2.2.2.1 (by omega) (l3.trans k3.symm) (by omega)) ?_
  have g3 := g1.s2 (c_leans S2)
  have c2 : Chg b (b + 8) h1 (h1.set (b + 2) (.inl (0, c_leans S2))) := Chg.set (by omega) (by omega)
  have g4 := g2.off c2 (by omega)
  replace c1 := c1.tr c2
  generalize h1.set (b + 2) (.inl (0, c_leans S2)) = h2 at g3 g4 c1 ⊢
  refine m_E.run 1 (pc1 := 28) (ls1 := [some _, some _, none]) (st1 := [_]) rfl ?_
  refine m_E.gf g4.2.1 hc rfl rfl ?_
  refine m_E.run 1 (pc1 := 32) (ls1 := [some _, some _, none]) (st1 := [_, _]) rfl ?_
  refine m_E.gf g3.2.1 hb rfl rfl ?_
  refine m_E.cn rfl rfl (c_copyRow g4.2.2.2.2.1 g3.2.2.2.2.1 (by omega) (by rw [List.length_map, List.length_map]; exact l4.trans k4.symm) (by rw [List.length_map]; omega)) ?_
  have g5 := g3.s3 (c_backs S2)
  have c3 : Chg b (b + 8) h2 (h2.set (b + 3) (.inl (0, (c_backs S2).map nI))) := Chg.set (by omega) (by omega)
  have g6 := g4.off c3 (by omega)
  replace c1 := c1.tr c3
  generalize h2.set (b + 3) (.inl (0, (c_backs S2).map nI)) = h3 at g5 g6 c1 ⊢
  refine m_E.run 1 (pc1 := 39) (ls1 := [some _, some _, none]) (st1 := [_]) rfl ?_
  refine m_E.gf g6.2.1 hc rfl rfl ?_
  refine m_E.run 1 (pc1 := 43) (ls1 := [some _, some _, none]) (st1 := [_, _]) rfl ?_
  refine m_E.gf g5.2.1 hb rfl rfl ?_
  refine m_E.cn rfl rfl (c_copyRow g6.2.2.2.2.2.1 g5.2.2.2.2.2.1 (by omega) (by rw [List.length_map, List.length_map]; exact l6.trans k6.symm) (by rw [List.length_map]; omega)) ?_
  have g7 := g5.s4 (c_settings S2)
  have c4 : Chg b (b + 8) h3 (h3.set (b + 4) (.inl (0, (c_settings S2).map nI))) := Chg.set (by omega) (by omega)
  have g8 := g6.off c4 (by omega)
  replace c1 := c1.tr c4
  generalize h3.set (b + 4) (.inl (0, (c_settings S2).map nI)) = h4 at g7 g8 c1 ⊢
  refine m_E.run 2 (pc1 := 51) (ls1 := [some _, some _, some _]) (st1 := []) rfl ?_
  generalize hT : c_setSettings (c_setBacks (c_setLeans (c_setCards S (c_cards S2)) (c_leans S2)) (c_backs S2)) (c_settings S2) = T at g7
  have hTp : c_pile T = c_pile S := by rw [← hT]; rfl
  have okT : Oks T := by rw [← hT]; exact ⟨l1, l2, l3, l4, l5, l6, l7, k8, k9, k10, k11, k12, k13⟩
  refine m_E.he (m_set_self (c := .inr (.inr (2, (c_pile S2).take 0 ++ (c_pile T).drop 0))) (by rw [List.take_zero, List.drop_zero, List.nil_append]; exact g7.2.2.2.2.2.2.1)).symm ?_
  refine m_E.up (fun i => (51, [some (.ref b), some (.ref c), some (.int (nI i))], [], h4.set (b + 5) (.inr (.inr (2, (c_pile S2).take i ++ (c_pile T).drop i))))) 6 (fun i => True) (fun i hi hI K => ?_) ?_ (fun hI => ?_)
  · skip
    show m_E _ _ 51 [some (.ref b), some (.ref c), some (.int (nI i))] [] (h4.set (b + 5) (.inr (.inr (2, (c_pile S2).take i ++ (c_pile T).drop i)))) _
    have q1 := g7.s5 ((c_pile S2).take i ++ (c_pile T).drop i)
    have e1 : Chg b (b + 8) h4 (h4.set (b + 5) (.inr (.inr (2, (c_pile S2).take i ++ (c_pile T).drop i)))) := Chg.set (by omega) (by omega)
    have q2 := g8.off e1 (by omega)
    have e2 := c1.tr e1
    refine m_E.run 2 (pc1 := 54) (ls1 := [some _, some _, some _]) (st1 := [_, _]) rfl ?_
    refine m_E.icf (by rw [m_leI (by omega) (by omega), decide_eq_false_iff_not]; omega) rfl ?_
    refine m_E.run 1 (pc1 := 58) (ls1 := [some _, some _, some _]) (st1 := [_]) rfl ?_
    refine m_E.gf q1.2.1 hb rfl rfl ?_
    refine m_E.run 2 (pc1 := 63) (ls1 := [some _, some _, some _]) (st1 := [_, _, _]) rfl ?_
    refine m_E.gf q2.2.1 hc rfl rfl ?_
    refine m_E.run 1 (pc1 := 67) (ls1 := [some _, some _, some _]) (st1 := [_, _, _, _]) rfl ?_
    refine m_E.ald q2.2.2.2.2.2.2.1 (Or.inl rfl) (by omega) rfl (by omega) (by omega) rfl ?_
    refine m_E.ast q1.2.2.2.2.2.2.1 (by omega) rfl (by show i < ((c_pile S2).take i ++ (c_pile T).drop i).length; rw [List.length_append, List.length_take, List.length_drop, hTp]; omega) (by show ((c_pile S2).take i ++ (c_pile T).drop i).length < _; rw [List.length_append, List.length_take, List.length_drop, hTp]; omega) (fun k hk => by obtain ⟨w1, w2, fs, w3⟩ := hpl2 k (by rw [← hk, List.getD_eq_getElem?_getD, List.getElem?_eq_getElem (by omega)]; exact List.getElem_mem _); exact ⟨w2, fs, (e2.2 k (by omega)).trans w3⟩) rfl ?_
    refine m_E.run 2 (pc1 := 51) (ls1 := [some _, some _, some _]) (st1 := []) rfl ?_
    rw [List.set_set, nI_add]
    refine m_E.he ?_ (K trivial)
    show h4.set (b + 5) (.inr (.inr (2, ((c_pile S2).take i ++ (c_pile T).drop i).set i ((c_pile S2).getD i none)))) = h4.set (b + 5) (.inr (.inr (2, (c_pile S2).take (i + 1) ++ (c_pile T).drop (i + 1))))
    rw [m_mix (by omega) (by rw [hTp]; omega)]
  · skip
    trivial
  · skip
    show m_E _ _ 51 ((fun i => [some (.ref b), some (.ref c), some (.int (nI i))]) (6)) [] ((fun i => h4.set (b + 5) (.inr (.inr (2, (c_pile S2).take i ++ (c_pile T).drop i)))) (6)) _
    dsimp only
    have q1 := g7.s5 (c_pile S2)
    have e1 : Chg b (b + 8) h4 (h4.set (b + 5) (.inr (.inr (2, c_pile S2)))) := Chg.set (by omega) (by omega)
    have q2 := g8.off e1 (by omega)
    refine m_E.he (h2 := h4.set (b + 5) (.inr (.inr (2, c_pile S2)))) (by rw [List.take_of_length_le (by omega), List.drop_eq_nil_of_le (by rw [hTp]; omega), List.append_nil]) ?_
    replace c1 := c1.tr e1
    generalize h4.set (b + 5) (.inr (.inr (2, c_pile S2))) = h5 at q1 q2 c1 ⊢
    refine m_E.run 2 (pc1 := 54) (ls1 := [some _, some _, some _]) (st1 := [_, _]) rfl ?_
    refine m_E.ict (by decide) rfl ?_
    refine m_E.run 1 (pc1 := 76) (ls1 := [some _, some _, some _]) (st1 := [_]) rfl ?_
    refine m_E.gf q1.2.1 hb rfl rfl ?_
    refine m_E.run 1 (pc1 := 80) (ls1 := [some _, some _, some _]) (st1 := [_, _]) rfl ?_
    refine m_E.gf q2.2.1 hc rfl rfl ?_
    have okT2 : Oks (c_setPile T (c_pile S2)) := ⟨okT.1, okT.2.1, okT.2.2.1, okT.2.2.2.1, okT.2.2.2.2.1, okT.2.2.2.2.2.1, okT.2.2.2.2.2.2.1, l8, okT.2.2.2.2.2.2.2.2⟩
    obtain ⟨_, h6, p1, rfl, p2, p3, p4⟩ := c_pkCopy (d := d) q1 q2 hd okT2 ok2
    refine m_E.on q1.2.2.2.2.2.2.2.1 (by omega) rfl rfl rfl (p1) ?_
    replace c1 := c1.tr p4
    refine m_E.run 2 (pc1 := 88) (ls1 := [some _, some _, some _]) (st1 := [_, _]) rfl ?_
    refine m_E.gf p3.2.1 hc rfl rfl ?_
    refine p2.p6 (v := c_piled S2) rfl rfl (fun h7 n1 e3 => ?_)
    have n2 := p3.off e3 (by omega)
    refine m_E.run 2 (pc1 := 96) (ls1 := [some _, some _, some _]) (st1 := [_, _]) rfl ?_
    refine m_E.gf n2.2.1 hc rfl rfl ?_
    refine n1.p7 (v := c_printed S2) rfl rfl (fun h8 n3 e4 => ?_)
    have n4 := n2.off e4 (by omega)
    refine m_E.run 2 (pc1 := 104) (ls1 := [some _, some _, some _]) (st1 := [_, _]) rfl ?_
    refine m_E.gf n4.2.1 hc rfl rfl ?_
    refine n3.p8 (v := c_sold S2) rfl rfl (fun h9 n5 e5 => ?_)
    have n6 := n4.off e5 (by omega)
    refine m_E.run 2 (pc1 := 112) (ls1 := [some _, some _, some _]) (st1 := [_, _]) rfl ?_
    refine m_E.gf n6.2.1 hc rfl rfl ?_
    refine n5.p9 (v := c_pulped S2) rfl rfl (fun h10 n7 e6 => ?_)
    have n8 := n6.off e6 (by omega)
    refine m_E.run 2 (pc1 := 120) (ls1 := [some _, some _, some _]) (st1 := [_, _]) rfl ?_
    refine m_E.gf n8.2.1 hc rfl rfl ?_
    refine n7.p10 (v := c_coins S2) rfl rfl (fun h11 n9 e7 => ?_)
    have n10 := n8.off e7 (by omega)
    exact m_E.vret rfl ⟨rfl, n9.eq (by rw [← hT]; simp only [c_setCards, c_setLeans, c_setBacks, c_setSettings, c_setPile, c_setOrder, c_setPiled, c_setPrinted, c_setSold, c_setPulped, c_setCoins, c_setFr, c_setDealt, c_setPk, c_setNum, cp_cards, cp_leans, cp_backs, cp_settings, cp_pile, cp_order, cp_fr, cp_dealt, cp_piled, cp_printed, cp_sold, cp_pulped, cp_coins, c_eta]), n10, c1.tr (e3.tr (e4.tr (e5.tr (e6.tr e7))))⟩
