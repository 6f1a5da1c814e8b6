/-! how much room there is in use -/
theorem g_bd_of {h : m_Hp} {k : Nat} {c : m_Cel} (e : h[k]? = some c) (hc : m_csz c ≤ 60) : g_bd h k := fun c2 e2 => by
  rw [e] at e2
  rw [← Option.some.inj e2]; exact hc
theorem g_bd_r {h : m_Hp} {k t : Nat} {xs : List Int32} (e : h[k]? = some (.inl (t, xs))) (hc : xs.length ≤ 60) : g_bd h k := g_bd_of e hc
theorem g_bd_m {h : m_Hp} {k t : Nat} {xs : List Nat} (e : h[k]? = some (.inl (t, xs.map nI))) (hc : xs.length ≤ 60) : g_bd h k := g_bd_of e (by show (xs.map nI).length ≤ 60; rw [List.length_map]; exact hc)
theorem g_bd_o {h : m_Hp} {k t : Nat} {fs : List Value} (e : h[k]? = some (.inr (.inl (t, fs)))) (hc : fs.length ≤ 60) : g_bd h k := g_bd_of e hc
theorem g_bd_a {h : m_Hp} {k t : Nat} {rs : List (Option Nat)} (e : h[k]? = some (.inr (.inr (t, rs)))) (hc : rs.length ≤ 60) : g_bd h k := g_bd_of e hc
theorem Hst.bd {h : m_Hp} {b : Nat} {S : c_St} (hs : Hst h b S) (ok : Oks S) (k : Nat) (h1 : b ≤ k) (h2 : k < b + 8) : g_bd h k := by
  obtain ⟨g0, g1, g2, g3, g4, g5, g6, g7, g8⟩ := hs
  obtain ⟨k1, k2, k3, k4, k5, k6, k7, k8, k9, k10, k11, k12, k13⟩ := ok
  have e : k = b ∨ k = b + 1 ∨ k = b + 2 ∨ k = b + 3 ∨ k = b + 4 ∨ k = b + 5 ∨ k = b + 6 ∨ k = b + 7 := by omega
  rcases e with e | e | e | e | e | e | e | e <;> rw [e]
  · exact g_bd_o g1 (Nat.le_of_ble_eq_true rfl)
  · exact g_bd_m g2 (by omega)
  · exact g_bd_r g3 (by omega)
  · exact g_bd_m g4 (by omega)
  · exact g_bd_m g5 (by omega)
  · exact g_bd_a g6 (by omega)
  · exact g_bd_o g7 (Nat.le_of_ble_eq_true rfl)
  · exact g_bd_m g8 (by omega)
theorem Htx.bd {h : m_Hp} {q : Nat} {X : c_Tx} (H : Htx h q X) (ok : Okx X) (k : Nat) (h1 : q ≤ k) (h2 : k < q + 5) : g_bd h k := by
  obtain ⟨g0, g1, g2, g3, g4, g5⟩ := H
  obtain ⟨k1, k2, k3, k4, k5, k6, k7, k8, k9⟩ := ok
  have e : k = q ∨ k = q + 1 ∨ k = q + 2 ∨ k = q + 3 ∨ k = q + 4 := by omega
  rcases e with e | e | e | e | e <;> rw [e]
  · exact g_bd_o g1 (Nat.le_of_ble_eq_true rfl)
  · exact g_bd_m g2 (by omega)
  · exact g_bd_m g3 (by omega)
  · exact g_bd_m g4 (by omega)
  · exact g_bd_r g5 (by omega)
theorem Hhi.bd {h : m_Hp} {q next size : Nat} {R : Nat → c_St} (H : Hhi h q next size R) (k : Nat) (h1 : q ≤ k) (h2 : k < q + 34) : g_bd h k := by
  obtain ⟨g0, g1, g2, g3, g4, g5, g6⟩ := H
  by_cases e : k = q
  · rw [e]; exact g_bd_o g1 (Nat.le_of_ble_eq_true rfl)
  · by_cases e2 : k = q + 1
    · rw [e2]; exact g_bd_a g2 (Nat.le_of_ble_eq_true rfl)
    · exact (g3 ((k - q - 2) / 8) (by omega)).bd (g4 _ (by omega)) k (by omega) (by omega)
theorem g_sum_bd : ∀ l : List m_Cel, (∀ c, c ∈ l → m_csz c ≤ 300) → (l.map m_csz).sum ≤ l.length * 300
  | [], _ => Nat.le_refl _
  | c :: l, hl => by
    have h1 := hl c List.mem_cons_self
    have h2 := g_sum_bd l (fun c2 hc => hl c2 (List.mem_cons_of_mem _ hc))
    rw [List.map_cons, List.sum_cons, List.length_cons]
    omega
theorem Hcl.bd {h : m_Hp} {n : List Nat} {p : Nat} {F : Nat → c_Sh} {W : c_W} {xs : List Int32} (H : Hcl h n F W) (ok : Okw n p W) (hs : h[3]? = some (.inl (0, xs))) (hx : xs.length ≤ 260) (B : Bd h) : ∀ (k : Nat) (c : m_Cel), h[k]? = some c → m_csz c ≤ 300 := by
  have up : ∀ (k : Nat), g_bd h k → ∀ (c : m_Cel), h[k]? = some c → m_csz c ≤ 300 := fun k b c hc => Nat.le_trans (b c hc) (by decide)
  intro k
  by_cases a0 : k < 5
  · have e : k = 0 ∨ k = 1 ∨ k = 2 ∨ k = 3 ∨ k = 4 := by omega
    rcases e with e | e | e | e | e <;> rw [e]
    · exact up 0 (g_bd_r H.1.1 (by decide))
    · exact up 1 (g_bd_r H.1.2.1 (by decide))
    · exact up 2 (g_bd_r H.1.2.2 (by decide))
    · intro c hc
      rw [hs] at hc
      rw [← Option.some.inj hc]
      show xs.length ≤ 300
      omega
    · exact up 4 (g_bd_o H.2.1 (Nat.le_of_ble_eq_true rfl))
  · by_cases a1 : k < 13
    · exact up k (H.now.bd ok.1.1 k (by omega) (by omega))
    · by_cases a2 : k < 21
      · exact up k (H.snap.bd ok.2.1.1 k (by omega) (by omega))
      · by_cases a3 : k < 55
        · exact up k (H.hist.bd k (by omega) (by omega))
        · by_cases a4 : k < 60
          · exact up k (H.tx.bd ok.2.2.2 k (by omega) (by omega))
          · by_cases a5 : k = 60
            · obtain ⟨zs, z1, z2⟩ := H.spare
              rw [a5]; exact up 60 (g_bd_r z1 (by omega))
            · exact up k (B k (by omega))
theorem y_J.size {xs : List Int32} {i : Nat} {h : m_Hp} (J : y_J xs i h) (hx : xs.length ≤ 260) (hi : i ≤ 46) : h.length ≤ 600004 ∧ m_sz h ≤ 7302250 := by
  obtain ⟨n, p, F, W, R, X, hp, hl, hl2, B, h3⟩ := J
  have bd := Hcl.bd X.1 X.2.1 h3 hx B
  have key := g_sum_bd h (fun c hc => by
    obtain ⟨k, hk⟩ := List.mem_iff_getElem?.mp hc
    exact bd k c hk)
  have e : m_sz h = (h.map m_csz).sum := rfl
  rw [e]
  refine ⟨by omega, ?_⟩
  omega
theorem Hrw.bd {h : m_Hp} {R : y_R} (H : Hrw h R) (ok : Okr R) (k : Nat) (h1 : 61 ≤ k) (h2 : k < 69) : g_bd h k := by
  obtain ⟨a0, a1, a2, a3, a4, a5, a6, a7⟩ := H
  obtain ⟨o0, o1, o2, o3, o4, o5, o6, o7⟩ := ok
  have e : k = 61 ∨ k = 62 ∨ k = 63 ∨ k = 64 ∨ k = 65 ∨ k = 66 ∨ k = 67 ∨ k = 68 := by omega
  rcases e with rfl | rfl | rfl | rfl | rfl | rfl | rfl | rfl
  · exact g_bd_row a0 o0 (by decide)
  · exact g_bd_row a1 o1 (by decide)
  · exact g_bd_row a2 o2 (by decide)
  · exact g_bd_row a3 o3 (by decide)
  · exact g_bd_row a4 o4 (by decide)
  · exact g_bd_row a5 o5 (by decide)
  · exact g_bd_row a6 o6 (by decide)
  · exact g_bd_row a7 o7 (by decide)
