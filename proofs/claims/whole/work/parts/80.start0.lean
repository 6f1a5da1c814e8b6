/-! the start of the law's loop -/
def w_W0 : c_W := w_mk c_S0 c_S0 (fun _ => c_S0) 0 0 x_X0 false
theorem g_rep_lt {n b x : Nat} (hb : 0 < b) (hx : x ∈ List.replicate n 0) : x < b := by rw [(List.mem_replicate.mp hx).2]; exact hb
theorem g_perm_range : g_perm (List.range 24) := fun v hv => ⟨v, hv, by rw [List.getD_eq_getElem?_getD, List.getElem?_range hv]; rfl⟩
theorem Oks_0 : Oks c_S0 := ⟨List.length_range, fun x hx => List.mem_range.mp hx, List.length_replicate, List.length_replicate, fun x hx => g_rep_lt (by decide) hx, rfl, (by intro x hx; rcases List.mem_cons.mp hx with e | hx; omega; rcases List.mem_cons.mp hx with e | hx; omega; rcases List.mem_cons.mp hx with e | hx; omega; rcases List.mem_cons.mp hx with e | hx; omega; cases hx), List.length_replicate, List.length_replicate, fun x hx => g_rep_lt (by decide) hx, Nat.zero_le _, Nat.zero_le _, (show 0 < 2 ^ 30 by decide)⟩
theorem Tok_0 : Tok 0 0 c_S0 := ⟨Oks_0, Nat.le_refl _, ⟨(fun k hk => by have z := (List.mem_replicate.mp hk).2; cases z), (fun j hj => absurd hj (Nat.not_lt_zero j)), (fun k hk => by cases hk)⟩, g_perm_range, (fun z => absurd rfl z), (fun _ => rfl), (show 1 ≤ 10 by decide)⟩
theorem Okx_0 : Okx x_X0 := ⟨List.length_replicate, fun x hx => g_rep_lt (by decide) hx, Nat.zero_le _, Nat.zero_le _, List.length_replicate, fun x hx => g_rep_lt (by decide) hx, List.length_replicate, List.length_replicate, Nat.zero_le _⟩
theorem Okw_0 : Okw 0 0 w_W0 := ⟨Tok_0, Tok_0, fun _ _ => Tok_0, Okx_0⟩
theorem Okm_0 {row : List Int32} (h : row.length = 611) : Okm (d_M0 row) := ⟨h, List.length_replicate, List.length_replicate, Nat.zero_le _, List.length_replicate, List.length_replicate, fun x hx => g_rep_lt (by decide) hx, Nat.zero_le _, List.length_replicate, List.length_replicate⟩
theorem d_row0_4 : ∀ k, k < 4 → d_row0 k = nI ([10, 3, 4, 12].getD k 0) := by decide +kernel
theorem Enc_0 {F : Nat → c_Sh} {row : List Int32} (h : row.length = 611) (v : ∀ i, i < 611 → row.getD i 0 = d_row0 i) : Enc F c_S0 row := by
  have z : ∀ i, 4 ≤ i → i < 11 ∨ 35 ≤ i → i < 611 → row.getD i 0 = 0 := fun i h1 h2 h3 => by
    rw [v i h3, d_row0, if_neg (by omega), if_neg (by omega), if_neg (by omega), if_neg (by omega), if_neg (by omega)]
  refine Enc.of h ⟨fun k hk => (v k (by omega)).trans (d_row0_4 k hk), fun k hk => ?_, fun k hk => ?_, fun k hk => ?_⟩ ⟨z 4 (by decide) (by decide) (by decide), z 5 (by decide) (by decide) (by decide), z 8 (by decide) (by decide) (by decide), z 9 (by decide) (by decide) (by decide), z 10 (by decide) (by decide) (by decide)⟩ ⟨z 6 (by decide) (by decide) (by decide), z 7 (by decide) (by decide) (by decide), fun k hk => absurd hk (Nat.not_lt_zero k), fun s hs => by cases hs⟩ (fun j hj => absurd hj (Nat.not_lt_zero j))
  · rw [v _ (by omega), d_row0, if_neg (by omega), if_neg (by omega), if_neg (by omega), if_neg (by omega), if_pos (by omega), Nat.add_sub_cancel_left]
    show nI k = nI ((List.range 24).getD k 0)
    rw [List.getD_eq_getElem?_getD, List.getElem?_range hk]; rfl
  · rw [z _ (by omega) (by omega) (by omega)]
    show 0 = (List.replicate 24 (0 : Int32)).getD k 0
    rw [g_rep0]
  · rw [z _ (by omega) (by omega) (by omega)]
    show 0 = nI ((List.replicate 24 0).getD k 0)
    rw [List.getD_eq_getElem?_getD, List.getElem?_replicate]
    split <;> rfl
theorem Rl_0 {F : Nat → c_Sh} {row : List Int32} (h : row.length = 611) (v : ∀ i, i < 611 → row.getD i 0 = d_row0 i) : Rl F w_W0 (d_M0 row) := ⟨Enc_0 h v, ⟨rfl, (show 0 < 4 by decide), Nat.zero_le _, fun j hj => absurd hj (Nat.not_lt_zero j)⟩, ⟨rfl, fun q => by cases q⟩, ⟨rfl, rfl⟩⟩
theorem m_len0 (xs : List Int32) : (m_h0 xs ++ o_cells).length = 61 := rfl
theorem Jw_0 {xs : List Int32} {h : m_Hp} {row : List Int32} (H : Hmo h (d_M0 row)) (hr : row.length = 611) (v : ∀ i, i < 611 → row.getD i 0 = d_row0 i) (l : h.length = 69) (q : ∀ k, k < 61 → h[k]? = (m_h0 xs ++ o_cells)[k]?) : Jw xs 0 h := by
  refine ⟨0, 0, fun _ => ([], [], []), w_W0, d_M0 row, ⟨⟨(q 0 (by decide)).trans rfl, (q 1 (by decide)).trans rfl, (q 2 (by decide)).trans rfl⟩, (q 4 (by decide)).trans rfl, ?_, ?_, ⟨by decide, (q 21 (by decide)).trans rfl, (q 22 (by decide)).trans rfl, fun j hj => ?_, fun _ _ => Oks_0, (show 0 < 4 by decide), Nat.zero_le _⟩, ?_, ⟨_, (q 60 (by decide)).trans rfl, List.length_replicate⟩, ⟨l, fun i hi => absurd hi (Nat.not_lt_zero i)⟩⟩, Okw_0, H, Okm_0 hr, Rl_0 hr v, (q 3 (by decide)).trans rfl, Nat.le_refl _, Nat.le_refl _⟩
  · exact ⟨by decide, (q 5 (by decide)).trans rfl, (q 6 (by decide)).trans rfl, (q 7 (by decide)).trans rfl, (q 8 (by decide)).trans rfl, (q 9 (by decide)).trans rfl, (q 10 (by decide)).trans rfl, (q 11 (by decide)).trans rfl, (q 12 (by decide)).trans rfl⟩
  · exact ⟨by decide, (q 13 (by decide)).trans rfl, (q 14 (by decide)).trans rfl, (q 15 (by decide)).trans rfl, (q 16 (by decide)).trans rfl, (q 17 (by decide)).trans rfl, (q 18 (by decide)).trans rfl, (q 19 (by decide)).trans rfl, (q 20 (by decide)).trans rfl⟩
  · match j, hj with
    | 0, _ => exact ⟨by decide, (q 23 (by decide)).trans rfl, (q 24 (by decide)).trans rfl, (q 25 (by decide)).trans rfl, (q 26 (by decide)).trans rfl, (q 27 (by decide)).trans rfl, (q 28 (by decide)).trans rfl, (q 29 (by decide)).trans rfl, (q 30 (by decide)).trans rfl⟩
    | 1, _ => exact ⟨by decide, (q 31 (by decide)).trans rfl, (q 32 (by decide)).trans rfl, (q 33 (by decide)).trans rfl, (q 34 (by decide)).trans rfl, (q 35 (by decide)).trans rfl, (q 36 (by decide)).trans rfl, (q 37 (by decide)).trans rfl, (q 38 (by decide)).trans rfl⟩
    | 2, _ => exact ⟨by decide, (q 39 (by decide)).trans rfl, (q 40 (by decide)).trans rfl, (q 41 (by decide)).trans rfl, (q 42 (by decide)).trans rfl, (q 43 (by decide)).trans rfl, (q 44 (by decide)).trans rfl, (q 45 (by decide)).trans rfl, (q 46 (by decide)).trans rfl⟩
    | 3, _ => exact ⟨by decide, (q 47 (by decide)).trans rfl, (q 48 (by decide)).trans rfl, (q 49 (by decide)).trans rfl, (q 50 (by decide)).trans rfl, (q 51 (by decide)).trans rfl, (q 52 (by decide)).trans rfl, (q 53 (by decide)).trans rfl, (q 54 (by decide)).trans rfl⟩
    | j + 4, hj => exact absurd hj (by omega)
  · exact ⟨by decide, (q 55 (by decide)).trans rfl, (q 56 (by decide)).trans rfl, (q 57 (by decide)).trans rfl, (q 58 (by decide)).trans rfl, (q 59 (by decide)).trans rfl⟩
