/-! how many shuffles bring a pack back: the model's way -/
def g_it (top n : Nat) : Nat → Nat → Nat
  | 0, k => k
  | t + 1, k => g_it top n t (g_before k top n)
def g_lcs (top n : Nat) : Nat → Nat
  | 0 => 1
  | j + 1 => Nat.lcm (g_lcs top n j) (g_round j top n)
def g_ck : Bool := (List.range 25).all fun n => (List.range n).all fun top => (g_until top n n == g_lcs top n n) && (List.range n).all fun k => g_it top n (g_round k top n) k == k
set_option maxRecDepth 100000 in
theorem g_ck_ok : g_ck = true := by decide +kernel
theorem g_ck_at {top n : Nat} (hn : n < 25) (ht : top < n) : g_until top n n = g_lcs top n n ∧ ∀ k, k < n → g_it top n (g_round k top n) k = k := by
  have t := g_ck_ok
  rw [g_ck, List.all_eq_true] at t
  have t2 := t n (List.mem_range.mpr hn)
  rw [List.all_eq_true] at t2
  have t3 := t2 top (List.mem_range.mpr ht)
  rw [Bool.and_eq_true, List.all_eq_true] at t3
  exact ⟨of_decide_eq_true t3.1, fun k hk => of_decide_eq_true (t3.2 k (List.mem_range.mpr hk))⟩
theorem g_it_add {top n : Nat} (s : Nat) : ∀ t k, g_it top n (s + t) k = g_it top n s (g_it top n t k)
  | 0, _ => rfl
  | t + 1, k => by
    show g_it top n (s + t) (g_before k top n) = g_it top n s (g_it top n t (g_before k top n))
    exact g_it_add s t _
theorem g_it_succ {top n : Nat} (t k : Nat) : g_it top n (t + 1) k = g_before (g_it top n t k) top n := by
  rw [Nat.add_comm, g_it_add]; rfl
theorem g_it_lt {top n : Nat} (ht : top ≤ n) : ∀ t k, k < n → g_it top n t k < n
  | 0, _, hk => hk
  | t + 1, k, hk => g_it_lt ht t _ (g_before_lt ht hk)
theorem g_rnd_min {p top n : Nat} : ∀ fuel t, 1 ≤ t → t + fuel = n → (∀ s, 0 < s → s < t → g_it top n s p ≠ p) → ∀ s, 0 < s → s < g_rnd p top n fuel t (g_it top n (t - 1) p) → g_it top n s p ≠ p
  | 0, t, h1, h2, h3, s, hs, hl => by
    rw [g_rnd] at hl
    exact h3 s hs (by omega)
  | fuel + 1, t, h1, h2, h3, s, hs, hl => by
    have e : g_before (g_it top n (t - 1) p) top n = g_it top n t p := by rw [← g_it_succ, show t - 1 + 1 = t by omega]
    rw [g_rnd, e] at hl
    by_cases z : g_it top n t p = p
    · rw [if_pos z] at hl
      exact h3 s hs hl
    · rw [if_neg z] at hl
      refine g_rnd_min fuel (t + 1) (by omega) (by omega) (fun s2 hs2 hl2 => ?_) s hs (by rw [Nat.add_sub_cancel]; exact hl)
      by_cases q : s2 = t
      · rw [q]; exact z
      · exact h3 s2 hs2 (by omega)
theorem g_round_min {p top n : Nat} (hn : 1 ≤ n) (s : Nat) (hs : 0 < s) (hl : s < g_round p top n) : g_it top n s p ≠ p :=
  g_rnd_min (n - 1) 1 (Nat.le_refl _) (by omega) (fun s2 h1 h2 => by omega) s hs hl
theorem g_it_mul {top n r k : Nat} (h : g_it top n r k = k) : ∀ q, g_it top n (r * q) k = k
  | 0 => rfl
  | q + 1 => by rw [Nat.mul_succ, g_it_add, h]; exact g_it_mul h q
theorem g_it_dvd {top n k : Nat} (hn : n < 25) (ht : top < n) (hk : k < n) (t : Nat) : g_it top n t k = k ↔ g_round k top n ∣ t := by
  have h1 := (g_ck_at hn ht).2 k hk
  have b := (g_round_bounds (place := k) (top := top) (show 0 < n by omega)).1
  have e : g_it top n t k = g_it top n (t % g_round k top n) k := by
    have z := g_it_add (top := top) (n := n) (t % g_round k top n) (g_round k top n * (t / g_round k top n)) k
    rw [Nat.mod_add_div, g_it_mul h1] at z
    exact z
  constructor
  · intro h
    by_cases z : t % g_round k top n = 0
    · exact Nat.dvd_of_mod_eq_zero z
    · exact absurd (e.symm.trans h) (g_round_min (by omega) _ (by omega) (Nat.mod_lt _ (by omega)))
  · intro h
    rw [e, Nat.mod_eq_zero_of_dvd h]; rfl
theorem g_lcs_dvd {top n t : Nat} : ∀ j, g_lcs top n j ∣ t ↔ ∀ k, k < j → g_round k top n ∣ t
  | 0 => ⟨fun _ k hk => absurd hk (Nat.not_lt_zero k), fun _ => Nat.one_dvd t⟩
  | j + 1 => by
    rw [g_lcs, Nat.lcm_dvd_iff, g_lcs_dvd j]
    constructor
    · intro ⟨a, b⟩ k hk
      by_cases e : k = j
      · rw [e]; exact b
      · exact a k (by omega)
    · intro h
      exact ⟨fun k hk => h k (by omega), h j (by omega)⟩
/-- all are where they were -/
def g_allb (f : Nat → Nat) : Nat → Bool
  | 0 => true
  | j + 1 => g_allb f j && (f j == j)
theorem g_allb_iff {f : Nat → Nat} : ∀ j, g_allb f j = true ↔ ∀ k, k < j → f k = k
  | 0 => ⟨fun _ k hk => absurd hk (Nat.not_lt_zero k), fun _ => rfl⟩
  | j + 1 => by
    rw [g_allb, Bool.and_eq_true, g_allb_iff j]
    constructor
    · intro ⟨a, b⟩ k hk
      by_cases e : k = j
      · rw [e]; exact of_decide_eq_true b
      · exact a k (by omega)
    · intro h
      exact ⟨fun k hk => h k (by omega), decide_eq_true (h j (by omega))⟩
theorem g_back_iff {top n : Nat} (hn : n < 25) (ht : top < n) (t : Nat) : g_allb (g_it top n t) n = true ↔ g_until top n n ∣ t := by
  rw [(g_ck_at hn ht).1, g_lcs_dvd, g_allb_iff]
  exact ⟨fun h k hk => (g_it_dvd hn ht hk t).mp (h k hk), fun h k hk => (g_it_dvd hn ht hk t).mpr (h k hk)⟩
