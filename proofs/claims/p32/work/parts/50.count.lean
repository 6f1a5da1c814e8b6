/-! counting -/
theorem g_tot_add (f g : Nat → Nat) : ∀ n, g_tot (fun v => f v + g v) n = g_tot f n + g_tot g n
  | 0 => rfl
  | n + 1 => by rw [g_tot, g_tot, g_tot, g_tot_add f g n]; omega
theorem g_tot_0 {f : Nat → Nat} : ∀ n, (∀ v, v < n → f v = 0) → g_tot f n = 0
  | 0, _ => rfl
  | n + 1, h => by rw [g_tot, g_tot_0 n (fun v hv => h v (by omega)), h n (by omega)]
theorem g_tot_one {f : Nat → Nat} {x : Nat} : ∀ n, x < n → (∀ v, v < n → v ≠ x → f v = 0) → g_tot f n = f x
  | 0, h, _ => absurd h (Nat.not_lt_zero _)
  | n + 1, h, h2 => by
    rw [g_tot]
    by_cases e : x = n
    · rw [g_tot_0 n (fun v hv => h2 v (by omega) (by omega)), e]; omega
    · rw [g_tot_one n (by omega) (fun v hv hx => h2 v (by omega) hx), h2 n (by omega) (by omega)]; rfl
theorem g_fib {P : Nat → Bool} {f : Nat → Nat} {m : Nat} : ∀ n, (∀ k, k < n → f k < m) → g_cnt (fun k => P (f k)) n = g_tot (fun v => if P v = true then g_cnt (fun k => f k == v) n else 0) m
  | 0, _ => by
    rw [g_tot_0 m (fun v _ => by split <;> rfl)]; rfl
  | n + 1, h => by
    have e : (fun v => if P v = true then g_cnt (fun k => f k == v) (n + 1) else 0) = fun v => (fun v => if P v = true then g_cnt (fun k => f k == v) n else 0) v + (fun v => if (f n == v) = true then (if P v = true then 1 else 0) else 0) v := by
      funext v
      rw [g_cnt]
      by_cases a : P v = true
      · simp only [if_pos a]
      · simp only [if_neg a]; split <;> rfl
    rw [e, g_tot_add, g_cnt, g_fib n (fun k hk => h k (by omega)), g_tot_one (f := fun v => if (f n == v) = true then (if P v = true then 1 else 0) else 0) (x := f n) m (h n (by omega)) (fun v _ hx => by
      rw [if_neg]
      intro z
      exact hx (of_decide_eq_true z).symm)]
    congr 1
    rw [if_pos (show (f n == f n) = true from decide_eq_true rfl)]
theorem g_cnt_pos {p : Nat → Bool} {k : Nat} : ∀ {n}, k < n → p k = true → 1 ≤ g_cnt p n
  | 0, h, _ => absurd h (Nat.not_lt_zero _)
  | n + 1, h, hp => by
    rw [g_cnt]
    by_cases e : k = n
    · rw [← e, if_pos hp]; omega
    · have := g_cnt_pos (p := p) (k := k) (n := n) (by omega) hp
      omega
theorem g_cnt_two {p : Nat → Bool} {i k : Nat} : ∀ {n}, i < k → k < n → p i = true → p k = true → 2 ≤ g_cnt p n
  | 0, _, h, _, _ => absurd h (Nat.not_lt_zero _)
  | n + 1, h1, h, hi, hp => by
    rw [g_cnt]
    by_cases e : k = n
    · have := g_cnt_pos (p := p) (k := i) (n := n) (by omega) hi
      rw [← e, if_pos hp]; rw [← e] at this; omega
    · have := g_cnt_two (p := p) (i := i) (k := k) (n := n) h1 (by omega) hi hp
      omega
theorem g_cnt_0 {p : Nat → Bool} : ∀ n, (∀ k, k < n → p k = false) → g_cnt p n = 0
  | 0, _ => rfl
  | n + 1, h => by rw [g_cnt, g_cnt_0 n (fun k hk => h k (by omega)), h n (by omega)]; rfl
theorem g_tot_ge {f : Nat → Nat} : ∀ n, (∀ v, v < n → 1 ≤ f v) → n ≤ g_tot f n
  | 0, _ => Nat.le_refl _
  | n + 1, h => by
    have := g_tot_ge n (fun v hv => h v (by omega))
    have := h n (by omega)
    rw [g_tot]; omega
theorem g_tot_all {f : Nat → Nat} : ∀ n, (∀ v, v < n → 1 ≤ f v) → g_tot f n = n → ∀ v, v < n → f v = 1
  | 0, _, _ => fun v hv => absurd hv (Nat.not_lt_zero _)
  | n + 1, h, e => fun v hv => by
    have h1 := g_tot_ge n (fun v hv => h v (by omega))
    have h2 := h n (by omega)
    rw [g_tot] at e
    by_cases z : v = n
    · rw [z]; omega
    · exact g_tot_all n (fun v hv => h v (by omega)) (by omega) v (by omega)
theorem g_cnt_true : ∀ n, g_cnt (fun _ => true) n = n
  | 0 => rfl
  | n + 1 => by rw [g_cnt, g_cnt_true n]; rfl
theorem g_tot_p {P : Nat → Bool} : ∀ n, g_tot (fun v => if P v = true then 1 else 0) n = g_cnt P n
  | 0 => rfl
  | n + 1 => by rw [g_tot, g_cnt, g_tot_p n]
section
variable {l : List Nat}
theorem g_one (hp : g_perm l) (hl : ∀ k, k < 24 → l.getD k 0 < 24) {v : Nat} (hv : v < 24) : g_cnt (fun k => l.getD k 0 == v) 24 = 1 := by
  have e := g_fib (P := fun _ => true) (f := fun k => l.getD k 0) (m := 24) 24 hl
  rw [g_cnt_true] at e
  refine g_tot_all (f := fun v => g_cnt (fun k => l.getD k 0 == v) 24) 24 (fun v hv => ?_) ?_ v hv
  · obtain ⟨j, hj, ej⟩ := hp v hv
    exact g_cnt_pos hj (by rw [ej]; exact decide_eq_true rfl)
  · exact e.symm
theorem g_perm_inj (hp : g_perm l) (hl : ∀ k, k < 24 → l.getD k 0 < 24) {j k : Nat} (hj : j < 24) (hk : k < 24) (e : l.getD j 0 = l.getD k 0) : j = k := by
  have o := g_one hp hl (hl k hk)
  rcases Nat.lt_trichotomy j k with z | z | z
  · have := g_cnt_two (p := fun i => l.getD i 0 == l.getD k 0) z hk (decide_eq_true e) (decide_eq_true rfl)
    omega
  · exact z
  · have := g_cnt_two (p := fun i => l.getD i 0 == l.getD k 0) z hj (decide_eq_true rfl) (decide_eq_true e)
    omega
theorem g_cnt_perm (hp : g_perm l) (hl : ∀ k, k < 24 → l.getD k 0 < 24) (Q : Nat → Bool) : g_cnt (fun k => Q (l.getD k 0)) 24 = g_cnt Q 24 := by
  rw [g_fib (P := Q) (f := fun k => l.getD k 0) (m := 24) 24 hl, ← g_tot_p]
  refine g_tot_congr (fun v hv => ?_)
  rw [g_one hp hl hv]
theorem g_ix_at (hp : g_perm l) (hl : ∀ k, k < 24 → l.getD k 0 < 24) {k : Nat} (hk : k < 24) : g_ix l (l.getD k 0) 24 0 = k := by
  have lt := g_ix_perm hp (hl k hk)
  obtain ⟨_, _, c, _⟩ := g_ix_ok l (l.getD k 0) 24 0
  exact g_perm_inj hp hl lt hk (c (by omega))
theorem g_ix_of (hp : g_perm l) {v : Nat} (hv : v < 24) : l.getD (g_ix l v 24 0) 0 = v := by
  have lt := g_ix_perm hp hv
  obtain ⟨_, _, c, _⟩ := g_ix_ok l v 24 0
  exact c (by omega)
end
/-- which cards are dealt -/
def q_dl (S : c_St) (c : Nat) : Bool := decide (g_ix (c_order S) c 24 0 < c_dealt S)
/-- whether a card is there and has some marks -/
def q_q (F : Nat → c_Sh) (S : c_St) (m c : Nat) : Bool := !(q_dl S c) && ((c_shf F S).2.1.getD c 0 == m)
def q_al (F : Nat → c_Sh) (S : c_St) (m : Nat) : Nat := g_cnt (q_q F S m) 24
def q_mk (F : Nat → c_Sh) (S : c_St) (i : Nat) : Nat := g_mk (c_order S) (c_shf F S).2.1 (c_dealt S) i
theorem Tok.ord {n : List Nat} {p : Nat} {S : c_St} (t : Tok n p S) : ∀ k, k < 24 → (c_order S).getD k 0 < 24 := fun k hk => g_getD_lt t.1.2.2.2.2.2.2.2.2.2.1 (by rw [t.1.2.2.2.2.2.2.2.2.1]; exact hk)
theorem Tok.crd {n : List Nat} {p : Nat} {S : c_St} (t : Tok n p S) : ∀ k, k < 24 → (c_cards S).getD k 0 < 24 := fun k hk => g_getD_lt t.1.2.1 (by rw [t.1.1]; exact hk)
theorem Tok.bck {n : List Nat} {p : Nat} {S : c_St} (t : Tok n p S) : ∀ k, k < 24 → (c_backs S).getD k 0 < 16 := fun k hk => g_getD_lt t.1.2.2.2.2.1 (by rw [t.1.2.2.2.1]; exact hk)
theorem q_dl_at {n : List Nat} {p k : Nat} {S : c_St} (t : Tok n p S) (hf : c_fr S ≠ none) (hk : k < 24) : q_dl S ((c_order S).getD k 0) = decide (k < c_dealt S) := by
  rw [q_dl, g_ix_at (t.2.2.2.2.1 hf) t.ord hk]
theorem q_al_can {n : List Nat} {p i : Nat} {F : Nat → c_Sh} {S : c_St} (t : Tok n p S) (hf : c_fr S ≠ none) : q_al F S (q_mk F S i) = q_can F S i := by
  have hd := t.1.2.2.2.2.2.2.2.2.2.2.1
  rw [q_al, ← g_cnt_perm (t.2.2.2.2.1 hf) t.ord, show (24 : Nat) = c_dealt S + (24 - c_dealt S) by omega, g_cnt_add, g_cnt_0 (c_dealt S), Nat.zero_add, q_can, g_can]
  · refine g_cnt_congr (fun k hk => ?_)
    rw [q_q, q_dl_at t hf (by omega), decide_eq_false (by omega)]; rfl
  · intro k hk
    rw [q_q, q_dl_at t hf (by omega), decide_eq_true hk]; rfl
theorem g_fold_min {p : Nat → Bool} {c : Nat → Nat} {low : Nat} : ∀ n, g_fold p c low n ≤ low ∧ (∀ o, o < n → p o = true → g_fold p c low n ≤ c o) ∧ (g_fold p c low n = low ∨ ∃ o, o < n ∧ p o = true ∧ g_fold p c low n = c o)
  | 0 => ⟨Nat.le_refl _, fun o h => absurd h (Nat.not_lt_zero _), Or.inl rfl⟩
  | n + 1 => by
    obtain ⟨a, b, e⟩ := g_fold_min (p := p) (c := c) (low := low) n
    rw [g_fold]
    by_cases hn : p n = true
    · rw [if_pos hn]
      refine ⟨by omega, fun o ho hp => ?_, ?_⟩
      · by_cases z : o = n
        · rw [z]; omega
        · have := b o (by omega) hp; omega
      · by_cases z : c n ≤ g_fold p c low n
        · exact Or.inr ⟨n, by omega, hn, by omega⟩
        · rw [Nat.min_eq_left (by omega)]
          rcases e with e | ⟨o, h1, h2, h3⟩
          · exact Or.inl e
          · exact Or.inr ⟨o, by omega, h2, h3⟩
    · rw [if_neg hn]
      refine ⟨a, fun o ho hp => ?_, ?_⟩
      · by_cases z : o = n
        · rw [z] at hp; exact absurd hp hn
        · exact b o (by omega) hp
      · rcases e with e | ⟨o, h1, h2, h3⟩
        · exact Or.inl e
        · exact Or.inr ⟨o, by omega, h2, h3⟩
/-- what is guessed is the lowest card that can be there -/
theorem q_gs_ok {n : List Nat} {p i : Nat} {F : Nat → c_Sh} {S : c_St} (t : Tok n p S) (hf : c_fr S ≠ none) (hi : c_dealt S + i < 24) : q_gs F S i < 24 ∧ q_q F S (q_mk F S i) (q_gs F S i) = true ∧ ∀ c, c < q_gs F S i → q_q F S (q_mk F S i) c = false := by
  have key := g_fold_min (p := fun o => g_mk (c_order S) (c_shf F S).2.1 (c_dealt S) o == g_mk (c_order S) (c_shf F S).2.1 (c_dealt S) i) (c := fun o => (c_order S).getD (c_dealt S + o) 0) (low := (c_order S).getD (c_dealt S + i) 0) (24 - c_dealt S)
  change q_gs F S i ≤ _ ∧ (∀ o, _ → _ → q_gs F S i ≤ _) ∧ (q_gs F S i = _ ∨ ∃ o, _ ∧ _ ∧ q_gs F S i = _) at key
  obtain ⟨a, b, e⟩ := key
  have at1 : ∃ o, c_dealt S + o < 24 ∧ g_mk (c_order S) (c_shf F S).2.1 (c_dealt S) o = q_mk F S i ∧ q_gs F S i = (c_order S).getD (c_dealt S + o) 0 := by
    rcases e with e | ⟨o, h1, h2, h3⟩
    · exact ⟨i, hi, rfl, e⟩
    · exact ⟨o, by omega, of_decide_eq_true h2, h3⟩
  obtain ⟨o, h1, h2, h3⟩ := at1
  have l24 : q_gs F S i < 24 := by rw [h3]; exact t.ord _ h1
  refine ⟨l24, ?_, fun c hc => ?_⟩
  · rw [h3, q_q, q_dl_at t hf h1, decide_eq_false (by omega)]
    exact decide_eq_true h2
  · rw [← Bool.not_eq_true]
    intro z
    rw [q_q, Bool.and_eq_true] at z
    obtain ⟨z1, z2⟩ := z
    have hp := t.2.2.2.2.1 hf
    have hx := g_ix_perm hp (show c < 24 by omega)
    have ho := g_ix_of hp (show c < 24 by omega)
    have z3 : ¬ g_ix (c_order S) c 24 0 < c_dealt S := by
      intro q
      rw [q_dl, decide_eq_true q] at z1
      cases z1
    have q := b (g_ix (c_order S) c 24 0 - c_dealt S) (by omega) (by
      rw [g_mk, show c_dealt S + (g_ix (c_order S) c 24 0 - c_dealt S) = g_ix (c_order S) c 24 0 by omega, ho]
      exact z2)
    rw [show c_dealt S + (g_ix (c_order S) c 24 0 - c_dealt S) = g_ix (c_order S) c 24 0 by omega, ho] at q
    omega
/-- the marks that are there once -/
theorem g_once {f : Nat → Nat} (hf : ∀ k, k < 24 → f k < 16) : g_cnt (fun k => g_cnt (fun e => f k == f e) 24 == 1) 24 = g_cnt (fun v => g_cnt (fun c => f c == v) 24 == 1) 16 := by
  have e1 : g_cnt (fun k => g_cnt (fun e => f k == f e) 24 == 1) 24 = g_cnt (fun k => (fun v => g_cnt (fun c => f c == v) 24 == 1) (f k)) 24 := by
    refine g_cnt_congr (fun k hk => ?_)
    dsimp only
    congr 1
    exact g_cnt_congr (fun e he => by rw [Bool.beq_comm])
  rw [e1, g_fib (P := fun v => g_cnt (fun c => f c == v) 24 == 1) 24 hf, ← g_tot_p]
  refine g_tot_congr (fun v hv => ?_)
  by_cases z : (g_cnt (fun c => f c == v) 24 == 1) = true
  · rw [if_pos z, if_pos z]; exact of_decide_eq_true z
  · rw [if_neg z, if_neg z]
