/-! Pure rows, 8: what is told, counted, summed up. -/
theorem pq_bb (x : Bool) : (if pq_b x = 0 then some (0 : Int32) else some 1) = some (pq_b x) := by cases x <;> rfl
def pq_told (mi : Int32) (nt fg wt : Nat → Int32) (q c : Nat) : Int32 := match q with
  | 0 => fg c
  | 1 => nt (4 * c) - nt (4 * c) / 7 * 7
  | 2 => pq_b (pq_set nt c)
  | 3 => pq_b (pq_rt nt fg c)
  | 4 => pq_stp nt c
  | _ => pq_cost mi nt fg wt c
def pq_sum (g : Nat → Int32) : Nat → Int32
  | 0 => 0
  | k + 1 => pq_sum g k + g k
theorem pq_sumA (g : Nat → Int32) (a : Nat) : ∀ k, pq_sum g (a + k) = pq_sum g a + pq_sum (fun j => g (a + j)) k := by
  intro k
  induction k with
  | zero => exact (Int32.add_zero _).symm
  | succ k ih =>
    show pq_sum g (a + k) + g (a + k) = pq_sum g a + (pq_sum (fun j => g (a + j)) k + g (a + k))
    rw [ih, Int32.add_assoc]
theorem pq_sumC {g h : Nat → Int32} : ∀ k, (∀ j, j < k → g j = h j) → pq_sum g k = pq_sum h k := by
  intro k
  induction k with
  | zero => intro _; rfl
  | succ k ih =>
    intro e
    show pq_sum g k + g k = pq_sum h k + h k
    rw [ih (fun j hj => e j (by omega)), e k (by omega)]
theorem pq_sum1 : ∀ k, pq_sum (fun _ => 1) k = nI k := by
  intro k
  induction k with
  | zero => rfl
  | succ k ih =>
    show pq_sum (fun _ => 1) k + 1 = nI (k + 1)
    rw [ih, pq_p1]
def pq_cnt (mi : Int32) (nt fg wt : Nat → Int32) (q c : Nat) : Int32 := match q with
  | 0 => 1
  | 1 => pq_b (pq_set nt c)
  | 2 => pq_b (pq_rt nt fg c)
  | 3 => pq_stp nt c
  | 4 => pq_sum (pq_fo mi nt fg c) 8
  | _ => pq_cost mi nt fg wt c
def pq_cntT (n : Nat) (mi : Int32) (nt fg wt : Nat → Int32) (q : Nat) : Int32 := if q = 6 then (if mi = 0 then 0 else 1) else pq_sum (pq_cnt mi nt fg wt q) n
section
variable {mi th : Int32} {fg nt wt wl : Nat → Int32} {n c : Nat}
theorem pq_tell (hi : pq_inv n nt fg) (hc : c < n) (hn : n ≤ 12) {q : Nat} (hq : q < 6) : fX0_tellOf (nI n) mi fg nt wt wl (nI c) (nI q) = some (pq_told mi nt fg wt q c) := by
  unfold fX0_tellOf
  rcases (show q = 0 ∨ q = 1 ∨ q = 2 ∨ q = 3 ∨ q = 4 ∨ q = 5 by omega) with rfl | rfl | rfl | rfl | rfl | rfl
  · rw [if_pos (show nI 0 = 0 from rfl), pq_ix (show c < 12 by omega) (by decide), pq_ck, pq_cl (by omega)]
    rfl
  · rw [if_neg (by decide), if_pos (show nI 1 = 1 from rfl), pq_note0 (by omega)]
    rfl
  · rw [if_neg (by decide), if_neg (by decide), if_pos (show nI 2 = 2 from rfl), pq_isSet hc hn]
    exact pq_bb _
  · rw [if_neg (by decide), if_neg (by decide), if_neg (by decide), if_pos (show nI 3 = 3 from rfl), pq_isRight hc hn (hi c hc)]
    exact pq_bb _
  · rw [if_neg (by decide), if_neg (by decide), if_neg (by decide), if_neg (by decide), if_pos (show nI 4 = 4 from rfl), pq_steps hc hn]
    rfl
  · rw [if_neg (by decide), if_neg (by decide), if_neg (by decide), if_neg (by decide), if_neg (by decide), pq_costOf hi hc hn]
    rfl
theorem pq_tell1 (hi : pq_inv n nt fg) (hc : c < n) (hn : n ≤ 12) {q : Nat} (hq : q < 6) : fX1_chordTold th (nI n) nt fg wt mi (nI c) (nI q) = some (pq_told mi nt fg wt q c) := by
  unfold fX1_chordTold
  rcases (show q = 0 ∨ q = 1 ∨ q = 2 ∨ q = 3 ∨ q = 4 ∨ q = 5 by omega) with rfl | rfl | rfl | rfl | rfl | rfl
  · rw [if_pos (show nI 0 = 0 from rfl), pq_ix (show c < 12 by omega) (by decide), pq_ck, pq_cl (by omega)]
    rfl
  · rw [if_neg (by decide), if_pos (show nI 1 = 1 from rfl), pq_at0 (by omega)]
    rfl
  · rw [if_neg (by decide), if_neg (by decide), if_pos (show nI 2 = 2 from rfl), pq_isSet1 (by omega)]
    exact pq_bb _
  · rw [if_neg (by decide), if_neg (by decide), if_neg (by decide), if_pos (show nI 3 = 3 from rfl), pq_isRight1 (by omega) (hi c hc)]
    exact pq_bb _
  · rw [if_neg (by decide), if_neg (by decide), if_neg (by decide), if_neg (by decide), if_pos (show nI 4 = 4 from rfl), pq_steps1 (by omega)]
    rfl
  · rw [if_neg (by decide), if_neg (by decide), if_neg (by decide), if_neg (by decide), if_neg (by decide), pq_cost1 hi hc hn]
    rfl
theorem pq_allFL (hi : pq_inv n nt fg) (hc : c < n) (hn : n ≤ 12) : ∀ (j m k : Nat), j + k = 8 → j < m → lpX0_allFaultsOf_4 (nI c) (nI n) mi fg nt wt wl m (nI k) (pq_sum (pq_fo mi nt fg c) k) = some (nI 8, pq_sum (pq_fo mi nt fg c) 8) := by
  intro j
  induction j with
  | zero =>
    intro m k h1 h2
    obtain ⟨m, rfl⟩ : ∃ z, m = z + 1 := ⟨m - 1, by omega⟩
    obtain rfl : k = 8 := by omega
    rw [lpX0_allFaultsOf_4.eq_2, if_pos (by decide)]
  | succ j ih =>
    intro m k h1 h2
    obtain ⟨m, rfl⟩ : ∃ z, m = z + 1 := ⟨m - 1, by omega⟩
    rw [lpX0_allFaultsOf_4.eq_2, if_neg (by exact nI_ge (a := k) (b := 8) (by omega) (by decide)), pq_faultsOf hi hc hn (by omega), pq_p1]
    exact ih m (k + 1) (by omega) (by omega)
theorem pq_allF (hi : pq_inv n nt fg) (hc : c < n) (hn : n ≤ 12) : fX0_allFaultsOf (nI n) mi fg nt wt wl (nI c) = some (pq_sum (pq_fo mi nt fg c) 8) := by
  unfold fX0_allFaultsOf
  rw [show lpX0_allFaultsOf_4 (nI c) (nI n) mi fg nt wt wl 14 0 0 = _ from pq_allFL hi hc hn 8 14 0 rfl (by decide)]
  rfl
theorem pq_countL (hi : pq_inv n nt fg) (hn : n ≤ 12) {q : Nat} (hq : q < 6) : ∀ (j m k : Nat), j + k = n → j < m → lpX0_countOf_23 (nI q) (nI n) mi fg nt wt wl m (nI k) (pq_sum (pq_cnt mi nt fg wt q) k) = some (nI n, pq_sum (pq_cnt mi nt fg wt q) n) := by
  intro j
  induction j with
  | zero =>
    intro m k h1 h2
    obtain ⟨m, rfl⟩ : ∃ z, m = z + 1 := ⟨m - 1, by omega⟩
    obtain rfl : k = n := by omega
    rw [lpX0_countOf_23.eq_2, if_pos (nI_le (Nat.le_refl _) (by omega))]
  | succ j ih =>
    intro m k h1 h2
    obtain ⟨m, rfl⟩ : ∃ z, m = z + 1 := ⟨m - 1, by omega⟩
    rw [lpX0_countOf_23.eq_2, if_neg (nI_ge (show k < n by omega) (by omega)), pq_p1]
    refine Eq.trans ?_ (ih m (k + 1) (by omega) (by omega))
    show _ = lpX0_countOf_23 (nI q) (nI n) mi fg nt wt wl m (nI (k + 1)) (pq_sum (pq_cnt mi nt fg wt q) k + pq_cnt mi nt fg wt q k)
    rcases (show q = 0 ∨ q = 1 ∨ q = 2 ∨ q = 3 ∨ q = 4 ∨ q = 5 by omega) with rfl | rfl | rfl | rfl | rfl | rfl
    · rw [if_pos (show nI 0 = 0 from rfl)]
      rfl
    · rw [if_neg (by decide), if_pos (show nI 1 = 1 from rfl), pq_isSet (by omega) hn]
      simp only [fb_b1]
      rw [pq_bb]
      rfl
    · rw [if_neg (by decide), if_neg (by decide), if_pos (show nI 2 = 2 from rfl), pq_isRight (by omega) hn (hi k (by omega))]
      simp only [fb_b1]
      rw [pq_bb]
      rfl
    · rw [if_neg (by decide), if_neg (by decide), if_neg (by decide), if_pos (show nI 3 = 3 from rfl), pq_steps (by omega) hn]
      rfl
    · rw [if_neg (by decide), if_neg (by decide), if_neg (by decide), if_neg (by decide), if_pos (show nI 4 = 4 from rfl), pq_allF hi (by omega) hn]
      rfl
    · rw [if_neg (by decide), if_neg (by decide), if_neg (by decide), if_neg (by decide), if_neg (by decide), pq_costOf hi (by omega) hn]
      rfl
theorem pq_mi : (if mi = 0 then some (0 : Int32) else some 1) = some (if mi = 0 then 0 else 1) := by
  by_cases h : mi = 0
  · rw [if_pos h, if_pos h]
  · rw [if_neg h, if_neg h]
theorem pq_count (hi : pq_inv n nt fg) (hn : n ≤ 12) {q : Nat} (hq : q < 7) : fX0_countOf (nI n) mi fg nt wt wl (nI q) = some (pq_cntT n mi nt fg wt q) := by
  unfold fX0_countOf pq_cntT
  by_cases h : q = 6
  · subst h
    rw [if_pos (show nI 6 = 6 from rfl), if_pos rfl]
    exact pq_mi
  · rw [if_neg (show ¬ nI q = 6 from fun z => h ((nI_eq (a := q) (b := 6) (by omega) (by decide)).mp z)), if_neg h, show lpX0_countOf_23 (nI q) (nI n) mi fg nt wt wl 14 0 0 = _ from pq_countL hi hn (show q < 6 by omega) n 14 0 (by omega) (by omega)]
    rfl
theorem pq_allL1 (hi : pq_inv n nt fg) (hn : n ≤ 12) {q : Nat} (hq : q < 6) : ∀ (j m k : Nat), j + k = n → j < m → lpX1_all_4 (nI q) th (nI n) nt fg wt mi m (nI k) (pq_sum (pq_told mi nt fg wt q) k) = some (nI n, pq_sum (pq_told mi nt fg wt q) n) := by
  intro j
  induction j with
  | zero =>
    intro m k h1 h2
    obtain ⟨m, rfl⟩ : ∃ z, m = z + 1 := ⟨m - 1, by omega⟩
    obtain rfl : k = n := by omega
    rw [lpX1_all_4.eq_2, if_pos (nI_le (Nat.le_refl _) (by omega))]
  | succ j ih =>
    intro m k h1 h2
    obtain ⟨m, rfl⟩ : ∃ z, m = z + 1 := ⟨m - 1, by omega⟩
    rw [lpX1_all_4.eq_2, if_neg (nI_ge (show k < n by omega) (by omega)), pq_tell1 hi (by omega) hn hq, pq_p1]
    exact ih m (k + 1) (by omega) (by omega)
theorem pq_all1 (hi : pq_inv n nt fg) (hn : n ≤ 12) {q : Nat} (hq : q < 6) : fX1_all th (nI n) nt fg wt mi (nI q) = some (pq_sum (pq_told mi nt fg wt q) n) := by
  unfold fX1_all
  rw [show lpX1_all_4 (nI q) th (nI n) nt fg wt mi 14 0 0 = _ from pq_allL1 hi hn hq n 14 0 (by omega) (by omega)]
  rfl
def pq_fo8 (mi : Int32) (nt fg : Nat → Int32) (v : Nat) : Int32 := pq_fo mi nt fg (v / 8) (v % 8)
theorem pq_fo8S (mi : Int32) (nt fg : Nat → Int32) : ∀ n, pq_sum (pq_fo8 mi nt fg) (8 * n) = pq_sum (fun c => pq_sum (pq_fo mi nt fg c) 8) n := by
  intro n
  induction n with
  | zero => rfl
  | succ n ih =>
    rw [show 8 * (n + 1) = 8 * n + 8 by omega, pq_sumA, ih]
    show _ = pq_sum (fun c => pq_sum (pq_fo mi nt fg c) 8) n + pq_sum (pq_fo mi nt fg n) 8
    rw [pq_sumC (h := pq_fo mi nt fg n) 8 (fun j hj => by
      show pq_fo mi nt fg ((8 * n + j) / 8) ((8 * n + j) % 8) = _
      rw [show (8 * n + j) / 8 = n by omega, show (8 * n + j) % 8 = j by omega])]
theorem pq_aFL (hi : pq_inv n nt fg) (hn : n ≤ 12) : ∀ (j m k : Nat), j + k = 8 * n → j < m → lpX1_allFaults_4 th (nI n) nt fg wt mi m (nI k) (pq_sum (pq_fo8 mi nt fg) k) = some (nI (8 * n), pq_sum (pq_fo8 mi nt fg) (8 * n)) := by
  have e8 : (8 : Int32) * nI n = nI (8 * n) := by rw [show (8 : Int32) = nI 8 from rfl, pk_mul]
  intro j
  induction j with
  | zero =>
    intro m k h1 h2
    obtain ⟨m, rfl⟩ : ∃ z, m = z + 1 := ⟨m - 1, by omega⟩
    obtain rfl : k = 8 * n := by omega
    rw [lpX1_allFaults_4.eq_2, e8, if_pos (nI_le (Nat.le_refl _) (by omega))]
  | succ j ih =>
    intro m k h1 h2
    obtain ⟨m, rfl⟩ : ∃ z, m = z + 1 := ⟨m - 1, by omega⟩
    have d1 : nI k / 8 = nI (k / 8) := pk_div (a := k) (d := 8) (by omega) (by decide) (by decide)
    have d2 : nI k - nI k / 8 * 8 = nI (k % 8) := pk_rem (a := k) (d := 8) (by omega) (by decide) (by decide)
    rw [lpX1_allFaults_4.eq_2, e8, if_neg (nI_ge (show k < 8 * n by omega) (by omega)), d2, d1, pq_faultsOf1 hi (by omega) hn (by omega), pq_p1]
    exact ih m (k + 1) (by omega) (by omega)
theorem pq_aF (hi : pq_inv n nt fg) (hn : n ≤ 12) : fX1_allFaults th (nI n) nt fg wt mi = some (pq_sum (fun c => pq_sum (pq_fo mi nt fg c) 8) n) := by
  unfold fX1_allFaults
  rw [show lpX1_allFaults_4 th (nI n) nt fg wt mi 100 0 0 = _ from pq_aFL hi hn (8 * n) 100 0 (by omega) (by omega), ← pq_fo8S]
  rfl
theorem pq_counted (hi : pq_inv n nt fg) (hn : n ≤ 12) {q : Nat} (hq : q < 7) : fX1_counted th (nI n) nt fg wt mi (nI q) = some (pq_cntT n mi nt fg wt q) := by
  unfold fX1_counted pq_cntT
  rcases (show q = 0 ∨ q = 1 ∨ q = 2 ∨ q = 3 ∨ q = 4 ∨ q = 5 ∨ q = 6 by omega) with rfl | rfl | rfl | rfl | rfl | rfl | rfl
  · rw [if_pos (show nI 0 = 0 from rfl), if_neg (by decide)]
    exact congrArg some (pq_sum1 n).symm
  · rw [if_neg (by decide), if_pos (show nI 1 = 1 from rfl), if_neg (by decide), show nI 1 + 1 = nI 2 from rfl, pq_all1 hi hn (by decide)]
    rfl
  · rw [if_neg (by decide), if_neg (by decide), if_pos (show nI 2 = 2 from rfl), if_neg (by decide), show nI 2 + 1 = nI 3 from rfl, pq_all1 hi hn (by decide)]
    rfl
  · rw [if_neg (by decide), if_neg (by decide), if_neg (by decide), if_pos (show nI 3 = 3 from rfl), if_neg (by decide), show fX1_all th (nI n) nt fg wt mi 4 = _ from pq_all1 (q := 4) hi hn (by decide)]
    rfl
  · rw [if_neg (by decide), if_neg (by decide), if_neg (by decide), if_neg (by decide), if_pos (show nI 4 = 4 from rfl), if_neg (by decide), pq_aF hi hn]
    rfl
  · rw [if_neg (by decide), if_neg (by decide), if_neg (by decide), if_neg (by decide), if_neg (by decide), if_pos (show nI 5 = 5 from rfl), if_neg (by decide), show fX1_all th (nI n) nt fg wt mi 5 = _ from pq_all1 (q := 5) hi hn (by decide)]
    rfl
  · rw [if_neg (by decide), if_neg (by decide), if_neg (by decide), if_neg (by decide), if_neg (by decide), if_neg (by decide), if_pos rfl]
    exact pq_mi
end
