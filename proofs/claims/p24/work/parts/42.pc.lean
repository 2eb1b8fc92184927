/-! Pure rows, 3: the faults of single voices, all faults, steps, cost. -/
def pq_flt (k : Nat) (nt fg : Nat → Int32) (d v : Nat) : Bool := match k with
  | 3 => decide (fg (d + 1) = 4) && (decide (pq_st (nt (4 * (d + 1) + v)) (nt (4 * (d + 1))) = 3) && decide (¬ pq_go nt d v = 0))
  | 4 => decide (fg d = 4) && (decide (pq_st (nt (4 * d + v)) (nt (4 * d)) = 3) && decide (¬ pq_go nt d v = -1))
  | 5 => decide (nt (4 * (d + 1)) - nt (4 * (d + 1)) / 7 * 7 = 0) && (decide (nt (4 * d + v) - nt (4 * d + v) / 7 * 7 = 6) && decide (¬ pq_go nt d v = 1))
  | 6 => decide (fg d = 3) && (decide (pq_st (nt (4 * d + v)) (nt (4 * d)) = 6) && (decide (¬ pq_go nt d v = 0) && decide (¬ pq_go nt d v = -1)))
  | _ => decide (¬ pq_abs (pq_go nt d v) ≤ 4)
theorem pq_d5 : ∀ x, x < 28 → ∀ y, y < 28 → ((if 4 < nI y - nI x then some (1 : Int32) else if -4 ≤ nI y - nI x then some 0 else some 1) = some (pq_b (decide (¬ pq_abs (nI y - nI x) ≤ 4)))) := by decide +kernel
section
variable {sz mi th ch : Int32} {fg nt wt wl : Nat → Int32}
theorem pq_stepA {b x : Nat} (hb : b < 14) (hx : x < 28) : fX0_stepAbove (nI b) (nI x) = some (pq_st (nI x) (nI b)) := by
  rw [pq_step0 b hb x hx, pq_step1 b hb x hx]
theorem pq_atF {d v k : Nat} (h : pq_two nt fg d) (hv : v < 4) (h3 : 3 ≤ k) (h8 : k < 8) : fX0_isAtFault sz mi fg nt wt wl (nI (d + 1)) (nI v) (nI k) = some (pq_b (pq_flt k nt fg d v)) := by
  obtain ⟨hd, o1, o2, s1, s2⟩ := h
  obtain ⟨x, hx, ex⟩ := pq_nv o1 s1 v hv
  obtain ⟨y, hy, ey⟩ := pq_nv o2 s2 v hv
  obtain ⟨⟨b, hb, eb⟩, -, -, -, f, hf, ef⟩ := o1
  obtain ⟨⟨b', hb', eb'⟩, -, -, -, f', hf', ef'⟩ := o2
  unfold fX0_isAtFault
  rw [pq_m1, pq_note (by omega) hv, pq_note hd hv, pq_note0 hd, pq_note0 (by omega), pq_ix hd (by decide), pq_ix (show d < 12 by omega) (by decide)]
  simp only [fb_b1, pq_ck, pq_cl (show d + 1 < 2 ^ 31 by omega), pq_cl (show d < 2 ^ 31 by omega)]
  have hst : fX0_stepAbove (nt (4 * (d + 1))) (nt (4 * (d + 1) + v)) = some (pq_st (nt (4 * (d + 1) + v)) (nt (4 * (d + 1)))) := by rw [eb', ey]; exact pq_stepA hb' hy
  have hst2 : fX0_stepAbove (nt (4 * d)) (nt (4 * d + v)) = some (pq_st (nt (4 * d + v)) (nt (4 * d))) := by rw [eb, ex]; exact pq_stepA hb hx
  rw [hst, hst2]
  simp only
  have hg : nt (4 * (d + 1) + v) - nt (4 * d + v) = pq_go nt d v := rfl
  rw [hg]
  rcases (show k = 3 ∨ k = 4 ∨ k = 5 ∨ k = 6 ∨ k = 7 by omega) with rfl | rfl | rfl | rfl | rfl
  · rw [if_pos (show nI 3 = 3 from rfl)]
    unfold pq_flt
    by_cases c1 : fg (d + 1) = 4 <;> by_cases c2 : pq_st (nt (4 * (d + 1) + v)) (nt (4 * (d + 1))) = 3 <;> by_cases c3 : pq_go nt d v = 0 <;> simp [c1, c2, c3, pq_b]
  · rw [if_neg (by decide), if_pos (show nI 4 = 4 from rfl)]
    unfold pq_flt
    by_cases c1 : fg d = 4 <;> by_cases c2 : pq_st (nt (4 * d + v)) (nt (4 * d)) = 3 <;> by_cases c3 : pq_go nt d v = -1 <;> simp [c1, c2, c3, pq_b]
  · rw [if_neg (by decide), if_neg (by decide), if_pos (show nI 5 = 5 from rfl)]
    unfold pq_flt
    by_cases c1 : nt (4 * (d + 1)) - nt (4 * (d + 1)) / 7 * 7 = 0 <;> by_cases c2 : nt (4 * d + v) - nt (4 * d + v) / 7 * 7 = 6 <;> by_cases c3 : pq_go nt d v = 1 <;> simp [c1, c2, c3, pq_b]
  · rw [if_neg (by decide), if_neg (by decide), if_neg (by decide), if_pos (show nI 6 = 6 from rfl)]
    unfold pq_flt
    by_cases c1 : fg d = 3 <;> by_cases c2 : pq_st (nt (4 * d + v)) (nt (4 * d)) = 6 <;> by_cases c3 : pq_go nt d v = 0 <;> by_cases c4 : pq_go nt d v = -1 <;> simp [c1, c2, c3, c4, pq_b]
  · rw [if_neg (by decide), if_neg (by decide), if_neg (by decide), if_neg (by decide), if_pos (show nI 7 = 7 from rfl)]
    unfold pq_flt pq_go
    rw [ex, ey]
    exact pq_d5 x hx y hy
theorem pq_isF {d v k : Nat} (h : pq_two nt fg d) (hv : v < 4) (h3 : 3 ≤ k) (h8 : k < 8) : fX1_isFault th ch nt fg wt mi (nI (d + 1)) (nI k) (nI v) = some (pq_b (pq_flt k nt fg d v)) := by
  obtain ⟨hd, o1, o2, s1, s2⟩ := h
  unfold fX1_isFault
  rw [pq_goes hd hv, pq_m1, pq_at (by omega) hv, pq_at hd hv, pq_at0 hd, pq_at0 (by omega), pq_ix hd (by decide), pq_ix (show d < 12 by omega) (by decide)]
  simp only [fb_b1, pq_ck, pq_stepE, pq_cl (show d + 1 < 2 ^ 31 by omega), pq_cl (show d < 2 ^ 31 by omega)]
  rcases (show k = 3 ∨ k = 4 ∨ k = 5 ∨ k = 6 ∨ k = 7 by omega) with rfl | rfl | rfl | rfl | rfl
  · rw [if_pos (show nI 3 = 3 from rfl)]
    unfold pq_flt
    by_cases c1 : fg (d + 1) = 4 <;> by_cases c2 : pq_st (nt (4 * (d + 1) + v)) (nt (4 * (d + 1))) = 3 <;> by_cases c3 : pq_go nt d v = 0 <;> simp [c1, c2, c3, pq_b]
  · rw [if_neg (by decide), if_pos (show nI 4 = 4 from rfl)]
    unfold pq_flt
    by_cases c1 : fg d = 4 <;> by_cases c2 : pq_st (nt (4 * d + v)) (nt (4 * d)) = 3 <;> by_cases c3 : pq_go nt d v = -1 <;> simp [c1, c2, c3, pq_b]
  · rw [if_neg (by decide), if_neg (by decide), if_pos (show nI 5 = 5 from rfl)]
    unfold pq_flt
    by_cases c1 : nt (4 * (d + 1)) - nt (4 * (d + 1)) / 7 * 7 = 0 <;> by_cases c2 : nt (4 * d + v) - nt (4 * d + v) / 7 * 7 = 6 <;> by_cases c3 : pq_go nt d v = 1 <;> simp [c1, c2, c3, pq_b]
  · rw [if_neg (by decide), if_neg (by decide), if_neg (by decide), if_pos (show nI 6 = 6 from rfl)]
    unfold pq_flt
    by_cases c1 : fg d = 3 <;> by_cases c2 : pq_st (nt (4 * d + v)) (nt (4 * d)) = 6 <;> by_cases c3 : pq_go nt d v = 0 <;> by_cases c4 : pq_go nt d v = -1 <;> simp [c1, c2, c3, c4, pq_b]
  · rw [if_neg (by decide), if_neg (by decide), if_neg (by decide), if_neg (by decide)]
    unfold pq_flt pq_abs
    exact pq_iteN
def pq_fltS (k : Nat) (nt fg : Nat → Int32) (d : Nat) : Int32 := ((0 + pq_b (pq_flt k nt fg d 1)) + pq_b (pq_flt k nt fg d 2)) + pq_b (pq_flt k nt fg d 3)
theorem pq_vaf {d k : Nat} (h : pq_two nt fg d) (h3 : 3 ≤ k) (h8 : k < 8) : fX0_voicesAtFault sz mi fg nt wt wl (nI (d + 1)) (nI k) = some (pq_fltS k nt fg d) := by
  unfold fX0_voicesAtFault
  have L : ∀ (n v : Nat) (x : Int32), v < 4 → lpX0_voicesAtFault_5 (nI (d + 1)) (nI k) sz mi fg nt wt wl (n + 1) (nI v) x = lpX0_voicesAtFault_5 (nI (d + 1)) (nI k) sz mi fg nt wt wl n (nI (v + 1)) (x + pq_b (pq_flt k nt fg d v)) := by
    intro n v x hv
    rw [lpX0_voicesAtFault_5.eq_2, if_neg (by exact nI_nlt (a := 3) (b := v) (by omega) (by decide)), pq_atF h hv h3 h8, pq_p1]
    simp only [fb_b1, pq_b0]
    cases pq_flt k nt fg d v <;> simp [pq_b]
  rw [show lpX0_voicesAtFault_5 (nI (d + 1)) (nI k) sz mi fg nt wt wl 14 1 0 = lpX0_voicesAtFault_5 (nI (d + 1)) (nI k) sz mi fg nt wt wl 14 (nI 1) 0 from rfl, L _ _ _ (by decide), L _ _ _ (by decide), L _ _ _ (by decide), lpX0_voicesAtFault_5.eq_2, if_pos (by decide)]
  rfl
theorem pq_vaf1 {d k : Nat} (h : pq_two nt fg d) (h3 : 3 ≤ k) (h8 : k < 8) : fb_b2 (lpX1_faultsOf_54 (nI (d + 1)) (nI k) th ch nt fg wt mi 14 1 0) (fun _ o => some o) = some (pq_fltS k nt fg d) := by
  have L : ∀ (n v : Nat) (x : Int32), v < 4 → lpX1_faultsOf_54 (nI (d + 1)) (nI k) th ch nt fg wt mi (n + 1) (nI v) x = lpX1_faultsOf_54 (nI (d + 1)) (nI k) th ch nt fg wt mi n (nI (v + 1)) (x + pq_b (pq_flt k nt fg d v)) := by
    intro n v x hv
    rw [lpX1_faultsOf_54.eq_2, if_neg (by exact nI_ge (a := v) (b := 4) hv (by decide)), pq_isF h hv h3 h8, pq_p1]
    simp only [fb_b1, pq_b0]
    cases pq_flt k nt fg d v <;> simp [pq_b]
  rw [show lpX1_faultsOf_54 (nI (d + 1)) (nI k) th ch nt fg wt mi 14 1 0 = lpX1_faultsOf_54 (nI (d + 1)) (nI k) th ch nt fg wt mi 14 (nI 1) 0 from rfl, L _ _ _ (by decide), L _ _ _ (by decide), L _ _ _ (by decide), lpX1_faultsOf_54.eq_2, if_pos (by decide)]
  rfl
/-! a chord and the one ahead, both set -/
def pq_pair (nt : Nat → Int32) : Nat → Bool
  | 0 => false
  | d + 1 => pq_set nt (d + 1) && pq_set nt d
theorem pq_follows {n c : Nat} (hc : c < n) (hn : n ≤ 12) : fX0_follows (nI n) mi fg nt wt wl (nI c) = some (pq_b (pq_pair nt c)) := by
  unfold fX0_follows
  rw [pq_isSet hc hn]
  cases c with
  | zero =>
    rw [pq_isSetN (x := nI 0 - 1) (Or.inl (by decide))]
    cases pq_set nt 0 <;> rfl
  | succ d =>
    rw [pq_m1, pq_isSet (by omega) hn]
    show _ = some (pq_b (pq_set nt (d + 1) && pq_set nt d))
    cases pq_set nt (d + 1) <;> cases pq_set nt d <;> rfl
theorem pq_isPair {c : Nat} (hc : c < 12) : fX1_isPair th ch nt fg wt mi (nI c) = some (pq_b (pq_pair nt c)) := by
  unfold fX1_isPair
  cases c with
  | zero => rw [if_pos (by decide)]; rfl
  | succ d =>
    rw [if_neg (nI_nle (by omega) (by omega)), pq_isSet1 hc, pq_m1, pq_isSet1 (by omega)]
    show _ = some (pq_b (pq_set nt (d + 1) && pq_set nt d))
    cases pq_set nt (d + 1) <;> cases pq_set nt d <;> rfl
theorem pq_twoOf {n d : Nat} (hi : pq_inv n nt fg) (hc : d + 1 < n) (hn : n ≤ 12) (h : pq_pair nt (d + 1) = true) : pq_two nt fg d := by
  simp only [pq_pair, Bool.and_eq_true] at h
  exact ⟨by omega, hi d (by omega), hi (d + 1) hc, h.2, h.1⟩
def pq_fo2 (mi : Int32) (nt fg : Nat → Int32) (d : Nat) : Nat → Int32
  | 0 => pq_parSum mi nt d 7
  | 1 => pq_parSum mi nt d 0
  | 2 => pq_b (pq_hid mi nt d)
  | k + 3 => pq_fltS (k + 3) nt fg d
def pq_fo (mi : Int32) (nt fg : Nat → Int32) (c k : Nat) : Int32 := if pq_pair nt c then pq_fo2 mi nt fg (c - 1) k else 0
theorem pq_faultsOf {n c k : Nat} (hi : pq_inv n nt fg) (hc : c < n) (hn : n ≤ 12) (hk : k < 8) : fX0_faultsOf (nI n) mi fg nt wt wl (nI c) (nI k) = some (pq_fo mi nt fg c k) := by
  unfold fX0_faultsOf pq_fo
  rw [pq_follows hc hn]
  cases hp : pq_pair nt c with
  | false => rfl
  | true =>
    obtain ⟨d, rfl⟩ : ∃ d, c = d + 1 := by cases c with
      | zero => cases hp
      | succ d => exact ⟨d, rfl⟩
    have h2 := pq_twoOf hi hc hn hp
    simp only [fb_b1]
    rw [if_neg (show ¬ pq_b true = 0 by decide), if_pos trivial, pq_parallels h2, pq_parallels h2, pq_hidden h2]
    rcases (show k = 0 ∨ k = 1 ∨ k = 2 ∨ 3 ≤ k by omega) with rfl | rfl | rfl | h3
    · rfl
    · rfl
    · simp only [show ¬ nI 2 = 0 by decide, show ¬ nI 2 = 1 by decide, show nI 2 = 2 from rfl, if_false, if_true]
      cases hh : pq_hid mi nt d <;> simp [pq_b, pq_fo2, hh]
    · rw [if_neg (nI_ne0 (by omega) (by omega)), if_neg (fun z => by have := (nI_eq (a := k) (b := 1) (by omega) (by decide)).mp z; omega), if_neg (fun z => by have := (nI_eq (a := k) (b := 2) (by omega) (by decide)).mp z; omega), pq_vaf h2 h3 hk]
      obtain ⟨j, rfl⟩ : ∃ j, k = j + 3 := ⟨k - 3, by omega⟩
      rfl
theorem pq_faultsOf1 {n c k : Nat} (hi : pq_inv n nt fg) (hc : c < n) (hn : n ≤ 12) (hk : k < 8) : fX1_faultsOf th ch nt fg wt mi (nI c) (nI k) = some (pq_fo mi nt fg c k) := by
  unfold fX1_faultsOf pq_fo
  rw [pq_isPair (by omega)]
  cases hp : pq_pair nt c with
  | false => rfl
  | true =>
    obtain ⟨d, rfl⟩ : ∃ d, c = d + 1 := by cases c with
      | zero => cases hp
      | succ d => exact ⟨d, rfl⟩
    have h2 := pq_twoOf hi hc hn hp
    simp only [fb_b1]
    rw [if_neg (show ¬ pq_b true = 0 by decide), if_pos trivial, pq_hidden1 h2]
    rcases (show k = 0 ∨ k = 1 ∨ k = 2 ∨ 3 ≤ k by omega) with rfl | rfl | rfl | h3
    · rw [if_neg (by decide), if_pos (by decide)]
      have := pq_parallels1 (th := th) (ch := ch) (wt := wt) (mi := mi) h2 false
      simp only
      rw [show (1 : Int32) = pq_b (!false) from rfl, this]
      rfl
    · rw [if_neg (by decide), if_neg (by decide)]
      have := pq_parallels1 (th := th) (ch := ch) (wt := wt) (mi := mi) h2 true
      simp only
      rw [show (0 : Int32) = pq_b (!true) from rfl, this]
      rfl
    · rw [if_pos (by decide), if_pos (by decide)]
      simp only
      cases hh : pq_hid mi nt d <;> simp [pq_b, pq_fo2, hh]
    · rw [if_pos (show (2 : Int32) ≤ nI k from nI_le (a := 2) (b := k) (by omega) (by omega)), if_neg (fun z => by have := (nI_eq (a := k) (b := 2) (by omega) (by decide)).mp z; omega)]
      obtain ⟨j, rfl⟩ : ∃ j, k = j + 3 := ⟨k - 3, by omega⟩
      exact pq_vaf1 h2 h3 hk
/-! steps -/
def pq_stp (nt : Nat → Int32) (c : Nat) : Int32 := if pq_pair nt c then ((0 + pq_abs (pq_go nt (c - 1) 1)) + pq_abs (pq_go nt (c - 1) 2)) + pq_abs (pq_go nt (c - 1) 3) else 0
theorem pq_steps {n c : Nat} (hc : c < n) (hn : n ≤ 12) : fX0_stepsGone (nI n) mi fg nt wt wl (nI c) = some (pq_stp nt c) := by
  unfold fX0_stepsGone pq_stp
  rw [pq_follows hc hn]
  cases hp : pq_pair nt c with
  | false => rfl
  | true =>
    obtain ⟨d, rfl⟩ : ∃ d, c = d + 1 := by cases c with
      | zero => cases hp
      | succ d => exact ⟨d, rfl⟩
    have L : ∀ (m v : Nat) (x : Int32), v < 4 → lpX0_stepsGone_14 (nI (d + 1)) (nI n) mi fg nt wt wl (m + 1) (nI v) x = lpX0_stepsGone_14 (nI (d + 1)) (nI n) mi fg nt wt wl m (nI (v + 1)) (x + pq_abs (pq_go nt d v)) := by
      intro m v x hv
      rw [lpX0_stepsGone_14.eq_2, if_neg (by exact nI_nlt (a := 3) (b := v) (by omega) (by decide)), pq_note (by omega) hv, pq_m1, pq_note (by omega) hv, pq_p1]
      rfl
    simp only [fb_b1]
    rw [if_neg (show ¬ pq_b true = 0 by decide), if_pos trivial, show lpX0_stepsGone_14 (nI (d + 1)) (nI n) mi fg nt wt wl 14 1 0 = lpX0_stepsGone_14 (nI (d + 1)) (nI n) mi fg nt wt wl 14 (nI 1) 0 from rfl, L _ _ _ (by decide), L _ _ _ (by decide), L _ _ _ (by decide), lpX0_stepsGone_14.eq_2, if_pos (by decide)]
    rfl
theorem pq_steps1 {c : Nat} (hc : c < 12) : fX1_steps th ch nt fg wt mi (nI c) = some (pq_stp nt c) := by
  unfold fX1_steps pq_stp
  cases hp : pq_pair nt c with
  | false =>
    rw [lpX1_steps_4.eq_2, if_neg (by decide), pq_isPair hc, hp]
    rfl
  | true =>
    obtain ⟨d, rfl⟩ : ∃ d, c = d + 1 := by cases c with
      | zero => cases hp
      | succ d => exact ⟨d, rfl⟩
    have L : ∀ (m v : Nat) (x : Int32), v < 4 → lpX1_steps_4 (nI (d + 1)) th ch nt fg wt mi (m + 1) (nI v) x = lpX1_steps_4 (nI (d + 1)) th ch nt fg wt mi m (nI (v + 1)) (x + pq_abs (pq_go nt d v)) := by
      intro m v x hv
      rw [lpX1_steps_4.eq_2, if_neg (by exact nI_ge (a := v) (b := 4) hv (by decide)), pq_isPair hc, hp, pq_goes hc hv, pq_p1]
      rfl
    rw [show lpX1_steps_4 (nI (d + 1)) th ch nt fg wt mi 14 1 0 = lpX1_steps_4 (nI (d + 1)) th ch nt fg wt mi 14 (nI 1) 0 from rfl, L _ _ _ (by decide), L _ _ _ (by decide), L _ _ _ (by decide), lpX1_steps_4.eq_2, if_pos (by decide)]
    rfl
/-! cost -/
def pq_rt (nt fg : Nat → Int32) (c : Nat) : Bool := pq_set nt c && pq_right (nt (4 * c)) (nt (4 * c + 1)) (nt (4 * c + 2)) (nt (4 * c + 3)) (nI (pq_FIG (fg c).toNatClampNeg))
def pq_wsum (mi : Int32) (nt fg wt : Nat → Int32) (c : Nat) : Nat → Int32 → Int32
  | 0, x => x
  | k + 1, x => pq_wsum mi nt fg wt c k x + wt k * pq_fo mi nt fg c k
def pq_cost (mi : Int32) (nt fg wt : Nat → Int32) (c : Nat) : Int32 := if pq_set nt c then pq_wsum mi nt fg wt c 8 ((if pq_rt nt fg c then 0 else 30) + pq_stp nt c) else 0
theorem pq_costL {n c : Nat} (hi : pq_inv n nt fg) (hc : c < n) (hn : n ≤ 12) (y : Int32) : ∀ (j m k : Nat), j + k = 8 → j < m → lpX0_costOf_35 (nI c) (nI n) mi fg nt wt wl m (nI k) (pq_wsum mi nt fg wt c k y) = some (nI 8, pq_wsum mi nt fg wt c 8 y) := by
  intro j
  induction j with
  | zero =>
    intro m k h1 h2
    obtain ⟨m, rfl⟩ : ∃ z, m = z + 1 := ⟨m - 1, by omega⟩
    obtain rfl : k = 8 := by omega
    rw [lpX0_costOf_35.eq_2, if_pos (by decide)]
  | succ j ih =>
    intro m k h1 h2
    obtain ⟨m, rfl⟩ : ∃ z, m = z + 1 := ⟨m - 1, by omega⟩
    rw [lpX0_costOf_35.eq_2, if_neg (by exact nI_ge (a := k) (b := 8) (by omega) (by decide)), pq_ix (show k < 8 by omega) (by decide), pq_ck, pq_faultsOf hi hc hn (by omega), pq_p1, pq_cl (by omega)]
    exact ih m (k + 1) (by omega) (by omega)
theorem pq_costOf {n c : Nat} (hi : pq_inv n nt fg) (hc : c < n) (hn : n ≤ 12) : fX0_costOf (nI n) mi fg nt wt wl (nI c) = some (pq_cost mi nt fg wt c) := by
  unfold fX0_costOf pq_cost
  rw [pq_isSet hc hn, pq_isRight hc hn (hi c hc), pq_steps hc hn]
  cases hs : pq_set nt c with
  | false => rfl
  | true =>
    have e : (if pq_b (pq_rt nt fg c) = 0 then some (30 : Int32) else some 0) = some (if pq_rt nt fg c then 0 else 30) := by cases pq_rt nt fg c <;> rfl
    unfold pq_rt at e
    rw [hs] at e
    simp only [fb_b1]
    rw [if_neg (show ¬ pq_b true = 0 by decide), e]
    simp only
    rw [show lpX0_costOf_35 (nI c) (nI n) mi fg nt wt wl 14 0 = lpX0_costOf_35 (nI c) (nI n) mi fg nt wt wl 14 (nI 0) from rfl]
    have := pq_costL (mi := mi) (wt := wt) (wl := wl) hi hc hn ((if true && pq_right (nt (4 * c)) (nt (4 * c + 1)) (nt (4 * c + 2)) (nt (4 * c + 3)) (nI (pq_FIG (fg c).toNatClampNeg)) then 0 else 30) + pq_stp nt c) 8 14 0 rfl (by decide)
    rw [show pq_wsum mi nt fg wt c 0 = fun x => x from rfl] at this
    simp only at this
    rw [this]
    unfold pq_rt
    rw [hs]
    rfl
theorem pq_costN {n : Nat} {x : Int32} (h : x < 0 ∨ nI n ≤ x) : fX0_costOf (nI n) mi fg nt wt wl x = some 0 := by
  unfold fX0_costOf
  rw [pq_isSetN h]
  rfl
theorem pq_costL1 {n c : Nat} (hi : pq_inv n nt fg) (hc : c < n) (hn : n ≤ 12) (y : Int32) : ∀ (j m k : Nat), j + k = 8 → j < m → lpX1_cost_33 (nI c) th ch nt fg wt mi m (nI k) (pq_wsum mi nt fg wt c k y) = some (nI 8, pq_wsum mi nt fg wt c 8 y) := by
  intro j
  induction j with
  | zero =>
    intro m k h1 h2
    obtain ⟨m, rfl⟩ : ∃ z, m = z + 1 := ⟨m - 1, by omega⟩
    obtain rfl : k = 8 := by omega
    rw [lpX1_cost_33.eq_2, if_pos (by decide)]
  | succ j ih =>
    intro m k h1 h2
    obtain ⟨m, rfl⟩ : ∃ z, m = z + 1 := ⟨m - 1, by omega⟩
    rw [lpX1_cost_33.eq_2, if_neg (by exact nI_ge (a := k) (b := 8) (by omega) (by decide)), pq_ix (show k < 8 by omega) (by decide), pq_ck, pq_faultsOf1 hi hc hn (by omega), pq_p1, pq_cl (by omega)]
    exact ih m (k + 1) (by omega) (by omega)
theorem pq_cost1 {n c : Nat} (hi : pq_inv n nt fg) (hc : c < n) (hn : n ≤ 12) : fX1_cost th ch nt fg wt mi (nI c) = some (pq_cost mi nt fg wt c) := by
  unfold fX1_cost pq_cost
  rw [pq_isSet1 (by omega), pq_isRight1 (by omega) (hi c hc), pq_steps1 (by omega)]
  cases hs : pq_set nt c with
  | false => rfl
  | true =>
    have e : (if pq_b (pq_rt nt fg c) = 0 then some (30 : Int32) else some 0) = some (if pq_rt nt fg c then 0 else 30) := by cases pq_rt nt fg c <;> rfl
    unfold pq_rt at e
    rw [hs] at e
    simp only [fb_b1]
    rw [if_neg (show ¬ pq_b true = 0 by decide), e]
    simp only
    rw [show lpX1_cost_33 (nI c) th ch nt fg wt mi 14 0 = lpX1_cost_33 (nI c) th ch nt fg wt mi 14 (nI 0) from rfl, Int32.add_comm (pq_stp nt c)]
    have := pq_costL1 (th := th) (ch := ch) (mi := mi) (wt := wt) hi hc hn ((if true && pq_right (nt (4 * c)) (nt (4 * c + 1)) (nt (4 * c + 2)) (nt (4 * c + 3)) (nI (pq_FIG (fg c).toNatClampNeg)) then 0 else 30) + pq_stp nt c) 8 14 0 rfl (by decide)
    rw [show pq_wsum mi nt fg wt c 0 = fun x => x from rfl] at this
    simp only at this
    rw [this]
    unfold pq_rt
    rw [hs]
    rfl
end
