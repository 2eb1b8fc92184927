/-! The checksum: X0 and X1 in step (out of part 48 of whole). -/
section
variable {mi th : Int32} {fg nt wt wl : Nat → Int32} {n c : Nat} {ob : Nat → Int64} {a1 a2 a3 : Int32}
theorem pq_dgC (hn : n ≤ 12) (hi : pq_inv n nt fg) : ∀ (j m k : Nat) (z : Int64), j + k = 7 → j < m → ∃ z', lpX0_digest_6 (nI n) mi fg nt wt wl m (nI k) z = some (nI 7, z') ∧ lpX1_digest_11 (nI n) nt fg wt mi m (nI k) z = some (nI 7, z') := by
  intro j
  induction j with
  | zero =>
    intro m k z h1 h2
    obtain ⟨m, rfl⟩ : ∃ z, m = z + 1 := ⟨m - 1, by omega⟩
    obtain rfl : k = 7 := by omega
    exact ⟨z, by rw [lpX0_digest_6.eq_2, if_pos (by decide)], by rw [lpX1_digest_11.eq_2, if_pos (by decide)]⟩
  | succ j ih =>
    intro m k z h1 h2
    obtain ⟨m, rfl⟩ : ∃ z, m = z + 1 := ⟨m - 1, by omega⟩
    obtain ⟨z', g1, g2⟩ := ih m (k + 1) (z * 31 + (pq_cntT n mi nt fg wt k).toInt64) (by omega) (by omega)
    refine ⟨z', ?_, ?_⟩
    · rw [lpX0_digest_6.eq_2, if_neg (by exact nI_ge (a := k) (b := 7) (by omega) (by decide)), pq_count hi hn (by omega), pq_p1]
      exact g1
    · rw [lpX1_digest_11.eq_2, if_neg (by exact nI_ge (a := k) (b := 7) (by omega) (by decide)), pq_counted hi hn (by omega), pq_p1]
      exact g2
theorem pq_dgW : ∀ (j m k : Nat) (z : Int64), j + k = 8 → j < m → ∃ z', lpX0_digest_33 wt m (nI k) z = some (nI 8, z') ∧ lpX1_digest_48 wt m (nI k) z = some (nI 8, z') := by
  intro j
  induction j with
  | zero =>
    intro m k z h1 h2
    obtain ⟨m, rfl⟩ : ∃ z, m = z + 1 := ⟨m - 1, by omega⟩
    obtain rfl : k = 8 := by omega
    exact ⟨z, by rw [lpX0_digest_33.eq_2, if_pos (by decide)], by rw [lpX1_digest_48.eq_2, if_pos (by decide)]⟩
  | succ j ih =>
    intro m k z h1 h2
    obtain ⟨m, rfl⟩ : ∃ z, m = z + 1 := ⟨m - 1, by omega⟩
    obtain ⟨z', g1, g2⟩ := ih m (k + 1) (z * 31 + (wt k).toInt64) (by omega) (by omega)
    refine ⟨z', ?_, ?_⟩
    · rw [lpX0_digest_33.eq_2, if_neg (by exact nI_ge (a := k) (b := 8) (by omega) (by decide)), pq_ix (show k < 8 by omega) (by decide), pq_ck, pq_p1, pq_cl (by omega)]
      exact g1
    · rw [lpX1_digest_48.eq_2, if_neg (by exact nI_ge (a := k) (b := 8) (by omega) (by decide)), pq_ix (show k < 8 by omega) (by decide), pq_ck, pq_p1, pq_cl (by omega)]
      exact g2
theorem pq_dgN (hc : c < 12) : ∀ (j m k : Nat) (z : Int64), j + k = 4 → j < m → ∃ z', lpX0_digest_72 (nI n) mi fg nt wt (nI c) wl m (nI k) z = some (nI 4, z') ∧ lpX1_digest_90 (nI n) fg wt mi (nI c) nt m (nI k) z = some (nI 4, z') := by
  intro j
  induction j with
  | zero =>
    intro m k z h1 h2
    obtain ⟨m, rfl⟩ : ∃ z, m = z + 1 := ⟨m - 1, by omega⟩
    obtain rfl : k = 4 := by omega
    exact ⟨z, by rw [lpX0_digest_72.eq_2, if_pos (by decide)], by rw [lpX1_digest_90.eq_2, if_pos (by decide)]⟩
  | succ j ih =>
    intro m k z h1 h2
    obtain ⟨m, rfl⟩ : ∃ z, m = z + 1 := ⟨m - 1, by omega⟩
    obtain ⟨z', g1, g2⟩ := ih m (k + 1) (z * 31 + (nt (4 * c + k)).toInt64) (by omega) (by omega)
    refine ⟨z', ?_, ?_⟩
    · rw [lpX0_digest_72.eq_2, if_neg (by exact nI_ge (a := k) (b := 4) (by omega) (by decide)), pq_note hc (by omega), pq_p1]
      exact g1
    · rw [lpX1_digest_90.eq_2, if_neg (by exact nI_ge (a := k) (b := 4) (by omega) (by decide)), pq_at hc (by omega), pq_p1]
      exact g2
theorem pq_dgT (hn : n ≤ 12) (hi : pq_inv n nt fg) (hc : c < n) : ∀ (j m k : Nat) (z : Int64), j + k = 6 → j < m → ∃ z', lpX0_digest_102 (nI n) mi fg nt wt (nI c) wl m (nI k) z = some (nI 6, z') ∧ lpX1_digest_120 (nI n) fg wt mi (nI c) nt m (nI k) z = some (nI 6, z') := by
  intro j
  induction j with
  | zero =>
    intro m k z h1 h2
    obtain ⟨m, rfl⟩ : ∃ z, m = z + 1 := ⟨m - 1, by omega⟩
    obtain rfl : k = 6 := by omega
    exact ⟨z, by rw [lpX0_digest_102.eq_2, if_pos (by decide)], by rw [lpX1_digest_120.eq_2, if_pos (by decide)]⟩
  | succ j ih =>
    intro m k z h1 h2
    obtain ⟨m, rfl⟩ : ∃ z, m = z + 1 := ⟨m - 1, by omega⟩
    obtain ⟨z', g1, g2⟩ := ih m (k + 1) (z * 31 + (pq_told mi nt fg wt k c).toInt64) (by omega) (by omega)
    refine ⟨z', ?_, ?_⟩
    · rw [lpX0_digest_102.eq_2, if_neg (by exact nI_ge (a := k) (b := 6) (by omega) (by decide)), pq_tell hi hc hn (by omega), pq_p1]
      exact g1
    · rw [lpX1_digest_120.eq_2, if_neg (by exact nI_ge (a := k) (b := 6) (by omega) (by decide)), pq_tell1 hi hc hn (by omega), pq_p1]
      exact g2
theorem pq_dgF (hn : n ≤ 12) (hi : pq_inv n nt fg) (hc : c < n) : ∀ (j m k : Nat) (z : Int64), j + k = 8 → j < m → ∃ z', lpX0_digest_133 (nI n) mi fg nt wt (nI c) wl m (nI k) z = some (nI 8, z') ∧ lpX1_digest_151 (nI n) fg wt mi (nI c) nt m (nI k) z = some (nI 8, z') := by
  intro j
  induction j with
  | zero =>
    intro m k z h1 h2
    obtain ⟨m, rfl⟩ : ∃ z, m = z + 1 := ⟨m - 1, by omega⟩
    obtain rfl : k = 8 := by omega
    exact ⟨z, by rw [lpX0_digest_133.eq_2, if_pos (by decide)], by rw [lpX1_digest_151.eq_2, if_pos (by decide)]⟩
  | succ j ih =>
    intro m k z h1 h2
    obtain ⟨m, rfl⟩ : ∃ z, m = z + 1 := ⟨m - 1, by omega⟩
    obtain ⟨z', g1, g2⟩ := ih m (k + 1) (z * 31 + (pq_fo mi nt fg c k).toInt64) (by omega) (by omega)
    refine ⟨z', ?_, ?_⟩
    · rw [lpX0_digest_133.eq_2, if_neg (by exact nI_ge (a := k) (b := 8) (by omega) (by decide)), pq_faultsOf hi hc hn (by omega), pq_p1]
      exact g1
    · rw [lpX1_digest_151.eq_2, if_neg (by exact nI_ge (a := k) (b := 8) (by omega) (by decide)), pq_faultsOf1 hi hc hn (by omega), pq_p1]
      exact g2
theorem pq_dgA (hn : n ≤ 12) (hi : pq_inv n nt fg) : ∀ (j m k : Nat) (z : Int64) (wl : Nat → Int32), j + k = n → j < m → ∃ z' wl', lpX0_digest_61 (nI n) mi fg nt wt m (nI k) z wl = some (nI n, z', wl') ∧ lpX1_digest_79 (nI n) fg wt mi m (nI k) z nt = some (nI n, z', nt) := by
  intro j
  induction j with
  | zero =>
    intro m k z wl h1 h2
    obtain ⟨m, rfl⟩ : ∃ z, m = z + 1 := ⟨m - 1, by omega⟩
    obtain rfl : k = n := by omega
    exact ⟨z, wl, by rw [lpX0_digest_61.eq_2, if_pos (nI_le (Nat.le_refl _) (by omega))], by rw [lpX1_digest_79.eq_2, if_pos (nI_le (Nat.le_refl _) (by omega))]⟩
  | succ j ih =>
    intro m k z wl h1 h2
    obtain ⟨m, rfl⟩ : ∃ z, m = z + 1 := ⟨m - 1, by omega⟩
    have hc : k < n := by omega
    obtain ⟨z1, p1, q1⟩ := pq_dgN (n := n) (mi := mi) (fg := fg) (nt := nt) (wt := wt) (wl := wl) (show k < 12 by omega) 4 14 0 z rfl (by decide)
    obtain ⟨z2, p2, q2⟩ := pq_dgT (mi := mi) (wt := wt) (wl := wl) hn hi hc 6 14 0 z1 rfl (by decide)
    obtain ⟨z3, p3, q3⟩ := pq_dgF (mi := mi) (wt := wt) (wl := wl) hn hi hc 8 14 0 z2 rfl (by decide)
    obtain ⟨z', wl', g1, g2⟩ := ih m (k + 1) (z3 * 31 + (nI (pq_ways nt fg k).length).toInt64) (pq_fill wl 0 (pq_ways nt fg k)) (by omega) (by omega)
    refine ⟨z', wl', ?_, ?_⟩
    · rw [lpX0_digest_61.eq_2, if_neg (nI_ge hc (by omega)), show lpX0_digest_72 (nI n) mi fg nt wt (nI k) wl 14 0 z = _ from p1]
      simp only [fb_b2]
      rw [show lpX0_digest_102 (nI n) mi fg nt wt (nI k) wl 14 0 z1 = _ from p2]
      simp only
      rw [show lpX0_digest_133 (nI n) mi fg nt wt (nI k) wl 14 0 z2 = _ from p3]
      simp only
      rw [pq_list (by omega) (hi k hc), pq_p1]
      exact g1
    · rw [lpX1_digest_79.eq_2, if_neg (nI_ge hc (by omega)), show lpX1_digest_90 (nI n) fg wt mi (nI k) nt 14 0 z = _ from q1]
      simp only [fb_b2]
      rw [show lpX1_digest_120 (nI n) fg wt mi (nI k) nt 14 0 z1 = _ from q2]
      simp only
      rw [show lpX1_digest_151 (nI n) fg wt mi (nI k) nt 14 0 z2 = _ from q3]
      simp only
      rw [pq_led hi hc hn, pq_p1]
      simp only [pq_z2, pq_f32]
      exact g2
theorem pq_oDigest (hn : n ≤ 12) (hi : pq_inv n nt fg) : ∃ z wl', fX0_digest (nI n) mi fg nt wt wl = some (z, wl') ∧ fX1_digest th (nI n) nt fg wt mi = some (z, 0, nt) := by
  obtain ⟨z1, p1, q1⟩ := pq_dgC (mi := mi) (wt := wt) (wl := wl) hn hi 7 14 0 1693 rfl (by decide)
  obtain ⟨z2, p2, q2⟩ := pq_dgW (wt := wt) 8 14 0 z1 rfl (by decide)
  obtain ⟨z3, wl', p3, q3⟩ := pq_dgA (mi := mi) (wt := wt) hn hi n 14 0 z2 wl (by omega) (by omega)
  refine ⟨z3, wl', ?_, ?_⟩
  · unfold fX0_digest
    rw [show lpX0_digest_6 (nI n) mi fg nt wt wl 14 0 1693 = _ from p1]
    simp only [fb_b2]
    rw [show lpX0_digest_33 wt 14 0 z1 = _ from p2]
    simp only
    rw [show lpX0_digest_61 (nI n) mi fg nt wt 14 0 z2 wl = _ from p3]
    rfl
  · unfold fX1_digest
    rw [show lpX1_digest_11 (nI n) nt fg wt mi 14 0 1693 = _ from q1]
    simp only [fb_b2]
    rw [show lpX1_digest_48 wt 14 0 z1 = _ from q2]
    simp only
    rw [show lpX1_digest_79 (nI n) fg wt mi 14 0 z2 nt = _ from q3]
    rfl
end

