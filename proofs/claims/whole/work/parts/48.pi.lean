/-! Pure rows, 9: leading, trying, advice, the mean, the digest. -/
section
variable {mi th : Int32} {fg nt wt wl : Nat → Int32} {n c : Nat} {ob : Nat → Int64} {a1 a2 a3 : Int32}
theorem pq_isLed0 (hi : pq_inv n nt fg) (hc : c < n) (hn : n ≤ 12) (h : (pq_bst n mi nt fg wt c).1 = -1) : fX1_isLed th (nI n) nt fg wt mi (nI c) = some (0, nt) := by
  unfold fX1_isLed
  rw [pq_led hi hc hn]
  simp only [fb_b2, pq_z0, pq_f30]
  rw [if_pos h]
  simp only [fb_b1]
  rw [if_pos h]
theorem pq_isLed1 (hi : pq_inv n nt fg) (hc : c < n) (hn : n ≤ 12) {y : Nat} (hy : y < 2 ^ 31) (h : (pq_bst n mi nt fg wt c).1 = nI y) : fX1_isLed th (nI n) nt fg wt mi (nI c) = some (1, pq_w nt c y) := by
  obtain ⟨e1, e2, e3⟩ := pq_deco hy
  unfold fX1_isLed
  rw [pq_led hi hc hn]
  simp only [fb_b2, pq_z0, pq_f30]
  rw [h, if_neg (pq_nIm hy), e1, e2, e3, pq_let (by omega)]
  simp only [fb_b1]
  rw [if_neg (pq_nIm hy)]
  rfl
theorem pq_oLead (hn : n ≤ 12) (hi : pq_inv n nt fg) : ∃ k r nt' wl' ob', fL_lead (nI n) mi fg nt wt wl ob a1 = some (k, nt', wl', ob') ∧ fX1_lead th (nI n) nt fg wt mi a1 = some (r, k, nt') ∧ pq_rs k r ob' ∧ pq_inv n nt' fg := by
  unfold fL_lead fX0_lead fX1_lead
  rcases pq_arg a1 hn with ⟨c, hc, rfl⟩ | hx
  · rw [pq_isC hc hn, pq_isC1 hc hn, pq_bestWay hi hc hn]
    rcases pq_bstOk (n := n) (mi := mi) (wt := wt) (hi c hc) with h | ⟨y, hy, h⟩
    · rw [pq_isLed0 hi hc hn h, h]
      exact ⟨2, _, nt, _, _, rfl, rfl, pq_rs2 _ _, hi⟩
    · have hy2 := pq_inRlt hy
      have hw := pq_invW (c := c) hi hy
      rw [pq_isLed1 hi hc hn hy2 h, h]
      refine ⟨0, pq_cost mi (pq_w nt c y) fg wt c, pq_w nt c y, pq_fill wl 0 (pq_ways nt fg c), vp_updL ob (0 : Int32).toNatClampNeg (pq_cost mi (pq_w nt c y) fg wt c).toInt64, ?_, ?_, pq_rs0 _ _, hw⟩
      · simp only [fb_b1, fb_b3]
        rw [if_neg (show ¬ (1 : Int32) = 0 by decide), if_pos (nI_pos' hy2), pq_putW (by omega) hy2]
        simp only
        rw [pq_costOf hw hc hn]
        rfl
      · simp only [fb_b1, fb_b2]
        rw [if_neg (show ¬ (1 : Int32) = 0 by decide), if_neg (show ¬ (1 : Int32) = 0 by decide), pq_cost1 hw hc hn]
  · rw [pq_isN hx, pq_isN1 hn hx]
    exact ⟨1, _, _, _, _, rfl, rfl, pq_rs1 _ _, hi⟩
theorem pq_leadL (hn : n ≤ 12) : ∀ (j m k : Nat) (x : Int32) (nt wl : Nat → Int32), j + k = n → j < m → pq_inv n nt fg → ∃ x' nt' wl', lpX0_leadAll_4 (nI n) mi fg wt m (nI k) x nt wl = some (nI n, x', nt', wl') ∧ lpX1_leadAll_9 (nI n) fg wt mi m (nI k) x nt = some (nI n, x', nt') ∧ pq_inv n nt' fg := by
  intro j
  induction j with
  | zero =>
    intro m k x nt wl h1 h2 hi
    obtain ⟨m, rfl⟩ : ∃ z, m = z + 1 := ⟨m - 1, by omega⟩
    obtain rfl : k = n := by omega
    refine ⟨x, nt, wl, ?_, ?_, hi⟩
    · rw [lpX0_leadAll_4.eq_2, if_pos (nI_le (Nat.le_refl _) (by omega))]
    · rw [lpX1_leadAll_9.eq_2, if_pos (nI_le (Nat.le_refl _) (by omega))]
  | succ j ih =>
    intro m k x nt wl h1 h2 hi
    obtain ⟨m, rfl⟩ : ∃ z, m = z + 1 := ⟨m - 1, by omega⟩
    have hc : k < n := by omega
    rcases pq_bstOk (n := n) (mi := mi) (wt := wt) (hi k hc) with h | ⟨y, hy, h⟩
    · obtain ⟨x', nt', wl', g1, g2, g3⟩ := ih m (k + 1) x nt (pq_fill wl 0 (pq_ways nt fg k)) (by omega) (by omega) hi
      refine ⟨x', nt', wl', ?_, ?_, g3⟩
      · rw [lpX0_leadAll_4.eq_2, if_neg (nI_ge hc (by omega)), pq_bestWay hi hc hn, h, pq_p1]
        exact g1
      · rw [lpX1_leadAll_9.eq_2, if_neg (nI_ge hc (by omega)), pq_isLed0 hi hc hn h, pq_p1]
        simp only [fb_b1, fb_b2]
        rw [if_pos trivial]
        simp only
        rw [Int32.add_zero]
        exact g2
    · have hy2 := pq_inRlt hy
      obtain ⟨x', nt', wl', g1, g2, g3⟩ := ih m (k + 1) (x + 1) (pq_w nt k y) (pq_fill wl 0 (pq_ways nt fg k)) (by omega) (by omega) (pq_invW (c := k) hi hy)
      refine ⟨x', nt', wl', ?_, ?_, g3⟩
      · rw [lpX0_leadAll_4.eq_2, if_neg (nI_ge hc (by omega)), pq_bestWay hi hc hn, h, pq_p1]
        simp only [fb_b2, fb_b3]
        rw [if_neg (nI_pos hy2), pq_putW (by omega) hy2]
        exact g1
      · rw [lpX1_leadAll_9.eq_2, if_neg (nI_ge hc (by omega)), pq_isLed1 hi hc hn hy2 h, pq_p1]
        exact g2
theorem pq_oLeadAll (hn : n ≤ 12) (hi : pq_inv n nt fg) : ∃ r nt' wl', fX0_leadAll (nI n) mi fg nt wt wl = some (r, nt', wl') ∧ fX1_leadAll th (nI n) nt fg wt mi = some (r, 0, nt') ∧ pq_inv n nt' fg := by
  obtain ⟨x', nt', wl', g1, g2, g3⟩ := pq_leadL (mi := mi) (wt := wt) hn n 14 0 0 nt wl (by omega) (by omega) hi
  refine ⟨x', nt', wl', ?_, ?_, g3⟩
  · unfold fX0_leadAll
    rw [show lpX0_leadAll_4 (nI n) mi fg wt 14 0 0 nt wl = _ from g1]
    rfl
  · unfold fX1_leadAll
    rw [show lpX1_leadAll_9 (nI n) fg wt mi 14 0 0 nt = _ from g2]
    rfl
theorem pq_cnt5 : pq_cntT n mi nt fg wt 5 = pq_sum (pq_told mi nt fg wt 5) n := rfl
theorem pq_oWould (hn : n ≤ 12) (hi : pq_inv n nt fg) : ∃ k r ob', fL_would (nI n) mi fg nt wt wl ob a1 a2 a3 = some (k, nt, ob') ∧ fX1_would th (nI n) nt fg wt mi a1 a2 a3 = some (r, k, nt) ∧ pq_rs k r ob' := by
  unfold fL_would fX0_would fX1_would
  rcases pq_arg a1 hn with ⟨c, hc, rfl⟩ | hx
  · rw [pq_isC hc hn, pq_isC1 hc hn]
    rcases pq_dich a2 1 3 (by decide) (by decide) with ⟨v, hv1, hv, rfl⟩ | hy
    · rw [(pq_upI hv1 hv).1, (pq_upI hv1 hv).2]
      have main : ∀ x : Int32, (x = -1 ∨ ∃ k, pq_vlo v ≤ k ∧ k ≤ pq_vhi v ∧ x = nI k) → ∃ r, fb_b2 (fX0_exchangeNote (nI n) mi fg nt wt wl (nI c) (nI v) x) (fun r9 nt_10 => fb_b1 (fX0_countOf (nI n) mi fg nt_10 wt wl 5) (fun r12 => fb_b2 (fX0_exchangeNote (nI n) mi fg nt_10 wt wl (nI c) (nI v) r9) (fun _ nt_15 => (some (.ok (r12, nt_15)) : Option (Except (String × (Nat → Int32)) (Int32 × (Nat → Int32))))))) = some (.ok (r, nt)) ∧ fb_b1 (fX1_at 0 (nI n) nt fg wt mi (nI c) (nI v)) (fun r13 => fb_ck (fb_ix (((4 : Int32) * nI c) + nI v) 48) (fb_b1 (fX1_all 0 (nI n) (upd nt (((4 : Int32) * nI c) + nI v).toNatClampNeg x) fg wt mi 5) (fun r16 => some (r16, (0 : Int32), upd (upd nt (((4 : Int32) * nI c) + nI v).toNatClampNeg x) (((4 : Int32) * nI c) + nI v).toNatClampNeg r13)))) = some (r, 0, nt) := by
        intro x hx
        have hw := pq_invV (c := c) hi hv1 hv hx
        refine ⟨pq_cntT n mi (upd nt (4 * c + v) x) fg wt 5, ?_, ?_⟩
        · rw [pq_exch (by omega) (by omega)]
          simp only [fb_b2]
          rw [show fX0_countOf (nI n) mi fg (upd nt (4 * c + v) x) wt wl 5 = _ from pq_count (q := 5) hw hn (by decide)]
          simp only [fb_b1]
          rw [pq_exch (by omega) (by omega), pq_updid]
        · rw [pq_at (by omega) (by omega), pq_4', pq_ix (show 4 * c + v < 48 by omega) (by decide), pq_cl (by omega)]
          simp only [fb_b1, pq_ck]
          rw [show fX1_all 0 (nI n) (upd nt (4 * c + v) x) fg wt mi 5 = _ from pq_all1 (q := 5) hw hn (by decide), pq_updid]
          rfl
      by_cases hm : a3 = -1
      · subst hm
        obtain ⟨r, e1, e2⟩ := main (-1) (Or.inl rfl)
        refine ⟨0, r, vp_updL ob (0 : Int32).toNatClampNeg r.toInt64, ?_, ?_, pq_rs0 _ _⟩
        · simp only [fb_b1]
          rw [if_neg (show ¬ (1 : Int32) = 0 by decide), if_neg (show ¬ (1 : Int32) = 0 by decide), if_pos trivial]
          simp only [fb_b1] at e1
          rw [e1]
          rfl
        · exact e2
      · rcases pq_dich a3 (pq_vlo v) (pq_vhi v) (pq_vS v hv).1 (pq_vS v hv).2 with ⟨k, hk1, hk2, rfl⟩ | hz
        · have h := pq_ofI (v := v) (k := k) (by omega) hk1 hk2
          obtain ⟨r, e1, e2⟩ := main (nI k) (Or.inr ⟨k, hk1, hk2, rfl⟩)
          rw [h.1, h.2, if_neg hm, if_neg hm]
          refine ⟨0, r, vp_updL ob (0 : Int32).toNatClampNeg r.toInt64, ?_, ?_, pq_rs0 _ _⟩
          · simp only [fb_b1]
            rw [if_neg (show ¬ (1 : Int32) = 0 by decide), if_neg (show ¬ (1 : Int32) = 0 by decide), if_neg (show ¬ (1 : Int32) = 0 by decide)]
            simp only [fb_b1] at e1
            rw [e1]
            rfl
          · exact e2
        · have h := pq_ofO (v := v) (x := a3) (by omega) hz
          rw [h.1, h.2, if_neg hm, if_neg hm]
          exact ⟨2, _, _, rfl, rfl, pq_rs2 _ _⟩
    · rw [(pq_upO hy).1, (pq_upO hy).2]
      exact ⟨1, _, _, rfl, rfl, pq_rs1 _ _⟩
  · rw [pq_isN hx, pq_isN1 hn hx]
    exact ⟨1, _, _, rfl, rfl, pq_rs1 _ _⟩
theorem pq_oMean (hn : n ≤ 12) (hi : pq_inv n nt fg) : ∃ r, fX0_mean (nI n) mi fg nt wt wl = some r ∧ fX1_mean th (nI n) nt fg wt mi = some (r, 0) := by
  unfold fX0_mean fX1_mean
  rw [show fX0_countOf (nI n) mi fg nt wt wl 1 = some (pq_sum (pq_told mi nt fg wt 2) n) from pq_count (q := 1) hi hn (by decide), show fX0_countOf (nI n) mi fg nt wt wl 5 = some (pq_sum (pq_told mi nt fg wt 5) n) from pq_count (q := 5) hi hn (by decide), show fX1_all 0 (nI n) nt fg wt mi 2 = some (pq_sum (pq_told mi nt fg wt 2) n) from pq_all1 (q := 2) hi hn (by decide), show fX1_all 0 (nI n) nt fg wt mi 5 = some (pq_sum (pq_told mi nt fg wt 5) n) from pq_all1 (q := 5) hi hn (by decide)]
  generalize pq_sum (pq_told mi nt fg wt 2) n = x
  generalize pq_sum (pq_told mi nt fg wt 5) n = y
  simp only [fb_b1]
  by_cases h : x = 0
  · rw [if_pos h, if_pos h]
    exact ⟨_, rfl, rfl⟩
  · rw [if_neg h, if_neg h]
    exact ⟨_, rfl, rfl⟩
/-! the digest -/
theorem pq_dgC (hn : n ≤ 12) (hi : pq_inv n nt fg) : ∀ (j m k : Nat) (z : Int64), j + k = 7 → j < m → ∃ z', lpX0_digest_6 (nI n) mi fg nt wt wl m (nI k) z = some (nI 7, z') ∧ lpX1_digest_11 (nI n) nt fg wt mi m (nI k) z = some (nI 7, z') := by
  intro j
  induction j with
  | zero =>
    intro m k z h1 h2
    obtain ⟨m, rfl⟩ : ∃ z, m = z + 1 := ⟨m - 1, by omega⟩
    obtain rfl : k = 7 := by omega
    exact ⟨z, by rw [lpX0_digest_6.eq_2, if_pos (by decide)], by rw [lpX1_digest_11.eq_2, if_pos (by decide)]⟩
  | succ j ih =>
    intro m k z h1 h2
    obtain ⟨m, rfl⟩ : ∃ z, m = z + 1 := ⟨m - 1, by omega⟩
    obtain ⟨z', g1, g2⟩ := ih m (k + 1) (z * 31 + (pq_cntT n mi nt fg wt k).toInt64) (by omega) (by omega)
    refine ⟨z', ?_, ?_⟩
    · rw [lpX0_digest_6.eq_2, if_neg (by exact nI_ge (a := k) (b := 7) (by omega) (by decide)), pq_count hi hn (by omega), pq_p1]
      exact g1
    · rw [lpX1_digest_11.eq_2, if_neg (by exact nI_ge (a := k) (b := 7) (by omega) (by decide)), pq_counted hi hn (by omega), pq_p1]
      exact g2
theorem pq_dgW : ∀ (j m k : Nat) (z : Int64), j + k = 8 → j < m → ∃ z', lpX0_digest_33 wt m (nI k) z = some (nI 8, z') ∧ lpX1_digest_48 wt m (nI k) z = some (nI 8, z') := by
  intro j
  induction j with
  | zero =>
    intro m k z h1 h2
    obtain ⟨m, rfl⟩ : ∃ z, m = z + 1 := ⟨m - 1, by omega⟩
    obtain rfl : k = 8 := by omega
    exact ⟨z, by rw [lpX0_digest_33.eq_2, if_pos (by decide)], by rw [lpX1_digest_48.eq_2, if_pos (by decide)]⟩
  | succ j ih =>
    intro m k z h1 h2
    obtain ⟨m, rfl⟩ : ∃ z, m = z + 1 := ⟨m - 1, by omega⟩
    obtain ⟨z', g1, g2⟩ := ih m (k + 1) (z * 31 + (wt k).toInt64) (by omega) (by omega)
    refine ⟨z', ?_, ?_⟩
    · rw [lpX0_digest_33.eq_2, if_neg (by exact nI_ge (a := k) (b := 8) (by omega) (by decide)), pq_ix (show k < 8 by omega) (by decide), pq_ck, pq_p1, pq_cl (by omega)]
      exact g1
    · rw [lpX1_digest_48.eq_2, if_neg (by exact nI_ge (a := k) (b := 8) (by omega) (by decide)), pq_ix (show k < 8 by omega) (by decide), pq_ck, pq_p1, pq_cl (by omega)]
      exact g2
theorem pq_dgN (hc : c < 12) : ∀ (j m k : Nat) (z : Int64), j + k = 4 → j < m → ∃ z', lpX0_digest_72 (nI n) mi fg nt wt (nI c) wl m (nI k) z = some (nI 4, z') ∧ lpX1_digest_90 (nI n) fg wt mi (nI c) nt m (nI k) z = some (nI 4, z') := by
  intro j
  induction j with
  | zero =>
    intro m k z h1 h2
    obtain ⟨m, rfl⟩ : ∃ z, m = z + 1 := ⟨m - 1, by omega⟩
    obtain rfl : k = 4 := by omega
    exact ⟨z, by rw [lpX0_digest_72.eq_2, if_pos (by decide)], by rw [lpX1_digest_90.eq_2, if_pos (by decide)]⟩
  | succ j ih =>
    intro m k z h1 h2
    obtain ⟨m, rfl⟩ : ∃ z, m = z + 1 := ⟨m - 1, by omega⟩
    obtain ⟨z', g1, g2⟩ := ih m (k + 1) (z * 31 + (nt (4 * c + k)).toInt64) (by omega) (by omega)
    refine ⟨z', ?_, ?_⟩
    · rw [lpX0_digest_72.eq_2, if_neg (by exact nI_ge (a := k) (b := 4) (by omega) (by decide)), pq_note hc (by omega), pq_p1]
      exact g1
    · rw [lpX1_digest_90.eq_2, if_neg (by exact nI_ge (a := k) (b := 4) (by omega) (by decide)), pq_at hc (by omega), pq_p1]
      exact g2
theorem pq_dgT (hn : n ≤ 12) (hi : pq_inv n nt fg) (hc : c < n) : ∀ (j m k : Nat) (z : Int64), j + k = 6 → j < m → ∃ z', lpX0_digest_102 (nI n) mi fg nt wt (nI c) wl m (nI k) z = some (nI 6, z') ∧ lpX1_digest_120 (nI n) fg wt mi (nI c) nt m (nI k) z = some (nI 6, z') := by
  intro j
  induction j with
  | zero =>
    intro m k z h1 h2
    obtain ⟨m, rfl⟩ : ∃ z, m = z + 1 := ⟨m - 1, by omega⟩
    obtain rfl : k = 6 := by omega
    exact ⟨z, by rw [lpX0_digest_102.eq_2, if_pos (by decide)], by rw [lpX1_digest_120.eq_2, if_pos (by decide)]⟩
  | succ j ih =>
    intro m k z h1 h2
    obtain ⟨m, rfl⟩ : ∃ z, m = z + 1 := ⟨m - 1, by omega⟩
    obtain ⟨z', g1, g2⟩ := ih m (k + 1) (z * 31 + (pq_told mi nt fg wt k c).toInt64) (by omega) (by omega)
    refine ⟨z', ?_, ?_⟩
    · rw [lpX0_digest_102.eq_2, if_neg (by exact nI_ge (a := k) (b := 6) (by omega) (by decide)), pq_tell hi hc hn (by omega), pq_p1]
      exact g1
    · rw [lpX1_digest_120.eq_2, if_neg (by exact nI_ge (a := k) (b := 6) (by omega) (by decide)), pq_tell1 hi hc hn (by omega), pq_p1]
      exact g2
theorem pq_dgF (hn : n ≤ 12) (hi : pq_inv n nt fg) (hc : c < n) : ∀ (j m k : Nat) (z : Int64), j + k = 8 → j < m → ∃ z', lpX0_digest_133 (nI n) mi fg nt wt (nI c) wl m (nI k) z = some (nI 8, z') ∧ lpX1_digest_151 (nI n) fg wt mi (nI c) nt m (nI k) z = some (nI 8, z') := by
  intro j
  induction j with
  | zero =>
    intro m k z h1 h2
    obtain ⟨m, rfl⟩ : ∃ z, m = z + 1 := ⟨m - 1, by omega⟩
    obtain rfl : k = 8 := by omega
    exact ⟨z, by rw [lpX0_digest_133.eq_2, if_pos (by decide)], by rw [lpX1_digest_151.eq_2, if_pos (by decide)]⟩
  | succ j ih =>
    intro m k z h1 h2
    obtain ⟨m, rfl⟩ : ∃ z, m = z + 1 := ⟨m - 1, by omega⟩
    obtain ⟨z', g1, g2⟩ := ih m (k + 1) (z * 31 + (pq_fo mi nt fg c k).toInt64) (by omega) (by omega)
    refine ⟨z', ?_, ?_⟩
    · rw [lpX0_digest_133.eq_2, if_neg (by exact nI_ge (a := k) (b := 8) (by omega) (by decide)), pq_faultsOf hi hc hn (by omega), pq_p1]
      exact g1
    · rw [lpX1_digest_151.eq_2, if_neg (by exact nI_ge (a := k) (b := 8) (by omega) (by decide)), pq_faultsOf1 hi hc hn (by omega), pq_p1]
      exact g2
theorem pq_dgA (hn : n ≤ 12) (hi : pq_inv n nt fg) : ∀ (j m k : Nat) (z : Int64) (wl : Nat → Int32), j + k = n → j < m → ∃ z' wl', lpX0_digest_61 (nI n) mi fg nt wt m (nI k) z wl = some (nI n, z', wl') ∧ lpX1_digest_79 (nI n) fg wt mi m (nI k) z nt = some (nI n, z', nt) := by
  intro j
  induction j with
  | zero =>
    intro m k z wl h1 h2
    obtain ⟨m, rfl⟩ : ∃ z, m = z + 1 := ⟨m - 1, by omega⟩
    obtain rfl : k = n := by omega
    exact ⟨z, wl, by rw [lpX0_digest_61.eq_2, if_pos (nI_le (Nat.le_refl _) (by omega))], by rw [lpX1_digest_79.eq_2, if_pos (nI_le (Nat.le_refl _) (by omega))]⟩
  | succ j ih =>
    intro m k z wl h1 h2
    obtain ⟨m, rfl⟩ : ∃ z, m = z + 1 := ⟨m - 1, by omega⟩
    have hc : k < n := by omega
    obtain ⟨z1, p1, q1⟩ := pq_dgN (n := n) (mi := mi) (fg := fg) (nt := nt) (wt := wt) (wl := wl) (show k < 12 by omega) 4 14 0 z rfl (by decide)
    obtain ⟨z2, p2, q2⟩ := pq_dgT (mi := mi) (wt := wt) (wl := wl) hn hi hc 6 14 0 z1 rfl (by decide)
    obtain ⟨z3, p3, q3⟩ := pq_dgF (mi := mi) (wt := wt) (wl := wl) hn hi hc 8 14 0 z2 rfl (by decide)
    obtain ⟨z', wl', g1, g2⟩ := ih m (k + 1) (z3 * 31 + (nI (pq_ways nt fg k).length).toInt64) (pq_fill wl 0 (pq_ways nt fg k)) (by omega) (by omega)
    refine ⟨z', wl', ?_, ?_⟩
    · rw [lpX0_digest_61.eq_2, if_neg (nI_ge hc (by omega)), show lpX0_digest_72 (nI n) mi fg nt wt (nI k) wl 14 0 z = _ from p1]
      simp only [fb_b2]
      rw [show lpX0_digest_102 (nI n) mi fg nt wt (nI k) wl 14 0 z1 = _ from p2]
      simp only
      rw [show lpX0_digest_133 (nI n) mi fg nt wt (nI k) wl 14 0 z2 = _ from p3]
      simp only
      rw [pq_list (by omega) (hi k hc), pq_p1]
      exact g1
    · rw [lpX1_digest_79.eq_2, if_neg (nI_ge hc (by omega)), show lpX1_digest_90 (nI n) fg wt mi (nI k) nt 14 0 z = _ from q1]
      simp only [fb_b2]
      rw [show lpX1_digest_120 (nI n) fg wt mi (nI k) nt 14 0 z1 = _ from q2]
      simp only
      rw [show lpX1_digest_151 (nI n) fg wt mi (nI k) nt 14 0 z2 = _ from q3]
      simp only
      rw [pq_led hi hc hn, pq_p1]
      simp only [pq_z2, pq_f32]
      exact g2
theorem pq_oDigest (hn : n ≤ 12) (hi : pq_inv n nt fg) : ∃ z wl', fX0_digest (nI n) mi fg nt wt wl = some (z, wl') ∧ fX1_digest th (nI n) nt fg wt mi = some (z, 0, nt) := by
  obtain ⟨z1, p1, q1⟩ := pq_dgC (mi := mi) (wt := wt) (wl := wl) hn hi 7 14 0 1693 rfl (by decide)
  obtain ⟨z2, p2, q2⟩ := pq_dgW (wt := wt) 8 14 0 z1 rfl (by decide)
  obtain ⟨z3, wl', p3, q3⟩ := pq_dgA (mi := mi) (wt := wt) hn hi n 14 0 z2 wl (by omega) (by omega)
  refine ⟨z3, wl', ?_, ?_⟩
  · unfold fX0_digest
    rw [show lpX0_digest_6 (nI n) mi fg nt wt wl 14 0 1693 = _ from p1]
    simp only [fb_b2]
    rw [show lpX0_digest_33 wt 14 0 z1 = _ from p2]
    simp only
    rw [show lpX0_digest_61 (nI n) mi fg nt wt 14 0 z2 wl = _ from p3]
    rfl
  · unfold fX1_digest
    rw [show lpX1_digest_11 (nI n) nt fg wt mi 14 0 1693 = _ from q1]
    simp only [fb_b2]
    rw [show lpX1_digest_48 wt 14 0 z1 = _ from q2]
    simp only
    rw [show lpX1_digest_79 (nI n) fg wt mi 14 0 z2 nt = _ from q3]
    rfl
end
