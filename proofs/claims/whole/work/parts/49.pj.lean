/-! Pure rows, 10: advice. -/
theorem pq_bo2F {g : Nat → Int32} : ∀ (L : List Nat) (p : Int32 × Int32), (p.1 = -1 ∨ ∃ y, pq_inR y = true ∧ p.1 = nI y ∧ p.2 = g y) → L.all pq_inR = true → ((L.foldl (pq_sW g) p).1 = -1 ∨ ∃ y, pq_inR y = true ∧ (L.foldl (pq_sW g) p).1 = nI y ∧ (L.foldl (pq_sW g) p).2 = g y) := by
  intro L
  induction L with
  | nil => intro p h _; exact h
  | cons x L ih =>
    intro p h h2
    simp only [List.all_cons, Bool.and_eq_true] at h2
    refine ih _ ?_ h2.2
    by_cases h1 : p.1 = -1
    · rw [pq_sW1 h1]; exact Or.inr ⟨x, h2.1, rfl, rfl⟩
    · by_cases h3 : g x < p.2
      · rw [pq_sW2 h1 h3]; exact Or.inr ⟨x, h2.1, rfl, rfl⟩
      · rw [pq_sW3 h1 h3]; exact h
theorem pq_bst2 {n c : Nat} {mi : Int32} {nt fg wt : Nat → Int32} (h : pq_ok nt fg c) : (pq_bst n mi nt fg wt c).1 = -1 ∨ ∃ y, pq_inR y = true ∧ (pq_bst n mi nt fg wt c).1 = nI y ∧ (pq_bst n mi nt fg wt c).2 = pq_own n mi nt fg wt c y := pq_bo2F _ _ (Or.inl rfl) (pq_waysOk h).2
theorem pq_ownE {n c : Nat} {mi : Int32} {nt nt' fg wt : Nat → Int32} (h : pq_aw nt nt' c) : pq_own n mi nt' fg wt c = pq_own n mi nt fg wt c := by
  funext x
  unfold pq_own
  rw [show pq_w nt' c x = pq_w nt c x from pq_p3e h]
theorem pq_bstE {n c : Nat} {mi : Int32} {nt nt' fg wt : Nat → Int32} (h : pq_aw nt nt' c) : pq_bst n mi nt' fg wt c = pq_bst n mi nt fg wt c := by
  unfold pq_bst pq_ways
  rw [pq_ownE h, h (4 * c) (by omega) (by omega) (by omega)]
theorem pq_upds (f : Nat → Int32) (k : Nat) : upd f k (f k) = f := by
  funext j
  by_cases h : j = k
  · rw [h, pk_us]
  · rw [pk_un h]
section
variable {mi th : Int32} {fg nt wt wl : Nat → Int32} {n c : Nat} {ob : Nat → Int64} {a1 : Int32}
theorem pq_advL (hn : n ≤ 12) (hi : pq_inv n nt fg) (hc : c < n) : ∀ (j m k : Nat) (x y : Int32) (fg' nt' wl : Nat → Int32), j + k = 6 → j < m → (y = -1 ∨ ∃ v, v < 6 ∧ y = nI v) → pq_aw nt nt' c → pq_inv n nt' fg → (∀ v, upd fg' c v = upd fg c v) → ∃ x' y' fg'' nt'' wl'', lpX0_advise_57 (nI c) (nI n) mi wt m (nI k) x y fg' nt' wl = some (nI 6, x', y', fg'', nt'', wl'') ∧ lpX1_advise_34 (nI c) (nI n) wt mi m (nI k) x y nt fg' = some (nI 6, x', y', nt, fg'') ∧ pq_aw nt nt'' c ∧ (∀ v, upd fg'' c v = upd fg c v) := by
  intro j
  induction j with
  | zero =>
    intro m k x y fg' nt' wl h1 h2 hy ha hi' hf
    obtain ⟨m, rfl⟩ : ∃ z, m = z + 1 := ⟨m - 1, by omega⟩
    obtain rfl : k = 6 := by omega
    refine ⟨x, y, fg', nt', wl, ?_, ?_, ha, hf⟩
    · rw [lpX0_advise_57.eq_2, if_pos (by decide)]
    · rw [lpX1_advise_34.eq_2, if_pos (by decide)]
  | succ j ih =>
    intro m k x y fg' nt' wl h1 h2 hy ha hi' hf
    obtain ⟨m, rfl⟩ : ∃ z, m = z + 1 := ⟨m - 1, by omega⟩
    have hF : pq_inv n nt (upd fg c (nI k)) := pq_invF hi (by omega)
    have hF' : pq_inv n nt' (upd fg c (nI k)) := pq_invF hi' (by omega)
    have hff : ∀ v, upd (upd fg c (nI k)) c v = upd fg c v := fun v => pq_updt _ _ _ _
    have hyN : y < 0 ↔ y = -1 := by
      rcases hy with h | ⟨v, h, e⟩
      · subst h; decide
      · subst e
        exact ⟨fun z => absurd z (nI_pos (by omega)), fun z => absurd z (pq_nIm (by omega))⟩
    rcases pq_bst2 (n := n) (mi := mi) (wt := wt) (hF c hc) with h | ⟨w, hw, h, h'⟩
    · obtain ⟨x', y', fg'', nt'', wl'', g1, g2, g3, g4⟩ := ih m (k + 1) x y (upd fg c (nI k)) nt' (pq_fill wl 0 (pq_ways nt' (upd fg c (nI k)) c)) (by omega) (by omega) hy ha hi' hff
      refine ⟨x', y', fg'', nt'', wl'', ?_, ?_, g3, g4⟩
      · rw [lpX0_advise_57.eq_2, if_neg (by exact nI_ge (a := k) (b := 6) (by omega) (by decide)), pq_cl (by omega), hf, pq_bestWay hF' hc hn, pq_bstE ha, h, pq_p1 c, pq_p1 k]
        exact g1
      · rw [lpX1_advise_34.eq_2, if_neg (by exact nI_ge (a := k) (b := 6) (by omega) (by decide)), pq_cl (by omega), hf, pq_led hF hc hn, pq_p1]
        simp only [fb_b2, pq_z0, pq_z1, pq_f30, pq_f31]
        rw [if_pos h]
        exact g2
    · have hw2 := pq_inRlt hw
      have hiw : pq_inv n (pq_w nt c w) (upd fg c (nI k)) := pq_invW hF hw
      have ew : pq_w nt' c w = pq_w nt c w := pq_p3e ha
      have eo : fX0_costOf (nI n) mi (upd fg c (nI k)) (pq_w nt c w) wt (pq_fill wl 0 (pq_ways nt' (upd fg c (nI k)) c)) (nI (c + 1)) = some (if c + 1 < n then pq_cost mi (pq_w nt c w) (upd fg c (nI k)) wt (c + 1) else 0) := by
        by_cases h : c + 1 < n
        · rw [if_pos h, pq_costOf hiw h hn]
        · rw [if_neg h, pq_costN (Or.inr (nI_le (by omega) (by omega)))]
      have ec : (pq_cost mi (pq_w nt c w) (upd fg c (nI k)) wt c + if c + 1 < n then pq_cost mi (pq_w nt c w) (upd fg c (nI k)) wt (c + 1) else 0) = (pq_bst n mi nt (upd fg c (nI k)) wt c).2 := h'.symm
      have A : ∀ (x1 y1 : Int32), (y1 = -1 ∨ ∃ v, v < 6 ∧ y1 = nI v) → ((if y = -1 then some ((pq_bst n mi nt (upd fg c (nI k)) wt c).2, nI k) else if (pq_bst n mi nt (upd fg c (nI k)) wt c).2 < x then some ((pq_bst n mi nt (upd fg c (nI k)) wt c).2, nI k) else some (x, y)) = some (x1, y1)) → ∃ x' y' fg'' nt'' wl'', lpX0_advise_57 (nI c) (nI n) mi wt (m + 1) (nI k) x y fg' nt' wl = some (nI 6, x', y', fg'', nt'', wl'') ∧ lpX1_advise_34 (nI c) (nI n) wt mi (m + 1) (nI k) x y nt fg' = some (nI 6, x', y', nt, fg'') ∧ pq_aw nt nt'' c ∧ (∀ v, upd fg'' c v = upd fg c v) := by
        intro x1 y1 hy1 hxy
        obtain ⟨x', y', fg'', nt'', wl'', g1, g2, g3, g4⟩ := ih m (k + 1) x1 y1 (upd fg c (nI k)) (pq_w nt c w) (pq_fill wl 0 (pq_ways nt' (upd fg c (nI k)) c)) (by omega) (by omega) hy1 (pq_awP _ _ _ _ _) (pq_invW hi hw) hff
        refine ⟨x', y', fg'', nt'', wl'', ?_, ?_, g3, g4⟩
        · rw [lpX0_advise_57.eq_2, if_neg (by exact nI_ge (a := k) (b := 6) (by omega) (by decide)), pq_cl (by omega), hf, pq_bestWay hF' hc hn, pq_bstE ha, h, pq_p1]
          simp only [fb_b3]
          rw [if_neg (nI_pos hw2), pq_putW (by omega) hw2, ew]
          simp only [fb_b1]
          rw [pq_costOf hiw hc hn, pq_p1, eo]
          simp only
          rw [ec]
          by_cases k1 : y = -1
          · rw [if_pos k1] at hxy
            rw [if_pos (hyN.mpr k1)]
            obtain ⟨rfl, rfl⟩ := Prod.mk.inj (Option.some.inj hxy)
            exact g1
          · rw [if_neg k1] at hxy
            rw [if_neg (fun z => k1 (hyN.mp z))]
            by_cases k2 : (pq_bst n mi nt (upd fg c (nI k)) wt c).2 < x
            · rw [if_pos k2] at hxy
              rw [if_neg (Int32.not_le.mpr k2)]
              obtain ⟨rfl, rfl⟩ := Prod.mk.inj (Option.some.inj hxy)
              exact g1
            · rw [if_neg k2] at hxy
              rw [if_pos (Int32.not_lt.mp k2)]
              obtain ⟨rfl, rfl⟩ := Prod.mk.inj (Option.some.inj hxy)
              exact g1
        · rw [lpX1_advise_34.eq_2, if_neg (by exact nI_ge (a := k) (b := 6) (by omega) (by decide)), pq_cl (by omega), hf, pq_led hF hc hn, pq_p1]
          simp only [fb_b2, pq_z0, pq_z1, pq_f30, pq_f31]
          rw [if_neg (by rw [h]; exact pq_nIm hw2), hxy]
          exact g2
      by_cases k1 : y = -1
      · exact A _ _ (Or.inr ⟨k, by omega, rfl⟩) (if_pos k1)
      · by_cases k2 : (pq_bst n mi nt (upd fg c (nI k)) wt c).2 < x
        · exact A _ _ (Or.inr ⟨k, by omega, rfl⟩) ((if_neg k1).trans (if_pos k2))
        · exact A _ _ hy ((if_neg k1).trans (if_neg k2))
theorem pq_oAdvise (hn : n ≤ 12) (hi : pq_inv n nt fg) : ∃ k r wl' ob', fL_advise (nI n) mi fg nt wt wl ob a1 = some (k, fg, nt, wl', ob') ∧ fX1_advise th (nI n) nt fg wt mi a1 = some (r, k, nt, fg) ∧ pq_rs k r ob' := by
  unfold fL_advise fX0_advise fX1_advise
  rcases pq_arg a1 hn with ⟨c, hc, rfl⟩ | hx
  · obtain ⟨x', y', fg'', nt'', wl'', g1, g2, g3, g4⟩ := pq_advL (mi := mi) (wt := wt) hn hi hc 6 14 0 0 (-1) fg nt wl rfl (by decide) (Or.inl rfl) (fun _ _ _ _ => rfl) hi (fun _ => rfl)
    rw [pq_isC hc hn, pq_isC1 hc hn, pq_ix (show c < 12 by omega) (by decide), pq_cl (by omega), pq_note1 (by omega), pq_note2 (by omega), pq_note3 (by omega), show lpX0_advise_57 (nI c) (nI n) mi wt 14 0 0 (-1) fg nt wl = _ from g1, show lpX1_advise_34 (nI c) (nI n) wt mi 14 0 0 (-1) nt fg = _ from g2]
    have e : upd fg'' c (fg c) = fg := by rw [g4, pq_upds]
    refine ⟨0, y', wl'', vp_updL ob (0 : Int32).toNatClampNeg y'.toInt64, ?_, ?_, pq_rs0 _ _⟩
    · simp only [fb_b1, fb_b6, pq_ck]
      rw [pq_putN (by omega), pq_p3e g3, pq_p3id, e]
      rfl
    · simp only [fb_b1, fb_b5, pq_ck]
      rw [e]
      rfl
  · rw [pq_isN hx, pq_isN1 hn hx]
    exact ⟨1, _, _, _, rfl, rfl, pq_rs1 _ _⟩
end
