/-! Pure rows, 10: advice; what each call of the class answers, said outright. -/
theorem pq_bo2F {g : Nat → Int32} : ∀ (L : List Nat) (p : Int32 × Int32), (p.1 = -1 ∨ ∃ y, pq_inR y = true ∧ p.1 = nI y ∧ p.2 = g y) → L.all pq_inR = true → ((L.foldl (pq_sW g) p).1 = -1 ∨ ∃ y, pq_inR y = true ∧ (L.foldl (pq_sW g) p).1 = nI y ∧ (L.foldl (pq_sW g) p).2 = g y) := by
  intro L
  induction L with
  | nil => intro p h _; exact h
  | cons x L ih =>
    intro p h h2
    simp only [List.all_cons, Bool.and_eq_true] at h2
    refine ih _ ?_ h2.2
    by_cases h1 : p.1 = -1
    · rw [pq_sW1 h1]; exact Or.inr ⟨x, h2.1, rfl, rfl⟩
    · by_cases h3 : g x < p.2
      · rw [pq_sW2 h1 h3]; exact Or.inr ⟨x, h2.1, rfl, rfl⟩
      · rw [pq_sW3 h1 h3]; exact h
theorem pq_bst2 {n c : Nat} {mi : Int32} {nt fg wt : Nat → Int32} (h : pq_ok nt fg c) : (pq_bst n mi nt fg wt c).1 = -1 ∨ ∃ y, pq_inR y = true ∧ (pq_bst n mi nt fg wt c).1 = nI y ∧ (pq_bst n mi nt fg wt c).2 = pq_own n mi nt fg wt c y := pq_bo2F _ _ (Or.inl rfl) (pq_waysOk h).2
theorem pq_ownE {n c : Nat} {mi : Int32} {nt nt' fg wt : Nat → Int32} (h : pq_aw nt nt' c) : pq_own n mi nt' fg wt c = pq_own n mi nt fg wt c := by
  funext x
  unfold pq_own
  rw [show pq_w nt' c x = pq_w nt c x from pq_p3e h]
theorem pq_bstE {n c : Nat} {mi : Int32} {nt nt' fg wt : Nat → Int32} (h : pq_aw nt nt' c) : pq_bst n mi nt' fg wt c = pq_bst n mi nt fg wt c := by
  unfold pq_bst pq_ways
  rw [pq_ownE h, h (4 * c) (by omega) (by omega) (by omega)]
theorem pq_upds (f : Nat → Int32) (k : Nat) : upd f k (f k) = f := by
  funext j
  by_cases h : j = k
  · rw [h, pk_us]
  · rw [pk_un h]
section
variable {mi : Int32} {fg nt wt wl : Nat → Int32} {n c : Nat}
theorem qa_advL (hn : n ≤ 12) (hi : pq_inv n nt fg) (hc : c < n) : ∀ (j m k : Nat) (x y : Int32) (fg' nt' wl : Nat → Int32), j + k = 6 → j < m → (y = -1 ∨ ∃ v, v < 6 ∧ y = nI v) → pq_aw nt nt' c → pq_inv n nt' fg → (∀ v, upd fg' c v = upd fg c v) → ∃ x' y' fg'' nt'' wl'', lpX0_advise_57 (nI c) (nI n) mi wt m (nI k) x y fg' nt' wl = some (nI 6, x', y', fg'', nt'', wl'') ∧ (y' = -1 ∨ ∃ v, v < 6 ∧ y' = nI v) ∧ pq_aw nt nt'' c ∧ (∀ v, upd fg'' c v = upd fg c v) := by
  intro j
  induction j with
  | zero =>
    intro m k x y fg' nt' wl h1 h2 hy ha hi' hf
    obtain ⟨m, rfl⟩ : ∃ z, m = z + 1 := ⟨m - 1, by omega⟩
    obtain rfl : k = 6 := by omega
    refine ⟨x, y, fg', nt', wl, ?_, hy, ha, hf⟩
    rw [lpX0_advise_57.eq_2, if_pos (by decide)]
  | succ j ih =>
    intro m k x y fg' nt' wl h1 h2 hy ha hi' hf
    obtain ⟨m, rfl⟩ : ∃ z, m = z + 1 := ⟨m - 1, by omega⟩
    have hF : pq_inv n nt (upd fg c (nI k)) := pq_invF hi (by omega)
    have hF' : pq_inv n nt' (upd fg c (nI k)) := pq_invF hi' (by omega)
    have hff : ∀ v, upd (upd fg c (nI k)) c v = upd fg c v := fun v => pq_updt _ _ _ _
    have hyN : y < 0 ↔ y = -1 := by
      rcases hy with h | ⟨v, h, e⟩
      · subst h; decide
      · subst e
        exact ⟨fun z => absurd z (nI_pos (by omega)), fun z => absurd z (pq_nIm (by omega))⟩
    rcases pq_bst2 (n := n) (mi := mi) (wt := wt) (hF c hc) with h | ⟨w, hw, h, h'⟩
    · obtain ⟨x', y', fg'', nt'', wl'', g1, g2, g3, g4⟩ := ih m (k + 1) x y (upd fg c (nI k)) nt' (pq_fill wl 0 (pq_ways nt' (upd fg c (nI k)) c)) (by omega) (by omega) hy ha hi' hff
      refine ⟨x', y', fg'', nt'', wl'', ?_, g2, g3, g4⟩
      rw [lpX0_advise_57.eq_2, if_neg (by exact nI_ge (a := k) (b := 6) (by omega) (by decide)), pq_cl (by omega), hf, pq_bestWay hF' hc hn, pq_bstE ha, h, pq_p1 c, pq_p1 k]
      exact g1
    · have hw2 := pq_inRlt hw
      have hiw : pq_inv n (pq_w nt c w) (upd fg c (nI k)) := pq_invW hF hw
      have ew : pq_w nt' c w = pq_w nt c w := pq_p3e ha
      have eo : fX0_costOf (nI n) mi (upd fg c (nI k)) (pq_w nt c w) wt (pq_fill wl 0 (pq_ways nt' (upd fg c (nI k)) c)) (nI (c + 1)) = some (if c + 1 < n then pq_cost mi (pq_w nt c w) (upd fg c (nI k)) wt (c + 1) else 0) := by
        by_cases h : c + 1 < n
        · rw [if_pos h, pq_costOf hiw h hn]
        · rw [if_neg h, pq_costN (Or.inr (nI_le (by omega) (by omega)))]
      have ec : (pq_cost mi (pq_w nt c w) (upd fg c (nI k)) wt c + if c + 1 < n then pq_cost mi (pq_w nt c w) (upd fg c (nI k)) wt (c + 1) else 0) = (pq_bst n mi nt (upd fg c (nI k)) wt c).2 := h'.symm
      have A : ∀ (x1 y1 : Int32), (y1 = -1 ∨ ∃ v, v < 6 ∧ y1 = nI v) → ((if y = -1 then some ((pq_bst n mi nt (upd fg c (nI k)) wt c).2, nI k) else if (pq_bst n mi nt (upd fg c (nI k)) wt c).2 < x then some ((pq_bst n mi nt (upd fg c (nI k)) wt c).2, nI k) else some (x, y)) = some (x1, y1)) → ∃ x' y' fg'' nt'' wl'', lpX0_advise_57 (nI c) (nI n) mi wt (m + 1) (nI k) x y fg' nt' wl = some (nI 6, x', y', fg'', nt'', wl'') ∧ (y' = -1 ∨ ∃ v, v < 6 ∧ y' = nI v) ∧ pq_aw nt nt'' c ∧ (∀ v, upd fg'' c v = upd fg c v) := by
        intro x1 y1 hy1 hxy
        obtain ⟨x', y', fg'', nt'', wl'', g1, g2, g3, g4⟩ := ih m (k + 1) x1 y1 (upd fg c (nI k)) (pq_w nt c w) (pq_fill wl 0 (pq_ways nt' (upd fg c (nI k)) c)) (by omega) (by omega) hy1 (pq_awP _ _ _ _ _) (pq_invW hi hw) hff
        refine ⟨x', y', fg'', nt'', wl'', ?_, g2, g3, g4⟩
        rw [lpX0_advise_57.eq_2, if_neg (by exact nI_ge (a := k) (b := 6) (by omega) (by decide)), pq_cl (by omega), hf, pq_bestWay hF' hc hn, pq_bstE ha, h, pq_p1]
        simp only [fb_b3]
        rw [if_neg (nI_pos hw2), pq_putW (by omega) hw2, ew]
        simp only [fb_b1]
        rw [pq_costOf hiw hc hn, pq_p1, eo]
        simp only
        rw [ec]
        by_cases k1 : y = -1
        · rw [if_pos k1] at hxy
          rw [if_pos (hyN.mpr k1)]
          obtain ⟨rfl, rfl⟩ := Prod.mk.inj (Option.some.inj hxy)
          exact g1
        · rw [if_neg k1] at hxy
          rw [if_neg (fun z => k1 (hyN.mp z))]
          by_cases k2 : (pq_bst n mi nt (upd fg c (nI k)) wt c).2 < x
          · rw [if_pos k2] at hxy
            rw [if_neg (Int32.not_le.mpr k2)]
            obtain ⟨rfl, rfl⟩ := Prod.mk.inj (Option.some.inj hxy)
            exact g1
          · rw [if_neg k2] at hxy
            rw [if_pos (Int32.not_lt.mp k2)]
            obtain ⟨rfl, rfl⟩ := Prod.mk.inj (Option.some.inj hxy)
            exact g1
      by_cases k1 : y = -1
      · exact A _ _ (Or.inr ⟨k, by omega, rfl⟩) (if_pos k1)
      · by_cases k2 : (pq_bst n mi nt (upd fg c (nI k)) wt c).2 < x
        · exact A _ _ (Or.inr ⟨k, by omega, rfl⟩) ((if_neg k1).trans (if_pos k2))
        · exact A _ _ hy ((if_neg k1).trans (if_neg k2))
theorem qa_advise (hn : n ≤ 12) (hi : pq_inv n nt fg) (hc : c < n) (wl : Nat → Int32) : ∃ y wl', fX0_advise (nI n) mi fg nt wt wl (nI c) = some (.ok (y, fg, nt, wl')) ∧ (y = -1 ∨ ∃ v, v < 6 ∧ y = nI v) := by
  obtain ⟨x', y', fg'', nt'', wl'', g1, g2, g3, g4⟩ := qa_advL (mi := mi) (wt := wt) hn hi hc 6 14 0 0 (-1) fg nt wl rfl (by decide) (Or.inl rfl) (fun _ _ _ _ => rfl) hi (fun _ => rfl)
  refine ⟨y', wl'', ?_, g2⟩
  unfold fX0_advise
  rw [pq_isC hc hn, pq_ix (show c < 12 by omega) (by decide), pq_cl (by omega), pq_note1 (by omega), pq_note2 (by omega), pq_note3 (by omega), show lpX0_advise_57 (nI c) (nI n) mi wt 14 0 0 (-1) fg nt wl = _ from g1]
  have e : upd fg'' c (fg c) = fg := by rw [g4, pq_upds]
  simp only [fb_b1, fb_b6, pq_ck]
  rw [pq_putN (by omega), pq_p3e g3, pq_p3id, e]
  rfl
theorem qa_digest (hn : n ≤ 12) (hi : pq_inv n nt fg) : ∃ z, ∀ wl, ∃ wl', fX0_digest (nI n) mi fg nt wt wl = some (z, wl') := by
  obtain ⟨z, -, -, h2⟩ := pq_oDigest (mi := mi) (th := 0) (wt := wt) (wl := fun _ => 0) hn hi
  refine ⟨z, fun wl => ?_⟩
  obtain ⟨z', wl', k1, k2⟩ := pq_oDigest (mi := mi) (th := 0) (wt := wt) (wl := wl) hn hi
  rw [h2] at k2
  obtain ⟨rfl, -⟩ := Prod.mk.inj (Option.some.inj k2)
  exact ⟨wl', k1⟩
theorem qa_put (hc : c < n) (hn : n ≤ 12) {v k : Nat} (h1 : 1 ≤ v) (h3 : v ≤ 3) (k1 : pq_vlo v ≤ k) (k2 : k ≤ pq_vhi v) : fX0_put (nI n) mi fg nt wt wl (nI c) (nI v) (nI k) = some (.ok (nt (4 * c + v), upd nt (4 * c + v) (nI k))) := by
  unfold fX0_put
  have h := (pq_ofI (v := v) (k := k) (by omega) k1 k2).1
  have hb := pq_vB v (by omega)
  rw [pq_isC hc hn, (pq_upI h1 h3).1, if_neg (pq_nIm (by omega)), h, pq_exch (by omega) (by omega)]
  rfl
theorem qa_putN (hc : c < n) (hn : n ≤ 12) {v : Nat} (h1 : 1 ≤ v) (h3 : v ≤ 3) : fX0_put (nI n) mi fg nt wt wl (nI c) (nI v) (-1) = some (.ok (nt (4 * c + v), upd nt (4 * c + v) (-1))) := by
  unfold fX0_put
  rw [pq_isC hc hn, (pq_upI h1 h3).1, if_pos rfl, pq_exch (by omega) (by omega)]
  rfl
theorem qa_would (hi : pq_inv n nt fg) (hc : c < n) (hn : n ≤ 12) {v k : Nat} (h1 : 1 ≤ v) (h3 : v ≤ 3) (k1 : pq_vlo v ≤ k) (k2 : k ≤ pq_vhi v) : fX0_would (nI n) mi fg nt wt wl (nI c) (nI v) (nI k) = some (.ok (pq_cntT n mi (upd nt (4 * c + v) (nI k)) fg wt 5, nt)) := by
  unfold fX0_would
  have h := (pq_ofI (v := v) (k := k) (by omega) k1 k2).1
  have hb := pq_vB v (by omega)
  have hw := pq_invV (c := c) hi h1 h3 (Or.inr ⟨k, k1, k2, rfl⟩)
  rw [pq_isC hc hn, (pq_upI h1 h3).1, if_neg (pq_nIm (by omega)), h, pq_exch (by omega) (by omega)]
  simp only [fb_b1, fb_b2]
  rw [show fX0_countOf (nI n) mi fg (upd nt (4 * c + v) (nI k)) wt wl 5 = _ from pq_count (q := 5) hw hn (by decide), pq_exch (by omega) (by omega), pq_updid]
  rfl
theorem qa_best (hi : pq_inv n nt fg) (hc : c < n) (hn : n ≤ 12) : fX0_best (nI n) mi fg nt wt wl (nI c) = some (.ok ((pq_bst n mi nt fg wt c).1, nt, pq_fill wl 0 (pq_ways nt fg c))) := by
  unfold fX0_best
  rw [pq_isC hc hn, pq_bestWay hi hc hn]
  rfl
theorem qa_ways (hi : pq_inv n nt fg) (hc : c < n) (hn : n ≤ 12) : fX0_ways (nI n) mi fg nt wt wl (nI c) = some (.ok (nI (pq_ways nt fg c).length, pq_fill wl 0 (pq_ways nt fg c))) := by
  unfold fX0_ways
  rw [pq_isC hc hn, pq_list (by omega) (hi c hc)]
  rfl
theorem qa_told (hi : pq_inv n nt fg) (hc : c < n) (hn : n ≤ 12) {q : Nat} (hq : q < 6) : fX0_told (nI n) mi fg nt wt wl (nI c) (nI q) = some (.ok (pq_told mi nt fg wt q c)) := by
  unfold fX0_told
  rw [pq_isC hc hn, show (6 : Int32) = nI (5 + 1) from rfl, pq_bI _ _ _ (show q ≤ 5 by omega) (by decide), pq_tell hi hc hn hq]
  rfl
theorem qa_note (hc : c < n) (hn : n ≤ 12) {v : Nat} (hv : v ≤ 3) : fX0_note (nI n) mi fg nt wt wl (nI c) (nI v) = some (.ok (nt (4 * c + v))) := by
  unfold fX0_note
  rw [pq_isC hc hn, show (4 : Int32) = nI (3 + 1) from rfl, pq_bI _ _ _ hv (by decide), pq_note (by omega) (by omega)]
  rfl
theorem qa_faults (hi : pq_inv n nt fg) (hc : c < n) (hn : n ≤ 12) {q : Nat} (hq : q < 8) : fX0_faults (nI n) mi fg nt wt wl (nI c) (nI q) = some (.ok (pq_fo mi nt fg c q)) := by
  unfold fX0_faults
  rw [pq_isC hc hn, (pq_fltI (show q ≤ 7 by omega)).1, pq_faultsOf hi hc hn hq]
  rfl
theorem qa_count (hi : pq_inv n nt fg) (hn : n ≤ 12) {q : Nat} (hq : q < 7) : fX0_count (nI n) mi fg nt wt wl (nI q) = some (.ok (pq_cntT n mi nt fg wt q)) := by
  unfold fX0_count
  rw [show (7 : Int32) = nI (6 + 1) from rfl, pq_bI _ _ _ (show q ≤ 6 by omega) (by decide), pq_count hi hn hq]
  rfl
theorem qa_setBass (hc : c < n) (hn : n ≤ 12) {b : Nat} (hb : b < 14) : fX0_setBass (nI n) mi fg nt wt wl (nI c) (nI b) = some (.ok (nt (4 * c), upd nt (4 * c) (nI b))) := by
  unfold fX0_setBass
  have h := (pq_ofI (v := 0) (k := b) (by decide) (Nat.zero_le _) (show b ≤ 13 by omega)).1
  rw [pq_isC hc hn, show fX0_isNoteOf 0 (nI b) = some 1 from h, show fX0_exchangeNote (nI n) mi fg nt wt wl (nI c) 0 (nI b) = _ from pq_exch (v := 0) (by omega) (by decide) (nI b)]
  rfl
theorem qa_setFigure (hc : c < n) (hn : n ≤ 12) {f : Nat} (hf : f < 6) : fX0_setFigure (nI n) mi fg nt wt wl (nI c) (nI f) = some (.ok (fg c, upd fg c (nI f))) := by
  unfold fX0_setFigure
  rw [pq_isC hc hn, (pq_figI (show f ≤ 5 by omega)).1, pq_ix (show c < 12 by omega) (by decide), pq_cl (by omega)]
  rfl
theorem qa_setWeight {k y : Nat} (hk : k < 8) (hy : y ≤ 9) {sz : Int32} : fX0_setWeight sz mi fg nt wt wl (nI k) (nI y) = some (.ok (wt k, upd wt k (nI y))) := by
  unfold fX0_setWeight
  rw [(pq_fltI (show k ≤ 7 by omega)).1, if_neg (nI_pos (by omega)), if_pos (show nI y ≤ 9 from nI_le (a := y) (b := 9) hy (by decide)), pq_ix hk (by decide), pq_cl (by omega)]
  rfl
theorem qa_chord (hn : n < 12) {b f : Nat} (hb : b < 14) (hf : f < 6) : fX0_chord (nI n) mi fg nt wt wl (nI b) (nI f) = some (.ok (nI n, nI (n + 1), upd fg n (nI f), pq_p3 (upd nt (4 * n) (nI b)) n (-1) (-1) (-1))) := by
  unfold fX0_chord
  have h := (pq_ofI (v := 0) (k := b) (by decide) (Nat.zero_le _) (show b ≤ 13 by omega)).1
  have e4 : nI n * 4 = nI (4 * n) := by rw [show (4 : Int32) = nI 4 from rfl, pk_mul, Nat.mul_comm]
  rw [show fX0_isNoteOf 0 (nI b) = some 1 from h, (pq_figI (show f ≤ 5 by omega)).1, if_pos (show nI n < 12 from nI_lt (a := n) (b := 12) (by omega) (by decide)), e4, pq_ix (show n < 12 by omega) (by decide), pq_ix (show 4 * n < 48 by omega) (by decide), pq_putN (by omega), pq_p1, pq_cl (show n < 2 ^ 31 by omega), pq_cl (show 4 * n < 2 ^ 31 by omega)]
  rfl
theorem qa_lead (hi : pq_inv n nt fg) (hc : c < n) (hn : n ≤ 12) {y : Nat} (hy : pq_inR y = true) (h : (pq_bst n mi nt fg wt c).1 = nI y) : fX0_lead (nI n) mi fg nt wt wl (nI c) = some (.ok (pq_cost mi (pq_w nt c y) fg wt c, pq_w nt c y, pq_fill wl 0 (pq_ways nt fg c))) := by
  unfold fX0_lead
  have hy2 := pq_inRlt hy
  rw [pq_isC hc hn, pq_bestWay hi hc hn, h]
  simp only [fb_b1, fb_b3]
  rw [if_neg (show ¬ (1 : Int32) = 0 by decide), if_pos (show (0 : Int32) ≤ nI y from nI_le (a := 0) (b := y) (Nat.zero_le _) hy2), pq_putW (by omega) hy2]
  simp only
  rw [pq_costOf (pq_invW hi hy) hc hn]
theorem qa_fits (hi : pq_inv n nt fg) (hc : c < n) (hn : n ≤ 12) {b f v k : Nat} (hb : b < 14) (hf : f < 6) (eb : nt (4 * c) = nI b) (ef : fg c = nI f) (h1 : 1 ≤ v) (h3 : v ≤ 3) (k1 : pq_vlo v ≤ k) (k2 : k ≤ pq_vhi v) (hbel : pq_bel f b k = true) : fX0_fits (nI n) mi fg nt wt wl (nI c) (nI v) (nI k) = some (.ok 1) := by
  unfold fX0_fits
  have h := (pq_ofI (v := v) (k := k) (by omega) k1 k2).1
  have hB := pq_vB v (by omega)
  rw [pq_isC hc hn, (pq_upI h1 h3).1, (pq_noteI (show k ≤ 27 by omega)).1, h, pq_belongs (by omega) hb hf (by omega) eb ef, hbel]
  rfl
theorem qa_init : ∃ wt', fX0_init = some (0, 0, fun _ => 0, fun _ => 0, wt', fun _ => 0) := by
  have L : ∀ (j m k : Nat) (w : Nat → Int32), j + k = 8 → j < m → ∃ w', lpX0_init_48 m (nI k) w = some (nI 8, w') := by
    intro j
    induction j with
    | zero =>
      intro m k w h1 h2
      obtain ⟨m, rfl⟩ : ∃ z, m = z + 1 := ⟨m - 1, by omega⟩
      obtain rfl : k = 8 := by omega
      exact ⟨w, by rw [lpX0_init_48.eq_2, if_pos (by decide)]⟩
    | succ j ih =>
      intro m k w h1 h2
      obtain ⟨m, rfl⟩ : ∃ z, m = z + 1 := ⟨m - 1, by omega⟩
      obtain ⟨w', g⟩ := ih m (k + 1) (upd w k 2) (by omega) (by omega)
      refine ⟨w', ?_⟩
      rw [lpX0_init_48.eq_2, if_neg (by exact nI_ge (a := k) (b := 8) (by omega) (by decide)), pq_ix (show k < 8 by omega) (by decide), pq_ck, pq_p1, pq_cl (by omega)]
      exact g
  obtain ⟨w', g⟩ := L 8 14 0 (fun _ => 0) rfl (by decide)
  refine ⟨w', ?_⟩
  unfold fX0_init
  rw [show lpX0_init_48 14 0 (fun _ => 0) = _ from g]
  rfl
theorem qa_setKey {a m : Int32} {sz : Int32} (ha : fb_z a = true) (hm : fb_z m = true) : fX0_setKey sz m fg nt wt wl a = some (m, a) := by
  unfold fX0_setKey
  rw [ha, hm]
  rfl
theorem qa_mean (hi : pq_inv n nt fg) (hn : n ≤ 12) : fX0_mean (nI n) mi fg nt wt wl = some (if pq_cntT n mi nt fg wt 1 = 0 then FP.dconst0 else FP.ddiv (FP.i2d (pq_cntT n mi nt fg wt 5)) (FP.i2d (pq_cntT n mi nt fg wt 1))) := by
  unfold fX0_mean
  rw [show fX0_countOf (nI n) mi fg nt wt wl 1 = _ from pq_count (q := 1) hi hn (by decide), show fX0_countOf (nI n) mi fg nt wt wl 5 = _ from pq_count (q := 5) hi hn (by decide)]
  simp only [fb_b1]
  split <;> rfl
end
