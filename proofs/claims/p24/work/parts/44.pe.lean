/-! Pure rows, 5: a way put, its cost, the best way; what the reference leads to. -/
def pq_p3 (nt : Nat → Int32) (c : Nat) (x y z : Int32) : Nat → Int32 := upd (upd (upd nt (4 * c + 1) x) (4 * c + 2) y) (4 * c + 3) z
theorem pq_p3o {nt : Nat → Int32} {c j : Nat} {x y z : Int32} (h1 : j ≠ 4 * c + 1) (h2 : j ≠ 4 * c + 2) (h3 : j ≠ 4 * c + 3) : pq_p3 nt c x y z j = nt j := by
  unfold pq_p3
  rw [pk_un h3, pk_un h2, pk_un h1]
theorem pq_p31 {nt : Nat → Int32} {c : Nat} {x y z : Int32} : pq_p3 nt c x y z (4 * c + 1) = x := by
  unfold pq_p3
  rw [pk_un (by omega), pk_un (by omega), pk_us]
theorem pq_p32 {nt : Nat → Int32} {c : Nat} {x y z : Int32} : pq_p3 nt c x y z (4 * c + 2) = y := by
  unfold pq_p3
  rw [pk_un (by omega), pk_us]
theorem pq_p33 {nt : Nat → Int32} {c : Nat} {x y z : Int32} : pq_p3 nt c x y z (4 * c + 3) = z := by
  unfold pq_p3
  rw [pk_us]
theorem pq_p3e {nt nt' : Nat → Int32} {c : Nat} {x y z : Int32} (h : ∀ j, j ≠ 4 * c + 1 → j ≠ 4 * c + 2 → j ≠ 4 * c + 3 → nt' j = nt j) : pq_p3 nt' c x y z = pq_p3 nt c x y z := by
  funext j
  by_cases h1 : j = 4 * c + 1
  · rw [h1, pq_p31, pq_p31]
  · by_cases h2 : j = 4 * c + 2
    · rw [h2, pq_p32, pq_p32]
    · by_cases h3 : j = 4 * c + 3
      · rw [h3, pq_p33, pq_p33]
      · rw [pq_p3o h1 h2 h3, pq_p3o h1 h2 h3, h j h1 h2 h3]
theorem pq_p3id (nt : Nat → Int32) (c : Nat) : pq_p3 nt c (nt (4 * c + 1)) (nt (4 * c + 2)) (nt (4 * c + 3)) = nt := by
  funext j
  by_cases h1 : j = 4 * c + 1
  · rw [h1, pq_p31]
  · by_cases h2 : j = 4 * c + 2
    · rw [h2, pq_p32]
    · by_cases h3 : j = 4 * c + 3
      · rw [h3, pq_p33]
      · rw [pq_p3o h1 h2 h3]
/-- away from the three notes of c, both rows are the same -/
def pq_aw (nt nt' : Nat → Int32) (c : Nat) : Prop := ∀ j, j ≠ 4 * c + 1 → j ≠ 4 * c + 2 → j ≠ 4 * c + 3 → nt' j = nt j
theorem pq_awP (nt : Nat → Int32) (c : Nat) (x y z : Int32) : pq_aw nt (pq_p3 nt c x y z) c := fun _ h1 h2 h3 => pq_p3o h1 h2 h3
theorem pq_41 (c : Nat) : nI c * 4 + 1 = nI (4 * c + 1) := pq_4 c 1
theorem pq_42 (c : Nat) : nI c * 4 + 2 = nI (4 * c + 2) := pq_4 c 2
theorem pq_43 (c : Nat) : nI c * 4 + 3 = nI (4 * c + 3) := pq_4 c 3
theorem pq_41' (c : Nat) : (4 : Int32) * nI c + 1 = nI (4 * c + 1) := pq_4' c 1
theorem pq_42' (c : Nat) : (4 : Int32) * nI c + 2 = nI (4 * c + 2) := pq_4' c 2
theorem pq_43' (c : Nat) : (4 : Int32) * nI c + 3 = nI (4 * c + 3) := pq_4' c 3
theorem pq_putN {sz mi : Int32} {fg nt wt wl : Nat → Int32} {c : Nat} (hc : c < 12) (x y z : Int32) : fX0_putNotes sz mi fg nt wt wl (nI c) x y z = some (pq_p3 nt c x y z) := by
  unfold fX0_putNotes
  rw [pq_41, pq_42, pq_43, pq_ix (by omega) (by decide), pq_ix (by omega) (by decide), pq_ix (by omega) (by decide), pq_ck, pq_ck, pq_ck, pq_cl (by omega), pq_cl (by omega), pq_cl (by omega)]
  rfl
theorem pq_let {th ch mi : Int32} {fg nt wt : Nat → Int32} {c : Nat} (hc : c < 12) (x y z : Int32) : fX1_let th ch nt fg wt mi (nI c) x y z = some (pq_p3 nt c x y z) := by
  unfold fX1_let
  rw [pq_41', pq_42', pq_43', pq_ix (by omega) (by decide), pq_ix (by omega) (by decide), pq_ix (by omega) (by decide), pq_ck, pq_ck, pq_ck, pq_cl (by omega), pq_cl (by omega), pq_cl (by omega)]
  rfl
/-- chord c with the way x put -/
def pq_w (nt : Nat → Int32) (c x : Nat) : Nat → Int32 := pq_p3 nt c (nI (x / 784)) (nI (x / 28 % 28)) (nI (x % 28))
theorem pq_inRB {x : Nat} (h : pq_inR x = true) : 5 ≤ x / 784 ∧ x / 784 ≤ 14 ∧ 8 ≤ x / 28 % 28 ∧ x / 28 % 28 ≤ 18 ∧ 12 ≤ x % 28 ∧ x % 28 ≤ 22 := of_decide_eq_true h
theorem pq_deco {x : Nat} (h : x < 2 ^ 31) : nI x / 784 = nI (x / 784) ∧ nI x / 28 - nI x / 28 / 28 * 28 = nI (x / 28 % 28) ∧ nI x - nI x / 28 * 28 = nI (x % 28) := by
  refine ⟨pk_div (a := x) (d := 784) h (by decide) (by decide), ?_, pk_rem (a := x) (d := 28) h (by decide) (by decide)⟩
  have e : nI x / 28 = nI (x / 28) := pk_div (a := x) (d := 28) h (by decide) (by decide)
  rw [e]
  exact pk_rem (a := x / 28) (d := 28) (by omega) (by decide) (by decide)
theorem pq_putW {sz mi : Int32} {fg nt wt wl : Nat → Int32} {c x : Nat} (hc : c < 12) (hx : x < 2 ^ 31) : fX0_putWay sz mi fg nt wt wl (nI c) (nI x) = some (pq_w nt c x) := by
  unfold fX0_putWay
  obtain ⟨e1, e2, e3⟩ := pq_deco hx
  rw [e1, e2, e3, pq_putN hc]
  rfl
theorem pq_invP {n c : Nat} {nt fg : Nat → Int32} {x y z : Int32} (hi : pq_inv n nt fg) (hx : x = -1 ∨ ∃ k, 5 ≤ k ∧ k ≤ 14 ∧ x = nI k) (hy : y = -1 ∨ ∃ k, 8 ≤ k ∧ k ≤ 18 ∧ y = nI k) (hz : z = -1 ∨ ∃ k, 12 ≤ k ∧ k ≤ 22 ∧ z = nI k) : pq_inv n (pq_p3 nt c x y z) fg := by
  intro d hd
  obtain ⟨h0, h1, h2, h3, h4⟩ := hi d hd
  by_cases e : d = c
  · subst e
    refine ⟨?_, ?_, ?_, ?_, h4⟩
    · rw [pq_p3o (by omega) (by omega) (by omega)]; exact h0
    · unfold pq_up; rw [pq_p31]; exact hx
    · unfold pq_up; rw [pq_p32]; exact hy
    · unfold pq_up; rw [pq_p33]; exact hz
  · refine ⟨?_, ?_, ?_, ?_, h4⟩
    · rw [pq_p3o (by omega) (by omega) (by omega)]; exact h0
    · unfold pq_up; rw [pq_p3o (by omega) (by omega) (by omega)]; exact h1
    · unfold pq_up; rw [pq_p3o (by omega) (by omega) (by omega)]; exact h2
    · unfold pq_up; rw [pq_p3o (by omega) (by omega) (by omega)]; exact h3
theorem pq_invW {n c x : Nat} {nt fg : Nat → Int32} (hi : pq_inv n nt fg) (hx : pq_inR x = true) : pq_inv n (pq_w nt c x) fg := by
  obtain ⟨h1, h2, h3, h4, h5, h6⟩ := pq_inRB hx
  exact pq_invP hi (Or.inr ⟨_, h1, h2, rfl⟩) (Or.inr ⟨_, h3, h4, rfl⟩) (Or.inr ⟨_, h5, h6, rfl⟩)
/-- what a way costs: its chord, and the next one if there is one -/
def pq_own (n : Nat) (mi : Int32) (nt fg wt : Nat → Int32) (c x : Nat) : Int32 := pq_cost mi (pq_w nt c x) fg wt c + (if c + 1 < n then pq_cost mi (pq_w nt c x) fg wt (c + 1) else 0)
def pq_sW (g : Nat → Int32) (p : Int32 × Int32) (x : Nat) : Int32 × Int32 := if p.1 = -1 then (nI x, g x) else if g x < p.2 then (nI x, g x) else p
theorem pq_sW1 {g : Nat → Int32} {p : Int32 × Int32} {x : Nat} (h : p.1 = -1) : pq_sW g p x = (nI x, g x) := if_pos h
theorem pq_sW2 {g : Nat → Int32} {p : Int32 × Int32} {x : Nat} (h : ¬ p.1 = -1) (h2 : g x < p.2) : pq_sW g p x = (nI x, g x) := by
  unfold pq_sW
  rw [if_neg h, if_pos h2]
theorem pq_sW3 {g : Nat → Int32} {p : Int32 × Int32} {x : Nat} (h : ¬ p.1 = -1) (h2 : ¬ g x < p.2) : pq_sW g p x = p := by
  unfold pq_sW
  rw [if_neg h, if_neg h2]
/-- a best way: none, or a way -/
def pq_bo (b : Int32) : Prop := b = -1 ∨ ∃ y, pq_inR y = true ∧ b = nI y
theorem pq_inRlt {x : Nat} (h : pq_inR x = true) : x < 2 ^ 31 := by
  have := pq_inRB h
  omega
theorem pq_boN {b : Int32} (h : pq_bo b) : b < 0 ↔ b = -1 := by
  rcases h with h | ⟨y, h1, h2⟩
  · subst h
    decide
  · subst h2
    constructor
    · intro h; exact absurd h (nI_pos (pq_inRlt h1))
    · intro h
      exfalso
      have := nI_pos (n := y) (pq_inRlt h1)
      rw [h] at this
      exact this (by decide)
theorem pq_boS {g : Nat → Int32} {p : Int32 × Int32} {x : Nat} (h : pq_bo p.1) (hx : pq_inR x = true) : pq_bo (pq_sW g p x).1 := by
  by_cases h1 : p.1 = -1
  · rw [pq_sW1 h1]; exact Or.inr ⟨x, hx, rfl⟩
  · by_cases h2 : g x < p.2
    · rw [pq_sW2 h1 h2]; exact Or.inr ⟨x, hx, rfl⟩
    · rw [pq_sW3 h1 h2]; exact h
theorem pq_boF {g : Nat → Int32} : ∀ (L : List Nat) (p : Int32 × Int32), pq_bo p.1 → L.all pq_inR = true → pq_bo (L.foldl (pq_sW g) p).1 := by
  intro L
  induction L with
  | nil => intro p h _; exact h
  | cons x L ih =>
    intro p h h2
    simp only [List.all_cons, Bool.and_eq_true] at h2
    exact ih _ (pq_boS h h2.1) h2.2
section
variable {mi th : Int32} {fg nt wt wl : Nat → Int32} {n c : Nat}
theorem pq_bestL {N : Nat} (hi : pq_inv n nt fg) (hc : c < n) (hn : n ≤ 12) (hN : N ≤ 96) : ∀ (L : List Nat) (m i : Nat) (p : Int32 × Int32) (nt' : Nat → Int32), i + L.length = N → L.length < m → (∀ j (h : j < L.length), wl (i + j) = nI (L[j])) → L.all pq_inR = true → pq_bo p.1 → pq_aw nt nt' c → ∃ nt'', pq_aw nt nt'' c ∧ lpX0_bestWay_38 (nI c) (nI n) mi fg wt (nI N) wl m (nI i) p.2 p.1 nt' = some (nI N, (L.foldl (pq_sW (pq_own n mi nt fg wt c)) p).2, (L.foldl (pq_sW (pq_own n mi nt fg wt c)) p).1, nt'') := by
  intro L
  induction L with
  | nil =>
    intro m i p nt' h1 h2 h3 h4 h5 h6
    obtain ⟨m, rfl⟩ : ∃ z, m = z + 1 := ⟨m - 1, by simp only [List.length_nil] at h2; omega⟩
    obtain rfl : i = N := h1
    refine ⟨nt', h6, ?_⟩
    rw [lpX0_bestWay_38.eq_2, if_pos (nI_le (Nat.le_refl _) (by omega))]
    rfl
  | cons x L ih =>
    intro m i p nt' h1 h2 h3 h4 h5 h6
    simp only [List.length_cons] at h1 h2
    obtain ⟨m, rfl⟩ : ∃ z, m = z + 1 := ⟨m - 1, by omega⟩
    simp only [List.all_cons, Bool.and_eq_true] at h4
    have ex : wl i = nI x := h3 0 (by simp only [List.length_cons]; omega)
    have hw : pq_w nt' c x = pq_w nt c x := pq_p3e h6
    have hiw : pq_inv n (pq_w nt c x) fg := pq_invW hi h4.1
    have eo : fX0_costOf (nI n) mi fg (pq_w nt c x) wt wl (nI (c + 1)) = some (if c + 1 < n then pq_cost mi (pq_w nt c x) fg wt (c + 1) else 0) := by
      by_cases h : c + 1 < n
      · rw [if_pos h, pq_costOf hiw h hn]
      · rw [if_neg h, pq_costN (Or.inr (nI_le (by omega) (by omega)))]
    obtain ⟨nt'', g1, g2⟩ := ih m (i + 1) (pq_sW (pq_own n mi nt fg wt c) p x) (pq_w nt c x) (by omega) (by omega) (fun j h => by
      rw [show i + 1 + j = i + (j + 1) by omega]
      exact h3 (j + 1) (by simp only [List.length_cons]; omega)) h4.2 (pq_boS h5 h4.1) (pq_awP _ _ _ _ _)
    refine ⟨nt'', g1, ?_⟩
    rw [List.foldl_cons, ← g2, lpX0_bestWay_38.eq_2, if_neg (nI_ge (by omega) (by omega)), if_neg (by exact nI_ge (a := i) (b := 96) (by omega) (by decide)), pq_ix (show i < 96 by omega) (by decide), pq_ck, pq_cl (by omega), ex, pq_putW (by omega) (pq_inRlt h4.1), hw]
    simp only [fb_b1]
    rw [pq_costOf hiw hc hn, pq_p1, eo]
    simp only
    rw [pq_p1, show (pq_cost mi (pq_w nt c x) fg wt c + if c + 1 < n then pq_cost mi (pq_w nt c x) fg wt (c + 1) else 0) = pq_own n mi nt fg wt c x from rfl]
    by_cases k1 : p.1 = -1
    · rw [if_pos ((pq_boN h5).mpr k1), pq_sW1 k1]
      rfl
    · rw [if_neg (fun z => k1 ((pq_boN h5).mp z))]
      by_cases k2 : pq_own n mi nt fg wt c x < p.2
      · rw [if_neg (Int32.not_le.mpr k2), pq_sW2 k1 k2]
        rfl
      · rw [if_pos (Int32.not_lt.mp k2), pq_sW3 k1 k2]
        rfl
def pq_ways (nt fg : Nat → Int32) (c : Nat) : List Nat := pq_TR (nt (4 * c)).toNatClampNeg (fg c).toNatClampNeg
def pq_bst (n : Nat) (mi : Int32) (nt fg wt : Nat → Int32) (c : Nat) : Int32 × Int32 := (pq_ways nt fg c).foldl (pq_sW (pq_own n mi nt fg wt c)) (-1, 0)
theorem pq_waysE (h : pq_ok nt fg c) : ∃ b f, b < 14 ∧ f < 6 ∧ nt (4 * c) = nI b ∧ fg c = nI f ∧ pq_ways nt fg c = pq_TR b f := by
  obtain ⟨⟨b, hb, eb⟩, -, -, -, f, hf, ef⟩ := h
  refine ⟨b, f, hb, hf, eb, ef, ?_⟩
  unfold pq_ways
  rw [eb, ef, pq_cl (by omega), pq_cl (by omega)]
theorem pq_waysOk (h : pq_ok nt fg c) : (pq_ways nt fg c).length ≤ 96 ∧ (pq_ways nt fg c).all pq_inR = true := by
  obtain ⟨b, f, hb, hf, -, -, e⟩ := pq_waysE h
  rw [e]
  exact pq_TRok b hb f hf
theorem pq_bstOk (h : pq_ok nt fg c) : pq_bo (pq_bst n mi nt fg wt c).1 := pq_boF _ _ (Or.inl rfl) (pq_waysOk h).2
theorem pq_list {sz : Int32} (hc : c < 12) (h : pq_ok nt fg c) : fX0_listWays sz mi fg nt wt wl (nI c) = some (nI (pq_ways nt fg c).length, pq_fill wl 0 (pq_ways nt fg c)) := by
  obtain ⟨b, f, hb, hf, eb, ef, e⟩ := pq_waysE h
  rw [e]
  exact pq_listWays hc hb hf eb ef
theorem pq_bestWay (hi : pq_inv n nt fg) (hc : c < n) (hn : n ≤ 12) : fX0_bestWay (nI n) mi fg nt wt wl (nI c) = some ((pq_bst n mi nt fg wt c).1, nt, pq_fill wl 0 (pq_ways nt fg c)) := by
  unfold fX0_bestWay
  rw [pq_note1 (by omega), pq_note2 (by omega), pq_note3 (by omega), pq_list (by omega) (hi c hc)]
  simp only [fb_b1, fb_b2]
  have ho := pq_waysOk (hi c hc)
  obtain ⟨nt'', g1, g2⟩ := pq_bestL (mi := mi) (wt := wt) (wl := pq_fill wl 0 (pq_ways nt fg c)) hi hc hn ho.1 (pq_ways nt fg c) 100 0 (-1, 0) nt (Nat.zero_add _) (by omega) (fun j h => by
    rw [pq_fillG _ _ 0 j h]) ho.2 (Or.inl rfl) (fun _ _ _ _ => rfl)
  rw [show lpX0_bestWay_38 (nI c) (nI n) mi fg wt (nI (pq_ways nt fg c).length) (pq_fill wl 0 (pq_ways nt fg c)) 100 0 0 (-1) nt = _ from g2]
  simp only [fb_b4]
  rw [pq_putN (by omega), pq_p3e g1, pq_p3id]
  rfl
end
