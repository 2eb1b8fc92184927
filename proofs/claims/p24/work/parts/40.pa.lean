/-! Pure rows, 1: numbers; notes, set chords, steps, right chords: what class and reference answer on states that can be (my own rows; pq_ is my prefix). -/
theorem pq_ix {k n : Nat} (h : k < n) (hn : n < 2 ^ 31) : fb_ix (nI k) n = true := by
  unfold fb_ix
  have h1 := nI_pos (n := k) (by omega)
  have h2 := nI_clamp (n := k) (by omega)
  simp [h1, h2, h]
theorem pq_ck {α : Type} (k : Option α) : fb_ck true k = k := rfl
theorem pq_cl {k : Nat} (h : k < 2 ^ 31) : (nI k).toNatClampNeg = k := nI_clamp h
theorem pq_4 (c v : Nat) : nI c * 4 + nI v = nI (4 * c + v) := by
  rw [show (4 : Int32) = nI 4 from rfl, pk_mul, nI_add, Nat.mul_comm]
theorem pq_4' (c v : Nat) : (4 : Int32) * nI c + nI v = nI (4 * c + v) := by
  rw [show (4 : Int32) = nI 4 from rfl, pk_mul, nI_add]
theorem pq_m1 (d : Nat) : nI (d + 1) - 1 = nI d := nI_pred d
theorem pq_p1 (d : Nat) : nI d + 1 = nI (d + 1) := nI_1 d
def pq_b (b : Bool) : Int32 := if b then 1 else 0
theorem pq_bt : pq_b true = 1 := rfl
theorem pq_bf : pq_b false = 0 := rfl
theorem pq_b0 (b : Bool) : pq_b b = 0 ↔ b = false := by cases b <;> decide
theorem pq_bz (b : Bool) : fb_z (pq_b b) = true := by cases b <;> decide
/-! a note's place -/
section
variable {sz mi th ch : Int32} {fg nt wt wl : Nat → Int32}
theorem pq_note {c v : Nat} (hc : c < 12) (hv : v < 4) : fX0_noteAt sz mi fg nt wt wl (nI c) (nI v) = some (nt (4 * c + v)) := by
  unfold fX0_noteAt
  rw [pq_4, pq_ix (by omega) (by omega), pq_ck, pq_cl (by omega)]
theorem pq_note0 {c : Nat} (hc : c < 12) : fX0_noteAt sz mi fg nt wt wl (nI c) 0 = some (nt (4 * c)) := pq_note (v := 0) hc (by decide)
theorem pq_note1 {c : Nat} (hc : c < 12) : fX0_noteAt sz mi fg nt wt wl (nI c) 1 = some (nt (4 * c + 1)) := pq_note (v := 1) hc (by decide)
theorem pq_note2 {c : Nat} (hc : c < 12) : fX0_noteAt sz mi fg nt wt wl (nI c) 2 = some (nt (4 * c + 2)) := pq_note (v := 2) hc (by decide)
theorem pq_note3 {c : Nat} (hc : c < 12) : fX0_noteAt sz mi fg nt wt wl (nI c) 3 = some (nt (4 * c + 3)) := pq_note (v := 3) hc (by decide)
theorem pq_at {c v : Nat} (hc : c < 12) (hv : v < 4) : fX1_at th ch nt fg wt mi (nI c) (nI v) = some (nt (4 * c + v)) := by
  unfold fX1_at
  rw [pq_4', pq_ix (by omega) (by omega), pq_ck, pq_cl (by omega)]
theorem pq_at0 {c : Nat} (hc : c < 12) : fX1_at th ch nt fg wt mi (nI c) 0 = some (nt (4 * c)) := pq_at (v := 0) hc (by decide)
theorem pq_at1 {c : Nat} (hc : c < 12) : fX1_at th ch nt fg wt mi (nI c) 1 = some (nt (4 * c + 1)) := pq_at (v := 1) hc (by decide)
theorem pq_at2 {c : Nat} (hc : c < 12) : fX1_at th ch nt fg wt mi (nI c) 2 = some (nt (4 * c + 2)) := pq_at (v := 2) hc (by decide)
theorem pq_at3 {c : Nat} (hc : c < 12) : fX1_at th ch nt fg wt mi (nI c) 3 = some (nt (4 * c + 3)) := pq_at (v := 3) hc (by decide)
/-! which number is a chord's -/
theorem pq_isC {n c : Nat} (hc : c < n) (hn : n ≤ 12) : fX0_isChord (nI n) mi fg nt wt wl (nI c) = some 1 := by
  unfold fX0_isChord
  rw [if_neg (nI_pos (by omega)), if_neg (nI_ge hc (by omega))]
theorem pq_isN {n : Nat} {x : Int32} (h : x < 0 ∨ nI n ≤ x) : fX0_isChord (nI n) mi fg nt wt wl x = some 0 := by
  unfold fX0_isChord
  by_cases h0 : x < 0
  · rw [if_pos h0]
  · rw [if_neg h0, if_pos (h.resolve_left h0)]
theorem pq_isC1 {n c : Nat} (hc : c < n) (hn : n ≤ 12) : fX1_isChord th (nI n) nt fg wt mi (nI c) = some 1 := by
  obtain ⟨k, rfl⟩ : ∃ k, n = k + 1 := ⟨n - 1, by omega⟩
  unfold fX1_isChord fX1_isIn
  rw [pq_m1, if_neg (nI_pos (by omega)), if_neg (nI_nlt (by omega) (by omega))]
  rfl
theorem pq_isN1 {n : Nat} {x : Int32} (hn : n ≤ 12) (h : x < 0 ∨ nI n ≤ x) : fX1_isChord th (nI n) nt fg wt mi x = some 0 := by
  unfold fX1_isChord fX1_isIn
  by_cases h0 : x < 0
  · rw [if_pos h0]
    rfl
  · have h1 := h.resolve_left h0
    rw [if_neg h0, if_pos]
    · rfl
    · rw [Int32.lt_iff_toInt_lt]
      rw [Int32.le_iff_toInt_le, nI_toInt (by omega)] at h1
      have e : (nI n - 1).toInt = (n : Int) - 1 := by
        rw [show (1 : Int32) = nI 1 from rfl, pk_sub_toInt (by omega) (by decide)]
        rfl
      omega
/-- an argument is a chord's number, or none -/
theorem pq_arg (x : Int32) {n : Nat} (hn : n ≤ 12) : (∃ c, c < n ∧ x = nI c) ∨ (x < 0 ∨ nI n ≤ x) := by
  rcases pk_ix x (n := n) (by omega) with h | h | ⟨j, h1, h2⟩
  · exact Or.inr (Or.inl h)
  · exact Or.inr (Or.inr h)
  · exact Or.inl ⟨j, h1, h2⟩
/-! set -/
def pq_set (nt : Nat → Int32) (c : Nat) : Bool := decide (¬ nt (4 * c + 1) = -1) && (decide (¬ nt (4 * c + 2) = -1) && decide (¬ nt (4 * c + 3) = -1))
theorem pq_isSet {n c : Nat} (hc : c < n) (hn : n ≤ 12) : fX0_isSet (nI n) mi fg nt wt wl (nI c) = some (pq_b (pq_set nt c)) := by
  unfold fX0_isSet
  rw [pq_isC hc hn, pq_note1 (by omega), pq_note2 (by omega), pq_note3 (by omega)]
  unfold pq_set
  by_cases h1 : nt (4 * c + 1) = -1 <;> by_cases h2 : nt (4 * c + 2) = -1 <;> by_cases h3 : nt (4 * c + 3) = -1 <;> simp [fb_b1, h1, h2, h3, pq_b]
theorem pq_isSetN {n : Nat} {x : Int32} (h : x < 0 ∨ nI n ≤ x) : fX0_isSet (nI n) mi fg nt wt wl x = some 0 := by
  unfold fX0_isSet
  rw [pq_isN h]
  rfl
theorem pq_isSet1 {c : Nat} (hc : c < 12) : fX1_isSet th ch nt fg wt mi (nI c) = some (pq_b (pq_set nt c)) := by
  unfold fX1_isSet
  rw [pq_at1 hc, pq_at2 hc, pq_at3 hc]
  unfold pq_set
  by_cases h1 : nt (4 * c + 1) = -1 <;> by_cases h2 : nt (4 * c + 2) = -1 <;> by_cases h3 : nt (4 * c + 3) = -1 <;> simp [fb_b1, h1, h2, h3, pq_b]
end
/-! what a state of n chords is -/
def pq_up (nt : Nat → Int32) (c v lo hi : Nat) : Prop := nt (4 * c + v) = -1 ∨ ∃ k, lo ≤ k ∧ k ≤ hi ∧ nt (4 * c + v) = nI k
def pq_ok (nt fg : Nat → Int32) (c : Nat) : Prop := (∃ b, b < 14 ∧ nt (4 * c) = nI b) ∧ pq_up nt c 1 5 14 ∧ pq_up nt c 2 8 18 ∧ pq_up nt c 3 12 22 ∧ ∃ f, f < 6 ∧ fg c = nI f
def pq_inv (n : Nat) (nt fg : Nat → Int32) : Prop := ∀ c, c < n → pq_ok nt fg c
/-- a set chord's notes, as numbers -/
theorem pq_notes {nt fg : Nat → Int32} {c : Nat} (h : pq_ok nt fg c) (hs : pq_set nt c = true) : ∃ b t a s f, b < 14 ∧ 5 ≤ t ∧ t ≤ 14 ∧ 8 ≤ a ∧ a ≤ 18 ∧ 12 ≤ s ∧ s ≤ 22 ∧ f < 6 ∧ nt (4 * c) = nI b ∧ nt (4 * c + 1) = nI t ∧ nt (4 * c + 2) = nI a ∧ nt (4 * c + 3) = nI s ∧ fg c = nI f := by
  obtain ⟨⟨b, hb, eb⟩, h1, h2, h3, f, hf, ef⟩ := h
  simp only [pq_set, Bool.and_eq_true, decide_eq_true_eq] at hs
  obtain ⟨t, t1, t2, et⟩ := h1.resolve_left hs.1
  obtain ⟨a, a1, a2, ea⟩ := h2.resolve_left hs.2.1
  obtain ⟨s, s1, s2, es⟩ := h3.resolve_left hs.2.2
  exact ⟨b, t, a, s, f, hb, t1, t2, a1, a2, s1, s2, hf, eb, et, ea, es, ef⟩
/-! steps -/
def pq_st (x b : Int32) : Int32 := ((x - b) + 21) - ((x - b) + 21) / 7 * 7
theorem pq_step0 : ∀ b, b < 14 → ∀ x, x < 28 → fX0_stepAbove (nI b) (nI x) = some (nI ((x + 21 - b) % 7)) := by decide +kernel
theorem pq_step1 : ∀ b, b < 14 → ∀ x, x < 28 → pq_st (nI x) (nI b) = nI ((x + 21 - b) % 7) := by decide +kernel
theorem pq_stepE (x b : Int32) : fX1_step x b = some (pq_st x b) := rfl
/-! belongs -/
def pq_FIG (f : Nat) : Nat := [21, 37, 41, 85, 25, 53].getD f 0
def pq_bel (f b x : Nat) : Bool := (pq_FIG f).testBit ((x + 21 - b) % 7)
theorem pq_bel0 : ∀ f, f < 6 → ∀ j, j < 7 → (((fb_tX0_FIGURE_STEPS (nI f).toNatClampNeg) &&& ((1 : Int32) <<< (nI j &&& 31))) = 0 ↔ (pq_FIG f).testBit j = false) := by decide +kernel
theorem pq_bel1 : ∀ f, f < 6 → ∀ j, j < 7 → (((((fb_tX1_STEPS (nI f).toNatClampNeg) ||| 1) >>> (nI j &&& 31)) &&& 1) = 1 ↔ (pq_FIG f).testBit j = true) := by decide +kernel
theorem pq_belongs {sz mi : Int32} {fg nt wt wl : Nat → Int32} {c b f x : Nat} (hc : c < 12) (hb : b < 14) (hf : f < 6) (hx : x < 28) (eb : nt (4 * c) = nI b) (ef : fg c = nI f) : fX0_belongs sz mi fg nt wt wl (nI c) (nI x) = some (pq_b (pq_bel f b x)) := by
  unfold fX0_belongs
  rw [pq_note0 hc, eb]
  simp only [fb_b1]
  rw [pq_step0 b hb x hx]
  simp only [pq_cl (show c < 2 ^ 31 by omega), ef]
  rw [pq_ix hc (by decide), pq_ck, pq_ix hf (by decide), pq_ck]
  have h := pq_bel0 f hf ((x + 21 - b) % 7) (Nat.mod_lt _ (by decide))
  unfold pq_bel
  cases ht : (pq_FIG f).testBit ((x + 21 - b) % 7) with
  | false => rw [if_pos (h.mpr ht)]; rfl
  | true => rw [if_neg (fun z => by rw [h.mp z] at ht; cases ht)]; rfl
theorem pq_belongs1 {b f x : Nat} (hb : b < 14) (hf : f < 6) (hx : x < 28) : fX1_belongs (nI x) (nI b) (nI f) = some (pq_b (pq_bel f b x)) := by
  unfold fX1_belongs
  rw [pq_ix hf (by decide), pq_ck, pq_stepE]
  simp only [fb_b1]
  rw [pq_step1 b hb x hx]
  have h := pq_bel1 f hf ((x + 21 - b) % 7) (Nat.mod_lt _ (by decide))
  unfold pq_bel
  cases ht : (pq_FIG f).testBit ((x + 21 - b) % 7) with
  | false => rw [if_neg (fun z => by rw [h.mp z] at ht; cases ht)]; rfl
  | true => rw [if_pos (h.mpr ht)]; rfl
/-! right -/
def pq_bit (x b : Int32) : Int32 := (1 : Int32) <<< (pq_st x b &&& 31)
def pq_right (b t a s g : Int32) : Bool := decide (¬ t < b) && (decide (¬ a < t) && (decide (¬ s < a) && decide ((((1 : Int32) ||| pq_bit t b) ||| pq_bit a b) ||| pq_bit s b = g)))
theorem pq_figs : ∀ f, f < 6 → fb_tX0_FIGURE_STEPS (nI f).toNatClampNeg = nI (pq_FIG f) ∧ (fb_tX1_STEPS (nI f).toNatClampNeg ||| 1) = nI (pq_FIG f) := by decide +kernel
theorem pq_rightW {sz mi : Int32} {fg nt wt wl : Nat → Int32} {c b f t a s : Nat} (hc : c < 12) (hb : b < 14) (hf : f < 6) (ht : t < 28) (ha : a < 28) (hs : s < 28) (eb : nt (4 * c) = nI b) (ef : fg c = nI f) : fX0_isRightWith sz mi fg nt wt wl (nI c) (nI t) (nI a) (nI s) = some (pq_b (pq_right (nI b) (nI t) (nI a) (nI s) (nI (pq_FIG f)))) := by
  unfold fX0_isRightWith
  rw [pq_note0 hc, eb]
  simp only [fb_b1]
  rw [pq_step0 b hb t ht, pq_step0 b hb a ha, pq_step0 b hb s hs]
  simp only [pq_cl (show c < 2 ^ 31 by omega), ef]
  rw [pq_ix hc (by decide), pq_ck, pq_ix hf (by decide), pq_ck, (pq_figs f hf).1]
  unfold pq_right pq_bit
  rw [pq_step1 b hb t ht, pq_step1 b hb a ha, pq_step1 b hb s hs]
  by_cases h1 : nI t < nI b
  · simp [h1, pq_b]
  · by_cases h2 : nI a < nI t
    · simp [h1, h2, pq_b]
    · by_cases h3 : nI s < nI a
      · have h4 : ¬ nI a ≤ nI s := by rw [Int32.not_le]; exact h3
        simp [h1, h2, h3, h4, pq_b]
      · have h4 : nI a ≤ nI s := by rw [← Int32.not_lt]; exact h3
        rw [if_neg h1, if_neg h2, if_pos h4]
        simp only [h1, h2, h3, not_false_eq_true, decide_true, Bool.true_and]
        by_cases h5 : (((1 : Int32) ||| ((1 : Int32) <<< (nI ((t + 21 - b) % 7) &&& 31))) ||| ((1 : Int32) <<< (nI ((a + 21 - b) % 7) &&& 31))) ||| ((1 : Int32) <<< (nI ((s + 21 - b) % 7) &&& 31)) = nI (pq_FIG f)
        · rw [if_pos h5, decide_eq_true h5]; rfl
        · rw [if_neg h5, decide_eq_false h5]; rfl
theorem pq_isRight {n c : Nat} {mi : Int32} {fg nt wt wl : Nat → Int32} (hc : c < n) (hn : n ≤ 12) (h : pq_ok nt fg c) : fX0_isRight (nI n) mi fg nt wt wl (nI c) = some (pq_b (pq_set nt c && pq_right (nt (4 * c)) (nt (4 * c + 1)) (nt (4 * c + 2)) (nt (4 * c + 3)) (nI (pq_FIG (fg c).toNatClampNeg)))) := by
  unfold fX0_isRight
  rw [pq_isSet hc hn]
  cases hs : pq_set nt c with
  | false => rfl
  | true =>
    obtain ⟨b, t, a, s, f, hb, t1, t2, a1, a2, s1, s2, hf, eb, et, ea, es, ef⟩ := pq_notes h hs
    simp only [fb_b1]
    rw [if_neg (show ¬ pq_b true = 0 by decide), pq_note1 (by omega), pq_note2 (by omega), pq_note3 (by omega)]
    simp only
    rw [et, ea, es, pq_rightW (b := b) (f := f) (by omega) hb hf (by omega) (by omega) (by omega) eb ef, eb, ef, pq_cl (by omega)]
    cases pq_right (nI b) (nI t) (nI a) (nI s) (nI (pq_FIG f)) <;> rfl
theorem pq_or4 (x y z : Int32) : (((0 ||| x) ||| y) ||| z) ||| 1 = (((1 : Int32) ||| x) ||| y) ||| z := by
  rw [Int32.zero_or, Int32.or_comm _ 1, ← Int32.or_assoc, ← Int32.or_assoc]
theorem pq_iteN {p : Prop} [Decidable p] : (if p then some (0 : Int32) else some 1) = some (pq_b (decide (¬ p))) := by
  by_cases h : p
  · rw [if_pos h, decide_eq_false (not_not_intro h)]; rfl
  · rw [if_neg h, decide_eq_true h]; rfl
theorem pq_and3 (p q r : Bool) : ((1 &&& pq_b p) &&& pq_b q) &&& pq_b r = pq_b (p && (q && r)) := by cases p <;> cases q <;> cases r <;> decide
theorem pq_bitE (x b : Int32) : (1 : Int32) <<< (pq_st x b &&& 31) = pq_bit x b := rfl
theorem pq_isRightS {c d n : Nat} {o x th ch mi : Int32} {fg nt wt : Nat → Int32} (hc : c < 12) (hd : d < 3) : lpX1_isRight_17 (nI c) th ch nt fg wt mi (n + 1) (nI (d + 1)) o x = lpX1_isRight_17 (nI c) th ch nt fg wt mi n (nI (d + 1 + 1)) (o &&& pq_b (decide (¬ nt (4 * c + (d + 1)) < nt (4 * c + d)))) (x ||| pq_bit (nt (4 * c + (d + 1))) (nt (4 * c))) := by
  rw [lpX1_isRight_17.eq_2, if_neg (by exact nI_ge (a := d + 1) (b := 4) (by omega) (by decide)), pq_at hc (show d + 1 < 4 by omega), pq_m1, pq_at hc (show d < 4 by omega), pq_at0 hc, pq_p1]
  simp only [fb_b1]
  rw [pq_iteN]
  rfl
theorem pq_isRightL {c : Nat} {th ch mi : Int32} {fg nt wt : Nat → Int32} (hc : c < 12) : lpX1_isRight_17 (nI c) th ch nt fg wt mi 14 1 1 0 = some (nI 4, ((1 &&& pq_b (decide (¬ nt (4 * c + 1) < nt (4 * c)))) &&& pq_b (decide (¬ nt (4 * c + 2) < nt (4 * c + 1)))) &&& pq_b (decide (¬ nt (4 * c + 3) < nt (4 * c + 2))), ((0 ||| pq_bit (nt (4 * c + 1)) (nt (4 * c))) ||| pq_bit (nt (4 * c + 2)) (nt (4 * c))) ||| pq_bit (nt (4 * c + 3)) (nt (4 * c))) := by
  rw [show lpX1_isRight_17 (nI c) th ch nt fg wt mi 14 1 1 0 = lpX1_isRight_17 (nI c) th ch nt fg wt mi 14 (nI (0 + 1)) 1 0 from rfl, pq_isRightS hc (by decide), pq_isRightS hc (by decide), pq_isRightS hc (by decide), lpX1_isRight_17.eq_2, if_pos (by decide)]
  rfl
theorem pq_isRight1 {c : Nat} {th ch mi : Int32} {fg nt wt : Nat → Int32} (hc : c < 12) (h : pq_ok nt fg c) : fX1_isRight th ch nt fg wt mi (nI c) = some (pq_b (pq_set nt c && pq_right (nt (4 * c)) (nt (4 * c + 1)) (nt (4 * c + 2)) (nt (4 * c + 3)) (nI (pq_FIG (fg c).toNatClampNeg)))) := by
  unfold fX1_isRight
  rw [pq_isSet1 hc]
  cases hs : pq_set nt c with
  | false => rfl
  | true =>
    obtain ⟨f, hf, ef⟩ := h.2.2.2.2
    simp only [fb_b1]
    rw [if_neg (show ¬ pq_b true = 0 by decide), pq_isRightL hc]
    simp only [fb_b3, pq_and3]
    simp only [pq_cl (show c < 2 ^ 31 by omega), ef]
    rw [pq_ix hc (by decide), pq_ck, pq_ix hf (by decide), pq_ck, (pq_figs f hf).2, pq_or4, pq_cl (show f < 2 ^ 31 by omega)]
    unfold pq_right
    rw [Bool.true_and]
    generalize decide (¬ nt (4 * c + 1) < nt (4 * c)) = p1
    generalize decide (¬ nt (4 * c + 2) < nt (4 * c + 1)) = p2
    generalize decide (¬ nt (4 * c + 3) < nt (4 * c + 2)) = p3
    rw [show ∀ e, (p1 && (p2 && (p3 && e))) = ((p1 && (p2 && p3)) && e) by intro e; cases p1 <;> cases p2 <;> rfl]
    generalize (p1 && (p2 && p3)) = q
    cases q with
    | false => rw [if_pos (show pq_b false = 0 from rfl), Bool.false_and, pq_bf]
    | true =>
      rw [if_neg (show ¬ pq_b true = 0 by decide), Bool.true_and]
      by_cases h5 : (((1 : Int32) ||| pq_bit (nt (4 * c + 1)) (nt (4 * c))) ||| pq_bit (nt (4 * c + 2)) (nt (4 * c))) ||| pq_bit (nt (4 * c + 3)) (nt (4 * c)) = nI (pq_FIG f)
      · rw [if_pos h5, decide_eq_true h5, pq_bt]
      · rw [if_neg h5, decide_eq_false h5, pq_bf]
