/-! Pure rows, 2: pitches, intervals, the faults of a chord and the one ahead, steps, cost. -/
def pq_pit (mi x : Int32) : Int32 := (12 : Int32) * (x / 7) + (if mi = 0 then fb_tX0_MAJOR (x - x / 7 * 7).toNatClampNeg else fb_tX0_MINOR (x - x / 7 * 7).toNatClampNeg)
theorem pq_pix : ∀ x, x < 28 → fb_ix (nI x - nI x / 7 * 7) 7 = true := by decide +kernel
def pq_int (mi x y k : Int32) : Bool := decide ((pq_pit mi y - pq_pit mi x) - (pq_pit mi y - pq_pit mi x) / 12 * 12 = k)
theorem pq_d3a : ∀ x, x < 28 → ∀ y, y < 28 → pq_pit 0 (nI y) - pq_pit 0 (nI x) ≤ 0 → pq_int 0 (nI x) (nI y) 7 = false := by decide +kernel
theorem pq_d3b : ∀ x, x < 28 → ∀ y, y < 28 → pq_pit 1 (nI y) - pq_pit 1 (nI x) ≤ 0 → pq_int 1 (nI x) (nI y) 7 = false := by decide +kernel
theorem pq_pitE {mi : Int32} (h : ¬ mi = 0) (x : Int32) : pq_pit mi x = pq_pit 1 x := by
  unfold pq_pit
  rw [if_neg h, if_neg (by decide)]
theorem pq_d3 (mi : Int32) {x y : Nat} (hx : x < 28) (hy : y < 28) (h : pq_pit mi (nI y) - pq_pit mi (nI x) ≤ 0) : pq_int mi (nI x) (nI y) 7 = false := by
  by_cases hm : mi = 0
  · subst hm
    exact pq_d3a x hx y hy h
  · unfold pq_int
    rw [pq_pitE hm, pq_pitE hm] at h ⊢
    exact pq_d3b x hx y hy h
/-- every voice of a set chord has a note -/
theorem pq_nv {nt fg : Nat → Int32} {c : Nat} (h : pq_ok nt fg c) (hs : pq_set nt c = true) : ∀ v, v < 4 → ∃ k, k < 28 ∧ nt (4 * c + v) = nI k := by
  obtain ⟨b, t, a, s, f, hb, t1, t2, a1, a2, s1, s2, hf, eb, et, ea, es, ef⟩ := pq_notes h hs
  intro v hv
  rcases (show v = 0 ∨ v = 1 ∨ v = 2 ∨ v = 3 by omega) with rfl | rfl | rfl | rfl
  · exact ⟨b, by omega, eb⟩
  · exact ⟨t, by omega, et⟩
  · exact ⟨a, by omega, ea⟩
  · exact ⟨s, by omega, es⟩
section
variable {sz mi th ch : Int32} {fg nt wt wl : Nat → Int32}
theorem pq_pitch0 {x : Nat} (hx : x < 28) : fX0_pitchOf sz mi fg nt wt wl (nI x) = some (pq_pit mi (nI x)) := by
  unfold fX0_pitchOf pq_pit
  rw [pq_pix x hx, pq_ck, pq_ck]
  by_cases hm : mi = 0
  · rw [if_pos hm, if_pos hm]; rfl
  · rw [if_neg hm, if_neg hm]; rfl
theorem pq_pitch1 {x : Nat} (hx : x < 28) : fX1_pitchOf th ch nt fg wt mi (nI x) = some (pq_pit mi (nI x)) := by
  unfold fX1_pitchOf pq_pit
  rw [pq_pix x hx, pq_ck, pq_ck]
  by_cases hm : mi = 0
  · rw [if_pos hm, if_pos hm]
  · rw [if_neg hm, if_neg hm]
theorem pq_ite {p : Prop} [Decidable p] : (if p then some (1 : Int32) else some 0) = some (pq_b (decide p)) := by
  by_cases h : p
  · rw [if_pos h, decide_eq_true h]; rfl
  · rw [if_neg h, decide_eq_false h]; rfl
theorem pq_interval {c lo hi : Nat} (hc : c < 12) (hlo : lo < 4) (hhi : hi < 4) (hv : ∀ v, v < 4 → ∃ k, k < 28 ∧ nt (4 * c + v) = nI k) (k : Int32) : fX0_isInterval sz mi fg nt wt wl (nI c) (nI lo) (nI hi) k = some (pq_b (pq_int mi (nt (4 * c + lo)) (nt (4 * c + hi)) k)) := by
  unfold fX0_isInterval
  rw [pq_note hc hhi, pq_note hc hlo]
  obtain ⟨x, hx, ex⟩ := hv lo hlo
  obtain ⟨y, hy, ey⟩ := hv hi hhi
  rw [ex, ey]
  simp only [fb_b1]
  rw [pq_pitch0 hx, pq_pitch0 hy]
  simp only
  rw [pq_ite]
  rfl
theorem pq_octave {c lo hi : Nat} (hc : c < 12) (hlo : lo < 4) (hhi : hi < 4) (hv : ∀ v, v < 4 → ∃ k, k < 28 ∧ nt (4 * c + v) = nI k) : fX1_isOctave th ch nt fg wt mi (nI c) (nI lo) (nI hi) = some (pq_b (pq_int mi (nt (4 * c + lo)) (nt (4 * c + hi)) 0)) := by
  unfold fX1_isOctave
  rw [pq_at hc hhi, pq_at hc hlo]
  obtain ⟨x, hx, ex⟩ := hv lo hlo
  obtain ⟨y, hy, ey⟩ := hv hi hhi
  rw [ex, ey]
  simp only [fb_b1]
  rw [pq_pitch1 hx, pq_pitch1 hy]
  simp only
  rw [pq_ite]
  rfl
theorem pq_fifth {c lo hi : Nat} (hc : c < 12) (hlo : lo < 4) (hhi : hi < 4) (hv : ∀ v, v < 4 → ∃ k, k < 28 ∧ nt (4 * c + v) = nI k) : fX1_isFifth th ch nt fg wt mi (nI c) (nI lo) (nI hi) = some (pq_b (pq_int mi (nt (4 * c + lo)) (nt (4 * c + hi)) 7)) := by
  unfold fX1_isFifth
  rw [pq_at hc hhi, pq_at hc hlo]
  obtain ⟨x, hx, ex⟩ := hv lo hlo
  obtain ⟨y, hy, ey⟩ := hv hi hhi
  rw [ex, ey]
  simp only [fb_b1]
  rw [pq_pitch1 hx, pq_pitch1 hy]
  simp only
  by_cases h : pq_pit mi (nI y) - pq_pit mi (nI x) ≤ 0
  · rw [if_pos h, pq_d3 mi hx hy h]; rfl
  · rw [if_neg h, pq_ite]; rfl
/-! two chords, one behind the other -/
def pq_go (nt : Nat → Int32) (d v : Nat) : Int32 := nt (4 * (d + 1) + v) - nt (4 * d + v)
theorem pq_sub0 (x y : Int32) : x - y = 0 ↔ x = y := by
  constructor
  · intro h
    have h1 := congrArg (fun z => z + y) h
    simpa using h1
  · intro h
    rw [h]
    simp
theorem pq_moves {d v : Nat} (hd : d + 1 < 12) (hv : v < 4) : fX0_moves sz mi fg nt wt wl (nI (d + 1)) (nI v) = some (pq_b (decide (¬ pq_go nt d v = 0))) := by
  unfold fX0_moves pq_go
  rw [pq_note hd hv, pq_m1, pq_note (by omega) hv]
  simp only [fb_b1]
  rw [pq_iteN]
  simp only [pq_sub0]
theorem pq_goes {d v : Nat} (hd : d + 1 < 12) (hv : v < 4) : fX1_goes th ch nt fg wt mi (nI (d + 1)) (nI v) = some (pq_go nt d v) := by
  unfold fX1_goes pq_go
  rw [pq_at hd hv, pq_m1, pq_at (by omega) hv]
  rfl
def pq_par (mi : Int32) (nt : Nat → Int32) (d lo hi : Nat) (k : Int32) : Bool := decide (¬ pq_go nt d lo = 0) && (decide (¬ pq_go nt d hi = 0) && (pq_int mi (nt (4 * (d + 1) + lo)) (nt (4 * (d + 1) + hi)) k && pq_int mi (nt (4 * d + lo)) (nt (4 * d + hi)) k))
/-- both chords are set, and good -/
def pq_two (nt fg : Nat → Int32) (d : Nat) : Prop := d + 1 < 12 ∧ pq_ok nt fg d ∧ pq_ok nt fg (d + 1) ∧ pq_set nt d = true ∧ pq_set nt (d + 1) = true
theorem pq_parS {d lo hi n : Nat} {v k : Int32} (h : pq_two nt fg d) (hlo : lo < 4) (hhi : hi < 4) : lpX0_parallels_17 (nI (d + 1)) k sz mi fg nt wt wl (nI lo) (n + 1) (nI hi) v = lpX0_parallels_17 (nI (d + 1)) k sz mi fg nt wt wl (nI lo) n (nI (hi + 1)) (v + pq_b (pq_par mi nt d lo hi k)) := by
  obtain ⟨hd, o1, o2, s1, s2⟩ := h
  rw [lpX0_parallels_17.eq_2, if_neg (by exact nI_nlt (a := 3) (b := hi) (by omega) (by decide)), pq_moves hd hlo, pq_moves hd hhi, pq_interval hd hlo hhi (pq_nv o2 s2), pq_m1, pq_interval (by omega) hlo hhi (pq_nv o1 s1), pq_p1]
  unfold pq_par
  simp only [fb_b1, pq_b0]
  cases decide (¬ pq_go nt d lo = 0) <;> cases decide (¬ pq_go nt d hi = 0) <;> cases pq_int mi (nt (4 * (d + 1) + lo)) (nt (4 * (d + 1) + hi)) k <;> cases pq_int mi (nt (4 * d + lo)) (nt (4 * d + hi)) k <;> simp [pq_b]
theorem pq_parE {d n : Nat} {lo v k : Int32} : lpX0_parallels_17 (nI (d + 1)) k sz mi fg nt wt wl lo (n + 1) (nI 4) v = some (nI 4, v) := by
  rw [lpX0_parallels_17.eq_2, if_pos (by decide)]
def pq_parSum (mi : Int32) (nt : Nat → Int32) (d : Nat) (k : Int32) : Int32 := (((((0 + pq_b (pq_par mi nt d 0 1 k)) + pq_b (pq_par mi nt d 0 2 k)) + pq_b (pq_par mi nt d 0 3 k)) + pq_b (pq_par mi nt d 1 2 k)) + pq_b (pq_par mi nt d 1 3 k)) + pq_b (pq_par mi nt d 2 3 k)
theorem pq_parallels {d : Nat} (h : pq_two nt fg d) (k : Int32) : fX0_parallels sz mi fg nt wt wl (nI (d + 1)) k = some (pq_parSum mi nt d k) := by
  unfold fX0_parallels
  have e0 : ∀ v : Int32, lpX0_parallels_17 (nI (d + 1)) k sz mi fg nt wt wl 0 14 (0 + 1) v = some (nI 4, ((v + pq_b (pq_par mi nt d 0 1 k)) + pq_b (pq_par mi nt d 0 2 k)) + pq_b (pq_par mi nt d 0 3 k)) := by
    intro v
    show lpX0_parallels_17 (nI (d + 1)) k sz mi fg nt wt wl (nI 0) 14 (nI 1) v = _
    rw [pq_parS h (by decide) (by decide), pq_parS h (by decide) (by decide), pq_parS h (by decide) (by decide), pq_parE]
  have e1 : ∀ v : Int32, lpX0_parallels_17 (nI (d + 1)) k sz mi fg nt wt wl (0 + 1) 14 (0 + 1 + 1) v = some (nI 4, (v + pq_b (pq_par mi nt d 1 2 k)) + pq_b (pq_par mi nt d 1 3 k)) := by
    intro v
    show lpX0_parallels_17 (nI (d + 1)) k sz mi fg nt wt wl (nI 1) 14 (nI 2) v = _
    rw [pq_parS h (by decide) (by decide), pq_parS h (by decide) (by decide), pq_parE]
  have e2 : ∀ v : Int32, lpX0_parallels_17 (nI (d + 1)) k sz mi fg nt wt wl (0 + 1 + 1) 14 (0 + 1 + 1 + 1) v = some (nI 4, v + pq_b (pq_par mi nt d 2 3 k)) := by
    intro v
    show lpX0_parallels_17 (nI (d + 1)) k sz mi fg nt wt wl (nI 2) 14 (nI 3) v = _
    rw [pq_parS h (by decide) (by decide), pq_parE]
  rw [lpX0_parallels_5.eq_2, if_neg (by decide), e0]
  simp only [fb_b2]
  rw [lpX0_parallels_5.eq_2, if_neg (by decide), e1]
  simp only [fb_b2]
  rw [lpX0_parallels_5.eq_2, if_neg (by decide), e2]
  simp only [fb_b2]
  rw [lpX0_parallels_5.eq_2, if_pos (by decide)]
  rfl
theorem pq_parS1 {d lo hi n : Nat} {v : Int32} (oc : Bool) (h : pq_two nt fg d) (hlo : lo < 4) (hhi : hi < 4) : lpX1_parallels_17 (nI (d + 1)) (pq_b (!oc)) th ch nt fg wt mi (nI lo) (n + 1) (nI hi) v = lpX1_parallels_17 (nI (d + 1)) (pq_b (!oc)) th ch nt fg wt mi (nI lo) n (nI (hi + 1)) (v + pq_b (pq_par mi nt d lo hi (if oc then 0 else 7))) := by
  obtain ⟨hd, o1, o2, s1, s2⟩ := h
  rw [lpX1_parallels_17.eq_2, if_neg (by exact nI_ge (a := hi) (b := 4) hhi (by decide)), pq_goes hd hlo, pq_goes hd hhi, pq_m1, pq_fifth hd hlo hhi (pq_nv o2 s2), pq_fifth (by omega) hlo hhi (pq_nv o1 s1), pq_octave hd hlo hhi (pq_nv o2 s2), pq_octave (by omega) hlo hhi (pq_nv o1 s1), pq_p1]
  unfold pq_par
  simp only [fb_b1, pq_b0]
  by_cases g1 : pq_go nt d lo = 0
  · simp [g1, pq_b]
  · by_cases g2 : pq_go nt d hi = 0
    · simp [g1, g2, pq_b]
    · cases oc
      · simp only [g1, g2, if_false, Bool.not_false, Bool.true_eq_false, not_false_eq_true, decide_true, Bool.true_and, Bool.false_eq_true]
        cases pq_int mi (nt (4 * (d + 1) + lo)) (nt (4 * (d + 1) + hi)) 7 <;> cases pq_int mi (nt (4 * d + lo)) (nt (4 * d + hi)) 7 <;> simp [pq_b]
      · simp only [g1, g2, if_false, if_true, Bool.not_true, not_false_eq_true, decide_true, Bool.true_and]
        cases pq_int mi (nt (4 * (d + 1) + lo)) (nt (4 * (d + 1) + hi)) 0 <;> cases pq_int mi (nt (4 * d + lo)) (nt (4 * d + hi)) 0 <;> simp [pq_b]
theorem pq_parE1 {d n : Nat} {lo v k : Int32} : lpX1_parallels_17 (nI (d + 1)) k th ch nt fg wt mi lo (n + 1) (nI 4) v = some (nI 4, v) := by
  rw [lpX1_parallels_17.eq_2, if_pos (by decide)]
theorem pq_parI0 {d : Nat} (h : pq_two nt fg d) (oc : Bool) (v : Int32) : lpX1_parallels_17 (nI (d + 1)) (pq_b (!oc)) th ch nt fg wt mi (nI 0) 14 (nI 1) v = some (nI 4, ((v + pq_b (pq_par mi nt d 0 1 (if oc then 0 else 7))) + pq_b (pq_par mi nt d 0 2 (if oc then 0 else 7))) + pq_b (pq_par mi nt d 0 3 (if oc then 0 else 7))) := by
  rw [pq_parS1 oc h (by decide) (by decide), pq_parS1 oc h (by decide) (by decide), pq_parS1 oc h (by decide) (by decide), pq_parE1]
theorem pq_parI1 {d : Nat} (h : pq_two nt fg d) (oc : Bool) (v : Int32) : lpX1_parallels_17 (nI (d + 1)) (pq_b (!oc)) th ch nt fg wt mi (nI 1) 14 (nI 2) v = some (nI 4, (v + pq_b (pq_par mi nt d 1 2 (if oc then 0 else 7))) + pq_b (pq_par mi nt d 1 3 (if oc then 0 else 7))) := by
  rw [pq_parS1 oc h (by decide) (by decide), pq_parS1 oc h (by decide) (by decide), pq_parE1]
theorem pq_parI2 {d : Nat} (h : pq_two nt fg d) (oc : Bool) (v : Int32) : lpX1_parallels_17 (nI (d + 1)) (pq_b (!oc)) th ch nt fg wt mi (nI 2) 14 (nI 3) v = some (nI 4, v + pq_b (pq_par mi nt d 2 3 (if oc then 0 else 7))) := by
  rw [pq_parS1 oc h (by decide) (by decide), pq_parE1]
theorem pq_parI3 {d : Nat} (oc : Bool) (v : Int32) : lpX1_parallels_17 (nI (d + 1)) (pq_b (!oc)) th ch nt fg wt mi (nI 3) 14 (nI 4) v = some (nI 4, v) := by
  rw [pq_parE1]
theorem pq_parO1 {d m lo : Nat} {v w : Int32} {oc : Bool} (hlo : lo < 4) (e : lpX1_parallels_17 (nI (d + 1)) (pq_b (!oc)) th ch nt fg wt mi (nI lo) 14 (nI (lo + 1)) v = some (nI 4, w)) : lpX1_parallels_5 (nI (d + 1)) (pq_b (!oc)) th ch nt fg wt mi (m + 1) (nI lo) v = lpX1_parallels_5 (nI (d + 1)) (pq_b (!oc)) th ch nt fg wt mi m (nI (lo + 1)) w := by
  rw [lpX1_parallels_5.eq_2, if_neg (by exact nI_ge (a := lo) (b := 4) hlo (by decide)), pq_p1, e]
  rfl
theorem pq_parO2 {d m : Nat} {v : Int32} {oc : Bool} : lpX1_parallels_5 (nI (d + 1)) (pq_b (!oc)) th ch nt fg wt mi (m + 1) (nI 4) v = some (nI 4, v) := by
  rw [lpX1_parallels_5.eq_2, if_pos (by decide)]
theorem pq_parO {d m : Nat} (h : pq_two nt fg d) (oc : Bool) : lpX1_parallels_5 (nI (d + 1)) (pq_b (!oc)) th ch nt fg wt mi (m + 1 + 1 + 1 + 1 + 1) (nI 0) 0 = some (nI 4, pq_parSum mi nt d (if oc then 0 else 7)) := by
  refine (pq_parO1 (by decide) (pq_parI0 h oc 0)).trans ?_
  refine (pq_parO1 (by decide) (pq_parI1 h oc _)).trans ?_
  refine (pq_parO1 (by decide) (pq_parI2 h oc _)).trans ?_
  refine (pq_parO1 (by decide) (pq_parI3 oc _)).trans ?_
  exact pq_parO2
theorem pq_parallels1 {d : Nat} (h : pq_two nt fg d) (oc : Bool) : fX1_parallels th ch nt fg wt mi (nI (d + 1)) (pq_b (!oc)) = some (pq_parSum mi nt d (if oc then 0 else 7)) := by
  unfold fX1_parallels
  rw [show lpX1_parallels_5 (nI (d + 1)) (pq_b (!oc)) th ch nt fg wt mi 14 0 0 = _ from pq_parO (m := 9) h oc]
  rfl
/-! hidden ones -/
def pq_abs (x : Int32) : Int32 := if 0 ≤ x then x else 0 - x
def pq_dir (x y : Int32) : Bool := decide (¬ x * y ≤ 0) && decide (¬ pq_abs y ≤ 1)
theorem pq_d4 : ∀ i, i < 27 → ∀ j, j < 21 → pq_dir (nI i - 13) (nI j - 10) = (!(decide ((nI i - 13 : Int32) ≤ 0) || decide ((nI j - 10 : Int32) < 2)) || !(decide (0 ≤ (nI i - 13 : Int32)) || decide ((-2 : Int32) < nI j - 10))) := by decide +kernel
theorem pq_d4b : ∀ x, x < 14 → ∀ y, y < 14 → nI y - nI x = nI (y + 13 - x) - 13 := by decide +kernel
theorem pq_d4s : ∀ x, 12 ≤ x → x < 23 → ∀ y, 12 ≤ y → y < 23 → nI y - nI x = nI (y + 10 - x) - 10 := by
  intro x h1 h2 y h3 h4
  have h : ∀ i, i < 11 → ∀ j, j < 11 → nI (j + 12) - nI (i + 12) = nI (j + 12 + 10 - (i + 12)) - 10 := by decide +kernel
  have h5 := h (x - 12) (by omega) (y - 12) (by omega)
  rwa [show x - 12 + 12 = x by omega, show y - 12 + 12 = y by omega] at h5
def pq_hid (mi : Int32) (nt : Nat → Int32) (d : Nat) : Bool := pq_dir (pq_go nt d 0) (pq_go nt d 3) && (pq_int mi (nt (4 * (d + 1))) (nt (4 * (d + 1) + 3)) 7 || pq_int mi (nt (4 * (d + 1))) (nt (4 * (d + 1) + 3)) 0)
theorem pq_hidden {d : Nat} (h : pq_two nt fg d) : fX0_isHidden sz mi fg nt wt wl (nI (d + 1)) = some (pq_b (pq_hid mi nt d)) := by
  obtain ⟨hd, o1, o2, s1, s2⟩ := h
  have i7 : fX0_isInterval sz mi fg nt wt wl (nI (d + 1)) 0 3 7 = some (pq_b (pq_int mi (nt (4 * (d + 1))) (nt (4 * (d + 1) + 3)) 7)) := pq_interval (lo := 0) (hi := 3) hd (by decide) (by decide) (pq_nv o2 s2) 7
  have i0 : fX0_isInterval sz mi fg nt wt wl (nI (d + 1)) 0 3 0 = some (pq_b (pq_int mi (nt (4 * (d + 1))) (nt (4 * (d + 1) + 3)) 0)) := pq_interval (lo := 0) (hi := 3) hd (by decide) (by decide) (pq_nv o2 s2) 0
  obtain ⟨b, -, -, s, -, hb, -, -, -, -, q1, q2, -, eb, -, -, es, -⟩ := pq_notes o1 s1
  obtain ⟨b', -, -, s', -, hb', -, -, -, -, q1', q2', -, eb', -, -, es', -⟩ := pq_notes o2 s2
  unfold fX0_isHidden
  rw [i7, i0, pq_note0 hd, pq_note3 hd, pq_m1, pq_note0 (by omega), pq_note3 (by omega)]
  have hd4 : pq_dir (pq_go nt d 0) (pq_go nt d 3) = (!(decide (pq_go nt d 0 ≤ 0) || decide (pq_go nt d 3 < 2)) || !(decide (0 ≤ pq_go nt d 0) || decide (-2 < pq_go nt d 3))) := by
    unfold pq_go
    rw [show 4 * (d + 1) + 0 = 4 * (d + 1) from rfl, show 4 * d + 0 = 4 * d from rfl, eb, es, eb', es', pq_d4b b hb b' hb', pq_d4s s q1 (by omega) s' q1' (by omega)]
    exact pq_d4 _ (by omega) _ (by omega)
  unfold pq_hid
  rw [hd4]
  simp only [fb_b1]
  rw [show nt (4 * (d + 1)) - nt (4 * d) = pq_go nt d 0 from rfl, show nt (4 * (d + 1) + 3) - nt (4 * d + 3) = pq_go nt d 3 from rfl]
  generalize pq_go nt d 0 = g0
  generalize pq_go nt d 3 = g3
  generalize pq_int mi (nt (4 * (d + 1))) (nt (4 * (d + 1) + 3)) 7 = j7
  generalize pq_int mi (nt (4 * (d + 1))) (nt (4 * (d + 1) + 3)) 0 = j0
  have k2 : ∀ (p q : Prop) [Decidable p] [Decidable q], (if p then some (0 : Int32) else if q then some 0 else some 1) = some (pq_b (!(decide p || decide q))) := by
    intro p q _ _
    by_cases h1 : p <;> by_cases h2 : q <;> simp [h1, h2, pq_b]
  rw [k2, k2]
  simp only
  generalize (!(decide (g0 ≤ 0) || decide (g3 < 2))) = w1
  generalize (!(decide (0 ≤ g0) || decide (-2 < g3))) = w2
  cases w1 <;> cases w2 <;> cases j7 <;> cases j0 <;> rfl
theorem pq_hidden1 {d : Nat} (h : pq_two nt fg d) : fX1_isHidden th ch nt fg wt mi (nI (d + 1)) = some (pq_b (pq_hid mi nt d)) := by
  obtain ⟨hd, o1, o2, s1, s2⟩ := h
  have i7 : fX1_isFifth th ch nt fg wt mi (nI (d + 1)) 0 3 = some (pq_b (pq_int mi (nt (4 * (d + 1))) (nt (4 * (d + 1) + 3)) 7)) := pq_fifth (lo := 0) (hi := 3) hd (by decide) (by decide) (pq_nv o2 s2)
  have i0 : fX1_isOctave th ch nt fg wt mi (nI (d + 1)) 0 3 = some (pq_b (pq_int mi (nt (4 * (d + 1))) (nt (4 * (d + 1) + 3)) 0)) := pq_octave (lo := 0) (hi := 3) hd (by decide) (by decide) (pq_nv o2 s2)
  have g0 : fX1_goes th ch nt fg wt mi (nI (d + 1)) 0 = some (pq_go nt d 0) := pq_goes (v := 0) hd (by decide)
  have g3 : fX1_goes th ch nt fg wt mi (nI (d + 1)) 3 = some (pq_go nt d 3) := pq_goes (v := 3) hd (by decide)
  unfold fX1_isHidden
  rw [i7, i0, g0, g3]
  unfold pq_hid pq_dir pq_abs
  simp only [fb_b1]
  generalize pq_go nt d 0 = g0
  generalize pq_go nt d 3 = g3
  generalize pq_int mi (nt (4 * (d + 1))) (nt (4 * (d + 1) + 3)) 7 = j7
  generalize pq_int mi (nt (4 * (d + 1))) (nt (4 * (d + 1) + 3)) 0 = j0
  by_cases c1 : g0 * g3 ≤ 0
  · rw [if_pos c1, decide_eq_false (not_not_intro c1)]; rfl
  · rw [if_neg c1, decide_eq_true c1]
    by_cases c2 : (if 0 ≤ g3 then g3 else 0 - g3) ≤ 1
    · rw [if_pos c2, decide_eq_false (not_not_intro c2)]; rfl
    · rw [if_neg c2, decide_eq_true c2]
      cases j7 <;> cases j0 <;> rfl
end
