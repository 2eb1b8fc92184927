/-! Pure rows, 7: the checks of arguments, and the calls that write. -/
theorem pq_dich (x : Int32) (lo hi : Nat) (hh : hi < 2 ^ 31) (hl : lo < 2 ^ 31) : (∃ k, lo ≤ k ∧ k ≤ hi ∧ x = nI k) ∨ (x < nI lo ∨ nI hi < x) := by
  by_cases h1 : x < nI lo
  · exact Or.inr (Or.inl h1)
  · by_cases h2 : nI hi < x
    · exact Or.inr (Or.inr h2)
    · left
      rw [Int32.lt_iff_toInt_lt, nI_toInt hl] at h1
      rw [Int32.lt_iff_toInt_lt, nI_toInt hh] at h2
      refine ⟨x.toInt.toNat, by omega, by omega, ?_⟩
      apply Int32.toInt_inj.mp
      rw [nI_toInt (by omega)]
      omega
theorem pq_in1 {k lo hi : Nat} (h1 : lo ≤ k) (h2 : k ≤ hi) (hh : hi < 2 ^ 31) : fX1_isIn (nI k) (nI lo) (nI hi) = some 1 := by
  unfold fX1_isIn
  rw [if_neg (nI_nlt h1 (by omega)), if_neg (nI_nlt h2 hh)]
theorem pq_in0 {x : Int32} {lo hi : Nat} (h : x < nI lo ∨ nI hi < x) : fX1_isIn x (nI lo) (nI hi) = some 0 := by
  unfold fX1_isIn
  by_cases h1 : x < nI lo
  · rw [if_pos h1]
  · rw [if_neg h1, if_pos (h.resolve_left h1)]
theorem pq_leS {x : Int32} {h : Nat} (hh : h + 1 < 2 ^ 31) : nI (h + 1) ≤ x ↔ nI h < x := by
  rw [Int32.le_iff_toInt_le, Int32.lt_iff_toInt_lt, nI_toInt hh, nI_toInt (by omega)]
  omega
theorem pq_ltS {x : Int32} {h : Nat} (hh : h + 1 < 2 ^ 31) : x < nI (h + 1) ↔ ¬ nI h < x := by
  rw [← pq_leS hh, Int32.not_le]
/-! notes of a voice -/
def pq_vlo (v : Nat) : Nat := [0, 5, 8, 12].getD v 0
def pq_vhi (v : Nat) : Nat := [13, 14, 18, 22].getD v 0
theorem pq_vB : ∀ v, v < 4 → fb_tX0_LOWEST (nI v).toNatClampNeg = nI (pq_vlo v) ∧ fb_tX0_HIGHEST (nI v).toNatClampNeg = nI (pq_vhi v) ∧ fb_tX1_LOW (nI v).toNatClampNeg = nI (pq_vlo v) ∧ fb_tX1_HIGH (nI v).toNatClampNeg = nI (pq_vhi v) ∧ pq_vhi v < 28 := by decide +kernel
theorem pq_vS : ∀ v, v ≤ 3 → pq_vhi v < 2 ^ 31 ∧ pq_vlo v < 2 ^ 31 := by decide
theorem pq_ofI {v k : Nat} (hv : v < 4) (h1 : pq_vlo v ≤ k) (h2 : k ≤ pq_vhi v) : fX0_isNoteOf (nI v) (nI k) = some 1 ∧ fX1_isOf (nI v) (nI k) = some 1 := by
  obtain ⟨e1, e2, e3, e4, e5⟩ := pq_vB v hv
  unfold fX0_isNoteOf fX1_isOf
  rw [pq_ix hv (by decide), pq_ck, pq_ck, e1, e2, e3, e4, pq_in1 h1 h2 (by omega), if_neg (nI_nlt h1 (by omega)), if_neg (nI_nlt h2 (by omega))]
  exact ⟨rfl, rfl⟩
theorem pq_ofO {v : Nat} {x : Int32} (hv : v < 4) (h : x < nI (pq_vlo v) ∨ nI (pq_vhi v) < x) : fX0_isNoteOf (nI v) x = some 0 ∧ fX1_isOf (nI v) x = some 0 := by
  obtain ⟨e1, e2, e3, e4, e5⟩ := pq_vB v hv
  unfold fX0_isNoteOf fX1_isOf
  rw [pq_ix hv (by decide), pq_ck, pq_ck, e1, e2, e3, e4, pq_in0 h]
  refine ⟨?_, rfl⟩
  by_cases h1 : x < nI (pq_vlo v)
  · rw [if_pos h1]
  · rw [if_neg h1, if_pos (h.resolve_left h1)]
theorem pq_figI {k : Nat} (h : k ≤ 5) : fX0_isFigure (nI k) = some 1 ∧ fX1_isIn (nI k) 0 5 = some 1 := by
  refine ⟨?_, pq_in1 (lo := 0) (hi := 5) (Nat.zero_le _) h (by decide)⟩
  unfold fX0_isFigure
  rw [if_neg (nI_pos (by omega)), if_neg (by exact nI_ge (a := k) (b := 6) (by omega) (by decide))]
theorem pq_figO {x : Int32} (h : x < nI 0 ∨ nI 5 < x) : fX0_isFigure x = some 0 ∧ fX1_isIn x 0 5 = some 0 := by
  refine ⟨?_, pq_in0 (lo := 0) (hi := 5) h⟩
  unfold fX0_isFigure
  by_cases h1 : x < 0
  · rw [if_pos h1]
  · rw [if_neg h1, if_pos (show (6 : Int32) ≤ x from (pq_leS (h := 5) (by decide)).mpr (h.resolve_left h1))]
theorem pq_upI {k : Nat} (h0 : 1 ≤ k) (h : k ≤ 3) : fX0_isUpperVoice (nI k) = some 1 ∧ fX1_isIn (nI k) 1 3 = some 1 := by
  refine ⟨?_, pq_in1 (lo := 1) (hi := 3) h0 h (by decide)⟩
  unfold fX0_isUpperVoice
  rw [if_neg (by exact nI_nlt (a := k) (b := 1) h0 (by omega)), if_neg (by exact nI_nlt (a := 3) (b := k) h (by decide))]
theorem pq_upO {x : Int32} (h : x < nI 1 ∨ nI 3 < x) : fX0_isUpperVoice x = some 0 ∧ fX1_isIn x 1 3 = some 0 := by
  refine ⟨?_, pq_in0 (lo := 1) (hi := 3) h⟩
  unfold fX0_isUpperVoice
  by_cases h1 : x < 1
  · rw [if_pos h1]
  · rw [if_neg h1, if_pos (show (3 : Int32) < x from h.resolve_left h1)]
theorem pq_fltI {k : Nat} (h : k ≤ 7) : fX0_isFault (nI k) = some 1 ∧ fX1_isIn (nI k) 0 7 = some 1 := by
  refine ⟨?_, pq_in1 (lo := 0) (hi := 7) (Nat.zero_le _) h (by decide)⟩
  unfold fX0_isFault
  rw [if_neg (nI_pos (by omega)), if_neg (by exact nI_ge (a := k) (b := 8) (by omega) (by decide))]
theorem pq_fltO {x : Int32} (h : x < nI 0 ∨ nI 7 < x) : fX0_isFault x = some 0 ∧ fX1_isIn x 0 7 = some 0 := by
  refine ⟨?_, pq_in0 (lo := 0) (hi := 7) h⟩
  unfold fX0_isFault
  by_cases h1 : x < 0
  · rw [if_pos h1]
  · rw [if_neg h1, if_pos (show (8 : Int32) ≤ x from (pq_leS (h := 7) (by decide)).mpr (h.resolve_left h1))]
theorem pq_noteI {k : Nat} (h : k ≤ 27) : fX0_isNote (nI k) = some 1 ∧ fX1_isIn (nI k) 0 27 = some 1 := by
  refine ⟨?_, pq_in1 (lo := 0) (hi := 27) (Nat.zero_le _) h (by decide)⟩
  unfold fX0_isNote
  rw [if_neg (nI_pos (by omega)), if_neg (by exact nI_ge (a := k) (b := 28) (by omega) (by decide))]
theorem pq_noteO {x : Int32} (h : x < nI 0 ∨ nI 27 < x) : fX0_isNote x = some 0 ∧ fX1_isIn x 0 27 = some 0 := by
  refine ⟨?_, pq_in0 (lo := 0) (hi := 27) h⟩
  unfold fX0_isNote
  by_cases h1 : x < 0
  · rw [if_pos h1]
  · rw [if_neg h1, if_pos (show (28 : Int32) ≤ x from (pq_leS (h := 27) (by decide)).mpr (h.resolve_left h1))]
/-- a bound written the class's way: from 0, less than h + 1 -/
theorem pq_bI {α : Type} {k h : Nat} (a b d : α) (hk : k ≤ h) (hh : h + 1 < 2 ^ 31) : (if nI k < 0 then a else if nI k < nI (h + 1) then b else d) = b := by
  rw [if_neg (nI_pos (by omega)), if_pos (nI_lt (by omega) hh)]
theorem pq_bO {α : Type} {x : Int32} {h : Nat} (a b : α) (hx : x < nI 0 ∨ nI h < x) (hh : h + 1 < 2 ^ 31) : (if x < 0 then a else if x < nI (h + 1) then b else a) = a := by
  by_cases h1 : x < 0
  · rw [if_pos h1]
  · rw [if_neg h1, if_neg (fun z => (pq_ltS hh).mp z (hx.resolve_left h1))]
/-! the three words of the throws -/
theorem pq_sAI : ¬ ("java/lang/IllegalArgumentException" : String) = "java/lang/IndexOutOfBoundsException" := by decide
theorem pq_sSA : ¬ ("java/lang/IllegalStateException" : String) = "java/lang/IllegalArgumentException" := by decide
theorem pq_sSI : ¬ ("java/lang/IllegalStateException" : String) = "java/lang/IndexOutOfBoundsException" := by decide
/-! rows changed at one place -/
theorem pq_invB {n c b : Nat} {nt fg : Nat → Int32} (hi : pq_inv n nt fg) (hb : b < 14) : pq_inv n (upd nt (4 * c) (nI b)) fg := by
  intro d hd
  obtain ⟨h0, h1, h2, h3, h4⟩ := hi d hd
  unfold pq_up at h1 h2 h3
  refine ⟨?_, ?_, ?_, ?_, h4⟩
  · by_cases e : d = c
    · subst e; exact ⟨b, hb, pk_us⟩
    · rw [pk_un (by omega)]; exact h0
  · unfold pq_up; rw [pk_un (by omega)]; exact h1
  · unfold pq_up; rw [pk_un (by omega)]; exact h2
  · unfold pq_up; rw [pk_un (by omega)]; exact h3
theorem pq_invV {n c v : Nat} {x : Int32} {nt fg : Nat → Int32} (hi : pq_inv n nt fg) (h1 : 1 ≤ v) (h3 : v ≤ 3) (hx : x = -1 ∨ ∃ k, pq_vlo v ≤ k ∧ k ≤ pq_vhi v ∧ x = nI k) : pq_inv n (upd nt (4 * c + v) x) fg := by
  intro d hd
  obtain ⟨k0, k1, k2, k3, k4⟩ := hi d hd
  unfold pq_up at k1 k2 k3
  by_cases e : d = c
  · subst e
    rcases (show v = 1 ∨ v = 2 ∨ v = 3 by omega) with rfl | rfl | rfl
    · refine ⟨?_, ?_, ?_, ?_, k4⟩
      · rw [pk_un (by omega)]; exact k0
      · unfold pq_up; rw [pk_us]; exact hx
      · unfold pq_up; rw [pk_un (by omega)]; exact k2
      · unfold pq_up; rw [pk_un (by omega)]; exact k3
    · refine ⟨?_, ?_, ?_, ?_, k4⟩
      · rw [pk_un (by omega)]; exact k0
      · unfold pq_up; rw [pk_un (by omega)]; exact k1
      · unfold pq_up; rw [pk_us]; exact hx
      · unfold pq_up; rw [pk_un (by omega)]; exact k3
    · refine ⟨?_, ?_, ?_, ?_, k4⟩
      · rw [pk_un (by omega)]; exact k0
      · unfold pq_up; rw [pk_un (by omega)]; exact k1
      · unfold pq_up; rw [pk_un (by omega)]; exact k2
      · unfold pq_up; rw [pk_us]; exact hx
  · refine ⟨?_, ?_, ?_, ?_, k4⟩
    · rw [pk_un (by omega)]; exact k0
    · unfold pq_up; rw [pk_un (by omega)]; exact k1
    · unfold pq_up; rw [pk_un (by omega)]; exact k2
    · unfold pq_up; rw [pk_un (by omega)]; exact k3
theorem pq_invF {n c f : Nat} {nt fg : Nat → Int32} (hi : pq_inv n nt fg) (hf : f < 6) : pq_inv n nt (upd fg c (nI f)) := by
  intro d hd
  obtain ⟨k0, k1, k2, k3, k4⟩ := hi d hd
  refine ⟨k0, k1, k2, k3, ?_⟩
  by_cases e : d = c
  · subst e; exact ⟨f, hf, pk_us⟩
  · rw [pk_un e]; exact k4
theorem pq_invN {n b f : Nat} {nt fg : Nat → Int32} (hi : pq_inv n nt fg) (hb : b < 14) (hf : f < 6) : pq_inv (n + 1) (pq_p3 (upd nt (4 * n) (nI b)) n (-1) (-1) (-1)) (upd fg n (nI f)) := by
  intro d hd
  by_cases e : d = n
  · subst e
    exact ⟨⟨b, hb, by rw [pq_p3o (by omega) (by omega) (by omega), pk_us]⟩, Or.inl pq_p31, Or.inl pq_p32, Or.inl pq_p33, f, hf, pk_us⟩
  · obtain ⟨k0, k1, k2, k3, k4⟩ := hi d (by omega)
    unfold pq_up at k1 k2 k3
    refine ⟨?_, ?_, ?_, ?_, ?_⟩
    · rw [pq_p3o (by omega) (by omega) (by omega), pk_un (by omega)]; exact k0
    · unfold pq_up; rw [pq_p3o (by omega) (by omega) (by omega), pk_un (by omega)]; exact k1
    · unfold pq_up; rw [pq_p3o (by omega) (by omega) (by omega), pk_un (by omega)]; exact k2
    · unfold pq_up; rw [pq_p3o (by omega) (by omega) (by omega), pk_un (by omega)]; exact k3
    · rw [pk_un e]; exact k4
theorem pq_updid (f : Nat → Int32) (k : Nat) (x : Int32) : upd (upd f k x) k (f k) = f := by
  funext j
  by_cases h : j = k
  · rw [h, pk_us]
  · rw [pk_un h, pk_un h]
theorem pq_updt (f : Nat → Int32) (k : Nat) (x y : Int32) : upd (upd f k x) k y = upd f k y := by
  funext j
  by_cases h : j = k
  · rw [h, pk_us, pk_us]
  · rw [pk_un h, pk_un h, pk_un h]
theorem pq_exch {mi : Int32} {fg nt wt wl : Nat → Int32} {n c v : Nat} (hc : c < 12) (hv : v < 4) (x : Int32) : fX0_exchangeNote (nI n) mi fg nt wt wl (nI c) (nI v) x = some (nt (4 * c + v), upd nt (4 * c + v) x) := by
  unfold fX0_exchangeNote
  rw [pq_4, pq_ix (by omega) (by decide), pq_ck, pq_cl (by omega)]
