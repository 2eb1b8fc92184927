/-! Pure rows, 7: the checks of arguments, and the calls that write. -/
theorem pq_dich (x : Int32) (lo hi : Nat) (hh : hi < 2 ^ 31) (hl : lo < 2 ^ 31) : (∃ k, lo ≤ k ∧ k ≤ hi ∧ x = nI k) ∨ (x < nI lo ∨ nI hi < x) := by
  by_cases h1 : x < nI lo
  · exact Or.inr (Or.inl h1)
  · by_cases h2 : nI hi < x
    · exact Or.inr (Or.inr h2)
    · left
      rw [Int32.lt_iff_toInt_lt, nI_toInt hl] at h1
      rw [Int32.lt_iff_toInt_lt, nI_toInt hh] at h2
      refine ⟨x.toInt.toNat, by omega, by omega, ?_⟩
      apply Int32.toInt_inj.mp
      rw [nI_toInt (by omega)]
      omega
theorem pq_in1 {k lo hi : Nat} (h1 : lo ≤ k) (h2 : k ≤ hi) (hh : hi < 2 ^ 31) : fX1_isIn (nI k) (nI lo) (nI hi) = some 1 := by
  unfold fX1_isIn
  rw [if_neg (nI_nlt h1 (by omega)), if_neg (nI_nlt h2 hh)]
theorem pq_in0 {x : Int32} {lo hi : Nat} (h : x < nI lo ∨ nI hi < x) : fX1_isIn x (nI lo) (nI hi) = some 0 := by
  unfold fX1_isIn
  by_cases h1 : x < nI lo
  · rw [if_pos h1]
  · rw [if_neg h1, if_pos (h.resolve_left h1)]
theorem pq_leS {x : Int32} {h : Nat} (hh : h + 1 < 2 ^ 31) : nI (h + 1) ≤ x ↔ nI h < x := by
  rw [Int32.le_iff_toInt_le, Int32.lt_iff_toInt_lt, nI_toInt hh, nI_toInt (by omega)]
  omega
theorem pq_ltS {x : Int32} {h : Nat} (hh : h + 1 < 2 ^ 31) : x < nI (h + 1) ↔ ¬ nI h < x := by
  rw [← pq_leS hh, Int32.not_le]
/-! notes of a voice -/
def pq_vlo (v : Nat) : Nat := [0, 5, 8, 12].getD v 0
def pq_vhi (v : Nat) : Nat := [13, 14, 18, 22].getD v 0
theorem pq_vB : ∀ v, v < 4 → fb_tX0_LOWEST (nI v).toNatClampNeg = nI (pq_vlo v) ∧ fb_tX0_HIGHEST (nI v).toNatClampNeg = nI (pq_vhi v) ∧ fb_tX1_LOW (nI v).toNatClampNeg = nI (pq_vlo v) ∧ fb_tX1_HIGH (nI v).toNatClampNeg = nI (pq_vhi v) ∧ pq_vhi v < 28 := by decide +kernel
theorem pq_vS : ∀ v, v ≤ 3 → pq_vhi v < 2 ^ 31 ∧ pq_vlo v < 2 ^ 31 := by decide
theorem pq_ofI {v k : Nat} (hv : v < 4) (h1 : pq_vlo v ≤ k) (h2 : k ≤ pq_vhi v) : fX0_isNoteOf (nI v) (nI k) = some 1 ∧ fX1_isOf (nI v) (nI k) = some 1 := by
  obtain ⟨e1, e2, e3, e4, e5⟩ := pq_vB v hv
  unfold fX0_isNoteOf fX1_isOf
  rw [pq_ix hv (by decide), pq_ck, pq_ck, e1, e2, e3, e4, pq_in1 h1 h2 (by omega), if_neg (nI_nlt h1 (by omega)), if_neg (nI_nlt h2 (by omega))]
  exact ⟨rfl, rfl⟩
theorem pq_ofO {v : Nat} {x : Int32} (hv : v < 4) (h : x < nI (pq_vlo v) ∨ nI (pq_vhi v) < x) : fX0_isNoteOf (nI v) x = some 0 ∧ fX1_isOf (nI v) x = some 0 := by
  obtain ⟨e1, e2, e3, e4, e5⟩ := pq_vB v hv
  unfold fX0_isNoteOf fX1_isOf
  rw [pq_ix hv (by decide), pq_ck, pq_ck, e1, e2, e3, e4, pq_in0 h]
  refine ⟨?_, rfl⟩
  by_cases h1 : x < nI (pq_vlo v)
  · rw [if_pos h1]
  · rw [if_neg h1, if_pos (h.resolve_left h1)]
theorem pq_figI {k : Nat} (h : k ≤ 5) : fX0_isFigure (nI k) = some 1 ∧ fX1_isIn (nI k) 0 5 = some 1 := by
  refine ⟨?_, pq_in1 (lo := 0) (hi := 5) (Nat.zero_le _) h (by decide)⟩
  unfold fX0_isFigure
  rw [if_neg (nI_pos (by omega)), if_neg (by exact nI_ge (a := k) (b := 6) (by omega) (by decide))]
theorem pq_figO {x : Int32} (h : x < nI 0 ∨ nI 5 < x) : fX0_isFigure x = some 0 ∧ fX1_isIn x 0 5 = some 0 := by
  refine ⟨?_, pq_in0 (lo := 0) (hi := 5) h⟩
  unfold fX0_isFigure
  by_cases h1 : x < 0
  · rw [if_pos h1]
  · rw [if_neg h1, if_pos (show (6 : Int32) ≤ x from (pq_leS (h := 5) (by decide)).mpr (h.resolve_left h1))]
theorem pq_upI {k : Nat} (h0 : 1 ≤ k) (h : k ≤ 3) : fX0_isUpperVoice (nI k) = some 1 ∧ fX1_isIn (nI k) 1 3 = some 1 := by
  refine ⟨?_, pq_in1 (lo := 1) (hi := 3) h0 h (by decide)⟩
  unfold fX0_isUpperVoice
  rw [if_neg (by exact nI_nlt (a := k) (b := 1) h0 (by omega)), if_neg (by exact nI_nlt (a := 3) (b := k) h (by decide))]
theorem pq_upO {x : Int32} (h : x < nI 1 ∨ nI 3 < x) : fX0_isUpperVoice x = some 0 ∧ fX1_isIn x 1 3 = some 0 := by
  refine ⟨?_, pq_in0 (lo := 1) (hi := 3) h⟩
  unfold fX0_isUpperVoice
  by_cases h1 : x < 1
  · rw [if_pos h1]
  · rw [if_neg h1, if_pos (show (3 : Int32) < x from h.resolve_left h1)]
theorem pq_fltI {k : Nat} (h : k ≤ 7) : fX0_isFault (nI k) = some 1 ∧ fX1_isIn (nI k) 0 7 = some 1 := by
  refine ⟨?_, pq_in1 (lo := 0) (hi := 7) (Nat.zero_le _) h (by decide)⟩
  unfold fX0_isFault
  rw [if_neg (nI_pos (by omega)), if_neg (by exact nI_ge (a := k) (b := 8) (by omega) (by decide))]
theorem pq_fltO {x : Int32} (h : x < nI 0 ∨ nI 7 < x) : fX0_isFault x = some 0 ∧ fX1_isIn x 0 7 = some 0 := by
  refine ⟨?_, pq_in0 (lo := 0) (hi := 7) h⟩
  unfold fX0_isFault
  by_cases h1 : x < 0
  · rw [if_pos h1]
  · rw [if_neg h1, if_pos (show (8 : Int32) ≤ x from (pq_leS (h := 7) (by decide)).mpr (h.resolve_left h1))]
theorem pq_noteI {k : Nat} (h : k ≤ 27) : fX0_isNote (nI k) = some 1 ∧ fX1_isIn (nI k) 0 27 = some 1 := by
  refine ⟨?_, pq_in1 (lo := 0) (hi := 27) (Nat.zero_le _) h (by decide)⟩
  unfold fX0_isNote
  rw [if_neg (nI_pos (by omega)), if_neg (by exact nI_ge (a := k) (b := 28) (by omega) (by decide))]
theorem pq_noteO {x : Int32} (h : x < nI 0 ∨ nI 27 < x) : fX0_isNote x = some 0 ∧ fX1_isIn x 0 27 = some 0 := by
  refine ⟨?_, pq_in0 (lo := 0) (hi := 27) h⟩
  unfold fX0_isNote
  by_cases h1 : x < 0
  · rw [if_pos h1]
  · rw [if_neg h1, if_pos (show (28 : Int32) ≤ x from (pq_leS (h := 27) (by decide)).mpr (h.resolve_left h1))]
/-- a bound written the class's way: from 0, less than h + 1 -/
theorem pq_bI {α : Type} {k h : Nat} (a b d : α) (hk : k ≤ h) (hh : h + 1 < 2 ^ 31) : (if nI k < 0 then a else if nI k < nI (h + 1) then b else d) = b := by
  rw [if_neg (nI_pos (by omega)), if_pos (nI_lt (by omega) hh)]
theorem pq_bO {α : Type} {x : Int32} {h : Nat} (a b : α) (hx : x < nI 0 ∨ nI h < x) (hh : h + 1 < 2 ^ 31) : (if x < 0 then a else if x < nI (h + 1) then b else a) = a := by
  by_cases h1 : x < 0
  · rw [if_pos h1]
  · rw [if_neg h1, if_neg (fun z => (pq_ltS hh).mp z (hx.resolve_left h1))]
/-! the three words of the throws -/
theorem pq_sAI : ¬ ("java/lang/IllegalArgumentException" : String) = "java/lang/IndexOutOfBoundsException" := by decide
theorem pq_sSA : ¬ ("java/lang/IllegalStateException" : String) = "java/lang/IllegalArgumentException" := by decide
theorem pq_sSI : ¬ ("java/lang/IllegalStateException" : String) = "java/lang/IndexOutOfBoundsException" := by decide
/-! rows changed at one place -/
theorem pq_invB {n c b : Nat} {nt fg : Nat → Int32} (hi : pq_inv n nt fg) (hb : b < 14) : pq_inv n (upd nt (4 * c) (nI b)) fg := by
  intro d hd
  obtain ⟨h0, h1, h2, h3, h4⟩ := hi d hd
  unfold pq_up at h1 h2 h3
  refine ⟨?_, ?_, ?_, ?_, h4⟩
  · by_cases e : d = c
    · subst e; exact ⟨b, hb, pk_us⟩
    · rw [pk_un (by omega)]; exact h0
  · unfold pq_up; rw [pk_un (by omega)]; exact h1
  · unfold pq_up; rw [pk_un (by omega)]; exact h2
  · unfold pq_up; rw [pk_un (by omega)]; exact h3
theorem pq_invV {n c v : Nat} {x : Int32} {nt fg : Nat → Int32} (hi : pq_inv n nt fg) (h1 : 1 ≤ v) (h3 : v ≤ 3) (hx : x = -1 ∨ ∃ k, pq_vlo v ≤ k ∧ k ≤ pq_vhi v ∧ x = nI k) : pq_inv n (upd nt (4 * c + v) x) fg := by
  intro d hd
  obtain ⟨k0, k1, k2, k3, k4⟩ := hi d hd
  unfold pq_up at k1 k2 k3
  by_cases e : d = c
  · subst e
    rcases (show v = 1 ∨ v = 2 ∨ v = 3 by omega) with rfl | rfl | rfl
    · refine ⟨?_, ?_, ?_, ?_, k4⟩
      · rw [pk_un (by omega)]; exact k0
      · unfold pq_up; rw [pk_us]; exact hx
      · unfold pq_up; rw [pk_un (by omega)]; exact k2
      · unfold pq_up; rw [pk_un (by omega)]; exact k3
    · refine ⟨?_, ?_, ?_, ?_, k4⟩
      · rw [pk_un (by omega)]; exact k0
      · unfold pq_up; rw [pk_un (by omega)]; exact k1
      · unfold pq_up; rw [pk_us]; exact hx
      · unfold pq_up; rw [pk_un (by omega)]; exact k3
    · refine ⟨?_, ?_, ?_, ?_, k4⟩
      · rw [pk_un (by omega)]; exact k0
      · unfold pq_up; rw [pk_un (by omega)]; exact k1
      · unfold pq_up; rw [pk_un (by omega)]; exact k2
      · unfold pq_up; rw [pk_us]; exact hx
  · refine ⟨?_, ?_, ?_, ?_, k4⟩
    · rw [pk_un (by omega)]; exact k0
    · unfold pq_up; rw [pk_un (by omega)]; exact k1
    · unfold pq_up; rw [pk_un (by omega)]; exact k2
    · unfold pq_up; rw [pk_un (by omega)]; exact k3
theorem pq_invF {n c f : Nat} {nt fg : Nat → Int32} (hi : pq_inv n nt fg) (hf : f < 6) : pq_inv n nt (upd fg c (nI f)) := by
  intro d hd
  obtain ⟨k0, k1, k2, k3, k4⟩ := hi d hd
  refine ⟨k0, k1, k2, k3, ?_⟩
  by_cases e : d = c
  · subst e; exact ⟨f, hf, pk_us⟩
  · rw [pk_un e]; exact k4
theorem pq_invN {n b f : Nat} {nt fg : Nat → Int32} (hi : pq_inv n nt fg) (hb : b < 14) (hf : f < 6) : pq_inv (n + 1) (pq_p3 (upd nt (4 * n) (nI b)) n (-1) (-1) (-1)) (upd fg n (nI f)) := by
  intro d hd
  by_cases e : d = n
  · subst e
    exact ⟨⟨b, hb, by rw [pq_p3o (by omega) (by omega) (by omega), pk_us]⟩, Or.inl pq_p31, Or.inl pq_p32, Or.inl pq_p33, f, hf, pk_us⟩
  · obtain ⟨k0, k1, k2, k3, k4⟩ := hi d (by omega)
    unfold pq_up at k1 k2 k3
    refine ⟨?_, ?_, ?_, ?_, ?_⟩
    · rw [pq_p3o (by omega) (by omega) (by omega), pk_un (by omega)]; exact k0
    · unfold pq_up; rw [pq_p3o (by omega) (by omega) (by omega), pk_un (by omega)]; exact k1
    · unfold pq_up; rw [pq_p3o (by omega) (by omega) (by omega), pk_un (by omega)]; exact k2
    · unfold pq_up; rw [pq_p3o (by omega) (by omega) (by omega), pk_un (by omega)]; exact k3
    · rw [pk_un e]; exact k4
theorem pq_updid (f : Nat → Int32) (k : Nat) (x : Int32) : upd (upd f k x) k (f k) = f := by
  funext j
  by_cases h : j = k
  · rw [h, pk_us]
  · rw [pk_un h, pk_un h]
theorem pq_updt (f : Nat → Int32) (k : Nat) (x y : Int32) : upd (upd f k x) k y = upd f k y := by
  funext j
  by_cases h : j = k
  · rw [h, pk_us, pk_us]
  · rw [pk_un h, pk_un h, pk_un h]
/-! the calls that write; pq_rs: the answer's code k, the reference's answer r, the record's first place -/
def pq_rs (k r : Int32) (ob : Nat → Int64) : Prop := k = 0 → ob (0 : Int32).toNatClampNeg = r.toInt64
theorem pq_rs0 (r : Int32) (ob : Nat → Int64) : pq_rs 0 r (vp_updL ob (0 : Int32).toNatClampNeg r.toInt64) := fun _ => pk_uLs
theorem pq_rs1 (r : Int32) (ob : Nat → Int64) : pq_rs 1 r ob := fun h => absurd h (by decide)
theorem pq_rs2 (r : Int32) (ob : Nat → Int64) : pq_rs 2 r ob := fun h => absurd h (by decide)
section
variable {mi th : Int32} {fg nt wt wl : Nat → Int32} {ob : Nat → Int64} {n : Nat} {a1 a2 a3 : Int32}
theorem pq_oSetFigure (hn : n ≤ 12) (hi : pq_inv n nt fg) : ∃ k r fg' ob', fL_setFigure (nI n) mi fg nt wt wl ob a1 a2 = some (k, fg', ob') ∧ fX1_setFigure th (nI n) nt fg wt mi a1 a2 = some (r, k, fg') ∧ pq_rs k r ob' ∧ pq_inv n nt fg' := by
  unfold fL_setFigure fX0_setFigure fX1_setFigure
  rcases pq_arg a1 hn with ⟨c, hc, rfl⟩ | hx
  · rw [pq_isC hc hn, pq_isC1 hc hn]
    rcases pq_dich a2 0 5 (by decide) (by decide) with ⟨f, -, hf, rfl⟩ | hy
    · rw [(pq_figI hf).1, (pq_figI hf).2, pq_ix (show c < 12 by omega) (by decide), pq_cl (by omega)]
      exact ⟨0, fg c, _, _, rfl, rfl, pq_rs0 _ _, pq_invF hi (by omega)⟩
    · rw [(pq_figO hy).1, (pq_figO hy).2]
      exact ⟨2, _, _, _, rfl, rfl, pq_rs2 _ _, hi⟩
  · rw [pq_isN hx, pq_isN1 hn hx]
    exact ⟨1, _, _, _, rfl, rfl, pq_rs1 _ _, hi⟩
theorem pq_oSetBass (hn : n ≤ 12) (hi : pq_inv n nt fg) : ∃ k r nt' ob', fL_setBass (nI n) mi fg nt wt wl ob a1 a2 = some (k, nt', ob') ∧ fX1_setBass th (nI n) nt fg wt mi a1 a2 = some (r, k, nt') ∧ pq_rs k r ob' ∧ pq_inv n nt' fg := by
  unfold fL_setBass fX0_setBass fX1_setBass
  rcases pq_arg a1 hn with ⟨c, hc, rfl⟩ | hx
  · rw [pq_isC hc hn, pq_isC1 hc hn]
    rcases pq_dich a2 0 13 (by decide) (by decide) with ⟨f, -, hf, rfl⟩ | hy
    · have h := pq_ofI (v := 0) (k := f) (by decide) (Nat.zero_le _) hf
      have h0 : fX0_exchangeNote (nI n) mi fg nt wt wl (nI c) 0 (nI f) = some (nt (4 * c), upd nt (4 * c) (nI f)) := by
        unfold fX0_exchangeNote
        rw [show nI c * 4 + 0 = nI (4 * c) from pq_4 c 0, pq_ix (by omega) (by decide), pq_ck, pq_cl (by omega)]
      have h1 : (4 : Int32) * nI c = nI (4 * c) := by rw [show (4 : Int32) = nI 4 from rfl, pk_mul]
      rw [show fX0_isNoteOf 0 (nI f) = some 1 from h.1, show fX1_isOf 0 (nI f) = some 1 from h.2, h0, pq_at0 (by omega), h1, pq_ix (show 4 * c < 48 by omega) (by decide), pq_cl (by omega)]
      exact ⟨0, nt (4 * c), _, _, rfl, rfl, pq_rs0 _ _, pq_invB hi (by omega)⟩
    · have h := pq_ofO (v := 0) (x := a2) (by decide) hy
      rw [show fX0_isNoteOf 0 a2 = some 0 from h.1, show fX1_isOf 0 a2 = some 0 from h.2]
      exact ⟨2, _, _, _, rfl, rfl, pq_rs2 _ _, hi⟩
  · rw [pq_isN hx, pq_isN1 hn hx]
    exact ⟨1, _, _, _, rfl, rfl, pq_rs1 _ _, hi⟩
theorem pq_exch {c v : Nat} (hc : c < 12) (hv : v < 4) (x : Int32) : fX0_exchangeNote (nI n) mi fg nt wt wl (nI c) (nI v) x = some (nt (4 * c + v), upd nt (4 * c + v) x) := by
  unfold fX0_exchangeNote
  rw [pq_4, pq_ix (by omega) (by decide), pq_ck, pq_cl (by omega)]
theorem pq_oPut (hn : n ≤ 12) (hi : pq_inv n nt fg) : ∃ k r nt' ob', fL_put (nI n) mi fg nt wt wl ob a1 a2 a3 = some (k, nt', ob') ∧ fX1_put th (nI n) nt fg wt mi a1 a2 a3 = some (r, k, nt') ∧ pq_rs k r ob' ∧ pq_inv n nt' fg := by
  unfold fL_put fX0_put fX1_put
  rcases pq_arg a1 hn with ⟨c, hc, rfl⟩ | hx
  · rw [pq_isC hc hn, pq_isC1 hc hn]
    rcases pq_dich a2 1 3 (by decide) (by decide) with ⟨v, hv1, hv, rfl⟩ | hy
    · rw [(pq_upI hv1 hv).1, (pq_upI hv1 hv).2]
      by_cases hm : a3 = -1
      · subst hm
        rw [pq_exch (by omega) (by omega), pq_at (by omega) (by omega), pq_4', pq_ix (show 4 * c + v < 48 by omega) (by decide), pq_cl (by omega)]
        exact ⟨0, nt (4 * c + v), _, _, rfl, rfl, pq_rs0 _ _, pq_invV hi hv1 hv (Or.inl rfl)⟩
      · rw [if_neg hm, if_neg hm]
        rcases pq_dich a3 (pq_vlo v) (pq_vhi v) (pq_vS v hv).1 (pq_vS v hv).2 with ⟨k, hk1, hk2, rfl⟩ | hz
        · have h := pq_ofI (v := v) (k := k) (by omega) hk1 hk2
          rw [h.1, h.2, pq_exch (by omega) (by omega), pq_at (by omega) (by omega), pq_4', pq_ix (show 4 * c + v < 48 by omega) (by decide), pq_cl (by omega)]
          exact ⟨0, nt (4 * c + v), _, _, rfl, rfl, pq_rs0 _ _, pq_invV hi hv1 hv (Or.inr ⟨k, hk1, hk2, rfl⟩)⟩
        · have h := pq_ofO (v := v) (x := a3) (by omega) hz
          rw [h.1, h.2]
          exact ⟨2, _, _, _, rfl, rfl, pq_rs2 _ _, hi⟩
    · rw [(pq_upO hy).1, (pq_upO hy).2]
      exact ⟨1, _, _, _, rfl, rfl, pq_rs1 _ _, hi⟩
  · rw [pq_isN hx, pq_isN1 hn hx]
    exact ⟨1, _, _, _, rfl, rfl, pq_rs1 _ _, hi⟩
theorem pq_oSetWeight : ∃ k r wt' ob', fL_setWeight (nI n) mi fg nt wt wl ob a1 a2 = some (k, wt', ob') ∧ fX1_setWeight th (nI n) nt fg wt mi a1 a2 = some (r, k, wt') ∧ pq_rs k r ob' := by
  unfold fL_setWeight fX0_setWeight fX1_setWeight
  rcases pq_dich a1 0 7 (by decide) (by decide) with ⟨c, -, hc, rfl⟩ | hx
  · rw [(pq_fltI hc).1, (pq_fltI hc).2, pq_ix (show c < 8 by omega) (by decide), pq_cl (by omega)]
    rcases pq_dich a2 0 9 (by decide) (by decide) with ⟨f, -, hf, rfl⟩ | hy
    · rw [if_neg (nI_pos (by omega)), if_pos (show nI f ≤ 9 from nI_le (a := f) (b := 9) hf (by decide)), show fX1_isIn (nI f) 0 9 = some 1 from pq_in1 (lo := 0) (hi := 9) (Nat.zero_le _) hf (by decide)]
      exact ⟨0, wt c, _, _, rfl, rfl, pq_rs0 _ _⟩
    · rw [show fX1_isIn a2 0 9 = some 0 from pq_in0 (lo := 0) (hi := 9) hy]
      by_cases h1 : a2 < 0
      · rw [if_pos h1]
        exact ⟨2, _, _, _, rfl, rfl, pq_rs2 _ _⟩
      · rw [if_neg h1, if_neg (show ¬ a2 ≤ 9 from Int32.not_le.mpr (hy.resolve_left h1))]
        exact ⟨2, _, _, _, rfl, rfl, pq_rs2 _ _⟩
  · rw [(pq_fltO hx).1, (pq_fltO hx).2]
    exact ⟨1, _, _, _, rfl, rfl, pq_rs1 _ _⟩
theorem pq_oDrop (hn : n ≤ 12) (hi : pq_inv n nt fg) : ∃ k r n' ob', fL_drop (nI n) mi fg nt wt wl ob = some (k, nI n', ob') ∧ fX1_drop th (nI n) nt fg wt mi = some (r, k, nI n') ∧ pq_rs k r ob' ∧ n' ≤ 12 ∧ pq_inv n' nt fg := by
  unfold fL_drop fX0_drop fX1_drop
  cases n with
  | zero =>
    exact ⟨1, _, 0, _, rfl, rfl, pq_rs1 _ _, by decide, hi⟩
  | succ n =>
    rw [if_pos (show (0 : Int32) < nI (n + 1) from nI_lt (a := 0) (b := n + 1) (by omega) (by omega)), if_neg (nI_ne0 (by omega) (by omega)), pq_m1]
    exact ⟨0, nI n, n, _, rfl, rfl, pq_rs0 _ _, by omega, fun c hc => hi c (by omega)⟩
theorem pq_oChord (hn : n ≤ 12) (hi : pq_inv n nt fg) : ∃ k r n' fg' nt' ob', fL_chord (nI n) mi fg nt wt wl ob a1 a2 = some (k, nI n', fg', nt', ob') ∧ fX1_chord th (nI n) nt fg wt mi a1 a2 = some (r, k, nI n', nt', fg') ∧ pq_rs k r ob' ∧ n' ≤ 12 ∧ pq_inv n' nt' fg' := by
  unfold fL_chord fX0_chord fX1_chord
  rcases pq_dich a1 0 13 (by decide) (by decide) with ⟨b, -, hb, rfl⟩ | hy
  · have h := pq_ofI (v := 0) (k := b) (by decide) (Nat.zero_le _) hb
    rw [show fX0_isNoteOf 0 (nI b) = some 1 from h.1, show fX1_isOf 0 (nI b) = some 1 from h.2]
    rcases pq_dich a2 0 5 (by decide) (by decide) with ⟨f, -, hf, rfl⟩ | hy
    · rw [(pq_figI hf).1, (pq_figI hf).2]
      by_cases h12 : n = 12
      · subst h12
        exact ⟨2, _, 12, _, _, _, rfl, rfl, pq_rs2 _ _, by decide, hi⟩
      · have e4 : nI n * 4 = nI (4 * n) := by rw [show (4 : Int32) = nI 4 from rfl, pk_mul, Nat.mul_comm]
        have e4' : (4 : Int32) * nI n = nI (4 * n) := by rw [show (4 : Int32) = nI 4 from rfl, pk_mul]
        rw [if_pos (show nI n < 12 from nI_lt (a := n) (b := 12) (by omega) (by decide)), if_neg (show ¬ nI n = 12 from fun z => h12 ((nI_eq (a := n) (b := 12) (by omega) (by decide)).mp z)), e4, e4', pq_ix (show n < 12 by omega) (by decide), pq_ix (show 4 * n < 48 by omega) (by decide), pq_putN (by omega), pq_let (by omega), pq_p1, pq_m1, pq_cl (show n < 2 ^ 31 by omega), pq_cl (show 4 * n < 2 ^ 31 by omega)]
        refine ⟨0, nI n, n + 1, _, _, _, rfl, rfl, pq_rs0 _ _, by omega, ?_⟩
        exact pq_invN hi (by omega) (by omega)
    · rw [(pq_figO hy).1, (pq_figO hy).2]
      exact ⟨1, _, n, _, _, _, rfl, rfl, pq_rs1 _ _, hn, hi⟩
  · have h := pq_ofO (v := 0) (x := a1) (by decide) hy
    rw [show fX0_isNoteOf 0 a1 = some 0 from h.1, show fX1_isOf 0 a1 = some 0 from h.2]
    exact ⟨1, _, n, _, _, _, rfl, rfl, pq_rs1 _ _, hn, hi⟩
end
