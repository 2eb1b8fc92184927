/-! Pure rows, 11: the law's loop answers 1. -/
theorem pq_tail {β : Type} {k : Int32} {v w : Int64} {X Y : Option β} (h : k = 0 → v = w) : (if k = k then if k = 0 then if lg_cmp v w = 0 then X else Y else X else Y) = X := by
  rw [if_pos rfl]
  by_cases h0 : k = 0
  · rw [if_pos h0, if_pos ((lg_cmp_eq _ _).mpr (h h0))]
  · rw [if_neg h0]
theorem pq_a2 (k : Nat) : nI k + 2 = nI (k + 2) := nI_add k 2
theorem pq_a3 (k : Nat) : nI k + 3 = nI (k + 3) := nI_add k 3
theorem pq_a4 (k : Nat) : nI (4 * k) + 4 = nI (4 * (k + 1)) := nI_add (4 * k) 4
theorem pq_exit {L k : Nat} (hL : L ≤ 2048) (hk : 4 * k ≤ L) : (4 * k + 4 ≤ L ∧ ¬ ((Int32.ofNat L) - 4) < nI (4 * k)) ∨ (L < 4 * k + 4 ∧ ((Int32.ofNat L) - 4) < nI (4 * k)) := by
  have e : (nI L - nI 4).toInt = (L : Int) - 4 := pk_sub_toInt (by omega) (by decide)
  have e2 : ((Int32.ofNat L) - 4) < nI (4 * k) ↔ (nI L - nI 4).toInt < (nI (4 * k)).toInt := Int32.lt_iff_toInt_lt
  rw [e, nI_toInt (by omega)] at e2
  by_cases h : 4 * k + 4 ≤ L
  · exact Or.inl ⟨h, fun z => by have := e2.mp z; omega⟩
  · exact Or.inr ⟨by omega, e2.mpr (by omega)⟩
theorem pq_01 (x : Int32) : ∃ z : Int32, fb_z z = true ∧ (if x = 0 then some (0 : Int32) else some 1) = some z := by
  by_cases h : x = 0
  · exact ⟨0, by decide, if_pos h⟩
  · exact ⟨1, by decide, if_neg h⟩
theorem pq_ite64 {β : Type} (r : Int32) (f : Int64 → Option β) : fb_b1 (if r = 0 then some (0 : Int64) else some 1) f = f (if r = 0 then 0 else 1) := by
  by_cases h : r = 0
  · rw [if_pos h, if_pos h]; rfl
  · rw [if_neg h, if_neg h]; rfl
theorem law_pure {xs : Nat → Int32} {L : Nat} (hL : L ≤ 2048) : ∀ (m k n : Nat) (mi : Int32) (fg nt wt wl : Nat → Int32) (yth : Int32) (ob : Nat → Int64), 4 * k ≤ L → L < 4 * (k + m) → n ≤ 12 → fb_z mi = true → pq_inv n nt fg → lpL_law xs L m (nI (4 * k)) (nI n) mi fg nt wt wl yth (nI n) nt fg wt mi ob = some 1 := by
  intro m
  induction m with
  | zero => intro k n mi fg nt wt wl yth ob h1 h2 _ _ _; omega
  | succ m ih =>
    intro k n mi fg nt wt wl yth ob h1 h2 hn hz hi
    rcases pq_exit hL h1 with ⟨h3, hx⟩ | ⟨h3, hx⟩
    case inr => rw [lpL_law.eq_2, if_pos hx]
    case inl =>
    have IH : ∀ (n : Nat) (mi : Int32) (fg nt wt wl : Nat → Int32) (yth : Int32) (ob : Nat → Int64), n ≤ 12 → fb_z mi = true → pq_inv n nt fg → lpL_law xs L m (nI (4 * (k + 1))) (nI n) mi fg nt wt wl yth (nI n) nt fg wt mi ob = some 1 := fun n mi fg nt wt wl yth ob a b d => ih (k + 1) n mi fg nt wt wl yth ob (by omega) (by omega) a b d
    rw [lpL_law.eq_2, if_neg hx, pq_p1, pq_a2, pq_a3, pq_a4, pq_ix (show 4 * k < L by omega) (by omega), pq_ix (show 4 * k + 1 < L by omega) (by omega), pq_ix (show 4 * k + 2 < L by omega) (by omega), pq_ix (show 4 * k + 3 < L by omega) (by omega), pq_cl (show 4 * k < 2 ^ 31 by omega), pq_cl (show 4 * k + 1 < 2 ^ 31 by omega), pq_cl (show 4 * k + 2 < 2 ^ 31 by omega), pq_cl (show 4 * k + 3 < 2 ^ 31 by omega), pq_ck]
    generalize xs (4 * k) &&& 31 = q
    generalize xs (4 * k + 1) = a1
    generalize xs (4 * k + 2) = a2
    generalize xs (4 * k + 3) = a3
    by_cases c0 : q = 0
    · rw [if_pos c0]
      obtain ⟨kk, r, n', fg', nt', ob', e0, e1, hs, hn', hi'⟩ := pq_oChord (mi := mi) (th := yth) (wt := wt) (wl := wl) (ob := ob) (a1 := a1) (a2 := a2) hn hi
      rw [e0, e1]
      exact (pq_tail hs).trans (IH n' mi fg' nt' wt wl kk ob' hn' hz hi')
    rw [if_neg c0]
    by_cases c1 : q = 1
    · rw [if_pos c1]
      obtain ⟨kk, r, nt', ob', e0, e1, hs, hi'⟩ := pq_oSetBass (mi := mi) (th := yth) (wt := wt) (wl := wl) (ob := ob) (a1 := a1) (a2 := a2) hn hi
      rw [e0, e1]
      exact (pq_tail hs).trans (IH n mi fg nt' wt wl kk ob' hn hz hi')
    rw [if_neg c1]
    by_cases c2 : q = 2
    · rw [if_pos c2]
      obtain ⟨kk, r, fg', ob', e0, e1, hs, hi'⟩ := pq_oSetFigure (mi := mi) (th := yth) (wt := wt) (wl := wl) (ob := ob) (a1 := a1) (a2 := a2) hn hi
      rw [e0, e1]
      exact (pq_tail hs).trans (IH n mi fg' nt wt wl kk ob' hn hz hi')
    rw [if_neg c2]
    by_cases c3 : q = 3
    · rw [if_pos c3]
      obtain ⟨kk, r, nt', ob', e0, e1, hs, hi'⟩ := pq_oPut (mi := mi) (th := yth) (wt := wt) (wl := wl) (ob := ob) (a1 := a1) (a2 := a2) (a3 := a3) hn hi
      rw [e0, e1]
      exact (pq_tail hs).trans (IH n mi fg nt' wt wl kk ob' hn hz hi')
    rw [if_neg c3]
    by_cases c4 : q = 4
    · rw [if_pos c4]
      obtain ⟨kk, r, n', ob', e0, e1, hs, hn', hi'⟩ := pq_oDrop (mi := mi) (th := yth) (wt := wt) (wl := wl) (ob := ob) hn hi
      rw [e0, e1]
      exact (pq_tail hs).trans (IH n' mi fg nt wt wl kk ob' hn' hz hi')
    rw [if_neg c4]
    by_cases c5 : q = 5
    · rw [if_pos c5]
      obtain ⟨z, hz', ez⟩ := pq_01 a1
      have e0 : fX0_setKey (nI n) mi fg nt wt wl z = some (mi, z) := by
        unfold fX0_setKey
        rw [hz', hz]
        rfl
      have e1 : fX1_setKey yth (nI n) nt fg wt mi z = some (mi, 0, z) := by
        unfold fX1_setKey
        rw [hz', hz]
        rfl
      rw [ez]
      simp only [fb_b1, pq_ck]
      rw [e0, e1]
      exact (if_pos rfl).trans (IH n z fg nt wt wl 0 ob hn hz' hi)
    rw [if_neg c5]
    by_cases c6 : q = 6
    · rw [if_pos c6]
      obtain ⟨kk, r, wt', ob', e0, e1, hs⟩ := pq_oSetWeight (n := n) (nt := nt) (fg := fg) (mi := mi) (th := yth) (wt := wt) (wl := wl) (ob := ob) (a1 := a1) (a2 := a2)
      rw [e0, e1]
      exact (pq_tail hs).trans (IH n mi fg nt wt' wl kk ob' hn hz hi)
    rw [if_neg c6]
    by_cases c7 : q = 7
    · rw [if_pos c7]
      obtain ⟨kk, r, nt', wl', ob', e0, e1, hs, hi'⟩ := pq_oLead (mi := mi) (th := yth) (wt := wt) (wl := wl) (ob := ob) (a1 := a1) hn hi
      rw [e0, e1]
      exact (pq_tail hs).trans (IH n mi fg nt' wt wl' kk ob' hn hz hi')
    rw [if_neg c7]
    by_cases c8 : q = 8
    · rw [if_pos c8]
      obtain ⟨r, nt', wl', e0, e1, hi'⟩ := pq_oLeadAll (mi := mi) (th := yth) (wt := wt) (wl := wl) hn hi
      rw [e0, e1]
      exact (if_pos rfl).trans (IH n mi fg nt' wt wl' 0 ob hn hz hi')
    rw [if_neg c8]
    by_cases c9 : q = 9
    · rw [if_pos c9]
      obtain ⟨kk, r, ob', e0, e1, hs⟩ := pq_oNote (fg := fg) (nt := nt) (mi := mi) (th := yth) (wt := wt) (wl := wl) (ob := ob) (a1 := a1) (a2 := a2) hn
      rw [e0, e1]
      exact (pq_tail hs).trans (IH n mi fg nt wt wl kk ob' hn hz hi)
    rw [if_neg c9]
    by_cases c10 : q = 10
    · rw [if_pos c10]
      obtain ⟨kk, r, ob', e0, e1, hs⟩ := pq_oTold (mi := mi) (th := yth) (wt := wt) (wl := wl) (ob := ob) (a1 := a1) (a2 := a2) hn hi
      rw [e0, e1]
      exact (pq_tail hs).trans (IH n mi fg nt wt wl kk ob' hn hz hi)
    rw [if_neg c10]
    by_cases c11 : q = 11
    · rw [if_pos c11]
      obtain ⟨kk, r, ob', e0, e1, hs⟩ := pq_oFaults (mi := mi) (th := yth) (wt := wt) (wl := wl) (ob := ob) (a1 := a1) (a2 := a2) hn hi
      rw [e0, e1]
      exact (pq_tail hs).trans (IH n mi fg nt wt wl kk ob' hn hz hi)
    rw [if_neg c11]
    by_cases c12 : q = 12
    · rw [if_pos c12]
      obtain ⟨kk, r, ob', e0, e1, hs⟩ := pq_oCount (mi := mi) (th := yth) (wt := wt) (wl := wl) (ob := ob) (a1 := a1) hn hi
      rw [e0, e1]
      exact (pq_tail hs).trans (IH n mi fg nt wt wl kk ob' hn hz hi)
    rw [if_neg c12]
    by_cases c13 : q = 13
    · rw [if_pos c13]
      obtain ⟨kk, r, ob', e0, e1, hs⟩ := pq_oPitch (n := n) (fg := fg) (nt := nt) (mi := mi) (th := yth) (wt := wt) (wl := wl) (ob := ob) (a1 := a1)
      rw [e0, e1]
      exact (pq_tail hs).trans (IH n mi fg nt wt wl kk ob' hn hz hi)
    rw [if_neg c13]
    by_cases c14 : q = 14
    · rw [if_pos c14]
      obtain ⟨kk, r, ob', e0, e1, hs⟩ := pq_oFits (mi := mi) (th := yth) (wt := wt) (wl := wl) (ob := ob) (a1 := a1) (a2 := a2) (a3 := a3) hn hi
      rw [e0, e1]
      simp only [fb_b1, fb_b2, pq_ck, fX1_thrown]
      rw [if_pos trivial]
      by_cases h0 : kk = 0
      · rw [if_pos h0]
        have hs := hs h0
        by_cases hr : r = 0
        · rw [if_pos hr] at hs
          rw [if_pos hr]
          exact (if_pos ((lg_cmp_eq _ _).mpr hs)).trans (IH n mi fg nt wt wl kk ob' hn hz hi)
        · rw [if_neg hr] at hs
          rw [if_neg hr]
          exact (if_pos ((lg_cmp_eq _ _).mpr hs)).trans (IH n mi fg nt wt wl kk ob' hn hz hi)
      · rw [if_neg h0]
        exact IH n mi fg nt wt wl kk ob' hn hz hi
    rw [if_neg c14]
    by_cases c15 : q = 15
    · rw [if_pos c15]
      obtain ⟨kk, r, wl', ob', e0, e1, hs⟩ := pq_oWays (mi := mi) (th := yth) (wt := wt) (wl := wl) (ob := ob) (a1 := a1) hn hi
      rw [e0, e1]
      exact (pq_tail hs).trans (IH n mi fg nt wt wl' kk ob' hn hz hi)
    rw [if_neg c15]
    by_cases c16 : q = 16
    · rw [if_pos c16]
      obtain ⟨kk, r, ob', e0, e1, hs⟩ := pq_oWould (mi := mi) (th := yth) (wt := wt) (wl := wl) (ob := ob) (a1 := a1) (a2 := a2) (a3 := a3) hn hi
      rw [e0, e1]
      exact (pq_tail hs).trans (IH n mi fg nt wt wl kk ob' hn hz hi)
    rw [if_neg c16]
    by_cases c17 : q = 17
    · rw [if_pos c17]
      obtain ⟨kk, r, wl', ob', e0, e1, hs⟩ := pq_oBest (mi := mi) (th := yth) (wt := wt) (wl := wl) (ob := ob) (a1 := a1) hn hi
      rw [e0, e1]
      exact (pq_tail hs).trans (IH n mi fg nt wt wl' kk ob' hn hz hi)
    rw [if_neg c17]
    by_cases c18 : q = 18
    · rw [if_pos c18]
      obtain ⟨kk, r, wl', ob', e0, e1, hs⟩ := pq_oAdvise (mi := mi) (th := yth) (wt := wt) (wl := wl) (ob := ob) (a1 := a1) hn hi
      rw [e0, e1]
      exact (pq_tail hs).trans (IH n mi fg nt wt wl' kk ob' hn hz hi)
    rw [if_neg c18]
    by_cases c19 : q = 19
    · rw [if_pos c19]
      obtain ⟨r, e0, e1⟩ := pq_oMean (mi := mi) (th := yth) (wt := wt) (wl := wl) hn hi
      rw [e0, e1]
      simp only [fb_b1, fb_b2]
      rw [decide_eq_true trivial]
      exact IH n mi fg nt wt wl 0 ob hn hz hi
    rw [if_neg c19]
    by_cases c20 : q = 20
    · rw [if_pos c20]
      obtain ⟨z, wl', e0, e1⟩ := pq_oDigest (mi := mi) (th := yth) (wt := wt) (wl := wl) hn hi
      rw [e0, e1]
      exact (if_pos ((lg_cmp_eq _ _).mpr rfl)).trans (IH n mi fg nt wt wl' 0 ob hn hz hi)
    rw [if_neg c20]
    exact IH n mi fg nt wt wl yth ob hn hz hi
/-! the two at their birth -/
def pq_wt0 : Nat → Int32 := upd (upd (upd (upd (upd (upd (upd (upd (fun _ => 0) (0 : Int32).toNatClampNeg 2) (1 : Int32).toNatClampNeg 2) (2 : Int32).toNatClampNeg 2) (3 : Int32).toNatClampNeg 2) (4 : Int32).toNatClampNeg 2) (5 : Int32).toNatClampNeg 2) (6 : Int32).toNatClampNeg 2) (7 : Int32).toNatClampNeg 2
theorem pq_init1 : fX1_init = some (0, 0, (fun _ => 0), (fun _ => 0), pq_wt0, 0) := rfl
theorem pq_iS {m k : Nat} {f : Nat → Int32} (hk : k < 8) : lpX0_init_48 (m + 1) (nI k) f = lpX0_init_48 m (nI (k + 1)) (upd f k 2) := by
  rw [lpX0_init_48.eq_2, if_neg (by exact nI_ge (a := k) (b := 8) hk (by decide)), pq_ix hk (by decide), pq_ck, pq_p1, pq_cl (by omega)]
theorem pq_init0 : fX0_init = some (0, 0, (fun _ => 0), (fun _ => 0), pq_wt0, (fun _ => 0)) := by
  unfold fX0_init
  rw [show lpX0_init_48 14 0 (fun _ => 0) = lpX0_init_48 14 (nI 0) (fun _ => 0) from rfl, pq_iS (by decide), pq_iS (by decide), pq_iS (by decide), pq_iS (by decide), pq_iS (by decide), pq_iS (by decide), pq_iS (by decide), pq_iS (by decide), lpX0_init_48.eq_2, if_pos (by decide)]
  rfl
