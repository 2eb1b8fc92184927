/-! Pure rows, 12: the law's loop answers 1, from every state of its kind. -/
theorem qc_ok {μ ρ γ : Type} {o : Option (Except (String × μ) ρ)} {v : ρ} (h : o = some (.ok v)) (k : ρ → Option γ) (k2 : String × μ → Option γ) : fb_b1 o (fun re => fb_mt re k k2) = k v := by
  subst h
  rfl
theorem qc_1 {α β : Type} {o : Option α} {a : α} (h : o = some a) (k : α → Option β) : fb_b1 o k = k a := by
  subst h
  rfl
theorem qc_2 {α1 α2 β : Type} {o : Option (α1 × α2)} {a : α1} {b : α2} (h : o = some (a, b)) (k : α1 → α2 → Option β) : fb_b2 o k = k a b := by
  subst h
  rfl
theorem qc_3 {α1 α2 α3 β : Type} {o : Option (α1 × α2 × α3)} {a : α1} {b : α2} {c : α3} (h : o = some (a, b, c)) (k : α1 → α2 → α3 → Option β) : fb_b3 o k = k a b c := by
  subst h
  rfl
theorem qc_0 {β : Type} {o : Option Unit} (h : o = some ()) (k : Option β) : fb_b0 o k = k := by
  subst h
  rfl
theorem qc_e3 {α1 α2 α3 β : Type} {o : Option (α1 × α2 × α3)} {k : α1 → α2 → α3 → Option β} {z : Option β} (P : α1 → α2 → α3 → Prop) (h : ∃ a b c, o = some (a, b, c) ∧ P a b c) (h2 : ∀ a b c, P a b c → k a b c = z) : fb_b3 o k = z := by
  obtain ⟨a, b, c, e, p⟩ := h
  rw [qc_3 e]
  exact h2 a b c p
theorem qc_below {xs : Nat → Int32} {L n : Nat} (x : Int32) (h0 : 0 < n) (hn : n < 2 ^ 31) : ∃ j, j < n ∧ fL_below xs L x (nI n) = some (nI j) := by
  obtain ⟨j, h1, h2⟩ := fm_rem (x := x) h0 hn
  refine ⟨j, h1, ?_⟩
  unfold fL_below
  rw [decide_eq_true (nI_ne0 h0 hn), pq_ck, h2]
theorem qc_cell {xs : Nat → Int32} {L k : Nat} (hL : L ≤ 260) (hk : k < 2 ^ 31) : ∃ x, fL_cell xs L (nI k) = some x := by
  unfold fL_cell
  by_cases h : Int32.ofNat L ≤ nI k
  · rw [if_pos h]
    exact ⟨_, rfl⟩
  · rw [if_neg h]
    have h2 : k < L := by
      rw [show Int32.ofNat L = nI L from rfl, nI_leI (by omega) hk] at h
      omega
    rw [pq_ix h2 (by omega), pq_ck]
    exact ⟨_, rfl⟩
section
variable {mi : Int32} {fg nt wt wl : Nat → Int32} {n c : Nat}
theorem qc_t2 (hi : pq_inv n nt fg) (hc : c < n) (hn : n ≤ 12) : fX0_told (nI n) mi fg nt wt wl (nI c) 2 = some (.ok (pq_b (pq_set nt c))) := qa_told (q := 2) hi hc hn (by decide)
theorem qc_t3 (hi : pq_inv n nt fg) (hc : c < n) (hn : n ≤ 12) : fX0_told (nI n) mi fg nt wt wl (nI c) 3 = some (.ok (pq_b (pq_rt nt fg c))) := qa_told (q := 3) hi hc hn (by decide)
theorem qc_t4 (hi : pq_inv n nt fg) (hc : c < n) (hn : n ≤ 12) : fX0_told (nI n) mi fg nt wt wl (nI c) 4 = some (.ok (pq_stp nt c)) := qa_told (q := 4) hi hc hn (by decide)
theorem qc_t5 (hi : pq_inv n nt fg) (hc : c < n) (hn : n ≤ 12) : fX0_told (nI n) mi fg nt wt wl (nI c) 5 = some (.ok (pq_cost mi nt fg wt c)) := qa_told (q := 5) hi hc hn (by decide)
theorem qc_next (hi : pq_inv n nt fg) (hc : c < n) (hn : n ≤ 12) : (if nI n ≤ nI (c + 1) then some (0 : Int32) else fb_b1 (fX0_told (nI n) mi fg nt wt wl (nI (c + 1)) 5) (fun re => fb_mt re (fun v => some v) (fun _ => none))) = some (if c + 1 < n then pq_cost mi nt fg wt (c + 1) else 0) := by
  by_cases h : c + 1 < n
  · rw [if_neg (nI_ge h (by omega)), qc_ok (qc_t5 hi h hn), if_pos h]
  · rw [if_pos (nI_le (by omega) (by omega)), if_neg h]
theorem qc_487 (hi : pq_inv n nt fg) (hc : c < n) (hn : n ≤ 12) (x : Int32) : ∀ (j m k : Nat) (f : Nat → Int32), j + k = 8 → j < m → f 3 = x + pq_sum (pq_fo mi nt fg c) k → ∃ f', lpL_law_487 (nI n) mi wt fg nt (nI c) wl m (nI k) f = some (nI 8, f') ∧ f' 0 = f 0 ∧ f' 1 = f 1 ∧ f' 2 = f 2 ∧ f' 3 = x + pq_sum (pq_fo mi nt fg c) 8 := by
  intro j
  induction j with
  | zero =>
    intro m k f h1 h2 h3
    obtain ⟨m, rfl⟩ : ∃ z, m = z + 1 := ⟨m - 1, by omega⟩
    obtain rfl : k = 8 := by omega
    exact ⟨f, by rw [lpL_law_487.eq_2, if_pos (by decide)], rfl, rfl, rfl, h3⟩
  | succ j ih =>
    intro m k f h1 h2 h3
    obtain ⟨m, rfl⟩ : ∃ z, m = z + 1 := ⟨m - 1, by omega⟩
    obtain ⟨f', g1, g2, g3, g4, g5⟩ := ih m (k + 1) (upd f 3 (f 3 + pq_fo mi nt fg c k)) (by omega) (by omega) (by
      rw [pk_us, h3]
      exact Int32.add_assoc _ _ _)
    refine ⟨f', ?_, by rw [g2, pk_un (by decide)], by rw [g3, pk_un (by decide)], by rw [g4, pk_un (by decide)], g5⟩
    rw [lpL_law_487.eq_2, if_neg (by exact nI_ge (a := k) (b := 8) (by omega) (by decide)), qc_ok (qa_faults hi hc hn (by omega)), pq_p1]
    exact g1
theorem qc_v {v0 : Nat} (h : v0 < 3) : pq_vlo (1 + v0) ≤ 12 ∧ 14 ≤ pq_vhi (1 + v0) := by
  rcases (show v0 = 0 ∨ v0 = 1 ∨ v0 = 2 by omega) with rfl | rfl | rfl <;> decide
theorem qc_b1 (x : Bool) : (if pq_b x = 1 then some (1 : Int32) else some 0) = some (pq_b x) := by cases x <;> rfl
theorem qc_bt : ¬ pq_b true = 0 := by decide
/-- right: there are ways, and its notes fit -/
theorem qc_436 (hi : pq_inv n nt fg) (hn : n ≤ 12) (hw : qb_wt wt) : ∀ (j m k : Nat) (wl f : Nat → Int32), j + k = n → j < m → f 0 = pq_sum (pq_cnt mi nt fg wt 1) k → f 1 = pq_sum (pq_cnt mi nt fg wt 3) k → f 2 = pq_sum (pq_cnt mi nt fg wt 5) k → f 3 = pq_sum (pq_cnt mi nt fg wt 4) k → ∃ wl' f', lpL_law_436 (nI n) mi wt (nI n) fg nt m (nI k) wl f = some (nI n, wl', f') ∧ f' 0 = pq_sum (pq_cnt mi nt fg wt 1) n ∧ f' 1 = pq_sum (pq_cnt mi nt fg wt 3) n ∧ f' 2 = pq_sum (pq_cnt mi nt fg wt 5) n ∧ f' 3 = pq_sum (pq_cnt mi nt fg wt 4) n := by
  intro j
  induction j with
  | zero =>
    intro m k wl f h1 h2 e0 e1 e2 e3
    obtain ⟨m, rfl⟩ : ∃ z, m = z + 1 := ⟨m - 1, by omega⟩
    obtain rfl : k = n := by omega
    exact ⟨wl, f, by rw [lpL_law_436.eq_2, if_pos (nI_le (Nat.le_refl _) (by omega))], e0, e1, e2, e3⟩
  | succ j ih =>
    intro m k wl f h1 h2 e0 e1 e2 e3
    obtain ⟨m, rfl⟩ : ∃ z, m = z + 1 := ⟨m - 1, by omega⟩
    have hc : k < n := by omega
    rw [lpL_law_436.eq_2, if_neg (nI_ge hc (by omega)), qc_ok (qc_t2 hi hc hn), qc_ok (qc_t4 hi hc hn), qc_ok (qc_t5 hi hc hn)]
    simp only [pq_z0, pq_z1, pq_z2]
    generalize hf1 : upd (upd (upd f 0 (f 0 + pq_b (pq_set nt k))) 1 ((upd f 0 (f 0 + pq_b (pq_set nt k))) 1 + pq_stp nt k)) 2 ((upd (upd f 0 (f 0 + pq_b (pq_set nt k))) 1 ((upd f 0 (f 0 + pq_b (pq_set nt k))) 1 + pq_stp nt k)) 2 + pq_cost mi nt fg wt k) = f1
    have q0 : f1 0 = pq_sum (pq_cnt mi nt fg wt 1) (k + 1) := by
      rw [← hf1, pk_un (by decide), pk_un (by decide), pk_us, e0]
      rfl
    have q1 : f1 1 = pq_sum (pq_cnt mi nt fg wt 3) (k + 1) := by
      rw [← hf1, pk_un (by decide), pk_us, pk_un (by decide), e1]
      rfl
    have q2 : f1 2 = pq_sum (pq_cnt mi nt fg wt 5) (k + 1) := by
      rw [← hf1, pk_us, pk_un (by decide), pk_un (by decide), e2]
      rfl
    have q3 : f1 3 = pq_sum (pq_cnt mi nt fg wt 4) k := by
      rw [← hf1, pk_un (by decide), pk_un (by decide), pk_un (by decide), e3]
    obtain ⟨f2, g1, g2, g3, g4, g5⟩ := qc_487 (mi := mi) (wt := wt) (wl := wl) hi hc hn (pq_sum (pq_cnt mi nt fg wt 4) k) 8 14 0 f1 rfl (by decide) (by rw [q3]; exact (Int32.add_zero _).symm)
    rw [show lpL_law_487 (nI n) mi wt fg nt (nI k) wl 14 0 f1 = _ from g1, qc_2 rfl, qc_ok (qc_t3 hi hc hn), qc_ok (qc_t2 hi hc hn), if_neg qb_le32, qc_ok (qc_t5 hi hc hn), qc_ok (qc_t4 hi hc hn), if_neg (qb_cost hi hc hn hw), qc_ok (qc_t3 hi hc hn)]
    have next : ∀ wl1, ∃ wl' f', lpL_law_436 (nI n) mi wt (nI n) fg nt m (nI k + 1) wl1 f2 = some (nI n, wl', f') ∧ f' 0 = pq_sum (pq_cnt mi nt fg wt 1) n ∧ f' 1 = pq_sum (pq_cnt mi nt fg wt 3) n ∧ f' 2 = pq_sum (pq_cnt mi nt fg wt 5) n ∧ f' 3 = pq_sum (pq_cnt mi nt fg wt 4) n := by
      intro wl1
      rw [pq_p1]
      exact ih m (k + 1) wl1 f2 (by omega) (by omega) (by rw [g2, q0]) (by rw [g3, q1]) (by rw [g4, q2]) g5
    cases hr : pq_rt nt fg k with
    | false =>
      rw [if_neg (show ¬ pq_b false = 1 by decide), qc_1 rfl]
      exact next _
    | true =>
      obtain ⟨b, fi, t, a, s, hb, hf, t1, t2, a1, a2, s1, s2, eb, et, ea, es, ef, hR, hmem⟩ := qb_rt (hi k hc) hr
      obtain ⟨b1, b2, b3, -, -, -⟩ := qb_rbel hf hb (by omega) (by omega) (by omega) hR
      have hl : ¬ nI (pq_ways nt fg k).length = 0 := nI_ne0 (List.length_pos_of_mem hmem) (by have := (pq_waysOk (hi k hc)).1; omega)
      have n1 : ∀ wl, fX0_note (nI n) mi fg nt wt wl (nI k) 1 = some (.ok (nI t)) := fun wl => by
        rw [← et]
        exact qa_note (v := 1) hc hn (by decide)
      have n2 : ∀ wl, fX0_note (nI n) mi fg nt wt wl (nI k) 2 = some (.ok (nI a)) := fun wl => by
        rw [← ea]
        exact qa_note (v := 2) hc hn (by decide)
      have n3 : ∀ wl, fX0_note (nI n) mi fg nt wt wl (nI k) 3 = some (.ok (nI s)) := fun wl => by
        rw [← es]
        exact qa_note (v := 3) hc hn (by decide)
      have f1' : ∀ wl, fX0_fits (nI n) mi fg nt wt wl (nI k) 1 (nI t) = some (.ok 1) := fun wl => qa_fits (v := 1) hi hc hn hb hf eb ef (by decide) (by decide) t1 t2 b1
      have f2' : ∀ wl, fX0_fits (nI n) mi fg nt wt wl (nI k) 2 (nI a) = some (.ok 1) := fun wl => qa_fits (v := 2) hi hc hn hb hf eb ef (by decide) (by decide) a1 a2 b2
      have f3' : ∀ wl, fX0_fits (nI n) mi fg nt wt wl (nI k) 3 (nI s) = some (.ok 1) := fun wl => qa_fits (v := 3) hi hc hn hb hf eb ef (by decide) (by decide) s1 s2 b3
      rw [if_pos (show pq_b true = 1 by decide), qc_ok (qa_ways hi hc hn), if_neg hl, qc_ok (n1 _), qc_ok (f1' _), if_neg (show ¬ (1 : Int32) = 0 by decide), qc_ok (n2 _), qc_ok (f2' _), if_neg (show ¬ (1 : Int32) = 0 by decide), qc_ok (n3 _), qc_ok (f3' _), if_neg (show ¬ (1 : Int32) = 0 by decide), qc_1 rfl]
      exact next _
theorem qc_z3 : (3 : Int32).toNatClampNeg = 3 := by decide
end
section
variable {xs : Nat → Int32} {L n : Nat} {mi : Int32} {wt : Nat → Int32}
theorem qc_loop (hL : L ≤ 260) (h2 : 2 ≤ n) (h7 : n ≤ 7) (hw : qb_wt wt) : ∀ (j m k : Nat) (fg nt wl : Nat → Int32), j + k = 16 → j < m → pq_inv n nt fg → lpL_law_17 xs L (nI n) m (nI k) (nI n) mi fg nt wt wl = some 1 := by
  have hn : n ≤ 12 := by omega
  intro j
  induction j with
  | zero =>
    intro m k fg nt wl h1 h2 hi
    obtain ⟨m, rfl⟩ : ∃ z, m = z + 1 := ⟨m - 1, by omega⟩
    obtain rfl : k = 16 := by omega
    rw [lpL_law_17.eq_2, if_pos (by decide)]
  | succ j ih =>
    intro m k fg nt wl h1 h2' hi
    obtain ⟨m, rfl⟩ : ∃ z, m = z + 1 := ⟨m - 1, by omega⟩
    obtain ⟨x, ex⟩ := qc_cell (xs := xs) (k := k) hL (by omega)
    obtain ⟨c, hc, ec⟩ := qc_below (xs := xs) (L := L) (n := n) (x >>> ((2 : Int32) &&& 31)) (by omega) (by omega)
    obtain ⟨v0, hv0, ev⟩ := qc_below (xs := xs) (L := L) (n := 3) (x >>> ((4 : Int32) &&& 31)) (by decide) (by decide)
    obtain ⟨w0, hw0, ew⟩ := qc_below (xs := xs) (L := L) (n := 3) (x >>> ((6 : Int32) &&& 31)) (by decide) (by decide)
    obtain ⟨y0, hy0, ey⟩ := qc_below (xs := xs) (L := L) (n := 5) x (by decide) (by decide)
    obtain ⟨z, hz⟩ := qa_digest (mi := mi) (wt := wt) hn hi
    obtain ⟨wl1, d1⟩ := hz wl
    have e1 : (1 : Int32) + nI v0 = nI (1 + v0) := nI_add 1 v0
    have e12 : (12 : Int32) + nI w0 = nI (12 + w0) := nI_add 12 w0
    obtain ⟨r1, r2⟩ := qc_v hv0
    have hbs := qb_best (mi := mi) (wt := wt) (n := n) (hi c hc)
    obtain ⟨y, wl4, ha, hy⟩ := qa_advise (mi := mi) (wt := wt) hn hi hc (pq_fill (pq_fill wl1 0 (pq_ways nt fg c)) 0 (pq_ways nt fg c))
    obtain ⟨wl5, d2⟩ := hz wl4
    have hJ : ∃ q, (if 0 ≤ (pq_bst n mi nt fg wt c).1 then some (0 : Int32) else some 1) = some q ∧ (if nI (pq_ways nt fg c).length = 0 then some (1 : Int32) else some 0) = some q := by
      rcases hbs with ⟨b1, b2⟩ | ⟨yy, b1, b2, -, -⟩
      · rw [b1, b2]
        exact ⟨1, rfl, rfl⟩
      · have hyy := pq_inRlt (List.all_eq_true.mp (pq_waysOk (hi c hc)).2 yy b1)
        refine ⟨0, ?_, ?_⟩
        · rw [b2, if_pos (nI_pos' hyy)]
        · rw [if_neg (nI_ne0 (List.length_pos_of_mem b1) (by have := (pq_waysOk (hi c hc)).1; omega))]
    obtain ⟨q, q1, q2⟩ := hJ
    have hy1 : ¬ y < -1 := by
      rcases hy with rfl | ⟨v, hv, rfl⟩
      · decide
      · rcases (show v = 0 ∨ v = 1 ∨ v = 2 ∨ v = 3 ∨ v = 4 ∨ v = 5 by omega) with rfl | rfl | rfl | rfl | rfl | rfl <;> decide
    have hy2 : y ≤ 5 := by
      rcases hy with rfl | ⟨v, hv, rfl⟩
      · decide
      · exact nI_le (a := v) (b := 5) (by omega) (by decide)
    rw [lpL_law_17.eq_2, if_neg (by exact nI_ge (a := k) (b := 16) (by omega) (by decide)), qc_1 ex, qc_1 ec, show fL_below xs L (x >>> ((4 : Int32) &&& 31)) 3 = _ from ev, qc_1 rfl, show fL_below xs L (x >>> ((6 : Int32) &&& 31)) 3 = _ from ew, qc_1 rfl, qc_2 d1, e1, e12, qc_ok (qa_would hi hc hn (by omega) (by omega) (by omega) (by omega))]
    dsimp only
    rw [qc_ok (qa_best hi hc hn)]
    dsimp only
    rw [qc_ok (qa_ways hi hc hn)]
    dsimp only
    rw [qc_ok ha]
    dsimp only
    rw [qc_2 d2, if_pos ((lg_cmp_eq _ _).mpr rfl), q1, qc_1 rfl, q2, qc_1 rfl, if_pos rfl, if_neg hy1, if_pos hy2, qc_ok (qc_t5 hi hc hn), pq_p1 c, qc_next hi hc hn, qc_1 rfl, qc_ok (qc_t3 hi hc hn), qc_b1, qc_1 rfl, show fL_below xs L x 5 = _ from ey, qc_1 rfl]
    refine qc_e3 (fun fg' nt' _ => pq_inv n nt' fg') ?_ ?_
    · rcases (show y0 = 0 ∨ y0 = 1 ∨ y0 = 2 ∨ 3 ≤ y0 by omega) with rfl | rfl | rfl | hy3
      · have hi' := pq_invV (c := c) (v := 1 + v0) (x := nI (12 + w0)) hi (by omega) (by omega) (Or.inr ⟨12 + w0, by omega, by omega, rfl⟩)
        rw [if_pos (show nI 0 = 0 from rfl), qc_ok (qa_put hc hn (by omega) (by omega) (by omega) (by omega))]
        dsimp only
        rw [qc_ok (show fX0_count (nI n) mi fg (upd nt (4 * c + (1 + v0)) (nI (12 + w0))) wt wl5 5 = _ from qa_count (q := 5) hi' hn (by decide)), if_pos rfl, qc_ok (qa_note hc hn (by omega)), pk_us, if_pos rfl]
        exact ⟨_, _, _, rfl, hi'⟩
      · obtain ⟨b, hb, eb⟩ := qc_below (xs := xs) (L := L) (n := 14) (x >>> ((5 : Int32) &&& 31)) (by decide) (by decide)
        rw [if_neg (show ¬ nI 1 = 0 by decide), if_pos (show nI 1 = 1 from rfl), show fL_below xs L (x >>> ((5 : Int32) &&& 31)) 14 = _ from eb, qc_1 rfl, qc_ok (qa_setBass hc hn hb)]
        exact ⟨_, _, _, rfl, pq_invB hi hb⟩
      · obtain ⟨b, hb, eb⟩ := qc_below (xs := xs) (L := L) (n := 6) (x >>> ((5 : Int32) &&& 31)) (by decide) (by decide)
        rw [if_neg (show ¬ nI 2 = 0 by decide), if_neg (show ¬ nI 2 = 1 by decide), if_pos (show nI 2 = 2 from rfl), show fL_below xs L (x >>> ((5 : Int32) &&& 31)) 6 = _ from eb, qc_1 rfl, qc_ok (qa_setFigure hc hn hb)]
        exact ⟨_, _, _, rfl, pq_invF hi hb⟩
      · have hne : ∀ d, d < 3 → ¬ nI y0 = nI d := fun d hd z => by
          have := (nI_eq (a := y0) (b := d) (by omega) (by omega)).mp z
          omega
        rw [if_neg (show ¬ nI y0 = 0 from hne 0 (by decide)), if_neg (show ¬ nI y0 = 1 from hne 1 (by decide)), if_neg (show ¬ nI y0 = 2 from hne 2 (by decide))]
        rcases hbs with ⟨b1, b2⟩ | ⟨yy, b1, b2, b3, b4⟩
        · rw [b2, if_pos (show nI ([] : List Nat).length = 0 from rfl)]
          exact ⟨_, _, _, rfl, hi⟩
        · have hin := List.all_eq_true.mp (pq_waysOk (hi c hc)).2 yy b1
          have hl : ¬ nI (pq_ways nt fg c).length = 0 := nI_ne0 (List.length_pos_of_mem b1) (by have := (pq_waysOk (hi c hc)).1; omega)
          have hi' : pq_inv n (pq_w nt c yy) fg := pq_invW hi hin
          obtain ⟨t, a, s, t1, t2, a1, a2, s1, s2, rfl, hrt, n1, n2, n3⟩ := qb_put (hi c hc) b1
          have hle : (if pq_b (pq_rt nt fg c) = 0 then some () else if (pq_cost mi nt fg wt c + (if c + 1 < n then pq_cost mi nt fg wt (c + 1) else 0)) < (pq_cost mi (pq_w nt c (pq_c t a s)) fg wt c + (if c + 1 < n then pq_cost mi (pq_w nt c (pq_c t a s)) fg wt (c + 1) else 0)) then none else some ()) = some () := by
            cases hr : pq_rt nt fg c with
            | false => rfl
            | true =>
              obtain ⟨b, fi, t', a', s', hb, hf, t1', t2', a1', a2', s1', s2', eb, et, ea, es, ef, hR, hmem⟩ := qb_rt (hi c hc) hr
              have h4 := b4 _ hmem
              rw [b3] at h4
              unfold pq_own at h4
              rw [qb_wid (nt := nt) (c := c) (t := t') (a := a') (s := s') (by omega) (by omega) et ea es] at h4
              rw [if_neg qc_bt, if_neg (Int32.not_lt.mpr h4)]
          rw [if_neg hl, qc_ok (qa_lead hi hc hn hin b2)]
          dsimp only
          rw [qc_next hi' hc hn, qc_1 rfl, qc_ok (qc_t3 hi' hc hn), hrt, if_pos (show pq_b true = 1 from rfl), qc_ok (qc_t5 hi' hc hn), if_pos rfl, qc_0 hle, qc_ok (show fX0_note (nI n) mi fg (pq_w nt c (pq_c t a s)) wt (pq_fill wl5 0 (pq_ways nt fg c)) (nI c) 1 = _ from qa_note (v := 1) hc hn (by decide)), qc_ok (show fX0_note (nI n) mi fg (pq_w nt c (pq_c t a s)) wt (pq_fill wl5 0 (pq_ways nt fg c)) (nI c) 2 = _ from qa_note (v := 2) hc hn (by decide)), qc_ok (show fX0_note (nI n) mi fg (pq_w nt c (pq_c t a s)) wt (pq_fill wl5 0 (pq_ways nt fg c)) (nI c) 3 = _ from qa_note (v := 3) hc hn (by decide)), n1, n2, n3, pq_cI', if_pos b2.symm]
          exact ⟨_, _, _, rfl, hi'⟩
    · intro fg' nt' wl' hi'
      obtain ⟨wl6, f, g1, g2, g3, g4, g5⟩ := qc_436 (mi := mi) hi' hn hw n 14 0 wl' (fun _ => 0) (by omega) (by omega) rfl rfl rfl rfl
      have c1 : fX0_count (nI n) mi fg' nt' wt wl6 1 = some (.ok (f 0)) := by rw [g2]; exact qa_count (q := 1) hi' hn (by decide)
      have c3 : fX0_count (nI n) mi fg' nt' wt wl6 3 = some (.ok (f 1)) := by rw [g3]; exact qa_count (q := 3) hi' hn (by decide)
      have c5 : fX0_count (nI n) mi fg' nt' wt wl6 5 = some (.ok (f 2)) := by rw [g4]; exact qa_count (q := 5) hi' hn (by decide)
      have c4 : fX0_count (nI n) mi fg' nt' wt wl6 4 = some (.ok (f 3)) := by rw [g5]; exact qa_count (q := 4) hi' hn (by decide)
      have hm : fX0_mean (nI n) mi fg' nt' wt wl6 = some (if f 0 = 0 then FP.dconst0 else FP.ddiv (FP.i2d (f 2)) (FP.i2d (f 0))) := by
        rw [g2, g4]
        exact qa_mean hi' hn
      rw [show lpL_law_436 (nI n) mi wt (nI n) fg' nt' 14 0 wl' (fun _ => 0) = _ from g1, qc_3 rfl, pq_z0, pq_z1, pq_z2, qc_z3, qc_ok c1, if_pos rfl, qc_ok c3, if_pos rfl, qc_ok c5, if_pos rfl, qc_ok c4, if_pos rfl, qc_1 hm, pq_p1]
      have IH := ih m (k + 1) fg' nt' wl6 (by omega) (by omega) hi'
      by_cases h0 : f 0 = 0
      · rw [if_pos h0, if_pos h0, show (!fm_nan FP.dconst0 && decide (FP.dconst0 = FP.dconst0)) = true by rw [decide_eq_true rfl]; decide +kernel, pq_ck]
        exact IH
      · rw [if_neg h0, if_neg h0, fm_quot h0, decide_eq_true rfl]
        exact IH
end
