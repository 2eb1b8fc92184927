/-! Pure rows, 11: the list of all ways holds the right ones alone, and all of them; the best is the least; bounds of faults, steps and costs. -/
theorem qb_figbit : ∀ f, f < 6 → ∀ i, i < 7 → ∀ j, j < 7 → ∀ k, k < 7 → (!(decide ((((1 : Int32) ||| ((1 : Int32) <<< (nI i &&& 31))) ||| ((1 : Int32) <<< (nI j &&& 31))) ||| ((1 : Int32) <<< (nI k &&& 31)) = nI (pq_FIG f))) || ((pq_FIG f).testBit i && ((pq_FIG f).testBit j && (pq_FIG f).testBit k))) = true := by decide +kernel
theorem qb_rbel {f b t a s : Nat} (hf : f < 6) (hb : b < 14) (ht : t < 28) (ha : a < 28) (hs : s < 28) (h : pq_right (nI b) (nI t) (nI a) (nI s) (nI (pq_FIG f)) = true) : pq_bel f b t = true ∧ pq_bel f b a = true ∧ pq_bel f b s = true ∧ b ≤ t ∧ t ≤ a ∧ a ≤ s := by
  unfold pq_right pq_bit at h
  rw [pq_step1 b hb t ht, pq_step1 b hb a ha, pq_step1 b hb s hs] at h
  simp only [Bool.and_eq_true, decide_eq_true_eq] at h
  obtain ⟨h1, h2, h3, h4⟩ := h
  have e := qb_figbit f hf _ (Nat.mod_lt (t + 21 - b) (by decide : 7 > 0)) _ (Nat.mod_lt (a + 21 - b) (by decide : 7 > 0)) _ (Nat.mod_lt (s + 21 - b) (by decide : 7 > 0))
  rw [decide_eq_true h4, Bool.not_true, Bool.false_or, Bool.and_eq_true, Bool.and_eq_true] at e
  rw [nI_ltI (by omega) (by omega)] at h1 h2 h3
  exact ⟨e.1, e.2.1, e.2.2, by omega, by omega, by omega⟩
theorem qb_memS {b f t a : Nat} {s : Nat} (h : pq_right (nI b) (nI t) (nI a) (nI s) (nI (pq_FIG f)) = true) : ∀ (m s0 : Nat), s0 ≤ s → s < s0 + m → pq_c t a s ∈ pq_S b f t a m s0 := by
  intro m
  induction m with
  | zero => intro s0 h1 h2; omega
  | succ m ih =>
    intro s0 h1 h2
    by_cases e : s0 = s
    · subst e
      rw [pq_S1 h]
      exact List.mem_cons_self
    · have g := ih (s0 + 1) (by omega) (by omega)
      cases hr : pq_right (nI b) (nI t) (nI a) (nI s0) (nI (pq_FIG f)) with
      | false => rw [pq_S0 hr]; exact g
      | true => rw [pq_S1 hr]; exact List.mem_cons_of_mem _ g
theorem qb_memA {b f t a x : Nat} (h : pq_bel f b a = true) (hx : x ∈ pq_S b f t a (23 - pq_lo a 12) (pq_lo a 12)) : ∀ (m a0 : Nat), a0 ≤ a → a < a0 + m → x ∈ pq_A b f t m a0 := by
  intro m
  induction m with
  | zero => intro a0 h1 h2; omega
  | succ m ih =>
    intro a0 h1 h2
    by_cases e : a0 = a
    · subst e
      rw [pq_A1 h]
      exact List.mem_append_left _ hx
    · have g := ih (a0 + 1) (by omega) (by omega)
      cases hr : pq_bel f b a0 with
      | false => rw [pq_A0 hr]; exact g
      | true => rw [pq_A1 hr]; exact List.mem_append_right _ g
theorem qb_memT {b f t x : Nat} (h : pq_bel f b t = true) (hx : x ∈ pq_A b f t (19 - pq_lo t 8) (pq_lo t 8)) : ∀ (m t0 : Nat), t0 ≤ t → t < t0 + m → x ∈ pq_T b f m t0 := by
  intro m
  induction m with
  | zero => intro t0 h1 h2; omega
  | succ m ih =>
    intro t0 h1 h2
    by_cases e : t0 = t
    · subst e
      rw [pq_T1 h]
      exact List.mem_append_left _ hx
    · have g := ih (t0 + 1) (by omega) (by omega)
      cases hr : pq_bel f b t0 with
      | false => rw [pq_T0 hr]; exact g
      | true => rw [pq_T1 hr]; exact List.mem_append_right _ g
theorem qb_mem {f b t a s : Nat} (hf : f < 6) (hb : b < 14) (t1 : 5 ≤ t) (t2 : t ≤ 14) (a1 : 8 ≤ a) (a2 : a ≤ 18) (s1 : 12 ≤ s) (s2 : s ≤ 22) (h : pq_right (nI b) (nI t) (nI a) (nI s) (nI (pq_FIG f)) = true) : pq_c t a s ∈ pq_TR b f := by
  obtain ⟨k1, k2, -, -, k4, k5⟩ := qb_rbel hf hb (by omega) (by omega) (by omega) h
  have l1 := pq_loB a 12
  have l2 := pq_loB t 8
  exact qb_memT k1 (qb_memA k2 (qb_memS h _ _ (by omega) (by omega)) _ _ (by omega) (by omega)) _ _ (by omega) (by omega)
theorem qb_invS {b f t a x : Nat} : ∀ (m s0 : Nat), x ∈ pq_S b f t a m s0 → ∃ s, s0 ≤ s ∧ s < s0 + m ∧ x = pq_c t a s ∧ pq_right (nI b) (nI t) (nI a) (nI s) (nI (pq_FIG f)) = true := by
  intro m
  induction m with
  | zero => intro s0 h; cases h
  | succ m ih =>
    intro s0 h
    have next : x ∈ pq_S b f t a m (s0 + 1) → ∃ s, s0 ≤ s ∧ s < s0 + (m + 1) ∧ x = pq_c t a s ∧ pq_right (nI b) (nI t) (nI a) (nI s) (nI (pq_FIG f)) = true := by
      intro h
      obtain ⟨s, g1, g2, g3⟩ := ih _ h
      exact ⟨s, by omega, by omega, g3⟩
    cases hr : pq_right (nI b) (nI t) (nI a) (nI s0) (nI (pq_FIG f)) with
    | false => rw [pq_S0 hr] at h; exact next h
    | true =>
      rw [pq_S1 hr] at h
      rcases List.mem_cons.mp h with h | h
      · exact ⟨s0, by omega, by omega, h, hr⟩
      · exact next h
theorem qb_invA {b f t x : Nat} : ∀ (m a0 : Nat), x ∈ pq_A b f t m a0 → ∃ a s, a0 ≤ a ∧ a < a0 + m ∧ pq_lo a 12 ≤ s ∧ s < pq_lo a 12 + (23 - pq_lo a 12) ∧ x = pq_c t a s ∧ pq_right (nI b) (nI t) (nI a) (nI s) (nI (pq_FIG f)) = true := by
  intro m
  induction m with
  | zero => intro a0 h; cases h
  | succ m ih =>
    intro a0 h
    have next : x ∈ pq_A b f t m (a0 + 1) → ∃ a s, a0 ≤ a ∧ a < a0 + (m + 1) ∧ pq_lo a 12 ≤ s ∧ s < pq_lo a 12 + (23 - pq_lo a 12) ∧ x = pq_c t a s ∧ pq_right (nI b) (nI t) (nI a) (nI s) (nI (pq_FIG f)) = true := by
      intro h
      obtain ⟨a, s, g1, g2, g3⟩ := ih _ h
      exact ⟨a, s, by omega, by omega, g3⟩
    cases hr : pq_bel f b a0 with
    | false => rw [pq_A0 hr] at h; exact next h
    | true =>
      rw [pq_A1 hr] at h
      rcases List.mem_append.mp h with h | h
      · obtain ⟨s, g1, g2, g3⟩ := qb_invS _ _ h
        exact ⟨a0, s, by omega, by omega, g1, g2, g3⟩
      · exact next h
theorem qb_invT {b f x : Nat} : ∀ (m t0 : Nat), x ∈ pq_T b f m t0 → ∃ t a s, t0 ≤ t ∧ t < t0 + m ∧ pq_lo t 8 ≤ a ∧ a < pq_lo t 8 + (19 - pq_lo t 8) ∧ pq_lo a 12 ≤ s ∧ s < pq_lo a 12 + (23 - pq_lo a 12) ∧ x = pq_c t a s ∧ pq_right (nI b) (nI t) (nI a) (nI s) (nI (pq_FIG f)) = true := by
  intro m
  induction m with
  | zero => intro t0 h; cases h
  | succ m ih =>
    intro t0 h
    have next : x ∈ pq_T b f m (t0 + 1) → ∃ t a s, t0 ≤ t ∧ t < t0 + (m + 1) ∧ pq_lo t 8 ≤ a ∧ a < pq_lo t 8 + (19 - pq_lo t 8) ∧ pq_lo a 12 ≤ s ∧ s < pq_lo a 12 + (23 - pq_lo a 12) ∧ x = pq_c t a s ∧ pq_right (nI b) (nI t) (nI a) (nI s) (nI (pq_FIG f)) = true := by
      intro h
      obtain ⟨t, a, s, g1, g2, g3⟩ := ih _ h
      exact ⟨t, a, s, by omega, by omega, g3⟩
    cases hr : pq_bel f b t0 with
    | false => rw [pq_T0 hr] at h; exact next h
    | true =>
      rw [pq_T1 hr] at h
      rcases List.mem_append.mp h with h | h
      · obtain ⟨a, s, g1, g2, g3⟩ := qb_invA _ _ h
        exact ⟨t0, a, s, by omega, by omega, g1, g2, g3⟩
      · exact next h
theorem qb_inv {f b x : Nat} (h : x ∈ pq_TR b f) : ∃ t a s, 5 ≤ t ∧ t ≤ 14 ∧ 8 ≤ a ∧ a ≤ 18 ∧ 12 ≤ s ∧ s ≤ 22 ∧ x = pq_c t a s ∧ pq_right (nI b) (nI t) (nI a) (nI s) (nI (pq_FIG f)) = true := by
  obtain ⟨t, a, s, g1, g2, g3, g4, g5, g6, g7, g8⟩ := qb_invT _ _ h
  have l1 := pq_loB a 12
  have l2 := pq_loB t 8
  exact ⟨t, a, s, by omega, by omega, by omega, by omega, by omega, by omega, g7, g8⟩
/-! the best of a list: one of it, and the least -/
def qb_bs (g : Nat → Int32) (L : List Nat) (p : Int32 × Int32) : Prop := (p.1 = -1 ∧ L = []) ∨ ∃ y, y ∈ L ∧ p.1 = nI y ∧ p.2 = g y ∧ ∀ x, x ∈ L → p.2 ≤ g x
theorem qb_fold {g : Nat → Int32} : ∀ (L M : List Nat) (p : Int32 × Int32), (∀ x, x ∈ L → x < 2 ^ 31) → (∀ x, x ∈ M → x < 2 ^ 31) → qb_bs g M p → qb_bs g (M ++ L) (L.foldl (pq_sW g) p) := by
  intro L
  induction L with
  | nil => intro M p _ _ h; rw [List.append_nil]; exact h
  | cons x L ih =>
    intro M p hL hM h
    rw [List.foldl_cons, show M ++ x :: L = (M ++ [x]) ++ L by simp]
    have hx : x < 2 ^ 31 := hL x List.mem_cons_self
    refine ih (M ++ [x]) _ (fun y hy => hL y (List.mem_cons_of_mem _ hy)) (fun y hy => ?_) ?_
    · rcases List.mem_append.mp hy with hy | hy
      · exact hM y hy
      · rw [List.mem_singleton.mp hy]; exact hx
    · rcases h with ⟨h1, h2⟩ | ⟨y, h1, h2, h3, h4⟩
      · rw [pq_sW1 h1]
        subst h2
        refine Or.inr ⟨x, by simp, rfl, rfl, fun z hz => ?_⟩
        have hz : z = x := by simpa using hz
        rw [hz]
        exact Int32.le_refl _
      · have hn : ¬ p.1 = -1 := by rw [h2]; exact pq_nIm (hM y h1)
        by_cases h5 : g x < p.2
        · rw [pq_sW2 hn h5]
          refine Or.inr ⟨x, by simp, rfl, rfl, fun z hz => ?_⟩
          rcases List.mem_append.mp hz with hz | hz
          · exact Int32.le_trans (Int32.le_of_lt h5) (h4 z hz)
          · rw [List.mem_singleton.mp hz]; exact Int32.le_refl _
        · rw [pq_sW3 hn h5]
          refine Or.inr ⟨y, List.mem_append_left _ h1, h2, h3, fun z hz => ?_⟩
          rcases List.mem_append.mp hz with hz | hz
          · exact h4 z hz
          · rw [List.mem_singleton.mp hz]; exact Int32.not_lt.mp h5
section
variable {mi : Int32} {fg nt wt : Nat → Int32} {n c : Nat}
theorem qb_best (h : pq_ok nt fg c) : qb_bs (pq_own n mi nt fg wt c) (pq_ways nt fg c) (pq_bst n mi nt fg wt c) := by
  have ho := (pq_waysOk h).2
  have hL : ∀ x, x ∈ pq_ways nt fg c → x < 2 ^ 31 := fun x hx => pq_inRlt (List.all_eq_true.mp ho x hx)
  have := qb_fold (g := pq_own n mi nt fg wt c) (pq_ways nt fg c) [] (-1, 0) hL (fun x hx => by cases hx) (Or.inl ⟨rfl, rfl⟩)
  rwa [List.nil_append] at this
/-- a right chord's own notes are a way -/
theorem qb_rt (h : pq_ok nt fg c) (hr : pq_rt nt fg c = true) : ∃ b f t a s, b < 14 ∧ f < 6 ∧ 5 ≤ t ∧ t ≤ 14 ∧ 8 ≤ a ∧ a ≤ 18 ∧ 12 ≤ s ∧ s ≤ 22 ∧ nt (4 * c) = nI b ∧ nt (4 * c + 1) = nI t ∧ nt (4 * c + 2) = nI a ∧ nt (4 * c + 3) = nI s ∧ fg c = nI f ∧ pq_right (nI b) (nI t) (nI a) (nI s) (nI (pq_FIG f)) = true ∧ pq_c t a s ∈ pq_ways nt fg c := by
  unfold pq_rt at hr
  rw [Bool.and_eq_true] at hr
  obtain ⟨b, t, a, s, f, hb, t1, t2, a1, a2, s1, s2, hf, eb, et, ea, es, ef⟩ := pq_notes h hr.1
  have h2 := hr.2
  rw [eb, et, ea, es, ef, pq_cl (by omega)] at h2
  refine ⟨b, f, t, a, s, hb, hf, t1, t2, a1, a2, s1, s2, eb, et, ea, es, ef, h2, ?_⟩
  unfold pq_ways
  rw [eb, ef, pq_cl (by omega), pq_cl (by omega)]
  exact qb_mem hf hb t1 t2 a1 a2 s1 s2 h2
theorem qb_wid {t a s : Nat} (ha : a < 28) (hs : s < 28) (et : nt (4 * c + 1) = nI t) (ea : nt (4 * c + 2) = nI a) (es : nt (4 * c + 3) = nI s) : pq_w nt c (pq_c t a s) = nt := by
  rw [pq_cW ha hs, ← et, ← ea, ← es, pq_p3id]
/-- a chord that a way was put to is right -/
theorem qb_put {y : Nat} (h : pq_ok nt fg c) (hy : y ∈ pq_ways nt fg c) : ∃ t a s, 5 ≤ t ∧ t ≤ 14 ∧ 8 ≤ a ∧ a ≤ 18 ∧ 12 ≤ s ∧ s ≤ 22 ∧ y = pq_c t a s ∧ pq_rt (pq_w nt c y) fg c = true ∧ pq_w nt c y (4 * c + 1) = nI t ∧ pq_w nt c y (4 * c + 2) = nI a ∧ pq_w nt c y (4 * c + 3) = nI s := by
  obtain ⟨b, f, hb, hf, eb, ef, e⟩ := pq_waysE h
  rw [e] at hy
  obtain ⟨t, a, s, t1, t2, a1, a2, s1, s2, rfl, hr⟩ := qb_inv hy
  have e0 : pq_w nt c (pq_c t a s) (4 * c) = nI b := by rw [pq_cW (by omega) (by omega), pq_p3o (by omega) (by omega) (by omega), eb]
  have e1 : pq_w nt c (pq_c t a s) (4 * c + 1) = nI t := by rw [pq_cW (by omega) (by omega), pq_p31]
  have e2 : pq_w nt c (pq_c t a s) (4 * c + 2) = nI a := by rw [pq_cW (by omega) (by omega), pq_p32]
  have e3 : pq_w nt c (pq_c t a s) (4 * c + 3) = nI s := by rw [pq_cW (by omega) (by omega), pq_p33]
  refine ⟨t, a, s, t1, t2, a1, a2, s1, s2, rfl, ?_, e1, e2, e3⟩
  unfold pq_rt pq_set
  rw [e0, e1, e2, e3, ef, pq_cl (by omega), hr, decide_eq_true (pq_nIm (k := t) (by omega)), decide_eq_true (pq_nIm (k := a) (by omega)), decide_eq_true (pq_nIm (k := s) (by omega))]
  rfl
/-! bounds -/
theorem qb_b (x : Bool) : ∃ k, k ≤ 1 ∧ pq_b x = nI k := by
  cases x
  · exact ⟨0, by decide, rfl⟩
  · exact ⟨1, by decide, rfl⟩
theorem qb_add {x y : Int32} {p q : Nat} (hx : ∃ k, k ≤ p ∧ x = nI k) (hy : ∃ k, k ≤ q ∧ y = nI k) : ∃ k, k ≤ p + q ∧ x + y = nI k := by
  obtain ⟨i, h1, rfl⟩ := hx
  obtain ⟨j, h2, rfl⟩ := hy
  exact ⟨i + j, by omega, nI_add i j⟩
theorem qb_0 : ∃ k, k ≤ 0 ∧ (0 : Int32) = nI k := ⟨0, Nat.le_refl _, rfl⟩
theorem qb_fo (k : Nat) : ∃ j, j ≤ 6 ∧ pq_fo mi nt fg c k = nI j := by
  unfold pq_fo
  cases pq_pair nt c with
  | false => exact ⟨0, by decide, rfl⟩
  | true =>
    have hp : ∀ d x, ∃ j, j ≤ 6 ∧ pq_parSum mi nt d x = nI j := fun d x => by
      unfold pq_parSum
      exact qb_add (qb_add (qb_add (qb_add (qb_add (qb_add qb_0 (qb_b _)) (qb_b _)) (qb_b _)) (qb_b _)) (qb_b _)) (qb_b _)
    rw [if_pos rfl]
    match k with
    | 0 => exact hp _ _
    | 1 => exact hp _ _
    | 2 =>
      obtain ⟨j, h1, h2⟩ := qb_b (pq_hid mi nt (c - 1))
      exact ⟨j, by omega, h2⟩
    | k + 3 =>
      obtain ⟨j, h1, h2⟩ : ∃ j, j ≤ 0 + 1 + 1 + 1 ∧ pq_fltS (k + 3) nt fg (c - 1) = nI j := by
        unfold pq_fltS
        exact qb_add (qb_add (qb_add qb_0 (qb_b _)) (qb_b _)) (qb_b _)
      exact ⟨j, by omega, h2⟩
def qb_wt (wt : Nat → Int32) : Prop := ∀ k, k < 8 → ∃ j, j ≤ 9 ∧ wt k = nI j
theorem qb_wsum (hw : qb_wt wt) {x0 : Nat} : ∀ k, k ≤ 8 → ∃ j, x0 ≤ j ∧ j ≤ x0 + 54 * k ∧ pq_wsum mi nt fg wt c k (nI x0) = nI j := by
  intro k
  induction k with
  | zero => intro _; exact ⟨x0, Nat.le_refl _, by omega, rfl⟩
  | succ k ih =>
    intro hk
    obtain ⟨j, h1, h2, h3⟩ := ih (by omega)
    obtain ⟨w, w1, w2⟩ := hw k (by omega)
    obtain ⟨o, o1, o2⟩ := qb_fo (mi := mi) (nt := nt) (fg := fg) (c := c) k
    have hm : w * o ≤ 54 := Nat.mul_le_mul w1 o1
    refine ⟨j + w * o, by omega, by omega, ?_⟩
    show pq_wsum mi nt fg wt c k (nI x0) + wt k * pq_fo mi nt fg c k = _
    rw [h3, w2, o2, pk_mul, nI_add]
theorem qb_absN : ∀ x, x < 28 → ∀ y, y < 28 → ∃ k, k ≤ 27 ∧ pq_abs (nI y - nI x) = nI k := by
  intro x hx y hy
  by_cases h : x ≤ y
  · refine ⟨y - x, by omega, ?_⟩
    rw [pk_sub h]
    unfold pq_abs
    rw [if_pos (nI_pos' (by omega))]
  · refine ⟨x - y, by omega, ?_⟩
    unfold pq_abs
    have h0 : ¬ 0 ≤ nI y - nI x := by rw [Int32.not_le]; exact pk_sneg (by omega) (by omega)
    rw [if_neg h0, ← pk_sub (show y ≤ x by omega)]
    rw [Int32.sub_eq_add_neg, Int32.neg_sub, Int32.zero_add]
theorem qb_stp (hi : pq_inv n nt fg) (hc : c < n) (hn : n ≤ 12) : ∃ k, k ≤ 81 ∧ pq_stp nt c = nI k := by
  unfold pq_stp
  cases hp : pq_pair nt c with
  | false => exact ⟨0, by decide, rfl⟩
  | true =>
    rw [if_pos rfl]
    obtain ⟨d, rfl⟩ : ∃ d, c = d + 1 := ⟨c - 1, by cases c with | zero => cases hp | succ d => rfl⟩
    obtain ⟨-, g1, g2, g3, g4⟩ := pq_twoOf hi hc hn hp
    have hg : ∀ v, v < 4 → ∃ k, k ≤ 27 ∧ pq_abs (pq_go nt d v) = nI k := fun v hv => by
      obtain ⟨x, hx, ex⟩ := pq_nv g1 g3 v hv
      obtain ⟨y, hy, ey⟩ := pq_nv g2 g4 v hv
      unfold pq_go
      rw [ex, ey]
      exact qb_absN x hx y hy
    obtain ⟨j, h1, h2⟩ := qb_add (qb_add (qb_add qb_0 (hg 1 (by decide))) (hg 2 (by decide))) (hg 3 (by decide))
    exact ⟨j, by omega, h2⟩
theorem qb_cost (hi : pq_inv n nt fg) (hc : c < n) (hn : n ≤ 12) (hw : qb_wt wt) : ¬ pq_cost mi nt fg wt c < pq_stp nt c := by
  obtain ⟨k, k1, k2⟩ := qb_stp hi hc hn
  unfold pq_cost
  cases hs : pq_set nt c with
  | false =>
    have : pq_stp nt c = 0 := by
      unfold pq_stp
      have hp : pq_pair nt c = false := by
        cases c with
        | zero => rfl
        | succ d => show (pq_set nt (d + 1) && pq_set nt d) = false; rw [hs]; rfl
      rw [hp]
      rfl
    rw [this]
    exact Int32.lt_irrefl
  | true =>
    rw [if_pos rfl, k2]
    obtain ⟨r, r1, r2⟩ : ∃ r, r ≤ 30 ∧ (if pq_rt nt fg c = true then (0 : Int32) else 30) = nI r := by
      cases pq_rt nt fg c
      · exact ⟨30, by decide, rfl⟩
      · exact ⟨0, by decide, rfl⟩
    rw [r2, nI_add]
    obtain ⟨j, j1, j2, j3⟩ := qb_wsum (mi := mi) (nt := nt) (fg := fg) (c := c) hw (x0 := r + k) 8 (by decide)
    rw [j3]
    exact nI_nlt (by omega) (by omega)
theorem qb_le32 : ¬ pq_b (pq_set nt c) < pq_b (pq_rt nt fg c) := by
  unfold pq_rt
  cases pq_set nt c with
  | false => show ¬ pq_b false < pq_b false; exact Int32.lt_irrefl
  | true => cases pq_right (nt (4 * c)) (nt (4 * c + 1)) (nt (4 * c + 2)) (nt (4 * c + 3)) (nI (pq_FIG (fg c).toNatClampNeg)) <;> decide
end
