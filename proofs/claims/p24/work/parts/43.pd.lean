/-! Pure rows, 4: all the ways of a chord, and the best of them. -/
def pq_c (t a s : Nat) : Nat := t * 784 + a * 28 + s
def pq_lo (a l : Nat) : Nat := if a < l then l else a
theorem pq_loB (a l : Nat) : l ≤ pq_lo a l ∧ a ≤ pq_lo a l ∧ (pq_lo a l = l ∨ pq_lo a l = a) := by
  unfold pq_lo
  by_cases h : a < l
  · rw [if_pos h]; omega
  · rw [if_neg h]; omega
def pq_S (b f t a : Nat) : Nat → Nat → List Nat
  | 0, _ => []
  | m + 1, s => if pq_right (nI b) (nI t) (nI a) (nI s) (nI (pq_FIG f)) then pq_c t a s :: pq_S b f t a m (s + 1) else pq_S b f t a m (s + 1)
def pq_A (b f t : Nat) : Nat → Nat → List Nat
  | 0, _ => []
  | m + 1, a => if pq_bel f b a then pq_S b f t a (23 - pq_lo a 12) (pq_lo a 12) ++ pq_A b f t m (a + 1) else pq_A b f t m (a + 1)
def pq_T (b f : Nat) : Nat → Nat → List Nat
  | 0, _ => []
  | m + 1, t => if pq_bel f b t then pq_A b f t (19 - pq_lo t 8) (pq_lo t 8) ++ pq_T b f m (t + 1) else pq_T b f m (t + 1)
def pq_TR (b f : Nat) : List Nat := pq_T b f 10 5
def pq_inR (x : Nat) : Bool := decide (5 ≤ x / 784 ∧ x / 784 ≤ 14 ∧ 8 ≤ x / 28 % 28 ∧ x / 28 % 28 ≤ 18 ∧ 12 ≤ x % 28 ∧ x % 28 ≤ 22)
theorem pq_TRok : ∀ b, b < 14 → ∀ f, f < 6 → (pq_TR b f).length ≤ 96 ∧ (pq_TR b f).all pq_inR = true := by decide +kernel
theorem pq_S1 {b f t a m s : Nat} (h : pq_right (nI b) (nI t) (nI a) (nI s) (nI (pq_FIG f)) = true) : pq_S b f t a (m + 1) s = pq_c t a s :: pq_S b f t a m (s + 1) := if_pos h
theorem pq_S0 {b f t a m s : Nat} (h : pq_right (nI b) (nI t) (nI a) (nI s) (nI (pq_FIG f)) = false) : pq_S b f t a (m + 1) s = pq_S b f t a m (s + 1) := if_neg (by rw [h]; exact Bool.false_ne_true)
theorem pq_A1 {b f t m a : Nat} (h : pq_bel f b a = true) : pq_A b f t (m + 1) a = pq_S b f t a (23 - pq_lo a 12) (pq_lo a 12) ++ pq_A b f t m (a + 1) := if_pos h
theorem pq_A0 {b f t m a : Nat} (h : pq_bel f b a = false) : pq_A b f t (m + 1) a = pq_A b f t m (a + 1) := if_neg (by rw [h]; exact Bool.false_ne_true)
theorem pq_T1 {b f m t : Nat} (h : pq_bel f b t = true) : pq_T b f (m + 1) t = pq_A b f t (19 - pq_lo t 8) (pq_lo t 8) ++ pq_T b f m (t + 1) := if_pos h
theorem pq_T0 {b f m t : Nat} (h : pq_bel f b t = false) : pq_T b f (m + 1) t = pq_T b f m (t + 1) := if_neg (by rw [h]; exact Bool.false_ne_true)
/-! the room for the ways -/
def pq_fill (wl : Nat → Int32) (k : Nat) : List Nat → Nat → Int32
  | [] => wl
  | x :: L => pq_fill (upd wl k (nI x)) (k + 1) L
theorem pq_fillA : ∀ (L M : List Nat) (wl : Nat → Int32) (k : Nat), pq_fill wl k (L ++ M) = pq_fill (pq_fill wl k L) (k + L.length) M := by
  intro L
  induction L with
  | nil => intro M wl k; rfl
  | cons x L ih =>
    intro M wl k
    show pq_fill (upd wl k (nI x)) (k + 1) (L ++ M) = pq_fill (pq_fill (upd wl k (nI x)) (k + 1) L) (k + (L.length + 1)) M
    rw [ih, show k + 1 + L.length = k + (L.length + 1) by omega]
theorem pq_fillN : ∀ (L : List Nat) (wl : Nat → Int32) (k j : Nat), j < k → pq_fill wl k L j = wl j := by
  intro L
  induction L with
  | nil => intro wl k j h; rfl
  | cons x L ih =>
    intro wl k j h
    show pq_fill (upd wl k (nI x)) (k + 1) L j = wl j
    rw [ih _ _ _ (by omega), pk_un (by omega)]
theorem pq_fillG : ∀ (L : List Nat) (wl : Nat → Int32) (k i : Nat) (h : i < L.length), pq_fill wl k L (k + i) = nI (L[i]) := by
  intro L
  induction L with
  | nil => intro wl k i h; exact absurd h (Nat.not_lt_zero _)
  | cons x L ih =>
    intro wl k i h
    show pq_fill (upd wl k (nI x)) (k + 1) L (k + i) = _
    cases i with
    | zero =>
      rw [pq_fillN _ _ _ _ (by omega), Nat.add_zero, pk_us]
      rfl
    | succ i =>
      rw [show k + (i + 1) = k + 1 + i by omega, ih _ _ i (by simp only [List.length_cons] at h; omega)]
      rfl
theorem pq_H1 : fb_tX0_HIGHEST (1 : Int32).toNatClampNeg = nI 14 := by decide +kernel
theorem pq_H2 : fb_tX0_HIGHEST (2 : Int32).toNatClampNeg = nI 18 := by decide +kernel
theorem pq_H3 : fb_tX0_HIGHEST (3 : Int32).toNatClampNeg = nI 22 := by decide +kernel
theorem pq_L1 : fb_tX0_LOWEST (1 : Int32).toNatClampNeg = nI 5 := by decide +kernel
theorem pq_L2 : fb_tX0_LOWEST (2 : Int32).toNatClampNeg = nI 8 := by decide +kernel
theorem pq_L3 : fb_tX0_LOWEST (3 : Int32).toNatClampNeg = nI 12 := by decide +kernel
theorem pq_loI {a l : Nat} (ha : a < 2 ^ 31) (hl : l < 2 ^ 31) : (if nI a < nI l then nI l else nI a) = nI (pq_lo a l) := by
  unfold pq_lo
  by_cases h : a < l
  · rw [if_pos (nI_lt h hl), if_pos h]
  · rw [if_neg (nI_nlt (by omega) ha), if_neg h]
theorem pq_cI (t a s : Nat) : ((nI t * 784) + (nI a * 28)) + nI s = nI (pq_c t a s) := by
  unfold pq_c
  rw [show (784 : Int32) = nI 784 from rfl, show (28 : Int32) = nI 28 from rfl, pk_mul, pk_mul, nI_add, nI_add]
section
variable {sz mi : Int32} {fg nt wt : Nat → Int32} {c b f : Nat}
theorem pq_sopL {t a : Nat} (hc : c < 12) (hb : b < 14) (hf : f < 6) (ht : t < 28) (ha : a < 28) (eb : nt (4 * c) = nI b) (ef : fg c = nI f) : ∀ (m n s k : Nat) (wl : Nat → Int32), s + m = 23 → m < n → k + (pq_S b f t a m s).length ≤ 96 → lpX0_listSopranos_15 (nI c) (nI t) (nI a) sz mi fg nt wt n (nI s) (nI k) wl = some (nI 23, nI (k + (pq_S b f t a m s).length), pq_fill wl k (pq_S b f t a m s)) := by
  intro m
  induction m with
  | zero =>
    intro n s k wl h1 h2 h3
    obtain ⟨n, rfl⟩ : ∃ z, n = z + 1 := ⟨n - 1, by omega⟩
    obtain rfl : s = 23 := by omega
    rw [lpX0_listSopranos_15.eq_2, pq_H3, if_pos (by decide)]
    rfl
  | succ m ih =>
    intro n s k wl h1 h2 h3
    obtain ⟨n, rfl⟩ : ∃ z, n = z + 1 := ⟨n - 1, by omega⟩
    rw [lpX0_listSopranos_15.eq_2, pq_H3, if_neg (nI_nlt (by omega) (by decide)), pq_rightW hc hb hf ht ha (show s < 28 by omega) eb ef]
    simp only [fb_b1]
    cases hr : pq_right (nI b) (nI t) (nI a) (nI s) (nI (pq_FIG f)) with
    | false =>
      rw [pq_S0 hr] at h3 ⊢
      rw [if_pos (show pq_b false = 0 from rfl)]
      simp only [fb_b2]
      rw [pq_p1]
      exact ih n (s + 1) k wl (by omega) (by omega) h3
    | true =>
      rw [pq_S1 hr] at h3 ⊢
      simp only [List.length_cons] at h3 ⊢
      rw [if_neg (show ¬ pq_b true = 0 by decide), if_neg (by exact nI_ge (a := k) (b := 96) (by omega) (by decide)), pq_ix (show k < 96 by omega) (by decide), pq_ck, pq_cl (by omega), pq_cI]
      simp only [fb_b2]
      rw [pq_p1, pq_p1, ih n (s + 1) (k + 1) _ (by omega) (by omega) (by omega), show k + 1 + (pq_S b f t a m (s + 1)).length = k + ((pq_S b f t a m (s + 1)).length + 1) by omega]
      rfl
theorem pq_sop {t a k : Nat} {wl : Nat → Int32} (hc : c < 12) (hb : b < 14) (hf : f < 6) (ht : t < 28) (ha : a < 19) (eb : nt (4 * c) = nI b) (ef : fg c = nI f) (h : k + (pq_S b f t a (23 - pq_lo a 12) (pq_lo a 12)).length ≤ 96) : fX0_listSopranos sz mi fg nt wt wl (nI c) (nI t) (nI a) (nI k) = some (nI (k + (pq_S b f t a (23 - pq_lo a 12) (pq_lo a 12)).length), pq_fill wl k (pq_S b f t a (23 - pq_lo a 12) (pq_lo a 12))) := by
  unfold fX0_listSopranos
  have hl := pq_loB a 12
  rw [pq_L3, pq_loI (by omega) (by decide), pq_sopL hc hb hf ht (by omega) eb ef (23 - pq_lo a 12) 14 (pq_lo a 12) k wl (by omega) (by omega) h]
  rfl
theorem pq_wayA {t : Nat} (hc : c < 12) (hb : b < 14) (hf : f < 6) (ht : t < 28) (eb : nt (4 * c) = nI b) (ef : fg c = nI f) : ∀ (m n a k : Nat) (wl : Nat → Int32), a + m = 19 → m < n → k + (pq_A b f t m a).length ≤ 96 → lpX0_listWays_37 (nI c) sz mi fg nt wt (nI t) n (nI a) (nI k) wl = some (nI 19, nI (k + (pq_A b f t m a).length), pq_fill wl k (pq_A b f t m a)) := by
  intro m
  induction m with
  | zero =>
    intro n a k wl h1 h2 h3
    obtain ⟨n, rfl⟩ : ∃ z, n = z + 1 := ⟨n - 1, by omega⟩
    obtain rfl : a = 19 := by omega
    rw [lpX0_listWays_37.eq_2, pq_H2, if_pos (by decide)]
    rfl
  | succ m ih =>
    intro n a k wl h1 h2 h3
    obtain ⟨n, rfl⟩ : ∃ z, n = z + 1 := ⟨n - 1, by omega⟩
    rw [lpX0_listWays_37.eq_2, pq_H2, if_neg (nI_nlt (by omega) (by decide)), pq_belongs hc hb hf (show a < 28 by omega) eb ef]
    simp only [fb_b1]
    cases hr : pq_bel f b a with
    | false =>
      rw [pq_A0 hr] at h3 ⊢
      rw [if_pos (show pq_b false = 0 from rfl)]
      simp only [fb_b2]
      rw [pq_p1]
      exact ih n (a + 1) k wl (by omega) (by omega) h3
    | true =>
      rw [pq_A1 hr] at h3 ⊢
      rw [List.length_append] at h3 ⊢
      rw [if_neg (show ¬ pq_b true = 0 by decide), pq_sop hc hb hf ht (by omega) eb ef (by omega)]
      simp only [fb_b2]
      rw [pq_p1, ih n (a + 1) _ _ (by omega) (by omega) (by omega), pq_fillA, Nat.add_assoc]
theorem pq_wayT (hc : c < 12) (hb : b < 14) (hf : f < 6) (eb : nt (4 * c) = nI b) (ef : fg c = nI f) : ∀ (m n t k : Nat) (wl : Nat → Int32), t + m = 15 → m < n → k + (pq_T b f m t).length ≤ 96 → lpX0_listWays_8 (nI c) sz mi fg nt wt n (nI t) (nI k) wl = some (nI 15, nI (k + (pq_T b f m t).length), pq_fill wl k (pq_T b f m t)) := by
  intro m
  induction m with
  | zero =>
    intro n t k wl h1 h2 h3
    obtain ⟨n, rfl⟩ : ∃ z, n = z + 1 := ⟨n - 1, by omega⟩
    obtain rfl : t = 15 := by omega
    rw [lpX0_listWays_8.eq_2, pq_H1, if_pos (by decide)]
    rfl
  | succ m ih =>
    intro n t k wl h1 h2 h3
    obtain ⟨n, rfl⟩ : ∃ z, n = z + 1 := ⟨n - 1, by omega⟩
    rw [lpX0_listWays_8.eq_2, pq_H1, if_neg (nI_nlt (by omega) (by decide)), pq_belongs hc hb hf (show t < 28 by omega) eb ef]
    simp only [fb_b1]
    cases hr : pq_bel f b t with
    | false =>
      rw [pq_T0 hr] at h3 ⊢
      rw [if_pos (show pq_b false = 0 from rfl)]
      simp only [fb_b2]
      rw [pq_p1]
      exact ih n (t + 1) k wl (by omega) (by omega) h3
    | true =>
      have hl := pq_loB t 8
      rw [pq_T1 hr] at h3 ⊢
      rw [List.length_append] at h3 ⊢
      rw [if_neg (show ¬ pq_b true = 0 by decide), pq_L2, pq_loI (by omega) (by decide), pq_wayA hc hb hf (by omega) eb ef (19 - pq_lo t 8) 14 (pq_lo t 8) k wl (by omega) (by omega) (by omega)]
      simp only [fb_b2, fb_b3]
      rw [pq_p1, ih n (t + 1) _ _ (by omega) (by omega) (by omega), pq_fillA, Nat.add_assoc]
theorem pq_listWays {wl : Nat → Int32} (hc : c < 12) (hb : b < 14) (hf : f < 6) (eb : nt (4 * c) = nI b) (ef : fg c = nI f) : fX0_listWays sz mi fg nt wt wl (nI c) = some (nI (pq_TR b f).length, pq_fill wl 0 (pq_TR b f)) := by
  unfold fX0_listWays
  rw [pq_L1, show lpX0_listWays_8 (nI c) sz mi fg nt wt 14 (nI 5) 0 wl = lpX0_listWays_8 (nI c) sz mi fg nt wt 14 (nI 5) (nI 0) wl from rfl, pq_wayT hc hb hf eb ef 10 14 5 0 wl rfl (by decide) (by rw [Nat.zero_add]; exact (pq_TRok b hb f hf).1), Nat.zero_add]
  rfl
end
