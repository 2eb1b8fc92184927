/-! Pure rows, 6: the reference's way of leading. -/
def pq_f3 (x y z : Int32) : Nat → Int32 := upd (upd (upd (fun _ => 0) 0 x) 1 y) 2 z
theorem pq_f30 {x y z : Int32} : pq_f3 x y z 0 = x := by
  unfold pq_f3
  rw [pk_un (by decide), pk_un (by decide), pk_us]
theorem pq_f31 {x y z : Int32} : pq_f3 x y z 1 = y := by
  unfold pq_f3
  rw [pk_un (by decide), pk_us]
theorem pq_f32 {x y z : Int32} : pq_f3 x y z 2 = z := by
  unfold pq_f3
  rw [pk_us]
theorem pq_f3o {x y z : Int32} {j : Nat} (h : 3 ≤ j) : pq_f3 x y z j = 0 := by
  unfold pq_f3
  rw [pk_un (by omega), pk_un (by omega), pk_un (by omega)]
theorem pq_f3e {f : Nat → Int32} {x y z : Int32} (h0 : f 0 = x) (h1 : f 1 = y) (h2 : f 2 = z) (h3 : ∀ j, 3 ≤ j → f j = 0) : f = pq_f3 x y z := by
  funext j
  rcases (show j = 0 ∨ j = 1 ∨ j = 2 ∨ 3 ≤ j by omega) with rfl | rfl | rfl | h
  · rw [h0, pq_f30]
  · rw [h1, pq_f31]
  · rw [h2, pq_f32]
  · rw [h3 j h, pq_f3o h]
theorem pq_f3u2 {x y z w : Int32} : upd (pq_f3 x y z) 2 w = pq_f3 x y w := pq_f3e (by rw [pk_un (by decide), pq_f30]) (by rw [pk_un (by decide), pq_f31]) pk_us (fun j h => by rw [pk_un (by omega), pq_f3o h])
theorem pq_f3u0 {x y z w : Int32} : upd (pq_f3 x y z) 0 w = pq_f3 w y z := pq_f3e pk_us (by rw [pk_un (by decide), pq_f31]) (by rw [pk_un (by decide), pq_f32]) (fun j h => by rw [pk_un (by omega), pq_f3o h])
theorem pq_f3u1 {x y z w : Int32} : upd (pq_f3 x y z) 1 w = pq_f3 x w z := pq_f3e (by rw [pk_un (by decide), pq_f30]) pk_us (by rw [pk_un (by decide), pq_f32]) (fun j h => by rw [pk_un (by omega), pq_f3o h])
theorem pq_z0 : (0 : Int32).toNatClampNeg = 0 := by decide
theorem pq_z1 : (1 : Int32).toNatClampNeg = 1 := by decide
theorem pq_z2 : (2 : Int32).toNatClampNeg = 2 := by decide
theorem pq_H1' : fb_tX1_HIGH (1 : Int32).toNatClampNeg = nI 14 := by decide +kernel
theorem pq_H2' : fb_tX1_HIGH (2 : Int32).toNatClampNeg = nI 18 := by decide +kernel
theorem pq_H3' : fb_tX1_HIGH (3 : Int32).toNatClampNeg = nI 22 := by decide +kernel
theorem pq_L1' : fb_tX1_LOW (1 : Int32).toNatClampNeg = nI 5 := by decide +kernel
theorem pq_L2' : fb_tX1_LOW (2 : Int32).toNatClampNeg = nI 8 := by decide +kernel
theorem pq_L3' : fb_tX1_LOW (3 : Int32).toNatClampNeg = nI 12 := by decide +kernel
theorem pq_cI' (t a s : Nat) : (((784 : Int32) * nI t) + ((28 : Int32) * nI a)) + nI s = nI (pq_c t a s) := by
  rw [Int32.mul_comm, Int32.mul_comm 28, pq_cI]
theorem pq_cD {t a s : Nat} (ha : a < 28) (hs : s < 28) : pq_c t a s / 784 = t ∧ pq_c t a s / 28 % 28 = a ∧ pq_c t a s % 28 = s := by
  unfold pq_c
  omega
theorem pq_cW {nt : Nat → Int32} {c t a s : Nat} (ha : a < 28) (hs : s < 28) : pq_w nt c (pq_c t a s) = pq_p3 nt c (nI t) (nI a) (nI s) := by
  obtain ⟨e1, e2, e3⟩ := pq_cD (t := t) ha hs
  unfold pq_w
  rw [e1, e2, e3]
theorem pq_nIm {k : Nat} (h : k < 2 ^ 31) : ¬ nI k = -1 := by
  intro z
  have := nI_pos h
  rw [z] at this
  exact this (by decide)
section
variable {mi th : Int32} {fg nt wt : Nat → Int32} {n c b f : Nat}
theorem pq_ledS {t a : Nat} (hi : pq_inv n nt fg) (hc : c < n) (hn : n ≤ 12) (ht5 : 5 ≤ t) (ht : t < 15) (ha8 : 8 ≤ a) (ha : a < 19) (eb : nt (4 * c) = nI b) (ef : fg c = nI f) (hf : f < 6) : ∀ (m k s j : Nat) (p : Int32 × Int32) (nt' : Nat → Int32), s + m = 23 → 12 ≤ s → m < k → pq_aw nt nt' c → ∃ nt'', pq_aw nt nt'' c ∧ lpX1_led_144 (nI c) th (nI n) fg wt mi (nI t) (nI a) k (nI s) nt' (pq_f3 p.1 p.2 (nI j)) = some (nI 23, nt'', pq_f3 ((pq_S b f t a m s).foldl (pq_sW (pq_own n mi nt fg wt c)) p).1 ((pq_S b f t a m s).foldl (pq_sW (pq_own n mi nt fg wt c)) p).2 (nI (j + (pq_S b f t a m s).length))) := by
  intro m
  induction m with
  | zero =>
    intro k s j p nt' h1 h2 h3 h4
    obtain ⟨k, rfl⟩ : ∃ z, k = z + 1 := ⟨k - 1, by omega⟩
    obtain rfl : s = 23 := by omega
    refine ⟨nt', h4, ?_⟩
    rw [lpX1_led_144.eq_2, pq_H3', if_pos (by decide)]
    rfl
  | succ m ih =>
    intro k s j p nt' h1 h2 h3 h4
    obtain ⟨k, rfl⟩ : ∃ z, k = z + 1 := ⟨k - 1, by omega⟩
    have eW : pq_p3 nt' c (nI t) (nI a) (nI s) = pq_w nt c (pq_c t a s) := by rw [pq_cW (by omega) (by omega)]; exact pq_p3e h4
    have hR : pq_inR (pq_c t a s) = true := by
      obtain ⟨e1, e2, e3⟩ := pq_cD (t := t) (a := a) (s := s) (by omega) (by omega)
      unfold pq_inR
      rw [e1, e2, e3]
      exact decide_eq_true (by omega)
    have hiw : pq_inv n (pq_w nt c (pq_c t a s)) fg := pq_invW hi hR
    have w0 : pq_w nt c (pq_c t a s) (4 * c) = nI b := by rw [← eb]; exact pq_p3o (by omega) (by omega) (by omega)
    have w1 : pq_w nt c (pq_c t a s) (4 * c + 1) = nI t := by rw [pq_cW (by omega) (by omega), pq_p31]
    have w2 : pq_w nt c (pq_c t a s) (4 * c + 2) = nI a := by rw [pq_cW (by omega) (by omega), pq_p32]
    have w3 : pq_w nt c (pq_c t a s) (4 * c + 3) = nI s := by rw [pq_cW (by omega) (by omega), pq_p33]
    have hset : pq_set (pq_w nt c (pq_c t a s)) c = true := by
      unfold pq_set
      rw [w1, w2, w3, decide_eq_true (pq_nIm (k := t) (by omega)), decide_eq_true (pq_nIm (k := a) (by omega)), decide_eq_true (pq_nIm (k := s) (by omega))]
      rfl
    have er : fX1_isRight th (nI n) (pq_w nt c (pq_c t a s)) fg wt mi (nI c) = some (pq_b (pq_right (nI b) (nI t) (nI a) (nI s) (nI (pq_FIG f)))) := by
      rw [pq_isRight1 (by omega) (hiw c hc), hset, w0, w1, w2, w3, ef, pq_cl (by omega), Bool.true_and]
    rw [lpX1_led_144.eq_2, pq_H3', if_neg (nI_nlt (by omega) (by decide)), pq_let (by omega), eW]
    simp only [fb_b1]
    rw [er, pq_p1, pq_p1]
    simp only
    cases hr : pq_right (nI b) (nI t) (nI a) (nI s) (nI (pq_FIG f)) with
    | false =>
      rw [pq_S0 hr, if_pos (show pq_b false = 0 from rfl)]
      simp only
      exact ih k (s + 1) j p _ (by omega) (by omega) (by omega) (pq_awP _ _ _ _ _)
    | true =>
      obtain ⟨nt'', g1, g2⟩ := ih k (s + 1) (j + 1) (pq_sW (pq_own n mi nt fg wt c) p (pq_c t a s)) (pq_w nt c (pq_c t a s)) (by omega) (by omega) (by omega) (pq_awP _ _ _ _ _)
      refine ⟨nt'', g1, ?_⟩
      rw [pq_S1 hr, if_neg (show ¬ pq_b true = 0 by decide), pq_cost1 hiw hc hn]
      have eo : (if nI n ≤ nI (c + 1) then some (0 : Int32) else fb_b1 (fX1_cost th (nI n) (pq_w nt c (pq_c t a s)) fg wt mi (nI (c + 1))) (fun r => some r)) = some (if c + 1 < n then pq_cost mi (pq_w nt c (pq_c t a s)) fg wt (c + 1) else 0) := by
        by_cases h : c + 1 < n
        · rw [if_neg (nI_ge h (by omega)), if_pos h, pq_cost1 hiw h hn]
          rfl
        · rw [if_pos (nI_le (by omega) (by omega)), if_neg h]
      simp only [fb_b1] at eo
      simp only
      rw [eo]
      simp only
      rw [show (pq_cost mi (pq_w nt c (pq_c t a s)) fg wt c + if c + 1 < n then pq_cost mi (pq_w nt c (pq_c t a s)) fg wt (c + 1) else 0) = pq_own n mi nt fg wt c (pq_c t a s) from rfl]
      simp only [pq_z0, pq_z1, pq_z2, pq_f3u2, pq_f3u0, pq_f3u1, pq_f30, pq_f31, pq_f32, pq_cI', pq_p1]
      rw [List.foldl_cons, List.length_cons, show j + ((pq_S b f t a m (s + 1)).length + 1) = j + 1 + (pq_S b f t a m (s + 1)).length by omega, ← g2]
      by_cases k1 : p.1 = -1
      · rw [if_pos k1, pq_sW1 k1]
      · rw [if_neg k1]
        by_cases k2 : pq_own n mi nt fg wt c (pq_c t a s) < p.2
        · rw [if_pos k2, pq_sW2 k1 k2]
        · rw [if_neg k2, pq_sW3 k1 k2]
theorem pq_ledA {t : Nat} (hi : pq_inv n nt fg) (hc : c < n) (hn : n ≤ 12) (ht5 : 5 ≤ t) (ht : t < 15) (eb : nt (4 * c) = nI b) (hb : b < 14) (ef : fg c = nI f) (hf : f < 6) : ∀ (m k a j : Nat) (p : Int32 × Int32) (nt' : Nat → Int32), a + m = 19 → 8 ≤ a → m < k → pq_aw nt nt' c → ∃ nt'', pq_aw nt nt'' c ∧ lpX1_led_99 (nI c) th (nI n) fg wt mi (nI t) k (nI a) nt' (pq_f3 p.1 p.2 (nI j)) = some (nI 19, nt'', pq_f3 ((pq_A b f t m a).foldl (pq_sW (pq_own n mi nt fg wt c)) p).1 ((pq_A b f t m a).foldl (pq_sW (pq_own n mi nt fg wt c)) p).2 (nI (j + (pq_A b f t m a).length))) := by
  intro m
  induction m with
  | zero =>
    intro k a j p nt' h1 h2 h3 h4
    obtain ⟨k, rfl⟩ : ∃ z, k = z + 1 := ⟨k - 1, by omega⟩
    obtain rfl : a = 19 := by omega
    refine ⟨nt', h4, ?_⟩
    rw [lpX1_led_99.eq_2, pq_H2', if_pos (by decide)]
    rfl
  | succ m ih =>
    intro k a j p nt' h1 h2 h3 h4
    obtain ⟨k, rfl⟩ : ∃ z, k = z + 1 := ⟨k - 1, by omega⟩
    have eb' : nt' (4 * c) = nI b := by rw [← eb]; exact h4 _ (by omega) (by omega) (by omega)
    rw [lpX1_led_99.eq_2, pq_H2', if_neg (nI_nlt (by omega) (by decide)), pq_at0 (by omega), eb', pq_cl (by omega), ef]
    simp only [fb_b1]
    rw [pq_belongs1 hb hf (show a < 28 by omega), pq_p1]
    simp only
    cases hr : pq_bel f b a with
    | false =>
      rw [pq_A0 hr, if_pos (show pq_b false = 0 from rfl)]
      simp only [fb_b2]
      exact ih k (a + 1) j p nt' (by omega) (by omega) (by omega) h4
    | true =>
      have hl := pq_loB a 12
      rw [pq_A1 hr, if_neg (show ¬ pq_b true = 0 by decide), pq_L3', pq_loI (by omega) (by decide)]
      obtain ⟨nt1, g1, g2⟩ := pq_ledS (th := th) (mi := mi) (wt := wt) hi hc hn ht5 ht h2 (by omega) eb ef hf (23 - pq_lo a 12) 14 (pq_lo a 12) j p nt' (by omega) (by omega) (by omega) h4
      obtain ⟨nt2, g3, g4⟩ := ih k (a + 1) (j + (pq_S b f t a (23 - pq_lo a 12) (pq_lo a 12)).length) ((pq_S b f t a (23 - pq_lo a 12) (pq_lo a 12)).foldl (pq_sW (pq_own n mi nt fg wt c)) p) nt1 (by omega) (by omega) (by omega) g1
      refine ⟨nt2, g3, ?_⟩
      rw [g2]
      simp only [fb_b2, fb_b3]
      rw [List.foldl_append, List.length_append, ← Nat.add_assoc, ← g4]
theorem pq_ledT (hi : pq_inv n nt fg) (hc : c < n) (hn : n ≤ 12) (eb : nt (4 * c) = nI b) (hb : b < 14) (ef : fg c = nI f) (hf : f < 6) : ∀ (m k t j : Nat) (p : Int32 × Int32) (nt' : Nat → Int32), t + m = 15 → 5 ≤ t → m < k → pq_aw nt nt' c → ∃ nt'', pq_aw nt nt'' c ∧ lpX1_led_54 (nI c) th (nI n) fg wt mi k (nI t) nt' (pq_f3 p.1 p.2 (nI j)) = some (nI 15, nt'', pq_f3 ((pq_T b f m t).foldl (pq_sW (pq_own n mi nt fg wt c)) p).1 ((pq_T b f m t).foldl (pq_sW (pq_own n mi nt fg wt c)) p).2 (nI (j + (pq_T b f m t).length))) := by
  intro m
  induction m with
  | zero =>
    intro k t j p nt' h1 h2 h3 h4
    obtain ⟨k, rfl⟩ : ∃ z, k = z + 1 := ⟨k - 1, by omega⟩
    obtain rfl : t = 15 := by omega
    refine ⟨nt', h4, ?_⟩
    rw [lpX1_led_54.eq_2, pq_H1', if_pos (by decide)]
    rfl
  | succ m ih =>
    intro k t j p nt' h1 h2 h3 h4
    obtain ⟨k, rfl⟩ : ∃ z, k = z + 1 := ⟨k - 1, by omega⟩
    have eb' : nt' (4 * c) = nI b := by rw [← eb]; exact h4 _ (by omega) (by omega) (by omega)
    rw [lpX1_led_54.eq_2, pq_H1', if_neg (nI_nlt (by omega) (by decide)), pq_at0 (by omega), eb', pq_cl (by omega), ef, pq_ix (show c < 12 by omega) (by decide)]
    simp only [fb_b1, pq_ck]
    rw [pq_belongs1 hb hf (show t < 28 by omega), pq_p1]
    simp only
    cases hr : pq_bel f b t with
    | false =>
      rw [pq_T0 hr, if_pos (show pq_b false = 0 from rfl)]
      simp only [fb_b2]
      exact ih k (t + 1) j p nt' (by omega) (by omega) (by omega) h4
    | true =>
      have hl := pq_loB t 8
      rw [pq_T1 hr, if_neg (show ¬ pq_b true = 0 by decide), pq_L2', pq_loI (by omega) (by decide)]
      obtain ⟨nt1, g1, g2⟩ := pq_ledA (th := th) (mi := mi) (wt := wt) hi hc hn h2 (by omega) eb hb ef hf (19 - pq_lo t 8) 14 (pq_lo t 8) j p nt' (by omega) (by omega) (by omega) h4
      obtain ⟨nt2, g3, g4⟩ := ih k (t + 1) (j + (pq_A b f t (19 - pq_lo t 8) (pq_lo t 8)).length) ((pq_A b f t (19 - pq_lo t 8) (pq_lo t 8)).foldl (pq_sW (pq_own n mi nt fg wt c)) p) nt1 (by omega) (by omega) (by omega) g1
      refine ⟨nt2, g3, ?_⟩
      rw [g2]
      simp only [fb_b2, fb_b3]
      rw [List.foldl_append, List.length_append, ← Nat.add_assoc, ← g4]
theorem pq_led (hi : pq_inv n nt fg) (hc : c < n) (hn : n ≤ 12) : fX1_led th (nI n) nt fg wt mi (nI c) = some (nt, pq_f3 (pq_bst n mi nt fg wt c).1 (pq_bst n mi nt fg wt c).2 (nI (pq_ways nt fg c).length)) := by
  unfold fX1_led pq_bst
  obtain ⟨b, f, hb, hf, eb, ef, e⟩ := pq_waysE (hi c hc)
  rw [pq_at1 (by omega), pq_at2 (by omega), pq_at3 (by omega), pq_L1', e]
  obtain ⟨nt1, g1, g2⟩ := pq_ledT (th := th) (mi := mi) (wt := wt) hi hc hn eb hb ef hf 10 14 5 0 (-1, 0) nt rfl (by decide) (by decide) (fun _ _ _ _ => rfl)
  rw [Nat.zero_add] at g2
  simp only [fb_b1, pq_z0, pq_z1, pq_z2]
  rw [show (upd (upd (upd (fun _ => 0) 0 (-1)) 1 0) 2 0 : Nat → Int32) = pq_f3 (-1) 0 (nI 0) from rfl, g2]
  simp only [fb_b3]
  rw [show ∀ x y z : Int32, (upd (upd (upd (fun _ => 0) 0 x) 1 y) 2 z : Nat → Int32) = pq_f3 x y z from fun _ _ _ => rfl, pq_f30, pq_f31, pq_f32, pq_let (by omega), pq_p3e g1, pq_p3id]
  rfl
end
