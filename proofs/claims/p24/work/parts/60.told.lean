/-! told: its contract (straight rows by wip/p24/hand.py). -/
def fm_SD (b L : Nat) (xs : Nat → Int32) (D : va_G) (Tr : va_W) : (Nat → Prop) → State → Heap → Prop := fun A U H => fb_sXT A U H ∧ (fb_sc b L xs A U H ∧ fm_rd D Tr A U H)
theorem fm_SDp (b L : Nat) (xs : Nat → Int32) (D : va_G) (Tr : va_W) : fb_SP (fm_SD b L xs D Tr) := fb_SP_and fb_sXTp (fb_SP_and (fb_scp b L xs) (fm_rdp D Tr))
def fm_qO (cI : ClassId) (D : va_G) (n : Nat) (A : Nat → Prop) : Array Value → State → Outcome → State → Prop := fun _ st oc t => (∃ (h0 qf qn qw ql : Nat) (mi : Int32) (fg nt wt wl : Nat → Int32), oc = .returned (some (.ref h0)) ∧ pq_inv n nt fg ∧ qb_wt wt ∧ fb_z mi = true ∧ va_P D vwCl (fb_wX0 cI h0 qf qn qw ql (nI n) mi fg nt wt wl) t.heap ∧ va_D A (fb_wX0 cI h0 qf qn qw ql (nI n) mi fg nt wt wl)) ∧ va_F A st t
theorem fm_app {D : va_G} {A : Nat → Prop} {ws w1 : va_W} {H H1 : Heap} (hP : va_P D vwCl ws H) (hD : va_D A ws) (hP1 : va_P D vwCl w1 H1) (hD1 : va_D (va_A [] H.size) w1) (hk : ∀ x : Nat, x < H.size → ¬ va_A [] H.size x → H1[x]? = H[x]?) (hA : ∀ q : Nat, H.size ≤ q → A q) : va_P D vwCl (ws ++ w1) H1 ∧ va_D A (ws ++ w1) := by
  refine ⟨(hP.kept (fun k x hx => hk x.1 ((hP k x hx).lt) (fun z => absurd (fm_nilA z) (Nat.not_le.mpr ((hP k x hx).lt))))).app hP1, hD.app (hD1.weaken (fun k x hx h => hA _ (fm_nilA h))) (fun i j x y hx hy e => ?_)⟩
  have h1 := (hP i x hx).lt
  have h2 := fm_nilA (hD1.2 j y hy)
  rw [e] at h1
  exact absurd h2 (Nat.not_le.mpr h1)
theorem fm_minor {xs : Nat → Int32} {L : Nat} (hL : L ≤ 260) : ∃ r, fL_isMinorOf xs L = some r ∧ fb_z r = true := by
  obtain ⟨x, ex⟩ := qc_cell (xs := xs) (L := L) (k := 15) hL (by decide)
  obtain ⟨j, -, ej⟩ := qc_below (xs := xs) (L := L) (n := 3) x (by decide) (by decide)
  unfold fL_isMinorOf
  rw [show fL_cell xs L 15 = _ from ex, qc_1 rfl, show fL_below xs L x 3 = _ from ej, qc_1 rfl]
  by_cases h : nI j = 0
  · rw [if_pos h]; exact ⟨1, rfl, by decide⟩
  · rw [if_neg h]; exact ⟨0, rfl, by decide⟩
theorem fm_weightsL {xs : Nat → Int32} {L : Nat} (hL : L ≤ 260) : ∀ (j m k : Nat) (f : Nat → Int32), j + k = 8 → j < m → qb_wt f → ∃ f', lpL_weightsOf_41 xs L m (nI k) f = some (nI 8, f') ∧ qb_wt f' := by
  intro j
  induction j with
  | zero =>
    intro m k f h1 h2 hf
    obtain ⟨m, rfl⟩ : ∃ z, m = z + 1 := ⟨m - 1, by omega⟩
    obtain rfl : k = 8 := by omega
    exact ⟨f, by rw [lpL_weightsOf_41.eq_2, if_pos (by decide)], hf⟩
  | succ j ih =>
    intro m k f h1 h2 hf
    obtain ⟨m, rfl⟩ : ∃ z, m = z + 1 := ⟨m - 1, by omega⟩
    obtain ⟨x, ex⟩ := qc_cell (xs := xs) (L := L) (k := 13) hL (by decide)
    obtain ⟨y, ey⟩ := qc_cell (xs := xs) (L := L) (k := 14) hL (by decide)
    obtain ⟨a, -, ea⟩ := qc_below (xs := xs) (L := L) (n := 3) (x >>> (((2 : Int32) * nI k) &&& 31)) (by decide) (by decide)
    obtain ⟨c, hc, ec⟩ := qc_below (xs := xs) (L := L) (n := 10) (y >>> (((2 : Int32) * nI k) &&& 31)) (by decide) (by decide)
    rw [lpL_weightsOf_41.eq_2, if_neg (by exact nI_ge (a := k) (b := 8) (by omega) (by decide)), show fL_cell xs L 13 = _ from ex, qc_1 rfl, show fL_below xs L (x >>> (((2 : Int32) * nI k) &&& 31)) 3 = _ from ea, qc_1 rfl, pq_p1]
    by_cases h : nI a = 0
    · rw [if_pos h, show fL_cell xs L 14 = _ from ey, qc_1 rfl, show fL_below xs L (y >>> (((2 : Int32) * nI k) &&& 31)) 10 = _ from ec, qc_1 rfl, pq_ix (show k < 8 by omega) (by decide), pq_ck, qc_1 rfl, pq_cl (by omega)]
      refine ih m (k + 1) _ (by omega) (by omega) (fun i hi => ?_)
      by_cases e : i = k
      · subst e; exact ⟨c, by omega, pk_us⟩
      · rw [pk_un e]; exact hf i hi
    · rw [if_neg h, qc_1 rfl]
      exact ih m (k + 1) f (by omega) (by omega) hf
theorem fm_weights {xs : Nat → Int32} {L : Nat} (hL : L ≤ 260) : ∃ f, fL_weightsOf xs L = some f ∧ qb_wt f := by
  unfold fL_weightsOf
  generalize hf : upd (upd (upd (upd (upd (upd (upd (upd (fun _ => 0) (0 : Int32).toNatClampNeg 2) (1 : Int32).toNatClampNeg 2) (2 : Int32).toNatClampNeg 2) (3 : Int32).toNatClampNeg 2) (4 : Int32).toNatClampNeg 2) (5 : Int32).toNatClampNeg 2) (6 : Int32).toNatClampNeg 2) (7 : Int32).toNatClampNeg 2 = f
  obtain ⟨f', e, hw⟩ := fm_weightsL (xs := xs) hL 8 14 0 f rfl (by decide) (fun i hi => by
    refine ⟨2, by decide, ?_⟩
    rw [← hf]
    rcases (show i = 0 ∨ i = 1 ∨ i = 2 ∨ i = 3 ∨ i = 4 ∨ i = 5 ∨ i = 6 ∨ i = 7 by omega) with rfl | rfl | rfl | rfl | rfl | rfl | rfl | rfl <;> decide)
  refine ⟨f', ?_, hw⟩
  rw [show lpL_weightsOf_41 xs L 14 0 f = _ from e]
  rfl
theorem qa_put2 {mi : Int32} {fg nt wt wl : Nat → Int32} {n c v : Nat} {x : Int32} (hc : c < n) (hn : n ≤ 12) (h1 : 1 ≤ v) (h3 : v ≤ 3) (hx : fm_nt v x) : fX0_put (nI n) mi fg nt wt wl (nI c) (nI v) x = some (.ok (nt (4 * c + v), upd nt (4 * c + v) x)) := by
  rcases hx with rfl | ⟨k, k1, k2, rfl⟩
  · exact qa_putN hc hn h1 h3
  · exact qa_put hc hn h1 h3 k1 k2
section FMK
variable {p : Program} {l : Launch} {e : Env} {R : Room} {s : State} {m : MethodId} {args : Array Value} {below : List Frame} {meth : Method} {c : Code} {H : Heap} {locs : List Loc} {cells slots mc ms : Nat} {Q : State → Prop}
variable {pc : Nat} {ls : Array Slot} {rest st0 : List Value} {a : Array Value} {A0 A1 : Nat → Prop} {H0 : Heap} {free : Addr → Prop} {D : va_G}
theorem fm_callK {μ ρ : Type} {v0 : ρ} {ov : ρ → Option Value} {w1 : ρ → va_W} {we : String × μ → va_W} (hr : vx_Run p l e R s m args below meth c H locs cells slots mc ms (F0 m pc ls st0) rest (fb_qT (.ok v0 : Except (String × μ) ρ) ov w1 D A1 a) (fb_xT (.ok v0 : Except (String × μ) ρ) we D A1) free) (hS : va_S A0 H0 H locs) (hA : ∀ q, q < H.size → A1 q → A0 q) (hf : ∀ q, free q → A0 q)
    (kk : ∀ (H1 : Heap) (locs1 : List Loc), va_P D vwCl (w1 v0) H1 → va_D A1 (w1 v0) → (∀ q : Nat, q < H.size → ¬ A1 q → H1[q]? = H[q]?) → va_S A0 H0 H1 locs1 → W p l e R s m args below meth c H1 locs1 (cells + mc) (slots + ms) Q (F0 m (pc + 3) ls ((ov v0).toList ++ rest))) : W p l e R s m args below meth c H locs cells slots Q (F0 m pc ls st0) :=
  fb_callT hr hS hA hf (fun x _ _ _ _ h _ _ _ _ _ _ _ => by cases h) (fun v H1 l1 h hp hd hk hs => by cases h; exact kk H1 l1 hp hd hk hs)
theorem fs_callX0 {cI : ClassId} {h0 : Nat} {sz mi : Int32} {fg nt wt wl : Nat → Int32} (hr : va_Run p l e R s m args below meth c H locs cells slots mc ms (F0 m pc ls st0) rest (fb_qX0i D cI h0 sz mi fg nt wt wl A1 a) free) (hS : va_S A0 H0 H locs) (hA : ∀ q, q < H.size → A1 q → A0 q) (hf : ∀ q, free q → A0 q)
    (kk : ∀ (qf qn qw ql : Nat) (H1 : Heap) (locs1 : List Loc), va_P D vwCl (fb_wX0 cI h0 qf qn qw ql sz mi fg nt wt wl) H1 → va_D A1 (fb_wX0 cI h0 qf qn qw ql sz mi fg nt wt wl) → (∀ x : Nat, x < H.size → ¬ A1 x → H1[x]? = H[x]?) → va_S A0 H0 H1 locs1 → W p l e R s m args below meth c H1 locs1 (cells + mc) (slots + ms) Q (F0 m (pc + 3) ls rest)) : W p l e R s m args below meth c H locs cells slots Q (F0 m pc ls st0) := by
  intro T hT X
  obtain ⟨v, st₀, t, T', L, h0, X', hL, e1, e2, ⟨⟨qf, qn, qw, ql, hv, hp, hd⟩, hz, hk⟩, st⟩ := hr T hT X
  cases hv
  rw [h0] at hz hk
  obtain ⟨t2, a1, b1⟩ := kk qf qn qw ql T'.heap (locs ++ L) (by rw [e1]; exact hp) hd (fun q h1 h2 => by rw [e1]; exact hk q h1 h2)
    ⟨Nat.le_trans hS.1 (by rw [e1]; exact hz), fun q h1 h2 => by rw [e1, hk q (Nat.lt_of_lt_of_le h1 hS.1) (fun z => h2 (hA q (Nat.lt_of_lt_of_le h1 hS.1) z))]; exact hS.2.1 q h1 h2, fun q hq => by
      rcases List.mem_append.mp hq with h | h
      · exact hS.2.2 q h
      · exact hf _ (hL q h)⟩ T' rfl X'
  exact ⟨t2, st t2 a1, b1⟩
end FMK
abbrev rmL_told : Room := { frames := 7, cells := 60, slots := 500, locals := 130 }
set_option maxHeartbeats 8000000 in
set_option maxRecDepth 100000 in
theorem metL_told (l : Launch) (hfl : l.stackTraces = false) (D : va_G) (cI cR : ClassId) (b L : Nat) (xs : Nat → Int32) (hL : L ≤ 260) (B0 : Nat) (qr n : Nat) (rs : fm_R) (hn7 : n ≤ 7) (hlen : rs.length = n) (hrs : ∀ r ∈ rs, fm_good r.2) (hz : Nat) : Met l yL_told wsL_told rmL_told (va_Pc [.ref b, .ref qr] (fb_pm D [(cI, .int), (cR, .array .int)] B0 (fm_SD b L xs D (fm_wT cI cR qr n rs)) [] hz)) (fm_qO cI D n (va_A [] hz)) 60 500 (va_A [] hz) := by
  refine Met.ofW (cc := cL_told) (maxL := 6) (ret := (some (.object "FiguredBass"))) (by decide) rfl ?_
  intro p e s m args below meth c s₁ B hml hv
  obtain ⟨rfl, hsz, ⟨hP, hK, hZ⟩, hD0, hAB⟩ := hv
  have hx := B.exec
  have hb := B.bytes
  have hr := B.returns
  have hts := atoms_spec (ws := wsL_told) B.pre
  have hown : s.vm.findClass RL = some m.cls := findClass_of_methodNamed B.named
  have hlocks := B.notSynchronized
  subst hsz
  have hD := hD0.self (sz := s.heap.size)
  generalize hAe : va_A [] s.heap.size = A at hD hAB ⊢
  have hA : ∀ q : Nat, s.heap.size ≤ q → A q := fun q h9 => by rw [← hAe]; exact Or.inr h9
  have hS : va_S A s.heap s.heap [] := va_S.rf
  have hP : va_P D vwCl ([] : va_W) s.heap := hP
  have hD : va_D A ([] : va_W) := hD
  have w_cl32 : (Cond.classLink RL 32 RX0) ∈ wsL_told := List.mem_of_getElem? (i := 1) rfl
  have w_i0 : (Cond.initialized RX0) ∈ wsL_told := List.mem_of_getElem? (i := 3) rfl
  have w_im : (Cond.instanceMethod yX0_init) ∈ wsL_told := List.mem_of_getElem? (i := 5) rfl
  have w_in0 : (Cond.instantiable RX0 6) ∈ wsL_told := List.mem_of_getElem? (i := 2) rfl
  have w_m34 : (Cond.methodLink RL 34 yX0_init) ∈ wsL_told := List.mem_of_getElem? (i := 4) rfl
  have hl := lv_entry ([.ref b, .ref qr]) (n := 6) (Nat.le_of_ble_eq_true rfl)
  rw [lg_entry_eq]
  generalize (lg_sl ([.ref b, .ref qr]) ++ List.replicate (6 - (lg_sl ([.ref b, .ref qr])).length) Slot.unset).toArray = ls at hl ⊢
  have hl : lv_has ls 6 [(0, .ref b), (1, .ref qr)] := hl
  have hK1 : va_K D vwCl [(cI, .int)] s := hK.sub [0] rfl
  have hin0 : ∀ w ∈ u_ws RX0 TX0 6, w ∈ wsL_told := fun _ h9 => List.mem_cons_of_mem _ (List.mem_append_left _ (List.mem_append_left _ (List.mem_append_left _ (List.mem_append_right _ (h9)))))
  have hT0 := hZ.2.2
  have hTk : ∀ (H : Heap) (locs : List Loc), va_S A s.heap H locs → va_P D vwCl (fm_wT cI cR qr n rs) H := fun H locs hS => hT0.1.kept (fun k x hx => hS.2.1 x.1 ((hT0.1 k x hx).lt) (fun z => hT0.2 k x hx (hAB _ z)))
  obtain ⟨wt0, hinit⟩ := qa_init
  obtain ⟨mi, hmin, hmz⟩ := fm_minor (xs := xs) hL
  obtain ⟨fo, hfo, hfw⟩ := fm_weights (xs := xs) hL
  suffices K : ∀ (H : Heap) (locs : List Loc), va_P D vwCl ([] : va_W) H → va_S A s.heap H locs → W p l e (headSpec wsL_told rmL_told).room s m ([.ref b, .ref qr] : List Value).toArray below meth c H locs 0 0 (MQ below (fm_qO cI D n A) ([.ref b, .ref qr] : List Value).toArray s 60 500 A) (F0 m 0 ls []) from K s.heap [] hP hS
  intro H locs hP hS
  refine va_new (ci := 0) (fs := [.int 0, .int 0, .null, .null, .null, .null]) (C := RX0) (T := TX0) (N := 6) hx hb hts hin0 tyX0 tyX0_ok hown (hts _ w_cl32) (hts _ w_in0) (hts _ w_i0) hK hP hD hS hA rfl (fun j hj => by rcases (show j = 0 ∨ j = 1 ∨ j = 2 ∨ j = 3 ∨ j = 4 ∨ j = 5 by omega) with rfl | rfl | rfl | rfl | rfl | rfl <;> rfl) (Nat.le_of_ble_eq_true rfl) (Nat.le_of_ble_eq_true rfl) dL_told_0 (fun h0 H hP hD hS => ?_)
  have hP : va_P D vwCl ([(h0, .inr (0, [.int 0, .int 0, .null, .null, .null, .null]))] : va_W) H := hP
  have hD : va_D A ([(h0, .inr (0, [.int 0, .int 0, .null, .null, .null, .null]))] : va_W) := hD
  refine lv_dup hx hb dL_told_3 rfl ?_
  have hFc := va_free (wc := ([(h0, .inr (0, [.int 0, .int 0, .null, .null, .null, .null]))] : va_W)) hD hS hA [0] rfl
  refine fs_callX0 (va_runI (As := []) (rest := [.ref h0]) ⟨hx, hb, hml, hown, hts⟩ (metX0_init l D cI h0 B0 H.size 0 0 (fun _ => 0) (fun _ => 0) wt0 (fun _ => 0) hinit) (cwI 0 hts gL_told_X0_init rfl rfl rfl (hts _ w_i0) (hts _ w_m34) (hts _ w_im) rfl (by decide +kernel) ⟨Nat.le_of_ble_eq_true rfl, Nat.le_of_ble_eq_true rfl⟩) (fb_preSM fb_sX0p hP hK1 hD hZ.1.1 hS hAB hA _) rfl rfl hl.1 rfl (lv_room (Nat.le_of_ble_eq_true rfl)) dL_told_4 ⟨Nat.le_of_ble_eq_true rfl, Nat.le_of_ble_eq_true rfl⟩) hS (fun q _ h => hFc q h) hFc (fun qf qn qw ql H1 locs hP1 hD1 hk1 hS => ?_)
  obtain ⟨hP, hD⟩ := va_join (wr := []) (w1 := fb_wX0 cI h0 qf qn qw ql 0 0 (fun _ => 0) (fun _ => 0) wt0 (fun _ => 0)) hP hD [0] [] rfl rfl (by decide) (by decide) hk1 hFc hP1 hD1
  generalize H1 = H at hP hS
  have hP : va_P D vwCl (fb_wX0 cI h0 qf qn qw ql 0 0 (fun _ => 0) (fun _ => 0) wt0 (fun _ => 0)) H := hP
  have hD : va_D A (fb_wX0 cI h0 qf qn qw ql 0 0 (fun _ => 0) (fun _ => 0) wt0 (fun _ => 0)) := hD
  refine lv_astore_n (lv' := [(2, .ref h0), (0, .ref b), (1, .ref qr)]) hx hb dL_told_7 rfl hl (by decide) rfl (fun ls hl => ?_)
  refine lv_aload_n hx hb dL_told_8 rfl (lv_at hl 0 rfl) ?_
  refine lv_aload_n hx hb dL_told_9 rfl (lv_at hl 1 rfl) ?_
  refine fb_callR (W.runS (As := [.ref b]) (rest := [.ref h0]) ⟨hx, hb, hml, hown, hts⟩ (metL_isMinorOf l b L xs B0 mi hmin) (va_cwS 1 hts gL_told_L_isMinorOf rfl rfl rfl (by decide +kernel) ⟨Nat.le_of_ble_eq_true rfl, Nat.le_of_ble_eq_true rfl⟩) (fb_preS (fb_scp b L xs) hZ.2.1 hS hAB _) rfl rfl hl.1 rfl (lv_room (Nat.le_of_ble_eq_true rfl)) dL_told_10 ⟨Nat.le_of_ble_eq_true rfl, Nat.le_of_ble_eq_true rfl⟩) ?_
  have hFc := va_free (wc := fb_wX0 cI h0 qf qn qw ql 0 0 (fun _ => 0) (fun _ => 0) wt0 (fun _ => 0)) hD hS hA [0, 1, 2, 3, 4] rfl
  refine fb_callM (va_runV (As := [.int mi]) (rest := []) ⟨hx, hb, hml, hown, hts⟩ (metX0_setKey l D cI h0 qf qn qw ql B0 0 0 (fun _ => 0) (fun _ => 0) wt0 (fun _ => 0) mi H.size 0 mi (qa_setKey hmz (by decide))) (cwV 1 hts gL_told_X0_setKey rfl rfl rfl (by decide +kernel) ⟨Nat.le_of_ble_eq_true rfl, Nat.le_of_ble_eq_true rfl⟩) (fb_preVM (ci := 0) fb_sX0p hP hK1 hD hZ.1.1 hS hAB hA rfl rfl _) rfl rfl hl.1 rfl (lv_room (Nat.le_of_ble_eq_true rfl)) dL_told_13 ⟨Nat.le_of_ble_eq_true rfl, Nat.le_of_ble_eq_true rfl⟩) hS (fun q _ h9 => hFc q h9) hFc (fun _ H1 locs hP1 hD1 hz1 hk1 hS => ?_)
  obtain ⟨hP, hD⟩ := va_join (wr := []) (w1 := fb_wX0 cI h0 qf qn qw ql 0 mi (fun _ => 0) (fun _ => 0) wt0 (fun _ => 0)) hP hD [0, 1, 2, 3, 4] [] rfl rfl (by decide) (by decide) hk1 hFc hP1 hD1
  generalize H1 = H at hP hS
  have hP : va_P D vwCl (fb_wX0 cI h0 qf qn qw ql 0 mi (fun _ => 0) (fun _ => 0) wt0 (fun _ => 0)) H := hP
  have hD : va_D A (fb_wX0 cI h0 qf qn qw ql 0 mi (fun _ => 0) (fun _ => 0) wt0 (fun _ => 0)) := hD
  refine lv_pop hx hb dL_told_16 rfl ?_
  refine lv_aload_n hx hb dL_told_17 rfl (lv_at hl 1 rfl) ?_
  have hA2 : ∀ q : Nat, H.size ≤ q → A q := fun q h9 => hA q (Nat.le_trans hS.1 h9)
  refine fb_callM (va_runS (As := [.ref b]) (rest := []) ⟨hx, hb, hml, hown, hts⟩ (metL_weightsOf l D cI b L xs B0 H.size fo hfo) (va_cwS 1 hts gL_told_L_weightsOf rfl rfl rfl (by decide +kernel) ⟨Nat.le_of_ble_eq_true rfl, Nat.le_of_ble_eq_true rfl⟩) (fb_preSM (fb_scp b L xs) fm_nil hK1 fm_nilD hZ.2.1 hS hAB hA _) rfl rfl hl.1 rfl (lv_room (Nat.le_of_ble_eq_true rfl)) dL_told_18 ⟨Nat.le_of_ble_eq_true rfl, Nat.le_of_ble_eq_true rfl⟩) hS (fun q _ h9 => hA q (Nat.le_trans hS.1 (fm_nilA h9))) (fun q h9 => hA q (Nat.le_trans hS.1 (fm_nilA h9))) (fun w3 H1 locs hP1 hD1 hz1 hk1 hS => ?_)
  obtain ⟨hP, hD⟩ := fm_app hP hD hP1 hD1 hk1 hA2
  generalize H1 = H at hP hS
  have hP : va_P D vwCl (fb_wX0 cI h0 qf qn qw ql 0 mi (fun _ => 0) (fun _ => 0) wt0 (fun _ => 0) ++ [(w3, .inl (cI, 8, .inl fo))]) H := hP
  have hD : va_D A (fb_wX0 cI h0 qf qn qw ql 0 mi (fun _ => 0) (fun _ => 0) wt0 (fun _ => 0) ++ [(w3, .inl (cI, 8, .inl fo))]) := hD
  refine lv_astore_n (lv' := [(3, .ref w3), (2, .ref h0), (0, .ref b), (1, .ref qr)]) hx hb dL_told_21 rfl hl (by decide) rfl (fun ls hl => ?_)
  refine lv_iconst (v := 0) hx hb dL_told_22 (by decide) ?_
  refine lv_istore (lv' := [(4, .int 0), (3, .ref w3), (2, .ref h0), (0, .ref b), (1, .ref qr)]) hx hb dL_told_23 hl (by decide) rfl (fun ls hl => ?_)
  have K49 : ∀ (wt : Nat → Int32), qb_wt wt → ∀ (H : Heap) (locs : List Loc), va_P D vwCl (fb_wX0 cI h0 qf qn qw ql 0 mi (fun _ => 0) (fun _ => 0) wt (fun _ => 0)) H → va_D A (fb_wX0 cI h0 qf qn qw ql 0 mi (fun _ => 0) (fun _ => 0) wt (fun _ => 0)) → va_S A s.heap H locs → ∀ ls : Array Slot, lv_has ls 6 [(2, .ref h0), (1, .ref qr), (0, .ref b)] → W p l e (headSpec wsL_told rmL_told).room s m ([.ref b, .ref qr] : List Value).toArray below meth c H locs 14 226 (MQ below (fm_qO cI D n A) ([.ref b, .ref qr] : List Value).toArray s 60 500 A) (F0 m 49 ls []) := by
    intro wt hw H locs hP hD hS ls hl
    refine lv_iconst (v := 0) hx hb dL_told_49 (by decide) ?_
    refine lv_istore (lv' := [(4, .int 0), (2, .ref h0), (1, .ref qr), (0, .ref b)]) hx hb dL_told_50 hl (by decide) rfl (fun ls hl => ?_)
    have LK : ∀ (i k : Nat) (fg nt : Nat → Int32), k + i = n → pq_inv k nt fg → ∀ (H : Heap) (locs : List Loc), va_P D vwCl (fb_wX0 cI h0 qf qn qw ql (nI k) mi fg nt wt (fun _ => 0)) H → va_D A (fb_wX0 cI h0 qf qn qw ql (nI k) mi fg nt wt (fun _ => 0)) → va_S A s.heap H locs → ∀ ls : Array Slot, lv_has ls 6 [(4, .int (nI k)), (2, .ref h0), (1, .ref qr), (0, .ref b)] → W p l e (headSpec wsL_told rmL_told).room s m ([.ref b, .ref qr] : List Value).toArray below meth c H locs (14 + k * 4) (226 + k * 24) (MQ below (fm_qO cI D n A) ([.ref b, .ref qr] : List Value).toArray s 60 500 A) (F0 m 52 ls []) := by
      intro i
      induction i with
      | zero =>
        intro k fg nt hk hi H locs hP hD hS ls hl
        refine lv_iload hx hb dL_told_52 (lv_at hl 0 rfl) ?_
        refine lv_aload_n hx hb dL_told_54 rfl (lv_at hl 2 rfl) ?_
        refine va_alen hx hb hK (hTk H locs hS) 0 1 rfl rfl (v := nI n) rfl dL_told_55 ?_
        refine lv_icmp_ge (tgt := 113) hx hb dL_told_56 (by decide) (fun c1 => ?_) (fun c1 => absurd (nI_le (show n ≤ k by omega) (by omega)) c1)
        refine lv_aload_n hx hb dL_told_113 rfl (lv_at hl 1 rfl) ?_
        obtain rfl : k = n := by omega
        refine W.widen (k := 60) (n := 500) (by omega) (by omega) ?_
        exact W.aret hx hb hr (Or.inl ⟨_, rfl⟩) (Or.inr ⟨_, rfl⟩) (fun t ht _ => ⟨⟨h0, qf, qn, qw, ql, mi, fg, nt, wt, (fun _ => 0), rfl, hi, hw, hmz, by rw [ht]; exact hP, hD⟩, hS.F ht⟩) hS.2.2 dL_told_114
      | succ i ih =>
        intro k fg nt hk hi H locs hP hD hS ls hl
        refine lv_iload hx hb dL_told_52 (lv_at hl 0 rfl) ?_
        refine lv_aload_n hx hb dL_told_54 rfl (lv_at hl 2 rfl) ?_
        refine va_alen hx hb hK (hTk H locs hS) 0 1 rfl rfl (v := nI n) rfl dL_told_55 ?_
        refine lv_icmp_ge (tgt := 113) hx hb dL_told_56 (by decide) (fun c1 => absurd c1 (nI_ge (show k < n by omega) (by omega))) (fun c1 => ?_)
        obtain ⟨r, hr9⟩ : ∃ r, rs[k]? = some r := ⟨_, List.getElem?_eq_getElem (show k < rs.length by omega)⟩
        have hgd := hrs r (List.mem_of_getElem? hr9)
        obtain ⟨⟨eb, heb, eb1⟩, ⟨ef, hef, ef1⟩, hev⟩ := id hgd
        refine lv_aload_n hx hb dL_told_59 rfl (lv_at hl 1 rfl) ?_
        refine lv_aload_n hx hb dL_told_60 rfl (lv_at hl 2 rfl) ?_
        refine lv_iload hx hb dL_told_61 (lv_at hl 0 rfl) ?_
        refine fm_aldR hx hb hK (hTk H locs hS) 0 1 rfl rfl (fb_ixin (pq_ix (show k < n by omega) (by omega))) (v := .ref r.1) (by rw [pq_cl (by omega)]; unfold fm_g; rw [hr9]; rfl) dL_told_63 ?_
        refine lv_iconst (v := 0) hx hb dL_told_64 (by decide) ?_
        refine va_iald hx hb hK (hTk H locs hS) (k + 1) 0 (by rw [List.getElem?_cons_succ]; exact fm_c_at hr9) rfl (fb_ixin (by decide)) dL_told_65 ?_
        rw [show r.2 (0 : Int32).toNatClampNeg = nI eb from eb1]
        refine lv_aload_n hx hb dL_told_66 rfl (lv_at hl 2 rfl) ?_
        refine lv_iload hx hb dL_told_67 (lv_at hl 0 rfl) ?_
        refine fm_aldR hx hb hK (hTk H locs hS) 0 1 rfl rfl (fb_ixin (pq_ix (show k < n by omega) (by omega))) (v := .ref r.1) (by rw [pq_cl (by omega)]; unfold fm_g; rw [hr9]; rfl) dL_told_69 ?_
        refine lv_iconst (v := 4) hx hb dL_told_70 (by decide) ?_
        refine va_iald hx hb hK (hTk H locs hS) (k + 1) 0 (by rw [List.getElem?_cons_succ]; exact fm_c_at hr9) rfl (fb_ixin (by decide)) dL_told_71 ?_
        rw [show r.2 (4 : Int32).toNatClampNeg = nI ef from ef1]
        have hFc := va_free (wc := fb_wX0 cI h0 qf qn qw ql (nI k) mi fg nt wt (fun _ => 0)) hD hS hA [0, 1, 2, 3, 4] rfl
        refine fm_callK (vx_runV (As := [.int (nI eb), .int (nI ef)]) (rest := []) ⟨hx, hb, hml, hown, hts⟩ (metX0_chord l hfl D cI h0 qf qn qw ql B0 (nI k) mi fg nt wt (fun _ => 0) (nI eb) (nI ef) H.size (.ok (nI k, nI (k + 1), upd fg k (nI ef), pq_p3 (upd nt (4 * k) (nI eb)) k (-1) (-1) (-1))) (qa_chord (by omega) heb hef)) (cwV 2 hts gL_told_X0_chord rfl rfl rfl (by decide +kernel) ⟨Nat.le_of_ble_eq_true rfl, Nat.le_of_ble_eq_true rfl⟩) (fb_preVM (ci := 0) fb_sXTp hP hK1 hD hZ.1 hS hAB hA rfl rfl _) rfl rfl hl.1 rfl (lv_room (Nat.le_of_ble_eq_true rfl)) dL_told_72 ⟨(show 14 + k * 4 + 1 ≤ 60 by omega), (show 226 + k * 24 + 6 ≤ 500 by omega)⟩) hS (fun q _ h9 => hFc q h9) hFc (fun H1 locs hP1 hD1 hk1 hS => ?_)
        obtain ⟨hP, hD⟩ := va_join (wr := []) (w1 := fb_wX0 cI h0 qf qn qw ql (nI (k + 1)) mi (upd fg k (nI ef)) (pq_p3 (upd nt (4 * k) (nI eb)) k (-1) (-1) (-1)) wt (fun _ => 0)) hP hD [0, 1, 2, 3, 4] [] rfl rfl (by decide) (by decide) hk1 hFc hP1 hD1
        have hP : va_P D vwCl (fb_wX0 cI h0 qf qn qw ql (nI (k + 1)) mi (upd fg k (nI ef)) (pq_p3 (upd nt (4 * k) (nI eb)) k (-1) (-1) (-1)) wt (fun _ => 0)) H1 := hP
        have hD : va_D A (fb_wX0 cI h0 qf qn qw ql (nI (k + 1)) mi (upd fg k (nI ef)) (pq_p3 (upd nt (4 * k) (nI eb)) k (-1) (-1) (-1)) wt (fun _ => 0)) := hD
        generalize H1 = H at hP hS
        have hi1 : pq_inv (k + 1) (pq_p3 (upd nt (4 * k) (nI eb)) k (-1) (-1) (-1)) (upd fg k (nI ef)) := pq_invN hi heb hef
        refine lv_pop hx hb dL_told_75 rfl ?_
        refine lv_iconst (v := 1) hx hb dL_told_76 (by decide) ?_
        refine lv_istore (lv' := [(5, .int 1), (4, .int (nI k)), (2, .ref h0), (1, .ref qr), (0, .ref b)]) hx hb dL_told_77 hl (by decide) rfl (fun ls hl => ?_)
        have LV : ∀ (j2 i2 : Nat) (nt : Nat → Int32), i2 + j2 = 3 → pq_inv (k + 1) nt (upd fg k (nI ef)) → ∀ (H : Heap) (locs : List Loc), va_P D vwCl (fb_wX0 cI h0 qf qn qw ql (nI (k + 1)) mi (upd fg k (nI ef)) nt wt (fun _ => 0)) H → va_D A (fb_wX0 cI h0 qf qn qw ql (nI (k + 1)) mi (upd fg k (nI ef)) nt wt (fun _ => 0)) → va_S A s.heap H locs → ∀ ls : Array Slot, lv_has ls 6 [(5, .int (nI (i2 + 1))), (4, .int (nI k)), (2, .ref h0), (1, .ref qr), (0, .ref b)] → W p l e (headSpec wsL_told rmL_told).room s m ([.ref b, .ref qr] : List Value).toArray below meth c H locs (14 + k * 4 + 1 + i2) (226 + k * 24 + 6 + i2 * 6) (MQ below (fm_qO cI D n A) ([.ref b, .ref qr] : List Value).toArray s 60 500 A) (F0 m 79 ls []) := by
          intro j2
          induction j2 with
          | zero =>
            intro i2 nt hi2 hi H locs hP hD hS ls hl
            refine lv_iload hx hb dL_told_79 (lv_at hl 0 rfl) ?_
            refine lv_iconst (v := 4) hx hb dL_told_81 (by decide) ?_
            refine lv_icmp_ge (tgt := 107) hx hb dL_told_82 (by decide) (fun c2 => ?_) (fun c2 => absurd (nI_le (a := 4) (b := i2 + 1) (by omega) (by omega)) c2)
            refine lv_iinc (v := (nI k) + 1) (lv' := [(4, .int ((nI k) + 1)), (5, .int (nI (i2 + 1))), (2, .ref h0), (1, .ref qr), (0, .ref b)]) hx hb dL_told_107 hl (k := 1) rfl rfl (by decide) rfl (fun ls hl => ?_)
            refine lv_goto (tgt := 52) hx hb dL_told_110 (by decide) ?_
            refine W.widen (k := 14 + (k + 1) * 4) (n := 226 + (k + 1) * 24) (by omega) (by omega) ?_
            exact ih (k + 1) (upd fg k (nI ef)) nt (by omega) hi H locs hP hD hS ls (lv_sub (by simpa only [pq_p1] using hl) [0, 2, 3, 4] rfl)
          | succ j2 ih2 =>
            intro i2 nt hi2 hi H locs hP hD hS ls hl
            refine lv_iload hx hb dL_told_79 (lv_at hl 0 rfl) ?_
            refine lv_iconst (v := 4) hx hb dL_told_81 (by decide) ?_
            refine lv_icmp_ge (tgt := 107) hx hb dL_told_82 (by decide) (fun c2 => absurd c2 (nI_ge (a := i2 + 1) (b := 4) (by omega) (by decide))) (fun c2 => ?_)
            refine lv_aload_n hx hb dL_told_85 rfl (lv_at hl 2 rfl) ?_
            refine lv_iload hx hb dL_told_86 (lv_at hl 1 rfl) ?_
            refine lv_iload hx hb dL_told_88 (lv_at hl 0 rfl) ?_
            refine lv_aload_n hx hb dL_told_90 rfl (lv_at hl 3 rfl) ?_
            refine lv_iload hx hb dL_told_91 (lv_at hl 1 rfl) ?_
            refine fm_aldR hx hb hK (hTk H locs hS) 0 1 rfl rfl (fb_ixin (pq_ix (show k < n by omega) (by omega))) (v := .ref r.1) (by rw [pq_cl (by omega)]; unfold fm_g; rw [hr9]; rfl) dL_told_93 ?_
            refine lv_iload hx hb dL_told_94 (lv_at hl 0 rfl) ?_
            refine va_iald hx hb hK (hTk H locs hS) (k + 1) 0 (by rw [List.getElem?_cons_succ]; exact fm_c_at hr9) rfl (fb_ixin (pq_ix (show i2 + 1 < 5 by omega) (by omega))) dL_told_96 ?_
            rw [pq_cl (show i2 + 1 < 2 ^ 31 by omega)]
            have hput := qa_put2 (mi := mi) (fg := upd fg k (nI ef)) (nt := nt) (wt := wt) (wl := fun _ => 0) (c := k) (n := k + 1) (v := i2 + 1) (x := r.2 (i2 + 1)) (by omega) (by omega) (by omega) (by omega) (hev (i2 + 1) (by omega) (by omega))
            have hFc := va_free (wc := fb_wX0 cI h0 qf qn qw ql (nI (k + 1)) mi (upd fg k (nI ef)) nt wt (fun _ => 0)) hD hS hA [0, 1, 2, 3, 4] rfl
            refine fm_callK (vx_runV (As := [.int (nI k), .int (nI (i2 + 1)), .int (r.2 (i2 + 1))]) (rest := []) ⟨hx, hb, hml, hown, hts⟩ (metX0_put l hfl D cI h0 qf qn qw ql B0 (nI (k + 1)) mi (upd fg k (nI ef)) nt wt (fun _ => 0) (nI k) (nI (i2 + 1)) (r.2 (i2 + 1)) H.size (.ok (nt (4 * k + (i2 + 1)), upd nt (4 * k + (i2 + 1)) (r.2 (i2 + 1)))) hput) (cwV 3 hts gL_told_X0_put rfl rfl rfl (by decide +kernel) ⟨Nat.le_of_ble_eq_true rfl, Nat.le_of_ble_eq_true rfl⟩) (fb_preVM (ci := 0) fb_sXTp hP hK1 hD hZ.1 hS hAB hA rfl rfl _) rfl rfl hl.1 rfl (lv_room (Nat.le_of_ble_eq_true rfl)) dL_told_97 ⟨(show 14 + k * 4 + 1 + i2 + 1 ≤ 60 by omega), (show 226 + k * 24 + 6 + i2 * 6 + 6 ≤ 500 by omega)⟩) hS (fun q _ h9 => hFc q h9) hFc (fun H1 locs hP1 hD1 hk1 hS => ?_)
            obtain ⟨hP, hD⟩ := va_join (wr := []) (w1 := fb_wX0 cI h0 qf qn qw ql (nI (k + 1)) mi (upd fg k (nI ef)) (upd nt (4 * k + (i2 + 1)) (r.2 (i2 + 1))) wt (fun _ => 0)) hP hD [0, 1, 2, 3, 4] [] rfl rfl (by decide) (by decide) hk1 hFc hP1 hD1
            have hP : va_P D vwCl (fb_wX0 cI h0 qf qn qw ql (nI (k + 1)) mi (upd fg k (nI ef)) (upd nt (4 * k + (i2 + 1)) (r.2 (i2 + 1))) wt (fun _ => 0)) H1 := hP
            have hD : va_D A (fb_wX0 cI h0 qf qn qw ql (nI (k + 1)) mi (upd fg k (nI ef)) (upd nt (4 * k + (i2 + 1)) (r.2 (i2 + 1))) wt (fun _ => 0)) := hD
            generalize H1 = H at hP hS
            refine lv_pop hx hb dL_told_100 rfl ?_
            refine lv_iinc (v := (nI (i2 + 1)) + 1) (lv' := [(5, .int ((nI (i2 + 1)) + 1)), (4, .int (nI k)), (2, .ref h0), (1, .ref qr), (0, .ref b)]) hx hb dL_told_101 hl (k := 0) rfl rfl (by decide) rfl (fun ls hl => ?_)
            refine lv_goto (tgt := 79) hx hb dL_told_104 (by decide) ?_
            refine W.widen (k := 14 + k * 4 + 1 + (i2 + 1)) (n := 226 + k * 24 + 6 + (i2 + 1) * 6) (by omega) (by omega) ?_
            exact ih2 (i2 + 1) _ (by omega) (pq_invV hi (by omega) (by omega) (hev (i2 + 1) (by omega) (by omega))) H locs hP hD hS ls (lv_sub (by simpa only [pq_p1] using hl) [0, 1, 2, 3, 4] rfl)
        exact LV 3 0 _ rfl hi1 H locs hP hD hS ls (lv_sub hl [0, 1, 2, 3, 4] rfl)
    exact LK n 0 (fun _ => 0) (fun _ => 0) (Nat.zero_add n) (fun c hc => absurd hc (Nat.not_lt_zero _)) H locs hP hD hS ls (lv_sub hl [0, 1, 2, 3] rfl)
  have LW : ∀ (i k : Nat) (wt : Nat → Int32), k + i = 8 → (∀ j, j < k → ∃ y, y ≤ 9 ∧ wt j = nI y) → ∀ (H : Heap) (locs : List Loc), va_P D vwCl (fb_wX0 cI h0 qf qn qw ql 0 mi (fun _ => 0) (fun _ => 0) wt (fun _ => 0) ++ [(w3, .inl (cI, 8, .inl fo))]) H → va_D A (fb_wX0 cI h0 qf qn qw ql 0 mi (fun _ => 0) (fun _ => 0) wt (fun _ => 0) ++ [(w3, .inl (cI, 8, .inl fo))]) → va_S A s.heap H locs → ∀ ls : Array Slot, lv_has ls 6 [(4, .int (nI k)), (3, .ref w3), (2, .ref h0), (1, .ref qr), (0, .ref b)] → W p l e (headSpec wsL_told rmL_told).room s m ([.ref b, .ref qr] : List Value).toArray below meth c H locs (6 + k) (178 + k * 6) (MQ below (fm_qO cI D n A) ([.ref b, .ref qr] : List Value).toArray s 60 500 A) (F0 m 25 ls []) := by
    intro i
    induction i with
    | zero =>
      intro k wt hk hw H locs hP hD hS ls hl
      refine lv_iload hx hb dL_told_25 (lv_at hl 0 rfl) ?_
      refine lv_bipush (v := 8) hx hb dL_told_27 (by decide) ?_
      refine lv_icmp_ge (tgt := 49) hx hb dL_told_29 (by decide) (fun c1 => ?_) (fun c1 => absurd (nI_le (a := 8) (b := k) (by omega) (by omega)) c1)
      refine W.widen (k := 14) (n := 226) (by omega) (by omega) ?_
      exact K49 wt (fun j hj => hw j (by omega)) H locs (hP.sub [0, 1, 2, 3, 4] rfl) (hD.sub [0, 1, 2, 3, 4] (by decide) rfl) hS ls (lv_sub hl [2, 3, 4] rfl)
    | succ i ih =>
      intro k wt hk hw H locs hP hD hS ls hl
      refine lv_iload hx hb dL_told_25 (lv_at hl 0 rfl) ?_
      refine lv_bipush (v := 8) hx hb dL_told_27 (by decide) ?_
      refine lv_icmp_ge (tgt := 49) hx hb dL_told_29 (by decide) (fun c1 => absurd c1 (nI_ge (a := k) (b := 8) (by omega) (by decide))) (fun c1 => ?_)
      refine lv_aload_n hx hb dL_told_32 rfl (lv_at hl 2 rfl) ?_
      refine lv_iload hx hb dL_told_33 (lv_at hl 0 rfl) ?_
      refine lv_aload_n hx hb dL_told_35 rfl (lv_at hl 1 rfl) ?_
      refine lv_iload hx hb dL_told_36 (lv_at hl 0 rfl) ?_
      obtain ⟨y, hy9, ey⟩ := hfw k (by omega)
      refine va_iald hx hb hK hP 5 0 rfl rfl (fb_ixin (pq_ix (show k < 8 by omega) (by decide))) dL_told_38 ?_
      rw [pq_cl (show k < 2 ^ 31 by omega), ey]
      have hPc : va_P D vwCl (fb_wX0 cI h0 qf qn qw ql 0 mi (fun _ => 0) (fun _ => 0) wt (fun _ => 0)) H := hP.sub [0, 1, 2, 3, 4] rfl
      have hDc : va_D A (fb_wX0 cI h0 qf qn qw ql 0 mi (fun _ => 0) (fun _ => 0) wt (fun _ => 0)) := hD.sub [0, 1, 2, 3, 4] (by decide) rfl
      have hFc := va_free (wc := fb_wX0 cI h0 qf qn qw ql 0 mi (fun _ => 0) (fun _ => 0) wt (fun _ => 0)) hD hS hA [0, 1, 2, 3, 4] rfl
      refine fm_callK (vx_runV (As := [.int (nI k), .int (nI y)]) (rest := []) ⟨hx, hb, hml, hown, hts⟩ (metX0_setWeight l hfl D cI h0 qf qn qw ql B0 0 mi (fun _ => 0) (fun _ => 0) wt (fun _ => 0) (nI k) (nI y) H.size (.ok (wt k, upd wt k (nI y))) (qa_setWeight (by omega) hy9)) (cwV 2 hts gL_told_X0_setWeight rfl rfl rfl (by decide +kernel) ⟨Nat.le_of_ble_eq_true rfl, Nat.le_of_ble_eq_true rfl⟩) (fb_preVM (ci := 0) fb_sXTp hPc hK1 hDc hZ.1 hS hAB hA rfl rfl _) rfl rfl hl.1 rfl (lv_room (Nat.le_of_ble_eq_true rfl)) dL_told_39 ⟨(show 6 + k + 1 ≤ 60 by omega), (show 178 + k * 6 + 6 ≤ 500 by omega)⟩) hS (fun q _ h9 => hFc q h9) hFc (fun H1 locs hP1 hD1 hk1 hS => ?_)
      obtain ⟨hP, hD⟩ := va_join (wr := [(w3, .inl (cI, 8, .inl fo))]) (w1 := fb_wX0 cI h0 qf qn qw ql 0 mi (fun _ => 0) (fun _ => 0) (upd wt k (nI y)) (fun _ => 0)) hP hD [0, 1, 2, 3, 4] [5] rfl rfl (by decide) (by decide) hk1 hFc hP1 hD1
      have hP : va_P D vwCl (fb_wX0 cI h0 qf qn qw ql 0 mi (fun _ => 0) (fun _ => 0) (upd wt k (nI y)) (fun _ => 0) ++ [(w3, .inl (cI, 8, .inl fo))]) H1 := hP.sub [1, 2, 3, 4, 5, 0] rfl
      have hD : va_D A (fb_wX0 cI h0 qf qn qw ql 0 mi (fun _ => 0) (fun _ => 0) (upd wt k (nI y)) (fun _ => 0) ++ [(w3, .inl (cI, 8, .inl fo))]) := hD.sub [1, 2, 3, 4, 5, 0] (by decide) rfl
      generalize H1 = H at hP hS
      refine lv_pop hx hb dL_told_42 rfl ?_
      refine lv_iinc (v := (nI k) + 1) (lv' := [(4, .int ((nI k) + 1)), (3, .ref w3), (2, .ref h0), (1, .ref qr), (0, .ref b)]) hx hb dL_told_43 hl (k := 0) rfl rfl (by decide) rfl (fun ls hl => ?_)
      refine lv_goto (tgt := 25) hx hb dL_told_46 (by decide) ?_
      refine W.widen (k := 6 + (k + 1)) (n := 178 + (k + 1) * 6) (by omega) (by omega) ?_
      exact ih (k + 1) _ (by omega) (fun j hj => by
        by_cases e : j = k
        · subst e; exact ⟨y, hy9, pk_us⟩
        · rw [pk_un e]; exact hw j (by omega)) H locs hP hD hS ls (lv_sub (by simpa only [pq_p1] using hl) [0, 1, 2, 3, 4] rfl)
  exact LW 8 0 wt0 rfl (fun j hj => absurd hj (Nat.not_lt_zero _)) H locs hP hD hS ls (lv_sub hl [0, 1, 2, 4, 3] rfl)
