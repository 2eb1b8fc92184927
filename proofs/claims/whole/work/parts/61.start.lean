/-! The law, from its entry. -/
section FSC
variable {p : Program} {l : Launch} {e : Env} {R : Room} {s : State} {m : MethodId} {args : Array Value} {below : List Frame} {meth : Method} {c : Code} {H : Heap} {locs : List Loc} {cells slots mc ms : Nat} {Q : State → Prop}
variable {pc : Nat} {ls : Array Slot} {rest st0 : List Value} {a : Array Value} {A0 A1 : Nat → Prop} {H0 : Heap} {free : Addr → Prop} {D : va_G}
theorem fs_callX0 {cI : ClassId} {h0 : Nat} {sz mi : Int32} {fg nt wt wl : Nat → Int32} (hr : va_Run p l e R s m args below meth c H locs cells slots mc ms (F0 m pc ls st0) rest (fb_qX0i D cI h0 sz mi fg nt wt wl A1 a) free) (hS : va_S A0 H0 H locs) (hA : ∀ q, q < H.size → A1 q → A0 q) (hf : ∀ q, free q → A0 q)
    (kk : ∀ (qf qn qw ql : Nat) (H1 : Heap) (locs1 : List Loc), va_P D vwCl (fb_wX0 cI h0 qf qn qw ql sz mi fg nt wt wl) H1 → va_D A1 (fb_wX0 cI h0 qf qn qw ql sz mi fg nt wt wl) → (∀ x : Nat, x < H.size → ¬ A1 x → H1[x]? = H[x]?) → va_S A0 H0 H1 locs1 → W p l e R s m args below meth c H1 locs1 (cells + mc) (slots + ms) Q (F0 m (pc + 3) ls rest)) : W p l e R s m args below meth c H locs cells slots Q (F0 m pc ls st0) := by
  intro T hT X
  obtain ⟨v, st₀, t, T', L, h0, X', hL, e1, e2, ⟨⟨qf, qn, qw, ql, hv, hp, hd⟩, hz, hk⟩, st⟩ := hr T hT X
  cases hv
  rw [h0] at hz hk
  obtain ⟨t2, a1, b1⟩ := kk qf qn qw ql T'.heap (locs ++ L) (by rw [e1]; exact hp) hd (fun q h1 h2 => by rw [e1]; exact hk q h1 h2)
    ⟨Nat.le_trans hS.1 (by rw [e1]; exact hz), fun q h1 h2 => by rw [e1, hk q (Nat.lt_of_lt_of_le h1 hS.1) (fun z => h2 (hA q (Nat.lt_of_lt_of_le h1 hS.1) z))]; exact hS.2.1 q h1 h2, fun q hq => by
      rcases List.mem_append.mp hq with h | h
      · exact hS.2.2 q h
      · exact hf _ (hL q h)⟩ T' rfl X'
  exact ⟨t2, st t2 a1, b1⟩
theorem fs_callX1 {cI : ClassId} {h0 : Nat} {th ch mi : Int32} {nt fg wt : Nat → Int32} (hr : va_Run p l e R s m args below meth c H locs cells slots mc ms (F0 m pc ls st0) rest (fb_qX1i D cI h0 th ch nt fg wt mi A1 a) free) (hS : va_S A0 H0 H locs) (hA : ∀ q, q < H.size → A1 q → A0 q) (hf : ∀ q, free q → A0 q)
    (kk : ∀ (qn qf qw : Nat) (H1 : Heap) (locs1 : List Loc), va_P D vwCl (fb_wX1 cI h0 qn qf qw th ch nt fg wt mi) H1 → va_D A1 (fb_wX1 cI h0 qn qf qw th ch nt fg wt mi) → (∀ x : Nat, x < H.size → ¬ A1 x → H1[x]? = H[x]?) → va_S A0 H0 H1 locs1 → W p l e R s m args below meth c H1 locs1 (cells + mc) (slots + ms) Q (F0 m (pc + 3) ls rest)) : W p l e R s m args below meth c H locs cells slots Q (F0 m pc ls st0) := by
  intro T hT X
  obtain ⟨v, st₀, t, T', L, h0, X', hL, e1, e2, ⟨⟨qn, qf, qw, hv, hp, hd⟩, hz, hk⟩, st⟩ := hr T hT X
  cases hv
  rw [h0] at hz hk
  obtain ⟨t2, a1, b1⟩ := kk qn qf qw T'.heap (locs ++ L) (by rw [e1]; exact hp) hd (fun q h1 h2 => by rw [e1]; exact hk q h1 h2)
    ⟨Nat.le_trans hS.1 (by rw [e1]; exact hz), fun q h1 h2 => by rw [e1, hk q (Nat.lt_of_lt_of_le h1 hS.1) (fun z => h2 (hA q (Nat.lt_of_lt_of_le h1 hS.1) z))]; exact hS.2.1 q h1 h2, fun q hq => by
      rcases List.mem_append.mp hq with h | h
      · exact hS.2.2 q h
      · exact hf _ (hL q h)⟩ T' rfl X'
  exact ⟨t2, st t2 a1, b1⟩
end FSC
set_option maxHeartbeats 8000000 in
set_option maxRecDepth 100000 in
theorem whole_start {p : Program} {e : Env} {s : State} {m : MethodId} {below : List Frame} {meth : Method} {c : Code} (l : Launch) (hflags : l.flags = flags0) {b L : Nat} {xs : Nat → Int32} (hL : L ≤ 2048) (C0 : lw_At p s m meth c b L xs) : W p l e room_1 s m #[Value.ref b] below meth c s.heap [] 0 0 (lw_Z below #[Value.ref b] s) (entryFrame m ([Value.ref b] : List Value).toArray 9) := by
  obtain ⟨hx, hb, hr, hml, hown, hts, hX, hbl, hlocks, hgv⟩ := id C0
  have hg : ∀ w ∈ fs_big, w.before #[Value.ref b] s = true := flat_of_before _ hgv
  have hfl : l.stackTraces = false := by
    unfold Launch.stackTraces
    rw [hflags]
    decide +kernel
  have hA : ∀ q : Nat, s.heap.size ≤ q → (fun q : Nat => s.heap.size ≤ q) q := fun _ h => h
  have hAB : ∀ q : Nat, (fun q : Nat => s.heap.size ≤ q) q → s.heap.size ≤ q := fun _ h => h
  obtain ⟨c0, iS0, hKn0⟩ := u_known (C := RX0) (T := TX0) (N := 6) (n := 6) hts inX0 (hts _ fs_in0)
  obtain ⟨c1, iS1, hKn1⟩ := u_known (C := RX1) (T := TX1) (N := 6) (n := 6) hts inX1 (hts _ fs_in1)
  obtain ⟨dC, dI, hKc⟩ : ∃ (dC : Nat → ClassId) (dI : Nat → Nat → Nat), ∀ (k : Nat) (q : vw_C), vwCl[k]? = some q → u_Kn s q.1 q.2.1 q.2.2 (dC k) (dI k) := by
    refine ⟨fun k => if k = 0 then c0 else c1, fun k => if k = 0 then iS0 else iS1, ?_⟩
    intro k q hq
    match k, hq with
    | 0, hq => cases hq; exact hKn0
    | 1, hq => cases hq; exact hKn1
    | k + 2, hq => simp [vwCl] at hq
  obtain ⟨cI, hI1, hI2⟩ := fs_arr (fun C h => by cases h) (hts _ fs_ai)
  obtain ⟨cJ, hJ1, hJ2⟩ := fs_arr (fun C h => by cases h) (hts _ fs_al)
  have hK : va_K (dC, dI) vwCl [(cI, .int), (cJ, .long)] s := by
    refine ⟨hKc, fun k q h => ?_⟩
    match k, h with
    | 0, h => cases h; exact ⟨hI1, hI2⟩
    | 1, h => cases h; exact ⟨hJ1, hJ2⟩
    | k + 2, h => simp at h
  have hK1 : va_K (dC, dI) vwCl [(cI, .int)] s := hK.sub [0] rfl
  have hZ0 : fb_sX0 (fun q => s.heap.size ≤ q) s s.heap := fs_X0 hts hg
  have hZY : fb_sX1 (fun q => s.heap.size ≤ q) s s.heap := fs_X1 hts hg
  have hZT : fb_sXT (fun q => s.heap.size ≤ q) s s.heap := ⟨hZ0, fs_E hts hg⟩
  have hS : va_S (fun q : Nat => s.heap.size ≤ q) s.heap s.heap [] := va_S.rf
  have hP : va_P (dC, dI) vwCl [] s.heap := fun k q h => by simp at h
  have hD : va_D (fun q : Nat => s.heap.size ≤ q) [] := ⟨fun i j p q h => by simp at h, fun k q h => by simp at h⟩
  have hl := lv_entry ([.ref b]) (n := 9) (Nat.le_of_ble_eq_true rfl)
  rw [lg_entry_eq]
  generalize (lg_sl ([.ref b]) ++ List.replicate (9 - (lg_sl ([.ref b])).length) Slot.unset).toArray = ls at hl ⊢
  have hl : lv_has ls 9 [(0, .ref b)] := hl
  refine va_new (ci := 0) (fs := [.int 0, .int 0, .null, .null, .null, .null]) (C := RX0) (T := TX0) (N := 6) hx hb hts inX0 tyX0 tyX0_ok hown (hts _ fs_cl0) (hts _ fs_in0) (hts _ fs_i0) hK hP hD hS hA rfl (fun j hj => by rcases (show j = 0 ∨ j = 1 ∨ j = 2 ∨ j = 3 ∨ j = 4 ∨ j = 5 by omega) with rfl | rfl | rfl | rfl | rfl | rfl <;> rfl) (Nat.le_of_ble_eq_true rfl) (Nat.le_of_ble_eq_true rfl) dL_law_0 (fun h0 H hP hD hS => ?_)
  have hP : va_P (dC, dI) vwCl [(h0, .inr (0, [.int 0, .int 0, .null, .null, .null, .null]))] H := hP
  have hD : va_D (fun q : Nat => s.heap.size ≤ q) [(h0, .inr (0, [.int 0, .int 0, .null, .null, .null, .null]))] := hD
  refine W.widen (k := 1) (n := 6) (by omega) (by omega) ?_
  refine lv_dup hx hb dL_law_3 rfl ?_
  have hFc := va_free (wc := [(h0, .inr (0, [.int 0, .int 0, .null, .null, .null, .null]))]) hD hS hA [0] rfl
  refine fs_callX0 (va_runI (As := []) (rest := [.ref h0]) ⟨hx, hb, hml, hown, hts⟩ (metX0_init l (dC, dI) cI h0 s.heap.size H.size 0 0 (fun _ => 0) (fun _ => 0) pq_wt0 (fun _ => 0) pq_init0) (cwI 0 hts (fun w h => ⟨wsL_law_in w (gL_law_X0_init w h).1, (gL_law_X0_init w h).2⟩) rfl rfl rfl (hts _ fs_i0) (hts (.methodLink RL 71 yX0_init) (by decide +kernel)) (hts (.instanceMethod yX0_init) (by decide +kernel)) rfl (by decide +kernel) ⟨Nat.le_of_ble_eq_true rfl, Nat.le_of_ble_eq_true rfl⟩) (fb_preSM fb_sX0p hP hK1 hD hZ0 hS hAB hA _) rfl rfl hl.1 rfl (lv_room (Nat.le_of_ble_eq_true rfl)) dL_law_4 ⟨Nat.le_of_ble_eq_true rfl, Nat.le_of_ble_eq_true rfl⟩) hS (fun q _ h => hFc q h) hFc (fun qf qn qw ql H1 locs hP1 hD1 hk1 hS => ?_)
  obtain ⟨hP, hD⟩ := va_join (wr := []) (w1 := fb_wX0 cI h0 qf qn qw ql 0 0 (fun _ => 0) (fun _ => 0) pq_wt0 (fun _ => 0)) hP hD [0] [] rfl rfl (by decide) (by decide) hk1 hFc hP1 hD1
  generalize H1 = H at hP hS
  have hP : va_P (dC, dI) vwCl (fb_wX0 cI h0 qf qn qw ql 0 0 (fun _ => 0) (fun _ => 0) pq_wt0 (fun _ => 0)) H := hP
  have hD : va_D (fun q : Nat => s.heap.size ≤ q) (fb_wX0 cI h0 qf qn qw ql 0 0 (fun _ => 0) (fun _ => 0) pq_wt0 (fun _ => 0)) := hD
  refine W.widen (k := 5) (n := 170) (by omega) (by omega) ?_
  refine lv_astore_n (lv' := [(1, .ref h0), (0, .ref b)]) hx hb dL_law_7 rfl hl (by decide) rfl (fun ls hl => ?_)
  refine va_new (ci := 1) (fs := [.int 0, .int 0, .null, .null, .null, .int 0]) (C := RX1) (T := TX1) (N := 6) hx hb hts inX1 tyX1 tyX1_ok hown (hts _ fs_cl1) (hts _ fs_in1) (hts _ fs_i1) hK hP hD hS hA rfl (fun j hj => by rcases (show j = 0 ∨ j = 1 ∨ j = 2 ∨ j = 3 ∨ j = 4 ∨ j = 5 by omega) with rfl | rfl | rfl | rfl | rfl | rfl <;> rfl) (Nat.le_of_ble_eq_true rfl) (Nat.le_of_ble_eq_true rfl) dL_law_8 (fun m0 H hP hD hS => ?_)
  have hP : va_P (dC, dI) vwCl (fb_wX0 cI h0 qf qn qw ql 0 0 (fun _ => 0) (fun _ => 0) pq_wt0 (fun _ => 0) ++ [(m0, .inr (1, [.int 0, .int 0, .null, .null, .null, .int 0]))]) H := hP
  have hD : va_D (fun q : Nat => s.heap.size ≤ q) (fb_wX0 cI h0 qf qn qw ql 0 0 (fun _ => 0) (fun _ => 0) pq_wt0 (fun _ => 0) ++ [(m0, .inr (1, [.int 0, .int 0, .null, .null, .null, .int 0]))]) := hD
  refine W.widen (k := 6) (n := 176) (by omega) (by omega) ?_
  refine lv_dup hx hb dL_law_11 rfl ?_
  have hPc : va_P (dC, dI) vwCl [(m0, .inr (1, [.int 0, .int 0, .null, .null, .null, .int 0]))] H := hP.sub [5] rfl
  have hDc : va_D (fun q : Nat => s.heap.size ≤ q) [(m0, .inr (1, [.int 0, .int 0, .null, .null, .null, .int 0]))] := hD.sub [5] (by decide) rfl
  have hFc := va_free (wc := [(m0, .inr (1, [.int 0, .int 0, .null, .null, .null, .int 0]))]) hD hS hA [5] rfl
  refine fs_callX1 (va_runI (As := []) (rest := [.ref m0]) ⟨hx, hb, hml, hown, hts⟩ (metX1_init l (dC, dI) cI m0 s.heap.size H.size 0 0 (fun _ => 0) (fun _ => 0) pq_wt0 0 pq_init1) (cwI 0 hts (fun w h => ⟨wsL_law_in w (gL_law_X1_init w h).1, (gL_law_X1_init w h).2⟩) rfl rfl rfl (hts _ fs_i1) (hts (.methodLink RL 74 yX1_init) (by decide +kernel)) (hts (.instanceMethod yX1_init) (by decide +kernel)) rfl (by decide +kernel) ⟨Nat.le_of_ble_eq_true rfl, Nat.le_of_ble_eq_true rfl⟩) (fb_preSM fb_sX1p hPc hK1 hDc hZY hS hAB hA _) rfl rfl hl.1 rfl (lv_room (Nat.le_of_ble_eq_true rfl)) dL_law_12 ⟨Nat.le_of_ble_eq_true rfl, Nat.le_of_ble_eq_true rfl⟩) hS (fun q _ h => hFc q h) hFc (fun pn pf pw H1 locs hP1 hD1 hk1 hS => ?_)
  obtain ⟨hP, hD⟩ := va_join (wr := fb_wX0 cI h0 qf qn qw ql 0 0 (fun _ => 0) (fun _ => 0) pq_wt0 (fun _ => 0)) (w1 := fb_wX1 cI m0 pn pf pw 0 0 (fun _ => 0) (fun _ => 0) pq_wt0 0) hP hD [5] [0, 1, 2, 3, 4] rfl rfl (by decide) (by decide) hk1 hFc hP1 hD1
  generalize H1 = H at hP hS
  have hP : va_P (dC, dI) vwCl (fb_wX0 cI h0 qf qn qw ql 0 0 (fun _ => 0) (fun _ => 0) pq_wt0 (fun _ => 0) ++ fb_wX1 cI m0 pn pf pw 0 0 (fun _ => 0) (fun _ => 0) pq_wt0 0) H := hP.sub [0, 1, 2, 3, 4, 5, 6, 7, 8] rfl
  have hD : va_D (fun q : Nat => s.heap.size ≤ q) (fb_wX0 cI h0 qf qn qw ql 0 0 (fun _ => 0) (fun _ => 0) pq_wt0 (fun _ => 0) ++ fb_wX1 cI m0 pn pf pw 0 0 (fun _ => 0) (fun _ => 0) pq_wt0 0) := hD.sub [0, 1, 2, 3, 4, 5, 6, 7, 8] (by decide) rfl
  refine W.widen (k := 9) (n := 244) (by omega) (by omega) ?_
  refine lv_astore_n (lv' := [(2, .ref m0), (1, .ref h0), (0, .ref b)]) hx hb dL_law_15 rfl hl (by decide) rfl (fun ls hl => ?_)
  refine lv_iconst (v := 1) hx hb dL_law_16 (by decide) ?_
  refine va_newa (atype := .long) hx hb (hts _ fs_al) (ty := .long) rfl hK hP hD hS hA (N' := 1) (a0 := (1, .inr (.inl (fun _ => 0)))) (fun _ => rfl) (by decide) (by decide) (by decide) (Nat.le_of_ble_eq_true rfl) (Nat.le_of_ble_eq_true rfl) dL_law_17 (fun qo cA H hK2 hP hD hS => ?_)
  have hcJ : cJ = cA := by
    have h1 := (hK2.2 1 _ rfl).2
    have h2 := (hK2.2 2 _ rfl).2
    exact Option.some.inj (h1.symm.trans h2)
  subst hcJ
  refine W.widen (k := 10) (n := 245) (by omega) (by omega) ?_
  refine lv_astore_n (lv' := [(3, .ref qo), (2, .ref m0), (1, .ref h0), (0, .ref b)]) hx hb dL_law_19 rfl hl (by decide) rfl (fun ls hl => ?_)
  refine lv_iconst (v := 0) hx hb dL_law_20 (by decide) ?_
  refine lv_istore (lv' := [(4, .int 0), (3, .ref qo), (2, .ref m0), (1, .ref h0), (0, .ref b)]) hx hb dL_law_21 hl (by decide) rfl (fun ls hl => ?_)
  refine W.base ?_
  exact law_loop h0 qf qn qw ql m0 pn pf pw qo hfl C0 rfl rfl hK hZT hZY 520 0 0 0 (fun _ => 0) (fun _ => 0) pq_wt0 (fun _ => 0) 0 0 (fun _ => 0) (fun _ => 0) pq_wt0 0 (fun _ => 0) (law_pure hL 520 0 0 0 (fun _ => 0) (fun _ => 0) pq_wt0 (fun _ => 0) 0 (fun _ => 0) (by omega) (by omega) (by omega) (by decide) (fun _ h => absurd h (Nat.not_lt_zero _))) 10 245 (by decide) (by decide) s.drawn (Drawn.sameBut.refl s.drawn lw_cs) H locs hP hD hS ls (lv_sub hl [4, 3, 2, 1, 0] rfl)
