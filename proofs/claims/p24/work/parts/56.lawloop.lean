/-! The law's loop walked, printed by wip/p24/lgen3.py. -/
set_option maxHeartbeats 40000000 in
set_option maxRecDepth 100000 in
theorem law_loop {p : Program} {l : Launch} {e : Env} {s0 : State} {m : MethodId} {below : List Frame} {meth : Method} {c : Code} {D : va_G} {cI : ClassId} {b L B0 : Nat} {xs : Nat → Int32} {A : Nat → Prop} (h0 qf qn qw ql : Nat) (v3 : Int32) (hfl : l.stackTraces = false) (C0 : lw_At p s0 m meth c b L xs) (hB0 : B0 = s0.heap.size) (hAd : A = fun q : Nat => s0.heap.size ≤ q) (hK0 : va_K D vwCl [(cI, .int)] s0) (hZT0 : fb_sXT (fun q => B0 ≤ q) s0 s0.heap) (hZ00 : fb_sc b L xs (fun q => B0 ≤ q) s0 s0.heap) :
    ∀ (n : Nat) (v4 : Int32) (sz : Int32) (mi : Int32) (fg : Nat → Int32) (nt : Nat → Int32) (wt : Nat → Int32) (wl : Nat → Int32), lpL_law_17 xs L v3 n v4 sz mi fg nt wt wl = some 1 → ∀ (ce sl : Nat), ce + n * 4000 ≤ 804873 → sl + n * 24000 ≤ 6686849 → ∀ (d0 : Drawn), s0.drawn.sameBut d0 lw_cs → ∀ (H : Heap) (locs : List Loc), va_P D vwCl (fb_wX0 cI h0 qf qn qw ql sz mi fg nt wt wl) H → va_D A (fb_wX0 cI h0 qf qn qw ql sz mi fg nt wt wl) → va_S A s0.heap H locs → ∀ (ls : Array Slot), lv_has ls 20 [(0, .ref b), (2, .ref h0), (3, .int v3), (4, .int v4)] → W p l e room_1 (s0.setDrawn d0) m #[Value.ref b] below meth c H locs ce sl (lw_Z below #[Value.ref b] s0) (F0 m 17 ls []) := by
  obtain ⟨hx, hb, hr, hml, hown0, hts9, hX0, hbl0, hlocks, -⟩ := C0
  have hts9 : ∀ w ∈ wsL_law, w.before #[Value.ref b] s0 = true := fun w h => hts9 w (wsL_law_in w h)
  have w_arr : (Cond.arrayClass .int) ∈ wsL_law := List.mem_of_getElem? (i := 0) rfl
  have hAB : ∀ q : Nat, A q → B0 ≤ q := by rw [hAd, hB0]; exact fun _ h9 => h9
  intro n
  induction n with
  | zero =>
    intro v4 sz mi fg nt wt wl h
    rw [lpL_law_17.eq_1] at h
    cases h
  | succ n ih =>
    intro v4 sz mi fg nt wt wl h ce sl hce hsl d0 hd0 H locs hP hD hS ls hl
    rw [lpL_law_17.eq_2] at h
    generalize hsd0 : s0.setDrawn d0 = s
    have hheap : s.heap = s0.heap := by rw [← hsd0]; exact rfl
    have hts : ∀ w ∈ wsL_law, w.before #[Value.ref b] s = true := by rw [← hsd0]; exact dr_words hts9 _
    have hK : va_K D vwCl [(cI, .int)] s := by rw [← hsd0]; exact hK0
    have hZT : fb_sXT (fun q => B0 ≤ q) s s.heap := by rw [← hsd0]; exact fb_sXTp.1 _ _ _ _ (State.WarmedH.refl _) hZT0
    have hZ0 := hZT.1
    have hZ : fb_sc b L xs (fun q => B0 ≤ q) s s.heap := by rw [← hsd0]; exact (fb_scp b L xs).1 _ _ _ _ (State.WarmedH.refl _) hZ00
    have hown : s.vm.findClass RL = some m.cls := by rw [← hsd0]; exact hown0
    have hA : ∀ q : Nat, s.heap.size ≤ q → A q := by rw [hAd, hheap]; exact fun _ h9 => h9
    have hS : va_S A s.heap H locs := by rw [← hsd0]; exact hS
    refine lv_iload hx hb dL_law_17 (lv_at hl 3 rfl) ?_
    refine lv_bipush (v := 16) hx hb dL_law_19 (by decide) ?_
    refine lv_icmp_ge (tgt := 714) hx hb dL_law_21 (by decide) (fun c1 => ?_) (fun c1 => ?_)
    · replace h := fb_it c1 h
      refine lv_iconst (v := 1) hx hb dL_law_714 (by decide) ?_
      refine va_forget (fun q hq => by have h9 := hAB _ (hS.2.2 q hq); rw [hB0] at h9; rw [hheap]; exact h9) ?_
      refine W.widen (k := 804873) (n := 6686849) (by omega) (by omega) ?_
      subst hsd0
      exact lw_ret hd0 hx hb hr hlocks dL_law_715
    · replace h := fb_ie c1 h
      refine lv_aload_n hx hb dL_law_24 rfl (lv_at hl 0 rfl) ?_
      refine lv_iload hx hb dL_law_25 (lv_at hl 3 rfl) ?_
      obtain ⟨r4, h3, h⟩ := fb_b1s h
      refine fb_callR (W.runS (As := [.ref b, .int v4]) (rest := []) ⟨hx, hb, hml, hown, hts⟩ (metL_cell l b L xs B0 v4 r4 h3) (va_cwS 2 hts gL_law_L_cell rfl rfl rfl (by decide +kernel) ⟨Nat.le_of_ble_eq_true rfl, Nat.le_of_ble_eq_true rfl⟩) (fb_preS (fb_scp b L xs) hZ hS hAB _) rfl rfl hl.1 rfl (lv_room (Nat.le_of_ble_eq_true rfl)) dL_law_27 ⟨(show ce + 0 + 0 ≤ 804873 by omega), (show sl + 0 + 0 ≤ 6686849 by omega)⟩) ?_
      refine lv_istore (lv' := [(5, .int r4), (0, .ref b), (2, .ref h0), (3, .int v3), (4, .int v4)]) hx hb dL_law_30 hl (by decide) rfl (fun ls hl => ?_)
      refine lv_iload hx hb dL_law_32 (lv_at hl 0 rfl) ?_
      refine lv_iconst (v := 2) hx hb dL_law_34 (by decide) ?_
      refine lv_ishr hx hb dL_law_35 ?_
      refine lv_iload_n hx hb dL_law_36 rfl (lv_at hl 3 rfl) ?_
      obtain ⟨r6, h5, h⟩ := fb_b1s h
      refine fb_callR (W.runS (As := [.int (r4 >>> ((2 : Int32) &&& 31)), .int v3]) (rest := []) ⟨hx, hb, hml, hown, hts⟩ (metL_below l b L xs B0 (r4 >>> ((2 : Int32) &&& 31)) v3 r6 h5) (va_cwS 2 hts gL_law_L_below rfl rfl rfl (by decide +kernel) ⟨Nat.le_of_ble_eq_true rfl, Nat.le_of_ble_eq_true rfl⟩) (fb_preS (fb_scp b L xs) hZ hS hAB _) rfl rfl hl.1 rfl (lv_room (Nat.le_of_ble_eq_true rfl)) dL_law_37 ⟨(show ce + 0 + 0 ≤ 804873 by omega), (show sl + 0 + 0 ≤ 6686849 by omega)⟩) ?_
      refine lv_istore (lv' := [(6, .int r6), (5, .int r4), (0, .ref b), (2, .ref h0), (3, .int v3), (4, .int v4)]) hx hb dL_law_40 hl (by decide) rfl (fun ls hl => ?_)
      refine lv_iconst (v := 1) hx hb dL_law_42 (by decide) ?_
      refine lv_iload hx hb dL_law_43 (lv_at hl 1 rfl) ?_
      refine lv_iconst (v := 4) hx hb dL_law_45 (by decide) ?_
      refine lv_ishr hx hb dL_law_46 ?_
      refine lv_iconst (v := 3) hx hb dL_law_47 (by decide) ?_
      obtain ⟨r8, h7, h⟩ := fb_b1s h
      refine fb_callR (W.runS (As := [.int (r4 >>> ((4 : Int32) &&& 31)), .int 3]) (rest := [.int 1]) ⟨hx, hb, hml, hown, hts⟩ (metL_below l b L xs B0 (r4 >>> ((4 : Int32) &&& 31)) 3 r8 h7) (va_cwS 2 hts gL_law_L_below rfl rfl rfl (by decide +kernel) ⟨Nat.le_of_ble_eq_true rfl, Nat.le_of_ble_eq_true rfl⟩) (fb_preS (fb_scp b L xs) hZ hS hAB _) rfl rfl hl.1 rfl (lv_room (Nat.le_of_ble_eq_true rfl)) dL_law_48 ⟨(show ce + 0 + 0 ≤ 804873 by omega), (show sl + 0 + 0 ≤ 6686849 by omega)⟩) ?_
      refine lv_iadd hx hb dL_law_51 ?_
      refine lv_istore (lv' := [(7, .int ((1 : Int32) + r8)), (6, .int r6), (5, .int r4), (0, .ref b), (2, .ref h0), (3, .int v3), (4, .int v4)]) hx hb dL_law_52 hl (by decide) rfl (fun ls hl => ?_)
      refine lv_bipush (v := 12) hx hb dL_law_54 (by decide) ?_
      refine lv_iload hx hb dL_law_56 (lv_at hl 2 rfl) ?_
      refine lv_bipush (v := 6) hx hb dL_law_58 (by decide) ?_
      refine lv_ishr hx hb dL_law_60 ?_
      refine lv_iconst (v := 3) hx hb dL_law_61 (by decide) ?_
      obtain ⟨r10, h9, h⟩ := fb_b1s h
      refine fb_callR (W.runS (As := [.int (r4 >>> ((6 : Int32) &&& 31)), .int 3]) (rest := [.int 12]) ⟨hx, hb, hml, hown, hts⟩ (metL_below l b L xs B0 (r4 >>> ((6 : Int32) &&& 31)) 3 r10 h9) (va_cwS 2 hts gL_law_L_below rfl rfl rfl (by decide +kernel) ⟨Nat.le_of_ble_eq_true rfl, Nat.le_of_ble_eq_true rfl⟩) (fb_preS (fb_scp b L xs) hZ hS hAB _) rfl rfl hl.1 rfl (lv_room (Nat.le_of_ble_eq_true rfl)) dL_law_62 ⟨(show ce + 0 + 0 ≤ 804873 by omega), (show sl + 0 + 0 ≤ 6686849 by omega)⟩) ?_
      refine lv_iadd hx hb dL_law_65 ?_
      refine lv_istore (lv' := [(8, .int ((12 : Int32) + r10)), (7, .int ((1 : Int32) + r8)), (6, .int r6), (5, .int r4), (0, .ref b), (2, .ref h0), (3, .int v3), (4, .int v4)]) hx hb dL_law_66 hl (by decide) rfl (fun ls hl => ?_)
      refine lv_aload_n hx hb dL_law_68 rfl (lv_at hl 5 rfl) ?_
      obtain ⟨r12, wl_13, h11, h⟩ := fb_b2s h
      have hPc : va_P D vwCl (fb_wX0 cI h0 qf qn qw ql sz mi fg nt wt wl) H := hP.sub [0, 1, 2, 3, 4] rfl
      have hDc : va_D A (fb_wX0 cI h0 qf qn qw ql sz mi fg nt wt wl) := hD.sub [0, 1, 2, 3, 4] (by decide) rfl
      have hFc := va_free (wc := fb_wX0 cI h0 qf qn qw ql sz mi fg nt wt wl) hD hS hA [0, 1, 2, 3, 4] rfl
      refine fb_callM (va_runV (As := []) (rest := []) ⟨hx, hb, hml, hown, hts⟩ (metX0_digest l D cI h0 qf qn qw ql B0 sz mi fg nt wt wl  H.size r12 wl_13 h11) (cwV 0 hts gL_law_X0_digest rfl rfl rfl (by decide +kernel) ⟨Nat.le_of_ble_eq_true rfl, Nat.le_of_ble_eq_true rfl⟩) (fb_preVM (ci := 0) fb_sX0p hPc hK hDc hZ0 hS hAB hA rfl rfl _) rfl rfl hl.1 rfl (lv_room (Nat.le_of_ble_eq_true rfl)) dL_law_69 ⟨(show ce + 0 + 0 ≤ 804873 by omega), (show sl + 0 + 0 ≤ 6686849 by omega)⟩) hS (fun q _ h9 => hFc q h9) hFc (fun _ H1 locs hP1 hD1 hz1 hk1 hS => ?_)
      obtain ⟨hP, hD⟩ := va_join (wr := []) (w1 := fb_wX0 cI h0 qf qn qw ql sz mi fg nt wt wl_13) hP hD [0, 1, 2, 3, 4] [] rfl rfl (by decide) (by decide) hk1 hFc hP1 hD1
      have hP : va_P D vwCl (fb_wX0 cI h0 qf qn qw ql sz mi fg nt wt wl_13) H1 := hP.sub [0, 1, 2, 3, 4] rfl
      have hD : va_D A (fb_wX0 cI h0 qf qn qw ql sz mi fg nt wt wl_13) := hD.sub [0, 1, 2, 3, 4] (by decide) rfl
      generalize H1 = H at hP hS
      refine lv_lstore (lv' := [(9, .long r12), (8, .int ((12 : Int32) + r10)), (7, .int ((1 : Int32) + r8)), (6, .int r6), (5, .int r4), (0, .ref b), (2, .ref h0), (3, .int v3), (4, .int v4)]) hx hb dL_law_72 hl (by decide) rfl (fun ls hl => ?_)
      refine lv_aload_n hx hb dL_law_74 rfl (lv_at hl 6 rfl) ?_
      refine lv_iload hx hb dL_law_75 (lv_at hl 3 rfl) ?_
      refine lv_iload hx hb dL_law_77 (lv_at hl 2 rfl) ?_
      refine lv_iload hx hb dL_law_79 (lv_at hl 1 rfl) ?_
      obtain ⟨re, h14, h⟩ := fb_b1s h
      have hPc : va_P D vwCl (fb_wX0 cI h0 qf qn qw ql sz mi fg nt wt wl_13) H := hP.sub [0, 1, 2, 3, 4] rfl
      have hDc : va_D A (fb_wX0 cI h0 qf qn qw ql sz mi fg nt wt wl_13) := hD.sub [0, 1, 2, 3, 4] (by decide) rfl
      have hFc := va_free (wc := fb_wX0 cI h0 qf qn qw ql sz mi fg nt wt wl_13) hD hS hA [0, 1, 2, 3, 4] rfl
      refine fb_callT (vx_runV (As := [.int r6, .int ((1 : Int32) + r8), .int ((12 : Int32) + r10)]) (rest := []) ⟨hx, hb, hml, hown, hts⟩ (metX0_would l hfl D cI h0 qf qn qw ql B0 sz mi fg nt wt wl_13 r6 ((1 : Int32) + r8) ((12 : Int32) + r10) H.size _ h14) (cwV 3 hts gL_law_X0_would rfl rfl rfl (by decide +kernel) ⟨Nat.le_of_ble_eq_true rfl, Nat.le_of_ble_eq_true rfl⟩) (fb_preVM (ci := 0) fb_sXTp hPc hK hDc hZT hS hAB hA rfl rfl _) rfl rfl hl.1 rfl (lv_room (Nat.le_of_ble_eq_true rfl)) dL_law_81 ⟨(show ce + 0 + 1 ≤ 804873 by omega), (show sl + 0 + 6 ≤ 6686849 by omega)⟩) hS (fun q _ h9 => hFc q h9) hFc (fun x9 ce9 q9 H1 locs hre _ _ _ _ _ _ _ => ?_) (fun v15 H1 locs hre hP1 hD1 hk1 hS => ?_)
      · replace h := fb_mter hre h
        cases h
      replace h := fb_mtok hre h
      clear hre h14
      obtain ⟨hP, hD⟩ := va_join (wr := []) (w1 := fb_wX0 cI h0 qf qn qw ql sz mi fg v15.2 wt wl_13) hP hD [0, 1, 2, 3, 4] [] rfl rfl (by decide) (by decide) hk1 hFc hP1 hD1
      have hP : va_P D vwCl (fb_wX0 cI h0 qf qn qw ql sz mi fg v15.2 wt wl_13) H1 := hP.sub [0, 1, 2, 3, 4] rfl
      have hD : va_D A (fb_wX0 cI h0 qf qn qw ql sz mi fg v15.2 wt wl_13) := hD.sub [0, 1, 2, 3, 4] (by decide) rfl
      generalize H1 = H at hP hS
      refine lv_istore (lv' := [(11, .int v15.1), (9, .long r12), (8, .int ((12 : Int32) + r10)), (7, .int ((1 : Int32) + r8)), (6, .int r6), (5, .int r4), (0, .ref b), (2, .ref h0), (3, .int v3), (4, .int v4)]) hx hb dL_law_84 hl (by decide) rfl (fun ls hl => ?_)
      refine lv_aload_n hx hb dL_law_86 rfl (lv_at hl 7 rfl) ?_
      refine lv_iload hx hb dL_law_87 (lv_at hl 4 rfl) ?_
      obtain ⟨re, h16, h⟩ := fb_b1s h
      have hPc : va_P D vwCl (fb_wX0 cI h0 qf qn qw ql sz mi fg v15.2 wt wl_13) H := hP.sub [0, 1, 2, 3, 4] rfl
      have hDc : va_D A (fb_wX0 cI h0 qf qn qw ql sz mi fg v15.2 wt wl_13) := hD.sub [0, 1, 2, 3, 4] (by decide) rfl
      have hFc := va_free (wc := fb_wX0 cI h0 qf qn qw ql sz mi fg v15.2 wt wl_13) hD hS hA [0, 1, 2, 3, 4] rfl
      refine fb_callT (vx_runV (As := [.int r6]) (rest := []) ⟨hx, hb, hml, hown, hts⟩ (metX0_best l hfl D cI h0 qf qn qw ql B0 sz mi fg v15.2 wt wl_13 r6 H.size _ h16) (cwV 1 hts gL_law_X0_best rfl rfl rfl (by decide +kernel) ⟨Nat.le_of_ble_eq_true rfl, Nat.le_of_ble_eq_true rfl⟩) (fb_preVM (ci := 0) fb_sXTp hPc hK hDc hZT hS hAB hA rfl rfl _) rfl rfl hl.1 rfl (lv_room (Nat.le_of_ble_eq_true rfl)) dL_law_89 ⟨(show ce + 1 + 1 ≤ 804873 by omega), (show sl + 6 + 6 ≤ 6686849 by omega)⟩) hS (fun q _ h9 => hFc q h9) hFc (fun x9 ce9 q9 H1 locs hre _ _ _ _ _ _ _ => ?_) (fun v17 H1 locs hre hP1 hD1 hk1 hS => ?_)
      · replace h := fb_mter hre h
        cases h
      replace h := fb_mtok hre h
      clear hre h16
      obtain ⟨hP, hD⟩ := va_join (wr := []) (w1 := fb_wX0 cI h0 qf qn qw ql sz mi fg v17.2.1 wt v17.2.2) hP hD [0, 1, 2, 3, 4] [] rfl rfl (by decide) (by decide) hk1 hFc hP1 hD1
      have hP : va_P D vwCl (fb_wX0 cI h0 qf qn qw ql sz mi fg v17.2.1 wt v17.2.2) H1 := hP.sub [0, 1, 2, 3, 4] rfl
      have hD : va_D A (fb_wX0 cI h0 qf qn qw ql sz mi fg v17.2.1 wt v17.2.2) := hD.sub [0, 1, 2, 3, 4] (by decide) rfl
      generalize H1 = H at hP hS
      refine lv_istore (lv' := [(12, .int v17.1), (11, .int v15.1), (9, .long r12), (8, .int ((12 : Int32) + r10)), (7, .int ((1 : Int32) + r8)), (6, .int r6), (5, .int r4), (0, .ref b), (2, .ref h0), (3, .int v3), (4, .int v4)]) hx hb dL_law_92 hl (by decide) rfl (fun ls hl => ?_)
      refine lv_aload_n hx hb dL_law_94 rfl (lv_at hl 8 rfl) ?_
      refine lv_iload hx hb dL_law_95 (lv_at hl 5 rfl) ?_
      obtain ⟨re, h18, h⟩ := fb_b1s h
      have hPc : va_P D vwCl (fb_wX0 cI h0 qf qn qw ql sz mi fg v17.2.1 wt v17.2.2) H := hP.sub [0, 1, 2, 3, 4] rfl
      have hDc : va_D A (fb_wX0 cI h0 qf qn qw ql sz mi fg v17.2.1 wt v17.2.2) := hD.sub [0, 1, 2, 3, 4] (by decide) rfl
      have hFc := va_free (wc := fb_wX0 cI h0 qf qn qw ql sz mi fg v17.2.1 wt v17.2.2) hD hS hA [0, 1, 2, 3, 4] rfl
      refine fb_callT (vx_runV (As := [.int r6]) (rest := []) ⟨hx, hb, hml, hown, hts⟩ (metX0_ways l hfl D cI h0 qf qn qw ql B0 sz mi fg v17.2.1 wt v17.2.2 r6 H.size _ h18) (cwV 1 hts gL_law_X0_ways rfl rfl rfl (by decide +kernel) ⟨Nat.le_of_ble_eq_true rfl, Nat.le_of_ble_eq_true rfl⟩) (fb_preVM (ci := 0) fb_sXTp hPc hK hDc hZT hS hAB hA rfl rfl _) rfl rfl hl.1 rfl (lv_room (Nat.le_of_ble_eq_true rfl)) dL_law_97 ⟨(show ce + 2 + 1 ≤ 804873 by omega), (show sl + 12 + 6 ≤ 6686849 by omega)⟩) hS (fun q _ h9 => hFc q h9) hFc (fun x9 ce9 q9 H1 locs hre _ _ _ _ _ _ _ => ?_) (fun v19 H1 locs hre hP1 hD1 hk1 hS => ?_)
      · replace h := fb_mter hre h
        cases h
      replace h := fb_mtok hre h
      clear hre h18
      obtain ⟨hP, hD⟩ := va_join (wr := []) (w1 := fb_wX0 cI h0 qf qn qw ql sz mi fg v17.2.1 wt v19.2) hP hD [0, 1, 2, 3, 4] [] rfl rfl (by decide) (by decide) hk1 hFc hP1 hD1
      have hP : va_P D vwCl (fb_wX0 cI h0 qf qn qw ql sz mi fg v17.2.1 wt v19.2) H1 := hP.sub [0, 1, 2, 3, 4] rfl
      have hD : va_D A (fb_wX0 cI h0 qf qn qw ql sz mi fg v17.2.1 wt v19.2) := hD.sub [0, 1, 2, 3, 4] (by decide) rfl
      generalize H1 = H at hP hS
      refine lv_istore (lv' := [(13, .int v19.1), (12, .int v17.1), (11, .int v15.1), (9, .long r12), (8, .int ((12 : Int32) + r10)), (7, .int ((1 : Int32) + r8)), (6, .int r6), (5, .int r4), (0, .ref b), (2, .ref h0), (3, .int v3), (4, .int v4)]) hx hb dL_law_100 hl (by decide) rfl (fun ls hl => ?_)
      refine lv_aload_n hx hb dL_law_102 rfl (lv_at hl 9 rfl) ?_
      refine lv_iload hx hb dL_law_103 (lv_at hl 6 rfl) ?_
      obtain ⟨re, h20, h⟩ := fb_b1s h
      have hPc : va_P D vwCl (fb_wX0 cI h0 qf qn qw ql sz mi fg v17.2.1 wt v19.2) H := hP.sub [0, 1, 2, 3, 4] rfl
      have hDc : va_D A (fb_wX0 cI h0 qf qn qw ql sz mi fg v17.2.1 wt v19.2) := hD.sub [0, 1, 2, 3, 4] (by decide) rfl
      have hFc := va_free (wc := fb_wX0 cI h0 qf qn qw ql sz mi fg v17.2.1 wt v19.2) hD hS hA [0, 1, 2, 3, 4] rfl
      refine fb_callT (vx_runV (As := [.int r6]) (rest := []) ⟨hx, hb, hml, hown, hts⟩ (metX0_advise l hfl D cI h0 qf qn qw ql B0 sz mi fg v17.2.1 wt v19.2 r6 H.size _ h20) (cwV 1 hts gL_law_X0_advise rfl rfl rfl (by decide +kernel) ⟨Nat.le_of_ble_eq_true rfl, Nat.le_of_ble_eq_true rfl⟩) (fb_preVM (ci := 0) fb_sXTp hPc hK hDc hZT hS hAB hA rfl rfl _) rfl rfl hl.1 rfl (lv_room (Nat.le_of_ble_eq_true rfl)) dL_law_105 ⟨(show ce + 3 + 1 ≤ 804873 by omega), (show sl + 18 + 6 ≤ 6686849 by omega)⟩) hS (fun q _ h9 => hFc q h9) hFc (fun x9 ce9 q9 H1 locs hre _ _ _ _ _ _ _ => ?_) (fun v21 H1 locs hre hP1 hD1 hk1 hS => ?_)
      · replace h := fb_mter hre h
        cases h
      replace h := fb_mtok hre h
      clear hre h20
      obtain ⟨hP, hD⟩ := va_join (wr := []) (w1 := fb_wX0 cI h0 qf qn qw ql sz mi v21.2.1 v21.2.2.1 wt v21.2.2.2) hP hD [0, 1, 2, 3, 4] [] rfl rfl (by decide) (by decide) hk1 hFc hP1 hD1
      have hP : va_P D vwCl (fb_wX0 cI h0 qf qn qw ql sz mi v21.2.1 v21.2.2.1 wt v21.2.2.2) H1 := hP.sub [0, 1, 2, 3, 4] rfl
      have hD : va_D A (fb_wX0 cI h0 qf qn qw ql sz mi v21.2.1 v21.2.2.1 wt v21.2.2.2) := hD.sub [0, 1, 2, 3, 4] (by decide) rfl
      generalize H1 = H at hP hS
      refine lv_istore (lv' := [(14, .int v21.1), (13, .int v19.1), (12, .int v17.1), (11, .int v15.1), (9, .long r12), (8, .int ((12 : Int32) + r10)), (7, .int ((1 : Int32) + r8)), (6, .int r6), (5, .int r4), (0, .ref b), (2, .ref h0), (3, .int v3), (4, .int v4)]) hx hb dL_law_108 hl (by decide) rfl (fun ls hl => ?_)
      refine lv_aload_n hx hb dL_law_110 rfl (lv_at hl 10 rfl) ?_
      obtain ⟨r23, wl_24, h22, h⟩ := fb_b2s h
      have hPc : va_P D vwCl (fb_wX0 cI h0 qf qn qw ql sz mi v21.2.1 v21.2.2.1 wt v21.2.2.2) H := hP.sub [0, 1, 2, 3, 4] rfl
      have hDc : va_D A (fb_wX0 cI h0 qf qn qw ql sz mi v21.2.1 v21.2.2.1 wt v21.2.2.2) := hD.sub [0, 1, 2, 3, 4] (by decide) rfl
      have hFc := va_free (wc := fb_wX0 cI h0 qf qn qw ql sz mi v21.2.1 v21.2.2.1 wt v21.2.2.2) hD hS hA [0, 1, 2, 3, 4] rfl
      refine fb_callM (va_runV (As := []) (rest := []) ⟨hx, hb, hml, hown, hts⟩ (metX0_digest l D cI h0 qf qn qw ql B0 sz mi v21.2.1 v21.2.2.1 wt v21.2.2.2  H.size r23 wl_24 h22) (cwV 0 hts gL_law_X0_digest rfl rfl rfl (by decide +kernel) ⟨Nat.le_of_ble_eq_true rfl, Nat.le_of_ble_eq_true rfl⟩) (fb_preVM (ci := 0) fb_sX0p hPc hK hDc hZ0 hS hAB hA rfl rfl _) rfl rfl hl.1 rfl (lv_room (Nat.le_of_ble_eq_true rfl)) dL_law_111 ⟨(show ce + 4 + 0 ≤ 804873 by omega), (show sl + 24 + 0 ≤ 6686849 by omega)⟩) hS (fun q _ h9 => hFc q h9) hFc (fun _ H1 locs hP1 hD1 hz1 hk1 hS => ?_)
      obtain ⟨hP, hD⟩ := va_join (wr := []) (w1 := fb_wX0 cI h0 qf qn qw ql sz mi v21.2.1 v21.2.2.1 wt wl_24) hP hD [0, 1, 2, 3, 4] [] rfl rfl (by decide) (by decide) hk1 hFc hP1 hD1
      have hP : va_P D vwCl (fb_wX0 cI h0 qf qn qw ql sz mi v21.2.1 v21.2.2.1 wt wl_24) H1 := hP.sub [0, 1, 2, 3, 4] rfl
      have hD : va_D A (fb_wX0 cI h0 qf qn qw ql sz mi v21.2.1 v21.2.2.1 wt wl_24) := hD.sub [0, 1, 2, 3, 4] (by decide) rfl
      generalize H1 = H at hP hS
      refine lv_lload hx hb dL_law_114 (lv_at hl 4 rfl) ?_
      refine W.lcmp hx hb dL_law_116 ?_
      refine lv_if_ne (tgt := 155) hx hb dL_law_117 (by decide) (fun c25 => ?_) (fun c25 => ?_)
      · replace h := fb_ie c25 h
        cases h
      · replace h := fb_it c25 h
        refine lv_iload hx hb dL_law_120 (lv_at hl 2 rfl) ?_
        obtain ⟨j27, hjJ1, h⟩ := fb_b1s h
        have J1 : ∀ (H : Heap) (locs : List Loc), va_P D vwCl (fb_wX0 cI h0 qf qn qw ql sz mi v21.2.1 v21.2.2.1 wt wl_24) H → va_D A (fb_wX0 cI h0 qf qn qw ql sz mi v21.2.1 v21.2.2.1 wt wl_24) → va_S A s.heap H locs → ∀ (ls : Array Slot), lv_has ls 20 [(14, .int v21.1), (13, .int v19.1), (12, .int v17.1), (11, .int v15.1), (8, .int ((12 : Int32) + r10)), (7, .int ((1 : Int32) + r8)), (6, .int r6), (5, .int r4), (0, .ref b), (2, .ref h0), (3, .int v3), (4, .int v4)] → W p l e room_1 s m #[Value.ref b] below meth c H locs (ce + 4) (sl + 24) (lw_Z below #[Value.ref b] s0) (F0 m 130 ls [.int j27]) := by
          intro H locs hP hD hS ls hl
          refine lv_iload hx hb dL_law_130 (lv_at hl 1 rfl) ?_
          obtain ⟨j29, hjJ2, h⟩ := fb_b1s h
          have J2 : ∀ (H : Heap) (locs : List Loc), va_P D vwCl (fb_wX0 cI h0 qf qn qw ql sz mi v21.2.1 v21.2.2.1 wt wl_24) H → va_D A (fb_wX0 cI h0 qf qn qw ql sz mi v21.2.1 v21.2.2.1 wt wl_24) → va_S A s.heap H locs → ∀ (ls : Array Slot), lv_has ls 20 [(14, .int v21.1), (13, .int v19.1), (12, .int v17.1), (11, .int v15.1), (8, .int ((12 : Int32) + r10)), (7, .int ((1 : Int32) + r8)), (6, .int r6), (5, .int r4), (0, .ref b), (2, .ref h0), (3, .int v3), (4, .int v4)] → W p l e room_1 s m #[Value.ref b] below meth c H locs (ce + 4) (sl + 24) (lw_Z below #[Value.ref b] s0) (F0 m 140 ls [.int j29, .int j27]) := by
            intro H locs hP hD hS ls hl
            refine lv_icmp_ne (tgt := 155) hx hb dL_law_140 (by decide) (fun c30 => ?_) (fun c30 => ?_)
            · replace h := fb_ie c30 h
              cases h
            · replace h := fb_it c30 h
              refine lv_iload hx hb dL_law_143 (lv_at hl 0 rfl) ?_
              refine lv_iconst (v := (-1)) hx hb dL_law_145 (by decide) ?_
              refine lv_icmp_lt (tgt := 155) hx hb dL_law_146 (by decide) (fun c31 => ?_) (fun c31 => ?_)
              · replace h := fb_it c31 h
                cases h
              · replace h := fb_ie c31 h
                refine lv_iload hx hb dL_law_149 (lv_at hl 0 rfl) ?_
                refine lv_iconst (v := 5) hx hb dL_law_151 (by decide) ?_
                refine lv_icmp_le (tgt := 157) hx hb dL_law_152 (by decide) (fun c32 => ?_) (fun c32 => ?_)
                · replace h := fb_it c32 h
                  refine lv_aload_n hx hb dL_law_157 rfl (lv_at hl 9 rfl) ?_
                  refine lv_iload hx hb dL_law_158 (lv_at hl 6 rfl) ?_
                  refine lv_iconst (v := 5) hx hb dL_law_160 (by decide) ?_
                  obtain ⟨re, h33, h⟩ := fb_b1s h
                  have hPc : va_P D vwCl (fb_wX0 cI h0 qf qn qw ql sz mi v21.2.1 v21.2.2.1 wt wl_24) H := hP.sub [0, 1, 2, 3, 4] rfl
                  have hDc : va_D A (fb_wX0 cI h0 qf qn qw ql sz mi v21.2.1 v21.2.2.1 wt wl_24) := hD.sub [0, 1, 2, 3, 4] (by decide) rfl
                  have hFc := va_free (wc := fb_wX0 cI h0 qf qn qw ql sz mi v21.2.1 v21.2.2.1 wt wl_24) hD hS hA [0, 1, 2, 3, 4] rfl
                  refine fb_callT (vx_runV (As := [.int r6, .int 5]) (rest := []) ⟨hx, hb, hml, hown, hts⟩ (metX0_told l hfl D cI h0 qf qn qw ql B0 sz mi v21.2.1 v21.2.2.1 wt wl_24 r6 5 H.size _ h33) (cwV 2 hts gL_law_X0_told rfl rfl rfl (by decide +kernel) ⟨Nat.le_of_ble_eq_true rfl, Nat.le_of_ble_eq_true rfl⟩) (fb_preVM (ci := 0) fb_sXTp hPc hK hDc hZT hS hAB hA rfl rfl _) rfl rfl hl.1 rfl (lv_room (Nat.le_of_ble_eq_true rfl)) dL_law_161 ⟨(show ce + 4 + 1 ≤ 804873 by omega), (show sl + 24 + 6 ≤ 6686849 by omega)⟩) hS (fun q _ h9 => hFc q h9) hFc (fun x9 ce9 q9 H1 locs hre _ _ _ _ _ _ _ => ?_) (fun v34 H1 locs hre hP1 hD1 hk1 hS => ?_)
                  · replace h := fb_mter hre h
                    cases h
                  replace h := fb_mtok hre h
                  clear hre h33
                  obtain ⟨hP, hD⟩ := va_join (wr := []) (w1 := fb_wX0 cI h0 qf qn qw ql sz mi v21.2.1 v21.2.2.1 wt wl_24) hP hD [0, 1, 2, 3, 4] [] rfl rfl (by decide) (by decide) hk1 hFc hP1 hD1
                  have hP : va_P D vwCl (fb_wX0 cI h0 qf qn qw ql sz mi v21.2.1 v21.2.2.1 wt wl_24) H1 := hP.sub [0, 1, 2, 3, 4] rfl
                  have hD : va_D A (fb_wX0 cI h0 qf qn qw ql sz mi v21.2.1 v21.2.2.1 wt wl_24) := hD.sub [0, 1, 2, 3, 4] (by decide) rfl
                  generalize H1 = H at hP hS
                  refine lv_iload hx hb dL_law_164 (lv_at hl 6 rfl) ?_
                  refine lv_iconst (v := 1) hx hb dL_law_166 (by decide) ?_
                  refine lv_iadd hx hb dL_law_167 ?_
                  refine lv_iload_n hx hb dL_law_168 rfl (lv_at hl 10 rfl) ?_
                  obtain ⟨j38, hjJ3, h⟩ := fb_b1s h
                  have J3 : ∀ (H : Heap) (locs : List Loc), va_P D vwCl (fb_wX0 cI h0 qf qn qw ql sz mi v21.2.1 v21.2.2.1 wt wl_24) H → va_D A (fb_wX0 cI h0 qf qn qw ql sz mi v21.2.1 v21.2.2.1 wt wl_24) → va_S A s.heap H locs → ∀ (ls : Array Slot), lv_has ls 20 [(13, .int v19.1), (12, .int v17.1), (11, .int v15.1), (8, .int ((12 : Int32) + r10)), (7, .int ((1 : Int32) + r8)), (6, .int r6), (5, .int r4), (0, .ref b), (2, .ref h0), (3, .int v3), (4, .int v4)] → W p l e room_1 s m #[Value.ref b] below meth c H locs (ce + 6) (sl + 36) (lw_Z below #[Value.ref b] s0) (F0 m 185 ls [.int j38, .int v34]) := by
                    intro H locs hP hD hS ls hl
                    refine lv_iadd hx hb dL_law_185 ?_
                    refine lv_istore (lv' := [(15, .int (v34 + j38)), (13, .int v19.1), (12, .int v17.1), (11, .int v15.1), (8, .int ((12 : Int32) + r10)), (7, .int ((1 : Int32) + r8)), (6, .int r6), (5, .int r4), (0, .ref b), (2, .ref h0), (3, .int v3), (4, .int v4)]) hx hb dL_law_186 hl (by decide) rfl (fun ls hl => ?_)
                    refine lv_aload_n hx hb dL_law_188 rfl (lv_at hl 9 rfl) ?_
                    refine lv_iload hx hb dL_law_189 (lv_at hl 6 rfl) ?_
                    refine lv_iconst (v := 3) hx hb dL_law_191 (by decide) ?_
                    obtain ⟨re, h39, h⟩ := fb_b1s h
                    have hPc : va_P D vwCl (fb_wX0 cI h0 qf qn qw ql sz mi v21.2.1 v21.2.2.1 wt wl_24) H := hP.sub [0, 1, 2, 3, 4] rfl
                    have hDc : va_D A (fb_wX0 cI h0 qf qn qw ql sz mi v21.2.1 v21.2.2.1 wt wl_24) := hD.sub [0, 1, 2, 3, 4] (by decide) rfl
                    have hFc := va_free (wc := fb_wX0 cI h0 qf qn qw ql sz mi v21.2.1 v21.2.2.1 wt wl_24) hD hS hA [0, 1, 2, 3, 4] rfl
                    refine fb_callT (vx_runV (As := [.int r6, .int 3]) (rest := []) ⟨hx, hb, hml, hown, hts⟩ (metX0_told l hfl D cI h0 qf qn qw ql B0 sz mi v21.2.1 v21.2.2.1 wt wl_24 r6 3 H.size _ h39) (cwV 2 hts gL_law_X0_told rfl rfl rfl (by decide +kernel) ⟨Nat.le_of_ble_eq_true rfl, Nat.le_of_ble_eq_true rfl⟩) (fb_preVM (ci := 0) fb_sXTp hPc hK hDc hZT hS hAB hA rfl rfl _) rfl rfl hl.1 rfl (lv_room (Nat.le_of_ble_eq_true rfl)) dL_law_192 ⟨(show ce + 6 + 1 ≤ 804873 by omega), (show sl + 36 + 6 ≤ 6686849 by omega)⟩) hS (fun q _ h9 => hFc q h9) hFc (fun x9 ce9 q9 H1 locs hre _ _ _ _ _ _ _ => ?_) (fun v40 H1 locs hre hP1 hD1 hk1 hS => ?_)
                    · replace h := fb_mter hre h
                      cases h
                    replace h := fb_mtok hre h
                    clear hre h39
                    obtain ⟨hP, hD⟩ := va_join (wr := []) (w1 := fb_wX0 cI h0 qf qn qw ql sz mi v21.2.1 v21.2.2.1 wt wl_24) hP hD [0, 1, 2, 3, 4] [] rfl rfl (by decide) (by decide) hk1 hFc hP1 hD1
                    have hP : va_P D vwCl (fb_wX0 cI h0 qf qn qw ql sz mi v21.2.1 v21.2.2.1 wt wl_24) H1 := hP.sub [0, 1, 2, 3, 4] rfl
                    have hD : va_D A (fb_wX0 cI h0 qf qn qw ql sz mi v21.2.1 v21.2.2.1 wt wl_24) := hD.sub [0, 1, 2, 3, 4] (by decide) rfl
                    generalize H1 = H at hP hS
                    refine lv_iconst (v := 1) hx hb dL_law_195 (by decide) ?_
                    obtain ⟨j42, hjJ4, h⟩ := fb_b1s h
                    have J4 : ∀ (H : Heap) (locs : List Loc), va_P D vwCl (fb_wX0 cI h0 qf qn qw ql sz mi v21.2.1 v21.2.2.1 wt wl_24) H → va_D A (fb_wX0 cI h0 qf qn qw ql sz mi v21.2.1 v21.2.2.1 wt wl_24) → va_S A s.heap H locs → ∀ (ls : Array Slot), lv_has ls 20 [(15, .int (v34 + j38)), (13, .int v19.1), (12, .int v17.1), (11, .int v15.1), (8, .int ((12 : Int32) + r10)), (7, .int ((1 : Int32) + r8)), (6, .int r6), (5, .int r4), (0, .ref b), (2, .ref h0), (3, .int v3), (4, .int v4)] → W p l e room_1 s m #[Value.ref b] below meth c H locs (ce + 7) (sl + 42) (lw_Z below #[Value.ref b] s0) (F0 m 204 ls [.int j42]) := by
                      intro H locs hP hD hS ls hl
                      refine lv_istore (lv' := [(16, .int j42), (15, .int (v34 + j38)), (13, .int v19.1), (12, .int v17.1), (11, .int v15.1), (8, .int ((12 : Int32) + r10)), (7, .int ((1 : Int32) + r8)), (6, .int r6), (5, .int r4), (0, .ref b), (2, .ref h0), (3, .int v3), (4, .int v4)]) hx hb dL_law_204 hl (by decide) rfl (fun ls hl => ?_)
                      refine lv_iload hx hb dL_law_206 (lv_at hl 8 rfl) ?_
                      refine lv_iconst (v := 5) hx hb dL_law_208 (by decide) ?_
                      obtain ⟨r44, h43, h⟩ := fb_b1s h
                      refine fb_callR (W.runS (As := [.int r4, .int 5]) (rest := []) ⟨hx, hb, hml, hown, hts⟩ (metL_below l b L xs B0 r4 5 r44 h43) (va_cwS 2 hts gL_law_L_below rfl rfl rfl (by decide +kernel) ⟨Nat.le_of_ble_eq_true rfl, Nat.le_of_ble_eq_true rfl⟩) (fb_preS (fb_scp b L xs) hZ hS hAB _) rfl rfl hl.1 rfl (lv_room (Nat.le_of_ble_eq_true rfl)) dL_law_209 ⟨(show ce + 7 + 0 ≤ 804873 by omega), (show sl + 42 + 0 ≤ 6686849 by omega)⟩) ?_
                      obtain ⟨fg_84, nt_85, wl_86, hjJ5, h⟩ := fb_b3s h
                      have J5 : ∀ (H : Heap) (locs : List Loc), va_P D vwCl (fb_wX0 cI h0 qf qn qw ql sz mi fg_84 nt_85 wt wl_86) H → va_D A (fb_wX0 cI h0 qf qn qw ql sz mi fg_84 nt_85 wt wl_86) → va_S A s.heap H locs → ∀ (ls : Array Slot), lv_has ls 20 [(0, .ref b), (2, .ref h0), (3, .int v3), (4, .int v4)] → W p l e room_1 s m #[Value.ref b] below meth c H locs (ce + 14) (sl + 84) (lw_Z below #[Value.ref b] s0) (F0 m 428 ls []) := by
                        intro H locs hP hD hS ls hl
                        refine lv_iconst (v := 4) hx hb dL_law_428 (by decide) ?_
                        refine va_newa (atype := .int) hx hb (hts _ w_arr) (ty := .int) rfl hK hP hD hS hA (N' := 4) (a0 := (4, .inl (fun _ => 0))) (fun _ => rfl) (by decide) (by decide) (by decide) (show ce + 14 + 1 ≤ 804873 by omega) (show sl + 84 + 4 ≤ 6686849 by omega) dL_law_429 (fun q87 cA H hK1 hP hD hS => ?_)
                        obtain rfl := fb_cA hK1
                        have hP : va_P D vwCl (fb_wX0 cI h0 qf qn qw ql sz mi fg_84 nt_85 wt wl_86 ++ [(q87, .inl (cI, 4, .inl (fun _ => 0)))]) H := hP
                        have hD : va_D A (fb_wX0 cI h0 qf qn qw ql sz mi fg_84 nt_85 wt wl_86 ++ [(q87, .inl (cI, 4, .inl (fun _ => 0)))]) := hD
                        refine lv_astore (lv' := [(17, .ref q87), (0, .ref b), (2, .ref h0), (3, .int v3), (4, .int v4)]) hx hb dL_law_431 hl (by decide) rfl (fun ls hl => ?_)
                        refine lv_iconst (v := 0) hx hb dL_law_433 (by decide) ?_
                        refine lv_istore (lv' := [(18, .int 0), (17, .ref q87), (0, .ref b), (2, .ref h0), (3, .int v3), (4, .int v4)]) hx hb dL_law_434 hl (by decide) rfl (fun ls hl => ?_)
                        have LL_law_436 : ∀ (n9 : Nat) (v88 : Int32) (wl_89 : Nat → Int32) (f90 : Nat → Int32) (o138 : Int32) (o139 : Nat → Int32) (o140 : Nat → Int32), lpL_law_436 sz mi wt v3 fg_84 nt_85 n9 v88 wl_89 f90 = some (o138, o139, o140) → ∀ (ce436 sl436 : Nat), ce436 + n9 * 29 ≤ (ce + 421) → sl436 + n9 * 174 ≤ (sl + 2524) → ∀ (H : Heap) (locs : List Loc), va_P D vwCl (fb_wX0 cI h0 qf qn qw ql sz mi fg_84 nt_85 wt wl_89 ++ [(q87, .inl (cI, 4, .inl f90))]) H → va_D A (fb_wX0 cI h0 qf qn qw ql sz mi fg_84 nt_85 wt wl_89 ++ [(q87, .inl (cI, 4, .inl f90))]) → va_S A s.heap H locs → ∀ (ls : Array Slot), lv_has ls 20 [(18, .int v88), (17, .ref q87), (0, .ref b), (2, .ref h0), (3, .int v3), (4, .int v4)] → (∀ (H : Heap) (locs : List Loc), va_P D vwCl (fb_wX0 cI h0 qf qn qw ql sz mi fg_84 nt_85 wt o139 ++ [(q87, .inl (cI, 4, .inl o140))]) H → va_D A (fb_wX0 cI h0 qf qn qw ql sz mi fg_84 nt_85 wt o139 ++ [(q87, .inl (cI, 4, .inl o140))]) → va_S A s.heap H locs → ∀ (ls : Array Slot), lv_has ls 20 [(18, .int o138), (17, .ref q87), (0, .ref b), (2, .ref h0), (3, .int v3), (4, .int v4)] → W p l e room_1 s m #[Value.ref b] below meth c H locs (ce + 421) (sl + 2524) (lw_Z below #[Value.ref b] s0) (F0 m 628 ls [])) → W p l e room_1 s m #[Value.ref b] below meth c H locs ce436 sl436 (lw_Z below #[Value.ref b] s0) (F0 m 436 ls []) := by
                          intro n9
                          induction n9 with
                          | zero =>
                            intro v88 wl_89 f90 o138 o139 o140 h
                            rw [lpL_law_436.eq_1] at h
                            cases h
                          | succ n9 ih436 =>
                            intro v88 wl_89 f90 o138 o139 o140 h ce436 sl436 hce436 hsl436 H locs hP hD hS ls hl kx436
                            rw [lpL_law_436.eq_2] at h
                            refine lv_iload hx hb dL_law_436 (lv_at hl 0 rfl) ?_
                            refine lv_iload_n hx hb dL_law_438 rfl (lv_at hl 4 rfl) ?_
                            refine lv_icmp_ge (tgt := 628) hx hb dL_law_439 (by decide) (fun c91 => ?_) (fun c91 => ?_)
                            · replace h := fb_it c91 h
                              obtain ⟨e1, e2, e3⟩ := fb_p3 h
                              subst e1
                              subst e2
                              subst e3
                              refine W.widen (k := (ce + 421)) (n := (sl + 2524)) (by omega) (by omega) ?_
                              exact kx436 H locs hP hD hS ls (lv_sub hl [0, 1, 2, 3, 4, 5] rfl)
                            · replace h := fb_ie c91 h
                              refine lv_aload hx hb dL_law_442 (lv_at hl 1 rfl) ?_
                              refine lv_iconst (v := 0) hx hb dL_law_444 (by decide) ?_
                              refine lv_dup2_11 hx hb dL_law_445 rfl rfl ?_
                              refine va_iald hx hb hK hP 5 0 rfl rfl (fb_ixin (by decide)) dL_law_446 ?_
                              refine lv_aload_n hx hb dL_law_447 rfl (lv_at hl 3 rfl) ?_
                              refine lv_iload hx hb dL_law_448 (lv_at hl 0 rfl) ?_
                              refine lv_iconst (v := 2) hx hb dL_law_450 (by decide) ?_
                              obtain ⟨re, h92, h⟩ := fb_b1s h
                              have hPc : va_P D vwCl (fb_wX0 cI h0 qf qn qw ql sz mi fg_84 nt_85 wt wl_89) H := hP.sub [0, 1, 2, 3, 4] rfl
                              have hDc : va_D A (fb_wX0 cI h0 qf qn qw ql sz mi fg_84 nt_85 wt wl_89) := hD.sub [0, 1, 2, 3, 4] (by decide) rfl
                              have hFc := va_free (wc := fb_wX0 cI h0 qf qn qw ql sz mi fg_84 nt_85 wt wl_89) hD hS hA [0, 1, 2, 3, 4] rfl
                              refine fb_callT (vx_runV (As := [.int v88, .int 2]) (rest := [.int (f90 (0 : Int32).toNatClampNeg), .int 0, .ref q87]) ⟨hx, hb, hml, hown, hts⟩ (metX0_told l hfl D cI h0 qf qn qw ql B0 sz mi fg_84 nt_85 wt wl_89 v88 2 H.size _ h92) (cwV 2 hts gL_law_X0_told rfl rfl rfl (by decide +kernel) ⟨Nat.le_of_ble_eq_true rfl, Nat.le_of_ble_eq_true rfl⟩) (fb_preVM (ci := 0) fb_sXTp hPc hK hDc hZT hS hAB hA rfl rfl _) rfl rfl hl.1 rfl (lv_room (Nat.le_of_ble_eq_true rfl)) dL_law_451 ⟨(show ce436 + 0 + 1 ≤ 804873 by omega), (show sl436 + 0 + 6 ≤ 6686849 by omega)⟩) hS (fun q _ h9 => hFc q h9) hFc (fun x9 ce9 q9 H1 locs hre _ _ _ _ _ _ _ => ?_) (fun v93 H1 locs hre hP1 hD1 hk1 hS => ?_)
                              · replace h := fb_mter hre h
                                cases h
                              replace h := fb_mtok hre h
                              clear hre h92
                              obtain ⟨hP, hD⟩ := va_join (wr := [(q87, .inl (cI, 4, .inl f90))]) (w1 := fb_wX0 cI h0 qf qn qw ql sz mi fg_84 nt_85 wt wl_89) hP hD [0, 1, 2, 3, 4] [5] rfl rfl (by decide) (by decide) hk1 hFc hP1 hD1
                              have hP : va_P D vwCl (fb_wX0 cI h0 qf qn qw ql sz mi fg_84 nt_85 wt wl_89 ++ [(q87, .inl (cI, 4, .inl f90))]) H1 := hP.sub [1, 2, 3, 4, 5, 0] rfl
                              have hD : va_D A (fb_wX0 cI h0 qf qn qw ql sz mi fg_84 nt_85 wt wl_89 ++ [(q87, .inl (cI, 4, .inl f90))]) := hD.sub [1, 2, 3, 4, 5, 0] (by decide) rfl
                              generalize H1 = H at hP hS
                              refine lv_iadd hx hb dL_law_454 ?_
                              refine va_iast hx hb hK hP hD hS 5 0 rfl rfl (fb_ixin (by decide)) dL_law_455 (fun H locs hP hD hS => ?_)
                              have hP : va_P D vwCl (fb_wX0 cI h0 qf qn qw ql sz mi fg_84 nt_85 wt wl_89 ++ [(q87, .inl (cI, 4, .inl (upd f90 (0 : Int32).toNatClampNeg ((f90 (0 : Int32).toNatClampNeg) + v93))))]) H := hP
                              have hD : va_D A (fb_wX0 cI h0 qf qn qw ql sz mi fg_84 nt_85 wt wl_89 ++ [(q87, .inl (cI, 4, .inl (upd f90 (0 : Int32).toNatClampNeg ((f90 (0 : Int32).toNatClampNeg) + v93))))]) := hD
                              refine lv_aload hx hb dL_law_456 (lv_at hl 1 rfl) ?_
                              refine lv_iconst (v := 1) hx hb dL_law_458 (by decide) ?_
                              refine lv_dup2_11 hx hb dL_law_459 rfl rfl ?_
                              refine va_iald hx hb hK hP 5 0 rfl rfl (fb_ixin (by decide)) dL_law_460 ?_
                              refine lv_aload_n hx hb dL_law_461 rfl (lv_at hl 3 rfl) ?_
                              refine lv_iload hx hb dL_law_462 (lv_at hl 0 rfl) ?_
                              refine lv_iconst (v := 4) hx hb dL_law_464 (by decide) ?_
                              obtain ⟨re, h94, h⟩ := fb_b1s h
                              have hPc : va_P D vwCl (fb_wX0 cI h0 qf qn qw ql sz mi fg_84 nt_85 wt wl_89) H := hP.sub [0, 1, 2, 3, 4] rfl
                              have hDc : va_D A (fb_wX0 cI h0 qf qn qw ql sz mi fg_84 nt_85 wt wl_89) := hD.sub [0, 1, 2, 3, 4] (by decide) rfl
                              have hFc := va_free (wc := fb_wX0 cI h0 qf qn qw ql sz mi fg_84 nt_85 wt wl_89) hD hS hA [0, 1, 2, 3, 4] rfl
                              refine fb_callT (vx_runV (As := [.int v88, .int 4]) (rest := [.int ((upd f90 (0 : Int32).toNatClampNeg ((f90 (0 : Int32).toNatClampNeg) + v93)) (1 : Int32).toNatClampNeg), .int 1, .ref q87]) ⟨hx, hb, hml, hown, hts⟩ (metX0_told l hfl D cI h0 qf qn qw ql B0 sz mi fg_84 nt_85 wt wl_89 v88 4 H.size _ h94) (cwV 2 hts gL_law_X0_told rfl rfl rfl (by decide +kernel) ⟨Nat.le_of_ble_eq_true rfl, Nat.le_of_ble_eq_true rfl⟩) (fb_preVM (ci := 0) fb_sXTp hPc hK hDc hZT hS hAB hA rfl rfl _) rfl rfl hl.1 rfl (lv_room (Nat.le_of_ble_eq_true rfl)) dL_law_465 ⟨(show ce436 + 1 + 1 ≤ 804873 by omega), (show sl436 + 6 + 6 ≤ 6686849 by omega)⟩) hS (fun q _ h9 => hFc q h9) hFc (fun x9 ce9 q9 H1 locs hre _ _ _ _ _ _ _ => ?_) (fun v95 H1 locs hre hP1 hD1 hk1 hS => ?_)
                              · replace h := fb_mter hre h
                                cases h
                              replace h := fb_mtok hre h
                              clear hre h94
                              obtain ⟨hP, hD⟩ := va_join (wr := [(q87, .inl (cI, 4, .inl (upd f90 (0 : Int32).toNatClampNeg ((f90 (0 : Int32).toNatClampNeg) + v93))))]) (w1 := fb_wX0 cI h0 qf qn qw ql sz mi fg_84 nt_85 wt wl_89) hP hD [0, 1, 2, 3, 4] [5] rfl rfl (by decide) (by decide) hk1 hFc hP1 hD1
                              have hP : va_P D vwCl (fb_wX0 cI h0 qf qn qw ql sz mi fg_84 nt_85 wt wl_89 ++ [(q87, .inl (cI, 4, .inl (upd f90 (0 : Int32).toNatClampNeg ((f90 (0 : Int32).toNatClampNeg) + v93))))]) H1 := hP.sub [1, 2, 3, 4, 5, 0] rfl
                              have hD : va_D A (fb_wX0 cI h0 qf qn qw ql sz mi fg_84 nt_85 wt wl_89 ++ [(q87, .inl (cI, 4, .inl (upd f90 (0 : Int32).toNatClampNeg ((f90 (0 : Int32).toNatClampNeg) + v93))))]) := hD.sub [1, 2, 3, 4, 5, 0] (by decide) rfl
                              generalize H1 = H at hP hS
                              refine lv_iadd hx hb dL_law_468 ?_
                              refine va_iast hx hb hK hP hD hS 5 0 rfl rfl (fb_ixin (by decide)) dL_law_469 (fun H locs hP hD hS => ?_)
                              have hP : va_P D vwCl (fb_wX0 cI h0 qf qn qw ql sz mi fg_84 nt_85 wt wl_89 ++ [(q87, .inl (cI, 4, .inl (upd (upd f90 (0 : Int32).toNatClampNeg ((f90 (0 : Int32).toNatClampNeg) + v93)) (1 : Int32).toNatClampNeg (((upd f90 (0 : Int32).toNatClampNeg ((f90 (0 : Int32).toNatClampNeg) + v93)) (1 : Int32).toNatClampNeg) + v95))))]) H := hP
                              have hD : va_D A (fb_wX0 cI h0 qf qn qw ql sz mi fg_84 nt_85 wt wl_89 ++ [(q87, .inl (cI, 4, .inl (upd (upd f90 (0 : Int32).toNatClampNeg ((f90 (0 : Int32).toNatClampNeg) + v93)) (1 : Int32).toNatClampNeg (((upd f90 (0 : Int32).toNatClampNeg ((f90 (0 : Int32).toNatClampNeg) + v93)) (1 : Int32).toNatClampNeg) + v95))))]) := hD
                              refine lv_aload hx hb dL_law_470 (lv_at hl 1 rfl) ?_
                              refine lv_iconst (v := 2) hx hb dL_law_472 (by decide) ?_
                              refine lv_dup2_11 hx hb dL_law_473 rfl rfl ?_
                              refine va_iald hx hb hK hP 5 0 rfl rfl (fb_ixin (by decide)) dL_law_474 ?_
                              refine lv_aload_n hx hb dL_law_475 rfl (lv_at hl 3 rfl) ?_
                              refine lv_iload hx hb dL_law_476 (lv_at hl 0 rfl) ?_
                              refine lv_iconst (v := 5) hx hb dL_law_478 (by decide) ?_
                              obtain ⟨re, h96, h⟩ := fb_b1s h
                              have hPc : va_P D vwCl (fb_wX0 cI h0 qf qn qw ql sz mi fg_84 nt_85 wt wl_89) H := hP.sub [0, 1, 2, 3, 4] rfl
                              have hDc : va_D A (fb_wX0 cI h0 qf qn qw ql sz mi fg_84 nt_85 wt wl_89) := hD.sub [0, 1, 2, 3, 4] (by decide) rfl
                              have hFc := va_free (wc := fb_wX0 cI h0 qf qn qw ql sz mi fg_84 nt_85 wt wl_89) hD hS hA [0, 1, 2, 3, 4] rfl
                              refine fb_callT (vx_runV (As := [.int v88, .int 5]) (rest := [.int ((upd (upd f90 (0 : Int32).toNatClampNeg ((f90 (0 : Int32).toNatClampNeg) + v93)) (1 : Int32).toNatClampNeg (((upd f90 (0 : Int32).toNatClampNeg ((f90 (0 : Int32).toNatClampNeg) + v93)) (1 : Int32).toNatClampNeg) + v95)) (2 : Int32).toNatClampNeg), .int 2, .ref q87]) ⟨hx, hb, hml, hown, hts⟩ (metX0_told l hfl D cI h0 qf qn qw ql B0 sz mi fg_84 nt_85 wt wl_89 v88 5 H.size _ h96) (cwV 2 hts gL_law_X0_told rfl rfl rfl (by decide +kernel) ⟨Nat.le_of_ble_eq_true rfl, Nat.le_of_ble_eq_true rfl⟩) (fb_preVM (ci := 0) fb_sXTp hPc hK hDc hZT hS hAB hA rfl rfl _) rfl rfl hl.1 rfl (lv_room (Nat.le_of_ble_eq_true rfl)) dL_law_479 ⟨(show ce436 + 2 + 1 ≤ 804873 by omega), (show sl436 + 12 + 6 ≤ 6686849 by omega)⟩) hS (fun q _ h9 => hFc q h9) hFc (fun x9 ce9 q9 H1 locs hre _ _ _ _ _ _ _ => ?_) (fun v97 H1 locs hre hP1 hD1 hk1 hS => ?_)
                              · replace h := fb_mter hre h
                                cases h
                              replace h := fb_mtok hre h
                              clear hre h96
                              obtain ⟨hP, hD⟩ := va_join (wr := [(q87, .inl (cI, 4, .inl (upd (upd f90 (0 : Int32).toNatClampNeg ((f90 (0 : Int32).toNatClampNeg) + v93)) (1 : Int32).toNatClampNeg (((upd f90 (0 : Int32).toNatClampNeg ((f90 (0 : Int32).toNatClampNeg) + v93)) (1 : Int32).toNatClampNeg) + v95))))]) (w1 := fb_wX0 cI h0 qf qn qw ql sz mi fg_84 nt_85 wt wl_89) hP hD [0, 1, 2, 3, 4] [5] rfl rfl (by decide) (by decide) hk1 hFc hP1 hD1
                              have hP : va_P D vwCl (fb_wX0 cI h0 qf qn qw ql sz mi fg_84 nt_85 wt wl_89 ++ [(q87, .inl (cI, 4, .inl (upd (upd f90 (0 : Int32).toNatClampNeg ((f90 (0 : Int32).toNatClampNeg) + v93)) (1 : Int32).toNatClampNeg (((upd f90 (0 : Int32).toNatClampNeg ((f90 (0 : Int32).toNatClampNeg) + v93)) (1 : Int32).toNatClampNeg) + v95))))]) H1 := hP.sub [1, 2, 3, 4, 5, 0] rfl
                              have hD : va_D A (fb_wX0 cI h0 qf qn qw ql sz mi fg_84 nt_85 wt wl_89 ++ [(q87, .inl (cI, 4, .inl (upd (upd f90 (0 : Int32).toNatClampNeg ((f90 (0 : Int32).toNatClampNeg) + v93)) (1 : Int32).toNatClampNeg (((upd f90 (0 : Int32).toNatClampNeg ((f90 (0 : Int32).toNatClampNeg) + v93)) (1 : Int32).toNatClampNeg) + v95))))]) := hD.sub [1, 2, 3, 4, 5, 0] (by decide) rfl
                              generalize H1 = H at hP hS
                              refine lv_iadd hx hb dL_law_482 ?_
                              refine va_iast hx hb hK hP hD hS 5 0 rfl rfl (fb_ixin (by decide)) dL_law_483 (fun H locs hP hD hS => ?_)
                              have hP : va_P D vwCl (fb_wX0 cI h0 qf qn qw ql sz mi fg_84 nt_85 wt wl_89 ++ [(q87, .inl (cI, 4, .inl (upd (upd (upd f90 (0 : Int32).toNatClampNeg ((f90 (0 : Int32).toNatClampNeg) + v93)) (1 : Int32).toNatClampNeg (((upd f90 (0 : Int32).toNatClampNeg ((f90 (0 : Int32).toNatClampNeg) + v93)) (1 : Int32).toNatClampNeg) + v95)) (2 : Int32).toNatClampNeg (((upd (upd f90 (0 : Int32).toNatClampNeg ((f90 (0 : Int32).toNatClampNeg) + v93)) (1 : Int32).toNatClampNeg (((upd f90 (0 : Int32).toNatClampNeg ((f90 (0 : Int32).toNatClampNeg) + v93)) (1 : Int32).toNatClampNeg) + v95)) (2 : Int32).toNatClampNeg) + v97))))]) H := hP
                              have hD : va_D A (fb_wX0 cI h0 qf qn qw ql sz mi fg_84 nt_85 wt wl_89 ++ [(q87, .inl (cI, 4, .inl (upd (upd (upd f90 (0 : Int32).toNatClampNeg ((f90 (0 : Int32).toNatClampNeg) + v93)) (1 : Int32).toNatClampNeg (((upd f90 (0 : Int32).toNatClampNeg ((f90 (0 : Int32).toNatClampNeg) + v93)) (1 : Int32).toNatClampNeg) + v95)) (2 : Int32).toNatClampNeg (((upd (upd f90 (0 : Int32).toNatClampNeg ((f90 (0 : Int32).toNatClampNeg) + v93)) (1 : Int32).toNatClampNeg (((upd f90 (0 : Int32).toNatClampNeg ((f90 (0 : Int32).toNatClampNeg) + v93)) (1 : Int32).toNatClampNeg) + v95)) (2 : Int32).toNatClampNeg) + v97))))]) := hD
                              refine lv_iconst (v := 0) hx hb dL_law_484 (by decide) ?_
                              refine lv_istore (lv' := [(19, .int 0), (18, .int v88), (17, .ref q87), (0, .ref b), (2, .ref h0), (3, .int v3), (4, .int v4)]) hx hb dL_law_485 hl (by decide) rfl (fun ls hl => ?_)
                              have LL_law_487 : ∀ (n9 : Nat) (v98 : Int32) (f99 : Nat → Int32) (o103 : Int32) (o104 : Nat → Int32), lpL_law_487 sz mi wt fg_84 nt_85 v88 wl_89 n9 v98 f99 = some (o103, o104) → ∀ (ce487 sl487 : Nat), ce487 + n9 * 1 ≤ (ce436 + 17) → sl487 + n9 * 6 ≤ (sl436 + 102) → ∀ (H : Heap) (locs : List Loc), va_P D vwCl (fb_wX0 cI h0 qf qn qw ql sz mi fg_84 nt_85 wt wl_89 ++ [(q87, .inl (cI, 4, .inl f99))]) H → va_D A (fb_wX0 cI h0 qf qn qw ql sz mi fg_84 nt_85 wt wl_89 ++ [(q87, .inl (cI, 4, .inl f99))]) → va_S A s.heap H locs → ∀ (ls : Array Slot), lv_has ls 20 [(19, .int v98), (18, .int v88), (17, .ref q87), (0, .ref b), (2, .ref h0), (3, .int v3), (4, .int v4)] → (∀ (H : Heap) (locs : List Loc), va_P D vwCl (fb_wX0 cI h0 qf qn qw ql sz mi fg_84 nt_85 wt wl_89 ++ [(q87, .inl (cI, 4, .inl o104))]) H → va_D A (fb_wX0 cI h0 qf qn qw ql sz mi fg_84 nt_85 wt wl_89 ++ [(q87, .inl (cI, 4, .inl o104))]) → va_S A s.heap H locs → ∀ (ls : Array Slot), lv_has ls 20 [(19, .int o103), (18, .int v88), (17, .ref q87), (0, .ref b), (2, .ref h0), (3, .int v3), (4, .int v4)] → W p l e room_1 s m #[Value.ref b] below meth c H locs (ce436 + 17) (sl436 + 102) (lw_Z below #[Value.ref b] s0) (F0 m 515 ls [])) → W p l e room_1 s m #[Value.ref b] below meth c H locs ce487 sl487 (lw_Z below #[Value.ref b] s0) (F0 m 487 ls []) := by
                                intro n9
                                induction n9 with
                                | zero =>
                                  intro v98 f99 o103 o104 h
                                  rw [lpL_law_487.eq_1] at h
                                  cases h
                                | succ n9 ih487 =>
                                  intro v98 f99 o103 o104 h ce487 sl487 hce487 hsl487 H locs hP hD hS ls hl kx487
                                  rw [lpL_law_487.eq_2] at h
                                  refine lv_iload hx hb dL_law_487 (lv_at hl 0 rfl) ?_
                                  refine lv_bipush (v := 8) hx hb dL_law_489 (by decide) ?_
                                  refine lv_icmp_ge (tgt := 515) hx hb dL_law_491 (by decide) (fun c100 => ?_) (fun c100 => ?_)
                                  · replace h := fb_it c100 h
                                    obtain ⟨e1, e2⟩ := fb_p2 h
                                    subst e1
                                    subst e2
                                    refine W.widen (k := (ce436 + 17)) (n := (sl436 + 102)) (by omega) (by omega) ?_
                                    exact kx487 H locs hP hD hS ls (lv_sub hl [0, 1, 2, 3, 4, 5, 6] rfl)
                                  · replace h := fb_ie c100 h
                                    refine lv_aload hx hb dL_law_494 (lv_at hl 2 rfl) ?_
                                    refine lv_iconst (v := 3) hx hb dL_law_496 (by decide) ?_
                                    refine lv_dup2_11 hx hb dL_law_497 rfl rfl ?_
                                    refine va_iald hx hb hK hP 5 0 rfl rfl (fb_ixin (by decide)) dL_law_498 ?_
                                    refine lv_aload_n hx hb dL_law_499 rfl (lv_at hl 4 rfl) ?_
                                    refine lv_iload hx hb dL_law_500 (lv_at hl 1 rfl) ?_
                                    refine lv_iload hx hb dL_law_502 (lv_at hl 0 rfl) ?_
                                    obtain ⟨re, h101, h⟩ := fb_b1s h
                                    have hPc : va_P D vwCl (fb_wX0 cI h0 qf qn qw ql sz mi fg_84 nt_85 wt wl_89) H := hP.sub [0, 1, 2, 3, 4] rfl
                                    have hDc : va_D A (fb_wX0 cI h0 qf qn qw ql sz mi fg_84 nt_85 wt wl_89) := hD.sub [0, 1, 2, 3, 4] (by decide) rfl
                                    have hFc := va_free (wc := fb_wX0 cI h0 qf qn qw ql sz mi fg_84 nt_85 wt wl_89) hD hS hA [0, 1, 2, 3, 4] rfl
                                    refine fb_callT (vx_runV (As := [.int v88, .int v98]) (rest := [.int (f99 (3 : Int32).toNatClampNeg), .int 3, .ref q87]) ⟨hx, hb, hml, hown, hts⟩ (metX0_faults l hfl D cI h0 qf qn qw ql B0 sz mi fg_84 nt_85 wt wl_89 v88 v98 H.size _ h101) (cwV 2 hts gL_law_X0_faults rfl rfl rfl (by decide +kernel) ⟨Nat.le_of_ble_eq_true rfl, Nat.le_of_ble_eq_true rfl⟩) (fb_preVM (ci := 0) fb_sXTp hPc hK hDc hZT hS hAB hA rfl rfl _) rfl rfl hl.1 rfl (lv_room (Nat.le_of_ble_eq_true rfl)) dL_law_504 ⟨(show ce487 + 0 + 1 ≤ 804873 by omega), (show sl487 + 0 + 6 ≤ 6686849 by omega)⟩) hS (fun q _ h9 => hFc q h9) hFc (fun x9 ce9 q9 H1 locs hre _ _ _ _ _ _ _ => ?_) (fun v102 H1 locs hre hP1 hD1 hk1 hS => ?_)
                                    · replace h := fb_mter hre h
                                      cases h
                                    replace h := fb_mtok hre h
                                    clear hre h101
                                    obtain ⟨hP, hD⟩ := va_join (wr := [(q87, .inl (cI, 4, .inl f99))]) (w1 := fb_wX0 cI h0 qf qn qw ql sz mi fg_84 nt_85 wt wl_89) hP hD [0, 1, 2, 3, 4] [5] rfl rfl (by decide) (by decide) hk1 hFc hP1 hD1
                                    have hP : va_P D vwCl (fb_wX0 cI h0 qf qn qw ql sz mi fg_84 nt_85 wt wl_89 ++ [(q87, .inl (cI, 4, .inl f99))]) H1 := hP.sub [1, 2, 3, 4, 5, 0] rfl
                                    have hD : va_D A (fb_wX0 cI h0 qf qn qw ql sz mi fg_84 nt_85 wt wl_89 ++ [(q87, .inl (cI, 4, .inl f99))]) := hD.sub [1, 2, 3, 4, 5, 0] (by decide) rfl
                                    generalize H1 = H at hP hS
                                    refine lv_iadd hx hb dL_law_507 ?_
                                    refine va_iast hx hb hK hP hD hS 5 0 rfl rfl (fb_ixin (by decide)) dL_law_508 (fun H locs hP hD hS => ?_)
                                    have hP : va_P D vwCl (fb_wX0 cI h0 qf qn qw ql sz mi fg_84 nt_85 wt wl_89 ++ [(q87, .inl (cI, 4, .inl (upd f99 (3 : Int32).toNatClampNeg ((f99 (3 : Int32).toNatClampNeg) + v102))))]) H := hP
                                    have hD : va_D A (fb_wX0 cI h0 qf qn qw ql sz mi fg_84 nt_85 wt wl_89 ++ [(q87, .inl (cI, 4, .inl (upd f99 (3 : Int32).toNatClampNeg ((f99 (3 : Int32).toNatClampNeg) + v102))))]) := hD
                                    refine lv_iinc (v := v98 + 1) (lv' := [(19, .int (v98 + 1)), (18, .int v88), (17, .ref q87), (0, .ref b), (2, .ref h0), (3, .int v3), (4, .int v4)]) hx hb dL_law_509 hl (k := 0) rfl rfl (by decide) rfl (fun ls hl => ?_)
                                    refine lv_goto (tgt := 487) hx hb dL_law_512 (by decide) ?_
                                    refine W.widen (k := ce487 + 1) (n := sl487 + 6) (by omega) (by omega) ?_
                                    exact ih487 _ _ o103 o104 h _ _ (by omega) (by omega) H locs hP hD hS ls (lv_sub hl [0, 1, 2, 3, 4, 5, 6] rfl) kx487
                              obtain ⟨o103, o104, h137, h⟩ := fb_b2s h
                              refine LL_law_487 _ _ _ o103 o104 h137 _ _ (by omega) (by omega) H locs hP hD hS ls (lv_sub hl [0, 1, 2, 3, 4, 5, 6] rfl) (fun H locs hP hD hS ls hl => ?_)
                              refine lv_aload_n hx hb dL_law_515 rfl (lv_at hl 4 rfl) ?_
                              refine lv_iload hx hb dL_law_516 (lv_at hl 1 rfl) ?_
                              refine lv_iconst (v := 3) hx hb dL_law_518 (by decide) ?_
                              obtain ⟨re, h105, h⟩ := fb_b1s h
                              have hPc : va_P D vwCl (fb_wX0 cI h0 qf qn qw ql sz mi fg_84 nt_85 wt wl_89) H := hP.sub [0, 1, 2, 3, 4] rfl
                              have hDc : va_D A (fb_wX0 cI h0 qf qn qw ql sz mi fg_84 nt_85 wt wl_89) := hD.sub [0, 1, 2, 3, 4] (by decide) rfl
                              have hFc := va_free (wc := fb_wX0 cI h0 qf qn qw ql sz mi fg_84 nt_85 wt wl_89) hD hS hA [0, 1, 2, 3, 4] rfl
                              refine fb_callT (vx_runV (As := [.int v88, .int 3]) (rest := []) ⟨hx, hb, hml, hown, hts⟩ (metX0_told l hfl D cI h0 qf qn qw ql B0 sz mi fg_84 nt_85 wt wl_89 v88 3 H.size _ h105) (cwV 2 hts gL_law_X0_told rfl rfl rfl (by decide +kernel) ⟨Nat.le_of_ble_eq_true rfl, Nat.le_of_ble_eq_true rfl⟩) (fb_preVM (ci := 0) fb_sXTp hPc hK hDc hZT hS hAB hA rfl rfl _) rfl rfl hl.1 rfl (lv_room (Nat.le_of_ble_eq_true rfl)) dL_law_519 ⟨(show ce436 + 17 + 1 ≤ 804873 by omega), (show sl436 + 102 + 6 ≤ 6686849 by omega)⟩) hS (fun q _ h9 => hFc q h9) hFc (fun x9 ce9 q9 H1 locs hre _ _ _ _ _ _ _ => ?_) (fun v106 H1 locs hre hP1 hD1 hk1 hS => ?_)
                              · replace h := fb_mter hre h
                                cases h
                              replace h := fb_mtok hre h
                              clear hre h105
                              obtain ⟨hP, hD⟩ := va_join (wr := [(q87, .inl (cI, 4, .inl o104))]) (w1 := fb_wX0 cI h0 qf qn qw ql sz mi fg_84 nt_85 wt wl_89) hP hD [0, 1, 2, 3, 4] [5] rfl rfl (by decide) (by decide) hk1 hFc hP1 hD1
                              have hP : va_P D vwCl (fb_wX0 cI h0 qf qn qw ql sz mi fg_84 nt_85 wt wl_89 ++ [(q87, .inl (cI, 4, .inl o104))]) H1 := hP.sub [1, 2, 3, 4, 5, 0] rfl
                              have hD : va_D A (fb_wX0 cI h0 qf qn qw ql sz mi fg_84 nt_85 wt wl_89 ++ [(q87, .inl (cI, 4, .inl o104))]) := hD.sub [1, 2, 3, 4, 5, 0] (by decide) rfl
                              generalize H1 = H at hP hS
                              refine lv_aload_n hx hb dL_law_522 rfl (lv_at hl 4 rfl) ?_
                              refine lv_iload hx hb dL_law_523 (lv_at hl 1 rfl) ?_
                              refine lv_iconst (v := 2) hx hb dL_law_525 (by decide) ?_
                              obtain ⟨re, h107, h⟩ := fb_b1s h
                              have hPc : va_P D vwCl (fb_wX0 cI h0 qf qn qw ql sz mi fg_84 nt_85 wt wl_89) H := hP.sub [0, 1, 2, 3, 4] rfl
                              have hDc : va_D A (fb_wX0 cI h0 qf qn qw ql sz mi fg_84 nt_85 wt wl_89) := hD.sub [0, 1, 2, 3, 4] (by decide) rfl
                              have hFc := va_free (wc := fb_wX0 cI h0 qf qn qw ql sz mi fg_84 nt_85 wt wl_89) hD hS hA [0, 1, 2, 3, 4] rfl
                              refine fb_callT (vx_runV (As := [.int v88, .int 2]) (rest := [.int v106]) ⟨hx, hb, hml, hown, hts⟩ (metX0_told l hfl D cI h0 qf qn qw ql B0 sz mi fg_84 nt_85 wt wl_89 v88 2 H.size _ h107) (cwV 2 hts gL_law_X0_told rfl rfl rfl (by decide +kernel) ⟨Nat.le_of_ble_eq_true rfl, Nat.le_of_ble_eq_true rfl⟩) (fb_preVM (ci := 0) fb_sXTp hPc hK hDc hZT hS hAB hA rfl rfl _) rfl rfl hl.1 rfl (lv_room (Nat.le_of_ble_eq_true rfl)) dL_law_526 ⟨(show ce436 + 18 + 1 ≤ 804873 by omega), (show sl436 + 108 + 6 ≤ 6686849 by omega)⟩) hS (fun q _ h9 => hFc q h9) hFc (fun x9 ce9 q9 H1 locs hre _ _ _ _ _ _ _ => ?_) (fun v108 H1 locs hre hP1 hD1 hk1 hS => ?_)
                              · replace h := fb_mter hre h
                                cases h
                              replace h := fb_mtok hre h
                              clear hre h107
                              obtain ⟨hP, hD⟩ := va_join (wr := [(q87, .inl (cI, 4, .inl o104))]) (w1 := fb_wX0 cI h0 qf qn qw ql sz mi fg_84 nt_85 wt wl_89) hP hD [0, 1, 2, 3, 4] [5] rfl rfl (by decide) (by decide) hk1 hFc hP1 hD1
                              have hP : va_P D vwCl (fb_wX0 cI h0 qf qn qw ql sz mi fg_84 nt_85 wt wl_89 ++ [(q87, .inl (cI, 4, .inl o104))]) H1 := hP.sub [1, 2, 3, 4, 5, 0] rfl
                              have hD : va_D A (fb_wX0 cI h0 qf qn qw ql sz mi fg_84 nt_85 wt wl_89 ++ [(q87, .inl (cI, 4, .inl o104))]) := hD.sub [1, 2, 3, 4, 5, 0] (by decide) rfl
                              generalize H1 = H at hP hS
                              refine lv_icmp_gt (tgt := 620) hx hb dL_law_529 (by decide) (fun c109 => ?_) (fun c109 => ?_)
                              · replace h := fb_it c109 h
                                cases h
                              · replace h := fb_ie c109 h
                                refine lv_aload_n hx hb dL_law_532 rfl (lv_at hl 4 rfl) ?_
                                refine lv_iload hx hb dL_law_533 (lv_at hl 1 rfl) ?_
                                refine lv_iconst (v := 5) hx hb dL_law_535 (by decide) ?_
                                obtain ⟨re, h110, h⟩ := fb_b1s h
                                have hPc : va_P D vwCl (fb_wX0 cI h0 qf qn qw ql sz mi fg_84 nt_85 wt wl_89) H := hP.sub [0, 1, 2, 3, 4] rfl
                                have hDc : va_D A (fb_wX0 cI h0 qf qn qw ql sz mi fg_84 nt_85 wt wl_89) := hD.sub [0, 1, 2, 3, 4] (by decide) rfl
                                have hFc := va_free (wc := fb_wX0 cI h0 qf qn qw ql sz mi fg_84 nt_85 wt wl_89) hD hS hA [0, 1, 2, 3, 4] rfl
                                refine fb_callT (vx_runV (As := [.int v88, .int 5]) (rest := []) ⟨hx, hb, hml, hown, hts⟩ (metX0_told l hfl D cI h0 qf qn qw ql B0 sz mi fg_84 nt_85 wt wl_89 v88 5 H.size _ h110) (cwV 2 hts gL_law_X0_told rfl rfl rfl (by decide +kernel) ⟨Nat.le_of_ble_eq_true rfl, Nat.le_of_ble_eq_true rfl⟩) (fb_preVM (ci := 0) fb_sXTp hPc hK hDc hZT hS hAB hA rfl rfl _) rfl rfl hl.1 rfl (lv_room (Nat.le_of_ble_eq_true rfl)) dL_law_536 ⟨(show ce436 + 19 + 1 ≤ 804873 by omega), (show sl436 + 114 + 6 ≤ 6686849 by omega)⟩) hS (fun q _ h9 => hFc q h9) hFc (fun x9 ce9 q9 H1 locs hre _ _ _ _ _ _ _ => ?_) (fun v111 H1 locs hre hP1 hD1 hk1 hS => ?_)
                                · replace h := fb_mter hre h
                                  cases h
                                replace h := fb_mtok hre h
                                clear hre h110
                                obtain ⟨hP, hD⟩ := va_join (wr := [(q87, .inl (cI, 4, .inl o104))]) (w1 := fb_wX0 cI h0 qf qn qw ql sz mi fg_84 nt_85 wt wl_89) hP hD [0, 1, 2, 3, 4] [5] rfl rfl (by decide) (by decide) hk1 hFc hP1 hD1
                                have hP : va_P D vwCl (fb_wX0 cI h0 qf qn qw ql sz mi fg_84 nt_85 wt wl_89 ++ [(q87, .inl (cI, 4, .inl o104))]) H1 := hP.sub [1, 2, 3, 4, 5, 0] rfl
                                have hD : va_D A (fb_wX0 cI h0 qf qn qw ql sz mi fg_84 nt_85 wt wl_89 ++ [(q87, .inl (cI, 4, .inl o104))]) := hD.sub [1, 2, 3, 4, 5, 0] (by decide) rfl
                                generalize H1 = H at hP hS
                                refine lv_aload_n hx hb dL_law_539 rfl (lv_at hl 4 rfl) ?_
                                refine lv_iload hx hb dL_law_540 (lv_at hl 1 rfl) ?_
                                refine lv_iconst (v := 4) hx hb dL_law_542 (by decide) ?_
                                obtain ⟨re, h112, h⟩ := fb_b1s h
                                have hPc : va_P D vwCl (fb_wX0 cI h0 qf qn qw ql sz mi fg_84 nt_85 wt wl_89) H := hP.sub [0, 1, 2, 3, 4] rfl
                                have hDc : va_D A (fb_wX0 cI h0 qf qn qw ql sz mi fg_84 nt_85 wt wl_89) := hD.sub [0, 1, 2, 3, 4] (by decide) rfl
                                have hFc := va_free (wc := fb_wX0 cI h0 qf qn qw ql sz mi fg_84 nt_85 wt wl_89) hD hS hA [0, 1, 2, 3, 4] rfl
                                refine fb_callT (vx_runV (As := [.int v88, .int 4]) (rest := [.int v111]) ⟨hx, hb, hml, hown, hts⟩ (metX0_told l hfl D cI h0 qf qn qw ql B0 sz mi fg_84 nt_85 wt wl_89 v88 4 H.size _ h112) (cwV 2 hts gL_law_X0_told rfl rfl rfl (by decide +kernel) ⟨Nat.le_of_ble_eq_true rfl, Nat.le_of_ble_eq_true rfl⟩) (fb_preVM (ci := 0) fb_sXTp hPc hK hDc hZT hS hAB hA rfl rfl _) rfl rfl hl.1 rfl (lv_room (Nat.le_of_ble_eq_true rfl)) dL_law_543 ⟨(show ce436 + 20 + 1 ≤ 804873 by omega), (show sl436 + 120 + 6 ≤ 6686849 by omega)⟩) hS (fun q _ h9 => hFc q h9) hFc (fun x9 ce9 q9 H1 locs hre _ _ _ _ _ _ _ => ?_) (fun v113 H1 locs hre hP1 hD1 hk1 hS => ?_)
                                · replace h := fb_mter hre h
                                  cases h
                                replace h := fb_mtok hre h
                                clear hre h112
                                obtain ⟨hP, hD⟩ := va_join (wr := [(q87, .inl (cI, 4, .inl o104))]) (w1 := fb_wX0 cI h0 qf qn qw ql sz mi fg_84 nt_85 wt wl_89) hP hD [0, 1, 2, 3, 4] [5] rfl rfl (by decide) (by decide) hk1 hFc hP1 hD1
                                have hP : va_P D vwCl (fb_wX0 cI h0 qf qn qw ql sz mi fg_84 nt_85 wt wl_89 ++ [(q87, .inl (cI, 4, .inl o104))]) H1 := hP.sub [1, 2, 3, 4, 5, 0] rfl
                                have hD : va_D A (fb_wX0 cI h0 qf qn qw ql sz mi fg_84 nt_85 wt wl_89 ++ [(q87, .inl (cI, 4, .inl o104))]) := hD.sub [1, 2, 3, 4, 5, 0] (by decide) rfl
                                generalize H1 = H at hP hS
                                refine lv_icmp_lt (tgt := 620) hx hb dL_law_546 (by decide) (fun c114 => ?_) (fun c114 => ?_)
                                · replace h := fb_it c114 h
                                  cases h
                                · replace h := fb_ie c114 h
                                  refine lv_aload_n hx hb dL_law_549 rfl (lv_at hl 4 rfl) ?_
                                  refine lv_iload hx hb dL_law_550 (lv_at hl 1 rfl) ?_
                                  refine lv_iconst (v := 3) hx hb dL_law_552 (by decide) ?_
                                  obtain ⟨re, h115, h⟩ := fb_b1s h
                                  have hPc : va_P D vwCl (fb_wX0 cI h0 qf qn qw ql sz mi fg_84 nt_85 wt wl_89) H := hP.sub [0, 1, 2, 3, 4] rfl
                                  have hDc : va_D A (fb_wX0 cI h0 qf qn qw ql sz mi fg_84 nt_85 wt wl_89) := hD.sub [0, 1, 2, 3, 4] (by decide) rfl
                                  have hFc := va_free (wc := fb_wX0 cI h0 qf qn qw ql sz mi fg_84 nt_85 wt wl_89) hD hS hA [0, 1, 2, 3, 4] rfl
                                  refine fb_callT (vx_runV (As := [.int v88, .int 3]) (rest := []) ⟨hx, hb, hml, hown, hts⟩ (metX0_told l hfl D cI h0 qf qn qw ql B0 sz mi fg_84 nt_85 wt wl_89 v88 3 H.size _ h115) (cwV 2 hts gL_law_X0_told rfl rfl rfl (by decide +kernel) ⟨Nat.le_of_ble_eq_true rfl, Nat.le_of_ble_eq_true rfl⟩) (fb_preVM (ci := 0) fb_sXTp hPc hK hDc hZT hS hAB hA rfl rfl _) rfl rfl hl.1 rfl (lv_room (Nat.le_of_ble_eq_true rfl)) dL_law_553 ⟨(show ce436 + 21 + 1 ≤ 804873 by omega), (show sl436 + 126 + 6 ≤ 6686849 by omega)⟩) hS (fun q _ h9 => hFc q h9) hFc (fun x9 ce9 q9 H1 locs hre _ _ _ _ _ _ _ => ?_) (fun v116 H1 locs hre hP1 hD1 hk1 hS => ?_)
                                  · replace h := fb_mter hre h
                                    cases h
                                  replace h := fb_mtok hre h
                                  clear hre h115
                                  obtain ⟨hP, hD⟩ := va_join (wr := [(q87, .inl (cI, 4, .inl o104))]) (w1 := fb_wX0 cI h0 qf qn qw ql sz mi fg_84 nt_85 wt wl_89) hP hD [0, 1, 2, 3, 4] [5] rfl rfl (by decide) (by decide) hk1 hFc hP1 hD1
                                  have hP : va_P D vwCl (fb_wX0 cI h0 qf qn qw ql sz mi fg_84 nt_85 wt wl_89 ++ [(q87, .inl (cI, 4, .inl o104))]) H1 := hP.sub [1, 2, 3, 4, 5, 0] rfl
                                  have hD : va_D A (fb_wX0 cI h0 qf qn qw ql sz mi fg_84 nt_85 wt wl_89 ++ [(q87, .inl (cI, 4, .inl o104))]) := hD.sub [1, 2, 3, 4, 5, 0] (by decide) rfl
                                  generalize H1 = H at hP hS
                                  refine lv_iconst (v := 1) hx hb dL_law_556 (by decide) ?_
                                  obtain ⟨wl_136, hjJ6, h⟩ := fb_b1s h
                                  have J6 : ∀ (H : Heap) (locs : List Loc), va_P D vwCl (fb_wX0 cI h0 qf qn qw ql sz mi fg_84 nt_85 wt wl_136 ++ [(q87, .inl (cI, 4, .inl o104))]) H → va_D A (fb_wX0 cI h0 qf qn qw ql sz mi fg_84 nt_85 wt wl_136 ++ [(q87, .inl (cI, 4, .inl o104))]) → va_S A s.heap H locs → ∀ (ls : Array Slot), lv_has ls 20 [(18, .int v88), (17, .ref q87), (0, .ref b), (2, .ref h0), (3, .int v3), (4, .int v4)] → W p l e room_1 s m #[Value.ref b] below meth c H locs (ce436 + 29) (sl436 + 174) (lw_Z below #[Value.ref b] s0) (F0 m 622 ls []) := by
                                    intro H locs hP hD hS ls hl
                                    refine lv_iinc (v := v88 + 1) (lv' := [(18, .int (v88 + 1)), (17, .ref q87), (0, .ref b), (2, .ref h0), (3, .int v3), (4, .int v4)]) hx hb dL_law_622 hl (k := 0) rfl rfl (by decide) rfl (fun ls hl => ?_)
                                    refine lv_goto (tgt := 436) hx hb dL_law_625 (by decide) ?_
                                    refine W.widen (k := ce436 + 29) (n := sl436 + 174) (by omega) (by omega) ?_
                                    exact ih436 _ _ _ o138 o139 o140 h _ _ (by omega) (by omega) H locs hP hD hS ls (lv_sub hl [0, 1, 2, 3, 4, 5] rfl) kx436
                                  replace h := hjJ6
                                  refine lv_icmp_ne (tgt := 622) hx hb dL_law_557 (by decide) (fun c117 => ?_) (fun c117 => ?_)
                                  · replace h := fb_ie c117 h
                                    have h := Option.some.inj h
                                    subst h
                                    refine W.widen (k := (ce436 + 29)) (n := (sl436 + 174)) (by omega) (by omega) ?_
                                    exact J6 H locs hP hD hS ls (lv_sub hl [1, 2, 3, 4, 5, 6] rfl)
                                  · replace h := fb_it c117 h
                                    refine lv_aload_n hx hb dL_law_560 rfl (lv_at hl 4 rfl) ?_
                                    refine lv_iload hx hb dL_law_561 (lv_at hl 1 rfl) ?_
                                    obtain ⟨re, h118, h⟩ := fb_b1s h
                                    have hPc : va_P D vwCl (fb_wX0 cI h0 qf qn qw ql sz mi fg_84 nt_85 wt wl_89) H := hP.sub [0, 1, 2, 3, 4] rfl
                                    have hDc : va_D A (fb_wX0 cI h0 qf qn qw ql sz mi fg_84 nt_85 wt wl_89) := hD.sub [0, 1, 2, 3, 4] (by decide) rfl
                                    have hFc := va_free (wc := fb_wX0 cI h0 qf qn qw ql sz mi fg_84 nt_85 wt wl_89) hD hS hA [0, 1, 2, 3, 4] rfl
                                    refine fb_callT (vx_runV (As := [.int v88]) (rest := []) ⟨hx, hb, hml, hown, hts⟩ (metX0_ways l hfl D cI h0 qf qn qw ql B0 sz mi fg_84 nt_85 wt wl_89 v88 H.size _ h118) (cwV 1 hts gL_law_X0_ways rfl rfl rfl (by decide +kernel) ⟨Nat.le_of_ble_eq_true rfl, Nat.le_of_ble_eq_true rfl⟩) (fb_preVM (ci := 0) fb_sXTp hPc hK hDc hZT hS hAB hA rfl rfl _) rfl rfl hl.1 rfl (lv_room (Nat.le_of_ble_eq_true rfl)) dL_law_563 ⟨(show ce436 + 22 + 1 ≤ 804873 by omega), (show sl436 + 132 + 6 ≤ 6686849 by omega)⟩) hS (fun q _ h9 => hFc q h9) hFc (fun x9 ce9 q9 H1 locs hre _ _ _ _ _ _ _ => ?_) (fun v119 H1 locs hre hP1 hD1 hk1 hS => ?_)
                                    · replace h := fb_mter hre h
                                      cases h
                                    replace h := fb_mtok hre h
                                    clear hre h118
                                    obtain ⟨hP, hD⟩ := va_join (wr := [(q87, .inl (cI, 4, .inl o104))]) (w1 := fb_wX0 cI h0 qf qn qw ql sz mi fg_84 nt_85 wt v119.2) hP hD [0, 1, 2, 3, 4] [5] rfl rfl (by decide) (by decide) hk1 hFc hP1 hD1
                                    have hP : va_P D vwCl (fb_wX0 cI h0 qf qn qw ql sz mi fg_84 nt_85 wt v119.2 ++ [(q87, .inl (cI, 4, .inl o104))]) H1 := hP.sub [1, 2, 3, 4, 5, 0] rfl
                                    have hD : va_D A (fb_wX0 cI h0 qf qn qw ql sz mi fg_84 nt_85 wt v119.2 ++ [(q87, .inl (cI, 4, .inl o104))]) := hD.sub [1, 2, 3, 4, 5, 0] (by decide) rfl
                                    generalize H1 = H at hP hS
                                    refine lv_if_eq (tgt := 620) hx hb dL_law_566 (by decide) (fun c120 => ?_) (fun c120 => ?_)
                                    · replace h := fb_it c120 h
                                      cases h
                                    · replace h := fb_ie c120 h
                                      refine lv_aload_n hx hb dL_law_569 rfl (lv_at hl 4 rfl) ?_
                                      refine lv_iload hx hb dL_law_570 (lv_at hl 1 rfl) ?_
                                      refine lv_iconst (v := 1) hx hb dL_law_572 (by decide) ?_
                                      refine lv_aload_n hx hb dL_law_573 rfl (lv_at hl 4 rfl) ?_
                                      refine lv_iload hx hb dL_law_574 (lv_at hl 1 rfl) ?_
                                      refine lv_iconst (v := 1) hx hb dL_law_576 (by decide) ?_
                                      obtain ⟨re, h121, h⟩ := fb_b1s h
                                      have hPc : va_P D vwCl (fb_wX0 cI h0 qf qn qw ql sz mi fg_84 nt_85 wt v119.2) H := hP.sub [0, 1, 2, 3, 4] rfl
                                      have hDc : va_D A (fb_wX0 cI h0 qf qn qw ql sz mi fg_84 nt_85 wt v119.2) := hD.sub [0, 1, 2, 3, 4] (by decide) rfl
                                      have hFc := va_free (wc := fb_wX0 cI h0 qf qn qw ql sz mi fg_84 nt_85 wt v119.2) hD hS hA [0, 1, 2, 3, 4] rfl
                                      refine fb_callT (vx_runV (As := [.int v88, .int 1]) (rest := [.int 1, .int v88, .ref h0]) ⟨hx, hb, hml, hown, hts⟩ (metX0_note l hfl D cI h0 qf qn qw ql B0 sz mi fg_84 nt_85 wt v119.2 v88 1 H.size _ h121) (cwV 2 hts gL_law_X0_note rfl rfl rfl (by decide +kernel) ⟨Nat.le_of_ble_eq_true rfl, Nat.le_of_ble_eq_true rfl⟩) (fb_preVM (ci := 0) fb_sXTp hPc hK hDc hZT hS hAB hA rfl rfl _) rfl rfl hl.1 rfl (lv_room (Nat.le_of_ble_eq_true rfl)) dL_law_577 ⟨(show ce436 + 23 + 1 ≤ 804873 by omega), (show sl436 + 138 + 6 ≤ 6686849 by omega)⟩) hS (fun q _ h9 => hFc q h9) hFc (fun x9 ce9 q9 H1 locs hre _ _ _ _ _ _ _ => ?_) (fun v122 H1 locs hre hP1 hD1 hk1 hS => ?_)
                                      · replace h := fb_mter hre h
                                        cases h
                                      replace h := fb_mtok hre h
                                      clear hre h121
                                      obtain ⟨hP, hD⟩ := va_join (wr := [(q87, .inl (cI, 4, .inl o104))]) (w1 := fb_wX0 cI h0 qf qn qw ql sz mi fg_84 nt_85 wt v119.2) hP hD [0, 1, 2, 3, 4] [5] rfl rfl (by decide) (by decide) hk1 hFc hP1 hD1
                                      have hP : va_P D vwCl (fb_wX0 cI h0 qf qn qw ql sz mi fg_84 nt_85 wt v119.2 ++ [(q87, .inl (cI, 4, .inl o104))]) H1 := hP.sub [1, 2, 3, 4, 5, 0] rfl
                                      have hD : va_D A (fb_wX0 cI h0 qf qn qw ql sz mi fg_84 nt_85 wt v119.2 ++ [(q87, .inl (cI, 4, .inl o104))]) := hD.sub [1, 2, 3, 4, 5, 0] (by decide) rfl
                                      generalize H1 = H at hP hS
                                      obtain ⟨re, h123, h⟩ := fb_b1s h
                                      have hPc : va_P D vwCl (fb_wX0 cI h0 qf qn qw ql sz mi fg_84 nt_85 wt v119.2) H := hP.sub [0, 1, 2, 3, 4] rfl
                                      have hDc : va_D A (fb_wX0 cI h0 qf qn qw ql sz mi fg_84 nt_85 wt v119.2) := hD.sub [0, 1, 2, 3, 4] (by decide) rfl
                                      have hFc := va_free (wc := fb_wX0 cI h0 qf qn qw ql sz mi fg_84 nt_85 wt v119.2) hD hS hA [0, 1, 2, 3, 4] rfl
                                      refine fb_callT (vx_runV (As := [.int v88, .int 1, .int v122]) (rest := []) ⟨hx, hb, hml, hown, hts⟩ (metX0_fits l hfl D cI h0 qf qn qw ql B0 sz mi fg_84 nt_85 wt v119.2 v88 1 v122 H.size _ h123) (cwV 3 hts gL_law_X0_fits rfl rfl rfl (by decide +kernel) ⟨Nat.le_of_ble_eq_true rfl, Nat.le_of_ble_eq_true rfl⟩) (fb_preVM (ci := 0) fb_sXTp hPc hK hDc hZT hS hAB hA rfl rfl _) rfl rfl hl.1 rfl (lv_room (Nat.le_of_ble_eq_true rfl)) dL_law_580 ⟨(show ce436 + 24 + 1 ≤ 804873 by omega), (show sl436 + 144 + 6 ≤ 6686849 by omega)⟩) hS (fun q _ h9 => hFc q h9) hFc (fun x9 ce9 q9 H1 locs hre _ _ _ _ _ _ _ => ?_) (fun v124 H1 locs hre hP1 hD1 hk1 hS => ?_)
                                      · replace h := fb_mter hre h
                                        cases h
                                      replace h := fb_mtok hre h
                                      clear hre h123
                                      obtain ⟨hP, hD⟩ := va_join (wr := [(q87, .inl (cI, 4, .inl o104))]) (w1 := fb_wX0 cI h0 qf qn qw ql sz mi fg_84 nt_85 wt v119.2) hP hD [0, 1, 2, 3, 4] [5] rfl rfl (by decide) (by decide) hk1 hFc hP1 hD1
                                      have hP : va_P D vwCl (fb_wX0 cI h0 qf qn qw ql sz mi fg_84 nt_85 wt v119.2 ++ [(q87, .inl (cI, 4, .inl o104))]) H1 := hP.sub [1, 2, 3, 4, 5, 0] rfl
                                      have hD : va_D A (fb_wX0 cI h0 qf qn qw ql sz mi fg_84 nt_85 wt v119.2 ++ [(q87, .inl (cI, 4, .inl o104))]) := hD.sub [1, 2, 3, 4, 5, 0] (by decide) rfl
                                      generalize H1 = H at hP hS
                                      refine lv_if_eq (tgt := 620) hx hb dL_law_583 (by decide) (fun c125 => ?_) (fun c125 => ?_)
                                      · replace h := fb_it c125 h
                                        cases h
                                      · replace h := fb_ie c125 h
                                        refine lv_aload_n hx hb dL_law_586 rfl (lv_at hl 4 rfl) ?_
                                        refine lv_iload hx hb dL_law_587 (lv_at hl 1 rfl) ?_
                                        refine lv_iconst (v := 2) hx hb dL_law_589 (by decide) ?_
                                        refine lv_aload_n hx hb dL_law_590 rfl (lv_at hl 4 rfl) ?_
                                        refine lv_iload hx hb dL_law_591 (lv_at hl 1 rfl) ?_
                                        refine lv_iconst (v := 2) hx hb dL_law_593 (by decide) ?_
                                        obtain ⟨re, h126, h⟩ := fb_b1s h
                                        have hPc : va_P D vwCl (fb_wX0 cI h0 qf qn qw ql sz mi fg_84 nt_85 wt v119.2) H := hP.sub [0, 1, 2, 3, 4] rfl
                                        have hDc : va_D A (fb_wX0 cI h0 qf qn qw ql sz mi fg_84 nt_85 wt v119.2) := hD.sub [0, 1, 2, 3, 4] (by decide) rfl
                                        have hFc := va_free (wc := fb_wX0 cI h0 qf qn qw ql sz mi fg_84 nt_85 wt v119.2) hD hS hA [0, 1, 2, 3, 4] rfl
                                        refine fb_callT (vx_runV (As := [.int v88, .int 2]) (rest := [.int 2, .int v88, .ref h0]) ⟨hx, hb, hml, hown, hts⟩ (metX0_note l hfl D cI h0 qf qn qw ql B0 sz mi fg_84 nt_85 wt v119.2 v88 2 H.size _ h126) (cwV 2 hts gL_law_X0_note rfl rfl rfl (by decide +kernel) ⟨Nat.le_of_ble_eq_true rfl, Nat.le_of_ble_eq_true rfl⟩) (fb_preVM (ci := 0) fb_sXTp hPc hK hDc hZT hS hAB hA rfl rfl _) rfl rfl hl.1 rfl (lv_room (Nat.le_of_ble_eq_true rfl)) dL_law_594 ⟨(show ce436 + 25 + 1 ≤ 804873 by omega), (show sl436 + 150 + 6 ≤ 6686849 by omega)⟩) hS (fun q _ h9 => hFc q h9) hFc (fun x9 ce9 q9 H1 locs hre _ _ _ _ _ _ _ => ?_) (fun v127 H1 locs hre hP1 hD1 hk1 hS => ?_)
                                        · replace h := fb_mter hre h
                                          cases h
                                        replace h := fb_mtok hre h
                                        clear hre h126
                                        obtain ⟨hP, hD⟩ := va_join (wr := [(q87, .inl (cI, 4, .inl o104))]) (w1 := fb_wX0 cI h0 qf qn qw ql sz mi fg_84 nt_85 wt v119.2) hP hD [0, 1, 2, 3, 4] [5] rfl rfl (by decide) (by decide) hk1 hFc hP1 hD1
                                        have hP : va_P D vwCl (fb_wX0 cI h0 qf qn qw ql sz mi fg_84 nt_85 wt v119.2 ++ [(q87, .inl (cI, 4, .inl o104))]) H1 := hP.sub [1, 2, 3, 4, 5, 0] rfl
                                        have hD : va_D A (fb_wX0 cI h0 qf qn qw ql sz mi fg_84 nt_85 wt v119.2 ++ [(q87, .inl (cI, 4, .inl o104))]) := hD.sub [1, 2, 3, 4, 5, 0] (by decide) rfl
                                        generalize H1 = H at hP hS
                                        obtain ⟨re, h128, h⟩ := fb_b1s h
                                        have hPc : va_P D vwCl (fb_wX0 cI h0 qf qn qw ql sz mi fg_84 nt_85 wt v119.2) H := hP.sub [0, 1, 2, 3, 4] rfl
                                        have hDc : va_D A (fb_wX0 cI h0 qf qn qw ql sz mi fg_84 nt_85 wt v119.2) := hD.sub [0, 1, 2, 3, 4] (by decide) rfl
                                        have hFc := va_free (wc := fb_wX0 cI h0 qf qn qw ql sz mi fg_84 nt_85 wt v119.2) hD hS hA [0, 1, 2, 3, 4] rfl
                                        refine fb_callT (vx_runV (As := [.int v88, .int 2, .int v127]) (rest := []) ⟨hx, hb, hml, hown, hts⟩ (metX0_fits l hfl D cI h0 qf qn qw ql B0 sz mi fg_84 nt_85 wt v119.2 v88 2 v127 H.size _ h128) (cwV 3 hts gL_law_X0_fits rfl rfl rfl (by decide +kernel) ⟨Nat.le_of_ble_eq_true rfl, Nat.le_of_ble_eq_true rfl⟩) (fb_preVM (ci := 0) fb_sXTp hPc hK hDc hZT hS hAB hA rfl rfl _) rfl rfl hl.1 rfl (lv_room (Nat.le_of_ble_eq_true rfl)) dL_law_597 ⟨(show ce436 + 26 + 1 ≤ 804873 by omega), (show sl436 + 156 + 6 ≤ 6686849 by omega)⟩) hS (fun q _ h9 => hFc q h9) hFc (fun x9 ce9 q9 H1 locs hre _ _ _ _ _ _ _ => ?_) (fun v129 H1 locs hre hP1 hD1 hk1 hS => ?_)
                                        · replace h := fb_mter hre h
                                          cases h
                                        replace h := fb_mtok hre h
                                        clear hre h128
                                        obtain ⟨hP, hD⟩ := va_join (wr := [(q87, .inl (cI, 4, .inl o104))]) (w1 := fb_wX0 cI h0 qf qn qw ql sz mi fg_84 nt_85 wt v119.2) hP hD [0, 1, 2, 3, 4] [5] rfl rfl (by decide) (by decide) hk1 hFc hP1 hD1
                                        have hP : va_P D vwCl (fb_wX0 cI h0 qf qn qw ql sz mi fg_84 nt_85 wt v119.2 ++ [(q87, .inl (cI, 4, .inl o104))]) H1 := hP.sub [1, 2, 3, 4, 5, 0] rfl
                                        have hD : va_D A (fb_wX0 cI h0 qf qn qw ql sz mi fg_84 nt_85 wt v119.2 ++ [(q87, .inl (cI, 4, .inl o104))]) := hD.sub [1, 2, 3, 4, 5, 0] (by decide) rfl
                                        generalize H1 = H at hP hS
                                        refine lv_if_eq (tgt := 620) hx hb dL_law_600 (by decide) (fun c130 => ?_) (fun c130 => ?_)
                                        · replace h := fb_it c130 h
                                          cases h
                                        · replace h := fb_ie c130 h
                                          refine lv_aload_n hx hb dL_law_603 rfl (lv_at hl 4 rfl) ?_
                                          refine lv_iload hx hb dL_law_604 (lv_at hl 1 rfl) ?_
                                          refine lv_iconst (v := 3) hx hb dL_law_606 (by decide) ?_
                                          refine lv_aload_n hx hb dL_law_607 rfl (lv_at hl 4 rfl) ?_
                                          refine lv_iload hx hb dL_law_608 (lv_at hl 1 rfl) ?_
                                          refine lv_iconst (v := 3) hx hb dL_law_610 (by decide) ?_
                                          obtain ⟨re, h131, h⟩ := fb_b1s h
                                          have hPc : va_P D vwCl (fb_wX0 cI h0 qf qn qw ql sz mi fg_84 nt_85 wt v119.2) H := hP.sub [0, 1, 2, 3, 4] rfl
                                          have hDc : va_D A (fb_wX0 cI h0 qf qn qw ql sz mi fg_84 nt_85 wt v119.2) := hD.sub [0, 1, 2, 3, 4] (by decide) rfl
                                          have hFc := va_free (wc := fb_wX0 cI h0 qf qn qw ql sz mi fg_84 nt_85 wt v119.2) hD hS hA [0, 1, 2, 3, 4] rfl
                                          refine fb_callT (vx_runV (As := [.int v88, .int 3]) (rest := [.int 3, .int v88, .ref h0]) ⟨hx, hb, hml, hown, hts⟩ (metX0_note l hfl D cI h0 qf qn qw ql B0 sz mi fg_84 nt_85 wt v119.2 v88 3 H.size _ h131) (cwV 2 hts gL_law_X0_note rfl rfl rfl (by decide +kernel) ⟨Nat.le_of_ble_eq_true rfl, Nat.le_of_ble_eq_true rfl⟩) (fb_preVM (ci := 0) fb_sXTp hPc hK hDc hZT hS hAB hA rfl rfl _) rfl rfl hl.1 rfl (lv_room (Nat.le_of_ble_eq_true rfl)) dL_law_611 ⟨(show ce436 + 27 + 1 ≤ 804873 by omega), (show sl436 + 162 + 6 ≤ 6686849 by omega)⟩) hS (fun q _ h9 => hFc q h9) hFc (fun x9 ce9 q9 H1 locs hre _ _ _ _ _ _ _ => ?_) (fun v132 H1 locs hre hP1 hD1 hk1 hS => ?_)
                                          · replace h := fb_mter hre h
                                            cases h
                                          replace h := fb_mtok hre h
                                          clear hre h131
                                          obtain ⟨hP, hD⟩ := va_join (wr := [(q87, .inl (cI, 4, .inl o104))]) (w1 := fb_wX0 cI h0 qf qn qw ql sz mi fg_84 nt_85 wt v119.2) hP hD [0, 1, 2, 3, 4] [5] rfl rfl (by decide) (by decide) hk1 hFc hP1 hD1
                                          have hP : va_P D vwCl (fb_wX0 cI h0 qf qn qw ql sz mi fg_84 nt_85 wt v119.2 ++ [(q87, .inl (cI, 4, .inl o104))]) H1 := hP.sub [1, 2, 3, 4, 5, 0] rfl
                                          have hD : va_D A (fb_wX0 cI h0 qf qn qw ql sz mi fg_84 nt_85 wt v119.2 ++ [(q87, .inl (cI, 4, .inl o104))]) := hD.sub [1, 2, 3, 4, 5, 0] (by decide) rfl
                                          generalize H1 = H at hP hS
                                          obtain ⟨re, h133, h⟩ := fb_b1s h
                                          have hPc : va_P D vwCl (fb_wX0 cI h0 qf qn qw ql sz mi fg_84 nt_85 wt v119.2) H := hP.sub [0, 1, 2, 3, 4] rfl
                                          have hDc : va_D A (fb_wX0 cI h0 qf qn qw ql sz mi fg_84 nt_85 wt v119.2) := hD.sub [0, 1, 2, 3, 4] (by decide) rfl
                                          have hFc := va_free (wc := fb_wX0 cI h0 qf qn qw ql sz mi fg_84 nt_85 wt v119.2) hD hS hA [0, 1, 2, 3, 4] rfl
                                          refine fb_callT (vx_runV (As := [.int v88, .int 3, .int v132]) (rest := []) ⟨hx, hb, hml, hown, hts⟩ (metX0_fits l hfl D cI h0 qf qn qw ql B0 sz mi fg_84 nt_85 wt v119.2 v88 3 v132 H.size _ h133) (cwV 3 hts gL_law_X0_fits rfl rfl rfl (by decide +kernel) ⟨Nat.le_of_ble_eq_true rfl, Nat.le_of_ble_eq_true rfl⟩) (fb_preVM (ci := 0) fb_sXTp hPc hK hDc hZT hS hAB hA rfl rfl _) rfl rfl hl.1 rfl (lv_room (Nat.le_of_ble_eq_true rfl)) dL_law_614 ⟨(show ce436 + 28 + 1 ≤ 804873 by omega), (show sl436 + 168 + 6 ≤ 6686849 by omega)⟩) hS (fun q _ h9 => hFc q h9) hFc (fun x9 ce9 q9 H1 locs hre _ _ _ _ _ _ _ => ?_) (fun v134 H1 locs hre hP1 hD1 hk1 hS => ?_)
                                          · replace h := fb_mter hre h
                                            cases h
                                          replace h := fb_mtok hre h
                                          clear hre h133
                                          obtain ⟨hP, hD⟩ := va_join (wr := [(q87, .inl (cI, 4, .inl o104))]) (w1 := fb_wX0 cI h0 qf qn qw ql sz mi fg_84 nt_85 wt v119.2) hP hD [0, 1, 2, 3, 4] [5] rfl rfl (by decide) (by decide) hk1 hFc hP1 hD1
                                          have hP : va_P D vwCl (fb_wX0 cI h0 qf qn qw ql sz mi fg_84 nt_85 wt v119.2 ++ [(q87, .inl (cI, 4, .inl o104))]) H1 := hP.sub [1, 2, 3, 4, 5, 0] rfl
                                          have hD : va_D A (fb_wX0 cI h0 qf qn qw ql sz mi fg_84 nt_85 wt v119.2 ++ [(q87, .inl (cI, 4, .inl o104))]) := hD.sub [1, 2, 3, 4, 5, 0] (by decide) rfl
                                          generalize H1 = H at hP hS
                                          refine lv_if_ne (tgt := 622) hx hb dL_law_617 (by decide) (fun c135 => ?_) (fun c135 => ?_)
                                          · replace h := fb_ie c135 h
                                            have h := Option.some.inj h
                                            subst h
                                            exact J6 H locs hP hD hS ls (lv_sub hl [1, 2, 3, 4, 5, 6] rfl)
                                          · replace h := fb_it c135 h
                                            cases h
                        obtain ⟨o138, o139, o140, h158, h⟩ := fb_b3s h
                        refine LL_law_436 _ _ _ _ o138 o139 o140 h158 _ _ (by omega) (by omega) H locs hP hD hS ls (lv_sub hl [0, 1, 2, 3, 4, 5] rfl) (fun H locs hP hD hS ls hl => ?_)
                        refine lv_aload_n hx hb dL_law_628 rfl (lv_at hl 3 rfl) ?_
                        refine lv_iconst (v := 1) hx hb dL_law_629 (by decide) ?_
                        obtain ⟨re, h141, h⟩ := fb_b1s h
                        have hPc : va_P D vwCl (fb_wX0 cI h0 qf qn qw ql sz mi fg_84 nt_85 wt o139) H := hP.sub [0, 1, 2, 3, 4] rfl
                        have hDc : va_D A (fb_wX0 cI h0 qf qn qw ql sz mi fg_84 nt_85 wt o139) := hD.sub [0, 1, 2, 3, 4] (by decide) rfl
                        have hFc := va_free (wc := fb_wX0 cI h0 qf qn qw ql sz mi fg_84 nt_85 wt o139) hD hS hA [0, 1, 2, 3, 4] rfl
                        refine fb_callT (vx_runV (As := [.int 1]) (rest := []) ⟨hx, hb, hml, hown, hts⟩ (metX0_count l hfl D cI h0 qf qn qw ql B0 sz mi fg_84 nt_85 wt o139 1 H.size _ h141) (cwV 1 hts gL_law_X0_count rfl rfl rfl (by decide +kernel) ⟨Nat.le_of_ble_eq_true rfl, Nat.le_of_ble_eq_true rfl⟩) (fb_preVM (ci := 0) fb_sXTp hPc hK hDc hZT hS hAB hA rfl rfl _) rfl rfl hl.1 rfl (lv_room (Nat.le_of_ble_eq_true rfl)) dL_law_630 ⟨(show ce + 421 + 1 ≤ 804873 by omega), (show sl + 2524 + 6 ≤ 6686849 by omega)⟩) hS (fun q _ h9 => hFc q h9) hFc (fun x9 ce9 q9 H1 locs hre _ _ _ _ _ _ _ => ?_) (fun v142 H1 locs hre hP1 hD1 hk1 hS => ?_)
                        · replace h := fb_mter hre h
                          cases h
                        replace h := fb_mtok hre h
                        clear hre h141
                        obtain ⟨hP, hD⟩ := va_join (wr := [(q87, .inl (cI, 4, .inl o140))]) (w1 := fb_wX0 cI h0 qf qn qw ql sz mi fg_84 nt_85 wt o139) hP hD [0, 1, 2, 3, 4] [5] rfl rfl (by decide) (by decide) hk1 hFc hP1 hD1
                        have hP : va_P D vwCl (fb_wX0 cI h0 qf qn qw ql sz mi fg_84 nt_85 wt o139 ++ [(q87, .inl (cI, 4, .inl o140))]) H1 := hP.sub [1, 2, 3, 4, 5, 0] rfl
                        have hD : va_D A (fb_wX0 cI h0 qf qn qw ql sz mi fg_84 nt_85 wt o139 ++ [(q87, .inl (cI, 4, .inl o140))]) := hD.sub [1, 2, 3, 4, 5, 0] (by decide) rfl
                        generalize H1 = H at hP hS
                        refine lv_aload hx hb dL_law_633 (lv_at hl 1 rfl) ?_
                        refine lv_iconst (v := 0) hx hb dL_law_635 (by decide) ?_
                        refine va_iald hx hb hK hP 5 0 rfl rfl (fb_ixin (by decide)) dL_law_636 ?_
                        refine lv_icmp_ne (tgt := 706) hx hb dL_law_637 (by decide) (fun c143 => ?_) (fun c143 => ?_)
                        · replace h := fb_ie c143 h
                          cases h
                        · replace h := fb_it c143 h
                          refine lv_aload_n hx hb dL_law_640 rfl (lv_at hl 3 rfl) ?_
                          refine lv_iconst (v := 3) hx hb dL_law_641 (by decide) ?_
                          obtain ⟨re, h144, h⟩ := fb_b1s h
                          have hPc : va_P D vwCl (fb_wX0 cI h0 qf qn qw ql sz mi fg_84 nt_85 wt o139) H := hP.sub [0, 1, 2, 3, 4] rfl
                          have hDc : va_D A (fb_wX0 cI h0 qf qn qw ql sz mi fg_84 nt_85 wt o139) := hD.sub [0, 1, 2, 3, 4] (by decide) rfl
                          have hFc := va_free (wc := fb_wX0 cI h0 qf qn qw ql sz mi fg_84 nt_85 wt o139) hD hS hA [0, 1, 2, 3, 4] rfl
                          refine fb_callT (vx_runV (As := [.int 3]) (rest := []) ⟨hx, hb, hml, hown, hts⟩ (metX0_count l hfl D cI h0 qf qn qw ql B0 sz mi fg_84 nt_85 wt o139 3 H.size _ h144) (cwV 1 hts gL_law_X0_count rfl rfl rfl (by decide +kernel) ⟨Nat.le_of_ble_eq_true rfl, Nat.le_of_ble_eq_true rfl⟩) (fb_preVM (ci := 0) fb_sXTp hPc hK hDc hZT hS hAB hA rfl rfl _) rfl rfl hl.1 rfl (lv_room (Nat.le_of_ble_eq_true rfl)) dL_law_642 ⟨(show ce + 422 + 1 ≤ 804873 by omega), (show sl + 2530 + 6 ≤ 6686849 by omega)⟩) hS (fun q _ h9 => hFc q h9) hFc (fun x9 ce9 q9 H1 locs hre _ _ _ _ _ _ _ => ?_) (fun v145 H1 locs hre hP1 hD1 hk1 hS => ?_)
                          · replace h := fb_mter hre h
                            cases h
                          replace h := fb_mtok hre h
                          clear hre h144
                          obtain ⟨hP, hD⟩ := va_join (wr := [(q87, .inl (cI, 4, .inl o140))]) (w1 := fb_wX0 cI h0 qf qn qw ql sz mi fg_84 nt_85 wt o139) hP hD [0, 1, 2, 3, 4] [5] rfl rfl (by decide) (by decide) hk1 hFc hP1 hD1
                          have hP : va_P D vwCl (fb_wX0 cI h0 qf qn qw ql sz mi fg_84 nt_85 wt o139 ++ [(q87, .inl (cI, 4, .inl o140))]) H1 := hP.sub [1, 2, 3, 4, 5, 0] rfl
                          have hD : va_D A (fb_wX0 cI h0 qf qn qw ql sz mi fg_84 nt_85 wt o139 ++ [(q87, .inl (cI, 4, .inl o140))]) := hD.sub [1, 2, 3, 4, 5, 0] (by decide) rfl
                          generalize H1 = H at hP hS
                          refine lv_aload hx hb dL_law_645 (lv_at hl 1 rfl) ?_
                          refine lv_iconst (v := 1) hx hb dL_law_647 (by decide) ?_
                          refine va_iald hx hb hK hP 5 0 rfl rfl (fb_ixin (by decide)) dL_law_648 ?_
                          refine lv_icmp_ne (tgt := 706) hx hb dL_law_649 (by decide) (fun c146 => ?_) (fun c146 => ?_)
                          · replace h := fb_ie c146 h
                            cases h
                          · replace h := fb_it c146 h
                            refine lv_aload_n hx hb dL_law_652 rfl (lv_at hl 3 rfl) ?_
                            refine lv_iconst (v := 5) hx hb dL_law_653 (by decide) ?_
                            obtain ⟨re, h147, h⟩ := fb_b1s h
                            have hPc : va_P D vwCl (fb_wX0 cI h0 qf qn qw ql sz mi fg_84 nt_85 wt o139) H := hP.sub [0, 1, 2, 3, 4] rfl
                            have hDc : va_D A (fb_wX0 cI h0 qf qn qw ql sz mi fg_84 nt_85 wt o139) := hD.sub [0, 1, 2, 3, 4] (by decide) rfl
                            have hFc := va_free (wc := fb_wX0 cI h0 qf qn qw ql sz mi fg_84 nt_85 wt o139) hD hS hA [0, 1, 2, 3, 4] rfl
                            refine fb_callT (vx_runV (As := [.int 5]) (rest := []) ⟨hx, hb, hml, hown, hts⟩ (metX0_count l hfl D cI h0 qf qn qw ql B0 sz mi fg_84 nt_85 wt o139 5 H.size _ h147) (cwV 1 hts gL_law_X0_count rfl rfl rfl (by decide +kernel) ⟨Nat.le_of_ble_eq_true rfl, Nat.le_of_ble_eq_true rfl⟩) (fb_preVM (ci := 0) fb_sXTp hPc hK hDc hZT hS hAB hA rfl rfl _) rfl rfl hl.1 rfl (lv_room (Nat.le_of_ble_eq_true rfl)) dL_law_654 ⟨(show ce + 423 + 1 ≤ 804873 by omega), (show sl + 2536 + 6 ≤ 6686849 by omega)⟩) hS (fun q _ h9 => hFc q h9) hFc (fun x9 ce9 q9 H1 locs hre _ _ _ _ _ _ _ => ?_) (fun v148 H1 locs hre hP1 hD1 hk1 hS => ?_)
                            · replace h := fb_mter hre h
                              cases h
                            replace h := fb_mtok hre h
                            clear hre h147
                            obtain ⟨hP, hD⟩ := va_join (wr := [(q87, .inl (cI, 4, .inl o140))]) (w1 := fb_wX0 cI h0 qf qn qw ql sz mi fg_84 nt_85 wt o139) hP hD [0, 1, 2, 3, 4] [5] rfl rfl (by decide) (by decide) hk1 hFc hP1 hD1
                            have hP : va_P D vwCl (fb_wX0 cI h0 qf qn qw ql sz mi fg_84 nt_85 wt o139 ++ [(q87, .inl (cI, 4, .inl o140))]) H1 := hP.sub [1, 2, 3, 4, 5, 0] rfl
                            have hD : va_D A (fb_wX0 cI h0 qf qn qw ql sz mi fg_84 nt_85 wt o139 ++ [(q87, .inl (cI, 4, .inl o140))]) := hD.sub [1, 2, 3, 4, 5, 0] (by decide) rfl
                            generalize H1 = H at hP hS
                            refine lv_aload hx hb dL_law_657 (lv_at hl 1 rfl) ?_
                            refine lv_iconst (v := 2) hx hb dL_law_659 (by decide) ?_
                            refine va_iald hx hb hK hP 5 0 rfl rfl (fb_ixin (by decide)) dL_law_660 ?_
                            refine lv_icmp_ne (tgt := 706) hx hb dL_law_661 (by decide) (fun c149 => ?_) (fun c149 => ?_)
                            · replace h := fb_ie c149 h
                              cases h
                            · replace h := fb_it c149 h
                              refine lv_aload_n hx hb dL_law_664 rfl (lv_at hl 3 rfl) ?_
                              refine lv_iconst (v := 4) hx hb dL_law_665 (by decide) ?_
                              obtain ⟨re, h150, h⟩ := fb_b1s h
                              have hPc : va_P D vwCl (fb_wX0 cI h0 qf qn qw ql sz mi fg_84 nt_85 wt o139) H := hP.sub [0, 1, 2, 3, 4] rfl
                              have hDc : va_D A (fb_wX0 cI h0 qf qn qw ql sz mi fg_84 nt_85 wt o139) := hD.sub [0, 1, 2, 3, 4] (by decide) rfl
                              have hFc := va_free (wc := fb_wX0 cI h0 qf qn qw ql sz mi fg_84 nt_85 wt o139) hD hS hA [0, 1, 2, 3, 4] rfl
                              refine fb_callT (vx_runV (As := [.int 4]) (rest := []) ⟨hx, hb, hml, hown, hts⟩ (metX0_count l hfl D cI h0 qf qn qw ql B0 sz mi fg_84 nt_85 wt o139 4 H.size _ h150) (cwV 1 hts gL_law_X0_count rfl rfl rfl (by decide +kernel) ⟨Nat.le_of_ble_eq_true rfl, Nat.le_of_ble_eq_true rfl⟩) (fb_preVM (ci := 0) fb_sXTp hPc hK hDc hZT hS hAB hA rfl rfl _) rfl rfl hl.1 rfl (lv_room (Nat.le_of_ble_eq_true rfl)) dL_law_666 ⟨(show ce + 424 + 1 ≤ 804873 by omega), (show sl + 2542 + 6 ≤ 6686849 by omega)⟩) hS (fun q _ h9 => hFc q h9) hFc (fun x9 ce9 q9 H1 locs hre _ _ _ _ _ _ _ => ?_) (fun v151 H1 locs hre hP1 hD1 hk1 hS => ?_)
                              · replace h := fb_mter hre h
                                cases h
                              replace h := fb_mtok hre h
                              clear hre h150
                              obtain ⟨hP, hD⟩ := va_join (wr := [(q87, .inl (cI, 4, .inl o140))]) (w1 := fb_wX0 cI h0 qf qn qw ql sz mi fg_84 nt_85 wt o139) hP hD [0, 1, 2, 3, 4] [5] rfl rfl (by decide) (by decide) hk1 hFc hP1 hD1
                              have hP : va_P D vwCl (fb_wX0 cI h0 qf qn qw ql sz mi fg_84 nt_85 wt o139 ++ [(q87, .inl (cI, 4, .inl o140))]) H1 := hP.sub [1, 2, 3, 4, 5, 0] rfl
                              have hD : va_D A (fb_wX0 cI h0 qf qn qw ql sz mi fg_84 nt_85 wt o139 ++ [(q87, .inl (cI, 4, .inl o140))]) := hD.sub [1, 2, 3, 4, 5, 0] (by decide) rfl
                              generalize H1 = H at hP hS
                              refine lv_aload hx hb dL_law_669 (lv_at hl 1 rfl) ?_
                              refine lv_iconst (v := 3) hx hb dL_law_671 (by decide) ?_
                              refine va_iald hx hb hK hP 5 0 rfl rfl (fb_ixin (by decide)) dL_law_672 ?_
                              refine lv_icmp_ne (tgt := 706) hx hb dL_law_673 (by decide) (fun c152 => ?_) (fun c152 => ?_)
                              · replace h := fb_ie c152 h
                                cases h
                              · replace h := fb_it c152 h
                                refine lv_aload_n hx hb dL_law_676 rfl (lv_at hl 3 rfl) ?_
                                obtain ⟨r154, h153, h⟩ := fb_b1s h
                                have hPc : va_P D vwCl (fb_wX0 cI h0 qf qn qw ql sz mi fg_84 nt_85 wt o139) H := hP.sub [0, 1, 2, 3, 4] rfl
                                have hDc : va_D A (fb_wX0 cI h0 qf qn qw ql sz mi fg_84 nt_85 wt o139) := hD.sub [0, 1, 2, 3, 4] (by decide) rfl
                                have hFc := va_free (wc := fb_wX0 cI h0 qf qn qw ql sz mi fg_84 nt_85 wt o139) hD hS hA [0, 1, 2, 3, 4] rfl
                                refine W.base ?_
                                refine va_calldD (Drawn.sameBut.refl _ lw_cs) (va_runV_D (As := []) (rest := []) ⟨hx, hb, hml, hown, hts⟩ (metX0_mean l D cI h0 qf qn qw ql B0 sz mi fg_84 nt_85 wt o139  H.size r154 h153) (cwV 0 hts gL_law_X0_mean rfl rfl rfl (by decide +kernel) ⟨Nat.le_of_ble_eq_true rfl, Nat.le_of_ble_eq_true rfl⟩) (fb_preVM (ci := 0) fb_sX0p hPc hK hDc hZ0 hS hAB hA rfl rfl _) rfl rfl hl.1 rfl (lv_room (Nat.le_of_ble_eq_true rfl)) dL_law_677 ⟨(show ce + 425 + 0 ≤ 804873 by omega), (show sl + 2548 + 0 ≤ 6686849 by omega)⟩) hS (fun q _ h9 => hFc q h9) hFc (fun rd1 _ t9 H1 locs ht9 _ hal1 hB9 hz1 hk1 hS d1 hd1 => ?_)
                                obtain ⟨hP1, hD1⟩ := hB9
                                rw [ht9] at hP1
                                obtain ⟨hP, hD⟩ := va_join (wr := [(q87, .inl (cI, 4, .inl o140))]) (w1 := fb_wX0 cI h0 qf qn qw ql sz mi fg_84 nt_85 wt o139) hP hD [0, 1, 2, 3, 4] [5] rfl rfl (by decide) (by decide) hk1 hFc hP1 hD1
                                have hP : va_P D vwCl (fb_wX0 cI h0 qf qn qw ql sz mi fg_84 nt_85 wt o139 ++ [(q87, .inl (cI, 4, .inl o140))]) H1 := hP.sub [1, 2, 3, 4, 5, 0] rfl
                                have hD : va_D A (fb_wX0 cI h0 qf qn qw ql sz mi fg_84 nt_85 wt o139 ++ [(q87, .inl (cI, 4, .inl o140))]) := hD.sub [1, 2, 3, 4, 5, 0] (by decide) rfl
                                generalize H1 = H at hP hS
                                generalize hsd1 : s.setDrawn d1 = s
                                have hheap : s.heap = s0.heap := by rw [← hsd1]; exact hheap
                                have hts : ∀ w ∈ wsL_law, w.before #[Value.ref b] s = true := by rw [← hsd1]; exact dr_words hts _
                                have hK : va_K D vwCl [(cI, .int)] s := by rw [← hsd1]; exact hK
                                have hZT : fb_sXT (fun q => B0 ≤ q) s s.heap := by rw [← hsd1]; exact fb_sXTp.1 _ _ _ _ (State.WarmedH.refl _) hZT
                                have hZ0 := hZT.1
                                have hZ : fb_sc b L xs (fun q => B0 ≤ q) s s.heap := by rw [← hsd1]; exact (fb_scp b L xs).1 _ _ _ _ (State.WarmedH.refl _) hZ
                                have hown : s.vm.findClass RL = some m.cls := by rw [← hsd1]; exact hown
                                have hA : ∀ q : Nat, s.heap.size ≤ q → A q := by rw [hAd, hheap]; exact fun _ h9 => h9
                                have hS : va_S A s.heap H locs := by rw [← hsd1]; exact hS
                                refine lv_aload hx hb dL_law_680 (lv_at hl 1 rfl) ?_
                                refine lv_iconst (v := 0) hx hb dL_law_682 (by decide) ?_
                                refine va_iald hx hb hK hP 5 0 rfl rfl (fb_ixin (by decide)) dL_law_683 ?_
                                refine lv_if_ne (tgt := 691) hx hb dL_law_684 (by decide) (fun c155 => ?_) (fun c155 => ?_)
                                · replace h := fb_ie c155 h
                                  refine lv_aload hx hb dL_law_691 (lv_at hl 1 rfl) ?_
                                  refine lv_iconst (v := 2) hx hb dL_law_693 (by decide) ?_
                                  refine va_iald hx hb hK hP 5 0 rfl rfl (fb_ixin (by decide)) dL_law_694 ?_
                                  refine lv_i2d hx hb dL_law_695 ?_
                                  refine lv_aload hx hb dL_law_696 (lv_at hl 1 rfl) ?_
                                  refine lv_iconst (v := 0) hx hb dL_law_698 (by decide) ?_
                                  refine va_iald hx hb hK hP 5 0 rfl rfl (fb_ixin (by decide)) dL_law_699 ?_
                                  refine lv_i2d hx hb dL_law_700 ?_
                                  refine W.base ?_
                                  refine lv_ddiv_any (Drawn.sameBut.refl _ lw_cs) lw_bits hx hb dL_law_701 (fun rd2 d2 hal2 hd2 => ?_)
                                  generalize hsd2 : s.setDrawn d2 = s
                                  have hheap : s.heap = s0.heap := by rw [← hsd2]; exact hheap
                                  have hts : ∀ w ∈ wsL_law, w.before #[Value.ref b] s = true := by rw [← hsd2]; exact dr_words hts _
                                  have hK : va_K D vwCl [(cI, .int)] s := by rw [← hsd2]; exact hK
                                  have hZT : fb_sXT (fun q => B0 ≤ q) s s.heap := by rw [← hsd2]; exact fb_sXTp.1 _ _ _ _ (State.WarmedH.refl _) hZT
                                  have hZ0 := hZT.1
                                  have hZ : fb_sc b L xs (fun q => B0 ≤ q) s s.heap := by rw [← hsd2]; exact (fb_scp b L xs).1 _ _ _ _ (State.WarmedH.refl _) hZ
                                  have hown : s.vm.findClass RL = some m.cls := by rw [← hsd2]; exact hown
                                  have hA : ∀ q : Nat, s.heap.size ≤ q → A q := by rw [hAd, hheap]; exact fun _ h9 => h9
                                  have hS : va_S A s.heap H locs := by rw [← hsd2]; exact hS
                                  refine lv_dcmp hx hb dL_law_702 ?_
                                  obtain ⟨hdd, h⟩ := fb_cks h
                                  have hdq := fm_dq hal1 hal2 hdd
                                  refine lv_if_eq (tgt := 708) hx hb dL_law_703 (by decide) (fun c156 => ?_) (fun c156 => ?_)
                                  · refine lv_iinc (v := v4 + 1) (lv' := [(4, .int (v4 + 1)), (18, .int o138), (17, .ref q87), (0, .ref b), (2, .ref h0), (3, .int v3)]) hx hb dL_law_708 hl (k := 5) rfl rfl (by decide) rfl (fun ls hl => ?_)
                                    refine lv_goto (tgt := 17) hx hb dL_law_711 (by decide) ?_
                                    have hP : va_P D vwCl (fb_wX0 cI h0 qf qn qw ql sz mi fg_84 nt_85 wt o139) H := hP.sub [0, 1, 2, 3, 4] rfl
                                    have hD : va_D A (fb_wX0 cI h0 qf qn qw ql sz mi fg_84 nt_85 wt o139) := hD.sub [0, 1, 2, 3, 4] (by decide) rfl
                                    refine W.widen (k := ce + 4000) (n := sl + 24000) (by omega) (by omega) ?_
                                    subst hsd2
                                    subst hsd1
                                    subst hsd0
                                    exact ih _ _ _ _ _ _ _ h _ _ (by omega) (by omega) d2 (hd0.trans (Drawn.sameBut.trans hd1 hd2)) H locs hP hD hS ls (lv_sub hl [3, 4, 5, 0] rfl)
                                  · exact absurd hdq c156
                                · replace h := fb_it c155 h
                                  refine lv_dconst0 hx hb dL_law_687 ?_
                                  refine lv_goto (tgt := 702) hx hb dL_law_688 (by decide) ?_
                                  refine lv_dcmp hx hb dL_law_702 ?_
                                  obtain ⟨hdd, h⟩ := fb_cks h
                                  have hdq := fm_dq hal1 (alike64_refl _) hdd
                                  refine lv_if_eq (tgt := 708) hx hb dL_law_703 (by decide) (fun c157 => ?_) (fun c157 => ?_)
                                  · refine lv_iinc (v := v4 + 1) (lv' := [(4, .int (v4 + 1)), (18, .int o138), (17, .ref q87), (0, .ref b), (2, .ref h0), (3, .int v3)]) hx hb dL_law_708 hl (k := 5) rfl rfl (by decide) rfl (fun ls hl => ?_)
                                    refine lv_goto (tgt := 17) hx hb dL_law_711 (by decide) ?_
                                    have hP : va_P D vwCl (fb_wX0 cI h0 qf qn qw ql sz mi fg_84 nt_85 wt o139) H := hP.sub [0, 1, 2, 3, 4] rfl
                                    have hD : va_D A (fb_wX0 cI h0 qf qn qw ql sz mi fg_84 nt_85 wt o139) := hD.sub [0, 1, 2, 3, 4] (by decide) rfl
                                    refine W.widen (k := ce + 4000) (n := sl + 24000) (by omega) (by omega) ?_
                                    subst hsd1
                                    subst hsd0
                                    exact ih _ _ _ _ _ _ _ h _ _ (by omega) (by omega) d1 (hd0.trans hd1) H locs hP hD hS ls (lv_sub hl [3, 4, 5, 0] rfl)
                                  · exact absurd hdq c157
                      replace h := hjJ5
                      by_cases c45_0 : r44 = 0
                      · replace h := fb_it c45_0 h
                        refine lv_tableIn (off := 28) (tgt := 240) hx hb dL_law_212 (by rw [c45_0]; decide) (by rw [c45_0]; decide) (by rw [c45_0]; rfl) (by decide) ?_
                        refine lv_aload_n hx hb dL_law_240 rfl (lv_at hl 10 rfl) ?_
                        refine lv_iload hx hb dL_law_241 (lv_at hl 7 rfl) ?_
                        refine lv_iload hx hb dL_law_243 (lv_at hl 6 rfl) ?_
                        refine lv_iload hx hb dL_law_245 (lv_at hl 5 rfl) ?_
                        obtain ⟨re, h46, h⟩ := fb_b1s h
                        have hPc : va_P D vwCl (fb_wX0 cI h0 qf qn qw ql sz mi v21.2.1 v21.2.2.1 wt wl_24) H := hP.sub [0, 1, 2, 3, 4] rfl
                        have hDc : va_D A (fb_wX0 cI h0 qf qn qw ql sz mi v21.2.1 v21.2.2.1 wt wl_24) := hD.sub [0, 1, 2, 3, 4] (by decide) rfl
                        have hFc := va_free (wc := fb_wX0 cI h0 qf qn qw ql sz mi v21.2.1 v21.2.2.1 wt wl_24) hD hS hA [0, 1, 2, 3, 4] rfl
                        refine fb_callT (vx_runV (As := [.int r6, .int ((1 : Int32) + r8), .int ((12 : Int32) + r10)]) (rest := []) ⟨hx, hb, hml, hown, hts⟩ (metX0_put l hfl D cI h0 qf qn qw ql B0 sz mi v21.2.1 v21.2.2.1 wt wl_24 r6 ((1 : Int32) + r8) ((12 : Int32) + r10) H.size _ h46) (cwV 3 hts gL_law_X0_put rfl rfl rfl (by decide +kernel) ⟨Nat.le_of_ble_eq_true rfl, Nat.le_of_ble_eq_true rfl⟩) (fb_preVM (ci := 0) fb_sXTp hPc hK hDc hZT hS hAB hA rfl rfl _) rfl rfl hl.1 rfl (lv_room (Nat.le_of_ble_eq_true rfl)) dL_law_247 ⟨(show ce + 7 + 1 ≤ 804873 by omega), (show sl + 42 + 6 ≤ 6686849 by omega)⟩) hS (fun q _ h9 => hFc q h9) hFc (fun x9 ce9 q9 H1 locs hre _ _ _ _ _ _ _ => ?_) (fun v47 H1 locs hre hP1 hD1 hk1 hS => ?_)
                        · replace h := fb_mter hre h
                          cases h
                        replace h := fb_mtok hre h
                        clear hre h46
                        obtain ⟨hP, hD⟩ := va_join (wr := []) (w1 := fb_wX0 cI h0 qf qn qw ql sz mi v21.2.1 v47.2 wt wl_24) hP hD [0, 1, 2, 3, 4] [] rfl rfl (by decide) (by decide) hk1 hFc hP1 hD1
                        have hP : va_P D vwCl (fb_wX0 cI h0 qf qn qw ql sz mi v21.2.1 v47.2 wt wl_24) H1 := hP.sub [0, 1, 2, 3, 4] rfl
                        have hD : va_D A (fb_wX0 cI h0 qf qn qw ql sz mi v21.2.1 v47.2 wt wl_24) := hD.sub [0, 1, 2, 3, 4] (by decide) rfl
                        generalize H1 = H at hP hS
                        refine lv_pop hx hb dL_law_250 rfl ?_
                        refine lv_aload_n hx hb dL_law_251 rfl (lv_at hl 10 rfl) ?_
                        refine lv_iconst (v := 5) hx hb dL_law_252 (by decide) ?_
                        obtain ⟨re, h48, h⟩ := fb_b1s h
                        have hPc : va_P D vwCl (fb_wX0 cI h0 qf qn qw ql sz mi v21.2.1 v47.2 wt wl_24) H := hP.sub [0, 1, 2, 3, 4] rfl
                        have hDc : va_D A (fb_wX0 cI h0 qf qn qw ql sz mi v21.2.1 v47.2 wt wl_24) := hD.sub [0, 1, 2, 3, 4] (by decide) rfl
                        have hFc := va_free (wc := fb_wX0 cI h0 qf qn qw ql sz mi v21.2.1 v47.2 wt wl_24) hD hS hA [0, 1, 2, 3, 4] rfl
                        refine fb_callT (vx_runV (As := [.int 5]) (rest := []) ⟨hx, hb, hml, hown, hts⟩ (metX0_count l hfl D cI h0 qf qn qw ql B0 sz mi v21.2.1 v47.2 wt wl_24 5 H.size _ h48) (cwV 1 hts gL_law_X0_count rfl rfl rfl (by decide +kernel) ⟨Nat.le_of_ble_eq_true rfl, Nat.le_of_ble_eq_true rfl⟩) (fb_preVM (ci := 0) fb_sXTp hPc hK hDc hZT hS hAB hA rfl rfl _) rfl rfl hl.1 rfl (lv_room (Nat.le_of_ble_eq_true rfl)) dL_law_253 ⟨(show ce + 8 + 1 ≤ 804873 by omega), (show sl + 48 + 6 ≤ 6686849 by omega)⟩) hS (fun q _ h9 => hFc q h9) hFc (fun x9 ce9 q9 H1 locs hre _ _ _ _ _ _ _ => ?_) (fun v49 H1 locs hre hP1 hD1 hk1 hS => ?_)
                        · replace h := fb_mter hre h
                          cases h
                        replace h := fb_mtok hre h
                        clear hre h48
                        obtain ⟨hP, hD⟩ := va_join (wr := []) (w1 := fb_wX0 cI h0 qf qn qw ql sz mi v21.2.1 v47.2 wt wl_24) hP hD [0, 1, 2, 3, 4] [] rfl rfl (by decide) (by decide) hk1 hFc hP1 hD1
                        have hP : va_P D vwCl (fb_wX0 cI h0 qf qn qw ql sz mi v21.2.1 v47.2 wt wl_24) H1 := hP.sub [0, 1, 2, 3, 4] rfl
                        have hD : va_D A (fb_wX0 cI h0 qf qn qw ql sz mi v21.2.1 v47.2 wt wl_24) := hD.sub [0, 1, 2, 3, 4] (by decide) rfl
                        generalize H1 = H at hP hS
                        refine lv_iload hx hb dL_law_256 (lv_at hl 4 rfl) ?_
                        refine lv_icmp_ne (tgt := 274) hx hb dL_law_258 (by decide) (fun c50 => ?_) (fun c50 => ?_)
                        · replace h := fb_ie c50 h
                          cases h
                        · replace h := fb_it c50 h
                          refine lv_aload_n hx hb dL_law_261 rfl (lv_at hl 10 rfl) ?_
                          refine lv_iload hx hb dL_law_262 (lv_at hl 7 rfl) ?_
                          refine lv_iload hx hb dL_law_264 (lv_at hl 6 rfl) ?_
                          obtain ⟨re, h51, h⟩ := fb_b1s h
                          have hPc : va_P D vwCl (fb_wX0 cI h0 qf qn qw ql sz mi v21.2.1 v47.2 wt wl_24) H := hP.sub [0, 1, 2, 3, 4] rfl
                          have hDc : va_D A (fb_wX0 cI h0 qf qn qw ql sz mi v21.2.1 v47.2 wt wl_24) := hD.sub [0, 1, 2, 3, 4] (by decide) rfl
                          have hFc := va_free (wc := fb_wX0 cI h0 qf qn qw ql sz mi v21.2.1 v47.2 wt wl_24) hD hS hA [0, 1, 2, 3, 4] rfl
                          refine fb_callT (vx_runV (As := [.int r6, .int ((1 : Int32) + r8)]) (rest := []) ⟨hx, hb, hml, hown, hts⟩ (metX0_note l hfl D cI h0 qf qn qw ql B0 sz mi v21.2.1 v47.2 wt wl_24 r6 ((1 : Int32) + r8) H.size _ h51) (cwV 2 hts gL_law_X0_note rfl rfl rfl (by decide +kernel) ⟨Nat.le_of_ble_eq_true rfl, Nat.le_of_ble_eq_true rfl⟩) (fb_preVM (ci := 0) fb_sXTp hPc hK hDc hZT hS hAB hA rfl rfl _) rfl rfl hl.1 rfl (lv_room (Nat.le_of_ble_eq_true rfl)) dL_law_266 ⟨(show ce + 9 + 1 ≤ 804873 by omega), (show sl + 54 + 6 ≤ 6686849 by omega)⟩) hS (fun q _ h9 => hFc q h9) hFc (fun x9 ce9 q9 H1 locs hre _ _ _ _ _ _ _ => ?_) (fun v52 H1 locs hre hP1 hD1 hk1 hS => ?_)
                          · replace h := fb_mter hre h
                            cases h
                          replace h := fb_mtok hre h
                          clear hre h51
                          obtain ⟨hP, hD⟩ := va_join (wr := []) (w1 := fb_wX0 cI h0 qf qn qw ql sz mi v21.2.1 v47.2 wt wl_24) hP hD [0, 1, 2, 3, 4] [] rfl rfl (by decide) (by decide) hk1 hFc hP1 hD1
                          have hP : va_P D vwCl (fb_wX0 cI h0 qf qn qw ql sz mi v21.2.1 v47.2 wt wl_24) H1 := hP.sub [0, 1, 2, 3, 4] rfl
                          have hD : va_D A (fb_wX0 cI h0 qf qn qw ql sz mi v21.2.1 v47.2 wt wl_24) := hD.sub [0, 1, 2, 3, 4] (by decide) rfl
                          generalize H1 = H at hP hS
                          refine lv_iload hx hb dL_law_269 (lv_at hl 5 rfl) ?_
                          refine lv_icmp_eq (tgt := 428) hx hb dL_law_271 (by decide) (fun c53 => ?_) (fun c53 => ?_)
                          · replace h := fb_it c53 h
                            obtain ⟨e1, e2, e3⟩ := fb_p3 h
                            subst e1
                            subst e2
                            subst e3
                            refine W.widen (k := (ce + 14)) (n := (sl + 84)) (by omega) (by omega) ?_
                            exact J5 H locs hP hD hS ls (lv_sub hl [9, 10, 11, 12] rfl)
                          · replace h := fb_ie c53 h
                            cases h
                      replace h := fb_ie c45_0 h
                      by_cases c45_1 : r44 = 1
                      · replace h := fb_it c45_1 h
                        refine lv_tableIn (off := 64) (tgt := 276) hx hb dL_law_212 (by rw [c45_1]; decide) (by rw [c45_1]; decide) (by rw [c45_1]; rfl) (by decide) ?_
                        refine lv_aload_n hx hb dL_law_276 rfl (lv_at hl 10 rfl) ?_
                        refine lv_iload hx hb dL_law_277 (lv_at hl 7 rfl) ?_
                        refine lv_iload hx hb dL_law_279 (lv_at hl 8 rfl) ?_
                        refine lv_iconst (v := 5) hx hb dL_law_281 (by decide) ?_
                        refine lv_ishr hx hb dL_law_282 ?_
                        refine lv_bipush (v := 14) hx hb dL_law_283 (by decide) ?_
                        obtain ⟨r55, h54, h⟩ := fb_b1s h
                        refine fb_callR (W.runS (As := [.int (r4 >>> ((5 : Int32) &&& 31)), .int 14]) (rest := [.int r6, .ref h0]) ⟨hx, hb, hml, hown, hts⟩ (metL_below l b L xs B0 (r4 >>> ((5 : Int32) &&& 31)) 14 r55 h54) (va_cwS 2 hts gL_law_L_below rfl rfl rfl (by decide +kernel) ⟨Nat.le_of_ble_eq_true rfl, Nat.le_of_ble_eq_true rfl⟩) (fb_preS (fb_scp b L xs) hZ hS hAB _) rfl rfl hl.1 rfl (lv_room (Nat.le_of_ble_eq_true rfl)) dL_law_285 ⟨(show ce + 7 + 0 ≤ 804873 by omega), (show sl + 42 + 0 ≤ 6686849 by omega)⟩) ?_
                        obtain ⟨re, h56, h⟩ := fb_b1s h
                        have hPc : va_P D vwCl (fb_wX0 cI h0 qf qn qw ql sz mi v21.2.1 v21.2.2.1 wt wl_24) H := hP.sub [0, 1, 2, 3, 4] rfl
                        have hDc : va_D A (fb_wX0 cI h0 qf qn qw ql sz mi v21.2.1 v21.2.2.1 wt wl_24) := hD.sub [0, 1, 2, 3, 4] (by decide) rfl
                        have hFc := va_free (wc := fb_wX0 cI h0 qf qn qw ql sz mi v21.2.1 v21.2.2.1 wt wl_24) hD hS hA [0, 1, 2, 3, 4] rfl
                        refine fb_callT (vx_runV (As := [.int r6, .int r55]) (rest := []) ⟨hx, hb, hml, hown, hts⟩ (metX0_setBass l hfl D cI h0 qf qn qw ql B0 sz mi v21.2.1 v21.2.2.1 wt wl_24 r6 r55 H.size _ h56) (cwV 2 hts gL_law_X0_setBass rfl rfl rfl (by decide +kernel) ⟨Nat.le_of_ble_eq_true rfl, Nat.le_of_ble_eq_true rfl⟩) (fb_preVM (ci := 0) fb_sXTp hPc hK hDc hZT hS hAB hA rfl rfl _) rfl rfl hl.1 rfl (lv_room (Nat.le_of_ble_eq_true rfl)) dL_law_288 ⟨(show ce + 7 + 1 ≤ 804873 by omega), (show sl + 42 + 6 ≤ 6686849 by omega)⟩) hS (fun q _ h9 => hFc q h9) hFc (fun x9 ce9 q9 H1 locs hre _ _ _ _ _ _ _ => ?_) (fun v57 H1 locs hre hP1 hD1 hk1 hS => ?_)
                        · replace h := fb_mter hre h
                          cases h
                        replace h := fb_mtok hre h
                        clear hre h56
                        obtain ⟨hP, hD⟩ := va_join (wr := []) (w1 := fb_wX0 cI h0 qf qn qw ql sz mi v21.2.1 v57.2 wt wl_24) hP hD [0, 1, 2, 3, 4] [] rfl rfl (by decide) (by decide) hk1 hFc hP1 hD1
                        have hP : va_P D vwCl (fb_wX0 cI h0 qf qn qw ql sz mi v21.2.1 v57.2 wt wl_24) H1 := hP.sub [0, 1, 2, 3, 4] rfl
                        have hD : va_D A (fb_wX0 cI h0 qf qn qw ql sz mi v21.2.1 v57.2 wt wl_24) := hD.sub [0, 1, 2, 3, 4] (by decide) rfl
                        generalize H1 = H at hP hS
                        refine lv_pop hx hb dL_law_291 rfl ?_
                        refine lv_goto (tgt := 428) hx hb dL_law_292 (by decide) ?_
                        obtain ⟨e1, e2, e3⟩ := fb_p3 h
                        subst e1
                        subst e2
                        subst e3
                        refine W.widen (k := (ce + 14)) (n := (sl + 84)) (by omega) (by omega) ?_
                        exact J5 H locs hP hD hS ls (lv_sub hl [9, 10, 11, 12] rfl)
                      replace h := fb_ie c45_1 h
                      by_cases c45_2 : r44 = 2
                      · replace h := fb_it c45_2 h
                        refine lv_tableIn (off := 83) (tgt := 295) hx hb dL_law_212 (by rw [c45_2]; decide) (by rw [c45_2]; decide) (by rw [c45_2]; rfl) (by decide) ?_
                        refine lv_aload_n hx hb dL_law_295 rfl (lv_at hl 10 rfl) ?_
                        refine lv_iload hx hb dL_law_296 (lv_at hl 7 rfl) ?_
                        refine lv_iload hx hb dL_law_298 (lv_at hl 8 rfl) ?_
                        refine lv_iconst (v := 5) hx hb dL_law_300 (by decide) ?_
                        refine lv_ishr hx hb dL_law_301 ?_
                        refine lv_bipush (v := 6) hx hb dL_law_302 (by decide) ?_
                        obtain ⟨r59, h58, h⟩ := fb_b1s h
                        refine fb_callR (W.runS (As := [.int (r4 >>> ((5 : Int32) &&& 31)), .int 6]) (rest := [.int r6, .ref h0]) ⟨hx, hb, hml, hown, hts⟩ (metL_below l b L xs B0 (r4 >>> ((5 : Int32) &&& 31)) 6 r59 h58) (va_cwS 2 hts gL_law_L_below rfl rfl rfl (by decide +kernel) ⟨Nat.le_of_ble_eq_true rfl, Nat.le_of_ble_eq_true rfl⟩) (fb_preS (fb_scp b L xs) hZ hS hAB _) rfl rfl hl.1 rfl (lv_room (Nat.le_of_ble_eq_true rfl)) dL_law_304 ⟨(show ce + 7 + 0 ≤ 804873 by omega), (show sl + 42 + 0 ≤ 6686849 by omega)⟩) ?_
                        obtain ⟨re, h60, h⟩ := fb_b1s h
                        have hPc : va_P D vwCl (fb_wX0 cI h0 qf qn qw ql sz mi v21.2.1 v21.2.2.1 wt wl_24) H := hP.sub [0, 1, 2, 3, 4] rfl
                        have hDc : va_D A (fb_wX0 cI h0 qf qn qw ql sz mi v21.2.1 v21.2.2.1 wt wl_24) := hD.sub [0, 1, 2, 3, 4] (by decide) rfl
                        have hFc := va_free (wc := fb_wX0 cI h0 qf qn qw ql sz mi v21.2.1 v21.2.2.1 wt wl_24) hD hS hA [0, 1, 2, 3, 4] rfl
                        refine fb_callT (vx_runV (As := [.int r6, .int r59]) (rest := []) ⟨hx, hb, hml, hown, hts⟩ (metX0_setFigure l hfl D cI h0 qf qn qw ql B0 sz mi v21.2.1 v21.2.2.1 wt wl_24 r6 r59 H.size _ h60) (cwV 2 hts gL_law_X0_setFigure rfl rfl rfl (by decide +kernel) ⟨Nat.le_of_ble_eq_true rfl, Nat.le_of_ble_eq_true rfl⟩) (fb_preVM (ci := 0) fb_sXTp hPc hK hDc hZT hS hAB hA rfl rfl _) rfl rfl hl.1 rfl (lv_room (Nat.le_of_ble_eq_true rfl)) dL_law_307 ⟨(show ce + 7 + 1 ≤ 804873 by omega), (show sl + 42 + 6 ≤ 6686849 by omega)⟩) hS (fun q _ h9 => hFc q h9) hFc (fun x9 ce9 q9 H1 locs hre _ _ _ _ _ _ _ => ?_) (fun v61 H1 locs hre hP1 hD1 hk1 hS => ?_)
                        · replace h := fb_mter hre h
                          cases h
                        replace h := fb_mtok hre h
                        clear hre h60
                        obtain ⟨hP, hD⟩ := va_join (wr := []) (w1 := fb_wX0 cI h0 qf qn qw ql sz mi v61.2 v21.2.2.1 wt wl_24) hP hD [0, 1, 2, 3, 4] [] rfl rfl (by decide) (by decide) hk1 hFc hP1 hD1
                        have hP : va_P D vwCl (fb_wX0 cI h0 qf qn qw ql sz mi v61.2 v21.2.2.1 wt wl_24) H1 := hP.sub [0, 1, 2, 3, 4] rfl
                        have hD : va_D A (fb_wX0 cI h0 qf qn qw ql sz mi v61.2 v21.2.2.1 wt wl_24) := hD.sub [0, 1, 2, 3, 4] (by decide) rfl
                        generalize H1 = H at hP hS
                        refine lv_pop hx hb dL_law_310 rfl ?_
                        refine lv_goto (tgt := 428) hx hb dL_law_311 (by decide) ?_
                        obtain ⟨e1, e2, e3⟩ := fb_p3 h
                        subst e1
                        subst e2
                        subst e3
                        refine W.widen (k := (ce + 14)) (n := (sl + 84)) (by omega) (by omega) ?_
                        exact J5 H locs hP hD hS ls (lv_sub hl [9, 10, 11, 12] rfl)
                      replace h := fb_ie c45_2 h
                      refine lv_tableOut (tgt := 314) hx hb dL_law_212 (by have e0 := lv_neT (a := 0) c45_0 (by decide); have e1 := lv_neT (a := 1) c45_1 (by decide); have e2 := lv_neT (a := 2) c45_2 (by decide); omega) (by decide) ?_
                      refine lv_iload hx hb dL_law_314 (lv_at hl 2 rfl) ?_
                      refine lv_if_ne (tgt := 322) hx hb dL_law_316 (by decide) (fun c62 => ?_) (fun c62 => ?_)
                      · replace h := fb_ie c62 h
                        refine lv_aload_n hx hb dL_law_322 rfl (lv_at hl 10 rfl) ?_
                        refine lv_iload hx hb dL_law_323 (lv_at hl 7 rfl) ?_
                        obtain ⟨re, h63, h⟩ := fb_b1s h
                        have hPc : va_P D vwCl (fb_wX0 cI h0 qf qn qw ql sz mi v21.2.1 v21.2.2.1 wt wl_24) H := hP.sub [0, 1, 2, 3, 4] rfl
                        have hDc : va_D A (fb_wX0 cI h0 qf qn qw ql sz mi v21.2.1 v21.2.2.1 wt wl_24) := hD.sub [0, 1, 2, 3, 4] (by decide) rfl
                        have hFc := va_free (wc := fb_wX0 cI h0 qf qn qw ql sz mi v21.2.1 v21.2.2.1 wt wl_24) hD hS hA [0, 1, 2, 3, 4] rfl
                        refine fb_callT (vx_runV (As := [.int r6]) (rest := []) ⟨hx, hb, hml, hown, hts⟩ (metX0_lead l hfl D cI h0 qf qn qw ql B0 sz mi v21.2.1 v21.2.2.1 wt wl_24 r6 H.size _ h63) (cwV 1 hts gL_law_X0_lead rfl rfl rfl (by decide +kernel) ⟨Nat.le_of_ble_eq_true rfl, Nat.le_of_ble_eq_true rfl⟩) (fb_preVM (ci := 0) fb_sXTp hPc hK hDc hZT hS hAB hA rfl rfl _) rfl rfl hl.1 rfl (lv_room (Nat.le_of_ble_eq_true rfl)) dL_law_325 ⟨(show ce + 7 + 1 ≤ 804873 by omega), (show sl + 42 + 6 ≤ 6686849 by omega)⟩) hS (fun q _ h9 => hFc q h9) hFc (fun x9 ce9 q9 H1 locs hre _ _ _ _ _ _ _ => ?_) (fun v64 H1 locs hre hP1 hD1 hk1 hS => ?_)
                        · replace h := fb_mter hre h
                          cases h
                        replace h := fb_mtok hre h
                        clear hre h63
                        obtain ⟨hP, hD⟩ := va_join (wr := []) (w1 := fb_wX0 cI h0 qf qn qw ql sz mi v21.2.1 v64.2.1 wt v64.2.2) hP hD [0, 1, 2, 3, 4] [] rfl rfl (by decide) (by decide) hk1 hFc hP1 hD1
                        have hP : va_P D vwCl (fb_wX0 cI h0 qf qn qw ql sz mi v21.2.1 v64.2.1 wt v64.2.2) H1 := hP.sub [0, 1, 2, 3, 4] rfl
                        have hD : va_D A (fb_wX0 cI h0 qf qn qw ql sz mi v21.2.1 v64.2.1 wt v64.2.2) := hD.sub [0, 1, 2, 3, 4] (by decide) rfl
                        generalize H1 = H at hP hS
                        refine lv_istore (lv' := [(17, .int v64.1), (16, .int j42), (15, .int (v34 + j38)), (13, .int v19.1), (12, .int v17.1), (11, .int v15.1), (8, .int ((12 : Int32) + r10)), (7, .int ((1 : Int32) + r8)), (6, .int r6), (5, .int r4), (0, .ref b), (2, .ref h0), (3, .int v3), (4, .int v4)]) hx hb dL_law_328 hl (by decide) rfl (fun ls hl => ?_)
                        refine lv_iload hx hb dL_law_330 (lv_at hl 0 rfl) ?_
                        refine lv_iload hx hb dL_law_332 (lv_at hl 8 rfl) ?_
                        refine lv_iconst (v := 1) hx hb dL_law_334 (by decide) ?_
                        refine lv_iadd hx hb dL_law_335 ?_
                        refine lv_iload_n hx hb dL_law_336 rfl (lv_at hl 12 rfl) ?_
                        obtain ⟨j68, hjJ7, h⟩ := fb_b1s h
                        have J7 : ∀ (H : Heap) (locs : List Loc), va_P D vwCl (fb_wX0 cI h0 qf qn qw ql sz mi v21.2.1 v64.2.1 wt v64.2.2) H → va_D A (fb_wX0 cI h0 qf qn qw ql sz mi v21.2.1 v64.2.1 wt v64.2.2) → va_S A s.heap H locs → ∀ (ls : Array Slot), lv_has ls 20 [(17, .int v64.1), (16, .int j42), (15, .int (v34 + j38)), (12, .int v17.1), (6, .int r6), (0, .ref b), (2, .ref h0), (3, .int v3), (4, .int v4)] → W p l e room_1 s m #[Value.ref b] below meth c H locs (ce + 9) (sl + 54) (lw_Z below #[Value.ref b] s0) (F0 m 353 ls [.int j68, .int v64.1]) := by
                          intro H locs hP hD hS ls hl
                          refine lv_iadd hx hb dL_law_353 ?_
                          refine lv_istore (lv' := [(18, .int (v64.1 + j68)), (17, .int v64.1), (16, .int j42), (15, .int (v34 + j38)), (12, .int v17.1), (6, .int r6), (0, .ref b), (2, .ref h0), (3, .int v3), (4, .int v4)]) hx hb dL_law_354 hl (by decide) rfl (fun ls hl => ?_)
                          refine lv_aload_n hx hb dL_law_356 rfl (lv_at hl 7 rfl) ?_
                          refine lv_iload hx hb dL_law_357 (lv_at hl 5 rfl) ?_
                          refine lv_iconst (v := 3) hx hb dL_law_359 (by decide) ?_
                          obtain ⟨re, h69, h⟩ := fb_b1s h
                          have hPc : va_P D vwCl (fb_wX0 cI h0 qf qn qw ql sz mi v21.2.1 v64.2.1 wt v64.2.2) H := hP.sub [0, 1, 2, 3, 4] rfl
                          have hDc : va_D A (fb_wX0 cI h0 qf qn qw ql sz mi v21.2.1 v64.2.1 wt v64.2.2) := hD.sub [0, 1, 2, 3, 4] (by decide) rfl
                          have hFc := va_free (wc := fb_wX0 cI h0 qf qn qw ql sz mi v21.2.1 v64.2.1 wt v64.2.2) hD hS hA [0, 1, 2, 3, 4] rfl
                          refine fb_callT (vx_runV (As := [.int r6, .int 3]) (rest := []) ⟨hx, hb, hml, hown, hts⟩ (metX0_told l hfl D cI h0 qf qn qw ql B0 sz mi v21.2.1 v64.2.1 wt v64.2.2 r6 3 H.size _ h69) (cwV 2 hts gL_law_X0_told rfl rfl rfl (by decide +kernel) ⟨Nat.le_of_ble_eq_true rfl, Nat.le_of_ble_eq_true rfl⟩) (fb_preVM (ci := 0) fb_sXTp hPc hK hDc hZT hS hAB hA rfl rfl _) rfl rfl hl.1 rfl (lv_room (Nat.le_of_ble_eq_true rfl)) dL_law_360 ⟨(show ce + 9 + 1 ≤ 804873 by omega), (show sl + 54 + 6 ≤ 6686849 by omega)⟩) hS (fun q _ h9 => hFc q h9) hFc (fun x9 ce9 q9 H1 locs hre _ _ _ _ _ _ _ => ?_) (fun v70 H1 locs hre hP1 hD1 hk1 hS => ?_)
                          · replace h := fb_mter hre h
                            cases h
                          replace h := fb_mtok hre h
                          clear hre h69
                          obtain ⟨hP, hD⟩ := va_join (wr := []) (w1 := fb_wX0 cI h0 qf qn qw ql sz mi v21.2.1 v64.2.1 wt v64.2.2) hP hD [0, 1, 2, 3, 4] [] rfl rfl (by decide) (by decide) hk1 hFc hP1 hD1
                          have hP : va_P D vwCl (fb_wX0 cI h0 qf qn qw ql sz mi v21.2.1 v64.2.1 wt v64.2.2) H1 := hP.sub [0, 1, 2, 3, 4] rfl
                          have hD : va_D A (fb_wX0 cI h0 qf qn qw ql sz mi v21.2.1 v64.2.1 wt v64.2.2) := hD.sub [0, 1, 2, 3, 4] (by decide) rfl
                          generalize H1 = H at hP hS
                          refine lv_iconst (v := 1) hx hb dL_law_363 (by decide) ?_
                          refine lv_icmp_ne (tgt := 426) hx hb dL_law_364 (by decide) (fun c71 => ?_) (fun c71 => ?_)
                          · replace h := fb_ie c71 h
                            cases h
                          · replace h := fb_it c71 h
                            refine lv_aload_n hx hb dL_law_367 rfl (lv_at hl 7 rfl) ?_
                            refine lv_iload hx hb dL_law_368 (lv_at hl 5 rfl) ?_
                            refine lv_iconst (v := 5) hx hb dL_law_370 (by decide) ?_
                            obtain ⟨re, h72, h⟩ := fb_b1s h
                            have hPc : va_P D vwCl (fb_wX0 cI h0 qf qn qw ql sz mi v21.2.1 v64.2.1 wt v64.2.2) H := hP.sub [0, 1, 2, 3, 4] rfl
                            have hDc : va_D A (fb_wX0 cI h0 qf qn qw ql sz mi v21.2.1 v64.2.1 wt v64.2.2) := hD.sub [0, 1, 2, 3, 4] (by decide) rfl
                            have hFc := va_free (wc := fb_wX0 cI h0 qf qn qw ql sz mi v21.2.1 v64.2.1 wt v64.2.2) hD hS hA [0, 1, 2, 3, 4] rfl
                            refine fb_callT (vx_runV (As := [.int r6, .int 5]) (rest := []) ⟨hx, hb, hml, hown, hts⟩ (metX0_told l hfl D cI h0 qf qn qw ql B0 sz mi v21.2.1 v64.2.1 wt v64.2.2 r6 5 H.size _ h72) (cwV 2 hts gL_law_X0_told rfl rfl rfl (by decide +kernel) ⟨Nat.le_of_ble_eq_true rfl, Nat.le_of_ble_eq_true rfl⟩) (fb_preVM (ci := 0) fb_sXTp hPc hK hDc hZT hS hAB hA rfl rfl _) rfl rfl hl.1 rfl (lv_room (Nat.le_of_ble_eq_true rfl)) dL_law_371 ⟨(show ce + 10 + 1 ≤ 804873 by omega), (show sl + 60 + 6 ≤ 6686849 by omega)⟩) hS (fun q _ h9 => hFc q h9) hFc (fun x9 ce9 q9 H1 locs hre _ _ _ _ _ _ _ => ?_) (fun v73 H1 locs hre hP1 hD1 hk1 hS => ?_)
                            · replace h := fb_mter hre h
                              cases h
                            replace h := fb_mtok hre h
                            clear hre h72
                            obtain ⟨hP, hD⟩ := va_join (wr := []) (w1 := fb_wX0 cI h0 qf qn qw ql sz mi v21.2.1 v64.2.1 wt v64.2.2) hP hD [0, 1, 2, 3, 4] [] rfl rfl (by decide) (by decide) hk1 hFc hP1 hD1
                            have hP : va_P D vwCl (fb_wX0 cI h0 qf qn qw ql sz mi v21.2.1 v64.2.1 wt v64.2.2) H1 := hP.sub [0, 1, 2, 3, 4] rfl
                            have hD : va_D A (fb_wX0 cI h0 qf qn qw ql sz mi v21.2.1 v64.2.1 wt v64.2.2) := hD.sub [0, 1, 2, 3, 4] (by decide) rfl
                            generalize H1 = H at hP hS
                            refine lv_iload hx hb dL_law_374 (lv_at hl 1 rfl) ?_
                            refine lv_icmp_ne (tgt := 426) hx hb dL_law_376 (by decide) (fun c74 => ?_) (fun c74 => ?_)
                            · replace h := fb_ie c74 h
                              cases h
                            · replace h := fb_it c74 h
                              refine lv_iload hx hb dL_law_379 (lv_at hl 2 rfl) ?_
                              obtain ⟨hjJ8, h⟩ := fb_b0s h
                              have J8 : ∀ (H : Heap) (locs : List Loc), va_P D vwCl (fb_wX0 cI h0 qf qn qw ql sz mi v21.2.1 v64.2.1 wt v64.2.2) H → va_D A (fb_wX0 cI h0 qf qn qw ql sz mi v21.2.1 v64.2.1 wt v64.2.2) → va_S A s.heap H locs → ∀ (ls : Array Slot), lv_has ls 20 [(12, .int v17.1), (6, .int r6), (0, .ref b), (2, .ref h0), (3, .int v3), (4, .int v4)] → W p l e room_1 s m #[Value.ref b] below meth c H locs (ce + 11) (sl + 66) (lw_Z below #[Value.ref b] s0) (F0 m 391 ls []) := by
                                intro H locs hP hD hS ls hl
                                refine lv_sipush (v := 784) hx hb dL_law_391 (by decide) ?_
                                refine lv_aload_n hx hb dL_law_394 rfl (lv_at hl 3 rfl) ?_
                                refine lv_iload hx hb dL_law_395 (lv_at hl 1 rfl) ?_
                                refine lv_iconst (v := 1) hx hb dL_law_397 (by decide) ?_
                                obtain ⟨re, h77, h⟩ := fb_b1s h
                                have hPc : va_P D vwCl (fb_wX0 cI h0 qf qn qw ql sz mi v21.2.1 v64.2.1 wt v64.2.2) H := hP.sub [0, 1, 2, 3, 4] rfl
                                have hDc : va_D A (fb_wX0 cI h0 qf qn qw ql sz mi v21.2.1 v64.2.1 wt v64.2.2) := hD.sub [0, 1, 2, 3, 4] (by decide) rfl
                                have hFc := va_free (wc := fb_wX0 cI h0 qf qn qw ql sz mi v21.2.1 v64.2.1 wt v64.2.2) hD hS hA [0, 1, 2, 3, 4] rfl
                                refine fb_callT (vx_runV (As := [.int r6, .int 1]) (rest := [.int 784]) ⟨hx, hb, hml, hown, hts⟩ (metX0_note l hfl D cI h0 qf qn qw ql B0 sz mi v21.2.1 v64.2.1 wt v64.2.2 r6 1 H.size _ h77) (cwV 2 hts gL_law_X0_note rfl rfl rfl (by decide +kernel) ⟨Nat.le_of_ble_eq_true rfl, Nat.le_of_ble_eq_true rfl⟩) (fb_preVM (ci := 0) fb_sXTp hPc hK hDc hZT hS hAB hA rfl rfl _) rfl rfl hl.1 rfl (lv_room (Nat.le_of_ble_eq_true rfl)) dL_law_398 ⟨(show ce + 11 + 1 ≤ 804873 by omega), (show sl + 66 + 6 ≤ 6686849 by omega)⟩) hS (fun q _ h9 => hFc q h9) hFc (fun x9 ce9 q9 H1 locs hre _ _ _ _ _ _ _ => ?_) (fun v78 H1 locs hre hP1 hD1 hk1 hS => ?_)
                                · replace h := fb_mter hre h
                                  cases h
                                replace h := fb_mtok hre h
                                clear hre h77
                                obtain ⟨hP, hD⟩ := va_join (wr := []) (w1 := fb_wX0 cI h0 qf qn qw ql sz mi v21.2.1 v64.2.1 wt v64.2.2) hP hD [0, 1, 2, 3, 4] [] rfl rfl (by decide) (by decide) hk1 hFc hP1 hD1
                                have hP : va_P D vwCl (fb_wX0 cI h0 qf qn qw ql sz mi v21.2.1 v64.2.1 wt v64.2.2) H1 := hP.sub [0, 1, 2, 3, 4] rfl
                                have hD : va_D A (fb_wX0 cI h0 qf qn qw ql sz mi v21.2.1 v64.2.1 wt v64.2.2) := hD.sub [0, 1, 2, 3, 4] (by decide) rfl
                                generalize H1 = H at hP hS
                                refine lv_imul hx hb dL_law_401 ?_
                                refine lv_bipush (v := 28) hx hb dL_law_402 (by decide) ?_
                                refine lv_aload_n hx hb dL_law_404 rfl (lv_at hl 3 rfl) ?_
                                refine lv_iload hx hb dL_law_405 (lv_at hl 1 rfl) ?_
                                refine lv_iconst (v := 2) hx hb dL_law_407 (by decide) ?_
                                obtain ⟨re, h79, h⟩ := fb_b1s h
                                have hPc : va_P D vwCl (fb_wX0 cI h0 qf qn qw ql sz mi v21.2.1 v64.2.1 wt v64.2.2) H := hP.sub [0, 1, 2, 3, 4] rfl
                                have hDc : va_D A (fb_wX0 cI h0 qf qn qw ql sz mi v21.2.1 v64.2.1 wt v64.2.2) := hD.sub [0, 1, 2, 3, 4] (by decide) rfl
                                have hFc := va_free (wc := fb_wX0 cI h0 qf qn qw ql sz mi v21.2.1 v64.2.1 wt v64.2.2) hD hS hA [0, 1, 2, 3, 4] rfl
                                refine fb_callT (vx_runV (As := [.int r6, .int 2]) (rest := [.int 28, .int ((784 : Int32) * v78)]) ⟨hx, hb, hml, hown, hts⟩ (metX0_note l hfl D cI h0 qf qn qw ql B0 sz mi v21.2.1 v64.2.1 wt v64.2.2 r6 2 H.size _ h79) (cwV 2 hts gL_law_X0_note rfl rfl rfl (by decide +kernel) ⟨Nat.le_of_ble_eq_true rfl, Nat.le_of_ble_eq_true rfl⟩) (fb_preVM (ci := 0) fb_sXTp hPc hK hDc hZT hS hAB hA rfl rfl _) rfl rfl hl.1 rfl (lv_room (Nat.le_of_ble_eq_true rfl)) dL_law_408 ⟨(show ce + 12 + 1 ≤ 804873 by omega), (show sl + 72 + 6 ≤ 6686849 by omega)⟩) hS (fun q _ h9 => hFc q h9) hFc (fun x9 ce9 q9 H1 locs hre _ _ _ _ _ _ _ => ?_) (fun v80 H1 locs hre hP1 hD1 hk1 hS => ?_)
                                · replace h := fb_mter hre h
                                  cases h
                                replace h := fb_mtok hre h
                                clear hre h79
                                obtain ⟨hP, hD⟩ := va_join (wr := []) (w1 := fb_wX0 cI h0 qf qn qw ql sz mi v21.2.1 v64.2.1 wt v64.2.2) hP hD [0, 1, 2, 3, 4] [] rfl rfl (by decide) (by decide) hk1 hFc hP1 hD1
                                have hP : va_P D vwCl (fb_wX0 cI h0 qf qn qw ql sz mi v21.2.1 v64.2.1 wt v64.2.2) H1 := hP.sub [0, 1, 2, 3, 4] rfl
                                have hD : va_D A (fb_wX0 cI h0 qf qn qw ql sz mi v21.2.1 v64.2.1 wt v64.2.2) := hD.sub [0, 1, 2, 3, 4] (by decide) rfl
                                generalize H1 = H at hP hS
                                refine lv_imul hx hb dL_law_411 ?_
                                refine lv_iadd hx hb dL_law_412 ?_
                                refine lv_aload_n hx hb dL_law_413 rfl (lv_at hl 3 rfl) ?_
                                refine lv_iload hx hb dL_law_414 (lv_at hl 1 rfl) ?_
                                refine lv_iconst (v := 3) hx hb dL_law_416 (by decide) ?_
                                obtain ⟨re, h81, h⟩ := fb_b1s h
                                have hPc : va_P D vwCl (fb_wX0 cI h0 qf qn qw ql sz mi v21.2.1 v64.2.1 wt v64.2.2) H := hP.sub [0, 1, 2, 3, 4] rfl
                                have hDc : va_D A (fb_wX0 cI h0 qf qn qw ql sz mi v21.2.1 v64.2.1 wt v64.2.2) := hD.sub [0, 1, 2, 3, 4] (by decide) rfl
                                have hFc := va_free (wc := fb_wX0 cI h0 qf qn qw ql sz mi v21.2.1 v64.2.1 wt v64.2.2) hD hS hA [0, 1, 2, 3, 4] rfl
                                refine fb_callT (vx_runV (As := [.int r6, .int 3]) (rest := [.int (((784 : Int32) * v78) + ((28 : Int32) * v80))]) ⟨hx, hb, hml, hown, hts⟩ (metX0_note l hfl D cI h0 qf qn qw ql B0 sz mi v21.2.1 v64.2.1 wt v64.2.2 r6 3 H.size _ h81) (cwV 2 hts gL_law_X0_note rfl rfl rfl (by decide +kernel) ⟨Nat.le_of_ble_eq_true rfl, Nat.le_of_ble_eq_true rfl⟩) (fb_preVM (ci := 0) fb_sXTp hPc hK hDc hZT hS hAB hA rfl rfl _) rfl rfl hl.1 rfl (lv_room (Nat.le_of_ble_eq_true rfl)) dL_law_417 ⟨(show ce + 13 + 1 ≤ 804873 by omega), (show sl + 78 + 6 ≤ 6686849 by omega)⟩) hS (fun q _ h9 => hFc q h9) hFc (fun x9 ce9 q9 H1 locs hre _ _ _ _ _ _ _ => ?_) (fun v82 H1 locs hre hP1 hD1 hk1 hS => ?_)
                                · replace h := fb_mter hre h
                                  cases h
                                replace h := fb_mtok hre h
                                clear hre h81
                                obtain ⟨hP, hD⟩ := va_join (wr := []) (w1 := fb_wX0 cI h0 qf qn qw ql sz mi v21.2.1 v64.2.1 wt v64.2.2) hP hD [0, 1, 2, 3, 4] [] rfl rfl (by decide) (by decide) hk1 hFc hP1 hD1
                                have hP : va_P D vwCl (fb_wX0 cI h0 qf qn qw ql sz mi v21.2.1 v64.2.1 wt v64.2.2) H1 := hP.sub [0, 1, 2, 3, 4] rfl
                                have hD : va_D A (fb_wX0 cI h0 qf qn qw ql sz mi v21.2.1 v64.2.1 wt v64.2.2) := hD.sub [0, 1, 2, 3, 4] (by decide) rfl
                                generalize H1 = H at hP hS
                                refine lv_iadd hx hb dL_law_420 ?_
                                refine lv_iload hx hb dL_law_421 (lv_at hl 0 rfl) ?_
                                refine lv_icmp_eq (tgt := 428) hx hb dL_law_423 (by decide) (fun c83 => ?_) (fun c83 => ?_)
                                · replace h := fb_it c83 h
                                  obtain ⟨e1, e2, e3⟩ := fb_p3 h
                                  subst e1
                                  subst e2
                                  subst e3
                                  exact J5 H locs hP hD hS ls (lv_sub hl [2, 3, 4, 5] rfl)
                                · replace h := fb_ie c83 h
                                  cases h
                              replace h := hjJ8
                              refine lv_if_eq (tgt := 391) hx hb dL_law_381 (by decide) (fun c75 => ?_) (fun c75 => ?_)
                              · replace h := fb_it c75 h
                                exact J8 H locs hP hD hS ls (lv_sub hl [4, 5, 6, 7, 8, 9] rfl)
                              · replace h := fb_ie c75 h
                                refine lv_iload hx hb dL_law_384 (lv_at hl 0 rfl) ?_
                                refine lv_iload hx hb dL_law_386 (lv_at hl 3 rfl) ?_
                                refine lv_icmp_gt (tgt := 426) hx hb dL_law_388 (by decide) (fun c76 => ?_) (fun c76 => ?_)
                                · replace h := fb_it c76 h
                                  cases h
                                · replace h := fb_ie c76 h
                                  exact J8 H locs hP hD hS ls (lv_sub hl [4, 5, 6, 7, 8, 9] rfl)
                        replace h := hjJ7
                        refine lv_icmp_ge (tgt := 352) hx hb dL_law_337 (by decide) (fun c65 => ?_) (fun c65 => ?_)
                        · replace h := fb_it c65 h
                          refine lv_iconst (v := 0) hx hb dL_law_352 (by decide) ?_
                          have h := Option.some.inj h
                          subst h
                          refine W.widen (k := (ce + 9)) (n := (sl + 54)) (by omega) (by omega) ?_
                          exact J7 H locs hP hD hS ls (lv_sub hl [0, 1, 2, 4, 8, 10, 11, 12, 13] rfl)
                        · replace h := fb_ie c65 h
                          refine lv_aload_n hx hb dL_law_340 rfl (lv_at hl 11 rfl) ?_
                          refine lv_iload hx hb dL_law_341 (lv_at hl 8 rfl) ?_
                          refine lv_iconst (v := 1) hx hb dL_law_343 (by decide) ?_
                          refine lv_iadd hx hb dL_law_344 ?_
                          refine lv_iconst (v := 5) hx hb dL_law_345 (by decide) ?_
                          obtain ⟨re, h66, h⟩ := fb_b1s h
                          have hPc : va_P D vwCl (fb_wX0 cI h0 qf qn qw ql sz mi v21.2.1 v64.2.1 wt v64.2.2) H := hP.sub [0, 1, 2, 3, 4] rfl
                          have hDc : va_D A (fb_wX0 cI h0 qf qn qw ql sz mi v21.2.1 v64.2.1 wt v64.2.2) := hD.sub [0, 1, 2, 3, 4] (by decide) rfl
                          have hFc := va_free (wc := fb_wX0 cI h0 qf qn qw ql sz mi v21.2.1 v64.2.1 wt v64.2.2) hD hS hA [0, 1, 2, 3, 4] rfl
                          refine fb_callT (vx_runV (As := [.int (r6 + 1), .int 5]) (rest := [.int v64.1]) ⟨hx, hb, hml, hown, hts⟩ (metX0_told l hfl D cI h0 qf qn qw ql B0 sz mi v21.2.1 v64.2.1 wt v64.2.2 (r6 + 1) 5 H.size _ h66) (cwV 2 hts gL_law_X0_told rfl rfl rfl (by decide +kernel) ⟨Nat.le_of_ble_eq_true rfl, Nat.le_of_ble_eq_true rfl⟩) (fb_preVM (ci := 0) fb_sXTp hPc hK hDc hZT hS hAB hA rfl rfl _) rfl rfl hl.1 rfl (lv_room (Nat.le_of_ble_eq_true rfl)) dL_law_346 ⟨(show ce + 8 + 1 ≤ 804873 by omega), (show sl + 48 + 6 ≤ 6686849 by omega)⟩) hS (fun q _ h9 => hFc q h9) hFc (fun x9 ce9 q9 H1 locs hre _ _ _ _ _ _ _ => ?_) (fun v67 H1 locs hre hP1 hD1 hk1 hS => ?_)
                          · replace h := fb_mter hre h
                            cases h
                          replace h := fb_mtok hre h
                          clear hre h66
                          obtain ⟨hP, hD⟩ := va_join (wr := []) (w1 := fb_wX0 cI h0 qf qn qw ql sz mi v21.2.1 v64.2.1 wt v64.2.2) hP hD [0, 1, 2, 3, 4] [] rfl rfl (by decide) (by decide) hk1 hFc hP1 hD1
                          have hP : va_P D vwCl (fb_wX0 cI h0 qf qn qw ql sz mi v21.2.1 v64.2.1 wt v64.2.2) H1 := hP.sub [0, 1, 2, 3, 4] rfl
                          have hD : va_D A (fb_wX0 cI h0 qf qn qw ql sz mi v21.2.1 v64.2.1 wt v64.2.2) := hD.sub [0, 1, 2, 3, 4] (by decide) rfl
                          generalize H1 = H at hP hS
                          refine lv_goto (tgt := 353) hx hb dL_law_349 (by decide) ?_
                          have h := Option.some.inj h
                          subst h
                          exact J7 H locs hP hD hS ls (lv_sub hl [0, 1, 2, 4, 8, 10, 11, 12, 13] rfl)
                      · replace h := fb_it c62 h
                        refine lv_goto (tgt := 428) hx hb dL_law_319 (by decide) ?_
                        obtain ⟨e1, e2, e3⟩ := fb_p3 h
                        subst e1
                        subst e2
                        subst e3
                        refine W.widen (k := (ce + 14)) (n := (sl + 84)) (by omega) (by omega) ?_
                        exact J5 H locs hP hD hS ls (lv_sub hl [9, 10, 11, 12] rfl)
                    replace h := hjJ4
                    refine lv_icmp_ne (tgt := 203) hx hb dL_law_196 (by decide) (fun c41 => ?_) (fun c41 => ?_)
                    · replace h := fb_ie c41 h
                      refine lv_iconst (v := 0) hx hb dL_law_203 (by decide) ?_
                      have h := Option.some.inj h
                      subst h
                      exact J4 H locs hP hD hS ls (lv_sub hl [0, 1, 2, 3, 4, 5, 6, 7, 8, 9, 10, 11] rfl)
                    · replace h := fb_it c41 h
                      refine lv_iconst (v := 1) hx hb dL_law_199 (by decide) ?_
                      refine lv_goto (tgt := 204) hx hb dL_law_200 (by decide) ?_
                      have h := Option.some.inj h
                      subst h
                      exact J4 H locs hP hD hS ls (lv_sub hl [0, 1, 2, 3, 4, 5, 6, 7, 8, 9, 10, 11] rfl)
                  replace h := hjJ3
                  refine lv_icmp_ge (tgt := 184) hx hb dL_law_169 (by decide) (fun c35 => ?_) (fun c35 => ?_)
                  · replace h := fb_it c35 h
                    refine lv_iconst (v := 0) hx hb dL_law_184 (by decide) ?_
                    have h := Option.some.inj h
                    subst h
                    refine W.widen (k := (ce + 6)) (n := (sl + 36)) (by omega) (by omega) ?_
                    exact J3 H locs hP hD hS ls (lv_sub hl [1, 2, 3, 4, 5, 6, 7, 8, 9, 10, 11] rfl)
                  · replace h := fb_ie c35 h
                    refine lv_aload_n hx hb dL_law_172 rfl (lv_at hl 9 rfl) ?_
                    refine lv_iload hx hb dL_law_173 (lv_at hl 6 rfl) ?_
                    refine lv_iconst (v := 1) hx hb dL_law_175 (by decide) ?_
                    refine lv_iadd hx hb dL_law_176 ?_
                    refine lv_iconst (v := 5) hx hb dL_law_177 (by decide) ?_
                    obtain ⟨re, h36, h⟩ := fb_b1s h
                    have hPc : va_P D vwCl (fb_wX0 cI h0 qf qn qw ql sz mi v21.2.1 v21.2.2.1 wt wl_24) H := hP.sub [0, 1, 2, 3, 4] rfl
                    have hDc : va_D A (fb_wX0 cI h0 qf qn qw ql sz mi v21.2.1 v21.2.2.1 wt wl_24) := hD.sub [0, 1, 2, 3, 4] (by decide) rfl
                    have hFc := va_free (wc := fb_wX0 cI h0 qf qn qw ql sz mi v21.2.1 v21.2.2.1 wt wl_24) hD hS hA [0, 1, 2, 3, 4] rfl
                    refine fb_callT (vx_runV (As := [.int (r6 + 1), .int 5]) (rest := [.int v34]) ⟨hx, hb, hml, hown, hts⟩ (metX0_told l hfl D cI h0 qf qn qw ql B0 sz mi v21.2.1 v21.2.2.1 wt wl_24 (r6 + 1) 5 H.size _ h36) (cwV 2 hts gL_law_X0_told rfl rfl rfl (by decide +kernel) ⟨Nat.le_of_ble_eq_true rfl, Nat.le_of_ble_eq_true rfl⟩) (fb_preVM (ci := 0) fb_sXTp hPc hK hDc hZT hS hAB hA rfl rfl _) rfl rfl hl.1 rfl (lv_room (Nat.le_of_ble_eq_true rfl)) dL_law_178 ⟨(show ce + 5 + 1 ≤ 804873 by omega), (show sl + 30 + 6 ≤ 6686849 by omega)⟩) hS (fun q _ h9 => hFc q h9) hFc (fun x9 ce9 q9 H1 locs hre _ _ _ _ _ _ _ => ?_) (fun v37 H1 locs hre hP1 hD1 hk1 hS => ?_)
                    · replace h := fb_mter hre h
                      cases h
                    replace h := fb_mtok hre h
                    clear hre h36
                    obtain ⟨hP, hD⟩ := va_join (wr := []) (w1 := fb_wX0 cI h0 qf qn qw ql sz mi v21.2.1 v21.2.2.1 wt wl_24) hP hD [0, 1, 2, 3, 4] [] rfl rfl (by decide) (by decide) hk1 hFc hP1 hD1
                    have hP : va_P D vwCl (fb_wX0 cI h0 qf qn qw ql sz mi v21.2.1 v21.2.2.1 wt wl_24) H1 := hP.sub [0, 1, 2, 3, 4] rfl
                    have hD : va_D A (fb_wX0 cI h0 qf qn qw ql sz mi v21.2.1 v21.2.2.1 wt wl_24) := hD.sub [0, 1, 2, 3, 4] (by decide) rfl
                    generalize H1 = H at hP hS
                    refine lv_goto (tgt := 185) hx hb dL_law_181 (by decide) ?_
                    have h := Option.some.inj h
                    subst h
                    exact J3 H locs hP hD hS ls (lv_sub hl [1, 2, 3, 4, 5, 6, 7, 8, 9, 10, 11] rfl)
                · replace h := fb_ie c32 h
                  cases h
          replace h := hjJ2
          refine lv_if_ne (tgt := 139) hx hb dL_law_132 (by decide) (fun c28 => ?_) (fun c28 => ?_)
          · replace h := fb_ie c28 h
            refine lv_iconst (v := 0) hx hb dL_law_139 (by decide) ?_
            have h := Option.some.inj h
            subst h
            exact J2 H locs hP hD hS ls (lv_sub hl [0, 1, 2, 3, 4, 5, 6, 7, 8, 9, 10, 11] rfl)
          · replace h := fb_it c28 h
            refine lv_iconst (v := 1) hx hb dL_law_135 (by decide) ?_
            refine lv_goto (tgt := 140) hx hb dL_law_136 (by decide) ?_
            have h := Option.some.inj h
            subst h
            exact J2 H locs hP hD hS ls (lv_sub hl [0, 1, 2, 3, 4, 5, 6, 7, 8, 9, 10, 11] rfl)
        replace h := hjJ1
        refine lv_if_ge (tgt := 129) hx hb dL_law_122 (by decide) (fun c26 => ?_) (fun c26 => ?_)
        · replace h := fb_it c26 h
          refine lv_iconst (v := 0) hx hb dL_law_129 (by decide) ?_
          have h := Option.some.inj h
          subst h
          exact J1 H locs hP hD hS ls (lv_sub hl [0, 1, 2, 3, 5, 6, 7, 8, 9, 10, 11, 12] rfl)
        · replace h := fb_ie c26 h
          refine lv_iconst (v := 1) hx hb dL_law_125 (by decide) ?_
          refine lv_goto (tgt := 130) hx hb dL_law_126 (by decide) ?_
          have h := Option.some.inj h
          subst h
          exact J1 H locs hP hD hS ls (lv_sub hl [0, 1, 2, 3, 5, 6, 7, 8, 9, 10, 11, 12] rfl)
