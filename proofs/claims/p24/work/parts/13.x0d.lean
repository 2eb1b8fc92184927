/-! Contracts, printed by wip/p24/g1.py. -/
abbrev rmX0_chord : Room := { frames := 6, cells := 1, slots := 6, locals := 95 }
set_option maxHeartbeats 8000000 in
set_option maxRecDepth 100000 in
theorem metX0_chord (l : Launch) (hfl : l.stackTraces = false) (D : va_G) (cI : ClassId) (h0 qf qn qw ql B0 : Nat) (sz : Int32) (mi : Int32) (fg : Nat → Int32) (nt : Nat → Int32) (wt : Nat → Int32) (wl : Nat → Int32) (a1 : Int32) (a2 : Int32) (hz : Nat) (ro : Except (String × Int32 × (Nat → Int32) × (Nat → Int32)) (Int32 × Int32 × (Nat → Int32) × (Nat → Int32))) (h : fX0_chord sz mi fg nt wt wl a1 a2 = some ro) : vx_Met l yX0_chord wsX0_chord rmX0_chord (va_Pc [.ref h0, .int a1, .int a2] (fb_pm D [(cI, .int)] B0 fb_sXT (fb_wX0 cI h0 qf qn qw ql sz mi fg nt wt wl) hz)) (fb_qT ro (fun v : Int32 × Int32 × (Nat → Int32) × (Nat → Int32) => some (.int v.1)) (fun v : Int32 × Int32 × (Nat → Int32) × (Nat → Int32) => fb_wX0 cI h0 qf qn qw ql v.2.1 mi v.2.2.1 v.2.2.2 wt wl) D (va_A (fb_wX0 cI h0 qf qn qw ql sz mi fg nt wt wl) hz)) (fb_xT ro (fun x : String × Int32 × (Nat → Int32) × (Nat → Int32) => fb_wX0 cI h0 qf qn qw ql x.2.1 mi x.2.2.1 x.2.2.2 wt wl) D (va_A (fb_wX0 cI h0 qf qn qw ql sz mi fg nt wt wl) hz)) 1 6 (va_A (fb_wX0 cI h0 qf qn qw ql sz mi fg nt wt wl) hz) := by
  refine vx_ofW (cc := cX0_chord) (maxL := 4) (ret := (some .int)) (by decide) rfl ?_
  intro p e s m args below meth c s₁ B hml htab hv
  obtain ⟨rfl, hsz, ⟨hP, hK, hZ⟩, hD0, hAB⟩ := hv
  have hx := B.exec
  have hb := B.bytes
  have hr := B.returns
  have hts := atoms_spec (ws := wsX0_chord) B.pre
  have hown : s.vm.findClass RX0 = some m.cls := findClass_of_methodNamed B.named
  have hlocks := B.notSynchronized
  subst hsz
  have hD := hD0.self (sz := s.heap.size)
  generalize hAe : va_A (fb_wX0 cI h0 qf qn qw ql sz mi fg nt wt wl) s.heap.size = A at hD hAB ⊢
  have hA : ∀ q : Nat, s.heap.size ≤ q → A q := fun q h9 => by rw [← hAe]; exact Or.inr h9
  have hS : va_S A s.heap s.heap [] := va_S.rf
  have hP : va_P D vwCl (fb_wX0 cI h0 qf qn qw ql sz mi fg nt wt wl) s.heap := hP
  have hZT := hZ
  replace hZ := hZT.1
  have hin0 : ∀ w ∈ u_ws RX0 TX0 6, w ∈ wsX0_chord := fun _ h9 => List.mem_cons_of_mem _ (List.mem_append_left _ (List.mem_append_left _ (List.mem_append_right _ (h9))))
  have w_c34 : (Cond.classLink RX0 34 "java/lang/IllegalArgumentException") ∈ wsX0_chord := List.mem_of_getElem? (i := 1) rfl
  have w_c47 : (Cond.classLink RX0 47 "java/lang/IllegalStateException") ∈ wsX0_chord := List.mem_of_getElem? (i := 3) rfl
  have w_f17 : (Cond.fieldLink RX0 17 "FiguredBass" "figures" "[I") ∈ wsX0_chord := List.mem_of_getElem? (i := 6) rfl
  have w_f21 : (Cond.fieldLink RX0 21 "FiguredBass" "notes" "[I") ∈ wsX0_chord := List.mem_of_getElem? (i := 7) rfl
  have w_f7 : (Cond.fieldLink RX0 7 "FiguredBass" "size" "I") ∈ wsX0_chord := List.mem_of_getElem? (i := 5) rfl
  have w_iIllegalArgumentException : (Cond.initialized "java/lang/IllegalArgumentException") ∈ wsX0_chord := List.mem_of_getElem? (i := 2) rfl
  have w_iIllegalStateException : (Cond.initialized "java/lang/IllegalStateException") ∈ wsX0_chord := List.mem_of_getElem? (i := 4) rfl
  have hl := lv_entry ([.ref h0, .int a1, .int a2]) (n := 4) (Nat.le_of_ble_eq_true rfl)
  rw [lg_entry_eq]
  generalize (lg_sl ([.ref h0, .int a1, .int a2]) ++ List.replicate (4 - (lg_sl ([.ref h0, .int a1, .int a2])).length) Slot.unset).toArray = ls at hl ⊢
  have hl : lv_has ls 4 [(0, .ref h0), (1, .int a1), (2, .int a2)] := hl
  suffices K : ∀ (H : Heap) (locs : List Loc), va_P D vwCl (fb_wX0 cI h0 qf qn qw ql sz mi fg nt wt wl) H → va_S A s.heap H locs → W p l e (headSpec wsX0_chord rmX0_chord).room s m ([.ref h0, .int a1, .int a2] : List Value).toArray below meth c H locs 0 0 (vx_MQ below (fb_qT ro (fun v : Int32 × Int32 × (Nat → Int32) × (Nat → Int32) => some (.int v.1)) (fun v : Int32 × Int32 × (Nat → Int32) × (Nat → Int32) => fb_wX0 cI h0 qf qn qw ql v.2.1 mi v.2.2.1 v.2.2.2 wt wl) D A) (fb_xT ro (fun x : String × Int32 × (Nat → Int32) × (Nat → Int32) => fb_wX0 cI h0 qf qn qw ql x.2.1 mi x.2.2.1 x.2.2.2 wt wl) D A) ([.ref h0, .int a1, .int a2] : List Value).toArray s 1 6 A) (F0 m 0 ls []) from K s.heap [] hP hS
  intro H locs hP hS
  unfold fX0_chord at h
  refine lv_iconst (v := 0) hx hb dX0_chord_0 (by decide) ?_
  refine lv_iload_n hx hb dX0_chord_1 rfl (lv_at hl 1 rfl) ?_
  obtain ⟨r2, h1, h⟩ := fb_b1s h
  refine fb_callR (W.runS (As := [.int 0, .int a1]) (rest := []) ⟨hx, hb, hml, hown, hts⟩ (metX0_isNoteOf l B0 0 a1 r2 h1) (va_cwS 2 hts gX0_chord_X0_isNoteOf rfl rfl rfl (by decide +kernel) ⟨Nat.le_of_ble_eq_true rfl, Nat.le_of_ble_eq_true rfl⟩) (fb_preS fb_sX0p hZ hS hAB _) rfl rfl hl.1 rfl (lv_room (Nat.le_of_ble_eq_true rfl)) dX0_chord_2 ⟨Nat.le_of_ble_eq_true rfl, Nat.le_of_ble_eq_true rfl⟩) ?_
  refine lv_if_ne (tgt := 18) hx hb dX0_chord_5 (by decide) (fun c3 => ?_) (fun c3 => ?_)
  · replace h := fb_ie c3 h
    refine lv_iload_n hx hb dX0_chord_18 rfl (lv_at hl 2 rfl) ?_
    obtain ⟨r5, h4, h⟩ := fb_b1s h
    refine fb_callR (W.runS (As := [.int a2]) (rest := []) ⟨hx, hb, hml, hown, hts⟩ (metX0_isFigure l B0 a2 r5 h4) (va_cwS 1 hts gX0_chord_X0_isFigure rfl rfl rfl (by decide +kernel) ⟨Nat.le_of_ble_eq_true rfl, Nat.le_of_ble_eq_true rfl⟩) (fb_preS fb_sX0p hZ hS hAB _) rfl rfl hl.1 rfl (lv_room (Nat.le_of_ble_eq_true rfl)) dX0_chord_19 ⟨Nat.le_of_ble_eq_true rfl, Nat.le_of_ble_eq_true rfl⟩) ?_
    refine lv_if_ne (tgt := 35) hx hb dX0_chord_22 (by decide) (fun c6 => ?_) (fun c6 => ?_)
    · replace h := fb_ie c6 h
      refine lv_aload_n hx hb dX0_chord_35 rfl (lv_at hl 0 rfl) ?_
      refine va_get (D := D) (ci := 0) (v := .int sz) (C := RX0) (T := TX0) (N := 6) hx hb hts hin0 hown hK hP 0 rfl rfl 0 (by decide) (hts _ w_f7) (fun _ h9 => h9) rfl dX0_chord_36 ?_
      refine lv_bipush (v := 12) hx hb dX0_chord_39 (by decide) ?_
      refine lv_icmp_lt (tgt := 54) hx hb dX0_chord_41 (by decide) (fun c7 => ?_) (fun c7 => ?_)
      · replace h := fb_it c7 h
        refine lv_aload_n hx hb dX0_chord_54 rfl (lv_at hl 0 rfl) ?_
        refine va_get (D := D) (ci := 0) (v := .int sz) (C := RX0) (T := TX0) (N := 6) hx hb hts hin0 hown hK hP 0 rfl rfl 0 (by decide) (hts _ w_f7) (fun _ h9 => h9) rfl dX0_chord_55 ?_
        refine lv_istore_n (lv' := [(3, .int sz), (0, .ref h0), (1, .int a1), (2, .int a2)]) hx hb dX0_chord_58 rfl hl (by decide) rfl (fun ls hl => ?_)
        refine lv_aload_n hx hb dX0_chord_59 rfl (lv_at hl 1 rfl) ?_
        refine lv_dup hx hb dX0_chord_60 rfl ?_
        refine va_get (D := D) (ci := 0) (v := .int sz) (C := RX0) (T := TX0) (N := 6) hx hb hts hin0 hown hK hP 0 rfl rfl 0 (by decide) (hts _ w_f7) (fun _ h9 => h9) rfl dX0_chord_61 ?_
        refine lv_iconst (v := 1) hx hb dX0_chord_64 (by decide) ?_
        refine lv_iadd hx hb dX0_chord_65 ?_
        refine va_put (D := D) (ci := 0) (v := .int (sz + 1)) (ty := .int) (C := RX0) (T := TX0) (N := 6) hx hb hts hin0 tyX0 tyX0_ok nmX0 hown hK hP hD hS 0 rfl rfl 0 (by decide) (hts _ w_f7) (fun _ h9 => h9) rfl (by decide +kernel) rfl rfl (Nat.le_of_ble_eq_true rfl) dX0_chord_66 (fun H locs hP hD hS => ?_)
        have hP : va_P D vwCl (fb_wX0 cI h0 qf qn qw ql (sz + 1) mi fg nt wt wl) H := hP
        have hD : va_D A (fb_wX0 cI h0 qf qn qw ql (sz + 1) mi fg nt wt wl) := hD
        refine lv_aload_n hx hb dX0_chord_69 rfl (lv_at hl 1 rfl) ?_
        refine va_get (D := D) (ci := 0) (v := .ref qf) (C := RX0) (T := TX0) (N := 6) hx hb hts hin0 hown hK hP 0 rfl rfl 2 (by decide) (hts _ w_f17) (fun _ h9 => h9) rfl dX0_chord_70 ?_
        refine lv_iload_n hx hb dX0_chord_73 rfl (lv_at hl 0 rfl) ?_
        refine lv_iload_n hx hb dX0_chord_74 rfl (lv_at hl 3 rfl) ?_
        obtain ⟨hi8, h⟩ := fb_cks h
        refine va_iast hx hb hK hP hD hS 1 0 rfl rfl (fb_ixin hi8) dX0_chord_75 (fun H locs hP hD hS => ?_)
        have hP : va_P D vwCl (fb_wX0 cI h0 qf qn qw ql (sz + 1) mi (upd fg sz.toNatClampNeg a2) nt wt wl) H := hP
        have hD : va_D A (fb_wX0 cI h0 qf qn qw ql (sz + 1) mi (upd fg sz.toNatClampNeg a2) nt wt wl) := hD
        refine lv_aload_n hx hb dX0_chord_76 rfl (lv_at hl 1 rfl) ?_
        refine va_get (D := D) (ci := 0) (v := .ref qn) (C := RX0) (T := TX0) (N := 6) hx hb hts hin0 hown hK hP 0 rfl rfl 3 (by decide) (hts _ w_f21) (fun _ h9 => h9) rfl dX0_chord_77 ?_
        refine lv_iload_n hx hb dX0_chord_80 rfl (lv_at hl 0 rfl) ?_
        refine lv_iconst (v := 4) hx hb dX0_chord_81 (by decide) ?_
        refine lv_imul hx hb dX0_chord_82 ?_
        refine lv_iload_n hx hb dX0_chord_83 rfl (lv_at hl 2 rfl) ?_
        obtain ⟨hi9, h⟩ := fb_cks h
        refine va_iast hx hb hK hP hD hS 2 0 rfl rfl (fb_ixin hi9) dX0_chord_84 (fun H locs hP hD hS => ?_)
        have hP : va_P D vwCl (fb_wX0 cI h0 qf qn qw ql (sz + 1) mi (upd fg sz.toNatClampNeg a2) (upd nt (sz * 4).toNatClampNeg a1) wt wl) H := hP
        have hD : va_D A (fb_wX0 cI h0 qf qn qw ql (sz + 1) mi (upd fg sz.toNatClampNeg a2) (upd nt (sz * 4).toNatClampNeg a1) wt wl) := hD
        refine lv_aload_n hx hb dX0_chord_85 rfl (lv_at hl 1 rfl) ?_
        refine lv_iload_n hx hb dX0_chord_86 rfl (lv_at hl 0 rfl) ?_
        refine lv_iconst (v := (-1)) hx hb dX0_chord_87 (by decide) ?_
        refine lv_iconst (v := (-1)) hx hb dX0_chord_88 (by decide) ?_
        refine lv_iconst (v := (-1)) hx hb dX0_chord_89 (by decide) ?_
        obtain ⟨nt_11, h10, h⟩ := fb_b1s h
        have hPc : va_P D vwCl (fb_wX0 cI h0 qf qn qw ql (sz + 1) mi (upd fg sz.toNatClampNeg a2) (upd nt (sz * 4).toNatClampNeg a1) wt wl) H := hP.sub [0, 1, 2, 3, 4] rfl
        have hDc : va_D A (fb_wX0 cI h0 qf qn qw ql (sz + 1) mi (upd fg sz.toNatClampNeg a2) (upd nt (sz * 4).toNatClampNeg a1) wt wl) := hD.sub [0, 1, 2, 3, 4] (by decide) rfl
        have hFc := va_free (wc := fb_wX0 cI h0 qf qn qw ql (sz + 1) mi (upd fg sz.toNatClampNeg a2) (upd nt (sz * 4).toNatClampNeg a1) wt wl) hD hS hA [0, 1, 2, 3, 4] rfl
        refine fb_callM (va_runV (As := [.int sz, .int (-1), .int (-1), .int (-1)]) (rest := []) ⟨hx, hb, hml, hown, hts⟩ (metX0_putNotes l D cI h0 qf qn qw ql B0 (sz + 1) mi (upd fg sz.toNatClampNeg a2) (upd nt (sz * 4).toNatClampNeg a1) wt wl sz (-1) (-1) (-1) H.size nt_11 h10) (cwV 4 hts gX0_chord_X0_putNotes rfl rfl rfl (by decide +kernel) ⟨Nat.le_of_ble_eq_true rfl, Nat.le_of_ble_eq_true rfl⟩) (fb_preVM (ci := 0) fb_sX0p hPc hK hDc hZ hS hAB hA rfl rfl _) rfl rfl hl.1 rfl (lv_room (Nat.le_of_ble_eq_true rfl)) dX0_chord_90 ⟨Nat.le_of_ble_eq_true rfl, Nat.le_of_ble_eq_true rfl⟩) hS (fun q _ h9 => hFc q h9) hFc (fun _ H1 locs hP1 hD1 hz1 hk1 hS => ?_)
        have hP : va_P D vwCl (fb_wX0 cI h0 qf qn qw ql (sz + 1) mi (upd fg sz.toNatClampNeg a2) nt_11 wt wl) H1 := hP1
        have hD : va_D A (fb_wX0 cI h0 qf qn qw ql (sz + 1) mi (upd fg sz.toNatClampNeg a2) nt_11 wt wl) := hD1.weaken (fun _ q _ h9 => hFc q.1 h9)
        generalize H1 = H at hP hS
        refine lv_iload_n hx hb dX0_chord_93 rfl (lv_at hl 0 rfl) ?_
        have h := Option.some.inj h
        subst h
        refine W.widen (k := 1) (n := 6) (by first | decide | omega) (by first | decide | omega) ?_
        refine vx_ret ?_
        exact W.iret hx hb hr (fun t ht _ => ⟨_, rfl, ⟨rfl, by rw [ht]; exact hP, hD⟩, hS.F ht⟩) hS.2.2 dX0_chord_94
      · replace h := fb_ie c7 h
        have h := Option.some.inj h
        subst h
        obtain ⟨sa, hstr⟩ := fb_str49 hZT
        exact vx_throwS (names := ["java/lang/RuntimeException", "java/lang/Exception"]) (ik := 47) (is := 49) (ic := 51) hx hb hfl hown (by decide +kernel) (by decide +kernel) (hts _ w_c47) (hts _ w_iIllegalStateException) hstr
          (vx_hat (fun w9 h9 => hts w9 (List.mem_cons_of_mem _ (List.mem_append_right _ (h9)))) (B := fb_bad "java/lang/IllegalStateException") (by decide +kernel) (fb_badok_IllegalStateException hZT)) (by decide +kernel)
          ((fb_u1 hZT).narrow hAB) ((fb_u2 hZT).narrow hAB) hS (by rw [hml]; exact hl.1) dX0_chord_44 dX0_chord_47 dX0_chord_48 dX0_chord_50 dX0_chord_53 (fun x9 h9 => (htab x9 h9).elim)
          (Nat.le_of_ble_eq_true rfl) (Nat.le_of_ble_eq_true rfl) (Nat.le_of_ble_eq_true rfl) (Nat.le_of_ble_eq_true rfl) hlocks (fun t _ hz hk => fb_xend (x := (_, (sz, fg, nt))) rfl rfl hP hD hS t hz hk) hS.2.2 (Nat.le_of_ble_eq_true rfl) (Nat.le_of_ble_eq_true rfl)
    · replace h := fb_it c6 h
      have h := Option.some.inj h
      subst h
      obtain ⟨sa, hstr⟩ := fb_str45 hZT
      exact vx_throwS (names := ["java/lang/RuntimeException", "java/lang/Exception"]) (ik := 34) (is := 45) (ic := 38) hx hb hfl hown (by decide +kernel) (by decide +kernel) (hts _ w_c34) (hts _ w_iIllegalArgumentException) hstr
        (vx_hat (fun w9 h9 => hts w9 (List.mem_cons_of_mem _ (List.mem_append_left _ (List.mem_append_right _ (h9))))) (B := fb_bad "java/lang/IllegalArgumentException") (by decide +kernel) (fb_badok_IllegalArgumentException hZT)) (by decide +kernel)
        ((fb_u1 hZT).narrow hAB) ((fb_u2 hZT).narrow hAB) hS (by rw [hml]; exact hl.1) dX0_chord_25 dX0_chord_28 dX0_chord_29 dX0_chord_31 dX0_chord_34 (fun x9 h9 => (htab x9 h9).elim)
        (Nat.le_of_ble_eq_true rfl) (Nat.le_of_ble_eq_true rfl) (Nat.le_of_ble_eq_true rfl) (Nat.le_of_ble_eq_true rfl) hlocks (fun t _ hz hk => fb_xend (x := (_, (sz, fg, nt))) rfl rfl hP hD hS t hz hk) hS.2.2 (Nat.le_of_ble_eq_true rfl) (Nat.le_of_ble_eq_true rfl)
  · replace h := fb_it c3 h
    have h := Option.some.inj h
    subst h
    obtain ⟨sa, hstr⟩ := fb_str36 hZT
    exact vx_throwS (names := ["java/lang/RuntimeException", "java/lang/Exception"]) (ik := 34) (is := 36) (ic := 38) hx hb hfl hown (by decide +kernel) (by decide +kernel) (hts _ w_c34) (hts _ w_iIllegalArgumentException) hstr
      (vx_hat (fun w9 h9 => hts w9 (List.mem_cons_of_mem _ (List.mem_append_left _ (List.mem_append_right _ (h9))))) (B := fb_bad "java/lang/IllegalArgumentException") (by decide +kernel) (fb_badok_IllegalArgumentException hZT)) (by decide +kernel)
      ((fb_u1 hZT).narrow hAB) ((fb_u2 hZT).narrow hAB) hS (by rw [hml]; exact hl.1) dX0_chord_8 dX0_chord_11 dX0_chord_12 dX0_chord_14 dX0_chord_17 (fun x9 h9 => (htab x9 h9).elim)
      (Nat.le_of_ble_eq_true rfl) (Nat.le_of_ble_eq_true rfl) (Nat.le_of_ble_eq_true rfl) (Nat.le_of_ble_eq_true rfl) hlocks (fun t _ hz hk => fb_xend (x := (_, (sz, fg, nt))) rfl rfl hP hD hS t hz hk) hS.2.2 (Nat.le_of_ble_eq_true rfl) (Nat.le_of_ble_eq_true rfl)
abbrev rmX0_setBass : Room := { frames := 6, cells := 1, slots := 6, locals := 95 }
set_option maxHeartbeats 8000000 in
set_option maxRecDepth 100000 in
theorem metX0_setBass (l : Launch) (hfl : l.stackTraces = false) (D : va_G) (cI : ClassId) (h0 qf qn qw ql B0 : Nat) (sz : Int32) (mi : Int32) (fg : Nat → Int32) (nt : Nat → Int32) (wt : Nat → Int32) (wl : Nat → Int32) (a1 : Int32) (a2 : Int32) (hz : Nat) (ro : Except (String × (Nat → Int32)) (Int32 × (Nat → Int32))) (h : fX0_setBass sz mi fg nt wt wl a1 a2 = some ro) : vx_Met l yX0_setBass wsX0_setBass rmX0_setBass (va_Pc [.ref h0, .int a1, .int a2] (fb_pm D [(cI, .int)] B0 fb_sXT (fb_wX0 cI h0 qf qn qw ql sz mi fg nt wt wl) hz)) (fb_qT ro (fun v : Int32 × (Nat → Int32) => some (.int v.1)) (fun v : Int32 × (Nat → Int32) => fb_wX0 cI h0 qf qn qw ql sz mi fg v.2 wt wl) D (va_A (fb_wX0 cI h0 qf qn qw ql sz mi fg nt wt wl) hz)) (fb_xT ro (fun x : String × (Nat → Int32) => fb_wX0 cI h0 qf qn qw ql sz mi fg x.2 wt wl) D (va_A (fb_wX0 cI h0 qf qn qw ql sz mi fg nt wt wl) hz)) 1 6 (va_A (fb_wX0 cI h0 qf qn qw ql sz mi fg nt wt wl) hz) := by
  refine vx_ofW (cc := cX0_setBass) (maxL := 3) (ret := (some .int)) (by decide) rfl ?_
  intro p e s m args below meth c s₁ B hml htab hv
  obtain ⟨rfl, hsz, ⟨hP, hK, hZ⟩, hD0, hAB⟩ := hv
  have hx := B.exec
  have hb := B.bytes
  have hr := B.returns
  have hts := atoms_spec (ws := wsX0_setBass) B.pre
  have hown : s.vm.findClass RX0 = some m.cls := findClass_of_methodNamed B.named
  have hlocks := B.notSynchronized
  subst hsz
  have hD := hD0.self (sz := s.heap.size)
  generalize hAe : va_A (fb_wX0 cI h0 qf qn qw ql sz mi fg nt wt wl) s.heap.size = A at hD hAB ⊢
  have hA : ∀ q : Nat, s.heap.size ≤ q → A q := fun q h9 => by rw [← hAe]; exact Or.inr h9
  have hS : va_S A s.heap s.heap [] := va_S.rf
  have hP : va_P D vwCl (fb_wX0 cI h0 qf qn qw ql sz mi fg nt wt wl) s.heap := hP
  have hZT := hZ
  replace hZ := hZT.1
  have hin0 : ∀ w ∈ u_ws RX0 TX0 6, w ∈ wsX0_setBass := fun _ h9 => List.mem_cons_of_mem _ (List.mem_append_left _ (List.mem_append_left _ (List.mem_append_right _ (h9))))
  have w_c34 : (Cond.classLink RX0 34 "java/lang/IllegalArgumentException") ∈ wsX0_setBass := List.mem_of_getElem? (i := 3) rfl
  have w_c59 : (Cond.classLink RX0 59 "java/lang/IndexOutOfBoundsException") ∈ wsX0_setBass := List.mem_of_getElem? (i := 1) rfl
  have w_iIllegalArgumentException : (Cond.initialized "java/lang/IllegalArgumentException") ∈ wsX0_setBass := List.mem_of_getElem? (i := 4) rfl
  have w_iIndexOutOfBoundsException : (Cond.initialized "java/lang/IndexOutOfBoundsException") ∈ wsX0_setBass := List.mem_of_getElem? (i := 2) rfl
  have hl := lv_entry ([.ref h0, .int a1, .int a2]) (n := 3) (Nat.le_of_ble_eq_true rfl)
  rw [lg_entry_eq]
  generalize (lg_sl ([.ref h0, .int a1, .int a2]) ++ List.replicate (3 - (lg_sl ([.ref h0, .int a1, .int a2])).length) Slot.unset).toArray = ls at hl ⊢
  have hl : lv_has ls 3 [(0, .ref h0), (1, .int a1), (2, .int a2)] := hl
  suffices K : ∀ (H : Heap) (locs : List Loc), va_P D vwCl (fb_wX0 cI h0 qf qn qw ql sz mi fg nt wt wl) H → va_S A s.heap H locs → W p l e (headSpec wsX0_setBass rmX0_setBass).room s m ([.ref h0, .int a1, .int a2] : List Value).toArray below meth c H locs 0 0 (vx_MQ below (fb_qT ro (fun v : Int32 × (Nat → Int32) => some (.int v.1)) (fun v : Int32 × (Nat → Int32) => fb_wX0 cI h0 qf qn qw ql sz mi fg v.2 wt wl) D A) (fb_xT ro (fun x : String × (Nat → Int32) => fb_wX0 cI h0 qf qn qw ql sz mi fg x.2 wt wl) D A) ([.ref h0, .int a1, .int a2] : List Value).toArray s 1 6 A) (F0 m 0 ls []) from K s.heap [] hP hS
  intro H locs hP hS
  unfold fX0_setBass at h
  refine lv_aload_n hx hb dX0_setBass_0 rfl (lv_at hl 0 rfl) ?_
  refine lv_iload_n hx hb dX0_setBass_1 rfl (lv_at hl 1 rfl) ?_
  obtain ⟨r2, h1, h⟩ := fb_b1s h
  refine fb_callR (W.runV (As := [.int a1]) (rest := []) ⟨hx, hb, hml, hown, hts⟩ (metX0_isChord l D cI h0 qf qn qw ql B0 sz mi fg nt wt wl a1 r2 h1) (cwV 1 hts gX0_setBass_X0_isChord rfl rfl rfl (by decide +kernel) ⟨Nat.le_of_ble_eq_true rfl, Nat.le_of_ble_eq_true rfl⟩) (fb_preVR (ci := 0) fb_sX0p hP hK hZ hS hAB rfl rfl _) rfl rfl hl.1 rfl (lv_room (Nat.le_of_ble_eq_true rfl)) dX0_setBass_2 ⟨Nat.le_of_ble_eq_true rfl, Nat.le_of_ble_eq_true rfl⟩) ?_
  refine lv_if_ne (tgt := 18) hx hb dX0_setBass_5 (by decide) (fun c3 => ?_) (fun c3 => ?_)
  · replace h := fb_ie c3 h
    refine lv_iconst (v := 0) hx hb dX0_setBass_18 (by decide) ?_
    refine lv_iload_n hx hb dX0_setBass_19 rfl (lv_at hl 2 rfl) ?_
    obtain ⟨r5, h4, h⟩ := fb_b1s h
    refine fb_callR (W.runS (As := [.int 0, .int a2]) (rest := []) ⟨hx, hb, hml, hown, hts⟩ (metX0_isNoteOf l B0 0 a2 r5 h4) (va_cwS 2 hts gX0_setBass_X0_isNoteOf rfl rfl rfl (by decide +kernel) ⟨Nat.le_of_ble_eq_true rfl, Nat.le_of_ble_eq_true rfl⟩) (fb_preS fb_sX0p hZ hS hAB _) rfl rfl hl.1 rfl (lv_room (Nat.le_of_ble_eq_true rfl)) dX0_setBass_20 ⟨Nat.le_of_ble_eq_true rfl, Nat.le_of_ble_eq_true rfl⟩) ?_
    refine lv_if_ne (tgt := 36) hx hb dX0_setBass_23 (by decide) (fun c6 => ?_) (fun c6 => ?_)
    · replace h := fb_ie c6 h
      refine lv_aload_n hx hb dX0_setBass_36 rfl (lv_at hl 0 rfl) ?_
      refine lv_iload_n hx hb dX0_setBass_37 rfl (lv_at hl 1 rfl) ?_
      refine lv_iconst (v := 0) hx hb dX0_setBass_38 (by decide) ?_
      refine lv_iload_n hx hb dX0_setBass_39 rfl (lv_at hl 2 rfl) ?_
      obtain ⟨r8, nt_9, h7, h⟩ := fb_b2s h
      have hPc : va_P D vwCl (fb_wX0 cI h0 qf qn qw ql sz mi fg nt wt wl) H := hP.sub [0, 1, 2, 3, 4] rfl
      have hDc : va_D A (fb_wX0 cI h0 qf qn qw ql sz mi fg nt wt wl) := hD.sub [0, 1, 2, 3, 4] (by decide) rfl
      have hFc := va_free (wc := fb_wX0 cI h0 qf qn qw ql sz mi fg nt wt wl) hD hS hA [0, 1, 2, 3, 4] rfl
      refine fb_callM (va_runV (As := [.int a1, .int 0, .int a2]) (rest := []) ⟨hx, hb, hml, hown, hts⟩ (metX0_exchangeNote l D cI h0 qf qn qw ql B0 sz mi fg nt wt wl a1 0 a2 H.size r8 nt_9 h7) (cwV 3 hts gX0_setBass_X0_exchangeNote rfl rfl rfl (by decide +kernel) ⟨Nat.le_of_ble_eq_true rfl, Nat.le_of_ble_eq_true rfl⟩) (fb_preVM (ci := 0) fb_sX0p hPc hK hDc hZ hS hAB hA rfl rfl _) rfl rfl hl.1 rfl (lv_room (Nat.le_of_ble_eq_true rfl)) dX0_setBass_40 ⟨Nat.le_of_ble_eq_true rfl, Nat.le_of_ble_eq_true rfl⟩) hS (fun q _ h9 => hFc q h9) hFc (fun _ H1 locs hP1 hD1 hz1 hk1 hS => ?_)
      have hP : va_P D vwCl (fb_wX0 cI h0 qf qn qw ql sz mi fg nt_9 wt wl) H1 := hP1
      have hD : va_D A (fb_wX0 cI h0 qf qn qw ql sz mi fg nt_9 wt wl) := hD1.weaken (fun _ q _ h9 => hFc q.1 h9)
      generalize H1 = H at hP hS
      have h := Option.some.inj h
      subst h
      refine W.widen (k := 1) (n := 6) (by first | decide | omega) (by first | decide | omega) ?_
      refine vx_ret ?_
      exact W.iret hx hb hr (fun t ht _ => ⟨_, rfl, ⟨rfl, by rw [ht]; exact hP, hD⟩, hS.F ht⟩) hS.2.2 dX0_setBass_43
    · replace h := fb_it c6 h
      have h := Option.some.inj h
      subst h
      obtain ⟨sa, hstr⟩ := fb_str36 hZT
      exact vx_throwS (names := ["java/lang/RuntimeException", "java/lang/Exception"]) (ik := 34) (is := 36) (ic := 38) hx hb hfl hown (by decide +kernel) (by decide +kernel) (hts _ w_c34) (hts _ w_iIllegalArgumentException) hstr
        (vx_hat (fun w9 h9 => hts w9 (List.mem_cons_of_mem _ (List.mem_append_right _ (h9)))) (B := fb_bad "java/lang/IllegalArgumentException") (by decide +kernel) (fb_badok_IllegalArgumentException hZT)) (by decide +kernel)
        ((fb_u1 hZT).narrow hAB) ((fb_u2 hZT).narrow hAB) hS (by rw [hml]; exact hl.1) dX0_setBass_26 dX0_setBass_29 dX0_setBass_30 dX0_setBass_32 dX0_setBass_35 (fun x9 h9 => (htab x9 h9).elim)
        (Nat.le_of_ble_eq_true rfl) (Nat.le_of_ble_eq_true rfl) (Nat.le_of_ble_eq_true rfl) (Nat.le_of_ble_eq_true rfl) hlocks (fun t _ hz hk => fb_xend (x := (_, nt)) rfl rfl hP hD hS t hz hk) hS.2.2 (Nat.le_of_ble_eq_true rfl) (Nat.le_of_ble_eq_true rfl)
  · replace h := fb_it c3 h
    have h := Option.some.inj h
    subst h
    obtain ⟨sa, hstr⟩ := fb_str61 hZT
    exact vx_throwS (names := ["java/lang/RuntimeException", "java/lang/Exception"]) (ik := 59) (is := 61) (ic := 63) hx hb hfl hown (by decide +kernel) (by decide +kernel) (hts _ w_c59) (hts _ w_iIndexOutOfBoundsException) hstr
      (vx_hat (fun w9 h9 => hts w9 (List.mem_cons_of_mem _ (List.mem_append_left _ (List.mem_append_right _ (h9))))) (B := fb_bad "java/lang/IndexOutOfBoundsException") (by decide +kernel) (fb_badok_IndexOutOfBoundsException hZT)) (by decide +kernel)
      ((fb_u1 hZT).narrow hAB) ((fb_u2 hZT).narrow hAB) hS (by rw [hml]; exact hl.1) dX0_setBass_8 dX0_setBass_11 dX0_setBass_12 dX0_setBass_14 dX0_setBass_17 (fun x9 h9 => (htab x9 h9).elim)
      (Nat.le_of_ble_eq_true rfl) (Nat.le_of_ble_eq_true rfl) (Nat.le_of_ble_eq_true rfl) (Nat.le_of_ble_eq_true rfl) hlocks (fun t _ hz hk => fb_xend (x := (_, nt)) rfl rfl hP hD hS t hz hk) hS.2.2 (Nat.le_of_ble_eq_true rfl) (Nat.le_of_ble_eq_true rfl)
abbrev rmX0_setFigure : Room := { frames := 6, cells := 1, slots := 6, locals := 95 }
set_option maxHeartbeats 8000000 in
set_option maxRecDepth 100000 in
theorem metX0_setFigure (l : Launch) (hfl : l.stackTraces = false) (D : va_G) (cI : ClassId) (h0 qf qn qw ql B0 : Nat) (sz : Int32) (mi : Int32) (fg : Nat → Int32) (nt : Nat → Int32) (wt : Nat → Int32) (wl : Nat → Int32) (a1 : Int32) (a2 : Int32) (hz : Nat) (ro : Except (String × (Nat → Int32)) (Int32 × (Nat → Int32))) (h : fX0_setFigure sz mi fg nt wt wl a1 a2 = some ro) : vx_Met l yX0_setFigure wsX0_setFigure rmX0_setFigure (va_Pc [.ref h0, .int a1, .int a2] (fb_pm D [(cI, .int)] B0 fb_sXT (fb_wX0 cI h0 qf qn qw ql sz mi fg nt wt wl) hz)) (fb_qT ro (fun v : Int32 × (Nat → Int32) => some (.int v.1)) (fun v : Int32 × (Nat → Int32) => fb_wX0 cI h0 qf qn qw ql sz mi v.2 nt wt wl) D (va_A (fb_wX0 cI h0 qf qn qw ql sz mi fg nt wt wl) hz)) (fb_xT ro (fun x : String × (Nat → Int32) => fb_wX0 cI h0 qf qn qw ql sz mi x.2 nt wt wl) D (va_A (fb_wX0 cI h0 qf qn qw ql sz mi fg nt wt wl) hz)) 1 6 (va_A (fb_wX0 cI h0 qf qn qw ql sz mi fg nt wt wl) hz) := by
  refine vx_ofW (cc := cX0_setFigure) (maxL := 4) (ret := (some .int)) (by decide) rfl ?_
  intro p e s m args below meth c s₁ B hml htab hv
  obtain ⟨rfl, hsz, ⟨hP, hK, hZ⟩, hD0, hAB⟩ := hv
  have hx := B.exec
  have hb := B.bytes
  have hr := B.returns
  have hts := atoms_spec (ws := wsX0_setFigure) B.pre
  have hown : s.vm.findClass RX0 = some m.cls := findClass_of_methodNamed B.named
  have hlocks := B.notSynchronized
  subst hsz
  have hD := hD0.self (sz := s.heap.size)
  generalize hAe : va_A (fb_wX0 cI h0 qf qn qw ql sz mi fg nt wt wl) s.heap.size = A at hD hAB ⊢
  have hA : ∀ q : Nat, s.heap.size ≤ q → A q := fun q h9 => by rw [← hAe]; exact Or.inr h9
  have hS : va_S A s.heap s.heap [] := va_S.rf
  have hP : va_P D vwCl (fb_wX0 cI h0 qf qn qw ql sz mi fg nt wt wl) s.heap := hP
  have hZT := hZ
  replace hZ := hZT.1
  have hin0 : ∀ w ∈ u_ws RX0 TX0 6, w ∈ wsX0_setFigure := fun _ h9 => List.mem_cons_of_mem _ (List.mem_append_left _ (List.mem_append_left _ (List.mem_append_right _ (h9))))
  have w_c34 : (Cond.classLink RX0 34 "java/lang/IllegalArgumentException") ∈ wsX0_setFigure := List.mem_of_getElem? (i := 3) rfl
  have w_c59 : (Cond.classLink RX0 59 "java/lang/IndexOutOfBoundsException") ∈ wsX0_setFigure := List.mem_of_getElem? (i := 1) rfl
  have w_f17 : (Cond.fieldLink RX0 17 "FiguredBass" "figures" "[I") ∈ wsX0_setFigure := List.mem_of_getElem? (i := 5) rfl
  have w_iIllegalArgumentException : (Cond.initialized "java/lang/IllegalArgumentException") ∈ wsX0_setFigure := List.mem_of_getElem? (i := 4) rfl
  have w_iIndexOutOfBoundsException : (Cond.initialized "java/lang/IndexOutOfBoundsException") ∈ wsX0_setFigure := List.mem_of_getElem? (i := 2) rfl
  have hl := lv_entry ([.ref h0, .int a1, .int a2]) (n := 4) (Nat.le_of_ble_eq_true rfl)
  rw [lg_entry_eq]
  generalize (lg_sl ([.ref h0, .int a1, .int a2]) ++ List.replicate (4 - (lg_sl ([.ref h0, .int a1, .int a2])).length) Slot.unset).toArray = ls at hl ⊢
  have hl : lv_has ls 4 [(0, .ref h0), (1, .int a1), (2, .int a2)] := hl
  suffices K : ∀ (H : Heap) (locs : List Loc), va_P D vwCl (fb_wX0 cI h0 qf qn qw ql sz mi fg nt wt wl) H → va_S A s.heap H locs → W p l e (headSpec wsX0_setFigure rmX0_setFigure).room s m ([.ref h0, .int a1, .int a2] : List Value).toArray below meth c H locs 0 0 (vx_MQ below (fb_qT ro (fun v : Int32 × (Nat → Int32) => some (.int v.1)) (fun v : Int32 × (Nat → Int32) => fb_wX0 cI h0 qf qn qw ql sz mi v.2 nt wt wl) D A) (fb_xT ro (fun x : String × (Nat → Int32) => fb_wX0 cI h0 qf qn qw ql sz mi x.2 nt wt wl) D A) ([.ref h0, .int a1, .int a2] : List Value).toArray s 1 6 A) (F0 m 0 ls []) from K s.heap [] hP hS
  intro H locs hP hS
  unfold fX0_setFigure at h
  refine lv_aload_n hx hb dX0_setFigure_0 rfl (lv_at hl 0 rfl) ?_
  refine lv_iload_n hx hb dX0_setFigure_1 rfl (lv_at hl 1 rfl) ?_
  obtain ⟨r2, h1, h⟩ := fb_b1s h
  refine fb_callR (W.runV (As := [.int a1]) (rest := []) ⟨hx, hb, hml, hown, hts⟩ (metX0_isChord l D cI h0 qf qn qw ql B0 sz mi fg nt wt wl a1 r2 h1) (cwV 1 hts gX0_setFigure_X0_isChord rfl rfl rfl (by decide +kernel) ⟨Nat.le_of_ble_eq_true rfl, Nat.le_of_ble_eq_true rfl⟩) (fb_preVR (ci := 0) fb_sX0p hP hK hZ hS hAB rfl rfl _) rfl rfl hl.1 rfl (lv_room (Nat.le_of_ble_eq_true rfl)) dX0_setFigure_2 ⟨Nat.le_of_ble_eq_true rfl, Nat.le_of_ble_eq_true rfl⟩) ?_
  refine lv_if_ne (tgt := 18) hx hb dX0_setFigure_5 (by decide) (fun c3 => ?_) (fun c3 => ?_)
  · replace h := fb_ie c3 h
    refine lv_iload_n hx hb dX0_setFigure_18 rfl (lv_at hl 2 rfl) ?_
    obtain ⟨r5, h4, h⟩ := fb_b1s h
    refine fb_callR (W.runS (As := [.int a2]) (rest := []) ⟨hx, hb, hml, hown, hts⟩ (metX0_isFigure l B0 a2 r5 h4) (va_cwS 1 hts gX0_setFigure_X0_isFigure rfl rfl rfl (by decide +kernel) ⟨Nat.le_of_ble_eq_true rfl, Nat.le_of_ble_eq_true rfl⟩) (fb_preS fb_sX0p hZ hS hAB _) rfl rfl hl.1 rfl (lv_room (Nat.le_of_ble_eq_true rfl)) dX0_setFigure_19 ⟨Nat.le_of_ble_eq_true rfl, Nat.le_of_ble_eq_true rfl⟩) ?_
    refine lv_if_ne (tgt := 35) hx hb dX0_setFigure_22 (by decide) (fun c6 => ?_) (fun c6 => ?_)
    · replace h := fb_ie c6 h
      refine lv_aload_n hx hb dX0_setFigure_35 rfl (lv_at hl 0 rfl) ?_
      refine va_get (D := D) (ci := 0) (v := .ref qf) (C := RX0) (T := TX0) (N := 6) hx hb hts hin0 hown hK hP 0 rfl rfl 2 (by decide) (hts _ w_f17) (fun _ h9 => h9) rfl dX0_setFigure_36 ?_
      refine lv_iload_n hx hb dX0_setFigure_39 rfl (lv_at hl 1 rfl) ?_
      obtain ⟨hi7, h⟩ := fb_cks h
      refine va_iald hx hb hK hP 1 0 rfl rfl (fb_ixin hi7) dX0_setFigure_40 ?_
      refine lv_istore_n (lv' := [(3, .int (fg a1.toNatClampNeg)), (0, .ref h0), (1, .int a1), (2, .int a2)]) hx hb dX0_setFigure_41 rfl hl (by decide) rfl (fun ls hl => ?_)
      refine lv_aload_n hx hb dX0_setFigure_42 rfl (lv_at hl 1 rfl) ?_
      refine va_get (D := D) (ci := 0) (v := .ref qf) (C := RX0) (T := TX0) (N := 6) hx hb hts hin0 hown hK hP 0 rfl rfl 2 (by decide) (hts _ w_f17) (fun _ h9 => h9) rfl dX0_setFigure_43 ?_
      refine lv_iload_n hx hb dX0_setFigure_46 rfl (lv_at hl 2 rfl) ?_
      refine lv_iload_n hx hb dX0_setFigure_47 rfl (lv_at hl 3 rfl) ?_
      refine va_iast hx hb hK hP hD hS 1 0 rfl rfl (fb_ixin hi7) dX0_setFigure_48 (fun H locs hP hD hS => ?_)
      have hP : va_P D vwCl (fb_wX0 cI h0 qf qn qw ql sz mi (upd fg a1.toNatClampNeg a2) nt wt wl) H := hP
      have hD : va_D A (fb_wX0 cI h0 qf qn qw ql sz mi (upd fg a1.toNatClampNeg a2) nt wt wl) := hD
      refine lv_iload_n hx hb dX0_setFigure_49 rfl (lv_at hl 0 rfl) ?_
      have h := Option.some.inj h
      subst h
      refine W.widen (k := 1) (n := 6) (by first | decide | omega) (by first | decide | omega) ?_
      refine vx_ret ?_
      exact W.iret hx hb hr (fun t ht _ => ⟨_, rfl, ⟨rfl, by rw [ht]; exact hP, hD⟩, hS.F ht⟩) hS.2.2 dX0_setFigure_50
    · replace h := fb_it c6 h
      have h := Option.some.inj h
      subst h
      obtain ⟨sa, hstr⟩ := fb_str45 hZT
      exact vx_throwS (names := ["java/lang/RuntimeException", "java/lang/Exception"]) (ik := 34) (is := 45) (ic := 38) hx hb hfl hown (by decide +kernel) (by decide +kernel) (hts _ w_c34) (hts _ w_iIllegalArgumentException) hstr
        (vx_hat (fun w9 h9 => hts w9 (List.mem_cons_of_mem _ (List.mem_append_right _ (h9)))) (B := fb_bad "java/lang/IllegalArgumentException") (by decide +kernel) (fb_badok_IllegalArgumentException hZT)) (by decide +kernel)
        ((fb_u1 hZT).narrow hAB) ((fb_u2 hZT).narrow hAB) hS (by rw [hml]; exact hl.1) dX0_setFigure_25 dX0_setFigure_28 dX0_setFigure_29 dX0_setFigure_31 dX0_setFigure_34 (fun x9 h9 => (htab x9 h9).elim)
        (Nat.le_of_ble_eq_true rfl) (Nat.le_of_ble_eq_true rfl) (Nat.le_of_ble_eq_true rfl) (Nat.le_of_ble_eq_true rfl) hlocks (fun t _ hz hk => fb_xend (x := (_, fg)) rfl rfl hP hD hS t hz hk) hS.2.2 (Nat.le_of_ble_eq_true rfl) (Nat.le_of_ble_eq_true rfl)
  · replace h := fb_it c3 h
    have h := Option.some.inj h
    subst h
    obtain ⟨sa, hstr⟩ := fb_str61 hZT
    exact vx_throwS (names := ["java/lang/RuntimeException", "java/lang/Exception"]) (ik := 59) (is := 61) (ic := 63) hx hb hfl hown (by decide +kernel) (by decide +kernel) (hts _ w_c59) (hts _ w_iIndexOutOfBoundsException) hstr
      (vx_hat (fun w9 h9 => hts w9 (List.mem_cons_of_mem _ (List.mem_append_left _ (List.mem_append_right _ (h9))))) (B := fb_bad "java/lang/IndexOutOfBoundsException") (by decide +kernel) (fb_badok_IndexOutOfBoundsException hZT)) (by decide +kernel)
      ((fb_u1 hZT).narrow hAB) ((fb_u2 hZT).narrow hAB) hS (by rw [hml]; exact hl.1) dX0_setFigure_8 dX0_setFigure_11 dX0_setFigure_12 dX0_setFigure_14 dX0_setFigure_17 (fun x9 h9 => (htab x9 h9).elim)
      (Nat.le_of_ble_eq_true rfl) (Nat.le_of_ble_eq_true rfl) (Nat.le_of_ble_eq_true rfl) (Nat.le_of_ble_eq_true rfl) hlocks (fun t _ hz hk => fb_xend (x := (_, fg)) rfl rfl hP hD hS t hz hk) hS.2.2 (Nat.le_of_ble_eq_true rfl) (Nat.le_of_ble_eq_true rfl)
abbrev rmX0_put : Room := { frames := 6, cells := 1, slots := 6, locals := 95 }
set_option maxHeartbeats 8000000 in
set_option maxRecDepth 100000 in
theorem metX0_put (l : Launch) (hfl : l.stackTraces = false) (D : va_G) (cI : ClassId) (h0 qf qn qw ql B0 : Nat) (sz : Int32) (mi : Int32) (fg : Nat → Int32) (nt : Nat → Int32) (wt : Nat → Int32) (wl : Nat → Int32) (a1 : Int32) (a2 : Int32) (a3 : Int32) (hz : Nat) (ro : Except (String × (Nat → Int32)) (Int32 × (Nat → Int32))) (h : fX0_put sz mi fg nt wt wl a1 a2 a3 = some ro) : vx_Met l yX0_put wsX0_put rmX0_put (va_Pc [.ref h0, .int a1, .int a2, .int a3] (fb_pm D [(cI, .int)] B0 fb_sXT (fb_wX0 cI h0 qf qn qw ql sz mi fg nt wt wl) hz)) (fb_qT ro (fun v : Int32 × (Nat → Int32) => some (.int v.1)) (fun v : Int32 × (Nat → Int32) => fb_wX0 cI h0 qf qn qw ql sz mi fg v.2 wt wl) D (va_A (fb_wX0 cI h0 qf qn qw ql sz mi fg nt wt wl) hz)) (fb_xT ro (fun x : String × (Nat → Int32) => fb_wX0 cI h0 qf qn qw ql sz mi fg x.2 wt wl) D (va_A (fb_wX0 cI h0 qf qn qw ql sz mi fg nt wt wl) hz)) 1 6 (va_A (fb_wX0 cI h0 qf qn qw ql sz mi fg nt wt wl) hz) := by
  refine vx_ofW (cc := cX0_put) (maxL := 4) (ret := (some .int)) (by decide) rfl ?_
  intro p e s m args below meth c s₁ B hml htab hv
  obtain ⟨rfl, hsz, ⟨hP, hK, hZ⟩, hD0, hAB⟩ := hv
  have hx := B.exec
  have hb := B.bytes
  have hr := B.returns
  have hts := atoms_spec (ws := wsX0_put) B.pre
  have hown : s.vm.findClass RX0 = some m.cls := findClass_of_methodNamed B.named
  have hlocks := B.notSynchronized
  subst hsz
  have hD := hD0.self (sz := s.heap.size)
  generalize hAe : va_A (fb_wX0 cI h0 qf qn qw ql sz mi fg nt wt wl) s.heap.size = A at hD hAB ⊢
  have hA : ∀ q : Nat, s.heap.size ≤ q → A q := fun q h9 => by rw [← hAe]; exact Or.inr h9
  have hS : va_S A s.heap s.heap [] := va_S.rf
  have hP : va_P D vwCl (fb_wX0 cI h0 qf qn qw ql sz mi fg nt wt wl) s.heap := hP
  have hZT := hZ
  replace hZ := hZT.1
  have hin0 : ∀ w ∈ u_ws RX0 TX0 6, w ∈ wsX0_put := fun _ h9 => List.mem_cons_of_mem _ (List.mem_append_left _ (List.mem_append_left _ (List.mem_append_right _ (h9))))
  have w_c34 : (Cond.classLink RX0 34 "java/lang/IllegalArgumentException") ∈ wsX0_put := List.mem_of_getElem? (i := 3) rfl
  have w_c59 : (Cond.classLink RX0 59 "java/lang/IndexOutOfBoundsException") ∈ wsX0_put := List.mem_of_getElem? (i := 1) rfl
  have w_iIllegalArgumentException : (Cond.initialized "java/lang/IllegalArgumentException") ∈ wsX0_put := List.mem_of_getElem? (i := 4) rfl
  have w_iIndexOutOfBoundsException : (Cond.initialized "java/lang/IndexOutOfBoundsException") ∈ wsX0_put := List.mem_of_getElem? (i := 2) rfl
  have hl := lv_entry ([.ref h0, .int a1, .int a2, .int a3]) (n := 4) (Nat.le_of_ble_eq_true rfl)
  rw [lg_entry_eq]
  generalize (lg_sl ([.ref h0, .int a1, .int a2, .int a3]) ++ List.replicate (4 - (lg_sl ([.ref h0, .int a1, .int a2, .int a3])).length) Slot.unset).toArray = ls at hl ⊢
  have hl : lv_has ls 4 [(0, .ref h0), (1, .int a1), (2, .int a2), (3, .int a3)] := hl
  suffices K : ∀ (H : Heap) (locs : List Loc), va_P D vwCl (fb_wX0 cI h0 qf qn qw ql sz mi fg nt wt wl) H → va_S A s.heap H locs → W p l e (headSpec wsX0_put rmX0_put).room s m ([.ref h0, .int a1, .int a2, .int a3] : List Value).toArray below meth c H locs 0 0 (vx_MQ below (fb_qT ro (fun v : Int32 × (Nat → Int32) => some (.int v.1)) (fun v : Int32 × (Nat → Int32) => fb_wX0 cI h0 qf qn qw ql sz mi fg v.2 wt wl) D A) (fb_xT ro (fun x : String × (Nat → Int32) => fb_wX0 cI h0 qf qn qw ql sz mi fg x.2 wt wl) D A) ([.ref h0, .int a1, .int a2, .int a3] : List Value).toArray s 1 6 A) (F0 m 0 ls []) from K s.heap [] hP hS
  intro H locs hP hS
  unfold fX0_put at h
  refine lv_aload_n hx hb dX0_put_0 rfl (lv_at hl 0 rfl) ?_
  refine lv_iload_n hx hb dX0_put_1 rfl (lv_at hl 1 rfl) ?_
  obtain ⟨r2, h1, h⟩ := fb_b1s h
  refine fb_callR (W.runV (As := [.int a1]) (rest := []) ⟨hx, hb, hml, hown, hts⟩ (metX0_isChord l D cI h0 qf qn qw ql B0 sz mi fg nt wt wl a1 r2 h1) (cwV 1 hts gX0_put_X0_isChord rfl rfl rfl (by decide +kernel) ⟨Nat.le_of_ble_eq_true rfl, Nat.le_of_ble_eq_true rfl⟩) (fb_preVR (ci := 0) fb_sX0p hP hK hZ hS hAB rfl rfl _) rfl rfl hl.1 rfl (lv_room (Nat.le_of_ble_eq_true rfl)) dX0_put_2 ⟨Nat.le_of_ble_eq_true rfl, Nat.le_of_ble_eq_true rfl⟩) ?_
  refine lv_if_eq (tgt := 15) hx hb dX0_put_5 (by decide) (fun c3 => ?_) (fun c3 => ?_)
  · replace h := fb_it c3 h
    have h := Option.some.inj h
    subst h
    obtain ⟨sa, hstr⟩ := fb_str71 hZT
    exact vx_throwS (names := ["java/lang/RuntimeException", "java/lang/Exception"]) (ik := 59) (is := 71) (ic := 63) hx hb hfl hown (by decide +kernel) (by decide +kernel) (hts _ w_c59) (hts _ w_iIndexOutOfBoundsException) hstr
      (vx_hat (fun w9 h9 => hts w9 (List.mem_cons_of_mem _ (List.mem_append_left _ (List.mem_append_right _ (h9))))) (B := fb_bad "java/lang/IndexOutOfBoundsException") (by decide +kernel) (fb_badok_IndexOutOfBoundsException hZT)) (by decide +kernel)
      ((fb_u1 hZT).narrow hAB) ((fb_u2 hZT).narrow hAB) hS (by rw [hml]; exact hl.1) dX0_put_15 dX0_put_18 dX0_put_19 dX0_put_21 dX0_put_24 (fun x9 h9 => (htab x9 h9).elim)
      (Nat.le_of_ble_eq_true rfl) (Nat.le_of_ble_eq_true rfl) (Nat.le_of_ble_eq_true rfl) (Nat.le_of_ble_eq_true rfl) hlocks (fun t _ hz hk => fb_xend (x := (_, nt)) rfl rfl hP hD hS t hz hk) hS.2.2 (Nat.le_of_ble_eq_true rfl) (Nat.le_of_ble_eq_true rfl)
  · replace h := fb_ie c3 h
    refine lv_iload_n hx hb dX0_put_8 rfl (lv_at hl 2 rfl) ?_
    obtain ⟨r5, h4, h⟩ := fb_b1s h
    refine fb_callR (W.runS (As := [.int a2]) (rest := []) ⟨hx, hb, hml, hown, hts⟩ (metX0_isUpperVoice l B0 a2 r5 h4) (va_cwS 1 hts gX0_put_X0_isUpperVoice rfl rfl rfl (by decide +kernel) ⟨Nat.le_of_ble_eq_true rfl, Nat.le_of_ble_eq_true rfl⟩) (fb_preS fb_sX0p hZ hS hAB _) rfl rfl hl.1 rfl (lv_room (Nat.le_of_ble_eq_true rfl)) dX0_put_9 ⟨Nat.le_of_ble_eq_true rfl, Nat.le_of_ble_eq_true rfl⟩) ?_
    refine lv_if_ne (tgt := 25) hx hb dX0_put_12 (by decide) (fun c6 => ?_) (fun c6 => ?_)
    · replace h := fb_ie c6 h
      refine lv_iload_n hx hb dX0_put_25 rfl (lv_at hl 3 rfl) ?_
      refine lv_iconst (v := (-1)) hx hb dX0_put_26 (by decide) ?_
      refine lv_icmp_eq (tgt := 48) hx hb dX0_put_27 (by decide) (fun c7 => ?_) (fun c7 => ?_)
      · replace h := fb_it c7 h
        refine lv_aload_n hx hb dX0_put_48 rfl (lv_at hl 0 rfl) ?_
        refine lv_iload_n hx hb dX0_put_49 rfl (lv_at hl 1 rfl) ?_
        refine lv_iload_n hx hb dX0_put_50 rfl (lv_at hl 2 rfl) ?_
        refine lv_iload_n hx hb dX0_put_51 rfl (lv_at hl 3 rfl) ?_
        obtain ⟨r9, nt_10, h8, h⟩ := fb_b2s h
        have hPc : va_P D vwCl (fb_wX0 cI h0 qf qn qw ql sz mi fg nt wt wl) H := hP.sub [0, 1, 2, 3, 4] rfl
        have hDc : va_D A (fb_wX0 cI h0 qf qn qw ql sz mi fg nt wt wl) := hD.sub [0, 1, 2, 3, 4] (by decide) rfl
        have hFc := va_free (wc := fb_wX0 cI h0 qf qn qw ql sz mi fg nt wt wl) hD hS hA [0, 1, 2, 3, 4] rfl
        refine fb_callM (va_runV (As := [.int a1, .int a2, .int a3]) (rest := []) ⟨hx, hb, hml, hown, hts⟩ (metX0_exchangeNote l D cI h0 qf qn qw ql B0 sz mi fg nt wt wl a1 a2 a3 H.size r9 nt_10 h8) (cwV 3 hts gX0_put_X0_exchangeNote rfl rfl rfl (by decide +kernel) ⟨Nat.le_of_ble_eq_true rfl, Nat.le_of_ble_eq_true rfl⟩) (fb_preVM (ci := 0) fb_sX0p hPc hK hDc hZ hS hAB hA rfl rfl _) rfl rfl hl.1 rfl (lv_room (Nat.le_of_ble_eq_true rfl)) dX0_put_52 ⟨Nat.le_of_ble_eq_true rfl, Nat.le_of_ble_eq_true rfl⟩) hS (fun q _ h9 => hFc q h9) hFc (fun _ H1 locs hP1 hD1 hz1 hk1 hS => ?_)
        have hP : va_P D vwCl (fb_wX0 cI h0 qf qn qw ql sz mi fg nt_10 wt wl) H1 := hP1
        have hD : va_D A (fb_wX0 cI h0 qf qn qw ql sz mi fg nt_10 wt wl) := hD1.weaken (fun _ q _ h9 => hFc q.1 h9)
        generalize H1 = H at hP hS
        have h := Option.some.inj h
        subst h
        refine W.widen (k := 1) (n := 6) (by first | decide | omega) (by first | decide | omega) ?_
        refine vx_ret ?_
        exact W.iret hx hb hr (fun t ht _ => ⟨_, rfl, ⟨rfl, by rw [ht]; exact hP, hD⟩, hS.F ht⟩) hS.2.2 dX0_put_55
      · replace h := fb_ie c7 h
        refine lv_iload_n hx hb dX0_put_30 rfl (lv_at hl 2 rfl) ?_
        refine lv_iload_n hx hb dX0_put_31 rfl (lv_at hl 3 rfl) ?_
        obtain ⟨r13, h12, h⟩ := fb_b1s h
        refine fb_callR (W.runS (As := [.int a2, .int a3]) (rest := []) ⟨hx, hb, hml, hown, hts⟩ (metX0_isNoteOf l B0 a2 a3 r13 h12) (va_cwS 2 hts gX0_put_X0_isNoteOf rfl rfl rfl (by decide +kernel) ⟨Nat.le_of_ble_eq_true rfl, Nat.le_of_ble_eq_true rfl⟩) (fb_preS fb_sX0p hZ hS hAB _) rfl rfl hl.1 rfl (lv_room (Nat.le_of_ble_eq_true rfl)) dX0_put_32 ⟨Nat.le_of_ble_eq_true rfl, Nat.le_of_ble_eq_true rfl⟩) ?_
        refine lv_if_ne (tgt := 48) hx hb dX0_put_35 (by decide) (fun c14 => ?_) (fun c14 => ?_)
        · replace h := fb_ie c14 h
          refine lv_aload_n hx hb dX0_put_48 rfl (lv_at hl 0 rfl) ?_
          refine lv_iload_n hx hb dX0_put_49 rfl (lv_at hl 1 rfl) ?_
          refine lv_iload_n hx hb dX0_put_50 rfl (lv_at hl 2 rfl) ?_
          refine lv_iload_n hx hb dX0_put_51 rfl (lv_at hl 3 rfl) ?_
          obtain ⟨r16, nt_17, h15, h⟩ := fb_b2s h
          have hPc : va_P D vwCl (fb_wX0 cI h0 qf qn qw ql sz mi fg nt wt wl) H := hP.sub [0, 1, 2, 3, 4] rfl
          have hDc : va_D A (fb_wX0 cI h0 qf qn qw ql sz mi fg nt wt wl) := hD.sub [0, 1, 2, 3, 4] (by decide) rfl
          have hFc := va_free (wc := fb_wX0 cI h0 qf qn qw ql sz mi fg nt wt wl) hD hS hA [0, 1, 2, 3, 4] rfl
          refine fb_callM (va_runV (As := [.int a1, .int a2, .int a3]) (rest := []) ⟨hx, hb, hml, hown, hts⟩ (metX0_exchangeNote l D cI h0 qf qn qw ql B0 sz mi fg nt wt wl a1 a2 a3 H.size r16 nt_17 h15) (cwV 3 hts gX0_put_X0_exchangeNote rfl rfl rfl (by decide +kernel) ⟨Nat.le_of_ble_eq_true rfl, Nat.le_of_ble_eq_true rfl⟩) (fb_preVM (ci := 0) fb_sX0p hPc hK hDc hZ hS hAB hA rfl rfl _) rfl rfl hl.1 rfl (lv_room (Nat.le_of_ble_eq_true rfl)) dX0_put_52 ⟨Nat.le_of_ble_eq_true rfl, Nat.le_of_ble_eq_true rfl⟩) hS (fun q _ h9 => hFc q h9) hFc (fun _ H1 locs hP1 hD1 hz1 hk1 hS => ?_)
          have hP : va_P D vwCl (fb_wX0 cI h0 qf qn qw ql sz mi fg nt_17 wt wl) H1 := hP1
          have hD : va_D A (fb_wX0 cI h0 qf qn qw ql sz mi fg nt_17 wt wl) := hD1.weaken (fun _ q _ h9 => hFc q.1 h9)
          generalize H1 = H at hP hS
          have h := Option.some.inj h
          subst h
          refine W.widen (k := 1) (n := 6) (by first | decide | omega) (by first | decide | omega) ?_
          refine vx_ret ?_
          exact W.iret hx hb hr (fun t ht _ => ⟨_, rfl, ⟨rfl, by rw [ht]; exact hP, hD⟩, hS.F ht⟩) hS.2.2 dX0_put_55
        · replace h := fb_it c14 h
          have h := Option.some.inj h
          subst h
          obtain ⟨sa, hstr⟩ := fb_str73 hZT
          exact vx_throwS (names := ["java/lang/RuntimeException", "java/lang/Exception"]) (ik := 34) (is := 73) (ic := 38) hx hb hfl hown (by decide +kernel) (by decide +kernel) (hts _ w_c34) (hts _ w_iIllegalArgumentException) hstr
            (vx_hat (fun w9 h9 => hts w9 (List.mem_cons_of_mem _ (List.mem_append_right _ (h9)))) (B := fb_bad "java/lang/IllegalArgumentException") (by decide +kernel) (fb_badok_IllegalArgumentException hZT)) (by decide +kernel)
            ((fb_u1 hZT).narrow hAB) ((fb_u2 hZT).narrow hAB) hS (by rw [hml]; exact hl.1) dX0_put_38 dX0_put_41 dX0_put_42 dX0_put_44 dX0_put_47 (fun x9 h9 => (htab x9 h9).elim)
            (Nat.le_of_ble_eq_true rfl) (Nat.le_of_ble_eq_true rfl) (Nat.le_of_ble_eq_true rfl) (Nat.le_of_ble_eq_true rfl) hlocks (fun t _ hz hk => fb_xend (x := (_, nt)) rfl rfl hP hD hS t hz hk) hS.2.2 (Nat.le_of_ble_eq_true rfl) (Nat.le_of_ble_eq_true rfl)
    · replace h := fb_it c6 h
      have h := Option.some.inj h
      subst h
      obtain ⟨sa, hstr⟩ := fb_str71 hZT
      exact vx_throwS (names := ["java/lang/RuntimeException", "java/lang/Exception"]) (ik := 59) (is := 71) (ic := 63) hx hb hfl hown (by decide +kernel) (by decide +kernel) (hts _ w_c59) (hts _ w_iIndexOutOfBoundsException) hstr
        (vx_hat (fun w9 h9 => hts w9 (List.mem_cons_of_mem _ (List.mem_append_left _ (List.mem_append_right _ (h9))))) (B := fb_bad "java/lang/IndexOutOfBoundsException") (by decide +kernel) (fb_badok_IndexOutOfBoundsException hZT)) (by decide +kernel)
        ((fb_u1 hZT).narrow hAB) ((fb_u2 hZT).narrow hAB) hS (by rw [hml]; exact hl.1) dX0_put_15 dX0_put_18 dX0_put_19 dX0_put_21 dX0_put_24 (fun x9 h9 => (htab x9 h9).elim)
        (Nat.le_of_ble_eq_true rfl) (Nat.le_of_ble_eq_true rfl) (Nat.le_of_ble_eq_true rfl) (Nat.le_of_ble_eq_true rfl) hlocks (fun t _ hz hk => fb_xend (x := (_, nt)) rfl rfl hP hD hS t hz hk) hS.2.2 (Nat.le_of_ble_eq_true rfl) (Nat.le_of_ble_eq_true rfl)
abbrev rmX0_setWeight : Room := { frames := 6, cells := 1, slots := 6, locals := 95 }
set_option maxHeartbeats 8000000 in
set_option maxRecDepth 100000 in
theorem metX0_setWeight (l : Launch) (hfl : l.stackTraces = false) (D : va_G) (cI : ClassId) (h0 qf qn qw ql B0 : Nat) (sz : Int32) (mi : Int32) (fg : Nat → Int32) (nt : Nat → Int32) (wt : Nat → Int32) (wl : Nat → Int32) (a1 : Int32) (a2 : Int32) (hz : Nat) (ro : Except (String × (Nat → Int32)) (Int32 × (Nat → Int32))) (h : fX0_setWeight sz mi fg nt wt wl a1 a2 = some ro) : vx_Met l yX0_setWeight wsX0_setWeight rmX0_setWeight (va_Pc [.ref h0, .int a1, .int a2] (fb_pm D [(cI, .int)] B0 fb_sXT (fb_wX0 cI h0 qf qn qw ql sz mi fg nt wt wl) hz)) (fb_qT ro (fun v : Int32 × (Nat → Int32) => some (.int v.1)) (fun v : Int32 × (Nat → Int32) => fb_wX0 cI h0 qf qn qw ql sz mi fg nt v.2 wl) D (va_A (fb_wX0 cI h0 qf qn qw ql sz mi fg nt wt wl) hz)) (fb_xT ro (fun x : String × (Nat → Int32) => fb_wX0 cI h0 qf qn qw ql sz mi fg nt x.2 wl) D (va_A (fb_wX0 cI h0 qf qn qw ql sz mi fg nt wt wl) hz)) 1 6 (va_A (fb_wX0 cI h0 qf qn qw ql sz mi fg nt wt wl) hz) := by
  refine vx_ofW (cc := cX0_setWeight) (maxL := 4) (ret := (some .int)) (by decide) rfl ?_
  intro p e s m args below meth c s₁ B hml htab hv
  obtain ⟨rfl, hsz, ⟨hP, hK, hZ⟩, hD0, hAB⟩ := hv
  have hx := B.exec
  have hb := B.bytes
  have hr := B.returns
  have hts := atoms_spec (ws := wsX0_setWeight) B.pre
  have hown : s.vm.findClass RX0 = some m.cls := findClass_of_methodNamed B.named
  have hlocks := B.notSynchronized
  subst hsz
  have hD := hD0.self (sz := s.heap.size)
  generalize hAe : va_A (fb_wX0 cI h0 qf qn qw ql sz mi fg nt wt wl) s.heap.size = A at hD hAB ⊢
  have hA : ∀ q : Nat, s.heap.size ≤ q → A q := fun q h9 => by rw [← hAe]; exact Or.inr h9
  have hS : va_S A s.heap s.heap [] := va_S.rf
  have hP : va_P D vwCl (fb_wX0 cI h0 qf qn qw ql sz mi fg nt wt wl) s.heap := hP
  have hZT := hZ
  replace hZ := hZT.1
  have hin0 : ∀ w ∈ u_ws RX0 TX0 6, w ∈ wsX0_setWeight := fun _ h9 => List.mem_cons_of_mem _ (List.mem_append_left _ (List.mem_append_left _ (List.mem_append_right _ (h9))))
  have w_c34 : (Cond.classLink RX0 34 "java/lang/IllegalArgumentException") ∈ wsX0_setWeight := List.mem_of_getElem? (i := 3) rfl
  have w_c59 : (Cond.classLink RX0 59 "java/lang/IndexOutOfBoundsException") ∈ wsX0_setWeight := List.mem_of_getElem? (i := 1) rfl
  have w_f24 : (Cond.fieldLink RX0 24 "FiguredBass" "weights" "[I") ∈ wsX0_setWeight := List.mem_of_getElem? (i := 5) rfl
  have w_iIllegalArgumentException : (Cond.initialized "java/lang/IllegalArgumentException") ∈ wsX0_setWeight := List.mem_of_getElem? (i := 4) rfl
  have w_iIndexOutOfBoundsException : (Cond.initialized "java/lang/IndexOutOfBoundsException") ∈ wsX0_setWeight := List.mem_of_getElem? (i := 2) rfl
  have hl := lv_entry ([.ref h0, .int a1, .int a2]) (n := 4) (Nat.le_of_ble_eq_true rfl)
  rw [lg_entry_eq]
  generalize (lg_sl ([.ref h0, .int a1, .int a2]) ++ List.replicate (4 - (lg_sl ([.ref h0, .int a1, .int a2])).length) Slot.unset).toArray = ls at hl ⊢
  have hl : lv_has ls 4 [(0, .ref h0), (1, .int a1), (2, .int a2)] := hl
  suffices K : ∀ (H : Heap) (locs : List Loc), va_P D vwCl (fb_wX0 cI h0 qf qn qw ql sz mi fg nt wt wl) H → va_S A s.heap H locs → W p l e (headSpec wsX0_setWeight rmX0_setWeight).room s m ([.ref h0, .int a1, .int a2] : List Value).toArray below meth c H locs 0 0 (vx_MQ below (fb_qT ro (fun v : Int32 × (Nat → Int32) => some (.int v.1)) (fun v : Int32 × (Nat → Int32) => fb_wX0 cI h0 qf qn qw ql sz mi fg nt v.2 wl) D A) (fb_xT ro (fun x : String × (Nat → Int32) => fb_wX0 cI h0 qf qn qw ql sz mi fg nt x.2 wl) D A) ([.ref h0, .int a1, .int a2] : List Value).toArray s 1 6 A) (F0 m 0 ls []) from K s.heap [] hP hS
  intro H locs hP hS
  unfold fX0_setWeight at h
  refine lv_iload_n hx hb dX0_setWeight_0 rfl (lv_at hl 1 rfl) ?_
  obtain ⟨r2, h1, h⟩ := fb_b1s h
  refine fb_callR (W.runS (As := [.int a1]) (rest := []) ⟨hx, hb, hml, hown, hts⟩ (metX0_isFault l B0 a1 r2 h1) (va_cwS 1 hts gX0_setWeight_X0_isFault rfl rfl rfl (by decide +kernel) ⟨Nat.le_of_ble_eq_true rfl, Nat.le_of_ble_eq_true rfl⟩) (fb_preS fb_sX0p hZ hS hAB _) rfl rfl hl.1 rfl (lv_room (Nat.le_of_ble_eq_true rfl)) dX0_setWeight_1 ⟨Nat.le_of_ble_eq_true rfl, Nat.le_of_ble_eq_true rfl⟩) ?_
  refine lv_if_ne (tgt := 17) hx hb dX0_setWeight_4 (by decide) (fun c3 => ?_) (fun c3 => ?_)
  · replace h := fb_ie c3 h
    refine lv_iload_n hx hb dX0_setWeight_17 rfl (lv_at hl 2 rfl) ?_
    refine lv_if_lt (tgt := 27) hx hb dX0_setWeight_18 (by decide) (fun c4 => ?_) (fun c4 => ?_)
    · replace h := fb_it c4 h
      have h := Option.some.inj h
      subst h
      obtain ⟨sa, hstr⟩ := fb_str82 hZT
      exact vx_throwS (names := ["java/lang/RuntimeException", "java/lang/Exception"]) (ik := 34) (is := 82) (ic := 38) hx hb hfl hown (by decide +kernel) (by decide +kernel) (hts _ w_c34) (hts _ w_iIllegalArgumentException) hstr
        (vx_hat (fun w9 h9 => hts w9 (List.mem_cons_of_mem _ (List.mem_append_right _ (h9)))) (B := fb_bad "java/lang/IllegalArgumentException") (by decide +kernel) (fb_badok_IllegalArgumentException hZT)) (by decide +kernel)
        ((fb_u1 hZT).narrow hAB) ((fb_u2 hZT).narrow hAB) hS (by rw [hml]; exact hl.1) dX0_setWeight_27 dX0_setWeight_30 dX0_setWeight_31 dX0_setWeight_33 dX0_setWeight_36 (fun x9 h9 => (htab x9 h9).elim)
        (Nat.le_of_ble_eq_true rfl) (Nat.le_of_ble_eq_true rfl) (Nat.le_of_ble_eq_true rfl) (Nat.le_of_ble_eq_true rfl) hlocks (fun t _ hz hk => fb_xend (x := (_, wt)) rfl rfl hP hD hS t hz hk) hS.2.2 (Nat.le_of_ble_eq_true rfl) (Nat.le_of_ble_eq_true rfl)
    · replace h := fb_ie c4 h
      refine lv_iload_n hx hb dX0_setWeight_21 rfl (lv_at hl 2 rfl) ?_
      refine lv_bipush (v := 9) hx hb dX0_setWeight_22 (by decide) ?_
      refine lv_icmp_le (tgt := 37) hx hb dX0_setWeight_24 (by decide) (fun c5 => ?_) (fun c5 => ?_)
      · replace h := fb_it c5 h
        refine lv_aload_n hx hb dX0_setWeight_37 rfl (lv_at hl 0 rfl) ?_
        refine va_get (D := D) (ci := 0) (v := .ref qw) (C := RX0) (T := TX0) (N := 6) hx hb hts hin0 hown hK hP 0 rfl rfl 4 (by decide) (hts _ w_f24) (fun _ h9 => h9) rfl dX0_setWeight_38 ?_
        refine lv_iload_n hx hb dX0_setWeight_41 rfl (lv_at hl 1 rfl) ?_
        obtain ⟨hi6, h⟩ := fb_cks h
        refine va_iald hx hb hK hP 3 0 rfl rfl (fb_ixin hi6) dX0_setWeight_42 ?_
        refine lv_istore_n (lv' := [(3, .int (wt a1.toNatClampNeg)), (0, .ref h0), (1, .int a1), (2, .int a2)]) hx hb dX0_setWeight_43 rfl hl (by decide) rfl (fun ls hl => ?_)
        refine lv_aload_n hx hb dX0_setWeight_44 rfl (lv_at hl 1 rfl) ?_
        refine va_get (D := D) (ci := 0) (v := .ref qw) (C := RX0) (T := TX0) (N := 6) hx hb hts hin0 hown hK hP 0 rfl rfl 4 (by decide) (hts _ w_f24) (fun _ h9 => h9) rfl dX0_setWeight_45 ?_
        refine lv_iload_n hx hb dX0_setWeight_48 rfl (lv_at hl 2 rfl) ?_
        refine lv_iload_n hx hb dX0_setWeight_49 rfl (lv_at hl 3 rfl) ?_
        refine va_iast hx hb hK hP hD hS 3 0 rfl rfl (fb_ixin hi6) dX0_setWeight_50 (fun H locs hP hD hS => ?_)
        have hP : va_P D vwCl (fb_wX0 cI h0 qf qn qw ql sz mi fg nt (upd wt a1.toNatClampNeg a2) wl) H := hP
        have hD : va_D A (fb_wX0 cI h0 qf qn qw ql sz mi fg nt (upd wt a1.toNatClampNeg a2) wl) := hD
        refine lv_iload_n hx hb dX0_setWeight_51 rfl (lv_at hl 0 rfl) ?_
        have h := Option.some.inj h
        subst h
        refine W.widen (k := 1) (n := 6) (by first | decide | omega) (by first | decide | omega) ?_
        refine vx_ret ?_
        exact W.iret hx hb hr (fun t ht _ => ⟨_, rfl, ⟨rfl, by rw [ht]; exact hP, hD⟩, hS.F ht⟩) hS.2.2 dX0_setWeight_52
      · replace h := fb_ie c5 h
        have h := Option.some.inj h
        subst h
        obtain ⟨sa, hstr⟩ := fb_str82 hZT
        exact vx_throwS (names := ["java/lang/RuntimeException", "java/lang/Exception"]) (ik := 34) (is := 82) (ic := 38) hx hb hfl hown (by decide +kernel) (by decide +kernel) (hts _ w_c34) (hts _ w_iIllegalArgumentException) hstr
          (vx_hat (fun w9 h9 => hts w9 (List.mem_cons_of_mem _ (List.mem_append_right _ (h9)))) (B := fb_bad "java/lang/IllegalArgumentException") (by decide +kernel) (fb_badok_IllegalArgumentException hZT)) (by decide +kernel)
          ((fb_u1 hZT).narrow hAB) ((fb_u2 hZT).narrow hAB) hS (by rw [hml]; exact hl.1) dX0_setWeight_27 dX0_setWeight_30 dX0_setWeight_31 dX0_setWeight_33 dX0_setWeight_36 (fun x9 h9 => (htab x9 h9).elim)
          (Nat.le_of_ble_eq_true rfl) (Nat.le_of_ble_eq_true rfl) (Nat.le_of_ble_eq_true rfl) (Nat.le_of_ble_eq_true rfl) hlocks (fun t _ hz hk => fb_xend (x := (_, wt)) rfl rfl hP hD hS t hz hk) hS.2.2 (Nat.le_of_ble_eq_true rfl) (Nat.le_of_ble_eq_true rfl)
  · replace h := fb_it c3 h
    have h := Option.some.inj h
    subst h
    obtain ⟨sa, hstr⟩ := fb_str80 hZT
    exact vx_throwS (names := ["java/lang/RuntimeException", "java/lang/Exception"]) (ik := 59) (is := 80) (ic := 63) hx hb hfl hown (by decide +kernel) (by decide +kernel) (hts _ w_c59) (hts _ w_iIndexOutOfBoundsException) hstr
      (vx_hat (fun w9 h9 => hts w9 (List.mem_cons_of_mem _ (List.mem_append_left _ (List.mem_append_right _ (h9))))) (B := fb_bad "java/lang/IndexOutOfBoundsException") (by decide +kernel) (fb_badok_IndexOutOfBoundsException hZT)) (by decide +kernel)
      ((fb_u1 hZT).narrow hAB) ((fb_u2 hZT).narrow hAB) hS (by rw [hml]; exact hl.1) dX0_setWeight_7 dX0_setWeight_10 dX0_setWeight_11 dX0_setWeight_13 dX0_setWeight_16 (fun x9 h9 => (htab x9 h9).elim)
      (Nat.le_of_ble_eq_true rfl) (Nat.le_of_ble_eq_true rfl) (Nat.le_of_ble_eq_true rfl) (Nat.le_of_ble_eq_true rfl) hlocks (fun t _ hz hk => fb_xend (x := (_, wt)) rfl rfl hP hD hS t hz hk) hS.2.2 (Nat.le_of_ble_eq_true rfl) (Nat.le_of_ble_eq_true rfl)
abbrev rmX0_lead : Room := { frames := 6, cells := 1, slots := 6, locals := 147 }
set_option maxHeartbeats 8000000 in
set_option maxRecDepth 100000 in
theorem metX0_lead (l : Launch) (hfl : l.stackTraces = false) (D : va_G) (cI : ClassId) (h0 qf qn qw ql B0 : Nat) (sz : Int32) (mi : Int32) (fg : Nat → Int32) (nt : Nat → Int32) (wt : Nat → Int32) (wl : Nat → Int32) (a1 : Int32) (hz : Nat) (ro : Except (String × (Nat → Int32) × (Nat → Int32)) (Int32 × (Nat → Int32) × (Nat → Int32))) (h : fX0_lead sz mi fg nt wt wl a1 = some ro) : vx_Met l yX0_lead wsX0_lead rmX0_lead (va_Pc [.ref h0, .int a1] (fb_pm D [(cI, .int)] B0 fb_sXT (fb_wX0 cI h0 qf qn qw ql sz mi fg nt wt wl) hz)) (fb_qT ro (fun v : Int32 × (Nat → Int32) × (Nat → Int32) => some (.int v.1)) (fun v : Int32 × (Nat → Int32) × (Nat → Int32) => fb_wX0 cI h0 qf qn qw ql sz mi fg v.2.1 wt v.2.2) D (va_A (fb_wX0 cI h0 qf qn qw ql sz mi fg nt wt wl) hz)) (fb_xT ro (fun x : String × (Nat → Int32) × (Nat → Int32) => fb_wX0 cI h0 qf qn qw ql sz mi fg x.2.1 wt x.2.2) D (va_A (fb_wX0 cI h0 qf qn qw ql sz mi fg nt wt wl) hz)) 1 6 (va_A (fb_wX0 cI h0 qf qn qw ql sz mi fg nt wt wl) hz) := by
  refine vx_ofW (cc := cX0_lead) (maxL := 3) (ret := (some .int)) (by decide) rfl ?_
  intro p e s m args below meth c s₁ B hml htab hv
  obtain ⟨rfl, hsz, ⟨hP, hK, hZ⟩, hD0, hAB⟩ := hv
  have hx := B.exec
  have hb := B.bytes
  have hr := B.returns
  have hts := atoms_spec (ws := wsX0_lead) B.pre
  have hown : s.vm.findClass RX0 = some m.cls := findClass_of_methodNamed B.named
  have hlocks := B.notSynchronized
  subst hsz
  have hD := hD0.self (sz := s.heap.size)
  generalize hAe : va_A (fb_wX0 cI h0 qf qn qw ql sz mi fg nt wt wl) s.heap.size = A at hD hAB ⊢
  have hA : ∀ q : Nat, s.heap.size ≤ q → A q := fun q h9 => by rw [← hAe]; exact Or.inr h9
  have hS : va_S A s.heap s.heap [] := va_S.rf
  have hP : va_P D vwCl (fb_wX0 cI h0 qf qn qw ql sz mi fg nt wt wl) s.heap := hP
  have hZT := hZ
  replace hZ := hZT.1
  have hin0 : ∀ w ∈ u_ws RX0 TX0 6, w ∈ wsX0_lead := fun _ h9 => List.mem_cons_of_mem _ (List.mem_append_left _ (List.mem_append_left _ (List.mem_append_right _ (h9))))
  have w_c47 : (Cond.classLink RX0 47 "java/lang/IllegalStateException") ∈ wsX0_lead := List.mem_of_getElem? (i := 3) rfl
  have w_c59 : (Cond.classLink RX0 59 "java/lang/IndexOutOfBoundsException") ∈ wsX0_lead := List.mem_of_getElem? (i := 1) rfl
  have w_iIllegalStateException : (Cond.initialized "java/lang/IllegalStateException") ∈ wsX0_lead := List.mem_of_getElem? (i := 4) rfl
  have w_iIndexOutOfBoundsException : (Cond.initialized "java/lang/IndexOutOfBoundsException") ∈ wsX0_lead := List.mem_of_getElem? (i := 2) rfl
  have hl := lv_entry ([.ref h0, .int a1]) (n := 3) (Nat.le_of_ble_eq_true rfl)
  rw [lg_entry_eq]
  generalize (lg_sl ([.ref h0, .int a1]) ++ List.replicate (3 - (lg_sl ([.ref h0, .int a1])).length) Slot.unset).toArray = ls at hl ⊢
  have hl : lv_has ls 3 [(0, .ref h0), (1, .int a1)] := hl
  suffices K : ∀ (H : Heap) (locs : List Loc), va_P D vwCl (fb_wX0 cI h0 qf qn qw ql sz mi fg nt wt wl) H → va_S A s.heap H locs → W p l e (headSpec wsX0_lead rmX0_lead).room s m ([.ref h0, .int a1] : List Value).toArray below meth c H locs 0 0 (vx_MQ below (fb_qT ro (fun v : Int32 × (Nat → Int32) × (Nat → Int32) => some (.int v.1)) (fun v : Int32 × (Nat → Int32) × (Nat → Int32) => fb_wX0 cI h0 qf qn qw ql sz mi fg v.2.1 wt v.2.2) D A) (fb_xT ro (fun x : String × (Nat → Int32) × (Nat → Int32) => fb_wX0 cI h0 qf qn qw ql sz mi fg x.2.1 wt x.2.2) D A) ([.ref h0, .int a1] : List Value).toArray s 1 6 A) (F0 m 0 ls []) from K s.heap [] hP hS
  intro H locs hP hS
  unfold fX0_lead at h
  refine lv_aload_n hx hb dX0_lead_0 rfl (lv_at hl 0 rfl) ?_
  refine lv_iload_n hx hb dX0_lead_1 rfl (lv_at hl 1 rfl) ?_
  obtain ⟨r2, h1, h⟩ := fb_b1s h
  refine fb_callR (W.runV (As := [.int a1]) (rest := []) ⟨hx, hb, hml, hown, hts⟩ (metX0_isChord l D cI h0 qf qn qw ql B0 sz mi fg nt wt wl a1 r2 h1) (cwV 1 hts gX0_lead_X0_isChord rfl rfl rfl (by decide +kernel) ⟨Nat.le_of_ble_eq_true rfl, Nat.le_of_ble_eq_true rfl⟩) (fb_preVR (ci := 0) fb_sX0p hP hK hZ hS hAB rfl rfl _) rfl rfl hl.1 rfl (lv_room (Nat.le_of_ble_eq_true rfl)) dX0_lead_2 ⟨Nat.le_of_ble_eq_true rfl, Nat.le_of_ble_eq_true rfl⟩) ?_
  refine lv_if_ne (tgt := 18) hx hb dX0_lead_5 (by decide) (fun c3 => ?_) (fun c3 => ?_)
  · replace h := fb_ie c3 h
    refine lv_aload_n hx hb dX0_lead_18 rfl (lv_at hl 0 rfl) ?_
    refine lv_iload_n hx hb dX0_lead_19 rfl (lv_at hl 1 rfl) ?_
    obtain ⟨r5, nt_6, wl_7, h4, h⟩ := fb_b3s h
    have hPc : va_P D vwCl (fb_wX0 cI h0 qf qn qw ql sz mi fg nt wt wl) H := hP.sub [0, 1, 2, 3, 4] rfl
    have hDc : va_D A (fb_wX0 cI h0 qf qn qw ql sz mi fg nt wt wl) := hD.sub [0, 1, 2, 3, 4] (by decide) rfl
    have hFc := va_free (wc := fb_wX0 cI h0 qf qn qw ql sz mi fg nt wt wl) hD hS hA [0, 1, 2, 3, 4] rfl
    refine fb_callM (va_runV (As := [.int a1]) (rest := []) ⟨hx, hb, hml, hown, hts⟩ (metX0_bestWay l D cI h0 qf qn qw ql B0 sz mi fg nt wt wl a1 H.size r5 nt_6 wl_7 h4) (cwV 1 hts gX0_lead_X0_bestWay rfl rfl rfl (by decide +kernel) ⟨Nat.le_of_ble_eq_true rfl, Nat.le_of_ble_eq_true rfl⟩) (fb_preVM (ci := 0) fb_sX0p hPc hK hDc hZ hS hAB hA rfl rfl _) rfl rfl hl.1 rfl (lv_room (Nat.le_of_ble_eq_true rfl)) dX0_lead_20 ⟨Nat.le_of_ble_eq_true rfl, Nat.le_of_ble_eq_true rfl⟩) hS (fun q _ h9 => hFc q h9) hFc (fun _ H1 locs hP1 hD1 hz1 hk1 hS => ?_)
    have hP : va_P D vwCl (fb_wX0 cI h0 qf qn qw ql sz mi fg nt_6 wt wl_7) H1 := hP1
    have hD : va_D A (fb_wX0 cI h0 qf qn qw ql sz mi fg nt_6 wt wl_7) := hD1.weaken (fun _ q _ h9 => hFc q.1 h9)
    generalize H1 = H at hP hS
    refine lv_istore_n (lv' := [(2, .int r5), (0, .ref h0), (1, .int a1)]) hx hb dX0_lead_23 rfl hl (by decide) rfl (fun ls hl => ?_)
    refine lv_iload_n hx hb dX0_lead_24 rfl (lv_at hl 0 rfl) ?_
    refine lv_if_ge (tgt := 38) hx hb dX0_lead_25 (by decide) (fun c8 => ?_) (fun c8 => ?_)
    · replace h := fb_it c8 h
      refine lv_aload_n hx hb dX0_lead_38 rfl (lv_at hl 1 rfl) ?_
      refine lv_iload_n hx hb dX0_lead_39 rfl (lv_at hl 2 rfl) ?_
      refine lv_iload_n hx hb dX0_lead_40 rfl (lv_at hl 0 rfl) ?_
      obtain ⟨nt_10, h9, h⟩ := fb_b1s h
      have hPc : va_P D vwCl (fb_wX0 cI h0 qf qn qw ql sz mi fg nt_6 wt wl_7) H := hP.sub [0, 1, 2, 3, 4] rfl
      have hDc : va_D A (fb_wX0 cI h0 qf qn qw ql sz mi fg nt_6 wt wl_7) := hD.sub [0, 1, 2, 3, 4] (by decide) rfl
      have hFc := va_free (wc := fb_wX0 cI h0 qf qn qw ql sz mi fg nt_6 wt wl_7) hD hS hA [0, 1, 2, 3, 4] rfl
      refine fb_callM (va_runV (As := [.int a1, .int r5]) (rest := []) ⟨hx, hb, hml, hown, hts⟩ (metX0_putWay l D cI h0 qf qn qw ql B0 sz mi fg nt_6 wt wl_7 a1 r5 H.size nt_10 h9) (cwV 2 hts gX0_lead_X0_putWay rfl rfl rfl (by decide +kernel) ⟨Nat.le_of_ble_eq_true rfl, Nat.le_of_ble_eq_true rfl⟩) (fb_preVM (ci := 0) fb_sX0p hPc hK hDc hZ hS hAB hA rfl rfl _) rfl rfl hl.1 rfl (lv_room (Nat.le_of_ble_eq_true rfl)) dX0_lead_41 ⟨Nat.le_of_ble_eq_true rfl, Nat.le_of_ble_eq_true rfl⟩) hS (fun q _ h9 => hFc q h9) hFc (fun _ H1 locs hP1 hD1 hz1 hk1 hS => ?_)
      have hP : va_P D vwCl (fb_wX0 cI h0 qf qn qw ql sz mi fg nt_10 wt wl_7) H1 := hP1
      have hD : va_D A (fb_wX0 cI h0 qf qn qw ql sz mi fg nt_10 wt wl_7) := hD1.weaken (fun _ q _ h9 => hFc q.1 h9)
      generalize H1 = H at hP hS
      refine lv_aload_n hx hb dX0_lead_44 rfl (lv_at hl 1 rfl) ?_
      refine lv_iload_n hx hb dX0_lead_45 rfl (lv_at hl 2 rfl) ?_
      obtain ⟨r12, h11, h⟩ := fb_b1s h
      refine fb_callR (W.runV (As := [.int a1]) (rest := []) ⟨hx, hb, hml, hown, hts⟩ (metX0_costOf l D cI h0 qf qn qw ql B0 sz mi fg nt_10 wt wl_7 a1 r12 h11) (cwV 1 hts gX0_lead_X0_costOf rfl rfl rfl (by decide +kernel) ⟨Nat.le_of_ble_eq_true rfl, Nat.le_of_ble_eq_true rfl⟩) (fb_preVR (ci := 0) fb_sX0p hP hK hZ hS hAB rfl rfl _) rfl rfl hl.1 rfl (lv_room (Nat.le_of_ble_eq_true rfl)) dX0_lead_46 ⟨Nat.le_of_ble_eq_true rfl, Nat.le_of_ble_eq_true rfl⟩) ?_
      have h := Option.some.inj h
      subst h
      refine W.widen (k := 1) (n := 6) (by first | decide | omega) (by first | decide | omega) ?_
      refine vx_ret ?_
      exact W.iret hx hb hr (fun t ht _ => ⟨_, rfl, ⟨rfl, by rw [ht]; exact hP, hD⟩, hS.F ht⟩) hS.2.2 dX0_lead_49
    · replace h := fb_ie c8 h
      have h := Option.some.inj h
      subst h
      obtain ⟨sa, hstr⟩ := fb_str88 hZT
      exact vx_throwS (names := ["java/lang/RuntimeException", "java/lang/Exception"]) (ik := 47) (is := 88) (ic := 51) hx hb hfl hown (by decide +kernel) (by decide +kernel) (hts _ w_c47) (hts _ w_iIllegalStateException) hstr
        (vx_hat (fun w9 h9 => hts w9 (List.mem_cons_of_mem _ (List.mem_append_right _ (h9)))) (B := fb_bad "java/lang/IllegalStateException") (by decide +kernel) (fb_badok_IllegalStateException hZT)) (by decide +kernel)
        ((fb_u1 hZT).narrow hAB) ((fb_u2 hZT).narrow hAB) hS (by rw [hml]; exact hl.1) dX0_lead_28 dX0_lead_31 dX0_lead_32 dX0_lead_34 dX0_lead_37 (fun x9 h9 => (htab x9 h9).elim)
        (Nat.le_of_ble_eq_true rfl) (Nat.le_of_ble_eq_true rfl) (Nat.le_of_ble_eq_true rfl) (Nat.le_of_ble_eq_true rfl) hlocks (fun t _ hz hk => fb_xend (x := (_, (nt_6, wl_7))) rfl rfl hP hD hS t hz hk) hS.2.2 (Nat.le_of_ble_eq_true rfl) (Nat.le_of_ble_eq_true rfl)
  · replace h := fb_it c3 h
    have h := Option.some.inj h
    subst h
    obtain ⟨sa, hstr⟩ := fb_str61 hZT
    exact vx_throwS (names := ["java/lang/RuntimeException", "java/lang/Exception"]) (ik := 59) (is := 61) (ic := 63) hx hb hfl hown (by decide +kernel) (by decide +kernel) (hts _ w_c59) (hts _ w_iIndexOutOfBoundsException) hstr
      (vx_hat (fun w9 h9 => hts w9 (List.mem_cons_of_mem _ (List.mem_append_left _ (List.mem_append_right _ (h9))))) (B := fb_bad "java/lang/IndexOutOfBoundsException") (by decide +kernel) (fb_badok_IndexOutOfBoundsException hZT)) (by decide +kernel)
      ((fb_u1 hZT).narrow hAB) ((fb_u2 hZT).narrow hAB) hS (by rw [hml]; exact hl.1) dX0_lead_8 dX0_lead_11 dX0_lead_12 dX0_lead_14 dX0_lead_17 (fun x9 h9 => (htab x9 h9).elim)
      (Nat.le_of_ble_eq_true rfl) (Nat.le_of_ble_eq_true rfl) (Nat.le_of_ble_eq_true rfl) (Nat.le_of_ble_eq_true rfl) hlocks (fun t _ hz hk => fb_xend (x := (_, (nt, wl))) rfl rfl hP hD hS t hz hk) hS.2.2 (Nat.le_of_ble_eq_true rfl) (Nat.le_of_ble_eq_true rfl)
abbrev rmX0_note : Room := { frames := 6, cells := 1, slots := 6, locals := 95 }
set_option maxHeartbeats 8000000 in
set_option maxRecDepth 100000 in
theorem metX0_note (l : Launch) (hfl : l.stackTraces = false) (D : va_G) (cI : ClassId) (h0 qf qn qw ql B0 : Nat) (sz : Int32) (mi : Int32) (fg : Nat → Int32) (nt : Nat → Int32) (wt : Nat → Int32) (wl : Nat → Int32) (a1 : Int32) (a2 : Int32) (hz : Nat) (ro : Except (String × Unit) (Int32)) (h : fX0_note sz mi fg nt wt wl a1 a2 = some ro) : vx_Met l yX0_note wsX0_note rmX0_note (va_Pc [.ref h0, .int a1, .int a2] (fb_pm D [(cI, .int)] B0 fb_sXT (fb_wX0 cI h0 qf qn qw ql sz mi fg nt wt wl) hz)) (fb_qT ro (fun v : Int32 => some (.int v)) (fun v : Int32 => fb_wX0 cI h0 qf qn qw ql sz mi fg nt wt wl) D (va_A (fb_wX0 cI h0 qf qn qw ql sz mi fg nt wt wl) hz)) (fb_xT ro (fun x : String × Unit => fb_wX0 cI h0 qf qn qw ql sz mi fg nt wt wl) D (va_A (fb_wX0 cI h0 qf qn qw ql sz mi fg nt wt wl) hz)) 1 6 (va_A (fb_wX0 cI h0 qf qn qw ql sz mi fg nt wt wl) hz) := by
  refine vx_ofW (cc := cX0_note) (maxL := 3) (ret := (some .int)) (by decide) rfl ?_
  intro p e s m args below meth c s₁ B hml htab hv
  obtain ⟨rfl, hsz, ⟨hP, hK, hZ⟩, hD0, hAB⟩ := hv
  have hx := B.exec
  have hb := B.bytes
  have hr := B.returns
  have hts := atoms_spec (ws := wsX0_note) B.pre
  have hown : s.vm.findClass RX0 = some m.cls := findClass_of_methodNamed B.named
  have hlocks := B.notSynchronized
  subst hsz
  have hD := hD0.self (sz := s.heap.size)
  generalize hAe : va_A (fb_wX0 cI h0 qf qn qw ql sz mi fg nt wt wl) s.heap.size = A at hD hAB ⊢
  have hA : ∀ q : Nat, s.heap.size ≤ q → A q := fun q h9 => by rw [← hAe]; exact Or.inr h9
  have hS : va_S A s.heap s.heap [] := va_S.rf
  have hP : va_P D vwCl (fb_wX0 cI h0 qf qn qw ql sz mi fg nt wt wl) s.heap := hP
  have hZT := hZ
  replace hZ := hZT.1
  have hin0 : ∀ w ∈ u_ws RX0 TX0 6, w ∈ wsX0_note := fun _ h9 => List.mem_cons_of_mem _ (List.mem_append_left _ (List.mem_append_right _ (h9)))
  have w_c59 : (Cond.classLink RX0 59 "java/lang/IndexOutOfBoundsException") ∈ wsX0_note := List.mem_of_getElem? (i := 1) rfl
  have w_iIndexOutOfBoundsException : (Cond.initialized "java/lang/IndexOutOfBoundsException") ∈ wsX0_note := List.mem_of_getElem? (i := 2) rfl
  have hl := lv_entry ([.ref h0, .int a1, .int a2]) (n := 3) (Nat.le_of_ble_eq_true rfl)
  rw [lg_entry_eq]
  generalize (lg_sl ([.ref h0, .int a1, .int a2]) ++ List.replicate (3 - (lg_sl ([.ref h0, .int a1, .int a2])).length) Slot.unset).toArray = ls at hl ⊢
  have hl : lv_has ls 3 [(0, .ref h0), (1, .int a1), (2, .int a2)] := hl
  suffices K : ∀ (H : Heap) (locs : List Loc), va_P D vwCl (fb_wX0 cI h0 qf qn qw ql sz mi fg nt wt wl) H → va_S A s.heap H locs → W p l e (headSpec wsX0_note rmX0_note).room s m ([.ref h0, .int a1, .int a2] : List Value).toArray below meth c H locs 0 0 (vx_MQ below (fb_qT ro (fun v : Int32 => some (.int v)) (fun v : Int32 => fb_wX0 cI h0 qf qn qw ql sz mi fg nt wt wl) D A) (fb_xT ro (fun x : String × Unit => fb_wX0 cI h0 qf qn qw ql sz mi fg nt wt wl) D A) ([.ref h0, .int a1, .int a2] : List Value).toArray s 1 6 A) (F0 m 0 ls []) from K s.heap [] hP hS
  intro H locs hP hS
  unfold fX0_note at h
  refine lv_aload_n hx hb dX0_note_0 rfl (lv_at hl 0 rfl) ?_
  refine lv_iload_n hx hb dX0_note_1 rfl (lv_at hl 1 rfl) ?_
  obtain ⟨r2, h1, h⟩ := fb_b1s h
  refine fb_callR (W.runV (As := [.int a1]) (rest := []) ⟨hx, hb, hml, hown, hts⟩ (metX0_isChord l D cI h0 qf qn qw ql B0 sz mi fg nt wt wl a1 r2 h1) (cwV 1 hts gX0_note_X0_isChord rfl rfl rfl (by decide +kernel) ⟨Nat.le_of_ble_eq_true rfl, Nat.le_of_ble_eq_true rfl⟩) (fb_preVR (ci := 0) fb_sX0p hP hK hZ hS hAB rfl rfl _) rfl rfl hl.1 rfl (lv_room (Nat.le_of_ble_eq_true rfl)) dX0_note_2 ⟨Nat.le_of_ble_eq_true rfl, Nat.le_of_ble_eq_true rfl⟩) ?_
  refine lv_if_eq (tgt := 17) hx hb dX0_note_5 (by decide) (fun c3 => ?_) (fun c3 => ?_)
  · replace h := fb_it c3 h
    have h := Option.some.inj h
    subst h
    obtain ⟨sa, hstr⟩ := fb_str97 hZT
    exact vx_throwS (names := ["java/lang/RuntimeException", "java/lang/Exception"]) (ik := 59) (is := 97) (ic := 63) hx hb hfl hown (by decide +kernel) (by decide +kernel) (hts _ w_c59) (hts _ w_iIndexOutOfBoundsException) hstr
      (vx_hat (fun w9 h9 => hts w9 (List.mem_cons_of_mem _ (List.mem_append_right _ (h9)))) (B := fb_bad "java/lang/IndexOutOfBoundsException") (by decide +kernel) (fb_badok_IndexOutOfBoundsException hZT)) (by decide +kernel)
      ((fb_u1 hZT).narrow hAB) ((fb_u2 hZT).narrow hAB) hS (by rw [hml]; exact hl.1) dX0_note_17 dX0_note_20 dX0_note_21 dX0_note_23 dX0_note_26 (fun x9 h9 => (htab x9 h9).elim)
      (Nat.le_of_ble_eq_true rfl) (Nat.le_of_ble_eq_true rfl) (Nat.le_of_ble_eq_true rfl) (Nat.le_of_ble_eq_true rfl) hlocks (fun t _ hz hk => fb_xend (x := (_, ())) rfl rfl hP hD hS t hz hk) hS.2.2 (Nat.le_of_ble_eq_true rfl) (Nat.le_of_ble_eq_true rfl)
  · replace h := fb_ie c3 h
    refine lv_iload_n hx hb dX0_note_8 rfl (lv_at hl 2 rfl) ?_
    refine lv_if_lt (tgt := 17) hx hb dX0_note_9 (by decide) (fun c4 => ?_) (fun c4 => ?_)
    · replace h := fb_it c4 h
      have h := Option.some.inj h
      subst h
      obtain ⟨sa, hstr⟩ := fb_str97 hZT
      exact vx_throwS (names := ["java/lang/RuntimeException", "java/lang/Exception"]) (ik := 59) (is := 97) (ic := 63) hx hb hfl hown (by decide +kernel) (by decide +kernel) (hts _ w_c59) (hts _ w_iIndexOutOfBoundsException) hstr
        (vx_hat (fun w9 h9 => hts w9 (List.mem_cons_of_mem _ (List.mem_append_right _ (h9)))) (B := fb_bad "java/lang/IndexOutOfBoundsException") (by decide +kernel) (fb_badok_IndexOutOfBoundsException hZT)) (by decide +kernel)
        ((fb_u1 hZT).narrow hAB) ((fb_u2 hZT).narrow hAB) hS (by rw [hml]; exact hl.1) dX0_note_17 dX0_note_20 dX0_note_21 dX0_note_23 dX0_note_26 (fun x9 h9 => (htab x9 h9).elim)
        (Nat.le_of_ble_eq_true rfl) (Nat.le_of_ble_eq_true rfl) (Nat.le_of_ble_eq_true rfl) (Nat.le_of_ble_eq_true rfl) hlocks (fun t _ hz hk => fb_xend (x := (_, ())) rfl rfl hP hD hS t hz hk) hS.2.2 (Nat.le_of_ble_eq_true rfl) (Nat.le_of_ble_eq_true rfl)
    · replace h := fb_ie c4 h
      refine lv_iload_n hx hb dX0_note_12 rfl (lv_at hl 2 rfl) ?_
      refine lv_iconst (v := 4) hx hb dX0_note_13 (by decide) ?_
      refine lv_icmp_lt (tgt := 27) hx hb dX0_note_14 (by decide) (fun c5 => ?_) (fun c5 => ?_)
      · replace h := fb_it c5 h
        refine lv_aload_n hx hb dX0_note_27 rfl (lv_at hl 0 rfl) ?_
        refine lv_iload_n hx hb dX0_note_28 rfl (lv_at hl 1 rfl) ?_
        refine lv_iload_n hx hb dX0_note_29 rfl (lv_at hl 2 rfl) ?_
        obtain ⟨r7, h6, h⟩ := fb_b1s h
        refine fb_callR (W.runV (As := [.int a1, .int a2]) (rest := []) ⟨hx, hb, hml, hown, hts⟩ (metX0_noteAt l D cI h0 qf qn qw ql B0 sz mi fg nt wt wl a1 a2 r7 h6) (cwV 2 hts gX0_note_X0_noteAt rfl rfl rfl (by decide +kernel) ⟨Nat.le_of_ble_eq_true rfl, Nat.le_of_ble_eq_true rfl⟩) (fb_preVR (ci := 0) fb_sX0p hP hK hZ hS hAB rfl rfl _) rfl rfl hl.1 rfl (lv_room (Nat.le_of_ble_eq_true rfl)) dX0_note_30 ⟨Nat.le_of_ble_eq_true rfl, Nat.le_of_ble_eq_true rfl⟩) ?_
        have h := Option.some.inj h
        subst h
        refine W.widen (k := 1) (n := 6) (by first | decide | omega) (by first | decide | omega) ?_
        refine vx_ret ?_
        exact W.iret hx hb hr (fun t ht _ => ⟨_, rfl, ⟨rfl, by rw [ht]; exact hP, hD⟩, hS.F ht⟩) hS.2.2 dX0_note_33
      · replace h := fb_ie c5 h
        have h := Option.some.inj h
        subst h
        obtain ⟨sa, hstr⟩ := fb_str97 hZT
        exact vx_throwS (names := ["java/lang/RuntimeException", "java/lang/Exception"]) (ik := 59) (is := 97) (ic := 63) hx hb hfl hown (by decide +kernel) (by decide +kernel) (hts _ w_c59) (hts _ w_iIndexOutOfBoundsException) hstr
          (vx_hat (fun w9 h9 => hts w9 (List.mem_cons_of_mem _ (List.mem_append_right _ (h9)))) (B := fb_bad "java/lang/IndexOutOfBoundsException") (by decide +kernel) (fb_badok_IndexOutOfBoundsException hZT)) (by decide +kernel)
          ((fb_u1 hZT).narrow hAB) ((fb_u2 hZT).narrow hAB) hS (by rw [hml]; exact hl.1) dX0_note_17 dX0_note_20 dX0_note_21 dX0_note_23 dX0_note_26 (fun x9 h9 => (htab x9 h9).elim)
          (Nat.le_of_ble_eq_true rfl) (Nat.le_of_ble_eq_true rfl) (Nat.le_of_ble_eq_true rfl) (Nat.le_of_ble_eq_true rfl) hlocks (fun t _ hz hk => fb_xend (x := (_, ())) rfl rfl hP hD hS t hz hk) hS.2.2 (Nat.le_of_ble_eq_true rfl) (Nat.le_of_ble_eq_true rfl)
abbrev rmX0_told : Room := { frames := 6, cells := 1, slots := 6, locals := 140 }
set_option maxHeartbeats 8000000 in
set_option maxRecDepth 100000 in
theorem metX0_told (l : Launch) (hfl : l.stackTraces = false) (D : va_G) (cI : ClassId) (h0 qf qn qw ql B0 : Nat) (sz : Int32) (mi : Int32) (fg : Nat → Int32) (nt : Nat → Int32) (wt : Nat → Int32) (wl : Nat → Int32) (a1 : Int32) (a2 : Int32) (hz : Nat) (ro : Except (String × Unit) (Int32)) (h : fX0_told sz mi fg nt wt wl a1 a2 = some ro) : vx_Met l yX0_told wsX0_told rmX0_told (va_Pc [.ref h0, .int a1, .int a2] (fb_pm D [(cI, .int)] B0 fb_sXT (fb_wX0 cI h0 qf qn qw ql sz mi fg nt wt wl) hz)) (fb_qT ro (fun v : Int32 => some (.int v)) (fun v : Int32 => fb_wX0 cI h0 qf qn qw ql sz mi fg nt wt wl) D (va_A (fb_wX0 cI h0 qf qn qw ql sz mi fg nt wt wl) hz)) (fb_xT ro (fun x : String × Unit => fb_wX0 cI h0 qf qn qw ql sz mi fg nt wt wl) D (va_A (fb_wX0 cI h0 qf qn qw ql sz mi fg nt wt wl) hz)) 1 6 (va_A (fb_wX0 cI h0 qf qn qw ql sz mi fg nt wt wl) hz) := by
  refine vx_ofW (cc := cX0_told) (maxL := 3) (ret := (some .int)) (by decide) rfl ?_
  intro p e s m args below meth c s₁ B hml htab hv
  obtain ⟨rfl, hsz, ⟨hP, hK, hZ⟩, hD0, hAB⟩ := hv
  have hx := B.exec
  have hb := B.bytes
  have hr := B.returns
  have hts := atoms_spec (ws := wsX0_told) B.pre
  have hown : s.vm.findClass RX0 = some m.cls := findClass_of_methodNamed B.named
  have hlocks := B.notSynchronized
  subst hsz
  have hD := hD0.self (sz := s.heap.size)
  generalize hAe : va_A (fb_wX0 cI h0 qf qn qw ql sz mi fg nt wt wl) s.heap.size = A at hD hAB ⊢
  have hA : ∀ q : Nat, s.heap.size ≤ q → A q := fun q h9 => by rw [← hAe]; exact Or.inr h9
  have hS : va_S A s.heap s.heap [] := va_S.rf
  have hP : va_P D vwCl (fb_wX0 cI h0 qf qn qw ql sz mi fg nt wt wl) s.heap := hP
  have hZT := hZ
  replace hZ := hZT.1
  have hin0 : ∀ w ∈ u_ws RX0 TX0 6, w ∈ wsX0_told := fun _ h9 => List.mem_cons_of_mem _ (List.mem_append_left _ (List.mem_append_right _ (h9)))
  have w_c59 : (Cond.classLink RX0 59 "java/lang/IndexOutOfBoundsException") ∈ wsX0_told := List.mem_of_getElem? (i := 1) rfl
  have w_iIndexOutOfBoundsException : (Cond.initialized "java/lang/IndexOutOfBoundsException") ∈ wsX0_told := List.mem_of_getElem? (i := 2) rfl
  have hl := lv_entry ([.ref h0, .int a1, .int a2]) (n := 3) (Nat.le_of_ble_eq_true rfl)
  rw [lg_entry_eq]
  generalize (lg_sl ([.ref h0, .int a1, .int a2]) ++ List.replicate (3 - (lg_sl ([.ref h0, .int a1, .int a2])).length) Slot.unset).toArray = ls at hl ⊢
  have hl : lv_has ls 3 [(0, .ref h0), (1, .int a1), (2, .int a2)] := hl
  suffices K : ∀ (H : Heap) (locs : List Loc), va_P D vwCl (fb_wX0 cI h0 qf qn qw ql sz mi fg nt wt wl) H → va_S A s.heap H locs → W p l e (headSpec wsX0_told rmX0_told).room s m ([.ref h0, .int a1, .int a2] : List Value).toArray below meth c H locs 0 0 (vx_MQ below (fb_qT ro (fun v : Int32 => some (.int v)) (fun v : Int32 => fb_wX0 cI h0 qf qn qw ql sz mi fg nt wt wl) D A) (fb_xT ro (fun x : String × Unit => fb_wX0 cI h0 qf qn qw ql sz mi fg nt wt wl) D A) ([.ref h0, .int a1, .int a2] : List Value).toArray s 1 6 A) (F0 m 0 ls []) from K s.heap [] hP hS
  intro H locs hP hS
  unfold fX0_told at h
  refine lv_aload_n hx hb dX0_told_0 rfl (lv_at hl 0 rfl) ?_
  refine lv_iload_n hx hb dX0_told_1 rfl (lv_at hl 1 rfl) ?_
  obtain ⟨r2, h1, h⟩ := fb_b1s h
  refine fb_callR (W.runV (As := [.int a1]) (rest := []) ⟨hx, hb, hml, hown, hts⟩ (metX0_isChord l D cI h0 qf qn qw ql B0 sz mi fg nt wt wl a1 r2 h1) (cwV 1 hts gX0_told_X0_isChord rfl rfl rfl (by decide +kernel) ⟨Nat.le_of_ble_eq_true rfl, Nat.le_of_ble_eq_true rfl⟩) (fb_preVR (ci := 0) fb_sX0p hP hK hZ hS hAB rfl rfl _) rfl rfl hl.1 rfl (lv_room (Nat.le_of_ble_eq_true rfl)) dX0_told_2 ⟨Nat.le_of_ble_eq_true rfl, Nat.le_of_ble_eq_true rfl⟩) ?_
  refine lv_if_eq (tgt := 18) hx hb dX0_told_5 (by decide) (fun c3 => ?_) (fun c3 => ?_)
  · replace h := fb_it c3 h
    have h := Option.some.inj h
    subst h
    obtain ⟨sa, hstr⟩ := fb_str103 hZT
    exact vx_throwS (names := ["java/lang/RuntimeException", "java/lang/Exception"]) (ik := 59) (is := 103) (ic := 63) hx hb hfl hown (by decide +kernel) (by decide +kernel) (hts _ w_c59) (hts _ w_iIndexOutOfBoundsException) hstr
      (vx_hat (fun w9 h9 => hts w9 (List.mem_cons_of_mem _ (List.mem_append_right _ (h9)))) (B := fb_bad "java/lang/IndexOutOfBoundsException") (by decide +kernel) (fb_badok_IndexOutOfBoundsException hZT)) (by decide +kernel)
      ((fb_u1 hZT).narrow hAB) ((fb_u2 hZT).narrow hAB) hS (by rw [hml]; exact hl.1) dX0_told_18 dX0_told_21 dX0_told_22 dX0_told_24 dX0_told_27 (fun x9 h9 => (htab x9 h9).elim)
      (Nat.le_of_ble_eq_true rfl) (Nat.le_of_ble_eq_true rfl) (Nat.le_of_ble_eq_true rfl) (Nat.le_of_ble_eq_true rfl) hlocks (fun t _ hz hk => fb_xend (x := (_, ())) rfl rfl hP hD hS t hz hk) hS.2.2 (Nat.le_of_ble_eq_true rfl) (Nat.le_of_ble_eq_true rfl)
  · replace h := fb_ie c3 h
    refine lv_iload_n hx hb dX0_told_8 rfl (lv_at hl 2 rfl) ?_
    refine lv_if_lt (tgt := 18) hx hb dX0_told_9 (by decide) (fun c4 => ?_) (fun c4 => ?_)
    · replace h := fb_it c4 h
      have h := Option.some.inj h
      subst h
      obtain ⟨sa, hstr⟩ := fb_str103 hZT
      exact vx_throwS (names := ["java/lang/RuntimeException", "java/lang/Exception"]) (ik := 59) (is := 103) (ic := 63) hx hb hfl hown (by decide +kernel) (by decide +kernel) (hts _ w_c59) (hts _ w_iIndexOutOfBoundsException) hstr
        (vx_hat (fun w9 h9 => hts w9 (List.mem_cons_of_mem _ (List.mem_append_right _ (h9)))) (B := fb_bad "java/lang/IndexOutOfBoundsException") (by decide +kernel) (fb_badok_IndexOutOfBoundsException hZT)) (by decide +kernel)
        ((fb_u1 hZT).narrow hAB) ((fb_u2 hZT).narrow hAB) hS (by rw [hml]; exact hl.1) dX0_told_18 dX0_told_21 dX0_told_22 dX0_told_24 dX0_told_27 (fun x9 h9 => (htab x9 h9).elim)
        (Nat.le_of_ble_eq_true rfl) (Nat.le_of_ble_eq_true rfl) (Nat.le_of_ble_eq_true rfl) (Nat.le_of_ble_eq_true rfl) hlocks (fun t _ hz hk => fb_xend (x := (_, ())) rfl rfl hP hD hS t hz hk) hS.2.2 (Nat.le_of_ble_eq_true rfl) (Nat.le_of_ble_eq_true rfl)
    · replace h := fb_ie c4 h
      refine lv_iload_n hx hb dX0_told_12 rfl (lv_at hl 2 rfl) ?_
      refine lv_bipush (v := 6) hx hb dX0_told_13 (by decide) ?_
      refine lv_icmp_lt (tgt := 28) hx hb dX0_told_15 (by decide) (fun c5 => ?_) (fun c5 => ?_)
      · replace h := fb_it c5 h
        refine lv_aload_n hx hb dX0_told_28 rfl (lv_at hl 0 rfl) ?_
        refine lv_iload_n hx hb dX0_told_29 rfl (lv_at hl 1 rfl) ?_
        refine lv_iload_n hx hb dX0_told_30 rfl (lv_at hl 2 rfl) ?_
        obtain ⟨r7, h6, h⟩ := fb_b1s h
        refine fb_callR (W.runV (As := [.int a1, .int a2]) (rest := []) ⟨hx, hb, hml, hown, hts⟩ (metX0_tellOf l D cI h0 qf qn qw ql B0 sz mi fg nt wt wl a1 a2 r7 h6) (cwV 2 hts gX0_told_X0_tellOf rfl rfl rfl (by decide +kernel) ⟨Nat.le_of_ble_eq_true rfl, Nat.le_of_ble_eq_true rfl⟩) (fb_preVR (ci := 0) fb_sX0p hP hK hZ hS hAB rfl rfl _) rfl rfl hl.1 rfl (lv_room (Nat.le_of_ble_eq_true rfl)) dX0_told_31 ⟨Nat.le_of_ble_eq_true rfl, Nat.le_of_ble_eq_true rfl⟩) ?_
        have h := Option.some.inj h
        subst h
        refine W.widen (k := 1) (n := 6) (by first | decide | omega) (by first | decide | omega) ?_
        refine vx_ret ?_
        exact W.iret hx hb hr (fun t ht _ => ⟨_, rfl, ⟨rfl, by rw [ht]; exact hP, hD⟩, hS.F ht⟩) hS.2.2 dX0_told_34
      · replace h := fb_ie c5 h
        have h := Option.some.inj h
        subst h
        obtain ⟨sa, hstr⟩ := fb_str103 hZT
        exact vx_throwS (names := ["java/lang/RuntimeException", "java/lang/Exception"]) (ik := 59) (is := 103) (ic := 63) hx hb hfl hown (by decide +kernel) (by decide +kernel) (hts _ w_c59) (hts _ w_iIndexOutOfBoundsException) hstr
          (vx_hat (fun w9 h9 => hts w9 (List.mem_cons_of_mem _ (List.mem_append_right _ (h9)))) (B := fb_bad "java/lang/IndexOutOfBoundsException") (by decide +kernel) (fb_badok_IndexOutOfBoundsException hZT)) (by decide +kernel)
          ((fb_u1 hZT).narrow hAB) ((fb_u2 hZT).narrow hAB) hS (by rw [hml]; exact hl.1) dX0_told_18 dX0_told_21 dX0_told_22 dX0_told_24 dX0_told_27 (fun x9 h9 => (htab x9 h9).elim)
          (Nat.le_of_ble_eq_true rfl) (Nat.le_of_ble_eq_true rfl) (Nat.le_of_ble_eq_true rfl) (Nat.le_of_ble_eq_true rfl) hlocks (fun t _ hz hk => fb_xend (x := (_, ())) rfl rfl hP hD hS t hz hk) hS.2.2 (Nat.le_of_ble_eq_true rfl) (Nat.le_of_ble_eq_true rfl)
abbrev rmX0_faults : Room := { frames := 6, cells := 1, slots := 6, locals := 95 }
set_option maxHeartbeats 8000000 in
set_option maxRecDepth 100000 in
theorem metX0_faults (l : Launch) (hfl : l.stackTraces = false) (D : va_G) (cI : ClassId) (h0 qf qn qw ql B0 : Nat) (sz : Int32) (mi : Int32) (fg : Nat → Int32) (nt : Nat → Int32) (wt : Nat → Int32) (wl : Nat → Int32) (a1 : Int32) (a2 : Int32) (hz : Nat) (ro : Except (String × Unit) (Int32)) (h : fX0_faults sz mi fg nt wt wl a1 a2 = some ro) : vx_Met l yX0_faults wsX0_faults rmX0_faults (va_Pc [.ref h0, .int a1, .int a2] (fb_pm D [(cI, .int)] B0 fb_sXT (fb_wX0 cI h0 qf qn qw ql sz mi fg nt wt wl) hz)) (fb_qT ro (fun v : Int32 => some (.int v)) (fun v : Int32 => fb_wX0 cI h0 qf qn qw ql sz mi fg nt wt wl) D (va_A (fb_wX0 cI h0 qf qn qw ql sz mi fg nt wt wl) hz)) (fb_xT ro (fun x : String × Unit => fb_wX0 cI h0 qf qn qw ql sz mi fg nt wt wl) D (va_A (fb_wX0 cI h0 qf qn qw ql sz mi fg nt wt wl) hz)) 1 6 (va_A (fb_wX0 cI h0 qf qn qw ql sz mi fg nt wt wl) hz) := by
  refine vx_ofW (cc := cX0_faults) (maxL := 3) (ret := (some .int)) (by decide) rfl ?_
  intro p e s m args below meth c s₁ B hml htab hv
  obtain ⟨rfl, hsz, ⟨hP, hK, hZ⟩, hD0, hAB⟩ := hv
  have hx := B.exec
  have hb := B.bytes
  have hr := B.returns
  have hts := atoms_spec (ws := wsX0_faults) B.pre
  have hown : s.vm.findClass RX0 = some m.cls := findClass_of_methodNamed B.named
  have hlocks := B.notSynchronized
  subst hsz
  have hD := hD0.self (sz := s.heap.size)
  generalize hAe : va_A (fb_wX0 cI h0 qf qn qw ql sz mi fg nt wt wl) s.heap.size = A at hD hAB ⊢
  have hA : ∀ q : Nat, s.heap.size ≤ q → A q := fun q h9 => by rw [← hAe]; exact Or.inr h9
  have hS : va_S A s.heap s.heap [] := va_S.rf
  have hP : va_P D vwCl (fb_wX0 cI h0 qf qn qw ql sz mi fg nt wt wl) s.heap := hP
  have hZT := hZ
  replace hZ := hZT.1
  have hin0 : ∀ w ∈ u_ws RX0 TX0 6, w ∈ wsX0_faults := fun _ h9 => List.mem_cons_of_mem _ (List.mem_append_left _ (List.mem_append_right _ (h9)))
  have w_c59 : (Cond.classLink RX0 59 "java/lang/IndexOutOfBoundsException") ∈ wsX0_faults := List.mem_of_getElem? (i := 1) rfl
  have w_iIndexOutOfBoundsException : (Cond.initialized "java/lang/IndexOutOfBoundsException") ∈ wsX0_faults := List.mem_of_getElem? (i := 2) rfl
  have hl := lv_entry ([.ref h0, .int a1, .int a2]) (n := 3) (Nat.le_of_ble_eq_true rfl)
  rw [lg_entry_eq]
  generalize (lg_sl ([.ref h0, .int a1, .int a2]) ++ List.replicate (3 - (lg_sl ([.ref h0, .int a1, .int a2])).length) Slot.unset).toArray = ls at hl ⊢
  have hl : lv_has ls 3 [(0, .ref h0), (1, .int a1), (2, .int a2)] := hl
  suffices K : ∀ (H : Heap) (locs : List Loc), va_P D vwCl (fb_wX0 cI h0 qf qn qw ql sz mi fg nt wt wl) H → va_S A s.heap H locs → W p l e (headSpec wsX0_faults rmX0_faults).room s m ([.ref h0, .int a1, .int a2] : List Value).toArray below meth c H locs 0 0 (vx_MQ below (fb_qT ro (fun v : Int32 => some (.int v)) (fun v : Int32 => fb_wX0 cI h0 qf qn qw ql sz mi fg nt wt wl) D A) (fb_xT ro (fun x : String × Unit => fb_wX0 cI h0 qf qn qw ql sz mi fg nt wt wl) D A) ([.ref h0, .int a1, .int a2] : List Value).toArray s 1 6 A) (F0 m 0 ls []) from K s.heap [] hP hS
  intro H locs hP hS
  unfold fX0_faults at h
  refine lv_aload_n hx hb dX0_faults_0 rfl (lv_at hl 0 rfl) ?_
  refine lv_iload_n hx hb dX0_faults_1 rfl (lv_at hl 1 rfl) ?_
  obtain ⟨r2, h1, h⟩ := fb_b1s h
  refine fb_callR (W.runV (As := [.int a1]) (rest := []) ⟨hx, hb, hml, hown, hts⟩ (metX0_isChord l D cI h0 qf qn qw ql B0 sz mi fg nt wt wl a1 r2 h1) (cwV 1 hts gX0_faults_X0_isChord rfl rfl rfl (by decide +kernel) ⟨Nat.le_of_ble_eq_true rfl, Nat.le_of_ble_eq_true rfl⟩) (fb_preVR (ci := 0) fb_sX0p hP hK hZ hS hAB rfl rfl _) rfl rfl hl.1 rfl (lv_room (Nat.le_of_ble_eq_true rfl)) dX0_faults_2 ⟨Nat.le_of_ble_eq_true rfl, Nat.le_of_ble_eq_true rfl⟩) ?_
  refine lv_if_eq (tgt := 15) hx hb dX0_faults_5 (by decide) (fun c3 => ?_) (fun c3 => ?_)
  · replace h := fb_it c3 h
    have h := Option.some.inj h
    subst h
    obtain ⟨sa, hstr⟩ := fb_str108 hZT
    exact vx_throwS (names := ["java/lang/RuntimeException", "java/lang/Exception"]) (ik := 59) (is := 108) (ic := 63) hx hb hfl hown (by decide +kernel) (by decide +kernel) (hts _ w_c59) (hts _ w_iIndexOutOfBoundsException) hstr
      (vx_hat (fun w9 h9 => hts w9 (List.mem_cons_of_mem _ (List.mem_append_right _ (h9)))) (B := fb_bad "java/lang/IndexOutOfBoundsException") (by decide +kernel) (fb_badok_IndexOutOfBoundsException hZT)) (by decide +kernel)
      ((fb_u1 hZT).narrow hAB) ((fb_u2 hZT).narrow hAB) hS (by rw [hml]; exact hl.1) dX0_faults_15 dX0_faults_18 dX0_faults_19 dX0_faults_21 dX0_faults_24 (fun x9 h9 => (htab x9 h9).elim)
      (Nat.le_of_ble_eq_true rfl) (Nat.le_of_ble_eq_true rfl) (Nat.le_of_ble_eq_true rfl) (Nat.le_of_ble_eq_true rfl) hlocks (fun t _ hz hk => fb_xend (x := (_, ())) rfl rfl hP hD hS t hz hk) hS.2.2 (Nat.le_of_ble_eq_true rfl) (Nat.le_of_ble_eq_true rfl)
  · replace h := fb_ie c3 h
    refine lv_iload_n hx hb dX0_faults_8 rfl (lv_at hl 2 rfl) ?_
    obtain ⟨r5, h4, h⟩ := fb_b1s h
    refine fb_callR (W.runS (As := [.int a2]) (rest := []) ⟨hx, hb, hml, hown, hts⟩ (metX0_isFault l B0 a2 r5 h4) (va_cwS 1 hts gX0_faults_X0_isFault rfl rfl rfl (by decide +kernel) ⟨Nat.le_of_ble_eq_true rfl, Nat.le_of_ble_eq_true rfl⟩) (fb_preS fb_sX0p hZ hS hAB _) rfl rfl hl.1 rfl (lv_room (Nat.le_of_ble_eq_true rfl)) dX0_faults_9 ⟨Nat.le_of_ble_eq_true rfl, Nat.le_of_ble_eq_true rfl⟩) ?_
    refine lv_if_ne (tgt := 25) hx hb dX0_faults_12 (by decide) (fun c6 => ?_) (fun c6 => ?_)
    · replace h := fb_ie c6 h
      refine lv_aload_n hx hb dX0_faults_25 rfl (lv_at hl 0 rfl) ?_
      refine lv_iload_n hx hb dX0_faults_26 rfl (lv_at hl 1 rfl) ?_
      refine lv_iload_n hx hb dX0_faults_27 rfl (lv_at hl 2 rfl) ?_
      obtain ⟨r8, h7, h⟩ := fb_b1s h
      refine fb_callR (W.runV (As := [.int a1, .int a2]) (rest := []) ⟨hx, hb, hml, hown, hts⟩ (metX0_faultsOf l D cI h0 qf qn qw ql B0 sz mi fg nt wt wl a1 a2 r8 h7) (cwV 2 hts gX0_faults_X0_faultsOf rfl rfl rfl (by decide +kernel) ⟨Nat.le_of_ble_eq_true rfl, Nat.le_of_ble_eq_true rfl⟩) (fb_preVR (ci := 0) fb_sX0p hP hK hZ hS hAB rfl rfl _) rfl rfl hl.1 rfl (lv_room (Nat.le_of_ble_eq_true rfl)) dX0_faults_28 ⟨Nat.le_of_ble_eq_true rfl, Nat.le_of_ble_eq_true rfl⟩) ?_
      have h := Option.some.inj h
      subst h
      refine W.widen (k := 1) (n := 6) (by first | decide | omega) (by first | decide | omega) ?_
      refine vx_ret ?_
      exact W.iret hx hb hr (fun t ht _ => ⟨_, rfl, ⟨rfl, by rw [ht]; exact hP, hD⟩, hS.F ht⟩) hS.2.2 dX0_faults_31
    · replace h := fb_it c6 h
      have h := Option.some.inj h
      subst h
      obtain ⟨sa, hstr⟩ := fb_str108 hZT
      exact vx_throwS (names := ["java/lang/RuntimeException", "java/lang/Exception"]) (ik := 59) (is := 108) (ic := 63) hx hb hfl hown (by decide +kernel) (by decide +kernel) (hts _ w_c59) (hts _ w_iIndexOutOfBoundsException) hstr
        (vx_hat (fun w9 h9 => hts w9 (List.mem_cons_of_mem _ (List.mem_append_right _ (h9)))) (B := fb_bad "java/lang/IndexOutOfBoundsException") (by decide +kernel) (fb_badok_IndexOutOfBoundsException hZT)) (by decide +kernel)
        ((fb_u1 hZT).narrow hAB) ((fb_u2 hZT).narrow hAB) hS (by rw [hml]; exact hl.1) dX0_faults_15 dX0_faults_18 dX0_faults_19 dX0_faults_21 dX0_faults_24 (fun x9 h9 => (htab x9 h9).elim)
        (Nat.le_of_ble_eq_true rfl) (Nat.le_of_ble_eq_true rfl) (Nat.le_of_ble_eq_true rfl) (Nat.le_of_ble_eq_true rfl) hlocks (fun t _ hz hk => fb_xend (x := (_, ())) rfl rfl hP hD hS t hz hk) hS.2.2 (Nat.le_of_ble_eq_true rfl) (Nat.le_of_ble_eq_true rfl)
abbrev rmX0_count : Room := { frames := 6, cells := 1, slots := 6, locals := 141 }
set_option maxHeartbeats 8000000 in
set_option maxRecDepth 100000 in
theorem metX0_count (l : Launch) (hfl : l.stackTraces = false) (D : va_G) (cI : ClassId) (h0 qf qn qw ql B0 : Nat) (sz : Int32) (mi : Int32) (fg : Nat → Int32) (nt : Nat → Int32) (wt : Nat → Int32) (wl : Nat → Int32) (a1 : Int32) (hz : Nat) (ro : Except (String × Unit) (Int32)) (h : fX0_count sz mi fg nt wt wl a1 = some ro) : vx_Met l yX0_count wsX0_count rmX0_count (va_Pc [.ref h0, .int a1] (fb_pm D [(cI, .int)] B0 fb_sXT (fb_wX0 cI h0 qf qn qw ql sz mi fg nt wt wl) hz)) (fb_qT ro (fun v : Int32 => some (.int v)) (fun v : Int32 => fb_wX0 cI h0 qf qn qw ql sz mi fg nt wt wl) D (va_A (fb_wX0 cI h0 qf qn qw ql sz mi fg nt wt wl) hz)) (fb_xT ro (fun x : String × Unit => fb_wX0 cI h0 qf qn qw ql sz mi fg nt wt wl) D (va_A (fb_wX0 cI h0 qf qn qw ql sz mi fg nt wt wl) hz)) 1 6 (va_A (fb_wX0 cI h0 qf qn qw ql sz mi fg nt wt wl) hz) := by
  refine vx_ofW (cc := cX0_count) (maxL := 2) (ret := (some .int)) (by decide) rfl ?_
  intro p e s m args below meth c s₁ B hml htab hv
  obtain ⟨rfl, hsz, ⟨hP, hK, hZ⟩, hD0, hAB⟩ := hv
  have hx := B.exec
  have hb := B.bytes
  have hr := B.returns
  have hts := atoms_spec (ws := wsX0_count) B.pre
  have hown : s.vm.findClass RX0 = some m.cls := findClass_of_methodNamed B.named
  have hlocks := B.notSynchronized
  subst hsz
  have hD := hD0.self (sz := s.heap.size)
  generalize hAe : va_A (fb_wX0 cI h0 qf qn qw ql sz mi fg nt wt wl) s.heap.size = A at hD hAB ⊢
  have hA : ∀ q : Nat, s.heap.size ≤ q → A q := fun q h9 => by rw [← hAe]; exact Or.inr h9
  have hS : va_S A s.heap s.heap [] := va_S.rf
  have hP : va_P D vwCl (fb_wX0 cI h0 qf qn qw ql sz mi fg nt wt wl) s.heap := hP
  have hZT := hZ
  replace hZ := hZT.1
  have hin0 : ∀ w ∈ u_ws RX0 TX0 6, w ∈ wsX0_count := fun _ h9 => List.mem_cons_of_mem _ (List.mem_append_left _ (List.mem_append_right _ (h9)))
  have w_c59 : (Cond.classLink RX0 59 "java/lang/IndexOutOfBoundsException") ∈ wsX0_count := List.mem_of_getElem? (i := 1) rfl
  have w_iIndexOutOfBoundsException : (Cond.initialized "java/lang/IndexOutOfBoundsException") ∈ wsX0_count := List.mem_of_getElem? (i := 2) rfl
  have hl := lv_entry ([.ref h0, .int a1]) (n := 2) (Nat.le_of_ble_eq_true rfl)
  rw [lg_entry_eq]
  generalize (lg_sl ([.ref h0, .int a1]) ++ List.replicate (2 - (lg_sl ([.ref h0, .int a1])).length) Slot.unset).toArray = ls at hl ⊢
  have hl : lv_has ls 2 [(0, .ref h0), (1, .int a1)] := hl
  suffices K : ∀ (H : Heap) (locs : List Loc), va_P D vwCl (fb_wX0 cI h0 qf qn qw ql sz mi fg nt wt wl) H → va_S A s.heap H locs → W p l e (headSpec wsX0_count rmX0_count).room s m ([.ref h0, .int a1] : List Value).toArray below meth c H locs 0 0 (vx_MQ below (fb_qT ro (fun v : Int32 => some (.int v)) (fun v : Int32 => fb_wX0 cI h0 qf qn qw ql sz mi fg nt wt wl) D A) (fb_xT ro (fun x : String × Unit => fb_wX0 cI h0 qf qn qw ql sz mi fg nt wt wl) D A) ([.ref h0, .int a1] : List Value).toArray s 1 6 A) (F0 m 0 ls []) from K s.heap [] hP hS
  intro H locs hP hS
  unfold fX0_count at h
  refine lv_iload_n hx hb dX0_count_0 rfl (lv_at hl 1 rfl) ?_
  refine lv_if_lt (tgt := 10) hx hb dX0_count_1 (by decide) (fun c1 => ?_) (fun c1 => ?_)
  · replace h := fb_it c1 h
    have h := Option.some.inj h
    subst h
    obtain ⟨sa, hstr⟩ := fb_str113 hZT
    exact vx_throwS (names := ["java/lang/RuntimeException", "java/lang/Exception"]) (ik := 59) (is := 113) (ic := 63) hx hb hfl hown (by decide +kernel) (by decide +kernel) (hts _ w_c59) (hts _ w_iIndexOutOfBoundsException) hstr
      (vx_hat (fun w9 h9 => hts w9 (List.mem_cons_of_mem _ (List.mem_append_right _ (h9)))) (B := fb_bad "java/lang/IndexOutOfBoundsException") (by decide +kernel) (fb_badok_IndexOutOfBoundsException hZT)) (by decide +kernel)
      ((fb_u1 hZT).narrow hAB) ((fb_u2 hZT).narrow hAB) hS (by rw [hml]; exact hl.1) dX0_count_10 dX0_count_13 dX0_count_14 dX0_count_16 dX0_count_19 (fun x9 h9 => (htab x9 h9).elim)
      (Nat.le_of_ble_eq_true rfl) (Nat.le_of_ble_eq_true rfl) (Nat.le_of_ble_eq_true rfl) (Nat.le_of_ble_eq_true rfl) hlocks (fun t _ hz hk => fb_xend (x := (_, ())) rfl rfl hP hD hS t hz hk) hS.2.2 (Nat.le_of_ble_eq_true rfl) (Nat.le_of_ble_eq_true rfl)
  · replace h := fb_ie c1 h
    refine lv_iload_n hx hb dX0_count_4 rfl (lv_at hl 1 rfl) ?_
    refine lv_bipush (v := 7) hx hb dX0_count_5 (by decide) ?_
    refine lv_icmp_lt (tgt := 20) hx hb dX0_count_7 (by decide) (fun c2 => ?_) (fun c2 => ?_)
    · replace h := fb_it c2 h
      refine lv_aload_n hx hb dX0_count_20 rfl (lv_at hl 0 rfl) ?_
      refine lv_iload_n hx hb dX0_count_21 rfl (lv_at hl 1 rfl) ?_
      obtain ⟨r4, h3, h⟩ := fb_b1s h
      refine fb_callR (W.runV (As := [.int a1]) (rest := []) ⟨hx, hb, hml, hown, hts⟩ (metX0_countOf l D cI h0 qf qn qw ql B0 sz mi fg nt wt wl a1 r4 h3) (cwV 1 hts gX0_count_X0_countOf rfl rfl rfl (by decide +kernel) ⟨Nat.le_of_ble_eq_true rfl, Nat.le_of_ble_eq_true rfl⟩) (fb_preVR (ci := 0) fb_sX0p hP hK hZ hS hAB rfl rfl _) rfl rfl hl.1 rfl (lv_room (Nat.le_of_ble_eq_true rfl)) dX0_count_22 ⟨Nat.le_of_ble_eq_true rfl, Nat.le_of_ble_eq_true rfl⟩) ?_
      have h := Option.some.inj h
      subst h
      refine W.widen (k := 1) (n := 6) (by first | decide | omega) (by first | decide | omega) ?_
      refine vx_ret ?_
      exact W.iret hx hb hr (fun t ht _ => ⟨_, rfl, ⟨rfl, by rw [ht]; exact hP, hD⟩, hS.F ht⟩) hS.2.2 dX0_count_25
    · replace h := fb_ie c2 h
      have h := Option.some.inj h
      subst h
      obtain ⟨sa, hstr⟩ := fb_str113 hZT
      exact vx_throwS (names := ["java/lang/RuntimeException", "java/lang/Exception"]) (ik := 59) (is := 113) (ic := 63) hx hb hfl hown (by decide +kernel) (by decide +kernel) (hts _ w_c59) (hts _ w_iIndexOutOfBoundsException) hstr
        (vx_hat (fun w9 h9 => hts w9 (List.mem_cons_of_mem _ (List.mem_append_right _ (h9)))) (B := fb_bad "java/lang/IndexOutOfBoundsException") (by decide +kernel) (fb_badok_IndexOutOfBoundsException hZT)) (by decide +kernel)
        ((fb_u1 hZT).narrow hAB) ((fb_u2 hZT).narrow hAB) hS (by rw [hml]; exact hl.1) dX0_count_10 dX0_count_13 dX0_count_14 dX0_count_16 dX0_count_19 (fun x9 h9 => (htab x9 h9).elim)
        (Nat.le_of_ble_eq_true rfl) (Nat.le_of_ble_eq_true rfl) (Nat.le_of_ble_eq_true rfl) (Nat.le_of_ble_eq_true rfl) hlocks (fun t _ hz hk => fb_xend (x := (_, ())) rfl rfl hP hD hS t hz hk) hS.2.2 (Nat.le_of_ble_eq_true rfl) (Nat.le_of_ble_eq_true rfl)
abbrev rmX0_fits : Room := { frames := 6, cells := 1, slots := 6, locals := 95 }
set_option maxHeartbeats 8000000 in
set_option maxRecDepth 100000 in
theorem metX0_fits (l : Launch) (hfl : l.stackTraces = false) (D : va_G) (cI : ClassId) (h0 qf qn qw ql B0 : Nat) (sz : Int32) (mi : Int32) (fg : Nat → Int32) (nt : Nat → Int32) (wt : Nat → Int32) (wl : Nat → Int32) (a1 : Int32) (a2 : Int32) (a3 : Int32) (hz : Nat) (ro : Except (String × Unit) (Int32)) (h : fX0_fits sz mi fg nt wt wl a1 a2 a3 = some ro) : vx_Met l yX0_fits wsX0_fits rmX0_fits (va_Pc [.ref h0, .int a1, .int a2, .int a3] (fb_pm D [(cI, .int)] B0 fb_sXT (fb_wX0 cI h0 qf qn qw ql sz mi fg nt wt wl) hz)) (fb_qT ro (fun v : Int32 => some (.int v)) (fun v : Int32 => fb_wX0 cI h0 qf qn qw ql sz mi fg nt wt wl) D (va_A (fb_wX0 cI h0 qf qn qw ql sz mi fg nt wt wl) hz)) (fb_xT ro (fun x : String × Unit => fb_wX0 cI h0 qf qn qw ql sz mi fg nt wt wl) D (va_A (fb_wX0 cI h0 qf qn qw ql sz mi fg nt wt wl) hz)) 1 6 (va_A (fb_wX0 cI h0 qf qn qw ql sz mi fg nt wt wl) hz) := by
  refine vx_ofW (cc := cX0_fits) (maxL := 4) (ret := (some .boolean)) (by decide) rfl ?_
  intro p e s m args below meth c s₁ B hml htab hv
  obtain ⟨rfl, hsz, ⟨hP, hK, hZ⟩, hD0, hAB⟩ := hv
  have hx := B.exec
  have hb := B.bytes
  have hr := B.returns
  have hts := atoms_spec (ws := wsX0_fits) B.pre
  have hown : s.vm.findClass RX0 = some m.cls := findClass_of_methodNamed B.named
  have hlocks := B.notSynchronized
  subst hsz
  have hD := hD0.self (sz := s.heap.size)
  generalize hAe : va_A (fb_wX0 cI h0 qf qn qw ql sz mi fg nt wt wl) s.heap.size = A at hD hAB ⊢
  have hA : ∀ q : Nat, s.heap.size ≤ q → A q := fun q h9 => by rw [← hAe]; exact Or.inr h9
  have hS : va_S A s.heap s.heap [] := va_S.rf
  have hP : va_P D vwCl (fb_wX0 cI h0 qf qn qw ql sz mi fg nt wt wl) s.heap := hP
  have hZT := hZ
  replace hZ := hZT.1
  have hin0 : ∀ w ∈ u_ws RX0 TX0 6, w ∈ wsX0_fits := fun _ h9 => List.mem_cons_of_mem _ (List.mem_append_left _ (List.mem_append_left _ (List.mem_append_right _ (h9))))
  have w_c34 : (Cond.classLink RX0 34 "java/lang/IllegalArgumentException") ∈ wsX0_fits := List.mem_of_getElem? (i := 3) rfl
  have w_c59 : (Cond.classLink RX0 59 "java/lang/IndexOutOfBoundsException") ∈ wsX0_fits := List.mem_of_getElem? (i := 1) rfl
  have w_iIllegalArgumentException : (Cond.initialized "java/lang/IllegalArgumentException") ∈ wsX0_fits := List.mem_of_getElem? (i := 4) rfl
  have w_iIndexOutOfBoundsException : (Cond.initialized "java/lang/IndexOutOfBoundsException") ∈ wsX0_fits := List.mem_of_getElem? (i := 2) rfl
  have hl := lv_entry ([.ref h0, .int a1, .int a2, .int a3]) (n := 4) (Nat.le_of_ble_eq_true rfl)
  rw [lg_entry_eq]
  generalize (lg_sl ([.ref h0, .int a1, .int a2, .int a3]) ++ List.replicate (4 - (lg_sl ([.ref h0, .int a1, .int a2, .int a3])).length) Slot.unset).toArray = ls at hl ⊢
  have hl : lv_has ls 4 [(0, .ref h0), (1, .int a1), (2, .int a2), (3, .int a3)] := hl
  suffices K : ∀ (H : Heap) (locs : List Loc), va_P D vwCl (fb_wX0 cI h0 qf qn qw ql sz mi fg nt wt wl) H → va_S A s.heap H locs → W p l e (headSpec wsX0_fits rmX0_fits).room s m ([.ref h0, .int a1, .int a2, .int a3] : List Value).toArray below meth c H locs 0 0 (vx_MQ below (fb_qT ro (fun v : Int32 => some (.int v)) (fun v : Int32 => fb_wX0 cI h0 qf qn qw ql sz mi fg nt wt wl) D A) (fb_xT ro (fun x : String × Unit => fb_wX0 cI h0 qf qn qw ql sz mi fg nt wt wl) D A) ([.ref h0, .int a1, .int a2, .int a3] : List Value).toArray s 1 6 A) (F0 m 0 ls []) from K s.heap [] hP hS
  intro H locs hP hS
  unfold fX0_fits at h
  refine lv_aload_n hx hb dX0_fits_0 rfl (lv_at hl 0 rfl) ?_
  refine lv_iload_n hx hb dX0_fits_1 rfl (lv_at hl 1 rfl) ?_
  obtain ⟨r2, h1, h⟩ := fb_b1s h
  refine fb_callR (W.runV (As := [.int a1]) (rest := []) ⟨hx, hb, hml, hown, hts⟩ (metX0_isChord l D cI h0 qf qn qw ql B0 sz mi fg nt wt wl a1 r2 h1) (cwV 1 hts gX0_fits_X0_isChord rfl rfl rfl (by decide +kernel) ⟨Nat.le_of_ble_eq_true rfl, Nat.le_of_ble_eq_true rfl⟩) (fb_preVR (ci := 0) fb_sX0p hP hK hZ hS hAB rfl rfl _) rfl rfl hl.1 rfl (lv_room (Nat.le_of_ble_eq_true rfl)) dX0_fits_2 ⟨Nat.le_of_ble_eq_true rfl, Nat.le_of_ble_eq_true rfl⟩) ?_
  refine lv_if_eq (tgt := 15) hx hb dX0_fits_5 (by decide) (fun c3 => ?_) (fun c3 => ?_)
  · replace h := fb_it c3 h
    have h := Option.some.inj h
    subst h
    obtain ⟨sa, hstr⟩ := fb_str71 hZT
    exact vx_throwS (names := ["java/lang/RuntimeException", "java/lang/Exception"]) (ik := 59) (is := 71) (ic := 63) hx hb hfl hown (by decide +kernel) (by decide +kernel) (hts _ w_c59) (hts _ w_iIndexOutOfBoundsException) hstr
      (vx_hat (fun w9 h9 => hts w9 (List.mem_cons_of_mem _ (List.mem_append_left _ (List.mem_append_right _ (h9))))) (B := fb_bad "java/lang/IndexOutOfBoundsException") (by decide +kernel) (fb_badok_IndexOutOfBoundsException hZT)) (by decide +kernel)
      ((fb_u1 hZT).narrow hAB) ((fb_u2 hZT).narrow hAB) hS (by rw [hml]; exact hl.1) dX0_fits_15 dX0_fits_18 dX0_fits_19 dX0_fits_21 dX0_fits_24 (fun x9 h9 => (htab x9 h9).elim)
      (Nat.le_of_ble_eq_true rfl) (Nat.le_of_ble_eq_true rfl) (Nat.le_of_ble_eq_true rfl) (Nat.le_of_ble_eq_true rfl) hlocks (fun t _ hz hk => fb_xend (x := (_, ())) rfl rfl hP hD hS t hz hk) hS.2.2 (Nat.le_of_ble_eq_true rfl) (Nat.le_of_ble_eq_true rfl)
  · replace h := fb_ie c3 h
    refine lv_iload_n hx hb dX0_fits_8 rfl (lv_at hl 2 rfl) ?_
    obtain ⟨r5, h4, h⟩ := fb_b1s h
    refine fb_callR (W.runS (As := [.int a2]) (rest := []) ⟨hx, hb, hml, hown, hts⟩ (metX0_isUpperVoice l B0 a2 r5 h4) (va_cwS 1 hts gX0_fits_X0_isUpperVoice rfl rfl rfl (by decide +kernel) ⟨Nat.le_of_ble_eq_true rfl, Nat.le_of_ble_eq_true rfl⟩) (fb_preS fb_sX0p hZ hS hAB _) rfl rfl hl.1 rfl (lv_room (Nat.le_of_ble_eq_true rfl)) dX0_fits_9 ⟨Nat.le_of_ble_eq_true rfl, Nat.le_of_ble_eq_true rfl⟩) ?_
    refine lv_if_ne (tgt := 25) hx hb dX0_fits_12 (by decide) (fun c6 => ?_) (fun c6 => ?_)
    · replace h := fb_ie c6 h
      refine lv_iload_n hx hb dX0_fits_25 rfl (lv_at hl 3 rfl) ?_
      obtain ⟨r8, h7, h⟩ := fb_b1s h
      refine fb_callR (W.runS (As := [.int a3]) (rest := []) ⟨hx, hb, hml, hown, hts⟩ (metX0_isNote l B0 a3 r8 h7) (va_cwS 1 hts gX0_fits_X0_isNote rfl rfl rfl (by decide +kernel) ⟨Nat.le_of_ble_eq_true rfl, Nat.le_of_ble_eq_true rfl⟩) (fb_preS fb_sX0p hZ hS hAB _) rfl rfl hl.1 rfl (lv_room (Nat.le_of_ble_eq_true rfl)) dX0_fits_26 ⟨Nat.le_of_ble_eq_true rfl, Nat.le_of_ble_eq_true rfl⟩) ?_
      refine lv_if_ne (tgt := 42) hx hb dX0_fits_29 (by decide) (fun c9 => ?_) (fun c9 => ?_)
      · replace h := fb_ie c9 h
        refine lv_iload_n hx hb dX0_fits_42 rfl (lv_at hl 2 rfl) ?_
        refine lv_iload_n hx hb dX0_fits_43 rfl (lv_at hl 3 rfl) ?_
        obtain ⟨r11, h10, h⟩ := fb_b1s h
        refine fb_callR (W.runS (As := [.int a2, .int a3]) (rest := []) ⟨hx, hb, hml, hown, hts⟩ (metX0_isNoteOf l B0 a2 a3 r11 h10) (va_cwS 2 hts gX0_fits_X0_isNoteOf rfl rfl rfl (by decide +kernel) ⟨Nat.le_of_ble_eq_true rfl, Nat.le_of_ble_eq_true rfl⟩) (fb_preS fb_sX0p hZ hS hAB _) rfl rfl hl.1 rfl (lv_room (Nat.le_of_ble_eq_true rfl)) dX0_fits_44 ⟨Nat.le_of_ble_eq_true rfl, Nat.le_of_ble_eq_true rfl⟩) ?_
        refine lv_if_eq (tgt := 63) hx hb dX0_fits_47 (by decide) (fun c12 => ?_) (fun c12 => ?_)
        · replace h := fb_it c12 h
          refine lv_iconst (v := 0) hx hb dX0_fits_63 (by decide) ?_
          have h := Option.some.inj h
          subst h
          refine W.widen (k := 1) (n := 6) (by first | decide | omega) (by first | decide | omega) ?_
          refine vx_ret ?_
          exact W.zret (ty := .boolean) hx hb hr rfl (fun t ht _ => ⟨_, rfl, ⟨rfl, by rw [ht]; exact hP, hD⟩, hS.F ht⟩) hS.2.2 dX0_fits_64
        · replace h := fb_ie c12 h
          refine lv_aload_n hx hb dX0_fits_50 rfl (lv_at hl 0 rfl) ?_
          refine lv_iload_n hx hb dX0_fits_51 rfl (lv_at hl 1 rfl) ?_
          refine lv_iload_n hx hb dX0_fits_52 rfl (lv_at hl 3 rfl) ?_
          obtain ⟨r15, h14, h⟩ := fb_b1s h
          refine fb_callR (W.runV (As := [.int a1, .int a3]) (rest := []) ⟨hx, hb, hml, hown, hts⟩ (metX0_belongs l D cI h0 qf qn qw ql B0 sz mi fg nt wt wl a1 a3 r15 h14) (cwV 2 hts gX0_fits_X0_belongs rfl rfl rfl (by decide +kernel) ⟨Nat.le_of_ble_eq_true rfl, Nat.le_of_ble_eq_true rfl⟩) (fb_preVR (ci := 0) fb_sX0p hP hK hZ hS hAB rfl rfl _) rfl rfl hl.1 rfl (lv_room (Nat.le_of_ble_eq_true rfl)) dX0_fits_53 ⟨Nat.le_of_ble_eq_true rfl, Nat.le_of_ble_eq_true rfl⟩) ?_
          refine lv_if_eq (tgt := 63) hx hb dX0_fits_56 (by decide) (fun c16 => ?_) (fun c16 => ?_)
          · replace h := fb_it c16 h
            refine lv_iconst (v := 0) hx hb dX0_fits_63 (by decide) ?_
            have h := Option.some.inj h
            subst h
            refine W.widen (k := 1) (n := 6) (by first | decide | omega) (by first | decide | omega) ?_
            refine vx_ret ?_
            exact W.zret (ty := .boolean) hx hb hr rfl (fun t ht _ => ⟨_, rfl, ⟨rfl, by rw [ht]; exact hP, hD⟩, hS.F ht⟩) hS.2.2 dX0_fits_64
          · replace h := fb_ie c16 h
            refine lv_iconst (v := 1) hx hb dX0_fits_59 (by decide) ?_
            refine lv_goto (tgt := 64) hx hb dX0_fits_60 (by decide) ?_
            have h := Option.some.inj h
            subst h
            refine W.widen (k := 1) (n := 6) (by first | decide | omega) (by first | decide | omega) ?_
            refine vx_ret ?_
            exact W.zret (ty := .boolean) hx hb hr rfl (fun t ht _ => ⟨_, rfl, ⟨rfl, by rw [ht]; exact hP, hD⟩, hS.F ht⟩) hS.2.2 dX0_fits_64
      · replace h := fb_it c9 h
        have h := Option.some.inj h
        subst h
        obtain ⟨sa, hstr⟩ := fb_str121 hZT
        exact vx_throwS (names := ["java/lang/RuntimeException", "java/lang/Exception"]) (ik := 34) (is := 121) (ic := 38) hx hb hfl hown (by decide +kernel) (by decide +kernel) (hts _ w_c34) (hts _ w_iIllegalArgumentException) hstr
          (vx_hat (fun w9 h9 => hts w9 (List.mem_cons_of_mem _ (List.mem_append_right _ (h9)))) (B := fb_bad "java/lang/IllegalArgumentException") (by decide +kernel) (fb_badok_IllegalArgumentException hZT)) (by decide +kernel)
          ((fb_u1 hZT).narrow hAB) ((fb_u2 hZT).narrow hAB) hS (by rw [hml]; exact hl.1) dX0_fits_32 dX0_fits_35 dX0_fits_36 dX0_fits_38 dX0_fits_41 (fun x9 h9 => (htab x9 h9).elim)
          (Nat.le_of_ble_eq_true rfl) (Nat.le_of_ble_eq_true rfl) (Nat.le_of_ble_eq_true rfl) (Nat.le_of_ble_eq_true rfl) hlocks (fun t _ hz hk => fb_xend (x := (_, ())) rfl rfl hP hD hS t hz hk) hS.2.2 (Nat.le_of_ble_eq_true rfl) (Nat.le_of_ble_eq_true rfl)
    · replace h := fb_it c6 h
      have h := Option.some.inj h
      subst h
      obtain ⟨sa, hstr⟩ := fb_str71 hZT
      exact vx_throwS (names := ["java/lang/RuntimeException", "java/lang/Exception"]) (ik := 59) (is := 71) (ic := 63) hx hb hfl hown (by decide +kernel) (by decide +kernel) (hts _ w_c59) (hts _ w_iIndexOutOfBoundsException) hstr
        (vx_hat (fun w9 h9 => hts w9 (List.mem_cons_of_mem _ (List.mem_append_left _ (List.mem_append_right _ (h9))))) (B := fb_bad "java/lang/IndexOutOfBoundsException") (by decide +kernel) (fb_badok_IndexOutOfBoundsException hZT)) (by decide +kernel)
        ((fb_u1 hZT).narrow hAB) ((fb_u2 hZT).narrow hAB) hS (by rw [hml]; exact hl.1) dX0_fits_15 dX0_fits_18 dX0_fits_19 dX0_fits_21 dX0_fits_24 (fun x9 h9 => (htab x9 h9).elim)
        (Nat.le_of_ble_eq_true rfl) (Nat.le_of_ble_eq_true rfl) (Nat.le_of_ble_eq_true rfl) (Nat.le_of_ble_eq_true rfl) hlocks (fun t _ hz hk => fb_xend (x := (_, ())) rfl rfl hP hD hS t hz hk) hS.2.2 (Nat.le_of_ble_eq_true rfl) (Nat.le_of_ble_eq_true rfl)
abbrev rmX0_ways : Room := { frames := 6, cells := 1, slots := 6, locals := 98 }
set_option maxHeartbeats 8000000 in
set_option maxRecDepth 100000 in
theorem metX0_ways (l : Launch) (hfl : l.stackTraces = false) (D : va_G) (cI : ClassId) (h0 qf qn qw ql B0 : Nat) (sz : Int32) (mi : Int32) (fg : Nat → Int32) (nt : Nat → Int32) (wt : Nat → Int32) (wl : Nat → Int32) (a1 : Int32) (hz : Nat) (ro : Except (String × (Nat → Int32)) (Int32 × (Nat → Int32))) (h : fX0_ways sz mi fg nt wt wl a1 = some ro) : vx_Met l yX0_ways wsX0_ways rmX0_ways (va_Pc [.ref h0, .int a1] (fb_pm D [(cI, .int)] B0 fb_sXT (fb_wX0 cI h0 qf qn qw ql sz mi fg nt wt wl) hz)) (fb_qT ro (fun v : Int32 × (Nat → Int32) => some (.int v.1)) (fun v : Int32 × (Nat → Int32) => fb_wX0 cI h0 qf qn qw ql sz mi fg nt wt v.2) D (va_A (fb_wX0 cI h0 qf qn qw ql sz mi fg nt wt wl) hz)) (fb_xT ro (fun x : String × (Nat → Int32) => fb_wX0 cI h0 qf qn qw ql sz mi fg nt wt x.2) D (va_A (fb_wX0 cI h0 qf qn qw ql sz mi fg nt wt wl) hz)) 1 6 (va_A (fb_wX0 cI h0 qf qn qw ql sz mi fg nt wt wl) hz) := by
  refine vx_ofW (cc := cX0_ways) (maxL := 2) (ret := (some .int)) (by decide) rfl ?_
  intro p e s m args below meth c s₁ B hml htab hv
  obtain ⟨rfl, hsz, ⟨hP, hK, hZ⟩, hD0, hAB⟩ := hv
  have hx := B.exec
  have hb := B.bytes
  have hr := B.returns
  have hts := atoms_spec (ws := wsX0_ways) B.pre
  have hown : s.vm.findClass RX0 = some m.cls := findClass_of_methodNamed B.named
  have hlocks := B.notSynchronized
  subst hsz
  have hD := hD0.self (sz := s.heap.size)
  generalize hAe : va_A (fb_wX0 cI h0 qf qn qw ql sz mi fg nt wt wl) s.heap.size = A at hD hAB ⊢
  have hA : ∀ q : Nat, s.heap.size ≤ q → A q := fun q h9 => by rw [← hAe]; exact Or.inr h9
  have hS : va_S A s.heap s.heap [] := va_S.rf
  have hP : va_P D vwCl (fb_wX0 cI h0 qf qn qw ql sz mi fg nt wt wl) s.heap := hP
  have hZT := hZ
  replace hZ := hZT.1
  have hin0 : ∀ w ∈ u_ws RX0 TX0 6, w ∈ wsX0_ways := fun _ h9 => List.mem_cons_of_mem _ (List.mem_append_left _ (List.mem_append_right _ (h9)))
  have w_c59 : (Cond.classLink RX0 59 "java/lang/IndexOutOfBoundsException") ∈ wsX0_ways := List.mem_of_getElem? (i := 1) rfl
  have w_iIndexOutOfBoundsException : (Cond.initialized "java/lang/IndexOutOfBoundsException") ∈ wsX0_ways := List.mem_of_getElem? (i := 2) rfl
  have hl := lv_entry ([.ref h0, .int a1]) (n := 2) (Nat.le_of_ble_eq_true rfl)
  rw [lg_entry_eq]
  generalize (lg_sl ([.ref h0, .int a1]) ++ List.replicate (2 - (lg_sl ([.ref h0, .int a1])).length) Slot.unset).toArray = ls at hl ⊢
  have hl : lv_has ls 2 [(0, .ref h0), (1, .int a1)] := hl
  suffices K : ∀ (H : Heap) (locs : List Loc), va_P D vwCl (fb_wX0 cI h0 qf qn qw ql sz mi fg nt wt wl) H → va_S A s.heap H locs → W p l e (headSpec wsX0_ways rmX0_ways).room s m ([.ref h0, .int a1] : List Value).toArray below meth c H locs 0 0 (vx_MQ below (fb_qT ro (fun v : Int32 × (Nat → Int32) => some (.int v.1)) (fun v : Int32 × (Nat → Int32) => fb_wX0 cI h0 qf qn qw ql sz mi fg nt wt v.2) D A) (fb_xT ro (fun x : String × (Nat → Int32) => fb_wX0 cI h0 qf qn qw ql sz mi fg nt wt x.2) D A) ([.ref h0, .int a1] : List Value).toArray s 1 6 A) (F0 m 0 ls []) from K s.heap [] hP hS
  intro H locs hP hS
  unfold fX0_ways at h
  refine lv_aload_n hx hb dX0_ways_0 rfl (lv_at hl 0 rfl) ?_
  refine lv_iload_n hx hb dX0_ways_1 rfl (lv_at hl 1 rfl) ?_
  obtain ⟨r2, h1, h⟩ := fb_b1s h
  refine fb_callR (W.runV (As := [.int a1]) (rest := []) ⟨hx, hb, hml, hown, hts⟩ (metX0_isChord l D cI h0 qf qn qw ql B0 sz mi fg nt wt wl a1 r2 h1) (cwV 1 hts gX0_ways_X0_isChord rfl rfl rfl (by decide +kernel) ⟨Nat.le_of_ble_eq_true rfl, Nat.le_of_ble_eq_true rfl⟩) (fb_preVR (ci := 0) fb_sX0p hP hK hZ hS hAB rfl rfl _) rfl rfl hl.1 rfl (lv_room (Nat.le_of_ble_eq_true rfl)) dX0_ways_2 ⟨Nat.le_of_ble_eq_true rfl, Nat.le_of_ble_eq_true rfl⟩) ?_
  refine lv_if_ne (tgt := 18) hx hb dX0_ways_5 (by decide) (fun c3 => ?_) (fun c3 => ?_)
  · replace h := fb_ie c3 h
    refine lv_aload_n hx hb dX0_ways_18 rfl (lv_at hl 0 rfl) ?_
    refine lv_iload_n hx hb dX0_ways_19 rfl (lv_at hl 1 rfl) ?_
    obtain ⟨r5, wl_6, h4, h⟩ := fb_b2s h
    have hPc : va_P D vwCl (fb_wX0 cI h0 qf qn qw ql sz mi fg nt wt wl) H := hP.sub [0, 1, 2, 3, 4] rfl
    have hDc : va_D A (fb_wX0 cI h0 qf qn qw ql sz mi fg nt wt wl) := hD.sub [0, 1, 2, 3, 4] (by decide) rfl
    have hFc := va_free (wc := fb_wX0 cI h0 qf qn qw ql sz mi fg nt wt wl) hD hS hA [0, 1, 2, 3, 4] rfl
    refine fb_callM (va_runV (As := [.int a1]) (rest := []) ⟨hx, hb, hml, hown, hts⟩ (metX0_listWays l D cI h0 qf qn qw ql B0 sz mi fg nt wt wl a1 H.size r5 wl_6 h4) (cwV 1 hts gX0_ways_X0_listWays rfl rfl rfl (by decide +kernel) ⟨Nat.le_of_ble_eq_true rfl, Nat.le_of_ble_eq_true rfl⟩) (fb_preVM (ci := 0) fb_sX0p hPc hK hDc hZ hS hAB hA rfl rfl _) rfl rfl hl.1 rfl (lv_room (Nat.le_of_ble_eq_true rfl)) dX0_ways_20 ⟨Nat.le_of_ble_eq_true rfl, Nat.le_of_ble_eq_true rfl⟩) hS (fun q _ h9 => hFc q h9) hFc (fun _ H1 locs hP1 hD1 hz1 hk1 hS => ?_)
    have hP : va_P D vwCl (fb_wX0 cI h0 qf qn qw ql sz mi fg nt wt wl_6) H1 := hP1
    have hD : va_D A (fb_wX0 cI h0 qf qn qw ql sz mi fg nt wt wl_6) := hD1.weaken (fun _ q _ h9 => hFc q.1 h9)
    generalize H1 = H at hP hS
    have h := Option.some.inj h
    subst h
    refine W.widen (k := 1) (n := 6) (by first | decide | omega) (by first | decide | omega) ?_
    refine vx_ret ?_
    exact W.iret hx hb hr (fun t ht _ => ⟨_, rfl, ⟨rfl, by rw [ht]; exact hP, hD⟩, hS.F ht⟩) hS.2.2 dX0_ways_23
  · replace h := fb_it c3 h
    have h := Option.some.inj h
    subst h
    obtain ⟨sa, hstr⟩ := fb_str61 hZT
    exact vx_throwS (names := ["java/lang/RuntimeException", "java/lang/Exception"]) (ik := 59) (is := 61) (ic := 63) hx hb hfl hown (by decide +kernel) (by decide +kernel) (hts _ w_c59) (hts _ w_iIndexOutOfBoundsException) hstr
      (vx_hat (fun w9 h9 => hts w9 (List.mem_cons_of_mem _ (List.mem_append_right _ (h9)))) (B := fb_bad "java/lang/IndexOutOfBoundsException") (by decide +kernel) (fb_badok_IndexOutOfBoundsException hZT)) (by decide +kernel)
      ((fb_u1 hZT).narrow hAB) ((fb_u2 hZT).narrow hAB) hS (by rw [hml]; exact hl.1) dX0_ways_8 dX0_ways_11 dX0_ways_12 dX0_ways_14 dX0_ways_17 (fun x9 h9 => (htab x9 h9).elim)
      (Nat.le_of_ble_eq_true rfl) (Nat.le_of_ble_eq_true rfl) (Nat.le_of_ble_eq_true rfl) (Nat.le_of_ble_eq_true rfl) hlocks (fun t _ hz hk => fb_xend (x := (_, wl)) rfl rfl hP hD hS t hz hk) hS.2.2 (Nat.le_of_ble_eq_true rfl) (Nat.le_of_ble_eq_true rfl)
abbrev rmX0_would : Room := { frames := 6, cells := 1, slots := 6, locals := 141 }
set_option maxHeartbeats 8000000 in
set_option maxRecDepth 100000 in
theorem metX0_would (l : Launch) (hfl : l.stackTraces = false) (D : va_G) (cI : ClassId) (h0 qf qn qw ql B0 : Nat) (sz : Int32) (mi : Int32) (fg : Nat → Int32) (nt : Nat → Int32) (wt : Nat → Int32) (wl : Nat → Int32) (a1 : Int32) (a2 : Int32) (a3 : Int32) (hz : Nat) (ro : Except (String × (Nat → Int32)) (Int32 × (Nat → Int32))) (h : fX0_would sz mi fg nt wt wl a1 a2 a3 = some ro) : vx_Met l yX0_would wsX0_would rmX0_would (va_Pc [.ref h0, .int a1, .int a2, .int a3] (fb_pm D [(cI, .int)] B0 fb_sXT (fb_wX0 cI h0 qf qn qw ql sz mi fg nt wt wl) hz)) (fb_qT ro (fun v : Int32 × (Nat → Int32) => some (.int v.1)) (fun v : Int32 × (Nat → Int32) => fb_wX0 cI h0 qf qn qw ql sz mi fg v.2 wt wl) D (va_A (fb_wX0 cI h0 qf qn qw ql sz mi fg nt wt wl) hz)) (fb_xT ro (fun x : String × (Nat → Int32) => fb_wX0 cI h0 qf qn qw ql sz mi fg x.2 wt wl) D (va_A (fb_wX0 cI h0 qf qn qw ql sz mi fg nt wt wl) hz)) 1 6 (va_A (fb_wX0 cI h0 qf qn qw ql sz mi fg nt wt wl) hz) := by
  refine vx_ofW (cc := cX0_would) (maxL := 6) (ret := (some .int)) (by decide) rfl ?_
  intro p e s m args below meth c s₁ B hml htab hv
  obtain ⟨rfl, hsz, ⟨hP, hK, hZ⟩, hD0, hAB⟩ := hv
  have hx := B.exec
  have hb := B.bytes
  have hr := B.returns
  have hts := atoms_spec (ws := wsX0_would) B.pre
  have hown : s.vm.findClass RX0 = some m.cls := findClass_of_methodNamed B.named
  have hlocks := B.notSynchronized
  subst hsz
  have hD := hD0.self (sz := s.heap.size)
  generalize hAe : va_A (fb_wX0 cI h0 qf qn qw ql sz mi fg nt wt wl) s.heap.size = A at hD hAB ⊢
  have hA : ∀ q : Nat, s.heap.size ≤ q → A q := fun q h9 => by rw [← hAe]; exact Or.inr h9
  have hS : va_S A s.heap s.heap [] := va_S.rf
  have hP : va_P D vwCl (fb_wX0 cI h0 qf qn qw ql sz mi fg nt wt wl) s.heap := hP
  have hZT := hZ
  replace hZ := hZT.1
  have hin0 : ∀ w ∈ u_ws RX0 TX0 6, w ∈ wsX0_would := fun _ h9 => List.mem_cons_of_mem _ (List.mem_append_left _ (List.mem_append_left _ (List.mem_append_right _ (h9))))
  have w_c34 : (Cond.classLink RX0 34 "java/lang/IllegalArgumentException") ∈ wsX0_would := List.mem_of_getElem? (i := 3) rfl
  have w_c59 : (Cond.classLink RX0 59 "java/lang/IndexOutOfBoundsException") ∈ wsX0_would := List.mem_of_getElem? (i := 1) rfl
  have w_iIllegalArgumentException : (Cond.initialized "java/lang/IllegalArgumentException") ∈ wsX0_would := List.mem_of_getElem? (i := 4) rfl
  have w_iIndexOutOfBoundsException : (Cond.initialized "java/lang/IndexOutOfBoundsException") ∈ wsX0_would := List.mem_of_getElem? (i := 2) rfl
  have hl := lv_entry ([.ref h0, .int a1, .int a2, .int a3]) (n := 6) (Nat.le_of_ble_eq_true rfl)
  rw [lg_entry_eq]
  generalize (lg_sl ([.ref h0, .int a1, .int a2, .int a3]) ++ List.replicate (6 - (lg_sl ([.ref h0, .int a1, .int a2, .int a3])).length) Slot.unset).toArray = ls at hl ⊢
  have hl : lv_has ls 6 [(0, .ref h0), (1, .int a1), (2, .int a2), (3, .int a3)] := hl
  suffices K : ∀ (H : Heap) (locs : List Loc), va_P D vwCl (fb_wX0 cI h0 qf qn qw ql sz mi fg nt wt wl) H → va_S A s.heap H locs → W p l e (headSpec wsX0_would rmX0_would).room s m ([.ref h0, .int a1, .int a2, .int a3] : List Value).toArray below meth c H locs 0 0 (vx_MQ below (fb_qT ro (fun v : Int32 × (Nat → Int32) => some (.int v.1)) (fun v : Int32 × (Nat → Int32) => fb_wX0 cI h0 qf qn qw ql sz mi fg v.2 wt wl) D A) (fb_xT ro (fun x : String × (Nat → Int32) => fb_wX0 cI h0 qf qn qw ql sz mi fg x.2 wt wl) D A) ([.ref h0, .int a1, .int a2, .int a3] : List Value).toArray s 1 6 A) (F0 m 0 ls []) from K s.heap [] hP hS
  intro H locs hP hS
  unfold fX0_would at h
  refine lv_aload_n hx hb dX0_would_0 rfl (lv_at hl 0 rfl) ?_
  refine lv_iload_n hx hb dX0_would_1 rfl (lv_at hl 1 rfl) ?_
  obtain ⟨r2, h1, h⟩ := fb_b1s h
  refine fb_callR (W.runV (As := [.int a1]) (rest := []) ⟨hx, hb, hml, hown, hts⟩ (metX0_isChord l D cI h0 qf qn qw ql B0 sz mi fg nt wt wl a1 r2 h1) (cwV 1 hts gX0_would_X0_isChord rfl rfl rfl (by decide +kernel) ⟨Nat.le_of_ble_eq_true rfl, Nat.le_of_ble_eq_true rfl⟩) (fb_preVR (ci := 0) fb_sX0p hP hK hZ hS hAB rfl rfl _) rfl rfl hl.1 rfl (lv_room (Nat.le_of_ble_eq_true rfl)) dX0_would_2 ⟨Nat.le_of_ble_eq_true rfl, Nat.le_of_ble_eq_true rfl⟩) ?_
  refine lv_if_eq (tgt := 15) hx hb dX0_would_5 (by decide) (fun c3 => ?_) (fun c3 => ?_)
  · replace h := fb_it c3 h
    have h := Option.some.inj h
    subst h
    obtain ⟨sa, hstr⟩ := fb_str71 hZT
    exact vx_throwS (names := ["java/lang/RuntimeException", "java/lang/Exception"]) (ik := 59) (is := 71) (ic := 63) hx hb hfl hown (by decide +kernel) (by decide +kernel) (hts _ w_c59) (hts _ w_iIndexOutOfBoundsException) hstr
      (vx_hat (fun w9 h9 => hts w9 (List.mem_cons_of_mem _ (List.mem_append_left _ (List.mem_append_right _ (h9))))) (B := fb_bad "java/lang/IndexOutOfBoundsException") (by decide +kernel) (fb_badok_IndexOutOfBoundsException hZT)) (by decide +kernel)
      ((fb_u1 hZT).narrow hAB) ((fb_u2 hZT).narrow hAB) hS (by rw [hml]; exact hl.1) dX0_would_15 dX0_would_18 dX0_would_19 dX0_would_21 dX0_would_24 (fun x9 h9 => (htab x9 h9).elim)
      (Nat.le_of_ble_eq_true rfl) (Nat.le_of_ble_eq_true rfl) (Nat.le_of_ble_eq_true rfl) (Nat.le_of_ble_eq_true rfl) hlocks (fun t _ hz hk => fb_xend (x := (_, nt)) rfl rfl hP hD hS t hz hk) hS.2.2 (Nat.le_of_ble_eq_true rfl) (Nat.le_of_ble_eq_true rfl)
  · replace h := fb_ie c3 h
    refine lv_iload_n hx hb dX0_would_8 rfl (lv_at hl 2 rfl) ?_
    obtain ⟨r5, h4, h⟩ := fb_b1s h
    refine fb_callR (W.runS (As := [.int a2]) (rest := []) ⟨hx, hb, hml, hown, hts⟩ (metX0_isUpperVoice l B0 a2 r5 h4) (va_cwS 1 hts gX0_would_X0_isUpperVoice rfl rfl rfl (by decide +kernel) ⟨Nat.le_of_ble_eq_true rfl, Nat.le_of_ble_eq_true rfl⟩) (fb_preS fb_sX0p hZ hS hAB _) rfl rfl hl.1 rfl (lv_room (Nat.le_of_ble_eq_true rfl)) dX0_would_9 ⟨Nat.le_of_ble_eq_true rfl, Nat.le_of_ble_eq_true rfl⟩) ?_
    refine lv_if_ne (tgt := 25) hx hb dX0_would_12 (by decide) (fun c6 => ?_) (fun c6 => ?_)
    · replace h := fb_ie c6 h
      refine lv_iload_n hx hb dX0_would_25 rfl (lv_at hl 3 rfl) ?_
      refine lv_iconst (v := (-1)) hx hb dX0_would_26 (by decide) ?_
      refine lv_icmp_eq (tgt := 48) hx hb dX0_would_27 (by decide) (fun c7 => ?_) (fun c7 => ?_)
      · replace h := fb_it c7 h
        refine lv_aload_n hx hb dX0_would_48 rfl (lv_at hl 0 rfl) ?_
        refine lv_iload_n hx hb dX0_would_49 rfl (lv_at hl 1 rfl) ?_
        refine lv_iload_n hx hb dX0_would_50 rfl (lv_at hl 2 rfl) ?_
        refine lv_iload_n hx hb dX0_would_51 rfl (lv_at hl 3 rfl) ?_
        obtain ⟨r9, nt_10, h8, h⟩ := fb_b2s h
        have hPc : va_P D vwCl (fb_wX0 cI h0 qf qn qw ql sz mi fg nt wt wl) H := hP.sub [0, 1, 2, 3, 4] rfl
        have hDc : va_D A (fb_wX0 cI h0 qf qn qw ql sz mi fg nt wt wl) := hD.sub [0, 1, 2, 3, 4] (by decide) rfl
        have hFc := va_free (wc := fb_wX0 cI h0 qf qn qw ql sz mi fg nt wt wl) hD hS hA [0, 1, 2, 3, 4] rfl
        refine fb_callM (va_runV (As := [.int a1, .int a2, .int a3]) (rest := []) ⟨hx, hb, hml, hown, hts⟩ (metX0_exchangeNote l D cI h0 qf qn qw ql B0 sz mi fg nt wt wl a1 a2 a3 H.size r9 nt_10 h8) (cwV 3 hts gX0_would_X0_exchangeNote rfl rfl rfl (by decide +kernel) ⟨Nat.le_of_ble_eq_true rfl, Nat.le_of_ble_eq_true rfl⟩) (fb_preVM (ci := 0) fb_sX0p hPc hK hDc hZ hS hAB hA rfl rfl _) rfl rfl hl.1 rfl (lv_room (Nat.le_of_ble_eq_true rfl)) dX0_would_52 ⟨Nat.le_of_ble_eq_true rfl, Nat.le_of_ble_eq_true rfl⟩) hS (fun q _ h9 => hFc q h9) hFc (fun _ H1 locs hP1 hD1 hz1 hk1 hS => ?_)
        have hP : va_P D vwCl (fb_wX0 cI h0 qf qn qw ql sz mi fg nt_10 wt wl) H1 := hP1
        have hD : va_D A (fb_wX0 cI h0 qf qn qw ql sz mi fg nt_10 wt wl) := hD1.weaken (fun _ q _ h9 => hFc q.1 h9)
        generalize H1 = H at hP hS
        refine lv_istore (lv' := [(4, .int r9), (0, .ref h0), (1, .int a1), (2, .int a2), (3, .int a3)]) hx hb dX0_would_55 hl (by decide) rfl (fun ls hl => ?_)
        refine lv_aload_n hx hb dX0_would_57 rfl (lv_at hl 1 rfl) ?_
        refine lv_iconst (v := 5) hx hb dX0_would_58 (by decide) ?_
        obtain ⟨r12, h11, h⟩ := fb_b1s h
        refine fb_callR (W.runV (As := [.int 5]) (rest := []) ⟨hx, hb, hml, hown, hts⟩ (metX0_countOf l D cI h0 qf qn qw ql B0 sz mi fg nt_10 wt wl 5 r12 h11) (cwV 1 hts gX0_would_X0_countOf rfl rfl rfl (by decide +kernel) ⟨Nat.le_of_ble_eq_true rfl, Nat.le_of_ble_eq_true rfl⟩) (fb_preVR (ci := 0) fb_sX0p hP hK hZ hS hAB rfl rfl _) rfl rfl hl.1 rfl (lv_room (Nat.le_of_ble_eq_true rfl)) dX0_would_59 ⟨Nat.le_of_ble_eq_true rfl, Nat.le_of_ble_eq_true rfl⟩) ?_
        refine lv_istore (lv' := [(5, .int r12), (4, .int r9), (0, .ref h0), (1, .int a1), (2, .int a2), (3, .int a3)]) hx hb dX0_would_62 hl (by decide) rfl (fun ls hl => ?_)
        refine lv_aload_n hx hb dX0_would_64 rfl (lv_at hl 2 rfl) ?_
        refine lv_iload_n hx hb dX0_would_65 rfl (lv_at hl 3 rfl) ?_
        refine lv_iload_n hx hb dX0_would_66 rfl (lv_at hl 4 rfl) ?_
        refine lv_iload hx hb dX0_would_67 (lv_at hl 1 rfl) ?_
        obtain ⟨r14, nt_15, h13, h⟩ := fb_b2s h
        have hPc : va_P D vwCl (fb_wX0 cI h0 qf qn qw ql sz mi fg nt_10 wt wl) H := hP.sub [0, 1, 2, 3, 4] rfl
        have hDc : va_D A (fb_wX0 cI h0 qf qn qw ql sz mi fg nt_10 wt wl) := hD.sub [0, 1, 2, 3, 4] (by decide) rfl
        have hFc := va_free (wc := fb_wX0 cI h0 qf qn qw ql sz mi fg nt_10 wt wl) hD hS hA [0, 1, 2, 3, 4] rfl
        refine fb_callM (va_runV (As := [.int a1, .int a2, .int r9]) (rest := []) ⟨hx, hb, hml, hown, hts⟩ (metX0_exchangeNote l D cI h0 qf qn qw ql B0 sz mi fg nt_10 wt wl a1 a2 r9 H.size r14 nt_15 h13) (cwV 3 hts gX0_would_X0_exchangeNote rfl rfl rfl (by decide +kernel) ⟨Nat.le_of_ble_eq_true rfl, Nat.le_of_ble_eq_true rfl⟩) (fb_preVM (ci := 0) fb_sX0p hPc hK hDc hZ hS hAB hA rfl rfl _) rfl rfl hl.1 rfl (lv_room (Nat.le_of_ble_eq_true rfl)) dX0_would_69 ⟨Nat.le_of_ble_eq_true rfl, Nat.le_of_ble_eq_true rfl⟩) hS (fun q _ h9 => hFc q h9) hFc (fun _ H1 locs hP1 hD1 hz1 hk1 hS => ?_)
        have hP : va_P D vwCl (fb_wX0 cI h0 qf qn qw ql sz mi fg nt_15 wt wl) H1 := hP1
        have hD : va_D A (fb_wX0 cI h0 qf qn qw ql sz mi fg nt_15 wt wl) := hD1.weaken (fun _ q _ h9 => hFc q.1 h9)
        generalize H1 = H at hP hS
        refine lv_pop hx hb dX0_would_72 rfl ?_
        refine lv_iload hx hb dX0_would_73 (lv_at hl 0 rfl) ?_
        have h := Option.some.inj h
        subst h
        refine W.widen (k := 1) (n := 6) (by first | decide | omega) (by first | decide | omega) ?_
        refine vx_ret ?_
        exact W.iret hx hb hr (fun t ht _ => ⟨_, rfl, ⟨rfl, by rw [ht]; exact hP, hD⟩, hS.F ht⟩) hS.2.2 dX0_would_75
      · replace h := fb_ie c7 h
        refine lv_iload_n hx hb dX0_would_30 rfl (lv_at hl 2 rfl) ?_
        refine lv_iload_n hx hb dX0_would_31 rfl (lv_at hl 3 rfl) ?_
        obtain ⟨r18, h17, h⟩ := fb_b1s h
        refine fb_callR (W.runS (As := [.int a2, .int a3]) (rest := []) ⟨hx, hb, hml, hown, hts⟩ (metX0_isNoteOf l B0 a2 a3 r18 h17) (va_cwS 2 hts gX0_would_X0_isNoteOf rfl rfl rfl (by decide +kernel) ⟨Nat.le_of_ble_eq_true rfl, Nat.le_of_ble_eq_true rfl⟩) (fb_preS fb_sX0p hZ hS hAB _) rfl rfl hl.1 rfl (lv_room (Nat.le_of_ble_eq_true rfl)) dX0_would_32 ⟨Nat.le_of_ble_eq_true rfl, Nat.le_of_ble_eq_true rfl⟩) ?_
        refine lv_if_ne (tgt := 48) hx hb dX0_would_35 (by decide) (fun c19 => ?_) (fun c19 => ?_)
        · replace h := fb_ie c19 h
          refine lv_aload_n hx hb dX0_would_48 rfl (lv_at hl 0 rfl) ?_
          refine lv_iload_n hx hb dX0_would_49 rfl (lv_at hl 1 rfl) ?_
          refine lv_iload_n hx hb dX0_would_50 rfl (lv_at hl 2 rfl) ?_
          refine lv_iload_n hx hb dX0_would_51 rfl (lv_at hl 3 rfl) ?_
          obtain ⟨r21, nt_22, h20, h⟩ := fb_b2s h
          have hPc : va_P D vwCl (fb_wX0 cI h0 qf qn qw ql sz mi fg nt wt wl) H := hP.sub [0, 1, 2, 3, 4] rfl
          have hDc : va_D A (fb_wX0 cI h0 qf qn qw ql sz mi fg nt wt wl) := hD.sub [0, 1, 2, 3, 4] (by decide) rfl
          have hFc := va_free (wc := fb_wX0 cI h0 qf qn qw ql sz mi fg nt wt wl) hD hS hA [0, 1, 2, 3, 4] rfl
          refine fb_callM (va_runV (As := [.int a1, .int a2, .int a3]) (rest := []) ⟨hx, hb, hml, hown, hts⟩ (metX0_exchangeNote l D cI h0 qf qn qw ql B0 sz mi fg nt wt wl a1 a2 a3 H.size r21 nt_22 h20) (cwV 3 hts gX0_would_X0_exchangeNote rfl rfl rfl (by decide +kernel) ⟨Nat.le_of_ble_eq_true rfl, Nat.le_of_ble_eq_true rfl⟩) (fb_preVM (ci := 0) fb_sX0p hPc hK hDc hZ hS hAB hA rfl rfl _) rfl rfl hl.1 rfl (lv_room (Nat.le_of_ble_eq_true rfl)) dX0_would_52 ⟨Nat.le_of_ble_eq_true rfl, Nat.le_of_ble_eq_true rfl⟩) hS (fun q _ h9 => hFc q h9) hFc (fun _ H1 locs hP1 hD1 hz1 hk1 hS => ?_)
          have hP : va_P D vwCl (fb_wX0 cI h0 qf qn qw ql sz mi fg nt_22 wt wl) H1 := hP1
          have hD : va_D A (fb_wX0 cI h0 qf qn qw ql sz mi fg nt_22 wt wl) := hD1.weaken (fun _ q _ h9 => hFc q.1 h9)
          generalize H1 = H at hP hS
          refine lv_istore (lv' := [(4, .int r21), (0, .ref h0), (1, .int a1), (2, .int a2), (3, .int a3)]) hx hb dX0_would_55 hl (by decide) rfl (fun ls hl => ?_)
          refine lv_aload_n hx hb dX0_would_57 rfl (lv_at hl 1 rfl) ?_
          refine lv_iconst (v := 5) hx hb dX0_would_58 (by decide) ?_
          obtain ⟨r24, h23, h⟩ := fb_b1s h
          refine fb_callR (W.runV (As := [.int 5]) (rest := []) ⟨hx, hb, hml, hown, hts⟩ (metX0_countOf l D cI h0 qf qn qw ql B0 sz mi fg nt_22 wt wl 5 r24 h23) (cwV 1 hts gX0_would_X0_countOf rfl rfl rfl (by decide +kernel) ⟨Nat.le_of_ble_eq_true rfl, Nat.le_of_ble_eq_true rfl⟩) (fb_preVR (ci := 0) fb_sX0p hP hK hZ hS hAB rfl rfl _) rfl rfl hl.1 rfl (lv_room (Nat.le_of_ble_eq_true rfl)) dX0_would_59 ⟨Nat.le_of_ble_eq_true rfl, Nat.le_of_ble_eq_true rfl⟩) ?_
          refine lv_istore (lv' := [(5, .int r24), (4, .int r21), (0, .ref h0), (1, .int a1), (2, .int a2), (3, .int a3)]) hx hb dX0_would_62 hl (by decide) rfl (fun ls hl => ?_)
          refine lv_aload_n hx hb dX0_would_64 rfl (lv_at hl 2 rfl) ?_
          refine lv_iload_n hx hb dX0_would_65 rfl (lv_at hl 3 rfl) ?_
          refine lv_iload_n hx hb dX0_would_66 rfl (lv_at hl 4 rfl) ?_
          refine lv_iload hx hb dX0_would_67 (lv_at hl 1 rfl) ?_
          obtain ⟨r26, nt_27, h25, h⟩ := fb_b2s h
          have hPc : va_P D vwCl (fb_wX0 cI h0 qf qn qw ql sz mi fg nt_22 wt wl) H := hP.sub [0, 1, 2, 3, 4] rfl
          have hDc : va_D A (fb_wX0 cI h0 qf qn qw ql sz mi fg nt_22 wt wl) := hD.sub [0, 1, 2, 3, 4] (by decide) rfl
          have hFc := va_free (wc := fb_wX0 cI h0 qf qn qw ql sz mi fg nt_22 wt wl) hD hS hA [0, 1, 2, 3, 4] rfl
          refine fb_callM (va_runV (As := [.int a1, .int a2, .int r21]) (rest := []) ⟨hx, hb, hml, hown, hts⟩ (metX0_exchangeNote l D cI h0 qf qn qw ql B0 sz mi fg nt_22 wt wl a1 a2 r21 H.size r26 nt_27 h25) (cwV 3 hts gX0_would_X0_exchangeNote rfl rfl rfl (by decide +kernel) ⟨Nat.le_of_ble_eq_true rfl, Nat.le_of_ble_eq_true rfl⟩) (fb_preVM (ci := 0) fb_sX0p hPc hK hDc hZ hS hAB hA rfl rfl _) rfl rfl hl.1 rfl (lv_room (Nat.le_of_ble_eq_true rfl)) dX0_would_69 ⟨Nat.le_of_ble_eq_true rfl, Nat.le_of_ble_eq_true rfl⟩) hS (fun q _ h9 => hFc q h9) hFc (fun _ H1 locs hP1 hD1 hz1 hk1 hS => ?_)
          have hP : va_P D vwCl (fb_wX0 cI h0 qf qn qw ql sz mi fg nt_27 wt wl) H1 := hP1
          have hD : va_D A (fb_wX0 cI h0 qf qn qw ql sz mi fg nt_27 wt wl) := hD1.weaken (fun _ q _ h9 => hFc q.1 h9)
          generalize H1 = H at hP hS
          refine lv_pop hx hb dX0_would_72 rfl ?_
          refine lv_iload hx hb dX0_would_73 (lv_at hl 0 rfl) ?_
          have h := Option.some.inj h
          subst h
          refine W.widen (k := 1) (n := 6) (by first | decide | omega) (by first | decide | omega) ?_
          refine vx_ret ?_
          exact W.iret hx hb hr (fun t ht _ => ⟨_, rfl, ⟨rfl, by rw [ht]; exact hP, hD⟩, hS.F ht⟩) hS.2.2 dX0_would_75
        · replace h := fb_it c19 h
          have h := Option.some.inj h
          subst h
          obtain ⟨sa, hstr⟩ := fb_str73 hZT
          exact vx_throwS (names := ["java/lang/RuntimeException", "java/lang/Exception"]) (ik := 34) (is := 73) (ic := 38) hx hb hfl hown (by decide +kernel) (by decide +kernel) (hts _ w_c34) (hts _ w_iIllegalArgumentException) hstr
            (vx_hat (fun w9 h9 => hts w9 (List.mem_cons_of_mem _ (List.mem_append_right _ (h9)))) (B := fb_bad "java/lang/IllegalArgumentException") (by decide +kernel) (fb_badok_IllegalArgumentException hZT)) (by decide +kernel)
            ((fb_u1 hZT).narrow hAB) ((fb_u2 hZT).narrow hAB) hS (by rw [hml]; exact hl.1) dX0_would_38 dX0_would_41 dX0_would_42 dX0_would_44 dX0_would_47 (fun x9 h9 => (htab x9 h9).elim)
            (Nat.le_of_ble_eq_true rfl) (Nat.le_of_ble_eq_true rfl) (Nat.le_of_ble_eq_true rfl) (Nat.le_of_ble_eq_true rfl) hlocks (fun t _ hz hk => fb_xend (x := (_, nt)) rfl rfl hP hD hS t hz hk) hS.2.2 (Nat.le_of_ble_eq_true rfl) (Nat.le_of_ble_eq_true rfl)
    · replace h := fb_it c6 h
      have h := Option.some.inj h
      subst h
      obtain ⟨sa, hstr⟩ := fb_str71 hZT
      exact vx_throwS (names := ["java/lang/RuntimeException", "java/lang/Exception"]) (ik := 59) (is := 71) (ic := 63) hx hb hfl hown (by decide +kernel) (by decide +kernel) (hts _ w_c59) (hts _ w_iIndexOutOfBoundsException) hstr
        (vx_hat (fun w9 h9 => hts w9 (List.mem_cons_of_mem _ (List.mem_append_left _ (List.mem_append_right _ (h9))))) (B := fb_bad "java/lang/IndexOutOfBoundsException") (by decide +kernel) (fb_badok_IndexOutOfBoundsException hZT)) (by decide +kernel)
        ((fb_u1 hZT).narrow hAB) ((fb_u2 hZT).narrow hAB) hS (by rw [hml]; exact hl.1) dX0_would_15 dX0_would_18 dX0_would_19 dX0_would_21 dX0_would_24 (fun x9 h9 => (htab x9 h9).elim)
        (Nat.le_of_ble_eq_true rfl) (Nat.le_of_ble_eq_true rfl) (Nat.le_of_ble_eq_true rfl) (Nat.le_of_ble_eq_true rfl) hlocks (fun t _ hz hk => fb_xend (x := (_, nt)) rfl rfl hP hD hS t hz hk) hS.2.2 (Nat.le_of_ble_eq_true rfl) (Nat.le_of_ble_eq_true rfl)
abbrev rmX0_best : Room := { frames := 6, cells := 1, slots := 6, locals := 147 }
set_option maxHeartbeats 8000000 in
set_option maxRecDepth 100000 in
theorem metX0_best (l : Launch) (hfl : l.stackTraces = false) (D : va_G) (cI : ClassId) (h0 qf qn qw ql B0 : Nat) (sz : Int32) (mi : Int32) (fg : Nat → Int32) (nt : Nat → Int32) (wt : Nat → Int32) (wl : Nat → Int32) (a1 : Int32) (hz : Nat) (ro : Except (String × (Nat → Int32) × (Nat → Int32)) (Int32 × (Nat → Int32) × (Nat → Int32))) (h : fX0_best sz mi fg nt wt wl a1 = some ro) : vx_Met l yX0_best wsX0_best rmX0_best (va_Pc [.ref h0, .int a1] (fb_pm D [(cI, .int)] B0 fb_sXT (fb_wX0 cI h0 qf qn qw ql sz mi fg nt wt wl) hz)) (fb_qT ro (fun v : Int32 × (Nat → Int32) × (Nat → Int32) => some (.int v.1)) (fun v : Int32 × (Nat → Int32) × (Nat → Int32) => fb_wX0 cI h0 qf qn qw ql sz mi fg v.2.1 wt v.2.2) D (va_A (fb_wX0 cI h0 qf qn qw ql sz mi fg nt wt wl) hz)) (fb_xT ro (fun x : String × (Nat → Int32) × (Nat → Int32) => fb_wX0 cI h0 qf qn qw ql sz mi fg x.2.1 wt x.2.2) D (va_A (fb_wX0 cI h0 qf qn qw ql sz mi fg nt wt wl) hz)) 1 6 (va_A (fb_wX0 cI h0 qf qn qw ql sz mi fg nt wt wl) hz) := by
  refine vx_ofW (cc := cX0_best) (maxL := 2) (ret := (some .int)) (by decide) rfl ?_
  intro p e s m args below meth c s₁ B hml htab hv
  obtain ⟨rfl, hsz, ⟨hP, hK, hZ⟩, hD0, hAB⟩ := hv
  have hx := B.exec
  have hb := B.bytes
  have hr := B.returns
  have hts := atoms_spec (ws := wsX0_best) B.pre
  have hown : s.vm.findClass RX0 = some m.cls := findClass_of_methodNamed B.named
  have hlocks := B.notSynchronized
  subst hsz
  have hD := hD0.self (sz := s.heap.size)
  generalize hAe : va_A (fb_wX0 cI h0 qf qn qw ql sz mi fg nt wt wl) s.heap.size = A at hD hAB ⊢
  have hA : ∀ q : Nat, s.heap.size ≤ q → A q := fun q h9 => by rw [← hAe]; exact Or.inr h9
  have hS : va_S A s.heap s.heap [] := va_S.rf
  have hP : va_P D vwCl (fb_wX0 cI h0 qf qn qw ql sz mi fg nt wt wl) s.heap := hP
  have hZT := hZ
  replace hZ := hZT.1
  have hin0 : ∀ w ∈ u_ws RX0 TX0 6, w ∈ wsX0_best := fun _ h9 => List.mem_cons_of_mem _ (List.mem_append_left _ (List.mem_append_right _ (h9)))
  have w_c59 : (Cond.classLink RX0 59 "java/lang/IndexOutOfBoundsException") ∈ wsX0_best := List.mem_of_getElem? (i := 1) rfl
  have w_iIndexOutOfBoundsException : (Cond.initialized "java/lang/IndexOutOfBoundsException") ∈ wsX0_best := List.mem_of_getElem? (i := 2) rfl
  have hl := lv_entry ([.ref h0, .int a1]) (n := 2) (Nat.le_of_ble_eq_true rfl)
  rw [lg_entry_eq]
  generalize (lg_sl ([.ref h0, .int a1]) ++ List.replicate (2 - (lg_sl ([.ref h0, .int a1])).length) Slot.unset).toArray = ls at hl ⊢
  have hl : lv_has ls 2 [(0, .ref h0), (1, .int a1)] := hl
  suffices K : ∀ (H : Heap) (locs : List Loc), va_P D vwCl (fb_wX0 cI h0 qf qn qw ql sz mi fg nt wt wl) H → va_S A s.heap H locs → W p l e (headSpec wsX0_best rmX0_best).room s m ([.ref h0, .int a1] : List Value).toArray below meth c H locs 0 0 (vx_MQ below (fb_qT ro (fun v : Int32 × (Nat → Int32) × (Nat → Int32) => some (.int v.1)) (fun v : Int32 × (Nat → Int32) × (Nat → Int32) => fb_wX0 cI h0 qf qn qw ql sz mi fg v.2.1 wt v.2.2) D A) (fb_xT ro (fun x : String × (Nat → Int32) × (Nat → Int32) => fb_wX0 cI h0 qf qn qw ql sz mi fg x.2.1 wt x.2.2) D A) ([.ref h0, .int a1] : List Value).toArray s 1 6 A) (F0 m 0 ls []) from K s.heap [] hP hS
  intro H locs hP hS
  unfold fX0_best at h
  refine lv_aload_n hx hb dX0_best_0 rfl (lv_at hl 0 rfl) ?_
  refine lv_iload_n hx hb dX0_best_1 rfl (lv_at hl 1 rfl) ?_
  obtain ⟨r2, h1, h⟩ := fb_b1s h
  refine fb_callR (W.runV (As := [.int a1]) (rest := []) ⟨hx, hb, hml, hown, hts⟩ (metX0_isChord l D cI h0 qf qn qw ql B0 sz mi fg nt wt wl a1 r2 h1) (cwV 1 hts gX0_best_X0_isChord rfl rfl rfl (by decide +kernel) ⟨Nat.le_of_ble_eq_true rfl, Nat.le_of_ble_eq_true rfl⟩) (fb_preVR (ci := 0) fb_sX0p hP hK hZ hS hAB rfl rfl _) rfl rfl hl.1 rfl (lv_room (Nat.le_of_ble_eq_true rfl)) dX0_best_2 ⟨Nat.le_of_ble_eq_true rfl, Nat.le_of_ble_eq_true rfl⟩) ?_
  refine lv_if_ne (tgt := 18) hx hb dX0_best_5 (by decide) (fun c3 => ?_) (fun c3 => ?_)
  · replace h := fb_ie c3 h
    refine lv_aload_n hx hb dX0_best_18 rfl (lv_at hl 0 rfl) ?_
    refine lv_iload_n hx hb dX0_best_19 rfl (lv_at hl 1 rfl) ?_
    obtain ⟨r5, nt_6, wl_7, h4, h⟩ := fb_b3s h
    have hPc : va_P D vwCl (fb_wX0 cI h0 qf qn qw ql sz mi fg nt wt wl) H := hP.sub [0, 1, 2, 3, 4] rfl
    have hDc : va_D A (fb_wX0 cI h0 qf qn qw ql sz mi fg nt wt wl) := hD.sub [0, 1, 2, 3, 4] (by decide) rfl
    have hFc := va_free (wc := fb_wX0 cI h0 qf qn qw ql sz mi fg nt wt wl) hD hS hA [0, 1, 2, 3, 4] rfl
    refine fb_callM (va_runV (As := [.int a1]) (rest := []) ⟨hx, hb, hml, hown, hts⟩ (metX0_bestWay l D cI h0 qf qn qw ql B0 sz mi fg nt wt wl a1 H.size r5 nt_6 wl_7 h4) (cwV 1 hts gX0_best_X0_bestWay rfl rfl rfl (by decide +kernel) ⟨Nat.le_of_ble_eq_true rfl, Nat.le_of_ble_eq_true rfl⟩) (fb_preVM (ci := 0) fb_sX0p hPc hK hDc hZ hS hAB hA rfl rfl _) rfl rfl hl.1 rfl (lv_room (Nat.le_of_ble_eq_true rfl)) dX0_best_20 ⟨Nat.le_of_ble_eq_true rfl, Nat.le_of_ble_eq_true rfl⟩) hS (fun q _ h9 => hFc q h9) hFc (fun _ H1 locs hP1 hD1 hz1 hk1 hS => ?_)
    have hP : va_P D vwCl (fb_wX0 cI h0 qf qn qw ql sz mi fg nt_6 wt wl_7) H1 := hP1
    have hD : va_D A (fb_wX0 cI h0 qf qn qw ql sz mi fg nt_6 wt wl_7) := hD1.weaken (fun _ q _ h9 => hFc q.1 h9)
    generalize H1 = H at hP hS
    have h := Option.some.inj h
    subst h
    refine W.widen (k := 1) (n := 6) (by first | decide | omega) (by first | decide | omega) ?_
    refine vx_ret ?_
    exact W.iret hx hb hr (fun t ht _ => ⟨_, rfl, ⟨rfl, by rw [ht]; exact hP, hD⟩, hS.F ht⟩) hS.2.2 dX0_best_23
  · replace h := fb_it c3 h
    have h := Option.some.inj h
    subst h
    obtain ⟨sa, hstr⟩ := fb_str61 hZT
    exact vx_throwS (names := ["java/lang/RuntimeException", "java/lang/Exception"]) (ik := 59) (is := 61) (ic := 63) hx hb hfl hown (by decide +kernel) (by decide +kernel) (hts _ w_c59) (hts _ w_iIndexOutOfBoundsException) hstr
      (vx_hat (fun w9 h9 => hts w9 (List.mem_cons_of_mem _ (List.mem_append_right _ (h9)))) (B := fb_bad "java/lang/IndexOutOfBoundsException") (by decide +kernel) (fb_badok_IndexOutOfBoundsException hZT)) (by decide +kernel)
      ((fb_u1 hZT).narrow hAB) ((fb_u2 hZT).narrow hAB) hS (by rw [hml]; exact hl.1) dX0_best_8 dX0_best_11 dX0_best_12 dX0_best_14 dX0_best_17 (fun x9 h9 => (htab x9 h9).elim)
      (Nat.le_of_ble_eq_true rfl) (Nat.le_of_ble_eq_true rfl) (Nat.le_of_ble_eq_true rfl) (Nat.le_of_ble_eq_true rfl) hlocks (fun t _ hz hk => fb_xend (x := (_, (nt, wl))) rfl rfl hP hD hS t hz hk) hS.2.2 (Nat.le_of_ble_eq_true rfl) (Nat.le_of_ble_eq_true rfl)
abbrev rmX0_advise : Room := { frames := 6, cells := 1, slots := 6, locals := 147 }
set_option maxHeartbeats 8000000 in
set_option maxRecDepth 100000 in
theorem metX0_advise (l : Launch) (hfl : l.stackTraces = false) (D : va_G) (cI : ClassId) (h0 qf qn qw ql B0 : Nat) (sz : Int32) (mi : Int32) (fg : Nat → Int32) (nt : Nat → Int32) (wt : Nat → Int32) (wl : Nat → Int32) (a1 : Int32) (hz : Nat) (ro : Except (String × (Nat → Int32) × (Nat → Int32) × (Nat → Int32)) (Int32 × (Nat → Int32) × (Nat → Int32) × (Nat → Int32))) (h : fX0_advise sz mi fg nt wt wl a1 = some ro) : vx_Met l yX0_advise wsX0_advise rmX0_advise (va_Pc [.ref h0, .int a1] (fb_pm D [(cI, .int)] B0 fb_sXT (fb_wX0 cI h0 qf qn qw ql sz mi fg nt wt wl) hz)) (fb_qT ro (fun v : Int32 × (Nat → Int32) × (Nat → Int32) × (Nat → Int32) => some (.int v.1)) (fun v : Int32 × (Nat → Int32) × (Nat → Int32) × (Nat → Int32) => fb_wX0 cI h0 qf qn qw ql sz mi v.2.1 v.2.2.1 wt v.2.2.2) D (va_A (fb_wX0 cI h0 qf qn qw ql sz mi fg nt wt wl) hz)) (fb_xT ro (fun x : String × (Nat → Int32) × (Nat → Int32) × (Nat → Int32) => fb_wX0 cI h0 qf qn qw ql sz mi x.2.1 x.2.2.1 wt x.2.2.2) D (va_A (fb_wX0 cI h0 qf qn qw ql sz mi fg nt wt wl) hz)) 1 6 (va_A (fb_wX0 cI h0 qf qn qw ql sz mi fg nt wt wl) hz) := by
  refine vx_ofW (cc := cX0_advise) (maxL := 11) (ret := (some .int)) (by decide) rfl ?_
  intro p e s m args below meth c s₁ B hml htab hv
  obtain ⟨rfl, hsz, ⟨hP, hK, hZ⟩, hD0, hAB⟩ := hv
  have hx := B.exec
  have hb := B.bytes
  have hr := B.returns
  have hts := atoms_spec (ws := wsX0_advise) B.pre
  have hown : s.vm.findClass RX0 = some m.cls := findClass_of_methodNamed B.named
  have hlocks := B.notSynchronized
  subst hsz
  have hD := hD0.self (sz := s.heap.size)
  generalize hAe : va_A (fb_wX0 cI h0 qf qn qw ql sz mi fg nt wt wl) s.heap.size = A at hD hAB ⊢
  have hA : ∀ q : Nat, s.heap.size ≤ q → A q := fun q h9 => by rw [← hAe]; exact Or.inr h9
  have hS : va_S A s.heap s.heap [] := va_S.rf
  have hP : va_P D vwCl (fb_wX0 cI h0 qf qn qw ql sz mi fg nt wt wl) s.heap := hP
  have hZT := hZ
  replace hZ := hZT.1
  obtain ⟨t_FIGURE_STEPS, hz_FIGURE_STEPS, ht_FIGURE_STEPS⟩ := fb_stA_narrow hZ.2.2.1 hAB
  have hin0 : ∀ w ∈ u_ws RX0 TX0 6, w ∈ wsX0_advise := fun _ h9 => List.mem_cons_of_mem _ (List.mem_append_left _ (List.mem_append_right _ (h9)))
  have w_c59 : (Cond.classLink RX0 59 "java/lang/IndexOutOfBoundsException") ∈ wsX0_advise := List.mem_of_getElem? (i := 1) rfl
  have w_f132 : (Cond.fieldLink RX0 132 "FiguredBass" "FIGURE_STEPS" "[I") ∈ wsX0_advise := List.mem_of_getElem? (i := 4) rfl
  have w_f17 : (Cond.fieldLink RX0 17 "FiguredBass" "figures" "[I") ∈ wsX0_advise := List.mem_of_getElem? (i := 3) rfl
  have w_iIndexOutOfBoundsException : (Cond.initialized "java/lang/IndexOutOfBoundsException") ∈ wsX0_advise := List.mem_of_getElem? (i := 2) rfl
  have hl := lv_entry ([.ref h0, .int a1]) (n := 11) (Nat.le_of_ble_eq_true rfl)
  rw [lg_entry_eq]
  generalize (lg_sl ([.ref h0, .int a1]) ++ List.replicate (11 - (lg_sl ([.ref h0, .int a1])).length) Slot.unset).toArray = ls at hl ⊢
  have hl : lv_has ls 11 [(0, .ref h0), (1, .int a1)] := hl
  suffices K : ∀ (H : Heap) (locs : List Loc), va_P D vwCl (fb_wX0 cI h0 qf qn qw ql sz mi fg nt wt wl) H → va_S A s.heap H locs → W p l e (headSpec wsX0_advise rmX0_advise).room s m ([.ref h0, .int a1] : List Value).toArray below meth c H locs 0 0 (vx_MQ below (fb_qT ro (fun v : Int32 × (Nat → Int32) × (Nat → Int32) × (Nat → Int32) => some (.int v.1)) (fun v : Int32 × (Nat → Int32) × (Nat → Int32) × (Nat → Int32) => fb_wX0 cI h0 qf qn qw ql sz mi v.2.1 v.2.2.1 wt v.2.2.2) D A) (fb_xT ro (fun x : String × (Nat → Int32) × (Nat → Int32) × (Nat → Int32) => fb_wX0 cI h0 qf qn qw ql sz mi x.2.1 x.2.2.1 wt x.2.2.2) D A) ([.ref h0, .int a1] : List Value).toArray s 1 6 A) (F0 m 0 ls []) from K s.heap [] hP hS
  intro H locs hP hS
  unfold fX0_advise at h
  refine lv_aload_n hx hb dX0_advise_0 rfl (lv_at hl 0 rfl) ?_
  refine lv_iload_n hx hb dX0_advise_1 rfl (lv_at hl 1 rfl) ?_
  obtain ⟨r2, h1, h⟩ := fb_b1s h
  refine fb_callR (W.runV (As := [.int a1]) (rest := []) ⟨hx, hb, hml, hown, hts⟩ (metX0_isChord l D cI h0 qf qn qw ql B0 sz mi fg nt wt wl a1 r2 h1) (cwV 1 hts gX0_advise_X0_isChord rfl rfl rfl (by decide +kernel) ⟨Nat.le_of_ble_eq_true rfl, Nat.le_of_ble_eq_true rfl⟩) (fb_preVR (ci := 0) fb_sX0p hP hK hZ hS hAB rfl rfl _) rfl rfl hl.1 rfl (lv_room (Nat.le_of_ble_eq_true rfl)) dX0_advise_2 ⟨Nat.le_of_ble_eq_true rfl, Nat.le_of_ble_eq_true rfl⟩) ?_
  refine lv_if_ne (tgt := 18) hx hb dX0_advise_5 (by decide) (fun c3 => ?_) (fun c3 => ?_)
  · replace h := fb_ie c3 h
    refine lv_aload_n hx hb dX0_advise_18 rfl (lv_at hl 0 rfl) ?_
    refine va_get (D := D) (ci := 0) (v := .ref qf) (C := RX0) (T := TX0) (N := 6) hx hb hts hin0 hown hK hP 0 rfl rfl 2 (by decide) (hts _ w_f17) (fun _ h9 => h9) rfl dX0_advise_19 ?_
    refine lv_iload_n hx hb dX0_advise_22 rfl (lv_at hl 1 rfl) ?_
    obtain ⟨hi4, h⟩ := fb_cks h
    refine va_iald hx hb hK hP 1 0 rfl rfl (fb_ixin hi4) dX0_advise_23 ?_
    refine lv_istore_n (lv' := [(2, .int (fg a1.toNatClampNeg)), (0, .ref h0), (1, .int a1)]) hx hb dX0_advise_24 rfl hl (by decide) rfl (fun ls hl => ?_)
    refine lv_aload_n hx hb dX0_advise_25 rfl (lv_at hl 1 rfl) ?_
    refine lv_iload_n hx hb dX0_advise_26 rfl (lv_at hl 2 rfl) ?_
    refine lv_iconst (v := 1) hx hb dX0_advise_27 (by decide) ?_
    obtain ⟨r6, h5, h⟩ := fb_b1s h
    refine fb_callR (W.runV (As := [.int a1, .int 1]) (rest := []) ⟨hx, hb, hml, hown, hts⟩ (metX0_noteAt l D cI h0 qf qn qw ql B0 sz mi fg nt wt wl a1 1 r6 h5) (cwV 2 hts gX0_advise_X0_noteAt rfl rfl rfl (by decide +kernel) ⟨Nat.le_of_ble_eq_true rfl, Nat.le_of_ble_eq_true rfl⟩) (fb_preVR (ci := 0) fb_sX0p hP hK hZ hS hAB rfl rfl _) rfl rfl hl.1 rfl (lv_room (Nat.le_of_ble_eq_true rfl)) dX0_advise_28 ⟨Nat.le_of_ble_eq_true rfl, Nat.le_of_ble_eq_true rfl⟩) ?_
    refine lv_istore_n (lv' := [(3, .int r6), (2, .int (fg a1.toNatClampNeg)), (0, .ref h0), (1, .int a1)]) hx hb dX0_advise_31 rfl hl (by decide) rfl (fun ls hl => ?_)
    refine lv_aload_n hx hb dX0_advise_32 rfl (lv_at hl 2 rfl) ?_
    refine lv_iload_n hx hb dX0_advise_33 rfl (lv_at hl 3 rfl) ?_
    refine lv_iconst (v := 2) hx hb dX0_advise_34 (by decide) ?_
    obtain ⟨r8, h7, h⟩ := fb_b1s h
    refine fb_callR (W.runV (As := [.int a1, .int 2]) (rest := []) ⟨hx, hb, hml, hown, hts⟩ (metX0_noteAt l D cI h0 qf qn qw ql B0 sz mi fg nt wt wl a1 2 r8 h7) (cwV 2 hts gX0_advise_X0_noteAt rfl rfl rfl (by decide +kernel) ⟨Nat.le_of_ble_eq_true rfl, Nat.le_of_ble_eq_true rfl⟩) (fb_preVR (ci := 0) fb_sX0p hP hK hZ hS hAB rfl rfl _) rfl rfl hl.1 rfl (lv_room (Nat.le_of_ble_eq_true rfl)) dX0_advise_35 ⟨Nat.le_of_ble_eq_true rfl, Nat.le_of_ble_eq_true rfl⟩) ?_
    refine lv_istore (lv' := [(4, .int r8), (3, .int r6), (2, .int (fg a1.toNatClampNeg)), (0, .ref h0), (1, .int a1)]) hx hb dX0_advise_38 hl (by decide) rfl (fun ls hl => ?_)
    refine lv_aload_n hx hb dX0_advise_40 rfl (lv_at hl 3 rfl) ?_
    refine lv_iload_n hx hb dX0_advise_41 rfl (lv_at hl 4 rfl) ?_
    refine lv_iconst (v := 3) hx hb dX0_advise_42 (by decide) ?_
    obtain ⟨r10, h9, h⟩ := fb_b1s h
    refine fb_callR (W.runV (As := [.int a1, .int 3]) (rest := []) ⟨hx, hb, hml, hown, hts⟩ (metX0_noteAt l D cI h0 qf qn qw ql B0 sz mi fg nt wt wl a1 3 r10 h9) (cwV 2 hts gX0_advise_X0_noteAt rfl rfl rfl (by decide +kernel) ⟨Nat.le_of_ble_eq_true rfl, Nat.le_of_ble_eq_true rfl⟩) (fb_preVR (ci := 0) fb_sX0p hP hK hZ hS hAB rfl rfl _) rfl rfl hl.1 rfl (lv_room (Nat.le_of_ble_eq_true rfl)) dX0_advise_43 ⟨Nat.le_of_ble_eq_true rfl, Nat.le_of_ble_eq_true rfl⟩) ?_
    refine lv_istore (lv' := [(5, .int r10), (4, .int r8), (3, .int r6), (2, .int (fg a1.toNatClampNeg)), (0, .ref h0), (1, .int a1)]) hx hb dX0_advise_46 hl (by decide) rfl (fun ls hl => ?_)
    refine lv_iconst (v := (-1)) hx hb dX0_advise_48 (by decide) ?_
    refine lv_istore (lv' := [(6, .int (-1)), (5, .int r10), (4, .int r8), (3, .int r6), (2, .int (fg a1.toNatClampNeg)), (0, .ref h0), (1, .int a1)]) hx hb dX0_advise_49 hl (by decide) rfl (fun ls hl => ?_)
    refine lv_iconst (v := 0) hx hb dX0_advise_51 (by decide) ?_
    refine lv_istore (lv' := [(7, .int 0), (6, .int (-1)), (5, .int r10), (4, .int r8), (3, .int r6), (2, .int (fg a1.toNatClampNeg)), (0, .ref h0), (1, .int a1)]) hx hb dX0_advise_52 hl (by decide) rfl (fun ls hl => ?_)
    refine lv_iconst (v := 0) hx hb dX0_advise_54 (by decide) ?_
    refine lv_istore (lv' := [(8, .int 0), (7, .int 0), (6, .int (-1)), (5, .int r10), (4, .int r8), (3, .int r6), (2, .int (fg a1.toNatClampNeg)), (0, .ref h0), (1, .int a1)]) hx hb dX0_advise_55 hl (by decide) rfl (fun ls hl => ?_)
    have LX0_advise_57 : ∀ (n : Nat) (v11 : Int32) (v12 : Int32) (v13 : Int32) (fg_14 : Nat → Int32) (nt_15 : Nat → Int32) (wl_16 : Nat → Int32) (o34 : Int32) (o35 : Int32) (o36 : Int32) (o37 : Nat → Int32) (o38 : Nat → Int32) (o39 : Nat → Int32), lpX0_advise_57 a1 sz mi wt n v11 v12 v13 fg_14 nt_15 wl_16 = some (o34, o35, o36, o37, o38, o39) → ∀ (H : Heap) (locs : List Loc), va_P D vwCl (fb_wX0 cI h0 qf qn qw ql sz mi fg_14 nt_15 wt wl_16) H → va_D A (fb_wX0 cI h0 qf qn qw ql sz mi fg_14 nt_15 wt wl_16) → va_S A s.heap H locs → ∀ (ls : Array Slot), lv_has ls 11 [(8, .int v11), (7, .int v12), (6, .int v13), (5, .int r10), (4, .int r8), (3, .int r6), (2, .int (fg a1.toNatClampNeg)), (0, .ref h0), (1, .int a1)] → (∀ (H : Heap) (locs : List Loc), va_P D vwCl (fb_wX0 cI h0 qf qn qw ql sz mi o37 o38 wt o39) H → va_D A (fb_wX0 cI h0 qf qn qw ql sz mi o37 o38 wt o39) → va_S A s.heap H locs → ∀ (ls : Array Slot), lv_has ls 11 [(8, .int o34), (7, .int o35), (6, .int o36), (5, .int r10), (4, .int r8), (3, .int r6), (2, .int (fg a1.toNatClampNeg)), (0, .ref h0), (1, .int a1)] → W p l e (headSpec wsX0_advise rmX0_advise).room s m ([.ref h0, .int a1] : List Value).toArray below meth c H locs 0 0 (vx_MQ below (fb_qT ro (fun v : Int32 × (Nat → Int32) × (Nat → Int32) × (Nat → Int32) => some (.int v.1)) (fun v : Int32 × (Nat → Int32) × (Nat → Int32) × (Nat → Int32) => fb_wX0 cI h0 qf qn qw ql sz mi v.2.1 v.2.2.1 wt v.2.2.2) D A) (fb_xT ro (fun x : String × (Nat → Int32) × (Nat → Int32) × (Nat → Int32) => fb_wX0 cI h0 qf qn qw ql sz mi x.2.1 x.2.2.1 wt x.2.2.2) D A) ([.ref h0, .int a1] : List Value).toArray s 1 6 A) (F0 m 134 ls [])) → W p l e (headSpec wsX0_advise rmX0_advise).room s m ([.ref h0, .int a1] : List Value).toArray below meth c H locs 0 0 (vx_MQ below (fb_qT ro (fun v : Int32 × (Nat → Int32) × (Nat → Int32) × (Nat → Int32) => some (.int v.1)) (fun v : Int32 × (Nat → Int32) × (Nat → Int32) × (Nat → Int32) => fb_wX0 cI h0 qf qn qw ql sz mi v.2.1 v.2.2.1 wt v.2.2.2) D A) (fb_xT ro (fun x : String × (Nat → Int32) × (Nat → Int32) × (Nat → Int32) => fb_wX0 cI h0 qf qn qw ql sz mi x.2.1 x.2.2.1 wt x.2.2.2) D A) ([.ref h0, .int a1] : List Value).toArray s 1 6 A) (F0 m 57 ls []) := by
      intro n
      induction n with
      | zero =>
        intro v11 v12 v13 fg_14 nt_15 wl_16 o34 o35 o36 o37 o38 o39 h
        rw [lpX0_advise_57.eq_1] at h
        cases h
      | succ n ih =>
        intro v11 v12 v13 fg_14 nt_15 wl_16 o34 o35 o36 o37 o38 o39 h H locs hP hD hS ls hl kx
        rw [lpX0_advise_57.eq_2] at h
        refine lv_iload hx hb dX0_advise_57 (lv_at hl 0 rfl) ?_
        refine va_gets hx hb hz_FIGURE_STEPS hS hown (hts _ w_f132) (fun _ h9 => h9) dX0_advise_59 ?_
        refine va_tlen hx hb ht_FIGURE_STEPS hS (v := 6) (by decide) dX0_advise_62 ?_
        refine lv_icmp_ge (tgt := 134) hx hb dX0_advise_63 (by decide) (fun c17 => ?_) (fun c17 => ?_)
        · replace h := fb_it c17 h
          obtain ⟨e1, e2, e3, e4, e5, e6⟩ := fb_p6 h
          subst e1
          subst e2
          subst e3
          subst e4
          subst e5
          subst e6
          exact kx H locs hP hD hS ls (lv_sub hl [0, 1, 2, 3, 4, 5, 6, 7, 8] rfl)
        · replace h := fb_ie c17 h
          refine lv_aload_n hx hb dX0_advise_66 rfl (lv_at hl 7 rfl) ?_
          refine va_get (D := D) (ci := 0) (v := .ref qf) (C := RX0) (T := TX0) (N := 6) hx hb hts hin0 hown hK hP 0 rfl rfl 2 (by decide) (hts _ w_f17) (fun _ h9 => h9) rfl dX0_advise_67 ?_
          refine lv_iload_n hx hb dX0_advise_70 rfl (lv_at hl 8 rfl) ?_
          refine lv_iload hx hb dX0_advise_71 (lv_at hl 0 rfl) ?_
          refine va_iast hx hb hK hP hD hS 1 0 rfl rfl (fb_ixin hi4) dX0_advise_73 (fun H locs hP hD hS => ?_)
          have hP : va_P D vwCl (fb_wX0 cI h0 qf qn qw ql sz mi (upd fg_14 a1.toNatClampNeg v11) nt_15 wt wl_16) H := hP
          have hD : va_D A (fb_wX0 cI h0 qf qn qw ql sz mi (upd fg_14 a1.toNatClampNeg v11) nt_15 wt wl_16) := hD
          refine lv_aload_n hx hb dX0_advise_74 rfl (lv_at hl 7 rfl) ?_
          refine lv_iload_n hx hb dX0_advise_75 rfl (lv_at hl 8 rfl) ?_
          obtain ⟨r19, nt_20, wl_21, h18, h⟩ := fb_b3s h
          have hPc : va_P D vwCl (fb_wX0 cI h0 qf qn qw ql sz mi (upd fg_14 a1.toNatClampNeg v11) nt_15 wt wl_16) H := hP.sub [0, 1, 2, 3, 4] rfl
          have hDc : va_D A (fb_wX0 cI h0 qf qn qw ql sz mi (upd fg_14 a1.toNatClampNeg v11) nt_15 wt wl_16) := hD.sub [0, 1, 2, 3, 4] (by decide) rfl
          have hFc := va_free (wc := fb_wX0 cI h0 qf qn qw ql sz mi (upd fg_14 a1.toNatClampNeg v11) nt_15 wt wl_16) hD hS hA [0, 1, 2, 3, 4] rfl
          refine fb_callM (va_runV (As := [.int a1]) (rest := []) ⟨hx, hb, hml, hown, hts⟩ (metX0_bestWay l D cI h0 qf qn qw ql B0 sz mi (upd fg_14 a1.toNatClampNeg v11) nt_15 wt wl_16 a1 H.size r19 nt_20 wl_21 h18) (cwV 1 hts gX0_advise_X0_bestWay rfl rfl rfl (by decide +kernel) ⟨Nat.le_of_ble_eq_true rfl, Nat.le_of_ble_eq_true rfl⟩) (fb_preVM (ci := 0) fb_sX0p hPc hK hDc hZ hS hAB hA rfl rfl _) rfl rfl hl.1 rfl (lv_room (Nat.le_of_ble_eq_true rfl)) dX0_advise_76 ⟨Nat.le_of_ble_eq_true rfl, Nat.le_of_ble_eq_true rfl⟩) hS (fun q _ h9 => hFc q h9) hFc (fun _ H1 locs hP1 hD1 hz1 hk1 hS => ?_)
          have hP : va_P D vwCl (fb_wX0 cI h0 qf qn qw ql sz mi (upd fg_14 a1.toNatClampNeg v11) nt_20 wt wl_21) H1 := hP1
          have hD : va_D A (fb_wX0 cI h0 qf qn qw ql sz mi (upd fg_14 a1.toNatClampNeg v11) nt_20 wt wl_21) := hD1.weaken (fun _ q _ h9 => hFc q.1 h9)
          generalize H1 = H at hP hS
          refine lv_istore (lv' := [(9, .int r19), (8, .int v11), (7, .int v12), (6, .int v13), (5, .int r10), (4, .int r8), (3, .int r6), (2, .int (fg a1.toNatClampNeg)), (0, .ref h0), (1, .int a1)]) hx hb dX0_advise_79 hl (by decide) rfl (fun ls hl => ?_)
          refine lv_iload hx hb dX0_advise_81 (lv_at hl 0 rfl) ?_
          obtain ⟨j31, j32, nt_33, hjJ1, h⟩ := fb_b3s h
          have J1 : ∀ (H : Heap) (locs : List Loc), va_P D vwCl (fb_wX0 cI h0 qf qn qw ql sz mi (upd fg_14 a1.toNatClampNeg v11) nt_33 wt wl_21) H → va_D A (fb_wX0 cI h0 qf qn qw ql sz mi (upd fg_14 a1.toNatClampNeg v11) nt_33 wt wl_21) → va_S A s.heap H locs → ∀ (ls : Array Slot), lv_has ls 11 [(8, .int v11), (7, .int j31), (6, .int j32), (5, .int r10), (4, .int r8), (3, .int r6), (2, .int (fg a1.toNatClampNeg)), (0, .ref h0), (1, .int a1)] → W p l e (headSpec wsX0_advise rmX0_advise).room s m ([.ref h0, .int a1] : List Value).toArray below meth c H locs 0 0 (vx_MQ below (fb_qT ro (fun v : Int32 × (Nat → Int32) × (Nat → Int32) × (Nat → Int32) => some (.int v.1)) (fun v : Int32 × (Nat → Int32) × (Nat → Int32) × (Nat → Int32) => fb_wX0 cI h0 qf qn qw ql sz mi v.2.1 v.2.2.1 wt v.2.2.2) D A) (fb_xT ro (fun x : String × (Nat → Int32) × (Nat → Int32) × (Nat → Int32) => fb_wX0 cI h0 qf qn qw ql sz mi x.2.1 x.2.2.1 wt x.2.2.2) D A) ([.ref h0, .int a1] : List Value).toArray s 1 6 A) (F0 m 128 ls []) := by
            intro H locs hP hD hS ls hl
            refine lv_iinc (v := v11 + 1) (lv' := [(8, .int (v11 + 1)), (7, .int j31), (6, .int j32), (5, .int r10), (4, .int r8), (3, .int r6), (2, .int (fg a1.toNatClampNeg)), (0, .ref h0), (1, .int a1)]) hx hb dX0_advise_128 hl (k := 0) rfl rfl (by decide) rfl (fun ls hl => ?_)
            refine lv_goto (tgt := 57) hx hb dX0_advise_131 (by decide) ?_
            exact ih _ _ _ _ _ _ o34 o35 o36 o37 o38 o39 h H locs hP hD hS ls (lv_sub hl [0, 1, 2, 3, 4, 5, 6, 7, 8] rfl) kx
          replace h := hjJ1
          refine lv_if_lt (tgt := 128) hx hb dX0_advise_83 (by decide) (fun c22 => ?_) (fun c22 => ?_)
          · replace h := fb_it c22 h
            obtain ⟨e1, e2, e3⟩ := fb_p3 h
            subst e1
            subst e2
            subst e3
            exact J1 H locs hP hD hS ls (lv_sub hl [1, 2, 3, 4, 5, 6, 7, 8, 9] rfl)
          · replace h := fb_ie c22 h
            refine lv_aload_n hx hb dX0_advise_86 rfl (lv_at hl 8 rfl) ?_
            refine lv_iload_n hx hb dX0_advise_87 rfl (lv_at hl 9 rfl) ?_
            refine lv_iload hx hb dX0_advise_88 (lv_at hl 0 rfl) ?_
            obtain ⟨nt_24, h23, h⟩ := fb_b1s h
            have hPc : va_P D vwCl (fb_wX0 cI h0 qf qn qw ql sz mi (upd fg_14 a1.toNatClampNeg v11) nt_20 wt wl_21) H := hP.sub [0, 1, 2, 3, 4] rfl
            have hDc : va_D A (fb_wX0 cI h0 qf qn qw ql sz mi (upd fg_14 a1.toNatClampNeg v11) nt_20 wt wl_21) := hD.sub [0, 1, 2, 3, 4] (by decide) rfl
            have hFc := va_free (wc := fb_wX0 cI h0 qf qn qw ql sz mi (upd fg_14 a1.toNatClampNeg v11) nt_20 wt wl_21) hD hS hA [0, 1, 2, 3, 4] rfl
            refine fb_callM (va_runV (As := [.int a1, .int r19]) (rest := []) ⟨hx, hb, hml, hown, hts⟩ (metX0_putWay l D cI h0 qf qn qw ql B0 sz mi (upd fg_14 a1.toNatClampNeg v11) nt_20 wt wl_21 a1 r19 H.size nt_24 h23) (cwV 2 hts gX0_advise_X0_putWay rfl rfl rfl (by decide +kernel) ⟨Nat.le_of_ble_eq_true rfl, Nat.le_of_ble_eq_true rfl⟩) (fb_preVM (ci := 0) fb_sX0p hPc hK hDc hZ hS hAB hA rfl rfl _) rfl rfl hl.1 rfl (lv_room (Nat.le_of_ble_eq_true rfl)) dX0_advise_90 ⟨Nat.le_of_ble_eq_true rfl, Nat.le_of_ble_eq_true rfl⟩) hS (fun q _ h9 => hFc q h9) hFc (fun _ H1 locs hP1 hD1 hz1 hk1 hS => ?_)
            have hP : va_P D vwCl (fb_wX0 cI h0 qf qn qw ql sz mi (upd fg_14 a1.toNatClampNeg v11) nt_24 wt wl_21) H1 := hP1
            have hD : va_D A (fb_wX0 cI h0 qf qn qw ql sz mi (upd fg_14 a1.toNatClampNeg v11) nt_24 wt wl_21) := hD1.weaken (fun _ q _ h9 => hFc q.1 h9)
            generalize H1 = H at hP hS
            refine lv_aload_n hx hb dX0_advise_93 rfl (lv_at hl 8 rfl) ?_
            refine lv_iload_n hx hb dX0_advise_94 rfl (lv_at hl 9 rfl) ?_
            obtain ⟨r26, h25, h⟩ := fb_b1s h
            refine fb_callR (W.runV (As := [.int a1]) (rest := []) ⟨hx, hb, hml, hown, hts⟩ (metX0_costOf l D cI h0 qf qn qw ql B0 sz mi (upd fg_14 a1.toNatClampNeg v11) nt_24 wt wl_21 a1 r26 h25) (cwV 1 hts gX0_advise_X0_costOf rfl rfl rfl (by decide +kernel) ⟨Nat.le_of_ble_eq_true rfl, Nat.le_of_ble_eq_true rfl⟩) (fb_preVR (ci := 0) fb_sX0p hP hK hZ hS hAB rfl rfl _) rfl rfl hl.1 rfl (lv_room (Nat.le_of_ble_eq_true rfl)) dX0_advise_95 ⟨Nat.le_of_ble_eq_true rfl, Nat.le_of_ble_eq_true rfl⟩) ?_
            refine lv_aload_n hx hb dX0_advise_98 rfl (lv_at hl 8 rfl) ?_
            refine lv_iload_n hx hb dX0_advise_99 rfl (lv_at hl 9 rfl) ?_
            refine lv_iconst (v := 1) hx hb dX0_advise_100 (by decide) ?_
            refine lv_iadd hx hb dX0_advise_101 ?_
            obtain ⟨r28, h27, h⟩ := fb_b1s h
            refine fb_callR (W.runV (As := [.int (a1 + 1)]) (rest := [.int r26]) ⟨hx, hb, hml, hown, hts⟩ (metX0_costOf l D cI h0 qf qn qw ql B0 sz mi (upd fg_14 a1.toNatClampNeg v11) nt_24 wt wl_21 (a1 + 1) r28 h27) (cwV 1 hts gX0_advise_X0_costOf rfl rfl rfl (by decide +kernel) ⟨Nat.le_of_ble_eq_true rfl, Nat.le_of_ble_eq_true rfl⟩) (fb_preVR (ci := 0) fb_sX0p hP hK hZ hS hAB rfl rfl _) rfl rfl hl.1 rfl (lv_room (Nat.le_of_ble_eq_true rfl)) dX0_advise_102 ⟨Nat.le_of_ble_eq_true rfl, Nat.le_of_ble_eq_true rfl⟩) ?_
            refine lv_iadd hx hb dX0_advise_105 ?_
            refine lv_istore (lv' := [(10, .int (r26 + r28)), (9, .int r19), (8, .int v11), (7, .int v12), (6, .int v13), (5, .int r10), (4, .int r8), (3, .int r6), (2, .int (fg a1.toNatClampNeg)), (0, .ref h0), (1, .int a1)]) hx hb dX0_advise_106 hl (by decide) rfl (fun ls hl => ?_)
            refine lv_iload hx hb dX0_advise_108 (lv_at hl 4 rfl) ?_
            refine lv_if_lt (tgt := 120) hx hb dX0_advise_110 (by decide) (fun c29 => ?_) (fun c29 => ?_)
            · replace h := fb_it c29 h
              refine lv_iload hx hb dX0_advise_120 (lv_at hl 2 rfl) ?_
              refine lv_istore (lv' := [(6, .int v11), (10, .int (r26 + r28)), (9, .int r19), (8, .int v11), (7, .int v12), (5, .int r10), (4, .int r8), (3, .int r6), (2, .int (fg a1.toNatClampNeg)), (0, .ref h0), (1, .int a1)]) hx hb dX0_advise_122 hl (by decide) rfl (fun ls hl => ?_)
              refine lv_iload hx hb dX0_advise_124 (lv_at hl 1 rfl) ?_
              refine lv_istore (lv' := [(7, .int (r26 + r28)), (6, .int v11), (10, .int (r26 + r28)), (9, .int r19), (8, .int v11), (5, .int r10), (4, .int r8), (3, .int r6), (2, .int (fg a1.toNatClampNeg)), (0, .ref h0), (1, .int a1)]) hx hb dX0_advise_126 hl (by decide) rfl (fun ls hl => ?_)
              obtain ⟨e1, e2, e3⟩ := fb_p3 h
              subst e1
              subst e2
              subst e3
              exact J1 H locs hP hD hS ls (lv_sub hl [4, 0, 1, 5, 6, 7, 8, 9, 10] rfl)
            · replace h := fb_ie c29 h
              refine lv_iload hx hb dX0_advise_113 (lv_at hl 0 rfl) ?_
              refine lv_iload hx hb dX0_advise_115 (lv_at hl 3 rfl) ?_
              refine lv_icmp_ge (tgt := 128) hx hb dX0_advise_117 (by decide) (fun c30 => ?_) (fun c30 => ?_)
              · replace h := fb_it c30 h
                obtain ⟨e1, e2, e3⟩ := fb_p3 h
                subst e1
                subst e2
                subst e3
                exact J1 H locs hP hD hS ls (lv_sub hl [2, 3, 4, 5, 6, 7, 8, 9, 10] rfl)
              · replace h := fb_ie c30 h
                refine lv_iload hx hb dX0_advise_120 (lv_at hl 2 rfl) ?_
                refine lv_istore (lv' := [(6, .int v11), (10, .int (r26 + r28)), (9, .int r19), (8, .int v11), (7, .int v12), (5, .int r10), (4, .int r8), (3, .int r6), (2, .int (fg a1.toNatClampNeg)), (0, .ref h0), (1, .int a1)]) hx hb dX0_advise_122 hl (by decide) rfl (fun ls hl => ?_)
                refine lv_iload hx hb dX0_advise_124 (lv_at hl 1 rfl) ?_
                refine lv_istore (lv' := [(7, .int (r26 + r28)), (6, .int v11), (10, .int (r26 + r28)), (9, .int r19), (8, .int v11), (5, .int r10), (4, .int r8), (3, .int r6), (2, .int (fg a1.toNatClampNeg)), (0, .ref h0), (1, .int a1)]) hx hb dX0_advise_126 hl (by decide) rfl (fun ls hl => ?_)
                obtain ⟨e1, e2, e3⟩ := fb_p3 h
                subst e1
                subst e2
                subst e3
                exact J1 H locs hP hD hS ls (lv_sub hl [4, 0, 1, 5, 6, 7, 8, 9, 10] rfl)
    obtain ⟨o34, o35, o36, o37, o38, o39, h43, h⟩ := fb_b6s h
    refine LX0_advise_57 _ _ _ _ _ _ _ o34 o35 o36 o37 o38 o39 h43 H locs hP hD hS ls (lv_sub hl [0, 1, 2, 3, 4, 5, 6, 7, 8] rfl) (fun H locs hP hD hS ls hl => ?_)
    refine lv_aload_n hx hb dX0_advise_134 rfl (lv_at hl 7 rfl) ?_
    refine va_get (D := D) (ci := 0) (v := .ref qf) (C := RX0) (T := TX0) (N := 6) hx hb hts hin0 hown hK hP 0 rfl rfl 2 (by decide) (hts _ w_f17) (fun _ h9 => h9) rfl dX0_advise_135 ?_
    refine lv_iload_n hx hb dX0_advise_138 rfl (lv_at hl 8 rfl) ?_
    refine lv_iload_n hx hb dX0_advise_139 rfl (lv_at hl 6 rfl) ?_
    refine va_iast hx hb hK hP hD hS 1 0 rfl rfl (fb_ixin hi4) dX0_advise_140 (fun H locs hP hD hS => ?_)
    have hP : va_P D vwCl (fb_wX0 cI h0 qf qn qw ql sz mi (upd o37 a1.toNatClampNeg (fg a1.toNatClampNeg)) o38 wt o39) H := hP
    have hD : va_D A (fb_wX0 cI h0 qf qn qw ql sz mi (upd o37 a1.toNatClampNeg (fg a1.toNatClampNeg)) o38 wt o39) := hD
    refine lv_aload_n hx hb dX0_advise_141 rfl (lv_at hl 7 rfl) ?_
    refine lv_iload_n hx hb dX0_advise_142 rfl (lv_at hl 8 rfl) ?_
    refine lv_iload_n hx hb dX0_advise_143 rfl (lv_at hl 5 rfl) ?_
    refine lv_iload hx hb dX0_advise_144 (lv_at hl 4 rfl) ?_
    refine lv_iload hx hb dX0_advise_146 (lv_at hl 3 rfl) ?_
    obtain ⟨nt_41, h40, h⟩ := fb_b1s h
    have hPc : va_P D vwCl (fb_wX0 cI h0 qf qn qw ql sz mi (upd o37 a1.toNatClampNeg (fg a1.toNatClampNeg)) o38 wt o39) H := hP.sub [0, 1, 2, 3, 4] rfl
    have hDc : va_D A (fb_wX0 cI h0 qf qn qw ql sz mi (upd o37 a1.toNatClampNeg (fg a1.toNatClampNeg)) o38 wt o39) := hD.sub [0, 1, 2, 3, 4] (by decide) rfl
    have hFc := va_free (wc := fb_wX0 cI h0 qf qn qw ql sz mi (upd o37 a1.toNatClampNeg (fg a1.toNatClampNeg)) o38 wt o39) hD hS hA [0, 1, 2, 3, 4] rfl
    refine fb_callM (va_runV (As := [.int a1, .int r6, .int r8, .int r10]) (rest := []) ⟨hx, hb, hml, hown, hts⟩ (metX0_putNotes l D cI h0 qf qn qw ql B0 sz mi (upd o37 a1.toNatClampNeg (fg a1.toNatClampNeg)) o38 wt o39 a1 r6 r8 r10 H.size nt_41 h40) (cwV 4 hts gX0_advise_X0_putNotes rfl rfl rfl (by decide +kernel) ⟨Nat.le_of_ble_eq_true rfl, Nat.le_of_ble_eq_true rfl⟩) (fb_preVM (ci := 0) fb_sX0p hPc hK hDc hZ hS hAB hA rfl rfl _) rfl rfl hl.1 rfl (lv_room (Nat.le_of_ble_eq_true rfl)) dX0_advise_148 ⟨Nat.le_of_ble_eq_true rfl, Nat.le_of_ble_eq_true rfl⟩) hS (fun q _ h9 => hFc q h9) hFc (fun _ H1 locs hP1 hD1 hz1 hk1 hS => ?_)
    have hP : va_P D vwCl (fb_wX0 cI h0 qf qn qw ql sz mi (upd o37 a1.toNatClampNeg (fg a1.toNatClampNeg)) nt_41 wt o39) H1 := hP1
    have hD : va_D A (fb_wX0 cI h0 qf qn qw ql sz mi (upd o37 a1.toNatClampNeg (fg a1.toNatClampNeg)) nt_41 wt o39) := hD1.weaken (fun _ q _ h9 => hFc q.1 h9)
    generalize H1 = H at hP hS
    refine lv_iload hx hb dX0_advise_151 (lv_at hl 2 rfl) ?_
    have h := Option.some.inj h
    subst h
    refine W.widen (k := 1) (n := 6) (by first | decide | omega) (by first | decide | omega) ?_
    refine vx_ret ?_
    exact W.iret hx hb hr (fun t ht _ => ⟨_, rfl, ⟨rfl, by rw [ht]; exact hP, hD⟩, hS.F ht⟩) hS.2.2 dX0_advise_153
  · replace h := fb_it c3 h
    have h := Option.some.inj h
    subst h
    obtain ⟨sa, hstr⟩ := fb_str61 hZT
    exact vx_throwS (names := ["java/lang/RuntimeException", "java/lang/Exception"]) (ik := 59) (is := 61) (ic := 63) hx hb hfl hown (by decide +kernel) (by decide +kernel) (hts _ w_c59) (hts _ w_iIndexOutOfBoundsException) hstr
      (vx_hat (fun w9 h9 => hts w9 (List.mem_cons_of_mem _ (List.mem_append_right _ (h9)))) (B := fb_bad "java/lang/IndexOutOfBoundsException") (by decide +kernel) (fb_badok_IndexOutOfBoundsException hZT)) (by decide +kernel)
      ((fb_u1 hZT).narrow hAB) ((fb_u2 hZT).narrow hAB) hS (by rw [hml]; exact hl.1) dX0_advise_8 dX0_advise_11 dX0_advise_12 dX0_advise_14 dX0_advise_17 (fun x9 h9 => (htab x9 h9).elim)
      (Nat.le_of_ble_eq_true rfl) (Nat.le_of_ble_eq_true rfl) (Nat.le_of_ble_eq_true rfl) (Nat.le_of_ble_eq_true rfl) hlocks (fun t _ hz hk => fb_xend (x := (_, (fg, nt, wl))) rfl rfl hP hD hS t hz hk) hS.2.2 (Nat.le_of_ble_eq_true rfl) (Nat.le_of_ble_eq_true rfl)
