/-! Contracts, printed by wip/p24/g1.py. -/
abbrev rmX0_stepsGone : Room := { frames := 3, cells := 0, slots := 0, locals := 64 }
set_option maxHeartbeats 8000000 in
set_option maxRecDepth 100000 in
theorem metX0_stepsGone (l : Launch) (D : va_G) (cI : ClassId) (h0 qf qn qw ql B0 : Nat) (sz : Int32) (mi : Int32) (fg : Nat → Int32) (nt : Nat → Int32) (wt : Nat → Int32) (wl : Nat → Int32) (a1 : Int32) (ro : Int32) (h : fX0_stepsGone sz mi fg nt wt wl a1 = some ro) : Met l yX0_stepsGone wsX0_stepsGone rmX0_stepsGone (va_Pc [.ref h0, .int a1] (fb_ok D [(cI, .int)] B0 fb_sX0 (fb_wX0 cI h0 qf qn qw ql sz mi fg nt wt wl))) (QcRead ro) 0 0 (fun _ => False) := by
  refine Met.ofW (cc := cX0_stepsGone) (maxL := 4) (ret := (some .int)) (by decide) rfl ?_
  intro p e s m args below meth c s₁ B hml hv
  obtain ⟨rfl, hP, hK, hZ⟩ := hv
  have hx := B.exec
  have hb := B.bytes
  have hr := B.returns
  have hts := atoms_spec (ws := wsX0_stepsGone) B.pre
  have hown : s.vm.findClass RX0 = some m.cls := findClass_of_methodNamed B.named
  have hlocks := B.notSynchronized
  have hAB : ∀ q : Nat, (fun q => B0 ≤ q) q → B0 ≤ q := fun _ h9 => h9
  have hS : va_S (fun q => B0 ≤ q) s.heap s.heap [] := va_S.rf
  have hin0 : ∀ w ∈ u_ws RX0 TX0 6, w ∈ wsX0_stepsGone := fun _ h9 => List.mem_cons_of_mem _ (List.mem_append_right _ (h9))
  have w_m164 : (Cond.methodLink RX0 164 Lib.Math.abs.name) ∈ wsX0_stepsGone := List.mem_of_getElem? (i := 1) rfl
  have w_mcabs : (Cond.code Lib.Math.abs.name Lib.Math.abs.code 1 (some .int)) ∈ wsX0_stepsGone := List.mem_of_getElem? (i := 4) rfl
  have w_mi : (Cond.initialized "java/lang/Math") ∈ wsX0_stepsGone := List.mem_of_getElem? (i := 3) rfl
  have w_msabs : (Cond.static Lib.Math.abs.name) ∈ wsX0_stepsGone := List.mem_of_getElem? (i := 2) rfl
  have hl := lv_entry ([.ref h0, .int a1]) (n := 4) (Nat.le_of_ble_eq_true rfl)
  rw [lg_entry_eq]
  generalize (lg_sl ([.ref h0, .int a1]) ++ List.replicate (4 - (lg_sl ([.ref h0, .int a1])).length) Slot.unset).toArray = ls at hl ⊢
  have hl : lv_has ls 4 [(0, .ref h0), (1, .int a1)] := hl
  unfold fX0_stepsGone at h
  refine lv_aload_n hx hb dX0_stepsGone_0 rfl (lv_at hl 0 rfl) ?_
  refine lv_iload_n hx hb dX0_stepsGone_1 rfl (lv_at hl 1 rfl) ?_
  obtain ⟨r2, h1, h⟩ := fb_b1s h
  refine fb_callR (W.runV (As := [.int a1]) (rest := []) ⟨hx, hb, hml, hown, hts⟩ (metX0_follows l D cI h0 qf qn qw ql B0 sz mi fg nt wt wl a1 r2 h1) (cwV 1 hts gX0_stepsGone_X0_follows rfl rfl rfl (by decide +kernel) ⟨Nat.le_of_ble_eq_true rfl, Nat.le_of_ble_eq_true rfl⟩) (fb_preVR (ci := 0) fb_sX0p hP hK hZ hS hAB rfl rfl _) rfl rfl hl.1 rfl (lv_room (Nat.le_of_ble_eq_true rfl)) dX0_stepsGone_2 ⟨Nat.le_of_ble_eq_true rfl, Nat.le_of_ble_eq_true rfl⟩) ?_
  refine lv_if_ne (tgt := 10) hx hb dX0_stepsGone_5 (by decide) (fun c3 => ?_) (fun c3 => ?_)
  · replace h := fb_ie c3 h
    refine lv_iconst (v := 0) hx hb dX0_stepsGone_10 (by decide) ?_
    refine lv_istore_n (lv' := [(2, .int 0), (0, .ref h0), (1, .int a1)]) hx hb dX0_stepsGone_11 rfl hl (by decide) rfl (fun ls hl => ?_)
    refine lv_iconst (v := 1) hx hb dX0_stepsGone_12 (by decide) ?_
    refine lv_istore_n (lv' := [(3, .int 1), (2, .int 0), (0, .ref h0), (1, .int a1)]) hx hb dX0_stepsGone_13 rfl hl (by decide) rfl (fun ls hl => ?_)
    have LX0_stepsGone_14 : ∀ (n : Nat) (v4 : Int32) (v5 : Int32) (o11 : Int32) (o12 : Int32), lpX0_stepsGone_14 a1 sz mi fg nt wt wl n v4 v5 = some (o11, o12) → ∀ (ls : Array Slot), lv_has ls 4 [(3, .int v4), (2, .int v5), (0, .ref h0), (1, .int a1)] → (∀ (ls : Array Slot), lv_has ls 4 [(3, .int o11), (2, .int o12), (0, .ref h0), (1, .int a1)] → W p l e (headSpec wsX0_stepsGone rmX0_stepsGone).room s m ([.ref h0, .int a1] : List Value).toArray below meth c s.heap [] 0 0 (MQ below (QcRead ro) ([.ref h0, .int a1] : List Value).toArray s 0 0 (fun _ => False)) (F0 m 46 ls [])) → W p l e (headSpec wsX0_stepsGone rmX0_stepsGone).room s m ([.ref h0, .int a1] : List Value).toArray below meth c s.heap [] 0 0 (MQ below (QcRead ro) ([.ref h0, .int a1] : List Value).toArray s 0 0 (fun _ => False)) (F0 m 14 ls []) := by
      intro n
      induction n with
      | zero =>
        intro v4 v5 o11 o12 h
        rw [lpX0_stepsGone_14.eq_1] at h
        cases h
      | succ n ih =>
        intro v4 v5 o11 o12 h ls hl kx
        rw [lpX0_stepsGone_14.eq_2] at h
        refine lv_iload_n hx hb dX0_stepsGone_14 rfl (lv_at hl 0 rfl) ?_
        refine lv_iconst (v := 3) hx hb dX0_stepsGone_15 (by decide) ?_
        refine lv_icmp_gt (tgt := 46) hx hb dX0_stepsGone_16 (by decide) (fun c6 => ?_) (fun c6 => ?_)
        · replace h := fb_it c6 h
          obtain ⟨e1, e2⟩ := fb_p2 h
          subst e1
          subst e2
          exact kx ls (lv_sub hl [0, 1, 2, 3] rfl)
        · replace h := fb_ie c6 h
          refine lv_iload_n hx hb dX0_stepsGone_19 rfl (lv_at hl 1 rfl) ?_
          refine lv_aload_n hx hb dX0_stepsGone_20 rfl (lv_at hl 2 rfl) ?_
          refine lv_iload_n hx hb dX0_stepsGone_21 rfl (lv_at hl 3 rfl) ?_
          refine lv_iload_n hx hb dX0_stepsGone_22 rfl (lv_at hl 0 rfl) ?_
          obtain ⟨r8, h7, h⟩ := fb_b1s h
          refine fb_callR (W.runV (As := [.int a1, .int v4]) (rest := [.int v5]) ⟨hx, hb, hml, hown, hts⟩ (metX0_noteAt l D cI h0 qf qn qw ql B0 sz mi fg nt wt wl a1 v4 r8 h7) (cwV 2 hts gX0_stepsGone_X0_noteAt rfl rfl rfl (by decide +kernel) ⟨Nat.le_of_ble_eq_true rfl, Nat.le_of_ble_eq_true rfl⟩) (fb_preVR (ci := 0) fb_sX0p hP hK hZ hS hAB rfl rfl _) rfl rfl hl.1 rfl (lv_room (Nat.le_of_ble_eq_true rfl)) dX0_stepsGone_23 ⟨Nat.le_of_ble_eq_true rfl, Nat.le_of_ble_eq_true rfl⟩) ?_
          refine lv_aload_n hx hb dX0_stepsGone_26 rfl (lv_at hl 2 rfl) ?_
          refine lv_iload_n hx hb dX0_stepsGone_27 rfl (lv_at hl 3 rfl) ?_
          refine lv_iconst (v := 1) hx hb dX0_stepsGone_28 (by decide) ?_
          refine lv_isub hx hb dX0_stepsGone_29 ?_
          refine lv_iload_n hx hb dX0_stepsGone_30 rfl (lv_at hl 0 rfl) ?_
          obtain ⟨r10, h9, h⟩ := fb_b1s h
          refine fb_callR (W.runV (As := [.int (a1 - 1), .int v4]) (rest := [.int r8, .int v5]) ⟨hx, hb, hml, hown, hts⟩ (metX0_noteAt l D cI h0 qf qn qw ql B0 sz mi fg nt wt wl (a1 - 1) v4 r10 h9) (cwV 2 hts gX0_stepsGone_X0_noteAt rfl rfl rfl (by decide +kernel) ⟨Nat.le_of_ble_eq_true rfl, Nat.le_of_ble_eq_true rfl⟩) (fb_preVR (ci := 0) fb_sX0p hP hK hZ hS hAB rfl rfl _) rfl rfl hl.1 rfl (lv_room (Nat.le_of_ble_eq_true rfl)) dX0_stepsGone_31 ⟨Nat.le_of_ble_eq_true rfl, Nat.le_of_ble_eq_true rfl⟩) ?_
          refine lv_isub hx hb dX0_stepsGone_34 ?_
          refine va_mabs hx hb (by rw [hml]; exact hl.1.symm) hown (hts _ w_m164) (hts _ w_msabs) (hts _ w_mi) (hts _ w_mcabs) (Nat.le_of_ble_eq_true rfl) (Nat.le_of_ble_eq_true rfl) (Nat.le_of_ble_eq_true rfl) (Nat.le_of_ble_eq_true rfl) dX0_stepsGone_35 ?_
          refine lv_iadd hx hb dX0_stepsGone_38 ?_
          refine lv_istore_n (lv' := [(2, .int (v5 + (if 0 ≤ (r8 - r10) then (r8 - r10) else 0 - (r8 - r10)))), (3, .int v4), (0, .ref h0), (1, .int a1)]) hx hb dX0_stepsGone_39 rfl hl (by decide) rfl (fun ls hl => ?_)
          refine lv_iinc (v := v4 + 1) (lv' := [(3, .int (v4 + 1)), (2, .int (v5 + (if 0 ≤ (r8 - r10) then (r8 - r10) else 0 - (r8 - r10)))), (0, .ref h0), (1, .int a1)]) hx hb dX0_stepsGone_40 hl (k := 1) rfl rfl (by decide) rfl (fun ls hl => ?_)
          refine lv_goto (tgt := 14) hx hb dX0_stepsGone_43 (by decide) ?_
          exact ih _ _ o11 o12 h ls (lv_sub hl [0, 1, 2, 3] rfl) kx
    obtain ⟨o11, o12, h14, h⟩ := fb_b2s h
    refine LX0_stepsGone_14 _ _ _ o11 o12 h14 ls (lv_sub hl [0, 1, 2, 3] rfl) (fun ls hl => ?_)
    refine lv_iload_n hx hb dX0_stepsGone_46 rfl (lv_at hl 1 rfl) ?_
    have h := Option.some.inj h
    subst h
    exact W.iret hx hb hr (fun t ht _ => ⟨rfl, ht⟩) (fun q hq => absurd hq List.not_mem_nil) dX0_stepsGone_47
  · replace h := fb_it c3 h
    refine lv_iconst (v := 0) hx hb dX0_stepsGone_8 (by decide) ?_
    have h := Option.some.inj h
    subst h
    exact W.iret hx hb hr (fun t ht _ => ⟨rfl, ht⟩) (fun q hq => absurd hq List.not_mem_nil) dX0_stepsGone_9
abbrev rmX0_isInterval : Room := { frames := 1, cells := 0, slots := 0, locals := 22 }
set_option maxHeartbeats 8000000 in
set_option maxRecDepth 100000 in
theorem metX0_isInterval (l : Launch) (D : va_G) (cI : ClassId) (h0 qf qn qw ql B0 : Nat) (sz : Int32) (mi : Int32) (fg : Nat → Int32) (nt : Nat → Int32) (wt : Nat → Int32) (wl : Nat → Int32) (a1 : Int32) (a2 : Int32) (a3 : Int32) (a4 : Int32) (ro : Int32) (h : fX0_isInterval sz mi fg nt wt wl a1 a2 a3 a4 = some ro) : Met l yX0_isInterval wsX0_isInterval rmX0_isInterval (va_Pc [.ref h0, .int a1, .int a2, .int a3, .int a4] (fb_ok D [(cI, .int)] B0 fb_sX0 (fb_wX0 cI h0 qf qn qw ql sz mi fg nt wt wl))) (QcRead ro) 0 0 (fun _ => False) := by
  refine Met.ofW (cc := cX0_isInterval) (maxL := 6) (ret := (some .boolean)) (by decide) rfl ?_
  intro p e s m args below meth c s₁ B hml hv
  obtain ⟨rfl, hP, hK, hZ⟩ := hv
  have hx := B.exec
  have hb := B.bytes
  have hr := B.returns
  have hts := atoms_spec (ws := wsX0_isInterval) B.pre
  have hown : s.vm.findClass RX0 = some m.cls := findClass_of_methodNamed B.named
  have hlocks := B.notSynchronized
  have hAB : ∀ q : Nat, (fun q => B0 ≤ q) q → B0 ≤ q := fun _ h9 => h9
  have hS : va_S (fun q => B0 ≤ q) s.heap s.heap [] := va_S.rf
  have hin0 : ∀ w ∈ u_ws RX0 TX0 6, w ∈ wsX0_isInterval := fun _ h9 => List.mem_cons_of_mem _ (List.mem_append_right _ (h9))
  have hl := lv_entry ([.ref h0, .int a1, .int a2, .int a3, .int a4]) (n := 6) (Nat.le_of_ble_eq_true rfl)
  rw [lg_entry_eq]
  generalize (lg_sl ([.ref h0, .int a1, .int a2, .int a3, .int a4]) ++ List.replicate (6 - (lg_sl ([.ref h0, .int a1, .int a2, .int a3, .int a4])).length) Slot.unset).toArray = ls at hl ⊢
  have hl : lv_has ls 6 [(0, .ref h0), (1, .int a1), (2, .int a2), (3, .int a3), (4, .int a4)] := hl
  unfold fX0_isInterval at h
  refine lv_aload_n hx hb dX0_isInterval_0 rfl (lv_at hl 0 rfl) ?_
  refine lv_aload_n hx hb dX0_isInterval_1 rfl (lv_at hl 0 rfl) ?_
  refine lv_iload_n hx hb dX0_isInterval_2 rfl (lv_at hl 1 rfl) ?_
  refine lv_iload_n hx hb dX0_isInterval_3 rfl (lv_at hl 3 rfl) ?_
  obtain ⟨r2, h1, h⟩ := fb_b1s h
  refine fb_callR (W.runV (As := [.int a1, .int a3]) (rest := [.ref h0]) ⟨hx, hb, hml, hown, hts⟩ (metX0_noteAt l D cI h0 qf qn qw ql B0 sz mi fg nt wt wl a1 a3 r2 h1) (cwV 2 hts gX0_isInterval_X0_noteAt rfl rfl rfl (by decide +kernel) ⟨Nat.le_of_ble_eq_true rfl, Nat.le_of_ble_eq_true rfl⟩) (fb_preVR (ci := 0) fb_sX0p hP hK hZ hS hAB rfl rfl _) rfl rfl hl.1 rfl (lv_room (Nat.le_of_ble_eq_true rfl)) dX0_isInterval_4 ⟨Nat.le_of_ble_eq_true rfl, Nat.le_of_ble_eq_true rfl⟩) ?_
  obtain ⟨r4, h3, h⟩ := fb_b1s h
  refine fb_callR (W.runV (As := [.int r2]) (rest := []) ⟨hx, hb, hml, hown, hts⟩ (metX0_pitchOf l D cI h0 qf qn qw ql B0 sz mi fg nt wt wl r2 r4 h3) (cwV 1 hts gX0_isInterval_X0_pitchOf rfl rfl rfl (by decide +kernel) ⟨Nat.le_of_ble_eq_true rfl, Nat.le_of_ble_eq_true rfl⟩) (fb_preVR (ci := 0) fb_sX0p hP hK hZ hS hAB rfl rfl _) rfl rfl hl.1 rfl (lv_room (Nat.le_of_ble_eq_true rfl)) dX0_isInterval_7 ⟨Nat.le_of_ble_eq_true rfl, Nat.le_of_ble_eq_true rfl⟩) ?_
  refine lv_aload_n hx hb dX0_isInterval_10 rfl (lv_at hl 0 rfl) ?_
  refine lv_aload_n hx hb dX0_isInterval_11 rfl (lv_at hl 0 rfl) ?_
  refine lv_iload_n hx hb dX0_isInterval_12 rfl (lv_at hl 1 rfl) ?_
  refine lv_iload_n hx hb dX0_isInterval_13 rfl (lv_at hl 2 rfl) ?_
  obtain ⟨r6, h5, h⟩ := fb_b1s h
  refine fb_callR (W.runV (As := [.int a1, .int a2]) (rest := [.ref h0, .int r4]) ⟨hx, hb, hml, hown, hts⟩ (metX0_noteAt l D cI h0 qf qn qw ql B0 sz mi fg nt wt wl a1 a2 r6 h5) (cwV 2 hts gX0_isInterval_X0_noteAt rfl rfl rfl (by decide +kernel) ⟨Nat.le_of_ble_eq_true rfl, Nat.le_of_ble_eq_true rfl⟩) (fb_preVR (ci := 0) fb_sX0p hP hK hZ hS hAB rfl rfl _) rfl rfl hl.1 rfl (lv_room (Nat.le_of_ble_eq_true rfl)) dX0_isInterval_14 ⟨Nat.le_of_ble_eq_true rfl, Nat.le_of_ble_eq_true rfl⟩) ?_
  obtain ⟨r8, h7, h⟩ := fb_b1s h
  refine fb_callR (W.runV (As := [.int r6]) (rest := [.int r4]) ⟨hx, hb, hml, hown, hts⟩ (metX0_pitchOf l D cI h0 qf qn qw ql B0 sz mi fg nt wt wl r6 r8 h7) (cwV 1 hts gX0_isInterval_X0_pitchOf rfl rfl rfl (by decide +kernel) ⟨Nat.le_of_ble_eq_true rfl, Nat.le_of_ble_eq_true rfl⟩) (fb_preVR (ci := 0) fb_sX0p hP hK hZ hS hAB rfl rfl _) rfl rfl hl.1 rfl (lv_room (Nat.le_of_ble_eq_true rfl)) dX0_isInterval_17 ⟨Nat.le_of_ble_eq_true rfl, Nat.le_of_ble_eq_true rfl⟩) ?_
  refine lv_isub hx hb dX0_isInterval_20 ?_
  refine lv_istore (lv' := [(5, .int (r4 - r8)), (0, .ref h0), (1, .int a1), (2, .int a2), (3, .int a3), (4, .int a4)]) hx hb dX0_isInterval_21 hl (by decide) rfl (fun ls hl => ?_)
  refine lv_iload hx hb dX0_isInterval_23 (lv_at hl 0 rfl) ?_
  refine lv_bipush (v := 12) hx hb dX0_isInterval_25 (by decide) ?_
  refine lv_irem hx hb dX0_isInterval_27 (by decide) ?_
  refine lv_iload hx hb dX0_isInterval_28 (lv_at hl 5 rfl) ?_
  refine lv_icmp_ne (tgt := 37) hx hb dX0_isInterval_30 (by decide) (fun c9 => ?_) (fun c9 => ?_)
  · replace h := fb_ie c9 h
    refine lv_iconst (v := 0) hx hb dX0_isInterval_37 (by decide) ?_
    have h := Option.some.inj h
    subst h
    exact W.zret (ty := .boolean) hx hb hr rfl (fun t ht _ => ⟨rfl, ht⟩) (fun q hq => absurd hq List.not_mem_nil) dX0_isInterval_38
  · replace h := fb_it c9 h
    refine lv_iconst (v := 1) hx hb dX0_isInterval_33 (by decide) ?_
    refine lv_goto (tgt := 38) hx hb dX0_isInterval_34 (by decide) ?_
    have h := Option.some.inj h
    subst h
    exact W.zret (ty := .boolean) hx hb hr rfl (fun t ht _ => ⟨rfl, ht⟩) (fun q hq => absurd hq List.not_mem_nil) dX0_isInterval_38
abbrev rmX0_parallels : Room := { frames := 2, cells := 0, slots := 0, locals := 47 }
set_option maxHeartbeats 8000000 in
set_option maxRecDepth 100000 in
theorem metX0_parallels (l : Launch) (D : va_G) (cI : ClassId) (h0 qf qn qw ql B0 : Nat) (sz : Int32) (mi : Int32) (fg : Nat → Int32) (nt : Nat → Int32) (wt : Nat → Int32) (wl : Nat → Int32) (a1 : Int32) (a2 : Int32) (ro : Int32) (h : fX0_parallels sz mi fg nt wt wl a1 a2 = some ro) : Met l yX0_parallels wsX0_parallels rmX0_parallels (va_Pc [.ref h0, .int a1, .int a2] (fb_ok D [(cI, .int)] B0 fb_sX0 (fb_wX0 cI h0 qf qn qw ql sz mi fg nt wt wl))) (QcRead ro) 0 0 (fun _ => False) := by
  refine Met.ofW (cc := cX0_parallels) (maxL := 6) (ret := (some .int)) (by decide) rfl ?_
  intro p e s m args below meth c s₁ B hml hv
  obtain ⟨rfl, hP, hK, hZ⟩ := hv
  have hx := B.exec
  have hb := B.bytes
  have hr := B.returns
  have hts := atoms_spec (ws := wsX0_parallels) B.pre
  have hown : s.vm.findClass RX0 = some m.cls := findClass_of_methodNamed B.named
  have hlocks := B.notSynchronized
  have hAB : ∀ q : Nat, (fun q => B0 ≤ q) q → B0 ≤ q := fun _ h9 => h9
  have hS : va_S (fun q => B0 ≤ q) s.heap s.heap [] := va_S.rf
  have hin0 : ∀ w ∈ u_ws RX0 TX0 6, w ∈ wsX0_parallels := fun _ h9 => List.mem_cons_of_mem _ (List.mem_append_right _ (h9))
  have hl := lv_entry ([.ref h0, .int a1, .int a2]) (n := 6) (Nat.le_of_ble_eq_true rfl)
  rw [lg_entry_eq]
  generalize (lg_sl ([.ref h0, .int a1, .int a2]) ++ List.replicate (6 - (lg_sl ([.ref h0, .int a1, .int a2])).length) Slot.unset).toArray = ls at hl ⊢
  have hl : lv_has ls 6 [(0, .ref h0), (1, .int a1), (2, .int a2)] := hl
  unfold fX0_parallels at h
  refine lv_iconst (v := 0) hx hb dX0_parallels_0 (by decide) ?_
  refine lv_istore_n (lv' := [(3, .int 0), (0, .ref h0), (1, .int a1), (2, .int a2)]) hx hb dX0_parallels_1 rfl hl (by decide) rfl (fun ls hl => ?_)
  refine lv_iconst (v := 0) hx hb dX0_parallels_2 (by decide) ?_
  refine lv_istore (lv' := [(4, .int 0), (3, .int 0), (0, .ref h0), (1, .int a1), (2, .int a2)]) hx hb dX0_parallels_3 hl (by decide) rfl (fun ls hl => ?_)
  have LX0_parallels_5 : ∀ (n : Nat) (v1 : Int32) (v2 : Int32) (o23 : Int32) (o24 : Int32), lpX0_parallels_5 a1 a2 sz mi fg nt wt wl n v1 v2 = some (o23, o24) → ∀ (ls : Array Slot), lv_has ls 6 [(4, .int v1), (3, .int v2), (0, .ref h0), (1, .int a1), (2, .int a2)] → (∀ (ls : Array Slot), lv_has ls 6 [(4, .int o23), (3, .int o24), (0, .ref h0), (1, .int a1), (2, .int a2)] → W p l e (headSpec wsX0_parallels rmX0_parallels).room s m ([.ref h0, .int a1, .int a2] : List Value).toArray below meth c s.heap [] 0 0 (MQ below (QcRead ro) ([.ref h0, .int a1, .int a2] : List Value).toArray s 0 0 (fun _ => False)) (F0 m 86 ls [])) → W p l e (headSpec wsX0_parallels rmX0_parallels).room s m ([.ref h0, .int a1, .int a2] : List Value).toArray below meth c s.heap [] 0 0 (MQ below (QcRead ro) ([.ref h0, .int a1, .int a2] : List Value).toArray s 0 0 (fun _ => False)) (F0 m 5 ls []) := by
    intro n
    induction n with
    | zero =>
      intro v1 v2 o23 o24 h
      rw [lpX0_parallels_5.eq_1] at h
      cases h
    | succ n ih =>
      intro v1 v2 o23 o24 h ls hl kx
      rw [lpX0_parallels_5.eq_2] at h
      refine lv_iload hx hb dX0_parallels_5 (lv_at hl 0 rfl) ?_
      refine lv_iconst (v := 3) hx hb dX0_parallels_7 (by decide) ?_
      refine lv_icmp_ge (tgt := 86) hx hb dX0_parallels_8 (by decide) (fun c3 => ?_) (fun c3 => ?_)
      · replace h := fb_it c3 h
        obtain ⟨e1, e2⟩ := fb_p2 h
        subst e1
        subst e2
        exact kx ls (lv_sub hl [0, 1, 2, 3, 4] rfl)
      · replace h := fb_ie c3 h
        refine lv_iload hx hb dX0_parallels_11 (lv_at hl 0 rfl) ?_
        refine lv_iconst (v := 1) hx hb dX0_parallels_13 (by decide) ?_
        refine lv_iadd hx hb dX0_parallels_14 ?_
        refine lv_istore (lv' := [(5, .int (v1 + 1)), (4, .int v1), (3, .int v2), (0, .ref h0), (1, .int a1), (2, .int a2)]) hx hb dX0_parallels_15 hl (by decide) rfl (fun ls hl => ?_)
        have LX0_parallels_17 : ∀ (n : Nat) (v4 : Int32) (v5 : Int32) (o20 : Int32) (o21 : Int32), lpX0_parallels_17 a1 a2 sz mi fg nt wt wl v1 n v4 v5 = some (o20, o21) → ∀ (ls : Array Slot), lv_has ls 6 [(5, .int v4), (4, .int v1), (3, .int v5), (0, .ref h0), (1, .int a1), (2, .int a2)] → (∀ (ls : Array Slot), lv_has ls 6 [(5, .int o20), (4, .int v1), (3, .int o21), (0, .ref h0), (1, .int a1), (2, .int a2)] → W p l e (headSpec wsX0_parallels rmX0_parallels).room s m ([.ref h0, .int a1, .int a2] : List Value).toArray below meth c s.heap [] 0 0 (MQ below (QcRead ro) ([.ref h0, .int a1, .int a2] : List Value).toArray s 0 0 (fun _ => False)) (F0 m 80 ls [])) → W p l e (headSpec wsX0_parallels rmX0_parallels).room s m ([.ref h0, .int a1, .int a2] : List Value).toArray below meth c s.heap [] 0 0 (MQ below (QcRead ro) ([.ref h0, .int a1, .int a2] : List Value).toArray s 0 0 (fun _ => False)) (F0 m 17 ls []) := by
          intro n
          induction n with
          | zero =>
            intro v4 v5 o20 o21 h
            rw [lpX0_parallels_17.eq_1] at h
            cases h
          | succ n ih =>
            intro v4 v5 o20 o21 h ls hl kx
            rw [lpX0_parallels_17.eq_2] at h
            refine lv_iload hx hb dX0_parallels_17 (lv_at hl 0 rfl) ?_
            refine lv_iconst (v := 3) hx hb dX0_parallels_19 (by decide) ?_
            refine lv_icmp_gt (tgt := 80) hx hb dX0_parallels_20 (by decide) (fun c6 => ?_) (fun c6 => ?_)
            · replace h := fb_it c6 h
              obtain ⟨e1, e2⟩ := fb_p2 h
              subst e1
              subst e2
              exact kx ls (lv_sub hl [0, 1, 2, 3, 4, 5] rfl)
            · replace h := fb_ie c6 h
              refine lv_aload_n hx hb dX0_parallels_23 rfl (lv_at hl 3 rfl) ?_
              refine lv_iload_n hx hb dX0_parallels_24 rfl (lv_at hl 4 rfl) ?_
              refine lv_iload hx hb dX0_parallels_25 (lv_at hl 1 rfl) ?_
              obtain ⟨r8, h7, h⟩ := fb_b1s h
              refine fb_callR (W.runV (As := [.int a1, .int v1]) (rest := []) ⟨hx, hb, hml, hown, hts⟩ (metX0_moves l D cI h0 qf qn qw ql B0 sz mi fg nt wt wl a1 v1 r8 h7) (cwV 2 hts gX0_parallels_X0_moves rfl rfl rfl (by decide +kernel) ⟨Nat.le_of_ble_eq_true rfl, Nat.le_of_ble_eq_true rfl⟩) (fb_preVR (ci := 0) fb_sX0p hP hK hZ hS hAB rfl rfl _) rfl rfl hl.1 rfl (lv_room (Nat.le_of_ble_eq_true rfl)) dX0_parallels_27 ⟨Nat.le_of_ble_eq_true rfl, Nat.le_of_ble_eq_true rfl⟩) ?_
              obtain ⟨j19, hjJ1, h⟩ := fb_b1s h
              have J1 : ∀ (ls : Array Slot), lv_has ls 6 [(5, .int v4), (4, .int v1), (3, .int j19), (0, .ref h0), (1, .int a1), (2, .int a2)] → W p l e (headSpec wsX0_parallels rmX0_parallels).room s m ([.ref h0, .int a1, .int a2] : List Value).toArray below meth c s.heap [] 0 0 (MQ below (QcRead ro) ([.ref h0, .int a1, .int a2] : List Value).toArray s 0 0 (fun _ => False)) (F0 m 74 ls []) := by
                intro ls hl
                refine lv_iinc (v := v4 + 1) (lv' := [(5, .int (v4 + 1)), (4, .int v1), (3, .int j19), (0, .ref h0), (1, .int a1), (2, .int a2)]) hx hb dX0_parallels_74 hl (k := 0) rfl rfl (by decide) rfl (fun ls hl => ?_)
                refine lv_goto (tgt := 17) hx hb dX0_parallels_77 (by decide) ?_
                exact ih _ _ o20 o21 h ls (lv_sub hl [0, 1, 2, 3, 4, 5] rfl) kx
              replace h := hjJ1
              refine lv_if_eq (tgt := 74) hx hb dX0_parallels_30 (by decide) (fun c9 => ?_) (fun c9 => ?_)
              · replace h := fb_it c9 h
                have h := Option.some.inj h
                subst h
                exact J1 ls (lv_sub hl [0, 1, 2, 3, 4, 5] rfl)
              · replace h := fb_ie c9 h
                refine lv_aload_n hx hb dX0_parallels_33 rfl (lv_at hl 3 rfl) ?_
                refine lv_iload_n hx hb dX0_parallels_34 rfl (lv_at hl 4 rfl) ?_
                refine lv_iload hx hb dX0_parallels_35 (lv_at hl 0 rfl) ?_
                obtain ⟨r11, h10, h⟩ := fb_b1s h
                refine fb_callR (W.runV (As := [.int a1, .int v4]) (rest := []) ⟨hx, hb, hml, hown, hts⟩ (metX0_moves l D cI h0 qf qn qw ql B0 sz mi fg nt wt wl a1 v4 r11 h10) (cwV 2 hts gX0_parallels_X0_moves rfl rfl rfl (by decide +kernel) ⟨Nat.le_of_ble_eq_true rfl, Nat.le_of_ble_eq_true rfl⟩) (fb_preVR (ci := 0) fb_sX0p hP hK hZ hS hAB rfl rfl _) rfl rfl hl.1 rfl (lv_room (Nat.le_of_ble_eq_true rfl)) dX0_parallels_37 ⟨Nat.le_of_ble_eq_true rfl, Nat.le_of_ble_eq_true rfl⟩) ?_
                refine lv_if_eq (tgt := 74) hx hb dX0_parallels_40 (by decide) (fun c12 => ?_) (fun c12 => ?_)
                · replace h := fb_it c12 h
                  have h := Option.some.inj h
                  subst h
                  exact J1 ls (lv_sub hl [0, 1, 2, 3, 4, 5] rfl)
                · replace h := fb_ie c12 h
                  refine lv_aload_n hx hb dX0_parallels_43 rfl (lv_at hl 3 rfl) ?_
                  refine lv_iload_n hx hb dX0_parallels_44 rfl (lv_at hl 4 rfl) ?_
                  refine lv_iload hx hb dX0_parallels_45 (lv_at hl 1 rfl) ?_
                  refine lv_iload hx hb dX0_parallels_47 (lv_at hl 0 rfl) ?_
                  refine lv_iload_n hx hb dX0_parallels_49 rfl (lv_at hl 5 rfl) ?_
                  obtain ⟨r14, h13, h⟩ := fb_b1s h
                  refine fb_callR (W.runV (As := [.int a1, .int v1, .int v4, .int a2]) (rest := []) ⟨hx, hb, hml, hown, hts⟩ (metX0_isInterval l D cI h0 qf qn qw ql B0 sz mi fg nt wt wl a1 v1 v4 a2 r14 h13) (cwV 4 hts gX0_parallels_X0_isInterval rfl rfl rfl (by decide +kernel) ⟨Nat.le_of_ble_eq_true rfl, Nat.le_of_ble_eq_true rfl⟩) (fb_preVR (ci := 0) fb_sX0p hP hK hZ hS hAB rfl rfl _) rfl rfl hl.1 rfl (lv_room (Nat.le_of_ble_eq_true rfl)) dX0_parallels_50 ⟨Nat.le_of_ble_eq_true rfl, Nat.le_of_ble_eq_true rfl⟩) ?_
                  refine lv_if_eq (tgt := 74) hx hb dX0_parallels_53 (by decide) (fun c15 => ?_) (fun c15 => ?_)
                  · replace h := fb_it c15 h
                    have h := Option.some.inj h
                    subst h
                    exact J1 ls (lv_sub hl [0, 1, 2, 3, 4, 5] rfl)
                  · replace h := fb_ie c15 h
                    refine lv_aload_n hx hb dX0_parallels_56 rfl (lv_at hl 3 rfl) ?_
                    refine lv_iload_n hx hb dX0_parallels_57 rfl (lv_at hl 4 rfl) ?_
                    refine lv_iconst (v := 1) hx hb dX0_parallels_58 (by decide) ?_
                    refine lv_isub hx hb dX0_parallels_59 ?_
                    refine lv_iload hx hb dX0_parallels_60 (lv_at hl 1 rfl) ?_
                    refine lv_iload hx hb dX0_parallels_62 (lv_at hl 0 rfl) ?_
                    refine lv_iload_n hx hb dX0_parallels_64 rfl (lv_at hl 5 rfl) ?_
                    obtain ⟨r17, h16, h⟩ := fb_b1s h
                    refine fb_callR (W.runV (As := [.int (a1 - 1), .int v1, .int v4, .int a2]) (rest := []) ⟨hx, hb, hml, hown, hts⟩ (metX0_isInterval l D cI h0 qf qn qw ql B0 sz mi fg nt wt wl (a1 - 1) v1 v4 a2 r17 h16) (cwV 4 hts gX0_parallels_X0_isInterval rfl rfl rfl (by decide +kernel) ⟨Nat.le_of_ble_eq_true rfl, Nat.le_of_ble_eq_true rfl⟩) (fb_preVR (ci := 0) fb_sX0p hP hK hZ hS hAB rfl rfl _) rfl rfl hl.1 rfl (lv_room (Nat.le_of_ble_eq_true rfl)) dX0_parallels_65 ⟨Nat.le_of_ble_eq_true rfl, Nat.le_of_ble_eq_true rfl⟩) ?_
                    refine lv_if_eq (tgt := 74) hx hb dX0_parallels_68 (by decide) (fun c18 => ?_) (fun c18 => ?_)
                    · replace h := fb_it c18 h
                      have h := Option.some.inj h
                      subst h
                      exact J1 ls (lv_sub hl [0, 1, 2, 3, 4, 5] rfl)
                    · replace h := fb_ie c18 h
                      refine lv_iinc (v := v5 + 1) (lv' := [(3, .int (v5 + 1)), (5, .int v4), (4, .int v1), (0, .ref h0), (1, .int a1), (2, .int a2)]) hx hb dX0_parallels_71 hl (k := 2) rfl rfl (by decide) rfl (fun ls hl => ?_)
                      have h := Option.some.inj h
                      subst h
                      exact J1 ls (lv_sub hl [1, 2, 0, 3, 4, 5] rfl)
        obtain ⟨o20, o21, h22, h⟩ := fb_b2s h
        refine LX0_parallels_17 _ _ _ o20 o21 h22 ls (lv_sub hl [0, 1, 2, 3, 4, 5] rfl) (fun ls hl => ?_)
        refine lv_iinc (v := v1 + 1) (lv' := [(4, .int (v1 + 1)), (5, .int o20), (3, .int o21), (0, .ref h0), (1, .int a1), (2, .int a2)]) hx hb dX0_parallels_80 hl (k := 1) rfl rfl (by decide) rfl (fun ls hl => ?_)
        refine lv_goto (tgt := 5) hx hb dX0_parallels_83 (by decide) ?_
        exact ih _ _ o23 o24 h ls (lv_sub hl [0, 2, 3, 4, 5] rfl) kx
  obtain ⟨o23, o24, h26, h⟩ := fb_b2s h
  refine LX0_parallels_5 _ _ _ o23 o24 h26 ls (lv_sub hl [0, 1, 2, 3, 4] rfl) (fun ls hl => ?_)
  refine lv_iload_n hx hb dX0_parallels_86 rfl (lv_at hl 1 rfl) ?_
  have h := Option.some.inj h
  subst h
  exact W.iret hx hb hr (fun t ht _ => ⟨rfl, ht⟩) (fun q hq => absurd hq List.not_mem_nil) dX0_parallels_87
abbrev rmX0_isHidden : Room := { frames := 2, cells := 0, slots := 0, locals := 47 }
set_option maxHeartbeats 8000000 in
set_option maxRecDepth 100000 in
theorem metX0_isHidden (l : Launch) (D : va_G) (cI : ClassId) (h0 qf qn qw ql B0 : Nat) (sz : Int32) (mi : Int32) (fg : Nat → Int32) (nt : Nat → Int32) (wt : Nat → Int32) (wl : Nat → Int32) (a1 : Int32) (ro : Int32) (h : fX0_isHidden sz mi fg nt wt wl a1 = some ro) : Met l yX0_isHidden wsX0_isHidden rmX0_isHidden (va_Pc [.ref h0, .int a1] (fb_ok D [(cI, .int)] B0 fb_sX0 (fb_wX0 cI h0 qf qn qw ql sz mi fg nt wt wl))) (QcRead ro) 0 0 (fun _ => False) := by
  refine Met.ofW (cc := cX0_isHidden) (maxL := 6) (ret := (some .boolean)) (by decide) rfl ?_
  intro p e s m args below meth c s₁ B hml hv
  obtain ⟨rfl, hP, hK, hZ⟩ := hv
  have hx := B.exec
  have hb := B.bytes
  have hr := B.returns
  have hts := atoms_spec (ws := wsX0_isHidden) B.pre
  have hown : s.vm.findClass RX0 = some m.cls := findClass_of_methodNamed B.named
  have hlocks := B.notSynchronized
  have hAB : ∀ q : Nat, (fun q => B0 ≤ q) q → B0 ≤ q := fun _ h9 => h9
  have hS : va_S (fun q => B0 ≤ q) s.heap s.heap [] := va_S.rf
  have hin0 : ∀ w ∈ u_ws RX0 TX0 6, w ∈ wsX0_isHidden := fun _ h9 => List.mem_cons_of_mem _ (List.mem_append_right _ (h9))
  have hl := lv_entry ([.ref h0, .int a1]) (n := 6) (Nat.le_of_ble_eq_true rfl)
  rw [lg_entry_eq]
  generalize (lg_sl ([.ref h0, .int a1]) ++ List.replicate (6 - (lg_sl ([.ref h0, .int a1])).length) Slot.unset).toArray = ls at hl ⊢
  have hl : lv_has ls 6 [(0, .ref h0), (1, .int a1)] := hl
  unfold fX0_isHidden at h
  refine lv_aload_n hx hb dX0_isHidden_0 rfl (lv_at hl 0 rfl) ?_
  refine lv_iload_n hx hb dX0_isHidden_1 rfl (lv_at hl 1 rfl) ?_
  refine lv_iconst (v := 0) hx hb dX0_isHidden_2 (by decide) ?_
  obtain ⟨r2, h1, h⟩ := fb_b1s h
  refine fb_callR (W.runV (As := [.int a1, .int 0]) (rest := []) ⟨hx, hb, hml, hown, hts⟩ (metX0_noteAt l D cI h0 qf qn qw ql B0 sz mi fg nt wt wl a1 0 r2 h1) (cwV 2 hts gX0_isHidden_X0_noteAt rfl rfl rfl (by decide +kernel) ⟨Nat.le_of_ble_eq_true rfl, Nat.le_of_ble_eq_true rfl⟩) (fb_preVR (ci := 0) fb_sX0p hP hK hZ hS hAB rfl rfl _) rfl rfl hl.1 rfl (lv_room (Nat.le_of_ble_eq_true rfl)) dX0_isHidden_3 ⟨Nat.le_of_ble_eq_true rfl, Nat.le_of_ble_eq_true rfl⟩) ?_
  refine lv_aload_n hx hb dX0_isHidden_6 rfl (lv_at hl 0 rfl) ?_
  refine lv_iload_n hx hb dX0_isHidden_7 rfl (lv_at hl 1 rfl) ?_
  refine lv_iconst (v := 1) hx hb dX0_isHidden_8 (by decide) ?_
  refine lv_isub hx hb dX0_isHidden_9 ?_
  refine lv_iconst (v := 0) hx hb dX0_isHidden_10 (by decide) ?_
  obtain ⟨r4, h3, h⟩ := fb_b1s h
  refine fb_callR (W.runV (As := [.int (a1 - 1), .int 0]) (rest := [.int r2]) ⟨hx, hb, hml, hown, hts⟩ (metX0_noteAt l D cI h0 qf qn qw ql B0 sz mi fg nt wt wl (a1 - 1) 0 r4 h3) (cwV 2 hts gX0_isHidden_X0_noteAt rfl rfl rfl (by decide +kernel) ⟨Nat.le_of_ble_eq_true rfl, Nat.le_of_ble_eq_true rfl⟩) (fb_preVR (ci := 0) fb_sX0p hP hK hZ hS hAB rfl rfl _) rfl rfl hl.1 rfl (lv_room (Nat.le_of_ble_eq_true rfl)) dX0_isHidden_11 ⟨Nat.le_of_ble_eq_true rfl, Nat.le_of_ble_eq_true rfl⟩) ?_
  refine lv_isub hx hb dX0_isHidden_14 ?_
  refine lv_istore_n (lv' := [(2, .int (r2 - r4)), (0, .ref h0), (1, .int a1)]) hx hb dX0_isHidden_15 rfl hl (by decide) rfl (fun ls hl => ?_)
  refine lv_aload_n hx hb dX0_isHidden_16 rfl (lv_at hl 1 rfl) ?_
  refine lv_iload_n hx hb dX0_isHidden_17 rfl (lv_at hl 2 rfl) ?_
  refine lv_iconst (v := 3) hx hb dX0_isHidden_18 (by decide) ?_
  obtain ⟨r6, h5, h⟩ := fb_b1s h
  refine fb_callR (W.runV (As := [.int a1, .int 3]) (rest := []) ⟨hx, hb, hml, hown, hts⟩ (metX0_noteAt l D cI h0 qf qn qw ql B0 sz mi fg nt wt wl a1 3 r6 h5) (cwV 2 hts gX0_isHidden_X0_noteAt rfl rfl rfl (by decide +kernel) ⟨Nat.le_of_ble_eq_true rfl, Nat.le_of_ble_eq_true rfl⟩) (fb_preVR (ci := 0) fb_sX0p hP hK hZ hS hAB rfl rfl _) rfl rfl hl.1 rfl (lv_room (Nat.le_of_ble_eq_true rfl)) dX0_isHidden_19 ⟨Nat.le_of_ble_eq_true rfl, Nat.le_of_ble_eq_true rfl⟩) ?_
  refine lv_aload_n hx hb dX0_isHidden_22 rfl (lv_at hl 1 rfl) ?_
  refine lv_iload_n hx hb dX0_isHidden_23 rfl (lv_at hl 2 rfl) ?_
  refine lv_iconst (v := 1) hx hb dX0_isHidden_24 (by decide) ?_
  refine lv_isub hx hb dX0_isHidden_25 ?_
  refine lv_iconst (v := 3) hx hb dX0_isHidden_26 (by decide) ?_
  obtain ⟨r8, h7, h⟩ := fb_b1s h
  refine fb_callR (W.runV (As := [.int (a1 - 1), .int 3]) (rest := [.int r6]) ⟨hx, hb, hml, hown, hts⟩ (metX0_noteAt l D cI h0 qf qn qw ql B0 sz mi fg nt wt wl (a1 - 1) 3 r8 h7) (cwV 2 hts gX0_isHidden_X0_noteAt rfl rfl rfl (by decide +kernel) ⟨Nat.le_of_ble_eq_true rfl, Nat.le_of_ble_eq_true rfl⟩) (fb_preVR (ci := 0) fb_sX0p hP hK hZ hS hAB rfl rfl _) rfl rfl hl.1 rfl (lv_room (Nat.le_of_ble_eq_true rfl)) dX0_isHidden_27 ⟨Nat.le_of_ble_eq_true rfl, Nat.le_of_ble_eq_true rfl⟩) ?_
  refine lv_isub hx hb dX0_isHidden_30 ?_
  refine lv_istore_n (lv' := [(3, .int (r6 - r8)), (2, .int (r2 - r4)), (0, .ref h0), (1, .int a1)]) hx hb dX0_isHidden_31 rfl hl (by decide) rfl (fun ls hl => ?_)
  refine lv_iload_n hx hb dX0_isHidden_32 rfl (lv_at hl 1 rfl) ?_
  obtain ⟨j11, hjJ1, h⟩ := fb_b1s h
  have J1 : ∀ (ls : Array Slot), lv_has ls 6 [(3, .int (r6 - r8)), (2, .int (r2 - r4)), (0, .ref h0), (1, .int a1)] → W p l e (headSpec wsX0_isHidden rmX0_isHidden).room s m ([.ref h0, .int a1] : List Value).toArray below meth c s.heap [] 0 0 (MQ below (QcRead ro) ([.ref h0, .int a1] : List Value).toArray s 0 0 (fun _ => False)) (F0 m 46 ls [.int j11]) := by
    intro ls hl
    refine lv_istore (lv' := [(4, .int j11), (3, .int (r6 - r8)), (2, .int (r2 - r4)), (0, .ref h0), (1, .int a1)]) hx hb dX0_isHidden_46 hl (by decide) rfl (fun ls hl => ?_)
    refine lv_iload_n hx hb dX0_isHidden_48 rfl (lv_at hl 2 rfl) ?_
    obtain ⟨j14, hjJ2, h⟩ := fb_b1s h
    have J2 : ∀ (ls : Array Slot), lv_has ls 6 [(4, .int j11), (0, .ref h0), (1, .int a1)] → W p l e (headSpec wsX0_isHidden rmX0_isHidden).room s m ([.ref h0, .int a1] : List Value).toArray below meth c s.heap [] 0 0 (MQ below (QcRead ro) ([.ref h0, .int a1] : List Value).toArray s 0 0 (fun _ => False)) (F0 m 63 ls [.int j14]) := by
      intro ls hl
      refine lv_istore (lv' := [(5, .int j14), (4, .int j11), (0, .ref h0), (1, .int a1)]) hx hb dX0_isHidden_63 hl (by decide) rfl (fun ls hl => ?_)
      refine lv_iload hx hb dX0_isHidden_65 (lv_at hl 1 rfl) ?_
      refine lv_if_ne (tgt := 77) hx hb dX0_isHidden_67 (by decide) (fun c15 => ?_) (fun c15 => ?_)
      · replace h := fb_ie c15 h
        refine lv_aload_n hx hb dX0_isHidden_77 rfl (lv_at hl 2 rfl) ?_
        refine lv_iload_n hx hb dX0_isHidden_78 rfl (lv_at hl 3 rfl) ?_
        refine lv_iconst (v := 0) hx hb dX0_isHidden_79 (by decide) ?_
        refine lv_iconst (v := 3) hx hb dX0_isHidden_80 (by decide) ?_
        refine lv_bipush (v := 7) hx hb dX0_isHidden_81 (by decide) ?_
        obtain ⟨r17, h16, h⟩ := fb_b1s h
        refine fb_callR (W.runV (As := [.int a1, .int 0, .int 3, .int 7]) (rest := []) ⟨hx, hb, hml, hown, hts⟩ (metX0_isInterval l D cI h0 qf qn qw ql B0 sz mi fg nt wt wl a1 0 3 7 r17 h16) (cwV 4 hts gX0_isHidden_X0_isInterval rfl rfl rfl (by decide +kernel) ⟨Nat.le_of_ble_eq_true rfl, Nat.le_of_ble_eq_true rfl⟩) (fb_preVR (ci := 0) fb_sX0p hP hK hZ hS hAB rfl rfl _) rfl rfl hl.1 rfl (lv_room (Nat.le_of_ble_eq_true rfl)) dX0_isHidden_83 ⟨Nat.le_of_ble_eq_true rfl, Nat.le_of_ble_eq_true rfl⟩) ?_
        refine lv_if_ne (tgt := 100) hx hb dX0_isHidden_86 (by decide) (fun c18 => ?_) (fun c18 => ?_)
        · replace h := fb_ie c18 h
          refine lv_iconst (v := 1) hx hb dX0_isHidden_100 (by decide) ?_
          refine lv_goto (tgt := 105) hx hb dX0_isHidden_101 (by decide) ?_
          have h := Option.some.inj h
          subst h
          exact W.zret (ty := .boolean) hx hb hr rfl (fun t ht _ => ⟨rfl, ht⟩) (fun q hq => absurd hq List.not_mem_nil) dX0_isHidden_105
        · replace h := fb_it c18 h
          refine lv_aload_n hx hb dX0_isHidden_89 rfl (lv_at hl 2 rfl) ?_
          refine lv_iload_n hx hb dX0_isHidden_90 rfl (lv_at hl 3 rfl) ?_
          refine lv_iconst (v := 0) hx hb dX0_isHidden_91 (by decide) ?_
          refine lv_iconst (v := 3) hx hb dX0_isHidden_92 (by decide) ?_
          refine lv_iconst (v := 0) hx hb dX0_isHidden_93 (by decide) ?_
          obtain ⟨r21, h20, h⟩ := fb_b1s h
          refine fb_callR (W.runV (As := [.int a1, .int 0, .int 3, .int 0]) (rest := []) ⟨hx, hb, hml, hown, hts⟩ (metX0_isInterval l D cI h0 qf qn qw ql B0 sz mi fg nt wt wl a1 0 3 0 r21 h20) (cwV 4 hts gX0_isHidden_X0_isInterval rfl rfl rfl (by decide +kernel) ⟨Nat.le_of_ble_eq_true rfl, Nat.le_of_ble_eq_true rfl⟩) (fb_preVR (ci := 0) fb_sX0p hP hK hZ hS hAB rfl rfl _) rfl rfl hl.1 rfl (lv_room (Nat.le_of_ble_eq_true rfl)) dX0_isHidden_94 ⟨Nat.le_of_ble_eq_true rfl, Nat.le_of_ble_eq_true rfl⟩) ?_
          refine lv_if_eq (tgt := 104) hx hb dX0_isHidden_97 (by decide) (fun c22 => ?_) (fun c22 => ?_)
          · replace h := fb_it c22 h
            refine lv_iconst (v := 0) hx hb dX0_isHidden_104 (by decide) ?_
            have h := Option.some.inj h
            subst h
            exact W.zret (ty := .boolean) hx hb hr rfl (fun t ht _ => ⟨rfl, ht⟩) (fun q hq => absurd hq List.not_mem_nil) dX0_isHidden_105
          · replace h := fb_ie c22 h
            refine lv_iconst (v := 1) hx hb dX0_isHidden_100 (by decide) ?_
            refine lv_goto (tgt := 105) hx hb dX0_isHidden_101 (by decide) ?_
            have h := Option.some.inj h
            subst h
            exact W.zret (ty := .boolean) hx hb hr rfl (fun t ht _ => ⟨rfl, ht⟩) (fun q hq => absurd hq List.not_mem_nil) dX0_isHidden_105
      · replace h := fb_it c15 h
        refine lv_iload hx hb dX0_isHidden_70 (lv_at hl 0 rfl) ?_
        refine lv_if_ne (tgt := 77) hx hb dX0_isHidden_72 (by decide) (fun c25 => ?_) (fun c25 => ?_)
        · replace h := fb_ie c25 h
          refine lv_aload_n hx hb dX0_isHidden_77 rfl (lv_at hl 2 rfl) ?_
          refine lv_iload_n hx hb dX0_isHidden_78 rfl (lv_at hl 3 rfl) ?_
          refine lv_iconst (v := 0) hx hb dX0_isHidden_79 (by decide) ?_
          refine lv_iconst (v := 3) hx hb dX0_isHidden_80 (by decide) ?_
          refine lv_bipush (v := 7) hx hb dX0_isHidden_81 (by decide) ?_
          obtain ⟨r27, h26, h⟩ := fb_b1s h
          refine fb_callR (W.runV (As := [.int a1, .int 0, .int 3, .int 7]) (rest := []) ⟨hx, hb, hml, hown, hts⟩ (metX0_isInterval l D cI h0 qf qn qw ql B0 sz mi fg nt wt wl a1 0 3 7 r27 h26) (cwV 4 hts gX0_isHidden_X0_isInterval rfl rfl rfl (by decide +kernel) ⟨Nat.le_of_ble_eq_true rfl, Nat.le_of_ble_eq_true rfl⟩) (fb_preVR (ci := 0) fb_sX0p hP hK hZ hS hAB rfl rfl _) rfl rfl hl.1 rfl (lv_room (Nat.le_of_ble_eq_true rfl)) dX0_isHidden_83 ⟨Nat.le_of_ble_eq_true rfl, Nat.le_of_ble_eq_true rfl⟩) ?_
          refine lv_if_ne (tgt := 100) hx hb dX0_isHidden_86 (by decide) (fun c28 => ?_) (fun c28 => ?_)
          · replace h := fb_ie c28 h
            refine lv_iconst (v := 1) hx hb dX0_isHidden_100 (by decide) ?_
            refine lv_goto (tgt := 105) hx hb dX0_isHidden_101 (by decide) ?_
            have h := Option.some.inj h
            subst h
            exact W.zret (ty := .boolean) hx hb hr rfl (fun t ht _ => ⟨rfl, ht⟩) (fun q hq => absurd hq List.not_mem_nil) dX0_isHidden_105
          · replace h := fb_it c28 h
            refine lv_aload_n hx hb dX0_isHidden_89 rfl (lv_at hl 2 rfl) ?_
            refine lv_iload_n hx hb dX0_isHidden_90 rfl (lv_at hl 3 rfl) ?_
            refine lv_iconst (v := 0) hx hb dX0_isHidden_91 (by decide) ?_
            refine lv_iconst (v := 3) hx hb dX0_isHidden_92 (by decide) ?_
            refine lv_iconst (v := 0) hx hb dX0_isHidden_93 (by decide) ?_
            obtain ⟨r31, h30, h⟩ := fb_b1s h
            refine fb_callR (W.runV (As := [.int a1, .int 0, .int 3, .int 0]) (rest := []) ⟨hx, hb, hml, hown, hts⟩ (metX0_isInterval l D cI h0 qf qn qw ql B0 sz mi fg nt wt wl a1 0 3 0 r31 h30) (cwV 4 hts gX0_isHidden_X0_isInterval rfl rfl rfl (by decide +kernel) ⟨Nat.le_of_ble_eq_true rfl, Nat.le_of_ble_eq_true rfl⟩) (fb_preVR (ci := 0) fb_sX0p hP hK hZ hS hAB rfl rfl _) rfl rfl hl.1 rfl (lv_room (Nat.le_of_ble_eq_true rfl)) dX0_isHidden_94 ⟨Nat.le_of_ble_eq_true rfl, Nat.le_of_ble_eq_true rfl⟩) ?_
            refine lv_if_eq (tgt := 104) hx hb dX0_isHidden_97 (by decide) (fun c32 => ?_) (fun c32 => ?_)
            · replace h := fb_it c32 h
              refine lv_iconst (v := 0) hx hb dX0_isHidden_104 (by decide) ?_
              have h := Option.some.inj h
              subst h
              exact W.zret (ty := .boolean) hx hb hr rfl (fun t ht _ => ⟨rfl, ht⟩) (fun q hq => absurd hq List.not_mem_nil) dX0_isHidden_105
            · replace h := fb_ie c32 h
              refine lv_iconst (v := 1) hx hb dX0_isHidden_100 (by decide) ?_
              refine lv_goto (tgt := 105) hx hb dX0_isHidden_101 (by decide) ?_
              have h := Option.some.inj h
              subst h
              exact W.zret (ty := .boolean) hx hb hr rfl (fun t ht _ => ⟨rfl, ht⟩) (fun q hq => absurd hq List.not_mem_nil) dX0_isHidden_105
        · replace h := fb_it c25 h
          refine lv_iconst (v := 0) hx hb dX0_isHidden_75 (by decide) ?_
          have h := Option.some.inj h
          subst h
          exact W.zret (ty := .boolean) hx hb hr rfl (fun t ht _ => ⟨rfl, ht⟩) (fun q hq => absurd hq List.not_mem_nil) dX0_isHidden_76
    replace h := hjJ2
    refine lv_if_ge (tgt := 62) hx hb dX0_isHidden_49 (by decide) (fun c12 => ?_) (fun c12 => ?_)
    · replace h := fb_it c12 h
      refine lv_iconst (v := 0) hx hb dX0_isHidden_62 (by decide) ?_
      have h := Option.some.inj h
      subst h
      exact J2 ls (lv_sub hl [0, 3, 4] rfl)
    · replace h := fb_ie c12 h
      refine lv_iload_n hx hb dX0_isHidden_52 rfl (lv_at hl 1 rfl) ?_
      refine lv_bipush (v := (-2)) hx hb dX0_isHidden_53 (by decide) ?_
      refine lv_icmp_gt (tgt := 62) hx hb dX0_isHidden_55 (by decide) (fun c13 => ?_) (fun c13 => ?_)
      · replace h := fb_it c13 h
        refine lv_iconst (v := 0) hx hb dX0_isHidden_62 (by decide) ?_
        have h := Option.some.inj h
        subst h
        exact J2 ls (lv_sub hl [0, 3, 4] rfl)
      · replace h := fb_ie c13 h
        refine lv_iconst (v := 1) hx hb dX0_isHidden_58 (by decide) ?_
        refine lv_goto (tgt := 63) hx hb dX0_isHidden_59 (by decide) ?_
        have h := Option.some.inj h
        subst h
        exact J2 ls (lv_sub hl [0, 3, 4] rfl)
  replace h := hjJ1
  refine lv_if_le (tgt := 45) hx hb dX0_isHidden_33 (by decide) (fun c9 => ?_) (fun c9 => ?_)
  · replace h := fb_it c9 h
    refine lv_iconst (v := 0) hx hb dX0_isHidden_45 (by decide) ?_
    have h := Option.some.inj h
    subst h
    exact J1 ls (lv_sub hl [0, 1, 2, 3] rfl)
  · replace h := fb_ie c9 h
    refine lv_iload_n hx hb dX0_isHidden_36 rfl (lv_at hl 0 rfl) ?_
    refine lv_iconst (v := 2) hx hb dX0_isHidden_37 (by decide) ?_
    refine lv_icmp_lt (tgt := 45) hx hb dX0_isHidden_38 (by decide) (fun c10 => ?_) (fun c10 => ?_)
    · replace h := fb_it c10 h
      refine lv_iconst (v := 0) hx hb dX0_isHidden_45 (by decide) ?_
      have h := Option.some.inj h
      subst h
      exact J1 ls (lv_sub hl [0, 1, 2, 3] rfl)
    · replace h := fb_ie c10 h
      refine lv_iconst (v := 1) hx hb dX0_isHidden_41 (by decide) ?_
      refine lv_goto (tgt := 46) hx hb dX0_isHidden_42 (by decide) ?_
      have h := Option.some.inj h
      subst h
      exact J1 ls (lv_sub hl [0, 1, 2, 3] rfl)
abbrev rmX0_isAtFault : Room := { frames := 1, cells := 0, slots := 0, locals := 22 }
set_option maxHeartbeats 8000000 in
set_option maxRecDepth 100000 in
theorem metX0_isAtFault (l : Launch) (D : va_G) (cI : ClassId) (h0 qf qn qw ql B0 : Nat) (sz : Int32) (mi : Int32) (fg : Nat → Int32) (nt : Nat → Int32) (wt : Nat → Int32) (wl : Nat → Int32) (a1 : Int32) (a2 : Int32) (a3 : Int32) (ro : Int32) (h : fX0_isAtFault sz mi fg nt wt wl a1 a2 a3 = some ro) : Met l yX0_isAtFault wsX0_isAtFault rmX0_isAtFault (va_Pc [.ref h0, .int a1, .int a2, .int a3] (fb_ok D [(cI, .int)] B0 fb_sX0 (fb_wX0 cI h0 qf qn qw ql sz mi fg nt wt wl))) (QcRead ro) 0 0 (fun _ => False) := by
  refine Met.ofW (cc := cX0_isAtFault) (maxL := 8) (ret := (some .boolean)) (by decide) rfl ?_
  intro p e s m args below meth c s₁ B hml hv
  obtain ⟨rfl, hP, hK, hZ⟩ := hv
  have hx := B.exec
  have hb := B.bytes
  have hr := B.returns
  have hts := atoms_spec (ws := wsX0_isAtFault) B.pre
  have hown : s.vm.findClass RX0 = some m.cls := findClass_of_methodNamed B.named
  have hlocks := B.notSynchronized
  have hAB : ∀ q : Nat, (fun q => B0 ≤ q) q → B0 ≤ q := fun _ h9 => h9
  have hS : va_S (fun q => B0 ≤ q) s.heap s.heap [] := va_S.rf
  have hin0 : ∀ w ∈ u_ws RX0 TX0 6, w ∈ wsX0_isAtFault := fun _ h9 => List.mem_cons_of_mem _ (List.mem_append_right _ (h9))
  have w_f17 : (Cond.fieldLink RX0 17 "FiguredBass" "figures" "[I") ∈ wsX0_isAtFault := List.mem_of_getElem? (i := 1) rfl
  have hl := lv_entry ([.ref h0, .int a1, .int a2, .int a3]) (n := 8) (Nat.le_of_ble_eq_true rfl)
  rw [lg_entry_eq]
  generalize (lg_sl ([.ref h0, .int a1, .int a2, .int a3]) ++ List.replicate (8 - (lg_sl ([.ref h0, .int a1, .int a2, .int a3])).length) Slot.unset).toArray = ls at hl ⊢
  have hl : lv_has ls 8 [(0, .ref h0), (1, .int a1), (2, .int a2), (3, .int a3)] := hl
  unfold fX0_isAtFault at h
  refine lv_iload_n hx hb dX0_isAtFault_0 rfl (lv_at hl 1 rfl) ?_
  refine lv_iconst (v := 1) hx hb dX0_isAtFault_1 (by decide) ?_
  refine lv_isub hx hb dX0_isAtFault_2 ?_
  refine lv_istore (lv' := [(4, .int (a1 - 1)), (0, .ref h0), (1, .int a1), (2, .int a2), (3, .int a3)]) hx hb dX0_isAtFault_3 hl (by decide) rfl (fun ls hl => ?_)
  refine lv_aload_n hx hb dX0_isAtFault_5 rfl (lv_at hl 1 rfl) ?_
  refine lv_iload hx hb dX0_isAtFault_6 (lv_at hl 0 rfl) ?_
  refine lv_iload_n hx hb dX0_isAtFault_8 rfl (lv_at hl 3 rfl) ?_
  obtain ⟨r2, h1, h⟩ := fb_b1s h
  refine fb_callR (W.runV (As := [.int (a1 - 1), .int a2]) (rest := []) ⟨hx, hb, hml, hown, hts⟩ (metX0_noteAt l D cI h0 qf qn qw ql B0 sz mi fg nt wt wl (a1 - 1) a2 r2 h1) (cwV 2 hts gX0_isAtFault_X0_noteAt rfl rfl rfl (by decide +kernel) ⟨Nat.le_of_ble_eq_true rfl, Nat.le_of_ble_eq_true rfl⟩) (fb_preVR (ci := 0) fb_sX0p hP hK hZ hS hAB rfl rfl _) rfl rfl hl.1 rfl (lv_room (Nat.le_of_ble_eq_true rfl)) dX0_isAtFault_9 ⟨Nat.le_of_ble_eq_true rfl, Nat.le_of_ble_eq_true rfl⟩) ?_
  refine lv_istore (lv' := [(5, .int r2), (4, .int (a1 - 1)), (0, .ref h0), (1, .int a1), (2, .int a2), (3, .int a3)]) hx hb dX0_isAtFault_12 hl (by decide) rfl (fun ls hl => ?_)
  refine lv_aload_n hx hb dX0_isAtFault_14 rfl (lv_at hl 2 rfl) ?_
  refine lv_iload_n hx hb dX0_isAtFault_15 rfl (lv_at hl 3 rfl) ?_
  refine lv_iload_n hx hb dX0_isAtFault_16 rfl (lv_at hl 4 rfl) ?_
  obtain ⟨r4, h3, h⟩ := fb_b1s h
  refine fb_callR (W.runV (As := [.int a1, .int a2]) (rest := []) ⟨hx, hb, hml, hown, hts⟩ (metX0_noteAt l D cI h0 qf qn qw ql B0 sz mi fg nt wt wl a1 a2 r4 h3) (cwV 2 hts gX0_isAtFault_X0_noteAt rfl rfl rfl (by decide +kernel) ⟨Nat.le_of_ble_eq_true rfl, Nat.le_of_ble_eq_true rfl⟩) (fb_preVR (ci := 0) fb_sX0p hP hK hZ hS hAB rfl rfl _) rfl rfl hl.1 rfl (lv_room (Nat.le_of_ble_eq_true rfl)) dX0_isAtFault_17 ⟨Nat.le_of_ble_eq_true rfl, Nat.le_of_ble_eq_true rfl⟩) ?_
  refine lv_istore (lv' := [(6, .int r4), (5, .int r2), (4, .int (a1 - 1)), (0, .ref h0), (1, .int a1), (2, .int a2), (3, .int a3)]) hx hb dX0_isAtFault_20 hl (by decide) rfl (fun ls hl => ?_)
  refine lv_iload hx hb dX0_isAtFault_22 (lv_at hl 0 rfl) ?_
  refine lv_iload hx hb dX0_isAtFault_24 (lv_at hl 1 rfl) ?_
  refine lv_isub hx hb dX0_isAtFault_26 ?_
  refine lv_istore (lv' := [(7, .int (r4 - r2)), (6, .int r4), (5, .int r2), (4, .int (a1 - 1)), (0, .ref h0), (1, .int a1), (2, .int a2), (3, .int a3)]) hx hb dX0_isAtFault_27 hl (by decide) rfl (fun ls hl => ?_)
  refine lv_iload_n hx hb dX0_isAtFault_29 rfl (lv_at hl 7 rfl) ?_
  by_cases c5_0 : a3 = 3
  · replace h := fb_it c5_0 h
    refine lv_tableIn (off := 34) (tgt := 64) hx hb dX0_isAtFault_30 (by rw [c5_0]; decide) (by rw [c5_0]; decide) (by rw [c5_0]; rfl) (by decide) ?_
    refine lv_aload_n hx hb dX0_isAtFault_64 rfl (lv_at hl 4 rfl) ?_
    refine va_get (D := D) (ci := 0) (v := .ref qf) (C := RX0) (T := TX0) (N := 6) hx hb hts hin0 hown hK hP 0 rfl rfl 2 (by decide) (hts _ w_f17) (fun _ h9 => h9) rfl dX0_isAtFault_65 ?_
    refine lv_iload_n hx hb dX0_isAtFault_68 rfl (lv_at hl 5 rfl) ?_
    obtain ⟨hi6, h⟩ := fb_cks h
    refine va_iald hx hb hK hP 1 0 rfl rfl (fb_ixin hi6) dX0_isAtFault_69 ?_
    refine lv_iconst (v := 4) hx hb dX0_isAtFault_70 (by decide) ?_
    refine lv_icmp_ne (tgt := 98) hx hb dX0_isAtFault_71 (by decide) (fun c7 => ?_) (fun c7 => ?_)
    · replace h := fb_ie c7 h
      refine lv_iconst (v := 0) hx hb dX0_isAtFault_98 (by decide) ?_
      have h := Option.some.inj h
      subst h
      exact W.zret (ty := .boolean) hx hb hr rfl (fun t ht _ => ⟨rfl, ht⟩) (fun q hq => absurd hq List.not_mem_nil) dX0_isAtFault_99
    · replace h := fb_it c7 h
      refine lv_aload_n hx hb dX0_isAtFault_74 rfl (lv_at hl 4 rfl) ?_
      refine lv_iload_n hx hb dX0_isAtFault_75 rfl (lv_at hl 5 rfl) ?_
      refine lv_iconst (v := 0) hx hb dX0_isAtFault_76 (by decide) ?_
      obtain ⟨r10, h9, h⟩ := fb_b1s h
      refine fb_callR (W.runV (As := [.int a1, .int 0]) (rest := []) ⟨hx, hb, hml, hown, hts⟩ (metX0_noteAt l D cI h0 qf qn qw ql B0 sz mi fg nt wt wl a1 0 r10 h9) (cwV 2 hts gX0_isAtFault_X0_noteAt rfl rfl rfl (by decide +kernel) ⟨Nat.le_of_ble_eq_true rfl, Nat.le_of_ble_eq_true rfl⟩) (fb_preVR (ci := 0) fb_sX0p hP hK hZ hS hAB rfl rfl _) rfl rfl hl.1 rfl (lv_room (Nat.le_of_ble_eq_true rfl)) dX0_isAtFault_77 ⟨Nat.le_of_ble_eq_true rfl, Nat.le_of_ble_eq_true rfl⟩) ?_
      refine lv_iload hx hb dX0_isAtFault_80 (lv_at hl 1 rfl) ?_
      obtain ⟨r12, h11, h⟩ := fb_b1s h
      refine fb_callR (W.runS (As := [.int r10, .int r4]) (rest := []) ⟨hx, hb, hml, hown, hts⟩ (metX0_stepAbove l B0 r10 r4 r12 h11) (va_cwS 2 hts gX0_isAtFault_X0_stepAbove rfl rfl rfl (by decide +kernel) ⟨Nat.le_of_ble_eq_true rfl, Nat.le_of_ble_eq_true rfl⟩) (fb_preS fb_sX0p hZ hS hAB _) rfl rfl hl.1 rfl (lv_room (Nat.le_of_ble_eq_true rfl)) dX0_isAtFault_82 ⟨Nat.le_of_ble_eq_true rfl, Nat.le_of_ble_eq_true rfl⟩) ?_
      refine lv_iconst (v := 3) hx hb dX0_isAtFault_85 (by decide) ?_
      refine lv_icmp_ne (tgt := 98) hx hb dX0_isAtFault_86 (by decide) (fun c13 => ?_) (fun c13 => ?_)
      · replace h := fb_ie c13 h
        refine lv_iconst (v := 0) hx hb dX0_isAtFault_98 (by decide) ?_
        have h := Option.some.inj h
        subst h
        exact W.zret (ty := .boolean) hx hb hr rfl (fun t ht _ => ⟨rfl, ht⟩) (fun q hq => absurd hq List.not_mem_nil) dX0_isAtFault_99
      · replace h := fb_it c13 h
        refine lv_iload hx hb dX0_isAtFault_89 (lv_at hl 0 rfl) ?_
        refine lv_if_eq (tgt := 98) hx hb dX0_isAtFault_91 (by decide) (fun c15 => ?_) (fun c15 => ?_)
        · replace h := fb_it c15 h
          refine lv_iconst (v := 0) hx hb dX0_isAtFault_98 (by decide) ?_
          have h := Option.some.inj h
          subst h
          exact W.zret (ty := .boolean) hx hb hr rfl (fun t ht _ => ⟨rfl, ht⟩) (fun q hq => absurd hq List.not_mem_nil) dX0_isAtFault_99
        · replace h := fb_ie c15 h
          refine lv_iconst (v := 1) hx hb dX0_isAtFault_94 (by decide) ?_
          refine lv_goto (tgt := 99) hx hb dX0_isAtFault_95 (by decide) ?_
          have h := Option.some.inj h
          subst h
          exact W.zret (ty := .boolean) hx hb hr rfl (fun t ht _ => ⟨rfl, ht⟩) (fun q hq => absurd hq List.not_mem_nil) dX0_isAtFault_99
  replace h := fb_ie c5_0 h
  by_cases c5_1 : a3 = 4
  · replace h := fb_it c5_1 h
    refine lv_tableIn (off := 70) (tgt := 100) hx hb dX0_isAtFault_30 (by rw [c5_1]; decide) (by rw [c5_1]; decide) (by rw [c5_1]; rfl) (by decide) ?_
    refine lv_aload_n hx hb dX0_isAtFault_100 rfl (lv_at hl 4 rfl) ?_
    refine va_get (D := D) (ci := 0) (v := .ref qf) (C := RX0) (T := TX0) (N := 6) hx hb hts hin0 hown hK hP 0 rfl rfl 2 (by decide) (hts _ w_f17) (fun _ h9 => h9) rfl dX0_isAtFault_101 ?_
    refine lv_iload hx hb dX0_isAtFault_104 (lv_at hl 3 rfl) ?_
    obtain ⟨hi18, h⟩ := fb_cks h
    refine va_iald hx hb hK hP 1 0 rfl rfl (fb_ixin hi18) dX0_isAtFault_106 ?_
    refine lv_iconst (v := 4) hx hb dX0_isAtFault_107 (by decide) ?_
    refine lv_icmp_ne (tgt := 137) hx hb dX0_isAtFault_108 (by decide) (fun c19 => ?_) (fun c19 => ?_)
    · replace h := fb_ie c19 h
      refine lv_iconst (v := 0) hx hb dX0_isAtFault_137 (by decide) ?_
      have h := Option.some.inj h
      subst h
      exact W.zret (ty := .boolean) hx hb hr rfl (fun t ht _ => ⟨rfl, ht⟩) (fun q hq => absurd hq List.not_mem_nil) dX0_isAtFault_138
    · replace h := fb_it c19 h
      refine lv_aload_n hx hb dX0_isAtFault_111 rfl (lv_at hl 4 rfl) ?_
      refine lv_iload hx hb dX0_isAtFault_112 (lv_at hl 3 rfl) ?_
      refine lv_iconst (v := 0) hx hb dX0_isAtFault_114 (by decide) ?_
      obtain ⟨r22, h21, h⟩ := fb_b1s h
      refine fb_callR (W.runV (As := [.int (a1 - 1), .int 0]) (rest := []) ⟨hx, hb, hml, hown, hts⟩ (metX0_noteAt l D cI h0 qf qn qw ql B0 sz mi fg nt wt wl (a1 - 1) 0 r22 h21) (cwV 2 hts gX0_isAtFault_X0_noteAt rfl rfl rfl (by decide +kernel) ⟨Nat.le_of_ble_eq_true rfl, Nat.le_of_ble_eq_true rfl⟩) (fb_preVR (ci := 0) fb_sX0p hP hK hZ hS hAB rfl rfl _) rfl rfl hl.1 rfl (lv_room (Nat.le_of_ble_eq_true rfl)) dX0_isAtFault_115 ⟨Nat.le_of_ble_eq_true rfl, Nat.le_of_ble_eq_true rfl⟩) ?_
      refine lv_iload hx hb dX0_isAtFault_118 (lv_at hl 2 rfl) ?_
      obtain ⟨r24, h23, h⟩ := fb_b1s h
      refine fb_callR (W.runS (As := [.int r22, .int r2]) (rest := []) ⟨hx, hb, hml, hown, hts⟩ (metX0_stepAbove l B0 r22 r2 r24 h23) (va_cwS 2 hts gX0_isAtFault_X0_stepAbove rfl rfl rfl (by decide +kernel) ⟨Nat.le_of_ble_eq_true rfl, Nat.le_of_ble_eq_true rfl⟩) (fb_preS fb_sX0p hZ hS hAB _) rfl rfl hl.1 rfl (lv_room (Nat.le_of_ble_eq_true rfl)) dX0_isAtFault_120 ⟨Nat.le_of_ble_eq_true rfl, Nat.le_of_ble_eq_true rfl⟩) ?_
      refine lv_iconst (v := 3) hx hb dX0_isAtFault_123 (by decide) ?_
      refine lv_icmp_ne (tgt := 137) hx hb dX0_isAtFault_124 (by decide) (fun c25 => ?_) (fun c25 => ?_)
      · replace h := fb_ie c25 h
        refine lv_iconst (v := 0) hx hb dX0_isAtFault_137 (by decide) ?_
        have h := Option.some.inj h
        subst h
        exact W.zret (ty := .boolean) hx hb hr rfl (fun t ht _ => ⟨rfl, ht⟩) (fun q hq => absurd hq List.not_mem_nil) dX0_isAtFault_138
      · replace h := fb_it c25 h
        refine lv_iload hx hb dX0_isAtFault_127 (lv_at hl 0 rfl) ?_
        refine lv_iconst (v := (-1)) hx hb dX0_isAtFault_129 (by decide) ?_
        refine lv_icmp_eq (tgt := 137) hx hb dX0_isAtFault_130 (by decide) (fun c27 => ?_) (fun c27 => ?_)
        · replace h := fb_it c27 h
          refine lv_iconst (v := 0) hx hb dX0_isAtFault_137 (by decide) ?_
          have h := Option.some.inj h
          subst h
          exact W.zret (ty := .boolean) hx hb hr rfl (fun t ht _ => ⟨rfl, ht⟩) (fun q hq => absurd hq List.not_mem_nil) dX0_isAtFault_138
        · replace h := fb_ie c27 h
          refine lv_iconst (v := 1) hx hb dX0_isAtFault_133 (by decide) ?_
          refine lv_goto (tgt := 138) hx hb dX0_isAtFault_134 (by decide) ?_
          have h := Option.some.inj h
          subst h
          exact W.zret (ty := .boolean) hx hb hr rfl (fun t ht _ => ⟨rfl, ht⟩) (fun q hq => absurd hq List.not_mem_nil) dX0_isAtFault_138
  replace h := fb_ie c5_1 h
  by_cases c5_2 : a3 = 5
  · replace h := fb_it c5_2 h
    refine lv_tableIn (off := 109) (tgt := 139) hx hb dX0_isAtFault_30 (by rw [c5_2]; decide) (by rw [c5_2]; decide) (by rw [c5_2]; rfl) (by decide) ?_
    refine lv_aload_n hx hb dX0_isAtFault_139 rfl (lv_at hl 4 rfl) ?_
    refine lv_iload_n hx hb dX0_isAtFault_140 rfl (lv_at hl 5 rfl) ?_
    refine lv_iconst (v := 0) hx hb dX0_isAtFault_141 (by decide) ?_
    obtain ⟨r31, h30, h⟩ := fb_b1s h
    refine fb_callR (W.runV (As := [.int a1, .int 0]) (rest := []) ⟨hx, hb, hml, hown, hts⟩ (metX0_noteAt l D cI h0 qf qn qw ql B0 sz mi fg nt wt wl a1 0 r31 h30) (cwV 2 hts gX0_isAtFault_X0_noteAt rfl rfl rfl (by decide +kernel) ⟨Nat.le_of_ble_eq_true rfl, Nat.le_of_ble_eq_true rfl⟩) (fb_preVR (ci := 0) fb_sX0p hP hK hZ hS hAB rfl rfl _) rfl rfl hl.1 rfl (lv_room (Nat.le_of_ble_eq_true rfl)) dX0_isAtFault_142 ⟨Nat.le_of_ble_eq_true rfl, Nat.le_of_ble_eq_true rfl⟩) ?_
    refine lv_bipush (v := 7) hx hb dX0_isAtFault_145 (by decide) ?_
    refine lv_irem hx hb dX0_isAtFault_147 (by decide) ?_
    refine lv_if_ne (tgt := 171) hx hb dX0_isAtFault_148 (by decide) (fun c32 => ?_) (fun c32 => ?_)
    · replace h := fb_ie c32 h
      refine lv_iconst (v := 0) hx hb dX0_isAtFault_171 (by decide) ?_
      have h := Option.some.inj h
      subst h
      exact W.zret (ty := .boolean) hx hb hr rfl (fun t ht _ => ⟨rfl, ht⟩) (fun q hq => absurd hq List.not_mem_nil) dX0_isAtFault_172
    · replace h := fb_it c32 h
      refine lv_iload hx hb dX0_isAtFault_151 (lv_at hl 2 rfl) ?_
      refine lv_bipush (v := 7) hx hb dX0_isAtFault_153 (by decide) ?_
      refine lv_irem hx hb dX0_isAtFault_155 (by decide) ?_
      refine lv_bipush (v := 6) hx hb dX0_isAtFault_156 (by decide) ?_
      refine lv_icmp_ne (tgt := 171) hx hb dX0_isAtFault_158 (by decide) (fun c34 => ?_) (fun c34 => ?_)
      · replace h := fb_ie c34 h
        refine lv_iconst (v := 0) hx hb dX0_isAtFault_171 (by decide) ?_
        have h := Option.some.inj h
        subst h
        exact W.zret (ty := .boolean) hx hb hr rfl (fun t ht _ => ⟨rfl, ht⟩) (fun q hq => absurd hq List.not_mem_nil) dX0_isAtFault_172
      · replace h := fb_it c34 h
        refine lv_iload hx hb dX0_isAtFault_161 (lv_at hl 0 rfl) ?_
        refine lv_iconst (v := 1) hx hb dX0_isAtFault_163 (by decide) ?_
        refine lv_icmp_eq (tgt := 171) hx hb dX0_isAtFault_164 (by decide) (fun c36 => ?_) (fun c36 => ?_)
        · replace h := fb_it c36 h
          refine lv_iconst (v := 0) hx hb dX0_isAtFault_171 (by decide) ?_
          have h := Option.some.inj h
          subst h
          exact W.zret (ty := .boolean) hx hb hr rfl (fun t ht _ => ⟨rfl, ht⟩) (fun q hq => absurd hq List.not_mem_nil) dX0_isAtFault_172
        · replace h := fb_ie c36 h
          refine lv_iconst (v := 1) hx hb dX0_isAtFault_167 (by decide) ?_
          refine lv_goto (tgt := 172) hx hb dX0_isAtFault_168 (by decide) ?_
          have h := Option.some.inj h
          subst h
          exact W.zret (ty := .boolean) hx hb hr rfl (fun t ht _ => ⟨rfl, ht⟩) (fun q hq => absurd hq List.not_mem_nil) dX0_isAtFault_172
  replace h := fb_ie c5_2 h
  by_cases c5_3 : a3 = 6
  · replace h := fb_it c5_3 h
    refine lv_tableIn (off := 143) (tgt := 173) hx hb dX0_isAtFault_30 (by rw [c5_3]; decide) (by rw [c5_3]; decide) (by rw [c5_3]; rfl) (by decide) ?_
    refine lv_aload_n hx hb dX0_isAtFault_173 rfl (lv_at hl 4 rfl) ?_
    refine va_get (D := D) (ci := 0) (v := .ref qf) (C := RX0) (T := TX0) (N := 6) hx hb hts hin0 hown hK hP 0 rfl rfl 2 (by decide) (hts _ w_f17) (fun _ h9 => h9) rfl dX0_isAtFault_174 ?_
    refine lv_iload hx hb dX0_isAtFault_177 (lv_at hl 3 rfl) ?_
    obtain ⟨hi39, h⟩ := fb_cks h
    refine va_iald hx hb hK hP 1 0 rfl rfl (fb_ixin hi39) dX0_isAtFault_179 ?_
    refine lv_iconst (v := 3) hx hb dX0_isAtFault_180 (by decide) ?_
    refine lv_icmp_ne (tgt := 216) hx hb dX0_isAtFault_181 (by decide) (fun c40 => ?_) (fun c40 => ?_)
    · replace h := fb_ie c40 h
      refine lv_iconst (v := 0) hx hb dX0_isAtFault_216 (by decide) ?_
      have h := Option.some.inj h
      subst h
      exact W.zret (ty := .boolean) hx hb hr rfl (fun t ht _ => ⟨rfl, ht⟩) (fun q hq => absurd hq List.not_mem_nil) dX0_isAtFault_217
    · replace h := fb_it c40 h
      refine lv_aload_n hx hb dX0_isAtFault_184 rfl (lv_at hl 4 rfl) ?_
      refine lv_iload hx hb dX0_isAtFault_185 (lv_at hl 3 rfl) ?_
      refine lv_iconst (v := 0) hx hb dX0_isAtFault_187 (by decide) ?_
      obtain ⟨r43, h42, h⟩ := fb_b1s h
      refine fb_callR (W.runV (As := [.int (a1 - 1), .int 0]) (rest := []) ⟨hx, hb, hml, hown, hts⟩ (metX0_noteAt l D cI h0 qf qn qw ql B0 sz mi fg nt wt wl (a1 - 1) 0 r43 h42) (cwV 2 hts gX0_isAtFault_X0_noteAt rfl rfl rfl (by decide +kernel) ⟨Nat.le_of_ble_eq_true rfl, Nat.le_of_ble_eq_true rfl⟩) (fb_preVR (ci := 0) fb_sX0p hP hK hZ hS hAB rfl rfl _) rfl rfl hl.1 rfl (lv_room (Nat.le_of_ble_eq_true rfl)) dX0_isAtFault_188 ⟨Nat.le_of_ble_eq_true rfl, Nat.le_of_ble_eq_true rfl⟩) ?_
      refine lv_iload hx hb dX0_isAtFault_191 (lv_at hl 2 rfl) ?_
      obtain ⟨r45, h44, h⟩ := fb_b1s h
      refine fb_callR (W.runS (As := [.int r43, .int r2]) (rest := []) ⟨hx, hb, hml, hown, hts⟩ (metX0_stepAbove l B0 r43 r2 r45 h44) (va_cwS 2 hts gX0_isAtFault_X0_stepAbove rfl rfl rfl (by decide +kernel) ⟨Nat.le_of_ble_eq_true rfl, Nat.le_of_ble_eq_true rfl⟩) (fb_preS fb_sX0p hZ hS hAB _) rfl rfl hl.1 rfl (lv_room (Nat.le_of_ble_eq_true rfl)) dX0_isAtFault_193 ⟨Nat.le_of_ble_eq_true rfl, Nat.le_of_ble_eq_true rfl⟩) ?_
      refine lv_bipush (v := 6) hx hb dX0_isAtFault_196 (by decide) ?_
      refine lv_icmp_ne (tgt := 216) hx hb dX0_isAtFault_198 (by decide) (fun c46 => ?_) (fun c46 => ?_)
      · replace h := fb_ie c46 h
        refine lv_iconst (v := 0) hx hb dX0_isAtFault_216 (by decide) ?_
        have h := Option.some.inj h
        subst h
        exact W.zret (ty := .boolean) hx hb hr rfl (fun t ht _ => ⟨rfl, ht⟩) (fun q hq => absurd hq List.not_mem_nil) dX0_isAtFault_217
      · replace h := fb_it c46 h
        refine lv_iload hx hb dX0_isAtFault_201 (lv_at hl 0 rfl) ?_
        refine lv_if_eq (tgt := 216) hx hb dX0_isAtFault_203 (by decide) (fun c48 => ?_) (fun c48 => ?_)
        · replace h := fb_it c48 h
          refine lv_iconst (v := 0) hx hb dX0_isAtFault_216 (by decide) ?_
          have h := Option.some.inj h
          subst h
          exact W.zret (ty := .boolean) hx hb hr rfl (fun t ht _ => ⟨rfl, ht⟩) (fun q hq => absurd hq List.not_mem_nil) dX0_isAtFault_217
        · replace h := fb_ie c48 h
          refine lv_iload hx hb dX0_isAtFault_206 (lv_at hl 0 rfl) ?_
          refine lv_iconst (v := (-1)) hx hb dX0_isAtFault_208 (by decide) ?_
          refine lv_icmp_eq (tgt := 216) hx hb dX0_isAtFault_209 (by decide) (fun c50 => ?_) (fun c50 => ?_)
          · replace h := fb_it c50 h
            refine lv_iconst (v := 0) hx hb dX0_isAtFault_216 (by decide) ?_
            have h := Option.some.inj h
            subst h
            exact W.zret (ty := .boolean) hx hb hr rfl (fun t ht _ => ⟨rfl, ht⟩) (fun q hq => absurd hq List.not_mem_nil) dX0_isAtFault_217
          · replace h := fb_ie c50 h
            refine lv_iconst (v := 1) hx hb dX0_isAtFault_212 (by decide) ?_
            refine lv_goto (tgt := 217) hx hb dX0_isAtFault_213 (by decide) ?_
            have h := Option.some.inj h
            subst h
            exact W.zret (ty := .boolean) hx hb hr rfl (fun t ht _ => ⟨rfl, ht⟩) (fun q hq => absurd hq List.not_mem_nil) dX0_isAtFault_217
  replace h := fb_ie c5_3 h
  by_cases c5_4 : a3 = 7
  · replace h := fb_it c5_4 h
    refine lv_tableIn (off := 188) (tgt := 218) hx hb dX0_isAtFault_30 (by rw [c5_4]; decide) (by rw [c5_4]; decide) (by rw [c5_4]; rfl) (by decide) ?_
    refine lv_iload hx hb dX0_isAtFault_218 (lv_at hl 0 rfl) ?_
    refine lv_iconst (v := 4) hx hb dX0_isAtFault_220 (by decide) ?_
    refine lv_icmp_gt (tgt := 231) hx hb dX0_isAtFault_221 (by decide) (fun c53 => ?_) (fun c53 => ?_)
    · replace h := fb_it c53 h
      refine lv_iconst (v := 1) hx hb dX0_isAtFault_231 (by decide) ?_
      refine lv_goto (tgt := 236) hx hb dX0_isAtFault_232 (by decide) ?_
      have h := Option.some.inj h
      subst h
      exact W.zret (ty := .boolean) hx hb hr rfl (fun t ht _ => ⟨rfl, ht⟩) (fun q hq => absurd hq List.not_mem_nil) dX0_isAtFault_236
    · replace h := fb_ie c53 h
      refine lv_iload hx hb dX0_isAtFault_224 (lv_at hl 0 rfl) ?_
      refine lv_bipush (v := (-4)) hx hb dX0_isAtFault_226 (by decide) ?_
      refine lv_icmp_ge (tgt := 235) hx hb dX0_isAtFault_228 (by decide) (fun c55 => ?_) (fun c55 => ?_)
      · replace h := fb_it c55 h
        refine lv_iconst (v := 0) hx hb dX0_isAtFault_235 (by decide) ?_
        have h := Option.some.inj h
        subst h
        exact W.zret (ty := .boolean) hx hb hr rfl (fun t ht _ => ⟨rfl, ht⟩) (fun q hq => absurd hq List.not_mem_nil) dX0_isAtFault_236
      · replace h := fb_ie c55 h
        refine lv_iconst (v := 1) hx hb dX0_isAtFault_231 (by decide) ?_
        refine lv_goto (tgt := 236) hx hb dX0_isAtFault_232 (by decide) ?_
        have h := Option.some.inj h
        subst h
        exact W.zret (ty := .boolean) hx hb hr rfl (fun t ht _ => ⟨rfl, ht⟩) (fun q hq => absurd hq List.not_mem_nil) dX0_isAtFault_236
  replace h := fb_ie c5_4 h
  refine lv_tableOut (tgt := 237) hx hb dX0_isAtFault_30 (by have e0 := lv_neT (a := 3) c5_0 (by decide); have e1 := lv_neT (a := 4) c5_1 (by decide); have e2 := lv_neT (a := 5) c5_2 (by decide); have e3 := lv_neT (a := 6) c5_3 (by decide); have e4 := lv_neT (a := 7) c5_4 (by decide); omega) (by decide) ?_
  refine lv_iconst (v := 0) hx hb dX0_isAtFault_237 (by decide) ?_
  have h := Option.some.inj h
  subst h
  exact W.zret (ty := .boolean) hx hb hr rfl (fun t ht _ => ⟨rfl, ht⟩) (fun q hq => absurd hq List.not_mem_nil) dX0_isAtFault_238
abbrev rmX0_voicesAtFault : Room := { frames := 2, cells := 0, slots := 0, locals := 49 }
set_option maxHeartbeats 8000000 in
set_option maxRecDepth 100000 in
theorem metX0_voicesAtFault (l : Launch) (D : va_G) (cI : ClassId) (h0 qf qn qw ql B0 : Nat) (sz : Int32) (mi : Int32) (fg : Nat → Int32) (nt : Nat → Int32) (wt : Nat → Int32) (wl : Nat → Int32) (a1 : Int32) (a2 : Int32) (ro : Int32) (h : fX0_voicesAtFault sz mi fg nt wt wl a1 a2 = some ro) : Met l yX0_voicesAtFault wsX0_voicesAtFault rmX0_voicesAtFault (va_Pc [.ref h0, .int a1, .int a2] (fb_ok D [(cI, .int)] B0 fb_sX0 (fb_wX0 cI h0 qf qn qw ql sz mi fg nt wt wl))) (QcRead ro) 0 0 (fun _ => False) := by
  refine Met.ofW (cc := cX0_voicesAtFault) (maxL := 5) (ret := (some .int)) (by decide) rfl ?_
  intro p e s m args below meth c s₁ B hml hv
  obtain ⟨rfl, hP, hK, hZ⟩ := hv
  have hx := B.exec
  have hb := B.bytes
  have hr := B.returns
  have hts := atoms_spec (ws := wsX0_voicesAtFault) B.pre
  have hown : s.vm.findClass RX0 = some m.cls := findClass_of_methodNamed B.named
  have hlocks := B.notSynchronized
  have hAB : ∀ q : Nat, (fun q => B0 ≤ q) q → B0 ≤ q := fun _ h9 => h9
  have hS : va_S (fun q => B0 ≤ q) s.heap s.heap [] := va_S.rf
  have hin0 : ∀ w ∈ u_ws RX0 TX0 6, w ∈ wsX0_voicesAtFault := fun _ h9 => List.mem_cons_of_mem _ (List.mem_append_right _ (h9))
  have hl := lv_entry ([.ref h0, .int a1, .int a2]) (n := 5) (Nat.le_of_ble_eq_true rfl)
  rw [lg_entry_eq]
  generalize (lg_sl ([.ref h0, .int a1, .int a2]) ++ List.replicate (5 - (lg_sl ([.ref h0, .int a1, .int a2])).length) Slot.unset).toArray = ls at hl ⊢
  have hl : lv_has ls 5 [(0, .ref h0), (1, .int a1), (2, .int a2)] := hl
  unfold fX0_voicesAtFault at h
  refine lv_iconst (v := 0) hx hb dX0_voicesAtFault_0 (by decide) ?_
  refine lv_istore_n (lv' := [(3, .int 0), (0, .ref h0), (1, .int a1), (2, .int a2)]) hx hb dX0_voicesAtFault_1 rfl hl (by decide) rfl (fun ls hl => ?_)
  refine lv_iconst (v := 1) hx hb dX0_voicesAtFault_2 (by decide) ?_
  refine lv_istore (lv' := [(4, .int 1), (3, .int 0), (0, .ref h0), (1, .int a1), (2, .int a2)]) hx hb dX0_voicesAtFault_3 hl (by decide) rfl (fun ls hl => ?_)
  have LX0_voicesAtFault_5 : ∀ (n : Nat) (v1 : Int32) (v2 : Int32) (o8 : Int32) (o9 : Int32), lpX0_voicesAtFault_5 a1 a2 sz mi fg nt wt wl n v1 v2 = some (o8, o9) → ∀ (ls : Array Slot), lv_has ls 5 [(4, .int v1), (3, .int v2), (0, .ref h0), (1, .int a1), (2, .int a2)] → (∀ (ls : Array Slot), lv_has ls 5 [(4, .int o8), (3, .int o9), (0, .ref h0), (1, .int a1), (2, .int a2)] → W p l e (headSpec wsX0_voicesAtFault rmX0_voicesAtFault).room s m ([.ref h0, .int a1, .int a2] : List Value).toArray below meth c s.heap [] 0 0 (MQ below (QcRead ro) ([.ref h0, .int a1, .int a2] : List Value).toArray s 0 0 (fun _ => False)) (F0 m 31 ls [])) → W p l e (headSpec wsX0_voicesAtFault rmX0_voicesAtFault).room s m ([.ref h0, .int a1, .int a2] : List Value).toArray below meth c s.heap [] 0 0 (MQ below (QcRead ro) ([.ref h0, .int a1, .int a2] : List Value).toArray s 0 0 (fun _ => False)) (F0 m 5 ls []) := by
    intro n
    induction n with
    | zero =>
      intro v1 v2 o8 o9 h
      rw [lpX0_voicesAtFault_5.eq_1] at h
      cases h
    | succ n ih =>
      intro v1 v2 o8 o9 h ls hl kx
      rw [lpX0_voicesAtFault_5.eq_2] at h
      refine lv_iload hx hb dX0_voicesAtFault_5 (lv_at hl 0 rfl) ?_
      refine lv_iconst (v := 3) hx hb dX0_voicesAtFault_7 (by decide) ?_
      refine lv_icmp_gt (tgt := 31) hx hb dX0_voicesAtFault_8 (by decide) (fun c3 => ?_) (fun c3 => ?_)
      · replace h := fb_it c3 h
        obtain ⟨e1, e2⟩ := fb_p2 h
        subst e1
        subst e2
        exact kx ls (lv_sub hl [0, 1, 2, 3, 4] rfl)
      · replace h := fb_ie c3 h
        refine lv_aload_n hx hb dX0_voicesAtFault_11 rfl (lv_at hl 2 rfl) ?_
        refine lv_iload_n hx hb dX0_voicesAtFault_12 rfl (lv_at hl 3 rfl) ?_
        refine lv_iload hx hb dX0_voicesAtFault_13 (lv_at hl 0 rfl) ?_
        refine lv_iload_n hx hb dX0_voicesAtFault_15 rfl (lv_at hl 4 rfl) ?_
        obtain ⟨r5, h4, h⟩ := fb_b1s h
        refine fb_callR (W.runV (As := [.int a1, .int v1, .int a2]) (rest := []) ⟨hx, hb, hml, hown, hts⟩ (metX0_isAtFault l D cI h0 qf qn qw ql B0 sz mi fg nt wt wl a1 v1 a2 r5 h4) (cwV 3 hts gX0_voicesAtFault_X0_isAtFault rfl rfl rfl (by decide +kernel) ⟨Nat.le_of_ble_eq_true rfl, Nat.le_of_ble_eq_true rfl⟩) (fb_preVR (ci := 0) fb_sX0p hP hK hZ hS hAB rfl rfl _) rfl rfl hl.1 rfl (lv_room (Nat.le_of_ble_eq_true rfl)) dX0_voicesAtFault_16 ⟨Nat.le_of_ble_eq_true rfl, Nat.le_of_ble_eq_true rfl⟩) ?_
        obtain ⟨j7, hjJ1, h⟩ := fb_b1s h
        have J1 : ∀ (ls : Array Slot), lv_has ls 5 [(4, .int v1), (3, .int j7), (0, .ref h0), (1, .int a1), (2, .int a2)] → W p l e (headSpec wsX0_voicesAtFault rmX0_voicesAtFault).room s m ([.ref h0, .int a1, .int a2] : List Value).toArray below meth c s.heap [] 0 0 (MQ below (QcRead ro) ([.ref h0, .int a1, .int a2] : List Value).toArray s 0 0 (fun _ => False)) (F0 m 25 ls []) := by
          intro ls hl
          refine lv_iinc (v := v1 + 1) (lv' := [(4, .int (v1 + 1)), (3, .int j7), (0, .ref h0), (1, .int a1), (2, .int a2)]) hx hb dX0_voicesAtFault_25 hl (k := 0) rfl rfl (by decide) rfl (fun ls hl => ?_)
          refine lv_goto (tgt := 5) hx hb dX0_voicesAtFault_28 (by decide) ?_
          exact ih _ _ o8 o9 h ls (lv_sub hl [0, 1, 2, 3, 4] rfl) kx
        replace h := hjJ1
        refine lv_if_eq (tgt := 25) hx hb dX0_voicesAtFault_19 (by decide) (fun c6 => ?_) (fun c6 => ?_)
        · replace h := fb_it c6 h
          have h := Option.some.inj h
          subst h
          exact J1 ls (lv_sub hl [0, 1, 2, 3, 4] rfl)
        · replace h := fb_ie c6 h
          refine lv_iinc (v := v2 + 1) (lv' := [(3, .int (v2 + 1)), (4, .int v1), (0, .ref h0), (1, .int a1), (2, .int a2)]) hx hb dX0_voicesAtFault_22 hl (k := 1) rfl rfl (by decide) rfl (fun ls hl => ?_)
          have h := Option.some.inj h
          subst h
          exact J1 ls (lv_sub hl [1, 0, 2, 3, 4] rfl)
  obtain ⟨o8, o9, h11, h⟩ := fb_b2s h
  refine LX0_voicesAtFault_5 _ _ _ o8 o9 h11 ls (lv_sub hl [0, 1, 2, 3, 4] rfl) (fun ls hl => ?_)
  refine lv_iload_n hx hb dX0_voicesAtFault_31 rfl (lv_at hl 1 rfl) ?_
  have h := Option.some.inj h
  subst h
  exact W.iret hx hb hr (fun t ht _ => ⟨rfl, ht⟩) (fun q hq => absurd hq List.not_mem_nil) dX0_voicesAtFault_32
abbrev rmX0_faultsOf : Room := { frames := 3, cells := 0, slots := 0, locals := 73 }
set_option maxHeartbeats 8000000 in
set_option maxRecDepth 100000 in
theorem metX0_faultsOf (l : Launch) (D : va_G) (cI : ClassId) (h0 qf qn qw ql B0 : Nat) (sz : Int32) (mi : Int32) (fg : Nat → Int32) (nt : Nat → Int32) (wt : Nat → Int32) (wl : Nat → Int32) (a1 : Int32) (a2 : Int32) (ro : Int32) (h : fX0_faultsOf sz mi fg nt wt wl a1 a2 = some ro) : Met l yX0_faultsOf wsX0_faultsOf rmX0_faultsOf (va_Pc [.ref h0, .int a1, .int a2] (fb_ok D [(cI, .int)] B0 fb_sX0 (fb_wX0 cI h0 qf qn qw ql sz mi fg nt wt wl))) (QcRead ro) 0 0 (fun _ => False) := by
  refine Met.ofW (cc := cX0_faultsOf) (maxL := 3) (ret := (some .int)) (by decide) rfl ?_
  intro p e s m args below meth c s₁ B hml hv
  obtain ⟨rfl, hP, hK, hZ⟩ := hv
  have hx := B.exec
  have hb := B.bytes
  have hr := B.returns
  have hts := atoms_spec (ws := wsX0_faultsOf) B.pre
  have hown : s.vm.findClass RX0 = some m.cls := findClass_of_methodNamed B.named
  have hlocks := B.notSynchronized
  have hAB : ∀ q : Nat, (fun q => B0 ≤ q) q → B0 ≤ q := fun _ h9 => h9
  have hS : va_S (fun q => B0 ≤ q) s.heap s.heap [] := va_S.rf
  have hin0 : ∀ w ∈ u_ws RX0 TX0 6, w ∈ wsX0_faultsOf := fun _ h9 => List.mem_cons_of_mem _ (List.mem_append_right _ (h9))
  have hl := lv_entry ([.ref h0, .int a1, .int a2]) (n := 3) (Nat.le_of_ble_eq_true rfl)
  rw [lg_entry_eq]
  generalize (lg_sl ([.ref h0, .int a1, .int a2]) ++ List.replicate (3 - (lg_sl ([.ref h0, .int a1, .int a2])).length) Slot.unset).toArray = ls at hl ⊢
  have hl : lv_has ls 3 [(0, .ref h0), (1, .int a1), (2, .int a2)] := hl
  unfold fX0_faultsOf at h
  refine lv_aload_n hx hb dX0_faultsOf_0 rfl (lv_at hl 0 rfl) ?_
  refine lv_iload_n hx hb dX0_faultsOf_1 rfl (lv_at hl 1 rfl) ?_
  obtain ⟨r2, h1, h⟩ := fb_b1s h
  refine fb_callR (W.runV (As := [.int a1]) (rest := []) ⟨hx, hb, hml, hown, hts⟩ (metX0_follows l D cI h0 qf qn qw ql B0 sz mi fg nt wt wl a1 r2 h1) (cwV 1 hts gX0_faultsOf_X0_follows rfl rfl rfl (by decide +kernel) ⟨Nat.le_of_ble_eq_true rfl, Nat.le_of_ble_eq_true rfl⟩) (fb_preVR (ci := 0) fb_sX0p hP hK hZ hS hAB rfl rfl _) rfl rfl hl.1 rfl (lv_room (Nat.le_of_ble_eq_true rfl)) dX0_faultsOf_2 ⟨Nat.le_of_ble_eq_true rfl, Nat.le_of_ble_eq_true rfl⟩) ?_
  refine lv_if_ne (tgt := 10) hx hb dX0_faultsOf_5 (by decide) (fun c3 => ?_) (fun c3 => ?_)
  · replace h := fb_ie c3 h
    refine lv_iload_n hx hb dX0_faultsOf_10 rfl (lv_at hl 2 rfl) ?_
    by_cases c4_0 : a2 = 0
    · replace h := fb_it c4_0 h
      refine lv_tableIn (off := 25) (tgt := 36) hx hb dX0_faultsOf_11 (by rw [c4_0]; decide) (by rw [c4_0]; decide) (by rw [c4_0]; rfl) (by decide) ?_
      refine lv_aload_n hx hb dX0_faultsOf_36 rfl (lv_at hl 0 rfl) ?_
      refine lv_iload_n hx hb dX0_faultsOf_37 rfl (lv_at hl 1 rfl) ?_
      refine lv_bipush (v := 7) hx hb dX0_faultsOf_38 (by decide) ?_
      obtain ⟨r6, h5, h⟩ := fb_b1s h
      refine fb_callR (W.runV (As := [.int a1, .int 7]) (rest := []) ⟨hx, hb, hml, hown, hts⟩ (metX0_parallels l D cI h0 qf qn qw ql B0 sz mi fg nt wt wl a1 7 r6 h5) (cwV 2 hts gX0_faultsOf_X0_parallels rfl rfl rfl (by decide +kernel) ⟨Nat.le_of_ble_eq_true rfl, Nat.le_of_ble_eq_true rfl⟩) (fb_preVR (ci := 0) fb_sX0p hP hK hZ hS hAB rfl rfl _) rfl rfl hl.1 rfl (lv_room (Nat.le_of_ble_eq_true rfl)) dX0_faultsOf_40 ⟨Nat.le_of_ble_eq_true rfl, Nat.le_of_ble_eq_true rfl⟩) ?_
      have h := Option.some.inj h
      subst h
      exact W.iret hx hb hr (fun t ht _ => ⟨rfl, ht⟩) (fun q hq => absurd hq List.not_mem_nil) dX0_faultsOf_43
    replace h := fb_ie c4_0 h
    by_cases c4_1 : a2 = 1
    · replace h := fb_it c4_1 h
      refine lv_tableIn (off := 33) (tgt := 44) hx hb dX0_faultsOf_11 (by rw [c4_1]; decide) (by rw [c4_1]; decide) (by rw [c4_1]; rfl) (by decide) ?_
      refine lv_aload_n hx hb dX0_faultsOf_44 rfl (lv_at hl 0 rfl) ?_
      refine lv_iload_n hx hb dX0_faultsOf_45 rfl (lv_at hl 1 rfl) ?_
      refine lv_iconst (v := 0) hx hb dX0_faultsOf_46 (by decide) ?_
      obtain ⟨r9, h8, h⟩ := fb_b1s h
      refine fb_callR (W.runV (As := [.int a1, .int 0]) (rest := []) ⟨hx, hb, hml, hown, hts⟩ (metX0_parallels l D cI h0 qf qn qw ql B0 sz mi fg nt wt wl a1 0 r9 h8) (cwV 2 hts gX0_faultsOf_X0_parallels rfl rfl rfl (by decide +kernel) ⟨Nat.le_of_ble_eq_true rfl, Nat.le_of_ble_eq_true rfl⟩) (fb_preVR (ci := 0) fb_sX0p hP hK hZ hS hAB rfl rfl _) rfl rfl hl.1 rfl (lv_room (Nat.le_of_ble_eq_true rfl)) dX0_faultsOf_47 ⟨Nat.le_of_ble_eq_true rfl, Nat.le_of_ble_eq_true rfl⟩) ?_
      have h := Option.some.inj h
      subst h
      exact W.iret hx hb hr (fun t ht _ => ⟨rfl, ht⟩) (fun q hq => absurd hq List.not_mem_nil) dX0_faultsOf_50
    replace h := fb_ie c4_1 h
    by_cases c4_2 : a2 = 2
    · replace h := fb_it c4_2 h
      refine lv_tableIn (off := 40) (tgt := 51) hx hb dX0_faultsOf_11 (by rw [c4_2]; decide) (by rw [c4_2]; decide) (by rw [c4_2]; rfl) (by decide) ?_
      refine lv_aload_n hx hb dX0_faultsOf_51 rfl (lv_at hl 0 rfl) ?_
      refine lv_iload_n hx hb dX0_faultsOf_52 rfl (lv_at hl 1 rfl) ?_
      obtain ⟨r12, h11, h⟩ := fb_b1s h
      refine fb_callR (W.runV (As := [.int a1]) (rest := []) ⟨hx, hb, hml, hown, hts⟩ (metX0_isHidden l D cI h0 qf qn qw ql B0 sz mi fg nt wt wl a1 r12 h11) (cwV 1 hts gX0_faultsOf_X0_isHidden rfl rfl rfl (by decide +kernel) ⟨Nat.le_of_ble_eq_true rfl, Nat.le_of_ble_eq_true rfl⟩) (fb_preVR (ci := 0) fb_sX0p hP hK hZ hS hAB rfl rfl _) rfl rfl hl.1 rfl (lv_room (Nat.le_of_ble_eq_true rfl)) dX0_faultsOf_53 ⟨Nat.le_of_ble_eq_true rfl, Nat.le_of_ble_eq_true rfl⟩) ?_
      refine lv_if_eq (tgt := 63) hx hb dX0_faultsOf_56 (by decide) (fun c13 => ?_) (fun c13 => ?_)
      · replace h := fb_it c13 h
        refine lv_iconst (v := 0) hx hb dX0_faultsOf_63 (by decide) ?_
        have h := Option.some.inj h
        subst h
        exact W.iret hx hb hr (fun t ht _ => ⟨rfl, ht⟩) (fun q hq => absurd hq List.not_mem_nil) dX0_faultsOf_64
      · replace h := fb_ie c13 h
        refine lv_iconst (v := 1) hx hb dX0_faultsOf_59 (by decide) ?_
        refine lv_goto (tgt := 64) hx hb dX0_faultsOf_60 (by decide) ?_
        have h := Option.some.inj h
        subst h
        exact W.iret hx hb hr (fun t ht _ => ⟨rfl, ht⟩) (fun q hq => absurd hq List.not_mem_nil) dX0_faultsOf_64
    replace h := fb_ie c4_2 h
    refine lv_tableOut (tgt := 65) hx hb dX0_faultsOf_11 (by have e0 := lv_neT (a := 0) c4_0 (by decide); have e1 := lv_neT (a := 1) c4_1 (by decide); have e2 := lv_neT (a := 2) c4_2 (by decide); omega) (by decide) ?_
    refine lv_aload_n hx hb dX0_faultsOf_65 rfl (lv_at hl 0 rfl) ?_
    refine lv_iload_n hx hb dX0_faultsOf_66 rfl (lv_at hl 1 rfl) ?_
    refine lv_iload_n hx hb dX0_faultsOf_67 rfl (lv_at hl 2 rfl) ?_
    obtain ⟨r17, h16, h⟩ := fb_b1s h
    refine fb_callR (W.runV (As := [.int a1, .int a2]) (rest := []) ⟨hx, hb, hml, hown, hts⟩ (metX0_voicesAtFault l D cI h0 qf qn qw ql B0 sz mi fg nt wt wl a1 a2 r17 h16) (cwV 2 hts gX0_faultsOf_X0_voicesAtFault rfl rfl rfl (by decide +kernel) ⟨Nat.le_of_ble_eq_true rfl, Nat.le_of_ble_eq_true rfl⟩) (fb_preVR (ci := 0) fb_sX0p hP hK hZ hS hAB rfl rfl _) rfl rfl hl.1 rfl (lv_room (Nat.le_of_ble_eq_true rfl)) dX0_faultsOf_68 ⟨Nat.le_of_ble_eq_true rfl, Nat.le_of_ble_eq_true rfl⟩) ?_
    have h := Option.some.inj h
    subst h
    exact W.iret hx hb hr (fun t ht _ => ⟨rfl, ht⟩) (fun q hq => absurd hq List.not_mem_nil) dX0_faultsOf_71
  · replace h := fb_it c3 h
    refine lv_iconst (v := 0) hx hb dX0_faultsOf_8 (by decide) ?_
    have h := Option.some.inj h
    subst h
    exact W.iret hx hb hr (fun t ht _ => ⟨rfl, ht⟩) (fun q hq => absurd hq List.not_mem_nil) dX0_faultsOf_9
abbrev rmX0_costOf : Room := { frames := 4, cells := 0, slots := 0, locals := 95 }
set_option maxHeartbeats 8000000 in
set_option maxRecDepth 100000 in
theorem metX0_costOf (l : Launch) (D : va_G) (cI : ClassId) (h0 qf qn qw ql B0 : Nat) (sz : Int32) (mi : Int32) (fg : Nat → Int32) (nt : Nat → Int32) (wt : Nat → Int32) (wl : Nat → Int32) (a1 : Int32) (ro : Int32) (h : fX0_costOf sz mi fg nt wt wl a1 = some ro) : Met l yX0_costOf wsX0_costOf rmX0_costOf (va_Pc [.ref h0, .int a1] (fb_ok D [(cI, .int)] B0 fb_sX0 (fb_wX0 cI h0 qf qn qw ql sz mi fg nt wt wl))) (QcRead ro) 0 0 (fun _ => False) := by
  refine Met.ofW (cc := cX0_costOf) (maxL := 4) (ret := (some .int)) (by decide) rfl ?_
  intro p e s m args below meth c s₁ B hml hv
  obtain ⟨rfl, hP, hK, hZ⟩ := hv
  have hx := B.exec
  have hb := B.bytes
  have hr := B.returns
  have hts := atoms_spec (ws := wsX0_costOf) B.pre
  have hown : s.vm.findClass RX0 = some m.cls := findClass_of_methodNamed B.named
  have hlocks := B.notSynchronized
  have hAB : ∀ q : Nat, (fun q => B0 ≤ q) q → B0 ≤ q := fun _ h9 => h9
  have hS : va_S (fun q => B0 ≤ q) s.heap s.heap [] := va_S.rf
  have hin0 : ∀ w ∈ u_ws RX0 TX0 6, w ∈ wsX0_costOf := fun _ h9 => List.mem_cons_of_mem _ (List.mem_append_right _ (h9))
  have w_f24 : (Cond.fieldLink RX0 24 "FiguredBass" "weights" "[I") ∈ wsX0_costOf := List.mem_of_getElem? (i := 1) rfl
  have hl := lv_entry ([.ref h0, .int a1]) (n := 4) (Nat.le_of_ble_eq_true rfl)
  rw [lg_entry_eq]
  generalize (lg_sl ([.ref h0, .int a1]) ++ List.replicate (4 - (lg_sl ([.ref h0, .int a1])).length) Slot.unset).toArray = ls at hl ⊢
  have hl : lv_has ls 4 [(0, .ref h0), (1, .int a1)] := hl
  unfold fX0_costOf at h
  refine lv_aload_n hx hb dX0_costOf_0 rfl (lv_at hl 0 rfl) ?_
  refine lv_iload_n hx hb dX0_costOf_1 rfl (lv_at hl 1 rfl) ?_
  obtain ⟨r2, h1, h⟩ := fb_b1s h
  refine fb_callR (W.runV (As := [.int a1]) (rest := []) ⟨hx, hb, hml, hown, hts⟩ (metX0_isSet l D cI h0 qf qn qw ql B0 sz mi fg nt wt wl a1 r2 h1) (cwV 1 hts gX0_costOf_X0_isSet rfl rfl rfl (by decide +kernel) ⟨Nat.le_of_ble_eq_true rfl, Nat.le_of_ble_eq_true rfl⟩) (fb_preVR (ci := 0) fb_sX0p hP hK hZ hS hAB rfl rfl _) rfl rfl hl.1 rfl (lv_room (Nat.le_of_ble_eq_true rfl)) dX0_costOf_2 ⟨Nat.le_of_ble_eq_true rfl, Nat.le_of_ble_eq_true rfl⟩) ?_
  refine lv_if_ne (tgt := 10) hx hb dX0_costOf_5 (by decide) (fun c3 => ?_) (fun c3 => ?_)
  · replace h := fb_ie c3 h
    refine lv_aload_n hx hb dX0_costOf_10 rfl (lv_at hl 0 rfl) ?_
    refine lv_iload_n hx hb dX0_costOf_11 rfl (lv_at hl 1 rfl) ?_
    obtain ⟨r5, h4, h⟩ := fb_b1s h
    refine fb_callR (W.runV (As := [.int a1]) (rest := []) ⟨hx, hb, hml, hown, hts⟩ (metX0_isRight l D cI h0 qf qn qw ql B0 sz mi fg nt wt wl a1 r5 h4) (cwV 1 hts gX0_costOf_X0_isRight rfl rfl rfl (by decide +kernel) ⟨Nat.le_of_ble_eq_true rfl, Nat.le_of_ble_eq_true rfl⟩) (fb_preVR (ci := 0) fb_sX0p hP hK hZ hS hAB rfl rfl _) rfl rfl hl.1 rfl (lv_room (Nat.le_of_ble_eq_true rfl)) dX0_costOf_12 ⟨Nat.le_of_ble_eq_true rfl, Nat.le_of_ble_eq_true rfl⟩) ?_
    obtain ⟨j7, hjJ1, h⟩ := fb_b1s h
    have J1 : ∀ (ls : Array Slot), lv_has ls 4 [(0, .ref h0), (1, .int a1)] → W p l e (headSpec wsX0_costOf rmX0_costOf).room s m ([.ref h0, .int a1] : List Value).toArray below meth c s.heap [] 0 0 (MQ below (QcRead ro) ([.ref h0, .int a1] : List Value).toArray s 0 0 (fun _ => False)) (F0 m 24 ls [.int j7]) := by
      intro ls hl
      refine lv_istore_n (lv' := [(2, .int j7), (0, .ref h0), (1, .int a1)]) hx hb dX0_costOf_24 rfl hl (by decide) rfl (fun ls hl => ?_)
      refine lv_iload_n hx hb dX0_costOf_25 rfl (lv_at hl 0 rfl) ?_
      refine lv_aload_n hx hb dX0_costOf_26 rfl (lv_at hl 1 rfl) ?_
      refine lv_iload_n hx hb dX0_costOf_27 rfl (lv_at hl 2 rfl) ?_
      obtain ⟨r9, h8, h⟩ := fb_b1s h
      refine fb_callR (W.runV (As := [.int a1]) (rest := [.int j7]) ⟨hx, hb, hml, hown, hts⟩ (metX0_stepsGone l D cI h0 qf qn qw ql B0 sz mi fg nt wt wl a1 r9 h8) (cwV 1 hts gX0_costOf_X0_stepsGone rfl rfl rfl (by decide +kernel) ⟨Nat.le_of_ble_eq_true rfl, Nat.le_of_ble_eq_true rfl⟩) (fb_preVR (ci := 0) fb_sX0p hP hK hZ hS hAB rfl rfl _) rfl rfl hl.1 rfl (lv_room (Nat.le_of_ble_eq_true rfl)) dX0_costOf_28 ⟨Nat.le_of_ble_eq_true rfl, Nat.le_of_ble_eq_true rfl⟩) ?_
      refine lv_iadd hx hb dX0_costOf_31 ?_
      refine lv_istore_n (lv' := [(2, .int (j7 + r9)), (0, .ref h0), (1, .int a1)]) hx hb dX0_costOf_32 rfl hl (by decide) rfl (fun ls hl => ?_)
      refine lv_iconst (v := 0) hx hb dX0_costOf_33 (by decide) ?_
      refine lv_istore_n (lv' := [(3, .int 0), (2, .int (j7 + r9)), (0, .ref h0), (1, .int a1)]) hx hb dX0_costOf_34 rfl hl (by decide) rfl (fun ls hl => ?_)
      have LX0_costOf_35 : ∀ (n : Nat) (v10 : Int32) (v11 : Int32) (o16 : Int32) (o17 : Int32), lpX0_costOf_35 a1 sz mi fg nt wt wl n v10 v11 = some (o16, o17) → ∀ (ls : Array Slot), lv_has ls 4 [(3, .int v10), (2, .int v11), (0, .ref h0), (1, .int a1)] → (∀ (ls : Array Slot), lv_has ls 4 [(3, .int o16), (2, .int o17), (0, .ref h0), (1, .int a1)] → W p l e (headSpec wsX0_costOf rmX0_costOf).room s m ([.ref h0, .int a1] : List Value).toArray below meth c s.heap [] 0 0 (MQ below (QcRead ro) ([.ref h0, .int a1] : List Value).toArray s 0 0 (fun _ => False)) (F0 m 63 ls [])) → W p l e (headSpec wsX0_costOf rmX0_costOf).room s m ([.ref h0, .int a1] : List Value).toArray below meth c s.heap [] 0 0 (MQ below (QcRead ro) ([.ref h0, .int a1] : List Value).toArray s 0 0 (fun _ => False)) (F0 m 35 ls []) := by
        intro n
        induction n with
        | zero =>
          intro v10 v11 o16 o17 h
          rw [lpX0_costOf_35.eq_1] at h
          cases h
        | succ n ih =>
          intro v10 v11 o16 o17 h ls hl kx
          rw [lpX0_costOf_35.eq_2] at h
          refine lv_iload_n hx hb dX0_costOf_35 rfl (lv_at hl 0 rfl) ?_
          refine lv_bipush (v := 8) hx hb dX0_costOf_36 (by decide) ?_
          refine lv_icmp_ge (tgt := 63) hx hb dX0_costOf_38 (by decide) (fun c12 => ?_) (fun c12 => ?_)
          · replace h := fb_it c12 h
            obtain ⟨e1, e2⟩ := fb_p2 h
            subst e1
            subst e2
            exact kx ls (lv_sub hl [0, 1, 2, 3] rfl)
          · replace h := fb_ie c12 h
            refine lv_iload_n hx hb dX0_costOf_41 rfl (lv_at hl 1 rfl) ?_
            refine lv_aload_n hx hb dX0_costOf_42 rfl (lv_at hl 2 rfl) ?_
            refine va_get (D := D) (ci := 0) (v := .ref qw) (C := RX0) (T := TX0) (N := 6) hx hb hts hin0 hown hK hP 0 rfl rfl 4 (by decide) (hts _ w_f24) (fun _ h9 => h9) rfl dX0_costOf_43 ?_
            refine lv_iload_n hx hb dX0_costOf_46 rfl (lv_at hl 0 rfl) ?_
            obtain ⟨hi13, h⟩ := fb_cks h
            refine va_iald hx hb hK hP 3 0 rfl rfl (fb_ixin hi13) dX0_costOf_47 ?_
            refine lv_aload_n hx hb dX0_costOf_48 rfl (lv_at hl 2 rfl) ?_
            refine lv_iload_n hx hb dX0_costOf_49 rfl (lv_at hl 3 rfl) ?_
            refine lv_iload_n hx hb dX0_costOf_50 rfl (lv_at hl 0 rfl) ?_
            obtain ⟨r15, h14, h⟩ := fb_b1s h
            refine fb_callR (W.runV (As := [.int a1, .int v10]) (rest := [.int (wt v10.toNatClampNeg), .int v11]) ⟨hx, hb, hml, hown, hts⟩ (metX0_faultsOf l D cI h0 qf qn qw ql B0 sz mi fg nt wt wl a1 v10 r15 h14) (cwV 2 hts gX0_costOf_X0_faultsOf rfl rfl rfl (by decide +kernel) ⟨Nat.le_of_ble_eq_true rfl, Nat.le_of_ble_eq_true rfl⟩) (fb_preVR (ci := 0) fb_sX0p hP hK hZ hS hAB rfl rfl _) rfl rfl hl.1 rfl (lv_room (Nat.le_of_ble_eq_true rfl)) dX0_costOf_51 ⟨Nat.le_of_ble_eq_true rfl, Nat.le_of_ble_eq_true rfl⟩) ?_
            refine lv_imul hx hb dX0_costOf_54 ?_
            refine lv_iadd hx hb dX0_costOf_55 ?_
            refine lv_istore_n (lv' := [(2, .int (v11 + ((wt v10.toNatClampNeg) * r15))), (3, .int v10), (0, .ref h0), (1, .int a1)]) hx hb dX0_costOf_56 rfl hl (by decide) rfl (fun ls hl => ?_)
            refine lv_iinc (v := v10 + 1) (lv' := [(3, .int (v10 + 1)), (2, .int (v11 + ((wt v10.toNatClampNeg) * r15))), (0, .ref h0), (1, .int a1)]) hx hb dX0_costOf_57 hl (k := 1) rfl rfl (by decide) rfl (fun ls hl => ?_)
            refine lv_goto (tgt := 35) hx hb dX0_costOf_60 (by decide) ?_
            exact ih _ _ o16 o17 h ls (lv_sub hl [0, 1, 2, 3] rfl) kx
      obtain ⟨o16, o17, h19, h⟩ := fb_b2s h
      refine LX0_costOf_35 _ _ _ o16 o17 h19 ls (lv_sub hl [0, 1, 2, 3] rfl) (fun ls hl => ?_)
      refine lv_iload_n hx hb dX0_costOf_63 rfl (lv_at hl 1 rfl) ?_
      have h := Option.some.inj h
      subst h
      exact W.iret hx hb hr (fun t ht _ => ⟨rfl, ht⟩) (fun q hq => absurd hq List.not_mem_nil) dX0_costOf_64
    replace h := hjJ1
    refine lv_if_eq (tgt := 22) hx hb dX0_costOf_15 (by decide) (fun c6 => ?_) (fun c6 => ?_)
    · replace h := fb_it c6 h
      refine lv_bipush (v := 30) hx hb dX0_costOf_22 (by decide) ?_
      have h := Option.some.inj h
      subst h
      exact J1 ls (lv_sub hl [0, 1] rfl)
    · replace h := fb_ie c6 h
      refine lv_iconst (v := 0) hx hb dX0_costOf_18 (by decide) ?_
      refine lv_goto (tgt := 24) hx hb dX0_costOf_19 (by decide) ?_
      have h := Option.some.inj h
      subst h
      exact J1 ls (lv_sub hl [0, 1] rfl)
  · replace h := fb_it c3 h
    refine lv_iconst (v := 0) hx hb dX0_costOf_8 (by decide) ?_
    have h := Option.some.inj h
    subst h
    exact W.iret hx hb hr (fun t ht _ => ⟨rfl, ht⟩) (fun q hq => absurd hq List.not_mem_nil) dX0_costOf_9
abbrev rmX0_allFaultsOf : Room := { frames := 4, cells := 0, slots := 0, locals := 95 }
set_option maxHeartbeats 8000000 in
set_option maxRecDepth 100000 in
theorem metX0_allFaultsOf (l : Launch) (D : va_G) (cI : ClassId) (h0 qf qn qw ql B0 : Nat) (sz : Int32) (mi : Int32) (fg : Nat → Int32) (nt : Nat → Int32) (wt : Nat → Int32) (wl : Nat → Int32) (a1 : Int32) (ro : Int32) (h : fX0_allFaultsOf sz mi fg nt wt wl a1 = some ro) : Met l yX0_allFaultsOf wsX0_allFaultsOf rmX0_allFaultsOf (va_Pc [.ref h0, .int a1] (fb_ok D [(cI, .int)] B0 fb_sX0 (fb_wX0 cI h0 qf qn qw ql sz mi fg nt wt wl))) (QcRead ro) 0 0 (fun _ => False) := by
  refine Met.ofW (cc := cX0_allFaultsOf) (maxL := 4) (ret := (some .int)) (by decide) rfl ?_
  intro p e s m args below meth c s₁ B hml hv
  obtain ⟨rfl, hP, hK, hZ⟩ := hv
  have hx := B.exec
  have hb := B.bytes
  have hr := B.returns
  have hts := atoms_spec (ws := wsX0_allFaultsOf) B.pre
  have hown : s.vm.findClass RX0 = some m.cls := findClass_of_methodNamed B.named
  have hlocks := B.notSynchronized
  have hAB : ∀ q : Nat, (fun q => B0 ≤ q) q → B0 ≤ q := fun _ h9 => h9
  have hS : va_S (fun q => B0 ≤ q) s.heap s.heap [] := va_S.rf
  have hin0 : ∀ w ∈ u_ws RX0 TX0 6, w ∈ wsX0_allFaultsOf := fun _ h9 => List.mem_cons_of_mem _ (List.mem_append_right _ (h9))
  have hl := lv_entry ([.ref h0, .int a1]) (n := 4) (Nat.le_of_ble_eq_true rfl)
  rw [lg_entry_eq]
  generalize (lg_sl ([.ref h0, .int a1]) ++ List.replicate (4 - (lg_sl ([.ref h0, .int a1])).length) Slot.unset).toArray = ls at hl ⊢
  have hl : lv_has ls 4 [(0, .ref h0), (1, .int a1)] := hl
  unfold fX0_allFaultsOf at h
  refine lv_iconst (v := 0) hx hb dX0_allFaultsOf_0 (by decide) ?_
  refine lv_istore_n (lv' := [(2, .int 0), (0, .ref h0), (1, .int a1)]) hx hb dX0_allFaultsOf_1 rfl hl (by decide) rfl (fun ls hl => ?_)
  refine lv_iconst (v := 0) hx hb dX0_allFaultsOf_2 (by decide) ?_
  refine lv_istore_n (lv' := [(3, .int 0), (2, .int 0), (0, .ref h0), (1, .int a1)]) hx hb dX0_allFaultsOf_3 rfl hl (by decide) rfl (fun ls hl => ?_)
  have LX0_allFaultsOf_4 : ∀ (n : Nat) (v1 : Int32) (v2 : Int32) (o6 : Int32) (o7 : Int32), lpX0_allFaultsOf_4 a1 sz mi fg nt wt wl n v1 v2 = some (o6, o7) → ∀ (ls : Array Slot), lv_has ls 4 [(3, .int v1), (2, .int v2), (0, .ref h0), (1, .int a1)] → (∀ (ls : Array Slot), lv_has ls 4 [(3, .int o6), (2, .int o7), (0, .ref h0), (1, .int a1)] → W p l e (headSpec wsX0_allFaultsOf rmX0_allFaultsOf).room s m ([.ref h0, .int a1] : List Value).toArray below meth c s.heap [] 0 0 (MQ below (QcRead ro) ([.ref h0, .int a1] : List Value).toArray s 0 0 (fun _ => False)) (F0 m 25 ls [])) → W p l e (headSpec wsX0_allFaultsOf rmX0_allFaultsOf).room s m ([.ref h0, .int a1] : List Value).toArray below meth c s.heap [] 0 0 (MQ below (QcRead ro) ([.ref h0, .int a1] : List Value).toArray s 0 0 (fun _ => False)) (F0 m 4 ls []) := by
    intro n
    induction n with
    | zero =>
      intro v1 v2 o6 o7 h
      rw [lpX0_allFaultsOf_4.eq_1] at h
      cases h
    | succ n ih =>
      intro v1 v2 o6 o7 h ls hl kx
      rw [lpX0_allFaultsOf_4.eq_2] at h
      refine lv_iload_n hx hb dX0_allFaultsOf_4 rfl (lv_at hl 0 rfl) ?_
      refine lv_bipush (v := 8) hx hb dX0_allFaultsOf_5 (by decide) ?_
      refine lv_icmp_ge (tgt := 25) hx hb dX0_allFaultsOf_7 (by decide) (fun c3 => ?_) (fun c3 => ?_)
      · replace h := fb_it c3 h
        obtain ⟨e1, e2⟩ := fb_p2 h
        subst e1
        subst e2
        exact kx ls (lv_sub hl [0, 1, 2, 3] rfl)
      · replace h := fb_ie c3 h
        refine lv_iload_n hx hb dX0_allFaultsOf_10 rfl (lv_at hl 1 rfl) ?_
        refine lv_aload_n hx hb dX0_allFaultsOf_11 rfl (lv_at hl 2 rfl) ?_
        refine lv_iload_n hx hb dX0_allFaultsOf_12 rfl (lv_at hl 3 rfl) ?_
        refine lv_iload_n hx hb dX0_allFaultsOf_13 rfl (lv_at hl 0 rfl) ?_
        obtain ⟨r5, h4, h⟩ := fb_b1s h
        refine fb_callR (W.runV (As := [.int a1, .int v1]) (rest := [.int v2]) ⟨hx, hb, hml, hown, hts⟩ (metX0_faultsOf l D cI h0 qf qn qw ql B0 sz mi fg nt wt wl a1 v1 r5 h4) (cwV 2 hts gX0_allFaultsOf_X0_faultsOf rfl rfl rfl (by decide +kernel) ⟨Nat.le_of_ble_eq_true rfl, Nat.le_of_ble_eq_true rfl⟩) (fb_preVR (ci := 0) fb_sX0p hP hK hZ hS hAB rfl rfl _) rfl rfl hl.1 rfl (lv_room (Nat.le_of_ble_eq_true rfl)) dX0_allFaultsOf_14 ⟨Nat.le_of_ble_eq_true rfl, Nat.le_of_ble_eq_true rfl⟩) ?_
        refine lv_iadd hx hb dX0_allFaultsOf_17 ?_
        refine lv_istore_n (lv' := [(2, .int (v2 + r5)), (3, .int v1), (0, .ref h0), (1, .int a1)]) hx hb dX0_allFaultsOf_18 rfl hl (by decide) rfl (fun ls hl => ?_)
        refine lv_iinc (v := v1 + 1) (lv' := [(3, .int (v1 + 1)), (2, .int (v2 + r5)), (0, .ref h0), (1, .int a1)]) hx hb dX0_allFaultsOf_19 hl (k := 1) rfl rfl (by decide) rfl (fun ls hl => ?_)
        refine lv_goto (tgt := 4) hx hb dX0_allFaultsOf_22 (by decide) ?_
        exact ih _ _ o6 o7 h ls (lv_sub hl [0, 1, 2, 3] rfl) kx
  obtain ⟨o6, o7, h9, h⟩ := fb_b2s h
  refine LX0_allFaultsOf_4 _ _ _ o6 o7 h9 ls (lv_sub hl [0, 1, 2, 3] rfl) (fun ls hl => ?_)
  refine lv_iload_n hx hb dX0_allFaultsOf_25 rfl (lv_at hl 1 rfl) ?_
  have h := Option.some.inj h
  subst h
  exact W.iret hx hb hr (fun t ht _ => ⟨rfl, ht⟩) (fun q hq => absurd hq List.not_mem_nil) dX0_allFaultsOf_26
abbrev rmX0_tellOf : Room := { frames := 5, cells := 0, slots := 0, locals := 118 }
set_option maxHeartbeats 8000000 in
set_option maxRecDepth 100000 in
theorem metX0_tellOf (l : Launch) (D : va_G) (cI : ClassId) (h0 qf qn qw ql B0 : Nat) (sz : Int32) (mi : Int32) (fg : Nat → Int32) (nt : Nat → Int32) (wt : Nat → Int32) (wl : Nat → Int32) (a1 : Int32) (a2 : Int32) (ro : Int32) (h : fX0_tellOf sz mi fg nt wt wl a1 a2 = some ro) : Met l yX0_tellOf wsX0_tellOf rmX0_tellOf (va_Pc [.ref h0, .int a1, .int a2] (fb_ok D [(cI, .int)] B0 fb_sX0 (fb_wX0 cI h0 qf qn qw ql sz mi fg nt wt wl))) (QcRead ro) 0 0 (fun _ => False) := by
  refine Met.ofW (cc := cX0_tellOf) (maxL := 3) (ret := (some .int)) (by decide) rfl ?_
  intro p e s m args below meth c s₁ B hml hv
  obtain ⟨rfl, hP, hK, hZ⟩ := hv
  have hx := B.exec
  have hb := B.bytes
  have hr := B.returns
  have hts := atoms_spec (ws := wsX0_tellOf) B.pre
  have hown : s.vm.findClass RX0 = some m.cls := findClass_of_methodNamed B.named
  have hlocks := B.notSynchronized
  have hAB : ∀ q : Nat, (fun q => B0 ≤ q) q → B0 ≤ q := fun _ h9 => h9
  have hS : va_S (fun q => B0 ≤ q) s.heap s.heap [] := va_S.rf
  have hin0 : ∀ w ∈ u_ws RX0 TX0 6, w ∈ wsX0_tellOf := fun _ h9 => List.mem_cons_of_mem _ (List.mem_append_right _ (h9))
  have w_f17 : (Cond.fieldLink RX0 17 "FiguredBass" "figures" "[I") ∈ wsX0_tellOf := List.mem_of_getElem? (i := 1) rfl
  have hl := lv_entry ([.ref h0, .int a1, .int a2]) (n := 3) (Nat.le_of_ble_eq_true rfl)
  rw [lg_entry_eq]
  generalize (lg_sl ([.ref h0, .int a1, .int a2]) ++ List.replicate (3 - (lg_sl ([.ref h0, .int a1, .int a2])).length) Slot.unset).toArray = ls at hl ⊢
  have hl : lv_has ls 3 [(0, .ref h0), (1, .int a1), (2, .int a2)] := hl
  unfold fX0_tellOf at h
  refine lv_iload_n hx hb dX0_tellOf_0 rfl (lv_at hl 2 rfl) ?_
  by_cases c1_0 : a2 = 0
  · replace h := fb_it c1_0 h
    refine lv_tableIn (off := 35) (tgt := 36) hx hb dX0_tellOf_1 (by rw [c1_0]; decide) (by rw [c1_0]; decide) (by rw [c1_0]; rfl) (by decide) ?_
    refine lv_aload_n hx hb dX0_tellOf_36 rfl (lv_at hl 0 rfl) ?_
    refine va_get (D := D) (ci := 0) (v := .ref qf) (C := RX0) (T := TX0) (N := 6) hx hb hts hin0 hown hK hP 0 rfl rfl 2 (by decide) (hts _ w_f17) (fun _ h9 => h9) rfl dX0_tellOf_37 ?_
    refine lv_iload_n hx hb dX0_tellOf_40 rfl (lv_at hl 1 rfl) ?_
    obtain ⟨hi2, h⟩ := fb_cks h
    refine va_iald hx hb hK hP 1 0 rfl rfl (fb_ixin hi2) dX0_tellOf_41 ?_
    have h := Option.some.inj h
    subst h
    exact W.iret hx hb hr (fun t ht _ => ⟨rfl, ht⟩) (fun q hq => absurd hq List.not_mem_nil) dX0_tellOf_42
  replace h := fb_ie c1_0 h
  by_cases c1_1 : a2 = 1
  · replace h := fb_it c1_1 h
    refine lv_tableIn (off := 42) (tgt := 43) hx hb dX0_tellOf_1 (by rw [c1_1]; decide) (by rw [c1_1]; decide) (by rw [c1_1]; rfl) (by decide) ?_
    refine lv_aload_n hx hb dX0_tellOf_43 rfl (lv_at hl 0 rfl) ?_
    refine lv_iload_n hx hb dX0_tellOf_44 rfl (lv_at hl 1 rfl) ?_
    refine lv_iconst (v := 0) hx hb dX0_tellOf_45 (by decide) ?_
    obtain ⟨r5, h4, h⟩ := fb_b1s h
    refine fb_callR (W.runV (As := [.int a1, .int 0]) (rest := []) ⟨hx, hb, hml, hown, hts⟩ (metX0_noteAt l D cI h0 qf qn qw ql B0 sz mi fg nt wt wl a1 0 r5 h4) (cwV 2 hts gX0_tellOf_X0_noteAt rfl rfl rfl (by decide +kernel) ⟨Nat.le_of_ble_eq_true rfl, Nat.le_of_ble_eq_true rfl⟩) (fb_preVR (ci := 0) fb_sX0p hP hK hZ hS hAB rfl rfl _) rfl rfl hl.1 rfl (lv_room (Nat.le_of_ble_eq_true rfl)) dX0_tellOf_46 ⟨Nat.le_of_ble_eq_true rfl, Nat.le_of_ble_eq_true rfl⟩) ?_
    refine lv_bipush (v := 7) hx hb dX0_tellOf_49 (by decide) ?_
    refine lv_irem hx hb dX0_tellOf_51 (by decide) ?_
    have h := Option.some.inj h
    subst h
    exact W.iret hx hb hr (fun t ht _ => ⟨rfl, ht⟩) (fun q hq => absurd hq List.not_mem_nil) dX0_tellOf_52
  replace h := fb_ie c1_1 h
  by_cases c1_2 : a2 = 2
  · replace h := fb_it c1_2 h
    refine lv_tableIn (off := 52) (tgt := 53) hx hb dX0_tellOf_1 (by rw [c1_2]; decide) (by rw [c1_2]; decide) (by rw [c1_2]; rfl) (by decide) ?_
    refine lv_aload_n hx hb dX0_tellOf_53 rfl (lv_at hl 0 rfl) ?_
    refine lv_iload_n hx hb dX0_tellOf_54 rfl (lv_at hl 1 rfl) ?_
    obtain ⟨r8, h7, h⟩ := fb_b1s h
    refine fb_callR (W.runV (As := [.int a1]) (rest := []) ⟨hx, hb, hml, hown, hts⟩ (metX0_isSet l D cI h0 qf qn qw ql B0 sz mi fg nt wt wl a1 r8 h7) (cwV 1 hts gX0_tellOf_X0_isSet rfl rfl rfl (by decide +kernel) ⟨Nat.le_of_ble_eq_true rfl, Nat.le_of_ble_eq_true rfl⟩) (fb_preVR (ci := 0) fb_sX0p hP hK hZ hS hAB rfl rfl _) rfl rfl hl.1 rfl (lv_room (Nat.le_of_ble_eq_true rfl)) dX0_tellOf_55 ⟨Nat.le_of_ble_eq_true rfl, Nat.le_of_ble_eq_true rfl⟩) ?_
    refine lv_if_eq (tgt := 65) hx hb dX0_tellOf_58 (by decide) (fun c9 => ?_) (fun c9 => ?_)
    · replace h := fb_it c9 h
      refine lv_iconst (v := 0) hx hb dX0_tellOf_65 (by decide) ?_
      have h := Option.some.inj h
      subst h
      exact W.iret hx hb hr (fun t ht _ => ⟨rfl, ht⟩) (fun q hq => absurd hq List.not_mem_nil) dX0_tellOf_66
    · replace h := fb_ie c9 h
      refine lv_iconst (v := 1) hx hb dX0_tellOf_61 (by decide) ?_
      refine lv_goto (tgt := 66) hx hb dX0_tellOf_62 (by decide) ?_
      have h := Option.some.inj h
      subst h
      exact W.iret hx hb hr (fun t ht _ => ⟨rfl, ht⟩) (fun q hq => absurd hq List.not_mem_nil) dX0_tellOf_66
  replace h := fb_ie c1_2 h
  by_cases c1_3 : a2 = 3
  · replace h := fb_it c1_3 h
    refine lv_tableIn (off := 66) (tgt := 67) hx hb dX0_tellOf_1 (by rw [c1_3]; decide) (by rw [c1_3]; decide) (by rw [c1_3]; rfl) (by decide) ?_
    refine lv_aload_n hx hb dX0_tellOf_67 rfl (lv_at hl 0 rfl) ?_
    refine lv_iload_n hx hb dX0_tellOf_68 rfl (lv_at hl 1 rfl) ?_
    obtain ⟨r13, h12, h⟩ := fb_b1s h
    refine fb_callR (W.runV (As := [.int a1]) (rest := []) ⟨hx, hb, hml, hown, hts⟩ (metX0_isRight l D cI h0 qf qn qw ql B0 sz mi fg nt wt wl a1 r13 h12) (cwV 1 hts gX0_tellOf_X0_isRight rfl rfl rfl (by decide +kernel) ⟨Nat.le_of_ble_eq_true rfl, Nat.le_of_ble_eq_true rfl⟩) (fb_preVR (ci := 0) fb_sX0p hP hK hZ hS hAB rfl rfl _) rfl rfl hl.1 rfl (lv_room (Nat.le_of_ble_eq_true rfl)) dX0_tellOf_69 ⟨Nat.le_of_ble_eq_true rfl, Nat.le_of_ble_eq_true rfl⟩) ?_
    refine lv_if_eq (tgt := 79) hx hb dX0_tellOf_72 (by decide) (fun c14 => ?_) (fun c14 => ?_)
    · replace h := fb_it c14 h
      refine lv_iconst (v := 0) hx hb dX0_tellOf_79 (by decide) ?_
      have h := Option.some.inj h
      subst h
      exact W.iret hx hb hr (fun t ht _ => ⟨rfl, ht⟩) (fun q hq => absurd hq List.not_mem_nil) dX0_tellOf_80
    · replace h := fb_ie c14 h
      refine lv_iconst (v := 1) hx hb dX0_tellOf_75 (by decide) ?_
      refine lv_goto (tgt := 80) hx hb dX0_tellOf_76 (by decide) ?_
      have h := Option.some.inj h
      subst h
      exact W.iret hx hb hr (fun t ht _ => ⟨rfl, ht⟩) (fun q hq => absurd hq List.not_mem_nil) dX0_tellOf_80
  replace h := fb_ie c1_3 h
  by_cases c1_4 : a2 = 4
  · replace h := fb_it c1_4 h
    refine lv_tableIn (off := 80) (tgt := 81) hx hb dX0_tellOf_1 (by rw [c1_4]; decide) (by rw [c1_4]; decide) (by rw [c1_4]; rfl) (by decide) ?_
    refine lv_aload_n hx hb dX0_tellOf_81 rfl (lv_at hl 0 rfl) ?_
    refine lv_iload_n hx hb dX0_tellOf_82 rfl (lv_at hl 1 rfl) ?_
    obtain ⟨r18, h17, h⟩ := fb_b1s h
    refine fb_callR (W.runV (As := [.int a1]) (rest := []) ⟨hx, hb, hml, hown, hts⟩ (metX0_stepsGone l D cI h0 qf qn qw ql B0 sz mi fg nt wt wl a1 r18 h17) (cwV 1 hts gX0_tellOf_X0_stepsGone rfl rfl rfl (by decide +kernel) ⟨Nat.le_of_ble_eq_true rfl, Nat.le_of_ble_eq_true rfl⟩) (fb_preVR (ci := 0) fb_sX0p hP hK hZ hS hAB rfl rfl _) rfl rfl hl.1 rfl (lv_room (Nat.le_of_ble_eq_true rfl)) dX0_tellOf_83 ⟨Nat.le_of_ble_eq_true rfl, Nat.le_of_ble_eq_true rfl⟩) ?_
    have h := Option.some.inj h
    subst h
    exact W.iret hx hb hr (fun t ht _ => ⟨rfl, ht⟩) (fun q hq => absurd hq List.not_mem_nil) dX0_tellOf_86
  replace h := fb_ie c1_4 h
  refine lv_tableOut (tgt := 87) hx hb dX0_tellOf_1 (by have e0 := lv_neT (a := 0) c1_0 (by decide); have e1 := lv_neT (a := 1) c1_1 (by decide); have e2 := lv_neT (a := 2) c1_2 (by decide); have e3 := lv_neT (a := 3) c1_3 (by decide); have e4 := lv_neT (a := 4) c1_4 (by decide); omega) (by decide) ?_
  refine lv_aload_n hx hb dX0_tellOf_87 rfl (lv_at hl 0 rfl) ?_
  refine lv_iload_n hx hb dX0_tellOf_88 rfl (lv_at hl 1 rfl) ?_
  obtain ⟨r21, h20, h⟩ := fb_b1s h
  refine fb_callR (W.runV (As := [.int a1]) (rest := []) ⟨hx, hb, hml, hown, hts⟩ (metX0_costOf l D cI h0 qf qn qw ql B0 sz mi fg nt wt wl a1 r21 h20) (cwV 1 hts gX0_tellOf_X0_costOf rfl rfl rfl (by decide +kernel) ⟨Nat.le_of_ble_eq_true rfl, Nat.le_of_ble_eq_true rfl⟩) (fb_preVR (ci := 0) fb_sX0p hP hK hZ hS hAB rfl rfl _) rfl rfl hl.1 rfl (lv_room (Nat.le_of_ble_eq_true rfl)) dX0_tellOf_89 ⟨Nat.le_of_ble_eq_true rfl, Nat.le_of_ble_eq_true rfl⟩) ?_
  have h := Option.some.inj h
  subst h
  exact W.iret hx hb hr (fun t ht _ => ⟨rfl, ht⟩) (fun q hq => absurd hq List.not_mem_nil) dX0_tellOf_92
abbrev rmX0_countOf : Room := { frames := 5, cells := 0, slots := 0, locals := 118 }
set_option maxHeartbeats 8000000 in
set_option maxRecDepth 100000 in
theorem metX0_countOf (l : Launch) (D : va_G) (cI : ClassId) (h0 qf qn qw ql B0 : Nat) (sz : Int32) (mi : Int32) (fg : Nat → Int32) (nt : Nat → Int32) (wt : Nat → Int32) (wl : Nat → Int32) (a1 : Int32) (ro : Int32) (h : fX0_countOf sz mi fg nt wt wl a1 = some ro) : Met l yX0_countOf wsX0_countOf rmX0_countOf (va_Pc [.ref h0, .int a1] (fb_ok D [(cI, .int)] B0 fb_sX0 (fb_wX0 cI h0 qf qn qw ql sz mi fg nt wt wl))) (QcRead ro) 0 0 (fun _ => False) := by
  refine Met.ofW (cc := cX0_countOf) (maxL := 4) (ret := (some .int)) (by decide) rfl ?_
  intro p e s m args below meth c s₁ B hml hv
  obtain ⟨rfl, hP, hK, hZ⟩ := hv
  have hx := B.exec
  have hb := B.bytes
  have hr := B.returns
  have hts := atoms_spec (ws := wsX0_countOf) B.pre
  have hown : s.vm.findClass RX0 = some m.cls := findClass_of_methodNamed B.named
  have hlocks := B.notSynchronized
  have hAB : ∀ q : Nat, (fun q => B0 ≤ q) q → B0 ≤ q := fun _ h9 => h9
  have hS : va_S (fun q => B0 ≤ q) s.heap s.heap [] := va_S.rf
  have hin0 : ∀ w ∈ u_ws RX0 TX0 6, w ∈ wsX0_countOf := fun _ h9 => List.mem_cons_of_mem _ (List.mem_append_right _ (h9))
  have w_f13 : (Cond.fieldLink RX0 13 "FiguredBass" "inMinor" "Z") ∈ wsX0_countOf := List.mem_of_getElem? (i := 1) rfl
  have w_f7 : (Cond.fieldLink RX0 7 "FiguredBass" "size" "I") ∈ wsX0_countOf := List.mem_of_getElem? (i := 2) rfl
  have hl := lv_entry ([.ref h0, .int a1]) (n := 4) (Nat.le_of_ble_eq_true rfl)
  rw [lg_entry_eq]
  generalize (lg_sl ([.ref h0, .int a1]) ++ List.replicate (4 - (lg_sl ([.ref h0, .int a1])).length) Slot.unset).toArray = ls at hl ⊢
  have hl : lv_has ls 4 [(0, .ref h0), (1, .int a1)] := hl
  unfold fX0_countOf at h
  refine lv_iload_n hx hb dX0_countOf_0 rfl (lv_at hl 1 rfl) ?_
  refine lv_bipush (v := 6) hx hb dX0_countOf_1 (by decide) ?_
  refine lv_icmp_ne (tgt := 19) hx hb dX0_countOf_3 (by decide) (fun c1 => ?_) (fun c1 => ?_)
  · replace h := fb_ie c1 h
    refine lv_iconst (v := 0) hx hb dX0_countOf_19 (by decide) ?_
    refine lv_istore_n (lv' := [(2, .int 0), (0, .ref h0), (1, .int a1)]) hx hb dX0_countOf_20 rfl hl (by decide) rfl (fun ls hl => ?_)
    refine lv_iconst (v := 0) hx hb dX0_countOf_21 (by decide) ?_
    refine lv_istore_n (lv' := [(3, .int 0), (2, .int 0), (0, .ref h0), (1, .int a1)]) hx hb dX0_countOf_22 rfl hl (by decide) rfl (fun ls hl => ?_)
    have LX0_countOf_23 : ∀ (n : Nat) (v2 : Int32) (v3 : Int32) (o21 : Int32) (o22 : Int32), lpX0_countOf_23 a1 sz mi fg nt wt wl n v2 v3 = some (o21, o22) → ∀ (ls : Array Slot), lv_has ls 4 [(3, .int v2), (2, .int v3), (0, .ref h0), (1, .int a1)] → (∀ (ls : Array Slot), lv_has ls 4 [(3, .int o21), (2, .int o22), (0, .ref h0), (1, .int a1)] → W p l e (headSpec wsX0_countOf rmX0_countOf).room s m ([.ref h0, .int a1] : List Value).toArray below meth c s.heap [] 0 0 (MQ below (QcRead ro) ([.ref h0, .int a1] : List Value).toArray s 0 0 (fun _ => False)) (F0 m 148 ls [])) → W p l e (headSpec wsX0_countOf rmX0_countOf).room s m ([.ref h0, .int a1] : List Value).toArray below meth c s.heap [] 0 0 (MQ below (QcRead ro) ([.ref h0, .int a1] : List Value).toArray s 0 0 (fun _ => False)) (F0 m 23 ls []) := by
      intro n
      induction n with
      | zero =>
        intro v2 v3 o21 o22 h
        rw [lpX0_countOf_23.eq_1] at h
        cases h
      | succ n ih =>
        intro v2 v3 o21 o22 h ls hl kx
        rw [lpX0_countOf_23.eq_2] at h
        refine lv_iload_n hx hb dX0_countOf_23 rfl (lv_at hl 0 rfl) ?_
        refine lv_aload_n hx hb dX0_countOf_24 rfl (lv_at hl 2 rfl) ?_
        refine va_get (D := D) (ci := 0) (v := .int sz) (C := RX0) (T := TX0) (N := 6) hx hb hts hin0 hown hK hP 0 rfl rfl 0 (by decide) (hts _ w_f7) (fun _ h9 => h9) rfl dX0_countOf_25 ?_
        refine lv_icmp_ge (tgt := 148) hx hb dX0_countOf_28 (by decide) (fun c4 => ?_) (fun c4 => ?_)
        · replace h := fb_it c4 h
          obtain ⟨e1, e2⟩ := fb_p2 h
          subst e1
          subst e2
          exact kx ls (lv_sub hl [0, 1, 2, 3] rfl)
        · replace h := fb_ie c4 h
          refine lv_iload_n hx hb dX0_countOf_31 rfl (lv_at hl 3 rfl) ?_
          obtain ⟨j20, hjJ1, h⟩ := fb_b1s h
          have J1 : ∀ (ls : Array Slot), lv_has ls 4 [(2, .int j20), (3, .int v2), (0, .ref h0), (1, .int a1)] → W p l e (headSpec wsX0_countOf rmX0_countOf).room s m ([.ref h0, .int a1] : List Value).toArray below meth c s.heap [] 0 0 (MQ below (QcRead ro) ([.ref h0, .int a1] : List Value).toArray s 0 0 (fun _ => False)) (F0 m 142 ls []) := by
            intro ls hl
            refine lv_iinc (v := v2 + 1) (lv' := [(3, .int (v2 + 1)), (2, .int j20), (0, .ref h0), (1, .int a1)]) hx hb dX0_countOf_142 hl (k := 1) rfl rfl (by decide) rfl (fun ls hl => ?_)
            refine lv_goto (tgt := 23) hx hb dX0_countOf_145 (by decide) ?_
            exact ih _ _ o21 o22 h ls (lv_sub hl [0, 1, 2, 3] rfl) kx
          replace h := hjJ1
          by_cases c5_0 : a1 = 0
          · replace h := fb_it c5_0 h
            refine lv_tableIn (off := 36) (tgt := 68) hx hb dX0_countOf_32 (by rw [c5_0]; decide) (by rw [c5_0]; decide) (by rw [c5_0]; rfl) (by decide) ?_
            refine lv_iinc (v := v3 + 1) (lv' := [(2, .int (v3 + 1)), (3, .int v2), (0, .ref h0), (1, .int a1)]) hx hb dX0_countOf_68 hl (k := 1) rfl rfl (by decide) rfl (fun ls hl => ?_)
            refine lv_goto (tgt := 142) hx hb dX0_countOf_71 (by decide) ?_
            have h := Option.some.inj h
            subst h
            exact J1 ls (lv_sub hl [0, 1, 2, 3] rfl)
          replace h := fb_ie c5_0 h
          by_cases c5_1 : a1 = 1
          · replace h := fb_it c5_1 h
            refine lv_tableIn (off := 42) (tgt := 74) hx hb dX0_countOf_32 (by rw [c5_1]; decide) (by rw [c5_1]; decide) (by rw [c5_1]; rfl) (by decide) ?_
            refine lv_iload_n hx hb dX0_countOf_74 rfl (lv_at hl 1 rfl) ?_
            refine lv_aload_n hx hb dX0_countOf_75 rfl (lv_at hl 2 rfl) ?_
            refine lv_iload_n hx hb dX0_countOf_76 rfl (lv_at hl 0 rfl) ?_
            obtain ⟨r7, h6, h⟩ := fb_b1s h
            refine fb_callR (W.runV (As := [.int v2]) (rest := [.int v3]) ⟨hx, hb, hml, hown, hts⟩ (metX0_isSet l D cI h0 qf qn qw ql B0 sz mi fg nt wt wl v2 r7 h6) (cwV 1 hts gX0_countOf_X0_isSet rfl rfl rfl (by decide +kernel) ⟨Nat.le_of_ble_eq_true rfl, Nat.le_of_ble_eq_true rfl⟩) (fb_preVR (ci := 0) fb_sX0p hP hK hZ hS hAB rfl rfl _) rfl rfl hl.1 rfl (lv_room (Nat.le_of_ble_eq_true rfl)) dX0_countOf_77 ⟨Nat.le_of_ble_eq_true rfl, Nat.le_of_ble_eq_true rfl⟩) ?_
            obtain ⟨j9, hjJ2, h⟩ := fb_b1s h
            have J2 : ∀ (ls : Array Slot), lv_has ls 4 [(3, .int v2), (0, .ref h0), (1, .int a1)] → W p l e (headSpec wsX0_countOf rmX0_countOf).room s m ([.ref h0, .int a1] : List Value).toArray below meth c s.heap [] 0 0 (MQ below (QcRead ro) ([.ref h0, .int a1] : List Value).toArray s 0 0 (fun _ => False)) (F0 m 88 ls [.int j9, .int v3]) := by
              intro ls hl
              refine lv_iadd hx hb dX0_countOf_88 ?_
              refine lv_istore_n (lv' := [(2, .int (v3 + j9)), (3, .int v2), (0, .ref h0), (1, .int a1)]) hx hb dX0_countOf_89 rfl hl (by decide) rfl (fun ls hl => ?_)
              refine lv_goto (tgt := 142) hx hb dX0_countOf_90 (by decide) ?_
              have h := Option.some.inj h
              subst h
              exact J1 ls (lv_sub hl [0, 1, 2, 3] rfl)
            replace h := hjJ2
            refine lv_if_eq (tgt := 87) hx hb dX0_countOf_80 (by decide) (fun c8 => ?_) (fun c8 => ?_)
            · replace h := fb_it c8 h
              refine lv_iconst (v := 0) hx hb dX0_countOf_87 (by decide) ?_
              have h := Option.some.inj h
              subst h
              exact J2 ls (lv_sub hl [0, 2, 3] rfl)
            · replace h := fb_ie c8 h
              refine lv_iconst (v := 1) hx hb dX0_countOf_83 (by decide) ?_
              refine lv_goto (tgt := 88) hx hb dX0_countOf_84 (by decide) ?_
              have h := Option.some.inj h
              subst h
              exact J2 ls (lv_sub hl [0, 2, 3] rfl)
          replace h := fb_ie c5_1 h
          by_cases c5_2 : a1 = 2
          · replace h := fb_it c5_2 h
            refine lv_tableIn (off := 61) (tgt := 93) hx hb dX0_countOf_32 (by rw [c5_2]; decide) (by rw [c5_2]; decide) (by rw [c5_2]; rfl) (by decide) ?_
            refine lv_iload_n hx hb dX0_countOf_93 rfl (lv_at hl 1 rfl) ?_
            refine lv_aload_n hx hb dX0_countOf_94 rfl (lv_at hl 2 rfl) ?_
            refine lv_iload_n hx hb dX0_countOf_95 rfl (lv_at hl 0 rfl) ?_
            obtain ⟨r11, h10, h⟩ := fb_b1s h
            refine fb_callR (W.runV (As := [.int v2]) (rest := [.int v3]) ⟨hx, hb, hml, hown, hts⟩ (metX0_isRight l D cI h0 qf qn qw ql B0 sz mi fg nt wt wl v2 r11 h10) (cwV 1 hts gX0_countOf_X0_isRight rfl rfl rfl (by decide +kernel) ⟨Nat.le_of_ble_eq_true rfl, Nat.le_of_ble_eq_true rfl⟩) (fb_preVR (ci := 0) fb_sX0p hP hK hZ hS hAB rfl rfl _) rfl rfl hl.1 rfl (lv_room (Nat.le_of_ble_eq_true rfl)) dX0_countOf_96 ⟨Nat.le_of_ble_eq_true rfl, Nat.le_of_ble_eq_true rfl⟩) ?_
            obtain ⟨j13, hjJ3, h⟩ := fb_b1s h
            have J3 : ∀ (ls : Array Slot), lv_has ls 4 [(3, .int v2), (0, .ref h0), (1, .int a1)] → W p l e (headSpec wsX0_countOf rmX0_countOf).room s m ([.ref h0, .int a1] : List Value).toArray below meth c s.heap [] 0 0 (MQ below (QcRead ro) ([.ref h0, .int a1] : List Value).toArray s 0 0 (fun _ => False)) (F0 m 107 ls [.int j13, .int v3]) := by
              intro ls hl
              refine lv_iadd hx hb dX0_countOf_107 ?_
              refine lv_istore_n (lv' := [(2, .int (v3 + j13)), (3, .int v2), (0, .ref h0), (1, .int a1)]) hx hb dX0_countOf_108 rfl hl (by decide) rfl (fun ls hl => ?_)
              refine lv_goto (tgt := 142) hx hb dX0_countOf_109 (by decide) ?_
              have h := Option.some.inj h
              subst h
              exact J1 ls (lv_sub hl [0, 1, 2, 3] rfl)
            replace h := hjJ3
            refine lv_if_eq (tgt := 106) hx hb dX0_countOf_99 (by decide) (fun c12 => ?_) (fun c12 => ?_)
            · replace h := fb_it c12 h
              refine lv_iconst (v := 0) hx hb dX0_countOf_106 (by decide) ?_
              have h := Option.some.inj h
              subst h
              exact J3 ls (lv_sub hl [0, 2, 3] rfl)
            · replace h := fb_ie c12 h
              refine lv_iconst (v := 1) hx hb dX0_countOf_102 (by decide) ?_
              refine lv_goto (tgt := 107) hx hb dX0_countOf_103 (by decide) ?_
              have h := Option.some.inj h
              subst h
              exact J3 ls (lv_sub hl [0, 2, 3] rfl)
          replace h := fb_ie c5_2 h
          by_cases c5_3 : a1 = 3
          · replace h := fb_it c5_3 h
            refine lv_tableIn (off := 80) (tgt := 112) hx hb dX0_countOf_32 (by rw [c5_3]; decide) (by rw [c5_3]; decide) (by rw [c5_3]; rfl) (by decide) ?_
            refine lv_iload_n hx hb dX0_countOf_112 rfl (lv_at hl 1 rfl) ?_
            refine lv_aload_n hx hb dX0_countOf_113 rfl (lv_at hl 2 rfl) ?_
            refine lv_iload_n hx hb dX0_countOf_114 rfl (lv_at hl 0 rfl) ?_
            obtain ⟨r15, h14, h⟩ := fb_b1s h
            refine fb_callR (W.runV (As := [.int v2]) (rest := [.int v3]) ⟨hx, hb, hml, hown, hts⟩ (metX0_stepsGone l D cI h0 qf qn qw ql B0 sz mi fg nt wt wl v2 r15 h14) (cwV 1 hts gX0_countOf_X0_stepsGone rfl rfl rfl (by decide +kernel) ⟨Nat.le_of_ble_eq_true rfl, Nat.le_of_ble_eq_true rfl⟩) (fb_preVR (ci := 0) fb_sX0p hP hK hZ hS hAB rfl rfl _) rfl rfl hl.1 rfl (lv_room (Nat.le_of_ble_eq_true rfl)) dX0_countOf_115 ⟨Nat.le_of_ble_eq_true rfl, Nat.le_of_ble_eq_true rfl⟩) ?_
            refine lv_iadd hx hb dX0_countOf_118 ?_
            refine lv_istore_n (lv' := [(2, .int (v3 + r15)), (3, .int v2), (0, .ref h0), (1, .int a1)]) hx hb dX0_countOf_119 rfl hl (by decide) rfl (fun ls hl => ?_)
            refine lv_goto (tgt := 142) hx hb dX0_countOf_120 (by decide) ?_
            have h := Option.some.inj h
            subst h
            exact J1 ls (lv_sub hl [0, 1, 2, 3] rfl)
          replace h := fb_ie c5_3 h
          by_cases c5_4 : a1 = 4
          · replace h := fb_it c5_4 h
            refine lv_tableIn (off := 91) (tgt := 123) hx hb dX0_countOf_32 (by rw [c5_4]; decide) (by rw [c5_4]; decide) (by rw [c5_4]; rfl) (by decide) ?_
            refine lv_iload_n hx hb dX0_countOf_123 rfl (lv_at hl 1 rfl) ?_
            refine lv_aload_n hx hb dX0_countOf_124 rfl (lv_at hl 2 rfl) ?_
            refine lv_iload_n hx hb dX0_countOf_125 rfl (lv_at hl 0 rfl) ?_
            obtain ⟨r17, h16, h⟩ := fb_b1s h
            refine fb_callR (W.runV (As := [.int v2]) (rest := [.int v3]) ⟨hx, hb, hml, hown, hts⟩ (metX0_allFaultsOf l D cI h0 qf qn qw ql B0 sz mi fg nt wt wl v2 r17 h16) (cwV 1 hts gX0_countOf_X0_allFaultsOf rfl rfl rfl (by decide +kernel) ⟨Nat.le_of_ble_eq_true rfl, Nat.le_of_ble_eq_true rfl⟩) (fb_preVR (ci := 0) fb_sX0p hP hK hZ hS hAB rfl rfl _) rfl rfl hl.1 rfl (lv_room (Nat.le_of_ble_eq_true rfl)) dX0_countOf_126 ⟨Nat.le_of_ble_eq_true rfl, Nat.le_of_ble_eq_true rfl⟩) ?_
            refine lv_iadd hx hb dX0_countOf_129 ?_
            refine lv_istore_n (lv' := [(2, .int (v3 + r17)), (3, .int v2), (0, .ref h0), (1, .int a1)]) hx hb dX0_countOf_130 rfl hl (by decide) rfl (fun ls hl => ?_)
            refine lv_goto (tgt := 142) hx hb dX0_countOf_131 (by decide) ?_
            have h := Option.some.inj h
            subst h
            exact J1 ls (lv_sub hl [0, 1, 2, 3] rfl)
          replace h := fb_ie c5_4 h
          refine lv_tableOut (tgt := 134) hx hb dX0_countOf_32 (by have e0 := lv_neT (a := 0) c5_0 (by decide); have e1 := lv_neT (a := 1) c5_1 (by decide); have e2 := lv_neT (a := 2) c5_2 (by decide); have e3 := lv_neT (a := 3) c5_3 (by decide); have e4 := lv_neT (a := 4) c5_4 (by decide); omega) (by decide) ?_
          refine lv_iload_n hx hb dX0_countOf_134 rfl (lv_at hl 1 rfl) ?_
          refine lv_aload_n hx hb dX0_countOf_135 rfl (lv_at hl 2 rfl) ?_
          refine lv_iload_n hx hb dX0_countOf_136 rfl (lv_at hl 0 rfl) ?_
          obtain ⟨r19, h18, h⟩ := fb_b1s h
          refine fb_callR (W.runV (As := [.int v2]) (rest := [.int v3]) ⟨hx, hb, hml, hown, hts⟩ (metX0_costOf l D cI h0 qf qn qw ql B0 sz mi fg nt wt wl v2 r19 h18) (cwV 1 hts gX0_countOf_X0_costOf rfl rfl rfl (by decide +kernel) ⟨Nat.le_of_ble_eq_true rfl, Nat.le_of_ble_eq_true rfl⟩) (fb_preVR (ci := 0) fb_sX0p hP hK hZ hS hAB rfl rfl _) rfl rfl hl.1 rfl (lv_room (Nat.le_of_ble_eq_true rfl)) dX0_countOf_137 ⟨Nat.le_of_ble_eq_true rfl, Nat.le_of_ble_eq_true rfl⟩) ?_
          refine lv_iadd hx hb dX0_countOf_140 ?_
          refine lv_istore_n (lv' := [(2, .int (v3 + r19)), (3, .int v2), (0, .ref h0), (1, .int a1)]) hx hb dX0_countOf_141 rfl hl (by decide) rfl (fun ls hl => ?_)
          have h := Option.some.inj h
          subst h
          exact J1 ls (lv_sub hl [0, 1, 2, 3] rfl)
    obtain ⟨o21, o22, h24, h⟩ := fb_b2s h
    refine LX0_countOf_23 _ _ _ o21 o22 h24 ls (lv_sub hl [0, 1, 2, 3] rfl) (fun ls hl => ?_)
    refine lv_iload_n hx hb dX0_countOf_148 rfl (lv_at hl 1 rfl) ?_
    have h := Option.some.inj h
    subst h
    exact W.iret hx hb hr (fun t ht _ => ⟨rfl, ht⟩) (fun q hq => absurd hq List.not_mem_nil) dX0_countOf_149
  · replace h := fb_it c1 h
    refine lv_aload_n hx hb dX0_countOf_6 rfl (lv_at hl 0 rfl) ?_
    refine va_get (D := D) (ci := 0) (v := .int mi) (C := RX0) (T := TX0) (N := 6) hx hb hts hin0 hown hK hP 0 rfl rfl 1 (by decide) (hts _ w_f13) (fun _ h9 => h9) rfl dX0_countOf_7 ?_
    refine lv_if_eq (tgt := 17) hx hb dX0_countOf_10 (by decide) (fun c25 => ?_) (fun c25 => ?_)
    · replace h := fb_it c25 h
      refine lv_iconst (v := 0) hx hb dX0_countOf_17 (by decide) ?_
      have h := Option.some.inj h
      subst h
      exact W.iret hx hb hr (fun t ht _ => ⟨rfl, ht⟩) (fun q hq => absurd hq List.not_mem_nil) dX0_countOf_18
    · replace h := fb_ie c25 h
      refine lv_iconst (v := 1) hx hb dX0_countOf_13 (by decide) ?_
      refine lv_goto (tgt := 18) hx hb dX0_countOf_14 (by decide) ?_
      have h := Option.some.inj h
      subst h
      exact W.iret hx hb hr (fun t ht _ => ⟨rfl, ht⟩) (fun q hq => absurd hq List.not_mem_nil) dX0_countOf_18
