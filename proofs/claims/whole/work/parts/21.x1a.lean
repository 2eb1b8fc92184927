/-! Contracts, printed by wip/whole/gen.py. -/
abbrev rmX1_thrown : Room := { frames := 0, cells := 0, slots := 0, locals := 0 }
set_option maxHeartbeats 8000000 in
set_option maxRecDepth 100000 in
theorem metX1_thrown (l : Launch) (D : va_G) (cI : ClassId) (h0 qn qf qw B0 : Nat) (th : Int32) (ch : Int32) (nt : Nat → Int32) (fg : Nat → Int32) (wt : Nat → Int32) (mi : Int32) (ro : Int32) (h : fX1_thrown th ch nt fg wt mi = some ro) : Met l yX1_thrown wsX1_thrown rmX1_thrown (va_Pc [.ref h0] (fb_ok D [(cI, .int)] B0 fb_sX1 (fb_wX1 cI h0 qn qf qw th ch nt fg wt mi))) (QcRead ro) 0 0 (fun _ => False) := by
  refine Met.ofW (cc := cX1_thrown) (maxL := 1) (ret := (some .int)) (by decide) rfl ?_
  intro p e s m args below meth c s₁ B hml hv
  obtain ⟨rfl, hP, hK, hZ⟩ := hv
  have hx := B.exec
  have hb := B.bytes
  have hr := B.returns
  have hts := atoms_spec (ws := wsX1_thrown) B.pre
  have hown : s.vm.findClass RX1 = some m.cls := findClass_of_methodNamed B.named
  have hlocks := B.notSynchronized
  have hAB : ∀ q : Nat, (fun q => B0 ≤ q) q → B0 ≤ q := fun _ h9 => h9
  have hS : va_S (fun q => B0 ≤ q) s.heap s.heap [] := va_S.rf
  have hin0 : ∀ w ∈ u_ws RX1 TX1 6, w ∈ wsX1_thrown := fun _ h9 => List.mem_cons_of_mem _ (List.mem_append_right _ (h9))
  have w_f19 : (Cond.fieldLink RX1 19 "FiguredBassModel" "thrown" "I") ∈ wsX1_thrown := List.mem_of_getElem? (i := 1) rfl
  have hl := lv_entry ([.ref h0]) (n := 1) (Nat.le_of_ble_eq_true rfl)
  rw [lg_entry_eq]
  generalize (lg_sl ([.ref h0]) ++ List.replicate (1 - (lg_sl ([.ref h0])).length) Slot.unset).toArray = ls at hl ⊢
  have hl : lv_has ls 1 [(0, .ref h0)] := hl
  unfold fX1_thrown at h
  refine lv_aload_n hx hb dX1_thrown_0 rfl (lv_at hl 0 rfl) ?_
  refine va_get (D := D) (ci := 1) (v := .int th) (C := RX1) (T := TX1) (N := 6) hx hb hts hin0 hown hK hP 0 rfl rfl 0 (by decide) (hts _ w_f19) (fun _ h9 => h9) rfl dX1_thrown_1 ?_
  have h := Option.some.inj h
  subst h
  exact W.iret hx hb hr (fun t ht _ => ⟨rfl, ht⟩) (fun q hq => absurd hq List.not_mem_nil) dX1_thrown_4
abbrev rmX1_no : Room := { frames := 0, cells := 0, slots := 0, locals := 0 }
set_option maxHeartbeats 8000000 in
set_option maxRecDepth 100000 in
theorem metX1_no (l : Launch) (D : va_G) (cI : ClassId) (h0 qn qf qw B0 : Nat) (th : Int32) (ch : Int32) (nt : Nat → Int32) (fg : Nat → Int32) (wt : Nat → Int32) (mi : Int32) (a1 : Int32) (hz : Nat) (ro : Int32) (tho : Int32) (h : fX1_no th ch nt fg wt mi a1 = some (ro, tho)) : Met l yX1_no wsX1_no rmX1_no (va_Pc [.ref h0, .int a1] (fb_pm D [(cI, .int)] B0 fb_sX1 (fb_wX1 cI h0 qn qf qw th ch nt fg wt mi) hz)) (fb_qM (fun q => some (.int ro)) (fun q => fb_wX1 cI h0 qn qf qw tho ch nt fg wt mi) D (va_A (fb_wX1 cI h0 qn qf qw th ch nt fg wt mi) hz)) 0 0 (va_A (fb_wX1 cI h0 qn qf qw th ch nt fg wt mi) hz) := by
  refine Met.ofW (cc := cX1_no) (maxL := 2) (ret := (some .int)) (by decide) rfl ?_
  intro p e s m args below meth c s₁ B hml hv
  obtain ⟨rfl, hsz, ⟨hP, hK, hZ⟩, hD0, hAB⟩ := hv
  have hx := B.exec
  have hb := B.bytes
  have hr := B.returns
  have hts := atoms_spec (ws := wsX1_no) B.pre
  have hown : s.vm.findClass RX1 = some m.cls := findClass_of_methodNamed B.named
  have hlocks := B.notSynchronized
  subst hsz
  have hD := hD0.self (sz := s.heap.size)
  generalize hAe : va_A (fb_wX1 cI h0 qn qf qw th ch nt fg wt mi) s.heap.size = A at hD hAB ⊢
  have hA : ∀ q : Nat, s.heap.size ≤ q → A q := fun q h9 => by rw [← hAe]; exact Or.inr h9
  have hS : va_S A s.heap s.heap [] := va_S.rf
  have hP : va_P D vwCl (fb_wX1 cI h0 qn qf qw th ch nt fg wt mi) s.heap := hP
  have hin0 : ∀ w ∈ u_ws RX1 TX1 6, w ∈ wsX1_no := fun _ h9 => List.mem_cons_of_mem _ (List.mem_append_right _ (h9))
  have w_f19 : (Cond.fieldLink RX1 19 "FiguredBassModel" "thrown" "I") ∈ wsX1_no := List.mem_of_getElem? (i := 1) rfl
  have hl := lv_entry ([.ref h0, .int a1]) (n := 2) (Nat.le_of_ble_eq_true rfl)
  rw [lg_entry_eq]
  generalize (lg_sl ([.ref h0, .int a1]) ++ List.replicate (2 - (lg_sl ([.ref h0, .int a1])).length) Slot.unset).toArray = ls at hl ⊢
  have hl : lv_has ls 2 [(0, .ref h0), (1, .int a1)] := hl
  suffices K : ∀ (H : Heap) (locs : List Loc), va_P D vwCl (fb_wX1 cI h0 qn qf qw th ch nt fg wt mi) H → va_S A s.heap H locs → W p l e (headSpec wsX1_no rmX1_no).room s m ([.ref h0, .int a1] : List Value).toArray below meth c H locs 0 0 (MQ below (fb_qM (fun q => some (.int ro)) (fun q => fb_wX1 cI h0 qn qf qw tho ch nt fg wt mi) D A) ([.ref h0, .int a1] : List Value).toArray s 0 0 A) (F0 m 0 ls []) from K s.heap [] hP hS
  intro H locs hP hS
  unfold fX1_no at h
  refine lv_aload_n hx hb dX1_no_0 rfl (lv_at hl 0 rfl) ?_
  refine lv_iload_n hx hb dX1_no_1 rfl (lv_at hl 1 rfl) ?_
  refine va_put (D := D) (ci := 1) (v := .int a1) (ty := .int) (C := RX1) (T := TX1) (N := 6) hx hb hts hin0 tyX1 tyX1_ok nmX1 hown hK hP hD hS 0 rfl rfl 0 (by decide) (hts _ w_f19) (fun _ h9 => h9) rfl (by decide +kernel) rfl rfl (Nat.le_of_ble_eq_true rfl) dX1_no_2 (fun H locs hP hD hS => ?_)
  have hP : va_P D vwCl (fb_wX1 cI h0 qn qf qw a1 ch nt fg wt mi) H := hP
  have hD : va_D A (fb_wX1 cI h0 qn qf qw a1 ch nt fg wt mi) := hD
  refine lv_iconst (v := 0) hx hb dX1_no_5 (by decide) ?_
  obtain ⟨e1, e2⟩ := fb_p2 h
  subst e1
  subst e2
  exact W.iret hx hb hr (fun t ht _ => ⟨⟨0, rfl, by rw [ht]; exact hP, hD⟩, hS.F ht⟩) hS.2.2 dX1_no_6
abbrev rmX1_isIn : Room := { frames := 0, cells := 0, slots := 0, locals := 0 }
set_option maxHeartbeats 8000000 in
set_option maxRecDepth 100000 in
theorem metX1_isIn (l : Launch) (B0 : Nat) (a1 : Int32) (a2 : Int32) (a3 : Int32) (ro : Int32) (h : fX1_isIn a1 a2 a3 = some ro) : Met l yX1_isIn wsX1_isIn rmX1_isIn (va_Pc [.int a1, .int a2, .int a3] (fb_os B0 fb_sX1)) (QcRead ro) 0 0 (fun _ => False) := by
  refine Met.ofW (cc := cX1_isIn) (maxL := 3) (ret := (some .boolean)) (by decide) rfl ?_
  intro p e s m args below meth c s₁ B hml hv
  obtain ⟨rfl, hZ⟩ := hv
  have hx := B.exec
  have hb := B.bytes
  have hr := B.returns
  have hts := atoms_spec (ws := wsX1_isIn) B.pre
  have hown : s.vm.findClass RX1 = some m.cls := findClass_of_methodNamed B.named
  have hlocks := B.notSynchronized
  have hAB : ∀ q : Nat, (fun q => B0 ≤ q) q → B0 ≤ q := fun _ h9 => h9
  have hS : va_S (fun q => B0 ≤ q) s.heap s.heap [] := va_S.rf
  have hl := lv_entry ([.int a1, .int a2, .int a3]) (n := 3) (Nat.le_of_ble_eq_true rfl)
  rw [lg_entry_eq]
  generalize (lg_sl ([.int a1, .int a2, .int a3]) ++ List.replicate (3 - (lg_sl ([.int a1, .int a2, .int a3])).length) Slot.unset).toArray = ls at hl ⊢
  have hl : lv_has ls 3 [(0, .int a1), (1, .int a2), (2, .int a3)] := hl
  unfold fX1_isIn at h
  refine lv_iload_n hx hb dX1_isIn_0 rfl (lv_at hl 0 rfl) ?_
  refine lv_iload_n hx hb dX1_isIn_1 rfl (lv_at hl 1 rfl) ?_
  refine lv_icmp_lt (tgt := 14) hx hb dX1_isIn_2 (by decide) (fun c1 => ?_) (fun c1 => ?_)
  · replace h := fb_it c1 h
    refine lv_iconst (v := 0) hx hb dX1_isIn_14 (by decide) ?_
    have h := Option.some.inj h
    subst h
    exact W.zret (ty := .boolean) hx hb hr rfl (fun t ht _ => ⟨rfl, ht⟩) (fun q hq => absurd hq List.not_mem_nil) dX1_isIn_15
  · replace h := fb_ie c1 h
    refine lv_iload_n hx hb dX1_isIn_5 rfl (lv_at hl 0 rfl) ?_
    refine lv_iload_n hx hb dX1_isIn_6 rfl (lv_at hl 2 rfl) ?_
    refine lv_icmp_gt (tgt := 14) hx hb dX1_isIn_7 (by decide) (fun c3 => ?_) (fun c3 => ?_)
    · replace h := fb_it c3 h
      refine lv_iconst (v := 0) hx hb dX1_isIn_14 (by decide) ?_
      have h := Option.some.inj h
      subst h
      exact W.zret (ty := .boolean) hx hb hr rfl (fun t ht _ => ⟨rfl, ht⟩) (fun q hq => absurd hq List.not_mem_nil) dX1_isIn_15
    · replace h := fb_ie c3 h
      refine lv_iconst (v := 1) hx hb dX1_isIn_10 (by decide) ?_
      refine lv_goto (tgt := 15) hx hb dX1_isIn_11 (by decide) ?_
      have h := Option.some.inj h
      subst h
      exact W.zret (ty := .boolean) hx hb hr rfl (fun t ht _ => ⟨rfl, ht⟩) (fun q hq => absurd hq List.not_mem_nil) dX1_isIn_15
abbrev rmX1_isChord : Room := { frames := 1, cells := 0, slots := 0, locals := 22 }
set_option maxHeartbeats 8000000 in
set_option maxRecDepth 100000 in
theorem metX1_isChord (l : Launch) (D : va_G) (cI : ClassId) (h0 qn qf qw B0 : Nat) (th : Int32) (ch : Int32) (nt : Nat → Int32) (fg : Nat → Int32) (wt : Nat → Int32) (mi : Int32) (a1 : Int32) (ro : Int32) (h : fX1_isChord th ch nt fg wt mi a1 = some ro) : Met l yX1_isChord wsX1_isChord rmX1_isChord (va_Pc [.ref h0, .int a1] (fb_ok D [(cI, .int)] B0 fb_sX1 (fb_wX1 cI h0 qn qf qw th ch nt fg wt mi))) (QcRead ro) 0 0 (fun _ => False) := by
  refine Met.ofW (cc := cX1_isChord) (maxL := 2) (ret := (some .boolean)) (by decide) rfl ?_
  intro p e s m args below meth c s₁ B hml hv
  obtain ⟨rfl, hP, hK, hZ⟩ := hv
  have hx := B.exec
  have hb := B.bytes
  have hr := B.returns
  have hts := atoms_spec (ws := wsX1_isChord) B.pre
  have hown : s.vm.findClass RX1 = some m.cls := findClass_of_methodNamed B.named
  have hlocks := B.notSynchronized
  have hAB : ∀ q : Nat, (fun q => B0 ≤ q) q → B0 ≤ q := fun _ h9 => h9
  have hS : va_S (fun q => B0 ≤ q) s.heap s.heap [] := va_S.rf
  have hin0 : ∀ w ∈ u_ws RX1 TX1 6, w ∈ wsX1_isChord := fun _ h9 => List.mem_cons_of_mem _ (List.mem_append_right _ (h9))
  have w_f23 : (Cond.fieldLink RX1 23 "FiguredBassModel" "chords" "I") ∈ wsX1_isChord := List.mem_of_getElem? (i := 1) rfl
  have hl := lv_entry ([.ref h0, .int a1]) (n := 2) (Nat.le_of_ble_eq_true rfl)
  rw [lg_entry_eq]
  generalize (lg_sl ([.ref h0, .int a1]) ++ List.replicate (2 - (lg_sl ([.ref h0, .int a1])).length) Slot.unset).toArray = ls at hl ⊢
  have hl : lv_has ls 2 [(0, .ref h0), (1, .int a1)] := hl
  unfold fX1_isChord at h
  refine lv_iload_n hx hb dX1_isChord_0 rfl (lv_at hl 1 rfl) ?_
  refine lv_iconst (v := 0) hx hb dX1_isChord_1 (by decide) ?_
  refine lv_aload_n hx hb dX1_isChord_2 rfl (lv_at hl 0 rfl) ?_
  refine va_get (D := D) (ci := 1) (v := .int ch) (C := RX1) (T := TX1) (N := 6) hx hb hts hin0 hown hK hP 0 rfl rfl 1 (by decide) (hts _ w_f23) (fun _ h9 => h9) rfl dX1_isChord_3 ?_
  refine lv_iconst (v := 1) hx hb dX1_isChord_6 (by decide) ?_
  refine lv_isub hx hb dX1_isChord_7 ?_
  obtain ⟨r2, h1, h⟩ := fb_b1s h
  refine fb_callR (W.runS (As := [.int a1, .int 0, .int (ch - 1)]) (rest := []) ⟨hx, hb, hml, hown, hts⟩ (metX1_isIn l B0 a1 0 (ch - 1) r2 h1) (va_cwS 3 hts gX1_isChord_X1_isIn rfl rfl rfl (by decide +kernel) ⟨Nat.le_of_ble_eq_true rfl, Nat.le_of_ble_eq_true rfl⟩) (fb_preS fb_sX1p hZ hS hAB _) rfl rfl hl.1 rfl (lv_room (Nat.le_of_ble_eq_true rfl)) dX1_isChord_8 ⟨Nat.le_of_ble_eq_true rfl, Nat.le_of_ble_eq_true rfl⟩) ?_
  obtain ⟨hz3, h⟩ := fb_cks h
  have h := Option.some.inj h
  subst h
  exact W.zret (ty := .boolean) hx hb hr (fb_zn hz3) (fun t ht _ => ⟨rfl, ht⟩) (fun q hq => absurd hq List.not_mem_nil) dX1_isChord_11
abbrev rmX1_isOf : Room := { frames := 1, cells := 0, slots := 0, locals := 22 }
set_option maxHeartbeats 8000000 in
set_option maxRecDepth 100000 in
theorem metX1_isOf (l : Launch) (B0 : Nat) (a1 : Int32) (a2 : Int32) (ro : Int32) (h : fX1_isOf a1 a2 = some ro) : Met l yX1_isOf wsX1_isOf rmX1_isOf (va_Pc [.int a1, .int a2] (fb_os B0 fb_sX1)) (QcRead ro) 0 0 (fun _ => False) := by
  refine Met.ofW (cc := cX1_isOf) (maxL := 2) (ret := (some .boolean)) (by decide) rfl ?_
  intro p e s m args below meth c s₁ B hml hv
  obtain ⟨rfl, hZ⟩ := hv
  have hx := B.exec
  have hb := B.bytes
  have hr := B.returns
  have hts := atoms_spec (ws := wsX1_isOf) B.pre
  have hown : s.vm.findClass RX1 = some m.cls := findClass_of_methodNamed B.named
  have hlocks := B.notSynchronized
  have hAB : ∀ q : Nat, (fun q => B0 ≤ q) q → B0 ≤ q := fun _ h9 => h9
  have hS : va_S (fun q => B0 ≤ q) s.heap s.heap [] := va_S.rf
  obtain ⟨t_HIGH, hz_HIGH, ht_HIGH⟩ := fb_stA_narrow hZ.2.1 hAB
  obtain ⟨t_LOW, hz_LOW, ht_LOW⟩ := fb_stA_narrow hZ.1 hAB
  have w_f30 : (Cond.fieldLink RX1 30 "FiguredBassModel" "LOW" "[I") ∈ wsX1_isOf := List.mem_of_getElem? (i := 1) rfl
  have w_f33 : (Cond.fieldLink RX1 33 "FiguredBassModel" "HIGH" "[I") ∈ wsX1_isOf := List.mem_of_getElem? (i := 2) rfl
  have hl := lv_entry ([.int a1, .int a2]) (n := 2) (Nat.le_of_ble_eq_true rfl)
  rw [lg_entry_eq]
  generalize (lg_sl ([.int a1, .int a2]) ++ List.replicate (2 - (lg_sl ([.int a1, .int a2])).length) Slot.unset).toArray = ls at hl ⊢
  have hl : lv_has ls 2 [(0, .int a1), (1, .int a2)] := hl
  unfold fX1_isOf at h
  refine lv_iload_n hx hb dX1_isOf_0 rfl (lv_at hl 1 rfl) ?_
  refine va_gets hx hb hz_LOW hS hown (hts _ w_f30) (fun _ h9 => h9) dX1_isOf_1 ?_
  refine lv_iload_n hx hb dX1_isOf_4 rfl (lv_at hl 0 rfl) ?_
  obtain ⟨hi1, h⟩ := fb_cks h
  refine va_ti hx hb ht_LOW hS (fb_ixin hi1) rfl dX1_isOf_5 ?_
  refine va_gets hx hb hz_HIGH hS hown (hts _ w_f33) (fun _ h9 => h9) dX1_isOf_6 ?_
  refine lv_iload_n hx hb dX1_isOf_9 rfl (lv_at hl 0 rfl) ?_
  refine va_ti hx hb ht_HIGH hS (fb_ixin hi1) rfl dX1_isOf_10 ?_
  obtain ⟨r3, h2, h⟩ := fb_b1s h
  refine fb_callR (W.runS (As := [.int a2, .int (fb_tX1_LOW a1.toNatClampNeg), .int (fb_tX1_HIGH a1.toNatClampNeg)]) (rest := []) ⟨hx, hb, hml, hown, hts⟩ (metX1_isIn l B0 a2 (fb_tX1_LOW a1.toNatClampNeg) (fb_tX1_HIGH a1.toNatClampNeg) r3 h2) (va_cwS 3 hts gX1_isOf_X1_isIn rfl rfl rfl (by decide +kernel) ⟨Nat.le_of_ble_eq_true rfl, Nat.le_of_ble_eq_true rfl⟩) (fb_preS fb_sX1p hZ hS hAB _) rfl rfl hl.1 rfl (lv_room (Nat.le_of_ble_eq_true rfl)) dX1_isOf_11 ⟨Nat.le_of_ble_eq_true rfl, Nat.le_of_ble_eq_true rfl⟩) ?_
  obtain ⟨hz4, h⟩ := fb_cks h
  have h := Option.some.inj h
  subst h
  exact W.zret (ty := .boolean) hx hb hr (fb_zn hz4) (fun t ht _ => ⟨rfl, ht⟩) (fun q hq => absurd hq List.not_mem_nil) dX1_isOf_14
abbrev rmX1_at : Room := { frames := 0, cells := 0, slots := 0, locals := 0 }
set_option maxHeartbeats 8000000 in
set_option maxRecDepth 100000 in
theorem metX1_at (l : Launch) (D : va_G) (cI : ClassId) (h0 qn qf qw B0 : Nat) (th : Int32) (ch : Int32) (nt : Nat → Int32) (fg : Nat → Int32) (wt : Nat → Int32) (mi : Int32) (a1 : Int32) (a2 : Int32) (ro : Int32) (h : fX1_at th ch nt fg wt mi a1 a2 = some ro) : Met l yX1_at wsX1_at rmX1_at (va_Pc [.ref h0, .int a1, .int a2] (fb_ok D [(cI, .int)] B0 fb_sX1 (fb_wX1 cI h0 qn qf qw th ch nt fg wt mi))) (QcRead ro) 0 0 (fun _ => False) := by
  refine Met.ofW (cc := cX1_at) (maxL := 3) (ret := (some .int)) (by decide) rfl ?_
  intro p e s m args below meth c s₁ B hml hv
  obtain ⟨rfl, hP, hK, hZ⟩ := hv
  have hx := B.exec
  have hb := B.bytes
  have hr := B.returns
  have hts := atoms_spec (ws := wsX1_at) B.pre
  have hown : s.vm.findClass RX1 = some m.cls := findClass_of_methodNamed B.named
  have hlocks := B.notSynchronized
  have hAB : ∀ q : Nat, (fun q => B0 ≤ q) q → B0 ≤ q := fun _ h9 => h9
  have hS : va_S (fun q => B0 ≤ q) s.heap s.heap [] := va_S.rf
  have hin0 : ∀ w ∈ u_ws RX1 TX1 6, w ∈ wsX1_at := fun _ h9 => List.mem_cons_of_mem _ (List.mem_append_right _ (h9))
  have w_f9 : (Cond.fieldLink RX1 9 "FiguredBassModel" "notes" "[I") ∈ wsX1_at := List.mem_of_getElem? (i := 1) rfl
  have hl := lv_entry ([.ref h0, .int a1, .int a2]) (n := 3) (Nat.le_of_ble_eq_true rfl)
  rw [lg_entry_eq]
  generalize (lg_sl ([.ref h0, .int a1, .int a2]) ++ List.replicate (3 - (lg_sl ([.ref h0, .int a1, .int a2])).length) Slot.unset).toArray = ls at hl ⊢
  have hl : lv_has ls 3 [(0, .ref h0), (1, .int a1), (2, .int a2)] := hl
  unfold fX1_at at h
  refine lv_aload_n hx hb dX1_at_0 rfl (lv_at hl 0 rfl) ?_
  refine va_get (D := D) (ci := 1) (v := .ref qn) (C := RX1) (T := TX1) (N := 6) hx hb hts hin0 hown hK hP 0 rfl rfl 2 (by decide) (hts _ w_f9) (fun _ h9 => h9) rfl dX1_at_1 ?_
  refine lv_iconst (v := 4) hx hb dX1_at_4 (by decide) ?_
  refine lv_iload_n hx hb dX1_at_5 rfl (lv_at hl 1 rfl) ?_
  refine lv_imul hx hb dX1_at_6 ?_
  refine lv_iload_n hx hb dX1_at_7 rfl (lv_at hl 2 rfl) ?_
  refine lv_iadd hx hb dX1_at_8 ?_
  obtain ⟨hi1, h⟩ := fb_cks h
  refine va_iald hx hb hK hP 1 0 rfl rfl (fb_ixin hi1) dX1_at_9 ?_
  have h := Option.some.inj h
  subst h
  exact W.iret hx hb hr (fun t ht _ => ⟨rfl, ht⟩) (fun q hq => absurd hq List.not_mem_nil) dX1_at_10
abbrev rmX1_pitchOf : Room := { frames := 0, cells := 0, slots := 0, locals := 0 }
set_option maxHeartbeats 8000000 in
set_option maxRecDepth 100000 in
theorem metX1_pitchOf (l : Launch) (D : va_G) (cI : ClassId) (h0 qn qf qw B0 : Nat) (th : Int32) (ch : Int32) (nt : Nat → Int32) (fg : Nat → Int32) (wt : Nat → Int32) (mi : Int32) (a1 : Int32) (ro : Int32) (h : fX1_pitchOf th ch nt fg wt mi a1 = some ro) : Met l yX1_pitchOf wsX1_pitchOf rmX1_pitchOf (va_Pc [.ref h0, .int a1] (fb_ok D [(cI, .int)] B0 fb_sX1 (fb_wX1 cI h0 qn qf qw th ch nt fg wt mi))) (QcRead ro) 0 0 (fun _ => False) := by
  refine Met.ofW (cc := cX1_pitchOf) (maxL := 2) (ret := (some .int)) (by decide) rfl ?_
  intro p e s m args below meth c s₁ B hml hv
  obtain ⟨rfl, hP, hK, hZ⟩ := hv
  have hx := B.exec
  have hb := B.bytes
  have hr := B.returns
  have hts := atoms_spec (ws := wsX1_pitchOf) B.pre
  have hown : s.vm.findClass RX1 = some m.cls := findClass_of_methodNamed B.named
  have hlocks := B.notSynchronized
  have hAB : ∀ q : Nat, (fun q => B0 ≤ q) q → B0 ≤ q := fun _ h9 => h9
  have hS : va_S (fun q => B0 ≤ q) s.heap s.heap [] := va_S.rf
  obtain ⟨t_MAJOR, hz_MAJOR, ht_MAJOR⟩ := fb_stA_narrow hZ.2.2.2.1 hAB
  obtain ⟨t_MINOR, hz_MINOR, ht_MINOR⟩ := fb_stA_narrow hZ.2.2.2.2 hAB
  have hin0 : ∀ w ∈ u_ws RX1 TX1 6, w ∈ wsX1_pitchOf := fun _ h9 => List.mem_cons_of_mem _ (List.mem_append_right _ (h9))
  have w_f36 : (Cond.fieldLink RX1 36 "FiguredBassModel" "isMinor" "Z") ∈ wsX1_pitchOf := List.mem_of_getElem? (i := 1) rfl
  have w_f40 : (Cond.fieldLink RX1 40 "FiguredBassModel" "MINOR" "[I") ∈ wsX1_pitchOf := List.mem_of_getElem? (i := 2) rfl
  have w_f43 : (Cond.fieldLink RX1 43 "FiguredBassModel" "MAJOR" "[I") ∈ wsX1_pitchOf := List.mem_of_getElem? (i := 3) rfl
  have hl := lv_entry ([.ref h0, .int a1]) (n := 2) (Nat.le_of_ble_eq_true rfl)
  rw [lg_entry_eq]
  generalize (lg_sl ([.ref h0, .int a1]) ++ List.replicate (2 - (lg_sl ([.ref h0, .int a1])).length) Slot.unset).toArray = ls at hl ⊢
  have hl : lv_has ls 2 [(0, .ref h0), (1, .int a1)] := hl
  unfold fX1_pitchOf at h
  refine lv_bipush (v := 12) hx hb dX1_pitchOf_0 (by decide) ?_
  refine lv_iload_n hx hb dX1_pitchOf_2 rfl (lv_at hl 1 rfl) ?_
  refine lv_bipush (v := 7) hx hb dX1_pitchOf_3 (by decide) ?_
  refine lv_idiv hx hb dX1_pitchOf_5 (by decide) ?_
  refine lv_imul hx hb dX1_pitchOf_6 ?_
  refine lv_aload_n hx hb dX1_pitchOf_7 rfl (lv_at hl 0 rfl) ?_
  refine va_get (D := D) (ci := 1) (v := .int mi) (C := RX1) (T := TX1) (N := 6) hx hb hts hin0 hown hK hP 0 rfl rfl 5 (by decide) (hts _ w_f36) (fun _ h9 => h9) rfl dX1_pitchOf_8 ?_
  refine lv_if_eq (tgt := 20) hx hb dX1_pitchOf_11 (by decide) (fun c1 => ?_) (fun c1 => ?_)
  · replace h := fb_it c1 h
    refine va_gets hx hb hz_MAJOR hS hown (hts _ w_f43) (fun _ h9 => h9) dX1_pitchOf_20 ?_
    refine lv_iload_n hx hb dX1_pitchOf_23 rfl (lv_at hl 1 rfl) ?_
    refine lv_bipush (v := 7) hx hb dX1_pitchOf_24 (by decide) ?_
    refine lv_irem hx hb dX1_pitchOf_26 (by decide) ?_
    obtain ⟨hi2, h⟩ := fb_cks h
    refine va_ti hx hb ht_MAJOR hS (fb_ixin hi2) rfl dX1_pitchOf_27 ?_
    refine lv_iadd hx hb dX1_pitchOf_28 ?_
    have h := Option.some.inj h
    subst h
    exact W.iret hx hb hr (fun t ht _ => ⟨rfl, ht⟩) (fun q hq => absurd hq List.not_mem_nil) dX1_pitchOf_29
  · replace h := fb_ie c1 h
    refine va_gets hx hb hz_MINOR hS hown (hts _ w_f40) (fun _ h9 => h9) dX1_pitchOf_14 ?_
    refine lv_goto (tgt := 23) hx hb dX1_pitchOf_17 (by decide) ?_
    refine lv_iload_n hx hb dX1_pitchOf_23 rfl (lv_at hl 1 rfl) ?_
    refine lv_bipush (v := 7) hx hb dX1_pitchOf_24 (by decide) ?_
    refine lv_irem hx hb dX1_pitchOf_26 (by decide) ?_
    obtain ⟨hi4, h⟩ := fb_cks h
    refine va_ti hx hb ht_MINOR hS (fb_ixin hi4) rfl dX1_pitchOf_27 ?_
    refine lv_iadd hx hb dX1_pitchOf_28 ?_
    have h := Option.some.inj h
    subst h
    exact W.iret hx hb hr (fun t ht _ => ⟨rfl, ht⟩) (fun q hq => absurd hq List.not_mem_nil) dX1_pitchOf_29
abbrev rmX1_step : Room := { frames := 0, cells := 0, slots := 0, locals := 0 }
set_option maxHeartbeats 8000000 in
set_option maxRecDepth 100000 in
theorem metX1_step (l : Launch) (B0 : Nat) (a1 : Int32) (a2 : Int32) (ro : Int32) (h : fX1_step a1 a2 = some ro) : Met l yX1_step wsX1_step rmX1_step (va_Pc [.int a1, .int a2] (fb_os B0 fb_sX1)) (QcRead ro) 0 0 (fun _ => False) := by
  refine Met.ofW (cc := cX1_step) (maxL := 2) (ret := (some .int)) (by decide) rfl ?_
  intro p e s m args below meth c s₁ B hml hv
  obtain ⟨rfl, hZ⟩ := hv
  have hx := B.exec
  have hb := B.bytes
  have hr := B.returns
  have hts := atoms_spec (ws := wsX1_step) B.pre
  have hown : s.vm.findClass RX1 = some m.cls := findClass_of_methodNamed B.named
  have hlocks := B.notSynchronized
  have hAB : ∀ q : Nat, (fun q => B0 ≤ q) q → B0 ≤ q := fun _ h9 => h9
  have hS : va_S (fun q => B0 ≤ q) s.heap s.heap [] := va_S.rf
  have hl := lv_entry ([.int a1, .int a2]) (n := 2) (Nat.le_of_ble_eq_true rfl)
  rw [lg_entry_eq]
  generalize (lg_sl ([.int a1, .int a2]) ++ List.replicate (2 - (lg_sl ([.int a1, .int a2])).length) Slot.unset).toArray = ls at hl ⊢
  have hl : lv_has ls 2 [(0, .int a1), (1, .int a2)] := hl
  unfold fX1_step at h
  refine lv_iload_n hx hb dX1_step_0 rfl (lv_at hl 0 rfl) ?_
  refine lv_iload_n hx hb dX1_step_1 rfl (lv_at hl 1 rfl) ?_
  refine lv_isub hx hb dX1_step_2 ?_
  refine lv_bipush (v := 21) hx hb dX1_step_3 (by decide) ?_
  refine lv_iadd hx hb dX1_step_5 ?_
  refine lv_bipush (v := 7) hx hb dX1_step_6 (by decide) ?_
  refine lv_irem hx hb dX1_step_8 (by decide) ?_
  have h := Option.some.inj h
  subst h
  exact W.iret hx hb hr (fun t ht _ => ⟨rfl, ht⟩) (fun q hq => absurd hq List.not_mem_nil) dX1_step_9
abbrev rmX1_isSet : Room := { frames := 1, cells := 0, slots := 0, locals := 22 }
set_option maxHeartbeats 8000000 in
set_option maxRecDepth 100000 in
theorem metX1_isSet (l : Launch) (D : va_G) (cI : ClassId) (h0 qn qf qw B0 : Nat) (th : Int32) (ch : Int32) (nt : Nat → Int32) (fg : Nat → Int32) (wt : Nat → Int32) (mi : Int32) (a1 : Int32) (ro : Int32) (h : fX1_isSet th ch nt fg wt mi a1 = some ro) : Met l yX1_isSet wsX1_isSet rmX1_isSet (va_Pc [.ref h0, .int a1] (fb_ok D [(cI, .int)] B0 fb_sX1 (fb_wX1 cI h0 qn qf qw th ch nt fg wt mi))) (QcRead ro) 0 0 (fun _ => False) := by
  refine Met.ofW (cc := cX1_isSet) (maxL := 2) (ret := (some .boolean)) (by decide) rfl ?_
  intro p e s m args below meth c s₁ B hml hv
  obtain ⟨rfl, hP, hK, hZ⟩ := hv
  have hx := B.exec
  have hb := B.bytes
  have hr := B.returns
  have hts := atoms_spec (ws := wsX1_isSet) B.pre
  have hown : s.vm.findClass RX1 = some m.cls := findClass_of_methodNamed B.named
  have hlocks := B.notSynchronized
  have hAB : ∀ q : Nat, (fun q => B0 ≤ q) q → B0 ≤ q := fun _ h9 => h9
  have hS : va_S (fun q => B0 ≤ q) s.heap s.heap [] := va_S.rf
  have hin0 : ∀ w ∈ u_ws RX1 TX1 6, w ∈ wsX1_isSet := fun _ h9 => List.mem_cons_of_mem _ (List.mem_append_right _ (h9))
  have hl := lv_entry ([.ref h0, .int a1]) (n := 2) (Nat.le_of_ble_eq_true rfl)
  rw [lg_entry_eq]
  generalize (lg_sl ([.ref h0, .int a1]) ++ List.replicate (2 - (lg_sl ([.ref h0, .int a1])).length) Slot.unset).toArray = ls at hl ⊢
  have hl : lv_has ls 2 [(0, .ref h0), (1, .int a1)] := hl
  unfold fX1_isSet at h
  refine lv_aload_n hx hb dX1_isSet_0 rfl (lv_at hl 0 rfl) ?_
  refine lv_iload_n hx hb dX1_isSet_1 rfl (lv_at hl 1 rfl) ?_
  refine lv_iconst (v := 1) hx hb dX1_isSet_2 (by decide) ?_
  obtain ⟨r2, h1, h⟩ := fb_b1s h
  refine fb_callR (W.runV (As := [.int a1, .int 1]) (rest := []) ⟨hx, hb, hml, hown, hts⟩ (metX1_at l D cI h0 qn qf qw B0 th ch nt fg wt mi a1 1 r2 h1) (cwV 2 hts gX1_isSet_X1_at rfl rfl rfl (by decide +kernel) ⟨Nat.le_of_ble_eq_true rfl, Nat.le_of_ble_eq_true rfl⟩) (fb_preVR (ci := 1) fb_sX1p hP hK hZ hS hAB rfl rfl _) rfl rfl hl.1 rfl (lv_room (Nat.le_of_ble_eq_true rfl)) dX1_isSet_3 ⟨Nat.le_of_ble_eq_true rfl, Nat.le_of_ble_eq_true rfl⟩) ?_
  refine lv_iconst (v := (-1)) hx hb dX1_isSet_6 (by decide) ?_
  refine lv_icmp_eq (tgt := 34) hx hb dX1_isSet_7 (by decide) (fun c3 => ?_) (fun c3 => ?_)
  · replace h := fb_it c3 h
    refine lv_iconst (v := 0) hx hb dX1_isSet_34 (by decide) ?_
    have h := Option.some.inj h
    subst h
    exact W.zret (ty := .boolean) hx hb hr rfl (fun t ht _ => ⟨rfl, ht⟩) (fun q hq => absurd hq List.not_mem_nil) dX1_isSet_35
  · replace h := fb_ie c3 h
    refine lv_aload_n hx hb dX1_isSet_10 rfl (lv_at hl 0 rfl) ?_
    refine lv_iload_n hx hb dX1_isSet_11 rfl (lv_at hl 1 rfl) ?_
    refine lv_iconst (v := 2) hx hb dX1_isSet_12 (by decide) ?_
    obtain ⟨r6, h5, h⟩ := fb_b1s h
    refine fb_callR (W.runV (As := [.int a1, .int 2]) (rest := []) ⟨hx, hb, hml, hown, hts⟩ (metX1_at l D cI h0 qn qf qw B0 th ch nt fg wt mi a1 2 r6 h5) (cwV 2 hts gX1_isSet_X1_at rfl rfl rfl (by decide +kernel) ⟨Nat.le_of_ble_eq_true rfl, Nat.le_of_ble_eq_true rfl⟩) (fb_preVR (ci := 1) fb_sX1p hP hK hZ hS hAB rfl rfl _) rfl rfl hl.1 rfl (lv_room (Nat.le_of_ble_eq_true rfl)) dX1_isSet_13 ⟨Nat.le_of_ble_eq_true rfl, Nat.le_of_ble_eq_true rfl⟩) ?_
    refine lv_iconst (v := (-1)) hx hb dX1_isSet_16 (by decide) ?_
    refine lv_icmp_eq (tgt := 34) hx hb dX1_isSet_17 (by decide) (fun c7 => ?_) (fun c7 => ?_)
    · replace h := fb_it c7 h
      refine lv_iconst (v := 0) hx hb dX1_isSet_34 (by decide) ?_
      have h := Option.some.inj h
      subst h
      exact W.zret (ty := .boolean) hx hb hr rfl (fun t ht _ => ⟨rfl, ht⟩) (fun q hq => absurd hq List.not_mem_nil) dX1_isSet_35
    · replace h := fb_ie c7 h
      refine lv_aload_n hx hb dX1_isSet_20 rfl (lv_at hl 0 rfl) ?_
      refine lv_iload_n hx hb dX1_isSet_21 rfl (lv_at hl 1 rfl) ?_
      refine lv_iconst (v := 3) hx hb dX1_isSet_22 (by decide) ?_
      obtain ⟨r10, h9, h⟩ := fb_b1s h
      refine fb_callR (W.runV (As := [.int a1, .int 3]) (rest := []) ⟨hx, hb, hml, hown, hts⟩ (metX1_at l D cI h0 qn qf qw B0 th ch nt fg wt mi a1 3 r10 h9) (cwV 2 hts gX1_isSet_X1_at rfl rfl rfl (by decide +kernel) ⟨Nat.le_of_ble_eq_true rfl, Nat.le_of_ble_eq_true rfl⟩) (fb_preVR (ci := 1) fb_sX1p hP hK hZ hS hAB rfl rfl _) rfl rfl hl.1 rfl (lv_room (Nat.le_of_ble_eq_true rfl)) dX1_isSet_23 ⟨Nat.le_of_ble_eq_true rfl, Nat.le_of_ble_eq_true rfl⟩) ?_
      refine lv_iconst (v := (-1)) hx hb dX1_isSet_26 (by decide) ?_
      refine lv_icmp_eq (tgt := 34) hx hb dX1_isSet_27 (by decide) (fun c11 => ?_) (fun c11 => ?_)
      · replace h := fb_it c11 h
        refine lv_iconst (v := 0) hx hb dX1_isSet_34 (by decide) ?_
        have h := Option.some.inj h
        subst h
        exact W.zret (ty := .boolean) hx hb hr rfl (fun t ht _ => ⟨rfl, ht⟩) (fun q hq => absurd hq List.not_mem_nil) dX1_isSet_35
      · replace h := fb_ie c11 h
        refine lv_iconst (v := 1) hx hb dX1_isSet_30 (by decide) ?_
        refine lv_goto (tgt := 35) hx hb dX1_isSet_31 (by decide) ?_
        have h := Option.some.inj h
        subst h
        exact W.zret (ty := .boolean) hx hb hr rfl (fun t ht _ => ⟨rfl, ht⟩) (fun q hq => absurd hq List.not_mem_nil) dX1_isSet_35
abbrev rmX1_belongs : Room := { frames := 1, cells := 0, slots := 0, locals := 21 }
set_option maxHeartbeats 8000000 in
set_option maxRecDepth 100000 in
theorem metX1_belongs (l : Launch) (B0 : Nat) (a1 : Int32) (a2 : Int32) (a3 : Int32) (ro : Int32) (h : fX1_belongs a1 a2 a3 = some ro) : Met l yX1_belongs wsX1_belongs rmX1_belongs (va_Pc [.int a1, .int a2, .int a3] (fb_os B0 fb_sX1)) (QcRead ro) 0 0 (fun _ => False) := by
  refine Met.ofW (cc := cX1_belongs) (maxL := 3) (ret := (some .boolean)) (by decide) rfl ?_
  intro p e s m args below meth c s₁ B hml hv
  obtain ⟨rfl, hZ⟩ := hv
  have hx := B.exec
  have hb := B.bytes
  have hr := B.returns
  have hts := atoms_spec (ws := wsX1_belongs) B.pre
  have hown : s.vm.findClass RX1 = some m.cls := findClass_of_methodNamed B.named
  have hlocks := B.notSynchronized
  have hAB : ∀ q : Nat, (fun q => B0 ≤ q) q → B0 ≤ q := fun _ h9 => h9
  have hS : va_S (fun q => B0 ≤ q) s.heap s.heap [] := va_S.rf
  obtain ⟨t_STEPS, hz_STEPS, ht_STEPS⟩ := fb_stA_narrow hZ.2.2.1 hAB
  have w_f50 : (Cond.fieldLink RX1 50 "FiguredBassModel" "STEPS" "[I") ∈ wsX1_belongs := List.mem_of_getElem? (i := 1) rfl
  have hl := lv_entry ([.int a1, .int a2, .int a3]) (n := 3) (Nat.le_of_ble_eq_true rfl)
  rw [lg_entry_eq]
  generalize (lg_sl ([.int a1, .int a2, .int a3]) ++ List.replicate (3 - (lg_sl ([.int a1, .int a2, .int a3])).length) Slot.unset).toArray = ls at hl ⊢
  have hl : lv_has ls 3 [(0, .int a1), (1, .int a2), (2, .int a3)] := hl
  unfold fX1_belongs at h
  refine va_gets hx hb hz_STEPS hS hown (hts _ w_f50) (fun _ h9 => h9) dX1_belongs_0 ?_
  refine lv_iload_n hx hb dX1_belongs_3 rfl (lv_at hl 2 rfl) ?_
  obtain ⟨hi1, h⟩ := fb_cks h
  refine va_ti hx hb ht_STEPS hS (fb_ixin hi1) rfl dX1_belongs_4 ?_
  refine lv_iconst (v := 1) hx hb dX1_belongs_5 (by decide) ?_
  refine lv_ior hx hb dX1_belongs_6 ?_
  refine lv_iload_n hx hb dX1_belongs_7 rfl (lv_at hl 0 rfl) ?_
  refine lv_iload_n hx hb dX1_belongs_8 rfl (lv_at hl 1 rfl) ?_
  obtain ⟨r3, h2, h⟩ := fb_b1s h
  refine fb_callR (W.runS (As := [.int a1, .int a2]) (rest := [.int ((fb_tX1_STEPS a3.toNatClampNeg) ||| 1)]) ⟨hx, hb, hml, hown, hts⟩ (metX1_step l B0 a1 a2 r3 h2) (va_cwS 2 hts gX1_belongs_X1_step rfl rfl rfl (by decide +kernel) ⟨Nat.le_of_ble_eq_true rfl, Nat.le_of_ble_eq_true rfl⟩) (fb_preS fb_sX1p hZ hS hAB _) rfl rfl hl.1 rfl (lv_room (Nat.le_of_ble_eq_true rfl)) dX1_belongs_9 ⟨Nat.le_of_ble_eq_true rfl, Nat.le_of_ble_eq_true rfl⟩) ?_
  refine lv_ishr hx hb dX1_belongs_12 ?_
  refine lv_iconst (v := 1) hx hb dX1_belongs_13 (by decide) ?_
  refine lv_iand hx hb dX1_belongs_14 ?_
  refine lv_iconst (v := 1) hx hb dX1_belongs_15 (by decide) ?_
  refine lv_icmp_ne (tgt := 23) hx hb dX1_belongs_16 (by decide) (fun c4 => ?_) (fun c4 => ?_)
  · replace h := fb_ie c4 h
    refine lv_iconst (v := 0) hx hb dX1_belongs_23 (by decide) ?_
    have h := Option.some.inj h
    subst h
    exact W.zret (ty := .boolean) hx hb hr rfl (fun t ht _ => ⟨rfl, ht⟩) (fun q hq => absurd hq List.not_mem_nil) dX1_belongs_24
  · replace h := fb_it c4 h
    refine lv_iconst (v := 1) hx hb dX1_belongs_19 (by decide) ?_
    refine lv_goto (tgt := 24) hx hb dX1_belongs_20 (by decide) ?_
    have h := Option.some.inj h
    subst h
    exact W.zret (ty := .boolean) hx hb hr rfl (fun t ht _ => ⟨rfl, ht⟩) (fun q hq => absurd hq List.not_mem_nil) dX1_belongs_24
abbrev rmX1_isRight : Room := { frames := 2, cells := 0, slots := 0, locals := 43 }
set_option maxHeartbeats 8000000 in
set_option maxRecDepth 100000 in
theorem metX1_isRight (l : Launch) (D : va_G) (cI : ClassId) (h0 qn qf qw B0 : Nat) (th : Int32) (ch : Int32) (nt : Nat → Int32) (fg : Nat → Int32) (wt : Nat → Int32) (mi : Int32) (a1 : Int32) (ro : Int32) (h : fX1_isRight th ch nt fg wt mi a1 = some ro) : Met l yX1_isRight wsX1_isRight rmX1_isRight (va_Pc [.ref h0, .int a1] (fb_ok D [(cI, .int)] B0 fb_sX1 (fb_wX1 cI h0 qn qf qw th ch nt fg wt mi))) (QcRead ro) 0 0 (fun _ => False) := by
  refine Met.ofW (cc := cX1_isRight) (maxL := 5) (ret := (some .boolean)) (by decide) rfl ?_
  intro p e s m args below meth c s₁ B hml hv
  obtain ⟨rfl, hP, hK, hZ⟩ := hv
  have hx := B.exec
  have hb := B.bytes
  have hr := B.returns
  have hts := atoms_spec (ws := wsX1_isRight) B.pre
  have hown : s.vm.findClass RX1 = some m.cls := findClass_of_methodNamed B.named
  have hlocks := B.notSynchronized
  have hAB : ∀ q : Nat, (fun q => B0 ≤ q) q → B0 ≤ q := fun _ h9 => h9
  have hS : va_S (fun q => B0 ≤ q) s.heap s.heap [] := va_S.rf
  obtain ⟨t_STEPS, hz_STEPS, ht_STEPS⟩ := fb_stA_narrow hZ.2.2.1 hAB
  have hin0 : ∀ w ∈ u_ws RX1 TX1 6, w ∈ wsX1_isRight := fun _ h9 => List.mem_cons_of_mem _ (List.mem_append_right _ (h9))
  have w_f13 : (Cond.fieldLink RX1 13 "FiguredBassModel" "figures" "[I") ∈ wsX1_isRight := List.mem_of_getElem? (i := 2) rfl
  have w_f50 : (Cond.fieldLink RX1 50 "FiguredBassModel" "STEPS" "[I") ∈ wsX1_isRight := List.mem_of_getElem? (i := 1) rfl
  have hl := lv_entry ([.ref h0, .int a1]) (n := 5) (Nat.le_of_ble_eq_true rfl)
  rw [lg_entry_eq]
  generalize (lg_sl ([.ref h0, .int a1]) ++ List.replicate (5 - (lg_sl ([.ref h0, .int a1])).length) Slot.unset).toArray = ls at hl ⊢
  have hl : lv_has ls 5 [(0, .ref h0), (1, .int a1)] := hl
  unfold fX1_isRight at h
  refine lv_aload_n hx hb dX1_isRight_0 rfl (lv_at hl 0 rfl) ?_
  refine lv_iload_n hx hb dX1_isRight_1 rfl (lv_at hl 1 rfl) ?_
  obtain ⟨r2, h1, h⟩ := fb_b1s h
  refine fb_callR (W.runV (As := [.int a1]) (rest := []) ⟨hx, hb, hml, hown, hts⟩ (metX1_isSet l D cI h0 qn qf qw B0 th ch nt fg wt mi a1 r2 h1) (cwV 1 hts gX1_isRight_X1_isSet rfl rfl rfl (by decide +kernel) ⟨Nat.le_of_ble_eq_true rfl, Nat.le_of_ble_eq_true rfl⟩) (fb_preVR (ci := 1) fb_sX1p hP hK hZ hS hAB rfl rfl _) rfl rfl hl.1 rfl (lv_room (Nat.le_of_ble_eq_true rfl)) dX1_isRight_2 ⟨Nat.le_of_ble_eq_true rfl, Nat.le_of_ble_eq_true rfl⟩) ?_
  refine lv_if_ne (tgt := 10) hx hb dX1_isRight_5 (by decide) (fun c3 => ?_) (fun c3 => ?_)
  · replace h := fb_ie c3 h
    refine lv_iconst (v := 0) hx hb dX1_isRight_10 (by decide) ?_
    refine lv_istore_n (lv' := [(2, .int 0), (0, .ref h0), (1, .int a1)]) hx hb dX1_isRight_11 rfl hl (by decide) rfl (fun ls hl => ?_)
    refine lv_iconst (v := 1) hx hb dX1_isRight_12 (by decide) ?_
    refine lv_istore_n (lv' := [(3, .int 1), (2, .int 0), (0, .ref h0), (1, .int a1)]) hx hb dX1_isRight_13 rfl hl (by decide) rfl (fun ls hl => ?_)
    refine lv_iconst (v := 1) hx hb dX1_isRight_14 (by decide) ?_
    refine lv_istore (lv' := [(4, .int 1), (3, .int 1), (2, .int 0), (0, .ref h0), (1, .int a1)]) hx hb dX1_isRight_15 hl (by decide) rfl (fun ls hl => ?_)
    have LX1_isRight_17 : ∀ (n : Nat) (v4 : Int32) (v5 : Int32) (v6 : Int32) (o20 : Int32) (o21 : Int32) (o22 : Int32), lpX1_isRight_17 a1 th ch nt fg wt mi n v4 v5 v6 = some (o20, o21, o22) → ∀ (ls : Array Slot), lv_has ls 5 [(4, .int v4), (3, .int v5), (2, .int v6), (0, .ref h0), (1, .int a1)] → (∀ (ls : Array Slot), lv_has ls 5 [(4, .int o20), (3, .int o21), (2, .int o22), (0, .ref h0), (1, .int a1)] → W p l e (headSpec wsX1_isRight rmX1_isRight).room s m ([.ref h0, .int a1] : List Value).toArray below meth c s.heap [] 0 0 (MQ below (QcRead ro) ([.ref h0, .int a1] : List Value).toArray s 0 0 (fun _ => False)) (F0 m 77 ls [])) → W p l e (headSpec wsX1_isRight rmX1_isRight).room s m ([.ref h0, .int a1] : List Value).toArray below meth c s.heap [] 0 0 (MQ below (QcRead ro) ([.ref h0, .int a1] : List Value).toArray s 0 0 (fun _ => False)) (F0 m 17 ls []) := by
      intro n
      induction n with
      | zero =>
        intro v4 v5 v6 o20 o21 o22 h
        rw [lpX1_isRight_17.eq_1] at h
        cases h
      | succ n ih =>
        intro v4 v5 v6 o20 o21 o22 h ls hl kx
        rw [lpX1_isRight_17.eq_2] at h
        refine lv_iload hx hb dX1_isRight_17 (lv_at hl 0 rfl) ?_
        refine lv_iconst (v := 4) hx hb dX1_isRight_19 (by decide) ?_
        refine lv_icmp_ge (tgt := 77) hx hb dX1_isRight_20 (by decide) (fun c7 => ?_) (fun c7 => ?_)
        · replace h := fb_it c7 h
          obtain ⟨e1, e2, e3⟩ := fb_p3 h
          subst e1
          subst e2
          subst e3
          exact kx ls (lv_sub hl [0, 1, 2, 3, 4] rfl)
        · replace h := fb_ie c7 h
          refine lv_iload_n hx hb dX1_isRight_23 rfl (lv_at hl 1 rfl) ?_
          refine lv_aload_n hx hb dX1_isRight_24 rfl (lv_at hl 3 rfl) ?_
          refine lv_iload_n hx hb dX1_isRight_25 rfl (lv_at hl 4 rfl) ?_
          refine lv_iload hx hb dX1_isRight_26 (lv_at hl 0 rfl) ?_
          obtain ⟨r9, h8, h⟩ := fb_b1s h
          refine fb_callR (W.runV (As := [.int a1, .int v4]) (rest := [.int v5]) ⟨hx, hb, hml, hown, hts⟩ (metX1_at l D cI h0 qn qf qw B0 th ch nt fg wt mi a1 v4 r9 h8) (cwV 2 hts gX1_isRight_X1_at rfl rfl rfl (by decide +kernel) ⟨Nat.le_of_ble_eq_true rfl, Nat.le_of_ble_eq_true rfl⟩) (fb_preVR (ci := 1) fb_sX1p hP hK hZ hS hAB rfl rfl _) rfl rfl hl.1 rfl (lv_room (Nat.le_of_ble_eq_true rfl)) dX1_isRight_28 ⟨Nat.le_of_ble_eq_true rfl, Nat.le_of_ble_eq_true rfl⟩) ?_
          refine lv_aload_n hx hb dX1_isRight_31 rfl (lv_at hl 3 rfl) ?_
          refine lv_iload_n hx hb dX1_isRight_32 rfl (lv_at hl 4 rfl) ?_
          refine lv_iload hx hb dX1_isRight_33 (lv_at hl 0 rfl) ?_
          refine lv_iconst (v := 1) hx hb dX1_isRight_35 (by decide) ?_
          refine lv_isub hx hb dX1_isRight_36 ?_
          obtain ⟨r11, h10, h⟩ := fb_b1s h
          refine fb_callR (W.runV (As := [.int a1, .int (v4 - 1)]) (rest := [.int r9, .int v5]) ⟨hx, hb, hml, hown, hts⟩ (metX1_at l D cI h0 qn qf qw B0 th ch nt fg wt mi a1 (v4 - 1) r11 h10) (cwV 2 hts gX1_isRight_X1_at rfl rfl rfl (by decide +kernel) ⟨Nat.le_of_ble_eq_true rfl, Nat.le_of_ble_eq_true rfl⟩) (fb_preVR (ci := 1) fb_sX1p hP hK hZ hS hAB rfl rfl _) rfl rfl hl.1 rfl (lv_room (Nat.le_of_ble_eq_true rfl)) dX1_isRight_37 ⟨Nat.le_of_ble_eq_true rfl, Nat.le_of_ble_eq_true rfl⟩) ?_
          obtain ⟨j13, hjJ1, h⟩ := fb_b1s h
          have J1 : ∀ (ls : Array Slot), lv_has ls 5 [(4, .int v4), (2, .int v6), (0, .ref h0), (1, .int a1)] → W p l e (headSpec wsX1_isRight rmX1_isRight).room s m ([.ref h0, .int a1] : List Value).toArray below meth c s.heap [] 0 0 (MQ below (QcRead ro) ([.ref h0, .int a1] : List Value).toArray s 0 0 (fun _ => False)) (F0 m 48 ls [.int j13, .int v5]) := by
            intro ls hl
            refine lv_iand hx hb dX1_isRight_48 ?_
            refine lv_istore_n (lv' := [(3, .int (v5 &&& j13)), (4, .int v4), (2, .int v6), (0, .ref h0), (1, .int a1)]) hx hb dX1_isRight_49 rfl hl (by decide) rfl (fun ls hl => ?_)
            refine lv_iload_n hx hb dX1_isRight_50 rfl (lv_at hl 2 rfl) ?_
            refine lv_iconst (v := 1) hx hb dX1_isRight_51 (by decide) ?_
            refine lv_aload_n hx hb dX1_isRight_52 rfl (lv_at hl 3 rfl) ?_
            refine lv_iload_n hx hb dX1_isRight_53 rfl (lv_at hl 4 rfl) ?_
            refine lv_iload hx hb dX1_isRight_54 (lv_at hl 1 rfl) ?_
            obtain ⟨r15, h14, h⟩ := fb_b1s h
            refine fb_callR (W.runV (As := [.int a1, .int v4]) (rest := [.int 1, .int v6]) ⟨hx, hb, hml, hown, hts⟩ (metX1_at l D cI h0 qn qf qw B0 th ch nt fg wt mi a1 v4 r15 h14) (cwV 2 hts gX1_isRight_X1_at rfl rfl rfl (by decide +kernel) ⟨Nat.le_of_ble_eq_true rfl, Nat.le_of_ble_eq_true rfl⟩) (fb_preVR (ci := 1) fb_sX1p hP hK hZ hS hAB rfl rfl _) rfl rfl hl.1 rfl (lv_room (Nat.le_of_ble_eq_true rfl)) dX1_isRight_56 ⟨Nat.le_of_ble_eq_true rfl, Nat.le_of_ble_eq_true rfl⟩) ?_
            refine lv_aload_n hx hb dX1_isRight_59 rfl (lv_at hl 3 rfl) ?_
            refine lv_iload_n hx hb dX1_isRight_60 rfl (lv_at hl 4 rfl) ?_
            refine lv_iconst (v := 0) hx hb dX1_isRight_61 (by decide) ?_
            obtain ⟨r17, h16, h⟩ := fb_b1s h
            refine fb_callR (W.runV (As := [.int a1, .int 0]) (rest := [.int r15, .int 1, .int v6]) ⟨hx, hb, hml, hown, hts⟩ (metX1_at l D cI h0 qn qf qw B0 th ch nt fg wt mi a1 0 r17 h16) (cwV 2 hts gX1_isRight_X1_at rfl rfl rfl (by decide +kernel) ⟨Nat.le_of_ble_eq_true rfl, Nat.le_of_ble_eq_true rfl⟩) (fb_preVR (ci := 1) fb_sX1p hP hK hZ hS hAB rfl rfl _) rfl rfl hl.1 rfl (lv_room (Nat.le_of_ble_eq_true rfl)) dX1_isRight_62 ⟨Nat.le_of_ble_eq_true rfl, Nat.le_of_ble_eq_true rfl⟩) ?_
            obtain ⟨r19, h18, h⟩ := fb_b1s h
            refine fb_callR (W.runS (As := [.int r15, .int r17]) (rest := [.int 1, .int v6]) ⟨hx, hb, hml, hown, hts⟩ (metX1_step l B0 r15 r17 r19 h18) (va_cwS 2 hts gX1_isRight_X1_step rfl rfl rfl (by decide +kernel) ⟨Nat.le_of_ble_eq_true rfl, Nat.le_of_ble_eq_true rfl⟩) (fb_preS fb_sX1p hZ hS hAB _) rfl rfl hl.1 rfl (lv_room (Nat.le_of_ble_eq_true rfl)) dX1_isRight_65 ⟨Nat.le_of_ble_eq_true rfl, Nat.le_of_ble_eq_true rfl⟩) ?_
            refine lv_ishl hx hb dX1_isRight_68 ?_
            refine lv_ior hx hb dX1_isRight_69 ?_
            refine lv_istore_n (lv' := [(2, .int (v6 ||| ((1 : Int32) <<< (r19 &&& 31)))), (3, .int (v5 &&& j13)), (4, .int v4), (0, .ref h0), (1, .int a1)]) hx hb dX1_isRight_70 rfl hl (by decide) rfl (fun ls hl => ?_)
            refine lv_iinc (v := v4 + 1) (lv' := [(4, .int (v4 + 1)), (2, .int (v6 ||| ((1 : Int32) <<< (r19 &&& 31)))), (3, .int (v5 &&& j13)), (0, .ref h0), (1, .int a1)]) hx hb dX1_isRight_71 hl (k := 2) rfl rfl (by decide) rfl (fun ls hl => ?_)
            refine lv_goto (tgt := 17) hx hb dX1_isRight_74 (by decide) ?_
            exact ih _ _ _ o20 o21 o22 h ls (lv_sub hl [0, 2, 1, 3, 4] rfl) kx
          replace h := hjJ1
          refine lv_icmp_lt (tgt := 47) hx hb dX1_isRight_40 (by decide) (fun c12 => ?_) (fun c12 => ?_)
          · replace h := fb_it c12 h
            refine lv_iconst (v := 0) hx hb dX1_isRight_47 (by decide) ?_
            have h := Option.some.inj h
            subst h
            exact J1 ls (lv_sub hl [0, 2, 3, 4] rfl)
          · replace h := fb_ie c12 h
            refine lv_iconst (v := 1) hx hb dX1_isRight_43 (by decide) ?_
            refine lv_goto (tgt := 48) hx hb dX1_isRight_44 (by decide) ?_
            have h := Option.some.inj h
            subst h
            exact J1 ls (lv_sub hl [0, 2, 3, 4] rfl)
    obtain ⟨o20, o21, o22, h30, h⟩ := fb_b3s h
    refine LX1_isRight_17 _ _ _ _ o20 o21 o22 h30 ls (lv_sub hl [0, 1, 2, 3, 4] rfl) (fun ls hl => ?_)
    refine lv_iload_n hx hb dX1_isRight_77 rfl (lv_at hl 1 rfl) ?_
    refine lv_if_eq (tgt := 103) hx hb dX1_isRight_78 (by decide) (fun c23 => ?_) (fun c23 => ?_)
    · replace h := fb_it c23 h
      refine lv_iconst (v := 0) hx hb dX1_isRight_103 (by decide) ?_
      have h := Option.some.inj h
      subst h
      exact W.zret (ty := .boolean) hx hb hr rfl (fun t ht _ => ⟨rfl, ht⟩) (fun q hq => absurd hq List.not_mem_nil) dX1_isRight_104
    · replace h := fb_ie c23 h
      refine lv_iload_n hx hb dX1_isRight_81 rfl (lv_at hl 2 rfl) ?_
      refine lv_iconst (v := 1) hx hb dX1_isRight_82 (by decide) ?_
      refine lv_ior hx hb dX1_isRight_83 ?_
      refine va_gets hx hb hz_STEPS hS hown (hts _ w_f50) (fun _ h9 => h9) dX1_isRight_84 ?_
      refine lv_aload_n hx hb dX1_isRight_87 rfl (lv_at hl 3 rfl) ?_
      refine va_get (D := D) (ci := 1) (v := .ref qf) (C := RX1) (T := TX1) (N := 6) hx hb hts hin0 hown hK hP 0 rfl rfl 3 (by decide) (hts _ w_f13) (fun _ h9 => h9) rfl dX1_isRight_88 ?_
      refine lv_iload_n hx hb dX1_isRight_91 rfl (lv_at hl 4 rfl) ?_
      obtain ⟨hi25, h⟩ := fb_cks h
      refine va_iald hx hb hK hP 2 0 rfl rfl (fb_ixin hi25) dX1_isRight_92 ?_
      obtain ⟨hi26, h⟩ := fb_cks h
      refine va_ti hx hb ht_STEPS hS (fb_ixin hi26) rfl dX1_isRight_93 ?_
      refine lv_iconst (v := 1) hx hb dX1_isRight_94 (by decide) ?_
      refine lv_ior hx hb dX1_isRight_95 ?_
      refine lv_icmp_ne (tgt := 103) hx hb dX1_isRight_96 (by decide) (fun c27 => ?_) (fun c27 => ?_)
      · replace h := fb_ie c27 h
        refine lv_iconst (v := 0) hx hb dX1_isRight_103 (by decide) ?_
        have h := Option.some.inj h
        subst h
        exact W.zret (ty := .boolean) hx hb hr rfl (fun t ht _ => ⟨rfl, ht⟩) (fun q hq => absurd hq List.not_mem_nil) dX1_isRight_104
      · replace h := fb_it c27 h
        refine lv_iconst (v := 1) hx hb dX1_isRight_99 (by decide) ?_
        refine lv_goto (tgt := 104) hx hb dX1_isRight_100 (by decide) ?_
        have h := Option.some.inj h
        subst h
        exact W.zret (ty := .boolean) hx hb hr rfl (fun t ht _ => ⟨rfl, ht⟩) (fun q hq => absurd hq List.not_mem_nil) dX1_isRight_104
  · replace h := fb_it c3 h
    refine lv_iconst (v := 0) hx hb dX1_isRight_8 (by decide) ?_
    have h := Option.some.inj h
    subst h
    exact W.zret (ty := .boolean) hx hb hr rfl (fun t ht _ => ⟨rfl, ht⟩) (fun q hq => absurd hq List.not_mem_nil) dX1_isRight_9
abbrev rmX1_goes : Room := { frames := 1, cells := 0, slots := 0, locals := 22 }
set_option maxHeartbeats 8000000 in
set_option maxRecDepth 100000 in
theorem metX1_goes (l : Launch) (D : va_G) (cI : ClassId) (h0 qn qf qw B0 : Nat) (th : Int32) (ch : Int32) (nt : Nat → Int32) (fg : Nat → Int32) (wt : Nat → Int32) (mi : Int32) (a1 : Int32) (a2 : Int32) (ro : Int32) (h : fX1_goes th ch nt fg wt mi a1 a2 = some ro) : Met l yX1_goes wsX1_goes rmX1_goes (va_Pc [.ref h0, .int a1, .int a2] (fb_ok D [(cI, .int)] B0 fb_sX1 (fb_wX1 cI h0 qn qf qw th ch nt fg wt mi))) (QcRead ro) 0 0 (fun _ => False) := by
  refine Met.ofW (cc := cX1_goes) (maxL := 3) (ret := (some .int)) (by decide) rfl ?_
  intro p e s m args below meth c s₁ B hml hv
  obtain ⟨rfl, hP, hK, hZ⟩ := hv
  have hx := B.exec
  have hb := B.bytes
  have hr := B.returns
  have hts := atoms_spec (ws := wsX1_goes) B.pre
  have hown : s.vm.findClass RX1 = some m.cls := findClass_of_methodNamed B.named
  have hlocks := B.notSynchronized
  have hAB : ∀ q : Nat, (fun q => B0 ≤ q) q → B0 ≤ q := fun _ h9 => h9
  have hS : va_S (fun q => B0 ≤ q) s.heap s.heap [] := va_S.rf
  have hin0 : ∀ w ∈ u_ws RX1 TX1 6, w ∈ wsX1_goes := fun _ h9 => List.mem_cons_of_mem _ (List.mem_append_right _ (h9))
  have hl := lv_entry ([.ref h0, .int a1, .int a2]) (n := 3) (Nat.le_of_ble_eq_true rfl)
  rw [lg_entry_eq]
  generalize (lg_sl ([.ref h0, .int a1, .int a2]) ++ List.replicate (3 - (lg_sl ([.ref h0, .int a1, .int a2])).length) Slot.unset).toArray = ls at hl ⊢
  have hl : lv_has ls 3 [(0, .ref h0), (1, .int a1), (2, .int a2)] := hl
  unfold fX1_goes at h
  refine lv_aload_n hx hb dX1_goes_0 rfl (lv_at hl 0 rfl) ?_
  refine lv_iload_n hx hb dX1_goes_1 rfl (lv_at hl 1 rfl) ?_
  refine lv_iload_n hx hb dX1_goes_2 rfl (lv_at hl 2 rfl) ?_
  obtain ⟨r2, h1, h⟩ := fb_b1s h
  refine fb_callR (W.runV (As := [.int a1, .int a2]) (rest := []) ⟨hx, hb, hml, hown, hts⟩ (metX1_at l D cI h0 qn qf qw B0 th ch nt fg wt mi a1 a2 r2 h1) (cwV 2 hts gX1_goes_X1_at rfl rfl rfl (by decide +kernel) ⟨Nat.le_of_ble_eq_true rfl, Nat.le_of_ble_eq_true rfl⟩) (fb_preVR (ci := 1) fb_sX1p hP hK hZ hS hAB rfl rfl _) rfl rfl hl.1 rfl (lv_room (Nat.le_of_ble_eq_true rfl)) dX1_goes_3 ⟨Nat.le_of_ble_eq_true rfl, Nat.le_of_ble_eq_true rfl⟩) ?_
  refine lv_aload_n hx hb dX1_goes_6 rfl (lv_at hl 0 rfl) ?_
  refine lv_iload_n hx hb dX1_goes_7 rfl (lv_at hl 1 rfl) ?_
  refine lv_iconst (v := 1) hx hb dX1_goes_8 (by decide) ?_
  refine lv_isub hx hb dX1_goes_9 ?_
  refine lv_iload_n hx hb dX1_goes_10 rfl (lv_at hl 2 rfl) ?_
  obtain ⟨r4, h3, h⟩ := fb_b1s h
  refine fb_callR (W.runV (As := [.int (a1 - 1), .int a2]) (rest := [.int r2]) ⟨hx, hb, hml, hown, hts⟩ (metX1_at l D cI h0 qn qf qw B0 th ch nt fg wt mi (a1 - 1) a2 r4 h3) (cwV 2 hts gX1_goes_X1_at rfl rfl rfl (by decide +kernel) ⟨Nat.le_of_ble_eq_true rfl, Nat.le_of_ble_eq_true rfl⟩) (fb_preVR (ci := 1) fb_sX1p hP hK hZ hS hAB rfl rfl _) rfl rfl hl.1 rfl (lv_room (Nat.le_of_ble_eq_true rfl)) dX1_goes_11 ⟨Nat.le_of_ble_eq_true rfl, Nat.le_of_ble_eq_true rfl⟩) ?_
  refine lv_isub hx hb dX1_goes_14 ?_
  have h := Option.some.inj h
  subst h
  exact W.iret hx hb hr (fun t ht _ => ⟨rfl, ht⟩) (fun q hq => absurd hq List.not_mem_nil) dX1_goes_15
abbrev rmX1_isFifth : Room := { frames := 1, cells := 0, slots := 0, locals := 22 }
set_option maxHeartbeats 8000000 in
set_option maxRecDepth 100000 in
theorem metX1_isFifth (l : Launch) (D : va_G) (cI : ClassId) (h0 qn qf qw B0 : Nat) (th : Int32) (ch : Int32) (nt : Nat → Int32) (fg : Nat → Int32) (wt : Nat → Int32) (mi : Int32) (a1 : Int32) (a2 : Int32) (a3 : Int32) (ro : Int32) (h : fX1_isFifth th ch nt fg wt mi a1 a2 a3 = some ro) : Met l yX1_isFifth wsX1_isFifth rmX1_isFifth (va_Pc [.ref h0, .int a1, .int a2, .int a3] (fb_ok D [(cI, .int)] B0 fb_sX1 (fb_wX1 cI h0 qn qf qw th ch nt fg wt mi))) (QcRead ro) 0 0 (fun _ => False) := by
  refine Met.ofW (cc := cX1_isFifth) (maxL := 5) (ret := (some .boolean)) (by decide) rfl ?_
  intro p e s m args below meth c s₁ B hml hv
  obtain ⟨rfl, hP, hK, hZ⟩ := hv
  have hx := B.exec
  have hb := B.bytes
  have hr := B.returns
  have hts := atoms_spec (ws := wsX1_isFifth) B.pre
  have hown : s.vm.findClass RX1 = some m.cls := findClass_of_methodNamed B.named
  have hlocks := B.notSynchronized
  have hAB : ∀ q : Nat, (fun q => B0 ≤ q) q → B0 ≤ q := fun _ h9 => h9
  have hS : va_S (fun q => B0 ≤ q) s.heap s.heap [] := va_S.rf
  have hin0 : ∀ w ∈ u_ws RX1 TX1 6, w ∈ wsX1_isFifth := fun _ h9 => List.mem_cons_of_mem _ (List.mem_append_right _ (h9))
  have hl := lv_entry ([.ref h0, .int a1, .int a2, .int a3]) (n := 5) (Nat.le_of_ble_eq_true rfl)
  rw [lg_entry_eq]
  generalize (lg_sl ([.ref h0, .int a1, .int a2, .int a3]) ++ List.replicate (5 - (lg_sl ([.ref h0, .int a1, .int a2, .int a3])).length) Slot.unset).toArray = ls at hl ⊢
  have hl : lv_has ls 5 [(0, .ref h0), (1, .int a1), (2, .int a2), (3, .int a3)] := hl
  unfold fX1_isFifth at h
  refine lv_aload_n hx hb dX1_isFifth_0 rfl (lv_at hl 0 rfl) ?_
  refine lv_aload_n hx hb dX1_isFifth_1 rfl (lv_at hl 0 rfl) ?_
  refine lv_iload_n hx hb dX1_isFifth_2 rfl (lv_at hl 1 rfl) ?_
  refine lv_iload_n hx hb dX1_isFifth_3 rfl (lv_at hl 3 rfl) ?_
  obtain ⟨r2, h1, h⟩ := fb_b1s h
  refine fb_callR (W.runV (As := [.int a1, .int a3]) (rest := [.ref h0]) ⟨hx, hb, hml, hown, hts⟩ (metX1_at l D cI h0 qn qf qw B0 th ch nt fg wt mi a1 a3 r2 h1) (cwV 2 hts gX1_isFifth_X1_at rfl rfl rfl (by decide +kernel) ⟨Nat.le_of_ble_eq_true rfl, Nat.le_of_ble_eq_true rfl⟩) (fb_preVR (ci := 1) fb_sX1p hP hK hZ hS hAB rfl rfl _) rfl rfl hl.1 rfl (lv_room (Nat.le_of_ble_eq_true rfl)) dX1_isFifth_4 ⟨Nat.le_of_ble_eq_true rfl, Nat.le_of_ble_eq_true rfl⟩) ?_
  obtain ⟨r4, h3, h⟩ := fb_b1s h
  refine fb_callR (W.runV (As := [.int r2]) (rest := []) ⟨hx, hb, hml, hown, hts⟩ (metX1_pitchOf l D cI h0 qn qf qw B0 th ch nt fg wt mi r2 r4 h3) (cwV 1 hts gX1_isFifth_X1_pitchOf rfl rfl rfl (by decide +kernel) ⟨Nat.le_of_ble_eq_true rfl, Nat.le_of_ble_eq_true rfl⟩) (fb_preVR (ci := 1) fb_sX1p hP hK hZ hS hAB rfl rfl _) rfl rfl hl.1 rfl (lv_room (Nat.le_of_ble_eq_true rfl)) dX1_isFifth_7 ⟨Nat.le_of_ble_eq_true rfl, Nat.le_of_ble_eq_true rfl⟩) ?_
  refine lv_aload_n hx hb dX1_isFifth_10 rfl (lv_at hl 0 rfl) ?_
  refine lv_aload_n hx hb dX1_isFifth_11 rfl (lv_at hl 0 rfl) ?_
  refine lv_iload_n hx hb dX1_isFifth_12 rfl (lv_at hl 1 rfl) ?_
  refine lv_iload_n hx hb dX1_isFifth_13 rfl (lv_at hl 2 rfl) ?_
  obtain ⟨r6, h5, h⟩ := fb_b1s h
  refine fb_callR (W.runV (As := [.int a1, .int a2]) (rest := [.ref h0, .int r4]) ⟨hx, hb, hml, hown, hts⟩ (metX1_at l D cI h0 qn qf qw B0 th ch nt fg wt mi a1 a2 r6 h5) (cwV 2 hts gX1_isFifth_X1_at rfl rfl rfl (by decide +kernel) ⟨Nat.le_of_ble_eq_true rfl, Nat.le_of_ble_eq_true rfl⟩) (fb_preVR (ci := 1) fb_sX1p hP hK hZ hS hAB rfl rfl _) rfl rfl hl.1 rfl (lv_room (Nat.le_of_ble_eq_true rfl)) dX1_isFifth_14 ⟨Nat.le_of_ble_eq_true rfl, Nat.le_of_ble_eq_true rfl⟩) ?_
  obtain ⟨r8, h7, h⟩ := fb_b1s h
  refine fb_callR (W.runV (As := [.int r6]) (rest := [.int r4]) ⟨hx, hb, hml, hown, hts⟩ (metX1_pitchOf l D cI h0 qn qf qw B0 th ch nt fg wt mi r6 r8 h7) (cwV 1 hts gX1_isFifth_X1_pitchOf rfl rfl rfl (by decide +kernel) ⟨Nat.le_of_ble_eq_true rfl, Nat.le_of_ble_eq_true rfl⟩) (fb_preVR (ci := 1) fb_sX1p hP hK hZ hS hAB rfl rfl _) rfl rfl hl.1 rfl (lv_room (Nat.le_of_ble_eq_true rfl)) dX1_isFifth_17 ⟨Nat.le_of_ble_eq_true rfl, Nat.le_of_ble_eq_true rfl⟩) ?_
  refine lv_isub hx hb dX1_isFifth_20 ?_
  refine lv_istore (lv' := [(4, .int (r4 - r8)), (0, .ref h0), (1, .int a1), (2, .int a2), (3, .int a3)]) hx hb dX1_isFifth_21 hl (by decide) rfl (fun ls hl => ?_)
  refine lv_iload hx hb dX1_isFifth_23 (lv_at hl 0 rfl) ?_
  refine lv_if_le (tgt := 42) hx hb dX1_isFifth_25 (by decide) (fun c9 => ?_) (fun c9 => ?_)
  · replace h := fb_it c9 h
    refine lv_iconst (v := 0) hx hb dX1_isFifth_42 (by decide) ?_
    have h := Option.some.inj h
    subst h
    exact W.zret (ty := .boolean) hx hb hr rfl (fun t ht _ => ⟨rfl, ht⟩) (fun q hq => absurd hq List.not_mem_nil) dX1_isFifth_43
  · replace h := fb_ie c9 h
    refine lv_iload hx hb dX1_isFifth_28 (lv_at hl 0 rfl) ?_
    refine lv_bipush (v := 12) hx hb dX1_isFifth_30 (by decide) ?_
    refine lv_irem hx hb dX1_isFifth_32 (by decide) ?_
    refine lv_bipush (v := 7) hx hb dX1_isFifth_33 (by decide) ?_
    refine lv_icmp_ne (tgt := 42) hx hb dX1_isFifth_35 (by decide) (fun c11 => ?_) (fun c11 => ?_)
    · replace h := fb_ie c11 h
      refine lv_iconst (v := 0) hx hb dX1_isFifth_42 (by decide) ?_
      have h := Option.some.inj h
      subst h
      exact W.zret (ty := .boolean) hx hb hr rfl (fun t ht _ => ⟨rfl, ht⟩) (fun q hq => absurd hq List.not_mem_nil) dX1_isFifth_43
    · replace h := fb_it c11 h
      refine lv_iconst (v := 1) hx hb dX1_isFifth_38 (by decide) ?_
      refine lv_goto (tgt := 43) hx hb dX1_isFifth_39 (by decide) ?_
      have h := Option.some.inj h
      subst h
      exact W.zret (ty := .boolean) hx hb hr rfl (fun t ht _ => ⟨rfl, ht⟩) (fun q hq => absurd hq List.not_mem_nil) dX1_isFifth_43
abbrev rmX1_isOctave : Room := { frames := 1, cells := 0, slots := 0, locals := 22 }
set_option maxHeartbeats 8000000 in
set_option maxRecDepth 100000 in
theorem metX1_isOctave (l : Launch) (D : va_G) (cI : ClassId) (h0 qn qf qw B0 : Nat) (th : Int32) (ch : Int32) (nt : Nat → Int32) (fg : Nat → Int32) (wt : Nat → Int32) (mi : Int32) (a1 : Int32) (a2 : Int32) (a3 : Int32) (ro : Int32) (h : fX1_isOctave th ch nt fg wt mi a1 a2 a3 = some ro) : Met l yX1_isOctave wsX1_isOctave rmX1_isOctave (va_Pc [.ref h0, .int a1, .int a2, .int a3] (fb_ok D [(cI, .int)] B0 fb_sX1 (fb_wX1 cI h0 qn qf qw th ch nt fg wt mi))) (QcRead ro) 0 0 (fun _ => False) := by
  refine Met.ofW (cc := cX1_isOctave) (maxL := 4) (ret := (some .boolean)) (by decide) rfl ?_
  intro p e s m args below meth c s₁ B hml hv
  obtain ⟨rfl, hP, hK, hZ⟩ := hv
  have hx := B.exec
  have hb := B.bytes
  have hr := B.returns
  have hts := atoms_spec (ws := wsX1_isOctave) B.pre
  have hown : s.vm.findClass RX1 = some m.cls := findClass_of_methodNamed B.named
  have hlocks := B.notSynchronized
  have hAB : ∀ q : Nat, (fun q => B0 ≤ q) q → B0 ≤ q := fun _ h9 => h9
  have hS : va_S (fun q => B0 ≤ q) s.heap s.heap [] := va_S.rf
  have hin0 : ∀ w ∈ u_ws RX1 TX1 6, w ∈ wsX1_isOctave := fun _ h9 => List.mem_cons_of_mem _ (List.mem_append_right _ (h9))
  have hl := lv_entry ([.ref h0, .int a1, .int a2, .int a3]) (n := 4) (Nat.le_of_ble_eq_true rfl)
  rw [lg_entry_eq]
  generalize (lg_sl ([.ref h0, .int a1, .int a2, .int a3]) ++ List.replicate (4 - (lg_sl ([.ref h0, .int a1, .int a2, .int a3])).length) Slot.unset).toArray = ls at hl ⊢
  have hl : lv_has ls 4 [(0, .ref h0), (1, .int a1), (2, .int a2), (3, .int a3)] := hl
  unfold fX1_isOctave at h
  refine lv_aload_n hx hb dX1_isOctave_0 rfl (lv_at hl 0 rfl) ?_
  refine lv_aload_n hx hb dX1_isOctave_1 rfl (lv_at hl 0 rfl) ?_
  refine lv_iload_n hx hb dX1_isOctave_2 rfl (lv_at hl 1 rfl) ?_
  refine lv_iload_n hx hb dX1_isOctave_3 rfl (lv_at hl 3 rfl) ?_
  obtain ⟨r2, h1, h⟩ := fb_b1s h
  refine fb_callR (W.runV (As := [.int a1, .int a3]) (rest := [.ref h0]) ⟨hx, hb, hml, hown, hts⟩ (metX1_at l D cI h0 qn qf qw B0 th ch nt fg wt mi a1 a3 r2 h1) (cwV 2 hts gX1_isOctave_X1_at rfl rfl rfl (by decide +kernel) ⟨Nat.le_of_ble_eq_true rfl, Nat.le_of_ble_eq_true rfl⟩) (fb_preVR (ci := 1) fb_sX1p hP hK hZ hS hAB rfl rfl _) rfl rfl hl.1 rfl (lv_room (Nat.le_of_ble_eq_true rfl)) dX1_isOctave_4 ⟨Nat.le_of_ble_eq_true rfl, Nat.le_of_ble_eq_true rfl⟩) ?_
  obtain ⟨r4, h3, h⟩ := fb_b1s h
  refine fb_callR (W.runV (As := [.int r2]) (rest := []) ⟨hx, hb, hml, hown, hts⟩ (metX1_pitchOf l D cI h0 qn qf qw B0 th ch nt fg wt mi r2 r4 h3) (cwV 1 hts gX1_isOctave_X1_pitchOf rfl rfl rfl (by decide +kernel) ⟨Nat.le_of_ble_eq_true rfl, Nat.le_of_ble_eq_true rfl⟩) (fb_preVR (ci := 1) fb_sX1p hP hK hZ hS hAB rfl rfl _) rfl rfl hl.1 rfl (lv_room (Nat.le_of_ble_eq_true rfl)) dX1_isOctave_7 ⟨Nat.le_of_ble_eq_true rfl, Nat.le_of_ble_eq_true rfl⟩) ?_
  refine lv_aload_n hx hb dX1_isOctave_10 rfl (lv_at hl 0 rfl) ?_
  refine lv_aload_n hx hb dX1_isOctave_11 rfl (lv_at hl 0 rfl) ?_
  refine lv_iload_n hx hb dX1_isOctave_12 rfl (lv_at hl 1 rfl) ?_
  refine lv_iload_n hx hb dX1_isOctave_13 rfl (lv_at hl 2 rfl) ?_
  obtain ⟨r6, h5, h⟩ := fb_b1s h
  refine fb_callR (W.runV (As := [.int a1, .int a2]) (rest := [.ref h0, .int r4]) ⟨hx, hb, hml, hown, hts⟩ (metX1_at l D cI h0 qn qf qw B0 th ch nt fg wt mi a1 a2 r6 h5) (cwV 2 hts gX1_isOctave_X1_at rfl rfl rfl (by decide +kernel) ⟨Nat.le_of_ble_eq_true rfl, Nat.le_of_ble_eq_true rfl⟩) (fb_preVR (ci := 1) fb_sX1p hP hK hZ hS hAB rfl rfl _) rfl rfl hl.1 rfl (lv_room (Nat.le_of_ble_eq_true rfl)) dX1_isOctave_14 ⟨Nat.le_of_ble_eq_true rfl, Nat.le_of_ble_eq_true rfl⟩) ?_
  obtain ⟨r8, h7, h⟩ := fb_b1s h
  refine fb_callR (W.runV (As := [.int r6]) (rest := [.int r4]) ⟨hx, hb, hml, hown, hts⟩ (metX1_pitchOf l D cI h0 qn qf qw B0 th ch nt fg wt mi r6 r8 h7) (cwV 1 hts gX1_isOctave_X1_pitchOf rfl rfl rfl (by decide +kernel) ⟨Nat.le_of_ble_eq_true rfl, Nat.le_of_ble_eq_true rfl⟩) (fb_preVR (ci := 1) fb_sX1p hP hK hZ hS hAB rfl rfl _) rfl rfl hl.1 rfl (lv_room (Nat.le_of_ble_eq_true rfl)) dX1_isOctave_17 ⟨Nat.le_of_ble_eq_true rfl, Nat.le_of_ble_eq_true rfl⟩) ?_
  refine lv_isub hx hb dX1_isOctave_20 ?_
  refine lv_bipush (v := 12) hx hb dX1_isOctave_21 (by decide) ?_
  refine lv_irem hx hb dX1_isOctave_23 (by decide) ?_
  refine lv_if_ne (tgt := 31) hx hb dX1_isOctave_24 (by decide) (fun c9 => ?_) (fun c9 => ?_)
  · replace h := fb_ie c9 h
    refine lv_iconst (v := 0) hx hb dX1_isOctave_31 (by decide) ?_
    have h := Option.some.inj h
    subst h
    exact W.zret (ty := .boolean) hx hb hr rfl (fun t ht _ => ⟨rfl, ht⟩) (fun q hq => absurd hq List.not_mem_nil) dX1_isOctave_32
  · replace h := fb_it c9 h
    refine lv_iconst (v := 1) hx hb dX1_isOctave_27 (by decide) ?_
    refine lv_goto (tgt := 32) hx hb dX1_isOctave_28 (by decide) ?_
    have h := Option.some.inj h
    subst h
    exact W.zret (ty := .boolean) hx hb hr rfl (fun t ht _ => ⟨rfl, ht⟩) (fun q hq => absurd hq List.not_mem_nil) dX1_isOctave_32
abbrev rmX1_isPair : Room := { frames := 2, cells := 0, slots := 0, locals := 43 }
set_option maxHeartbeats 8000000 in
set_option maxRecDepth 100000 in
theorem metX1_isPair (l : Launch) (D : va_G) (cI : ClassId) (h0 qn qf qw B0 : Nat) (th : Int32) (ch : Int32) (nt : Nat → Int32) (fg : Nat → Int32) (wt : Nat → Int32) (mi : Int32) (a1 : Int32) (ro : Int32) (h : fX1_isPair th ch nt fg wt mi a1 = some ro) : Met l yX1_isPair wsX1_isPair rmX1_isPair (va_Pc [.ref h0, .int a1] (fb_ok D [(cI, .int)] B0 fb_sX1 (fb_wX1 cI h0 qn qf qw th ch nt fg wt mi))) (QcRead ro) 0 0 (fun _ => False) := by
  refine Met.ofW (cc := cX1_isPair) (maxL := 2) (ret := (some .boolean)) (by decide) rfl ?_
  intro p e s m args below meth c s₁ B hml hv
  obtain ⟨rfl, hP, hK, hZ⟩ := hv
  have hx := B.exec
  have hb := B.bytes
  have hr := B.returns
  have hts := atoms_spec (ws := wsX1_isPair) B.pre
  have hown : s.vm.findClass RX1 = some m.cls := findClass_of_methodNamed B.named
  have hlocks := B.notSynchronized
  have hAB : ∀ q : Nat, (fun q => B0 ≤ q) q → B0 ≤ q := fun _ h9 => h9
  have hS : va_S (fun q => B0 ≤ q) s.heap s.heap [] := va_S.rf
  have hin0 : ∀ w ∈ u_ws RX1 TX1 6, w ∈ wsX1_isPair := fun _ h9 => List.mem_cons_of_mem _ (List.mem_append_right _ (h9))
  have hl := lv_entry ([.ref h0, .int a1]) (n := 2) (Nat.le_of_ble_eq_true rfl)
  rw [lg_entry_eq]
  generalize (lg_sl ([.ref h0, .int a1]) ++ List.replicate (2 - (lg_sl ([.ref h0, .int a1])).length) Slot.unset).toArray = ls at hl ⊢
  have hl : lv_has ls 2 [(0, .ref h0), (1, .int a1)] := hl
  unfold fX1_isPair at h
  refine lv_iload_n hx hb dX1_isPair_0 rfl (lv_at hl 1 rfl) ?_
  refine lv_if_le (tgt := 26) hx hb dX1_isPair_1 (by decide) (fun c1 => ?_) (fun c1 => ?_)
  · replace h := fb_it c1 h
    refine lv_iconst (v := 0) hx hb dX1_isPair_26 (by decide) ?_
    have h := Option.some.inj h
    subst h
    exact W.zret (ty := .boolean) hx hb hr rfl (fun t ht _ => ⟨rfl, ht⟩) (fun q hq => absurd hq List.not_mem_nil) dX1_isPair_27
  · replace h := fb_ie c1 h
    refine lv_aload_n hx hb dX1_isPair_4 rfl (lv_at hl 0 rfl) ?_
    refine lv_iload_n hx hb dX1_isPair_5 rfl (lv_at hl 1 rfl) ?_
    obtain ⟨r4, h3, h⟩ := fb_b1s h
    refine fb_callR (W.runV (As := [.int a1]) (rest := []) ⟨hx, hb, hml, hown, hts⟩ (metX1_isSet l D cI h0 qn qf qw B0 th ch nt fg wt mi a1 r4 h3) (cwV 1 hts gX1_isPair_X1_isSet rfl rfl rfl (by decide +kernel) ⟨Nat.le_of_ble_eq_true rfl, Nat.le_of_ble_eq_true rfl⟩) (fb_preVR (ci := 1) fb_sX1p hP hK hZ hS hAB rfl rfl _) rfl rfl hl.1 rfl (lv_room (Nat.le_of_ble_eq_true rfl)) dX1_isPair_6 ⟨Nat.le_of_ble_eq_true rfl, Nat.le_of_ble_eq_true rfl⟩) ?_
    refine lv_if_eq (tgt := 26) hx hb dX1_isPair_9 (by decide) (fun c5 => ?_) (fun c5 => ?_)
    · replace h := fb_it c5 h
      refine lv_iconst (v := 0) hx hb dX1_isPair_26 (by decide) ?_
      have h := Option.some.inj h
      subst h
      exact W.zret (ty := .boolean) hx hb hr rfl (fun t ht _ => ⟨rfl, ht⟩) (fun q hq => absurd hq List.not_mem_nil) dX1_isPair_27
    · replace h := fb_ie c5 h
      refine lv_aload_n hx hb dX1_isPair_12 rfl (lv_at hl 0 rfl) ?_
      refine lv_iload_n hx hb dX1_isPair_13 rfl (lv_at hl 1 rfl) ?_
      refine lv_iconst (v := 1) hx hb dX1_isPair_14 (by decide) ?_
      refine lv_isub hx hb dX1_isPair_15 ?_
      obtain ⟨r8, h7, h⟩ := fb_b1s h
      refine fb_callR (W.runV (As := [.int (a1 - 1)]) (rest := []) ⟨hx, hb, hml, hown, hts⟩ (metX1_isSet l D cI h0 qn qf qw B0 th ch nt fg wt mi (a1 - 1) r8 h7) (cwV 1 hts gX1_isPair_X1_isSet rfl rfl rfl (by decide +kernel) ⟨Nat.le_of_ble_eq_true rfl, Nat.le_of_ble_eq_true rfl⟩) (fb_preVR (ci := 1) fb_sX1p hP hK hZ hS hAB rfl rfl _) rfl rfl hl.1 rfl (lv_room (Nat.le_of_ble_eq_true rfl)) dX1_isPair_16 ⟨Nat.le_of_ble_eq_true rfl, Nat.le_of_ble_eq_true rfl⟩) ?_
      refine lv_if_eq (tgt := 26) hx hb dX1_isPair_19 (by decide) (fun c9 => ?_) (fun c9 => ?_)
      · replace h := fb_it c9 h
        refine lv_iconst (v := 0) hx hb dX1_isPair_26 (by decide) ?_
        have h := Option.some.inj h
        subst h
        exact W.zret (ty := .boolean) hx hb hr rfl (fun t ht _ => ⟨rfl, ht⟩) (fun q hq => absurd hq List.not_mem_nil) dX1_isPair_27
      · replace h := fb_ie c9 h
        refine lv_iconst (v := 1) hx hb dX1_isPair_22 (by decide) ?_
        refine lv_goto (tgt := 27) hx hb dX1_isPair_23 (by decide) ?_
        have h := Option.some.inj h
        subst h
        exact W.zret (ty := .boolean) hx hb hr rfl (fun t ht _ => ⟨rfl, ht⟩) (fun q hq => absurd hq List.not_mem_nil) dX1_isPair_27
abbrev rmX1_parallels : Room := { frames := 2, cells := 0, slots := 0, locals := 46 }
set_option maxHeartbeats 8000000 in
set_option maxRecDepth 100000 in
theorem metX1_parallels (l : Launch) (D : va_G) (cI : ClassId) (h0 qn qf qw B0 : Nat) (th : Int32) (ch : Int32) (nt : Nat → Int32) (fg : Nat → Int32) (wt : Nat → Int32) (mi : Int32) (a1 : Int32) (a2 : Int32) (ro : Int32) (h : fX1_parallels th ch nt fg wt mi a1 a2 = some ro) : Met l yX1_parallels wsX1_parallels rmX1_parallels (va_Pc [.ref h0, .int a1, .int a2] (fb_ok D [(cI, .int)] B0 fb_sX1 (fb_wX1 cI h0 qn qf qw th ch nt fg wt mi))) (QcRead ro) 0 0 (fun _ => False) := by
  refine Met.ofW (cc := cX1_parallels) (maxL := 6) (ret := (some .int)) (by decide) rfl ?_
  intro p e s m args below meth c s₁ B hml hv
  obtain ⟨rfl, hP, hK, hZ⟩ := hv
  have hx := B.exec
  have hb := B.bytes
  have hr := B.returns
  have hts := atoms_spec (ws := wsX1_parallels) B.pre
  have hown : s.vm.findClass RX1 = some m.cls := findClass_of_methodNamed B.named
  have hlocks := B.notSynchronized
  have hAB : ∀ q : Nat, (fun q => B0 ≤ q) q → B0 ≤ q := fun _ h9 => h9
  have hS : va_S (fun q => B0 ≤ q) s.heap s.heap [] := va_S.rf
  have hin0 : ∀ w ∈ u_ws RX1 TX1 6, w ∈ wsX1_parallels := fun _ h9 => List.mem_cons_of_mem _ (List.mem_append_right _ (h9))
  have hl := lv_entry ([.ref h0, .int a1, .int a2]) (n := 6) (Nat.le_of_ble_eq_true rfl)
  rw [lg_entry_eq]
  generalize (lg_sl ([.ref h0, .int a1, .int a2]) ++ List.replicate (6 - (lg_sl ([.ref h0, .int a1, .int a2])).length) Slot.unset).toArray = ls at hl ⊢
  have hl : lv_has ls 6 [(0, .ref h0), (1, .int a1), (2, .int a2)] := hl
  unfold fX1_parallels at h
  refine lv_iconst (v := 0) hx hb dX1_parallels_0 (by decide) ?_
  refine lv_istore_n (lv' := [(3, .int 0), (0, .ref h0), (1, .int a1), (2, .int a2)]) hx hb dX1_parallels_1 rfl hl (by decide) rfl (fun ls hl => ?_)
  refine lv_iconst (v := 0) hx hb dX1_parallels_2 (by decide) ?_
  refine lv_istore (lv' := [(4, .int 0), (3, .int 0), (0, .ref h0), (1, .int a1), (2, .int a2)]) hx hb dX1_parallels_3 hl (by decide) rfl (fun ls hl => ?_)
  have LX1_parallels_5 : ∀ (n : Nat) (v1 : Int32) (v2 : Int32) (o31 : Int32) (o32 : Int32), lpX1_parallels_5 a1 a2 th ch nt fg wt mi n v1 v2 = some (o31, o32) → ∀ (ls : Array Slot), lv_has ls 6 [(4, .int v1), (3, .int v2), (0, .ref h0), (1, .int a1), (2, .int a2)] → (∀ (ls : Array Slot), lv_has ls 6 [(4, .int o31), (3, .int o32), (0, .ref h0), (1, .int a1), (2, .int a2)] → W p l e (headSpec wsX1_parallels rmX1_parallels).room s m ([.ref h0, .int a1, .int a2] : List Value).toArray below meth c s.heap [] 0 0 (MQ below (QcRead ro) ([.ref h0, .int a1, .int a2] : List Value).toArray s 0 0 (fun _ => False)) (F0 m 125 ls [])) → W p l e (headSpec wsX1_parallels rmX1_parallels).room s m ([.ref h0, .int a1, .int a2] : List Value).toArray below meth c s.heap [] 0 0 (MQ below (QcRead ro) ([.ref h0, .int a1, .int a2] : List Value).toArray s 0 0 (fun _ => False)) (F0 m 5 ls []) := by
    intro n
    induction n with
    | zero =>
      intro v1 v2 o31 o32 h
      rw [lpX1_parallels_5.eq_1] at h
      cases h
    | succ n ih =>
      intro v1 v2 o31 o32 h ls hl kx
      rw [lpX1_parallels_5.eq_2] at h
      refine lv_iload hx hb dX1_parallels_5 (lv_at hl 0 rfl) ?_
      refine lv_iconst (v := 4) hx hb dX1_parallels_7 (by decide) ?_
      refine lv_icmp_ge (tgt := 125) hx hb dX1_parallels_8 (by decide) (fun c3 => ?_) (fun c3 => ?_)
      · replace h := fb_it c3 h
        obtain ⟨e1, e2⟩ := fb_p2 h
        subst e1
        subst e2
        exact kx ls (lv_sub hl [0, 1, 2, 3, 4] rfl)
      · replace h := fb_ie c3 h
        refine lv_iload hx hb dX1_parallels_11 (lv_at hl 0 rfl) ?_
        refine lv_iconst (v := 1) hx hb dX1_parallels_13 (by decide) ?_
        refine lv_iadd hx hb dX1_parallels_14 ?_
        refine lv_istore (lv' := [(5, .int (v1 + 1)), (4, .int v1), (3, .int v2), (0, .ref h0), (1, .int a1), (2, .int a2)]) hx hb dX1_parallels_15 hl (by decide) rfl (fun ls hl => ?_)
        have LX1_parallels_17 : ∀ (n : Nat) (v4 : Int32) (v5 : Int32) (o28 : Int32) (o29 : Int32), lpX1_parallels_17 a1 a2 th ch nt fg wt mi v1 n v4 v5 = some (o28, o29) → ∀ (ls : Array Slot), lv_has ls 6 [(5, .int v4), (4, .int v1), (3, .int v5), (0, .ref h0), (1, .int a1), (2, .int a2)] → (∀ (ls : Array Slot), lv_has ls 6 [(5, .int o28), (4, .int v1), (3, .int o29), (0, .ref h0), (1, .int a1), (2, .int a2)] → W p l e (headSpec wsX1_parallels rmX1_parallels).room s m ([.ref h0, .int a1, .int a2] : List Value).toArray below meth c s.heap [] 0 0 (MQ below (QcRead ro) ([.ref h0, .int a1, .int a2] : List Value).toArray s 0 0 (fun _ => False)) (F0 m 119 ls [])) → W p l e (headSpec wsX1_parallels rmX1_parallels).room s m ([.ref h0, .int a1, .int a2] : List Value).toArray below meth c s.heap [] 0 0 (MQ below (QcRead ro) ([.ref h0, .int a1, .int a2] : List Value).toArray s 0 0 (fun _ => False)) (F0 m 17 ls []) := by
          intro n
          induction n with
          | zero =>
            intro v4 v5 o28 o29 h
            rw [lpX1_parallels_17.eq_1] at h
            cases h
          | succ n ih =>
            intro v4 v5 o28 o29 h ls hl kx
            rw [lpX1_parallels_17.eq_2] at h
            refine lv_iload hx hb dX1_parallels_17 (lv_at hl 0 rfl) ?_
            refine lv_iconst (v := 4) hx hb dX1_parallels_19 (by decide) ?_
            refine lv_icmp_ge (tgt := 119) hx hb dX1_parallels_20 (by decide) (fun c6 => ?_) (fun c6 => ?_)
            · replace h := fb_it c6 h
              obtain ⟨e1, e2⟩ := fb_p2 h
              subst e1
              subst e2
              exact kx ls (lv_sub hl [0, 1, 2, 3, 4, 5] rfl)
            · replace h := fb_ie c6 h
              refine lv_aload_n hx hb dX1_parallels_23 rfl (lv_at hl 3 rfl) ?_
              refine lv_iload_n hx hb dX1_parallels_24 rfl (lv_at hl 4 rfl) ?_
              refine lv_iload hx hb dX1_parallels_25 (lv_at hl 1 rfl) ?_
              obtain ⟨r8, h7, h⟩ := fb_b1s h
              refine fb_callR (W.runV (As := [.int a1, .int v1]) (rest := []) ⟨hx, hb, hml, hown, hts⟩ (metX1_goes l D cI h0 qn qf qw B0 th ch nt fg wt mi a1 v1 r8 h7) (cwV 2 hts gX1_parallels_X1_goes rfl rfl rfl (by decide +kernel) ⟨Nat.le_of_ble_eq_true rfl, Nat.le_of_ble_eq_true rfl⟩) (fb_preVR (ci := 1) fb_sX1p hP hK hZ hS hAB rfl rfl _) rfl rfl hl.1 rfl (lv_room (Nat.le_of_ble_eq_true rfl)) dX1_parallels_27 ⟨Nat.le_of_ble_eq_true rfl, Nat.le_of_ble_eq_true rfl⟩) ?_
              obtain ⟨j27, hjJ1, h⟩ := fb_b1s h
              have J1 : ∀ (ls : Array Slot), lv_has ls 6 [(5, .int v4), (4, .int v1), (3, .int j27), (0, .ref h0), (1, .int a1), (2, .int a2)] → W p l e (headSpec wsX1_parallels rmX1_parallels).room s m ([.ref h0, .int a1, .int a2] : List Value).toArray below meth c s.heap [] 0 0 (MQ below (QcRead ro) ([.ref h0, .int a1, .int a2] : List Value).toArray s 0 0 (fun _ => False)) (F0 m 113 ls []) := by
                intro ls hl
                refine lv_iinc (v := v4 + 1) (lv' := [(5, .int (v4 + 1)), (4, .int v1), (3, .int j27), (0, .ref h0), (1, .int a1), (2, .int a2)]) hx hb dX1_parallels_113 hl (k := 0) rfl rfl (by decide) rfl (fun ls hl => ?_)
                refine lv_goto (tgt := 17) hx hb dX1_parallels_116 (by decide) ?_
                exact ih _ _ o28 o29 h ls (lv_sub hl [0, 1, 2, 3, 4, 5] rfl) kx
              replace h := hjJ1
              refine lv_if_eq (tgt := 113) hx hb dX1_parallels_30 (by decide) (fun c9 => ?_) (fun c9 => ?_)
              · replace h := fb_it c9 h
                have h := Option.some.inj h
                subst h
                exact J1 ls (lv_sub hl [0, 1, 2, 3, 4, 5] rfl)
              · replace h := fb_ie c9 h
                refine lv_aload_n hx hb dX1_parallels_33 rfl (lv_at hl 3 rfl) ?_
                refine lv_iload_n hx hb dX1_parallels_34 rfl (lv_at hl 4 rfl) ?_
                refine lv_iload hx hb dX1_parallels_35 (lv_at hl 0 rfl) ?_
                obtain ⟨r11, h10, h⟩ := fb_b1s h
                refine fb_callR (W.runV (As := [.int a1, .int v4]) (rest := []) ⟨hx, hb, hml, hown, hts⟩ (metX1_goes l D cI h0 qn qf qw B0 th ch nt fg wt mi a1 v4 r11 h10) (cwV 2 hts gX1_parallels_X1_goes rfl rfl rfl (by decide +kernel) ⟨Nat.le_of_ble_eq_true rfl, Nat.le_of_ble_eq_true rfl⟩) (fb_preVR (ci := 1) fb_sX1p hP hK hZ hS hAB rfl rfl _) rfl rfl hl.1 rfl (lv_room (Nat.le_of_ble_eq_true rfl)) dX1_parallels_37 ⟨Nat.le_of_ble_eq_true rfl, Nat.le_of_ble_eq_true rfl⟩) ?_
                refine lv_if_ne (tgt := 46) hx hb dX1_parallels_40 (by decide) (fun c12 => ?_) (fun c12 => ?_)
                · replace h := fb_ie c12 h
                  refine lv_iload_n hx hb dX1_parallels_46 rfl (lv_at hl 2 rfl) ?_
                  refine lv_iload_n hx hb dX1_parallels_47 rfl (lv_at hl 5 rfl) ?_
                  obtain ⟨j26, hjJ2, h⟩ := fb_b1s h
                  have J2 : ∀ (ls : Array Slot), lv_has ls 6 [(5, .int v4), (4, .int v1), (0, .ref h0), (1, .int a1), (2, .int a2)] → W p l e (headSpec wsX1_parallels rmX1_parallels).room s m ([.ref h0, .int a1, .int a2] : List Value).toArray below meth c s.heap [] 0 0 (MQ below (QcRead ro) ([.ref h0, .int a1, .int a2] : List Value).toArray s 0 0 (fun _ => False)) (F0 m 111 ls [.int j26, .int v5]) := by
                    intro ls hl
                    refine lv_iadd hx hb dX1_parallels_111 ?_
                    refine lv_istore_n (lv' := [(3, .int (v5 + j26)), (5, .int v4), (4, .int v1), (0, .ref h0), (1, .int a1), (2, .int a2)]) hx hb dX1_parallels_112 rfl hl (by decide) rfl (fun ls hl => ?_)
                    have h := Option.some.inj h
                    subst h
                    exact J1 ls (lv_sub hl [1, 2, 0, 3, 4, 5] rfl)
                  replace h := hjJ2
                  refine lv_if_eq (tgt := 80) hx hb dX1_parallels_48 (by decide) (fun c13 => ?_) (fun c13 => ?_)
                  · replace h := fb_it c13 h
                    refine lv_aload_n hx hb dX1_parallels_80 rfl (lv_at hl 3 rfl) ?_
                    refine lv_iload_n hx hb dX1_parallels_81 rfl (lv_at hl 4 rfl) ?_
                    refine lv_iconst (v := 1) hx hb dX1_parallels_82 (by decide) ?_
                    refine lv_isub hx hb dX1_parallels_83 ?_
                    refine lv_iload hx hb dX1_parallels_84 (lv_at hl 1 rfl) ?_
                    refine lv_iload hx hb dX1_parallels_86 (lv_at hl 0 rfl) ?_
                    obtain ⟨r15, h14, h⟩ := fb_b1s h
                    refine fb_callR (W.runV (As := [.int (a1 - 1), .int v1, .int v4]) (rest := [.int v5]) ⟨hx, hb, hml, hown, hts⟩ (metX1_isOctave l D cI h0 qn qf qw B0 th ch nt fg wt mi (a1 - 1) v1 v4 r15 h14) (cwV 3 hts gX1_parallels_X1_isOctave rfl rfl rfl (by decide +kernel) ⟨Nat.le_of_ble_eq_true rfl, Nat.le_of_ble_eq_true rfl⟩) (fb_preVR (ci := 1) fb_sX1p hP hK hZ hS hAB rfl rfl _) rfl rfl hl.1 rfl (lv_room (Nat.le_of_ble_eq_true rfl)) dX1_parallels_88 ⟨Nat.le_of_ble_eq_true rfl, Nat.le_of_ble_eq_true rfl⟩) ?_
                    refine lv_if_eq (tgt := 110) hx hb dX1_parallels_91 (by decide) (fun c16 => ?_) (fun c16 => ?_)
                    · replace h := fb_it c16 h
                      refine lv_iconst (v := 0) hx hb dX1_parallels_110 (by decide) ?_
                      have h := Option.some.inj h
                      subst h
                      exact J2 ls (lv_sub hl [0, 1, 3, 4, 5] rfl)
                    · replace h := fb_ie c16 h
                      refine lv_aload_n hx hb dX1_parallels_94 rfl (lv_at hl 3 rfl) ?_
                      refine lv_iload_n hx hb dX1_parallels_95 rfl (lv_at hl 4 rfl) ?_
                      refine lv_iload hx hb dX1_parallels_96 (lv_at hl 1 rfl) ?_
                      refine lv_iload hx hb dX1_parallels_98 (lv_at hl 0 rfl) ?_
                      obtain ⟨r18, h17, h⟩ := fb_b1s h
                      refine fb_callR (W.runV (As := [.int a1, .int v1, .int v4]) (rest := [.int v5]) ⟨hx, hb, hml, hown, hts⟩ (metX1_isOctave l D cI h0 qn qf qw B0 th ch nt fg wt mi a1 v1 v4 r18 h17) (cwV 3 hts gX1_parallels_X1_isOctave rfl rfl rfl (by decide +kernel) ⟨Nat.le_of_ble_eq_true rfl, Nat.le_of_ble_eq_true rfl⟩) (fb_preVR (ci := 1) fb_sX1p hP hK hZ hS hAB rfl rfl _) rfl rfl hl.1 rfl (lv_room (Nat.le_of_ble_eq_true rfl)) dX1_parallels_100 ⟨Nat.le_of_ble_eq_true rfl, Nat.le_of_ble_eq_true rfl⟩) ?_
                      refine lv_if_eq (tgt := 110) hx hb dX1_parallels_103 (by decide) (fun c19 => ?_) (fun c19 => ?_)
                      · replace h := fb_it c19 h
                        refine lv_iconst (v := 0) hx hb dX1_parallels_110 (by decide) ?_
                        have h := Option.some.inj h
                        subst h
                        exact J2 ls (lv_sub hl [0, 1, 3, 4, 5] rfl)
                      · replace h := fb_ie c19 h
                        refine lv_iconst (v := 1) hx hb dX1_parallels_106 (by decide) ?_
                        refine lv_goto (tgt := 111) hx hb dX1_parallels_107 (by decide) ?_
                        have h := Option.some.inj h
                        subst h
                        exact J2 ls (lv_sub hl [0, 1, 3, 4, 5] rfl)
                  · replace h := fb_ie c13 h
                    refine lv_aload_n hx hb dX1_parallels_51 rfl (lv_at hl 3 rfl) ?_
                    refine lv_iload_n hx hb dX1_parallels_52 rfl (lv_at hl 4 rfl) ?_
                    refine lv_iconst (v := 1) hx hb dX1_parallels_53 (by decide) ?_
                    refine lv_isub hx hb dX1_parallels_54 ?_
                    refine lv_iload hx hb dX1_parallels_55 (lv_at hl 1 rfl) ?_
                    refine lv_iload hx hb dX1_parallels_57 (lv_at hl 0 rfl) ?_
                    obtain ⟨r21, h20, h⟩ := fb_b1s h
                    refine fb_callR (W.runV (As := [.int (a1 - 1), .int v1, .int v4]) (rest := [.int v5]) ⟨hx, hb, hml, hown, hts⟩ (metX1_isFifth l D cI h0 qn qf qw B0 th ch nt fg wt mi (a1 - 1) v1 v4 r21 h20) (cwV 3 hts gX1_parallels_X1_isFifth rfl rfl rfl (by decide +kernel) ⟨Nat.le_of_ble_eq_true rfl, Nat.le_of_ble_eq_true rfl⟩) (fb_preVR (ci := 1) fb_sX1p hP hK hZ hS hAB rfl rfl _) rfl rfl hl.1 rfl (lv_room (Nat.le_of_ble_eq_true rfl)) dX1_parallels_59 ⟨Nat.le_of_ble_eq_true rfl, Nat.le_of_ble_eq_true rfl⟩) ?_
                    refine lv_if_eq (tgt := 110) hx hb dX1_parallels_62 (by decide) (fun c22 => ?_) (fun c22 => ?_)
                    · replace h := fb_it c22 h
                      refine lv_iconst (v := 0) hx hb dX1_parallels_110 (by decide) ?_
                      have h := Option.some.inj h
                      subst h
                      exact J2 ls (lv_sub hl [0, 1, 3, 4, 5] rfl)
                    · replace h := fb_ie c22 h
                      refine lv_aload_n hx hb dX1_parallels_65 rfl (lv_at hl 3 rfl) ?_
                      refine lv_iload_n hx hb dX1_parallels_66 rfl (lv_at hl 4 rfl) ?_
                      refine lv_iload hx hb dX1_parallels_67 (lv_at hl 1 rfl) ?_
                      refine lv_iload hx hb dX1_parallels_69 (lv_at hl 0 rfl) ?_
                      obtain ⟨r24, h23, h⟩ := fb_b1s h
                      refine fb_callR (W.runV (As := [.int a1, .int v1, .int v4]) (rest := [.int v5]) ⟨hx, hb, hml, hown, hts⟩ (metX1_isFifth l D cI h0 qn qf qw B0 th ch nt fg wt mi a1 v1 v4 r24 h23) (cwV 3 hts gX1_parallels_X1_isFifth rfl rfl rfl (by decide +kernel) ⟨Nat.le_of_ble_eq_true rfl, Nat.le_of_ble_eq_true rfl⟩) (fb_preVR (ci := 1) fb_sX1p hP hK hZ hS hAB rfl rfl _) rfl rfl hl.1 rfl (lv_room (Nat.le_of_ble_eq_true rfl)) dX1_parallels_71 ⟨Nat.le_of_ble_eq_true rfl, Nat.le_of_ble_eq_true rfl⟩) ?_
                      refine lv_if_eq (tgt := 110) hx hb dX1_parallels_74 (by decide) (fun c25 => ?_) (fun c25 => ?_)
                      · replace h := fb_it c25 h
                        refine lv_iconst (v := 0) hx hb dX1_parallels_110 (by decide) ?_
                        have h := Option.some.inj h
                        subst h
                        exact J2 ls (lv_sub hl [0, 1, 3, 4, 5] rfl)
                      · replace h := fb_ie c25 h
                        refine lv_goto (tgt := 106) hx hb dX1_parallels_77 (by decide) ?_
                        refine lv_iconst (v := 1) hx hb dX1_parallels_106 (by decide) ?_
                        refine lv_goto (tgt := 111) hx hb dX1_parallels_107 (by decide) ?_
                        have h := Option.some.inj h
                        subst h
                        exact J2 ls (lv_sub hl [0, 1, 3, 4, 5] rfl)
                · replace h := fb_it c12 h
                  refine lv_goto (tgt := 113) hx hb dX1_parallels_43 (by decide) ?_
                  have h := Option.some.inj h
                  subst h
                  exact J1 ls (lv_sub hl [0, 1, 2, 3, 4, 5] rfl)
        obtain ⟨o28, o29, h30, h⟩ := fb_b2s h
        refine LX1_parallels_17 _ _ _ o28 o29 h30 ls (lv_sub hl [0, 1, 2, 3, 4, 5] rfl) (fun ls hl => ?_)
        refine lv_iinc (v := v1 + 1) (lv' := [(4, .int (v1 + 1)), (5, .int o28), (3, .int o29), (0, .ref h0), (1, .int a1), (2, .int a2)]) hx hb dX1_parallels_119 hl (k := 1) rfl rfl (by decide) rfl (fun ls hl => ?_)
        refine lv_goto (tgt := 5) hx hb dX1_parallels_122 (by decide) ?_
        exact ih _ _ o31 o32 h ls (lv_sub hl [0, 2, 3, 4, 5] rfl) kx
  obtain ⟨o31, o32, h34, h⟩ := fb_b2s h
  refine LX1_parallels_5 _ _ _ o31 o32 h34 ls (lv_sub hl [0, 1, 2, 3, 4] rfl) (fun ls hl => ?_)
  refine lv_iload_n hx hb dX1_parallels_125 rfl (lv_at hl 1 rfl) ?_
  have h := Option.some.inj h
  subst h
  exact W.iret hx hb hr (fun t ht _ => ⟨rfl, ht⟩) (fun q hq => absurd hq List.not_mem_nil) dX1_parallels_126
abbrev rmX1_isHidden : Room := { frames := 2, cells := 0, slots := 0, locals := 46 }
set_option maxHeartbeats 8000000 in
set_option maxRecDepth 100000 in
theorem metX1_isHidden (l : Launch) (D : va_G) (cI : ClassId) (h0 qn qf qw B0 : Nat) (th : Int32) (ch : Int32) (nt : Nat → Int32) (fg : Nat → Int32) (wt : Nat → Int32) (mi : Int32) (a1 : Int32) (ro : Int32) (h : fX1_isHidden th ch nt fg wt mi a1 = some ro) : Met l yX1_isHidden wsX1_isHidden rmX1_isHidden (va_Pc [.ref h0, .int a1] (fb_ok D [(cI, .int)] B0 fb_sX1 (fb_wX1 cI h0 qn qf qw th ch nt fg wt mi))) (QcRead ro) 0 0 (fun _ => False) := by
  refine Met.ofW (cc := cX1_isHidden) (maxL := 4) (ret := (some .boolean)) (by decide) rfl ?_
  intro p e s m args below meth c s₁ B hml hv
  obtain ⟨rfl, hP, hK, hZ⟩ := hv
  have hx := B.exec
  have hb := B.bytes
  have hr := B.returns
  have hts := atoms_spec (ws := wsX1_isHidden) B.pre
  have hown : s.vm.findClass RX1 = some m.cls := findClass_of_methodNamed B.named
  have hlocks := B.notSynchronized
  have hAB : ∀ q : Nat, (fun q => B0 ≤ q) q → B0 ≤ q := fun _ h9 => h9
  have hS : va_S (fun q => B0 ≤ q) s.heap s.heap [] := va_S.rf
  have hin0 : ∀ w ∈ u_ws RX1 TX1 6, w ∈ wsX1_isHidden := fun _ h9 => List.mem_cons_of_mem _ (List.mem_append_right _ (h9))
  have w_m73 : (Cond.methodLink RX1 73 Lib.Math.abs.name) ∈ wsX1_isHidden := List.mem_of_getElem? (i := 1) rfl
  have w_mcabs : (Cond.code Lib.Math.abs.name Lib.Math.abs.code 1 (some .int)) ∈ wsX1_isHidden := List.mem_of_getElem? (i := 4) rfl
  have w_mi : (Cond.initialized "java/lang/Math") ∈ wsX1_isHidden := List.mem_of_getElem? (i := 3) rfl
  have w_msabs : (Cond.static Lib.Math.abs.name) ∈ wsX1_isHidden := List.mem_of_getElem? (i := 2) rfl
  have hl := lv_entry ([.ref h0, .int a1]) (n := 4) (Nat.le_of_ble_eq_true rfl)
  rw [lg_entry_eq]
  generalize (lg_sl ([.ref h0, .int a1]) ++ List.replicate (4 - (lg_sl ([.ref h0, .int a1])).length) Slot.unset).toArray = ls at hl ⊢
  have hl : lv_has ls 4 [(0, .ref h0), (1, .int a1)] := hl
  unfold fX1_isHidden at h
  refine lv_aload_n hx hb dX1_isHidden_0 rfl (lv_at hl 0 rfl) ?_
  refine lv_iload_n hx hb dX1_isHidden_1 rfl (lv_at hl 1 rfl) ?_
  refine lv_iconst (v := 0) hx hb dX1_isHidden_2 (by decide) ?_
  obtain ⟨r2, h1, h⟩ := fb_b1s h
  refine fb_callR (W.runV (As := [.int a1, .int 0]) (rest := []) ⟨hx, hb, hml, hown, hts⟩ (metX1_goes l D cI h0 qn qf qw B0 th ch nt fg wt mi a1 0 r2 h1) (cwV 2 hts gX1_isHidden_X1_goes rfl rfl rfl (by decide +kernel) ⟨Nat.le_of_ble_eq_true rfl, Nat.le_of_ble_eq_true rfl⟩) (fb_preVR (ci := 1) fb_sX1p hP hK hZ hS hAB rfl rfl _) rfl rfl hl.1 rfl (lv_room (Nat.le_of_ble_eq_true rfl)) dX1_isHidden_3 ⟨Nat.le_of_ble_eq_true rfl, Nat.le_of_ble_eq_true rfl⟩) ?_
  refine lv_istore_n (lv' := [(2, .int r2), (0, .ref h0), (1, .int a1)]) hx hb dX1_isHidden_6 rfl hl (by decide) rfl (fun ls hl => ?_)
  refine lv_aload_n hx hb dX1_isHidden_7 rfl (lv_at hl 1 rfl) ?_
  refine lv_iload_n hx hb dX1_isHidden_8 rfl (lv_at hl 2 rfl) ?_
  refine lv_iconst (v := 3) hx hb dX1_isHidden_9 (by decide) ?_
  obtain ⟨r4, h3, h⟩ := fb_b1s h
  refine fb_callR (W.runV (As := [.int a1, .int 3]) (rest := []) ⟨hx, hb, hml, hown, hts⟩ (metX1_goes l D cI h0 qn qf qw B0 th ch nt fg wt mi a1 3 r4 h3) (cwV 2 hts gX1_isHidden_X1_goes rfl rfl rfl (by decide +kernel) ⟨Nat.le_of_ble_eq_true rfl, Nat.le_of_ble_eq_true rfl⟩) (fb_preVR (ci := 1) fb_sX1p hP hK hZ hS hAB rfl rfl _) rfl rfl hl.1 rfl (lv_room (Nat.le_of_ble_eq_true rfl)) dX1_isHidden_10 ⟨Nat.le_of_ble_eq_true rfl, Nat.le_of_ble_eq_true rfl⟩) ?_
  refine lv_istore_n (lv' := [(3, .int r4), (2, .int r2), (0, .ref h0), (1, .int a1)]) hx hb dX1_isHidden_13 rfl hl (by decide) rfl (fun ls hl => ?_)
  refine lv_iload_n hx hb dX1_isHidden_14 rfl (lv_at hl 1 rfl) ?_
  refine lv_iload_n hx hb dX1_isHidden_15 rfl (lv_at hl 0 rfl) ?_
  refine lv_imul hx hb dX1_isHidden_16 ?_
  refine lv_if_le (tgt := 52) hx hb dX1_isHidden_17 (by decide) (fun c5 => ?_) (fun c5 => ?_)
  · replace h := fb_it c5 h
    refine lv_iconst (v := 0) hx hb dX1_isHidden_52 (by decide) ?_
    have h := Option.some.inj h
    subst h
    exact W.zret (ty := .boolean) hx hb hr rfl (fun t ht _ => ⟨rfl, ht⟩) (fun q hq => absurd hq List.not_mem_nil) dX1_isHidden_53
  · replace h := fb_ie c5 h
    refine lv_iload_n hx hb dX1_isHidden_20 rfl (lv_at hl 0 rfl) ?_
    refine va_mabs hx hb (by rw [hml]; exact hl.1.symm) hown (hts _ w_m73) (hts _ w_msabs) (hts _ w_mi) (hts _ w_mcabs) (Nat.le_of_ble_eq_true rfl) (Nat.le_of_ble_eq_true rfl) (Nat.le_of_ble_eq_true rfl) (Nat.le_of_ble_eq_true rfl) dX1_isHidden_21 ?_
    refine lv_iconst (v := 1) hx hb dX1_isHidden_24 (by decide) ?_
    refine lv_icmp_le (tgt := 52) hx hb dX1_isHidden_25 (by decide) (fun c7 => ?_) (fun c7 => ?_)
    · replace h := fb_it c7 h
      refine lv_iconst (v := 0) hx hb dX1_isHidden_52 (by decide) ?_
      have h := Option.some.inj h
      subst h
      exact W.zret (ty := .boolean) hx hb hr rfl (fun t ht _ => ⟨rfl, ht⟩) (fun q hq => absurd hq List.not_mem_nil) dX1_isHidden_53
    · replace h := fb_ie c7 h
      refine lv_aload_n hx hb dX1_isHidden_28 rfl (lv_at hl 2 rfl) ?_
      refine lv_iload_n hx hb dX1_isHidden_29 rfl (lv_at hl 3 rfl) ?_
      refine lv_iconst (v := 0) hx hb dX1_isHidden_30 (by decide) ?_
      refine lv_iconst (v := 3) hx hb dX1_isHidden_31 (by decide) ?_
      obtain ⟨r10, h9, h⟩ := fb_b1s h
      refine fb_callR (W.runV (As := [.int a1, .int 0, .int 3]) (rest := []) ⟨hx, hb, hml, hown, hts⟩ (metX1_isFifth l D cI h0 qn qf qw B0 th ch nt fg wt mi a1 0 3 r10 h9) (cwV 3 hts gX1_isHidden_X1_isFifth rfl rfl rfl (by decide +kernel) ⟨Nat.le_of_ble_eq_true rfl, Nat.le_of_ble_eq_true rfl⟩) (fb_preVR (ci := 1) fb_sX1p hP hK hZ hS hAB rfl rfl _) rfl rfl hl.1 rfl (lv_room (Nat.le_of_ble_eq_true rfl)) dX1_isHidden_32 ⟨Nat.le_of_ble_eq_true rfl, Nat.le_of_ble_eq_true rfl⟩) ?_
      refine lv_if_ne (tgt := 48) hx hb dX1_isHidden_35 (by decide) (fun c11 => ?_) (fun c11 => ?_)
      · replace h := fb_ie c11 h
        refine lv_iconst (v := 1) hx hb dX1_isHidden_48 (by decide) ?_
        refine lv_goto (tgt := 53) hx hb dX1_isHidden_49 (by decide) ?_
        have h := Option.some.inj h
        subst h
        exact W.zret (ty := .boolean) hx hb hr rfl (fun t ht _ => ⟨rfl, ht⟩) (fun q hq => absurd hq List.not_mem_nil) dX1_isHidden_53
      · replace h := fb_it c11 h
        refine lv_aload_n hx hb dX1_isHidden_38 rfl (lv_at hl 2 rfl) ?_
        refine lv_iload_n hx hb dX1_isHidden_39 rfl (lv_at hl 3 rfl) ?_
        refine lv_iconst (v := 0) hx hb dX1_isHidden_40 (by decide) ?_
        refine lv_iconst (v := 3) hx hb dX1_isHidden_41 (by decide) ?_
        obtain ⟨r14, h13, h⟩ := fb_b1s h
        refine fb_callR (W.runV (As := [.int a1, .int 0, .int 3]) (rest := []) ⟨hx, hb, hml, hown, hts⟩ (metX1_isOctave l D cI h0 qn qf qw B0 th ch nt fg wt mi a1 0 3 r14 h13) (cwV 3 hts gX1_isHidden_X1_isOctave rfl rfl rfl (by decide +kernel) ⟨Nat.le_of_ble_eq_true rfl, Nat.le_of_ble_eq_true rfl⟩) (fb_preVR (ci := 1) fb_sX1p hP hK hZ hS hAB rfl rfl _) rfl rfl hl.1 rfl (lv_room (Nat.le_of_ble_eq_true rfl)) dX1_isHidden_42 ⟨Nat.le_of_ble_eq_true rfl, Nat.le_of_ble_eq_true rfl⟩) ?_
        refine lv_if_eq (tgt := 52) hx hb dX1_isHidden_45 (by decide) (fun c15 => ?_) (fun c15 => ?_)
        · replace h := fb_it c15 h
          refine lv_iconst (v := 0) hx hb dX1_isHidden_52 (by decide) ?_
          have h := Option.some.inj h
          subst h
          exact W.zret (ty := .boolean) hx hb hr rfl (fun t ht _ => ⟨rfl, ht⟩) (fun q hq => absurd hq List.not_mem_nil) dX1_isHidden_53
        · replace h := fb_ie c15 h
          refine lv_iconst (v := 1) hx hb dX1_isHidden_48 (by decide) ?_
          refine lv_goto (tgt := 53) hx hb dX1_isHidden_49 (by decide) ?_
          have h := Option.some.inj h
          subst h
          exact W.zret (ty := .boolean) hx hb hr rfl (fun t ht _ => ⟨rfl, ht⟩) (fun q hq => absurd hq List.not_mem_nil) dX1_isHidden_53
