/-! Contracts, printed by wip/p24/g1.py. -/
abbrev rmX0_isNoteOf : Room := { frames := 0, cells := 0, slots := 0, locals := 0 }
set_option maxHeartbeats 8000000 in
set_option maxRecDepth 100000 in
theorem metX0_isNoteOf (l : Launch) (B0 : Nat) (a1 : Int32) (a2 : Int32) (ro : Int32) (h : fX0_isNoteOf a1 a2 = some ro) : Met l yX0_isNoteOf wsX0_isNoteOf rmX0_isNoteOf (va_Pc [.int a1, .int a2] (fb_os B0 fb_sX0)) (QcRead ro) 0 0 (fun _ => False) := by
  refine Met.ofW (cc := cX0_isNoteOf) (maxL := 2) (ret := (some .boolean)) (by decide) rfl ?_
  intro p e s m args below meth c s₁ B hml hv
  obtain ⟨rfl, hZ⟩ := hv
  have hx := B.exec
  have hb := B.bytes
  have hr := B.returns
  have hts := atoms_spec (ws := wsX0_isNoteOf) B.pre
  have hown : s.vm.findClass RX0 = some m.cls := findClass_of_methodNamed B.named
  have hlocks := B.notSynchronized
  have hAB : ∀ q : Nat, (fun q => B0 ≤ q) q → B0 ≤ q := fun _ h9 => h9
  have hS : va_S (fun q => B0 ≤ q) s.heap s.heap [] := va_S.rf
  obtain ⟨t_HIGHEST, hz_HIGHEST, ht_HIGHEST⟩ := fb_stA_narrow hZ.2.1 hAB
  obtain ⟨t_LOWEST, hz_LOWEST, ht_LOWEST⟩ := fb_stA_narrow hZ.1 hAB
  have w_f139 : (Cond.fieldLink RX0 139 "FiguredBass" "LOWEST" "[I") ∈ wsX0_isNoteOf := List.mem_of_getElem? (i := 1) rfl
  have w_f142 : (Cond.fieldLink RX0 142 "FiguredBass" "HIGHEST" "[I") ∈ wsX0_isNoteOf := List.mem_of_getElem? (i := 2) rfl
  have hl := lv_entry ([.int a1, .int a2]) (n := 2) (Nat.le_of_ble_eq_true rfl)
  rw [lg_entry_eq]
  generalize (lg_sl ([.int a1, .int a2]) ++ List.replicate (2 - (lg_sl ([.int a1, .int a2])).length) Slot.unset).toArray = ls at hl ⊢
  have hl : lv_has ls 2 [(0, .int a1), (1, .int a2)] := hl
  unfold fX0_isNoteOf at h
  refine lv_iload_n hx hb dX0_isNoteOf_0 rfl (lv_at hl 1 rfl) ?_
  refine va_gets hx hb hz_LOWEST hS hown (hts _ w_f139) (fun _ h9 => h9) dX0_isNoteOf_1 ?_
  refine lv_iload_n hx hb dX0_isNoteOf_4 rfl (lv_at hl 0 rfl) ?_
  obtain ⟨hi1, h⟩ := fb_cks h
  refine va_ti hx hb ht_LOWEST hS (fb_ixin hi1) rfl dX0_isNoteOf_5 ?_
  refine lv_icmp_lt (tgt := 22) hx hb dX0_isNoteOf_6 (by decide) (fun c2 => ?_) (fun c2 => ?_)
  · replace h := fb_it c2 h
    refine lv_iconst (v := 0) hx hb dX0_isNoteOf_22 (by decide) ?_
    have h := Option.some.inj h
    subst h
    exact W.zret (ty := .boolean) hx hb hr rfl (fun t ht _ => ⟨rfl, ht⟩) (fun q hq => absurd hq List.not_mem_nil) dX0_isNoteOf_23
  · replace h := fb_ie c2 h
    refine lv_iload_n hx hb dX0_isNoteOf_9 rfl (lv_at hl 1 rfl) ?_
    refine va_gets hx hb hz_HIGHEST hS hown (hts _ w_f142) (fun _ h9 => h9) dX0_isNoteOf_10 ?_
    refine lv_iload_n hx hb dX0_isNoteOf_13 rfl (lv_at hl 0 rfl) ?_
    refine va_ti hx hb ht_HIGHEST hS (fb_ixin hi1) rfl dX0_isNoteOf_14 ?_
    refine lv_icmp_gt (tgt := 22) hx hb dX0_isNoteOf_15 (by decide) (fun c4 => ?_) (fun c4 => ?_)
    · replace h := fb_it c4 h
      refine lv_iconst (v := 0) hx hb dX0_isNoteOf_22 (by decide) ?_
      have h := Option.some.inj h
      subst h
      exact W.zret (ty := .boolean) hx hb hr rfl (fun t ht _ => ⟨rfl, ht⟩) (fun q hq => absurd hq List.not_mem_nil) dX0_isNoteOf_23
    · replace h := fb_ie c4 h
      refine lv_iconst (v := 1) hx hb dX0_isNoteOf_18 (by decide) ?_
      refine lv_goto (tgt := 23) hx hb dX0_isNoteOf_19 (by decide) ?_
      have h := Option.some.inj h
      subst h
      exact W.zret (ty := .boolean) hx hb hr rfl (fun t ht _ => ⟨rfl, ht⟩) (fun q hq => absurd hq List.not_mem_nil) dX0_isNoteOf_23
abbrev rmX0_isFigure : Room := { frames := 0, cells := 0, slots := 0, locals := 0 }
set_option maxHeartbeats 8000000 in
set_option maxRecDepth 100000 in
theorem metX0_isFigure (l : Launch) (B0 : Nat) (a1 : Int32) (ro : Int32) (h : fX0_isFigure a1 = some ro) : Met l yX0_isFigure wsX0_isFigure rmX0_isFigure (va_Pc [.int a1] (fb_os B0 fb_sX0)) (QcRead ro) 0 0 (fun _ => False) := by
  refine Met.ofW (cc := cX0_isFigure) (maxL := 1) (ret := (some .boolean)) (by decide) rfl ?_
  intro p e s m args below meth c s₁ B hml hv
  obtain ⟨rfl, hZ⟩ := hv
  have hx := B.exec
  have hb := B.bytes
  have hr := B.returns
  have hts := atoms_spec (ws := wsX0_isFigure) B.pre
  have hown : s.vm.findClass RX0 = some m.cls := findClass_of_methodNamed B.named
  have hlocks := B.notSynchronized
  have hAB : ∀ q : Nat, (fun q => B0 ≤ q) q → B0 ≤ q := fun _ h9 => h9
  have hS : va_S (fun q => B0 ≤ q) s.heap s.heap [] := va_S.rf
  obtain ⟨t_FIGURE_STEPS, hz_FIGURE_STEPS, ht_FIGURE_STEPS⟩ := fb_stA_narrow hZ.2.2.1 hAB
  have w_f132 : (Cond.fieldLink RX0 132 "FiguredBass" "FIGURE_STEPS" "[I") ∈ wsX0_isFigure := List.mem_of_getElem? (i := 1) rfl
  have hl := lv_entry ([.int a1]) (n := 1) (Nat.le_of_ble_eq_true rfl)
  rw [lg_entry_eq]
  generalize (lg_sl ([.int a1]) ++ List.replicate (1 - (lg_sl ([.int a1])).length) Slot.unset).toArray = ls at hl ⊢
  have hl : lv_has ls 1 [(0, .int a1)] := hl
  unfold fX0_isFigure at h
  refine lv_iload_n hx hb dX0_isFigure_0 rfl (lv_at hl 0 rfl) ?_
  refine lv_if_lt (tgt := 16) hx hb dX0_isFigure_1 (by decide) (fun c1 => ?_) (fun c1 => ?_)
  · replace h := fb_it c1 h
    refine lv_iconst (v := 0) hx hb dX0_isFigure_16 (by decide) ?_
    have h := Option.some.inj h
    subst h
    exact W.zret (ty := .boolean) hx hb hr rfl (fun t ht _ => ⟨rfl, ht⟩) (fun q hq => absurd hq List.not_mem_nil) dX0_isFigure_17
  · replace h := fb_ie c1 h
    refine lv_iload_n hx hb dX0_isFigure_4 rfl (lv_at hl 0 rfl) ?_
    refine va_gets hx hb hz_FIGURE_STEPS hS hown (hts _ w_f132) (fun _ h9 => h9) dX0_isFigure_5 ?_
    refine va_tlen hx hb ht_FIGURE_STEPS hS (v := 6) (by decide) dX0_isFigure_8 ?_
    refine lv_icmp_ge (tgt := 16) hx hb dX0_isFigure_9 (by decide) (fun c3 => ?_) (fun c3 => ?_)
    · replace h := fb_it c3 h
      refine lv_iconst (v := 0) hx hb dX0_isFigure_16 (by decide) ?_
      have h := Option.some.inj h
      subst h
      exact W.zret (ty := .boolean) hx hb hr rfl (fun t ht _ => ⟨rfl, ht⟩) (fun q hq => absurd hq List.not_mem_nil) dX0_isFigure_17
    · replace h := fb_ie c3 h
      refine lv_iconst (v := 1) hx hb dX0_isFigure_12 (by decide) ?_
      refine lv_goto (tgt := 17) hx hb dX0_isFigure_13 (by decide) ?_
      have h := Option.some.inj h
      subst h
      exact W.zret (ty := .boolean) hx hb hr rfl (fun t ht _ => ⟨rfl, ht⟩) (fun q hq => absurd hq List.not_mem_nil) dX0_isFigure_17
abbrev rmX0_isUpperVoice : Room := { frames := 0, cells := 0, slots := 0, locals := 0 }
set_option maxHeartbeats 8000000 in
set_option maxRecDepth 100000 in
theorem metX0_isUpperVoice (l : Launch) (B0 : Nat) (a1 : Int32) (ro : Int32) (h : fX0_isUpperVoice a1 = some ro) : Met l yX0_isUpperVoice wsX0_isUpperVoice rmX0_isUpperVoice (va_Pc [.int a1] (fb_os B0 fb_sX0)) (QcRead ro) 0 0 (fun _ => False) := by
  refine Met.ofW (cc := cX0_isUpperVoice) (maxL := 1) (ret := (some .boolean)) (by decide) rfl ?_
  intro p e s m args below meth c s₁ B hml hv
  obtain ⟨rfl, hZ⟩ := hv
  have hx := B.exec
  have hb := B.bytes
  have hr := B.returns
  have hts := atoms_spec (ws := wsX0_isUpperVoice) B.pre
  have hown : s.vm.findClass RX0 = some m.cls := findClass_of_methodNamed B.named
  have hlocks := B.notSynchronized
  have hAB : ∀ q : Nat, (fun q => B0 ≤ q) q → B0 ≤ q := fun _ h9 => h9
  have hS : va_S (fun q => B0 ≤ q) s.heap s.heap [] := va_S.rf
  have hl := lv_entry ([.int a1]) (n := 1) (Nat.le_of_ble_eq_true rfl)
  rw [lg_entry_eq]
  generalize (lg_sl ([.int a1]) ++ List.replicate (1 - (lg_sl ([.int a1])).length) Slot.unset).toArray = ls at hl ⊢
  have hl : lv_has ls 1 [(0, .int a1)] := hl
  unfold fX0_isUpperVoice at h
  refine lv_iload_n hx hb dX0_isUpperVoice_0 rfl (lv_at hl 0 rfl) ?_
  refine lv_iconst (v := 1) hx hb dX0_isUpperVoice_1 (by decide) ?_
  refine lv_icmp_lt (tgt := 14) hx hb dX0_isUpperVoice_2 (by decide) (fun c1 => ?_) (fun c1 => ?_)
  · replace h := fb_it c1 h
    refine lv_iconst (v := 0) hx hb dX0_isUpperVoice_14 (by decide) ?_
    have h := Option.some.inj h
    subst h
    exact W.zret (ty := .boolean) hx hb hr rfl (fun t ht _ => ⟨rfl, ht⟩) (fun q hq => absurd hq List.not_mem_nil) dX0_isUpperVoice_15
  · replace h := fb_ie c1 h
    refine lv_iload_n hx hb dX0_isUpperVoice_5 rfl (lv_at hl 0 rfl) ?_
    refine lv_iconst (v := 3) hx hb dX0_isUpperVoice_6 (by decide) ?_
    refine lv_icmp_gt (tgt := 14) hx hb dX0_isUpperVoice_7 (by decide) (fun c3 => ?_) (fun c3 => ?_)
    · replace h := fb_it c3 h
      refine lv_iconst (v := 0) hx hb dX0_isUpperVoice_14 (by decide) ?_
      have h := Option.some.inj h
      subst h
      exact W.zret (ty := .boolean) hx hb hr rfl (fun t ht _ => ⟨rfl, ht⟩) (fun q hq => absurd hq List.not_mem_nil) dX0_isUpperVoice_15
    · replace h := fb_ie c3 h
      refine lv_iconst (v := 1) hx hb dX0_isUpperVoice_10 (by decide) ?_
      refine lv_goto (tgt := 15) hx hb dX0_isUpperVoice_11 (by decide) ?_
      have h := Option.some.inj h
      subst h
      exact W.zret (ty := .boolean) hx hb hr rfl (fun t ht _ => ⟨rfl, ht⟩) (fun q hq => absurd hq List.not_mem_nil) dX0_isUpperVoice_15
abbrev rmX0_isFault : Room := { frames := 0, cells := 0, slots := 0, locals := 0 }
set_option maxHeartbeats 8000000 in
set_option maxRecDepth 100000 in
theorem metX0_isFault (l : Launch) (B0 : Nat) (a1 : Int32) (ro : Int32) (h : fX0_isFault a1 = some ro) : Met l yX0_isFault wsX0_isFault rmX0_isFault (va_Pc [.int a1] (fb_os B0 fb_sX0)) (QcRead ro) 0 0 (fun _ => False) := by
  refine Met.ofW (cc := cX0_isFault) (maxL := 1) (ret := (some .boolean)) (by decide) rfl ?_
  intro p e s m args below meth c s₁ B hml hv
  obtain ⟨rfl, hZ⟩ := hv
  have hx := B.exec
  have hb := B.bytes
  have hr := B.returns
  have hts := atoms_spec (ws := wsX0_isFault) B.pre
  have hown : s.vm.findClass RX0 = some m.cls := findClass_of_methodNamed B.named
  have hlocks := B.notSynchronized
  have hAB : ∀ q : Nat, (fun q => B0 ≤ q) q → B0 ≤ q := fun _ h9 => h9
  have hS : va_S (fun q => B0 ≤ q) s.heap s.heap [] := va_S.rf
  have hl := lv_entry ([.int a1]) (n := 1) (Nat.le_of_ble_eq_true rfl)
  rw [lg_entry_eq]
  generalize (lg_sl ([.int a1]) ++ List.replicate (1 - (lg_sl ([.int a1])).length) Slot.unset).toArray = ls at hl ⊢
  have hl : lv_has ls 1 [(0, .int a1)] := hl
  unfold fX0_isFault at h
  refine lv_iload_n hx hb dX0_isFault_0 rfl (lv_at hl 0 rfl) ?_
  refine lv_if_lt (tgt := 14) hx hb dX0_isFault_1 (by decide) (fun c1 => ?_) (fun c1 => ?_)
  · replace h := fb_it c1 h
    refine lv_iconst (v := 0) hx hb dX0_isFault_14 (by decide) ?_
    have h := Option.some.inj h
    subst h
    exact W.zret (ty := .boolean) hx hb hr rfl (fun t ht _ => ⟨rfl, ht⟩) (fun q hq => absurd hq List.not_mem_nil) dX0_isFault_15
  · replace h := fb_ie c1 h
    refine lv_iload_n hx hb dX0_isFault_4 rfl (lv_at hl 0 rfl) ?_
    refine lv_bipush (v := 8) hx hb dX0_isFault_5 (by decide) ?_
    refine lv_icmp_ge (tgt := 14) hx hb dX0_isFault_7 (by decide) (fun c3 => ?_) (fun c3 => ?_)
    · replace h := fb_it c3 h
      refine lv_iconst (v := 0) hx hb dX0_isFault_14 (by decide) ?_
      have h := Option.some.inj h
      subst h
      exact W.zret (ty := .boolean) hx hb hr rfl (fun t ht _ => ⟨rfl, ht⟩) (fun q hq => absurd hq List.not_mem_nil) dX0_isFault_15
    · replace h := fb_ie c3 h
      refine lv_iconst (v := 1) hx hb dX0_isFault_10 (by decide) ?_
      refine lv_goto (tgt := 15) hx hb dX0_isFault_11 (by decide) ?_
      have h := Option.some.inj h
      subst h
      exact W.zret (ty := .boolean) hx hb hr rfl (fun t ht _ => ⟨rfl, ht⟩) (fun q hq => absurd hq List.not_mem_nil) dX0_isFault_15
abbrev rmX0_isNote : Room := { frames := 0, cells := 0, slots := 0, locals := 0 }
set_option maxHeartbeats 8000000 in
set_option maxRecDepth 100000 in
theorem metX0_isNote (l : Launch) (B0 : Nat) (a1 : Int32) (ro : Int32) (h : fX0_isNote a1 = some ro) : Met l yX0_isNote wsX0_isNote rmX0_isNote (va_Pc [.int a1] (fb_os B0 fb_sX0)) (QcRead ro) 0 0 (fun _ => False) := by
  refine Met.ofW (cc := cX0_isNote) (maxL := 1) (ret := (some .boolean)) (by decide) rfl ?_
  intro p e s m args below meth c s₁ B hml hv
  obtain ⟨rfl, hZ⟩ := hv
  have hx := B.exec
  have hb := B.bytes
  have hr := B.returns
  have hts := atoms_spec (ws := wsX0_isNote) B.pre
  have hown : s.vm.findClass RX0 = some m.cls := findClass_of_methodNamed B.named
  have hlocks := B.notSynchronized
  have hAB : ∀ q : Nat, (fun q => B0 ≤ q) q → B0 ≤ q := fun _ h9 => h9
  have hS : va_S (fun q => B0 ≤ q) s.heap s.heap [] := va_S.rf
  have hl := lv_entry ([.int a1]) (n := 1) (Nat.le_of_ble_eq_true rfl)
  rw [lg_entry_eq]
  generalize (lg_sl ([.int a1]) ++ List.replicate (1 - (lg_sl ([.int a1])).length) Slot.unset).toArray = ls at hl ⊢
  have hl : lv_has ls 1 [(0, .int a1)] := hl
  unfold fX0_isNote at h
  refine lv_iload_n hx hb dX0_isNote_0 rfl (lv_at hl 0 rfl) ?_
  refine lv_if_lt (tgt := 14) hx hb dX0_isNote_1 (by decide) (fun c1 => ?_) (fun c1 => ?_)
  · replace h := fb_it c1 h
    refine lv_iconst (v := 0) hx hb dX0_isNote_14 (by decide) ?_
    have h := Option.some.inj h
    subst h
    exact W.zret (ty := .boolean) hx hb hr rfl (fun t ht _ => ⟨rfl, ht⟩) (fun q hq => absurd hq List.not_mem_nil) dX0_isNote_15
  · replace h := fb_ie c1 h
    refine lv_iload_n hx hb dX0_isNote_4 rfl (lv_at hl 0 rfl) ?_
    refine lv_bipush (v := 28) hx hb dX0_isNote_5 (by decide) ?_
    refine lv_icmp_ge (tgt := 14) hx hb dX0_isNote_7 (by decide) (fun c3 => ?_) (fun c3 => ?_)
    · replace h := fb_it c3 h
      refine lv_iconst (v := 0) hx hb dX0_isNote_14 (by decide) ?_
      have h := Option.some.inj h
      subst h
      exact W.zret (ty := .boolean) hx hb hr rfl (fun t ht _ => ⟨rfl, ht⟩) (fun q hq => absurd hq List.not_mem_nil) dX0_isNote_15
    · replace h := fb_ie c3 h
      refine lv_iconst (v := 1) hx hb dX0_isNote_10 (by decide) ?_
      refine lv_goto (tgt := 15) hx hb dX0_isNote_11 (by decide) ?_
      have h := Option.some.inj h
      subst h
      exact W.zret (ty := .boolean) hx hb hr rfl (fun t ht _ => ⟨rfl, ht⟩) (fun q hq => absurd hq List.not_mem_nil) dX0_isNote_15
abbrev rmX0_stepAbove : Room := { frames := 0, cells := 0, slots := 0, locals := 0 }
set_option maxHeartbeats 8000000 in
set_option maxRecDepth 100000 in
theorem metX0_stepAbove (l : Launch) (B0 : Nat) (a1 : Int32) (a2 : Int32) (ro : Int32) (h : fX0_stepAbove a1 a2 = some ro) : Met l yX0_stepAbove wsX0_stepAbove rmX0_stepAbove (va_Pc [.int a1, .int a2] (fb_os B0 fb_sX0)) (QcRead ro) 0 0 (fun _ => False) := by
  refine Met.ofW (cc := cX0_stepAbove) (maxL := 3) (ret := (some .int)) (by decide) rfl ?_
  intro p e s m args below meth c s₁ B hml hv
  obtain ⟨rfl, hZ⟩ := hv
  have hx := B.exec
  have hb := B.bytes
  have hr := B.returns
  have hts := atoms_spec (ws := wsX0_stepAbove) B.pre
  have hown : s.vm.findClass RX0 = some m.cls := findClass_of_methodNamed B.named
  have hlocks := B.notSynchronized
  have hAB : ∀ q : Nat, (fun q => B0 ≤ q) q → B0 ≤ q := fun _ h9 => h9
  have hS : va_S (fun q => B0 ≤ q) s.heap s.heap [] := va_S.rf
  have hl := lv_entry ([.int a1, .int a2]) (n := 3) (Nat.le_of_ble_eq_true rfl)
  rw [lg_entry_eq]
  generalize (lg_sl ([.int a1, .int a2]) ++ List.replicate (3 - (lg_sl ([.int a1, .int a2])).length) Slot.unset).toArray = ls at hl ⊢
  have hl : lv_has ls 3 [(0, .int a1), (1, .int a2)] := hl
  unfold fX0_stepAbove at h
  refine lv_iload_n hx hb dX0_stepAbove_0 rfl (lv_at hl 1 rfl) ?_
  refine lv_iload_n hx hb dX0_stepAbove_1 rfl (lv_at hl 0 rfl) ?_
  refine lv_isub hx hb dX0_stepAbove_2 ?_
  refine lv_bipush (v := 7) hx hb dX0_stepAbove_3 (by decide) ?_
  refine lv_irem hx hb dX0_stepAbove_5 (by decide) ?_
  refine lv_istore_n (lv' := [(2, .int ((a2 - a1) - (a2 - a1) / 7 * 7)), (0, .int a1), (1, .int a2)]) hx hb dX0_stepAbove_6 rfl hl (by decide) rfl (fun ls hl => ?_)
  refine lv_iload_n hx hb dX0_stepAbove_7 rfl (lv_at hl 0 rfl) ?_
  refine lv_if_ge (tgt := 18) hx hb dX0_stepAbove_8 (by decide) (fun c1 => ?_) (fun c1 => ?_)
  · replace h := fb_it c1 h
    refine lv_iload_n hx hb dX0_stepAbove_18 rfl (lv_at hl 0 rfl) ?_
    have h := Option.some.inj h
    subst h
    exact W.iret hx hb hr (fun t ht _ => ⟨rfl, ht⟩) (fun q hq => absurd hq List.not_mem_nil) dX0_stepAbove_19
  · replace h := fb_ie c1 h
    refine lv_iload_n hx hb dX0_stepAbove_11 rfl (lv_at hl 0 rfl) ?_
    refine lv_bipush (v := 7) hx hb dX0_stepAbove_12 (by decide) ?_
    refine lv_iadd hx hb dX0_stepAbove_14 ?_
    refine lv_goto (tgt := 19) hx hb dX0_stepAbove_15 (by decide) ?_
    have h := Option.some.inj h
    subst h
    exact W.iret hx hb hr (fun t ht _ => ⟨rfl, ht⟩) (fun q hq => absurd hq List.not_mem_nil) dX0_stepAbove_19
abbrev rmX0_isChord : Room := { frames := 0, cells := 0, slots := 0, locals := 0 }
set_option maxHeartbeats 8000000 in
set_option maxRecDepth 100000 in
theorem metX0_isChord (l : Launch) (D : va_G) (cI : ClassId) (h0 qf qn qw ql B0 : Nat) (sz : Int32) (mi : Int32) (fg : Nat → Int32) (nt : Nat → Int32) (wt : Nat → Int32) (wl : Nat → Int32) (a1 : Int32) (ro : Int32) (h : fX0_isChord sz mi fg nt wt wl a1 = some ro) : Met l yX0_isChord wsX0_isChord rmX0_isChord (va_Pc [.ref h0, .int a1] (fb_ok D [(cI, .int)] B0 fb_sX0 (fb_wX0 cI h0 qf qn qw ql sz mi fg nt wt wl))) (QcRead ro) 0 0 (fun _ => False) := by
  refine Met.ofW (cc := cX0_isChord) (maxL := 2) (ret := (some .boolean)) (by decide) rfl ?_
  intro p e s m args below meth c s₁ B hml hv
  obtain ⟨rfl, hP, hK, hZ⟩ := hv
  have hx := B.exec
  have hb := B.bytes
  have hr := B.returns
  have hts := atoms_spec (ws := wsX0_isChord) B.pre
  have hown : s.vm.findClass RX0 = some m.cls := findClass_of_methodNamed B.named
  have hlocks := B.notSynchronized
  have hAB : ∀ q : Nat, (fun q => B0 ≤ q) q → B0 ≤ q := fun _ h9 => h9
  have hS : va_S (fun q => B0 ≤ q) s.heap s.heap [] := va_S.rf
  have hin0 : ∀ w ∈ u_ws RX0 TX0 6, w ∈ wsX0_isChord := fun _ h9 => List.mem_cons_of_mem _ (List.mem_append_right _ (h9))
  have w_f7 : (Cond.fieldLink RX0 7 "FiguredBass" "size" "I") ∈ wsX0_isChord := List.mem_of_getElem? (i := 1) rfl
  have hl := lv_entry ([.ref h0, .int a1]) (n := 2) (Nat.le_of_ble_eq_true rfl)
  rw [lg_entry_eq]
  generalize (lg_sl ([.ref h0, .int a1]) ++ List.replicate (2 - (lg_sl ([.ref h0, .int a1])).length) Slot.unset).toArray = ls at hl ⊢
  have hl : lv_has ls 2 [(0, .ref h0), (1, .int a1)] := hl
  unfold fX0_isChord at h
  refine lv_iload_n hx hb dX0_isChord_0 rfl (lv_at hl 1 rfl) ?_
  refine lv_if_lt (tgt := 16) hx hb dX0_isChord_1 (by decide) (fun c1 => ?_) (fun c1 => ?_)
  · replace h := fb_it c1 h
    refine lv_iconst (v := 0) hx hb dX0_isChord_16 (by decide) ?_
    have h := Option.some.inj h
    subst h
    exact W.zret (ty := .boolean) hx hb hr rfl (fun t ht _ => ⟨rfl, ht⟩) (fun q hq => absurd hq List.not_mem_nil) dX0_isChord_17
  · replace h := fb_ie c1 h
    refine lv_iload_n hx hb dX0_isChord_4 rfl (lv_at hl 1 rfl) ?_
    refine lv_aload_n hx hb dX0_isChord_5 rfl (lv_at hl 0 rfl) ?_
    refine va_get (D := D) (ci := 0) (v := .int sz) (C := RX0) (T := TX0) (N := 6) hx hb hts hin0 hown hK hP 0 rfl rfl 0 (by decide) (hts _ w_f7) (fun _ h9 => h9) rfl dX0_isChord_6 ?_
    refine lv_icmp_ge (tgt := 16) hx hb dX0_isChord_9 (by decide) (fun c3 => ?_) (fun c3 => ?_)
    · replace h := fb_it c3 h
      refine lv_iconst (v := 0) hx hb dX0_isChord_16 (by decide) ?_
      have h := Option.some.inj h
      subst h
      exact W.zret (ty := .boolean) hx hb hr rfl (fun t ht _ => ⟨rfl, ht⟩) (fun q hq => absurd hq List.not_mem_nil) dX0_isChord_17
    · replace h := fb_ie c3 h
      refine lv_iconst (v := 1) hx hb dX0_isChord_12 (by decide) ?_
      refine lv_goto (tgt := 17) hx hb dX0_isChord_13 (by decide) ?_
      have h := Option.some.inj h
      subst h
      exact W.zret (ty := .boolean) hx hb hr rfl (fun t ht _ => ⟨rfl, ht⟩) (fun q hq => absurd hq List.not_mem_nil) dX0_isChord_17
abbrev rmX0_noteAt : Room := { frames := 0, cells := 0, slots := 0, locals := 0 }
set_option maxHeartbeats 8000000 in
set_option maxRecDepth 100000 in
theorem metX0_noteAt (l : Launch) (D : va_G) (cI : ClassId) (h0 qf qn qw ql B0 : Nat) (sz : Int32) (mi : Int32) (fg : Nat → Int32) (nt : Nat → Int32) (wt : Nat → Int32) (wl : Nat → Int32) (a1 : Int32) (a2 : Int32) (ro : Int32) (h : fX0_noteAt sz mi fg nt wt wl a1 a2 = some ro) : Met l yX0_noteAt wsX0_noteAt rmX0_noteAt (va_Pc [.ref h0, .int a1, .int a2] (fb_ok D [(cI, .int)] B0 fb_sX0 (fb_wX0 cI h0 qf qn qw ql sz mi fg nt wt wl))) (QcRead ro) 0 0 (fun _ => False) := by
  refine Met.ofW (cc := cX0_noteAt) (maxL := 3) (ret := (some .int)) (by decide) rfl ?_
  intro p e s m args below meth c s₁ B hml hv
  obtain ⟨rfl, hP, hK, hZ⟩ := hv
  have hx := B.exec
  have hb := B.bytes
  have hr := B.returns
  have hts := atoms_spec (ws := wsX0_noteAt) B.pre
  have hown : s.vm.findClass RX0 = some m.cls := findClass_of_methodNamed B.named
  have hlocks := B.notSynchronized
  have hAB : ∀ q : Nat, (fun q => B0 ≤ q) q → B0 ≤ q := fun _ h9 => h9
  have hS : va_S (fun q => B0 ≤ q) s.heap s.heap [] := va_S.rf
  have hin0 : ∀ w ∈ u_ws RX0 TX0 6, w ∈ wsX0_noteAt := fun _ h9 => List.mem_cons_of_mem _ (List.mem_append_right _ (h9))
  have w_f21 : (Cond.fieldLink RX0 21 "FiguredBass" "notes" "[I") ∈ wsX0_noteAt := List.mem_of_getElem? (i := 1) rfl
  have hl := lv_entry ([.ref h0, .int a1, .int a2]) (n := 3) (Nat.le_of_ble_eq_true rfl)
  rw [lg_entry_eq]
  generalize (lg_sl ([.ref h0, .int a1, .int a2]) ++ List.replicate (3 - (lg_sl ([.ref h0, .int a1, .int a2])).length) Slot.unset).toArray = ls at hl ⊢
  have hl : lv_has ls 3 [(0, .ref h0), (1, .int a1), (2, .int a2)] := hl
  unfold fX0_noteAt at h
  refine lv_aload_n hx hb dX0_noteAt_0 rfl (lv_at hl 0 rfl) ?_
  refine va_get (D := D) (ci := 0) (v := .ref qn) (C := RX0) (T := TX0) (N := 6) hx hb hts hin0 hown hK hP 0 rfl rfl 3 (by decide) (hts _ w_f21) (fun _ h9 => h9) rfl dX0_noteAt_1 ?_
  refine lv_iload_n hx hb dX0_noteAt_4 rfl (lv_at hl 1 rfl) ?_
  refine lv_iconst (v := 4) hx hb dX0_noteAt_5 (by decide) ?_
  refine lv_imul hx hb dX0_noteAt_6 ?_
  refine lv_iload_n hx hb dX0_noteAt_7 rfl (lv_at hl 2 rfl) ?_
  refine lv_iadd hx hb dX0_noteAt_8 ?_
  obtain ⟨hi1, h⟩ := fb_cks h
  refine va_iald hx hb hK hP 2 0 rfl rfl (fb_ixin hi1) dX0_noteAt_9 ?_
  have h := Option.some.inj h
  subst h
  exact W.iret hx hb hr (fun t ht _ => ⟨rfl, ht⟩) (fun q hq => absurd hq List.not_mem_nil) dX0_noteAt_10
abbrev rmX0_exchangeNote : Room := { frames := 0, cells := 0, slots := 0, locals := 0 }
set_option maxHeartbeats 8000000 in
set_option maxRecDepth 100000 in
theorem metX0_exchangeNote (l : Launch) (D : va_G) (cI : ClassId) (h0 qf qn qw ql B0 : Nat) (sz : Int32) (mi : Int32) (fg : Nat → Int32) (nt : Nat → Int32) (wt : Nat → Int32) (wl : Nat → Int32) (a1 : Int32) (a2 : Int32) (a3 : Int32) (hz : Nat) (ro : Int32) (nto : Nat → Int32) (h : fX0_exchangeNote sz mi fg nt wt wl a1 a2 a3 = some (ro, nto)) : Met l yX0_exchangeNote wsX0_exchangeNote rmX0_exchangeNote (va_Pc [.ref h0, .int a1, .int a2, .int a3] (fb_pm D [(cI, .int)] B0 fb_sX0 (fb_wX0 cI h0 qf qn qw ql sz mi fg nt wt wl) hz)) (fb_qM (fun q => some (.int ro)) (fun q => fb_wX0 cI h0 qf qn qw ql sz mi fg nto wt wl) D (va_A (fb_wX0 cI h0 qf qn qw ql sz mi fg nt wt wl) hz)) 0 0 (va_A (fb_wX0 cI h0 qf qn qw ql sz mi fg nt wt wl) hz) := by
  refine Met.ofW (cc := cX0_exchangeNote) (maxL := 5) (ret := (some .int)) (by decide) rfl ?_
  intro p e s m args below meth c s₁ B hml hv
  obtain ⟨rfl, hsz, ⟨hP, hK, hZ⟩, hD0, hAB⟩ := hv
  have hx := B.exec
  have hb := B.bytes
  have hr := B.returns
  have hts := atoms_spec (ws := wsX0_exchangeNote) B.pre
  have hown : s.vm.findClass RX0 = some m.cls := findClass_of_methodNamed B.named
  have hlocks := B.notSynchronized
  subst hsz
  have hD := hD0.self (sz := s.heap.size)
  generalize hAe : va_A (fb_wX0 cI h0 qf qn qw ql sz mi fg nt wt wl) s.heap.size = A at hD hAB ⊢
  have hA : ∀ q : Nat, s.heap.size ≤ q → A q := fun q h9 => by rw [← hAe]; exact Or.inr h9
  have hS : va_S A s.heap s.heap [] := va_S.rf
  have hP : va_P D vwCl (fb_wX0 cI h0 qf qn qw ql sz mi fg nt wt wl) s.heap := hP
  have hin0 : ∀ w ∈ u_ws RX0 TX0 6, w ∈ wsX0_exchangeNote := fun _ h9 => List.mem_cons_of_mem _ (List.mem_append_right _ (h9))
  have w_f21 : (Cond.fieldLink RX0 21 "FiguredBass" "notes" "[I") ∈ wsX0_exchangeNote := List.mem_of_getElem? (i := 1) rfl
  have hl := lv_entry ([.ref h0, .int a1, .int a2, .int a3]) (n := 5) (Nat.le_of_ble_eq_true rfl)
  rw [lg_entry_eq]
  generalize (lg_sl ([.ref h0, .int a1, .int a2, .int a3]) ++ List.replicate (5 - (lg_sl ([.ref h0, .int a1, .int a2, .int a3])).length) Slot.unset).toArray = ls at hl ⊢
  have hl : lv_has ls 5 [(0, .ref h0), (1, .int a1), (2, .int a2), (3, .int a3)] := hl
  suffices K : ∀ (H : Heap) (locs : List Loc), va_P D vwCl (fb_wX0 cI h0 qf qn qw ql sz mi fg nt wt wl) H → va_S A s.heap H locs → W p l e (headSpec wsX0_exchangeNote rmX0_exchangeNote).room s m ([.ref h0, .int a1, .int a2, .int a3] : List Value).toArray below meth c H locs 0 0 (MQ below (fb_qM (fun q => some (.int ro)) (fun q => fb_wX0 cI h0 qf qn qw ql sz mi fg nto wt wl) D A) ([.ref h0, .int a1, .int a2, .int a3] : List Value).toArray s 0 0 A) (F0 m 0 ls []) from K s.heap [] hP hS
  intro H locs hP hS
  unfold fX0_exchangeNote at h
  refine lv_aload_n hx hb dX0_exchangeNote_0 rfl (lv_at hl 0 rfl) ?_
  refine va_get (D := D) (ci := 0) (v := .ref qn) (C := RX0) (T := TX0) (N := 6) hx hb hts hin0 hown hK hP 0 rfl rfl 3 (by decide) (hts _ w_f21) (fun _ h9 => h9) rfl dX0_exchangeNote_1 ?_
  refine lv_iload_n hx hb dX0_exchangeNote_4 rfl (lv_at hl 1 rfl) ?_
  refine lv_iconst (v := 4) hx hb dX0_exchangeNote_5 (by decide) ?_
  refine lv_imul hx hb dX0_exchangeNote_6 ?_
  refine lv_iload_n hx hb dX0_exchangeNote_7 rfl (lv_at hl 2 rfl) ?_
  refine lv_iadd hx hb dX0_exchangeNote_8 ?_
  obtain ⟨hi1, h⟩ := fb_cks h
  refine va_iald hx hb hK hP 2 0 rfl rfl (fb_ixin hi1) dX0_exchangeNote_9 ?_
  refine lv_istore (lv' := [(4, .int (nt ((a1 * 4) + a2).toNatClampNeg)), (0, .ref h0), (1, .int a1), (2, .int a2), (3, .int a3)]) hx hb dX0_exchangeNote_10 hl (by decide) rfl (fun ls hl => ?_)
  refine lv_aload_n hx hb dX0_exchangeNote_12 rfl (lv_at hl 1 rfl) ?_
  refine va_get (D := D) (ci := 0) (v := .ref qn) (C := RX0) (T := TX0) (N := 6) hx hb hts hin0 hown hK hP 0 rfl rfl 3 (by decide) (hts _ w_f21) (fun _ h9 => h9) rfl dX0_exchangeNote_13 ?_
  refine lv_iload_n hx hb dX0_exchangeNote_16 rfl (lv_at hl 2 rfl) ?_
  refine lv_iconst (v := 4) hx hb dX0_exchangeNote_17 (by decide) ?_
  refine lv_imul hx hb dX0_exchangeNote_18 ?_
  refine lv_iload_n hx hb dX0_exchangeNote_19 rfl (lv_at hl 3 rfl) ?_
  refine lv_iadd hx hb dX0_exchangeNote_20 ?_
  refine lv_iload_n hx hb dX0_exchangeNote_21 rfl (lv_at hl 4 rfl) ?_
  refine va_iast hx hb hK hP hD hS 2 0 rfl rfl (fb_ixin hi1) dX0_exchangeNote_22 (fun H locs hP hD hS => ?_)
  have hP : va_P D vwCl (fb_wX0 cI h0 qf qn qw ql sz mi fg (upd nt ((a1 * 4) + a2).toNatClampNeg a3) wt wl) H := hP
  have hD : va_D A (fb_wX0 cI h0 qf qn qw ql sz mi fg (upd nt ((a1 * 4) + a2).toNatClampNeg a3) wt wl) := hD
  refine lv_iload hx hb dX0_exchangeNote_23 (lv_at hl 0 rfl) ?_
  obtain ⟨e1, e2⟩ := fb_p2 h
  subst e1
  subst e2
  exact W.iret hx hb hr (fun t ht _ => ⟨⟨0, rfl, by rw [ht]; exact hP, hD⟩, hS.F ht⟩) hS.2.2 dX0_exchangeNote_25
abbrev rmX0_putNotes : Room := { frames := 0, cells := 0, slots := 0, locals := 0 }
set_option maxHeartbeats 8000000 in
set_option maxRecDepth 100000 in
theorem metX0_putNotes (l : Launch) (D : va_G) (cI : ClassId) (h0 qf qn qw ql B0 : Nat) (sz : Int32) (mi : Int32) (fg : Nat → Int32) (nt : Nat → Int32) (wt : Nat → Int32) (wl : Nat → Int32) (a1 : Int32) (a2 : Int32) (a3 : Int32) (a4 : Int32) (hz : Nat) (nto : Nat → Int32) (h : fX0_putNotes sz mi fg nt wt wl a1 a2 a3 a4 = some nto) : Met l yX0_putNotes wsX0_putNotes rmX0_putNotes (va_Pc [.ref h0, .int a1, .int a2, .int a3, .int a4] (fb_pm D [(cI, .int)] B0 fb_sX0 (fb_wX0 cI h0 qf qn qw ql sz mi fg nt wt wl) hz)) (fb_qM (fun q => none) (fun q => fb_wX0 cI h0 qf qn qw ql sz mi fg nto wt wl) D (va_A (fb_wX0 cI h0 qf qn qw ql sz mi fg nt wt wl) hz)) 0 0 (va_A (fb_wX0 cI h0 qf qn qw ql sz mi fg nt wt wl) hz) := by
  refine Met.ofW (cc := cX0_putNotes) (maxL := 5) (ret := none) (by decide) rfl ?_
  intro p e s m args below meth c s₁ B hml hv
  obtain ⟨rfl, hsz, ⟨hP, hK, hZ⟩, hD0, hAB⟩ := hv
  have hx := B.exec
  have hb := B.bytes
  have hr := B.returns
  have hts := atoms_spec (ws := wsX0_putNotes) B.pre
  have hown : s.vm.findClass RX0 = some m.cls := findClass_of_methodNamed B.named
  have hlocks := B.notSynchronized
  subst hsz
  have hD := hD0.self (sz := s.heap.size)
  generalize hAe : va_A (fb_wX0 cI h0 qf qn qw ql sz mi fg nt wt wl) s.heap.size = A at hD hAB ⊢
  have hA : ∀ q : Nat, s.heap.size ≤ q → A q := fun q h9 => by rw [← hAe]; exact Or.inr h9
  have hS : va_S A s.heap s.heap [] := va_S.rf
  have hP : va_P D vwCl (fb_wX0 cI h0 qf qn qw ql sz mi fg nt wt wl) s.heap := hP
  have hin0 : ∀ w ∈ u_ws RX0 TX0 6, w ∈ wsX0_putNotes := fun _ h9 => List.mem_cons_of_mem _ (List.mem_append_right _ (h9))
  have w_f21 : (Cond.fieldLink RX0 21 "FiguredBass" "notes" "[I") ∈ wsX0_putNotes := List.mem_of_getElem? (i := 1) rfl
  have hl := lv_entry ([.ref h0, .int a1, .int a2, .int a3, .int a4]) (n := 5) (Nat.le_of_ble_eq_true rfl)
  rw [lg_entry_eq]
  generalize (lg_sl ([.ref h0, .int a1, .int a2, .int a3, .int a4]) ++ List.replicate (5 - (lg_sl ([.ref h0, .int a1, .int a2, .int a3, .int a4])).length) Slot.unset).toArray = ls at hl ⊢
  have hl : lv_has ls 5 [(0, .ref h0), (1, .int a1), (2, .int a2), (3, .int a3), (4, .int a4)] := hl
  suffices K : ∀ (H : Heap) (locs : List Loc), va_P D vwCl (fb_wX0 cI h0 qf qn qw ql sz mi fg nt wt wl) H → va_S A s.heap H locs → W p l e (headSpec wsX0_putNotes rmX0_putNotes).room s m ([.ref h0, .int a1, .int a2, .int a3, .int a4] : List Value).toArray below meth c H locs 0 0 (MQ below (fb_qM (fun q => none) (fun q => fb_wX0 cI h0 qf qn qw ql sz mi fg nto wt wl) D A) ([.ref h0, .int a1, .int a2, .int a3, .int a4] : List Value).toArray s 0 0 A) (F0 m 0 ls []) from K s.heap [] hP hS
  intro H locs hP hS
  unfold fX0_putNotes at h
  refine lv_aload_n hx hb dX0_putNotes_0 rfl (lv_at hl 0 rfl) ?_
  refine va_get (D := D) (ci := 0) (v := .ref qn) (C := RX0) (T := TX0) (N := 6) hx hb hts hin0 hown hK hP 0 rfl rfl 3 (by decide) (hts _ w_f21) (fun _ h9 => h9) rfl dX0_putNotes_1 ?_
  refine lv_iload_n hx hb dX0_putNotes_4 rfl (lv_at hl 1 rfl) ?_
  refine lv_iconst (v := 4) hx hb dX0_putNotes_5 (by decide) ?_
  refine lv_imul hx hb dX0_putNotes_6 ?_
  refine lv_iconst (v := 1) hx hb dX0_putNotes_7 (by decide) ?_
  refine lv_iadd hx hb dX0_putNotes_8 ?_
  refine lv_iload_n hx hb dX0_putNotes_9 rfl (lv_at hl 2 rfl) ?_
  obtain ⟨hi1, h⟩ := fb_cks h
  refine va_iast hx hb hK hP hD hS 2 0 rfl rfl (fb_ixin hi1) dX0_putNotes_10 (fun H locs hP hD hS => ?_)
  have hP : va_P D vwCl (fb_wX0 cI h0 qf qn qw ql sz mi fg (upd nt ((a1 * 4) + 1).toNatClampNeg a2) wt wl) H := hP
  have hD : va_D A (fb_wX0 cI h0 qf qn qw ql sz mi fg (upd nt ((a1 * 4) + 1).toNatClampNeg a2) wt wl) := hD
  refine lv_aload_n hx hb dX0_putNotes_11 rfl (lv_at hl 0 rfl) ?_
  refine va_get (D := D) (ci := 0) (v := .ref qn) (C := RX0) (T := TX0) (N := 6) hx hb hts hin0 hown hK hP 0 rfl rfl 3 (by decide) (hts _ w_f21) (fun _ h9 => h9) rfl dX0_putNotes_12 ?_
  refine lv_iload_n hx hb dX0_putNotes_15 rfl (lv_at hl 1 rfl) ?_
  refine lv_iconst (v := 4) hx hb dX0_putNotes_16 (by decide) ?_
  refine lv_imul hx hb dX0_putNotes_17 ?_
  refine lv_iconst (v := 2) hx hb dX0_putNotes_18 (by decide) ?_
  refine lv_iadd hx hb dX0_putNotes_19 ?_
  refine lv_iload_n hx hb dX0_putNotes_20 rfl (lv_at hl 3 rfl) ?_
  obtain ⟨hi2, h⟩ := fb_cks h
  refine va_iast hx hb hK hP hD hS 2 0 rfl rfl (fb_ixin hi2) dX0_putNotes_21 (fun H locs hP hD hS => ?_)
  have hP : va_P D vwCl (fb_wX0 cI h0 qf qn qw ql sz mi fg (upd (upd nt ((a1 * 4) + 1).toNatClampNeg a2) ((a1 * 4) + 2).toNatClampNeg a3) wt wl) H := hP
  have hD : va_D A (fb_wX0 cI h0 qf qn qw ql sz mi fg (upd (upd nt ((a1 * 4) + 1).toNatClampNeg a2) ((a1 * 4) + 2).toNatClampNeg a3) wt wl) := hD
  refine lv_aload_n hx hb dX0_putNotes_22 rfl (lv_at hl 0 rfl) ?_
  refine va_get (D := D) (ci := 0) (v := .ref qn) (C := RX0) (T := TX0) (N := 6) hx hb hts hin0 hown hK hP 0 rfl rfl 3 (by decide) (hts _ w_f21) (fun _ h9 => h9) rfl dX0_putNotes_23 ?_
  refine lv_iload_n hx hb dX0_putNotes_26 rfl (lv_at hl 1 rfl) ?_
  refine lv_iconst (v := 4) hx hb dX0_putNotes_27 (by decide) ?_
  refine lv_imul hx hb dX0_putNotes_28 ?_
  refine lv_iconst (v := 3) hx hb dX0_putNotes_29 (by decide) ?_
  refine lv_iadd hx hb dX0_putNotes_30 ?_
  refine lv_iload hx hb dX0_putNotes_31 (lv_at hl 4 rfl) ?_
  obtain ⟨hi3, h⟩ := fb_cks h
  refine va_iast hx hb hK hP hD hS 2 0 rfl rfl (fb_ixin hi3) dX0_putNotes_33 (fun H locs hP hD hS => ?_)
  have hP : va_P D vwCl (fb_wX0 cI h0 qf qn qw ql sz mi fg (upd (upd (upd nt ((a1 * 4) + 1).toNatClampNeg a2) ((a1 * 4) + 2).toNatClampNeg a3) ((a1 * 4) + 3).toNatClampNeg a4) wt wl) H := hP
  have hD : va_D A (fb_wX0 cI h0 qf qn qw ql sz mi fg (upd (upd (upd nt ((a1 * 4) + 1).toNatClampNeg a2) ((a1 * 4) + 2).toNatClampNeg a3) ((a1 * 4) + 3).toNatClampNeg a4) wt wl) := hD
  have h := Option.some.inj h
  subst h
  exact W.vret hx hb hr (fun t ht _ => ⟨⟨0, rfl, by rw [ht]; exact hP, hD⟩, hS.F ht⟩) hS.2.2 dX0_putNotes_34
abbrev rmX0_putWay : Room := { frames := 1, cells := 0, slots := 0, locals := 24 }
set_option maxHeartbeats 8000000 in
set_option maxRecDepth 100000 in
theorem metX0_putWay (l : Launch) (D : va_G) (cI : ClassId) (h0 qf qn qw ql B0 : Nat) (sz : Int32) (mi : Int32) (fg : Nat → Int32) (nt : Nat → Int32) (wt : Nat → Int32) (wl : Nat → Int32) (a1 : Int32) (a2 : Int32) (hz : Nat) (nto : Nat → Int32) (h : fX0_putWay sz mi fg nt wt wl a1 a2 = some nto) : Met l yX0_putWay wsX0_putWay rmX0_putWay (va_Pc [.ref h0, .int a1, .int a2] (fb_pm D [(cI, .int)] B0 fb_sX0 (fb_wX0 cI h0 qf qn qw ql sz mi fg nt wt wl) hz)) (fb_qM (fun q => none) (fun q => fb_wX0 cI h0 qf qn qw ql sz mi fg nto wt wl) D (va_A (fb_wX0 cI h0 qf qn qw ql sz mi fg nt wt wl) hz)) 0 0 (va_A (fb_wX0 cI h0 qf qn qw ql sz mi fg nt wt wl) hz) := by
  refine Met.ofW (cc := cX0_putWay) (maxL := 3) (ret := none) (by decide) rfl ?_
  intro p e s m args below meth c s₁ B hml hv
  obtain ⟨rfl, hsz, ⟨hP, hK, hZ⟩, hD0, hAB⟩ := hv
  have hx := B.exec
  have hb := B.bytes
  have hr := B.returns
  have hts := atoms_spec (ws := wsX0_putWay) B.pre
  have hown : s.vm.findClass RX0 = some m.cls := findClass_of_methodNamed B.named
  have hlocks := B.notSynchronized
  subst hsz
  have hD := hD0.self (sz := s.heap.size)
  generalize hAe : va_A (fb_wX0 cI h0 qf qn qw ql sz mi fg nt wt wl) s.heap.size = A at hD hAB ⊢
  have hA : ∀ q : Nat, s.heap.size ≤ q → A q := fun q h9 => by rw [← hAe]; exact Or.inr h9
  have hS : va_S A s.heap s.heap [] := va_S.rf
  have hP : va_P D vwCl (fb_wX0 cI h0 qf qn qw ql sz mi fg nt wt wl) s.heap := hP
  have hin0 : ∀ w ∈ u_ws RX0 TX0 6, w ∈ wsX0_putWay := fun _ h9 => List.mem_cons_of_mem _ (List.mem_append_right _ (h9))
  have hl := lv_entry ([.ref h0, .int a1, .int a2]) (n := 3) (Nat.le_of_ble_eq_true rfl)
  rw [lg_entry_eq]
  generalize (lg_sl ([.ref h0, .int a1, .int a2]) ++ List.replicate (3 - (lg_sl ([.ref h0, .int a1, .int a2])).length) Slot.unset).toArray = ls at hl ⊢
  have hl : lv_has ls 3 [(0, .ref h0), (1, .int a1), (2, .int a2)] := hl
  suffices K : ∀ (H : Heap) (locs : List Loc), va_P D vwCl (fb_wX0 cI h0 qf qn qw ql sz mi fg nt wt wl) H → va_S A s.heap H locs → W p l e (headSpec wsX0_putWay rmX0_putWay).room s m ([.ref h0, .int a1, .int a2] : List Value).toArray below meth c H locs 0 0 (MQ below (fb_qM (fun q => none) (fun q => fb_wX0 cI h0 qf qn qw ql sz mi fg nto wt wl) D A) ([.ref h0, .int a1, .int a2] : List Value).toArray s 0 0 A) (F0 m 0 ls []) from K s.heap [] hP hS
  intro H locs hP hS
  unfold fX0_putWay at h
  refine lv_aload_n hx hb dX0_putWay_0 rfl (lv_at hl 0 rfl) ?_
  refine lv_iload_n hx hb dX0_putWay_1 rfl (lv_at hl 1 rfl) ?_
  refine lv_iload_n hx hb dX0_putWay_2 rfl (lv_at hl 2 rfl) ?_
  refine lv_sipush (v := 784) hx hb dX0_putWay_3 (by decide) ?_
  refine lv_idiv hx hb dX0_putWay_6 (by decide) ?_
  refine lv_iload_n hx hb dX0_putWay_7 rfl (lv_at hl 2 rfl) ?_
  refine lv_bipush (v := 28) hx hb dX0_putWay_8 (by decide) ?_
  refine lv_idiv hx hb dX0_putWay_10 (by decide) ?_
  refine lv_bipush (v := 28) hx hb dX0_putWay_11 (by decide) ?_
  refine lv_irem hx hb dX0_putWay_13 (by decide) ?_
  refine lv_iload_n hx hb dX0_putWay_14 rfl (lv_at hl 2 rfl) ?_
  refine lv_bipush (v := 28) hx hb dX0_putWay_15 (by decide) ?_
  refine lv_irem hx hb dX0_putWay_17 (by decide) ?_
  obtain ⟨nt_2, h1, h⟩ := fb_b1s h
  have hPc : va_P D vwCl (fb_wX0 cI h0 qf qn qw ql sz mi fg nt wt wl) H := hP.sub [0, 1, 2, 3, 4] rfl
  have hDc : va_D A (fb_wX0 cI h0 qf qn qw ql sz mi fg nt wt wl) := hD.sub [0, 1, 2, 3, 4] (by decide) rfl
  have hFc := va_free (wc := fb_wX0 cI h0 qf qn qw ql sz mi fg nt wt wl) hD hS hA [0, 1, 2, 3, 4] rfl
  refine fb_callM (va_runV (As := [.int a1, .int (a2 / 784), .int ((a2 / 28) - (a2 / 28) / 28 * 28), .int (a2 - a2 / 28 * 28)]) (rest := []) ⟨hx, hb, hml, hown, hts⟩ (metX0_putNotes l D cI h0 qf qn qw ql B0 sz mi fg nt wt wl a1 (a2 / 784) ((a2 / 28) - (a2 / 28) / 28 * 28) (a2 - a2 / 28 * 28) H.size nt_2 h1) (cwV 4 hts gX0_putWay_X0_putNotes rfl rfl rfl (by decide +kernel) ⟨Nat.le_of_ble_eq_true rfl, Nat.le_of_ble_eq_true rfl⟩) (fb_preVM (ci := 0) fb_sX0p hPc hK hDc hZ hS hAB hA rfl rfl _) rfl rfl hl.1 rfl (lv_room (Nat.le_of_ble_eq_true rfl)) dX0_putWay_18 ⟨Nat.le_of_ble_eq_true rfl, Nat.le_of_ble_eq_true rfl⟩) hS (fun q _ h9 => hFc q h9) hFc (fun _ H1 locs hP1 hD1 hz1 hk1 hS => ?_)
  have hP : va_P D vwCl (fb_wX0 cI h0 qf qn qw ql sz mi fg nt_2 wt wl) H1 := hP1
  have hD : va_D A (fb_wX0 cI h0 qf qn qw ql sz mi fg nt_2 wt wl) := hD1.weaken (fun _ q _ h9 => hFc q.1 h9)
  generalize H1 = H at hP hS
  have h := Option.some.inj h
  subst h
  exact W.vret hx hb hr (fun t ht _ => ⟨⟨0, rfl, by rw [ht]; exact hP, hD⟩, hS.F ht⟩) hS.2.2 dX0_putWay_21
abbrev rmX0_pitchOf : Room := { frames := 0, cells := 0, slots := 0, locals := 0 }
set_option maxHeartbeats 8000000 in
set_option maxRecDepth 100000 in
theorem metX0_pitchOf (l : Launch) (D : va_G) (cI : ClassId) (h0 qf qn qw ql B0 : Nat) (sz : Int32) (mi : Int32) (fg : Nat → Int32) (nt : Nat → Int32) (wt : Nat → Int32) (wl : Nat → Int32) (a1 : Int32) (ro : Int32) (h : fX0_pitchOf sz mi fg nt wt wl a1 = some ro) : Met l yX0_pitchOf wsX0_pitchOf rmX0_pitchOf (va_Pc [.ref h0, .int a1] (fb_ok D [(cI, .int)] B0 fb_sX0 (fb_wX0 cI h0 qf qn qw ql sz mi fg nt wt wl))) (QcRead ro) 0 0 (fun _ => False) := by
  refine Met.ofW (cc := cX0_pitchOf) (maxL := 3) (ret := (some .int)) (by decide) rfl ?_
  intro p e s m args below meth c s₁ B hml hv
  obtain ⟨rfl, hP, hK, hZ⟩ := hv
  have hx := B.exec
  have hb := B.bytes
  have hr := B.returns
  have hts := atoms_spec (ws := wsX0_pitchOf) B.pre
  have hown : s.vm.findClass RX0 = some m.cls := findClass_of_methodNamed B.named
  have hlocks := B.notSynchronized
  have hAB : ∀ q : Nat, (fun q => B0 ≤ q) q → B0 ≤ q := fun _ h9 => h9
  have hS : va_S (fun q => B0 ≤ q) s.heap s.heap [] := va_S.rf
  obtain ⟨t_MAJOR, hz_MAJOR, ht_MAJOR⟩ := fb_stA_narrow hZ.2.2.2.1 hAB
  obtain ⟨t_MINOR, hz_MINOR, ht_MINOR⟩ := fb_stA_narrow hZ.2.2.2.2 hAB
  have hin0 : ∀ w ∈ u_ws RX0 TX0 6, w ∈ wsX0_pitchOf := fun _ h9 => List.mem_cons_of_mem _ (List.mem_append_right _ (h9))
  have w_f13 : (Cond.fieldLink RX0 13 "FiguredBass" "inMinor" "Z") ∈ wsX0_pitchOf := List.mem_of_getElem? (i := 1) rfl
  have w_f145 : (Cond.fieldLink RX0 145 "FiguredBass" "MINOR" "[I") ∈ wsX0_pitchOf := List.mem_of_getElem? (i := 2) rfl
  have w_f148 : (Cond.fieldLink RX0 148 "FiguredBass" "MAJOR" "[I") ∈ wsX0_pitchOf := List.mem_of_getElem? (i := 3) rfl
  have hl := lv_entry ([.ref h0, .int a1]) (n := 3) (Nat.le_of_ble_eq_true rfl)
  rw [lg_entry_eq]
  generalize (lg_sl ([.ref h0, .int a1]) ++ List.replicate (3 - (lg_sl ([.ref h0, .int a1])).length) Slot.unset).toArray = ls at hl ⊢
  have hl : lv_has ls 3 [(0, .ref h0), (1, .int a1)] := hl
  unfold fX0_pitchOf at h
  refine lv_iload_n hx hb dX0_pitchOf_0 rfl (lv_at hl 1 rfl) ?_
  refine lv_bipush (v := 7) hx hb dX0_pitchOf_1 (by decide) ?_
  refine lv_irem hx hb dX0_pitchOf_3 (by decide) ?_
  refine lv_istore_n (lv' := [(2, .int (a1 - a1 / 7 * 7)), (0, .ref h0), (1, .int a1)]) hx hb dX0_pitchOf_4 rfl hl (by decide) rfl (fun ls hl => ?_)
  refine lv_bipush (v := 12) hx hb dX0_pitchOf_5 (by decide) ?_
  refine lv_iload_n hx hb dX0_pitchOf_7 rfl (lv_at hl 2 rfl) ?_
  refine lv_bipush (v := 7) hx hb dX0_pitchOf_8 (by decide) ?_
  refine lv_idiv hx hb dX0_pitchOf_10 (by decide) ?_
  refine lv_imul hx hb dX0_pitchOf_11 ?_
  refine lv_aload_n hx hb dX0_pitchOf_12 rfl (lv_at hl 1 rfl) ?_
  refine va_get (D := D) (ci := 0) (v := .int mi) (C := RX0) (T := TX0) (N := 6) hx hb hts hin0 hown hK hP 0 rfl rfl 1 (by decide) (hts _ w_f13) (fun _ h9 => h9) rfl dX0_pitchOf_13 ?_
  obtain ⟨j4, hjJ1, h⟩ := fb_b1s h
  have J1 : ∀ (ls : Array Slot), lv_has ls 3 [] → W p l e (headSpec wsX0_pitchOf rmX0_pitchOf).room s m ([.ref h0, .int a1] : List Value).toArray below meth c s.heap [] 0 0 (MQ below (QcRead ro) ([.ref h0, .int a1] : List Value).toArray s 0 0 (fun _ => False)) (F0 m 32 ls [.int j4, .int ((12 : Int32) * (a1 / 7))]) := by
    intro ls hl
    refine lv_iadd hx hb dX0_pitchOf_32 ?_
    have h := Option.some.inj h
    subst h
    exact W.iret hx hb hr (fun t ht _ => ⟨rfl, ht⟩) (fun q hq => absurd hq List.not_mem_nil) dX0_pitchOf_33
  replace h := hjJ1
  refine lv_if_eq (tgt := 27) hx hb dX0_pitchOf_16 (by decide) (fun c1 => ?_) (fun c1 => ?_)
  · replace h := fb_it c1 h
    refine va_gets hx hb hz_MAJOR hS hown (hts _ w_f148) (fun _ h9 => h9) dX0_pitchOf_27 ?_
    refine lv_iload_n hx hb dX0_pitchOf_30 rfl (lv_at hl 0 rfl) ?_
    obtain ⟨hi2, h⟩ := fb_cks h
    refine va_ti hx hb ht_MAJOR hS (fb_ixin hi2) rfl dX0_pitchOf_31 ?_
    have h := Option.some.inj h
    subst h
    exact J1 ls (lv_sub hl [] rfl)
  · replace h := fb_ie c1 h
    refine va_gets hx hb hz_MINOR hS hown (hts _ w_f145) (fun _ h9 => h9) dX0_pitchOf_19 ?_
    refine lv_iload_n hx hb dX0_pitchOf_22 rfl (lv_at hl 0 rfl) ?_
    obtain ⟨hi3, h⟩ := fb_cks h
    refine va_ti hx hb ht_MINOR hS (fb_ixin hi3) rfl dX0_pitchOf_23 ?_
    refine lv_goto (tgt := 32) hx hb dX0_pitchOf_24 (by decide) ?_
    have h := Option.some.inj h
    subst h
    exact J1 ls (lv_sub hl [] rfl)
abbrev rmX0_moves : Room := { frames := 1, cells := 0, slots := 0, locals := 22 }
set_option maxHeartbeats 8000000 in
set_option maxRecDepth 100000 in
theorem metX0_moves (l : Launch) (D : va_G) (cI : ClassId) (h0 qf qn qw ql B0 : Nat) (sz : Int32) (mi : Int32) (fg : Nat → Int32) (nt : Nat → Int32) (wt : Nat → Int32) (wl : Nat → Int32) (a1 : Int32) (a2 : Int32) (ro : Int32) (h : fX0_moves sz mi fg nt wt wl a1 a2 = some ro) : Met l yX0_moves wsX0_moves rmX0_moves (va_Pc [.ref h0, .int a1, .int a2] (fb_ok D [(cI, .int)] B0 fb_sX0 (fb_wX0 cI h0 qf qn qw ql sz mi fg nt wt wl))) (QcRead ro) 0 0 (fun _ => False) := by
  refine Met.ofW (cc := cX0_moves) (maxL := 3) (ret := (some .boolean)) (by decide) rfl ?_
  intro p e s m args below meth c s₁ B hml hv
  obtain ⟨rfl, hP, hK, hZ⟩ := hv
  have hx := B.exec
  have hb := B.bytes
  have hr := B.returns
  have hts := atoms_spec (ws := wsX0_moves) B.pre
  have hown : s.vm.findClass RX0 = some m.cls := findClass_of_methodNamed B.named
  have hlocks := B.notSynchronized
  have hAB : ∀ q : Nat, (fun q => B0 ≤ q) q → B0 ≤ q := fun _ h9 => h9
  have hS : va_S (fun q => B0 ≤ q) s.heap s.heap [] := va_S.rf
  have hin0 : ∀ w ∈ u_ws RX0 TX0 6, w ∈ wsX0_moves := fun _ h9 => List.mem_cons_of_mem _ (List.mem_append_right _ (h9))
  have hl := lv_entry ([.ref h0, .int a1, .int a2]) (n := 3) (Nat.le_of_ble_eq_true rfl)
  rw [lg_entry_eq]
  generalize (lg_sl ([.ref h0, .int a1, .int a2]) ++ List.replicate (3 - (lg_sl ([.ref h0, .int a1, .int a2])).length) Slot.unset).toArray = ls at hl ⊢
  have hl : lv_has ls 3 [(0, .ref h0), (1, .int a1), (2, .int a2)] := hl
  unfold fX0_moves at h
  refine lv_aload_n hx hb dX0_moves_0 rfl (lv_at hl 0 rfl) ?_
  refine lv_iload_n hx hb dX0_moves_1 rfl (lv_at hl 1 rfl) ?_
  refine lv_iload_n hx hb dX0_moves_2 rfl (lv_at hl 2 rfl) ?_
  obtain ⟨r2, h1, h⟩ := fb_b1s h
  refine fb_callR (W.runV (As := [.int a1, .int a2]) (rest := []) ⟨hx, hb, hml, hown, hts⟩ (metX0_noteAt l D cI h0 qf qn qw ql B0 sz mi fg nt wt wl a1 a2 r2 h1) (cwV 2 hts gX0_moves_X0_noteAt rfl rfl rfl (by decide +kernel) ⟨Nat.le_of_ble_eq_true rfl, Nat.le_of_ble_eq_true rfl⟩) (fb_preVR (ci := 0) fb_sX0p hP hK hZ hS hAB rfl rfl _) rfl rfl hl.1 rfl (lv_room (Nat.le_of_ble_eq_true rfl)) dX0_moves_3 ⟨Nat.le_of_ble_eq_true rfl, Nat.le_of_ble_eq_true rfl⟩) ?_
  refine lv_aload_n hx hb dX0_moves_6 rfl (lv_at hl 0 rfl) ?_
  refine lv_iload_n hx hb dX0_moves_7 rfl (lv_at hl 1 rfl) ?_
  refine lv_iconst (v := 1) hx hb dX0_moves_8 (by decide) ?_
  refine lv_isub hx hb dX0_moves_9 ?_
  refine lv_iload_n hx hb dX0_moves_10 rfl (lv_at hl 2 rfl) ?_
  obtain ⟨r4, h3, h⟩ := fb_b1s h
  refine fb_callR (W.runV (As := [.int (a1 - 1), .int a2]) (rest := [.int r2]) ⟨hx, hb, hml, hown, hts⟩ (metX0_noteAt l D cI h0 qf qn qw ql B0 sz mi fg nt wt wl (a1 - 1) a2 r4 h3) (cwV 2 hts gX0_moves_X0_noteAt rfl rfl rfl (by decide +kernel) ⟨Nat.le_of_ble_eq_true rfl, Nat.le_of_ble_eq_true rfl⟩) (fb_preVR (ci := 0) fb_sX0p hP hK hZ hS hAB rfl rfl _) rfl rfl hl.1 rfl (lv_room (Nat.le_of_ble_eq_true rfl)) dX0_moves_11 ⟨Nat.le_of_ble_eq_true rfl, Nat.le_of_ble_eq_true rfl⟩) ?_
  refine lv_icmp_eq (tgt := 21) hx hb dX0_moves_14 (by decide) (fun c5 => ?_) (fun c5 => ?_)
  · replace h := fb_it c5 h
    refine lv_iconst (v := 0) hx hb dX0_moves_21 (by decide) ?_
    have h := Option.some.inj h
    subst h
    exact W.zret (ty := .boolean) hx hb hr rfl (fun t ht _ => ⟨rfl, ht⟩) (fun q hq => absurd hq List.not_mem_nil) dX0_moves_22
  · replace h := fb_ie c5 h
    refine lv_iconst (v := 1) hx hb dX0_moves_17 (by decide) ?_
    refine lv_goto (tgt := 22) hx hb dX0_moves_18 (by decide) ?_
    have h := Option.some.inj h
    subst h
    exact W.zret (ty := .boolean) hx hb hr rfl (fun t ht _ => ⟨rfl, ht⟩) (fun q hq => absurd hq List.not_mem_nil) dX0_moves_22
abbrev rmX0_belongs : Room := { frames := 1, cells := 0, slots := 0, locals := 22 }
set_option maxHeartbeats 8000000 in
set_option maxRecDepth 100000 in
theorem metX0_belongs (l : Launch) (D : va_G) (cI : ClassId) (h0 qf qn qw ql B0 : Nat) (sz : Int32) (mi : Int32) (fg : Nat → Int32) (nt : Nat → Int32) (wt : Nat → Int32) (wl : Nat → Int32) (a1 : Int32) (a2 : Int32) (ro : Int32) (h : fX0_belongs sz mi fg nt wt wl a1 a2 = some ro) : Met l yX0_belongs wsX0_belongs rmX0_belongs (va_Pc [.ref h0, .int a1, .int a2] (fb_ok D [(cI, .int)] B0 fb_sX0 (fb_wX0 cI h0 qf qn qw ql sz mi fg nt wt wl))) (QcRead ro) 0 0 (fun _ => False) := by
  refine Met.ofW (cc := cX0_belongs) (maxL := 4) (ret := (some .boolean)) (by decide) rfl ?_
  intro p e s m args below meth c s₁ B hml hv
  obtain ⟨rfl, hP, hK, hZ⟩ := hv
  have hx := B.exec
  have hb := B.bytes
  have hr := B.returns
  have hts := atoms_spec (ws := wsX0_belongs) B.pre
  have hown : s.vm.findClass RX0 = some m.cls := findClass_of_methodNamed B.named
  have hlocks := B.notSynchronized
  have hAB : ∀ q : Nat, (fun q => B0 ≤ q) q → B0 ≤ q := fun _ h9 => h9
  have hS : va_S (fun q => B0 ≤ q) s.heap s.heap [] := va_S.rf
  obtain ⟨t_FIGURE_STEPS, hz_FIGURE_STEPS, ht_FIGURE_STEPS⟩ := fb_stA_narrow hZ.2.2.1 hAB
  have hin0 : ∀ w ∈ u_ws RX0 TX0 6, w ∈ wsX0_belongs := fun _ h9 => List.mem_cons_of_mem _ (List.mem_append_right _ (h9))
  have w_f132 : (Cond.fieldLink RX0 132 "FiguredBass" "FIGURE_STEPS" "[I") ∈ wsX0_belongs := List.mem_of_getElem? (i := 1) rfl
  have w_f17 : (Cond.fieldLink RX0 17 "FiguredBass" "figures" "[I") ∈ wsX0_belongs := List.mem_of_getElem? (i := 2) rfl
  have hl := lv_entry ([.ref h0, .int a1, .int a2]) (n := 4) (Nat.le_of_ble_eq_true rfl)
  rw [lg_entry_eq]
  generalize (lg_sl ([.ref h0, .int a1, .int a2]) ++ List.replicate (4 - (lg_sl ([.ref h0, .int a1, .int a2])).length) Slot.unset).toArray = ls at hl ⊢
  have hl : lv_has ls 4 [(0, .ref h0), (1, .int a1), (2, .int a2)] := hl
  unfold fX0_belongs at h
  refine lv_iconst (v := 1) hx hb dX0_belongs_0 (by decide) ?_
  refine lv_aload_n hx hb dX0_belongs_1 rfl (lv_at hl 0 rfl) ?_
  refine lv_iload_n hx hb dX0_belongs_2 rfl (lv_at hl 1 rfl) ?_
  refine lv_iconst (v := 0) hx hb dX0_belongs_3 (by decide) ?_
  obtain ⟨r2, h1, h⟩ := fb_b1s h
  refine fb_callR (W.runV (As := [.int a1, .int 0]) (rest := [.int 1]) ⟨hx, hb, hml, hown, hts⟩ (metX0_noteAt l D cI h0 qf qn qw ql B0 sz mi fg nt wt wl a1 0 r2 h1) (cwV 2 hts gX0_belongs_X0_noteAt rfl rfl rfl (by decide +kernel) ⟨Nat.le_of_ble_eq_true rfl, Nat.le_of_ble_eq_true rfl⟩) (fb_preVR (ci := 0) fb_sX0p hP hK hZ hS hAB rfl rfl _) rfl rfl hl.1 rfl (lv_room (Nat.le_of_ble_eq_true rfl)) dX0_belongs_4 ⟨Nat.le_of_ble_eq_true rfl, Nat.le_of_ble_eq_true rfl⟩) ?_
  refine lv_iload_n hx hb dX0_belongs_7 rfl (lv_at hl 2 rfl) ?_
  obtain ⟨r4, h3, h⟩ := fb_b1s h
  refine fb_callR (W.runS (As := [.int r2, .int a2]) (rest := [.int 1]) ⟨hx, hb, hml, hown, hts⟩ (metX0_stepAbove l B0 r2 a2 r4 h3) (va_cwS 2 hts gX0_belongs_X0_stepAbove rfl rfl rfl (by decide +kernel) ⟨Nat.le_of_ble_eq_true rfl, Nat.le_of_ble_eq_true rfl⟩) (fb_preS fb_sX0p hZ hS hAB _) rfl rfl hl.1 rfl (lv_room (Nat.le_of_ble_eq_true rfl)) dX0_belongs_8 ⟨Nat.le_of_ble_eq_true rfl, Nat.le_of_ble_eq_true rfl⟩) ?_
  refine lv_ishl hx hb dX0_belongs_11 ?_
  refine lv_istore_n (lv' := [(3, .int ((1 : Int32) <<< (r4 &&& 31))), (0, .ref h0), (1, .int a1), (2, .int a2)]) hx hb dX0_belongs_12 rfl hl (by decide) rfl (fun ls hl => ?_)
  refine va_gets hx hb hz_FIGURE_STEPS hS hown (hts _ w_f132) (fun _ h9 => h9) dX0_belongs_13 ?_
  refine lv_aload_n hx hb dX0_belongs_16 rfl (lv_at hl 1 rfl) ?_
  refine va_get (D := D) (ci := 0) (v := .ref qf) (C := RX0) (T := TX0) (N := 6) hx hb hts hin0 hown hK hP 0 rfl rfl 2 (by decide) (hts _ w_f17) (fun _ h9 => h9) rfl dX0_belongs_17 ?_
  refine lv_iload_n hx hb dX0_belongs_20 rfl (lv_at hl 2 rfl) ?_
  obtain ⟨hi5, h⟩ := fb_cks h
  refine va_iald hx hb hK hP 1 0 rfl rfl (fb_ixin hi5) dX0_belongs_21 ?_
  obtain ⟨hi6, h⟩ := fb_cks h
  refine va_ti hx hb ht_FIGURE_STEPS hS (fb_ixin hi6) rfl dX0_belongs_22 ?_
  refine lv_iload_n hx hb dX0_belongs_23 rfl (lv_at hl 0 rfl) ?_
  refine lv_iand hx hb dX0_belongs_24 ?_
  refine lv_if_eq (tgt := 32) hx hb dX0_belongs_25 (by decide) (fun c7 => ?_) (fun c7 => ?_)
  · replace h := fb_it c7 h
    refine lv_iconst (v := 0) hx hb dX0_belongs_32 (by decide) ?_
    have h := Option.some.inj h
    subst h
    exact W.zret (ty := .boolean) hx hb hr rfl (fun t ht _ => ⟨rfl, ht⟩) (fun q hq => absurd hq List.not_mem_nil) dX0_belongs_33
  · replace h := fb_ie c7 h
    refine lv_iconst (v := 1) hx hb dX0_belongs_28 (by decide) ?_
    refine lv_goto (tgt := 33) hx hb dX0_belongs_29 (by decide) ?_
    have h := Option.some.inj h
    subst h
    exact W.zret (ty := .boolean) hx hb hr rfl (fun t ht _ => ⟨rfl, ht⟩) (fun q hq => absurd hq List.not_mem_nil) dX0_belongs_33
abbrev rmX0_isSet : Room := { frames := 1, cells := 0, slots := 0, locals := 22 }
set_option maxHeartbeats 8000000 in
set_option maxRecDepth 100000 in
theorem metX0_isSet (l : Launch) (D : va_G) (cI : ClassId) (h0 qf qn qw ql B0 : Nat) (sz : Int32) (mi : Int32) (fg : Nat → Int32) (nt : Nat → Int32) (wt : Nat → Int32) (wl : Nat → Int32) (a1 : Int32) (ro : Int32) (h : fX0_isSet sz mi fg nt wt wl a1 = some ro) : Met l yX0_isSet wsX0_isSet rmX0_isSet (va_Pc [.ref h0, .int a1] (fb_ok D [(cI, .int)] B0 fb_sX0 (fb_wX0 cI h0 qf qn qw ql sz mi fg nt wt wl))) (QcRead ro) 0 0 (fun _ => False) := by
  refine Met.ofW (cc := cX0_isSet) (maxL := 2) (ret := (some .boolean)) (by decide) rfl ?_
  intro p e s m args below meth c s₁ B hml hv
  obtain ⟨rfl, hP, hK, hZ⟩ := hv
  have hx := B.exec
  have hb := B.bytes
  have hr := B.returns
  have hts := atoms_spec (ws := wsX0_isSet) B.pre
  have hown : s.vm.findClass RX0 = some m.cls := findClass_of_methodNamed B.named
  have hlocks := B.notSynchronized
  have hAB : ∀ q : Nat, (fun q => B0 ≤ q) q → B0 ≤ q := fun _ h9 => h9
  have hS : va_S (fun q => B0 ≤ q) s.heap s.heap [] := va_S.rf
  have hin0 : ∀ w ∈ u_ws RX0 TX0 6, w ∈ wsX0_isSet := fun _ h9 => List.mem_cons_of_mem _ (List.mem_append_right _ (h9))
  have hl := lv_entry ([.ref h0, .int a1]) (n := 2) (Nat.le_of_ble_eq_true rfl)
  rw [lg_entry_eq]
  generalize (lg_sl ([.ref h0, .int a1]) ++ List.replicate (2 - (lg_sl ([.ref h0, .int a1])).length) Slot.unset).toArray = ls at hl ⊢
  have hl : lv_has ls 2 [(0, .ref h0), (1, .int a1)] := hl
  unfold fX0_isSet at h
  refine lv_aload_n hx hb dX0_isSet_0 rfl (lv_at hl 0 rfl) ?_
  refine lv_iload_n hx hb dX0_isSet_1 rfl (lv_at hl 1 rfl) ?_
  obtain ⟨r2, h1, h⟩ := fb_b1s h
  refine fb_callR (W.runV (As := [.int a1]) (rest := []) ⟨hx, hb, hml, hown, hts⟩ (metX0_isChord l D cI h0 qf qn qw ql B0 sz mi fg nt wt wl a1 r2 h1) (cwV 1 hts gX0_isSet_X0_isChord rfl rfl rfl (by decide +kernel) ⟨Nat.le_of_ble_eq_true rfl, Nat.le_of_ble_eq_true rfl⟩) (fb_preVR (ci := 0) fb_sX0p hP hK hZ hS hAB rfl rfl _) rfl rfl hl.1 rfl (lv_room (Nat.le_of_ble_eq_true rfl)) dX0_isSet_2 ⟨Nat.le_of_ble_eq_true rfl, Nat.le_of_ble_eq_true rfl⟩) ?_
  refine lv_if_eq (tgt := 42) hx hb dX0_isSet_5 (by decide) (fun c3 => ?_) (fun c3 => ?_)
  · replace h := fb_it c3 h
    refine lv_iconst (v := 0) hx hb dX0_isSet_42 (by decide) ?_
    have h := Option.some.inj h
    subst h
    exact W.zret (ty := .boolean) hx hb hr rfl (fun t ht _ => ⟨rfl, ht⟩) (fun q hq => absurd hq List.not_mem_nil) dX0_isSet_43
  · replace h := fb_ie c3 h
    refine lv_aload_n hx hb dX0_isSet_8 rfl (lv_at hl 0 rfl) ?_
    refine lv_iload_n hx hb dX0_isSet_9 rfl (lv_at hl 1 rfl) ?_
    refine lv_iconst (v := 1) hx hb dX0_isSet_10 (by decide) ?_
    obtain ⟨r6, h5, h⟩ := fb_b1s h
    refine fb_callR (W.runV (As := [.int a1, .int 1]) (rest := []) ⟨hx, hb, hml, hown, hts⟩ (metX0_noteAt l D cI h0 qf qn qw ql B0 sz mi fg nt wt wl a1 1 r6 h5) (cwV 2 hts gX0_isSet_X0_noteAt rfl rfl rfl (by decide +kernel) ⟨Nat.le_of_ble_eq_true rfl, Nat.le_of_ble_eq_true rfl⟩) (fb_preVR (ci := 0) fb_sX0p hP hK hZ hS hAB rfl rfl _) rfl rfl hl.1 rfl (lv_room (Nat.le_of_ble_eq_true rfl)) dX0_isSet_11 ⟨Nat.le_of_ble_eq_true rfl, Nat.le_of_ble_eq_true rfl⟩) ?_
    refine lv_iconst (v := (-1)) hx hb dX0_isSet_14 (by decide) ?_
    refine lv_icmp_eq (tgt := 42) hx hb dX0_isSet_15 (by decide) (fun c7 => ?_) (fun c7 => ?_)
    · replace h := fb_it c7 h
      refine lv_iconst (v := 0) hx hb dX0_isSet_42 (by decide) ?_
      have h := Option.some.inj h
      subst h
      exact W.zret (ty := .boolean) hx hb hr rfl (fun t ht _ => ⟨rfl, ht⟩) (fun q hq => absurd hq List.not_mem_nil) dX0_isSet_43
    · replace h := fb_ie c7 h
      refine lv_aload_n hx hb dX0_isSet_18 rfl (lv_at hl 0 rfl) ?_
      refine lv_iload_n hx hb dX0_isSet_19 rfl (lv_at hl 1 rfl) ?_
      refine lv_iconst (v := 2) hx hb dX0_isSet_20 (by decide) ?_
      obtain ⟨r10, h9, h⟩ := fb_b1s h
      refine fb_callR (W.runV (As := [.int a1, .int 2]) (rest := []) ⟨hx, hb, hml, hown, hts⟩ (metX0_noteAt l D cI h0 qf qn qw ql B0 sz mi fg nt wt wl a1 2 r10 h9) (cwV 2 hts gX0_isSet_X0_noteAt rfl rfl rfl (by decide +kernel) ⟨Nat.le_of_ble_eq_true rfl, Nat.le_of_ble_eq_true rfl⟩) (fb_preVR (ci := 0) fb_sX0p hP hK hZ hS hAB rfl rfl _) rfl rfl hl.1 rfl (lv_room (Nat.le_of_ble_eq_true rfl)) dX0_isSet_21 ⟨Nat.le_of_ble_eq_true rfl, Nat.le_of_ble_eq_true rfl⟩) ?_
      refine lv_iconst (v := (-1)) hx hb dX0_isSet_24 (by decide) ?_
      refine lv_icmp_eq (tgt := 42) hx hb dX0_isSet_25 (by decide) (fun c11 => ?_) (fun c11 => ?_)
      · replace h := fb_it c11 h
        refine lv_iconst (v := 0) hx hb dX0_isSet_42 (by decide) ?_
        have h := Option.some.inj h
        subst h
        exact W.zret (ty := .boolean) hx hb hr rfl (fun t ht _ => ⟨rfl, ht⟩) (fun q hq => absurd hq List.not_mem_nil) dX0_isSet_43
      · replace h := fb_ie c11 h
        refine lv_aload_n hx hb dX0_isSet_28 rfl (lv_at hl 0 rfl) ?_
        refine lv_iload_n hx hb dX0_isSet_29 rfl (lv_at hl 1 rfl) ?_
        refine lv_iconst (v := 3) hx hb dX0_isSet_30 (by decide) ?_
        obtain ⟨r14, h13, h⟩ := fb_b1s h
        refine fb_callR (W.runV (As := [.int a1, .int 3]) (rest := []) ⟨hx, hb, hml, hown, hts⟩ (metX0_noteAt l D cI h0 qf qn qw ql B0 sz mi fg nt wt wl a1 3 r14 h13) (cwV 2 hts gX0_isSet_X0_noteAt rfl rfl rfl (by decide +kernel) ⟨Nat.le_of_ble_eq_true rfl, Nat.le_of_ble_eq_true rfl⟩) (fb_preVR (ci := 0) fb_sX0p hP hK hZ hS hAB rfl rfl _) rfl rfl hl.1 rfl (lv_room (Nat.le_of_ble_eq_true rfl)) dX0_isSet_31 ⟨Nat.le_of_ble_eq_true rfl, Nat.le_of_ble_eq_true rfl⟩) ?_
        refine lv_iconst (v := (-1)) hx hb dX0_isSet_34 (by decide) ?_
        refine lv_icmp_eq (tgt := 42) hx hb dX0_isSet_35 (by decide) (fun c15 => ?_) (fun c15 => ?_)
        · replace h := fb_it c15 h
          refine lv_iconst (v := 0) hx hb dX0_isSet_42 (by decide) ?_
          have h := Option.some.inj h
          subst h
          exact W.zret (ty := .boolean) hx hb hr rfl (fun t ht _ => ⟨rfl, ht⟩) (fun q hq => absurd hq List.not_mem_nil) dX0_isSet_43
        · replace h := fb_ie c15 h
          refine lv_iconst (v := 1) hx hb dX0_isSet_38 (by decide) ?_
          refine lv_goto (tgt := 43) hx hb dX0_isSet_39 (by decide) ?_
          have h := Option.some.inj h
          subst h
          exact W.zret (ty := .boolean) hx hb hr rfl (fun t ht _ => ⟨rfl, ht⟩) (fun q hq => absurd hq List.not_mem_nil) dX0_isSet_43
abbrev rmX0_isRightWith : Room := { frames := 1, cells := 0, slots := 0, locals := 22 }
set_option maxHeartbeats 8000000 in
set_option maxRecDepth 100000 in
theorem metX0_isRightWith (l : Launch) (D : va_G) (cI : ClassId) (h0 qf qn qw ql B0 : Nat) (sz : Int32) (mi : Int32) (fg : Nat → Int32) (nt : Nat → Int32) (wt : Nat → Int32) (wl : Nat → Int32) (a1 : Int32) (a2 : Int32) (a3 : Int32) (a4 : Int32) (ro : Int32) (h : fX0_isRightWith sz mi fg nt wt wl a1 a2 a3 a4 = some ro) : Met l yX0_isRightWith wsX0_isRightWith rmX0_isRightWith (va_Pc [.ref h0, .int a1, .int a2, .int a3, .int a4] (fb_ok D [(cI, .int)] B0 fb_sX0 (fb_wX0 cI h0 qf qn qw ql sz mi fg nt wt wl))) (QcRead ro) 0 0 (fun _ => False) := by
  refine Met.ofW (cc := cX0_isRightWith) (maxL := 7) (ret := (some .boolean)) (by decide) rfl ?_
  intro p e s m args below meth c s₁ B hml hv
  obtain ⟨rfl, hP, hK, hZ⟩ := hv
  have hx := B.exec
  have hb := B.bytes
  have hr := B.returns
  have hts := atoms_spec (ws := wsX0_isRightWith) B.pre
  have hown : s.vm.findClass RX0 = some m.cls := findClass_of_methodNamed B.named
  have hlocks := B.notSynchronized
  have hAB : ∀ q : Nat, (fun q => B0 ≤ q) q → B0 ≤ q := fun _ h9 => h9
  have hS : va_S (fun q => B0 ≤ q) s.heap s.heap [] := va_S.rf
  obtain ⟨t_FIGURE_STEPS, hz_FIGURE_STEPS, ht_FIGURE_STEPS⟩ := fb_stA_narrow hZ.2.2.1 hAB
  have hin0 : ∀ w ∈ u_ws RX0 TX0 6, w ∈ wsX0_isRightWith := fun _ h9 => List.mem_cons_of_mem _ (List.mem_append_right _ (h9))
  have w_f132 : (Cond.fieldLink RX0 132 "FiguredBass" "FIGURE_STEPS" "[I") ∈ wsX0_isRightWith := List.mem_of_getElem? (i := 1) rfl
  have w_f17 : (Cond.fieldLink RX0 17 "FiguredBass" "figures" "[I") ∈ wsX0_isRightWith := List.mem_of_getElem? (i := 2) rfl
  have hl := lv_entry ([.ref h0, .int a1, .int a2, .int a3, .int a4]) (n := 7) (Nat.le_of_ble_eq_true rfl)
  rw [lg_entry_eq]
  generalize (lg_sl ([.ref h0, .int a1, .int a2, .int a3, .int a4]) ++ List.replicate (7 - (lg_sl ([.ref h0, .int a1, .int a2, .int a3, .int a4])).length) Slot.unset).toArray = ls at hl ⊢
  have hl : lv_has ls 7 [(0, .ref h0), (1, .int a1), (2, .int a2), (3, .int a3), (4, .int a4)] := hl
  unfold fX0_isRightWith at h
  refine lv_aload_n hx hb dX0_isRightWith_0 rfl (lv_at hl 0 rfl) ?_
  refine lv_iload_n hx hb dX0_isRightWith_1 rfl (lv_at hl 1 rfl) ?_
  refine lv_iconst (v := 0) hx hb dX0_isRightWith_2 (by decide) ?_
  obtain ⟨r2, h1, h⟩ := fb_b1s h
  refine fb_callR (W.runV (As := [.int a1, .int 0]) (rest := []) ⟨hx, hb, hml, hown, hts⟩ (metX0_noteAt l D cI h0 qf qn qw ql B0 sz mi fg nt wt wl a1 0 r2 h1) (cwV 2 hts gX0_isRightWith_X0_noteAt rfl rfl rfl (by decide +kernel) ⟨Nat.le_of_ble_eq_true rfl, Nat.le_of_ble_eq_true rfl⟩) (fb_preVR (ci := 0) fb_sX0p hP hK hZ hS hAB rfl rfl _) rfl rfl hl.1 rfl (lv_room (Nat.le_of_ble_eq_true rfl)) dX0_isRightWith_3 ⟨Nat.le_of_ble_eq_true rfl, Nat.le_of_ble_eq_true rfl⟩) ?_
  refine lv_istore (lv' := [(5, .int r2), (0, .ref h0), (1, .int a1), (2, .int a2), (3, .int a3), (4, .int a4)]) hx hb dX0_isRightWith_6 hl (by decide) rfl (fun ls hl => ?_)
  refine lv_iload_n hx hb dX0_isRightWith_8 rfl (lv_at hl 3 rfl) ?_
  refine lv_iload hx hb dX0_isRightWith_9 (lv_at hl 0 rfl) ?_
  refine lv_icmp_lt (tgt := 25) hx hb dX0_isRightWith_11 (by decide) (fun c3 => ?_) (fun c3 => ?_)
  · replace h := fb_it c3 h
    refine lv_iconst (v := 0) hx hb dX0_isRightWith_25 (by decide) ?_
    have h := Option.some.inj h
    subst h
    exact W.zret (ty := .boolean) hx hb hr rfl (fun t ht _ => ⟨rfl, ht⟩) (fun q hq => absurd hq List.not_mem_nil) dX0_isRightWith_26
  · replace h := fb_ie c3 h
    refine lv_iload_n hx hb dX0_isRightWith_14 rfl (lv_at hl 4 rfl) ?_
    refine lv_iload_n hx hb dX0_isRightWith_15 rfl (lv_at hl 3 rfl) ?_
    refine lv_icmp_lt (tgt := 25) hx hb dX0_isRightWith_16 (by decide) (fun c5 => ?_) (fun c5 => ?_)
    · replace h := fb_it c5 h
      refine lv_iconst (v := 0) hx hb dX0_isRightWith_25 (by decide) ?_
      have h := Option.some.inj h
      subst h
      exact W.zret (ty := .boolean) hx hb hr rfl (fun t ht _ => ⟨rfl, ht⟩) (fun q hq => absurd hq List.not_mem_nil) dX0_isRightWith_26
    · replace h := fb_ie c5 h
      refine lv_iload hx hb dX0_isRightWith_19 (lv_at hl 5 rfl) ?_
      refine lv_iload_n hx hb dX0_isRightWith_21 rfl (lv_at hl 4 rfl) ?_
      refine lv_icmp_ge (tgt := 27) hx hb dX0_isRightWith_22 (by decide) (fun c7 => ?_) (fun c7 => ?_)
      · replace h := fb_it c7 h
        refine lv_iconst (v := 1) hx hb dX0_isRightWith_27 (by decide) ?_
        refine lv_istore (lv' := [(6, .int 1), (5, .int r2), (0, .ref h0), (1, .int a1), (2, .int a2), (3, .int a3), (4, .int a4)]) hx hb dX0_isRightWith_28 hl (by decide) rfl (fun ls hl => ?_)
        refine lv_iload hx hb dX0_isRightWith_30 (lv_at hl 0 rfl) ?_
        refine lv_iconst (v := 1) hx hb dX0_isRightWith_32 (by decide) ?_
        refine lv_iload hx hb dX0_isRightWith_33 (lv_at hl 1 rfl) ?_
        refine lv_iload_n hx hb dX0_isRightWith_35 rfl (lv_at hl 4 rfl) ?_
        obtain ⟨r9, h8, h⟩ := fb_b1s h
        refine fb_callR (W.runS (As := [.int r2, .int a2]) (rest := [.int 1, .int 1]) ⟨hx, hb, hml, hown, hts⟩ (metX0_stepAbove l B0 r2 a2 r9 h8) (va_cwS 2 hts gX0_isRightWith_X0_stepAbove rfl rfl rfl (by decide +kernel) ⟨Nat.le_of_ble_eq_true rfl, Nat.le_of_ble_eq_true rfl⟩) (fb_preS fb_sX0p hZ hS hAB _) rfl rfl hl.1 rfl (lv_room (Nat.le_of_ble_eq_true rfl)) dX0_isRightWith_36 ⟨Nat.le_of_ble_eq_true rfl, Nat.le_of_ble_eq_true rfl⟩) ?_
        refine lv_ishl hx hb dX0_isRightWith_39 ?_
        refine lv_ior hx hb dX0_isRightWith_40 ?_
        refine lv_istore (lv' := [(6, .int ((1 : Int32) ||| ((1 : Int32) <<< (r9 &&& 31)))), (5, .int r2), (0, .ref h0), (1, .int a1), (2, .int a2), (3, .int a3), (4, .int a4)]) hx hb dX0_isRightWith_41 hl (by decide) rfl (fun ls hl => ?_)
        refine lv_iload hx hb dX0_isRightWith_43 (lv_at hl 0 rfl) ?_
        refine lv_iconst (v := 1) hx hb dX0_isRightWith_45 (by decide) ?_
        refine lv_iload hx hb dX0_isRightWith_46 (lv_at hl 1 rfl) ?_
        refine lv_iload_n hx hb dX0_isRightWith_48 rfl (lv_at hl 5 rfl) ?_
        obtain ⟨r11, h10, h⟩ := fb_b1s h
        refine fb_callR (W.runS (As := [.int r2, .int a3]) (rest := [.int 1, .int ((1 : Int32) ||| ((1 : Int32) <<< (r9 &&& 31)))]) ⟨hx, hb, hml, hown, hts⟩ (metX0_stepAbove l B0 r2 a3 r11 h10) (va_cwS 2 hts gX0_isRightWith_X0_stepAbove rfl rfl rfl (by decide +kernel) ⟨Nat.le_of_ble_eq_true rfl, Nat.le_of_ble_eq_true rfl⟩) (fb_preS fb_sX0p hZ hS hAB _) rfl rfl hl.1 rfl (lv_room (Nat.le_of_ble_eq_true rfl)) dX0_isRightWith_49 ⟨Nat.le_of_ble_eq_true rfl, Nat.le_of_ble_eq_true rfl⟩) ?_
        refine lv_ishl hx hb dX0_isRightWith_52 ?_
        refine lv_ior hx hb dX0_isRightWith_53 ?_
        refine lv_istore (lv' := [(6, .int (((1 : Int32) ||| ((1 : Int32) <<< (r9 &&& 31))) ||| ((1 : Int32) <<< (r11 &&& 31)))), (5, .int r2), (0, .ref h0), (1, .int a1), (2, .int a2), (3, .int a3), (4, .int a4)]) hx hb dX0_isRightWith_54 hl (by decide) rfl (fun ls hl => ?_)
        refine lv_iload hx hb dX0_isRightWith_56 (lv_at hl 0 rfl) ?_
        refine lv_iconst (v := 1) hx hb dX0_isRightWith_58 (by decide) ?_
        refine lv_iload hx hb dX0_isRightWith_59 (lv_at hl 1 rfl) ?_
        refine lv_iload hx hb dX0_isRightWith_61 (lv_at hl 6 rfl) ?_
        obtain ⟨r13, h12, h⟩ := fb_b1s h
        refine fb_callR (W.runS (As := [.int r2, .int a4]) (rest := [.int 1, .int (((1 : Int32) ||| ((1 : Int32) <<< (r9 &&& 31))) ||| ((1 : Int32) <<< (r11 &&& 31)))]) ⟨hx, hb, hml, hown, hts⟩ (metX0_stepAbove l B0 r2 a4 r13 h12) (va_cwS 2 hts gX0_isRightWith_X0_stepAbove rfl rfl rfl (by decide +kernel) ⟨Nat.le_of_ble_eq_true rfl, Nat.le_of_ble_eq_true rfl⟩) (fb_preS fb_sX0p hZ hS hAB _) rfl rfl hl.1 rfl (lv_room (Nat.le_of_ble_eq_true rfl)) dX0_isRightWith_63 ⟨Nat.le_of_ble_eq_true rfl, Nat.le_of_ble_eq_true rfl⟩) ?_
        refine lv_ishl hx hb dX0_isRightWith_66 ?_
        refine lv_ior hx hb dX0_isRightWith_67 ?_
        refine lv_istore (lv' := [(6, .int ((((1 : Int32) ||| ((1 : Int32) <<< (r9 &&& 31))) ||| ((1 : Int32) <<< (r11 &&& 31))) ||| ((1 : Int32) <<< (r13 &&& 31)))), (5, .int r2), (0, .ref h0), (1, .int a1), (2, .int a2), (3, .int a3), (4, .int a4)]) hx hb dX0_isRightWith_68 hl (by decide) rfl (fun ls hl => ?_)
        refine lv_iload hx hb dX0_isRightWith_70 (lv_at hl 0 rfl) ?_
        refine va_gets hx hb hz_FIGURE_STEPS hS hown (hts _ w_f132) (fun _ h9 => h9) dX0_isRightWith_72 ?_
        refine lv_aload_n hx hb dX0_isRightWith_75 rfl (lv_at hl 2 rfl) ?_
        refine va_get (D := D) (ci := 0) (v := .ref qf) (C := RX0) (T := TX0) (N := 6) hx hb hts hin0 hown hK hP 0 rfl rfl 2 (by decide) (hts _ w_f17) (fun _ h9 => h9) rfl dX0_isRightWith_76 ?_
        refine lv_iload_n hx hb dX0_isRightWith_79 rfl (lv_at hl 3 rfl) ?_
        obtain ⟨hi14, h⟩ := fb_cks h
        refine va_iald hx hb hK hP 1 0 rfl rfl (fb_ixin hi14) dX0_isRightWith_80 ?_
        obtain ⟨hi15, h⟩ := fb_cks h
        refine va_ti hx hb ht_FIGURE_STEPS hS (fb_ixin hi15) rfl dX0_isRightWith_81 ?_
        refine lv_icmp_ne (tgt := 89) hx hb dX0_isRightWith_82 (by decide) (fun c16 => ?_) (fun c16 => ?_)
        · replace h := fb_ie c16 h
          refine lv_iconst (v := 0) hx hb dX0_isRightWith_89 (by decide) ?_
          have h := Option.some.inj h
          subst h
          exact W.zret (ty := .boolean) hx hb hr rfl (fun t ht _ => ⟨rfl, ht⟩) (fun q hq => absurd hq List.not_mem_nil) dX0_isRightWith_90
        · replace h := fb_it c16 h
          refine lv_iconst (v := 1) hx hb dX0_isRightWith_85 (by decide) ?_
          refine lv_goto (tgt := 90) hx hb dX0_isRightWith_86 (by decide) ?_
          have h := Option.some.inj h
          subst h
          exact W.zret (ty := .boolean) hx hb hr rfl (fun t ht _ => ⟨rfl, ht⟩) (fun q hq => absurd hq List.not_mem_nil) dX0_isRightWith_90
      · replace h := fb_ie c7 h
        refine lv_iconst (v := 0) hx hb dX0_isRightWith_25 (by decide) ?_
        have h := Option.some.inj h
        subst h
        exact W.zret (ty := .boolean) hx hb hr rfl (fun t ht _ => ⟨rfl, ht⟩) (fun q hq => absurd hq List.not_mem_nil) dX0_isRightWith_26
abbrev rmX0_isRight : Room := { frames := 2, cells := 0, slots := 0, locals := 48 }
set_option maxHeartbeats 8000000 in
set_option maxRecDepth 100000 in
theorem metX0_isRight (l : Launch) (D : va_G) (cI : ClassId) (h0 qf qn qw ql B0 : Nat) (sz : Int32) (mi : Int32) (fg : Nat → Int32) (nt : Nat → Int32) (wt : Nat → Int32) (wl : Nat → Int32) (a1 : Int32) (ro : Int32) (h : fX0_isRight sz mi fg nt wt wl a1 = some ro) : Met l yX0_isRight wsX0_isRight rmX0_isRight (va_Pc [.ref h0, .int a1] (fb_ok D [(cI, .int)] B0 fb_sX0 (fb_wX0 cI h0 qf qn qw ql sz mi fg nt wt wl))) (QcRead ro) 0 0 (fun _ => False) := by
  refine Met.ofW (cc := cX0_isRight) (maxL := 2) (ret := (some .boolean)) (by decide) rfl ?_
  intro p e s m args below meth c s₁ B hml hv
  obtain ⟨rfl, hP, hK, hZ⟩ := hv
  have hx := B.exec
  have hb := B.bytes
  have hr := B.returns
  have hts := atoms_spec (ws := wsX0_isRight) B.pre
  have hown : s.vm.findClass RX0 = some m.cls := findClass_of_methodNamed B.named
  have hlocks := B.notSynchronized
  have hAB : ∀ q : Nat, (fun q => B0 ≤ q) q → B0 ≤ q := fun _ h9 => h9
  have hS : va_S (fun q => B0 ≤ q) s.heap s.heap [] := va_S.rf
  have hin0 : ∀ w ∈ u_ws RX0 TX0 6, w ∈ wsX0_isRight := fun _ h9 => List.mem_cons_of_mem _ (List.mem_append_right _ (h9))
  have hl := lv_entry ([.ref h0, .int a1]) (n := 2) (Nat.le_of_ble_eq_true rfl)
  rw [lg_entry_eq]
  generalize (lg_sl ([.ref h0, .int a1]) ++ List.replicate (2 - (lg_sl ([.ref h0, .int a1])).length) Slot.unset).toArray = ls at hl ⊢
  have hl : lv_has ls 2 [(0, .ref h0), (1, .int a1)] := hl
  unfold fX0_isRight at h
  refine lv_aload_n hx hb dX0_isRight_0 rfl (lv_at hl 0 rfl) ?_
  refine lv_iload_n hx hb dX0_isRight_1 rfl (lv_at hl 1 rfl) ?_
  obtain ⟨r2, h1, h⟩ := fb_b1s h
  refine fb_callR (W.runV (As := [.int a1]) (rest := []) ⟨hx, hb, hml, hown, hts⟩ (metX0_isSet l D cI h0 qf qn qw ql B0 sz mi fg nt wt wl a1 r2 h1) (cwV 1 hts gX0_isRight_X0_isSet rfl rfl rfl (by decide +kernel) ⟨Nat.le_of_ble_eq_true rfl, Nat.le_of_ble_eq_true rfl⟩) (fb_preVR (ci := 0) fb_sX0p hP hK hZ hS hAB rfl rfl _) rfl rfl hl.1 rfl (lv_room (Nat.le_of_ble_eq_true rfl)) dX0_isRight_2 ⟨Nat.le_of_ble_eq_true rfl, Nat.le_of_ble_eq_true rfl⟩) ?_
  refine lv_if_eq (tgt := 38) hx hb dX0_isRight_5 (by decide) (fun c3 => ?_) (fun c3 => ?_)
  · replace h := fb_it c3 h
    refine lv_iconst (v := 0) hx hb dX0_isRight_38 (by decide) ?_
    have h := Option.some.inj h
    subst h
    exact W.zret (ty := .boolean) hx hb hr rfl (fun t ht _ => ⟨rfl, ht⟩) (fun q hq => absurd hq List.not_mem_nil) dX0_isRight_39
  · replace h := fb_ie c3 h
    refine lv_aload_n hx hb dX0_isRight_8 rfl (lv_at hl 0 rfl) ?_
    refine lv_iload_n hx hb dX0_isRight_9 rfl (lv_at hl 1 rfl) ?_
    refine lv_aload_n hx hb dX0_isRight_10 rfl (lv_at hl 0 rfl) ?_
    refine lv_iload_n hx hb dX0_isRight_11 rfl (lv_at hl 1 rfl) ?_
    refine lv_iconst (v := 1) hx hb dX0_isRight_12 (by decide) ?_
    obtain ⟨r6, h5, h⟩ := fb_b1s h
    refine fb_callR (W.runV (As := [.int a1, .int 1]) (rest := [.int a1, .ref h0]) ⟨hx, hb, hml, hown, hts⟩ (metX0_noteAt l D cI h0 qf qn qw ql B0 sz mi fg nt wt wl a1 1 r6 h5) (cwV 2 hts gX0_isRight_X0_noteAt rfl rfl rfl (by decide +kernel) ⟨Nat.le_of_ble_eq_true rfl, Nat.le_of_ble_eq_true rfl⟩) (fb_preVR (ci := 0) fb_sX0p hP hK hZ hS hAB rfl rfl _) rfl rfl hl.1 rfl (lv_room (Nat.le_of_ble_eq_true rfl)) dX0_isRight_13 ⟨Nat.le_of_ble_eq_true rfl, Nat.le_of_ble_eq_true rfl⟩) ?_
    refine lv_aload_n hx hb dX0_isRight_16 rfl (lv_at hl 0 rfl) ?_
    refine lv_iload_n hx hb dX0_isRight_17 rfl (lv_at hl 1 rfl) ?_
    refine lv_iconst (v := 2) hx hb dX0_isRight_18 (by decide) ?_
    obtain ⟨r8, h7, h⟩ := fb_b1s h
    refine fb_callR (W.runV (As := [.int a1, .int 2]) (rest := [.int r6, .int a1, .ref h0]) ⟨hx, hb, hml, hown, hts⟩ (metX0_noteAt l D cI h0 qf qn qw ql B0 sz mi fg nt wt wl a1 2 r8 h7) (cwV 2 hts gX0_isRight_X0_noteAt rfl rfl rfl (by decide +kernel) ⟨Nat.le_of_ble_eq_true rfl, Nat.le_of_ble_eq_true rfl⟩) (fb_preVR (ci := 0) fb_sX0p hP hK hZ hS hAB rfl rfl _) rfl rfl hl.1 rfl (lv_room (Nat.le_of_ble_eq_true rfl)) dX0_isRight_19 ⟨Nat.le_of_ble_eq_true rfl, Nat.le_of_ble_eq_true rfl⟩) ?_
    refine lv_aload_n hx hb dX0_isRight_22 rfl (lv_at hl 0 rfl) ?_
    refine lv_iload_n hx hb dX0_isRight_23 rfl (lv_at hl 1 rfl) ?_
    refine lv_iconst (v := 3) hx hb dX0_isRight_24 (by decide) ?_
    obtain ⟨r10, h9, h⟩ := fb_b1s h
    refine fb_callR (W.runV (As := [.int a1, .int 3]) (rest := [.int r8, .int r6, .int a1, .ref h0]) ⟨hx, hb, hml, hown, hts⟩ (metX0_noteAt l D cI h0 qf qn qw ql B0 sz mi fg nt wt wl a1 3 r10 h9) (cwV 2 hts gX0_isRight_X0_noteAt rfl rfl rfl (by decide +kernel) ⟨Nat.le_of_ble_eq_true rfl, Nat.le_of_ble_eq_true rfl⟩) (fb_preVR (ci := 0) fb_sX0p hP hK hZ hS hAB rfl rfl _) rfl rfl hl.1 rfl (lv_room (Nat.le_of_ble_eq_true rfl)) dX0_isRight_25 ⟨Nat.le_of_ble_eq_true rfl, Nat.le_of_ble_eq_true rfl⟩) ?_
    obtain ⟨r12, h11, h⟩ := fb_b1s h
    refine fb_callR (W.runV (As := [.int a1, .int r6, .int r8, .int r10]) (rest := []) ⟨hx, hb, hml, hown, hts⟩ (metX0_isRightWith l D cI h0 qf qn qw ql B0 sz mi fg nt wt wl a1 r6 r8 r10 r12 h11) (cwV 4 hts gX0_isRight_X0_isRightWith rfl rfl rfl (by decide +kernel) ⟨Nat.le_of_ble_eq_true rfl, Nat.le_of_ble_eq_true rfl⟩) (fb_preVR (ci := 0) fb_sX0p hP hK hZ hS hAB rfl rfl _) rfl rfl hl.1 rfl (lv_room (Nat.le_of_ble_eq_true rfl)) dX0_isRight_28 ⟨Nat.le_of_ble_eq_true rfl, Nat.le_of_ble_eq_true rfl⟩) ?_
    refine lv_if_eq (tgt := 38) hx hb dX0_isRight_31 (by decide) (fun c13 => ?_) (fun c13 => ?_)
    · replace h := fb_it c13 h
      refine lv_iconst (v := 0) hx hb dX0_isRight_38 (by decide) ?_
      have h := Option.some.inj h
      subst h
      exact W.zret (ty := .boolean) hx hb hr rfl (fun t ht _ => ⟨rfl, ht⟩) (fun q hq => absurd hq List.not_mem_nil) dX0_isRight_39
    · replace h := fb_ie c13 h
      refine lv_iconst (v := 1) hx hb dX0_isRight_34 (by decide) ?_
      refine lv_goto (tgt := 39) hx hb dX0_isRight_35 (by decide) ?_
      have h := Option.some.inj h
      subst h
      exact W.zret (ty := .boolean) hx hb hr rfl (fun t ht _ => ⟨rfl, ht⟩) (fun q hq => absurd hq List.not_mem_nil) dX0_isRight_39
abbrev rmX0_follows : Room := { frames := 2, cells := 0, slots := 0, locals := 43 }
set_option maxHeartbeats 8000000 in
set_option maxRecDepth 100000 in
theorem metX0_follows (l : Launch) (D : va_G) (cI : ClassId) (h0 qf qn qw ql B0 : Nat) (sz : Int32) (mi : Int32) (fg : Nat → Int32) (nt : Nat → Int32) (wt : Nat → Int32) (wl : Nat → Int32) (a1 : Int32) (ro : Int32) (h : fX0_follows sz mi fg nt wt wl a1 = some ro) : Met l yX0_follows wsX0_follows rmX0_follows (va_Pc [.ref h0, .int a1] (fb_ok D [(cI, .int)] B0 fb_sX0 (fb_wX0 cI h0 qf qn qw ql sz mi fg nt wt wl))) (QcRead ro) 0 0 (fun _ => False) := by
  refine Met.ofW (cc := cX0_follows) (maxL := 2) (ret := (some .boolean)) (by decide) rfl ?_
  intro p e s m args below meth c s₁ B hml hv
  obtain ⟨rfl, hP, hK, hZ⟩ := hv
  have hx := B.exec
  have hb := B.bytes
  have hr := B.returns
  have hts := atoms_spec (ws := wsX0_follows) B.pre
  have hown : s.vm.findClass RX0 = some m.cls := findClass_of_methodNamed B.named
  have hlocks := B.notSynchronized
  have hAB : ∀ q : Nat, (fun q => B0 ≤ q) q → B0 ≤ q := fun _ h9 => h9
  have hS : va_S (fun q => B0 ≤ q) s.heap s.heap [] := va_S.rf
  have hin0 : ∀ w ∈ u_ws RX0 TX0 6, w ∈ wsX0_follows := fun _ h9 => List.mem_cons_of_mem _ (List.mem_append_right _ (h9))
  have hl := lv_entry ([.ref h0, .int a1]) (n := 2) (Nat.le_of_ble_eq_true rfl)
  rw [lg_entry_eq]
  generalize (lg_sl ([.ref h0, .int a1]) ++ List.replicate (2 - (lg_sl ([.ref h0, .int a1])).length) Slot.unset).toArray = ls at hl ⊢
  have hl : lv_has ls 2 [(0, .ref h0), (1, .int a1)] := hl
  unfold fX0_follows at h
  refine lv_aload_n hx hb dX0_follows_0 rfl (lv_at hl 0 rfl) ?_
  refine lv_iload_n hx hb dX0_follows_1 rfl (lv_at hl 1 rfl) ?_
  obtain ⟨r2, h1, h⟩ := fb_b1s h
  refine fb_callR (W.runV (As := [.int a1]) (rest := []) ⟨hx, hb, hml, hown, hts⟩ (metX0_isSet l D cI h0 qf qn qw ql B0 sz mi fg nt wt wl a1 r2 h1) (cwV 1 hts gX0_follows_X0_isSet rfl rfl rfl (by decide +kernel) ⟨Nat.le_of_ble_eq_true rfl, Nat.le_of_ble_eq_true rfl⟩) (fb_preVR (ci := 0) fb_sX0p hP hK hZ hS hAB rfl rfl _) rfl rfl hl.1 rfl (lv_room (Nat.le_of_ble_eq_true rfl)) dX0_follows_2 ⟨Nat.le_of_ble_eq_true rfl, Nat.le_of_ble_eq_true rfl⟩) ?_
  refine lv_if_eq (tgt := 22) hx hb dX0_follows_5 (by decide) (fun c3 => ?_) (fun c3 => ?_)
  · replace h := fb_it c3 h
    refine lv_iconst (v := 0) hx hb dX0_follows_22 (by decide) ?_
    have h := Option.some.inj h
    subst h
    exact W.zret (ty := .boolean) hx hb hr rfl (fun t ht _ => ⟨rfl, ht⟩) (fun q hq => absurd hq List.not_mem_nil) dX0_follows_23
  · replace h := fb_ie c3 h
    refine lv_aload_n hx hb dX0_follows_8 rfl (lv_at hl 0 rfl) ?_
    refine lv_iload_n hx hb dX0_follows_9 rfl (lv_at hl 1 rfl) ?_
    refine lv_iconst (v := 1) hx hb dX0_follows_10 (by decide) ?_
    refine lv_isub hx hb dX0_follows_11 ?_
    obtain ⟨r6, h5, h⟩ := fb_b1s h
    refine fb_callR (W.runV (As := [.int (a1 - 1)]) (rest := []) ⟨hx, hb, hml, hown, hts⟩ (metX0_isSet l D cI h0 qf qn qw ql B0 sz mi fg nt wt wl (a1 - 1) r6 h5) (cwV 1 hts gX0_follows_X0_isSet rfl rfl rfl (by decide +kernel) ⟨Nat.le_of_ble_eq_true rfl, Nat.le_of_ble_eq_true rfl⟩) (fb_preVR (ci := 0) fb_sX0p hP hK hZ hS hAB rfl rfl _) rfl rfl hl.1 rfl (lv_room (Nat.le_of_ble_eq_true rfl)) dX0_follows_12 ⟨Nat.le_of_ble_eq_true rfl, Nat.le_of_ble_eq_true rfl⟩) ?_
    refine lv_if_eq (tgt := 22) hx hb dX0_follows_15 (by decide) (fun c7 => ?_) (fun c7 => ?_)
    · replace h := fb_it c7 h
      refine lv_iconst (v := 0) hx hb dX0_follows_22 (by decide) ?_
      have h := Option.some.inj h
      subst h
      exact W.zret (ty := .boolean) hx hb hr rfl (fun t ht _ => ⟨rfl, ht⟩) (fun q hq => absurd hq List.not_mem_nil) dX0_follows_23
    · replace h := fb_ie c7 h
      refine lv_iconst (v := 1) hx hb dX0_follows_18 (by decide) ?_
      refine lv_goto (tgt := 23) hx hb dX0_follows_19 (by decide) ?_
      have h := Option.some.inj h
      subst h
      exact W.zret (ty := .boolean) hx hb hr rfl (fun t ht _ => ⟨rfl, ht⟩) (fun q hq => absurd hq List.not_mem_nil) dX0_follows_23
