/-! Contracts, printed by wip/whole/gen.py. -/
abbrev rmX1_init : Room := { frames := 1, cells := 3, slots := 68, locals := 21 }
set_option maxHeartbeats 8000000 in
set_option maxRecDepth 100000 in
theorem metX1_init (l : Launch) (D : va_G) (cI : ClassId) (h0 B0 : Nat) (hz : Nat) (tho : Int32) (cho : Int32) (nto : Nat → Int32) (fgo : Nat → Int32) (wto : Nat → Int32) (mio : Int32) (h : fX1_init  = some (tho, cho, nto, fgo, wto, mio)) : Met l yX1_init wsX1_init rmX1_init (va_Pc [.ref h0] (fb_pm D [(cI, .int)] B0 fb_sX1 ([(h0, .inr (1, [.int 0, .int 0, .null, .null, .null, .int 0]))]) hz)) (fb_qX1i D cI h0 tho cho nto fgo wto mio (va_A ([(h0, .inr (1, [.int 0, .int 0, .null, .null, .null, .int 0]))]) hz)) 3 68 (va_A ([(h0, .inr (1, [.int 0, .int 0, .null, .null, .null, .int 0]))]) hz) := by
  refine Met.ofW (cc := cX1_init) (maxL := 1) (ret := none) (by decide) rfl ?_
  intro p e s m args below meth c s₁ B hml hv
  obtain ⟨rfl, hsz, ⟨hP, hK, hZ⟩, hD0, hAB⟩ := hv
  have hx := B.exec
  have hb := B.bytes
  have hr := B.returns
  have hts := atoms_spec (ws := wsX1_init) B.pre
  have hown : s.vm.findClass RX1 = some m.cls := findClass_of_methodNamed B.named
  have hlocks := B.notSynchronized
  have hin : meth.name = "<init>" := (name_of_methodNamed B.named B.method).1
  subst hsz
  have hD := hD0.self (sz := s.heap.size)
  generalize hAe : va_A ([(h0, .inr (1, [.int 0, .int 0, .null, .null, .null, .int 0]))]) s.heap.size = A at hD hAB ⊢
  have hA : ∀ q : Nat, s.heap.size ≤ q → A q := fun q h9 => by rw [← hAe]; exact Or.inr h9
  have hS : va_S A s.heap s.heap [] := va_S.rf
  have hP : va_P D vwCl ([(h0, .inr (1, [.int 0, .int 0, .null, .null, .null, .int 0]))]) s.heap := hP
  have hin0 : ∀ w ∈ u_ws RX1 TX1 6, w ∈ wsX1_init := fun _ h9 => List.mem_cons_of_mem _ (List.mem_append_right _ (h9))
  have w_arr : (Cond.arrayClass .int) ∈ wsX1_init := List.mem_of_getElem? (i := 4) rfl
  have w_f13 : (Cond.fieldLink RX1 13 "FiguredBassModel" "figures" "[I") ∈ wsX1_init := List.mem_of_getElem? (i := 6) rfl
  have w_f16 : (Cond.fieldLink RX1 16 "FiguredBassModel" "weights" "[I") ∈ wsX1_init := List.mem_of_getElem? (i := 7) rfl
  have w_f9 : (Cond.fieldLink RX1 9 "FiguredBassModel" "notes" "[I") ∈ wsX1_init := List.mem_of_getElem? (i := 5) rfl
  have w_m1 : (Cond.methodLink RX1 1 objectInit) ∈ wsX1_init := List.mem_of_getElem? (i := 1) rfl
  have w_oc : (Cond.code objectInit ⟨#[0xb1]⟩ 1 none) ∈ wsX1_init := List.mem_of_getElem? (i := 3) rfl
  have w_oi : (Cond.instanceMethod objectInit) ∈ wsX1_init := List.mem_of_getElem? (i := 2) rfl
  have hl := lv_entry ([.ref h0]) (n := 1) (Nat.le_of_ble_eq_true rfl)
  rw [lg_entry_eq]
  generalize (lg_sl ([.ref h0]) ++ List.replicate (1 - (lg_sl ([.ref h0])).length) Slot.unset).toArray = ls at hl ⊢
  have hl : lv_has ls 1 [(0, .ref h0)] := hl
  suffices K : ∀ (H : Heap) (locs : List Loc), va_P D vwCl ([(h0, .inr (1, [.int 0, .int 0, .null, .null, .null, .int 0]))]) H → va_S A s.heap H locs → W p l e (headSpec wsX1_init rmX1_init).room s m ([.ref h0] : List Value).toArray below meth c H locs 0 0 (MQ below (fb_qX1i D cI h0 tho cho nto fgo wto mio A) ([.ref h0] : List Value).toArray s 3 68 A) (F0 m 0 ls []) from K s.heap [] hP hS
  intro H locs hP hS
  unfold fX1_init at h
  refine lv_aload_n hx hb dX1_init_0 rfl (lv_at hl 0 rfl) ?_
  refine W.objInit hx hb hown (hts _ w_m1) (hts _ w_oi) (hts _ w_oc) rfl (by rw [hml]; exact hl.1) rfl dX1_init_1 (Nat.le_of_ble_eq_true rfl) (Nat.le_of_ble_eq_true rfl) ?_
  refine W.eq (g2 := F0 m 4 ls []) rfl ?_
  refine lv_aload_n hx hb dX1_init_4 rfl (lv_at hl 0 rfl) ?_
  refine lv_bipush (v := 48) hx hb dX1_init_5 (by decide) ?_
  refine va_newa (atype := .int) hx hb (hts _ w_arr) (ty := .int) rfl hK hP hD hS hA (N' := 48) (a0 := (48, .inl (fun _ => 0))) (fun _ => rfl) (by decide) (by decide) (by decide) (Nat.le_of_ble_eq_true rfl) (Nat.le_of_ble_eq_true rfl) dX1_init_7 (fun q1 cA H hK1 hP hD hS => ?_)
  obtain rfl := fb_cA hK1
  have hP : va_P D vwCl ([(h0, .inr (1, [.int 0, .int 0, .null, .null, .null, .int 0])), (q1, .inl (cI, 48, .inl (fun _ => 0)))]) H := hP
  have hD : va_D A ([(h0, .inr (1, [.int 0, .int 0, .null, .null, .null, .int 0])), (q1, .inl (cI, 48, .inl (fun _ => 0)))]) := hD
  refine va_putF (D := D) (ci := 1) (v := .ref q1) (ty := .array .int) (C := RX1) (T := TX1) (N := 6) hx hb hts hin0 tyX1 tyX1_ok nmX1 hown hK hP hD hS 0 rfl rfl 2 (by decide) (hts _ w_f9) (fun _ h9 => h9) rfl hin rfl (by decide +kernel) rfl rfl (Nat.le_of_ble_eq_true rfl) dX1_init_9 (fun H locs hP hD hS => ?_)
  have hP : va_P D vwCl ([(h0, .inr (1, [.int 0, .int 0, .ref q1, .null, .null, .int 0])), (q1, .inl (cI, 48, .inl (fun _ => 0)))]) H := hP
  have hD : va_D A ([(h0, .inr (1, [.int 0, .int 0, .ref q1, .null, .null, .int 0])), (q1, .inl (cI, 48, .inl (fun _ => 0)))]) := hD
  refine lv_aload_n hx hb dX1_init_12 rfl (lv_at hl 0 rfl) ?_
  refine lv_bipush (v := 12) hx hb dX1_init_13 (by decide) ?_
  refine va_newa (atype := .int) hx hb (hts _ w_arr) (ty := .int) rfl hK hP hD hS hA (N' := 12) (a0 := (12, .inl (fun _ => 0))) (fun _ => rfl) (by decide) (by decide) (by decide) (Nat.le_of_ble_eq_true rfl) (Nat.le_of_ble_eq_true rfl) dX1_init_15 (fun q2 cA H hK1 hP hD hS => ?_)
  obtain rfl := fb_cA hK1
  have hP : va_P D vwCl ([(h0, .inr (1, [.int 0, .int 0, .ref q1, .null, .null, .int 0])), (q1, .inl (cI, 48, .inl (fun _ => 0))), (q2, .inl (cI, 12, .inl (fun _ => 0)))]) H := hP
  have hD : va_D A ([(h0, .inr (1, [.int 0, .int 0, .ref q1, .null, .null, .int 0])), (q1, .inl (cI, 48, .inl (fun _ => 0))), (q2, .inl (cI, 12, .inl (fun _ => 0)))]) := hD
  refine va_putF (D := D) (ci := 1) (v := .ref q2) (ty := .array .int) (C := RX1) (T := TX1) (N := 6) hx hb hts hin0 tyX1 tyX1_ok nmX1 hown hK hP hD hS 0 rfl rfl 3 (by decide) (hts _ w_f13) (fun _ h9 => h9) rfl hin rfl (by decide +kernel) rfl rfl (Nat.le_of_ble_eq_true rfl) dX1_init_17 (fun H locs hP hD hS => ?_)
  have hP : va_P D vwCl ([(h0, .inr (1, [.int 0, .int 0, .ref q1, .ref q2, .null, .int 0])), (q1, .inl (cI, 48, .inl (fun _ => 0))), (q2, .inl (cI, 12, .inl (fun _ => 0)))]) H := hP
  have hD : va_D A ([(h0, .inr (1, [.int 0, .int 0, .ref q1, .ref q2, .null, .int 0])), (q1, .inl (cI, 48, .inl (fun _ => 0))), (q2, .inl (cI, 12, .inl (fun _ => 0)))]) := hD
  refine lv_aload_n hx hb dX1_init_20 rfl (lv_at hl 0 rfl) ?_
  refine lv_bipush (v := 8) hx hb dX1_init_21 (by decide) ?_
  refine va_newa (atype := .int) hx hb (hts _ w_arr) (ty := .int) rfl hK hP hD hS hA (N' := 8) (a0 := (8, .inl (fun _ => 0))) (fun _ => rfl) (by decide) (by decide) (by decide) (Nat.le_of_ble_eq_true rfl) (Nat.le_of_ble_eq_true rfl) dX1_init_23 (fun q3 cA H hK1 hP hD hS => ?_)
  obtain rfl := fb_cA hK1
  have hP : va_P D vwCl ([(h0, .inr (1, [.int 0, .int 0, .ref q1, .ref q2, .null, .int 0])), (q1, .inl (cI, 48, .inl (fun _ => 0))), (q2, .inl (cI, 12, .inl (fun _ => 0))), (q3, .inl (cI, 8, .inl (fun _ => 0)))]) H := hP
  have hD : va_D A ([(h0, .inr (1, [.int 0, .int 0, .ref q1, .ref q2, .null, .int 0])), (q1, .inl (cI, 48, .inl (fun _ => 0))), (q2, .inl (cI, 12, .inl (fun _ => 0))), (q3, .inl (cI, 8, .inl (fun _ => 0)))]) := hD
  refine lv_dup hx hb dX1_init_25 rfl ?_
  refine lv_iconst (v := 0) hx hb dX1_init_26 (by decide) ?_
  refine lv_iconst (v := 2) hx hb dX1_init_27 (by decide) ?_
  refine va_iast hx hb hK hP hD hS 3 0 rfl rfl (fb_ixin (by decide)) dX1_init_28 (fun H locs hP hD hS => ?_)
  have hP : va_P D vwCl ([(h0, .inr (1, [.int 0, .int 0, .ref q1, .ref q2, .null, .int 0])), (q1, .inl (cI, 48, .inl (fun _ => 0))), (q2, .inl (cI, 12, .inl (fun _ => 0))), (q3, .inl (cI, 8, .inl (upd (fun _ => 0) (0 : Int32).toNatClampNeg 2)))]) H := hP
  have hD : va_D A ([(h0, .inr (1, [.int 0, .int 0, .ref q1, .ref q2, .null, .int 0])), (q1, .inl (cI, 48, .inl (fun _ => 0))), (q2, .inl (cI, 12, .inl (fun _ => 0))), (q3, .inl (cI, 8, .inl (upd (fun _ => 0) (0 : Int32).toNatClampNeg 2)))]) := hD
  refine lv_dup hx hb dX1_init_29 rfl ?_
  refine lv_iconst (v := 1) hx hb dX1_init_30 (by decide) ?_
  refine lv_iconst (v := 2) hx hb dX1_init_31 (by decide) ?_
  refine va_iast hx hb hK hP hD hS 3 0 rfl rfl (fb_ixin (by decide)) dX1_init_32 (fun H locs hP hD hS => ?_)
  have hP : va_P D vwCl ([(h0, .inr (1, [.int 0, .int 0, .ref q1, .ref q2, .null, .int 0])), (q1, .inl (cI, 48, .inl (fun _ => 0))), (q2, .inl (cI, 12, .inl (fun _ => 0))), (q3, .inl (cI, 8, .inl (upd (upd (fun _ => 0) (0 : Int32).toNatClampNeg 2) (1 : Int32).toNatClampNeg 2)))]) H := hP
  have hD : va_D A ([(h0, .inr (1, [.int 0, .int 0, .ref q1, .ref q2, .null, .int 0])), (q1, .inl (cI, 48, .inl (fun _ => 0))), (q2, .inl (cI, 12, .inl (fun _ => 0))), (q3, .inl (cI, 8, .inl (upd (upd (fun _ => 0) (0 : Int32).toNatClampNeg 2) (1 : Int32).toNatClampNeg 2)))]) := hD
  refine lv_dup hx hb dX1_init_33 rfl ?_
  refine lv_iconst (v := 2) hx hb dX1_init_34 (by decide) ?_
  refine lv_iconst (v := 2) hx hb dX1_init_35 (by decide) ?_
  refine va_iast hx hb hK hP hD hS 3 0 rfl rfl (fb_ixin (by decide)) dX1_init_36 (fun H locs hP hD hS => ?_)
  have hP : va_P D vwCl ([(h0, .inr (1, [.int 0, .int 0, .ref q1, .ref q2, .null, .int 0])), (q1, .inl (cI, 48, .inl (fun _ => 0))), (q2, .inl (cI, 12, .inl (fun _ => 0))), (q3, .inl (cI, 8, .inl (upd (upd (upd (fun _ => 0) (0 : Int32).toNatClampNeg 2) (1 : Int32).toNatClampNeg 2) (2 : Int32).toNatClampNeg 2)))]) H := hP
  have hD : va_D A ([(h0, .inr (1, [.int 0, .int 0, .ref q1, .ref q2, .null, .int 0])), (q1, .inl (cI, 48, .inl (fun _ => 0))), (q2, .inl (cI, 12, .inl (fun _ => 0))), (q3, .inl (cI, 8, .inl (upd (upd (upd (fun _ => 0) (0 : Int32).toNatClampNeg 2) (1 : Int32).toNatClampNeg 2) (2 : Int32).toNatClampNeg 2)))]) := hD
  refine lv_dup hx hb dX1_init_37 rfl ?_
  refine lv_iconst (v := 3) hx hb dX1_init_38 (by decide) ?_
  refine lv_iconst (v := 2) hx hb dX1_init_39 (by decide) ?_
  refine va_iast hx hb hK hP hD hS 3 0 rfl rfl (fb_ixin (by decide)) dX1_init_40 (fun H locs hP hD hS => ?_)
  have hP : va_P D vwCl ([(h0, .inr (1, [.int 0, .int 0, .ref q1, .ref q2, .null, .int 0])), (q1, .inl (cI, 48, .inl (fun _ => 0))), (q2, .inl (cI, 12, .inl (fun _ => 0))), (q3, .inl (cI, 8, .inl (upd (upd (upd (upd (fun _ => 0) (0 : Int32).toNatClampNeg 2) (1 : Int32).toNatClampNeg 2) (2 : Int32).toNatClampNeg 2) (3 : Int32).toNatClampNeg 2)))]) H := hP
  have hD : va_D A ([(h0, .inr (1, [.int 0, .int 0, .ref q1, .ref q2, .null, .int 0])), (q1, .inl (cI, 48, .inl (fun _ => 0))), (q2, .inl (cI, 12, .inl (fun _ => 0))), (q3, .inl (cI, 8, .inl (upd (upd (upd (upd (fun _ => 0) (0 : Int32).toNatClampNeg 2) (1 : Int32).toNatClampNeg 2) (2 : Int32).toNatClampNeg 2) (3 : Int32).toNatClampNeg 2)))]) := hD
  refine lv_dup hx hb dX1_init_41 rfl ?_
  refine lv_iconst (v := 4) hx hb dX1_init_42 (by decide) ?_
  refine lv_iconst (v := 2) hx hb dX1_init_43 (by decide) ?_
  refine va_iast hx hb hK hP hD hS 3 0 rfl rfl (fb_ixin (by decide)) dX1_init_44 (fun H locs hP hD hS => ?_)
  have hP : va_P D vwCl ([(h0, .inr (1, [.int 0, .int 0, .ref q1, .ref q2, .null, .int 0])), (q1, .inl (cI, 48, .inl (fun _ => 0))), (q2, .inl (cI, 12, .inl (fun _ => 0))), (q3, .inl (cI, 8, .inl (upd (upd (upd (upd (upd (fun _ => 0) (0 : Int32).toNatClampNeg 2) (1 : Int32).toNatClampNeg 2) (2 : Int32).toNatClampNeg 2) (3 : Int32).toNatClampNeg 2) (4 : Int32).toNatClampNeg 2)))]) H := hP
  have hD : va_D A ([(h0, .inr (1, [.int 0, .int 0, .ref q1, .ref q2, .null, .int 0])), (q1, .inl (cI, 48, .inl (fun _ => 0))), (q2, .inl (cI, 12, .inl (fun _ => 0))), (q3, .inl (cI, 8, .inl (upd (upd (upd (upd (upd (fun _ => 0) (0 : Int32).toNatClampNeg 2) (1 : Int32).toNatClampNeg 2) (2 : Int32).toNatClampNeg 2) (3 : Int32).toNatClampNeg 2) (4 : Int32).toNatClampNeg 2)))]) := hD
  refine lv_dup hx hb dX1_init_45 rfl ?_
  refine lv_iconst (v := 5) hx hb dX1_init_46 (by decide) ?_
  refine lv_iconst (v := 2) hx hb dX1_init_47 (by decide) ?_
  refine va_iast hx hb hK hP hD hS 3 0 rfl rfl (fb_ixin (by decide)) dX1_init_48 (fun H locs hP hD hS => ?_)
  have hP : va_P D vwCl ([(h0, .inr (1, [.int 0, .int 0, .ref q1, .ref q2, .null, .int 0])), (q1, .inl (cI, 48, .inl (fun _ => 0))), (q2, .inl (cI, 12, .inl (fun _ => 0))), (q3, .inl (cI, 8, .inl (upd (upd (upd (upd (upd (upd (fun _ => 0) (0 : Int32).toNatClampNeg 2) (1 : Int32).toNatClampNeg 2) (2 : Int32).toNatClampNeg 2) (3 : Int32).toNatClampNeg 2) (4 : Int32).toNatClampNeg 2) (5 : Int32).toNatClampNeg 2)))]) H := hP
  have hD : va_D A ([(h0, .inr (1, [.int 0, .int 0, .ref q1, .ref q2, .null, .int 0])), (q1, .inl (cI, 48, .inl (fun _ => 0))), (q2, .inl (cI, 12, .inl (fun _ => 0))), (q3, .inl (cI, 8, .inl (upd (upd (upd (upd (upd (upd (fun _ => 0) (0 : Int32).toNatClampNeg 2) (1 : Int32).toNatClampNeg 2) (2 : Int32).toNatClampNeg 2) (3 : Int32).toNatClampNeg 2) (4 : Int32).toNatClampNeg 2) (5 : Int32).toNatClampNeg 2)))]) := hD
  refine lv_dup hx hb dX1_init_49 rfl ?_
  refine lv_bipush (v := 6) hx hb dX1_init_50 (by decide) ?_
  refine lv_iconst (v := 2) hx hb dX1_init_52 (by decide) ?_
  refine va_iast hx hb hK hP hD hS 3 0 rfl rfl (fb_ixin (by decide)) dX1_init_53 (fun H locs hP hD hS => ?_)
  have hP : va_P D vwCl ([(h0, .inr (1, [.int 0, .int 0, .ref q1, .ref q2, .null, .int 0])), (q1, .inl (cI, 48, .inl (fun _ => 0))), (q2, .inl (cI, 12, .inl (fun _ => 0))), (q3, .inl (cI, 8, .inl (upd (upd (upd (upd (upd (upd (upd (fun _ => 0) (0 : Int32).toNatClampNeg 2) (1 : Int32).toNatClampNeg 2) (2 : Int32).toNatClampNeg 2) (3 : Int32).toNatClampNeg 2) (4 : Int32).toNatClampNeg 2) (5 : Int32).toNatClampNeg 2) (6 : Int32).toNatClampNeg 2)))]) H := hP
  have hD : va_D A ([(h0, .inr (1, [.int 0, .int 0, .ref q1, .ref q2, .null, .int 0])), (q1, .inl (cI, 48, .inl (fun _ => 0))), (q2, .inl (cI, 12, .inl (fun _ => 0))), (q3, .inl (cI, 8, .inl (upd (upd (upd (upd (upd (upd (upd (fun _ => 0) (0 : Int32).toNatClampNeg 2) (1 : Int32).toNatClampNeg 2) (2 : Int32).toNatClampNeg 2) (3 : Int32).toNatClampNeg 2) (4 : Int32).toNatClampNeg 2) (5 : Int32).toNatClampNeg 2) (6 : Int32).toNatClampNeg 2)))]) := hD
  refine lv_dup hx hb dX1_init_54 rfl ?_
  refine lv_bipush (v := 7) hx hb dX1_init_55 (by decide) ?_
  refine lv_iconst (v := 2) hx hb dX1_init_57 (by decide) ?_
  refine va_iast hx hb hK hP hD hS 3 0 rfl rfl (fb_ixin (by decide)) dX1_init_58 (fun H locs hP hD hS => ?_)
  have hP : va_P D vwCl ([(h0, .inr (1, [.int 0, .int 0, .ref q1, .ref q2, .null, .int 0])), (q1, .inl (cI, 48, .inl (fun _ => 0))), (q2, .inl (cI, 12, .inl (fun _ => 0))), (q3, .inl (cI, 8, .inl (upd (upd (upd (upd (upd (upd (upd (upd (fun _ => 0) (0 : Int32).toNatClampNeg 2) (1 : Int32).toNatClampNeg 2) (2 : Int32).toNatClampNeg 2) (3 : Int32).toNatClampNeg 2) (4 : Int32).toNatClampNeg 2) (5 : Int32).toNatClampNeg 2) (6 : Int32).toNatClampNeg 2) (7 : Int32).toNatClampNeg 2)))]) H := hP
  have hD : va_D A ([(h0, .inr (1, [.int 0, .int 0, .ref q1, .ref q2, .null, .int 0])), (q1, .inl (cI, 48, .inl (fun _ => 0))), (q2, .inl (cI, 12, .inl (fun _ => 0))), (q3, .inl (cI, 8, .inl (upd (upd (upd (upd (upd (upd (upd (upd (fun _ => 0) (0 : Int32).toNatClampNeg 2) (1 : Int32).toNatClampNeg 2) (2 : Int32).toNatClampNeg 2) (3 : Int32).toNatClampNeg 2) (4 : Int32).toNatClampNeg 2) (5 : Int32).toNatClampNeg 2) (6 : Int32).toNatClampNeg 2) (7 : Int32).toNatClampNeg 2)))]) := hD
  refine va_putF (D := D) (ci := 1) (v := .ref q3) (ty := .array .int) (C := RX1) (T := TX1) (N := 6) hx hb hts hin0 tyX1 tyX1_ok nmX1 hown hK hP hD hS 0 rfl rfl 4 (by decide) (hts _ w_f16) (fun _ h9 => h9) rfl hin rfl (by decide +kernel) rfl rfl (Nat.le_of_ble_eq_true rfl) dX1_init_59 (fun H locs hP hD hS => ?_)
  have hP : va_P D vwCl ([(h0, .inr (1, [.int 0, .int 0, .ref q1, .ref q2, .ref q3, .int 0])), (q1, .inl (cI, 48, .inl (fun _ => 0))), (q2, .inl (cI, 12, .inl (fun _ => 0))), (q3, .inl (cI, 8, .inl (upd (upd (upd (upd (upd (upd (upd (upd (fun _ => 0) (0 : Int32).toNatClampNeg 2) (1 : Int32).toNatClampNeg 2) (2 : Int32).toNatClampNeg 2) (3 : Int32).toNatClampNeg 2) (4 : Int32).toNatClampNeg 2) (5 : Int32).toNatClampNeg 2) (6 : Int32).toNatClampNeg 2) (7 : Int32).toNatClampNeg 2)))]) H := hP
  have hD : va_D A ([(h0, .inr (1, [.int 0, .int 0, .ref q1, .ref q2, .ref q3, .int 0])), (q1, .inl (cI, 48, .inl (fun _ => 0))), (q2, .inl (cI, 12, .inl (fun _ => 0))), (q3, .inl (cI, 8, .inl (upd (upd (upd (upd (upd (upd (upd (upd (fun _ => 0) (0 : Int32).toNatClampNeg 2) (1 : Int32).toNatClampNeg 2) (2 : Int32).toNatClampNeg 2) (3 : Int32).toNatClampNeg 2) (4 : Int32).toNatClampNeg 2) (5 : Int32).toNatClampNeg 2) (6 : Int32).toNatClampNeg 2) (7 : Int32).toNatClampNeg 2)))]) := hD
  obtain ⟨e1, e2, e3, e4, e5, e6⟩ := fb_p6 h
  subst e1
  subst e2
  subst e3
  subst e4
  subst e5
  subst e6
  have hP : va_P D vwCl (fb_wX1 cI h0 q1 q2 q3 0 0 (fun _ => 0) (fun _ => 0) (upd (upd (upd (upd (upd (upd (upd (upd (fun _ => 0) (0 : Int32).toNatClampNeg 2) (1 : Int32).toNatClampNeg 2) (2 : Int32).toNatClampNeg 2) (3 : Int32).toNatClampNeg 2) (4 : Int32).toNatClampNeg 2) (5 : Int32).toNatClampNeg 2) (6 : Int32).toNatClampNeg 2) (7 : Int32).toNatClampNeg 2) 0) H := hP.sub [0, 1, 2, 3] rfl
  have hD : va_D A (fb_wX1 cI h0 q1 q2 q3 0 0 (fun _ => 0) (fun _ => 0) (upd (upd (upd (upd (upd (upd (upd (upd (fun _ => 0) (0 : Int32).toNatClampNeg 2) (1 : Int32).toNatClampNeg 2) (2 : Int32).toNatClampNeg 2) (3 : Int32).toNatClampNeg 2) (4 : Int32).toNatClampNeg 2) (5 : Int32).toNatClampNeg 2) (6 : Int32).toNatClampNeg 2) (7 : Int32).toNatClampNeg 2) 0) := hD.sub [0, 1, 2, 3] (by decide) rfl
  exact W.vret hx hb hr (fun t ht _ => ⟨⟨q1, q2, q3, rfl, by rw [ht]; exact hP, hD⟩, hS.F ht⟩) hS.2.2 dX1_init_62
abbrev rmX1_mean : Room := { frames := 7, cells := 0, slots := 0, locals := 163 }
set_option maxHeartbeats 8000000 in
set_option maxRecDepth 100000 in
theorem metX1_mean (l : Launch) (D : va_G) (cI : ClassId) (h0 qn qf qw B0 : Nat) (th : Int32) (ch : Int32) (nt : Nat → Int32) (fg : Nat → Int32) (wt : Nat → Int32) (mi : Int32) (hz : Nat) (ro : UInt64) (tho : Int32) (h : fX1_mean th ch nt fg wt mi = some (ro, tho)) : MetD lw_cs l yX1_mean wsX1_mean rmX1_mean (va_Pc [.ref h0] (fb_pm D [(cI, .int)] B0 fb_sX1 (fb_wX1 cI h0 qn qf qw th ch nt fg wt mi) hz)) (va_Qd (fun (r : UInt64) (_ : Unit) => alike64 r ro = true) (fun _ t => va_P D vwCl (fb_wX1 cI h0 qn qf qw tho ch nt fg wt mi) t.heap ∧ va_D (va_A (fb_wX1 cI h0 qn qf qw th ch nt fg wt mi) hz) (fb_wX1 cI h0 qn qf qw tho ch nt fg wt mi)) (va_A (fb_wX1 cI h0 qn qf qw th ch nt fg wt mi) hz)) 0 0 (va_A (fb_wX1 cI h0 qn qf qw th ch nt fg wt mi) hz) := by
  refine MetD.ofW (cc := cX1_mean) (maxL := 1) (ret := (some .double)) (by decide) rfl ?_
  intro p e s m args below meth c s₁ B hml hv hd0
  obtain ⟨rfl, hsz, ⟨hP, hK, hZ⟩, hD0, hAB⟩ := hv
  have hx := B.exec
  have hb := B.bytes
  have hr := B.returns
  have hts := atoms_spec (ws := wsX1_mean) B.pre
  have hown : s.vm.findClass RX1 = some m.cls := findClass_of_methodNamed B.named
  have hlocks := B.notSynchronized
  subst hsz
  have hD := hD0.self (sz := s.heap.size)
  generalize hAe : va_A (fb_wX1 cI h0 qn qf qw th ch nt fg wt mi) s.heap.size = A at hD hAB ⊢
  have hA : ∀ q : Nat, s.heap.size ≤ q → A q := fun q h9 => by rw [← hAe]; exact Or.inr h9
  have hS : va_S A s.heap s.heap [] := va_S.rf
  have hP : va_P D vwCl (fb_wX1 cI h0 qn qf qw th ch nt fg wt mi) s.heap := hP
  have hin0 : ∀ w ∈ u_ws RX1 TX1 6, w ∈ wsX1_mean := fun _ h9 => List.mem_cons_of_mem _ (List.mem_append_right _ (h9))
  have w_f19 : (Cond.fieldLink RX1 19 "FiguredBassModel" "thrown" "I") ∈ wsX1_mean := List.mem_of_getElem? (i := 1) rfl
  have hl := lv_entry ([.ref h0]) (n := 1) (Nat.le_of_ble_eq_true rfl)
  change W p l e _ s _ _ _ _ _ _ _ _ _ _ _
  rw [lg_entry_eq]
  generalize (lg_sl ([.ref h0]) ++ List.replicate (1 - (lg_sl ([.ref h0])).length) Slot.unset).toArray = ls at hl ⊢
  have hl : lv_has ls 1 [(0, .ref h0)] := hl
  suffices K : ∀ (H : Heap) (locs : List Loc), va_P D vwCl (fb_wX1 cI h0 qn qf qw th ch nt fg wt mi) H → va_S A s.heap H locs → W p l e (headSpec wsX1_mean rmX1_mean).room s m ([.ref h0] : List Value).toArray below meth c H locs 0 0 (MQD lw_cs below (va_Qd (fun (r : UInt64) (_ : Unit) => alike64 r ro = true) (fun _ t => va_P D vwCl (fb_wX1 cI h0 qn qf qw tho ch nt fg wt mi) t.heap ∧ va_D A (fb_wX1 cI h0 qn qf qw tho ch nt fg wt mi)) A) ([.ref h0] : List Value).toArray s 0 0 A) (F0 m 0 ls []) from K s.heap [] hP hS
  intro H locs hP hS
  unfold fX1_mean at h
  refine lv_aload_n hx hb dX1_mean_0 rfl (lv_at hl 0 rfl) ?_
  refine lv_iconst (v := 0) hx hb dX1_mean_1 (by decide) ?_
  refine va_put (D := D) (ci := 1) (v := .int 0) (ty := .int) (C := RX1) (T := TX1) (N := 6) hx hb hts hin0 tyX1 tyX1_ok nmX1 hown hK hP hD hS 0 rfl rfl 0 (by decide) (hts _ w_f19) (fun _ h9 => h9) rfl (by decide +kernel) rfl rfl (Nat.le_of_ble_eq_true rfl) dX1_mean_2 (fun H locs hP hD hS => ?_)
  have hP : va_P D vwCl (fb_wX1 cI h0 qn qf qw 0 ch nt fg wt mi) H := hP
  have hD : va_D A (fb_wX1 cI h0 qn qf qw 0 ch nt fg wt mi) := hD
  refine lv_aload_n hx hb dX1_mean_5 rfl (lv_at hl 0 rfl) ?_
  refine lv_iconst (v := 2) hx hb dX1_mean_6 (by decide) ?_
  obtain ⟨r2, h1, h⟩ := fb_b1s h
  refine fb_callR (W.runV (As := [.int 2]) (rest := []) ⟨hx, hb, hml, hown, hts⟩ (metX1_all l D cI h0 qn qf qw B0 0 ch nt fg wt mi 2 r2 h1) (cwV 1 hts gX1_mean_X1_all rfl rfl rfl (by decide +kernel) ⟨Nat.le_of_ble_eq_true rfl, Nat.le_of_ble_eq_true rfl⟩) (fb_preVR (ci := 1) fb_sX1p hP hK hZ hS hAB rfl rfl _) rfl rfl hl.1 rfl (lv_room (Nat.le_of_ble_eq_true rfl)) dX1_mean_7 ⟨Nat.le_of_ble_eq_true rfl, Nat.le_of_ble_eq_true rfl⟩) ?_
  refine lv_if_ne (tgt := 17) hx hb dX1_mean_10 (by decide) (fun c3 => ?_) (fun c3 => ?_)
  · replace h := fb_ie c3 h
    refine lv_aload_n hx hb dX1_mean_17 rfl (lv_at hl 0 rfl) ?_
    refine lv_iconst (v := 5) hx hb dX1_mean_18 (by decide) ?_
    obtain ⟨r5, h4, h⟩ := fb_b1s h
    refine fb_callR (W.runV (As := [.int 5]) (rest := []) ⟨hx, hb, hml, hown, hts⟩ (metX1_all l D cI h0 qn qf qw B0 0 ch nt fg wt mi 5 r5 h4) (cwV 1 hts gX1_mean_X1_all rfl rfl rfl (by decide +kernel) ⟨Nat.le_of_ble_eq_true rfl, Nat.le_of_ble_eq_true rfl⟩) (fb_preVR (ci := 1) fb_sX1p hP hK hZ hS hAB rfl rfl _) rfl rfl hl.1 rfl (lv_room (Nat.le_of_ble_eq_true rfl)) dX1_mean_19 ⟨Nat.le_of_ble_eq_true rfl, Nat.le_of_ble_eq_true rfl⟩) ?_
    refine lv_i2d hx hb dX1_mean_22 ?_
    refine lv_aload_n hx hb dX1_mean_23 rfl (lv_at hl 0 rfl) ?_
    refine lv_iconst (v := 2) hx hb dX1_mean_24 (by decide) ?_
    obtain ⟨r7, h6, h⟩ := fb_b1s h
    refine fb_callR (W.runV (As := [.int 2]) (rest := [.double (FP.i2d r5)]) ⟨hx, hb, hml, hown, hts⟩ (metX1_all l D cI h0 qn qf qw B0 0 ch nt fg wt mi 2 r7 h6) (cwV 1 hts gX1_mean_X1_all rfl rfl rfl (by decide +kernel) ⟨Nat.le_of_ble_eq_true rfl, Nat.le_of_ble_eq_true rfl⟩) (fb_preVR (ci := 1) fb_sX1p hP hK hZ hS hAB rfl rfl _) rfl rfl hl.1 rfl (lv_room (Nat.le_of_ble_eq_true rfl)) dX1_mean_25 ⟨Nat.le_of_ble_eq_true rfl, Nat.le_of_ble_eq_true rfl⟩) ?_
    refine lv_i2d hx hb dX1_mean_28 ?_
    refine W.base ?_
    refine lv_ddiv_any (Drawn.sameBut.refl s.drawn lw_cs) lw_bits hx hb dX1_mean_29 (fun rd dd hal hd1 => ?_)
    obtain ⟨e1, e2⟩ := fb_p2 h
    subst e1
    subst e2
    refine W.endD hd1 ?_
    exact W.dret hx hb hr (fun t ht _ => ⟨⟨rd, (), rfl, hal, by rw [ht]; exact hP, hD⟩, hS.F ht⟩) hS.2.2 dX1_mean_30
  · replace h := fb_it c3 h
    refine lv_dconst0 hx hb dX1_mean_13 ?_
    refine lv_goto (tgt := 30) hx hb dX1_mean_14 (by decide) ?_
    obtain ⟨e1, e2⟩ := fb_p2 h
    subst e1
    subst e2
    refine W.base ?_
    refine W.endD (Drawn.sameBut.refl _ _) ?_
    exact W.dret hx hb hr (fun t ht _ => ⟨⟨FP.dconst0, (), rfl, (alike64_refl _), by rw [ht]; exact hP, hD⟩, hS.F ht⟩) hS.2.2 dX1_mean_30
abbrev rmX1_chord : Room := { frames := 2, cells := 0, slots := 0, locals := 43 }
set_option maxHeartbeats 8000000 in
set_option maxRecDepth 100000 in
theorem metX1_chord (l : Launch) (D : va_G) (cI : ClassId) (h0 qn qf qw B0 : Nat) (th : Int32) (ch : Int32) (nt : Nat → Int32) (fg : Nat → Int32) (wt : Nat → Int32) (mi : Int32) (a1 : Int32) (a2 : Int32) (hz : Nat) (ro : Int32) (tho : Int32) (cho : Int32) (nto : Nat → Int32) (fgo : Nat → Int32) (h : fX1_chord th ch nt fg wt mi a1 a2 = some (ro, tho, cho, nto, fgo)) : Met l yX1_chord wsX1_chord rmX1_chord (va_Pc [.ref h0, .int a1, .int a2] (fb_pm D [(cI, .int)] B0 fb_sX1 (fb_wX1 cI h0 qn qf qw th ch nt fg wt mi) hz)) (fb_qM (fun q => some (.int ro)) (fun q => fb_wX1 cI h0 qn qf qw tho cho nto fgo wt mi) D (va_A (fb_wX1 cI h0 qn qf qw th ch nt fg wt mi) hz)) 0 0 (va_A (fb_wX1 cI h0 qn qf qw th ch nt fg wt mi) hz) := by
  refine Met.ofW (cc := cX1_chord) (maxL := 3) (ret := (some .int)) (by decide) rfl ?_
  intro p e s m args below meth c s₁ B hml hv
  obtain ⟨rfl, hsz, ⟨hP, hK, hZ⟩, hD0, hAB⟩ := hv
  have hx := B.exec
  have hb := B.bytes
  have hr := B.returns
  have hts := atoms_spec (ws := wsX1_chord) B.pre
  have hown : s.vm.findClass RX1 = some m.cls := findClass_of_methodNamed B.named
  have hlocks := B.notSynchronized
  subst hsz
  have hD := hD0.self (sz := s.heap.size)
  generalize hAe : va_A (fb_wX1 cI h0 qn qf qw th ch nt fg wt mi) s.heap.size = A at hD hAB ⊢
  have hA : ∀ q : Nat, s.heap.size ≤ q → A q := fun q h9 => by rw [← hAe]; exact Or.inr h9
  have hS : va_S A s.heap s.heap [] := va_S.rf
  have hP : va_P D vwCl (fb_wX1 cI h0 qn qf qw th ch nt fg wt mi) s.heap := hP
  have hin0 : ∀ w ∈ u_ws RX1 TX1 6, w ∈ wsX1_chord := fun _ h9 => List.mem_cons_of_mem _ (List.mem_append_right _ (h9))
  have w_f13 : (Cond.fieldLink RX1 13 "FiguredBassModel" "figures" "[I") ∈ wsX1_chord := List.mem_of_getElem? (i := 4) rfl
  have w_f19 : (Cond.fieldLink RX1 19 "FiguredBassModel" "thrown" "I") ∈ wsX1_chord := List.mem_of_getElem? (i := 1) rfl
  have w_f23 : (Cond.fieldLink RX1 23 "FiguredBassModel" "chords" "I") ∈ wsX1_chord := List.mem_of_getElem? (i := 2) rfl
  have w_f9 : (Cond.fieldLink RX1 9 "FiguredBassModel" "notes" "[I") ∈ wsX1_chord := List.mem_of_getElem? (i := 3) rfl
  have hl := lv_entry ([.ref h0, .int a1, .int a2]) (n := 3) (Nat.le_of_ble_eq_true rfl)
  rw [lg_entry_eq]
  generalize (lg_sl ([.ref h0, .int a1, .int a2]) ++ List.replicate (3 - (lg_sl ([.ref h0, .int a1, .int a2])).length) Slot.unset).toArray = ls at hl ⊢
  have hl : lv_has ls 3 [(0, .ref h0), (1, .int a1), (2, .int a2)] := hl
  suffices K : ∀ (H : Heap) (locs : List Loc), va_P D vwCl (fb_wX1 cI h0 qn qf qw th ch nt fg wt mi) H → va_S A s.heap H locs → W p l e (headSpec wsX1_chord rmX1_chord).room s m ([.ref h0, .int a1, .int a2] : List Value).toArray below meth c H locs 0 0 (MQ below (fb_qM (fun q => some (.int ro)) (fun q => fb_wX1 cI h0 qn qf qw tho cho nto fgo wt mi) D A) ([.ref h0, .int a1, .int a2] : List Value).toArray s 0 0 A) (F0 m 0 ls []) from K s.heap [] hP hS
  intro H locs hP hS
  unfold fX1_chord at h
  refine lv_aload_n hx hb dX1_chord_0 rfl (lv_at hl 0 rfl) ?_
  refine lv_iconst (v := 0) hx hb dX1_chord_1 (by decide) ?_
  refine va_put (D := D) (ci := 1) (v := .int 0) (ty := .int) (C := RX1) (T := TX1) (N := 6) hx hb hts hin0 tyX1 tyX1_ok nmX1 hown hK hP hD hS 0 rfl rfl 0 (by decide) (hts _ w_f19) (fun _ h9 => h9) rfl (by decide +kernel) rfl rfl (Nat.le_of_ble_eq_true rfl) dX1_chord_2 (fun H locs hP hD hS => ?_)
  have hP : va_P D vwCl (fb_wX1 cI h0 qn qf qw 0 ch nt fg wt mi) H := hP
  have hD : va_D A (fb_wX1 cI h0 qn qf qw 0 ch nt fg wt mi) := hD
  refine lv_iconst (v := 0) hx hb dX1_chord_5 (by decide) ?_
  refine lv_iload_n hx hb dX1_chord_6 rfl (lv_at hl 1 rfl) ?_
  obtain ⟨r2, h1, h⟩ := fb_b1s h
  refine fb_callR (W.runS (As := [.int 0, .int a1]) (rest := []) ⟨hx, hb, hml, hown, hts⟩ (metX1_isOf l B0 0 a1 r2 h1) (va_cwS 2 hts gX1_chord_X1_isOf rfl rfl rfl (by decide +kernel) ⟨Nat.le_of_ble_eq_true rfl, Nat.le_of_ble_eq_true rfl⟩) (fb_preS fb_sX1p hZ hS hAB _) rfl rfl hl.1 rfl (lv_room (Nat.le_of_ble_eq_true rfl)) dX1_chord_7 ⟨Nat.le_of_ble_eq_true rfl, Nat.le_of_ble_eq_true rfl⟩) ?_
  refine lv_if_eq (tgt := 22) hx hb dX1_chord_10 (by decide) (fun c3 => ?_) (fun c3 => ?_)
  · replace h := fb_it c3 h
    refine lv_aload_n hx hb dX1_chord_22 rfl (lv_at hl 0 rfl) ?_
    refine lv_iconst (v := 1) hx hb dX1_chord_23 (by decide) ?_
    obtain ⟨r5, th_6, h4, h⟩ := fb_b2s h
    have hPc : va_P D vwCl (fb_wX1 cI h0 qn qf qw 0 ch nt fg wt mi) H := hP.sub [0, 1, 2, 3] rfl
    have hDc : va_D A (fb_wX1 cI h0 qn qf qw 0 ch nt fg wt mi) := hD.sub [0, 1, 2, 3] (by decide) rfl
    have hFc := va_free (wc := fb_wX1 cI h0 qn qf qw 0 ch nt fg wt mi) hD hS hA [0, 1, 2, 3] rfl
    refine fb_callM (va_runV (As := [.int 1]) (rest := []) ⟨hx, hb, hml, hown, hts⟩ (metX1_no l D cI h0 qn qf qw B0 0 ch nt fg wt mi 1 H.size r5 th_6 h4) (cwV 1 hts gX1_chord_X1_no rfl rfl rfl (by decide +kernel) ⟨Nat.le_of_ble_eq_true rfl, Nat.le_of_ble_eq_true rfl⟩) (fb_preVM (ci := 1) fb_sX1p hPc hK hDc hZ hS hAB hA rfl rfl _) rfl rfl hl.1 rfl (lv_room (Nat.le_of_ble_eq_true rfl)) dX1_chord_24 ⟨Nat.le_of_ble_eq_true rfl, Nat.le_of_ble_eq_true rfl⟩) hS (fun q _ h9 => hFc q h9) hFc (fun _ H1 locs hP1 hD1 hz1 hk1 hS => ?_)
    have hP : va_P D vwCl (fb_wX1 cI h0 qn qf qw th_6 ch nt fg wt mi) H1 := hP1
    have hD : va_D A (fb_wX1 cI h0 qn qf qw th_6 ch nt fg wt mi) := hD1.weaken (fun _ q _ h9 => hFc q.1 h9)
    generalize H1 = H at hP hS
    obtain ⟨e1, e2, e3, e4, e5⟩ := fb_p5 h
    subst e1
    subst e2
    subst e3
    subst e4
    subst e5
    exact W.iret hx hb hr (fun t ht _ => ⟨⟨0, rfl, by rw [ht]; exact hP, hD⟩, hS.F ht⟩) hS.2.2 dX1_chord_27
  · replace h := fb_ie c3 h
    refine lv_iload_n hx hb dX1_chord_13 rfl (lv_at hl 2 rfl) ?_
    refine lv_iconst (v := 0) hx hb dX1_chord_14 (by decide) ?_
    refine lv_iconst (v := 5) hx hb dX1_chord_15 (by decide) ?_
    obtain ⟨r9, h8, h⟩ := fb_b1s h
    refine fb_callR (W.runS (As := [.int a2, .int 0, .int 5]) (rest := []) ⟨hx, hb, hml, hown, hts⟩ (metX1_isIn l B0 a2 0 5 r9 h8) (va_cwS 3 hts gX1_chord_X1_isIn rfl rfl rfl (by decide +kernel) ⟨Nat.le_of_ble_eq_true rfl, Nat.le_of_ble_eq_true rfl⟩) (fb_preS fb_sX1p hZ hS hAB _) rfl rfl hl.1 rfl (lv_room (Nat.le_of_ble_eq_true rfl)) dX1_chord_16 ⟨Nat.le_of_ble_eq_true rfl, Nat.le_of_ble_eq_true rfl⟩) ?_
    refine lv_if_ne (tgt := 28) hx hb dX1_chord_19 (by decide) (fun c10 => ?_) (fun c10 => ?_)
    · replace h := fb_ie c10 h
      refine lv_aload_n hx hb dX1_chord_28 rfl (lv_at hl 0 rfl) ?_
      refine va_get (D := D) (ci := 1) (v := .int ch) (C := RX1) (T := TX1) (N := 6) hx hb hts hin0 hown hK hP 0 rfl rfl 1 (by decide) (hts _ w_f23) (fun _ h9 => h9) rfl dX1_chord_29 ?_
      refine lv_bipush (v := 12) hx hb dX1_chord_32 (by decide) ?_
      refine lv_icmp_ne (tgt := 43) hx hb dX1_chord_34 (by decide) (fun c11 => ?_) (fun c11 => ?_)
      · replace h := fb_ie c11 h
        refine lv_aload_n hx hb dX1_chord_43 rfl (lv_at hl 0 rfl) ?_
        refine va_get (D := D) (ci := 1) (v := .ref qn) (C := RX1) (T := TX1) (N := 6) hx hb hts hin0 hown hK hP 0 rfl rfl 2 (by decide) (hts _ w_f9) (fun _ h9 => h9) rfl dX1_chord_44 ?_
        refine lv_iconst (v := 4) hx hb dX1_chord_47 (by decide) ?_
        refine lv_aload_n hx hb dX1_chord_48 rfl (lv_at hl 0 rfl) ?_
        refine va_get (D := D) (ci := 1) (v := .int ch) (C := RX1) (T := TX1) (N := 6) hx hb hts hin0 hown hK hP 0 rfl rfl 1 (by decide) (hts _ w_f23) (fun _ h9 => h9) rfl dX1_chord_49 ?_
        refine lv_imul hx hb dX1_chord_52 ?_
        refine lv_iload_n hx hb dX1_chord_53 rfl (lv_at hl 1 rfl) ?_
        obtain ⟨hi12, h⟩ := fb_cks h
        refine va_iast hx hb hK hP hD hS 1 0 rfl rfl (fb_ixin hi12) dX1_chord_54 (fun H locs hP hD hS => ?_)
        have hP : va_P D vwCl (fb_wX1 cI h0 qn qf qw 0 ch (upd nt ((4 : Int32) * ch).toNatClampNeg a1) fg wt mi) H := hP
        have hD : va_D A (fb_wX1 cI h0 qn qf qw 0 ch (upd nt ((4 : Int32) * ch).toNatClampNeg a1) fg wt mi) := hD
        refine lv_aload_n hx hb dX1_chord_55 rfl (lv_at hl 0 rfl) ?_
        refine lv_aload_n hx hb dX1_chord_56 rfl (lv_at hl 0 rfl) ?_
        refine va_get (D := D) (ci := 1) (v := .int ch) (C := RX1) (T := TX1) (N := 6) hx hb hts hin0 hown hK hP 0 rfl rfl 1 (by decide) (hts _ w_f23) (fun _ h9 => h9) rfl dX1_chord_57 ?_
        refine lv_iconst (v := (-1)) hx hb dX1_chord_60 (by decide) ?_
        refine lv_iconst (v := (-1)) hx hb dX1_chord_61 (by decide) ?_
        refine lv_iconst (v := (-1)) hx hb dX1_chord_62 (by decide) ?_
        obtain ⟨nt_14, h13, h⟩ := fb_b1s h
        have hPc : va_P D vwCl (fb_wX1 cI h0 qn qf qw 0 ch (upd nt ((4 : Int32) * ch).toNatClampNeg a1) fg wt mi) H := hP.sub [0, 1, 2, 3] rfl
        have hDc : va_D A (fb_wX1 cI h0 qn qf qw 0 ch (upd nt ((4 : Int32) * ch).toNatClampNeg a1) fg wt mi) := hD.sub [0, 1, 2, 3] (by decide) rfl
        have hFc := va_free (wc := fb_wX1 cI h0 qn qf qw 0 ch (upd nt ((4 : Int32) * ch).toNatClampNeg a1) fg wt mi) hD hS hA [0, 1, 2, 3] rfl
        refine fb_callM (va_runV (As := [.int ch, .int (-1), .int (-1), .int (-1)]) (rest := []) ⟨hx, hb, hml, hown, hts⟩ (metX1_let l D cI h0 qn qf qw B0 0 ch (upd nt ((4 : Int32) * ch).toNatClampNeg a1) fg wt mi ch (-1) (-1) (-1) H.size nt_14 h13) (cwV 4 hts gX1_chord_X1_let rfl rfl rfl (by decide +kernel) ⟨Nat.le_of_ble_eq_true rfl, Nat.le_of_ble_eq_true rfl⟩) (fb_preVM (ci := 1) fb_sX1p hPc hK hDc hZ hS hAB hA rfl rfl _) rfl rfl hl.1 rfl (lv_room (Nat.le_of_ble_eq_true rfl)) dX1_chord_63 ⟨Nat.le_of_ble_eq_true rfl, Nat.le_of_ble_eq_true rfl⟩) hS (fun q _ h9 => hFc q h9) hFc (fun _ H1 locs hP1 hD1 hz1 hk1 hS => ?_)
        have hP : va_P D vwCl (fb_wX1 cI h0 qn qf qw 0 ch nt_14 fg wt mi) H1 := hP1
        have hD : va_D A (fb_wX1 cI h0 qn qf qw 0 ch nt_14 fg wt mi) := hD1.weaken (fun _ q _ h9 => hFc q.1 h9)
        generalize H1 = H at hP hS
        refine lv_aload_n hx hb dX1_chord_66 rfl (lv_at hl 0 rfl) ?_
        refine va_get (D := D) (ci := 1) (v := .ref qf) (C := RX1) (T := TX1) (N := 6) hx hb hts hin0 hown hK hP 0 rfl rfl 3 (by decide) (hts _ w_f13) (fun _ h9 => h9) rfl dX1_chord_67 ?_
        refine lv_aload_n hx hb dX1_chord_70 rfl (lv_at hl 0 rfl) ?_
        refine va_get (D := D) (ci := 1) (v := .int ch) (C := RX1) (T := TX1) (N := 6) hx hb hts hin0 hown hK hP 0 rfl rfl 1 (by decide) (hts _ w_f23) (fun _ h9 => h9) rfl dX1_chord_71 ?_
        refine lv_iload_n hx hb dX1_chord_74 rfl (lv_at hl 2 rfl) ?_
        obtain ⟨hi15, h⟩ := fb_cks h
        refine va_iast hx hb hK hP hD hS 2 0 rfl rfl (fb_ixin hi15) dX1_chord_75 (fun H locs hP hD hS => ?_)
        have hP : va_P D vwCl (fb_wX1 cI h0 qn qf qw 0 ch nt_14 (upd fg ch.toNatClampNeg a2) wt mi) H := hP
        have hD : va_D A (fb_wX1 cI h0 qn qf qw 0 ch nt_14 (upd fg ch.toNatClampNeg a2) wt mi) := hD
        refine lv_aload_n hx hb dX1_chord_76 rfl (lv_at hl 0 rfl) ?_
        refine lv_dup hx hb dX1_chord_77 rfl ?_
        refine va_get (D := D) (ci := 1) (v := .int ch) (C := RX1) (T := TX1) (N := 6) hx hb hts hin0 hown hK hP 0 rfl rfl 1 (by decide) (hts _ w_f23) (fun _ h9 => h9) rfl dX1_chord_78 ?_
        refine lv_iconst (v := 1) hx hb dX1_chord_81 (by decide) ?_
        refine lv_iadd hx hb dX1_chord_82 ?_
        refine va_put (D := D) (ci := 1) (v := .int (ch + 1)) (ty := .int) (C := RX1) (T := TX1) (N := 6) hx hb hts hin0 tyX1 tyX1_ok nmX1 hown hK hP hD hS 0 rfl rfl 1 (by decide) (hts _ w_f23) (fun _ h9 => h9) rfl (by decide +kernel) rfl rfl (Nat.le_of_ble_eq_true rfl) dX1_chord_83 (fun H locs hP hD hS => ?_)
        have hP : va_P D vwCl (fb_wX1 cI h0 qn qf qw 0 (ch + 1) nt_14 (upd fg ch.toNatClampNeg a2) wt mi) H := hP
        have hD : va_D A (fb_wX1 cI h0 qn qf qw 0 (ch + 1) nt_14 (upd fg ch.toNatClampNeg a2) wt mi) := hD
        refine lv_aload_n hx hb dX1_chord_86 rfl (lv_at hl 0 rfl) ?_
        refine va_get (D := D) (ci := 1) (v := .int (ch + 1)) (C := RX1) (T := TX1) (N := 6) hx hb hts hin0 hown hK hP 0 rfl rfl 1 (by decide) (hts _ w_f23) (fun _ h9 => h9) rfl dX1_chord_87 ?_
        refine lv_iconst (v := 1) hx hb dX1_chord_90 (by decide) ?_
        refine lv_isub hx hb dX1_chord_91 ?_
        obtain ⟨e1, e2, e3, e4, e5⟩ := fb_p5 h
        subst e1
        subst e2
        subst e3
        subst e4
        subst e5
        exact W.iret hx hb hr (fun t ht _ => ⟨⟨0, rfl, by rw [ht]; exact hP, hD⟩, hS.F ht⟩) hS.2.2 dX1_chord_92
      · replace h := fb_it c11 h
        refine lv_aload_n hx hb dX1_chord_37 rfl (lv_at hl 0 rfl) ?_
        refine lv_iconst (v := 2) hx hb dX1_chord_38 (by decide) ?_
        obtain ⟨r18, th_19, h17, h⟩ := fb_b2s h
        have hPc : va_P D vwCl (fb_wX1 cI h0 qn qf qw 0 ch nt fg wt mi) H := hP.sub [0, 1, 2, 3] rfl
        have hDc : va_D A (fb_wX1 cI h0 qn qf qw 0 ch nt fg wt mi) := hD.sub [0, 1, 2, 3] (by decide) rfl
        have hFc := va_free (wc := fb_wX1 cI h0 qn qf qw 0 ch nt fg wt mi) hD hS hA [0, 1, 2, 3] rfl
        refine fb_callM (va_runV (As := [.int 2]) (rest := []) ⟨hx, hb, hml, hown, hts⟩ (metX1_no l D cI h0 qn qf qw B0 0 ch nt fg wt mi 2 H.size r18 th_19 h17) (cwV 1 hts gX1_chord_X1_no rfl rfl rfl (by decide +kernel) ⟨Nat.le_of_ble_eq_true rfl, Nat.le_of_ble_eq_true rfl⟩) (fb_preVM (ci := 1) fb_sX1p hPc hK hDc hZ hS hAB hA rfl rfl _) rfl rfl hl.1 rfl (lv_room (Nat.le_of_ble_eq_true rfl)) dX1_chord_39 ⟨Nat.le_of_ble_eq_true rfl, Nat.le_of_ble_eq_true rfl⟩) hS (fun q _ h9 => hFc q h9) hFc (fun _ H1 locs hP1 hD1 hz1 hk1 hS => ?_)
        have hP : va_P D vwCl (fb_wX1 cI h0 qn qf qw th_19 ch nt fg wt mi) H1 := hP1
        have hD : va_D A (fb_wX1 cI h0 qn qf qw th_19 ch nt fg wt mi) := hD1.weaken (fun _ q _ h9 => hFc q.1 h9)
        generalize H1 = H at hP hS
        obtain ⟨e1, e2, e3, e4, e5⟩ := fb_p5 h
        subst e1
        subst e2
        subst e3
        subst e4
        subst e5
        exact W.iret hx hb hr (fun t ht _ => ⟨⟨0, rfl, by rw [ht]; exact hP, hD⟩, hS.F ht⟩) hS.2.2 dX1_chord_42
    · replace h := fb_it c10 h
      refine lv_aload_n hx hb dX1_chord_22 rfl (lv_at hl 0 rfl) ?_
      refine lv_iconst (v := 1) hx hb dX1_chord_23 (by decide) ?_
      obtain ⟨r22, th_23, h21, h⟩ := fb_b2s h
      have hPc : va_P D vwCl (fb_wX1 cI h0 qn qf qw 0 ch nt fg wt mi) H := hP.sub [0, 1, 2, 3] rfl
      have hDc : va_D A (fb_wX1 cI h0 qn qf qw 0 ch nt fg wt mi) := hD.sub [0, 1, 2, 3] (by decide) rfl
      have hFc := va_free (wc := fb_wX1 cI h0 qn qf qw 0 ch nt fg wt mi) hD hS hA [0, 1, 2, 3] rfl
      refine fb_callM (va_runV (As := [.int 1]) (rest := []) ⟨hx, hb, hml, hown, hts⟩ (metX1_no l D cI h0 qn qf qw B0 0 ch nt fg wt mi 1 H.size r22 th_23 h21) (cwV 1 hts gX1_chord_X1_no rfl rfl rfl (by decide +kernel) ⟨Nat.le_of_ble_eq_true rfl, Nat.le_of_ble_eq_true rfl⟩) (fb_preVM (ci := 1) fb_sX1p hPc hK hDc hZ hS hAB hA rfl rfl _) rfl rfl hl.1 rfl (lv_room (Nat.le_of_ble_eq_true rfl)) dX1_chord_24 ⟨Nat.le_of_ble_eq_true rfl, Nat.le_of_ble_eq_true rfl⟩) hS (fun q _ h9 => hFc q h9) hFc (fun _ H1 locs hP1 hD1 hz1 hk1 hS => ?_)
      have hP : va_P D vwCl (fb_wX1 cI h0 qn qf qw th_23 ch nt fg wt mi) H1 := hP1
      have hD : va_D A (fb_wX1 cI h0 qn qf qw th_23 ch nt fg wt mi) := hD1.weaken (fun _ q _ h9 => hFc q.1 h9)
      generalize H1 = H at hP hS
      obtain ⟨e1, e2, e3, e4, e5⟩ := fb_p5 h
      subst e1
      subst e2
      subst e3
      subst e4
      subst e5
      exact W.iret hx hb hr (fun t ht _ => ⟨⟨0, rfl, by rw [ht]; exact hP, hD⟩, hS.F ht⟩) hS.2.2 dX1_chord_27
abbrev rmX1_setBass : Room := { frames := 2, cells := 0, slots := 0, locals := 43 }
set_option maxHeartbeats 8000000 in
set_option maxRecDepth 100000 in
theorem metX1_setBass (l : Launch) (D : va_G) (cI : ClassId) (h0 qn qf qw B0 : Nat) (th : Int32) (ch : Int32) (nt : Nat → Int32) (fg : Nat → Int32) (wt : Nat → Int32) (mi : Int32) (a1 : Int32) (a2 : Int32) (hz : Nat) (ro : Int32) (tho : Int32) (nto : Nat → Int32) (h : fX1_setBass th ch nt fg wt mi a1 a2 = some (ro, tho, nto)) : Met l yX1_setBass wsX1_setBass rmX1_setBass (va_Pc [.ref h0, .int a1, .int a2] (fb_pm D [(cI, .int)] B0 fb_sX1 (fb_wX1 cI h0 qn qf qw th ch nt fg wt mi) hz)) (fb_qM (fun q => some (.int ro)) (fun q => fb_wX1 cI h0 qn qf qw tho ch nto fg wt mi) D (va_A (fb_wX1 cI h0 qn qf qw th ch nt fg wt mi) hz)) 0 0 (va_A (fb_wX1 cI h0 qn qf qw th ch nt fg wt mi) hz) := by
  refine Met.ofW (cc := cX1_setBass) (maxL := 4) (ret := (some .int)) (by decide) rfl ?_
  intro p e s m args below meth c s₁ B hml hv
  obtain ⟨rfl, hsz, ⟨hP, hK, hZ⟩, hD0, hAB⟩ := hv
  have hx := B.exec
  have hb := B.bytes
  have hr := B.returns
  have hts := atoms_spec (ws := wsX1_setBass) B.pre
  have hown : s.vm.findClass RX1 = some m.cls := findClass_of_methodNamed B.named
  have hlocks := B.notSynchronized
  subst hsz
  have hD := hD0.self (sz := s.heap.size)
  generalize hAe : va_A (fb_wX1 cI h0 qn qf qw th ch nt fg wt mi) s.heap.size = A at hD hAB ⊢
  have hA : ∀ q : Nat, s.heap.size ≤ q → A q := fun q h9 => by rw [← hAe]; exact Or.inr h9
  have hS : va_S A s.heap s.heap [] := va_S.rf
  have hP : va_P D vwCl (fb_wX1 cI h0 qn qf qw th ch nt fg wt mi) s.heap := hP
  have hin0 : ∀ w ∈ u_ws RX1 TX1 6, w ∈ wsX1_setBass := fun _ h9 => List.mem_cons_of_mem _ (List.mem_append_right _ (h9))
  have w_f19 : (Cond.fieldLink RX1 19 "FiguredBassModel" "thrown" "I") ∈ wsX1_setBass := List.mem_of_getElem? (i := 1) rfl
  have w_f9 : (Cond.fieldLink RX1 9 "FiguredBassModel" "notes" "[I") ∈ wsX1_setBass := List.mem_of_getElem? (i := 2) rfl
  have hl := lv_entry ([.ref h0, .int a1, .int a2]) (n := 4) (Nat.le_of_ble_eq_true rfl)
  rw [lg_entry_eq]
  generalize (lg_sl ([.ref h0, .int a1, .int a2]) ++ List.replicate (4 - (lg_sl ([.ref h0, .int a1, .int a2])).length) Slot.unset).toArray = ls at hl ⊢
  have hl : lv_has ls 4 [(0, .ref h0), (1, .int a1), (2, .int a2)] := hl
  suffices K : ∀ (H : Heap) (locs : List Loc), va_P D vwCl (fb_wX1 cI h0 qn qf qw th ch nt fg wt mi) H → va_S A s.heap H locs → W p l e (headSpec wsX1_setBass rmX1_setBass).room s m ([.ref h0, .int a1, .int a2] : List Value).toArray below meth c H locs 0 0 (MQ below (fb_qM (fun q => some (.int ro)) (fun q => fb_wX1 cI h0 qn qf qw tho ch nto fg wt mi) D A) ([.ref h0, .int a1, .int a2] : List Value).toArray s 0 0 A) (F0 m 0 ls []) from K s.heap [] hP hS
  intro H locs hP hS
  unfold fX1_setBass at h
  refine lv_aload_n hx hb dX1_setBass_0 rfl (lv_at hl 0 rfl) ?_
  refine lv_iconst (v := 0) hx hb dX1_setBass_1 (by decide) ?_
  refine va_put (D := D) (ci := 1) (v := .int 0) (ty := .int) (C := RX1) (T := TX1) (N := 6) hx hb hts hin0 tyX1 tyX1_ok nmX1 hown hK hP hD hS 0 rfl rfl 0 (by decide) (hts _ w_f19) (fun _ h9 => h9) rfl (by decide +kernel) rfl rfl (Nat.le_of_ble_eq_true rfl) dX1_setBass_2 (fun H locs hP hD hS => ?_)
  have hP : va_P D vwCl (fb_wX1 cI h0 qn qf qw 0 ch nt fg wt mi) H := hP
  have hD : va_D A (fb_wX1 cI h0 qn qf qw 0 ch nt fg wt mi) := hD
  refine lv_aload_n hx hb dX1_setBass_5 rfl (lv_at hl 0 rfl) ?_
  refine lv_iload_n hx hb dX1_setBass_6 rfl (lv_at hl 1 rfl) ?_
  obtain ⟨r2, h1, h⟩ := fb_b1s h
  refine fb_callR (W.runV (As := [.int a1]) (rest := []) ⟨hx, hb, hml, hown, hts⟩ (metX1_isChord l D cI h0 qn qf qw B0 0 ch nt fg wt mi a1 r2 h1) (cwV 1 hts gX1_setBass_X1_isChord rfl rfl rfl (by decide +kernel) ⟨Nat.le_of_ble_eq_true rfl, Nat.le_of_ble_eq_true rfl⟩) (fb_preVR (ci := 1) fb_sX1p hP hK hZ hS hAB rfl rfl _) rfl rfl hl.1 rfl (lv_room (Nat.le_of_ble_eq_true rfl)) dX1_setBass_7 ⟨Nat.le_of_ble_eq_true rfl, Nat.le_of_ble_eq_true rfl⟩) ?_
  refine lv_if_ne (tgt := 19) hx hb dX1_setBass_10 (by decide) (fun c3 => ?_) (fun c3 => ?_)
  · replace h := fb_ie c3 h
    refine lv_iconst (v := 0) hx hb dX1_setBass_19 (by decide) ?_
    refine lv_iload_n hx hb dX1_setBass_20 rfl (lv_at hl 2 rfl) ?_
    obtain ⟨r5, h4, h⟩ := fb_b1s h
    refine fb_callR (W.runS (As := [.int 0, .int a2]) (rest := []) ⟨hx, hb, hml, hown, hts⟩ (metX1_isOf l B0 0 a2 r5 h4) (va_cwS 2 hts gX1_setBass_X1_isOf rfl rfl rfl (by decide +kernel) ⟨Nat.le_of_ble_eq_true rfl, Nat.le_of_ble_eq_true rfl⟩) (fb_preS fb_sX1p hZ hS hAB _) rfl rfl hl.1 rfl (lv_room (Nat.le_of_ble_eq_true rfl)) dX1_setBass_21 ⟨Nat.le_of_ble_eq_true rfl, Nat.le_of_ble_eq_true rfl⟩) ?_
    refine lv_if_ne (tgt := 33) hx hb dX1_setBass_24 (by decide) (fun c6 => ?_) (fun c6 => ?_)
    · replace h := fb_ie c6 h
      refine lv_aload_n hx hb dX1_setBass_33 rfl (lv_at hl 0 rfl) ?_
      refine lv_iload_n hx hb dX1_setBass_34 rfl (lv_at hl 1 rfl) ?_
      refine lv_iconst (v := 0) hx hb dX1_setBass_35 (by decide) ?_
      obtain ⟨r8, h7, h⟩ := fb_b1s h
      refine fb_callR (W.runV (As := [.int a1, .int 0]) (rest := []) ⟨hx, hb, hml, hown, hts⟩ (metX1_at l D cI h0 qn qf qw B0 0 ch nt fg wt mi a1 0 r8 h7) (cwV 2 hts gX1_setBass_X1_at rfl rfl rfl (by decide +kernel) ⟨Nat.le_of_ble_eq_true rfl, Nat.le_of_ble_eq_true rfl⟩) (fb_preVR (ci := 1) fb_sX1p hP hK hZ hS hAB rfl rfl _) rfl rfl hl.1 rfl (lv_room (Nat.le_of_ble_eq_true rfl)) dX1_setBass_36 ⟨Nat.le_of_ble_eq_true rfl, Nat.le_of_ble_eq_true rfl⟩) ?_
      refine lv_istore_n (lv' := [(3, .int r8), (0, .ref h0), (1, .int a1), (2, .int a2)]) hx hb dX1_setBass_39 rfl hl (by decide) rfl (fun ls hl => ?_)
      refine lv_aload_n hx hb dX1_setBass_40 rfl (lv_at hl 1 rfl) ?_
      refine va_get (D := D) (ci := 1) (v := .ref qn) (C := RX1) (T := TX1) (N := 6) hx hb hts hin0 hown hK hP 0 rfl rfl 2 (by decide) (hts _ w_f9) (fun _ h9 => h9) rfl dX1_setBass_41 ?_
      refine lv_iconst (v := 4) hx hb dX1_setBass_44 (by decide) ?_
      refine lv_iload_n hx hb dX1_setBass_45 rfl (lv_at hl 2 rfl) ?_
      refine lv_imul hx hb dX1_setBass_46 ?_
      refine lv_iload_n hx hb dX1_setBass_47 rfl (lv_at hl 3 rfl) ?_
      obtain ⟨hi9, h⟩ := fb_cks h
      refine va_iast hx hb hK hP hD hS 1 0 rfl rfl (fb_ixin hi9) dX1_setBass_48 (fun H locs hP hD hS => ?_)
      have hP : va_P D vwCl (fb_wX1 cI h0 qn qf qw 0 ch (upd nt ((4 : Int32) * a1).toNatClampNeg a2) fg wt mi) H := hP
      have hD : va_D A (fb_wX1 cI h0 qn qf qw 0 ch (upd nt ((4 : Int32) * a1).toNatClampNeg a2) fg wt mi) := hD
      refine lv_iload_n hx hb dX1_setBass_49 rfl (lv_at hl 0 rfl) ?_
      obtain ⟨e1, e2, e3⟩ := fb_p3 h
      subst e1
      subst e2
      subst e3
      exact W.iret hx hb hr (fun t ht _ => ⟨⟨0, rfl, by rw [ht]; exact hP, hD⟩, hS.F ht⟩) hS.2.2 dX1_setBass_50
    · replace h := fb_it c6 h
      refine lv_aload_n hx hb dX1_setBass_27 rfl (lv_at hl 0 rfl) ?_
      refine lv_iconst (v := 2) hx hb dX1_setBass_28 (by decide) ?_
      obtain ⟨r12, th_13, h11, h⟩ := fb_b2s h
      have hPc : va_P D vwCl (fb_wX1 cI h0 qn qf qw 0 ch nt fg wt mi) H := hP.sub [0, 1, 2, 3] rfl
      have hDc : va_D A (fb_wX1 cI h0 qn qf qw 0 ch nt fg wt mi) := hD.sub [0, 1, 2, 3] (by decide) rfl
      have hFc := va_free (wc := fb_wX1 cI h0 qn qf qw 0 ch nt fg wt mi) hD hS hA [0, 1, 2, 3] rfl
      refine fb_callM (va_runV (As := [.int 2]) (rest := []) ⟨hx, hb, hml, hown, hts⟩ (metX1_no l D cI h0 qn qf qw B0 0 ch nt fg wt mi 2 H.size r12 th_13 h11) (cwV 1 hts gX1_setBass_X1_no rfl rfl rfl (by decide +kernel) ⟨Nat.le_of_ble_eq_true rfl, Nat.le_of_ble_eq_true rfl⟩) (fb_preVM (ci := 1) fb_sX1p hPc hK hDc hZ hS hAB hA rfl rfl _) rfl rfl hl.1 rfl (lv_room (Nat.le_of_ble_eq_true rfl)) dX1_setBass_29 ⟨Nat.le_of_ble_eq_true rfl, Nat.le_of_ble_eq_true rfl⟩) hS (fun q _ h9 => hFc q h9) hFc (fun _ H1 locs hP1 hD1 hz1 hk1 hS => ?_)
      have hP : va_P D vwCl (fb_wX1 cI h0 qn qf qw th_13 ch nt fg wt mi) H1 := hP1
      have hD : va_D A (fb_wX1 cI h0 qn qf qw th_13 ch nt fg wt mi) := hD1.weaken (fun _ q _ h9 => hFc q.1 h9)
      generalize H1 = H at hP hS
      obtain ⟨e1, e2, e3⟩ := fb_p3 h
      subst e1
      subst e2
      subst e3
      exact W.iret hx hb hr (fun t ht _ => ⟨⟨0, rfl, by rw [ht]; exact hP, hD⟩, hS.F ht⟩) hS.2.2 dX1_setBass_32
  · replace h := fb_it c3 h
    refine lv_aload_n hx hb dX1_setBass_13 rfl (lv_at hl 0 rfl) ?_
    refine lv_iconst (v := 1) hx hb dX1_setBass_14 (by decide) ?_
    obtain ⟨r16, th_17, h15, h⟩ := fb_b2s h
    have hPc : va_P D vwCl (fb_wX1 cI h0 qn qf qw 0 ch nt fg wt mi) H := hP.sub [0, 1, 2, 3] rfl
    have hDc : va_D A (fb_wX1 cI h0 qn qf qw 0 ch nt fg wt mi) := hD.sub [0, 1, 2, 3] (by decide) rfl
    have hFc := va_free (wc := fb_wX1 cI h0 qn qf qw 0 ch nt fg wt mi) hD hS hA [0, 1, 2, 3] rfl
    refine fb_callM (va_runV (As := [.int 1]) (rest := []) ⟨hx, hb, hml, hown, hts⟩ (metX1_no l D cI h0 qn qf qw B0 0 ch nt fg wt mi 1 H.size r16 th_17 h15) (cwV 1 hts gX1_setBass_X1_no rfl rfl rfl (by decide +kernel) ⟨Nat.le_of_ble_eq_true rfl, Nat.le_of_ble_eq_true rfl⟩) (fb_preVM (ci := 1) fb_sX1p hPc hK hDc hZ hS hAB hA rfl rfl _) rfl rfl hl.1 rfl (lv_room (Nat.le_of_ble_eq_true rfl)) dX1_setBass_15 ⟨Nat.le_of_ble_eq_true rfl, Nat.le_of_ble_eq_true rfl⟩) hS (fun q _ h9 => hFc q h9) hFc (fun _ H1 locs hP1 hD1 hz1 hk1 hS => ?_)
    have hP : va_P D vwCl (fb_wX1 cI h0 qn qf qw th_17 ch nt fg wt mi) H1 := hP1
    have hD : va_D A (fb_wX1 cI h0 qn qf qw th_17 ch nt fg wt mi) := hD1.weaken (fun _ q _ h9 => hFc q.1 h9)
    generalize H1 = H at hP hS
    obtain ⟨e1, e2, e3⟩ := fb_p3 h
    subst e1
    subst e2
    subst e3
    exact W.iret hx hb hr (fun t ht _ => ⟨⟨0, rfl, by rw [ht]; exact hP, hD⟩, hS.F ht⟩) hS.2.2 dX1_setBass_18
abbrev rmX1_setFigure : Room := { frames := 2, cells := 0, slots := 0, locals := 43 }
set_option maxHeartbeats 8000000 in
set_option maxRecDepth 100000 in
theorem metX1_setFigure (l : Launch) (D : va_G) (cI : ClassId) (h0 qn qf qw B0 : Nat) (th : Int32) (ch : Int32) (nt : Nat → Int32) (fg : Nat → Int32) (wt : Nat → Int32) (mi : Int32) (a1 : Int32) (a2 : Int32) (hz : Nat) (ro : Int32) (tho : Int32) (fgo : Nat → Int32) (h : fX1_setFigure th ch nt fg wt mi a1 a2 = some (ro, tho, fgo)) : Met l yX1_setFigure wsX1_setFigure rmX1_setFigure (va_Pc [.ref h0, .int a1, .int a2] (fb_pm D [(cI, .int)] B0 fb_sX1 (fb_wX1 cI h0 qn qf qw th ch nt fg wt mi) hz)) (fb_qM (fun q => some (.int ro)) (fun q => fb_wX1 cI h0 qn qf qw tho ch nt fgo wt mi) D (va_A (fb_wX1 cI h0 qn qf qw th ch nt fg wt mi) hz)) 0 0 (va_A (fb_wX1 cI h0 qn qf qw th ch nt fg wt mi) hz) := by
  refine Met.ofW (cc := cX1_setFigure) (maxL := 4) (ret := (some .int)) (by decide) rfl ?_
  intro p e s m args below meth c s₁ B hml hv
  obtain ⟨rfl, hsz, ⟨hP, hK, hZ⟩, hD0, hAB⟩ := hv
  have hx := B.exec
  have hb := B.bytes
  have hr := B.returns
  have hts := atoms_spec (ws := wsX1_setFigure) B.pre
  have hown : s.vm.findClass RX1 = some m.cls := findClass_of_methodNamed B.named
  have hlocks := B.notSynchronized
  subst hsz
  have hD := hD0.self (sz := s.heap.size)
  generalize hAe : va_A (fb_wX1 cI h0 qn qf qw th ch nt fg wt mi) s.heap.size = A at hD hAB ⊢
  have hA : ∀ q : Nat, s.heap.size ≤ q → A q := fun q h9 => by rw [← hAe]; exact Or.inr h9
  have hS : va_S A s.heap s.heap [] := va_S.rf
  have hP : va_P D vwCl (fb_wX1 cI h0 qn qf qw th ch nt fg wt mi) s.heap := hP
  have hin0 : ∀ w ∈ u_ws RX1 TX1 6, w ∈ wsX1_setFigure := fun _ h9 => List.mem_cons_of_mem _ (List.mem_append_right _ (h9))
  have w_f13 : (Cond.fieldLink RX1 13 "FiguredBassModel" "figures" "[I") ∈ wsX1_setFigure := List.mem_of_getElem? (i := 2) rfl
  have w_f19 : (Cond.fieldLink RX1 19 "FiguredBassModel" "thrown" "I") ∈ wsX1_setFigure := List.mem_of_getElem? (i := 1) rfl
  have hl := lv_entry ([.ref h0, .int a1, .int a2]) (n := 4) (Nat.le_of_ble_eq_true rfl)
  rw [lg_entry_eq]
  generalize (lg_sl ([.ref h0, .int a1, .int a2]) ++ List.replicate (4 - (lg_sl ([.ref h0, .int a1, .int a2])).length) Slot.unset).toArray = ls at hl ⊢
  have hl : lv_has ls 4 [(0, .ref h0), (1, .int a1), (2, .int a2)] := hl
  suffices K : ∀ (H : Heap) (locs : List Loc), va_P D vwCl (fb_wX1 cI h0 qn qf qw th ch nt fg wt mi) H → va_S A s.heap H locs → W p l e (headSpec wsX1_setFigure rmX1_setFigure).room s m ([.ref h0, .int a1, .int a2] : List Value).toArray below meth c H locs 0 0 (MQ below (fb_qM (fun q => some (.int ro)) (fun q => fb_wX1 cI h0 qn qf qw tho ch nt fgo wt mi) D A) ([.ref h0, .int a1, .int a2] : List Value).toArray s 0 0 A) (F0 m 0 ls []) from K s.heap [] hP hS
  intro H locs hP hS
  unfold fX1_setFigure at h
  refine lv_aload_n hx hb dX1_setFigure_0 rfl (lv_at hl 0 rfl) ?_
  refine lv_iconst (v := 0) hx hb dX1_setFigure_1 (by decide) ?_
  refine va_put (D := D) (ci := 1) (v := .int 0) (ty := .int) (C := RX1) (T := TX1) (N := 6) hx hb hts hin0 tyX1 tyX1_ok nmX1 hown hK hP hD hS 0 rfl rfl 0 (by decide) (hts _ w_f19) (fun _ h9 => h9) rfl (by decide +kernel) rfl rfl (Nat.le_of_ble_eq_true rfl) dX1_setFigure_2 (fun H locs hP hD hS => ?_)
  have hP : va_P D vwCl (fb_wX1 cI h0 qn qf qw 0 ch nt fg wt mi) H := hP
  have hD : va_D A (fb_wX1 cI h0 qn qf qw 0 ch nt fg wt mi) := hD
  refine lv_aload_n hx hb dX1_setFigure_5 rfl (lv_at hl 0 rfl) ?_
  refine lv_iload_n hx hb dX1_setFigure_6 rfl (lv_at hl 1 rfl) ?_
  obtain ⟨r2, h1, h⟩ := fb_b1s h
  refine fb_callR (W.runV (As := [.int a1]) (rest := []) ⟨hx, hb, hml, hown, hts⟩ (metX1_isChord l D cI h0 qn qf qw B0 0 ch nt fg wt mi a1 r2 h1) (cwV 1 hts gX1_setFigure_X1_isChord rfl rfl rfl (by decide +kernel) ⟨Nat.le_of_ble_eq_true rfl, Nat.le_of_ble_eq_true rfl⟩) (fb_preVR (ci := 1) fb_sX1p hP hK hZ hS hAB rfl rfl _) rfl rfl hl.1 rfl (lv_room (Nat.le_of_ble_eq_true rfl)) dX1_setFigure_7 ⟨Nat.le_of_ble_eq_true rfl, Nat.le_of_ble_eq_true rfl⟩) ?_
  refine lv_if_ne (tgt := 19) hx hb dX1_setFigure_10 (by decide) (fun c3 => ?_) (fun c3 => ?_)
  · replace h := fb_ie c3 h
    refine lv_iload_n hx hb dX1_setFigure_19 rfl (lv_at hl 2 rfl) ?_
    refine lv_iconst (v := 0) hx hb dX1_setFigure_20 (by decide) ?_
    refine lv_iconst (v := 5) hx hb dX1_setFigure_21 (by decide) ?_
    obtain ⟨r5, h4, h⟩ := fb_b1s h
    refine fb_callR (W.runS (As := [.int a2, .int 0, .int 5]) (rest := []) ⟨hx, hb, hml, hown, hts⟩ (metX1_isIn l B0 a2 0 5 r5 h4) (va_cwS 3 hts gX1_setFigure_X1_isIn rfl rfl rfl (by decide +kernel) ⟨Nat.le_of_ble_eq_true rfl, Nat.le_of_ble_eq_true rfl⟩) (fb_preS fb_sX1p hZ hS hAB _) rfl rfl hl.1 rfl (lv_room (Nat.le_of_ble_eq_true rfl)) dX1_setFigure_22 ⟨Nat.le_of_ble_eq_true rfl, Nat.le_of_ble_eq_true rfl⟩) ?_
    refine lv_if_ne (tgt := 34) hx hb dX1_setFigure_25 (by decide) (fun c6 => ?_) (fun c6 => ?_)
    · replace h := fb_ie c6 h
      refine lv_aload_n hx hb dX1_setFigure_34 rfl (lv_at hl 0 rfl) ?_
      refine va_get (D := D) (ci := 1) (v := .ref qf) (C := RX1) (T := TX1) (N := 6) hx hb hts hin0 hown hK hP 0 rfl rfl 3 (by decide) (hts _ w_f13) (fun _ h9 => h9) rfl dX1_setFigure_35 ?_
      refine lv_iload_n hx hb dX1_setFigure_38 rfl (lv_at hl 1 rfl) ?_
      obtain ⟨hi7, h⟩ := fb_cks h
      refine va_iald hx hb hK hP 2 0 rfl rfl (fb_ixin hi7) dX1_setFigure_39 ?_
      refine lv_istore_n (lv' := [(3, .int (fg a1.toNatClampNeg)), (0, .ref h0), (1, .int a1), (2, .int a2)]) hx hb dX1_setFigure_40 rfl hl (by decide) rfl (fun ls hl => ?_)
      refine lv_aload_n hx hb dX1_setFigure_41 rfl (lv_at hl 1 rfl) ?_
      refine va_get (D := D) (ci := 1) (v := .ref qf) (C := RX1) (T := TX1) (N := 6) hx hb hts hin0 hown hK hP 0 rfl rfl 3 (by decide) (hts _ w_f13) (fun _ h9 => h9) rfl dX1_setFigure_42 ?_
      refine lv_iload_n hx hb dX1_setFigure_45 rfl (lv_at hl 2 rfl) ?_
      refine lv_iload_n hx hb dX1_setFigure_46 rfl (lv_at hl 3 rfl) ?_
      refine va_iast hx hb hK hP hD hS 2 0 rfl rfl (fb_ixin hi7) dX1_setFigure_47 (fun H locs hP hD hS => ?_)
      have hP : va_P D vwCl (fb_wX1 cI h0 qn qf qw 0 ch nt (upd fg a1.toNatClampNeg a2) wt mi) H := hP
      have hD : va_D A (fb_wX1 cI h0 qn qf qw 0 ch nt (upd fg a1.toNatClampNeg a2) wt mi) := hD
      refine lv_iload_n hx hb dX1_setFigure_48 rfl (lv_at hl 0 rfl) ?_
      obtain ⟨e1, e2, e3⟩ := fb_p3 h
      subst e1
      subst e2
      subst e3
      exact W.iret hx hb hr (fun t ht _ => ⟨⟨0, rfl, by rw [ht]; exact hP, hD⟩, hS.F ht⟩) hS.2.2 dX1_setFigure_49
    · replace h := fb_it c6 h
      refine lv_aload_n hx hb dX1_setFigure_28 rfl (lv_at hl 0 rfl) ?_
      refine lv_iconst (v := 2) hx hb dX1_setFigure_29 (by decide) ?_
      obtain ⟨r10, th_11, h9, h⟩ := fb_b2s h
      have hPc : va_P D vwCl (fb_wX1 cI h0 qn qf qw 0 ch nt fg wt mi) H := hP.sub [0, 1, 2, 3] rfl
      have hDc : va_D A (fb_wX1 cI h0 qn qf qw 0 ch nt fg wt mi) := hD.sub [0, 1, 2, 3] (by decide) rfl
      have hFc := va_free (wc := fb_wX1 cI h0 qn qf qw 0 ch nt fg wt mi) hD hS hA [0, 1, 2, 3] rfl
      refine fb_callM (va_runV (As := [.int 2]) (rest := []) ⟨hx, hb, hml, hown, hts⟩ (metX1_no l D cI h0 qn qf qw B0 0 ch nt fg wt mi 2 H.size r10 th_11 h9) (cwV 1 hts gX1_setFigure_X1_no rfl rfl rfl (by decide +kernel) ⟨Nat.le_of_ble_eq_true rfl, Nat.le_of_ble_eq_true rfl⟩) (fb_preVM (ci := 1) fb_sX1p hPc hK hDc hZ hS hAB hA rfl rfl _) rfl rfl hl.1 rfl (lv_room (Nat.le_of_ble_eq_true rfl)) dX1_setFigure_30 ⟨Nat.le_of_ble_eq_true rfl, Nat.le_of_ble_eq_true rfl⟩) hS (fun q _ h9 => hFc q h9) hFc (fun _ H1 locs hP1 hD1 hz1 hk1 hS => ?_)
      have hP : va_P D vwCl (fb_wX1 cI h0 qn qf qw th_11 ch nt fg wt mi) H1 := hP1
      have hD : va_D A (fb_wX1 cI h0 qn qf qw th_11 ch nt fg wt mi) := hD1.weaken (fun _ q _ h9 => hFc q.1 h9)
      generalize H1 = H at hP hS
      obtain ⟨e1, e2, e3⟩ := fb_p3 h
      subst e1
      subst e2
      subst e3
      exact W.iret hx hb hr (fun t ht _ => ⟨⟨0, rfl, by rw [ht]; exact hP, hD⟩, hS.F ht⟩) hS.2.2 dX1_setFigure_33
  · replace h := fb_it c3 h
    refine lv_aload_n hx hb dX1_setFigure_13 rfl (lv_at hl 0 rfl) ?_
    refine lv_iconst (v := 1) hx hb dX1_setFigure_14 (by decide) ?_
    obtain ⟨r14, th_15, h13, h⟩ := fb_b2s h
    have hPc : va_P D vwCl (fb_wX1 cI h0 qn qf qw 0 ch nt fg wt mi) H := hP.sub [0, 1, 2, 3] rfl
    have hDc : va_D A (fb_wX1 cI h0 qn qf qw 0 ch nt fg wt mi) := hD.sub [0, 1, 2, 3] (by decide) rfl
    have hFc := va_free (wc := fb_wX1 cI h0 qn qf qw 0 ch nt fg wt mi) hD hS hA [0, 1, 2, 3] rfl
    refine fb_callM (va_runV (As := [.int 1]) (rest := []) ⟨hx, hb, hml, hown, hts⟩ (metX1_no l D cI h0 qn qf qw B0 0 ch nt fg wt mi 1 H.size r14 th_15 h13) (cwV 1 hts gX1_setFigure_X1_no rfl rfl rfl (by decide +kernel) ⟨Nat.le_of_ble_eq_true rfl, Nat.le_of_ble_eq_true rfl⟩) (fb_preVM (ci := 1) fb_sX1p hPc hK hDc hZ hS hAB hA rfl rfl _) rfl rfl hl.1 rfl (lv_room (Nat.le_of_ble_eq_true rfl)) dX1_setFigure_15 ⟨Nat.le_of_ble_eq_true rfl, Nat.le_of_ble_eq_true rfl⟩) hS (fun q _ h9 => hFc q h9) hFc (fun _ H1 locs hP1 hD1 hz1 hk1 hS => ?_)
    have hP : va_P D vwCl (fb_wX1 cI h0 qn qf qw th_15 ch nt fg wt mi) H1 := hP1
    have hD : va_D A (fb_wX1 cI h0 qn qf qw th_15 ch nt fg wt mi) := hD1.weaken (fun _ q _ h9 => hFc q.1 h9)
    generalize H1 = H at hP hS
    obtain ⟨e1, e2, e3⟩ := fb_p3 h
    subst e1
    subst e2
    subst e3
    exact W.iret hx hb hr (fun t ht _ => ⟨⟨0, rfl, by rw [ht]; exact hP, hD⟩, hS.F ht⟩) hS.2.2 dX1_setFigure_18
abbrev rmX1_put : Room := { frames := 2, cells := 0, slots := 0, locals := 43 }
set_option maxHeartbeats 8000000 in
set_option maxRecDepth 100000 in
theorem metX1_put (l : Launch) (D : va_G) (cI : ClassId) (h0 qn qf qw B0 : Nat) (th : Int32) (ch : Int32) (nt : Nat → Int32) (fg : Nat → Int32) (wt : Nat → Int32) (mi : Int32) (a1 : Int32) (a2 : Int32) (a3 : Int32) (hz : Nat) (ro : Int32) (tho : Int32) (nto : Nat → Int32) (h : fX1_put th ch nt fg wt mi a1 a2 a3 = some (ro, tho, nto)) : Met l yX1_put wsX1_put rmX1_put (va_Pc [.ref h0, .int a1, .int a2, .int a3] (fb_pm D [(cI, .int)] B0 fb_sX1 (fb_wX1 cI h0 qn qf qw th ch nt fg wt mi) hz)) (fb_qM (fun q => some (.int ro)) (fun q => fb_wX1 cI h0 qn qf qw tho ch nto fg wt mi) D (va_A (fb_wX1 cI h0 qn qf qw th ch nt fg wt mi) hz)) 0 0 (va_A (fb_wX1 cI h0 qn qf qw th ch nt fg wt mi) hz) := by
  refine Met.ofW (cc := cX1_put) (maxL := 5) (ret := (some .int)) (by decide) rfl ?_
  intro p e s m args below meth c s₁ B hml hv
  obtain ⟨rfl, hsz, ⟨hP, hK, hZ⟩, hD0, hAB⟩ := hv
  have hx := B.exec
  have hb := B.bytes
  have hr := B.returns
  have hts := atoms_spec (ws := wsX1_put) B.pre
  have hown : s.vm.findClass RX1 = some m.cls := findClass_of_methodNamed B.named
  have hlocks := B.notSynchronized
  subst hsz
  have hD := hD0.self (sz := s.heap.size)
  generalize hAe : va_A (fb_wX1 cI h0 qn qf qw th ch nt fg wt mi) s.heap.size = A at hD hAB ⊢
  have hA : ∀ q : Nat, s.heap.size ≤ q → A q := fun q h9 => by rw [← hAe]; exact Or.inr h9
  have hS : va_S A s.heap s.heap [] := va_S.rf
  have hP : va_P D vwCl (fb_wX1 cI h0 qn qf qw th ch nt fg wt mi) s.heap := hP
  have hin0 : ∀ w ∈ u_ws RX1 TX1 6, w ∈ wsX1_put := fun _ h9 => List.mem_cons_of_mem _ (List.mem_append_right _ (h9))
  have w_f19 : (Cond.fieldLink RX1 19 "FiguredBassModel" "thrown" "I") ∈ wsX1_put := List.mem_of_getElem? (i := 1) rfl
  have w_f9 : (Cond.fieldLink RX1 9 "FiguredBassModel" "notes" "[I") ∈ wsX1_put := List.mem_of_getElem? (i := 2) rfl
  have hl := lv_entry ([.ref h0, .int a1, .int a2, .int a3]) (n := 5) (Nat.le_of_ble_eq_true rfl)
  rw [lg_entry_eq]
  generalize (lg_sl ([.ref h0, .int a1, .int a2, .int a3]) ++ List.replicate (5 - (lg_sl ([.ref h0, .int a1, .int a2, .int a3])).length) Slot.unset).toArray = ls at hl ⊢
  have hl : lv_has ls 5 [(0, .ref h0), (1, .int a1), (2, .int a2), (3, .int a3)] := hl
  suffices K : ∀ (H : Heap) (locs : List Loc), va_P D vwCl (fb_wX1 cI h0 qn qf qw th ch nt fg wt mi) H → va_S A s.heap H locs → W p l e (headSpec wsX1_put rmX1_put).room s m ([.ref h0, .int a1, .int a2, .int a3] : List Value).toArray below meth c H locs 0 0 (MQ below (fb_qM (fun q => some (.int ro)) (fun q => fb_wX1 cI h0 qn qf qw tho ch nto fg wt mi) D A) ([.ref h0, .int a1, .int a2, .int a3] : List Value).toArray s 0 0 A) (F0 m 0 ls []) from K s.heap [] hP hS
  intro H locs hP hS
  unfold fX1_put at h
  refine lv_aload_n hx hb dX1_put_0 rfl (lv_at hl 0 rfl) ?_
  refine lv_iconst (v := 0) hx hb dX1_put_1 (by decide) ?_
  refine va_put (D := D) (ci := 1) (v := .int 0) (ty := .int) (C := RX1) (T := TX1) (N := 6) hx hb hts hin0 tyX1 tyX1_ok nmX1 hown hK hP hD hS 0 rfl rfl 0 (by decide) (hts _ w_f19) (fun _ h9 => h9) rfl (by decide +kernel) rfl rfl (Nat.le_of_ble_eq_true rfl) dX1_put_2 (fun H locs hP hD hS => ?_)
  have hP : va_P D vwCl (fb_wX1 cI h0 qn qf qw 0 ch nt fg wt mi) H := hP
  have hD : va_D A (fb_wX1 cI h0 qn qf qw 0 ch nt fg wt mi) := hD
  refine lv_aload_n hx hb dX1_put_5 rfl (lv_at hl 0 rfl) ?_
  refine lv_iload_n hx hb dX1_put_6 rfl (lv_at hl 1 rfl) ?_
  obtain ⟨r2, h1, h⟩ := fb_b1s h
  refine fb_callR (W.runV (As := [.int a1]) (rest := []) ⟨hx, hb, hml, hown, hts⟩ (metX1_isChord l D cI h0 qn qf qw B0 0 ch nt fg wt mi a1 r2 h1) (cwV 1 hts gX1_put_X1_isChord rfl rfl rfl (by decide +kernel) ⟨Nat.le_of_ble_eq_true rfl, Nat.le_of_ble_eq_true rfl⟩) (fb_preVR (ci := 1) fb_sX1p hP hK hZ hS hAB rfl rfl _) rfl rfl hl.1 rfl (lv_room (Nat.le_of_ble_eq_true rfl)) dX1_put_7 ⟨Nat.le_of_ble_eq_true rfl, Nat.le_of_ble_eq_true rfl⟩) ?_
  refine lv_if_eq (tgt := 22) hx hb dX1_put_10 (by decide) (fun c3 => ?_) (fun c3 => ?_)
  · replace h := fb_it c3 h
    refine lv_aload_n hx hb dX1_put_22 rfl (lv_at hl 0 rfl) ?_
    refine lv_iconst (v := 1) hx hb dX1_put_23 (by decide) ?_
    obtain ⟨r5, th_6, h4, h⟩ := fb_b2s h
    have hPc : va_P D vwCl (fb_wX1 cI h0 qn qf qw 0 ch nt fg wt mi) H := hP.sub [0, 1, 2, 3] rfl
    have hDc : va_D A (fb_wX1 cI h0 qn qf qw 0 ch nt fg wt mi) := hD.sub [0, 1, 2, 3] (by decide) rfl
    have hFc := va_free (wc := fb_wX1 cI h0 qn qf qw 0 ch nt fg wt mi) hD hS hA [0, 1, 2, 3] rfl
    refine fb_callM (va_runV (As := [.int 1]) (rest := []) ⟨hx, hb, hml, hown, hts⟩ (metX1_no l D cI h0 qn qf qw B0 0 ch nt fg wt mi 1 H.size r5 th_6 h4) (cwV 1 hts gX1_put_X1_no rfl rfl rfl (by decide +kernel) ⟨Nat.le_of_ble_eq_true rfl, Nat.le_of_ble_eq_true rfl⟩) (fb_preVM (ci := 1) fb_sX1p hPc hK hDc hZ hS hAB hA rfl rfl _) rfl rfl hl.1 rfl (lv_room (Nat.le_of_ble_eq_true rfl)) dX1_put_24 ⟨Nat.le_of_ble_eq_true rfl, Nat.le_of_ble_eq_true rfl⟩) hS (fun q _ h9 => hFc q h9) hFc (fun _ H1 locs hP1 hD1 hz1 hk1 hS => ?_)
    have hP : va_P D vwCl (fb_wX1 cI h0 qn qf qw th_6 ch nt fg wt mi) H1 := hP1
    have hD : va_D A (fb_wX1 cI h0 qn qf qw th_6 ch nt fg wt mi) := hD1.weaken (fun _ q _ h9 => hFc q.1 h9)
    generalize H1 = H at hP hS
    obtain ⟨e1, e2, e3⟩ := fb_p3 h
    subst e1
    subst e2
    subst e3
    exact W.iret hx hb hr (fun t ht _ => ⟨⟨0, rfl, by rw [ht]; exact hP, hD⟩, hS.F ht⟩) hS.2.2 dX1_put_27
  · replace h := fb_ie c3 h
    refine lv_iload_n hx hb dX1_put_13 rfl (lv_at hl 2 rfl) ?_
    refine lv_iconst (v := 1) hx hb dX1_put_14 (by decide) ?_
    refine lv_iconst (v := 3) hx hb dX1_put_15 (by decide) ?_
    obtain ⟨r9, h8, h⟩ := fb_b1s h
    refine fb_callR (W.runS (As := [.int a2, .int 1, .int 3]) (rest := []) ⟨hx, hb, hml, hown, hts⟩ (metX1_isIn l B0 a2 1 3 r9 h8) (va_cwS 3 hts gX1_put_X1_isIn rfl rfl rfl (by decide +kernel) ⟨Nat.le_of_ble_eq_true rfl, Nat.le_of_ble_eq_true rfl⟩) (fb_preS fb_sX1p hZ hS hAB _) rfl rfl hl.1 rfl (lv_room (Nat.le_of_ble_eq_true rfl)) dX1_put_16 ⟨Nat.le_of_ble_eq_true rfl, Nat.le_of_ble_eq_true rfl⟩) ?_
    refine lv_if_ne (tgt := 28) hx hb dX1_put_19 (by decide) (fun c10 => ?_) (fun c10 => ?_)
    · replace h := fb_ie c10 h
      refine lv_iload_n hx hb dX1_put_28 rfl (lv_at hl 3 rfl) ?_
      refine lv_iconst (v := (-1)) hx hb dX1_put_29 (by decide) ?_
      refine lv_icmp_eq (tgt := 47) hx hb dX1_put_30 (by decide) (fun c11 => ?_) (fun c11 => ?_)
      · replace h := fb_it c11 h
        refine lv_aload_n hx hb dX1_put_47 rfl (lv_at hl 0 rfl) ?_
        refine lv_iload_n hx hb dX1_put_48 rfl (lv_at hl 1 rfl) ?_
        refine lv_iload_n hx hb dX1_put_49 rfl (lv_at hl 2 rfl) ?_
        obtain ⟨r13, h12, h⟩ := fb_b1s h
        refine fb_callR (W.runV (As := [.int a1, .int a2]) (rest := []) ⟨hx, hb, hml, hown, hts⟩ (metX1_at l D cI h0 qn qf qw B0 0 ch nt fg wt mi a1 a2 r13 h12) (cwV 2 hts gX1_put_X1_at rfl rfl rfl (by decide +kernel) ⟨Nat.le_of_ble_eq_true rfl, Nat.le_of_ble_eq_true rfl⟩) (fb_preVR (ci := 1) fb_sX1p hP hK hZ hS hAB rfl rfl _) rfl rfl hl.1 rfl (lv_room (Nat.le_of_ble_eq_true rfl)) dX1_put_50 ⟨Nat.le_of_ble_eq_true rfl, Nat.le_of_ble_eq_true rfl⟩) ?_
        refine lv_istore (lv' := [(4, .int r13), (0, .ref h0), (1, .int a1), (2, .int a2), (3, .int a3)]) hx hb dX1_put_53 hl (by decide) rfl (fun ls hl => ?_)
        refine lv_aload_n hx hb dX1_put_55 rfl (lv_at hl 1 rfl) ?_
        refine va_get (D := D) (ci := 1) (v := .ref qn) (C := RX1) (T := TX1) (N := 6) hx hb hts hin0 hown hK hP 0 rfl rfl 2 (by decide) (hts _ w_f9) (fun _ h9 => h9) rfl dX1_put_56 ?_
        refine lv_iconst (v := 4) hx hb dX1_put_59 (by decide) ?_
        refine lv_iload_n hx hb dX1_put_60 rfl (lv_at hl 2 rfl) ?_
        refine lv_imul hx hb dX1_put_61 ?_
        refine lv_iload_n hx hb dX1_put_62 rfl (lv_at hl 3 rfl) ?_
        refine lv_iadd hx hb dX1_put_63 ?_
        refine lv_iload_n hx hb dX1_put_64 rfl (lv_at hl 4 rfl) ?_
        obtain ⟨hi14, h⟩ := fb_cks h
        refine va_iast hx hb hK hP hD hS 1 0 rfl rfl (fb_ixin hi14) dX1_put_65 (fun H locs hP hD hS => ?_)
        have hP : va_P D vwCl (fb_wX1 cI h0 qn qf qw 0 ch (upd nt (((4 : Int32) * a1) + a2).toNatClampNeg a3) fg wt mi) H := hP
        have hD : va_D A (fb_wX1 cI h0 qn qf qw 0 ch (upd nt (((4 : Int32) * a1) + a2).toNatClampNeg a3) fg wt mi) := hD
        refine lv_iload hx hb dX1_put_66 (lv_at hl 0 rfl) ?_
        obtain ⟨e1, e2, e3⟩ := fb_p3 h
        subst e1
        subst e2
        subst e3
        exact W.iret hx hb hr (fun t ht _ => ⟨⟨0, rfl, by rw [ht]; exact hP, hD⟩, hS.F ht⟩) hS.2.2 dX1_put_68
      · replace h := fb_ie c11 h
        refine lv_iload_n hx hb dX1_put_33 rfl (lv_at hl 2 rfl) ?_
        refine lv_iload_n hx hb dX1_put_34 rfl (lv_at hl 3 rfl) ?_
        obtain ⟨r17, h16, h⟩ := fb_b1s h
        refine fb_callR (W.runS (As := [.int a2, .int a3]) (rest := []) ⟨hx, hb, hml, hown, hts⟩ (metX1_isOf l B0 a2 a3 r17 h16) (va_cwS 2 hts gX1_put_X1_isOf rfl rfl rfl (by decide +kernel) ⟨Nat.le_of_ble_eq_true rfl, Nat.le_of_ble_eq_true rfl⟩) (fb_preS fb_sX1p hZ hS hAB _) rfl rfl hl.1 rfl (lv_room (Nat.le_of_ble_eq_true rfl)) dX1_put_35 ⟨Nat.le_of_ble_eq_true rfl, Nat.le_of_ble_eq_true rfl⟩) ?_
        refine lv_if_ne (tgt := 47) hx hb dX1_put_38 (by decide) (fun c18 => ?_) (fun c18 => ?_)
        · replace h := fb_ie c18 h
          refine lv_aload_n hx hb dX1_put_47 rfl (lv_at hl 0 rfl) ?_
          refine lv_iload_n hx hb dX1_put_48 rfl (lv_at hl 1 rfl) ?_
          refine lv_iload_n hx hb dX1_put_49 rfl (lv_at hl 2 rfl) ?_
          obtain ⟨r20, h19, h⟩ := fb_b1s h
          refine fb_callR (W.runV (As := [.int a1, .int a2]) (rest := []) ⟨hx, hb, hml, hown, hts⟩ (metX1_at l D cI h0 qn qf qw B0 0 ch nt fg wt mi a1 a2 r20 h19) (cwV 2 hts gX1_put_X1_at rfl rfl rfl (by decide +kernel) ⟨Nat.le_of_ble_eq_true rfl, Nat.le_of_ble_eq_true rfl⟩) (fb_preVR (ci := 1) fb_sX1p hP hK hZ hS hAB rfl rfl _) rfl rfl hl.1 rfl (lv_room (Nat.le_of_ble_eq_true rfl)) dX1_put_50 ⟨Nat.le_of_ble_eq_true rfl, Nat.le_of_ble_eq_true rfl⟩) ?_
          refine lv_istore (lv' := [(4, .int r20), (0, .ref h0), (1, .int a1), (2, .int a2), (3, .int a3)]) hx hb dX1_put_53 hl (by decide) rfl (fun ls hl => ?_)
          refine lv_aload_n hx hb dX1_put_55 rfl (lv_at hl 1 rfl) ?_
          refine va_get (D := D) (ci := 1) (v := .ref qn) (C := RX1) (T := TX1) (N := 6) hx hb hts hin0 hown hK hP 0 rfl rfl 2 (by decide) (hts _ w_f9) (fun _ h9 => h9) rfl dX1_put_56 ?_
          refine lv_iconst (v := 4) hx hb dX1_put_59 (by decide) ?_
          refine lv_iload_n hx hb dX1_put_60 rfl (lv_at hl 2 rfl) ?_
          refine lv_imul hx hb dX1_put_61 ?_
          refine lv_iload_n hx hb dX1_put_62 rfl (lv_at hl 3 rfl) ?_
          refine lv_iadd hx hb dX1_put_63 ?_
          refine lv_iload_n hx hb dX1_put_64 rfl (lv_at hl 4 rfl) ?_
          obtain ⟨hi21, h⟩ := fb_cks h
          refine va_iast hx hb hK hP hD hS 1 0 rfl rfl (fb_ixin hi21) dX1_put_65 (fun H locs hP hD hS => ?_)
          have hP : va_P D vwCl (fb_wX1 cI h0 qn qf qw 0 ch (upd nt (((4 : Int32) * a1) + a2).toNatClampNeg a3) fg wt mi) H := hP
          have hD : va_D A (fb_wX1 cI h0 qn qf qw 0 ch (upd nt (((4 : Int32) * a1) + a2).toNatClampNeg a3) fg wt mi) := hD
          refine lv_iload hx hb dX1_put_66 (lv_at hl 0 rfl) ?_
          obtain ⟨e1, e2, e3⟩ := fb_p3 h
          subst e1
          subst e2
          subst e3
          exact W.iret hx hb hr (fun t ht _ => ⟨⟨0, rfl, by rw [ht]; exact hP, hD⟩, hS.F ht⟩) hS.2.2 dX1_put_68
        · replace h := fb_it c18 h
          refine lv_aload_n hx hb dX1_put_41 rfl (lv_at hl 0 rfl) ?_
          refine lv_iconst (v := 2) hx hb dX1_put_42 (by decide) ?_
          obtain ⟨r24, th_25, h23, h⟩ := fb_b2s h
          have hPc : va_P D vwCl (fb_wX1 cI h0 qn qf qw 0 ch nt fg wt mi) H := hP.sub [0, 1, 2, 3] rfl
          have hDc : va_D A (fb_wX1 cI h0 qn qf qw 0 ch nt fg wt mi) := hD.sub [0, 1, 2, 3] (by decide) rfl
          have hFc := va_free (wc := fb_wX1 cI h0 qn qf qw 0 ch nt fg wt mi) hD hS hA [0, 1, 2, 3] rfl
          refine fb_callM (va_runV (As := [.int 2]) (rest := []) ⟨hx, hb, hml, hown, hts⟩ (metX1_no l D cI h0 qn qf qw B0 0 ch nt fg wt mi 2 H.size r24 th_25 h23) (cwV 1 hts gX1_put_X1_no rfl rfl rfl (by decide +kernel) ⟨Nat.le_of_ble_eq_true rfl, Nat.le_of_ble_eq_true rfl⟩) (fb_preVM (ci := 1) fb_sX1p hPc hK hDc hZ hS hAB hA rfl rfl _) rfl rfl hl.1 rfl (lv_room (Nat.le_of_ble_eq_true rfl)) dX1_put_43 ⟨Nat.le_of_ble_eq_true rfl, Nat.le_of_ble_eq_true rfl⟩) hS (fun q _ h9 => hFc q h9) hFc (fun _ H1 locs hP1 hD1 hz1 hk1 hS => ?_)
          have hP : va_P D vwCl (fb_wX1 cI h0 qn qf qw th_25 ch nt fg wt mi) H1 := hP1
          have hD : va_D A (fb_wX1 cI h0 qn qf qw th_25 ch nt fg wt mi) := hD1.weaken (fun _ q _ h9 => hFc q.1 h9)
          generalize H1 = H at hP hS
          obtain ⟨e1, e2, e3⟩ := fb_p3 h
          subst e1
          subst e2
          subst e3
          exact W.iret hx hb hr (fun t ht _ => ⟨⟨0, rfl, by rw [ht]; exact hP, hD⟩, hS.F ht⟩) hS.2.2 dX1_put_46
    · replace h := fb_it c10 h
      refine lv_aload_n hx hb dX1_put_22 rfl (lv_at hl 0 rfl) ?_
      refine lv_iconst (v := 1) hx hb dX1_put_23 (by decide) ?_
      obtain ⟨r28, th_29, h27, h⟩ := fb_b2s h
      have hPc : va_P D vwCl (fb_wX1 cI h0 qn qf qw 0 ch nt fg wt mi) H := hP.sub [0, 1, 2, 3] rfl
      have hDc : va_D A (fb_wX1 cI h0 qn qf qw 0 ch nt fg wt mi) := hD.sub [0, 1, 2, 3] (by decide) rfl
      have hFc := va_free (wc := fb_wX1 cI h0 qn qf qw 0 ch nt fg wt mi) hD hS hA [0, 1, 2, 3] rfl
      refine fb_callM (va_runV (As := [.int 1]) (rest := []) ⟨hx, hb, hml, hown, hts⟩ (metX1_no l D cI h0 qn qf qw B0 0 ch nt fg wt mi 1 H.size r28 th_29 h27) (cwV 1 hts gX1_put_X1_no rfl rfl rfl (by decide +kernel) ⟨Nat.le_of_ble_eq_true rfl, Nat.le_of_ble_eq_true rfl⟩) (fb_preVM (ci := 1) fb_sX1p hPc hK hDc hZ hS hAB hA rfl rfl _) rfl rfl hl.1 rfl (lv_room (Nat.le_of_ble_eq_true rfl)) dX1_put_24 ⟨Nat.le_of_ble_eq_true rfl, Nat.le_of_ble_eq_true rfl⟩) hS (fun q _ h9 => hFc q h9) hFc (fun _ H1 locs hP1 hD1 hz1 hk1 hS => ?_)
      have hP : va_P D vwCl (fb_wX1 cI h0 qn qf qw th_29 ch nt fg wt mi) H1 := hP1
      have hD : va_D A (fb_wX1 cI h0 qn qf qw th_29 ch nt fg wt mi) := hD1.weaken (fun _ q _ h9 => hFc q.1 h9)
      generalize H1 = H at hP hS
      obtain ⟨e1, e2, e3⟩ := fb_p3 h
      subst e1
      subst e2
      subst e3
      exact W.iret hx hb hr (fun t ht _ => ⟨⟨0, rfl, by rw [ht]; exact hP, hD⟩, hS.F ht⟩) hS.2.2 dX1_put_27
abbrev rmX1_drop : Room := { frames := 1, cells := 0, slots := 0, locals := 21 }
set_option maxHeartbeats 8000000 in
set_option maxRecDepth 100000 in
theorem metX1_drop (l : Launch) (D : va_G) (cI : ClassId) (h0 qn qf qw B0 : Nat) (th : Int32) (ch : Int32) (nt : Nat → Int32) (fg : Nat → Int32) (wt : Nat → Int32) (mi : Int32) (hz : Nat) (ro : Int32) (tho : Int32) (cho : Int32) (h : fX1_drop th ch nt fg wt mi = some (ro, tho, cho)) : Met l yX1_drop wsX1_drop rmX1_drop (va_Pc [.ref h0] (fb_pm D [(cI, .int)] B0 fb_sX1 (fb_wX1 cI h0 qn qf qw th ch nt fg wt mi) hz)) (fb_qM (fun q => some (.int ro)) (fun q => fb_wX1 cI h0 qn qf qw tho cho nt fg wt mi) D (va_A (fb_wX1 cI h0 qn qf qw th ch nt fg wt mi) hz)) 0 0 (va_A (fb_wX1 cI h0 qn qf qw th ch nt fg wt mi) hz) := by
  refine Met.ofW (cc := cX1_drop) (maxL := 1) (ret := (some .int)) (by decide) rfl ?_
  intro p e s m args below meth c s₁ B hml hv
  obtain ⟨rfl, hsz, ⟨hP, hK, hZ⟩, hD0, hAB⟩ := hv
  have hx := B.exec
  have hb := B.bytes
  have hr := B.returns
  have hts := atoms_spec (ws := wsX1_drop) B.pre
  have hown : s.vm.findClass RX1 = some m.cls := findClass_of_methodNamed B.named
  have hlocks := B.notSynchronized
  subst hsz
  have hD := hD0.self (sz := s.heap.size)
  generalize hAe : va_A (fb_wX1 cI h0 qn qf qw th ch nt fg wt mi) s.heap.size = A at hD hAB ⊢
  have hA : ∀ q : Nat, s.heap.size ≤ q → A q := fun q h9 => by rw [← hAe]; exact Or.inr h9
  have hS : va_S A s.heap s.heap [] := va_S.rf
  have hP : va_P D vwCl (fb_wX1 cI h0 qn qf qw th ch nt fg wt mi) s.heap := hP
  have hin0 : ∀ w ∈ u_ws RX1 TX1 6, w ∈ wsX1_drop := fun _ h9 => List.mem_cons_of_mem _ (List.mem_append_right _ (h9))
  have w_f19 : (Cond.fieldLink RX1 19 "FiguredBassModel" "thrown" "I") ∈ wsX1_drop := List.mem_of_getElem? (i := 1) rfl
  have w_f23 : (Cond.fieldLink RX1 23 "FiguredBassModel" "chords" "I") ∈ wsX1_drop := List.mem_of_getElem? (i := 2) rfl
  have hl := lv_entry ([.ref h0]) (n := 1) (Nat.le_of_ble_eq_true rfl)
  rw [lg_entry_eq]
  generalize (lg_sl ([.ref h0]) ++ List.replicate (1 - (lg_sl ([.ref h0])).length) Slot.unset).toArray = ls at hl ⊢
  have hl : lv_has ls 1 [(0, .ref h0)] := hl
  suffices K : ∀ (H : Heap) (locs : List Loc), va_P D vwCl (fb_wX1 cI h0 qn qf qw th ch nt fg wt mi) H → va_S A s.heap H locs → W p l e (headSpec wsX1_drop rmX1_drop).room s m ([.ref h0] : List Value).toArray below meth c H locs 0 0 (MQ below (fb_qM (fun q => some (.int ro)) (fun q => fb_wX1 cI h0 qn qf qw tho cho nt fg wt mi) D A) ([.ref h0] : List Value).toArray s 0 0 A) (F0 m 0 ls []) from K s.heap [] hP hS
  intro H locs hP hS
  unfold fX1_drop at h
  refine lv_aload_n hx hb dX1_drop_0 rfl (lv_at hl 0 rfl) ?_
  refine lv_iconst (v := 0) hx hb dX1_drop_1 (by decide) ?_
  refine va_put (D := D) (ci := 1) (v := .int 0) (ty := .int) (C := RX1) (T := TX1) (N := 6) hx hb hts hin0 tyX1 tyX1_ok nmX1 hown hK hP hD hS 0 rfl rfl 0 (by decide) (hts _ w_f19) (fun _ h9 => h9) rfl (by decide +kernel) rfl rfl (Nat.le_of_ble_eq_true rfl) dX1_drop_2 (fun H locs hP hD hS => ?_)
  have hP : va_P D vwCl (fb_wX1 cI h0 qn qf qw 0 ch nt fg wt mi) H := hP
  have hD : va_D A (fb_wX1 cI h0 qn qf qw 0 ch nt fg wt mi) := hD
  refine lv_aload_n hx hb dX1_drop_5 rfl (lv_at hl 0 rfl) ?_
  refine va_get (D := D) (ci := 1) (v := .int ch) (C := RX1) (T := TX1) (N := 6) hx hb hts hin0 hown hK hP 0 rfl rfl 1 (by decide) (hts _ w_f23) (fun _ h9 => h9) rfl dX1_drop_6 ?_
  refine lv_if_ne (tgt := 18) hx hb dX1_drop_9 (by decide) (fun c1 => ?_) (fun c1 => ?_)
  · replace h := fb_ie c1 h
    refine lv_aload_n hx hb dX1_drop_18 rfl (lv_at hl 0 rfl) ?_
    refine lv_dup hx hb dX1_drop_19 rfl ?_
    refine va_get (D := D) (ci := 1) (v := .int ch) (C := RX1) (T := TX1) (N := 6) hx hb hts hin0 hown hK hP 0 rfl rfl 1 (by decide) (hts _ w_f23) (fun _ h9 => h9) rfl dX1_drop_20 ?_
    refine lv_iconst (v := 1) hx hb dX1_drop_23 (by decide) ?_
    refine lv_isub hx hb dX1_drop_24 ?_
    refine va_put (D := D) (ci := 1) (v := .int (ch - 1)) (ty := .int) (C := RX1) (T := TX1) (N := 6) hx hb hts hin0 tyX1 tyX1_ok nmX1 hown hK hP hD hS 0 rfl rfl 1 (by decide) (hts _ w_f23) (fun _ h9 => h9) rfl (by decide +kernel) rfl rfl (Nat.le_of_ble_eq_true rfl) dX1_drop_25 (fun H locs hP hD hS => ?_)
    have hP : va_P D vwCl (fb_wX1 cI h0 qn qf qw 0 (ch - 1) nt fg wt mi) H := hP
    have hD : va_D A (fb_wX1 cI h0 qn qf qw 0 (ch - 1) nt fg wt mi) := hD
    refine lv_aload_n hx hb dX1_drop_28 rfl (lv_at hl 0 rfl) ?_
    refine va_get (D := D) (ci := 1) (v := .int (ch - 1)) (C := RX1) (T := TX1) (N := 6) hx hb hts hin0 hown hK hP 0 rfl rfl 1 (by decide) (hts _ w_f23) (fun _ h9 => h9) rfl dX1_drop_29 ?_
    obtain ⟨e1, e2, e3⟩ := fb_p3 h
    subst e1
    subst e2
    subst e3
    exact W.iret hx hb hr (fun t ht _ => ⟨⟨0, rfl, by rw [ht]; exact hP, hD⟩, hS.F ht⟩) hS.2.2 dX1_drop_32
  · replace h := fb_it c1 h
    refine lv_aload_n hx hb dX1_drop_12 rfl (lv_at hl 0 rfl) ?_
    refine lv_iconst (v := 1) hx hb dX1_drop_13 (by decide) ?_
    obtain ⟨r4, th_5, h3, h⟩ := fb_b2s h
    have hPc : va_P D vwCl (fb_wX1 cI h0 qn qf qw 0 ch nt fg wt mi) H := hP.sub [0, 1, 2, 3] rfl
    have hDc : va_D A (fb_wX1 cI h0 qn qf qw 0 ch nt fg wt mi) := hD.sub [0, 1, 2, 3] (by decide) rfl
    have hFc := va_free (wc := fb_wX1 cI h0 qn qf qw 0 ch nt fg wt mi) hD hS hA [0, 1, 2, 3] rfl
    refine fb_callM (va_runV (As := [.int 1]) (rest := []) ⟨hx, hb, hml, hown, hts⟩ (metX1_no l D cI h0 qn qf qw B0 0 ch nt fg wt mi 1 H.size r4 th_5 h3) (cwV 1 hts gX1_drop_X1_no rfl rfl rfl (by decide +kernel) ⟨Nat.le_of_ble_eq_true rfl, Nat.le_of_ble_eq_true rfl⟩) (fb_preVM (ci := 1) fb_sX1p hPc hK hDc hZ hS hAB hA rfl rfl _) rfl rfl hl.1 rfl (lv_room (Nat.le_of_ble_eq_true rfl)) dX1_drop_14 ⟨Nat.le_of_ble_eq_true rfl, Nat.le_of_ble_eq_true rfl⟩) hS (fun q _ h9 => hFc q h9) hFc (fun _ H1 locs hP1 hD1 hz1 hk1 hS => ?_)
    have hP : va_P D vwCl (fb_wX1 cI h0 qn qf qw th_5 ch nt fg wt mi) H1 := hP1
    have hD : va_D A (fb_wX1 cI h0 qn qf qw th_5 ch nt fg wt mi) := hD1.weaken (fun _ q _ h9 => hFc q.1 h9)
    generalize H1 = H at hP hS
    obtain ⟨e1, e2, e3⟩ := fb_p3 h
    subst e1
    subst e2
    subst e3
    exact W.iret hx hb hr (fun t ht _ => ⟨⟨0, rfl, by rw [ht]; exact hP, hD⟩, hS.F ht⟩) hS.2.2 dX1_drop_17
abbrev rmX1_setKey : Room := { frames := 0, cells := 0, slots := 0, locals := 0 }
set_option maxHeartbeats 8000000 in
set_option maxRecDepth 100000 in
theorem metX1_setKey (l : Launch) (D : va_G) (cI : ClassId) (h0 qn qf qw B0 : Nat) (th : Int32) (ch : Int32) (nt : Nat → Int32) (fg : Nat → Int32) (wt : Nat → Int32) (mi : Int32) (a1 : Int32) (hz : Nat) (ro : Int32) (tho : Int32) (mio : Int32) (h : fX1_setKey th ch nt fg wt mi a1 = some (ro, tho, mio)) : Met l yX1_setKey wsX1_setKey rmX1_setKey (va_Pc [.ref h0, .int a1] (fb_pm D [(cI, .int)] B0 fb_sX1 (fb_wX1 cI h0 qn qf qw th ch nt fg wt mi) hz)) (fb_qM (fun q => some (.int ro)) (fun q => fb_wX1 cI h0 qn qf qw tho ch nt fg wt mio) D (va_A (fb_wX1 cI h0 qn qf qw th ch nt fg wt mi) hz)) 0 0 (va_A (fb_wX1 cI h0 qn qf qw th ch nt fg wt mi) hz) := by
  refine Met.ofW (cc := cX1_setKey) (maxL := 3) (ret := (some .boolean)) (by decide) rfl ?_
  intro p e s m args below meth c s₁ B hml hv
  obtain ⟨rfl, hsz, ⟨hP, hK, hZ⟩, hD0, hAB⟩ := hv
  have hx := B.exec
  have hb := B.bytes
  have hr := B.returns
  have hts := atoms_spec (ws := wsX1_setKey) B.pre
  have hown : s.vm.findClass RX1 = some m.cls := findClass_of_methodNamed B.named
  have hlocks := B.notSynchronized
  subst hsz
  have hD := hD0.self (sz := s.heap.size)
  generalize hAe : va_A (fb_wX1 cI h0 qn qf qw th ch nt fg wt mi) s.heap.size = A at hD hAB ⊢
  have hA : ∀ q : Nat, s.heap.size ≤ q → A q := fun q h9 => by rw [← hAe]; exact Or.inr h9
  have hS : va_S A s.heap s.heap [] := va_S.rf
  have hP : va_P D vwCl (fb_wX1 cI h0 qn qf qw th ch nt fg wt mi) s.heap := hP
  have hin0 : ∀ w ∈ u_ws RX1 TX1 6, w ∈ wsX1_setKey := fun _ h9 => List.mem_cons_of_mem _ (List.mem_append_right _ (h9))
  have w_f19 : (Cond.fieldLink RX1 19 "FiguredBassModel" "thrown" "I") ∈ wsX1_setKey := List.mem_of_getElem? (i := 1) rfl
  have w_f36 : (Cond.fieldLink RX1 36 "FiguredBassModel" "isMinor" "Z") ∈ wsX1_setKey := List.mem_of_getElem? (i := 2) rfl
  have hl := lv_entry ([.ref h0, .int a1]) (n := 3) (Nat.le_of_ble_eq_true rfl)
  rw [lg_entry_eq]
  generalize (lg_sl ([.ref h0, .int a1]) ++ List.replicate (3 - (lg_sl ([.ref h0, .int a1])).length) Slot.unset).toArray = ls at hl ⊢
  have hl : lv_has ls 3 [(0, .ref h0), (1, .int a1)] := hl
  suffices K : ∀ (H : Heap) (locs : List Loc), va_P D vwCl (fb_wX1 cI h0 qn qf qw th ch nt fg wt mi) H → va_S A s.heap H locs → W p l e (headSpec wsX1_setKey rmX1_setKey).room s m ([.ref h0, .int a1] : List Value).toArray below meth c H locs 0 0 (MQ below (fb_qM (fun q => some (.int ro)) (fun q => fb_wX1 cI h0 qn qf qw tho ch nt fg wt mio) D A) ([.ref h0, .int a1] : List Value).toArray s 0 0 A) (F0 m 0 ls []) from K s.heap [] hP hS
  intro H locs hP hS
  unfold fX1_setKey at h
  refine lv_aload_n hx hb dX1_setKey_0 rfl (lv_at hl 0 rfl) ?_
  refine lv_iconst (v := 0) hx hb dX1_setKey_1 (by decide) ?_
  refine va_put (D := D) (ci := 1) (v := .int 0) (ty := .int) (C := RX1) (T := TX1) (N := 6) hx hb hts hin0 tyX1 tyX1_ok nmX1 hown hK hP hD hS 0 rfl rfl 0 (by decide) (hts _ w_f19) (fun _ h9 => h9) rfl (by decide +kernel) rfl rfl (Nat.le_of_ble_eq_true rfl) dX1_setKey_2 (fun H locs hP hD hS => ?_)
  have hP : va_P D vwCl (fb_wX1 cI h0 qn qf qw 0 ch nt fg wt mi) H := hP
  have hD : va_D A (fb_wX1 cI h0 qn qf qw 0 ch nt fg wt mi) := hD
  refine lv_aload_n hx hb dX1_setKey_5 rfl (lv_at hl 0 rfl) ?_
  refine va_get (D := D) (ci := 1) (v := .int mi) (C := RX1) (T := TX1) (N := 6) hx hb hts hin0 hown hK hP 0 rfl rfl 5 (by decide) (hts _ w_f36) (fun _ h9 => h9) rfl dX1_setKey_6 ?_
  refine lv_istore_n (lv' := [(2, .int mi), (0, .ref h0), (1, .int a1)]) hx hb dX1_setKey_9 rfl hl (by decide) rfl (fun ls hl => ?_)
  refine lv_aload_n hx hb dX1_setKey_10 rfl (lv_at hl 1 rfl) ?_
  refine lv_iload_n hx hb dX1_setKey_11 rfl (lv_at hl 2 rfl) ?_
  obtain ⟨hz1, h⟩ := fb_cks h
  refine va_put (D := D) (ci := 1) (v := .int a1) (ty := .boolean) (C := RX1) (T := TX1) (N := 6) hx hb hts hin0 tyX1 tyX1_ok nmX1 hown hK hP hD hS 0 rfl rfl 5 (by decide) (hts _ w_f36) (fun _ h9 => h9) rfl (by decide +kernel) (fb_zn hz1) (fb_zf hz1) (Nat.le_of_ble_eq_true rfl) dX1_setKey_12 (fun H locs hP hD hS => ?_)
  have hP : va_P D vwCl (fb_wX1 cI h0 qn qf qw 0 ch nt fg wt a1) H := hP
  have hD : va_D A (fb_wX1 cI h0 qn qf qw 0 ch nt fg wt a1) := hD
  refine lv_iload_n hx hb dX1_setKey_15 rfl (lv_at hl 0 rfl) ?_
  obtain ⟨hz2, h⟩ := fb_cks h
  obtain ⟨e1, e2, e3⟩ := fb_p3 h
  subst e1
  subst e2
  subst e3
  exact W.zret (ty := .boolean) hx hb hr (fb_zn hz2) (fun t ht _ => ⟨⟨0, rfl, by rw [ht]; exact hP, hD⟩, hS.F ht⟩) hS.2.2 dX1_setKey_16
abbrev rmX1_setWeight : Room := { frames := 1, cells := 0, slots := 0, locals := 22 }
set_option maxHeartbeats 8000000 in
set_option maxRecDepth 100000 in
theorem metX1_setWeight (l : Launch) (D : va_G) (cI : ClassId) (h0 qn qf qw B0 : Nat) (th : Int32) (ch : Int32) (nt : Nat → Int32) (fg : Nat → Int32) (wt : Nat → Int32) (mi : Int32) (a1 : Int32) (a2 : Int32) (hz : Nat) (ro : Int32) (tho : Int32) (wto : Nat → Int32) (h : fX1_setWeight th ch nt fg wt mi a1 a2 = some (ro, tho, wto)) : Met l yX1_setWeight wsX1_setWeight rmX1_setWeight (va_Pc [.ref h0, .int a1, .int a2] (fb_pm D [(cI, .int)] B0 fb_sX1 (fb_wX1 cI h0 qn qf qw th ch nt fg wt mi) hz)) (fb_qM (fun q => some (.int ro)) (fun q => fb_wX1 cI h0 qn qf qw tho ch nt fg wto mi) D (va_A (fb_wX1 cI h0 qn qf qw th ch nt fg wt mi) hz)) 0 0 (va_A (fb_wX1 cI h0 qn qf qw th ch nt fg wt mi) hz) := by
  refine Met.ofW (cc := cX1_setWeight) (maxL := 4) (ret := (some .int)) (by decide) rfl ?_
  intro p e s m args below meth c s₁ B hml hv
  obtain ⟨rfl, hsz, ⟨hP, hK, hZ⟩, hD0, hAB⟩ := hv
  have hx := B.exec
  have hb := B.bytes
  have hr := B.returns
  have hts := atoms_spec (ws := wsX1_setWeight) B.pre
  have hown : s.vm.findClass RX1 = some m.cls := findClass_of_methodNamed B.named
  have hlocks := B.notSynchronized
  subst hsz
  have hD := hD0.self (sz := s.heap.size)
  generalize hAe : va_A (fb_wX1 cI h0 qn qf qw th ch nt fg wt mi) s.heap.size = A at hD hAB ⊢
  have hA : ∀ q : Nat, s.heap.size ≤ q → A q := fun q h9 => by rw [← hAe]; exact Or.inr h9
  have hS : va_S A s.heap s.heap [] := va_S.rf
  have hP : va_P D vwCl (fb_wX1 cI h0 qn qf qw th ch nt fg wt mi) s.heap := hP
  have hin0 : ∀ w ∈ u_ws RX1 TX1 6, w ∈ wsX1_setWeight := fun _ h9 => List.mem_cons_of_mem _ (List.mem_append_right _ (h9))
  have w_f16 : (Cond.fieldLink RX1 16 "FiguredBassModel" "weights" "[I") ∈ wsX1_setWeight := List.mem_of_getElem? (i := 2) rfl
  have w_f19 : (Cond.fieldLink RX1 19 "FiguredBassModel" "thrown" "I") ∈ wsX1_setWeight := List.mem_of_getElem? (i := 1) rfl
  have hl := lv_entry ([.ref h0, .int a1, .int a2]) (n := 4) (Nat.le_of_ble_eq_true rfl)
  rw [lg_entry_eq]
  generalize (lg_sl ([.ref h0, .int a1, .int a2]) ++ List.replicate (4 - (lg_sl ([.ref h0, .int a1, .int a2])).length) Slot.unset).toArray = ls at hl ⊢
  have hl : lv_has ls 4 [(0, .ref h0), (1, .int a1), (2, .int a2)] := hl
  suffices K : ∀ (H : Heap) (locs : List Loc), va_P D vwCl (fb_wX1 cI h0 qn qf qw th ch nt fg wt mi) H → va_S A s.heap H locs → W p l e (headSpec wsX1_setWeight rmX1_setWeight).room s m ([.ref h0, .int a1, .int a2] : List Value).toArray below meth c H locs 0 0 (MQ below (fb_qM (fun q => some (.int ro)) (fun q => fb_wX1 cI h0 qn qf qw tho ch nt fg wto mi) D A) ([.ref h0, .int a1, .int a2] : List Value).toArray s 0 0 A) (F0 m 0 ls []) from K s.heap [] hP hS
  intro H locs hP hS
  unfold fX1_setWeight at h
  refine lv_aload_n hx hb dX1_setWeight_0 rfl (lv_at hl 0 rfl) ?_
  refine lv_iconst (v := 0) hx hb dX1_setWeight_1 (by decide) ?_
  refine va_put (D := D) (ci := 1) (v := .int 0) (ty := .int) (C := RX1) (T := TX1) (N := 6) hx hb hts hin0 tyX1 tyX1_ok nmX1 hown hK hP hD hS 0 rfl rfl 0 (by decide) (hts _ w_f19) (fun _ h9 => h9) rfl (by decide +kernel) rfl rfl (Nat.le_of_ble_eq_true rfl) dX1_setWeight_2 (fun H locs hP hD hS => ?_)
  have hP : va_P D vwCl (fb_wX1 cI h0 qn qf qw 0 ch nt fg wt mi) H := hP
  have hD : va_D A (fb_wX1 cI h0 qn qf qw 0 ch nt fg wt mi) := hD
  refine lv_iload_n hx hb dX1_setWeight_5 rfl (lv_at hl 1 rfl) ?_
  refine lv_iconst (v := 0) hx hb dX1_setWeight_6 (by decide) ?_
  refine lv_bipush (v := 7) hx hb dX1_setWeight_7 (by decide) ?_
  obtain ⟨r2, h1, h⟩ := fb_b1s h
  refine fb_callR (W.runS (As := [.int a1, .int 0, .int 7]) (rest := []) ⟨hx, hb, hml, hown, hts⟩ (metX1_isIn l B0 a1 0 7 r2 h1) (va_cwS 3 hts gX1_setWeight_X1_isIn rfl rfl rfl (by decide +kernel) ⟨Nat.le_of_ble_eq_true rfl, Nat.le_of_ble_eq_true rfl⟩) (fb_preS fb_sX1p hZ hS hAB _) rfl rfl hl.1 rfl (lv_room (Nat.le_of_ble_eq_true rfl)) dX1_setWeight_9 ⟨Nat.le_of_ble_eq_true rfl, Nat.le_of_ble_eq_true rfl⟩) ?_
  refine lv_if_ne (tgt := 21) hx hb dX1_setWeight_12 (by decide) (fun c3 => ?_) (fun c3 => ?_)
  · replace h := fb_ie c3 h
    refine lv_iload_n hx hb dX1_setWeight_21 rfl (lv_at hl 2 rfl) ?_
    refine lv_iconst (v := 0) hx hb dX1_setWeight_22 (by decide) ?_
    refine lv_bipush (v := 9) hx hb dX1_setWeight_23 (by decide) ?_
    obtain ⟨r5, h4, h⟩ := fb_b1s h
    refine fb_callR (W.runS (As := [.int a2, .int 0, .int 9]) (rest := []) ⟨hx, hb, hml, hown, hts⟩ (metX1_isIn l B0 a2 0 9 r5 h4) (va_cwS 3 hts gX1_setWeight_X1_isIn rfl rfl rfl (by decide +kernel) ⟨Nat.le_of_ble_eq_true rfl, Nat.le_of_ble_eq_true rfl⟩) (fb_preS fb_sX1p hZ hS hAB _) rfl rfl hl.1 rfl (lv_room (Nat.le_of_ble_eq_true rfl)) dX1_setWeight_25 ⟨Nat.le_of_ble_eq_true rfl, Nat.le_of_ble_eq_true rfl⟩) ?_
    refine lv_if_ne (tgt := 37) hx hb dX1_setWeight_28 (by decide) (fun c6 => ?_) (fun c6 => ?_)
    · replace h := fb_ie c6 h
      refine lv_aload_n hx hb dX1_setWeight_37 rfl (lv_at hl 0 rfl) ?_
      refine va_get (D := D) (ci := 1) (v := .ref qw) (C := RX1) (T := TX1) (N := 6) hx hb hts hin0 hown hK hP 0 rfl rfl 4 (by decide) (hts _ w_f16) (fun _ h9 => h9) rfl dX1_setWeight_38 ?_
      refine lv_iload_n hx hb dX1_setWeight_41 rfl (lv_at hl 1 rfl) ?_
      obtain ⟨hi7, h⟩ := fb_cks h
      refine va_iald hx hb hK hP 3 0 rfl rfl (fb_ixin hi7) dX1_setWeight_42 ?_
      refine lv_istore_n (lv' := [(3, .int (wt a1.toNatClampNeg)), (0, .ref h0), (1, .int a1), (2, .int a2)]) hx hb dX1_setWeight_43 rfl hl (by decide) rfl (fun ls hl => ?_)
      refine lv_aload_n hx hb dX1_setWeight_44 rfl (lv_at hl 1 rfl) ?_
      refine va_get (D := D) (ci := 1) (v := .ref qw) (C := RX1) (T := TX1) (N := 6) hx hb hts hin0 hown hK hP 0 rfl rfl 4 (by decide) (hts _ w_f16) (fun _ h9 => h9) rfl dX1_setWeight_45 ?_
      refine lv_iload_n hx hb dX1_setWeight_48 rfl (lv_at hl 2 rfl) ?_
      refine lv_iload_n hx hb dX1_setWeight_49 rfl (lv_at hl 3 rfl) ?_
      refine va_iast hx hb hK hP hD hS 3 0 rfl rfl (fb_ixin hi7) dX1_setWeight_50 (fun H locs hP hD hS => ?_)
      have hP : va_P D vwCl (fb_wX1 cI h0 qn qf qw 0 ch nt fg (upd wt a1.toNatClampNeg a2) mi) H := hP
      have hD : va_D A (fb_wX1 cI h0 qn qf qw 0 ch nt fg (upd wt a1.toNatClampNeg a2) mi) := hD
      refine lv_iload_n hx hb dX1_setWeight_51 rfl (lv_at hl 0 rfl) ?_
      obtain ⟨e1, e2, e3⟩ := fb_p3 h
      subst e1
      subst e2
      subst e3
      exact W.iret hx hb hr (fun t ht _ => ⟨⟨0, rfl, by rw [ht]; exact hP, hD⟩, hS.F ht⟩) hS.2.2 dX1_setWeight_52
    · replace h := fb_it c6 h
      refine lv_aload_n hx hb dX1_setWeight_31 rfl (lv_at hl 0 rfl) ?_
      refine lv_iconst (v := 2) hx hb dX1_setWeight_32 (by decide) ?_
      obtain ⟨r10, th_11, h9, h⟩ := fb_b2s h
      have hPc : va_P D vwCl (fb_wX1 cI h0 qn qf qw 0 ch nt fg wt mi) H := hP.sub [0, 1, 2, 3] rfl
      have hDc : va_D A (fb_wX1 cI h0 qn qf qw 0 ch nt fg wt mi) := hD.sub [0, 1, 2, 3] (by decide) rfl
      have hFc := va_free (wc := fb_wX1 cI h0 qn qf qw 0 ch nt fg wt mi) hD hS hA [0, 1, 2, 3] rfl
      refine fb_callM (va_runV (As := [.int 2]) (rest := []) ⟨hx, hb, hml, hown, hts⟩ (metX1_no l D cI h0 qn qf qw B0 0 ch nt fg wt mi 2 H.size r10 th_11 h9) (cwV 1 hts gX1_setWeight_X1_no rfl rfl rfl (by decide +kernel) ⟨Nat.le_of_ble_eq_true rfl, Nat.le_of_ble_eq_true rfl⟩) (fb_preVM (ci := 1) fb_sX1p hPc hK hDc hZ hS hAB hA rfl rfl _) rfl rfl hl.1 rfl (lv_room (Nat.le_of_ble_eq_true rfl)) dX1_setWeight_33 ⟨Nat.le_of_ble_eq_true rfl, Nat.le_of_ble_eq_true rfl⟩) hS (fun q _ h9 => hFc q h9) hFc (fun _ H1 locs hP1 hD1 hz1 hk1 hS => ?_)
      have hP : va_P D vwCl (fb_wX1 cI h0 qn qf qw th_11 ch nt fg wt mi) H1 := hP1
      have hD : va_D A (fb_wX1 cI h0 qn qf qw th_11 ch nt fg wt mi) := hD1.weaken (fun _ q _ h9 => hFc q.1 h9)
      generalize H1 = H at hP hS
      obtain ⟨e1, e2, e3⟩ := fb_p3 h
      subst e1
      subst e2
      subst e3
      exact W.iret hx hb hr (fun t ht _ => ⟨⟨0, rfl, by rw [ht]; exact hP, hD⟩, hS.F ht⟩) hS.2.2 dX1_setWeight_36
  · replace h := fb_it c3 h
    refine lv_aload_n hx hb dX1_setWeight_15 rfl (lv_at hl 0 rfl) ?_
    refine lv_iconst (v := 1) hx hb dX1_setWeight_16 (by decide) ?_
    obtain ⟨r14, th_15, h13, h⟩ := fb_b2s h
    have hPc : va_P D vwCl (fb_wX1 cI h0 qn qf qw 0 ch nt fg wt mi) H := hP.sub [0, 1, 2, 3] rfl
    have hDc : va_D A (fb_wX1 cI h0 qn qf qw 0 ch nt fg wt mi) := hD.sub [0, 1, 2, 3] (by decide) rfl
    have hFc := va_free (wc := fb_wX1 cI h0 qn qf qw 0 ch nt fg wt mi) hD hS hA [0, 1, 2, 3] rfl
    refine fb_callM (va_runV (As := [.int 1]) (rest := []) ⟨hx, hb, hml, hown, hts⟩ (metX1_no l D cI h0 qn qf qw B0 0 ch nt fg wt mi 1 H.size r14 th_15 h13) (cwV 1 hts gX1_setWeight_X1_no rfl rfl rfl (by decide +kernel) ⟨Nat.le_of_ble_eq_true rfl, Nat.le_of_ble_eq_true rfl⟩) (fb_preVM (ci := 1) fb_sX1p hPc hK hDc hZ hS hAB hA rfl rfl _) rfl rfl hl.1 rfl (lv_room (Nat.le_of_ble_eq_true rfl)) dX1_setWeight_17 ⟨Nat.le_of_ble_eq_true rfl, Nat.le_of_ble_eq_true rfl⟩) hS (fun q _ h9 => hFc q h9) hFc (fun _ H1 locs hP1 hD1 hz1 hk1 hS => ?_)
    have hP : va_P D vwCl (fb_wX1 cI h0 qn qf qw th_15 ch nt fg wt mi) H1 := hP1
    have hD : va_D A (fb_wX1 cI h0 qn qf qw th_15 ch nt fg wt mi) := hD1.weaken (fun _ q _ h9 => hFc q.1 h9)
    generalize H1 = H at hP hS
    obtain ⟨e1, e2, e3⟩ := fb_p3 h
    subst e1
    subst e2
    subst e3
    exact W.iret hx hb hr (fun t ht _ => ⟨⟨0, rfl, by rw [ht]; exact hP, hD⟩, hS.F ht⟩) hS.2.2 dX1_setWeight_20
abbrev rmX1_lead : Room := { frames := 7, cells := 2, slots := 6, locals := 167 }
set_option maxHeartbeats 8000000 in
set_option maxRecDepth 100000 in
theorem metX1_lead (l : Launch) (D : va_G) (cI : ClassId) (h0 qn qf qw B0 : Nat) (th : Int32) (ch : Int32) (nt : Nat → Int32) (fg : Nat → Int32) (wt : Nat → Int32) (mi : Int32) (a1 : Int32) (hz : Nat) (ro : Int32) (tho : Int32) (nto : Nat → Int32) (h : fX1_lead th ch nt fg wt mi a1 = some (ro, tho, nto)) : Met l yX1_lead wsX1_lead rmX1_lead (va_Pc [.ref h0, .int a1] (fb_pm D [(cI, .int)] B0 fb_sX1 (fb_wX1 cI h0 qn qf qw th ch nt fg wt mi) hz)) (fb_qM (fun q => some (.int ro)) (fun q => fb_wX1 cI h0 qn qf qw tho ch nto fg wt mi) D (va_A (fb_wX1 cI h0 qn qf qw th ch nt fg wt mi) hz)) 2 6 (va_A (fb_wX1 cI h0 qn qf qw th ch nt fg wt mi) hz) := by
  refine Met.ofW (cc := cX1_lead) (maxL := 2) (ret := (some .int)) (by decide) rfl ?_
  intro p e s m args below meth c s₁ B hml hv
  obtain ⟨rfl, hsz, ⟨hP, hK, hZ⟩, hD0, hAB⟩ := hv
  have hx := B.exec
  have hb := B.bytes
  have hr := B.returns
  have hts := atoms_spec (ws := wsX1_lead) B.pre
  have hown : s.vm.findClass RX1 = some m.cls := findClass_of_methodNamed B.named
  have hlocks := B.notSynchronized
  subst hsz
  have hD := hD0.self (sz := s.heap.size)
  generalize hAe : va_A (fb_wX1 cI h0 qn qf qw th ch nt fg wt mi) s.heap.size = A at hD hAB ⊢
  have hA : ∀ q : Nat, s.heap.size ≤ q → A q := fun q h9 => by rw [← hAe]; exact Or.inr h9
  have hS : va_S A s.heap s.heap [] := va_S.rf
  have hP : va_P D vwCl (fb_wX1 cI h0 qn qf qw th ch nt fg wt mi) s.heap := hP
  have hin0 : ∀ w ∈ u_ws RX1 TX1 6, w ∈ wsX1_lead := fun _ h9 => List.mem_cons_of_mem _ (List.mem_append_right _ (h9))
  have w_f19 : (Cond.fieldLink RX1 19 "FiguredBassModel" "thrown" "I") ∈ wsX1_lead := List.mem_of_getElem? (i := 1) rfl
  have hl := lv_entry ([.ref h0, .int a1]) (n := 2) (Nat.le_of_ble_eq_true rfl)
  rw [lg_entry_eq]
  generalize (lg_sl ([.ref h0, .int a1]) ++ List.replicate (2 - (lg_sl ([.ref h0, .int a1])).length) Slot.unset).toArray = ls at hl ⊢
  have hl : lv_has ls 2 [(0, .ref h0), (1, .int a1)] := hl
  suffices K : ∀ (H : Heap) (locs : List Loc), va_P D vwCl (fb_wX1 cI h0 qn qf qw th ch nt fg wt mi) H → va_S A s.heap H locs → W p l e (headSpec wsX1_lead rmX1_lead).room s m ([.ref h0, .int a1] : List Value).toArray below meth c H locs 0 0 (MQ below (fb_qM (fun q => some (.int ro)) (fun q => fb_wX1 cI h0 qn qf qw tho ch nto fg wt mi) D A) ([.ref h0, .int a1] : List Value).toArray s 2 6 A) (F0 m 0 ls []) from K s.heap [] hP hS
  intro H locs hP hS
  unfold fX1_lead at h
  refine lv_aload_n hx hb dX1_lead_0 rfl (lv_at hl 0 rfl) ?_
  refine lv_iconst (v := 0) hx hb dX1_lead_1 (by decide) ?_
  refine va_put (D := D) (ci := 1) (v := .int 0) (ty := .int) (C := RX1) (T := TX1) (N := 6) hx hb hts hin0 tyX1 tyX1_ok nmX1 hown hK hP hD hS 0 rfl rfl 0 (by decide) (hts _ w_f19) (fun _ h9 => h9) rfl (by decide +kernel) rfl rfl (Nat.le_of_ble_eq_true rfl) dX1_lead_2 (fun H locs hP hD hS => ?_)
  have hP : va_P D vwCl (fb_wX1 cI h0 qn qf qw 0 ch nt fg wt mi) H := hP
  have hD : va_D A (fb_wX1 cI h0 qn qf qw 0 ch nt fg wt mi) := hD
  refine lv_aload_n hx hb dX1_lead_5 rfl (lv_at hl 0 rfl) ?_
  refine lv_iload_n hx hb dX1_lead_6 rfl (lv_at hl 1 rfl) ?_
  obtain ⟨r2, h1, h⟩ := fb_b1s h
  refine fb_callR (W.runV (As := [.int a1]) (rest := []) ⟨hx, hb, hml, hown, hts⟩ (metX1_isChord l D cI h0 qn qf qw B0 0 ch nt fg wt mi a1 r2 h1) (cwV 1 hts gX1_lead_X1_isChord rfl rfl rfl (by decide +kernel) ⟨Nat.le_of_ble_eq_true rfl, Nat.le_of_ble_eq_true rfl⟩) (fb_preVR (ci := 1) fb_sX1p hP hK hZ hS hAB rfl rfl _) rfl rfl hl.1 rfl (lv_room (Nat.le_of_ble_eq_true rfl)) dX1_lead_7 ⟨Nat.le_of_ble_eq_true rfl, Nat.le_of_ble_eq_true rfl⟩) ?_
  refine lv_if_ne (tgt := 19) hx hb dX1_lead_10 (by decide) (fun c3 => ?_) (fun c3 => ?_)
  · replace h := fb_ie c3 h
    refine lv_aload_n hx hb dX1_lead_19 rfl (lv_at hl 0 rfl) ?_
    refine lv_iload_n hx hb dX1_lead_20 rfl (lv_at hl 1 rfl) ?_
    obtain ⟨r5, nt_6, h4, h⟩ := fb_b2s h
    have hPc : va_P D vwCl (fb_wX1 cI h0 qn qf qw 0 ch nt fg wt mi) H := hP.sub [0, 1, 2, 3] rfl
    have hDc : va_D A (fb_wX1 cI h0 qn qf qw 0 ch nt fg wt mi) := hD.sub [0, 1, 2, 3] (by decide) rfl
    have hFc := va_free (wc := fb_wX1 cI h0 qn qf qw 0 ch nt fg wt mi) hD hS hA [0, 1, 2, 3] rfl
    refine fb_callM (va_runV (As := [.int a1]) (rest := []) ⟨hx, hb, hml, hown, hts⟩ (metX1_isLed l D cI h0 qn qf qw B0 0 ch nt fg wt mi a1 H.size r5 nt_6 h4) (cwV 1 hts gX1_lead_X1_isLed rfl rfl rfl (by decide +kernel) ⟨Nat.le_of_ble_eq_true rfl, Nat.le_of_ble_eq_true rfl⟩) (fb_preVM (ci := 1) fb_sX1p hPc hK hDc hZ hS hAB hA rfl rfl _) rfl rfl hl.1 rfl (lv_room (Nat.le_of_ble_eq_true rfl)) dX1_lead_21 ⟨Nat.le_of_ble_eq_true rfl, Nat.le_of_ble_eq_true rfl⟩) hS (fun q _ h9 => hFc q h9) hFc (fun _ H1 locs hP1 hD1 hz1 hk1 hS => ?_)
    have hP : va_P D vwCl (fb_wX1 cI h0 qn qf qw 0 ch nt_6 fg wt mi) H1 := hP1
    have hD : va_D A (fb_wX1 cI h0 qn qf qw 0 ch nt_6 fg wt mi) := hD1.weaken (fun _ q _ h9 => hFc q.1 h9)
    generalize H1 = H at hP hS
    refine lv_if_eq (tgt := 35) hx hb dX1_lead_24 (by decide) (fun c7 => ?_) (fun c7 => ?_)
    · replace h := fb_it c7 h
      refine lv_aload_n hx hb dX1_lead_35 rfl (lv_at hl 0 rfl) ?_
      refine lv_iconst (v := 2) hx hb dX1_lead_36 (by decide) ?_
      obtain ⟨r9, th_10, h8, h⟩ := fb_b2s h
      have hPc : va_P D vwCl (fb_wX1 cI h0 qn qf qw 0 ch nt_6 fg wt mi) H := hP.sub [0, 1, 2, 3] rfl
      have hDc : va_D A (fb_wX1 cI h0 qn qf qw 0 ch nt_6 fg wt mi) := hD.sub [0, 1, 2, 3] (by decide) rfl
      have hFc := va_free (wc := fb_wX1 cI h0 qn qf qw 0 ch nt_6 fg wt mi) hD hS hA [0, 1, 2, 3] rfl
      refine fb_callM (va_runV (As := [.int 2]) (rest := []) ⟨hx, hb, hml, hown, hts⟩ (metX1_no l D cI h0 qn qf qw B0 0 ch nt_6 fg wt mi 2 H.size r9 th_10 h8) (cwV 1 hts gX1_lead_X1_no rfl rfl rfl (by decide +kernel) ⟨Nat.le_of_ble_eq_true rfl, Nat.le_of_ble_eq_true rfl⟩) (fb_preVM (ci := 1) fb_sX1p hPc hK hDc hZ hS hAB hA rfl rfl _) rfl rfl hl.1 rfl (lv_room (Nat.le_of_ble_eq_true rfl)) dX1_lead_37 ⟨Nat.le_of_ble_eq_true rfl, Nat.le_of_ble_eq_true rfl⟩) hS (fun q _ h9 => hFc q h9) hFc (fun _ H1 locs hP1 hD1 hz1 hk1 hS => ?_)
      have hP : va_P D vwCl (fb_wX1 cI h0 qn qf qw th_10 ch nt_6 fg wt mi) H1 := hP1
      have hD : va_D A (fb_wX1 cI h0 qn qf qw th_10 ch nt_6 fg wt mi) := hD1.weaken (fun _ q _ h9 => hFc q.1 h9)
      generalize H1 = H at hP hS
      obtain ⟨e1, e2, e3⟩ := fb_p3 h
      subst e1
      subst e2
      subst e3
      exact W.iret hx hb hr (fun t ht _ => ⟨⟨0, rfl, by rw [ht]; exact hP, hD⟩, hS.F ht⟩) hS.2.2 dX1_lead_40
    · replace h := fb_ie c7 h
      refine lv_aload_n hx hb dX1_lead_27 rfl (lv_at hl 0 rfl) ?_
      refine lv_iload_n hx hb dX1_lead_28 rfl (lv_at hl 1 rfl) ?_
      obtain ⟨r13, h12, h⟩ := fb_b1s h
      refine fb_callR (W.runV (As := [.int a1]) (rest := []) ⟨hx, hb, hml, hown, hts⟩ (metX1_cost l D cI h0 qn qf qw B0 0 ch nt_6 fg wt mi a1 r13 h12) (cwV 1 hts gX1_lead_X1_cost rfl rfl rfl (by decide +kernel) ⟨Nat.le_of_ble_eq_true rfl, Nat.le_of_ble_eq_true rfl⟩) (fb_preVR (ci := 1) fb_sX1p hP hK hZ hS hAB rfl rfl _) rfl rfl hl.1 rfl (lv_room (Nat.le_of_ble_eq_true rfl)) dX1_lead_29 ⟨Nat.le_of_ble_eq_true rfl, Nat.le_of_ble_eq_true rfl⟩) ?_
      refine lv_goto (tgt := 40) hx hb dX1_lead_32 (by decide) ?_
      obtain ⟨e1, e2, e3⟩ := fb_p3 h
      subst e1
      subst e2
      subst e3
      exact W.iret hx hb hr (fun t ht _ => ⟨⟨0, rfl, by rw [ht]; exact hP, hD⟩, hS.F ht⟩) hS.2.2 dX1_lead_40
  · replace h := fb_it c3 h
    refine lv_aload_n hx hb dX1_lead_13 rfl (lv_at hl 0 rfl) ?_
    refine lv_iconst (v := 1) hx hb dX1_lead_14 (by decide) ?_
    obtain ⟨r16, th_17, h15, h⟩ := fb_b2s h
    have hPc : va_P D vwCl (fb_wX1 cI h0 qn qf qw 0 ch nt fg wt mi) H := hP.sub [0, 1, 2, 3] rfl
    have hDc : va_D A (fb_wX1 cI h0 qn qf qw 0 ch nt fg wt mi) := hD.sub [0, 1, 2, 3] (by decide) rfl
    have hFc := va_free (wc := fb_wX1 cI h0 qn qf qw 0 ch nt fg wt mi) hD hS hA [0, 1, 2, 3] rfl
    refine fb_callM (va_runV (As := [.int 1]) (rest := []) ⟨hx, hb, hml, hown, hts⟩ (metX1_no l D cI h0 qn qf qw B0 0 ch nt fg wt mi 1 H.size r16 th_17 h15) (cwV 1 hts gX1_lead_X1_no rfl rfl rfl (by decide +kernel) ⟨Nat.le_of_ble_eq_true rfl, Nat.le_of_ble_eq_true rfl⟩) (fb_preVM (ci := 1) fb_sX1p hPc hK hDc hZ hS hAB hA rfl rfl _) rfl rfl hl.1 rfl (lv_room (Nat.le_of_ble_eq_true rfl)) dX1_lead_15 ⟨Nat.le_of_ble_eq_true rfl, Nat.le_of_ble_eq_true rfl⟩) hS (fun q _ h9 => hFc q h9) hFc (fun _ H1 locs hP1 hD1 hz1 hk1 hS => ?_)
    have hP : va_P D vwCl (fb_wX1 cI h0 qn qf qw th_17 ch nt fg wt mi) H1 := hP1
    have hD : va_D A (fb_wX1 cI h0 qn qf qw th_17 ch nt fg wt mi) := hD1.weaken (fun _ q _ h9 => hFc q.1 h9)
    generalize H1 = H at hP hS
    obtain ⟨e1, e2, e3⟩ := fb_p3 h
    subst e1
    subst e2
    subst e3
    refine W.widen (k := 2) (n := 6) (by first | decide | omega) (by first | decide | omega) ?_
    exact W.iret hx hb hr (fun t ht _ => ⟨⟨0, rfl, by rw [ht]; exact hP, hD⟩, hS.F ht⟩) hS.2.2 dX1_lead_18
abbrev rmX1_leadAll : Room := { frames := 7, cells := 28, slots := 84, locals := 167 }
set_option maxHeartbeats 8000000 in
set_option maxRecDepth 100000 in
theorem metX1_leadAll (l : Launch) (D : va_G) (cI : ClassId) (h0 qn qf qw B0 : Nat) (th : Int32) (ch : Int32) (nt : Nat → Int32) (fg : Nat → Int32) (wt : Nat → Int32) (mi : Int32) (hz : Nat) (ro : Int32) (tho : Int32) (nto : Nat → Int32) (h : fX1_leadAll th ch nt fg wt mi = some (ro, tho, nto)) : Met l yX1_leadAll wsX1_leadAll rmX1_leadAll (va_Pc [.ref h0] (fb_pm D [(cI, .int)] B0 fb_sX1 (fb_wX1 cI h0 qn qf qw th ch nt fg wt mi) hz)) (fb_qM (fun q => some (.int ro)) (fun q => fb_wX1 cI h0 qn qf qw tho ch nto fg wt mi) D (va_A (fb_wX1 cI h0 qn qf qw th ch nt fg wt mi) hz)) 28 84 (va_A (fb_wX1 cI h0 qn qf qw th ch nt fg wt mi) hz) := by
  refine Met.ofW (cc := cX1_leadAll) (maxL := 3) (ret := (some .int)) (by decide) rfl ?_
  intro p e s m args below meth c s₁ B hml hv
  obtain ⟨rfl, hsz, ⟨hP, hK, hZ⟩, hD0, hAB⟩ := hv
  have hx := B.exec
  have hb := B.bytes
  have hr := B.returns
  have hts := atoms_spec (ws := wsX1_leadAll) B.pre
  have hown : s.vm.findClass RX1 = some m.cls := findClass_of_methodNamed B.named
  have hlocks := B.notSynchronized
  subst hsz
  have hD := hD0.self (sz := s.heap.size)
  generalize hAe : va_A (fb_wX1 cI h0 qn qf qw th ch nt fg wt mi) s.heap.size = A at hD hAB ⊢
  have hA : ∀ q : Nat, s.heap.size ≤ q → A q := fun q h9 => by rw [← hAe]; exact Or.inr h9
  have hS : va_S A s.heap s.heap [] := va_S.rf
  have hP : va_P D vwCl (fb_wX1 cI h0 qn qf qw th ch nt fg wt mi) s.heap := hP
  have hin0 : ∀ w ∈ u_ws RX1 TX1 6, w ∈ wsX1_leadAll := fun _ h9 => List.mem_cons_of_mem _ (List.mem_append_right _ (h9))
  have w_f19 : (Cond.fieldLink RX1 19 "FiguredBassModel" "thrown" "I") ∈ wsX1_leadAll := List.mem_of_getElem? (i := 1) rfl
  have w_f23 : (Cond.fieldLink RX1 23 "FiguredBassModel" "chords" "I") ∈ wsX1_leadAll := List.mem_of_getElem? (i := 2) rfl
  have hl := lv_entry ([.ref h0]) (n := 3) (Nat.le_of_ble_eq_true rfl)
  rw [lg_entry_eq]
  generalize (lg_sl ([.ref h0]) ++ List.replicate (3 - (lg_sl ([.ref h0])).length) Slot.unset).toArray = ls at hl ⊢
  have hl : lv_has ls 3 [(0, .ref h0)] := hl
  suffices K : ∀ (H : Heap) (locs : List Loc), va_P D vwCl (fb_wX1 cI h0 qn qf qw th ch nt fg wt mi) H → va_S A s.heap H locs → W p l e (headSpec wsX1_leadAll rmX1_leadAll).room s m ([.ref h0] : List Value).toArray below meth c H locs 0 0 (MQ below (fb_qM (fun q => some (.int ro)) (fun q => fb_wX1 cI h0 qn qf qw tho ch nto fg wt mi) D A) ([.ref h0] : List Value).toArray s 28 84 A) (F0 m 0 ls []) from K s.heap [] hP hS
  intro H locs hP hS
  unfold fX1_leadAll at h
  refine lv_aload_n hx hb dX1_leadAll_0 rfl (lv_at hl 0 rfl) ?_
  refine lv_iconst (v := 0) hx hb dX1_leadAll_1 (by decide) ?_
  refine va_put (D := D) (ci := 1) (v := .int 0) (ty := .int) (C := RX1) (T := TX1) (N := 6) hx hb hts hin0 tyX1 tyX1_ok nmX1 hown hK hP hD hS 0 rfl rfl 0 (by decide) (hts _ w_f19) (fun _ h9 => h9) rfl (by decide +kernel) rfl rfl (Nat.le_of_ble_eq_true rfl) dX1_leadAll_2 (fun H locs hP hD hS => ?_)
  have hP : va_P D vwCl (fb_wX1 cI h0 qn qf qw 0 ch nt fg wt mi) H := hP
  have hD : va_D A (fb_wX1 cI h0 qn qf qw 0 ch nt fg wt mi) := hD
  refine lv_iconst (v := 0) hx hb dX1_leadAll_5 (by decide) ?_
  refine lv_istore_n (lv' := [(1, .int 0), (0, .ref h0)]) hx hb dX1_leadAll_6 rfl hl (by decide) rfl (fun ls hl => ?_)
  refine lv_iconst (v := 0) hx hb dX1_leadAll_7 (by decide) ?_
  refine lv_istore_n (lv' := [(2, .int 0), (1, .int 0), (0, .ref h0)]) hx hb dX1_leadAll_8 rfl hl (by decide) rfl (fun ls hl => ?_)
  have LX1_leadAll_9 : ∀ (n : Nat) (v1 : Int32) (v2 : Int32) (nt_3 : Nat → Int32) (o10 : Int32) (o11 : Int32) (o12 : Nat → Int32), lpX1_leadAll_9 ch fg wt mi n v1 v2 nt_3 = some (o10, o11, o12) → ∀ (ce sl : Nat), ce + n * 2 ≤ 28 → sl + n * 6 ≤ 84 → ∀ (H : Heap) (locs : List Loc), va_P D vwCl (fb_wX1 cI h0 qn qf qw 0 ch nt_3 fg wt mi) H → va_D A (fb_wX1 cI h0 qn qf qw 0 ch nt_3 fg wt mi) → va_S A s.heap H locs → ∀ (ls : Array Slot), lv_has ls 3 [(2, .int v1), (1, .int v2), (0, .ref h0)] → (∀ (H : Heap) (locs : List Loc), va_P D vwCl (fb_wX1 cI h0 qn qf qw 0 ch o12 fg wt mi) H → va_D A (fb_wX1 cI h0 qn qf qw 0 ch o12 fg wt mi) → va_S A s.heap H locs → ∀ (ls : Array Slot), lv_has ls 3 [(2, .int o10), (1, .int o11), (0, .ref h0)] → W p l e (headSpec wsX1_leadAll rmX1_leadAll).room s m ([.ref h0] : List Value).toArray below meth c H locs 28 84 (MQ below (fb_qM (fun q => some (.int ro)) (fun q => fb_wX1 cI h0 qn qf qw tho ch nto fg wt mi) D A) ([.ref h0] : List Value).toArray s 28 84 A) (F0 m 39 ls [])) → W p l e (headSpec wsX1_leadAll rmX1_leadAll).room s m ([.ref h0] : List Value).toArray below meth c H locs ce sl (MQ below (fb_qM (fun q => some (.int ro)) (fun q => fb_wX1 cI h0 qn qf qw tho ch nto fg wt mi) D A) ([.ref h0] : List Value).toArray s 28 84 A) (F0 m 9 ls []) := by
    intro n
    induction n with
    | zero =>
      intro v1 v2 nt_3 o10 o11 o12 h
      rw [lpX1_leadAll_9.eq_1] at h
      cases h
    | succ n ih =>
      intro v1 v2 nt_3 o10 o11 o12 h ce sl hce hsl H locs hP hD hS ls hl kx
      rw [lpX1_leadAll_9.eq_2] at h
      refine lv_iload_n hx hb dX1_leadAll_9 rfl (lv_at hl 0 rfl) ?_
      refine lv_aload_n hx hb dX1_leadAll_10 rfl (lv_at hl 2 rfl) ?_
      refine va_get (D := D) (ci := 1) (v := .int ch) (C := RX1) (T := TX1) (N := 6) hx hb hts hin0 hown hK hP 0 rfl rfl 1 (by decide) (hts _ w_f23) (fun _ h9 => h9) rfl dX1_leadAll_11 ?_
      refine lv_icmp_ge (tgt := 39) hx hb dX1_leadAll_14 (by decide) (fun c4 => ?_) (fun c4 => ?_)
      · replace h := fb_it c4 h
        obtain ⟨e1, e2, e3⟩ := fb_p3 h
        subst e1
        subst e2
        subst e3
        refine W.widen (k := 28) (n := 84) (by omega) (by omega) ?_
        exact kx H locs hP hD hS ls (lv_sub hl [0, 1, 2] rfl)
      · replace h := fb_ie c4 h
        refine lv_iload_n hx hb dX1_leadAll_17 rfl (lv_at hl 1 rfl) ?_
        refine lv_aload_n hx hb dX1_leadAll_18 rfl (lv_at hl 2 rfl) ?_
        refine lv_iload_n hx hb dX1_leadAll_19 rfl (lv_at hl 0 rfl) ?_
        obtain ⟨r6, nt_7, h5, h⟩ := fb_b2s h
        have hPc : va_P D vwCl (fb_wX1 cI h0 qn qf qw 0 ch nt_3 fg wt mi) H := hP.sub [0, 1, 2, 3] rfl
        have hDc : va_D A (fb_wX1 cI h0 qn qf qw 0 ch nt_3 fg wt mi) := hD.sub [0, 1, 2, 3] (by decide) rfl
        have hFc := va_free (wc := fb_wX1 cI h0 qn qf qw 0 ch nt_3 fg wt mi) hD hS hA [0, 1, 2, 3] rfl
        refine fb_callM (va_runV (As := [.int v1]) (rest := [.int v2]) ⟨hx, hb, hml, hown, hts⟩ (metX1_isLed l D cI h0 qn qf qw B0 0 ch nt_3 fg wt mi v1 H.size r6 nt_7 h5) (cwV 1 hts gX1_leadAll_X1_isLed rfl rfl rfl (by decide +kernel) ⟨Nat.le_of_ble_eq_true rfl, Nat.le_of_ble_eq_true rfl⟩) (fb_preVM (ci := 1) fb_sX1p hPc hK hDc hZ hS hAB hA rfl rfl _) rfl rfl hl.1 rfl (lv_room (Nat.le_of_ble_eq_true rfl)) dX1_leadAll_20 ⟨(show ce + 0 + 2 ≤ 28 by omega), (show sl + 0 + 6 ≤ 84 by omega)⟩) hS (fun q _ h9 => hFc q h9) hFc (fun _ H1 locs hP1 hD1 hz1 hk1 hS => ?_)
        have hP : va_P D vwCl (fb_wX1 cI h0 qn qf qw 0 ch nt_7 fg wt mi) H1 := hP1
        have hD : va_D A (fb_wX1 cI h0 qn qf qw 0 ch nt_7 fg wt mi) := hD1.weaken (fun _ q _ h9 => hFc q.1 h9)
        generalize H1 = H at hP hS
        obtain ⟨j9, hjJ1, h⟩ := fb_b1s h
        have J1 : ∀ (H : Heap) (locs : List Loc), va_P D vwCl (fb_wX1 cI h0 qn qf qw 0 ch nt_7 fg wt mi) H → va_D A (fb_wX1 cI h0 qn qf qw 0 ch nt_7 fg wt mi) → va_S A s.heap H locs → ∀ (ls : Array Slot), lv_has ls 3 [(2, .int v1), (0, .ref h0)] → W p l e (headSpec wsX1_leadAll rmX1_leadAll).room s m ([.ref h0] : List Value).toArray below meth c H locs (ce + 2) (sl + 6) (MQ below (fb_qM (fun q => some (.int ro)) (fun q => fb_wX1 cI h0 qn qf qw tho ch nto fg wt mi) D A) ([.ref h0] : List Value).toArray s 28 84 A) (F0 m 31 ls [.int j9, .int v2]) := by
          intro H locs hP hD hS ls hl
          refine lv_iadd hx hb dX1_leadAll_31 ?_
          refine lv_istore_n (lv' := [(1, .int (v2 + j9)), (2, .int v1), (0, .ref h0)]) hx hb dX1_leadAll_32 rfl hl (by decide) rfl (fun ls hl => ?_)
          refine lv_iinc (v := v1 + 1) (lv' := [(2, .int (v1 + 1)), (1, .int (v2 + j9)), (0, .ref h0)]) hx hb dX1_leadAll_33 hl (k := 1) rfl rfl (by decide) rfl (fun ls hl => ?_)
          refine lv_goto (tgt := 9) hx hb dX1_leadAll_36 (by decide) ?_
          refine W.widen (k := ce + 2) (n := sl + 6) (by omega) (by omega) ?_
          exact ih _ _ _ o10 o11 o12 h _ _ (by omega) (by omega) H locs hP hD hS ls (lv_sub hl [0, 1, 2] rfl) kx
        replace h := hjJ1
        refine lv_if_eq (tgt := 30) hx hb dX1_leadAll_23 (by decide) (fun c8 => ?_) (fun c8 => ?_)
        · replace h := fb_it c8 h
          refine lv_iconst (v := 0) hx hb dX1_leadAll_30 (by decide) ?_
          have h := Option.some.inj h
          subst h
          exact J1 H locs hP hD hS ls (lv_sub hl [0, 2] rfl)
        · replace h := fb_ie c8 h
          refine lv_iconst (v := 1) hx hb dX1_leadAll_26 (by decide) ?_
          refine lv_goto (tgt := 31) hx hb dX1_leadAll_27 (by decide) ?_
          have h := Option.some.inj h
          subst h
          exact J1 H locs hP hD hS ls (lv_sub hl [0, 2] rfl)
  obtain ⟨o10, o11, o12, h14, h⟩ := fb_b3s h
  refine LX1_leadAll_9 _ _ _ _ o10 o11 o12 h14 _ _ (by decide) (by decide) H locs hP hD hS ls (lv_sub hl [0, 1, 2] rfl) (fun H locs hP hD hS ls hl => ?_)
  refine lv_iload_n hx hb dX1_leadAll_39 rfl (lv_at hl 1 rfl) ?_
  obtain ⟨e1, e2, e3⟩ := fb_p3 h
  subst e1
  subst e2
  subst e3
  exact W.iret hx hb hr (fun t ht _ => ⟨⟨0, rfl, by rw [ht]; exact hP, hD⟩, hS.F ht⟩) hS.2.2 dX1_leadAll_40
abbrev rmX1_note : Room := { frames := 2, cells := 0, slots := 0, locals := 43 }
set_option maxHeartbeats 8000000 in
set_option maxRecDepth 100000 in
theorem metX1_note (l : Launch) (D : va_G) (cI : ClassId) (h0 qn qf qw B0 : Nat) (th : Int32) (ch : Int32) (nt : Nat → Int32) (fg : Nat → Int32) (wt : Nat → Int32) (mi : Int32) (a1 : Int32) (a2 : Int32) (hz : Nat) (ro : Int32) (tho : Int32) (h : fX1_note th ch nt fg wt mi a1 a2 = some (ro, tho)) : Met l yX1_note wsX1_note rmX1_note (va_Pc [.ref h0, .int a1, .int a2] (fb_pm D [(cI, .int)] B0 fb_sX1 (fb_wX1 cI h0 qn qf qw th ch nt fg wt mi) hz)) (fb_qM (fun q => some (.int ro)) (fun q => fb_wX1 cI h0 qn qf qw tho ch nt fg wt mi) D (va_A (fb_wX1 cI h0 qn qf qw th ch nt fg wt mi) hz)) 0 0 (va_A (fb_wX1 cI h0 qn qf qw th ch nt fg wt mi) hz) := by
  refine Met.ofW (cc := cX1_note) (maxL := 3) (ret := (some .int)) (by decide) rfl ?_
  intro p e s m args below meth c s₁ B hml hv
  obtain ⟨rfl, hsz, ⟨hP, hK, hZ⟩, hD0, hAB⟩ := hv
  have hx := B.exec
  have hb := B.bytes
  have hr := B.returns
  have hts := atoms_spec (ws := wsX1_note) B.pre
  have hown : s.vm.findClass RX1 = some m.cls := findClass_of_methodNamed B.named
  have hlocks := B.notSynchronized
  subst hsz
  have hD := hD0.self (sz := s.heap.size)
  generalize hAe : va_A (fb_wX1 cI h0 qn qf qw th ch nt fg wt mi) s.heap.size = A at hD hAB ⊢
  have hA : ∀ q : Nat, s.heap.size ≤ q → A q := fun q h9 => by rw [← hAe]; exact Or.inr h9
  have hS : va_S A s.heap s.heap [] := va_S.rf
  have hP : va_P D vwCl (fb_wX1 cI h0 qn qf qw th ch nt fg wt mi) s.heap := hP
  have hin0 : ∀ w ∈ u_ws RX1 TX1 6, w ∈ wsX1_note := fun _ h9 => List.mem_cons_of_mem _ (List.mem_append_right _ (h9))
  have w_f19 : (Cond.fieldLink RX1 19 "FiguredBassModel" "thrown" "I") ∈ wsX1_note := List.mem_of_getElem? (i := 1) rfl
  have hl := lv_entry ([.ref h0, .int a1, .int a2]) (n := 3) (Nat.le_of_ble_eq_true rfl)
  rw [lg_entry_eq]
  generalize (lg_sl ([.ref h0, .int a1, .int a2]) ++ List.replicate (3 - (lg_sl ([.ref h0, .int a1, .int a2])).length) Slot.unset).toArray = ls at hl ⊢
  have hl : lv_has ls 3 [(0, .ref h0), (1, .int a1), (2, .int a2)] := hl
  suffices K : ∀ (H : Heap) (locs : List Loc), va_P D vwCl (fb_wX1 cI h0 qn qf qw th ch nt fg wt mi) H → va_S A s.heap H locs → W p l e (headSpec wsX1_note rmX1_note).room s m ([.ref h0, .int a1, .int a2] : List Value).toArray below meth c H locs 0 0 (MQ below (fb_qM (fun q => some (.int ro)) (fun q => fb_wX1 cI h0 qn qf qw tho ch nt fg wt mi) D A) ([.ref h0, .int a1, .int a2] : List Value).toArray s 0 0 A) (F0 m 0 ls []) from K s.heap [] hP hS
  intro H locs hP hS
  unfold fX1_note at h
  refine lv_aload_n hx hb dX1_note_0 rfl (lv_at hl 0 rfl) ?_
  refine lv_iconst (v := 0) hx hb dX1_note_1 (by decide) ?_
  refine va_put (D := D) (ci := 1) (v := .int 0) (ty := .int) (C := RX1) (T := TX1) (N := 6) hx hb hts hin0 tyX1 tyX1_ok nmX1 hown hK hP hD hS 0 rfl rfl 0 (by decide) (hts _ w_f19) (fun _ h9 => h9) rfl (by decide +kernel) rfl rfl (Nat.le_of_ble_eq_true rfl) dX1_note_2 (fun H locs hP hD hS => ?_)
  have hP : va_P D vwCl (fb_wX1 cI h0 qn qf qw 0 ch nt fg wt mi) H := hP
  have hD : va_D A (fb_wX1 cI h0 qn qf qw 0 ch nt fg wt mi) := hD
  refine lv_aload_n hx hb dX1_note_5 rfl (lv_at hl 0 rfl) ?_
  refine lv_iload_n hx hb dX1_note_6 rfl (lv_at hl 1 rfl) ?_
  obtain ⟨r2, h1, h⟩ := fb_b1s h
  refine fb_callR (W.runV (As := [.int a1]) (rest := []) ⟨hx, hb, hml, hown, hts⟩ (metX1_isChord l D cI h0 qn qf qw B0 0 ch nt fg wt mi a1 r2 h1) (cwV 1 hts gX1_note_X1_isChord rfl rfl rfl (by decide +kernel) ⟨Nat.le_of_ble_eq_true rfl, Nat.le_of_ble_eq_true rfl⟩) (fb_preVR (ci := 1) fb_sX1p hP hK hZ hS hAB rfl rfl _) rfl rfl hl.1 rfl (lv_room (Nat.le_of_ble_eq_true rfl)) dX1_note_7 ⟨Nat.le_of_ble_eq_true rfl, Nat.le_of_ble_eq_true rfl⟩) ?_
  refine lv_if_eq (tgt := 31) hx hb dX1_note_10 (by decide) (fun c3 => ?_) (fun c3 => ?_)
  · replace h := fb_it c3 h
    refine lv_aload_n hx hb dX1_note_31 rfl (lv_at hl 0 rfl) ?_
    refine lv_iconst (v := 1) hx hb dX1_note_32 (by decide) ?_
    obtain ⟨r5, th_6, h4, h⟩ := fb_b2s h
    have hPc : va_P D vwCl (fb_wX1 cI h0 qn qf qw 0 ch nt fg wt mi) H := hP.sub [0, 1, 2, 3] rfl
    have hDc : va_D A (fb_wX1 cI h0 qn qf qw 0 ch nt fg wt mi) := hD.sub [0, 1, 2, 3] (by decide) rfl
    have hFc := va_free (wc := fb_wX1 cI h0 qn qf qw 0 ch nt fg wt mi) hD hS hA [0, 1, 2, 3] rfl
    refine fb_callM (va_runV (As := [.int 1]) (rest := []) ⟨hx, hb, hml, hown, hts⟩ (metX1_no l D cI h0 qn qf qw B0 0 ch nt fg wt mi 1 H.size r5 th_6 h4) (cwV 1 hts gX1_note_X1_no rfl rfl rfl (by decide +kernel) ⟨Nat.le_of_ble_eq_true rfl, Nat.le_of_ble_eq_true rfl⟩) (fb_preVM (ci := 1) fb_sX1p hPc hK hDc hZ hS hAB hA rfl rfl _) rfl rfl hl.1 rfl (lv_room (Nat.le_of_ble_eq_true rfl)) dX1_note_33 ⟨Nat.le_of_ble_eq_true rfl, Nat.le_of_ble_eq_true rfl⟩) hS (fun q _ h9 => hFc q h9) hFc (fun _ H1 locs hP1 hD1 hz1 hk1 hS => ?_)
    have hP : va_P D vwCl (fb_wX1 cI h0 qn qf qw th_6 ch nt fg wt mi) H1 := hP1
    have hD : va_D A (fb_wX1 cI h0 qn qf qw th_6 ch nt fg wt mi) := hD1.weaken (fun _ q _ h9 => hFc q.1 h9)
    generalize H1 = H at hP hS
    obtain ⟨e1, e2⟩ := fb_p2 h
    subst e1
    subst e2
    exact W.iret hx hb hr (fun t ht _ => ⟨⟨0, rfl, by rw [ht]; exact hP, hD⟩, hS.F ht⟩) hS.2.2 dX1_note_36
  · replace h := fb_ie c3 h
    refine lv_iload_n hx hb dX1_note_13 rfl (lv_at hl 2 rfl) ?_
    refine lv_iconst (v := 0) hx hb dX1_note_14 (by decide) ?_
    refine lv_iconst (v := 3) hx hb dX1_note_15 (by decide) ?_
    obtain ⟨r9, h8, h⟩ := fb_b1s h
    refine fb_callR (W.runS (As := [.int a2, .int 0, .int 3]) (rest := []) ⟨hx, hb, hml, hown, hts⟩ (metX1_isIn l B0 a2 0 3 r9 h8) (va_cwS 3 hts gX1_note_X1_isIn rfl rfl rfl (by decide +kernel) ⟨Nat.le_of_ble_eq_true rfl, Nat.le_of_ble_eq_true rfl⟩) (fb_preS fb_sX1p hZ hS hAB _) rfl rfl hl.1 rfl (lv_room (Nat.le_of_ble_eq_true rfl)) dX1_note_16 ⟨Nat.le_of_ble_eq_true rfl, Nat.le_of_ble_eq_true rfl⟩) ?_
    refine lv_if_eq (tgt := 31) hx hb dX1_note_19 (by decide) (fun c10 => ?_) (fun c10 => ?_)
    · replace h := fb_it c10 h
      refine lv_aload_n hx hb dX1_note_31 rfl (lv_at hl 0 rfl) ?_
      refine lv_iconst (v := 1) hx hb dX1_note_32 (by decide) ?_
      obtain ⟨r12, th_13, h11, h⟩ := fb_b2s h
      have hPc : va_P D vwCl (fb_wX1 cI h0 qn qf qw 0 ch nt fg wt mi) H := hP.sub [0, 1, 2, 3] rfl
      have hDc : va_D A (fb_wX1 cI h0 qn qf qw 0 ch nt fg wt mi) := hD.sub [0, 1, 2, 3] (by decide) rfl
      have hFc := va_free (wc := fb_wX1 cI h0 qn qf qw 0 ch nt fg wt mi) hD hS hA [0, 1, 2, 3] rfl
      refine fb_callM (va_runV (As := [.int 1]) (rest := []) ⟨hx, hb, hml, hown, hts⟩ (metX1_no l D cI h0 qn qf qw B0 0 ch nt fg wt mi 1 H.size r12 th_13 h11) (cwV 1 hts gX1_note_X1_no rfl rfl rfl (by decide +kernel) ⟨Nat.le_of_ble_eq_true rfl, Nat.le_of_ble_eq_true rfl⟩) (fb_preVM (ci := 1) fb_sX1p hPc hK hDc hZ hS hAB hA rfl rfl _) rfl rfl hl.1 rfl (lv_room (Nat.le_of_ble_eq_true rfl)) dX1_note_33 ⟨Nat.le_of_ble_eq_true rfl, Nat.le_of_ble_eq_true rfl⟩) hS (fun q _ h9 => hFc q h9) hFc (fun _ H1 locs hP1 hD1 hz1 hk1 hS => ?_)
      have hP : va_P D vwCl (fb_wX1 cI h0 qn qf qw th_13 ch nt fg wt mi) H1 := hP1
      have hD : va_D A (fb_wX1 cI h0 qn qf qw th_13 ch nt fg wt mi) := hD1.weaken (fun _ q _ h9 => hFc q.1 h9)
      generalize H1 = H at hP hS
      obtain ⟨e1, e2⟩ := fb_p2 h
      subst e1
      subst e2
      exact W.iret hx hb hr (fun t ht _ => ⟨⟨0, rfl, by rw [ht]; exact hP, hD⟩, hS.F ht⟩) hS.2.2 dX1_note_36
    · replace h := fb_ie c10 h
      refine lv_aload_n hx hb dX1_note_22 rfl (lv_at hl 0 rfl) ?_
      refine lv_iload_n hx hb dX1_note_23 rfl (lv_at hl 1 rfl) ?_
      refine lv_iload_n hx hb dX1_note_24 rfl (lv_at hl 2 rfl) ?_
      obtain ⟨r16, h15, h⟩ := fb_b1s h
      refine fb_callR (W.runV (As := [.int a1, .int a2]) (rest := []) ⟨hx, hb, hml, hown, hts⟩ (metX1_at l D cI h0 qn qf qw B0 0 ch nt fg wt mi a1 a2 r16 h15) (cwV 2 hts gX1_note_X1_at rfl rfl rfl (by decide +kernel) ⟨Nat.le_of_ble_eq_true rfl, Nat.le_of_ble_eq_true rfl⟩) (fb_preVR (ci := 1) fb_sX1p hP hK hZ hS hAB rfl rfl _) rfl rfl hl.1 rfl (lv_room (Nat.le_of_ble_eq_true rfl)) dX1_note_25 ⟨Nat.le_of_ble_eq_true rfl, Nat.le_of_ble_eq_true rfl⟩) ?_
      refine lv_goto (tgt := 36) hx hb dX1_note_28 (by decide) ?_
      obtain ⟨e1, e2⟩ := fb_p2 h
      subst e1
      subst e2
      exact W.iret hx hb hr (fun t ht _ => ⟨⟨0, rfl, by rw [ht]; exact hP, hD⟩, hS.F ht⟩) hS.2.2 dX1_note_36
abbrev rmX1_told : Room := { frames := 6, cells := 0, slots := 0, locals := 140 }
set_option maxHeartbeats 8000000 in
set_option maxRecDepth 100000 in
theorem metX1_told (l : Launch) (D : va_G) (cI : ClassId) (h0 qn qf qw B0 : Nat) (th : Int32) (ch : Int32) (nt : Nat → Int32) (fg : Nat → Int32) (wt : Nat → Int32) (mi : Int32) (a1 : Int32) (a2 : Int32) (hz : Nat) (ro : Int32) (tho : Int32) (h : fX1_told th ch nt fg wt mi a1 a2 = some (ro, tho)) : Met l yX1_told wsX1_told rmX1_told (va_Pc [.ref h0, .int a1, .int a2] (fb_pm D [(cI, .int)] B0 fb_sX1 (fb_wX1 cI h0 qn qf qw th ch nt fg wt mi) hz)) (fb_qM (fun q => some (.int ro)) (fun q => fb_wX1 cI h0 qn qf qw tho ch nt fg wt mi) D (va_A (fb_wX1 cI h0 qn qf qw th ch nt fg wt mi) hz)) 0 0 (va_A (fb_wX1 cI h0 qn qf qw th ch nt fg wt mi) hz) := by
  refine Met.ofW (cc := cX1_told) (maxL := 3) (ret := (some .int)) (by decide) rfl ?_
  intro p e s m args below meth c s₁ B hml hv
  obtain ⟨rfl, hsz, ⟨hP, hK, hZ⟩, hD0, hAB⟩ := hv
  have hx := B.exec
  have hb := B.bytes
  have hr := B.returns
  have hts := atoms_spec (ws := wsX1_told) B.pre
  have hown : s.vm.findClass RX1 = some m.cls := findClass_of_methodNamed B.named
  have hlocks := B.notSynchronized
  subst hsz
  have hD := hD0.self (sz := s.heap.size)
  generalize hAe : va_A (fb_wX1 cI h0 qn qf qw th ch nt fg wt mi) s.heap.size = A at hD hAB ⊢
  have hA : ∀ q : Nat, s.heap.size ≤ q → A q := fun q h9 => by rw [← hAe]; exact Or.inr h9
  have hS : va_S A s.heap s.heap [] := va_S.rf
  have hP : va_P D vwCl (fb_wX1 cI h0 qn qf qw th ch nt fg wt mi) s.heap := hP
  have hin0 : ∀ w ∈ u_ws RX1 TX1 6, w ∈ wsX1_told := fun _ h9 => List.mem_cons_of_mem _ (List.mem_append_right _ (h9))
  have w_f19 : (Cond.fieldLink RX1 19 "FiguredBassModel" "thrown" "I") ∈ wsX1_told := List.mem_of_getElem? (i := 1) rfl
  have hl := lv_entry ([.ref h0, .int a1, .int a2]) (n := 3) (Nat.le_of_ble_eq_true rfl)
  rw [lg_entry_eq]
  generalize (lg_sl ([.ref h0, .int a1, .int a2]) ++ List.replicate (3 - (lg_sl ([.ref h0, .int a1, .int a2])).length) Slot.unset).toArray = ls at hl ⊢
  have hl : lv_has ls 3 [(0, .ref h0), (1, .int a1), (2, .int a2)] := hl
  suffices K : ∀ (H : Heap) (locs : List Loc), va_P D vwCl (fb_wX1 cI h0 qn qf qw th ch nt fg wt mi) H → va_S A s.heap H locs → W p l e (headSpec wsX1_told rmX1_told).room s m ([.ref h0, .int a1, .int a2] : List Value).toArray below meth c H locs 0 0 (MQ below (fb_qM (fun q => some (.int ro)) (fun q => fb_wX1 cI h0 qn qf qw tho ch nt fg wt mi) D A) ([.ref h0, .int a1, .int a2] : List Value).toArray s 0 0 A) (F0 m 0 ls []) from K s.heap [] hP hS
  intro H locs hP hS
  unfold fX1_told at h
  refine lv_aload_n hx hb dX1_told_0 rfl (lv_at hl 0 rfl) ?_
  refine lv_iconst (v := 0) hx hb dX1_told_1 (by decide) ?_
  refine va_put (D := D) (ci := 1) (v := .int 0) (ty := .int) (C := RX1) (T := TX1) (N := 6) hx hb hts hin0 tyX1 tyX1_ok nmX1 hown hK hP hD hS 0 rfl rfl 0 (by decide) (hts _ w_f19) (fun _ h9 => h9) rfl (by decide +kernel) rfl rfl (Nat.le_of_ble_eq_true rfl) dX1_told_2 (fun H locs hP hD hS => ?_)
  have hP : va_P D vwCl (fb_wX1 cI h0 qn qf qw 0 ch nt fg wt mi) H := hP
  have hD : va_D A (fb_wX1 cI h0 qn qf qw 0 ch nt fg wt mi) := hD
  refine lv_aload_n hx hb dX1_told_5 rfl (lv_at hl 0 rfl) ?_
  refine lv_iload_n hx hb dX1_told_6 rfl (lv_at hl 1 rfl) ?_
  obtain ⟨r2, h1, h⟩ := fb_b1s h
  refine fb_callR (W.runV (As := [.int a1]) (rest := []) ⟨hx, hb, hml, hown, hts⟩ (metX1_isChord l D cI h0 qn qf qw B0 0 ch nt fg wt mi a1 r2 h1) (cwV 1 hts gX1_told_X1_isChord rfl rfl rfl (by decide +kernel) ⟨Nat.le_of_ble_eq_true rfl, Nat.le_of_ble_eq_true rfl⟩) (fb_preVR (ci := 1) fb_sX1p hP hK hZ hS hAB rfl rfl _) rfl rfl hl.1 rfl (lv_room (Nat.le_of_ble_eq_true rfl)) dX1_told_7 ⟨Nat.le_of_ble_eq_true rfl, Nat.le_of_ble_eq_true rfl⟩) ?_
  refine lv_if_eq (tgt := 31) hx hb dX1_told_10 (by decide) (fun c3 => ?_) (fun c3 => ?_)
  · replace h := fb_it c3 h
    refine lv_aload_n hx hb dX1_told_31 rfl (lv_at hl 0 rfl) ?_
    refine lv_iconst (v := 1) hx hb dX1_told_32 (by decide) ?_
    obtain ⟨r5, th_6, h4, h⟩ := fb_b2s h
    have hPc : va_P D vwCl (fb_wX1 cI h0 qn qf qw 0 ch nt fg wt mi) H := hP.sub [0, 1, 2, 3] rfl
    have hDc : va_D A (fb_wX1 cI h0 qn qf qw 0 ch nt fg wt mi) := hD.sub [0, 1, 2, 3] (by decide) rfl
    have hFc := va_free (wc := fb_wX1 cI h0 qn qf qw 0 ch nt fg wt mi) hD hS hA [0, 1, 2, 3] rfl
    refine fb_callM (va_runV (As := [.int 1]) (rest := []) ⟨hx, hb, hml, hown, hts⟩ (metX1_no l D cI h0 qn qf qw B0 0 ch nt fg wt mi 1 H.size r5 th_6 h4) (cwV 1 hts gX1_told_X1_no rfl rfl rfl (by decide +kernel) ⟨Nat.le_of_ble_eq_true rfl, Nat.le_of_ble_eq_true rfl⟩) (fb_preVM (ci := 1) fb_sX1p hPc hK hDc hZ hS hAB hA rfl rfl _) rfl rfl hl.1 rfl (lv_room (Nat.le_of_ble_eq_true rfl)) dX1_told_33 ⟨Nat.le_of_ble_eq_true rfl, Nat.le_of_ble_eq_true rfl⟩) hS (fun q _ h9 => hFc q h9) hFc (fun _ H1 locs hP1 hD1 hz1 hk1 hS => ?_)
    have hP : va_P D vwCl (fb_wX1 cI h0 qn qf qw th_6 ch nt fg wt mi) H1 := hP1
    have hD : va_D A (fb_wX1 cI h0 qn qf qw th_6 ch nt fg wt mi) := hD1.weaken (fun _ q _ h9 => hFc q.1 h9)
    generalize H1 = H at hP hS
    obtain ⟨e1, e2⟩ := fb_p2 h
    subst e1
    subst e2
    exact W.iret hx hb hr (fun t ht _ => ⟨⟨0, rfl, by rw [ht]; exact hP, hD⟩, hS.F ht⟩) hS.2.2 dX1_told_36
  · replace h := fb_ie c3 h
    refine lv_iload_n hx hb dX1_told_13 rfl (lv_at hl 2 rfl) ?_
    refine lv_iconst (v := 0) hx hb dX1_told_14 (by decide) ?_
    refine lv_iconst (v := 5) hx hb dX1_told_15 (by decide) ?_
    obtain ⟨r9, h8, h⟩ := fb_b1s h
    refine fb_callR (W.runS (As := [.int a2, .int 0, .int 5]) (rest := []) ⟨hx, hb, hml, hown, hts⟩ (metX1_isIn l B0 a2 0 5 r9 h8) (va_cwS 3 hts gX1_told_X1_isIn rfl rfl rfl (by decide +kernel) ⟨Nat.le_of_ble_eq_true rfl, Nat.le_of_ble_eq_true rfl⟩) (fb_preS fb_sX1p hZ hS hAB _) rfl rfl hl.1 rfl (lv_room (Nat.le_of_ble_eq_true rfl)) dX1_told_16 ⟨Nat.le_of_ble_eq_true rfl, Nat.le_of_ble_eq_true rfl⟩) ?_
    refine lv_if_eq (tgt := 31) hx hb dX1_told_19 (by decide) (fun c10 => ?_) (fun c10 => ?_)
    · replace h := fb_it c10 h
      refine lv_aload_n hx hb dX1_told_31 rfl (lv_at hl 0 rfl) ?_
      refine lv_iconst (v := 1) hx hb dX1_told_32 (by decide) ?_
      obtain ⟨r12, th_13, h11, h⟩ := fb_b2s h
      have hPc : va_P D vwCl (fb_wX1 cI h0 qn qf qw 0 ch nt fg wt mi) H := hP.sub [0, 1, 2, 3] rfl
      have hDc : va_D A (fb_wX1 cI h0 qn qf qw 0 ch nt fg wt mi) := hD.sub [0, 1, 2, 3] (by decide) rfl
      have hFc := va_free (wc := fb_wX1 cI h0 qn qf qw 0 ch nt fg wt mi) hD hS hA [0, 1, 2, 3] rfl
      refine fb_callM (va_runV (As := [.int 1]) (rest := []) ⟨hx, hb, hml, hown, hts⟩ (metX1_no l D cI h0 qn qf qw B0 0 ch nt fg wt mi 1 H.size r12 th_13 h11) (cwV 1 hts gX1_told_X1_no rfl rfl rfl (by decide +kernel) ⟨Nat.le_of_ble_eq_true rfl, Nat.le_of_ble_eq_true rfl⟩) (fb_preVM (ci := 1) fb_sX1p hPc hK hDc hZ hS hAB hA rfl rfl _) rfl rfl hl.1 rfl (lv_room (Nat.le_of_ble_eq_true rfl)) dX1_told_33 ⟨Nat.le_of_ble_eq_true rfl, Nat.le_of_ble_eq_true rfl⟩) hS (fun q _ h9 => hFc q h9) hFc (fun _ H1 locs hP1 hD1 hz1 hk1 hS => ?_)
      have hP : va_P D vwCl (fb_wX1 cI h0 qn qf qw th_13 ch nt fg wt mi) H1 := hP1
      have hD : va_D A (fb_wX1 cI h0 qn qf qw th_13 ch nt fg wt mi) := hD1.weaken (fun _ q _ h9 => hFc q.1 h9)
      generalize H1 = H at hP hS
      obtain ⟨e1, e2⟩ := fb_p2 h
      subst e1
      subst e2
      exact W.iret hx hb hr (fun t ht _ => ⟨⟨0, rfl, by rw [ht]; exact hP, hD⟩, hS.F ht⟩) hS.2.2 dX1_told_36
    · replace h := fb_ie c10 h
      refine lv_aload_n hx hb dX1_told_22 rfl (lv_at hl 0 rfl) ?_
      refine lv_iload_n hx hb dX1_told_23 rfl (lv_at hl 1 rfl) ?_
      refine lv_iload_n hx hb dX1_told_24 rfl (lv_at hl 2 rfl) ?_
      obtain ⟨r16, h15, h⟩ := fb_b1s h
      refine fb_callR (W.runV (As := [.int a1, .int a2]) (rest := []) ⟨hx, hb, hml, hown, hts⟩ (metX1_chordTold l D cI h0 qn qf qw B0 0 ch nt fg wt mi a1 a2 r16 h15) (cwV 2 hts gX1_told_X1_chordTold rfl rfl rfl (by decide +kernel) ⟨Nat.le_of_ble_eq_true rfl, Nat.le_of_ble_eq_true rfl⟩) (fb_preVR (ci := 1) fb_sX1p hP hK hZ hS hAB rfl rfl _) rfl rfl hl.1 rfl (lv_room (Nat.le_of_ble_eq_true rfl)) dX1_told_25 ⟨Nat.le_of_ble_eq_true rfl, Nat.le_of_ble_eq_true rfl⟩) ?_
      refine lv_goto (tgt := 36) hx hb dX1_told_28 (by decide) ?_
      obtain ⟨e1, e2⟩ := fb_p2 h
      subst e1
      subst e2
      exact W.iret hx hb hr (fun t ht _ => ⟨⟨0, rfl, by rw [ht]; exact hP, hD⟩, hS.F ht⟩) hS.2.2 dX1_told_36
abbrev rmX1_faults : Room := { frames := 4, cells := 0, slots := 0, locals := 95 }
set_option maxHeartbeats 8000000 in
set_option maxRecDepth 100000 in
theorem metX1_faults (l : Launch) (D : va_G) (cI : ClassId) (h0 qn qf qw B0 : Nat) (th : Int32) (ch : Int32) (nt : Nat → Int32) (fg : Nat → Int32) (wt : Nat → Int32) (mi : Int32) (a1 : Int32) (a2 : Int32) (hz : Nat) (ro : Int32) (tho : Int32) (h : fX1_faults th ch nt fg wt mi a1 a2 = some (ro, tho)) : Met l yX1_faults wsX1_faults rmX1_faults (va_Pc [.ref h0, .int a1, .int a2] (fb_pm D [(cI, .int)] B0 fb_sX1 (fb_wX1 cI h0 qn qf qw th ch nt fg wt mi) hz)) (fb_qM (fun q => some (.int ro)) (fun q => fb_wX1 cI h0 qn qf qw tho ch nt fg wt mi) D (va_A (fb_wX1 cI h0 qn qf qw th ch nt fg wt mi) hz)) 0 0 (va_A (fb_wX1 cI h0 qn qf qw th ch nt fg wt mi) hz) := by
  refine Met.ofW (cc := cX1_faults) (maxL := 3) (ret := (some .int)) (by decide) rfl ?_
  intro p e s m args below meth c s₁ B hml hv
  obtain ⟨rfl, hsz, ⟨hP, hK, hZ⟩, hD0, hAB⟩ := hv
  have hx := B.exec
  have hb := B.bytes
  have hr := B.returns
  have hts := atoms_spec (ws := wsX1_faults) B.pre
  have hown : s.vm.findClass RX1 = some m.cls := findClass_of_methodNamed B.named
  have hlocks := B.notSynchronized
  subst hsz
  have hD := hD0.self (sz := s.heap.size)
  generalize hAe : va_A (fb_wX1 cI h0 qn qf qw th ch nt fg wt mi) s.heap.size = A at hD hAB ⊢
  have hA : ∀ q : Nat, s.heap.size ≤ q → A q := fun q h9 => by rw [← hAe]; exact Or.inr h9
  have hS : va_S A s.heap s.heap [] := va_S.rf
  have hP : va_P D vwCl (fb_wX1 cI h0 qn qf qw th ch nt fg wt mi) s.heap := hP
  have hin0 : ∀ w ∈ u_ws RX1 TX1 6, w ∈ wsX1_faults := fun _ h9 => List.mem_cons_of_mem _ (List.mem_append_right _ (h9))
  have w_f19 : (Cond.fieldLink RX1 19 "FiguredBassModel" "thrown" "I") ∈ wsX1_faults := List.mem_of_getElem? (i := 1) rfl
  have hl := lv_entry ([.ref h0, .int a1, .int a2]) (n := 3) (Nat.le_of_ble_eq_true rfl)
  rw [lg_entry_eq]
  generalize (lg_sl ([.ref h0, .int a1, .int a2]) ++ List.replicate (3 - (lg_sl ([.ref h0, .int a1, .int a2])).length) Slot.unset).toArray = ls at hl ⊢
  have hl : lv_has ls 3 [(0, .ref h0), (1, .int a1), (2, .int a2)] := hl
  suffices K : ∀ (H : Heap) (locs : List Loc), va_P D vwCl (fb_wX1 cI h0 qn qf qw th ch nt fg wt mi) H → va_S A s.heap H locs → W p l e (headSpec wsX1_faults rmX1_faults).room s m ([.ref h0, .int a1, .int a2] : List Value).toArray below meth c H locs 0 0 (MQ below (fb_qM (fun q => some (.int ro)) (fun q => fb_wX1 cI h0 qn qf qw tho ch nt fg wt mi) D A) ([.ref h0, .int a1, .int a2] : List Value).toArray s 0 0 A) (F0 m 0 ls []) from K s.heap [] hP hS
  intro H locs hP hS
  unfold fX1_faults at h
  refine lv_aload_n hx hb dX1_faults_0 rfl (lv_at hl 0 rfl) ?_
  refine lv_iconst (v := 0) hx hb dX1_faults_1 (by decide) ?_
  refine va_put (D := D) (ci := 1) (v := .int 0) (ty := .int) (C := RX1) (T := TX1) (N := 6) hx hb hts hin0 tyX1 tyX1_ok nmX1 hown hK hP hD hS 0 rfl rfl 0 (by decide) (hts _ w_f19) (fun _ h9 => h9) rfl (by decide +kernel) rfl rfl (Nat.le_of_ble_eq_true rfl) dX1_faults_2 (fun H locs hP hD hS => ?_)
  have hP : va_P D vwCl (fb_wX1 cI h0 qn qf qw 0 ch nt fg wt mi) H := hP
  have hD : va_D A (fb_wX1 cI h0 qn qf qw 0 ch nt fg wt mi) := hD
  refine lv_aload_n hx hb dX1_faults_5 rfl (lv_at hl 0 rfl) ?_
  refine lv_iload_n hx hb dX1_faults_6 rfl (lv_at hl 1 rfl) ?_
  obtain ⟨r2, h1, h⟩ := fb_b1s h
  refine fb_callR (W.runV (As := [.int a1]) (rest := []) ⟨hx, hb, hml, hown, hts⟩ (metX1_isChord l D cI h0 qn qf qw B0 0 ch nt fg wt mi a1 r2 h1) (cwV 1 hts gX1_faults_X1_isChord rfl rfl rfl (by decide +kernel) ⟨Nat.le_of_ble_eq_true rfl, Nat.le_of_ble_eq_true rfl⟩) (fb_preVR (ci := 1) fb_sX1p hP hK hZ hS hAB rfl rfl _) rfl rfl hl.1 rfl (lv_room (Nat.le_of_ble_eq_true rfl)) dX1_faults_7 ⟨Nat.le_of_ble_eq_true rfl, Nat.le_of_ble_eq_true rfl⟩) ?_
  refine lv_if_eq (tgt := 32) hx hb dX1_faults_10 (by decide) (fun c3 => ?_) (fun c3 => ?_)
  · replace h := fb_it c3 h
    refine lv_aload_n hx hb dX1_faults_32 rfl (lv_at hl 0 rfl) ?_
    refine lv_iconst (v := 1) hx hb dX1_faults_33 (by decide) ?_
    obtain ⟨r5, th_6, h4, h⟩ := fb_b2s h
    have hPc : va_P D vwCl (fb_wX1 cI h0 qn qf qw 0 ch nt fg wt mi) H := hP.sub [0, 1, 2, 3] rfl
    have hDc : va_D A (fb_wX1 cI h0 qn qf qw 0 ch nt fg wt mi) := hD.sub [0, 1, 2, 3] (by decide) rfl
    have hFc := va_free (wc := fb_wX1 cI h0 qn qf qw 0 ch nt fg wt mi) hD hS hA [0, 1, 2, 3] rfl
    refine fb_callM (va_runV (As := [.int 1]) (rest := []) ⟨hx, hb, hml, hown, hts⟩ (metX1_no l D cI h0 qn qf qw B0 0 ch nt fg wt mi 1 H.size r5 th_6 h4) (cwV 1 hts gX1_faults_X1_no rfl rfl rfl (by decide +kernel) ⟨Nat.le_of_ble_eq_true rfl, Nat.le_of_ble_eq_true rfl⟩) (fb_preVM (ci := 1) fb_sX1p hPc hK hDc hZ hS hAB hA rfl rfl _) rfl rfl hl.1 rfl (lv_room (Nat.le_of_ble_eq_true rfl)) dX1_faults_34 ⟨Nat.le_of_ble_eq_true rfl, Nat.le_of_ble_eq_true rfl⟩) hS (fun q _ h9 => hFc q h9) hFc (fun _ H1 locs hP1 hD1 hz1 hk1 hS => ?_)
    have hP : va_P D vwCl (fb_wX1 cI h0 qn qf qw th_6 ch nt fg wt mi) H1 := hP1
    have hD : va_D A (fb_wX1 cI h0 qn qf qw th_6 ch nt fg wt mi) := hD1.weaken (fun _ q _ h9 => hFc q.1 h9)
    generalize H1 = H at hP hS
    obtain ⟨e1, e2⟩ := fb_p2 h
    subst e1
    subst e2
    exact W.iret hx hb hr (fun t ht _ => ⟨⟨0, rfl, by rw [ht]; exact hP, hD⟩, hS.F ht⟩) hS.2.2 dX1_faults_37
  · replace h := fb_ie c3 h
    refine lv_iload_n hx hb dX1_faults_13 rfl (lv_at hl 2 rfl) ?_
    refine lv_iconst (v := 0) hx hb dX1_faults_14 (by decide) ?_
    refine lv_bipush (v := 7) hx hb dX1_faults_15 (by decide) ?_
    obtain ⟨r9, h8, h⟩ := fb_b1s h
    refine fb_callR (W.runS (As := [.int a2, .int 0, .int 7]) (rest := []) ⟨hx, hb, hml, hown, hts⟩ (metX1_isIn l B0 a2 0 7 r9 h8) (va_cwS 3 hts gX1_faults_X1_isIn rfl rfl rfl (by decide +kernel) ⟨Nat.le_of_ble_eq_true rfl, Nat.le_of_ble_eq_true rfl⟩) (fb_preS fb_sX1p hZ hS hAB _) rfl rfl hl.1 rfl (lv_room (Nat.le_of_ble_eq_true rfl)) dX1_faults_17 ⟨Nat.le_of_ble_eq_true rfl, Nat.le_of_ble_eq_true rfl⟩) ?_
    refine lv_if_eq (tgt := 32) hx hb dX1_faults_20 (by decide) (fun c10 => ?_) (fun c10 => ?_)
    · replace h := fb_it c10 h
      refine lv_aload_n hx hb dX1_faults_32 rfl (lv_at hl 0 rfl) ?_
      refine lv_iconst (v := 1) hx hb dX1_faults_33 (by decide) ?_
      obtain ⟨r12, th_13, h11, h⟩ := fb_b2s h
      have hPc : va_P D vwCl (fb_wX1 cI h0 qn qf qw 0 ch nt fg wt mi) H := hP.sub [0, 1, 2, 3] rfl
      have hDc : va_D A (fb_wX1 cI h0 qn qf qw 0 ch nt fg wt mi) := hD.sub [0, 1, 2, 3] (by decide) rfl
      have hFc := va_free (wc := fb_wX1 cI h0 qn qf qw 0 ch nt fg wt mi) hD hS hA [0, 1, 2, 3] rfl
      refine fb_callM (va_runV (As := [.int 1]) (rest := []) ⟨hx, hb, hml, hown, hts⟩ (metX1_no l D cI h0 qn qf qw B0 0 ch nt fg wt mi 1 H.size r12 th_13 h11) (cwV 1 hts gX1_faults_X1_no rfl rfl rfl (by decide +kernel) ⟨Nat.le_of_ble_eq_true rfl, Nat.le_of_ble_eq_true rfl⟩) (fb_preVM (ci := 1) fb_sX1p hPc hK hDc hZ hS hAB hA rfl rfl _) rfl rfl hl.1 rfl (lv_room (Nat.le_of_ble_eq_true rfl)) dX1_faults_34 ⟨Nat.le_of_ble_eq_true rfl, Nat.le_of_ble_eq_true rfl⟩) hS (fun q _ h9 => hFc q h9) hFc (fun _ H1 locs hP1 hD1 hz1 hk1 hS => ?_)
      have hP : va_P D vwCl (fb_wX1 cI h0 qn qf qw th_13 ch nt fg wt mi) H1 := hP1
      have hD : va_D A (fb_wX1 cI h0 qn qf qw th_13 ch nt fg wt mi) := hD1.weaken (fun _ q _ h9 => hFc q.1 h9)
      generalize H1 = H at hP hS
      obtain ⟨e1, e2⟩ := fb_p2 h
      subst e1
      subst e2
      exact W.iret hx hb hr (fun t ht _ => ⟨⟨0, rfl, by rw [ht]; exact hP, hD⟩, hS.F ht⟩) hS.2.2 dX1_faults_37
    · replace h := fb_ie c10 h
      refine lv_aload_n hx hb dX1_faults_23 rfl (lv_at hl 0 rfl) ?_
      refine lv_iload_n hx hb dX1_faults_24 rfl (lv_at hl 1 rfl) ?_
      refine lv_iload_n hx hb dX1_faults_25 rfl (lv_at hl 2 rfl) ?_
      obtain ⟨r16, h15, h⟩ := fb_b1s h
      refine fb_callR (W.runV (As := [.int a1, .int a2]) (rest := []) ⟨hx, hb, hml, hown, hts⟩ (metX1_faultsOf l D cI h0 qn qf qw B0 0 ch nt fg wt mi a1 a2 r16 h15) (cwV 2 hts gX1_faults_X1_faultsOf rfl rfl rfl (by decide +kernel) ⟨Nat.le_of_ble_eq_true rfl, Nat.le_of_ble_eq_true rfl⟩) (fb_preVR (ci := 1) fb_sX1p hP hK hZ hS hAB rfl rfl _) rfl rfl hl.1 rfl (lv_room (Nat.le_of_ble_eq_true rfl)) dX1_faults_26 ⟨Nat.le_of_ble_eq_true rfl, Nat.le_of_ble_eq_true rfl⟩) ?_
      refine lv_goto (tgt := 37) hx hb dX1_faults_29 (by decide) ?_
      obtain ⟨e1, e2⟩ := fb_p2 h
      subst e1
      subst e2
      exact W.iret hx hb hr (fun t ht _ => ⟨⟨0, rfl, by rw [ht]; exact hP, hD⟩, hS.F ht⟩) hS.2.2 dX1_faults_37
abbrev rmX1_count : Room := { frames := 8, cells := 0, slots := 0, locals := 184 }
set_option maxHeartbeats 8000000 in
set_option maxRecDepth 100000 in
theorem metX1_count (l : Launch) (D : va_G) (cI : ClassId) (h0 qn qf qw B0 : Nat) (th : Int32) (ch : Int32) (nt : Nat → Int32) (fg : Nat → Int32) (wt : Nat → Int32) (mi : Int32) (a1 : Int32) (hz : Nat) (ro : Int32) (tho : Int32) (h : fX1_count th ch nt fg wt mi a1 = some (ro, tho)) : Met l yX1_count wsX1_count rmX1_count (va_Pc [.ref h0, .int a1] (fb_pm D [(cI, .int)] B0 fb_sX1 (fb_wX1 cI h0 qn qf qw th ch nt fg wt mi) hz)) (fb_qM (fun q => some (.int ro)) (fun q => fb_wX1 cI h0 qn qf qw tho ch nt fg wt mi) D (va_A (fb_wX1 cI h0 qn qf qw th ch nt fg wt mi) hz)) 0 0 (va_A (fb_wX1 cI h0 qn qf qw th ch nt fg wt mi) hz) := by
  refine Met.ofW (cc := cX1_count) (maxL := 2) (ret := (some .int)) (by decide) rfl ?_
  intro p e s m args below meth c s₁ B hml hv
  obtain ⟨rfl, hsz, ⟨hP, hK, hZ⟩, hD0, hAB⟩ := hv
  have hx := B.exec
  have hb := B.bytes
  have hr := B.returns
  have hts := atoms_spec (ws := wsX1_count) B.pre
  have hown : s.vm.findClass RX1 = some m.cls := findClass_of_methodNamed B.named
  have hlocks := B.notSynchronized
  subst hsz
  have hD := hD0.self (sz := s.heap.size)
  generalize hAe : va_A (fb_wX1 cI h0 qn qf qw th ch nt fg wt mi) s.heap.size = A at hD hAB ⊢
  have hA : ∀ q : Nat, s.heap.size ≤ q → A q := fun q h9 => by rw [← hAe]; exact Or.inr h9
  have hS : va_S A s.heap s.heap [] := va_S.rf
  have hP : va_P D vwCl (fb_wX1 cI h0 qn qf qw th ch nt fg wt mi) s.heap := hP
  have hin0 : ∀ w ∈ u_ws RX1 TX1 6, w ∈ wsX1_count := fun _ h9 => List.mem_cons_of_mem _ (List.mem_append_right _ (h9))
  have w_f19 : (Cond.fieldLink RX1 19 "FiguredBassModel" "thrown" "I") ∈ wsX1_count := List.mem_of_getElem? (i := 1) rfl
  have hl := lv_entry ([.ref h0, .int a1]) (n := 2) (Nat.le_of_ble_eq_true rfl)
  rw [lg_entry_eq]
  generalize (lg_sl ([.ref h0, .int a1]) ++ List.replicate (2 - (lg_sl ([.ref h0, .int a1])).length) Slot.unset).toArray = ls at hl ⊢
  have hl : lv_has ls 2 [(0, .ref h0), (1, .int a1)] := hl
  suffices K : ∀ (H : Heap) (locs : List Loc), va_P D vwCl (fb_wX1 cI h0 qn qf qw th ch nt fg wt mi) H → va_S A s.heap H locs → W p l e (headSpec wsX1_count rmX1_count).room s m ([.ref h0, .int a1] : List Value).toArray below meth c H locs 0 0 (MQ below (fb_qM (fun q => some (.int ro)) (fun q => fb_wX1 cI h0 qn qf qw tho ch nt fg wt mi) D A) ([.ref h0, .int a1] : List Value).toArray s 0 0 A) (F0 m 0 ls []) from K s.heap [] hP hS
  intro H locs hP hS
  unfold fX1_count at h
  refine lv_aload_n hx hb dX1_count_0 rfl (lv_at hl 0 rfl) ?_
  refine lv_iconst (v := 0) hx hb dX1_count_1 (by decide) ?_
  refine va_put (D := D) (ci := 1) (v := .int 0) (ty := .int) (C := RX1) (T := TX1) (N := 6) hx hb hts hin0 tyX1 tyX1_ok nmX1 hown hK hP hD hS 0 rfl rfl 0 (by decide) (hts _ w_f19) (fun _ h9 => h9) rfl (by decide +kernel) rfl rfl (Nat.le_of_ble_eq_true rfl) dX1_count_2 (fun H locs hP hD hS => ?_)
  have hP : va_P D vwCl (fb_wX1 cI h0 qn qf qw 0 ch nt fg wt mi) H := hP
  have hD : va_D A (fb_wX1 cI h0 qn qf qw 0 ch nt fg wt mi) := hD
  refine lv_iload_n hx hb dX1_count_5 rfl (lv_at hl 1 rfl) ?_
  refine lv_iconst (v := 0) hx hb dX1_count_6 (by decide) ?_
  refine lv_bipush (v := 6) hx hb dX1_count_7 (by decide) ?_
  obtain ⟨r2, h1, h⟩ := fb_b1s h
  refine fb_callR (W.runS (As := [.int a1, .int 0, .int 6]) (rest := []) ⟨hx, hb, hml, hown, hts⟩ (metX1_isIn l B0 a1 0 6 r2 h1) (va_cwS 3 hts gX1_count_X1_isIn rfl rfl rfl (by decide +kernel) ⟨Nat.le_of_ble_eq_true rfl, Nat.le_of_ble_eq_true rfl⟩) (fb_preS fb_sX1p hZ hS hAB _) rfl rfl hl.1 rfl (lv_room (Nat.le_of_ble_eq_true rfl)) dX1_count_9 ⟨Nat.le_of_ble_eq_true rfl, Nat.le_of_ble_eq_true rfl⟩) ?_
  refine lv_if_eq (tgt := 23) hx hb dX1_count_12 (by decide) (fun c3 => ?_) (fun c3 => ?_)
  · replace h := fb_it c3 h
    refine lv_aload_n hx hb dX1_count_23 rfl (lv_at hl 0 rfl) ?_
    refine lv_iconst (v := 1) hx hb dX1_count_24 (by decide) ?_
    obtain ⟨r5, th_6, h4, h⟩ := fb_b2s h
    have hPc : va_P D vwCl (fb_wX1 cI h0 qn qf qw 0 ch nt fg wt mi) H := hP.sub [0, 1, 2, 3] rfl
    have hDc : va_D A (fb_wX1 cI h0 qn qf qw 0 ch nt fg wt mi) := hD.sub [0, 1, 2, 3] (by decide) rfl
    have hFc := va_free (wc := fb_wX1 cI h0 qn qf qw 0 ch nt fg wt mi) hD hS hA [0, 1, 2, 3] rfl
    refine fb_callM (va_runV (As := [.int 1]) (rest := []) ⟨hx, hb, hml, hown, hts⟩ (metX1_no l D cI h0 qn qf qw B0 0 ch nt fg wt mi 1 H.size r5 th_6 h4) (cwV 1 hts gX1_count_X1_no rfl rfl rfl (by decide +kernel) ⟨Nat.le_of_ble_eq_true rfl, Nat.le_of_ble_eq_true rfl⟩) (fb_preVM (ci := 1) fb_sX1p hPc hK hDc hZ hS hAB hA rfl rfl _) rfl rfl hl.1 rfl (lv_room (Nat.le_of_ble_eq_true rfl)) dX1_count_25 ⟨Nat.le_of_ble_eq_true rfl, Nat.le_of_ble_eq_true rfl⟩) hS (fun q _ h9 => hFc q h9) hFc (fun _ H1 locs hP1 hD1 hz1 hk1 hS => ?_)
    have hP : va_P D vwCl (fb_wX1 cI h0 qn qf qw th_6 ch nt fg wt mi) H1 := hP1
    have hD : va_D A (fb_wX1 cI h0 qn qf qw th_6 ch nt fg wt mi) := hD1.weaken (fun _ q _ h9 => hFc q.1 h9)
    generalize H1 = H at hP hS
    obtain ⟨e1, e2⟩ := fb_p2 h
    subst e1
    subst e2
    exact W.iret hx hb hr (fun t ht _ => ⟨⟨0, rfl, by rw [ht]; exact hP, hD⟩, hS.F ht⟩) hS.2.2 dX1_count_28
  · replace h := fb_ie c3 h
    refine lv_aload_n hx hb dX1_count_15 rfl (lv_at hl 0 rfl) ?_
    refine lv_iload_n hx hb dX1_count_16 rfl (lv_at hl 1 rfl) ?_
    obtain ⟨r9, h8, h⟩ := fb_b1s h
    refine fb_callR (W.runV (As := [.int a1]) (rest := []) ⟨hx, hb, hml, hown, hts⟩ (metX1_counted l D cI h0 qn qf qw B0 0 ch nt fg wt mi a1 r9 h8) (cwV 1 hts gX1_count_X1_counted rfl rfl rfl (by decide +kernel) ⟨Nat.le_of_ble_eq_true rfl, Nat.le_of_ble_eq_true rfl⟩) (fb_preVR (ci := 1) fb_sX1p hP hK hZ hS hAB rfl rfl _) rfl rfl hl.1 rfl (lv_room (Nat.le_of_ble_eq_true rfl)) dX1_count_17 ⟨Nat.le_of_ble_eq_true rfl, Nat.le_of_ble_eq_true rfl⟩) ?_
    refine lv_goto (tgt := 28) hx hb dX1_count_20 (by decide) ?_
    obtain ⟨e1, e2⟩ := fb_p2 h
    subst e1
    subst e2
    exact W.iret hx hb hr (fun t ht _ => ⟨⟨0, rfl, by rw [ht]; exact hP, hD⟩, hS.F ht⟩) hS.2.2 dX1_count_28
abbrev rmX1_pitch : Room := { frames := 1, cells := 0, slots := 0, locals := 22 }
set_option maxHeartbeats 8000000 in
set_option maxRecDepth 100000 in
theorem metX1_pitch (l : Launch) (D : va_G) (cI : ClassId) (h0 qn qf qw B0 : Nat) (th : Int32) (ch : Int32) (nt : Nat → Int32) (fg : Nat → Int32) (wt : Nat → Int32) (mi : Int32) (a1 : Int32) (hz : Nat) (ro : Int32) (tho : Int32) (h : fX1_pitch th ch nt fg wt mi a1 = some (ro, tho)) : Met l yX1_pitch wsX1_pitch rmX1_pitch (va_Pc [.ref h0, .int a1] (fb_pm D [(cI, .int)] B0 fb_sX1 (fb_wX1 cI h0 qn qf qw th ch nt fg wt mi) hz)) (fb_qM (fun q => some (.int ro)) (fun q => fb_wX1 cI h0 qn qf qw tho ch nt fg wt mi) D (va_A (fb_wX1 cI h0 qn qf qw th ch nt fg wt mi) hz)) 0 0 (va_A (fb_wX1 cI h0 qn qf qw th ch nt fg wt mi) hz) := by
  refine Met.ofW (cc := cX1_pitch) (maxL := 2) (ret := (some .int)) (by decide) rfl ?_
  intro p e s m args below meth c s₁ B hml hv
  obtain ⟨rfl, hsz, ⟨hP, hK, hZ⟩, hD0, hAB⟩ := hv
  have hx := B.exec
  have hb := B.bytes
  have hr := B.returns
  have hts := atoms_spec (ws := wsX1_pitch) B.pre
  have hown : s.vm.findClass RX1 = some m.cls := findClass_of_methodNamed B.named
  have hlocks := B.notSynchronized
  subst hsz
  have hD := hD0.self (sz := s.heap.size)
  generalize hAe : va_A (fb_wX1 cI h0 qn qf qw th ch nt fg wt mi) s.heap.size = A at hD hAB ⊢
  have hA : ∀ q : Nat, s.heap.size ≤ q → A q := fun q h9 => by rw [← hAe]; exact Or.inr h9
  have hS : va_S A s.heap s.heap [] := va_S.rf
  have hP : va_P D vwCl (fb_wX1 cI h0 qn qf qw th ch nt fg wt mi) s.heap := hP
  have hin0 : ∀ w ∈ u_ws RX1 TX1 6, w ∈ wsX1_pitch := fun _ h9 => List.mem_cons_of_mem _ (List.mem_append_right _ (h9))
  have w_f19 : (Cond.fieldLink RX1 19 "FiguredBassModel" "thrown" "I") ∈ wsX1_pitch := List.mem_of_getElem? (i := 1) rfl
  have hl := lv_entry ([.ref h0, .int a1]) (n := 2) (Nat.le_of_ble_eq_true rfl)
  rw [lg_entry_eq]
  generalize (lg_sl ([.ref h0, .int a1]) ++ List.replicate (2 - (lg_sl ([.ref h0, .int a1])).length) Slot.unset).toArray = ls at hl ⊢
  have hl : lv_has ls 2 [(0, .ref h0), (1, .int a1)] := hl
  suffices K : ∀ (H : Heap) (locs : List Loc), va_P D vwCl (fb_wX1 cI h0 qn qf qw th ch nt fg wt mi) H → va_S A s.heap H locs → W p l e (headSpec wsX1_pitch rmX1_pitch).room s m ([.ref h0, .int a1] : List Value).toArray below meth c H locs 0 0 (MQ below (fb_qM (fun q => some (.int ro)) (fun q => fb_wX1 cI h0 qn qf qw tho ch nt fg wt mi) D A) ([.ref h0, .int a1] : List Value).toArray s 0 0 A) (F0 m 0 ls []) from K s.heap [] hP hS
  intro H locs hP hS
  unfold fX1_pitch at h
  refine lv_aload_n hx hb dX1_pitch_0 rfl (lv_at hl 0 rfl) ?_
  refine lv_iconst (v := 0) hx hb dX1_pitch_1 (by decide) ?_
  refine va_put (D := D) (ci := 1) (v := .int 0) (ty := .int) (C := RX1) (T := TX1) (N := 6) hx hb hts hin0 tyX1 tyX1_ok nmX1 hown hK hP hD hS 0 rfl rfl 0 (by decide) (hts _ w_f19) (fun _ h9 => h9) rfl (by decide +kernel) rfl rfl (Nat.le_of_ble_eq_true rfl) dX1_pitch_2 (fun H locs hP hD hS => ?_)
  have hP : va_P D vwCl (fb_wX1 cI h0 qn qf qw 0 ch nt fg wt mi) H := hP
  have hD : va_D A (fb_wX1 cI h0 qn qf qw 0 ch nt fg wt mi) := hD
  refine lv_iload_n hx hb dX1_pitch_5 rfl (lv_at hl 1 rfl) ?_
  refine lv_iconst (v := 0) hx hb dX1_pitch_6 (by decide) ?_
  refine lv_bipush (v := 27) hx hb dX1_pitch_7 (by decide) ?_
  obtain ⟨r2, h1, h⟩ := fb_b1s h
  refine fb_callR (W.runS (As := [.int a1, .int 0, .int 27]) (rest := []) ⟨hx, hb, hml, hown, hts⟩ (metX1_isIn l B0 a1 0 27 r2 h1) (va_cwS 3 hts gX1_pitch_X1_isIn rfl rfl rfl (by decide +kernel) ⟨Nat.le_of_ble_eq_true rfl, Nat.le_of_ble_eq_true rfl⟩) (fb_preS fb_sX1p hZ hS hAB _) rfl rfl hl.1 rfl (lv_room (Nat.le_of_ble_eq_true rfl)) dX1_pitch_9 ⟨Nat.le_of_ble_eq_true rfl, Nat.le_of_ble_eq_true rfl⟩) ?_
  refine lv_if_eq (tgt := 23) hx hb dX1_pitch_12 (by decide) (fun c3 => ?_) (fun c3 => ?_)
  · replace h := fb_it c3 h
    refine lv_aload_n hx hb dX1_pitch_23 rfl (lv_at hl 0 rfl) ?_
    refine lv_iconst (v := 1) hx hb dX1_pitch_24 (by decide) ?_
    obtain ⟨r5, th_6, h4, h⟩ := fb_b2s h
    have hPc : va_P D vwCl (fb_wX1 cI h0 qn qf qw 0 ch nt fg wt mi) H := hP.sub [0, 1, 2, 3] rfl
    have hDc : va_D A (fb_wX1 cI h0 qn qf qw 0 ch nt fg wt mi) := hD.sub [0, 1, 2, 3] (by decide) rfl
    have hFc := va_free (wc := fb_wX1 cI h0 qn qf qw 0 ch nt fg wt mi) hD hS hA [0, 1, 2, 3] rfl
    refine fb_callM (va_runV (As := [.int 1]) (rest := []) ⟨hx, hb, hml, hown, hts⟩ (metX1_no l D cI h0 qn qf qw B0 0 ch nt fg wt mi 1 H.size r5 th_6 h4) (cwV 1 hts gX1_pitch_X1_no rfl rfl rfl (by decide +kernel) ⟨Nat.le_of_ble_eq_true rfl, Nat.le_of_ble_eq_true rfl⟩) (fb_preVM (ci := 1) fb_sX1p hPc hK hDc hZ hS hAB hA rfl rfl _) rfl rfl hl.1 rfl (lv_room (Nat.le_of_ble_eq_true rfl)) dX1_pitch_25 ⟨Nat.le_of_ble_eq_true rfl, Nat.le_of_ble_eq_true rfl⟩) hS (fun q _ h9 => hFc q h9) hFc (fun _ H1 locs hP1 hD1 hz1 hk1 hS => ?_)
    have hP : va_P D vwCl (fb_wX1 cI h0 qn qf qw th_6 ch nt fg wt mi) H1 := hP1
    have hD : va_D A (fb_wX1 cI h0 qn qf qw th_6 ch nt fg wt mi) := hD1.weaken (fun _ q _ h9 => hFc q.1 h9)
    generalize H1 = H at hP hS
    obtain ⟨e1, e2⟩ := fb_p2 h
    subst e1
    subst e2
    exact W.iret hx hb hr (fun t ht _ => ⟨⟨0, rfl, by rw [ht]; exact hP, hD⟩, hS.F ht⟩) hS.2.2 dX1_pitch_28
  · replace h := fb_ie c3 h
    refine lv_aload_n hx hb dX1_pitch_15 rfl (lv_at hl 0 rfl) ?_
    refine lv_iload_n hx hb dX1_pitch_16 rfl (lv_at hl 1 rfl) ?_
    obtain ⟨r9, h8, h⟩ := fb_b1s h
    refine fb_callR (W.runV (As := [.int a1]) (rest := []) ⟨hx, hb, hml, hown, hts⟩ (metX1_pitchOf l D cI h0 qn qf qw B0 0 ch nt fg wt mi a1 r9 h8) (cwV 1 hts gX1_pitch_X1_pitchOf rfl rfl rfl (by decide +kernel) ⟨Nat.le_of_ble_eq_true rfl, Nat.le_of_ble_eq_true rfl⟩) (fb_preVR (ci := 1) fb_sX1p hP hK hZ hS hAB rfl rfl _) rfl rfl hl.1 rfl (lv_room (Nat.le_of_ble_eq_true rfl)) dX1_pitch_17 ⟨Nat.le_of_ble_eq_true rfl, Nat.le_of_ble_eq_true rfl⟩) ?_
    refine lv_goto (tgt := 28) hx hb dX1_pitch_20 (by decide) ?_
    obtain ⟨e1, e2⟩ := fb_p2 h
    subst e1
    subst e2
    exact W.iret hx hb hr (fun t ht _ => ⟨⟨0, rfl, by rw [ht]; exact hP, hD⟩, hS.F ht⟩) hS.2.2 dX1_pitch_28
abbrev rmX1_fits : Room := { frames := 2, cells := 0, slots := 0, locals := 43 }
set_option maxHeartbeats 8000000 in
set_option maxRecDepth 100000 in
theorem metX1_fits (l : Launch) (D : va_G) (cI : ClassId) (h0 qn qf qw B0 : Nat) (th : Int32) (ch : Int32) (nt : Nat → Int32) (fg : Nat → Int32) (wt : Nat → Int32) (mi : Int32) (a1 : Int32) (a2 : Int32) (a3 : Int32) (hz : Nat) (ro : Int32) (tho : Int32) (h : fX1_fits th ch nt fg wt mi a1 a2 a3 = some (ro, tho)) : Met l yX1_fits wsX1_fits rmX1_fits (va_Pc [.ref h0, .int a1, .int a2, .int a3] (fb_pm D [(cI, .int)] B0 fb_sX1 (fb_wX1 cI h0 qn qf qw th ch nt fg wt mi) hz)) (fb_qM (fun q => some (.int ro)) (fun q => fb_wX1 cI h0 qn qf qw tho ch nt fg wt mi) D (va_A (fb_wX1 cI h0 qn qf qw th ch nt fg wt mi) hz)) 0 0 (va_A (fb_wX1 cI h0 qn qf qw th ch nt fg wt mi) hz) := by
  refine Met.ofW (cc := cX1_fits) (maxL := 4) (ret := (some .boolean)) (by decide) rfl ?_
  intro p e s m args below meth c s₁ B hml hv
  obtain ⟨rfl, hsz, ⟨hP, hK, hZ⟩, hD0, hAB⟩ := hv
  have hx := B.exec
  have hb := B.bytes
  have hr := B.returns
  have hts := atoms_spec (ws := wsX1_fits) B.pre
  have hown : s.vm.findClass RX1 = some m.cls := findClass_of_methodNamed B.named
  have hlocks := B.notSynchronized
  subst hsz
  have hD := hD0.self (sz := s.heap.size)
  generalize hAe : va_A (fb_wX1 cI h0 qn qf qw th ch nt fg wt mi) s.heap.size = A at hD hAB ⊢
  have hA : ∀ q : Nat, s.heap.size ≤ q → A q := fun q h9 => by rw [← hAe]; exact Or.inr h9
  have hS : va_S A s.heap s.heap [] := va_S.rf
  have hP : va_P D vwCl (fb_wX1 cI h0 qn qf qw th ch nt fg wt mi) s.heap := hP
  have hin0 : ∀ w ∈ u_ws RX1 TX1 6, w ∈ wsX1_fits := fun _ h9 => List.mem_cons_of_mem _ (List.mem_append_right _ (h9))
  have w_f13 : (Cond.fieldLink RX1 13 "FiguredBassModel" "figures" "[I") ∈ wsX1_fits := List.mem_of_getElem? (i := 2) rfl
  have w_f19 : (Cond.fieldLink RX1 19 "FiguredBassModel" "thrown" "I") ∈ wsX1_fits := List.mem_of_getElem? (i := 1) rfl
  have hl := lv_entry ([.ref h0, .int a1, .int a2, .int a3]) (n := 4) (Nat.le_of_ble_eq_true rfl)
  rw [lg_entry_eq]
  generalize (lg_sl ([.ref h0, .int a1, .int a2, .int a3]) ++ List.replicate (4 - (lg_sl ([.ref h0, .int a1, .int a2, .int a3])).length) Slot.unset).toArray = ls at hl ⊢
  have hl : lv_has ls 4 [(0, .ref h0), (1, .int a1), (2, .int a2), (3, .int a3)] := hl
  suffices K : ∀ (H : Heap) (locs : List Loc), va_P D vwCl (fb_wX1 cI h0 qn qf qw th ch nt fg wt mi) H → va_S A s.heap H locs → W p l e (headSpec wsX1_fits rmX1_fits).room s m ([.ref h0, .int a1, .int a2, .int a3] : List Value).toArray below meth c H locs 0 0 (MQ below (fb_qM (fun q => some (.int ro)) (fun q => fb_wX1 cI h0 qn qf qw tho ch nt fg wt mi) D A) ([.ref h0, .int a1, .int a2, .int a3] : List Value).toArray s 0 0 A) (F0 m 0 ls []) from K s.heap [] hP hS
  intro H locs hP hS
  unfold fX1_fits at h
  refine lv_aload_n hx hb dX1_fits_0 rfl (lv_at hl 0 rfl) ?_
  refine lv_iconst (v := 0) hx hb dX1_fits_1 (by decide) ?_
  refine va_put (D := D) (ci := 1) (v := .int 0) (ty := .int) (C := RX1) (T := TX1) (N := 6) hx hb hts hin0 tyX1 tyX1_ok nmX1 hown hK hP hD hS 0 rfl rfl 0 (by decide) (hts _ w_f19) (fun _ h9 => h9) rfl (by decide +kernel) rfl rfl (Nat.le_of_ble_eq_true rfl) dX1_fits_2 (fun H locs hP hD hS => ?_)
  have hP : va_P D vwCl (fb_wX1 cI h0 qn qf qw 0 ch nt fg wt mi) H := hP
  have hD : va_D A (fb_wX1 cI h0 qn qf qw 0 ch nt fg wt mi) := hD
  refine lv_aload_n hx hb dX1_fits_5 rfl (lv_at hl 0 rfl) ?_
  refine lv_iload_n hx hb dX1_fits_6 rfl (lv_at hl 1 rfl) ?_
  obtain ⟨r2, h1, h⟩ := fb_b1s h
  refine fb_callR (W.runV (As := [.int a1]) (rest := []) ⟨hx, hb, hml, hown, hts⟩ (metX1_isChord l D cI h0 qn qf qw B0 0 ch nt fg wt mi a1 r2 h1) (cwV 1 hts gX1_fits_X1_isChord rfl rfl rfl (by decide +kernel) ⟨Nat.le_of_ble_eq_true rfl, Nat.le_of_ble_eq_true rfl⟩) (fb_preVR (ci := 1) fb_sX1p hP hK hZ hS hAB rfl rfl _) rfl rfl hl.1 rfl (lv_room (Nat.le_of_ble_eq_true rfl)) dX1_fits_7 ⟨Nat.le_of_ble_eq_true rfl, Nat.le_of_ble_eq_true rfl⟩) ?_
  refine lv_if_eq (tgt := 22) hx hb dX1_fits_10 (by decide) (fun c3 => ?_) (fun c3 => ?_)
  · replace h := fb_it c3 h
    refine lv_aload_n hx hb dX1_fits_22 rfl (lv_at hl 0 rfl) ?_
    refine lv_iconst (v := 1) hx hb dX1_fits_23 (by decide) ?_
    obtain ⟨r5, th_6, h4, h⟩ := fb_b2s h
    have hPc : va_P D vwCl (fb_wX1 cI h0 qn qf qw 0 ch nt fg wt mi) H := hP.sub [0, 1, 2, 3] rfl
    have hDc : va_D A (fb_wX1 cI h0 qn qf qw 0 ch nt fg wt mi) := hD.sub [0, 1, 2, 3] (by decide) rfl
    have hFc := va_free (wc := fb_wX1 cI h0 qn qf qw 0 ch nt fg wt mi) hD hS hA [0, 1, 2, 3] rfl
    refine fb_callM (va_runV (As := [.int 1]) (rest := []) ⟨hx, hb, hml, hown, hts⟩ (metX1_no l D cI h0 qn qf qw B0 0 ch nt fg wt mi 1 H.size r5 th_6 h4) (cwV 1 hts gX1_fits_X1_no rfl rfl rfl (by decide +kernel) ⟨Nat.le_of_ble_eq_true rfl, Nat.le_of_ble_eq_true rfl⟩) (fb_preVM (ci := 1) fb_sX1p hPc hK hDc hZ hS hAB hA rfl rfl _) rfl rfl hl.1 rfl (lv_room (Nat.le_of_ble_eq_true rfl)) dX1_fits_24 ⟨Nat.le_of_ble_eq_true rfl, Nat.le_of_ble_eq_true rfl⟩) hS (fun q _ h9 => hFc q h9) hFc (fun _ H1 locs hP1 hD1 hz1 hk1 hS => ?_)
    have hP : va_P D vwCl (fb_wX1 cI h0 qn qf qw th_6 ch nt fg wt mi) H1 := hP1
    have hD : va_D A (fb_wX1 cI h0 qn qf qw th_6 ch nt fg wt mi) := hD1.weaken (fun _ q _ h9 => hFc q.1 h9)
    generalize H1 = H at hP hS
    refine lv_if_le (tgt := 34) hx hb dX1_fits_27 (by decide) (fun c7 => ?_) (fun c7 => ?_)
    · replace h := fb_it c7 h
      refine lv_iconst (v := 0) hx hb dX1_fits_34 (by decide) ?_
      obtain ⟨e1, e2⟩ := fb_p2 h
      subst e1
      subst e2
      exact W.zret (ty := .boolean) hx hb hr rfl (fun t ht _ => ⟨⟨0, rfl, by rw [ht]; exact hP, hD⟩, hS.F ht⟩) hS.2.2 dX1_fits_35
    · replace h := fb_ie c7 h
      refine lv_iconst (v := 1) hx hb dX1_fits_30 (by decide) ?_
      refine lv_goto (tgt := 35) hx hb dX1_fits_31 (by decide) ?_
      obtain ⟨e1, e2⟩ := fb_p2 h
      subst e1
      subst e2
      exact W.zret (ty := .boolean) hx hb hr rfl (fun t ht _ => ⟨⟨0, rfl, by rw [ht]; exact hP, hD⟩, hS.F ht⟩) hS.2.2 dX1_fits_35
  · replace h := fb_ie c3 h
    refine lv_iload_n hx hb dX1_fits_13 rfl (lv_at hl 2 rfl) ?_
    refine lv_iconst (v := 1) hx hb dX1_fits_14 (by decide) ?_
    refine lv_iconst (v := 3) hx hb dX1_fits_15 (by decide) ?_
    obtain ⟨r11, h10, h⟩ := fb_b1s h
    refine fb_callR (W.runS (As := [.int a2, .int 1, .int 3]) (rest := []) ⟨hx, hb, hml, hown, hts⟩ (metX1_isIn l B0 a2 1 3 r11 h10) (va_cwS 3 hts gX1_fits_X1_isIn rfl rfl rfl (by decide +kernel) ⟨Nat.le_of_ble_eq_true rfl, Nat.le_of_ble_eq_true rfl⟩) (fb_preS fb_sX1p hZ hS hAB _) rfl rfl hl.1 rfl (lv_room (Nat.le_of_ble_eq_true rfl)) dX1_fits_16 ⟨Nat.le_of_ble_eq_true rfl, Nat.le_of_ble_eq_true rfl⟩) ?_
    refine lv_if_ne (tgt := 36) hx hb dX1_fits_19 (by decide) (fun c12 => ?_) (fun c12 => ?_)
    · replace h := fb_ie c12 h
      refine lv_iload_n hx hb dX1_fits_36 rfl (lv_at hl 3 rfl) ?_
      refine lv_iconst (v := 0) hx hb dX1_fits_37 (by decide) ?_
      refine lv_bipush (v := 27) hx hb dX1_fits_38 (by decide) ?_
      obtain ⟨r14, h13, h⟩ := fb_b1s h
      refine fb_callR (W.runS (As := [.int a3, .int 0, .int 27]) (rest := []) ⟨hx, hb, hml, hown, hts⟩ (metX1_isIn l B0 a3 0 27 r14 h13) (va_cwS 3 hts gX1_fits_X1_isIn rfl rfl rfl (by decide +kernel) ⟨Nat.le_of_ble_eq_true rfl, Nat.le_of_ble_eq_true rfl⟩) (fb_preS fb_sX1p hZ hS hAB _) rfl rfl hl.1 rfl (lv_room (Nat.le_of_ble_eq_true rfl)) dX1_fits_40 ⟨Nat.le_of_ble_eq_true rfl, Nat.le_of_ble_eq_true rfl⟩) ?_
      refine lv_if_ne (tgt := 60) hx hb dX1_fits_43 (by decide) (fun c15 => ?_) (fun c15 => ?_)
      · replace h := fb_ie c15 h
        refine lv_iload_n hx hb dX1_fits_60 rfl (lv_at hl 2 rfl) ?_
        refine lv_iload_n hx hb dX1_fits_61 rfl (lv_at hl 3 rfl) ?_
        obtain ⟨r17, h16, h⟩ := fb_b1s h
        refine fb_callR (W.runS (As := [.int a2, .int a3]) (rest := []) ⟨hx, hb, hml, hown, hts⟩ (metX1_isOf l B0 a2 a3 r17 h16) (va_cwS 2 hts gX1_fits_X1_isOf rfl rfl rfl (by decide +kernel) ⟨Nat.le_of_ble_eq_true rfl, Nat.le_of_ble_eq_true rfl⟩) (fb_preS fb_sX1p hZ hS hAB _) rfl rfl hl.1 rfl (lv_room (Nat.le_of_ble_eq_true rfl)) dX1_fits_62 ⟨Nat.le_of_ble_eq_true rfl, Nat.le_of_ble_eq_true rfl⟩) ?_
        refine lv_if_eq (tgt := 91) hx hb dX1_fits_65 (by decide) (fun c18 => ?_) (fun c18 => ?_)
        · replace h := fb_it c18 h
          refine lv_iconst (v := 0) hx hb dX1_fits_91 (by decide) ?_
          obtain ⟨e1, e2⟩ := fb_p2 h
          subst e1
          subst e2
          exact W.zret (ty := .boolean) hx hb hr rfl (fun t ht _ => ⟨⟨0, rfl, by rw [ht]; exact hP, hD⟩, hS.F ht⟩) hS.2.2 dX1_fits_92
        · replace h := fb_ie c18 h
          refine lv_iload_n hx hb dX1_fits_68 rfl (lv_at hl 3 rfl) ?_
          refine lv_aload_n hx hb dX1_fits_69 rfl (lv_at hl 0 rfl) ?_
          refine lv_iload_n hx hb dX1_fits_70 rfl (lv_at hl 1 rfl) ?_
          refine lv_iconst (v := 0) hx hb dX1_fits_71 (by decide) ?_
          obtain ⟨r21, h20, h⟩ := fb_b1s h
          refine fb_callR (W.runV (As := [.int a1, .int 0]) (rest := [.int a3]) ⟨hx, hb, hml, hown, hts⟩ (metX1_at l D cI h0 qn qf qw B0 0 ch nt fg wt mi a1 0 r21 h20) (cwV 2 hts gX1_fits_X1_at rfl rfl rfl (by decide +kernel) ⟨Nat.le_of_ble_eq_true rfl, Nat.le_of_ble_eq_true rfl⟩) (fb_preVR (ci := 1) fb_sX1p hP hK hZ hS hAB rfl rfl _) rfl rfl hl.1 rfl (lv_room (Nat.le_of_ble_eq_true rfl)) dX1_fits_72 ⟨Nat.le_of_ble_eq_true rfl, Nat.le_of_ble_eq_true rfl⟩) ?_
          refine lv_aload_n hx hb dX1_fits_75 rfl (lv_at hl 0 rfl) ?_
          refine va_get (D := D) (ci := 1) (v := .ref qf) (C := RX1) (T := TX1) (N := 6) hx hb hts hin0 hown hK hP 0 rfl rfl 3 (by decide) (hts _ w_f13) (fun _ h9 => h9) rfl dX1_fits_76 ?_
          refine lv_iload_n hx hb dX1_fits_79 rfl (lv_at hl 1 rfl) ?_
          obtain ⟨hi22, h⟩ := fb_cks h
          refine va_iald hx hb hK hP 2 0 rfl rfl (fb_ixin hi22) dX1_fits_80 ?_
          obtain ⟨r24, h23, h⟩ := fb_b1s h
          refine fb_callR (W.runS (As := [.int a3, .int r21, .int (fg a1.toNatClampNeg)]) (rest := []) ⟨hx, hb, hml, hown, hts⟩ (metX1_belongs l B0 a3 r21 (fg a1.toNatClampNeg) r24 h23) (va_cwS 3 hts gX1_fits_X1_belongs rfl rfl rfl (by decide +kernel) ⟨Nat.le_of_ble_eq_true rfl, Nat.le_of_ble_eq_true rfl⟩) (fb_preS fb_sX1p hZ hS hAB _) rfl rfl hl.1 rfl (lv_room (Nat.le_of_ble_eq_true rfl)) dX1_fits_81 ⟨Nat.le_of_ble_eq_true rfl, Nat.le_of_ble_eq_true rfl⟩) ?_
          refine lv_if_eq (tgt := 91) hx hb dX1_fits_84 (by decide) (fun c25 => ?_) (fun c25 => ?_)
          · replace h := fb_it c25 h
            refine lv_iconst (v := 0) hx hb dX1_fits_91 (by decide) ?_
            obtain ⟨e1, e2⟩ := fb_p2 h
            subst e1
            subst e2
            exact W.zret (ty := .boolean) hx hb hr rfl (fun t ht _ => ⟨⟨0, rfl, by rw [ht]; exact hP, hD⟩, hS.F ht⟩) hS.2.2 dX1_fits_92
          · replace h := fb_ie c25 h
            refine lv_iconst (v := 1) hx hb dX1_fits_87 (by decide) ?_
            refine lv_goto (tgt := 92) hx hb dX1_fits_88 (by decide) ?_
            obtain ⟨e1, e2⟩ := fb_p2 h
            subst e1
            subst e2
            exact W.zret (ty := .boolean) hx hb hr rfl (fun t ht _ => ⟨⟨0, rfl, by rw [ht]; exact hP, hD⟩, hS.F ht⟩) hS.2.2 dX1_fits_92
      · replace h := fb_it c15 h
        refine lv_aload_n hx hb dX1_fits_46 rfl (lv_at hl 0 rfl) ?_
        refine lv_iconst (v := 2) hx hb dX1_fits_47 (by decide) ?_
        obtain ⟨r29, th_30, h28, h⟩ := fb_b2s h
        have hPc : va_P D vwCl (fb_wX1 cI h0 qn qf qw 0 ch nt fg wt mi) H := hP.sub [0, 1, 2, 3] rfl
        have hDc : va_D A (fb_wX1 cI h0 qn qf qw 0 ch nt fg wt mi) := hD.sub [0, 1, 2, 3] (by decide) rfl
        have hFc := va_free (wc := fb_wX1 cI h0 qn qf qw 0 ch nt fg wt mi) hD hS hA [0, 1, 2, 3] rfl
        refine fb_callM (va_runV (As := [.int 2]) (rest := []) ⟨hx, hb, hml, hown, hts⟩ (metX1_no l D cI h0 qn qf qw B0 0 ch nt fg wt mi 2 H.size r29 th_30 h28) (cwV 1 hts gX1_fits_X1_no rfl rfl rfl (by decide +kernel) ⟨Nat.le_of_ble_eq_true rfl, Nat.le_of_ble_eq_true rfl⟩) (fb_preVM (ci := 1) fb_sX1p hPc hK hDc hZ hS hAB hA rfl rfl _) rfl rfl hl.1 rfl (lv_room (Nat.le_of_ble_eq_true rfl)) dX1_fits_48 ⟨Nat.le_of_ble_eq_true rfl, Nat.le_of_ble_eq_true rfl⟩) hS (fun q _ h9 => hFc q h9) hFc (fun _ H1 locs hP1 hD1 hz1 hk1 hS => ?_)
        have hP : va_P D vwCl (fb_wX1 cI h0 qn qf qw th_30 ch nt fg wt mi) H1 := hP1
        have hD : va_D A (fb_wX1 cI h0 qn qf qw th_30 ch nt fg wt mi) := hD1.weaken (fun _ q _ h9 => hFc q.1 h9)
        generalize H1 = H at hP hS
        refine lv_if_le (tgt := 58) hx hb dX1_fits_51 (by decide) (fun c31 => ?_) (fun c31 => ?_)
        · replace h := fb_it c31 h
          refine lv_iconst (v := 0) hx hb dX1_fits_58 (by decide) ?_
          obtain ⟨e1, e2⟩ := fb_p2 h
          subst e1
          subst e2
          exact W.zret (ty := .boolean) hx hb hr rfl (fun t ht _ => ⟨⟨0, rfl, by rw [ht]; exact hP, hD⟩, hS.F ht⟩) hS.2.2 dX1_fits_59
        · replace h := fb_ie c31 h
          refine lv_iconst (v := 1) hx hb dX1_fits_54 (by decide) ?_
          refine lv_goto (tgt := 59) hx hb dX1_fits_55 (by decide) ?_
          obtain ⟨e1, e2⟩ := fb_p2 h
          subst e1
          subst e2
          exact W.zret (ty := .boolean) hx hb hr rfl (fun t ht _ => ⟨⟨0, rfl, by rw [ht]; exact hP, hD⟩, hS.F ht⟩) hS.2.2 dX1_fits_59
    · replace h := fb_it c12 h
      refine lv_aload_n hx hb dX1_fits_22 rfl (lv_at hl 0 rfl) ?_
      refine lv_iconst (v := 1) hx hb dX1_fits_23 (by decide) ?_
      obtain ⟨r35, th_36, h34, h⟩ := fb_b2s h
      have hPc : va_P D vwCl (fb_wX1 cI h0 qn qf qw 0 ch nt fg wt mi) H := hP.sub [0, 1, 2, 3] rfl
      have hDc : va_D A (fb_wX1 cI h0 qn qf qw 0 ch nt fg wt mi) := hD.sub [0, 1, 2, 3] (by decide) rfl
      have hFc := va_free (wc := fb_wX1 cI h0 qn qf qw 0 ch nt fg wt mi) hD hS hA [0, 1, 2, 3] rfl
      refine fb_callM (va_runV (As := [.int 1]) (rest := []) ⟨hx, hb, hml, hown, hts⟩ (metX1_no l D cI h0 qn qf qw B0 0 ch nt fg wt mi 1 H.size r35 th_36 h34) (cwV 1 hts gX1_fits_X1_no rfl rfl rfl (by decide +kernel) ⟨Nat.le_of_ble_eq_true rfl, Nat.le_of_ble_eq_true rfl⟩) (fb_preVM (ci := 1) fb_sX1p hPc hK hDc hZ hS hAB hA rfl rfl _) rfl rfl hl.1 rfl (lv_room (Nat.le_of_ble_eq_true rfl)) dX1_fits_24 ⟨Nat.le_of_ble_eq_true rfl, Nat.le_of_ble_eq_true rfl⟩) hS (fun q _ h9 => hFc q h9) hFc (fun _ H1 locs hP1 hD1 hz1 hk1 hS => ?_)
      have hP : va_P D vwCl (fb_wX1 cI h0 qn qf qw th_36 ch nt fg wt mi) H1 := hP1
      have hD : va_D A (fb_wX1 cI h0 qn qf qw th_36 ch nt fg wt mi) := hD1.weaken (fun _ q _ h9 => hFc q.1 h9)
      generalize H1 = H at hP hS
      refine lv_if_le (tgt := 34) hx hb dX1_fits_27 (by decide) (fun c37 => ?_) (fun c37 => ?_)
      · replace h := fb_it c37 h
        refine lv_iconst (v := 0) hx hb dX1_fits_34 (by decide) ?_
        obtain ⟨e1, e2⟩ := fb_p2 h
        subst e1
        subst e2
        exact W.zret (ty := .boolean) hx hb hr rfl (fun t ht _ => ⟨⟨0, rfl, by rw [ht]; exact hP, hD⟩, hS.F ht⟩) hS.2.2 dX1_fits_35
      · replace h := fb_ie c37 h
        refine lv_iconst (v := 1) hx hb dX1_fits_30 (by decide) ?_
        refine lv_goto (tgt := 35) hx hb dX1_fits_31 (by decide) ?_
        obtain ⟨e1, e2⟩ := fb_p2 h
        subst e1
        subst e2
        exact W.zret (ty := .boolean) hx hb hr rfl (fun t ht _ => ⟨⟨0, rfl, by rw [ht]; exact hP, hD⟩, hS.F ht⟩) hS.2.2 dX1_fits_35
abbrev rmX1_ways : Room := { frames := 6, cells := 2, slots := 6, locals := 145 }
set_option maxHeartbeats 8000000 in
set_option maxRecDepth 100000 in
theorem metX1_ways (l : Launch) (D : va_G) (cI : ClassId) (h0 qn qf qw B0 : Nat) (th : Int32) (ch : Int32) (nt : Nat → Int32) (fg : Nat → Int32) (wt : Nat → Int32) (mi : Int32) (a1 : Int32) (hz : Nat) (ro : Int32) (tho : Int32) (nto : Nat → Int32) (h : fX1_ways th ch nt fg wt mi a1 = some (ro, tho, nto)) : Met l yX1_ways wsX1_ways rmX1_ways (va_Pc [.ref h0, .int a1] (fb_pm D [(cI, .int)] B0 fb_sX1 (fb_wX1 cI h0 qn qf qw th ch nt fg wt mi) hz)) (fb_qM (fun q => some (.int ro)) (fun q => fb_wX1 cI h0 qn qf qw tho ch nto fg wt mi) D (va_A (fb_wX1 cI h0 qn qf qw th ch nt fg wt mi) hz)) 2 6 (va_A (fb_wX1 cI h0 qn qf qw th ch nt fg wt mi) hz) := by
  refine Met.ofW (cc := cX1_ways) (maxL := 2) (ret := (some .int)) (by decide) rfl ?_
  intro p e s m args below meth c s₁ B hml hv
  obtain ⟨rfl, hsz, ⟨hP, hK, hZ⟩, hD0, hAB⟩ := hv
  have hx := B.exec
  have hb := B.bytes
  have hr := B.returns
  have hts := atoms_spec (ws := wsX1_ways) B.pre
  have hown : s.vm.findClass RX1 = some m.cls := findClass_of_methodNamed B.named
  have hlocks := B.notSynchronized
  subst hsz
  have hD := hD0.self (sz := s.heap.size)
  generalize hAe : va_A (fb_wX1 cI h0 qn qf qw th ch nt fg wt mi) s.heap.size = A at hD hAB ⊢
  have hA : ∀ q : Nat, s.heap.size ≤ q → A q := fun q h9 => by rw [← hAe]; exact Or.inr h9
  have hS : va_S A s.heap s.heap [] := va_S.rf
  have hP : va_P D vwCl (fb_wX1 cI h0 qn qf qw th ch nt fg wt mi) s.heap := hP
  have hin0 : ∀ w ∈ u_ws RX1 TX1 6, w ∈ wsX1_ways := fun _ h9 => List.mem_cons_of_mem _ (List.mem_append_right _ (h9))
  have w_f19 : (Cond.fieldLink RX1 19 "FiguredBassModel" "thrown" "I") ∈ wsX1_ways := List.mem_of_getElem? (i := 1) rfl
  have hl := lv_entry ([.ref h0, .int a1]) (n := 2) (Nat.le_of_ble_eq_true rfl)
  rw [lg_entry_eq]
  generalize (lg_sl ([.ref h0, .int a1]) ++ List.replicate (2 - (lg_sl ([.ref h0, .int a1])).length) Slot.unset).toArray = ls at hl ⊢
  have hl : lv_has ls 2 [(0, .ref h0), (1, .int a1)] := hl
  suffices K : ∀ (H : Heap) (locs : List Loc), va_P D vwCl (fb_wX1 cI h0 qn qf qw th ch nt fg wt mi) H → va_S A s.heap H locs → W p l e (headSpec wsX1_ways rmX1_ways).room s m ([.ref h0, .int a1] : List Value).toArray below meth c H locs 0 0 (MQ below (fb_qM (fun q => some (.int ro)) (fun q => fb_wX1 cI h0 qn qf qw tho ch nto fg wt mi) D A) ([.ref h0, .int a1] : List Value).toArray s 2 6 A) (F0 m 0 ls []) from K s.heap [] hP hS
  intro H locs hP hS
  unfold fX1_ways at h
  refine lv_aload_n hx hb dX1_ways_0 rfl (lv_at hl 0 rfl) ?_
  refine lv_iconst (v := 0) hx hb dX1_ways_1 (by decide) ?_
  refine va_put (D := D) (ci := 1) (v := .int 0) (ty := .int) (C := RX1) (T := TX1) (N := 6) hx hb hts hin0 tyX1 tyX1_ok nmX1 hown hK hP hD hS 0 rfl rfl 0 (by decide) (hts _ w_f19) (fun _ h9 => h9) rfl (by decide +kernel) rfl rfl (Nat.le_of_ble_eq_true rfl) dX1_ways_2 (fun H locs hP hD hS => ?_)
  have hP : va_P D vwCl (fb_wX1 cI h0 qn qf qw 0 ch nt fg wt mi) H := hP
  have hD : va_D A (fb_wX1 cI h0 qn qf qw 0 ch nt fg wt mi) := hD
  refine lv_aload_n hx hb dX1_ways_5 rfl (lv_at hl 0 rfl) ?_
  refine lv_iload_n hx hb dX1_ways_6 rfl (lv_at hl 1 rfl) ?_
  obtain ⟨r2, h1, h⟩ := fb_b1s h
  refine fb_callR (W.runV (As := [.int a1]) (rest := []) ⟨hx, hb, hml, hown, hts⟩ (metX1_isChord l D cI h0 qn qf qw B0 0 ch nt fg wt mi a1 r2 h1) (cwV 1 hts gX1_ways_X1_isChord rfl rfl rfl (by decide +kernel) ⟨Nat.le_of_ble_eq_true rfl, Nat.le_of_ble_eq_true rfl⟩) (fb_preVR (ci := 1) fb_sX1p hP hK hZ hS hAB rfl rfl _) rfl rfl hl.1 rfl (lv_room (Nat.le_of_ble_eq_true rfl)) dX1_ways_7 ⟨Nat.le_of_ble_eq_true rfl, Nat.le_of_ble_eq_true rfl⟩) ?_
  refine lv_if_eq (tgt := 23) hx hb dX1_ways_10 (by decide) (fun c3 => ?_) (fun c3 => ?_)
  · replace h := fb_it c3 h
    refine lv_aload_n hx hb dX1_ways_23 rfl (lv_at hl 0 rfl) ?_
    refine lv_iconst (v := 1) hx hb dX1_ways_24 (by decide) ?_
    obtain ⟨r5, th_6, h4, h⟩ := fb_b2s h
    have hPc : va_P D vwCl (fb_wX1 cI h0 qn qf qw 0 ch nt fg wt mi) H := hP.sub [0, 1, 2, 3] rfl
    have hDc : va_D A (fb_wX1 cI h0 qn qf qw 0 ch nt fg wt mi) := hD.sub [0, 1, 2, 3] (by decide) rfl
    have hFc := va_free (wc := fb_wX1 cI h0 qn qf qw 0 ch nt fg wt mi) hD hS hA [0, 1, 2, 3] rfl
    refine fb_callM (va_runV (As := [.int 1]) (rest := []) ⟨hx, hb, hml, hown, hts⟩ (metX1_no l D cI h0 qn qf qw B0 0 ch nt fg wt mi 1 H.size r5 th_6 h4) (cwV 1 hts gX1_ways_X1_no rfl rfl rfl (by decide +kernel) ⟨Nat.le_of_ble_eq_true rfl, Nat.le_of_ble_eq_true rfl⟩) (fb_preVM (ci := 1) fb_sX1p hPc hK hDc hZ hS hAB hA rfl rfl _) rfl rfl hl.1 rfl (lv_room (Nat.le_of_ble_eq_true rfl)) dX1_ways_25 ⟨Nat.le_of_ble_eq_true rfl, Nat.le_of_ble_eq_true rfl⟩) hS (fun q _ h9 => hFc q h9) hFc (fun _ H1 locs hP1 hD1 hz1 hk1 hS => ?_)
    have hP : va_P D vwCl (fb_wX1 cI h0 qn qf qw th_6 ch nt fg wt mi) H1 := hP1
    have hD : va_D A (fb_wX1 cI h0 qn qf qw th_6 ch nt fg wt mi) := hD1.weaken (fun _ q _ h9 => hFc q.1 h9)
    generalize H1 = H at hP hS
    obtain ⟨e1, e2, e3⟩ := fb_p3 h
    subst e1
    subst e2
    subst e3
    refine W.widen (k := 2) (n := 6) (by first | decide | omega) (by first | decide | omega) ?_
    exact W.iret hx hb hr (fun t ht _ => ⟨⟨0, rfl, by rw [ht]; exact hP, hD⟩, hS.F ht⟩) hS.2.2 dX1_ways_28
  · replace h := fb_ie c3 h
    refine lv_aload_n hx hb dX1_ways_13 rfl (lv_at hl 0 rfl) ?_
    refine lv_iload_n hx hb dX1_ways_14 rfl (lv_at hl 1 rfl) ?_
    obtain ⟨nt_9, f10, h8, h⟩ := fb_b2s h
    have hPc : va_P D vwCl (fb_wX1 cI h0 qn qf qw 0 ch nt fg wt mi) H := hP.sub [0, 1, 2, 3] rfl
    have hDc : va_D A (fb_wX1 cI h0 qn qf qw 0 ch nt fg wt mi) := hD.sub [0, 1, 2, 3] (by decide) rfl
    have hFc := va_free (wc := fb_wX1 cI h0 qn qf qw 0 ch nt fg wt mi) hD hS hA [0, 1, 2, 3] rfl
    refine fb_callM (va_runV (As := [.int a1]) (rest := []) ⟨hx, hb, hml, hown, hts⟩ (metX1_led l D cI h0 qn qf qw B0 0 ch nt fg wt mi a1 H.size nt_9 f10 h8) (cwV 1 hts gX1_ways_X1_led rfl rfl rfl (by decide +kernel) ⟨Nat.le_of_ble_eq_true rfl, Nat.le_of_ble_eq_true rfl⟩) (fb_preVM (ci := 1) fb_sX1p hPc hK hDc hZ hS hAB hA rfl rfl _) rfl rfl hl.1 rfl (lv_room (Nat.le_of_ble_eq_true rfl)) dX1_ways_15 ⟨Nat.le_of_ble_eq_true rfl, Nat.le_of_ble_eq_true rfl⟩) hS (fun q _ h9 => hFc q h9) hFc (fun q11 H1 locs hP1 hD1 hz1 hk1 hS => ?_)
    have hP : va_P D vwCl (fb_wX1 cI h0 qn qf qw 0 ch nt_9 fg wt mi ++ [(q11, .inl (cI, 3, .inl f10))]) H1 := hP1
    have hD : va_D A (fb_wX1 cI h0 qn qf qw 0 ch nt_9 fg wt mi ++ [(q11, .inl (cI, 3, .inl f10))]) := hD1.weaken (fun _ q _ h9 => hFc q.1 h9)
    generalize H1 = H at hP hS
    refine lv_iconst (v := 2) hx hb dX1_ways_18 (by decide) ?_
    refine va_iald hx hb hK hP 4 0 rfl rfl (fb_ixin (by decide)) dX1_ways_19 ?_
    refine lv_goto (tgt := 28) hx hb dX1_ways_20 (by decide) ?_
    obtain ⟨e1, e2, e3⟩ := fb_p3 h
    subst e1
    subst e2
    subst e3
    have hP : va_P D vwCl (fb_wX1 cI h0 qn qf qw 0 ch nt_9 fg wt mi) H := hP.sub [0, 1, 2, 3] rfl
    have hD : va_D A (fb_wX1 cI h0 qn qf qw 0 ch nt_9 fg wt mi) := hD.sub [0, 1, 2, 3] (by decide) rfl
    exact W.iret hx hb hr (fun t ht _ => ⟨⟨0, rfl, by rw [ht]; exact hP, hD⟩, hS.F ht⟩) hS.2.2 dX1_ways_28
abbrev rmX1_would : Room := { frames := 7, cells := 0, slots := 0, locals := 163 }
set_option maxHeartbeats 8000000 in
set_option maxRecDepth 100000 in
theorem metX1_would (l : Launch) (D : va_G) (cI : ClassId) (h0 qn qf qw B0 : Nat) (th : Int32) (ch : Int32) (nt : Nat → Int32) (fg : Nat → Int32) (wt : Nat → Int32) (mi : Int32) (a1 : Int32) (a2 : Int32) (a3 : Int32) (hz : Nat) (ro : Int32) (tho : Int32) (nto : Nat → Int32) (h : fX1_would th ch nt fg wt mi a1 a2 a3 = some (ro, tho, nto)) : Met l yX1_would wsX1_would rmX1_would (va_Pc [.ref h0, .int a1, .int a2, .int a3] (fb_pm D [(cI, .int)] B0 fb_sX1 (fb_wX1 cI h0 qn qf qw th ch nt fg wt mi) hz)) (fb_qM (fun q => some (.int ro)) (fun q => fb_wX1 cI h0 qn qf qw tho ch nto fg wt mi) D (va_A (fb_wX1 cI h0 qn qf qw th ch nt fg wt mi) hz)) 0 0 (va_A (fb_wX1 cI h0 qn qf qw th ch nt fg wt mi) hz) := by
  refine Met.ofW (cc := cX1_would) (maxL := 6) (ret := (some .int)) (by decide) rfl ?_
  intro p e s m args below meth c s₁ B hml hv
  obtain ⟨rfl, hsz, ⟨hP, hK, hZ⟩, hD0, hAB⟩ := hv
  have hx := B.exec
  have hb := B.bytes
  have hr := B.returns
  have hts := atoms_spec (ws := wsX1_would) B.pre
  have hown : s.vm.findClass RX1 = some m.cls := findClass_of_methodNamed B.named
  have hlocks := B.notSynchronized
  subst hsz
  have hD := hD0.self (sz := s.heap.size)
  generalize hAe : va_A (fb_wX1 cI h0 qn qf qw th ch nt fg wt mi) s.heap.size = A at hD hAB ⊢
  have hA : ∀ q : Nat, s.heap.size ≤ q → A q := fun q h9 => by rw [← hAe]; exact Or.inr h9
  have hS : va_S A s.heap s.heap [] := va_S.rf
  have hP : va_P D vwCl (fb_wX1 cI h0 qn qf qw th ch nt fg wt mi) s.heap := hP
  have hin0 : ∀ w ∈ u_ws RX1 TX1 6, w ∈ wsX1_would := fun _ h9 => List.mem_cons_of_mem _ (List.mem_append_right _ (h9))
  have w_f19 : (Cond.fieldLink RX1 19 "FiguredBassModel" "thrown" "I") ∈ wsX1_would := List.mem_of_getElem? (i := 1) rfl
  have w_f9 : (Cond.fieldLink RX1 9 "FiguredBassModel" "notes" "[I") ∈ wsX1_would := List.mem_of_getElem? (i := 2) rfl
  have hl := lv_entry ([.ref h0, .int a1, .int a2, .int a3]) (n := 6) (Nat.le_of_ble_eq_true rfl)
  rw [lg_entry_eq]
  generalize (lg_sl ([.ref h0, .int a1, .int a2, .int a3]) ++ List.replicate (6 - (lg_sl ([.ref h0, .int a1, .int a2, .int a3])).length) Slot.unset).toArray = ls at hl ⊢
  have hl : lv_has ls 6 [(0, .ref h0), (1, .int a1), (2, .int a2), (3, .int a3)] := hl
  suffices K : ∀ (H : Heap) (locs : List Loc), va_P D vwCl (fb_wX1 cI h0 qn qf qw th ch nt fg wt mi) H → va_S A s.heap H locs → W p l e (headSpec wsX1_would rmX1_would).room s m ([.ref h0, .int a1, .int a2, .int a3] : List Value).toArray below meth c H locs 0 0 (MQ below (fb_qM (fun q => some (.int ro)) (fun q => fb_wX1 cI h0 qn qf qw tho ch nto fg wt mi) D A) ([.ref h0, .int a1, .int a2, .int a3] : List Value).toArray s 0 0 A) (F0 m 0 ls []) from K s.heap [] hP hS
  intro H locs hP hS
  unfold fX1_would at h
  refine lv_aload_n hx hb dX1_would_0 rfl (lv_at hl 0 rfl) ?_
  refine lv_iconst (v := 0) hx hb dX1_would_1 (by decide) ?_
  refine va_put (D := D) (ci := 1) (v := .int 0) (ty := .int) (C := RX1) (T := TX1) (N := 6) hx hb hts hin0 tyX1 tyX1_ok nmX1 hown hK hP hD hS 0 rfl rfl 0 (by decide) (hts _ w_f19) (fun _ h9 => h9) rfl (by decide +kernel) rfl rfl (Nat.le_of_ble_eq_true rfl) dX1_would_2 (fun H locs hP hD hS => ?_)
  have hP : va_P D vwCl (fb_wX1 cI h0 qn qf qw 0 ch nt fg wt mi) H := hP
  have hD : va_D A (fb_wX1 cI h0 qn qf qw 0 ch nt fg wt mi) := hD
  refine lv_aload_n hx hb dX1_would_5 rfl (lv_at hl 0 rfl) ?_
  refine lv_iload_n hx hb dX1_would_6 rfl (lv_at hl 1 rfl) ?_
  obtain ⟨r2, h1, h⟩ := fb_b1s h
  refine fb_callR (W.runV (As := [.int a1]) (rest := []) ⟨hx, hb, hml, hown, hts⟩ (metX1_isChord l D cI h0 qn qf qw B0 0 ch nt fg wt mi a1 r2 h1) (cwV 1 hts gX1_would_X1_isChord rfl rfl rfl (by decide +kernel) ⟨Nat.le_of_ble_eq_true rfl, Nat.le_of_ble_eq_true rfl⟩) (fb_preVR (ci := 1) fb_sX1p hP hK hZ hS hAB rfl rfl _) rfl rfl hl.1 rfl (lv_room (Nat.le_of_ble_eq_true rfl)) dX1_would_7 ⟨Nat.le_of_ble_eq_true rfl, Nat.le_of_ble_eq_true rfl⟩) ?_
  refine lv_if_eq (tgt := 22) hx hb dX1_would_10 (by decide) (fun c3 => ?_) (fun c3 => ?_)
  · replace h := fb_it c3 h
    refine lv_aload_n hx hb dX1_would_22 rfl (lv_at hl 0 rfl) ?_
    refine lv_iconst (v := 1) hx hb dX1_would_23 (by decide) ?_
    obtain ⟨r5, th_6, h4, h⟩ := fb_b2s h
    have hPc : va_P D vwCl (fb_wX1 cI h0 qn qf qw 0 ch nt fg wt mi) H := hP.sub [0, 1, 2, 3] rfl
    have hDc : va_D A (fb_wX1 cI h0 qn qf qw 0 ch nt fg wt mi) := hD.sub [0, 1, 2, 3] (by decide) rfl
    have hFc := va_free (wc := fb_wX1 cI h0 qn qf qw 0 ch nt fg wt mi) hD hS hA [0, 1, 2, 3] rfl
    refine fb_callM (va_runV (As := [.int 1]) (rest := []) ⟨hx, hb, hml, hown, hts⟩ (metX1_no l D cI h0 qn qf qw B0 0 ch nt fg wt mi 1 H.size r5 th_6 h4) (cwV 1 hts gX1_would_X1_no rfl rfl rfl (by decide +kernel) ⟨Nat.le_of_ble_eq_true rfl, Nat.le_of_ble_eq_true rfl⟩) (fb_preVM (ci := 1) fb_sX1p hPc hK hDc hZ hS hAB hA rfl rfl _) rfl rfl hl.1 rfl (lv_room (Nat.le_of_ble_eq_true rfl)) dX1_would_24 ⟨Nat.le_of_ble_eq_true rfl, Nat.le_of_ble_eq_true rfl⟩) hS (fun q _ h9 => hFc q h9) hFc (fun _ H1 locs hP1 hD1 hz1 hk1 hS => ?_)
    have hP : va_P D vwCl (fb_wX1 cI h0 qn qf qw th_6 ch nt fg wt mi) H1 := hP1
    have hD : va_D A (fb_wX1 cI h0 qn qf qw th_6 ch nt fg wt mi) := hD1.weaken (fun _ q _ h9 => hFc q.1 h9)
    generalize H1 = H at hP hS
    obtain ⟨e1, e2, e3⟩ := fb_p3 h
    subst e1
    subst e2
    subst e3
    exact W.iret hx hb hr (fun t ht _ => ⟨⟨0, rfl, by rw [ht]; exact hP, hD⟩, hS.F ht⟩) hS.2.2 dX1_would_27
  · replace h := fb_ie c3 h
    refine lv_iload_n hx hb dX1_would_13 rfl (lv_at hl 2 rfl) ?_
    refine lv_iconst (v := 1) hx hb dX1_would_14 (by decide) ?_
    refine lv_iconst (v := 3) hx hb dX1_would_15 (by decide) ?_
    obtain ⟨r9, h8, h⟩ := fb_b1s h
    refine fb_callR (W.runS (As := [.int a2, .int 1, .int 3]) (rest := []) ⟨hx, hb, hml, hown, hts⟩ (metX1_isIn l B0 a2 1 3 r9 h8) (va_cwS 3 hts gX1_would_X1_isIn rfl rfl rfl (by decide +kernel) ⟨Nat.le_of_ble_eq_true rfl, Nat.le_of_ble_eq_true rfl⟩) (fb_preS fb_sX1p hZ hS hAB _) rfl rfl hl.1 rfl (lv_room (Nat.le_of_ble_eq_true rfl)) dX1_would_16 ⟨Nat.le_of_ble_eq_true rfl, Nat.le_of_ble_eq_true rfl⟩) ?_
    refine lv_if_ne (tgt := 28) hx hb dX1_would_19 (by decide) (fun c10 => ?_) (fun c10 => ?_)
    · replace h := fb_ie c10 h
      refine lv_iload_n hx hb dX1_would_28 rfl (lv_at hl 3 rfl) ?_
      refine lv_iconst (v := (-1)) hx hb dX1_would_29 (by decide) ?_
      refine lv_icmp_eq (tgt := 47) hx hb dX1_would_30 (by decide) (fun c11 => ?_) (fun c11 => ?_)
      · replace h := fb_it c11 h
        refine lv_aload_n hx hb dX1_would_47 rfl (lv_at hl 0 rfl) ?_
        refine lv_iload_n hx hb dX1_would_48 rfl (lv_at hl 1 rfl) ?_
        refine lv_iload_n hx hb dX1_would_49 rfl (lv_at hl 2 rfl) ?_
        obtain ⟨r13, h12, h⟩ := fb_b1s h
        refine fb_callR (W.runV (As := [.int a1, .int a2]) (rest := []) ⟨hx, hb, hml, hown, hts⟩ (metX1_at l D cI h0 qn qf qw B0 0 ch nt fg wt mi a1 a2 r13 h12) (cwV 2 hts gX1_would_X1_at rfl rfl rfl (by decide +kernel) ⟨Nat.le_of_ble_eq_true rfl, Nat.le_of_ble_eq_true rfl⟩) (fb_preVR (ci := 1) fb_sX1p hP hK hZ hS hAB rfl rfl _) rfl rfl hl.1 rfl (lv_room (Nat.le_of_ble_eq_true rfl)) dX1_would_50 ⟨Nat.le_of_ble_eq_true rfl, Nat.le_of_ble_eq_true rfl⟩) ?_
        refine lv_istore (lv' := [(4, .int r13), (0, .ref h0), (1, .int a1), (2, .int a2), (3, .int a3)]) hx hb dX1_would_53 hl (by decide) rfl (fun ls hl => ?_)
        refine lv_aload_n hx hb dX1_would_55 rfl (lv_at hl 1 rfl) ?_
        refine va_get (D := D) (ci := 1) (v := .ref qn) (C := RX1) (T := TX1) (N := 6) hx hb hts hin0 hown hK hP 0 rfl rfl 2 (by decide) (hts _ w_f9) (fun _ h9 => h9) rfl dX1_would_56 ?_
        refine lv_iconst (v := 4) hx hb dX1_would_59 (by decide) ?_
        refine lv_iload_n hx hb dX1_would_60 rfl (lv_at hl 2 rfl) ?_
        refine lv_imul hx hb dX1_would_61 ?_
        refine lv_iload_n hx hb dX1_would_62 rfl (lv_at hl 3 rfl) ?_
        refine lv_iadd hx hb dX1_would_63 ?_
        refine lv_iload_n hx hb dX1_would_64 rfl (lv_at hl 4 rfl) ?_
        obtain ⟨hi14, h⟩ := fb_cks h
        refine va_iast hx hb hK hP hD hS 1 0 rfl rfl (fb_ixin hi14) dX1_would_65 (fun H locs hP hD hS => ?_)
        have hP : va_P D vwCl (fb_wX1 cI h0 qn qf qw 0 ch (upd nt (((4 : Int32) * a1) + a2).toNatClampNeg a3) fg wt mi) H := hP
        have hD : va_D A (fb_wX1 cI h0 qn qf qw 0 ch (upd nt (((4 : Int32) * a1) + a2).toNatClampNeg a3) fg wt mi) := hD
        refine lv_aload_n hx hb dX1_would_66 rfl (lv_at hl 1 rfl) ?_
        refine lv_iconst (v := 5) hx hb dX1_would_67 (by decide) ?_
        obtain ⟨r16, h15, h⟩ := fb_b1s h
        refine fb_callR (W.runV (As := [.int 5]) (rest := []) ⟨hx, hb, hml, hown, hts⟩ (metX1_all l D cI h0 qn qf qw B0 0 ch (upd nt (((4 : Int32) * a1) + a2).toNatClampNeg a3) fg wt mi 5 r16 h15) (cwV 1 hts gX1_would_X1_all rfl rfl rfl (by decide +kernel) ⟨Nat.le_of_ble_eq_true rfl, Nat.le_of_ble_eq_true rfl⟩) (fb_preVR (ci := 1) fb_sX1p hP hK hZ hS hAB rfl rfl _) rfl rfl hl.1 rfl (lv_room (Nat.le_of_ble_eq_true rfl)) dX1_would_68 ⟨Nat.le_of_ble_eq_true rfl, Nat.le_of_ble_eq_true rfl⟩) ?_
        refine lv_istore (lv' := [(5, .int r16), (4, .int r13), (0, .ref h0), (1, .int a1), (2, .int a2), (3, .int a3)]) hx hb dX1_would_71 hl (by decide) rfl (fun ls hl => ?_)
        refine lv_aload_n hx hb dX1_would_73 rfl (lv_at hl 2 rfl) ?_
        refine va_get (D := D) (ci := 1) (v := .ref qn) (C := RX1) (T := TX1) (N := 6) hx hb hts hin0 hown hK hP 0 rfl rfl 2 (by decide) (hts _ w_f9) (fun _ h9 => h9) rfl dX1_would_74 ?_
        refine lv_iconst (v := 4) hx hb dX1_would_77 (by decide) ?_
        refine lv_iload_n hx hb dX1_would_78 rfl (lv_at hl 3 rfl) ?_
        refine lv_imul hx hb dX1_would_79 ?_
        refine lv_iload_n hx hb dX1_would_80 rfl (lv_at hl 4 rfl) ?_
        refine lv_iadd hx hb dX1_would_81 ?_
        refine lv_iload hx hb dX1_would_82 (lv_at hl 1 rfl) ?_
        refine va_iast hx hb hK hP hD hS 1 0 rfl rfl (fb_ixin hi14) dX1_would_84 (fun H locs hP hD hS => ?_)
        have hP : va_P D vwCl (fb_wX1 cI h0 qn qf qw 0 ch (upd (upd nt (((4 : Int32) * a1) + a2).toNatClampNeg a3) (((4 : Int32) * a1) + a2).toNatClampNeg r13) fg wt mi) H := hP
        have hD : va_D A (fb_wX1 cI h0 qn qf qw 0 ch (upd (upd nt (((4 : Int32) * a1) + a2).toNatClampNeg a3) (((4 : Int32) * a1) + a2).toNatClampNeg r13) fg wt mi) := hD
        refine lv_iload hx hb dX1_would_85 (lv_at hl 0 rfl) ?_
        obtain ⟨e1, e2, e3⟩ := fb_p3 h
        subst e1
        subst e2
        subst e3
        exact W.iret hx hb hr (fun t ht _ => ⟨⟨0, rfl, by rw [ht]; exact hP, hD⟩, hS.F ht⟩) hS.2.2 dX1_would_87
      · replace h := fb_ie c11 h
        refine lv_iload_n hx hb dX1_would_33 rfl (lv_at hl 2 rfl) ?_
        refine lv_iload_n hx hb dX1_would_34 rfl (lv_at hl 3 rfl) ?_
        obtain ⟨r19, h18, h⟩ := fb_b1s h
        refine fb_callR (W.runS (As := [.int a2, .int a3]) (rest := []) ⟨hx, hb, hml, hown, hts⟩ (metX1_isOf l B0 a2 a3 r19 h18) (va_cwS 2 hts gX1_would_X1_isOf rfl rfl rfl (by decide +kernel) ⟨Nat.le_of_ble_eq_true rfl, Nat.le_of_ble_eq_true rfl⟩) (fb_preS fb_sX1p hZ hS hAB _) rfl rfl hl.1 rfl (lv_room (Nat.le_of_ble_eq_true rfl)) dX1_would_35 ⟨Nat.le_of_ble_eq_true rfl, Nat.le_of_ble_eq_true rfl⟩) ?_
        refine lv_if_ne (tgt := 47) hx hb dX1_would_38 (by decide) (fun c20 => ?_) (fun c20 => ?_)
        · replace h := fb_ie c20 h
          refine lv_aload_n hx hb dX1_would_47 rfl (lv_at hl 0 rfl) ?_
          refine lv_iload_n hx hb dX1_would_48 rfl (lv_at hl 1 rfl) ?_
          refine lv_iload_n hx hb dX1_would_49 rfl (lv_at hl 2 rfl) ?_
          obtain ⟨r22, h21, h⟩ := fb_b1s h
          refine fb_callR (W.runV (As := [.int a1, .int a2]) (rest := []) ⟨hx, hb, hml, hown, hts⟩ (metX1_at l D cI h0 qn qf qw B0 0 ch nt fg wt mi a1 a2 r22 h21) (cwV 2 hts gX1_would_X1_at rfl rfl rfl (by decide +kernel) ⟨Nat.le_of_ble_eq_true rfl, Nat.le_of_ble_eq_true rfl⟩) (fb_preVR (ci := 1) fb_sX1p hP hK hZ hS hAB rfl rfl _) rfl rfl hl.1 rfl (lv_room (Nat.le_of_ble_eq_true rfl)) dX1_would_50 ⟨Nat.le_of_ble_eq_true rfl, Nat.le_of_ble_eq_true rfl⟩) ?_
          refine lv_istore (lv' := [(4, .int r22), (0, .ref h0), (1, .int a1), (2, .int a2), (3, .int a3)]) hx hb dX1_would_53 hl (by decide) rfl (fun ls hl => ?_)
          refine lv_aload_n hx hb dX1_would_55 rfl (lv_at hl 1 rfl) ?_
          refine va_get (D := D) (ci := 1) (v := .ref qn) (C := RX1) (T := TX1) (N := 6) hx hb hts hin0 hown hK hP 0 rfl rfl 2 (by decide) (hts _ w_f9) (fun _ h9 => h9) rfl dX1_would_56 ?_
          refine lv_iconst (v := 4) hx hb dX1_would_59 (by decide) ?_
          refine lv_iload_n hx hb dX1_would_60 rfl (lv_at hl 2 rfl) ?_
          refine lv_imul hx hb dX1_would_61 ?_
          refine lv_iload_n hx hb dX1_would_62 rfl (lv_at hl 3 rfl) ?_
          refine lv_iadd hx hb dX1_would_63 ?_
          refine lv_iload_n hx hb dX1_would_64 rfl (lv_at hl 4 rfl) ?_
          obtain ⟨hi23, h⟩ := fb_cks h
          refine va_iast hx hb hK hP hD hS 1 0 rfl rfl (fb_ixin hi23) dX1_would_65 (fun H locs hP hD hS => ?_)
          have hP : va_P D vwCl (fb_wX1 cI h0 qn qf qw 0 ch (upd nt (((4 : Int32) * a1) + a2).toNatClampNeg a3) fg wt mi) H := hP
          have hD : va_D A (fb_wX1 cI h0 qn qf qw 0 ch (upd nt (((4 : Int32) * a1) + a2).toNatClampNeg a3) fg wt mi) := hD
          refine lv_aload_n hx hb dX1_would_66 rfl (lv_at hl 1 rfl) ?_
          refine lv_iconst (v := 5) hx hb dX1_would_67 (by decide) ?_
          obtain ⟨r25, h24, h⟩ := fb_b1s h
          refine fb_callR (W.runV (As := [.int 5]) (rest := []) ⟨hx, hb, hml, hown, hts⟩ (metX1_all l D cI h0 qn qf qw B0 0 ch (upd nt (((4 : Int32) * a1) + a2).toNatClampNeg a3) fg wt mi 5 r25 h24) (cwV 1 hts gX1_would_X1_all rfl rfl rfl (by decide +kernel) ⟨Nat.le_of_ble_eq_true rfl, Nat.le_of_ble_eq_true rfl⟩) (fb_preVR (ci := 1) fb_sX1p hP hK hZ hS hAB rfl rfl _) rfl rfl hl.1 rfl (lv_room (Nat.le_of_ble_eq_true rfl)) dX1_would_68 ⟨Nat.le_of_ble_eq_true rfl, Nat.le_of_ble_eq_true rfl⟩) ?_
          refine lv_istore (lv' := [(5, .int r25), (4, .int r22), (0, .ref h0), (1, .int a1), (2, .int a2), (3, .int a3)]) hx hb dX1_would_71 hl (by decide) rfl (fun ls hl => ?_)
          refine lv_aload_n hx hb dX1_would_73 rfl (lv_at hl 2 rfl) ?_
          refine va_get (D := D) (ci := 1) (v := .ref qn) (C := RX1) (T := TX1) (N := 6) hx hb hts hin0 hown hK hP 0 rfl rfl 2 (by decide) (hts _ w_f9) (fun _ h9 => h9) rfl dX1_would_74 ?_
          refine lv_iconst (v := 4) hx hb dX1_would_77 (by decide) ?_
          refine lv_iload_n hx hb dX1_would_78 rfl (lv_at hl 3 rfl) ?_
          refine lv_imul hx hb dX1_would_79 ?_
          refine lv_iload_n hx hb dX1_would_80 rfl (lv_at hl 4 rfl) ?_
          refine lv_iadd hx hb dX1_would_81 ?_
          refine lv_iload hx hb dX1_would_82 (lv_at hl 1 rfl) ?_
          refine va_iast hx hb hK hP hD hS 1 0 rfl rfl (fb_ixin hi23) dX1_would_84 (fun H locs hP hD hS => ?_)
          have hP : va_P D vwCl (fb_wX1 cI h0 qn qf qw 0 ch (upd (upd nt (((4 : Int32) * a1) + a2).toNatClampNeg a3) (((4 : Int32) * a1) + a2).toNatClampNeg r22) fg wt mi) H := hP
          have hD : va_D A (fb_wX1 cI h0 qn qf qw 0 ch (upd (upd nt (((4 : Int32) * a1) + a2).toNatClampNeg a3) (((4 : Int32) * a1) + a2).toNatClampNeg r22) fg wt mi) := hD
          refine lv_iload hx hb dX1_would_85 (lv_at hl 0 rfl) ?_
          obtain ⟨e1, e2, e3⟩ := fb_p3 h
          subst e1
          subst e2
          subst e3
          exact W.iret hx hb hr (fun t ht _ => ⟨⟨0, rfl, by rw [ht]; exact hP, hD⟩, hS.F ht⟩) hS.2.2 dX1_would_87
        · replace h := fb_it c20 h
          refine lv_aload_n hx hb dX1_would_41 rfl (lv_at hl 0 rfl) ?_
          refine lv_iconst (v := 2) hx hb dX1_would_42 (by decide) ?_
          obtain ⟨r28, th_29, h27, h⟩ := fb_b2s h
          have hPc : va_P D vwCl (fb_wX1 cI h0 qn qf qw 0 ch nt fg wt mi) H := hP.sub [0, 1, 2, 3] rfl
          have hDc : va_D A (fb_wX1 cI h0 qn qf qw 0 ch nt fg wt mi) := hD.sub [0, 1, 2, 3] (by decide) rfl
          have hFc := va_free (wc := fb_wX1 cI h0 qn qf qw 0 ch nt fg wt mi) hD hS hA [0, 1, 2, 3] rfl
          refine fb_callM (va_runV (As := [.int 2]) (rest := []) ⟨hx, hb, hml, hown, hts⟩ (metX1_no l D cI h0 qn qf qw B0 0 ch nt fg wt mi 2 H.size r28 th_29 h27) (cwV 1 hts gX1_would_X1_no rfl rfl rfl (by decide +kernel) ⟨Nat.le_of_ble_eq_true rfl, Nat.le_of_ble_eq_true rfl⟩) (fb_preVM (ci := 1) fb_sX1p hPc hK hDc hZ hS hAB hA rfl rfl _) rfl rfl hl.1 rfl (lv_room (Nat.le_of_ble_eq_true rfl)) dX1_would_43 ⟨Nat.le_of_ble_eq_true rfl, Nat.le_of_ble_eq_true rfl⟩) hS (fun q _ h9 => hFc q h9) hFc (fun _ H1 locs hP1 hD1 hz1 hk1 hS => ?_)
          have hP : va_P D vwCl (fb_wX1 cI h0 qn qf qw th_29 ch nt fg wt mi) H1 := hP1
          have hD : va_D A (fb_wX1 cI h0 qn qf qw th_29 ch nt fg wt mi) := hD1.weaken (fun _ q _ h9 => hFc q.1 h9)
          generalize H1 = H at hP hS
          obtain ⟨e1, e2, e3⟩ := fb_p3 h
          subst e1
          subst e2
          subst e3
          exact W.iret hx hb hr (fun t ht _ => ⟨⟨0, rfl, by rw [ht]; exact hP, hD⟩, hS.F ht⟩) hS.2.2 dX1_would_46
    · replace h := fb_it c10 h
      refine lv_aload_n hx hb dX1_would_22 rfl (lv_at hl 0 rfl) ?_
      refine lv_iconst (v := 1) hx hb dX1_would_23 (by decide) ?_
      obtain ⟨r32, th_33, h31, h⟩ := fb_b2s h
      have hPc : va_P D vwCl (fb_wX1 cI h0 qn qf qw 0 ch nt fg wt mi) H := hP.sub [0, 1, 2, 3] rfl
      have hDc : va_D A (fb_wX1 cI h0 qn qf qw 0 ch nt fg wt mi) := hD.sub [0, 1, 2, 3] (by decide) rfl
      have hFc := va_free (wc := fb_wX1 cI h0 qn qf qw 0 ch nt fg wt mi) hD hS hA [0, 1, 2, 3] rfl
      refine fb_callM (va_runV (As := [.int 1]) (rest := []) ⟨hx, hb, hml, hown, hts⟩ (metX1_no l D cI h0 qn qf qw B0 0 ch nt fg wt mi 1 H.size r32 th_33 h31) (cwV 1 hts gX1_would_X1_no rfl rfl rfl (by decide +kernel) ⟨Nat.le_of_ble_eq_true rfl, Nat.le_of_ble_eq_true rfl⟩) (fb_preVM (ci := 1) fb_sX1p hPc hK hDc hZ hS hAB hA rfl rfl _) rfl rfl hl.1 rfl (lv_room (Nat.le_of_ble_eq_true rfl)) dX1_would_24 ⟨Nat.le_of_ble_eq_true rfl, Nat.le_of_ble_eq_true rfl⟩) hS (fun q _ h9 => hFc q h9) hFc (fun _ H1 locs hP1 hD1 hz1 hk1 hS => ?_)
      have hP : va_P D vwCl (fb_wX1 cI h0 qn qf qw th_33 ch nt fg wt mi) H1 := hP1
      have hD : va_D A (fb_wX1 cI h0 qn qf qw th_33 ch nt fg wt mi) := hD1.weaken (fun _ q _ h9 => hFc q.1 h9)
      generalize H1 = H at hP hS
      obtain ⟨e1, e2, e3⟩ := fb_p3 h
      subst e1
      subst e2
      subst e3
      exact W.iret hx hb hr (fun t ht _ => ⟨⟨0, rfl, by rw [ht]; exact hP, hD⟩, hS.F ht⟩) hS.2.2 dX1_would_27
abbrev rmX1_best : Room := { frames := 6, cells := 2, slots := 6, locals := 145 }
set_option maxHeartbeats 8000000 in
set_option maxRecDepth 100000 in
theorem metX1_best (l : Launch) (D : va_G) (cI : ClassId) (h0 qn qf qw B0 : Nat) (th : Int32) (ch : Int32) (nt : Nat → Int32) (fg : Nat → Int32) (wt : Nat → Int32) (mi : Int32) (a1 : Int32) (hz : Nat) (ro : Int32) (tho : Int32) (nto : Nat → Int32) (h : fX1_best th ch nt fg wt mi a1 = some (ro, tho, nto)) : Met l yX1_best wsX1_best rmX1_best (va_Pc [.ref h0, .int a1] (fb_pm D [(cI, .int)] B0 fb_sX1 (fb_wX1 cI h0 qn qf qw th ch nt fg wt mi) hz)) (fb_qM (fun q => some (.int ro)) (fun q => fb_wX1 cI h0 qn qf qw tho ch nto fg wt mi) D (va_A (fb_wX1 cI h0 qn qf qw th ch nt fg wt mi) hz)) 2 6 (va_A (fb_wX1 cI h0 qn qf qw th ch nt fg wt mi) hz) := by
  refine Met.ofW (cc := cX1_best) (maxL := 2) (ret := (some .int)) (by decide) rfl ?_
  intro p e s m args below meth c s₁ B hml hv
  obtain ⟨rfl, hsz, ⟨hP, hK, hZ⟩, hD0, hAB⟩ := hv
  have hx := B.exec
  have hb := B.bytes
  have hr := B.returns
  have hts := atoms_spec (ws := wsX1_best) B.pre
  have hown : s.vm.findClass RX1 = some m.cls := findClass_of_methodNamed B.named
  have hlocks := B.notSynchronized
  subst hsz
  have hD := hD0.self (sz := s.heap.size)
  generalize hAe : va_A (fb_wX1 cI h0 qn qf qw th ch nt fg wt mi) s.heap.size = A at hD hAB ⊢
  have hA : ∀ q : Nat, s.heap.size ≤ q → A q := fun q h9 => by rw [← hAe]; exact Or.inr h9
  have hS : va_S A s.heap s.heap [] := va_S.rf
  have hP : va_P D vwCl (fb_wX1 cI h0 qn qf qw th ch nt fg wt mi) s.heap := hP
  have hin0 : ∀ w ∈ u_ws RX1 TX1 6, w ∈ wsX1_best := fun _ h9 => List.mem_cons_of_mem _ (List.mem_append_right _ (h9))
  have w_f19 : (Cond.fieldLink RX1 19 "FiguredBassModel" "thrown" "I") ∈ wsX1_best := List.mem_of_getElem? (i := 1) rfl
  have hl := lv_entry ([.ref h0, .int a1]) (n := 2) (Nat.le_of_ble_eq_true rfl)
  rw [lg_entry_eq]
  generalize (lg_sl ([.ref h0, .int a1]) ++ List.replicate (2 - (lg_sl ([.ref h0, .int a1])).length) Slot.unset).toArray = ls at hl ⊢
  have hl : lv_has ls 2 [(0, .ref h0), (1, .int a1)] := hl
  suffices K : ∀ (H : Heap) (locs : List Loc), va_P D vwCl (fb_wX1 cI h0 qn qf qw th ch nt fg wt mi) H → va_S A s.heap H locs → W p l e (headSpec wsX1_best rmX1_best).room s m ([.ref h0, .int a1] : List Value).toArray below meth c H locs 0 0 (MQ below (fb_qM (fun q => some (.int ro)) (fun q => fb_wX1 cI h0 qn qf qw tho ch nto fg wt mi) D A) ([.ref h0, .int a1] : List Value).toArray s 2 6 A) (F0 m 0 ls []) from K s.heap [] hP hS
  intro H locs hP hS
  unfold fX1_best at h
  refine lv_aload_n hx hb dX1_best_0 rfl (lv_at hl 0 rfl) ?_
  refine lv_iconst (v := 0) hx hb dX1_best_1 (by decide) ?_
  refine va_put (D := D) (ci := 1) (v := .int 0) (ty := .int) (C := RX1) (T := TX1) (N := 6) hx hb hts hin0 tyX1 tyX1_ok nmX1 hown hK hP hD hS 0 rfl rfl 0 (by decide) (hts _ w_f19) (fun _ h9 => h9) rfl (by decide +kernel) rfl rfl (Nat.le_of_ble_eq_true rfl) dX1_best_2 (fun H locs hP hD hS => ?_)
  have hP : va_P D vwCl (fb_wX1 cI h0 qn qf qw 0 ch nt fg wt mi) H := hP
  have hD : va_D A (fb_wX1 cI h0 qn qf qw 0 ch nt fg wt mi) := hD
  refine lv_aload_n hx hb dX1_best_5 rfl (lv_at hl 0 rfl) ?_
  refine lv_iload_n hx hb dX1_best_6 rfl (lv_at hl 1 rfl) ?_
  obtain ⟨r2, h1, h⟩ := fb_b1s h
  refine fb_callR (W.runV (As := [.int a1]) (rest := []) ⟨hx, hb, hml, hown, hts⟩ (metX1_isChord l D cI h0 qn qf qw B0 0 ch nt fg wt mi a1 r2 h1) (cwV 1 hts gX1_best_X1_isChord rfl rfl rfl (by decide +kernel) ⟨Nat.le_of_ble_eq_true rfl, Nat.le_of_ble_eq_true rfl⟩) (fb_preVR (ci := 1) fb_sX1p hP hK hZ hS hAB rfl rfl _) rfl rfl hl.1 rfl (lv_room (Nat.le_of_ble_eq_true rfl)) dX1_best_7 ⟨Nat.le_of_ble_eq_true rfl, Nat.le_of_ble_eq_true rfl⟩) ?_
  refine lv_if_eq (tgt := 23) hx hb dX1_best_10 (by decide) (fun c3 => ?_) (fun c3 => ?_)
  · replace h := fb_it c3 h
    refine lv_aload_n hx hb dX1_best_23 rfl (lv_at hl 0 rfl) ?_
    refine lv_iconst (v := 1) hx hb dX1_best_24 (by decide) ?_
    obtain ⟨r5, th_6, h4, h⟩ := fb_b2s h
    have hPc : va_P D vwCl (fb_wX1 cI h0 qn qf qw 0 ch nt fg wt mi) H := hP.sub [0, 1, 2, 3] rfl
    have hDc : va_D A (fb_wX1 cI h0 qn qf qw 0 ch nt fg wt mi) := hD.sub [0, 1, 2, 3] (by decide) rfl
    have hFc := va_free (wc := fb_wX1 cI h0 qn qf qw 0 ch nt fg wt mi) hD hS hA [0, 1, 2, 3] rfl
    refine fb_callM (va_runV (As := [.int 1]) (rest := []) ⟨hx, hb, hml, hown, hts⟩ (metX1_no l D cI h0 qn qf qw B0 0 ch nt fg wt mi 1 H.size r5 th_6 h4) (cwV 1 hts gX1_best_X1_no rfl rfl rfl (by decide +kernel) ⟨Nat.le_of_ble_eq_true rfl, Nat.le_of_ble_eq_true rfl⟩) (fb_preVM (ci := 1) fb_sX1p hPc hK hDc hZ hS hAB hA rfl rfl _) rfl rfl hl.1 rfl (lv_room (Nat.le_of_ble_eq_true rfl)) dX1_best_25 ⟨Nat.le_of_ble_eq_true rfl, Nat.le_of_ble_eq_true rfl⟩) hS (fun q _ h9 => hFc q h9) hFc (fun _ H1 locs hP1 hD1 hz1 hk1 hS => ?_)
    have hP : va_P D vwCl (fb_wX1 cI h0 qn qf qw th_6 ch nt fg wt mi) H1 := hP1
    have hD : va_D A (fb_wX1 cI h0 qn qf qw th_6 ch nt fg wt mi) := hD1.weaken (fun _ q _ h9 => hFc q.1 h9)
    generalize H1 = H at hP hS
    obtain ⟨e1, e2, e3⟩ := fb_p3 h
    subst e1
    subst e2
    subst e3
    refine W.widen (k := 2) (n := 6) (by first | decide | omega) (by first | decide | omega) ?_
    exact W.iret hx hb hr (fun t ht _ => ⟨⟨0, rfl, by rw [ht]; exact hP, hD⟩, hS.F ht⟩) hS.2.2 dX1_best_28
  · replace h := fb_ie c3 h
    refine lv_aload_n hx hb dX1_best_13 rfl (lv_at hl 0 rfl) ?_
    refine lv_iload_n hx hb dX1_best_14 rfl (lv_at hl 1 rfl) ?_
    obtain ⟨nt_9, f10, h8, h⟩ := fb_b2s h
    have hPc : va_P D vwCl (fb_wX1 cI h0 qn qf qw 0 ch nt fg wt mi) H := hP.sub [0, 1, 2, 3] rfl
    have hDc : va_D A (fb_wX1 cI h0 qn qf qw 0 ch nt fg wt mi) := hD.sub [0, 1, 2, 3] (by decide) rfl
    have hFc := va_free (wc := fb_wX1 cI h0 qn qf qw 0 ch nt fg wt mi) hD hS hA [0, 1, 2, 3] rfl
    refine fb_callM (va_runV (As := [.int a1]) (rest := []) ⟨hx, hb, hml, hown, hts⟩ (metX1_led l D cI h0 qn qf qw B0 0 ch nt fg wt mi a1 H.size nt_9 f10 h8) (cwV 1 hts gX1_best_X1_led rfl rfl rfl (by decide +kernel) ⟨Nat.le_of_ble_eq_true rfl, Nat.le_of_ble_eq_true rfl⟩) (fb_preVM (ci := 1) fb_sX1p hPc hK hDc hZ hS hAB hA rfl rfl _) rfl rfl hl.1 rfl (lv_room (Nat.le_of_ble_eq_true rfl)) dX1_best_15 ⟨Nat.le_of_ble_eq_true rfl, Nat.le_of_ble_eq_true rfl⟩) hS (fun q _ h9 => hFc q h9) hFc (fun q11 H1 locs hP1 hD1 hz1 hk1 hS => ?_)
    have hP : va_P D vwCl (fb_wX1 cI h0 qn qf qw 0 ch nt_9 fg wt mi ++ [(q11, .inl (cI, 3, .inl f10))]) H1 := hP1
    have hD : va_D A (fb_wX1 cI h0 qn qf qw 0 ch nt_9 fg wt mi ++ [(q11, .inl (cI, 3, .inl f10))]) := hD1.weaken (fun _ q _ h9 => hFc q.1 h9)
    generalize H1 = H at hP hS
    refine lv_iconst (v := 0) hx hb dX1_best_18 (by decide) ?_
    refine va_iald hx hb hK hP 4 0 rfl rfl (fb_ixin (by decide)) dX1_best_19 ?_
    refine lv_goto (tgt := 28) hx hb dX1_best_20 (by decide) ?_
    obtain ⟨e1, e2, e3⟩ := fb_p3 h
    subst e1
    subst e2
    subst e3
    have hP : va_P D vwCl (fb_wX1 cI h0 qn qf qw 0 ch nt_9 fg wt mi) H := hP.sub [0, 1, 2, 3] rfl
    have hD : va_D A (fb_wX1 cI h0 qn qf qw 0 ch nt_9 fg wt mi) := hD.sub [0, 1, 2, 3] (by decide) rfl
    exact W.iret hx hb hr (fun t ht _ => ⟨⟨0, rfl, by rw [ht]; exact hP, hD⟩, hS.F ht⟩) hS.2.2 dX1_best_28
abbrev rmX1_advise : Room := { frames := 6, cells := 28, slots := 84, locals := 145 }
set_option maxHeartbeats 8000000 in
set_option maxRecDepth 100000 in
theorem metX1_advise (l : Launch) (D : va_G) (cI : ClassId) (h0 qn qf qw B0 : Nat) (th : Int32) (ch : Int32) (nt : Nat → Int32) (fg : Nat → Int32) (wt : Nat → Int32) (mi : Int32) (a1 : Int32) (hz : Nat) (ro : Int32) (tho : Int32) (nto : Nat → Int32) (fgo : Nat → Int32) (h : fX1_advise th ch nt fg wt mi a1 = some (ro, tho, nto, fgo)) : Met l yX1_advise wsX1_advise rmX1_advise (va_Pc [.ref h0, .int a1] (fb_pm D [(cI, .int)] B0 fb_sX1 (fb_wX1 cI h0 qn qf qw th ch nt fg wt mi) hz)) (fb_qM (fun q => some (.int ro)) (fun q => fb_wX1 cI h0 qn qf qw tho ch nto fgo wt mi) D (va_A (fb_wX1 cI h0 qn qf qw th ch nt fg wt mi) hz)) 28 84 (va_A (fb_wX1 cI h0 qn qf qw th ch nt fg wt mi) hz) := by
  refine Met.ofW (cc := cX1_advise) (maxL := 7) (ret := (some .int)) (by decide) rfl ?_
  intro p e s m args below meth c s₁ B hml hv
  obtain ⟨rfl, hsz, ⟨hP, hK, hZ⟩, hD0, hAB⟩ := hv
  have hx := B.exec
  have hb := B.bytes
  have hr := B.returns
  have hts := atoms_spec (ws := wsX1_advise) B.pre
  have hown : s.vm.findClass RX1 = some m.cls := findClass_of_methodNamed B.named
  have hlocks := B.notSynchronized
  subst hsz
  have hD := hD0.self (sz := s.heap.size)
  generalize hAe : va_A (fb_wX1 cI h0 qn qf qw th ch nt fg wt mi) s.heap.size = A at hD hAB ⊢
  have hA : ∀ q : Nat, s.heap.size ≤ q → A q := fun q h9 => by rw [← hAe]; exact Or.inr h9
  have hS : va_S A s.heap s.heap [] := va_S.rf
  have hP : va_P D vwCl (fb_wX1 cI h0 qn qf qw th ch nt fg wt mi) s.heap := hP
  obtain ⟨t_STEPS, hz_STEPS, ht_STEPS⟩ := fb_stA_narrow hZ.2.2.1 hAB
  have hin0 : ∀ w ∈ u_ws RX1 TX1 6, w ∈ wsX1_advise := fun _ h9 => List.mem_cons_of_mem _ (List.mem_append_right _ (h9))
  have w_f13 : (Cond.fieldLink RX1 13 "FiguredBassModel" "figures" "[I") ∈ wsX1_advise := List.mem_of_getElem? (i := 2) rfl
  have w_f19 : (Cond.fieldLink RX1 19 "FiguredBassModel" "thrown" "I") ∈ wsX1_advise := List.mem_of_getElem? (i := 1) rfl
  have w_f50 : (Cond.fieldLink RX1 50 "FiguredBassModel" "STEPS" "[I") ∈ wsX1_advise := List.mem_of_getElem? (i := 3) rfl
  have hl := lv_entry ([.ref h0, .int a1]) (n := 7) (Nat.le_of_ble_eq_true rfl)
  rw [lg_entry_eq]
  generalize (lg_sl ([.ref h0, .int a1]) ++ List.replicate (7 - (lg_sl ([.ref h0, .int a1])).length) Slot.unset).toArray = ls at hl ⊢
  have hl : lv_has ls 7 [(0, .ref h0), (1, .int a1)] := hl
  suffices K : ∀ (H : Heap) (locs : List Loc), va_P D vwCl (fb_wX1 cI h0 qn qf qw th ch nt fg wt mi) H → va_S A s.heap H locs → W p l e (headSpec wsX1_advise rmX1_advise).room s m ([.ref h0, .int a1] : List Value).toArray below meth c H locs 0 0 (MQ below (fb_qM (fun q => some (.int ro)) (fun q => fb_wX1 cI h0 qn qf qw tho ch nto fgo wt mi) D A) ([.ref h0, .int a1] : List Value).toArray s 28 84 A) (F0 m 0 ls []) from K s.heap [] hP hS
  intro H locs hP hS
  unfold fX1_advise at h
  refine lv_aload_n hx hb dX1_advise_0 rfl (lv_at hl 0 rfl) ?_
  refine lv_iconst (v := 0) hx hb dX1_advise_1 (by decide) ?_
  refine va_put (D := D) (ci := 1) (v := .int 0) (ty := .int) (C := RX1) (T := TX1) (N := 6) hx hb hts hin0 tyX1 tyX1_ok nmX1 hown hK hP hD hS 0 rfl rfl 0 (by decide) (hts _ w_f19) (fun _ h9 => h9) rfl (by decide +kernel) rfl rfl (Nat.le_of_ble_eq_true rfl) dX1_advise_2 (fun H locs hP hD hS => ?_)
  have hP : va_P D vwCl (fb_wX1 cI h0 qn qf qw 0 ch nt fg wt mi) H := hP
  have hD : va_D A (fb_wX1 cI h0 qn qf qw 0 ch nt fg wt mi) := hD
  refine lv_aload_n hx hb dX1_advise_5 rfl (lv_at hl 0 rfl) ?_
  refine lv_iload_n hx hb dX1_advise_6 rfl (lv_at hl 1 rfl) ?_
  obtain ⟨r2, h1, h⟩ := fb_b1s h
  refine fb_callR (W.runV (As := [.int a1]) (rest := []) ⟨hx, hb, hml, hown, hts⟩ (metX1_isChord l D cI h0 qn qf qw B0 0 ch nt fg wt mi a1 r2 h1) (cwV 1 hts gX1_advise_X1_isChord rfl rfl rfl (by decide +kernel) ⟨Nat.le_of_ble_eq_true rfl, Nat.le_of_ble_eq_true rfl⟩) (fb_preVR (ci := 1) fb_sX1p hP hK hZ hS hAB rfl rfl _) rfl rfl hl.1 rfl (lv_room (Nat.le_of_ble_eq_true rfl)) dX1_advise_7 ⟨Nat.le_of_ble_eq_true rfl, Nat.le_of_ble_eq_true rfl⟩) ?_
  refine lv_if_ne (tgt := 19) hx hb dX1_advise_10 (by decide) (fun c3 => ?_) (fun c3 => ?_)
  · replace h := fb_ie c3 h
    refine lv_aload_n hx hb dX1_advise_19 rfl (lv_at hl 0 rfl) ?_
    refine va_get (D := D) (ci := 1) (v := .ref qf) (C := RX1) (T := TX1) (N := 6) hx hb hts hin0 hown hK hP 0 rfl rfl 3 (by decide) (hts _ w_f13) (fun _ h9 => h9) rfl dX1_advise_20 ?_
    refine lv_iload_n hx hb dX1_advise_23 rfl (lv_at hl 1 rfl) ?_
    obtain ⟨hi4, h⟩ := fb_cks h
    refine va_iald hx hb hK hP 2 0 rfl rfl (fb_ixin hi4) dX1_advise_24 ?_
    refine lv_istore_n (lv' := [(2, .int (fg a1.toNatClampNeg)), (0, .ref h0), (1, .int a1)]) hx hb dX1_advise_25 rfl hl (by decide) rfl (fun ls hl => ?_)
    refine lv_iconst (v := (-1)) hx hb dX1_advise_26 (by decide) ?_
    refine lv_istore_n (lv' := [(3, .int (-1)), (2, .int (fg a1.toNatClampNeg)), (0, .ref h0), (1, .int a1)]) hx hb dX1_advise_27 rfl hl (by decide) rfl (fun ls hl => ?_)
    refine lv_iconst (v := 0) hx hb dX1_advise_28 (by decide) ?_
    refine lv_istore (lv' := [(4, .int 0), (3, .int (-1)), (2, .int (fg a1.toNatClampNeg)), (0, .ref h0), (1, .int a1)]) hx hb dX1_advise_29 hl (by decide) rfl (fun ls hl => ?_)
    refine lv_iconst (v := 0) hx hb dX1_advise_31 (by decide) ?_
    refine lv_istore (lv' := [(5, .int 0), (4, .int 0), (3, .int (-1)), (2, .int (fg a1.toNatClampNeg)), (0, .ref h0), (1, .int a1)]) hx hb dX1_advise_32 hl (by decide) rfl (fun ls hl => ?_)
    have LX1_advise_34 : ∀ (n : Nat) (v5 : Int32) (v6 : Int32) (v7 : Int32) (nt_8 : Nat → Int32) (fg_9 : Nat → Int32) (o20 : Int32) (o21 : Int32) (o22 : Int32) (o23 : Nat → Int32) (o24 : Nat → Int32), lpX1_advise_34 a1 ch wt mi n v5 v6 v7 nt_8 fg_9 = some (o20, o21, o22, o23, o24) → ∀ (ce sl : Nat), ce + n * 2 ≤ 28 → sl + n * 6 ≤ 84 → ∀ (H : Heap) (locs : List Loc), va_P D vwCl (fb_wX1 cI h0 qn qf qw 0 ch nt_8 fg_9 wt mi) H → va_D A (fb_wX1 cI h0 qn qf qw 0 ch nt_8 fg_9 wt mi) → va_S A s.heap H locs → ∀ (ls : Array Slot), lv_has ls 7 [(5, .int v5), (4, .int v6), (3, .int v7), (2, .int (fg a1.toNatClampNeg)), (0, .ref h0), (1, .int a1)] → (∀ (H : Heap) (locs : List Loc), va_P D vwCl (fb_wX1 cI h0 qn qf qw 0 ch o23 o24 wt mi) H → va_D A (fb_wX1 cI h0 qn qf qw 0 ch o23 o24 wt mi) → va_S A s.heap H locs → ∀ (ls : Array Slot), lv_has ls 7 [(5, .int o20), (4, .int o21), (3, .int o22), (2, .int (fg a1.toNatClampNeg)), (0, .ref h0), (1, .int a1)] → W p l e (headSpec wsX1_advise rmX1_advise).room s m ([.ref h0, .int a1] : List Value).toArray below meth c H locs 28 84 (MQ below (fb_qM (fun q => some (.int ro)) (fun q => fb_wX1 cI h0 qn qf qw tho ch nto fgo wt mi) D A) ([.ref h0, .int a1] : List Value).toArray s 28 84 A) (F0 m 98 ls [])) → W p l e (headSpec wsX1_advise rmX1_advise).room s m ([.ref h0, .int a1] : List Value).toArray below meth c H locs ce sl (MQ below (fb_qM (fun q => some (.int ro)) (fun q => fb_wX1 cI h0 qn qf qw tho ch nto fgo wt mi) D A) ([.ref h0, .int a1] : List Value).toArray s 28 84 A) (F0 m 34 ls []) := by
      intro n
      induction n with
      | zero =>
        intro v5 v6 v7 nt_8 fg_9 o20 o21 o22 o23 o24 h
        rw [lpX1_advise_34.eq_1] at h
        cases h
      | succ n ih =>
        intro v5 v6 v7 nt_8 fg_9 o20 o21 o22 o23 o24 h ce sl hce hsl H locs hP hD hS ls hl kx
        rw [lpX1_advise_34.eq_2] at h
        refine lv_iload hx hb dX1_advise_34 (lv_at hl 0 rfl) ?_
        refine va_gets hx hb hz_STEPS hS hown (hts _ w_f50) (fun _ h9 => h9) dX1_advise_36 ?_
        refine va_tlen hx hb ht_STEPS hS (v := 6) (by decide) dX1_advise_39 ?_
        refine lv_icmp_ge (tgt := 98) hx hb dX1_advise_40 (by decide) (fun c10 => ?_) (fun c10 => ?_)
        · replace h := fb_it c10 h
          obtain ⟨e1, e2, e3, e4, e5⟩ := fb_p5 h
          subst e1
          subst e2
          subst e3
          subst e4
          subst e5
          refine W.widen (k := 28) (n := 84) (by omega) (by omega) ?_
          exact kx H locs hP hD hS ls (lv_sub hl [0, 1, 2, 3, 4, 5] rfl)
        · replace h := fb_ie c10 h
          refine lv_aload_n hx hb dX1_advise_43 rfl (lv_at hl 4 rfl) ?_
          refine va_get (D := D) (ci := 1) (v := .ref qf) (C := RX1) (T := TX1) (N := 6) hx hb hts hin0 hown hK hP 0 rfl rfl 3 (by decide) (hts _ w_f13) (fun _ h9 => h9) rfl dX1_advise_44 ?_
          refine lv_iload_n hx hb dX1_advise_47 rfl (lv_at hl 5 rfl) ?_
          refine lv_iload hx hb dX1_advise_48 (lv_at hl 0 rfl) ?_
          refine va_iast hx hb hK hP hD hS 2 0 rfl rfl (fb_ixin hi4) dX1_advise_50 (fun H locs hP hD hS => ?_)
          have hP : va_P D vwCl (fb_wX1 cI h0 qn qf qw 0 ch nt_8 (upd fg_9 a1.toNatClampNeg v5) wt mi) H := hP
          have hD : va_D A (fb_wX1 cI h0 qn qf qw 0 ch nt_8 (upd fg_9 a1.toNatClampNeg v5) wt mi) := hD
          refine lv_aload_n hx hb dX1_advise_51 rfl (lv_at hl 4 rfl) ?_
          refine lv_iload_n hx hb dX1_advise_52 rfl (lv_at hl 5 rfl) ?_
          obtain ⟨nt_12, f13, h11, h⟩ := fb_b2s h
          have hPc : va_P D vwCl (fb_wX1 cI h0 qn qf qw 0 ch nt_8 (upd fg_9 a1.toNatClampNeg v5) wt mi) H := hP.sub [0, 1, 2, 3] rfl
          have hDc : va_D A (fb_wX1 cI h0 qn qf qw 0 ch nt_8 (upd fg_9 a1.toNatClampNeg v5) wt mi) := hD.sub [0, 1, 2, 3] (by decide) rfl
          have hFc := va_free (wc := fb_wX1 cI h0 qn qf qw 0 ch nt_8 (upd fg_9 a1.toNatClampNeg v5) wt mi) hD hS hA [0, 1, 2, 3] rfl
          refine fb_callM (va_runV (As := [.int a1]) (rest := []) ⟨hx, hb, hml, hown, hts⟩ (metX1_led l D cI h0 qn qf qw B0 0 ch nt_8 (upd fg_9 a1.toNatClampNeg v5) wt mi a1 H.size nt_12 f13 h11) (cwV 1 hts gX1_advise_X1_led rfl rfl rfl (by decide +kernel) ⟨Nat.le_of_ble_eq_true rfl, Nat.le_of_ble_eq_true rfl⟩) (fb_preVM (ci := 1) fb_sX1p hPc hK hDc hZ hS hAB hA rfl rfl _) rfl rfl hl.1 rfl (lv_room (Nat.le_of_ble_eq_true rfl)) dX1_advise_53 ⟨(show ce + 0 + 2 ≤ 28 by omega), (show sl + 0 + 6 ≤ 84 by omega)⟩) hS (fun q _ h9 => hFc q h9) hFc (fun q14 H1 locs hP1 hD1 hz1 hk1 hS => ?_)
          have hP : va_P D vwCl (fb_wX1 cI h0 qn qf qw 0 ch nt_12 (upd fg_9 a1.toNatClampNeg v5) wt mi ++ [(q14, .inl (cI, 3, .inl f13))]) H1 := hP1
          have hD : va_D A (fb_wX1 cI h0 qn qf qw 0 ch nt_12 (upd fg_9 a1.toNatClampNeg v5) wt mi ++ [(q14, .inl (cI, 3, .inl f13))]) := hD1.weaken (fun _ q _ h9 => hFc q.1 h9)
          generalize H1 = H at hP hS
          refine lv_astore (lv' := [(6, .ref q14), (5, .int v5), (4, .int v6), (3, .int v7), (2, .int (fg a1.toNatClampNeg)), (0, .ref h0), (1, .int a1)]) hx hb dX1_advise_56 hl (by decide) rfl (fun ls hl => ?_)
          refine lv_aload hx hb dX1_advise_58 (lv_at hl 0 rfl) ?_
          refine lv_iconst (v := 0) hx hb dX1_advise_60 (by decide) ?_
          refine va_iald hx hb hK hP 4 0 rfl rfl (fb_ixin (by decide)) dX1_advise_61 ?_
          refine lv_iconst (v := (-1)) hx hb dX1_advise_62 (by decide) ?_
          obtain ⟨j18, j19, hjJ1, h⟩ := fb_b2s h
          have J1 : ∀ (H : Heap) (locs : List Loc), va_P D vwCl (fb_wX1 cI h0 qn qf qw 0 ch nt_12 (upd fg_9 a1.toNatClampNeg v5) wt mi ++ [(q14, .inl (cI, 3, .inl f13))]) H → va_D A (fb_wX1 cI h0 qn qf qw 0 ch nt_12 (upd fg_9 a1.toNatClampNeg v5) wt mi ++ [(q14, .inl (cI, 3, .inl f13))]) → va_S A s.heap H locs → ∀ (ls : Array Slot), lv_has ls 7 [(5, .int v5), (4, .int j18), (3, .int j19), (2, .int (fg a1.toNatClampNeg)), (0, .ref h0), (1, .int a1)] → W p l e (headSpec wsX1_advise rmX1_advise).room s m ([.ref h0, .int a1] : List Value).toArray below meth c H locs (ce + 2) (sl + 6) (MQ below (fb_qM (fun q => some (.int ro)) (fun q => fb_wX1 cI h0 qn qf qw tho ch nto fgo wt mi) D A) ([.ref h0, .int a1] : List Value).toArray s 28 84 A) (F0 m 92 ls []) := by
            intro H locs hP hD hS ls hl
            refine lv_iinc (v := v5 + 1) (lv' := [(5, .int (v5 + 1)), (4, .int j18), (3, .int j19), (2, .int (fg a1.toNatClampNeg)), (0, .ref h0), (1, .int a1)]) hx hb dX1_advise_92 hl (k := 0) rfl rfl (by decide) rfl (fun ls hl => ?_)
            refine lv_goto (tgt := 34) hx hb dX1_advise_95 (by decide) ?_
            have hP : va_P D vwCl (fb_wX1 cI h0 qn qf qw 0 ch nt_12 (upd fg_9 a1.toNatClampNeg v5) wt mi) H := hP.sub [0, 1, 2, 3] rfl
            have hD : va_D A (fb_wX1 cI h0 qn qf qw 0 ch nt_12 (upd fg_9 a1.toNatClampNeg v5) wt mi) := hD.sub [0, 1, 2, 3] (by decide) rfl
            refine W.widen (k := ce + 2) (n := sl + 6) (by omega) (by omega) ?_
            exact ih _ _ _ _ _ o20 o21 o22 o23 o24 h _ _ (by omega) (by omega) H locs hP hD hS ls (lv_sub hl [0, 1, 2, 3, 4, 5] rfl) kx
          replace h := hjJ1
          refine lv_icmp_eq (tgt := 92) hx hb dX1_advise_63 (by decide) (fun c15 => ?_) (fun c15 => ?_)
          · replace h := fb_it c15 h
            obtain ⟨e1, e2⟩ := fb_p2 h
            subst e1
            subst e2
            exact J1 H locs hP hD hS ls (lv_sub hl [1, 2, 3, 4, 5, 6] rfl)
          · replace h := fb_ie c15 h
            refine lv_iload_n hx hb dX1_advise_66 rfl (lv_at hl 3 rfl) ?_
            refine lv_iconst (v := (-1)) hx hb dX1_advise_67 (by decide) ?_
            refine lv_icmp_eq (tgt := 83) hx hb dX1_advise_68 (by decide) (fun c16 => ?_) (fun c16 => ?_)
            · replace h := fb_it c16 h
              refine lv_iload hx hb dX1_advise_83 (lv_at hl 1 rfl) ?_
              refine lv_istore_n (lv' := [(3, .int v5), (6, .ref q14), (5, .int v5), (4, .int v6), (2, .int (fg a1.toNatClampNeg)), (0, .ref h0), (1, .int a1)]) hx hb dX1_advise_85 rfl hl (by decide) rfl (fun ls hl => ?_)
              refine lv_aload hx hb dX1_advise_86 (lv_at hl 1 rfl) ?_
              refine lv_iconst (v := 1) hx hb dX1_advise_88 (by decide) ?_
              refine va_iald hx hb hK hP 4 0 rfl rfl (fb_ixin (by decide)) dX1_advise_89 ?_
              refine lv_istore (lv' := [(4, .int (f13 (1 : Int32).toNatClampNeg)), (3, .int v5), (6, .ref q14), (5, .int v5), (2, .int (fg a1.toNatClampNeg)), (0, .ref h0), (1, .int a1)]) hx hb dX1_advise_90 hl (by decide) rfl (fun ls hl => ?_)
              obtain ⟨e1, e2⟩ := fb_p2 h
              subst e1
              subst e2
              exact J1 H locs hP hD hS ls (lv_sub hl [3, 0, 1, 4, 5, 6] rfl)
            · replace h := fb_ie c16 h
              refine lv_aload hx hb dX1_advise_71 (lv_at hl 0 rfl) ?_
              refine lv_iconst (v := 1) hx hb dX1_advise_73 (by decide) ?_
              refine va_iald hx hb hK hP 4 0 rfl rfl (fb_ixin (by decide)) dX1_advise_74 ?_
              refine lv_iload hx hb dX1_advise_75 (lv_at hl 2 rfl) ?_
              refine lv_icmp_lt (tgt := 83) hx hb dX1_advise_77 (by decide) (fun c17 => ?_) (fun c17 => ?_)
              · replace h := fb_it c17 h
                refine lv_iload hx hb dX1_advise_83 (lv_at hl 1 rfl) ?_
                refine lv_istore_n (lv' := [(3, .int v5), (6, .ref q14), (5, .int v5), (4, .int v6), (2, .int (fg a1.toNatClampNeg)), (0, .ref h0), (1, .int a1)]) hx hb dX1_advise_85 rfl hl (by decide) rfl (fun ls hl => ?_)
                refine lv_aload hx hb dX1_advise_86 (lv_at hl 1 rfl) ?_
                refine lv_iconst (v := 1) hx hb dX1_advise_88 (by decide) ?_
                refine va_iald hx hb hK hP 4 0 rfl rfl (fb_ixin (by decide)) dX1_advise_89 ?_
                refine lv_istore (lv' := [(4, .int (f13 (1 : Int32).toNatClampNeg)), (3, .int v5), (6, .ref q14), (5, .int v5), (2, .int (fg a1.toNatClampNeg)), (0, .ref h0), (1, .int a1)]) hx hb dX1_advise_90 hl (by decide) rfl (fun ls hl => ?_)
                obtain ⟨e1, e2⟩ := fb_p2 h
                subst e1
                subst e2
                exact J1 H locs hP hD hS ls (lv_sub hl [3, 0, 1, 4, 5, 6] rfl)
              · replace h := fb_ie c17 h
                refine lv_goto (tgt := 92) hx hb dX1_advise_80 (by decide) ?_
                obtain ⟨e1, e2⟩ := fb_p2 h
                subst e1
                subst e2
                exact J1 H locs hP hD hS ls (lv_sub hl [1, 2, 3, 4, 5, 6] rfl)
    obtain ⟨o20, o21, o22, o23, o24, h26, h⟩ := fb_b5s h
    refine LX1_advise_34 _ _ _ _ _ _ o20 o21 o22 o23 o24 h26 _ _ (by decide) (by decide) H locs hP hD hS ls (lv_sub hl [0, 1, 2, 3, 4, 5] rfl) (fun H locs hP hD hS ls hl => ?_)
    refine lv_aload_n hx hb dX1_advise_98 rfl (lv_at hl 4 rfl) ?_
    refine va_get (D := D) (ci := 1) (v := .ref qf) (C := RX1) (T := TX1) (N := 6) hx hb hts hin0 hown hK hP 0 rfl rfl 3 (by decide) (hts _ w_f13) (fun _ h9 => h9) rfl dX1_advise_99 ?_
    refine lv_iload_n hx hb dX1_advise_102 rfl (lv_at hl 5 rfl) ?_
    refine lv_iload_n hx hb dX1_advise_103 rfl (lv_at hl 3 rfl) ?_
    refine va_iast hx hb hK hP hD hS 2 0 rfl rfl (fb_ixin hi4) dX1_advise_104 (fun H locs hP hD hS => ?_)
    have hP : va_P D vwCl (fb_wX1 cI h0 qn qf qw 0 ch o23 (upd o24 a1.toNatClampNeg (fg a1.toNatClampNeg)) wt mi) H := hP
    have hD : va_D A (fb_wX1 cI h0 qn qf qw 0 ch o23 (upd o24 a1.toNatClampNeg (fg a1.toNatClampNeg)) wt mi) := hD
    refine lv_iload_n hx hb dX1_advise_105 rfl (lv_at hl 2 rfl) ?_
    obtain ⟨e1, e2, e3, e4⟩ := fb_p4 h
    subst e1
    subst e2
    subst e3
    subst e4
    exact W.iret hx hb hr (fun t ht _ => ⟨⟨0, rfl, by rw [ht]; exact hP, hD⟩, hS.F ht⟩) hS.2.2 dX1_advise_106
  · replace h := fb_it c3 h
    refine lv_aload_n hx hb dX1_advise_13 rfl (lv_at hl 0 rfl) ?_
    refine lv_iconst (v := 1) hx hb dX1_advise_14 (by decide) ?_
    obtain ⟨r28, th_29, h27, h⟩ := fb_b2s h
    have hPc : va_P D vwCl (fb_wX1 cI h0 qn qf qw 0 ch nt fg wt mi) H := hP.sub [0, 1, 2, 3] rfl
    have hDc : va_D A (fb_wX1 cI h0 qn qf qw 0 ch nt fg wt mi) := hD.sub [0, 1, 2, 3] (by decide) rfl
    have hFc := va_free (wc := fb_wX1 cI h0 qn qf qw 0 ch nt fg wt mi) hD hS hA [0, 1, 2, 3] rfl
    refine fb_callM (va_runV (As := [.int 1]) (rest := []) ⟨hx, hb, hml, hown, hts⟩ (metX1_no l D cI h0 qn qf qw B0 0 ch nt fg wt mi 1 H.size r28 th_29 h27) (cwV 1 hts gX1_advise_X1_no rfl rfl rfl (by decide +kernel) ⟨Nat.le_of_ble_eq_true rfl, Nat.le_of_ble_eq_true rfl⟩) (fb_preVM (ci := 1) fb_sX1p hPc hK hDc hZ hS hAB hA rfl rfl _) rfl rfl hl.1 rfl (lv_room (Nat.le_of_ble_eq_true rfl)) dX1_advise_15 ⟨Nat.le_of_ble_eq_true rfl, Nat.le_of_ble_eq_true rfl⟩) hS (fun q _ h9 => hFc q h9) hFc (fun _ H1 locs hP1 hD1 hz1 hk1 hS => ?_)
    have hP : va_P D vwCl (fb_wX1 cI h0 qn qf qw th_29 ch nt fg wt mi) H1 := hP1
    have hD : va_D A (fb_wX1 cI h0 qn qf qw th_29 ch nt fg wt mi) := hD1.weaken (fun _ q _ h9 => hFc q.1 h9)
    generalize H1 = H at hP hS
    obtain ⟨e1, e2, e3, e4⟩ := fb_p4 h
    subst e1
    subst e2
    subst e3
    subst e4
    refine W.widen (k := 28) (n := 84) (by first | decide | omega) (by first | decide | omega) ?_
    exact W.iret hx hb hr (fun t ht _ => ⟨⟨0, rfl, by rw [ht]; exact hP, hD⟩, hS.F ht⟩) hS.2.2 dX1_advise_18
abbrev rmX1_digest : Room := { frames := 8, cells := 28, slots := 84, locals := 184 }
set_option maxHeartbeats 8000000 in
set_option maxRecDepth 100000 in
theorem metX1_digest (l : Launch) (D : va_G) (cI : ClassId) (h0 qn qf qw B0 : Nat) (th : Int32) (ch : Int32) (nt : Nat → Int32) (fg : Nat → Int32) (wt : Nat → Int32) (mi : Int32) (hz : Nat) (ro : Int64) (tho : Int32) (nto : Nat → Int32) (h : fX1_digest th ch nt fg wt mi = some (ro, tho, nto)) : Met l yX1_digest wsX1_digest rmX1_digest (va_Pc [.ref h0] (fb_pm D [(cI, .int)] B0 fb_sX1 (fb_wX1 cI h0 qn qf qw th ch nt fg wt mi) hz)) (fb_qM (fun q => some (.long ro)) (fun q => fb_wX1 cI h0 qn qf qw tho ch nto fg wt mi) D (va_A (fb_wX1 cI h0 qn qf qw th ch nt fg wt mi) hz)) 28 84 (va_A (fb_wX1 cI h0 qn qf qw th ch nt fg wt mi) hz) := by
  refine Met.ofW (cc := cX1_digest) (maxL := 7) (ret := (some .long)) (by decide) rfl ?_
  intro p e s m args below meth c s₁ B hml hv
  obtain ⟨rfl, hsz, ⟨hP, hK, hZ⟩, hD0, hAB⟩ := hv
  have hx := B.exec
  have hb := B.bytes
  have hr := B.returns
  have hts := atoms_spec (ws := wsX1_digest) B.pre
  have hown : s.vm.findClass RX1 = some m.cls := findClass_of_methodNamed B.named
  have hlocks := B.notSynchronized
  subst hsz
  have hD := hD0.self (sz := s.heap.size)
  generalize hAe : va_A (fb_wX1 cI h0 qn qf qw th ch nt fg wt mi) s.heap.size = A at hD hAB ⊢
  have hA : ∀ q : Nat, s.heap.size ≤ q → A q := fun q h9 => by rw [← hAe]; exact Or.inr h9
  have hS : va_S A s.heap s.heap [] := va_S.rf
  have hP : va_P D vwCl (fb_wX1 cI h0 qn qf qw th ch nt fg wt mi) s.heap := hP
  have hin0 : ∀ w ∈ u_ws RX1 TX1 6, w ∈ wsX1_digest := fun _ h9 => List.mem_cons_of_mem _ (List.mem_append_right _ (h9))
  have w_f16 : (Cond.fieldLink RX1 16 "FiguredBassModel" "weights" "[I") ∈ wsX1_digest := List.mem_of_getElem? (i := 4) rfl
  have w_f19 : (Cond.fieldLink RX1 19 "FiguredBassModel" "thrown" "I") ∈ wsX1_digest := List.mem_of_getElem? (i := 1) rfl
  have w_f23 : (Cond.fieldLink RX1 23 "FiguredBassModel" "chords" "I") ∈ wsX1_digest := List.mem_of_getElem? (i := 5) rfl
  have w_k143 : (Cond.constantLong RX1 143 (1693)) ∈ wsX1_digest := List.mem_of_getElem? (i := 2) rfl
  have w_k145 : (Cond.constantLong RX1 145 (31)) ∈ wsX1_digest := List.mem_of_getElem? (i := 3) rfl
  have hl := lv_entry ([.ref h0]) (n := 7) (Nat.le_of_ble_eq_true rfl)
  rw [lg_entry_eq]
  generalize (lg_sl ([.ref h0]) ++ List.replicate (7 - (lg_sl ([.ref h0])).length) Slot.unset).toArray = ls at hl ⊢
  have hl : lv_has ls 7 [(0, .ref h0)] := hl
  suffices K : ∀ (H : Heap) (locs : List Loc), va_P D vwCl (fb_wX1 cI h0 qn qf qw th ch nt fg wt mi) H → va_S A s.heap H locs → W p l e (headSpec wsX1_digest rmX1_digest).room s m ([.ref h0] : List Value).toArray below meth c H locs 0 0 (MQ below (fb_qM (fun q => some (.long ro)) (fun q => fb_wX1 cI h0 qn qf qw tho ch nto fg wt mi) D A) ([.ref h0] : List Value).toArray s 28 84 A) (F0 m 0 ls []) from K s.heap [] hP hS
  intro H locs hP hS
  unfold fX1_digest at h
  refine lv_aload_n hx hb dX1_digest_0 rfl (lv_at hl 0 rfl) ?_
  refine lv_iconst (v := 0) hx hb dX1_digest_1 (by decide) ?_
  refine va_put (D := D) (ci := 1) (v := .int 0) (ty := .int) (C := RX1) (T := TX1) (N := 6) hx hb hts hin0 tyX1 tyX1_ok nmX1 hown hK hP hD hS 0 rfl rfl 0 (by decide) (hts _ w_f19) (fun _ h9 => h9) rfl (by decide +kernel) rfl rfl (Nat.le_of_ble_eq_true rfl) dX1_digest_2 (fun H locs hP hD hS => ?_)
  have hP : va_P D vwCl (fb_wX1 cI h0 qn qf qw 0 ch nt fg wt mi) H := hP
  have hD : va_D A (fb_wX1 cI h0 qn qf qw 0 ch nt fg wt mi) := hD
  refine lv_ldc2 hx hb hown (hts _ w_k143) dX1_digest_5 ?_
  refine lv_lstore_n (lv' := [(1, .long 1693), (0, .ref h0)]) hx hb dX1_digest_8 rfl hl (by decide) rfl (fun ls hl => ?_)
  refine lv_iconst (v := 0) hx hb dX1_digest_9 (by decide) ?_
  refine lv_istore_n (lv' := [(3, .int 0), (1, .long 1693), (0, .ref h0)]) hx hb dX1_digest_10 rfl hl (by decide) rfl (fun ls hl => ?_)
  have LX1_digest_11 : ∀ (n : Nat) (v1 : Int32) (v2 : Int64) (o6 : Int32) (o7 : Int64), lpX1_digest_11 ch nt fg wt mi n v1 v2 = some (o6, o7) → ∀ (H : Heap) (locs : List Loc), va_P D vwCl (fb_wX1 cI h0 qn qf qw 0 ch nt fg wt mi) H → va_D A (fb_wX1 cI h0 qn qf qw 0 ch nt fg wt mi) → va_S A s.heap H locs → ∀ (ls : Array Slot), lv_has ls 7 [(3, .int v1), (1, .long v2), (0, .ref h0)] → (∀ (H : Heap) (locs : List Loc), va_P D vwCl (fb_wX1 cI h0 qn qf qw 0 ch nt fg wt mi) H → va_D A (fb_wX1 cI h0 qn qf qw 0 ch nt fg wt mi) → va_S A s.heap H locs → ∀ (ls : Array Slot), lv_has ls 7 [(3, .int o6), (1, .long o7), (0, .ref h0)] → W p l e (headSpec wsX1_digest rmX1_digest).room s m ([.ref h0] : List Value).toArray below meth c H locs 0 0 (MQ below (fb_qM (fun q => some (.long ro)) (fun q => fb_wX1 cI h0 qn qf qw tho ch nto fg wt mi) D A) ([.ref h0] : List Value).toArray s 28 84 A) (F0 m 36 ls [])) → W p l e (headSpec wsX1_digest rmX1_digest).room s m ([.ref h0] : List Value).toArray below meth c H locs 0 0 (MQ below (fb_qM (fun q => some (.long ro)) (fun q => fb_wX1 cI h0 qn qf qw tho ch nto fg wt mi) D A) ([.ref h0] : List Value).toArray s 28 84 A) (F0 m 11 ls []) := by
    intro n
    induction n with
    | zero =>
      intro v1 v2 o6 o7 h
      rw [lpX1_digest_11.eq_1] at h
      cases h
    | succ n ih =>
      intro v1 v2 o6 o7 h H locs hP hD hS ls hl kx
      rw [lpX1_digest_11.eq_2] at h
      refine lv_iload_n hx hb dX1_digest_11 rfl (lv_at hl 0 rfl) ?_
      refine lv_bipush (v := 7) hx hb dX1_digest_12 (by decide) ?_
      refine lv_icmp_ge (tgt := 36) hx hb dX1_digest_14 (by decide) (fun c3 => ?_) (fun c3 => ?_)
      · replace h := fb_it c3 h
        obtain ⟨e1, e2⟩ := fb_p2 h
        subst e1
        subst e2
        exact kx H locs hP hD hS ls (lv_sub hl [0, 1, 2] rfl)
      · replace h := fb_ie c3 h
        refine lv_lload_n hx hb dX1_digest_17 rfl (lv_at hl 1 rfl) ?_
        refine lv_ldc2 hx hb hown (hts _ w_k145) dX1_digest_18 ?_
        refine lv_lmul hx hb dX1_digest_21 ?_
        refine lv_aload_n hx hb dX1_digest_22 rfl (lv_at hl 2 rfl) ?_
        refine lv_iload_n hx hb dX1_digest_23 rfl (lv_at hl 0 rfl) ?_
        obtain ⟨r5, h4, h⟩ := fb_b1s h
        refine fb_callR (W.runV (As := [.int v1]) (rest := [.long (v2 * 31)]) ⟨hx, hb, hml, hown, hts⟩ (metX1_counted l D cI h0 qn qf qw B0 0 ch nt fg wt mi v1 r5 h4) (cwV 1 hts gX1_digest_X1_counted rfl rfl rfl (by decide +kernel) ⟨Nat.le_of_ble_eq_true rfl, Nat.le_of_ble_eq_true rfl⟩) (fb_preVR (ci := 1) fb_sX1p hP hK hZ hS hAB rfl rfl _) rfl rfl hl.1 rfl (lv_room (Nat.le_of_ble_eq_true rfl)) dX1_digest_24 ⟨Nat.le_of_ble_eq_true rfl, Nat.le_of_ble_eq_true rfl⟩) ?_
        refine lv_i2l hx hb dX1_digest_27 rfl ?_
        refine lv_ladd hx hb dX1_digest_28 ?_
        refine lv_lstore_n (lv' := [(1, .long ((v2 * 31) + r5.toInt64)), (3, .int v1), (0, .ref h0)]) hx hb dX1_digest_29 rfl hl (by decide) rfl (fun ls hl => ?_)
        refine lv_iinc (v := v1 + 1) (lv' := [(3, .int (v1 + 1)), (1, .long ((v2 * 31) + r5.toInt64)), (0, .ref h0)]) hx hb dX1_digest_30 hl (k := 1) rfl rfl (by decide) rfl (fun ls hl => ?_)
        refine lv_goto (tgt := 11) hx hb dX1_digest_33 (by decide) ?_
        exact ih _ _ o6 o7 h H locs hP hD hS ls (lv_sub hl [0, 1, 2] rfl) kx
  obtain ⟨o6, o7, h52, h⟩ := fb_b2s h
  refine LX1_digest_11 _ _ _ o6 o7 h52 H locs hP hD hS ls (lv_sub hl [0, 1, 2] rfl) (fun H locs hP hD hS ls hl => ?_)
  refine lv_aload_n hx hb dX1_digest_36 rfl (lv_at hl 2 rfl) ?_
  refine va_get (D := D) (ci := 1) (v := .ref qw) (C := RX1) (T := TX1) (N := 6) hx hb hts hin0 hown hK hP 0 rfl rfl 4 (by decide) (hts _ w_f16) (fun _ h9 => h9) rfl dX1_digest_37 ?_
  refine lv_astore_n (lv' := [(3, .ref qw), (1, .long o7), (0, .ref h0)]) hx hb dX1_digest_40 rfl hl (by decide) rfl (fun ls hl => ?_)
  refine lv_aload_n hx hb dX1_digest_41 rfl (lv_at hl 0 rfl) ?_
  refine va_alen hx hb hK hP 3 0 rfl rfl (v := 8) rfl dX1_digest_42 ?_
  refine lv_istore (lv' := [(4, .int 8), (3, .ref qw), (1, .long o7), (0, .ref h0)]) hx hb dX1_digest_43 hl (by decide) rfl (fun ls hl => ?_)
  refine lv_iconst (v := 0) hx hb dX1_digest_45 (by decide) ?_
  refine lv_istore (lv' := [(5, .int 0), (4, .int 8), (3, .ref qw), (1, .long o7), (0, .ref h0)]) hx hb dX1_digest_46 hl (by decide) rfl (fun ls hl => ?_)
  have LX1_digest_48 : ∀ (n : Nat) (v8 : Int32) (v9 : Int64) (o12 : Int32) (o13 : Int64), lpX1_digest_48 wt n v8 v9 = some (o12, o13) → ∀ (H : Heap) (locs : List Loc), va_P D vwCl (fb_wX1 cI h0 qn qf qw 0 ch nt fg wt mi) H → va_D A (fb_wX1 cI h0 qn qf qw 0 ch nt fg wt mi) → va_S A s.heap H locs → ∀ (ls : Array Slot), lv_has ls 7 [(5, .int v8), (4, .int 8), (3, .ref qw), (1, .long v9), (0, .ref h0)] → (∀ (H : Heap) (locs : List Loc), va_P D vwCl (fb_wX1 cI h0 qn qf qw 0 ch nt fg wt mi) H → va_D A (fb_wX1 cI h0 qn qf qw 0 ch nt fg wt mi) → va_S A s.heap H locs → ∀ (ls : Array Slot), lv_has ls 7 [(5, .int o12), (4, .int 8), (3, .ref qw), (1, .long o13), (0, .ref h0)] → W p l e (headSpec wsX1_digest rmX1_digest).room s m ([.ref h0] : List Value).toArray below meth c H locs 0 0 (MQ below (fb_qM (fun q => some (.long ro)) (fun q => fb_wX1 cI h0 qn qf qw tho ch nto fg wt mi) D A) ([.ref h0] : List Value).toArray s 28 84 A) (F0 m 77 ls [])) → W p l e (headSpec wsX1_digest rmX1_digest).room s m ([.ref h0] : List Value).toArray below meth c H locs 0 0 (MQ below (fb_qM (fun q => some (.long ro)) (fun q => fb_wX1 cI h0 qn qf qw tho ch nto fg wt mi) D A) ([.ref h0] : List Value).toArray s 28 84 A) (F0 m 48 ls []) := by
    intro n
    induction n with
    | zero =>
      intro v8 v9 o12 o13 h
      rw [lpX1_digest_48.eq_1] at h
      cases h
    | succ n ih =>
      intro v8 v9 o12 o13 h H locs hP hD hS ls hl kx
      rw [lpX1_digest_48.eq_2] at h
      refine lv_iload hx hb dX1_digest_48 (lv_at hl 0 rfl) ?_
      refine lv_iload hx hb dX1_digest_50 (lv_at hl 1 rfl) ?_
      refine lv_icmp_ge (tgt := 77) hx hb dX1_digest_52 (by decide) (fun c10 => ?_) (fun c10 => ?_)
      · replace h := fb_it c10 h
        obtain ⟨e1, e2⟩ := fb_p2 h
        subst e1
        subst e2
        exact kx H locs hP hD hS ls (lv_sub hl [0, 1, 2, 3, 4] rfl)
      · replace h := fb_ie c10 h
        refine lv_aload_n hx hb dX1_digest_55 rfl (lv_at hl 2 rfl) ?_
        refine lv_iload hx hb dX1_digest_56 (lv_at hl 0 rfl) ?_
        obtain ⟨hi11, h⟩ := fb_cks h
        refine va_iald hx hb hK hP 3 0 rfl rfl (fb_ixin hi11) dX1_digest_58 ?_
        refine lv_istore (lv' := [(6, .int (wt v8.toNatClampNeg)), (5, .int v8), (4, .int 8), (3, .ref qw), (1, .long v9), (0, .ref h0)]) hx hb dX1_digest_59 hl (by decide) rfl (fun ls hl => ?_)
        refine lv_lload_n hx hb dX1_digest_61 rfl (lv_at hl 4 rfl) ?_
        refine lv_ldc2 hx hb hown (hts _ w_k145) dX1_digest_62 ?_
        refine lv_lmul hx hb dX1_digest_65 ?_
        refine lv_iload hx hb dX1_digest_66 (lv_at hl 0 rfl) ?_
        refine lv_i2l hx hb dX1_digest_68 rfl ?_
        refine lv_ladd hx hb dX1_digest_69 ?_
        refine lv_lstore_n (lv' := [(1, .long ((v9 * 31) + ((wt v8.toNatClampNeg).toInt64))), (6, .int (wt v8.toNatClampNeg)), (5, .int v8), (4, .int 8), (3, .ref qw), (0, .ref h0)]) hx hb dX1_digest_70 rfl hl (by decide) rfl (fun ls hl => ?_)
        refine lv_iinc (v := v8 + 1) (lv' := [(5, .int (v8 + 1)), (1, .long ((v9 * 31) + ((wt v8.toNatClampNeg).toInt64))), (6, .int (wt v8.toNatClampNeg)), (4, .int 8), (3, .ref qw), (0, .ref h0)]) hx hb dX1_digest_71 hl (k := 2) rfl rfl (by decide) rfl (fun ls hl => ?_)
        refine lv_goto (tgt := 48) hx hb dX1_digest_74 (by decide) ?_
        exact ih _ _ o12 o13 h H locs hP hD hS ls (lv_sub hl [0, 3, 4, 1, 5] rfl) kx
  obtain ⟨o12, o13, h51, h⟩ := fb_b2s h
  refine LX1_digest_48 _ _ _ o12 o13 h51 H locs hP hD hS ls (lv_sub hl [0, 1, 2, 3, 4] rfl) (fun H locs hP hD hS ls hl => ?_)
  refine lv_iconst (v := 0) hx hb dX1_digest_77 (by decide) ?_
  refine lv_istore_n (lv' := [(3, .int 0), (5, .int o12), (4, .int 8), (1, .long o13), (0, .ref h0)]) hx hb dX1_digest_78 rfl hl (by decide) rfl (fun ls hl => ?_)
  have LX1_digest_79 : ∀ (n : Nat) (v14 : Int32) (v15 : Int64) (nt_16 : Nat → Int32) (o46 : Int32) (o47 : Int64) (o48 : Nat → Int32), lpX1_digest_79 ch fg wt mi n v14 v15 nt_16 = some (o46, o47, o48) → ∀ (ce sl : Nat), ce + n * 2 ≤ 28 → sl + n * 6 ≤ 84 → ∀ (H : Heap) (locs : List Loc), va_P D vwCl (fb_wX1 cI h0 qn qf qw 0 ch nt_16 fg wt mi) H → va_D A (fb_wX1 cI h0 qn qf qw 0 ch nt_16 fg wt mi) → va_S A s.heap H locs → ∀ (ls : Array Slot), lv_has ls 7 [(3, .int v14), (1, .long v15), (0, .ref h0)] → (∀ (H : Heap) (locs : List Loc), va_P D vwCl (fb_wX1 cI h0 qn qf qw 0 ch o48 fg wt mi) H → va_D A (fb_wX1 cI h0 qn qf qw 0 ch o48 fg wt mi) → va_S A s.heap H locs → ∀ (ls : Array Slot), lv_has ls 7 [(3, .int o46), (1, .long o47), (0, .ref h0)] → W p l e (headSpec wsX1_digest rmX1_digest).room s m ([.ref h0] : List Value).toArray below meth c H locs 28 84 (MQ below (fb_qM (fun q => some (.long ro)) (fun q => fb_wX1 cI h0 qn qf qw tho ch nto fg wt mi) D A) ([.ref h0] : List Value).toArray s 28 84 A) (F0 m 200 ls [])) → W p l e (headSpec wsX1_digest rmX1_digest).room s m ([.ref h0] : List Value).toArray below meth c H locs ce sl (MQ below (fb_qM (fun q => some (.long ro)) (fun q => fb_wX1 cI h0 qn qf qw tho ch nto fg wt mi) D A) ([.ref h0] : List Value).toArray s 28 84 A) (F0 m 79 ls []) := by
    intro n
    induction n with
    | zero =>
      intro v14 v15 nt_16 o46 o47 o48 h
      rw [lpX1_digest_79.eq_1] at h
      cases h
    | succ n ih =>
      intro v14 v15 nt_16 o46 o47 o48 h ce sl hce hsl H locs hP hD hS ls hl kx
      rw [lpX1_digest_79.eq_2] at h
      refine lv_iload_n hx hb dX1_digest_79 rfl (lv_at hl 0 rfl) ?_
      refine lv_aload_n hx hb dX1_digest_80 rfl (lv_at hl 2 rfl) ?_
      refine va_get (D := D) (ci := 1) (v := .int ch) (C := RX1) (T := TX1) (N := 6) hx hb hts hin0 hown hK hP 0 rfl rfl 1 (by decide) (hts _ w_f23) (fun _ h9 => h9) rfl dX1_digest_81 ?_
      refine lv_icmp_ge (tgt := 200) hx hb dX1_digest_84 (by decide) (fun c17 => ?_) (fun c17 => ?_)
      · replace h := fb_it c17 h
        obtain ⟨e1, e2, e3⟩ := fb_p3 h
        subst e1
        subst e2
        subst e3
        refine W.widen (k := 28) (n := 84) (by omega) (by omega) ?_
        exact kx H locs hP hD hS ls (lv_sub hl [0, 1, 2] rfl)
      · replace h := fb_ie c17 h
        refine lv_iconst (v := 0) hx hb dX1_digest_87 (by decide) ?_
        refine lv_istore (lv' := [(4, .int 0), (3, .int v14), (1, .long v15), (0, .ref h0)]) hx hb dX1_digest_88 hl (by decide) rfl (fun ls hl => ?_)
        have LX1_digest_90 : ∀ (n : Nat) (v18 : Int32) (v19 : Int64) (o23 : Int32) (o24 : Int64), lpX1_digest_90 ch fg wt mi v14 nt_16 n v18 v19 = some (o23, o24) → ∀ (H : Heap) (locs : List Loc), va_P D vwCl (fb_wX1 cI h0 qn qf qw 0 ch nt_16 fg wt mi) H → va_D A (fb_wX1 cI h0 qn qf qw 0 ch nt_16 fg wt mi) → va_S A s.heap H locs → ∀ (ls : Array Slot), lv_has ls 7 [(4, .int v18), (3, .int v14), (1, .long v19), (0, .ref h0)] → (∀ (H : Heap) (locs : List Loc), va_P D vwCl (fb_wX1 cI h0 qn qf qw 0 ch nt_16 fg wt mi) H → va_D A (fb_wX1 cI h0 qn qf qw 0 ch nt_16 fg wt mi) → va_S A s.heap H locs → ∀ (ls : Array Slot), lv_has ls 7 [(4, .int o23), (3, .int v14), (1, .long o24), (0, .ref h0)] → W p l e (headSpec wsX1_digest rmX1_digest).room s m ([.ref h0] : List Value).toArray below meth c H locs (ce + 0) (sl + 0) (MQ below (fb_qM (fun q => some (.long ro)) (fun q => fb_wX1 cI h0 qn qf qw tho ch nto fg wt mi) D A) ([.ref h0] : List Value).toArray s 28 84 A) (F0 m 117 ls [])) → W p l e (headSpec wsX1_digest rmX1_digest).room s m ([.ref h0] : List Value).toArray below meth c H locs (ce + 0) (sl + 0) (MQ below (fb_qM (fun q => some (.long ro)) (fun q => fb_wX1 cI h0 qn qf qw tho ch nto fg wt mi) D A) ([.ref h0] : List Value).toArray s 28 84 A) (F0 m 90 ls []) := by
          intro n
          induction n with
          | zero =>
            intro v18 v19 o23 o24 h
            rw [lpX1_digest_90.eq_1] at h
            cases h
          | succ n ih =>
            intro v18 v19 o23 o24 h H locs hP hD hS ls hl kx
            rw [lpX1_digest_90.eq_2] at h
            refine lv_iload hx hb dX1_digest_90 (lv_at hl 0 rfl) ?_
            refine lv_iconst (v := 4) hx hb dX1_digest_92 (by decide) ?_
            refine lv_icmp_ge (tgt := 117) hx hb dX1_digest_93 (by decide) (fun c20 => ?_) (fun c20 => ?_)
            · replace h := fb_it c20 h
              obtain ⟨e1, e2⟩ := fb_p2 h
              subst e1
              subst e2
              exact kx H locs hP hD hS ls (lv_sub hl [0, 1, 2, 3] rfl)
            · replace h := fb_ie c20 h
              refine lv_lload_n hx hb dX1_digest_96 rfl (lv_at hl 2 rfl) ?_
              refine lv_ldc2 hx hb hown (hts _ w_k145) dX1_digest_97 ?_
              refine lv_lmul hx hb dX1_digest_100 ?_
              refine lv_aload_n hx hb dX1_digest_101 rfl (lv_at hl 3 rfl) ?_
              refine lv_iload_n hx hb dX1_digest_102 rfl (lv_at hl 1 rfl) ?_
              refine lv_iload hx hb dX1_digest_103 (lv_at hl 0 rfl) ?_
              obtain ⟨r22, h21, h⟩ := fb_b1s h
              refine fb_callR (W.runV (As := [.int v14, .int v18]) (rest := [.long (v19 * 31)]) ⟨hx, hb, hml, hown, hts⟩ (metX1_at l D cI h0 qn qf qw B0 0 ch nt_16 fg wt mi v14 v18 r22 h21) (cwV 2 hts gX1_digest_X1_at rfl rfl rfl (by decide +kernel) ⟨Nat.le_of_ble_eq_true rfl, Nat.le_of_ble_eq_true rfl⟩) (fb_preVR (ci := 1) fb_sX1p hP hK hZ hS hAB rfl rfl _) rfl rfl hl.1 rfl (lv_room (Nat.le_of_ble_eq_true rfl)) dX1_digest_105 ⟨(show ce + 0 + 0 ≤ 28 by omega), (show sl + 0 + 0 ≤ 84 by omega)⟩) ?_
              refine lv_i2l hx hb dX1_digest_108 rfl ?_
              refine lv_ladd hx hb dX1_digest_109 ?_
              refine lv_lstore_n (lv' := [(1, .long ((v19 * 31) + r22.toInt64)), (4, .int v18), (3, .int v14), (0, .ref h0)]) hx hb dX1_digest_110 rfl hl (by decide) rfl (fun ls hl => ?_)
              refine lv_iinc (v := v18 + 1) (lv' := [(4, .int (v18 + 1)), (1, .long ((v19 * 31) + r22.toInt64)), (3, .int v14), (0, .ref h0)]) hx hb dX1_digest_111 hl (k := 1) rfl rfl (by decide) rfl (fun ls hl => ?_)
              refine lv_goto (tgt := 90) hx hb dX1_digest_114 (by decide) ?_
              exact ih _ _ o23 o24 h H locs hP hD hS ls (lv_sub hl [0, 2, 1, 3] rfl) kx
        obtain ⟨o23, o24, h45, h⟩ := fb_b2s h
        refine LX1_digest_90 _ _ _ o23 o24 h45 H locs hP hD hS ls (lv_sub hl [0, 1, 2, 3] rfl) (fun H locs hP hD hS ls hl => ?_)
        refine lv_iconst (v := 0) hx hb dX1_digest_117 (by decide) ?_
        refine lv_istore (lv' := [(4, .int 0), (3, .int v14), (1, .long o24), (0, .ref h0)]) hx hb dX1_digest_118 hl (by decide) rfl (fun ls hl => ?_)
        have LX1_digest_120 : ∀ (n : Nat) (v25 : Int32) (v26 : Int64) (o30 : Int32) (o31 : Int64), lpX1_digest_120 ch fg wt mi v14 nt_16 n v25 v26 = some (o30, o31) → ∀ (H : Heap) (locs : List Loc), va_P D vwCl (fb_wX1 cI h0 qn qf qw 0 ch nt_16 fg wt mi) H → va_D A (fb_wX1 cI h0 qn qf qw 0 ch nt_16 fg wt mi) → va_S A s.heap H locs → ∀ (ls : Array Slot), lv_has ls 7 [(4, .int v25), (3, .int v14), (1, .long v26), (0, .ref h0)] → (∀ (H : Heap) (locs : List Loc), va_P D vwCl (fb_wX1 cI h0 qn qf qw 0 ch nt_16 fg wt mi) H → va_D A (fb_wX1 cI h0 qn qf qw 0 ch nt_16 fg wt mi) → va_S A s.heap H locs → ∀ (ls : Array Slot), lv_has ls 7 [(4, .int o30), (3, .int v14), (1, .long o31), (0, .ref h0)] → W p l e (headSpec wsX1_digest rmX1_digest).room s m ([.ref h0] : List Value).toArray below meth c H locs (ce + 0) (sl + 0) (MQ below (fb_qM (fun q => some (.long ro)) (fun q => fb_wX1 cI h0 qn qf qw tho ch nto fg wt mi) D A) ([.ref h0] : List Value).toArray s 28 84 A) (F0 m 148 ls [])) → W p l e (headSpec wsX1_digest rmX1_digest).room s m ([.ref h0] : List Value).toArray below meth c H locs (ce + 0) (sl + 0) (MQ below (fb_qM (fun q => some (.long ro)) (fun q => fb_wX1 cI h0 qn qf qw tho ch nto fg wt mi) D A) ([.ref h0] : List Value).toArray s 28 84 A) (F0 m 120 ls []) := by
          intro n
          induction n with
          | zero =>
            intro v25 v26 o30 o31 h
            rw [lpX1_digest_120.eq_1] at h
            cases h
          | succ n ih =>
            intro v25 v26 o30 o31 h H locs hP hD hS ls hl kx
            rw [lpX1_digest_120.eq_2] at h
            refine lv_iload hx hb dX1_digest_120 (lv_at hl 0 rfl) ?_
            refine lv_bipush (v := 6) hx hb dX1_digest_122 (by decide) ?_
            refine lv_icmp_ge (tgt := 148) hx hb dX1_digest_124 (by decide) (fun c27 => ?_) (fun c27 => ?_)
            · replace h := fb_it c27 h
              obtain ⟨e1, e2⟩ := fb_p2 h
              subst e1
              subst e2
              exact kx H locs hP hD hS ls (lv_sub hl [0, 1, 2, 3] rfl)
            · replace h := fb_ie c27 h
              refine lv_lload_n hx hb dX1_digest_127 rfl (lv_at hl 2 rfl) ?_
              refine lv_ldc2 hx hb hown (hts _ w_k145) dX1_digest_128 ?_
              refine lv_lmul hx hb dX1_digest_131 ?_
              refine lv_aload_n hx hb dX1_digest_132 rfl (lv_at hl 3 rfl) ?_
              refine lv_iload_n hx hb dX1_digest_133 rfl (lv_at hl 1 rfl) ?_
              refine lv_iload hx hb dX1_digest_134 (lv_at hl 0 rfl) ?_
              obtain ⟨r29, h28, h⟩ := fb_b1s h
              refine fb_callR (W.runV (As := [.int v14, .int v25]) (rest := [.long (v26 * 31)]) ⟨hx, hb, hml, hown, hts⟩ (metX1_chordTold l D cI h0 qn qf qw B0 0 ch nt_16 fg wt mi v14 v25 r29 h28) (cwV 2 hts gX1_digest_X1_chordTold rfl rfl rfl (by decide +kernel) ⟨Nat.le_of_ble_eq_true rfl, Nat.le_of_ble_eq_true rfl⟩) (fb_preVR (ci := 1) fb_sX1p hP hK hZ hS hAB rfl rfl _) rfl rfl hl.1 rfl (lv_room (Nat.le_of_ble_eq_true rfl)) dX1_digest_136 ⟨(show ce + 0 + 0 ≤ 28 by omega), (show sl + 0 + 0 ≤ 84 by omega)⟩) ?_
              refine lv_i2l hx hb dX1_digest_139 rfl ?_
              refine lv_ladd hx hb dX1_digest_140 ?_
              refine lv_lstore_n (lv' := [(1, .long ((v26 * 31) + r29.toInt64)), (4, .int v25), (3, .int v14), (0, .ref h0)]) hx hb dX1_digest_141 rfl hl (by decide) rfl (fun ls hl => ?_)
              refine lv_iinc (v := v25 + 1) (lv' := [(4, .int (v25 + 1)), (1, .long ((v26 * 31) + r29.toInt64)), (3, .int v14), (0, .ref h0)]) hx hb dX1_digest_142 hl (k := 1) rfl rfl (by decide) rfl (fun ls hl => ?_)
              refine lv_goto (tgt := 120) hx hb dX1_digest_145 (by decide) ?_
              exact ih _ _ o30 o31 h H locs hP hD hS ls (lv_sub hl [0, 2, 1, 3] rfl) kx
        obtain ⟨o30, o31, h44, h⟩ := fb_b2s h
        refine LX1_digest_120 _ _ _ o30 o31 h44 H locs hP hD hS ls (lv_sub hl [0, 1, 2, 3] rfl) (fun H locs hP hD hS ls hl => ?_)
        refine lv_iconst (v := 0) hx hb dX1_digest_148 (by decide) ?_
        refine lv_istore (lv' := [(4, .int 0), (3, .int v14), (1, .long o31), (0, .ref h0)]) hx hb dX1_digest_149 hl (by decide) rfl (fun ls hl => ?_)
        have LX1_digest_151 : ∀ (n : Nat) (v32 : Int32) (v33 : Int64) (o37 : Int32) (o38 : Int64), lpX1_digest_151 ch fg wt mi v14 nt_16 n v32 v33 = some (o37, o38) → ∀ (H : Heap) (locs : List Loc), va_P D vwCl (fb_wX1 cI h0 qn qf qw 0 ch nt_16 fg wt mi) H → va_D A (fb_wX1 cI h0 qn qf qw 0 ch nt_16 fg wt mi) → va_S A s.heap H locs → ∀ (ls : Array Slot), lv_has ls 7 [(4, .int v32), (3, .int v14), (1, .long v33), (0, .ref h0)] → (∀ (H : Heap) (locs : List Loc), va_P D vwCl (fb_wX1 cI h0 qn qf qw 0 ch nt_16 fg wt mi) H → va_D A (fb_wX1 cI h0 qn qf qw 0 ch nt_16 fg wt mi) → va_S A s.heap H locs → ∀ (ls : Array Slot), lv_has ls 7 [(4, .int o37), (3, .int v14), (1, .long o38), (0, .ref h0)] → W p l e (headSpec wsX1_digest rmX1_digest).room s m ([.ref h0] : List Value).toArray below meth c H locs (ce + 0) (sl + 0) (MQ below (fb_qM (fun q => some (.long ro)) (fun q => fb_wX1 cI h0 qn qf qw tho ch nto fg wt mi) D A) ([.ref h0] : List Value).toArray s 28 84 A) (F0 m 179 ls [])) → W p l e (headSpec wsX1_digest rmX1_digest).room s m ([.ref h0] : List Value).toArray below meth c H locs (ce + 0) (sl + 0) (MQ below (fb_qM (fun q => some (.long ro)) (fun q => fb_wX1 cI h0 qn qf qw tho ch nto fg wt mi) D A) ([.ref h0] : List Value).toArray s 28 84 A) (F0 m 151 ls []) := by
          intro n
          induction n with
          | zero =>
            intro v32 v33 o37 o38 h
            rw [lpX1_digest_151.eq_1] at h
            cases h
          | succ n ih =>
            intro v32 v33 o37 o38 h H locs hP hD hS ls hl kx
            rw [lpX1_digest_151.eq_2] at h
            refine lv_iload hx hb dX1_digest_151 (lv_at hl 0 rfl) ?_
            refine lv_bipush (v := 8) hx hb dX1_digest_153 (by decide) ?_
            refine lv_icmp_ge (tgt := 179) hx hb dX1_digest_155 (by decide) (fun c34 => ?_) (fun c34 => ?_)
            · replace h := fb_it c34 h
              obtain ⟨e1, e2⟩ := fb_p2 h
              subst e1
              subst e2
              exact kx H locs hP hD hS ls (lv_sub hl [0, 1, 2, 3] rfl)
            · replace h := fb_ie c34 h
              refine lv_lload_n hx hb dX1_digest_158 rfl (lv_at hl 2 rfl) ?_
              refine lv_ldc2 hx hb hown (hts _ w_k145) dX1_digest_159 ?_
              refine lv_lmul hx hb dX1_digest_162 ?_
              refine lv_aload_n hx hb dX1_digest_163 rfl (lv_at hl 3 rfl) ?_
              refine lv_iload_n hx hb dX1_digest_164 rfl (lv_at hl 1 rfl) ?_
              refine lv_iload hx hb dX1_digest_165 (lv_at hl 0 rfl) ?_
              obtain ⟨r36, h35, h⟩ := fb_b1s h
              refine fb_callR (W.runV (As := [.int v14, .int v32]) (rest := [.long (v33 * 31)]) ⟨hx, hb, hml, hown, hts⟩ (metX1_faultsOf l D cI h0 qn qf qw B0 0 ch nt_16 fg wt mi v14 v32 r36 h35) (cwV 2 hts gX1_digest_X1_faultsOf rfl rfl rfl (by decide +kernel) ⟨Nat.le_of_ble_eq_true rfl, Nat.le_of_ble_eq_true rfl⟩) (fb_preVR (ci := 1) fb_sX1p hP hK hZ hS hAB rfl rfl _) rfl rfl hl.1 rfl (lv_room (Nat.le_of_ble_eq_true rfl)) dX1_digest_167 ⟨(show ce + 0 + 0 ≤ 28 by omega), (show sl + 0 + 0 ≤ 84 by omega)⟩) ?_
              refine lv_i2l hx hb dX1_digest_170 rfl ?_
              refine lv_ladd hx hb dX1_digest_171 ?_
              refine lv_lstore_n (lv' := [(1, .long ((v33 * 31) + r36.toInt64)), (4, .int v32), (3, .int v14), (0, .ref h0)]) hx hb dX1_digest_172 rfl hl (by decide) rfl (fun ls hl => ?_)
              refine lv_iinc (v := v32 + 1) (lv' := [(4, .int (v32 + 1)), (1, .long ((v33 * 31) + r36.toInt64)), (3, .int v14), (0, .ref h0)]) hx hb dX1_digest_173 hl (k := 1) rfl rfl (by decide) rfl (fun ls hl => ?_)
              refine lv_goto (tgt := 151) hx hb dX1_digest_176 (by decide) ?_
              exact ih _ _ o37 o38 h H locs hP hD hS ls (lv_sub hl [0, 2, 1, 3] rfl) kx
        obtain ⟨o37, o38, h43, h⟩ := fb_b2s h
        refine LX1_digest_151 _ _ _ o37 o38 h43 H locs hP hD hS ls (lv_sub hl [0, 1, 2, 3] rfl) (fun H locs hP hD hS ls hl => ?_)
        refine lv_lload_n hx hb dX1_digest_179 rfl (lv_at hl 2 rfl) ?_
        refine lv_ldc2 hx hb hown (hts _ w_k145) dX1_digest_180 ?_
        refine lv_lmul hx hb dX1_digest_183 ?_
        refine lv_aload_n hx hb dX1_digest_184 rfl (lv_at hl 3 rfl) ?_
        refine lv_iload_n hx hb dX1_digest_185 rfl (lv_at hl 1 rfl) ?_
        obtain ⟨nt_40, f41, h39, h⟩ := fb_b2s h
        have hPc : va_P D vwCl (fb_wX1 cI h0 qn qf qw 0 ch nt_16 fg wt mi) H := hP.sub [0, 1, 2, 3] rfl
        have hDc : va_D A (fb_wX1 cI h0 qn qf qw 0 ch nt_16 fg wt mi) := hD.sub [0, 1, 2, 3] (by decide) rfl
        have hFc := va_free (wc := fb_wX1 cI h0 qn qf qw 0 ch nt_16 fg wt mi) hD hS hA [0, 1, 2, 3] rfl
        refine fb_callM (va_runV (As := [.int v14]) (rest := [.long (o38 * 31)]) ⟨hx, hb, hml, hown, hts⟩ (metX1_led l D cI h0 qn qf qw B0 0 ch nt_16 fg wt mi v14 H.size nt_40 f41 h39) (cwV 1 hts gX1_digest_X1_led rfl rfl rfl (by decide +kernel) ⟨Nat.le_of_ble_eq_true rfl, Nat.le_of_ble_eq_true rfl⟩) (fb_preVM (ci := 1) fb_sX1p hPc hK hDc hZ hS hAB hA rfl rfl _) rfl rfl hl.1 rfl (lv_room (Nat.le_of_ble_eq_true rfl)) dX1_digest_186 ⟨(show ce + 0 + 2 ≤ 28 by omega), (show sl + 0 + 6 ≤ 84 by omega)⟩) hS (fun q _ h9 => hFc q h9) hFc (fun q42 H1 locs hP1 hD1 hz1 hk1 hS => ?_)
        have hP : va_P D vwCl (fb_wX1 cI h0 qn qf qw 0 ch nt_40 fg wt mi ++ [(q42, .inl (cI, 3, .inl f41))]) H1 := hP1
        have hD : va_D A (fb_wX1 cI h0 qn qf qw 0 ch nt_40 fg wt mi ++ [(q42, .inl (cI, 3, .inl f41))]) := hD1.weaken (fun _ q _ h9 => hFc q.1 h9)
        generalize H1 = H at hP hS
        refine lv_iconst (v := 2) hx hb dX1_digest_189 (by decide) ?_
        refine va_iald hx hb hK hP 4 0 rfl rfl (fb_ixin (by decide)) dX1_digest_190 ?_
        refine lv_i2l hx hb dX1_digest_191 rfl ?_
        refine lv_ladd hx hb dX1_digest_192 ?_
        refine lv_lstore_n (lv' := [(1, .long ((o38 * 31) + ((f41 (2 : Int32).toNatClampNeg).toInt64))), (4, .int o37), (3, .int v14), (0, .ref h0)]) hx hb dX1_digest_193 rfl hl (by decide) rfl (fun ls hl => ?_)
        refine lv_iinc (v := v14 + 1) (lv' := [(3, .int (v14 + 1)), (1, .long ((o38 * 31) + ((f41 (2 : Int32).toNatClampNeg).toInt64))), (4, .int o37), (0, .ref h0)]) hx hb dX1_digest_194 hl (k := 2) rfl rfl (by decide) rfl (fun ls hl => ?_)
        refine lv_goto (tgt := 79) hx hb dX1_digest_197 (by decide) ?_
        have hP : va_P D vwCl (fb_wX1 cI h0 qn qf qw 0 ch nt_40 fg wt mi) H := hP.sub [0, 1, 2, 3] rfl
        have hD : va_D A (fb_wX1 cI h0 qn qf qw 0 ch nt_40 fg wt mi) := hD.sub [0, 1, 2, 3] (by decide) rfl
        refine W.widen (k := ce + 2) (n := sl + 6) (by omega) (by omega) ?_
        exact ih _ _ _ o46 o47 o48 h _ _ (by omega) (by omega) H locs hP hD hS ls (lv_sub hl [0, 1, 3] rfl) kx
  obtain ⟨o46, o47, o48, h50, h⟩ := fb_b3s h
  refine LX1_digest_79 _ _ _ _ o46 o47 o48 h50 _ _ (by decide) (by decide) H locs hP hD hS ls (lv_sub hl [0, 3, 4] rfl) (fun H locs hP hD hS ls hl => ?_)
  refine lv_lload_n hx hb dX1_digest_200 rfl (lv_at hl 1 rfl) ?_
  obtain ⟨e1, e2, e3⟩ := fb_p3 h
  subst e1
  subst e2
  subst e3
  exact W.lret hx hb hr (fun t ht _ => ⟨⟨0, rfl, by rw [ht]; exact hP, hD⟩, hS.F ht⟩) hS.2.2 dX1_digest_201
