/-! Contracts, printed by wip/p24/g1.py. -/
abbrev rmX0_init : Room := { frames := 1, cells := 4, slots := 164, locals := 21 }
set_option maxHeartbeats 8000000 in
set_option maxRecDepth 100000 in
theorem metX0_init (l : Launch) (D : va_G) (cI : ClassId) (h0 B0 : Nat) (hz : Nat) (szo : Int32) (mio : Int32) (fgo : Nat → Int32) (nto : Nat → Int32) (wto : Nat → Int32) (wlo : Nat → Int32) (h : fX0_init  = some (szo, mio, fgo, nto, wto, wlo)) : Met l yX0_init wsX0_init rmX0_init (va_Pc [.ref h0] (fb_pm D [(cI, .int)] B0 fb_sX0 ([(h0, .inr (0, [.int 0, .int 0, .null, .null, .null, .null]))]) hz)) (fb_qX0i D cI h0 szo mio fgo nto wto wlo (va_A ([(h0, .inr (0, [.int 0, .int 0, .null, .null, .null, .null]))]) hz)) 4 164 (va_A ([(h0, .inr (0, [.int 0, .int 0, .null, .null, .null, .null]))]) hz) := by
  refine Met.ofW (cc := cX0_init) (maxL := 2) (ret := none) (by decide) rfl ?_
  intro p e s m args below meth c s₁ B hml hv
  obtain ⟨rfl, hsz, ⟨hP, hK, hZ⟩, hD0, hAB⟩ := hv
  have hx := B.exec
  have hb := B.bytes
  have hr := B.returns
  have hts := atoms_spec (ws := wsX0_init) B.pre
  have hown : s.vm.findClass RX0 = some m.cls := findClass_of_methodNamed B.named
  have hlocks := B.notSynchronized
  have hin : meth.name = "<init>" := (name_of_methodNamed B.named B.method).1
  subst hsz
  have hD := hD0.self (sz := s.heap.size)
  generalize hAe : va_A ([(h0, .inr (0, [.int 0, .int 0, .null, .null, .null, .null]))]) s.heap.size = A at hD hAB ⊢
  have hA : ∀ q : Nat, s.heap.size ≤ q → A q := fun q h9 => by rw [← hAe]; exact Or.inr h9
  have hS : va_S A s.heap s.heap [] := va_S.rf
  have hP : va_P D vwCl ([(h0, .inr (0, [.int 0, .int 0, .null, .null, .null, .null]))]) s.heap := hP
  have hin0 : ∀ w ∈ u_ws RX0 TX0 6, w ∈ wsX0_init := fun _ h9 => List.mem_cons_of_mem _ (List.mem_append_right _ (h9))
  have w_arr : (Cond.arrayClass .int) ∈ wsX0_init := List.mem_of_getElem? (i := 6) rfl
  have w_f13 : (Cond.fieldLink RX0 13 "FiguredBass" "inMinor" "Z") ∈ wsX0_init := List.mem_of_getElem? (i := 5) rfl
  have w_f17 : (Cond.fieldLink RX0 17 "FiguredBass" "figures" "[I") ∈ wsX0_init := List.mem_of_getElem? (i := 7) rfl
  have w_f21 : (Cond.fieldLink RX0 21 "FiguredBass" "notes" "[I") ∈ wsX0_init := List.mem_of_getElem? (i := 8) rfl
  have w_f24 : (Cond.fieldLink RX0 24 "FiguredBass" "weights" "[I") ∈ wsX0_init := List.mem_of_getElem? (i := 9) rfl
  have w_f27 : (Cond.fieldLink RX0 27 "FiguredBass" "wayList" "[I") ∈ wsX0_init := List.mem_of_getElem? (i := 10) rfl
  have w_f7 : (Cond.fieldLink RX0 7 "FiguredBass" "size" "I") ∈ wsX0_init := List.mem_of_getElem? (i := 4) rfl
  have w_m1 : (Cond.methodLink RX0 1 objectInit) ∈ wsX0_init := List.mem_of_getElem? (i := 1) rfl
  have w_oc : (Cond.code objectInit ⟨#[0xb1]⟩ 1 none) ∈ wsX0_init := List.mem_of_getElem? (i := 3) rfl
  have w_oi : (Cond.instanceMethod objectInit) ∈ wsX0_init := List.mem_of_getElem? (i := 2) rfl
  have hl := lv_entry ([.ref h0]) (n := 2) (Nat.le_of_ble_eq_true rfl)
  rw [lg_entry_eq]
  generalize (lg_sl ([.ref h0]) ++ List.replicate (2 - (lg_sl ([.ref h0])).length) Slot.unset).toArray = ls at hl ⊢
  have hl : lv_has ls 2 [(0, .ref h0)] := hl
  suffices K : ∀ (H : Heap) (locs : List Loc), va_P D vwCl ([(h0, .inr (0, [.int 0, .int 0, .null, .null, .null, .null]))]) H → va_S A s.heap H locs → W p l e (headSpec wsX0_init rmX0_init).room s m ([.ref h0] : List Value).toArray below meth c H locs 0 0 (MQ below (fb_qX0i D cI h0 szo mio fgo nto wto wlo A) ([.ref h0] : List Value).toArray s 4 164 A) (F0 m 0 ls []) from K s.heap [] hP hS
  intro H locs hP hS
  unfold fX0_init at h
  refine lv_aload_n hx hb dX0_init_0 rfl (lv_at hl 0 rfl) ?_
  refine W.objInit hx hb hown (hts _ w_m1) (hts _ w_oi) (hts _ w_oc) rfl (by rw [hml]; exact hl.1) rfl dX0_init_1 (Nat.le_of_ble_eq_true rfl) (Nat.le_of_ble_eq_true rfl) ?_
  refine W.eq (g2 := F0 m 4 ls []) rfl ?_
  refine lv_aload_n hx hb dX0_init_4 rfl (lv_at hl 0 rfl) ?_
  refine lv_iconst (v := 0) hx hb dX0_init_5 (by decide) ?_
  refine va_put (D := D) (ci := 0) (v := .int 0) (ty := .int) (C := RX0) (T := TX0) (N := 6) hx hb hts hin0 tyX0 tyX0_ok nmX0 hown hK hP hD hS 0 rfl rfl 0 (by decide) (hts _ w_f7) (fun _ h9 => h9) rfl (by decide +kernel) rfl rfl (Nat.le_of_ble_eq_true rfl) dX0_init_6 (fun H locs hP hD hS => ?_)
  have hP : va_P D vwCl ([(h0, .inr (0, [.int 0, .int 0, .null, .null, .null, .null]))]) H := hP
  have hD : va_D A ([(h0, .inr (0, [.int 0, .int 0, .null, .null, .null, .null]))]) := hD
  refine lv_aload_n hx hb dX0_init_9 rfl (lv_at hl 0 rfl) ?_
  refine lv_iconst (v := 0) hx hb dX0_init_10 (by decide) ?_
  refine va_put (D := D) (ci := 0) (v := .int 0) (ty := .boolean) (C := RX0) (T := TX0) (N := 6) hx hb hts hin0 tyX0 tyX0_ok nmX0 hown hK hP hD hS 0 rfl rfl 1 (by decide) (hts _ w_f13) (fun _ h9 => h9) rfl (by decide +kernel) rfl rfl (Nat.le_of_ble_eq_true rfl) dX0_init_11 (fun H locs hP hD hS => ?_)
  have hP : va_P D vwCl ([(h0, .inr (0, [.int 0, .int 0, .null, .null, .null, .null]))]) H := hP
  have hD : va_D A ([(h0, .inr (0, [.int 0, .int 0, .null, .null, .null, .null]))]) := hD
  refine lv_aload_n hx hb dX0_init_14 rfl (lv_at hl 0 rfl) ?_
  refine lv_bipush (v := 12) hx hb dX0_init_15 (by decide) ?_
  refine va_newa (atype := .int) hx hb (hts _ w_arr) (ty := .int) rfl hK hP hD hS hA (N' := 12) (a0 := (12, .inl (fun _ => 0))) (fun _ => rfl) (by decide) (by decide) (by decide) (Nat.le_of_ble_eq_true rfl) (Nat.le_of_ble_eq_true rfl) dX0_init_17 (fun q2 cA H hK1 hP hD hS => ?_)
  obtain rfl := fb_cA hK1
  have hP : va_P D vwCl ([(h0, .inr (0, [.int 0, .int 0, .null, .null, .null, .null])), (q2, .inl (cI, 12, .inl (fun _ => 0)))]) H := hP
  have hD : va_D A ([(h0, .inr (0, [.int 0, .int 0, .null, .null, .null, .null])), (q2, .inl (cI, 12, .inl (fun _ => 0)))]) := hD
  refine va_putF (D := D) (ci := 0) (v := .ref q2) (ty := .array .int) (C := RX0) (T := TX0) (N := 6) hx hb hts hin0 tyX0 tyX0_ok nmX0 hown hK hP hD hS 0 rfl rfl 2 (by decide) (hts _ w_f17) (fun _ h9 => h9) rfl hin rfl (by decide +kernel) rfl rfl (Nat.le_of_ble_eq_true rfl) dX0_init_19 (fun H locs hP hD hS => ?_)
  have hP : va_P D vwCl ([(h0, .inr (0, [.int 0, .int 0, .ref q2, .null, .null, .null])), (q2, .inl (cI, 12, .inl (fun _ => 0)))]) H := hP
  have hD : va_D A ([(h0, .inr (0, [.int 0, .int 0, .ref q2, .null, .null, .null])), (q2, .inl (cI, 12, .inl (fun _ => 0)))]) := hD
  refine lv_aload_n hx hb dX0_init_22 rfl (lv_at hl 0 rfl) ?_
  refine lv_bipush (v := 48) hx hb dX0_init_23 (by decide) ?_
  refine va_newa (atype := .int) hx hb (hts _ w_arr) (ty := .int) rfl hK hP hD hS hA (N' := 48) (a0 := (48, .inl (fun _ => 0))) (fun _ => rfl) (by decide) (by decide) (by decide) (Nat.le_of_ble_eq_true rfl) (Nat.le_of_ble_eq_true rfl) dX0_init_25 (fun q3 cA H hK1 hP hD hS => ?_)
  obtain rfl := fb_cA hK1
  have hP : va_P D vwCl ([(h0, .inr (0, [.int 0, .int 0, .ref q2, .null, .null, .null])), (q2, .inl (cI, 12, .inl (fun _ => 0))), (q3, .inl (cI, 48, .inl (fun _ => 0)))]) H := hP
  have hD : va_D A ([(h0, .inr (0, [.int 0, .int 0, .ref q2, .null, .null, .null])), (q2, .inl (cI, 12, .inl (fun _ => 0))), (q3, .inl (cI, 48, .inl (fun _ => 0)))]) := hD
  refine va_putF (D := D) (ci := 0) (v := .ref q3) (ty := .array .int) (C := RX0) (T := TX0) (N := 6) hx hb hts hin0 tyX0 tyX0_ok nmX0 hown hK hP hD hS 0 rfl rfl 3 (by decide) (hts _ w_f21) (fun _ h9 => h9) rfl hin rfl (by decide +kernel) rfl rfl (Nat.le_of_ble_eq_true rfl) dX0_init_27 (fun H locs hP hD hS => ?_)
  have hP : va_P D vwCl ([(h0, .inr (0, [.int 0, .int 0, .ref q2, .ref q3, .null, .null])), (q2, .inl (cI, 12, .inl (fun _ => 0))), (q3, .inl (cI, 48, .inl (fun _ => 0)))]) H := hP
  have hD : va_D A ([(h0, .inr (0, [.int 0, .int 0, .ref q2, .ref q3, .null, .null])), (q2, .inl (cI, 12, .inl (fun _ => 0))), (q3, .inl (cI, 48, .inl (fun _ => 0)))]) := hD
  refine lv_aload_n hx hb dX0_init_30 rfl (lv_at hl 0 rfl) ?_
  refine lv_bipush (v := 8) hx hb dX0_init_31 (by decide) ?_
  refine va_newa (atype := .int) hx hb (hts _ w_arr) (ty := .int) rfl hK hP hD hS hA (N' := 8) (a0 := (8, .inl (fun _ => 0))) (fun _ => rfl) (by decide) (by decide) (by decide) (Nat.le_of_ble_eq_true rfl) (Nat.le_of_ble_eq_true rfl) dX0_init_33 (fun q4 cA H hK1 hP hD hS => ?_)
  obtain rfl := fb_cA hK1
  have hP : va_P D vwCl ([(h0, .inr (0, [.int 0, .int 0, .ref q2, .ref q3, .null, .null])), (q2, .inl (cI, 12, .inl (fun _ => 0))), (q3, .inl (cI, 48, .inl (fun _ => 0))), (q4, .inl (cI, 8, .inl (fun _ => 0)))]) H := hP
  have hD : va_D A ([(h0, .inr (0, [.int 0, .int 0, .ref q2, .ref q3, .null, .null])), (q2, .inl (cI, 12, .inl (fun _ => 0))), (q3, .inl (cI, 48, .inl (fun _ => 0))), (q4, .inl (cI, 8, .inl (fun _ => 0)))]) := hD
  refine va_putF (D := D) (ci := 0) (v := .ref q4) (ty := .array .int) (C := RX0) (T := TX0) (N := 6) hx hb hts hin0 tyX0 tyX0_ok nmX0 hown hK hP hD hS 0 rfl rfl 4 (by decide) (hts _ w_f24) (fun _ h9 => h9) rfl hin rfl (by decide +kernel) rfl rfl (Nat.le_of_ble_eq_true rfl) dX0_init_35 (fun H locs hP hD hS => ?_)
  have hP : va_P D vwCl ([(h0, .inr (0, [.int 0, .int 0, .ref q2, .ref q3, .ref q4, .null])), (q2, .inl (cI, 12, .inl (fun _ => 0))), (q3, .inl (cI, 48, .inl (fun _ => 0))), (q4, .inl (cI, 8, .inl (fun _ => 0)))]) H := hP
  have hD : va_D A ([(h0, .inr (0, [.int 0, .int 0, .ref q2, .ref q3, .ref q4, .null])), (q2, .inl (cI, 12, .inl (fun _ => 0))), (q3, .inl (cI, 48, .inl (fun _ => 0))), (q4, .inl (cI, 8, .inl (fun _ => 0)))]) := hD
  refine lv_aload_n hx hb dX0_init_38 rfl (lv_at hl 0 rfl) ?_
  refine lv_bipush (v := 96) hx hb dX0_init_39 (by decide) ?_
  refine va_newa (atype := .int) hx hb (hts _ w_arr) (ty := .int) rfl hK hP hD hS hA (N' := 96) (a0 := (96, .inl (fun _ => 0))) (fun _ => rfl) (by decide) (by decide) (by decide) (Nat.le_of_ble_eq_true rfl) (Nat.le_of_ble_eq_true rfl) dX0_init_41 (fun q5 cA H hK1 hP hD hS => ?_)
  obtain rfl := fb_cA hK1
  have hP : va_P D vwCl ([(h0, .inr (0, [.int 0, .int 0, .ref q2, .ref q3, .ref q4, .null])), (q2, .inl (cI, 12, .inl (fun _ => 0))), (q3, .inl (cI, 48, .inl (fun _ => 0))), (q4, .inl (cI, 8, .inl (fun _ => 0))), (q5, .inl (cI, 96, .inl (fun _ => 0)))]) H := hP
  have hD : va_D A ([(h0, .inr (0, [.int 0, .int 0, .ref q2, .ref q3, .ref q4, .null])), (q2, .inl (cI, 12, .inl (fun _ => 0))), (q3, .inl (cI, 48, .inl (fun _ => 0))), (q4, .inl (cI, 8, .inl (fun _ => 0))), (q5, .inl (cI, 96, .inl (fun _ => 0)))]) := hD
  refine va_putF (D := D) (ci := 0) (v := .ref q5) (ty := .array .int) (C := RX0) (T := TX0) (N := 6) hx hb hts hin0 tyX0 tyX0_ok nmX0 hown hK hP hD hS 0 rfl rfl 5 (by decide) (hts _ w_f27) (fun _ h9 => h9) rfl hin rfl (by decide +kernel) rfl rfl (Nat.le_of_ble_eq_true rfl) dX0_init_43 (fun H locs hP hD hS => ?_)
  have hP : va_P D vwCl ([(h0, .inr (0, [.int 0, .int 0, .ref q2, .ref q3, .ref q4, .ref q5])), (q2, .inl (cI, 12, .inl (fun _ => 0))), (q3, .inl (cI, 48, .inl (fun _ => 0))), (q4, .inl (cI, 8, .inl (fun _ => 0))), (q5, .inl (cI, 96, .inl (fun _ => 0)))]) H := hP
  have hD : va_D A ([(h0, .inr (0, [.int 0, .int 0, .ref q2, .ref q3, .ref q4, .ref q5])), (q2, .inl (cI, 12, .inl (fun _ => 0))), (q3, .inl (cI, 48, .inl (fun _ => 0))), (q4, .inl (cI, 8, .inl (fun _ => 0))), (q5, .inl (cI, 96, .inl (fun _ => 0)))]) := hD
  refine lv_iconst (v := 0) hx hb dX0_init_46 (by decide) ?_
  refine lv_istore_n (lv' := [(1, .int 0), (0, .ref h0)]) hx hb dX0_init_47 rfl hl (by decide) rfl (fun ls hl => ?_)
  have LX0_init_48 : ∀ (n : Nat) (v6 : Int32) (f7 : Nat → Int32) (o10 : Int32) (o11 : Nat → Int32), lpX0_init_48 n v6 f7 = some (o10, o11) → ∀ (H : Heap) (locs : List Loc), va_P D vwCl ([(h0, .inr (0, [.int 0, .int 0, .ref q2, .ref q3, .ref q4, .ref q5])), (q2, .inl (cI, 12, .inl (fun _ => 0))), (q3, .inl (cI, 48, .inl (fun _ => 0))), (q4, .inl (cI, 8, .inl f7)), (q5, .inl (cI, 96, .inl (fun _ => 0)))]) H → va_D A ([(h0, .inr (0, [.int 0, .int 0, .ref q2, .ref q3, .ref q4, .ref q5])), (q2, .inl (cI, 12, .inl (fun _ => 0))), (q3, .inl (cI, 48, .inl (fun _ => 0))), (q4, .inl (cI, 8, .inl f7)), (q5, .inl (cI, 96, .inl (fun _ => 0)))]) → va_S A s.heap H locs → ∀ (ls : Array Slot), lv_has ls 2 [(1, .int v6), (0, .ref h0)] → (∀ (H : Heap) (locs : List Loc), va_P D vwCl ([(h0, .inr (0, [.int 0, .int 0, .ref q2, .ref q3, .ref q4, .ref q5])), (q2, .inl (cI, 12, .inl (fun _ => 0))), (q3, .inl (cI, 48, .inl (fun _ => 0))), (q4, .inl (cI, 8, .inl o11)), (q5, .inl (cI, 96, .inl (fun _ => 0)))]) H → va_D A ([(h0, .inr (0, [.int 0, .int 0, .ref q2, .ref q3, .ref q4, .ref q5])), (q2, .inl (cI, 12, .inl (fun _ => 0))), (q3, .inl (cI, 48, .inl (fun _ => 0))), (q4, .inl (cI, 8, .inl o11)), (q5, .inl (cI, 96, .inl (fun _ => 0)))]) → va_S A s.heap H locs → ∀ (ls : Array Slot), lv_has ls 2 [(1, .int o10), (0, .ref h0)] → W p l e (headSpec wsX0_init rmX0_init).room s m ([.ref h0] : List Value).toArray below meth c H locs 4 164 (MQ below (fb_qX0i D cI h0 szo mio fgo nto wto wlo A) ([.ref h0] : List Value).toArray s 4 164 A) (F0 m 67 ls [])) → W p l e (headSpec wsX0_init rmX0_init).room s m ([.ref h0] : List Value).toArray below meth c H locs 4 164 (MQ below (fb_qX0i D cI h0 szo mio fgo nto wto wlo A) ([.ref h0] : List Value).toArray s 4 164 A) (F0 m 48 ls []) := by
    intro n
    induction n with
    | zero =>
      intro v6 f7 o10 o11 h
      rw [lpX0_init_48.eq_1] at h
      cases h
    | succ n ih =>
      intro v6 f7 o10 o11 h H locs hP hD hS ls hl kx
      rw [lpX0_init_48.eq_2] at h
      refine lv_iload_n hx hb dX0_init_48 rfl (lv_at hl 0 rfl) ?_
      refine lv_bipush (v := 8) hx hb dX0_init_49 (by decide) ?_
      refine lv_icmp_ge (tgt := 67) hx hb dX0_init_51 (by decide) (fun c8 => ?_) (fun c8 => ?_)
      · replace h := fb_it c8 h
        obtain ⟨e1, e2⟩ := fb_p2 h
        subst e1
        subst e2
        exact kx H locs hP hD hS ls (lv_sub hl [0, 1] rfl)
      · replace h := fb_ie c8 h
        refine lv_aload_n hx hb dX0_init_54 rfl (lv_at hl 1 rfl) ?_
        refine va_get (D := D) (ci := 0) (v := .ref q4) (C := RX0) (T := TX0) (N := 6) hx hb hts hin0 hown hK hP 0 rfl rfl 4 (by decide) (hts _ w_f24) (fun _ h9 => h9) rfl dX0_init_55 ?_
        refine lv_iload_n hx hb dX0_init_58 rfl (lv_at hl 0 rfl) ?_
        refine lv_iconst (v := 2) hx hb dX0_init_59 (by decide) ?_
        obtain ⟨hi9, h⟩ := fb_cks h
        refine va_iast hx hb hK hP hD hS 3 0 rfl rfl (fb_ixin hi9) dX0_init_60 (fun H locs hP hD hS => ?_)
        have hP : va_P D vwCl ([(h0, .inr (0, [.int 0, .int 0, .ref q2, .ref q3, .ref q4, .ref q5])), (q2, .inl (cI, 12, .inl (fun _ => 0))), (q3, .inl (cI, 48, .inl (fun _ => 0))), (q4, .inl (cI, 8, .inl (upd f7 v6.toNatClampNeg 2))), (q5, .inl (cI, 96, .inl (fun _ => 0)))]) H := hP
        have hD : va_D A ([(h0, .inr (0, [.int 0, .int 0, .ref q2, .ref q3, .ref q4, .ref q5])), (q2, .inl (cI, 12, .inl (fun _ => 0))), (q3, .inl (cI, 48, .inl (fun _ => 0))), (q4, .inl (cI, 8, .inl (upd f7 v6.toNatClampNeg 2))), (q5, .inl (cI, 96, .inl (fun _ => 0)))]) := hD
        refine lv_iinc (v := v6 + 1) (lv' := [(1, .int (v6 + 1)), (0, .ref h0)]) hx hb dX0_init_61 hl (k := 0) rfl rfl (by decide) rfl (fun ls hl => ?_)
        refine lv_goto (tgt := 48) hx hb dX0_init_64 (by decide) ?_
        exact ih _ _ o10 o11 h H locs hP hD hS ls (lv_sub hl [0, 1] rfl) kx
  obtain ⟨o10, o11, h13, h⟩ := fb_b2s h
  refine LX0_init_48 _ _ _ o10 o11 h13 H locs hP hD hS ls (lv_sub hl [0, 1] rfl) (fun H locs hP hD hS ls hl => ?_)
  obtain ⟨e1, e2, e3, e4, e5, e6⟩ := fb_p6 h
  subst e1
  subst e2
  subst e3
  subst e4
  subst e5
  subst e6
  have hP : va_P D vwCl (fb_wX0 cI h0 q2 q3 q4 q5 0 0 (fun _ => 0) (fun _ => 0) o11 (fun _ => 0)) H := hP.sub [0, 1, 2, 3, 4] rfl
  have hD : va_D A (fb_wX0 cI h0 q2 q3 q4 q5 0 0 (fun _ => 0) (fun _ => 0) o11 (fun _ => 0)) := hD.sub [0, 1, 2, 3, 4] (by decide) rfl
  exact W.vret hx hb hr (fun t ht _ => ⟨⟨q2, q3, q4, q5, rfl, by rw [ht]; exact hP, hD⟩, hS.F ht⟩) hS.2.2 dX0_init_67
abbrev rmX0_listSopranos : Room := { frames := 2, cells := 0, slots := 0, locals := 48 }
set_option maxHeartbeats 8000000 in
set_option maxRecDepth 100000 in
theorem metX0_listSopranos (l : Launch) (D : va_G) (cI : ClassId) (h0 qf qn qw ql B0 : Nat) (sz : Int32) (mi : Int32) (fg : Nat → Int32) (nt : Nat → Int32) (wt : Nat → Int32) (wl : Nat → Int32) (a1 : Int32) (a2 : Int32) (a3 : Int32) (a4 : Int32) (hz : Nat) (ro : Int32) (wlo : Nat → Int32) (h : fX0_listSopranos sz mi fg nt wt wl a1 a2 a3 a4 = some (ro, wlo)) : Met l yX0_listSopranos wsX0_listSopranos rmX0_listSopranos (va_Pc [.ref h0, .int a1, .int a2, .int a3, .int a4] (fb_pm D [(cI, .int)] B0 fb_sX0 (fb_wX0 cI h0 qf qn qw ql sz mi fg nt wt wl) hz)) (fb_qM (fun q => some (.int ro)) (fun q => fb_wX0 cI h0 qf qn qw ql sz mi fg nt wt wlo) D (va_A (fb_wX0 cI h0 qf qn qw ql sz mi fg nt wt wl) hz)) 0 0 (va_A (fb_wX0 cI h0 qf qn qw ql sz mi fg nt wt wl) hz) := by
  refine Met.ofW (cc := cX0_listSopranos) (maxL := 7) (ret := (some .int)) (by decide) rfl ?_
  intro p e s m args below meth c s₁ B hml hv
  obtain ⟨rfl, hsz, ⟨hP, hK, hZ⟩, hD0, hAB⟩ := hv
  have hx := B.exec
  have hb := B.bytes
  have hr := B.returns
  have hts := atoms_spec (ws := wsX0_listSopranos) B.pre
  have hown : s.vm.findClass RX0 = some m.cls := findClass_of_methodNamed B.named
  have hlocks := B.notSynchronized
  subst hsz
  have hD := hD0.self (sz := s.heap.size)
  generalize hAe : va_A (fb_wX0 cI h0 qf qn qw ql sz mi fg nt wt wl) s.heap.size = A at hD hAB ⊢
  have hA : ∀ q : Nat, s.heap.size ≤ q → A q := fun q h9 => by rw [← hAe]; exact Or.inr h9
  have hS : va_S A s.heap s.heap [] := va_S.rf
  have hP : va_P D vwCl (fb_wX0 cI h0 qf qn qw ql sz mi fg nt wt wl) s.heap := hP
  obtain ⟨t_HIGHEST, hz_HIGHEST, ht_HIGHEST⟩ := fb_stA_narrow hZ.2.1 hAB
  obtain ⟨t_LOWEST, hz_LOWEST, ht_LOWEST⟩ := fb_stA_narrow hZ.1 hAB
  have hin0 : ∀ w ∈ u_ws RX0 TX0 6, w ∈ wsX0_listSopranos := fun _ h9 => List.mem_cons_of_mem _ (List.mem_append_right _ (h9))
  have w_f139 : (Cond.fieldLink RX0 139 "FiguredBass" "LOWEST" "[I") ∈ wsX0_listSopranos := List.mem_of_getElem? (i := 1) rfl
  have w_f142 : (Cond.fieldLink RX0 142 "FiguredBass" "HIGHEST" "[I") ∈ wsX0_listSopranos := List.mem_of_getElem? (i := 6) rfl
  have w_f27 : (Cond.fieldLink RX0 27 "FiguredBass" "wayList" "[I") ∈ wsX0_listSopranos := List.mem_of_getElem? (i := 7) rfl
  have w_m194 : (Cond.methodLink RX0 194 Lib.Math.max.name) ∈ wsX0_listSopranos := List.mem_of_getElem? (i := 2) rfl
  have w_mcmax : (Cond.code Lib.Math.max.name Lib.Math.max.code 2 (some .int)) ∈ wsX0_listSopranos := List.mem_of_getElem? (i := 5) rfl
  have w_mi : (Cond.initialized "java/lang/Math") ∈ wsX0_listSopranos := List.mem_of_getElem? (i := 4) rfl
  have w_msmax : (Cond.static Lib.Math.max.name) ∈ wsX0_listSopranos := List.mem_of_getElem? (i := 3) rfl
  have hl := lv_entry ([.ref h0, .int a1, .int a2, .int a3, .int a4]) (n := 7) (Nat.le_of_ble_eq_true rfl)
  rw [lg_entry_eq]
  generalize (lg_sl ([.ref h0, .int a1, .int a2, .int a3, .int a4]) ++ List.replicate (7 - (lg_sl ([.ref h0, .int a1, .int a2, .int a3, .int a4])).length) Slot.unset).toArray = ls at hl ⊢
  have hl : lv_has ls 7 [(0, .ref h0), (1, .int a1), (2, .int a2), (3, .int a3), (4, .int a4)] := hl
  suffices K : ∀ (H : Heap) (locs : List Loc), va_P D vwCl (fb_wX0 cI h0 qf qn qw ql sz mi fg nt wt wl) H → va_S A s.heap H locs → W p l e (headSpec wsX0_listSopranos rmX0_listSopranos).room s m ([.ref h0, .int a1, .int a2, .int a3, .int a4] : List Value).toArray below meth c H locs 0 0 (MQ below (fb_qM (fun q => some (.int ro)) (fun q => fb_wX0 cI h0 qf qn qw ql sz mi fg nt wt wlo) D A) ([.ref h0, .int a1, .int a2, .int a3, .int a4] : List Value).toArray s 0 0 A) (F0 m 0 ls []) from K s.heap [] hP hS
  intro H locs hP hS
  unfold fX0_listSopranos at h
  refine lv_iload hx hb dX0_listSopranos_0 (lv_at hl 4 rfl) ?_
  refine lv_istore (lv' := [(5, .int a4), (0, .ref h0), (1, .int a1), (2, .int a2), (3, .int a3), (4, .int a4)]) hx hb dX0_listSopranos_2 hl (by decide) rfl (fun ls hl => ?_)
  refine lv_iload_n hx hb dX0_listSopranos_4 rfl (lv_at hl 4 rfl) ?_
  refine va_gets hx hb hz_LOWEST hS hown (hts _ w_f139) (fun _ h9 => h9) dX0_listSopranos_5 ?_
  refine lv_iconst (v := 3) hx hb dX0_listSopranos_8 (by decide) ?_
  refine va_ti hx hb ht_LOWEST hS (fb_ixin (by decide)) rfl dX0_listSopranos_9 ?_
  refine va_mmax hx hb (by rw [hml]; exact hl.1.symm) hown (hts _ w_m194) (hts _ w_msmax) (hts _ w_mi) (hts _ w_mcmax) (Nat.le_of_ble_eq_true rfl) (Nat.le_of_ble_eq_true rfl) (Nat.le_of_ble_eq_true rfl) (Nat.le_of_ble_eq_true rfl) dX0_listSopranos_10 ?_
  refine lv_istore (lv' := [(6, .int (if a3 < (fb_tX0_LOWEST (3 : Int32).toNatClampNeg) then (fb_tX0_LOWEST (3 : Int32).toNatClampNeg) else a3)), (5, .int a4), (0, .ref h0), (1, .int a1), (2, .int a2), (3, .int a3), (4, .int a4)]) hx hb dX0_listSopranos_13 hl (by decide) rfl (fun ls hl => ?_)
  have LX0_listSopranos_15 : ∀ (n : Nat) (v1 : Int32) (v2 : Int32) (wl_3 : Nat → Int32) (o12 : Int32) (o13 : Int32) (o14 : Nat → Int32), lpX0_listSopranos_15 a1 a2 a3 sz mi fg nt wt n v1 v2 wl_3 = some (o12, o13, o14) → ∀ (H : Heap) (locs : List Loc), va_P D vwCl (fb_wX0 cI h0 qf qn qw ql sz mi fg nt wt wl_3) H → va_D A (fb_wX0 cI h0 qf qn qw ql sz mi fg nt wt wl_3) → va_S A s.heap H locs → ∀ (ls : Array Slot), lv_has ls 7 [(6, .int v1), (5, .int v2), (0, .ref h0), (1, .int a1), (2, .int a2), (3, .int a3)] → (∀ (H : Heap) (locs : List Loc), va_P D vwCl (fb_wX0 cI h0 qf qn qw ql sz mi fg nt wt o14) H → va_D A (fb_wX0 cI h0 qf qn qw ql sz mi fg nt wt o14) → va_S A s.heap H locs → ∀ (ls : Array Slot), lv_has ls 7 [(6, .int o12), (5, .int o13), (0, .ref h0), (1, .int a1), (2, .int a2), (3, .int a3)] → W p l e (headSpec wsX0_listSopranos rmX0_listSopranos).room s m ([.ref h0, .int a1, .int a2, .int a3, .int a4] : List Value).toArray below meth c H locs 0 0 (MQ below (fb_qM (fun q => some (.int ro)) (fun q => fb_wX0 cI h0 qf qn qw ql sz mi fg nt wt wlo) D A) ([.ref h0, .int a1, .int a2, .int a3, .int a4] : List Value).toArray s 0 0 A) (F0 m 76 ls [])) → W p l e (headSpec wsX0_listSopranos rmX0_listSopranos).room s m ([.ref h0, .int a1, .int a2, .int a3, .int a4] : List Value).toArray below meth c H locs 0 0 (MQ below (fb_qM (fun q => some (.int ro)) (fun q => fb_wX0 cI h0 qf qn qw ql sz mi fg nt wt wlo) D A) ([.ref h0, .int a1, .int a2, .int a3, .int a4] : List Value).toArray s 0 0 A) (F0 m 15 ls []) := by
    intro n
    induction n with
    | zero =>
      intro v1 v2 wl_3 o12 o13 o14 h
      rw [lpX0_listSopranos_15.eq_1] at h
      cases h
    | succ n ih =>
      intro v1 v2 wl_3 o12 o13 o14 h H locs hP hD hS ls hl kx
      rw [lpX0_listSopranos_15.eq_2] at h
      refine lv_iload hx hb dX0_listSopranos_15 (lv_at hl 0 rfl) ?_
      refine va_gets hx hb hz_HIGHEST hS hown (hts _ w_f142) (fun _ h9 => h9) dX0_listSopranos_17 ?_
      refine lv_iconst (v := 3) hx hb dX0_listSopranos_20 (by decide) ?_
      refine va_ti hx hb ht_HIGHEST hS (fb_ixin (by decide)) rfl dX0_listSopranos_21 ?_
      refine lv_icmp_gt (tgt := 76) hx hb dX0_listSopranos_22 (by decide) (fun c4 => ?_) (fun c4 => ?_)
      · replace h := fb_it c4 h
        obtain ⟨e1, e2, e3⟩ := fb_p3 h
        subst e1
        subst e2
        subst e3
        exact kx H locs hP hD hS ls (lv_sub hl [0, 1, 2, 3, 4, 5] rfl)
      · replace h := fb_ie c4 h
        refine lv_aload_n hx hb dX0_listSopranos_25 rfl (lv_at hl 2 rfl) ?_
        refine lv_iload_n hx hb dX0_listSopranos_26 rfl (lv_at hl 3 rfl) ?_
        refine lv_iload_n hx hb dX0_listSopranos_27 rfl (lv_at hl 4 rfl) ?_
        refine lv_iload_n hx hb dX0_listSopranos_28 rfl (lv_at hl 5 rfl) ?_
        refine lv_iload hx hb dX0_listSopranos_29 (lv_at hl 0 rfl) ?_
        obtain ⟨r6, h5, h⟩ := fb_b1s h
        refine fb_callR (W.runV (As := [.int a1, .int a2, .int a3, .int v1]) (rest := []) ⟨hx, hb, hml, hown, hts⟩ (metX0_isRightWith l D cI h0 qf qn qw ql B0 sz mi fg nt wt wl_3 a1 a2 a3 v1 r6 h5) (cwV 4 hts gX0_listSopranos_X0_isRightWith rfl rfl rfl (by decide +kernel) ⟨Nat.le_of_ble_eq_true rfl, Nat.le_of_ble_eq_true rfl⟩) (fb_preVR (ci := 0) fb_sX0p hP hK hZ hS hAB rfl rfl _) rfl rfl hl.1 rfl (lv_room (Nat.le_of_ble_eq_true rfl)) dX0_listSopranos_31 ⟨Nat.le_of_ble_eq_true rfl, Nat.le_of_ble_eq_true rfl⟩) ?_
        obtain ⟨j10, wl_11, hjJ1, h⟩ := fb_b2s h
        have J1 : ∀ (H : Heap) (locs : List Loc), va_P D vwCl (fb_wX0 cI h0 qf qn qw ql sz mi fg nt wt wl_11) H → va_D A (fb_wX0 cI h0 qf qn qw ql sz mi fg nt wt wl_11) → va_S A s.heap H locs → ∀ (ls : Array Slot), lv_has ls 7 [(6, .int v1), (5, .int j10), (0, .ref h0), (1, .int a1), (2, .int a2), (3, .int a3)] → W p l e (headSpec wsX0_listSopranos rmX0_listSopranos).room s m ([.ref h0, .int a1, .int a2, .int a3, .int a4] : List Value).toArray below meth c H locs 0 0 (MQ below (fb_qM (fun q => some (.int ro)) (fun q => fb_wX0 cI h0 qf qn qw ql sz mi fg nt wt wlo) D A) ([.ref h0, .int a1, .int a2, .int a3, .int a4] : List Value).toArray s 0 0 A) (F0 m 70 ls []) := by
          intro H locs hP hD hS ls hl
          refine lv_iinc (v := v1 + 1) (lv' := [(6, .int (v1 + 1)), (5, .int j10), (0, .ref h0), (1, .int a1), (2, .int a2), (3, .int a3)]) hx hb dX0_listSopranos_70 hl (k := 0) rfl rfl (by decide) rfl (fun ls hl => ?_)
          refine lv_goto (tgt := 15) hx hb dX0_listSopranos_73 (by decide) ?_
          exact ih _ _ _ o12 o13 o14 h H locs hP hD hS ls (lv_sub hl [0, 1, 2, 3, 4, 5] rfl) kx
        replace h := hjJ1
        refine lv_if_eq (tgt := 70) hx hb dX0_listSopranos_34 (by decide) (fun c7 => ?_) (fun c7 => ?_)
        · replace h := fb_it c7 h
          obtain ⟨e1, e2⟩ := fb_p2 h
          subst e1
          subst e2
          exact J1 H locs hP hD hS ls (lv_sub hl [0, 1, 2, 3, 4, 5] rfl)
        · replace h := fb_ie c7 h
          refine lv_iload hx hb dX0_listSopranos_37 (lv_at hl 1 rfl) ?_
          refine lv_aload_n hx hb dX0_listSopranos_39 rfl (lv_at hl 2 rfl) ?_
          refine va_get (D := D) (ci := 0) (v := .ref ql) (C := RX0) (T := TX0) (N := 6) hx hb hts hin0 hown hK hP 0 rfl rfl 5 (by decide) (hts _ w_f27) (fun _ h9 => h9) rfl dX0_listSopranos_40 ?_
          refine va_alen hx hb hK hP 4 0 rfl rfl (v := 96) rfl dX0_listSopranos_43 ?_
          refine lv_icmp_ge (tgt := 70) hx hb dX0_listSopranos_44 (by decide) (fun c8 => ?_) (fun c8 => ?_)
          · replace h := fb_it c8 h
            obtain ⟨e1, e2⟩ := fb_p2 h
            subst e1
            subst e2
            exact J1 H locs hP hD hS ls (lv_sub hl [0, 1, 2, 3, 4, 5] rfl)
          · replace h := fb_ie c8 h
            refine lv_aload_n hx hb dX0_listSopranos_47 rfl (lv_at hl 2 rfl) ?_
            refine va_get (D := D) (ci := 0) (v := .ref ql) (C := RX0) (T := TX0) (N := 6) hx hb hts hin0 hown hK hP 0 rfl rfl 5 (by decide) (hts _ w_f27) (fun _ h9 => h9) rfl dX0_listSopranos_48 ?_
            refine lv_iload hx hb dX0_listSopranos_51 (lv_at hl 1 rfl) ?_
            refine lv_iload_n hx hb dX0_listSopranos_53 rfl (lv_at hl 4 rfl) ?_
            refine lv_sipush (v := 784) hx hb dX0_listSopranos_54 (by decide) ?_
            refine lv_imul hx hb dX0_listSopranos_57 ?_
            refine lv_iload_n hx hb dX0_listSopranos_58 rfl (lv_at hl 5 rfl) ?_
            refine lv_bipush (v := 28) hx hb dX0_listSopranos_59 (by decide) ?_
            refine lv_imul hx hb dX0_listSopranos_61 ?_
            refine lv_iadd hx hb dX0_listSopranos_62 ?_
            refine lv_iload hx hb dX0_listSopranos_63 (lv_at hl 0 rfl) ?_
            refine lv_iadd hx hb dX0_listSopranos_65 ?_
            obtain ⟨hi9, h⟩ := fb_cks h
            refine va_iast hx hb hK hP hD hS 4 0 rfl rfl (fb_ixin hi9) dX0_listSopranos_66 (fun H locs hP hD hS => ?_)
            have hP : va_P D vwCl (fb_wX0 cI h0 qf qn qw ql sz mi fg nt wt (upd wl_3 v2.toNatClampNeg (((a2 * 784) + (a3 * 28)) + v1))) H := hP
            have hD : va_D A (fb_wX0 cI h0 qf qn qw ql sz mi fg nt wt (upd wl_3 v2.toNatClampNeg (((a2 * 784) + (a3 * 28)) + v1))) := hD
            refine lv_iinc (v := v2 + 1) (lv' := [(5, .int (v2 + 1)), (6, .int v1), (0, .ref h0), (1, .int a1), (2, .int a2), (3, .int a3)]) hx hb dX0_listSopranos_67 hl (k := 1) rfl rfl (by decide) rfl (fun ls hl => ?_)
            obtain ⟨e1, e2⟩ := fb_p2 h
            subst e1
            subst e2
            exact J1 H locs hP hD hS ls (lv_sub hl [1, 0, 2, 3, 4, 5] rfl)
  obtain ⟨o12, o13, o14, h16, h⟩ := fb_b3s h
  refine LX0_listSopranos_15 _ _ _ _ o12 o13 o14 h16 H locs hP hD hS ls (lv_sub hl [0, 1, 2, 3, 4, 5] rfl) (fun H locs hP hD hS ls hl => ?_)
  refine lv_iload hx hb dX0_listSopranos_76 (lv_at hl 1 rfl) ?_
  obtain ⟨e1, e2⟩ := fb_p2 h
  subst e1
  subst e2
  exact W.iret hx hb hr (fun t ht _ => ⟨⟨0, rfl, by rw [ht]; exact hP, hD⟩, hS.F ht⟩) hS.2.2 dX0_listSopranos_78
abbrev rmX0_listWays : Room := { frames := 3, cells := 0, slots := 0, locals := 74 }
set_option maxHeartbeats 8000000 in
set_option maxRecDepth 100000 in
theorem metX0_listWays (l : Launch) (D : va_G) (cI : ClassId) (h0 qf qn qw ql B0 : Nat) (sz : Int32) (mi : Int32) (fg : Nat → Int32) (nt : Nat → Int32) (wt : Nat → Int32) (wl : Nat → Int32) (a1 : Int32) (hz : Nat) (ro : Int32) (wlo : Nat → Int32) (h : fX0_listWays sz mi fg nt wt wl a1 = some (ro, wlo)) : Met l yX0_listWays wsX0_listWays rmX0_listWays (va_Pc [.ref h0, .int a1] (fb_pm D [(cI, .int)] B0 fb_sX0 (fb_wX0 cI h0 qf qn qw ql sz mi fg nt wt wl) hz)) (fb_qM (fun q => some (.int ro)) (fun q => fb_wX0 cI h0 qf qn qw ql sz mi fg nt wt wlo) D (va_A (fb_wX0 cI h0 qf qn qw ql sz mi fg nt wt wl) hz)) 0 0 (va_A (fb_wX0 cI h0 qf qn qw ql sz mi fg nt wt wl) hz) := by
  refine Met.ofW (cc := cX0_listWays) (maxL := 5) (ret := (some .int)) (by decide) rfl ?_
  intro p e s m args below meth c s₁ B hml hv
  obtain ⟨rfl, hsz, ⟨hP, hK, hZ⟩, hD0, hAB⟩ := hv
  have hx := B.exec
  have hb := B.bytes
  have hr := B.returns
  have hts := atoms_spec (ws := wsX0_listWays) B.pre
  have hown : s.vm.findClass RX0 = some m.cls := findClass_of_methodNamed B.named
  have hlocks := B.notSynchronized
  subst hsz
  have hD := hD0.self (sz := s.heap.size)
  generalize hAe : va_A (fb_wX0 cI h0 qf qn qw ql sz mi fg nt wt wl) s.heap.size = A at hD hAB ⊢
  have hA : ∀ q : Nat, s.heap.size ≤ q → A q := fun q h9 => by rw [← hAe]; exact Or.inr h9
  have hS : va_S A s.heap s.heap [] := va_S.rf
  have hP : va_P D vwCl (fb_wX0 cI h0 qf qn qw ql sz mi fg nt wt wl) s.heap := hP
  obtain ⟨t_HIGHEST, hz_HIGHEST, ht_HIGHEST⟩ := fb_stA_narrow hZ.2.1 hAB
  obtain ⟨t_LOWEST, hz_LOWEST, ht_LOWEST⟩ := fb_stA_narrow hZ.1 hAB
  have hin0 : ∀ w ∈ u_ws RX0 TX0 6, w ∈ wsX0_listWays := fun _ h9 => List.mem_cons_of_mem _ (List.mem_append_right _ (h9))
  have w_f139 : (Cond.fieldLink RX0 139 "FiguredBass" "LOWEST" "[I") ∈ wsX0_listWays := List.mem_of_getElem? (i := 1) rfl
  have w_f142 : (Cond.fieldLink RX0 142 "FiguredBass" "HIGHEST" "[I") ∈ wsX0_listWays := List.mem_of_getElem? (i := 2) rfl
  have w_m194 : (Cond.methodLink RX0 194 Lib.Math.max.name) ∈ wsX0_listWays := List.mem_of_getElem? (i := 3) rfl
  have w_mcmax : (Cond.code Lib.Math.max.name Lib.Math.max.code 2 (some .int)) ∈ wsX0_listWays := List.mem_of_getElem? (i := 6) rfl
  have w_mi : (Cond.initialized "java/lang/Math") ∈ wsX0_listWays := List.mem_of_getElem? (i := 5) rfl
  have w_msmax : (Cond.static Lib.Math.max.name) ∈ wsX0_listWays := List.mem_of_getElem? (i := 4) rfl
  have hl := lv_entry ([.ref h0, .int a1]) (n := 5) (Nat.le_of_ble_eq_true rfl)
  rw [lg_entry_eq]
  generalize (lg_sl ([.ref h0, .int a1]) ++ List.replicate (5 - (lg_sl ([.ref h0, .int a1])).length) Slot.unset).toArray = ls at hl ⊢
  have hl : lv_has ls 5 [(0, .ref h0), (1, .int a1)] := hl
  suffices K : ∀ (H : Heap) (locs : List Loc), va_P D vwCl (fb_wX0 cI h0 qf qn qw ql sz mi fg nt wt wl) H → va_S A s.heap H locs → W p l e (headSpec wsX0_listWays rmX0_listWays).room s m ([.ref h0, .int a1] : List Value).toArray below meth c H locs 0 0 (MQ below (fb_qM (fun q => some (.int ro)) (fun q => fb_wX0 cI h0 qf qn qw ql sz mi fg nt wt wlo) D A) ([.ref h0, .int a1] : List Value).toArray s 0 0 A) (F0 m 0 ls []) from K s.heap [] hP hS
  intro H locs hP hS
  unfold fX0_listWays at h
  refine lv_iconst (v := 0) hx hb dX0_listWays_0 (by decide) ?_
  refine lv_istore_n (lv' := [(2, .int 0), (0, .ref h0), (1, .int a1)]) hx hb dX0_listWays_1 rfl hl (by decide) rfl (fun ls hl => ?_)
  refine va_gets hx hb hz_LOWEST hS hown (hts _ w_f139) (fun _ h9 => h9) dX0_listWays_2 ?_
  refine lv_iconst (v := 1) hx hb dX0_listWays_5 (by decide) ?_
  refine va_ti hx hb ht_LOWEST hS (fb_ixin (by decide)) rfl dX0_listWays_6 ?_
  refine lv_istore_n (lv' := [(3, .int (fb_tX0_LOWEST (1 : Int32).toNatClampNeg)), (2, .int 0), (0, .ref h0), (1, .int a1)]) hx hb dX0_listWays_7 rfl hl (by decide) rfl (fun ls hl => ?_)
  have LX0_listWays_8 : ∀ (n : Nat) (v1 : Int32) (v2 : Int32) (wl_3 : Nat → Int32) (o26 : Int32) (o27 : Int32) (o28 : Nat → Int32), lpX0_listWays_8 a1 sz mi fg nt wt n v1 v2 wl_3 = some (o26, o27, o28) → ∀ (H : Heap) (locs : List Loc), va_P D vwCl (fb_wX0 cI h0 qf qn qw ql sz mi fg nt wt wl_3) H → va_D A (fb_wX0 cI h0 qf qn qw ql sz mi fg nt wt wl_3) → va_S A s.heap H locs → ∀ (ls : Array Slot), lv_has ls 5 [(3, .int v1), (2, .int v2), (0, .ref h0), (1, .int a1)] → (∀ (H : Heap) (locs : List Loc), va_P D vwCl (fb_wX0 cI h0 qf qn qw ql sz mi fg nt wt o28) H → va_D A (fb_wX0 cI h0 qf qn qw ql sz mi fg nt wt o28) → va_S A s.heap H locs → ∀ (ls : Array Slot), lv_has ls 5 [(3, .int o26), (2, .int o27), (0, .ref h0), (1, .int a1)] → W p l e (headSpec wsX0_listWays rmX0_listWays).room s m ([.ref h0, .int a1] : List Value).toArray below meth c H locs 0 0 (MQ below (fb_qM (fun q => some (.int ro)) (fun q => fb_wX0 cI h0 qf qn qw ql sz mi fg nt wt wlo) D A) ([.ref h0, .int a1] : List Value).toArray s 0 0 A) (F0 m 79 ls [])) → W p l e (headSpec wsX0_listWays rmX0_listWays).room s m ([.ref h0, .int a1] : List Value).toArray below meth c H locs 0 0 (MQ below (fb_qM (fun q => some (.int ro)) (fun q => fb_wX0 cI h0 qf qn qw ql sz mi fg nt wt wlo) D A) ([.ref h0, .int a1] : List Value).toArray s 0 0 A) (F0 m 8 ls []) := by
    intro n
    induction n with
    | zero =>
      intro v1 v2 wl_3 o26 o27 o28 h
      rw [lpX0_listWays_8.eq_1] at h
      cases h
    | succ n ih =>
      intro v1 v2 wl_3 o26 o27 o28 h H locs hP hD hS ls hl kx
      rw [lpX0_listWays_8.eq_2] at h
      refine lv_iload_n hx hb dX0_listWays_8 rfl (lv_at hl 0 rfl) ?_
      refine va_gets hx hb hz_HIGHEST hS hown (hts _ w_f142) (fun _ h9 => h9) dX0_listWays_9 ?_
      refine lv_iconst (v := 1) hx hb dX0_listWays_12 (by decide) ?_
      refine va_ti hx hb ht_HIGHEST hS (fb_ixin (by decide)) rfl dX0_listWays_13 ?_
      refine lv_icmp_gt (tgt := 79) hx hb dX0_listWays_14 (by decide) (fun c4 => ?_) (fun c4 => ?_)
      · replace h := fb_it c4 h
        obtain ⟨e1, e2, e3⟩ := fb_p3 h
        subst e1
        subst e2
        subst e3
        exact kx H locs hP hD hS ls (lv_sub hl [0, 1, 2, 3] rfl)
      · replace h := fb_ie c4 h
        refine lv_aload_n hx hb dX0_listWays_17 rfl (lv_at hl 2 rfl) ?_
        refine lv_iload_n hx hb dX0_listWays_18 rfl (lv_at hl 3 rfl) ?_
        refine lv_iload_n hx hb dX0_listWays_19 rfl (lv_at hl 0 rfl) ?_
        obtain ⟨r6, h5, h⟩ := fb_b1s h
        refine fb_callR (W.runV (As := [.int a1, .int v1]) (rest := []) ⟨hx, hb, hml, hown, hts⟩ (metX0_belongs l D cI h0 qf qn qw ql B0 sz mi fg nt wt wl_3 a1 v1 r6 h5) (cwV 2 hts gX0_listWays_X0_belongs rfl rfl rfl (by decide +kernel) ⟨Nat.le_of_ble_eq_true rfl, Nat.le_of_ble_eq_true rfl⟩) (fb_preVR (ci := 0) fb_sX0p hP hK hZ hS hAB rfl rfl _) rfl rfl hl.1 rfl (lv_room (Nat.le_of_ble_eq_true rfl)) dX0_listWays_20 ⟨Nat.le_of_ble_eq_true rfl, Nat.le_of_ble_eq_true rfl⟩) ?_
        obtain ⟨j24, wl_25, hjJ1, h⟩ := fb_b2s h
        have J1 : ∀ (H : Heap) (locs : List Loc), va_P D vwCl (fb_wX0 cI h0 qf qn qw ql sz mi fg nt wt wl_25) H → va_D A (fb_wX0 cI h0 qf qn qw ql sz mi fg nt wt wl_25) → va_S A s.heap H locs → ∀ (ls : Array Slot), lv_has ls 5 [(3, .int v1), (2, .int j24), (0, .ref h0), (1, .int a1)] → W p l e (headSpec wsX0_listWays rmX0_listWays).room s m ([.ref h0, .int a1] : List Value).toArray below meth c H locs 0 0 (MQ below (fb_qM (fun q => some (.int ro)) (fun q => fb_wX0 cI h0 qf qn qw ql sz mi fg nt wt wlo) D A) ([.ref h0, .int a1] : List Value).toArray s 0 0 A) (F0 m 73 ls []) := by
          intro H locs hP hD hS ls hl
          refine lv_iinc (v := v1 + 1) (lv' := [(3, .int (v1 + 1)), (2, .int j24), (0, .ref h0), (1, .int a1)]) hx hb dX0_listWays_73 hl (k := 0) rfl rfl (by decide) rfl (fun ls hl => ?_)
          refine lv_goto (tgt := 8) hx hb dX0_listWays_76 (by decide) ?_
          exact ih _ _ _ o26 o27 o28 h H locs hP hD hS ls (lv_sub hl [0, 1, 2, 3] rfl) kx
        replace h := hjJ1
        refine lv_if_eq (tgt := 73) hx hb dX0_listWays_23 (by decide) (fun c7 => ?_) (fun c7 => ?_)
        · replace h := fb_it c7 h
          obtain ⟨e1, e2⟩ := fb_p2 h
          subst e1
          subst e2
          exact J1 H locs hP hD hS ls (lv_sub hl [0, 1, 2, 3] rfl)
        · replace h := fb_ie c7 h
          refine lv_iload_n hx hb dX0_listWays_26 rfl (lv_at hl 0 rfl) ?_
          refine va_gets hx hb hz_LOWEST hS hown (hts _ w_f139) (fun _ h9 => h9) dX0_listWays_27 ?_
          refine lv_iconst (v := 2) hx hb dX0_listWays_30 (by decide) ?_
          refine va_ti hx hb ht_LOWEST hS (fb_ixin (by decide)) rfl dX0_listWays_31 ?_
          refine va_mmax hx hb (by rw [hml]; exact hl.1.symm) hown (hts _ w_m194) (hts _ w_msmax) (hts _ w_mi) (hts _ w_mcmax) (Nat.le_of_ble_eq_true rfl) (Nat.le_of_ble_eq_true rfl) (Nat.le_of_ble_eq_true rfl) (Nat.le_of_ble_eq_true rfl) dX0_listWays_32 ?_
          refine lv_istore (lv' := [(4, .int (if v1 < (fb_tX0_LOWEST (2 : Int32).toNatClampNeg) then (fb_tX0_LOWEST (2 : Int32).toNatClampNeg) else v1)), (3, .int v1), (2, .int v2), (0, .ref h0), (1, .int a1)]) hx hb dX0_listWays_35 hl (by decide) rfl (fun ls hl => ?_)
          have LX0_listWays_37 : ∀ (n : Nat) (v8 : Int32) (v9 : Int32) (wl_10 : Nat → Int32) (o20 : Int32) (o21 : Int32) (o22 : Nat → Int32), lpX0_listWays_37 a1 sz mi fg nt wt v1 n v8 v9 wl_10 = some (o20, o21, o22) → ∀ (H : Heap) (locs : List Loc), va_P D vwCl (fb_wX0 cI h0 qf qn qw ql sz mi fg nt wt wl_10) H → va_D A (fb_wX0 cI h0 qf qn qw ql sz mi fg nt wt wl_10) → va_S A s.heap H locs → ∀ (ls : Array Slot), lv_has ls 5 [(4, .int v8), (3, .int v1), (2, .int v9), (0, .ref h0), (1, .int a1)] → (∀ (H : Heap) (locs : List Loc), va_P D vwCl (fb_wX0 cI h0 qf qn qw ql sz mi fg nt wt o22) H → va_D A (fb_wX0 cI h0 qf qn qw ql sz mi fg nt wt o22) → va_S A s.heap H locs → ∀ (ls : Array Slot), lv_has ls 5 [(4, .int o20), (3, .int v1), (2, .int o21), (0, .ref h0), (1, .int a1)] → W p l e (headSpec wsX0_listWays rmX0_listWays).room s m ([.ref h0, .int a1] : List Value).toArray below meth c H locs 0 0 (MQ below (fb_qM (fun q => some (.int ro)) (fun q => fb_wX0 cI h0 qf qn qw ql sz mi fg nt wt wlo) D A) ([.ref h0, .int a1] : List Value).toArray s 0 0 A) (F0 m 73 ls [])) → W p l e (headSpec wsX0_listWays rmX0_listWays).room s m ([.ref h0, .int a1] : List Value).toArray below meth c H locs 0 0 (MQ below (fb_qM (fun q => some (.int ro)) (fun q => fb_wX0 cI h0 qf qn qw ql sz mi fg nt wt wlo) D A) ([.ref h0, .int a1] : List Value).toArray s 0 0 A) (F0 m 37 ls []) := by
            intro n
            induction n with
            | zero =>
              intro v8 v9 wl_10 o20 o21 o22 h
              rw [lpX0_listWays_37.eq_1] at h
              cases h
            | succ n ih =>
              intro v8 v9 wl_10 o20 o21 o22 h H locs hP hD hS ls hl kx
              rw [lpX0_listWays_37.eq_2] at h
              refine lv_iload hx hb dX0_listWays_37 (lv_at hl 0 rfl) ?_
              refine va_gets hx hb hz_HIGHEST hS hown (hts _ w_f142) (fun _ h9 => h9) dX0_listWays_39 ?_
              refine lv_iconst (v := 2) hx hb dX0_listWays_42 (by decide) ?_
              refine va_ti hx hb ht_HIGHEST hS (fb_ixin (by decide)) rfl dX0_listWays_43 ?_
              refine lv_icmp_gt (tgt := 73) hx hb dX0_listWays_44 (by decide) (fun c11 => ?_) (fun c11 => ?_)
              · replace h := fb_it c11 h
                obtain ⟨e1, e2, e3⟩ := fb_p3 h
                subst e1
                subst e2
                subst e3
                exact kx H locs hP hD hS ls (lv_sub hl [0, 1, 2, 3, 4] rfl)
              · replace h := fb_ie c11 h
                refine lv_aload_n hx hb dX0_listWays_47 rfl (lv_at hl 3 rfl) ?_
                refine lv_iload_n hx hb dX0_listWays_48 rfl (lv_at hl 4 rfl) ?_
                refine lv_iload hx hb dX0_listWays_49 (lv_at hl 0 rfl) ?_
                obtain ⟨r13, h12, h⟩ := fb_b1s h
                refine fb_callR (W.runV (As := [.int a1, .int v8]) (rest := []) ⟨hx, hb, hml, hown, hts⟩ (metX0_belongs l D cI h0 qf qn qw ql B0 sz mi fg nt wt wl_10 a1 v8 r13 h12) (cwV 2 hts gX0_listWays_X0_belongs rfl rfl rfl (by decide +kernel) ⟨Nat.le_of_ble_eq_true rfl, Nat.le_of_ble_eq_true rfl⟩) (fb_preVR (ci := 0) fb_sX0p hP hK hZ hS hAB rfl rfl _) rfl rfl hl.1 rfl (lv_room (Nat.le_of_ble_eq_true rfl)) dX0_listWays_51 ⟨Nat.le_of_ble_eq_true rfl, Nat.le_of_ble_eq_true rfl⟩) ?_
                obtain ⟨j18, wl_19, hjJ2, h⟩ := fb_b2s h
                have J2 : ∀ (H : Heap) (locs : List Loc), va_P D vwCl (fb_wX0 cI h0 qf qn qw ql sz mi fg nt wt wl_19) H → va_D A (fb_wX0 cI h0 qf qn qw ql sz mi fg nt wt wl_19) → va_S A s.heap H locs → ∀ (ls : Array Slot), lv_has ls 5 [(4, .int v8), (3, .int v1), (2, .int j18), (0, .ref h0), (1, .int a1)] → W p l e (headSpec wsX0_listWays rmX0_listWays).room s m ([.ref h0, .int a1] : List Value).toArray below meth c H locs 0 0 (MQ below (fb_qM (fun q => some (.int ro)) (fun q => fb_wX0 cI h0 qf qn qw ql sz mi fg nt wt wlo) D A) ([.ref h0, .int a1] : List Value).toArray s 0 0 A) (F0 m 67 ls []) := by
                  intro H locs hP hD hS ls hl
                  refine lv_iinc (v := v8 + 1) (lv' := [(4, .int (v8 + 1)), (3, .int v1), (2, .int j18), (0, .ref h0), (1, .int a1)]) hx hb dX0_listWays_67 hl (k := 0) rfl rfl (by decide) rfl (fun ls hl => ?_)
                  refine lv_goto (tgt := 37) hx hb dX0_listWays_70 (by decide) ?_
                  exact ih _ _ _ o20 o21 o22 h H locs hP hD hS ls (lv_sub hl [0, 1, 2, 3, 4] rfl) kx
                replace h := hjJ2
                refine lv_if_eq (tgt := 67) hx hb dX0_listWays_54 (by decide) (fun c14 => ?_) (fun c14 => ?_)
                · replace h := fb_it c14 h
                  obtain ⟨e1, e2⟩ := fb_p2 h
                  subst e1
                  subst e2
                  exact J2 H locs hP hD hS ls (lv_sub hl [0, 1, 2, 3, 4] rfl)
                · replace h := fb_ie c14 h
                  refine lv_aload_n hx hb dX0_listWays_57 rfl (lv_at hl 3 rfl) ?_
                  refine lv_iload_n hx hb dX0_listWays_58 rfl (lv_at hl 4 rfl) ?_
                  refine lv_iload_n hx hb dX0_listWays_59 rfl (lv_at hl 1 rfl) ?_
                  refine lv_iload hx hb dX0_listWays_60 (lv_at hl 0 rfl) ?_
                  refine lv_iload_n hx hb dX0_listWays_62 rfl (lv_at hl 2 rfl) ?_
                  obtain ⟨r16, wl_17, h15, h⟩ := fb_b2s h
                  have hPc : va_P D vwCl (fb_wX0 cI h0 qf qn qw ql sz mi fg nt wt wl_10) H := hP.sub [0, 1, 2, 3, 4] rfl
                  have hDc : va_D A (fb_wX0 cI h0 qf qn qw ql sz mi fg nt wt wl_10) := hD.sub [0, 1, 2, 3, 4] (by decide) rfl
                  have hFc := va_free (wc := fb_wX0 cI h0 qf qn qw ql sz mi fg nt wt wl_10) hD hS hA [0, 1, 2, 3, 4] rfl
                  refine fb_callM (va_runV (As := [.int a1, .int v1, .int v8, .int v9]) (rest := []) ⟨hx, hb, hml, hown, hts⟩ (metX0_listSopranos l D cI h0 qf qn qw ql B0 sz mi fg nt wt wl_10 a1 v1 v8 v9 H.size r16 wl_17 h15) (cwV 4 hts gX0_listWays_X0_listSopranos rfl rfl rfl (by decide +kernel) ⟨Nat.le_of_ble_eq_true rfl, Nat.le_of_ble_eq_true rfl⟩) (fb_preVM (ci := 0) fb_sX0p hPc hK hDc hZ hS hAB hA rfl rfl _) rfl rfl hl.1 rfl (lv_room (Nat.le_of_ble_eq_true rfl)) dX0_listWays_63 ⟨Nat.le_of_ble_eq_true rfl, Nat.le_of_ble_eq_true rfl⟩) hS (fun q _ h9 => hFc q h9) hFc (fun _ H1 locs hP1 hD1 hz1 hk1 hS => ?_)
                  have hP : va_P D vwCl (fb_wX0 cI h0 qf qn qw ql sz mi fg nt wt wl_17) H1 := hP1
                  have hD : va_D A (fb_wX0 cI h0 qf qn qw ql sz mi fg nt wt wl_17) := hD1.weaken (fun _ q _ h9 => hFc q.1 h9)
                  generalize H1 = H at hP hS
                  refine lv_istore_n (lv' := [(2, .int r16), (4, .int v8), (3, .int v1), (0, .ref h0), (1, .int a1)]) hx hb dX0_listWays_66 rfl hl (by decide) rfl (fun ls hl => ?_)
                  obtain ⟨e1, e2⟩ := fb_p2 h
                  subst e1
                  subst e2
                  exact J2 H locs hP hD hS ls (lv_sub hl [1, 2, 0, 3, 4] rfl)
          obtain ⟨o20, o21, o22, h23, h⟩ := fb_b3s h
          refine LX0_listWays_37 _ _ _ _ o20 o21 o22 h23 H locs hP hD hS ls (lv_sub hl [0, 1, 2, 3, 4] rfl) (fun H locs hP hD hS ls hl => ?_)
          obtain ⟨e1, e2⟩ := fb_p2 h
          subst e1
          subst e2
          exact J1 H locs hP hD hS ls (lv_sub hl [1, 2, 3, 4] rfl)
  obtain ⟨o26, o27, o28, h30, h⟩ := fb_b3s h
  refine LX0_listWays_8 _ _ _ _ o26 o27 o28 h30 H locs hP hD hS ls (lv_sub hl [0, 1, 2, 3] rfl) (fun H locs hP hD hS ls hl => ?_)
  refine lv_iload_n hx hb dX0_listWays_79 rfl (lv_at hl 1 rfl) ?_
  obtain ⟨e1, e2⟩ := fb_p2 h
  subst e1
  subst e2
  exact W.iret hx hb hr (fun t ht _ => ⟨⟨0, rfl, by rw [ht]; exact hP, hD⟩, hS.F ht⟩) hS.2.2 dX0_listWays_80
abbrev rmX0_bestWay : Room := { frames := 5, cells := 0, slots := 0, locals := 118 }
set_option maxHeartbeats 8000000 in
set_option maxRecDepth 100000 in
theorem metX0_bestWay (l : Launch) (D : va_G) (cI : ClassId) (h0 qf qn qw ql B0 : Nat) (sz : Int32) (mi : Int32) (fg : Nat → Int32) (nt : Nat → Int32) (wt : Nat → Int32) (wl : Nat → Int32) (a1 : Int32) (hz : Nat) (ro : Int32) (nto : Nat → Int32) (wlo : Nat → Int32) (h : fX0_bestWay sz mi fg nt wt wl a1 = some (ro, nto, wlo)) : Met l yX0_bestWay wsX0_bestWay rmX0_bestWay (va_Pc [.ref h0, .int a1] (fb_pm D [(cI, .int)] B0 fb_sX0 (fb_wX0 cI h0 qf qn qw ql sz mi fg nt wt wl) hz)) (fb_qM (fun q => some (.int ro)) (fun q => fb_wX0 cI h0 qf qn qw ql sz mi fg nto wt wlo) D (va_A (fb_wX0 cI h0 qf qn qw ql sz mi fg nt wt wl) hz)) 0 0 (va_A (fb_wX0 cI h0 qf qn qw ql sz mi fg nt wt wl) hz) := by
  refine Met.ofW (cc := cX0_bestWay) (maxL := 10) (ret := (some .int)) (by decide) rfl ?_
  intro p e s m args below meth c s₁ B hml hv
  obtain ⟨rfl, hsz, ⟨hP, hK, hZ⟩, hD0, hAB⟩ := hv
  have hx := B.exec
  have hb := B.bytes
  have hr := B.returns
  have hts := atoms_spec (ws := wsX0_bestWay) B.pre
  have hown : s.vm.findClass RX0 = some m.cls := findClass_of_methodNamed B.named
  have hlocks := B.notSynchronized
  subst hsz
  have hD := hD0.self (sz := s.heap.size)
  generalize hAe : va_A (fb_wX0 cI h0 qf qn qw ql sz mi fg nt wt wl) s.heap.size = A at hD hAB ⊢
  have hA : ∀ q : Nat, s.heap.size ≤ q → A q := fun q h9 => by rw [← hAe]; exact Or.inr h9
  have hS : va_S A s.heap s.heap [] := va_S.rf
  have hP : va_P D vwCl (fb_wX0 cI h0 qf qn qw ql sz mi fg nt wt wl) s.heap := hP
  have hin0 : ∀ w ∈ u_ws RX0 TX0 6, w ∈ wsX0_bestWay := fun _ h9 => List.mem_cons_of_mem _ (List.mem_append_right _ (h9))
  have w_f27 : (Cond.fieldLink RX0 27 "FiguredBass" "wayList" "[I") ∈ wsX0_bestWay := List.mem_of_getElem? (i := 1) rfl
  have hl := lv_entry ([.ref h0, .int a1]) (n := 10) (Nat.le_of_ble_eq_true rfl)
  rw [lg_entry_eq]
  generalize (lg_sl ([.ref h0, .int a1]) ++ List.replicate (10 - (lg_sl ([.ref h0, .int a1])).length) Slot.unset).toArray = ls at hl ⊢
  have hl : lv_has ls 10 [(0, .ref h0), (1, .int a1)] := hl
  suffices K : ∀ (H : Heap) (locs : List Loc), va_P D vwCl (fb_wX0 cI h0 qf qn qw ql sz mi fg nt wt wl) H → va_S A s.heap H locs → W p l e (headSpec wsX0_bestWay rmX0_bestWay).room s m ([.ref h0, .int a1] : List Value).toArray below meth c H locs 0 0 (MQ below (fb_qM (fun q => some (.int ro)) (fun q => fb_wX0 cI h0 qf qn qw ql sz mi fg nto wt wlo) D A) ([.ref h0, .int a1] : List Value).toArray s 0 0 A) (F0 m 0 ls []) from K s.heap [] hP hS
  intro H locs hP hS
  unfold fX0_bestWay at h
  refine lv_aload_n hx hb dX0_bestWay_0 rfl (lv_at hl 0 rfl) ?_
  refine lv_iload_n hx hb dX0_bestWay_1 rfl (lv_at hl 1 rfl) ?_
  refine lv_iconst (v := 1) hx hb dX0_bestWay_2 (by decide) ?_
  obtain ⟨r2, h1, h⟩ := fb_b1s h
  refine fb_callR (W.runV (As := [.int a1, .int 1]) (rest := []) ⟨hx, hb, hml, hown, hts⟩ (metX0_noteAt l D cI h0 qf qn qw ql B0 sz mi fg nt wt wl a1 1 r2 h1) (cwV 2 hts gX0_bestWay_X0_noteAt rfl rfl rfl (by decide +kernel) ⟨Nat.le_of_ble_eq_true rfl, Nat.le_of_ble_eq_true rfl⟩) (fb_preVR (ci := 0) fb_sX0p hP hK hZ hS hAB rfl rfl _) rfl rfl hl.1 rfl (lv_room (Nat.le_of_ble_eq_true rfl)) dX0_bestWay_3 ⟨Nat.le_of_ble_eq_true rfl, Nat.le_of_ble_eq_true rfl⟩) ?_
  refine lv_istore_n (lv' := [(2, .int r2), (0, .ref h0), (1, .int a1)]) hx hb dX0_bestWay_6 rfl hl (by decide) rfl (fun ls hl => ?_)
  refine lv_aload_n hx hb dX0_bestWay_7 rfl (lv_at hl 1 rfl) ?_
  refine lv_iload_n hx hb dX0_bestWay_8 rfl (lv_at hl 2 rfl) ?_
  refine lv_iconst (v := 2) hx hb dX0_bestWay_9 (by decide) ?_
  obtain ⟨r4, h3, h⟩ := fb_b1s h
  refine fb_callR (W.runV (As := [.int a1, .int 2]) (rest := []) ⟨hx, hb, hml, hown, hts⟩ (metX0_noteAt l D cI h0 qf qn qw ql B0 sz mi fg nt wt wl a1 2 r4 h3) (cwV 2 hts gX0_bestWay_X0_noteAt rfl rfl rfl (by decide +kernel) ⟨Nat.le_of_ble_eq_true rfl, Nat.le_of_ble_eq_true rfl⟩) (fb_preVR (ci := 0) fb_sX0p hP hK hZ hS hAB rfl rfl _) rfl rfl hl.1 rfl (lv_room (Nat.le_of_ble_eq_true rfl)) dX0_bestWay_10 ⟨Nat.le_of_ble_eq_true rfl, Nat.le_of_ble_eq_true rfl⟩) ?_
  refine lv_istore_n (lv' := [(3, .int r4), (2, .int r2), (0, .ref h0), (1, .int a1)]) hx hb dX0_bestWay_13 rfl hl (by decide) rfl (fun ls hl => ?_)
  refine lv_aload_n hx hb dX0_bestWay_14 rfl (lv_at hl 2 rfl) ?_
  refine lv_iload_n hx hb dX0_bestWay_15 rfl (lv_at hl 3 rfl) ?_
  refine lv_iconst (v := 3) hx hb dX0_bestWay_16 (by decide) ?_
  obtain ⟨r6, h5, h⟩ := fb_b1s h
  refine fb_callR (W.runV (As := [.int a1, .int 3]) (rest := []) ⟨hx, hb, hml, hown, hts⟩ (metX0_noteAt l D cI h0 qf qn qw ql B0 sz mi fg nt wt wl a1 3 r6 h5) (cwV 2 hts gX0_bestWay_X0_noteAt rfl rfl rfl (by decide +kernel) ⟨Nat.le_of_ble_eq_true rfl, Nat.le_of_ble_eq_true rfl⟩) (fb_preVR (ci := 0) fb_sX0p hP hK hZ hS hAB rfl rfl _) rfl rfl hl.1 rfl (lv_room (Nat.le_of_ble_eq_true rfl)) dX0_bestWay_17 ⟨Nat.le_of_ble_eq_true rfl, Nat.le_of_ble_eq_true rfl⟩) ?_
  refine lv_istore (lv' := [(4, .int r6), (3, .int r4), (2, .int r2), (0, .ref h0), (1, .int a1)]) hx hb dX0_bestWay_20 hl (by decide) rfl (fun ls hl => ?_)
  refine lv_aload_n hx hb dX0_bestWay_22 rfl (lv_at hl 3 rfl) ?_
  refine lv_iload_n hx hb dX0_bestWay_23 rfl (lv_at hl 4 rfl) ?_
  obtain ⟨r8, wl_9, h7, h⟩ := fb_b2s h
  have hPc : va_P D vwCl (fb_wX0 cI h0 qf qn qw ql sz mi fg nt wt wl) H := hP.sub [0, 1, 2, 3, 4] rfl
  have hDc : va_D A (fb_wX0 cI h0 qf qn qw ql sz mi fg nt wt wl) := hD.sub [0, 1, 2, 3, 4] (by decide) rfl
  have hFc := va_free (wc := fb_wX0 cI h0 qf qn qw ql sz mi fg nt wt wl) hD hS hA [0, 1, 2, 3, 4] rfl
  refine fb_callM (va_runV (As := [.int a1]) (rest := []) ⟨hx, hb, hml, hown, hts⟩ (metX0_listWays l D cI h0 qf qn qw ql B0 sz mi fg nt wt wl a1 H.size r8 wl_9 h7) (cwV 1 hts gX0_bestWay_X0_listWays rfl rfl rfl (by decide +kernel) ⟨Nat.le_of_ble_eq_true rfl, Nat.le_of_ble_eq_true rfl⟩) (fb_preVM (ci := 0) fb_sX0p hPc hK hDc hZ hS hAB hA rfl rfl _) rfl rfl hl.1 rfl (lv_room (Nat.le_of_ble_eq_true rfl)) dX0_bestWay_24 ⟨Nat.le_of_ble_eq_true rfl, Nat.le_of_ble_eq_true rfl⟩) hS (fun q _ h9 => hFc q h9) hFc (fun _ H1 locs hP1 hD1 hz1 hk1 hS => ?_)
  have hP : va_P D vwCl (fb_wX0 cI h0 qf qn qw ql sz mi fg nt wt wl_9) H1 := hP1
  have hD : va_D A (fb_wX0 cI h0 qf qn qw ql sz mi fg nt wt wl_9) := hD1.weaken (fun _ q _ h9 => hFc q.1 h9)
  generalize H1 = H at hP hS
  refine lv_istore (lv' := [(5, .int r8), (4, .int r6), (3, .int r4), (2, .int r2), (0, .ref h0), (1, .int a1)]) hx hb dX0_bestWay_27 hl (by decide) rfl (fun ls hl => ?_)
  refine lv_iconst (v := (-1)) hx hb dX0_bestWay_29 (by decide) ?_
  refine lv_istore (lv' := [(6, .int (-1)), (5, .int r8), (4, .int r6), (3, .int r4), (2, .int r2), (0, .ref h0), (1, .int a1)]) hx hb dX0_bestWay_30 hl (by decide) rfl (fun ls hl => ?_)
  refine lv_iconst (v := 0) hx hb dX0_bestWay_32 (by decide) ?_
  refine lv_istore (lv' := [(7, .int 0), (6, .int (-1)), (5, .int r8), (4, .int r6), (3, .int r4), (2, .int r2), (0, .ref h0), (1, .int a1)]) hx hb dX0_bestWay_33 hl (by decide) rfl (fun ls hl => ?_)
  refine lv_iconst (v := 0) hx hb dX0_bestWay_35 (by decide) ?_
  refine lv_istore (lv' := [(8, .int 0), (7, .int 0), (6, .int (-1)), (5, .int r8), (4, .int r6), (3, .int r4), (2, .int r2), (0, .ref h0), (1, .int a1)]) hx hb dX0_bestWay_36 hl (by decide) rfl (fun ls hl => ?_)
  have LX0_bestWay_38 : ∀ (n : Nat) (v10 : Int32) (v11 : Int32) (v12 : Int32) (nt_13 : Nat → Int32) (o27 : Int32) (o28 : Int32) (o29 : Int32) (o30 : Nat → Int32), lpX0_bestWay_38 a1 sz mi fg wt r8 wl_9 n v10 v11 v12 nt_13 = some (o27, o28, o29, o30) → ∀ (H : Heap) (locs : List Loc), va_P D vwCl (fb_wX0 cI h0 qf qn qw ql sz mi fg nt_13 wt wl_9) H → va_D A (fb_wX0 cI h0 qf qn qw ql sz mi fg nt_13 wt wl_9) → va_S A s.heap H locs → ∀ (ls : Array Slot), lv_has ls 10 [(8, .int v10), (7, .int v11), (6, .int v12), (5, .int r8), (4, .int r6), (3, .int r4), (2, .int r2), (0, .ref h0), (1, .int a1)] → (∀ (H : Heap) (locs : List Loc), va_P D vwCl (fb_wX0 cI h0 qf qn qw ql sz mi fg o30 wt wl_9) H → va_D A (fb_wX0 cI h0 qf qn qw ql sz mi fg o30 wt wl_9) → va_S A s.heap H locs → ∀ (ls : Array Slot), lv_has ls 10 [(8, .int o27), (7, .int o28), (6, .int o29), (5, .int r8), (4, .int r6), (3, .int r4), (2, .int r2), (0, .ref h0), (1, .int a1)] → W p l e (headSpec wsX0_bestWay rmX0_bestWay).room s m ([.ref h0, .int a1] : List Value).toArray below meth c H locs 0 0 (MQ below (fb_qM (fun q => some (.int ro)) (fun q => fb_wX0 cI h0 qf qn qw ql sz mi fg nto wt wlo) D A) ([.ref h0, .int a1] : List Value).toArray s 0 0 A) (F0 m 113 ls [])) → W p l e (headSpec wsX0_bestWay rmX0_bestWay).room s m ([.ref h0, .int a1] : List Value).toArray below meth c H locs 0 0 (MQ below (fb_qM (fun q => some (.int ro)) (fun q => fb_wX0 cI h0 qf qn qw ql sz mi fg nto wt wlo) D A) ([.ref h0, .int a1] : List Value).toArray s 0 0 A) (F0 m 38 ls []) := by
    intro n
    induction n with
    | zero =>
      intro v10 v11 v12 nt_13 o27 o28 o29 o30 h
      rw [lpX0_bestWay_38.eq_1] at h
      cases h
    | succ n ih =>
      intro v10 v11 v12 nt_13 o27 o28 o29 o30 h H locs hP hD hS ls hl kx
      rw [lpX0_bestWay_38.eq_2] at h
      refine lv_iload hx hb dX0_bestWay_38 (lv_at hl 0 rfl) ?_
      refine lv_iload hx hb dX0_bestWay_40 (lv_at hl 3 rfl) ?_
      refine lv_icmp_ge (tgt := 113) hx hb dX0_bestWay_42 (by decide) (fun c14 => ?_) (fun c14 => ?_)
      · replace h := fb_it c14 h
        obtain ⟨e1, e2, e3, e4⟩ := fb_p4 h
        subst e1
        subst e2
        subst e3
        subst e4
        exact kx H locs hP hD hS ls (lv_sub hl [0, 1, 2, 3, 4, 5, 6, 7, 8] rfl)
      · replace h := fb_ie c14 h
        refine lv_iload hx hb dX0_bestWay_45 (lv_at hl 0 rfl) ?_
        refine lv_aload_n hx hb dX0_bestWay_47 rfl (lv_at hl 7 rfl) ?_
        refine va_get (D := D) (ci := 0) (v := .ref ql) (C := RX0) (T := TX0) (N := 6) hx hb hts hin0 hown hK hP 0 rfl rfl 5 (by decide) (hts _ w_f27) (fun _ h9 => h9) rfl dX0_bestWay_48 ?_
        refine va_alen hx hb hK hP 4 0 rfl rfl (v := 96) rfl dX0_bestWay_51 ?_
        refine lv_icmp_ge (tgt := 113) hx hb dX0_bestWay_52 (by decide) (fun c15 => ?_) (fun c15 => ?_)
        · replace h := fb_it c15 h
          obtain ⟨e1, e2, e3, e4⟩ := fb_p4 h
          subst e1
          subst e2
          subst e3
          subst e4
          exact kx H locs hP hD hS ls (lv_sub hl [0, 1, 2, 3, 4, 5, 6, 7, 8] rfl)
        · replace h := fb_ie c15 h
          refine lv_aload_n hx hb dX0_bestWay_55 rfl (lv_at hl 7 rfl) ?_
          refine lv_iload_n hx hb dX0_bestWay_56 rfl (lv_at hl 8 rfl) ?_
          refine lv_aload_n hx hb dX0_bestWay_57 rfl (lv_at hl 7 rfl) ?_
          refine va_get (D := D) (ci := 0) (v := .ref ql) (C := RX0) (T := TX0) (N := 6) hx hb hts hin0 hown hK hP 0 rfl rfl 5 (by decide) (hts _ w_f27) (fun _ h9 => h9) rfl dX0_bestWay_58 ?_
          refine lv_iload hx hb dX0_bestWay_61 (lv_at hl 0 rfl) ?_
          obtain ⟨hi16, h⟩ := fb_cks h
          refine va_iald hx hb hK hP 4 0 rfl rfl (fb_ixin hi16) dX0_bestWay_63 ?_
          obtain ⟨nt_18, h17, h⟩ := fb_b1s h
          have hPc : va_P D vwCl (fb_wX0 cI h0 qf qn qw ql sz mi fg nt_13 wt wl_9) H := hP.sub [0, 1, 2, 3, 4] rfl
          have hDc : va_D A (fb_wX0 cI h0 qf qn qw ql sz mi fg nt_13 wt wl_9) := hD.sub [0, 1, 2, 3, 4] (by decide) rfl
          have hFc := va_free (wc := fb_wX0 cI h0 qf qn qw ql sz mi fg nt_13 wt wl_9) hD hS hA [0, 1, 2, 3, 4] rfl
          refine fb_callM (va_runV (As := [.int a1, .int (wl_9 v10.toNatClampNeg)]) (rest := []) ⟨hx, hb, hml, hown, hts⟩ (metX0_putWay l D cI h0 qf qn qw ql B0 sz mi fg nt_13 wt wl_9 a1 (wl_9 v10.toNatClampNeg) H.size nt_18 h17) (cwV 2 hts gX0_bestWay_X0_putWay rfl rfl rfl (by decide +kernel) ⟨Nat.le_of_ble_eq_true rfl, Nat.le_of_ble_eq_true rfl⟩) (fb_preVM (ci := 0) fb_sX0p hPc hK hDc hZ hS hAB hA rfl rfl _) rfl rfl hl.1 rfl (lv_room (Nat.le_of_ble_eq_true rfl)) dX0_bestWay_64 ⟨Nat.le_of_ble_eq_true rfl, Nat.le_of_ble_eq_true rfl⟩) hS (fun q _ h9 => hFc q h9) hFc (fun _ H1 locs hP1 hD1 hz1 hk1 hS => ?_)
          have hP : va_P D vwCl (fb_wX0 cI h0 qf qn qw ql sz mi fg nt_18 wt wl_9) H1 := hP1
          have hD : va_D A (fb_wX0 cI h0 qf qn qw ql sz mi fg nt_18 wt wl_9) := hD1.weaken (fun _ q _ h9 => hFc q.1 h9)
          generalize H1 = H at hP hS
          refine lv_aload_n hx hb dX0_bestWay_67 rfl (lv_at hl 7 rfl) ?_
          refine lv_iload_n hx hb dX0_bestWay_68 rfl (lv_at hl 8 rfl) ?_
          obtain ⟨r20, h19, h⟩ := fb_b1s h
          refine fb_callR (W.runV (As := [.int a1]) (rest := []) ⟨hx, hb, hml, hown, hts⟩ (metX0_costOf l D cI h0 qf qn qw ql B0 sz mi fg nt_18 wt wl_9 a1 r20 h19) (cwV 1 hts gX0_bestWay_X0_costOf rfl rfl rfl (by decide +kernel) ⟨Nat.le_of_ble_eq_true rfl, Nat.le_of_ble_eq_true rfl⟩) (fb_preVR (ci := 0) fb_sX0p hP hK hZ hS hAB rfl rfl _) rfl rfl hl.1 rfl (lv_room (Nat.le_of_ble_eq_true rfl)) dX0_bestWay_69 ⟨Nat.le_of_ble_eq_true rfl, Nat.le_of_ble_eq_true rfl⟩) ?_
          refine lv_aload_n hx hb dX0_bestWay_72 rfl (lv_at hl 7 rfl) ?_
          refine lv_iload_n hx hb dX0_bestWay_73 rfl (lv_at hl 8 rfl) ?_
          refine lv_iconst (v := 1) hx hb dX0_bestWay_74 (by decide) ?_
          refine lv_iadd hx hb dX0_bestWay_75 ?_
          obtain ⟨r22, h21, h⟩ := fb_b1s h
          refine fb_callR (W.runV (As := [.int (a1 + 1)]) (rest := [.int r20]) ⟨hx, hb, hml, hown, hts⟩ (metX0_costOf l D cI h0 qf qn qw ql B0 sz mi fg nt_18 wt wl_9 (a1 + 1) r22 h21) (cwV 1 hts gX0_bestWay_X0_costOf rfl rfl rfl (by decide +kernel) ⟨Nat.le_of_ble_eq_true rfl, Nat.le_of_ble_eq_true rfl⟩) (fb_preVR (ci := 0) fb_sX0p hP hK hZ hS hAB rfl rfl _) rfl rfl hl.1 rfl (lv_room (Nat.le_of_ble_eq_true rfl)) dX0_bestWay_76 ⟨Nat.le_of_ble_eq_true rfl, Nat.le_of_ble_eq_true rfl⟩) ?_
          refine lv_iadd hx hb dX0_bestWay_79 ?_
          refine lv_istore (lv' := [(9, .int (r20 + r22)), (8, .int v10), (7, .int v11), (6, .int v12), (5, .int r8), (4, .int r6), (3, .int r4), (2, .int r2), (0, .ref h0), (1, .int a1)]) hx hb dX0_bestWay_80 hl (by decide) rfl (fun ls hl => ?_)
          refine lv_iload hx hb dX0_bestWay_82 (lv_at hl 3 rfl) ?_
          obtain ⟨j25, j26, hjJ1, h⟩ := fb_b2s h
          have J1 : ∀ (H : Heap) (locs : List Loc), va_P D vwCl (fb_wX0 cI h0 qf qn qw ql sz mi fg nt_18 wt wl_9) H → va_D A (fb_wX0 cI h0 qf qn qw ql sz mi fg nt_18 wt wl_9) → va_S A s.heap H locs → ∀ (ls : Array Slot), lv_has ls 10 [(7, .int j25), (6, .int j26), (8, .int v10), (5, .int r8), (4, .int r6), (3, .int r4), (2, .int r2), (0, .ref h0), (1, .int a1)] → W p l e (headSpec wsX0_bestWay rmX0_bestWay).room s m ([.ref h0, .int a1] : List Value).toArray below meth c H locs 0 0 (MQ below (fb_qM (fun q => some (.int ro)) (fun q => fb_wX0 cI h0 qf qn qw ql sz mi fg nto wt wlo) D A) ([.ref h0, .int a1] : List Value).toArray s 0 0 A) (F0 m 107 ls []) := by
            intro H locs hP hD hS ls hl
            refine lv_iinc (v := v10 + 1) (lv' := [(8, .int (v10 + 1)), (7, .int j25), (6, .int j26), (5, .int r8), (4, .int r6), (3, .int r4), (2, .int r2), (0, .ref h0), (1, .int a1)]) hx hb dX0_bestWay_107 hl (k := 2) rfl rfl (by decide) rfl (fun ls hl => ?_)
            refine lv_goto (tgt := 38) hx hb dX0_bestWay_110 (by decide) ?_
            exact ih _ _ _ _ o27 o28 o29 o30 h H locs hP hD hS ls (lv_sub hl [0, 1, 2, 3, 4, 5, 6, 7, 8] rfl) kx
          replace h := hjJ1
          refine lv_if_lt (tgt := 94) hx hb dX0_bestWay_84 (by decide) (fun c23 => ?_) (fun c23 => ?_)
          · replace h := fb_it c23 h
            refine lv_aload_n hx hb dX0_bestWay_94 rfl (lv_at hl 8 rfl) ?_
            refine va_get (D := D) (ci := 0) (v := .ref ql) (C := RX0) (T := TX0) (N := 6) hx hb hts hin0 hown hK hP 0 rfl rfl 5 (by decide) (hts _ w_f27) (fun _ h9 => h9) rfl dX0_bestWay_95 ?_
            refine lv_iload hx hb dX0_bestWay_98 (lv_at hl 1 rfl) ?_
            refine va_iald hx hb hK hP 4 0 rfl rfl (fb_ixin hi16) dX0_bestWay_100 ?_
            refine lv_istore (lv' := [(6, .int (wl_9 v10.toNatClampNeg)), (9, .int (r20 + r22)), (8, .int v10), (7, .int v11), (5, .int r8), (4, .int r6), (3, .int r4), (2, .int r2), (0, .ref h0), (1, .int a1)]) hx hb dX0_bestWay_101 hl (by decide) rfl (fun ls hl => ?_)
            refine lv_iload hx hb dX0_bestWay_103 (lv_at hl 1 rfl) ?_
            refine lv_istore (lv' := [(7, .int (r20 + r22)), (6, .int (wl_9 v10.toNatClampNeg)), (9, .int (r20 + r22)), (8, .int v10), (5, .int r8), (4, .int r6), (3, .int r4), (2, .int r2), (0, .ref h0), (1, .int a1)]) hx hb dX0_bestWay_105 hl (by decide) rfl (fun ls hl => ?_)
            obtain ⟨e1, e2⟩ := fb_p2 h
            subst e1
            subst e2
            exact J1 H locs hP hD hS ls (lv_sub hl [0, 1, 3, 4, 5, 6, 7, 8, 9] rfl)
          · replace h := fb_ie c23 h
            refine lv_iload hx hb dX0_bestWay_87 (lv_at hl 0 rfl) ?_
            refine lv_iload hx hb dX0_bestWay_89 (lv_at hl 2 rfl) ?_
            refine lv_icmp_ge (tgt := 107) hx hb dX0_bestWay_91 (by decide) (fun c24 => ?_) (fun c24 => ?_)
            · replace h := fb_it c24 h
              obtain ⟨e1, e2⟩ := fb_p2 h
              subst e1
              subst e2
              exact J1 H locs hP hD hS ls (lv_sub hl [2, 3, 1, 4, 5, 6, 7, 8, 9] rfl)
            · replace h := fb_ie c24 h
              refine lv_aload_n hx hb dX0_bestWay_94 rfl (lv_at hl 8 rfl) ?_
              refine va_get (D := D) (ci := 0) (v := .ref ql) (C := RX0) (T := TX0) (N := 6) hx hb hts hin0 hown hK hP 0 rfl rfl 5 (by decide) (hts _ w_f27) (fun _ h9 => h9) rfl dX0_bestWay_95 ?_
              refine lv_iload hx hb dX0_bestWay_98 (lv_at hl 1 rfl) ?_
              refine va_iald hx hb hK hP 4 0 rfl rfl (fb_ixin hi16) dX0_bestWay_100 ?_
              refine lv_istore (lv' := [(6, .int (wl_9 v10.toNatClampNeg)), (9, .int (r20 + r22)), (8, .int v10), (7, .int v11), (5, .int r8), (4, .int r6), (3, .int r4), (2, .int r2), (0, .ref h0), (1, .int a1)]) hx hb dX0_bestWay_101 hl (by decide) rfl (fun ls hl => ?_)
              refine lv_iload hx hb dX0_bestWay_103 (lv_at hl 1 rfl) ?_
              refine lv_istore (lv' := [(7, .int (r20 + r22)), (6, .int (wl_9 v10.toNatClampNeg)), (9, .int (r20 + r22)), (8, .int v10), (5, .int r8), (4, .int r6), (3, .int r4), (2, .int r2), (0, .ref h0), (1, .int a1)]) hx hb dX0_bestWay_105 hl (by decide) rfl (fun ls hl => ?_)
              obtain ⟨e1, e2⟩ := fb_p2 h
              subst e1
              subst e2
              exact J1 H locs hP hD hS ls (lv_sub hl [0, 1, 3, 4, 5, 6, 7, 8, 9] rfl)
  obtain ⟨o27, o28, o29, o30, h34, h⟩ := fb_b4s h
  refine LX0_bestWay_38 _ _ _ _ _ o27 o28 o29 o30 h34 H locs hP hD hS ls (lv_sub hl [0, 1, 2, 3, 4, 5, 6, 7, 8] rfl) (fun H locs hP hD hS ls hl => ?_)
  refine lv_aload_n hx hb dX0_bestWay_113 rfl (lv_at hl 7 rfl) ?_
  refine lv_iload_n hx hb dX0_bestWay_114 rfl (lv_at hl 8 rfl) ?_
  refine lv_iload_n hx hb dX0_bestWay_115 rfl (lv_at hl 6 rfl) ?_
  refine lv_iload_n hx hb dX0_bestWay_116 rfl (lv_at hl 5 rfl) ?_
  refine lv_iload hx hb dX0_bestWay_117 (lv_at hl 4 rfl) ?_
  obtain ⟨nt_32, h31, h⟩ := fb_b1s h
  have hPc : va_P D vwCl (fb_wX0 cI h0 qf qn qw ql sz mi fg o30 wt wl_9) H := hP.sub [0, 1, 2, 3, 4] rfl
  have hDc : va_D A (fb_wX0 cI h0 qf qn qw ql sz mi fg o30 wt wl_9) := hD.sub [0, 1, 2, 3, 4] (by decide) rfl
  have hFc := va_free (wc := fb_wX0 cI h0 qf qn qw ql sz mi fg o30 wt wl_9) hD hS hA [0, 1, 2, 3, 4] rfl
  refine fb_callM (va_runV (As := [.int a1, .int r2, .int r4, .int r6]) (rest := []) ⟨hx, hb, hml, hown, hts⟩ (metX0_putNotes l D cI h0 qf qn qw ql B0 sz mi fg o30 wt wl_9 a1 r2 r4 r6 H.size nt_32 h31) (cwV 4 hts gX0_bestWay_X0_putNotes rfl rfl rfl (by decide +kernel) ⟨Nat.le_of_ble_eq_true rfl, Nat.le_of_ble_eq_true rfl⟩) (fb_preVM (ci := 0) fb_sX0p hPc hK hDc hZ hS hAB hA rfl rfl _) rfl rfl hl.1 rfl (lv_room (Nat.le_of_ble_eq_true rfl)) dX0_bestWay_119 ⟨Nat.le_of_ble_eq_true rfl, Nat.le_of_ble_eq_true rfl⟩) hS (fun q _ h9 => hFc q h9) hFc (fun _ H1 locs hP1 hD1 hz1 hk1 hS => ?_)
  have hP : va_P D vwCl (fb_wX0 cI h0 qf qn qw ql sz mi fg nt_32 wt wl_9) H1 := hP1
  have hD : va_D A (fb_wX0 cI h0 qf qn qw ql sz mi fg nt_32 wt wl_9) := hD1.weaken (fun _ q _ h9 => hFc q.1 h9)
  generalize H1 = H at hP hS
  refine lv_iload hx hb dX0_bestWay_122 (lv_at hl 2 rfl) ?_
  obtain ⟨e1, e2, e3⟩ := fb_p3 h
  subst e1
  subst e2
  subst e3
  exact W.iret hx hb hr (fun t ht _ => ⟨⟨0, rfl, by rw [ht]; exact hP, hD⟩, hS.F ht⟩) hS.2.2 dX0_bestWay_124
abbrev rmX0_digest : Room := { frames := 6, cells := 0, slots := 0, locals := 141 }
set_option maxHeartbeats 8000000 in
set_option maxRecDepth 100000 in
theorem metX0_digest (l : Launch) (D : va_G) (cI : ClassId) (h0 qf qn qw ql B0 : Nat) (sz : Int32) (mi : Int32) (fg : Nat → Int32) (nt : Nat → Int32) (wt : Nat → Int32) (wl : Nat → Int32) (hz : Nat) (ro : Int64) (wlo : Nat → Int32) (h : fX0_digest sz mi fg nt wt wl = some (ro, wlo)) : Met l yX0_digest wsX0_digest rmX0_digest (va_Pc [.ref h0] (fb_pm D [(cI, .int)] B0 fb_sX0 (fb_wX0 cI h0 qf qn qw ql sz mi fg nt wt wl) hz)) (fb_qM (fun q => some (.long ro)) (fun q => fb_wX0 cI h0 qf qn qw ql sz mi fg nt wt wlo) D (va_A (fb_wX0 cI h0 qf qn qw ql sz mi fg nt wt wl) hz)) 0 0 (va_A (fb_wX0 cI h0 qf qn qw ql sz mi fg nt wt wl) hz) := by
  refine Met.ofW (cc := cX0_digest) (maxL := 5) (ret := (some .long)) (by decide) rfl ?_
  intro p e s m args below meth c s₁ B hml hv
  obtain ⟨rfl, hsz, ⟨hP, hK, hZ⟩, hD0, hAB⟩ := hv
  have hx := B.exec
  have hb := B.bytes
  have hr := B.returns
  have hts := atoms_spec (ws := wsX0_digest) B.pre
  have hown : s.vm.findClass RX0 = some m.cls := findClass_of_methodNamed B.named
  have hlocks := B.notSynchronized
  subst hsz
  have hD := hD0.self (sz := s.heap.size)
  generalize hAe : va_A (fb_wX0 cI h0 qf qn qw ql sz mi fg nt wt wl) s.heap.size = A at hD hAB ⊢
  have hA : ∀ q : Nat, s.heap.size ≤ q → A q := fun q h9 => by rw [← hAe]; exact Or.inr h9
  have hS : va_S A s.heap s.heap [] := va_S.rf
  have hP : va_P D vwCl (fb_wX0 cI h0 qf qn qw ql sz mi fg nt wt wl) s.heap := hP
  have hin0 : ∀ w ∈ u_ws RX0 TX0 6, w ∈ wsX0_digest := fun _ h9 => List.mem_cons_of_mem _ (List.mem_append_right _ (h9))
  have w_f24 : (Cond.fieldLink RX0 24 "FiguredBass" "weights" "[I") ∈ wsX0_digest := List.mem_of_getElem? (i := 3) rfl
  have w_f7 : (Cond.fieldLink RX0 7 "FiguredBass" "size" "I") ∈ wsX0_digest := List.mem_of_getElem? (i := 4) rfl
  have w_k135 : (Cond.constantLong RX0 135 (1693)) ∈ wsX0_digest := List.mem_of_getElem? (i := 1) rfl
  have w_k137 : (Cond.constantLong RX0 137 (31)) ∈ wsX0_digest := List.mem_of_getElem? (i := 2) rfl
  have hl := lv_entry ([.ref h0]) (n := 5) (Nat.le_of_ble_eq_true rfl)
  rw [lg_entry_eq]
  generalize (lg_sl ([.ref h0]) ++ List.replicate (5 - (lg_sl ([.ref h0])).length) Slot.unset).toArray = ls at hl ⊢
  have hl : lv_has ls 5 [(0, .ref h0)] := hl
  suffices K : ∀ (H : Heap) (locs : List Loc), va_P D vwCl (fb_wX0 cI h0 qf qn qw ql sz mi fg nt wt wl) H → va_S A s.heap H locs → W p l e (headSpec wsX0_digest rmX0_digest).room s m ([.ref h0] : List Value).toArray below meth c H locs 0 0 (MQ below (fb_qM (fun q => some (.long ro)) (fun q => fb_wX0 cI h0 qf qn qw ql sz mi fg nt wt wlo) D A) ([.ref h0] : List Value).toArray s 0 0 A) (F0 m 0 ls []) from K s.heap [] hP hS
  intro H locs hP hS
  unfold fX0_digest at h
  refine lv_ldc2 hx hb hown (hts _ w_k135) dX0_digest_0 ?_
  refine lv_lstore_n (lv' := [(1, .long 1693), (0, .ref h0)]) hx hb dX0_digest_3 rfl hl (by decide) rfl (fun ls hl => ?_)
  refine lv_iconst (v := 0) hx hb dX0_digest_4 (by decide) ?_
  refine lv_istore_n (lv' := [(3, .int 0), (1, .long 1693), (0, .ref h0)]) hx hb dX0_digest_5 rfl hl (by decide) rfl (fun ls hl => ?_)
  have LX0_digest_6 : ∀ (n : Nat) (v1 : Int32) (v2 : Int64) (o6 : Int32) (o7 : Int64), lpX0_digest_6 sz mi fg nt wt wl n v1 v2 = some (o6, o7) → ∀ (H : Heap) (locs : List Loc), va_P D vwCl (fb_wX0 cI h0 qf qn qw ql sz mi fg nt wt wl) H → va_D A (fb_wX0 cI h0 qf qn qw ql sz mi fg nt wt wl) → va_S A s.heap H locs → ∀ (ls : Array Slot), lv_has ls 5 [(3, .int v1), (1, .long v2), (0, .ref h0)] → (∀ (H : Heap) (locs : List Loc), va_P D vwCl (fb_wX0 cI h0 qf qn qw ql sz mi fg nt wt wl) H → va_D A (fb_wX0 cI h0 qf qn qw ql sz mi fg nt wt wl) → va_S A s.heap H locs → ∀ (ls : Array Slot), lv_has ls 5 [(3, .int o6), (1, .long o7), (0, .ref h0)] → W p l e (headSpec wsX0_digest rmX0_digest).room s m ([.ref h0] : List Value).toArray below meth c H locs 0 0 (MQ below (fb_qM (fun q => some (.long ro)) (fun q => fb_wX0 cI h0 qf qn qw ql sz mi fg nt wt wlo) D A) ([.ref h0] : List Value).toArray s 0 0 A) (F0 m 31 ls [])) → W p l e (headSpec wsX0_digest rmX0_digest).room s m ([.ref h0] : List Value).toArray below meth c H locs 0 0 (MQ below (fb_qM (fun q => some (.long ro)) (fun q => fb_wX0 cI h0 qf qn qw ql sz mi fg nt wt wlo) D A) ([.ref h0] : List Value).toArray s 0 0 A) (F0 m 6 ls []) := by
    intro n
    induction n with
    | zero =>
      intro v1 v2 o6 o7 h
      rw [lpX0_digest_6.eq_1] at h
      cases h
    | succ n ih =>
      intro v1 v2 o6 o7 h H locs hP hD hS ls hl kx
      rw [lpX0_digest_6.eq_2] at h
      refine lv_iload_n hx hb dX0_digest_6 rfl (lv_at hl 0 rfl) ?_
      refine lv_bipush (v := 7) hx hb dX0_digest_7 (by decide) ?_
      refine lv_icmp_ge (tgt := 31) hx hb dX0_digest_9 (by decide) (fun c3 => ?_) (fun c3 => ?_)
      · replace h := fb_it c3 h
        obtain ⟨e1, e2⟩ := fb_p2 h
        subst e1
        subst e2
        exact kx H locs hP hD hS ls (lv_sub hl [0, 1, 2] rfl)
      · replace h := fb_ie c3 h
        refine lv_lload_n hx hb dX0_digest_12 rfl (lv_at hl 1 rfl) ?_
        refine lv_ldc2 hx hb hown (hts _ w_k137) dX0_digest_13 ?_
        refine lv_lmul hx hb dX0_digest_16 ?_
        refine lv_aload_n hx hb dX0_digest_17 rfl (lv_at hl 2 rfl) ?_
        refine lv_iload_n hx hb dX0_digest_18 rfl (lv_at hl 0 rfl) ?_
        obtain ⟨r5, h4, h⟩ := fb_b1s h
        refine fb_callR (W.runV (As := [.int v1]) (rest := [.long (v2 * 31)]) ⟨hx, hb, hml, hown, hts⟩ (metX0_countOf l D cI h0 qf qn qw ql B0 sz mi fg nt wt wl v1 r5 h4) (cwV 1 hts gX0_digest_X0_countOf rfl rfl rfl (by decide +kernel) ⟨Nat.le_of_ble_eq_true rfl, Nat.le_of_ble_eq_true rfl⟩) (fb_preVR (ci := 0) fb_sX0p hP hK hZ hS hAB rfl rfl _) rfl rfl hl.1 rfl (lv_room (Nat.le_of_ble_eq_true rfl)) dX0_digest_19 ⟨Nat.le_of_ble_eq_true rfl, Nat.le_of_ble_eq_true rfl⟩) ?_
        refine lv_i2l hx hb dX0_digest_22 rfl ?_
        refine lv_ladd hx hb dX0_digest_23 ?_
        refine lv_lstore_n (lv' := [(1, .long ((v2 * 31) + r5.toInt64)), (3, .int v1), (0, .ref h0)]) hx hb dX0_digest_24 rfl hl (by decide) rfl (fun ls hl => ?_)
        refine lv_iinc (v := v1 + 1) (lv' := [(3, .int (v1 + 1)), (1, .long ((v2 * 31) + r5.toInt64)), (0, .ref h0)]) hx hb dX0_digest_25 hl (k := 1) rfl rfl (by decide) rfl (fun ls hl => ?_)
        refine lv_goto (tgt := 6) hx hb dX0_digest_28 (by decide) ?_
        exact ih _ _ o6 o7 h H locs hP hD hS ls (lv_sub hl [0, 1, 2] rfl) kx
  obtain ⟨o6, o7, h51, h⟩ := fb_b2s h
  refine LX0_digest_6 _ _ _ o6 o7 h51 H locs hP hD hS ls (lv_sub hl [0, 1, 2] rfl) (fun H locs hP hD hS ls hl => ?_)
  refine lv_iconst (v := 0) hx hb dX0_digest_31 (by decide) ?_
  refine lv_istore_n (lv' := [(3, .int 0), (1, .long o7), (0, .ref h0)]) hx hb dX0_digest_32 rfl hl (by decide) rfl (fun ls hl => ?_)
  have LX0_digest_33 : ∀ (n : Nat) (v8 : Int32) (v9 : Int64) (o12 : Int32) (o13 : Int64), lpX0_digest_33 wt n v8 v9 = some (o12, o13) → ∀ (H : Heap) (locs : List Loc), va_P D vwCl (fb_wX0 cI h0 qf qn qw ql sz mi fg nt wt wl) H → va_D A (fb_wX0 cI h0 qf qn qw ql sz mi fg nt wt wl) → va_S A s.heap H locs → ∀ (ls : Array Slot), lv_has ls 5 [(3, .int v8), (1, .long v9), (0, .ref h0)] → (∀ (H : Heap) (locs : List Loc), va_P D vwCl (fb_wX0 cI h0 qf qn qw ql sz mi fg nt wt wl) H → va_D A (fb_wX0 cI h0 qf qn qw ql sz mi fg nt wt wl) → va_S A s.heap H locs → ∀ (ls : Array Slot), lv_has ls 5 [(3, .int o12), (1, .long o13), (0, .ref h0)] → W p l e (headSpec wsX0_digest rmX0_digest).room s m ([.ref h0] : List Value).toArray below meth c H locs 0 0 (MQ below (fb_qM (fun q => some (.long ro)) (fun q => fb_wX0 cI h0 qf qn qw ql sz mi fg nt wt wlo) D A) ([.ref h0] : List Value).toArray s 0 0 A) (F0 m 59 ls [])) → W p l e (headSpec wsX0_digest rmX0_digest).room s m ([.ref h0] : List Value).toArray below meth c H locs 0 0 (MQ below (fb_qM (fun q => some (.long ro)) (fun q => fb_wX0 cI h0 qf qn qw ql sz mi fg nt wt wlo) D A) ([.ref h0] : List Value).toArray s 0 0 A) (F0 m 33 ls []) := by
    intro n
    induction n with
    | zero =>
      intro v8 v9 o12 o13 h
      rw [lpX0_digest_33.eq_1] at h
      cases h
    | succ n ih =>
      intro v8 v9 o12 o13 h H locs hP hD hS ls hl kx
      rw [lpX0_digest_33.eq_2] at h
      refine lv_iload_n hx hb dX0_digest_33 rfl (lv_at hl 0 rfl) ?_
      refine lv_bipush (v := 8) hx hb dX0_digest_34 (by decide) ?_
      refine lv_icmp_ge (tgt := 59) hx hb dX0_digest_36 (by decide) (fun c10 => ?_) (fun c10 => ?_)
      · replace h := fb_it c10 h
        obtain ⟨e1, e2⟩ := fb_p2 h
        subst e1
        subst e2
        exact kx H locs hP hD hS ls (lv_sub hl [0, 1, 2] rfl)
      · replace h := fb_ie c10 h
        refine lv_lload_n hx hb dX0_digest_39 rfl (lv_at hl 1 rfl) ?_
        refine lv_ldc2 hx hb hown (hts _ w_k137) dX0_digest_40 ?_
        refine lv_lmul hx hb dX0_digest_43 ?_
        refine lv_aload_n hx hb dX0_digest_44 rfl (lv_at hl 2 rfl) ?_
        refine va_get (D := D) (ci := 0) (v := .ref qw) (C := RX0) (T := TX0) (N := 6) hx hb hts hin0 hown hK hP 0 rfl rfl 4 (by decide) (hts _ w_f24) (fun _ h9 => h9) rfl dX0_digest_45 ?_
        refine lv_iload_n hx hb dX0_digest_48 rfl (lv_at hl 0 rfl) ?_
        obtain ⟨hi11, h⟩ := fb_cks h
        refine va_iald hx hb hK hP 3 0 rfl rfl (fb_ixin hi11) dX0_digest_49 ?_
        refine lv_i2l hx hb dX0_digest_50 rfl ?_
        refine lv_ladd hx hb dX0_digest_51 ?_
        refine lv_lstore_n (lv' := [(1, .long ((v9 * 31) + ((wt v8.toNatClampNeg).toInt64))), (3, .int v8), (0, .ref h0)]) hx hb dX0_digest_52 rfl hl (by decide) rfl (fun ls hl => ?_)
        refine lv_iinc (v := v8 + 1) (lv' := [(3, .int (v8 + 1)), (1, .long ((v9 * 31) + ((wt v8.toNatClampNeg).toInt64))), (0, .ref h0)]) hx hb dX0_digest_53 hl (k := 1) rfl rfl (by decide) rfl (fun ls hl => ?_)
        refine lv_goto (tgt := 33) hx hb dX0_digest_56 (by decide) ?_
        exact ih _ _ o12 o13 h H locs hP hD hS ls (lv_sub hl [0, 1, 2] rfl) kx
  obtain ⟨o12, o13, h50, h⟩ := fb_b2s h
  refine LX0_digest_33 _ _ _ o12 o13 h50 H locs hP hD hS ls (lv_sub hl [0, 1, 2] rfl) (fun H locs hP hD hS ls hl => ?_)
  refine lv_iconst (v := 0) hx hb dX0_digest_59 (by decide) ?_
  refine lv_istore_n (lv' := [(3, .int 0), (1, .long o13), (0, .ref h0)]) hx hb dX0_digest_60 rfl hl (by decide) rfl (fun ls hl => ?_)
  have LX0_digest_61 : ∀ (n : Nat) (v14 : Int32) (v15 : Int64) (wl_16 : Nat → Int32) (o45 : Int32) (o46 : Int64) (o47 : Nat → Int32), lpX0_digest_61 sz mi fg nt wt n v14 v15 wl_16 = some (o45, o46, o47) → ∀ (H : Heap) (locs : List Loc), va_P D vwCl (fb_wX0 cI h0 qf qn qw ql sz mi fg nt wt wl_16) H → va_D A (fb_wX0 cI h0 qf qn qw ql sz mi fg nt wt wl_16) → va_S A s.heap H locs → ∀ (ls : Array Slot), lv_has ls 5 [(3, .int v14), (1, .long v15), (0, .ref h0)] → (∀ (H : Heap) (locs : List Loc), va_P D vwCl (fb_wX0 cI h0 qf qn qw ql sz mi fg nt wt o47) H → va_D A (fb_wX0 cI h0 qf qn qw ql sz mi fg nt wt o47) → va_S A s.heap H locs → ∀ (ls : Array Slot), lv_has ls 5 [(3, .int o45), (1, .long o46), (0, .ref h0)] → W p l e (headSpec wsX0_digest rmX0_digest).room s m ([.ref h0] : List Value).toArray below meth c H locs 0 0 (MQ below (fb_qM (fun q => some (.long ro)) (fun q => fb_wX0 cI h0 qf qn qw ql sz mi fg nt wt wlo) D A) ([.ref h0] : List Value).toArray s 0 0 A) (F0 m 180 ls [])) → W p l e (headSpec wsX0_digest rmX0_digest).room s m ([.ref h0] : List Value).toArray below meth c H locs 0 0 (MQ below (fb_qM (fun q => some (.long ro)) (fun q => fb_wX0 cI h0 qf qn qw ql sz mi fg nt wt wlo) D A) ([.ref h0] : List Value).toArray s 0 0 A) (F0 m 61 ls []) := by
    intro n
    induction n with
    | zero =>
      intro v14 v15 wl_16 o45 o46 o47 h
      rw [lpX0_digest_61.eq_1] at h
      cases h
    | succ n ih =>
      intro v14 v15 wl_16 o45 o46 o47 h H locs hP hD hS ls hl kx
      rw [lpX0_digest_61.eq_2] at h
      refine lv_iload_n hx hb dX0_digest_61 rfl (lv_at hl 0 rfl) ?_
      refine lv_aload_n hx hb dX0_digest_62 rfl (lv_at hl 2 rfl) ?_
      refine va_get (D := D) (ci := 0) (v := .int sz) (C := RX0) (T := TX0) (N := 6) hx hb hts hin0 hown hK hP 0 rfl rfl 0 (by decide) (hts _ w_f7) (fun _ h9 => h9) rfl dX0_digest_63 ?_
      refine lv_icmp_ge (tgt := 180) hx hb dX0_digest_66 (by decide) (fun c17 => ?_) (fun c17 => ?_)
      · replace h := fb_it c17 h
        obtain ⟨e1, e2, e3⟩ := fb_p3 h
        subst e1
        subst e2
        subst e3
        exact kx H locs hP hD hS ls (lv_sub hl [0, 1, 2] rfl)
      · replace h := fb_ie c17 h
        refine lv_iconst (v := 0) hx hb dX0_digest_69 (by decide) ?_
        refine lv_istore (lv' := [(4, .int 0), (3, .int v14), (1, .long v15), (0, .ref h0)]) hx hb dX0_digest_70 hl (by decide) rfl (fun ls hl => ?_)
        have LX0_digest_72 : ∀ (n : Nat) (v18 : Int32) (v19 : Int64) (o23 : Int32) (o24 : Int64), lpX0_digest_72 sz mi fg nt wt v14 wl_16 n v18 v19 = some (o23, o24) → ∀ (H : Heap) (locs : List Loc), va_P D vwCl (fb_wX0 cI h0 qf qn qw ql sz mi fg nt wt wl_16) H → va_D A (fb_wX0 cI h0 qf qn qw ql sz mi fg nt wt wl_16) → va_S A s.heap H locs → ∀ (ls : Array Slot), lv_has ls 5 [(4, .int v18), (3, .int v14), (1, .long v19), (0, .ref h0)] → (∀ (H : Heap) (locs : List Loc), va_P D vwCl (fb_wX0 cI h0 qf qn qw ql sz mi fg nt wt wl_16) H → va_D A (fb_wX0 cI h0 qf qn qw ql sz mi fg nt wt wl_16) → va_S A s.heap H locs → ∀ (ls : Array Slot), lv_has ls 5 [(4, .int o23), (3, .int v14), (1, .long o24), (0, .ref h0)] → W p l e (headSpec wsX0_digest rmX0_digest).room s m ([.ref h0] : List Value).toArray below meth c H locs 0 0 (MQ below (fb_qM (fun q => some (.long ro)) (fun q => fb_wX0 cI h0 qf qn qw ql sz mi fg nt wt wlo) D A) ([.ref h0] : List Value).toArray s 0 0 A) (F0 m 99 ls [])) → W p l e (headSpec wsX0_digest rmX0_digest).room s m ([.ref h0] : List Value).toArray below meth c H locs 0 0 (MQ below (fb_qM (fun q => some (.long ro)) (fun q => fb_wX0 cI h0 qf qn qw ql sz mi fg nt wt wlo) D A) ([.ref h0] : List Value).toArray s 0 0 A) (F0 m 72 ls []) := by
          intro n
          induction n with
          | zero =>
            intro v18 v19 o23 o24 h
            rw [lpX0_digest_72.eq_1] at h
            cases h
          | succ n ih =>
            intro v18 v19 o23 o24 h H locs hP hD hS ls hl kx
            rw [lpX0_digest_72.eq_2] at h
            refine lv_iload hx hb dX0_digest_72 (lv_at hl 0 rfl) ?_
            refine lv_iconst (v := 4) hx hb dX0_digest_74 (by decide) ?_
            refine lv_icmp_ge (tgt := 99) hx hb dX0_digest_75 (by decide) (fun c20 => ?_) (fun c20 => ?_)
            · replace h := fb_it c20 h
              obtain ⟨e1, e2⟩ := fb_p2 h
              subst e1
              subst e2
              exact kx H locs hP hD hS ls (lv_sub hl [0, 1, 2, 3] rfl)
            · replace h := fb_ie c20 h
              refine lv_lload_n hx hb dX0_digest_78 rfl (lv_at hl 2 rfl) ?_
              refine lv_ldc2 hx hb hown (hts _ w_k137) dX0_digest_79 ?_
              refine lv_lmul hx hb dX0_digest_82 ?_
              refine lv_aload_n hx hb dX0_digest_83 rfl (lv_at hl 3 rfl) ?_
              refine lv_iload_n hx hb dX0_digest_84 rfl (lv_at hl 1 rfl) ?_
              refine lv_iload hx hb dX0_digest_85 (lv_at hl 0 rfl) ?_
              obtain ⟨r22, h21, h⟩ := fb_b1s h
              refine fb_callR (W.runV (As := [.int v14, .int v18]) (rest := [.long (v19 * 31)]) ⟨hx, hb, hml, hown, hts⟩ (metX0_noteAt l D cI h0 qf qn qw ql B0 sz mi fg nt wt wl_16 v14 v18 r22 h21) (cwV 2 hts gX0_digest_X0_noteAt rfl rfl rfl (by decide +kernel) ⟨Nat.le_of_ble_eq_true rfl, Nat.le_of_ble_eq_true rfl⟩) (fb_preVR (ci := 0) fb_sX0p hP hK hZ hS hAB rfl rfl _) rfl rfl hl.1 rfl (lv_room (Nat.le_of_ble_eq_true rfl)) dX0_digest_87 ⟨Nat.le_of_ble_eq_true rfl, Nat.le_of_ble_eq_true rfl⟩) ?_
              refine lv_i2l hx hb dX0_digest_90 rfl ?_
              refine lv_ladd hx hb dX0_digest_91 ?_
              refine lv_lstore_n (lv' := [(1, .long ((v19 * 31) + r22.toInt64)), (4, .int v18), (3, .int v14), (0, .ref h0)]) hx hb dX0_digest_92 rfl hl (by decide) rfl (fun ls hl => ?_)
              refine lv_iinc (v := v18 + 1) (lv' := [(4, .int (v18 + 1)), (1, .long ((v19 * 31) + r22.toInt64)), (3, .int v14), (0, .ref h0)]) hx hb dX0_digest_93 hl (k := 1) rfl rfl (by decide) rfl (fun ls hl => ?_)
              refine lv_goto (tgt := 72) hx hb dX0_digest_96 (by decide) ?_
              exact ih _ _ o23 o24 h H locs hP hD hS ls (lv_sub hl [0, 2, 1, 3] rfl) kx
        obtain ⟨o23, o24, h44, h⟩ := fb_b2s h
        refine LX0_digest_72 _ _ _ o23 o24 h44 H locs hP hD hS ls (lv_sub hl [0, 1, 2, 3] rfl) (fun H locs hP hD hS ls hl => ?_)
        refine lv_iconst (v := 0) hx hb dX0_digest_99 (by decide) ?_
        refine lv_istore (lv' := [(4, .int 0), (3, .int v14), (1, .long o24), (0, .ref h0)]) hx hb dX0_digest_100 hl (by decide) rfl (fun ls hl => ?_)
        have LX0_digest_102 : ∀ (n : Nat) (v25 : Int32) (v26 : Int64) (o30 : Int32) (o31 : Int64), lpX0_digest_102 sz mi fg nt wt v14 wl_16 n v25 v26 = some (o30, o31) → ∀ (H : Heap) (locs : List Loc), va_P D vwCl (fb_wX0 cI h0 qf qn qw ql sz mi fg nt wt wl_16) H → va_D A (fb_wX0 cI h0 qf qn qw ql sz mi fg nt wt wl_16) → va_S A s.heap H locs → ∀ (ls : Array Slot), lv_has ls 5 [(4, .int v25), (3, .int v14), (1, .long v26), (0, .ref h0)] → (∀ (H : Heap) (locs : List Loc), va_P D vwCl (fb_wX0 cI h0 qf qn qw ql sz mi fg nt wt wl_16) H → va_D A (fb_wX0 cI h0 qf qn qw ql sz mi fg nt wt wl_16) → va_S A s.heap H locs → ∀ (ls : Array Slot), lv_has ls 5 [(4, .int o30), (3, .int v14), (1, .long o31), (0, .ref h0)] → W p l e (headSpec wsX0_digest rmX0_digest).room s m ([.ref h0] : List Value).toArray below meth c H locs 0 0 (MQ below (fb_qM (fun q => some (.long ro)) (fun q => fb_wX0 cI h0 qf qn qw ql sz mi fg nt wt wlo) D A) ([.ref h0] : List Value).toArray s 0 0 A) (F0 m 130 ls [])) → W p l e (headSpec wsX0_digest rmX0_digest).room s m ([.ref h0] : List Value).toArray below meth c H locs 0 0 (MQ below (fb_qM (fun q => some (.long ro)) (fun q => fb_wX0 cI h0 qf qn qw ql sz mi fg nt wt wlo) D A) ([.ref h0] : List Value).toArray s 0 0 A) (F0 m 102 ls []) := by
          intro n
          induction n with
          | zero =>
            intro v25 v26 o30 o31 h
            rw [lpX0_digest_102.eq_1] at h
            cases h
          | succ n ih =>
            intro v25 v26 o30 o31 h H locs hP hD hS ls hl kx
            rw [lpX0_digest_102.eq_2] at h
            refine lv_iload hx hb dX0_digest_102 (lv_at hl 0 rfl) ?_
            refine lv_bipush (v := 6) hx hb dX0_digest_104 (by decide) ?_
            refine lv_icmp_ge (tgt := 130) hx hb dX0_digest_106 (by decide) (fun c27 => ?_) (fun c27 => ?_)
            · replace h := fb_it c27 h
              obtain ⟨e1, e2⟩ := fb_p2 h
              subst e1
              subst e2
              exact kx H locs hP hD hS ls (lv_sub hl [0, 1, 2, 3] rfl)
            · replace h := fb_ie c27 h
              refine lv_lload_n hx hb dX0_digest_109 rfl (lv_at hl 2 rfl) ?_
              refine lv_ldc2 hx hb hown (hts _ w_k137) dX0_digest_110 ?_
              refine lv_lmul hx hb dX0_digest_113 ?_
              refine lv_aload_n hx hb dX0_digest_114 rfl (lv_at hl 3 rfl) ?_
              refine lv_iload_n hx hb dX0_digest_115 rfl (lv_at hl 1 rfl) ?_
              refine lv_iload hx hb dX0_digest_116 (lv_at hl 0 rfl) ?_
              obtain ⟨r29, h28, h⟩ := fb_b1s h
              refine fb_callR (W.runV (As := [.int v14, .int v25]) (rest := [.long (v26 * 31)]) ⟨hx, hb, hml, hown, hts⟩ (metX0_tellOf l D cI h0 qf qn qw ql B0 sz mi fg nt wt wl_16 v14 v25 r29 h28) (cwV 2 hts gX0_digest_X0_tellOf rfl rfl rfl (by decide +kernel) ⟨Nat.le_of_ble_eq_true rfl, Nat.le_of_ble_eq_true rfl⟩) (fb_preVR (ci := 0) fb_sX0p hP hK hZ hS hAB rfl rfl _) rfl rfl hl.1 rfl (lv_room (Nat.le_of_ble_eq_true rfl)) dX0_digest_118 ⟨Nat.le_of_ble_eq_true rfl, Nat.le_of_ble_eq_true rfl⟩) ?_
              refine lv_i2l hx hb dX0_digest_121 rfl ?_
              refine lv_ladd hx hb dX0_digest_122 ?_
              refine lv_lstore_n (lv' := [(1, .long ((v26 * 31) + r29.toInt64)), (4, .int v25), (3, .int v14), (0, .ref h0)]) hx hb dX0_digest_123 rfl hl (by decide) rfl (fun ls hl => ?_)
              refine lv_iinc (v := v25 + 1) (lv' := [(4, .int (v25 + 1)), (1, .long ((v26 * 31) + r29.toInt64)), (3, .int v14), (0, .ref h0)]) hx hb dX0_digest_124 hl (k := 1) rfl rfl (by decide) rfl (fun ls hl => ?_)
              refine lv_goto (tgt := 102) hx hb dX0_digest_127 (by decide) ?_
              exact ih _ _ o30 o31 h H locs hP hD hS ls (lv_sub hl [0, 2, 1, 3] rfl) kx
        obtain ⟨o30, o31, h43, h⟩ := fb_b2s h
        refine LX0_digest_102 _ _ _ o30 o31 h43 H locs hP hD hS ls (lv_sub hl [0, 1, 2, 3] rfl) (fun H locs hP hD hS ls hl => ?_)
        refine lv_iconst (v := 0) hx hb dX0_digest_130 (by decide) ?_
        refine lv_istore (lv' := [(4, .int 0), (3, .int v14), (1, .long o31), (0, .ref h0)]) hx hb dX0_digest_131 hl (by decide) rfl (fun ls hl => ?_)
        have LX0_digest_133 : ∀ (n : Nat) (v32 : Int32) (v33 : Int64) (o37 : Int32) (o38 : Int64), lpX0_digest_133 sz mi fg nt wt v14 wl_16 n v32 v33 = some (o37, o38) → ∀ (H : Heap) (locs : List Loc), va_P D vwCl (fb_wX0 cI h0 qf qn qw ql sz mi fg nt wt wl_16) H → va_D A (fb_wX0 cI h0 qf qn qw ql sz mi fg nt wt wl_16) → va_S A s.heap H locs → ∀ (ls : Array Slot), lv_has ls 5 [(4, .int v32), (3, .int v14), (1, .long v33), (0, .ref h0)] → (∀ (H : Heap) (locs : List Loc), va_P D vwCl (fb_wX0 cI h0 qf qn qw ql sz mi fg nt wt wl_16) H → va_D A (fb_wX0 cI h0 qf qn qw ql sz mi fg nt wt wl_16) → va_S A s.heap H locs → ∀ (ls : Array Slot), lv_has ls 5 [(4, .int o37), (3, .int v14), (1, .long o38), (0, .ref h0)] → W p l e (headSpec wsX0_digest rmX0_digest).room s m ([.ref h0] : List Value).toArray below meth c H locs 0 0 (MQ below (fb_qM (fun q => some (.long ro)) (fun q => fb_wX0 cI h0 qf qn qw ql sz mi fg nt wt wlo) D A) ([.ref h0] : List Value).toArray s 0 0 A) (F0 m 161 ls [])) → W p l e (headSpec wsX0_digest rmX0_digest).room s m ([.ref h0] : List Value).toArray below meth c H locs 0 0 (MQ below (fb_qM (fun q => some (.long ro)) (fun q => fb_wX0 cI h0 qf qn qw ql sz mi fg nt wt wlo) D A) ([.ref h0] : List Value).toArray s 0 0 A) (F0 m 133 ls []) := by
          intro n
          induction n with
          | zero =>
            intro v32 v33 o37 o38 h
            rw [lpX0_digest_133.eq_1] at h
            cases h
          | succ n ih =>
            intro v32 v33 o37 o38 h H locs hP hD hS ls hl kx
            rw [lpX0_digest_133.eq_2] at h
            refine lv_iload hx hb dX0_digest_133 (lv_at hl 0 rfl) ?_
            refine lv_bipush (v := 8) hx hb dX0_digest_135 (by decide) ?_
            refine lv_icmp_ge (tgt := 161) hx hb dX0_digest_137 (by decide) (fun c34 => ?_) (fun c34 => ?_)
            · replace h := fb_it c34 h
              obtain ⟨e1, e2⟩ := fb_p2 h
              subst e1
              subst e2
              exact kx H locs hP hD hS ls (lv_sub hl [0, 1, 2, 3] rfl)
            · replace h := fb_ie c34 h
              refine lv_lload_n hx hb dX0_digest_140 rfl (lv_at hl 2 rfl) ?_
              refine lv_ldc2 hx hb hown (hts _ w_k137) dX0_digest_141 ?_
              refine lv_lmul hx hb dX0_digest_144 ?_
              refine lv_aload_n hx hb dX0_digest_145 rfl (lv_at hl 3 rfl) ?_
              refine lv_iload_n hx hb dX0_digest_146 rfl (lv_at hl 1 rfl) ?_
              refine lv_iload hx hb dX0_digest_147 (lv_at hl 0 rfl) ?_
              obtain ⟨r36, h35, h⟩ := fb_b1s h
              refine fb_callR (W.runV (As := [.int v14, .int v32]) (rest := [.long (v33 * 31)]) ⟨hx, hb, hml, hown, hts⟩ (metX0_faultsOf l D cI h0 qf qn qw ql B0 sz mi fg nt wt wl_16 v14 v32 r36 h35) (cwV 2 hts gX0_digest_X0_faultsOf rfl rfl rfl (by decide +kernel) ⟨Nat.le_of_ble_eq_true rfl, Nat.le_of_ble_eq_true rfl⟩) (fb_preVR (ci := 0) fb_sX0p hP hK hZ hS hAB rfl rfl _) rfl rfl hl.1 rfl (lv_room (Nat.le_of_ble_eq_true rfl)) dX0_digest_149 ⟨Nat.le_of_ble_eq_true rfl, Nat.le_of_ble_eq_true rfl⟩) ?_
              refine lv_i2l hx hb dX0_digest_152 rfl ?_
              refine lv_ladd hx hb dX0_digest_153 ?_
              refine lv_lstore_n (lv' := [(1, .long ((v33 * 31) + r36.toInt64)), (4, .int v32), (3, .int v14), (0, .ref h0)]) hx hb dX0_digest_154 rfl hl (by decide) rfl (fun ls hl => ?_)
              refine lv_iinc (v := v32 + 1) (lv' := [(4, .int (v32 + 1)), (1, .long ((v33 * 31) + r36.toInt64)), (3, .int v14), (0, .ref h0)]) hx hb dX0_digest_155 hl (k := 1) rfl rfl (by decide) rfl (fun ls hl => ?_)
              refine lv_goto (tgt := 133) hx hb dX0_digest_158 (by decide) ?_
              exact ih _ _ o37 o38 h H locs hP hD hS ls (lv_sub hl [0, 2, 1, 3] rfl) kx
        obtain ⟨o37, o38, h42, h⟩ := fb_b2s h
        refine LX0_digest_133 _ _ _ o37 o38 h42 H locs hP hD hS ls (lv_sub hl [0, 1, 2, 3] rfl) (fun H locs hP hD hS ls hl => ?_)
        refine lv_lload_n hx hb dX0_digest_161 rfl (lv_at hl 2 rfl) ?_
        refine lv_ldc2 hx hb hown (hts _ w_k137) dX0_digest_162 ?_
        refine lv_lmul hx hb dX0_digest_165 ?_
        refine lv_aload_n hx hb dX0_digest_166 rfl (lv_at hl 3 rfl) ?_
        refine lv_iload_n hx hb dX0_digest_167 rfl (lv_at hl 1 rfl) ?_
        obtain ⟨r40, wl_41, h39, h⟩ := fb_b2s h
        have hPc : va_P D vwCl (fb_wX0 cI h0 qf qn qw ql sz mi fg nt wt wl_16) H := hP.sub [0, 1, 2, 3, 4] rfl
        have hDc : va_D A (fb_wX0 cI h0 qf qn qw ql sz mi fg nt wt wl_16) := hD.sub [0, 1, 2, 3, 4] (by decide) rfl
        have hFc := va_free (wc := fb_wX0 cI h0 qf qn qw ql sz mi fg nt wt wl_16) hD hS hA [0, 1, 2, 3, 4] rfl
        refine fb_callM (va_runV (As := [.int v14]) (rest := [.long (o38 * 31)]) ⟨hx, hb, hml, hown, hts⟩ (metX0_listWays l D cI h0 qf qn qw ql B0 sz mi fg nt wt wl_16 v14 H.size r40 wl_41 h39) (cwV 1 hts gX0_digest_X0_listWays rfl rfl rfl (by decide +kernel) ⟨Nat.le_of_ble_eq_true rfl, Nat.le_of_ble_eq_true rfl⟩) (fb_preVM (ci := 0) fb_sX0p hPc hK hDc hZ hS hAB hA rfl rfl _) rfl rfl hl.1 rfl (lv_room (Nat.le_of_ble_eq_true rfl)) dX0_digest_168 ⟨Nat.le_of_ble_eq_true rfl, Nat.le_of_ble_eq_true rfl⟩) hS (fun q _ h9 => hFc q h9) hFc (fun _ H1 locs hP1 hD1 hz1 hk1 hS => ?_)
        have hP : va_P D vwCl (fb_wX0 cI h0 qf qn qw ql sz mi fg nt wt wl_41) H1 := hP1
        have hD : va_D A (fb_wX0 cI h0 qf qn qw ql sz mi fg nt wt wl_41) := hD1.weaken (fun _ q _ h9 => hFc q.1 h9)
        generalize H1 = H at hP hS
        refine lv_i2l hx hb dX0_digest_171 rfl ?_
        refine lv_ladd hx hb dX0_digest_172 ?_
        refine lv_lstore_n (lv' := [(1, .long ((o38 * 31) + r40.toInt64)), (4, .int o37), (3, .int v14), (0, .ref h0)]) hx hb dX0_digest_173 rfl hl (by decide) rfl (fun ls hl => ?_)
        refine lv_iinc (v := v14 + 1) (lv' := [(3, .int (v14 + 1)), (1, .long ((o38 * 31) + r40.toInt64)), (4, .int o37), (0, .ref h0)]) hx hb dX0_digest_174 hl (k := 2) rfl rfl (by decide) rfl (fun ls hl => ?_)
        refine lv_goto (tgt := 61) hx hb dX0_digest_177 (by decide) ?_
        exact ih _ _ _ o45 o46 o47 h H locs hP hD hS ls (lv_sub hl [0, 1, 3] rfl) kx
  obtain ⟨o45, o46, o47, h49, h⟩ := fb_b3s h
  refine LX0_digest_61 _ _ _ _ o45 o46 o47 h49 H locs hP hD hS ls (lv_sub hl [0, 1, 2] rfl) (fun H locs hP hD hS ls hl => ?_)
  refine lv_lload_n hx hb dX0_digest_180 rfl (lv_at hl 1 rfl) ?_
  obtain ⟨e1, e2⟩ := fb_p2 h
  subst e1
  subst e2
  exact W.lret hx hb hr (fun t ht _ => ⟨⟨0, rfl, by rw [ht]; exact hP, hD⟩, hS.F ht⟩) hS.2.2 dX0_digest_181
abbrev rmX0_setKey : Room := { frames := 0, cells := 0, slots := 0, locals := 0 }
set_option maxHeartbeats 8000000 in
set_option maxRecDepth 100000 in
theorem metX0_setKey (l : Launch) (D : va_G) (cI : ClassId) (h0 qf qn qw ql B0 : Nat) (sz : Int32) (mi : Int32) (fg : Nat → Int32) (nt : Nat → Int32) (wt : Nat → Int32) (wl : Nat → Int32) (a1 : Int32) (hz : Nat) (ro : Int32) (mio : Int32) (h : fX0_setKey sz mi fg nt wt wl a1 = some (ro, mio)) : Met l yX0_setKey wsX0_setKey rmX0_setKey (va_Pc [.ref h0, .int a1] (fb_pm D [(cI, .int)] B0 fb_sX0 (fb_wX0 cI h0 qf qn qw ql sz mi fg nt wt wl) hz)) (fb_qM (fun q => some (.int ro)) (fun q => fb_wX0 cI h0 qf qn qw ql sz mio fg nt wt wl) D (va_A (fb_wX0 cI h0 qf qn qw ql sz mi fg nt wt wl) hz)) 0 0 (va_A (fb_wX0 cI h0 qf qn qw ql sz mi fg nt wt wl) hz) := by
  refine Met.ofW (cc := cX0_setKey) (maxL := 3) (ret := (some .boolean)) (by decide) rfl ?_
  intro p e s m args below meth c s₁ B hml hv
  obtain ⟨rfl, hsz, ⟨hP, hK, hZ⟩, hD0, hAB⟩ := hv
  have hx := B.exec
  have hb := B.bytes
  have hr := B.returns
  have hts := atoms_spec (ws := wsX0_setKey) B.pre
  have hown : s.vm.findClass RX0 = some m.cls := findClass_of_methodNamed B.named
  have hlocks := B.notSynchronized
  subst hsz
  have hD := hD0.self (sz := s.heap.size)
  generalize hAe : va_A (fb_wX0 cI h0 qf qn qw ql sz mi fg nt wt wl) s.heap.size = A at hD hAB ⊢
  have hA : ∀ q : Nat, s.heap.size ≤ q → A q := fun q h9 => by rw [← hAe]; exact Or.inr h9
  have hS : va_S A s.heap s.heap [] := va_S.rf
  have hP : va_P D vwCl (fb_wX0 cI h0 qf qn qw ql sz mi fg nt wt wl) s.heap := hP
  have hin0 : ∀ w ∈ u_ws RX0 TX0 6, w ∈ wsX0_setKey := fun _ h9 => List.mem_cons_of_mem _ (List.mem_append_right _ (h9))
  have w_f13 : (Cond.fieldLink RX0 13 "FiguredBass" "inMinor" "Z") ∈ wsX0_setKey := List.mem_of_getElem? (i := 1) rfl
  have hl := lv_entry ([.ref h0, .int a1]) (n := 3) (Nat.le_of_ble_eq_true rfl)
  rw [lg_entry_eq]
  generalize (lg_sl ([.ref h0, .int a1]) ++ List.replicate (3 - (lg_sl ([.ref h0, .int a1])).length) Slot.unset).toArray = ls at hl ⊢
  have hl : lv_has ls 3 [(0, .ref h0), (1, .int a1)] := hl
  suffices K : ∀ (H : Heap) (locs : List Loc), va_P D vwCl (fb_wX0 cI h0 qf qn qw ql sz mi fg nt wt wl) H → va_S A s.heap H locs → W p l e (headSpec wsX0_setKey rmX0_setKey).room s m ([.ref h0, .int a1] : List Value).toArray below meth c H locs 0 0 (MQ below (fb_qM (fun q => some (.int ro)) (fun q => fb_wX0 cI h0 qf qn qw ql sz mio fg nt wt wl) D A) ([.ref h0, .int a1] : List Value).toArray s 0 0 A) (F0 m 0 ls []) from K s.heap [] hP hS
  intro H locs hP hS
  unfold fX0_setKey at h
  refine lv_aload_n hx hb dX0_setKey_0 rfl (lv_at hl 0 rfl) ?_
  refine va_get (D := D) (ci := 0) (v := .int mi) (C := RX0) (T := TX0) (N := 6) hx hb hts hin0 hown hK hP 0 rfl rfl 1 (by decide) (hts _ w_f13) (fun _ h9 => h9) rfl dX0_setKey_1 ?_
  refine lv_istore_n (lv' := [(2, .int mi), (0, .ref h0), (1, .int a1)]) hx hb dX0_setKey_4 rfl hl (by decide) rfl (fun ls hl => ?_)
  refine lv_aload_n hx hb dX0_setKey_5 rfl (lv_at hl 1 rfl) ?_
  refine lv_iload_n hx hb dX0_setKey_6 rfl (lv_at hl 2 rfl) ?_
  obtain ⟨hz1, h⟩ := fb_cks h
  refine va_put (D := D) (ci := 0) (v := .int a1) (ty := .boolean) (C := RX0) (T := TX0) (N := 6) hx hb hts hin0 tyX0 tyX0_ok nmX0 hown hK hP hD hS 0 rfl rfl 1 (by decide) (hts _ w_f13) (fun _ h9 => h9) rfl (by decide +kernel) (fb_zn hz1) (fb_zf hz1) (Nat.le_of_ble_eq_true rfl) dX0_setKey_7 (fun H locs hP hD hS => ?_)
  have hP : va_P D vwCl (fb_wX0 cI h0 qf qn qw ql sz a1 fg nt wt wl) H := hP
  have hD : va_D A (fb_wX0 cI h0 qf qn qw ql sz a1 fg nt wt wl) := hD
  refine lv_iload_n hx hb dX0_setKey_10 rfl (lv_at hl 0 rfl) ?_
  obtain ⟨hz2, h⟩ := fb_cks h
  obtain ⟨e1, e2⟩ := fb_p2 h
  subst e1
  subst e2
  exact W.zret (ty := .boolean) hx hb hr (fb_zn hz2) (fun t ht _ => ⟨⟨0, rfl, by rw [ht]; exact hP, hD⟩, hS.F ht⟩) hS.2.2 dX0_setKey_11
abbrev rmX0_mean : Room := { frames := 6, cells := 0, slots := 0, locals := 141 }
set_option maxHeartbeats 8000000 in
set_option maxRecDepth 100000 in
theorem metX0_mean (l : Launch) (D : va_G) (cI : ClassId) (h0 qf qn qw ql B0 : Nat) (sz : Int32) (mi : Int32) (fg : Nat → Int32) (nt : Nat → Int32) (wt : Nat → Int32) (wl : Nat → Int32) (hz : Nat) (ro : UInt64) (h : fX0_mean sz mi fg nt wt wl = some ro) : MetD lw_cs l yX0_mean wsX0_mean rmX0_mean (va_Pc [.ref h0] (fb_pm D [(cI, .int)] B0 fb_sX0 (fb_wX0 cI h0 qf qn qw ql sz mi fg nt wt wl) hz)) (va_Qd (fun (r : UInt64) (_ : Unit) => alike64 r ro = true) (fun _ t => va_P D vwCl (fb_wX0 cI h0 qf qn qw ql sz mi fg nt wt wl) t.heap ∧ va_D (va_A (fb_wX0 cI h0 qf qn qw ql sz mi fg nt wt wl) hz) (fb_wX0 cI h0 qf qn qw ql sz mi fg nt wt wl)) (va_A (fb_wX0 cI h0 qf qn qw ql sz mi fg nt wt wl) hz)) 0 0 (va_A (fb_wX0 cI h0 qf qn qw ql sz mi fg nt wt wl) hz) := by
  refine MetD.ofW (cc := cX0_mean) (maxL := 2) (ret := (some .double)) (by decide) rfl ?_
  intro p e s m args below meth c s₁ B hml hv hd0
  obtain ⟨rfl, hsz, ⟨hP, hK, hZ⟩, hD0, hAB⟩ := hv
  have hx := B.exec
  have hb := B.bytes
  have hr := B.returns
  have hts := atoms_spec (ws := wsX0_mean) B.pre
  have hown : s.vm.findClass RX0 = some m.cls := findClass_of_methodNamed B.named
  have hlocks := B.notSynchronized
  subst hsz
  have hD := hD0.self (sz := s.heap.size)
  generalize hAe : va_A (fb_wX0 cI h0 qf qn qw ql sz mi fg nt wt wl) s.heap.size = A at hD hAB ⊢
  have hA : ∀ q : Nat, s.heap.size ≤ q → A q := fun q h9 => by rw [← hAe]; exact Or.inr h9
  have hS : va_S A s.heap s.heap [] := va_S.rf
  have hP : va_P D vwCl (fb_wX0 cI h0 qf qn qw ql sz mi fg nt wt wl) s.heap := hP
  have hin0 : ∀ w ∈ u_ws RX0 TX0 6, w ∈ wsX0_mean := fun _ h9 => List.mem_cons_of_mem _ (List.mem_append_right _ (h9))
  have hl := lv_entry ([.ref h0]) (n := 2) (Nat.le_of_ble_eq_true rfl)
  change W p l e _ s _ _ _ _ _ _ _ _ _ _ _
  rw [lg_entry_eq]
  generalize (lg_sl ([.ref h0]) ++ List.replicate (2 - (lg_sl ([.ref h0])).length) Slot.unset).toArray = ls at hl ⊢
  have hl : lv_has ls 2 [(0, .ref h0)] := hl
  suffices K : ∀ (H : Heap) (locs : List Loc), va_P D vwCl (fb_wX0 cI h0 qf qn qw ql sz mi fg nt wt wl) H → va_S A s.heap H locs → W p l e (headSpec wsX0_mean rmX0_mean).room s m ([.ref h0] : List Value).toArray below meth c H locs 0 0 (MQD lw_cs below (va_Qd (fun (r : UInt64) (_ : Unit) => alike64 r ro = true) (fun _ t => va_P D vwCl (fb_wX0 cI h0 qf qn qw ql sz mi fg nt wt wl) t.heap ∧ va_D A (fb_wX0 cI h0 qf qn qw ql sz mi fg nt wt wl)) A) ([.ref h0] : List Value).toArray s 0 0 A) (F0 m 0 ls []) from K s.heap [] hP hS
  intro H locs hP hS
  unfold fX0_mean at h
  refine lv_aload_n hx hb dX0_mean_0 rfl (lv_at hl 0 rfl) ?_
  refine lv_iconst (v := 1) hx hb dX0_mean_1 (by decide) ?_
  obtain ⟨r2, h1, h⟩ := fb_b1s h
  refine fb_callR (W.runV (As := [.int 1]) (rest := []) ⟨hx, hb, hml, hown, hts⟩ (metX0_countOf l D cI h0 qf qn qw ql B0 sz mi fg nt wt wl 1 r2 h1) (cwV 1 hts gX0_mean_X0_countOf rfl rfl rfl (by decide +kernel) ⟨Nat.le_of_ble_eq_true rfl, Nat.le_of_ble_eq_true rfl⟩) (fb_preVR (ci := 0) fb_sX0p hP hK hZ hS hAB rfl rfl _) rfl rfl hl.1 rfl (lv_room (Nat.le_of_ble_eq_true rfl)) dX0_mean_2 ⟨Nat.le_of_ble_eq_true rfl, Nat.le_of_ble_eq_true rfl⟩) ?_
  refine lv_istore_n (lv' := [(1, .int r2), (0, .ref h0)]) hx hb dX0_mean_5 rfl hl (by decide) rfl (fun ls hl => ?_)
  refine lv_iload_n hx hb dX0_mean_6 rfl (lv_at hl 0 rfl) ?_
  refine lv_if_ne (tgt := 14) hx hb dX0_mean_7 (by decide) (fun c3 => ?_) (fun c3 => ?_)
  · replace h := fb_ie c3 h
    refine lv_aload_n hx hb dX0_mean_14 rfl (lv_at hl 1 rfl) ?_
    refine lv_iconst (v := 5) hx hb dX0_mean_15 (by decide) ?_
    obtain ⟨r5, h4, h⟩ := fb_b1s h
    refine fb_callR (W.runV (As := [.int 5]) (rest := []) ⟨hx, hb, hml, hown, hts⟩ (metX0_countOf l D cI h0 qf qn qw ql B0 sz mi fg nt wt wl 5 r5 h4) (cwV 1 hts gX0_mean_X0_countOf rfl rfl rfl (by decide +kernel) ⟨Nat.le_of_ble_eq_true rfl, Nat.le_of_ble_eq_true rfl⟩) (fb_preVR (ci := 0) fb_sX0p hP hK hZ hS hAB rfl rfl _) rfl rfl hl.1 rfl (lv_room (Nat.le_of_ble_eq_true rfl)) dX0_mean_16 ⟨Nat.le_of_ble_eq_true rfl, Nat.le_of_ble_eq_true rfl⟩) ?_
    refine lv_i2d hx hb dX0_mean_19 ?_
    refine lv_iload_n hx hb dX0_mean_20 rfl (lv_at hl 0 rfl) ?_
    refine lv_i2d hx hb dX0_mean_21 ?_
    refine W.base ?_
    refine lv_ddiv_any (Drawn.sameBut.refl s.drawn lw_cs) lw_bits hx hb dX0_mean_22 (fun rd dd hal hd1 => ?_)
    have h := Option.some.inj h
    subst h
    refine W.endD hd1 ?_
    exact W.dret hx hb hr (fun t ht _ => ⟨⟨rd, (), rfl, hal, by rw [ht]; exact hP, hD⟩, hS.F ht⟩) hS.2.2 dX0_mean_23
  · replace h := fb_it c3 h
    refine lv_dconst0 hx hb dX0_mean_10 ?_
    refine lv_goto (tgt := 23) hx hb dX0_mean_11 (by decide) ?_
    have h := Option.some.inj h
    subst h
    refine W.base ?_
    refine W.endD (Drawn.sameBut.refl _ _) ?_
    exact W.dret hx hb hr (fun t ht _ => ⟨⟨FP.dconst0, (), rfl, (alike64_refl _), by rw [ht]; exact hP, hD⟩, hS.F ht⟩) hS.2.2 dX0_mean_23
