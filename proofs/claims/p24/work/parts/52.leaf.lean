/-! The law's plain helpers: functions and contracts, printed by wip/p24/lgen2.py. -/
def fL_below (xs : Nat → Int32) (L : Nat) (a1 : Int32) (a2 : Int32) : Option (Int32) :=
  fb_ck (decide (¬ a2 = 0)) (
  some ((a1 &&& 2147483647) - (a1 &&& 2147483647) / a2 * a2))
abbrev rmL_below : Room := { frames := 0, cells := 0, slots := 0, locals := 0 }
set_option maxHeartbeats 8000000 in
set_option maxRecDepth 100000 in
theorem metL_below (l : Launch) (b L : Nat) (xs : Nat → Int32) (B0 : Nat) (a1 : Int32) (a2 : Int32) (ro : Int32) (h : fL_below xs L a1 a2 = some ro) : Met l yL_below wsL_below rmL_below (va_Pc [.int a1, .int a2] (fb_os B0 (fb_sc b L xs))) (QcRead ro) 0 0 (fun _ => False) := by
  refine Met.ofW (cc := cL_below) (maxL := 2) (ret := (some .int)) (by decide) rfl ?_
  intro p e s m args below meth c s₁ B hml hv
  obtain ⟨rfl, hZ⟩ := hv
  have hx := B.exec
  have hb := B.bytes
  have hr := B.returns
  have hts := atoms_spec (ws := wsL_below) B.pre
  have hown : s.vm.findClass RL = some m.cls := findClass_of_methodNamed B.named
  have hlocks := B.notSynchronized
  have hAB : ∀ q : Nat, (fun q => B0 ≤ q) q → B0 ≤ q := fun _ h9 => h9
  have hS : va_S (fun q => B0 ≤ q) s.heap s.heap [] := va_S.rf
  have hbA : ¬ (fun q => B0 ≤ q) b := hZ.2
  have hX := hZ.1
  have hbl := fb_sclt hZ
  have w_k7 : (Cond.constant RL 7 (2147483647)) ∈ wsL_below := List.mem_of_getElem? (i := 1) rfl
  have hl := lv_entry ([.int a1, .int a2]) (n := 2) (Nat.le_of_ble_eq_true rfl)
  rw [lg_entry_eq]
  generalize (lg_sl ([.int a1, .int a2]) ++ List.replicate (2 - (lg_sl ([.int a1, .int a2])).length) Slot.unset).toArray = ls at hl ⊢
  have hl : lv_has ls 2 [(0, .int a1), (1, .int a2)] := hl
  unfold fL_below at h
  refine lv_iload_n hx hb dL_below_0 rfl (lv_at hl 0 rfl) ?_
  refine lv_ldc (v := 2147483647) hx hb hown (hts _ w_k7) dL_below_1 ?_
  refine lv_iand hx hb dL_below_3 ?_
  refine lv_iload_n hx hb dL_below_4 rfl (lv_at hl 1 rfl) ?_
  obtain ⟨hi1, h⟩ := fb_cks h
  refine lv_irem hx hb dL_below_5 (of_decide_eq_true hi1) ?_
  have h := Option.some.inj h
  subst h
  exact W.iret hx hb hr (fun t ht _ => ⟨rfl, ht⟩) (fun q hq => absurd hq List.not_mem_nil) dL_below_6
def fL_cell (xs : Nat → Int32) (L : Nat) (a1 : Int32) : Option (Int32) :=
  if (Int32.ofNat L) ≤ a1 then
    some ((461243603 : Int32) * (a1 + 3))
  else
    fb_ck (fb_ix a1 L) (
    some (xs a1.toNatClampNeg))
abbrev rmL_cell : Room := { frames := 0, cells := 0, slots := 0, locals := 0 }
set_option maxHeartbeats 8000000 in
set_option maxRecDepth 100000 in
theorem metL_cell (l : Launch) (b L : Nat) (xs : Nat → Int32) (B0 : Nat) (a1 : Int32) (ro : Int32) (h : fL_cell xs L a1 = some ro) : Met l yL_cell wsL_cell rmL_cell (va_Pc [.ref b, .int a1] (fb_os B0 (fb_sc b L xs))) (QcRead ro) 0 0 (fun _ => False) := by
  refine Met.ofW (cc := cL_cell) (maxL := 2) (ret := (some .int)) (by decide) rfl ?_
  intro p e s m args below meth c s₁ B hml hv
  obtain ⟨rfl, hZ⟩ := hv
  have hx := B.exec
  have hb := B.bytes
  have hr := B.returns
  have hts := atoms_spec (ws := wsL_cell) B.pre
  have hown : s.vm.findClass RL = some m.cls := findClass_of_methodNamed B.named
  have hlocks := B.notSynchronized
  have hAB : ∀ q : Nat, (fun q => B0 ≤ q) q → B0 ≤ q := fun _ h9 => h9
  have hS : va_S (fun q => B0 ≤ q) s.heap s.heap [] := va_S.rf
  have hbA : ¬ (fun q => B0 ≤ q) b := hZ.2
  have hX := hZ.1
  have hbl := fb_sclt hZ
  have w_k8 : (Cond.constant RL 8 (461243603)) ∈ wsL_cell := List.mem_of_getElem? (i := 1) rfl
  have hl := lv_entry ([.ref b, .int a1]) (n := 2) (Nat.le_of_ble_eq_true rfl)
  rw [lg_entry_eq]
  generalize (lg_sl ([.ref b, .int a1]) ++ List.replicate (2 - (lg_sl ([.ref b, .int a1])).length) Slot.unset).toArray = ls at hl ⊢
  have hl : lv_has ls 2 [(0, .ref b), (1, .int a1)] := hl
  unfold fL_cell at h
  refine lv_iload_n hx hb dL_cell_0 rfl (lv_at hl 1 rfl) ?_
  refine lv_aload_n hx hb dL_cell_1 rfl (lv_at hl 0 rfl) ?_
  refine va_slen hx hb hX hbl hbA hS dL_cell_2 ?_
  refine lv_icmp_ge (tgt := 12) hx hb dL_cell_3 (by decide) (fun c1 => ?_) (fun c1 => ?_)
  · replace h := fb_it c1 h
    refine lv_ldc (v := 461243603) hx hb hown (hts _ w_k8) dL_cell_12 ?_
    refine lv_iload_n hx hb dL_cell_14 rfl (lv_at hl 1 rfl) ?_
    refine lv_iconst (v := 3) hx hb dL_cell_15 (by decide) ?_
    refine lv_iadd hx hb dL_cell_16 ?_
    refine lv_imul hx hb dL_cell_17 ?_
    have h := Option.some.inj h
    subst h
    exact W.iret hx hb hr (fun t ht _ => ⟨rfl, ht⟩) (fun q hq => absurd hq List.not_mem_nil) dL_cell_18
  · replace h := fb_ie c1 h
    refine lv_aload_n hx hb dL_cell_6 rfl (lv_at hl 0 rfl) ?_
    refine lv_iload_n hx hb dL_cell_7 rfl (lv_at hl 1 rfl) ?_
    obtain ⟨hi3, h⟩ := fb_cks h
    refine va_sld hx hb hX hbl hbA hS (fb_ixin hi3) dL_cell_8 ?_
    refine lv_goto (tgt := 18) hx hb dL_cell_9 (by decide) ?_
    have h := Option.some.inj h
    subst h
    exact W.iret hx hb hr (fun t ht _ => ⟨rfl, ht⟩) (fun q hq => absurd hq List.not_mem_nil) dL_cell_18
def fL_step (xs : Nat → Int32) (L : Nat) (a1 : Int32) (a2 : Int32) : Option (Int32) :=
  if 0 ≤ ((a1 - a2) - (a1 - a2) / 7 * 7) then
    some ((a1 - a2) - (a1 - a2) / 7 * 7)
  else
    some (((a1 - a2) - (a1 - a2) / 7 * 7) + 7)
abbrev rmL_step : Room := { frames := 0, cells := 0, slots := 0, locals := 0 }
set_option maxHeartbeats 8000000 in
set_option maxRecDepth 100000 in
theorem metL_step (l : Launch) (b L : Nat) (xs : Nat → Int32) (B0 : Nat) (a1 : Int32) (a2 : Int32) (ro : Int32) (h : fL_step xs L a1 a2 = some ro) : Met l yL_step wsL_step rmL_step (va_Pc [.int a1, .int a2] (fb_os B0 (fb_sc b L xs))) (QcRead ro) 0 0 (fun _ => False) := by
  refine Met.ofW (cc := cL_step) (maxL := 3) (ret := (some .int)) (by decide) rfl ?_
  intro p e s m args below meth c s₁ B hml hv
  obtain ⟨rfl, hZ⟩ := hv
  have hx := B.exec
  have hb := B.bytes
  have hr := B.returns
  have hts := atoms_spec (ws := wsL_step) B.pre
  have hown : s.vm.findClass RL = some m.cls := findClass_of_methodNamed B.named
  have hlocks := B.notSynchronized
  have hAB : ∀ q : Nat, (fun q => B0 ≤ q) q → B0 ≤ q := fun _ h9 => h9
  have hS : va_S (fun q => B0 ≤ q) s.heap s.heap [] := va_S.rf
  have hbA : ¬ (fun q => B0 ≤ q) b := hZ.2
  have hX := hZ.1
  have hbl := fb_sclt hZ
  have hl := lv_entry ([.int a1, .int a2]) (n := 3) (Nat.le_of_ble_eq_true rfl)
  rw [lg_entry_eq]
  generalize (lg_sl ([.int a1, .int a2]) ++ List.replicate (3 - (lg_sl ([.int a1, .int a2])).length) Slot.unset).toArray = ls at hl ⊢
  have hl : lv_has ls 3 [(0, .int a1), (1, .int a2)] := hl
  unfold fL_step at h
  refine lv_iload_n hx hb dL_step_0 rfl (lv_at hl 0 rfl) ?_
  refine lv_iload_n hx hb dL_step_1 rfl (lv_at hl 1 rfl) ?_
  refine lv_isub hx hb dL_step_2 ?_
  refine lv_bipush (v := 7) hx hb dL_step_3 (by decide) ?_
  refine lv_irem hx hb dL_step_5 (by decide) ?_
  refine lv_istore_n (lv' := [(2, .int ((a1 - a2) - (a1 - a2) / 7 * 7)), (0, .int a1), (1, .int a2)]) hx hb dL_step_6 rfl hl (by decide) rfl (fun ls hl => ?_)
  refine lv_iload_n hx hb dL_step_7 rfl (lv_at hl 0 rfl) ?_
  refine lv_if_ge (tgt := 18) hx hb dL_step_8 (by decide) (fun c1 => ?_) (fun c1 => ?_)
  · replace h := fb_it c1 h
    refine lv_iload_n hx hb dL_step_18 rfl (lv_at hl 0 rfl) ?_
    have h := Option.some.inj h
    subst h
    exact W.iret hx hb hr (fun t ht _ => ⟨rfl, ht⟩) (fun q hq => absurd hq List.not_mem_nil) dL_step_19
  · replace h := fb_ie c1 h
    refine lv_iload_n hx hb dL_step_11 rfl (lv_at hl 0 rfl) ?_
    refine lv_bipush (v := 7) hx hb dL_step_12 (by decide) ?_
    refine lv_iadd hx hb dL_step_14 ?_
    refine lv_goto (tgt := 19) hx hb dL_step_15 (by decide) ?_
    have h := Option.some.inj h
    subst h
    exact W.iret hx hb hr (fun t ht _ => ⟨rfl, ht⟩) (fun q hq => absurd hq List.not_mem_nil) dL_step_19
def fL_isMinorOf (xs : Nat → Int32) (L : Nat) : Option (Int32) :=
  fb_b1 (fL_cell xs L 15) (fun r2 =>
  fb_b1 (fL_below xs L r2 3) (fun r4 =>
  if r4 = 0 then
    some 1
  else
    some 0))
abbrev rmL_isMinorOf : Room := { frames := 1, cells := 0, slots := 0, locals := 21 }
set_option maxHeartbeats 8000000 in
set_option maxRecDepth 100000 in
theorem metL_isMinorOf (l : Launch) (b L : Nat) (xs : Nat → Int32) (B0 : Nat) (ro : Int32) (h : fL_isMinorOf xs L = some ro) : Met l yL_isMinorOf wsL_isMinorOf rmL_isMinorOf (va_Pc [.ref b] (fb_os B0 (fb_sc b L xs))) (QcRead ro) 0 0 (fun _ => False) := by
  refine Met.ofW (cc := cL_isMinorOf) (maxL := 1) (ret := (some .boolean)) (by decide) rfl ?_
  intro p e s m args below meth c s₁ B hml hv
  obtain ⟨rfl, hZ⟩ := hv
  have hx := B.exec
  have hb := B.bytes
  have hr := B.returns
  have hts := atoms_spec (ws := wsL_isMinorOf) B.pre
  have hown : s.vm.findClass RL = some m.cls := findClass_of_methodNamed B.named
  have hlocks := B.notSynchronized
  have hAB : ∀ q : Nat, (fun q => B0 ≤ q) q → B0 ≤ q := fun _ h9 => h9
  have hS : va_S (fun q => B0 ≤ q) s.heap s.heap [] := va_S.rf
  have hbA : ¬ (fun q => B0 ≤ q) b := hZ.2
  have hX := hZ.1
  have hbl := fb_sclt hZ
  have hl := lv_entry ([.ref b]) (n := 1) (Nat.le_of_ble_eq_true rfl)
  rw [lg_entry_eq]
  generalize (lg_sl ([.ref b]) ++ List.replicate (1 - (lg_sl ([.ref b])).length) Slot.unset).toArray = ls at hl ⊢
  have hl : lv_has ls 1 [(0, .ref b)] := hl
  unfold fL_isMinorOf at h
  refine lv_aload_n hx hb dL_isMinorOf_0 rfl (lv_at hl 0 rfl) ?_
  refine lv_bipush (v := 15) hx hb dL_isMinorOf_1 (by decide) ?_
  obtain ⟨r2, h1, h⟩ := fb_b1s h
  refine fb_callR (W.runS (As := [.ref b, .int 15]) (rest := []) ⟨hx, hb, hml, hown, hts⟩ (metL_cell l b L xs B0 15 r2 h1) (va_cwS 2 hts gL_isMinorOf_L_cell rfl rfl rfl (by decide +kernel) ⟨Nat.le_of_ble_eq_true rfl, Nat.le_of_ble_eq_true rfl⟩) (fb_preS (fb_scp b L xs) hZ hS hAB _) rfl rfl hl.1 rfl (lv_room (Nat.le_of_ble_eq_true rfl)) dL_isMinorOf_3 ⟨Nat.le_of_ble_eq_true rfl, Nat.le_of_ble_eq_true rfl⟩) ?_
  refine lv_iconst (v := 3) hx hb dL_isMinorOf_6 (by decide) ?_
  obtain ⟨r4, h3, h⟩ := fb_b1s h
  refine fb_callR (W.runS (As := [.int r2, .int 3]) (rest := []) ⟨hx, hb, hml, hown, hts⟩ (metL_below l b L xs B0 r2 3 r4 h3) (va_cwS 2 hts gL_isMinorOf_L_below rfl rfl rfl (by decide +kernel) ⟨Nat.le_of_ble_eq_true rfl, Nat.le_of_ble_eq_true rfl⟩) (fb_preS (fb_scp b L xs) hZ hS hAB _) rfl rfl hl.1 rfl (lv_room (Nat.le_of_ble_eq_true rfl)) dL_isMinorOf_7 ⟨Nat.le_of_ble_eq_true rfl, Nat.le_of_ble_eq_true rfl⟩) ?_
  refine lv_if_ne (tgt := 17) hx hb dL_isMinorOf_10 (by decide) (fun c5 => ?_) (fun c5 => ?_)
  · replace h := fb_ie c5 h
    refine lv_iconst (v := 0) hx hb dL_isMinorOf_17 (by decide) ?_
    have h := Option.some.inj h
    subst h
    exact W.zret (ty := .boolean) hx hb hr rfl (fun t ht _ => ⟨rfl, ht⟩) (fun q hq => absurd hq List.not_mem_nil) dL_isMinorOf_18
  · replace h := fb_it c5 h
    refine lv_iconst (v := 1) hx hb dL_isMinorOf_13 (by decide) ?_
    refine lv_goto (tgt := 18) hx hb dL_isMinorOf_14 (by decide) ?_
    have h := Option.some.inj h
    subst h
    exact W.zret (ty := .boolean) hx hb hr rfl (fun t ht _ => ⟨rfl, ht⟩) (fun q hq => absurd hq List.not_mem_nil) dL_isMinorOf_18
def lpL_weightsOf_41 (xs : Nat → Int32) (L : Nat) : Nat → (Int32) → (Nat → Int32) → Option (Int32 × (Nat → Int32))
  | 0, _, _ => none
  | n + 1, v2, f3 =>
    if 8 ≤ v2 then
    some (v2, f3)
  else
    fb_b1 (fL_cell xs L 13) (fun r6 =>
    fb_b1 (fL_below xs L (r6 >>> (((2 : Int32) * v2) &&& 31)) 3) (fun r8 =>
    fb_b1 (if r8 = 0 then
        fb_b1 (fL_cell xs L 14) (fun r11 =>
        fb_b1 (fL_below xs L (r11 >>> (((2 : Int32) * v2) &&& 31)) 10) (fun r13 =>
        fb_ck (fb_ix v2 8) (
        some (upd f3 v2.toNatClampNeg r13))))
      else
        some f3) (fun (f15 : Nat → Int32) =>
    lpL_weightsOf_41 xs L n (v2 + 1) f15)))
def fL_weightsOf (xs : Nat → Int32) (L : Nat) : Option (Nat → Int32) :=
  fb_b2 (lpL_weightsOf_41 xs L 14 0 (upd (upd (upd (upd (upd (upd (upd (upd (fun _ => 0) (0 : Int32).toNatClampNeg 2) (1 : Int32).toNatClampNeg 2) (2 : Int32).toNatClampNeg 2) (3 : Int32).toNatClampNeg 2) (4 : Int32).toNatClampNeg 2) (5 : Int32).toNatClampNeg 2) (6 : Int32).toNatClampNeg 2) (7 : Int32).toNatClampNeg 2)) (fun o16 o17 =>
  some o17)
abbrev rmL_weightsOf : Room := { frames := 1, cells := 1, slots := 8, locals := 21 }
set_option maxHeartbeats 8000000 in
set_option maxRecDepth 100000 in
theorem metL_weightsOf (l : Launch) (D : va_G) (cI : ClassId) (b L : Nat) (xs : Nat → Int32) (B0 : Nat) (hz : Nat) (fo : Nat → Int32) (h : fL_weightsOf xs L = some fo) : Met l yL_weightsOf wsL_weightsOf rmL_weightsOf (va_Pc [.ref b] (fb_pm D [(cI, .int)] B0 (fb_sc b L xs) [] hz)) (fb_qM (fun q => some (.ref q)) (fun q => [(q, .inl (cI, 8, .inl fo))]) D (va_A [] hz)) 1 8 (va_A [] hz) := by
  refine Met.ofW (cc := cL_weightsOf) (maxL := 3) (ret := (some (.array .int))) (by decide) rfl ?_
  intro p e s m args below meth c s₁ B hml hv
  obtain ⟨rfl, hsz, ⟨hP, hK, hZ⟩, hD0, hAB⟩ := hv
  have hx := B.exec
  have hb := B.bytes
  have hr := B.returns
  have hts := atoms_spec (ws := wsL_weightsOf) B.pre
  have hown : s.vm.findClass RL = some m.cls := findClass_of_methodNamed B.named
  have hlocks := B.notSynchronized
  subst hsz
  have hD := hD0.self (sz := s.heap.size)
  generalize hAe : va_A [] s.heap.size = A at hD hAB ⊢
  have hA : ∀ q : Nat, s.heap.size ≤ q → A q := fun q h9 => by rw [← hAe]; exact Or.inr h9
  have hS : va_S A s.heap s.heap [] := va_S.rf
  have hP : va_P D vwCl ([] : va_W) s.heap := hP
  have hbA : ¬ A b := fun z => hZ.2 (hAB _ z)
  have hX := hZ.1
  have hbl := fb_sclt hZ
  have w_arr : (Cond.arrayClass .int) ∈ wsL_weightsOf := List.mem_of_getElem? (i := 1) rfl
  have hl := lv_entry ([.ref b]) (n := 3) (Nat.le_of_ble_eq_true rfl)
  rw [lg_entry_eq]
  generalize (lg_sl ([.ref b]) ++ List.replicate (3 - (lg_sl ([.ref b])).length) Slot.unset).toArray = ls at hl ⊢
  have hl : lv_has ls 3 [(0, .ref b)] := hl
  suffices K : ∀ (H : Heap) (locs : List Loc), va_P D vwCl ([] : va_W) H → va_S A s.heap H locs → W p l e (headSpec wsL_weightsOf rmL_weightsOf).room s m ([.ref b] : List Value).toArray below meth c H locs 0 0 (MQ below (fb_qM (fun q => some (.ref q)) (fun q => [(q, .inl (cI, 8, .inl fo))]) D A) ([.ref b] : List Value).toArray s 1 8 A) (F0 m 0 ls []) from K s.heap [] hP hS
  intro H locs hP hS
  unfold fL_weightsOf at h
  refine lv_bipush (v := 8) hx hb dL_weightsOf_0 (by decide) ?_
  refine va_newa (atype := .int) hx hb (hts _ w_arr) (ty := .int) rfl hK hP hD hS hA (N' := 8) (a0 := (8, .inl (fun _ => 0))) (fun _ => rfl) (by decide) (by decide) (by decide) (Nat.le_of_ble_eq_true rfl) (Nat.le_of_ble_eq_true rfl) dL_weightsOf_2 (fun q1 cA H hK1 hP hD hS => ?_)
  obtain rfl := fb_cA hK1
  have hP : va_P D vwCl (([(q1, .inl (cI, 8, .inl (fun _ => 0)))] : va_W)) H := hP
  have hD : va_D A (([(q1, .inl (cI, 8, .inl (fun _ => 0)))] : va_W)) := hD
  refine lv_dup hx hb dL_weightsOf_4 rfl ?_
  refine lv_iconst (v := 0) hx hb dL_weightsOf_5 (by decide) ?_
  refine lv_iconst (v := 2) hx hb dL_weightsOf_6 (by decide) ?_
  refine va_iast hx hb hK hP hD hS 0 0 rfl rfl (fb_ixin (by decide)) dL_weightsOf_7 (fun H locs hP hD hS => ?_)
  have hP : va_P D vwCl (([(q1, .inl (cI, 8, .inl (upd (fun _ => 0) (0 : Int32).toNatClampNeg 2)))] : va_W)) H := hP
  have hD : va_D A (([(q1, .inl (cI, 8, .inl (upd (fun _ => 0) (0 : Int32).toNatClampNeg 2)))] : va_W)) := hD
  refine lv_dup hx hb dL_weightsOf_8 rfl ?_
  refine lv_iconst (v := 1) hx hb dL_weightsOf_9 (by decide) ?_
  refine lv_iconst (v := 2) hx hb dL_weightsOf_10 (by decide) ?_
  refine va_iast hx hb hK hP hD hS 0 0 rfl rfl (fb_ixin (by decide)) dL_weightsOf_11 (fun H locs hP hD hS => ?_)
  have hP : va_P D vwCl (([(q1, .inl (cI, 8, .inl (upd (upd (fun _ => 0) (0 : Int32).toNatClampNeg 2) (1 : Int32).toNatClampNeg 2)))] : va_W)) H := hP
  have hD : va_D A (([(q1, .inl (cI, 8, .inl (upd (upd (fun _ => 0) (0 : Int32).toNatClampNeg 2) (1 : Int32).toNatClampNeg 2)))] : va_W)) := hD
  refine lv_dup hx hb dL_weightsOf_12 rfl ?_
  refine lv_iconst (v := 2) hx hb dL_weightsOf_13 (by decide) ?_
  refine lv_iconst (v := 2) hx hb dL_weightsOf_14 (by decide) ?_
  refine va_iast hx hb hK hP hD hS 0 0 rfl rfl (fb_ixin (by decide)) dL_weightsOf_15 (fun H locs hP hD hS => ?_)
  have hP : va_P D vwCl (([(q1, .inl (cI, 8, .inl (upd (upd (upd (fun _ => 0) (0 : Int32).toNatClampNeg 2) (1 : Int32).toNatClampNeg 2) (2 : Int32).toNatClampNeg 2)))] : va_W)) H := hP
  have hD : va_D A (([(q1, .inl (cI, 8, .inl (upd (upd (upd (fun _ => 0) (0 : Int32).toNatClampNeg 2) (1 : Int32).toNatClampNeg 2) (2 : Int32).toNatClampNeg 2)))] : va_W)) := hD
  refine lv_dup hx hb dL_weightsOf_16 rfl ?_
  refine lv_iconst (v := 3) hx hb dL_weightsOf_17 (by decide) ?_
  refine lv_iconst (v := 2) hx hb dL_weightsOf_18 (by decide) ?_
  refine va_iast hx hb hK hP hD hS 0 0 rfl rfl (fb_ixin (by decide)) dL_weightsOf_19 (fun H locs hP hD hS => ?_)
  have hP : va_P D vwCl (([(q1, .inl (cI, 8, .inl (upd (upd (upd (upd (fun _ => 0) (0 : Int32).toNatClampNeg 2) (1 : Int32).toNatClampNeg 2) (2 : Int32).toNatClampNeg 2) (3 : Int32).toNatClampNeg 2)))] : va_W)) H := hP
  have hD : va_D A (([(q1, .inl (cI, 8, .inl (upd (upd (upd (upd (fun _ => 0) (0 : Int32).toNatClampNeg 2) (1 : Int32).toNatClampNeg 2) (2 : Int32).toNatClampNeg 2) (3 : Int32).toNatClampNeg 2)))] : va_W)) := hD
  refine lv_dup hx hb dL_weightsOf_20 rfl ?_
  refine lv_iconst (v := 4) hx hb dL_weightsOf_21 (by decide) ?_
  refine lv_iconst (v := 2) hx hb dL_weightsOf_22 (by decide) ?_
  refine va_iast hx hb hK hP hD hS 0 0 rfl rfl (fb_ixin (by decide)) dL_weightsOf_23 (fun H locs hP hD hS => ?_)
  have hP : va_P D vwCl (([(q1, .inl (cI, 8, .inl (upd (upd (upd (upd (upd (fun _ => 0) (0 : Int32).toNatClampNeg 2) (1 : Int32).toNatClampNeg 2) (2 : Int32).toNatClampNeg 2) (3 : Int32).toNatClampNeg 2) (4 : Int32).toNatClampNeg 2)))] : va_W)) H := hP
  have hD : va_D A (([(q1, .inl (cI, 8, .inl (upd (upd (upd (upd (upd (fun _ => 0) (0 : Int32).toNatClampNeg 2) (1 : Int32).toNatClampNeg 2) (2 : Int32).toNatClampNeg 2) (3 : Int32).toNatClampNeg 2) (4 : Int32).toNatClampNeg 2)))] : va_W)) := hD
  refine lv_dup hx hb dL_weightsOf_24 rfl ?_
  refine lv_iconst (v := 5) hx hb dL_weightsOf_25 (by decide) ?_
  refine lv_iconst (v := 2) hx hb dL_weightsOf_26 (by decide) ?_
  refine va_iast hx hb hK hP hD hS 0 0 rfl rfl (fb_ixin (by decide)) dL_weightsOf_27 (fun H locs hP hD hS => ?_)
  have hP : va_P D vwCl (([(q1, .inl (cI, 8, .inl (upd (upd (upd (upd (upd (upd (fun _ => 0) (0 : Int32).toNatClampNeg 2) (1 : Int32).toNatClampNeg 2) (2 : Int32).toNatClampNeg 2) (3 : Int32).toNatClampNeg 2) (4 : Int32).toNatClampNeg 2) (5 : Int32).toNatClampNeg 2)))] : va_W)) H := hP
  have hD : va_D A (([(q1, .inl (cI, 8, .inl (upd (upd (upd (upd (upd (upd (fun _ => 0) (0 : Int32).toNatClampNeg 2) (1 : Int32).toNatClampNeg 2) (2 : Int32).toNatClampNeg 2) (3 : Int32).toNatClampNeg 2) (4 : Int32).toNatClampNeg 2) (5 : Int32).toNatClampNeg 2)))] : va_W)) := hD
  refine lv_dup hx hb dL_weightsOf_28 rfl ?_
  refine lv_bipush (v := 6) hx hb dL_weightsOf_29 (by decide) ?_
  refine lv_iconst (v := 2) hx hb dL_weightsOf_31 (by decide) ?_
  refine va_iast hx hb hK hP hD hS 0 0 rfl rfl (fb_ixin (by decide)) dL_weightsOf_32 (fun H locs hP hD hS => ?_)
  have hP : va_P D vwCl (([(q1, .inl (cI, 8, .inl (upd (upd (upd (upd (upd (upd (upd (fun _ => 0) (0 : Int32).toNatClampNeg 2) (1 : Int32).toNatClampNeg 2) (2 : Int32).toNatClampNeg 2) (3 : Int32).toNatClampNeg 2) (4 : Int32).toNatClampNeg 2) (5 : Int32).toNatClampNeg 2) (6 : Int32).toNatClampNeg 2)))] : va_W)) H := hP
  have hD : va_D A (([(q1, .inl (cI, 8, .inl (upd (upd (upd (upd (upd (upd (upd (fun _ => 0) (0 : Int32).toNatClampNeg 2) (1 : Int32).toNatClampNeg 2) (2 : Int32).toNatClampNeg 2) (3 : Int32).toNatClampNeg 2) (4 : Int32).toNatClampNeg 2) (5 : Int32).toNatClampNeg 2) (6 : Int32).toNatClampNeg 2)))] : va_W)) := hD
  refine lv_dup hx hb dL_weightsOf_33 rfl ?_
  refine lv_bipush (v := 7) hx hb dL_weightsOf_34 (by decide) ?_
  refine lv_iconst (v := 2) hx hb dL_weightsOf_36 (by decide) ?_
  refine va_iast hx hb hK hP hD hS 0 0 rfl rfl (fb_ixin (by decide)) dL_weightsOf_37 (fun H locs hP hD hS => ?_)
  have hP : va_P D vwCl (([(q1, .inl (cI, 8, .inl (upd (upd (upd (upd (upd (upd (upd (upd (fun _ => 0) (0 : Int32).toNatClampNeg 2) (1 : Int32).toNatClampNeg 2) (2 : Int32).toNatClampNeg 2) (3 : Int32).toNatClampNeg 2) (4 : Int32).toNatClampNeg 2) (5 : Int32).toNatClampNeg 2) (6 : Int32).toNatClampNeg 2) (7 : Int32).toNatClampNeg 2)))] : va_W)) H := hP
  have hD : va_D A (([(q1, .inl (cI, 8, .inl (upd (upd (upd (upd (upd (upd (upd (upd (fun _ => 0) (0 : Int32).toNatClampNeg 2) (1 : Int32).toNatClampNeg 2) (2 : Int32).toNatClampNeg 2) (3 : Int32).toNatClampNeg 2) (4 : Int32).toNatClampNeg 2) (5 : Int32).toNatClampNeg 2) (6 : Int32).toNatClampNeg 2) (7 : Int32).toNatClampNeg 2)))] : va_W)) := hD
  refine lv_astore_n (lv' := [(1, .ref q1), (0, .ref b)]) hx hb dL_weightsOf_38 rfl hl (by decide) rfl (fun ls hl => ?_)
  refine lv_iconst (v := 0) hx hb dL_weightsOf_39 (by decide) ?_
  refine lv_istore_n (lv' := [(2, .int 0), (1, .ref q1), (0, .ref b)]) hx hb dL_weightsOf_40 rfl hl (by decide) rfl (fun ls hl => ?_)
  have LL_weightsOf_41 : ∀ (n : Nat) (v2 : Int32) (f3 : Nat → Int32) (o16 : Int32) (o17 : Nat → Int32), lpL_weightsOf_41 xs L n v2 f3 = some (o16, o17) → ∀ (H : Heap) (locs : List Loc), va_P D vwCl (([(q1, .inl (cI, 8, .inl f3))] : va_W)) H → va_D A (([(q1, .inl (cI, 8, .inl f3))] : va_W)) → va_S A s.heap H locs → ∀ (ls : Array Slot), lv_has ls 3 [(2, .int v2), (1, .ref q1), (0, .ref b)] → (∀ (H : Heap) (locs : List Loc), va_P D vwCl (([(q1, .inl (cI, 8, .inl o17))] : va_W)) H → va_D A (([(q1, .inl (cI, 8, .inl o17))] : va_W)) → va_S A s.heap H locs → ∀ (ls : Array Slot), lv_has ls 3 [(2, .int o16), (1, .ref q1), (0, .ref b)] → W p l e (headSpec wsL_weightsOf rmL_weightsOf).room s m ([.ref b] : List Value).toArray below meth c H locs 1 8 (MQ below (fb_qM (fun q => some (.ref q)) (fun q => [(q, .inl (cI, 8, .inl fo))]) D A) ([.ref b] : List Value).toArray s 1 8 A) (F0 m 88 ls [])) → W p l e (headSpec wsL_weightsOf rmL_weightsOf).room s m ([.ref b] : List Value).toArray below meth c H locs 1 8 (MQ below (fb_qM (fun q => some (.ref q)) (fun q => [(q, .inl (cI, 8, .inl fo))]) D A) ([.ref b] : List Value).toArray s 1 8 A) (F0 m 41 ls []) := by
    intro n
    induction n with
    | zero =>
      intro v2 f3 o16 o17 h
      rw [lpL_weightsOf_41.eq_1] at h
      cases h
    | succ n ih =>
      intro v2 f3 o16 o17 h H locs hP hD hS ls hl kx
      rw [lpL_weightsOf_41.eq_2] at h
      refine lv_iload_n hx hb dL_weightsOf_41 rfl (lv_at hl 0 rfl) ?_
      refine lv_bipush (v := 8) hx hb dL_weightsOf_42 (by decide) ?_
      refine lv_icmp_ge (tgt := 88) hx hb dL_weightsOf_44 (by decide) (fun c4 => ?_) (fun c4 => ?_)
      · replace h := fb_it c4 h
        obtain ⟨e1, e2⟩ := fb_p2 h
        subst e1
        subst e2
        exact kx H locs hP hD hS ls (lv_sub hl [0, 1, 2] rfl)
      · replace h := fb_ie c4 h
        refine lv_aload_n hx hb dL_weightsOf_47 rfl (lv_at hl 2 rfl) ?_
        refine lv_bipush (v := 13) hx hb dL_weightsOf_48 (by decide) ?_
        obtain ⟨r6, h5, h⟩ := fb_b1s h
        refine fb_callR (W.runS (As := [.ref b, .int 13]) (rest := []) ⟨hx, hb, hml, hown, hts⟩ (metL_cell l b L xs B0 13 r6 h5) (va_cwS 2 hts gL_weightsOf_L_cell rfl rfl rfl (by decide +kernel) ⟨Nat.le_of_ble_eq_true rfl, Nat.le_of_ble_eq_true rfl⟩) (fb_preS (fb_scp b L xs) hZ hS hAB _) rfl rfl hl.1 rfl (lv_room (Nat.le_of_ble_eq_true rfl)) dL_weightsOf_50 ⟨Nat.le_of_ble_eq_true rfl, Nat.le_of_ble_eq_true rfl⟩) ?_
        refine lv_iconst (v := 2) hx hb dL_weightsOf_53 (by decide) ?_
        refine lv_iload_n hx hb dL_weightsOf_54 rfl (lv_at hl 0 rfl) ?_
        refine lv_imul hx hb dL_weightsOf_55 ?_
        refine lv_ishr hx hb dL_weightsOf_56 ?_
        refine lv_iconst (v := 3) hx hb dL_weightsOf_57 (by decide) ?_
        obtain ⟨r8, h7, h⟩ := fb_b1s h
        refine fb_callR (W.runS (As := [.int (r6 >>> (((2 : Int32) * v2) &&& 31)), .int 3]) (rest := []) ⟨hx, hb, hml, hown, hts⟩ (metL_below l b L xs B0 (r6 >>> (((2 : Int32) * v2) &&& 31)) 3 r8 h7) (va_cwS 2 hts gL_weightsOf_L_below rfl rfl rfl (by decide +kernel) ⟨Nat.le_of_ble_eq_true rfl, Nat.le_of_ble_eq_true rfl⟩) (fb_preS (fb_scp b L xs) hZ hS hAB _) rfl rfl hl.1 rfl (lv_room (Nat.le_of_ble_eq_true rfl)) dL_weightsOf_58 ⟨Nat.le_of_ble_eq_true rfl, Nat.le_of_ble_eq_true rfl⟩) ?_
        obtain ⟨f15, hjJ1, h⟩ := fb_b1s h
        have J1 : ∀ (H : Heap) (locs : List Loc), va_P D vwCl (([(q1, .inl (cI, 8, .inl f15))] : va_W)) H → va_D A (([(q1, .inl (cI, 8, .inl f15))] : va_W)) → va_S A s.heap H locs → ∀ (ls : Array Slot), lv_has ls 3 [(2, .int v2), (1, .ref q1), (0, .ref b)] → W p l e (headSpec wsL_weightsOf rmL_weightsOf).room s m ([.ref b] : List Value).toArray below meth c H locs 1 8 (MQ below (fb_qM (fun q => some (.ref q)) (fun q => [(q, .inl (cI, 8, .inl fo))]) D A) ([.ref b] : List Value).toArray s 1 8 A) (F0 m 82 ls []) := by
          intro H locs hP hD hS ls hl
          refine lv_iinc (v := v2 + 1) (lv' := [(2, .int (v2 + 1)), (1, .ref q1), (0, .ref b)]) hx hb dL_weightsOf_82 hl (k := 0) rfl rfl (by decide) rfl (fun ls hl => ?_)
          refine lv_goto (tgt := 41) hx hb dL_weightsOf_85 (by decide) ?_
          exact ih _ _ o16 o17 h H locs hP hD hS ls (lv_sub hl [0, 1, 2] rfl) kx
        replace h := hjJ1
        refine lv_if_ne (tgt := 82) hx hb dL_weightsOf_61 (by decide) (fun c9 => ?_) (fun c9 => ?_)
        · replace h := fb_ie c9 h
          have h := Option.some.inj h
          subst h
          exact J1 H locs hP hD hS ls (lv_sub hl [0, 1, 2] rfl)
        · replace h := fb_it c9 h
          refine lv_aload_n hx hb dL_weightsOf_64 rfl (lv_at hl 1 rfl) ?_
          refine lv_iload_n hx hb dL_weightsOf_65 rfl (lv_at hl 0 rfl) ?_
          refine lv_aload_n hx hb dL_weightsOf_66 rfl (lv_at hl 2 rfl) ?_
          refine lv_bipush (v := 14) hx hb dL_weightsOf_67 (by decide) ?_
          obtain ⟨r11, h10, h⟩ := fb_b1s h
          refine fb_callR (W.runS (As := [.ref b, .int 14]) (rest := [.int v2, .ref q1]) ⟨hx, hb, hml, hown, hts⟩ (metL_cell l b L xs B0 14 r11 h10) (va_cwS 2 hts gL_weightsOf_L_cell rfl rfl rfl (by decide +kernel) ⟨Nat.le_of_ble_eq_true rfl, Nat.le_of_ble_eq_true rfl⟩) (fb_preS (fb_scp b L xs) hZ hS hAB _) rfl rfl hl.1 rfl (lv_room (Nat.le_of_ble_eq_true rfl)) dL_weightsOf_69 ⟨Nat.le_of_ble_eq_true rfl, Nat.le_of_ble_eq_true rfl⟩) ?_
          refine lv_iconst (v := 2) hx hb dL_weightsOf_72 (by decide) ?_
          refine lv_iload_n hx hb dL_weightsOf_73 rfl (lv_at hl 0 rfl) ?_
          refine lv_imul hx hb dL_weightsOf_74 ?_
          refine lv_ishr hx hb dL_weightsOf_75 ?_
          refine lv_bipush (v := 10) hx hb dL_weightsOf_76 (by decide) ?_
          obtain ⟨r13, h12, h⟩ := fb_b1s h
          refine fb_callR (W.runS (As := [.int (r11 >>> (((2 : Int32) * v2) &&& 31)), .int 10]) (rest := [.int v2, .ref q1]) ⟨hx, hb, hml, hown, hts⟩ (metL_below l b L xs B0 (r11 >>> (((2 : Int32) * v2) &&& 31)) 10 r13 h12) (va_cwS 2 hts gL_weightsOf_L_below rfl rfl rfl (by decide +kernel) ⟨Nat.le_of_ble_eq_true rfl, Nat.le_of_ble_eq_true rfl⟩) (fb_preS (fb_scp b L xs) hZ hS hAB _) rfl rfl hl.1 rfl (lv_room (Nat.le_of_ble_eq_true rfl)) dL_weightsOf_78 ⟨Nat.le_of_ble_eq_true rfl, Nat.le_of_ble_eq_true rfl⟩) ?_
          obtain ⟨hi14, h⟩ := fb_cks h
          refine va_iast hx hb hK hP hD hS 0 0 rfl rfl (fb_ixin hi14) dL_weightsOf_81 (fun H locs hP hD hS => ?_)
          have hP : va_P D vwCl (([(q1, .inl (cI, 8, .inl (upd f3 v2.toNatClampNeg r13)))] : va_W)) H := hP
          have hD : va_D A (([(q1, .inl (cI, 8, .inl (upd f3 v2.toNatClampNeg r13)))] : va_W)) := hD
          have h := Option.some.inj h
          subst h
          exact J1 H locs hP hD hS ls (lv_sub hl [0, 1, 2] rfl)
  obtain ⟨o16, o17, h19, h⟩ := fb_b2s h
  refine LL_weightsOf_41 _ _ _ o16 o17 h19 H locs hP hD hS ls (lv_sub hl [0, 1, 2] rfl) (fun H locs hP hD hS ls hl => ?_)
  refine lv_aload_n hx hb dL_weightsOf_88 rfl (lv_at hl 1 rfl) ?_
  have h := Option.some.inj h
  subst h
  exact W.aret hx hb hr (Or.inr ⟨_, rfl⟩) (Or.inr ⟨_, rfl⟩) (fun t ht _ => ⟨⟨q1, rfl, by rw [ht]; exact hP, hD⟩, hS.F ht⟩) hS.2.2 dL_weightsOf_89
