/-! The law's helpers: functions and contracts, printed by wip/whole/lgen.py. -/
def fL_chord (sz : Int32) (mi : Int32) (fg : Nat → Int32) (nt : Nat → Int32) (wt : Nat → Int32) (wl : Nat → Int32) (ob : Nat → Int64) (a1 : Int32) (a2 : Int32) : Option (Int32 × Int32 × (Nat → Int32) × (Nat → Int32) × (Nat → Int64)) :=
  fb_b1 (fX0_chord sz mi fg nt wt wl a1 a2) (fun re =>
  fb_mt re (fun v2 => some (0, v2.2.1, v2.2.2.1, v2.2.2.2, vp_updL ob (0 : Int32).toNatClampNeg v2.1.toInt64)) (fun x3 => if x3.1 = "java/lang/IllegalArgumentException" then some (1, x3.2.1, x3.2.2.1, x3.2.2.2, ob) else if x3.1 = "java/lang/IllegalStateException" then some (2, x3.2.1, x3.2.2.1, x3.2.2.2, ob) else none))
abbrev rmL_chord : Room := { frames := 7, cells := 1, slots := 6, locals := 118 }
set_option maxHeartbeats 8000000 in
set_option maxRecDepth 100000 in
theorem metL_chord (l : Launch) (hfl : l.stackTraces = false) (D : va_G) (cI cJ : ClassId) (h0 qf qn qw ql qo B0 : Nat) (sz : Int32) (mi : Int32) (fg : Nat → Int32) (nt : Nat → Int32) (wt : Nat → Int32) (wl : Nat → Int32) (ob : Nat → Int64) (a1 : Int32) (a2 : Int32) (hz : Nat) (ro : Int32) (szo : Int32) (fgo : Nat → Int32) (nto : Nat → Int32) (obo : Nat → Int64) (h : fL_chord sz mi fg nt wt wl ob a1 a2 = some (ro, szo, fgo, nto, obo)) : Met l yL_chord wsL_chord rmL_chord (va_Pc [.ref h0, .int a1, .int a2, .ref qo] (fb_pm D [(cI, .int), (cJ, .long)] B0 fb_sXT (fb_wL cI cJ h0 qf qn qw ql qo sz mi fg nt wt wl ob) hz)) (fb_qM (fun _ => some (.int ro)) (fun _ => fb_wL cI cJ h0 qf qn qw ql qo szo mi fgo nto wt wl obo) D (va_A (fb_wL cI cJ h0 qf qn qw ql qo sz mi fg nt wt wl ob) hz)) 1 6 (va_A (fb_wL cI cJ h0 qf qn qw ql qo sz mi fg nt wt wl ob) hz) := by
  refine va_MetW (cc := cL_chord) (maxL := 5) (ret := (some .int)) (hh := [(0, 10, 13, 13), (0, 10, 17, 15)]) (by decide) rfl ?_
  intro p e s m args below meth c s₁ B hml hv
  obtain ⟨rfl, hsz, ⟨hP, hK, hZT⟩, hD0, hAB⟩ := hv
  have hx := B.exec
  have hb := B.bytes
  have hr := B.returns
  have hts := atoms_spec (ws := wsL_chord) B.pre
  have hown : s.vm.findClass RL = some m.cls := findClass_of_methodNamed B.named
  have hlocks := B.notSynchronized
  have htab := vx_table (x := yL_chord) B (hts _ List.mem_cons_self)
  subst hsz
  have hD := hD0.self (sz := s.heap.size)
  generalize hAe : va_A (fb_wL cI cJ h0 qf qn qw ql qo sz mi fg nt wt wl ob) s.heap.size = A at hD hAB ⊢
  have hA : ∀ q : Nat, s.heap.size ≤ q → A q := fun q h9 => by rw [← hAe]; exact Or.inr h9
  have hS : va_S A s.heap s.heap [] := va_S.rf
  have hP : va_P D vwCl (fb_wL cI cJ h0 qf qn qw ql qo sz mi fg nt wt wl ob) s.heap := hP
  have hZ := hZT.1
  have hK1 : va_K D vwCl [(cI, .int)] s := hK.sub [0] rfl
  have w_c13 : (Cond.classLink RL 13 "java/lang/IllegalArgumentException") ∈ wsL_chord := List.mem_of_getElem? (i := 1) rfl
  have w_c15 : (Cond.classLink RL 15 "java/lang/IllegalStateException") ∈ wsL_chord := List.mem_of_getElem? (i := 2) rfl
  have hl := lv_entry ([.ref h0, .int a1, .int a2, .ref qo]) (n := 5) (Nat.le_of_ble_eq_true rfl)
  rw [lg_entry_eq]
  generalize (lg_sl ([.ref h0, .int a1, .int a2, .ref qo]) ++ List.replicate (5 - (lg_sl ([.ref h0, .int a1, .int a2, .ref qo])).length) Slot.unset).toArray = ls at hl ⊢
  have hl : lv_has ls 5 [(0, .ref h0), (1, .int a1), (2, .int a2), (3, .ref qo)] := hl
  suffices K : ∀ (H : Heap) (locs : List Loc), va_P D vwCl (fb_wL cI cJ h0 qf qn qw ql qo sz mi fg nt wt wl ob) H → va_S A s.heap H locs → W p l e (headSpec wsL_chord rmL_chord).room s m ([.ref h0, .int a1, .int a2, .ref qo] : List Value).toArray below meth c H locs 0 0 (MQ below (fb_qM (fun _ => some (.int ro)) (fun _ => fb_wL cI cJ h0 qf qn qw ql qo szo mi fgo nto wt wl obo) D A) ([.ref h0, .int a1, .int a2, .ref qo] : List Value).toArray s 1 6 A) (F0 m 0 ls []) from K s.heap [] hP hS
  intro H locs hP hS
  unfold fL_chord at h
  refine lv_aload_n hx hb dL_chord_0 rfl (lv_at hl 3 rfl) ?_
  refine lv_iconst (v := 0) hx hb dL_chord_1 (by decide) ?_
  refine lv_aload_n hx hb dL_chord_2 rfl (lv_at hl 0 rfl) ?_
  refine lv_iload_n hx hb dL_chord_3 rfl (lv_at hl 1 rfl) ?_
  refine lv_iload_n hx hb dL_chord_4 rfl (lv_at hl 2 rfl) ?_
  obtain ⟨re, h1, h⟩ := fb_b1s h
  have hPc : va_P D vwCl (fb_wX0 cI h0 qf qn qw ql sz mi fg nt wt wl) H := hP.sub [0, 1, 2, 3, 4] rfl
  have hDc : va_D A (fb_wX0 cI h0 qf qn qw ql sz mi fg nt wt wl) := hD.sub [0, 1, 2, 3, 4] (by decide) rfl
  have hFc := va_free (wc := fb_wX0 cI h0 qf qn qw ql sz mi fg nt wt wl) hD hS hA [0, 1, 2, 3, 4] rfl
  refine fb_callT (vx_runV (As := [.int a1, .int a2]) (rest := [.int 0, .ref qo]) ⟨hx, hb, hml, hown, hts⟩ (metX0_chord l hfl D cI h0 qf qn qw ql B0 sz mi fg nt wt wl a1 a2 H.size _ h1) (cwV 2 hts gL_chord_X0_chord rfl rfl rfl (by decide +kernel) ⟨Nat.le_of_ble_eq_true rfl, Nat.le_of_ble_eq_true rfl⟩) (fb_preVM (ci := 0) fb_sXTp hPc hK1 hDc hZT hS hAB hA rfl rfl _) rfl rfl hl.1 rfl (lv_room (Nat.le_of_ble_eq_true rfl)) dL_chord_5 ⟨Nat.le_of_ble_eq_true rfl, Nat.le_of_ble_eq_true rfl⟩) hS (fun q _ h9 => hFc q h9) hFc (fun x3 ce q9 H1 locs hre hP1 hD1 hk1 hS hce hcv hcl => ?_) (fun v2 H1 locs hre hP1 hD1 hk1 hS => ?_)
  · replace h := fb_mter hre h
    obtain ⟨hP, hD⟩ := va_join (wr := [(qo, .inl (cJ, 1, .inr (.inl ob)))]) (w1 := fb_wX0 cI h0 qf qn qw ql x3.2.1 mi x3.2.2.1 x3.2.2.2 wt wl) hP hD [0, 1, 2, 3, 4] [5] rfl rfl (by decide) (by decide) hk1 hFc hP1 hD1
    have hP : va_P D vwCl (fb_wL cI cJ h0 qf qn qw ql qo x3.2.1 mi x3.2.2.1 x3.2.2.2 wt wl ob) H1 := hP.sub [1, 2, 3, 4, 5, 0] rfl
    have hD : va_D A (fb_wL cI cJ h0 qf qn qw ql qo x3.2.1 mi x3.2.2.1 x3.2.2.2 wt wl ob) := hD.sub [1, 2, 3, 4, 5, 0] (by decide) rfl
    by_cases c0 : x3.1 = "java/lang/IllegalArgumentException"
    · replace h := fb_it c0 h
      refine vx_catch (E := x3.1) hown [] ⟨0, 10, 13, 13⟩ [⟨0, 10, 17, 15⟩] (htab.trans rfl) (fun z hz => nomatch hz) rfl (by decide) (hts _ w_c13) (by rw [c0]; exact fb_ca_IllegalArgumentException hZT) hce hcv hcl ?_
      generalize H1 = H at hP hS hce
      refine lv_astore (lv' := [(4, .ref q9), (0, .ref h0), (1, .int a1), (2, .int a2), (3, .ref qo)]) hx hb dL_chord_13 hl (by decide) rfl (fun ls hl => ?_)
      refine lv_iconst (v := 1) hx hb dL_chord_15 (by decide) ?_
      obtain ⟨e1, e2, e3, e4, e5⟩ := fb_p5 h
      subst e1
      subst e2
      subst e3
      subst e4
      subst e5
      exact W.iret hx hb hr (fun t ht _ => ⟨⟨0, rfl, by rw [ht]; exact hP, hD⟩, hS.F ht⟩) hS.2.2 dL_chord_16
    replace h := fb_ie c0 h
    by_cases c1 : x3.1 = "java/lang/IllegalStateException"
    · replace h := fb_it c1 h
      refine vx_catch (E := x3.1) hown [⟨0, 10, 13, 13⟩] ⟨0, 10, 17, 15⟩ [] (htab.trans rfl) (fun z hz => by rw [List.mem_singleton.mp hz]; exact Or.inr ⟨by decide, _, hts _ w_c13, by rw [c1]; exact fb_nc_IllegalStateException_IllegalArgumentException hZT⟩) rfl (by decide) (hts _ w_c15) (by rw [c1]; exact fb_ca_IllegalStateException hZT) hce hcv hcl ?_
      generalize H1 = H at hP hS hce
      refine lv_astore (lv' := [(4, .ref q9), (0, .ref h0), (1, .int a1), (2, .int a2), (3, .ref qo)]) hx hb dL_chord_17 hl (by decide) rfl (fun ls hl => ?_)
      refine lv_iconst (v := 2) hx hb dL_chord_19 (by decide) ?_
      obtain ⟨e1, e2, e3, e4, e5⟩ := fb_p5 h
      subst e1
      subst e2
      subst e3
      subst e4
      subst e5
      exact W.iret hx hb hr (fun t ht _ => ⟨⟨0, rfl, by rw [ht]; exact hP, hD⟩, hS.F ht⟩) hS.2.2 dL_chord_20
    replace h := fb_ie c1 h
    cases h
  · replace h := fb_mtok hre h
    obtain ⟨hP, hD⟩ := va_join (wr := [(qo, .inl (cJ, 1, .inr (.inl ob)))]) (w1 := fb_wX0 cI h0 qf qn qw ql v2.2.1 mi v2.2.2.1 v2.2.2.2 wt wl) hP hD [0, 1, 2, 3, 4] [5] rfl rfl (by decide) (by decide) hk1 hFc hP1 hD1
    have hP : va_P D vwCl (fb_wL cI cJ h0 qf qn qw ql qo v2.2.1 mi v2.2.2.1 v2.2.2.2 wt wl ob) H1 := hP.sub [1, 2, 3, 4, 5, 0] rfl
    have hD : va_D A (fb_wL cI cJ h0 qf qn qw ql qo v2.2.1 mi v2.2.2.1 v2.2.2.2 wt wl ob) := hD.sub [1, 2, 3, 4, 5, 0] (by decide) rfl
    generalize H1 = H at hP hS
    refine lv_i2l hx hb dL_chord_8 rfl ?_
    refine va_last hx hb hK hP hD hS 5 1 rfl rfl (fb_ixin (by decide)) dL_chord_9 (fun H locs hP hD hS => ?_)
    have hP : va_P D vwCl (fb_wL cI cJ h0 qf qn qw ql qo v2.2.1 mi v2.2.2.1 v2.2.2.2 wt wl (vp_updL ob (0 : Int32).toNatClampNeg v2.1.toInt64)) H := hP
    have hD : va_D A (fb_wL cI cJ h0 qf qn qw ql qo v2.2.1 mi v2.2.2.1 v2.2.2.2 wt wl (vp_updL ob (0 : Int32).toNatClampNeg v2.1.toInt64)) := hD
    refine lv_goto (tgt := 21) hx hb dL_chord_10 (by decide) ?_
    refine lv_iconst (v := 0) hx hb dL_chord_21 (by decide) ?_
    obtain ⟨e1, e2, e3, e4, e5⟩ := fb_p5 h
    subst e1
    subst e2
    subst e3
    subst e4
    subst e5
    exact W.iret hx hb hr (fun t ht _ => ⟨⟨0, rfl, by rw [ht]; exact hP, hD⟩, hS.F ht⟩) hS.2.2 dL_chord_22
def fL_setBass (sz : Int32) (mi : Int32) (fg : Nat → Int32) (nt : Nat → Int32) (wt : Nat → Int32) (wl : Nat → Int32) (ob : Nat → Int64) (a1 : Int32) (a2 : Int32) : Option (Int32 × (Nat → Int32) × (Nat → Int64)) :=
  fb_b1 (fX0_setBass sz mi fg nt wt wl a1 a2) (fun re =>
  fb_mt re (fun v2 => some (0, v2.2, vp_updL ob (0 : Int32).toNatClampNeg v2.1.toInt64)) (fun x3 => if x3.1 = "java/lang/IndexOutOfBoundsException" then some (1, x3.2, ob) else if x3.1 = "java/lang/IllegalArgumentException" then some (2, x3.2, ob) else none))
abbrev rmL_setBass : Room := { frames := 7, cells := 1, slots := 6, locals := 117 }
set_option maxHeartbeats 8000000 in
set_option maxRecDepth 100000 in
theorem metL_setBass (l : Launch) (hfl : l.stackTraces = false) (D : va_G) (cI cJ : ClassId) (h0 qf qn qw ql qo B0 : Nat) (sz : Int32) (mi : Int32) (fg : Nat → Int32) (nt : Nat → Int32) (wt : Nat → Int32) (wl : Nat → Int32) (ob : Nat → Int64) (a1 : Int32) (a2 : Int32) (hz : Nat) (ro : Int32) (nto : Nat → Int32) (obo : Nat → Int64) (h : fL_setBass sz mi fg nt wt wl ob a1 a2 = some (ro, nto, obo)) : Met l yL_setBass wsL_setBass rmL_setBass (va_Pc [.ref h0, .int a1, .int a2, .ref qo] (fb_pm D [(cI, .int), (cJ, .long)] B0 fb_sXT (fb_wL cI cJ h0 qf qn qw ql qo sz mi fg nt wt wl ob) hz)) (fb_qM (fun _ => some (.int ro)) (fun _ => fb_wL cI cJ h0 qf qn qw ql qo sz mi fg nto wt wl obo) D (va_A (fb_wL cI cJ h0 qf qn qw ql qo sz mi fg nt wt wl ob) hz)) 1 6 (va_A (fb_wL cI cJ h0 qf qn qw ql qo sz mi fg nt wt wl ob) hz) := by
  refine va_MetW (cc := cL_setBass) (maxL := 5) (ret := (some .int)) (hh := [(0, 10, 13, 20), (0, 10, 17, 13)]) (by decide) rfl ?_
  intro p e s m args below meth c s₁ B hml hv
  obtain ⟨rfl, hsz, ⟨hP, hK, hZT⟩, hD0, hAB⟩ := hv
  have hx := B.exec
  have hb := B.bytes
  have hr := B.returns
  have hts := atoms_spec (ws := wsL_setBass) B.pre
  have hown : s.vm.findClass RL = some m.cls := findClass_of_methodNamed B.named
  have hlocks := B.notSynchronized
  have htab := vx_table (x := yL_setBass) B (hts _ List.mem_cons_self)
  subst hsz
  have hD := hD0.self (sz := s.heap.size)
  generalize hAe : va_A (fb_wL cI cJ h0 qf qn qw ql qo sz mi fg nt wt wl ob) s.heap.size = A at hD hAB ⊢
  have hA : ∀ q : Nat, s.heap.size ≤ q → A q := fun q h9 => by rw [← hAe]; exact Or.inr h9
  have hS : va_S A s.heap s.heap [] := va_S.rf
  have hP : va_P D vwCl (fb_wL cI cJ h0 qf qn qw ql qo sz mi fg nt wt wl ob) s.heap := hP
  have hZ := hZT.1
  have hK1 : va_K D vwCl [(cI, .int)] s := hK.sub [0] rfl
  have w_c13 : (Cond.classLink RL 13 "java/lang/IllegalArgumentException") ∈ wsL_setBass := List.mem_of_getElem? (i := 2) rfl
  have w_c20 : (Cond.classLink RL 20 "java/lang/IndexOutOfBoundsException") ∈ wsL_setBass := List.mem_of_getElem? (i := 1) rfl
  have hl := lv_entry ([.ref h0, .int a1, .int a2, .ref qo]) (n := 5) (Nat.le_of_ble_eq_true rfl)
  rw [lg_entry_eq]
  generalize (lg_sl ([.ref h0, .int a1, .int a2, .ref qo]) ++ List.replicate (5 - (lg_sl ([.ref h0, .int a1, .int a2, .ref qo])).length) Slot.unset).toArray = ls at hl ⊢
  have hl : lv_has ls 5 [(0, .ref h0), (1, .int a1), (2, .int a2), (3, .ref qo)] := hl
  suffices K : ∀ (H : Heap) (locs : List Loc), va_P D vwCl (fb_wL cI cJ h0 qf qn qw ql qo sz mi fg nt wt wl ob) H → va_S A s.heap H locs → W p l e (headSpec wsL_setBass rmL_setBass).room s m ([.ref h0, .int a1, .int a2, .ref qo] : List Value).toArray below meth c H locs 0 0 (MQ below (fb_qM (fun _ => some (.int ro)) (fun _ => fb_wL cI cJ h0 qf qn qw ql qo sz mi fg nto wt wl obo) D A) ([.ref h0, .int a1, .int a2, .ref qo] : List Value).toArray s 1 6 A) (F0 m 0 ls []) from K s.heap [] hP hS
  intro H locs hP hS
  unfold fL_setBass at h
  refine lv_aload_n hx hb dL_setBass_0 rfl (lv_at hl 3 rfl) ?_
  refine lv_iconst (v := 0) hx hb dL_setBass_1 (by decide) ?_
  refine lv_aload_n hx hb dL_setBass_2 rfl (lv_at hl 0 rfl) ?_
  refine lv_iload_n hx hb dL_setBass_3 rfl (lv_at hl 1 rfl) ?_
  refine lv_iload_n hx hb dL_setBass_4 rfl (lv_at hl 2 rfl) ?_
  obtain ⟨re, h1, h⟩ := fb_b1s h
  have hPc : va_P D vwCl (fb_wX0 cI h0 qf qn qw ql sz mi fg nt wt wl) H := hP.sub [0, 1, 2, 3, 4] rfl
  have hDc : va_D A (fb_wX0 cI h0 qf qn qw ql sz mi fg nt wt wl) := hD.sub [0, 1, 2, 3, 4] (by decide) rfl
  have hFc := va_free (wc := fb_wX0 cI h0 qf qn qw ql sz mi fg nt wt wl) hD hS hA [0, 1, 2, 3, 4] rfl
  refine fb_callT (vx_runV (As := [.int a1, .int a2]) (rest := [.int 0, .ref qo]) ⟨hx, hb, hml, hown, hts⟩ (metX0_setBass l hfl D cI h0 qf qn qw ql B0 sz mi fg nt wt wl a1 a2 H.size _ h1) (cwV 2 hts gL_setBass_X0_setBass rfl rfl rfl (by decide +kernel) ⟨Nat.le_of_ble_eq_true rfl, Nat.le_of_ble_eq_true rfl⟩) (fb_preVM (ci := 0) fb_sXTp hPc hK1 hDc hZT hS hAB hA rfl rfl _) rfl rfl hl.1 rfl (lv_room (Nat.le_of_ble_eq_true rfl)) dL_setBass_5 ⟨Nat.le_of_ble_eq_true rfl, Nat.le_of_ble_eq_true rfl⟩) hS (fun q _ h9 => hFc q h9) hFc (fun x3 ce q9 H1 locs hre hP1 hD1 hk1 hS hce hcv hcl => ?_) (fun v2 H1 locs hre hP1 hD1 hk1 hS => ?_)
  · replace h := fb_mter hre h
    obtain ⟨hP, hD⟩ := va_join (wr := [(qo, .inl (cJ, 1, .inr (.inl ob)))]) (w1 := fb_wX0 cI h0 qf qn qw ql sz mi fg x3.2 wt wl) hP hD [0, 1, 2, 3, 4] [5] rfl rfl (by decide) (by decide) hk1 hFc hP1 hD1
    have hP : va_P D vwCl (fb_wL cI cJ h0 qf qn qw ql qo sz mi fg x3.2 wt wl ob) H1 := hP.sub [1, 2, 3, 4, 5, 0] rfl
    have hD : va_D A (fb_wL cI cJ h0 qf qn qw ql qo sz mi fg x3.2 wt wl ob) := hD.sub [1, 2, 3, 4, 5, 0] (by decide) rfl
    by_cases c0 : x3.1 = "java/lang/IndexOutOfBoundsException"
    · replace h := fb_it c0 h
      refine vx_catch (E := x3.1) hown [] ⟨0, 10, 13, 20⟩ [⟨0, 10, 17, 13⟩] (htab.trans rfl) (fun z hz => nomatch hz) rfl (by decide) (hts _ w_c20) (by rw [c0]; exact fb_ca_IndexOutOfBoundsException hZT) hce hcv hcl ?_
      generalize H1 = H at hP hS hce
      refine lv_astore (lv' := [(4, .ref q9), (0, .ref h0), (1, .int a1), (2, .int a2), (3, .ref qo)]) hx hb dL_setBass_13 hl (by decide) rfl (fun ls hl => ?_)
      refine lv_iconst (v := 1) hx hb dL_setBass_15 (by decide) ?_
      obtain ⟨e1, e2, e3⟩ := fb_p3 h
      subst e1
      subst e2
      subst e3
      exact W.iret hx hb hr (fun t ht _ => ⟨⟨0, rfl, by rw [ht]; exact hP, hD⟩, hS.F ht⟩) hS.2.2 dL_setBass_16
    replace h := fb_ie c0 h
    by_cases c1 : x3.1 = "java/lang/IllegalArgumentException"
    · replace h := fb_it c1 h
      refine vx_catch (E := x3.1) hown [⟨0, 10, 13, 20⟩] ⟨0, 10, 17, 13⟩ [] (htab.trans rfl) (fun z hz => by rw [List.mem_singleton.mp hz]; exact Or.inr ⟨by decide, _, hts _ w_c20, by rw [c1]; exact fb_nc_IllegalArgumentException_IndexOutOfBoundsException hZT⟩) rfl (by decide) (hts _ w_c13) (by rw [c1]; exact fb_ca_IllegalArgumentException hZT) hce hcv hcl ?_
      generalize H1 = H at hP hS hce
      refine lv_astore (lv' := [(4, .ref q9), (0, .ref h0), (1, .int a1), (2, .int a2), (3, .ref qo)]) hx hb dL_setBass_17 hl (by decide) rfl (fun ls hl => ?_)
      refine lv_iconst (v := 2) hx hb dL_setBass_19 (by decide) ?_
      obtain ⟨e1, e2, e3⟩ := fb_p3 h
      subst e1
      subst e2
      subst e3
      exact W.iret hx hb hr (fun t ht _ => ⟨⟨0, rfl, by rw [ht]; exact hP, hD⟩, hS.F ht⟩) hS.2.2 dL_setBass_20
    replace h := fb_ie c1 h
    cases h
  · replace h := fb_mtok hre h
    obtain ⟨hP, hD⟩ := va_join (wr := [(qo, .inl (cJ, 1, .inr (.inl ob)))]) (w1 := fb_wX0 cI h0 qf qn qw ql sz mi fg v2.2 wt wl) hP hD [0, 1, 2, 3, 4] [5] rfl rfl (by decide) (by decide) hk1 hFc hP1 hD1
    have hP : va_P D vwCl (fb_wL cI cJ h0 qf qn qw ql qo sz mi fg v2.2 wt wl ob) H1 := hP.sub [1, 2, 3, 4, 5, 0] rfl
    have hD : va_D A (fb_wL cI cJ h0 qf qn qw ql qo sz mi fg v2.2 wt wl ob) := hD.sub [1, 2, 3, 4, 5, 0] (by decide) rfl
    generalize H1 = H at hP hS
    refine lv_i2l hx hb dL_setBass_8 rfl ?_
    refine va_last hx hb hK hP hD hS 5 1 rfl rfl (fb_ixin (by decide)) dL_setBass_9 (fun H locs hP hD hS => ?_)
    have hP : va_P D vwCl (fb_wL cI cJ h0 qf qn qw ql qo sz mi fg v2.2 wt wl (vp_updL ob (0 : Int32).toNatClampNeg v2.1.toInt64)) H := hP
    have hD : va_D A (fb_wL cI cJ h0 qf qn qw ql qo sz mi fg v2.2 wt wl (vp_updL ob (0 : Int32).toNatClampNeg v2.1.toInt64)) := hD
    refine lv_goto (tgt := 21) hx hb dL_setBass_10 (by decide) ?_
    refine lv_iconst (v := 0) hx hb dL_setBass_21 (by decide) ?_
    obtain ⟨e1, e2, e3⟩ := fb_p3 h
    subst e1
    subst e2
    subst e3
    exact W.iret hx hb hr (fun t ht _ => ⟨⟨0, rfl, by rw [ht]; exact hP, hD⟩, hS.F ht⟩) hS.2.2 dL_setBass_22
def fL_setFigure (sz : Int32) (mi : Int32) (fg : Nat → Int32) (nt : Nat → Int32) (wt : Nat → Int32) (wl : Nat → Int32) (ob : Nat → Int64) (a1 : Int32) (a2 : Int32) : Option (Int32 × (Nat → Int32) × (Nat → Int64)) :=
  fb_b1 (fX0_setFigure sz mi fg nt wt wl a1 a2) (fun re =>
  fb_mt re (fun v2 => some (0, v2.2, vp_updL ob (0 : Int32).toNatClampNeg v2.1.toInt64)) (fun x3 => if x3.1 = "java/lang/IndexOutOfBoundsException" then some (1, x3.2, ob) else if x3.1 = "java/lang/IllegalArgumentException" then some (2, x3.2, ob) else none))
abbrev rmL_setFigure : Room := { frames := 7, cells := 1, slots := 6, locals := 118 }
set_option maxHeartbeats 8000000 in
set_option maxRecDepth 100000 in
theorem metL_setFigure (l : Launch) (hfl : l.stackTraces = false) (D : va_G) (cI cJ : ClassId) (h0 qf qn qw ql qo B0 : Nat) (sz : Int32) (mi : Int32) (fg : Nat → Int32) (nt : Nat → Int32) (wt : Nat → Int32) (wl : Nat → Int32) (ob : Nat → Int64) (a1 : Int32) (a2 : Int32) (hz : Nat) (ro : Int32) (fgo : Nat → Int32) (obo : Nat → Int64) (h : fL_setFigure sz mi fg nt wt wl ob a1 a2 = some (ro, fgo, obo)) : Met l yL_setFigure wsL_setFigure rmL_setFigure (va_Pc [.ref h0, .int a1, .int a2, .ref qo] (fb_pm D [(cI, .int), (cJ, .long)] B0 fb_sXT (fb_wL cI cJ h0 qf qn qw ql qo sz mi fg nt wt wl ob) hz)) (fb_qM (fun _ => some (.int ro)) (fun _ => fb_wL cI cJ h0 qf qn qw ql qo sz mi fgo nt wt wl obo) D (va_A (fb_wL cI cJ h0 qf qn qw ql qo sz mi fg nt wt wl ob) hz)) 1 6 (va_A (fb_wL cI cJ h0 qf qn qw ql qo sz mi fg nt wt wl ob) hz) := by
  refine va_MetW (cc := cL_setFigure) (maxL := 5) (ret := (some .int)) (hh := [(0, 10, 13, 20), (0, 10, 17, 13)]) (by decide) rfl ?_
  intro p e s m args below meth c s₁ B hml hv
  obtain ⟨rfl, hsz, ⟨hP, hK, hZT⟩, hD0, hAB⟩ := hv
  have hx := B.exec
  have hb := B.bytes
  have hr := B.returns
  have hts := atoms_spec (ws := wsL_setFigure) B.pre
  have hown : s.vm.findClass RL = some m.cls := findClass_of_methodNamed B.named
  have hlocks := B.notSynchronized
  have htab := vx_table (x := yL_setFigure) B (hts _ List.mem_cons_self)
  subst hsz
  have hD := hD0.self (sz := s.heap.size)
  generalize hAe : va_A (fb_wL cI cJ h0 qf qn qw ql qo sz mi fg nt wt wl ob) s.heap.size = A at hD hAB ⊢
  have hA : ∀ q : Nat, s.heap.size ≤ q → A q := fun q h9 => by rw [← hAe]; exact Or.inr h9
  have hS : va_S A s.heap s.heap [] := va_S.rf
  have hP : va_P D vwCl (fb_wL cI cJ h0 qf qn qw ql qo sz mi fg nt wt wl ob) s.heap := hP
  have hZ := hZT.1
  have hK1 : va_K D vwCl [(cI, .int)] s := hK.sub [0] rfl
  have w_c13 : (Cond.classLink RL 13 "java/lang/IllegalArgumentException") ∈ wsL_setFigure := List.mem_of_getElem? (i := 2) rfl
  have w_c20 : (Cond.classLink RL 20 "java/lang/IndexOutOfBoundsException") ∈ wsL_setFigure := List.mem_of_getElem? (i := 1) rfl
  have hl := lv_entry ([.ref h0, .int a1, .int a2, .ref qo]) (n := 5) (Nat.le_of_ble_eq_true rfl)
  rw [lg_entry_eq]
  generalize (lg_sl ([.ref h0, .int a1, .int a2, .ref qo]) ++ List.replicate (5 - (lg_sl ([.ref h0, .int a1, .int a2, .ref qo])).length) Slot.unset).toArray = ls at hl ⊢
  have hl : lv_has ls 5 [(0, .ref h0), (1, .int a1), (2, .int a2), (3, .ref qo)] := hl
  suffices K : ∀ (H : Heap) (locs : List Loc), va_P D vwCl (fb_wL cI cJ h0 qf qn qw ql qo sz mi fg nt wt wl ob) H → va_S A s.heap H locs → W p l e (headSpec wsL_setFigure rmL_setFigure).room s m ([.ref h0, .int a1, .int a2, .ref qo] : List Value).toArray below meth c H locs 0 0 (MQ below (fb_qM (fun _ => some (.int ro)) (fun _ => fb_wL cI cJ h0 qf qn qw ql qo sz mi fgo nt wt wl obo) D A) ([.ref h0, .int a1, .int a2, .ref qo] : List Value).toArray s 1 6 A) (F0 m 0 ls []) from K s.heap [] hP hS
  intro H locs hP hS
  unfold fL_setFigure at h
  refine lv_aload_n hx hb dL_setFigure_0 rfl (lv_at hl 3 rfl) ?_
  refine lv_iconst (v := 0) hx hb dL_setFigure_1 (by decide) ?_
  refine lv_aload_n hx hb dL_setFigure_2 rfl (lv_at hl 0 rfl) ?_
  refine lv_iload_n hx hb dL_setFigure_3 rfl (lv_at hl 1 rfl) ?_
  refine lv_iload_n hx hb dL_setFigure_4 rfl (lv_at hl 2 rfl) ?_
  obtain ⟨re, h1, h⟩ := fb_b1s h
  have hPc : va_P D vwCl (fb_wX0 cI h0 qf qn qw ql sz mi fg nt wt wl) H := hP.sub [0, 1, 2, 3, 4] rfl
  have hDc : va_D A (fb_wX0 cI h0 qf qn qw ql sz mi fg nt wt wl) := hD.sub [0, 1, 2, 3, 4] (by decide) rfl
  have hFc := va_free (wc := fb_wX0 cI h0 qf qn qw ql sz mi fg nt wt wl) hD hS hA [0, 1, 2, 3, 4] rfl
  refine fb_callT (vx_runV (As := [.int a1, .int a2]) (rest := [.int 0, .ref qo]) ⟨hx, hb, hml, hown, hts⟩ (metX0_setFigure l hfl D cI h0 qf qn qw ql B0 sz mi fg nt wt wl a1 a2 H.size _ h1) (cwV 2 hts gL_setFigure_X0_setFigure rfl rfl rfl (by decide +kernel) ⟨Nat.le_of_ble_eq_true rfl, Nat.le_of_ble_eq_true rfl⟩) (fb_preVM (ci := 0) fb_sXTp hPc hK1 hDc hZT hS hAB hA rfl rfl _) rfl rfl hl.1 rfl (lv_room (Nat.le_of_ble_eq_true rfl)) dL_setFigure_5 ⟨Nat.le_of_ble_eq_true rfl, Nat.le_of_ble_eq_true rfl⟩) hS (fun q _ h9 => hFc q h9) hFc (fun x3 ce q9 H1 locs hre hP1 hD1 hk1 hS hce hcv hcl => ?_) (fun v2 H1 locs hre hP1 hD1 hk1 hS => ?_)
  · replace h := fb_mter hre h
    obtain ⟨hP, hD⟩ := va_join (wr := [(qo, .inl (cJ, 1, .inr (.inl ob)))]) (w1 := fb_wX0 cI h0 qf qn qw ql sz mi x3.2 nt wt wl) hP hD [0, 1, 2, 3, 4] [5] rfl rfl (by decide) (by decide) hk1 hFc hP1 hD1
    have hP : va_P D vwCl (fb_wL cI cJ h0 qf qn qw ql qo sz mi x3.2 nt wt wl ob) H1 := hP.sub [1, 2, 3, 4, 5, 0] rfl
    have hD : va_D A (fb_wL cI cJ h0 qf qn qw ql qo sz mi x3.2 nt wt wl ob) := hD.sub [1, 2, 3, 4, 5, 0] (by decide) rfl
    by_cases c0 : x3.1 = "java/lang/IndexOutOfBoundsException"
    · replace h := fb_it c0 h
      refine vx_catch (E := x3.1) hown [] ⟨0, 10, 13, 20⟩ [⟨0, 10, 17, 13⟩] (htab.trans rfl) (fun z hz => nomatch hz) rfl (by decide) (hts _ w_c20) (by rw [c0]; exact fb_ca_IndexOutOfBoundsException hZT) hce hcv hcl ?_
      generalize H1 = H at hP hS hce
      refine lv_astore (lv' := [(4, .ref q9), (0, .ref h0), (1, .int a1), (2, .int a2), (3, .ref qo)]) hx hb dL_setFigure_13 hl (by decide) rfl (fun ls hl => ?_)
      refine lv_iconst (v := 1) hx hb dL_setFigure_15 (by decide) ?_
      obtain ⟨e1, e2, e3⟩ := fb_p3 h
      subst e1
      subst e2
      subst e3
      exact W.iret hx hb hr (fun t ht _ => ⟨⟨0, rfl, by rw [ht]; exact hP, hD⟩, hS.F ht⟩) hS.2.2 dL_setFigure_16
    replace h := fb_ie c0 h
    by_cases c1 : x3.1 = "java/lang/IllegalArgumentException"
    · replace h := fb_it c1 h
      refine vx_catch (E := x3.1) hown [⟨0, 10, 13, 20⟩] ⟨0, 10, 17, 13⟩ [] (htab.trans rfl) (fun z hz => by rw [List.mem_singleton.mp hz]; exact Or.inr ⟨by decide, _, hts _ w_c20, by rw [c1]; exact fb_nc_IllegalArgumentException_IndexOutOfBoundsException hZT⟩) rfl (by decide) (hts _ w_c13) (by rw [c1]; exact fb_ca_IllegalArgumentException hZT) hce hcv hcl ?_
      generalize H1 = H at hP hS hce
      refine lv_astore (lv' := [(4, .ref q9), (0, .ref h0), (1, .int a1), (2, .int a2), (3, .ref qo)]) hx hb dL_setFigure_17 hl (by decide) rfl (fun ls hl => ?_)
      refine lv_iconst (v := 2) hx hb dL_setFigure_19 (by decide) ?_
      obtain ⟨e1, e2, e3⟩ := fb_p3 h
      subst e1
      subst e2
      subst e3
      exact W.iret hx hb hr (fun t ht _ => ⟨⟨0, rfl, by rw [ht]; exact hP, hD⟩, hS.F ht⟩) hS.2.2 dL_setFigure_20
    replace h := fb_ie c1 h
    cases h
  · replace h := fb_mtok hre h
    obtain ⟨hP, hD⟩ := va_join (wr := [(qo, .inl (cJ, 1, .inr (.inl ob)))]) (w1 := fb_wX0 cI h0 qf qn qw ql sz mi v2.2 nt wt wl) hP hD [0, 1, 2, 3, 4] [5] rfl rfl (by decide) (by decide) hk1 hFc hP1 hD1
    have hP : va_P D vwCl (fb_wL cI cJ h0 qf qn qw ql qo sz mi v2.2 nt wt wl ob) H1 := hP.sub [1, 2, 3, 4, 5, 0] rfl
    have hD : va_D A (fb_wL cI cJ h0 qf qn qw ql qo sz mi v2.2 nt wt wl ob) := hD.sub [1, 2, 3, 4, 5, 0] (by decide) rfl
    generalize H1 = H at hP hS
    refine lv_i2l hx hb dL_setFigure_8 rfl ?_
    refine va_last hx hb hK hP hD hS 5 1 rfl rfl (fb_ixin (by decide)) dL_setFigure_9 (fun H locs hP hD hS => ?_)
    have hP : va_P D vwCl (fb_wL cI cJ h0 qf qn qw ql qo sz mi v2.2 nt wt wl (vp_updL ob (0 : Int32).toNatClampNeg v2.1.toInt64)) H := hP
    have hD : va_D A (fb_wL cI cJ h0 qf qn qw ql qo sz mi v2.2 nt wt wl (vp_updL ob (0 : Int32).toNatClampNeg v2.1.toInt64)) := hD
    refine lv_goto (tgt := 21) hx hb dL_setFigure_10 (by decide) ?_
    refine lv_iconst (v := 0) hx hb dL_setFigure_21 (by decide) ?_
    obtain ⟨e1, e2, e3⟩ := fb_p3 h
    subst e1
    subst e2
    subst e3
    exact W.iret hx hb hr (fun t ht _ => ⟨⟨0, rfl, by rw [ht]; exact hP, hD⟩, hS.F ht⟩) hS.2.2 dL_setFigure_22
def fL_put (sz : Int32) (mi : Int32) (fg : Nat → Int32) (nt : Nat → Int32) (wt : Nat → Int32) (wl : Nat → Int32) (ob : Nat → Int64) (a1 : Int32) (a2 : Int32) (a3 : Int32) : Option (Int32 × (Nat → Int32) × (Nat → Int64)) :=
  fb_b1 (fX0_put sz mi fg nt wt wl a1 a2 a3) (fun re =>
  fb_mt re (fun v2 => some (0, v2.2, vp_updL ob (0 : Int32).toNatClampNeg v2.1.toInt64)) (fun x3 => if x3.1 = "java/lang/IndexOutOfBoundsException" then some (1, x3.2, ob) else if x3.1 = "java/lang/IllegalArgumentException" then some (2, x3.2, ob) else none))
abbrev rmL_put : Room := { frames := 7, cells := 1, slots := 6, locals := 118 }
set_option maxHeartbeats 8000000 in
set_option maxRecDepth 100000 in
theorem metL_put (l : Launch) (hfl : l.stackTraces = false) (D : va_G) (cI cJ : ClassId) (h0 qf qn qw ql qo B0 : Nat) (sz : Int32) (mi : Int32) (fg : Nat → Int32) (nt : Nat → Int32) (wt : Nat → Int32) (wl : Nat → Int32) (ob : Nat → Int64) (a1 : Int32) (a2 : Int32) (a3 : Int32) (hz : Nat) (ro : Int32) (nto : Nat → Int32) (obo : Nat → Int64) (h : fL_put sz mi fg nt wt wl ob a1 a2 a3 = some (ro, nto, obo)) : Met l yL_put wsL_put rmL_put (va_Pc [.ref h0, .int a1, .int a2, .int a3, .ref qo] (fb_pm D [(cI, .int), (cJ, .long)] B0 fb_sXT (fb_wL cI cJ h0 qf qn qw ql qo sz mi fg nt wt wl ob) hz)) (fb_qM (fun _ => some (.int ro)) (fun _ => fb_wL cI cJ h0 qf qn qw ql qo sz mi fg nto wt wl obo) D (va_A (fb_wL cI cJ h0 qf qn qw ql qo sz mi fg nt wt wl ob) hz)) 1 6 (va_A (fb_wL cI cJ h0 qf qn qw ql qo sz mi fg nt wt wl ob) hz) := by
  refine va_MetW (cc := cL_put) (maxL := 6) (ret := (some .int)) (hh := [(0, 12, 15, 20), (0, 12, 19, 13)]) (by decide) rfl ?_
  intro p e s m args below meth c s₁ B hml hv
  obtain ⟨rfl, hsz, ⟨hP, hK, hZT⟩, hD0, hAB⟩ := hv
  have hx := B.exec
  have hb := B.bytes
  have hr := B.returns
  have hts := atoms_spec (ws := wsL_put) B.pre
  have hown : s.vm.findClass RL = some m.cls := findClass_of_methodNamed B.named
  have hlocks := B.notSynchronized
  have htab := vx_table (x := yL_put) B (hts _ List.mem_cons_self)
  subst hsz
  have hD := hD0.self (sz := s.heap.size)
  generalize hAe : va_A (fb_wL cI cJ h0 qf qn qw ql qo sz mi fg nt wt wl ob) s.heap.size = A at hD hAB ⊢
  have hA : ∀ q : Nat, s.heap.size ≤ q → A q := fun q h9 => by rw [← hAe]; exact Or.inr h9
  have hS : va_S A s.heap s.heap [] := va_S.rf
  have hP : va_P D vwCl (fb_wL cI cJ h0 qf qn qw ql qo sz mi fg nt wt wl ob) s.heap := hP
  have hZ := hZT.1
  have hK1 : va_K D vwCl [(cI, .int)] s := hK.sub [0] rfl
  have w_c13 : (Cond.classLink RL 13 "java/lang/IllegalArgumentException") ∈ wsL_put := List.mem_of_getElem? (i := 2) rfl
  have w_c20 : (Cond.classLink RL 20 "java/lang/IndexOutOfBoundsException") ∈ wsL_put := List.mem_of_getElem? (i := 1) rfl
  have hl := lv_entry ([.ref h0, .int a1, .int a2, .int a3, .ref qo]) (n := 6) (Nat.le_of_ble_eq_true rfl)
  rw [lg_entry_eq]
  generalize (lg_sl ([.ref h0, .int a1, .int a2, .int a3, .ref qo]) ++ List.replicate (6 - (lg_sl ([.ref h0, .int a1, .int a2, .int a3, .ref qo])).length) Slot.unset).toArray = ls at hl ⊢
  have hl : lv_has ls 6 [(0, .ref h0), (1, .int a1), (2, .int a2), (3, .int a3), (4, .ref qo)] := hl
  suffices K : ∀ (H : Heap) (locs : List Loc), va_P D vwCl (fb_wL cI cJ h0 qf qn qw ql qo sz mi fg nt wt wl ob) H → va_S A s.heap H locs → W p l e (headSpec wsL_put rmL_put).room s m ([.ref h0, .int a1, .int a2, .int a3, .ref qo] : List Value).toArray below meth c H locs 0 0 (MQ below (fb_qM (fun _ => some (.int ro)) (fun _ => fb_wL cI cJ h0 qf qn qw ql qo sz mi fg nto wt wl obo) D A) ([.ref h0, .int a1, .int a2, .int a3, .ref qo] : List Value).toArray s 1 6 A) (F0 m 0 ls []) from K s.heap [] hP hS
  intro H locs hP hS
  unfold fL_put at h
  refine lv_aload hx hb dL_put_0 (lv_at hl 4 rfl) ?_
  refine lv_iconst (v := 0) hx hb dL_put_2 (by decide) ?_
  refine lv_aload_n hx hb dL_put_3 rfl (lv_at hl 0 rfl) ?_
  refine lv_iload_n hx hb dL_put_4 rfl (lv_at hl 1 rfl) ?_
  refine lv_iload_n hx hb dL_put_5 rfl (lv_at hl 2 rfl) ?_
  refine lv_iload_n hx hb dL_put_6 rfl (lv_at hl 3 rfl) ?_
  obtain ⟨re, h1, h⟩ := fb_b1s h
  have hPc : va_P D vwCl (fb_wX0 cI h0 qf qn qw ql sz mi fg nt wt wl) H := hP.sub [0, 1, 2, 3, 4] rfl
  have hDc : va_D A (fb_wX0 cI h0 qf qn qw ql sz mi fg nt wt wl) := hD.sub [0, 1, 2, 3, 4] (by decide) rfl
  have hFc := va_free (wc := fb_wX0 cI h0 qf qn qw ql sz mi fg nt wt wl) hD hS hA [0, 1, 2, 3, 4] rfl
  refine fb_callT (vx_runV (As := [.int a1, .int a2, .int a3]) (rest := [.int 0, .ref qo]) ⟨hx, hb, hml, hown, hts⟩ (metX0_put l hfl D cI h0 qf qn qw ql B0 sz mi fg nt wt wl a1 a2 a3 H.size _ h1) (cwV 3 hts gL_put_X0_put rfl rfl rfl (by decide +kernel) ⟨Nat.le_of_ble_eq_true rfl, Nat.le_of_ble_eq_true rfl⟩) (fb_preVM (ci := 0) fb_sXTp hPc hK1 hDc hZT hS hAB hA rfl rfl _) rfl rfl hl.1 rfl (lv_room (Nat.le_of_ble_eq_true rfl)) dL_put_7 ⟨Nat.le_of_ble_eq_true rfl, Nat.le_of_ble_eq_true rfl⟩) hS (fun q _ h9 => hFc q h9) hFc (fun x3 ce q9 H1 locs hre hP1 hD1 hk1 hS hce hcv hcl => ?_) (fun v2 H1 locs hre hP1 hD1 hk1 hS => ?_)
  · replace h := fb_mter hre h
    obtain ⟨hP, hD⟩ := va_join (wr := [(qo, .inl (cJ, 1, .inr (.inl ob)))]) (w1 := fb_wX0 cI h0 qf qn qw ql sz mi fg x3.2 wt wl) hP hD [0, 1, 2, 3, 4] [5] rfl rfl (by decide) (by decide) hk1 hFc hP1 hD1
    have hP : va_P D vwCl (fb_wL cI cJ h0 qf qn qw ql qo sz mi fg x3.2 wt wl ob) H1 := hP.sub [1, 2, 3, 4, 5, 0] rfl
    have hD : va_D A (fb_wL cI cJ h0 qf qn qw ql qo sz mi fg x3.2 wt wl ob) := hD.sub [1, 2, 3, 4, 5, 0] (by decide) rfl
    by_cases c0 : x3.1 = "java/lang/IndexOutOfBoundsException"
    · replace h := fb_it c0 h
      refine vx_catch (E := x3.1) hown [] ⟨0, 12, 15, 20⟩ [⟨0, 12, 19, 13⟩] (htab.trans rfl) (fun z hz => nomatch hz) rfl (by decide) (hts _ w_c20) (by rw [c0]; exact fb_ca_IndexOutOfBoundsException hZT) hce hcv hcl ?_
      generalize H1 = H at hP hS hce
      refine lv_astore (lv' := [(5, .ref q9), (0, .ref h0), (1, .int a1), (2, .int a2), (3, .int a3), (4, .ref qo)]) hx hb dL_put_15 hl (by decide) rfl (fun ls hl => ?_)
      refine lv_iconst (v := 1) hx hb dL_put_17 (by decide) ?_
      obtain ⟨e1, e2, e3⟩ := fb_p3 h
      subst e1
      subst e2
      subst e3
      exact W.iret hx hb hr (fun t ht _ => ⟨⟨0, rfl, by rw [ht]; exact hP, hD⟩, hS.F ht⟩) hS.2.2 dL_put_18
    replace h := fb_ie c0 h
    by_cases c1 : x3.1 = "java/lang/IllegalArgumentException"
    · replace h := fb_it c1 h
      refine vx_catch (E := x3.1) hown [⟨0, 12, 15, 20⟩] ⟨0, 12, 19, 13⟩ [] (htab.trans rfl) (fun z hz => by rw [List.mem_singleton.mp hz]; exact Or.inr ⟨by decide, _, hts _ w_c20, by rw [c1]; exact fb_nc_IllegalArgumentException_IndexOutOfBoundsException hZT⟩) rfl (by decide) (hts _ w_c13) (by rw [c1]; exact fb_ca_IllegalArgumentException hZT) hce hcv hcl ?_
      generalize H1 = H at hP hS hce
      refine lv_astore (lv' := [(5, .ref q9), (0, .ref h0), (1, .int a1), (2, .int a2), (3, .int a3), (4, .ref qo)]) hx hb dL_put_19 hl (by decide) rfl (fun ls hl => ?_)
      refine lv_iconst (v := 2) hx hb dL_put_21 (by decide) ?_
      obtain ⟨e1, e2, e3⟩ := fb_p3 h
      subst e1
      subst e2
      subst e3
      exact W.iret hx hb hr (fun t ht _ => ⟨⟨0, rfl, by rw [ht]; exact hP, hD⟩, hS.F ht⟩) hS.2.2 dL_put_22
    replace h := fb_ie c1 h
    cases h
  · replace h := fb_mtok hre h
    obtain ⟨hP, hD⟩ := va_join (wr := [(qo, .inl (cJ, 1, .inr (.inl ob)))]) (w1 := fb_wX0 cI h0 qf qn qw ql sz mi fg v2.2 wt wl) hP hD [0, 1, 2, 3, 4] [5] rfl rfl (by decide) (by decide) hk1 hFc hP1 hD1
    have hP : va_P D vwCl (fb_wL cI cJ h0 qf qn qw ql qo sz mi fg v2.2 wt wl ob) H1 := hP.sub [1, 2, 3, 4, 5, 0] rfl
    have hD : va_D A (fb_wL cI cJ h0 qf qn qw ql qo sz mi fg v2.2 wt wl ob) := hD.sub [1, 2, 3, 4, 5, 0] (by decide) rfl
    generalize H1 = H at hP hS
    refine lv_i2l hx hb dL_put_10 rfl ?_
    refine va_last hx hb hK hP hD hS 5 1 rfl rfl (fb_ixin (by decide)) dL_put_11 (fun H locs hP hD hS => ?_)
    have hP : va_P D vwCl (fb_wL cI cJ h0 qf qn qw ql qo sz mi fg v2.2 wt wl (vp_updL ob (0 : Int32).toNatClampNeg v2.1.toInt64)) H := hP
    have hD : va_D A (fb_wL cI cJ h0 qf qn qw ql qo sz mi fg v2.2 wt wl (vp_updL ob (0 : Int32).toNatClampNeg v2.1.toInt64)) := hD
    refine lv_goto (tgt := 23) hx hb dL_put_12 (by decide) ?_
    refine lv_iconst (v := 0) hx hb dL_put_23 (by decide) ?_
    obtain ⟨e1, e2, e3⟩ := fb_p3 h
    subst e1
    subst e2
    subst e3
    exact W.iret hx hb hr (fun t ht _ => ⟨⟨0, rfl, by rw [ht]; exact hP, hD⟩, hS.F ht⟩) hS.2.2 dL_put_24
def fL_drop (sz : Int32) (mi : Int32) (fg : Nat → Int32) (nt : Nat → Int32) (wt : Nat → Int32) (wl : Nat → Int32) (ob : Nat → Int64) : Option (Int32 × Int32 × (Nat → Int64)) :=
  fb_b1 (fX0_drop sz mi fg nt wt wl) (fun re =>
  fb_mt re (fun v2 => some (0, v2.2, vp_updL ob (0 : Int32).toNatClampNeg v2.1.toInt64)) (fun x3 => if x3.1 = "java/lang/IllegalStateException" then some (1, x3.2, ob) else none))
abbrev rmL_drop : Room := { frames := 7, cells := 1, slots := 6, locals := 115 }
set_option maxHeartbeats 8000000 in
set_option maxRecDepth 100000 in
theorem metL_drop (l : Launch) (hfl : l.stackTraces = false) (D : va_G) (cI cJ : ClassId) (h0 qf qn qw ql qo B0 : Nat) (sz : Int32) (mi : Int32) (fg : Nat → Int32) (nt : Nat → Int32) (wt : Nat → Int32) (wl : Nat → Int32) (ob : Nat → Int64) (hz : Nat) (ro : Int32) (szo : Int32) (obo : Nat → Int64) (h : fL_drop sz mi fg nt wt wl ob = some (ro, szo, obo)) : Met l yL_drop wsL_drop rmL_drop (va_Pc [.ref h0, .ref qo] (fb_pm D [(cI, .int), (cJ, .long)] B0 fb_sXT (fb_wL cI cJ h0 qf qn qw ql qo sz mi fg nt wt wl ob) hz)) (fb_qM (fun _ => some (.int ro)) (fun _ => fb_wL cI cJ h0 qf qn qw ql qo szo mi fg nt wt wl obo) D (va_A (fb_wL cI cJ h0 qf qn qw ql qo sz mi fg nt wt wl ob) hz)) 1 6 (va_A (fb_wL cI cJ h0 qf qn qw ql qo sz mi fg nt wt wl ob) hz) := by
  refine va_MetW (cc := cL_drop) (maxL := 3) (ret := (some .int)) (hh := [(0, 8, 11, 15)]) (by decide) rfl ?_
  intro p e s m args below meth c s₁ B hml hv
  obtain ⟨rfl, hsz, ⟨hP, hK, hZT⟩, hD0, hAB⟩ := hv
  have hx := B.exec
  have hb := B.bytes
  have hr := B.returns
  have hts := atoms_spec (ws := wsL_drop) B.pre
  have hown : s.vm.findClass RL = some m.cls := findClass_of_methodNamed B.named
  have hlocks := B.notSynchronized
  have htab := vx_table (x := yL_drop) B (hts _ List.mem_cons_self)
  subst hsz
  have hD := hD0.self (sz := s.heap.size)
  generalize hAe : va_A (fb_wL cI cJ h0 qf qn qw ql qo sz mi fg nt wt wl ob) s.heap.size = A at hD hAB ⊢
  have hA : ∀ q : Nat, s.heap.size ≤ q → A q := fun q h9 => by rw [← hAe]; exact Or.inr h9
  have hS : va_S A s.heap s.heap [] := va_S.rf
  have hP : va_P D vwCl (fb_wL cI cJ h0 qf qn qw ql qo sz mi fg nt wt wl ob) s.heap := hP
  have hZ := hZT.1
  have hK1 : va_K D vwCl [(cI, .int)] s := hK.sub [0] rfl
  have w_c15 : (Cond.classLink RL 15 "java/lang/IllegalStateException") ∈ wsL_drop := List.mem_of_getElem? (i := 1) rfl
  have hl := lv_entry ([.ref h0, .ref qo]) (n := 3) (Nat.le_of_ble_eq_true rfl)
  rw [lg_entry_eq]
  generalize (lg_sl ([.ref h0, .ref qo]) ++ List.replicate (3 - (lg_sl ([.ref h0, .ref qo])).length) Slot.unset).toArray = ls at hl ⊢
  have hl : lv_has ls 3 [(0, .ref h0), (1, .ref qo)] := hl
  suffices K : ∀ (H : Heap) (locs : List Loc), va_P D vwCl (fb_wL cI cJ h0 qf qn qw ql qo sz mi fg nt wt wl ob) H → va_S A s.heap H locs → W p l e (headSpec wsL_drop rmL_drop).room s m ([.ref h0, .ref qo] : List Value).toArray below meth c H locs 0 0 (MQ below (fb_qM (fun _ => some (.int ro)) (fun _ => fb_wL cI cJ h0 qf qn qw ql qo szo mi fg nt wt wl obo) D A) ([.ref h0, .ref qo] : List Value).toArray s 1 6 A) (F0 m 0 ls []) from K s.heap [] hP hS
  intro H locs hP hS
  unfold fL_drop at h
  refine lv_aload_n hx hb dL_drop_0 rfl (lv_at hl 1 rfl) ?_
  refine lv_iconst (v := 0) hx hb dL_drop_1 (by decide) ?_
  refine lv_aload_n hx hb dL_drop_2 rfl (lv_at hl 0 rfl) ?_
  obtain ⟨re, h1, h⟩ := fb_b1s h
  have hPc : va_P D vwCl (fb_wX0 cI h0 qf qn qw ql sz mi fg nt wt wl) H := hP.sub [0, 1, 2, 3, 4] rfl
  have hDc : va_D A (fb_wX0 cI h0 qf qn qw ql sz mi fg nt wt wl) := hD.sub [0, 1, 2, 3, 4] (by decide) rfl
  have hFc := va_free (wc := fb_wX0 cI h0 qf qn qw ql sz mi fg nt wt wl) hD hS hA [0, 1, 2, 3, 4] rfl
  refine fb_callT (vx_runV (As := []) (rest := [.int 0, .ref qo]) ⟨hx, hb, hml, hown, hts⟩ (metX0_drop l hfl D cI h0 qf qn qw ql B0 sz mi fg nt wt wl  H.size _ h1) (cwV 0 hts gL_drop_X0_drop rfl rfl rfl (by decide +kernel) ⟨Nat.le_of_ble_eq_true rfl, Nat.le_of_ble_eq_true rfl⟩) (fb_preVM (ci := 0) fb_sXTp hPc hK1 hDc hZT hS hAB hA rfl rfl _) rfl rfl hl.1 rfl (lv_room (Nat.le_of_ble_eq_true rfl)) dL_drop_3 ⟨Nat.le_of_ble_eq_true rfl, Nat.le_of_ble_eq_true rfl⟩) hS (fun q _ h9 => hFc q h9) hFc (fun x3 ce q9 H1 locs hre hP1 hD1 hk1 hS hce hcv hcl => ?_) (fun v2 H1 locs hre hP1 hD1 hk1 hS => ?_)
  · replace h := fb_mter hre h
    obtain ⟨hP, hD⟩ := va_join (wr := [(qo, .inl (cJ, 1, .inr (.inl ob)))]) (w1 := fb_wX0 cI h0 qf qn qw ql x3.2 mi fg nt wt wl) hP hD [0, 1, 2, 3, 4] [5] rfl rfl (by decide) (by decide) hk1 hFc hP1 hD1
    have hP : va_P D vwCl (fb_wL cI cJ h0 qf qn qw ql qo x3.2 mi fg nt wt wl ob) H1 := hP.sub [1, 2, 3, 4, 5, 0] rfl
    have hD : va_D A (fb_wL cI cJ h0 qf qn qw ql qo x3.2 mi fg nt wt wl ob) := hD.sub [1, 2, 3, 4, 5, 0] (by decide) rfl
    by_cases c0 : x3.1 = "java/lang/IllegalStateException"
    · replace h := fb_it c0 h
      refine vx_catch (E := x3.1) hown [] ⟨0, 8, 11, 15⟩ [] (htab.trans rfl) (fun z hz => nomatch hz) rfl (by decide) (hts _ w_c15) (by rw [c0]; exact fb_ca_IllegalStateException hZT) hce hcv hcl ?_
      generalize H1 = H at hP hS hce
      refine lv_astore_n (lv' := [(2, .ref q9), (0, .ref h0), (1, .ref qo)]) hx hb dL_drop_11 rfl hl (by decide) rfl (fun ls hl => ?_)
      refine lv_iconst (v := 1) hx hb dL_drop_12 (by decide) ?_
      obtain ⟨e1, e2, e3⟩ := fb_p3 h
      subst e1
      subst e2
      subst e3
      exact W.iret hx hb hr (fun t ht _ => ⟨⟨0, rfl, by rw [ht]; exact hP, hD⟩, hS.F ht⟩) hS.2.2 dL_drop_13
    replace h := fb_ie c0 h
    cases h
  · replace h := fb_mtok hre h
    obtain ⟨hP, hD⟩ := va_join (wr := [(qo, .inl (cJ, 1, .inr (.inl ob)))]) (w1 := fb_wX0 cI h0 qf qn qw ql v2.2 mi fg nt wt wl) hP hD [0, 1, 2, 3, 4] [5] rfl rfl (by decide) (by decide) hk1 hFc hP1 hD1
    have hP : va_P D vwCl (fb_wL cI cJ h0 qf qn qw ql qo v2.2 mi fg nt wt wl ob) H1 := hP.sub [1, 2, 3, 4, 5, 0] rfl
    have hD : va_D A (fb_wL cI cJ h0 qf qn qw ql qo v2.2 mi fg nt wt wl ob) := hD.sub [1, 2, 3, 4, 5, 0] (by decide) rfl
    generalize H1 = H at hP hS
    refine lv_i2l hx hb dL_drop_6 rfl ?_
    refine va_last hx hb hK hP hD hS 5 1 rfl rfl (fb_ixin (by decide)) dL_drop_7 (fun H locs hP hD hS => ?_)
    have hP : va_P D vwCl (fb_wL cI cJ h0 qf qn qw ql qo v2.2 mi fg nt wt wl (vp_updL ob (0 : Int32).toNatClampNeg v2.1.toInt64)) H := hP
    have hD : va_D A (fb_wL cI cJ h0 qf qn qw ql qo v2.2 mi fg nt wt wl (vp_updL ob (0 : Int32).toNatClampNeg v2.1.toInt64)) := hD
    refine lv_goto (tgt := 14) hx hb dL_drop_8 (by decide) ?_
    refine lv_iconst (v := 0) hx hb dL_drop_14 (by decide) ?_
    obtain ⟨e1, e2, e3⟩ := fb_p3 h
    subst e1
    subst e2
    subst e3
    exact W.iret hx hb hr (fun t ht _ => ⟨⟨0, rfl, by rw [ht]; exact hP, hD⟩, hS.F ht⟩) hS.2.2 dL_drop_15
def fL_setWeight (sz : Int32) (mi : Int32) (fg : Nat → Int32) (nt : Nat → Int32) (wt : Nat → Int32) (wl : Nat → Int32) (ob : Nat → Int64) (a1 : Int32) (a2 : Int32) : Option (Int32 × (Nat → Int32) × (Nat → Int64)) :=
  fb_b1 (fX0_setWeight sz mi fg nt wt wl a1 a2) (fun re =>
  fb_mt re (fun v2 => some (0, v2.2, vp_updL ob (0 : Int32).toNatClampNeg v2.1.toInt64)) (fun x3 => if x3.1 = "java/lang/IndexOutOfBoundsException" then some (1, x3.2, ob) else if x3.1 = "java/lang/IllegalArgumentException" then some (2, x3.2, ob) else none))
abbrev rmL_setWeight : Room := { frames := 7, cells := 1, slots := 6, locals := 118 }
set_option maxHeartbeats 8000000 in
set_option maxRecDepth 100000 in
theorem metL_setWeight (l : Launch) (hfl : l.stackTraces = false) (D : va_G) (cI cJ : ClassId) (h0 qf qn qw ql qo B0 : Nat) (sz : Int32) (mi : Int32) (fg : Nat → Int32) (nt : Nat → Int32) (wt : Nat → Int32) (wl : Nat → Int32) (ob : Nat → Int64) (a1 : Int32) (a2 : Int32) (hz : Nat) (ro : Int32) (wto : Nat → Int32) (obo : Nat → Int64) (h : fL_setWeight sz mi fg nt wt wl ob a1 a2 = some (ro, wto, obo)) : Met l yL_setWeight wsL_setWeight rmL_setWeight (va_Pc [.ref h0, .int a1, .int a2, .ref qo] (fb_pm D [(cI, .int), (cJ, .long)] B0 fb_sXT (fb_wL cI cJ h0 qf qn qw ql qo sz mi fg nt wt wl ob) hz)) (fb_qM (fun _ => some (.int ro)) (fun _ => fb_wL cI cJ h0 qf qn qw ql qo sz mi fg nt wto wl obo) D (va_A (fb_wL cI cJ h0 qf qn qw ql qo sz mi fg nt wt wl ob) hz)) 1 6 (va_A (fb_wL cI cJ h0 qf qn qw ql qo sz mi fg nt wt wl ob) hz) := by
  refine va_MetW (cc := cL_setWeight) (maxL := 5) (ret := (some .int)) (hh := [(0, 10, 13, 20), (0, 10, 17, 13)]) (by decide) rfl ?_
  intro p e s m args below meth c s₁ B hml hv
  obtain ⟨rfl, hsz, ⟨hP, hK, hZT⟩, hD0, hAB⟩ := hv
  have hx := B.exec
  have hb := B.bytes
  have hr := B.returns
  have hts := atoms_spec (ws := wsL_setWeight) B.pre
  have hown : s.vm.findClass RL = some m.cls := findClass_of_methodNamed B.named
  have hlocks := B.notSynchronized
  have htab := vx_table (x := yL_setWeight) B (hts _ List.mem_cons_self)
  subst hsz
  have hD := hD0.self (sz := s.heap.size)
  generalize hAe : va_A (fb_wL cI cJ h0 qf qn qw ql qo sz mi fg nt wt wl ob) s.heap.size = A at hD hAB ⊢
  have hA : ∀ q : Nat, s.heap.size ≤ q → A q := fun q h9 => by rw [← hAe]; exact Or.inr h9
  have hS : va_S A s.heap s.heap [] := va_S.rf
  have hP : va_P D vwCl (fb_wL cI cJ h0 qf qn qw ql qo sz mi fg nt wt wl ob) s.heap := hP
  have hZ := hZT.1
  have hK1 : va_K D vwCl [(cI, .int)] s := hK.sub [0] rfl
  have w_c13 : (Cond.classLink RL 13 "java/lang/IllegalArgumentException") ∈ wsL_setWeight := List.mem_of_getElem? (i := 2) rfl
  have w_c20 : (Cond.classLink RL 20 "java/lang/IndexOutOfBoundsException") ∈ wsL_setWeight := List.mem_of_getElem? (i := 1) rfl
  have hl := lv_entry ([.ref h0, .int a1, .int a2, .ref qo]) (n := 5) (Nat.le_of_ble_eq_true rfl)
  rw [lg_entry_eq]
  generalize (lg_sl ([.ref h0, .int a1, .int a2, .ref qo]) ++ List.replicate (5 - (lg_sl ([.ref h0, .int a1, .int a2, .ref qo])).length) Slot.unset).toArray = ls at hl ⊢
  have hl : lv_has ls 5 [(0, .ref h0), (1, .int a1), (2, .int a2), (3, .ref qo)] := hl
  suffices K : ∀ (H : Heap) (locs : List Loc), va_P D vwCl (fb_wL cI cJ h0 qf qn qw ql qo sz mi fg nt wt wl ob) H → va_S A s.heap H locs → W p l e (headSpec wsL_setWeight rmL_setWeight).room s m ([.ref h0, .int a1, .int a2, .ref qo] : List Value).toArray below meth c H locs 0 0 (MQ below (fb_qM (fun _ => some (.int ro)) (fun _ => fb_wL cI cJ h0 qf qn qw ql qo sz mi fg nt wto wl obo) D A) ([.ref h0, .int a1, .int a2, .ref qo] : List Value).toArray s 1 6 A) (F0 m 0 ls []) from K s.heap [] hP hS
  intro H locs hP hS
  unfold fL_setWeight at h
  refine lv_aload_n hx hb dL_setWeight_0 rfl (lv_at hl 3 rfl) ?_
  refine lv_iconst (v := 0) hx hb dL_setWeight_1 (by decide) ?_
  refine lv_aload_n hx hb dL_setWeight_2 rfl (lv_at hl 0 rfl) ?_
  refine lv_iload_n hx hb dL_setWeight_3 rfl (lv_at hl 1 rfl) ?_
  refine lv_iload_n hx hb dL_setWeight_4 rfl (lv_at hl 2 rfl) ?_
  obtain ⟨re, h1, h⟩ := fb_b1s h
  have hPc : va_P D vwCl (fb_wX0 cI h0 qf qn qw ql sz mi fg nt wt wl) H := hP.sub [0, 1, 2, 3, 4] rfl
  have hDc : va_D A (fb_wX0 cI h0 qf qn qw ql sz mi fg nt wt wl) := hD.sub [0, 1, 2, 3, 4] (by decide) rfl
  have hFc := va_free (wc := fb_wX0 cI h0 qf qn qw ql sz mi fg nt wt wl) hD hS hA [0, 1, 2, 3, 4] rfl
  refine fb_callT (vx_runV (As := [.int a1, .int a2]) (rest := [.int 0, .ref qo]) ⟨hx, hb, hml, hown, hts⟩ (metX0_setWeight l hfl D cI h0 qf qn qw ql B0 sz mi fg nt wt wl a1 a2 H.size _ h1) (cwV 2 hts gL_setWeight_X0_setWeight rfl rfl rfl (by decide +kernel) ⟨Nat.le_of_ble_eq_true rfl, Nat.le_of_ble_eq_true rfl⟩) (fb_preVM (ci := 0) fb_sXTp hPc hK1 hDc hZT hS hAB hA rfl rfl _) rfl rfl hl.1 rfl (lv_room (Nat.le_of_ble_eq_true rfl)) dL_setWeight_5 ⟨Nat.le_of_ble_eq_true rfl, Nat.le_of_ble_eq_true rfl⟩) hS (fun q _ h9 => hFc q h9) hFc (fun x3 ce q9 H1 locs hre hP1 hD1 hk1 hS hce hcv hcl => ?_) (fun v2 H1 locs hre hP1 hD1 hk1 hS => ?_)
  · replace h := fb_mter hre h
    obtain ⟨hP, hD⟩ := va_join (wr := [(qo, .inl (cJ, 1, .inr (.inl ob)))]) (w1 := fb_wX0 cI h0 qf qn qw ql sz mi fg nt x3.2 wl) hP hD [0, 1, 2, 3, 4] [5] rfl rfl (by decide) (by decide) hk1 hFc hP1 hD1
    have hP : va_P D vwCl (fb_wL cI cJ h0 qf qn qw ql qo sz mi fg nt x3.2 wl ob) H1 := hP.sub [1, 2, 3, 4, 5, 0] rfl
    have hD : va_D A (fb_wL cI cJ h0 qf qn qw ql qo sz mi fg nt x3.2 wl ob) := hD.sub [1, 2, 3, 4, 5, 0] (by decide) rfl
    by_cases c0 : x3.1 = "java/lang/IndexOutOfBoundsException"
    · replace h := fb_it c0 h
      refine vx_catch (E := x3.1) hown [] ⟨0, 10, 13, 20⟩ [⟨0, 10, 17, 13⟩] (htab.trans rfl) (fun z hz => nomatch hz) rfl (by decide) (hts _ w_c20) (by rw [c0]; exact fb_ca_IndexOutOfBoundsException hZT) hce hcv hcl ?_
      generalize H1 = H at hP hS hce
      refine lv_astore (lv' := [(4, .ref q9), (0, .ref h0), (1, .int a1), (2, .int a2), (3, .ref qo)]) hx hb dL_setWeight_13 hl (by decide) rfl (fun ls hl => ?_)
      refine lv_iconst (v := 1) hx hb dL_setWeight_15 (by decide) ?_
      obtain ⟨e1, e2, e3⟩ := fb_p3 h
      subst e1
      subst e2
      subst e3
      exact W.iret hx hb hr (fun t ht _ => ⟨⟨0, rfl, by rw [ht]; exact hP, hD⟩, hS.F ht⟩) hS.2.2 dL_setWeight_16
    replace h := fb_ie c0 h
    by_cases c1 : x3.1 = "java/lang/IllegalArgumentException"
    · replace h := fb_it c1 h
      refine vx_catch (E := x3.1) hown [⟨0, 10, 13, 20⟩] ⟨0, 10, 17, 13⟩ [] (htab.trans rfl) (fun z hz => by rw [List.mem_singleton.mp hz]; exact Or.inr ⟨by decide, _, hts _ w_c20, by rw [c1]; exact fb_nc_IllegalArgumentException_IndexOutOfBoundsException hZT⟩) rfl (by decide) (hts _ w_c13) (by rw [c1]; exact fb_ca_IllegalArgumentException hZT) hce hcv hcl ?_
      generalize H1 = H at hP hS hce
      refine lv_astore (lv' := [(4, .ref q9), (0, .ref h0), (1, .int a1), (2, .int a2), (3, .ref qo)]) hx hb dL_setWeight_17 hl (by decide) rfl (fun ls hl => ?_)
      refine lv_iconst (v := 2) hx hb dL_setWeight_19 (by decide) ?_
      obtain ⟨e1, e2, e3⟩ := fb_p3 h
      subst e1
      subst e2
      subst e3
      exact W.iret hx hb hr (fun t ht _ => ⟨⟨0, rfl, by rw [ht]; exact hP, hD⟩, hS.F ht⟩) hS.2.2 dL_setWeight_20
    replace h := fb_ie c1 h
    cases h
  · replace h := fb_mtok hre h
    obtain ⟨hP, hD⟩ := va_join (wr := [(qo, .inl (cJ, 1, .inr (.inl ob)))]) (w1 := fb_wX0 cI h0 qf qn qw ql sz mi fg nt v2.2 wl) hP hD [0, 1, 2, 3, 4] [5] rfl rfl (by decide) (by decide) hk1 hFc hP1 hD1
    have hP : va_P D vwCl (fb_wL cI cJ h0 qf qn qw ql qo sz mi fg nt v2.2 wl ob) H1 := hP.sub [1, 2, 3, 4, 5, 0] rfl
    have hD : va_D A (fb_wL cI cJ h0 qf qn qw ql qo sz mi fg nt v2.2 wl ob) := hD.sub [1, 2, 3, 4, 5, 0] (by decide) rfl
    generalize H1 = H at hP hS
    refine lv_i2l hx hb dL_setWeight_8 rfl ?_
    refine va_last hx hb hK hP hD hS 5 1 rfl rfl (fb_ixin (by decide)) dL_setWeight_9 (fun H locs hP hD hS => ?_)
    have hP : va_P D vwCl (fb_wL cI cJ h0 qf qn qw ql qo sz mi fg nt v2.2 wl (vp_updL ob (0 : Int32).toNatClampNeg v2.1.toInt64)) H := hP
    have hD : va_D A (fb_wL cI cJ h0 qf qn qw ql qo sz mi fg nt v2.2 wl (vp_updL ob (0 : Int32).toNatClampNeg v2.1.toInt64)) := hD
    refine lv_goto (tgt := 21) hx hb dL_setWeight_10 (by decide) ?_
    refine lv_iconst (v := 0) hx hb dL_setWeight_21 (by decide) ?_
    obtain ⟨e1, e2, e3⟩ := fb_p3 h
    subst e1
    subst e2
    subst e3
    exact W.iret hx hb hr (fun t ht _ => ⟨⟨0, rfl, by rw [ht]; exact hP, hD⟩, hS.F ht⟩) hS.2.2 dL_setWeight_22
def fL_lead (sz : Int32) (mi : Int32) (fg : Nat → Int32) (nt : Nat → Int32) (wt : Nat → Int32) (wl : Nat → Int32) (ob : Nat → Int64) (a1 : Int32) : Option (Int32 × (Nat → Int32) × (Nat → Int32) × (Nat → Int64)) :=
  fb_b1 (fX0_lead sz mi fg nt wt wl a1) (fun re =>
  fb_mt re (fun v2 => some (0, v2.2.1, v2.2.2, vp_updL ob (0 : Int32).toNatClampNeg v2.1.toInt64)) (fun x3 => if x3.1 = "java/lang/IndexOutOfBoundsException" then some (1, x3.2.1, x3.2.2, ob) else if x3.1 = "java/lang/IllegalStateException" then some (2, x3.2.1, x3.2.2, ob) else none))
abbrev rmL_lead : Room := { frames := 7, cells := 1, slots := 6, locals := 169 }
set_option maxHeartbeats 8000000 in
set_option maxRecDepth 100000 in
theorem metL_lead (l : Launch) (hfl : l.stackTraces = false) (D : va_G) (cI cJ : ClassId) (h0 qf qn qw ql qo B0 : Nat) (sz : Int32) (mi : Int32) (fg : Nat → Int32) (nt : Nat → Int32) (wt : Nat → Int32) (wl : Nat → Int32) (ob : Nat → Int64) (a1 : Int32) (hz : Nat) (ro : Int32) (nto : Nat → Int32) (wlo : Nat → Int32) (obo : Nat → Int64) (h : fL_lead sz mi fg nt wt wl ob a1 = some (ro, nto, wlo, obo)) : Met l yL_lead wsL_lead rmL_lead (va_Pc [.ref h0, .int a1, .ref qo] (fb_pm D [(cI, .int), (cJ, .long)] B0 fb_sXT (fb_wL cI cJ h0 qf qn qw ql qo sz mi fg nt wt wl ob) hz)) (fb_qM (fun _ => some (.int ro)) (fun _ => fb_wL cI cJ h0 qf qn qw ql qo sz mi fg nto wt wlo obo) D (va_A (fb_wL cI cJ h0 qf qn qw ql qo sz mi fg nt wt wl ob) hz)) 1 6 (va_A (fb_wL cI cJ h0 qf qn qw ql qo sz mi fg nt wt wl ob) hz) := by
  refine va_MetW (cc := cL_lead) (maxL := 4) (ret := (some .int)) (hh := [(0, 9, 12, 20), (0, 9, 15, 15)]) (by decide) rfl ?_
  intro p e s m args below meth c s₁ B hml hv
  obtain ⟨rfl, hsz, ⟨hP, hK, hZT⟩, hD0, hAB⟩ := hv
  have hx := B.exec
  have hb := B.bytes
  have hr := B.returns
  have hts := atoms_spec (ws := wsL_lead) B.pre
  have hown : s.vm.findClass RL = some m.cls := findClass_of_methodNamed B.named
  have hlocks := B.notSynchronized
  have htab := vx_table (x := yL_lead) B (hts _ List.mem_cons_self)
  subst hsz
  have hD := hD0.self (sz := s.heap.size)
  generalize hAe : va_A (fb_wL cI cJ h0 qf qn qw ql qo sz mi fg nt wt wl ob) s.heap.size = A at hD hAB ⊢
  have hA : ∀ q : Nat, s.heap.size ≤ q → A q := fun q h9 => by rw [← hAe]; exact Or.inr h9
  have hS : va_S A s.heap s.heap [] := va_S.rf
  have hP : va_P D vwCl (fb_wL cI cJ h0 qf qn qw ql qo sz mi fg nt wt wl ob) s.heap := hP
  have hZ := hZT.1
  have hK1 : va_K D vwCl [(cI, .int)] s := hK.sub [0] rfl
  have w_c15 : (Cond.classLink RL 15 "java/lang/IllegalStateException") ∈ wsL_lead := List.mem_of_getElem? (i := 2) rfl
  have w_c20 : (Cond.classLink RL 20 "java/lang/IndexOutOfBoundsException") ∈ wsL_lead := List.mem_of_getElem? (i := 1) rfl
  have hl := lv_entry ([.ref h0, .int a1, .ref qo]) (n := 4) (Nat.le_of_ble_eq_true rfl)
  rw [lg_entry_eq]
  generalize (lg_sl ([.ref h0, .int a1, .ref qo]) ++ List.replicate (4 - (lg_sl ([.ref h0, .int a1, .ref qo])).length) Slot.unset).toArray = ls at hl ⊢
  have hl : lv_has ls 4 [(0, .ref h0), (1, .int a1), (2, .ref qo)] := hl
  suffices K : ∀ (H : Heap) (locs : List Loc), va_P D vwCl (fb_wL cI cJ h0 qf qn qw ql qo sz mi fg nt wt wl ob) H → va_S A s.heap H locs → W p l e (headSpec wsL_lead rmL_lead).room s m ([.ref h0, .int a1, .ref qo] : List Value).toArray below meth c H locs 0 0 (MQ below (fb_qM (fun _ => some (.int ro)) (fun _ => fb_wL cI cJ h0 qf qn qw ql qo sz mi fg nto wt wlo obo) D A) ([.ref h0, .int a1, .ref qo] : List Value).toArray s 1 6 A) (F0 m 0 ls []) from K s.heap [] hP hS
  intro H locs hP hS
  unfold fL_lead at h
  refine lv_aload_n hx hb dL_lead_0 rfl (lv_at hl 2 rfl) ?_
  refine lv_iconst (v := 0) hx hb dL_lead_1 (by decide) ?_
  refine lv_aload_n hx hb dL_lead_2 rfl (lv_at hl 0 rfl) ?_
  refine lv_iload_n hx hb dL_lead_3 rfl (lv_at hl 1 rfl) ?_
  obtain ⟨re, h1, h⟩ := fb_b1s h
  have hPc : va_P D vwCl (fb_wX0 cI h0 qf qn qw ql sz mi fg nt wt wl) H := hP.sub [0, 1, 2, 3, 4] rfl
  have hDc : va_D A (fb_wX0 cI h0 qf qn qw ql sz mi fg nt wt wl) := hD.sub [0, 1, 2, 3, 4] (by decide) rfl
  have hFc := va_free (wc := fb_wX0 cI h0 qf qn qw ql sz mi fg nt wt wl) hD hS hA [0, 1, 2, 3, 4] rfl
  refine fb_callT (vx_runV (As := [.int a1]) (rest := [.int 0, .ref qo]) ⟨hx, hb, hml, hown, hts⟩ (metX0_lead l hfl D cI h0 qf qn qw ql B0 sz mi fg nt wt wl a1 H.size _ h1) (cwV 1 hts gL_lead_X0_lead rfl rfl rfl (by decide +kernel) ⟨Nat.le_of_ble_eq_true rfl, Nat.le_of_ble_eq_true rfl⟩) (fb_preVM (ci := 0) fb_sXTp hPc hK1 hDc hZT hS hAB hA rfl rfl _) rfl rfl hl.1 rfl (lv_room (Nat.le_of_ble_eq_true rfl)) dL_lead_4 ⟨Nat.le_of_ble_eq_true rfl, Nat.le_of_ble_eq_true rfl⟩) hS (fun q _ h9 => hFc q h9) hFc (fun x3 ce q9 H1 locs hre hP1 hD1 hk1 hS hce hcv hcl => ?_) (fun v2 H1 locs hre hP1 hD1 hk1 hS => ?_)
  · replace h := fb_mter hre h
    obtain ⟨hP, hD⟩ := va_join (wr := [(qo, .inl (cJ, 1, .inr (.inl ob)))]) (w1 := fb_wX0 cI h0 qf qn qw ql sz mi fg x3.2.1 wt x3.2.2) hP hD [0, 1, 2, 3, 4] [5] rfl rfl (by decide) (by decide) hk1 hFc hP1 hD1
    have hP : va_P D vwCl (fb_wL cI cJ h0 qf qn qw ql qo sz mi fg x3.2.1 wt x3.2.2 ob) H1 := hP.sub [1, 2, 3, 4, 5, 0] rfl
    have hD : va_D A (fb_wL cI cJ h0 qf qn qw ql qo sz mi fg x3.2.1 wt x3.2.2 ob) := hD.sub [1, 2, 3, 4, 5, 0] (by decide) rfl
    by_cases c0 : x3.1 = "java/lang/IndexOutOfBoundsException"
    · replace h := fb_it c0 h
      refine vx_catch (E := x3.1) hown [] ⟨0, 9, 12, 20⟩ [⟨0, 9, 15, 15⟩] (htab.trans rfl) (fun z hz => nomatch hz) rfl (by decide) (hts _ w_c20) (by rw [c0]; exact fb_ca_IndexOutOfBoundsException hZT) hce hcv hcl ?_
      generalize H1 = H at hP hS hce
      refine lv_astore_n (lv' := [(3, .ref q9), (0, .ref h0), (1, .int a1), (2, .ref qo)]) hx hb dL_lead_12 rfl hl (by decide) rfl (fun ls hl => ?_)
      refine lv_iconst (v := 1) hx hb dL_lead_13 (by decide) ?_
      obtain ⟨e1, e2, e3, e4⟩ := fb_p4 h
      subst e1
      subst e2
      subst e3
      subst e4
      exact W.iret hx hb hr (fun t ht _ => ⟨⟨0, rfl, by rw [ht]; exact hP, hD⟩, hS.F ht⟩) hS.2.2 dL_lead_14
    replace h := fb_ie c0 h
    by_cases c1 : x3.1 = "java/lang/IllegalStateException"
    · replace h := fb_it c1 h
      refine vx_catch (E := x3.1) hown [⟨0, 9, 12, 20⟩] ⟨0, 9, 15, 15⟩ [] (htab.trans rfl) (fun z hz => by rw [List.mem_singleton.mp hz]; exact Or.inr ⟨by decide, _, hts _ w_c20, by rw [c1]; exact fb_nc_IllegalStateException_IndexOutOfBoundsException hZT⟩) rfl (by decide) (hts _ w_c15) (by rw [c1]; exact fb_ca_IllegalStateException hZT) hce hcv hcl ?_
      generalize H1 = H at hP hS hce
      refine lv_astore_n (lv' := [(3, .ref q9), (0, .ref h0), (1, .int a1), (2, .ref qo)]) hx hb dL_lead_15 rfl hl (by decide) rfl (fun ls hl => ?_)
      refine lv_iconst (v := 2) hx hb dL_lead_16 (by decide) ?_
      obtain ⟨e1, e2, e3, e4⟩ := fb_p4 h
      subst e1
      subst e2
      subst e3
      subst e4
      exact W.iret hx hb hr (fun t ht _ => ⟨⟨0, rfl, by rw [ht]; exact hP, hD⟩, hS.F ht⟩) hS.2.2 dL_lead_17
    replace h := fb_ie c1 h
    cases h
  · replace h := fb_mtok hre h
    obtain ⟨hP, hD⟩ := va_join (wr := [(qo, .inl (cJ, 1, .inr (.inl ob)))]) (w1 := fb_wX0 cI h0 qf qn qw ql sz mi fg v2.2.1 wt v2.2.2) hP hD [0, 1, 2, 3, 4] [5] rfl rfl (by decide) (by decide) hk1 hFc hP1 hD1
    have hP : va_P D vwCl (fb_wL cI cJ h0 qf qn qw ql qo sz mi fg v2.2.1 wt v2.2.2 ob) H1 := hP.sub [1, 2, 3, 4, 5, 0] rfl
    have hD : va_D A (fb_wL cI cJ h0 qf qn qw ql qo sz mi fg v2.2.1 wt v2.2.2 ob) := hD.sub [1, 2, 3, 4, 5, 0] (by decide) rfl
    generalize H1 = H at hP hS
    refine lv_i2l hx hb dL_lead_7 rfl ?_
    refine va_last hx hb hK hP hD hS 5 1 rfl rfl (fb_ixin (by decide)) dL_lead_8 (fun H locs hP hD hS => ?_)
    have hP : va_P D vwCl (fb_wL cI cJ h0 qf qn qw ql qo sz mi fg v2.2.1 wt v2.2.2 (vp_updL ob (0 : Int32).toNatClampNeg v2.1.toInt64)) H := hP
    have hD : va_D A (fb_wL cI cJ h0 qf qn qw ql qo sz mi fg v2.2.1 wt v2.2.2 (vp_updL ob (0 : Int32).toNatClampNeg v2.1.toInt64)) := hD
    refine lv_goto (tgt := 18) hx hb dL_lead_9 (by decide) ?_
    refine lv_iconst (v := 0) hx hb dL_lead_18 (by decide) ?_
    obtain ⟨e1, e2, e3, e4⟩ := fb_p4 h
    subst e1
    subst e2
    subst e3
    subst e4
    exact W.iret hx hb hr (fun t ht _ => ⟨⟨0, rfl, by rw [ht]; exact hP, hD⟩, hS.F ht⟩) hS.2.2 dL_lead_19
def fL_note (sz : Int32) (mi : Int32) (fg : Nat → Int32) (nt : Nat → Int32) (wt : Nat → Int32) (wl : Nat → Int32) (ob : Nat → Int64) (a1 : Int32) (a2 : Int32) : Option (Int32 × (Nat → Int64)) :=
  fb_b1 (fX0_note sz mi fg nt wt wl a1 a2) (fun re =>
  fb_mt re (fun v2 => some (0, vp_updL ob (0 : Int32).toNatClampNeg v2.toInt64)) (fun x3 => if x3.1 = "java/lang/IndexOutOfBoundsException" then some (1, ob) else none))
abbrev rmL_note : Room := { frames := 7, cells := 1, slots := 6, locals := 117 }
set_option maxHeartbeats 8000000 in
set_option maxRecDepth 100000 in
theorem metL_note (l : Launch) (hfl : l.stackTraces = false) (D : va_G) (cI cJ : ClassId) (h0 qf qn qw ql qo B0 : Nat) (sz : Int32) (mi : Int32) (fg : Nat → Int32) (nt : Nat → Int32) (wt : Nat → Int32) (wl : Nat → Int32) (ob : Nat → Int64) (a1 : Int32) (a2 : Int32) (hz : Nat) (ro : Int32) (obo : Nat → Int64) (h : fL_note sz mi fg nt wt wl ob a1 a2 = some (ro, obo)) : Met l yL_note wsL_note rmL_note (va_Pc [.ref h0, .int a1, .int a2, .ref qo] (fb_pm D [(cI, .int), (cJ, .long)] B0 fb_sXT (fb_wL cI cJ h0 qf qn qw ql qo sz mi fg nt wt wl ob) hz)) (fb_qM (fun _ => some (.int ro)) (fun _ => fb_wL cI cJ h0 qf qn qw ql qo sz mi fg nt wt wl obo) D (va_A (fb_wL cI cJ h0 qf qn qw ql qo sz mi fg nt wt wl ob) hz)) 1 6 (va_A (fb_wL cI cJ h0 qf qn qw ql qo sz mi fg nt wt wl ob) hz) := by
  refine va_MetW (cc := cL_note) (maxL := 5) (ret := (some .int)) (hh := [(0, 10, 13, 20)]) (by decide) rfl ?_
  intro p e s m args below meth c s₁ B hml hv
  obtain ⟨rfl, hsz, ⟨hP, hK, hZT⟩, hD0, hAB⟩ := hv
  have hx := B.exec
  have hb := B.bytes
  have hr := B.returns
  have hts := atoms_spec (ws := wsL_note) B.pre
  have hown : s.vm.findClass RL = some m.cls := findClass_of_methodNamed B.named
  have hlocks := B.notSynchronized
  have htab := vx_table (x := yL_note) B (hts _ List.mem_cons_self)
  subst hsz
  have hD := hD0.self (sz := s.heap.size)
  generalize hAe : va_A (fb_wL cI cJ h0 qf qn qw ql qo sz mi fg nt wt wl ob) s.heap.size = A at hD hAB ⊢
  have hA : ∀ q : Nat, s.heap.size ≤ q → A q := fun q h9 => by rw [← hAe]; exact Or.inr h9
  have hS : va_S A s.heap s.heap [] := va_S.rf
  have hP : va_P D vwCl (fb_wL cI cJ h0 qf qn qw ql qo sz mi fg nt wt wl ob) s.heap := hP
  have hZ := hZT.1
  have hK1 : va_K D vwCl [(cI, .int)] s := hK.sub [0] rfl
  have w_c20 : (Cond.classLink RL 20 "java/lang/IndexOutOfBoundsException") ∈ wsL_note := List.mem_of_getElem? (i := 1) rfl
  have hl := lv_entry ([.ref h0, .int a1, .int a2, .ref qo]) (n := 5) (Nat.le_of_ble_eq_true rfl)
  rw [lg_entry_eq]
  generalize (lg_sl ([.ref h0, .int a1, .int a2, .ref qo]) ++ List.replicate (5 - (lg_sl ([.ref h0, .int a1, .int a2, .ref qo])).length) Slot.unset).toArray = ls at hl ⊢
  have hl : lv_has ls 5 [(0, .ref h0), (1, .int a1), (2, .int a2), (3, .ref qo)] := hl
  suffices K : ∀ (H : Heap) (locs : List Loc), va_P D vwCl (fb_wL cI cJ h0 qf qn qw ql qo sz mi fg nt wt wl ob) H → va_S A s.heap H locs → W p l e (headSpec wsL_note rmL_note).room s m ([.ref h0, .int a1, .int a2, .ref qo] : List Value).toArray below meth c H locs 0 0 (MQ below (fb_qM (fun _ => some (.int ro)) (fun _ => fb_wL cI cJ h0 qf qn qw ql qo sz mi fg nt wt wl obo) D A) ([.ref h0, .int a1, .int a2, .ref qo] : List Value).toArray s 1 6 A) (F0 m 0 ls []) from K s.heap [] hP hS
  intro H locs hP hS
  unfold fL_note at h
  refine lv_aload_n hx hb dL_note_0 rfl (lv_at hl 3 rfl) ?_
  refine lv_iconst (v := 0) hx hb dL_note_1 (by decide) ?_
  refine lv_aload_n hx hb dL_note_2 rfl (lv_at hl 0 rfl) ?_
  refine lv_iload_n hx hb dL_note_3 rfl (lv_at hl 1 rfl) ?_
  refine lv_iload_n hx hb dL_note_4 rfl (lv_at hl 2 rfl) ?_
  obtain ⟨re, h1, h⟩ := fb_b1s h
  have hPc : va_P D vwCl (fb_wX0 cI h0 qf qn qw ql sz mi fg nt wt wl) H := hP.sub [0, 1, 2, 3, 4] rfl
  have hDc : va_D A (fb_wX0 cI h0 qf qn qw ql sz mi fg nt wt wl) := hD.sub [0, 1, 2, 3, 4] (by decide) rfl
  have hFc := va_free (wc := fb_wX0 cI h0 qf qn qw ql sz mi fg nt wt wl) hD hS hA [0, 1, 2, 3, 4] rfl
  refine fb_callT (vx_runV (As := [.int a1, .int a2]) (rest := [.int 0, .ref qo]) ⟨hx, hb, hml, hown, hts⟩ (metX0_note l hfl D cI h0 qf qn qw ql B0 sz mi fg nt wt wl a1 a2 H.size _ h1) (cwV 2 hts gL_note_X0_note rfl rfl rfl (by decide +kernel) ⟨Nat.le_of_ble_eq_true rfl, Nat.le_of_ble_eq_true rfl⟩) (fb_preVM (ci := 0) fb_sXTp hPc hK1 hDc hZT hS hAB hA rfl rfl _) rfl rfl hl.1 rfl (lv_room (Nat.le_of_ble_eq_true rfl)) dL_note_5 ⟨Nat.le_of_ble_eq_true rfl, Nat.le_of_ble_eq_true rfl⟩) hS (fun q _ h9 => hFc q h9) hFc (fun x3 ce q9 H1 locs hre hP1 hD1 hk1 hS hce hcv hcl => ?_) (fun v2 H1 locs hre hP1 hD1 hk1 hS => ?_)
  · replace h := fb_mter hre h
    obtain ⟨hP, hD⟩ := va_join (wr := [(qo, .inl (cJ, 1, .inr (.inl ob)))]) (w1 := fb_wX0 cI h0 qf qn qw ql sz mi fg nt wt wl) hP hD [0, 1, 2, 3, 4] [5] rfl rfl (by decide) (by decide) hk1 hFc hP1 hD1
    have hP : va_P D vwCl (fb_wL cI cJ h0 qf qn qw ql qo sz mi fg nt wt wl ob) H1 := hP.sub [1, 2, 3, 4, 5, 0] rfl
    have hD : va_D A (fb_wL cI cJ h0 qf qn qw ql qo sz mi fg nt wt wl ob) := hD.sub [1, 2, 3, 4, 5, 0] (by decide) rfl
    by_cases c0 : x3.1 = "java/lang/IndexOutOfBoundsException"
    · replace h := fb_it c0 h
      refine vx_catch (E := x3.1) hown [] ⟨0, 10, 13, 20⟩ [] (htab.trans rfl) (fun z hz => nomatch hz) rfl (by decide) (hts _ w_c20) (by rw [c0]; exact fb_ca_IndexOutOfBoundsException hZT) hce hcv hcl ?_
      generalize H1 = H at hP hS hce
      refine lv_astore (lv' := [(4, .ref q9), (0, .ref h0), (1, .int a1), (2, .int a2), (3, .ref qo)]) hx hb dL_note_13 hl (by decide) rfl (fun ls hl => ?_)
      refine lv_iconst (v := 1) hx hb dL_note_15 (by decide) ?_
      obtain ⟨e1, e2⟩ := fb_p2 h
      subst e1
      subst e2
      exact W.iret hx hb hr (fun t ht _ => ⟨⟨0, rfl, by rw [ht]; exact hP, hD⟩, hS.F ht⟩) hS.2.2 dL_note_16
    replace h := fb_ie c0 h
    cases h
  · replace h := fb_mtok hre h
    obtain ⟨hP, hD⟩ := va_join (wr := [(qo, .inl (cJ, 1, .inr (.inl ob)))]) (w1 := fb_wX0 cI h0 qf qn qw ql sz mi fg nt wt wl) hP hD [0, 1, 2, 3, 4] [5] rfl rfl (by decide) (by decide) hk1 hFc hP1 hD1
    have hP : va_P D vwCl (fb_wL cI cJ h0 qf qn qw ql qo sz mi fg nt wt wl ob) H1 := hP.sub [1, 2, 3, 4, 5, 0] rfl
    have hD : va_D A (fb_wL cI cJ h0 qf qn qw ql qo sz mi fg nt wt wl ob) := hD.sub [1, 2, 3, 4, 5, 0] (by decide) rfl
    generalize H1 = H at hP hS
    refine lv_i2l hx hb dL_note_8 rfl ?_
    refine va_last hx hb hK hP hD hS 5 1 rfl rfl (fb_ixin (by decide)) dL_note_9 (fun H locs hP hD hS => ?_)
    have hP : va_P D vwCl (fb_wL cI cJ h0 qf qn qw ql qo sz mi fg nt wt wl (vp_updL ob (0 : Int32).toNatClampNeg v2.toInt64)) H := hP
    have hD : va_D A (fb_wL cI cJ h0 qf qn qw ql qo sz mi fg nt wt wl (vp_updL ob (0 : Int32).toNatClampNeg v2.toInt64)) := hD
    refine lv_goto (tgt := 17) hx hb dL_note_10 (by decide) ?_
    refine lv_iconst (v := 0) hx hb dL_note_17 (by decide) ?_
    obtain ⟨e1, e2⟩ := fb_p2 h
    subst e1
    subst e2
    exact W.iret hx hb hr (fun t ht _ => ⟨⟨0, rfl, by rw [ht]; exact hP, hD⟩, hS.F ht⟩) hS.2.2 dL_note_18
def fL_told (sz : Int32) (mi : Int32) (fg : Nat → Int32) (nt : Nat → Int32) (wt : Nat → Int32) (wl : Nat → Int32) (ob : Nat → Int64) (a1 : Int32) (a2 : Int32) : Option (Int32 × (Nat → Int64)) :=
  fb_b1 (fX0_told sz mi fg nt wt wl a1 a2) (fun re =>
  fb_mt re (fun v2 => some (0, vp_updL ob (0 : Int32).toNatClampNeg v2.toInt64)) (fun x3 => if x3.1 = "java/lang/IndexOutOfBoundsException" then some (1, ob) else none))
abbrev rmL_told : Room := { frames := 7, cells := 1, slots := 6, locals := 162 }
set_option maxHeartbeats 8000000 in
set_option maxRecDepth 100000 in
theorem metL_told (l : Launch) (hfl : l.stackTraces = false) (D : va_G) (cI cJ : ClassId) (h0 qf qn qw ql qo B0 : Nat) (sz : Int32) (mi : Int32) (fg : Nat → Int32) (nt : Nat → Int32) (wt : Nat → Int32) (wl : Nat → Int32) (ob : Nat → Int64) (a1 : Int32) (a2 : Int32) (hz : Nat) (ro : Int32) (obo : Nat → Int64) (h : fL_told sz mi fg nt wt wl ob a1 a2 = some (ro, obo)) : Met l yL_told wsL_told rmL_told (va_Pc [.ref h0, .int a1, .int a2, .ref qo] (fb_pm D [(cI, .int), (cJ, .long)] B0 fb_sXT (fb_wL cI cJ h0 qf qn qw ql qo sz mi fg nt wt wl ob) hz)) (fb_qM (fun _ => some (.int ro)) (fun _ => fb_wL cI cJ h0 qf qn qw ql qo sz mi fg nt wt wl obo) D (va_A (fb_wL cI cJ h0 qf qn qw ql qo sz mi fg nt wt wl ob) hz)) 1 6 (va_A (fb_wL cI cJ h0 qf qn qw ql qo sz mi fg nt wt wl ob) hz) := by
  refine va_MetW (cc := cL_told) (maxL := 5) (ret := (some .int)) (hh := [(0, 10, 13, 20)]) (by decide) rfl ?_
  intro p e s m args below meth c s₁ B hml hv
  obtain ⟨rfl, hsz, ⟨hP, hK, hZT⟩, hD0, hAB⟩ := hv
  have hx := B.exec
  have hb := B.bytes
  have hr := B.returns
  have hts := atoms_spec (ws := wsL_told) B.pre
  have hown : s.vm.findClass RL = some m.cls := findClass_of_methodNamed B.named
  have hlocks := B.notSynchronized
  have htab := vx_table (x := yL_told) B (hts _ List.mem_cons_self)
  subst hsz
  have hD := hD0.self (sz := s.heap.size)
  generalize hAe : va_A (fb_wL cI cJ h0 qf qn qw ql qo sz mi fg nt wt wl ob) s.heap.size = A at hD hAB ⊢
  have hA : ∀ q : Nat, s.heap.size ≤ q → A q := fun q h9 => by rw [← hAe]; exact Or.inr h9
  have hS : va_S A s.heap s.heap [] := va_S.rf
  have hP : va_P D vwCl (fb_wL cI cJ h0 qf qn qw ql qo sz mi fg nt wt wl ob) s.heap := hP
  have hZ := hZT.1
  have hK1 : va_K D vwCl [(cI, .int)] s := hK.sub [0] rfl
  have w_c20 : (Cond.classLink RL 20 "java/lang/IndexOutOfBoundsException") ∈ wsL_told := List.mem_of_getElem? (i := 1) rfl
  have hl := lv_entry ([.ref h0, .int a1, .int a2, .ref qo]) (n := 5) (Nat.le_of_ble_eq_true rfl)
  rw [lg_entry_eq]
  generalize (lg_sl ([.ref h0, .int a1, .int a2, .ref qo]) ++ List.replicate (5 - (lg_sl ([.ref h0, .int a1, .int a2, .ref qo])).length) Slot.unset).toArray = ls at hl ⊢
  have hl : lv_has ls 5 [(0, .ref h0), (1, .int a1), (2, .int a2), (3, .ref qo)] := hl
  suffices K : ∀ (H : Heap) (locs : List Loc), va_P D vwCl (fb_wL cI cJ h0 qf qn qw ql qo sz mi fg nt wt wl ob) H → va_S A s.heap H locs → W p l e (headSpec wsL_told rmL_told).room s m ([.ref h0, .int a1, .int a2, .ref qo] : List Value).toArray below meth c H locs 0 0 (MQ below (fb_qM (fun _ => some (.int ro)) (fun _ => fb_wL cI cJ h0 qf qn qw ql qo sz mi fg nt wt wl obo) D A) ([.ref h0, .int a1, .int a2, .ref qo] : List Value).toArray s 1 6 A) (F0 m 0 ls []) from K s.heap [] hP hS
  intro H locs hP hS
  unfold fL_told at h
  refine lv_aload_n hx hb dL_told_0 rfl (lv_at hl 3 rfl) ?_
  refine lv_iconst (v := 0) hx hb dL_told_1 (by decide) ?_
  refine lv_aload_n hx hb dL_told_2 rfl (lv_at hl 0 rfl) ?_
  refine lv_iload_n hx hb dL_told_3 rfl (lv_at hl 1 rfl) ?_
  refine lv_iload_n hx hb dL_told_4 rfl (lv_at hl 2 rfl) ?_
  obtain ⟨re, h1, h⟩ := fb_b1s h
  have hPc : va_P D vwCl (fb_wX0 cI h0 qf qn qw ql sz mi fg nt wt wl) H := hP.sub [0, 1, 2, 3, 4] rfl
  have hDc : va_D A (fb_wX0 cI h0 qf qn qw ql sz mi fg nt wt wl) := hD.sub [0, 1, 2, 3, 4] (by decide) rfl
  have hFc := va_free (wc := fb_wX0 cI h0 qf qn qw ql sz mi fg nt wt wl) hD hS hA [0, 1, 2, 3, 4] rfl
  refine fb_callT (vx_runV (As := [.int a1, .int a2]) (rest := [.int 0, .ref qo]) ⟨hx, hb, hml, hown, hts⟩ (metX0_told l hfl D cI h0 qf qn qw ql B0 sz mi fg nt wt wl a1 a2 H.size _ h1) (cwV 2 hts gL_told_X0_told rfl rfl rfl (by decide +kernel) ⟨Nat.le_of_ble_eq_true rfl, Nat.le_of_ble_eq_true rfl⟩) (fb_preVM (ci := 0) fb_sXTp hPc hK1 hDc hZT hS hAB hA rfl rfl _) rfl rfl hl.1 rfl (lv_room (Nat.le_of_ble_eq_true rfl)) dL_told_5 ⟨Nat.le_of_ble_eq_true rfl, Nat.le_of_ble_eq_true rfl⟩) hS (fun q _ h9 => hFc q h9) hFc (fun x3 ce q9 H1 locs hre hP1 hD1 hk1 hS hce hcv hcl => ?_) (fun v2 H1 locs hre hP1 hD1 hk1 hS => ?_)
  · replace h := fb_mter hre h
    obtain ⟨hP, hD⟩ := va_join (wr := [(qo, .inl (cJ, 1, .inr (.inl ob)))]) (w1 := fb_wX0 cI h0 qf qn qw ql sz mi fg nt wt wl) hP hD [0, 1, 2, 3, 4] [5] rfl rfl (by decide) (by decide) hk1 hFc hP1 hD1
    have hP : va_P D vwCl (fb_wL cI cJ h0 qf qn qw ql qo sz mi fg nt wt wl ob) H1 := hP.sub [1, 2, 3, 4, 5, 0] rfl
    have hD : va_D A (fb_wL cI cJ h0 qf qn qw ql qo sz mi fg nt wt wl ob) := hD.sub [1, 2, 3, 4, 5, 0] (by decide) rfl
    by_cases c0 : x3.1 = "java/lang/IndexOutOfBoundsException"
    · replace h := fb_it c0 h
      refine vx_catch (E := x3.1) hown [] ⟨0, 10, 13, 20⟩ [] (htab.trans rfl) (fun z hz => nomatch hz) rfl (by decide) (hts _ w_c20) (by rw [c0]; exact fb_ca_IndexOutOfBoundsException hZT) hce hcv hcl ?_
      generalize H1 = H at hP hS hce
      refine lv_astore (lv' := [(4, .ref q9), (0, .ref h0), (1, .int a1), (2, .int a2), (3, .ref qo)]) hx hb dL_told_13 hl (by decide) rfl (fun ls hl => ?_)
      refine lv_iconst (v := 1) hx hb dL_told_15 (by decide) ?_
      obtain ⟨e1, e2⟩ := fb_p2 h
      subst e1
      subst e2
      exact W.iret hx hb hr (fun t ht _ => ⟨⟨0, rfl, by rw [ht]; exact hP, hD⟩, hS.F ht⟩) hS.2.2 dL_told_16
    replace h := fb_ie c0 h
    cases h
  · replace h := fb_mtok hre h
    obtain ⟨hP, hD⟩ := va_join (wr := [(qo, .inl (cJ, 1, .inr (.inl ob)))]) (w1 := fb_wX0 cI h0 qf qn qw ql sz mi fg nt wt wl) hP hD [0, 1, 2, 3, 4] [5] rfl rfl (by decide) (by decide) hk1 hFc hP1 hD1
    have hP : va_P D vwCl (fb_wL cI cJ h0 qf qn qw ql qo sz mi fg nt wt wl ob) H1 := hP.sub [1, 2, 3, 4, 5, 0] rfl
    have hD : va_D A (fb_wL cI cJ h0 qf qn qw ql qo sz mi fg nt wt wl ob) := hD.sub [1, 2, 3, 4, 5, 0] (by decide) rfl
    generalize H1 = H at hP hS
    refine lv_i2l hx hb dL_told_8 rfl ?_
    refine va_last hx hb hK hP hD hS 5 1 rfl rfl (fb_ixin (by decide)) dL_told_9 (fun H locs hP hD hS => ?_)
    have hP : va_P D vwCl (fb_wL cI cJ h0 qf qn qw ql qo sz mi fg nt wt wl (vp_updL ob (0 : Int32).toNatClampNeg v2.toInt64)) H := hP
    have hD : va_D A (fb_wL cI cJ h0 qf qn qw ql qo sz mi fg nt wt wl (vp_updL ob (0 : Int32).toNatClampNeg v2.toInt64)) := hD
    refine lv_goto (tgt := 17) hx hb dL_told_10 (by decide) ?_
    refine lv_iconst (v := 0) hx hb dL_told_17 (by decide) ?_
    obtain ⟨e1, e2⟩ := fb_p2 h
    subst e1
    subst e2
    exact W.iret hx hb hr (fun t ht _ => ⟨⟨0, rfl, by rw [ht]; exact hP, hD⟩, hS.F ht⟩) hS.2.2 dL_told_18
def fL_faults (sz : Int32) (mi : Int32) (fg : Nat → Int32) (nt : Nat → Int32) (wt : Nat → Int32) (wl : Nat → Int32) (ob : Nat → Int64) (a1 : Int32) (a2 : Int32) : Option (Int32 × (Nat → Int64)) :=
  fb_b1 (fX0_faults sz mi fg nt wt wl a1 a2) (fun re =>
  fb_mt re (fun v2 => some (0, vp_updL ob (0 : Int32).toNatClampNeg v2.toInt64)) (fun x3 => if x3.1 = "java/lang/IndexOutOfBoundsException" then some (1, ob) else none))
abbrev rmL_faults : Room := { frames := 7, cells := 1, slots := 6, locals := 117 }
set_option maxHeartbeats 8000000 in
set_option maxRecDepth 100000 in
theorem metL_faults (l : Launch) (hfl : l.stackTraces = false) (D : va_G) (cI cJ : ClassId) (h0 qf qn qw ql qo B0 : Nat) (sz : Int32) (mi : Int32) (fg : Nat → Int32) (nt : Nat → Int32) (wt : Nat → Int32) (wl : Nat → Int32) (ob : Nat → Int64) (a1 : Int32) (a2 : Int32) (hz : Nat) (ro : Int32) (obo : Nat → Int64) (h : fL_faults sz mi fg nt wt wl ob a1 a2 = some (ro, obo)) : Met l yL_faults wsL_faults rmL_faults (va_Pc [.ref h0, .int a1, .int a2, .ref qo] (fb_pm D [(cI, .int), (cJ, .long)] B0 fb_sXT (fb_wL cI cJ h0 qf qn qw ql qo sz mi fg nt wt wl ob) hz)) (fb_qM (fun _ => some (.int ro)) (fun _ => fb_wL cI cJ h0 qf qn qw ql qo sz mi fg nt wt wl obo) D (va_A (fb_wL cI cJ h0 qf qn qw ql qo sz mi fg nt wt wl ob) hz)) 1 6 (va_A (fb_wL cI cJ h0 qf qn qw ql qo sz mi fg nt wt wl ob) hz) := by
  refine va_MetW (cc := cL_faults) (maxL := 5) (ret := (some .int)) (hh := [(0, 10, 13, 20)]) (by decide) rfl ?_
  intro p e s m args below meth c s₁ B hml hv
  obtain ⟨rfl, hsz, ⟨hP, hK, hZT⟩, hD0, hAB⟩ := hv
  have hx := B.exec
  have hb := B.bytes
  have hr := B.returns
  have hts := atoms_spec (ws := wsL_faults) B.pre
  have hown : s.vm.findClass RL = some m.cls := findClass_of_methodNamed B.named
  have hlocks := B.notSynchronized
  have htab := vx_table (x := yL_faults) B (hts _ List.mem_cons_self)
  subst hsz
  have hD := hD0.self (sz := s.heap.size)
  generalize hAe : va_A (fb_wL cI cJ h0 qf qn qw ql qo sz mi fg nt wt wl ob) s.heap.size = A at hD hAB ⊢
  have hA : ∀ q : Nat, s.heap.size ≤ q → A q := fun q h9 => by rw [← hAe]; exact Or.inr h9
  have hS : va_S A s.heap s.heap [] := va_S.rf
  have hP : va_P D vwCl (fb_wL cI cJ h0 qf qn qw ql qo sz mi fg nt wt wl ob) s.heap := hP
  have hZ := hZT.1
  have hK1 : va_K D vwCl [(cI, .int)] s := hK.sub [0] rfl
  have w_c20 : (Cond.classLink RL 20 "java/lang/IndexOutOfBoundsException") ∈ wsL_faults := List.mem_of_getElem? (i := 1) rfl
  have hl := lv_entry ([.ref h0, .int a1, .int a2, .ref qo]) (n := 5) (Nat.le_of_ble_eq_true rfl)
  rw [lg_entry_eq]
  generalize (lg_sl ([.ref h0, .int a1, .int a2, .ref qo]) ++ List.replicate (5 - (lg_sl ([.ref h0, .int a1, .int a2, .ref qo])).length) Slot.unset).toArray = ls at hl ⊢
  have hl : lv_has ls 5 [(0, .ref h0), (1, .int a1), (2, .int a2), (3, .ref qo)] := hl
  suffices K : ∀ (H : Heap) (locs : List Loc), va_P D vwCl (fb_wL cI cJ h0 qf qn qw ql qo sz mi fg nt wt wl ob) H → va_S A s.heap H locs → W p l e (headSpec wsL_faults rmL_faults).room s m ([.ref h0, .int a1, .int a2, .ref qo] : List Value).toArray below meth c H locs 0 0 (MQ below (fb_qM (fun _ => some (.int ro)) (fun _ => fb_wL cI cJ h0 qf qn qw ql qo sz mi fg nt wt wl obo) D A) ([.ref h0, .int a1, .int a2, .ref qo] : List Value).toArray s 1 6 A) (F0 m 0 ls []) from K s.heap [] hP hS
  intro H locs hP hS
  unfold fL_faults at h
  refine lv_aload_n hx hb dL_faults_0 rfl (lv_at hl 3 rfl) ?_
  refine lv_iconst (v := 0) hx hb dL_faults_1 (by decide) ?_
  refine lv_aload_n hx hb dL_faults_2 rfl (lv_at hl 0 rfl) ?_
  refine lv_iload_n hx hb dL_faults_3 rfl (lv_at hl 1 rfl) ?_
  refine lv_iload_n hx hb dL_faults_4 rfl (lv_at hl 2 rfl) ?_
  obtain ⟨re, h1, h⟩ := fb_b1s h
  have hPc : va_P D vwCl (fb_wX0 cI h0 qf qn qw ql sz mi fg nt wt wl) H := hP.sub [0, 1, 2, 3, 4] rfl
  have hDc : va_D A (fb_wX0 cI h0 qf qn qw ql sz mi fg nt wt wl) := hD.sub [0, 1, 2, 3, 4] (by decide) rfl
  have hFc := va_free (wc := fb_wX0 cI h0 qf qn qw ql sz mi fg nt wt wl) hD hS hA [0, 1, 2, 3, 4] rfl
  refine fb_callT (vx_runV (As := [.int a1, .int a2]) (rest := [.int 0, .ref qo]) ⟨hx, hb, hml, hown, hts⟩ (metX0_faults l hfl D cI h0 qf qn qw ql B0 sz mi fg nt wt wl a1 a2 H.size _ h1) (cwV 2 hts gL_faults_X0_faults rfl rfl rfl (by decide +kernel) ⟨Nat.le_of_ble_eq_true rfl, Nat.le_of_ble_eq_true rfl⟩) (fb_preVM (ci := 0) fb_sXTp hPc hK1 hDc hZT hS hAB hA rfl rfl _) rfl rfl hl.1 rfl (lv_room (Nat.le_of_ble_eq_true rfl)) dL_faults_5 ⟨Nat.le_of_ble_eq_true rfl, Nat.le_of_ble_eq_true rfl⟩) hS (fun q _ h9 => hFc q h9) hFc (fun x3 ce q9 H1 locs hre hP1 hD1 hk1 hS hce hcv hcl => ?_) (fun v2 H1 locs hre hP1 hD1 hk1 hS => ?_)
  · replace h := fb_mter hre h
    obtain ⟨hP, hD⟩ := va_join (wr := [(qo, .inl (cJ, 1, .inr (.inl ob)))]) (w1 := fb_wX0 cI h0 qf qn qw ql sz mi fg nt wt wl) hP hD [0, 1, 2, 3, 4] [5] rfl rfl (by decide) (by decide) hk1 hFc hP1 hD1
    have hP : va_P D vwCl (fb_wL cI cJ h0 qf qn qw ql qo sz mi fg nt wt wl ob) H1 := hP.sub [1, 2, 3, 4, 5, 0] rfl
    have hD : va_D A (fb_wL cI cJ h0 qf qn qw ql qo sz mi fg nt wt wl ob) := hD.sub [1, 2, 3, 4, 5, 0] (by decide) rfl
    by_cases c0 : x3.1 = "java/lang/IndexOutOfBoundsException"
    · replace h := fb_it c0 h
      refine vx_catch (E := x3.1) hown [] ⟨0, 10, 13, 20⟩ [] (htab.trans rfl) (fun z hz => nomatch hz) rfl (by decide) (hts _ w_c20) (by rw [c0]; exact fb_ca_IndexOutOfBoundsException hZT) hce hcv hcl ?_
      generalize H1 = H at hP hS hce
      refine lv_astore (lv' := [(4, .ref q9), (0, .ref h0), (1, .int a1), (2, .int a2), (3, .ref qo)]) hx hb dL_faults_13 hl (by decide) rfl (fun ls hl => ?_)
      refine lv_iconst (v := 1) hx hb dL_faults_15 (by decide) ?_
      obtain ⟨e1, e2⟩ := fb_p2 h
      subst e1
      subst e2
      exact W.iret hx hb hr (fun t ht _ => ⟨⟨0, rfl, by rw [ht]; exact hP, hD⟩, hS.F ht⟩) hS.2.2 dL_faults_16
    replace h := fb_ie c0 h
    cases h
  · replace h := fb_mtok hre h
    obtain ⟨hP, hD⟩ := va_join (wr := [(qo, .inl (cJ, 1, .inr (.inl ob)))]) (w1 := fb_wX0 cI h0 qf qn qw ql sz mi fg nt wt wl) hP hD [0, 1, 2, 3, 4] [5] rfl rfl (by decide) (by decide) hk1 hFc hP1 hD1
    have hP : va_P D vwCl (fb_wL cI cJ h0 qf qn qw ql qo sz mi fg nt wt wl ob) H1 := hP.sub [1, 2, 3, 4, 5, 0] rfl
    have hD : va_D A (fb_wL cI cJ h0 qf qn qw ql qo sz mi fg nt wt wl ob) := hD.sub [1, 2, 3, 4, 5, 0] (by decide) rfl
    generalize H1 = H at hP hS
    refine lv_i2l hx hb dL_faults_8 rfl ?_
    refine va_last hx hb hK hP hD hS 5 1 rfl rfl (fb_ixin (by decide)) dL_faults_9 (fun H locs hP hD hS => ?_)
    have hP : va_P D vwCl (fb_wL cI cJ h0 qf qn qw ql qo sz mi fg nt wt wl (vp_updL ob (0 : Int32).toNatClampNeg v2.toInt64)) H := hP
    have hD : va_D A (fb_wL cI cJ h0 qf qn qw ql qo sz mi fg nt wt wl (vp_updL ob (0 : Int32).toNatClampNeg v2.toInt64)) := hD
    refine lv_goto (tgt := 17) hx hb dL_faults_10 (by decide) ?_
    refine lv_iconst (v := 0) hx hb dL_faults_17 (by decide) ?_
    obtain ⟨e1, e2⟩ := fb_p2 h
    subst e1
    subst e2
    exact W.iret hx hb hr (fun t ht _ => ⟨⟨0, rfl, by rw [ht]; exact hP, hD⟩, hS.F ht⟩) hS.2.2 dL_faults_18
def fL_count (sz : Int32) (mi : Int32) (fg : Nat → Int32) (nt : Nat → Int32) (wt : Nat → Int32) (wl : Nat → Int32) (ob : Nat → Int64) (a1 : Int32) : Option (Int32 × (Nat → Int64)) :=
  fb_b1 (fX0_count sz mi fg nt wt wl a1) (fun re =>
  fb_mt re (fun v2 => some (0, vp_updL ob (0 : Int32).toNatClampNeg v2.toInt64)) (fun x3 => if x3.1 = "java/lang/IndexOutOfBoundsException" then some (1, ob) else none))
abbrev rmL_count : Room := { frames := 7, cells := 1, slots := 6, locals := 162 }
set_option maxHeartbeats 8000000 in
set_option maxRecDepth 100000 in
theorem metL_count (l : Launch) (hfl : l.stackTraces = false) (D : va_G) (cI cJ : ClassId) (h0 qf qn qw ql qo B0 : Nat) (sz : Int32) (mi : Int32) (fg : Nat → Int32) (nt : Nat → Int32) (wt : Nat → Int32) (wl : Nat → Int32) (ob : Nat → Int64) (a1 : Int32) (hz : Nat) (ro : Int32) (obo : Nat → Int64) (h : fL_count sz mi fg nt wt wl ob a1 = some (ro, obo)) : Met l yL_count wsL_count rmL_count (va_Pc [.ref h0, .int a1, .ref qo] (fb_pm D [(cI, .int), (cJ, .long)] B0 fb_sXT (fb_wL cI cJ h0 qf qn qw ql qo sz mi fg nt wt wl ob) hz)) (fb_qM (fun _ => some (.int ro)) (fun _ => fb_wL cI cJ h0 qf qn qw ql qo sz mi fg nt wt wl obo) D (va_A (fb_wL cI cJ h0 qf qn qw ql qo sz mi fg nt wt wl ob) hz)) 1 6 (va_A (fb_wL cI cJ h0 qf qn qw ql qo sz mi fg nt wt wl ob) hz) := by
  refine va_MetW (cc := cL_count) (maxL := 4) (ret := (some .int)) (hh := [(0, 9, 12, 20)]) (by decide) rfl ?_
  intro p e s m args below meth c s₁ B hml hv
  obtain ⟨rfl, hsz, ⟨hP, hK, hZT⟩, hD0, hAB⟩ := hv
  have hx := B.exec
  have hb := B.bytes
  have hr := B.returns
  have hts := atoms_spec (ws := wsL_count) B.pre
  have hown : s.vm.findClass RL = some m.cls := findClass_of_methodNamed B.named
  have hlocks := B.notSynchronized
  have htab := vx_table (x := yL_count) B (hts _ List.mem_cons_self)
  subst hsz
  have hD := hD0.self (sz := s.heap.size)
  generalize hAe : va_A (fb_wL cI cJ h0 qf qn qw ql qo sz mi fg nt wt wl ob) s.heap.size = A at hD hAB ⊢
  have hA : ∀ q : Nat, s.heap.size ≤ q → A q := fun q h9 => by rw [← hAe]; exact Or.inr h9
  have hS : va_S A s.heap s.heap [] := va_S.rf
  have hP : va_P D vwCl (fb_wL cI cJ h0 qf qn qw ql qo sz mi fg nt wt wl ob) s.heap := hP
  have hZ := hZT.1
  have hK1 : va_K D vwCl [(cI, .int)] s := hK.sub [0] rfl
  have w_c20 : (Cond.classLink RL 20 "java/lang/IndexOutOfBoundsException") ∈ wsL_count := List.mem_of_getElem? (i := 1) rfl
  have hl := lv_entry ([.ref h0, .int a1, .ref qo]) (n := 4) (Nat.le_of_ble_eq_true rfl)
  rw [lg_entry_eq]
  generalize (lg_sl ([.ref h0, .int a1, .ref qo]) ++ List.replicate (4 - (lg_sl ([.ref h0, .int a1, .ref qo])).length) Slot.unset).toArray = ls at hl ⊢
  have hl : lv_has ls 4 [(0, .ref h0), (1, .int a1), (2, .ref qo)] := hl
  suffices K : ∀ (H : Heap) (locs : List Loc), va_P D vwCl (fb_wL cI cJ h0 qf qn qw ql qo sz mi fg nt wt wl ob) H → va_S A s.heap H locs → W p l e (headSpec wsL_count rmL_count).room s m ([.ref h0, .int a1, .ref qo] : List Value).toArray below meth c H locs 0 0 (MQ below (fb_qM (fun _ => some (.int ro)) (fun _ => fb_wL cI cJ h0 qf qn qw ql qo sz mi fg nt wt wl obo) D A) ([.ref h0, .int a1, .ref qo] : List Value).toArray s 1 6 A) (F0 m 0 ls []) from K s.heap [] hP hS
  intro H locs hP hS
  unfold fL_count at h
  refine lv_aload_n hx hb dL_count_0 rfl (lv_at hl 2 rfl) ?_
  refine lv_iconst (v := 0) hx hb dL_count_1 (by decide) ?_
  refine lv_aload_n hx hb dL_count_2 rfl (lv_at hl 0 rfl) ?_
  refine lv_iload_n hx hb dL_count_3 rfl (lv_at hl 1 rfl) ?_
  obtain ⟨re, h1, h⟩ := fb_b1s h
  have hPc : va_P D vwCl (fb_wX0 cI h0 qf qn qw ql sz mi fg nt wt wl) H := hP.sub [0, 1, 2, 3, 4] rfl
  have hDc : va_D A (fb_wX0 cI h0 qf qn qw ql sz mi fg nt wt wl) := hD.sub [0, 1, 2, 3, 4] (by decide) rfl
  have hFc := va_free (wc := fb_wX0 cI h0 qf qn qw ql sz mi fg nt wt wl) hD hS hA [0, 1, 2, 3, 4] rfl
  refine fb_callT (vx_runV (As := [.int a1]) (rest := [.int 0, .ref qo]) ⟨hx, hb, hml, hown, hts⟩ (metX0_count l hfl D cI h0 qf qn qw ql B0 sz mi fg nt wt wl a1 H.size _ h1) (cwV 1 hts gL_count_X0_count rfl rfl rfl (by decide +kernel) ⟨Nat.le_of_ble_eq_true rfl, Nat.le_of_ble_eq_true rfl⟩) (fb_preVM (ci := 0) fb_sXTp hPc hK1 hDc hZT hS hAB hA rfl rfl _) rfl rfl hl.1 rfl (lv_room (Nat.le_of_ble_eq_true rfl)) dL_count_4 ⟨Nat.le_of_ble_eq_true rfl, Nat.le_of_ble_eq_true rfl⟩) hS (fun q _ h9 => hFc q h9) hFc (fun x3 ce q9 H1 locs hre hP1 hD1 hk1 hS hce hcv hcl => ?_) (fun v2 H1 locs hre hP1 hD1 hk1 hS => ?_)
  · replace h := fb_mter hre h
    obtain ⟨hP, hD⟩ := va_join (wr := [(qo, .inl (cJ, 1, .inr (.inl ob)))]) (w1 := fb_wX0 cI h0 qf qn qw ql sz mi fg nt wt wl) hP hD [0, 1, 2, 3, 4] [5] rfl rfl (by decide) (by decide) hk1 hFc hP1 hD1
    have hP : va_P D vwCl (fb_wL cI cJ h0 qf qn qw ql qo sz mi fg nt wt wl ob) H1 := hP.sub [1, 2, 3, 4, 5, 0] rfl
    have hD : va_D A (fb_wL cI cJ h0 qf qn qw ql qo sz mi fg nt wt wl ob) := hD.sub [1, 2, 3, 4, 5, 0] (by decide) rfl
    by_cases c0 : x3.1 = "java/lang/IndexOutOfBoundsException"
    · replace h := fb_it c0 h
      refine vx_catch (E := x3.1) hown [] ⟨0, 9, 12, 20⟩ [] (htab.trans rfl) (fun z hz => nomatch hz) rfl (by decide) (hts _ w_c20) (by rw [c0]; exact fb_ca_IndexOutOfBoundsException hZT) hce hcv hcl ?_
      generalize H1 = H at hP hS hce
      refine lv_astore_n (lv' := [(3, .ref q9), (0, .ref h0), (1, .int a1), (2, .ref qo)]) hx hb dL_count_12 rfl hl (by decide) rfl (fun ls hl => ?_)
      refine lv_iconst (v := 1) hx hb dL_count_13 (by decide) ?_
      obtain ⟨e1, e2⟩ := fb_p2 h
      subst e1
      subst e2
      exact W.iret hx hb hr (fun t ht _ => ⟨⟨0, rfl, by rw [ht]; exact hP, hD⟩, hS.F ht⟩) hS.2.2 dL_count_14
    replace h := fb_ie c0 h
    cases h
  · replace h := fb_mtok hre h
    obtain ⟨hP, hD⟩ := va_join (wr := [(qo, .inl (cJ, 1, .inr (.inl ob)))]) (w1 := fb_wX0 cI h0 qf qn qw ql sz mi fg nt wt wl) hP hD [0, 1, 2, 3, 4] [5] rfl rfl (by decide) (by decide) hk1 hFc hP1 hD1
    have hP : va_P D vwCl (fb_wL cI cJ h0 qf qn qw ql qo sz mi fg nt wt wl ob) H1 := hP.sub [1, 2, 3, 4, 5, 0] rfl
    have hD : va_D A (fb_wL cI cJ h0 qf qn qw ql qo sz mi fg nt wt wl ob) := hD.sub [1, 2, 3, 4, 5, 0] (by decide) rfl
    generalize H1 = H at hP hS
    refine lv_i2l hx hb dL_count_7 rfl ?_
    refine va_last hx hb hK hP hD hS 5 1 rfl rfl (fb_ixin (by decide)) dL_count_8 (fun H locs hP hD hS => ?_)
    have hP : va_P D vwCl (fb_wL cI cJ h0 qf qn qw ql qo sz mi fg nt wt wl (vp_updL ob (0 : Int32).toNatClampNeg v2.toInt64)) H := hP
    have hD : va_D A (fb_wL cI cJ h0 qf qn qw ql qo sz mi fg nt wt wl (vp_updL ob (0 : Int32).toNatClampNeg v2.toInt64)) := hD
    refine lv_goto (tgt := 15) hx hb dL_count_9 (by decide) ?_
    refine lv_iconst (v := 0) hx hb dL_count_15 (by decide) ?_
    obtain ⟨e1, e2⟩ := fb_p2 h
    subst e1
    subst e2
    exact W.iret hx hb hr (fun t ht _ => ⟨⟨0, rfl, by rw [ht]; exact hP, hD⟩, hS.F ht⟩) hS.2.2 dL_count_16
def fL_pitch (sz : Int32) (mi : Int32) (fg : Nat → Int32) (nt : Nat → Int32) (wt : Nat → Int32) (wl : Nat → Int32) (ob : Nat → Int64) (a1 : Int32) : Option (Int32 × (Nat → Int64)) :=
  fb_b1 (fX0_pitch sz mi fg nt wt wl a1) (fun re =>
  fb_mt re (fun v2 => some (0, vp_updL ob (0 : Int32).toNatClampNeg v2.toInt64)) (fun x3 => if x3.1 = "java/lang/IllegalArgumentException" then some (1, ob) else none))
abbrev rmL_pitch : Room := { frames := 7, cells := 1, slots := 6, locals := 116 }
set_option maxHeartbeats 8000000 in
set_option maxRecDepth 100000 in
theorem metL_pitch (l : Launch) (hfl : l.stackTraces = false) (D : va_G) (cI cJ : ClassId) (h0 qf qn qw ql qo B0 : Nat) (sz : Int32) (mi : Int32) (fg : Nat → Int32) (nt : Nat → Int32) (wt : Nat → Int32) (wl : Nat → Int32) (ob : Nat → Int64) (a1 : Int32) (hz : Nat) (ro : Int32) (obo : Nat → Int64) (h : fL_pitch sz mi fg nt wt wl ob a1 = some (ro, obo)) : Met l yL_pitch wsL_pitch rmL_pitch (va_Pc [.ref h0, .int a1, .ref qo] (fb_pm D [(cI, .int), (cJ, .long)] B0 fb_sXT (fb_wL cI cJ h0 qf qn qw ql qo sz mi fg nt wt wl ob) hz)) (fb_qM (fun _ => some (.int ro)) (fun _ => fb_wL cI cJ h0 qf qn qw ql qo sz mi fg nt wt wl obo) D (va_A (fb_wL cI cJ h0 qf qn qw ql qo sz mi fg nt wt wl ob) hz)) 1 6 (va_A (fb_wL cI cJ h0 qf qn qw ql qo sz mi fg nt wt wl ob) hz) := by
  refine va_MetW (cc := cL_pitch) (maxL := 4) (ret := (some .int)) (hh := [(0, 9, 12, 13)]) (by decide) rfl ?_
  intro p e s m args below meth c s₁ B hml hv
  obtain ⟨rfl, hsz, ⟨hP, hK, hZT⟩, hD0, hAB⟩ := hv
  have hx := B.exec
  have hb := B.bytes
  have hr := B.returns
  have hts := atoms_spec (ws := wsL_pitch) B.pre
  have hown : s.vm.findClass RL = some m.cls := findClass_of_methodNamed B.named
  have hlocks := B.notSynchronized
  have htab := vx_table (x := yL_pitch) B (hts _ List.mem_cons_self)
  subst hsz
  have hD := hD0.self (sz := s.heap.size)
  generalize hAe : va_A (fb_wL cI cJ h0 qf qn qw ql qo sz mi fg nt wt wl ob) s.heap.size = A at hD hAB ⊢
  have hA : ∀ q : Nat, s.heap.size ≤ q → A q := fun q h9 => by rw [← hAe]; exact Or.inr h9
  have hS : va_S A s.heap s.heap [] := va_S.rf
  have hP : va_P D vwCl (fb_wL cI cJ h0 qf qn qw ql qo sz mi fg nt wt wl ob) s.heap := hP
  have hZ := hZT.1
  have hK1 : va_K D vwCl [(cI, .int)] s := hK.sub [0] rfl
  have w_c13 : (Cond.classLink RL 13 "java/lang/IllegalArgumentException") ∈ wsL_pitch := List.mem_of_getElem? (i := 1) rfl
  have hl := lv_entry ([.ref h0, .int a1, .ref qo]) (n := 4) (Nat.le_of_ble_eq_true rfl)
  rw [lg_entry_eq]
  generalize (lg_sl ([.ref h0, .int a1, .ref qo]) ++ List.replicate (4 - (lg_sl ([.ref h0, .int a1, .ref qo])).length) Slot.unset).toArray = ls at hl ⊢
  have hl : lv_has ls 4 [(0, .ref h0), (1, .int a1), (2, .ref qo)] := hl
  suffices K : ∀ (H : Heap) (locs : List Loc), va_P D vwCl (fb_wL cI cJ h0 qf qn qw ql qo sz mi fg nt wt wl ob) H → va_S A s.heap H locs → W p l e (headSpec wsL_pitch rmL_pitch).room s m ([.ref h0, .int a1, .ref qo] : List Value).toArray below meth c H locs 0 0 (MQ below (fb_qM (fun _ => some (.int ro)) (fun _ => fb_wL cI cJ h0 qf qn qw ql qo sz mi fg nt wt wl obo) D A) ([.ref h0, .int a1, .ref qo] : List Value).toArray s 1 6 A) (F0 m 0 ls []) from K s.heap [] hP hS
  intro H locs hP hS
  unfold fL_pitch at h
  refine lv_aload_n hx hb dL_pitch_0 rfl (lv_at hl 2 rfl) ?_
  refine lv_iconst (v := 0) hx hb dL_pitch_1 (by decide) ?_
  refine lv_aload_n hx hb dL_pitch_2 rfl (lv_at hl 0 rfl) ?_
  refine lv_iload_n hx hb dL_pitch_3 rfl (lv_at hl 1 rfl) ?_
  obtain ⟨re, h1, h⟩ := fb_b1s h
  have hPc : va_P D vwCl (fb_wX0 cI h0 qf qn qw ql sz mi fg nt wt wl) H := hP.sub [0, 1, 2, 3, 4] rfl
  have hDc : va_D A (fb_wX0 cI h0 qf qn qw ql sz mi fg nt wt wl) := hD.sub [0, 1, 2, 3, 4] (by decide) rfl
  have hFc := va_free (wc := fb_wX0 cI h0 qf qn qw ql sz mi fg nt wt wl) hD hS hA [0, 1, 2, 3, 4] rfl
  refine fb_callT (vx_runV (As := [.int a1]) (rest := [.int 0, .ref qo]) ⟨hx, hb, hml, hown, hts⟩ (metX0_pitch l hfl D cI h0 qf qn qw ql B0 sz mi fg nt wt wl a1 H.size _ h1) (cwV 1 hts gL_pitch_X0_pitch rfl rfl rfl (by decide +kernel) ⟨Nat.le_of_ble_eq_true rfl, Nat.le_of_ble_eq_true rfl⟩) (fb_preVM (ci := 0) fb_sXTp hPc hK1 hDc hZT hS hAB hA rfl rfl _) rfl rfl hl.1 rfl (lv_room (Nat.le_of_ble_eq_true rfl)) dL_pitch_4 ⟨Nat.le_of_ble_eq_true rfl, Nat.le_of_ble_eq_true rfl⟩) hS (fun q _ h9 => hFc q h9) hFc (fun x3 ce q9 H1 locs hre hP1 hD1 hk1 hS hce hcv hcl => ?_) (fun v2 H1 locs hre hP1 hD1 hk1 hS => ?_)
  · replace h := fb_mter hre h
    obtain ⟨hP, hD⟩ := va_join (wr := [(qo, .inl (cJ, 1, .inr (.inl ob)))]) (w1 := fb_wX0 cI h0 qf qn qw ql sz mi fg nt wt wl) hP hD [0, 1, 2, 3, 4] [5] rfl rfl (by decide) (by decide) hk1 hFc hP1 hD1
    have hP : va_P D vwCl (fb_wL cI cJ h0 qf qn qw ql qo sz mi fg nt wt wl ob) H1 := hP.sub [1, 2, 3, 4, 5, 0] rfl
    have hD : va_D A (fb_wL cI cJ h0 qf qn qw ql qo sz mi fg nt wt wl ob) := hD.sub [1, 2, 3, 4, 5, 0] (by decide) rfl
    by_cases c0 : x3.1 = "java/lang/IllegalArgumentException"
    · replace h := fb_it c0 h
      refine vx_catch (E := x3.1) hown [] ⟨0, 9, 12, 13⟩ [] (htab.trans rfl) (fun z hz => nomatch hz) rfl (by decide) (hts _ w_c13) (by rw [c0]; exact fb_ca_IllegalArgumentException hZT) hce hcv hcl ?_
      generalize H1 = H at hP hS hce
      refine lv_astore_n (lv' := [(3, .ref q9), (0, .ref h0), (1, .int a1), (2, .ref qo)]) hx hb dL_pitch_12 rfl hl (by decide) rfl (fun ls hl => ?_)
      refine lv_iconst (v := 1) hx hb dL_pitch_13 (by decide) ?_
      obtain ⟨e1, e2⟩ := fb_p2 h
      subst e1
      subst e2
      exact W.iret hx hb hr (fun t ht _ => ⟨⟨0, rfl, by rw [ht]; exact hP, hD⟩, hS.F ht⟩) hS.2.2 dL_pitch_14
    replace h := fb_ie c0 h
    cases h
  · replace h := fb_mtok hre h
    obtain ⟨hP, hD⟩ := va_join (wr := [(qo, .inl (cJ, 1, .inr (.inl ob)))]) (w1 := fb_wX0 cI h0 qf qn qw ql sz mi fg nt wt wl) hP hD [0, 1, 2, 3, 4] [5] rfl rfl (by decide) (by decide) hk1 hFc hP1 hD1
    have hP : va_P D vwCl (fb_wL cI cJ h0 qf qn qw ql qo sz mi fg nt wt wl ob) H1 := hP.sub [1, 2, 3, 4, 5, 0] rfl
    have hD : va_D A (fb_wL cI cJ h0 qf qn qw ql qo sz mi fg nt wt wl ob) := hD.sub [1, 2, 3, 4, 5, 0] (by decide) rfl
    generalize H1 = H at hP hS
    refine lv_i2l hx hb dL_pitch_7 rfl ?_
    refine va_last hx hb hK hP hD hS 5 1 rfl rfl (fb_ixin (by decide)) dL_pitch_8 (fun H locs hP hD hS => ?_)
    have hP : va_P D vwCl (fb_wL cI cJ h0 qf qn qw ql qo sz mi fg nt wt wl (vp_updL ob (0 : Int32).toNatClampNeg v2.toInt64)) H := hP
    have hD : va_D A (fb_wL cI cJ h0 qf qn qw ql qo sz mi fg nt wt wl (vp_updL ob (0 : Int32).toNatClampNeg v2.toInt64)) := hD
    refine lv_goto (tgt := 15) hx hb dL_pitch_9 (by decide) ?_
    refine lv_iconst (v := 0) hx hb dL_pitch_15 (by decide) ?_
    obtain ⟨e1, e2⟩ := fb_p2 h
    subst e1
    subst e2
    exact W.iret hx hb hr (fun t ht _ => ⟨⟨0, rfl, by rw [ht]; exact hP, hD⟩, hS.F ht⟩) hS.2.2 dL_pitch_16
def fL_fits (sz : Int32) (mi : Int32) (fg : Nat → Int32) (nt : Nat → Int32) (wt : Nat → Int32) (wl : Nat → Int32) (ob : Nat → Int64) (a1 : Int32) (a2 : Int32) (a3 : Int32) : Option (Int32 × (Nat → Int64)) :=
  fb_b1 (fX0_fits sz mi fg nt wt wl a1 a2 a3) (fun re =>
  fb_mt re (fun v2 => fb_b1 (if v2 = 0 then
        some 0
      else
        some 1) (fun (j5 : Int64) =>
    some (0, vp_updL ob (0 : Int32).toNatClampNeg j5))) (fun x3 => if x3.1 = "java/lang/IndexOutOfBoundsException" then some (1, ob) else if x3.1 = "java/lang/IllegalArgumentException" then some (2, ob) else none))
abbrev rmL_fits : Room := { frames := 7, cells := 1, slots := 6, locals := 118 }
set_option maxHeartbeats 8000000 in
set_option maxRecDepth 100000 in
theorem metL_fits (l : Launch) (hfl : l.stackTraces = false) (D : va_G) (cI cJ : ClassId) (h0 qf qn qw ql qo B0 : Nat) (sz : Int32) (mi : Int32) (fg : Nat → Int32) (nt : Nat → Int32) (wt : Nat → Int32) (wl : Nat → Int32) (ob : Nat → Int64) (a1 : Int32) (a2 : Int32) (a3 : Int32) (hz : Nat) (ro : Int32) (obo : Nat → Int64) (h : fL_fits sz mi fg nt wt wl ob a1 a2 a3 = some (ro, obo)) : Met l yL_fits wsL_fits rmL_fits (va_Pc [.ref h0, .int a1, .int a2, .int a3, .ref qo] (fb_pm D [(cI, .int), (cJ, .long)] B0 fb_sXT (fb_wL cI cJ h0 qf qn qw ql qo sz mi fg nt wt wl ob) hz)) (fb_qM (fun _ => some (.int ro)) (fun _ => fb_wL cI cJ h0 qf qn qw ql qo sz mi fg nt wt wl obo) D (va_A (fb_wL cI cJ h0 qf qn qw ql qo sz mi fg nt wt wl ob) hz)) 1 6 (va_A (fb_wL cI cJ h0 qf qn qw ql qo sz mi fg nt wt wl ob) hz) := by
  refine va_MetW (cc := cL_fits) (maxL := 6) (ret := (some .int)) (hh := [(0, 19, 22, 20), (0, 19, 26, 13)]) (by decide) rfl ?_
  intro p e s m args below meth c s₁ B hml hv
  obtain ⟨rfl, hsz, ⟨hP, hK, hZT⟩, hD0, hAB⟩ := hv
  have hx := B.exec
  have hb := B.bytes
  have hr := B.returns
  have hts := atoms_spec (ws := wsL_fits) B.pre
  have hown : s.vm.findClass RL = some m.cls := findClass_of_methodNamed B.named
  have hlocks := B.notSynchronized
  have htab := vx_table (x := yL_fits) B (hts _ List.mem_cons_self)
  subst hsz
  have hD := hD0.self (sz := s.heap.size)
  generalize hAe : va_A (fb_wL cI cJ h0 qf qn qw ql qo sz mi fg nt wt wl ob) s.heap.size = A at hD hAB ⊢
  have hA : ∀ q : Nat, s.heap.size ≤ q → A q := fun q h9 => by rw [← hAe]; exact Or.inr h9
  have hS : va_S A s.heap s.heap [] := va_S.rf
  have hP : va_P D vwCl (fb_wL cI cJ h0 qf qn qw ql qo sz mi fg nt wt wl ob) s.heap := hP
  have hZ := hZT.1
  have hK1 : va_K D vwCl [(cI, .int)] s := hK.sub [0] rfl
  have w_c13 : (Cond.classLink RL 13 "java/lang/IllegalArgumentException") ∈ wsL_fits := List.mem_of_getElem? (i := 2) rfl
  have w_c20 : (Cond.classLink RL 20 "java/lang/IndexOutOfBoundsException") ∈ wsL_fits := List.mem_of_getElem? (i := 1) rfl
  have hl := lv_entry ([.ref h0, .int a1, .int a2, .int a3, .ref qo]) (n := 6) (Nat.le_of_ble_eq_true rfl)
  rw [lg_entry_eq]
  generalize (lg_sl ([.ref h0, .int a1, .int a2, .int a3, .ref qo]) ++ List.replicate (6 - (lg_sl ([.ref h0, .int a1, .int a2, .int a3, .ref qo])).length) Slot.unset).toArray = ls at hl ⊢
  have hl : lv_has ls 6 [(0, .ref h0), (1, .int a1), (2, .int a2), (3, .int a3), (4, .ref qo)] := hl
  suffices K : ∀ (H : Heap) (locs : List Loc), va_P D vwCl (fb_wL cI cJ h0 qf qn qw ql qo sz mi fg nt wt wl ob) H → va_S A s.heap H locs → W p l e (headSpec wsL_fits rmL_fits).room s m ([.ref h0, .int a1, .int a2, .int a3, .ref qo] : List Value).toArray below meth c H locs 0 0 (MQ below (fb_qM (fun _ => some (.int ro)) (fun _ => fb_wL cI cJ h0 qf qn qw ql qo sz mi fg nt wt wl obo) D A) ([.ref h0, .int a1, .int a2, .int a3, .ref qo] : List Value).toArray s 1 6 A) (F0 m 0 ls []) from K s.heap [] hP hS
  intro H locs hP hS
  unfold fL_fits at h
  refine lv_aload hx hb dL_fits_0 (lv_at hl 4 rfl) ?_
  refine lv_iconst (v := 0) hx hb dL_fits_2 (by decide) ?_
  refine lv_aload_n hx hb dL_fits_3 rfl (lv_at hl 0 rfl) ?_
  refine lv_iload_n hx hb dL_fits_4 rfl (lv_at hl 1 rfl) ?_
  refine lv_iload_n hx hb dL_fits_5 rfl (lv_at hl 2 rfl) ?_
  refine lv_iload_n hx hb dL_fits_6 rfl (lv_at hl 3 rfl) ?_
  obtain ⟨re, h1, h⟩ := fb_b1s h
  have hPc : va_P D vwCl (fb_wX0 cI h0 qf qn qw ql sz mi fg nt wt wl) H := hP.sub [0, 1, 2, 3, 4] rfl
  have hDc : va_D A (fb_wX0 cI h0 qf qn qw ql sz mi fg nt wt wl) := hD.sub [0, 1, 2, 3, 4] (by decide) rfl
  have hFc := va_free (wc := fb_wX0 cI h0 qf qn qw ql sz mi fg nt wt wl) hD hS hA [0, 1, 2, 3, 4] rfl
  refine fb_callT (vx_runV (As := [.int a1, .int a2, .int a3]) (rest := [.int 0, .ref qo]) ⟨hx, hb, hml, hown, hts⟩ (metX0_fits l hfl D cI h0 qf qn qw ql B0 sz mi fg nt wt wl a1 a2 a3 H.size _ h1) (cwV 3 hts gL_fits_X0_fits rfl rfl rfl (by decide +kernel) ⟨Nat.le_of_ble_eq_true rfl, Nat.le_of_ble_eq_true rfl⟩) (fb_preVM (ci := 0) fb_sXTp hPc hK1 hDc hZT hS hAB hA rfl rfl _) rfl rfl hl.1 rfl (lv_room (Nat.le_of_ble_eq_true rfl)) dL_fits_7 ⟨Nat.le_of_ble_eq_true rfl, Nat.le_of_ble_eq_true rfl⟩) hS (fun q _ h9 => hFc q h9) hFc (fun x3 ce q9 H1 locs hre hP1 hD1 hk1 hS hce hcv hcl => ?_) (fun v2 H1 locs hre hP1 hD1 hk1 hS => ?_)
  · replace h := fb_mter hre h
    obtain ⟨hP, hD⟩ := va_join (wr := [(qo, .inl (cJ, 1, .inr (.inl ob)))]) (w1 := fb_wX0 cI h0 qf qn qw ql sz mi fg nt wt wl) hP hD [0, 1, 2, 3, 4] [5] rfl rfl (by decide) (by decide) hk1 hFc hP1 hD1
    have hP : va_P D vwCl (fb_wL cI cJ h0 qf qn qw ql qo sz mi fg nt wt wl ob) H1 := hP.sub [1, 2, 3, 4, 5, 0] rfl
    have hD : va_D A (fb_wL cI cJ h0 qf qn qw ql qo sz mi fg nt wt wl ob) := hD.sub [1, 2, 3, 4, 5, 0] (by decide) rfl
    by_cases c0 : x3.1 = "java/lang/IndexOutOfBoundsException"
    · replace h := fb_it c0 h
      refine vx_catch (E := x3.1) hown [] ⟨0, 19, 22, 20⟩ [⟨0, 19, 26, 13⟩] (htab.trans rfl) (fun z hz => nomatch hz) rfl (by decide) (hts _ w_c20) (by rw [c0]; exact fb_ca_IndexOutOfBoundsException hZT) hce hcv hcl ?_
      generalize H1 = H at hP hS hce
      refine lv_astore (lv' := [(5, .ref q9), (0, .ref h0), (1, .int a1), (2, .int a2), (3, .int a3), (4, .ref qo)]) hx hb dL_fits_22 hl (by decide) rfl (fun ls hl => ?_)
      refine lv_iconst (v := 1) hx hb dL_fits_24 (by decide) ?_
      obtain ⟨e1, e2⟩ := fb_p2 h
      subst e1
      subst e2
      exact W.iret hx hb hr (fun t ht _ => ⟨⟨0, rfl, by rw [ht]; exact hP, hD⟩, hS.F ht⟩) hS.2.2 dL_fits_25
    replace h := fb_ie c0 h
    by_cases c1 : x3.1 = "java/lang/IllegalArgumentException"
    · replace h := fb_it c1 h
      refine vx_catch (E := x3.1) hown [⟨0, 19, 22, 20⟩] ⟨0, 19, 26, 13⟩ [] (htab.trans rfl) (fun z hz => by rw [List.mem_singleton.mp hz]; exact Or.inr ⟨by decide, _, hts _ w_c20, by rw [c1]; exact fb_nc_IllegalArgumentException_IndexOutOfBoundsException hZT⟩) rfl (by decide) (hts _ w_c13) (by rw [c1]; exact fb_ca_IllegalArgumentException hZT) hce hcv hcl ?_
      generalize H1 = H at hP hS hce
      refine lv_astore (lv' := [(5, .ref q9), (0, .ref h0), (1, .int a1), (2, .int a2), (3, .int a3), (4, .ref qo)]) hx hb dL_fits_26 hl (by decide) rfl (fun ls hl => ?_)
      refine lv_iconst (v := 2) hx hb dL_fits_28 (by decide) ?_
      obtain ⟨e1, e2⟩ := fb_p2 h
      subst e1
      subst e2
      exact W.iret hx hb hr (fun t ht _ => ⟨⟨0, rfl, by rw [ht]; exact hP, hD⟩, hS.F ht⟩) hS.2.2 dL_fits_29
    replace h := fb_ie c1 h
    cases h
  · replace h := fb_mtok hre h
    obtain ⟨hP, hD⟩ := va_join (wr := [(qo, .inl (cJ, 1, .inr (.inl ob)))]) (w1 := fb_wX0 cI h0 qf qn qw ql sz mi fg nt wt wl) hP hD [0, 1, 2, 3, 4] [5] rfl rfl (by decide) (by decide) hk1 hFc hP1 hD1
    have hP : va_P D vwCl (fb_wL cI cJ h0 qf qn qw ql qo sz mi fg nt wt wl ob) H1 := hP.sub [1, 2, 3, 4, 5, 0] rfl
    have hD : va_D A (fb_wL cI cJ h0 qf qn qw ql qo sz mi fg nt wt wl ob) := hD.sub [1, 2, 3, 4, 5, 0] (by decide) rfl
    generalize H1 = H at hP hS
    obtain ⟨j5, hjJ1, h⟩ := fb_b1s h
    have J1 : ∀ (H : Heap) (locs : List Loc), va_P D vwCl (fb_wL cI cJ h0 qf qn qw ql qo sz mi fg nt wt wl ob) H → va_D A (fb_wL cI cJ h0 qf qn qw ql qo sz mi fg nt wt wl ob) → va_S A s.heap H locs → ∀ (ls : Array Slot), lv_has ls 6 [] → W p l e (headSpec wsL_fits rmL_fits).room s m ([.ref h0, .int a1, .int a2, .int a3, .ref qo] : List Value).toArray below meth c H locs 1 6 (MQ below (fb_qM (fun _ => some (.int ro)) (fun _ => fb_wL cI cJ h0 qf qn qw ql qo sz mi fg nt wt wl obo) D A) ([.ref h0, .int a1, .int a2, .int a3, .ref qo] : List Value).toArray s 1 6 A) (F0 m 18 ls [.long j5, .int 0, .ref qo]) := by
      intro H locs hP hD hS ls hl
      refine va_last hx hb hK hP hD hS 5 1 rfl rfl (fb_ixin (by decide)) dL_fits_18 (fun H locs hP hD hS => ?_)
      have hP : va_P D vwCl (fb_wL cI cJ h0 qf qn qw ql qo sz mi fg nt wt wl (vp_updL ob (0 : Int32).toNatClampNeg j5)) H := hP
      have hD : va_D A (fb_wL cI cJ h0 qf qn qw ql qo sz mi fg nt wt wl (vp_updL ob (0 : Int32).toNatClampNeg j5)) := hD
      refine lv_goto (tgt := 30) hx hb dL_fits_19 (by decide) ?_
      refine lv_iconst (v := 0) hx hb dL_fits_30 (by decide) ?_
      obtain ⟨e1, e2⟩ := fb_p2 h
      subst e1
      subst e2
      exact W.iret hx hb hr (fun t ht _ => ⟨⟨0, rfl, by rw [ht]; exact hP, hD⟩, hS.F ht⟩) hS.2.2 dL_fits_31
    replace h := hjJ1
    refine lv_if_eq (tgt := 17) hx hb dL_fits_10 (by decide) (fun c4 => ?_) (fun c4 => ?_)
    · replace h := fb_it c4 h
      refine lv_lconst (v := 0) hx hb dL_fits_17 (by decide) ?_
      have h := Option.some.inj h
      subst h
      exact J1 H locs hP hD hS ls (lv_sub hl [] rfl)
    · replace h := fb_ie c4 h
      refine lv_lconst (v := 1) hx hb dL_fits_13 (by decide) ?_
      refine lv_goto (tgt := 18) hx hb dL_fits_14 (by decide) ?_
      have h := Option.some.inj h
      subst h
      exact J1 H locs hP hD hS ls (lv_sub hl [] rfl)
def fL_ways (sz : Int32) (mi : Int32) (fg : Nat → Int32) (nt : Nat → Int32) (wt : Nat → Int32) (wl : Nat → Int32) (ob : Nat → Int64) (a1 : Int32) : Option (Int32 × (Nat → Int32) × (Nat → Int64)) :=
  fb_b1 (fX0_ways sz mi fg nt wt wl a1) (fun re =>
  fb_mt re (fun v2 => some (0, v2.2, vp_updL ob (0 : Int32).toNatClampNeg v2.1.toInt64)) (fun x3 => if x3.1 = "java/lang/IndexOutOfBoundsException" then some (1, x3.2, ob) else none))
abbrev rmL_ways : Room := { frames := 7, cells := 1, slots := 6, locals := 119 }
set_option maxHeartbeats 8000000 in
set_option maxRecDepth 100000 in
theorem metL_ways (l : Launch) (hfl : l.stackTraces = false) (D : va_G) (cI cJ : ClassId) (h0 qf qn qw ql qo B0 : Nat) (sz : Int32) (mi : Int32) (fg : Nat → Int32) (nt : Nat → Int32) (wt : Nat → Int32) (wl : Nat → Int32) (ob : Nat → Int64) (a1 : Int32) (hz : Nat) (ro : Int32) (wlo : Nat → Int32) (obo : Nat → Int64) (h : fL_ways sz mi fg nt wt wl ob a1 = some (ro, wlo, obo)) : Met l yL_ways wsL_ways rmL_ways (va_Pc [.ref h0, .int a1, .ref qo] (fb_pm D [(cI, .int), (cJ, .long)] B0 fb_sXT (fb_wL cI cJ h0 qf qn qw ql qo sz mi fg nt wt wl ob) hz)) (fb_qM (fun _ => some (.int ro)) (fun _ => fb_wL cI cJ h0 qf qn qw ql qo sz mi fg nt wt wlo obo) D (va_A (fb_wL cI cJ h0 qf qn qw ql qo sz mi fg nt wt wl ob) hz)) 1 6 (va_A (fb_wL cI cJ h0 qf qn qw ql qo sz mi fg nt wt wl ob) hz) := by
  refine va_MetW (cc := cL_ways) (maxL := 4) (ret := (some .int)) (hh := [(0, 9, 12, 20)]) (by decide) rfl ?_
  intro p e s m args below meth c s₁ B hml hv
  obtain ⟨rfl, hsz, ⟨hP, hK, hZT⟩, hD0, hAB⟩ := hv
  have hx := B.exec
  have hb := B.bytes
  have hr := B.returns
  have hts := atoms_spec (ws := wsL_ways) B.pre
  have hown : s.vm.findClass RL = some m.cls := findClass_of_methodNamed B.named
  have hlocks := B.notSynchronized
  have htab := vx_table (x := yL_ways) B (hts _ List.mem_cons_self)
  subst hsz
  have hD := hD0.self (sz := s.heap.size)
  generalize hAe : va_A (fb_wL cI cJ h0 qf qn qw ql qo sz mi fg nt wt wl ob) s.heap.size = A at hD hAB ⊢
  have hA : ∀ q : Nat, s.heap.size ≤ q → A q := fun q h9 => by rw [← hAe]; exact Or.inr h9
  have hS : va_S A s.heap s.heap [] := va_S.rf
  have hP : va_P D vwCl (fb_wL cI cJ h0 qf qn qw ql qo sz mi fg nt wt wl ob) s.heap := hP
  have hZ := hZT.1
  have hK1 : va_K D vwCl [(cI, .int)] s := hK.sub [0] rfl
  have w_c20 : (Cond.classLink RL 20 "java/lang/IndexOutOfBoundsException") ∈ wsL_ways := List.mem_of_getElem? (i := 1) rfl
  have hl := lv_entry ([.ref h0, .int a1, .ref qo]) (n := 4) (Nat.le_of_ble_eq_true rfl)
  rw [lg_entry_eq]
  generalize (lg_sl ([.ref h0, .int a1, .ref qo]) ++ List.replicate (4 - (lg_sl ([.ref h0, .int a1, .ref qo])).length) Slot.unset).toArray = ls at hl ⊢
  have hl : lv_has ls 4 [(0, .ref h0), (1, .int a1), (2, .ref qo)] := hl
  suffices K : ∀ (H : Heap) (locs : List Loc), va_P D vwCl (fb_wL cI cJ h0 qf qn qw ql qo sz mi fg nt wt wl ob) H → va_S A s.heap H locs → W p l e (headSpec wsL_ways rmL_ways).room s m ([.ref h0, .int a1, .ref qo] : List Value).toArray below meth c H locs 0 0 (MQ below (fb_qM (fun _ => some (.int ro)) (fun _ => fb_wL cI cJ h0 qf qn qw ql qo sz mi fg nt wt wlo obo) D A) ([.ref h0, .int a1, .ref qo] : List Value).toArray s 1 6 A) (F0 m 0 ls []) from K s.heap [] hP hS
  intro H locs hP hS
  unfold fL_ways at h
  refine lv_aload_n hx hb dL_ways_0 rfl (lv_at hl 2 rfl) ?_
  refine lv_iconst (v := 0) hx hb dL_ways_1 (by decide) ?_
  refine lv_aload_n hx hb dL_ways_2 rfl (lv_at hl 0 rfl) ?_
  refine lv_iload_n hx hb dL_ways_3 rfl (lv_at hl 1 rfl) ?_
  obtain ⟨re, h1, h⟩ := fb_b1s h
  have hPc : va_P D vwCl (fb_wX0 cI h0 qf qn qw ql sz mi fg nt wt wl) H := hP.sub [0, 1, 2, 3, 4] rfl
  have hDc : va_D A (fb_wX0 cI h0 qf qn qw ql sz mi fg nt wt wl) := hD.sub [0, 1, 2, 3, 4] (by decide) rfl
  have hFc := va_free (wc := fb_wX0 cI h0 qf qn qw ql sz mi fg nt wt wl) hD hS hA [0, 1, 2, 3, 4] rfl
  refine fb_callT (vx_runV (As := [.int a1]) (rest := [.int 0, .ref qo]) ⟨hx, hb, hml, hown, hts⟩ (metX0_ways l hfl D cI h0 qf qn qw ql B0 sz mi fg nt wt wl a1 H.size _ h1) (cwV 1 hts gL_ways_X0_ways rfl rfl rfl (by decide +kernel) ⟨Nat.le_of_ble_eq_true rfl, Nat.le_of_ble_eq_true rfl⟩) (fb_preVM (ci := 0) fb_sXTp hPc hK1 hDc hZT hS hAB hA rfl rfl _) rfl rfl hl.1 rfl (lv_room (Nat.le_of_ble_eq_true rfl)) dL_ways_4 ⟨Nat.le_of_ble_eq_true rfl, Nat.le_of_ble_eq_true rfl⟩) hS (fun q _ h9 => hFc q h9) hFc (fun x3 ce q9 H1 locs hre hP1 hD1 hk1 hS hce hcv hcl => ?_) (fun v2 H1 locs hre hP1 hD1 hk1 hS => ?_)
  · replace h := fb_mter hre h
    obtain ⟨hP, hD⟩ := va_join (wr := [(qo, .inl (cJ, 1, .inr (.inl ob)))]) (w1 := fb_wX0 cI h0 qf qn qw ql sz mi fg nt wt x3.2) hP hD [0, 1, 2, 3, 4] [5] rfl rfl (by decide) (by decide) hk1 hFc hP1 hD1
    have hP : va_P D vwCl (fb_wL cI cJ h0 qf qn qw ql qo sz mi fg nt wt x3.2 ob) H1 := hP.sub [1, 2, 3, 4, 5, 0] rfl
    have hD : va_D A (fb_wL cI cJ h0 qf qn qw ql qo sz mi fg nt wt x3.2 ob) := hD.sub [1, 2, 3, 4, 5, 0] (by decide) rfl
    by_cases c0 : x3.1 = "java/lang/IndexOutOfBoundsException"
    · replace h := fb_it c0 h
      refine vx_catch (E := x3.1) hown [] ⟨0, 9, 12, 20⟩ [] (htab.trans rfl) (fun z hz => nomatch hz) rfl (by decide) (hts _ w_c20) (by rw [c0]; exact fb_ca_IndexOutOfBoundsException hZT) hce hcv hcl ?_
      generalize H1 = H at hP hS hce
      refine lv_astore_n (lv' := [(3, .ref q9), (0, .ref h0), (1, .int a1), (2, .ref qo)]) hx hb dL_ways_12 rfl hl (by decide) rfl (fun ls hl => ?_)
      refine lv_iconst (v := 1) hx hb dL_ways_13 (by decide) ?_
      obtain ⟨e1, e2, e3⟩ := fb_p3 h
      subst e1
      subst e2
      subst e3
      exact W.iret hx hb hr (fun t ht _ => ⟨⟨0, rfl, by rw [ht]; exact hP, hD⟩, hS.F ht⟩) hS.2.2 dL_ways_14
    replace h := fb_ie c0 h
    cases h
  · replace h := fb_mtok hre h
    obtain ⟨hP, hD⟩ := va_join (wr := [(qo, .inl (cJ, 1, .inr (.inl ob)))]) (w1 := fb_wX0 cI h0 qf qn qw ql sz mi fg nt wt v2.2) hP hD [0, 1, 2, 3, 4] [5] rfl rfl (by decide) (by decide) hk1 hFc hP1 hD1
    have hP : va_P D vwCl (fb_wL cI cJ h0 qf qn qw ql qo sz mi fg nt wt v2.2 ob) H1 := hP.sub [1, 2, 3, 4, 5, 0] rfl
    have hD : va_D A (fb_wL cI cJ h0 qf qn qw ql qo sz mi fg nt wt v2.2 ob) := hD.sub [1, 2, 3, 4, 5, 0] (by decide) rfl
    generalize H1 = H at hP hS
    refine lv_i2l hx hb dL_ways_7 rfl ?_
    refine va_last hx hb hK hP hD hS 5 1 rfl rfl (fb_ixin (by decide)) dL_ways_8 (fun H locs hP hD hS => ?_)
    have hP : va_P D vwCl (fb_wL cI cJ h0 qf qn qw ql qo sz mi fg nt wt v2.2 (vp_updL ob (0 : Int32).toNatClampNeg v2.1.toInt64)) H := hP
    have hD : va_D A (fb_wL cI cJ h0 qf qn qw ql qo sz mi fg nt wt v2.2 (vp_updL ob (0 : Int32).toNatClampNeg v2.1.toInt64)) := hD
    refine lv_goto (tgt := 15) hx hb dL_ways_9 (by decide) ?_
    refine lv_iconst (v := 0) hx hb dL_ways_15 (by decide) ?_
    obtain ⟨e1, e2, e3⟩ := fb_p3 h
    subst e1
    subst e2
    subst e3
    exact W.iret hx hb hr (fun t ht _ => ⟨⟨0, rfl, by rw [ht]; exact hP, hD⟩, hS.F ht⟩) hS.2.2 dL_ways_16
def fL_would (sz : Int32) (mi : Int32) (fg : Nat → Int32) (nt : Nat → Int32) (wt : Nat → Int32) (wl : Nat → Int32) (ob : Nat → Int64) (a1 : Int32) (a2 : Int32) (a3 : Int32) : Option (Int32 × (Nat → Int32) × (Nat → Int64)) :=
  fb_b1 (fX0_would sz mi fg nt wt wl a1 a2 a3) (fun re =>
  fb_mt re (fun v2 => some (0, v2.2, vp_updL ob (0 : Int32).toNatClampNeg v2.1.toInt64)) (fun x3 => if x3.1 = "java/lang/IndexOutOfBoundsException" then some (1, x3.2, ob) else if x3.1 = "java/lang/IllegalArgumentException" then some (2, x3.2, ob) else none))
abbrev rmL_would : Room := { frames := 7, cells := 1, slots := 6, locals := 166 }
set_option maxHeartbeats 8000000 in
set_option maxRecDepth 100000 in
theorem metL_would (l : Launch) (hfl : l.stackTraces = false) (D : va_G) (cI cJ : ClassId) (h0 qf qn qw ql qo B0 : Nat) (sz : Int32) (mi : Int32) (fg : Nat → Int32) (nt : Nat → Int32) (wt : Nat → Int32) (wl : Nat → Int32) (ob : Nat → Int64) (a1 : Int32) (a2 : Int32) (a3 : Int32) (hz : Nat) (ro : Int32) (nto : Nat → Int32) (obo : Nat → Int64) (h : fL_would sz mi fg nt wt wl ob a1 a2 a3 = some (ro, nto, obo)) : Met l yL_would wsL_would rmL_would (va_Pc [.ref h0, .int a1, .int a2, .int a3, .ref qo] (fb_pm D [(cI, .int), (cJ, .long)] B0 fb_sXT (fb_wL cI cJ h0 qf qn qw ql qo sz mi fg nt wt wl ob) hz)) (fb_qM (fun _ => some (.int ro)) (fun _ => fb_wL cI cJ h0 qf qn qw ql qo sz mi fg nto wt wl obo) D (va_A (fb_wL cI cJ h0 qf qn qw ql qo sz mi fg nt wt wl ob) hz)) 1 6 (va_A (fb_wL cI cJ h0 qf qn qw ql qo sz mi fg nt wt wl ob) hz) := by
  refine va_MetW (cc := cL_would) (maxL := 6) (ret := (some .int)) (hh := [(0, 12, 15, 20), (0, 12, 19, 13)]) (by decide) rfl ?_
  intro p e s m args below meth c s₁ B hml hv
  obtain ⟨rfl, hsz, ⟨hP, hK, hZT⟩, hD0, hAB⟩ := hv
  have hx := B.exec
  have hb := B.bytes
  have hr := B.returns
  have hts := atoms_spec (ws := wsL_would) B.pre
  have hown : s.vm.findClass RL = some m.cls := findClass_of_methodNamed B.named
  have hlocks := B.notSynchronized
  have htab := vx_table (x := yL_would) B (hts _ List.mem_cons_self)
  subst hsz
  have hD := hD0.self (sz := s.heap.size)
  generalize hAe : va_A (fb_wL cI cJ h0 qf qn qw ql qo sz mi fg nt wt wl ob) s.heap.size = A at hD hAB ⊢
  have hA : ∀ q : Nat, s.heap.size ≤ q → A q := fun q h9 => by rw [← hAe]; exact Or.inr h9
  have hS : va_S A s.heap s.heap [] := va_S.rf
  have hP : va_P D vwCl (fb_wL cI cJ h0 qf qn qw ql qo sz mi fg nt wt wl ob) s.heap := hP
  have hZ := hZT.1
  have hK1 : va_K D vwCl [(cI, .int)] s := hK.sub [0] rfl
  have w_c13 : (Cond.classLink RL 13 "java/lang/IllegalArgumentException") ∈ wsL_would := List.mem_of_getElem? (i := 2) rfl
  have w_c20 : (Cond.classLink RL 20 "java/lang/IndexOutOfBoundsException") ∈ wsL_would := List.mem_of_getElem? (i := 1) rfl
  have hl := lv_entry ([.ref h0, .int a1, .int a2, .int a3, .ref qo]) (n := 6) (Nat.le_of_ble_eq_true rfl)
  rw [lg_entry_eq]
  generalize (lg_sl ([.ref h0, .int a1, .int a2, .int a3, .ref qo]) ++ List.replicate (6 - (lg_sl ([.ref h0, .int a1, .int a2, .int a3, .ref qo])).length) Slot.unset).toArray = ls at hl ⊢
  have hl : lv_has ls 6 [(0, .ref h0), (1, .int a1), (2, .int a2), (3, .int a3), (4, .ref qo)] := hl
  suffices K : ∀ (H : Heap) (locs : List Loc), va_P D vwCl (fb_wL cI cJ h0 qf qn qw ql qo sz mi fg nt wt wl ob) H → va_S A s.heap H locs → W p l e (headSpec wsL_would rmL_would).room s m ([.ref h0, .int a1, .int a2, .int a3, .ref qo] : List Value).toArray below meth c H locs 0 0 (MQ below (fb_qM (fun _ => some (.int ro)) (fun _ => fb_wL cI cJ h0 qf qn qw ql qo sz mi fg nto wt wl obo) D A) ([.ref h0, .int a1, .int a2, .int a3, .ref qo] : List Value).toArray s 1 6 A) (F0 m 0 ls []) from K s.heap [] hP hS
  intro H locs hP hS
  unfold fL_would at h
  refine lv_aload hx hb dL_would_0 (lv_at hl 4 rfl) ?_
  refine lv_iconst (v := 0) hx hb dL_would_2 (by decide) ?_
  refine lv_aload_n hx hb dL_would_3 rfl (lv_at hl 0 rfl) ?_
  refine lv_iload_n hx hb dL_would_4 rfl (lv_at hl 1 rfl) ?_
  refine lv_iload_n hx hb dL_would_5 rfl (lv_at hl 2 rfl) ?_
  refine lv_iload_n hx hb dL_would_6 rfl (lv_at hl 3 rfl) ?_
  obtain ⟨re, h1, h⟩ := fb_b1s h
  have hPc : va_P D vwCl (fb_wX0 cI h0 qf qn qw ql sz mi fg nt wt wl) H := hP.sub [0, 1, 2, 3, 4] rfl
  have hDc : va_D A (fb_wX0 cI h0 qf qn qw ql sz mi fg nt wt wl) := hD.sub [0, 1, 2, 3, 4] (by decide) rfl
  have hFc := va_free (wc := fb_wX0 cI h0 qf qn qw ql sz mi fg nt wt wl) hD hS hA [0, 1, 2, 3, 4] rfl
  refine fb_callT (vx_runV (As := [.int a1, .int a2, .int a3]) (rest := [.int 0, .ref qo]) ⟨hx, hb, hml, hown, hts⟩ (metX0_would l hfl D cI h0 qf qn qw ql B0 sz mi fg nt wt wl a1 a2 a3 H.size _ h1) (cwV 3 hts gL_would_X0_would rfl rfl rfl (by decide +kernel) ⟨Nat.le_of_ble_eq_true rfl, Nat.le_of_ble_eq_true rfl⟩) (fb_preVM (ci := 0) fb_sXTp hPc hK1 hDc hZT hS hAB hA rfl rfl _) rfl rfl hl.1 rfl (lv_room (Nat.le_of_ble_eq_true rfl)) dL_would_7 ⟨Nat.le_of_ble_eq_true rfl, Nat.le_of_ble_eq_true rfl⟩) hS (fun q _ h9 => hFc q h9) hFc (fun x3 ce q9 H1 locs hre hP1 hD1 hk1 hS hce hcv hcl => ?_) (fun v2 H1 locs hre hP1 hD1 hk1 hS => ?_)
  · replace h := fb_mter hre h
    obtain ⟨hP, hD⟩ := va_join (wr := [(qo, .inl (cJ, 1, .inr (.inl ob)))]) (w1 := fb_wX0 cI h0 qf qn qw ql sz mi fg x3.2 wt wl) hP hD [0, 1, 2, 3, 4] [5] rfl rfl (by decide) (by decide) hk1 hFc hP1 hD1
    have hP : va_P D vwCl (fb_wL cI cJ h0 qf qn qw ql qo sz mi fg x3.2 wt wl ob) H1 := hP.sub [1, 2, 3, 4, 5, 0] rfl
    have hD : va_D A (fb_wL cI cJ h0 qf qn qw ql qo sz mi fg x3.2 wt wl ob) := hD.sub [1, 2, 3, 4, 5, 0] (by decide) rfl
    by_cases c0 : x3.1 = "java/lang/IndexOutOfBoundsException"
    · replace h := fb_it c0 h
      refine vx_catch (E := x3.1) hown [] ⟨0, 12, 15, 20⟩ [⟨0, 12, 19, 13⟩] (htab.trans rfl) (fun z hz => nomatch hz) rfl (by decide) (hts _ w_c20) (by rw [c0]; exact fb_ca_IndexOutOfBoundsException hZT) hce hcv hcl ?_
      generalize H1 = H at hP hS hce
      refine lv_astore (lv' := [(5, .ref q9), (0, .ref h0), (1, .int a1), (2, .int a2), (3, .int a3), (4, .ref qo)]) hx hb dL_would_15 hl (by decide) rfl (fun ls hl => ?_)
      refine lv_iconst (v := 1) hx hb dL_would_17 (by decide) ?_
      obtain ⟨e1, e2, e3⟩ := fb_p3 h
      subst e1
      subst e2
      subst e3
      exact W.iret hx hb hr (fun t ht _ => ⟨⟨0, rfl, by rw [ht]; exact hP, hD⟩, hS.F ht⟩) hS.2.2 dL_would_18
    replace h := fb_ie c0 h
    by_cases c1 : x3.1 = "java/lang/IllegalArgumentException"
    · replace h := fb_it c1 h
      refine vx_catch (E := x3.1) hown [⟨0, 12, 15, 20⟩] ⟨0, 12, 19, 13⟩ [] (htab.trans rfl) (fun z hz => by rw [List.mem_singleton.mp hz]; exact Or.inr ⟨by decide, _, hts _ w_c20, by rw [c1]; exact fb_nc_IllegalArgumentException_IndexOutOfBoundsException hZT⟩) rfl (by decide) (hts _ w_c13) (by rw [c1]; exact fb_ca_IllegalArgumentException hZT) hce hcv hcl ?_
      generalize H1 = H at hP hS hce
      refine lv_astore (lv' := [(5, .ref q9), (0, .ref h0), (1, .int a1), (2, .int a2), (3, .int a3), (4, .ref qo)]) hx hb dL_would_19 hl (by decide) rfl (fun ls hl => ?_)
      refine lv_iconst (v := 2) hx hb dL_would_21 (by decide) ?_
      obtain ⟨e1, e2, e3⟩ := fb_p3 h
      subst e1
      subst e2
      subst e3
      exact W.iret hx hb hr (fun t ht _ => ⟨⟨0, rfl, by rw [ht]; exact hP, hD⟩, hS.F ht⟩) hS.2.2 dL_would_22
    replace h := fb_ie c1 h
    cases h
  · replace h := fb_mtok hre h
    obtain ⟨hP, hD⟩ := va_join (wr := [(qo, .inl (cJ, 1, .inr (.inl ob)))]) (w1 := fb_wX0 cI h0 qf qn qw ql sz mi fg v2.2 wt wl) hP hD [0, 1, 2, 3, 4] [5] rfl rfl (by decide) (by decide) hk1 hFc hP1 hD1
    have hP : va_P D vwCl (fb_wL cI cJ h0 qf qn qw ql qo sz mi fg v2.2 wt wl ob) H1 := hP.sub [1, 2, 3, 4, 5, 0] rfl
    have hD : va_D A (fb_wL cI cJ h0 qf qn qw ql qo sz mi fg v2.2 wt wl ob) := hD.sub [1, 2, 3, 4, 5, 0] (by decide) rfl
    generalize H1 = H at hP hS
    refine lv_i2l hx hb dL_would_10 rfl ?_
    refine va_last hx hb hK hP hD hS 5 1 rfl rfl (fb_ixin (by decide)) dL_would_11 (fun H locs hP hD hS => ?_)
    have hP : va_P D vwCl (fb_wL cI cJ h0 qf qn qw ql qo sz mi fg v2.2 wt wl (vp_updL ob (0 : Int32).toNatClampNeg v2.1.toInt64)) H := hP
    have hD : va_D A (fb_wL cI cJ h0 qf qn qw ql qo sz mi fg v2.2 wt wl (vp_updL ob (0 : Int32).toNatClampNeg v2.1.toInt64)) := hD
    refine lv_goto (tgt := 23) hx hb dL_would_12 (by decide) ?_
    refine lv_iconst (v := 0) hx hb dL_would_23 (by decide) ?_
    obtain ⟨e1, e2, e3⟩ := fb_p3 h
    subst e1
    subst e2
    subst e3
    exact W.iret hx hb hr (fun t ht _ => ⟨⟨0, rfl, by rw [ht]; exact hP, hD⟩, hS.F ht⟩) hS.2.2 dL_would_24
def fL_best (sz : Int32) (mi : Int32) (fg : Nat → Int32) (nt : Nat → Int32) (wt : Nat → Int32) (wl : Nat → Int32) (ob : Nat → Int64) (a1 : Int32) : Option (Int32 × (Nat → Int32) × (Nat → Int32) × (Nat → Int64)) :=
  fb_b1 (fX0_best sz mi fg nt wt wl a1) (fun re =>
  fb_mt re (fun v2 => some (0, v2.2.1, v2.2.2, vp_updL ob (0 : Int32).toNatClampNeg v2.1.toInt64)) (fun x3 => if x3.1 = "java/lang/IndexOutOfBoundsException" then some (1, x3.2.1, x3.2.2, ob) else none))
abbrev rmL_best : Room := { frames := 7, cells := 1, slots := 6, locals := 168 }
set_option maxHeartbeats 8000000 in
set_option maxRecDepth 100000 in
theorem metL_best (l : Launch) (hfl : l.stackTraces = false) (D : va_G) (cI cJ : ClassId) (h0 qf qn qw ql qo B0 : Nat) (sz : Int32) (mi : Int32) (fg : Nat → Int32) (nt : Nat → Int32) (wt : Nat → Int32) (wl : Nat → Int32) (ob : Nat → Int64) (a1 : Int32) (hz : Nat) (ro : Int32) (nto : Nat → Int32) (wlo : Nat → Int32) (obo : Nat → Int64) (h : fL_best sz mi fg nt wt wl ob a1 = some (ro, nto, wlo, obo)) : Met l yL_best wsL_best rmL_best (va_Pc [.ref h0, .int a1, .ref qo] (fb_pm D [(cI, .int), (cJ, .long)] B0 fb_sXT (fb_wL cI cJ h0 qf qn qw ql qo sz mi fg nt wt wl ob) hz)) (fb_qM (fun _ => some (.int ro)) (fun _ => fb_wL cI cJ h0 qf qn qw ql qo sz mi fg nto wt wlo obo) D (va_A (fb_wL cI cJ h0 qf qn qw ql qo sz mi fg nt wt wl ob) hz)) 1 6 (va_A (fb_wL cI cJ h0 qf qn qw ql qo sz mi fg nt wt wl ob) hz) := by
  refine va_MetW (cc := cL_best) (maxL := 4) (ret := (some .int)) (hh := [(0, 9, 12, 20)]) (by decide) rfl ?_
  intro p e s m args below meth c s₁ B hml hv
  obtain ⟨rfl, hsz, ⟨hP, hK, hZT⟩, hD0, hAB⟩ := hv
  have hx := B.exec
  have hb := B.bytes
  have hr := B.returns
  have hts := atoms_spec (ws := wsL_best) B.pre
  have hown : s.vm.findClass RL = some m.cls := findClass_of_methodNamed B.named
  have hlocks := B.notSynchronized
  have htab := vx_table (x := yL_best) B (hts _ List.mem_cons_self)
  subst hsz
  have hD := hD0.self (sz := s.heap.size)
  generalize hAe : va_A (fb_wL cI cJ h0 qf qn qw ql qo sz mi fg nt wt wl ob) s.heap.size = A at hD hAB ⊢
  have hA : ∀ q : Nat, s.heap.size ≤ q → A q := fun q h9 => by rw [← hAe]; exact Or.inr h9
  have hS : va_S A s.heap s.heap [] := va_S.rf
  have hP : va_P D vwCl (fb_wL cI cJ h0 qf qn qw ql qo sz mi fg nt wt wl ob) s.heap := hP
  have hZ := hZT.1
  have hK1 : va_K D vwCl [(cI, .int)] s := hK.sub [0] rfl
  have w_c20 : (Cond.classLink RL 20 "java/lang/IndexOutOfBoundsException") ∈ wsL_best := List.mem_of_getElem? (i := 1) rfl
  have hl := lv_entry ([.ref h0, .int a1, .ref qo]) (n := 4) (Nat.le_of_ble_eq_true rfl)
  rw [lg_entry_eq]
  generalize (lg_sl ([.ref h0, .int a1, .ref qo]) ++ List.replicate (4 - (lg_sl ([.ref h0, .int a1, .ref qo])).length) Slot.unset).toArray = ls at hl ⊢
  have hl : lv_has ls 4 [(0, .ref h0), (1, .int a1), (2, .ref qo)] := hl
  suffices K : ∀ (H : Heap) (locs : List Loc), va_P D vwCl (fb_wL cI cJ h0 qf qn qw ql qo sz mi fg nt wt wl ob) H → va_S A s.heap H locs → W p l e (headSpec wsL_best rmL_best).room s m ([.ref h0, .int a1, .ref qo] : List Value).toArray below meth c H locs 0 0 (MQ below (fb_qM (fun _ => some (.int ro)) (fun _ => fb_wL cI cJ h0 qf qn qw ql qo sz mi fg nto wt wlo obo) D A) ([.ref h0, .int a1, .ref qo] : List Value).toArray s 1 6 A) (F0 m 0 ls []) from K s.heap [] hP hS
  intro H locs hP hS
  unfold fL_best at h
  refine lv_aload_n hx hb dL_best_0 rfl (lv_at hl 2 rfl) ?_
  refine lv_iconst (v := 0) hx hb dL_best_1 (by decide) ?_
  refine lv_aload_n hx hb dL_best_2 rfl (lv_at hl 0 rfl) ?_
  refine lv_iload_n hx hb dL_best_3 rfl (lv_at hl 1 rfl) ?_
  obtain ⟨re, h1, h⟩ := fb_b1s h
  have hPc : va_P D vwCl (fb_wX0 cI h0 qf qn qw ql sz mi fg nt wt wl) H := hP.sub [0, 1, 2, 3, 4] rfl
  have hDc : va_D A (fb_wX0 cI h0 qf qn qw ql sz mi fg nt wt wl) := hD.sub [0, 1, 2, 3, 4] (by decide) rfl
  have hFc := va_free (wc := fb_wX0 cI h0 qf qn qw ql sz mi fg nt wt wl) hD hS hA [0, 1, 2, 3, 4] rfl
  refine fb_callT (vx_runV (As := [.int a1]) (rest := [.int 0, .ref qo]) ⟨hx, hb, hml, hown, hts⟩ (metX0_best l hfl D cI h0 qf qn qw ql B0 sz mi fg nt wt wl a1 H.size _ h1) (cwV 1 hts gL_best_X0_best rfl rfl rfl (by decide +kernel) ⟨Nat.le_of_ble_eq_true rfl, Nat.le_of_ble_eq_true rfl⟩) (fb_preVM (ci := 0) fb_sXTp hPc hK1 hDc hZT hS hAB hA rfl rfl _) rfl rfl hl.1 rfl (lv_room (Nat.le_of_ble_eq_true rfl)) dL_best_4 ⟨Nat.le_of_ble_eq_true rfl, Nat.le_of_ble_eq_true rfl⟩) hS (fun q _ h9 => hFc q h9) hFc (fun x3 ce q9 H1 locs hre hP1 hD1 hk1 hS hce hcv hcl => ?_) (fun v2 H1 locs hre hP1 hD1 hk1 hS => ?_)
  · replace h := fb_mter hre h
    obtain ⟨hP, hD⟩ := va_join (wr := [(qo, .inl (cJ, 1, .inr (.inl ob)))]) (w1 := fb_wX0 cI h0 qf qn qw ql sz mi fg x3.2.1 wt x3.2.2) hP hD [0, 1, 2, 3, 4] [5] rfl rfl (by decide) (by decide) hk1 hFc hP1 hD1
    have hP : va_P D vwCl (fb_wL cI cJ h0 qf qn qw ql qo sz mi fg x3.2.1 wt x3.2.2 ob) H1 := hP.sub [1, 2, 3, 4, 5, 0] rfl
    have hD : va_D A (fb_wL cI cJ h0 qf qn qw ql qo sz mi fg x3.2.1 wt x3.2.2 ob) := hD.sub [1, 2, 3, 4, 5, 0] (by decide) rfl
    by_cases c0 : x3.1 = "java/lang/IndexOutOfBoundsException"
    · replace h := fb_it c0 h
      refine vx_catch (E := x3.1) hown [] ⟨0, 9, 12, 20⟩ [] (htab.trans rfl) (fun z hz => nomatch hz) rfl (by decide) (hts _ w_c20) (by rw [c0]; exact fb_ca_IndexOutOfBoundsException hZT) hce hcv hcl ?_
      generalize H1 = H at hP hS hce
      refine lv_astore_n (lv' := [(3, .ref q9), (0, .ref h0), (1, .int a1), (2, .ref qo)]) hx hb dL_best_12 rfl hl (by decide) rfl (fun ls hl => ?_)
      refine lv_iconst (v := 1) hx hb dL_best_13 (by decide) ?_
      obtain ⟨e1, e2, e3, e4⟩ := fb_p4 h
      subst e1
      subst e2
      subst e3
      subst e4
      exact W.iret hx hb hr (fun t ht _ => ⟨⟨0, rfl, by rw [ht]; exact hP, hD⟩, hS.F ht⟩) hS.2.2 dL_best_14
    replace h := fb_ie c0 h
    cases h
  · replace h := fb_mtok hre h
    obtain ⟨hP, hD⟩ := va_join (wr := [(qo, .inl (cJ, 1, .inr (.inl ob)))]) (w1 := fb_wX0 cI h0 qf qn qw ql sz mi fg v2.2.1 wt v2.2.2) hP hD [0, 1, 2, 3, 4] [5] rfl rfl (by decide) (by decide) hk1 hFc hP1 hD1
    have hP : va_P D vwCl (fb_wL cI cJ h0 qf qn qw ql qo sz mi fg v2.2.1 wt v2.2.2 ob) H1 := hP.sub [1, 2, 3, 4, 5, 0] rfl
    have hD : va_D A (fb_wL cI cJ h0 qf qn qw ql qo sz mi fg v2.2.1 wt v2.2.2 ob) := hD.sub [1, 2, 3, 4, 5, 0] (by decide) rfl
    generalize H1 = H at hP hS
    refine lv_i2l hx hb dL_best_7 rfl ?_
    refine va_last hx hb hK hP hD hS 5 1 rfl rfl (fb_ixin (by decide)) dL_best_8 (fun H locs hP hD hS => ?_)
    have hP : va_P D vwCl (fb_wL cI cJ h0 qf qn qw ql qo sz mi fg v2.2.1 wt v2.2.2 (vp_updL ob (0 : Int32).toNatClampNeg v2.1.toInt64)) H := hP
    have hD : va_D A (fb_wL cI cJ h0 qf qn qw ql qo sz mi fg v2.2.1 wt v2.2.2 (vp_updL ob (0 : Int32).toNatClampNeg v2.1.toInt64)) := hD
    refine lv_goto (tgt := 15) hx hb dL_best_9 (by decide) ?_
    refine lv_iconst (v := 0) hx hb dL_best_15 (by decide) ?_
    obtain ⟨e1, e2, e3, e4⟩ := fb_p4 h
    subst e1
    subst e2
    subst e3
    subst e4
    exact W.iret hx hb hr (fun t ht _ => ⟨⟨0, rfl, by rw [ht]; exact hP, hD⟩, hS.F ht⟩) hS.2.2 dL_best_16
def fL_advise (sz : Int32) (mi : Int32) (fg : Nat → Int32) (nt : Nat → Int32) (wt : Nat → Int32) (wl : Nat → Int32) (ob : Nat → Int64) (a1 : Int32) : Option (Int32 × (Nat → Int32) × (Nat → Int32) × (Nat → Int32) × (Nat → Int64)) :=
  fb_b1 (fX0_advise sz mi fg nt wt wl a1) (fun re =>
  fb_mt re (fun v2 => some (0, v2.2.1, v2.2.2.1, v2.2.2.2, vp_updL ob (0 : Int32).toNatClampNeg v2.1.toInt64)) (fun x3 => if x3.1 = "java/lang/IndexOutOfBoundsException" then some (1, x3.2.1, x3.2.2.1, x3.2.2.2, ob) else none))
abbrev rmL_advise : Room := { frames := 7, cells := 1, slots := 6, locals := 177 }
set_option maxHeartbeats 8000000 in
set_option maxRecDepth 100000 in
theorem metL_advise (l : Launch) (hfl : l.stackTraces = false) (D : va_G) (cI cJ : ClassId) (h0 qf qn qw ql qo B0 : Nat) (sz : Int32) (mi : Int32) (fg : Nat → Int32) (nt : Nat → Int32) (wt : Nat → Int32) (wl : Nat → Int32) (ob : Nat → Int64) (a1 : Int32) (hz : Nat) (ro : Int32) (fgo : Nat → Int32) (nto : Nat → Int32) (wlo : Nat → Int32) (obo : Nat → Int64) (h : fL_advise sz mi fg nt wt wl ob a1 = some (ro, fgo, nto, wlo, obo)) : Met l yL_advise wsL_advise rmL_advise (va_Pc [.ref h0, .int a1, .ref qo] (fb_pm D [(cI, .int), (cJ, .long)] B0 fb_sXT (fb_wL cI cJ h0 qf qn qw ql qo sz mi fg nt wt wl ob) hz)) (fb_qM (fun _ => some (.int ro)) (fun _ => fb_wL cI cJ h0 qf qn qw ql qo sz mi fgo nto wt wlo obo) D (va_A (fb_wL cI cJ h0 qf qn qw ql qo sz mi fg nt wt wl ob) hz)) 1 6 (va_A (fb_wL cI cJ h0 qf qn qw ql qo sz mi fg nt wt wl ob) hz) := by
  refine va_MetW (cc := cL_advise) (maxL := 4) (ret := (some .int)) (hh := [(0, 9, 12, 20)]) (by decide) rfl ?_
  intro p e s m args below meth c s₁ B hml hv
  obtain ⟨rfl, hsz, ⟨hP, hK, hZT⟩, hD0, hAB⟩ := hv
  have hx := B.exec
  have hb := B.bytes
  have hr := B.returns
  have hts := atoms_spec (ws := wsL_advise) B.pre
  have hown : s.vm.findClass RL = some m.cls := findClass_of_methodNamed B.named
  have hlocks := B.notSynchronized
  have htab := vx_table (x := yL_advise) B (hts _ List.mem_cons_self)
  subst hsz
  have hD := hD0.self (sz := s.heap.size)
  generalize hAe : va_A (fb_wL cI cJ h0 qf qn qw ql qo sz mi fg nt wt wl ob) s.heap.size = A at hD hAB ⊢
  have hA : ∀ q : Nat, s.heap.size ≤ q → A q := fun q h9 => by rw [← hAe]; exact Or.inr h9
  have hS : va_S A s.heap s.heap [] := va_S.rf
  have hP : va_P D vwCl (fb_wL cI cJ h0 qf qn qw ql qo sz mi fg nt wt wl ob) s.heap := hP
  have hZ := hZT.1
  have hK1 : va_K D vwCl [(cI, .int)] s := hK.sub [0] rfl
  have w_c20 : (Cond.classLink RL 20 "java/lang/IndexOutOfBoundsException") ∈ wsL_advise := List.mem_of_getElem? (i := 1) rfl
  have hl := lv_entry ([.ref h0, .int a1, .ref qo]) (n := 4) (Nat.le_of_ble_eq_true rfl)
  rw [lg_entry_eq]
  generalize (lg_sl ([.ref h0, .int a1, .ref qo]) ++ List.replicate (4 - (lg_sl ([.ref h0, .int a1, .ref qo])).length) Slot.unset).toArray = ls at hl ⊢
  have hl : lv_has ls 4 [(0, .ref h0), (1, .int a1), (2, .ref qo)] := hl
  suffices K : ∀ (H : Heap) (locs : List Loc), va_P D vwCl (fb_wL cI cJ h0 qf qn qw ql qo sz mi fg nt wt wl ob) H → va_S A s.heap H locs → W p l e (headSpec wsL_advise rmL_advise).room s m ([.ref h0, .int a1, .ref qo] : List Value).toArray below meth c H locs 0 0 (MQ below (fb_qM (fun _ => some (.int ro)) (fun _ => fb_wL cI cJ h0 qf qn qw ql qo sz mi fgo nto wt wlo obo) D A) ([.ref h0, .int a1, .ref qo] : List Value).toArray s 1 6 A) (F0 m 0 ls []) from K s.heap [] hP hS
  intro H locs hP hS
  unfold fL_advise at h
  refine lv_aload_n hx hb dL_advise_0 rfl (lv_at hl 2 rfl) ?_
  refine lv_iconst (v := 0) hx hb dL_advise_1 (by decide) ?_
  refine lv_aload_n hx hb dL_advise_2 rfl (lv_at hl 0 rfl) ?_
  refine lv_iload_n hx hb dL_advise_3 rfl (lv_at hl 1 rfl) ?_
  obtain ⟨re, h1, h⟩ := fb_b1s h
  have hPc : va_P D vwCl (fb_wX0 cI h0 qf qn qw ql sz mi fg nt wt wl) H := hP.sub [0, 1, 2, 3, 4] rfl
  have hDc : va_D A (fb_wX0 cI h0 qf qn qw ql sz mi fg nt wt wl) := hD.sub [0, 1, 2, 3, 4] (by decide) rfl
  have hFc := va_free (wc := fb_wX0 cI h0 qf qn qw ql sz mi fg nt wt wl) hD hS hA [0, 1, 2, 3, 4] rfl
  refine fb_callT (vx_runV (As := [.int a1]) (rest := [.int 0, .ref qo]) ⟨hx, hb, hml, hown, hts⟩ (metX0_advise l hfl D cI h0 qf qn qw ql B0 sz mi fg nt wt wl a1 H.size _ h1) (cwV 1 hts gL_advise_X0_advise rfl rfl rfl (by decide +kernel) ⟨Nat.le_of_ble_eq_true rfl, Nat.le_of_ble_eq_true rfl⟩) (fb_preVM (ci := 0) fb_sXTp hPc hK1 hDc hZT hS hAB hA rfl rfl _) rfl rfl hl.1 rfl (lv_room (Nat.le_of_ble_eq_true rfl)) dL_advise_4 ⟨Nat.le_of_ble_eq_true rfl, Nat.le_of_ble_eq_true rfl⟩) hS (fun q _ h9 => hFc q h9) hFc (fun x3 ce q9 H1 locs hre hP1 hD1 hk1 hS hce hcv hcl => ?_) (fun v2 H1 locs hre hP1 hD1 hk1 hS => ?_)
  · replace h := fb_mter hre h
    obtain ⟨hP, hD⟩ := va_join (wr := [(qo, .inl (cJ, 1, .inr (.inl ob)))]) (w1 := fb_wX0 cI h0 qf qn qw ql sz mi x3.2.1 x3.2.2.1 wt x3.2.2.2) hP hD [0, 1, 2, 3, 4] [5] rfl rfl (by decide) (by decide) hk1 hFc hP1 hD1
    have hP : va_P D vwCl (fb_wL cI cJ h0 qf qn qw ql qo sz mi x3.2.1 x3.2.2.1 wt x3.2.2.2 ob) H1 := hP.sub [1, 2, 3, 4, 5, 0] rfl
    have hD : va_D A (fb_wL cI cJ h0 qf qn qw ql qo sz mi x3.2.1 x3.2.2.1 wt x3.2.2.2 ob) := hD.sub [1, 2, 3, 4, 5, 0] (by decide) rfl
    by_cases c0 : x3.1 = "java/lang/IndexOutOfBoundsException"
    · replace h := fb_it c0 h
      refine vx_catch (E := x3.1) hown [] ⟨0, 9, 12, 20⟩ [] (htab.trans rfl) (fun z hz => nomatch hz) rfl (by decide) (hts _ w_c20) (by rw [c0]; exact fb_ca_IndexOutOfBoundsException hZT) hce hcv hcl ?_
      generalize H1 = H at hP hS hce
      refine lv_astore_n (lv' := [(3, .ref q9), (0, .ref h0), (1, .int a1), (2, .ref qo)]) hx hb dL_advise_12 rfl hl (by decide) rfl (fun ls hl => ?_)
      refine lv_iconst (v := 1) hx hb dL_advise_13 (by decide) ?_
      obtain ⟨e1, e2, e3, e4, e5⟩ := fb_p5 h
      subst e1
      subst e2
      subst e3
      subst e4
      subst e5
      exact W.iret hx hb hr (fun t ht _ => ⟨⟨0, rfl, by rw [ht]; exact hP, hD⟩, hS.F ht⟩) hS.2.2 dL_advise_14
    replace h := fb_ie c0 h
    cases h
  · replace h := fb_mtok hre h
    obtain ⟨hP, hD⟩ := va_join (wr := [(qo, .inl (cJ, 1, .inr (.inl ob)))]) (w1 := fb_wX0 cI h0 qf qn qw ql sz mi v2.2.1 v2.2.2.1 wt v2.2.2.2) hP hD [0, 1, 2, 3, 4] [5] rfl rfl (by decide) (by decide) hk1 hFc hP1 hD1
    have hP : va_P D vwCl (fb_wL cI cJ h0 qf qn qw ql qo sz mi v2.2.1 v2.2.2.1 wt v2.2.2.2 ob) H1 := hP.sub [1, 2, 3, 4, 5, 0] rfl
    have hD : va_D A (fb_wL cI cJ h0 qf qn qw ql qo sz mi v2.2.1 v2.2.2.1 wt v2.2.2.2 ob) := hD.sub [1, 2, 3, 4, 5, 0] (by decide) rfl
    generalize H1 = H at hP hS
    refine lv_i2l hx hb dL_advise_7 rfl ?_
    refine va_last hx hb hK hP hD hS 5 1 rfl rfl (fb_ixin (by decide)) dL_advise_8 (fun H locs hP hD hS => ?_)
    have hP : va_P D vwCl (fb_wL cI cJ h0 qf qn qw ql qo sz mi v2.2.1 v2.2.2.1 wt v2.2.2.2 (vp_updL ob (0 : Int32).toNatClampNeg v2.1.toInt64)) H := hP
    have hD : va_D A (fb_wL cI cJ h0 qf qn qw ql qo sz mi v2.2.1 v2.2.2.1 wt v2.2.2.2 (vp_updL ob (0 : Int32).toNatClampNeg v2.1.toInt64)) := hD
    refine lv_goto (tgt := 15) hx hb dL_advise_9 (by decide) ?_
    refine lv_iconst (v := 0) hx hb dL_advise_15 (by decide) ?_
    obtain ⟨e1, e2, e3, e4, e5⟩ := fb_p5 h
    subst e1
    subst e2
    subst e3
    subst e4
    subst e5
    exact W.iret hx hb hr (fun t ht _ => ⟨⟨0, rfl, by rw [ht]; exact hP, hD⟩, hS.F ht⟩) hS.2.2 dL_advise_16
