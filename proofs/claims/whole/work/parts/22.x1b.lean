/-! Contracts, printed by wip/whole/gen.py. -/
abbrev rmX1_isFault : Room := { frames := 2, cells := 0, slots := 0, locals := 44 }
set_option maxHeartbeats 8000000 in
set_option maxRecDepth 100000 in
theorem metX1_isFault (l : Launch) (D : va_G) (cI : ClassId) (h0 qn qf qw B0 : Nat) (th : Int32) (ch : Int32) (nt : Nat → Int32) (fg : Nat → Int32) (wt : Nat → Int32) (mi : Int32) (a1 : Int32) (a2 : Int32) (a3 : Int32) (ro : Int32) (h : fX1_isFault th ch nt fg wt mi a1 a2 a3 = some ro) : Met l yX1_isFault wsX1_isFault rmX1_isFault (va_Pc [.ref h0, .int a1, .int a2, .int a3] (fb_ok D [(cI, .int)] B0 fb_sX1 (fb_wX1 cI h0 qn qf qw th ch nt fg wt mi))) (QcRead ro) 0 0 (fun _ => False) := by
  refine Met.ofW (cc := cX1_isFault) (maxL := 6) (ret := (some .boolean)) (by decide) rfl ?_
  intro p e s m args below meth c s₁ B hml hv
  obtain ⟨rfl, hP, hK, hZ⟩ := hv
  have hx := B.exec
  have hb := B.bytes
  have hr := B.returns
  have hts := atoms_spec (ws := wsX1_isFault) B.pre
  have hown : s.vm.findClass RX1 = some m.cls := findClass_of_methodNamed B.named
  have hlocks := B.notSynchronized
  have hAB : ∀ q : Nat, (fun q => B0 ≤ q) q → B0 ≤ q := fun _ h9 => h9
  have hS : va_S (fun q => B0 ≤ q) s.heap s.heap [] := va_S.rf
  have hin0 : ∀ w ∈ u_ws RX1 TX1 6, w ∈ wsX1_isFault := fun _ h9 => List.mem_cons_of_mem _ (List.mem_append_right _ (h9))
  have w_f13 : (Cond.fieldLink RX1 13 "FiguredBassModel" "figures" "[I") ∈ wsX1_isFault := List.mem_of_getElem? (i := 1) rfl
  have w_m73 : (Cond.methodLink RX1 73 Lib.Math.abs.name) ∈ wsX1_isFault := List.mem_of_getElem? (i := 2) rfl
  have w_mcabs : (Cond.code Lib.Math.abs.name Lib.Math.abs.code 1 (some .int)) ∈ wsX1_isFault := List.mem_of_getElem? (i := 5) rfl
  have w_mi : (Cond.initialized "java/lang/Math") ∈ wsX1_isFault := List.mem_of_getElem? (i := 4) rfl
  have w_msabs : (Cond.static Lib.Math.abs.name) ∈ wsX1_isFault := List.mem_of_getElem? (i := 3) rfl
  have hl := lv_entry ([.ref h0, .int a1, .int a2, .int a3]) (n := 6) (Nat.le_of_ble_eq_true rfl)
  rw [lg_entry_eq]
  generalize (lg_sl ([.ref h0, .int a1, .int a2, .int a3]) ++ List.replicate (6 - (lg_sl ([.ref h0, .int a1, .int a2, .int a3])).length) Slot.unset).toArray = ls at hl ⊢
  have hl : lv_has ls 6 [(0, .ref h0), (1, .int a1), (2, .int a2), (3, .int a3)] := hl
  unfold fX1_isFault at h
  refine lv_aload_n hx hb dX1_isFault_0 rfl (lv_at hl 0 rfl) ?_
  refine lv_iload_n hx hb dX1_isFault_1 rfl (lv_at hl 1 rfl) ?_
  refine lv_iload_n hx hb dX1_isFault_2 rfl (lv_at hl 3 rfl) ?_
  obtain ⟨r2, h1, h⟩ := fb_b1s h
  refine fb_callR (W.runV (As := [.int a1, .int a3]) (rest := []) ⟨hx, hb, hml, hown, hts⟩ (metX1_goes l D cI h0 qn qf qw B0 th ch nt fg wt mi a1 a3 r2 h1) (cwV 2 hts gX1_isFault_X1_goes rfl rfl rfl (by decide +kernel) ⟨Nat.le_of_ble_eq_true rfl, Nat.le_of_ble_eq_true rfl⟩) (fb_preVR (ci := 1) fb_sX1p hP hK hZ hS hAB rfl rfl _) rfl rfl hl.1 rfl (lv_room (Nat.le_of_ble_eq_true rfl)) dX1_isFault_3 ⟨Nat.le_of_ble_eq_true rfl, Nat.le_of_ble_eq_true rfl⟩) ?_
  refine lv_istore (lv' := [(4, .int r2), (0, .ref h0), (1, .int a1), (2, .int a2), (3, .int a3)]) hx hb dX1_isFault_6 hl (by decide) rfl (fun ls hl => ?_)
  refine lv_aload_n hx hb dX1_isFault_8 rfl (lv_at hl 1 rfl) ?_
  refine lv_iload_n hx hb dX1_isFault_9 rfl (lv_at hl 2 rfl) ?_
  refine lv_iconst (v := 1) hx hb dX1_isFault_10 (by decide) ?_
  refine lv_isub hx hb dX1_isFault_11 ?_
  refine lv_iload_n hx hb dX1_isFault_12 rfl (lv_at hl 4 rfl) ?_
  obtain ⟨r4, h3, h⟩ := fb_b1s h
  refine fb_callR (W.runV (As := [.int (a1 - 1), .int a3]) (rest := []) ⟨hx, hb, hml, hown, hts⟩ (metX1_at l D cI h0 qn qf qw B0 th ch nt fg wt mi (a1 - 1) a3 r4 h3) (cwV 2 hts gX1_isFault_X1_at rfl rfl rfl (by decide +kernel) ⟨Nat.le_of_ble_eq_true rfl, Nat.le_of_ble_eq_true rfl⟩) (fb_preVR (ci := 1) fb_sX1p hP hK hZ hS hAB rfl rfl _) rfl rfl hl.1 rfl (lv_room (Nat.le_of_ble_eq_true rfl)) dX1_isFault_13 ⟨Nat.le_of_ble_eq_true rfl, Nat.le_of_ble_eq_true rfl⟩) ?_
  refine lv_aload_n hx hb dX1_isFault_16 rfl (lv_at hl 1 rfl) ?_
  refine lv_iload_n hx hb dX1_isFault_17 rfl (lv_at hl 2 rfl) ?_
  refine lv_iconst (v := 1) hx hb dX1_isFault_18 (by decide) ?_
  refine lv_isub hx hb dX1_isFault_19 ?_
  refine lv_iconst (v := 0) hx hb dX1_isFault_20 (by decide) ?_
  obtain ⟨r6, h5, h⟩ := fb_b1s h
  refine fb_callR (W.runV (As := [.int (a1 - 1), .int 0]) (rest := [.int r4]) ⟨hx, hb, hml, hown, hts⟩ (metX1_at l D cI h0 qn qf qw B0 th ch nt fg wt mi (a1 - 1) 0 r6 h5) (cwV 2 hts gX1_isFault_X1_at rfl rfl rfl (by decide +kernel) ⟨Nat.le_of_ble_eq_true rfl, Nat.le_of_ble_eq_true rfl⟩) (fb_preVR (ci := 1) fb_sX1p hP hK hZ hS hAB rfl rfl _) rfl rfl hl.1 rfl (lv_room (Nat.le_of_ble_eq_true rfl)) dX1_isFault_21 ⟨Nat.le_of_ble_eq_true rfl, Nat.le_of_ble_eq_true rfl⟩) ?_
  obtain ⟨r8, h7, h⟩ := fb_b1s h
  refine fb_callR (W.runS (As := [.int r4, .int r6]) (rest := []) ⟨hx, hb, hml, hown, hts⟩ (metX1_step l B0 r4 r6 r8 h7) (va_cwS 2 hts gX1_isFault_X1_step rfl rfl rfl (by decide +kernel) ⟨Nat.le_of_ble_eq_true rfl, Nat.le_of_ble_eq_true rfl⟩) (fb_preS fb_sX1p hZ hS hAB _) rfl rfl hl.1 rfl (lv_room (Nat.le_of_ble_eq_true rfl)) dX1_isFault_24 ⟨Nat.le_of_ble_eq_true rfl, Nat.le_of_ble_eq_true rfl⟩) ?_
  refine lv_istore (lv' := [(5, .int r8), (4, .int r2), (0, .ref h0), (1, .int a1), (2, .int a2), (3, .int a3)]) hx hb dX1_isFault_27 hl (by decide) rfl (fun ls hl => ?_)
  refine lv_iload_n hx hb dX1_isFault_29 rfl (lv_at hl 4 rfl) ?_
  by_cases c9_0 : a2 = 3
  · replace h := fb_it c9_0 h
    refine lv_tableIn (off := 30) (tgt := 60) hx hb dX1_isFault_30 (by rw [c9_0]; decide) (by rw [c9_0]; decide) (by rw [c9_0]; rfl) (by decide) ?_
    refine lv_aload_n hx hb dX1_isFault_60 rfl (lv_at hl 2 rfl) ?_
    refine va_get (D := D) (ci := 1) (v := .ref qf) (C := RX1) (T := TX1) (N := 6) hx hb hts hin0 hown hK hP 0 rfl rfl 3 (by decide) (hts _ w_f13) (fun _ h9 => h9) rfl dX1_isFault_61 ?_
    refine lv_iload_n hx hb dX1_isFault_64 rfl (lv_at hl 3 rfl) ?_
    obtain ⟨hi10, h⟩ := fb_cks h
    refine va_iald hx hb hK hP 2 0 rfl rfl (fb_ixin hi10) dX1_isFault_65 ?_
    refine lv_iconst (v := 4) hx hb dX1_isFault_66 (by decide) ?_
    refine lv_icmp_ne (tgt := 98) hx hb dX1_isFault_67 (by decide) (fun c11 => ?_) (fun c11 => ?_)
    · replace h := fb_ie c11 h
      refine lv_iconst (v := 0) hx hb dX1_isFault_98 (by decide) ?_
      have h := Option.some.inj h
      subst h
      exact W.zret (ty := .boolean) hx hb hr rfl (fun t ht _ => ⟨rfl, ht⟩) (fun q hq => absurd hq List.not_mem_nil) dX1_isFault_99
    · replace h := fb_it c11 h
      refine lv_aload_n hx hb dX1_isFault_70 rfl (lv_at hl 2 rfl) ?_
      refine lv_iload_n hx hb dX1_isFault_71 rfl (lv_at hl 3 rfl) ?_
      refine lv_iload_n hx hb dX1_isFault_72 rfl (lv_at hl 5 rfl) ?_
      obtain ⟨r14, h13, h⟩ := fb_b1s h
      refine fb_callR (W.runV (As := [.int a1, .int a3]) (rest := []) ⟨hx, hb, hml, hown, hts⟩ (metX1_at l D cI h0 qn qf qw B0 th ch nt fg wt mi a1 a3 r14 h13) (cwV 2 hts gX1_isFault_X1_at rfl rfl rfl (by decide +kernel) ⟨Nat.le_of_ble_eq_true rfl, Nat.le_of_ble_eq_true rfl⟩) (fb_preVR (ci := 1) fb_sX1p hP hK hZ hS hAB rfl rfl _) rfl rfl hl.1 rfl (lv_room (Nat.le_of_ble_eq_true rfl)) dX1_isFault_73 ⟨Nat.le_of_ble_eq_true rfl, Nat.le_of_ble_eq_true rfl⟩) ?_
      refine lv_aload_n hx hb dX1_isFault_76 rfl (lv_at hl 2 rfl) ?_
      refine lv_iload_n hx hb dX1_isFault_77 rfl (lv_at hl 3 rfl) ?_
      refine lv_iconst (v := 0) hx hb dX1_isFault_78 (by decide) ?_
      obtain ⟨r16, h15, h⟩ := fb_b1s h
      refine fb_callR (W.runV (As := [.int a1, .int 0]) (rest := [.int r14]) ⟨hx, hb, hml, hown, hts⟩ (metX1_at l D cI h0 qn qf qw B0 th ch nt fg wt mi a1 0 r16 h15) (cwV 2 hts gX1_isFault_X1_at rfl rfl rfl (by decide +kernel) ⟨Nat.le_of_ble_eq_true rfl, Nat.le_of_ble_eq_true rfl⟩) (fb_preVR (ci := 1) fb_sX1p hP hK hZ hS hAB rfl rfl _) rfl rfl hl.1 rfl (lv_room (Nat.le_of_ble_eq_true rfl)) dX1_isFault_79 ⟨Nat.le_of_ble_eq_true rfl, Nat.le_of_ble_eq_true rfl⟩) ?_
      obtain ⟨r18, h17, h⟩ := fb_b1s h
      refine fb_callR (W.runS (As := [.int r14, .int r16]) (rest := []) ⟨hx, hb, hml, hown, hts⟩ (metX1_step l B0 r14 r16 r18 h17) (va_cwS 2 hts gX1_isFault_X1_step rfl rfl rfl (by decide +kernel) ⟨Nat.le_of_ble_eq_true rfl, Nat.le_of_ble_eq_true rfl⟩) (fb_preS fb_sX1p hZ hS hAB _) rfl rfl hl.1 rfl (lv_room (Nat.le_of_ble_eq_true rfl)) dX1_isFault_82 ⟨Nat.le_of_ble_eq_true rfl, Nat.le_of_ble_eq_true rfl⟩) ?_
      refine lv_iconst (v := 3) hx hb dX1_isFault_85 (by decide) ?_
      refine lv_icmp_ne (tgt := 98) hx hb dX1_isFault_86 (by decide) (fun c19 => ?_) (fun c19 => ?_)
      · replace h := fb_ie c19 h
        refine lv_iconst (v := 0) hx hb dX1_isFault_98 (by decide) ?_
        have h := Option.some.inj h
        subst h
        exact W.zret (ty := .boolean) hx hb hr rfl (fun t ht _ => ⟨rfl, ht⟩) (fun q hq => absurd hq List.not_mem_nil) dX1_isFault_99
      · replace h := fb_it c19 h
        refine lv_iload hx hb dX1_isFault_89 (lv_at hl 1 rfl) ?_
        refine lv_if_eq (tgt := 98) hx hb dX1_isFault_91 (by decide) (fun c21 => ?_) (fun c21 => ?_)
        · replace h := fb_it c21 h
          refine lv_iconst (v := 0) hx hb dX1_isFault_98 (by decide) ?_
          have h := Option.some.inj h
          subst h
          exact W.zret (ty := .boolean) hx hb hr rfl (fun t ht _ => ⟨rfl, ht⟩) (fun q hq => absurd hq List.not_mem_nil) dX1_isFault_99
        · replace h := fb_ie c21 h
          refine lv_iconst (v := 1) hx hb dX1_isFault_94 (by decide) ?_
          refine lv_goto (tgt := 99) hx hb dX1_isFault_95 (by decide) ?_
          have h := Option.some.inj h
          subst h
          exact W.zret (ty := .boolean) hx hb hr rfl (fun t ht _ => ⟨rfl, ht⟩) (fun q hq => absurd hq List.not_mem_nil) dX1_isFault_99
  replace h := fb_ie c9_0 h
  by_cases c9_1 : a2 = 4
  · replace h := fb_it c9_1 h
    refine lv_tableIn (off := 70) (tgt := 100) hx hb dX1_isFault_30 (by rw [c9_1]; decide) (by rw [c9_1]; decide) (by rw [c9_1]; rfl) (by decide) ?_
    refine lv_aload_n hx hb dX1_isFault_100 rfl (lv_at hl 2 rfl) ?_
    refine va_get (D := D) (ci := 1) (v := .ref qf) (C := RX1) (T := TX1) (N := 6) hx hb hts hin0 hown hK hP 0 rfl rfl 3 (by decide) (hts _ w_f13) (fun _ h9 => h9) rfl dX1_isFault_101 ?_
    refine lv_iload_n hx hb dX1_isFault_104 rfl (lv_at hl 3 rfl) ?_
    refine lv_iconst (v := 1) hx hb dX1_isFault_105 (by decide) ?_
    refine lv_isub hx hb dX1_isFault_106 ?_
    obtain ⟨hi24, h⟩ := fb_cks h
    refine va_iald hx hb hK hP 2 0 rfl rfl (fb_ixin hi24) dX1_isFault_107 ?_
    refine lv_iconst (v := 4) hx hb dX1_isFault_108 (by decide) ?_
    refine lv_icmp_ne (tgt := 128) hx hb dX1_isFault_109 (by decide) (fun c25 => ?_) (fun c25 => ?_)
    · replace h := fb_ie c25 h
      refine lv_iconst (v := 0) hx hb dX1_isFault_128 (by decide) ?_
      have h := Option.some.inj h
      subst h
      exact W.zret (ty := .boolean) hx hb hr rfl (fun t ht _ => ⟨rfl, ht⟩) (fun q hq => absurd hq List.not_mem_nil) dX1_isFault_129
    · replace h := fb_it c25 h
      refine lv_iload hx hb dX1_isFault_112 (lv_at hl 0 rfl) ?_
      refine lv_iconst (v := 3) hx hb dX1_isFault_114 (by decide) ?_
      refine lv_icmp_ne (tgt := 128) hx hb dX1_isFault_115 (by decide) (fun c27 => ?_) (fun c27 => ?_)
      · replace h := fb_ie c27 h
        refine lv_iconst (v := 0) hx hb dX1_isFault_128 (by decide) ?_
        have h := Option.some.inj h
        subst h
        exact W.zret (ty := .boolean) hx hb hr rfl (fun t ht _ => ⟨rfl, ht⟩) (fun q hq => absurd hq List.not_mem_nil) dX1_isFault_129
      · replace h := fb_it c27 h
        refine lv_iload hx hb dX1_isFault_118 (lv_at hl 1 rfl) ?_
        refine lv_iconst (v := (-1)) hx hb dX1_isFault_120 (by decide) ?_
        refine lv_icmp_eq (tgt := 128) hx hb dX1_isFault_121 (by decide) (fun c29 => ?_) (fun c29 => ?_)
        · replace h := fb_it c29 h
          refine lv_iconst (v := 0) hx hb dX1_isFault_128 (by decide) ?_
          have h := Option.some.inj h
          subst h
          exact W.zret (ty := .boolean) hx hb hr rfl (fun t ht _ => ⟨rfl, ht⟩) (fun q hq => absurd hq List.not_mem_nil) dX1_isFault_129
        · replace h := fb_ie c29 h
          refine lv_iconst (v := 1) hx hb dX1_isFault_124 (by decide) ?_
          refine lv_goto (tgt := 129) hx hb dX1_isFault_125 (by decide) ?_
          have h := Option.some.inj h
          subst h
          exact W.zret (ty := .boolean) hx hb hr rfl (fun t ht _ => ⟨rfl, ht⟩) (fun q hq => absurd hq List.not_mem_nil) dX1_isFault_129
  replace h := fb_ie c9_1 h
  by_cases c9_2 : a2 = 5
  · replace h := fb_it c9_2 h
    refine lv_tableIn (off := 100) (tgt := 130) hx hb dX1_isFault_30 (by rw [c9_2]; decide) (by rw [c9_2]; decide) (by rw [c9_2]; rfl) (by decide) ?_
    refine lv_aload_n hx hb dX1_isFault_130 rfl (lv_at hl 2 rfl) ?_
    refine lv_iload_n hx hb dX1_isFault_131 rfl (lv_at hl 3 rfl) ?_
    refine lv_iconst (v := 0) hx hb dX1_isFault_132 (by decide) ?_
    obtain ⟨r33, h32, h⟩ := fb_b1s h
    refine fb_callR (W.runV (As := [.int a1, .int 0]) (rest := []) ⟨hx, hb, hml, hown, hts⟩ (metX1_at l D cI h0 qn qf qw B0 th ch nt fg wt mi a1 0 r33 h32) (cwV 2 hts gX1_isFault_X1_at rfl rfl rfl (by decide +kernel) ⟨Nat.le_of_ble_eq_true rfl, Nat.le_of_ble_eq_true rfl⟩) (fb_preVR (ci := 1) fb_sX1p hP hK hZ hS hAB rfl rfl _) rfl rfl hl.1 rfl (lv_room (Nat.le_of_ble_eq_true rfl)) dX1_isFault_133 ⟨Nat.le_of_ble_eq_true rfl, Nat.le_of_ble_eq_true rfl⟩) ?_
    refine lv_bipush (v := 7) hx hb dX1_isFault_136 (by decide) ?_
    refine lv_irem hx hb dX1_isFault_138 (by decide) ?_
    refine lv_if_ne (tgt := 168) hx hb dX1_isFault_139 (by decide) (fun c34 => ?_) (fun c34 => ?_)
    · replace h := fb_ie c34 h
      refine lv_iconst (v := 0) hx hb dX1_isFault_168 (by decide) ?_
      have h := Option.some.inj h
      subst h
      exact W.zret (ty := .boolean) hx hb hr rfl (fun t ht _ => ⟨rfl, ht⟩) (fun q hq => absurd hq List.not_mem_nil) dX1_isFault_169
    · replace h := fb_it c34 h
      refine lv_aload_n hx hb dX1_isFault_142 rfl (lv_at hl 2 rfl) ?_
      refine lv_iload_n hx hb dX1_isFault_143 rfl (lv_at hl 3 rfl) ?_
      refine lv_iconst (v := 1) hx hb dX1_isFault_144 (by decide) ?_
      refine lv_isub hx hb dX1_isFault_145 ?_
      refine lv_iload_n hx hb dX1_isFault_146 rfl (lv_at hl 5 rfl) ?_
      obtain ⟨r37, h36, h⟩ := fb_b1s h
      refine fb_callR (W.runV (As := [.int (a1 - 1), .int a3]) (rest := []) ⟨hx, hb, hml, hown, hts⟩ (metX1_at l D cI h0 qn qf qw B0 th ch nt fg wt mi (a1 - 1) a3 r37 h36) (cwV 2 hts gX1_isFault_X1_at rfl rfl rfl (by decide +kernel) ⟨Nat.le_of_ble_eq_true rfl, Nat.le_of_ble_eq_true rfl⟩) (fb_preVR (ci := 1) fb_sX1p hP hK hZ hS hAB rfl rfl _) rfl rfl hl.1 rfl (lv_room (Nat.le_of_ble_eq_true rfl)) dX1_isFault_147 ⟨Nat.le_of_ble_eq_true rfl, Nat.le_of_ble_eq_true rfl⟩) ?_
      refine lv_bipush (v := 7) hx hb dX1_isFault_150 (by decide) ?_
      refine lv_irem hx hb dX1_isFault_152 (by decide) ?_
      refine lv_bipush (v := 6) hx hb dX1_isFault_153 (by decide) ?_
      refine lv_icmp_ne (tgt := 168) hx hb dX1_isFault_155 (by decide) (fun c38 => ?_) (fun c38 => ?_)
      · replace h := fb_ie c38 h
        refine lv_iconst (v := 0) hx hb dX1_isFault_168 (by decide) ?_
        have h := Option.some.inj h
        subst h
        exact W.zret (ty := .boolean) hx hb hr rfl (fun t ht _ => ⟨rfl, ht⟩) (fun q hq => absurd hq List.not_mem_nil) dX1_isFault_169
      · replace h := fb_it c38 h
        refine lv_iload hx hb dX1_isFault_158 (lv_at hl 1 rfl) ?_
        refine lv_iconst (v := 1) hx hb dX1_isFault_160 (by decide) ?_
        refine lv_icmp_eq (tgt := 168) hx hb dX1_isFault_161 (by decide) (fun c40 => ?_) (fun c40 => ?_)
        · replace h := fb_it c40 h
          refine lv_iconst (v := 0) hx hb dX1_isFault_168 (by decide) ?_
          have h := Option.some.inj h
          subst h
          exact W.zret (ty := .boolean) hx hb hr rfl (fun t ht _ => ⟨rfl, ht⟩) (fun q hq => absurd hq List.not_mem_nil) dX1_isFault_169
        · replace h := fb_ie c40 h
          refine lv_iconst (v := 1) hx hb dX1_isFault_164 (by decide) ?_
          refine lv_goto (tgt := 169) hx hb dX1_isFault_165 (by decide) ?_
          have h := Option.some.inj h
          subst h
          exact W.zret (ty := .boolean) hx hb hr rfl (fun t ht _ => ⟨rfl, ht⟩) (fun q hq => absurd hq List.not_mem_nil) dX1_isFault_169
  replace h := fb_ie c9_2 h
  by_cases c9_3 : a2 = 6
  · replace h := fb_it c9_3 h
    refine lv_tableIn (off := 140) (tgt := 170) hx hb dX1_isFault_30 (by rw [c9_3]; decide) (by rw [c9_3]; decide) (by rw [c9_3]; rfl) (by decide) ?_
    refine lv_aload_n hx hb dX1_isFault_170 rfl (lv_at hl 2 rfl) ?_
    refine va_get (D := D) (ci := 1) (v := .ref qf) (C := RX1) (T := TX1) (N := 6) hx hb hts hin0 hown hK hP 0 rfl rfl 3 (by decide) (hts _ w_f13) (fun _ h9 => h9) rfl dX1_isFault_171 ?_
    refine lv_iload_n hx hb dX1_isFault_174 rfl (lv_at hl 3 rfl) ?_
    refine lv_iconst (v := 1) hx hb dX1_isFault_175 (by decide) ?_
    refine lv_isub hx hb dX1_isFault_176 ?_
    obtain ⟨hi43, h⟩ := fb_cks h
    refine va_iald hx hb hK hP 2 0 rfl rfl (fb_ixin hi43) dX1_isFault_177 ?_
    refine lv_iconst (v := 3) hx hb dX1_isFault_178 (by decide) ?_
    refine lv_icmp_ne (tgt := 204) hx hb dX1_isFault_179 (by decide) (fun c44 => ?_) (fun c44 => ?_)
    · replace h := fb_ie c44 h
      refine lv_iconst (v := 0) hx hb dX1_isFault_204 (by decide) ?_
      have h := Option.some.inj h
      subst h
      exact W.zret (ty := .boolean) hx hb hr rfl (fun t ht _ => ⟨rfl, ht⟩) (fun q hq => absurd hq List.not_mem_nil) dX1_isFault_205
    · replace h := fb_it c44 h
      refine lv_iload hx hb dX1_isFault_182 (lv_at hl 0 rfl) ?_
      refine lv_bipush (v := 6) hx hb dX1_isFault_184 (by decide) ?_
      refine lv_icmp_ne (tgt := 204) hx hb dX1_isFault_186 (by decide) (fun c46 => ?_) (fun c46 => ?_)
      · replace h := fb_ie c46 h
        refine lv_iconst (v := 0) hx hb dX1_isFault_204 (by decide) ?_
        have h := Option.some.inj h
        subst h
        exact W.zret (ty := .boolean) hx hb hr rfl (fun t ht _ => ⟨rfl, ht⟩) (fun q hq => absurd hq List.not_mem_nil) dX1_isFault_205
      · replace h := fb_it c46 h
        refine lv_iload hx hb dX1_isFault_189 (lv_at hl 1 rfl) ?_
        refine lv_if_eq (tgt := 204) hx hb dX1_isFault_191 (by decide) (fun c48 => ?_) (fun c48 => ?_)
        · replace h := fb_it c48 h
          refine lv_iconst (v := 0) hx hb dX1_isFault_204 (by decide) ?_
          have h := Option.some.inj h
          subst h
          exact W.zret (ty := .boolean) hx hb hr rfl (fun t ht _ => ⟨rfl, ht⟩) (fun q hq => absurd hq List.not_mem_nil) dX1_isFault_205
        · replace h := fb_ie c48 h
          refine lv_iload hx hb dX1_isFault_194 (lv_at hl 1 rfl) ?_
          refine lv_iconst (v := (-1)) hx hb dX1_isFault_196 (by decide) ?_
          refine lv_icmp_eq (tgt := 204) hx hb dX1_isFault_197 (by decide) (fun c50 => ?_) (fun c50 => ?_)
          · replace h := fb_it c50 h
            refine lv_iconst (v := 0) hx hb dX1_isFault_204 (by decide) ?_
            have h := Option.some.inj h
            subst h
            exact W.zret (ty := .boolean) hx hb hr rfl (fun t ht _ => ⟨rfl, ht⟩) (fun q hq => absurd hq List.not_mem_nil) dX1_isFault_205
          · replace h := fb_ie c50 h
            refine lv_iconst (v := 1) hx hb dX1_isFault_200 (by decide) ?_
            refine lv_goto (tgt := 205) hx hb dX1_isFault_201 (by decide) ?_
            have h := Option.some.inj h
            subst h
            exact W.zret (ty := .boolean) hx hb hr rfl (fun t ht _ => ⟨rfl, ht⟩) (fun q hq => absurd hq List.not_mem_nil) dX1_isFault_205
  replace h := fb_ie c9_3 h
  refine lv_tableOut (tgt := 206) hx hb dX1_isFault_30 (by have e0 := lv_neT (a := 3) c9_0 (by decide); have e1 := lv_neT (a := 4) c9_1 (by decide); have e2 := lv_neT (a := 5) c9_2 (by decide); have e3 := lv_neT (a := 6) c9_3 (by decide); omega) (by decide) ?_
  refine lv_iload hx hb dX1_isFault_206 (lv_at hl 1 rfl) ?_
  refine va_mabs hx hb (by rw [hml]; exact hl.1.symm) hown (hts _ w_m73) (hts _ w_msabs) (hts _ w_mi) (hts _ w_mcabs) (Nat.le_of_ble_eq_true rfl) (Nat.le_of_ble_eq_true rfl) (Nat.le_of_ble_eq_true rfl) (Nat.le_of_ble_eq_true rfl) dX1_isFault_208 ?_
  refine lv_iconst (v := 4) hx hb dX1_isFault_211 (by decide) ?_
  refine lv_icmp_le (tgt := 219) hx hb dX1_isFault_212 (by decide) (fun c53 => ?_) (fun c53 => ?_)
  · replace h := fb_it c53 h
    refine lv_iconst (v := 0) hx hb dX1_isFault_219 (by decide) ?_
    have h := Option.some.inj h
    subst h
    exact W.zret (ty := .boolean) hx hb hr rfl (fun t ht _ => ⟨rfl, ht⟩) (fun q hq => absurd hq List.not_mem_nil) dX1_isFault_220
  · replace h := fb_ie c53 h
    refine lv_iconst (v := 1) hx hb dX1_isFault_215 (by decide) ?_
    refine lv_goto (tgt := 220) hx hb dX1_isFault_216 (by decide) ?_
    have h := Option.some.inj h
    subst h
    exact W.zret (ty := .boolean) hx hb hr rfl (fun t ht _ => ⟨rfl, ht⟩) (fun q hq => absurd hq List.not_mem_nil) dX1_isFault_220
abbrev rmX1_faultsOf : Room := { frames := 3, cells := 0, slots := 0, locals := 71 }
set_option maxHeartbeats 8000000 in
set_option maxRecDepth 100000 in
theorem metX1_faultsOf (l : Launch) (D : va_G) (cI : ClassId) (h0 qn qf qw B0 : Nat) (th : Int32) (ch : Int32) (nt : Nat → Int32) (fg : Nat → Int32) (wt : Nat → Int32) (mi : Int32) (a1 : Int32) (a2 : Int32) (ro : Int32) (h : fX1_faultsOf th ch nt fg wt mi a1 a2 = some ro) : Met l yX1_faultsOf wsX1_faultsOf rmX1_faultsOf (va_Pc [.ref h0, .int a1, .int a2] (fb_ok D [(cI, .int)] B0 fb_sX1 (fb_wX1 cI h0 qn qf qw th ch nt fg wt mi))) (QcRead ro) 0 0 (fun _ => False) := by
  refine Met.ofW (cc := cX1_faultsOf) (maxL := 5) (ret := (some .int)) (by decide) rfl ?_
  intro p e s m args below meth c s₁ B hml hv
  obtain ⟨rfl, hP, hK, hZ⟩ := hv
  have hx := B.exec
  have hb := B.bytes
  have hr := B.returns
  have hts := atoms_spec (ws := wsX1_faultsOf) B.pre
  have hown : s.vm.findClass RX1 = some m.cls := findClass_of_methodNamed B.named
  have hlocks := B.notSynchronized
  have hAB : ∀ q : Nat, (fun q => B0 ≤ q) q → B0 ≤ q := fun _ h9 => h9
  have hS : va_S (fun q => B0 ≤ q) s.heap s.heap [] := va_S.rf
  have hin0 : ∀ w ∈ u_ws RX1 TX1 6, w ∈ wsX1_faultsOf := fun _ h9 => List.mem_cons_of_mem _ (List.mem_append_right _ (h9))
  have hl := lv_entry ([.ref h0, .int a1, .int a2]) (n := 5) (Nat.le_of_ble_eq_true rfl)
  rw [lg_entry_eq]
  generalize (lg_sl ([.ref h0, .int a1, .int a2]) ++ List.replicate (5 - (lg_sl ([.ref h0, .int a1, .int a2])).length) Slot.unset).toArray = ls at hl ⊢
  have hl : lv_has ls 5 [(0, .ref h0), (1, .int a1), (2, .int a2)] := hl
  unfold fX1_faultsOf at h
  refine lv_aload_n hx hb dX1_faultsOf_0 rfl (lv_at hl 0 rfl) ?_
  refine lv_iload_n hx hb dX1_faultsOf_1 rfl (lv_at hl 1 rfl) ?_
  obtain ⟨r2, h1, h⟩ := fb_b1s h
  refine fb_callR (W.runV (As := [.int a1]) (rest := []) ⟨hx, hb, hml, hown, hts⟩ (metX1_isPair l D cI h0 qn qf qw B0 th ch nt fg wt mi a1 r2 h1) (cwV 1 hts gX1_faultsOf_X1_isPair rfl rfl rfl (by decide +kernel) ⟨Nat.le_of_ble_eq_true rfl, Nat.le_of_ble_eq_true rfl⟩) (fb_preVR (ci := 1) fb_sX1p hP hK hZ hS hAB rfl rfl _) rfl rfl hl.1 rfl (lv_room (Nat.le_of_ble_eq_true rfl)) dX1_faultsOf_2 ⟨Nat.le_of_ble_eq_true rfl, Nat.le_of_ble_eq_true rfl⟩) ?_
  refine lv_if_ne (tgt := 10) hx hb dX1_faultsOf_5 (by decide) (fun c3 => ?_) (fun c3 => ?_)
  · replace h := fb_ie c3 h
    refine lv_iload_n hx hb dX1_faultsOf_10 rfl (lv_at hl 2 rfl) ?_
    refine lv_iconst (v := 2) hx hb dX1_faultsOf_11 (by decide) ?_
    refine lv_icmp_ge (tgt := 30) hx hb dX1_faultsOf_12 (by decide) (fun c4 => ?_) (fun c4 => ?_)
    · replace h := fb_it c4 h
      refine lv_iload_n hx hb dX1_faultsOf_30 rfl (lv_at hl 2 rfl) ?_
      refine lv_iconst (v := 2) hx hb dX1_faultsOf_31 (by decide) ?_
      refine lv_icmp_ne (tgt := 49) hx hb dX1_faultsOf_32 (by decide) (fun c5 => ?_) (fun c5 => ?_)
      · replace h := fb_ie c5 h
        refine lv_iconst (v := 0) hx hb dX1_faultsOf_49 (by decide) ?_
        refine lv_istore_n (lv' := [(3, .int 0), (0, .ref h0), (1, .int a1), (2, .int a2)]) hx hb dX1_faultsOf_50 rfl hl (by decide) rfl (fun ls hl => ?_)
        refine lv_iconst (v := 1) hx hb dX1_faultsOf_51 (by decide) ?_
        refine lv_istore (lv' := [(4, .int 1), (3, .int 0), (0, .ref h0), (1, .int a1), (2, .int a2)]) hx hb dX1_faultsOf_52 hl (by decide) rfl (fun ls hl => ?_)
        have LX1_faultsOf_54 : ∀ (n : Nat) (v6 : Int32) (v7 : Int32) (o13 : Int32) (o14 : Int32), lpX1_faultsOf_54 a1 a2 th ch nt fg wt mi n v6 v7 = some (o13, o14) → ∀ (ls : Array Slot), lv_has ls 5 [(4, .int v6), (3, .int v7), (0, .ref h0), (1, .int a1), (2, .int a2)] → (∀ (ls : Array Slot), lv_has ls 5 [(4, .int o13), (3, .int o14), (0, .ref h0), (1, .int a1), (2, .int a2)] → W p l e (headSpec wsX1_faultsOf rmX1_faultsOf).room s m ([.ref h0, .int a1, .int a2] : List Value).toArray below meth c s.heap [] 0 0 (MQ below (QcRead ro) ([.ref h0, .int a1, .int a2] : List Value).toArray s 0 0 (fun _ => False)) (F0 m 85 ls [])) → W p l e (headSpec wsX1_faultsOf rmX1_faultsOf).room s m ([.ref h0, .int a1, .int a2] : List Value).toArray below meth c s.heap [] 0 0 (MQ below (QcRead ro) ([.ref h0, .int a1, .int a2] : List Value).toArray s 0 0 (fun _ => False)) (F0 m 54 ls []) := by
          intro n
          induction n with
          | zero =>
            intro v6 v7 o13 o14 h
            rw [lpX1_faultsOf_54.eq_1] at h
            cases h
          | succ n ih =>
            intro v6 v7 o13 o14 h ls hl kx
            rw [lpX1_faultsOf_54.eq_2] at h
            refine lv_iload hx hb dX1_faultsOf_54 (lv_at hl 0 rfl) ?_
            refine lv_iconst (v := 4) hx hb dX1_faultsOf_56 (by decide) ?_
            refine lv_icmp_ge (tgt := 85) hx hb dX1_faultsOf_57 (by decide) (fun c8 => ?_) (fun c8 => ?_)
            · replace h := fb_it c8 h
              obtain ⟨e1, e2⟩ := fb_p2 h
              subst e1
              subst e2
              exact kx ls (lv_sub hl [0, 1, 2, 3, 4] rfl)
            · replace h := fb_ie c8 h
              refine lv_iload_n hx hb dX1_faultsOf_60 rfl (lv_at hl 1 rfl) ?_
              refine lv_aload_n hx hb dX1_faultsOf_61 rfl (lv_at hl 2 rfl) ?_
              refine lv_iload_n hx hb dX1_faultsOf_62 rfl (lv_at hl 3 rfl) ?_
              refine lv_iload_n hx hb dX1_faultsOf_63 rfl (lv_at hl 4 rfl) ?_
              refine lv_iload hx hb dX1_faultsOf_64 (lv_at hl 0 rfl) ?_
              obtain ⟨r10, h9, h⟩ := fb_b1s h
              refine fb_callR (W.runV (As := [.int a1, .int a2, .int v6]) (rest := [.int v7]) ⟨hx, hb, hml, hown, hts⟩ (metX1_isFault l D cI h0 qn qf qw B0 th ch nt fg wt mi a1 a2 v6 r10 h9) (cwV 3 hts gX1_faultsOf_X1_isFault rfl rfl rfl (by decide +kernel) ⟨Nat.le_of_ble_eq_true rfl, Nat.le_of_ble_eq_true rfl⟩) (fb_preVR (ci := 1) fb_sX1p hP hK hZ hS hAB rfl rfl _) rfl rfl hl.1 rfl (lv_room (Nat.le_of_ble_eq_true rfl)) dX1_faultsOf_66 ⟨Nat.le_of_ble_eq_true rfl, Nat.le_of_ble_eq_true rfl⟩) ?_
              obtain ⟨j12, hjJ1, h⟩ := fb_b1s h
              have J1 : ∀ (ls : Array Slot), lv_has ls 5 [(4, .int v6), (0, .ref h0), (1, .int a1), (2, .int a2)] → W p l e (headSpec wsX1_faultsOf rmX1_faultsOf).room s m ([.ref h0, .int a1, .int a2] : List Value).toArray below meth c s.heap [] 0 0 (MQ below (QcRead ro) ([.ref h0, .int a1, .int a2] : List Value).toArray s 0 0 (fun _ => False)) (F0 m 77 ls [.int j12, .int v7]) := by
                intro ls hl
                refine lv_iadd hx hb dX1_faultsOf_77 ?_
                refine lv_istore_n (lv' := [(3, .int (v7 + j12)), (4, .int v6), (0, .ref h0), (1, .int a1), (2, .int a2)]) hx hb dX1_faultsOf_78 rfl hl (by decide) rfl (fun ls hl => ?_)
                refine lv_iinc (v := v6 + 1) (lv' := [(4, .int (v6 + 1)), (3, .int (v7 + j12)), (0, .ref h0), (1, .int a1), (2, .int a2)]) hx hb dX1_faultsOf_79 hl (k := 1) rfl rfl (by decide) rfl (fun ls hl => ?_)
                refine lv_goto (tgt := 54) hx hb dX1_faultsOf_82 (by decide) ?_
                exact ih _ _ o13 o14 h ls (lv_sub hl [0, 1, 2, 3, 4] rfl) kx
              replace h := hjJ1
              refine lv_if_eq (tgt := 76) hx hb dX1_faultsOf_69 (by decide) (fun c11 => ?_) (fun c11 => ?_)
              · replace h := fb_it c11 h
                refine lv_iconst (v := 0) hx hb dX1_faultsOf_76 (by decide) ?_
                have h := Option.some.inj h
                subst h
                exact J1 ls (lv_sub hl [0, 2, 3, 4] rfl)
              · replace h := fb_ie c11 h
                refine lv_iconst (v := 1) hx hb dX1_faultsOf_72 (by decide) ?_
                refine lv_goto (tgt := 77) hx hb dX1_faultsOf_73 (by decide) ?_
                have h := Option.some.inj h
                subst h
                exact J1 ls (lv_sub hl [0, 2, 3, 4] rfl)
        obtain ⟨o13, o14, h16, h⟩ := fb_b2s h
        refine LX1_faultsOf_54 _ _ _ o13 o14 h16 ls (lv_sub hl [0, 1, 2, 3, 4] rfl) (fun ls hl => ?_)
        refine lv_iload_n hx hb dX1_faultsOf_85 rfl (lv_at hl 1 rfl) ?_
        have h := Option.some.inj h
        subst h
        exact W.iret hx hb hr (fun t ht _ => ⟨rfl, ht⟩) (fun q hq => absurd hq List.not_mem_nil) dX1_faultsOf_86
      · replace h := fb_it c5 h
        refine lv_aload_n hx hb dX1_faultsOf_35 rfl (lv_at hl 0 rfl) ?_
        refine lv_iload_n hx hb dX1_faultsOf_36 rfl (lv_at hl 1 rfl) ?_
        obtain ⟨r18, h17, h⟩ := fb_b1s h
        refine fb_callR (W.runV (As := [.int a1]) (rest := []) ⟨hx, hb, hml, hown, hts⟩ (metX1_isHidden l D cI h0 qn qf qw B0 th ch nt fg wt mi a1 r18 h17) (cwV 1 hts gX1_faultsOf_X1_isHidden rfl rfl rfl (by decide +kernel) ⟨Nat.le_of_ble_eq_true rfl, Nat.le_of_ble_eq_true rfl⟩) (fb_preVR (ci := 1) fb_sX1p hP hK hZ hS hAB rfl rfl _) rfl rfl hl.1 rfl (lv_room (Nat.le_of_ble_eq_true rfl)) dX1_faultsOf_37 ⟨Nat.le_of_ble_eq_true rfl, Nat.le_of_ble_eq_true rfl⟩) ?_
        refine lv_if_eq (tgt := 47) hx hb dX1_faultsOf_40 (by decide) (fun c19 => ?_) (fun c19 => ?_)
        · replace h := fb_it c19 h
          refine lv_iconst (v := 0) hx hb dX1_faultsOf_47 (by decide) ?_
          have h := Option.some.inj h
          subst h
          exact W.iret hx hb hr (fun t ht _ => ⟨rfl, ht⟩) (fun q hq => absurd hq List.not_mem_nil) dX1_faultsOf_48
        · replace h := fb_ie c19 h
          refine lv_iconst (v := 1) hx hb dX1_faultsOf_43 (by decide) ?_
          refine lv_goto (tgt := 48) hx hb dX1_faultsOf_44 (by decide) ?_
          have h := Option.some.inj h
          subst h
          exact W.iret hx hb hr (fun t ht _ => ⟨rfl, ht⟩) (fun q hq => absurd hq List.not_mem_nil) dX1_faultsOf_48
    · replace h := fb_ie c4 h
      refine lv_aload_n hx hb dX1_faultsOf_15 rfl (lv_at hl 0 rfl) ?_
      refine lv_iload_n hx hb dX1_faultsOf_16 rfl (lv_at hl 1 rfl) ?_
      refine lv_iload_n hx hb dX1_faultsOf_17 rfl (lv_at hl 2 rfl) ?_
      obtain ⟨j23, hjJ2, h⟩ := fb_b1s h
      have J2 : ∀ (ls : Array Slot), lv_has ls 5 [] → W p l e (headSpec wsX1_faultsOf rmX1_faultsOf).room s m ([.ref h0, .int a1, .int a2] : List Value).toArray below meth c s.heap [] 0 0 (MQ below (QcRead ro) ([.ref h0, .int a1, .int a2] : List Value).toArray s 0 0 (fun _ => False)) (F0 m 26 ls [.int j23, .int a1, .ref h0]) := by
        intro ls hl
        obtain ⟨r25, h24, h⟩ := fb_b1s h
        refine fb_callR (W.runV (As := [.int a1, .int j23]) (rest := []) ⟨hx, hb, hml, hown, hts⟩ (metX1_parallels l D cI h0 qn qf qw B0 th ch nt fg wt mi a1 j23 r25 h24) (cwV 2 hts gX1_faultsOf_X1_parallels rfl rfl rfl (by decide +kernel) ⟨Nat.le_of_ble_eq_true rfl, Nat.le_of_ble_eq_true rfl⟩) (fb_preVR (ci := 1) fb_sX1p hP hK hZ hS hAB rfl rfl _) rfl rfl hl.1 rfl (lv_room (Nat.le_of_ble_eq_true rfl)) dX1_faultsOf_26 ⟨Nat.le_of_ble_eq_true rfl, Nat.le_of_ble_eq_true rfl⟩) ?_
        have h := Option.some.inj h
        subst h
        exact W.iret hx hb hr (fun t ht _ => ⟨rfl, ht⟩) (fun q hq => absurd hq List.not_mem_nil) dX1_faultsOf_29
      replace h := hjJ2
      refine lv_if_ne (tgt := 25) hx hb dX1_faultsOf_18 (by decide) (fun c22 => ?_) (fun c22 => ?_)
      · replace h := fb_ie c22 h
        refine lv_iconst (v := 0) hx hb dX1_faultsOf_25 (by decide) ?_
        have h := Option.some.inj h
        subst h
        exact J2 ls (lv_sub hl [] rfl)
      · replace h := fb_it c22 h
        refine lv_iconst (v := 1) hx hb dX1_faultsOf_21 (by decide) ?_
        refine lv_goto (tgt := 26) hx hb dX1_faultsOf_22 (by decide) ?_
        have h := Option.some.inj h
        subst h
        exact J2 ls (lv_sub hl [] rfl)
  · replace h := fb_it c3 h
    refine lv_iconst (v := 0) hx hb dX1_faultsOf_8 (by decide) ?_
    have h := Option.some.inj h
    subst h
    exact W.iret hx hb hr (fun t ht _ => ⟨rfl, ht⟩) (fun q hq => absurd hq List.not_mem_nil) dX1_faultsOf_9
abbrev rmX1_steps : Room := { frames := 3, cells := 0, slots := 0, locals := 64 }
set_option maxHeartbeats 8000000 in
set_option maxRecDepth 100000 in
theorem metX1_steps (l : Launch) (D : va_G) (cI : ClassId) (h0 qn qf qw B0 : Nat) (th : Int32) (ch : Int32) (nt : Nat → Int32) (fg : Nat → Int32) (wt : Nat → Int32) (mi : Int32) (a1 : Int32) (ro : Int32) (h : fX1_steps th ch nt fg wt mi a1 = some ro) : Met l yX1_steps wsX1_steps rmX1_steps (va_Pc [.ref h0, .int a1] (fb_ok D [(cI, .int)] B0 fb_sX1 (fb_wX1 cI h0 qn qf qw th ch nt fg wt mi))) (QcRead ro) 0 0 (fun _ => False) := by
  refine Met.ofW (cc := cX1_steps) (maxL := 4) (ret := (some .int)) (by decide) rfl ?_
  intro p e s m args below meth c s₁ B hml hv
  obtain ⟨rfl, hP, hK, hZ⟩ := hv
  have hx := B.exec
  have hb := B.bytes
  have hr := B.returns
  have hts := atoms_spec (ws := wsX1_steps) B.pre
  have hown : s.vm.findClass RX1 = some m.cls := findClass_of_methodNamed B.named
  have hlocks := B.notSynchronized
  have hAB : ∀ q : Nat, (fun q => B0 ≤ q) q → B0 ≤ q := fun _ h9 => h9
  have hS : va_S (fun q => B0 ≤ q) s.heap s.heap [] := va_S.rf
  have hin0 : ∀ w ∈ u_ws RX1 TX1 6, w ∈ wsX1_steps := fun _ h9 => List.mem_cons_of_mem _ (List.mem_append_right _ (h9))
  have w_m73 : (Cond.methodLink RX1 73 Lib.Math.abs.name) ∈ wsX1_steps := List.mem_of_getElem? (i := 1) rfl
  have w_mcabs : (Cond.code Lib.Math.abs.name Lib.Math.abs.code 1 (some .int)) ∈ wsX1_steps := List.mem_of_getElem? (i := 4) rfl
  have w_mi : (Cond.initialized "java/lang/Math") ∈ wsX1_steps := List.mem_of_getElem? (i := 3) rfl
  have w_msabs : (Cond.static Lib.Math.abs.name) ∈ wsX1_steps := List.mem_of_getElem? (i := 2) rfl
  have hl := lv_entry ([.ref h0, .int a1]) (n := 4) (Nat.le_of_ble_eq_true rfl)
  rw [lg_entry_eq]
  generalize (lg_sl ([.ref h0, .int a1]) ++ List.replicate (4 - (lg_sl ([.ref h0, .int a1])).length) Slot.unset).toArray = ls at hl ⊢
  have hl : lv_has ls 4 [(0, .ref h0), (1, .int a1)] := hl
  unfold fX1_steps at h
  refine lv_iconst (v := 0) hx hb dX1_steps_0 (by decide) ?_
  refine lv_istore_n (lv' := [(2, .int 0), (0, .ref h0), (1, .int a1)]) hx hb dX1_steps_1 rfl hl (by decide) rfl (fun ls hl => ?_)
  refine lv_iconst (v := 1) hx hb dX1_steps_2 (by decide) ?_
  refine lv_istore_n (lv' := [(3, .int 1), (2, .int 0), (0, .ref h0), (1, .int a1)]) hx hb dX1_steps_3 rfl hl (by decide) rfl (fun ls hl => ?_)
  have LX1_steps_4 : ∀ (n : Nat) (v1 : Int32) (v2 : Int32) (o9 : Int32) (o10 : Int32), lpX1_steps_4 a1 th ch nt fg wt mi n v1 v2 = some (o9, o10) → ∀ (ls : Array Slot), lv_has ls 4 [(3, .int v1), (2, .int v2), (0, .ref h0), (1, .int a1)] → (∀ (ls : Array Slot), lv_has ls 4 [(3, .int o9), (2, .int o10), (0, .ref h0), (1, .int a1)] → W p l e (headSpec wsX1_steps rmX1_steps).room s m ([.ref h0, .int a1] : List Value).toArray below meth c s.heap [] 0 0 (MQ below (QcRead ro) ([.ref h0, .int a1] : List Value).toArray s 0 0 (fun _ => False)) (F0 m 35 ls [])) → W p l e (headSpec wsX1_steps rmX1_steps).room s m ([.ref h0, .int a1] : List Value).toArray below meth c s.heap [] 0 0 (MQ below (QcRead ro) ([.ref h0, .int a1] : List Value).toArray s 0 0 (fun _ => False)) (F0 m 4 ls []) := by
    intro n
    induction n with
    | zero =>
      intro v1 v2 o9 o10 h
      rw [lpX1_steps_4.eq_1] at h
      cases h
    | succ n ih =>
      intro v1 v2 o9 o10 h ls hl kx
      rw [lpX1_steps_4.eq_2] at h
      refine lv_iload_n hx hb dX1_steps_4 rfl (lv_at hl 0 rfl) ?_
      refine lv_iconst (v := 4) hx hb dX1_steps_5 (by decide) ?_
      refine lv_icmp_ge (tgt := 35) hx hb dX1_steps_6 (by decide) (fun c3 => ?_) (fun c3 => ?_)
      · replace h := fb_it c3 h
        obtain ⟨e1, e2⟩ := fb_p2 h
        subst e1
        subst e2
        exact kx ls (lv_sub hl [0, 1, 2, 3] rfl)
      · replace h := fb_ie c3 h
        refine lv_aload_n hx hb dX1_steps_9 rfl (lv_at hl 2 rfl) ?_
        refine lv_iload_n hx hb dX1_steps_10 rfl (lv_at hl 3 rfl) ?_
        obtain ⟨r5, h4, h⟩ := fb_b1s h
        refine fb_callR (W.runV (As := [.int a1]) (rest := []) ⟨hx, hb, hml, hown, hts⟩ (metX1_isPair l D cI h0 qn qf qw B0 th ch nt fg wt mi a1 r5 h4) (cwV 1 hts gX1_steps_X1_isPair rfl rfl rfl (by decide +kernel) ⟨Nat.le_of_ble_eq_true rfl, Nat.le_of_ble_eq_true rfl⟩) (fb_preVR (ci := 1) fb_sX1p hP hK hZ hS hAB rfl rfl _) rfl rfl hl.1 rfl (lv_room (Nat.le_of_ble_eq_true rfl)) dX1_steps_11 ⟨Nat.le_of_ble_eq_true rfl, Nat.le_of_ble_eq_true rfl⟩) ?_
        refine lv_if_eq (tgt := 35) hx hb dX1_steps_14 (by decide) (fun c6 => ?_) (fun c6 => ?_)
        · replace h := fb_it c6 h
          obtain ⟨e1, e2⟩ := fb_p2 h
          subst e1
          subst e2
          exact kx ls (lv_sub hl [0, 1, 2, 3] rfl)
        · replace h := fb_ie c6 h
          refine lv_iload_n hx hb dX1_steps_17 rfl (lv_at hl 1 rfl) ?_
          refine lv_aload_n hx hb dX1_steps_18 rfl (lv_at hl 2 rfl) ?_
          refine lv_iload_n hx hb dX1_steps_19 rfl (lv_at hl 3 rfl) ?_
          refine lv_iload_n hx hb dX1_steps_20 rfl (lv_at hl 0 rfl) ?_
          obtain ⟨r8, h7, h⟩ := fb_b1s h
          refine fb_callR (W.runV (As := [.int a1, .int v1]) (rest := [.int v2]) ⟨hx, hb, hml, hown, hts⟩ (metX1_goes l D cI h0 qn qf qw B0 th ch nt fg wt mi a1 v1 r8 h7) (cwV 2 hts gX1_steps_X1_goes rfl rfl rfl (by decide +kernel) ⟨Nat.le_of_ble_eq_true rfl, Nat.le_of_ble_eq_true rfl⟩) (fb_preVR (ci := 1) fb_sX1p hP hK hZ hS hAB rfl rfl _) rfl rfl hl.1 rfl (lv_room (Nat.le_of_ble_eq_true rfl)) dX1_steps_21 ⟨Nat.le_of_ble_eq_true rfl, Nat.le_of_ble_eq_true rfl⟩) ?_
          refine va_mabs hx hb (by rw [hml]; exact hl.1.symm) hown (hts _ w_m73) (hts _ w_msabs) (hts _ w_mi) (hts _ w_mcabs) (Nat.le_of_ble_eq_true rfl) (Nat.le_of_ble_eq_true rfl) (Nat.le_of_ble_eq_true rfl) (Nat.le_of_ble_eq_true rfl) dX1_steps_24 ?_
          refine lv_iadd hx hb dX1_steps_27 ?_
          refine lv_istore_n (lv' := [(2, .int (v2 + (if 0 ≤ r8 then r8 else 0 - r8))), (3, .int v1), (0, .ref h0), (1, .int a1)]) hx hb dX1_steps_28 rfl hl (by decide) rfl (fun ls hl => ?_)
          refine lv_iinc (v := v1 + 1) (lv' := [(3, .int (v1 + 1)), (2, .int (v2 + (if 0 ≤ r8 then r8 else 0 - r8))), (0, .ref h0), (1, .int a1)]) hx hb dX1_steps_29 hl (k := 1) rfl rfl (by decide) rfl (fun ls hl => ?_)
          refine lv_goto (tgt := 4) hx hb dX1_steps_32 (by decide) ?_
          exact ih _ _ o9 o10 h ls (lv_sub hl [0, 1, 2, 3] rfl) kx
  obtain ⟨o9, o10, h12, h⟩ := fb_b2s h
  refine LX1_steps_4 _ _ _ o9 o10 h12 ls (lv_sub hl [0, 1, 2, 3] rfl) (fun ls hl => ?_)
  refine lv_iload_n hx hb dX1_steps_35 rfl (lv_at hl 1 rfl) ?_
  have h := Option.some.inj h
  subst h
  exact W.iret hx hb hr (fun t ht _ => ⟨rfl, ht⟩) (fun q hq => absurd hq List.not_mem_nil) dX1_steps_36
abbrev rmX1_cost : Room := { frames := 4, cells := 0, slots := 0, locals := 95 }
set_option maxHeartbeats 8000000 in
set_option maxRecDepth 100000 in
theorem metX1_cost (l : Launch) (D : va_G) (cI : ClassId) (h0 qn qf qw B0 : Nat) (th : Int32) (ch : Int32) (nt : Nat → Int32) (fg : Nat → Int32) (wt : Nat → Int32) (mi : Int32) (a1 : Int32) (ro : Int32) (h : fX1_cost th ch nt fg wt mi a1 = some ro) : Met l yX1_cost wsX1_cost rmX1_cost (va_Pc [.ref h0, .int a1] (fb_ok D [(cI, .int)] B0 fb_sX1 (fb_wX1 cI h0 qn qf qw th ch nt fg wt mi))) (QcRead ro) 0 0 (fun _ => False) := by
  refine Met.ofW (cc := cX1_cost) (maxL := 4) (ret := (some .int)) (by decide) rfl ?_
  intro p e s m args below meth c s₁ B hml hv
  obtain ⟨rfl, hP, hK, hZ⟩ := hv
  have hx := B.exec
  have hb := B.bytes
  have hr := B.returns
  have hts := atoms_spec (ws := wsX1_cost) B.pre
  have hown : s.vm.findClass RX1 = some m.cls := findClass_of_methodNamed B.named
  have hlocks := B.notSynchronized
  have hAB : ∀ q : Nat, (fun q => B0 ≤ q) q → B0 ≤ q := fun _ h9 => h9
  have hS : va_S (fun q => B0 ≤ q) s.heap s.heap [] := va_S.rf
  have hin0 : ∀ w ∈ u_ws RX1 TX1 6, w ∈ wsX1_cost := fun _ h9 => List.mem_cons_of_mem _ (List.mem_append_right _ (h9))
  have w_f16 : (Cond.fieldLink RX1 16 "FiguredBassModel" "weights" "[I") ∈ wsX1_cost := List.mem_of_getElem? (i := 1) rfl
  have hl := lv_entry ([.ref h0, .int a1]) (n := 4) (Nat.le_of_ble_eq_true rfl)
  rw [lg_entry_eq]
  generalize (lg_sl ([.ref h0, .int a1]) ++ List.replicate (4 - (lg_sl ([.ref h0, .int a1])).length) Slot.unset).toArray = ls at hl ⊢
  have hl : lv_has ls 4 [(0, .ref h0), (1, .int a1)] := hl
  unfold fX1_cost at h
  refine lv_aload_n hx hb dX1_cost_0 rfl (lv_at hl 0 rfl) ?_
  refine lv_iload_n hx hb dX1_cost_1 rfl (lv_at hl 1 rfl) ?_
  obtain ⟨r2, h1, h⟩ := fb_b1s h
  refine fb_callR (W.runV (As := [.int a1]) (rest := []) ⟨hx, hb, hml, hown, hts⟩ (metX1_isSet l D cI h0 qn qf qw B0 th ch nt fg wt mi a1 r2 h1) (cwV 1 hts gX1_cost_X1_isSet rfl rfl rfl (by decide +kernel) ⟨Nat.le_of_ble_eq_true rfl, Nat.le_of_ble_eq_true rfl⟩) (fb_preVR (ci := 1) fb_sX1p hP hK hZ hS hAB rfl rfl _) rfl rfl hl.1 rfl (lv_room (Nat.le_of_ble_eq_true rfl)) dX1_cost_2 ⟨Nat.le_of_ble_eq_true rfl, Nat.le_of_ble_eq_true rfl⟩) ?_
  refine lv_if_ne (tgt := 10) hx hb dX1_cost_5 (by decide) (fun c3 => ?_) (fun c3 => ?_)
  · replace h := fb_ie c3 h
    refine lv_aload_n hx hb dX1_cost_10 rfl (lv_at hl 0 rfl) ?_
    refine lv_iload_n hx hb dX1_cost_11 rfl (lv_at hl 1 rfl) ?_
    obtain ⟨r5, h4, h⟩ := fb_b1s h
    refine fb_callR (W.runV (As := [.int a1]) (rest := []) ⟨hx, hb, hml, hown, hts⟩ (metX1_steps l D cI h0 qn qf qw B0 th ch nt fg wt mi a1 r5 h4) (cwV 1 hts gX1_cost_X1_steps rfl rfl rfl (by decide +kernel) ⟨Nat.le_of_ble_eq_true rfl, Nat.le_of_ble_eq_true rfl⟩) (fb_preVR (ci := 1) fb_sX1p hP hK hZ hS hAB rfl rfl _) rfl rfl hl.1 rfl (lv_room (Nat.le_of_ble_eq_true rfl)) dX1_cost_12 ⟨Nat.le_of_ble_eq_true rfl, Nat.le_of_ble_eq_true rfl⟩) ?_
    refine lv_aload_n hx hb dX1_cost_15 rfl (lv_at hl 0 rfl) ?_
    refine lv_iload_n hx hb dX1_cost_16 rfl (lv_at hl 1 rfl) ?_
    obtain ⟨r7, h6, h⟩ := fb_b1s h
    refine fb_callR (W.runV (As := [.int a1]) (rest := [.int r5]) ⟨hx, hb, hml, hown, hts⟩ (metX1_isRight l D cI h0 qn qf qw B0 th ch nt fg wt mi a1 r7 h6) (cwV 1 hts gX1_cost_X1_isRight rfl rfl rfl (by decide +kernel) ⟨Nat.le_of_ble_eq_true rfl, Nat.le_of_ble_eq_true rfl⟩) (fb_preVR (ci := 1) fb_sX1p hP hK hZ hS hAB rfl rfl _) rfl rfl hl.1 rfl (lv_room (Nat.le_of_ble_eq_true rfl)) dX1_cost_17 ⟨Nat.le_of_ble_eq_true rfl, Nat.le_of_ble_eq_true rfl⟩) ?_
    obtain ⟨j9, hjJ1, h⟩ := fb_b1s h
    have J1 : ∀ (ls : Array Slot), lv_has ls 4 [(0, .ref h0), (1, .int a1)] → W p l e (headSpec wsX1_cost rmX1_cost).room s m ([.ref h0, .int a1] : List Value).toArray below meth c s.heap [] 0 0 (MQ below (QcRead ro) ([.ref h0, .int a1] : List Value).toArray s 0 0 (fun _ => False)) (F0 m 29 ls [.int j9, .int r5]) := by
      intro ls hl
      refine lv_iadd hx hb dX1_cost_29 ?_
      refine lv_istore_n (lv' := [(2, .int (r5 + j9)), (0, .ref h0), (1, .int a1)]) hx hb dX1_cost_30 rfl hl (by decide) rfl (fun ls hl => ?_)
      refine lv_iconst (v := 0) hx hb dX1_cost_31 (by decide) ?_
      refine lv_istore_n (lv' := [(3, .int 0), (2, .int (r5 + j9)), (0, .ref h0), (1, .int a1)]) hx hb dX1_cost_32 rfl hl (by decide) rfl (fun ls hl => ?_)
      have LX1_cost_33 : ∀ (n : Nat) (v10 : Int32) (v11 : Int32) (o16 : Int32) (o17 : Int32), lpX1_cost_33 a1 th ch nt fg wt mi n v10 v11 = some (o16, o17) → ∀ (ls : Array Slot), lv_has ls 4 [(3, .int v10), (2, .int v11), (0, .ref h0), (1, .int a1)] → (∀ (ls : Array Slot), lv_has ls 4 [(3, .int o16), (2, .int o17), (0, .ref h0), (1, .int a1)] → W p l e (headSpec wsX1_cost rmX1_cost).room s m ([.ref h0, .int a1] : List Value).toArray below meth c s.heap [] 0 0 (MQ below (QcRead ro) ([.ref h0, .int a1] : List Value).toArray s 0 0 (fun _ => False)) (F0 m 61 ls [])) → W p l e (headSpec wsX1_cost rmX1_cost).room s m ([.ref h0, .int a1] : List Value).toArray below meth c s.heap [] 0 0 (MQ below (QcRead ro) ([.ref h0, .int a1] : List Value).toArray s 0 0 (fun _ => False)) (F0 m 33 ls []) := by
        intro n
        induction n with
        | zero =>
          intro v10 v11 o16 o17 h
          rw [lpX1_cost_33.eq_1] at h
          cases h
        | succ n ih =>
          intro v10 v11 o16 o17 h ls hl kx
          rw [lpX1_cost_33.eq_2] at h
          refine lv_iload_n hx hb dX1_cost_33 rfl (lv_at hl 0 rfl) ?_
          refine lv_bipush (v := 8) hx hb dX1_cost_34 (by decide) ?_
          refine lv_icmp_ge (tgt := 61) hx hb dX1_cost_36 (by decide) (fun c12 => ?_) (fun c12 => ?_)
          · replace h := fb_it c12 h
            obtain ⟨e1, e2⟩ := fb_p2 h
            subst e1
            subst e2
            exact kx ls (lv_sub hl [0, 1, 2, 3] rfl)
          · replace h := fb_ie c12 h
            refine lv_iload_n hx hb dX1_cost_39 rfl (lv_at hl 1 rfl) ?_
            refine lv_aload_n hx hb dX1_cost_40 rfl (lv_at hl 2 rfl) ?_
            refine va_get (D := D) (ci := 1) (v := .ref qw) (C := RX1) (T := TX1) (N := 6) hx hb hts hin0 hown hK hP 0 rfl rfl 4 (by decide) (hts _ w_f16) (fun _ h9 => h9) rfl dX1_cost_41 ?_
            refine lv_iload_n hx hb dX1_cost_44 rfl (lv_at hl 0 rfl) ?_
            obtain ⟨hi13, h⟩ := fb_cks h
            refine va_iald hx hb hK hP 3 0 rfl rfl (fb_ixin hi13) dX1_cost_45 ?_
            refine lv_aload_n hx hb dX1_cost_46 rfl (lv_at hl 2 rfl) ?_
            refine lv_iload_n hx hb dX1_cost_47 rfl (lv_at hl 3 rfl) ?_
            refine lv_iload_n hx hb dX1_cost_48 rfl (lv_at hl 0 rfl) ?_
            obtain ⟨r15, h14, h⟩ := fb_b1s h
            refine fb_callR (W.runV (As := [.int a1, .int v10]) (rest := [.int (wt v10.toNatClampNeg), .int v11]) ⟨hx, hb, hml, hown, hts⟩ (metX1_faultsOf l D cI h0 qn qf qw B0 th ch nt fg wt mi a1 v10 r15 h14) (cwV 2 hts gX1_cost_X1_faultsOf rfl rfl rfl (by decide +kernel) ⟨Nat.le_of_ble_eq_true rfl, Nat.le_of_ble_eq_true rfl⟩) (fb_preVR (ci := 1) fb_sX1p hP hK hZ hS hAB rfl rfl _) rfl rfl hl.1 rfl (lv_room (Nat.le_of_ble_eq_true rfl)) dX1_cost_49 ⟨Nat.le_of_ble_eq_true rfl, Nat.le_of_ble_eq_true rfl⟩) ?_
            refine lv_imul hx hb dX1_cost_52 ?_
            refine lv_iadd hx hb dX1_cost_53 ?_
            refine lv_istore_n (lv' := [(2, .int (v11 + ((wt v10.toNatClampNeg) * r15))), (3, .int v10), (0, .ref h0), (1, .int a1)]) hx hb dX1_cost_54 rfl hl (by decide) rfl (fun ls hl => ?_)
            refine lv_iinc (v := v10 + 1) (lv' := [(3, .int (v10 + 1)), (2, .int (v11 + ((wt v10.toNatClampNeg) * r15))), (0, .ref h0), (1, .int a1)]) hx hb dX1_cost_55 hl (k := 1) rfl rfl (by decide) rfl (fun ls hl => ?_)
            refine lv_goto (tgt := 33) hx hb dX1_cost_58 (by decide) ?_
            exact ih _ _ o16 o17 h ls (lv_sub hl [0, 1, 2, 3] rfl) kx
      obtain ⟨o16, o17, h19, h⟩ := fb_b2s h
      refine LX1_cost_33 _ _ _ o16 o17 h19 ls (lv_sub hl [0, 1, 2, 3] rfl) (fun ls hl => ?_)
      refine lv_iload_n hx hb dX1_cost_61 rfl (lv_at hl 1 rfl) ?_
      have h := Option.some.inj h
      subst h
      exact W.iret hx hb hr (fun t ht _ => ⟨rfl, ht⟩) (fun q hq => absurd hq List.not_mem_nil) dX1_cost_62
    replace h := hjJ1
    refine lv_if_eq (tgt := 27) hx hb dX1_cost_20 (by decide) (fun c8 => ?_) (fun c8 => ?_)
    · replace h := fb_it c8 h
      refine lv_bipush (v := 30) hx hb dX1_cost_27 (by decide) ?_
      have h := Option.some.inj h
      subst h
      exact J1 ls (lv_sub hl [0, 1] rfl)
    · replace h := fb_ie c8 h
      refine lv_iconst (v := 0) hx hb dX1_cost_23 (by decide) ?_
      refine lv_goto (tgt := 29) hx hb dX1_cost_24 (by decide) ?_
      have h := Option.some.inj h
      subst h
      exact J1 ls (lv_sub hl [0, 1] rfl)
  · replace h := fb_it c3 h
    refine lv_iconst (v := 0) hx hb dX1_cost_8 (by decide) ?_
    have h := Option.some.inj h
    subst h
    exact W.iret hx hb hr (fun t ht _ => ⟨rfl, ht⟩) (fun q hq => absurd hq List.not_mem_nil) dX1_cost_9
abbrev rmX1_let : Room := { frames := 0, cells := 0, slots := 0, locals := 0 }
set_option maxHeartbeats 8000000 in
set_option maxRecDepth 100000 in
theorem metX1_let (l : Launch) (D : va_G) (cI : ClassId) (h0 qn qf qw B0 : Nat) (th : Int32) (ch : Int32) (nt : Nat → Int32) (fg : Nat → Int32) (wt : Nat → Int32) (mi : Int32) (a1 : Int32) (a2 : Int32) (a3 : Int32) (a4 : Int32) (hz : Nat) (nto : Nat → Int32) (h : fX1_let th ch nt fg wt mi a1 a2 a3 a4 = some nto) : Met l yX1_let wsX1_let rmX1_let (va_Pc [.ref h0, .int a1, .int a2, .int a3, .int a4] (fb_pm D [(cI, .int)] B0 fb_sX1 (fb_wX1 cI h0 qn qf qw th ch nt fg wt mi) hz)) (fb_qM (fun q => none) (fun q => fb_wX1 cI h0 qn qf qw th ch nto fg wt mi) D (va_A (fb_wX1 cI h0 qn qf qw th ch nt fg wt mi) hz)) 0 0 (va_A (fb_wX1 cI h0 qn qf qw th ch nt fg wt mi) hz) := by
  refine Met.ofW (cc := cX1_let) (maxL := 5) (ret := none) (by decide) rfl ?_
  intro p e s m args below meth c s₁ B hml hv
  obtain ⟨rfl, hsz, ⟨hP, hK, hZ⟩, hD0, hAB⟩ := hv
  have hx := B.exec
  have hb := B.bytes
  have hr := B.returns
  have hts := atoms_spec (ws := wsX1_let) B.pre
  have hown : s.vm.findClass RX1 = some m.cls := findClass_of_methodNamed B.named
  have hlocks := B.notSynchronized
  subst hsz
  have hD := hD0.self (sz := s.heap.size)
  generalize hAe : va_A (fb_wX1 cI h0 qn qf qw th ch nt fg wt mi) s.heap.size = A at hD hAB ⊢
  have hA : ∀ q : Nat, s.heap.size ≤ q → A q := fun q h9 => by rw [← hAe]; exact Or.inr h9
  have hS : va_S A s.heap s.heap [] := va_S.rf
  have hP : va_P D vwCl (fb_wX1 cI h0 qn qf qw th ch nt fg wt mi) s.heap := hP
  have hin0 : ∀ w ∈ u_ws RX1 TX1 6, w ∈ wsX1_let := fun _ h9 => List.mem_cons_of_mem _ (List.mem_append_right _ (h9))
  have w_f9 : (Cond.fieldLink RX1 9 "FiguredBassModel" "notes" "[I") ∈ wsX1_let := List.mem_of_getElem? (i := 1) rfl
  have hl := lv_entry ([.ref h0, .int a1, .int a2, .int a3, .int a4]) (n := 5) (Nat.le_of_ble_eq_true rfl)
  rw [lg_entry_eq]
  generalize (lg_sl ([.ref h0, .int a1, .int a2, .int a3, .int a4]) ++ List.replicate (5 - (lg_sl ([.ref h0, .int a1, .int a2, .int a3, .int a4])).length) Slot.unset).toArray = ls at hl ⊢
  have hl : lv_has ls 5 [(0, .ref h0), (1, .int a1), (2, .int a2), (3, .int a3), (4, .int a4)] := hl
  suffices K : ∀ (H : Heap) (locs : List Loc), va_P D vwCl (fb_wX1 cI h0 qn qf qw th ch nt fg wt mi) H → va_S A s.heap H locs → W p l e (headSpec wsX1_let rmX1_let).room s m ([.ref h0, .int a1, .int a2, .int a3, .int a4] : List Value).toArray below meth c H locs 0 0 (MQ below (fb_qM (fun q => none) (fun q => fb_wX1 cI h0 qn qf qw th ch nto fg wt mi) D A) ([.ref h0, .int a1, .int a2, .int a3, .int a4] : List Value).toArray s 0 0 A) (F0 m 0 ls []) from K s.heap [] hP hS
  intro H locs hP hS
  unfold fX1_let at h
  refine lv_aload_n hx hb dX1_let_0 rfl (lv_at hl 0 rfl) ?_
  refine va_get (D := D) (ci := 1) (v := .ref qn) (C := RX1) (T := TX1) (N := 6) hx hb hts hin0 hown hK hP 0 rfl rfl 2 (by decide) (hts _ w_f9) (fun _ h9 => h9) rfl dX1_let_1 ?_
  refine lv_iconst (v := 4) hx hb dX1_let_4 (by decide) ?_
  refine lv_iload_n hx hb dX1_let_5 rfl (lv_at hl 1 rfl) ?_
  refine lv_imul hx hb dX1_let_6 ?_
  refine lv_iconst (v := 1) hx hb dX1_let_7 (by decide) ?_
  refine lv_iadd hx hb dX1_let_8 ?_
  refine lv_iload_n hx hb dX1_let_9 rfl (lv_at hl 2 rfl) ?_
  obtain ⟨hi1, h⟩ := fb_cks h
  refine va_iast hx hb hK hP hD hS 1 0 rfl rfl (fb_ixin hi1) dX1_let_10 (fun H locs hP hD hS => ?_)
  have hP : va_P D vwCl (fb_wX1 cI h0 qn qf qw th ch (upd nt (((4 : Int32) * a1) + 1).toNatClampNeg a2) fg wt mi) H := hP
  have hD : va_D A (fb_wX1 cI h0 qn qf qw th ch (upd nt (((4 : Int32) * a1) + 1).toNatClampNeg a2) fg wt mi) := hD
  refine lv_aload_n hx hb dX1_let_11 rfl (lv_at hl 0 rfl) ?_
  refine va_get (D := D) (ci := 1) (v := .ref qn) (C := RX1) (T := TX1) (N := 6) hx hb hts hin0 hown hK hP 0 rfl rfl 2 (by decide) (hts _ w_f9) (fun _ h9 => h9) rfl dX1_let_12 ?_
  refine lv_iconst (v := 4) hx hb dX1_let_15 (by decide) ?_
  refine lv_iload_n hx hb dX1_let_16 rfl (lv_at hl 1 rfl) ?_
  refine lv_imul hx hb dX1_let_17 ?_
  refine lv_iconst (v := 2) hx hb dX1_let_18 (by decide) ?_
  refine lv_iadd hx hb dX1_let_19 ?_
  refine lv_iload_n hx hb dX1_let_20 rfl (lv_at hl 3 rfl) ?_
  obtain ⟨hi2, h⟩ := fb_cks h
  refine va_iast hx hb hK hP hD hS 1 0 rfl rfl (fb_ixin hi2) dX1_let_21 (fun H locs hP hD hS => ?_)
  have hP : va_P D vwCl (fb_wX1 cI h0 qn qf qw th ch (upd (upd nt (((4 : Int32) * a1) + 1).toNatClampNeg a2) (((4 : Int32) * a1) + 2).toNatClampNeg a3) fg wt mi) H := hP
  have hD : va_D A (fb_wX1 cI h0 qn qf qw th ch (upd (upd nt (((4 : Int32) * a1) + 1).toNatClampNeg a2) (((4 : Int32) * a1) + 2).toNatClampNeg a3) fg wt mi) := hD
  refine lv_aload_n hx hb dX1_let_22 rfl (lv_at hl 0 rfl) ?_
  refine va_get (D := D) (ci := 1) (v := .ref qn) (C := RX1) (T := TX1) (N := 6) hx hb hts hin0 hown hK hP 0 rfl rfl 2 (by decide) (hts _ w_f9) (fun _ h9 => h9) rfl dX1_let_23 ?_
  refine lv_iconst (v := 4) hx hb dX1_let_26 (by decide) ?_
  refine lv_iload_n hx hb dX1_let_27 rfl (lv_at hl 1 rfl) ?_
  refine lv_imul hx hb dX1_let_28 ?_
  refine lv_iconst (v := 3) hx hb dX1_let_29 (by decide) ?_
  refine lv_iadd hx hb dX1_let_30 ?_
  refine lv_iload hx hb dX1_let_31 (lv_at hl 4 rfl) ?_
  obtain ⟨hi3, h⟩ := fb_cks h
  refine va_iast hx hb hK hP hD hS 1 0 rfl rfl (fb_ixin hi3) dX1_let_33 (fun H locs hP hD hS => ?_)
  have hP : va_P D vwCl (fb_wX1 cI h0 qn qf qw th ch (upd (upd (upd nt (((4 : Int32) * a1) + 1).toNatClampNeg a2) (((4 : Int32) * a1) + 2).toNatClampNeg a3) (((4 : Int32) * a1) + 3).toNatClampNeg a4) fg wt mi) H := hP
  have hD : va_D A (fb_wX1 cI h0 qn qf qw th ch (upd (upd (upd nt (((4 : Int32) * a1) + 1).toNatClampNeg a2) (((4 : Int32) * a1) + 2).toNatClampNeg a3) (((4 : Int32) * a1) + 3).toNatClampNeg a4) fg wt mi) := hD
  have h := Option.some.inj h
  subst h
  exact W.vret hx hb hr (fun t ht _ => ⟨⟨0, rfl, by rw [ht]; exact hP, hD⟩, hS.F ht⟩) hS.2.2 dX1_let_34
abbrev rmX1_led : Room := { frames := 5, cells := 2, slots := 6, locals := 118 }
set_option maxHeartbeats 8000000 in
set_option maxRecDepth 100000 in
theorem metX1_led (l : Launch) (D : va_G) (cI : ClassId) (h0 qn qf qw B0 : Nat) (th : Int32) (ch : Int32) (nt : Nat → Int32) (fg : Nat → Int32) (wt : Nat → Int32) (mi : Int32) (a1 : Int32) (hz : Nat) (nto : Nat → Int32) (fo : Nat → Int32) (h : fX1_led th ch nt fg wt mi a1 = some (nto, fo)) : Met l yX1_led wsX1_led rmX1_led (va_Pc [.ref h0, .int a1] (fb_pm D [(cI, .int)] B0 fb_sX1 (fb_wX1 cI h0 qn qf qw th ch nt fg wt mi) hz)) (fb_qM (fun q => some (.ref q)) (fun q => fb_wX1 cI h0 qn qf qw th ch nto fg wt mi ++ [(q, .inl (cI, 3, .inl fo))]) D (va_A (fb_wX1 cI h0 qn qf qw th ch nt fg wt mi) hz)) 2 6 (va_A (fb_wX1 cI h0 qn qf qw th ch nt fg wt mi) hz) := by
  refine Met.ofW (cc := cX1_led) (maxL := 8) (ret := (some (.array .int))) (by decide) rfl ?_
  intro p e s m args below meth c s₁ B hml hv
  obtain ⟨rfl, hsz, ⟨hP, hK, hZ⟩, hD0, hAB⟩ := hv
  have hx := B.exec
  have hb := B.bytes
  have hr := B.returns
  have hts := atoms_spec (ws := wsX1_led) B.pre
  have hown : s.vm.findClass RX1 = some m.cls := findClass_of_methodNamed B.named
  have hlocks := B.notSynchronized
  subst hsz
  have hD := hD0.self (sz := s.heap.size)
  generalize hAe : va_A (fb_wX1 cI h0 qn qf qw th ch nt fg wt mi) s.heap.size = A at hD hAB ⊢
  have hA : ∀ q : Nat, s.heap.size ≤ q → A q := fun q h9 => by rw [← hAe]; exact Or.inr h9
  have hS : va_S A s.heap s.heap [] := va_S.rf
  have hP : va_P D vwCl (fb_wX1 cI h0 qn qf qw th ch nt fg wt mi) s.heap := hP
  obtain ⟨t_HIGH, hz_HIGH, ht_HIGH⟩ := fb_stA_narrow hZ.2.1 hAB
  obtain ⟨t_LOW, hz_LOW, ht_LOW⟩ := fb_stA_narrow hZ.1 hAB
  have hin0 : ∀ w ∈ u_ws RX1 TX1 6, w ∈ wsX1_led := fun _ h9 => List.mem_cons_of_mem _ (List.mem_append_right _ (h9))
  have w_arr : (Cond.arrayClass .int) ∈ wsX1_led := List.mem_of_getElem? (i := 1) rfl
  have w_f13 : (Cond.fieldLink RX1 13 "FiguredBassModel" "figures" "[I") ∈ wsX1_led := List.mem_of_getElem? (i := 4) rfl
  have w_f23 : (Cond.fieldLink RX1 23 "FiguredBassModel" "chords" "I") ∈ wsX1_led := List.mem_of_getElem? (i := 9) rfl
  have w_f30 : (Cond.fieldLink RX1 30 "FiguredBassModel" "LOW" "[I") ∈ wsX1_led := List.mem_of_getElem? (i := 2) rfl
  have w_f33 : (Cond.fieldLink RX1 33 "FiguredBassModel" "HIGH" "[I") ∈ wsX1_led := List.mem_of_getElem? (i := 3) rfl
  have w_m103 : (Cond.methodLink RX1 103 Lib.Math.max.name) ∈ wsX1_led := List.mem_of_getElem? (i := 5) rfl
  have w_mcmax : (Cond.code Lib.Math.max.name Lib.Math.max.code 2 (some .int)) ∈ wsX1_led := List.mem_of_getElem? (i := 8) rfl
  have w_mi : (Cond.initialized "java/lang/Math") ∈ wsX1_led := List.mem_of_getElem? (i := 7) rfl
  have w_msmax : (Cond.static Lib.Math.max.name) ∈ wsX1_led := List.mem_of_getElem? (i := 6) rfl
  have hl := lv_entry ([.ref h0, .int a1]) (n := 8) (Nat.le_of_ble_eq_true rfl)
  rw [lg_entry_eq]
  generalize (lg_sl ([.ref h0, .int a1]) ++ List.replicate (8 - (lg_sl ([.ref h0, .int a1])).length) Slot.unset).toArray = ls at hl ⊢
  have hl : lv_has ls 8 [(0, .ref h0), (1, .int a1)] := hl
  suffices K : ∀ (H : Heap) (locs : List Loc), va_P D vwCl (fb_wX1 cI h0 qn qf qw th ch nt fg wt mi) H → va_S A s.heap H locs → W p l e (headSpec wsX1_led rmX1_led).room s m ([.ref h0, .int a1] : List Value).toArray below meth c H locs 0 0 (MQ below (fb_qM (fun q => some (.ref q)) (fun q => fb_wX1 cI h0 qn qf qw th ch nto fg wt mi ++ [(q, .inl (cI, 3, .inl fo))]) D A) ([.ref h0, .int a1] : List Value).toArray s 2 6 A) (F0 m 0 ls []) from K s.heap [] hP hS
  intro H locs hP hS
  unfold fX1_led at h
  refine lv_iconst (v := 3) hx hb dX1_led_0 (by decide) ?_
  refine va_newa (atype := .int) hx hb (hts _ w_arr) (ty := .int) rfl hK hP hD hS hA (N' := 3) (a0 := (3, .inl (fun _ => 0))) (fun _ => rfl) (by decide) (by decide) (by decide) (Nat.le_of_ble_eq_true rfl) (Nat.le_of_ble_eq_true rfl) dX1_led_1 (fun q1 cA H hK1 hP hD hS => ?_)
  obtain rfl := fb_cA hK1
  have hP : va_P D vwCl (fb_wX1 cI h0 qn qf qw th ch nt fg wt mi ++ [(q1, .inl (cI, 3, .inl (fun _ => 0)))]) H := hP
  have hD : va_D A (fb_wX1 cI h0 qn qf qw th ch nt fg wt mi ++ [(q1, .inl (cI, 3, .inl (fun _ => 0)))]) := hD
  refine lv_dup hx hb dX1_led_3 rfl ?_
  refine lv_iconst (v := 0) hx hb dX1_led_4 (by decide) ?_
  refine lv_aload_n hx hb dX1_led_5 rfl (lv_at hl 0 rfl) ?_
  refine lv_iload_n hx hb dX1_led_6 rfl (lv_at hl 1 rfl) ?_
  refine lv_iconst (v := 1) hx hb dX1_led_7 (by decide) ?_
  obtain ⟨r3, h2, h⟩ := fb_b1s h
  refine fb_callR (W.runV (As := [.int a1, .int 1]) (rest := [.int 0, .ref q1, .ref q1]) ⟨hx, hb, hml, hown, hts⟩ (metX1_at l D cI h0 qn qf qw B0 th ch nt fg wt mi a1 1 r3 h2) (cwV 2 hts gX1_led_X1_at rfl rfl rfl (by decide +kernel) ⟨Nat.le_of_ble_eq_true rfl, Nat.le_of_ble_eq_true rfl⟩) (fb_preVR (ci := 1) fb_sX1p (hP.sub (ws' := fb_wX1 cI h0 qn qf qw th ch nt fg wt mi) [0, 1, 2, 3] rfl) hK hZ hS hAB rfl rfl _) rfl rfl hl.1 rfl (lv_room (Nat.le_of_ble_eq_true rfl)) dX1_led_8 ⟨Nat.le_of_ble_eq_true rfl, Nat.le_of_ble_eq_true rfl⟩) ?_
  refine va_iast hx hb hK hP hD hS 4 0 rfl rfl (fb_ixin (by decide)) dX1_led_11 (fun H locs hP hD hS => ?_)
  have hP : va_P D vwCl (fb_wX1 cI h0 qn qf qw th ch nt fg wt mi ++ [(q1, .inl (cI, 3, .inl (upd (fun _ => 0) (0 : Int32).toNatClampNeg r3)))]) H := hP
  have hD : va_D A (fb_wX1 cI h0 qn qf qw th ch nt fg wt mi ++ [(q1, .inl (cI, 3, .inl (upd (fun _ => 0) (0 : Int32).toNatClampNeg r3)))]) := hD
  refine lv_dup hx hb dX1_led_12 rfl ?_
  refine lv_iconst (v := 1) hx hb dX1_led_13 (by decide) ?_
  refine lv_aload_n hx hb dX1_led_14 rfl (lv_at hl 0 rfl) ?_
  refine lv_iload_n hx hb dX1_led_15 rfl (lv_at hl 1 rfl) ?_
  refine lv_iconst (v := 2) hx hb dX1_led_16 (by decide) ?_
  obtain ⟨r5, h4, h⟩ := fb_b1s h
  refine fb_callR (W.runV (As := [.int a1, .int 2]) (rest := [.int 1, .ref q1, .ref q1]) ⟨hx, hb, hml, hown, hts⟩ (metX1_at l D cI h0 qn qf qw B0 th ch nt fg wt mi a1 2 r5 h4) (cwV 2 hts gX1_led_X1_at rfl rfl rfl (by decide +kernel) ⟨Nat.le_of_ble_eq_true rfl, Nat.le_of_ble_eq_true rfl⟩) (fb_preVR (ci := 1) fb_sX1p (hP.sub (ws' := fb_wX1 cI h0 qn qf qw th ch nt fg wt mi) [0, 1, 2, 3] rfl) hK hZ hS hAB rfl rfl _) rfl rfl hl.1 rfl (lv_room (Nat.le_of_ble_eq_true rfl)) dX1_led_17 ⟨Nat.le_of_ble_eq_true rfl, Nat.le_of_ble_eq_true rfl⟩) ?_
  refine va_iast hx hb hK hP hD hS 4 0 rfl rfl (fb_ixin (by decide)) dX1_led_20 (fun H locs hP hD hS => ?_)
  have hP : va_P D vwCl (fb_wX1 cI h0 qn qf qw th ch nt fg wt mi ++ [(q1, .inl (cI, 3, .inl (upd (upd (fun _ => 0) (0 : Int32).toNatClampNeg r3) (1 : Int32).toNatClampNeg r5)))]) H := hP
  have hD : va_D A (fb_wX1 cI h0 qn qf qw th ch nt fg wt mi ++ [(q1, .inl (cI, 3, .inl (upd (upd (fun _ => 0) (0 : Int32).toNatClampNeg r3) (1 : Int32).toNatClampNeg r5)))]) := hD
  refine lv_dup hx hb dX1_led_21 rfl ?_
  refine lv_iconst (v := 2) hx hb dX1_led_22 (by decide) ?_
  refine lv_aload_n hx hb dX1_led_23 rfl (lv_at hl 0 rfl) ?_
  refine lv_iload_n hx hb dX1_led_24 rfl (lv_at hl 1 rfl) ?_
  refine lv_iconst (v := 3) hx hb dX1_led_25 (by decide) ?_
  obtain ⟨r7, h6, h⟩ := fb_b1s h
  refine fb_callR (W.runV (As := [.int a1, .int 3]) (rest := [.int 2, .ref q1, .ref q1]) ⟨hx, hb, hml, hown, hts⟩ (metX1_at l D cI h0 qn qf qw B0 th ch nt fg wt mi a1 3 r7 h6) (cwV 2 hts gX1_led_X1_at rfl rfl rfl (by decide +kernel) ⟨Nat.le_of_ble_eq_true rfl, Nat.le_of_ble_eq_true rfl⟩) (fb_preVR (ci := 1) fb_sX1p (hP.sub (ws' := fb_wX1 cI h0 qn qf qw th ch nt fg wt mi) [0, 1, 2, 3] rfl) hK hZ hS hAB rfl rfl _) rfl rfl hl.1 rfl (lv_room (Nat.le_of_ble_eq_true rfl)) dX1_led_26 ⟨Nat.le_of_ble_eq_true rfl, Nat.le_of_ble_eq_true rfl⟩) ?_
  refine va_iast hx hb hK hP hD hS 4 0 rfl rfl (fb_ixin (by decide)) dX1_led_29 (fun H locs hP hD hS => ?_)
  have hP : va_P D vwCl (fb_wX1 cI h0 qn qf qw th ch nt fg wt mi ++ [(q1, .inl (cI, 3, .inl (upd (upd (upd (fun _ => 0) (0 : Int32).toNatClampNeg r3) (1 : Int32).toNatClampNeg r5) (2 : Int32).toNatClampNeg r7)))]) H := hP
  have hD : va_D A (fb_wX1 cI h0 qn qf qw th ch nt fg wt mi ++ [(q1, .inl (cI, 3, .inl (upd (upd (upd (fun _ => 0) (0 : Int32).toNatClampNeg r3) (1 : Int32).toNatClampNeg r5) (2 : Int32).toNatClampNeg r7)))]) := hD
  refine lv_astore_n (lv' := [(2, .ref q1), (0, .ref h0), (1, .int a1)]) hx hb dX1_led_30 rfl hl (by decide) rfl (fun ls hl => ?_)
  refine lv_iconst (v := 3) hx hb dX1_led_31 (by decide) ?_
  refine va_newa (atype := .int) hx hb (hts _ w_arr) (ty := .int) rfl hK hP hD hS hA (N' := 3) (a0 := (3, .inl (fun _ => 0))) (fun _ => rfl) (by decide) (by decide) (by decide) (Nat.le_of_ble_eq_true rfl) (Nat.le_of_ble_eq_true rfl) dX1_led_32 (fun q8 cA H hK1 hP hD hS => ?_)
  obtain rfl := fb_cA hK1
  have hP : va_P D vwCl (fb_wX1 cI h0 qn qf qw th ch nt fg wt mi ++ [(q1, .inl (cI, 3, .inl (upd (upd (upd (fun _ => 0) (0 : Int32).toNatClampNeg r3) (1 : Int32).toNatClampNeg r5) (2 : Int32).toNatClampNeg r7))), (q8, .inl (cI, 3, .inl (fun _ => 0)))]) H := hP
  have hD : va_D A (fb_wX1 cI h0 qn qf qw th ch nt fg wt mi ++ [(q1, .inl (cI, 3, .inl (upd (upd (upd (fun _ => 0) (0 : Int32).toNatClampNeg r3) (1 : Int32).toNatClampNeg r5) (2 : Int32).toNatClampNeg r7))), (q8, .inl (cI, 3, .inl (fun _ => 0)))]) := hD
  refine lv_dup hx hb dX1_led_34 rfl ?_
  refine lv_iconst (v := 0) hx hb dX1_led_35 (by decide) ?_
  refine lv_iconst (v := (-1)) hx hb dX1_led_36 (by decide) ?_
  refine va_iast hx hb hK hP hD hS 5 0 rfl rfl (fb_ixin (by decide)) dX1_led_37 (fun H locs hP hD hS => ?_)
  have hP : va_P D vwCl (fb_wX1 cI h0 qn qf qw th ch nt fg wt mi ++ [(q1, .inl (cI, 3, .inl (upd (upd (upd (fun _ => 0) (0 : Int32).toNatClampNeg r3) (1 : Int32).toNatClampNeg r5) (2 : Int32).toNatClampNeg r7))), (q8, .inl (cI, 3, .inl (upd (fun _ => 0) (0 : Int32).toNatClampNeg (-1))))]) H := hP
  have hD : va_D A (fb_wX1 cI h0 qn qf qw th ch nt fg wt mi ++ [(q1, .inl (cI, 3, .inl (upd (upd (upd (fun _ => 0) (0 : Int32).toNatClampNeg r3) (1 : Int32).toNatClampNeg r5) (2 : Int32).toNatClampNeg r7))), (q8, .inl (cI, 3, .inl (upd (fun _ => 0) (0 : Int32).toNatClampNeg (-1))))]) := hD
  refine lv_dup hx hb dX1_led_38 rfl ?_
  refine lv_iconst (v := 1) hx hb dX1_led_39 (by decide) ?_
  refine lv_iconst (v := 0) hx hb dX1_led_40 (by decide) ?_
  refine va_iast hx hb hK hP hD hS 5 0 rfl rfl (fb_ixin (by decide)) dX1_led_41 (fun H locs hP hD hS => ?_)
  have hP : va_P D vwCl (fb_wX1 cI h0 qn qf qw th ch nt fg wt mi ++ [(q1, .inl (cI, 3, .inl (upd (upd (upd (fun _ => 0) (0 : Int32).toNatClampNeg r3) (1 : Int32).toNatClampNeg r5) (2 : Int32).toNatClampNeg r7))), (q8, .inl (cI, 3, .inl (upd (upd (fun _ => 0) (0 : Int32).toNatClampNeg (-1)) (1 : Int32).toNatClampNeg 0)))]) H := hP
  have hD : va_D A (fb_wX1 cI h0 qn qf qw th ch nt fg wt mi ++ [(q1, .inl (cI, 3, .inl (upd (upd (upd (fun _ => 0) (0 : Int32).toNatClampNeg r3) (1 : Int32).toNatClampNeg r5) (2 : Int32).toNatClampNeg r7))), (q8, .inl (cI, 3, .inl (upd (upd (fun _ => 0) (0 : Int32).toNatClampNeg (-1)) (1 : Int32).toNatClampNeg 0)))]) := hD
  refine lv_dup hx hb dX1_led_42 rfl ?_
  refine lv_iconst (v := 2) hx hb dX1_led_43 (by decide) ?_
  refine lv_iconst (v := 0) hx hb dX1_led_44 (by decide) ?_
  refine va_iast hx hb hK hP hD hS 5 0 rfl rfl (fb_ixin (by decide)) dX1_led_45 (fun H locs hP hD hS => ?_)
  have hP : va_P D vwCl (fb_wX1 cI h0 qn qf qw th ch nt fg wt mi ++ [(q1, .inl (cI, 3, .inl (upd (upd (upd (fun _ => 0) (0 : Int32).toNatClampNeg r3) (1 : Int32).toNatClampNeg r5) (2 : Int32).toNatClampNeg r7))), (q8, .inl (cI, 3, .inl (upd (upd (upd (fun _ => 0) (0 : Int32).toNatClampNeg (-1)) (1 : Int32).toNatClampNeg 0) (2 : Int32).toNatClampNeg 0)))]) H := hP
  have hD : va_D A (fb_wX1 cI h0 qn qf qw th ch nt fg wt mi ++ [(q1, .inl (cI, 3, .inl (upd (upd (upd (fun _ => 0) (0 : Int32).toNatClampNeg r3) (1 : Int32).toNatClampNeg r5) (2 : Int32).toNatClampNeg r7))), (q8, .inl (cI, 3, .inl (upd (upd (upd (fun _ => 0) (0 : Int32).toNatClampNeg (-1)) (1 : Int32).toNatClampNeg 0) (2 : Int32).toNatClampNeg 0)))]) := hD
  refine lv_astore_n (lv' := [(3, .ref q8), (2, .ref q1), (0, .ref h0), (1, .int a1)]) hx hb dX1_led_46 rfl hl (by decide) rfl (fun ls hl => ?_)
  refine va_gets hx hb hz_LOW hS hown (hts _ w_f30) (fun _ h9 => h9) dX1_led_47 ?_
  refine lv_iconst (v := 1) hx hb dX1_led_50 (by decide) ?_
  refine va_ti hx hb ht_LOW hS (fb_ixin (by decide)) rfl dX1_led_51 ?_
  refine lv_istore (lv' := [(4, .int (fb_tX1_LOW (1 : Int32).toNatClampNeg)), (3, .ref q8), (2, .ref q1), (0, .ref h0), (1, .int a1)]) hx hb dX1_led_52 hl (by decide) rfl (fun ls hl => ?_)
  have LX1_led_54 : ∀ (n : Nat) (v9 : Int32) (nt_10 : Nat → Int32) (f11 : Nat → Int32) (o58 : Int32) (o59 : Nat → Int32) (o60 : Nat → Int32), lpX1_led_54 a1 th ch fg wt mi n v9 nt_10 f11 = some (o58, o59, o60) → ∀ (H : Heap) (locs : List Loc), va_P D vwCl (fb_wX1 cI h0 qn qf qw th ch nt_10 fg wt mi ++ [(q1, .inl (cI, 3, .inl (upd (upd (upd (fun _ => 0) (0 : Int32).toNatClampNeg r3) (1 : Int32).toNatClampNeg r5) (2 : Int32).toNatClampNeg r7))), (q8, .inl (cI, 3, .inl f11))]) H → va_D A (fb_wX1 cI h0 qn qf qw th ch nt_10 fg wt mi ++ [(q1, .inl (cI, 3, .inl (upd (upd (upd (fun _ => 0) (0 : Int32).toNatClampNeg r3) (1 : Int32).toNatClampNeg r5) (2 : Int32).toNatClampNeg r7))), (q8, .inl (cI, 3, .inl f11))]) → va_S A s.heap H locs → ∀ (ls : Array Slot), lv_has ls 8 [(4, .int v9), (3, .ref q8), (2, .ref q1), (0, .ref h0), (1, .int a1)] → (∀ (H : Heap) (locs : List Loc), va_P D vwCl (fb_wX1 cI h0 qn qf qw th ch o59 fg wt mi ++ [(q1, .inl (cI, 3, .inl (upd (upd (upd (fun _ => 0) (0 : Int32).toNatClampNeg r3) (1 : Int32).toNatClampNeg r5) (2 : Int32).toNatClampNeg r7))), (q8, .inl (cI, 3, .inl o60))]) H → va_D A (fb_wX1 cI h0 qn qf qw th ch o59 fg wt mi ++ [(q1, .inl (cI, 3, .inl (upd (upd (upd (fun _ => 0) (0 : Int32).toNatClampNeg r3) (1 : Int32).toNatClampNeg r5) (2 : Int32).toNatClampNeg r7))), (q8, .inl (cI, 3, .inl o60))]) → va_S A s.heap H locs → ∀ (ls : Array Slot), lv_has ls 8 [(4, .int o58), (3, .ref q8), (2, .ref q1), (0, .ref h0), (1, .int a1)] → W p l e (headSpec wsX1_led rmX1_led).room s m ([.ref h0, .int a1] : List Value).toArray below meth c H locs 2 6 (MQ below (fb_qM (fun q => some (.ref q)) (fun q => fb_wX1 cI h0 qn qf qw th ch nto fg wt mi ++ [(q, .inl (cI, 3, .inl fo))]) D A) ([.ref h0, .int a1] : List Value).toArray s 2 6 A) (F0 m 271 ls [])) → W p l e (headSpec wsX1_led rmX1_led).room s m ([.ref h0, .int a1] : List Value).toArray below meth c H locs 2 6 (MQ below (fb_qM (fun q => some (.ref q)) (fun q => fb_wX1 cI h0 qn qf qw th ch nto fg wt mi ++ [(q, .inl (cI, 3, .inl fo))]) D A) ([.ref h0, .int a1] : List Value).toArray s 2 6 A) (F0 m 54 ls []) := by
    intro n
    induction n with
    | zero =>
      intro v9 nt_10 f11 o58 o59 o60 h
      rw [lpX1_led_54.eq_1] at h
      cases h
    | succ n ih =>
      intro v9 nt_10 f11 o58 o59 o60 h H locs hP hD hS ls hl kx
      rw [lpX1_led_54.eq_2] at h
      refine lv_iload hx hb dX1_led_54 (lv_at hl 0 rfl) ?_
      refine va_gets hx hb hz_HIGH hS hown (hts _ w_f33) (fun _ h9 => h9) dX1_led_56 ?_
      refine lv_iconst (v := 1) hx hb dX1_led_59 (by decide) ?_
      refine va_ti hx hb ht_HIGH hS (fb_ixin (by decide)) rfl dX1_led_60 ?_
      refine lv_icmp_gt (tgt := 271) hx hb dX1_led_61 (by decide) (fun c12 => ?_) (fun c12 => ?_)
      · replace h := fb_it c12 h
        obtain ⟨e1, e2, e3⟩ := fb_p3 h
        subst e1
        subst e2
        subst e3
        exact kx H locs hP hD hS ls (lv_sub hl [0, 1, 2, 3, 4] rfl)
      · replace h := fb_ie c12 h
        refine lv_iload hx hb dX1_led_64 (lv_at hl 0 rfl) ?_
        refine lv_aload_n hx hb dX1_led_66 rfl (lv_at hl 3 rfl) ?_
        refine lv_iload_n hx hb dX1_led_67 rfl (lv_at hl 4 rfl) ?_
        refine lv_iconst (v := 0) hx hb dX1_led_68 (by decide) ?_
        obtain ⟨r14, h13, h⟩ := fb_b1s h
        refine fb_callR (W.runV (As := [.int a1, .int 0]) (rest := [.int v9]) ⟨hx, hb, hml, hown, hts⟩ (metX1_at l D cI h0 qn qf qw B0 th ch nt_10 fg wt mi a1 0 r14 h13) (cwV 2 hts gX1_led_X1_at rfl rfl rfl (by decide +kernel) ⟨Nat.le_of_ble_eq_true rfl, Nat.le_of_ble_eq_true rfl⟩) (fb_preVR (ci := 1) fb_sX1p (hP.sub (ws' := fb_wX1 cI h0 qn qf qw th ch nt_10 fg wt mi) [0, 1, 2, 3] rfl) hK hZ hS hAB rfl rfl _) rfl rfl hl.1 rfl (lv_room (Nat.le_of_ble_eq_true rfl)) dX1_led_69 ⟨Nat.le_of_ble_eq_true rfl, Nat.le_of_ble_eq_true rfl⟩) ?_
        refine lv_aload_n hx hb dX1_led_72 rfl (lv_at hl 3 rfl) ?_
        refine va_get (D := D) (ci := 1) (v := .ref qf) (C := RX1) (T := TX1) (N := 6) hx hb hts hin0 hown hK hP 0 rfl rfl 3 (by decide) (hts _ w_f13) (fun _ h9 => h9) rfl dX1_led_73 ?_
        refine lv_iload_n hx hb dX1_led_76 rfl (lv_at hl 4 rfl) ?_
        obtain ⟨hi15, h⟩ := fb_cks h
        refine va_iald hx hb hK hP 2 0 rfl rfl (fb_ixin hi15) dX1_led_77 ?_
        obtain ⟨r17, h16, h⟩ := fb_b1s h
        refine fb_callR (W.runS (As := [.int v9, .int r14, .int (fg a1.toNatClampNeg)]) (rest := []) ⟨hx, hb, hml, hown, hts⟩ (metX1_belongs l B0 v9 r14 (fg a1.toNatClampNeg) r17 h16) (va_cwS 3 hts gX1_led_X1_belongs rfl rfl rfl (by decide +kernel) ⟨Nat.le_of_ble_eq_true rfl, Nat.le_of_ble_eq_true rfl⟩) (fb_preS fb_sX1p hZ hS hAB _) rfl rfl hl.1 rfl (lv_room (Nat.le_of_ble_eq_true rfl)) dX1_led_78 ⟨Nat.le_of_ble_eq_true rfl, Nat.le_of_ble_eq_true rfl⟩) ?_
        obtain ⟨nt_56, f57, hjJ1, h⟩ := fb_b2s h
        have J1 : ∀ (H : Heap) (locs : List Loc), va_P D vwCl (fb_wX1 cI h0 qn qf qw th ch nt_56 fg wt mi ++ [(q1, .inl (cI, 3, .inl (upd (upd (upd (fun _ => 0) (0 : Int32).toNatClampNeg r3) (1 : Int32).toNatClampNeg r5) (2 : Int32).toNatClampNeg r7))), (q8, .inl (cI, 3, .inl f57))]) H → va_D A (fb_wX1 cI h0 qn qf qw th ch nt_56 fg wt mi ++ [(q1, .inl (cI, 3, .inl (upd (upd (upd (fun _ => 0) (0 : Int32).toNatClampNeg r3) (1 : Int32).toNatClampNeg r5) (2 : Int32).toNatClampNeg r7))), (q8, .inl (cI, 3, .inl f57))]) → va_S A s.heap H locs → ∀ (ls : Array Slot), lv_has ls 8 [(4, .int v9), (3, .ref q8), (2, .ref q1), (0, .ref h0), (1, .int a1)] → W p l e (headSpec wsX1_led rmX1_led).room s m ([.ref h0, .int a1] : List Value).toArray below meth c H locs 2 6 (MQ below (fb_qM (fun q => some (.ref q)) (fun q => fb_wX1 cI h0 qn qf qw th ch nto fg wt mi ++ [(q, .inl (cI, 3, .inl fo))]) D A) ([.ref h0, .int a1] : List Value).toArray s 2 6 A) (F0 m 265 ls []) := by
          intro H locs hP hD hS ls hl
          refine lv_iinc (v := v9 + 1) (lv' := [(4, .int (v9 + 1)), (3, .ref q8), (2, .ref q1), (0, .ref h0), (1, .int a1)]) hx hb dX1_led_265 hl (k := 0) rfl rfl (by decide) rfl (fun ls hl => ?_)
          refine lv_goto (tgt := 54) hx hb dX1_led_268 (by decide) ?_
          exact ih _ _ _ o58 o59 o60 h H locs hP hD hS ls (lv_sub hl [0, 1, 2, 3, 4] rfl) kx
        replace h := hjJ1
        refine lv_if_ne (tgt := 87) hx hb dX1_led_81 (by decide) (fun c18 => ?_) (fun c18 => ?_)
        · replace h := fb_ie c18 h
          refine lv_iload hx hb dX1_led_87 (lv_at hl 0 rfl) ?_
          refine va_gets hx hb hz_LOW hS hown (hts _ w_f30) (fun _ h9 => h9) dX1_led_89 ?_
          refine lv_iconst (v := 2) hx hb dX1_led_92 (by decide) ?_
          refine va_ti hx hb ht_LOW hS (fb_ixin (by decide)) rfl dX1_led_93 ?_
          refine va_mmax hx hb (by rw [hml]; exact hl.1.symm) hown (hts _ w_m103) (hts _ w_msmax) (hts _ w_mi) (hts _ w_mcmax) (Nat.le_of_ble_eq_true rfl) (Nat.le_of_ble_eq_true rfl) (Nat.le_of_ble_eq_true rfl) (Nat.le_of_ble_eq_true rfl) dX1_led_94 ?_
          refine lv_istore (lv' := [(5, .int (if v9 < (fb_tX1_LOW (2 : Int32).toNatClampNeg) then (fb_tX1_LOW (2 : Int32).toNatClampNeg) else v9)), (4, .int v9), (3, .ref q8), (2, .ref q1), (0, .ref h0), (1, .int a1)]) hx hb dX1_led_97 hl (by decide) rfl (fun ls hl => ?_)
          have LX1_led_99 : ∀ (n : Nat) (v19 : Int32) (nt_20 : Nat → Int32) (f21 : Nat → Int32) (o52 : Int32) (o53 : Nat → Int32) (o54 : Nat → Int32), lpX1_led_99 a1 th ch fg wt mi v9 n v19 nt_20 f21 = some (o52, o53, o54) → ∀ (H : Heap) (locs : List Loc), va_P D vwCl (fb_wX1 cI h0 qn qf qw th ch nt_20 fg wt mi ++ [(q1, .inl (cI, 3, .inl (upd (upd (upd (fun _ => 0) (0 : Int32).toNatClampNeg r3) (1 : Int32).toNatClampNeg r5) (2 : Int32).toNatClampNeg r7))), (q8, .inl (cI, 3, .inl f21))]) H → va_D A (fb_wX1 cI h0 qn qf qw th ch nt_20 fg wt mi ++ [(q1, .inl (cI, 3, .inl (upd (upd (upd (fun _ => 0) (0 : Int32).toNatClampNeg r3) (1 : Int32).toNatClampNeg r5) (2 : Int32).toNatClampNeg r7))), (q8, .inl (cI, 3, .inl f21))]) → va_S A s.heap H locs → ∀ (ls : Array Slot), lv_has ls 8 [(5, .int v19), (4, .int v9), (3, .ref q8), (2, .ref q1), (0, .ref h0), (1, .int a1)] → (∀ (H : Heap) (locs : List Loc), va_P D vwCl (fb_wX1 cI h0 qn qf qw th ch o53 fg wt mi ++ [(q1, .inl (cI, 3, .inl (upd (upd (upd (fun _ => 0) (0 : Int32).toNatClampNeg r3) (1 : Int32).toNatClampNeg r5) (2 : Int32).toNatClampNeg r7))), (q8, .inl (cI, 3, .inl o54))]) H → va_D A (fb_wX1 cI h0 qn qf qw th ch o53 fg wt mi ++ [(q1, .inl (cI, 3, .inl (upd (upd (upd (fun _ => 0) (0 : Int32).toNatClampNeg r3) (1 : Int32).toNatClampNeg r5) (2 : Int32).toNatClampNeg r7))), (q8, .inl (cI, 3, .inl o54))]) → va_S A s.heap H locs → ∀ (ls : Array Slot), lv_has ls 8 [(5, .int o52), (4, .int v9), (3, .ref q8), (2, .ref q1), (0, .ref h0), (1, .int a1)] → W p l e (headSpec wsX1_led rmX1_led).room s m ([.ref h0, .int a1] : List Value).toArray below meth c H locs 2 6 (MQ below (fb_qM (fun q => some (.ref q)) (fun q => fb_wX1 cI h0 qn qf qw th ch nto fg wt mi ++ [(q, .inl (cI, 3, .inl fo))]) D A) ([.ref h0, .int a1] : List Value).toArray s 2 6 A) (F0 m 265 ls [])) → W p l e (headSpec wsX1_led rmX1_led).room s m ([.ref h0, .int a1] : List Value).toArray below meth c H locs 2 6 (MQ below (fb_qM (fun q => some (.ref q)) (fun q => fb_wX1 cI h0 qn qf qw th ch nto fg wt mi ++ [(q, .inl (cI, 3, .inl fo))]) D A) ([.ref h0, .int a1] : List Value).toArray s 2 6 A) (F0 m 99 ls []) := by
            intro n
            induction n with
            | zero =>
              intro v19 nt_20 f21 o52 o53 o54 h
              rw [lpX1_led_99.eq_1] at h
              cases h
            | succ n ih =>
              intro v19 nt_20 f21 o52 o53 o54 h H locs hP hD hS ls hl kx
              rw [lpX1_led_99.eq_2] at h
              refine lv_iload hx hb dX1_led_99 (lv_at hl 0 rfl) ?_
              refine va_gets hx hb hz_HIGH hS hown (hts _ w_f33) (fun _ h9 => h9) dX1_led_101 ?_
              refine lv_iconst (v := 2) hx hb dX1_led_104 (by decide) ?_
              refine va_ti hx hb ht_HIGH hS (fb_ixin (by decide)) rfl dX1_led_105 ?_
              refine lv_icmp_gt (tgt := 265) hx hb dX1_led_106 (by decide) (fun c22 => ?_) (fun c22 => ?_)
              · replace h := fb_it c22 h
                obtain ⟨e1, e2, e3⟩ := fb_p3 h
                subst e1
                subst e2
                subst e3
                exact kx H locs hP hD hS ls (lv_sub hl [0, 1, 2, 3, 4, 5] rfl)
              · replace h := fb_ie c22 h
                refine lv_iload hx hb dX1_led_109 (lv_at hl 0 rfl) ?_
                refine lv_aload_n hx hb dX1_led_111 rfl (lv_at hl 4 rfl) ?_
                refine lv_iload_n hx hb dX1_led_112 rfl (lv_at hl 5 rfl) ?_
                refine lv_iconst (v := 0) hx hb dX1_led_113 (by decide) ?_
                obtain ⟨r24, h23, h⟩ := fb_b1s h
                refine fb_callR (W.runV (As := [.int a1, .int 0]) (rest := [.int v19]) ⟨hx, hb, hml, hown, hts⟩ (metX1_at l D cI h0 qn qf qw B0 th ch nt_20 fg wt mi a1 0 r24 h23) (cwV 2 hts gX1_led_X1_at rfl rfl rfl (by decide +kernel) ⟨Nat.le_of_ble_eq_true rfl, Nat.le_of_ble_eq_true rfl⟩) (fb_preVR (ci := 1) fb_sX1p (hP.sub (ws' := fb_wX1 cI h0 qn qf qw th ch nt_20 fg wt mi) [0, 1, 2, 3] rfl) hK hZ hS hAB rfl rfl _) rfl rfl hl.1 rfl (lv_room (Nat.le_of_ble_eq_true rfl)) dX1_led_114 ⟨Nat.le_of_ble_eq_true rfl, Nat.le_of_ble_eq_true rfl⟩) ?_
                refine lv_aload_n hx hb dX1_led_117 rfl (lv_at hl 4 rfl) ?_
                refine va_get (D := D) (ci := 1) (v := .ref qf) (C := RX1) (T := TX1) (N := 6) hx hb hts hin0 hown hK hP 0 rfl rfl 3 (by decide) (hts _ w_f13) (fun _ h9 => h9) rfl dX1_led_118 ?_
                refine lv_iload_n hx hb dX1_led_121 rfl (lv_at hl 5 rfl) ?_
                refine va_iald hx hb hK hP 2 0 rfl rfl (fb_ixin hi15) dX1_led_122 ?_
                obtain ⟨r26, h25, h⟩ := fb_b1s h
                refine fb_callR (W.runS (As := [.int v19, .int r24, .int (fg a1.toNatClampNeg)]) (rest := []) ⟨hx, hb, hml, hown, hts⟩ (metX1_belongs l B0 v19 r24 (fg a1.toNatClampNeg) r26 h25) (va_cwS 3 hts gX1_led_X1_belongs rfl rfl rfl (by decide +kernel) ⟨Nat.le_of_ble_eq_true rfl, Nat.le_of_ble_eq_true rfl⟩) (fb_preS fb_sX1p hZ hS hAB _) rfl rfl hl.1 rfl (lv_room (Nat.le_of_ble_eq_true rfl)) dX1_led_123 ⟨Nat.le_of_ble_eq_true rfl, Nat.le_of_ble_eq_true rfl⟩) ?_
                obtain ⟨nt_50, f51, hjJ2, h⟩ := fb_b2s h
                have J2 : ∀ (H : Heap) (locs : List Loc), va_P D vwCl (fb_wX1 cI h0 qn qf qw th ch nt_50 fg wt mi ++ [(q1, .inl (cI, 3, .inl (upd (upd (upd (fun _ => 0) (0 : Int32).toNatClampNeg r3) (1 : Int32).toNatClampNeg r5) (2 : Int32).toNatClampNeg r7))), (q8, .inl (cI, 3, .inl f51))]) H → va_D A (fb_wX1 cI h0 qn qf qw th ch nt_50 fg wt mi ++ [(q1, .inl (cI, 3, .inl (upd (upd (upd (fun _ => 0) (0 : Int32).toNatClampNeg r3) (1 : Int32).toNatClampNeg r5) (2 : Int32).toNatClampNeg r7))), (q8, .inl (cI, 3, .inl f51))]) → va_S A s.heap H locs → ∀ (ls : Array Slot), lv_has ls 8 [(5, .int v19), (4, .int v9), (3, .ref q8), (2, .ref q1), (0, .ref h0), (1, .int a1)] → W p l e (headSpec wsX1_led rmX1_led).room s m ([.ref h0, .int a1] : List Value).toArray below meth c H locs 2 6 (MQ below (fb_qM (fun q => some (.ref q)) (fun q => fb_wX1 cI h0 qn qf qw th ch nto fg wt mi ++ [(q, .inl (cI, 3, .inl fo))]) D A) ([.ref h0, .int a1] : List Value).toArray s 2 6 A) (F0 m 259 ls []) := by
                  intro H locs hP hD hS ls hl
                  refine lv_iinc (v := v19 + 1) (lv' := [(5, .int (v19 + 1)), (4, .int v9), (3, .ref q8), (2, .ref q1), (0, .ref h0), (1, .int a1)]) hx hb dX1_led_259 hl (k := 0) rfl rfl (by decide) rfl (fun ls hl => ?_)
                  refine lv_goto (tgt := 99) hx hb dX1_led_262 (by decide) ?_
                  exact ih _ _ _ o52 o53 o54 h H locs hP hD hS ls (lv_sub hl [0, 1, 2, 3, 4, 5] rfl) kx
                replace h := hjJ2
                refine lv_if_ne (tgt := 132) hx hb dX1_led_126 (by decide) (fun c27 => ?_) (fun c27 => ?_)
                · replace h := fb_ie c27 h
                  refine lv_iload hx hb dX1_led_132 (lv_at hl 0 rfl) ?_
                  refine va_gets hx hb hz_LOW hS hown (hts _ w_f30) (fun _ h9 => h9) dX1_led_134 ?_
                  refine lv_iconst (v := 3) hx hb dX1_led_137 (by decide) ?_
                  refine va_ti hx hb ht_LOW hS (fb_ixin (by decide)) rfl dX1_led_138 ?_
                  refine va_mmax hx hb (by rw [hml]; exact hl.1.symm) hown (hts _ w_m103) (hts _ w_msmax) (hts _ w_mi) (hts _ w_mcmax) (Nat.le_of_ble_eq_true rfl) (Nat.le_of_ble_eq_true rfl) (Nat.le_of_ble_eq_true rfl) (Nat.le_of_ble_eq_true rfl) dX1_led_139 ?_
                  refine lv_istore (lv' := [(6, .int (if v19 < (fb_tX1_LOW (3 : Int32).toNatClampNeg) then (fb_tX1_LOW (3 : Int32).toNatClampNeg) else v19)), (5, .int v19), (4, .int v9), (3, .ref q8), (2, .ref q1), (0, .ref h0), (1, .int a1)]) hx hb dX1_led_142 hl (by decide) rfl (fun ls hl => ?_)
                  have LX1_led_144 : ∀ (n : Nat) (v28 : Int32) (nt_29 : Nat → Int32) (f30 : Nat → Int32) (o46 : Int32) (o47 : Nat → Int32) (o48 : Nat → Int32), lpX1_led_144 a1 th ch fg wt mi v9 v19 n v28 nt_29 f30 = some (o46, o47, o48) → ∀ (H : Heap) (locs : List Loc), va_P D vwCl (fb_wX1 cI h0 qn qf qw th ch nt_29 fg wt mi ++ [(q1, .inl (cI, 3, .inl (upd (upd (upd (fun _ => 0) (0 : Int32).toNatClampNeg r3) (1 : Int32).toNatClampNeg r5) (2 : Int32).toNatClampNeg r7))), (q8, .inl (cI, 3, .inl f30))]) H → va_D A (fb_wX1 cI h0 qn qf qw th ch nt_29 fg wt mi ++ [(q1, .inl (cI, 3, .inl (upd (upd (upd (fun _ => 0) (0 : Int32).toNatClampNeg r3) (1 : Int32).toNatClampNeg r5) (2 : Int32).toNatClampNeg r7))), (q8, .inl (cI, 3, .inl f30))]) → va_S A s.heap H locs → ∀ (ls : Array Slot), lv_has ls 8 [(6, .int v28), (5, .int v19), (4, .int v9), (3, .ref q8), (2, .ref q1), (0, .ref h0), (1, .int a1)] → (∀ (H : Heap) (locs : List Loc), va_P D vwCl (fb_wX1 cI h0 qn qf qw th ch o47 fg wt mi ++ [(q1, .inl (cI, 3, .inl (upd (upd (upd (fun _ => 0) (0 : Int32).toNatClampNeg r3) (1 : Int32).toNatClampNeg r5) (2 : Int32).toNatClampNeg r7))), (q8, .inl (cI, 3, .inl o48))]) H → va_D A (fb_wX1 cI h0 qn qf qw th ch o47 fg wt mi ++ [(q1, .inl (cI, 3, .inl (upd (upd (upd (fun _ => 0) (0 : Int32).toNatClampNeg r3) (1 : Int32).toNatClampNeg r5) (2 : Int32).toNatClampNeg r7))), (q8, .inl (cI, 3, .inl o48))]) → va_S A s.heap H locs → ∀ (ls : Array Slot), lv_has ls 8 [(6, .int o46), (5, .int v19), (4, .int v9), (3, .ref q8), (2, .ref q1), (0, .ref h0), (1, .int a1)] → W p l e (headSpec wsX1_led rmX1_led).room s m ([.ref h0, .int a1] : List Value).toArray below meth c H locs 2 6 (MQ below (fb_qM (fun q => some (.ref q)) (fun q => fb_wX1 cI h0 qn qf qw th ch nto fg wt mi ++ [(q, .inl (cI, 3, .inl fo))]) D A) ([.ref h0, .int a1] : List Value).toArray s 2 6 A) (F0 m 259 ls [])) → W p l e (headSpec wsX1_led rmX1_led).room s m ([.ref h0, .int a1] : List Value).toArray below meth c H locs 2 6 (MQ below (fb_qM (fun q => some (.ref q)) (fun q => fb_wX1 cI h0 qn qf qw th ch nto fg wt mi ++ [(q, .inl (cI, 3, .inl fo))]) D A) ([.ref h0, .int a1] : List Value).toArray s 2 6 A) (F0 m 144 ls []) := by
                    intro n
                    induction n with
                    | zero =>
                      intro v28 nt_29 f30 o46 o47 o48 h
                      rw [lpX1_led_144.eq_1] at h
                      cases h
                    | succ n ih =>
                      intro v28 nt_29 f30 o46 o47 o48 h H locs hP hD hS ls hl kx
                      rw [lpX1_led_144.eq_2] at h
                      refine lv_iload hx hb dX1_led_144 (lv_at hl 0 rfl) ?_
                      refine va_gets hx hb hz_HIGH hS hown (hts _ w_f33) (fun _ h9 => h9) dX1_led_146 ?_
                      refine lv_iconst (v := 3) hx hb dX1_led_149 (by decide) ?_
                      refine va_ti hx hb ht_HIGH hS (fb_ixin (by decide)) rfl dX1_led_150 ?_
                      refine lv_icmp_gt (tgt := 259) hx hb dX1_led_151 (by decide) (fun c31 => ?_) (fun c31 => ?_)
                      · replace h := fb_it c31 h
                        obtain ⟨e1, e2, e3⟩ := fb_p3 h
                        subst e1
                        subst e2
                        subst e3
                        exact kx H locs hP hD hS ls (lv_sub hl [0, 1, 2, 3, 4, 5, 6] rfl)
                      · replace h := fb_ie c31 h
                        refine lv_aload_n hx hb dX1_led_154 rfl (lv_at hl 5 rfl) ?_
                        refine lv_iload_n hx hb dX1_led_155 rfl (lv_at hl 6 rfl) ?_
                        refine lv_iload hx hb dX1_led_156 (lv_at hl 2 rfl) ?_
                        refine lv_iload hx hb dX1_led_158 (lv_at hl 1 rfl) ?_
                        refine lv_iload hx hb dX1_led_160 (lv_at hl 0 rfl) ?_
                        obtain ⟨nt_33, h32, h⟩ := fb_b1s h
                        have hPc : va_P D vwCl (fb_wX1 cI h0 qn qf qw th ch nt_29 fg wt mi) H := hP.sub [0, 1, 2, 3] rfl
                        have hDc : va_D A (fb_wX1 cI h0 qn qf qw th ch nt_29 fg wt mi) := hD.sub [0, 1, 2, 3] (by decide) rfl
                        have hFc := va_free (wc := fb_wX1 cI h0 qn qf qw th ch nt_29 fg wt mi) hD hS hA [0, 1, 2, 3] rfl
                        refine fb_callM (va_runV (As := [.int a1, .int v9, .int v19, .int v28]) (rest := []) ⟨hx, hb, hml, hown, hts⟩ (metX1_let l D cI h0 qn qf qw B0 th ch nt_29 fg wt mi a1 v9 v19 v28 H.size nt_33 h32) (cwV 4 hts gX1_led_X1_let rfl rfl rfl (by decide +kernel) ⟨Nat.le_of_ble_eq_true rfl, Nat.le_of_ble_eq_true rfl⟩) (fb_preVM (ci := 1) fb_sX1p hPc hK hDc hZ hS hAB hA rfl rfl _) rfl rfl hl.1 rfl (lv_room (Nat.le_of_ble_eq_true rfl)) dX1_led_162 ⟨Nat.le_of_ble_eq_true rfl, Nat.le_of_ble_eq_true rfl⟩) hS (fun q _ h9 => hFc q h9) hFc (fun _ H1 locs hP1 hD1 hz1 hk1 hS => ?_)
                        obtain ⟨hP, hD⟩ := va_join (wr := [(q1, .inl (cI, 3, .inl (upd (upd (upd (fun _ => 0) (0 : Int32).toNatClampNeg r3) (1 : Int32).toNatClampNeg r5) (2 : Int32).toNatClampNeg r7))), (q8, .inl (cI, 3, .inl f30))]) (w1 := fb_wX1 cI h0 qn qf qw th ch nt_33 fg wt mi) hP hD [0, 1, 2, 3] [4, 5] rfl rfl (by decide) (by decide) hk1 hFc hP1 hD1
                        have hP : va_P D vwCl (fb_wX1 cI h0 qn qf qw th ch nt_33 fg wt mi ++ [(q1, .inl (cI, 3, .inl (upd (upd (upd (fun _ => 0) (0 : Int32).toNatClampNeg r3) (1 : Int32).toNatClampNeg r5) (2 : Int32).toNatClampNeg r7))), (q8, .inl (cI, 3, .inl f30))]) H1 := hP.sub [2, 3, 4, 5, 0, 1] rfl
                        have hD : va_D A (fb_wX1 cI h0 qn qf qw th ch nt_33 fg wt mi ++ [(q1, .inl (cI, 3, .inl (upd (upd (upd (fun _ => 0) (0 : Int32).toNatClampNeg r3) (1 : Int32).toNatClampNeg r5) (2 : Int32).toNatClampNeg r7))), (q8, .inl (cI, 3, .inl f30))]) := hD.sub [2, 3, 4, 5, 0, 1] (by decide) rfl
                        generalize H1 = H at hP hS
                        refine lv_aload_n hx hb dX1_led_165 rfl (lv_at hl 5 rfl) ?_
                        refine lv_iload_n hx hb dX1_led_166 rfl (lv_at hl 6 rfl) ?_
                        obtain ⟨r35, h34, h⟩ := fb_b1s h
                        refine fb_callR (W.runV (As := [.int a1]) (rest := []) ⟨hx, hb, hml, hown, hts⟩ (metX1_isRight l D cI h0 qn qf qw B0 th ch nt_33 fg wt mi a1 r35 h34) (cwV 1 hts gX1_led_X1_isRight rfl rfl rfl (by decide +kernel) ⟨Nat.le_of_ble_eq_true rfl, Nat.le_of_ble_eq_true rfl⟩) (fb_preVR (ci := 1) fb_sX1p (hP.sub (ws' := fb_wX1 cI h0 qn qf qw th ch nt_33 fg wt mi) [0, 1, 2, 3] rfl) hK hZ hS hAB rfl rfl _) rfl rfl hl.1 rfl (lv_room (Nat.le_of_ble_eq_true rfl)) dX1_led_167 ⟨Nat.le_of_ble_eq_true rfl, Nat.le_of_ble_eq_true rfl⟩) ?_
                        obtain ⟨f45, hjJ3, h⟩ := fb_b1s h
                        have J3 : ∀ (H : Heap) (locs : List Loc), va_P D vwCl (fb_wX1 cI h0 qn qf qw th ch nt_33 fg wt mi ++ [(q1, .inl (cI, 3, .inl (upd (upd (upd (fun _ => 0) (0 : Int32).toNatClampNeg r3) (1 : Int32).toNatClampNeg r5) (2 : Int32).toNatClampNeg r7))), (q8, .inl (cI, 3, .inl f45))]) H → va_D A (fb_wX1 cI h0 qn qf qw th ch nt_33 fg wt mi ++ [(q1, .inl (cI, 3, .inl (upd (upd (upd (fun _ => 0) (0 : Int32).toNatClampNeg r3) (1 : Int32).toNatClampNeg r5) (2 : Int32).toNatClampNeg r7))), (q8, .inl (cI, 3, .inl f45))]) → va_S A s.heap H locs → ∀ (ls : Array Slot), lv_has ls 8 [(6, .int v28), (5, .int v19), (4, .int v9), (3, .ref q8), (2, .ref q1), (0, .ref h0), (1, .int a1)] → W p l e (headSpec wsX1_led rmX1_led).room s m ([.ref h0, .int a1] : List Value).toArray below meth c H locs 2 6 (MQ below (fb_qM (fun q => some (.ref q)) (fun q => fb_wX1 cI h0 qn qf qw th ch nto fg wt mi ++ [(q, .inl (cI, 3, .inl fo))]) D A) ([.ref h0, .int a1] : List Value).toArray s 2 6 A) (F0 m 253 ls []) := by
                          intro H locs hP hD hS ls hl
                          refine lv_iinc (v := v28 + 1) (lv' := [(6, .int (v28 + 1)), (5, .int v19), (4, .int v9), (3, .ref q8), (2, .ref q1), (0, .ref h0), (1, .int a1)]) hx hb dX1_led_253 hl (k := 0) rfl rfl (by decide) rfl (fun ls hl => ?_)
                          refine lv_goto (tgt := 144) hx hb dX1_led_256 (by decide) ?_
                          exact ih _ _ _ o46 o47 o48 h H locs hP hD hS ls (lv_sub hl [0, 1, 2, 3, 4, 5, 6] rfl) kx
                        replace h := hjJ3
                        refine lv_if_ne (tgt := 176) hx hb dX1_led_170 (by decide) (fun c36 => ?_) (fun c36 => ?_)
                        · replace h := fb_ie c36 h
                          refine lv_aload_n hx hb dX1_led_176 rfl (lv_at hl 3 rfl) ?_
                          refine lv_iconst (v := 2) hx hb dX1_led_177 (by decide) ?_
                          refine lv_dup2_11 hx hb dX1_led_178 rfl rfl ?_
                          refine va_iald hx hb hK hP 5 0 rfl rfl (fb_ixin (by decide)) dX1_led_179 ?_
                          refine lv_iconst (v := 1) hx hb dX1_led_180 (by decide) ?_
                          refine lv_iadd hx hb dX1_led_181 ?_
                          refine va_iast hx hb hK hP hD hS 5 0 rfl rfl (fb_ixin (by decide)) dX1_led_182 (fun H locs hP hD hS => ?_)
                          have hP : va_P D vwCl (fb_wX1 cI h0 qn qf qw th ch nt_33 fg wt mi ++ [(q1, .inl (cI, 3, .inl (upd (upd (upd (fun _ => 0) (0 : Int32).toNatClampNeg r3) (1 : Int32).toNatClampNeg r5) (2 : Int32).toNatClampNeg r7))), (q8, .inl (cI, 3, .inl (upd f30 (2 : Int32).toNatClampNeg ((f30 (2 : Int32).toNatClampNeg) + 1))))]) H := hP
                          have hD : va_D A (fb_wX1 cI h0 qn qf qw th ch nt_33 fg wt mi ++ [(q1, .inl (cI, 3, .inl (upd (upd (upd (fun _ => 0) (0 : Int32).toNatClampNeg r3) (1 : Int32).toNatClampNeg r5) (2 : Int32).toNatClampNeg r7))), (q8, .inl (cI, 3, .inl (upd f30 (2 : Int32).toNatClampNeg ((f30 (2 : Int32).toNatClampNeg) + 1))))]) := hD
                          refine lv_aload_n hx hb dX1_led_183 rfl (lv_at hl 5 rfl) ?_
                          refine lv_iload_n hx hb dX1_led_184 rfl (lv_at hl 6 rfl) ?_
                          obtain ⟨r38, h37, h⟩ := fb_b1s h
                          refine fb_callR (W.runV (As := [.int a1]) (rest := []) ⟨hx, hb, hml, hown, hts⟩ (metX1_cost l D cI h0 qn qf qw B0 th ch nt_33 fg wt mi a1 r38 h37) (cwV 1 hts gX1_led_X1_cost rfl rfl rfl (by decide +kernel) ⟨Nat.le_of_ble_eq_true rfl, Nat.le_of_ble_eq_true rfl⟩) (fb_preVR (ci := 1) fb_sX1p (hP.sub (ws' := fb_wX1 cI h0 qn qf qw th ch nt_33 fg wt mi) [0, 1, 2, 3] rfl) hK hZ hS hAB rfl rfl _) rfl rfl hl.1 rfl (lv_room (Nat.le_of_ble_eq_true rfl)) dX1_led_185 ⟨Nat.le_of_ble_eq_true rfl, Nat.le_of_ble_eq_true rfl⟩) ?_
                          refine lv_iload_n hx hb dX1_led_188 rfl (lv_at hl 6 rfl) ?_
                          refine lv_iconst (v := 1) hx hb dX1_led_189 (by decide) ?_
                          refine lv_iadd hx hb dX1_led_190 ?_
                          refine lv_aload_n hx hb dX1_led_191 rfl (lv_at hl 5 rfl) ?_
                          refine va_get (D := D) (ci := 1) (v := .int ch) (C := RX1) (T := TX1) (N := 6) hx hb hts hin0 hown hK hP 0 rfl rfl 1 (by decide) (hts _ w_f23) (fun _ h9 => h9) rfl dX1_led_192 ?_
                          obtain ⟨j42, hjJ4, h⟩ := fb_b1s h
                          have J4 : ∀ (H : Heap) (locs : List Loc), va_P D vwCl (fb_wX1 cI h0 qn qf qw th ch nt_33 fg wt mi ++ [(q1, .inl (cI, 3, .inl (upd (upd (upd (fun _ => 0) (0 : Int32).toNatClampNeg r3) (1 : Int32).toNatClampNeg r5) (2 : Int32).toNatClampNeg r7))), (q8, .inl (cI, 3, .inl (upd f30 (2 : Int32).toNatClampNeg ((f30 (2 : Int32).toNatClampNeg) + 1))))]) H → va_D A (fb_wX1 cI h0 qn qf qw th ch nt_33 fg wt mi ++ [(q1, .inl (cI, 3, .inl (upd (upd (upd (fun _ => 0) (0 : Int32).toNatClampNeg r3) (1 : Int32).toNatClampNeg r5) (2 : Int32).toNatClampNeg r7))), (q8, .inl (cI, 3, .inl (upd f30 (2 : Int32).toNatClampNeg ((f30 (2 : Int32).toNatClampNeg) + 1))))]) → va_S A s.heap H locs → ∀ (ls : Array Slot), lv_has ls 8 [(6, .int v28), (5, .int v19), (4, .int v9), (3, .ref q8), (2, .ref q1), (0, .ref h0), (1, .int a1)] → W p l e (headSpec wsX1_led rmX1_led).room s m ([.ref h0, .int a1] : List Value).toArray below meth c H locs 2 6 (MQ below (fb_qM (fun q => some (.ref q)) (fun q => fb_wX1 cI h0 qn qf qw th ch nto fg wt mi ++ [(q, .inl (cI, 3, .inl fo))]) D A) ([.ref h0, .int a1] : List Value).toArray s 2 6 A) (F0 m 209 ls [.int j42, .int r38]) := by
                            intro H locs hP hD hS ls hl
                            refine lv_iadd hx hb dX1_led_209 ?_
                            refine lv_istore (lv' := [(7, .int (r38 + j42)), (6, .int v28), (5, .int v19), (4, .int v9), (3, .ref q8), (2, .ref q1), (0, .ref h0), (1, .int a1)]) hx hb dX1_led_210 hl (by decide) rfl (fun ls hl => ?_)
                            refine lv_aload_n hx hb dX1_led_212 rfl (lv_at hl 4 rfl) ?_
                            refine lv_iconst (v := 0) hx hb dX1_led_213 (by decide) ?_
                            refine va_iald hx hb hK hP 5 0 rfl rfl (fb_ixin (by decide)) dX1_led_214 ?_
                            refine lv_iconst (v := (-1)) hx hb dX1_led_215 (by decide) ?_
                            refine lv_icmp_eq (tgt := 230) hx hb dX1_led_216 (by decide) (fun c43 => ?_) (fun c43 => ?_)
                            · replace h := fb_it c43 h
                              refine lv_aload_n hx hb dX1_led_230 rfl (lv_at hl 4 rfl) ?_
                              refine lv_iconst (v := 0) hx hb dX1_led_231 (by decide) ?_
                              refine lv_sipush (v := 784) hx hb dX1_led_232 (by decide) ?_
                              refine lv_iload hx hb dX1_led_235 (lv_at hl 3 rfl) ?_
                              refine lv_imul hx hb dX1_led_237 ?_
                              refine lv_bipush (v := 28) hx hb dX1_led_238 (by decide) ?_
                              refine lv_iload hx hb dX1_led_240 (lv_at hl 2 rfl) ?_
                              refine lv_imul hx hb dX1_led_242 ?_
                              refine lv_iadd hx hb dX1_led_243 ?_
                              refine lv_iload hx hb dX1_led_244 (lv_at hl 1 rfl) ?_
                              refine lv_iadd hx hb dX1_led_246 ?_
                              refine va_iast hx hb hK hP hD hS 5 0 rfl rfl (fb_ixin (by decide)) dX1_led_247 (fun H locs hP hD hS => ?_)
                              have hP : va_P D vwCl (fb_wX1 cI h0 qn qf qw th ch nt_33 fg wt mi ++ [(q1, .inl (cI, 3, .inl (upd (upd (upd (fun _ => 0) (0 : Int32).toNatClampNeg r3) (1 : Int32).toNatClampNeg r5) (2 : Int32).toNatClampNeg r7))), (q8, .inl (cI, 3, .inl (upd (upd f30 (2 : Int32).toNatClampNeg ((f30 (2 : Int32).toNatClampNeg) + 1)) (0 : Int32).toNatClampNeg ((((784 : Int32) * v9) + ((28 : Int32) * v19)) + v28))))]) H := hP
                              have hD : va_D A (fb_wX1 cI h0 qn qf qw th ch nt_33 fg wt mi ++ [(q1, .inl (cI, 3, .inl (upd (upd (upd (fun _ => 0) (0 : Int32).toNatClampNeg r3) (1 : Int32).toNatClampNeg r5) (2 : Int32).toNatClampNeg r7))), (q8, .inl (cI, 3, .inl (upd (upd f30 (2 : Int32).toNatClampNeg ((f30 (2 : Int32).toNatClampNeg) + 1)) (0 : Int32).toNatClampNeg ((((784 : Int32) * v9) + ((28 : Int32) * v19)) + v28))))]) := hD
                              refine lv_aload_n hx hb dX1_led_248 rfl (lv_at hl 4 rfl) ?_
                              refine lv_iconst (v := 1) hx hb dX1_led_249 (by decide) ?_
                              refine lv_iload hx hb dX1_led_250 (lv_at hl 0 rfl) ?_
                              refine va_iast hx hb hK hP hD hS 5 0 rfl rfl (fb_ixin (by decide)) dX1_led_252 (fun H locs hP hD hS => ?_)
                              have hP : va_P D vwCl (fb_wX1 cI h0 qn qf qw th ch nt_33 fg wt mi ++ [(q1, .inl (cI, 3, .inl (upd (upd (upd (fun _ => 0) (0 : Int32).toNatClampNeg r3) (1 : Int32).toNatClampNeg r5) (2 : Int32).toNatClampNeg r7))), (q8, .inl (cI, 3, .inl (upd (upd (upd f30 (2 : Int32).toNatClampNeg ((f30 (2 : Int32).toNatClampNeg) + 1)) (0 : Int32).toNatClampNeg ((((784 : Int32) * v9) + ((28 : Int32) * v19)) + v28)) (1 : Int32).toNatClampNeg (r38 + j42))))]) H := hP
                              have hD : va_D A (fb_wX1 cI h0 qn qf qw th ch nt_33 fg wt mi ++ [(q1, .inl (cI, 3, .inl (upd (upd (upd (fun _ => 0) (0 : Int32).toNatClampNeg r3) (1 : Int32).toNatClampNeg r5) (2 : Int32).toNatClampNeg r7))), (q8, .inl (cI, 3, .inl (upd (upd (upd f30 (2 : Int32).toNatClampNeg ((f30 (2 : Int32).toNatClampNeg) + 1)) (0 : Int32).toNatClampNeg ((((784 : Int32) * v9) + ((28 : Int32) * v19)) + v28)) (1 : Int32).toNatClampNeg (r38 + j42))))]) := hD
                              have h := Option.some.inj h
                              subst h
                              exact J3 H locs hP hD hS ls (lv_sub hl [1, 2, 3, 4, 5, 6, 7] rfl)
                            · replace h := fb_ie c43 h
                              refine lv_iload hx hb dX1_led_219 (lv_at hl 0 rfl) ?_
                              refine lv_aload_n hx hb dX1_led_221 rfl (lv_at hl 4 rfl) ?_
                              refine lv_iconst (v := 1) hx hb dX1_led_222 (by decide) ?_
                              refine va_iald hx hb hK hP 5 0 rfl rfl (fb_ixin (by decide)) dX1_led_223 ?_
                              refine lv_icmp_lt (tgt := 230) hx hb dX1_led_224 (by decide) (fun c44 => ?_) (fun c44 => ?_)
                              · replace h := fb_it c44 h
                                refine lv_aload_n hx hb dX1_led_230 rfl (lv_at hl 4 rfl) ?_
                                refine lv_iconst (v := 0) hx hb dX1_led_231 (by decide) ?_
                                refine lv_sipush (v := 784) hx hb dX1_led_232 (by decide) ?_
                                refine lv_iload hx hb dX1_led_235 (lv_at hl 3 rfl) ?_
                                refine lv_imul hx hb dX1_led_237 ?_
                                refine lv_bipush (v := 28) hx hb dX1_led_238 (by decide) ?_
                                refine lv_iload hx hb dX1_led_240 (lv_at hl 2 rfl) ?_
                                refine lv_imul hx hb dX1_led_242 ?_
                                refine lv_iadd hx hb dX1_led_243 ?_
                                refine lv_iload hx hb dX1_led_244 (lv_at hl 1 rfl) ?_
                                refine lv_iadd hx hb dX1_led_246 ?_
                                refine va_iast hx hb hK hP hD hS 5 0 rfl rfl (fb_ixin (by decide)) dX1_led_247 (fun H locs hP hD hS => ?_)
                                have hP : va_P D vwCl (fb_wX1 cI h0 qn qf qw th ch nt_33 fg wt mi ++ [(q1, .inl (cI, 3, .inl (upd (upd (upd (fun _ => 0) (0 : Int32).toNatClampNeg r3) (1 : Int32).toNatClampNeg r5) (2 : Int32).toNatClampNeg r7))), (q8, .inl (cI, 3, .inl (upd (upd f30 (2 : Int32).toNatClampNeg ((f30 (2 : Int32).toNatClampNeg) + 1)) (0 : Int32).toNatClampNeg ((((784 : Int32) * v9) + ((28 : Int32) * v19)) + v28))))]) H := hP
                                have hD : va_D A (fb_wX1 cI h0 qn qf qw th ch nt_33 fg wt mi ++ [(q1, .inl (cI, 3, .inl (upd (upd (upd (fun _ => 0) (0 : Int32).toNatClampNeg r3) (1 : Int32).toNatClampNeg r5) (2 : Int32).toNatClampNeg r7))), (q8, .inl (cI, 3, .inl (upd (upd f30 (2 : Int32).toNatClampNeg ((f30 (2 : Int32).toNatClampNeg) + 1)) (0 : Int32).toNatClampNeg ((((784 : Int32) * v9) + ((28 : Int32) * v19)) + v28))))]) := hD
                                refine lv_aload_n hx hb dX1_led_248 rfl (lv_at hl 4 rfl) ?_
                                refine lv_iconst (v := 1) hx hb dX1_led_249 (by decide) ?_
                                refine lv_iload hx hb dX1_led_250 (lv_at hl 0 rfl) ?_
                                refine va_iast hx hb hK hP hD hS 5 0 rfl rfl (fb_ixin (by decide)) dX1_led_252 (fun H locs hP hD hS => ?_)
                                have hP : va_P D vwCl (fb_wX1 cI h0 qn qf qw th ch nt_33 fg wt mi ++ [(q1, .inl (cI, 3, .inl (upd (upd (upd (fun _ => 0) (0 : Int32).toNatClampNeg r3) (1 : Int32).toNatClampNeg r5) (2 : Int32).toNatClampNeg r7))), (q8, .inl (cI, 3, .inl (upd (upd (upd f30 (2 : Int32).toNatClampNeg ((f30 (2 : Int32).toNatClampNeg) + 1)) (0 : Int32).toNatClampNeg ((((784 : Int32) * v9) + ((28 : Int32) * v19)) + v28)) (1 : Int32).toNatClampNeg (r38 + j42))))]) H := hP
                                have hD : va_D A (fb_wX1 cI h0 qn qf qw th ch nt_33 fg wt mi ++ [(q1, .inl (cI, 3, .inl (upd (upd (upd (fun _ => 0) (0 : Int32).toNatClampNeg r3) (1 : Int32).toNatClampNeg r5) (2 : Int32).toNatClampNeg r7))), (q8, .inl (cI, 3, .inl (upd (upd (upd f30 (2 : Int32).toNatClampNeg ((f30 (2 : Int32).toNatClampNeg) + 1)) (0 : Int32).toNatClampNeg ((((784 : Int32) * v9) + ((28 : Int32) * v19)) + v28)) (1 : Int32).toNatClampNeg (r38 + j42))))]) := hD
                                have h := Option.some.inj h
                                subst h
                                exact J3 H locs hP hD hS ls (lv_sub hl [1, 2, 3, 4, 5, 6, 7] rfl)
                              · replace h := fb_ie c44 h
                                refine lv_goto (tgt := 253) hx hb dX1_led_227 (by decide) ?_
                                have h := Option.some.inj h
                                subst h
                                exact J3 H locs hP hD hS ls (lv_sub hl [1, 2, 3, 4, 5, 6, 7] rfl)
                          replace h := hjJ4
                          refine lv_icmp_ge (tgt := 208) hx hb dX1_led_195 (by decide) (fun c39 => ?_) (fun c39 => ?_)
                          · replace h := fb_it c39 h
                            refine lv_iconst (v := 0) hx hb dX1_led_208 (by decide) ?_
                            have h := Option.some.inj h
                            subst h
                            exact J4 H locs hP hD hS ls (lv_sub hl [0, 1, 2, 3, 4, 5, 6] rfl)
                          · replace h := fb_ie c39 h
                            refine lv_aload_n hx hb dX1_led_198 rfl (lv_at hl 5 rfl) ?_
                            refine lv_iload_n hx hb dX1_led_199 rfl (lv_at hl 6 rfl) ?_
                            refine lv_iconst (v := 1) hx hb dX1_led_200 (by decide) ?_
                            refine lv_iadd hx hb dX1_led_201 ?_
                            obtain ⟨r41, h40, h⟩ := fb_b1s h
                            refine fb_callR (W.runV (As := [.int (a1 + 1)]) (rest := [.int r38]) ⟨hx, hb, hml, hown, hts⟩ (metX1_cost l D cI h0 qn qf qw B0 th ch nt_33 fg wt mi (a1 + 1) r41 h40) (cwV 1 hts gX1_led_X1_cost rfl rfl rfl (by decide +kernel) ⟨Nat.le_of_ble_eq_true rfl, Nat.le_of_ble_eq_true rfl⟩) (fb_preVR (ci := 1) fb_sX1p (hP.sub (ws' := fb_wX1 cI h0 qn qf qw th ch nt_33 fg wt mi) [0, 1, 2, 3] rfl) hK hZ hS hAB rfl rfl _) rfl rfl hl.1 rfl (lv_room (Nat.le_of_ble_eq_true rfl)) dX1_led_202 ⟨Nat.le_of_ble_eq_true rfl, Nat.le_of_ble_eq_true rfl⟩) ?_
                            refine lv_goto (tgt := 209) hx hb dX1_led_205 (by decide) ?_
                            have h := Option.some.inj h
                            subst h
                            exact J4 H locs hP hD hS ls (lv_sub hl [0, 1, 2, 3, 4, 5, 6] rfl)
                        · replace h := fb_it c36 h
                          refine lv_goto (tgt := 253) hx hb dX1_led_173 (by decide) ?_
                          have h := Option.some.inj h
                          subst h
                          exact J3 H locs hP hD hS ls (lv_sub hl [0, 1, 2, 3, 4, 5, 6] rfl)
                  obtain ⟨o46, o47, o48, h49, h⟩ := fb_b3s h
                  refine LX1_led_144 _ _ _ _ o46 o47 o48 h49 H locs hP hD hS ls (lv_sub hl [0, 1, 2, 3, 4, 5, 6] rfl) (fun H locs hP hD hS ls hl => ?_)
                  obtain ⟨e1, e2⟩ := fb_p2 h
                  subst e1
                  subst e2
                  exact J2 H locs hP hD hS ls (lv_sub hl [1, 2, 3, 4, 5, 6] rfl)
                · replace h := fb_it c27 h
                  refine lv_goto (tgt := 259) hx hb dX1_led_129 (by decide) ?_
                  obtain ⟨e1, e2⟩ := fb_p2 h
                  subst e1
                  subst e2
                  exact J2 H locs hP hD hS ls (lv_sub hl [0, 1, 2, 3, 4, 5] rfl)
          obtain ⟨o52, o53, o54, h55, h⟩ := fb_b3s h
          refine LX1_led_99 _ _ _ _ o52 o53 o54 h55 H locs hP hD hS ls (lv_sub hl [0, 1, 2, 3, 4, 5] rfl) (fun H locs hP hD hS ls hl => ?_)
          obtain ⟨e1, e2⟩ := fb_p2 h
          subst e1
          subst e2
          exact J1 H locs hP hD hS ls (lv_sub hl [1, 2, 3, 4, 5] rfl)
        · replace h := fb_it c18 h
          refine lv_goto (tgt := 265) hx hb dX1_led_84 (by decide) ?_
          obtain ⟨e1, e2⟩ := fb_p2 h
          subst e1
          subst e2
          exact J1 H locs hP hD hS ls (lv_sub hl [0, 1, 2, 3, 4] rfl)
  obtain ⟨o58, o59, o60, h64, h⟩ := fb_b3s h
  refine LX1_led_54 _ _ _ _ o58 o59 o60 h64 H locs hP hD hS ls (lv_sub hl [0, 1, 2, 3, 4] rfl) (fun H locs hP hD hS ls hl => ?_)
  refine lv_aload_n hx hb dX1_led_271 rfl (lv_at hl 3 rfl) ?_
  refine lv_iload_n hx hb dX1_led_272 rfl (lv_at hl 4 rfl) ?_
  refine lv_aload_n hx hb dX1_led_273 rfl (lv_at hl 2 rfl) ?_
  refine lv_iconst (v := 0) hx hb dX1_led_274 (by decide) ?_
  refine va_iald hx hb hK hP 4 0 rfl rfl (fb_ixin (by decide)) dX1_led_275 ?_
  refine lv_aload_n hx hb dX1_led_276 rfl (lv_at hl 2 rfl) ?_
  refine lv_iconst (v := 1) hx hb dX1_led_277 (by decide) ?_
  refine va_iald hx hb hK hP 4 0 rfl rfl (fb_ixin (by decide)) dX1_led_278 ?_
  refine lv_aload_n hx hb dX1_led_279 rfl (lv_at hl 2 rfl) ?_
  refine lv_iconst (v := 2) hx hb dX1_led_280 (by decide) ?_
  refine va_iald hx hb hK hP 4 0 rfl rfl (fb_ixin (by decide)) dX1_led_281 ?_
  obtain ⟨nt_62, h61, h⟩ := fb_b1s h
  have hPc : va_P D vwCl (fb_wX1 cI h0 qn qf qw th ch o59 fg wt mi) H := hP.sub [0, 1, 2, 3] rfl
  have hDc : va_D A (fb_wX1 cI h0 qn qf qw th ch o59 fg wt mi) := hD.sub [0, 1, 2, 3] (by decide) rfl
  have hFc := va_free (wc := fb_wX1 cI h0 qn qf qw th ch o59 fg wt mi) hD hS hA [0, 1, 2, 3] rfl
  refine fb_callM (va_runV (As := [.int a1, .int ((upd (upd (upd (fun _ => 0) (0 : Int32).toNatClampNeg r3) (1 : Int32).toNatClampNeg r5) (2 : Int32).toNatClampNeg r7) (0 : Int32).toNatClampNeg), .int ((upd (upd (upd (fun _ => 0) (0 : Int32).toNatClampNeg r3) (1 : Int32).toNatClampNeg r5) (2 : Int32).toNatClampNeg r7) (1 : Int32).toNatClampNeg), .int ((upd (upd (upd (fun _ => 0) (0 : Int32).toNatClampNeg r3) (1 : Int32).toNatClampNeg r5) (2 : Int32).toNatClampNeg r7) (2 : Int32).toNatClampNeg)]) (rest := []) ⟨hx, hb, hml, hown, hts⟩ (metX1_let l D cI h0 qn qf qw B0 th ch o59 fg wt mi a1 ((upd (upd (upd (fun _ => 0) (0 : Int32).toNatClampNeg r3) (1 : Int32).toNatClampNeg r5) (2 : Int32).toNatClampNeg r7) (0 : Int32).toNatClampNeg) ((upd (upd (upd (fun _ => 0) (0 : Int32).toNatClampNeg r3) (1 : Int32).toNatClampNeg r5) (2 : Int32).toNatClampNeg r7) (1 : Int32).toNatClampNeg) ((upd (upd (upd (fun _ => 0) (0 : Int32).toNatClampNeg r3) (1 : Int32).toNatClampNeg r5) (2 : Int32).toNatClampNeg r7) (2 : Int32).toNatClampNeg) H.size nt_62 h61) (cwV 4 hts gX1_led_X1_let rfl rfl rfl (by decide +kernel) ⟨Nat.le_of_ble_eq_true rfl, Nat.le_of_ble_eq_true rfl⟩) (fb_preVM (ci := 1) fb_sX1p hPc hK hDc hZ hS hAB hA rfl rfl _) rfl rfl hl.1 rfl (lv_room (Nat.le_of_ble_eq_true rfl)) dX1_led_282 ⟨Nat.le_of_ble_eq_true rfl, Nat.le_of_ble_eq_true rfl⟩) hS (fun q _ h9 => hFc q h9) hFc (fun _ H1 locs hP1 hD1 hz1 hk1 hS => ?_)
  obtain ⟨hP, hD⟩ := va_join (wr := [(q1, .inl (cI, 3, .inl (upd (upd (upd (fun _ => 0) (0 : Int32).toNatClampNeg r3) (1 : Int32).toNatClampNeg r5) (2 : Int32).toNatClampNeg r7))), (q8, .inl (cI, 3, .inl o60))]) (w1 := fb_wX1 cI h0 qn qf qw th ch nt_62 fg wt mi) hP hD [0, 1, 2, 3] [4, 5] rfl rfl (by decide) (by decide) hk1 hFc hP1 hD1
  have hP : va_P D vwCl (fb_wX1 cI h0 qn qf qw th ch nt_62 fg wt mi ++ [(q1, .inl (cI, 3, .inl (upd (upd (upd (fun _ => 0) (0 : Int32).toNatClampNeg r3) (1 : Int32).toNatClampNeg r5) (2 : Int32).toNatClampNeg r7))), (q8, .inl (cI, 3, .inl o60))]) H1 := hP.sub [2, 3, 4, 5, 0, 1] rfl
  have hD : va_D A (fb_wX1 cI h0 qn qf qw th ch nt_62 fg wt mi ++ [(q1, .inl (cI, 3, .inl (upd (upd (upd (fun _ => 0) (0 : Int32).toNatClampNeg r3) (1 : Int32).toNatClampNeg r5) (2 : Int32).toNatClampNeg r7))), (q8, .inl (cI, 3, .inl o60))]) := hD.sub [2, 3, 4, 5, 0, 1] (by decide) rfl
  generalize H1 = H at hP hS
  refine lv_aload_n hx hb dX1_led_285 rfl (lv_at hl 1 rfl) ?_
  obtain ⟨e1, e2⟩ := fb_p2 h
  subst e1
  subst e2
  have hP : va_P D vwCl (fb_wX1 cI h0 qn qf qw th ch nt_62 fg wt mi ++ [(q8, .inl (cI, 3, .inl o60))]) H := hP.sub [0, 1, 2, 3, 5] rfl
  have hD : va_D A (fb_wX1 cI h0 qn qf qw th ch nt_62 fg wt mi ++ [(q8, .inl (cI, 3, .inl o60))]) := hD.sub [0, 1, 2, 3, 5] (by decide) rfl
  exact W.aret hx hb hr (Or.inr ⟨_, rfl⟩) (Or.inr ⟨_, rfl⟩) (fun t ht _ => ⟨⟨q8, rfl, by rw [ht]; exact hP, hD⟩, hS.F ht⟩) hS.2.2 dX1_led_286
abbrev rmX1_isLed : Room := { frames := 6, cells := 2, slots := 6, locals := 145 }
set_option maxHeartbeats 8000000 in
set_option maxRecDepth 100000 in
theorem metX1_isLed (l : Launch) (D : va_G) (cI : ClassId) (h0 qn qf qw B0 : Nat) (th : Int32) (ch : Int32) (nt : Nat → Int32) (fg : Nat → Int32) (wt : Nat → Int32) (mi : Int32) (a1 : Int32) (hz : Nat) (ro : Int32) (nto : Nat → Int32) (h : fX1_isLed th ch nt fg wt mi a1 = some (ro, nto)) : Met l yX1_isLed wsX1_isLed rmX1_isLed (va_Pc [.ref h0, .int a1] (fb_pm D [(cI, .int)] B0 fb_sX1 (fb_wX1 cI h0 qn qf qw th ch nt fg wt mi) hz)) (fb_qM (fun q => some (.int ro)) (fun q => fb_wX1 cI h0 qn qf qw th ch nto fg wt mi) D (va_A (fb_wX1 cI h0 qn qf qw th ch nt fg wt mi) hz)) 2 6 (va_A (fb_wX1 cI h0 qn qf qw th ch nt fg wt mi) hz) := by
  refine Met.ofW (cc := cX1_isLed) (maxL := 3) (ret := (some .boolean)) (by decide) rfl ?_
  intro p e s m args below meth c s₁ B hml hv
  obtain ⟨rfl, hsz, ⟨hP, hK, hZ⟩, hD0, hAB⟩ := hv
  have hx := B.exec
  have hb := B.bytes
  have hr := B.returns
  have hts := atoms_spec (ws := wsX1_isLed) B.pre
  have hown : s.vm.findClass RX1 = some m.cls := findClass_of_methodNamed B.named
  have hlocks := B.notSynchronized
  subst hsz
  have hD := hD0.self (sz := s.heap.size)
  generalize hAe : va_A (fb_wX1 cI h0 qn qf qw th ch nt fg wt mi) s.heap.size = A at hD hAB ⊢
  have hA : ∀ q : Nat, s.heap.size ≤ q → A q := fun q h9 => by rw [← hAe]; exact Or.inr h9
  have hS : va_S A s.heap s.heap [] := va_S.rf
  have hP : va_P D vwCl (fb_wX1 cI h0 qn qf qw th ch nt fg wt mi) s.heap := hP
  have hin0 : ∀ w ∈ u_ws RX1 TX1 6, w ∈ wsX1_isLed := fun _ h9 => List.mem_cons_of_mem _ (List.mem_append_right _ (h9))
  have hl := lv_entry ([.ref h0, .int a1]) (n := 3) (Nat.le_of_ble_eq_true rfl)
  rw [lg_entry_eq]
  generalize (lg_sl ([.ref h0, .int a1]) ++ List.replicate (3 - (lg_sl ([.ref h0, .int a1])).length) Slot.unset).toArray = ls at hl ⊢
  have hl : lv_has ls 3 [(0, .ref h0), (1, .int a1)] := hl
  suffices K : ∀ (H : Heap) (locs : List Loc), va_P D vwCl (fb_wX1 cI h0 qn qf qw th ch nt fg wt mi) H → va_S A s.heap H locs → W p l e (headSpec wsX1_isLed rmX1_isLed).room s m ([.ref h0, .int a1] : List Value).toArray below meth c H locs 0 0 (MQ below (fb_qM (fun q => some (.int ro)) (fun q => fb_wX1 cI h0 qn qf qw th ch nto fg wt mi) D A) ([.ref h0, .int a1] : List Value).toArray s 2 6 A) (F0 m 0 ls []) from K s.heap [] hP hS
  intro H locs hP hS
  unfold fX1_isLed at h
  refine lv_aload_n hx hb dX1_isLed_0 rfl (lv_at hl 0 rfl) ?_
  refine lv_iload_n hx hb dX1_isLed_1 rfl (lv_at hl 1 rfl) ?_
  obtain ⟨nt_2, f3, h1, h⟩ := fb_b2s h
  have hPc : va_P D vwCl (fb_wX1 cI h0 qn qf qw th ch nt fg wt mi) H := hP.sub [0, 1, 2, 3] rfl
  have hDc : va_D A (fb_wX1 cI h0 qn qf qw th ch nt fg wt mi) := hD.sub [0, 1, 2, 3] (by decide) rfl
  have hFc := va_free (wc := fb_wX1 cI h0 qn qf qw th ch nt fg wt mi) hD hS hA [0, 1, 2, 3] rfl
  refine fb_callM (va_runV (As := [.int a1]) (rest := []) ⟨hx, hb, hml, hown, hts⟩ (metX1_led l D cI h0 qn qf qw B0 th ch nt fg wt mi a1 H.size nt_2 f3 h1) (cwV 1 hts gX1_isLed_X1_led rfl rfl rfl (by decide +kernel) ⟨Nat.le_of_ble_eq_true rfl, Nat.le_of_ble_eq_true rfl⟩) (fb_preVM (ci := 1) fb_sX1p hPc hK hDc hZ hS hAB hA rfl rfl _) rfl rfl hl.1 rfl (lv_room (Nat.le_of_ble_eq_true rfl)) dX1_isLed_2 ⟨Nat.le_of_ble_eq_true rfl, Nat.le_of_ble_eq_true rfl⟩) hS (fun q _ h9 => hFc q h9) hFc (fun q4 H1 locs hP1 hD1 hz1 hk1 hS => ?_)
  have hP : va_P D vwCl (fb_wX1 cI h0 qn qf qw th ch nt_2 fg wt mi ++ [(q4, .inl (cI, 3, .inl f3))]) H1 := hP1
  have hD : va_D A (fb_wX1 cI h0 qn qf qw th ch nt_2 fg wt mi ++ [(q4, .inl (cI, 3, .inl f3))]) := hD1.weaken (fun _ q _ h9 => hFc q.1 h9)
  generalize H1 = H at hP hS
  refine lv_iconst (v := 0) hx hb dX1_isLed_5 (by decide) ?_
  refine va_iald hx hb hK hP 4 0 rfl rfl (fb_ixin (by decide)) dX1_isLed_6 ?_
  refine lv_istore_n (lv' := [(2, .int (f3 (0 : Int32).toNatClampNeg)), (0, .ref h0), (1, .int a1)]) hx hb dX1_isLed_7 rfl hl (by decide) rfl (fun ls hl => ?_)
  refine lv_iload_n hx hb dX1_isLed_8 rfl (lv_at hl 0 rfl) ?_
  refine lv_iconst (v := (-1)) hx hb dX1_isLed_9 (by decide) ?_
  obtain ⟨nt_8, hjJ1, h⟩ := fb_b1s h
  have J1 : ∀ (H : Heap) (locs : List Loc), va_P D vwCl (fb_wX1 cI h0 qn qf qw th ch nt_8 fg wt mi ++ [(q4, .inl (cI, 3, .inl f3))]) H → va_D A (fb_wX1 cI h0 qn qf qw th ch nt_8 fg wt mi ++ [(q4, .inl (cI, 3, .inl f3))]) → va_S A s.heap H locs → ∀ (ls : Array Slot), lv_has ls 3 [(2, .int (f3 (0 : Int32).toNatClampNeg))] → W p l e (headSpec wsX1_isLed rmX1_isLed).room s m ([.ref h0, .int a1] : List Value).toArray below meth c H locs 2 6 (MQ below (fb_qM (fun q => some (.int ro)) (fun q => fb_wX1 cI h0 qn qf qw th ch nto fg wt mi) D A) ([.ref h0, .int a1] : List Value).toArray s 2 6 A) (F0 m 34 ls []) := by
    intro H locs hP hD hS ls hl
    refine lv_iload_n hx hb dX1_isLed_34 rfl (lv_at hl 0 rfl) ?_
    refine lv_iconst (v := (-1)) hx hb dX1_isLed_35 (by decide) ?_
    refine lv_icmp_eq (tgt := 43) hx hb dX1_isLed_36 (by decide) (fun c9 => ?_) (fun c9 => ?_)
    · replace h := fb_it c9 h
      refine lv_iconst (v := 0) hx hb dX1_isLed_43 (by decide) ?_
      obtain ⟨e1, e2⟩ := fb_p2 h
      subst e1
      subst e2
      have hP : va_P D vwCl (fb_wX1 cI h0 qn qf qw th ch nt_8 fg wt mi) H := hP.sub [0, 1, 2, 3] rfl
      have hD : va_D A (fb_wX1 cI h0 qn qf qw th ch nt_8 fg wt mi) := hD.sub [0, 1, 2, 3] (by decide) rfl
      exact W.zret (ty := .boolean) hx hb hr rfl (fun t ht _ => ⟨⟨0, rfl, by rw [ht]; exact hP, hD⟩, hS.F ht⟩) hS.2.2 dX1_isLed_44
    · replace h := fb_ie c9 h
      refine lv_iconst (v := 1) hx hb dX1_isLed_39 (by decide) ?_
      refine lv_goto (tgt := 44) hx hb dX1_isLed_40 (by decide) ?_
      obtain ⟨e1, e2⟩ := fb_p2 h
      subst e1
      subst e2
      have hP : va_P D vwCl (fb_wX1 cI h0 qn qf qw th ch nt_8 fg wt mi) H := hP.sub [0, 1, 2, 3] rfl
      have hD : va_D A (fb_wX1 cI h0 qn qf qw th ch nt_8 fg wt mi) := hD.sub [0, 1, 2, 3] (by decide) rfl
      exact W.zret (ty := .boolean) hx hb hr rfl (fun t ht _ => ⟨⟨0, rfl, by rw [ht]; exact hP, hD⟩, hS.F ht⟩) hS.2.2 dX1_isLed_44
  replace h := hjJ1
  refine lv_icmp_eq (tgt := 34) hx hb dX1_isLed_10 (by decide) (fun c5 => ?_) (fun c5 => ?_)
  · replace h := fb_it c5 h
    have h := Option.some.inj h
    subst h
    exact J1 H locs hP hD hS ls (lv_sub hl [0] rfl)
  · replace h := fb_ie c5 h
    refine lv_aload_n hx hb dX1_isLed_13 rfl (lv_at hl 1 rfl) ?_
    refine lv_iload_n hx hb dX1_isLed_14 rfl (lv_at hl 2 rfl) ?_
    refine lv_iload_n hx hb dX1_isLed_15 rfl (lv_at hl 0 rfl) ?_
    refine lv_sipush (v := 784) hx hb dX1_isLed_16 (by decide) ?_
    refine lv_idiv hx hb dX1_isLed_19 (by decide) ?_
    refine lv_iload_n hx hb dX1_isLed_20 rfl (lv_at hl 0 rfl) ?_
    refine lv_bipush (v := 28) hx hb dX1_isLed_21 (by decide) ?_
    refine lv_idiv hx hb dX1_isLed_23 (by decide) ?_
    refine lv_bipush (v := 28) hx hb dX1_isLed_24 (by decide) ?_
    refine lv_irem hx hb dX1_isLed_26 (by decide) ?_
    refine lv_iload_n hx hb dX1_isLed_27 rfl (lv_at hl 0 rfl) ?_
    refine lv_bipush (v := 28) hx hb dX1_isLed_28 (by decide) ?_
    refine lv_irem hx hb dX1_isLed_30 (by decide) ?_
    obtain ⟨nt_7, h6, h⟩ := fb_b1s h
    have hPc : va_P D vwCl (fb_wX1 cI h0 qn qf qw th ch nt_2 fg wt mi) H := hP.sub [0, 1, 2, 3] rfl
    have hDc : va_D A (fb_wX1 cI h0 qn qf qw th ch nt_2 fg wt mi) := hD.sub [0, 1, 2, 3] (by decide) rfl
    have hFc := va_free (wc := fb_wX1 cI h0 qn qf qw th ch nt_2 fg wt mi) hD hS hA [0, 1, 2, 3] rfl
    refine fb_callM (va_runV (As := [.int a1, .int ((f3 (0 : Int32).toNatClampNeg) / 784), .int (((f3 (0 : Int32).toNatClampNeg) / 28) - ((f3 (0 : Int32).toNatClampNeg) / 28) / 28 * 28), .int ((f3 (0 : Int32).toNatClampNeg) - (f3 (0 : Int32).toNatClampNeg) / 28 * 28)]) (rest := []) ⟨hx, hb, hml, hown, hts⟩ (metX1_let l D cI h0 qn qf qw B0 th ch nt_2 fg wt mi a1 ((f3 (0 : Int32).toNatClampNeg) / 784) (((f3 (0 : Int32).toNatClampNeg) / 28) - ((f3 (0 : Int32).toNatClampNeg) / 28) / 28 * 28) ((f3 (0 : Int32).toNatClampNeg) - (f3 (0 : Int32).toNatClampNeg) / 28 * 28) H.size nt_7 h6) (cwV 4 hts gX1_isLed_X1_let rfl rfl rfl (by decide +kernel) ⟨Nat.le_of_ble_eq_true rfl, Nat.le_of_ble_eq_true rfl⟩) (fb_preVM (ci := 1) fb_sX1p hPc hK hDc hZ hS hAB hA rfl rfl _) rfl rfl hl.1 rfl (lv_room (Nat.le_of_ble_eq_true rfl)) dX1_isLed_31 ⟨Nat.le_of_ble_eq_true rfl, Nat.le_of_ble_eq_true rfl⟩) hS (fun q _ h9 => hFc q h9) hFc (fun _ H1 locs hP1 hD1 hz1 hk1 hS => ?_)
    obtain ⟨hP, hD⟩ := va_join (wr := [(q4, .inl (cI, 3, .inl f3))]) (w1 := fb_wX1 cI h0 qn qf qw th ch nt_7 fg wt mi) hP hD [0, 1, 2, 3] [4] rfl rfl (by decide) (by decide) hk1 hFc hP1 hD1
    have hP : va_P D vwCl (fb_wX1 cI h0 qn qf qw th ch nt_7 fg wt mi ++ [(q4, .inl (cI, 3, .inl f3))]) H1 := hP.sub [1, 2, 3, 4, 0] rfl
    have hD : va_D A (fb_wX1 cI h0 qn qf qw th ch nt_7 fg wt mi ++ [(q4, .inl (cI, 3, .inl f3))]) := hD.sub [1, 2, 3, 4, 0] (by decide) rfl
    generalize H1 = H at hP hS
    have h := Option.some.inj h
    subst h
    exact J1 H locs hP hD hS ls (lv_sub hl [0] rfl)
abbrev rmX1_chordTold : Room := { frames := 5, cells := 0, slots := 0, locals := 118 }
set_option maxHeartbeats 8000000 in
set_option maxRecDepth 100000 in
theorem metX1_chordTold (l : Launch) (D : va_G) (cI : ClassId) (h0 qn qf qw B0 : Nat) (th : Int32) (ch : Int32) (nt : Nat → Int32) (fg : Nat → Int32) (wt : Nat → Int32) (mi : Int32) (a1 : Int32) (a2 : Int32) (ro : Int32) (h : fX1_chordTold th ch nt fg wt mi a1 a2 = some ro) : Met l yX1_chordTold wsX1_chordTold rmX1_chordTold (va_Pc [.ref h0, .int a1, .int a2] (fb_ok D [(cI, .int)] B0 fb_sX1 (fb_wX1 cI h0 qn qf qw th ch nt fg wt mi))) (QcRead ro) 0 0 (fun _ => False) := by
  refine Met.ofW (cc := cX1_chordTold) (maxL := 3) (ret := (some .int)) (by decide) rfl ?_
  intro p e s m args below meth c s₁ B hml hv
  obtain ⟨rfl, hP, hK, hZ⟩ := hv
  have hx := B.exec
  have hb := B.bytes
  have hr := B.returns
  have hts := atoms_spec (ws := wsX1_chordTold) B.pre
  have hown : s.vm.findClass RX1 = some m.cls := findClass_of_methodNamed B.named
  have hlocks := B.notSynchronized
  have hAB : ∀ q : Nat, (fun q => B0 ≤ q) q → B0 ≤ q := fun _ h9 => h9
  have hS : va_S (fun q => B0 ≤ q) s.heap s.heap [] := va_S.rf
  have hin0 : ∀ w ∈ u_ws RX1 TX1 6, w ∈ wsX1_chordTold := fun _ h9 => List.mem_cons_of_mem _ (List.mem_append_right _ (h9))
  have w_f13 : (Cond.fieldLink RX1 13 "FiguredBassModel" "figures" "[I") ∈ wsX1_chordTold := List.mem_of_getElem? (i := 1) rfl
  have hl := lv_entry ([.ref h0, .int a1, .int a2]) (n := 3) (Nat.le_of_ble_eq_true rfl)
  rw [lg_entry_eq]
  generalize (lg_sl ([.ref h0, .int a1, .int a2]) ++ List.replicate (3 - (lg_sl ([.ref h0, .int a1, .int a2])).length) Slot.unset).toArray = ls at hl ⊢
  have hl : lv_has ls 3 [(0, .ref h0), (1, .int a1), (2, .int a2)] := hl
  unfold fX1_chordTold at h
  refine lv_iload_n hx hb dX1_chordTold_0 rfl (lv_at hl 2 rfl) ?_
  by_cases c1_0 : a2 = 0
  · replace h := fb_it c1_0 h
    refine lv_tableIn (off := 35) (tgt := 36) hx hb dX1_chordTold_1 (by rw [c1_0]; decide) (by rw [c1_0]; decide) (by rw [c1_0]; rfl) (by decide) ?_
    refine lv_aload_n hx hb dX1_chordTold_36 rfl (lv_at hl 0 rfl) ?_
    refine va_get (D := D) (ci := 1) (v := .ref qf) (C := RX1) (T := TX1) (N := 6) hx hb hts hin0 hown hK hP 0 rfl rfl 3 (by decide) (hts _ w_f13) (fun _ h9 => h9) rfl dX1_chordTold_37 ?_
    refine lv_iload_n hx hb dX1_chordTold_40 rfl (lv_at hl 1 rfl) ?_
    obtain ⟨hi2, h⟩ := fb_cks h
    refine va_iald hx hb hK hP 2 0 rfl rfl (fb_ixin hi2) dX1_chordTold_41 ?_
    have h := Option.some.inj h
    subst h
    exact W.iret hx hb hr (fun t ht _ => ⟨rfl, ht⟩) (fun q hq => absurd hq List.not_mem_nil) dX1_chordTold_42
  replace h := fb_ie c1_0 h
  by_cases c1_1 : a2 = 1
  · replace h := fb_it c1_1 h
    refine lv_tableIn (off := 42) (tgt := 43) hx hb dX1_chordTold_1 (by rw [c1_1]; decide) (by rw [c1_1]; decide) (by rw [c1_1]; rfl) (by decide) ?_
    refine lv_aload_n hx hb dX1_chordTold_43 rfl (lv_at hl 0 rfl) ?_
    refine lv_iload_n hx hb dX1_chordTold_44 rfl (lv_at hl 1 rfl) ?_
    refine lv_iconst (v := 0) hx hb dX1_chordTold_45 (by decide) ?_
    obtain ⟨r5, h4, h⟩ := fb_b1s h
    refine fb_callR (W.runV (As := [.int a1, .int 0]) (rest := []) ⟨hx, hb, hml, hown, hts⟩ (metX1_at l D cI h0 qn qf qw B0 th ch nt fg wt mi a1 0 r5 h4) (cwV 2 hts gX1_chordTold_X1_at rfl rfl rfl (by decide +kernel) ⟨Nat.le_of_ble_eq_true rfl, Nat.le_of_ble_eq_true rfl⟩) (fb_preVR (ci := 1) fb_sX1p hP hK hZ hS hAB rfl rfl _) rfl rfl hl.1 rfl (lv_room (Nat.le_of_ble_eq_true rfl)) dX1_chordTold_46 ⟨Nat.le_of_ble_eq_true rfl, Nat.le_of_ble_eq_true rfl⟩) ?_
    refine lv_bipush (v := 7) hx hb dX1_chordTold_49 (by decide) ?_
    refine lv_irem hx hb dX1_chordTold_51 (by decide) ?_
    have h := Option.some.inj h
    subst h
    exact W.iret hx hb hr (fun t ht _ => ⟨rfl, ht⟩) (fun q hq => absurd hq List.not_mem_nil) dX1_chordTold_52
  replace h := fb_ie c1_1 h
  by_cases c1_2 : a2 = 2
  · replace h := fb_it c1_2 h
    refine lv_tableIn (off := 52) (tgt := 53) hx hb dX1_chordTold_1 (by rw [c1_2]; decide) (by rw [c1_2]; decide) (by rw [c1_2]; rfl) (by decide) ?_
    refine lv_aload_n hx hb dX1_chordTold_53 rfl (lv_at hl 0 rfl) ?_
    refine lv_iload_n hx hb dX1_chordTold_54 rfl (lv_at hl 1 rfl) ?_
    obtain ⟨r8, h7, h⟩ := fb_b1s h
    refine fb_callR (W.runV (As := [.int a1]) (rest := []) ⟨hx, hb, hml, hown, hts⟩ (metX1_isSet l D cI h0 qn qf qw B0 th ch nt fg wt mi a1 r8 h7) (cwV 1 hts gX1_chordTold_X1_isSet rfl rfl rfl (by decide +kernel) ⟨Nat.le_of_ble_eq_true rfl, Nat.le_of_ble_eq_true rfl⟩) (fb_preVR (ci := 1) fb_sX1p hP hK hZ hS hAB rfl rfl _) rfl rfl hl.1 rfl (lv_room (Nat.le_of_ble_eq_true rfl)) dX1_chordTold_55 ⟨Nat.le_of_ble_eq_true rfl, Nat.le_of_ble_eq_true rfl⟩) ?_
    refine lv_if_eq (tgt := 65) hx hb dX1_chordTold_58 (by decide) (fun c9 => ?_) (fun c9 => ?_)
    · replace h := fb_it c9 h
      refine lv_iconst (v := 0) hx hb dX1_chordTold_65 (by decide) ?_
      have h := Option.some.inj h
      subst h
      exact W.iret hx hb hr (fun t ht _ => ⟨rfl, ht⟩) (fun q hq => absurd hq List.not_mem_nil) dX1_chordTold_66
    · replace h := fb_ie c9 h
      refine lv_iconst (v := 1) hx hb dX1_chordTold_61 (by decide) ?_
      refine lv_goto (tgt := 66) hx hb dX1_chordTold_62 (by decide) ?_
      have h := Option.some.inj h
      subst h
      exact W.iret hx hb hr (fun t ht _ => ⟨rfl, ht⟩) (fun q hq => absurd hq List.not_mem_nil) dX1_chordTold_66
  replace h := fb_ie c1_2 h
  by_cases c1_3 : a2 = 3
  · replace h := fb_it c1_3 h
    refine lv_tableIn (off := 66) (tgt := 67) hx hb dX1_chordTold_1 (by rw [c1_3]; decide) (by rw [c1_3]; decide) (by rw [c1_3]; rfl) (by decide) ?_
    refine lv_aload_n hx hb dX1_chordTold_67 rfl (lv_at hl 0 rfl) ?_
    refine lv_iload_n hx hb dX1_chordTold_68 rfl (lv_at hl 1 rfl) ?_
    obtain ⟨r13, h12, h⟩ := fb_b1s h
    refine fb_callR (W.runV (As := [.int a1]) (rest := []) ⟨hx, hb, hml, hown, hts⟩ (metX1_isRight l D cI h0 qn qf qw B0 th ch nt fg wt mi a1 r13 h12) (cwV 1 hts gX1_chordTold_X1_isRight rfl rfl rfl (by decide +kernel) ⟨Nat.le_of_ble_eq_true rfl, Nat.le_of_ble_eq_true rfl⟩) (fb_preVR (ci := 1) fb_sX1p hP hK hZ hS hAB rfl rfl _) rfl rfl hl.1 rfl (lv_room (Nat.le_of_ble_eq_true rfl)) dX1_chordTold_69 ⟨Nat.le_of_ble_eq_true rfl, Nat.le_of_ble_eq_true rfl⟩) ?_
    refine lv_if_eq (tgt := 79) hx hb dX1_chordTold_72 (by decide) (fun c14 => ?_) (fun c14 => ?_)
    · replace h := fb_it c14 h
      refine lv_iconst (v := 0) hx hb dX1_chordTold_79 (by decide) ?_
      have h := Option.some.inj h
      subst h
      exact W.iret hx hb hr (fun t ht _ => ⟨rfl, ht⟩) (fun q hq => absurd hq List.not_mem_nil) dX1_chordTold_80
    · replace h := fb_ie c14 h
      refine lv_iconst (v := 1) hx hb dX1_chordTold_75 (by decide) ?_
      refine lv_goto (tgt := 80) hx hb dX1_chordTold_76 (by decide) ?_
      have h := Option.some.inj h
      subst h
      exact W.iret hx hb hr (fun t ht _ => ⟨rfl, ht⟩) (fun q hq => absurd hq List.not_mem_nil) dX1_chordTold_80
  replace h := fb_ie c1_3 h
  by_cases c1_4 : a2 = 4
  · replace h := fb_it c1_4 h
    refine lv_tableIn (off := 80) (tgt := 81) hx hb dX1_chordTold_1 (by rw [c1_4]; decide) (by rw [c1_4]; decide) (by rw [c1_4]; rfl) (by decide) ?_
    refine lv_aload_n hx hb dX1_chordTold_81 rfl (lv_at hl 0 rfl) ?_
    refine lv_iload_n hx hb dX1_chordTold_82 rfl (lv_at hl 1 rfl) ?_
    obtain ⟨r18, h17, h⟩ := fb_b1s h
    refine fb_callR (W.runV (As := [.int a1]) (rest := []) ⟨hx, hb, hml, hown, hts⟩ (metX1_steps l D cI h0 qn qf qw B0 th ch nt fg wt mi a1 r18 h17) (cwV 1 hts gX1_chordTold_X1_steps rfl rfl rfl (by decide +kernel) ⟨Nat.le_of_ble_eq_true rfl, Nat.le_of_ble_eq_true rfl⟩) (fb_preVR (ci := 1) fb_sX1p hP hK hZ hS hAB rfl rfl _) rfl rfl hl.1 rfl (lv_room (Nat.le_of_ble_eq_true rfl)) dX1_chordTold_83 ⟨Nat.le_of_ble_eq_true rfl, Nat.le_of_ble_eq_true rfl⟩) ?_
    have h := Option.some.inj h
    subst h
    exact W.iret hx hb hr (fun t ht _ => ⟨rfl, ht⟩) (fun q hq => absurd hq List.not_mem_nil) dX1_chordTold_86
  replace h := fb_ie c1_4 h
  refine lv_tableOut (tgt := 87) hx hb dX1_chordTold_1 (by have e0 := lv_neT (a := 0) c1_0 (by decide); have e1 := lv_neT (a := 1) c1_1 (by decide); have e2 := lv_neT (a := 2) c1_2 (by decide); have e3 := lv_neT (a := 3) c1_3 (by decide); have e4 := lv_neT (a := 4) c1_4 (by decide); omega) (by decide) ?_
  refine lv_aload_n hx hb dX1_chordTold_87 rfl (lv_at hl 0 rfl) ?_
  refine lv_iload_n hx hb dX1_chordTold_88 rfl (lv_at hl 1 rfl) ?_
  obtain ⟨r21, h20, h⟩ := fb_b1s h
  refine fb_callR (W.runV (As := [.int a1]) (rest := []) ⟨hx, hb, hml, hown, hts⟩ (metX1_cost l D cI h0 qn qf qw B0 th ch nt fg wt mi a1 r21 h20) (cwV 1 hts gX1_chordTold_X1_cost rfl rfl rfl (by decide +kernel) ⟨Nat.le_of_ble_eq_true rfl, Nat.le_of_ble_eq_true rfl⟩) (fb_preVR (ci := 1) fb_sX1p hP hK hZ hS hAB rfl rfl _) rfl rfl hl.1 rfl (lv_room (Nat.le_of_ble_eq_true rfl)) dX1_chordTold_89 ⟨Nat.le_of_ble_eq_true rfl, Nat.le_of_ble_eq_true rfl⟩) ?_
  have h := Option.some.inj h
  subst h
  exact W.iret hx hb hr (fun t ht _ => ⟨rfl, ht⟩) (fun q hq => absurd hq List.not_mem_nil) dX1_chordTold_92
abbrev rmX1_all : Room := { frames := 6, cells := 0, slots := 0, locals := 140 }
set_option maxHeartbeats 8000000 in
set_option maxRecDepth 100000 in
theorem metX1_all (l : Launch) (D : va_G) (cI : ClassId) (h0 qn qf qw B0 : Nat) (th : Int32) (ch : Int32) (nt : Nat → Int32) (fg : Nat → Int32) (wt : Nat → Int32) (mi : Int32) (a1 : Int32) (ro : Int32) (h : fX1_all th ch nt fg wt mi a1 = some ro) : Met l yX1_all wsX1_all rmX1_all (va_Pc [.ref h0, .int a1] (fb_ok D [(cI, .int)] B0 fb_sX1 (fb_wX1 cI h0 qn qf qw th ch nt fg wt mi))) (QcRead ro) 0 0 (fun _ => False) := by
  refine Met.ofW (cc := cX1_all) (maxL := 4) (ret := (some .int)) (by decide) rfl ?_
  intro p e s m args below meth c s₁ B hml hv
  obtain ⟨rfl, hP, hK, hZ⟩ := hv
  have hx := B.exec
  have hb := B.bytes
  have hr := B.returns
  have hts := atoms_spec (ws := wsX1_all) B.pre
  have hown : s.vm.findClass RX1 = some m.cls := findClass_of_methodNamed B.named
  have hlocks := B.notSynchronized
  have hAB : ∀ q : Nat, (fun q => B0 ≤ q) q → B0 ≤ q := fun _ h9 => h9
  have hS : va_S (fun q => B0 ≤ q) s.heap s.heap [] := va_S.rf
  have hin0 : ∀ w ∈ u_ws RX1 TX1 6, w ∈ wsX1_all := fun _ h9 => List.mem_cons_of_mem _ (List.mem_append_right _ (h9))
  have w_f23 : (Cond.fieldLink RX1 23 "FiguredBassModel" "chords" "I") ∈ wsX1_all := List.mem_of_getElem? (i := 1) rfl
  have hl := lv_entry ([.ref h0, .int a1]) (n := 4) (Nat.le_of_ble_eq_true rfl)
  rw [lg_entry_eq]
  generalize (lg_sl ([.ref h0, .int a1]) ++ List.replicate (4 - (lg_sl ([.ref h0, .int a1])).length) Slot.unset).toArray = ls at hl ⊢
  have hl : lv_has ls 4 [(0, .ref h0), (1, .int a1)] := hl
  unfold fX1_all at h
  refine lv_iconst (v := 0) hx hb dX1_all_0 (by decide) ?_
  refine lv_istore_n (lv' := [(2, .int 0), (0, .ref h0), (1, .int a1)]) hx hb dX1_all_1 rfl hl (by decide) rfl (fun ls hl => ?_)
  refine lv_iconst (v := 0) hx hb dX1_all_2 (by decide) ?_
  refine lv_istore_n (lv' := [(3, .int 0), (2, .int 0), (0, .ref h0), (1, .int a1)]) hx hb dX1_all_3 rfl hl (by decide) rfl (fun ls hl => ?_)
  have LX1_all_4 : ∀ (n : Nat) (v1 : Int32) (v2 : Int32) (o6 : Int32) (o7 : Int32), lpX1_all_4 a1 th ch nt fg wt mi n v1 v2 = some (o6, o7) → ∀ (ls : Array Slot), lv_has ls 4 [(3, .int v1), (2, .int v2), (0, .ref h0), (1, .int a1)] → (∀ (ls : Array Slot), lv_has ls 4 [(3, .int o6), (2, .int o7), (0, .ref h0), (1, .int a1)] → W p l e (headSpec wsX1_all rmX1_all).room s m ([.ref h0, .int a1] : List Value).toArray below meth c s.heap [] 0 0 (MQ below (QcRead ro) ([.ref h0, .int a1] : List Value).toArray s 0 0 (fun _ => False)) (F0 m 27 ls [])) → W p l e (headSpec wsX1_all rmX1_all).room s m ([.ref h0, .int a1] : List Value).toArray below meth c s.heap [] 0 0 (MQ below (QcRead ro) ([.ref h0, .int a1] : List Value).toArray s 0 0 (fun _ => False)) (F0 m 4 ls []) := by
    intro n
    induction n with
    | zero =>
      intro v1 v2 o6 o7 h
      rw [lpX1_all_4.eq_1] at h
      cases h
    | succ n ih =>
      intro v1 v2 o6 o7 h ls hl kx
      rw [lpX1_all_4.eq_2] at h
      refine lv_iload_n hx hb dX1_all_4 rfl (lv_at hl 0 rfl) ?_
      refine lv_aload_n hx hb dX1_all_5 rfl (lv_at hl 2 rfl) ?_
      refine va_get (D := D) (ci := 1) (v := .int ch) (C := RX1) (T := TX1) (N := 6) hx hb hts hin0 hown hK hP 0 rfl rfl 1 (by decide) (hts _ w_f23) (fun _ h9 => h9) rfl dX1_all_6 ?_
      refine lv_icmp_ge (tgt := 27) hx hb dX1_all_9 (by decide) (fun c3 => ?_) (fun c3 => ?_)
      · replace h := fb_it c3 h
        obtain ⟨e1, e2⟩ := fb_p2 h
        subst e1
        subst e2
        exact kx ls (lv_sub hl [0, 1, 2, 3] rfl)
      · replace h := fb_ie c3 h
        refine lv_iload_n hx hb dX1_all_12 rfl (lv_at hl 1 rfl) ?_
        refine lv_aload_n hx hb dX1_all_13 rfl (lv_at hl 2 rfl) ?_
        refine lv_iload_n hx hb dX1_all_14 rfl (lv_at hl 0 rfl) ?_
        refine lv_iload_n hx hb dX1_all_15 rfl (lv_at hl 3 rfl) ?_
        obtain ⟨r5, h4, h⟩ := fb_b1s h
        refine fb_callR (W.runV (As := [.int v1, .int a1]) (rest := [.int v2]) ⟨hx, hb, hml, hown, hts⟩ (metX1_chordTold l D cI h0 qn qf qw B0 th ch nt fg wt mi v1 a1 r5 h4) (cwV 2 hts gX1_all_X1_chordTold rfl rfl rfl (by decide +kernel) ⟨Nat.le_of_ble_eq_true rfl, Nat.le_of_ble_eq_true rfl⟩) (fb_preVR (ci := 1) fb_sX1p hP hK hZ hS hAB rfl rfl _) rfl rfl hl.1 rfl (lv_room (Nat.le_of_ble_eq_true rfl)) dX1_all_16 ⟨Nat.le_of_ble_eq_true rfl, Nat.le_of_ble_eq_true rfl⟩) ?_
        refine lv_iadd hx hb dX1_all_19 ?_
        refine lv_istore_n (lv' := [(2, .int (v2 + r5)), (3, .int v1), (0, .ref h0), (1, .int a1)]) hx hb dX1_all_20 rfl hl (by decide) rfl (fun ls hl => ?_)
        refine lv_iinc (v := v1 + 1) (lv' := [(3, .int (v1 + 1)), (2, .int (v2 + r5)), (0, .ref h0), (1, .int a1)]) hx hb dX1_all_21 hl (k := 1) rfl rfl (by decide) rfl (fun ls hl => ?_)
        refine lv_goto (tgt := 4) hx hb dX1_all_24 (by decide) ?_
        exact ih _ _ o6 o7 h ls (lv_sub hl [0, 1, 2, 3] rfl) kx
  obtain ⟨o6, o7, h9, h⟩ := fb_b2s h
  refine LX1_all_4 _ _ _ o6 o7 h9 ls (lv_sub hl [0, 1, 2, 3] rfl) (fun ls hl => ?_)
  refine lv_iload_n hx hb dX1_all_27 rfl (lv_at hl 1 rfl) ?_
  have h := Option.some.inj h
  subst h
  exact W.iret hx hb hr (fun t ht _ => ⟨rfl, ht⟩) (fun q hq => absurd hq List.not_mem_nil) dX1_all_28
abbrev rmX1_allFaults : Room := { frames := 4, cells := 0, slots := 0, locals := 95 }
set_option maxHeartbeats 8000000 in
set_option maxRecDepth 100000 in
theorem metX1_allFaults (l : Launch) (D : va_G) (cI : ClassId) (h0 qn qf qw B0 : Nat) (th : Int32) (ch : Int32) (nt : Nat → Int32) (fg : Nat → Int32) (wt : Nat → Int32) (mi : Int32) (ro : Int32) (h : fX1_allFaults th ch nt fg wt mi = some ro) : Met l yX1_allFaults wsX1_allFaults rmX1_allFaults (va_Pc [.ref h0] (fb_ok D [(cI, .int)] B0 fb_sX1 (fb_wX1 cI h0 qn qf qw th ch nt fg wt mi))) (QcRead ro) 0 0 (fun _ => False) := by
  refine Met.ofW (cc := cX1_allFaults) (maxL := 3) (ret := (some .int)) (by decide) rfl ?_
  intro p e s m args below meth c s₁ B hml hv
  obtain ⟨rfl, hP, hK, hZ⟩ := hv
  have hx := B.exec
  have hb := B.bytes
  have hr := B.returns
  have hts := atoms_spec (ws := wsX1_allFaults) B.pre
  have hown : s.vm.findClass RX1 = some m.cls := findClass_of_methodNamed B.named
  have hlocks := B.notSynchronized
  have hAB : ∀ q : Nat, (fun q => B0 ≤ q) q → B0 ≤ q := fun _ h9 => h9
  have hS : va_S (fun q => B0 ≤ q) s.heap s.heap [] := va_S.rf
  have hin0 : ∀ w ∈ u_ws RX1 TX1 6, w ∈ wsX1_allFaults := fun _ h9 => List.mem_cons_of_mem _ (List.mem_append_right _ (h9))
  have w_f23 : (Cond.fieldLink RX1 23 "FiguredBassModel" "chords" "I") ∈ wsX1_allFaults := List.mem_of_getElem? (i := 1) rfl
  have hl := lv_entry ([.ref h0]) (n := 3) (Nat.le_of_ble_eq_true rfl)
  rw [lg_entry_eq]
  generalize (lg_sl ([.ref h0]) ++ List.replicate (3 - (lg_sl ([.ref h0])).length) Slot.unset).toArray = ls at hl ⊢
  have hl : lv_has ls 3 [(0, .ref h0)] := hl
  unfold fX1_allFaults at h
  refine lv_iconst (v := 0) hx hb dX1_allFaults_0 (by decide) ?_
  refine lv_istore_n (lv' := [(1, .int 0), (0, .ref h0)]) hx hb dX1_allFaults_1 rfl hl (by decide) rfl (fun ls hl => ?_)
  refine lv_iconst (v := 0) hx hb dX1_allFaults_2 (by decide) ?_
  refine lv_istore_n (lv' := [(2, .int 0), (1, .int 0), (0, .ref h0)]) hx hb dX1_allFaults_3 rfl hl (by decide) rfl (fun ls hl => ?_)
  have LX1_allFaults_4 : ∀ (n : Nat) (v1 : Int32) (v2 : Int32) (o6 : Int32) (o7 : Int32), lpX1_allFaults_4 th ch nt fg wt mi n v1 v2 = some (o6, o7) → ∀ (ls : Array Slot), lv_has ls 3 [(2, .int v1), (1, .int v2), (0, .ref h0)] → (∀ (ls : Array Slot), lv_has ls 3 [(2, .int o6), (1, .int o7), (0, .ref h0)] → W p l e (headSpec wsX1_allFaults rmX1_allFaults).room s m ([.ref h0] : List Value).toArray below meth c s.heap [] 0 0 (MQ below (QcRead ro) ([.ref h0] : List Value).toArray s 0 0 (fun _ => False)) (F0 m 36 ls [])) → W p l e (headSpec wsX1_allFaults rmX1_allFaults).room s m ([.ref h0] : List Value).toArray below meth c s.heap [] 0 0 (MQ below (QcRead ro) ([.ref h0] : List Value).toArray s 0 0 (fun _ => False)) (F0 m 4 ls []) := by
    intro n
    induction n with
    | zero =>
      intro v1 v2 o6 o7 h
      rw [lpX1_allFaults_4.eq_1] at h
      cases h
    | succ n ih =>
      intro v1 v2 o6 o7 h ls hl kx
      rw [lpX1_allFaults_4.eq_2] at h
      refine lv_iload_n hx hb dX1_allFaults_4 rfl (lv_at hl 0 rfl) ?_
      refine lv_bipush (v := 8) hx hb dX1_allFaults_5 (by decide) ?_
      refine lv_aload_n hx hb dX1_allFaults_7 rfl (lv_at hl 2 rfl) ?_
      refine va_get (D := D) (ci := 1) (v := .int ch) (C := RX1) (T := TX1) (N := 6) hx hb hts hin0 hown hK hP 0 rfl rfl 1 (by decide) (hts _ w_f23) (fun _ h9 => h9) rfl dX1_allFaults_8 ?_
      refine lv_imul hx hb dX1_allFaults_11 ?_
      refine lv_icmp_ge (tgt := 36) hx hb dX1_allFaults_12 (by decide) (fun c3 => ?_) (fun c3 => ?_)
      · replace h := fb_it c3 h
        obtain ⟨e1, e2⟩ := fb_p2 h
        subst e1
        subst e2
        exact kx ls (lv_sub hl [0, 1, 2] rfl)
      · replace h := fb_ie c3 h
        refine lv_iload_n hx hb dX1_allFaults_15 rfl (lv_at hl 1 rfl) ?_
        refine lv_aload_n hx hb dX1_allFaults_16 rfl (lv_at hl 2 rfl) ?_
        refine lv_iload_n hx hb dX1_allFaults_17 rfl (lv_at hl 0 rfl) ?_
        refine lv_bipush (v := 8) hx hb dX1_allFaults_18 (by decide) ?_
        refine lv_idiv hx hb dX1_allFaults_20 (by decide) ?_
        refine lv_iload_n hx hb dX1_allFaults_21 rfl (lv_at hl 0 rfl) ?_
        refine lv_bipush (v := 8) hx hb dX1_allFaults_22 (by decide) ?_
        refine lv_irem hx hb dX1_allFaults_24 (by decide) ?_
        obtain ⟨r5, h4, h⟩ := fb_b1s h
        refine fb_callR (W.runV (As := [.int (v1 / 8), .int (v1 - v1 / 8 * 8)]) (rest := [.int v2]) ⟨hx, hb, hml, hown, hts⟩ (metX1_faultsOf l D cI h0 qn qf qw B0 th ch nt fg wt mi (v1 / 8) (v1 - v1 / 8 * 8) r5 h4) (cwV 2 hts gX1_allFaults_X1_faultsOf rfl rfl rfl (by decide +kernel) ⟨Nat.le_of_ble_eq_true rfl, Nat.le_of_ble_eq_true rfl⟩) (fb_preVR (ci := 1) fb_sX1p hP hK hZ hS hAB rfl rfl _) rfl rfl hl.1 rfl (lv_room (Nat.le_of_ble_eq_true rfl)) dX1_allFaults_25 ⟨Nat.le_of_ble_eq_true rfl, Nat.le_of_ble_eq_true rfl⟩) ?_
        refine lv_iadd hx hb dX1_allFaults_28 ?_
        refine lv_istore_n (lv' := [(1, .int (v2 + r5)), (2, .int v1), (0, .ref h0)]) hx hb dX1_allFaults_29 rfl hl (by decide) rfl (fun ls hl => ?_)
        refine lv_iinc (v := v1 + 1) (lv' := [(2, .int (v1 + 1)), (1, .int (v2 + r5)), (0, .ref h0)]) hx hb dX1_allFaults_30 hl (k := 1) rfl rfl (by decide) rfl (fun ls hl => ?_)
        refine lv_goto (tgt := 4) hx hb dX1_allFaults_33 (by decide) ?_
        exact ih _ _ o6 o7 h ls (lv_sub hl [0, 1, 2] rfl) kx
  obtain ⟨o6, o7, h9, h⟩ := fb_b2s h
  refine LX1_allFaults_4 _ _ _ o6 o7 h9 ls (lv_sub hl [0, 1, 2] rfl) (fun ls hl => ?_)
  refine lv_iload_n hx hb dX1_allFaults_36 rfl (lv_at hl 1 rfl) ?_
  have h := Option.some.inj h
  subst h
  exact W.iret hx hb hr (fun t ht _ => ⟨rfl, ht⟩) (fun q hq => absurd hq List.not_mem_nil) dX1_allFaults_37
abbrev rmX1_counted : Room := { frames := 7, cells := 0, slots := 0, locals := 163 }
set_option maxHeartbeats 8000000 in
set_option maxRecDepth 100000 in
theorem metX1_counted (l : Launch) (D : va_G) (cI : ClassId) (h0 qn qf qw B0 : Nat) (th : Int32) (ch : Int32) (nt : Nat → Int32) (fg : Nat → Int32) (wt : Nat → Int32) (mi : Int32) (a1 : Int32) (ro : Int32) (h : fX1_counted th ch nt fg wt mi a1 = some ro) : Met l yX1_counted wsX1_counted rmX1_counted (va_Pc [.ref h0, .int a1] (fb_ok D [(cI, .int)] B0 fb_sX1 (fb_wX1 cI h0 qn qf qw th ch nt fg wt mi))) (QcRead ro) 0 0 (fun _ => False) := by
  refine Met.ofW (cc := cX1_counted) (maxL := 2) (ret := (some .int)) (by decide) rfl ?_
  intro p e s m args below meth c s₁ B hml hv
  obtain ⟨rfl, hP, hK, hZ⟩ := hv
  have hx := B.exec
  have hb := B.bytes
  have hr := B.returns
  have hts := atoms_spec (ws := wsX1_counted) B.pre
  have hown : s.vm.findClass RX1 = some m.cls := findClass_of_methodNamed B.named
  have hlocks := B.notSynchronized
  have hAB : ∀ q : Nat, (fun q => B0 ≤ q) q → B0 ≤ q := fun _ h9 => h9
  have hS : va_S (fun q => B0 ≤ q) s.heap s.heap [] := va_S.rf
  have hin0 : ∀ w ∈ u_ws RX1 TX1 6, w ∈ wsX1_counted := fun _ h9 => List.mem_cons_of_mem _ (List.mem_append_right _ (h9))
  have w_f23 : (Cond.fieldLink RX1 23 "FiguredBassModel" "chords" "I") ∈ wsX1_counted := List.mem_of_getElem? (i := 1) rfl
  have w_f36 : (Cond.fieldLink RX1 36 "FiguredBassModel" "isMinor" "Z") ∈ wsX1_counted := List.mem_of_getElem? (i := 2) rfl
  have hl := lv_entry ([.ref h0, .int a1]) (n := 2) (Nat.le_of_ble_eq_true rfl)
  rw [lg_entry_eq]
  generalize (lg_sl ([.ref h0, .int a1]) ++ List.replicate (2 - (lg_sl ([.ref h0, .int a1])).length) Slot.unset).toArray = ls at hl ⊢
  have hl : lv_has ls 2 [(0, .ref h0), (1, .int a1)] := hl
  unfold fX1_counted at h
  refine lv_iload_n hx hb dX1_counted_0 rfl (lv_at hl 1 rfl) ?_
  by_cases c1_0 : a1 = 0
  · replace h := fb_it c1_0 h
    refine lv_tableIn (off := 39) (tgt := 40) hx hb dX1_counted_1 (by rw [c1_0]; decide) (by rw [c1_0]; decide) (by rw [c1_0]; rfl) (by decide) ?_
    refine lv_aload_n hx hb dX1_counted_40 rfl (lv_at hl 0 rfl) ?_
    refine va_get (D := D) (ci := 1) (v := .int ch) (C := RX1) (T := TX1) (N := 6) hx hb hts hin0 hown hK hP 0 rfl rfl 1 (by decide) (hts _ w_f23) (fun _ h9 => h9) rfl dX1_counted_41 ?_
    have h := Option.some.inj h
    subst h
    exact W.iret hx hb hr (fun t ht _ => ⟨rfl, ht⟩) (fun q hq => absurd hq List.not_mem_nil) dX1_counted_44
  replace h := fb_ie c1_0 h
  by_cases c1_1 : a1 = 1
  · replace h := fb_it c1_1 h
    refine lv_tableIn (off := 44) (tgt := 45) hx hb dX1_counted_1 (by rw [c1_1]; decide) (by rw [c1_1]; decide) (by rw [c1_1]; rfl) (by decide) ?_
    refine lv_aload_n hx hb dX1_counted_45 rfl (lv_at hl 0 rfl) ?_
    refine lv_iload_n hx hb dX1_counted_46 rfl (lv_at hl 1 rfl) ?_
    refine lv_iconst (v := 1) hx hb dX1_counted_47 (by decide) ?_
    refine lv_iadd hx hb dX1_counted_48 ?_
    obtain ⟨r4, h3, h⟩ := fb_b1s h
    refine fb_callR (W.runV (As := [.int (a1 + 1)]) (rest := []) ⟨hx, hb, hml, hown, hts⟩ (metX1_all l D cI h0 qn qf qw B0 th ch nt fg wt mi (a1 + 1) r4 h3) (cwV 1 hts gX1_counted_X1_all rfl rfl rfl (by decide +kernel) ⟨Nat.le_of_ble_eq_true rfl, Nat.le_of_ble_eq_true rfl⟩) (fb_preVR (ci := 1) fb_sX1p hP hK hZ hS hAB rfl rfl _) rfl rfl hl.1 rfl (lv_room (Nat.le_of_ble_eq_true rfl)) dX1_counted_49 ⟨Nat.le_of_ble_eq_true rfl, Nat.le_of_ble_eq_true rfl⟩) ?_
    have h := Option.some.inj h
    subst h
    exact W.iret hx hb hr (fun t ht _ => ⟨rfl, ht⟩) (fun q hq => absurd hq List.not_mem_nil) dX1_counted_52
  replace h := fb_ie c1_1 h
  by_cases c1_2 : a1 = 2
  · replace h := fb_it c1_2 h
    refine lv_tableIn (off := 44) (tgt := 45) hx hb dX1_counted_1 (by rw [c1_2]; decide) (by rw [c1_2]; decide) (by rw [c1_2]; rfl) (by decide) ?_
    refine lv_aload_n hx hb dX1_counted_45 rfl (lv_at hl 0 rfl) ?_
    refine lv_iload_n hx hb dX1_counted_46 rfl (lv_at hl 1 rfl) ?_
    refine lv_iconst (v := 1) hx hb dX1_counted_47 (by decide) ?_
    refine lv_iadd hx hb dX1_counted_48 ?_
    obtain ⟨r7, h6, h⟩ := fb_b1s h
    refine fb_callR (W.runV (As := [.int (a1 + 1)]) (rest := []) ⟨hx, hb, hml, hown, hts⟩ (metX1_all l D cI h0 qn qf qw B0 th ch nt fg wt mi (a1 + 1) r7 h6) (cwV 1 hts gX1_counted_X1_all rfl rfl rfl (by decide +kernel) ⟨Nat.le_of_ble_eq_true rfl, Nat.le_of_ble_eq_true rfl⟩) (fb_preVR (ci := 1) fb_sX1p hP hK hZ hS hAB rfl rfl _) rfl rfl hl.1 rfl (lv_room (Nat.le_of_ble_eq_true rfl)) dX1_counted_49 ⟨Nat.le_of_ble_eq_true rfl, Nat.le_of_ble_eq_true rfl⟩) ?_
    have h := Option.some.inj h
    subst h
    exact W.iret hx hb hr (fun t ht _ => ⟨rfl, ht⟩) (fun q hq => absurd hq List.not_mem_nil) dX1_counted_52
  replace h := fb_ie c1_2 h
  by_cases c1_3 : a1 = 3
  · replace h := fb_it c1_3 h
    refine lv_tableIn (off := 52) (tgt := 53) hx hb dX1_counted_1 (by rw [c1_3]; decide) (by rw [c1_3]; decide) (by rw [c1_3]; rfl) (by decide) ?_
    refine lv_aload_n hx hb dX1_counted_53 rfl (lv_at hl 0 rfl) ?_
    refine lv_iconst (v := 4) hx hb dX1_counted_54 (by decide) ?_
    obtain ⟨r10, h9, h⟩ := fb_b1s h
    refine fb_callR (W.runV (As := [.int 4]) (rest := []) ⟨hx, hb, hml, hown, hts⟩ (metX1_all l D cI h0 qn qf qw B0 th ch nt fg wt mi 4 r10 h9) (cwV 1 hts gX1_counted_X1_all rfl rfl rfl (by decide +kernel) ⟨Nat.le_of_ble_eq_true rfl, Nat.le_of_ble_eq_true rfl⟩) (fb_preVR (ci := 1) fb_sX1p hP hK hZ hS hAB rfl rfl _) rfl rfl hl.1 rfl (lv_room (Nat.le_of_ble_eq_true rfl)) dX1_counted_55 ⟨Nat.le_of_ble_eq_true rfl, Nat.le_of_ble_eq_true rfl⟩) ?_
    have h := Option.some.inj h
    subst h
    exact W.iret hx hb hr (fun t ht _ => ⟨rfl, ht⟩) (fun q hq => absurd hq List.not_mem_nil) dX1_counted_58
  replace h := fb_ie c1_3 h
  by_cases c1_4 : a1 = 4
  · replace h := fb_it c1_4 h
    refine lv_tableIn (off := 58) (tgt := 59) hx hb dX1_counted_1 (by rw [c1_4]; decide) (by rw [c1_4]; decide) (by rw [c1_4]; rfl) (by decide) ?_
    refine lv_aload_n hx hb dX1_counted_59 rfl (lv_at hl 0 rfl) ?_
    obtain ⟨r13, h12, h⟩ := fb_b1s h
    refine fb_callR (W.runV (As := []) (rest := []) ⟨hx, hb, hml, hown, hts⟩ (metX1_allFaults l D cI h0 qn qf qw B0 th ch nt fg wt mi  r13 h12) (cwV 0 hts gX1_counted_X1_allFaults rfl rfl rfl (by decide +kernel) ⟨Nat.le_of_ble_eq_true rfl, Nat.le_of_ble_eq_true rfl⟩) (fb_preVR (ci := 1) fb_sX1p hP hK hZ hS hAB rfl rfl _) rfl rfl hl.1 rfl (lv_room (Nat.le_of_ble_eq_true rfl)) dX1_counted_60 ⟨Nat.le_of_ble_eq_true rfl, Nat.le_of_ble_eq_true rfl⟩) ?_
    have h := Option.some.inj h
    subst h
    exact W.iret hx hb hr (fun t ht _ => ⟨rfl, ht⟩) (fun q hq => absurd hq List.not_mem_nil) dX1_counted_63
  replace h := fb_ie c1_4 h
  by_cases c1_5 : a1 = 5
  · replace h := fb_it c1_5 h
    refine lv_tableIn (off := 63) (tgt := 64) hx hb dX1_counted_1 (by rw [c1_5]; decide) (by rw [c1_5]; decide) (by rw [c1_5]; rfl) (by decide) ?_
    refine lv_aload_n hx hb dX1_counted_64 rfl (lv_at hl 0 rfl) ?_
    refine lv_iconst (v := 5) hx hb dX1_counted_65 (by decide) ?_
    obtain ⟨r16, h15, h⟩ := fb_b1s h
    refine fb_callR (W.runV (As := [.int 5]) (rest := []) ⟨hx, hb, hml, hown, hts⟩ (metX1_all l D cI h0 qn qf qw B0 th ch nt fg wt mi 5 r16 h15) (cwV 1 hts gX1_counted_X1_all rfl rfl rfl (by decide +kernel) ⟨Nat.le_of_ble_eq_true rfl, Nat.le_of_ble_eq_true rfl⟩) (fb_preVR (ci := 1) fb_sX1p hP hK hZ hS hAB rfl rfl _) rfl rfl hl.1 rfl (lv_room (Nat.le_of_ble_eq_true rfl)) dX1_counted_66 ⟨Nat.le_of_ble_eq_true rfl, Nat.le_of_ble_eq_true rfl⟩) ?_
    have h := Option.some.inj h
    subst h
    exact W.iret hx hb hr (fun t ht _ => ⟨rfl, ht⟩) (fun q hq => absurd hq List.not_mem_nil) dX1_counted_69
  replace h := fb_ie c1_5 h
  refine lv_tableOut (tgt := 70) hx hb dX1_counted_1 (by have e0 := lv_neT (a := 0) c1_0 (by decide); have e1 := lv_neT (a := 1) c1_1 (by decide); have e2 := lv_neT (a := 2) c1_2 (by decide); have e3 := lv_neT (a := 3) c1_3 (by decide); have e4 := lv_neT (a := 4) c1_4 (by decide); have e5 := lv_neT (a := 5) c1_5 (by decide); omega) (by decide) ?_
  refine lv_aload_n hx hb dX1_counted_70 rfl (lv_at hl 0 rfl) ?_
  refine va_get (D := D) (ci := 1) (v := .int mi) (C := RX1) (T := TX1) (N := 6) hx hb hts hin0 hown hK hP 0 rfl rfl 5 (by decide) (hts _ w_f36) (fun _ h9 => h9) rfl dX1_counted_71 ?_
  refine lv_if_eq (tgt := 81) hx hb dX1_counted_74 (by decide) (fun c18 => ?_) (fun c18 => ?_)
  · replace h := fb_it c18 h
    refine lv_iconst (v := 0) hx hb dX1_counted_81 (by decide) ?_
    have h := Option.some.inj h
    subst h
    exact W.iret hx hb hr (fun t ht _ => ⟨rfl, ht⟩) (fun q hq => absurd hq List.not_mem_nil) dX1_counted_82
  · replace h := fb_ie c18 h
    refine lv_iconst (v := 1) hx hb dX1_counted_77 (by decide) ?_
    refine lv_goto (tgt := 82) hx hb dX1_counted_78 (by decide) ?_
    have h := Option.some.inj h
    subst h
    exact W.iret hx hb hr (fun t ht _ => ⟨rfl, ht⟩) (fun q hq => absurd hq List.not_mem_nil) dX1_counted_82
