/-! The law's loop walked, printed by wip/whole/lgen.py. -/
set_option maxHeartbeats 40000000 in
set_option maxRecDepth 100000 in
theorem law_loop {p : Program} {l : Launch} {e : Env} {s0 : State} {m : MethodId} {below : List Frame} {meth : Method} {c : Code} {D : va_G} {cI cJ : ClassId} {b L B0 : Nat} {xs : Nat → Int32} {A : Nat → Prop} (h0 qf qn qw ql m0 pn pf pw qo : Nat) (hfl : l.stackTraces = false) (C0 : lw_At p s0 m meth c b L xs) (hB0 : B0 = s0.heap.size) (hAd : A = fun q : Nat => s0.heap.size ≤ q) (hK0 : va_K D vwCl [(cI, .int), (cJ, .long)] s0) (hZT0 : fb_sXT (fun q => B0 ≤ q) s0 s0.heap) (hZY0 : fb_sX1 (fun q => B0 ≤ q) s0 s0.heap) :
    ∀ (n : Nat) (v4 : Int32) (sz : Int32) (mi : Int32) (fg : Nat → Int32) (nt : Nat → Int32) (wt : Nat → Int32) (wl : Nat → Int32) (yth : Int32) (ych : Int32) (ynt : Nat → Int32) (yfg : Nat → Int32) (ywt : Nat → Int32) (ymi : Int32) (ob : Nat → Int64), lpL_law xs L n v4 sz mi fg nt wt wl yth ych ynt yfg ywt ymi ob = some 1 → ∀ (ce sl : Nat), ce + n * 64 ≤ 793323 → sl + n * 1024 ≤ 6716136 → ∀ (d0 : Drawn), s0.drawn.sameBut d0 lw_cs → ∀ (H : Heap) (locs : List Loc), va_P D vwCl (fb_wX0 cI h0 qf qn qw ql sz mi fg nt wt wl ++ fb_wX1 cI m0 pn pf pw yth ych ynt yfg ywt ymi ++ [(qo, .inl (cJ, 1, .inr (.inl ob)))]) H → va_D A (fb_wX0 cI h0 qf qn qw ql sz mi fg nt wt wl ++ fb_wX1 cI m0 pn pf pw yth ych ynt yfg ywt ymi ++ [(qo, .inl (cJ, 1, .inr (.inl ob)))]) → va_S A s0.heap H locs → ∀ (ls : Array Slot), lv_has ls 9 [(0, .ref b), (1, .ref h0), (2, .ref m0), (3, .ref qo), (4, .int v4)] → W p l e room_1 (s0.setDrawn d0) m #[Value.ref b] below meth c H locs ce sl (lw_Z below #[Value.ref b] s0) (F0 m 23 ls []) := by
  obtain ⟨hx, hb, hr, hml, hown0, hts9, hX0, hbl0, hlocks, -⟩ := C0
  have hts0 : ∀ w ∈ wsL_law, w.before #[Value.ref b] s0 = true := fun w h => hts9 w (wsL_law_in w h)
  have hAB : ∀ q : Nat, A q → B0 ≤ q := by rw [hAd, hB0]; exact fun _ h9 => h9
  have hbA : ¬ A b := by rw [hAd]; exact Nat.not_le.mpr hbl0
  intro n
  induction n with
  | zero =>
    intro v4 sz mi fg nt wt wl yth ych ynt yfg ywt ymi ob h
    rw [lpL_law.eq_1] at h
    cases h
  | succ n ih =>
    intro v4 sz mi fg nt wt wl yth ych ynt yfg ywt ymi ob h ce sl hce hsl d0 hd0 H locs hP hD hS ls hl
    rw [lpL_law.eq_2] at h
    generalize hsd0 : s0.setDrawn d0 = s
    have hheap : s.heap = s0.heap := by rw [← hsd0]; exact rfl
    have hts : ∀ w ∈ wsL_law, w.before #[Value.ref b] s = true := by rw [← hsd0]; exact dr_words hts0 _
    have hK : va_K D vwCl [(cI, .int), (cJ, .long)] s := by rw [← hsd0]; exact hK0
    have hK1 : va_K D vwCl [(cI, .int)] s := hK.sub [0] rfl
    have hZT : fb_sXT (fun q => B0 ≤ q) s s.heap := by rw [← hsd0]; exact fb_sXTp.1 _ _ _ _ (State.WarmedH.refl _) hZT0
    have hZ := hZT.1
    have hZY : fb_sX1 (fun q => B0 ≤ q) s s.heap := by rw [← hsd0]; exact fb_sX1p.1 _ _ _ _ (State.WarmedH.refl _) hZY0
    have hown : s.vm.findClass RL = some m.cls := by rw [← hsd0]; exact hown0
    have hX : va_X b L xs s s.heap := by rw [← hsd0]; exact hX0
    have hbl : b < s.heap.size := by rw [hheap]; exact hbl0
    have hA : ∀ q : Nat, s.heap.size ≤ q → A q := by rw [hAd, hheap]; exact fun _ h9 => h9
    have hS : va_S A s.heap H locs := by rw [← hsd0]; exact hS
    refine lv_iload hx hb dL_law_23 (lv_at hl 4 rfl) ?_
    refine lv_aload_n hx hb dL_law_25 rfl (lv_at hl 0 rfl) ?_
    refine va_slen hx hb hX hbl hbA hS dL_law_26 ?_
    refine lv_iconst (v := 4) hx hb dL_law_27 (by decide) ?_
    refine lv_isub hx hb dL_law_28 ?_
    refine lv_icmp_gt (tgt := 1354) hx hb dL_law_29 (by decide) (fun c1 => ?_) (fun c1 => ?_)
    · replace h := fb_it c1 h
      refine lv_iconst (v := 1) hx hb dL_law_1354 (by decide) ?_
      refine va_forget (fun q hq => by have h9 := hAB _ (hS.2.2 q hq); rw [hB0] at h9; rw [hheap]; exact h9) ?_
      refine W.widen (k := 793323) (n := 6716136) (by omega) (by omega) ?_
      subst hsd0
      exact lw_ret hd0 hx hb hr hlocks dL_law_1355
    · replace h := fb_ie c1 h
      refine lv_aload_n hx hb dL_law_32 rfl (lv_at hl 0 rfl) ?_
      refine lv_iload hx hb dL_law_33 (lv_at hl 4 rfl) ?_
      obtain ⟨hi3, h⟩ := fb_cks h
      refine va_sld hx hb hX hbl hbA hS (fb_ixin hi3) dL_law_35 ?_
      refine lv_bipush (v := 31) hx hb dL_law_36 (by decide) ?_
      refine lv_iand hx hb dL_law_38 ?_
      by_cases c4_0 : ((xs v4.toNatClampNeg) &&& 31) = 0
      · replace h := fb_it c4_0 h
        refine lv_tableIn (off := 97) (tgt := 136) hx hb dL_law_39 (by rw [c4_0]; decide) (by rw [c4_0]; decide) (by rw [c4_0]; rfl) (by decide) ?_
        refine lv_aload_n hx hb dL_law_136 rfl (lv_at hl 1 rfl) ?_
        refine lv_aload_n hx hb dL_law_137 rfl (lv_at hl 0 rfl) ?_
        refine lv_iload hx hb dL_law_138 (lv_at hl 4 rfl) ?_
        refine lv_iconst (v := 1) hx hb dL_law_140 (by decide) ?_
        refine lv_iadd hx hb dL_law_141 ?_
        obtain ⟨hi5, h⟩ := fb_cks h
        refine va_sld hx hb hX hbl hbA hS (fb_ixin hi5) dL_law_142 ?_
        refine lv_aload_n hx hb dL_law_143 rfl (lv_at hl 0 rfl) ?_
        refine lv_iload hx hb dL_law_144 (lv_at hl 4 rfl) ?_
        refine lv_iconst (v := 2) hx hb dL_law_146 (by decide) ?_
        refine lv_iadd hx hb dL_law_147 ?_
        obtain ⟨hi6, h⟩ := fb_cks h
        refine va_sld hx hb hX hbl hbA hS (fb_ixin hi6) dL_law_148 ?_
        refine lv_aload_n hx hb dL_law_149 rfl (lv_at hl 3 rfl) ?_
        obtain ⟨r8, sz_9, fg_10, nt_11, ob_12, h7, h⟩ := fb_b5s h
        have hPc : va_P D vwCl (fb_wL cI cJ h0 qf qn qw ql qo sz mi fg nt wt wl ob) H := hP.sub [0, 1, 2, 3, 4, 9] rfl
        have hDc : va_D A (fb_wL cI cJ h0 qf qn qw ql qo sz mi fg nt wt wl ob) := hD.sub [0, 1, 2, 3, 4, 9] (by decide) rfl
        have hFc := va_free (wc := fb_wL cI cJ h0 qf qn qw ql qo sz mi fg nt wt wl ob) hD hS hA [0, 1, 2, 3, 4, 9] rfl
        refine fb_callM (vx_runSW (As := [.ref h0, .int (xs (v4 + 1).toNatClampNeg), .int (xs (v4 + 2).toNatClampNeg), .ref qo]) (rest := []) ⟨hx, hb, hml, hown, hts⟩ (metL_chord l hfl D cI cJ h0 qf qn qw ql qo B0 sz mi fg nt wt wl ob (xs (v4 + 1).toNatClampNeg) (xs (v4 + 2).toNatClampNeg) H.size r8 sz_9 fg_10 nt_11 ob_12 h7) (vx_cwSW 4 hts gL_law_L_chord rfl rfl rfl (by decide +kernel) ⟨Nat.le_of_ble_eq_true rfl, Nat.le_of_ble_eq_true rfl⟩) (fb_preSM fb_sXTp hPc hK hDc hZT hS hAB hA _) rfl rfl hl.1 rfl (lv_room (Nat.le_of_ble_eq_true rfl)) dL_law_150 ⟨(show ce + 0 + 1 ≤ 793323 by omega), (show sl + 0 + 6 ≤ 6716136 by omega)⟩) hS (fun q _ h9 => hFc q h9) hFc (fun _ H1 locs hP1 hD1 hz1 hk1 hS => ?_)
        obtain ⟨hP, hD⟩ := va_join (wr := fb_wX1 cI m0 pn pf pw yth ych ynt yfg ywt ymi) (w1 := fb_wL cI cJ h0 qf qn qw ql qo sz_9 mi fg_10 nt_11 wt wl ob_12) hP hD [0, 1, 2, 3, 4, 9] [5, 6, 7, 8] rfl rfl (by decide) (by decide) hk1 hFc hP1 hD1
        have hP : va_P D vwCl (fb_wX0 cI h0 qf qn qw ql sz_9 mi fg_10 nt_11 wt wl ++ fb_wX1 cI m0 pn pf pw yth ych ynt yfg ywt ymi ++ [(qo, .inl (cJ, 1, .inr (.inl ob_12)))]) H1 := hP.sub [4, 5, 6, 7, 8, 0, 1, 2, 3, 9] rfl
        have hD : va_D A (fb_wX0 cI h0 qf qn qw ql sz_9 mi fg_10 nt_11 wt wl ++ fb_wX1 cI m0 pn pf pw yth ych ynt yfg ywt ymi ++ [(qo, .inl (cJ, 1, .inr (.inl ob_12)))]) := hD.sub [4, 5, 6, 7, 8, 0, 1, 2, 3, 9] (by decide) rfl
        generalize H1 = H at hP hS
        refine lv_istore (lv' := [(5, .int r8), (0, .ref b), (1, .ref h0), (2, .ref m0), (3, .ref qo), (4, .int v4)]) hx hb dL_law_153 hl (by decide) rfl (fun ls hl => ?_)
        refine lv_aload_n hx hb dL_law_155 rfl (lv_at hl 3 rfl) ?_
        refine lv_aload_n hx hb dL_law_156 rfl (lv_at hl 1 rfl) ?_
        refine lv_iload hx hb dL_law_157 (lv_at hl 5 rfl) ?_
        refine lv_iconst (v := 1) hx hb dL_law_159 (by decide) ?_
        refine lv_iadd hx hb dL_law_160 ?_
        refine va_sld hx hb hX hbl hbA hS (fb_ixin hi5) dL_law_161 ?_
        refine lv_aload_n hx hb dL_law_162 rfl (lv_at hl 1 rfl) ?_
        refine lv_iload hx hb dL_law_163 (lv_at hl 5 rfl) ?_
        refine lv_iconst (v := 2) hx hb dL_law_165 (by decide) ?_
        refine lv_iadd hx hb dL_law_166 ?_
        refine va_sld hx hb hX hbl hbA hS (fb_ixin hi6) dL_law_167 ?_
        obtain ⟨r14, yth_15, ych_16, ynt_17, yfg_18, h13, h⟩ := fb_b5s h
        have hPc : va_P D vwCl (fb_wX1 cI m0 pn pf pw yth ych ynt yfg ywt ymi) H := hP.sub [5, 6, 7, 8] rfl
        have hDc : va_D A (fb_wX1 cI m0 pn pf pw yth ych ynt yfg ywt ymi) := hD.sub [5, 6, 7, 8] (by decide) rfl
        have hFc := va_free (wc := fb_wX1 cI m0 pn pf pw yth ych ynt yfg ywt ymi) hD hS hA [5, 6, 7, 8] rfl
        refine fb_callM (va_runV (As := [.int (xs (v4 + 1).toNatClampNeg), .int (xs (v4 + 2).toNatClampNeg)]) (rest := []) ⟨hx, hb, hml, hown, hts⟩ (metX1_chord l D cI m0 pn pf pw B0 yth ych ynt yfg ywt ymi (xs (v4 + 1).toNatClampNeg) (xs (v4 + 2).toNatClampNeg) H.size r14 yth_15 ych_16 ynt_17 yfg_18 h13) (cwV 2 hts gL_law_X1_chord rfl rfl rfl (by decide +kernel) ⟨Nat.le_of_ble_eq_true rfl, Nat.le_of_ble_eq_true rfl⟩) (fb_preVM (ci := 1) fb_sX1p hPc hK1 hDc hZY hS hAB hA rfl rfl _) rfl rfl hl.1 rfl (lv_room (Nat.le_of_ble_eq_true rfl)) dL_law_168 ⟨(show ce + 1 + 0 ≤ 793323 by omega), (show sl + 6 + 0 ≤ 6716136 by omega)⟩) hS (fun q _ h9 => hFc q h9) hFc (fun _ H1 locs hP1 hD1 hz1 hk1 hS => ?_)
        obtain ⟨hP, hD⟩ := va_join (wr := fb_wX0 cI h0 qf qn qw ql sz_9 mi fg_10 nt_11 wt wl ++ [(qo, .inl (cJ, 1, .inr (.inl ob_12)))]) (w1 := fb_wX1 cI m0 pn pf pw yth_15 ych_16 ynt_17 yfg_18 ywt ymi) hP hD [5, 6, 7, 8] [0, 1, 2, 3, 4, 9] rfl rfl (by decide) (by decide) hk1 hFc hP1 hD1
        have hP : va_P D vwCl (fb_wX0 cI h0 qf qn qw ql sz_9 mi fg_10 nt_11 wt wl ++ fb_wX1 cI m0 pn pf pw yth_15 ych_16 ynt_17 yfg_18 ywt ymi ++ [(qo, .inl (cJ, 1, .inr (.inl ob_12)))]) H1 := hP.sub [0, 1, 2, 3, 4, 6, 7, 8, 9, 5] rfl
        have hD : va_D A (fb_wX0 cI h0 qf qn qw ql sz_9 mi fg_10 nt_11 wt wl ++ fb_wX1 cI m0 pn pf pw yth_15 ych_16 ynt_17 yfg_18 ywt ymi ++ [(qo, .inl (cJ, 1, .inr (.inl ob_12)))]) := hD.sub [0, 1, 2, 3, 4, 6, 7, 8, 9, 5] (by decide) rfl
        generalize H1 = H at hP hS
        refine lv_istore (lv' := [(6, .int r14), (5, .int r8), (0, .ref b), (1, .ref h0), (2, .ref m0), (3, .ref qo), (4, .int v4)]) hx hb dL_law_171 hl (by decide) rfl (fun ls hl => ?_)
        refine lv_aload_n hx hb dL_law_173 rfl (lv_at hl 4 rfl) ?_
        obtain ⟨r20, h19, h⟩ := fb_b1s h
        have hPc : va_P D vwCl (fb_wX1 cI m0 pn pf pw yth_15 ych_16 ynt_17 yfg_18 ywt ymi) H := hP.sub [5, 6, 7, 8] rfl
        refine fb_callR (W.runV (As := []) (rest := []) ⟨hx, hb, hml, hown, hts⟩ (metX1_thrown l D cI m0 pn pf pw B0 yth_15 ych_16 ynt_17 yfg_18 ywt ymi  r20 h19) (cwV 0 hts gL_law_X1_thrown rfl rfl rfl (by decide +kernel) ⟨Nat.le_of_ble_eq_true rfl, Nat.le_of_ble_eq_true rfl⟩) (fb_preVR (ci := 1) fb_sX1p hPc hK1 hZY hS hAB rfl rfl _) rfl rfl hl.1 rfl (lv_room (Nat.le_of_ble_eq_true rfl)) dL_law_174 ⟨(show ce + 1 + 0 ≤ 793323 by omega), (show sl + 6 + 0 ≤ 6716136 by omega)⟩) ?_
        refine lv_iload hx hb dL_law_177 (lv_at hl 1 rfl) ?_
        refine lv_icmp_eq (tgt := 184) hx hb dL_law_179 (by decide) (fun c21 => ?_) (fun c21 => ?_)
        · replace h := fb_it c21 h
          refine lv_iload hx hb dL_law_184 (lv_at hl 1 rfl) ?_
          refine lv_if_ne (tgt := 201) hx hb dL_law_186 (by decide) (fun c22 => ?_) (fun c22 => ?_)
          · replace h := fb_ie c22 h
            refine lv_goto (tgt := 1348) hx hb dL_law_201 (by decide) ?_
            refine lv_iinc (v := v4 + 4) (lv' := [(4, .int (v4 + 4)), (6, .int r14), (5, .int r8), (0, .ref b), (1, .ref h0), (2, .ref m0), (3, .ref qo)]) hx hb dL_law_1348 hl (k := 6) rfl rfl (by decide) rfl (fun ls hl => ?_)
            refine lv_goto (tgt := 23) hx hb dL_law_1351 (by decide) ?_
            refine W.widen (k := ce + 64) (n := sl + 1024) (by omega) (by omega) ?_
            subst hsd0
            exact ih _ _ _ _ _ _ _ _ _ _ _ _ _ _ h _ _ (by omega) (by omega) d0 hd0 H locs hP hD hS ls (lv_sub hl [3, 4, 5, 6, 0] rfl)
          · replace h := fb_it c22 h
            refine lv_aload_n hx hb dL_law_189 rfl (lv_at hl 5 rfl) ?_
            refine lv_iconst (v := 0) hx hb dL_law_190 (by decide) ?_
            refine va_lald hx hb hK hP 9 1 rfl rfl (fb_ixin (by decide)) dL_law_191 ?_
            refine lv_iload hx hb dL_law_192 (lv_at hl 0 rfl) ?_
            refine lv_i2l hx hb dL_law_194 rfl ?_
            refine W.lcmp hx hb dL_law_195 ?_
            refine lv_if_eq (tgt := 201) hx hb dL_law_196 (by decide) (fun c23 => ?_) (fun c23 => ?_)
            · replace h := fb_it c23 h
              refine lv_goto (tgt := 1348) hx hb dL_law_201 (by decide) ?_
              refine lv_iinc (v := v4 + 4) (lv' := [(4, .int (v4 + 4)), (6, .int r14), (5, .int r8), (0, .ref b), (1, .ref h0), (2, .ref m0), (3, .ref qo)]) hx hb dL_law_1348 hl (k := 6) rfl rfl (by decide) rfl (fun ls hl => ?_)
              refine lv_goto (tgt := 23) hx hb dL_law_1351 (by decide) ?_
              refine W.widen (k := ce + 64) (n := sl + 1024) (by omega) (by omega) ?_
              subst hsd0
              exact ih _ _ _ _ _ _ _ _ _ _ _ _ _ _ h _ _ (by omega) (by omega) d0 hd0 H locs hP hD hS ls (lv_sub hl [3, 4, 5, 6, 0] rfl)
            · replace h := fb_ie c23 h
              refine lv_iconst (v := 0) hx hb dL_law_199 (by decide) ?_
              exact absurd (Option.some.inj h) (by decide)
        · replace h := fb_ie c21 h
          refine lv_iconst (v := 0) hx hb dL_law_182 (by decide) ?_
          exact absurd (Option.some.inj h) (by decide)
      replace h := fb_ie c4_0 h
      by_cases c4_1 : ((xs v4.toNatClampNeg) &&& 31) = 1
      · replace h := fb_it c4_1 h
        refine lv_tableIn (off := 165) (tgt := 204) hx hb dL_law_39 (by rw [c4_1]; decide) (by rw [c4_1]; decide) (by rw [c4_1]; rfl) (by decide) ?_
        refine lv_aload_n hx hb dL_law_204 rfl (lv_at hl 1 rfl) ?_
        refine lv_aload_n hx hb dL_law_205 rfl (lv_at hl 0 rfl) ?_
        refine lv_iload hx hb dL_law_206 (lv_at hl 4 rfl) ?_
        refine lv_iconst (v := 1) hx hb dL_law_208 (by decide) ?_
        refine lv_iadd hx hb dL_law_209 ?_
        obtain ⟨hi26, h⟩ := fb_cks h
        refine va_sld hx hb hX hbl hbA hS (fb_ixin hi26) dL_law_210 ?_
        refine lv_aload_n hx hb dL_law_211 rfl (lv_at hl 0 rfl) ?_
        refine lv_iload hx hb dL_law_212 (lv_at hl 4 rfl) ?_
        refine lv_iconst (v := 2) hx hb dL_law_214 (by decide) ?_
        refine lv_iadd hx hb dL_law_215 ?_
        obtain ⟨hi27, h⟩ := fb_cks h
        refine va_sld hx hb hX hbl hbA hS (fb_ixin hi27) dL_law_216 ?_
        refine lv_aload_n hx hb dL_law_217 rfl (lv_at hl 3 rfl) ?_
        obtain ⟨r29, nt_30, ob_31, h28, h⟩ := fb_b3s h
        have hPc : va_P D vwCl (fb_wL cI cJ h0 qf qn qw ql qo sz mi fg nt wt wl ob) H := hP.sub [0, 1, 2, 3, 4, 9] rfl
        have hDc : va_D A (fb_wL cI cJ h0 qf qn qw ql qo sz mi fg nt wt wl ob) := hD.sub [0, 1, 2, 3, 4, 9] (by decide) rfl
        have hFc := va_free (wc := fb_wL cI cJ h0 qf qn qw ql qo sz mi fg nt wt wl ob) hD hS hA [0, 1, 2, 3, 4, 9] rfl
        refine fb_callM (vx_runSW (As := [.ref h0, .int (xs (v4 + 1).toNatClampNeg), .int (xs (v4 + 2).toNatClampNeg), .ref qo]) (rest := []) ⟨hx, hb, hml, hown, hts⟩ (metL_setBass l hfl D cI cJ h0 qf qn qw ql qo B0 sz mi fg nt wt wl ob (xs (v4 + 1).toNatClampNeg) (xs (v4 + 2).toNatClampNeg) H.size r29 nt_30 ob_31 h28) (vx_cwSW 4 hts gL_law_L_setBass rfl rfl rfl (by decide +kernel) ⟨Nat.le_of_ble_eq_true rfl, Nat.le_of_ble_eq_true rfl⟩) (fb_preSM fb_sXTp hPc hK hDc hZT hS hAB hA _) rfl rfl hl.1 rfl (lv_room (Nat.le_of_ble_eq_true rfl)) dL_law_218 ⟨(show ce + 0 + 1 ≤ 793323 by omega), (show sl + 0 + 6 ≤ 6716136 by omega)⟩) hS (fun q _ h9 => hFc q h9) hFc (fun _ H1 locs hP1 hD1 hz1 hk1 hS => ?_)
        obtain ⟨hP, hD⟩ := va_join (wr := fb_wX1 cI m0 pn pf pw yth ych ynt yfg ywt ymi) (w1 := fb_wL cI cJ h0 qf qn qw ql qo sz mi fg nt_30 wt wl ob_31) hP hD [0, 1, 2, 3, 4, 9] [5, 6, 7, 8] rfl rfl (by decide) (by decide) hk1 hFc hP1 hD1
        have hP : va_P D vwCl (fb_wX0 cI h0 qf qn qw ql sz mi fg nt_30 wt wl ++ fb_wX1 cI m0 pn pf pw yth ych ynt yfg ywt ymi ++ [(qo, .inl (cJ, 1, .inr (.inl ob_31)))]) H1 := hP.sub [4, 5, 6, 7, 8, 0, 1, 2, 3, 9] rfl
        have hD : va_D A (fb_wX0 cI h0 qf qn qw ql sz mi fg nt_30 wt wl ++ fb_wX1 cI m0 pn pf pw yth ych ynt yfg ywt ymi ++ [(qo, .inl (cJ, 1, .inr (.inl ob_31)))]) := hD.sub [4, 5, 6, 7, 8, 0, 1, 2, 3, 9] (by decide) rfl
        generalize H1 = H at hP hS
        refine lv_istore (lv' := [(5, .int r29), (0, .ref b), (1, .ref h0), (2, .ref m0), (3, .ref qo), (4, .int v4)]) hx hb dL_law_221 hl (by decide) rfl (fun ls hl => ?_)
        refine lv_aload_n hx hb dL_law_223 rfl (lv_at hl 3 rfl) ?_
        refine lv_aload_n hx hb dL_law_224 rfl (lv_at hl 1 rfl) ?_
        refine lv_iload hx hb dL_law_225 (lv_at hl 5 rfl) ?_
        refine lv_iconst (v := 1) hx hb dL_law_227 (by decide) ?_
        refine lv_iadd hx hb dL_law_228 ?_
        refine va_sld hx hb hX hbl hbA hS (fb_ixin hi26) dL_law_229 ?_
        refine lv_aload_n hx hb dL_law_230 rfl (lv_at hl 1 rfl) ?_
        refine lv_iload hx hb dL_law_231 (lv_at hl 5 rfl) ?_
        refine lv_iconst (v := 2) hx hb dL_law_233 (by decide) ?_
        refine lv_iadd hx hb dL_law_234 ?_
        refine va_sld hx hb hX hbl hbA hS (fb_ixin hi27) dL_law_235 ?_
        obtain ⟨r33, yth_34, ynt_35, h32, h⟩ := fb_b3s h
        have hPc : va_P D vwCl (fb_wX1 cI m0 pn pf pw yth ych ynt yfg ywt ymi) H := hP.sub [5, 6, 7, 8] rfl
        have hDc : va_D A (fb_wX1 cI m0 pn pf pw yth ych ynt yfg ywt ymi) := hD.sub [5, 6, 7, 8] (by decide) rfl
        have hFc := va_free (wc := fb_wX1 cI m0 pn pf pw yth ych ynt yfg ywt ymi) hD hS hA [5, 6, 7, 8] rfl
        refine fb_callM (va_runV (As := [.int (xs (v4 + 1).toNatClampNeg), .int (xs (v4 + 2).toNatClampNeg)]) (rest := []) ⟨hx, hb, hml, hown, hts⟩ (metX1_setBass l D cI m0 pn pf pw B0 yth ych ynt yfg ywt ymi (xs (v4 + 1).toNatClampNeg) (xs (v4 + 2).toNatClampNeg) H.size r33 yth_34 ynt_35 h32) (cwV 2 hts gL_law_X1_setBass rfl rfl rfl (by decide +kernel) ⟨Nat.le_of_ble_eq_true rfl, Nat.le_of_ble_eq_true rfl⟩) (fb_preVM (ci := 1) fb_sX1p hPc hK1 hDc hZY hS hAB hA rfl rfl _) rfl rfl hl.1 rfl (lv_room (Nat.le_of_ble_eq_true rfl)) dL_law_236 ⟨(show ce + 1 + 0 ≤ 793323 by omega), (show sl + 6 + 0 ≤ 6716136 by omega)⟩) hS (fun q _ h9 => hFc q h9) hFc (fun _ H1 locs hP1 hD1 hz1 hk1 hS => ?_)
        obtain ⟨hP, hD⟩ := va_join (wr := fb_wX0 cI h0 qf qn qw ql sz mi fg nt_30 wt wl ++ [(qo, .inl (cJ, 1, .inr (.inl ob_31)))]) (w1 := fb_wX1 cI m0 pn pf pw yth_34 ych ynt_35 yfg ywt ymi) hP hD [5, 6, 7, 8] [0, 1, 2, 3, 4, 9] rfl rfl (by decide) (by decide) hk1 hFc hP1 hD1
        have hP : va_P D vwCl (fb_wX0 cI h0 qf qn qw ql sz mi fg nt_30 wt wl ++ fb_wX1 cI m0 pn pf pw yth_34 ych ynt_35 yfg ywt ymi ++ [(qo, .inl (cJ, 1, .inr (.inl ob_31)))]) H1 := hP.sub [0, 1, 2, 3, 4, 6, 7, 8, 9, 5] rfl
        have hD : va_D A (fb_wX0 cI h0 qf qn qw ql sz mi fg nt_30 wt wl ++ fb_wX1 cI m0 pn pf pw yth_34 ych ynt_35 yfg ywt ymi ++ [(qo, .inl (cJ, 1, .inr (.inl ob_31)))]) := hD.sub [0, 1, 2, 3, 4, 6, 7, 8, 9, 5] (by decide) rfl
        generalize H1 = H at hP hS
        refine lv_istore (lv' := [(6, .int r33), (5, .int r29), (0, .ref b), (1, .ref h0), (2, .ref m0), (3, .ref qo), (4, .int v4)]) hx hb dL_law_239 hl (by decide) rfl (fun ls hl => ?_)
        refine lv_aload_n hx hb dL_law_241 rfl (lv_at hl 4 rfl) ?_
        obtain ⟨r37, h36, h⟩ := fb_b1s h
        have hPc : va_P D vwCl (fb_wX1 cI m0 pn pf pw yth_34 ych ynt_35 yfg ywt ymi) H := hP.sub [5, 6, 7, 8] rfl
        refine fb_callR (W.runV (As := []) (rest := []) ⟨hx, hb, hml, hown, hts⟩ (metX1_thrown l D cI m0 pn pf pw B0 yth_34 ych ynt_35 yfg ywt ymi  r37 h36) (cwV 0 hts gL_law_X1_thrown rfl rfl rfl (by decide +kernel) ⟨Nat.le_of_ble_eq_true rfl, Nat.le_of_ble_eq_true rfl⟩) (fb_preVR (ci := 1) fb_sX1p hPc hK1 hZY hS hAB rfl rfl _) rfl rfl hl.1 rfl (lv_room (Nat.le_of_ble_eq_true rfl)) dL_law_242 ⟨(show ce + 1 + 0 ≤ 793323 by omega), (show sl + 6 + 0 ≤ 6716136 by omega)⟩) ?_
        refine lv_iload hx hb dL_law_245 (lv_at hl 1 rfl) ?_
        refine lv_icmp_eq (tgt := 252) hx hb dL_law_247 (by decide) (fun c38 => ?_) (fun c38 => ?_)
        · replace h := fb_it c38 h
          refine lv_iload hx hb dL_law_252 (lv_at hl 1 rfl) ?_
          refine lv_if_ne (tgt := 269) hx hb dL_law_254 (by decide) (fun c39 => ?_) (fun c39 => ?_)
          · replace h := fb_ie c39 h
            refine lv_goto (tgt := 1348) hx hb dL_law_269 (by decide) ?_
            refine lv_iinc (v := v4 + 4) (lv' := [(4, .int (v4 + 4)), (6, .int r33), (5, .int r29), (0, .ref b), (1, .ref h0), (2, .ref m0), (3, .ref qo)]) hx hb dL_law_1348 hl (k := 6) rfl rfl (by decide) rfl (fun ls hl => ?_)
            refine lv_goto (tgt := 23) hx hb dL_law_1351 (by decide) ?_
            refine W.widen (k := ce + 64) (n := sl + 1024) (by omega) (by omega) ?_
            subst hsd0
            exact ih _ _ _ _ _ _ _ _ _ _ _ _ _ _ h _ _ (by omega) (by omega) d0 hd0 H locs hP hD hS ls (lv_sub hl [3, 4, 5, 6, 0] rfl)
          · replace h := fb_it c39 h
            refine lv_aload_n hx hb dL_law_257 rfl (lv_at hl 5 rfl) ?_
            refine lv_iconst (v := 0) hx hb dL_law_258 (by decide) ?_
            refine va_lald hx hb hK hP 9 1 rfl rfl (fb_ixin (by decide)) dL_law_259 ?_
            refine lv_iload hx hb dL_law_260 (lv_at hl 0 rfl) ?_
            refine lv_i2l hx hb dL_law_262 rfl ?_
            refine W.lcmp hx hb dL_law_263 ?_
            refine lv_if_eq (tgt := 269) hx hb dL_law_264 (by decide) (fun c40 => ?_) (fun c40 => ?_)
            · replace h := fb_it c40 h
              refine lv_goto (tgt := 1348) hx hb dL_law_269 (by decide) ?_
              refine lv_iinc (v := v4 + 4) (lv' := [(4, .int (v4 + 4)), (6, .int r33), (5, .int r29), (0, .ref b), (1, .ref h0), (2, .ref m0), (3, .ref qo)]) hx hb dL_law_1348 hl (k := 6) rfl rfl (by decide) rfl (fun ls hl => ?_)
              refine lv_goto (tgt := 23) hx hb dL_law_1351 (by decide) ?_
              refine W.widen (k := ce + 64) (n := sl + 1024) (by omega) (by omega) ?_
              subst hsd0
              exact ih _ _ _ _ _ _ _ _ _ _ _ _ _ _ h _ _ (by omega) (by omega) d0 hd0 H locs hP hD hS ls (lv_sub hl [3, 4, 5, 6, 0] rfl)
            · replace h := fb_ie c40 h
              refine lv_iconst (v := 0) hx hb dL_law_267 (by decide) ?_
              exact absurd (Option.some.inj h) (by decide)
        · replace h := fb_ie c38 h
          refine lv_iconst (v := 0) hx hb dL_law_250 (by decide) ?_
          exact absurd (Option.some.inj h) (by decide)
      replace h := fb_ie c4_1 h
      by_cases c4_2 : ((xs v4.toNatClampNeg) &&& 31) = 2
      · replace h := fb_it c4_2 h
        refine lv_tableIn (off := 233) (tgt := 272) hx hb dL_law_39 (by rw [c4_2]; decide) (by rw [c4_2]; decide) (by rw [c4_2]; rfl) (by decide) ?_
        refine lv_aload_n hx hb dL_law_272 rfl (lv_at hl 1 rfl) ?_
        refine lv_aload_n hx hb dL_law_273 rfl (lv_at hl 0 rfl) ?_
        refine lv_iload hx hb dL_law_274 (lv_at hl 4 rfl) ?_
        refine lv_iconst (v := 1) hx hb dL_law_276 (by decide) ?_
        refine lv_iadd hx hb dL_law_277 ?_
        obtain ⟨hi43, h⟩ := fb_cks h
        refine va_sld hx hb hX hbl hbA hS (fb_ixin hi43) dL_law_278 ?_
        refine lv_aload_n hx hb dL_law_279 rfl (lv_at hl 0 rfl) ?_
        refine lv_iload hx hb dL_law_280 (lv_at hl 4 rfl) ?_
        refine lv_iconst (v := 2) hx hb dL_law_282 (by decide) ?_
        refine lv_iadd hx hb dL_law_283 ?_
        obtain ⟨hi44, h⟩ := fb_cks h
        refine va_sld hx hb hX hbl hbA hS (fb_ixin hi44) dL_law_284 ?_
        refine lv_aload_n hx hb dL_law_285 rfl (lv_at hl 3 rfl) ?_
        obtain ⟨r46, fg_47, ob_48, h45, h⟩ := fb_b3s h
        have hPc : va_P D vwCl (fb_wL cI cJ h0 qf qn qw ql qo sz mi fg nt wt wl ob) H := hP.sub [0, 1, 2, 3, 4, 9] rfl
        have hDc : va_D A (fb_wL cI cJ h0 qf qn qw ql qo sz mi fg nt wt wl ob) := hD.sub [0, 1, 2, 3, 4, 9] (by decide) rfl
        have hFc := va_free (wc := fb_wL cI cJ h0 qf qn qw ql qo sz mi fg nt wt wl ob) hD hS hA [0, 1, 2, 3, 4, 9] rfl
        refine fb_callM (vx_runSW (As := [.ref h0, .int (xs (v4 + 1).toNatClampNeg), .int (xs (v4 + 2).toNatClampNeg), .ref qo]) (rest := []) ⟨hx, hb, hml, hown, hts⟩ (metL_setFigure l hfl D cI cJ h0 qf qn qw ql qo B0 sz mi fg nt wt wl ob (xs (v4 + 1).toNatClampNeg) (xs (v4 + 2).toNatClampNeg) H.size r46 fg_47 ob_48 h45) (vx_cwSW 4 hts gL_law_L_setFigure rfl rfl rfl (by decide +kernel) ⟨Nat.le_of_ble_eq_true rfl, Nat.le_of_ble_eq_true rfl⟩) (fb_preSM fb_sXTp hPc hK hDc hZT hS hAB hA _) rfl rfl hl.1 rfl (lv_room (Nat.le_of_ble_eq_true rfl)) dL_law_286 ⟨(show ce + 0 + 1 ≤ 793323 by omega), (show sl + 0 + 6 ≤ 6716136 by omega)⟩) hS (fun q _ h9 => hFc q h9) hFc (fun _ H1 locs hP1 hD1 hz1 hk1 hS => ?_)
        obtain ⟨hP, hD⟩ := va_join (wr := fb_wX1 cI m0 pn pf pw yth ych ynt yfg ywt ymi) (w1 := fb_wL cI cJ h0 qf qn qw ql qo sz mi fg_47 nt wt wl ob_48) hP hD [0, 1, 2, 3, 4, 9] [5, 6, 7, 8] rfl rfl (by decide) (by decide) hk1 hFc hP1 hD1
        have hP : va_P D vwCl (fb_wX0 cI h0 qf qn qw ql sz mi fg_47 nt wt wl ++ fb_wX1 cI m0 pn pf pw yth ych ynt yfg ywt ymi ++ [(qo, .inl (cJ, 1, .inr (.inl ob_48)))]) H1 := hP.sub [4, 5, 6, 7, 8, 0, 1, 2, 3, 9] rfl
        have hD : va_D A (fb_wX0 cI h0 qf qn qw ql sz mi fg_47 nt wt wl ++ fb_wX1 cI m0 pn pf pw yth ych ynt yfg ywt ymi ++ [(qo, .inl (cJ, 1, .inr (.inl ob_48)))]) := hD.sub [4, 5, 6, 7, 8, 0, 1, 2, 3, 9] (by decide) rfl
        generalize H1 = H at hP hS
        refine lv_istore (lv' := [(5, .int r46), (0, .ref b), (1, .ref h0), (2, .ref m0), (3, .ref qo), (4, .int v4)]) hx hb dL_law_289 hl (by decide) rfl (fun ls hl => ?_)
        refine lv_aload_n hx hb dL_law_291 rfl (lv_at hl 3 rfl) ?_
        refine lv_aload_n hx hb dL_law_292 rfl (lv_at hl 1 rfl) ?_
        refine lv_iload hx hb dL_law_293 (lv_at hl 5 rfl) ?_
        refine lv_iconst (v := 1) hx hb dL_law_295 (by decide) ?_
        refine lv_iadd hx hb dL_law_296 ?_
        refine va_sld hx hb hX hbl hbA hS (fb_ixin hi43) dL_law_297 ?_
        refine lv_aload_n hx hb dL_law_298 rfl (lv_at hl 1 rfl) ?_
        refine lv_iload hx hb dL_law_299 (lv_at hl 5 rfl) ?_
        refine lv_iconst (v := 2) hx hb dL_law_301 (by decide) ?_
        refine lv_iadd hx hb dL_law_302 ?_
        refine va_sld hx hb hX hbl hbA hS (fb_ixin hi44) dL_law_303 ?_
        obtain ⟨r50, yth_51, yfg_52, h49, h⟩ := fb_b3s h
        have hPc : va_P D vwCl (fb_wX1 cI m0 pn pf pw yth ych ynt yfg ywt ymi) H := hP.sub [5, 6, 7, 8] rfl
        have hDc : va_D A (fb_wX1 cI m0 pn pf pw yth ych ynt yfg ywt ymi) := hD.sub [5, 6, 7, 8] (by decide) rfl
        have hFc := va_free (wc := fb_wX1 cI m0 pn pf pw yth ych ynt yfg ywt ymi) hD hS hA [5, 6, 7, 8] rfl
        refine fb_callM (va_runV (As := [.int (xs (v4 + 1).toNatClampNeg), .int (xs (v4 + 2).toNatClampNeg)]) (rest := []) ⟨hx, hb, hml, hown, hts⟩ (metX1_setFigure l D cI m0 pn pf pw B0 yth ych ynt yfg ywt ymi (xs (v4 + 1).toNatClampNeg) (xs (v4 + 2).toNatClampNeg) H.size r50 yth_51 yfg_52 h49) (cwV 2 hts gL_law_X1_setFigure rfl rfl rfl (by decide +kernel) ⟨Nat.le_of_ble_eq_true rfl, Nat.le_of_ble_eq_true rfl⟩) (fb_preVM (ci := 1) fb_sX1p hPc hK1 hDc hZY hS hAB hA rfl rfl _) rfl rfl hl.1 rfl (lv_room (Nat.le_of_ble_eq_true rfl)) dL_law_304 ⟨(show ce + 1 + 0 ≤ 793323 by omega), (show sl + 6 + 0 ≤ 6716136 by omega)⟩) hS (fun q _ h9 => hFc q h9) hFc (fun _ H1 locs hP1 hD1 hz1 hk1 hS => ?_)
        obtain ⟨hP, hD⟩ := va_join (wr := fb_wX0 cI h0 qf qn qw ql sz mi fg_47 nt wt wl ++ [(qo, .inl (cJ, 1, .inr (.inl ob_48)))]) (w1 := fb_wX1 cI m0 pn pf pw yth_51 ych ynt yfg_52 ywt ymi) hP hD [5, 6, 7, 8] [0, 1, 2, 3, 4, 9] rfl rfl (by decide) (by decide) hk1 hFc hP1 hD1
        have hP : va_P D vwCl (fb_wX0 cI h0 qf qn qw ql sz mi fg_47 nt wt wl ++ fb_wX1 cI m0 pn pf pw yth_51 ych ynt yfg_52 ywt ymi ++ [(qo, .inl (cJ, 1, .inr (.inl ob_48)))]) H1 := hP.sub [0, 1, 2, 3, 4, 6, 7, 8, 9, 5] rfl
        have hD : va_D A (fb_wX0 cI h0 qf qn qw ql sz mi fg_47 nt wt wl ++ fb_wX1 cI m0 pn pf pw yth_51 ych ynt yfg_52 ywt ymi ++ [(qo, .inl (cJ, 1, .inr (.inl ob_48)))]) := hD.sub [0, 1, 2, 3, 4, 6, 7, 8, 9, 5] (by decide) rfl
        generalize H1 = H at hP hS
        refine lv_istore (lv' := [(6, .int r50), (5, .int r46), (0, .ref b), (1, .ref h0), (2, .ref m0), (3, .ref qo), (4, .int v4)]) hx hb dL_law_307 hl (by decide) rfl (fun ls hl => ?_)
        refine lv_aload_n hx hb dL_law_309 rfl (lv_at hl 4 rfl) ?_
        obtain ⟨r54, h53, h⟩ := fb_b1s h
        have hPc : va_P D vwCl (fb_wX1 cI m0 pn pf pw yth_51 ych ynt yfg_52 ywt ymi) H := hP.sub [5, 6, 7, 8] rfl
        refine fb_callR (W.runV (As := []) (rest := []) ⟨hx, hb, hml, hown, hts⟩ (metX1_thrown l D cI m0 pn pf pw B0 yth_51 ych ynt yfg_52 ywt ymi  r54 h53) (cwV 0 hts gL_law_X1_thrown rfl rfl rfl (by decide +kernel) ⟨Nat.le_of_ble_eq_true rfl, Nat.le_of_ble_eq_true rfl⟩) (fb_preVR (ci := 1) fb_sX1p hPc hK1 hZY hS hAB rfl rfl _) rfl rfl hl.1 rfl (lv_room (Nat.le_of_ble_eq_true rfl)) dL_law_310 ⟨(show ce + 1 + 0 ≤ 793323 by omega), (show sl + 6 + 0 ≤ 6716136 by omega)⟩) ?_
        refine lv_iload hx hb dL_law_313 (lv_at hl 1 rfl) ?_
        refine lv_icmp_eq (tgt := 320) hx hb dL_law_315 (by decide) (fun c55 => ?_) (fun c55 => ?_)
        · replace h := fb_it c55 h
          refine lv_iload hx hb dL_law_320 (lv_at hl 1 rfl) ?_
          refine lv_if_ne (tgt := 337) hx hb dL_law_322 (by decide) (fun c56 => ?_) (fun c56 => ?_)
          · replace h := fb_ie c56 h
            refine lv_goto (tgt := 1348) hx hb dL_law_337 (by decide) ?_
            refine lv_iinc (v := v4 + 4) (lv' := [(4, .int (v4 + 4)), (6, .int r50), (5, .int r46), (0, .ref b), (1, .ref h0), (2, .ref m0), (3, .ref qo)]) hx hb dL_law_1348 hl (k := 6) rfl rfl (by decide) rfl (fun ls hl => ?_)
            refine lv_goto (tgt := 23) hx hb dL_law_1351 (by decide) ?_
            refine W.widen (k := ce + 64) (n := sl + 1024) (by omega) (by omega) ?_
            subst hsd0
            exact ih _ _ _ _ _ _ _ _ _ _ _ _ _ _ h _ _ (by omega) (by omega) d0 hd0 H locs hP hD hS ls (lv_sub hl [3, 4, 5, 6, 0] rfl)
          · replace h := fb_it c56 h
            refine lv_aload_n hx hb dL_law_325 rfl (lv_at hl 5 rfl) ?_
            refine lv_iconst (v := 0) hx hb dL_law_326 (by decide) ?_
            refine va_lald hx hb hK hP 9 1 rfl rfl (fb_ixin (by decide)) dL_law_327 ?_
            refine lv_iload hx hb dL_law_328 (lv_at hl 0 rfl) ?_
            refine lv_i2l hx hb dL_law_330 rfl ?_
            refine W.lcmp hx hb dL_law_331 ?_
            refine lv_if_eq (tgt := 337) hx hb dL_law_332 (by decide) (fun c57 => ?_) (fun c57 => ?_)
            · replace h := fb_it c57 h
              refine lv_goto (tgt := 1348) hx hb dL_law_337 (by decide) ?_
              refine lv_iinc (v := v4 + 4) (lv' := [(4, .int (v4 + 4)), (6, .int r50), (5, .int r46), (0, .ref b), (1, .ref h0), (2, .ref m0), (3, .ref qo)]) hx hb dL_law_1348 hl (k := 6) rfl rfl (by decide) rfl (fun ls hl => ?_)
              refine lv_goto (tgt := 23) hx hb dL_law_1351 (by decide) ?_
              refine W.widen (k := ce + 64) (n := sl + 1024) (by omega) (by omega) ?_
              subst hsd0
              exact ih _ _ _ _ _ _ _ _ _ _ _ _ _ _ h _ _ (by omega) (by omega) d0 hd0 H locs hP hD hS ls (lv_sub hl [3, 4, 5, 6, 0] rfl)
            · replace h := fb_ie c57 h
              refine lv_iconst (v := 0) hx hb dL_law_335 (by decide) ?_
              exact absurd (Option.some.inj h) (by decide)
        · replace h := fb_ie c55 h
          refine lv_iconst (v := 0) hx hb dL_law_318 (by decide) ?_
          exact absurd (Option.some.inj h) (by decide)
      replace h := fb_ie c4_2 h
      by_cases c4_3 : ((xs v4.toNatClampNeg) &&& 31) = 3
      · replace h := fb_it c4_3 h
        refine lv_tableIn (off := 301) (tgt := 340) hx hb dL_law_39 (by rw [c4_3]; decide) (by rw [c4_3]; decide) (by rw [c4_3]; rfl) (by decide) ?_
        refine lv_aload_n hx hb dL_law_340 rfl (lv_at hl 1 rfl) ?_
        refine lv_aload_n hx hb dL_law_341 rfl (lv_at hl 0 rfl) ?_
        refine lv_iload hx hb dL_law_342 (lv_at hl 4 rfl) ?_
        refine lv_iconst (v := 1) hx hb dL_law_344 (by decide) ?_
        refine lv_iadd hx hb dL_law_345 ?_
        obtain ⟨hi60, h⟩ := fb_cks h
        refine va_sld hx hb hX hbl hbA hS (fb_ixin hi60) dL_law_346 ?_
        refine lv_aload_n hx hb dL_law_347 rfl (lv_at hl 0 rfl) ?_
        refine lv_iload hx hb dL_law_348 (lv_at hl 4 rfl) ?_
        refine lv_iconst (v := 2) hx hb dL_law_350 (by decide) ?_
        refine lv_iadd hx hb dL_law_351 ?_
        obtain ⟨hi61, h⟩ := fb_cks h
        refine va_sld hx hb hX hbl hbA hS (fb_ixin hi61) dL_law_352 ?_
        refine lv_aload_n hx hb dL_law_353 rfl (lv_at hl 0 rfl) ?_
        refine lv_iload hx hb dL_law_354 (lv_at hl 4 rfl) ?_
        refine lv_iconst (v := 3) hx hb dL_law_356 (by decide) ?_
        refine lv_iadd hx hb dL_law_357 ?_
        obtain ⟨hi62, h⟩ := fb_cks h
        refine va_sld hx hb hX hbl hbA hS (fb_ixin hi62) dL_law_358 ?_
        refine lv_aload_n hx hb dL_law_359 rfl (lv_at hl 3 rfl) ?_
        obtain ⟨r64, nt_65, ob_66, h63, h⟩ := fb_b3s h
        have hPc : va_P D vwCl (fb_wL cI cJ h0 qf qn qw ql qo sz mi fg nt wt wl ob) H := hP.sub [0, 1, 2, 3, 4, 9] rfl
        have hDc : va_D A (fb_wL cI cJ h0 qf qn qw ql qo sz mi fg nt wt wl ob) := hD.sub [0, 1, 2, 3, 4, 9] (by decide) rfl
        have hFc := va_free (wc := fb_wL cI cJ h0 qf qn qw ql qo sz mi fg nt wt wl ob) hD hS hA [0, 1, 2, 3, 4, 9] rfl
        refine fb_callM (vx_runSW (As := [.ref h0, .int (xs (v4 + 1).toNatClampNeg), .int (xs (v4 + 2).toNatClampNeg), .int (xs (v4 + 3).toNatClampNeg), .ref qo]) (rest := []) ⟨hx, hb, hml, hown, hts⟩ (metL_put l hfl D cI cJ h0 qf qn qw ql qo B0 sz mi fg nt wt wl ob (xs (v4 + 1).toNatClampNeg) (xs (v4 + 2).toNatClampNeg) (xs (v4 + 3).toNatClampNeg) H.size r64 nt_65 ob_66 h63) (vx_cwSW 5 hts gL_law_L_put rfl rfl rfl (by decide +kernel) ⟨Nat.le_of_ble_eq_true rfl, Nat.le_of_ble_eq_true rfl⟩) (fb_preSM fb_sXTp hPc hK hDc hZT hS hAB hA _) rfl rfl hl.1 rfl (lv_room (Nat.le_of_ble_eq_true rfl)) dL_law_360 ⟨(show ce + 0 + 1 ≤ 793323 by omega), (show sl + 0 + 6 ≤ 6716136 by omega)⟩) hS (fun q _ h9 => hFc q h9) hFc (fun _ H1 locs hP1 hD1 hz1 hk1 hS => ?_)
        obtain ⟨hP, hD⟩ := va_join (wr := fb_wX1 cI m0 pn pf pw yth ych ynt yfg ywt ymi) (w1 := fb_wL cI cJ h0 qf qn qw ql qo sz mi fg nt_65 wt wl ob_66) hP hD [0, 1, 2, 3, 4, 9] [5, 6, 7, 8] rfl rfl (by decide) (by decide) hk1 hFc hP1 hD1
        have hP : va_P D vwCl (fb_wX0 cI h0 qf qn qw ql sz mi fg nt_65 wt wl ++ fb_wX1 cI m0 pn pf pw yth ych ynt yfg ywt ymi ++ [(qo, .inl (cJ, 1, .inr (.inl ob_66)))]) H1 := hP.sub [4, 5, 6, 7, 8, 0, 1, 2, 3, 9] rfl
        have hD : va_D A (fb_wX0 cI h0 qf qn qw ql sz mi fg nt_65 wt wl ++ fb_wX1 cI m0 pn pf pw yth ych ynt yfg ywt ymi ++ [(qo, .inl (cJ, 1, .inr (.inl ob_66)))]) := hD.sub [4, 5, 6, 7, 8, 0, 1, 2, 3, 9] (by decide) rfl
        generalize H1 = H at hP hS
        refine lv_istore (lv' := [(5, .int r64), (0, .ref b), (1, .ref h0), (2, .ref m0), (3, .ref qo), (4, .int v4)]) hx hb dL_law_363 hl (by decide) rfl (fun ls hl => ?_)
        refine lv_aload_n hx hb dL_law_365 rfl (lv_at hl 3 rfl) ?_
        refine lv_aload_n hx hb dL_law_366 rfl (lv_at hl 1 rfl) ?_
        refine lv_iload hx hb dL_law_367 (lv_at hl 5 rfl) ?_
        refine lv_iconst (v := 1) hx hb dL_law_369 (by decide) ?_
        refine lv_iadd hx hb dL_law_370 ?_
        refine va_sld hx hb hX hbl hbA hS (fb_ixin hi60) dL_law_371 ?_
        refine lv_aload_n hx hb dL_law_372 rfl (lv_at hl 1 rfl) ?_
        refine lv_iload hx hb dL_law_373 (lv_at hl 5 rfl) ?_
        refine lv_iconst (v := 2) hx hb dL_law_375 (by decide) ?_
        refine lv_iadd hx hb dL_law_376 ?_
        refine va_sld hx hb hX hbl hbA hS (fb_ixin hi61) dL_law_377 ?_
        refine lv_aload_n hx hb dL_law_378 rfl (lv_at hl 1 rfl) ?_
        refine lv_iload hx hb dL_law_379 (lv_at hl 5 rfl) ?_
        refine lv_iconst (v := 3) hx hb dL_law_381 (by decide) ?_
        refine lv_iadd hx hb dL_law_382 ?_
        refine va_sld hx hb hX hbl hbA hS (fb_ixin hi62) dL_law_383 ?_
        obtain ⟨r68, yth_69, ynt_70, h67, h⟩ := fb_b3s h
        have hPc : va_P D vwCl (fb_wX1 cI m0 pn pf pw yth ych ynt yfg ywt ymi) H := hP.sub [5, 6, 7, 8] rfl
        have hDc : va_D A (fb_wX1 cI m0 pn pf pw yth ych ynt yfg ywt ymi) := hD.sub [5, 6, 7, 8] (by decide) rfl
        have hFc := va_free (wc := fb_wX1 cI m0 pn pf pw yth ych ynt yfg ywt ymi) hD hS hA [5, 6, 7, 8] rfl
        refine fb_callM (va_runV (As := [.int (xs (v4 + 1).toNatClampNeg), .int (xs (v4 + 2).toNatClampNeg), .int (xs (v4 + 3).toNatClampNeg)]) (rest := []) ⟨hx, hb, hml, hown, hts⟩ (metX1_put l D cI m0 pn pf pw B0 yth ych ynt yfg ywt ymi (xs (v4 + 1).toNatClampNeg) (xs (v4 + 2).toNatClampNeg) (xs (v4 + 3).toNatClampNeg) H.size r68 yth_69 ynt_70 h67) (cwV 3 hts gL_law_X1_put rfl rfl rfl (by decide +kernel) ⟨Nat.le_of_ble_eq_true rfl, Nat.le_of_ble_eq_true rfl⟩) (fb_preVM (ci := 1) fb_sX1p hPc hK1 hDc hZY hS hAB hA rfl rfl _) rfl rfl hl.1 rfl (lv_room (Nat.le_of_ble_eq_true rfl)) dL_law_384 ⟨(show ce + 1 + 0 ≤ 793323 by omega), (show sl + 6 + 0 ≤ 6716136 by omega)⟩) hS (fun q _ h9 => hFc q h9) hFc (fun _ H1 locs hP1 hD1 hz1 hk1 hS => ?_)
        obtain ⟨hP, hD⟩ := va_join (wr := fb_wX0 cI h0 qf qn qw ql sz mi fg nt_65 wt wl ++ [(qo, .inl (cJ, 1, .inr (.inl ob_66)))]) (w1 := fb_wX1 cI m0 pn pf pw yth_69 ych ynt_70 yfg ywt ymi) hP hD [5, 6, 7, 8] [0, 1, 2, 3, 4, 9] rfl rfl (by decide) (by decide) hk1 hFc hP1 hD1
        have hP : va_P D vwCl (fb_wX0 cI h0 qf qn qw ql sz mi fg nt_65 wt wl ++ fb_wX1 cI m0 pn pf pw yth_69 ych ynt_70 yfg ywt ymi ++ [(qo, .inl (cJ, 1, .inr (.inl ob_66)))]) H1 := hP.sub [0, 1, 2, 3, 4, 6, 7, 8, 9, 5] rfl
        have hD : va_D A (fb_wX0 cI h0 qf qn qw ql sz mi fg nt_65 wt wl ++ fb_wX1 cI m0 pn pf pw yth_69 ych ynt_70 yfg ywt ymi ++ [(qo, .inl (cJ, 1, .inr (.inl ob_66)))]) := hD.sub [0, 1, 2, 3, 4, 6, 7, 8, 9, 5] (by decide) rfl
        generalize H1 = H at hP hS
        refine lv_istore (lv' := [(6, .int r68), (5, .int r64), (0, .ref b), (1, .ref h0), (2, .ref m0), (3, .ref qo), (4, .int v4)]) hx hb dL_law_387 hl (by decide) rfl (fun ls hl => ?_)
        refine lv_aload_n hx hb dL_law_389 rfl (lv_at hl 4 rfl) ?_
        obtain ⟨r72, h71, h⟩ := fb_b1s h
        have hPc : va_P D vwCl (fb_wX1 cI m0 pn pf pw yth_69 ych ynt_70 yfg ywt ymi) H := hP.sub [5, 6, 7, 8] rfl
        refine fb_callR (W.runV (As := []) (rest := []) ⟨hx, hb, hml, hown, hts⟩ (metX1_thrown l D cI m0 pn pf pw B0 yth_69 ych ynt_70 yfg ywt ymi  r72 h71) (cwV 0 hts gL_law_X1_thrown rfl rfl rfl (by decide +kernel) ⟨Nat.le_of_ble_eq_true rfl, Nat.le_of_ble_eq_true rfl⟩) (fb_preVR (ci := 1) fb_sX1p hPc hK1 hZY hS hAB rfl rfl _) rfl rfl hl.1 rfl (lv_room (Nat.le_of_ble_eq_true rfl)) dL_law_390 ⟨(show ce + 1 + 0 ≤ 793323 by omega), (show sl + 6 + 0 ≤ 6716136 by omega)⟩) ?_
        refine lv_iload hx hb dL_law_393 (lv_at hl 1 rfl) ?_
        refine lv_icmp_eq (tgt := 400) hx hb dL_law_395 (by decide) (fun c73 => ?_) (fun c73 => ?_)
        · replace h := fb_it c73 h
          refine lv_iload hx hb dL_law_400 (lv_at hl 1 rfl) ?_
          refine lv_if_ne (tgt := 417) hx hb dL_law_402 (by decide) (fun c74 => ?_) (fun c74 => ?_)
          · replace h := fb_ie c74 h
            refine lv_goto (tgt := 1348) hx hb dL_law_417 (by decide) ?_
            refine lv_iinc (v := v4 + 4) (lv' := [(4, .int (v4 + 4)), (6, .int r68), (5, .int r64), (0, .ref b), (1, .ref h0), (2, .ref m0), (3, .ref qo)]) hx hb dL_law_1348 hl (k := 6) rfl rfl (by decide) rfl (fun ls hl => ?_)
            refine lv_goto (tgt := 23) hx hb dL_law_1351 (by decide) ?_
            refine W.widen (k := ce + 64) (n := sl + 1024) (by omega) (by omega) ?_
            subst hsd0
            exact ih _ _ _ _ _ _ _ _ _ _ _ _ _ _ h _ _ (by omega) (by omega) d0 hd0 H locs hP hD hS ls (lv_sub hl [3, 4, 5, 6, 0] rfl)
          · replace h := fb_it c74 h
            refine lv_aload_n hx hb dL_law_405 rfl (lv_at hl 5 rfl) ?_
            refine lv_iconst (v := 0) hx hb dL_law_406 (by decide) ?_
            refine va_lald hx hb hK hP 9 1 rfl rfl (fb_ixin (by decide)) dL_law_407 ?_
            refine lv_iload hx hb dL_law_408 (lv_at hl 0 rfl) ?_
            refine lv_i2l hx hb dL_law_410 rfl ?_
            refine W.lcmp hx hb dL_law_411 ?_
            refine lv_if_eq (tgt := 417) hx hb dL_law_412 (by decide) (fun c75 => ?_) (fun c75 => ?_)
            · replace h := fb_it c75 h
              refine lv_goto (tgt := 1348) hx hb dL_law_417 (by decide) ?_
              refine lv_iinc (v := v4 + 4) (lv' := [(4, .int (v4 + 4)), (6, .int r68), (5, .int r64), (0, .ref b), (1, .ref h0), (2, .ref m0), (3, .ref qo)]) hx hb dL_law_1348 hl (k := 6) rfl rfl (by decide) rfl (fun ls hl => ?_)
              refine lv_goto (tgt := 23) hx hb dL_law_1351 (by decide) ?_
              refine W.widen (k := ce + 64) (n := sl + 1024) (by omega) (by omega) ?_
              subst hsd0
              exact ih _ _ _ _ _ _ _ _ _ _ _ _ _ _ h _ _ (by omega) (by omega) d0 hd0 H locs hP hD hS ls (lv_sub hl [3, 4, 5, 6, 0] rfl)
            · replace h := fb_ie c75 h
              refine lv_iconst (v := 0) hx hb dL_law_415 (by decide) ?_
              exact absurd (Option.some.inj h) (by decide)
        · replace h := fb_ie c73 h
          refine lv_iconst (v := 0) hx hb dL_law_398 (by decide) ?_
          exact absurd (Option.some.inj h) (by decide)
      replace h := fb_ie c4_3 h
      by_cases c4_4 : ((xs v4.toNatClampNeg) &&& 31) = 4
      · replace h := fb_it c4_4 h
        refine lv_tableIn (off := 381) (tgt := 420) hx hb dL_law_39 (by rw [c4_4]; decide) (by rw [c4_4]; decide) (by rw [c4_4]; rfl) (by decide) ?_
        refine lv_aload_n hx hb dL_law_420 rfl (lv_at hl 1 rfl) ?_
        refine lv_aload_n hx hb dL_law_421 rfl (lv_at hl 3 rfl) ?_
        obtain ⟨r79, sz_80, ob_81, h78, h⟩ := fb_b3s h
        have hPc : va_P D vwCl (fb_wL cI cJ h0 qf qn qw ql qo sz mi fg nt wt wl ob) H := hP.sub [0, 1, 2, 3, 4, 9] rfl
        have hDc : va_D A (fb_wL cI cJ h0 qf qn qw ql qo sz mi fg nt wt wl ob) := hD.sub [0, 1, 2, 3, 4, 9] (by decide) rfl
        have hFc := va_free (wc := fb_wL cI cJ h0 qf qn qw ql qo sz mi fg nt wt wl ob) hD hS hA [0, 1, 2, 3, 4, 9] rfl
        refine fb_callM (vx_runSW (As := [.ref h0, .ref qo]) (rest := []) ⟨hx, hb, hml, hown, hts⟩ (metL_drop l hfl D cI cJ h0 qf qn qw ql qo B0 sz mi fg nt wt wl ob  H.size r79 sz_80 ob_81 h78) (vx_cwSW 2 hts gL_law_L_drop rfl rfl rfl (by decide +kernel) ⟨Nat.le_of_ble_eq_true rfl, Nat.le_of_ble_eq_true rfl⟩) (fb_preSM fb_sXTp hPc hK hDc hZT hS hAB hA _) rfl rfl hl.1 rfl (lv_room (Nat.le_of_ble_eq_true rfl)) dL_law_422 ⟨(show ce + 0 + 1 ≤ 793323 by omega), (show sl + 0 + 6 ≤ 6716136 by omega)⟩) hS (fun q _ h9 => hFc q h9) hFc (fun _ H1 locs hP1 hD1 hz1 hk1 hS => ?_)
        obtain ⟨hP, hD⟩ := va_join (wr := fb_wX1 cI m0 pn pf pw yth ych ynt yfg ywt ymi) (w1 := fb_wL cI cJ h0 qf qn qw ql qo sz_80 mi fg nt wt wl ob_81) hP hD [0, 1, 2, 3, 4, 9] [5, 6, 7, 8] rfl rfl (by decide) (by decide) hk1 hFc hP1 hD1
        have hP : va_P D vwCl (fb_wX0 cI h0 qf qn qw ql sz_80 mi fg nt wt wl ++ fb_wX1 cI m0 pn pf pw yth ych ynt yfg ywt ymi ++ [(qo, .inl (cJ, 1, .inr (.inl ob_81)))]) H1 := hP.sub [4, 5, 6, 7, 8, 0, 1, 2, 3, 9] rfl
        have hD : va_D A (fb_wX0 cI h0 qf qn qw ql sz_80 mi fg nt wt wl ++ fb_wX1 cI m0 pn pf pw yth ych ynt yfg ywt ymi ++ [(qo, .inl (cJ, 1, .inr (.inl ob_81)))]) := hD.sub [4, 5, 6, 7, 8, 0, 1, 2, 3, 9] (by decide) rfl
        generalize H1 = H at hP hS
        refine lv_istore (lv' := [(5, .int r79), (0, .ref b), (1, .ref h0), (2, .ref m0), (3, .ref qo), (4, .int v4)]) hx hb dL_law_425 hl (by decide) rfl (fun ls hl => ?_)
        refine lv_aload_n hx hb dL_law_427 rfl (lv_at hl 3 rfl) ?_
        obtain ⟨r83, yth_84, ych_85, h82, h⟩ := fb_b3s h
        have hPc : va_P D vwCl (fb_wX1 cI m0 pn pf pw yth ych ynt yfg ywt ymi) H := hP.sub [5, 6, 7, 8] rfl
        have hDc : va_D A (fb_wX1 cI m0 pn pf pw yth ych ynt yfg ywt ymi) := hD.sub [5, 6, 7, 8] (by decide) rfl
        have hFc := va_free (wc := fb_wX1 cI m0 pn pf pw yth ych ynt yfg ywt ymi) hD hS hA [5, 6, 7, 8] rfl
        refine fb_callM (va_runV (As := []) (rest := []) ⟨hx, hb, hml, hown, hts⟩ (metX1_drop l D cI m0 pn pf pw B0 yth ych ynt yfg ywt ymi  H.size r83 yth_84 ych_85 h82) (cwV 0 hts gL_law_X1_drop rfl rfl rfl (by decide +kernel) ⟨Nat.le_of_ble_eq_true rfl, Nat.le_of_ble_eq_true rfl⟩) (fb_preVM (ci := 1) fb_sX1p hPc hK1 hDc hZY hS hAB hA rfl rfl _) rfl rfl hl.1 rfl (lv_room (Nat.le_of_ble_eq_true rfl)) dL_law_428 ⟨(show ce + 1 + 0 ≤ 793323 by omega), (show sl + 6 + 0 ≤ 6716136 by omega)⟩) hS (fun q _ h9 => hFc q h9) hFc (fun _ H1 locs hP1 hD1 hz1 hk1 hS => ?_)
        obtain ⟨hP, hD⟩ := va_join (wr := fb_wX0 cI h0 qf qn qw ql sz_80 mi fg nt wt wl ++ [(qo, .inl (cJ, 1, .inr (.inl ob_81)))]) (w1 := fb_wX1 cI m0 pn pf pw yth_84 ych_85 ynt yfg ywt ymi) hP hD [5, 6, 7, 8] [0, 1, 2, 3, 4, 9] rfl rfl (by decide) (by decide) hk1 hFc hP1 hD1
        have hP : va_P D vwCl (fb_wX0 cI h0 qf qn qw ql sz_80 mi fg nt wt wl ++ fb_wX1 cI m0 pn pf pw yth_84 ych_85 ynt yfg ywt ymi ++ [(qo, .inl (cJ, 1, .inr (.inl ob_81)))]) H1 := hP.sub [0, 1, 2, 3, 4, 6, 7, 8, 9, 5] rfl
        have hD : va_D A (fb_wX0 cI h0 qf qn qw ql sz_80 mi fg nt wt wl ++ fb_wX1 cI m0 pn pf pw yth_84 ych_85 ynt yfg ywt ymi ++ [(qo, .inl (cJ, 1, .inr (.inl ob_81)))]) := hD.sub [0, 1, 2, 3, 4, 6, 7, 8, 9, 5] (by decide) rfl
        generalize H1 = H at hP hS
        refine lv_istore (lv' := [(6, .int r83), (5, .int r79), (0, .ref b), (1, .ref h0), (2, .ref m0), (3, .ref qo), (4, .int v4)]) hx hb dL_law_431 hl (by decide) rfl (fun ls hl => ?_)
        refine lv_aload_n hx hb dL_law_433 rfl (lv_at hl 4 rfl) ?_
        obtain ⟨r87, h86, h⟩ := fb_b1s h
        have hPc : va_P D vwCl (fb_wX1 cI m0 pn pf pw yth_84 ych_85 ynt yfg ywt ymi) H := hP.sub [5, 6, 7, 8] rfl
        refine fb_callR (W.runV (As := []) (rest := []) ⟨hx, hb, hml, hown, hts⟩ (metX1_thrown l D cI m0 pn pf pw B0 yth_84 ych_85 ynt yfg ywt ymi  r87 h86) (cwV 0 hts gL_law_X1_thrown rfl rfl rfl (by decide +kernel) ⟨Nat.le_of_ble_eq_true rfl, Nat.le_of_ble_eq_true rfl⟩) (fb_preVR (ci := 1) fb_sX1p hPc hK1 hZY hS hAB rfl rfl _) rfl rfl hl.1 rfl (lv_room (Nat.le_of_ble_eq_true rfl)) dL_law_434 ⟨(show ce + 1 + 0 ≤ 793323 by omega), (show sl + 6 + 0 ≤ 6716136 by omega)⟩) ?_
        refine lv_iload hx hb dL_law_437 (lv_at hl 1 rfl) ?_
        refine lv_icmp_eq (tgt := 444) hx hb dL_law_439 (by decide) (fun c88 => ?_) (fun c88 => ?_)
        · replace h := fb_it c88 h
          refine lv_iload hx hb dL_law_444 (lv_at hl 1 rfl) ?_
          refine lv_if_ne (tgt := 461) hx hb dL_law_446 (by decide) (fun c89 => ?_) (fun c89 => ?_)
          · replace h := fb_ie c89 h
            refine lv_goto (tgt := 1348) hx hb dL_law_461 (by decide) ?_
            refine lv_iinc (v := v4 + 4) (lv' := [(4, .int (v4 + 4)), (6, .int r83), (5, .int r79), (0, .ref b), (1, .ref h0), (2, .ref m0), (3, .ref qo)]) hx hb dL_law_1348 hl (k := 6) rfl rfl (by decide) rfl (fun ls hl => ?_)
            refine lv_goto (tgt := 23) hx hb dL_law_1351 (by decide) ?_
            refine W.widen (k := ce + 64) (n := sl + 1024) (by omega) (by omega) ?_
            subst hsd0
            exact ih _ _ _ _ _ _ _ _ _ _ _ _ _ _ h _ _ (by omega) (by omega) d0 hd0 H locs hP hD hS ls (lv_sub hl [3, 4, 5, 6, 0] rfl)
          · replace h := fb_it c89 h
            refine lv_aload_n hx hb dL_law_449 rfl (lv_at hl 5 rfl) ?_
            refine lv_iconst (v := 0) hx hb dL_law_450 (by decide) ?_
            refine va_lald hx hb hK hP 9 1 rfl rfl (fb_ixin (by decide)) dL_law_451 ?_
            refine lv_iload hx hb dL_law_452 (lv_at hl 0 rfl) ?_
            refine lv_i2l hx hb dL_law_454 rfl ?_
            refine W.lcmp hx hb dL_law_455 ?_
            refine lv_if_eq (tgt := 461) hx hb dL_law_456 (by decide) (fun c90 => ?_) (fun c90 => ?_)
            · replace h := fb_it c90 h
              refine lv_goto (tgt := 1348) hx hb dL_law_461 (by decide) ?_
              refine lv_iinc (v := v4 + 4) (lv' := [(4, .int (v4 + 4)), (6, .int r83), (5, .int r79), (0, .ref b), (1, .ref h0), (2, .ref m0), (3, .ref qo)]) hx hb dL_law_1348 hl (k := 6) rfl rfl (by decide) rfl (fun ls hl => ?_)
              refine lv_goto (tgt := 23) hx hb dL_law_1351 (by decide) ?_
              refine W.widen (k := ce + 64) (n := sl + 1024) (by omega) (by omega) ?_
              subst hsd0
              exact ih _ _ _ _ _ _ _ _ _ _ _ _ _ _ h _ _ (by omega) (by omega) d0 hd0 H locs hP hD hS ls (lv_sub hl [3, 4, 5, 6, 0] rfl)
            · replace h := fb_ie c90 h
              refine lv_iconst (v := 0) hx hb dL_law_459 (by decide) ?_
              exact absurd (Option.some.inj h) (by decide)
        · replace h := fb_ie c88 h
          refine lv_iconst (v := 0) hx hb dL_law_442 (by decide) ?_
          exact absurd (Option.some.inj h) (by decide)
      replace h := fb_ie c4_4 h
      by_cases c4_5 : ((xs v4.toNatClampNeg) &&& 31) = 5
      · replace h := fb_it c4_5 h
        refine lv_tableIn (off := 425) (tgt := 464) hx hb dL_law_39 (by rw [c4_5]; decide) (by rw [c4_5]; decide) (by rw [c4_5]; rfl) (by decide) ?_
        refine lv_aload_n hx hb dL_law_464 rfl (lv_at hl 1 rfl) ?_
        refine lv_aload_n hx hb dL_law_465 rfl (lv_at hl 0 rfl) ?_
        refine lv_iload hx hb dL_law_466 (lv_at hl 4 rfl) ?_
        refine lv_iconst (v := 1) hx hb dL_law_468 (by decide) ?_
        refine lv_iadd hx hb dL_law_469 ?_
        obtain ⟨hi93, h⟩ := fb_cks h
        refine va_sld hx hb hX hbl hbA hS (fb_ixin hi93) dL_law_470 ?_
        obtain ⟨j95, hjJ1, h⟩ := fb_b1s h
        have J1 : ∀ (H : Heap) (locs : List Loc), va_P D vwCl (fb_wX0 cI h0 qf qn qw ql sz mi fg nt wt wl ++ fb_wX1 cI m0 pn pf pw yth ych ynt yfg ywt ymi ++ [(qo, .inl (cJ, 1, .inr (.inl ob)))]) H → va_D A (fb_wX0 cI h0 qf qn qw ql sz mi fg nt wt wl ++ fb_wX1 cI m0 pn pf pw yth ych ynt yfg ywt ymi ++ [(qo, .inl (cJ, 1, .inr (.inl ob)))]) → va_S A s.heap H locs → ∀ (ls : Array Slot), lv_has ls 9 [(0, .ref b), (1, .ref h0), (2, .ref m0), (3, .ref qo), (4, .int v4)] → W p l e room_1 s m #[Value.ref b] below meth c H locs (ce + 0) (sl + 0) (lw_Z below #[Value.ref b] s0) (F0 m 479 ls [.int j95, .ref h0]) := by
          intro H locs hP hD hS ls hl
          obtain ⟨r97, mi_98, h96, h⟩ := fb_b2s h
          have hPc : va_P D vwCl (fb_wX0 cI h0 qf qn qw ql sz mi fg nt wt wl) H := hP.sub [0, 1, 2, 3, 4] rfl
          have hDc : va_D A (fb_wX0 cI h0 qf qn qw ql sz mi fg nt wt wl) := hD.sub [0, 1, 2, 3, 4] (by decide) rfl
          have hFc := va_free (wc := fb_wX0 cI h0 qf qn qw ql sz mi fg nt wt wl) hD hS hA [0, 1, 2, 3, 4] rfl
          refine fb_callM (va_runV (As := [.int j95]) (rest := []) ⟨hx, hb, hml, hown, hts⟩ (metX0_setKey l D cI h0 qf qn qw ql B0 sz mi fg nt wt wl j95 H.size r97 mi_98 h96) (cwV 1 hts gL_law_X0_setKey rfl rfl rfl (by decide +kernel) ⟨Nat.le_of_ble_eq_true rfl, Nat.le_of_ble_eq_true rfl⟩) (fb_preVM (ci := 0) fb_sX0p hPc hK1 hDc hZ hS hAB hA rfl rfl _) rfl rfl hl.1 rfl (lv_room (Nat.le_of_ble_eq_true rfl)) dL_law_479 ⟨(show ce + 0 + 0 ≤ 793323 by omega), (show sl + 0 + 0 ≤ 6716136 by omega)⟩) hS (fun q _ h9 => hFc q h9) hFc (fun _ H1 locs hP1 hD1 hz1 hk1 hS => ?_)
          obtain ⟨hP, hD⟩ := va_join (wr := fb_wX1 cI m0 pn pf pw yth ych ynt yfg ywt ymi ++ [(qo, .inl (cJ, 1, .inr (.inl ob)))]) (w1 := fb_wX0 cI h0 qf qn qw ql sz mi_98 fg nt wt wl) hP hD [0, 1, 2, 3, 4] [5, 6, 7, 8, 9] rfl rfl (by decide) (by decide) hk1 hFc hP1 hD1
          have hP : va_P D vwCl (fb_wX0 cI h0 qf qn qw ql sz mi_98 fg nt wt wl ++ fb_wX1 cI m0 pn pf pw yth ych ynt yfg ywt ymi ++ [(qo, .inl (cJ, 1, .inr (.inl ob)))]) H1 := hP.sub [5, 6, 7, 8, 9, 0, 1, 2, 3, 4] rfl
          have hD : va_D A (fb_wX0 cI h0 qf qn qw ql sz mi_98 fg nt wt wl ++ fb_wX1 cI m0 pn pf pw yth ych ynt yfg ywt ymi ++ [(qo, .inl (cJ, 1, .inr (.inl ob)))]) := hD.sub [5, 6, 7, 8, 9, 0, 1, 2, 3, 4] (by decide) rfl
          generalize H1 = H at hP hS
          refine lv_aload_n hx hb dL_law_482 rfl (lv_at hl 2 rfl) ?_
          refine lv_aload_n hx hb dL_law_483 rfl (lv_at hl 0 rfl) ?_
          refine lv_iload hx hb dL_law_484 (lv_at hl 4 rfl) ?_
          refine lv_iconst (v := 1) hx hb dL_law_486 (by decide) ?_
          refine lv_iadd hx hb dL_law_487 ?_
          refine va_sld hx hb hX hbl hbA hS (fb_ixin hi93) dL_law_488 ?_
          obtain ⟨j100, hjJ2, h⟩ := fb_b1s h
          have J2 : ∀ (H : Heap) (locs : List Loc), va_P D vwCl (fb_wX0 cI h0 qf qn qw ql sz mi_98 fg nt wt wl ++ fb_wX1 cI m0 pn pf pw yth ych ynt yfg ywt ymi ++ [(qo, .inl (cJ, 1, .inr (.inl ob)))]) H → va_D A (fb_wX0 cI h0 qf qn qw ql sz mi_98 fg nt wt wl ++ fb_wX1 cI m0 pn pf pw yth ych ynt yfg ywt ymi ++ [(qo, .inl (cJ, 1, .inr (.inl ob)))]) → va_S A s.heap H locs → ∀ (ls : Array Slot), lv_has ls 9 [(0, .ref b), (1, .ref h0), (2, .ref m0), (3, .ref qo), (4, .int v4)] → W p l e room_1 s m #[Value.ref b] below meth c H locs (ce + 0) (sl + 0) (lw_Z below #[Value.ref b] s0) (F0 m 497 ls [.int j100, .ref m0, .int r97]) := by
            intro H locs hP hD hS ls hl
            obtain ⟨r102, yth_103, ymi_104, h101, h⟩ := fb_b3s h
            have hPc : va_P D vwCl (fb_wX1 cI m0 pn pf pw yth ych ynt yfg ywt ymi) H := hP.sub [5, 6, 7, 8] rfl
            have hDc : va_D A (fb_wX1 cI m0 pn pf pw yth ych ynt yfg ywt ymi) := hD.sub [5, 6, 7, 8] (by decide) rfl
            have hFc := va_free (wc := fb_wX1 cI m0 pn pf pw yth ych ynt yfg ywt ymi) hD hS hA [5, 6, 7, 8] rfl
            refine fb_callM (va_runV (As := [.int j100]) (rest := [.int r97]) ⟨hx, hb, hml, hown, hts⟩ (metX1_setKey l D cI m0 pn pf pw B0 yth ych ynt yfg ywt ymi j100 H.size r102 yth_103 ymi_104 h101) (cwV 1 hts gL_law_X1_setKey rfl rfl rfl (by decide +kernel) ⟨Nat.le_of_ble_eq_true rfl, Nat.le_of_ble_eq_true rfl⟩) (fb_preVM (ci := 1) fb_sX1p hPc hK1 hDc hZY hS hAB hA rfl rfl _) rfl rfl hl.1 rfl (lv_room (Nat.le_of_ble_eq_true rfl)) dL_law_497 ⟨(show ce + 0 + 0 ≤ 793323 by omega), (show sl + 0 + 0 ≤ 6716136 by omega)⟩) hS (fun q _ h9 => hFc q h9) hFc (fun _ H1 locs hP1 hD1 hz1 hk1 hS => ?_)
            obtain ⟨hP, hD⟩ := va_join (wr := fb_wX0 cI h0 qf qn qw ql sz mi_98 fg nt wt wl ++ [(qo, .inl (cJ, 1, .inr (.inl ob)))]) (w1 := fb_wX1 cI m0 pn pf pw yth_103 ych ynt yfg ywt ymi_104) hP hD [5, 6, 7, 8] [0, 1, 2, 3, 4, 9] rfl rfl (by decide) (by decide) hk1 hFc hP1 hD1
            have hP : va_P D vwCl (fb_wX0 cI h0 qf qn qw ql sz mi_98 fg nt wt wl ++ fb_wX1 cI m0 pn pf pw yth_103 ych ynt yfg ywt ymi_104 ++ [(qo, .inl (cJ, 1, .inr (.inl ob)))]) H1 := hP.sub [0, 1, 2, 3, 4, 6, 7, 8, 9, 5] rfl
            have hD : va_D A (fb_wX0 cI h0 qf qn qw ql sz mi_98 fg nt wt wl ++ fb_wX1 cI m0 pn pf pw yth_103 ych ynt yfg ywt ymi_104 ++ [(qo, .inl (cJ, 1, .inr (.inl ob)))]) := hD.sub [0, 1, 2, 3, 4, 6, 7, 8, 9, 5] (by decide) rfl
            generalize H1 = H at hP hS
            refine lv_icmp_eq (tgt := 1348) hx hb dL_law_500 (by decide) (fun c105 => ?_) (fun c105 => ?_)
            · replace h := fb_it c105 h
              refine lv_iinc (v := v4 + 4) (lv' := [(4, .int (v4 + 4)), (0, .ref b), (1, .ref h0), (2, .ref m0), (3, .ref qo)]) hx hb dL_law_1348 hl (k := 4) rfl rfl (by decide) rfl (fun ls hl => ?_)
              refine lv_goto (tgt := 23) hx hb dL_law_1351 (by decide) ?_
              refine W.widen (k := ce + 64) (n := sl + 1024) (by omega) (by omega) ?_
              subst hsd0
              exact ih _ _ _ _ _ _ _ _ _ _ _ _ _ _ h _ _ (by omega) (by omega) d0 hd0 H locs hP hD hS ls (lv_sub hl [1, 2, 3, 4, 0] rfl)
            · replace h := fb_ie c105 h
              refine lv_iconst (v := 0) hx hb dL_law_503 (by decide) ?_
              exact absurd (Option.some.inj h) (by decide)
          replace h := hjJ2
          refine lv_if_eq (tgt := 496) hx hb dL_law_489 (by decide) (fun c99 => ?_) (fun c99 => ?_)
          · replace h := fb_it c99 h
            refine lv_iconst (v := 0) hx hb dL_law_496 (by decide) ?_
            have h := Option.some.inj h
            subst h
            exact J2 H locs hP hD hS ls (lv_sub hl [0, 1, 2, 3, 4] rfl)
          · replace h := fb_ie c99 h
            refine lv_iconst (v := 1) hx hb dL_law_492 (by decide) ?_
            refine lv_goto (tgt := 497) hx hb dL_law_493 (by decide) ?_
            have h := Option.some.inj h
            subst h
            exact J2 H locs hP hD hS ls (lv_sub hl [0, 1, 2, 3, 4] rfl)
        replace h := hjJ1
        refine lv_if_eq (tgt := 478) hx hb dL_law_471 (by decide) (fun c94 => ?_) (fun c94 => ?_)
        · replace h := fb_it c94 h
          refine lv_iconst (v := 0) hx hb dL_law_478 (by decide) ?_
          have h := Option.some.inj h
          subst h
          exact J1 H locs hP hD hS ls (lv_sub hl [0, 1, 2, 3, 4] rfl)
        · replace h := fb_ie c94 h
          refine lv_iconst (v := 1) hx hb dL_law_474 (by decide) ?_
          refine lv_goto (tgt := 479) hx hb dL_law_475 (by decide) ?_
          have h := Option.some.inj h
          subst h
          exact J1 H locs hP hD hS ls (lv_sub hl [0, 1, 2, 3, 4] rfl)
      replace h := fb_ie c4_5 h
      by_cases c4_6 : ((xs v4.toNatClampNeg) &&& 31) = 6
      · replace h := fb_it c4_6 h
        refine lv_tableIn (off := 466) (tgt := 505) hx hb dL_law_39 (by rw [c4_6]; decide) (by rw [c4_6]; decide) (by rw [c4_6]; rfl) (by decide) ?_
        refine lv_aload_n hx hb dL_law_505 rfl (lv_at hl 1 rfl) ?_
        refine lv_aload_n hx hb dL_law_506 rfl (lv_at hl 0 rfl) ?_
        refine lv_iload hx hb dL_law_507 (lv_at hl 4 rfl) ?_
        refine lv_iconst (v := 1) hx hb dL_law_509 (by decide) ?_
        refine lv_iadd hx hb dL_law_510 ?_
        obtain ⟨hi107, h⟩ := fb_cks h
        refine va_sld hx hb hX hbl hbA hS (fb_ixin hi107) dL_law_511 ?_
        refine lv_aload_n hx hb dL_law_512 rfl (lv_at hl 0 rfl) ?_
        refine lv_iload hx hb dL_law_513 (lv_at hl 4 rfl) ?_
        refine lv_iconst (v := 2) hx hb dL_law_515 (by decide) ?_
        refine lv_iadd hx hb dL_law_516 ?_
        obtain ⟨hi108, h⟩ := fb_cks h
        refine va_sld hx hb hX hbl hbA hS (fb_ixin hi108) dL_law_517 ?_
        refine lv_aload_n hx hb dL_law_518 rfl (lv_at hl 3 rfl) ?_
        obtain ⟨r110, wt_111, ob_112, h109, h⟩ := fb_b3s h
        have hPc : va_P D vwCl (fb_wL cI cJ h0 qf qn qw ql qo sz mi fg nt wt wl ob) H := hP.sub [0, 1, 2, 3, 4, 9] rfl
        have hDc : va_D A (fb_wL cI cJ h0 qf qn qw ql qo sz mi fg nt wt wl ob) := hD.sub [0, 1, 2, 3, 4, 9] (by decide) rfl
        have hFc := va_free (wc := fb_wL cI cJ h0 qf qn qw ql qo sz mi fg nt wt wl ob) hD hS hA [0, 1, 2, 3, 4, 9] rfl
        refine fb_callM (vx_runSW (As := [.ref h0, .int (xs (v4 + 1).toNatClampNeg), .int (xs (v4 + 2).toNatClampNeg), .ref qo]) (rest := []) ⟨hx, hb, hml, hown, hts⟩ (metL_setWeight l hfl D cI cJ h0 qf qn qw ql qo B0 sz mi fg nt wt wl ob (xs (v4 + 1).toNatClampNeg) (xs (v4 + 2).toNatClampNeg) H.size r110 wt_111 ob_112 h109) (vx_cwSW 4 hts gL_law_L_setWeight rfl rfl rfl (by decide +kernel) ⟨Nat.le_of_ble_eq_true rfl, Nat.le_of_ble_eq_true rfl⟩) (fb_preSM fb_sXTp hPc hK hDc hZT hS hAB hA _) rfl rfl hl.1 rfl (lv_room (Nat.le_of_ble_eq_true rfl)) dL_law_519 ⟨(show ce + 0 + 1 ≤ 793323 by omega), (show sl + 0 + 6 ≤ 6716136 by omega)⟩) hS (fun q _ h9 => hFc q h9) hFc (fun _ H1 locs hP1 hD1 hz1 hk1 hS => ?_)
        obtain ⟨hP, hD⟩ := va_join (wr := fb_wX1 cI m0 pn pf pw yth ych ynt yfg ywt ymi) (w1 := fb_wL cI cJ h0 qf qn qw ql qo sz mi fg nt wt_111 wl ob_112) hP hD [0, 1, 2, 3, 4, 9] [5, 6, 7, 8] rfl rfl (by decide) (by decide) hk1 hFc hP1 hD1
        have hP : va_P D vwCl (fb_wX0 cI h0 qf qn qw ql sz mi fg nt wt_111 wl ++ fb_wX1 cI m0 pn pf pw yth ych ynt yfg ywt ymi ++ [(qo, .inl (cJ, 1, .inr (.inl ob_112)))]) H1 := hP.sub [4, 5, 6, 7, 8, 0, 1, 2, 3, 9] rfl
        have hD : va_D A (fb_wX0 cI h0 qf qn qw ql sz mi fg nt wt_111 wl ++ fb_wX1 cI m0 pn pf pw yth ych ynt yfg ywt ymi ++ [(qo, .inl (cJ, 1, .inr (.inl ob_112)))]) := hD.sub [4, 5, 6, 7, 8, 0, 1, 2, 3, 9] (by decide) rfl
        generalize H1 = H at hP hS
        refine lv_istore (lv' := [(5, .int r110), (0, .ref b), (1, .ref h0), (2, .ref m0), (3, .ref qo), (4, .int v4)]) hx hb dL_law_522 hl (by decide) rfl (fun ls hl => ?_)
        refine lv_aload_n hx hb dL_law_524 rfl (lv_at hl 3 rfl) ?_
        refine lv_aload_n hx hb dL_law_525 rfl (lv_at hl 1 rfl) ?_
        refine lv_iload hx hb dL_law_526 (lv_at hl 5 rfl) ?_
        refine lv_iconst (v := 1) hx hb dL_law_528 (by decide) ?_
        refine lv_iadd hx hb dL_law_529 ?_
        refine va_sld hx hb hX hbl hbA hS (fb_ixin hi107) dL_law_530 ?_
        refine lv_aload_n hx hb dL_law_531 rfl (lv_at hl 1 rfl) ?_
        refine lv_iload hx hb dL_law_532 (lv_at hl 5 rfl) ?_
        refine lv_iconst (v := 2) hx hb dL_law_534 (by decide) ?_
        refine lv_iadd hx hb dL_law_535 ?_
        refine va_sld hx hb hX hbl hbA hS (fb_ixin hi108) dL_law_536 ?_
        obtain ⟨r114, yth_115, ywt_116, h113, h⟩ := fb_b3s h
        have hPc : va_P D vwCl (fb_wX1 cI m0 pn pf pw yth ych ynt yfg ywt ymi) H := hP.sub [5, 6, 7, 8] rfl
        have hDc : va_D A (fb_wX1 cI m0 pn pf pw yth ych ynt yfg ywt ymi) := hD.sub [5, 6, 7, 8] (by decide) rfl
        have hFc := va_free (wc := fb_wX1 cI m0 pn pf pw yth ych ynt yfg ywt ymi) hD hS hA [5, 6, 7, 8] rfl
        refine fb_callM (va_runV (As := [.int (xs (v4 + 1).toNatClampNeg), .int (xs (v4 + 2).toNatClampNeg)]) (rest := []) ⟨hx, hb, hml, hown, hts⟩ (metX1_setWeight l D cI m0 pn pf pw B0 yth ych ynt yfg ywt ymi (xs (v4 + 1).toNatClampNeg) (xs (v4 + 2).toNatClampNeg) H.size r114 yth_115 ywt_116 h113) (cwV 2 hts gL_law_X1_setWeight rfl rfl rfl (by decide +kernel) ⟨Nat.le_of_ble_eq_true rfl, Nat.le_of_ble_eq_true rfl⟩) (fb_preVM (ci := 1) fb_sX1p hPc hK1 hDc hZY hS hAB hA rfl rfl _) rfl rfl hl.1 rfl (lv_room (Nat.le_of_ble_eq_true rfl)) dL_law_537 ⟨(show ce + 1 + 0 ≤ 793323 by omega), (show sl + 6 + 0 ≤ 6716136 by omega)⟩) hS (fun q _ h9 => hFc q h9) hFc (fun _ H1 locs hP1 hD1 hz1 hk1 hS => ?_)
        obtain ⟨hP, hD⟩ := va_join (wr := fb_wX0 cI h0 qf qn qw ql sz mi fg nt wt_111 wl ++ [(qo, .inl (cJ, 1, .inr (.inl ob_112)))]) (w1 := fb_wX1 cI m0 pn pf pw yth_115 ych ynt yfg ywt_116 ymi) hP hD [5, 6, 7, 8] [0, 1, 2, 3, 4, 9] rfl rfl (by decide) (by decide) hk1 hFc hP1 hD1
        have hP : va_P D vwCl (fb_wX0 cI h0 qf qn qw ql sz mi fg nt wt_111 wl ++ fb_wX1 cI m0 pn pf pw yth_115 ych ynt yfg ywt_116 ymi ++ [(qo, .inl (cJ, 1, .inr (.inl ob_112)))]) H1 := hP.sub [0, 1, 2, 3, 4, 6, 7, 8, 9, 5] rfl
        have hD : va_D A (fb_wX0 cI h0 qf qn qw ql sz mi fg nt wt_111 wl ++ fb_wX1 cI m0 pn pf pw yth_115 ych ynt yfg ywt_116 ymi ++ [(qo, .inl (cJ, 1, .inr (.inl ob_112)))]) := hD.sub [0, 1, 2, 3, 4, 6, 7, 8, 9, 5] (by decide) rfl
        generalize H1 = H at hP hS
        refine lv_istore (lv' := [(6, .int r114), (5, .int r110), (0, .ref b), (1, .ref h0), (2, .ref m0), (3, .ref qo), (4, .int v4)]) hx hb dL_law_540 hl (by decide) rfl (fun ls hl => ?_)
        refine lv_aload_n hx hb dL_law_542 rfl (lv_at hl 4 rfl) ?_
        obtain ⟨r118, h117, h⟩ := fb_b1s h
        have hPc : va_P D vwCl (fb_wX1 cI m0 pn pf pw yth_115 ych ynt yfg ywt_116 ymi) H := hP.sub [5, 6, 7, 8] rfl
        refine fb_callR (W.runV (As := []) (rest := []) ⟨hx, hb, hml, hown, hts⟩ (metX1_thrown l D cI m0 pn pf pw B0 yth_115 ych ynt yfg ywt_116 ymi  r118 h117) (cwV 0 hts gL_law_X1_thrown rfl rfl rfl (by decide +kernel) ⟨Nat.le_of_ble_eq_true rfl, Nat.le_of_ble_eq_true rfl⟩) (fb_preVR (ci := 1) fb_sX1p hPc hK1 hZY hS hAB rfl rfl _) rfl rfl hl.1 rfl (lv_room (Nat.le_of_ble_eq_true rfl)) dL_law_543 ⟨(show ce + 1 + 0 ≤ 793323 by omega), (show sl + 6 + 0 ≤ 6716136 by omega)⟩) ?_
        refine lv_iload hx hb dL_law_546 (lv_at hl 1 rfl) ?_
        refine lv_icmp_eq (tgt := 553) hx hb dL_law_548 (by decide) (fun c119 => ?_) (fun c119 => ?_)
        · replace h := fb_it c119 h
          refine lv_iload hx hb dL_law_553 (lv_at hl 1 rfl) ?_
          refine lv_if_ne (tgt := 570) hx hb dL_law_555 (by decide) (fun c120 => ?_) (fun c120 => ?_)
          · replace h := fb_ie c120 h
            refine lv_goto (tgt := 1348) hx hb dL_law_570 (by decide) ?_
            refine lv_iinc (v := v4 + 4) (lv' := [(4, .int (v4 + 4)), (6, .int r114), (5, .int r110), (0, .ref b), (1, .ref h0), (2, .ref m0), (3, .ref qo)]) hx hb dL_law_1348 hl (k := 6) rfl rfl (by decide) rfl (fun ls hl => ?_)
            refine lv_goto (tgt := 23) hx hb dL_law_1351 (by decide) ?_
            refine W.widen (k := ce + 64) (n := sl + 1024) (by omega) (by omega) ?_
            subst hsd0
            exact ih _ _ _ _ _ _ _ _ _ _ _ _ _ _ h _ _ (by omega) (by omega) d0 hd0 H locs hP hD hS ls (lv_sub hl [3, 4, 5, 6, 0] rfl)
          · replace h := fb_it c120 h
            refine lv_aload_n hx hb dL_law_558 rfl (lv_at hl 5 rfl) ?_
            refine lv_iconst (v := 0) hx hb dL_law_559 (by decide) ?_
            refine va_lald hx hb hK hP 9 1 rfl rfl (fb_ixin (by decide)) dL_law_560 ?_
            refine lv_iload hx hb dL_law_561 (lv_at hl 0 rfl) ?_
            refine lv_i2l hx hb dL_law_563 rfl ?_
            refine W.lcmp hx hb dL_law_564 ?_
            refine lv_if_eq (tgt := 570) hx hb dL_law_565 (by decide) (fun c121 => ?_) (fun c121 => ?_)
            · replace h := fb_it c121 h
              refine lv_goto (tgt := 1348) hx hb dL_law_570 (by decide) ?_
              refine lv_iinc (v := v4 + 4) (lv' := [(4, .int (v4 + 4)), (6, .int r114), (5, .int r110), (0, .ref b), (1, .ref h0), (2, .ref m0), (3, .ref qo)]) hx hb dL_law_1348 hl (k := 6) rfl rfl (by decide) rfl (fun ls hl => ?_)
              refine lv_goto (tgt := 23) hx hb dL_law_1351 (by decide) ?_
              refine W.widen (k := ce + 64) (n := sl + 1024) (by omega) (by omega) ?_
              subst hsd0
              exact ih _ _ _ _ _ _ _ _ _ _ _ _ _ _ h _ _ (by omega) (by omega) d0 hd0 H locs hP hD hS ls (lv_sub hl [3, 4, 5, 6, 0] rfl)
            · replace h := fb_ie c121 h
              refine lv_iconst (v := 0) hx hb dL_law_568 (by decide) ?_
              exact absurd (Option.some.inj h) (by decide)
        · replace h := fb_ie c119 h
          refine lv_iconst (v := 0) hx hb dL_law_551 (by decide) ?_
          exact absurd (Option.some.inj h) (by decide)
      replace h := fb_ie c4_6 h
      by_cases c4_7 : ((xs v4.toNatClampNeg) &&& 31) = 7
      · replace h := fb_it c4_7 h
        refine lv_tableIn (off := 534) (tgt := 573) hx hb dL_law_39 (by rw [c4_7]; decide) (by rw [c4_7]; decide) (by rw [c4_7]; rfl) (by decide) ?_
        refine lv_aload_n hx hb dL_law_573 rfl (lv_at hl 1 rfl) ?_
        refine lv_aload_n hx hb dL_law_574 rfl (lv_at hl 0 rfl) ?_
        refine lv_iload hx hb dL_law_575 (lv_at hl 4 rfl) ?_
        refine lv_iconst (v := 1) hx hb dL_law_577 (by decide) ?_
        refine lv_iadd hx hb dL_law_578 ?_
        obtain ⟨hi124, h⟩ := fb_cks h
        refine va_sld hx hb hX hbl hbA hS (fb_ixin hi124) dL_law_579 ?_
        refine lv_aload_n hx hb dL_law_580 rfl (lv_at hl 3 rfl) ?_
        obtain ⟨r126, nt_127, wl_128, ob_129, h125, h⟩ := fb_b4s h
        have hPc : va_P D vwCl (fb_wL cI cJ h0 qf qn qw ql qo sz mi fg nt wt wl ob) H := hP.sub [0, 1, 2, 3, 4, 9] rfl
        have hDc : va_D A (fb_wL cI cJ h0 qf qn qw ql qo sz mi fg nt wt wl ob) := hD.sub [0, 1, 2, 3, 4, 9] (by decide) rfl
        have hFc := va_free (wc := fb_wL cI cJ h0 qf qn qw ql qo sz mi fg nt wt wl ob) hD hS hA [0, 1, 2, 3, 4, 9] rfl
        refine fb_callM (vx_runSW (As := [.ref h0, .int (xs (v4 + 1).toNatClampNeg), .ref qo]) (rest := []) ⟨hx, hb, hml, hown, hts⟩ (metL_lead l hfl D cI cJ h0 qf qn qw ql qo B0 sz mi fg nt wt wl ob (xs (v4 + 1).toNatClampNeg) H.size r126 nt_127 wl_128 ob_129 h125) (vx_cwSW 3 hts gL_law_L_lead rfl rfl rfl (by decide +kernel) ⟨Nat.le_of_ble_eq_true rfl, Nat.le_of_ble_eq_true rfl⟩) (fb_preSM fb_sXTp hPc hK hDc hZT hS hAB hA _) rfl rfl hl.1 rfl (lv_room (Nat.le_of_ble_eq_true rfl)) dL_law_581 ⟨(show ce + 0 + 1 ≤ 793323 by omega), (show sl + 0 + 6 ≤ 6716136 by omega)⟩) hS (fun q _ h9 => hFc q h9) hFc (fun _ H1 locs hP1 hD1 hz1 hk1 hS => ?_)
        obtain ⟨hP, hD⟩ := va_join (wr := fb_wX1 cI m0 pn pf pw yth ych ynt yfg ywt ymi) (w1 := fb_wL cI cJ h0 qf qn qw ql qo sz mi fg nt_127 wt wl_128 ob_129) hP hD [0, 1, 2, 3, 4, 9] [5, 6, 7, 8] rfl rfl (by decide) (by decide) hk1 hFc hP1 hD1
        have hP : va_P D vwCl (fb_wX0 cI h0 qf qn qw ql sz mi fg nt_127 wt wl_128 ++ fb_wX1 cI m0 pn pf pw yth ych ynt yfg ywt ymi ++ [(qo, .inl (cJ, 1, .inr (.inl ob_129)))]) H1 := hP.sub [4, 5, 6, 7, 8, 0, 1, 2, 3, 9] rfl
        have hD : va_D A (fb_wX0 cI h0 qf qn qw ql sz mi fg nt_127 wt wl_128 ++ fb_wX1 cI m0 pn pf pw yth ych ynt yfg ywt ymi ++ [(qo, .inl (cJ, 1, .inr (.inl ob_129)))]) := hD.sub [4, 5, 6, 7, 8, 0, 1, 2, 3, 9] (by decide) rfl
        generalize H1 = H at hP hS
        refine lv_istore (lv' := [(5, .int r126), (0, .ref b), (1, .ref h0), (2, .ref m0), (3, .ref qo), (4, .int v4)]) hx hb dL_law_584 hl (by decide) rfl (fun ls hl => ?_)
        refine lv_aload_n hx hb dL_law_586 rfl (lv_at hl 3 rfl) ?_
        refine lv_aload_n hx hb dL_law_587 rfl (lv_at hl 1 rfl) ?_
        refine lv_iload hx hb dL_law_588 (lv_at hl 5 rfl) ?_
        refine lv_iconst (v := 1) hx hb dL_law_590 (by decide) ?_
        refine lv_iadd hx hb dL_law_591 ?_
        refine va_sld hx hb hX hbl hbA hS (fb_ixin hi124) dL_law_592 ?_
        obtain ⟨r131, yth_132, ynt_133, h130, h⟩ := fb_b3s h
        have hPc : va_P D vwCl (fb_wX1 cI m0 pn pf pw yth ych ynt yfg ywt ymi) H := hP.sub [5, 6, 7, 8] rfl
        have hDc : va_D A (fb_wX1 cI m0 pn pf pw yth ych ynt yfg ywt ymi) := hD.sub [5, 6, 7, 8] (by decide) rfl
        have hFc := va_free (wc := fb_wX1 cI m0 pn pf pw yth ych ynt yfg ywt ymi) hD hS hA [5, 6, 7, 8] rfl
        refine fb_callM (va_runV (As := [.int (xs (v4 + 1).toNatClampNeg)]) (rest := []) ⟨hx, hb, hml, hown, hts⟩ (metX1_lead l D cI m0 pn pf pw B0 yth ych ynt yfg ywt ymi (xs (v4 + 1).toNatClampNeg) H.size r131 yth_132 ynt_133 h130) (cwV 1 hts gL_law_X1_lead rfl rfl rfl (by decide +kernel) ⟨Nat.le_of_ble_eq_true rfl, Nat.le_of_ble_eq_true rfl⟩) (fb_preVM (ci := 1) fb_sX1p hPc hK1 hDc hZY hS hAB hA rfl rfl _) rfl rfl hl.1 rfl (lv_room (Nat.le_of_ble_eq_true rfl)) dL_law_593 ⟨(show ce + 1 + 2 ≤ 793323 by omega), (show sl + 6 + 6 ≤ 6716136 by omega)⟩) hS (fun q _ h9 => hFc q h9) hFc (fun _ H1 locs hP1 hD1 hz1 hk1 hS => ?_)
        obtain ⟨hP, hD⟩ := va_join (wr := fb_wX0 cI h0 qf qn qw ql sz mi fg nt_127 wt wl_128 ++ [(qo, .inl (cJ, 1, .inr (.inl ob_129)))]) (w1 := fb_wX1 cI m0 pn pf pw yth_132 ych ynt_133 yfg ywt ymi) hP hD [5, 6, 7, 8] [0, 1, 2, 3, 4, 9] rfl rfl (by decide) (by decide) hk1 hFc hP1 hD1
        have hP : va_P D vwCl (fb_wX0 cI h0 qf qn qw ql sz mi fg nt_127 wt wl_128 ++ fb_wX1 cI m0 pn pf pw yth_132 ych ynt_133 yfg ywt ymi ++ [(qo, .inl (cJ, 1, .inr (.inl ob_129)))]) H1 := hP.sub [0, 1, 2, 3, 4, 6, 7, 8, 9, 5] rfl
        have hD : va_D A (fb_wX0 cI h0 qf qn qw ql sz mi fg nt_127 wt wl_128 ++ fb_wX1 cI m0 pn pf pw yth_132 ych ynt_133 yfg ywt ymi ++ [(qo, .inl (cJ, 1, .inr (.inl ob_129)))]) := hD.sub [0, 1, 2, 3, 4, 6, 7, 8, 9, 5] (by decide) rfl
        generalize H1 = H at hP hS
        refine lv_istore (lv' := [(6, .int r131), (5, .int r126), (0, .ref b), (1, .ref h0), (2, .ref m0), (3, .ref qo), (4, .int v4)]) hx hb dL_law_596 hl (by decide) rfl (fun ls hl => ?_)
        refine lv_aload_n hx hb dL_law_598 rfl (lv_at hl 4 rfl) ?_
        obtain ⟨r135, h134, h⟩ := fb_b1s h
        have hPc : va_P D vwCl (fb_wX1 cI m0 pn pf pw yth_132 ych ynt_133 yfg ywt ymi) H := hP.sub [5, 6, 7, 8] rfl
        refine fb_callR (W.runV (As := []) (rest := []) ⟨hx, hb, hml, hown, hts⟩ (metX1_thrown l D cI m0 pn pf pw B0 yth_132 ych ynt_133 yfg ywt ymi  r135 h134) (cwV 0 hts gL_law_X1_thrown rfl rfl rfl (by decide +kernel) ⟨Nat.le_of_ble_eq_true rfl, Nat.le_of_ble_eq_true rfl⟩) (fb_preVR (ci := 1) fb_sX1p hPc hK1 hZY hS hAB rfl rfl _) rfl rfl hl.1 rfl (lv_room (Nat.le_of_ble_eq_true rfl)) dL_law_599 ⟨(show ce + 3 + 0 ≤ 793323 by omega), (show sl + 12 + 0 ≤ 6716136 by omega)⟩) ?_
        refine lv_iload hx hb dL_law_602 (lv_at hl 1 rfl) ?_
        refine lv_icmp_eq (tgt := 609) hx hb dL_law_604 (by decide) (fun c136 => ?_) (fun c136 => ?_)
        · replace h := fb_it c136 h
          refine lv_iload hx hb dL_law_609 (lv_at hl 1 rfl) ?_
          refine lv_if_ne (tgt := 626) hx hb dL_law_611 (by decide) (fun c137 => ?_) (fun c137 => ?_)
          · replace h := fb_ie c137 h
            refine lv_goto (tgt := 1348) hx hb dL_law_626 (by decide) ?_
            refine lv_iinc (v := v4 + 4) (lv' := [(4, .int (v4 + 4)), (6, .int r131), (5, .int r126), (0, .ref b), (1, .ref h0), (2, .ref m0), (3, .ref qo)]) hx hb dL_law_1348 hl (k := 6) rfl rfl (by decide) rfl (fun ls hl => ?_)
            refine lv_goto (tgt := 23) hx hb dL_law_1351 (by decide) ?_
            refine W.widen (k := ce + 64) (n := sl + 1024) (by omega) (by omega) ?_
            subst hsd0
            exact ih _ _ _ _ _ _ _ _ _ _ _ _ _ _ h _ _ (by omega) (by omega) d0 hd0 H locs hP hD hS ls (lv_sub hl [3, 4, 5, 6, 0] rfl)
          · replace h := fb_it c137 h
            refine lv_aload_n hx hb dL_law_614 rfl (lv_at hl 5 rfl) ?_
            refine lv_iconst (v := 0) hx hb dL_law_615 (by decide) ?_
            refine va_lald hx hb hK hP 9 1 rfl rfl (fb_ixin (by decide)) dL_law_616 ?_
            refine lv_iload hx hb dL_law_617 (lv_at hl 0 rfl) ?_
            refine lv_i2l hx hb dL_law_619 rfl ?_
            refine W.lcmp hx hb dL_law_620 ?_
            refine lv_if_eq (tgt := 626) hx hb dL_law_621 (by decide) (fun c138 => ?_) (fun c138 => ?_)
            · replace h := fb_it c138 h
              refine lv_goto (tgt := 1348) hx hb dL_law_626 (by decide) ?_
              refine lv_iinc (v := v4 + 4) (lv' := [(4, .int (v4 + 4)), (6, .int r131), (5, .int r126), (0, .ref b), (1, .ref h0), (2, .ref m0), (3, .ref qo)]) hx hb dL_law_1348 hl (k := 6) rfl rfl (by decide) rfl (fun ls hl => ?_)
              refine lv_goto (tgt := 23) hx hb dL_law_1351 (by decide) ?_
              refine W.widen (k := ce + 64) (n := sl + 1024) (by omega) (by omega) ?_
              subst hsd0
              exact ih _ _ _ _ _ _ _ _ _ _ _ _ _ _ h _ _ (by omega) (by omega) d0 hd0 H locs hP hD hS ls (lv_sub hl [3, 4, 5, 6, 0] rfl)
            · replace h := fb_ie c138 h
              refine lv_iconst (v := 0) hx hb dL_law_624 (by decide) ?_
              exact absurd (Option.some.inj h) (by decide)
        · replace h := fb_ie c136 h
          refine lv_iconst (v := 0) hx hb dL_law_607 (by decide) ?_
          exact absurd (Option.some.inj h) (by decide)
      replace h := fb_ie c4_7 h
      by_cases c4_8 : ((xs v4.toNatClampNeg) &&& 31) = 8
      · replace h := fb_it c4_8 h
        refine lv_tableIn (off := 590) (tgt := 629) hx hb dL_law_39 (by rw [c4_8]; decide) (by rw [c4_8]; decide) (by rw [c4_8]; rfl) (by decide) ?_
        refine lv_aload_n hx hb dL_law_629 rfl (lv_at hl 1 rfl) ?_
        obtain ⟨r142, nt_143, wl_144, h141, h⟩ := fb_b3s h
        have hPc : va_P D vwCl (fb_wX0 cI h0 qf qn qw ql sz mi fg nt wt wl) H := hP.sub [0, 1, 2, 3, 4] rfl
        have hDc : va_D A (fb_wX0 cI h0 qf qn qw ql sz mi fg nt wt wl) := hD.sub [0, 1, 2, 3, 4] (by decide) rfl
        have hFc := va_free (wc := fb_wX0 cI h0 qf qn qw ql sz mi fg nt wt wl) hD hS hA [0, 1, 2, 3, 4] rfl
        refine fb_callM (va_runV (As := []) (rest := []) ⟨hx, hb, hml, hown, hts⟩ (metX0_leadAll l D cI h0 qf qn qw ql B0 sz mi fg nt wt wl  H.size r142 nt_143 wl_144 h141) (cwV 0 hts gL_law_X0_leadAll rfl rfl rfl (by decide +kernel) ⟨Nat.le_of_ble_eq_true rfl, Nat.le_of_ble_eq_true rfl⟩) (fb_preVM (ci := 0) fb_sX0p hPc hK1 hDc hZ hS hAB hA rfl rfl _) rfl rfl hl.1 rfl (lv_room (Nat.le_of_ble_eq_true rfl)) dL_law_630 ⟨(show ce + 0 + 0 ≤ 793323 by omega), (show sl + 0 + 0 ≤ 6716136 by omega)⟩) hS (fun q _ h9 => hFc q h9) hFc (fun _ H1 locs hP1 hD1 hz1 hk1 hS => ?_)
        obtain ⟨hP, hD⟩ := va_join (wr := fb_wX1 cI m0 pn pf pw yth ych ynt yfg ywt ymi ++ [(qo, .inl (cJ, 1, .inr (.inl ob)))]) (w1 := fb_wX0 cI h0 qf qn qw ql sz mi fg nt_143 wt wl_144) hP hD [0, 1, 2, 3, 4] [5, 6, 7, 8, 9] rfl rfl (by decide) (by decide) hk1 hFc hP1 hD1
        have hP : va_P D vwCl (fb_wX0 cI h0 qf qn qw ql sz mi fg nt_143 wt wl_144 ++ fb_wX1 cI m0 pn pf pw yth ych ynt yfg ywt ymi ++ [(qo, .inl (cJ, 1, .inr (.inl ob)))]) H1 := hP.sub [5, 6, 7, 8, 9, 0, 1, 2, 3, 4] rfl
        have hD : va_D A (fb_wX0 cI h0 qf qn qw ql sz mi fg nt_143 wt wl_144 ++ fb_wX1 cI m0 pn pf pw yth ych ynt yfg ywt ymi ++ [(qo, .inl (cJ, 1, .inr (.inl ob)))]) := hD.sub [5, 6, 7, 8, 9, 0, 1, 2, 3, 4] (by decide) rfl
        generalize H1 = H at hP hS
        refine lv_aload_n hx hb dL_law_633 rfl (lv_at hl 2 rfl) ?_
        obtain ⟨r146, yth_147, ynt_148, h145, h⟩ := fb_b3s h
        have hPc : va_P D vwCl (fb_wX1 cI m0 pn pf pw yth ych ynt yfg ywt ymi) H := hP.sub [5, 6, 7, 8] rfl
        have hDc : va_D A (fb_wX1 cI m0 pn pf pw yth ych ynt yfg ywt ymi) := hD.sub [5, 6, 7, 8] (by decide) rfl
        have hFc := va_free (wc := fb_wX1 cI m0 pn pf pw yth ych ynt yfg ywt ymi) hD hS hA [5, 6, 7, 8] rfl
        refine fb_callM (va_runV (As := []) (rest := [.int r142]) ⟨hx, hb, hml, hown, hts⟩ (metX1_leadAll l D cI m0 pn pf pw B0 yth ych ynt yfg ywt ymi  H.size r146 yth_147 ynt_148 h145) (cwV 0 hts gL_law_X1_leadAll rfl rfl rfl (by decide +kernel) ⟨Nat.le_of_ble_eq_true rfl, Nat.le_of_ble_eq_true rfl⟩) (fb_preVM (ci := 1) fb_sX1p hPc hK1 hDc hZY hS hAB hA rfl rfl _) rfl rfl hl.1 rfl (lv_room (Nat.le_of_ble_eq_true rfl)) dL_law_634 ⟨(show ce + 0 + 28 ≤ 793323 by omega), (show sl + 0 + 84 ≤ 6716136 by omega)⟩) hS (fun q _ h9 => hFc q h9) hFc (fun _ H1 locs hP1 hD1 hz1 hk1 hS => ?_)
        obtain ⟨hP, hD⟩ := va_join (wr := fb_wX0 cI h0 qf qn qw ql sz mi fg nt_143 wt wl_144 ++ [(qo, .inl (cJ, 1, .inr (.inl ob)))]) (w1 := fb_wX1 cI m0 pn pf pw yth_147 ych ynt_148 yfg ywt ymi) hP hD [5, 6, 7, 8] [0, 1, 2, 3, 4, 9] rfl rfl (by decide) (by decide) hk1 hFc hP1 hD1
        have hP : va_P D vwCl (fb_wX0 cI h0 qf qn qw ql sz mi fg nt_143 wt wl_144 ++ fb_wX1 cI m0 pn pf pw yth_147 ych ynt_148 yfg ywt ymi ++ [(qo, .inl (cJ, 1, .inr (.inl ob)))]) H1 := hP.sub [0, 1, 2, 3, 4, 6, 7, 8, 9, 5] rfl
        have hD : va_D A (fb_wX0 cI h0 qf qn qw ql sz mi fg nt_143 wt wl_144 ++ fb_wX1 cI m0 pn pf pw yth_147 ych ynt_148 yfg ywt ymi ++ [(qo, .inl (cJ, 1, .inr (.inl ob)))]) := hD.sub [0, 1, 2, 3, 4, 6, 7, 8, 9, 5] (by decide) rfl
        generalize H1 = H at hP hS
        refine lv_icmp_eq (tgt := 1348) hx hb dL_law_637 (by decide) (fun c149 => ?_) (fun c149 => ?_)
        · replace h := fb_it c149 h
          refine lv_iinc (v := v4 + 4) (lv' := [(4, .int (v4 + 4)), (0, .ref b), (1, .ref h0), (2, .ref m0), (3, .ref qo)]) hx hb dL_law_1348 hl (k := 4) rfl rfl (by decide) rfl (fun ls hl => ?_)
          refine lv_goto (tgt := 23) hx hb dL_law_1351 (by decide) ?_
          refine W.widen (k := ce + 64) (n := sl + 1024) (by omega) (by omega) ?_
          subst hsd0
          exact ih _ _ _ _ _ _ _ _ _ _ _ _ _ _ h _ _ (by omega) (by omega) d0 hd0 H locs hP hD hS ls (lv_sub hl [1, 2, 3, 4, 0] rfl)
        · replace h := fb_ie c149 h
          refine lv_iconst (v := 0) hx hb dL_law_640 (by decide) ?_
          exact absurd (Option.some.inj h) (by decide)
      replace h := fb_ie c4_8 h
      by_cases c4_9 : ((xs v4.toNatClampNeg) &&& 31) = 9
      · replace h := fb_it c4_9 h
        refine lv_tableIn (off := 603) (tgt := 642) hx hb dL_law_39 (by rw [c4_9]; decide) (by rw [c4_9]; decide) (by rw [c4_9]; rfl) (by decide) ?_
        refine lv_aload_n hx hb dL_law_642 rfl (lv_at hl 1 rfl) ?_
        refine lv_aload_n hx hb dL_law_643 rfl (lv_at hl 0 rfl) ?_
        refine lv_iload hx hb dL_law_644 (lv_at hl 4 rfl) ?_
        refine lv_iconst (v := 1) hx hb dL_law_646 (by decide) ?_
        refine lv_iadd hx hb dL_law_647 ?_
        obtain ⟨hi151, h⟩ := fb_cks h
        refine va_sld hx hb hX hbl hbA hS (fb_ixin hi151) dL_law_648 ?_
        refine lv_aload_n hx hb dL_law_649 rfl (lv_at hl 0 rfl) ?_
        refine lv_iload hx hb dL_law_650 (lv_at hl 4 rfl) ?_
        refine lv_iconst (v := 2) hx hb dL_law_652 (by decide) ?_
        refine lv_iadd hx hb dL_law_653 ?_
        obtain ⟨hi152, h⟩ := fb_cks h
        refine va_sld hx hb hX hbl hbA hS (fb_ixin hi152) dL_law_654 ?_
        refine lv_aload_n hx hb dL_law_655 rfl (lv_at hl 3 rfl) ?_
        obtain ⟨r154, ob_155, h153, h⟩ := fb_b2s h
        have hPc : va_P D vwCl (fb_wL cI cJ h0 qf qn qw ql qo sz mi fg nt wt wl ob) H := hP.sub [0, 1, 2, 3, 4, 9] rfl
        have hDc : va_D A (fb_wL cI cJ h0 qf qn qw ql qo sz mi fg nt wt wl ob) := hD.sub [0, 1, 2, 3, 4, 9] (by decide) rfl
        have hFc := va_free (wc := fb_wL cI cJ h0 qf qn qw ql qo sz mi fg nt wt wl ob) hD hS hA [0, 1, 2, 3, 4, 9] rfl
        refine fb_callM (vx_runSW (As := [.ref h0, .int (xs (v4 + 1).toNatClampNeg), .int (xs (v4 + 2).toNatClampNeg), .ref qo]) (rest := []) ⟨hx, hb, hml, hown, hts⟩ (metL_note l hfl D cI cJ h0 qf qn qw ql qo B0 sz mi fg nt wt wl ob (xs (v4 + 1).toNatClampNeg) (xs (v4 + 2).toNatClampNeg) H.size r154 ob_155 h153) (vx_cwSW 4 hts gL_law_L_note rfl rfl rfl (by decide +kernel) ⟨Nat.le_of_ble_eq_true rfl, Nat.le_of_ble_eq_true rfl⟩) (fb_preSM fb_sXTp hPc hK hDc hZT hS hAB hA _) rfl rfl hl.1 rfl (lv_room (Nat.le_of_ble_eq_true rfl)) dL_law_656 ⟨(show ce + 0 + 1 ≤ 793323 by omega), (show sl + 0 + 6 ≤ 6716136 by omega)⟩) hS (fun q _ h9 => hFc q h9) hFc (fun _ H1 locs hP1 hD1 hz1 hk1 hS => ?_)
        obtain ⟨hP, hD⟩ := va_join (wr := fb_wX1 cI m0 pn pf pw yth ych ynt yfg ywt ymi) (w1 := fb_wL cI cJ h0 qf qn qw ql qo sz mi fg nt wt wl ob_155) hP hD [0, 1, 2, 3, 4, 9] [5, 6, 7, 8] rfl rfl (by decide) (by decide) hk1 hFc hP1 hD1
        have hP : va_P D vwCl (fb_wX0 cI h0 qf qn qw ql sz mi fg nt wt wl ++ fb_wX1 cI m0 pn pf pw yth ych ynt yfg ywt ymi ++ [(qo, .inl (cJ, 1, .inr (.inl ob_155)))]) H1 := hP.sub [4, 5, 6, 7, 8, 0, 1, 2, 3, 9] rfl
        have hD : va_D A (fb_wX0 cI h0 qf qn qw ql sz mi fg nt wt wl ++ fb_wX1 cI m0 pn pf pw yth ych ynt yfg ywt ymi ++ [(qo, .inl (cJ, 1, .inr (.inl ob_155)))]) := hD.sub [4, 5, 6, 7, 8, 0, 1, 2, 3, 9] (by decide) rfl
        generalize H1 = H at hP hS
        refine lv_istore (lv' := [(5, .int r154), (0, .ref b), (1, .ref h0), (2, .ref m0), (3, .ref qo), (4, .int v4)]) hx hb dL_law_659 hl (by decide) rfl (fun ls hl => ?_)
        refine lv_aload_n hx hb dL_law_661 rfl (lv_at hl 3 rfl) ?_
        refine lv_aload_n hx hb dL_law_662 rfl (lv_at hl 1 rfl) ?_
        refine lv_iload hx hb dL_law_663 (lv_at hl 5 rfl) ?_
        refine lv_iconst (v := 1) hx hb dL_law_665 (by decide) ?_
        refine lv_iadd hx hb dL_law_666 ?_
        refine va_sld hx hb hX hbl hbA hS (fb_ixin hi151) dL_law_667 ?_
        refine lv_aload_n hx hb dL_law_668 rfl (lv_at hl 1 rfl) ?_
        refine lv_iload hx hb dL_law_669 (lv_at hl 5 rfl) ?_
        refine lv_iconst (v := 2) hx hb dL_law_671 (by decide) ?_
        refine lv_iadd hx hb dL_law_672 ?_
        refine va_sld hx hb hX hbl hbA hS (fb_ixin hi152) dL_law_673 ?_
        obtain ⟨r157, yth_158, h156, h⟩ := fb_b2s h
        have hPc : va_P D vwCl (fb_wX1 cI m0 pn pf pw yth ych ynt yfg ywt ymi) H := hP.sub [5, 6, 7, 8] rfl
        have hDc : va_D A (fb_wX1 cI m0 pn pf pw yth ych ynt yfg ywt ymi) := hD.sub [5, 6, 7, 8] (by decide) rfl
        have hFc := va_free (wc := fb_wX1 cI m0 pn pf pw yth ych ynt yfg ywt ymi) hD hS hA [5, 6, 7, 8] rfl
        refine fb_callM (va_runV (As := [.int (xs (v4 + 1).toNatClampNeg), .int (xs (v4 + 2).toNatClampNeg)]) (rest := []) ⟨hx, hb, hml, hown, hts⟩ (metX1_note l D cI m0 pn pf pw B0 yth ych ynt yfg ywt ymi (xs (v4 + 1).toNatClampNeg) (xs (v4 + 2).toNatClampNeg) H.size r157 yth_158 h156) (cwV 2 hts gL_law_X1_note rfl rfl rfl (by decide +kernel) ⟨Nat.le_of_ble_eq_true rfl, Nat.le_of_ble_eq_true rfl⟩) (fb_preVM (ci := 1) fb_sX1p hPc hK1 hDc hZY hS hAB hA rfl rfl _) rfl rfl hl.1 rfl (lv_room (Nat.le_of_ble_eq_true rfl)) dL_law_674 ⟨(show ce + 1 + 0 ≤ 793323 by omega), (show sl + 6 + 0 ≤ 6716136 by omega)⟩) hS (fun q _ h9 => hFc q h9) hFc (fun _ H1 locs hP1 hD1 hz1 hk1 hS => ?_)
        obtain ⟨hP, hD⟩ := va_join (wr := fb_wX0 cI h0 qf qn qw ql sz mi fg nt wt wl ++ [(qo, .inl (cJ, 1, .inr (.inl ob_155)))]) (w1 := fb_wX1 cI m0 pn pf pw yth_158 ych ynt yfg ywt ymi) hP hD [5, 6, 7, 8] [0, 1, 2, 3, 4, 9] rfl rfl (by decide) (by decide) hk1 hFc hP1 hD1
        have hP : va_P D vwCl (fb_wX0 cI h0 qf qn qw ql sz mi fg nt wt wl ++ fb_wX1 cI m0 pn pf pw yth_158 ych ynt yfg ywt ymi ++ [(qo, .inl (cJ, 1, .inr (.inl ob_155)))]) H1 := hP.sub [0, 1, 2, 3, 4, 6, 7, 8, 9, 5] rfl
        have hD : va_D A (fb_wX0 cI h0 qf qn qw ql sz mi fg nt wt wl ++ fb_wX1 cI m0 pn pf pw yth_158 ych ynt yfg ywt ymi ++ [(qo, .inl (cJ, 1, .inr (.inl ob_155)))]) := hD.sub [0, 1, 2, 3, 4, 6, 7, 8, 9, 5] (by decide) rfl
        generalize H1 = H at hP hS
        refine lv_istore (lv' := [(6, .int r157), (5, .int r154), (0, .ref b), (1, .ref h0), (2, .ref m0), (3, .ref qo), (4, .int v4)]) hx hb dL_law_677 hl (by decide) rfl (fun ls hl => ?_)
        refine lv_aload_n hx hb dL_law_679 rfl (lv_at hl 4 rfl) ?_
        obtain ⟨r160, h159, h⟩ := fb_b1s h
        have hPc : va_P D vwCl (fb_wX1 cI m0 pn pf pw yth_158 ych ynt yfg ywt ymi) H := hP.sub [5, 6, 7, 8] rfl
        refine fb_callR (W.runV (As := []) (rest := []) ⟨hx, hb, hml, hown, hts⟩ (metX1_thrown l D cI m0 pn pf pw B0 yth_158 ych ynt yfg ywt ymi  r160 h159) (cwV 0 hts gL_law_X1_thrown rfl rfl rfl (by decide +kernel) ⟨Nat.le_of_ble_eq_true rfl, Nat.le_of_ble_eq_true rfl⟩) (fb_preVR (ci := 1) fb_sX1p hPc hK1 hZY hS hAB rfl rfl _) rfl rfl hl.1 rfl (lv_room (Nat.le_of_ble_eq_true rfl)) dL_law_680 ⟨(show ce + 1 + 0 ≤ 793323 by omega), (show sl + 6 + 0 ≤ 6716136 by omega)⟩) ?_
        refine lv_iload hx hb dL_law_683 (lv_at hl 1 rfl) ?_
        refine lv_icmp_eq (tgt := 690) hx hb dL_law_685 (by decide) (fun c161 => ?_) (fun c161 => ?_)
        · replace h := fb_it c161 h
          refine lv_iload hx hb dL_law_690 (lv_at hl 1 rfl) ?_
          refine lv_if_ne (tgt := 707) hx hb dL_law_692 (by decide) (fun c162 => ?_) (fun c162 => ?_)
          · replace h := fb_ie c162 h
            refine lv_goto (tgt := 1348) hx hb dL_law_707 (by decide) ?_
            refine lv_iinc (v := v4 + 4) (lv' := [(4, .int (v4 + 4)), (6, .int r157), (5, .int r154), (0, .ref b), (1, .ref h0), (2, .ref m0), (3, .ref qo)]) hx hb dL_law_1348 hl (k := 6) rfl rfl (by decide) rfl (fun ls hl => ?_)
            refine lv_goto (tgt := 23) hx hb dL_law_1351 (by decide) ?_
            refine W.widen (k := ce + 64) (n := sl + 1024) (by omega) (by omega) ?_
            subst hsd0
            exact ih _ _ _ _ _ _ _ _ _ _ _ _ _ _ h _ _ (by omega) (by omega) d0 hd0 H locs hP hD hS ls (lv_sub hl [3, 4, 5, 6, 0] rfl)
          · replace h := fb_it c162 h
            refine lv_aload_n hx hb dL_law_695 rfl (lv_at hl 5 rfl) ?_
            refine lv_iconst (v := 0) hx hb dL_law_696 (by decide) ?_
            refine va_lald hx hb hK hP 9 1 rfl rfl (fb_ixin (by decide)) dL_law_697 ?_
            refine lv_iload hx hb dL_law_698 (lv_at hl 0 rfl) ?_
            refine lv_i2l hx hb dL_law_700 rfl ?_
            refine W.lcmp hx hb dL_law_701 ?_
            refine lv_if_eq (tgt := 707) hx hb dL_law_702 (by decide) (fun c163 => ?_) (fun c163 => ?_)
            · replace h := fb_it c163 h
              refine lv_goto (tgt := 1348) hx hb dL_law_707 (by decide) ?_
              refine lv_iinc (v := v4 + 4) (lv' := [(4, .int (v4 + 4)), (6, .int r157), (5, .int r154), (0, .ref b), (1, .ref h0), (2, .ref m0), (3, .ref qo)]) hx hb dL_law_1348 hl (k := 6) rfl rfl (by decide) rfl (fun ls hl => ?_)
              refine lv_goto (tgt := 23) hx hb dL_law_1351 (by decide) ?_
              refine W.widen (k := ce + 64) (n := sl + 1024) (by omega) (by omega) ?_
              subst hsd0
              exact ih _ _ _ _ _ _ _ _ _ _ _ _ _ _ h _ _ (by omega) (by omega) d0 hd0 H locs hP hD hS ls (lv_sub hl [3, 4, 5, 6, 0] rfl)
            · replace h := fb_ie c163 h
              refine lv_iconst (v := 0) hx hb dL_law_705 (by decide) ?_
              exact absurd (Option.some.inj h) (by decide)
        · replace h := fb_ie c161 h
          refine lv_iconst (v := 0) hx hb dL_law_688 (by decide) ?_
          exact absurd (Option.some.inj h) (by decide)
      replace h := fb_ie c4_9 h
      by_cases c4_10 : ((xs v4.toNatClampNeg) &&& 31) = 10
      · replace h := fb_it c4_10 h
        refine lv_tableIn (off := 671) (tgt := 710) hx hb dL_law_39 (by rw [c4_10]; decide) (by rw [c4_10]; decide) (by rw [c4_10]; rfl) (by decide) ?_
        refine lv_aload_n hx hb dL_law_710 rfl (lv_at hl 1 rfl) ?_
        refine lv_aload_n hx hb dL_law_711 rfl (lv_at hl 0 rfl) ?_
        refine lv_iload hx hb dL_law_712 (lv_at hl 4 rfl) ?_
        refine lv_iconst (v := 1) hx hb dL_law_714 (by decide) ?_
        refine lv_iadd hx hb dL_law_715 ?_
        obtain ⟨hi166, h⟩ := fb_cks h
        refine va_sld hx hb hX hbl hbA hS (fb_ixin hi166) dL_law_716 ?_
        refine lv_aload_n hx hb dL_law_717 rfl (lv_at hl 0 rfl) ?_
        refine lv_iload hx hb dL_law_718 (lv_at hl 4 rfl) ?_
        refine lv_iconst (v := 2) hx hb dL_law_720 (by decide) ?_
        refine lv_iadd hx hb dL_law_721 ?_
        obtain ⟨hi167, h⟩ := fb_cks h
        refine va_sld hx hb hX hbl hbA hS (fb_ixin hi167) dL_law_722 ?_
        refine lv_aload_n hx hb dL_law_723 rfl (lv_at hl 3 rfl) ?_
        obtain ⟨r169, ob_170, h168, h⟩ := fb_b2s h
        have hPc : va_P D vwCl (fb_wL cI cJ h0 qf qn qw ql qo sz mi fg nt wt wl ob) H := hP.sub [0, 1, 2, 3, 4, 9] rfl
        have hDc : va_D A (fb_wL cI cJ h0 qf qn qw ql qo sz mi fg nt wt wl ob) := hD.sub [0, 1, 2, 3, 4, 9] (by decide) rfl
        have hFc := va_free (wc := fb_wL cI cJ h0 qf qn qw ql qo sz mi fg nt wt wl ob) hD hS hA [0, 1, 2, 3, 4, 9] rfl
        refine fb_callM (vx_runSW (As := [.ref h0, .int (xs (v4 + 1).toNatClampNeg), .int (xs (v4 + 2).toNatClampNeg), .ref qo]) (rest := []) ⟨hx, hb, hml, hown, hts⟩ (metL_told l hfl D cI cJ h0 qf qn qw ql qo B0 sz mi fg nt wt wl ob (xs (v4 + 1).toNatClampNeg) (xs (v4 + 2).toNatClampNeg) H.size r169 ob_170 h168) (vx_cwSW 4 hts gL_law_L_told rfl rfl rfl (by decide +kernel) ⟨Nat.le_of_ble_eq_true rfl, Nat.le_of_ble_eq_true rfl⟩) (fb_preSM fb_sXTp hPc hK hDc hZT hS hAB hA _) rfl rfl hl.1 rfl (lv_room (Nat.le_of_ble_eq_true rfl)) dL_law_724 ⟨(show ce + 0 + 1 ≤ 793323 by omega), (show sl + 0 + 6 ≤ 6716136 by omega)⟩) hS (fun q _ h9 => hFc q h9) hFc (fun _ H1 locs hP1 hD1 hz1 hk1 hS => ?_)
        obtain ⟨hP, hD⟩ := va_join (wr := fb_wX1 cI m0 pn pf pw yth ych ynt yfg ywt ymi) (w1 := fb_wL cI cJ h0 qf qn qw ql qo sz mi fg nt wt wl ob_170) hP hD [0, 1, 2, 3, 4, 9] [5, 6, 7, 8] rfl rfl (by decide) (by decide) hk1 hFc hP1 hD1
        have hP : va_P D vwCl (fb_wX0 cI h0 qf qn qw ql sz mi fg nt wt wl ++ fb_wX1 cI m0 pn pf pw yth ych ynt yfg ywt ymi ++ [(qo, .inl (cJ, 1, .inr (.inl ob_170)))]) H1 := hP.sub [4, 5, 6, 7, 8, 0, 1, 2, 3, 9] rfl
        have hD : va_D A (fb_wX0 cI h0 qf qn qw ql sz mi fg nt wt wl ++ fb_wX1 cI m0 pn pf pw yth ych ynt yfg ywt ymi ++ [(qo, .inl (cJ, 1, .inr (.inl ob_170)))]) := hD.sub [4, 5, 6, 7, 8, 0, 1, 2, 3, 9] (by decide) rfl
        generalize H1 = H at hP hS
        refine lv_istore (lv' := [(5, .int r169), (0, .ref b), (1, .ref h0), (2, .ref m0), (3, .ref qo), (4, .int v4)]) hx hb dL_law_727 hl (by decide) rfl (fun ls hl => ?_)
        refine lv_aload_n hx hb dL_law_729 rfl (lv_at hl 3 rfl) ?_
        refine lv_aload_n hx hb dL_law_730 rfl (lv_at hl 1 rfl) ?_
        refine lv_iload hx hb dL_law_731 (lv_at hl 5 rfl) ?_
        refine lv_iconst (v := 1) hx hb dL_law_733 (by decide) ?_
        refine lv_iadd hx hb dL_law_734 ?_
        refine va_sld hx hb hX hbl hbA hS (fb_ixin hi166) dL_law_735 ?_
        refine lv_aload_n hx hb dL_law_736 rfl (lv_at hl 1 rfl) ?_
        refine lv_iload hx hb dL_law_737 (lv_at hl 5 rfl) ?_
        refine lv_iconst (v := 2) hx hb dL_law_739 (by decide) ?_
        refine lv_iadd hx hb dL_law_740 ?_
        refine va_sld hx hb hX hbl hbA hS (fb_ixin hi167) dL_law_741 ?_
        obtain ⟨r172, yth_173, h171, h⟩ := fb_b2s h
        have hPc : va_P D vwCl (fb_wX1 cI m0 pn pf pw yth ych ynt yfg ywt ymi) H := hP.sub [5, 6, 7, 8] rfl
        have hDc : va_D A (fb_wX1 cI m0 pn pf pw yth ych ynt yfg ywt ymi) := hD.sub [5, 6, 7, 8] (by decide) rfl
        have hFc := va_free (wc := fb_wX1 cI m0 pn pf pw yth ych ynt yfg ywt ymi) hD hS hA [5, 6, 7, 8] rfl
        refine fb_callM (va_runV (As := [.int (xs (v4 + 1).toNatClampNeg), .int (xs (v4 + 2).toNatClampNeg)]) (rest := []) ⟨hx, hb, hml, hown, hts⟩ (metX1_told l D cI m0 pn pf pw B0 yth ych ynt yfg ywt ymi (xs (v4 + 1).toNatClampNeg) (xs (v4 + 2).toNatClampNeg) H.size r172 yth_173 h171) (cwV 2 hts gL_law_X1_told rfl rfl rfl (by decide +kernel) ⟨Nat.le_of_ble_eq_true rfl, Nat.le_of_ble_eq_true rfl⟩) (fb_preVM (ci := 1) fb_sX1p hPc hK1 hDc hZY hS hAB hA rfl rfl _) rfl rfl hl.1 rfl (lv_room (Nat.le_of_ble_eq_true rfl)) dL_law_742 ⟨(show ce + 1 + 0 ≤ 793323 by omega), (show sl + 6 + 0 ≤ 6716136 by omega)⟩) hS (fun q _ h9 => hFc q h9) hFc (fun _ H1 locs hP1 hD1 hz1 hk1 hS => ?_)
        obtain ⟨hP, hD⟩ := va_join (wr := fb_wX0 cI h0 qf qn qw ql sz mi fg nt wt wl ++ [(qo, .inl (cJ, 1, .inr (.inl ob_170)))]) (w1 := fb_wX1 cI m0 pn pf pw yth_173 ych ynt yfg ywt ymi) hP hD [5, 6, 7, 8] [0, 1, 2, 3, 4, 9] rfl rfl (by decide) (by decide) hk1 hFc hP1 hD1
        have hP : va_P D vwCl (fb_wX0 cI h0 qf qn qw ql sz mi fg nt wt wl ++ fb_wX1 cI m0 pn pf pw yth_173 ych ynt yfg ywt ymi ++ [(qo, .inl (cJ, 1, .inr (.inl ob_170)))]) H1 := hP.sub [0, 1, 2, 3, 4, 6, 7, 8, 9, 5] rfl
        have hD : va_D A (fb_wX0 cI h0 qf qn qw ql sz mi fg nt wt wl ++ fb_wX1 cI m0 pn pf pw yth_173 ych ynt yfg ywt ymi ++ [(qo, .inl (cJ, 1, .inr (.inl ob_170)))]) := hD.sub [0, 1, 2, 3, 4, 6, 7, 8, 9, 5] (by decide) rfl
        generalize H1 = H at hP hS
        refine lv_istore (lv' := [(6, .int r172), (5, .int r169), (0, .ref b), (1, .ref h0), (2, .ref m0), (3, .ref qo), (4, .int v4)]) hx hb dL_law_745 hl (by decide) rfl (fun ls hl => ?_)
        refine lv_aload_n hx hb dL_law_747 rfl (lv_at hl 4 rfl) ?_
        obtain ⟨r175, h174, h⟩ := fb_b1s h
        have hPc : va_P D vwCl (fb_wX1 cI m0 pn pf pw yth_173 ych ynt yfg ywt ymi) H := hP.sub [5, 6, 7, 8] rfl
        refine fb_callR (W.runV (As := []) (rest := []) ⟨hx, hb, hml, hown, hts⟩ (metX1_thrown l D cI m0 pn pf pw B0 yth_173 ych ynt yfg ywt ymi  r175 h174) (cwV 0 hts gL_law_X1_thrown rfl rfl rfl (by decide +kernel) ⟨Nat.le_of_ble_eq_true rfl, Nat.le_of_ble_eq_true rfl⟩) (fb_preVR (ci := 1) fb_sX1p hPc hK1 hZY hS hAB rfl rfl _) rfl rfl hl.1 rfl (lv_room (Nat.le_of_ble_eq_true rfl)) dL_law_748 ⟨(show ce + 1 + 0 ≤ 793323 by omega), (show sl + 6 + 0 ≤ 6716136 by omega)⟩) ?_
        refine lv_iload hx hb dL_law_751 (lv_at hl 1 rfl) ?_
        refine lv_icmp_eq (tgt := 758) hx hb dL_law_753 (by decide) (fun c176 => ?_) (fun c176 => ?_)
        · replace h := fb_it c176 h
          refine lv_iload hx hb dL_law_758 (lv_at hl 1 rfl) ?_
          refine lv_if_ne (tgt := 775) hx hb dL_law_760 (by decide) (fun c177 => ?_) (fun c177 => ?_)
          · replace h := fb_ie c177 h
            refine lv_goto (tgt := 1348) hx hb dL_law_775 (by decide) ?_
            refine lv_iinc (v := v4 + 4) (lv' := [(4, .int (v4 + 4)), (6, .int r172), (5, .int r169), (0, .ref b), (1, .ref h0), (2, .ref m0), (3, .ref qo)]) hx hb dL_law_1348 hl (k := 6) rfl rfl (by decide) rfl (fun ls hl => ?_)
            refine lv_goto (tgt := 23) hx hb dL_law_1351 (by decide) ?_
            refine W.widen (k := ce + 64) (n := sl + 1024) (by omega) (by omega) ?_
            subst hsd0
            exact ih _ _ _ _ _ _ _ _ _ _ _ _ _ _ h _ _ (by omega) (by omega) d0 hd0 H locs hP hD hS ls (lv_sub hl [3, 4, 5, 6, 0] rfl)
          · replace h := fb_it c177 h
            refine lv_aload_n hx hb dL_law_763 rfl (lv_at hl 5 rfl) ?_
            refine lv_iconst (v := 0) hx hb dL_law_764 (by decide) ?_
            refine va_lald hx hb hK hP 9 1 rfl rfl (fb_ixin (by decide)) dL_law_765 ?_
            refine lv_iload hx hb dL_law_766 (lv_at hl 0 rfl) ?_
            refine lv_i2l hx hb dL_law_768 rfl ?_
            refine W.lcmp hx hb dL_law_769 ?_
            refine lv_if_eq (tgt := 775) hx hb dL_law_770 (by decide) (fun c178 => ?_) (fun c178 => ?_)
            · replace h := fb_it c178 h
              refine lv_goto (tgt := 1348) hx hb dL_law_775 (by decide) ?_
              refine lv_iinc (v := v4 + 4) (lv' := [(4, .int (v4 + 4)), (6, .int r172), (5, .int r169), (0, .ref b), (1, .ref h0), (2, .ref m0), (3, .ref qo)]) hx hb dL_law_1348 hl (k := 6) rfl rfl (by decide) rfl (fun ls hl => ?_)
              refine lv_goto (tgt := 23) hx hb dL_law_1351 (by decide) ?_
              refine W.widen (k := ce + 64) (n := sl + 1024) (by omega) (by omega) ?_
              subst hsd0
              exact ih _ _ _ _ _ _ _ _ _ _ _ _ _ _ h _ _ (by omega) (by omega) d0 hd0 H locs hP hD hS ls (lv_sub hl [3, 4, 5, 6, 0] rfl)
            · replace h := fb_ie c178 h
              refine lv_iconst (v := 0) hx hb dL_law_773 (by decide) ?_
              exact absurd (Option.some.inj h) (by decide)
        · replace h := fb_ie c176 h
          refine lv_iconst (v := 0) hx hb dL_law_756 (by decide) ?_
          exact absurd (Option.some.inj h) (by decide)
      replace h := fb_ie c4_10 h
      by_cases c4_11 : ((xs v4.toNatClampNeg) &&& 31) = 11
      · replace h := fb_it c4_11 h
        refine lv_tableIn (off := 739) (tgt := 778) hx hb dL_law_39 (by rw [c4_11]; decide) (by rw [c4_11]; decide) (by rw [c4_11]; rfl) (by decide) ?_
        refine lv_aload_n hx hb dL_law_778 rfl (lv_at hl 1 rfl) ?_
        refine lv_aload_n hx hb dL_law_779 rfl (lv_at hl 0 rfl) ?_
        refine lv_iload hx hb dL_law_780 (lv_at hl 4 rfl) ?_
        refine lv_iconst (v := 1) hx hb dL_law_782 (by decide) ?_
        refine lv_iadd hx hb dL_law_783 ?_
        obtain ⟨hi181, h⟩ := fb_cks h
        refine va_sld hx hb hX hbl hbA hS (fb_ixin hi181) dL_law_784 ?_
        refine lv_aload_n hx hb dL_law_785 rfl (lv_at hl 0 rfl) ?_
        refine lv_iload hx hb dL_law_786 (lv_at hl 4 rfl) ?_
        refine lv_iconst (v := 2) hx hb dL_law_788 (by decide) ?_
        refine lv_iadd hx hb dL_law_789 ?_
        obtain ⟨hi182, h⟩ := fb_cks h
        refine va_sld hx hb hX hbl hbA hS (fb_ixin hi182) dL_law_790 ?_
        refine lv_aload_n hx hb dL_law_791 rfl (lv_at hl 3 rfl) ?_
        obtain ⟨r184, ob_185, h183, h⟩ := fb_b2s h
        have hPc : va_P D vwCl (fb_wL cI cJ h0 qf qn qw ql qo sz mi fg nt wt wl ob) H := hP.sub [0, 1, 2, 3, 4, 9] rfl
        have hDc : va_D A (fb_wL cI cJ h0 qf qn qw ql qo sz mi fg nt wt wl ob) := hD.sub [0, 1, 2, 3, 4, 9] (by decide) rfl
        have hFc := va_free (wc := fb_wL cI cJ h0 qf qn qw ql qo sz mi fg nt wt wl ob) hD hS hA [0, 1, 2, 3, 4, 9] rfl
        refine fb_callM (vx_runSW (As := [.ref h0, .int (xs (v4 + 1).toNatClampNeg), .int (xs (v4 + 2).toNatClampNeg), .ref qo]) (rest := []) ⟨hx, hb, hml, hown, hts⟩ (metL_faults l hfl D cI cJ h0 qf qn qw ql qo B0 sz mi fg nt wt wl ob (xs (v4 + 1).toNatClampNeg) (xs (v4 + 2).toNatClampNeg) H.size r184 ob_185 h183) (vx_cwSW 4 hts gL_law_L_faults rfl rfl rfl (by decide +kernel) ⟨Nat.le_of_ble_eq_true rfl, Nat.le_of_ble_eq_true rfl⟩) (fb_preSM fb_sXTp hPc hK hDc hZT hS hAB hA _) rfl rfl hl.1 rfl (lv_room (Nat.le_of_ble_eq_true rfl)) dL_law_792 ⟨(show ce + 0 + 1 ≤ 793323 by omega), (show sl + 0 + 6 ≤ 6716136 by omega)⟩) hS (fun q _ h9 => hFc q h9) hFc (fun _ H1 locs hP1 hD1 hz1 hk1 hS => ?_)
        obtain ⟨hP, hD⟩ := va_join (wr := fb_wX1 cI m0 pn pf pw yth ych ynt yfg ywt ymi) (w1 := fb_wL cI cJ h0 qf qn qw ql qo sz mi fg nt wt wl ob_185) hP hD [0, 1, 2, 3, 4, 9] [5, 6, 7, 8] rfl rfl (by decide) (by decide) hk1 hFc hP1 hD1
        have hP : va_P D vwCl (fb_wX0 cI h0 qf qn qw ql sz mi fg nt wt wl ++ fb_wX1 cI m0 pn pf pw yth ych ynt yfg ywt ymi ++ [(qo, .inl (cJ, 1, .inr (.inl ob_185)))]) H1 := hP.sub [4, 5, 6, 7, 8, 0, 1, 2, 3, 9] rfl
        have hD : va_D A (fb_wX0 cI h0 qf qn qw ql sz mi fg nt wt wl ++ fb_wX1 cI m0 pn pf pw yth ych ynt yfg ywt ymi ++ [(qo, .inl (cJ, 1, .inr (.inl ob_185)))]) := hD.sub [4, 5, 6, 7, 8, 0, 1, 2, 3, 9] (by decide) rfl
        generalize H1 = H at hP hS
        refine lv_istore (lv' := [(5, .int r184), (0, .ref b), (1, .ref h0), (2, .ref m0), (3, .ref qo), (4, .int v4)]) hx hb dL_law_795 hl (by decide) rfl (fun ls hl => ?_)
        refine lv_aload_n hx hb dL_law_797 rfl (lv_at hl 3 rfl) ?_
        refine lv_aload_n hx hb dL_law_798 rfl (lv_at hl 1 rfl) ?_
        refine lv_iload hx hb dL_law_799 (lv_at hl 5 rfl) ?_
        refine lv_iconst (v := 1) hx hb dL_law_801 (by decide) ?_
        refine lv_iadd hx hb dL_law_802 ?_
        refine va_sld hx hb hX hbl hbA hS (fb_ixin hi181) dL_law_803 ?_
        refine lv_aload_n hx hb dL_law_804 rfl (lv_at hl 1 rfl) ?_
        refine lv_iload hx hb dL_law_805 (lv_at hl 5 rfl) ?_
        refine lv_iconst (v := 2) hx hb dL_law_807 (by decide) ?_
        refine lv_iadd hx hb dL_law_808 ?_
        refine va_sld hx hb hX hbl hbA hS (fb_ixin hi182) dL_law_809 ?_
        obtain ⟨r187, yth_188, h186, h⟩ := fb_b2s h
        have hPc : va_P D vwCl (fb_wX1 cI m0 pn pf pw yth ych ynt yfg ywt ymi) H := hP.sub [5, 6, 7, 8] rfl
        have hDc : va_D A (fb_wX1 cI m0 pn pf pw yth ych ynt yfg ywt ymi) := hD.sub [5, 6, 7, 8] (by decide) rfl
        have hFc := va_free (wc := fb_wX1 cI m0 pn pf pw yth ych ynt yfg ywt ymi) hD hS hA [5, 6, 7, 8] rfl
        refine fb_callM (va_runV (As := [.int (xs (v4 + 1).toNatClampNeg), .int (xs (v4 + 2).toNatClampNeg)]) (rest := []) ⟨hx, hb, hml, hown, hts⟩ (metX1_faults l D cI m0 pn pf pw B0 yth ych ynt yfg ywt ymi (xs (v4 + 1).toNatClampNeg) (xs (v4 + 2).toNatClampNeg) H.size r187 yth_188 h186) (cwV 2 hts gL_law_X1_faults rfl rfl rfl (by decide +kernel) ⟨Nat.le_of_ble_eq_true rfl, Nat.le_of_ble_eq_true rfl⟩) (fb_preVM (ci := 1) fb_sX1p hPc hK1 hDc hZY hS hAB hA rfl rfl _) rfl rfl hl.1 rfl (lv_room (Nat.le_of_ble_eq_true rfl)) dL_law_810 ⟨(show ce + 1 + 0 ≤ 793323 by omega), (show sl + 6 + 0 ≤ 6716136 by omega)⟩) hS (fun q _ h9 => hFc q h9) hFc (fun _ H1 locs hP1 hD1 hz1 hk1 hS => ?_)
        obtain ⟨hP, hD⟩ := va_join (wr := fb_wX0 cI h0 qf qn qw ql sz mi fg nt wt wl ++ [(qo, .inl (cJ, 1, .inr (.inl ob_185)))]) (w1 := fb_wX1 cI m0 pn pf pw yth_188 ych ynt yfg ywt ymi) hP hD [5, 6, 7, 8] [0, 1, 2, 3, 4, 9] rfl rfl (by decide) (by decide) hk1 hFc hP1 hD1
        have hP : va_P D vwCl (fb_wX0 cI h0 qf qn qw ql sz mi fg nt wt wl ++ fb_wX1 cI m0 pn pf pw yth_188 ych ynt yfg ywt ymi ++ [(qo, .inl (cJ, 1, .inr (.inl ob_185)))]) H1 := hP.sub [0, 1, 2, 3, 4, 6, 7, 8, 9, 5] rfl
        have hD : va_D A (fb_wX0 cI h0 qf qn qw ql sz mi fg nt wt wl ++ fb_wX1 cI m0 pn pf pw yth_188 ych ynt yfg ywt ymi ++ [(qo, .inl (cJ, 1, .inr (.inl ob_185)))]) := hD.sub [0, 1, 2, 3, 4, 6, 7, 8, 9, 5] (by decide) rfl
        generalize H1 = H at hP hS
        refine lv_istore (lv' := [(6, .int r187), (5, .int r184), (0, .ref b), (1, .ref h0), (2, .ref m0), (3, .ref qo), (4, .int v4)]) hx hb dL_law_813 hl (by decide) rfl (fun ls hl => ?_)
        refine lv_aload_n hx hb dL_law_815 rfl (lv_at hl 4 rfl) ?_
        obtain ⟨r190, h189, h⟩ := fb_b1s h
        have hPc : va_P D vwCl (fb_wX1 cI m0 pn pf pw yth_188 ych ynt yfg ywt ymi) H := hP.sub [5, 6, 7, 8] rfl
        refine fb_callR (W.runV (As := []) (rest := []) ⟨hx, hb, hml, hown, hts⟩ (metX1_thrown l D cI m0 pn pf pw B0 yth_188 ych ynt yfg ywt ymi  r190 h189) (cwV 0 hts gL_law_X1_thrown rfl rfl rfl (by decide +kernel) ⟨Nat.le_of_ble_eq_true rfl, Nat.le_of_ble_eq_true rfl⟩) (fb_preVR (ci := 1) fb_sX1p hPc hK1 hZY hS hAB rfl rfl _) rfl rfl hl.1 rfl (lv_room (Nat.le_of_ble_eq_true rfl)) dL_law_816 ⟨(show ce + 1 + 0 ≤ 793323 by omega), (show sl + 6 + 0 ≤ 6716136 by omega)⟩) ?_
        refine lv_iload hx hb dL_law_819 (lv_at hl 1 rfl) ?_
        refine lv_icmp_eq (tgt := 826) hx hb dL_law_821 (by decide) (fun c191 => ?_) (fun c191 => ?_)
        · replace h := fb_it c191 h
          refine lv_iload hx hb dL_law_826 (lv_at hl 1 rfl) ?_
          refine lv_if_ne (tgt := 843) hx hb dL_law_828 (by decide) (fun c192 => ?_) (fun c192 => ?_)
          · replace h := fb_ie c192 h
            refine lv_goto (tgt := 1348) hx hb dL_law_843 (by decide) ?_
            refine lv_iinc (v := v4 + 4) (lv' := [(4, .int (v4 + 4)), (6, .int r187), (5, .int r184), (0, .ref b), (1, .ref h0), (2, .ref m0), (3, .ref qo)]) hx hb dL_law_1348 hl (k := 6) rfl rfl (by decide) rfl (fun ls hl => ?_)
            refine lv_goto (tgt := 23) hx hb dL_law_1351 (by decide) ?_
            refine W.widen (k := ce + 64) (n := sl + 1024) (by omega) (by omega) ?_
            subst hsd0
            exact ih _ _ _ _ _ _ _ _ _ _ _ _ _ _ h _ _ (by omega) (by omega) d0 hd0 H locs hP hD hS ls (lv_sub hl [3, 4, 5, 6, 0] rfl)
          · replace h := fb_it c192 h
            refine lv_aload_n hx hb dL_law_831 rfl (lv_at hl 5 rfl) ?_
            refine lv_iconst (v := 0) hx hb dL_law_832 (by decide) ?_
            refine va_lald hx hb hK hP 9 1 rfl rfl (fb_ixin (by decide)) dL_law_833 ?_
            refine lv_iload hx hb dL_law_834 (lv_at hl 0 rfl) ?_
            refine lv_i2l hx hb dL_law_836 rfl ?_
            refine W.lcmp hx hb dL_law_837 ?_
            refine lv_if_eq (tgt := 843) hx hb dL_law_838 (by decide) (fun c193 => ?_) (fun c193 => ?_)
            · replace h := fb_it c193 h
              refine lv_goto (tgt := 1348) hx hb dL_law_843 (by decide) ?_
              refine lv_iinc (v := v4 + 4) (lv' := [(4, .int (v4 + 4)), (6, .int r187), (5, .int r184), (0, .ref b), (1, .ref h0), (2, .ref m0), (3, .ref qo)]) hx hb dL_law_1348 hl (k := 6) rfl rfl (by decide) rfl (fun ls hl => ?_)
              refine lv_goto (tgt := 23) hx hb dL_law_1351 (by decide) ?_
              refine W.widen (k := ce + 64) (n := sl + 1024) (by omega) (by omega) ?_
              subst hsd0
              exact ih _ _ _ _ _ _ _ _ _ _ _ _ _ _ h _ _ (by omega) (by omega) d0 hd0 H locs hP hD hS ls (lv_sub hl [3, 4, 5, 6, 0] rfl)
            · replace h := fb_ie c193 h
              refine lv_iconst (v := 0) hx hb dL_law_841 (by decide) ?_
              exact absurd (Option.some.inj h) (by decide)
        · replace h := fb_ie c191 h
          refine lv_iconst (v := 0) hx hb dL_law_824 (by decide) ?_
          exact absurd (Option.some.inj h) (by decide)
      replace h := fb_ie c4_11 h
      by_cases c4_12 : ((xs v4.toNatClampNeg) &&& 31) = 12
      · replace h := fb_it c4_12 h
        refine lv_tableIn (off := 807) (tgt := 846) hx hb dL_law_39 (by rw [c4_12]; decide) (by rw [c4_12]; decide) (by rw [c4_12]; rfl) (by decide) ?_
        refine lv_aload_n hx hb dL_law_846 rfl (lv_at hl 1 rfl) ?_
        refine lv_aload_n hx hb dL_law_847 rfl (lv_at hl 0 rfl) ?_
        refine lv_iload hx hb dL_law_848 (lv_at hl 4 rfl) ?_
        refine lv_iconst (v := 1) hx hb dL_law_850 (by decide) ?_
        refine lv_iadd hx hb dL_law_851 ?_
        obtain ⟨hi196, h⟩ := fb_cks h
        refine va_sld hx hb hX hbl hbA hS (fb_ixin hi196) dL_law_852 ?_
        refine lv_aload_n hx hb dL_law_853 rfl (lv_at hl 3 rfl) ?_
        obtain ⟨r198, ob_199, h197, h⟩ := fb_b2s h
        have hPc : va_P D vwCl (fb_wL cI cJ h0 qf qn qw ql qo sz mi fg nt wt wl ob) H := hP.sub [0, 1, 2, 3, 4, 9] rfl
        have hDc : va_D A (fb_wL cI cJ h0 qf qn qw ql qo sz mi fg nt wt wl ob) := hD.sub [0, 1, 2, 3, 4, 9] (by decide) rfl
        have hFc := va_free (wc := fb_wL cI cJ h0 qf qn qw ql qo sz mi fg nt wt wl ob) hD hS hA [0, 1, 2, 3, 4, 9] rfl
        refine fb_callM (vx_runSW (As := [.ref h0, .int (xs (v4 + 1).toNatClampNeg), .ref qo]) (rest := []) ⟨hx, hb, hml, hown, hts⟩ (metL_count l hfl D cI cJ h0 qf qn qw ql qo B0 sz mi fg nt wt wl ob (xs (v4 + 1).toNatClampNeg) H.size r198 ob_199 h197) (vx_cwSW 3 hts gL_law_L_count rfl rfl rfl (by decide +kernel) ⟨Nat.le_of_ble_eq_true rfl, Nat.le_of_ble_eq_true rfl⟩) (fb_preSM fb_sXTp hPc hK hDc hZT hS hAB hA _) rfl rfl hl.1 rfl (lv_room (Nat.le_of_ble_eq_true rfl)) dL_law_854 ⟨(show ce + 0 + 1 ≤ 793323 by omega), (show sl + 0 + 6 ≤ 6716136 by omega)⟩) hS (fun q _ h9 => hFc q h9) hFc (fun _ H1 locs hP1 hD1 hz1 hk1 hS => ?_)
        obtain ⟨hP, hD⟩ := va_join (wr := fb_wX1 cI m0 pn pf pw yth ych ynt yfg ywt ymi) (w1 := fb_wL cI cJ h0 qf qn qw ql qo sz mi fg nt wt wl ob_199) hP hD [0, 1, 2, 3, 4, 9] [5, 6, 7, 8] rfl rfl (by decide) (by decide) hk1 hFc hP1 hD1
        have hP : va_P D vwCl (fb_wX0 cI h0 qf qn qw ql sz mi fg nt wt wl ++ fb_wX1 cI m0 pn pf pw yth ych ynt yfg ywt ymi ++ [(qo, .inl (cJ, 1, .inr (.inl ob_199)))]) H1 := hP.sub [4, 5, 6, 7, 8, 0, 1, 2, 3, 9] rfl
        have hD : va_D A (fb_wX0 cI h0 qf qn qw ql sz mi fg nt wt wl ++ fb_wX1 cI m0 pn pf pw yth ych ynt yfg ywt ymi ++ [(qo, .inl (cJ, 1, .inr (.inl ob_199)))]) := hD.sub [4, 5, 6, 7, 8, 0, 1, 2, 3, 9] (by decide) rfl
        generalize H1 = H at hP hS
        refine lv_istore (lv' := [(5, .int r198), (0, .ref b), (1, .ref h0), (2, .ref m0), (3, .ref qo), (4, .int v4)]) hx hb dL_law_857 hl (by decide) rfl (fun ls hl => ?_)
        refine lv_aload_n hx hb dL_law_859 rfl (lv_at hl 3 rfl) ?_
        refine lv_aload_n hx hb dL_law_860 rfl (lv_at hl 1 rfl) ?_
        refine lv_iload hx hb dL_law_861 (lv_at hl 5 rfl) ?_
        refine lv_iconst (v := 1) hx hb dL_law_863 (by decide) ?_
        refine lv_iadd hx hb dL_law_864 ?_
        refine va_sld hx hb hX hbl hbA hS (fb_ixin hi196) dL_law_865 ?_
        obtain ⟨r201, yth_202, h200, h⟩ := fb_b2s h
        have hPc : va_P D vwCl (fb_wX1 cI m0 pn pf pw yth ych ynt yfg ywt ymi) H := hP.sub [5, 6, 7, 8] rfl
        have hDc : va_D A (fb_wX1 cI m0 pn pf pw yth ych ynt yfg ywt ymi) := hD.sub [5, 6, 7, 8] (by decide) rfl
        have hFc := va_free (wc := fb_wX1 cI m0 pn pf pw yth ych ynt yfg ywt ymi) hD hS hA [5, 6, 7, 8] rfl
        refine fb_callM (va_runV (As := [.int (xs (v4 + 1).toNatClampNeg)]) (rest := []) ⟨hx, hb, hml, hown, hts⟩ (metX1_count l D cI m0 pn pf pw B0 yth ych ynt yfg ywt ymi (xs (v4 + 1).toNatClampNeg) H.size r201 yth_202 h200) (cwV 1 hts gL_law_X1_count rfl rfl rfl (by decide +kernel) ⟨Nat.le_of_ble_eq_true rfl, Nat.le_of_ble_eq_true rfl⟩) (fb_preVM (ci := 1) fb_sX1p hPc hK1 hDc hZY hS hAB hA rfl rfl _) rfl rfl hl.1 rfl (lv_room (Nat.le_of_ble_eq_true rfl)) dL_law_866 ⟨(show ce + 1 + 0 ≤ 793323 by omega), (show sl + 6 + 0 ≤ 6716136 by omega)⟩) hS (fun q _ h9 => hFc q h9) hFc (fun _ H1 locs hP1 hD1 hz1 hk1 hS => ?_)
        obtain ⟨hP, hD⟩ := va_join (wr := fb_wX0 cI h0 qf qn qw ql sz mi fg nt wt wl ++ [(qo, .inl (cJ, 1, .inr (.inl ob_199)))]) (w1 := fb_wX1 cI m0 pn pf pw yth_202 ych ynt yfg ywt ymi) hP hD [5, 6, 7, 8] [0, 1, 2, 3, 4, 9] rfl rfl (by decide) (by decide) hk1 hFc hP1 hD1
        have hP : va_P D vwCl (fb_wX0 cI h0 qf qn qw ql sz mi fg nt wt wl ++ fb_wX1 cI m0 pn pf pw yth_202 ych ynt yfg ywt ymi ++ [(qo, .inl (cJ, 1, .inr (.inl ob_199)))]) H1 := hP.sub [0, 1, 2, 3, 4, 6, 7, 8, 9, 5] rfl
        have hD : va_D A (fb_wX0 cI h0 qf qn qw ql sz mi fg nt wt wl ++ fb_wX1 cI m0 pn pf pw yth_202 ych ynt yfg ywt ymi ++ [(qo, .inl (cJ, 1, .inr (.inl ob_199)))]) := hD.sub [0, 1, 2, 3, 4, 6, 7, 8, 9, 5] (by decide) rfl
        generalize H1 = H at hP hS
        refine lv_istore (lv' := [(6, .int r201), (5, .int r198), (0, .ref b), (1, .ref h0), (2, .ref m0), (3, .ref qo), (4, .int v4)]) hx hb dL_law_869 hl (by decide) rfl (fun ls hl => ?_)
        refine lv_aload_n hx hb dL_law_871 rfl (lv_at hl 4 rfl) ?_
        obtain ⟨r204, h203, h⟩ := fb_b1s h
        have hPc : va_P D vwCl (fb_wX1 cI m0 pn pf pw yth_202 ych ynt yfg ywt ymi) H := hP.sub [5, 6, 7, 8] rfl
        refine fb_callR (W.runV (As := []) (rest := []) ⟨hx, hb, hml, hown, hts⟩ (metX1_thrown l D cI m0 pn pf pw B0 yth_202 ych ynt yfg ywt ymi  r204 h203) (cwV 0 hts gL_law_X1_thrown rfl rfl rfl (by decide +kernel) ⟨Nat.le_of_ble_eq_true rfl, Nat.le_of_ble_eq_true rfl⟩) (fb_preVR (ci := 1) fb_sX1p hPc hK1 hZY hS hAB rfl rfl _) rfl rfl hl.1 rfl (lv_room (Nat.le_of_ble_eq_true rfl)) dL_law_872 ⟨(show ce + 1 + 0 ≤ 793323 by omega), (show sl + 6 + 0 ≤ 6716136 by omega)⟩) ?_
        refine lv_iload hx hb dL_law_875 (lv_at hl 1 rfl) ?_
        refine lv_icmp_eq (tgt := 882) hx hb dL_law_877 (by decide) (fun c205 => ?_) (fun c205 => ?_)
        · replace h := fb_it c205 h
          refine lv_iload hx hb dL_law_882 (lv_at hl 1 rfl) ?_
          refine lv_if_ne (tgt := 899) hx hb dL_law_884 (by decide) (fun c206 => ?_) (fun c206 => ?_)
          · replace h := fb_ie c206 h
            refine lv_goto (tgt := 1348) hx hb dL_law_899 (by decide) ?_
            refine lv_iinc (v := v4 + 4) (lv' := [(4, .int (v4 + 4)), (6, .int r201), (5, .int r198), (0, .ref b), (1, .ref h0), (2, .ref m0), (3, .ref qo)]) hx hb dL_law_1348 hl (k := 6) rfl rfl (by decide) rfl (fun ls hl => ?_)
            refine lv_goto (tgt := 23) hx hb dL_law_1351 (by decide) ?_
            refine W.widen (k := ce + 64) (n := sl + 1024) (by omega) (by omega) ?_
            subst hsd0
            exact ih _ _ _ _ _ _ _ _ _ _ _ _ _ _ h _ _ (by omega) (by omega) d0 hd0 H locs hP hD hS ls (lv_sub hl [3, 4, 5, 6, 0] rfl)
          · replace h := fb_it c206 h
            refine lv_aload_n hx hb dL_law_887 rfl (lv_at hl 5 rfl) ?_
            refine lv_iconst (v := 0) hx hb dL_law_888 (by decide) ?_
            refine va_lald hx hb hK hP 9 1 rfl rfl (fb_ixin (by decide)) dL_law_889 ?_
            refine lv_iload hx hb dL_law_890 (lv_at hl 0 rfl) ?_
            refine lv_i2l hx hb dL_law_892 rfl ?_
            refine W.lcmp hx hb dL_law_893 ?_
            refine lv_if_eq (tgt := 899) hx hb dL_law_894 (by decide) (fun c207 => ?_) (fun c207 => ?_)
            · replace h := fb_it c207 h
              refine lv_goto (tgt := 1348) hx hb dL_law_899 (by decide) ?_
              refine lv_iinc (v := v4 + 4) (lv' := [(4, .int (v4 + 4)), (6, .int r201), (5, .int r198), (0, .ref b), (1, .ref h0), (2, .ref m0), (3, .ref qo)]) hx hb dL_law_1348 hl (k := 6) rfl rfl (by decide) rfl (fun ls hl => ?_)
              refine lv_goto (tgt := 23) hx hb dL_law_1351 (by decide) ?_
              refine W.widen (k := ce + 64) (n := sl + 1024) (by omega) (by omega) ?_
              subst hsd0
              exact ih _ _ _ _ _ _ _ _ _ _ _ _ _ _ h _ _ (by omega) (by omega) d0 hd0 H locs hP hD hS ls (lv_sub hl [3, 4, 5, 6, 0] rfl)
            · replace h := fb_ie c207 h
              refine lv_iconst (v := 0) hx hb dL_law_897 (by decide) ?_
              exact absurd (Option.some.inj h) (by decide)
        · replace h := fb_ie c205 h
          refine lv_iconst (v := 0) hx hb dL_law_880 (by decide) ?_
          exact absurd (Option.some.inj h) (by decide)
      replace h := fb_ie c4_12 h
      by_cases c4_13 : ((xs v4.toNatClampNeg) &&& 31) = 13
      · replace h := fb_it c4_13 h
        refine lv_tableIn (off := 863) (tgt := 902) hx hb dL_law_39 (by rw [c4_13]; decide) (by rw [c4_13]; decide) (by rw [c4_13]; rfl) (by decide) ?_
        refine lv_aload_n hx hb dL_law_902 rfl (lv_at hl 1 rfl) ?_
        refine lv_aload_n hx hb dL_law_903 rfl (lv_at hl 0 rfl) ?_
        refine lv_iload hx hb dL_law_904 (lv_at hl 4 rfl) ?_
        refine lv_iconst (v := 1) hx hb dL_law_906 (by decide) ?_
        refine lv_iadd hx hb dL_law_907 ?_
        obtain ⟨hi210, h⟩ := fb_cks h
        refine va_sld hx hb hX hbl hbA hS (fb_ixin hi210) dL_law_908 ?_
        refine lv_aload_n hx hb dL_law_909 rfl (lv_at hl 3 rfl) ?_
        obtain ⟨r212, ob_213, h211, h⟩ := fb_b2s h
        have hPc : va_P D vwCl (fb_wL cI cJ h0 qf qn qw ql qo sz mi fg nt wt wl ob) H := hP.sub [0, 1, 2, 3, 4, 9] rfl
        have hDc : va_D A (fb_wL cI cJ h0 qf qn qw ql qo sz mi fg nt wt wl ob) := hD.sub [0, 1, 2, 3, 4, 9] (by decide) rfl
        have hFc := va_free (wc := fb_wL cI cJ h0 qf qn qw ql qo sz mi fg nt wt wl ob) hD hS hA [0, 1, 2, 3, 4, 9] rfl
        refine fb_callM (vx_runSW (As := [.ref h0, .int (xs (v4 + 1).toNatClampNeg), .ref qo]) (rest := []) ⟨hx, hb, hml, hown, hts⟩ (metL_pitch l hfl D cI cJ h0 qf qn qw ql qo B0 sz mi fg nt wt wl ob (xs (v4 + 1).toNatClampNeg) H.size r212 ob_213 h211) (vx_cwSW 3 hts gL_law_L_pitch rfl rfl rfl (by decide +kernel) ⟨Nat.le_of_ble_eq_true rfl, Nat.le_of_ble_eq_true rfl⟩) (fb_preSM fb_sXTp hPc hK hDc hZT hS hAB hA _) rfl rfl hl.1 rfl (lv_room (Nat.le_of_ble_eq_true rfl)) dL_law_910 ⟨(show ce + 0 + 1 ≤ 793323 by omega), (show sl + 0 + 6 ≤ 6716136 by omega)⟩) hS (fun q _ h9 => hFc q h9) hFc (fun _ H1 locs hP1 hD1 hz1 hk1 hS => ?_)
        obtain ⟨hP, hD⟩ := va_join (wr := fb_wX1 cI m0 pn pf pw yth ych ynt yfg ywt ymi) (w1 := fb_wL cI cJ h0 qf qn qw ql qo sz mi fg nt wt wl ob_213) hP hD [0, 1, 2, 3, 4, 9] [5, 6, 7, 8] rfl rfl (by decide) (by decide) hk1 hFc hP1 hD1
        have hP : va_P D vwCl (fb_wX0 cI h0 qf qn qw ql sz mi fg nt wt wl ++ fb_wX1 cI m0 pn pf pw yth ych ynt yfg ywt ymi ++ [(qo, .inl (cJ, 1, .inr (.inl ob_213)))]) H1 := hP.sub [4, 5, 6, 7, 8, 0, 1, 2, 3, 9] rfl
        have hD : va_D A (fb_wX0 cI h0 qf qn qw ql sz mi fg nt wt wl ++ fb_wX1 cI m0 pn pf pw yth ych ynt yfg ywt ymi ++ [(qo, .inl (cJ, 1, .inr (.inl ob_213)))]) := hD.sub [4, 5, 6, 7, 8, 0, 1, 2, 3, 9] (by decide) rfl
        generalize H1 = H at hP hS
        refine lv_istore (lv' := [(5, .int r212), (0, .ref b), (1, .ref h0), (2, .ref m0), (3, .ref qo), (4, .int v4)]) hx hb dL_law_913 hl (by decide) rfl (fun ls hl => ?_)
        refine lv_aload_n hx hb dL_law_915 rfl (lv_at hl 3 rfl) ?_
        refine lv_aload_n hx hb dL_law_916 rfl (lv_at hl 1 rfl) ?_
        refine lv_iload hx hb dL_law_917 (lv_at hl 5 rfl) ?_
        refine lv_iconst (v := 1) hx hb dL_law_919 (by decide) ?_
        refine lv_iadd hx hb dL_law_920 ?_
        refine va_sld hx hb hX hbl hbA hS (fb_ixin hi210) dL_law_921 ?_
        obtain ⟨r215, yth_216, h214, h⟩ := fb_b2s h
        have hPc : va_P D vwCl (fb_wX1 cI m0 pn pf pw yth ych ynt yfg ywt ymi) H := hP.sub [5, 6, 7, 8] rfl
        have hDc : va_D A (fb_wX1 cI m0 pn pf pw yth ych ynt yfg ywt ymi) := hD.sub [5, 6, 7, 8] (by decide) rfl
        have hFc := va_free (wc := fb_wX1 cI m0 pn pf pw yth ych ynt yfg ywt ymi) hD hS hA [5, 6, 7, 8] rfl
        refine fb_callM (va_runV (As := [.int (xs (v4 + 1).toNatClampNeg)]) (rest := []) ⟨hx, hb, hml, hown, hts⟩ (metX1_pitch l D cI m0 pn pf pw B0 yth ych ynt yfg ywt ymi (xs (v4 + 1).toNatClampNeg) H.size r215 yth_216 h214) (cwV 1 hts gL_law_X1_pitch rfl rfl rfl (by decide +kernel) ⟨Nat.le_of_ble_eq_true rfl, Nat.le_of_ble_eq_true rfl⟩) (fb_preVM (ci := 1) fb_sX1p hPc hK1 hDc hZY hS hAB hA rfl rfl _) rfl rfl hl.1 rfl (lv_room (Nat.le_of_ble_eq_true rfl)) dL_law_922 ⟨(show ce + 1 + 0 ≤ 793323 by omega), (show sl + 6 + 0 ≤ 6716136 by omega)⟩) hS (fun q _ h9 => hFc q h9) hFc (fun _ H1 locs hP1 hD1 hz1 hk1 hS => ?_)
        obtain ⟨hP, hD⟩ := va_join (wr := fb_wX0 cI h0 qf qn qw ql sz mi fg nt wt wl ++ [(qo, .inl (cJ, 1, .inr (.inl ob_213)))]) (w1 := fb_wX1 cI m0 pn pf pw yth_216 ych ynt yfg ywt ymi) hP hD [5, 6, 7, 8] [0, 1, 2, 3, 4, 9] rfl rfl (by decide) (by decide) hk1 hFc hP1 hD1
        have hP : va_P D vwCl (fb_wX0 cI h0 qf qn qw ql sz mi fg nt wt wl ++ fb_wX1 cI m0 pn pf pw yth_216 ych ynt yfg ywt ymi ++ [(qo, .inl (cJ, 1, .inr (.inl ob_213)))]) H1 := hP.sub [0, 1, 2, 3, 4, 6, 7, 8, 9, 5] rfl
        have hD : va_D A (fb_wX0 cI h0 qf qn qw ql sz mi fg nt wt wl ++ fb_wX1 cI m0 pn pf pw yth_216 ych ynt yfg ywt ymi ++ [(qo, .inl (cJ, 1, .inr (.inl ob_213)))]) := hD.sub [0, 1, 2, 3, 4, 6, 7, 8, 9, 5] (by decide) rfl
        generalize H1 = H at hP hS
        refine lv_istore (lv' := [(6, .int r215), (5, .int r212), (0, .ref b), (1, .ref h0), (2, .ref m0), (3, .ref qo), (4, .int v4)]) hx hb dL_law_925 hl (by decide) rfl (fun ls hl => ?_)
        refine lv_aload_n hx hb dL_law_927 rfl (lv_at hl 4 rfl) ?_
        obtain ⟨r218, h217, h⟩ := fb_b1s h
        have hPc : va_P D vwCl (fb_wX1 cI m0 pn pf pw yth_216 ych ynt yfg ywt ymi) H := hP.sub [5, 6, 7, 8] rfl
        refine fb_callR (W.runV (As := []) (rest := []) ⟨hx, hb, hml, hown, hts⟩ (metX1_thrown l D cI m0 pn pf pw B0 yth_216 ych ynt yfg ywt ymi  r218 h217) (cwV 0 hts gL_law_X1_thrown rfl rfl rfl (by decide +kernel) ⟨Nat.le_of_ble_eq_true rfl, Nat.le_of_ble_eq_true rfl⟩) (fb_preVR (ci := 1) fb_sX1p hPc hK1 hZY hS hAB rfl rfl _) rfl rfl hl.1 rfl (lv_room (Nat.le_of_ble_eq_true rfl)) dL_law_928 ⟨(show ce + 1 + 0 ≤ 793323 by omega), (show sl + 6 + 0 ≤ 6716136 by omega)⟩) ?_
        refine lv_iload hx hb dL_law_931 (lv_at hl 1 rfl) ?_
        refine lv_icmp_eq (tgt := 938) hx hb dL_law_933 (by decide) (fun c219 => ?_) (fun c219 => ?_)
        · replace h := fb_it c219 h
          refine lv_iload hx hb dL_law_938 (lv_at hl 1 rfl) ?_
          refine lv_if_ne (tgt := 955) hx hb dL_law_940 (by decide) (fun c220 => ?_) (fun c220 => ?_)
          · replace h := fb_ie c220 h
            refine lv_goto (tgt := 1348) hx hb dL_law_955 (by decide) ?_
            refine lv_iinc (v := v4 + 4) (lv' := [(4, .int (v4 + 4)), (6, .int r215), (5, .int r212), (0, .ref b), (1, .ref h0), (2, .ref m0), (3, .ref qo)]) hx hb dL_law_1348 hl (k := 6) rfl rfl (by decide) rfl (fun ls hl => ?_)
            refine lv_goto (tgt := 23) hx hb dL_law_1351 (by decide) ?_
            refine W.widen (k := ce + 64) (n := sl + 1024) (by omega) (by omega) ?_
            subst hsd0
            exact ih _ _ _ _ _ _ _ _ _ _ _ _ _ _ h _ _ (by omega) (by omega) d0 hd0 H locs hP hD hS ls (lv_sub hl [3, 4, 5, 6, 0] rfl)
          · replace h := fb_it c220 h
            refine lv_aload_n hx hb dL_law_943 rfl (lv_at hl 5 rfl) ?_
            refine lv_iconst (v := 0) hx hb dL_law_944 (by decide) ?_
            refine va_lald hx hb hK hP 9 1 rfl rfl (fb_ixin (by decide)) dL_law_945 ?_
            refine lv_iload hx hb dL_law_946 (lv_at hl 0 rfl) ?_
            refine lv_i2l hx hb dL_law_948 rfl ?_
            refine W.lcmp hx hb dL_law_949 ?_
            refine lv_if_eq (tgt := 955) hx hb dL_law_950 (by decide) (fun c221 => ?_) (fun c221 => ?_)
            · replace h := fb_it c221 h
              refine lv_goto (tgt := 1348) hx hb dL_law_955 (by decide) ?_
              refine lv_iinc (v := v4 + 4) (lv' := [(4, .int (v4 + 4)), (6, .int r215), (5, .int r212), (0, .ref b), (1, .ref h0), (2, .ref m0), (3, .ref qo)]) hx hb dL_law_1348 hl (k := 6) rfl rfl (by decide) rfl (fun ls hl => ?_)
              refine lv_goto (tgt := 23) hx hb dL_law_1351 (by decide) ?_
              refine W.widen (k := ce + 64) (n := sl + 1024) (by omega) (by omega) ?_
              subst hsd0
              exact ih _ _ _ _ _ _ _ _ _ _ _ _ _ _ h _ _ (by omega) (by omega) d0 hd0 H locs hP hD hS ls (lv_sub hl [3, 4, 5, 6, 0] rfl)
            · replace h := fb_ie c221 h
              refine lv_iconst (v := 0) hx hb dL_law_953 (by decide) ?_
              exact absurd (Option.some.inj h) (by decide)
        · replace h := fb_ie c219 h
          refine lv_iconst (v := 0) hx hb dL_law_936 (by decide) ?_
          exact absurd (Option.some.inj h) (by decide)
      replace h := fb_ie c4_13 h
      by_cases c4_14 : ((xs v4.toNatClampNeg) &&& 31) = 14
      · replace h := fb_it c4_14 h
        refine lv_tableIn (off := 919) (tgt := 958) hx hb dL_law_39 (by rw [c4_14]; decide) (by rw [c4_14]; decide) (by rw [c4_14]; rfl) (by decide) ?_
        refine lv_aload_n hx hb dL_law_958 rfl (lv_at hl 1 rfl) ?_
        refine lv_aload_n hx hb dL_law_959 rfl (lv_at hl 0 rfl) ?_
        refine lv_iload hx hb dL_law_960 (lv_at hl 4 rfl) ?_
        refine lv_iconst (v := 1) hx hb dL_law_962 (by decide) ?_
        refine lv_iadd hx hb dL_law_963 ?_
        obtain ⟨hi224, h⟩ := fb_cks h
        refine va_sld hx hb hX hbl hbA hS (fb_ixin hi224) dL_law_964 ?_
        refine lv_aload_n hx hb dL_law_965 rfl (lv_at hl 0 rfl) ?_
        refine lv_iload hx hb dL_law_966 (lv_at hl 4 rfl) ?_
        refine lv_iconst (v := 2) hx hb dL_law_968 (by decide) ?_
        refine lv_iadd hx hb dL_law_969 ?_
        obtain ⟨hi225, h⟩ := fb_cks h
        refine va_sld hx hb hX hbl hbA hS (fb_ixin hi225) dL_law_970 ?_
        refine lv_aload_n hx hb dL_law_971 rfl (lv_at hl 0 rfl) ?_
        refine lv_iload hx hb dL_law_972 (lv_at hl 4 rfl) ?_
        refine lv_iconst (v := 3) hx hb dL_law_974 (by decide) ?_
        refine lv_iadd hx hb dL_law_975 ?_
        obtain ⟨hi226, h⟩ := fb_cks h
        refine va_sld hx hb hX hbl hbA hS (fb_ixin hi226) dL_law_976 ?_
        refine lv_aload_n hx hb dL_law_977 rfl (lv_at hl 3 rfl) ?_
        obtain ⟨r228, ob_229, h227, h⟩ := fb_b2s h
        have hPc : va_P D vwCl (fb_wL cI cJ h0 qf qn qw ql qo sz mi fg nt wt wl ob) H := hP.sub [0, 1, 2, 3, 4, 9] rfl
        have hDc : va_D A (fb_wL cI cJ h0 qf qn qw ql qo sz mi fg nt wt wl ob) := hD.sub [0, 1, 2, 3, 4, 9] (by decide) rfl
        have hFc := va_free (wc := fb_wL cI cJ h0 qf qn qw ql qo sz mi fg nt wt wl ob) hD hS hA [0, 1, 2, 3, 4, 9] rfl
        refine fb_callM (vx_runSW (As := [.ref h0, .int (xs (v4 + 1).toNatClampNeg), .int (xs (v4 + 2).toNatClampNeg), .int (xs (v4 + 3).toNatClampNeg), .ref qo]) (rest := []) ⟨hx, hb, hml, hown, hts⟩ (metL_fits l hfl D cI cJ h0 qf qn qw ql qo B0 sz mi fg nt wt wl ob (xs (v4 + 1).toNatClampNeg) (xs (v4 + 2).toNatClampNeg) (xs (v4 + 3).toNatClampNeg) H.size r228 ob_229 h227) (vx_cwSW 5 hts gL_law_L_fits rfl rfl rfl (by decide +kernel) ⟨Nat.le_of_ble_eq_true rfl, Nat.le_of_ble_eq_true rfl⟩) (fb_preSM fb_sXTp hPc hK hDc hZT hS hAB hA _) rfl rfl hl.1 rfl (lv_room (Nat.le_of_ble_eq_true rfl)) dL_law_978 ⟨(show ce + 0 + 1 ≤ 793323 by omega), (show sl + 0 + 6 ≤ 6716136 by omega)⟩) hS (fun q _ h9 => hFc q h9) hFc (fun _ H1 locs hP1 hD1 hz1 hk1 hS => ?_)
        obtain ⟨hP, hD⟩ := va_join (wr := fb_wX1 cI m0 pn pf pw yth ych ynt yfg ywt ymi) (w1 := fb_wL cI cJ h0 qf qn qw ql qo sz mi fg nt wt wl ob_229) hP hD [0, 1, 2, 3, 4, 9] [5, 6, 7, 8] rfl rfl (by decide) (by decide) hk1 hFc hP1 hD1
        have hP : va_P D vwCl (fb_wX0 cI h0 qf qn qw ql sz mi fg nt wt wl ++ fb_wX1 cI m0 pn pf pw yth ych ynt yfg ywt ymi ++ [(qo, .inl (cJ, 1, .inr (.inl ob_229)))]) H1 := hP.sub [4, 5, 6, 7, 8, 0, 1, 2, 3, 9] rfl
        have hD : va_D A (fb_wX0 cI h0 qf qn qw ql sz mi fg nt wt wl ++ fb_wX1 cI m0 pn pf pw yth ych ynt yfg ywt ymi ++ [(qo, .inl (cJ, 1, .inr (.inl ob_229)))]) := hD.sub [4, 5, 6, 7, 8, 0, 1, 2, 3, 9] (by decide) rfl
        generalize H1 = H at hP hS
        refine lv_istore (lv' := [(5, .int r228), (0, .ref b), (1, .ref h0), (2, .ref m0), (3, .ref qo), (4, .int v4)]) hx hb dL_law_981 hl (by decide) rfl (fun ls hl => ?_)
        refine lv_aload_n hx hb dL_law_983 rfl (lv_at hl 3 rfl) ?_
        refine lv_aload_n hx hb dL_law_984 rfl (lv_at hl 1 rfl) ?_
        refine lv_iload hx hb dL_law_985 (lv_at hl 5 rfl) ?_
        refine lv_iconst (v := 1) hx hb dL_law_987 (by decide) ?_
        refine lv_iadd hx hb dL_law_988 ?_
        refine va_sld hx hb hX hbl hbA hS (fb_ixin hi224) dL_law_989 ?_
        refine lv_aload_n hx hb dL_law_990 rfl (lv_at hl 1 rfl) ?_
        refine lv_iload hx hb dL_law_991 (lv_at hl 5 rfl) ?_
        refine lv_iconst (v := 2) hx hb dL_law_993 (by decide) ?_
        refine lv_iadd hx hb dL_law_994 ?_
        refine va_sld hx hb hX hbl hbA hS (fb_ixin hi225) dL_law_995 ?_
        refine lv_aload_n hx hb dL_law_996 rfl (lv_at hl 1 rfl) ?_
        refine lv_iload hx hb dL_law_997 (lv_at hl 5 rfl) ?_
        refine lv_iconst (v := 3) hx hb dL_law_999 (by decide) ?_
        refine lv_iadd hx hb dL_law_1000 ?_
        refine va_sld hx hb hX hbl hbA hS (fb_ixin hi226) dL_law_1001 ?_
        obtain ⟨r231, yth_232, h230, h⟩ := fb_b2s h
        have hPc : va_P D vwCl (fb_wX1 cI m0 pn pf pw yth ych ynt yfg ywt ymi) H := hP.sub [5, 6, 7, 8] rfl
        have hDc : va_D A (fb_wX1 cI m0 pn pf pw yth ych ynt yfg ywt ymi) := hD.sub [5, 6, 7, 8] (by decide) rfl
        have hFc := va_free (wc := fb_wX1 cI m0 pn pf pw yth ych ynt yfg ywt ymi) hD hS hA [5, 6, 7, 8] rfl
        refine fb_callM (va_runV (As := [.int (xs (v4 + 1).toNatClampNeg), .int (xs (v4 + 2).toNatClampNeg), .int (xs (v4 + 3).toNatClampNeg)]) (rest := []) ⟨hx, hb, hml, hown, hts⟩ (metX1_fits l D cI m0 pn pf pw B0 yth ych ynt yfg ywt ymi (xs (v4 + 1).toNatClampNeg) (xs (v4 + 2).toNatClampNeg) (xs (v4 + 3).toNatClampNeg) H.size r231 yth_232 h230) (cwV 3 hts gL_law_X1_fits rfl rfl rfl (by decide +kernel) ⟨Nat.le_of_ble_eq_true rfl, Nat.le_of_ble_eq_true rfl⟩) (fb_preVM (ci := 1) fb_sX1p hPc hK1 hDc hZY hS hAB hA rfl rfl _) rfl rfl hl.1 rfl (lv_room (Nat.le_of_ble_eq_true rfl)) dL_law_1002 ⟨(show ce + 1 + 0 ≤ 793323 by omega), (show sl + 6 + 0 ≤ 6716136 by omega)⟩) hS (fun q _ h9 => hFc q h9) hFc (fun _ H1 locs hP1 hD1 hz1 hk1 hS => ?_)
        obtain ⟨hP, hD⟩ := va_join (wr := fb_wX0 cI h0 qf qn qw ql sz mi fg nt wt wl ++ [(qo, .inl (cJ, 1, .inr (.inl ob_229)))]) (w1 := fb_wX1 cI m0 pn pf pw yth_232 ych ynt yfg ywt ymi) hP hD [5, 6, 7, 8] [0, 1, 2, 3, 4, 9] rfl rfl (by decide) (by decide) hk1 hFc hP1 hD1
        have hP : va_P D vwCl (fb_wX0 cI h0 qf qn qw ql sz mi fg nt wt wl ++ fb_wX1 cI m0 pn pf pw yth_232 ych ynt yfg ywt ymi ++ [(qo, .inl (cJ, 1, .inr (.inl ob_229)))]) H1 := hP.sub [0, 1, 2, 3, 4, 6, 7, 8, 9, 5] rfl
        have hD : va_D A (fb_wX0 cI h0 qf qn qw ql sz mi fg nt wt wl ++ fb_wX1 cI m0 pn pf pw yth_232 ych ynt yfg ywt ymi ++ [(qo, .inl (cJ, 1, .inr (.inl ob_229)))]) := hD.sub [0, 1, 2, 3, 4, 6, 7, 8, 9, 5] (by decide) rfl
        generalize H1 = H at hP hS
        refine lv_istore (lv' := [(6, .int r231), (5, .int r228), (0, .ref b), (1, .ref h0), (2, .ref m0), (3, .ref qo), (4, .int v4)]) hx hb dL_law_1005 hl (by decide) rfl (fun ls hl => ?_)
        refine lv_aload_n hx hb dL_law_1007 rfl (lv_at hl 4 rfl) ?_
        obtain ⟨r234, h233, h⟩ := fb_b1s h
        have hPc : va_P D vwCl (fb_wX1 cI m0 pn pf pw yth_232 ych ynt yfg ywt ymi) H := hP.sub [5, 6, 7, 8] rfl
        refine fb_callR (W.runV (As := []) (rest := []) ⟨hx, hb, hml, hown, hts⟩ (metX1_thrown l D cI m0 pn pf pw B0 yth_232 ych ynt yfg ywt ymi  r234 h233) (cwV 0 hts gL_law_X1_thrown rfl rfl rfl (by decide +kernel) ⟨Nat.le_of_ble_eq_true rfl, Nat.le_of_ble_eq_true rfl⟩) (fb_preVR (ci := 1) fb_sX1p hPc hK1 hZY hS hAB rfl rfl _) rfl rfl hl.1 rfl (lv_room (Nat.le_of_ble_eq_true rfl)) dL_law_1008 ⟨(show ce + 1 + 0 ≤ 793323 by omega), (show sl + 6 + 0 ≤ 6716136 by omega)⟩) ?_
        refine lv_iload hx hb dL_law_1011 (lv_at hl 1 rfl) ?_
        refine lv_icmp_eq (tgt := 1018) hx hb dL_law_1013 (by decide) (fun c235 => ?_) (fun c235 => ?_)
        · replace h := fb_it c235 h
          refine lv_iload hx hb dL_law_1018 (lv_at hl 1 rfl) ?_
          refine lv_if_ne (tgt := 1042) hx hb dL_law_1020 (by decide) (fun c236 => ?_) (fun c236 => ?_)
          · replace h := fb_ie c236 h
            refine lv_goto (tgt := 1348) hx hb dL_law_1042 (by decide) ?_
            refine lv_iinc (v := v4 + 4) (lv' := [(4, .int (v4 + 4)), (6, .int r231), (5, .int r228), (0, .ref b), (1, .ref h0), (2, .ref m0), (3, .ref qo)]) hx hb dL_law_1348 hl (k := 6) rfl rfl (by decide) rfl (fun ls hl => ?_)
            refine lv_goto (tgt := 23) hx hb dL_law_1351 (by decide) ?_
            refine W.widen (k := ce + 64) (n := sl + 1024) (by omega) (by omega) ?_
            subst hsd0
            exact ih _ _ _ _ _ _ _ _ _ _ _ _ _ _ h _ _ (by omega) (by omega) d0 hd0 H locs hP hD hS ls (lv_sub hl [3, 4, 5, 6, 0] rfl)
          · replace h := fb_it c236 h
            refine lv_aload_n hx hb dL_law_1023 rfl (lv_at hl 5 rfl) ?_
            refine lv_iconst (v := 0) hx hb dL_law_1024 (by decide) ?_
            refine va_lald hx hb hK hP 9 1 rfl rfl (fb_ixin (by decide)) dL_law_1025 ?_
            refine lv_iload hx hb dL_law_1026 (lv_at hl 0 rfl) ?_
            obtain ⟨j238, hjJ3, h⟩ := fb_b1s h
            have J3 : ∀ (H : Heap) (locs : List Loc), va_P D vwCl (fb_wX0 cI h0 qf qn qw ql sz mi fg nt wt wl ++ fb_wX1 cI m0 pn pf pw yth_232 ych ynt yfg ywt ymi ++ [(qo, .inl (cJ, 1, .inr (.inl ob_229)))]) H → va_D A (fb_wX0 cI h0 qf qn qw ql sz mi fg nt wt wl ++ fb_wX1 cI m0 pn pf pw yth_232 ych ynt yfg ywt ymi ++ [(qo, .inl (cJ, 1, .inr (.inl ob_229)))]) → va_S A s.heap H locs → ∀ (ls : Array Slot), lv_has ls 9 [(0, .ref b), (1, .ref h0), (2, .ref m0), (3, .ref qo), (4, .int v4)] → W p l e room_1 s m #[Value.ref b] below meth c H locs (ce + 1) (sl + 6) (lw_Z below #[Value.ref b] s0) (F0 m 1036 ls [.long j238, .long (ob_229 (0 : Int32).toNatClampNeg)]) := by
              intro H locs hP hD hS ls hl
              refine W.lcmp hx hb dL_law_1036 ?_
              refine lv_if_eq (tgt := 1042) hx hb dL_law_1037 (by decide) (fun c239 => ?_) (fun c239 => ?_)
              · replace h := fb_it c239 h
                refine lv_goto (tgt := 1348) hx hb dL_law_1042 (by decide) ?_
                refine lv_iinc (v := v4 + 4) (lv' := [(4, .int (v4 + 4)), (0, .ref b), (1, .ref h0), (2, .ref m0), (3, .ref qo)]) hx hb dL_law_1348 hl (k := 4) rfl rfl (by decide) rfl (fun ls hl => ?_)
                refine lv_goto (tgt := 23) hx hb dL_law_1351 (by decide) ?_
                refine W.widen (k := ce + 64) (n := sl + 1024) (by omega) (by omega) ?_
                subst hsd0
                exact ih _ _ _ _ _ _ _ _ _ _ _ _ _ _ h _ _ (by omega) (by omega) d0 hd0 H locs hP hD hS ls (lv_sub hl [1, 2, 3, 4, 0] rfl)
              · replace h := fb_ie c239 h
                refine lv_iconst (v := 0) hx hb dL_law_1040 (by decide) ?_
                exact absurd (Option.some.inj h) (by decide)
            replace h := hjJ3
            refine lv_if_eq (tgt := 1035) hx hb dL_law_1028 (by decide) (fun c237 => ?_) (fun c237 => ?_)
            · replace h := fb_it c237 h
              refine lv_lconst (v := 0) hx hb dL_law_1035 (by decide) ?_
              have h := Option.some.inj h
              subst h
              exact J3 H locs hP hD hS ls (lv_sub hl [2, 3, 4, 5, 6] rfl)
            · replace h := fb_ie c237 h
              refine lv_lconst (v := 1) hx hb dL_law_1031 (by decide) ?_
              refine lv_goto (tgt := 1036) hx hb dL_law_1032 (by decide) ?_
              have h := Option.some.inj h
              subst h
              exact J3 H locs hP hD hS ls (lv_sub hl [2, 3, 4, 5, 6] rfl)
        · replace h := fb_ie c235 h
          refine lv_iconst (v := 0) hx hb dL_law_1016 (by decide) ?_
          exact absurd (Option.some.inj h) (by decide)
      replace h := fb_ie c4_14 h
      by_cases c4_15 : ((xs v4.toNatClampNeg) &&& 31) = 15
      · replace h := fb_it c4_15 h
        refine lv_tableIn (off := 1006) (tgt := 1045) hx hb dL_law_39 (by rw [c4_15]; decide) (by rw [c4_15]; decide) (by rw [c4_15]; rfl) (by decide) ?_
        refine lv_aload_n hx hb dL_law_1045 rfl (lv_at hl 1 rfl) ?_
        refine lv_aload_n hx hb dL_law_1046 rfl (lv_at hl 0 rfl) ?_
        refine lv_iload hx hb dL_law_1047 (lv_at hl 4 rfl) ?_
        refine lv_iconst (v := 1) hx hb dL_law_1049 (by decide) ?_
        refine lv_iadd hx hb dL_law_1050 ?_
        obtain ⟨hi242, h⟩ := fb_cks h
        refine va_sld hx hb hX hbl hbA hS (fb_ixin hi242) dL_law_1051 ?_
        refine lv_aload_n hx hb dL_law_1052 rfl (lv_at hl 3 rfl) ?_
        obtain ⟨r244, wl_245, ob_246, h243, h⟩ := fb_b3s h
        have hPc : va_P D vwCl (fb_wL cI cJ h0 qf qn qw ql qo sz mi fg nt wt wl ob) H := hP.sub [0, 1, 2, 3, 4, 9] rfl
        have hDc : va_D A (fb_wL cI cJ h0 qf qn qw ql qo sz mi fg nt wt wl ob) := hD.sub [0, 1, 2, 3, 4, 9] (by decide) rfl
        have hFc := va_free (wc := fb_wL cI cJ h0 qf qn qw ql qo sz mi fg nt wt wl ob) hD hS hA [0, 1, 2, 3, 4, 9] rfl
        refine fb_callM (vx_runSW (As := [.ref h0, .int (xs (v4 + 1).toNatClampNeg), .ref qo]) (rest := []) ⟨hx, hb, hml, hown, hts⟩ (metL_ways l hfl D cI cJ h0 qf qn qw ql qo B0 sz mi fg nt wt wl ob (xs (v4 + 1).toNatClampNeg) H.size r244 wl_245 ob_246 h243) (vx_cwSW 3 hts gL_law_L_ways rfl rfl rfl (by decide +kernel) ⟨Nat.le_of_ble_eq_true rfl, Nat.le_of_ble_eq_true rfl⟩) (fb_preSM fb_sXTp hPc hK hDc hZT hS hAB hA _) rfl rfl hl.1 rfl (lv_room (Nat.le_of_ble_eq_true rfl)) dL_law_1053 ⟨(show ce + 0 + 1 ≤ 793323 by omega), (show sl + 0 + 6 ≤ 6716136 by omega)⟩) hS (fun q _ h9 => hFc q h9) hFc (fun _ H1 locs hP1 hD1 hz1 hk1 hS => ?_)
        obtain ⟨hP, hD⟩ := va_join (wr := fb_wX1 cI m0 pn pf pw yth ych ynt yfg ywt ymi) (w1 := fb_wL cI cJ h0 qf qn qw ql qo sz mi fg nt wt wl_245 ob_246) hP hD [0, 1, 2, 3, 4, 9] [5, 6, 7, 8] rfl rfl (by decide) (by decide) hk1 hFc hP1 hD1
        have hP : va_P D vwCl (fb_wX0 cI h0 qf qn qw ql sz mi fg nt wt wl_245 ++ fb_wX1 cI m0 pn pf pw yth ych ynt yfg ywt ymi ++ [(qo, .inl (cJ, 1, .inr (.inl ob_246)))]) H1 := hP.sub [4, 5, 6, 7, 8, 0, 1, 2, 3, 9] rfl
        have hD : va_D A (fb_wX0 cI h0 qf qn qw ql sz mi fg nt wt wl_245 ++ fb_wX1 cI m0 pn pf pw yth ych ynt yfg ywt ymi ++ [(qo, .inl (cJ, 1, .inr (.inl ob_246)))]) := hD.sub [4, 5, 6, 7, 8, 0, 1, 2, 3, 9] (by decide) rfl
        generalize H1 = H at hP hS
        refine lv_istore (lv' := [(5, .int r244), (0, .ref b), (1, .ref h0), (2, .ref m0), (3, .ref qo), (4, .int v4)]) hx hb dL_law_1056 hl (by decide) rfl (fun ls hl => ?_)
        refine lv_aload_n hx hb dL_law_1058 rfl (lv_at hl 3 rfl) ?_
        refine lv_aload_n hx hb dL_law_1059 rfl (lv_at hl 1 rfl) ?_
        refine lv_iload hx hb dL_law_1060 (lv_at hl 5 rfl) ?_
        refine lv_iconst (v := 1) hx hb dL_law_1062 (by decide) ?_
        refine lv_iadd hx hb dL_law_1063 ?_
        refine va_sld hx hb hX hbl hbA hS (fb_ixin hi242) dL_law_1064 ?_
        obtain ⟨r248, yth_249, ynt_250, h247, h⟩ := fb_b3s h
        have hPc : va_P D vwCl (fb_wX1 cI m0 pn pf pw yth ych ynt yfg ywt ymi) H := hP.sub [5, 6, 7, 8] rfl
        have hDc : va_D A (fb_wX1 cI m0 pn pf pw yth ych ynt yfg ywt ymi) := hD.sub [5, 6, 7, 8] (by decide) rfl
        have hFc := va_free (wc := fb_wX1 cI m0 pn pf pw yth ych ynt yfg ywt ymi) hD hS hA [5, 6, 7, 8] rfl
        refine fb_callM (va_runV (As := [.int (xs (v4 + 1).toNatClampNeg)]) (rest := []) ⟨hx, hb, hml, hown, hts⟩ (metX1_ways l D cI m0 pn pf pw B0 yth ych ynt yfg ywt ymi (xs (v4 + 1).toNatClampNeg) H.size r248 yth_249 ynt_250 h247) (cwV 1 hts gL_law_X1_ways rfl rfl rfl (by decide +kernel) ⟨Nat.le_of_ble_eq_true rfl, Nat.le_of_ble_eq_true rfl⟩) (fb_preVM (ci := 1) fb_sX1p hPc hK1 hDc hZY hS hAB hA rfl rfl _) rfl rfl hl.1 rfl (lv_room (Nat.le_of_ble_eq_true rfl)) dL_law_1065 ⟨(show ce + 1 + 2 ≤ 793323 by omega), (show sl + 6 + 6 ≤ 6716136 by omega)⟩) hS (fun q _ h9 => hFc q h9) hFc (fun _ H1 locs hP1 hD1 hz1 hk1 hS => ?_)
        obtain ⟨hP, hD⟩ := va_join (wr := fb_wX0 cI h0 qf qn qw ql sz mi fg nt wt wl_245 ++ [(qo, .inl (cJ, 1, .inr (.inl ob_246)))]) (w1 := fb_wX1 cI m0 pn pf pw yth_249 ych ynt_250 yfg ywt ymi) hP hD [5, 6, 7, 8] [0, 1, 2, 3, 4, 9] rfl rfl (by decide) (by decide) hk1 hFc hP1 hD1
        have hP : va_P D vwCl (fb_wX0 cI h0 qf qn qw ql sz mi fg nt wt wl_245 ++ fb_wX1 cI m0 pn pf pw yth_249 ych ynt_250 yfg ywt ymi ++ [(qo, .inl (cJ, 1, .inr (.inl ob_246)))]) H1 := hP.sub [0, 1, 2, 3, 4, 6, 7, 8, 9, 5] rfl
        have hD : va_D A (fb_wX0 cI h0 qf qn qw ql sz mi fg nt wt wl_245 ++ fb_wX1 cI m0 pn pf pw yth_249 ych ynt_250 yfg ywt ymi ++ [(qo, .inl (cJ, 1, .inr (.inl ob_246)))]) := hD.sub [0, 1, 2, 3, 4, 6, 7, 8, 9, 5] (by decide) rfl
        generalize H1 = H at hP hS
        refine lv_istore (lv' := [(6, .int r248), (5, .int r244), (0, .ref b), (1, .ref h0), (2, .ref m0), (3, .ref qo), (4, .int v4)]) hx hb dL_law_1068 hl (by decide) rfl (fun ls hl => ?_)
        refine lv_aload_n hx hb dL_law_1070 rfl (lv_at hl 4 rfl) ?_
        obtain ⟨r252, h251, h⟩ := fb_b1s h
        have hPc : va_P D vwCl (fb_wX1 cI m0 pn pf pw yth_249 ych ynt_250 yfg ywt ymi) H := hP.sub [5, 6, 7, 8] rfl
        refine fb_callR (W.runV (As := []) (rest := []) ⟨hx, hb, hml, hown, hts⟩ (metX1_thrown l D cI m0 pn pf pw B0 yth_249 ych ynt_250 yfg ywt ymi  r252 h251) (cwV 0 hts gL_law_X1_thrown rfl rfl rfl (by decide +kernel) ⟨Nat.le_of_ble_eq_true rfl, Nat.le_of_ble_eq_true rfl⟩) (fb_preVR (ci := 1) fb_sX1p hPc hK1 hZY hS hAB rfl rfl _) rfl rfl hl.1 rfl (lv_room (Nat.le_of_ble_eq_true rfl)) dL_law_1071 ⟨(show ce + 3 + 0 ≤ 793323 by omega), (show sl + 12 + 0 ≤ 6716136 by omega)⟩) ?_
        refine lv_iload hx hb dL_law_1074 (lv_at hl 1 rfl) ?_
        refine lv_icmp_eq (tgt := 1081) hx hb dL_law_1076 (by decide) (fun c253 => ?_) (fun c253 => ?_)
        · replace h := fb_it c253 h
          refine lv_iload hx hb dL_law_1081 (lv_at hl 1 rfl) ?_
          refine lv_if_ne (tgt := 1098) hx hb dL_law_1083 (by decide) (fun c254 => ?_) (fun c254 => ?_)
          · replace h := fb_ie c254 h
            refine lv_goto (tgt := 1348) hx hb dL_law_1098 (by decide) ?_
            refine lv_iinc (v := v4 + 4) (lv' := [(4, .int (v4 + 4)), (6, .int r248), (5, .int r244), (0, .ref b), (1, .ref h0), (2, .ref m0), (3, .ref qo)]) hx hb dL_law_1348 hl (k := 6) rfl rfl (by decide) rfl (fun ls hl => ?_)
            refine lv_goto (tgt := 23) hx hb dL_law_1351 (by decide) ?_
            refine W.widen (k := ce + 64) (n := sl + 1024) (by omega) (by omega) ?_
            subst hsd0
            exact ih _ _ _ _ _ _ _ _ _ _ _ _ _ _ h _ _ (by omega) (by omega) d0 hd0 H locs hP hD hS ls (lv_sub hl [3, 4, 5, 6, 0] rfl)
          · replace h := fb_it c254 h
            refine lv_aload_n hx hb dL_law_1086 rfl (lv_at hl 5 rfl) ?_
            refine lv_iconst (v := 0) hx hb dL_law_1087 (by decide) ?_
            refine va_lald hx hb hK hP 9 1 rfl rfl (fb_ixin (by decide)) dL_law_1088 ?_
            refine lv_iload hx hb dL_law_1089 (lv_at hl 0 rfl) ?_
            refine lv_i2l hx hb dL_law_1091 rfl ?_
            refine W.lcmp hx hb dL_law_1092 ?_
            refine lv_if_eq (tgt := 1098) hx hb dL_law_1093 (by decide) (fun c255 => ?_) (fun c255 => ?_)
            · replace h := fb_it c255 h
              refine lv_goto (tgt := 1348) hx hb dL_law_1098 (by decide) ?_
              refine lv_iinc (v := v4 + 4) (lv' := [(4, .int (v4 + 4)), (6, .int r248), (5, .int r244), (0, .ref b), (1, .ref h0), (2, .ref m0), (3, .ref qo)]) hx hb dL_law_1348 hl (k := 6) rfl rfl (by decide) rfl (fun ls hl => ?_)
              refine lv_goto (tgt := 23) hx hb dL_law_1351 (by decide) ?_
              refine W.widen (k := ce + 64) (n := sl + 1024) (by omega) (by omega) ?_
              subst hsd0
              exact ih _ _ _ _ _ _ _ _ _ _ _ _ _ _ h _ _ (by omega) (by omega) d0 hd0 H locs hP hD hS ls (lv_sub hl [3, 4, 5, 6, 0] rfl)
            · replace h := fb_ie c255 h
              refine lv_iconst (v := 0) hx hb dL_law_1096 (by decide) ?_
              exact absurd (Option.some.inj h) (by decide)
        · replace h := fb_ie c253 h
          refine lv_iconst (v := 0) hx hb dL_law_1079 (by decide) ?_
          exact absurd (Option.some.inj h) (by decide)
      replace h := fb_ie c4_15 h
      by_cases c4_16 : ((xs v4.toNatClampNeg) &&& 31) = 16
      · replace h := fb_it c4_16 h
        refine lv_tableIn (off := 1062) (tgt := 1101) hx hb dL_law_39 (by rw [c4_16]; decide) (by rw [c4_16]; decide) (by rw [c4_16]; rfl) (by decide) ?_
        refine lv_aload_n hx hb dL_law_1101 rfl (lv_at hl 1 rfl) ?_
        refine lv_aload_n hx hb dL_law_1102 rfl (lv_at hl 0 rfl) ?_
        refine lv_iload hx hb dL_law_1103 (lv_at hl 4 rfl) ?_
        refine lv_iconst (v := 1) hx hb dL_law_1105 (by decide) ?_
        refine lv_iadd hx hb dL_law_1106 ?_
        obtain ⟨hi258, h⟩ := fb_cks h
        refine va_sld hx hb hX hbl hbA hS (fb_ixin hi258) dL_law_1107 ?_
        refine lv_aload_n hx hb dL_law_1108 rfl (lv_at hl 0 rfl) ?_
        refine lv_iload hx hb dL_law_1109 (lv_at hl 4 rfl) ?_
        refine lv_iconst (v := 2) hx hb dL_law_1111 (by decide) ?_
        refine lv_iadd hx hb dL_law_1112 ?_
        obtain ⟨hi259, h⟩ := fb_cks h
        refine va_sld hx hb hX hbl hbA hS (fb_ixin hi259) dL_law_1113 ?_
        refine lv_aload_n hx hb dL_law_1114 rfl (lv_at hl 0 rfl) ?_
        refine lv_iload hx hb dL_law_1115 (lv_at hl 4 rfl) ?_
        refine lv_iconst (v := 3) hx hb dL_law_1117 (by decide) ?_
        refine lv_iadd hx hb dL_law_1118 ?_
        obtain ⟨hi260, h⟩ := fb_cks h
        refine va_sld hx hb hX hbl hbA hS (fb_ixin hi260) dL_law_1119 ?_
        refine lv_aload_n hx hb dL_law_1120 rfl (lv_at hl 3 rfl) ?_
        obtain ⟨r262, nt_263, ob_264, h261, h⟩ := fb_b3s h
        have hPc : va_P D vwCl (fb_wL cI cJ h0 qf qn qw ql qo sz mi fg nt wt wl ob) H := hP.sub [0, 1, 2, 3, 4, 9] rfl
        have hDc : va_D A (fb_wL cI cJ h0 qf qn qw ql qo sz mi fg nt wt wl ob) := hD.sub [0, 1, 2, 3, 4, 9] (by decide) rfl
        have hFc := va_free (wc := fb_wL cI cJ h0 qf qn qw ql qo sz mi fg nt wt wl ob) hD hS hA [0, 1, 2, 3, 4, 9] rfl
        refine fb_callM (vx_runSW (As := [.ref h0, .int (xs (v4 + 1).toNatClampNeg), .int (xs (v4 + 2).toNatClampNeg), .int (xs (v4 + 3).toNatClampNeg), .ref qo]) (rest := []) ⟨hx, hb, hml, hown, hts⟩ (metL_would l hfl D cI cJ h0 qf qn qw ql qo B0 sz mi fg nt wt wl ob (xs (v4 + 1).toNatClampNeg) (xs (v4 + 2).toNatClampNeg) (xs (v4 + 3).toNatClampNeg) H.size r262 nt_263 ob_264 h261) (vx_cwSW 5 hts gL_law_L_would rfl rfl rfl (by decide +kernel) ⟨Nat.le_of_ble_eq_true rfl, Nat.le_of_ble_eq_true rfl⟩) (fb_preSM fb_sXTp hPc hK hDc hZT hS hAB hA _) rfl rfl hl.1 rfl (lv_room (Nat.le_of_ble_eq_true rfl)) dL_law_1121 ⟨(show ce + 0 + 1 ≤ 793323 by omega), (show sl + 0 + 6 ≤ 6716136 by omega)⟩) hS (fun q _ h9 => hFc q h9) hFc (fun _ H1 locs hP1 hD1 hz1 hk1 hS => ?_)
        obtain ⟨hP, hD⟩ := va_join (wr := fb_wX1 cI m0 pn pf pw yth ych ynt yfg ywt ymi) (w1 := fb_wL cI cJ h0 qf qn qw ql qo sz mi fg nt_263 wt wl ob_264) hP hD [0, 1, 2, 3, 4, 9] [5, 6, 7, 8] rfl rfl (by decide) (by decide) hk1 hFc hP1 hD1
        have hP : va_P D vwCl (fb_wX0 cI h0 qf qn qw ql sz mi fg nt_263 wt wl ++ fb_wX1 cI m0 pn pf pw yth ych ynt yfg ywt ymi ++ [(qo, .inl (cJ, 1, .inr (.inl ob_264)))]) H1 := hP.sub [4, 5, 6, 7, 8, 0, 1, 2, 3, 9] rfl
        have hD : va_D A (fb_wX0 cI h0 qf qn qw ql sz mi fg nt_263 wt wl ++ fb_wX1 cI m0 pn pf pw yth ych ynt yfg ywt ymi ++ [(qo, .inl (cJ, 1, .inr (.inl ob_264)))]) := hD.sub [4, 5, 6, 7, 8, 0, 1, 2, 3, 9] (by decide) rfl
        generalize H1 = H at hP hS
        refine lv_istore (lv' := [(5, .int r262), (0, .ref b), (1, .ref h0), (2, .ref m0), (3, .ref qo), (4, .int v4)]) hx hb dL_law_1124 hl (by decide) rfl (fun ls hl => ?_)
        refine lv_aload_n hx hb dL_law_1126 rfl (lv_at hl 3 rfl) ?_
        refine lv_aload_n hx hb dL_law_1127 rfl (lv_at hl 1 rfl) ?_
        refine lv_iload hx hb dL_law_1128 (lv_at hl 5 rfl) ?_
        refine lv_iconst (v := 1) hx hb dL_law_1130 (by decide) ?_
        refine lv_iadd hx hb dL_law_1131 ?_
        refine va_sld hx hb hX hbl hbA hS (fb_ixin hi258) dL_law_1132 ?_
        refine lv_aload_n hx hb dL_law_1133 rfl (lv_at hl 1 rfl) ?_
        refine lv_iload hx hb dL_law_1134 (lv_at hl 5 rfl) ?_
        refine lv_iconst (v := 2) hx hb dL_law_1136 (by decide) ?_
        refine lv_iadd hx hb dL_law_1137 ?_
        refine va_sld hx hb hX hbl hbA hS (fb_ixin hi259) dL_law_1138 ?_
        refine lv_aload_n hx hb dL_law_1139 rfl (lv_at hl 1 rfl) ?_
        refine lv_iload hx hb dL_law_1140 (lv_at hl 5 rfl) ?_
        refine lv_iconst (v := 3) hx hb dL_law_1142 (by decide) ?_
        refine lv_iadd hx hb dL_law_1143 ?_
        refine va_sld hx hb hX hbl hbA hS (fb_ixin hi260) dL_law_1144 ?_
        obtain ⟨r266, yth_267, ynt_268, h265, h⟩ := fb_b3s h
        have hPc : va_P D vwCl (fb_wX1 cI m0 pn pf pw yth ych ynt yfg ywt ymi) H := hP.sub [5, 6, 7, 8] rfl
        have hDc : va_D A (fb_wX1 cI m0 pn pf pw yth ych ynt yfg ywt ymi) := hD.sub [5, 6, 7, 8] (by decide) rfl
        have hFc := va_free (wc := fb_wX1 cI m0 pn pf pw yth ych ynt yfg ywt ymi) hD hS hA [5, 6, 7, 8] rfl
        refine fb_callM (va_runV (As := [.int (xs (v4 + 1).toNatClampNeg), .int (xs (v4 + 2).toNatClampNeg), .int (xs (v4 + 3).toNatClampNeg)]) (rest := []) ⟨hx, hb, hml, hown, hts⟩ (metX1_would l D cI m0 pn pf pw B0 yth ych ynt yfg ywt ymi (xs (v4 + 1).toNatClampNeg) (xs (v4 + 2).toNatClampNeg) (xs (v4 + 3).toNatClampNeg) H.size r266 yth_267 ynt_268 h265) (cwV 3 hts gL_law_X1_would rfl rfl rfl (by decide +kernel) ⟨Nat.le_of_ble_eq_true rfl, Nat.le_of_ble_eq_true rfl⟩) (fb_preVM (ci := 1) fb_sX1p hPc hK1 hDc hZY hS hAB hA rfl rfl _) rfl rfl hl.1 rfl (lv_room (Nat.le_of_ble_eq_true rfl)) dL_law_1145 ⟨(show ce + 1 + 0 ≤ 793323 by omega), (show sl + 6 + 0 ≤ 6716136 by omega)⟩) hS (fun q _ h9 => hFc q h9) hFc (fun _ H1 locs hP1 hD1 hz1 hk1 hS => ?_)
        obtain ⟨hP, hD⟩ := va_join (wr := fb_wX0 cI h0 qf qn qw ql sz mi fg nt_263 wt wl ++ [(qo, .inl (cJ, 1, .inr (.inl ob_264)))]) (w1 := fb_wX1 cI m0 pn pf pw yth_267 ych ynt_268 yfg ywt ymi) hP hD [5, 6, 7, 8] [0, 1, 2, 3, 4, 9] rfl rfl (by decide) (by decide) hk1 hFc hP1 hD1
        have hP : va_P D vwCl (fb_wX0 cI h0 qf qn qw ql sz mi fg nt_263 wt wl ++ fb_wX1 cI m0 pn pf pw yth_267 ych ynt_268 yfg ywt ymi ++ [(qo, .inl (cJ, 1, .inr (.inl ob_264)))]) H1 := hP.sub [0, 1, 2, 3, 4, 6, 7, 8, 9, 5] rfl
        have hD : va_D A (fb_wX0 cI h0 qf qn qw ql sz mi fg nt_263 wt wl ++ fb_wX1 cI m0 pn pf pw yth_267 ych ynt_268 yfg ywt ymi ++ [(qo, .inl (cJ, 1, .inr (.inl ob_264)))]) := hD.sub [0, 1, 2, 3, 4, 6, 7, 8, 9, 5] (by decide) rfl
        generalize H1 = H at hP hS
        refine lv_istore (lv' := [(6, .int r266), (5, .int r262), (0, .ref b), (1, .ref h0), (2, .ref m0), (3, .ref qo), (4, .int v4)]) hx hb dL_law_1148 hl (by decide) rfl (fun ls hl => ?_)
        refine lv_aload_n hx hb dL_law_1150 rfl (lv_at hl 4 rfl) ?_
        obtain ⟨r270, h269, h⟩ := fb_b1s h
        have hPc : va_P D vwCl (fb_wX1 cI m0 pn pf pw yth_267 ych ynt_268 yfg ywt ymi) H := hP.sub [5, 6, 7, 8] rfl
        refine fb_callR (W.runV (As := []) (rest := []) ⟨hx, hb, hml, hown, hts⟩ (metX1_thrown l D cI m0 pn pf pw B0 yth_267 ych ynt_268 yfg ywt ymi  r270 h269) (cwV 0 hts gL_law_X1_thrown rfl rfl rfl (by decide +kernel) ⟨Nat.le_of_ble_eq_true rfl, Nat.le_of_ble_eq_true rfl⟩) (fb_preVR (ci := 1) fb_sX1p hPc hK1 hZY hS hAB rfl rfl _) rfl rfl hl.1 rfl (lv_room (Nat.le_of_ble_eq_true rfl)) dL_law_1151 ⟨(show ce + 1 + 0 ≤ 793323 by omega), (show sl + 6 + 0 ≤ 6716136 by omega)⟩) ?_
        refine lv_iload hx hb dL_law_1154 (lv_at hl 1 rfl) ?_
        refine lv_icmp_eq (tgt := 1161) hx hb dL_law_1156 (by decide) (fun c271 => ?_) (fun c271 => ?_)
        · replace h := fb_it c271 h
          refine lv_iload hx hb dL_law_1161 (lv_at hl 1 rfl) ?_
          refine lv_if_ne (tgt := 1178) hx hb dL_law_1163 (by decide) (fun c272 => ?_) (fun c272 => ?_)
          · replace h := fb_ie c272 h
            refine lv_goto (tgt := 1348) hx hb dL_law_1178 (by decide) ?_
            refine lv_iinc (v := v4 + 4) (lv' := [(4, .int (v4 + 4)), (6, .int r266), (5, .int r262), (0, .ref b), (1, .ref h0), (2, .ref m0), (3, .ref qo)]) hx hb dL_law_1348 hl (k := 6) rfl rfl (by decide) rfl (fun ls hl => ?_)
            refine lv_goto (tgt := 23) hx hb dL_law_1351 (by decide) ?_
            refine W.widen (k := ce + 64) (n := sl + 1024) (by omega) (by omega) ?_
            subst hsd0
            exact ih _ _ _ _ _ _ _ _ _ _ _ _ _ _ h _ _ (by omega) (by omega) d0 hd0 H locs hP hD hS ls (lv_sub hl [3, 4, 5, 6, 0] rfl)
          · replace h := fb_it c272 h
            refine lv_aload_n hx hb dL_law_1166 rfl (lv_at hl 5 rfl) ?_
            refine lv_iconst (v := 0) hx hb dL_law_1167 (by decide) ?_
            refine va_lald hx hb hK hP 9 1 rfl rfl (fb_ixin (by decide)) dL_law_1168 ?_
            refine lv_iload hx hb dL_law_1169 (lv_at hl 0 rfl) ?_
            refine lv_i2l hx hb dL_law_1171 rfl ?_
            refine W.lcmp hx hb dL_law_1172 ?_
            refine lv_if_eq (tgt := 1178) hx hb dL_law_1173 (by decide) (fun c273 => ?_) (fun c273 => ?_)
            · replace h := fb_it c273 h
              refine lv_goto (tgt := 1348) hx hb dL_law_1178 (by decide) ?_
              refine lv_iinc (v := v4 + 4) (lv' := [(4, .int (v4 + 4)), (6, .int r266), (5, .int r262), (0, .ref b), (1, .ref h0), (2, .ref m0), (3, .ref qo)]) hx hb dL_law_1348 hl (k := 6) rfl rfl (by decide) rfl (fun ls hl => ?_)
              refine lv_goto (tgt := 23) hx hb dL_law_1351 (by decide) ?_
              refine W.widen (k := ce + 64) (n := sl + 1024) (by omega) (by omega) ?_
              subst hsd0
              exact ih _ _ _ _ _ _ _ _ _ _ _ _ _ _ h _ _ (by omega) (by omega) d0 hd0 H locs hP hD hS ls (lv_sub hl [3, 4, 5, 6, 0] rfl)
            · replace h := fb_ie c273 h
              refine lv_iconst (v := 0) hx hb dL_law_1176 (by decide) ?_
              exact absurd (Option.some.inj h) (by decide)
        · replace h := fb_ie c271 h
          refine lv_iconst (v := 0) hx hb dL_law_1159 (by decide) ?_
          exact absurd (Option.some.inj h) (by decide)
      replace h := fb_ie c4_16 h
      by_cases c4_17 : ((xs v4.toNatClampNeg) &&& 31) = 17
      · replace h := fb_it c4_17 h
        refine lv_tableIn (off := 1142) (tgt := 1181) hx hb dL_law_39 (by rw [c4_17]; decide) (by rw [c4_17]; decide) (by rw [c4_17]; rfl) (by decide) ?_
        refine lv_aload_n hx hb dL_law_1181 rfl (lv_at hl 1 rfl) ?_
        refine lv_aload_n hx hb dL_law_1182 rfl (lv_at hl 0 rfl) ?_
        refine lv_iload hx hb dL_law_1183 (lv_at hl 4 rfl) ?_
        refine lv_iconst (v := 1) hx hb dL_law_1185 (by decide) ?_
        refine lv_iadd hx hb dL_law_1186 ?_
        obtain ⟨hi276, h⟩ := fb_cks h
        refine va_sld hx hb hX hbl hbA hS (fb_ixin hi276) dL_law_1187 ?_
        refine lv_aload_n hx hb dL_law_1188 rfl (lv_at hl 3 rfl) ?_
        obtain ⟨r278, nt_279, wl_280, ob_281, h277, h⟩ := fb_b4s h
        have hPc : va_P D vwCl (fb_wL cI cJ h0 qf qn qw ql qo sz mi fg nt wt wl ob) H := hP.sub [0, 1, 2, 3, 4, 9] rfl
        have hDc : va_D A (fb_wL cI cJ h0 qf qn qw ql qo sz mi fg nt wt wl ob) := hD.sub [0, 1, 2, 3, 4, 9] (by decide) rfl
        have hFc := va_free (wc := fb_wL cI cJ h0 qf qn qw ql qo sz mi fg nt wt wl ob) hD hS hA [0, 1, 2, 3, 4, 9] rfl
        refine fb_callM (vx_runSW (As := [.ref h0, .int (xs (v4 + 1).toNatClampNeg), .ref qo]) (rest := []) ⟨hx, hb, hml, hown, hts⟩ (metL_best l hfl D cI cJ h0 qf qn qw ql qo B0 sz mi fg nt wt wl ob (xs (v4 + 1).toNatClampNeg) H.size r278 nt_279 wl_280 ob_281 h277) (vx_cwSW 3 hts gL_law_L_best rfl rfl rfl (by decide +kernel) ⟨Nat.le_of_ble_eq_true rfl, Nat.le_of_ble_eq_true rfl⟩) (fb_preSM fb_sXTp hPc hK hDc hZT hS hAB hA _) rfl rfl hl.1 rfl (lv_room (Nat.le_of_ble_eq_true rfl)) dL_law_1189 ⟨(show ce + 0 + 1 ≤ 793323 by omega), (show sl + 0 + 6 ≤ 6716136 by omega)⟩) hS (fun q _ h9 => hFc q h9) hFc (fun _ H1 locs hP1 hD1 hz1 hk1 hS => ?_)
        obtain ⟨hP, hD⟩ := va_join (wr := fb_wX1 cI m0 pn pf pw yth ych ynt yfg ywt ymi) (w1 := fb_wL cI cJ h0 qf qn qw ql qo sz mi fg nt_279 wt wl_280 ob_281) hP hD [0, 1, 2, 3, 4, 9] [5, 6, 7, 8] rfl rfl (by decide) (by decide) hk1 hFc hP1 hD1
        have hP : va_P D vwCl (fb_wX0 cI h0 qf qn qw ql sz mi fg nt_279 wt wl_280 ++ fb_wX1 cI m0 pn pf pw yth ych ynt yfg ywt ymi ++ [(qo, .inl (cJ, 1, .inr (.inl ob_281)))]) H1 := hP.sub [4, 5, 6, 7, 8, 0, 1, 2, 3, 9] rfl
        have hD : va_D A (fb_wX0 cI h0 qf qn qw ql sz mi fg nt_279 wt wl_280 ++ fb_wX1 cI m0 pn pf pw yth ych ynt yfg ywt ymi ++ [(qo, .inl (cJ, 1, .inr (.inl ob_281)))]) := hD.sub [4, 5, 6, 7, 8, 0, 1, 2, 3, 9] (by decide) rfl
        generalize H1 = H at hP hS
        refine lv_istore (lv' := [(5, .int r278), (0, .ref b), (1, .ref h0), (2, .ref m0), (3, .ref qo), (4, .int v4)]) hx hb dL_law_1192 hl (by decide) rfl (fun ls hl => ?_)
        refine lv_aload_n hx hb dL_law_1194 rfl (lv_at hl 3 rfl) ?_
        refine lv_aload_n hx hb dL_law_1195 rfl (lv_at hl 1 rfl) ?_
        refine lv_iload hx hb dL_law_1196 (lv_at hl 5 rfl) ?_
        refine lv_iconst (v := 1) hx hb dL_law_1198 (by decide) ?_
        refine lv_iadd hx hb dL_law_1199 ?_
        refine va_sld hx hb hX hbl hbA hS (fb_ixin hi276) dL_law_1200 ?_
        obtain ⟨r283, yth_284, ynt_285, h282, h⟩ := fb_b3s h
        have hPc : va_P D vwCl (fb_wX1 cI m0 pn pf pw yth ych ynt yfg ywt ymi) H := hP.sub [5, 6, 7, 8] rfl
        have hDc : va_D A (fb_wX1 cI m0 pn pf pw yth ych ynt yfg ywt ymi) := hD.sub [5, 6, 7, 8] (by decide) rfl
        have hFc := va_free (wc := fb_wX1 cI m0 pn pf pw yth ych ynt yfg ywt ymi) hD hS hA [5, 6, 7, 8] rfl
        refine fb_callM (va_runV (As := [.int (xs (v4 + 1).toNatClampNeg)]) (rest := []) ⟨hx, hb, hml, hown, hts⟩ (metX1_best l D cI m0 pn pf pw B0 yth ych ynt yfg ywt ymi (xs (v4 + 1).toNatClampNeg) H.size r283 yth_284 ynt_285 h282) (cwV 1 hts gL_law_X1_best rfl rfl rfl (by decide +kernel) ⟨Nat.le_of_ble_eq_true rfl, Nat.le_of_ble_eq_true rfl⟩) (fb_preVM (ci := 1) fb_sX1p hPc hK1 hDc hZY hS hAB hA rfl rfl _) rfl rfl hl.1 rfl (lv_room (Nat.le_of_ble_eq_true rfl)) dL_law_1201 ⟨(show ce + 1 + 2 ≤ 793323 by omega), (show sl + 6 + 6 ≤ 6716136 by omega)⟩) hS (fun q _ h9 => hFc q h9) hFc (fun _ H1 locs hP1 hD1 hz1 hk1 hS => ?_)
        obtain ⟨hP, hD⟩ := va_join (wr := fb_wX0 cI h0 qf qn qw ql sz mi fg nt_279 wt wl_280 ++ [(qo, .inl (cJ, 1, .inr (.inl ob_281)))]) (w1 := fb_wX1 cI m0 pn pf pw yth_284 ych ynt_285 yfg ywt ymi) hP hD [5, 6, 7, 8] [0, 1, 2, 3, 4, 9] rfl rfl (by decide) (by decide) hk1 hFc hP1 hD1
        have hP : va_P D vwCl (fb_wX0 cI h0 qf qn qw ql sz mi fg nt_279 wt wl_280 ++ fb_wX1 cI m0 pn pf pw yth_284 ych ynt_285 yfg ywt ymi ++ [(qo, .inl (cJ, 1, .inr (.inl ob_281)))]) H1 := hP.sub [0, 1, 2, 3, 4, 6, 7, 8, 9, 5] rfl
        have hD : va_D A (fb_wX0 cI h0 qf qn qw ql sz mi fg nt_279 wt wl_280 ++ fb_wX1 cI m0 pn pf pw yth_284 ych ynt_285 yfg ywt ymi ++ [(qo, .inl (cJ, 1, .inr (.inl ob_281)))]) := hD.sub [0, 1, 2, 3, 4, 6, 7, 8, 9, 5] (by decide) rfl
        generalize H1 = H at hP hS
        refine lv_istore (lv' := [(6, .int r283), (5, .int r278), (0, .ref b), (1, .ref h0), (2, .ref m0), (3, .ref qo), (4, .int v4)]) hx hb dL_law_1204 hl (by decide) rfl (fun ls hl => ?_)
        refine lv_aload_n hx hb dL_law_1206 rfl (lv_at hl 4 rfl) ?_
        obtain ⟨r287, h286, h⟩ := fb_b1s h
        have hPc : va_P D vwCl (fb_wX1 cI m0 pn pf pw yth_284 ych ynt_285 yfg ywt ymi) H := hP.sub [5, 6, 7, 8] rfl
        refine fb_callR (W.runV (As := []) (rest := []) ⟨hx, hb, hml, hown, hts⟩ (metX1_thrown l D cI m0 pn pf pw B0 yth_284 ych ynt_285 yfg ywt ymi  r287 h286) (cwV 0 hts gL_law_X1_thrown rfl rfl rfl (by decide +kernel) ⟨Nat.le_of_ble_eq_true rfl, Nat.le_of_ble_eq_true rfl⟩) (fb_preVR (ci := 1) fb_sX1p hPc hK1 hZY hS hAB rfl rfl _) rfl rfl hl.1 rfl (lv_room (Nat.le_of_ble_eq_true rfl)) dL_law_1207 ⟨(show ce + 3 + 0 ≤ 793323 by omega), (show sl + 12 + 0 ≤ 6716136 by omega)⟩) ?_
        refine lv_iload hx hb dL_law_1210 (lv_at hl 1 rfl) ?_
        refine lv_icmp_eq (tgt := 1217) hx hb dL_law_1212 (by decide) (fun c288 => ?_) (fun c288 => ?_)
        · replace h := fb_it c288 h
          refine lv_iload hx hb dL_law_1217 (lv_at hl 1 rfl) ?_
          refine lv_if_ne (tgt := 1234) hx hb dL_law_1219 (by decide) (fun c289 => ?_) (fun c289 => ?_)
          · replace h := fb_ie c289 h
            refine lv_goto (tgt := 1348) hx hb dL_law_1234 (by decide) ?_
            refine lv_iinc (v := v4 + 4) (lv' := [(4, .int (v4 + 4)), (6, .int r283), (5, .int r278), (0, .ref b), (1, .ref h0), (2, .ref m0), (3, .ref qo)]) hx hb dL_law_1348 hl (k := 6) rfl rfl (by decide) rfl (fun ls hl => ?_)
            refine lv_goto (tgt := 23) hx hb dL_law_1351 (by decide) ?_
            refine W.widen (k := ce + 64) (n := sl + 1024) (by omega) (by omega) ?_
            subst hsd0
            exact ih _ _ _ _ _ _ _ _ _ _ _ _ _ _ h _ _ (by omega) (by omega) d0 hd0 H locs hP hD hS ls (lv_sub hl [3, 4, 5, 6, 0] rfl)
          · replace h := fb_it c289 h
            refine lv_aload_n hx hb dL_law_1222 rfl (lv_at hl 5 rfl) ?_
            refine lv_iconst (v := 0) hx hb dL_law_1223 (by decide) ?_
            refine va_lald hx hb hK hP 9 1 rfl rfl (fb_ixin (by decide)) dL_law_1224 ?_
            refine lv_iload hx hb dL_law_1225 (lv_at hl 0 rfl) ?_
            refine lv_i2l hx hb dL_law_1227 rfl ?_
            refine W.lcmp hx hb dL_law_1228 ?_
            refine lv_if_eq (tgt := 1234) hx hb dL_law_1229 (by decide) (fun c290 => ?_) (fun c290 => ?_)
            · replace h := fb_it c290 h
              refine lv_goto (tgt := 1348) hx hb dL_law_1234 (by decide) ?_
              refine lv_iinc (v := v4 + 4) (lv' := [(4, .int (v4 + 4)), (6, .int r283), (5, .int r278), (0, .ref b), (1, .ref h0), (2, .ref m0), (3, .ref qo)]) hx hb dL_law_1348 hl (k := 6) rfl rfl (by decide) rfl (fun ls hl => ?_)
              refine lv_goto (tgt := 23) hx hb dL_law_1351 (by decide) ?_
              refine W.widen (k := ce + 64) (n := sl + 1024) (by omega) (by omega) ?_
              subst hsd0
              exact ih _ _ _ _ _ _ _ _ _ _ _ _ _ _ h _ _ (by omega) (by omega) d0 hd0 H locs hP hD hS ls (lv_sub hl [3, 4, 5, 6, 0] rfl)
            · replace h := fb_ie c290 h
              refine lv_iconst (v := 0) hx hb dL_law_1232 (by decide) ?_
              exact absurd (Option.some.inj h) (by decide)
        · replace h := fb_ie c288 h
          refine lv_iconst (v := 0) hx hb dL_law_1215 (by decide) ?_
          exact absurd (Option.some.inj h) (by decide)
      replace h := fb_ie c4_17 h
      by_cases c4_18 : ((xs v4.toNatClampNeg) &&& 31) = 18
      · replace h := fb_it c4_18 h
        refine lv_tableIn (off := 1198) (tgt := 1237) hx hb dL_law_39 (by rw [c4_18]; decide) (by rw [c4_18]; decide) (by rw [c4_18]; rfl) (by decide) ?_
        refine lv_aload_n hx hb dL_law_1237 rfl (lv_at hl 1 rfl) ?_
        refine lv_aload_n hx hb dL_law_1238 rfl (lv_at hl 0 rfl) ?_
        refine lv_iload hx hb dL_law_1239 (lv_at hl 4 rfl) ?_
        refine lv_iconst (v := 1) hx hb dL_law_1241 (by decide) ?_
        refine lv_iadd hx hb dL_law_1242 ?_
        obtain ⟨hi293, h⟩ := fb_cks h
        refine va_sld hx hb hX hbl hbA hS (fb_ixin hi293) dL_law_1243 ?_
        refine lv_aload_n hx hb dL_law_1244 rfl (lv_at hl 3 rfl) ?_
        obtain ⟨r295, fg_296, nt_297, wl_298, ob_299, h294, h⟩ := fb_b5s h
        have hPc : va_P D vwCl (fb_wL cI cJ h0 qf qn qw ql qo sz mi fg nt wt wl ob) H := hP.sub [0, 1, 2, 3, 4, 9] rfl
        have hDc : va_D A (fb_wL cI cJ h0 qf qn qw ql qo sz mi fg nt wt wl ob) := hD.sub [0, 1, 2, 3, 4, 9] (by decide) rfl
        have hFc := va_free (wc := fb_wL cI cJ h0 qf qn qw ql qo sz mi fg nt wt wl ob) hD hS hA [0, 1, 2, 3, 4, 9] rfl
        refine fb_callM (vx_runSW (As := [.ref h0, .int (xs (v4 + 1).toNatClampNeg), .ref qo]) (rest := []) ⟨hx, hb, hml, hown, hts⟩ (metL_advise l hfl D cI cJ h0 qf qn qw ql qo B0 sz mi fg nt wt wl ob (xs (v4 + 1).toNatClampNeg) H.size r295 fg_296 nt_297 wl_298 ob_299 h294) (vx_cwSW 3 hts gL_law_L_advise rfl rfl rfl (by decide +kernel) ⟨Nat.le_of_ble_eq_true rfl, Nat.le_of_ble_eq_true rfl⟩) (fb_preSM fb_sXTp hPc hK hDc hZT hS hAB hA _) rfl rfl hl.1 rfl (lv_room (Nat.le_of_ble_eq_true rfl)) dL_law_1245 ⟨(show ce + 0 + 1 ≤ 793323 by omega), (show sl + 0 + 6 ≤ 6716136 by omega)⟩) hS (fun q _ h9 => hFc q h9) hFc (fun _ H1 locs hP1 hD1 hz1 hk1 hS => ?_)
        obtain ⟨hP, hD⟩ := va_join (wr := fb_wX1 cI m0 pn pf pw yth ych ynt yfg ywt ymi) (w1 := fb_wL cI cJ h0 qf qn qw ql qo sz mi fg_296 nt_297 wt wl_298 ob_299) hP hD [0, 1, 2, 3, 4, 9] [5, 6, 7, 8] rfl rfl (by decide) (by decide) hk1 hFc hP1 hD1
        have hP : va_P D vwCl (fb_wX0 cI h0 qf qn qw ql sz mi fg_296 nt_297 wt wl_298 ++ fb_wX1 cI m0 pn pf pw yth ych ynt yfg ywt ymi ++ [(qo, .inl (cJ, 1, .inr (.inl ob_299)))]) H1 := hP.sub [4, 5, 6, 7, 8, 0, 1, 2, 3, 9] rfl
        have hD : va_D A (fb_wX0 cI h0 qf qn qw ql sz mi fg_296 nt_297 wt wl_298 ++ fb_wX1 cI m0 pn pf pw yth ych ynt yfg ywt ymi ++ [(qo, .inl (cJ, 1, .inr (.inl ob_299)))]) := hD.sub [4, 5, 6, 7, 8, 0, 1, 2, 3, 9] (by decide) rfl
        generalize H1 = H at hP hS
        refine lv_istore (lv' := [(5, .int r295), (0, .ref b), (1, .ref h0), (2, .ref m0), (3, .ref qo), (4, .int v4)]) hx hb dL_law_1248 hl (by decide) rfl (fun ls hl => ?_)
        refine lv_aload_n hx hb dL_law_1250 rfl (lv_at hl 3 rfl) ?_
        refine lv_aload_n hx hb dL_law_1251 rfl (lv_at hl 1 rfl) ?_
        refine lv_iload hx hb dL_law_1252 (lv_at hl 5 rfl) ?_
        refine lv_iconst (v := 1) hx hb dL_law_1254 (by decide) ?_
        refine lv_iadd hx hb dL_law_1255 ?_
        refine va_sld hx hb hX hbl hbA hS (fb_ixin hi293) dL_law_1256 ?_
        obtain ⟨r301, yth_302, ynt_303, yfg_304, h300, h⟩ := fb_b4s h
        have hPc : va_P D vwCl (fb_wX1 cI m0 pn pf pw yth ych ynt yfg ywt ymi) H := hP.sub [5, 6, 7, 8] rfl
        have hDc : va_D A (fb_wX1 cI m0 pn pf pw yth ych ynt yfg ywt ymi) := hD.sub [5, 6, 7, 8] (by decide) rfl
        have hFc := va_free (wc := fb_wX1 cI m0 pn pf pw yth ych ynt yfg ywt ymi) hD hS hA [5, 6, 7, 8] rfl
        refine fb_callM (va_runV (As := [.int (xs (v4 + 1).toNatClampNeg)]) (rest := []) ⟨hx, hb, hml, hown, hts⟩ (metX1_advise l D cI m0 pn pf pw B0 yth ych ynt yfg ywt ymi (xs (v4 + 1).toNatClampNeg) H.size r301 yth_302 ynt_303 yfg_304 h300) (cwV 1 hts gL_law_X1_advise rfl rfl rfl (by decide +kernel) ⟨Nat.le_of_ble_eq_true rfl, Nat.le_of_ble_eq_true rfl⟩) (fb_preVM (ci := 1) fb_sX1p hPc hK1 hDc hZY hS hAB hA rfl rfl _) rfl rfl hl.1 rfl (lv_room (Nat.le_of_ble_eq_true rfl)) dL_law_1257 ⟨(show ce + 1 + 28 ≤ 793323 by omega), (show sl + 6 + 84 ≤ 6716136 by omega)⟩) hS (fun q _ h9 => hFc q h9) hFc (fun _ H1 locs hP1 hD1 hz1 hk1 hS => ?_)
        obtain ⟨hP, hD⟩ := va_join (wr := fb_wX0 cI h0 qf qn qw ql sz mi fg_296 nt_297 wt wl_298 ++ [(qo, .inl (cJ, 1, .inr (.inl ob_299)))]) (w1 := fb_wX1 cI m0 pn pf pw yth_302 ych ynt_303 yfg_304 ywt ymi) hP hD [5, 6, 7, 8] [0, 1, 2, 3, 4, 9] rfl rfl (by decide) (by decide) hk1 hFc hP1 hD1
        have hP : va_P D vwCl (fb_wX0 cI h0 qf qn qw ql sz mi fg_296 nt_297 wt wl_298 ++ fb_wX1 cI m0 pn pf pw yth_302 ych ynt_303 yfg_304 ywt ymi ++ [(qo, .inl (cJ, 1, .inr (.inl ob_299)))]) H1 := hP.sub [0, 1, 2, 3, 4, 6, 7, 8, 9, 5] rfl
        have hD : va_D A (fb_wX0 cI h0 qf qn qw ql sz mi fg_296 nt_297 wt wl_298 ++ fb_wX1 cI m0 pn pf pw yth_302 ych ynt_303 yfg_304 ywt ymi ++ [(qo, .inl (cJ, 1, .inr (.inl ob_299)))]) := hD.sub [0, 1, 2, 3, 4, 6, 7, 8, 9, 5] (by decide) rfl
        generalize H1 = H at hP hS
        refine lv_istore (lv' := [(6, .int r301), (5, .int r295), (0, .ref b), (1, .ref h0), (2, .ref m0), (3, .ref qo), (4, .int v4)]) hx hb dL_law_1260 hl (by decide) rfl (fun ls hl => ?_)
        refine lv_aload_n hx hb dL_law_1262 rfl (lv_at hl 4 rfl) ?_
        obtain ⟨r306, h305, h⟩ := fb_b1s h
        have hPc : va_P D vwCl (fb_wX1 cI m0 pn pf pw yth_302 ych ynt_303 yfg_304 ywt ymi) H := hP.sub [5, 6, 7, 8] rfl
        refine fb_callR (W.runV (As := []) (rest := []) ⟨hx, hb, hml, hown, hts⟩ (metX1_thrown l D cI m0 pn pf pw B0 yth_302 ych ynt_303 yfg_304 ywt ymi  r306 h305) (cwV 0 hts gL_law_X1_thrown rfl rfl rfl (by decide +kernel) ⟨Nat.le_of_ble_eq_true rfl, Nat.le_of_ble_eq_true rfl⟩) (fb_preVR (ci := 1) fb_sX1p hPc hK1 hZY hS hAB rfl rfl _) rfl rfl hl.1 rfl (lv_room (Nat.le_of_ble_eq_true rfl)) dL_law_1263 ⟨(show ce + 29 + 0 ≤ 793323 by omega), (show sl + 90 + 0 ≤ 6716136 by omega)⟩) ?_
        refine lv_iload hx hb dL_law_1266 (lv_at hl 1 rfl) ?_
        refine lv_icmp_eq (tgt := 1273) hx hb dL_law_1268 (by decide) (fun c307 => ?_) (fun c307 => ?_)
        · replace h := fb_it c307 h
          refine lv_iload hx hb dL_law_1273 (lv_at hl 1 rfl) ?_
          refine lv_if_ne (tgt := 1290) hx hb dL_law_1275 (by decide) (fun c308 => ?_) (fun c308 => ?_)
          · replace h := fb_ie c308 h
            refine lv_goto (tgt := 1348) hx hb dL_law_1290 (by decide) ?_
            refine lv_iinc (v := v4 + 4) (lv' := [(4, .int (v4 + 4)), (6, .int r301), (5, .int r295), (0, .ref b), (1, .ref h0), (2, .ref m0), (3, .ref qo)]) hx hb dL_law_1348 hl (k := 6) rfl rfl (by decide) rfl (fun ls hl => ?_)
            refine lv_goto (tgt := 23) hx hb dL_law_1351 (by decide) ?_
            refine W.widen (k := ce + 64) (n := sl + 1024) (by omega) (by omega) ?_
            subst hsd0
            exact ih _ _ _ _ _ _ _ _ _ _ _ _ _ _ h _ _ (by omega) (by omega) d0 hd0 H locs hP hD hS ls (lv_sub hl [3, 4, 5, 6, 0] rfl)
          · replace h := fb_it c308 h
            refine lv_aload_n hx hb dL_law_1278 rfl (lv_at hl 5 rfl) ?_
            refine lv_iconst (v := 0) hx hb dL_law_1279 (by decide) ?_
            refine va_lald hx hb hK hP 9 1 rfl rfl (fb_ixin (by decide)) dL_law_1280 ?_
            refine lv_iload hx hb dL_law_1281 (lv_at hl 0 rfl) ?_
            refine lv_i2l hx hb dL_law_1283 rfl ?_
            refine W.lcmp hx hb dL_law_1284 ?_
            refine lv_if_eq (tgt := 1290) hx hb dL_law_1285 (by decide) (fun c309 => ?_) (fun c309 => ?_)
            · replace h := fb_it c309 h
              refine lv_goto (tgt := 1348) hx hb dL_law_1290 (by decide) ?_
              refine lv_iinc (v := v4 + 4) (lv' := [(4, .int (v4 + 4)), (6, .int r301), (5, .int r295), (0, .ref b), (1, .ref h0), (2, .ref m0), (3, .ref qo)]) hx hb dL_law_1348 hl (k := 6) rfl rfl (by decide) rfl (fun ls hl => ?_)
              refine lv_goto (tgt := 23) hx hb dL_law_1351 (by decide) ?_
              refine W.widen (k := ce + 64) (n := sl + 1024) (by omega) (by omega) ?_
              subst hsd0
              exact ih _ _ _ _ _ _ _ _ _ _ _ _ _ _ h _ _ (by omega) (by omega) d0 hd0 H locs hP hD hS ls (lv_sub hl [3, 4, 5, 6, 0] rfl)
            · replace h := fb_ie c309 h
              refine lv_iconst (v := 0) hx hb dL_law_1288 (by decide) ?_
              exact absurd (Option.some.inj h) (by decide)
        · replace h := fb_ie c307 h
          refine lv_iconst (v := 0) hx hb dL_law_1271 (by decide) ?_
          exact absurd (Option.some.inj h) (by decide)
      replace h := fb_ie c4_18 h
      by_cases c4_19 : ((xs v4.toNatClampNeg) &&& 31) = 19
      · replace h := fb_it c4_19 h
        refine lv_tableIn (off := 1254) (tgt := 1293) hx hb dL_law_39 (by rw [c4_19]; decide) (by rw [c4_19]; decide) (by rw [c4_19]; rfl) (by decide) ?_
        refine lv_aload_n hx hb dL_law_1293 rfl (lv_at hl 1 rfl) ?_
        obtain ⟨r313, h312, h⟩ := fb_b1s h
        have hPc : va_P D vwCl (fb_wX0 cI h0 qf qn qw ql sz mi fg nt wt wl) H := hP.sub [0, 1, 2, 3, 4] rfl
        have hDc : va_D A (fb_wX0 cI h0 qf qn qw ql sz mi fg nt wt wl) := hD.sub [0, 1, 2, 3, 4] (by decide) rfl
        have hFc := va_free (wc := fb_wX0 cI h0 qf qn qw ql sz mi fg nt wt wl) hD hS hA [0, 1, 2, 3, 4] rfl
        refine W.base ?_
        refine va_calldD (Drawn.sameBut.refl _ lw_cs) (va_runV_D (As := []) (rest := []) ⟨hx, hb, hml, hown, hts⟩ (metX0_mean l D cI h0 qf qn qw ql B0 sz mi fg nt wt wl  H.size r313 h312) (cwV 0 hts gL_law_X0_mean rfl rfl rfl (by decide +kernel) ⟨Nat.le_of_ble_eq_true rfl, Nat.le_of_ble_eq_true rfl⟩) (fb_preVM (ci := 0) fb_sX0p hPc hK1 hDc hZ hS hAB hA rfl rfl _) rfl rfl hl.1 rfl (lv_room (Nat.le_of_ble_eq_true rfl)) dL_law_1294 ⟨(show ce + 0 + 0 ≤ 793323 by omega), (show sl + 0 + 0 ≤ 6716136 by omega)⟩) hS (fun q _ h9 => hFc q h9) hFc (fun rd1 _ t9 H1 locs ht9 _ hal1 hB9 hz1 hk1 hS d1 hd1 => ?_)
        obtain ⟨hP1, hD1⟩ := hB9
        rw [ht9] at hP1
        obtain ⟨hP, hD⟩ := va_join (wr := fb_wX1 cI m0 pn pf pw yth ych ynt yfg ywt ymi ++ [(qo, .inl (cJ, 1, .inr (.inl ob)))]) (w1 := fb_wX0 cI h0 qf qn qw ql sz mi fg nt wt wl) hP hD [0, 1, 2, 3, 4] [5, 6, 7, 8, 9] rfl rfl (by decide) (by decide) hk1 hFc hP1 hD1
        have hP : va_P D vwCl (fb_wX0 cI h0 qf qn qw ql sz mi fg nt wt wl ++ fb_wX1 cI m0 pn pf pw yth ych ynt yfg ywt ymi ++ [(qo, .inl (cJ, 1, .inr (.inl ob)))]) H1 := hP.sub [5, 6, 7, 8, 9, 0, 1, 2, 3, 4] rfl
        have hD : va_D A (fb_wX0 cI h0 qf qn qw ql sz mi fg nt wt wl ++ fb_wX1 cI m0 pn pf pw yth ych ynt yfg ywt ymi ++ [(qo, .inl (cJ, 1, .inr (.inl ob)))]) := hD.sub [5, 6, 7, 8, 9, 0, 1, 2, 3, 4] (by decide) rfl
        generalize H1 = H at hP hS
        generalize hsd1 : s.setDrawn d1 = s
        have hheap : s.heap = s0.heap := by rw [← hsd1]; exact hheap
        have hts : ∀ w ∈ wsL_law, w.before #[Value.ref b] s = true := by rw [← hsd1]; exact dr_words hts _
        have hK : va_K D vwCl [(cI, .int), (cJ, .long)] s := by rw [← hsd1]; exact hK
        have hK1 : va_K D vwCl [(cI, .int)] s := hK.sub [0] rfl
        have hZT : fb_sXT (fun q => B0 ≤ q) s s.heap := by rw [← hsd1]; exact fb_sXTp.1 _ _ _ _ (State.WarmedH.refl _) hZT
        have hZ := hZT.1
        have hZY : fb_sX1 (fun q => B0 ≤ q) s s.heap := by rw [← hsd1]; exact fb_sX1p.1 _ _ _ _ (State.WarmedH.refl _) hZY
        have hown : s.vm.findClass RL = some m.cls := by rw [← hsd1]; exact hown
        have hX : va_X b L xs s s.heap := by rw [← hsd1]; exact hX
        have hbl : b < s.heap.size := by rw [hheap]; exact hbl0
        have hA : ∀ q : Nat, s.heap.size ≤ q → A q := by rw [hAd, hheap]; exact fun _ h9 => h9
        have hS : va_S A s.heap H locs := by rw [← hsd1]; exact hS
        refine lv_dstore (lv' := [(5, .double rd1), (0, .ref b), (1, .ref h0), (2, .ref m0), (3, .ref qo), (4, .int v4)]) hx hb dL_law_1297 hl (by decide) rfl (fun ls hl => ?_)
        refine lv_aload_n hx hb dL_law_1299 rfl (lv_at hl 3 rfl) ?_
        obtain ⟨r315, yth_316, h314, h⟩ := fb_b2s h
        have hPc : va_P D vwCl (fb_wX1 cI m0 pn pf pw yth ych ynt yfg ywt ymi) H := hP.sub [5, 6, 7, 8] rfl
        have hDc : va_D A (fb_wX1 cI m0 pn pf pw yth ych ynt yfg ywt ymi) := hD.sub [5, 6, 7, 8] (by decide) rfl
        have hFc := va_free (wc := fb_wX1 cI m0 pn pf pw yth ych ynt yfg ywt ymi) hD hS hA [5, 6, 7, 8] rfl
        refine W.base ?_
        refine va_calldD (Drawn.sameBut.refl _ lw_cs) (va_runV_D (As := []) (rest := []) ⟨hx, hb, hml, hown, hts⟩ (metX1_mean l D cI m0 pn pf pw B0 yth ych ynt yfg ywt ymi  H.size r315 yth_316 h314) (cwV 0 hts gL_law_X1_mean rfl rfl rfl (by decide +kernel) ⟨Nat.le_of_ble_eq_true rfl, Nat.le_of_ble_eq_true rfl⟩) (fb_preVM (ci := 1) fb_sX1p hPc hK1 hDc hZY hS hAB hA rfl rfl _) rfl rfl hl.1 rfl (lv_room (Nat.le_of_ble_eq_true rfl)) dL_law_1300 ⟨(show ce + 0 + 0 ≤ 793323 by omega), (show sl + 0 + 0 ≤ 6716136 by omega)⟩) hS (fun q _ h9 => hFc q h9) hFc (fun rd2 _ t9 H1 locs ht9 _ hal2 hB9 hz1 hk1 hS d2 hd2 => ?_)
        obtain ⟨hP1, hD1⟩ := hB9
        rw [ht9] at hP1
        obtain ⟨hP, hD⟩ := va_join (wr := fb_wX0 cI h0 qf qn qw ql sz mi fg nt wt wl ++ [(qo, .inl (cJ, 1, .inr (.inl ob)))]) (w1 := fb_wX1 cI m0 pn pf pw yth_316 ych ynt yfg ywt ymi) hP hD [5, 6, 7, 8] [0, 1, 2, 3, 4, 9] rfl rfl (by decide) (by decide) hk1 hFc hP1 hD1
        have hP : va_P D vwCl (fb_wX0 cI h0 qf qn qw ql sz mi fg nt wt wl ++ fb_wX1 cI m0 pn pf pw yth_316 ych ynt yfg ywt ymi ++ [(qo, .inl (cJ, 1, .inr (.inl ob)))]) H1 := hP.sub [0, 1, 2, 3, 4, 6, 7, 8, 9, 5] rfl
        have hD : va_D A (fb_wX0 cI h0 qf qn qw ql sz mi fg nt wt wl ++ fb_wX1 cI m0 pn pf pw yth_316 ych ynt yfg ywt ymi ++ [(qo, .inl (cJ, 1, .inr (.inl ob)))]) := hD.sub [0, 1, 2, 3, 4, 6, 7, 8, 9, 5] (by decide) rfl
        generalize H1 = H at hP hS
        generalize hsd2 : s.setDrawn d2 = s
        have hheap : s.heap = s0.heap := by rw [← hsd2]; exact hheap
        have hts : ∀ w ∈ wsL_law, w.before #[Value.ref b] s = true := by rw [← hsd2]; exact dr_words hts _
        have hK : va_K D vwCl [(cI, .int), (cJ, .long)] s := by rw [← hsd2]; exact hK
        have hK1 : va_K D vwCl [(cI, .int)] s := hK.sub [0] rfl
        have hZT : fb_sXT (fun q => B0 ≤ q) s s.heap := by rw [← hsd2]; exact fb_sXTp.1 _ _ _ _ (State.WarmedH.refl _) hZT
        have hZ := hZT.1
        have hZY : fb_sX1 (fun q => B0 ≤ q) s s.heap := by rw [← hsd2]; exact fb_sX1p.1 _ _ _ _ (State.WarmedH.refl _) hZY
        have hown : s.vm.findClass RL = some m.cls := by rw [← hsd2]; exact hown
        have hX : va_X b L xs s s.heap := by rw [← hsd2]; exact hX
        have hbl : b < s.heap.size := by rw [hheap]; exact hbl0
        have hA : ∀ q : Nat, s.heap.size ≤ q → A q := by rw [hAd, hheap]; exact fun _ h9 => h9
        have hS : va_S A s.heap H locs := by rw [← hsd2]; exact hS
        refine lv_dstore (lv' := [(7, .double rd2), (5, .double rd1), (0, .ref b), (1, .ref h0), (2, .ref m0), (3, .ref qo), (4, .int v4)]) hx hb dL_law_1303 hl (by decide) rfl (fun ls hl => ?_)
        refine lv_dload hx hb dL_law_1305 (lv_at hl 1 rfl) ?_
        refine lv_dload hx hb dL_law_1307 (lv_at hl 0 rfl) ?_
        refine lv_dcmp hx hb dL_law_1309 ?_
        obtain ⟨hdd, h⟩ := fb_cks h
        have hdq := fb_dq hal1 hal2 (of_decide_eq_true hdd)
        refine lv_if_eq (tgt := 1331) hx hb dL_law_1310 (by decide) (fun c317 => ?_) (fun c317 => ?_)
        · refine lv_goto (tgt := 1348) hx hb dL_law_1331 (by decide) ?_
          refine lv_iinc (v := v4 + 4) (lv' := [(4, .int (v4 + 4)), (7, .double rd2), (5, .double rd1), (0, .ref b), (1, .ref h0), (2, .ref m0), (3, .ref qo)]) hx hb dL_law_1348 hl (k := 6) rfl rfl (by decide) rfl (fun ls hl => ?_)
          refine lv_goto (tgt := 23) hx hb dL_law_1351 (by decide) ?_
          refine W.widen (k := ce + 64) (n := sl + 1024) (by omega) (by omega) ?_
          subst hsd2
          subst hsd1
          subst hsd0
          exact ih _ _ _ _ _ _ _ _ _ _ _ _ _ _ h _ _ (by omega) (by omega) d2 (hd0.trans (Drawn.sameBut.trans hd1 hd2)) H locs hP hD hS ls (lv_sub hl [3, 4, 5, 6, 0] rfl)
        · refine lv_dload hx hb dL_law_1313 (lv_at hl 1 rfl) ?_
          refine lv_dload hx hb dL_law_1315 (lv_at hl 1 rfl) ?_
          refine lv_dcmp hx hb dL_law_1317 ?_
          refine lv_if_eq (tgt := 1329) hx hb dL_law_1318 (by decide) (fun c318 => ?_) (fun c318 => ?_)
          · refine lv_iconst (v := 0) hx hb dL_law_1329 (by decide) ?_
            rcases hdq with z | ⟨z1, z2⟩ <;> contradiction
          · refine lv_dload hx hb dL_law_1321 (lv_at hl 0 rfl) ?_
            refine lv_dload hx hb dL_law_1323 (lv_at hl 0 rfl) ?_
            refine lv_dcmp hx hb dL_law_1325 ?_
            refine lv_if_ne (tgt := 1331) hx hb dL_law_1326 (by decide) (fun c320 => ?_) (fun c320 => ?_)
            · refine lv_goto (tgt := 1348) hx hb dL_law_1331 (by decide) ?_
              refine lv_iinc (v := v4 + 4) (lv' := [(4, .int (v4 + 4)), (7, .double rd2), (5, .double rd1), (0, .ref b), (1, .ref h0), (2, .ref m0), (3, .ref qo)]) hx hb dL_law_1348 hl (k := 6) rfl rfl (by decide) rfl (fun ls hl => ?_)
              refine lv_goto (tgt := 23) hx hb dL_law_1351 (by decide) ?_
              refine W.widen (k := ce + 64) (n := sl + 1024) (by omega) (by omega) ?_
              subst hsd2
              subst hsd1
              subst hsd0
              exact ih _ _ _ _ _ _ _ _ _ _ _ _ _ _ h _ _ (by omega) (by omega) d2 (hd0.trans (Drawn.sameBut.trans hd1 hd2)) H locs hP hD hS ls (lv_sub hl [3, 4, 5, 6, 0] rfl)
            · refine lv_iconst (v := 0) hx hb dL_law_1329 (by decide) ?_
              rcases hdq with z | ⟨z1, z2⟩ <;> contradiction
      replace h := fb_ie c4_19 h
      by_cases c4_20 : ((xs v4.toNatClampNeg) &&& 31) = 20
      · replace h := fb_it c4_20 h
        refine lv_tableIn (off := 1295) (tgt := 1334) hx hb dL_law_39 (by rw [c4_20]; decide) (by rw [c4_20]; decide) (by rw [c4_20]; rfl) (by decide) ?_
        refine lv_aload_n hx hb dL_law_1334 rfl (lv_at hl 1 rfl) ?_
        obtain ⟨r323, wl_324, h322, h⟩ := fb_b2s h
        have hPc : va_P D vwCl (fb_wX0 cI h0 qf qn qw ql sz mi fg nt wt wl) H := hP.sub [0, 1, 2, 3, 4] rfl
        have hDc : va_D A (fb_wX0 cI h0 qf qn qw ql sz mi fg nt wt wl) := hD.sub [0, 1, 2, 3, 4] (by decide) rfl
        have hFc := va_free (wc := fb_wX0 cI h0 qf qn qw ql sz mi fg nt wt wl) hD hS hA [0, 1, 2, 3, 4] rfl
        refine fb_callM (va_runV (As := []) (rest := []) ⟨hx, hb, hml, hown, hts⟩ (metX0_digest l D cI h0 qf qn qw ql B0 sz mi fg nt wt wl  H.size r323 wl_324 h322) (cwV 0 hts gL_law_X0_digest rfl rfl rfl (by decide +kernel) ⟨Nat.le_of_ble_eq_true rfl, Nat.le_of_ble_eq_true rfl⟩) (fb_preVM (ci := 0) fb_sX0p hPc hK1 hDc hZ hS hAB hA rfl rfl _) rfl rfl hl.1 rfl (lv_room (Nat.le_of_ble_eq_true rfl)) dL_law_1335 ⟨(show ce + 0 + 0 ≤ 793323 by omega), (show sl + 0 + 0 ≤ 6716136 by omega)⟩) hS (fun q _ h9 => hFc q h9) hFc (fun _ H1 locs hP1 hD1 hz1 hk1 hS => ?_)
        obtain ⟨hP, hD⟩ := va_join (wr := fb_wX1 cI m0 pn pf pw yth ych ynt yfg ywt ymi ++ [(qo, .inl (cJ, 1, .inr (.inl ob)))]) (w1 := fb_wX0 cI h0 qf qn qw ql sz mi fg nt wt wl_324) hP hD [0, 1, 2, 3, 4] [5, 6, 7, 8, 9] rfl rfl (by decide) (by decide) hk1 hFc hP1 hD1
        have hP : va_P D vwCl (fb_wX0 cI h0 qf qn qw ql sz mi fg nt wt wl_324 ++ fb_wX1 cI m0 pn pf pw yth ych ynt yfg ywt ymi ++ [(qo, .inl (cJ, 1, .inr (.inl ob)))]) H1 := hP.sub [5, 6, 7, 8, 9, 0, 1, 2, 3, 4] rfl
        have hD : va_D A (fb_wX0 cI h0 qf qn qw ql sz mi fg nt wt wl_324 ++ fb_wX1 cI m0 pn pf pw yth ych ynt yfg ywt ymi ++ [(qo, .inl (cJ, 1, .inr (.inl ob)))]) := hD.sub [5, 6, 7, 8, 9, 0, 1, 2, 3, 4] (by decide) rfl
        generalize H1 = H at hP hS
        refine lv_aload_n hx hb dL_law_1338 rfl (lv_at hl 2 rfl) ?_
        obtain ⟨r326, yth_327, ynt_328, h325, h⟩ := fb_b3s h
        have hPc : va_P D vwCl (fb_wX1 cI m0 pn pf pw yth ych ynt yfg ywt ymi) H := hP.sub [5, 6, 7, 8] rfl
        have hDc : va_D A (fb_wX1 cI m0 pn pf pw yth ych ynt yfg ywt ymi) := hD.sub [5, 6, 7, 8] (by decide) rfl
        have hFc := va_free (wc := fb_wX1 cI m0 pn pf pw yth ych ynt yfg ywt ymi) hD hS hA [5, 6, 7, 8] rfl
        refine fb_callM (va_runV (As := []) (rest := [.long r323]) ⟨hx, hb, hml, hown, hts⟩ (metX1_digest l D cI m0 pn pf pw B0 yth ych ynt yfg ywt ymi  H.size r326 yth_327 ynt_328 h325) (cwV 0 hts gL_law_X1_digest rfl rfl rfl (by decide +kernel) ⟨Nat.le_of_ble_eq_true rfl, Nat.le_of_ble_eq_true rfl⟩) (fb_preVM (ci := 1) fb_sX1p hPc hK1 hDc hZY hS hAB hA rfl rfl _) rfl rfl hl.1 rfl (lv_room (Nat.le_of_ble_eq_true rfl)) dL_law_1339 ⟨(show ce + 0 + 28 ≤ 793323 by omega), (show sl + 0 + 84 ≤ 6716136 by omega)⟩) hS (fun q _ h9 => hFc q h9) hFc (fun _ H1 locs hP1 hD1 hz1 hk1 hS => ?_)
        obtain ⟨hP, hD⟩ := va_join (wr := fb_wX0 cI h0 qf qn qw ql sz mi fg nt wt wl_324 ++ [(qo, .inl (cJ, 1, .inr (.inl ob)))]) (w1 := fb_wX1 cI m0 pn pf pw yth_327 ych ynt_328 yfg ywt ymi) hP hD [5, 6, 7, 8] [0, 1, 2, 3, 4, 9] rfl rfl (by decide) (by decide) hk1 hFc hP1 hD1
        have hP : va_P D vwCl (fb_wX0 cI h0 qf qn qw ql sz mi fg nt wt wl_324 ++ fb_wX1 cI m0 pn pf pw yth_327 ych ynt_328 yfg ywt ymi ++ [(qo, .inl (cJ, 1, .inr (.inl ob)))]) H1 := hP.sub [0, 1, 2, 3, 4, 6, 7, 8, 9, 5] rfl
        have hD : va_D A (fb_wX0 cI h0 qf qn qw ql sz mi fg nt wt wl_324 ++ fb_wX1 cI m0 pn pf pw yth_327 ych ynt_328 yfg ywt ymi ++ [(qo, .inl (cJ, 1, .inr (.inl ob)))]) := hD.sub [0, 1, 2, 3, 4, 6, 7, 8, 9, 5] (by decide) rfl
        generalize H1 = H at hP hS
        refine W.lcmp hx hb dL_law_1342 ?_
        refine lv_if_eq (tgt := 1348) hx hb dL_law_1343 (by decide) (fun c329 => ?_) (fun c329 => ?_)
        · replace h := fb_it c329 h
          refine lv_iinc (v := v4 + 4) (lv' := [(4, .int (v4 + 4)), (0, .ref b), (1, .ref h0), (2, .ref m0), (3, .ref qo)]) hx hb dL_law_1348 hl (k := 4) rfl rfl (by decide) rfl (fun ls hl => ?_)
          refine lv_goto (tgt := 23) hx hb dL_law_1351 (by decide) ?_
          refine W.widen (k := ce + 64) (n := sl + 1024) (by omega) (by omega) ?_
          subst hsd0
          exact ih _ _ _ _ _ _ _ _ _ _ _ _ _ _ h _ _ (by omega) (by omega) d0 hd0 H locs hP hD hS ls (lv_sub hl [1, 2, 3, 4, 0] rfl)
        · replace h := fb_ie c329 h
          refine lv_iconst (v := 0) hx hb dL_law_1346 (by decide) ?_
          exact absurd (Option.some.inj h) (by decide)
      replace h := fb_ie c4_20 h
      refine lv_tableOut (tgt := 1348) hx hb dL_law_39 (by have e0 := lv_neT (a := 0) c4_0 (by decide); have e1 := lv_neT (a := 1) c4_1 (by decide); have e2 := lv_neT (a := 2) c4_2 (by decide); have e3 := lv_neT (a := 3) c4_3 (by decide); have e4 := lv_neT (a := 4) c4_4 (by decide); have e5 := lv_neT (a := 5) c4_5 (by decide); have e6 := lv_neT (a := 6) c4_6 (by decide); have e7 := lv_neT (a := 7) c4_7 (by decide); have e8 := lv_neT (a := 8) c4_8 (by decide); have e9 := lv_neT (a := 9) c4_9 (by decide); have e10 := lv_neT (a := 10) c4_10 (by decide); have e11 := lv_neT (a := 11) c4_11 (by decide); have e12 := lv_neT (a := 12) c4_12 (by decide); have e13 := lv_neT (a := 13) c4_13 (by decide); have e14 := lv_neT (a := 14) c4_14 (by decide); have e15 := lv_neT (a := 15) c4_15 (by decide); have e16 := lv_neT (a := 16) c4_16 (by decide); have e17 := lv_neT (a := 17) c4_17 (by decide); have e18 := lv_neT (a := 18) c4_18 (by decide); have e19 := lv_neT (a := 19) c4_19 (by decide); have e20 := lv_neT (a := 20) c4_20 (by decide); omega) (by decide) ?_
      refine lv_iinc (v := v4 + 4) (lv' := [(4, .int (v4 + 4)), (0, .ref b), (1, .ref h0), (2, .ref m0), (3, .ref qo)]) hx hb dL_law_1348 hl (k := 4) rfl rfl (by decide) rfl (fun ls hl => ?_)
      refine lv_goto (tgt := 23) hx hb dL_law_1351 (by decide) ?_
      refine W.widen (k := ce + 64) (n := sl + 1024) (by omega) (by omega) ?_
      subst hsd0
      exact ih _ _ _ _ _ _ _ _ _ _ _ _ _ _ h _ _ (by omega) (by omega) d0 hd0 H locs hP hD hS ls (lv_sub hl [1, 2, 3, 4, 0] rfl)
