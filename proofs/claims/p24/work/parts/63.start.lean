/-! The law, from its entry. -/
theorem fm_preT {D : va_G} {tys : List (ClassId × FieldType)} {S : (Nat → Prop) → State → Heap → Prop} {s : State} {H : Heap} (hSP : fb_SP S) (hK : va_K D vwCl tys s) (hZ : S (fun q => H.size ≤ q) s H) (As : List Value) : PreS s H (va_Pc As (fb_pm D tys H.size S [] H.size)) As :=
  ⟨fb_blindM hSP, fun U hU hW => ⟨rfl, by rw [hU], ⟨fm_nil, hK.moved hW.alike, by rw [hU]; exact hSP.1 _ _ _ _ hW hZ⟩, fm_nilD, fun q h => fm_nilA h⟩⟩
set_option maxHeartbeats 8000000 in
set_option maxRecDepth 100000 in
theorem whole_start {p : Program} {e : Env} {s : State} {m : MethodId} {below : List Frame} {meth : Method} {c : Code} (l : Launch) (hflags : l.flags = flags0) {b L : Nat} {xs : Nat → Int32} (hL : L ≤ 260) (C0 : lw_At p s m meth c b L xs) : W p l e room_1 s m #[Value.ref b] below meth c s.heap [] 0 0 (lw_Z below #[Value.ref b] s) (entryFrame m ([Value.ref b] : List Value).toArray 20) := by
  obtain ⟨hx, hb, hr, hml, hown, hts0, hX, hbl, hlocks, hgv⟩ := id C0
  have hg : ∀ w ∈ fs_big, w.before #[Value.ref b] s = true := flat_of_before _ hgv
  have hts : ∀ w ∈ wsL_law, w.before #[Value.ref b] s = true := fun w h => hts0 w (wsL_law_in w h)
  have hfl : l.stackTraces = false := by
    unfold Launch.stackTraces
    rw [hflags]
    decide +kernel
  have hA : ∀ q : Nat, s.heap.size ≤ q → (fun q : Nat => s.heap.size ≤ q) q := fun _ h => h
  have hAB : ∀ q : Nat, (fun q : Nat => s.heap.size ≤ q) q → s.heap.size ≤ q := fun _ h => h
  obtain ⟨c0, iS0, hKn0⟩ := u_known (C := RX0) (T := TX0) (N := 6) (n := 6) hts0 inX0 (hts0 _ fs_in0)
  obtain ⟨D, hKc⟩ : ∃ D : va_G, ∀ (k : Nat) (q : vw_C), vwCl[k]? = some q → u_Kn s q.1 q.2.1 q.2.2 (D.1 k) (D.2 k) := by
    refine ⟨(fun _ => c0, fun _ => iS0), ?_⟩
    intro k q hq
    match k, hq with
    | 0, hq => cases hq; exact hKn0
    | k + 1, hq => simp [vwCl] at hq
  obtain ⟨cI, hI1, hI2⟩ := fs_arr (fun C h => by cases h) (hts0 _ fs_ai)
  have hAO : fm_AO s := fm_AO_of (hts0 _ fs_ao)
  obtain ⟨comp, cR, kR, -, -, r3, r4, r5⟩ := arrayOverA_spec (args := #[]) (first := s) (s := s) (o := none) (idx := []) hAO
  have hK : va_K D vwCl [(cI, .int), (cR, .array .int)] s := by
    refine ⟨hKc, fun k q h => ?_⟩
    match k, h with
    | 0, h => cases h; exact ⟨hI1, hI2⟩
    | 1, h => cases h; exact ⟨fun n z => ⟨(fun k h => by cases h), kR, r3, comp, r4⟩, r5⟩
    | k + 2, h => simp at h
  have hK1 : va_K D vwCl [(cI, .int)] s := hK.sub [0] rfl
  have hZT : fb_sXT (fun q => s.heap.size ≤ q) s s.heap := ⟨fs_X0 hts0 hg, fs_E hts0 hg⟩
  have hZ : fb_sc b L xs (fun q => s.heap.size ≤ q) s s.heap := ⟨hX, Nat.not_le.mpr hbl⟩
  have hS : va_S (fun q : Nat => s.heap.size ≤ q) s.heap s.heap [] := va_S.rf
  have hl := lv_entry ([.ref b]) (n := 20) (Nat.le_of_ble_eq_true rfl)
  rw [lg_entry_eq]
  generalize (lg_sl ([.ref b]) ++ List.replicate (20 - (lg_sl ([.ref b])).length) Slot.unset).toArray = ls at hl ⊢
  have hl : lv_has ls 20 [(0, .ref b)] := hl
  refine lv_aload_n hx hb dL_law_0 rfl (lv_at hl 0 rfl) ?_
  refine fm_callG (P := fun oc t => ∃ (qr n : Nat) (rs : fm_R), oc = .returned (some (.ref qr)) ∧ 2 ≤ n ∧ n ≤ 7 ∧ rs.length = n ∧ (∀ r ∈ rs, fm_good r.2) ∧ va_P D vwCl (fm_wT cI cR qr n rs) t.heap ∧ va_D (va_A [] s.heap.size) (fm_wT cI cR qr n rs)) (A1 := va_A [] s.heap.size) (va_runS (As := [.ref b]) (rest := []) ⟨hx, hb, hml, hown, hts⟩ (metL_rowOf l D cI cR b L xs hL s.heap.size s.heap.size) (va_cwS 1 hts gL_law_L_rowOf rfl rfl rfl (by decide +kernel) ⟨Nat.le_of_ble_eq_true rfl, Nat.le_of_ble_eq_true rfl⟩) (fb_preSM (fm_SLp b L xs) fm_nil hK fm_nilD ⟨hZ, hAO⟩ hS hAB hA _) rfl rfl hl.1 rfl (lv_room (Nat.le_of_ble_eq_true rfl)) dL_law_1 ⟨Nat.le_of_ble_eq_true rfl, Nat.le_of_ble_eq_true rfl⟩) hS (fun q _ h9 => fm_nilA h9) (fun q h9 => fm_nilA h9) (fun v t H locs ht hp _ _ hS => ?_)
  obtain ⟨qr, n, rs, hv, hn2, hn7, hlen, hrs, hPT, hDT⟩ := hp
  cases hv
  rw [ht] at hPT
  refine lv_astore_n (lv' := [(1, .ref qr), (0, .ref b)]) hx hb dL_law_4 rfl hl (by decide) rfl (fun ls hl => ?_)
  refine lv_aload_n hx hb dL_law_5 rfl (lv_at hl 1 rfl) ?_
  refine lv_aload_n hx hb dL_law_6 rfl (lv_at hl 0 rfl) ?_
  have hnar : ∀ q : Nat, H.size ≤ q → s.heap.size ≤ q := fun q h => Nat.le_trans hS.1 h
  have hZD : fm_SD b L xs D (fm_wT cI cR qr n rs) (fun q => H.size ≤ q) s H := ⟨fb_sXTp.2.2 _ _ _ _ (fb_stH fb_sXTp hZT hS hAB) hnar, (fb_scp b L xs).2.2 _ _ _ _ (fb_stH (fb_scp b L xs) hZ hS hAB) hnar, hPT, fun k x hx z => absurd z (Nat.not_le.mpr ((hPT k x hx).lt))⟩
  refine fm_callG (P := fun oc t => ∃ (h0 qf qn qw ql : Nat) (mi : Int32) (fg nt wt wl : Nat → Int32), oc = .returned (some (.ref h0)) ∧ pq_inv n nt fg ∧ qb_wt wt ∧ fb_z mi = true ∧ va_P D vwCl (fb_wX0 cI h0 qf qn qw ql (nI n) mi fg nt wt wl) t.heap ∧ va_D (va_A [] H.size) (fb_wX0 cI h0 qf qn qw ql (nI n) mi fg nt wt wl)) (A1 := va_A [] H.size) (va_runS (As := [.ref b, .ref qr]) (rest := []) ⟨hx, hb, hml, hown, hts⟩ (metL_told l hfl D cI cR b L xs hL H.size qr n rs hn7 hlen hrs H.size) (va_cwS 2 hts gL_law_L_told rfl rfl rfl (by decide +kernel) ⟨Nat.le_of_ble_eq_true rfl, Nat.le_of_ble_eq_true rfl⟩) (fm_preT (fm_SDp b L xs D _) hK hZD _) rfl rfl hl.1 rfl (lv_room (Nat.le_of_ble_eq_true rfl)) dL_law_7 ⟨Nat.le_of_ble_eq_true rfl, Nat.le_of_ble_eq_true rfl⟩) hS (fun q _ h9 => hnar q (fm_nilA h9)) (fun q h9 => hnar q (fm_nilA h9)) (fun v t H2 locs2 ht2 hp2 hz2 hk2 hS2 => ?_)
  obtain ⟨h0, qf, qn, qw, ql, mi, fg, nt, wt, wl, hv, hi, hw, hmz, hP, hD⟩ := hp2
  cases hv
  rw [ht2] at hP
  have hD : va_D (fun q : Nat => s.heap.size ≤ q) (fb_wX0 cI h0 qf qn qw ql (nI n) mi fg nt wt wl) := hD.weaken (fun k x hx h => hnar _ (fm_nilA h))
  have hPT2 : va_P D vwCl (fm_wT cI cR qr n rs) H2 := hPT.kept (fun k x hx => hk2 x.1 ((hPT k x hx).lt) (fun z => absurd (fm_nilA z) (Nat.not_le.mpr ((hPT k x hx).lt))))
  refine lv_astore_n (lv' := [(2, .ref h0), (1, .ref qr), (0, .ref b)]) hx hb dL_law_10 rfl hl (by decide) rfl (fun ls hl => ?_)
  refine lv_aload_n hx hb dL_law_11 rfl (lv_at hl 1 rfl) ?_
  refine va_alen hx hb hK hPT2 0 1 rfl rfl (v := nI n) rfl dL_law_12 ?_
  refine lv_istore_n (lv' := [(3, .int (nI n)), (2, .ref h0), (1, .ref qr), (0, .ref b)]) hx hb dL_law_13 rfl hl (by decide) rfl (fun ls hl => ?_)
  refine lv_iconst (v := 0) hx hb dL_law_14 (by decide) ?_
  refine lv_istore (lv' := [(4, .int 0), (3, .int (nI n)), (2, .ref h0), (1, .ref qr), (0, .ref b)]) hx hb dL_law_15 hl (by decide) rfl (fun ls hl => ?_)
  refine W.widen (k := 1260) (n := 3700) (by omega) (by omega) ?_
  refine W.base ?_
  exact law_loop h0 qf qn qw ql (nI n) hfl C0 rfl rfl hK1 hZT hZ 20 0 (nI n) mi fg nt wt wl (qc_loop hL hn2 hn7 hw 16 20 0 fg nt wl rfl (by decide) hi) 1260 3700 (by decide) (by decide) s.drawn (Drawn.sameBut.refl s.drawn lw_cs) H2 locs2 hP hD hS2 ls (lv_sub hl [4, 2, 1, 0] rfl)
