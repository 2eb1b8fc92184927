/-! rowOf: its contract (straight rows by wip/p24/hand.py). -/
abbrev fm_wR (cI cR : ClassId) (ql qm qr n : Nat) (lf mf : Nat → Int32) (g : Nat → Option Nat) (rs : fm_R) : va_W := (ql, .inl (cI, 4, .inl lf)) :: (qm, .inl (cI, 4, .inl mf)) :: (qr, .inl (cR, n, .inr (.inr (.inr (.inr g))))) :: fm_c cI rs
theorem fm_wR_at {cI cR : ClassId} {ql qm qr n : Nat} {lf mf : Nat → Int32} {g : Nat → Option Nat} {rs : fm_R} {q : Nat} {f : Nat → Int32} : (fm_wR cI cR ql qm qr n lf mf g (rs ++ [(q, f)]))[rs.length + 3]? = some (q, .inl (cI, 5, .inl f)) := by
  show (_ :: _ :: _ :: fm_c cI (rs ++ [(q, f)]))[rs.length + 1 + 1 + 1]? = _
  rw [List.getElem?_cons_succ, List.getElem?_cons_succ, List.getElem?_cons_succ]
  exact fm_c_last
theorem fm_wR_set {cI cR : ClassId} {ql qm qr n : Nat} {lf mf : Nat → Int32} {g : Nat → Option Nat} {rs : fm_R} {q : Nat} {f f' : Nat → Int32} : (fm_wR cI cR ql qm qr n lf mf g (rs ++ [(q, f)])).set (rs.length + 3) (q, .inl (cI, 5, .inl f')) = fm_wR cI cR ql qm qr n lf mf g (rs ++ [(q, f')]) := by
  show (_ :: _ :: _ :: fm_c cI (rs ++ [(q, f)])).set (rs.length + 1 + 1 + 1) _ = _
  rw [List.set_cons_succ, List.set_cons_succ, List.set_cons_succ, fm_c_set]
theorem fm_g_last {rs : fm_R} {q : Nat} {f : Nat → Int32} : fm_g (rs ++ [(q, f)]) rs.length = some q := by
  unfold fm_g
  rw [List.getElem?_append_right (Nat.le_refl _), Nat.sub_self]
  rfl
theorem fm_vB : ∀ v, 1 ≤ v → v ≤ 3 → pq_vlo v ≤ pq_vhi v ∧ pq_vhi v ≤ 22 := by
  intro v h1 h2
  rcases (show v = 1 ∨ v = 2 ∨ v = 3 by omega) with rfl | rfl | rfl <;> decide
theorem fm_goodU {f : Nat → Int32} {v : Nat} {x : Int32} (h : fm_good f) (h1 : 1 ≤ v) (h3 : v ≤ 3) (hx : fm_nt v x) : fm_good (upd f v x) := by
  obtain ⟨⟨b, hb, eb⟩, ⟨g, hg, eg⟩, hn⟩ := h
  refine ⟨⟨b, hb, by rw [pk_un (by omega)]; exact eb⟩, ⟨g, hg, by rw [pk_un (by omega)]; exact eg⟩, fun w w1 w3 => ?_⟩
  by_cases e : w = v
  · subst e
    rw [pk_us]
    exact hx
  · rw [pk_un e]
    exact hn w w1 w3
def fm_qR (cI cR : ClassId) (D : va_G) (A : Nat → Prop) : Array Value → State → Outcome → State → Prop := fun _ st oc t => (∃ (qr n : Nat) (rs : fm_R), oc = .returned (some (.ref qr)) ∧ 2 ≤ n ∧ n ≤ 7 ∧ rs.length = n ∧ (∀ r ∈ rs, fm_good r.2) ∧ va_P D vwCl (fm_wT cI cR qr n rs) t.heap ∧ va_D A (fm_wT cI cR qr n rs)) ∧ va_F A st t
abbrev rmL_rowOf : Room := { frames := 2, cells := 1200, slots := 3200, locals := 49 }
set_option maxHeartbeats 8000000 in
set_option maxRecDepth 100000 in
theorem metL_rowOf (l : Launch) (D : va_G) (cI cR : ClassId) (b L : Nat) (xs : Nat → Int32) (hL : L ≤ 260) (B0 : Nat) (hz : Nat) : Met l yL_rowOf wsL_rowOf rmL_rowOf (va_Pc [.ref b] (fb_pm D [(cI, .int), (cR, .array .int)] B0 (fm_SL b L xs) [] hz)) (fm_qR cI cR D (va_A [] hz)) 1200 3200 (va_A [] hz) := by
  refine Met.ofW (cc := cL_rowOf) (maxL := 10) (ret := (some (.array (.array .int)))) (by decide) rfl ?_
  intro p e s m args below meth c s₁ B hml hv
  obtain ⟨rfl, hsz, ⟨hP, hK, hZ⟩, hD0, hAB⟩ := hv
  have hx := B.exec
  have hb := B.bytes
  have hr := B.returns
  have hts := atoms_spec (ws := wsL_rowOf) B.pre
  have hown : s.vm.findClass RL = some m.cls := findClass_of_methodNamed B.named
  have hlocks := B.notSynchronized
  subst hsz
  have hD := hD0.self (sz := s.heap.size)
  generalize hAe : va_A [] s.heap.size = A at hD hAB ⊢
  have hA : ∀ q : Nat, s.heap.size ≤ q → A q := fun q h9 => by rw [← hAe]; exact Or.inr h9
  have hS : va_S A s.heap s.heap [] := va_S.rf
  have hP : va_P D vwCl ([] : va_W) s.heap := hP
  have hD : va_D A ([] : va_W) := hD
  have w_arr : (Cond.arrayClass .int) ∈ wsL_rowOf := List.mem_of_getElem? (i := 1) rfl
  have w_c9 : (Cond.classLink RL 9 "[I") ∈ wsL_rowOf := List.mem_of_getElem? (i := 2) rfl
  have hl := lv_entry ([.ref b]) (n := 10) (Nat.le_of_ble_eq_true rfl)
  rw [lg_entry_eq]
  generalize (lg_sl ([.ref b]) ++ List.replicate (10 - (lg_sl ([.ref b])).length) Slot.unset).toArray = ls at hl ⊢
  have hl : lv_has ls 10 [(0, .ref b)] := hl
  have hbA : ¬ A b := fun z => hZ.1.2 (hAB _ z)
  have hX := hZ.1.1
  have hbl := fb_sclt hZ.1
  suffices K : ∀ (H : Heap) (locs : List Loc), va_P D vwCl ([] : va_W) H → va_S A s.heap H locs → W p l e (headSpec wsL_rowOf rmL_rowOf).room s m ([.ref b] : List Value).toArray below meth c H locs 0 0 (MQ below (fm_qR cI cR D A) ([.ref b] : List Value).toArray s 1200 3200 A) (F0 m 0 ls []) from K s.heap [] hP hS
  intro H locs hP hS
  refine lv_iconst (v := 4) hx hb dL_rowOf_0 (by decide) ?_
  refine va_newa (atype := .int) hx hb (hts _ w_arr) (ty := .int) rfl hK hP hD hS hA (N' := 4) (a0 := (4, .inl (fun _ => 0))) (fun _ => rfl) (by decide) (by decide) (by decide) (Nat.le_of_ble_eq_true rfl) (Nat.le_of_ble_eq_true rfl) dL_rowOf_1 (fun q5 cA H hK1 hP hD hS => ?_)
  obtain rfl := fm_cA hK1
  have hP : va_P D vwCl (([(q5, .inl (cI, 4, .inl (fun _ => 0)))] : va_W)) H := hP
  have hD : va_D A (([(q5, .inl (cI, 4, .inl (fun _ => 0)))] : va_W)) := hD
  refine lv_dup hx hb dL_rowOf_3 rfl ?_
  refine lv_iconst (v := 0) hx hb dL_rowOf_4 (by decide) ?_
  refine lv_iconst (v := 0) hx hb dL_rowOf_5 (by decide) ?_
  refine va_iast hx hb hK hP hD hS 0 0 rfl rfl (fb_ixin (by decide)) dL_rowOf_6 (fun H locs hP hD hS => ?_)
  have hP : va_P D vwCl (([(q5, .inl (cI, 4, .inl (upd (fun _ => 0) (0 : Int32).toNatClampNeg 0)))] : va_W)) H := hP
  have hD : va_D A (([(q5, .inl (cI, 4, .inl (upd (fun _ => 0) (0 : Int32).toNatClampNeg 0)))] : va_W)) := hD
  refine lv_dup hx hb dL_rowOf_7 rfl ?_
  refine lv_iconst (v := 1) hx hb dL_rowOf_8 (by decide) ?_
  refine lv_iconst (v := 5) hx hb dL_rowOf_9 (by decide) ?_
  refine va_iast hx hb hK hP hD hS 0 0 rfl rfl (fb_ixin (by decide)) dL_rowOf_10 (fun H locs hP hD hS => ?_)
  have hP : va_P D vwCl (([(q5, .inl (cI, 4, .inl (upd (upd (fun _ => 0) (0 : Int32).toNatClampNeg 0) (1 : Int32).toNatClampNeg 5)))] : va_W)) H := hP
  have hD : va_D A (([(q5, .inl (cI, 4, .inl (upd (upd (fun _ => 0) (0 : Int32).toNatClampNeg 0) (1 : Int32).toNatClampNeg 5)))] : va_W)) := hD
  refine lv_dup hx hb dL_rowOf_11 rfl ?_
  refine lv_iconst (v := 2) hx hb dL_rowOf_12 (by decide) ?_
  refine lv_bipush (v := 8) hx hb dL_rowOf_13 (by decide) ?_
  refine va_iast hx hb hK hP hD hS 0 0 rfl rfl (fb_ixin (by decide)) dL_rowOf_15 (fun H locs hP hD hS => ?_)
  have hP : va_P D vwCl (([(q5, .inl (cI, 4, .inl (upd (upd (upd (fun _ => 0) (0 : Int32).toNatClampNeg 0) (1 : Int32).toNatClampNeg 5) (2 : Int32).toNatClampNeg 8)))] : va_W)) H := hP
  have hD : va_D A (([(q5, .inl (cI, 4, .inl (upd (upd (upd (fun _ => 0) (0 : Int32).toNatClampNeg 0) (1 : Int32).toNatClampNeg 5) (2 : Int32).toNatClampNeg 8)))] : va_W)) := hD
  refine lv_dup hx hb dL_rowOf_16 rfl ?_
  refine lv_iconst (v := 3) hx hb dL_rowOf_17 (by decide) ?_
  refine lv_bipush (v := 12) hx hb dL_rowOf_18 (by decide) ?_
  refine va_iast hx hb hK hP hD hS 0 0 rfl rfl (fb_ixin (by decide)) dL_rowOf_20 (fun H locs hP hD hS => ?_)
  have hP : va_P D vwCl (([(q5, .inl (cI, 4, .inl (upd (upd (upd (upd (fun _ => 0) (0 : Int32).toNatClampNeg 0) (1 : Int32).toNatClampNeg 5) (2 : Int32).toNatClampNeg 8) (3 : Int32).toNatClampNeg 12)))] : va_W)) H := hP
  have hD : va_D A (([(q5, .inl (cI, 4, .inl (upd (upd (upd (upd (fun _ => 0) (0 : Int32).toNatClampNeg 0) (1 : Int32).toNatClampNeg 5) (2 : Int32).toNatClampNeg 8) (3 : Int32).toNatClampNeg 12)))] : va_W)) := hD
  refine lv_astore_n (lv' := [(1, .ref q5), (0, .ref b)]) hx hb dL_rowOf_21 rfl hl (by decide) rfl (fun ls hl => ?_)
  refine lv_iconst (v := 4) hx hb dL_rowOf_22 (by decide) ?_
  refine va_newa (atype := .int) hx hb (hts _ w_arr) (ty := .int) rfl hK hP hD hS hA (N' := 4) (a0 := (4, .inl (fun _ => 0))) (fun _ => rfl) (by decide) (by decide) (by decide) (Nat.le_of_ble_eq_true rfl) (Nat.le_of_ble_eq_true rfl) dL_rowOf_23 (fun q6 cA H hK1 hP hD hS => ?_)
  obtain rfl := fm_cA hK1
  have hP : va_P D vwCl (([(q5, .inl (cI, 4, .inl (upd (upd (upd (upd (fun _ => 0) (0 : Int32).toNatClampNeg 0) (1 : Int32).toNatClampNeg 5) (2 : Int32).toNatClampNeg 8) (3 : Int32).toNatClampNeg 12))), (q6, .inl (cI, 4, .inl (fun _ => 0)))] : va_W)) H := hP
  have hD : va_D A (([(q5, .inl (cI, 4, .inl (upd (upd (upd (upd (fun _ => 0) (0 : Int32).toNatClampNeg 0) (1 : Int32).toNatClampNeg 5) (2 : Int32).toNatClampNeg 8) (3 : Int32).toNatClampNeg 12))), (q6, .inl (cI, 4, .inl (fun _ => 0)))] : va_W)) := hD
  refine lv_dup hx hb dL_rowOf_25 rfl ?_
  refine lv_iconst (v := 0) hx hb dL_rowOf_26 (by decide) ?_
  refine lv_bipush (v := 14) hx hb dL_rowOf_27 (by decide) ?_
  refine va_iast hx hb hK hP hD hS 1 0 rfl rfl (fb_ixin (by decide)) dL_rowOf_29 (fun H locs hP hD hS => ?_)
  have hP : va_P D vwCl (([(q5, .inl (cI, 4, .inl (upd (upd (upd (upd (fun _ => 0) (0 : Int32).toNatClampNeg 0) (1 : Int32).toNatClampNeg 5) (2 : Int32).toNatClampNeg 8) (3 : Int32).toNatClampNeg 12))), (q6, .inl (cI, 4, .inl (upd (fun _ => 0) (0 : Int32).toNatClampNeg 14)))] : va_W)) H := hP
  have hD : va_D A (([(q5, .inl (cI, 4, .inl (upd (upd (upd (upd (fun _ => 0) (0 : Int32).toNatClampNeg 0) (1 : Int32).toNatClampNeg 5) (2 : Int32).toNatClampNeg 8) (3 : Int32).toNatClampNeg 12))), (q6, .inl (cI, 4, .inl (upd (fun _ => 0) (0 : Int32).toNatClampNeg 14)))] : va_W)) := hD
  refine lv_dup hx hb dL_rowOf_30 rfl ?_
  refine lv_iconst (v := 1) hx hb dL_rowOf_31 (by decide) ?_
  refine lv_bipush (v := 10) hx hb dL_rowOf_32 (by decide) ?_
  refine va_iast hx hb hK hP hD hS 1 0 rfl rfl (fb_ixin (by decide)) dL_rowOf_34 (fun H locs hP hD hS => ?_)
  have hP : va_P D vwCl (([(q5, .inl (cI, 4, .inl (upd (upd (upd (upd (fun _ => 0) (0 : Int32).toNatClampNeg 0) (1 : Int32).toNatClampNeg 5) (2 : Int32).toNatClampNeg 8) (3 : Int32).toNatClampNeg 12))), (q6, .inl (cI, 4, .inl (upd (upd (fun _ => 0) (0 : Int32).toNatClampNeg 14) (1 : Int32).toNatClampNeg 10)))] : va_W)) H := hP
  have hD : va_D A (([(q5, .inl (cI, 4, .inl (upd (upd (upd (upd (fun _ => 0) (0 : Int32).toNatClampNeg 0) (1 : Int32).toNatClampNeg 5) (2 : Int32).toNatClampNeg 8) (3 : Int32).toNatClampNeg 12))), (q6, .inl (cI, 4, .inl (upd (upd (fun _ => 0) (0 : Int32).toNatClampNeg 14) (1 : Int32).toNatClampNeg 10)))] : va_W)) := hD
  refine lv_dup hx hb dL_rowOf_35 rfl ?_
  refine lv_iconst (v := 2) hx hb dL_rowOf_36 (by decide) ?_
  refine lv_bipush (v := 11) hx hb dL_rowOf_37 (by decide) ?_
  refine va_iast hx hb hK hP hD hS 1 0 rfl rfl (fb_ixin (by decide)) dL_rowOf_39 (fun H locs hP hD hS => ?_)
  have hP : va_P D vwCl (([(q5, .inl (cI, 4, .inl (upd (upd (upd (upd (fun _ => 0) (0 : Int32).toNatClampNeg 0) (1 : Int32).toNatClampNeg 5) (2 : Int32).toNatClampNeg 8) (3 : Int32).toNatClampNeg 12))), (q6, .inl (cI, 4, .inl (upd (upd (upd (fun _ => 0) (0 : Int32).toNatClampNeg 14) (1 : Int32).toNatClampNeg 10) (2 : Int32).toNatClampNeg 11)))] : va_W)) H := hP
  have hD : va_D A (([(q5, .inl (cI, 4, .inl (upd (upd (upd (upd (fun _ => 0) (0 : Int32).toNatClampNeg 0) (1 : Int32).toNatClampNeg 5) (2 : Int32).toNatClampNeg 8) (3 : Int32).toNatClampNeg 12))), (q6, .inl (cI, 4, .inl (upd (upd (upd (fun _ => 0) (0 : Int32).toNatClampNeg 14) (1 : Int32).toNatClampNeg 10) (2 : Int32).toNatClampNeg 11)))] : va_W)) := hD
  refine lv_dup hx hb dL_rowOf_40 rfl ?_
  refine lv_iconst (v := 3) hx hb dL_rowOf_41 (by decide) ?_
  refine lv_bipush (v := 11) hx hb dL_rowOf_42 (by decide) ?_
  refine va_iast hx hb hK hP hD hS 1 0 rfl rfl (fb_ixin (by decide)) dL_rowOf_44 (fun H locs hP hD hS => ?_)
  have hP : va_P D vwCl (([(q5, .inl (cI, 4, .inl (upd (upd (upd (upd (fun _ => 0) (0 : Int32).toNatClampNeg 0) (1 : Int32).toNatClampNeg 5) (2 : Int32).toNatClampNeg 8) (3 : Int32).toNatClampNeg 12))), (q6, .inl (cI, 4, .inl (upd (upd (upd (upd (fun _ => 0) (0 : Int32).toNatClampNeg 14) (1 : Int32).toNatClampNeg 10) (2 : Int32).toNatClampNeg 11) (3 : Int32).toNatClampNeg 11)))] : va_W)) H := hP
  have hD : va_D A (([(q5, .inl (cI, 4, .inl (upd (upd (upd (upd (fun _ => 0) (0 : Int32).toNatClampNeg 0) (1 : Int32).toNatClampNeg 5) (2 : Int32).toNatClampNeg 8) (3 : Int32).toNatClampNeg 12))), (q6, .inl (cI, 4, .inl (upd (upd (upd (upd (fun _ => 0) (0 : Int32).toNatClampNeg 14) (1 : Int32).toNatClampNeg 10) (2 : Int32).toNatClampNeg 11) (3 : Int32).toNatClampNeg 11)))] : va_W)) := hD
  refine lv_astore_n (lv' := [(2, .ref q6), (1, .ref q5), (0, .ref b)]) hx hb dL_rowOf_45 rfl hl (by decide) rfl (fun ls hl => ?_)
  have hlf : ∀ v, 1 ≤ v → v ≤ 3 → (upd (upd (upd (upd (fun _ => 0) (0 : Int32).toNatClampNeg 0) (1 : Int32).toNatClampNeg 5) (2 : Int32).toNatClampNeg 8) (3 : Int32).toNatClampNeg 12) v = nI (pq_vlo v) := fun v g1 g2 => by rcases (show v = 1 ∨ v = 2 ∨ v = 3 by omega) with rfl | rfl | rfl <;> decide
  have hmf : ∀ v, 1 ≤ v → v ≤ 3 → (upd (upd (upd (upd (fun _ => 0) (0 : Int32).toNatClampNeg 14) (1 : Int32).toNatClampNeg 10) (2 : Int32).toNatClampNeg 11) (3 : Int32).toNatClampNeg 11) v = nI (pq_vhi v - pq_vlo v + 1) := fun v g1 g2 => by rcases (show v = 1 ∨ v = 2 ∨ v = 3 by omega) with rfl | rfl | rfl <;> decide
  generalize upd (upd (upd (upd (fun _ => 0) (0 : Int32).toNatClampNeg 0) (1 : Int32).toNatClampNeg 5) (2 : Int32).toNatClampNeg 8) (3 : Int32).toNatClampNeg 12 = lf at hP hD hlf
  generalize upd (upd (upd (upd (fun _ => 0) (0 : Int32).toNatClampNeg 14) (1 : Int32).toNatClampNeg 10) (2 : Int32).toNatClampNeg 11) (3 : Int32).toNatClampNeg 11 = mf at hP hD hmf
  have hP : va_P D vwCl ([(q5, .inl (cI, 4, .inl lf)), (q6, .inl (cI, 4, .inl mf))] : va_W) H := hP
  refine lv_iconst (v := 2) hx hb dL_rowOf_46 (by decide) ?_
  refine lv_aload_n hx hb dL_rowOf_47 rfl (lv_at hl 2 rfl) ?_
  refine lv_iconst (v := 0) hx hb dL_rowOf_48 (by decide) ?_
  obtain ⟨x8, h7⟩ := qc_cell (xs := xs) (L := L) (k := 0) hL (by omega)
  refine fb_callR (W.runS (As := [.ref b, .int 0]) (rest := [.int 2]) ⟨hx, hb, hml, hown, hts⟩ (metL_cell l b L xs B0 0 x8 h7) (va_cwS 2 hts gL_rowOf_L_cell rfl rfl rfl (by decide +kernel) ⟨Nat.le_of_ble_eq_true rfl, Nat.le_of_ble_eq_true rfl⟩) (fb_preS (fb_scp b L xs) hZ.1 hS hAB _) rfl rfl hl.1 rfl (lv_room (Nat.le_of_ble_eq_true rfl)) dL_rowOf_49 ⟨(by first | exact Nat.le_of_ble_eq_true rfl | (show _ + 0 ≤ 1200; omega)), (by first | exact Nat.le_of_ble_eq_true rfl | (show _ + 0 ≤ 3200; omega))⟩) ?_
  refine lv_bipush (v := 6) hx hb dL_rowOf_52 (by decide) ?_
  obtain ⟨j10, bj10, h9⟩ := qc_below (xs := xs) (L := L) (n := 6) x8 (by omega) (by omega)
  refine fb_callR (W.runS (As := [.int x8, .int 6]) (rest := [.int 2]) ⟨hx, hb, hml, hown, hts⟩ (metL_below l b L xs B0 x8 6 (nI j10) h9) (va_cwS 2 hts gL_rowOf_L_below rfl rfl rfl (by decide +kernel) ⟨Nat.le_of_ble_eq_true rfl, Nat.le_of_ble_eq_true rfl⟩) (fb_preS (fb_scp b L xs) hZ.1 hS hAB _) rfl rfl hl.1 rfl (lv_room (Nat.le_of_ble_eq_true rfl)) dL_rowOf_54 ⟨(by first | exact Nat.le_of_ble_eq_true rfl | (show _ + 0 ≤ 1200; omega)), (by first | exact Nat.le_of_ble_eq_true rfl | (show _ + 0 ≤ 3200; omega))⟩) ?_
  refine lv_iadd hx hb dL_rowOf_57 ?_
  rw [show (2 : Int32) + nI j10 = nI (2 + j10) from nI_add 2 j10]
  obtain ⟨n, hn⟩ : ∃ n, 2 + j10 = n := ⟨_, rfl⟩
  rw [hn]
  refine lv_istore_n (lv' := [(3, .int (nI n)), (2, .ref q6), (1, .ref q5), (0, .ref b)]) hx hb dL_rowOf_58 rfl hl (by decide) rfl (fun ls hl => ?_)
  refine lv_iload_n hx hb dL_rowOf_59 rfl (lv_at hl 0 rfl) ?_
  refine fm_newR hx hb hown (hts _ w_c9) hZ.2 1 rfl hK hP hD hS hA (N' := n) (nI_pos (by omega)) (pq_cl (by omega)) (by omega) (Nat.le_of_ble_eq_true rfl) (show 0 + 4 + 4 + n ≤ 3200 by omega) dL_rowOf_60 (fun qr H hP hD hS => ?_)
  refine W.widen (k := 3) (n := 20) (by omega) (by omega) ?_
  have hP : va_P D vwCl (fm_wR cI cR q5 q6 qr n lf mf (fm_g []) ([])) H := by rw [fm_g_nil]; exact hP
  have hD : va_D A (fm_wR cI cR q5 q6 qr n lf mf (fm_g []) ([])) := by rw [fm_g_nil]; exact hD
  refine lv_astore (lv' := [(4, .ref qr), (3, .int (nI n)), (2, .ref q6), (1, .ref q5), (0, .ref b)]) hx hb dL_rowOf_63 hl (by decide) rfl (fun ls hl => ?_)
  refine lv_iconst (v := 0) hx hb dL_rowOf_65 (by decide) ?_
  refine lv_istore (lv' := [(5, .int 0), (4, .ref qr), (3, .int (nI n)), (2, .ref q6), (1, .ref q5), (0, .ref b)]) hx hb dL_rowOf_66 hl (by decide) rfl (fun ls hl => ?_)
  have LK : ∀ (i k : Nat) (rs : fm_R), k + i = n → rs.length = k → (∀ r ∈ rs, fm_good r.2) → ∀ (H : Heap) (locs : List Loc), va_P D vwCl (fm_wR cI cR q5 q6 qr n lf mf (fm_g rs) rs) H → va_D A (fm_wR cI cR q5 q6 qr n lf mf (fm_g rs) rs) → va_S A s.heap H locs → ∀ ls : Array Slot, lv_has ls 10 [(5, .int (nI k)), (4, .ref qr), (3, .int (nI n)), (2, .ref q6), (1, .ref q5), (0, .ref b)] → W p l e (headSpec wsL_rowOf rmL_rowOf).room s m ([.ref b] : List Value).toArray below meth c H locs (3 + k * 148) (20 + k * 425) (MQ below (fm_qR cI cR D A) ([.ref b] : List Value).toArray s 1200 3200 A) (F0 m 68 ls []) := by
    intro i
    induction i with
    | zero =>
      intro k rs hk hlen hrs H locs hP hD hS ls hl
      refine lv_iload hx hb dL_rowOf_68 (lv_at hl 0 rfl) ?_
      refine lv_iload_n hx hb dL_rowOf_70 rfl (lv_at hl 2 rfl) ?_
      refine lv_icmp_ge (tgt := 275) hx hb dL_rowOf_71 (by decide) (fun c1 => ?_) (fun c1 => absurd (nI_le (show n ≤ k by omega) (by omega)) c1)
      refine lv_aload hx hb dL_rowOf_275 (lv_at hl 1 rfl) ?_
      refine W.widen (k := 1200) (n := 3200) (by omega) (by omega) ?_
      exact W.aret hx hb hr (Or.inr ⟨_, rfl⟩) (Or.inr ⟨_, rfl⟩) (fun t ht _ => ⟨⟨qr, n, rs, rfl, by omega, by omega, by omega, hrs, by rw [ht]; exact fm_tailP (fm_tailP hP), fm_tailD (fm_tailD hD)⟩, hS.F ht⟩) hS.2.2 dL_rowOf_277
    | succ i ih =>
      intro k rs hk hlen hrs H locs hP hD hS ls hl
      subst hlen
      refine lv_iload hx hb dL_rowOf_68 (lv_at hl 0 rfl) ?_
      refine lv_iload_n hx hb dL_rowOf_70 rfl (lv_at hl 2 rfl) ?_
      refine lv_icmp_ge (tgt := 275) hx hb dL_rowOf_71 (by decide) (fun c1 => absurd c1 (nI_ge (show rs.length < n by omega) (by omega))) (fun c1 => ?_)
      refine lv_aload_n hx hb dL_rowOf_74 rfl (lv_at hl 5 rfl) ?_
      refine lv_iconst (v := 1) hx hb dL_rowOf_75 (by decide) ?_
      refine lv_iload hx hb dL_rowOf_76 (lv_at hl 0 rfl) ?_
      refine lv_iadd hx hb dL_rowOf_78 ?_
      rw [show (1 : Int32) + nI rs.length = nI (1 + rs.length) from nI_add 1 rs.length]
      obtain ⟨x12, h11⟩ := qc_cell (xs := xs) (L := L) (k := (1 + rs.length)) hL (by omega)
      refine fb_callR (W.runS (As := [.ref b, .int (nI (1 + rs.length))]) (rest := []) ⟨hx, hb, hml, hown, hts⟩ (metL_cell l b L xs B0 (nI (1 + rs.length)) x12 h11) (va_cwS 2 hts gL_rowOf_L_cell rfl rfl rfl (by decide +kernel) ⟨Nat.le_of_ble_eq_true rfl, Nat.le_of_ble_eq_true rfl⟩) (fb_preS (fb_scp b L xs) hZ.1 hS hAB _) rfl rfl hl.1 rfl (lv_room (Nat.le_of_ble_eq_true rfl)) dL_rowOf_79 ⟨(by first | exact Nat.le_of_ble_eq_true rfl | (show _ + 0 ≤ 1200; omega)), (by first | exact Nat.le_of_ble_eq_true rfl | (show _ + 0 ≤ 3200; omega))⟩) ?_
      refine lv_istore (lv' := [(6, .int x12), (5, .int (nI rs.length)), (4, .ref qr), (3, .int (nI n)), (2, .ref q6), (1, .ref q5), (0, .ref b)]) hx hb dL_rowOf_82 hl (by decide) rfl (fun ls hl => ?_)
      refine lv_aload hx hb dL_rowOf_84 (lv_at hl 2 rfl) ?_
      refine lv_iload hx hb dL_rowOf_86 (lv_at hl 1 rfl) ?_
      refine lv_iconst (v := 5) hx hb dL_rowOf_88 (by decide) ?_
      refine va_newa (atype := .int) hx hb (hts _ w_arr) (ty := .int) rfl hK hP hD hS hA (N' := 5) (a0 := (5, .inl (fun _ => 0))) (fun _ => rfl) (by decide) (by decide) (by decide) (show (3 + rs.length * 148) + 1 ≤ 1200 by omega) (show (20 + rs.length * 425) + 5 ≤ 3200 by omega) dL_rowOf_89 (fun q cA H hK1 hP hD hS => ?_)
      obtain rfl := fm_cA hK1
      have hP : va_P D vwCl (fm_wR cI cR q5 q6 qr n lf mf (fm_g rs) (rs ++ [(q, fun _ => 0)])) H := by unfold fm_wR; rw [fm_c_push]; exact hP
      have hD : va_D A (fm_wR cI cR q5 q6 qr n lf mf (fm_g rs) (rs ++ [(q, fun _ => 0)])) := by unfold fm_wR; rw [fm_c_push]; exact hD
      refine lv_dup hx hb dL_rowOf_91 rfl ?_
      refine lv_iconst (v := 0) hx hb dL_rowOf_92 (by decide) ?_
      refine lv_iload hx hb dL_rowOf_93 (lv_at hl 0 rfl) ?_
      refine lv_bipush (v := 14) hx hb dL_rowOf_95 (by decide) ?_
      obtain ⟨j14, bj14, h13⟩ := qc_below (xs := xs) (L := L) (n := 14) x12 (by omega) (by omega)
      refine fb_callR (W.runS (As := [.int x12, .int 14]) (rest := [.int 0, .ref q, .ref q, .int (nI rs.length), .ref qr]) ⟨hx, hb, hml, hown, hts⟩ (metL_below l b L xs B0 x12 14 (nI j14) h13) (va_cwS 2 hts gL_rowOf_L_below rfl rfl rfl (by decide +kernel) ⟨Nat.le_of_ble_eq_true rfl, Nat.le_of_ble_eq_true rfl⟩) (fb_preS (fb_scp b L xs) hZ.1 hS hAB _) rfl rfl hl.1 rfl (lv_room (Nat.le_of_ble_eq_true rfl)) dL_rowOf_97 ⟨(by first | exact Nat.le_of_ble_eq_true rfl | (show _ + 0 ≤ 1200; omega)), (by first | exact Nat.le_of_ble_eq_true rfl | (show _ + 0 ≤ 3200; omega))⟩) ?_
      refine va_iast hx hb hK hP hD hS (rs.length + 3) 0 fm_wR_at rfl (fb_ixin (by decide)) dL_rowOf_100 (fun H locs hP hD hS => ?_)
      have hP : va_P D vwCl (fm_wR cI cR q5 q6 qr n lf mf (fm_g rs) (rs ++ [(q, upd (fun _ => 0) (0 : Int32).toNatClampNeg (nI j14))])) H := by rw [← fm_wR_set]; exact hP
      have hD : va_D A (fm_wR cI cR q5 q6 qr n lf mf (fm_g rs) (rs ++ [(q, upd (fun _ => 0) (0 : Int32).toNatClampNeg (nI j14))])) := by rw [← fm_wR_set]; exact hD
      refine lv_dup hx hb dL_rowOf_101 rfl ?_
      refine lv_iconst (v := 1) hx hb dL_rowOf_102 (by decide) ?_
      refine lv_iconst (v := (-1)) hx hb dL_rowOf_103 (by decide) ?_
      refine va_iast hx hb hK hP hD hS (rs.length + 3) 0 fm_wR_at rfl (fb_ixin (by decide)) dL_rowOf_104 (fun H locs hP hD hS => ?_)
      have hP : va_P D vwCl (fm_wR cI cR q5 q6 qr n lf mf (fm_g rs) (rs ++ [(q, upd (upd (fun _ => 0) (0 : Int32).toNatClampNeg (nI j14)) (1 : Int32).toNatClampNeg (-1))])) H := by rw [← fm_wR_set]; exact hP
      have hD : va_D A (fm_wR cI cR q5 q6 qr n lf mf (fm_g rs) (rs ++ [(q, upd (upd (fun _ => 0) (0 : Int32).toNatClampNeg (nI j14)) (1 : Int32).toNatClampNeg (-1))])) := by rw [← fm_wR_set]; exact hD
      refine lv_dup hx hb dL_rowOf_105 rfl ?_
      refine lv_iconst (v := 2) hx hb dL_rowOf_106 (by decide) ?_
      refine lv_iconst (v := (-1)) hx hb dL_rowOf_107 (by decide) ?_
      refine va_iast hx hb hK hP hD hS (rs.length + 3) 0 fm_wR_at rfl (fb_ixin (by decide)) dL_rowOf_108 (fun H locs hP hD hS => ?_)
      have hP : va_P D vwCl (fm_wR cI cR q5 q6 qr n lf mf (fm_g rs) (rs ++ [(q, upd (upd (upd (fun _ => 0) (0 : Int32).toNatClampNeg (nI j14)) (1 : Int32).toNatClampNeg (-1)) (2 : Int32).toNatClampNeg (-1))])) H := by rw [← fm_wR_set]; exact hP
      have hD : va_D A (fm_wR cI cR q5 q6 qr n lf mf (fm_g rs) (rs ++ [(q, upd (upd (upd (fun _ => 0) (0 : Int32).toNatClampNeg (nI j14)) (1 : Int32).toNatClampNeg (-1)) (2 : Int32).toNatClampNeg (-1))])) := by rw [← fm_wR_set]; exact hD
      refine lv_dup hx hb dL_rowOf_109 rfl ?_
      refine lv_iconst (v := 3) hx hb dL_rowOf_110 (by decide) ?_
      refine lv_iconst (v := (-1)) hx hb dL_rowOf_111 (by decide) ?_
      refine va_iast hx hb hK hP hD hS (rs.length + 3) 0 fm_wR_at rfl (fb_ixin (by decide)) dL_rowOf_112 (fun H locs hP hD hS => ?_)
      have hP : va_P D vwCl (fm_wR cI cR q5 q6 qr n lf mf (fm_g rs) (rs ++ [(q, upd (upd (upd (upd (fun _ => 0) (0 : Int32).toNatClampNeg (nI j14)) (1 : Int32).toNatClampNeg (-1)) (2 : Int32).toNatClampNeg (-1)) (3 : Int32).toNatClampNeg (-1))])) H := by rw [← fm_wR_set]; exact hP
      have hD : va_D A (fm_wR cI cR q5 q6 qr n lf mf (fm_g rs) (rs ++ [(q, upd (upd (upd (upd (fun _ => 0) (0 : Int32).toNatClampNeg (nI j14)) (1 : Int32).toNatClampNeg (-1)) (2 : Int32).toNatClampNeg (-1)) (3 : Int32).toNatClampNeg (-1))])) := by rw [← fm_wR_set]; exact hD
      refine lv_dup hx hb dL_rowOf_113 rfl ?_
      refine lv_iconst (v := 4) hx hb dL_rowOf_114 (by decide) ?_
      refine lv_iload hx hb dL_rowOf_115 (lv_at hl 0 rfl) ?_
      refine lv_iconst (v := 4) hx hb dL_rowOf_117 (by decide) ?_
      refine lv_ishr hx hb dL_rowOf_118 ?_
      refine lv_bipush (v := 6) hx hb dL_rowOf_119 (by decide) ?_
      obtain ⟨j16, bj16, h15⟩ := qc_below (xs := xs) (L := L) (n := 6) (x12 >>> ((4 : Int32) &&& 31)) (by omega) (by omega)
      refine fb_callR (W.runS (As := [.int (x12 >>> ((4 : Int32) &&& 31)), .int 6]) (rest := [.int 4, .ref q, .ref q, .int (nI rs.length), .ref qr]) ⟨hx, hb, hml, hown, hts⟩ (metL_below l b L xs B0 (x12 >>> ((4 : Int32) &&& 31)) 6 (nI j16) h15) (va_cwS 2 hts gL_rowOf_L_below rfl rfl rfl (by decide +kernel) ⟨Nat.le_of_ble_eq_true rfl, Nat.le_of_ble_eq_true rfl⟩) (fb_preS (fb_scp b L xs) hZ.1 hS hAB _) rfl rfl hl.1 rfl (lv_room (Nat.le_of_ble_eq_true rfl)) dL_rowOf_121 ⟨(by first | exact Nat.le_of_ble_eq_true rfl | (show _ + 0 ≤ 1200; omega)), (by first | exact Nat.le_of_ble_eq_true rfl | (show _ + 0 ≤ 3200; omega))⟩) ?_
      refine va_iast hx hb hK hP hD hS (rs.length + 3) 0 fm_wR_at rfl (fb_ixin (by decide)) dL_rowOf_124 (fun H locs hP hD hS => ?_)
      have hP : va_P D vwCl (fm_wR cI cR q5 q6 qr n lf mf (fm_g rs) (rs ++ [(q, upd (upd (upd (upd (upd (fun _ => 0) (0 : Int32).toNatClampNeg (nI j14)) (1 : Int32).toNatClampNeg (-1)) (2 : Int32).toNatClampNeg (-1)) (3 : Int32).toNatClampNeg (-1)) (4 : Int32).toNatClampNeg (nI j16))])) H := by rw [← fm_wR_set]; exact hP
      have hD : va_D A (fm_wR cI cR q5 q6 qr n lf mf (fm_g rs) (rs ++ [(q, upd (upd (upd (upd (upd (fun _ => 0) (0 : Int32).toNatClampNeg (nI j14)) (1 : Int32).toNatClampNeg (-1)) (2 : Int32).toNatClampNeg (-1)) (3 : Int32).toNatClampNeg (-1)) (4 : Int32).toNatClampNeg (nI j16))])) := by rw [← fm_wR_set]; exact hD
      have hgd : fm_good (upd (upd (upd (upd (upd (fun _ => 0) (0 : Int32).toNatClampNeg (nI j14)) (1 : Int32).toNatClampNeg (-1)) (2 : Int32).toNatClampNeg (-1)) (3 : Int32).toNatClampNeg (-1)) (4 : Int32).toNatClampNeg (nI j16)) := ⟨⟨j14, bj14, rfl⟩, ⟨j16, bj16, rfl⟩, fun v g1 g2 => by rcases (show v = 1 ∨ v = 2 ∨ v = 3 by omega) with rfl | rfl | rfl <;> exact Or.inl rfl⟩
      refine fm_astR hx hb hZ.2 hK hP hD hS 2 1 (rs.length + 3) 0 rfl rfl fm_wR_at rfl (fb_ixin (pq_ix (show rs.length < n by omega) (by omega))) dL_rowOf_125 (fun H locs hP hD hS => ?_)
      obtain ⟨f0, hf0⟩ : ∃ f0, upd (upd (upd (upd (upd (fun _ => 0) (0 : Int32).toNatClampNeg (nI j14)) (1 : Int32).toNatClampNeg (-1)) (2 : Int32).toNatClampNeg (-1)) (3 : Int32).toNatClampNeg (-1)) (4 : Int32).toNatClampNeg (nI j16) = f0 := ⟨_, rfl⟩
      obtain ⟨g, hg⟩ : ∃ g, ∀ f, fm_g (rs ++ [(q, f)]) = g := ⟨va_up (fm_g rs) rs.length (some q), fun f => fm_g_push.symm⟩
      have eg : va_up (fm_g rs) (nI rs.length).toNatClampNeg (some q) = g := by rw [pq_cl (by omega), ← hg f0]; exact fm_g_push
      have hP : va_P D vwCl (fm_wR cI cR q5 q6 qr n lf mf g (rs ++ [(q, f0)])) H := by rw [← eg, ← hf0]; exact hP
      have hD : va_D A (fm_wR cI cR q5 q6 qr n lf mf g (rs ++ [(q, f0)])) := by rw [← eg, ← hf0]; exact hD
      rw [hf0] at hgd
      clear hf0
      refine lv_iconst (v := 1) hx hb dL_rowOf_126 (by decide) ?_
      refine lv_istore (lv' := [(7, .int 1), (6, .int x12), (5, .int (nI rs.length)), (4, .ref qr), (3, .int (nI n)), (2, .ref q6), (1, .ref q5), (0, .ref b)]) hx hb dL_rowOf_127 hl (by decide) rfl (fun ls hl => ?_)
      have LV : ∀ (j2 i2 : Nat) (f : Nat → Int32), i2 + j2 = 3 → fm_good f → ∀ (H : Heap) (locs : List Loc), va_P D vwCl (fm_wR cI cR q5 q6 qr n lf mf g (rs ++ [(q, f)])) H → va_D A (fm_wR cI cR q5 q6 qr n lf mf g (rs ++ [(q, f)])) → va_S A s.heap H locs → ∀ ls : Array Slot, lv_has ls 10 [(7, .int (nI (i2 + 1))), (6, .int x12), (5, .int (nI rs.length)), (4, .ref qr), (3, .int (nI n)), (2, .ref q6), (1, .ref q5), (0, .ref b)] → W p l e (headSpec wsL_rowOf rmL_rowOf).room s m ([.ref b] : List Value).toArray below meth c H locs (3 + rs.length * 148 + 1 + i2 * 49) (20 + rs.length * 425 + 5 + i2 * 140) (MQ below (fm_qR cI cR D A) ([.ref b] : List Value).toArray s 1200 3200 A) (F0 m 129 ls []) := by
        intro j2
        induction j2 with
        | zero =>
          intro i2 f hi2 hgd H locs hP hD hS ls hl
          refine lv_iload hx hb dL_rowOf_129 (lv_at hl 0 rfl) ?_
          refine lv_iconst (v := 4) hx hb dL_rowOf_131 (by decide) ?_
          refine lv_icmp_ge (tgt := 269) hx hb dL_rowOf_132 (by decide) (fun c2 => ?_) (fun c2 => absurd (nI_le (a := 4) (b := i2 + 1) (by omega) (by omega)) c2)
          refine lv_iinc (v := (nI rs.length) + 1) (lv' := [(5, .int ((nI rs.length) + 1)), (7, .int (nI (i2 + 1))), (6, .int x12), (4, .ref qr), (3, .int (nI n)), (2, .ref q6), (1, .ref q5), (0, .ref b)]) hx hb dL_rowOf_269 hl (k := 2) rfl rfl (by decide) rfl (fun ls hl => ?_)
          refine lv_goto (tgt := 68) hx hb dL_rowOf_272 (by decide) ?_
          have hP : va_P D vwCl (fm_wR cI cR q5 q6 qr n lf mf (fm_g (rs ++ [(q, f)])) (rs ++ [(q, f)])) H := by rw [hg f]; exact hP
          have hD : va_D A (fm_wR cI cR q5 q6 qr n lf mf (fm_g (rs ++ [(q, f)])) (rs ++ [(q, f)])) := by rw [hg f]; exact hD
          refine W.widen (k := 3 + (rs.length + 1) * 148) (n := 20 + (rs.length + 1) * 425) (by omega) (by omega) ?_
          exact ih (rs.length + 1) (rs ++ [(q, f)]) (by omega) (by rw [List.length_append]; rfl) (fun r hr => (List.mem_append.mp hr).elim (fun hr => hrs r hr) (fun hr => by rw [List.mem_singleton.mp hr]; exact hgd)) H locs hP hD hS ls (lv_sub (by simpa only [pq_p1] using hl) [0, 3, 4, 5, 6, 7] rfl)
        | succ j2 ih2 =>
          intro i2 f hi2 hgd H locs hP hD hS ls hl
          refine lv_iload hx hb dL_rowOf_129 (lv_at hl 0 rfl) ?_
          refine lv_iconst (v := 4) hx hb dL_rowOf_131 (by decide) ?_
          refine lv_icmp_ge (tgt := 269) hx hb dL_rowOf_132 (by decide) (fun c2 => absurd c2 (nI_ge (a := i2 + 1) (b := 4) (by omega) (by decide))) (fun c2 => ?_)
          have NX : ∀ (f : Nat → Int32), fm_good f → ∀ (H : Heap) (locs : List Loc), va_P D vwCl (fm_wR cI cR q5 q6 qr n lf mf g (rs ++ [(q, f)])) H → va_D A (fm_wR cI cR q5 q6 qr n lf mf g (rs ++ [(q, f)])) → va_S A s.heap H locs → ∀ ls : Array Slot, lv_has ls 10 [(7, .int (nI (i2 + 1))), (6, .int x12), (5, .int (nI rs.length)), (4, .ref qr), (3, .int (nI n)), (2, .ref q6), (1, .ref q5), (0, .ref b)] → W p l e (headSpec wsL_rowOf rmL_rowOf).room s m ([.ref b] : List Value).toArray below meth c H locs (3 + rs.length * 148 + 1 + (i2 + 1) * 49) (20 + rs.length * 425 + 5 + (i2 + 1) * 140) (MQ below (fm_qR cI cR D A) ([.ref b] : List Value).toArray s 1200 3200 A) (F0 m 263 ls []) := by
            intro f hgd H locs hP hD hS ls hl
            refine lv_iinc (v := (nI (i2 + 1)) + 1) (lv' := [(7, .int ((nI (i2 + 1)) + 1)), (6, .int x12), (5, .int (nI rs.length)), (4, .ref qr), (3, .int (nI n)), (2, .ref q6), (1, .ref q5), (0, .ref b)]) hx hb dL_rowOf_263 hl (k := 0) rfl rfl (by decide) rfl (fun ls hl => ?_)
            refine lv_goto (tgt := 129) hx hb dL_rowOf_266 (by decide) ?_
            exact ih2 (i2 + 1) f (by omega) hgd H locs hP hD hS ls (lv_sub (by simpa only [pq_p1] using hl) [0, 1, 2, 3, 4, 5, 6, 7] rfl)
          refine lv_iload hx hb dL_rowOf_135 (lv_at hl 1 rfl) ?_
          refine lv_iconst (v := 5) hx hb dL_rowOf_137 (by decide) ?_
          refine lv_iload hx hb dL_rowOf_138 (lv_at hl 0 rfl) ?_
          refine lv_imul hx hb dL_rowOf_140 ?_
          refine lv_ishr hx hb dL_rowOf_141 ?_
          refine lv_bipush (v := 9) hx hb dL_rowOf_142 (by decide) ?_
          obtain ⟨j18, bj18, h17⟩ := qc_below (xs := xs) (L := L) (n := 9) (x12 >>> (((5 : Int32) * (nI (i2 + 1))) &&& 31)) (by omega) (by omega)
          refine fb_callR (W.runS (As := [.int (x12 >>> (((5 : Int32) * (nI (i2 + 1))) &&& 31)), .int 9]) (rest := []) ⟨hx, hb, hml, hown, hts⟩ (metL_below l b L xs B0 (x12 >>> (((5 : Int32) * (nI (i2 + 1))) &&& 31)) 9 (nI j18) h17) (va_cwS 2 hts gL_rowOf_L_below rfl rfl rfl (by decide +kernel) ⟨Nat.le_of_ble_eq_true rfl, Nat.le_of_ble_eq_true rfl⟩) (fb_preS (fb_scp b L xs) hZ.1 hS hAB _) rfl rfl hl.1 rfl (lv_room (Nat.le_of_ble_eq_true rfl)) dL_rowOf_144 ⟨(by first | exact Nat.le_of_ble_eq_true rfl | (show _ + 0 ≤ 1200; omega)), (by first | exact Nat.le_of_ble_eq_true rfl | (show _ + 0 ≤ 3200; omega))⟩) ?_
          refine lv_if_ne (tgt := 153) hx hb dL_rowOf_147 (by decide) (fun c3 => ?_) (fun c3 => ?_)
          · refine lv_aload_n hx hb dL_rowOf_153 rfl (lv_at hl 6 rfl) ?_
            refine lv_iload hx hb dL_rowOf_154 (lv_at hl 0 rfl) ?_
            refine va_iald hx hb hK hP 0 0 rfl rfl (fb_ixin (pq_ix (show i2 + 1 < 4 by omega) (by omega))) dL_rowOf_156 ?_
            rw [pq_cl (show i2 + 1 < 2 ^ 31 by omega), hlf (i2 + 1) (by omega) (by omega)]
            refine lv_iload hx hb dL_rowOf_157 (lv_at hl 1 rfl) ?_
            refine lv_iconst (v := 3) hx hb dL_rowOf_159 (by decide) ?_
            refine lv_iload hx hb dL_rowOf_160 (lv_at hl 0 rfl) ?_
            refine lv_imul hx hb dL_rowOf_162 ?_
            refine lv_ishr hx hb dL_rowOf_163 ?_
            refine lv_aload_n hx hb dL_rowOf_164 rfl (lv_at hl 5 rfl) ?_
            refine lv_iload hx hb dL_rowOf_165 (lv_at hl 0 rfl) ?_
            refine va_iald hx hb hK hP 1 0 rfl rfl (fb_ixin (pq_ix (show i2 + 1 < 4 by omega) (by omega))) dL_rowOf_167 ?_
            rw [pq_cl (show i2 + 1 < 2 ^ 31 by omega), hmf (i2 + 1) (by omega) (by omega)]
            obtain ⟨hv1, hv2⟩ := fm_vB (i2 + 1) (by omega) (by omega)
            obtain ⟨j20, bj20, h19⟩ := qc_below (xs := xs) (L := L) (n := (pq_vhi (i2 + 1) - pq_vlo (i2 + 1) + 1)) (x12 >>> (((3 : Int32) * (nI (i2 + 1))) &&& 31)) (by omega) (by omega)
            refine fb_callR (W.runS (As := [.int (x12 >>> (((3 : Int32) * (nI (i2 + 1))) &&& 31)), .int (nI (pq_vhi (i2 + 1) - pq_vlo (i2 + 1) + 1))]) (rest := [.int (nI (pq_vlo (i2 + 1)))]) ⟨hx, hb, hml, hown, hts⟩ (metL_below l b L xs B0 (x12 >>> (((3 : Int32) * (nI (i2 + 1))) &&& 31)) (nI (pq_vhi (i2 + 1) - pq_vlo (i2 + 1) + 1)) (nI j20) h19) (va_cwS 2 hts gL_rowOf_L_below rfl rfl rfl (by decide +kernel) ⟨Nat.le_of_ble_eq_true rfl, Nat.le_of_ble_eq_true rfl⟩) (fb_preS (fb_scp b L xs) hZ.1 hS hAB _) rfl rfl hl.1 rfl (lv_room (Nat.le_of_ble_eq_true rfl)) dL_rowOf_168 ⟨(by first | exact Nat.le_of_ble_eq_true rfl | (show _ + 0 ≤ 1200; omega)), (by first | exact Nat.le_of_ble_eq_true rfl | (show _ + 0 ≤ 3200; omega))⟩) ?_
            refine lv_iadd hx hb dL_rowOf_171 ?_
            rw [nI_add (pq_vlo (i2 + 1)) j20]
            refine lv_istore (lv' := [(8, .int (nI (pq_vlo (i2 + 1) + j20))), (7, .int (nI (i2 + 1))), (6, .int x12), (5, .int (nI rs.length)), (4, .ref qr), (3, .int (nI n)), (2, .ref q6), (1, .ref q5), (0, .ref b)]) hx hb dL_rowOf_172 hl (by decide) rfl (fun ls hl => ?_)
            refine lv_iconst (v := 0) hx hb dL_rowOf_174 (by decide) ?_
            refine lv_istore (lv' := [(9, .int 0), (8, .int (nI (pq_vlo (i2 + 1) + j20))), (7, .int (nI (i2 + 1))), (6, .int x12), (5, .int (nI rs.length)), (4, .ref qr), (3, .int (nI n)), (2, .ref q6), (1, .ref q5), (0, .ref b)]) hx hb dL_rowOf_175 hl (by decide) rfl (fun ls hl => ?_)
            have EX : ∀ (p8 : Nat), pq_vlo (i2 + 1) ≤ p8 → p8 ≤ pq_vhi (i2 + 1) → ∀ (H : Heap) (locs : List Loc), va_P D vwCl (fm_wR cI cR q5 q6 qr n lf mf g (rs ++ [(q, f)])) H → va_D A (fm_wR cI cR q5 q6 qr n lf mf g (rs ++ [(q, f)])) → va_S A s.heap H locs → ∀ ls : Array Slot, lv_has ls 10 [(8, .int (nI p8)), (7, .int (nI (i2 + 1))), (6, .int x12), (5, .int (nI rs.length)), (4, .ref qr), (3, .int (nI n)), (2, .ref q6), (1, .ref q5), (0, .ref b)] → W p l e (headSpec wsL_rowOf rmL_rowOf).room s m ([.ref b] : List Value).toArray below meth c H locs (3 + rs.length * 148 + 1 + (i2 + 1) * 49) (20 + rs.length * 425 + 5 + (i2 + 1) * 140) (MQ below (fm_qR cI cR D A) ([.ref b] : List Value).toArray s 1200 3200 A) (F0 m 253 ls []) := by
              intro p8 g1 g2 H locs hP hD hS ls hl
              refine lv_aload hx hb dL_rowOf_253 (lv_at hl 4 rfl) ?_
              refine lv_iload hx hb dL_rowOf_255 (lv_at hl 3 rfl) ?_
              refine fm_aldR hx hb hK hP 2 1 rfl rfl (fb_ixin (pq_ix (show rs.length < n by omega) (by omega))) (v := .ref q) (by rw [pq_cl (by omega), ← hg f]; exact congrArg va_rf fm_g_last) dL_rowOf_257 ?_
              refine lv_iload hx hb dL_rowOf_258 (lv_at hl 1 rfl) ?_
              refine lv_iload hx hb dL_rowOf_260 (lv_at hl 0 rfl) ?_
              refine va_iast hx hb hK hP hD hS (rs.length + 3) 0 fm_wR_at rfl (fb_ixin (pq_ix (show i2 + 1 < 5 by omega) (by omega))) dL_rowOf_262 (fun H locs hP hD hS => ?_)
              have hP : va_P D vwCl (fm_wR cI cR q5 q6 qr n lf mf g (rs ++ [(q, upd f (nI (i2 + 1)).toNatClampNeg (nI p8))])) H := by rw [← fm_wR_set]; exact hP
              have hD : va_D A (fm_wR cI cR q5 q6 qr n lf mf g (rs ++ [(q, upd f (nI (i2 + 1)).toNatClampNeg (nI p8))])) := by rw [← fm_wR_set]; exact hD
              exact NX _ (by rw [pq_cl (by omega)]; exact fm_goodU hgd (by omega) (by omega) (Or.inr ⟨p8, g1, g2, rfl⟩)) H locs hP hD hS ls (lv_sub hl [1, 2, 3, 4, 5, 6, 7, 8] rfl)
            have LT : ∀ (j3 t9 p8 : Nat), t9 + j3 = 7 → pq_vlo (i2 + 1) ≤ p8 → p8 ≤ pq_vhi (i2 + 1) → ∀ (H : Heap) (locs : List Loc), va_P D vwCl (fm_wR cI cR q5 q6 qr n lf mf g (rs ++ [(q, f)])) H → va_D A (fm_wR cI cR q5 q6 qr n lf mf g (rs ++ [(q, f)])) → va_S A s.heap H locs → ∀ ls : Array Slot, lv_has ls 10 [(9, .int (nI t9)), (8, .int (nI p8)), (7, .int (nI (i2 + 1))), (6, .int x12), (5, .int (nI rs.length)), (4, .ref qr), (3, .int (nI n)), (2, .ref q6), (1, .ref q5), (0, .ref b)] → W p l e (headSpec wsL_rowOf rmL_rowOf).room s m ([.ref b] : List Value).toArray below meth c H locs (3 + rs.length * 148 + 1 + i2 * 49 + t9 * 7) (20 + rs.length * 425 + 5 + i2 * 140 + t9 * 20) (MQ below (fm_qR cI cR D A) ([.ref b] : List Value).toArray s 1200 3200 A) (F0 m 177 ls []) := by
              intro j3
              induction j3 with
              | zero =>
                intro t9 p8 ht9 g1 g2 H locs hP hD hS ls hl
                refine lv_iload hx hb dL_rowOf_177 (lv_at hl 0 rfl) ?_
                refine lv_bipush (v := 7) hx hb dL_rowOf_179 (by decide) ?_
                refine lv_icmp_ge (tgt := 253) hx hb dL_rowOf_181 (by decide) (fun c4 => ?_) (fun c4 => absurd (nI_le (a := 7) (b := t9) (by omega) (by omega)) c4)
                refine W.widen (k := 3 + rs.length * 148 + 1 + (i2 + 1) * 49) (n := 20 + rs.length * 425 + 5 + (i2 + 1) * 140) (by omega) (by omega) ?_
                exact EX p8 g1 g2 H locs hP hD hS ls (lv_sub hl [1, 2, 3, 4, 5, 6, 7, 8, 9] rfl)
              | succ j3 ih3 =>
                intro t9 p8 ht9 g1 g2 H locs hP hD hS ls hl
                refine lv_iload hx hb dL_rowOf_177 (lv_at hl 0 rfl) ?_
                refine lv_bipush (v := 7) hx hb dL_rowOf_179 (by decide) ?_
                refine lv_icmp_ge (tgt := 253) hx hb dL_rowOf_181 (by decide) (fun c4 => absurd c4 (nI_ge (a := t9) (b := 7) (by omega) (by decide))) (fun c4 => ?_)
                refine lv_iload hx hb dL_rowOf_184 (lv_at hl 3 rfl) ?_
                refine lv_iload hx hb dL_rowOf_186 (lv_at hl 2 rfl) ?_
                refine lv_ishr hx hb dL_rowOf_188 ?_
                refine lv_iconst (v := 4) hx hb dL_rowOf_189 (by decide) ?_
                obtain ⟨j22, bj22, h21⟩ := qc_below (xs := xs) (L := L) (n := 4) (x12 >>> ((nI (i2 + 1)) &&& 31)) (by omega) (by omega)
                refine fb_callR (W.runS (As := [.int (x12 >>> ((nI (i2 + 1)) &&& 31)), .int 4]) (rest := []) ⟨hx, hb, hml, hown, hts⟩ (metL_below l b L xs B0 (x12 >>> ((nI (i2 + 1)) &&& 31)) 4 (nI j22) h21) (va_cwS 2 hts gL_rowOf_L_below rfl rfl rfl (by decide +kernel) ⟨Nat.le_of_ble_eq_true rfl, Nat.le_of_ble_eq_true rfl⟩) (fb_preS (fb_scp b L xs) hZ.1 hS hAB _) rfl rfl hl.1 rfl (lv_room (Nat.le_of_ble_eq_true rfl)) dL_rowOf_190 ⟨(by first | exact Nat.le_of_ble_eq_true rfl | (show _ + 0 ≤ 1200; omega)), (by first | exact Nat.le_of_ble_eq_true rfl | (show _ + 0 ≤ 3200; omega))⟩) ?_
                refine lv_if_le (tgt := 253) hx hb dL_rowOf_193 (by decide) (fun c5 => ?_) (fun c5 => ?_)
                · refine W.widen (k := 3 + rs.length * 148 + 1 + (i2 + 1) * 49) (n := 20 + rs.length * 425 + 5 + (i2 + 1) * 140) (by omega) (by omega) ?_
                  exact EX p8 g1 g2 H locs hP hD hS ls (lv_sub hl [1, 2, 3, 4, 5, 6, 7, 8, 9] rfl)
                · refine lv_iload hx hb dL_rowOf_196 (lv_at hl 1 rfl) ?_
                  refine lv_aload hx hb dL_rowOf_198 (lv_at hl 5 rfl) ?_
                  refine lv_iload hx hb dL_rowOf_200 (lv_at hl 4 rfl) ?_
                  refine fm_aldR hx hb hK hP 2 1 rfl rfl (fb_ixin (pq_ix (show rs.length < n by omega) (by omega))) (v := .ref q) (by rw [pq_cl (by omega), ← hg f]; exact congrArg va_rf fm_g_last) dL_rowOf_202 ?_
                  refine lv_iconst (v := 0) hx hb dL_rowOf_203 (by decide) ?_
                  obtain ⟨⟨eb, heb, eb1⟩, ⟨ef, hef, ef1⟩, hev⟩ := id hgd
                  refine va_iald hx hb hK hP (rs.length + 3) 0 fm_wR_at rfl (fb_ixin (by decide)) dL_rowOf_204 ?_
                  rw [show f (0 : Int32).toNatClampNeg = nI eb from eb1]
                  refine lv_aload hx hb dL_rowOf_205 (lv_at hl 5 rfl) ?_
                  refine lv_iload hx hb dL_rowOf_207 (lv_at hl 4 rfl) ?_
                  refine fm_aldR hx hb hK hP 2 1 rfl rfl (fb_ixin (pq_ix (show rs.length < n by omega) (by omega))) (v := .ref q) (by rw [pq_cl (by omega), ← hg f]; exact congrArg va_rf fm_g_last) dL_rowOf_209 ?_
                  refine lv_iconst (v := 4) hx hb dL_rowOf_210 (by decide) ?_
                  refine va_iald hx hb hK hP (rs.length + 3) 0 fm_wR_at rfl (fb_ixin (by decide)) dL_rowOf_211 ?_
                  rw [show f (4 : Int32).toNatClampNeg = nI ef from ef1]
                  refine fm_callB (va_runS (As := [.int (nI p8), .int (nI eb), .int (nI ef)]) (rest := []) ⟨hx, hb, hml, hown, hts⟩ (metL_belongs l D cI cR b L xs B0 (nI p8) (nI eb) ef hef H.size) (va_cwS 3 hts gL_rowOf_L_belongs rfl rfl rfl (by decide +kernel) ⟨Nat.le_of_ble_eq_true rfl, Nat.le_of_ble_eq_true rfl⟩) (fb_preSM (fm_SLp b L xs) fm_nil hK fm_nilD hZ hS hAB hA _) rfl rfl hl.1 rfl (lv_room (Nat.le_of_ble_eq_true rfl)) dL_rowOf_212 ⟨(show 3 + rs.length * 148 + 1 + i2 * 49 + t9 * 7 + 7 ≤ 1200 by omega), (show 20 + rs.length * 425 + 5 + i2 * 140 + t9 * 20 + 20 ≤ 3200 by omega)⟩) hS (fun q _ h9 => hA q (Nat.le_trans hS.1 (fm_nilA h9))) (fun q h9 => hA q (Nat.le_trans hS.1 (fm_nilA h9))) (fun r8 H1 locs hk1 hS => ?_)
                  have hP : va_P D vwCl (fm_wR cI cR q5 q6 qr n lf mf g (rs ++ [(q, f)])) H1 := hP.kept (fun k x hx => hk1 x.1 ((hP k x hx).lt) (fun z => absurd (fm_nilA z) (Nat.not_le.mpr ((hP k x hx).lt))))
                  generalize H1 = H at hP hS
                  refine lv_if_ne (tgt := 253) hx hb dL_rowOf_215 (by decide) (fun c6 => ?_) (fun c6 => ?_)
                  · refine W.widen (k := 3 + rs.length * 148 + 1 + (i2 + 1) * 49) (n := 20 + rs.length * 425 + 5 + (i2 + 1) * 140) (by omega) (by omega) ?_
                    exact EX p8 g1 g2 H locs hP hD hS ls (lv_sub hl [1, 2, 3, 4, 5, 6, 7, 8, 9] rfl)
                  · refine lv_iload hx hb dL_rowOf_218 (lv_at hl 1 rfl) ?_
                    refine lv_iconst (v := 1) hx hb dL_rowOf_220 (by decide) ?_
                    refine lv_iadd hx hb dL_rowOf_221 ?_
                    refine lv_aload_n hx hb dL_rowOf_222 rfl (lv_at hl 8 rfl) ?_
                    refine lv_iload hx hb dL_rowOf_223 (lv_at hl 2 rfl) ?_
                    rw [pq_p1]
                    refine va_iald hx hb hK hP 0 0 rfl rfl (fb_ixin (pq_ix (show i2 + 1 < 4 by omega) (by omega))) dL_rowOf_225 ?_
                    rw [pq_cl (show i2 + 1 < 2 ^ 31 by omega), hlf (i2 + 1) (by omega) (by omega)]
                    refine lv_aload_n hx hb dL_rowOf_226 rfl (lv_at hl 7 rfl) ?_
                    refine lv_iload hx hb dL_rowOf_227 (lv_at hl 2 rfl) ?_
                    refine va_iald hx hb hK hP 1 0 rfl rfl (fb_ixin (pq_ix (show i2 + 1 < 4 by omega) (by omega))) dL_rowOf_229 ?_
                    rw [pq_cl (show i2 + 1 < 2 ^ 31 by omega), hmf (i2 + 1) (by omega) (by omega)]
                    refine lv_iadd hx hb dL_rowOf_230 ?_
                    rw [nI_add (pq_vlo (i2 + 1)) (pq_vhi (i2 + 1) - pq_vlo (i2 + 1) + 1)]
                    have J245 : ∀ p7 : Nat, pq_vlo (i2 + 1) ≤ p7 → p7 ≤ pq_vhi (i2 + 1) → ∀ ls : Array Slot, lv_has ls 10 [(9, .int (nI t9)), (8, .int (nI p8)), (7, .int (nI (i2 + 1))), (6, .int x12), (5, .int (nI rs.length)), (4, .ref qr), (3, .int (nI n)), (2, .ref q6), (1, .ref q5), (0, .ref b)] → W p l e (headSpec wsL_rowOf rmL_rowOf).room s m ([.ref b] : List Value).toArray below meth c H locs (3 + rs.length * 148 + 1 + i2 * 49 + t9 * 7 + 7) (20 + rs.length * 425 + 5 + i2 * 140 + t9 * 20 + 20) (MQ below (fm_qR cI cR D A) ([.ref b] : List Value).toArray s 1200 3200 A) (F0 m 245 ls [.int (nI p7)]) := by
                      intro p7 g3 g4 ls hl
                      refine lv_istore (lv' := [(8, .int (nI p7)), (9, .int (nI t9)), (7, .int (nI (i2 + 1))), (6, .int x12), (5, .int (nI rs.length)), (4, .ref qr), (3, .int (nI n)), (2, .ref q6), (1, .ref q5), (0, .ref b)]) hx hb dL_rowOf_245 hl (by decide) rfl (fun ls hl => ?_)
                      refine lv_iinc (v := (nI t9) + 1) (lv' := [(9, .int ((nI t9) + 1)), (8, .int (nI p7)), (7, .int (nI (i2 + 1))), (6, .int x12), (5, .int (nI rs.length)), (4, .ref qr), (3, .int (nI n)), (2, .ref q6), (1, .ref q5), (0, .ref b)]) hx hb dL_rowOf_247 hl (k := 1) rfl rfl (by decide) rfl (fun ls hl => ?_)
                      refine lv_goto (tgt := 177) hx hb dL_rowOf_250 (by decide) ?_
                      refine W.widen (k := 3 + rs.length * 148 + 1 + i2 * 49 + (t9 + 1) * 7) (n := 20 + rs.length * 425 + 5 + i2 * 140 + (t9 + 1) * 20) (by omega) (by omega) ?_
                      exact ih3 (t9 + 1) p7 (by omega) g3 g4 H locs hP hD hS ls (lv_sub (by simpa only [pq_p1] using hl) [0, 1, 2, 3, 4, 5, 6, 7, 8, 9] rfl)
                    refine lv_icmp_ge (tgt := 241) hx hb dL_rowOf_231 (by decide) (fun c7 => ?_) (fun c7 => ?_)
                    · refine lv_aload_n hx hb dL_rowOf_241 rfl (lv_at hl 8 rfl) ?_
                      refine lv_iload hx hb dL_rowOf_242 (lv_at hl 2 rfl) ?_
                      refine va_iald hx hb hK hP 0 0 rfl rfl (fb_ixin (pq_ix (show i2 + 1 < 4 by omega) (by omega))) dL_rowOf_244 ?_
                      rw [pq_cl (show i2 + 1 < 2 ^ 31 by omega), hlf (i2 + 1) (by omega) (by omega)]
                      exact J245 _ (Nat.le_refl _) (by omega) ls hl
                    · refine lv_iload hx hb dL_rowOf_234 (lv_at hl 1 rfl) ?_
                      refine lv_iconst (v := 1) hx hb dL_rowOf_236 (by decide) ?_
                      refine lv_iadd hx hb dL_rowOf_237 ?_
                      rw [pq_p1]
                      refine lv_goto (tgt := 245) hx hb dL_rowOf_238 (by decide) ?_
                      have c8 : p8 + 1 < pq_vlo (i2 + 1) + (pq_vhi (i2 + 1) - pq_vlo (i2 + 1) + 1) := by rw [nI_leI (by omega) (by omega)] at c7; omega
                      exact J245 _ (by omega) (by omega) ls hl
            exact LT 7 0 (pq_vlo (i2 + 1) + j20) rfl (by omega) (by omega) H locs hP hD hS ls (lv_sub hl [0, 1, 2, 3, 4, 5, 6, 7, 8, 9] rfl)
          · refine lv_goto (tgt := 263) hx hb dL_rowOf_150 (by decide) ?_
            refine W.widen (k := 3 + rs.length * 148 + 1 + (i2 + 1) * 49) (n := 20 + rs.length * 425 + 5 + (i2 + 1) * 140) (by omega) (by omega) ?_
            exact NX f hgd H locs hP hD hS ls (lv_sub hl [0, 1, 2, 3, 4, 5, 6, 7] rfl)
      exact LV 3 0 f0 rfl hgd H locs hP hD hS ls (lv_sub hl [0, 1, 2, 3, 4, 5, 6, 7] rfl)
  exact LK n 0 [] (Nat.zero_add n) rfl (fun r hr => by cases hr) H locs hP hD hS ls (lv_sub hl [0, 1, 2, 3, 4, 5] rfl)
