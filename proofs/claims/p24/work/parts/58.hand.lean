/-! The law's helpers that make rows: contracts (straight rows by wip/p24/hand.py). -/
theorem fm_cA {D : va_G} {cl : List vw_C} {cI cR cA : ClassId} {s : State} (h : va_K D cl ([(cI, .int), (cR, .array .int)] ++ [(cA, .int)]) s) : cI = cA := by
  have h1 := (h.2 0 _ rfl).2
  have h2 := (h.2 2 _ rfl).2
  exact Option.some.inj (h1.symm.trans h2)
def fm_SL (b L : Nat) (xs : Nat → Int32) : (Nat → Prop) → State → Heap → Prop := fun A U H => fb_sc b L xs A U H ∧ fm_SAO A U H
theorem fm_SLp (b L : Nat) (xs : Nat → Int32) : fb_SP (fm_SL b L xs) := fb_SP_and (fb_scp b L xs) fm_SAOp
theorem fm_step {xs : Nat → Int32} {L : Nat} (x y : Int32) : ∃ r, fL_step xs L x y = some r := by
  unfold fL_step
  split <;> exact ⟨_, rfl⟩
def fm_qS (cI : ClassId) (D : va_G) (A : Nat → Prop) : Array Value → State → Outcome → State → Prop := fun _ st oc t => (∃ (q n : Nat) (f : Nat → Int32), n ≤ 3 ∧ oc = .returned (some (.ref q)) ∧ va_P D vwCl [(q, .inl (cI, n, .inl f))] t.heap ∧ va_D A [(q, .inl (cI, n, .inl f))]) ∧ va_F A st t
def fm_qB (A : Nat → Prop) : Array Value → State → Outcome → State → Prop := fun _ st oc t => (∃ r : Int32, (r = 0 ∨ r = 1) ∧ oc = .returned (some (.int r))) ∧ va_F A st t
section FMC
variable {p : Program} {l : Launch} {e : Env} {R : Room} {s : State} {m : MethodId} {args : Array Value} {below : List Frame} {meth : Method} {c : Code} {H : Heap} {locs : List Loc} {cells slots mc ms : Nat} {Q : State → Prop}
variable {pc : Nat} {ls : Array Slot} {rest st0 : List Value} {a : Array Value} {A0 A1 : Nat → Prop} {H0 : Heap} {free : Addr → Prop} {D : va_G}
theorem fm_callG {P : Outcome → State → Prop} (hr : va_Run p l e R s m args below meth c H locs cells slots mc ms (F0 m pc ls st0) rest (fun st oc t => P oc t ∧ va_F A1 st t) free) (hS : va_S A0 H0 H locs) (hA : ∀ q, q < H.size → A1 q → A0 q) (hf : ∀ q, free q → A0 q)
    (kk : ∀ (v : Option Value) (t : State) (H1 : Heap) (locs1 : List Loc), t.heap = H1 → P (.returned v) t → H.size ≤ H1.size → (∀ x : Nat, x < H.size → ¬ A1 x → H1[x]? = H[x]?) → va_S A0 H0 H1 locs1 → W p l e R s m args below meth c H1 locs1 (cells + mc) (slots + ms) Q (F0 m (pc + 3) ls (v.toList ++ rest))) : W p l e R s m args below meth c H locs cells slots Q (F0 m pc ls st0) := by
  intro T hT X
  obtain ⟨v, st₀, t, T', L, h0, X', hL, e1, e2, ⟨hp, hz, hk⟩, st⟩ := hr T hT X
  rw [h0] at hz hk
  obtain ⟨t2, a1, b1⟩ := kk v t T'.heap (locs ++ L) e1.symm hp (by rw [e1]; exact hz) (fun q h1 h2 => by rw [e1]; exact hk q h1 h2)
    ⟨Nat.le_trans hS.1 (by rw [e1]; exact hz), fun q h1 h2 => by rw [e1, hk q (Nat.lt_of_lt_of_le h1 hS.1) (fun z => h2 (hA q (Nat.lt_of_lt_of_le h1 hS.1) z))]; exact hS.2.1 q h1 h2, fun q hq => by
      rcases List.mem_append.mp hq with h | h
      · exact hS.2.2 q h
      · exact hf _ (hL q h)⟩ T' rfl X'
  exact ⟨t2, st t2 a1, b1⟩
theorem fm_callS {cI : ClassId} (hr : va_Run p l e R s m args below meth c H locs cells slots mc ms (F0 m pc ls st0) rest (fm_qS cI D A1 a) free) (hS : va_S A0 H0 H locs) (hA : ∀ q, q < H.size → A1 q → A0 q) (hf : ∀ q, free q → A0 q)
    (kk : ∀ (q n : Nat) (f : Nat → Int32) (H1 : Heap) (locs1 : List Loc), n ≤ 3 → va_P D vwCl ([(q, .inl (cI, n, .inl f))] : va_W) H1 → va_S A0 H0 H1 locs1 → W p l e R s m args below meth c H1 locs1 (cells + mc) (slots + ms) Q (F0 m (pc + 3) ls (.ref q :: rest))) : W p l e R s m args below meth c H locs cells slots Q (F0 m pc ls st0) := by
  refine fm_callG (P := fun oc t => ∃ (q n : Nat) (f : Nat → Int32), n ≤ 3 ∧ oc = .returned (some (.ref q)) ∧ va_P D vwCl [(q, .inl (cI, n, .inl f))] t.heap ∧ va_D A1 [(q, .inl (cI, n, .inl f))]) hr hS hA hf (fun v t H1 locs1 ht hp _ _ hS => ?_)
  obtain ⟨q, n, f, h3, hv, hP, -⟩ := hp
  cases hv
  subst ht
  exact kk q n f _ locs1 h3 hP hS
theorem fm_callB (hr : va_Run p l e R s m args below meth c H locs cells slots mc ms (F0 m pc ls st0) rest (fm_qB A1 a) free) (hS : va_S A0 H0 H locs) (hA : ∀ q, q < H.size → A1 q → A0 q) (hf : ∀ q, free q → A0 q)
    (kk : ∀ (r : Int32) (H1 : Heap) (locs1 : List Loc), (∀ x : Nat, x < H.size → ¬ A1 x → H1[x]? = H[x]?) → va_S A0 H0 H1 locs1 → W p l e R s m args below meth c H1 locs1 (cells + mc) (slots + ms) Q (F0 m (pc + 3) ls (.int r :: rest))) : W p l e R s m args below meth c H locs cells slots Q (F0 m pc ls st0) := by
  refine fm_callG (P := fun oc t => ∃ r : Int32, (r = 0 ∨ r = 1) ∧ oc = .returned (some (.int r))) hr hS hA hf (fun v t H1 locs1 ht hp _ hk hS => ?_)
  obtain ⟨r, -, hv⟩ := hp
  cases hv
  exact kk r H1 locs1 hk hS
end FMC
abbrev rmL_stepsOf : Room := { frames := 0, cells := 7, slots := 20, locals := 0 }
set_option maxHeartbeats 8000000 in
set_option maxRecDepth 100000 in
theorem metL_stepsOf (l : Launch) (D : va_G) (cI cR : ClassId) (B0 : Nat) (j : Nat) (hj : j < 6) (hz : Nat) : Met l yL_stepsOf wsL_stepsOf rmL_stepsOf (va_Pc [.int (nI j)] (fb_pm D [(cI, .int), (cR, .array .int)] B0 fm_SAO [] hz)) (fm_qS cI D (va_A [] hz)) 7 20 (va_A [] hz) := by
  refine Met.ofW (cc := cL_stepsOf) (maxL := 2) (ret := (some (.array .int))) (by decide) rfl ?_
  intro p e s m args below meth c s₁ B hml hv
  obtain ⟨rfl, hsz, ⟨hP, hK, hZ⟩, hD0, hAB⟩ := hv
  have hx := B.exec
  have hb := B.bytes
  have hr := B.returns
  have hts := atoms_spec (ws := wsL_stepsOf) B.pre
  have hown : s.vm.findClass RL = some m.cls := findClass_of_methodNamed B.named
  have hlocks := B.notSynchronized
  subst hsz
  have hD := hD0.self (sz := s.heap.size)
  generalize hAe : va_A [] s.heap.size = A at hD hAB ⊢
  have hA : ∀ q : Nat, s.heap.size ≤ q → A q := fun q h9 => by rw [← hAe]; exact Or.inr h9
  have hS : va_S A s.heap s.heap [] := va_S.rf
  have hP : va_P D vwCl ([] : va_W) s.heap := hP
  have hD : va_D A ([] : va_W) := hD
  have w_arr : (Cond.arrayClass .int) ∈ wsL_stepsOf := List.mem_of_getElem? (i := 2) rfl
  have w_c9 : (Cond.classLink RL 9 "[I") ∈ wsL_stepsOf := List.mem_of_getElem? (i := 1) rfl
  have hl := lv_entry ([.int (nI j)]) (n := 2) (Nat.le_of_ble_eq_true rfl)
  rw [lg_entry_eq]
  generalize (lg_sl ([.int (nI j)]) ++ List.replicate (2 - (lg_sl ([.int (nI j)])).length) Slot.unset).toArray = ls at hl ⊢
  have hl : lv_has ls 2 [(0, .int (nI j))] := hl
  suffices K : ∀ (H : Heap) (locs : List Loc), va_P D vwCl ([] : va_W) H → va_S A s.heap H locs → W p l e (headSpec wsL_stepsOf rmL_stepsOf).room s m ([.int (nI j)] : List Value).toArray below meth c H locs 0 0 (MQ below (fm_qS cI D A) ([.int (nI j)] : List Value).toArray s 7 20 A) (F0 m 0 ls []) from K s.heap [] hP hS
  intro H locs hP hS
  refine lv_bipush (v := 6) hx hb dL_stepsOf_0 (by decide) ?_
  refine fm_newR hx hb hown (hts _ w_c9) hZ 1 rfl hK hP hD hS hA (N' := 6) (by decide) (by decide) (by decide) (Nat.le_of_ble_eq_true rfl) (Nat.le_of_ble_eq_true rfl) dL_stepsOf_2 (fun qa H hP hD hS => ?_)
  have hP : va_P D vwCl ([(qa, .inl (cR, 6, .inr (.inr (.inr (.inr (fun _ => none))))))] : va_W) H := hP
  have hD : va_D A ([(qa, .inl (cR, 6, .inr (.inr (.inr (.inr (fun _ => none))))))] : va_W) := hD
  refine lv_dup hx hb dL_stepsOf_5 rfl ?_
  refine lv_iconst (v := 0) hx hb dL_stepsOf_6 (by decide) ?_
  refine lv_iconst (v := 2) hx hb dL_stepsOf_7 (by decide) ?_
  refine va_newa (atype := .int) hx hb (hts _ w_arr) (ty := .int) rfl hK hP hD hS hA (N' := 2) (a0 := (2, .inl (fun _ => 0))) (fun _ => rfl) (by decide) (by decide) (by decide) (Nat.le_of_ble_eq_true rfl) (Nat.le_of_ble_eq_true rfl) dL_stepsOf_8 (fun q1 cA H hK1 hP hD hS => ?_)
  obtain rfl := fm_cA hK1
  have hP : va_P D vwCl ([(qa, .inl (cR, 6, .inr (.inr (.inr (.inr (fun _ => none)))))), (q1, .inl (cI, 2, .inl (fun _ => 0)))] : va_W) H := hP
  have hD : va_D A ([(qa, .inl (cR, 6, .inr (.inr (.inr (.inr (fun _ => none)))))), (q1, .inl (cI, 2, .inl (fun _ => 0)))] : va_W) := hD
  refine lv_dup hx hb dL_stepsOf_10 rfl ?_
  refine lv_iconst (v := 0) hx hb dL_stepsOf_11 (by decide) ?_
  refine lv_iconst (v := 2) hx hb dL_stepsOf_12 (by decide) ?_
  refine va_iast hx hb hK hP hD hS 1 0 rfl rfl (fb_ixin (by decide)) dL_stepsOf_13 (fun H locs hP hD hS => ?_)
  have hP : va_P D vwCl ([(qa, .inl (cR, 6, .inr (.inr (.inr (.inr (fun _ => none)))))), (q1, .inl (cI, 2, .inl (upd (fun _ => 0) (0 : Int32).toNatClampNeg 2)))] : va_W) H := hP
  have hD : va_D A ([(qa, .inl (cR, 6, .inr (.inr (.inr (.inr (fun _ => none)))))), (q1, .inl (cI, 2, .inl (upd (fun _ => 0) (0 : Int32).toNatClampNeg 2)))] : va_W) := hD
  refine lv_dup hx hb dL_stepsOf_14 rfl ?_
  refine lv_iconst (v := 1) hx hb dL_stepsOf_15 (by decide) ?_
  refine lv_iconst (v := 4) hx hb dL_stepsOf_16 (by decide) ?_
  refine va_iast hx hb hK hP hD hS 1 0 rfl rfl (fb_ixin (by decide)) dL_stepsOf_17 (fun H locs hP hD hS => ?_)
  have hP : va_P D vwCl ([(qa, .inl (cR, 6, .inr (.inr (.inr (.inr (fun _ => none)))))), (q1, .inl (cI, 2, .inl (upd (upd (fun _ => 0) (0 : Int32).toNatClampNeg 2) (1 : Int32).toNatClampNeg 4)))] : va_W) H := hP
  have hD : va_D A ([(qa, .inl (cR, 6, .inr (.inr (.inr (.inr (fun _ => none)))))), (q1, .inl (cI, 2, .inl (upd (upd (fun _ => 0) (0 : Int32).toNatClampNeg 2) (1 : Int32).toNatClampNeg 4)))] : va_W) := hD
  refine fm_astR hx hb hZ hK hP hD hS 0 1 1 0 rfl rfl rfl rfl (fb_ixin (by decide)) dL_stepsOf_18 (fun H locs hP hD hS => ?_)
  have hP : va_P D vwCl ([(qa, .inl (cR, 6, .inr (.inr (.inr (.inr (va_up (fun _ => none) (0 : Int32).toNatClampNeg (some q1))))))), (q1, .inl (cI, 2, .inl (upd (upd (fun _ => 0) (0 : Int32).toNatClampNeg 2) (1 : Int32).toNatClampNeg 4)))] : va_W) H := hP
  have hD : va_D A ([(qa, .inl (cR, 6, .inr (.inr (.inr (.inr (va_up (fun _ => none) (0 : Int32).toNatClampNeg (some q1))))))), (q1, .inl (cI, 2, .inl (upd (upd (fun _ => 0) (0 : Int32).toNatClampNeg 2) (1 : Int32).toNatClampNeg 4)))] : va_W) := hD
  refine lv_dup hx hb dL_stepsOf_19 rfl ?_
  refine lv_iconst (v := 1) hx hb dL_stepsOf_20 (by decide) ?_
  refine lv_iconst (v := 2) hx hb dL_stepsOf_21 (by decide) ?_
  refine va_newa (atype := .int) hx hb (hts _ w_arr) (ty := .int) rfl hK hP hD hS hA (N' := 2) (a0 := (2, .inl (fun _ => 0))) (fun _ => rfl) (by decide) (by decide) (by decide) (Nat.le_of_ble_eq_true rfl) (Nat.le_of_ble_eq_true rfl) dL_stepsOf_22 (fun q2 cA H hK1 hP hD hS => ?_)
  obtain rfl := fm_cA hK1
  have hP : va_P D vwCl ([(qa, .inl (cR, 6, .inr (.inr (.inr (.inr (va_up (fun _ => none) (0 : Int32).toNatClampNeg (some q1))))))), (q1, .inl (cI, 2, .inl (upd (upd (fun _ => 0) (0 : Int32).toNatClampNeg 2) (1 : Int32).toNatClampNeg 4))), (q2, .inl (cI, 2, .inl (fun _ => 0)))] : va_W) H := hP
  have hD : va_D A ([(qa, .inl (cR, 6, .inr (.inr (.inr (.inr (va_up (fun _ => none) (0 : Int32).toNatClampNeg (some q1))))))), (q1, .inl (cI, 2, .inl (upd (upd (fun _ => 0) (0 : Int32).toNatClampNeg 2) (1 : Int32).toNatClampNeg 4))), (q2, .inl (cI, 2, .inl (fun _ => 0)))] : va_W) := hD
  refine lv_dup hx hb dL_stepsOf_24 rfl ?_
  refine lv_iconst (v := 0) hx hb dL_stepsOf_25 (by decide) ?_
  refine lv_iconst (v := 2) hx hb dL_stepsOf_26 (by decide) ?_
  refine va_iast hx hb hK hP hD hS 2 0 rfl rfl (fb_ixin (by decide)) dL_stepsOf_27 (fun H locs hP hD hS => ?_)
  have hP : va_P D vwCl ([(qa, .inl (cR, 6, .inr (.inr (.inr (.inr (va_up (fun _ => none) (0 : Int32).toNatClampNeg (some q1))))))), (q1, .inl (cI, 2, .inl (upd (upd (fun _ => 0) (0 : Int32).toNatClampNeg 2) (1 : Int32).toNatClampNeg 4))), (q2, .inl (cI, 2, .inl (upd (fun _ => 0) (0 : Int32).toNatClampNeg 2)))] : va_W) H := hP
  have hD : va_D A ([(qa, .inl (cR, 6, .inr (.inr (.inr (.inr (va_up (fun _ => none) (0 : Int32).toNatClampNeg (some q1))))))), (q1, .inl (cI, 2, .inl (upd (upd (fun _ => 0) (0 : Int32).toNatClampNeg 2) (1 : Int32).toNatClampNeg 4))), (q2, .inl (cI, 2, .inl (upd (fun _ => 0) (0 : Int32).toNatClampNeg 2)))] : va_W) := hD
  refine lv_dup hx hb dL_stepsOf_28 rfl ?_
  refine lv_iconst (v := 1) hx hb dL_stepsOf_29 (by decide) ?_
  refine lv_iconst (v := 5) hx hb dL_stepsOf_30 (by decide) ?_
  refine va_iast hx hb hK hP hD hS 2 0 rfl rfl (fb_ixin (by decide)) dL_stepsOf_31 (fun H locs hP hD hS => ?_)
  have hP : va_P D vwCl ([(qa, .inl (cR, 6, .inr (.inr (.inr (.inr (va_up (fun _ => none) (0 : Int32).toNatClampNeg (some q1))))))), (q1, .inl (cI, 2, .inl (upd (upd (fun _ => 0) (0 : Int32).toNatClampNeg 2) (1 : Int32).toNatClampNeg 4))), (q2, .inl (cI, 2, .inl (upd (upd (fun _ => 0) (0 : Int32).toNatClampNeg 2) (1 : Int32).toNatClampNeg 5)))] : va_W) H := hP
  have hD : va_D A ([(qa, .inl (cR, 6, .inr (.inr (.inr (.inr (va_up (fun _ => none) (0 : Int32).toNatClampNeg (some q1))))))), (q1, .inl (cI, 2, .inl (upd (upd (fun _ => 0) (0 : Int32).toNatClampNeg 2) (1 : Int32).toNatClampNeg 4))), (q2, .inl (cI, 2, .inl (upd (upd (fun _ => 0) (0 : Int32).toNatClampNeg 2) (1 : Int32).toNatClampNeg 5)))] : va_W) := hD
  refine fm_astR hx hb hZ hK hP hD hS 0 1 2 0 rfl rfl rfl rfl (fb_ixin (by decide)) dL_stepsOf_32 (fun H locs hP hD hS => ?_)
  have hP : va_P D vwCl ([(qa, .inl (cR, 6, .inr (.inr (.inr (.inr (va_up (va_up (fun _ => none) (0 : Int32).toNatClampNeg (some q1)) (1 : Int32).toNatClampNeg (some q2))))))), (q1, .inl (cI, 2, .inl (upd (upd (fun _ => 0) (0 : Int32).toNatClampNeg 2) (1 : Int32).toNatClampNeg 4))), (q2, .inl (cI, 2, .inl (upd (upd (fun _ => 0) (0 : Int32).toNatClampNeg 2) (1 : Int32).toNatClampNeg 5)))] : va_W) H := hP
  have hD : va_D A ([(qa, .inl (cR, 6, .inr (.inr (.inr (.inr (va_up (va_up (fun _ => none) (0 : Int32).toNatClampNeg (some q1)) (1 : Int32).toNatClampNeg (some q2))))))), (q1, .inl (cI, 2, .inl (upd (upd (fun _ => 0) (0 : Int32).toNatClampNeg 2) (1 : Int32).toNatClampNeg 4))), (q2, .inl (cI, 2, .inl (upd (upd (fun _ => 0) (0 : Int32).toNatClampNeg 2) (1 : Int32).toNatClampNeg 5)))] : va_W) := hD
  refine lv_dup hx hb dL_stepsOf_33 rfl ?_
  refine lv_iconst (v := 2) hx hb dL_stepsOf_34 (by decide) ?_
  refine lv_iconst (v := 2) hx hb dL_stepsOf_35 (by decide) ?_
  refine va_newa (atype := .int) hx hb (hts _ w_arr) (ty := .int) rfl hK hP hD hS hA (N' := 2) (a0 := (2, .inl (fun _ => 0))) (fun _ => rfl) (by decide) (by decide) (by decide) (Nat.le_of_ble_eq_true rfl) (Nat.le_of_ble_eq_true rfl) dL_stepsOf_36 (fun q3 cA H hK1 hP hD hS => ?_)
  obtain rfl := fm_cA hK1
  have hP : va_P D vwCl ([(qa, .inl (cR, 6, .inr (.inr (.inr (.inr (va_up (va_up (fun _ => none) (0 : Int32).toNatClampNeg (some q1)) (1 : Int32).toNatClampNeg (some q2))))))), (q1, .inl (cI, 2, .inl (upd (upd (fun _ => 0) (0 : Int32).toNatClampNeg 2) (1 : Int32).toNatClampNeg 4))), (q2, .inl (cI, 2, .inl (upd (upd (fun _ => 0) (0 : Int32).toNatClampNeg 2) (1 : Int32).toNatClampNeg 5))), (q3, .inl (cI, 2, .inl (fun _ => 0)))] : va_W) H := hP
  have hD : va_D A ([(qa, .inl (cR, 6, .inr (.inr (.inr (.inr (va_up (va_up (fun _ => none) (0 : Int32).toNatClampNeg (some q1)) (1 : Int32).toNatClampNeg (some q2))))))), (q1, .inl (cI, 2, .inl (upd (upd (fun _ => 0) (0 : Int32).toNatClampNeg 2) (1 : Int32).toNatClampNeg 4))), (q2, .inl (cI, 2, .inl (upd (upd (fun _ => 0) (0 : Int32).toNatClampNeg 2) (1 : Int32).toNatClampNeg 5))), (q3, .inl (cI, 2, .inl (fun _ => 0)))] : va_W) := hD
  refine lv_dup hx hb dL_stepsOf_38 rfl ?_
  refine lv_iconst (v := 0) hx hb dL_stepsOf_39 (by decide) ?_
  refine lv_iconst (v := 3) hx hb dL_stepsOf_40 (by decide) ?_
  refine va_iast hx hb hK hP hD hS 3 0 rfl rfl (fb_ixin (by decide)) dL_stepsOf_41 (fun H locs hP hD hS => ?_)
  have hP : va_P D vwCl ([(qa, .inl (cR, 6, .inr (.inr (.inr (.inr (va_up (va_up (fun _ => none) (0 : Int32).toNatClampNeg (some q1)) (1 : Int32).toNatClampNeg (some q2))))))), (q1, .inl (cI, 2, .inl (upd (upd (fun _ => 0) (0 : Int32).toNatClampNeg 2) (1 : Int32).toNatClampNeg 4))), (q2, .inl (cI, 2, .inl (upd (upd (fun _ => 0) (0 : Int32).toNatClampNeg 2) (1 : Int32).toNatClampNeg 5))), (q3, .inl (cI, 2, .inl (upd (fun _ => 0) (0 : Int32).toNatClampNeg 3)))] : va_W) H := hP
  have hD : va_D A ([(qa, .inl (cR, 6, .inr (.inr (.inr (.inr (va_up (va_up (fun _ => none) (0 : Int32).toNatClampNeg (some q1)) (1 : Int32).toNatClampNeg (some q2))))))), (q1, .inl (cI, 2, .inl (upd (upd (fun _ => 0) (0 : Int32).toNatClampNeg 2) (1 : Int32).toNatClampNeg 4))), (q2, .inl (cI, 2, .inl (upd (upd (fun _ => 0) (0 : Int32).toNatClampNeg 2) (1 : Int32).toNatClampNeg 5))), (q3, .inl (cI, 2, .inl (upd (fun _ => 0) (0 : Int32).toNatClampNeg 3)))] : va_W) := hD
  refine lv_dup hx hb dL_stepsOf_42 rfl ?_
  refine lv_iconst (v := 1) hx hb dL_stepsOf_43 (by decide) ?_
  refine lv_iconst (v := 5) hx hb dL_stepsOf_44 (by decide) ?_
  refine va_iast hx hb hK hP hD hS 3 0 rfl rfl (fb_ixin (by decide)) dL_stepsOf_45 (fun H locs hP hD hS => ?_)
  have hP : va_P D vwCl ([(qa, .inl (cR, 6, .inr (.inr (.inr (.inr (va_up (va_up (fun _ => none) (0 : Int32).toNatClampNeg (some q1)) (1 : Int32).toNatClampNeg (some q2))))))), (q1, .inl (cI, 2, .inl (upd (upd (fun _ => 0) (0 : Int32).toNatClampNeg 2) (1 : Int32).toNatClampNeg 4))), (q2, .inl (cI, 2, .inl (upd (upd (fun _ => 0) (0 : Int32).toNatClampNeg 2) (1 : Int32).toNatClampNeg 5))), (q3, .inl (cI, 2, .inl (upd (upd (fun _ => 0) (0 : Int32).toNatClampNeg 3) (1 : Int32).toNatClampNeg 5)))] : va_W) H := hP
  have hD : va_D A ([(qa, .inl (cR, 6, .inr (.inr (.inr (.inr (va_up (va_up (fun _ => none) (0 : Int32).toNatClampNeg (some q1)) (1 : Int32).toNatClampNeg (some q2))))))), (q1, .inl (cI, 2, .inl (upd (upd (fun _ => 0) (0 : Int32).toNatClampNeg 2) (1 : Int32).toNatClampNeg 4))), (q2, .inl (cI, 2, .inl (upd (upd (fun _ => 0) (0 : Int32).toNatClampNeg 2) (1 : Int32).toNatClampNeg 5))), (q3, .inl (cI, 2, .inl (upd (upd (fun _ => 0) (0 : Int32).toNatClampNeg 3) (1 : Int32).toNatClampNeg 5)))] : va_W) := hD
  refine fm_astR hx hb hZ hK hP hD hS 0 1 3 0 rfl rfl rfl rfl (fb_ixin (by decide)) dL_stepsOf_46 (fun H locs hP hD hS => ?_)
  have hP : va_P D vwCl ([(qa, .inl (cR, 6, .inr (.inr (.inr (.inr (va_up (va_up (va_up (fun _ => none) (0 : Int32).toNatClampNeg (some q1)) (1 : Int32).toNatClampNeg (some q2)) (2 : Int32).toNatClampNeg (some q3))))))), (q1, .inl (cI, 2, .inl (upd (upd (fun _ => 0) (0 : Int32).toNatClampNeg 2) (1 : Int32).toNatClampNeg 4))), (q2, .inl (cI, 2, .inl (upd (upd (fun _ => 0) (0 : Int32).toNatClampNeg 2) (1 : Int32).toNatClampNeg 5))), (q3, .inl (cI, 2, .inl (upd (upd (fun _ => 0) (0 : Int32).toNatClampNeg 3) (1 : Int32).toNatClampNeg 5)))] : va_W) H := hP
  have hD : va_D A ([(qa, .inl (cR, 6, .inr (.inr (.inr (.inr (va_up (va_up (va_up (fun _ => none) (0 : Int32).toNatClampNeg (some q1)) (1 : Int32).toNatClampNeg (some q2)) (2 : Int32).toNatClampNeg (some q3))))))), (q1, .inl (cI, 2, .inl (upd (upd (fun _ => 0) (0 : Int32).toNatClampNeg 2) (1 : Int32).toNatClampNeg 4))), (q2, .inl (cI, 2, .inl (upd (upd (fun _ => 0) (0 : Int32).toNatClampNeg 2) (1 : Int32).toNatClampNeg 5))), (q3, .inl (cI, 2, .inl (upd (upd (fun _ => 0) (0 : Int32).toNatClampNeg 3) (1 : Int32).toNatClampNeg 5)))] : va_W) := hD
  refine lv_dup hx hb dL_stepsOf_47 rfl ?_
  refine lv_iconst (v := 3) hx hb dL_stepsOf_48 (by decide) ?_
  refine lv_iconst (v := 3) hx hb dL_stepsOf_49 (by decide) ?_
  refine va_newa (atype := .int) hx hb (hts _ w_arr) (ty := .int) rfl hK hP hD hS hA (N' := 3) (a0 := (3, .inl (fun _ => 0))) (fun _ => rfl) (by decide) (by decide) (by decide) (Nat.le_of_ble_eq_true rfl) (Nat.le_of_ble_eq_true rfl) dL_stepsOf_50 (fun q4 cA H hK1 hP hD hS => ?_)
  obtain rfl := fm_cA hK1
  have hP : va_P D vwCl ([(qa, .inl (cR, 6, .inr (.inr (.inr (.inr (va_up (va_up (va_up (fun _ => none) (0 : Int32).toNatClampNeg (some q1)) (1 : Int32).toNatClampNeg (some q2)) (2 : Int32).toNatClampNeg (some q3))))))), (q1, .inl (cI, 2, .inl (upd (upd (fun _ => 0) (0 : Int32).toNatClampNeg 2) (1 : Int32).toNatClampNeg 4))), (q2, .inl (cI, 2, .inl (upd (upd (fun _ => 0) (0 : Int32).toNatClampNeg 2) (1 : Int32).toNatClampNeg 5))), (q3, .inl (cI, 2, .inl (upd (upd (fun _ => 0) (0 : Int32).toNatClampNeg 3) (1 : Int32).toNatClampNeg 5))), (q4, .inl (cI, 3, .inl (fun _ => 0)))] : va_W) H := hP
  have hD : va_D A ([(qa, .inl (cR, 6, .inr (.inr (.inr (.inr (va_up (va_up (va_up (fun _ => none) (0 : Int32).toNatClampNeg (some q1)) (1 : Int32).toNatClampNeg (some q2)) (2 : Int32).toNatClampNeg (some q3))))))), (q1, .inl (cI, 2, .inl (upd (upd (fun _ => 0) (0 : Int32).toNatClampNeg 2) (1 : Int32).toNatClampNeg 4))), (q2, .inl (cI, 2, .inl (upd (upd (fun _ => 0) (0 : Int32).toNatClampNeg 2) (1 : Int32).toNatClampNeg 5))), (q3, .inl (cI, 2, .inl (upd (upd (fun _ => 0) (0 : Int32).toNatClampNeg 3) (1 : Int32).toNatClampNeg 5))), (q4, .inl (cI, 3, .inl (fun _ => 0)))] : va_W) := hD
  refine lv_dup hx hb dL_stepsOf_52 rfl ?_
  refine lv_iconst (v := 0) hx hb dL_stepsOf_53 (by decide) ?_
  refine lv_iconst (v := 2) hx hb dL_stepsOf_54 (by decide) ?_
  refine va_iast hx hb hK hP hD hS 4 0 rfl rfl (fb_ixin (by decide)) dL_stepsOf_55 (fun H locs hP hD hS => ?_)
  have hP : va_P D vwCl ([(qa, .inl (cR, 6, .inr (.inr (.inr (.inr (va_up (va_up (va_up (fun _ => none) (0 : Int32).toNatClampNeg (some q1)) (1 : Int32).toNatClampNeg (some q2)) (2 : Int32).toNatClampNeg (some q3))))))), (q1, .inl (cI, 2, .inl (upd (upd (fun _ => 0) (0 : Int32).toNatClampNeg 2) (1 : Int32).toNatClampNeg 4))), (q2, .inl (cI, 2, .inl (upd (upd (fun _ => 0) (0 : Int32).toNatClampNeg 2) (1 : Int32).toNatClampNeg 5))), (q3, .inl (cI, 2, .inl (upd (upd (fun _ => 0) (0 : Int32).toNatClampNeg 3) (1 : Int32).toNatClampNeg 5))), (q4, .inl (cI, 3, .inl (upd (fun _ => 0) (0 : Int32).toNatClampNeg 2)))] : va_W) H := hP
  have hD : va_D A ([(qa, .inl (cR, 6, .inr (.inr (.inr (.inr (va_up (va_up (va_up (fun _ => none) (0 : Int32).toNatClampNeg (some q1)) (1 : Int32).toNatClampNeg (some q2)) (2 : Int32).toNatClampNeg (some q3))))))), (q1, .inl (cI, 2, .inl (upd (upd (fun _ => 0) (0 : Int32).toNatClampNeg 2) (1 : Int32).toNatClampNeg 4))), (q2, .inl (cI, 2, .inl (upd (upd (fun _ => 0) (0 : Int32).toNatClampNeg 2) (1 : Int32).toNatClampNeg 5))), (q3, .inl (cI, 2, .inl (upd (upd (fun _ => 0) (0 : Int32).toNatClampNeg 3) (1 : Int32).toNatClampNeg 5))), (q4, .inl (cI, 3, .inl (upd (fun _ => 0) (0 : Int32).toNatClampNeg 2)))] : va_W) := hD
  refine lv_dup hx hb dL_stepsOf_56 rfl ?_
  refine lv_iconst (v := 1) hx hb dL_stepsOf_57 (by decide) ?_
  refine lv_iconst (v := 4) hx hb dL_stepsOf_58 (by decide) ?_
  refine va_iast hx hb hK hP hD hS 4 0 rfl rfl (fb_ixin (by decide)) dL_stepsOf_59 (fun H locs hP hD hS => ?_)
  have hP : va_P D vwCl ([(qa, .inl (cR, 6, .inr (.inr (.inr (.inr (va_up (va_up (va_up (fun _ => none) (0 : Int32).toNatClampNeg (some q1)) (1 : Int32).toNatClampNeg (some q2)) (2 : Int32).toNatClampNeg (some q3))))))), (q1, .inl (cI, 2, .inl (upd (upd (fun _ => 0) (0 : Int32).toNatClampNeg 2) (1 : Int32).toNatClampNeg 4))), (q2, .inl (cI, 2, .inl (upd (upd (fun _ => 0) (0 : Int32).toNatClampNeg 2) (1 : Int32).toNatClampNeg 5))), (q3, .inl (cI, 2, .inl (upd (upd (fun _ => 0) (0 : Int32).toNatClampNeg 3) (1 : Int32).toNatClampNeg 5))), (q4, .inl (cI, 3, .inl (upd (upd (fun _ => 0) (0 : Int32).toNatClampNeg 2) (1 : Int32).toNatClampNeg 4)))] : va_W) H := hP
  have hD : va_D A ([(qa, .inl (cR, 6, .inr (.inr (.inr (.inr (va_up (va_up (va_up (fun _ => none) (0 : Int32).toNatClampNeg (some q1)) (1 : Int32).toNatClampNeg (some q2)) (2 : Int32).toNatClampNeg (some q3))))))), (q1, .inl (cI, 2, .inl (upd (upd (fun _ => 0) (0 : Int32).toNatClampNeg 2) (1 : Int32).toNatClampNeg 4))), (q2, .inl (cI, 2, .inl (upd (upd (fun _ => 0) (0 : Int32).toNatClampNeg 2) (1 : Int32).toNatClampNeg 5))), (q3, .inl (cI, 2, .inl (upd (upd (fun _ => 0) (0 : Int32).toNatClampNeg 3) (1 : Int32).toNatClampNeg 5))), (q4, .inl (cI, 3, .inl (upd (upd (fun _ => 0) (0 : Int32).toNatClampNeg 2) (1 : Int32).toNatClampNeg 4)))] : va_W) := hD
  refine lv_dup hx hb dL_stepsOf_60 rfl ?_
  refine lv_iconst (v := 2) hx hb dL_stepsOf_61 (by decide) ?_
  refine lv_bipush (v := 6) hx hb dL_stepsOf_62 (by decide) ?_
  refine va_iast hx hb hK hP hD hS 4 0 rfl rfl (fb_ixin (by decide)) dL_stepsOf_64 (fun H locs hP hD hS => ?_)
  have hP : va_P D vwCl ([(qa, .inl (cR, 6, .inr (.inr (.inr (.inr (va_up (va_up (va_up (fun _ => none) (0 : Int32).toNatClampNeg (some q1)) (1 : Int32).toNatClampNeg (some q2)) (2 : Int32).toNatClampNeg (some q3))))))), (q1, .inl (cI, 2, .inl (upd (upd (fun _ => 0) (0 : Int32).toNatClampNeg 2) (1 : Int32).toNatClampNeg 4))), (q2, .inl (cI, 2, .inl (upd (upd (fun _ => 0) (0 : Int32).toNatClampNeg 2) (1 : Int32).toNatClampNeg 5))), (q3, .inl (cI, 2, .inl (upd (upd (fun _ => 0) (0 : Int32).toNatClampNeg 3) (1 : Int32).toNatClampNeg 5))), (q4, .inl (cI, 3, .inl (upd (upd (upd (fun _ => 0) (0 : Int32).toNatClampNeg 2) (1 : Int32).toNatClampNeg 4) (2 : Int32).toNatClampNeg 6)))] : va_W) H := hP
  have hD : va_D A ([(qa, .inl (cR, 6, .inr (.inr (.inr (.inr (va_up (va_up (va_up (fun _ => none) (0 : Int32).toNatClampNeg (some q1)) (1 : Int32).toNatClampNeg (some q2)) (2 : Int32).toNatClampNeg (some q3))))))), (q1, .inl (cI, 2, .inl (upd (upd (fun _ => 0) (0 : Int32).toNatClampNeg 2) (1 : Int32).toNatClampNeg 4))), (q2, .inl (cI, 2, .inl (upd (upd (fun _ => 0) (0 : Int32).toNatClampNeg 2) (1 : Int32).toNatClampNeg 5))), (q3, .inl (cI, 2, .inl (upd (upd (fun _ => 0) (0 : Int32).toNatClampNeg 3) (1 : Int32).toNatClampNeg 5))), (q4, .inl (cI, 3, .inl (upd (upd (upd (fun _ => 0) (0 : Int32).toNatClampNeg 2) (1 : Int32).toNatClampNeg 4) (2 : Int32).toNatClampNeg 6)))] : va_W) := hD
  refine fm_astR hx hb hZ hK hP hD hS 0 1 4 0 rfl rfl rfl rfl (fb_ixin (by decide)) dL_stepsOf_65 (fun H locs hP hD hS => ?_)
  have hP : va_P D vwCl ([(qa, .inl (cR, 6, .inr (.inr (.inr (.inr (va_up (va_up (va_up (va_up (fun _ => none) (0 : Int32).toNatClampNeg (some q1)) (1 : Int32).toNatClampNeg (some q2)) (2 : Int32).toNatClampNeg (some q3)) (3 : Int32).toNatClampNeg (some q4))))))), (q1, .inl (cI, 2, .inl (upd (upd (fun _ => 0) (0 : Int32).toNatClampNeg 2) (1 : Int32).toNatClampNeg 4))), (q2, .inl (cI, 2, .inl (upd (upd (fun _ => 0) (0 : Int32).toNatClampNeg 2) (1 : Int32).toNatClampNeg 5))), (q3, .inl (cI, 2, .inl (upd (upd (fun _ => 0) (0 : Int32).toNatClampNeg 3) (1 : Int32).toNatClampNeg 5))), (q4, .inl (cI, 3, .inl (upd (upd (upd (fun _ => 0) (0 : Int32).toNatClampNeg 2) (1 : Int32).toNatClampNeg 4) (2 : Int32).toNatClampNeg 6)))] : va_W) H := hP
  have hD : va_D A ([(qa, .inl (cR, 6, .inr (.inr (.inr (.inr (va_up (va_up (va_up (va_up (fun _ => none) (0 : Int32).toNatClampNeg (some q1)) (1 : Int32).toNatClampNeg (some q2)) (2 : Int32).toNatClampNeg (some q3)) (3 : Int32).toNatClampNeg (some q4))))))), (q1, .inl (cI, 2, .inl (upd (upd (fun _ => 0) (0 : Int32).toNatClampNeg 2) (1 : Int32).toNatClampNeg 4))), (q2, .inl (cI, 2, .inl (upd (upd (fun _ => 0) (0 : Int32).toNatClampNeg 2) (1 : Int32).toNatClampNeg 5))), (q3, .inl (cI, 2, .inl (upd (upd (fun _ => 0) (0 : Int32).toNatClampNeg 3) (1 : Int32).toNatClampNeg 5))), (q4, .inl (cI, 3, .inl (upd (upd (upd (fun _ => 0) (0 : Int32).toNatClampNeg 2) (1 : Int32).toNatClampNeg 4) (2 : Int32).toNatClampNeg 6)))] : va_W) := hD
  refine lv_dup hx hb dL_stepsOf_66 rfl ?_
  refine lv_iconst (v := 4) hx hb dL_stepsOf_67 (by decide) ?_
  refine lv_iconst (v := 2) hx hb dL_stepsOf_68 (by decide) ?_
  refine va_newa (atype := .int) hx hb (hts _ w_arr) (ty := .int) rfl hK hP hD hS hA (N' := 2) (a0 := (2, .inl (fun _ => 0))) (fun _ => rfl) (by decide) (by decide) (by decide) (Nat.le_of_ble_eq_true rfl) (Nat.le_of_ble_eq_true rfl) dL_stepsOf_69 (fun q5 cA H hK1 hP hD hS => ?_)
  obtain rfl := fm_cA hK1
  have hP : va_P D vwCl ([(qa, .inl (cR, 6, .inr (.inr (.inr (.inr (va_up (va_up (va_up (va_up (fun _ => none) (0 : Int32).toNatClampNeg (some q1)) (1 : Int32).toNatClampNeg (some q2)) (2 : Int32).toNatClampNeg (some q3)) (3 : Int32).toNatClampNeg (some q4))))))), (q1, .inl (cI, 2, .inl (upd (upd (fun _ => 0) (0 : Int32).toNatClampNeg 2) (1 : Int32).toNatClampNeg 4))), (q2, .inl (cI, 2, .inl (upd (upd (fun _ => 0) (0 : Int32).toNatClampNeg 2) (1 : Int32).toNatClampNeg 5))), (q3, .inl (cI, 2, .inl (upd (upd (fun _ => 0) (0 : Int32).toNatClampNeg 3) (1 : Int32).toNatClampNeg 5))), (q4, .inl (cI, 3, .inl (upd (upd (upd (fun _ => 0) (0 : Int32).toNatClampNeg 2) (1 : Int32).toNatClampNeg 4) (2 : Int32).toNatClampNeg 6))), (q5, .inl (cI, 2, .inl (fun _ => 0)))] : va_W) H := hP
  have hD : va_D A ([(qa, .inl (cR, 6, .inr (.inr (.inr (.inr (va_up (va_up (va_up (va_up (fun _ => none) (0 : Int32).toNatClampNeg (some q1)) (1 : Int32).toNatClampNeg (some q2)) (2 : Int32).toNatClampNeg (some q3)) (3 : Int32).toNatClampNeg (some q4))))))), (q1, .inl (cI, 2, .inl (upd (upd (fun _ => 0) (0 : Int32).toNatClampNeg 2) (1 : Int32).toNatClampNeg 4))), (q2, .inl (cI, 2, .inl (upd (upd (fun _ => 0) (0 : Int32).toNatClampNeg 2) (1 : Int32).toNatClampNeg 5))), (q3, .inl (cI, 2, .inl (upd (upd (fun _ => 0) (0 : Int32).toNatClampNeg 3) (1 : Int32).toNatClampNeg 5))), (q4, .inl (cI, 3, .inl (upd (upd (upd (fun _ => 0) (0 : Int32).toNatClampNeg 2) (1 : Int32).toNatClampNeg 4) (2 : Int32).toNatClampNeg 6))), (q5, .inl (cI, 2, .inl (fun _ => 0)))] : va_W) := hD
  refine lv_dup hx hb dL_stepsOf_71 rfl ?_
  refine lv_iconst (v := 0) hx hb dL_stepsOf_72 (by decide) ?_
  refine lv_iconst (v := 3) hx hb dL_stepsOf_73 (by decide) ?_
  refine va_iast hx hb hK hP hD hS 5 0 rfl rfl (fb_ixin (by decide)) dL_stepsOf_74 (fun H locs hP hD hS => ?_)
  have hP : va_P D vwCl ([(qa, .inl (cR, 6, .inr (.inr (.inr (.inr (va_up (va_up (va_up (va_up (fun _ => none) (0 : Int32).toNatClampNeg (some q1)) (1 : Int32).toNatClampNeg (some q2)) (2 : Int32).toNatClampNeg (some q3)) (3 : Int32).toNatClampNeg (some q4))))))), (q1, .inl (cI, 2, .inl (upd (upd (fun _ => 0) (0 : Int32).toNatClampNeg 2) (1 : Int32).toNatClampNeg 4))), (q2, .inl (cI, 2, .inl (upd (upd (fun _ => 0) (0 : Int32).toNatClampNeg 2) (1 : Int32).toNatClampNeg 5))), (q3, .inl (cI, 2, .inl (upd (upd (fun _ => 0) (0 : Int32).toNatClampNeg 3) (1 : Int32).toNatClampNeg 5))), (q4, .inl (cI, 3, .inl (upd (upd (upd (fun _ => 0) (0 : Int32).toNatClampNeg 2) (1 : Int32).toNatClampNeg 4) (2 : Int32).toNatClampNeg 6))), (q5, .inl (cI, 2, .inl (upd (fun _ => 0) (0 : Int32).toNatClampNeg 3)))] : va_W) H := hP
  have hD : va_D A ([(qa, .inl (cR, 6, .inr (.inr (.inr (.inr (va_up (va_up (va_up (va_up (fun _ => none) (0 : Int32).toNatClampNeg (some q1)) (1 : Int32).toNatClampNeg (some q2)) (2 : Int32).toNatClampNeg (some q3)) (3 : Int32).toNatClampNeg (some q4))))))), (q1, .inl (cI, 2, .inl (upd (upd (fun _ => 0) (0 : Int32).toNatClampNeg 2) (1 : Int32).toNatClampNeg 4))), (q2, .inl (cI, 2, .inl (upd (upd (fun _ => 0) (0 : Int32).toNatClampNeg 2) (1 : Int32).toNatClampNeg 5))), (q3, .inl (cI, 2, .inl (upd (upd (fun _ => 0) (0 : Int32).toNatClampNeg 3) (1 : Int32).toNatClampNeg 5))), (q4, .inl (cI, 3, .inl (upd (upd (upd (fun _ => 0) (0 : Int32).toNatClampNeg 2) (1 : Int32).toNatClampNeg 4) (2 : Int32).toNatClampNeg 6))), (q5, .inl (cI, 2, .inl (upd (fun _ => 0) (0 : Int32).toNatClampNeg 3)))] : va_W) := hD
  refine lv_dup hx hb dL_stepsOf_75 rfl ?_
  refine lv_iconst (v := 1) hx hb dL_stepsOf_76 (by decide) ?_
  refine lv_iconst (v := 4) hx hb dL_stepsOf_77 (by decide) ?_
  refine va_iast hx hb hK hP hD hS 5 0 rfl rfl (fb_ixin (by decide)) dL_stepsOf_78 (fun H locs hP hD hS => ?_)
  have hP : va_P D vwCl ([(qa, .inl (cR, 6, .inr (.inr (.inr (.inr (va_up (va_up (va_up (va_up (fun _ => none) (0 : Int32).toNatClampNeg (some q1)) (1 : Int32).toNatClampNeg (some q2)) (2 : Int32).toNatClampNeg (some q3)) (3 : Int32).toNatClampNeg (some q4))))))), (q1, .inl (cI, 2, .inl (upd (upd (fun _ => 0) (0 : Int32).toNatClampNeg 2) (1 : Int32).toNatClampNeg 4))), (q2, .inl (cI, 2, .inl (upd (upd (fun _ => 0) (0 : Int32).toNatClampNeg 2) (1 : Int32).toNatClampNeg 5))), (q3, .inl (cI, 2, .inl (upd (upd (fun _ => 0) (0 : Int32).toNatClampNeg 3) (1 : Int32).toNatClampNeg 5))), (q4, .inl (cI, 3, .inl (upd (upd (upd (fun _ => 0) (0 : Int32).toNatClampNeg 2) (1 : Int32).toNatClampNeg 4) (2 : Int32).toNatClampNeg 6))), (q5, .inl (cI, 2, .inl (upd (upd (fun _ => 0) (0 : Int32).toNatClampNeg 3) (1 : Int32).toNatClampNeg 4)))] : va_W) H := hP
  have hD : va_D A ([(qa, .inl (cR, 6, .inr (.inr (.inr (.inr (va_up (va_up (va_up (va_up (fun _ => none) (0 : Int32).toNatClampNeg (some q1)) (1 : Int32).toNatClampNeg (some q2)) (2 : Int32).toNatClampNeg (some q3)) (3 : Int32).toNatClampNeg (some q4))))))), (q1, .inl (cI, 2, .inl (upd (upd (fun _ => 0) (0 : Int32).toNatClampNeg 2) (1 : Int32).toNatClampNeg 4))), (q2, .inl (cI, 2, .inl (upd (upd (fun _ => 0) (0 : Int32).toNatClampNeg 2) (1 : Int32).toNatClampNeg 5))), (q3, .inl (cI, 2, .inl (upd (upd (fun _ => 0) (0 : Int32).toNatClampNeg 3) (1 : Int32).toNatClampNeg 5))), (q4, .inl (cI, 3, .inl (upd (upd (upd (fun _ => 0) (0 : Int32).toNatClampNeg 2) (1 : Int32).toNatClampNeg 4) (2 : Int32).toNatClampNeg 6))), (q5, .inl (cI, 2, .inl (upd (upd (fun _ => 0) (0 : Int32).toNatClampNeg 3) (1 : Int32).toNatClampNeg 4)))] : va_W) := hD
  refine fm_astR hx hb hZ hK hP hD hS 0 1 5 0 rfl rfl rfl rfl (fb_ixin (by decide)) dL_stepsOf_79 (fun H locs hP hD hS => ?_)
  have hP : va_P D vwCl ([(qa, .inl (cR, 6, .inr (.inr (.inr (.inr (va_up (va_up (va_up (va_up (va_up (fun _ => none) (0 : Int32).toNatClampNeg (some q1)) (1 : Int32).toNatClampNeg (some q2)) (2 : Int32).toNatClampNeg (some q3)) (3 : Int32).toNatClampNeg (some q4)) (4 : Int32).toNatClampNeg (some q5))))))), (q1, .inl (cI, 2, .inl (upd (upd (fun _ => 0) (0 : Int32).toNatClampNeg 2) (1 : Int32).toNatClampNeg 4))), (q2, .inl (cI, 2, .inl (upd (upd (fun _ => 0) (0 : Int32).toNatClampNeg 2) (1 : Int32).toNatClampNeg 5))), (q3, .inl (cI, 2, .inl (upd (upd (fun _ => 0) (0 : Int32).toNatClampNeg 3) (1 : Int32).toNatClampNeg 5))), (q4, .inl (cI, 3, .inl (upd (upd (upd (fun _ => 0) (0 : Int32).toNatClampNeg 2) (1 : Int32).toNatClampNeg 4) (2 : Int32).toNatClampNeg 6))), (q5, .inl (cI, 2, .inl (upd (upd (fun _ => 0) (0 : Int32).toNatClampNeg 3) (1 : Int32).toNatClampNeg 4)))] : va_W) H := hP
  have hD : va_D A ([(qa, .inl (cR, 6, .inr (.inr (.inr (.inr (va_up (va_up (va_up (va_up (va_up (fun _ => none) (0 : Int32).toNatClampNeg (some q1)) (1 : Int32).toNatClampNeg (some q2)) (2 : Int32).toNatClampNeg (some q3)) (3 : Int32).toNatClampNeg (some q4)) (4 : Int32).toNatClampNeg (some q5))))))), (q1, .inl (cI, 2, .inl (upd (upd (fun _ => 0) (0 : Int32).toNatClampNeg 2) (1 : Int32).toNatClampNeg 4))), (q2, .inl (cI, 2, .inl (upd (upd (fun _ => 0) (0 : Int32).toNatClampNeg 2) (1 : Int32).toNatClampNeg 5))), (q3, .inl (cI, 2, .inl (upd (upd (fun _ => 0) (0 : Int32).toNatClampNeg 3) (1 : Int32).toNatClampNeg 5))), (q4, .inl (cI, 3, .inl (upd (upd (upd (fun _ => 0) (0 : Int32).toNatClampNeg 2) (1 : Int32).toNatClampNeg 4) (2 : Int32).toNatClampNeg 6))), (q5, .inl (cI, 2, .inl (upd (upd (fun _ => 0) (0 : Int32).toNatClampNeg 3) (1 : Int32).toNatClampNeg 4)))] : va_W) := hD
  refine lv_dup hx hb dL_stepsOf_80 rfl ?_
  refine lv_iconst (v := 5) hx hb dL_stepsOf_81 (by decide) ?_
  refine lv_iconst (v := 3) hx hb dL_stepsOf_82 (by decide) ?_
  refine va_newa (atype := .int) hx hb (hts _ w_arr) (ty := .int) rfl hK hP hD hS hA (N' := 3) (a0 := (3, .inl (fun _ => 0))) (fun _ => rfl) (by decide) (by decide) (by decide) (Nat.le_of_ble_eq_true rfl) (Nat.le_of_ble_eq_true rfl) dL_stepsOf_83 (fun q6 cA H hK1 hP hD hS => ?_)
  obtain rfl := fm_cA hK1
  have hP : va_P D vwCl ([(qa, .inl (cR, 6, .inr (.inr (.inr (.inr (va_up (va_up (va_up (va_up (va_up (fun _ => none) (0 : Int32).toNatClampNeg (some q1)) (1 : Int32).toNatClampNeg (some q2)) (2 : Int32).toNatClampNeg (some q3)) (3 : Int32).toNatClampNeg (some q4)) (4 : Int32).toNatClampNeg (some q5))))))), (q1, .inl (cI, 2, .inl (upd (upd (fun _ => 0) (0 : Int32).toNatClampNeg 2) (1 : Int32).toNatClampNeg 4))), (q2, .inl (cI, 2, .inl (upd (upd (fun _ => 0) (0 : Int32).toNatClampNeg 2) (1 : Int32).toNatClampNeg 5))), (q3, .inl (cI, 2, .inl (upd (upd (fun _ => 0) (0 : Int32).toNatClampNeg 3) (1 : Int32).toNatClampNeg 5))), (q4, .inl (cI, 3, .inl (upd (upd (upd (fun _ => 0) (0 : Int32).toNatClampNeg 2) (1 : Int32).toNatClampNeg 4) (2 : Int32).toNatClampNeg 6))), (q5, .inl (cI, 2, .inl (upd (upd (fun _ => 0) (0 : Int32).toNatClampNeg 3) (1 : Int32).toNatClampNeg 4))), (q6, .inl (cI, 3, .inl (fun _ => 0)))] : va_W) H := hP
  have hD : va_D A ([(qa, .inl (cR, 6, .inr (.inr (.inr (.inr (va_up (va_up (va_up (va_up (va_up (fun _ => none) (0 : Int32).toNatClampNeg (some q1)) (1 : Int32).toNatClampNeg (some q2)) (2 : Int32).toNatClampNeg (some q3)) (3 : Int32).toNatClampNeg (some q4)) (4 : Int32).toNatClampNeg (some q5))))))), (q1, .inl (cI, 2, .inl (upd (upd (fun _ => 0) (0 : Int32).toNatClampNeg 2) (1 : Int32).toNatClampNeg 4))), (q2, .inl (cI, 2, .inl (upd (upd (fun _ => 0) (0 : Int32).toNatClampNeg 2) (1 : Int32).toNatClampNeg 5))), (q3, .inl (cI, 2, .inl (upd (upd (fun _ => 0) (0 : Int32).toNatClampNeg 3) (1 : Int32).toNatClampNeg 5))), (q4, .inl (cI, 3, .inl (upd (upd (upd (fun _ => 0) (0 : Int32).toNatClampNeg 2) (1 : Int32).toNatClampNeg 4) (2 : Int32).toNatClampNeg 6))), (q5, .inl (cI, 2, .inl (upd (upd (fun _ => 0) (0 : Int32).toNatClampNeg 3) (1 : Int32).toNatClampNeg 4))), (q6, .inl (cI, 3, .inl (fun _ => 0)))] : va_W) := hD
  refine lv_dup hx hb dL_stepsOf_85 rfl ?_
  refine lv_iconst (v := 0) hx hb dL_stepsOf_86 (by decide) ?_
  refine lv_iconst (v := 2) hx hb dL_stepsOf_87 (by decide) ?_
  refine va_iast hx hb hK hP hD hS 6 0 rfl rfl (fb_ixin (by decide)) dL_stepsOf_88 (fun H locs hP hD hS => ?_)
  have hP : va_P D vwCl ([(qa, .inl (cR, 6, .inr (.inr (.inr (.inr (va_up (va_up (va_up (va_up (va_up (fun _ => none) (0 : Int32).toNatClampNeg (some q1)) (1 : Int32).toNatClampNeg (some q2)) (2 : Int32).toNatClampNeg (some q3)) (3 : Int32).toNatClampNeg (some q4)) (4 : Int32).toNatClampNeg (some q5))))))), (q1, .inl (cI, 2, .inl (upd (upd (fun _ => 0) (0 : Int32).toNatClampNeg 2) (1 : Int32).toNatClampNeg 4))), (q2, .inl (cI, 2, .inl (upd (upd (fun _ => 0) (0 : Int32).toNatClampNeg 2) (1 : Int32).toNatClampNeg 5))), (q3, .inl (cI, 2, .inl (upd (upd (fun _ => 0) (0 : Int32).toNatClampNeg 3) (1 : Int32).toNatClampNeg 5))), (q4, .inl (cI, 3, .inl (upd (upd (upd (fun _ => 0) (0 : Int32).toNatClampNeg 2) (1 : Int32).toNatClampNeg 4) (2 : Int32).toNatClampNeg 6))), (q5, .inl (cI, 2, .inl (upd (upd (fun _ => 0) (0 : Int32).toNatClampNeg 3) (1 : Int32).toNatClampNeg 4))), (q6, .inl (cI, 3, .inl (upd (fun _ => 0) (0 : Int32).toNatClampNeg 2)))] : va_W) H := hP
  have hD : va_D A ([(qa, .inl (cR, 6, .inr (.inr (.inr (.inr (va_up (va_up (va_up (va_up (va_up (fun _ => none) (0 : Int32).toNatClampNeg (some q1)) (1 : Int32).toNatClampNeg (some q2)) (2 : Int32).toNatClampNeg (some q3)) (3 : Int32).toNatClampNeg (some q4)) (4 : Int32).toNatClampNeg (some q5))))))), (q1, .inl (cI, 2, .inl (upd (upd (fun _ => 0) (0 : Int32).toNatClampNeg 2) (1 : Int32).toNatClampNeg 4))), (q2, .inl (cI, 2, .inl (upd (upd (fun _ => 0) (0 : Int32).toNatClampNeg 2) (1 : Int32).toNatClampNeg 5))), (q3, .inl (cI, 2, .inl (upd (upd (fun _ => 0) (0 : Int32).toNatClampNeg 3) (1 : Int32).toNatClampNeg 5))), (q4, .inl (cI, 3, .inl (upd (upd (upd (fun _ => 0) (0 : Int32).toNatClampNeg 2) (1 : Int32).toNatClampNeg 4) (2 : Int32).toNatClampNeg 6))), (q5, .inl (cI, 2, .inl (upd (upd (fun _ => 0) (0 : Int32).toNatClampNeg 3) (1 : Int32).toNatClampNeg 4))), (q6, .inl (cI, 3, .inl (upd (fun _ => 0) (0 : Int32).toNatClampNeg 2)))] : va_W) := hD
  refine lv_dup hx hb dL_stepsOf_89 rfl ?_
  refine lv_iconst (v := 1) hx hb dL_stepsOf_90 (by decide) ?_
  refine lv_iconst (v := 4) hx hb dL_stepsOf_91 (by decide) ?_
  refine va_iast hx hb hK hP hD hS 6 0 rfl rfl (fb_ixin (by decide)) dL_stepsOf_92 (fun H locs hP hD hS => ?_)
  have hP : va_P D vwCl ([(qa, .inl (cR, 6, .inr (.inr (.inr (.inr (va_up (va_up (va_up (va_up (va_up (fun _ => none) (0 : Int32).toNatClampNeg (some q1)) (1 : Int32).toNatClampNeg (some q2)) (2 : Int32).toNatClampNeg (some q3)) (3 : Int32).toNatClampNeg (some q4)) (4 : Int32).toNatClampNeg (some q5))))))), (q1, .inl (cI, 2, .inl (upd (upd (fun _ => 0) (0 : Int32).toNatClampNeg 2) (1 : Int32).toNatClampNeg 4))), (q2, .inl (cI, 2, .inl (upd (upd (fun _ => 0) (0 : Int32).toNatClampNeg 2) (1 : Int32).toNatClampNeg 5))), (q3, .inl (cI, 2, .inl (upd (upd (fun _ => 0) (0 : Int32).toNatClampNeg 3) (1 : Int32).toNatClampNeg 5))), (q4, .inl (cI, 3, .inl (upd (upd (upd (fun _ => 0) (0 : Int32).toNatClampNeg 2) (1 : Int32).toNatClampNeg 4) (2 : Int32).toNatClampNeg 6))), (q5, .inl (cI, 2, .inl (upd (upd (fun _ => 0) (0 : Int32).toNatClampNeg 3) (1 : Int32).toNatClampNeg 4))), (q6, .inl (cI, 3, .inl (upd (upd (fun _ => 0) (0 : Int32).toNatClampNeg 2) (1 : Int32).toNatClampNeg 4)))] : va_W) H := hP
  have hD : va_D A ([(qa, .inl (cR, 6, .inr (.inr (.inr (.inr (va_up (va_up (va_up (va_up (va_up (fun _ => none) (0 : Int32).toNatClampNeg (some q1)) (1 : Int32).toNatClampNeg (some q2)) (2 : Int32).toNatClampNeg (some q3)) (3 : Int32).toNatClampNeg (some q4)) (4 : Int32).toNatClampNeg (some q5))))))), (q1, .inl (cI, 2, .inl (upd (upd (fun _ => 0) (0 : Int32).toNatClampNeg 2) (1 : Int32).toNatClampNeg 4))), (q2, .inl (cI, 2, .inl (upd (upd (fun _ => 0) (0 : Int32).toNatClampNeg 2) (1 : Int32).toNatClampNeg 5))), (q3, .inl (cI, 2, .inl (upd (upd (fun _ => 0) (0 : Int32).toNatClampNeg 3) (1 : Int32).toNatClampNeg 5))), (q4, .inl (cI, 3, .inl (upd (upd (upd (fun _ => 0) (0 : Int32).toNatClampNeg 2) (1 : Int32).toNatClampNeg 4) (2 : Int32).toNatClampNeg 6))), (q5, .inl (cI, 2, .inl (upd (upd (fun _ => 0) (0 : Int32).toNatClampNeg 3) (1 : Int32).toNatClampNeg 4))), (q6, .inl (cI, 3, .inl (upd (upd (fun _ => 0) (0 : Int32).toNatClampNeg 2) (1 : Int32).toNatClampNeg 4)))] : va_W) := hD
  refine lv_dup hx hb dL_stepsOf_93 rfl ?_
  refine lv_iconst (v := 2) hx hb dL_stepsOf_94 (by decide) ?_
  refine lv_iconst (v := 5) hx hb dL_stepsOf_95 (by decide) ?_
  refine va_iast hx hb hK hP hD hS 6 0 rfl rfl (fb_ixin (by decide)) dL_stepsOf_96 (fun H locs hP hD hS => ?_)
  have hP : va_P D vwCl ([(qa, .inl (cR, 6, .inr (.inr (.inr (.inr (va_up (va_up (va_up (va_up (va_up (fun _ => none) (0 : Int32).toNatClampNeg (some q1)) (1 : Int32).toNatClampNeg (some q2)) (2 : Int32).toNatClampNeg (some q3)) (3 : Int32).toNatClampNeg (some q4)) (4 : Int32).toNatClampNeg (some q5))))))), (q1, .inl (cI, 2, .inl (upd (upd (fun _ => 0) (0 : Int32).toNatClampNeg 2) (1 : Int32).toNatClampNeg 4))), (q2, .inl (cI, 2, .inl (upd (upd (fun _ => 0) (0 : Int32).toNatClampNeg 2) (1 : Int32).toNatClampNeg 5))), (q3, .inl (cI, 2, .inl (upd (upd (fun _ => 0) (0 : Int32).toNatClampNeg 3) (1 : Int32).toNatClampNeg 5))), (q4, .inl (cI, 3, .inl (upd (upd (upd (fun _ => 0) (0 : Int32).toNatClampNeg 2) (1 : Int32).toNatClampNeg 4) (2 : Int32).toNatClampNeg 6))), (q5, .inl (cI, 2, .inl (upd (upd (fun _ => 0) (0 : Int32).toNatClampNeg 3) (1 : Int32).toNatClampNeg 4))), (q6, .inl (cI, 3, .inl (upd (upd (upd (fun _ => 0) (0 : Int32).toNatClampNeg 2) (1 : Int32).toNatClampNeg 4) (2 : Int32).toNatClampNeg 5)))] : va_W) H := hP
  have hD : va_D A ([(qa, .inl (cR, 6, .inr (.inr (.inr (.inr (va_up (va_up (va_up (va_up (va_up (fun _ => none) (0 : Int32).toNatClampNeg (some q1)) (1 : Int32).toNatClampNeg (some q2)) (2 : Int32).toNatClampNeg (some q3)) (3 : Int32).toNatClampNeg (some q4)) (4 : Int32).toNatClampNeg (some q5))))))), (q1, .inl (cI, 2, .inl (upd (upd (fun _ => 0) (0 : Int32).toNatClampNeg 2) (1 : Int32).toNatClampNeg 4))), (q2, .inl (cI, 2, .inl (upd (upd (fun _ => 0) (0 : Int32).toNatClampNeg 2) (1 : Int32).toNatClampNeg 5))), (q3, .inl (cI, 2, .inl (upd (upd (fun _ => 0) (0 : Int32).toNatClampNeg 3) (1 : Int32).toNatClampNeg 5))), (q4, .inl (cI, 3, .inl (upd (upd (upd (fun _ => 0) (0 : Int32).toNatClampNeg 2) (1 : Int32).toNatClampNeg 4) (2 : Int32).toNatClampNeg 6))), (q5, .inl (cI, 2, .inl (upd (upd (fun _ => 0) (0 : Int32).toNatClampNeg 3) (1 : Int32).toNatClampNeg 4))), (q6, .inl (cI, 3, .inl (upd (upd (upd (fun _ => 0) (0 : Int32).toNatClampNeg 2) (1 : Int32).toNatClampNeg 4) (2 : Int32).toNatClampNeg 5)))] : va_W) := hD
  refine fm_astR hx hb hZ hK hP hD hS 0 1 6 0 rfl rfl rfl rfl (fb_ixin (by decide)) dL_stepsOf_97 (fun H locs hP hD hS => ?_)
  have hP : va_P D vwCl ([(qa, .inl (cR, 6, .inr (.inr (.inr (.inr (va_up (va_up (va_up (va_up (va_up (va_up (fun _ => none) (0 : Int32).toNatClampNeg (some q1)) (1 : Int32).toNatClampNeg (some q2)) (2 : Int32).toNatClampNeg (some q3)) (3 : Int32).toNatClampNeg (some q4)) (4 : Int32).toNatClampNeg (some q5)) (5 : Int32).toNatClampNeg (some q6))))))), (q1, .inl (cI, 2, .inl (upd (upd (fun _ => 0) (0 : Int32).toNatClampNeg 2) (1 : Int32).toNatClampNeg 4))), (q2, .inl (cI, 2, .inl (upd (upd (fun _ => 0) (0 : Int32).toNatClampNeg 2) (1 : Int32).toNatClampNeg 5))), (q3, .inl (cI, 2, .inl (upd (upd (fun _ => 0) (0 : Int32).toNatClampNeg 3) (1 : Int32).toNatClampNeg 5))), (q4, .inl (cI, 3, .inl (upd (upd (upd (fun _ => 0) (0 : Int32).toNatClampNeg 2) (1 : Int32).toNatClampNeg 4) (2 : Int32).toNatClampNeg 6))), (q5, .inl (cI, 2, .inl (upd (upd (fun _ => 0) (0 : Int32).toNatClampNeg 3) (1 : Int32).toNatClampNeg 4))), (q6, .inl (cI, 3, .inl (upd (upd (upd (fun _ => 0) (0 : Int32).toNatClampNeg 2) (1 : Int32).toNatClampNeg 4) (2 : Int32).toNatClampNeg 5)))] : va_W) H := hP
  have hD : va_D A ([(qa, .inl (cR, 6, .inr (.inr (.inr (.inr (va_up (va_up (va_up (va_up (va_up (va_up (fun _ => none) (0 : Int32).toNatClampNeg (some q1)) (1 : Int32).toNatClampNeg (some q2)) (2 : Int32).toNatClampNeg (some q3)) (3 : Int32).toNatClampNeg (some q4)) (4 : Int32).toNatClampNeg (some q5)) (5 : Int32).toNatClampNeg (some q6))))))), (q1, .inl (cI, 2, .inl (upd (upd (fun _ => 0) (0 : Int32).toNatClampNeg 2) (1 : Int32).toNatClampNeg 4))), (q2, .inl (cI, 2, .inl (upd (upd (fun _ => 0) (0 : Int32).toNatClampNeg 2) (1 : Int32).toNatClampNeg 5))), (q3, .inl (cI, 2, .inl (upd (upd (fun _ => 0) (0 : Int32).toNatClampNeg 3) (1 : Int32).toNatClampNeg 5))), (q4, .inl (cI, 3, .inl (upd (upd (upd (fun _ => 0) (0 : Int32).toNatClampNeg 2) (1 : Int32).toNatClampNeg 4) (2 : Int32).toNatClampNeg 6))), (q5, .inl (cI, 2, .inl (upd (upd (fun _ => 0) (0 : Int32).toNatClampNeg 3) (1 : Int32).toNatClampNeg 4))), (q6, .inl (cI, 3, .inl (upd (upd (upd (fun _ => 0) (0 : Int32).toNatClampNeg 2) (1 : Int32).toNatClampNeg 4) (2 : Int32).toNatClampNeg 5)))] : va_W) := hD
  refine lv_astore_n (lv' := [(1, .ref qa), (0, .int (nI j))]) hx hb dL_stepsOf_98 rfl hl (by decide) rfl (fun ls hl => ?_)
  refine lv_aload_n hx hb dL_stepsOf_99 rfl (lv_at hl 0 rfl) ?_
  refine lv_iload_n hx hb dL_stepsOf_100 rfl (lv_at hl 1 rfl) ?_
  rcases (show j = 0 ∨ j = 1 ∨ j = 2 ∨ j = 3 ∨ j = 4 ∨ j = 5 by omega) with rfl | rfl | rfl | rfl | rfl | rfl
  · refine fm_aldR hx hb hK hP 0 1 rfl rfl (fb_ixin (by decide)) (v := .ref q1) (by first | rfl | decide) dL_stepsOf_101 ?_
    exact W.aret hx hb hr (Or.inr ⟨_, rfl⟩) (Or.inr ⟨_, rfl⟩) (fun t ht _ => ⟨⟨q1, 2, _, by decide, rfl, by rw [ht]; exact hP.sub [1] rfl, hD.sub [1] (by decide) rfl⟩, hS.F ht⟩) hS.2.2 dL_stepsOf_102
  · refine fm_aldR hx hb hK hP 0 1 rfl rfl (fb_ixin (by decide)) (v := .ref q2) (by first | rfl | decide) dL_stepsOf_101 ?_
    exact W.aret hx hb hr (Or.inr ⟨_, rfl⟩) (Or.inr ⟨_, rfl⟩) (fun t ht _ => ⟨⟨q2, 2, _, by decide, rfl, by rw [ht]; exact hP.sub [2] rfl, hD.sub [2] (by decide) rfl⟩, hS.F ht⟩) hS.2.2 dL_stepsOf_102
  · refine fm_aldR hx hb hK hP 0 1 rfl rfl (fb_ixin (by decide)) (v := .ref q3) (by first | rfl | decide) dL_stepsOf_101 ?_
    exact W.aret hx hb hr (Or.inr ⟨_, rfl⟩) (Or.inr ⟨_, rfl⟩) (fun t ht _ => ⟨⟨q3, 2, _, by decide, rfl, by rw [ht]; exact hP.sub [3] rfl, hD.sub [3] (by decide) rfl⟩, hS.F ht⟩) hS.2.2 dL_stepsOf_102
  · refine fm_aldR hx hb hK hP 0 1 rfl rfl (fb_ixin (by decide)) (v := .ref q4) (by first | rfl | decide) dL_stepsOf_101 ?_
    exact W.aret hx hb hr (Or.inr ⟨_, rfl⟩) (Or.inr ⟨_, rfl⟩) (fun t ht _ => ⟨⟨q4, 3, _, by decide, rfl, by rw [ht]; exact hP.sub [4] rfl, hD.sub [4] (by decide) rfl⟩, hS.F ht⟩) hS.2.2 dL_stepsOf_102
  · refine fm_aldR hx hb hK hP 0 1 rfl rfl (fb_ixin (by decide)) (v := .ref q5) (by first | rfl | decide) dL_stepsOf_101 ?_
    exact W.aret hx hb hr (Or.inr ⟨_, rfl⟩) (Or.inr ⟨_, rfl⟩) (fun t ht _ => ⟨⟨q5, 2, _, by decide, rfl, by rw [ht]; exact hP.sub [5] rfl, hD.sub [5] (by decide) rfl⟩, hS.F ht⟩) hS.2.2 dL_stepsOf_102
  · refine fm_aldR hx hb hK hP 0 1 rfl rfl (fb_ixin (by decide)) (v := .ref q6) (by first | rfl | decide) dL_stepsOf_101 ?_
    exact W.aret hx hb hr (Or.inr ⟨_, rfl⟩) (Or.inr ⟨_, rfl⟩) (fun t ht _ => ⟨⟨q6, 3, _, by decide, rfl, by rw [ht]; exact hP.sub [6] rfl, hD.sub [6] (by decide) rfl⟩, hS.F ht⟩) hS.2.2 dL_stepsOf_102
abbrev rmL_belongs : Room := { frames := 1, cells := 7, slots := 20, locals := 22 }
set_option maxHeartbeats 8000000 in
set_option maxRecDepth 100000 in
theorem metL_belongs (l : Launch) (D : va_G) (cI cR : ClassId) (b L : Nat) (xs : Nat → Int32) (B0 : Nat) (x y : Int32) (j : Nat) (hj : j < 6) (hz : Nat) : Met l yL_belongs wsL_belongs rmL_belongs (va_Pc [.int x, .int y, .int (nI j)] (fb_pm D [(cI, .int), (cR, .array .int)] B0 (fm_SL b L xs) [] hz)) (fm_qB (va_A [] hz)) 7 20 (va_A [] hz) := by
  refine Met.ofW (cc := cL_belongs) (maxL := 8) (ret := (some .boolean)) (by decide) rfl ?_
  intro p e s m args below meth c s₁ B hml hv
  obtain ⟨rfl, hsz, ⟨hP, hK, hZ⟩, hD0, hAB⟩ := hv
  have hx := B.exec
  have hb := B.bytes
  have hr := B.returns
  have hts := atoms_spec (ws := wsL_belongs) B.pre
  have hown : s.vm.findClass RL = some m.cls := findClass_of_methodNamed B.named
  have hlocks := B.notSynchronized
  subst hsz
  have hD := hD0.self (sz := s.heap.size)
  generalize hAe : va_A [] s.heap.size = A at hD hAB ⊢
  have hA : ∀ q : Nat, s.heap.size ≤ q → A q := fun q h9 => by rw [← hAe]; exact Or.inr h9
  have hS : va_S A s.heap s.heap [] := va_S.rf
  have hP : va_P D vwCl ([] : va_W) s.heap := hP
  have hD : va_D A ([] : va_W) := hD
  have hl := lv_entry ([.int x, .int y, .int (nI j)]) (n := 8) (Nat.le_of_ble_eq_true rfl)
  rw [lg_entry_eq]
  generalize (lg_sl ([.int x, .int y, .int (nI j)]) ++ List.replicate (8 - (lg_sl ([.int x, .int y, .int (nI j)])).length) Slot.unset).toArray = ls at hl ⊢
  have hl : lv_has ls 8 [(0, .int x), (1, .int y), (2, .int (nI j))] := hl
  suffices K : ∀ (H : Heap) (locs : List Loc), va_P D vwCl ([] : va_W) H → va_S A s.heap H locs → W p l e (headSpec wsL_belongs rmL_belongs).room s m ([.int x, .int y, .int (nI j)] : List Value).toArray below meth c H locs 0 0 (MQ below (fm_qB A) ([.int x, .int y, .int (nI j)] : List Value).toArray s 7 20 A) (F0 m 0 ls []) from K s.heap [] hP hS
  intro H locs hP hS
  refine lv_iload_n hx hb dL_belongs_0 rfl (lv_at hl 0 rfl) ?_
  refine lv_iload_n hx hb dL_belongs_1 rfl (lv_at hl 1 rfl) ?_
  obtain ⟨r2, h1⟩ := fm_step (xs := xs) (L := L) x y
  refine fb_callR (W.runS (As := [.int x, .int y]) (rest := []) ⟨hx, hb, hml, hown, hts⟩ (metL_step l b L xs B0 x y r2 h1) (va_cwS 2 hts gL_belongs_L_step rfl rfl rfl (by decide +kernel) ⟨Nat.le_of_ble_eq_true rfl, Nat.le_of_ble_eq_true rfl⟩) (fb_preS (fb_scp b L xs) hZ.1 hS hAB _) rfl rfl hl.1 rfl (lv_room (Nat.le_of_ble_eq_true rfl)) dL_belongs_2 ⟨(by first | exact Nat.le_of_ble_eq_true rfl | (show _ + 0 ≤ (_ : Nat); omega)), (by first | exact Nat.le_of_ble_eq_true rfl | (show _ + 0 ≤ (_ : Nat); omega))⟩) ?_
  have J13 : ∀ r : Int32, (r = 0 ∨ r = 1) → ∀ ls : Array Slot, lv_has ls 8 [(0, .int x), (1, .int y), (2, .int (nI j))] → W p l e (headSpec wsL_belongs rmL_belongs).room s m ([.int x, .int y, .int (nI j)] : List Value).toArray below meth c H locs 0 0 (MQ below (fm_qB A) ([.int x, .int y, .int (nI j)] : List Value).toArray s 7 20 A) (F0 m 13 ls [.int r]) := by
    intro r hr01 ls hl
    refine lv_istore_n (lv' := [(3, .int r), (0, .int x), (1, .int y), (2, .int (nI j))]) hx hb dL_belongs_13 rfl hl (by decide) rfl (fun ls hl => ?_)
    refine lv_iload_n hx hb dL_belongs_14 rfl (lv_at hl 3 rfl) ?_
    refine fm_callS (va_runS (As := [.int (nI j)]) (rest := []) ⟨hx, hb, hml, hown, hts⟩ (metL_stepsOf l D cI cR B0 j hj H.size) (va_cwS 1 hts gL_belongs_L_stepsOf rfl rfl rfl (by decide +kernel) ⟨Nat.le_of_ble_eq_true rfl, Nat.le_of_ble_eq_true rfl⟩) (fb_preSM fm_SAOp hP hK hD hZ.2 hS hAB hA _) rfl rfl hl.1 rfl (lv_room (Nat.le_of_ble_eq_true rfl)) dL_belongs_15 ⟨Nat.le_of_ble_eq_true rfl, Nat.le_of_ble_eq_true rfl⟩) hS (fun q _ h9 => hA q (Nat.le_trans hS.1 (fm_nilA h9))) (fun q h9 => hA q (Nat.le_trans hS.1 (fm_nilA h9))) (fun q n f H1 locs hn3 hP1 hS => ?_)
    generalize H1 = H at hP1 hS
    refine lv_astore (lv' := [(4, .ref q), (3, .int r), (0, .int x), (1, .int y), (2, .int (nI j))]) hx hb dL_belongs_18 hl (by decide) rfl (fun ls hl => ?_)
    refine lv_aload hx hb dL_belongs_20 (lv_at hl 0 rfl) ?_
    refine va_alen hx hb hK hP1 0 0 rfl rfl (v := nI n) rfl dL_belongs_22 ?_
    refine lv_istore (lv' := [(5, .int (nI n)), (4, .ref q), (3, .int r), (0, .int x), (1, .int y), (2, .int (nI j))]) hx hb dL_belongs_23 hl (by decide) rfl (fun ls hl => ?_)
    refine lv_iconst (v := 0) hx hb dL_belongs_25 (by decide) ?_
    refine lv_istore (lv' := [(6, .int 0), (5, .int (nI n)), (4, .ref q), (3, .int r), (0, .int x), (1, .int y), (2, .int (nI j))]) hx hb dL_belongs_26 hl (by decide) rfl (fun ls hl => ?_)
    have LL : ∀ (i k : Nat) (r : Int32), k + i = n → (r = 0 ∨ r = 1) → ∀ ls : Array Slot, lv_has ls 8 [(6, .int (nI k)), (5, .int (nI n)), (4, .ref q), (3, .int r), (0, .int x), (1, .int y), (2, .int (nI j))] → W p l e (headSpec wsL_belongs rmL_belongs).room s m ([.int x, .int y, .int (nI j)] : List Value).toArray below meth c H locs (0 + 7) (0 + 20) (MQ below (fm_qB A) ([.int x, .int y, .int (nI j)] : List Value).toArray s 7 20 A) (F0 m 28 ls []) := by
      intro i
      induction i with
      | zero =>
        intro k r hk hr01 ls hl
        refine lv_iload hx hb dL_belongs_28 (lv_at hl 0 rfl) ?_
        refine lv_iload hx hb dL_belongs_30 (lv_at hl 1 rfl) ?_
        refine lv_icmp_ge (tgt := 66) hx hb dL_belongs_32 (by decide) (fun c1 => ?_) (fun c1 => absurd (nI_le (show n ≤ k by omega) (by omega)) c1)
        refine lv_iload_n hx hb dL_belongs_66 rfl (lv_at hl 3 rfl) ?_
        have hz01 : fb_z r = true := by rcases hr01 with rfl | rfl <;> decide
        exact W.zret (ty := .boolean) hx hb hr (fb_zn hz01) (fun t ht _ => ⟨⟨_, hr01, rfl⟩, hS.F ht⟩) hS.2.2 dL_belongs_67
      | succ i ih =>
        intro k r hk hr01 ls hl
        refine lv_iload hx hb dL_belongs_28 (lv_at hl 0 rfl) ?_
        refine lv_iload hx hb dL_belongs_30 (lv_at hl 1 rfl) ?_
        refine lv_icmp_ge (tgt := 66) hx hb dL_belongs_32 (by decide) (fun c1 => absurd c1 (nI_ge (show k < n by omega) (by omega))) (fun c1 => ?_)
        refine lv_aload hx hb dL_belongs_35 (lv_at hl 2 rfl) ?_
        refine lv_iload hx hb dL_belongs_37 (lv_at hl 0 rfl) ?_
        refine va_iald hx hb hK hP1 0 0 rfl rfl (fb_ixin (pq_ix (show k < n by omega) (by omega))) dL_belongs_39 ?_
        refine lv_istore (lv' := [(7, .int (f (nI k).toNatClampNeg)), (6, .int (nI k)), (5, .int (nI n)), (4, .ref q), (3, .int r), (0, .int x), (1, .int y), (2, .int (nI j))]) hx hb dL_belongs_40 hl (by decide) rfl (fun ls hl => ?_)
        refine lv_iload_n hx hb dL_belongs_42 rfl (lv_at hl 4 rfl) ?_
        refine lv_iload_n hx hb dL_belongs_43 rfl (lv_at hl 5 rfl) ?_
        refine lv_iload_n hx hb dL_belongs_44 rfl (lv_at hl 6 rfl) ?_
        obtain ⟨r4, h3⟩ := fm_step (xs := xs) (L := L) x y
        refine fb_callR (W.runS (As := [.int x, .int y]) (rest := [.int r]) ⟨hx, hb, hml, hown, hts⟩ (metL_step l b L xs B0 x y r4 h3) (va_cwS 2 hts gL_belongs_L_step rfl rfl rfl (by decide +kernel) ⟨Nat.le_of_ble_eq_true rfl, Nat.le_of_ble_eq_true rfl⟩) (fb_preS (fb_scp b L xs) hZ.1 hS hAB _) rfl rfl hl.1 rfl (lv_room (Nat.le_of_ble_eq_true rfl)) dL_belongs_45 ⟨(by first | exact Nat.le_of_ble_eq_true rfl | (show _ + 0 ≤ (_ : Nat); omega)), (by first | exact Nat.le_of_ble_eq_true rfl | (show _ + 0 ≤ (_ : Nat); omega))⟩) ?_
        refine lv_iload hx hb dL_belongs_48 (lv_at hl 0 rfl) ?_
        have J58 : ∀ z : Int32, (z = 0 ∨ z = 1) → ∀ ls : Array Slot, lv_has ls 8 [(7, .int (f (nI k).toNatClampNeg)), (6, .int (nI k)), (5, .int (nI n)), (4, .ref q), (3, .int r), (0, .int x), (1, .int y), (2, .int (nI j))] → W p l e (headSpec wsL_belongs rmL_belongs).room s m ([.int x, .int y, .int (nI j)] : List Value).toArray below meth c H locs (0 + 7) (0 + 20) (MQ below (fm_qB A) ([.int x, .int y, .int (nI j)] : List Value).toArray s 7 20 A) (F0 m 58 ls [.int z, .int r]) := by
          intro z hz01 ls hl
          refine lv_ior hx hb dL_belongs_58 ?_
          refine lv_istore_n (lv' := [(3, .int (r ||| z)), (7, .int (f (nI k).toNatClampNeg)), (6, .int (nI k)), (5, .int (nI n)), (4, .ref q), (0, .int x), (1, .int y), (2, .int (nI j))]) hx hb dL_belongs_59 rfl hl (by decide) rfl (fun ls hl => ?_)
          refine lv_iinc (v := (nI k) + 1) (lv' := [(6, .int ((nI k) + 1)), (3, .int (r ||| z)), (7, .int (f (nI k).toNatClampNeg)), (5, .int (nI n)), (4, .ref q), (0, .int x), (1, .int y), (2, .int (nI j))]) hx hb dL_belongs_60 hl (k := 2) rfl rfl (by decide) rfl (fun ls hl => ?_)
          refine lv_goto (tgt := 28) hx hb dL_belongs_63 (by decide) ?_
          exact ih (k + 1) (r ||| z) (by omega) (by rcases hr01 with rfl | rfl <;> rcases hz01 with rfl | rfl <;> decide) ls (lv_sub (by simpa only [pq_p1] using hl) [0, 3, 4, 1, 5, 6, 7] rfl)
        refine lv_icmp_ne (tgt := 57) hx hb dL_belongs_50 (by decide) (fun c2 => ?_) (fun c2 => ?_)
        · refine lv_iconst (v := 0) hx hb dL_belongs_57 (by decide) ?_
          exact J58 0 (Or.inl rfl) ls hl
        · refine lv_iconst (v := 1) hx hb dL_belongs_53 (by decide) ?_
          refine lv_goto (tgt := 58) hx hb dL_belongs_54 (by decide) ?_
          exact J58 1 (Or.inr rfl) ls hl
    exact LL n 0 r (Nat.zero_add n) hr01 ls (lv_sub hl [0, 1, 2, 3, 4, 5, 6] rfl)
  refine lv_if_ne (tgt := 12) hx hb dL_belongs_5 (by decide) (fun c0 => ?_) (fun c0 => ?_)
  · refine lv_iconst (v := 0) hx hb dL_belongs_12 (by decide) ?_
    exact J13 0 (Or.inl rfl) ls hl
  · refine lv_iconst (v := 1) hx hb dL_belongs_8 (by decide) ?_
    refine lv_goto (tgt := 13) hx hb dL_belongs_9 (by decide) ?_
    exact J13 1 (Or.inr rfl) ls hl
