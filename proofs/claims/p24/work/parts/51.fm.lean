/-! Tools of the law's own arrays: rows of rows, the script, numbers (my own rows; fm_ is my prefix). -/
def fm_AO (U : State) : Prop := (Cond.arrayOver (.array .int)).before #[] U = true
theorem fm_AO_of {A : Array Value} {U : State} (h : (Cond.arrayOver (.array .int)).before A U = true) : fm_AO U := h
theorem fm_AO_use {A : Array Value} {U : State} (h : fm_AO U) : (Cond.arrayOver (.array .int)).before A U = true := h
theorem fm_AO_moved {u U : State} (hvm : u.vm.Alike U.vm) (h : fm_AO u) : fm_AO U := by
  obtain ⟨comp, c, k, h1, h2, h3, h4, h5⟩ := arrayOverA_spec (args := #[]) (first := u) (s := u) (o := none) (idx := []) h
  obtain ⟨k', hk', he⟩ := hvm.2.2 _ _ h3
  have hi : (U.vm.classes.findIdx? fun (x : Class) => match x.kind with | .array component _ => component == comp | _ => false) = some c := by
    refine (va_idx_bare U.vm comp).symm.trans ?_
    first | rw [hvm.bare_eq] | rw [← hvm.bare_eq]
    exact (va_idx_bare u.vm comp).trans h2
  have hkind : k'.kind = .array comp (.array .int) := by rw [he]; exact h4
  have f1 : U.vm.findClass (FieldType.array .int).toString = some comp := by rw [hvm.findClass]; exact h1
  have f2 : U.vm.findClass ("[" ++ (FieldType.array .int).toString) = some c := by rw [hvm.findClass]; exact h5
  unfold fm_AO Cond.before Cond.holds
  simp only [Cond.value]
  rw [f1, Option.bind_some]
  refine (congrArg (fun o : Option Nat => (o.bind (fun c => (U.vm.classes[c]?).map fun (k : Class) => match k.kind with | .array _ ty => decide (ty = FieldType.array .int) && decide (U.vm.findClass ("[" ++ (FieldType.array .int).toString) = some c) | _ => false) == some true)) hi).trans ?_
  simp [hk', hkind, f2]
def fm_SAO : (Nat → Prop) → State → Heap → Prop := fun _ U _ => fm_AO U
theorem fm_SAOp : fb_SP fm_SAO := ⟨fun _ _ _ _ hW h => fm_AO_moved hW.alike h, fun _ _ _ _ h _ => h, fun _ _ _ _ h _ => h⟩
/-- the script: it lies outside of what is written -/
def fb_sc (b L : Nat) (xs : Nat → Int32) : (Nat → Prop) → State → Heap → Prop := fun A U H => va_X b L xs U H ∧ ¬ A b
theorem fb_sclt {b L : Nat} {xs : Nat → Int32} {A : Nat → Prop} {U : State} {H : Heap} (h : fb_sc b L xs A U H) : b < H.size := by
  obtain ⟨⟨scr, h1, -⟩, -⟩ := h
  exact (Array.getElem?_eq_some_iff.mp h1).1
theorem fb_scp (b L : Nat) (xs : Nat → Int32) : fb_SP (fb_sc b L xs) := ⟨fun _ _ _ _ hW h => ⟨h.1.moved hW.alike, h.2⟩, fun _ _ _ _ h hq => ⟨h.1.kept (hq b (fb_sclt h) h.2), h.2⟩, fun _ _ _ _ h hAB => ⟨h.1, fun z => h.2 (hAB _ z)⟩⟩
theorem fm_asg (vm : Vm) (c : ClassId) : vm.assignable c c = true := by
  unfold Vm.assignable
  rw [show (256 : Nat) = 255 + 1 from rfl, Vm.assignableAux, beq_self_eq_true, Bool.true_or]
section FM
variable {p : Program} {l : Launch} {e : Env} {R : Room} {s : State} {m : MethodId} {args : Array Value} {below : List Frame} {meth : Method} {c : Code} {H : Heap} {locs : List Loc} {cells slots : Nat} {Q : State → Prop}
variable {cc : ByteArray} {pc : Nat} {ls : Array Slot} {rest : List Value} {D : va_G} {cl : List vw_C} {A : Nat → Prop} {a : Nat} {tys : List (ClassId × FieldType)} {ws : va_W} {H0 : Heap}
theorem fm_newR (hexec : p.tables.exec = Jvm.exec) (hb : c.code = cc) {own : String} {index : Nat} (hown : s.vm.findClass own = some m.cls) (hclink : (Cond.classLink own index "[I").before args s = true) (hAO : fm_AO s) (t0 : Nat) {cR : ClassId} (ht : tys[t0]? = some (cR, .array .int)) (hK : va_K D cl tys s) (hP : va_P D cl ws H) (hD : va_D A ws) (hS : va_S A H0 H locs) (hA : ∀ q, H0.size ≤ q → A q)
    {n : Int32} {N' : Nat} (hn : ¬ n < 0) (hN : n.toNatClampNeg = N') (hbytes : N' * 4 ≤ 536870912) (hcells : cells + 1 ≤ R.cells) (hslots : slots + N' ≤ R.slots) (hdg : decode cc pc = .ok (.anewarray index, 3))
    (kk : ∀ (q : Nat) (H1 : Heap), va_P D cl (ws ++ [(q, .inl (cR, N', .inr (.inr (.inr (.inr (fun _ => none))))))]) H1 → va_D A (ws ++ [(q, .inl (cR, N', .inr (.inr (.inr (.inr (fun _ => none))))))]) → va_S A H0 H1 locs →
      W p l e R s m args below meth c H1 locs (cells + 1) (slots + N') Q (F0 m (pc + 3) ls (.ref q :: rest))) : W p l e R s m args below meth c H locs cells slots Q (F0 m pc ls (.int n :: rest)) := by
  subst hN
  refine W.anewA (t := .int) hexec hb hown hclink (fm_AO_use hAO) rfl hdg rfl hn hbytes hcells hslots fun cA kA comp f1 f2 f3 f4 => ?_
  have e : cA = cR := Option.some.inj (f1.symm.trans (hK.2 t0 _ ht).2)
  subst e
  generalize hH1 : H.push ({ cls := cA, slots := Array.replicate n.toNatClampNeg .null, vm := .none } : Cell) = H1
  have z1 : H1.size = H.size + 1 := by rw [← hH1, Array.size_push]
  have e1 : H1[H.size]? = some (arrV cA n.toNatClampNeg (fun _ => .null)) := by rw [← hH1, Array.getElem?_push_size, ← arrV_new]
  have o1 : ∀ q : Nat, q < H.size → H1[q]? = H[q]? := fun q hq => by rw [← hH1, Array.getElem?_push, if_neg (Nat.ne_of_lt hq)]
  have hk : ∀ (k : Nat) (x : Nat × va_E), ws[k]? = some x → H1[x.1]? = H[x.1]? := fun k x hx => o1 x.1 ((hP k x hx).lt)
  refine kk H.size H1 ((hP.kept hk).app (fun k x hx => ?_)) (hD.push hP rfl (hA _ hS.1)) ⟨Nat.le_trans hS.1 (by omega), fun x h1 h2 => (o1 x (Nat.lt_of_lt_of_le h1 hS.1)).trans (hS.2.1 x h1 h2), hS.2.2⟩
  have hz : k < 1 := (List.getElem?_eq_some_iff.mp hx).1
  rw [show k = 0 by omega] at hx
  cases hx
  show H1[H.size]? = some (vp_cell _ _)
  rw [vp_cell_q]
  exact e1
theorem fm_astR (hexec : p.tables.exec = Jvm.exec) (hb : c.code = cc) (hAO : fm_AO s) (hK : va_K D cl tys s) (hP : va_P D cl ws H) (hD : va_D A ws) (hS : va_S A H0 H locs) (q0 t0 qk t1 : Nat) {cA cI : ClassId} {n v n1 : Nat} {g : Nat → Int32} {f : Nat → Option Nat} (ha : ws[q0]? = some (a, .inl (cA, n, .inr (.inr (.inr (.inr f)))))) (ht : tys[t0]? = some (cA, .array .int)) (hv : ws[qk]? = some (v, .inl (cI, n1, .inl g))) (ht1 : tys[t1]? = some (cI, .int)) {i : Int32} (hin : vp_in i n) (hdg : decode cc pc = .ok (.aastore, 1))
    (kk : ∀ (H1 : Heap) (locs1 : List Loc), va_P D cl (ws.set q0 (a, .inl (cA, n, .inr (.inr (.inr (.inr (va_up f i.toNatClampNeg (some v)))))))) H1 → va_D A (ws.set q0 (a, .inl (cA, n, .inr (.inr (.inr (.inr (va_up f i.toNatClampNeg (some v)))))))) → va_S A H0 H1 locs1 → W p l e R s m args below meth c H1 locs1 cells slots Q (F0 m (pc + 1) ls rest)) : W p l e R s m args below meth c H locs cells slots Q (F0 m pc ls (.ref v :: .int i :: .ref a :: rest)) := by
  have hlt : i.toNatClampNeg < n := Nat.not_le.mp fun q => hin (Or.inr q)
  have h0 : ¬ i < 0 := fun q => hin (Or.inl q)
  obtain ⟨comp, c9, k9, k1, -, k2, k3, k4⟩ := arrayOverA_spec (args := #[]) (first := s) (s := s) (o := none) (idx := []) hAO
  have hc9 : c9 = cA := Option.some.inj (k4.symm.trans (hK.2 t0 _ ht).2)
  have hcomp : comp = cI := Option.some.inj (k1.symm.trans (hK.2 t1 _ ht1).2)
  subst hc9
  subst hcomp
  have g1 : H[v]? = some (arrV comp n1 (fun j => .int (g j))) := hP qk _ hv
  obtain ⟨-, kI, hkI, -⟩ := (hK.2 t1 _ ht1).1 0 (fun _ => .int 0)
  have hkI : s.vm.classes[comp]? = some kI := hkI
  refine W.aast hexec hb (hP q0 _ ha) (fun q h => by cases h) (fun h => by cases h) k2 k3 rfl hkI ⟨h0, by show _ < (arrV _ _ _).slots.size; rw [arrV_size]; exact hlt⟩ g1 (fun q h => by cases h) hkI (fm_asg _ _) rfl rfl hdg fun H1 e z oq => ?_
  refine kk H1 _ (hP.set hD ha ?_ oq) (hD.set ha) (hS.put z oq (hD.2 q0 _ ha))
  show H1[a]? = some (vp_cell _ _)
  rw [e]
  rw [vp_cell_q, vp_cell_q, arrV_store]
  congr 2
  funext q
  by_cases hq : q = i.toNatClampNeg
  · subst hq
    simp [updV, va_up, va_rf]
  · simp [updV, va_up, hq]
theorem fm_aldR (hexec : p.tables.exec = Jvm.exec) (hb : c.code = cc) (hK : va_K D cl tys s) (hP : va_P D cl ws H) (q0 t0 : Nat) {cA : ClassId} {n : Nat} {f : Nat → Option Nat} (ha : ws[q0]? = some (a, .inl (cA, n, .inr (.inr (.inr (.inr f)))))) (ht : tys[t0]? = some (cA, .array .int)) {i : Int32} (hin : vp_in i n) {v : Value} (hv : va_rf (f i.toNatClampNeg) = v) (hdg : decode cc pc = .ok (.aaload, 1))
    (kk : W p l e R s m args below meth c H locs cells slots Q (F0 m (pc + 1) ls (v :: rest))) : W p l e R s m args below meth c H locs cells slots Q (F0 m pc ls (.int i :: .ref a :: rest)) := by
  subst hv
  have hlt : i.toNatClampNeg < n := Nat.not_le.mp fun q => hin (Or.inr q)
  exact W.aald (v := va_rf (f i.toNatClampNeg)) (ty := .array .int) hexec hb (hP q0 _ ha) ((hK.2 t0 _ ht).1 n (fun j => va_rf (f j))) rfl (fun q => by cases q) (by show ¬ (i < 0 ∨ (arrV _ _ _).slots.size ≤ _); rw [arrV_size]; exact hin) (by show (arrV _ _ _).slots[_]? = _; rw [arrV_read _ _ hlt]) rfl rfl hdg kk
end FM
/-! a row of rows: the addresses and what they hold -/
abbrev fm_R : Type := List (Nat × (Nat → Int32))
def fm_g (rs : fm_R) : Nat → Option Nat := fun j => (rs[j]?).map Prod.fst
def fm_c (cI : ClassId) (rs : fm_R) : va_W := rs.map (fun r => (r.1, .inl (cI, 5, .inl r.2)))
theorem fm_c_at {cI : ClassId} {rs : fm_R} {j : Nat} {r : Nat × (Nat → Int32)} (h : rs[j]? = some r) : (fm_c cI rs)[j]? = some (r.1, .inl (cI, 5, .inl r.2)) := by
  unfold fm_c
  rw [List.getElem?_map, h]
  rfl
theorem fm_c_push {cI : ClassId} {rs : fm_R} {q : Nat} {f : Nat → Int32} : fm_c cI (rs ++ [(q, f)]) = fm_c cI rs ++ [(q, .inl (cI, 5, .inl f))] := by
  unfold fm_c
  rw [List.map_append]
  rfl
theorem fm_c_last {cI : ClassId} {rs : fm_R} {q : Nat} {f : Nat → Int32} : (fm_c cI (rs ++ [(q, f)]))[rs.length]? = some (q, .inl (cI, 5, .inl f)) := fm_c_at (r := (q, f)) (by rw [List.getElem?_append_right (Nat.le_refl _), Nat.sub_self]; rfl)
theorem fm_c_set {cI : ClassId} {rs : fm_R} {q : Nat} {f f' : Nat → Int32} : (fm_c cI (rs ++ [(q, f)])).set rs.length (q, .inl (cI, 5, .inl f')) = fm_c cI (rs ++ [(q, f')]) := by
  rw [fm_c_push, fm_c_push, List.set_append_right (h := by unfold fm_c; rw [List.length_map]; exact Nat.le_refl _), show (fm_c cI rs).length = rs.length by unfold fm_c; rw [List.length_map], Nat.sub_self]
  rfl
theorem fm_g_push {rs : fm_R} {q : Nat} {f : Nat → Int32} : va_up (fm_g rs) rs.length (some q) = fm_g (rs ++ [(q, f)]) := by
  funext j
  unfold va_up fm_g
  by_cases h : j = rs.length
  · subst h
    rw [if_pos rfl, List.getElem?_append_right (Nat.le_refl _), Nat.sub_self]
    rfl
  · rw [if_neg h]
    by_cases h2 : j < rs.length
    · rw [List.getElem?_append_left h2]
    · rw [List.getElem?_eq_none (by omega), List.getElem?_eq_none (by simp only [List.length_append, List.length_singleton]; omega)]
theorem fm_g_nil : fm_g [] = fun _ => none := by
  funext j
  rfl
/-- what a row of the law's is: a bass, a figure, notes of their voices or none -/
def fm_nt (v : Nat) (x : Int32) : Prop := x = -1 ∨ ∃ k, pq_vlo v ≤ k ∧ k ≤ pq_vhi v ∧ x = nI k
def fm_good (f : Nat → Int32) : Prop := (∃ b, b < 14 ∧ f 0 = nI b) ∧ (∃ b, b < 6 ∧ f 4 = nI b) ∧ ∀ v, 1 ≤ v → v ≤ 3 → fm_nt v (f v)
/-! the heads of a row of rows -/
abbrev fm_wT (cI cR : ClassId) (qr n : Nat) (rs : fm_R) : va_W := (qr, .inl (cR, n, .inr (.inr (.inr (.inr (fm_g rs)))))) :: fm_c cI rs
theorem fm_tailP {D : va_G} {cl : List vw_C} {x : Nat × va_E} {ws : va_W} {H : Heap} (h : va_P D cl (x :: ws) H) : va_P D cl ws H := fun k q hk => h (k + 1) q (by rw [List.getElem?_cons_succ]; exact hk)
theorem fm_tailD {A : Nat → Prop} {x : Nat × va_E} {ws : va_W} (h : va_D A (x :: ws)) : va_D A ws := ⟨fun i j p q hi hj e => Nat.succ.inj (h.1 (i + 1) (j + 1) p q (by rw [List.getElem?_cons_succ]; exact hi) (by rw [List.getElem?_cons_succ]; exact hj) e), fun k q hk => h.2 (k + 1) q (by rw [List.getElem?_cons_succ]; exact hk)⟩
/-- rows that are read alone: they lie outside of what is written -/
def fm_rd (D : va_G) (T : va_W) : (Nat → Prop) → State → Heap → Prop := fun A _ H => va_P D vwCl T H ∧ ∀ (k : Nat) (x : Nat × va_E), T[k]? = some x → ¬ A x.1
theorem fm_rdp (D : va_G) (T : va_W) : fb_SP (fm_rd D T) := ⟨fun _ _ _ _ _ h => h, fun _ _ _ _ h hq => ⟨h.1.kept (fun k x hx => hq _ ((h.1 k x hx).lt) (h.2 k x hx)), h.2⟩, fun _ _ _ _ h hAB => ⟨h.1, fun k x hx z => h.2 k x hx (hAB _ z)⟩⟩
theorem fm_nil {D : va_G} {cl : List vw_C} {H : Heap} : va_P D cl [] H := fun k q h => by simp at h
theorem fm_nilD {A : Nat → Prop} : va_D A [] := ⟨fun i j p q h => by simp at h, fun k q h => by simp at h⟩
theorem fm_nilA {hz q : Nat} (h : va_A [] hz q) : hz ≤ q := by
  rcases h with ⟨k, e, h⟩ | h
  · simp at h
  · exact h
/-! numbers -/
theorem fm_rem {x : Int32} {n : Nat} (h0 : 0 < n) (hn : n < 2 ^ 31) : ∃ j, j < n ∧ (x &&& 2147483647) - (x &&& 2147483647) / nI n * nI n = nI j := by
  have e : x &&& 2147483647 = nI (x.toBitVec.toNat % 2 ^ 31) := pk_and x 31 (by decide)
  rw [e, pk_rem (Nat.mod_lt _ (by decide)) h0 hn]
  exact ⟨_, Nat.mod_lt _ h0, rfl⟩
def fm_nan (a : UInt64) : Bool := match FP.Core.decode FP.Core.b64 a.toNat with
  | .nan => true
  | _ => false
theorem fm_nanN {a : UInt64} (h : fm_nan a = false) : ¬ FP.Core.decode FP.Core.b64 a.toNat = .nan := by
  intro z
  unfold fm_nan at h
  rw [z] at h
  cases h
theorem fm_quot {a b : Int32} (h : ¬ b = 0) : fm_nan (FP.ddiv (FP.i2d a) (FP.i2d b)) = false := by
  have h1 : FP.Core.dIsNaN (FP.Core.ddiv (FP.Core.i2d a) (FP.Core.i2d b)) = false := FP.Core.ddiv_out (FP.Core.DFin.notNaN (FP.Core.i2d_fin a)) (FP.Core.i2d_fin b) (fun z => FP.Core.i2d_ne_zero h ((FP.Core.zero_bits2 _).mp z))
  have h2 : ¬ FP.Core.decode FP.Core.b64 (FP.ddiv (FP.i2d a) (FP.i2d b)).toNat = .nan := fun z => by
    have := (FP.Core.dIsNaN_iff (FP.Core.ddiv (FP.Core.i2d a) (FP.Core.i2d b))).mpr z
    rw [h1] at this
    cases this
  unfold fm_nan
  split
  · contradiction
  · rfl
theorem fm_self (a : UInt64) : FP.dcmp a a = some .eq ∨ FP.Core.decode FP.Core.b64 a.toNat = .nan := by
  show FP.Core.order (FP.Core.decode FP.Core.b64 a.toNat) (FP.Core.decode FP.Core.b64 a.toNat) = some .eq ∨ _
  cases hd : FP.Core.decode FP.Core.b64 a.toNat with
  | nan => exact Or.inr rfl
  | inf s => exact Or.inl (by simp [FP.Core.order, compare, compareOfLessAndEq])
  | fin s c q => exact Or.inl (by simp [FP.Core.order, compare, compareOfLessAndEq])
theorem fm_nanE {a : UInt64} (h : isNaN64 a = true) : FP.Core.decode FP.Core.b64 a.toNat = .nan := by
  have h1 := isNaN64_iff.mp h
  have hm : a.toNat &&& 0x7fffffffffffffff = a.toNat % 2 ^ 63 := Nat.and_two_pow_sub_one_eq_mod a.toNat 63
  rw [hm] at h1
  have hE : FP.Core.fieldE FP.Core.b64 a.toNat = 2047 := by
    show a.toNat / 2 ^ 52 % 2 ^ 11 = 2047
    omega
  have hT : ¬ FP.Core.fieldT FP.Core.b64 a.toNat = 0 := by
    show ¬ a.toNat % 2 ^ 52 = 0
    omega
  unfold FP.Core.decode
  rw [if_pos (by rw [hE]; rfl), if_neg hT]
theorem fm_dq {r1 r2 d1 d2 : UInt64} (h1 : alike64 r1 d1 = true) (h2 : alike64 r2 d2 = true) (h : (!fm_nan d1 && decide (d1 = d2)) = true) : Op.cmpValue (FP.dcmp r1 r2) CmpOp.l = 0 := by
  simp only [Bool.and_eq_true, Bool.not_eq_true', decide_eq_true_eq] at h
  obtain ⟨hn, rfl⟩ := h
  have hn := fm_nanN hn
  simp only [alike64, Bool.or_eq_true, decide_eq_true_eq, Bool.and_eq_true] at h1 h2
  rcases h1 with h1 | ⟨-, b1⟩
  · rcases h2 with h2 | ⟨-, b2⟩
    · rw [h1, h2]
      rcases fm_self d1 with h | h
      · rw [h]
        rfl
      · exact absurd h hn
    · exact absurd (fm_nanE b2) hn
  · exact absurd (fm_nanE b1) hn
/-! calls: a throwing method's answer; a static method over given cells -/
def fb_mt {μ ρ γ : Type} (res : Except (String × μ) ρ) (k1 : ρ → Option γ) (k2 : String × μ → Option γ) : Option γ := match res with
  | .ok v => k1 v
  | .error x => k2 x
theorem fb_mtok {μ ρ γ : Type} {res : Except (String × μ) ρ} {k1 : ρ → Option γ} {k2 : String × μ → Option γ} {z : γ} {v : ρ} (hr : res = .ok v) (h : fb_mt res k1 k2 = some z) : k1 v = some z := by
  subst hr
  exact h
theorem fb_mter {μ ρ γ : Type} {res : Except (String × μ) ρ} {k1 : ρ → Option γ} {k2 : String × μ → Option γ} {z : γ} {x : String × μ} (hr : res = .error x) (h : fb_mt res k1 k2 = some z) : k2 x = some z := by
  subst hr
  exact h
section FBT
variable {p : Program} {l : Launch} {e : Env} {R : Room} {s : State} {m : MethodId} {args : Array Value} {below : List Frame} {meth : Method} {c : Code} {H : Heap} {locs : List Loc} {cells slots mc ms : Nat} {Q : State → Prop}
variable {pc : Nat} {ls : Array Slot} {rest st0 : List Value} {a : Array Value} {A0 A1 : Nat → Prop} {H0 : Heap} {free : Addr → Prop} {D : va_G}
theorem fb_callT {μ ρ : Type} {res : Except (String × μ) ρ} {ov : ρ → Option Value} {w1 : ρ → va_W} {we : String × μ → va_W} (hr : vx_Run p l e R s m args below meth c H locs cells slots mc ms (F0 m pc ls st0) rest (fb_qT res ov w1 D A1 a) (fb_xT res we D A1) free) (hS : va_S A0 H0 H locs) (hA : ∀ q, q < H.size → A1 q → A0 q) (hf : ∀ q, free q → A0 q)
    (kx : ∀ (x : String × μ) (ce : Cell) (q9 : Addr) (H1 : Heap) (locs1 : List Loc), res = .error x → va_P D vwCl (we x) H1 → va_D A1 (we x) → (∀ q : Nat, q < H.size → ¬ A1 q → H1[q]? = H[q]?) → va_S A0 H0 H1 locs1 → H1[q9]? = some ce → ce.vm = .none → s.vm.findClass x.1 = some ce.cls → vx_W p l e R s m args below meth c H1 locs1 (cells + mc) (slots + ms) Q (F0 m pc ls rest) q9)
    (kk : ∀ (v : ρ) (H1 : Heap) (locs1 : List Loc), res = .ok v → va_P D vwCl (w1 v) H1 → va_D A1 (w1 v) → (∀ q : Nat, q < H.size → ¬ A1 q → H1[q]? = H[q]?) → va_S A0 H0 H1 locs1 → W p l e R s m args below meth c H1 locs1 (cells + mc) (slots + ms) Q (F0 m (pc + 3) ls ((ov v).toList ++ rest))) : W p l e R s m args below meth c H locs cells slots Q (F0 m pc ls st0) := by
  intro T hT X
  rcases hr T hT X with ⟨v, st₀, t, T', L, h0, X', hL, e1, e2, ⟨r, hres, ⟨hv, hp, hd⟩, hF⟩, st⟩ | ⟨q, st₀, t, T', L, E, ce, h0, X', hL, e1, e2, ⟨x, hres, hE, hp, hd, hF⟩, hce, hcv, hcl, st⟩
  · cases hv
    obtain ⟨k1, k2, k3⟩ := vx_keep h0 e1 hS hA hf hL hF
    obtain ⟨t2, a1, b1⟩ := kk r T'.heap (locs ++ L) hres (by rw [e1]; exact hp) hd k2 k3 T' rfl X'
    exact ⟨t2, st t2 a1, b1⟩
  · subst hE
    obtain ⟨k1, k2, k3⟩ := vx_keep h0 e1 hS hA hf hL hF
    obtain ⟨t2, a1, b1⟩ := kx x ce q T'.heap (locs ++ L) hres (by rw [e1]; exact hp) hd k2 k3 (by rw [e1]; exact hce) hcv hcl T' rfl X'
    exact ⟨t2, st.trans a1, b1⟩
end FBT
theorem fb_preSM {D : va_G} {tys : List (ClassId × FieldType)} {B0 : Nat} {S : (Nat → Prop) → State → Heap → Prop} {w : va_W} {s : State} {H : Heap} {locs : List Loc} {A : Nat → Prop} (hSP : fb_SP S) (hP : va_P D vwCl w H) (hK : va_K D vwCl tys s) (hD : va_D A w) (hZ : S (fun q => B0 ≤ q) s s.heap) (hS : va_S A s.heap H locs) (hAB : ∀ q, A q → B0 ≤ q) (hA : ∀ q, s.heap.size ≤ q → A q) (As : List Value) : PreS s H (va_Pc As (fb_pm D tys B0 S w H.size)) As := by
  refine ⟨fb_blindM hSP, fun U hU hW => ⟨rfl, by rw [hU], fb_preR hSP hP hK hZ hS hAB U hU hW, hD.weaken (fun _ _ _ _ => trivial), fun q hq => ?_⟩⟩
  rcases hq with ⟨k, e, hk⟩ | hq
  · exact hAB q (hD.2 k _ hk)
  · exact hAB q (hA q (Nat.le_trans hS.1 hq))
