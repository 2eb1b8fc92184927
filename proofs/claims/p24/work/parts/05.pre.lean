/-! Small tools for the functions that wip/whole/gen.py writes out of the bytecode (my own rows; fb_ is my prefix). -/
theorem fb_it {α : Type} {c : Prop} [Decidable c] {a b x : α} (hc : c) (h : (if c then a else b) = x) : a = x := by
  rw [if_pos hc] at h; exact h
theorem fb_ie {α : Type} {c : Prop} [Decidable c] {a b x : α} (hc : ¬ c) (h : (if c then a else b) = x) : b = x := by
  rw [if_neg hc] at h; exact h
def fb_ck {α : Type} (b : Bool) (k : Option α) : Option α := match b with
  | true => k
  | false => none
theorem fb_cks {α : Type} {b : Bool} {k : Option α} {x : α} (h : fb_ck b k = some x) : b = true ∧ k = some x := by
  cases b with
  | false => cases h
  | true => exact ⟨rfl, h⟩
def fb_ix (i : Int32) (n : Nat) : Bool := decide (¬ i < 0) && decide (i.toNatClampNeg < n)
theorem fb_ixin {i : Int32} {n : Nat} (h : fb_ix i n = true) : vp_in i n := by
  unfold fb_ix at h
  simp only [Bool.and_eq_true, decide_eq_true_eq] at h
  intro q
  rcases q with q | q
  · exact h.1 q
  · have := h.2
    omega
def fb_z (r : Int32) : Bool := decide (r = 0) || decide (r = 1)
theorem fb_zor {r : Int32} (h : fb_z r = true) : r = 0 ∨ r = 1 := by
  unfold fb_z at h
  simpa using h
theorem fb_zn {r : Int32} (h : fb_z r = true) : narrow .boolean (.int r) = .int r := by
  rcases fb_zor h with e | e <;> rw [e] <;> rfl
theorem fb_zf {r : Int32} (h : fb_z r = true) : fits .boolean (.int r) = true := by
  rcases fb_zor h with e | e <;> rw [e] <;> rfl
def fb_b0 {β : Type} (o : Option Unit) (k : Option β) : Option β := match o with
  | some _ => k
  | none => none
def fb_b1 {α β : Type} (o : Option α) (k : α → Option β) : Option β := match o with
  | some a => k a
  | none => none
def fb_b2 {α1 α2 β : Type} (o : Option (α1 × α2)) (k : α1 → α2 → Option β) : Option β := match o with
  | some a => k a.1 a.2
  | none => none
def fb_b3 {α1 α2 α3 β : Type} (o : Option (α1 × α2 × α3)) (k : α1 → α2 → α3 → Option β) : Option β := match o with
  | some a => k a.1 a.2.1 a.2.2
  | none => none
def fb_b4 {α1 α2 α3 α4 β : Type} (o : Option (α1 × α2 × α3 × α4)) (k : α1 → α2 → α3 → α4 → Option β) : Option β := match o with
  | some a => k a.1 a.2.1 a.2.2.1 a.2.2.2
  | none => none
def fb_b5 {α1 α2 α3 α4 α5 β : Type} (o : Option (α1 × α2 × α3 × α4 × α5)) (k : α1 → α2 → α3 → α4 → α5 → Option β) : Option β := match o with
  | some a => k a.1 a.2.1 a.2.2.1 a.2.2.2.1 a.2.2.2.2
  | none => none
def fb_b6 {α1 α2 α3 α4 α5 α6 β : Type} (o : Option (α1 × α2 × α3 × α4 × α5 × α6)) (k : α1 → α2 → α3 → α4 → α5 → α6 → Option β) : Option β := match o with
  | some a => k a.1 a.2.1 a.2.2.1 a.2.2.2.1 a.2.2.2.2.1 a.2.2.2.2.2
  | none => none
theorem fb_b0s {β : Type} {o : Option Unit} {k : Option β} {x : β} (h : fb_b0 o k = some x) : o = some () ∧ k = some x := by
  cases o with
  | none => cases h
  | some a => exact ⟨rfl, h⟩
theorem fb_b1s {α β : Type} {o : Option α} {k : α → Option β} {x : β} (h : fb_b1 o k = some x) : ∃ a, o = some a ∧ k a = some x := by
  cases o with
  | none => cases h
  | some a => exact ⟨a, rfl, h⟩
theorem fb_b2s {α1 α2 β : Type} {o : Option (α1 × α2)} {k : α1 → α2 → Option β} {x : β} (h : fb_b2 o k = some x) : ∃ a1 a2, o = some (a1, a2) ∧ k a1 a2 = some x := by
  cases o with
  | none => cases h
  | some a => exact ⟨a.1, a.2, rfl, h⟩
theorem fb_b3s {α1 α2 α3 β : Type} {o : Option (α1 × α2 × α3)} {k : α1 → α2 → α3 → Option β} {x : β} (h : fb_b3 o k = some x) : ∃ a1 a2 a3, o = some (a1, a2, a3) ∧ k a1 a2 a3 = some x := by
  cases o with
  | none => cases h
  | some a => exact ⟨a.1, a.2.1, a.2.2, rfl, h⟩
theorem fb_b4s {α1 α2 α3 α4 β : Type} {o : Option (α1 × α2 × α3 × α4)} {k : α1 → α2 → α3 → α4 → Option β} {x : β} (h : fb_b4 o k = some x) : ∃ a1 a2 a3 a4, o = some (a1, a2, a3, a4) ∧ k a1 a2 a3 a4 = some x := by
  cases o with
  | none => cases h
  | some a => exact ⟨a.1, a.2.1, a.2.2.1, a.2.2.2, rfl, h⟩
theorem fb_b5s {α1 α2 α3 α4 α5 β : Type} {o : Option (α1 × α2 × α3 × α4 × α5)} {k : α1 → α2 → α3 → α4 → α5 → Option β} {x : β} (h : fb_b5 o k = some x) : ∃ a1 a2 a3 a4 a5, o = some (a1, a2, a3, a4, a5) ∧ k a1 a2 a3 a4 a5 = some x := by
  cases o with
  | none => cases h
  | some a => exact ⟨a.1, a.2.1, a.2.2.1, a.2.2.2.1, a.2.2.2.2, rfl, h⟩
theorem fb_b6s {α1 α2 α3 α4 α5 α6 β : Type} {o : Option (α1 × α2 × α3 × α4 × α5 × α6)} {k : α1 → α2 → α3 → α4 → α5 → α6 → Option β} {x : β} (h : fb_b6 o k = some x) : ∃ a1 a2 a3 a4 a5 a6, o = some (a1, a2, a3, a4, a5, a6) ∧ k a1 a2 a3 a4 a5 a6 = some x := by
  cases o with
  | none => cases h
  | some a => exact ⟨a.1, a.2.1, a.2.2.1, a.2.2.2.1, a.2.2.2.2.1, a.2.2.2.2.2, rfl, h⟩
/-! two rows of numbers that are one: their numbers are -/
theorem fb_p2 {α1 α2 : Type} {a1 b1 : α1} {a2 b2 : α2} (h : some (a1, a2) = some (b1, b2)) : a1 = b1 ∧ a2 = b2 := by
  cases h
  exact ⟨rfl, rfl⟩
theorem fb_p3 {α1 α2 α3 : Type} {a1 b1 : α1} {a2 b2 : α2} {a3 b3 : α3} (h : some (a1, a2, a3) = some (b1, b2, b3)) : a1 = b1 ∧ a2 = b2 ∧ a3 = b3 := by
  cases h
  exact ⟨rfl, rfl, rfl⟩
theorem fb_p4 {α1 α2 α3 α4 : Type} {a1 b1 : α1} {a2 b2 : α2} {a3 b3 : α3} {a4 b4 : α4} (h : some (a1, a2, a3, a4) = some (b1, b2, b3, b4)) : a1 = b1 ∧ a2 = b2 ∧ a3 = b3 ∧ a4 = b4 := by
  cases h
  exact ⟨rfl, rfl, rfl, rfl⟩
theorem fb_p5 {α1 α2 α3 α4 α5 : Type} {a1 b1 : α1} {a2 b2 : α2} {a3 b3 : α3} {a4 b4 : α4} {a5 b5 : α5} (h : some (a1, a2, a3, a4, a5) = some (b1, b2, b3, b4, b5)) : a1 = b1 ∧ a2 = b2 ∧ a3 = b3 ∧ a4 = b4 ∧ a5 = b5 := by
  cases h
  exact ⟨rfl, rfl, rfl, rfl, rfl⟩
theorem fb_p6 {α1 α2 α3 α4 α5 α6 : Type} {a1 b1 : α1} {a2 b2 : α2} {a3 b3 : α3} {a4 b4 : α4} {a5 b5 : α5} {a6 b6 : α6} (h : some (a1, a2, a3, a4, a5, a6) = some (b1, b2, b3, b4, b5, b6)) : a1 = b1 ∧ a2 = b2 ∧ a3 = b3 ∧ a4 = b4 ∧ a5 = b5 ∧ a6 = b6 := by
  cases h
  exact ⟨rfl, rfl, rfl, rfl, rfl, rfl⟩
theorem fb_p7 {α1 α2 α3 α4 α5 α6 α7 : Type} {a1 b1 : α1} {a2 b2 : α2} {a3 b3 : α3} {a4 b4 : α4} {a5 b5 : α5} {a6 b6 : α6} {a7 b7 : α7} (h : some (a1, a2, a3, a4, a5, a6, a7) = some (b1, b2, b3, b4, b5, b6, b7)) : a1 = b1 ∧ a2 = b2 ∧ a3 = b3 ∧ a4 = b4 ∧ a5 = b5 ∧ a6 = b6 ∧ a7 = b7 := by
  cases h
  exact ⟨rfl, rfl, rfl, rfl, rfl, rfl, rfl⟩
theorem fb_p8 {α1 α2 α3 α4 α5 α6 α7 α8 : Type} {a1 b1 : α1} {a2 b2 : α2} {a3 b3 : α3} {a4 b4 : α4} {a5 b5 : α5} {a6 b6 : α6} {a7 b7 : α7} {a8 b8 : α8} (h : some (a1, a2, a3, a4, a5, a6, a7, a8) = some (b1, b2, b3, b4, b5, b6, b7, b8)) : a1 = b1 ∧ a2 = b2 ∧ a3 = b3 ∧ a4 = b4 ∧ a5 = b5 ∧ a6 = b6 ∧ a7 = b7 ∧ a8 = b8 := by
  cases h
  exact ⟨rfl, rfl, rfl, rfl, rfl, rfl, rfl, rfl⟩
/-! static int arrays -/
def fb_tab (l : List Int32) : Nat → Int32 := fun j => l.getD j 0
def fb_stA (C n : String) (N : Nat) (f : Nat → Int32) (A : Nat → Prop) (U : State) (H : Heap) : Prop := ∃ t : Nat, va_Z C n "[I" (.ref t) A U H ∧ va_T .int t N (fun j => .int (f j)) A U H
theorem fb_stA_moved {C n : String} {N : Nat} {f : Nat → Int32} {A : Nat → Prop} {u U : State} {H : Heap} (hvm : u.vm.Alike U.vm) (h : fb_stA C n N f A u H) : fb_stA C n N f A U H := by
  obtain ⟨t, h1, h2⟩ := h
  exact ⟨t, h1.moved hvm, h2.moved hvm⟩
theorem fb_stA_kept {C n : String} {N : Nat} {f : Nat → Int32} {A : Nat → Prop} {U : State} {H H1 : Heap} (h : fb_stA C n N f A U H) (hq : ∀ a : Nat, a < H.size → ¬ A a → H1[a]? = H[a]?) : fb_stA C n N f A U H1 := by
  obtain ⟨t, h1, h2⟩ := h
  exact ⟨t, h1.kept hq, h2.kept hq⟩
theorem fb_stA_narrow {C n : String} {N : Nat} {f : Nat → Int32} {A B : Nat → Prop} {U : State} {H : Heap} (h : fb_stA C n N f A U H) (hAB : ∀ q, B q → A q) : fb_stA C n N f B U H := by
  obtain ⟨t, h1, h2⟩ := h
  exact ⟨t, h1.narrow hAB, h2.narrow hAB⟩
/-- what is said of statics, and stays -/
def fb_SP (S : (Nat → Prop) → State → Heap → Prop) : Prop :=
  (∀ (A : Nat → Prop) (u U : State) (H : Heap), u.WarmedH U.vm → S A u H → S A U H) ∧
  (∀ (A : Nat → Prop) (U : State) (H H1 : Heap), S A U H → (∀ a : Nat, a < H.size → ¬ A a → H1[a]? = H[a]?) → S A U H1) ∧
  (∀ (A B : Nat → Prop) (U : State) (H : Heap), S A U H → (∀ q, B q → A q) → S B U H)
theorem fb_SP_stA (C n : String) (N : Nat) (f : Nat → Int32) : fb_SP (fb_stA C n N f) :=
  ⟨fun _ _ _ _ hvm h => fb_stA_moved hvm.alike h, fun _ _ _ _ h hq => fb_stA_kept h hq, fun _ _ _ _ h hAB => fb_stA_narrow h hAB⟩
theorem fb_SP_and {S T : (Nat → Prop) → State → Heap → Prop} (hs : fb_SP S) (ht : fb_SP T) : fb_SP (fun A U H => S A U H ∧ T A U H) :=
  ⟨fun A u U H hvm h => ⟨hs.1 A u U H hvm h.1, ht.1 A u U H hvm h.2⟩, fun A U H H1 h hq => ⟨hs.2.1 A U H H1 h.1 hq, ht.2.1 A U H H1 h.2 hq⟩, fun A B U H h hAB => ⟨hs.2.2 A B U H h.1 hAB, ht.2.2 A B U H h.2 hAB⟩⟩
/-! contracts' starts: a reading method; a writing one; a static one -/
def fb_ok (D : va_G) (tys : List (ClassId × FieldType)) (B0 : Nat) (S : (Nat → Prop) → State → Heap → Prop) (w : va_W) (U : State) : Prop := va_P D vwCl w U.heap ∧ va_K D vwCl tys U ∧ S (fun q => B0 ≤ q) U U.heap
def fb_pm (D : va_G) (tys : List (ClassId × FieldType)) (B0 : Nat) (S : (Nat → Prop) → State → Heap → Prop) (w : va_W) (hz : Nat) (U : State) : Prop := U.heap.size = hz ∧ fb_ok D tys B0 S w U ∧ va_D (fun _ => True) w ∧ ∀ q, va_A w hz q → B0 ≤ q
def fb_os (B0 : Nat) (S : (Nat → Prop) → State → Heap → Prop) (U : State) : Prop := S (fun q => B0 ≤ q) U U.heap
theorem fb_ok_moved {D : va_G} {tys : List (ClassId × FieldType)} {B0 : Nat} {S : (Nat → Prop) → State → Heap → Prop} {w : va_W} {u U : State} (hSP : fb_SP S) (hh : U.heap = u.heap) (hvm : u.WarmedH U.vm) (h : fb_ok D tys B0 S w u) : fb_ok D tys B0 S w U := by
  obtain ⟨h1, h2, h3⟩ := h
  exact ⟨by rw [hh]; exact h1, h2.moved hvm.alike, by rw [hh]; exact hSP.1 _ _ _ _ hvm h3⟩
theorem fb_blindR {D : va_G} {tys : List (ClassId × FieldType)} {B0 : Nat} {S : (Nat → Prop) → State → Heap → Prop} {w : va_W} {As : List Value} (hSP : fb_SP S) : FrameBlind (va_Pc As (fb_ok D tys B0 S w)) := by
  intro a U g mk q
  exact ⟨q.1, fb_ok_moved (u := U) (U := U.calling g mk a) hSP rfl (State.WarmedH.refl U) q.2⟩
theorem fb_blindM {D : va_G} {tys : List (ClassId × FieldType)} {B0 : Nat} {S : (Nat → Prop) → State → Heap → Prop} {w : va_W} {hz : Nat} {As : List Value} (hSP : fb_SP S) : FrameBlind (va_Pc As (fb_pm D tys B0 S w hz)) := by
  intro a U g mk q
  exact ⟨q.1, q.2.1, fb_ok_moved (u := U) (U := U.calling g mk a) hSP rfl (State.WarmedH.refl U) q.2.2.1, q.2.2.2⟩
theorem fb_blindS {B0 : Nat} {S : (Nat → Prop) → State → Heap → Prop} {As : List Value} (hSP : fb_SP S) : FrameBlind (va_Pc As (fb_os B0 S)) := by
  intro a U g mk q
  exact ⟨q.1, hSP.1 _ U (U.calling g mk a) _ (State.WarmedH.refl U) q.2⟩
section FB
variable {D : va_G} {tys : List (ClassId × FieldType)} {B0 : Nat} {S : (Nat → Prop) → State → Heap → Prop} {w : va_W} {s : State} {H : Heap} {locs : List Loc} {A : Nat → Prop}
theorem fb_stH (hSP : fb_SP S) (hZ : S (fun q => B0 ≤ q) s s.heap) (hS : va_S A s.heap H locs) (hAB : ∀ q, A q → B0 ≤ q) : S (fun q => B0 ≤ q) s H :=
  hSP.2.1 _ _ _ _ hZ (fun a h1 h2 => hS.2.1 a h1 (fun z => h2 (hAB a z)))
theorem fb_preR (hSP : fb_SP S) (hP : va_P D vwCl w H) (hK : va_K D vwCl tys s) (hZ : S (fun q => B0 ≤ q) s s.heap) (hS : va_S A s.heap H locs) (hAB : ∀ q, A q → B0 ≤ q) (U : State) (hU : U.heap = H) (hW : s.WarmedH U.vm) : fb_ok D tys B0 S w U :=
  ⟨by rw [hU]; exact hP, hK.moved hW.alike, by rw [hU]; exact hSP.1 _ _ _ _ hW (fb_stH hSP hZ hS hAB)⟩
theorem fb_preVR {b ci : Nat} {q : vw_C} {fs : List Value} (hSP : fb_SP S) (hP : va_P D vwCl w H) (hK : va_K D vwCl tys s) (hZ : S (fun q => B0 ≤ q) s s.heap) (hS : va_S A s.heap H locs) (hAB : ∀ q, A q → B0 ≤ q) (hc : vwCl[ci]? = some q) (he : w[0]? = some (b, .inr (ci, fs))) (As : List Value) : PreV s H q.1 b (va_Pc (.ref b :: As) (fb_ok D tys B0 S w)) As :=
  ⟨fb_blindR hSP, va_recv hK hP hc he, fun U hU hW => ⟨rfl, fb_preR hSP hP hK hZ hS hAB U hU hW⟩⟩
theorem fb_preVM {b ci : Nat} {q : vw_C} {fs : List Value} (hSP : fb_SP S) (hP : va_P D vwCl w H) (hK : va_K D vwCl tys s) (hD : va_D A w) (hZ : S (fun q => B0 ≤ q) s s.heap) (hS : va_S A s.heap H locs) (hAB : ∀ q, A q → B0 ≤ q) (hA : ∀ q, s.heap.size ≤ q → A q) (hc : vwCl[ci]? = some q) (he : w[0]? = some (b, .inr (ci, fs))) (As : List Value) : PreV s H q.1 b (va_Pc (.ref b :: As) (fb_pm D tys B0 S w H.size)) As := by
  refine ⟨fb_blindM hSP, va_recv hK hP hc he, fun U hU hW => ⟨rfl, by rw [hU], fb_preR hSP hP hK hZ hS hAB U hU hW, hD.weaken (fun _ _ _ _ => trivial), fun q hq => ?_⟩⟩
  rcases hq with ⟨k, e, hk⟩ | hq
  · exact hAB q (hD.2 k _ hk)
  · exact hAB q (hA q (Nat.le_trans hS.1 hq))
theorem fb_preS (hSP : fb_SP S) (hZ : S (fun q => B0 ≤ q) s s.heap) (hS : va_S A s.heap H locs) (hAB : ∀ q, A q → B0 ≤ q) (As : List Value) : PreS s H (va_Pc As (fb_os B0 S)) As :=
  ⟨fb_blindS hSP, fun U hU hW => ⟨rfl, by show S _ U U.heap; rw [hU]; exact hSP.1 _ _ _ _ hW (fb_stH hSP hZ hS hAB)⟩⟩
end FB
/-! ends: of a reading method with a long; of a writing method -/
def fb_ql (r : Int64) : Array Value → State → Outcome → State → Prop := fun _ st o t => o = .returned (some (.long r)) ∧ t.heap = st.heap
def fb_qM (ov : Nat → Option Value) (w1 : Nat → va_W) (D : va_G) (A : Nat → Prop) : Array Value → State → Outcome → State → Prop := fun _ st oc t => (∃ q : Nat, oc = .returned (ov q) ∧ va_P D vwCl (w1 q) t.heap ∧ va_D A (w1 q)) ∧ va_F A st t
section FBC
variable {p : Program} {l : Launch} {e : Env} {R : Room} {s : State} {m : MethodId} {args : Array Value} {below : List Frame} {meth : Method} {c : Code} {H : Heap} {locs : List Loc} {cells slots mc ms : Nat} {Q : State → Prop}
variable {pc : Nat} {ls : Array Slot} {rest st0 : List Value} {a : Array Value} {A0 A1 : Nat → Prop} {H0 : Heap} {free : Addr → Prop} {D : va_G}
theorem fb_callR {r : Int32} (hr : CallRun p l e R s m args below meth c H locs cells slots 0 0 (F0 m pc ls st0) rest (QcRead r a) (fun _ => False)) (kk : W p l e R s m args below meth c H locs cells slots Q (F0 m (pc + 3) ls (.int r :: rest))) : W p l e R s m args below meth c H locs cells slots Q (F0 m pc ls st0) := W.callR hr kk
theorem fb_callM {ov : Nat → Option Value} {w1 : Nat → va_W} (hr : va_Run p l e R s m args below meth c H locs cells slots mc ms (F0 m pc ls st0) rest (fb_qM ov w1 D A1 a) free) (hS : va_S A0 H0 H locs) (hA : ∀ q, q < H.size → A1 q → A0 q) (hf : ∀ q, free q → A0 q)
    (kk : ∀ (q : Nat) (H1 : Heap) (locs1 : List Loc), va_P D vwCl (w1 q) H1 → va_D A1 (w1 q) → H.size ≤ H1.size → (∀ x : Nat, x < H.size → ¬ A1 x → H1[x]? = H[x]?) → va_S A0 H0 H1 locs1 → W p l e R s m args below meth c H1 locs1 (cells + mc) (slots + ms) Q (F0 m (pc + 3) ls ((ov q).toList ++ rest))) : W p l e R s m args below meth c H locs cells slots Q (F0 m pc ls st0) := by
  intro T hT X
  obtain ⟨v, st₀, t, T', L, h0, X', hL, e1, e2, ⟨⟨q, hv, hp, hd⟩, hz, hk⟩, st⟩ := hr T hT X
  cases hv
  rw [h0] at hz hk
  obtain ⟨t2, a1, b1⟩ := kk q T'.heap (locs ++ L) (by rw [e1]; exact hp) hd (by rw [e1]; exact hz) (fun q h1 h2 => by rw [e1]; exact hk q h1 h2)
    ⟨Nat.le_trans hS.1 (by rw [e1]; exact hz), fun q h1 h2 => by rw [e1, hk q (Nat.lt_of_lt_of_le h1 hS.1) (fun z => h2 (hA q (Nat.lt_of_lt_of_le h1 hS.1) z))]; exact hS.2.1 q h1 h2, fun q hq => by
      rcases List.mem_append.mp hq with h | h
      · exact hS.2.2 q h
      · exact hf _ (hL q h)⟩ T' rfl X'
  exact ⟨t2, st t2 a1, b1⟩
end FBC
/-! the class of int arrays is one class -/
theorem fb_cA {D : va_G} {cl : List vw_C} {cI cA : ClassId} {s : State} (h : va_K D cl ([(cI, .int)] ++ [(cA, .int)]) s) : cI = cA := by
  have h1 := (h.2 0 _ rfl).2
  have h2 := (h.2 1 _ rfl).2
  exact Option.some.inj (h1.symm.trans h2)
/-! what a throwing method asks of its start, and says at its end -/
def fb_Nw (w : Cond) : (Nat → Prop) → State → Heap → Prop := fun _ U _ => va_Nw w U
theorem fb_SP_C (C X : String) : fb_SP (fb_Nw (.castable C X)) := ⟨fun _ _ _ _ hW h => va_Nw.warmC hW h, fun _ _ _ _ h _ => h, fun _ _ _ _ h _ => h⟩
theorem fb_SP_D (x : MethodName) : fb_SP (fb_Nw (.declares x)) := ⟨fun _ _ _ _ hW h => va_Nw.warmD hW h, fun _ _ _ _ h _ => h, fun _ _ _ _ h _ => h⟩
def fb_Nc (C X : String) : (Nat → Prop) → State → Heap → Prop := fun _ U _ => va_Nc C X U
theorem fb_SP_Nc (C X : String) : fb_SP (fb_Nc C X) := ⟨fun _ _ _ _ hW h => h.moved hW.alike, fun _ _ _ _ h _ => h, fun _ _ _ _ h _ => h⟩
def fb_str (own : String) (k : Nat) (tx : String) : (Nat → Prop) → State → Heap → Prop := fun _ U _ => ∃ a : Nat, vk_R own k tx a U
theorem fb_SP_str (own : String) (k : Nat) (tx : String) : fb_SP (fb_str own k tx) := ⟨fun _ _ _ _ hW ⟨a, h⟩ => ⟨a, vk_R.warm hW h⟩, fun _ _ _ _ h _ => h, fun _ _ _ _ h _ => h⟩
theorem fb_SP_Zq (C n d : String) : fb_SP (vx_Zq C n d) := ⟨fun _ _ _ _ hW h => h.moved hW.alike, fun _ _ _ _ h hq => h.kept hq, fun _ _ _ _ h hAB => h.narrow hAB⟩
def fb_qT {ε ρ : Type} (res : Except ε ρ) (ov : ρ → Option Value) (w1 : ρ → va_W) (D : va_G) (A : Nat → Prop) : Array Value → State → Outcome → State → Prop := fun _ st oc t => ∃ v : ρ, res = .ok v ∧ (oc = .returned (ov v) ∧ va_P D vwCl (w1 v) t.heap ∧ va_D A (w1 v)) ∧ va_F A st t
def fb_xT {μ ρ : Type} (res : Except (String × μ) ρ) (w : String × μ → va_W) (D : va_G) (A : Nat → Prop) : String → State → State → Prop := fun E st t => ∃ x : String × μ, res = .error x ∧ x.1 = E ∧ va_P D vwCl (w x) t.heap ∧ va_D A (w x) ∧ va_F A st t
theorem fb_xend {μ ρ : Type} {res : Except (String × μ) ρ} {w : String × μ → va_W} {D : va_G} {A : Nat → Prop} {E : String} {s : State} {H : Heap} {locs : List Loc} {x : String × μ} (hres : res = .error x) (hE : x.1 = E) (hP : va_P D vwCl (w x) H) (hD : va_D A (w x)) (hS : va_S A s.heap H locs) (t : State) (hz : H.size ≤ t.heap.size) (hk : ∀ q : Nat, q < H.size → t.heap[q]? = H[q]?) : fb_xT res w D A E s t :=
  ⟨x, hres, hE, hP.kept (fun k q hq => hk q.1 (vx_lt hP hq)), hD, Nat.le_trans hS.1 hz, fun q h1 h2 => (hk q (Nat.lt_of_lt_of_le h1 hS.1)).trans (hS.2.1 q h1 h2)⟩
