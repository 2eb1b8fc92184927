/-! calls of methods that may throw, and the law's helpers' starts (my own rows) -/
def fb_mt {μ ρ γ : Type} (res : Except (String × μ) ρ) (k1 : ρ → Option γ) (k2 : String × μ → Option γ) : Option γ := match res with
  | .ok v => k1 v
  | .error x => k2 x
theorem fb_mtok {μ ρ γ : Type} {res : Except (String × μ) ρ} {k1 : ρ → Option γ} {k2 : String × μ → Option γ} {z : γ} {v : ρ} (hr : res = .ok v) (h : fb_mt res k1 k2 = some z) : k1 v = some z := by
  subst hr
  exact h
theorem fb_mter {μ ρ γ : Type} {res : Except (String × μ) ρ} {k1 : ρ → Option γ} {k2 : String × μ → Option γ} {z : γ} {x : String × μ} (hr : res = .error x) (h : fb_mt res k1 k2 = some z) : k2 x = some z := by
  subst hr
  exact h
section FBT
variable {p : Program} {l : Launch} {e : Env} {R : Room} {s : State} {m : MethodId} {args : Array Value} {below : List Frame} {meth : Method} {c : Code} {H : Heap} {locs : List Loc} {cells slots mc ms : Nat} {Q : State → Prop}
variable {pc : Nat} {ls : Array Slot} {rest st0 : List Value} {a : Array Value} {A0 A1 : Nat → Prop} {H0 : Heap} {free : Addr → Prop} {D : va_G}
theorem fb_callT {μ ρ : Type} {res : Except (String × μ) ρ} {ov : ρ → Option Value} {w1 : ρ → va_W} {we : String × μ → va_W} (hr : vx_Run p l e R s m args below meth c H locs cells slots mc ms (F0 m pc ls st0) rest (fb_qT res ov w1 D A1 a) (fb_xT res we D A1) free) (hS : va_S A0 H0 H locs) (hA : ∀ q, q < H.size → A1 q → A0 q) (hf : ∀ q, free q → A0 q)
    (kx : ∀ (x : String × μ) (ce : Cell) (q9 : Addr) (H1 : Heap) (locs1 : List Loc), res = .error x → va_P D vwCl (we x) H1 → va_D A1 (we x) → (∀ q : Nat, q < H.size → ¬ A1 q → H1[q]? = H[q]?) → va_S A0 H0 H1 locs1 → H1[q9]? = some ce → ce.vm = .none → s.vm.findClass x.1 = some ce.cls → vx_W p l e R s m args below meth c H1 locs1 (cells + mc) (slots + ms) Q (F0 m pc ls rest) q9)
    (kk : ∀ (v : ρ) (H1 : Heap) (locs1 : List Loc), res = .ok v → va_P D vwCl (w1 v) H1 → va_D A1 (w1 v) → (∀ q : Nat, q < H.size → ¬ A1 q → H1[q]? = H[q]?) → va_S A0 H0 H1 locs1 → W p l e R s m args below meth c H1 locs1 (cells + mc) (slots + ms) Q (F0 m (pc + 3) ls ((ov v).toList ++ rest))) : W p l e R s m args below meth c H locs cells slots Q (F0 m pc ls st0) := by
  intro T hT X
  rcases hr T hT X with ⟨v, st₀, t, T', L, h0, X', hL, e1, e2, ⟨r, hres, ⟨hv, hp, hd⟩, hF⟩, st⟩ | ⟨q, st₀, t, T', L, E, ce, h0, X', hL, e1, e2, ⟨x, hres, hE, hp, hd, hF⟩, hce, hcv, hcl, st⟩
  · cases hv
    obtain ⟨k1, k2, k3⟩ := vx_keep h0 e1 hS hA hf hL hF
    obtain ⟨t2, a1, b1⟩ := kk r T'.heap (locs ++ L) hres (by rw [e1]; exact hp) hd k2 k3 T' rfl X'
    exact ⟨t2, st t2 a1, b1⟩
  · subst hE
    obtain ⟨k1, k2, k3⟩ := vx_keep h0 e1 hS hA hf hL hF
    obtain ⟨t2, a1, b1⟩ := kx x ce q T'.heap (locs ++ L) hres (by rw [e1]; exact hp) hd k2 k3 (by rw [e1]; exact hce) hcv hcl T' rfl X'
    exact ⟨t2, st.trans a1, b1⟩
end FBT
/-- the law's static helpers: their cells are the class's and the row out -/
abbrev fb_wL (cI cJ : ClassId) (h0 qf qn qw ql qo : Nat) (sz mi : Int32) (fg nt wt wl : Nat → Int32) (ob : Nat → Int64) : va_W := fb_wX0 cI h0 qf qn qw ql sz mi fg nt wt wl ++ [(qo, .inl (cJ, 1, .inr (.inl ob)))]
theorem fb_preSM {D : va_G} {tys : List (ClassId × FieldType)} {B0 : Nat} {S : (Nat → Prop) → State → Heap → Prop} {w : va_W} {s : State} {H : Heap} {locs : List Loc} {A : Nat → Prop} (hSP : fb_SP S) (hP : va_P D vwCl w H) (hK : va_K D vwCl tys s) (hD : va_D A w) (hZ : S (fun q => B0 ≤ q) s s.heap) (hS : va_S A s.heap H locs) (hAB : ∀ q, A q → B0 ≤ q) (hA : ∀ q, s.heap.size ≤ q → A q) (As : List Value) : PreS s H (va_Pc As (fb_pm D tys B0 S w H.size)) As := by
  refine ⟨fb_blindM hSP, fun U hU hW => ⟨rfl, by rw [hU], fb_preR hSP hP hK hZ hS hAB U hU hW, hD.weaken (fun _ _ _ _ => trivial), fun q hq => ?_⟩⟩
  rcases hq with ⟨k, e, hk⟩ | hq
  · exact hAB q (hD.2 k _ hk)
  · exact hAB q (hA q (Nat.le_trans hS.1 hq))
theorem fb_caE {E N : String} {A : Nat → Prop} {U : State} {H : Heap} (he : E = N) (h : fb_Nw (.castable N N) A U H) {a : Array Value} : (Cond.castable E N).before a U = true := by
  rw [he]; exact va_Nw.use rfl h
/-! two doubles that are alike to one: the law's comparison of them -/
theorem fb_self (a : UInt64) : FP.dcmp a a = some .eq ∨ FP.Core.decode FP.Core.b64 a.toNat = .nan := by
  show FP.Core.order (FP.Core.decode FP.Core.b64 a.toNat) (FP.Core.decode FP.Core.b64 a.toNat) = some .eq ∨ _
  cases hd : FP.Core.decode FP.Core.b64 a.toNat with
  | nan => exact Or.inr rfl
  | inf s => exact Or.inl (by simp [FP.Core.order, compare, compareOfLessAndEq])
  | fin s c q => exact Or.inl (by simp [FP.Core.order, compare, compareOfLessAndEq])
theorem fb_none {a : UInt64} (b : UInt64) (h : FP.Core.decode FP.Core.b64 a.toNat = .nan) : FP.dcmp a b = none := by
  show FP.Core.order (FP.Core.decode FP.Core.b64 a.toNat) (FP.Core.decode FP.Core.b64 b.toNat) = none
  rw [h]
  rfl
theorem fb_nanE {a : UInt64} (h : isNaN64 a = true) : FP.Core.decode FP.Core.b64 a.toNat = .nan := by
  have h1 := isNaN64_iff.mp h
  have hm : a.toNat &&& 0x7fffffffffffffff = a.toNat % 2 ^ 63 := Nat.and_two_pow_sub_one_eq_mod a.toNat 63
  rw [hm] at h1
  have hE : FP.Core.fieldE FP.Core.b64 a.toNat = 2047 := by
    show a.toNat / 2 ^ 52 % 2 ^ 11 = 2047
    omega
  have hT : ¬ FP.Core.fieldT FP.Core.b64 a.toNat = 0 := by
    show ¬ a.toNat % 2 ^ 52 = 0
    omega
  unfold FP.Core.decode
  rw [if_pos (by rw [hE]; rfl), if_neg hT]
theorem fb_dq {r1 r2 d1 d2 : UInt64} (h1 : alike64 r1 d1 = true) (h2 : alike64 r2 d2 = true) (hd : d1 = d2) : Op.cmpValue (FP.dcmp r1 r2) CmpOp.l = 0 ∨ (¬ Op.cmpValue (FP.dcmp r1 r1) CmpOp.l = 0 ∧ ¬ Op.cmpValue (FP.dcmp r2 r2) CmpOp.l = 0) := by
  subst hd
  have key : ∀ r : UInt64, FP.Core.decode FP.Core.b64 r.toNat = .nan → ¬ Op.cmpValue (FP.dcmp r r) CmpOp.l = 0 := by
    intro r hr
    rw [fb_none r hr]
    decide
  simp only [alike64, Bool.or_eq_true, decide_eq_true_eq, Bool.and_eq_true] at h1 h2
  rcases h1 with h1 | ⟨a1, b1⟩
  · rcases h2 with h2 | ⟨a2, b2⟩
    · subst h1
      subst h2
      rcases fb_self r2 with h | h
      · left
        rw [h]
        rfl
      · exact Or.inr ⟨key _ h, key _ h⟩
    · subst h1
      exact Or.inr ⟨key _ (fb_nanE b2), key _ (fb_nanE a2)⟩
  · rcases h2 with h2 | ⟨a2, b2⟩
    · subst h2
      exact Or.inr ⟨key _ (fb_nanE a1), key _ (fb_nanE b1)⟩
    · exact Or.inr ⟨key _ (fb_nanE a1), key _ (fb_nanE a2)⟩
