/-! calls of methods that may throw, and the law's helpers' starts (my own rows) -/
def fb_mt {μ ρ γ : Type} (res : Except (String × μ) ρ) (k1 : ρ → Option γ) (k2 : String × μ → Option γ) : Option γ := match res with
  | .ok v => k1 v
  | .error x => k2 x
theorem fb_mtok {μ ρ γ : Type} {res : Except (String × μ) ρ} {k1 : ρ → Option γ} {k2 : String × μ → Option γ} {z : γ} {v : ρ} (hr : res = .ok v) (h : fb_mt res k1 k2 = some z) : k1 v = some z := by
  subst hr
  exact h
theorem fb_mter {μ ρ γ : Type} {res : Except (String × μ) ρ} {k1 : ρ → Option γ} {k2 : String × μ → Option γ} {z : γ} {x : String × μ} (hr : res = .error x) (h : fb_mt res k1 k2 = some z) : k2 x = some z := by
  subst hr
  exact h
section FBT
variable {p : Program} {l : Launch} {e : Env} {R : Room} {s : State} {m : MethodId} {args : Array Value} {below : List Frame} {meth : Method} {c : Code} {H : Heap} {locs : List Loc} {cells slots mc ms : Nat} {Q : State → Prop}
variable {pc : Nat} {ls : Array Slot} {rest st0 : List Value} {a : Array Value} {A0 A1 : Nat → Prop} {H0 : Heap} {free : Addr → Prop} {D : va_G}
theorem fb_callT {μ ρ : Type} {res : Except (String × μ) ρ} {ov : ρ → Option Value} {w1 : ρ → va_W} {we : String × μ → va_W} (hr : vx_Run p l e R s m args below meth c H locs cells slots mc ms (F0 m pc ls st0) rest (fb_qT res ov w1 D A1 a) (fb_xT res we D A1) free) (hS : va_S A0 H0 H locs) (hA : ∀ q, q < H.size → A1 q → A0 q) (hf : ∀ q, free q → A0 q)
    (kx : ∀ (x : String × μ) (ce : Cell) (q9 : Addr) (H1 : Heap) (locs1 : List Loc), res = .error x → va_P D vwCl (we x) H1 → va_D A1 (we x) → (∀ q : Nat, q < H.size → ¬ A1 q → H1[q]? = H[q]?) → va_S A0 H0 H1 locs1 → H1[q9]? = some ce → ce.vm = .none → s.vm.findClass x.1 = some ce.cls → vx_W p l e R s m args below meth c H1 locs1 (cells + mc) (slots + ms) Q (F0 m pc ls rest) q9)
    (kk : ∀ (v : ρ) (H1 : Heap) (locs1 : List Loc), res = .ok v → va_P D vwCl (w1 v) H1 → va_D A1 (w1 v) → (∀ q : Nat, q < H.size → ¬ A1 q → H1[q]? = H[q]?) → va_S A0 H0 H1 locs1 → W p l e R s m args below meth c H1 locs1 (cells + mc) (slots + ms) Q (F0 m (pc + 3) ls ((ov v).toList ++ rest))) : W p l e R s m args below meth c H locs cells slots Q (F0 m pc ls st0) := by
  intro T hT X
  rcases hr T hT X with ⟨v, st₀, t, T', L, h0, X', hL, e1, e2, ⟨r, hres, ⟨hv, hp, hd⟩, hF⟩, st⟩ | ⟨q, st₀, t, T', L, E, ce, h0, X', hL, e1, e2, ⟨x, hres, hE, hp, hd, hF⟩, hce, hcv, hcl, st⟩
  · cases hv
    obtain ⟨k1, k2, k3⟩ := vx_keep h0 e1 hS hA hf hL hF
    obtain ⟨t2, a1, b1⟩ := kk r T'.heap (locs ++ L) hres (by rw [e1]; exact hp) hd k2 k3 T' rfl X'
    exact ⟨t2, st t2 a1, b1⟩
  · subst hE
    obtain ⟨k1, k2, k3⟩ := vx_keep h0 e1 hS hA hf hL hF
    obtain ⟨t2, a1, b1⟩ := kx x ce q T'.heap (locs ++ L) hres (by rw [e1]; exact hp) hd k2 k3 (by rw [e1]; exact hce) hcv hcl T' rfl X'
    exact ⟨t2, st.trans a1, b1⟩
end FBT
/-- the law's static helpers: their cells are the class's and the row out -/
abbrev fb_wL (cI cJ : ClassId) (h0 qf qn qw ql qo : Nat) (sz mi : Int32) (fg nt wt wl : Nat → Int32) (ob : Nat → Int64) : va_W := fb_wX0 cI h0 qf qn qw ql sz mi fg nt wt wl ++ [(qo, .inl (cJ, 1, .inr (.inl ob)))]
theorem fb_preSM {D : va_G} {tys : List (ClassId × FieldType)} {B0 : Nat} {S : (Nat → Prop) → State → Heap → Prop} {w : va_W} {s : State} {H : Heap} {locs : List Loc} {A : Nat → Prop} (hSP : fb_SP S) (hP : va_P D vwCl w H) (hK : va_K D vwCl tys s) (hD : va_D A w) (hZ : S (fun q => B0 ≤ q) s s.heap) (hS : va_S A s.heap H locs) (hAB : ∀ q, A q → B0 ≤ q) (hA : ∀ q, s.heap.size ≤ q → A q) (As : List Value) : PreS s H (va_Pc As (fb_pm D tys B0 S w H.size)) As := by
  refine ⟨fb_blindM hSP, fun U hU hW => ⟨rfl, by rw [hU], fb_preR hSP hP hK hZ hS hAB U hU hW, hD.weaken (fun _ _ _ _ => trivial), fun q hq => ?_⟩⟩
  rcases hq with ⟨k, e, hk⟩ | hq
  · exact hAB q (hD.2 k _ hk)
  · exact hAB q (hA q (Nat.le_trans hS.1 hq))
theorem fb_caE {E N : String} {A : Nat → Prop} {U : State} {H : Heap} (he : E = N) (h : fb_Nw (.castable N N) A U H) {a : Array Value} : (Cond.castable E N).before a U = true := by
  rw [he]; exact va_Nw.use rfl h
