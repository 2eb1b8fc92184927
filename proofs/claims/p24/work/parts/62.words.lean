/-! The law's start: what its words and its premise give (my own rows). -/
abbrev fs_big : List Cond := flatC (Jvm.Cond.and given_1 narrow_1)
section FS
variable {args : Array Value} {s : State}
theorem fs_eqi {t : Term} {z : Int32} (h : (Cond.eq t (.int z)).before args s = true) : t.eval args s none [] s = some (.int z) := by
  cases hv : t.eval args s none [] s with
  | none => simp [Cond.before, Cond.holds, Cond.value, hv] at h
  | some w =>
    have hz : (Term.int z).eval args s none [] s = some (.int z) := rfl
    simp only [Cond.before, Cond.holds, Cond.value, hv, hz] at h
    cases w <;> simp_all
theorem fs_stA {C n : String} {N : Nat} {f : Nat → Int32} (hN : N < 2 ^ 31) (hl : (Cond.laysStatic C n "[I").before args s = true) (hini : (Cond.initialized C).before args s = true) (harr : (Cond.arrayOf (.static C n "[I") .int).before args s = true) (hlen : (Cond.eq (.length (.static C n "[I")) (.int (Int32.ofNat N))).before args s = true) (hel : ∀ j : Nat, j < N → (Cond.eq (.elem (.static C n "[I") (.int (Int32.ofNat j))) (.int (f j))).before args s = true) : fb_stA C n N f (fun q => s.heap.size ≤ q) s s.heap := by
  have hA : ∀ a : Nat, a < s.heap.size → ¬ (fun q : Nat => s.heap.size ≤ q) a := fun a h => Nat.not_le.mpr h
  obtain ⟨t, ht, hT⟩ := va_Tof (f := fun j => .int (f j)) hN harr (fs_eqi hlen) (fun j hj => fs_eqi (hel j hj)) hA
  exact ⟨t, va_Zof hl hini ht hA, hT⟩
theorem fs_str {k : Nat} {tx : String} (h1 : (Cond.stringRef RX0 k tx).before args s = true) (h2 : (Cond.exactly (.string RX0 k) "java/lang/String").before args s = true) {A : Nat → Prop} {H : Heap} : fb_str RX0 k tx A s H := by
  obtain ⟨a, _, _, _, h, -⟩ := Cond.exactly_spec h2
  exact ⟨a, h1, h⟩
theorem fs_arr {ty : FieldType} (hp : ∀ C, ty ≠ .object C) (h : (Cond.arrayClass ty).before args s = true) : ∃ cA : ClassId, ArrOfT s cA ty ∧ va_RA s cA ty := by
  obtain ⟨c, k, comp, h1, h2, h3⟩ := Cond.arrayClass_spec h
  refine ⟨c, fun n z => ⟨fun k h => (by cases h), k, h2, comp, h3⟩, ?_⟩
  cases ty with
  | object C => exact absurd rfl (hp C)
  | _ => exact h1
end FS
section FW

theorem fs_i0 : Cond.initialized "FiguredBass" ∈ lw_tbl := by decide +kernel
theorem fs_iT : Cond.initialized Bundle.tN ∈ lw_tbl := by decide +kernel
theorem fs_l0 : Cond.laysStatic "FiguredBass" "LOWEST" "[I" ∈ lw_tbl := by decide +kernel
theorem fs_a0 : Cond.arrayOf (.static "FiguredBass" "LOWEST" "[I") .int ∈ fs_big := by decide +kernel
theorem fs_n0 : Cond.eq (.length (.static "FiguredBass" "LOWEST" "[I")) (.int (Int32.ofNat 4)) ∈ fs_big := by decide +kernel
theorem fs_e0 : ∀ j, j < 4 → Cond.eq (.elem (.static "FiguredBass" "LOWEST" "[I") (.int (Int32.ofNat j))) (.int (fb_tX0_LOWEST j)) ∈ fs_big := by decide +kernel
theorem fs_l1 : Cond.laysStatic "FiguredBass" "HIGHEST" "[I" ∈ lw_tbl := by decide +kernel
theorem fs_a1 : Cond.arrayOf (.static "FiguredBass" "HIGHEST" "[I") .int ∈ fs_big := by decide +kernel
theorem fs_n1 : Cond.eq (.length (.static "FiguredBass" "HIGHEST" "[I")) (.int (Int32.ofNat 4)) ∈ fs_big := by decide +kernel
theorem fs_e1 : ∀ j, j < 4 → Cond.eq (.elem (.static "FiguredBass" "HIGHEST" "[I") (.int (Int32.ofNat j))) (.int (fb_tX0_HIGHEST j)) ∈ fs_big := by decide +kernel
theorem fs_l2 : Cond.laysStatic "FiguredBass" "FIGURE_STEPS" "[I" ∈ lw_tbl := by decide +kernel
theorem fs_a2 : Cond.arrayOf (.static "FiguredBass" "FIGURE_STEPS" "[I") .int ∈ fs_big := by decide +kernel
theorem fs_n2 : Cond.eq (.length (.static "FiguredBass" "FIGURE_STEPS" "[I")) (.int (Int32.ofNat 6)) ∈ fs_big := by decide +kernel
theorem fs_e2 : ∀ j, j < 6 → Cond.eq (.elem (.static "FiguredBass" "FIGURE_STEPS" "[I") (.int (Int32.ofNat j))) (.int (fb_tX0_FIGURE_STEPS j)) ∈ fs_big := by decide +kernel
theorem fs_l3 : Cond.laysStatic "FiguredBass" "MAJOR" "[I" ∈ lw_tbl := by decide +kernel
theorem fs_a3 : Cond.arrayOf (.static "FiguredBass" "MAJOR" "[I") .int ∈ fs_big := by decide +kernel
theorem fs_n3 : Cond.eq (.length (.static "FiguredBass" "MAJOR" "[I")) (.int (Int32.ofNat 7)) ∈ fs_big := by decide +kernel
theorem fs_e3 : ∀ j, j < 7 → Cond.eq (.elem (.static "FiguredBass" "MAJOR" "[I") (.int (Int32.ofNat j))) (.int (fb_tX0_MAJOR j)) ∈ fs_big := by decide +kernel
theorem fs_l4 : Cond.laysStatic "FiguredBass" "MINOR" "[I" ∈ lw_tbl := by decide +kernel
theorem fs_a4 : Cond.arrayOf (.static "FiguredBass" "MINOR" "[I") .int ∈ fs_big := by decide +kernel
theorem fs_n4 : Cond.eq (.length (.static "FiguredBass" "MINOR" "[I")) (.int (Int32.ofNat 7)) ∈ fs_big := by decide +kernel
theorem fs_e4 : ∀ j, j < 7 → Cond.eq (.elem (.static "FiguredBass" "MINOR" "[I") (.int (Int32.ofNat j))) (.int (fb_tX0_MINOR j)) ∈ fs_big := by decide +kernel
theorem fs_u1 : Cond.laysStatic Bundle.tN "UNASSIGNED_STACK" Bundle.steD ∈ lw_tbl := by decide +kernel
theorem fs_u1r : Cond.isRef (.static Bundle.tN "UNASSIGNED_STACK" Bundle.steD) ∈ fs_big := by decide +kernel
theorem fs_u2 : Cond.laysStatic Bundle.tN "SUPPRESSED_SENTINEL" Bundle.listD ∈ lw_tbl := by decide +kernel
theorem fs_u2r : Cond.isRef (.static Bundle.tN "SUPPRESSED_SENTINEL" Bundle.listD) ∈ fs_big := by decide +kernel
theorem fs_d0 : Cond.declares (Bundle.initS "java/lang/RuntimeException") ∈ lw_tbl := by decide +kernel
theorem fs_d1 : Cond.declares (Bundle.initS "java/lang/Exception") ∈ lw_tbl := by decide +kernel
theorem fs_d2 : Cond.declares (Bundle.initS "java/lang/Throwable") ∈ lw_tbl := by decide +kernel
theorem fs_c0 : Cond.castable "java/lang/IllegalArgumentException" "java/lang/IllegalArgumentException" ∈ lw_tbl := by decide +kernel
theorem fs_c1 : Cond.castable "java/lang/IllegalStateException" "java/lang/IllegalStateException" ∈ lw_tbl := by decide +kernel
theorem fs_c2 : Cond.castable "java/lang/IndexOutOfBoundsException" "java/lang/IndexOutOfBoundsException" ∈ lw_tbl := by decide +kernel
theorem fs_s36 : Cond.stringRef RX0 36 "the bass is not 0 to 13" ∈ lw_tbl := by decide +kernel
theorem fs_x36 : Cond.exactly (.string RX0 36) "java/lang/String" ∈ fs_big := by decide +kernel
theorem fs_s45 : Cond.stringRef RX0 45 "the figure is not 0 to 5" ∈ lw_tbl := by decide +kernel
theorem fs_x45 : Cond.exactly (.string RX0 45) "java/lang/String" ∈ fs_big := by decide +kernel
theorem fs_s49 : Cond.stringRef RX0 49 "there are 12 chords" ∈ lw_tbl := by decide +kernel
theorem fs_x49 : Cond.exactly (.string RX0 49) "java/lang/String" ∈ fs_big := by decide +kernel
theorem fs_s61 : Cond.stringRef RX0 61 "there is no such chord" ∈ lw_tbl := by decide +kernel
theorem fs_x61 : Cond.exactly (.string RX0 61) "java/lang/String" ∈ fs_big := by decide +kernel
theorem fs_s71 : Cond.stringRef RX0 71 "there is no such chord or upper voice" ∈ lw_tbl := by decide +kernel
theorem fs_x71 : Cond.exactly (.string RX0 71) "java/lang/String" ∈ fs_big := by decide +kernel
theorem fs_s73 : Cond.stringRef RX0 73 "the note is none of this voice" ∈ lw_tbl := by decide +kernel
theorem fs_x73 : Cond.exactly (.string RX0 73) "java/lang/String" ∈ fs_big := by decide +kernel
theorem fs_s80 : Cond.stringRef RX0 80 "the fault is not 0 to 7" ∈ lw_tbl := by decide +kernel
theorem fs_x80 : Cond.exactly (.string RX0 80) "java/lang/String" ∈ fs_big := by decide +kernel
theorem fs_s82 : Cond.stringRef RX0 82 "the weight is not 0 to 9" ∈ lw_tbl := by decide +kernel
theorem fs_x82 : Cond.exactly (.string RX0 82) "java/lang/String" ∈ fs_big := by decide +kernel
theorem fs_s88 : Cond.stringRef RX0 88 "there are no notes by which the chord is right" ∈ lw_tbl := by decide +kernel
theorem fs_x88 : Cond.exactly (.string RX0 88) "java/lang/String" ∈ fs_big := by decide +kernel
theorem fs_s97 : Cond.stringRef RX0 97 "there is no such chord or voice" ∈ lw_tbl := by decide +kernel
theorem fs_x97 : Cond.exactly (.string RX0 97) "java/lang/String" ∈ fs_big := by decide +kernel
theorem fs_s103 : Cond.stringRef RX0 103 "there is no such chord, or what is not 0 to 5" ∈ lw_tbl := by decide +kernel
theorem fs_x103 : Cond.exactly (.string RX0 103) "java/lang/String" ∈ fs_big := by decide +kernel
theorem fs_s108 : Cond.stringRef RX0 108 "there is no such chord, or the fault is not 0 to 7" ∈ lw_tbl := by decide +kernel
theorem fs_x108 : Cond.exactly (.string RX0 108) "java/lang/String" ∈ fs_big := by decide +kernel
theorem fs_s113 : Cond.stringRef RX0 113 "what is not 0 to 6" ∈ lw_tbl := by decide +kernel
theorem fs_x113 : Cond.exactly (.string RX0 113) "java/lang/String" ∈ fs_big := by decide +kernel
theorem fs_s121 : Cond.stringRef RX0 121 "the note is not 0 to 27" ∈ lw_tbl := by decide +kernel
theorem fs_x121 : Cond.exactly (.string RX0 121) "java/lang/String" ∈ fs_big := by decide +kernel
theorem fs_ao : Cond.arrayOver (.array .int) ∈ lw_tbl := by decide +kernel
theorem fs_ai : Cond.arrayClass .int ∈ lw_tbl := by decide +kernel
theorem fs_in0 : Cond.instantiable RX0 6 ∈ lw_tbl := by decide +kernel
variable {args : Array Value} {s : State}
theorem fs_X0 (ht : ∀ w ∈ lw_tbl, w.before args s = true) (hg : ∀ w ∈ fs_big, w.before args s = true) : fb_sX0 (fun q => s.heap.size ≤ q) s s.heap := ⟨fs_stA (by decide) (ht _ fs_l0) (ht _ fs_i0) (hg _ fs_a0) (hg _ fs_n0) (fun j hj => hg _ (fs_e0 j hj)), fs_stA (by decide) (ht _ fs_l1) (ht _ fs_i0) (hg _ fs_a1) (hg _ fs_n1) (fun j hj => hg _ (fs_e1 j hj)), fs_stA (by decide) (ht _ fs_l2) (ht _ fs_i0) (hg _ fs_a2) (hg _ fs_n2) (fun j hj => hg _ (fs_e2 j hj)), fs_stA (by decide) (ht _ fs_l3) (ht _ fs_i0) (hg _ fs_a3) (hg _ fs_n3) (fun j hj => hg _ (fs_e3 j hj)), fs_stA (by decide) (ht _ fs_l4) (ht _ fs_i0) (hg _ fs_a4) (hg _ fs_n4) (fun j hj => hg _ (fs_e4 j hj))⟩
theorem fs_E (ht : ∀ w ∈ lw_tbl, w.before args s = true) (hg : ∀ w ∈ fs_big, w.before args s = true) : fb_sE (fun q => s.heap.size ≤ q) s s.heap := by
  have hA : ∀ a : Nat, a < s.heap.size → ¬ (fun q : Nat => s.heap.size ≤ q) a := fun a h => Nat.not_le.mpr h
  exact ⟨vx_Zqof (ht _ fs_u1) (ht _ fs_iT) (hg _ fs_u1r) hA, vx_Zqof (ht _ fs_u2) (ht _ fs_iT) (hg _ fs_u2r) hA, va_Nw.of rfl (ht _ fs_d0), va_Nw.of rfl (ht _ fs_d1), va_Nw.of rfl (ht _ fs_d2), va_Nw.of rfl (ht _ fs_c0), va_Nw.of rfl (ht _ fs_c1), va_Nw.of rfl (ht _ fs_c2), fs_str (ht _ fs_s36) (hg _ fs_x36), fs_str (ht _ fs_s45) (hg _ fs_x45), fs_str (ht _ fs_s49) (hg _ fs_x49), fs_str (ht _ fs_s61) (hg _ fs_x61), fs_str (ht _ fs_s71) (hg _ fs_x71), fs_str (ht _ fs_s73) (hg _ fs_x73), fs_str (ht _ fs_s80) (hg _ fs_x80), fs_str (ht _ fs_s82) (hg _ fs_x82), fs_str (ht _ fs_s88) (hg _ fs_x88), fs_str (ht _ fs_s97) (hg _ fs_x97), fs_str (ht _ fs_s103) (hg _ fs_x103), fs_str (ht _ fs_s108) (hg _ fs_x108), fs_str (ht _ fs_s113) (hg _ fs_x113), fs_str (ht _ fs_s121) (hg _ fs_x121)⟩
end FW
