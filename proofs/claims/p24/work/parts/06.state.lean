/-! what a state of the class and of the reference is: the cells of each, by the numbers that they hold; their static arrays -/
abbrev fb_tX0_LOWEST : Nat → Int32 := fb_tab [0, 5, 8, 12]
abbrev fb_tX0_HIGHEST : Nat → Int32 := fb_tab [13, 14, 18, 22]
abbrev fb_tX0_FIGURE_STEPS : Nat → Int32 := fb_tab [21, 37, 41, 85, 25, 53]
abbrev fb_tX0_MAJOR : Nat → Int32 := fb_tab [0, 2, 4, 5, 7, 9, 11]
abbrev fb_tX0_MINOR : Nat → Int32 := fb_tab [0, 2, 3, 5, 7, 8, 11]
abbrev fb_wX0 (cI : ClassId) (h0 qf qn qw ql : Nat) (sz : Int32) (mi : Int32) (fg : Nat → Int32) (nt : Nat → Int32) (wt : Nat → Int32) (wl : Nat → Int32) : va_W := [(h0, .inr (0, [.int sz, .int mi, .ref qf, .ref qn, .ref qw, .ref ql])), (qf, .inl (cI, 12, .inl fg)), (qn, .inl (cI, 48, .inl nt)), (qw, .inl (cI, 8, .inl wt)), (ql, .inl (cI, 96, .inl wl))]
def fb_qX0i (D : va_G) (cI : ClassId) (h0 : Nat) (sz : Int32) (mi : Int32) (fg : Nat → Int32) (nt : Nat → Int32) (wt : Nat → Int32) (wl : Nat → Int32) (A : Nat → Prop) : Array Value → State → Outcome → State → Prop := fun _ st oc t => (∃ qf qn qw ql : Nat, oc = .returned none ∧ va_P D vwCl (fb_wX0 cI h0 qf qn qw ql sz mi fg nt wt wl) t.heap ∧ va_D A (fb_wX0 cI h0 qf qn qw ql sz mi fg nt wt wl)) ∧ va_F A st t
def fb_sX0 : (Nat → Prop) → State → Heap → Prop := fun A U H => fb_stA "FiguredBass" "LOWEST" 4 fb_tX0_LOWEST A U H ∧ fb_stA "FiguredBass" "HIGHEST" 4 fb_tX0_HIGHEST A U H ∧ fb_stA "FiguredBass" "FIGURE_STEPS" 6 fb_tX0_FIGURE_STEPS A U H ∧ fb_stA "FiguredBass" "MAJOR" 7 fb_tX0_MAJOR A U H ∧ fb_stA "FiguredBass" "MINOR" 7 fb_tX0_MINOR A U H
theorem fb_sX0p : fb_SP fb_sX0 := fb_SP_and (fb_SP_stA _ _ _ _) (fb_SP_and (fb_SP_stA _ _ _ _) (fb_SP_and (fb_SP_stA _ _ _ _) (fb_SP_and (fb_SP_stA _ _ _ _) (fb_SP_stA _ _ _ _))))
abbrev fb_tX1_LOW : Nat → Int32 := fb_tab [0, 5, 8, 12]
abbrev fb_tX1_HIGH : Nat → Int32 := fb_tab [13, 14, 18, 22]
abbrev fb_tX1_STEPS : Nat → Int32 := fb_tab [20, 36, 40, 84, 24, 52]
abbrev fb_tX1_MAJOR : Nat → Int32 := fb_tab [0, 2, 4, 5, 7, 9, 11]
abbrev fb_tX1_MINOR : Nat → Int32 := fb_tab [0, 2, 3, 5, 7, 8, 11]
/-- what the class and the reference ask of the statics, and what a throw asks -/
def fb_sE : (Nat → Prop) → State → Heap → Prop := fun A U H => vx_Zq Bundle.tN "UNASSIGNED_STACK" Bundle.steD A U H ∧ vx_Zq Bundle.tN "SUPPRESSED_SENTINEL" Bundle.listD A U H ∧ fb_Nw (.declares (Bundle.initS "java/lang/RuntimeException")) A U H ∧ fb_Nw (.declares (Bundle.initS "java/lang/Exception")) A U H ∧ fb_Nw (.declares (Bundle.initS "java/lang/Throwable")) A U H ∧ fb_Nw (.castable "java/lang/IllegalArgumentException" "java/lang/IllegalArgumentException") A U H ∧ fb_Nw (.castable "java/lang/IllegalStateException" "java/lang/IllegalStateException") A U H ∧ fb_Nw (.castable "java/lang/IndexOutOfBoundsException" "java/lang/IndexOutOfBoundsException") A U H ∧ fb_str RX0 36 "the bass is not 0 to 13" A U H ∧ fb_str RX0 45 "the figure is not 0 to 5" A U H ∧ fb_str RX0 49 "there are 12 chords" A U H ∧ fb_str RX0 61 "there is no such chord" A U H ∧ fb_str RX0 71 "there is no such chord or upper voice" A U H ∧ fb_str RX0 73 "the note is none of this voice" A U H ∧ fb_str RX0 80 "the fault is not 0 to 7" A U H ∧ fb_str RX0 82 "the weight is not 0 to 9" A U H ∧ fb_str RX0 88 "there are no notes by which the chord is right" A U H ∧ fb_str RX0 97 "there is no such chord or voice" A U H ∧ fb_str RX0 103 "there is no such chord, or what is not 0 to 5" A U H ∧ fb_str RX0 108 "there is no such chord, or the fault is not 0 to 7" A U H ∧ fb_str RX0 113 "what is not 0 to 6" A U H ∧ fb_str RX0 121 "the note is not 0 to 27" A U H
theorem fb_sEp : fb_SP fb_sE := fb_SP_and (fb_SP_Zq _ _ _) (fb_SP_and (fb_SP_Zq _ _ _) (fb_SP_and (fb_SP_D _) (fb_SP_and (fb_SP_D _) (fb_SP_and (fb_SP_D _) (fb_SP_and (fb_SP_C _ _) (fb_SP_and (fb_SP_C _ _) (fb_SP_and (fb_SP_C _ _) (fb_SP_and (fb_SP_str _ _ _) (fb_SP_and (fb_SP_str _ _ _) (fb_SP_and (fb_SP_str _ _ _) (fb_SP_and (fb_SP_str _ _ _) (fb_SP_and (fb_SP_str _ _ _) (fb_SP_and (fb_SP_str _ _ _) (fb_SP_and (fb_SP_str _ _ _) (fb_SP_and (fb_SP_str _ _ _) (fb_SP_and (fb_SP_str _ _ _) (fb_SP_and (fb_SP_str _ _ _) (fb_SP_and (fb_SP_str _ _ _) (fb_SP_and (fb_SP_str _ _ _) (fb_SP_and (fb_SP_str _ _ _) (fb_SP_str _ _ _)))))))))))))))))))))
def fb_sXT : (Nat → Prop) → State → Heap → Prop := fun A U H => fb_sX0 A U H ∧ fb_sE A U H
theorem fb_sXTp : fb_SP fb_sXT := fb_SP_and fb_sX0p fb_sEp
section FBS
variable {A : Nat → Prop} {U : State} {H : Heap}
theorem fb_u1 (h : fb_sXT A U H) : vx_Zq Bundle.tN "UNASSIGNED_STACK" Bundle.steD A U H := h.2.1
theorem fb_u2 (h : fb_sXT A U H) : vx_Zq Bundle.tN "SUPPRESSED_SENTINEL" Bundle.listD A U H := h.2.2.1
theorem fb_ca_IllegalArgumentException (h : fb_sXT A U H) {a : Array Value} : (Cond.castable "java/lang/IllegalArgumentException" "java/lang/IllegalArgumentException").before a U = true := va_Nw.use rfl h.2.2.2.2.2.2.1
theorem fb_ca_IllegalStateException (h : fb_sXT A U H) {a : Array Value} : (Cond.castable "java/lang/IllegalStateException" "java/lang/IllegalStateException").before a U = true := va_Nw.use rfl h.2.2.2.2.2.2.2.1
theorem fb_ca_IndexOutOfBoundsException (h : fb_sXT A U H) {a : Array Value} : (Cond.castable "java/lang/IndexOutOfBoundsException" "java/lang/IndexOutOfBoundsException").before a U = true := va_Nw.use rfl h.2.2.2.2.2.2.2.2.1
theorem fb_str36 (h : fb_sXT A U H) : ∃ a : Nat, vk_R RX0 36 "the bass is not 0 to 13" a U := h.2.2.2.2.2.2.2.2.2.1
theorem fb_str45 (h : fb_sXT A U H) : ∃ a : Nat, vk_R RX0 45 "the figure is not 0 to 5" a U := h.2.2.2.2.2.2.2.2.2.2.1
theorem fb_str49 (h : fb_sXT A U H) : ∃ a : Nat, vk_R RX0 49 "there are 12 chords" a U := h.2.2.2.2.2.2.2.2.2.2.2.1
theorem fb_str61 (h : fb_sXT A U H) : ∃ a : Nat, vk_R RX0 61 "there is no such chord" a U := h.2.2.2.2.2.2.2.2.2.2.2.2.1
theorem fb_str71 (h : fb_sXT A U H) : ∃ a : Nat, vk_R RX0 71 "there is no such chord or upper voice" a U := h.2.2.2.2.2.2.2.2.2.2.2.2.2.1
theorem fb_str73 (h : fb_sXT A U H) : ∃ a : Nat, vk_R RX0 73 "the note is none of this voice" a U := h.2.2.2.2.2.2.2.2.2.2.2.2.2.2.1
theorem fb_str80 (h : fb_sXT A U H) : ∃ a : Nat, vk_R RX0 80 "the fault is not 0 to 7" a U := h.2.2.2.2.2.2.2.2.2.2.2.2.2.2.2.1
theorem fb_str82 (h : fb_sXT A U H) : ∃ a : Nat, vk_R RX0 82 "the weight is not 0 to 9" a U := h.2.2.2.2.2.2.2.2.2.2.2.2.2.2.2.2.1
theorem fb_str88 (h : fb_sXT A U H) : ∃ a : Nat, vk_R RX0 88 "there are no notes by which the chord is right" a U := h.2.2.2.2.2.2.2.2.2.2.2.2.2.2.2.2.2.1
theorem fb_str97 (h : fb_sXT A U H) : ∃ a : Nat, vk_R RX0 97 "there is no such chord or voice" a U := h.2.2.2.2.2.2.2.2.2.2.2.2.2.2.2.2.2.2.1
theorem fb_str103 (h : fb_sXT A U H) : ∃ a : Nat, vk_R RX0 103 "there is no such chord, or what is not 0 to 5" a U := h.2.2.2.2.2.2.2.2.2.2.2.2.2.2.2.2.2.2.2.1
theorem fb_str108 (h : fb_sXT A U H) : ∃ a : Nat, vk_R RX0 108 "there is no such chord, or the fault is not 0 to 7" a U := h.2.2.2.2.2.2.2.2.2.2.2.2.2.2.2.2.2.2.2.2.1
theorem fb_str113 (h : fb_sXT A U H) : ∃ a : Nat, vk_R RX0 113 "what is not 0 to 6" a U := h.2.2.2.2.2.2.2.2.2.2.2.2.2.2.2.2.2.2.2.2.2.1
theorem fb_str121 (h : fb_sXT A U H) : ∃ a : Nat, vk_R RX0 121 "the note is not 0 to 27" a U := h.2.2.2.2.2.2.2.2.2.2.2.2.2.2.2.2.2.2.2.2.2.2
def fb_bad (X : String) : List Cond := [.castable X X, .declares (Bundle.initS "java/lang/RuntimeException"), .declares (Bundle.initS "java/lang/Exception"), .declares (Bundle.initS "java/lang/Throwable")]
theorem fb_badok_IllegalArgumentException (h : fb_sXT A U H) {a : Array Value} : ∀ w ∈ fb_bad "java/lang/IllegalArgumentException", w.before a U = true := vx_c (fb_ca_IllegalArgumentException h) (vx_c (va_Nw.use rfl h.2.2.2.1) (vx_c (va_Nw.use rfl h.2.2.2.2.1) (vx_c (va_Nw.use rfl h.2.2.2.2.2.1) vx_n)))
theorem fb_badok_IllegalStateException (h : fb_sXT A U H) {a : Array Value} : ∀ w ∈ fb_bad "java/lang/IllegalStateException", w.before a U = true := vx_c (fb_ca_IllegalStateException h) (vx_c (va_Nw.use rfl h.2.2.2.1) (vx_c (va_Nw.use rfl h.2.2.2.2.1) (vx_c (va_Nw.use rfl h.2.2.2.2.2.1) vx_n)))
theorem fb_badok_IndexOutOfBoundsException (h : fb_sXT A U H) {a : Array Value} : ∀ w ∈ fb_bad "java/lang/IndexOutOfBoundsException", w.before a U = true := vx_c (fb_ca_IndexOutOfBoundsException h) (vx_c (va_Nw.use rfl h.2.2.2.1) (vx_c (va_Nw.use rfl h.2.2.2.2.1) (vx_c (va_Nw.use rfl h.2.2.2.2.2.1) vx_n)))
end FBS
