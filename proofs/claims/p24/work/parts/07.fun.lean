/-! What each method computes, printed by wip/whole/gen.py out of the bytecode. -/
def lpX0_init_48 : Nat → (Int32) → (Nat → Int32) → Option (Int32 × (Nat → Int32))
  | 0, _, _ => none
  | n + 1, v6, f7 =>
    if 8 ≤ v6 then
    some (v6, f7)
  else
    fb_ck (fb_ix v6 8) (
    lpX0_init_48 n (v6 + 1) (upd f7 v6.toNatClampNeg 2))
def fX0_init  : Option (Int32 × Int32 × (Nat → Int32) × (Nat → Int32) × (Nat → Int32) × (Nat → Int32)) :=
  fb_b2 (lpX0_init_48 14 0 (fun _ => 0)) (fun o10 o11 =>
  some (0, 0, (fun _ => 0), (fun _ => 0), o11, (fun _ => 0)))
def fX0_isNoteOf (a1 : Int32) (a2 : Int32) : Option (Int32) :=
  fb_ck (fb_ix a1 4) (
  if a2 < (fb_tX0_LOWEST a1.toNatClampNeg) then
    some 0
  else
    if (fb_tX0_HIGHEST a1.toNatClampNeg) < a2 then
      some 0
    else
      some 1)
def fX0_isFigure (a1 : Int32) : Option (Int32) :=
  if a1 < 0 then
    some 0
  else
    if 6 ≤ a1 then
      some 0
    else
      some 1
def fX0_putNotes (sz : Int32) (mi : Int32) (fg : Nat → Int32) (nt : Nat → Int32) (wt : Nat → Int32) (wl : Nat → Int32) (a1 : Int32) (a2 : Int32) (a3 : Int32) (a4 : Int32) : Option ((Nat → Int32)) :=
  fb_ck (fb_ix ((a1 * 4) + 1) 48) (
  fb_ck (fb_ix ((a1 * 4) + 2) 48) (
  fb_ck (fb_ix ((a1 * 4) + 3) 48) (
  some (upd (upd (upd nt ((a1 * 4) + 1).toNatClampNeg a2) ((a1 * 4) + 2).toNatClampNeg a3) ((a1 * 4) + 3).toNatClampNeg a4))))
def fX0_chord (sz : Int32) (mi : Int32) (fg : Nat → Int32) (nt : Nat → Int32) (wt : Nat → Int32) (wl : Nat → Int32) (a1 : Int32) (a2 : Int32) : Option (Except (String × Int32 × (Nat → Int32) × (Nat → Int32)) (Int32 × Int32 × (Nat → Int32) × (Nat → Int32))) :=
  fb_b1 (fX0_isNoteOf 0 a1) (fun r2 =>
  if r2 = 0 then
    some (.error ("java/lang/IllegalArgumentException", (sz, fg, nt)))
  else
    fb_b1 (fX0_isFigure a2) (fun r5 =>
    if r5 = 0 then
      some (.error ("java/lang/IllegalArgumentException", (sz, fg, nt)))
    else
      if sz < 12 then
        fb_ck (fb_ix sz 12) (
        fb_ck (fb_ix (sz * 4) 48) (
        fb_b1 (fX0_putNotes (sz + 1) mi (upd fg sz.toNatClampNeg a2) (upd nt (sz * 4).toNatClampNeg a1) wt wl sz (-1) (-1) (-1)) (fun nt_11 =>
        some (.ok (sz, sz + 1, upd fg sz.toNatClampNeg a2, nt_11)))))
      else
        some (.error ("java/lang/IllegalStateException", (sz, fg, nt)))))
def fX0_isChord (sz : Int32) (mi : Int32) (fg : Nat → Int32) (nt : Nat → Int32) (wt : Nat → Int32) (wl : Nat → Int32) (a1 : Int32) : Option (Int32) :=
  if a1 < 0 then
    some 0
  else
    if sz ≤ a1 then
      some 0
    else
      some 1
def fX0_exchangeNote (sz : Int32) (mi : Int32) (fg : Nat → Int32) (nt : Nat → Int32) (wt : Nat → Int32) (wl : Nat → Int32) (a1 : Int32) (a2 : Int32) (a3 : Int32) : Option (Int32 × (Nat → Int32)) :=
  fb_ck (fb_ix ((a1 * 4) + a2) 48) (
  some (nt ((a1 * 4) + a2).toNatClampNeg, upd nt ((a1 * 4) + a2).toNatClampNeg a3))
def fX0_setBass (sz : Int32) (mi : Int32) (fg : Nat → Int32) (nt : Nat → Int32) (wt : Nat → Int32) (wl : Nat → Int32) (a1 : Int32) (a2 : Int32) : Option (Except (String × (Nat → Int32)) (Int32 × (Nat → Int32))) :=
  fb_b1 (fX0_isChord sz mi fg nt wt wl a1) (fun r2 =>
  if r2 = 0 then
    some (.error ("java/lang/IndexOutOfBoundsException", nt))
  else
    fb_b1 (fX0_isNoteOf 0 a2) (fun r5 =>
    if r5 = 0 then
      some (.error ("java/lang/IllegalArgumentException", nt))
    else
      fb_b2 (fX0_exchangeNote sz mi fg nt wt wl a1 0 a2) (fun r8 nt_9 =>
      some (.ok (r8, nt_9)))))
def fX0_setFigure (sz : Int32) (mi : Int32) (fg : Nat → Int32) (nt : Nat → Int32) (wt : Nat → Int32) (wl : Nat → Int32) (a1 : Int32) (a2 : Int32) : Option (Except (String × (Nat → Int32)) (Int32 × (Nat → Int32))) :=
  fb_b1 (fX0_isChord sz mi fg nt wt wl a1) (fun r2 =>
  if r2 = 0 then
    some (.error ("java/lang/IndexOutOfBoundsException", fg))
  else
    fb_b1 (fX0_isFigure a2) (fun r5 =>
    if r5 = 0 then
      some (.error ("java/lang/IllegalArgumentException", fg))
    else
      fb_ck (fb_ix a1 12) (
      some (.ok (fg a1.toNatClampNeg, upd fg a1.toNatClampNeg a2)))))
def fX0_isUpperVoice (a1 : Int32) : Option (Int32) :=
  if a1 < 1 then
    some 0
  else
    if 3 < a1 then
      some 0
    else
      some 1
def fX0_put (sz : Int32) (mi : Int32) (fg : Nat → Int32) (nt : Nat → Int32) (wt : Nat → Int32) (wl : Nat → Int32) (a1 : Int32) (a2 : Int32) (a3 : Int32) : Option (Except (String × (Nat → Int32)) (Int32 × (Nat → Int32))) :=
  fb_b1 (fX0_isChord sz mi fg nt wt wl a1) (fun r2 =>
  if r2 = 0 then
    some (.error ("java/lang/IndexOutOfBoundsException", nt))
  else
    fb_b1 (fX0_isUpperVoice a2) (fun r5 =>
    if r5 = 0 then
      some (.error ("java/lang/IndexOutOfBoundsException", nt))
    else
      if a3 = (-1) then
        fb_b2 (fX0_exchangeNote sz mi fg nt wt wl a1 a2 a3) (fun r9 nt_10 =>
        some (.ok (r9, nt_10)))
      else
        fb_b1 (fX0_isNoteOf a2 a3) (fun r13 =>
        if r13 = 0 then
          some (.error ("java/lang/IllegalArgumentException", nt))
        else
          fb_b2 (fX0_exchangeNote sz mi fg nt wt wl a1 a2 a3) (fun r16 nt_17 =>
          some (.ok (r16, nt_17))))))
def fX0_drop (sz : Int32) (mi : Int32) (fg : Nat → Int32) (nt : Nat → Int32) (wt : Nat → Int32) (wl : Nat → Int32) : Option (Except (String × Int32) (Int32 × Int32)) :=
  if 0 < sz then
    some (.ok (sz - 1, sz - 1))
  else
    some (.error ("java/lang/IllegalStateException", sz))
def fX0_setKey (sz : Int32) (mi : Int32) (fg : Nat → Int32) (nt : Nat → Int32) (wt : Nat → Int32) (wl : Nat → Int32) (a1 : Int32) : Option (Int32 × Int32) :=
  fb_ck (fb_z a1) (
  fb_ck (fb_z mi) (some (mi, a1)))
def fX0_isFault (a1 : Int32) : Option (Int32) :=
  if a1 < 0 then
    some 0
  else
    if 8 ≤ a1 then
      some 0
    else
      some 1
def fX0_setWeight (sz : Int32) (mi : Int32) (fg : Nat → Int32) (nt : Nat → Int32) (wt : Nat → Int32) (wl : Nat → Int32) (a1 : Int32) (a2 : Int32) : Option (Except (String × (Nat → Int32)) (Int32 × (Nat → Int32))) :=
  fb_b1 (fX0_isFault a1) (fun r2 =>
  if r2 = 0 then
    some (.error ("java/lang/IndexOutOfBoundsException", wt))
  else
    if a2 < 0 then
      some (.error ("java/lang/IllegalArgumentException", wt))
    else
      if a2 ≤ 9 then
        fb_ck (fb_ix a1 8) (
        some (.ok (wt a1.toNatClampNeg, upd wt a1.toNatClampNeg a2)))
      else
        some (.error ("java/lang/IllegalArgumentException", wt)))
def fX0_noteAt (sz : Int32) (mi : Int32) (fg : Nat → Int32) (nt : Nat → Int32) (wt : Nat → Int32) (wl : Nat → Int32) (a1 : Int32) (a2 : Int32) : Option (Int32) :=
  fb_ck (fb_ix ((a1 * 4) + a2) 48) (
  some (nt ((a1 * 4) + a2).toNatClampNeg))
def fX0_stepAbove (a1 : Int32) (a2 : Int32) : Option (Int32) :=
  if 0 ≤ ((a2 - a1) - (a2 - a1) / 7 * 7) then
    some ((a2 - a1) - (a2 - a1) / 7 * 7)
  else
    some (((a2 - a1) - (a2 - a1) / 7 * 7) + 7)
def fX0_belongs (sz : Int32) (mi : Int32) (fg : Nat → Int32) (nt : Nat → Int32) (wt : Nat → Int32) (wl : Nat → Int32) (a1 : Int32) (a2 : Int32) : Option (Int32) :=
  fb_b1 (fX0_noteAt sz mi fg nt wt wl a1 0) (fun r2 =>
  fb_b1 (fX0_stepAbove r2 a2) (fun r4 =>
  fb_ck (fb_ix a1 12) (
  fb_ck (fb_ix (fg a1.toNatClampNeg) 6) (
  if ((fb_tX0_FIGURE_STEPS (fg a1.toNatClampNeg).toNatClampNeg) &&& ((1 : Int32) <<< (r4 &&& 31))) = 0 then
    some 0
  else
    some 1))))
def fX0_isRightWith (sz : Int32) (mi : Int32) (fg : Nat → Int32) (nt : Nat → Int32) (wt : Nat → Int32) (wl : Nat → Int32) (a1 : Int32) (a2 : Int32) (a3 : Int32) (a4 : Int32) : Option (Int32) :=
  fb_b1 (fX0_noteAt sz mi fg nt wt wl a1 0) (fun r2 =>
  if a2 < r2 then
    some 0
  else
    if a3 < a2 then
      some 0
    else
      if a3 ≤ a4 then
        fb_b1 (fX0_stepAbove r2 a2) (fun r9 =>
        fb_b1 (fX0_stepAbove r2 a3) (fun r11 =>
        fb_b1 (fX0_stepAbove r2 a4) (fun r13 =>
        fb_ck (fb_ix a1 12) (
        fb_ck (fb_ix (fg a1.toNatClampNeg) 6) (
        if ((((1 : Int32) ||| ((1 : Int32) <<< (r9 &&& 31))) ||| ((1 : Int32) <<< (r11 &&& 31))) ||| ((1 : Int32) <<< (r13 &&& 31))) = (fb_tX0_FIGURE_STEPS (fg a1.toNatClampNeg).toNatClampNeg) then
          some 1
        else
          some 0)))))
      else
        some 0)
def lpX0_listSopranos_15 (a1 : Int32) (a2 : Int32) (a3 : Int32) (sz : Int32) (mi : Int32) (fg : Nat → Int32) (nt : Nat → Int32) (wt : Nat → Int32) : Nat → (Int32) → (Int32) → (Nat → Int32) → Option (Int32 × Int32 × (Nat → Int32))
  | 0, _, _, _ => none
  | n + 1, v1, v2, wl_3 =>
    if (fb_tX0_HIGHEST (3 : Int32).toNatClampNeg) < v1 then
    some (v1, v2, wl_3)
  else
    fb_b1 (fX0_isRightWith sz mi fg nt wt wl_3 a1 a2 a3 v1) (fun r6 =>
    fb_b2 (if r6 = 0 then
        some (v2, wl_3)
      else
        if 96 ≤ v2 then
          some (v2, wl_3)
        else
          fb_ck (fb_ix v2 96) (
          some (v2 + 1, upd wl_3 v2.toNatClampNeg (((a2 * 784) + (a3 * 28)) + v1)))) (fun (j10 : Int32) (wl_11 : Nat → Int32) =>
    lpX0_listSopranos_15 a1 a2 a3 sz mi fg nt wt n (v1 + 1) j10 wl_11))
def fX0_listSopranos (sz : Int32) (mi : Int32) (fg : Nat → Int32) (nt : Nat → Int32) (wt : Nat → Int32) (wl : Nat → Int32) (a1 : Int32) (a2 : Int32) (a3 : Int32) (a4 : Int32) : Option (Int32 × (Nat → Int32)) :=
  fb_b3 (lpX0_listSopranos_15 a1 a2 a3 sz mi fg nt wt 14 (if a3 < (fb_tX0_LOWEST (3 : Int32).toNatClampNeg) then (fb_tX0_LOWEST (3 : Int32).toNatClampNeg) else a3) a4 wl) (fun o12 o13 o14 =>
  some (o13, o14))
def lpX0_listWays_37 (a1 : Int32) (sz : Int32) (mi : Int32) (fg : Nat → Int32) (nt : Nat → Int32) (wt : Nat → Int32) (v1 : Int32) : Nat → (Int32) → (Int32) → (Nat → Int32) → Option (Int32 × Int32 × (Nat → Int32))
  | 0, _, _, _ => none
  | n + 1, v8, v9, wl_10 =>
    if (fb_tX0_HIGHEST (2 : Int32).toNatClampNeg) < v8 then
    some (v8, v9, wl_10)
  else
    fb_b1 (fX0_belongs sz mi fg nt wt wl_10 a1 v8) (fun r13 =>
    fb_b2 (if r13 = 0 then
        some (v9, wl_10)
      else
        fb_b2 (fX0_listSopranos sz mi fg nt wt wl_10 a1 v1 v8 v9) (fun r16 wl_17 =>
        some (r16, wl_17))) (fun (j18 : Int32) (wl_19 : Nat → Int32) =>
    lpX0_listWays_37 a1 sz mi fg nt wt v1 n (v8 + 1) j18 wl_19))
def lpX0_listWays_8 (a1 : Int32) (sz : Int32) (mi : Int32) (fg : Nat → Int32) (nt : Nat → Int32) (wt : Nat → Int32) : Nat → (Int32) → (Int32) → (Nat → Int32) → Option (Int32 × Int32 × (Nat → Int32))
  | 0, _, _, _ => none
  | n + 1, v1, v2, wl_3 =>
    if (fb_tX0_HIGHEST (1 : Int32).toNatClampNeg) < v1 then
    some (v1, v2, wl_3)
  else
    fb_b1 (fX0_belongs sz mi fg nt wt wl_3 a1 v1) (fun r6 =>
    fb_b2 (if r6 = 0 then
        some (v2, wl_3)
      else
        fb_b3 (lpX0_listWays_37 a1 sz mi fg nt wt v1 14 (if v1 < (fb_tX0_LOWEST (2 : Int32).toNatClampNeg) then (fb_tX0_LOWEST (2 : Int32).toNatClampNeg) else v1) v2 wl_3) (fun o20 o21 o22 =>
        some (o21, o22))) (fun (j24 : Int32) (wl_25 : Nat → Int32) =>
    lpX0_listWays_8 a1 sz mi fg nt wt n (v1 + 1) j24 wl_25))
def fX0_listWays (sz : Int32) (mi : Int32) (fg : Nat → Int32) (nt : Nat → Int32) (wt : Nat → Int32) (wl : Nat → Int32) (a1 : Int32) : Option (Int32 × (Nat → Int32)) :=
  fb_b3 (lpX0_listWays_8 a1 sz mi fg nt wt 14 (fb_tX0_LOWEST (1 : Int32).toNatClampNeg) 0 wl) (fun o26 o27 o28 =>
  some (o27, o28))
def fX0_putWay (sz : Int32) (mi : Int32) (fg : Nat → Int32) (nt : Nat → Int32) (wt : Nat → Int32) (wl : Nat → Int32) (a1 : Int32) (a2 : Int32) : Option ((Nat → Int32)) :=
  fb_b1 (fX0_putNotes sz mi fg nt wt wl a1 (a2 / 784) ((a2 / 28) - (a2 / 28) / 28 * 28) (a2 - a2 / 28 * 28)) (fun nt_2 =>
  some nt_2)
def fX0_isSet (sz : Int32) (mi : Int32) (fg : Nat → Int32) (nt : Nat → Int32) (wt : Nat → Int32) (wl : Nat → Int32) (a1 : Int32) : Option (Int32) :=
  fb_b1 (fX0_isChord sz mi fg nt wt wl a1) (fun r2 =>
  if r2 = 0 then
    some 0
  else
    fb_b1 (fX0_noteAt sz mi fg nt wt wl a1 1) (fun r6 =>
    if r6 = (-1) then
      some 0
    else
      fb_b1 (fX0_noteAt sz mi fg nt wt wl a1 2) (fun r10 =>
      if r10 = (-1) then
        some 0
      else
        fb_b1 (fX0_noteAt sz mi fg nt wt wl a1 3) (fun r14 =>
        if r14 = (-1) then
          some 0
        else
          some 1))))
def fX0_isRight (sz : Int32) (mi : Int32) (fg : Nat → Int32) (nt : Nat → Int32) (wt : Nat → Int32) (wl : Nat → Int32) (a1 : Int32) : Option (Int32) :=
  fb_b1 (fX0_isSet sz mi fg nt wt wl a1) (fun r2 =>
  if r2 = 0 then
    some 0
  else
    fb_b1 (fX0_noteAt sz mi fg nt wt wl a1 1) (fun r6 =>
    fb_b1 (fX0_noteAt sz mi fg nt wt wl a1 2) (fun r8 =>
    fb_b1 (fX0_noteAt sz mi fg nt wt wl a1 3) (fun r10 =>
    fb_b1 (fX0_isRightWith sz mi fg nt wt wl a1 r6 r8 r10) (fun r12 =>
    if r12 = 0 then
      some 0
    else
      some 1)))))
def fX0_follows (sz : Int32) (mi : Int32) (fg : Nat → Int32) (nt : Nat → Int32) (wt : Nat → Int32) (wl : Nat → Int32) (a1 : Int32) : Option (Int32) :=
  fb_b1 (fX0_isSet sz mi fg nt wt wl a1) (fun r2 =>
  if r2 = 0 then
    some 0
  else
    fb_b1 (fX0_isSet sz mi fg nt wt wl (a1 - 1)) (fun r6 =>
    if r6 = 0 then
      some 0
    else
      some 1))
def lpX0_stepsGone_14 (a1 : Int32) (sz : Int32) (mi : Int32) (fg : Nat → Int32) (nt : Nat → Int32) (wt : Nat → Int32) (wl : Nat → Int32) : Nat → (Int32) → (Int32) → Option (Int32 × Int32)
  | 0, _, _ => none
  | n + 1, v4, v5 =>
    if 3 < v4 then
    some (v4, v5)
  else
    fb_b1 (fX0_noteAt sz mi fg nt wt wl a1 v4) (fun r8 =>
    fb_b1 (fX0_noteAt sz mi fg nt wt wl (a1 - 1) v4) (fun r10 =>
    lpX0_stepsGone_14 a1 sz mi fg nt wt wl n (v4 + 1) (v5 + (if 0 ≤ (r8 - r10) then (r8 - r10) else 0 - (r8 - r10)))))
def fX0_stepsGone (sz : Int32) (mi : Int32) (fg : Nat → Int32) (nt : Nat → Int32) (wt : Nat → Int32) (wl : Nat → Int32) (a1 : Int32) : Option (Int32) :=
  fb_b1 (fX0_follows sz mi fg nt wt wl a1) (fun r2 =>
  if r2 = 0 then
    some 0
  else
    fb_b2 (lpX0_stepsGone_14 a1 sz mi fg nt wt wl 14 1 0) (fun o11 o12 =>
    some o12))
def fX0_moves (sz : Int32) (mi : Int32) (fg : Nat → Int32) (nt : Nat → Int32) (wt : Nat → Int32) (wl : Nat → Int32) (a1 : Int32) (a2 : Int32) : Option (Int32) :=
  fb_b1 (fX0_noteAt sz mi fg nt wt wl a1 a2) (fun r2 =>
  fb_b1 (fX0_noteAt sz mi fg nt wt wl (a1 - 1) a2) (fun r4 =>
  if r2 = r4 then
    some 0
  else
    some 1))
def fX0_pitchOf (sz : Int32) (mi : Int32) (fg : Nat → Int32) (nt : Nat → Int32) (wt : Nat → Int32) (wl : Nat → Int32) (a1 : Int32) : Option (Int32) :=
  fb_b1 (if mi = 0 then
      fb_ck (fb_ix (a1 - a1 / 7 * 7) 7) (
      some (fb_tX0_MAJOR (a1 - a1 / 7 * 7).toNatClampNeg))
    else
      fb_ck (fb_ix (a1 - a1 / 7 * 7) 7) (
      some (fb_tX0_MINOR (a1 - a1 / 7 * 7).toNatClampNeg))) (fun (j4 : Int32) =>
  some (((12 : Int32) * (a1 / 7)) + j4))
def fX0_isInterval (sz : Int32) (mi : Int32) (fg : Nat → Int32) (nt : Nat → Int32) (wt : Nat → Int32) (wl : Nat → Int32) (a1 : Int32) (a2 : Int32) (a3 : Int32) (a4 : Int32) : Option (Int32) :=
  fb_b1 (fX0_noteAt sz mi fg nt wt wl a1 a3) (fun r2 =>
  fb_b1 (fX0_pitchOf sz mi fg nt wt wl r2) (fun r4 =>
  fb_b1 (fX0_noteAt sz mi fg nt wt wl a1 a2) (fun r6 =>
  fb_b1 (fX0_pitchOf sz mi fg nt wt wl r6) (fun r8 =>
  if ((r4 - r8) - (r4 - r8) / 12 * 12) = a4 then
    some 1
  else
    some 0))))
def lpX0_parallels_17 (a1 : Int32) (a2 : Int32) (sz : Int32) (mi : Int32) (fg : Nat → Int32) (nt : Nat → Int32) (wt : Nat → Int32) (wl : Nat → Int32) (v1 : Int32) : Nat → (Int32) → (Int32) → Option (Int32 × Int32)
  | 0, _, _ => none
  | n + 1, v4, v5 =>
    if 3 < v4 then
    some (v4, v5)
  else
    fb_b1 (fX0_moves sz mi fg nt wt wl a1 v1) (fun r8 =>
    fb_b1 (if r8 = 0 then
        some v5
      else
        fb_b1 (fX0_moves sz mi fg nt wt wl a1 v4) (fun r11 =>
        if r11 = 0 then
          some v5
        else
          fb_b1 (fX0_isInterval sz mi fg nt wt wl a1 v1 v4 a2) (fun r14 =>
          if r14 = 0 then
            some v5
          else
            fb_b1 (fX0_isInterval sz mi fg nt wt wl (a1 - 1) v1 v4 a2) (fun r17 =>
            if r17 = 0 then
              some v5
            else
              some (v5 + 1))))) (fun (j19 : Int32) =>
    lpX0_parallels_17 a1 a2 sz mi fg nt wt wl v1 n (v4 + 1) j19))
def lpX0_parallels_5 (a1 : Int32) (a2 : Int32) (sz : Int32) (mi : Int32) (fg : Nat → Int32) (nt : Nat → Int32) (wt : Nat → Int32) (wl : Nat → Int32) : Nat → (Int32) → (Int32) → Option (Int32 × Int32)
  | 0, _, _ => none
  | n + 1, v1, v2 =>
    if 3 ≤ v1 then
    some (v1, v2)
  else
    fb_b2 (lpX0_parallels_17 a1 a2 sz mi fg nt wt wl v1 14 (v1 + 1) v2) (fun o20 o21 =>
    lpX0_parallels_5 a1 a2 sz mi fg nt wt wl n (v1 + 1) o21)
def fX0_parallels (sz : Int32) (mi : Int32) (fg : Nat → Int32) (nt : Nat → Int32) (wt : Nat → Int32) (wl : Nat → Int32) (a1 : Int32) (a2 : Int32) : Option (Int32) :=
  fb_b2 (lpX0_parallels_5 a1 a2 sz mi fg nt wt wl 14 0 0) (fun o23 o24 =>
  some o24)
def fX0_isHidden (sz : Int32) (mi : Int32) (fg : Nat → Int32) (nt : Nat → Int32) (wt : Nat → Int32) (wl : Nat → Int32) (a1 : Int32) : Option (Int32) :=
  fb_b1 (fX0_noteAt sz mi fg nt wt wl a1 0) (fun r2 =>
  fb_b1 (fX0_noteAt sz mi fg nt wt wl (a1 - 1) 0) (fun r4 =>
  fb_b1 (fX0_noteAt sz mi fg nt wt wl a1 3) (fun r6 =>
  fb_b1 (fX0_noteAt sz mi fg nt wt wl (a1 - 1) 3) (fun r8 =>
  fb_b1 (if (r2 - r4) ≤ 0 then
      some 0
    else
      if (r6 - r8) < 2 then
        some 0
      else
        some 1) (fun (j11 : Int32) =>
  fb_b1 (if 0 ≤ (r2 - r4) then
      some 0
    else
      if (-2) < (r6 - r8) then
        some 0
      else
        some 1) (fun (j14 : Int32) =>
  if j11 = 0 then
    if j14 = 0 then
      some 0
    else
      fb_b1 (fX0_isInterval sz mi fg nt wt wl a1 0 3 7) (fun r27 =>
      if r27 = 0 then
        fb_b1 (fX0_isInterval sz mi fg nt wt wl a1 0 3 0) (fun r31 =>
        if r31 = 0 then
          some 0
        else
          some 1)
      else
        some 1)
  else
    fb_b1 (fX0_isInterval sz mi fg nt wt wl a1 0 3 7) (fun r17 =>
    if r17 = 0 then
      fb_b1 (fX0_isInterval sz mi fg nt wt wl a1 0 3 0) (fun r21 =>
      if r21 = 0 then
        some 0
      else
        some 1)
    else
      some 1)))))))
def fX0_isAtFault (sz : Int32) (mi : Int32) (fg : Nat → Int32) (nt : Nat → Int32) (wt : Nat → Int32) (wl : Nat → Int32) (a1 : Int32) (a2 : Int32) (a3 : Int32) : Option (Int32) :=
  fb_b1 (fX0_noteAt sz mi fg nt wt wl (a1 - 1) a2) (fun r2 =>
  fb_b1 (fX0_noteAt sz mi fg nt wt wl a1 a2) (fun r4 =>
  if a3 = 3 then
    fb_ck (fb_ix a1 12) (
    if (fg a1.toNatClampNeg) = 4 then
      fb_b1 (fX0_noteAt sz mi fg nt wt wl a1 0) (fun r10 =>
      fb_b1 (fX0_stepAbove r10 r4) (fun r12 =>
      if r12 = 3 then
        if (r4 - r2) = 0 then
          some 0
        else
          some 1
      else
        some 0))
    else
      some 0)
  else if a3 = 4 then
    fb_ck (fb_ix (a1 - 1) 12) (
    if (fg (a1 - 1).toNatClampNeg) = 4 then
      fb_b1 (fX0_noteAt sz mi fg nt wt wl (a1 - 1) 0) (fun r22 =>
      fb_b1 (fX0_stepAbove r22 r2) (fun r24 =>
      if r24 = 3 then
        if (r4 - r2) = (-1) then
          some 0
        else
          some 1
      else
        some 0))
    else
      some 0)
  else if a3 = 5 then
    fb_b1 (fX0_noteAt sz mi fg nt wt wl a1 0) (fun r31 =>
    if (r31 - r31 / 7 * 7) = 0 then
      if (r2 - r2 / 7 * 7) = 6 then
        if (r4 - r2) = 1 then
          some 0
        else
          some 1
      else
        some 0
    else
      some 0)
  else if a3 = 6 then
    fb_ck (fb_ix (a1 - 1) 12) (
    if (fg (a1 - 1).toNatClampNeg) = 3 then
      fb_b1 (fX0_noteAt sz mi fg nt wt wl (a1 - 1) 0) (fun r43 =>
      fb_b1 (fX0_stepAbove r43 r2) (fun r45 =>
      if r45 = 6 then
        if (r4 - r2) = 0 then
          some 0
        else
          if (r4 - r2) = (-1) then
            some 0
          else
            some 1
      else
        some 0))
    else
      some 0)
  else if a3 = 7 then
    if 4 < (r4 - r2) then
      some 1
    else
      if (-4) ≤ (r4 - r2) then
        some 0
      else
        some 1
  else 
    some 0))
def lpX0_voicesAtFault_5 (a1 : Int32) (a2 : Int32) (sz : Int32) (mi : Int32) (fg : Nat → Int32) (nt : Nat → Int32) (wt : Nat → Int32) (wl : Nat → Int32) : Nat → (Int32) → (Int32) → Option (Int32 × Int32)
  | 0, _, _ => none
  | n + 1, v1, v2 =>
    if 3 < v1 then
    some (v1, v2)
  else
    fb_b1 (fX0_isAtFault sz mi fg nt wt wl a1 v1 a2) (fun r5 =>
    fb_b1 (if r5 = 0 then
        some v2
      else
        some (v2 + 1)) (fun (j7 : Int32) =>
    lpX0_voicesAtFault_5 a1 a2 sz mi fg nt wt wl n (v1 + 1) j7))
def fX0_voicesAtFault (sz : Int32) (mi : Int32) (fg : Nat → Int32) (nt : Nat → Int32) (wt : Nat → Int32) (wl : Nat → Int32) (a1 : Int32) (a2 : Int32) : Option (Int32) :=
  fb_b2 (lpX0_voicesAtFault_5 a1 a2 sz mi fg nt wt wl 14 1 0) (fun o8 o9 =>
  some o9)
def fX0_faultsOf (sz : Int32) (mi : Int32) (fg : Nat → Int32) (nt : Nat → Int32) (wt : Nat → Int32) (wl : Nat → Int32) (a1 : Int32) (a2 : Int32) : Option (Int32) :=
  fb_b1 (fX0_follows sz mi fg nt wt wl a1) (fun r2 =>
  if r2 = 0 then
    some 0
  else
    if a2 = 0 then
      fb_b1 (fX0_parallels sz mi fg nt wt wl a1 7) (fun r6 =>
      some r6)
    else if a2 = 1 then
      fb_b1 (fX0_parallels sz mi fg nt wt wl a1 0) (fun r9 =>
      some r9)
    else if a2 = 2 then
      fb_b1 (fX0_isHidden sz mi fg nt wt wl a1) (fun r12 =>
      if r12 = 0 then
        some 0
      else
        some 1)
    else 
      fb_b1 (fX0_voicesAtFault sz mi fg nt wt wl a1 a2) (fun r17 =>
      some r17))
def lpX0_costOf_35 (a1 : Int32) (sz : Int32) (mi : Int32) (fg : Nat → Int32) (nt : Nat → Int32) (wt : Nat → Int32) (wl : Nat → Int32) : Nat → (Int32) → (Int32) → Option (Int32 × Int32)
  | 0, _, _ => none
  | n + 1, v10, v11 =>
    if 8 ≤ v10 then
    some (v10, v11)
  else
    fb_ck (fb_ix v10 8) (
    fb_b1 (fX0_faultsOf sz mi fg nt wt wl a1 v10) (fun r15 =>
    lpX0_costOf_35 a1 sz mi fg nt wt wl n (v10 + 1) (v11 + ((wt v10.toNatClampNeg) * r15))))
def fX0_costOf (sz : Int32) (mi : Int32) (fg : Nat → Int32) (nt : Nat → Int32) (wt : Nat → Int32) (wl : Nat → Int32) (a1 : Int32) : Option (Int32) :=
  fb_b1 (fX0_isSet sz mi fg nt wt wl a1) (fun r2 =>
  if r2 = 0 then
    some 0
  else
    fb_b1 (fX0_isRight sz mi fg nt wt wl a1) (fun r5 =>
    fb_b1 (if r5 = 0 then
        some 30
      else
        some 0) (fun (j7 : Int32) =>
    fb_b1 (fX0_stepsGone sz mi fg nt wt wl a1) (fun r9 =>
    fb_b2 (lpX0_costOf_35 a1 sz mi fg nt wt wl 14 0 (j7 + r9)) (fun o16 o17 =>
    some o17)))))
def lpX0_bestWay_38 (a1 : Int32) (sz : Int32) (mi : Int32) (fg : Nat → Int32) (wt : Nat → Int32) (r8 : Int32) (wl_9 : Nat → Int32) : Nat → (Int32) → (Int32) → (Int32) → (Nat → Int32) → Option (Int32 × Int32 × Int32 × (Nat → Int32))
  | 0, _, _, _, _ => none
  | n + 1, v10, v11, v12, nt_13 =>
    if r8 ≤ v10 then
    some (v10, v11, v12, nt_13)
  else
    if 96 ≤ v10 then
      some (v10, v11, v12, nt_13)
    else
      fb_ck (fb_ix v10 96) (
      fb_b1 (fX0_putWay sz mi fg nt_13 wt wl_9 a1 (wl_9 v10.toNatClampNeg)) (fun nt_18 =>
      fb_b1 (fX0_costOf sz mi fg nt_18 wt wl_9 a1) (fun r20 =>
      fb_b1 (fX0_costOf sz mi fg nt_18 wt wl_9 (a1 + 1)) (fun r22 =>
      fb_b2 (if v12 < 0 then
          some (r20 + r22, wl_9 v10.toNatClampNeg)
        else
          if v11 ≤ (r20 + r22) then
            some (v11, v12)
          else
            some (r20 + r22, wl_9 v10.toNatClampNeg)) (fun (j25 : Int32) (j26 : Int32) =>
      lpX0_bestWay_38 a1 sz mi fg wt r8 wl_9 n (v10 + 1) j25 j26 nt_18)))))
def fX0_bestWay (sz : Int32) (mi : Int32) (fg : Nat → Int32) (nt : Nat → Int32) (wt : Nat → Int32) (wl : Nat → Int32) (a1 : Int32) : Option (Int32 × (Nat → Int32) × (Nat → Int32)) :=
  fb_b1 (fX0_noteAt sz mi fg nt wt wl a1 1) (fun r2 =>
  fb_b1 (fX0_noteAt sz mi fg nt wt wl a1 2) (fun r4 =>
  fb_b1 (fX0_noteAt sz mi fg nt wt wl a1 3) (fun r6 =>
  fb_b2 (fX0_listWays sz mi fg nt wt wl a1) (fun r8 wl_9 =>
  fb_b4 (lpX0_bestWay_38 a1 sz mi fg wt r8 wl_9 100 0 0 (-1) nt) (fun o27 o28 o29 o30 =>
  fb_b1 (fX0_putNotes sz mi fg o30 wt wl_9 a1 r2 r4 r6) (fun nt_32 =>
  some (o29, nt_32, wl_9)))))))
def fX0_lead (sz : Int32) (mi : Int32) (fg : Nat → Int32) (nt : Nat → Int32) (wt : Nat → Int32) (wl : Nat → Int32) (a1 : Int32) : Option (Except (String × (Nat → Int32) × (Nat → Int32)) (Int32 × (Nat → Int32) × (Nat → Int32))) :=
  fb_b1 (fX0_isChord sz mi fg nt wt wl a1) (fun r2 =>
  if r2 = 0 then
    some (.error ("java/lang/IndexOutOfBoundsException", (nt, wl)))
  else
    fb_b3 (fX0_bestWay sz mi fg nt wt wl a1) (fun r5 nt_6 wl_7 =>
    if 0 ≤ r5 then
      fb_b1 (fX0_putWay sz mi fg nt_6 wt wl_7 a1 r5) (fun nt_10 =>
      fb_b1 (fX0_costOf sz mi fg nt_10 wt wl_7 a1) (fun r12 =>
      some (.ok (r12, nt_10, wl_7))))
    else
      some (.error ("java/lang/IllegalStateException", (nt_6, wl_7)))))
def lpX0_leadAll_4 (sz : Int32) (mi : Int32) (fg : Nat → Int32) (wt : Nat → Int32) : Nat → (Int32) → (Int32) → (Nat → Int32) → (Nat → Int32) → Option (Int32 × Int32 × (Nat → Int32) × (Nat → Int32))
  | 0, _, _, _, _ => none
  | n + 1, v1, v2, nt_3, wl_4 =>
    if sz ≤ v1 then
    some (v1, v2, nt_3, wl_4)
  else
    fb_b3 (fX0_bestWay sz mi fg nt_3 wt wl_4 v1) (fun r7 nt_8 wl_9 =>
    fb_b2 (if r7 < 0 then
        some (v2, nt_8)
      else
        fb_b1 (fX0_putWay sz mi fg nt_8 wt wl_9 v1 r7) (fun nt_12 =>
        some (v2 + 1, nt_12))) (fun (j13 : Int32) (nt_14 : Nat → Int32) =>
    lpX0_leadAll_4 sz mi fg wt n (v1 + 1) j13 nt_14 wl_9))
def fX0_leadAll (sz : Int32) (mi : Int32) (fg : Nat → Int32) (nt : Nat → Int32) (wt : Nat → Int32) (wl : Nat → Int32) : Option (Int32 × (Nat → Int32) × (Nat → Int32)) :=
  fb_b4 (lpX0_leadAll_4 sz mi fg wt 14 0 0 nt wl) (fun o15 o16 o17 o18 =>
  some (o16, o17, o18))
def fX0_note (sz : Int32) (mi : Int32) (fg : Nat → Int32) (nt : Nat → Int32) (wt : Nat → Int32) (wl : Nat → Int32) (a1 : Int32) (a2 : Int32) : Option (Except (String × Unit) (Int32)) :=
  fb_b1 (fX0_isChord sz mi fg nt wt wl a1) (fun r2 =>
  if r2 = 0 then
    some (.error ("java/lang/IndexOutOfBoundsException", ()))
  else
    if a2 < 0 then
      some (.error ("java/lang/IndexOutOfBoundsException", ()))
    else
      if a2 < 4 then
        fb_b1 (fX0_noteAt sz mi fg nt wt wl a1 a2) (fun r7 =>
        some (.ok r7))
      else
        some (.error ("java/lang/IndexOutOfBoundsException", ())))
def fX0_tellOf (sz : Int32) (mi : Int32) (fg : Nat → Int32) (nt : Nat → Int32) (wt : Nat → Int32) (wl : Nat → Int32) (a1 : Int32) (a2 : Int32) : Option (Int32) :=
  if a2 = 0 then
    fb_ck (fb_ix a1 12) (
    some (fg a1.toNatClampNeg))
  else if a2 = 1 then
    fb_b1 (fX0_noteAt sz mi fg nt wt wl a1 0) (fun r5 =>
    some (r5 - r5 / 7 * 7))
  else if a2 = 2 then
    fb_b1 (fX0_isSet sz mi fg nt wt wl a1) (fun r8 =>
    if r8 = 0 then
      some 0
    else
      some 1)
  else if a2 = 3 then
    fb_b1 (fX0_isRight sz mi fg nt wt wl a1) (fun r13 =>
    if r13 = 0 then
      some 0
    else
      some 1)
  else if a2 = 4 then
    fb_b1 (fX0_stepsGone sz mi fg nt wt wl a1) (fun r18 =>
    some r18)
  else 
    fb_b1 (fX0_costOf sz mi fg nt wt wl a1) (fun r21 =>
    some r21)
def fX0_told (sz : Int32) (mi : Int32) (fg : Nat → Int32) (nt : Nat → Int32) (wt : Nat → Int32) (wl : Nat → Int32) (a1 : Int32) (a2 : Int32) : Option (Except (String × Unit) (Int32)) :=
  fb_b1 (fX0_isChord sz mi fg nt wt wl a1) (fun r2 =>
  if r2 = 0 then
    some (.error ("java/lang/IndexOutOfBoundsException", ()))
  else
    if a2 < 0 then
      some (.error ("java/lang/IndexOutOfBoundsException", ()))
    else
      if a2 < 6 then
        fb_b1 (fX0_tellOf sz mi fg nt wt wl a1 a2) (fun r7 =>
        some (.ok r7))
      else
        some (.error ("java/lang/IndexOutOfBoundsException", ())))
def fX0_faults (sz : Int32) (mi : Int32) (fg : Nat → Int32) (nt : Nat → Int32) (wt : Nat → Int32) (wl : Nat → Int32) (a1 : Int32) (a2 : Int32) : Option (Except (String × Unit) (Int32)) :=
  fb_b1 (fX0_isChord sz mi fg nt wt wl a1) (fun r2 =>
  if r2 = 0 then
    some (.error ("java/lang/IndexOutOfBoundsException", ()))
  else
    fb_b1 (fX0_isFault a2) (fun r5 =>
    if r5 = 0 then
      some (.error ("java/lang/IndexOutOfBoundsException", ()))
    else
      fb_b1 (fX0_faultsOf sz mi fg nt wt wl a1 a2) (fun r8 =>
      some (.ok r8))))
def lpX0_allFaultsOf_4 (a1 : Int32) (sz : Int32) (mi : Int32) (fg : Nat → Int32) (nt : Nat → Int32) (wt : Nat → Int32) (wl : Nat → Int32) : Nat → (Int32) → (Int32) → Option (Int32 × Int32)
  | 0, _, _ => none
  | n + 1, v1, v2 =>
    if 8 ≤ v1 then
    some (v1, v2)
  else
    fb_b1 (fX0_faultsOf sz mi fg nt wt wl a1 v1) (fun r5 =>
    lpX0_allFaultsOf_4 a1 sz mi fg nt wt wl n (v1 + 1) (v2 + r5))
def fX0_allFaultsOf (sz : Int32) (mi : Int32) (fg : Nat → Int32) (nt : Nat → Int32) (wt : Nat → Int32) (wl : Nat → Int32) (a1 : Int32) : Option (Int32) :=
  fb_b2 (lpX0_allFaultsOf_4 a1 sz mi fg nt wt wl 14 0 0) (fun o6 o7 =>
  some o7)
def lpX0_countOf_23 (a1 : Int32) (sz : Int32) (mi : Int32) (fg : Nat → Int32) (nt : Nat → Int32) (wt : Nat → Int32) (wl : Nat → Int32) : Nat → (Int32) → (Int32) → Option (Int32 × Int32)
  | 0, _, _ => none
  | n + 1, v2, v3 =>
    if sz ≤ v2 then
    some (v2, v3)
  else
    fb_b1 (if a1 = 0 then
        some (v3 + 1)
      else if a1 = 1 then
        fb_b1 (fX0_isSet sz mi fg nt wt wl v2) (fun r7 =>
        fb_b1 (if r7 = 0 then
            some 0
          else
            some 1) (fun (j9 : Int32) =>
        some (v3 + j9)))
      else if a1 = 2 then
        fb_b1 (fX0_isRight sz mi fg nt wt wl v2) (fun r11 =>
        fb_b1 (if r11 = 0 then
            some 0
          else
            some 1) (fun (j13 : Int32) =>
        some (v3 + j13)))
      else if a1 = 3 then
        fb_b1 (fX0_stepsGone sz mi fg nt wt wl v2) (fun r15 =>
        some (v3 + r15))
      else if a1 = 4 then
        fb_b1 (fX0_allFaultsOf sz mi fg nt wt wl v2) (fun r17 =>
        some (v3 + r17))
      else 
        fb_b1 (fX0_costOf sz mi fg nt wt wl v2) (fun r19 =>
        some (v3 + r19))) (fun (j20 : Int32) =>
    lpX0_countOf_23 a1 sz mi fg nt wt wl n (v2 + 1) j20)
def fX0_countOf (sz : Int32) (mi : Int32) (fg : Nat → Int32) (nt : Nat → Int32) (wt : Nat → Int32) (wl : Nat → Int32) (a1 : Int32) : Option (Int32) :=
  if a1 = 6 then
    if mi = 0 then
      some 0
    else
      some 1
  else
    fb_b2 (lpX0_countOf_23 a1 sz mi fg nt wt wl 14 0 0) (fun o21 o22 =>
    some o22)
def fX0_count (sz : Int32) (mi : Int32) (fg : Nat → Int32) (nt : Nat → Int32) (wt : Nat → Int32) (wl : Nat → Int32) (a1 : Int32) : Option (Except (String × Unit) (Int32)) :=
  if a1 < 0 then
    some (.error ("java/lang/IndexOutOfBoundsException", ()))
  else
    if a1 < 7 then
      fb_b1 (fX0_countOf sz mi fg nt wt wl a1) (fun r4 =>
      some (.ok r4))
    else
      some (.error ("java/lang/IndexOutOfBoundsException", ()))
def fX0_isNote (a1 : Int32) : Option (Int32) :=
  if a1 < 0 then
    some 0
  else
    if 28 ≤ a1 then
      some 0
    else
      some 1
def fX0_pitch (sz : Int32) (mi : Int32) (fg : Nat → Int32) (nt : Nat → Int32) (wt : Nat → Int32) (wl : Nat → Int32) (a1 : Int32) : Option (Except (String × Unit) (Int32)) :=
  fb_b1 (fX0_isNote a1) (fun r2 =>
  if r2 = 0 then
    some (.error ("java/lang/IllegalArgumentException", ()))
  else
    fb_b1 (fX0_pitchOf sz mi fg nt wt wl a1) (fun r5 =>
    some (.ok r5)))
def fX0_fits (sz : Int32) (mi : Int32) (fg : Nat → Int32) (nt : Nat → Int32) (wt : Nat → Int32) (wl : Nat → Int32) (a1 : Int32) (a2 : Int32) (a3 : Int32) : Option (Except (String × Unit) (Int32)) :=
  fb_b1 (fX0_isChord sz mi fg nt wt wl a1) (fun r2 =>
  if r2 = 0 then
    some (.error ("java/lang/IndexOutOfBoundsException", ()))
  else
    fb_b1 (fX0_isUpperVoice a2) (fun r5 =>
    if r5 = 0 then
      some (.error ("java/lang/IndexOutOfBoundsException", ()))
    else
      fb_b1 (fX0_isNote a3) (fun r8 =>
      if r8 = 0 then
        some (.error ("java/lang/IllegalArgumentException", ()))
      else
        fb_b1 (fX0_isNoteOf a2 a3) (fun r11 =>
        if r11 = 0 then
          some (.ok 0)
        else
          fb_b1 (fX0_belongs sz mi fg nt wt wl a1 a3) (fun r15 =>
          if r15 = 0 then
            some (.ok 0)
          else
            some (.ok 1))))))
def fX0_ways (sz : Int32) (mi : Int32) (fg : Nat → Int32) (nt : Nat → Int32) (wt : Nat → Int32) (wl : Nat → Int32) (a1 : Int32) : Option (Except (String × (Nat → Int32)) (Int32 × (Nat → Int32))) :=
  fb_b1 (fX0_isChord sz mi fg nt wt wl a1) (fun r2 =>
  if r2 = 0 then
    some (.error ("java/lang/IndexOutOfBoundsException", wl))
  else
    fb_b2 (fX0_listWays sz mi fg nt wt wl a1) (fun r5 wl_6 =>
    some (.ok (r5, wl_6))))
def fX0_would (sz : Int32) (mi : Int32) (fg : Nat → Int32) (nt : Nat → Int32) (wt : Nat → Int32) (wl : Nat → Int32) (a1 : Int32) (a2 : Int32) (a3 : Int32) : Option (Except (String × (Nat → Int32)) (Int32 × (Nat → Int32))) :=
  fb_b1 (fX0_isChord sz mi fg nt wt wl a1) (fun r2 =>
  if r2 = 0 then
    some (.error ("java/lang/IndexOutOfBoundsException", nt))
  else
    fb_b1 (fX0_isUpperVoice a2) (fun r5 =>
    if r5 = 0 then
      some (.error ("java/lang/IndexOutOfBoundsException", nt))
    else
      if a3 = (-1) then
        fb_b2 (fX0_exchangeNote sz mi fg nt wt wl a1 a2 a3) (fun r9 nt_10 =>
        fb_b1 (fX0_countOf sz mi fg nt_10 wt wl 5) (fun r12 =>
        fb_b2 (fX0_exchangeNote sz mi fg nt_10 wt wl a1 a2 r9) (fun r14 nt_15 =>
        some (.ok (r12, nt_15)))))
      else
        fb_b1 (fX0_isNoteOf a2 a3) (fun r18 =>
        if r18 = 0 then
          some (.error ("java/lang/IllegalArgumentException", nt))
        else
          fb_b2 (fX0_exchangeNote sz mi fg nt wt wl a1 a2 a3) (fun r21 nt_22 =>
          fb_b1 (fX0_countOf sz mi fg nt_22 wt wl 5) (fun r24 =>
          fb_b2 (fX0_exchangeNote sz mi fg nt_22 wt wl a1 a2 r21) (fun r26 nt_27 =>
          some (.ok (r24, nt_27))))))))
def fX0_best (sz : Int32) (mi : Int32) (fg : Nat → Int32) (nt : Nat → Int32) (wt : Nat → Int32) (wl : Nat → Int32) (a1 : Int32) : Option (Except (String × (Nat → Int32) × (Nat → Int32)) (Int32 × (Nat → Int32) × (Nat → Int32))) :=
  fb_b1 (fX0_isChord sz mi fg nt wt wl a1) (fun r2 =>
  if r2 = 0 then
    some (.error ("java/lang/IndexOutOfBoundsException", (nt, wl)))
  else
    fb_b3 (fX0_bestWay sz mi fg nt wt wl a1) (fun r5 nt_6 wl_7 =>
    some (.ok (r5, nt_6, wl_7))))
def lpX0_advise_57 (a1 : Int32) (sz : Int32) (mi : Int32) (wt : Nat → Int32) : Nat → (Int32) → (Int32) → (Int32) → (Nat → Int32) → (Nat → Int32) → (Nat → Int32) → Option (Int32 × Int32 × Int32 × (Nat → Int32) × (Nat → Int32) × (Nat → Int32))
  | 0, _, _, _, _, _, _ => none
  | n + 1, v11, v12, v13, fg_14, nt_15, wl_16 =>
    if 6 ≤ v11 then
    some (v11, v12, v13, fg_14, nt_15, wl_16)
  else
    fb_b3 (fX0_bestWay sz mi (upd fg_14 a1.toNatClampNeg v11) nt_15 wt wl_16 a1) (fun r19 nt_20 wl_21 =>
    fb_b3 (if r19 < 0 then
        some (v12, v13, nt_20)
      else
        fb_b1 (fX0_putWay sz mi (upd fg_14 a1.toNatClampNeg v11) nt_20 wt wl_21 a1 r19) (fun nt_24 =>
        fb_b1 (fX0_costOf sz mi (upd fg_14 a1.toNatClampNeg v11) nt_24 wt wl_21 a1) (fun r26 =>
        fb_b1 (fX0_costOf sz mi (upd fg_14 a1.toNatClampNeg v11) nt_24 wt wl_21 (a1 + 1)) (fun r28 =>
        if v13 < 0 then
          some (r26 + r28, v11, nt_24)
        else
          if v12 ≤ (r26 + r28) then
            some (v12, v13, nt_24)
          else
            some (r26 + r28, v11, nt_24))))) (fun (j31 : Int32) (j32 : Int32) (nt_33 : Nat → Int32) =>
    lpX0_advise_57 a1 sz mi wt n (v11 + 1) j31 j32 (upd fg_14 a1.toNatClampNeg v11) nt_33 wl_21))
def fX0_advise (sz : Int32) (mi : Int32) (fg : Nat → Int32) (nt : Nat → Int32) (wt : Nat → Int32) (wl : Nat → Int32) (a1 : Int32) : Option (Except (String × (Nat → Int32) × (Nat → Int32) × (Nat → Int32)) (Int32 × (Nat → Int32) × (Nat → Int32) × (Nat → Int32))) :=
  fb_b1 (fX0_isChord sz mi fg nt wt wl a1) (fun r2 =>
  if r2 = 0 then
    some (.error ("java/lang/IndexOutOfBoundsException", (fg, nt, wl)))
  else
    fb_ck (fb_ix a1 12) (
    fb_b1 (fX0_noteAt sz mi fg nt wt wl a1 1) (fun r6 =>
    fb_b1 (fX0_noteAt sz mi fg nt wt wl a1 2) (fun r8 =>
    fb_b1 (fX0_noteAt sz mi fg nt wt wl a1 3) (fun r10 =>
    fb_b6 (lpX0_advise_57 a1 sz mi wt 14 0 0 (-1) fg nt wl) (fun o34 o35 o36 o37 o38 o39 =>
    fb_b1 (fX0_putNotes sz mi (upd o37 a1.toNatClampNeg (fg a1.toNatClampNeg)) o38 wt o39 a1 r6 r8 r10) (fun nt_41 =>
    some (.ok (o36, upd o37 a1.toNatClampNeg (fg a1.toNatClampNeg), nt_41, o39)))))))))
def fX0_mean (sz : Int32) (mi : Int32) (fg : Nat → Int32) (nt : Nat → Int32) (wt : Nat → Int32) (wl : Nat → Int32) : Option (UInt64) :=
  fb_b1 (fX0_countOf sz mi fg nt wt wl 1) (fun r2 =>
  if r2 = 0 then
    some FP.dconst0
  else
    fb_b1 (fX0_countOf sz mi fg nt wt wl 5) (fun r5 =>
    some (FP.ddiv (FP.i2d r5) (FP.i2d r2))))
def lpX0_digest_6 (sz : Int32) (mi : Int32) (fg : Nat → Int32) (nt : Nat → Int32) (wt : Nat → Int32) (wl : Nat → Int32) : Nat → (Int32) → (Int64) → Option (Int32 × Int64)
  | 0, _, _ => none
  | n + 1, v1, v2 =>
    if 7 ≤ v1 then
    some (v1, v2)
  else
    fb_b1 (fX0_countOf sz mi fg nt wt wl v1) (fun r5 =>
    lpX0_digest_6 sz mi fg nt wt wl n (v1 + 1) ((v2 * 31) + r5.toInt64))
def lpX0_digest_33 (wt : Nat → Int32) : Nat → (Int32) → (Int64) → Option (Int32 × Int64)
  | 0, _, _ => none
  | n + 1, v8, v9 =>
    if 8 ≤ v8 then
    some (v8, v9)
  else
    fb_ck (fb_ix v8 8) (
    lpX0_digest_33 wt n (v8 + 1) ((v9 * 31) + ((wt v8.toNatClampNeg).toInt64)))
def lpX0_digest_72 (sz : Int32) (mi : Int32) (fg : Nat → Int32) (nt : Nat → Int32) (wt : Nat → Int32) (v14 : Int32) (wl_16 : Nat → Int32) : Nat → (Int32) → (Int64) → Option (Int32 × Int64)
  | 0, _, _ => none
  | n + 1, v18, v19 =>
    if 4 ≤ v18 then
    some (v18, v19)
  else
    fb_b1 (fX0_noteAt sz mi fg nt wt wl_16 v14 v18) (fun r22 =>
    lpX0_digest_72 sz mi fg nt wt v14 wl_16 n (v18 + 1) ((v19 * 31) + r22.toInt64))
def lpX0_digest_102 (sz : Int32) (mi : Int32) (fg : Nat → Int32) (nt : Nat → Int32) (wt : Nat → Int32) (v14 : Int32) (wl_16 : Nat → Int32) : Nat → (Int32) → (Int64) → Option (Int32 × Int64)
  | 0, _, _ => none
  | n + 1, v25, v26 =>
    if 6 ≤ v25 then
    some (v25, v26)
  else
    fb_b1 (fX0_tellOf sz mi fg nt wt wl_16 v14 v25) (fun r29 =>
    lpX0_digest_102 sz mi fg nt wt v14 wl_16 n (v25 + 1) ((v26 * 31) + r29.toInt64))
def lpX0_digest_133 (sz : Int32) (mi : Int32) (fg : Nat → Int32) (nt : Nat → Int32) (wt : Nat → Int32) (v14 : Int32) (wl_16 : Nat → Int32) : Nat → (Int32) → (Int64) → Option (Int32 × Int64)
  | 0, _, _ => none
  | n + 1, v32, v33 =>
    if 8 ≤ v32 then
    some (v32, v33)
  else
    fb_b1 (fX0_faultsOf sz mi fg nt wt wl_16 v14 v32) (fun r36 =>
    lpX0_digest_133 sz mi fg nt wt v14 wl_16 n (v32 + 1) ((v33 * 31) + r36.toInt64))
def lpX0_digest_61 (sz : Int32) (mi : Int32) (fg : Nat → Int32) (nt : Nat → Int32) (wt : Nat → Int32) : Nat → (Int32) → (Int64) → (Nat → Int32) → Option (Int32 × Int64 × (Nat → Int32))
  | 0, _, _, _ => none
  | n + 1, v14, v15, wl_16 =>
    if sz ≤ v14 then
    some (v14, v15, wl_16)
  else
    fb_b2 (lpX0_digest_72 sz mi fg nt wt v14 wl_16 14 0 v15) (fun o23 o24 =>
    fb_b2 (lpX0_digest_102 sz mi fg nt wt v14 wl_16 14 0 o24) (fun o30 o31 =>
    fb_b2 (lpX0_digest_133 sz mi fg nt wt v14 wl_16 14 0 o31) (fun o37 o38 =>
    fb_b2 (fX0_listWays sz mi fg nt wt wl_16 v14) (fun r40 wl_41 =>
    lpX0_digest_61 sz mi fg nt wt n (v14 + 1) ((o38 * 31) + r40.toInt64) wl_41))))
def fX0_digest (sz : Int32) (mi : Int32) (fg : Nat → Int32) (nt : Nat → Int32) (wt : Nat → Int32) (wl : Nat → Int32) : Option (Int64 × (Nat → Int32)) :=
  fb_b2 (lpX0_digest_6 sz mi fg nt wt wl 14 0 1693) (fun o6 o7 =>
  fb_b2 (lpX0_digest_33 wt 14 0 o7) (fun o12 o13 =>
  fb_b3 (lpX0_digest_61 sz mi fg nt wt 14 0 o13 wl) (fun o45 o46 o47 =>
  some (o46, o47))))
def fX1_init  : Option (Int32 × Int32 × (Nat → Int32) × (Nat → Int32) × (Nat → Int32) × Int32) :=
  some (0, 0, (fun _ => 0), (fun _ => 0), (upd (upd (upd (upd (upd (upd (upd (upd (fun _ => 0) (0 : Int32).toNatClampNeg 2) (1 : Int32).toNatClampNeg 2) (2 : Int32).toNatClampNeg 2) (3 : Int32).toNatClampNeg 2) (4 : Int32).toNatClampNeg 2) (5 : Int32).toNatClampNeg 2) (6 : Int32).toNatClampNeg 2) (7 : Int32).toNatClampNeg 2), 0)
def fX1_thrown (th : Int32) (ch : Int32) (nt : Nat → Int32) (fg : Nat → Int32) (wt : Nat → Int32) (mi : Int32) : Option (Int32) :=
  some th
def fX1_no (th : Int32) (ch : Int32) (nt : Nat → Int32) (fg : Nat → Int32) (wt : Nat → Int32) (mi : Int32) (a1 : Int32) : Option (Int32 × Int32) :=
  some (0, a1)
def fX1_isIn (a1 : Int32) (a2 : Int32) (a3 : Int32) : Option (Int32) :=
  if a1 < a2 then
    some 0
  else
    if a3 < a1 then
      some 0
    else
      some 1
def fX1_isChord (th : Int32) (ch : Int32) (nt : Nat → Int32) (fg : Nat → Int32) (wt : Nat → Int32) (mi : Int32) (a1 : Int32) : Option (Int32) :=
  fb_b1 (fX1_isIn a1 0 (ch - 1)) (fun r2 =>
  fb_ck (fb_z r2) (some r2))
def fX1_isOf (a1 : Int32) (a2 : Int32) : Option (Int32) :=
  fb_ck (fb_ix a1 4) (
  fb_b1 (fX1_isIn a2 (fb_tX1_LOW a1.toNatClampNeg) (fb_tX1_HIGH a1.toNatClampNeg)) (fun r3 =>
  fb_ck (fb_z r3) (some r3)))
def fX1_at (th : Int32) (ch : Int32) (nt : Nat → Int32) (fg : Nat → Int32) (wt : Nat → Int32) (mi : Int32) (a1 : Int32) (a2 : Int32) : Option (Int32) :=
  fb_ck (fb_ix (((4 : Int32) * a1) + a2) 48) (
  some (nt (((4 : Int32) * a1) + a2).toNatClampNeg))
def fX1_pitchOf (th : Int32) (ch : Int32) (nt : Nat → Int32) (fg : Nat → Int32) (wt : Nat → Int32) (mi : Int32) (a1 : Int32) : Option (Int32) :=
  if mi = 0 then
    fb_ck (fb_ix (a1 - a1 / 7 * 7) 7) (
    some (((12 : Int32) * (a1 / 7)) + (fb_tX1_MAJOR (a1 - a1 / 7 * 7).toNatClampNeg)))
  else
    fb_ck (fb_ix (a1 - a1 / 7 * 7) 7) (
    some (((12 : Int32) * (a1 / 7)) + (fb_tX1_MINOR (a1 - a1 / 7 * 7).toNatClampNeg)))
def fX1_step (a1 : Int32) (a2 : Int32) : Option (Int32) :=
  some (((a1 - a2) + 21) - ((a1 - a2) + 21) / 7 * 7)
def fX1_isSet (th : Int32) (ch : Int32) (nt : Nat → Int32) (fg : Nat → Int32) (wt : Nat → Int32) (mi : Int32) (a1 : Int32) : Option (Int32) :=
  fb_b1 (fX1_at th ch nt fg wt mi a1 1) (fun r2 =>
  if r2 = (-1) then
    some 0
  else
    fb_b1 (fX1_at th ch nt fg wt mi a1 2) (fun r6 =>
    if r6 = (-1) then
      some 0
    else
      fb_b1 (fX1_at th ch nt fg wt mi a1 3) (fun r10 =>
      if r10 = (-1) then
        some 0
      else
        some 1)))
def fX1_belongs (a1 : Int32) (a2 : Int32) (a3 : Int32) : Option (Int32) :=
  fb_ck (fb_ix a3 6) (
  fb_b1 (fX1_step a1 a2) (fun r3 =>
  if ((((fb_tX1_STEPS a3.toNatClampNeg) ||| 1) >>> (r3 &&& 31)) &&& 1) = 1 then
    some 1
  else
    some 0))
def lpX1_isRight_17 (a1 : Int32) (th : Int32) (ch : Int32) (nt : Nat → Int32) (fg : Nat → Int32) (wt : Nat → Int32) (mi : Int32) : Nat → (Int32) → (Int32) → (Int32) → Option (Int32 × Int32 × Int32)
  | 0, _, _, _ => none
  | n + 1, v4, v5, v6 =>
    if 4 ≤ v4 then
    some (v4, v5, v6)
  else
    fb_b1 (fX1_at th ch nt fg wt mi a1 v4) (fun r9 =>
    fb_b1 (fX1_at th ch nt fg wt mi a1 (v4 - 1)) (fun r11 =>
    fb_b1 (if r9 < r11 then
        some 0
      else
        some 1) (fun (j13 : Int32) =>
    fb_b1 (fX1_at th ch nt fg wt mi a1 v4) (fun r15 =>
    fb_b1 (fX1_at th ch nt fg wt mi a1 0) (fun r17 =>
    fb_b1 (fX1_step r15 r17) (fun r19 =>
    lpX1_isRight_17 a1 th ch nt fg wt mi n (v4 + 1) (v5 &&& j13) (v6 ||| ((1 : Int32) <<< (r19 &&& 31)))))))))
def fX1_isRight (th : Int32) (ch : Int32) (nt : Nat → Int32) (fg : Nat → Int32) (wt : Nat → Int32) (mi : Int32) (a1 : Int32) : Option (Int32) :=
  fb_b1 (fX1_isSet th ch nt fg wt mi a1) (fun r2 =>
  if r2 = 0 then
    some 0
  else
    fb_b3 (lpX1_isRight_17 a1 th ch nt fg wt mi 14 1 1 0) (fun o20 o21 o22 =>
    if o21 = 0 then
      some 0
    else
      fb_ck (fb_ix a1 12) (
      fb_ck (fb_ix (fg a1.toNatClampNeg) 6) (
      if (o22 ||| 1) = ((fb_tX1_STEPS (fg a1.toNatClampNeg).toNatClampNeg) ||| 1) then
        some 1
      else
        some 0))))
def fX1_goes (th : Int32) (ch : Int32) (nt : Nat → Int32) (fg : Nat → Int32) (wt : Nat → Int32) (mi : Int32) (a1 : Int32) (a2 : Int32) : Option (Int32) :=
  fb_b1 (fX1_at th ch nt fg wt mi a1 a2) (fun r2 =>
  fb_b1 (fX1_at th ch nt fg wt mi (a1 - 1) a2) (fun r4 =>
  some (r2 - r4)))
def fX1_isFifth (th : Int32) (ch : Int32) (nt : Nat → Int32) (fg : Nat → Int32) (wt : Nat → Int32) (mi : Int32) (a1 : Int32) (a2 : Int32) (a3 : Int32) : Option (Int32) :=
  fb_b1 (fX1_at th ch nt fg wt mi a1 a3) (fun r2 =>
  fb_b1 (fX1_pitchOf th ch nt fg wt mi r2) (fun r4 =>
  fb_b1 (fX1_at th ch nt fg wt mi a1 a2) (fun r6 =>
  fb_b1 (fX1_pitchOf th ch nt fg wt mi r6) (fun r8 =>
  if (r4 - r8) ≤ 0 then
    some 0
  else
    if ((r4 - r8) - (r4 - r8) / 12 * 12) = 7 then
      some 1
    else
      some 0))))
def fX1_isOctave (th : Int32) (ch : Int32) (nt : Nat → Int32) (fg : Nat → Int32) (wt : Nat → Int32) (mi : Int32) (a1 : Int32) (a2 : Int32) (a3 : Int32) : Option (Int32) :=
  fb_b1 (fX1_at th ch nt fg wt mi a1 a3) (fun r2 =>
  fb_b1 (fX1_pitchOf th ch nt fg wt mi r2) (fun r4 =>
  fb_b1 (fX1_at th ch nt fg wt mi a1 a2) (fun r6 =>
  fb_b1 (fX1_pitchOf th ch nt fg wt mi r6) (fun r8 =>
  if ((r4 - r8) - (r4 - r8) / 12 * 12) = 0 then
    some 1
  else
    some 0))))
def fX1_isPair (th : Int32) (ch : Int32) (nt : Nat → Int32) (fg : Nat → Int32) (wt : Nat → Int32) (mi : Int32) (a1 : Int32) : Option (Int32) :=
  if a1 ≤ 0 then
    some 0
  else
    fb_b1 (fX1_isSet th ch nt fg wt mi a1) (fun r4 =>
    if r4 = 0 then
      some 0
    else
      fb_b1 (fX1_isSet th ch nt fg wt mi (a1 - 1)) (fun r8 =>
      if r8 = 0 then
        some 0
      else
        some 1))
def lpX1_parallels_17 (a1 : Int32) (a2 : Int32) (th : Int32) (ch : Int32) (nt : Nat → Int32) (fg : Nat → Int32) (wt : Nat → Int32) (mi : Int32) (v1 : Int32) : Nat → (Int32) → (Int32) → Option (Int32 × Int32)
  | 0, _, _ => none
  | n + 1, v4, v5 =>
    if 4 ≤ v4 then
    some (v4, v5)
  else
    fb_b1 (fX1_goes th ch nt fg wt mi a1 v1) (fun r8 =>
    fb_b1 (if r8 = 0 then
        some v5
      else
        fb_b1 (fX1_goes th ch nt fg wt mi a1 v4) (fun r11 =>
        if r11 = 0 then
          some v5
        else
          fb_b1 (if a2 = 0 then
              fb_b1 (fX1_isOctave th ch nt fg wt mi (a1 - 1) v1 v4) (fun r15 =>
              if r15 = 0 then
                some 0
              else
                fb_b1 (fX1_isOctave th ch nt fg wt mi a1 v1 v4) (fun r18 =>
                if r18 = 0 then
                  some 0
                else
                  some 1))
            else
              fb_b1 (fX1_isFifth th ch nt fg wt mi (a1 - 1) v1 v4) (fun r21 =>
              if r21 = 0 then
                some 0
              else
                fb_b1 (fX1_isFifth th ch nt fg wt mi a1 v1 v4) (fun r24 =>
                if r24 = 0 then
                  some 0
                else
                  some 1))) (fun (j26 : Int32) =>
          some (v5 + j26)))) (fun (j27 : Int32) =>
    lpX1_parallels_17 a1 a2 th ch nt fg wt mi v1 n (v4 + 1) j27))
def lpX1_parallels_5 (a1 : Int32) (a2 : Int32) (th : Int32) (ch : Int32) (nt : Nat → Int32) (fg : Nat → Int32) (wt : Nat → Int32) (mi : Int32) : Nat → (Int32) → (Int32) → Option (Int32 × Int32)
  | 0, _, _ => none
  | n + 1, v1, v2 =>
    if 4 ≤ v1 then
    some (v1, v2)
  else
    fb_b2 (lpX1_parallels_17 a1 a2 th ch nt fg wt mi v1 14 (v1 + 1) v2) (fun o28 o29 =>
    lpX1_parallels_5 a1 a2 th ch nt fg wt mi n (v1 + 1) o29)
def fX1_parallels (th : Int32) (ch : Int32) (nt : Nat → Int32) (fg : Nat → Int32) (wt : Nat → Int32) (mi : Int32) (a1 : Int32) (a2 : Int32) : Option (Int32) :=
  fb_b2 (lpX1_parallels_5 a1 a2 th ch nt fg wt mi 14 0 0) (fun o31 o32 =>
  some o32)
def fX1_isHidden (th : Int32) (ch : Int32) (nt : Nat → Int32) (fg : Nat → Int32) (wt : Nat → Int32) (mi : Int32) (a1 : Int32) : Option (Int32) :=
  fb_b1 (fX1_goes th ch nt fg wt mi a1 0) (fun r2 =>
  fb_b1 (fX1_goes th ch nt fg wt mi a1 3) (fun r4 =>
  if (r2 * r4) ≤ 0 then
    some 0
  else
    if (if 0 ≤ r4 then r4 else 0 - r4) ≤ 1 then
      some 0
    else
      fb_b1 (fX1_isFifth th ch nt fg wt mi a1 0 3) (fun r10 =>
      if r10 = 0 then
        fb_b1 (fX1_isOctave th ch nt fg wt mi a1 0 3) (fun r14 =>
        if r14 = 0 then
          some 0
        else
          some 1)
      else
        some 1)))
def fX1_isFault (th : Int32) (ch : Int32) (nt : Nat → Int32) (fg : Nat → Int32) (wt : Nat → Int32) (mi : Int32) (a1 : Int32) (a2 : Int32) (a3 : Int32) : Option (Int32) :=
  fb_b1 (fX1_goes th ch nt fg wt mi a1 a3) (fun r2 =>
  fb_b1 (fX1_at th ch nt fg wt mi (a1 - 1) a3) (fun r4 =>
  fb_b1 (fX1_at th ch nt fg wt mi (a1 - 1) 0) (fun r6 =>
  fb_b1 (fX1_step r4 r6) (fun r8 =>
  if a2 = 3 then
    fb_ck (fb_ix a1 12) (
    if (fg a1.toNatClampNeg) = 4 then
      fb_b1 (fX1_at th ch nt fg wt mi a1 a3) (fun r14 =>
      fb_b1 (fX1_at th ch nt fg wt mi a1 0) (fun r16 =>
      fb_b1 (fX1_step r14 r16) (fun r18 =>
      if r18 = 3 then
        if r2 = 0 then
          some 0
        else
          some 1
      else
        some 0)))
    else
      some 0)
  else if a2 = 4 then
    fb_ck (fb_ix (a1 - 1) 12) (
    if (fg (a1 - 1).toNatClampNeg) = 4 then
      if r8 = 3 then
        if r2 = (-1) then
          some 0
        else
          some 1
      else
        some 0
    else
      some 0)
  else if a2 = 5 then
    fb_b1 (fX1_at th ch nt fg wt mi a1 0) (fun r33 =>
    if (r33 - r33 / 7 * 7) = 0 then
      fb_b1 (fX1_at th ch nt fg wt mi (a1 - 1) a3) (fun r37 =>
      if (r37 - r37 / 7 * 7) = 6 then
        if r2 = 1 then
          some 0
        else
          some 1
      else
        some 0)
    else
      some 0)
  else if a2 = 6 then
    fb_ck (fb_ix (a1 - 1) 12) (
    if (fg (a1 - 1).toNatClampNeg) = 3 then
      if r8 = 6 then
        if r2 = 0 then
          some 0
        else
          if r2 = (-1) then
            some 0
          else
            some 1
      else
        some 0
    else
      some 0)
  else 
    if (if 0 ≤ r2 then r2 else 0 - r2) ≤ 4 then
      some 0
    else
      some 1))))
def lpX1_faultsOf_54 (a1 : Int32) (a2 : Int32) (th : Int32) (ch : Int32) (nt : Nat → Int32) (fg : Nat → Int32) (wt : Nat → Int32) (mi : Int32) : Nat → (Int32) → (Int32) → Option (Int32 × Int32)
  | 0, _, _ => none
  | n + 1, v6, v7 =>
    if 4 ≤ v6 then
    some (v6, v7)
  else
    fb_b1 (fX1_isFault th ch nt fg wt mi a1 a2 v6) (fun r10 =>
    fb_b1 (if r10 = 0 then
        some 0
      else
        some 1) (fun (j12 : Int32) =>
    lpX1_faultsOf_54 a1 a2 th ch nt fg wt mi n (v6 + 1) (v7 + j12)))
def fX1_faultsOf (th : Int32) (ch : Int32) (nt : Nat → Int32) (fg : Nat → Int32) (wt : Nat → Int32) (mi : Int32) (a1 : Int32) (a2 : Int32) : Option (Int32) :=
  fb_b1 (fX1_isPair th ch nt fg wt mi a1) (fun r2 =>
  if r2 = 0 then
    some 0
  else
    if 2 ≤ a2 then
      if a2 = 2 then
        fb_b1 (fX1_isHidden th ch nt fg wt mi a1) (fun r18 =>
        if r18 = 0 then
          some 0
        else
          some 1)
      else
        fb_b2 (lpX1_faultsOf_54 a1 a2 th ch nt fg wt mi 14 1 0) (fun o13 o14 =>
        some o14)
    else
      fb_b1 (if a2 = 0 then
          some 1
        else
          some 0) (fun (j23 : Int32) =>
      fb_b1 (fX1_parallels th ch nt fg wt mi a1 j23) (fun r25 =>
      some r25)))
def lpX1_steps_4 (a1 : Int32) (th : Int32) (ch : Int32) (nt : Nat → Int32) (fg : Nat → Int32) (wt : Nat → Int32) (mi : Int32) : Nat → (Int32) → (Int32) → Option (Int32 × Int32)
  | 0, _, _ => none
  | n + 1, v1, v2 =>
    if 4 ≤ v1 then
    some (v1, v2)
  else
    fb_b1 (fX1_isPair th ch nt fg wt mi a1) (fun r5 =>
    if r5 = 0 then
      some (v1, v2)
    else
      fb_b1 (fX1_goes th ch nt fg wt mi a1 v1) (fun r8 =>
      lpX1_steps_4 a1 th ch nt fg wt mi n (v1 + 1) (v2 + (if 0 ≤ r8 then r8 else 0 - r8))))
def fX1_steps (th : Int32) (ch : Int32) (nt : Nat → Int32) (fg : Nat → Int32) (wt : Nat → Int32) (mi : Int32) (a1 : Int32) : Option (Int32) :=
  fb_b2 (lpX1_steps_4 a1 th ch nt fg wt mi 14 1 0) (fun o9 o10 =>
  some o10)
def lpX1_cost_33 (a1 : Int32) (th : Int32) (ch : Int32) (nt : Nat → Int32) (fg : Nat → Int32) (wt : Nat → Int32) (mi : Int32) : Nat → (Int32) → (Int32) → Option (Int32 × Int32)
  | 0, _, _ => none
  | n + 1, v10, v11 =>
    if 8 ≤ v10 then
    some (v10, v11)
  else
    fb_ck (fb_ix v10 8) (
    fb_b1 (fX1_faultsOf th ch nt fg wt mi a1 v10) (fun r15 =>
    lpX1_cost_33 a1 th ch nt fg wt mi n (v10 + 1) (v11 + ((wt v10.toNatClampNeg) * r15))))
def fX1_cost (th : Int32) (ch : Int32) (nt : Nat → Int32) (fg : Nat → Int32) (wt : Nat → Int32) (mi : Int32) (a1 : Int32) : Option (Int32) :=
  fb_b1 (fX1_isSet th ch nt fg wt mi a1) (fun r2 =>
  if r2 = 0 then
    some 0
  else
    fb_b1 (fX1_steps th ch nt fg wt mi a1) (fun r5 =>
    fb_b1 (fX1_isRight th ch nt fg wt mi a1) (fun r7 =>
    fb_b1 (if r7 = 0 then
        some 30
      else
        some 0) (fun (j9 : Int32) =>
    fb_b2 (lpX1_cost_33 a1 th ch nt fg wt mi 14 0 (r5 + j9)) (fun o16 o17 =>
    some o17)))))
def fX1_let (th : Int32) (ch : Int32) (nt : Nat → Int32) (fg : Nat → Int32) (wt : Nat → Int32) (mi : Int32) (a1 : Int32) (a2 : Int32) (a3 : Int32) (a4 : Int32) : Option ((Nat → Int32)) :=
  fb_ck (fb_ix (((4 : Int32) * a1) + 1) 48) (
  fb_ck (fb_ix (((4 : Int32) * a1) + 2) 48) (
  fb_ck (fb_ix (((4 : Int32) * a1) + 3) 48) (
  some (upd (upd (upd nt (((4 : Int32) * a1) + 1).toNatClampNeg a2) (((4 : Int32) * a1) + 2).toNatClampNeg a3) (((4 : Int32) * a1) + 3).toNatClampNeg a4))))
def lpX1_led_144 (a1 : Int32) (th : Int32) (ch : Int32) (fg : Nat → Int32) (wt : Nat → Int32) (mi : Int32) (v9 : Int32) (v19 : Int32) : Nat → (Int32) → (Nat → Int32) → (Nat → Int32) → Option (Int32 × (Nat → Int32) × (Nat → Int32))
  | 0, _, _, _ => none
  | n + 1, v28, nt_29, f30 =>
    if (fb_tX1_HIGH (3 : Int32).toNatClampNeg) < v28 then
    some (v28, nt_29, f30)
  else
    fb_b1 (fX1_let th ch nt_29 fg wt mi a1 v9 v19 v28) (fun nt_33 =>
    fb_b1 (fX1_isRight th ch nt_33 fg wt mi a1) (fun r35 =>
    fb_b1 (if r35 = 0 then
        some f30
      else
        fb_b1 (fX1_cost th ch nt_33 fg wt mi a1) (fun r38 =>
        fb_b1 (if ch ≤ (a1 + 1) then
            some 0
          else
            fb_b1 (fX1_cost th ch nt_33 fg wt mi (a1 + 1)) (fun r41 =>
            some r41)) (fun (j42 : Int32) =>
        if ((upd f30 (2 : Int32).toNatClampNeg ((f30 (2 : Int32).toNatClampNeg) + 1)) (0 : Int32).toNatClampNeg) = (-1) then
          some (upd (upd (upd f30 (2 : Int32).toNatClampNeg ((f30 (2 : Int32).toNatClampNeg) + 1)) (0 : Int32).toNatClampNeg ((((784 : Int32) * v9) + ((28 : Int32) * v19)) + v28)) (1 : Int32).toNatClampNeg (r38 + j42))
        else
          if (r38 + j42) < ((upd f30 (2 : Int32).toNatClampNeg ((f30 (2 : Int32).toNatClampNeg) + 1)) (1 : Int32).toNatClampNeg) then
            some (upd (upd (upd f30 (2 : Int32).toNatClampNeg ((f30 (2 : Int32).toNatClampNeg) + 1)) (0 : Int32).toNatClampNeg ((((784 : Int32) * v9) + ((28 : Int32) * v19)) + v28)) (1 : Int32).toNatClampNeg (r38 + j42))
          else
            some (upd f30 (2 : Int32).toNatClampNeg ((f30 (2 : Int32).toNatClampNeg) + 1))))) (fun (f45 : Nat → Int32) =>
    lpX1_led_144 a1 th ch fg wt mi v9 v19 n (v28 + 1) nt_33 f45)))
def lpX1_led_99 (a1 : Int32) (th : Int32) (ch : Int32) (fg : Nat → Int32) (wt : Nat → Int32) (mi : Int32) (v9 : Int32) : Nat → (Int32) → (Nat → Int32) → (Nat → Int32) → Option (Int32 × (Nat → Int32) × (Nat → Int32))
  | 0, _, _, _ => none
  | n + 1, v19, nt_20, f21 =>
    if (fb_tX1_HIGH (2 : Int32).toNatClampNeg) < v19 then
    some (v19, nt_20, f21)
  else
    fb_b1 (fX1_at th ch nt_20 fg wt mi a1 0) (fun r24 =>
    fb_b1 (fX1_belongs v19 r24 (fg a1.toNatClampNeg)) (fun r26 =>
    fb_b2 (if r26 = 0 then
        some (nt_20, f21)
      else
        fb_b3 (lpX1_led_144 a1 th ch fg wt mi v9 v19 14 (if v19 < (fb_tX1_LOW (3 : Int32).toNatClampNeg) then (fb_tX1_LOW (3 : Int32).toNatClampNeg) else v19) nt_20 f21) (fun o46 o47 o48 =>
        some (o47, o48))) (fun (nt_50 : Nat → Int32) (f51 : Nat → Int32) =>
    lpX1_led_99 a1 th ch fg wt mi v9 n (v19 + 1) nt_50 f51)))
def lpX1_led_54 (a1 : Int32) (th : Int32) (ch : Int32) (fg : Nat → Int32) (wt : Nat → Int32) (mi : Int32) : Nat → (Int32) → (Nat → Int32) → (Nat → Int32) → Option (Int32 × (Nat → Int32) × (Nat → Int32))
  | 0, _, _, _ => none
  | n + 1, v9, nt_10, f11 =>
    if (fb_tX1_HIGH (1 : Int32).toNatClampNeg) < v9 then
    some (v9, nt_10, f11)
  else
    fb_b1 (fX1_at th ch nt_10 fg wt mi a1 0) (fun r14 =>
    fb_ck (fb_ix a1 12) (
    fb_b1 (fX1_belongs v9 r14 (fg a1.toNatClampNeg)) (fun r17 =>
    fb_b2 (if r17 = 0 then
        some (nt_10, f11)
      else
        fb_b3 (lpX1_led_99 a1 th ch fg wt mi v9 14 (if v9 < (fb_tX1_LOW (2 : Int32).toNatClampNeg) then (fb_tX1_LOW (2 : Int32).toNatClampNeg) else v9) nt_10 f11) (fun o52 o53 o54 =>
        some (o53, o54))) (fun (nt_56 : Nat → Int32) (f57 : Nat → Int32) =>
    lpX1_led_54 a1 th ch fg wt mi n (v9 + 1) nt_56 f57))))
def fX1_led (th : Int32) (ch : Int32) (nt : Nat → Int32) (fg : Nat → Int32) (wt : Nat → Int32) (mi : Int32) (a1 : Int32) : Option ((Nat → Int32) × (Nat → Int32)) :=
  fb_b1 (fX1_at th ch nt fg wt mi a1 1) (fun r3 =>
  fb_b1 (fX1_at th ch nt fg wt mi a1 2) (fun r5 =>
  fb_b1 (fX1_at th ch nt fg wt mi a1 3) (fun r7 =>
  fb_b3 (lpX1_led_54 a1 th ch fg wt mi 14 (fb_tX1_LOW (1 : Int32).toNatClampNeg) nt (upd (upd (upd (fun _ => 0) (0 : Int32).toNatClampNeg (-1)) (1 : Int32).toNatClampNeg 0) (2 : Int32).toNatClampNeg 0)) (fun o58 o59 o60 =>
  fb_b1 (fX1_let th ch o59 fg wt mi a1 ((upd (upd (upd (fun _ => 0) (0 : Int32).toNatClampNeg r3) (1 : Int32).toNatClampNeg r5) (2 : Int32).toNatClampNeg r7) (0 : Int32).toNatClampNeg) ((upd (upd (upd (fun _ => 0) (0 : Int32).toNatClampNeg r3) (1 : Int32).toNatClampNeg r5) (2 : Int32).toNatClampNeg r7) (1 : Int32).toNatClampNeg) ((upd (upd (upd (fun _ => 0) (0 : Int32).toNatClampNeg r3) (1 : Int32).toNatClampNeg r5) (2 : Int32).toNatClampNeg r7) (2 : Int32).toNatClampNeg)) (fun nt_62 =>
  some (nt_62, o60))))))
def fX1_isLed (th : Int32) (ch : Int32) (nt : Nat → Int32) (fg : Nat → Int32) (wt : Nat → Int32) (mi : Int32) (a1 : Int32) : Option (Int32 × (Nat → Int32)) :=
  fb_b2 (fX1_led th ch nt fg wt mi a1) (fun nt_2 f3 =>
  fb_b1 (if (f3 (0 : Int32).toNatClampNeg) = (-1) then
      some nt_2
    else
      fb_b1 (fX1_let th ch nt_2 fg wt mi a1 ((f3 (0 : Int32).toNatClampNeg) / 784) (((f3 (0 : Int32).toNatClampNeg) / 28) - ((f3 (0 : Int32).toNatClampNeg) / 28) / 28 * 28) ((f3 (0 : Int32).toNatClampNeg) - (f3 (0 : Int32).toNatClampNeg) / 28 * 28)) (fun nt_7 =>
      some nt_7)) (fun (nt_8 : Nat → Int32) =>
  if (f3 (0 : Int32).toNatClampNeg) = (-1) then
    some (0, nt_8)
  else
    some (1, nt_8)))
def fX1_chord (th : Int32) (ch : Int32) (nt : Nat → Int32) (fg : Nat → Int32) (wt : Nat → Int32) (mi : Int32) (a1 : Int32) (a2 : Int32) : Option (Int32 × Int32 × Int32 × (Nat → Int32) × (Nat → Int32)) :=
  fb_b1 (fX1_isOf 0 a1) (fun r2 =>
  if r2 = 0 then
    fb_b2 (fX1_no 0 ch nt fg wt mi 1) (fun r5 th_6 =>
    some (r5, th_6, ch, nt, fg))
  else
    fb_b1 (fX1_isIn a2 0 5) (fun r9 =>
    if r9 = 0 then
      fb_b2 (fX1_no 0 ch nt fg wt mi 1) (fun r22 th_23 =>
      some (r22, th_23, ch, nt, fg))
    else
      if ch = 12 then
        fb_b2 (fX1_no 0 ch nt fg wt mi 2) (fun r18 th_19 =>
        some (r18, th_19, ch, nt, fg))
      else
        fb_ck (fb_ix ((4 : Int32) * ch) 48) (
        fb_b1 (fX1_let 0 ch (upd nt ((4 : Int32) * ch).toNatClampNeg a1) fg wt mi ch (-1) (-1) (-1)) (fun nt_14 =>
        fb_ck (fb_ix ch 12) (
        some ((ch + 1) - 1, 0, ch + 1, nt_14, upd fg ch.toNatClampNeg a2))))))
def fX1_setBass (th : Int32) (ch : Int32) (nt : Nat → Int32) (fg : Nat → Int32) (wt : Nat → Int32) (mi : Int32) (a1 : Int32) (a2 : Int32) : Option (Int32 × Int32 × (Nat → Int32)) :=
  fb_b1 (fX1_isChord 0 ch nt fg wt mi a1) (fun r2 =>
  if r2 = 0 then
    fb_b2 (fX1_no 0 ch nt fg wt mi 1) (fun r16 th_17 =>
    some (r16, th_17, nt))
  else
    fb_b1 (fX1_isOf 0 a2) (fun r5 =>
    if r5 = 0 then
      fb_b2 (fX1_no 0 ch nt fg wt mi 2) (fun r12 th_13 =>
      some (r12, th_13, nt))
    else
      fb_b1 (fX1_at 0 ch nt fg wt mi a1 0) (fun r8 =>
      fb_ck (fb_ix ((4 : Int32) * a1) 48) (
      some (r8, 0, upd nt ((4 : Int32) * a1).toNatClampNeg a2)))))
def fX1_setFigure (th : Int32) (ch : Int32) (nt : Nat → Int32) (fg : Nat → Int32) (wt : Nat → Int32) (mi : Int32) (a1 : Int32) (a2 : Int32) : Option (Int32 × Int32 × (Nat → Int32)) :=
  fb_b1 (fX1_isChord 0 ch nt fg wt mi a1) (fun r2 =>
  if r2 = 0 then
    fb_b2 (fX1_no 0 ch nt fg wt mi 1) (fun r14 th_15 =>
    some (r14, th_15, fg))
  else
    fb_b1 (fX1_isIn a2 0 5) (fun r5 =>
    if r5 = 0 then
      fb_b2 (fX1_no 0 ch nt fg wt mi 2) (fun r10 th_11 =>
      some (r10, th_11, fg))
    else
      fb_ck (fb_ix a1 12) (
      some (fg a1.toNatClampNeg, 0, upd fg a1.toNatClampNeg a2))))
def fX1_put (th : Int32) (ch : Int32) (nt : Nat → Int32) (fg : Nat → Int32) (wt : Nat → Int32) (mi : Int32) (a1 : Int32) (a2 : Int32) (a3 : Int32) : Option (Int32 × Int32 × (Nat → Int32)) :=
  fb_b1 (fX1_isChord 0 ch nt fg wt mi a1) (fun r2 =>
  if r2 = 0 then
    fb_b2 (fX1_no 0 ch nt fg wt mi 1) (fun r5 th_6 =>
    some (r5, th_6, nt))
  else
    fb_b1 (fX1_isIn a2 1 3) (fun r9 =>
    if r9 = 0 then
      fb_b2 (fX1_no 0 ch nt fg wt mi 1) (fun r28 th_29 =>
      some (r28, th_29, nt))
    else
      if a3 = (-1) then
        fb_b1 (fX1_at 0 ch nt fg wt mi a1 a2) (fun r13 =>
        fb_ck (fb_ix (((4 : Int32) * a1) + a2) 48) (
        some (r13, 0, upd nt (((4 : Int32) * a1) + a2).toNatClampNeg a3)))
      else
        fb_b1 (fX1_isOf a2 a3) (fun r17 =>
        if r17 = 0 then
          fb_b2 (fX1_no 0 ch nt fg wt mi 2) (fun r24 th_25 =>
          some (r24, th_25, nt))
        else
          fb_b1 (fX1_at 0 ch nt fg wt mi a1 a2) (fun r20 =>
          fb_ck (fb_ix (((4 : Int32) * a1) + a2) 48) (
          some (r20, 0, upd nt (((4 : Int32) * a1) + a2).toNatClampNeg a3))))))
def fX1_drop (th : Int32) (ch : Int32) (nt : Nat → Int32) (fg : Nat → Int32) (wt : Nat → Int32) (mi : Int32) : Option (Int32 × Int32 × Int32) :=
  if ch = 0 then
    fb_b2 (fX1_no 0 ch nt fg wt mi 1) (fun r4 th_5 =>
    some (r4, th_5, ch))
  else
    some (ch - 1, 0, ch - 1)
def fX1_setKey (th : Int32) (ch : Int32) (nt : Nat → Int32) (fg : Nat → Int32) (wt : Nat → Int32) (mi : Int32) (a1 : Int32) : Option (Int32 × Int32 × Int32) :=
  fb_ck (fb_z a1) (
  fb_ck (fb_z mi) (some (mi, 0, a1)))
def fX1_setWeight (th : Int32) (ch : Int32) (nt : Nat → Int32) (fg : Nat → Int32) (wt : Nat → Int32) (mi : Int32) (a1 : Int32) (a2 : Int32) : Option (Int32 × Int32 × (Nat → Int32)) :=
  fb_b1 (fX1_isIn a1 0 7) (fun r2 =>
  if r2 = 0 then
    fb_b2 (fX1_no 0 ch nt fg wt mi 1) (fun r14 th_15 =>
    some (r14, th_15, wt))
  else
    fb_b1 (fX1_isIn a2 0 9) (fun r5 =>
    if r5 = 0 then
      fb_b2 (fX1_no 0 ch nt fg wt mi 2) (fun r10 th_11 =>
      some (r10, th_11, wt))
    else
      fb_ck (fb_ix a1 8) (
      some (wt a1.toNatClampNeg, 0, upd wt a1.toNatClampNeg a2))))
def fX1_lead (th : Int32) (ch : Int32) (nt : Nat → Int32) (fg : Nat → Int32) (wt : Nat → Int32) (mi : Int32) (a1 : Int32) : Option (Int32 × Int32 × (Nat → Int32)) :=
  fb_b1 (fX1_isChord 0 ch nt fg wt mi a1) (fun r2 =>
  if r2 = 0 then
    fb_b2 (fX1_no 0 ch nt fg wt mi 1) (fun r16 th_17 =>
    some (r16, th_17, nt))
  else
    fb_b2 (fX1_isLed 0 ch nt fg wt mi a1) (fun r5 nt_6 =>
    if r5 = 0 then
      fb_b2 (fX1_no 0 ch nt_6 fg wt mi 2) (fun r9 th_10 =>
      some (r9, th_10, nt_6))
    else
      fb_b1 (fX1_cost 0 ch nt_6 fg wt mi a1) (fun r13 =>
      some (r13, 0, nt_6))))
def lpX1_leadAll_9 (ch : Int32) (fg : Nat → Int32) (wt : Nat → Int32) (mi : Int32) : Nat → (Int32) → (Int32) → (Nat → Int32) → Option (Int32 × Int32 × (Nat → Int32))
  | 0, _, _, _ => none
  | n + 1, v1, v2, nt_3 =>
    if ch ≤ v1 then
    some (v1, v2, nt_3)
  else
    fb_b2 (fX1_isLed 0 ch nt_3 fg wt mi v1) (fun r6 nt_7 =>
    fb_b1 (if r6 = 0 then
        some 0
      else
        some 1) (fun (j9 : Int32) =>
    lpX1_leadAll_9 ch fg wt mi n (v1 + 1) (v2 + j9) nt_7))
def fX1_leadAll (th : Int32) (ch : Int32) (nt : Nat → Int32) (fg : Nat → Int32) (wt : Nat → Int32) (mi : Int32) : Option (Int32 × Int32 × (Nat → Int32)) :=
  fb_b3 (lpX1_leadAll_9 ch fg wt mi 14 0 0 nt) (fun o10 o11 o12 =>
  some (o11, 0, o12))
def fX1_note (th : Int32) (ch : Int32) (nt : Nat → Int32) (fg : Nat → Int32) (wt : Nat → Int32) (mi : Int32) (a1 : Int32) (a2 : Int32) : Option (Int32 × Int32) :=
  fb_b1 (fX1_isChord 0 ch nt fg wt mi a1) (fun r2 =>
  if r2 = 0 then
    fb_b2 (fX1_no 0 ch nt fg wt mi 1) (fun r5 th_6 =>
    some (r5, th_6))
  else
    fb_b1 (fX1_isIn a2 0 3) (fun r9 =>
    if r9 = 0 then
      fb_b2 (fX1_no 0 ch nt fg wt mi 1) (fun r12 th_13 =>
      some (r12, th_13))
    else
      fb_b1 (fX1_at 0 ch nt fg wt mi a1 a2) (fun r16 =>
      some (r16, 0))))
def fX1_chordTold (th : Int32) (ch : Int32) (nt : Nat → Int32) (fg : Nat → Int32) (wt : Nat → Int32) (mi : Int32) (a1 : Int32) (a2 : Int32) : Option (Int32) :=
  if a2 = 0 then
    fb_ck (fb_ix a1 12) (
    some (fg a1.toNatClampNeg))
  else if a2 = 1 then
    fb_b1 (fX1_at th ch nt fg wt mi a1 0) (fun r5 =>
    some (r5 - r5 / 7 * 7))
  else if a2 = 2 then
    fb_b1 (fX1_isSet th ch nt fg wt mi a1) (fun r8 =>
    if r8 = 0 then
      some 0
    else
      some 1)
  else if a2 = 3 then
    fb_b1 (fX1_isRight th ch nt fg wt mi a1) (fun r13 =>
    if r13 = 0 then
      some 0
    else
      some 1)
  else if a2 = 4 then
    fb_b1 (fX1_steps th ch nt fg wt mi a1) (fun r18 =>
    some r18)
  else 
    fb_b1 (fX1_cost th ch nt fg wt mi a1) (fun r21 =>
    some r21)
def fX1_told (th : Int32) (ch : Int32) (nt : Nat → Int32) (fg : Nat → Int32) (wt : Nat → Int32) (mi : Int32) (a1 : Int32) (a2 : Int32) : Option (Int32 × Int32) :=
  fb_b1 (fX1_isChord 0 ch nt fg wt mi a1) (fun r2 =>
  if r2 = 0 then
    fb_b2 (fX1_no 0 ch nt fg wt mi 1) (fun r5 th_6 =>
    some (r5, th_6))
  else
    fb_b1 (fX1_isIn a2 0 5) (fun r9 =>
    if r9 = 0 then
      fb_b2 (fX1_no 0 ch nt fg wt mi 1) (fun r12 th_13 =>
      some (r12, th_13))
    else
      fb_b1 (fX1_chordTold 0 ch nt fg wt mi a1 a2) (fun r16 =>
      some (r16, 0))))
def fX1_faults (th : Int32) (ch : Int32) (nt : Nat → Int32) (fg : Nat → Int32) (wt : Nat → Int32) (mi : Int32) (a1 : Int32) (a2 : Int32) : Option (Int32 × Int32) :=
  fb_b1 (fX1_isChord 0 ch nt fg wt mi a1) (fun r2 =>
  if r2 = 0 then
    fb_b2 (fX1_no 0 ch nt fg wt mi 1) (fun r5 th_6 =>
    some (r5, th_6))
  else
    fb_b1 (fX1_isIn a2 0 7) (fun r9 =>
    if r9 = 0 then
      fb_b2 (fX1_no 0 ch nt fg wt mi 1) (fun r12 th_13 =>
      some (r12, th_13))
    else
      fb_b1 (fX1_faultsOf 0 ch nt fg wt mi a1 a2) (fun r16 =>
      some (r16, 0))))
def lpX1_all_4 (a1 : Int32) (th : Int32) (ch : Int32) (nt : Nat → Int32) (fg : Nat → Int32) (wt : Nat → Int32) (mi : Int32) : Nat → (Int32) → (Int32) → Option (Int32 × Int32)
  | 0, _, _ => none
  | n + 1, v1, v2 =>
    if ch ≤ v1 then
    some (v1, v2)
  else
    fb_b1 (fX1_chordTold th ch nt fg wt mi v1 a1) (fun r5 =>
    lpX1_all_4 a1 th ch nt fg wt mi n (v1 + 1) (v2 + r5))
def fX1_all (th : Int32) (ch : Int32) (nt : Nat → Int32) (fg : Nat → Int32) (wt : Nat → Int32) (mi : Int32) (a1 : Int32) : Option (Int32) :=
  fb_b2 (lpX1_all_4 a1 th ch nt fg wt mi 14 0 0) (fun o6 o7 =>
  some o7)
def lpX1_allFaults_4 (th : Int32) (ch : Int32) (nt : Nat → Int32) (fg : Nat → Int32) (wt : Nat → Int32) (mi : Int32) : Nat → (Int32) → (Int32) → Option (Int32 × Int32)
  | 0, _, _ => none
  | n + 1, v1, v2 =>
    if ((8 : Int32) * ch) ≤ v1 then
    some (v1, v2)
  else
    fb_b1 (fX1_faultsOf th ch nt fg wt mi (v1 / 8) (v1 - v1 / 8 * 8)) (fun r5 =>
    lpX1_allFaults_4 th ch nt fg wt mi n (v1 + 1) (v2 + r5))
def fX1_allFaults (th : Int32) (ch : Int32) (nt : Nat → Int32) (fg : Nat → Int32) (wt : Nat → Int32) (mi : Int32) : Option (Int32) :=
  fb_b2 (lpX1_allFaults_4 th ch nt fg wt mi 100 0 0) (fun o6 o7 =>
  some o7)
def fX1_counted (th : Int32) (ch : Int32) (nt : Nat → Int32) (fg : Nat → Int32) (wt : Nat → Int32) (mi : Int32) (a1 : Int32) : Option (Int32) :=
  if a1 = 0 then
    some ch
  else if a1 = 1 then
    fb_b1 (fX1_all th ch nt fg wt mi (a1 + 1)) (fun r4 =>
    some r4)
  else if a1 = 2 then
    fb_b1 (fX1_all th ch nt fg wt mi (a1 + 1)) (fun r7 =>
    some r7)
  else if a1 = 3 then
    fb_b1 (fX1_all th ch nt fg wt mi 4) (fun r10 =>
    some r10)
  else if a1 = 4 then
    fb_b1 (fX1_allFaults th ch nt fg wt mi) (fun r13 =>
    some r13)
  else if a1 = 5 then
    fb_b1 (fX1_all th ch nt fg wt mi 5) (fun r16 =>
    some r16)
  else 
    if mi = 0 then
      some 0
    else
      some 1
def fX1_count (th : Int32) (ch : Int32) (nt : Nat → Int32) (fg : Nat → Int32) (wt : Nat → Int32) (mi : Int32) (a1 : Int32) : Option (Int32 × Int32) :=
  fb_b1 (fX1_isIn a1 0 6) (fun r2 =>
  if r2 = 0 then
    fb_b2 (fX1_no 0 ch nt fg wt mi 1) (fun r5 th_6 =>
    some (r5, th_6))
  else
    fb_b1 (fX1_counted 0 ch nt fg wt mi a1) (fun r9 =>
    some (r9, 0)))
def fX1_pitch (th : Int32) (ch : Int32) (nt : Nat → Int32) (fg : Nat → Int32) (wt : Nat → Int32) (mi : Int32) (a1 : Int32) : Option (Int32 × Int32) :=
  fb_b1 (fX1_isIn a1 0 27) (fun r2 =>
  if r2 = 0 then
    fb_b2 (fX1_no 0 ch nt fg wt mi 1) (fun r5 th_6 =>
    some (r5, th_6))
  else
    fb_b1 (fX1_pitchOf 0 ch nt fg wt mi a1) (fun r9 =>
    some (r9, 0)))
def fX1_fits (th : Int32) (ch : Int32) (nt : Nat → Int32) (fg : Nat → Int32) (wt : Nat → Int32) (mi : Int32) (a1 : Int32) (a2 : Int32) (a3 : Int32) : Option (Int32 × Int32) :=
  fb_b1 (fX1_isChord 0 ch nt fg wt mi a1) (fun r2 =>
  if r2 = 0 then
    fb_b2 (fX1_no 0 ch nt fg wt mi 1) (fun r5 th_6 =>
    if r5 ≤ 0 then
      some (0, th_6)
    else
      some (1, th_6))
  else
    fb_b1 (fX1_isIn a2 1 3) (fun r11 =>
    if r11 = 0 then
      fb_b2 (fX1_no 0 ch nt fg wt mi 1) (fun r35 th_36 =>
      if r35 ≤ 0 then
        some (0, th_36)
      else
        some (1, th_36))
    else
      fb_b1 (fX1_isIn a3 0 27) (fun r14 =>
      if r14 = 0 then
        fb_b2 (fX1_no 0 ch nt fg wt mi 2) (fun r29 th_30 =>
        if r29 ≤ 0 then
          some (0, th_30)
        else
          some (1, th_30))
      else
        fb_b1 (fX1_isOf a2 a3) (fun r17 =>
        if r17 = 0 then
          some (0, 0)
        else
          fb_b1 (fX1_at 0 ch nt fg wt mi a1 0) (fun r21 =>
          fb_ck (fb_ix a1 12) (
          fb_b1 (fX1_belongs a3 r21 (fg a1.toNatClampNeg)) (fun r24 =>
          if r24 = 0 then
            some (0, 0)
          else
            some (1, 0))))))))
def fX1_ways (th : Int32) (ch : Int32) (nt : Nat → Int32) (fg : Nat → Int32) (wt : Nat → Int32) (mi : Int32) (a1 : Int32) : Option (Int32 × Int32 × (Nat → Int32)) :=
  fb_b1 (fX1_isChord 0 ch nt fg wt mi a1) (fun r2 =>
  if r2 = 0 then
    fb_b2 (fX1_no 0 ch nt fg wt mi 1) (fun r5 th_6 =>
    some (r5, th_6, nt))
  else
    fb_b2 (fX1_led 0 ch nt fg wt mi a1) (fun nt_9 f10 =>
    some (f10 (2 : Int32).toNatClampNeg, 0, nt_9)))
def fX1_would (th : Int32) (ch : Int32) (nt : Nat → Int32) (fg : Nat → Int32) (wt : Nat → Int32) (mi : Int32) (a1 : Int32) (a2 : Int32) (a3 : Int32) : Option (Int32 × Int32 × (Nat → Int32)) :=
  fb_b1 (fX1_isChord 0 ch nt fg wt mi a1) (fun r2 =>
  if r2 = 0 then
    fb_b2 (fX1_no 0 ch nt fg wt mi 1) (fun r5 th_6 =>
    some (r5, th_6, nt))
  else
    fb_b1 (fX1_isIn a2 1 3) (fun r9 =>
    if r9 = 0 then
      fb_b2 (fX1_no 0 ch nt fg wt mi 1) (fun r32 th_33 =>
      some (r32, th_33, nt))
    else
      if a3 = (-1) then
        fb_b1 (fX1_at 0 ch nt fg wt mi a1 a2) (fun r13 =>
        fb_ck (fb_ix (((4 : Int32) * a1) + a2) 48) (
        fb_b1 (fX1_all 0 ch (upd nt (((4 : Int32) * a1) + a2).toNatClampNeg a3) fg wt mi 5) (fun r16 =>
        some (r16, 0, upd (upd nt (((4 : Int32) * a1) + a2).toNatClampNeg a3) (((4 : Int32) * a1) + a2).toNatClampNeg r13))))
      else
        fb_b1 (fX1_isOf a2 a3) (fun r19 =>
        if r19 = 0 then
          fb_b2 (fX1_no 0 ch nt fg wt mi 2) (fun r28 th_29 =>
          some (r28, th_29, nt))
        else
          fb_b1 (fX1_at 0 ch nt fg wt mi a1 a2) (fun r22 =>
          fb_ck (fb_ix (((4 : Int32) * a1) + a2) 48) (
          fb_b1 (fX1_all 0 ch (upd nt (((4 : Int32) * a1) + a2).toNatClampNeg a3) fg wt mi 5) (fun r25 =>
          some (r25, 0, upd (upd nt (((4 : Int32) * a1) + a2).toNatClampNeg a3) (((4 : Int32) * a1) + a2).toNatClampNeg r22)))))))
def fX1_best (th : Int32) (ch : Int32) (nt : Nat → Int32) (fg : Nat → Int32) (wt : Nat → Int32) (mi : Int32) (a1 : Int32) : Option (Int32 × Int32 × (Nat → Int32)) :=
  fb_b1 (fX1_isChord 0 ch nt fg wt mi a1) (fun r2 =>
  if r2 = 0 then
    fb_b2 (fX1_no 0 ch nt fg wt mi 1) (fun r5 th_6 =>
    some (r5, th_6, nt))
  else
    fb_b2 (fX1_led 0 ch nt fg wt mi a1) (fun nt_9 f10 =>
    some (f10 (0 : Int32).toNatClampNeg, 0, nt_9)))
def lpX1_advise_34 (a1 : Int32) (ch : Int32) (wt : Nat → Int32) (mi : Int32) : Nat → (Int32) → (Int32) → (Int32) → (Nat → Int32) → (Nat → Int32) → Option (Int32 × Int32 × Int32 × (Nat → Int32) × (Nat → Int32))
  | 0, _, _, _, _, _ => none
  | n + 1, v5, v6, v7, nt_8, fg_9 =>
    if 6 ≤ v5 then
    some (v5, v6, v7, nt_8, fg_9)
  else
    fb_b2 (fX1_led 0 ch nt_8 (upd fg_9 a1.toNatClampNeg v5) wt mi a1) (fun nt_12 f13 =>
    fb_b2 (if (f13 (0 : Int32).toNatClampNeg) = (-1) then
        some (v6, v7)
      else
        if v7 = (-1) then
          some (f13 (1 : Int32).toNatClampNeg, v5)
        else
          if (f13 (1 : Int32).toNatClampNeg) < v6 then
            some (f13 (1 : Int32).toNatClampNeg, v5)
          else
            some (v6, v7)) (fun (j18 : Int32) (j19 : Int32) =>
    lpX1_advise_34 a1 ch wt mi n (v5 + 1) j18 j19 nt_12 (upd fg_9 a1.toNatClampNeg v5)))
def fX1_advise (th : Int32) (ch : Int32) (nt : Nat → Int32) (fg : Nat → Int32) (wt : Nat → Int32) (mi : Int32) (a1 : Int32) : Option (Int32 × Int32 × (Nat → Int32) × (Nat → Int32)) :=
  fb_b1 (fX1_isChord 0 ch nt fg wt mi a1) (fun r2 =>
  if r2 = 0 then
    fb_b2 (fX1_no 0 ch nt fg wt mi 1) (fun r28 th_29 =>
    some (r28, th_29, nt, fg))
  else
    fb_ck (fb_ix a1 12) (
    fb_b5 (lpX1_advise_34 a1 ch wt mi 14 0 0 (-1) nt fg) (fun o20 o21 o22 o23 o24 =>
    some (o22, 0, o23, upd o24 a1.toNatClampNeg (fg a1.toNatClampNeg)))))
def fX1_mean (th : Int32) (ch : Int32) (nt : Nat → Int32) (fg : Nat → Int32) (wt : Nat → Int32) (mi : Int32) : Option (UInt64 × Int32) :=
  fb_b1 (fX1_all 0 ch nt fg wt mi 2) (fun r2 =>
  if r2 = 0 then
    some (FP.dconst0, 0)
  else
    fb_b1 (fX1_all 0 ch nt fg wt mi 5) (fun r5 =>
    fb_b1 (fX1_all 0 ch nt fg wt mi 2) (fun r7 =>
    some (FP.ddiv (FP.i2d r5) (FP.i2d r7), 0))))
def lpX1_digest_11 (ch : Int32) (nt : Nat → Int32) (fg : Nat → Int32) (wt : Nat → Int32) (mi : Int32) : Nat → (Int32) → (Int64) → Option (Int32 × Int64)
  | 0, _, _ => none
  | n + 1, v1, v2 =>
    if 7 ≤ v1 then
    some (v1, v2)
  else
    fb_b1 (fX1_counted 0 ch nt fg wt mi v1) (fun r5 =>
    lpX1_digest_11 ch nt fg wt mi n (v1 + 1) ((v2 * 31) + r5.toInt64))
def lpX1_digest_48 (wt : Nat → Int32) : Nat → (Int32) → (Int64) → Option (Int32 × Int64)
  | 0, _, _ => none
  | n + 1, v8, v9 =>
    if 8 ≤ v8 then
    some (v8, v9)
  else
    fb_ck (fb_ix v8 8) (
    lpX1_digest_48 wt n (v8 + 1) ((v9 * 31) + ((wt v8.toNatClampNeg).toInt64)))
def lpX1_digest_90 (ch : Int32) (fg : Nat → Int32) (wt : Nat → Int32) (mi : Int32) (v14 : Int32) (nt_16 : Nat → Int32) : Nat → (Int32) → (Int64) → Option (Int32 × Int64)
  | 0, _, _ => none
  | n + 1, v18, v19 =>
    if 4 ≤ v18 then
    some (v18, v19)
  else
    fb_b1 (fX1_at 0 ch nt_16 fg wt mi v14 v18) (fun r22 =>
    lpX1_digest_90 ch fg wt mi v14 nt_16 n (v18 + 1) ((v19 * 31) + r22.toInt64))
def lpX1_digest_120 (ch : Int32) (fg : Nat → Int32) (wt : Nat → Int32) (mi : Int32) (v14 : Int32) (nt_16 : Nat → Int32) : Nat → (Int32) → (Int64) → Option (Int32 × Int64)
  | 0, _, _ => none
  | n + 1, v25, v26 =>
    if 6 ≤ v25 then
    some (v25, v26)
  else
    fb_b1 (fX1_chordTold 0 ch nt_16 fg wt mi v14 v25) (fun r29 =>
    lpX1_digest_120 ch fg wt mi v14 nt_16 n (v25 + 1) ((v26 * 31) + r29.toInt64))
def lpX1_digest_151 (ch : Int32) (fg : Nat → Int32) (wt : Nat → Int32) (mi : Int32) (v14 : Int32) (nt_16 : Nat → Int32) : Nat → (Int32) → (Int64) → Option (Int32 × Int64)
  | 0, _, _ => none
  | n + 1, v32, v33 =>
    if 8 ≤ v32 then
    some (v32, v33)
  else
    fb_b1 (fX1_faultsOf 0 ch nt_16 fg wt mi v14 v32) (fun r36 =>
    lpX1_digest_151 ch fg wt mi v14 nt_16 n (v32 + 1) ((v33 * 31) + r36.toInt64))
def lpX1_digest_79 (ch : Int32) (fg : Nat → Int32) (wt : Nat → Int32) (mi : Int32) : Nat → (Int32) → (Int64) → (Nat → Int32) → Option (Int32 × Int64 × (Nat → Int32))
  | 0, _, _, _ => none
  | n + 1, v14, v15, nt_16 =>
    if ch ≤ v14 then
    some (v14, v15, nt_16)
  else
    fb_b2 (lpX1_digest_90 ch fg wt mi v14 nt_16 14 0 v15) (fun o23 o24 =>
    fb_b2 (lpX1_digest_120 ch fg wt mi v14 nt_16 14 0 o24) (fun o30 o31 =>
    fb_b2 (lpX1_digest_151 ch fg wt mi v14 nt_16 14 0 o31) (fun o37 o38 =>
    fb_b2 (fX1_led 0 ch nt_16 fg wt mi v14) (fun nt_40 f41 =>
    lpX1_digest_79 ch fg wt mi n (v14 + 1) ((o38 * 31) + ((f41 (2 : Int32).toNatClampNeg).toInt64)) nt_40))))
def fX1_digest (th : Int32) (ch : Int32) (nt : Nat → Int32) (fg : Nat → Int32) (wt : Nat → Int32) (mi : Int32) : Option (Int64 × Int32 × (Nat → Int32)) :=
  fb_b2 (lpX1_digest_11 ch nt fg wt mi 14 0 1693) (fun o6 o7 =>
  fb_b2 (lpX1_digest_48 wt 14 0 o7) (fun o12 o13 =>
  fb_b3 (lpX1_digest_79 ch fg wt mi 14 0 o13 nt) (fun o46 o47 o48 =>
  some (o47, 0, o48))))
