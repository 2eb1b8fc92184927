/-! The law's loop as a function, printed by wip/p24/lgen3.py. -/
def lpL_law_487 (sz : Int32) (mi : Int32) (wt : Nat → Int32) (fg_84 : Nat → Int32) (nt_85 : Nat → Int32) (v88 : Int32) (wl_89 : Nat → Int32) : Nat → (Int32) → (Nat → Int32) → Option (Int32 × (Nat → Int32))
  | 0, _, _ => none
  | n + 1, v98, f99 =>
    if 8 ≤ v98 then
    some (v98, f99)
  else
    fb_b1 (fX0_faults sz mi fg_84 nt_85 wt wl_89 v88 v98) (fun re => fb_mt re (fun v102 =>
    lpL_law_487 sz mi wt fg_84 nt_85 v88 wl_89 n (v98 + 1) (upd f99 (3 : Int32).toNatClampNeg ((f99 (3 : Int32).toNatClampNeg) + v102))) (fun _ => none))
def lpL_law_436 (sz : Int32) (mi : Int32) (wt : Nat → Int32) (v3 : Int32) (fg_84 : Nat → Int32) (nt_85 : Nat → Int32) : Nat → (Int32) → (Nat → Int32) → (Nat → Int32) → Option (Int32 × (Nat → Int32) × (Nat → Int32))
  | 0, _, _, _ => none
  | n + 1, v88, wl_89, f90 =>
    if v3 ≤ v88 then
    some (v88, wl_89, f90)
  else
    fb_b1 (fX0_told sz mi fg_84 nt_85 wt wl_89 v88 2) (fun re => fb_mt re (fun v93 =>
    fb_b1 (fX0_told sz mi fg_84 nt_85 wt wl_89 v88 4) (fun re => fb_mt re (fun v95 =>
    fb_b1 (fX0_told sz mi fg_84 nt_85 wt wl_89 v88 5) (fun re => fb_mt re (fun v97 =>
    fb_b2 (lpL_law_487 sz mi wt fg_84 nt_85 v88 wl_89 14 0 (upd (upd (upd f90 (0 : Int32).toNatClampNeg ((f90 (0 : Int32).toNatClampNeg) + v93)) (1 : Int32).toNatClampNeg (((upd f90 (0 : Int32).toNatClampNeg ((f90 (0 : Int32).toNatClampNeg) + v93)) (1 : Int32).toNatClampNeg) + v95)) (2 : Int32).toNatClampNeg (((upd (upd f90 (0 : Int32).toNatClampNeg ((f90 (0 : Int32).toNatClampNeg) + v93)) (1 : Int32).toNatClampNeg (((upd f90 (0 : Int32).toNatClampNeg ((f90 (0 : Int32).toNatClampNeg) + v93)) (1 : Int32).toNatClampNeg) + v95)) (2 : Int32).toNatClampNeg) + v97))) (fun o103 o104 =>
    fb_b1 (fX0_told sz mi fg_84 nt_85 wt wl_89 v88 3) (fun re => fb_mt re (fun v106 =>
    fb_b1 (fX0_told sz mi fg_84 nt_85 wt wl_89 v88 2) (fun re => fb_mt re (fun v108 =>
    if v108 < v106 then
      none
    else
      fb_b1 (fX0_told sz mi fg_84 nt_85 wt wl_89 v88 5) (fun re => fb_mt re (fun v111 =>
      fb_b1 (fX0_told sz mi fg_84 nt_85 wt wl_89 v88 4) (fun re => fb_mt re (fun v113 =>
      if v111 < v113 then
        none
      else
        fb_b1 (fX0_told sz mi fg_84 nt_85 wt wl_89 v88 3) (fun re => fb_mt re (fun v116 =>
        fb_b1 (if v116 = 1 then
            fb_b1 (fX0_ways sz mi fg_84 nt_85 wt wl_89 v88) (fun re => fb_mt re (fun v119 =>
            if v119.1 = 0 then
              none
            else
              fb_b1 (fX0_note sz mi fg_84 nt_85 wt v119.2 v88 1) (fun re => fb_mt re (fun v122 =>
              fb_b1 (fX0_fits sz mi fg_84 nt_85 wt v119.2 v88 1 v122) (fun re => fb_mt re (fun v124 =>
              if v124 = 0 then
                none
              else
                fb_b1 (fX0_note sz mi fg_84 nt_85 wt v119.2 v88 2) (fun re => fb_mt re (fun v127 =>
                fb_b1 (fX0_fits sz mi fg_84 nt_85 wt v119.2 v88 2 v127) (fun re => fb_mt re (fun v129 =>
                if v129 = 0 then
                  none
                else
                  fb_b1 (fX0_note sz mi fg_84 nt_85 wt v119.2 v88 3) (fun re => fb_mt re (fun v132 =>
                  fb_b1 (fX0_fits sz mi fg_84 nt_85 wt v119.2 v88 3 v132) (fun re => fb_mt re (fun v134 =>
                  if v134 = 0 then
                    none
                  else
                    some v119.2) (fun _ => none))) (fun _ => none))) (fun _ => none))) (fun _ => none))) (fun _ => none))) (fun _ => none))) (fun _ => none))
          else
            some wl_89) (fun (wl_136 : Nat → Int32) =>
        lpL_law_436 sz mi wt v3 fg_84 nt_85 n (v88 + 1) wl_136 o104)) (fun _ => none))) (fun _ => none))) (fun _ => none))) (fun _ => none))) (fun _ => none)))) (fun _ => none))) (fun _ => none))) (fun _ => none))
def lpL_law_17 (xs : Nat → Int32) (L : Nat) (v3 : Int32) : Nat → (Int32) → (Int32) → (Int32) → (Nat → Int32) → (Nat → Int32) → (Nat → Int32) → (Nat → Int32) → Option Int32
  | 0, _, _, _, _, _, _, _ => none
  | n + 1, v4, sz, mi, fg, nt, wt, wl =>
    if 16 ≤ v4 then
    some 1
  else
    fb_b1 (fL_cell xs L v4) (fun r4 =>
    fb_b1 (fL_below xs L (r4 >>> ((2 : Int32) &&& 31)) v3) (fun r6 =>
    fb_b1 (fL_below xs L (r4 >>> ((4 : Int32) &&& 31)) 3) (fun r8 =>
    fb_b1 (fL_below xs L (r4 >>> ((6 : Int32) &&& 31)) 3) (fun r10 =>
    fb_b2 (fX0_digest sz mi fg nt wt wl) (fun r12 wl_13 =>
    fb_b1 (fX0_would sz mi fg nt wt wl_13 r6 ((1 : Int32) + r8) ((12 : Int32) + r10)) (fun re => fb_mt re (fun v15 =>
    fb_b1 (fX0_best sz mi fg v15.2 wt wl_13 r6) (fun re => fb_mt re (fun v17 =>
    fb_b1 (fX0_ways sz mi fg v17.2.1 wt v17.2.2 r6) (fun re => fb_mt re (fun v19 =>
    fb_b1 (fX0_advise sz mi fg v17.2.1 wt v19.2 r6) (fun re => fb_mt re (fun v21 =>
    fb_b2 (fX0_digest sz mi v21.2.1 v21.2.2.1 wt v21.2.2.2) (fun r23 wl_24 =>
    if (lg_cmp r23 r12) = 0 then
      fb_b1 (if 0 ≤ v17.1 then
          some 0
        else
          some 1) (fun (j27 : Int32) =>
      fb_b1 (if v19.1 = 0 then
          some 1
        else
          some 0) (fun (j29 : Int32) =>
      if j27 = j29 then
        if v21.1 < (-1) then
          none
        else
          if v21.1 ≤ 5 then
            fb_b1 (fX0_told sz mi v21.2.1 v21.2.2.1 wt wl_24 r6 5) (fun re => fb_mt re (fun v34 =>
            fb_b1 (if v3 ≤ (r6 + 1) then
                some 0
              else
                fb_b1 (fX0_told sz mi v21.2.1 v21.2.2.1 wt wl_24 (r6 + 1) 5) (fun re => fb_mt re (fun v37 =>
                some v37) (fun _ => none))) (fun (j38 : Int32) =>
            fb_b1 (fX0_told sz mi v21.2.1 v21.2.2.1 wt wl_24 r6 3) (fun re => fb_mt re (fun v40 =>
            fb_b1 (if v40 = 1 then
                some 1
              else
                some 0) (fun (j42 : Int32) =>
            fb_b1 (fL_below xs L r4 5) (fun r44 =>
            fb_b3 (if r44 = 0 then
                fb_b1 (fX0_put sz mi v21.2.1 v21.2.2.1 wt wl_24 r6 ((1 : Int32) + r8) ((12 : Int32) + r10)) (fun re => fb_mt re (fun v47 =>
                fb_b1 (fX0_count sz mi v21.2.1 v47.2 wt wl_24 5) (fun re => fb_mt re (fun v49 =>
                if v49 = v15.1 then
                  fb_b1 (fX0_note sz mi v21.2.1 v47.2 wt wl_24 r6 ((1 : Int32) + r8)) (fun re => fb_mt re (fun v52 =>
                  if v52 = ((12 : Int32) + r10) then
                    some (v21.2.1, v47.2, wl_24)
                  else
                    none) (fun _ => none))
                else
                  none) (fun _ => none))) (fun _ => none))
              else if r44 = 1 then
                fb_b1 (fL_below xs L (r4 >>> ((5 : Int32) &&& 31)) 14) (fun r55 =>
                fb_b1 (fX0_setBass sz mi v21.2.1 v21.2.2.1 wt wl_24 r6 r55) (fun re => fb_mt re (fun v57 =>
                some (v21.2.1, v57.2, wl_24)) (fun _ => none)))
              else if r44 = 2 then
                fb_b1 (fL_below xs L (r4 >>> ((5 : Int32) &&& 31)) 6) (fun r59 =>
                fb_b1 (fX0_setFigure sz mi v21.2.1 v21.2.2.1 wt wl_24 r6 r59) (fun re => fb_mt re (fun v61 =>
                some (v61.2, v21.2.2.1, wl_24)) (fun _ => none)))
              else 
                if v19.1 = 0 then
                  some (v21.2.1, v21.2.2.1, wl_24)
                else
                  fb_b1 (fX0_lead sz mi v21.2.1 v21.2.2.1 wt wl_24 r6) (fun re => fb_mt re (fun v64 =>
                  fb_b1 (if v3 ≤ (r6 + 1) then
                      some 0
                    else
                      fb_b1 (fX0_told sz mi v21.2.1 v64.2.1 wt v64.2.2 (r6 + 1) 5) (fun re => fb_mt re (fun v67 =>
                      some v67) (fun _ => none))) (fun (j68 : Int32) =>
                  fb_b1 (fX0_told sz mi v21.2.1 v64.2.1 wt v64.2.2 r6 3) (fun re => fb_mt re (fun v70 =>
                  if v70 = 1 then
                    fb_b1 (fX0_told sz mi v21.2.1 v64.2.1 wt v64.2.2 r6 5) (fun re => fb_mt re (fun v73 =>
                    if v73 = v64.1 then
                      fb_b0 (if j42 = 0 then
                          some ()
                        else
                          if (v34 + j38) < (v64.1 + j68) then
                            none
                          else
                            some ()) (
                      fb_b1 (fX0_note sz mi v21.2.1 v64.2.1 wt v64.2.2 r6 1) (fun re => fb_mt re (fun v78 =>
                      fb_b1 (fX0_note sz mi v21.2.1 v64.2.1 wt v64.2.2 r6 2) (fun re => fb_mt re (fun v80 =>
                      fb_b1 (fX0_note sz mi v21.2.1 v64.2.1 wt v64.2.2 r6 3) (fun re => fb_mt re (fun v82 =>
                      if ((((784 : Int32) * v78) + ((28 : Int32) * v80)) + v82) = v17.1 then
                        some (v21.2.1, v64.2.1, v64.2.2)
                      else
                        none) (fun _ => none))) (fun _ => none))) (fun _ => none)))
                    else
                      none) (fun _ => none))
                  else
                    none) (fun _ => none)))) (fun _ => none))) (fun (fg_84 : Nat → Int32) (nt_85 : Nat → Int32) (wl_86 : Nat → Int32) =>
            fb_b3 (lpL_law_436 sz mi wt v3 fg_84 nt_85 14 0 wl_86 (fun _ => 0)) (fun o138 o139 o140 =>
            fb_b1 (fX0_count sz mi fg_84 nt_85 wt o139 1) (fun re => fb_mt re (fun v142 =>
            if v142 = (o140 (0 : Int32).toNatClampNeg) then
              fb_b1 (fX0_count sz mi fg_84 nt_85 wt o139 3) (fun re => fb_mt re (fun v145 =>
              if v145 = (o140 (1 : Int32).toNatClampNeg) then
                fb_b1 (fX0_count sz mi fg_84 nt_85 wt o139 5) (fun re => fb_mt re (fun v148 =>
                if v148 = (o140 (2 : Int32).toNatClampNeg) then
                  fb_b1 (fX0_count sz mi fg_84 nt_85 wt o139 4) (fun re => fb_mt re (fun v151 =>
                  if v151 = (o140 (3 : Int32).toNatClampNeg) then
                    fb_b1 (fX0_mean sz mi fg_84 nt_85 wt o139) (fun r154 =>
                    if (o140 (0 : Int32).toNatClampNeg) = 0 then
                      fb_ck (!fm_nan r154 && decide (r154 = FP.dconst0)) (
                      lpL_law_17 xs L v3 n (v4 + 1) sz mi fg_84 nt_85 wt o139)
                    else
                      fb_ck (!fm_nan r154 && decide (r154 = (FP.ddiv (FP.i2d (o140 (2 : Int32).toNatClampNeg)) (FP.i2d (o140 (0 : Int32).toNatClampNeg))))) (
                      lpL_law_17 xs L v3 n (v4 + 1) sz mi fg_84 nt_85 wt o139))
                  else
                    none) (fun _ => none))
                else
                  none) (fun _ => none))
              else
                none) (fun _ => none))
            else
              none) (fun _ => none))))))) (fun _ => none)))) (fun _ => none))
          else
            none
      else
        none))
    else
      none)) (fun _ => none))) (fun _ => none))) (fun _ => none))) (fun _ => none)))))))
