/-! The law's loop as a function, printed by wip/whole/lgen.py. -/
def lpL_law (xs : Nat → Int32) (L : Nat) : Nat → (Int32) → (Int32) → (Int32) → (Nat → Int32) → (Nat → Int32) → (Nat → Int32) → (Nat → Int32) → (Int32) → (Int32) → (Nat → Int32) → (Nat → Int32) → (Nat → Int32) → (Int32) → (Nat → Int64) → Option Int32
  | 0, _, _, _, _, _, _, _, _, _, _, _, _, _, _ => none
  | n + 1, v4, sz, mi, fg, nt, wt, wl, yth, ych, ynt, yfg, ywt, ymi, ob =>
    if ((Int32.ofNat L) - 4) < v4 then
    some 1
  else
    fb_ck (fb_ix v4 L) (
    if ((xs v4.toNatClampNeg) &&& 31) = 0 then
      fb_ck (fb_ix (v4 + 1) L) (
      fb_ck (fb_ix (v4 + 2) L) (
      fb_b5 (fL_chord sz mi fg nt wt wl ob (xs (v4 + 1).toNatClampNeg) (xs (v4 + 2).toNatClampNeg)) (fun r8 sz_9 fg_10 nt_11 ob_12 =>
      fb_b5 (fX1_chord yth ych ynt yfg ywt ymi (xs (v4 + 1).toNatClampNeg) (xs (v4 + 2).toNatClampNeg)) (fun r14 yth_15 ych_16 ynt_17 yfg_18 =>
      fb_b1 (fX1_thrown yth_15 ych_16 ynt_17 yfg_18 ywt ymi) (fun r20 =>
      if r20 = r8 then
        if r8 = 0 then
          if (lg_cmp (ob_12 (0 : Int32).toNatClampNeg) r14.toInt64) = 0 then
            lpL_law xs L n (v4 + 4) sz_9 mi fg_10 nt_11 wt wl yth_15 ych_16 ynt_17 yfg_18 ywt ymi ob_12
          else
            some 0
        else
          lpL_law xs L n (v4 + 4) sz_9 mi fg_10 nt_11 wt wl yth_15 ych_16 ynt_17 yfg_18 ywt ymi ob_12
      else
        some 0)))))
    else if ((xs v4.toNatClampNeg) &&& 31) = 1 then
      fb_ck (fb_ix (v4 + 1) L) (
      fb_ck (fb_ix (v4 + 2) L) (
      fb_b3 (fL_setBass sz mi fg nt wt wl ob (xs (v4 + 1).toNatClampNeg) (xs (v4 + 2).toNatClampNeg)) (fun r29 nt_30 ob_31 =>
      fb_b3 (fX1_setBass yth ych ynt yfg ywt ymi (xs (v4 + 1).toNatClampNeg) (xs (v4 + 2).toNatClampNeg)) (fun r33 yth_34 ynt_35 =>
      fb_b1 (fX1_thrown yth_34 ych ynt_35 yfg ywt ymi) (fun r37 =>
      if r37 = r29 then
        if r29 = 0 then
          if (lg_cmp (ob_31 (0 : Int32).toNatClampNeg) r33.toInt64) = 0 then
            lpL_law xs L n (v4 + 4) sz mi fg nt_30 wt wl yth_34 ych ynt_35 yfg ywt ymi ob_31
          else
            some 0
        else
          lpL_law xs L n (v4 + 4) sz mi fg nt_30 wt wl yth_34 ych ynt_35 yfg ywt ymi ob_31
      else
        some 0)))))
    else if ((xs v4.toNatClampNeg) &&& 31) = 2 then
      fb_ck (fb_ix (v4 + 1) L) (
      fb_ck (fb_ix (v4 + 2) L) (
      fb_b3 (fL_setFigure sz mi fg nt wt wl ob (xs (v4 + 1).toNatClampNeg) (xs (v4 + 2).toNatClampNeg)) (fun r46 fg_47 ob_48 =>
      fb_b3 (fX1_setFigure yth ych ynt yfg ywt ymi (xs (v4 + 1).toNatClampNeg) (xs (v4 + 2).toNatClampNeg)) (fun r50 yth_51 yfg_52 =>
      fb_b1 (fX1_thrown yth_51 ych ynt yfg_52 ywt ymi) (fun r54 =>
      if r54 = r46 then
        if r46 = 0 then
          if (lg_cmp (ob_48 (0 : Int32).toNatClampNeg) r50.toInt64) = 0 then
            lpL_law xs L n (v4 + 4) sz mi fg_47 nt wt wl yth_51 ych ynt yfg_52 ywt ymi ob_48
          else
            some 0
        else
          lpL_law xs L n (v4 + 4) sz mi fg_47 nt wt wl yth_51 ych ynt yfg_52 ywt ymi ob_48
      else
        some 0)))))
    else if ((xs v4.toNatClampNeg) &&& 31) = 3 then
      fb_ck (fb_ix (v4 + 1) L) (
      fb_ck (fb_ix (v4 + 2) L) (
      fb_ck (fb_ix (v4 + 3) L) (
      fb_b3 (fL_put sz mi fg nt wt wl ob (xs (v4 + 1).toNatClampNeg) (xs (v4 + 2).toNatClampNeg) (xs (v4 + 3).toNatClampNeg)) (fun r64 nt_65 ob_66 =>
      fb_b3 (fX1_put yth ych ynt yfg ywt ymi (xs (v4 + 1).toNatClampNeg) (xs (v4 + 2).toNatClampNeg) (xs (v4 + 3).toNatClampNeg)) (fun r68 yth_69 ynt_70 =>
      fb_b1 (fX1_thrown yth_69 ych ynt_70 yfg ywt ymi) (fun r72 =>
      if r72 = r64 then
        if r64 = 0 then
          if (lg_cmp (ob_66 (0 : Int32).toNatClampNeg) r68.toInt64) = 0 then
            lpL_law xs L n (v4 + 4) sz mi fg nt_65 wt wl yth_69 ych ynt_70 yfg ywt ymi ob_66
          else
            some 0
        else
          lpL_law xs L n (v4 + 4) sz mi fg nt_65 wt wl yth_69 ych ynt_70 yfg ywt ymi ob_66
      else
        some 0))))))
    else if ((xs v4.toNatClampNeg) &&& 31) = 4 then
      fb_b3 (fL_drop sz mi fg nt wt wl ob) (fun r79 sz_80 ob_81 =>
      fb_b3 (fX1_drop yth ych ynt yfg ywt ymi) (fun r83 yth_84 ych_85 =>
      fb_b1 (fX1_thrown yth_84 ych_85 ynt yfg ywt ymi) (fun r87 =>
      if r87 = r79 then
        if r79 = 0 then
          if (lg_cmp (ob_81 (0 : Int32).toNatClampNeg) r83.toInt64) = 0 then
            lpL_law xs L n (v4 + 4) sz_80 mi fg nt wt wl yth_84 ych_85 ynt yfg ywt ymi ob_81
          else
            some 0
        else
          lpL_law xs L n (v4 + 4) sz_80 mi fg nt wt wl yth_84 ych_85 ynt yfg ywt ymi ob_81
      else
        some 0)))
    else if ((xs v4.toNatClampNeg) &&& 31) = 5 then
      fb_ck (fb_ix (v4 + 1) L) (
      fb_b1 (if (xs (v4 + 1).toNatClampNeg) = 0 then
          some 0
        else
          some 1) (fun (j95 : Int32) =>
      fb_b2 (fX0_setKey sz mi fg nt wt wl j95) (fun r97 mi_98 =>
      fb_b1 (if (xs (v4 + 1).toNatClampNeg) = 0 then
          some 0
        else
          some 1) (fun (j100 : Int32) =>
      fb_b3 (fX1_setKey yth ych ynt yfg ywt ymi j100) (fun r102 yth_103 ymi_104 =>
      if r97 = r102 then
        lpL_law xs L n (v4 + 4) sz mi_98 fg nt wt wl yth_103 ych ynt yfg ywt ymi_104 ob
      else
        some 0)))))
    else if ((xs v4.toNatClampNeg) &&& 31) = 6 then
      fb_ck (fb_ix (v4 + 1) L) (
      fb_ck (fb_ix (v4 + 2) L) (
      fb_b3 (fL_setWeight sz mi fg nt wt wl ob (xs (v4 + 1).toNatClampNeg) (xs (v4 + 2).toNatClampNeg)) (fun r110 wt_111 ob_112 =>
      fb_b3 (fX1_setWeight yth ych ynt yfg ywt ymi (xs (v4 + 1).toNatClampNeg) (xs (v4 + 2).toNatClampNeg)) (fun r114 yth_115 ywt_116 =>
      fb_b1 (fX1_thrown yth_115 ych ynt yfg ywt_116 ymi) (fun r118 =>
      if r118 = r110 then
        if r110 = 0 then
          if (lg_cmp (ob_112 (0 : Int32).toNatClampNeg) r114.toInt64) = 0 then
            lpL_law xs L n (v4 + 4) sz mi fg nt wt_111 wl yth_115 ych ynt yfg ywt_116 ymi ob_112
          else
            some 0
        else
          lpL_law xs L n (v4 + 4) sz mi fg nt wt_111 wl yth_115 ych ynt yfg ywt_116 ymi ob_112
      else
        some 0)))))
    else if ((xs v4.toNatClampNeg) &&& 31) = 7 then
      fb_ck (fb_ix (v4 + 1) L) (
      fb_b4 (fL_lead sz mi fg nt wt wl ob (xs (v4 + 1).toNatClampNeg)) (fun r126 nt_127 wl_128 ob_129 =>
      fb_b3 (fX1_lead yth ych ynt yfg ywt ymi (xs (v4 + 1).toNatClampNeg)) (fun r131 yth_132 ynt_133 =>
      fb_b1 (fX1_thrown yth_132 ych ynt_133 yfg ywt ymi) (fun r135 =>
      if r135 = r126 then
        if r126 = 0 then
          if (lg_cmp (ob_129 (0 : Int32).toNatClampNeg) r131.toInt64) = 0 then
            lpL_law xs L n (v4 + 4) sz mi fg nt_127 wt wl_128 yth_132 ych ynt_133 yfg ywt ymi ob_129
          else
            some 0
        else
          lpL_law xs L n (v4 + 4) sz mi fg nt_127 wt wl_128 yth_132 ych ynt_133 yfg ywt ymi ob_129
      else
        some 0))))
    else if ((xs v4.toNatClampNeg) &&& 31) = 8 then
      fb_b3 (fX0_leadAll sz mi fg nt wt wl) (fun r142 nt_143 wl_144 =>
      fb_b3 (fX1_leadAll yth ych ynt yfg ywt ymi) (fun r146 yth_147 ynt_148 =>
      if r142 = r146 then
        lpL_law xs L n (v4 + 4) sz mi fg nt_143 wt wl_144 yth_147 ych ynt_148 yfg ywt ymi ob
      else
        some 0))
    else if ((xs v4.toNatClampNeg) &&& 31) = 9 then
      fb_ck (fb_ix (v4 + 1) L) (
      fb_ck (fb_ix (v4 + 2) L) (
      fb_b2 (fL_note sz mi fg nt wt wl ob (xs (v4 + 1).toNatClampNeg) (xs (v4 + 2).toNatClampNeg)) (fun r154 ob_155 =>
      fb_b2 (fX1_note yth ych ynt yfg ywt ymi (xs (v4 + 1).toNatClampNeg) (xs (v4 + 2).toNatClampNeg)) (fun r157 yth_158 =>
      fb_b1 (fX1_thrown yth_158 ych ynt yfg ywt ymi) (fun r160 =>
      if r160 = r154 then
        if r154 = 0 then
          if (lg_cmp (ob_155 (0 : Int32).toNatClampNeg) r157.toInt64) = 0 then
            lpL_law xs L n (v4 + 4) sz mi fg nt wt wl yth_158 ych ynt yfg ywt ymi ob_155
          else
            some 0
        else
          lpL_law xs L n (v4 + 4) sz mi fg nt wt wl yth_158 ych ynt yfg ywt ymi ob_155
      else
        some 0)))))
    else if ((xs v4.toNatClampNeg) &&& 31) = 10 then
      fb_ck (fb_ix (v4 + 1) L) (
      fb_ck (fb_ix (v4 + 2) L) (
      fb_b2 (fL_told sz mi fg nt wt wl ob (xs (v4 + 1).toNatClampNeg) (xs (v4 + 2).toNatClampNeg)) (fun r169 ob_170 =>
      fb_b2 (fX1_told yth ych ynt yfg ywt ymi (xs (v4 + 1).toNatClampNeg) (xs (v4 + 2).toNatClampNeg)) (fun r172 yth_173 =>
      fb_b1 (fX1_thrown yth_173 ych ynt yfg ywt ymi) (fun r175 =>
      if r175 = r169 then
        if r169 = 0 then
          if (lg_cmp (ob_170 (0 : Int32).toNatClampNeg) r172.toInt64) = 0 then
            lpL_law xs L n (v4 + 4) sz mi fg nt wt wl yth_173 ych ynt yfg ywt ymi ob_170
          else
            some 0
        else
          lpL_law xs L n (v4 + 4) sz mi fg nt wt wl yth_173 ych ynt yfg ywt ymi ob_170
      else
        some 0)))))
    else if ((xs v4.toNatClampNeg) &&& 31) = 11 then
      fb_ck (fb_ix (v4 + 1) L) (
      fb_ck (fb_ix (v4 + 2) L) (
      fb_b2 (fL_faults sz mi fg nt wt wl ob (xs (v4 + 1).toNatClampNeg) (xs (v4 + 2).toNatClampNeg)) (fun r184 ob_185 =>
      fb_b2 (fX1_faults yth ych ynt yfg ywt ymi (xs (v4 + 1).toNatClampNeg) (xs (v4 + 2).toNatClampNeg)) (fun r187 yth_188 =>
      fb_b1 (fX1_thrown yth_188 ych ynt yfg ywt ymi) (fun r190 =>
      if r190 = r184 then
        if r184 = 0 then
          if (lg_cmp (ob_185 (0 : Int32).toNatClampNeg) r187.toInt64) = 0 then
            lpL_law xs L n (v4 + 4) sz mi fg nt wt wl yth_188 ych ynt yfg ywt ymi ob_185
          else
            some 0
        else
          lpL_law xs L n (v4 + 4) sz mi fg nt wt wl yth_188 ych ynt yfg ywt ymi ob_185
      else
        some 0)))))
    else if ((xs v4.toNatClampNeg) &&& 31) = 12 then
      fb_ck (fb_ix (v4 + 1) L) (
      fb_b2 (fL_count sz mi fg nt wt wl ob (xs (v4 + 1).toNatClampNeg)) (fun r198 ob_199 =>
      fb_b2 (fX1_count yth ych ynt yfg ywt ymi (xs (v4 + 1).toNatClampNeg)) (fun r201 yth_202 =>
      fb_b1 (fX1_thrown yth_202 ych ynt yfg ywt ymi) (fun r204 =>
      if r204 = r198 then
        if r198 = 0 then
          if (lg_cmp (ob_199 (0 : Int32).toNatClampNeg) r201.toInt64) = 0 then
            lpL_law xs L n (v4 + 4) sz mi fg nt wt wl yth_202 ych ynt yfg ywt ymi ob_199
          else
            some 0
        else
          lpL_law xs L n (v4 + 4) sz mi fg nt wt wl yth_202 ych ynt yfg ywt ymi ob_199
      else
        some 0))))
    else if ((xs v4.toNatClampNeg) &&& 31) = 13 then
      fb_ck (fb_ix (v4 + 1) L) (
      fb_b2 (fL_pitch sz mi fg nt wt wl ob (xs (v4 + 1).toNatClampNeg)) (fun r212 ob_213 =>
      fb_b2 (fX1_pitch yth ych ynt yfg ywt ymi (xs (v4 + 1).toNatClampNeg)) (fun r215 yth_216 =>
      fb_b1 (fX1_thrown yth_216 ych ynt yfg ywt ymi) (fun r218 =>
      if r218 = r212 then
        if r212 = 0 then
          if (lg_cmp (ob_213 (0 : Int32).toNatClampNeg) r215.toInt64) = 0 then
            lpL_law xs L n (v4 + 4) sz mi fg nt wt wl yth_216 ych ynt yfg ywt ymi ob_213
          else
            some 0
        else
          lpL_law xs L n (v4 + 4) sz mi fg nt wt wl yth_216 ych ynt yfg ywt ymi ob_213
      else
        some 0))))
    else if ((xs v4.toNatClampNeg) &&& 31) = 14 then
      fb_ck (fb_ix (v4 + 1) L) (
      fb_ck (fb_ix (v4 + 2) L) (
      fb_ck (fb_ix (v4 + 3) L) (
      fb_b2 (fL_fits sz mi fg nt wt wl ob (xs (v4 + 1).toNatClampNeg) (xs (v4 + 2).toNatClampNeg) (xs (v4 + 3).toNatClampNeg)) (fun r228 ob_229 =>
      fb_b2 (fX1_fits yth ych ynt yfg ywt ymi (xs (v4 + 1).toNatClampNeg) (xs (v4 + 2).toNatClampNeg) (xs (v4 + 3).toNatClampNeg)) (fun r231 yth_232 =>
      fb_b1 (fX1_thrown yth_232 ych ynt yfg ywt ymi) (fun r234 =>
      if r234 = r228 then
        if r228 = 0 then
          fb_b1 (if r231 = 0 then
              some 0
            else
              some 1) (fun (j238 : Int64) =>
          if (lg_cmp (ob_229 (0 : Int32).toNatClampNeg) j238) = 0 then
            lpL_law xs L n (v4 + 4) sz mi fg nt wt wl yth_232 ych ynt yfg ywt ymi ob_229
          else
            some 0)
        else
          lpL_law xs L n (v4 + 4) sz mi fg nt wt wl yth_232 ych ynt yfg ywt ymi ob_229
      else
        some 0))))))
    else if ((xs v4.toNatClampNeg) &&& 31) = 15 then
      fb_ck (fb_ix (v4 + 1) L) (
      fb_b3 (fL_ways sz mi fg nt wt wl ob (xs (v4 + 1).toNatClampNeg)) (fun r244 wl_245 ob_246 =>
      fb_b3 (fX1_ways yth ych ynt yfg ywt ymi (xs (v4 + 1).toNatClampNeg)) (fun r248 yth_249 ynt_250 =>
      fb_b1 (fX1_thrown yth_249 ych ynt_250 yfg ywt ymi) (fun r252 =>
      if r252 = r244 then
        if r244 = 0 then
          if (lg_cmp (ob_246 (0 : Int32).toNatClampNeg) r248.toInt64) = 0 then
            lpL_law xs L n (v4 + 4) sz mi fg nt wt wl_245 yth_249 ych ynt_250 yfg ywt ymi ob_246
          else
            some 0
        else
          lpL_law xs L n (v4 + 4) sz mi fg nt wt wl_245 yth_249 ych ynt_250 yfg ywt ymi ob_246
      else
        some 0))))
    else if ((xs v4.toNatClampNeg) &&& 31) = 16 then
      fb_ck (fb_ix (v4 + 1) L) (
      fb_ck (fb_ix (v4 + 2) L) (
      fb_ck (fb_ix (v4 + 3) L) (
      fb_b3 (fL_would sz mi fg nt wt wl ob (xs (v4 + 1).toNatClampNeg) (xs (v4 + 2).toNatClampNeg) (xs (v4 + 3).toNatClampNeg)) (fun r262 nt_263 ob_264 =>
      fb_b3 (fX1_would yth ych ynt yfg ywt ymi (xs (v4 + 1).toNatClampNeg) (xs (v4 + 2).toNatClampNeg) (xs (v4 + 3).toNatClampNeg)) (fun r266 yth_267 ynt_268 =>
      fb_b1 (fX1_thrown yth_267 ych ynt_268 yfg ywt ymi) (fun r270 =>
      if r270 = r262 then
        if r262 = 0 then
          if (lg_cmp (ob_264 (0 : Int32).toNatClampNeg) r266.toInt64) = 0 then
            lpL_law xs L n (v4 + 4) sz mi fg nt_263 wt wl yth_267 ych ynt_268 yfg ywt ymi ob_264
          else
            some 0
        else
          lpL_law xs L n (v4 + 4) sz mi fg nt_263 wt wl yth_267 ych ynt_268 yfg ywt ymi ob_264
      else
        some 0))))))
    else if ((xs v4.toNatClampNeg) &&& 31) = 17 then
      fb_ck (fb_ix (v4 + 1) L) (
      fb_b4 (fL_best sz mi fg nt wt wl ob (xs (v4 + 1).toNatClampNeg)) (fun r278 nt_279 wl_280 ob_281 =>
      fb_b3 (fX1_best yth ych ynt yfg ywt ymi (xs (v4 + 1).toNatClampNeg)) (fun r283 yth_284 ynt_285 =>
      fb_b1 (fX1_thrown yth_284 ych ynt_285 yfg ywt ymi) (fun r287 =>
      if r287 = r278 then
        if r278 = 0 then
          if (lg_cmp (ob_281 (0 : Int32).toNatClampNeg) r283.toInt64) = 0 then
            lpL_law xs L n (v4 + 4) sz mi fg nt_279 wt wl_280 yth_284 ych ynt_285 yfg ywt ymi ob_281
          else
            some 0
        else
          lpL_law xs L n (v4 + 4) sz mi fg nt_279 wt wl_280 yth_284 ych ynt_285 yfg ywt ymi ob_281
      else
        some 0))))
    else if ((xs v4.toNatClampNeg) &&& 31) = 18 then
      fb_ck (fb_ix (v4 + 1) L) (
      fb_b5 (fL_advise sz mi fg nt wt wl ob (xs (v4 + 1).toNatClampNeg)) (fun r295 fg_296 nt_297 wl_298 ob_299 =>
      fb_b4 (fX1_advise yth ych ynt yfg ywt ymi (xs (v4 + 1).toNatClampNeg)) (fun r301 yth_302 ynt_303 yfg_304 =>
      fb_b1 (fX1_thrown yth_302 ych ynt_303 yfg_304 ywt ymi) (fun r306 =>
      if r306 = r295 then
        if r295 = 0 then
          if (lg_cmp (ob_299 (0 : Int32).toNatClampNeg) r301.toInt64) = 0 then
            lpL_law xs L n (v4 + 4) sz mi fg_296 nt_297 wt wl_298 yth_302 ych ynt_303 yfg_304 ywt ymi ob_299
          else
            some 0
        else
          lpL_law xs L n (v4 + 4) sz mi fg_296 nt_297 wt wl_298 yth_302 ych ynt_303 yfg_304 ywt ymi ob_299
      else
        some 0))))
    else if ((xs v4.toNatClampNeg) &&& 31) = 19 then
      fb_b1 (fX0_mean sz mi fg nt wt wl) (fun r313 =>
      fb_b2 (fX1_mean yth ych ynt yfg ywt ymi) (fun r315 yth_316 =>
      fb_ck (decide (r313 = r315)) (
      lpL_law xs L n (v4 + 4) sz mi fg nt wt wl yth_316 ych ynt yfg ywt ymi ob)))
    else if ((xs v4.toNatClampNeg) &&& 31) = 20 then
      fb_b2 (fX0_digest sz mi fg nt wt wl) (fun r323 wl_324 =>
      fb_b3 (fX1_digest yth ych ynt yfg ywt ymi) (fun r326 yth_327 ynt_328 =>
      if (lg_cmp r323 r326) = 0 then
        lpL_law xs L n (v4 + 4) sz mi fg nt wt wl_324 yth_327 ych ynt_328 yfg ywt ymi ob
      else
        some 0))
    else 
      lpL_law xs L n (v4 + 4) sz mi fg nt wt wl yth ych ynt yfg ywt ymi ob)
