def fb_W_law_L23 (bs : Nat) (sE : Nat × Nat) (REC : HH → Z3 → Nat → Nat → Nat → Nat → Int32 → Option RS) (h : HH) (z : Z3) (x0 : Nat) (x1 : Nat) (x2 : Nat) (x3 : Nat) (x4 : Int32) : Option RS :=
  (aN h x0).bind fun v13 =>
  if (v13 - 6) < x4 then
    ((bz 1).bind fun _ =>
    some (.inl (some (.int 1)), h, z))
  else
    ((aI h x0 7 x4).bind fun v15 =>
    if (v15 &&& 31) = 0 then
      ((aI h x0 7 (x4 + 1)).bind fun v17 =>
      cI (f_W_init bs sE h z x1 v17 x3) fun v20 h18 z19 =>
      (aI h18 x0 7 (x4 + 1)).bind fun v21 =>
      (oK h18 x2 6).bind fun _ =>
      cI (f_M_init bs sE h18 z19 x2 v21) fun v24 h22 z23 =>
      (oK h22 x2 6).bind fun _ =>
      cI (f_M_thrown bs sE h22 z23 x2) fun v27 h25 z26 =>
      if v27 = v20 then
        (if v20 = 0 then
          ((aJ h25 x3 2 0).bind fun v30 =>
          if (lg_cmp v30 v24.toInt64) = 0 then
            (REC h25 z26 x0 x1 x2 x3 (x4 + 6))
          else
            ((bz 0).bind fun _ =>
            some (.inl (some (.int 0)), h25, z26)))
        else
          (REC h25 z26 x0 x1 x2 x3 (x4 + 6)))
      else
        ((bz 0).bind fun _ =>
        some (.inl (some (.int 0)), h25, z26)))
    else
    if (v15 &&& 31) = 1 then
      ((aI h x0 7 (x4 + 1)).bind fun v33 =>
      (aI h x0 7 (x4 + 2)).bind fun v34 =>
      cI (f_W_begin bs sE h z x1 v33 v34 x3) fun v37 h35 z36 =>
      (aI h35 x0 7 (x4 + 1)).bind fun v38 =>
      (aI h35 x0 7 (x4 + 2)).bind fun v39 =>
      (oK h35 x2 6).bind fun _ =>
      cI (f_M_begin bs sE h35 z36 x2 v38 v39) fun v42 h40 z41 =>
      (oK h40 x2 6).bind fun _ =>
      cI (f_M_thrown bs sE h40 z41 x2) fun v45 h43 z44 =>
      if v45 = v37 then
        (if v37 = 0 then
          ((aJ h43 x3 2 0).bind fun v48 =>
          if (lg_cmp v48 v42.toInt64) = 0 then
            (REC h43 z44 x0 x1 x2 x3 (x4 + 6))
          else
            ((bz 0).bind fun _ =>
            some (.inl (some (.int 0)), h43, z44)))
        else
          (REC h43 z44 x0 x1 x2 x3 (x4 + 6)))
      else
        ((bz 0).bind fun _ =>
        some (.inl (some (.int 0)), h43, z44)))
    else
    if (v15 &&& 31) = 2 then
      ((aI h x0 7 (x4 + 1)).bind fun v51 =>
      (aI h x0 7 (x4 + 2)).bind fun v52 =>
      (aI h x0 7 (x4 + 3)).bind fun v53 =>
      (aI h x0 7 (x4 + 4)).bind fun v54 =>
      (aI h x0 7 (x4 + 5)).bind fun v55 =>
      cI (f_W_send bs sE h z x1 v51 v52 v53 v54 v55 x3) fun v58 h56 z57 =>
      (aI h56 x0 7 (x4 + 1)).bind fun v59 =>
      (aI h56 x0 7 (x4 + 2)).bind fun v60 =>
      (aI h56 x0 7 (x4 + 3)).bind fun v61 =>
      (aI h56 x0 7 (x4 + 4)).bind fun v62 =>
      (aI h56 x0 7 (x4 + 5)).bind fun v63 =>
      (oK h56 x2 6).bind fun _ =>
      cI (f_M_send bs sE h56 z57 x2 v59 v60 v61 v62 v63) fun v66 h64 z65 =>
      (oK h64 x2 6).bind fun _ =>
      cI (f_M_thrown bs sE h64 z65 x2) fun v69 h67 z68 =>
      if v69 = v58 then
        (if v58 = 0 then
          ((aJ h67 x3 2 0).bind fun v72 =>
          if (lg_cmp v72 v66.toInt64) = 0 then
            (REC h67 z68 x0 x1 x2 x3 (x4 + 6))
          else
            ((bz 0).bind fun _ =>
            some (.inl (some (.int 0)), h67, z68)))
        else
          (REC h67 z68 x0 x1 x2 x3 (x4 + 6)))
      else
        ((bz 0).bind fun _ =>
        some (.inl (some (.int 0)), h67, z68)))
    else
    if (v15 &&& 31) = 3 then
      ((aI h x0 7 (x4 + 1)).bind fun v75 =>
      (aI h x0 7 (x4 + 2)).bind fun v76 =>
      (aI h x0 7 (x4 + 3)).bind fun v77 =>
      (aI h x0 7 (x4 + 4)).bind fun v78 =>
      (aI h x0 7 (x4 + 5)).bind fun v79 =>
      cI (f_W_pend bs sE h z x1 v75 v76 v77 v78 v79 x3) fun v82 h80 z81 =>
      (aI h80 x0 7 (x4 + 1)).bind fun v83 =>
      (aI h80 x0 7 (x4 + 2)).bind fun v84 =>
      (aI h80 x0 7 (x4 + 3)).bind fun v85 =>
      (aI h80 x0 7 (x4 + 4)).bind fun v86 =>
      (aI h80 x0 7 (x4 + 5)).bind fun v87 =>
      (oK h80 x2 6).bind fun _ =>
      cI (f_M_pend bs sE h80 z81 x2 v83 v84 v85 v86 v87) fun v90 h88 z89 =>
      (oK h88 x2 6).bind fun _ =>
      cI (f_M_thrown bs sE h88 z89 x2) fun v93 h91 z92 =>
      if v93 = v82 then
        (if v82 = 0 then
          ((aJ h91 x3 2 0).bind fun v96 =>
          if (lg_cmp v96 v90.toInt64) = 0 then
            (REC h91 z92 x0 x1 x2 x3 (x4 + 6))
          else
            ((bz 0).bind fun _ =>
            some (.inl (some (.int 0)), h91, z92)))
        else
          (REC h91 z92 x0 x1 x2 x3 (x4 + 6)))
      else
        ((bz 0).bind fun _ =>
        some (.inl (some (.int 0)), h91, z92)))
    else
    if (v15 &&& 31) = 4 then
      ((aI h x0 7 (x4 + 1)).bind fun v99 =>
      (aI h x0 7 (x4 + 2)).bind fun v100 =>
      (aI h x0 7 (x4 + 3)).bind fun v101 =>
      if v101 = 0 then
        (cI (f_W_finish bs sE h z x1 v99 v100 0 x3) fun v105 h103 z104 =>
        (aI h103 x0 7 (x4 + 1)).bind fun v106 =>
        (aI h103 x0 7 (x4 + 2)).bind fun v107 =>
        (aI h103 x0 7 (x4 + 3)).bind fun v108 =>
        if v108 = 0 then
          ((oK h103 x2 6).bind fun _ =>
          cI (f_M_finish bs sE h103 z104 x2 v106 v107 0) fun v112 h110 z111 =>
          (oK h110 x2 6).bind fun _ =>
          cI (f_M_thrown bs sE h110 z111 x2) fun v115 h113 z114 =>
          if v115 = v105 then
            (if v105 = 0 then
              ((aJ h113 x3 2 0).bind fun v118 =>
              if (lg_cmp v118 v112.toInt64) = 0 then
                (REC h113 z114 x0 x1 x2 x3 (x4 + 6))
              else
                ((bz 0).bind fun _ =>
                some (.inl (some (.int 0)), h113, z114)))
            else
              (REC h113 z114 x0 x1 x2 x3 (x4 + 6)))
          else
            ((bz 0).bind fun _ =>
            some (.inl (some (.int 0)), h113, z114)))
        else
          ((oK h103 x2 6).bind fun _ =>
          cI (f_M_finish bs sE h103 z104 x2 v106 v107 1) fun v122 h120 z121 =>
          (oK h120 x2 6).bind fun _ =>
          cI (f_M_thrown bs sE h120 z121 x2) fun v125 h123 z124 =>
          if v125 = v105 then
            (if v105 = 0 then
              ((aJ h123 x3 2 0).bind fun v128 =>
              if (lg_cmp v128 v122.toInt64) = 0 then
                (REC h123 z124 x0 x1 x2 x3 (x4 + 6))
              else
                ((bz 0).bind fun _ =>
                some (.inl (some (.int 0)), h123, z124)))
            else
              (REC h123 z124 x0 x1 x2 x3 (x4 + 6)))
          else
            ((bz 0).bind fun _ =>
            some (.inl (some (.int 0)), h123, z124))))
      else
        (cI (f_W_finish bs sE h z x1 v99 v100 1 x3) fun v132 h130 z131 =>
        (aI h130 x0 7 (x4 + 1)).bind fun v133 =>
        (aI h130 x0 7 (x4 + 2)).bind fun v134 =>
        (aI h130 x0 7 (x4 + 3)).bind fun v135 =>
        if v135 = 0 then
          ((oK h130 x2 6).bind fun _ =>
          cI (f_M_finish bs sE h130 z131 x2 v133 v134 0) fun v139 h137 z138 =>
          (oK h137 x2 6).bind fun _ =>
          cI (f_M_thrown bs sE h137 z138 x2) fun v142 h140 z141 =>
          if v142 = v132 then
            (if v132 = 0 then
              ((aJ h140 x3 2 0).bind fun v145 =>
              if (lg_cmp v145 v139.toInt64) = 0 then
                (REC h140 z141 x0 x1 x2 x3 (x4 + 6))
              else
                ((bz 0).bind fun _ =>
                some (.inl (some (.int 0)), h140, z141)))
            else
              (REC h140 z141 x0 x1 x2 x3 (x4 + 6)))
          else
            ((bz 0).bind fun _ =>
            some (.inl (some (.int 0)), h140, z141)))
        else
          ((oK h130 x2 6).bind fun _ =>
          cI (f_M_finish bs sE h130 z131 x2 v133 v134 1) fun v149 h147 z148 =>
          (oK h147 x2 6).bind fun _ =>
          cI (f_M_thrown bs sE h147 z148 x2) fun v152 h150 z151 =>
          if v152 = v132 then
            (if v132 = 0 then
              ((aJ h150 x3 2 0).bind fun v155 =>
              if (lg_cmp v155 v149.toInt64) = 0 then
                (REC h150 z151 x0 x1 x2 x3 (x4 + 6))
              else
                ((bz 0).bind fun _ =>
                some (.inl (some (.int 0)), h150, z151)))
            else
              (REC h150 z151 x0 x1 x2 x3 (x4 + 6)))
          else
            ((bz 0).bind fun _ =>
            some (.inl (some (.int 0)), h150, z151)))))
    else
    if (v15 &&& 31) = 5 then
      ((oK h x1 4).bind fun _ =>
      cI (f_B_step bs sE h z x1) fun v160 h158 z159 =>
      (oK h158 x2 6).bind fun _ =>
      cI (f_M_step bs sE h158 z159 x2) fun v163 h161 z162 =>
      if v160 = v163 then
        (REC h161 z162 x0 x1 x2 x3 (x4 + 6))
      else
        ((bz 0).bind fun _ =>
        some (.inl (some (.int 0)), h161, z162)))
    else
    if (v15 &&& 31) = 6 then
      ((aI h x0 7 (x4 + 1)).bind fun v166 =>
      (aI h x0 7 (x4 + 2)).bind fun v167 =>
      cI (f_W_plain bs sE h z x1 v166 v167 x3) fun v170 h168 z169 =>
      (aI h168 x0 7 (x4 + 1)).bind fun v171 =>
      (aI h168 x0 7 (x4 + 2)).bind fun v172 =>
      (oK h168 x2 6).bind fun _ =>
      cI (f_M_plain bs sE h168 z169 x2 v171 v172) fun v175 h173 z174 =>
      (oK h173 x2 6).bind fun _ =>
      cI (f_M_thrown bs sE h173 z174 x2) fun v178 h176 z177 =>
      if v178 = v170 then
        (if v170 = 0 then
          ((aJ h176 x3 2 0).bind fun v181 =>
          if (lg_cmp v181 v175.toInt64) = 0 then
            (REC h176 z177 x0 x1 x2 x3 (x4 + 6))
          else
            ((bz 0).bind fun _ =>
            some (.inl (some (.int 0)), h176, z177)))
        else
          (REC h176 z177 x0 x1 x2 x3 (x4 + 6)))
      else
        ((bz 0).bind fun _ =>
        some (.inl (some (.int 0)), h176, z177)))
    else
    if (v15 &&& 31) = 7 then
      ((aI h x0 7 (x4 + 1)).bind fun v184 =>
      (aI h x0 7 (x4 + 2)).bind fun v185 =>
      cI (f_W_copy bs sE h z x1 v184 v185 x3) fun v188 h186 z187 =>
      (aI h186 x0 7 (x4 + 1)).bind fun v189 =>
      (aI h186 x0 7 (x4 + 2)).bind fun v190 =>
      (oK h186 x2 6).bind fun _ =>
      cI (f_M_copy bs sE h186 z187 x2 v189 v190) fun v193 h191 z192 =>
      (oK h191 x2 6).bind fun _ =>
      cI (f_M_thrown bs sE h191 z192 x2) fun v196 h194 z195 =>
      if v196 = v188 then
        (if v188 = 0 then
          ((aJ h194 x3 2 0).bind fun v199 =>
          if (lg_cmp v199 v193.toInt64) = 0 then
            (REC h194 z195 x0 x1 x2 x3 (x4 + 6))
          else
            ((bz 0).bind fun _ =>
            some (.inl (some (.int 0)), h194, z195)))
        else
          (REC h194 z195 x0 x1 x2 x3 (x4 + 6)))
      else
        ((bz 0).bind fun _ =>
        some (.inl (some (.int 0)), h194, z195)))
    else
    if (v15 &&& 31) = 8 then
      ((aI h x0 7 (x4 + 1)).bind fun v202 =>
      cI (f_W_lose bs sE h z x1 v202 x3) fun v205 h203 z204 =>
      (aI h203 x0 7 (x4 + 1)).bind fun v206 =>
      (oK h203 x2 6).bind fun _ =>
      cI (f_M_lose bs sE h203 z204 x2 v206) fun v209 h207 z208 =>
      (oK h207 x2 6).bind fun _ =>
      cI (f_M_thrown bs sE h207 z208 x2) fun v212 h210 z211 =>
      if v212 = v205 then
        (if v205 = 0 then
          ((aJ h210 x3 2 0).bind fun v215 =>
          if (lg_cmp v215 v209.toInt64) = 0 then
            (REC h210 z211 x0 x1 x2 x3 (x4 + 6))
          else
            ((bz 0).bind fun _ =>
            some (.inl (some (.int 0)), h210, z211)))
        else
          (REC h210 z211 x0 x1 x2 x3 (x4 + 6)))
      else
        ((bz 0).bind fun _ =>
        some (.inl (some (.int 0)), h210, z211)))
    else
    if (v15 &&& 31) = 9 then
      ((aI h x0 7 (x4 + 1)).bind fun v218 =>
      (aI h x0 7 (x4 + 2)).bind fun v219 =>
      (aI h x0 7 (x4 + 3)).bind fun v220 =>
      if v220 = 0 then
        (cI (f_W_fetch bs sE h z x1 v218 v219 0 x3) fun v224 h222 z223 =>
        (aI h222 x0 7 (x4 + 1)).bind fun v225 =>
        (aI h222 x0 7 (x4 + 2)).bind fun v226 =>
        (aI h222 x0 7 (x4 + 3)).bind fun v227 =>
        if v227 = 0 then
          ((oK h222 x2 6).bind fun _ =>
          cI (f_M_fetch bs sE h222 z223 x2 v225 v226 0) fun v231 h229 z230 =>
          (oK h229 x2 6).bind fun _ =>
          cI (f_M_thrown bs sE h229 z230 x2) fun v234 h232 z233 =>
          if v234 = v224 then
            (if v224 = 0 then
              ((aJ h232 x3 2 0).bind fun v237 =>
              if (lg_cmp v237 v231.toInt64) = 0 then
                (REC h232 z233 x0 x1 x2 x3 (x4 + 6))
              else
                ((bz 0).bind fun _ =>
                some (.inl (some (.int 0)), h232, z233)))
            else
              (REC h232 z233 x0 x1 x2 x3 (x4 + 6)))
          else
            ((bz 0).bind fun _ =>
            some (.inl (some (.int 0)), h232, z233)))
        else
          ((oK h222 x2 6).bind fun _ =>
          cI (f_M_fetch bs sE h222 z223 x2 v225 v226 1) fun v241 h239 z240 =>
          (oK h239 x2 6).bind fun _ =>
          cI (f_M_thrown bs sE h239 z240 x2) fun v244 h242 z243 =>
          if v244 = v224 then
            (if v224 = 0 then
              ((aJ h242 x3 2 0).bind fun v247 =>
              if (lg_cmp v247 v241.toInt64) = 0 then
                (REC h242 z243 x0 x1 x2 x3 (x4 + 6))
              else
                ((bz 0).bind fun _ =>
                some (.inl (some (.int 0)), h242, z243)))
            else
              (REC h242 z243 x0 x1 x2 x3 (x4 + 6)))
          else
            ((bz 0).bind fun _ =>
            some (.inl (some (.int 0)), h242, z243))))
      else
        (cI (f_W_fetch bs sE h z x1 v218 v219 1 x3) fun v251 h249 z250 =>
        (aI h249 x0 7 (x4 + 1)).bind fun v252 =>
        (aI h249 x0 7 (x4 + 2)).bind fun v253 =>
        (aI h249 x0 7 (x4 + 3)).bind fun v254 =>
        if v254 = 0 then
          ((oK h249 x2 6).bind fun _ =>
          cI (f_M_fetch bs sE h249 z250 x2 v252 v253 0) fun v258 h256 z257 =>
          (oK h256 x2 6).bind fun _ =>
          cI (f_M_thrown bs sE h256 z257 x2) fun v261 h259 z260 =>
          if v261 = v251 then
            (if v251 = 0 then
              ((aJ h259 x3 2 0).bind fun v264 =>
              if (lg_cmp v264 v258.toInt64) = 0 then
                (REC h259 z260 x0 x1 x2 x3 (x4 + 6))
              else
                ((bz 0).bind fun _ =>
                some (.inl (some (.int 0)), h259, z260)))
            else
              (REC h259 z260 x0 x1 x2 x3 (x4 + 6)))
          else
            ((bz 0).bind fun _ =>
            some (.inl (some (.int 0)), h259, z260)))
        else
          ((oK h249 x2 6).bind fun _ =>
          cI (f_M_fetch bs sE h249 z250 x2 v252 v253 1) fun v268 h266 z267 =>
          (oK h266 x2 6).bind fun _ =>
          cI (f_M_thrown bs sE h266 z267 x2) fun v271 h269 z270 =>
          if v271 = v251 then
            (if v251 = 0 then
              ((aJ h269 x3 2 0).bind fun v274 =>
              if (lg_cmp v274 v268.toInt64) = 0 then
                (REC h269 z270 x0 x1 x2 x3 (x4 + 6))
              else
                ((bz 0).bind fun _ =>
                some (.inl (some (.int 0)), h269, z270)))
            else
              (REC h269 z270 x0 x1 x2 x3 (x4 + 6)))
          else
            ((bz 0).bind fun _ =>
            some (.inl (some (.int 0)), h269, z270)))))
    else
    if (v15 &&& 31) = 10 then
      ((oK h x1 4).bind fun _ =>
      cI (f_B_last bs sE h z x1) fun v279 h277 z278 =>
      (oK h277 x2 6).bind fun _ =>
      cI (f_M_last bs sE h277 z278 x2) fun v282 h280 z281 =>
      if v279 = v282 then
        (REC h280 z281 x0 x1 x2 x3 (x4 + 6))
      else
        ((bz 0).bind fun _ =>
        some (.inl (some (.int 0)), h280, z281)))
    else
    if (v15 &&& 31) = 11 then
      ((aI h x0 7 (x4 + 1)).bind fun v285 =>
      (aI h x0 7 (x4 + 2)).bind fun v286 =>
      cI (f_W_trim bs sE h z x1 v285 v286 x3) fun v289 h287 z288 =>
      (aI h287 x0 7 (x4 + 1)).bind fun v290 =>
      (aI h287 x0 7 (x4 + 2)).bind fun v291 =>
      (oK h287 x2 6).bind fun _ =>
      cI (f_M_trim bs sE h287 z288 x2 v290 v291) fun v294 h292 z293 =>
      (oK h292 x2 6).bind fun _ =>
      cI (f_M_thrown bs sE h292 z293 x2) fun v297 h295 z296 =>
      if v297 = v289 then
        (if v289 = 0 then
          ((aJ h295 x3 2 0).bind fun v300 =>
          if (lg_cmp v300 v294.toInt64) = 0 then
            (REC h295 z296 x0 x1 x2 x3 (x4 + 6))
          else
            ((bz 0).bind fun _ =>
            some (.inl (some (.int 0)), h295, z296)))
        else
          (REC h295 z296 x0 x1 x2 x3 (x4 + 6)))
      else
        ((bz 0).bind fun _ =>
        some (.inl (some (.int 0)), h295, z296)))
    else
    if (v15 &&& 31) = 12 then
      ((aI h x0 7 (x4 + 1)).bind fun v303 =>
      (aI h x0 7 (x4 + 2)).bind fun v304 =>
      cI (f_W_join bs sE h z x1 v303 v304 x3) fun v307 h305 z306 =>
      (aI h305 x0 7 (x4 + 1)).bind fun v308 =>
      (aI h305 x0 7 (x4 + 2)).bind fun v309 =>
      (oK h305 x2 6).bind fun _ =>
      cI (f_M_join bs sE h305 z306 x2 v308 v309) fun v312 h310 z311 =>
      (oK h310 x2 6).bind fun _ =>
      cI (f_M_thrown bs sE h310 z311 x2) fun v315 h313 z314 =>
      if v315 = v307 then
        (if v307 = 0 then
          ((aJ h313 x3 2 0).bind fun v318 =>
          if (lg_cmp v318 v312.toInt64) = 0 then
            (REC h313 z314 x0 x1 x2 x3 (x4 + 6))
          else
            ((bz 0).bind fun _ =>
            some (.inl (some (.int 0)), h313, z314)))
        else
          (REC h313 z314 x0 x1 x2 x3 (x4 + 6)))
      else
        ((bz 0).bind fun _ =>
        some (.inl (some (.int 0)), h313, z314)))
    else
    if (v15 &&& 31) = 13 then
      ((aI h x0 7 (x4 + 1)).bind fun v321 =>
      (aI h x0 7 (x4 + 2)).bind fun v322 =>
      cI (f_W_leave bs sE h z x1 v321 v322 x3) fun v325 h323 z324 =>
      (aI h323 x0 7 (x4 + 1)).bind fun v326 =>
      (aI h323 x0 7 (x4 + 2)).bind fun v327 =>
      (oK h323 x2 6).bind fun _ =>
      cI (f_M_leave bs sE h323 z324 x2 v326 v327) fun v330 h328 z329 =>
      (oK h328 x2 6).bind fun _ =>
      cI (f_M_thrown bs sE h328 z329 x2) fun v333 h331 z332 =>
      if v333 = v325 then
        (if v325 = 0 then
          ((aJ h331 x3 2 0).bind fun v336 =>
          if (lg_cmp v336 v330.toInt64) = 0 then
            (REC h331 z332 x0 x1 x2 x3 (x4 + 6))
          else
            ((bz 0).bind fun _ =>
            some (.inl (some (.int 0)), h331, z332)))
        else
          (REC h331 z332 x0 x1 x2 x3 (x4 + 6)))
      else
        ((bz 0).bind fun _ =>
        some (.inl (some (.int 0)), h331, z332)))
    else
    if (v15 &&& 31) = 14 then
      ((aI h x0 7 (x4 + 1)).bind fun v339 =>
      (aI h x0 7 (x4 + 2)).bind fun v340 =>
      (aI h x0 7 (x4 + 3)).bind fun v341 =>
      cI (f_W_beat bs sE h z x1 v339 v340 v341 x3) fun v344 h342 z343 =>
      (aI h342 x0 7 (x4 + 1)).bind fun v345 =>
      (aI h342 x0 7 (x4 + 2)).bind fun v346 =>
      (aI h342 x0 7 (x4 + 3)).bind fun v347 =>
      (oK h342 x2 6).bind fun _ =>
      cI (f_M_beat bs sE h342 z343 x2 v345 v346 v347) fun v350 h348 z349 =>
      (oK h348 x2 6).bind fun _ =>
      cI (f_M_thrown bs sE h348 z349 x2) fun v353 h351 z352 =>
      if v353 = v344 then
        (if v344 = 0 then
          ((aJ h351 x3 2 0).bind fun v356 =>
          if (lg_cmp v356 v350.toInt64) = 0 then
            (REC h351 z352 x0 x1 x2 x3 (x4 + 6))
          else
            ((bz 0).bind fun _ =>
            some (.inl (some (.int 0)), h351, z352)))
        else
          (REC h351 z352 x0 x1 x2 x3 (x4 + 6)))
      else
        ((bz 0).bind fun _ =>
        some (.inl (some (.int 0)), h351, z352)))
    else
    if (v15 &&& 31) = 15 then
      ((aI h x0 7 (x4 + 1)).bind fun v359 =>
      (aI h x0 7 (x4 + 2)).bind fun v360 =>
      (aI h x0 7 (x4 + 3)).bind fun v361 =>
      (aI h x0 7 (x4 + 4)).bind fun v362 =>
      (aI h x0 7 (x4 + 5)).bind fun v363 =>
      cI (f_W_mark bs sE h z x1 v359 v360 v361 v362 v363 x3) fun v366 h364 z365 =>
      (aI h364 x0 7 (x4 + 1)).bind fun v367 =>
      (aI h364 x0 7 (x4 + 2)).bind fun v368 =>
      (aI h364 x0 7 (x4 + 3)).bind fun v369 =>
      (aI h364 x0 7 (x4 + 4)).bind fun v370 =>
      (aI h364 x0 7 (x4 + 5)).bind fun v371 =>
      (oK h364 x2 6).bind fun _ =>
      cI (f_M_mark bs sE h364 z365 x2 v367 v368 v369 v370 v371) fun v374 h372 z373 =>
      (oK h372 x2 6).bind fun _ =>
      cI (f_M_thrown bs sE h372 z373 x2) fun v377 h375 z376 =>
      if v377 = v366 then
        (if v366 = 0 then
          ((aJ h375 x3 2 0).bind fun v380 =>
          if (lg_cmp v380 v374.toInt64) = 0 then
            (REC h375 z376 x0 x1 x2 x3 (x4 + 6))
          else
            ((bz 0).bind fun _ =>
            some (.inl (some (.int 0)), h375, z376)))
        else
          (REC h375 z376 x0 x1 x2 x3 (x4 + 6)))
      else
        ((bz 0).bind fun _ =>
        some (.inl (some (.int 0)), h375, z376)))
    else
    if (v15 &&& 31) = 16 then
      ((aI h x0 7 (x4 + 1)).bind fun v383 =>
      cI (f_W_tick bs sE h z x1 v383 x3) fun v386 h384 z385 =>
      (aI h384 x0 7 (x4 + 1)).bind fun v387 =>
      (oK h384 x2 6).bind fun _ =>
      cI (f_M_tick bs sE h384 z385 x2 v387) fun v390 h388 z389 =>
      (oK h388 x2 6).bind fun _ =>
      cI (f_M_thrown bs sE h388 z389 x2) fun v393 h391 z392 =>
      if v393 = v386 then
        (if v386 = 0 then
          ((aJ h391 x3 2 0).bind fun v396 =>
          if (lg_cmp v396 v390.toInt64) = 0 then
            (REC h391 z392 x0 x1 x2 x3 (x4 + 6))
          else
            ((bz 0).bind fun _ =>
            some (.inl (some (.int 0)), h391, z392)))
        else
          (REC h391 z392 x0 x1 x2 x3 (x4 + 6)))
      else
        ((bz 0).bind fun _ =>
        some (.inl (some (.int 0)), h391, z392)))
    else
    if (v15 &&& 31) = 17 then
      ((aI h x0 7 (x4 + 1)).bind fun v399 =>
      (aI h x0 7 (x4 + 2)).bind fun v400 =>
      cI (f_W_edge bs sE h z x1 v399 v400 x3) fun v403 h401 z402 =>
      (aI h401 x0 7 (x4 + 1)).bind fun v404 =>
      (aI h401 x0 7 (x4 + 2)).bind fun v405 =>
      (oK h401 x2 6).bind fun _ =>
      cI (f_M_edge bs sE h401 z402 x2 v404 v405) fun v408 h406 z407 =>
      (oK h406 x2 6).bind fun _ =>
      cI (f_M_thrown bs sE h406 z407 x2) fun v411 h409 z410 =>
      if v411 = v403 then
        (if v403 = 0 then
          ((aJ h409 x3 2 0).bind fun v414 =>
          if (lg_cmp v414 v408.toInt64) = 0 then
            (REC h409 z410 x0 x1 x2 x3 (x4 + 6))
          else
            ((bz 0).bind fun _ =>
            some (.inl (some (.int 0)), h409, z410)))
        else
          (REC h409 z410 x0 x1 x2 x3 (x4 + 6)))
      else
        ((bz 0).bind fun _ =>
        some (.inl (some (.int 0)), h409, z410)))
    else
    if (v15 &&& 31) = 18 then
      ((aI h x0 7 (x4 + 1)).bind fun v417 =>
      (aI h x0 7 (x4 + 2)).bind fun v418 =>
      cI (f_W_fact bs sE h z x1 v417 v418 x3) fun v421 h419 z420 =>
      (aI h419 x0 7 (x4 + 1)).bind fun v422 =>
      (aI h419 x0 7 (x4 + 2)).bind fun v423 =>
      (oK h419 x2 6).bind fun _ =>
      cI (f_M_fact bs sE h419 z420 x2 v422 v423) fun v426 h424 z425 =>
      (oK h424 x2 6).bind fun _ =>
      cI (f_M_thrown bs sE h424 z425 x2) fun v429 h427 z428 =>
      if v429 = v421 then
        (if v421 = 0 then
          ((aJ h427 x3 2 0).bind fun v432 =>
          if (lg_cmp v432 v426.toInt64) = 0 then
            (REC h427 z428 x0 x1 x2 x3 (x4 + 6))
          else
            ((bz 0).bind fun _ =>
            some (.inl (some (.int 0)), h427, z428)))
        else
          (REC h427 z428 x0 x1 x2 x3 (x4 + 6)))
      else
        ((bz 0).bind fun _ =>
        some (.inl (some (.int 0)), h427, z428)))
    else
    (REC h z x0 x1 x2 x3 (x4 + 6)))
def f_W_law_L23 (bs : Nat) (sE : Nat × Nat) : Nat → HH → Z3 → Nat → Nat → Nat → Nat → Int32 → Option RS
  | 0 => fun _ _ _ _ _ _ _ => none
  | n + 1 => fb_W_law_L23 bs sE (f_W_law_L23 bs sE n)
set_option maxHeartbeats 4000000 in
set_option maxRecDepth 100000 in
theorem t_W_law_L23 {G : EN} {p : Program} {l : Launch} {e : Env} {s : State} {m : MethodId} {args : Array Value} {below : List Frame} {meth : Method} {c : Code} {z0 : Z3} (hl0 : l.stackTraces = false) (C : CX G p l s m meth c b_W_law 7 y_W_law.cls) (hr : meth.sig.returnType = (some .boolean)) {r : RS} (hex : ∀ E h1 z1, r ≠ (.inr E, h1, z1)) :
    ∀ (n : Nat) (h : HH) (z : Z3) (x0 : Nat) (x1 : Nat) (x2 : Nat) (x3 : Nat) (x4 : Int32), f_W_law_L23 G.2.2.1 G.2.2.2 n h z x0 x1 x2 x3 x4 = some r → ∀ (H : Heap) (locs : List Loc) (cells slots : Nat) (ls : Array Slot), ST G (RM 14 532 z0) s h z H locs cells slots → lv_has ls 7 [(0, .ref x0), (1, .ref x1), (2, .ref x2), (3, .ref x3), (4, .int x4)] → W p l e (RM 14 532 z0) s m args below meth c H locs cells slots (MX G below s r (RM 14 532 z0).cells (RM 14 532 z0).slots) (F0 m 23 ls []) := by
  have hx := C.1
  have hb := C.2.1
  have hno := hex
  intro n
  induction n with
  | zero => intro h z x0 x1 x2 x3 x4 hf; exact nomatch (show (none : Option RS) = some r from hf)
  | succ n ih =>
    intro h z x0 x1 x2 x3 x4 hf H locs cells slots ls hs hl
    have hf : fb_W_law_L23 G.2.2.1 G.2.2.2 (f_W_law_L23 G.2.2.1 G.2.2.2 n) h z x0 x1 x2 x3 x4 = some r := hf
    unfold fb_W_law_L23 at hf
    refine lv_iload hx hb d_W_law_23 (lv_at hl 4 rfl) ?_
    refine lv_aload_n hx hb d_W_law_25 rfl (lv_at hl 0 rfl) ?_
    refine r_alen C hs d_W_law_26 hf (fun v13 hf => ?_)
    refine lv_bipush (v := 6) hx hb d_W_law_27 (by decide) ?_
    refine lv_isub hx hb d_W_law_29 ?_
    refine lv_icmp_gt (tgt := 1460) hx hb d_W_law_30 (by decide) (fun q14 => ?_) (fun q14 => ?_)
    · have hf := ifp q14 hf
      refine lv_iconst (v := 1) hx hb d_W_law_1460 (by decide) ?_
      exact r_zreturn C hs hr d_W_law_1461 hf
    · have hf := ifn q14 hf
      refine lv_aload_n hx hb d_W_law_33 rfl (lv_at hl 0 rfl) ?_
      refine lv_iload hx hb d_W_law_34 (lv_at hl 4 rfl) ?_
      refine r_iald7 C hs d_W_law_36 hf (fun v15 hf => ?_)
      refine lv_bipush (v := 31) hx hb d_W_law_37 (by decide) ?_
      refine lv_iand hx hb d_W_law_39 ?_
      by_cases q16 : (v15 &&& 31) = 0
      · have hf := ifp q16 hf
        refine lv_tableIn (tgt := 132) (off := 92) hx hb d_W_law_40 (by rw [q16]; decide) (by rw [q16]; decide) (by rw [q16]; rfl) (by decide) ?_
        refine lv_aload_n hx hb d_W_law_132 rfl (lv_at hl 1 rfl) ?_
        refine lv_aload_n hx hb d_W_law_133 rfl (lv_at hl 0 rfl) ?_
        refine lv_iload hx hb d_W_law_134 (lv_at hl 4 rfl) ?_
        refine lv_iconst (v := 1) hx hb d_W_law_136 (by decide) ?_
        refine lv_iadd hx hb d_W_law_137 ?_
        refine r_iald7 C hs d_W_law_138 hf (fun v17 hf => ?_)
        refine lv_aload_n hx hb d_W_law_139 rfl (lv_at hl 3 rfl) ?_
        refine kl_I C hs hno hf (fun res e1 => iv_SW (As := [.ref x1, .int v17, .ref x3]) (rest := []) C hs csw_W_79 (c_W_init hl0 e1) rfl hl.1 rfl (Nat.le_of_ble_eq_true rfl) d_W_law_140 ⟨Nat.le_of_ble_eq_true rfl, Nat.le_of_ble_eq_true rfl⟩) (fun v20 h18 z19 H locs cells slots hf hs => ?_)
        refine lv_istore (lv' := [(5, .int v20), (0, .ref x0), (1, .ref x1), (2, .ref x2), (3, .ref x3), (4, .int x4)]) hx hb d_W_law_143 hl (by decide) rfl (fun ls hl => ?_)
        refine lv_aload_n hx hb d_W_law_145 rfl (lv_at hl 3 rfl) ?_
        refine lv_aload_n hx hb d_W_law_146 rfl (lv_at hl 1 rfl) ?_
        refine lv_iload hx hb d_W_law_147 (lv_at hl 5 rfl) ?_
        refine lv_iconst (v := 1) hx hb d_W_law_149 (by decide) ?_
        refine lv_iadd hx hb d_W_law_150 ?_
        refine r_iald7 C hs d_W_law_151 hf (fun v21 hf => ?_)
        obtain ⟨_, ho, hf⟩ := bd hf
        refine kl_I C hs hno hf (fun res e1 => iv_V (b := x2) (As := [.int v21]) (rest := []) C hs cv_W_84 (c_M_init hl0 e1) (ci := 6) rfl rfl ho rfl hl.1 rfl (Nat.le_of_ble_eq_true rfl) d_W_law_152 ⟨Nat.le_of_ble_eq_true rfl, Nat.le_of_ble_eq_true rfl⟩) (fun v24 h22 z23 H locs cells slots hf hs => ?_)
        refine lv_istore (lv' := [(6, .int v24), (5, .int v20), (0, .ref x0), (1, .ref x1), (2, .ref x2), (3, .ref x3), (4, .int x4)]) hx hb d_W_law_155 hl (by decide) rfl (fun ls hl => ?_)
        refine lv_aload_n hx hb d_W_law_157 rfl (lv_at hl 4 rfl) ?_
        obtain ⟨_, ho, hf⟩ := bd hf
        refine kl_I C hs hno hf (fun res e1 => iv_V (b := x2) (As := []) (rest := []) C hs cv_W_85 (c_M_thrown hl0 e1) (ci := 6) rfl rfl ho rfl hl.1 rfl (Nat.le_of_ble_eq_true rfl) d_W_law_158 ⟨Nat.le_of_ble_eq_true rfl, Nat.le_of_ble_eq_true rfl⟩) (fun v27 h25 z26 H locs cells slots hf hs => ?_)
        refine lv_iload hx hb d_W_law_161 (lv_at hl 1 rfl) ?_
        refine lv_icmp_eq (tgt := 168) hx hb d_W_law_163 (by decide) (fun q28 => ?_) (fun q28 => ?_)
        · have hf := ifp q28 hf
          refine lv_iload hx hb d_W_law_168 (lv_at hl 1 rfl) ?_
          refine lv_if_ne (tgt := 185) hx hb d_W_law_170 (by decide) (fun q29 => ?_) (fun q29 => ?_)
          · have hf := ifn q29 hf
            refine lv_goto (tgt := 1454) hx hb d_W_law_185 (by decide) ?_
            refine lv_iinc (v := x4 + 6) (lv' := [(4, .int (x4 + 6)), (6, .int v24), (5, .int v20), (0, .ref x0), (1, .ref x1), (2, .ref x2), (3, .ref x3)]) hx hb d_W_law_1454 hl (k := 6) rfl rfl (by decide) rfl (fun ls hl => ?_)
            refine lv_goto (tgt := 23) hx hb d_W_law_1457 (by decide) ?_
            exact ih _ _ _ _ _ _ _ hf _ _ _ _ _ hs (lv_sub hl [3, 4, 5, 6, 0] rfl)
          · have hf := ifp q29 hf
            refine lv_aload_n hx hb d_W_law_173 rfl (lv_at hl 5 rfl) ?_
            refine lv_iconst (v := 0) hx hb d_W_law_174 (by decide) ?_
            refine r_lald C hs d_W_law_175 hf (fun v30 hf => ?_)
            refine lv_iload hx hb d_W_law_176 (lv_at hl 0 rfl) ?_
            refine lv_i2l (v := v24.toInt64) hx hb d_W_law_178 rfl ?_
            refine W.lcmp hx hb d_W_law_179 ?_
            refine lv_if_eq (tgt := 185) hx hb d_W_law_180 (by decide) (fun q31 => ?_) (fun q31 => ?_)
            · have hf := ifp q31 hf
              refine lv_goto (tgt := 1454) hx hb d_W_law_185 (by decide) ?_
              refine lv_iinc (v := x4 + 6) (lv' := [(4, .int (x4 + 6)), (6, .int v24), (5, .int v20), (0, .ref x0), (1, .ref x1), (2, .ref x2), (3, .ref x3)]) hx hb d_W_law_1454 hl (k := 6) rfl rfl (by decide) rfl (fun ls hl => ?_)
              refine lv_goto (tgt := 23) hx hb d_W_law_1457 (by decide) ?_
              exact ih _ _ _ _ _ _ _ hf _ _ _ _ _ hs (lv_sub hl [3, 4, 5, 6, 0] rfl)
            · have hf := ifn q31 hf
              refine lv_iconst (v := 0) hx hb d_W_law_183 (by decide) ?_
              exact r_zreturn C hs hr d_W_law_184 hf
        · have hf := ifn q28 hf
          refine lv_iconst (v := 0) hx hb d_W_law_166 (by decide) ?_
          exact r_zreturn C hs hr d_W_law_167 hf
      have hf := ifn q16 hf
      by_cases q32 : (v15 &&& 31) = 1
      · have hf := ifp q32 hf
        refine lv_tableIn (tgt := 188) (off := 148) hx hb d_W_law_40 (by rw [q32]; decide) (by rw [q32]; decide) (by rw [q32]; rfl) (by decide) ?_
        refine lv_aload_n hx hb d_W_law_188 rfl (lv_at hl 1 rfl) ?_
        refine lv_aload_n hx hb d_W_law_189 rfl (lv_at hl 0 rfl) ?_
        refine lv_iload hx hb d_W_law_190 (lv_at hl 4 rfl) ?_
        refine lv_iconst (v := 1) hx hb d_W_law_192 (by decide) ?_
        refine lv_iadd hx hb d_W_law_193 ?_
        refine r_iald7 C hs d_W_law_194 hf (fun v33 hf => ?_)
        refine lv_aload_n hx hb d_W_law_195 rfl (lv_at hl 0 rfl) ?_
        refine lv_iload hx hb d_W_law_196 (lv_at hl 4 rfl) ?_
        refine lv_iconst (v := 2) hx hb d_W_law_198 (by decide) ?_
        refine lv_iadd hx hb d_W_law_199 ?_
        refine r_iald7 C hs d_W_law_200 hf (fun v34 hf => ?_)
        refine lv_aload_n hx hb d_W_law_201 rfl (lv_at hl 3 rfl) ?_
        refine kl_I C hs hno hf (fun res e1 => iv_SW (As := [.ref x1, .int v33, .int v34, .ref x3]) (rest := []) C hs csw_W_89 (c_W_begin hl0 e1) rfl hl.1 rfl (Nat.le_of_ble_eq_true rfl) d_W_law_202 ⟨Nat.le_of_ble_eq_true rfl, Nat.le_of_ble_eq_true rfl⟩) (fun v37 h35 z36 H locs cells slots hf hs => ?_)
        refine lv_istore (lv' := [(5, .int v37), (0, .ref x0), (1, .ref x1), (2, .ref x2), (3, .ref x3), (4, .int x4)]) hx hb d_W_law_205 hl (by decide) rfl (fun ls hl => ?_)
        refine lv_aload_n hx hb d_W_law_207 rfl (lv_at hl 3 rfl) ?_
        refine lv_aload_n hx hb d_W_law_208 rfl (lv_at hl 1 rfl) ?_
        refine lv_iload hx hb d_W_law_209 (lv_at hl 5 rfl) ?_
        refine lv_iconst (v := 1) hx hb d_W_law_211 (by decide) ?_
        refine lv_iadd hx hb d_W_law_212 ?_
        refine r_iald7 C hs d_W_law_213 hf (fun v38 hf => ?_)
        refine lv_aload_n hx hb d_W_law_214 rfl (lv_at hl 1 rfl) ?_
        refine lv_iload hx hb d_W_law_215 (lv_at hl 5 rfl) ?_
        refine lv_iconst (v := 2) hx hb d_W_law_217 (by decide) ?_
        refine lv_iadd hx hb d_W_law_218 ?_
        refine r_iald7 C hs d_W_law_219 hf (fun v39 hf => ?_)
        obtain ⟨_, ho, hf⟩ := bd hf
        refine kl_I C hs hno hf (fun res e1 => iv_V (b := x2) (As := [.int v38, .int v39]) (rest := []) C hs cv_W_92 (c_M_begin hl0 e1) (ci := 6) rfl rfl ho rfl hl.1 rfl (Nat.le_of_ble_eq_true rfl) d_W_law_220 ⟨Nat.le_of_ble_eq_true rfl, Nat.le_of_ble_eq_true rfl⟩) (fun v42 h40 z41 H locs cells slots hf hs => ?_)
        refine lv_istore (lv' := [(6, .int v42), (5, .int v37), (0, .ref x0), (1, .ref x1), (2, .ref x2), (3, .ref x3), (4, .int x4)]) hx hb d_W_law_223 hl (by decide) rfl (fun ls hl => ?_)
        refine lv_aload_n hx hb d_W_law_225 rfl (lv_at hl 4 rfl) ?_
        obtain ⟨_, ho, hf⟩ := bd hf
        refine kl_I C hs hno hf (fun res e1 => iv_V (b := x2) (As := []) (rest := []) C hs cv_W_85 (c_M_thrown hl0 e1) (ci := 6) rfl rfl ho rfl hl.1 rfl (Nat.le_of_ble_eq_true rfl) d_W_law_226 ⟨Nat.le_of_ble_eq_true rfl, Nat.le_of_ble_eq_true rfl⟩) (fun v45 h43 z44 H locs cells slots hf hs => ?_)
        refine lv_iload hx hb d_W_law_229 (lv_at hl 1 rfl) ?_
        refine lv_icmp_eq (tgt := 236) hx hb d_W_law_231 (by decide) (fun q46 => ?_) (fun q46 => ?_)
        · have hf := ifp q46 hf
          refine lv_iload hx hb d_W_law_236 (lv_at hl 1 rfl) ?_
          refine lv_if_ne (tgt := 253) hx hb d_W_law_238 (by decide) (fun q47 => ?_) (fun q47 => ?_)
          · have hf := ifn q47 hf
            refine lv_goto (tgt := 1454) hx hb d_W_law_253 (by decide) ?_
            refine lv_iinc (v := x4 + 6) (lv' := [(4, .int (x4 + 6)), (6, .int v42), (5, .int v37), (0, .ref x0), (1, .ref x1), (2, .ref x2), (3, .ref x3)]) hx hb d_W_law_1454 hl (k := 6) rfl rfl (by decide) rfl (fun ls hl => ?_)
            refine lv_goto (tgt := 23) hx hb d_W_law_1457 (by decide) ?_
            exact ih _ _ _ _ _ _ _ hf _ _ _ _ _ hs (lv_sub hl [3, 4, 5, 6, 0] rfl)
          · have hf := ifp q47 hf
            refine lv_aload_n hx hb d_W_law_241 rfl (lv_at hl 5 rfl) ?_
            refine lv_iconst (v := 0) hx hb d_W_law_242 (by decide) ?_
            refine r_lald C hs d_W_law_243 hf (fun v48 hf => ?_)
            refine lv_iload hx hb d_W_law_244 (lv_at hl 0 rfl) ?_
            refine lv_i2l (v := v42.toInt64) hx hb d_W_law_246 rfl ?_
            refine W.lcmp hx hb d_W_law_247 ?_
            refine lv_if_eq (tgt := 253) hx hb d_W_law_248 (by decide) (fun q49 => ?_) (fun q49 => ?_)
            · have hf := ifp q49 hf
              refine lv_goto (tgt := 1454) hx hb d_W_law_253 (by decide) ?_
              refine lv_iinc (v := x4 + 6) (lv' := [(4, .int (x4 + 6)), (6, .int v42), (5, .int v37), (0, .ref x0), (1, .ref x1), (2, .ref x2), (3, .ref x3)]) hx hb d_W_law_1454 hl (k := 6) rfl rfl (by decide) rfl (fun ls hl => ?_)
              refine lv_goto (tgt := 23) hx hb d_W_law_1457 (by decide) ?_
              exact ih _ _ _ _ _ _ _ hf _ _ _ _ _ hs (lv_sub hl [3, 4, 5, 6, 0] rfl)
            · have hf := ifn q49 hf
              refine lv_iconst (v := 0) hx hb d_W_law_251 (by decide) ?_
              exact r_zreturn C hs hr d_W_law_252 hf
        · have hf := ifn q46 hf
          refine lv_iconst (v := 0) hx hb d_W_law_234 (by decide) ?_
          exact r_zreturn C hs hr d_W_law_235 hf
      have hf := ifn q32 hf
      by_cases q50 : (v15 &&& 31) = 2
      · have hf := ifp q50 hf
        refine lv_tableIn (tgt := 256) (off := 216) hx hb d_W_law_40 (by rw [q50]; decide) (by rw [q50]; decide) (by rw [q50]; rfl) (by decide) ?_
        refine lv_aload_n hx hb d_W_law_256 rfl (lv_at hl 1 rfl) ?_
        refine lv_aload_n hx hb d_W_law_257 rfl (lv_at hl 0 rfl) ?_
        refine lv_iload hx hb d_W_law_258 (lv_at hl 4 rfl) ?_
        refine lv_iconst (v := 1) hx hb d_W_law_260 (by decide) ?_
        refine lv_iadd hx hb d_W_law_261 ?_
        refine r_iald7 C hs d_W_law_262 hf (fun v51 hf => ?_)
        refine lv_aload_n hx hb d_W_law_263 rfl (lv_at hl 0 rfl) ?_
        refine lv_iload hx hb d_W_law_264 (lv_at hl 4 rfl) ?_
        refine lv_iconst (v := 2) hx hb d_W_law_266 (by decide) ?_
        refine lv_iadd hx hb d_W_law_267 ?_
        refine r_iald7 C hs d_W_law_268 hf (fun v52 hf => ?_)
        refine lv_aload_n hx hb d_W_law_269 rfl (lv_at hl 0 rfl) ?_
        refine lv_iload hx hb d_W_law_270 (lv_at hl 4 rfl) ?_
        refine lv_iconst (v := 3) hx hb d_W_law_272 (by decide) ?_
        refine lv_iadd hx hb d_W_law_273 ?_
        refine r_iald7 C hs d_W_law_274 hf (fun v53 hf => ?_)
        refine lv_aload_n hx hb d_W_law_275 rfl (lv_at hl 0 rfl) ?_
        refine lv_iload hx hb d_W_law_276 (lv_at hl 4 rfl) ?_
        refine lv_iconst (v := 4) hx hb d_W_law_278 (by decide) ?_
        refine lv_iadd hx hb d_W_law_279 ?_
        refine r_iald7 C hs d_W_law_280 hf (fun v54 hf => ?_)
        refine lv_aload_n hx hb d_W_law_281 rfl (lv_at hl 0 rfl) ?_
        refine lv_iload hx hb d_W_law_282 (lv_at hl 4 rfl) ?_
        refine lv_iconst (v := 5) hx hb d_W_law_284 (by decide) ?_
        refine lv_iadd hx hb d_W_law_285 ?_
        refine r_iald7 C hs d_W_law_286 hf (fun v55 hf => ?_)
        refine lv_aload_n hx hb d_W_law_287 rfl (lv_at hl 3 rfl) ?_
        refine kl_I C hs hno hf (fun res e1 => iv_SW (As := [.ref x1, .int v51, .int v52, .int v53, .int v54, .int v55, .ref x3]) (rest := []) C hs csw_W_93 (c_W_send hl0 e1) rfl hl.1 rfl (Nat.le_of_ble_eq_true rfl) d_W_law_288 ⟨Nat.le_of_ble_eq_true rfl, Nat.le_of_ble_eq_true rfl⟩) (fun v58 h56 z57 H locs cells slots hf hs => ?_)
        refine lv_istore (lv' := [(5, .int v58), (0, .ref x0), (1, .ref x1), (2, .ref x2), (3, .ref x3), (4, .int x4)]) hx hb d_W_law_291 hl (by decide) rfl (fun ls hl => ?_)
        refine lv_aload_n hx hb d_W_law_293 rfl (lv_at hl 3 rfl) ?_
        refine lv_aload_n hx hb d_W_law_294 rfl (lv_at hl 1 rfl) ?_
        refine lv_iload hx hb d_W_law_295 (lv_at hl 5 rfl) ?_
        refine lv_iconst (v := 1) hx hb d_W_law_297 (by decide) ?_
        refine lv_iadd hx hb d_W_law_298 ?_
        refine r_iald7 C hs d_W_law_299 hf (fun v59 hf => ?_)
        refine lv_aload_n hx hb d_W_law_300 rfl (lv_at hl 1 rfl) ?_
        refine lv_iload hx hb d_W_law_301 (lv_at hl 5 rfl) ?_
        refine lv_iconst (v := 2) hx hb d_W_law_303 (by decide) ?_
        refine lv_iadd hx hb d_W_law_304 ?_
        refine r_iald7 C hs d_W_law_305 hf (fun v60 hf => ?_)
        refine lv_aload_n hx hb d_W_law_306 rfl (lv_at hl 1 rfl) ?_
        refine lv_iload hx hb d_W_law_307 (lv_at hl 5 rfl) ?_
        refine lv_iconst (v := 3) hx hb d_W_law_309 (by decide) ?_
        refine lv_iadd hx hb d_W_law_310 ?_
        refine r_iald7 C hs d_W_law_311 hf (fun v61 hf => ?_)
        refine lv_aload_n hx hb d_W_law_312 rfl (lv_at hl 1 rfl) ?_
        refine lv_iload hx hb d_W_law_313 (lv_at hl 5 rfl) ?_
        refine lv_iconst (v := 4) hx hb d_W_law_315 (by decide) ?_
        refine lv_iadd hx hb d_W_law_316 ?_
        refine r_iald7 C hs d_W_law_317 hf (fun v62 hf => ?_)
        refine lv_aload_n hx hb d_W_law_318 rfl (lv_at hl 1 rfl) ?_
        refine lv_iload hx hb d_W_law_319 (lv_at hl 5 rfl) ?_
        refine lv_iconst (v := 5) hx hb d_W_law_321 (by decide) ?_
        refine lv_iadd hx hb d_W_law_322 ?_
        refine r_iald7 C hs d_W_law_323 hf (fun v63 hf => ?_)
        obtain ⟨_, ho, hf⟩ := bd hf
        refine kl_I C hs hno hf (fun res e1 => iv_V (b := x2) (As := [.int v59, .int v60, .int v61, .int v62, .int v63]) (rest := []) C hs cv_W_96 (c_M_send hl0 e1) (ci := 6) rfl rfl ho rfl hl.1 rfl (Nat.le_of_ble_eq_true rfl) d_W_law_324 ⟨Nat.le_of_ble_eq_true rfl, Nat.le_of_ble_eq_true rfl⟩) (fun v66 h64 z65 H locs cells slots hf hs => ?_)
        refine lv_istore (lv' := [(6, .int v66), (5, .int v58), (0, .ref x0), (1, .ref x1), (2, .ref x2), (3, .ref x3), (4, .int x4)]) hx hb d_W_law_327 hl (by decide) rfl (fun ls hl => ?_)
        refine lv_aload_n hx hb d_W_law_329 rfl (lv_at hl 4 rfl) ?_
        obtain ⟨_, ho, hf⟩ := bd hf
        refine kl_I C hs hno hf (fun res e1 => iv_V (b := x2) (As := []) (rest := []) C hs cv_W_85 (c_M_thrown hl0 e1) (ci := 6) rfl rfl ho rfl hl.1 rfl (Nat.le_of_ble_eq_true rfl) d_W_law_330 ⟨Nat.le_of_ble_eq_true rfl, Nat.le_of_ble_eq_true rfl⟩) (fun v69 h67 z68 H locs cells slots hf hs => ?_)
        refine lv_iload hx hb d_W_law_333 (lv_at hl 1 rfl) ?_
        refine lv_icmp_eq (tgt := 340) hx hb d_W_law_335 (by decide) (fun q70 => ?_) (fun q70 => ?_)
        · have hf := ifp q70 hf
          refine lv_iload hx hb d_W_law_340 (lv_at hl 1 rfl) ?_
          refine lv_if_ne (tgt := 357) hx hb d_W_law_342 (by decide) (fun q71 => ?_) (fun q71 => ?_)
          · have hf := ifn q71 hf
            refine lv_goto (tgt := 1454) hx hb d_W_law_357 (by decide) ?_
            refine lv_iinc (v := x4 + 6) (lv' := [(4, .int (x4 + 6)), (6, .int v66), (5, .int v58), (0, .ref x0), (1, .ref x1), (2, .ref x2), (3, .ref x3)]) hx hb d_W_law_1454 hl (k := 6) rfl rfl (by decide) rfl (fun ls hl => ?_)
            refine lv_goto (tgt := 23) hx hb d_W_law_1457 (by decide) ?_
            exact ih _ _ _ _ _ _ _ hf _ _ _ _ _ hs (lv_sub hl [3, 4, 5, 6, 0] rfl)
          · have hf := ifp q71 hf
            refine lv_aload_n hx hb d_W_law_345 rfl (lv_at hl 5 rfl) ?_
            refine lv_iconst (v := 0) hx hb d_W_law_346 (by decide) ?_
            refine r_lald C hs d_W_law_347 hf (fun v72 hf => ?_)
            refine lv_iload hx hb d_W_law_348 (lv_at hl 0 rfl) ?_
            refine lv_i2l (v := v66.toInt64) hx hb d_W_law_350 rfl ?_
            refine W.lcmp hx hb d_W_law_351 ?_
            refine lv_if_eq (tgt := 357) hx hb d_W_law_352 (by decide) (fun q73 => ?_) (fun q73 => ?_)
            · have hf := ifp q73 hf
              refine lv_goto (tgt := 1454) hx hb d_W_law_357 (by decide) ?_
              refine lv_iinc (v := x4 + 6) (lv' := [(4, .int (x4 + 6)), (6, .int v66), (5, .int v58), (0, .ref x0), (1, .ref x1), (2, .ref x2), (3, .ref x3)]) hx hb d_W_law_1454 hl (k := 6) rfl rfl (by decide) rfl (fun ls hl => ?_)
              refine lv_goto (tgt := 23) hx hb d_W_law_1457 (by decide) ?_
              exact ih _ _ _ _ _ _ _ hf _ _ _ _ _ hs (lv_sub hl [3, 4, 5, 6, 0] rfl)
            · have hf := ifn q73 hf
              refine lv_iconst (v := 0) hx hb d_W_law_355 (by decide) ?_
              exact r_zreturn C hs hr d_W_law_356 hf
        · have hf := ifn q70 hf
          refine lv_iconst (v := 0) hx hb d_W_law_338 (by decide) ?_
          exact r_zreturn C hs hr d_W_law_339 hf
      have hf := ifn q50 hf
      by_cases q74 : (v15 &&& 31) = 3
      · have hf := ifp q74 hf
        refine lv_tableIn (tgt := 360) (off := 320) hx hb d_W_law_40 (by rw [q74]; decide) (by rw [q74]; decide) (by rw [q74]; rfl) (by decide) ?_
        refine lv_aload_n hx hb d_W_law_360 rfl (lv_at hl 1 rfl) ?_
        refine lv_aload_n hx hb d_W_law_361 rfl (lv_at hl 0 rfl) ?_
        refine lv_iload hx hb d_W_law_362 (lv_at hl 4 rfl) ?_
        refine lv_iconst (v := 1) hx hb d_W_law_364 (by decide) ?_
        refine lv_iadd hx hb d_W_law_365 ?_
        refine r_iald7 C hs d_W_law_366 hf (fun v75 hf => ?_)
        refine lv_aload_n hx hb d_W_law_367 rfl (lv_at hl 0 rfl) ?_
        refine lv_iload hx hb d_W_law_368 (lv_at hl 4 rfl) ?_
        refine lv_iconst (v := 2) hx hb d_W_law_370 (by decide) ?_
        refine lv_iadd hx hb d_W_law_371 ?_
        refine r_iald7 C hs d_W_law_372 hf (fun v76 hf => ?_)
        refine lv_aload_n hx hb d_W_law_373 rfl (lv_at hl 0 rfl) ?_
        refine lv_iload hx hb d_W_law_374 (lv_at hl 4 rfl) ?_
        refine lv_iconst (v := 3) hx hb d_W_law_376 (by decide) ?_
        refine lv_iadd hx hb d_W_law_377 ?_
        refine r_iald7 C hs d_W_law_378 hf (fun v77 hf => ?_)
        refine lv_aload_n hx hb d_W_law_379 rfl (lv_at hl 0 rfl) ?_
        refine lv_iload hx hb d_W_law_380 (lv_at hl 4 rfl) ?_
        refine lv_iconst (v := 4) hx hb d_W_law_382 (by decide) ?_
        refine lv_iadd hx hb d_W_law_383 ?_
        refine r_iald7 C hs d_W_law_384 hf (fun v78 hf => ?_)
        refine lv_aload_n hx hb d_W_law_385 rfl (lv_at hl 0 rfl) ?_
        refine lv_iload hx hb d_W_law_386 (lv_at hl 4 rfl) ?_
        refine lv_iconst (v := 5) hx hb d_W_law_388 (by decide) ?_
        refine lv_iadd hx hb d_W_law_389 ?_
        refine r_iald7 C hs d_W_law_390 hf (fun v79 hf => ?_)
        refine lv_aload_n hx hb d_W_law_391 rfl (lv_at hl 3 rfl) ?_
        refine kl_I C hs hno hf (fun res e1 => iv_SW (As := [.ref x1, .int v75, .int v76, .int v77, .int v78, .int v79, .ref x3]) (rest := []) C hs csw_W_97 (c_W_pend hl0 e1) rfl hl.1 rfl (Nat.le_of_ble_eq_true rfl) d_W_law_392 ⟨Nat.le_of_ble_eq_true rfl, Nat.le_of_ble_eq_true rfl⟩) (fun v82 h80 z81 H locs cells slots hf hs => ?_)
        refine lv_istore (lv' := [(5, .int v82), (0, .ref x0), (1, .ref x1), (2, .ref x2), (3, .ref x3), (4, .int x4)]) hx hb d_W_law_395 hl (by decide) rfl (fun ls hl => ?_)
        refine lv_aload_n hx hb d_W_law_397 rfl (lv_at hl 3 rfl) ?_
        refine lv_aload_n hx hb d_W_law_398 rfl (lv_at hl 1 rfl) ?_
        refine lv_iload hx hb d_W_law_399 (lv_at hl 5 rfl) ?_
        refine lv_iconst (v := 1) hx hb d_W_law_401 (by decide) ?_
        refine lv_iadd hx hb d_W_law_402 ?_
        refine r_iald7 C hs d_W_law_403 hf (fun v83 hf => ?_)
        refine lv_aload_n hx hb d_W_law_404 rfl (lv_at hl 1 rfl) ?_
        refine lv_iload hx hb d_W_law_405 (lv_at hl 5 rfl) ?_
        refine lv_iconst (v := 2) hx hb d_W_law_407 (by decide) ?_
        refine lv_iadd hx hb d_W_law_408 ?_
        refine r_iald7 C hs d_W_law_409 hf (fun v84 hf => ?_)
        refine lv_aload_n hx hb d_W_law_410 rfl (lv_at hl 1 rfl) ?_
        refine lv_iload hx hb d_W_law_411 (lv_at hl 5 rfl) ?_
        refine lv_iconst (v := 3) hx hb d_W_law_413 (by decide) ?_
        refine lv_iadd hx hb d_W_law_414 ?_
        refine r_iald7 C hs d_W_law_415 hf (fun v85 hf => ?_)
        refine lv_aload_n hx hb d_W_law_416 rfl (lv_at hl 1 rfl) ?_
        refine lv_iload hx hb d_W_law_417 (lv_at hl 5 rfl) ?_
        refine lv_iconst (v := 4) hx hb d_W_law_419 (by decide) ?_
        refine lv_iadd hx hb d_W_law_420 ?_
        refine r_iald7 C hs d_W_law_421 hf (fun v86 hf => ?_)
        refine lv_aload_n hx hb d_W_law_422 rfl (lv_at hl 1 rfl) ?_
        refine lv_iload hx hb d_W_law_423 (lv_at hl 5 rfl) ?_
        refine lv_iconst (v := 5) hx hb d_W_law_425 (by decide) ?_
        refine lv_iadd hx hb d_W_law_426 ?_
        refine r_iald7 C hs d_W_law_427 hf (fun v87 hf => ?_)
        obtain ⟨_, ho, hf⟩ := bd hf
        refine kl_I C hs hno hf (fun res e1 => iv_V (b := x2) (As := [.int v83, .int v84, .int v85, .int v86, .int v87]) (rest := []) C hs cv_W_99 (c_M_pend hl0 e1) (ci := 6) rfl rfl ho rfl hl.1 rfl (Nat.le_of_ble_eq_true rfl) d_W_law_428 ⟨Nat.le_of_ble_eq_true rfl, Nat.le_of_ble_eq_true rfl⟩) (fun v90 h88 z89 H locs cells slots hf hs => ?_)
        refine lv_istore (lv' := [(6, .int v90), (5, .int v82), (0, .ref x0), (1, .ref x1), (2, .ref x2), (3, .ref x3), (4, .int x4)]) hx hb d_W_law_431 hl (by decide) rfl (fun ls hl => ?_)
        refine lv_aload_n hx hb d_W_law_433 rfl (lv_at hl 4 rfl) ?_
        obtain ⟨_, ho, hf⟩ := bd hf
        refine kl_I C hs hno hf (fun res e1 => iv_V (b := x2) (As := []) (rest := []) C hs cv_W_85 (c_M_thrown hl0 e1) (ci := 6) rfl rfl ho rfl hl.1 rfl (Nat.le_of_ble_eq_true rfl) d_W_law_434 ⟨Nat.le_of_ble_eq_true rfl, Nat.le_of_ble_eq_true rfl⟩) (fun v93 h91 z92 H locs cells slots hf hs => ?_)
        refine lv_iload hx hb d_W_law_437 (lv_at hl 1 rfl) ?_
        refine lv_icmp_eq (tgt := 444) hx hb d_W_law_439 (by decide) (fun q94 => ?_) (fun q94 => ?_)
        · have hf := ifp q94 hf
          refine lv_iload hx hb d_W_law_444 (lv_at hl 1 rfl) ?_
          refine lv_if_ne (tgt := 461) hx hb d_W_law_446 (by decide) (fun q95 => ?_) (fun q95 => ?_)
          · have hf := ifn q95 hf
            refine lv_goto (tgt := 1454) hx hb d_W_law_461 (by decide) ?_
            refine lv_iinc (v := x4 + 6) (lv' := [(4, .int (x4 + 6)), (6, .int v90), (5, .int v82), (0, .ref x0), (1, .ref x1), (2, .ref x2), (3, .ref x3)]) hx hb d_W_law_1454 hl (k := 6) rfl rfl (by decide) rfl (fun ls hl => ?_)
            refine lv_goto (tgt := 23) hx hb d_W_law_1457 (by decide) ?_
            exact ih _ _ _ _ _ _ _ hf _ _ _ _ _ hs (lv_sub hl [3, 4, 5, 6, 0] rfl)
          · have hf := ifp q95 hf
            refine lv_aload_n hx hb d_W_law_449 rfl (lv_at hl 5 rfl) ?_
            refine lv_iconst (v := 0) hx hb d_W_law_450 (by decide) ?_
            refine r_lald C hs d_W_law_451 hf (fun v96 hf => ?_)
            refine lv_iload hx hb d_W_law_452 (lv_at hl 0 rfl) ?_
            refine lv_i2l (v := v90.toInt64) hx hb d_W_law_454 rfl ?_
            refine W.lcmp hx hb d_W_law_455 ?_
            refine lv_if_eq (tgt := 461) hx hb d_W_law_456 (by decide) (fun q97 => ?_) (fun q97 => ?_)
            · have hf := ifp q97 hf
              refine lv_goto (tgt := 1454) hx hb d_W_law_461 (by decide) ?_
              refine lv_iinc (v := x4 + 6) (lv' := [(4, .int (x4 + 6)), (6, .int v90), (5, .int v82), (0, .ref x0), (1, .ref x1), (2, .ref x2), (3, .ref x3)]) hx hb d_W_law_1454 hl (k := 6) rfl rfl (by decide) rfl (fun ls hl => ?_)
              refine lv_goto (tgt := 23) hx hb d_W_law_1457 (by decide) ?_
              exact ih _ _ _ _ _ _ _ hf _ _ _ _ _ hs (lv_sub hl [3, 4, 5, 6, 0] rfl)
            · have hf := ifn q97 hf
              refine lv_iconst (v := 0) hx hb d_W_law_459 (by decide) ?_
              exact r_zreturn C hs hr d_W_law_460 hf
        · have hf := ifn q94 hf
          refine lv_iconst (v := 0) hx hb d_W_law_442 (by decide) ?_
          exact r_zreturn C hs hr d_W_law_443 hf
      have hf := ifn q74 hf
      by_cases q98 : (v15 &&& 31) = 4
      · have hf := ifp q98 hf
        refine lv_tableIn (tgt := 464) (off := 424) hx hb d_W_law_40 (by rw [q98]; decide) (by rw [q98]; decide) (by rw [q98]; rfl) (by decide) ?_
        refine lv_aload_n hx hb d_W_law_464 rfl (lv_at hl 1 rfl) ?_
        refine lv_aload_n hx hb d_W_law_465 rfl (lv_at hl 0 rfl) ?_
        refine lv_iload hx hb d_W_law_466 (lv_at hl 4 rfl) ?_
        refine lv_iconst (v := 1) hx hb d_W_law_468 (by decide) ?_
        refine lv_iadd hx hb d_W_law_469 ?_
        refine r_iald7 C hs d_W_law_470 hf (fun v99 hf => ?_)
        refine lv_aload_n hx hb d_W_law_471 rfl (lv_at hl 0 rfl) ?_
        refine lv_iload hx hb d_W_law_472 (lv_at hl 4 rfl) ?_
        refine lv_iconst (v := 2) hx hb d_W_law_474 (by decide) ?_
        refine lv_iadd hx hb d_W_law_475 ?_
        refine r_iald7 C hs d_W_law_476 hf (fun v100 hf => ?_)
        refine lv_aload_n hx hb d_W_law_477 rfl (lv_at hl 0 rfl) ?_
        refine lv_iload hx hb d_W_law_478 (lv_at hl 4 rfl) ?_
        refine lv_iconst (v := 3) hx hb d_W_law_480 (by decide) ?_
        refine lv_iadd hx hb d_W_law_481 ?_
        refine r_iald7 C hs d_W_law_482 hf (fun v101 hf => ?_)
        refine lv_if_eq (tgt := 490) hx hb d_W_law_483 (by decide) (fun q102 => ?_) (fun q102 => ?_)
        · have hf := ifp q102 hf
          refine lv_iconst (v := 0) hx hb d_W_law_490 (by decide) ?_
          refine lv_aload_n hx hb d_W_law_491 rfl (lv_at hl 3 rfl) ?_
          refine kl_I C hs hno hf (fun res e1 => iv_SW (As := [.ref x1, .int v99, .int v100, .int 0, .ref x3]) (rest := []) C hs csw_W_100 (c_W_finish hl0 e1) rfl hl.1 rfl (Nat.le_of_ble_eq_true rfl) d_W_law_492 ⟨Nat.le_of_ble_eq_true rfl, Nat.le_of_ble_eq_true rfl⟩) (fun v105 h103 z104 H locs cells slots hf hs => ?_)
          refine lv_istore (lv' := [(5, .int v105), (0, .ref x0), (1, .ref x1), (2, .ref x2), (3, .ref x3), (4, .int x4)]) hx hb d_W_law_495 hl (by decide) rfl (fun ls hl => ?_)
          refine lv_aload_n hx hb d_W_law_497 rfl (lv_at hl 3 rfl) ?_
          refine lv_aload_n hx hb d_W_law_498 rfl (lv_at hl 1 rfl) ?_
          refine lv_iload hx hb d_W_law_499 (lv_at hl 5 rfl) ?_
          refine lv_iconst (v := 1) hx hb d_W_law_501 (by decide) ?_
          refine lv_iadd hx hb d_W_law_502 ?_
          refine r_iald7 C hs d_W_law_503 hf (fun v106 hf => ?_)
          refine lv_aload_n hx hb d_W_law_504 rfl (lv_at hl 1 rfl) ?_
          refine lv_iload hx hb d_W_law_505 (lv_at hl 5 rfl) ?_
          refine lv_iconst (v := 2) hx hb d_W_law_507 (by decide) ?_
          refine lv_iadd hx hb d_W_law_508 ?_
          refine r_iald7 C hs d_W_law_509 hf (fun v107 hf => ?_)
          refine lv_aload_n hx hb d_W_law_510 rfl (lv_at hl 1 rfl) ?_
          refine lv_iload hx hb d_W_law_511 (lv_at hl 5 rfl) ?_
          refine lv_iconst (v := 3) hx hb d_W_law_513 (by decide) ?_
          refine lv_iadd hx hb d_W_law_514 ?_
          refine r_iald7 C hs d_W_law_515 hf (fun v108 hf => ?_)
          refine lv_if_eq (tgt := 523) hx hb d_W_law_516 (by decide) (fun q109 => ?_) (fun q109 => ?_)
          · have hf := ifp q109 hf
            refine lv_iconst (v := 0) hx hb d_W_law_523 (by decide) ?_
            obtain ⟨_, ho, hf⟩ := bd hf
            refine kl_I C hs hno hf (fun res e1 => iv_V (b := x2) (As := [.int v106, .int v107, .int 0]) (rest := []) C hs cv_W_103 (c_M_finish hl0 e1) (ci := 6) rfl rfl ho rfl hl.1 rfl (Nat.le_of_ble_eq_true rfl) d_W_law_524 ⟨Nat.le_of_ble_eq_true rfl, Nat.le_of_ble_eq_true rfl⟩) (fun v112 h110 z111 H locs cells slots hf hs => ?_)
            refine lv_istore (lv' := [(6, .int v112), (5, .int v105), (0, .ref x0), (1, .ref x1), (2, .ref x2), (3, .ref x3), (4, .int x4)]) hx hb d_W_law_527 hl (by decide) rfl (fun ls hl => ?_)
            refine lv_aload_n hx hb d_W_law_529 rfl (lv_at hl 4 rfl) ?_
            obtain ⟨_, ho, hf⟩ := bd hf
            refine kl_I C hs hno hf (fun res e1 => iv_V (b := x2) (As := []) (rest := []) C hs cv_W_85 (c_M_thrown hl0 e1) (ci := 6) rfl rfl ho rfl hl.1 rfl (Nat.le_of_ble_eq_true rfl) d_W_law_530 ⟨Nat.le_of_ble_eq_true rfl, Nat.le_of_ble_eq_true rfl⟩) (fun v115 h113 z114 H locs cells slots hf hs => ?_)
            refine lv_iload hx hb d_W_law_533 (lv_at hl 1 rfl) ?_
            refine lv_icmp_eq (tgt := 540) hx hb d_W_law_535 (by decide) (fun q116 => ?_) (fun q116 => ?_)
            · have hf := ifp q116 hf
              refine lv_iload hx hb d_W_law_540 (lv_at hl 1 rfl) ?_
              refine lv_if_ne (tgt := 557) hx hb d_W_law_542 (by decide) (fun q117 => ?_) (fun q117 => ?_)
              · have hf := ifn q117 hf
                refine lv_goto (tgt := 1454) hx hb d_W_law_557 (by decide) ?_
                refine lv_iinc (v := x4 + 6) (lv' := [(4, .int (x4 + 6)), (6, .int v112), (5, .int v105), (0, .ref x0), (1, .ref x1), (2, .ref x2), (3, .ref x3)]) hx hb d_W_law_1454 hl (k := 6) rfl rfl (by decide) rfl (fun ls hl => ?_)
                refine lv_goto (tgt := 23) hx hb d_W_law_1457 (by decide) ?_
                exact ih _ _ _ _ _ _ _ hf _ _ _ _ _ hs (lv_sub hl [3, 4, 5, 6, 0] rfl)
              · have hf := ifp q117 hf
                refine lv_aload_n hx hb d_W_law_545 rfl (lv_at hl 5 rfl) ?_
                refine lv_iconst (v := 0) hx hb d_W_law_546 (by decide) ?_
                refine r_lald C hs d_W_law_547 hf (fun v118 hf => ?_)
                refine lv_iload hx hb d_W_law_548 (lv_at hl 0 rfl) ?_
                refine lv_i2l (v := v112.toInt64) hx hb d_W_law_550 rfl ?_
                refine W.lcmp hx hb d_W_law_551 ?_
                refine lv_if_eq (tgt := 557) hx hb d_W_law_552 (by decide) (fun q119 => ?_) (fun q119 => ?_)
                · have hf := ifp q119 hf
                  refine lv_goto (tgt := 1454) hx hb d_W_law_557 (by decide) ?_
                  refine lv_iinc (v := x4 + 6) (lv' := [(4, .int (x4 + 6)), (6, .int v112), (5, .int v105), (0, .ref x0), (1, .ref x1), (2, .ref x2), (3, .ref x3)]) hx hb d_W_law_1454 hl (k := 6) rfl rfl (by decide) rfl (fun ls hl => ?_)
                  refine lv_goto (tgt := 23) hx hb d_W_law_1457 (by decide) ?_
                  exact ih _ _ _ _ _ _ _ hf _ _ _ _ _ hs (lv_sub hl [3, 4, 5, 6, 0] rfl)
                · have hf := ifn q119 hf
                  refine lv_iconst (v := 0) hx hb d_W_law_555 (by decide) ?_
                  exact r_zreturn C hs hr d_W_law_556 hf
            · have hf := ifn q116 hf
              refine lv_iconst (v := 0) hx hb d_W_law_538 (by decide) ?_
              exact r_zreturn C hs hr d_W_law_539 hf
          · have hf := ifn q109 hf
            refine lv_iconst (v := 1) hx hb d_W_law_519 (by decide) ?_
            refine lv_goto (tgt := 524) hx hb d_W_law_520 (by decide) ?_
            obtain ⟨_, ho, hf⟩ := bd hf
            refine kl_I C hs hno hf (fun res e1 => iv_V (b := x2) (As := [.int v106, .int v107, .int 1]) (rest := []) C hs cv_W_103 (c_M_finish hl0 e1) (ci := 6) rfl rfl ho rfl hl.1 rfl (Nat.le_of_ble_eq_true rfl) d_W_law_524 ⟨Nat.le_of_ble_eq_true rfl, Nat.le_of_ble_eq_true rfl⟩) (fun v122 h120 z121 H locs cells slots hf hs => ?_)
            refine lv_istore (lv' := [(6, .int v122), (5, .int v105), (0, .ref x0), (1, .ref x1), (2, .ref x2), (3, .ref x3), (4, .int x4)]) hx hb d_W_law_527 hl (by decide) rfl (fun ls hl => ?_)
            refine lv_aload_n hx hb d_W_law_529 rfl (lv_at hl 4 rfl) ?_
            obtain ⟨_, ho, hf⟩ := bd hf
            refine kl_I C hs hno hf (fun res e1 => iv_V (b := x2) (As := []) (rest := []) C hs cv_W_85 (c_M_thrown hl0 e1) (ci := 6) rfl rfl ho rfl hl.1 rfl (Nat.le_of_ble_eq_true rfl) d_W_law_530 ⟨Nat.le_of_ble_eq_true rfl, Nat.le_of_ble_eq_true rfl⟩) (fun v125 h123 z124 H locs cells slots hf hs => ?_)
            refine lv_iload hx hb d_W_law_533 (lv_at hl 1 rfl) ?_
            refine lv_icmp_eq (tgt := 540) hx hb d_W_law_535 (by decide) (fun q126 => ?_) (fun q126 => ?_)
            · have hf := ifp q126 hf
              refine lv_iload hx hb d_W_law_540 (lv_at hl 1 rfl) ?_
              refine lv_if_ne (tgt := 557) hx hb d_W_law_542 (by decide) (fun q127 => ?_) (fun q127 => ?_)
              · have hf := ifn q127 hf
                refine lv_goto (tgt := 1454) hx hb d_W_law_557 (by decide) ?_
                refine lv_iinc (v := x4 + 6) (lv' := [(4, .int (x4 + 6)), (6, .int v122), (5, .int v105), (0, .ref x0), (1, .ref x1), (2, .ref x2), (3, .ref x3)]) hx hb d_W_law_1454 hl (k := 6) rfl rfl (by decide) rfl (fun ls hl => ?_)
                refine lv_goto (tgt := 23) hx hb d_W_law_1457 (by decide) ?_
                exact ih _ _ _ _ _ _ _ hf _ _ _ _ _ hs (lv_sub hl [3, 4, 5, 6, 0] rfl)
              · have hf := ifp q127 hf
                refine lv_aload_n hx hb d_W_law_545 rfl (lv_at hl 5 rfl) ?_
                refine lv_iconst (v := 0) hx hb d_W_law_546 (by decide) ?_
                refine r_lald C hs d_W_law_547 hf (fun v128 hf => ?_)
                refine lv_iload hx hb d_W_law_548 (lv_at hl 0 rfl) ?_
                refine lv_i2l (v := v122.toInt64) hx hb d_W_law_550 rfl ?_
                refine W.lcmp hx hb d_W_law_551 ?_
                refine lv_if_eq (tgt := 557) hx hb d_W_law_552 (by decide) (fun q129 => ?_) (fun q129 => ?_)
                · have hf := ifp q129 hf
                  refine lv_goto (tgt := 1454) hx hb d_W_law_557 (by decide) ?_
                  refine lv_iinc (v := x4 + 6) (lv' := [(4, .int (x4 + 6)), (6, .int v122), (5, .int v105), (0, .ref x0), (1, .ref x1), (2, .ref x2), (3, .ref x3)]) hx hb d_W_law_1454 hl (k := 6) rfl rfl (by decide) rfl (fun ls hl => ?_)
                  refine lv_goto (tgt := 23) hx hb d_W_law_1457 (by decide) ?_
                  exact ih _ _ _ _ _ _ _ hf _ _ _ _ _ hs (lv_sub hl [3, 4, 5, 6, 0] rfl)
                · have hf := ifn q129 hf
                  refine lv_iconst (v := 0) hx hb d_W_law_555 (by decide) ?_
                  exact r_zreturn C hs hr d_W_law_556 hf
            · have hf := ifn q126 hf
              refine lv_iconst (v := 0) hx hb d_W_law_538 (by decide) ?_
              exact r_zreturn C hs hr d_W_law_539 hf
        · have hf := ifn q102 hf
          refine lv_iconst (v := 1) hx hb d_W_law_486 (by decide) ?_
          refine lv_goto (tgt := 491) hx hb d_W_law_487 (by decide) ?_
          refine lv_aload_n hx hb d_W_law_491 rfl (lv_at hl 3 rfl) ?_
          refine kl_I C hs hno hf (fun res e1 => iv_SW (As := [.ref x1, .int v99, .int v100, .int 1, .ref x3]) (rest := []) C hs csw_W_100 (c_W_finish hl0 e1) rfl hl.1 rfl (Nat.le_of_ble_eq_true rfl) d_W_law_492 ⟨Nat.le_of_ble_eq_true rfl, Nat.le_of_ble_eq_true rfl⟩) (fun v132 h130 z131 H locs cells slots hf hs => ?_)
          refine lv_istore (lv' := [(5, .int v132), (0, .ref x0), (1, .ref x1), (2, .ref x2), (3, .ref x3), (4, .int x4)]) hx hb d_W_law_495 hl (by decide) rfl (fun ls hl => ?_)
          refine lv_aload_n hx hb d_W_law_497 rfl (lv_at hl 3 rfl) ?_
          refine lv_aload_n hx hb d_W_law_498 rfl (lv_at hl 1 rfl) ?_
          refine lv_iload hx hb d_W_law_499 (lv_at hl 5 rfl) ?_
          refine lv_iconst (v := 1) hx hb d_W_law_501 (by decide) ?_
          refine lv_iadd hx hb d_W_law_502 ?_
          refine r_iald7 C hs d_W_law_503 hf (fun v133 hf => ?_)
          refine lv_aload_n hx hb d_W_law_504 rfl (lv_at hl 1 rfl) ?_
          refine lv_iload hx hb d_W_law_505 (lv_at hl 5 rfl) ?_
          refine lv_iconst (v := 2) hx hb d_W_law_507 (by decide) ?_
          refine lv_iadd hx hb d_W_law_508 ?_
          refine r_iald7 C hs d_W_law_509 hf (fun v134 hf => ?_)
          refine lv_aload_n hx hb d_W_law_510 rfl (lv_at hl 1 rfl) ?_
          refine lv_iload hx hb d_W_law_511 (lv_at hl 5 rfl) ?_
          refine lv_iconst (v := 3) hx hb d_W_law_513 (by decide) ?_
          refine lv_iadd hx hb d_W_law_514 ?_
          refine r_iald7 C hs d_W_law_515 hf (fun v135 hf => ?_)
          refine lv_if_eq (tgt := 523) hx hb d_W_law_516 (by decide) (fun q136 => ?_) (fun q136 => ?_)
          · have hf := ifp q136 hf
            refine lv_iconst (v := 0) hx hb d_W_law_523 (by decide) ?_
            obtain ⟨_, ho, hf⟩ := bd hf
            refine kl_I C hs hno hf (fun res e1 => iv_V (b := x2) (As := [.int v133, .int v134, .int 0]) (rest := []) C hs cv_W_103 (c_M_finish hl0 e1) (ci := 6) rfl rfl ho rfl hl.1 rfl (Nat.le_of_ble_eq_true rfl) d_W_law_524 ⟨Nat.le_of_ble_eq_true rfl, Nat.le_of_ble_eq_true rfl⟩) (fun v139 h137 z138 H locs cells slots hf hs => ?_)
            refine lv_istore (lv' := [(6, .int v139), (5, .int v132), (0, .ref x0), (1, .ref x1), (2, .ref x2), (3, .ref x3), (4, .int x4)]) hx hb d_W_law_527 hl (by decide) rfl (fun ls hl => ?_)
            refine lv_aload_n hx hb d_W_law_529 rfl (lv_at hl 4 rfl) ?_
            obtain ⟨_, ho, hf⟩ := bd hf
            refine kl_I C hs hno hf (fun res e1 => iv_V (b := x2) (As := []) (rest := []) C hs cv_W_85 (c_M_thrown hl0 e1) (ci := 6) rfl rfl ho rfl hl.1 rfl (Nat.le_of_ble_eq_true rfl) d_W_law_530 ⟨Nat.le_of_ble_eq_true rfl, Nat.le_of_ble_eq_true rfl⟩) (fun v142 h140 z141 H locs cells slots hf hs => ?_)
            refine lv_iload hx hb d_W_law_533 (lv_at hl 1 rfl) ?_
            refine lv_icmp_eq (tgt := 540) hx hb d_W_law_535 (by decide) (fun q143 => ?_) (fun q143 => ?_)
            · have hf := ifp q143 hf
              refine lv_iload hx hb d_W_law_540 (lv_at hl 1 rfl) ?_
              refine lv_if_ne (tgt := 557) hx hb d_W_law_542 (by decide) (fun q144 => ?_) (fun q144 => ?_)
              · have hf := ifn q144 hf
                refine lv_goto (tgt := 1454) hx hb d_W_law_557 (by decide) ?_
                refine lv_iinc (v := x4 + 6) (lv' := [(4, .int (x4 + 6)), (6, .int v139), (5, .int v132), (0, .ref x0), (1, .ref x1), (2, .ref x2), (3, .ref x3)]) hx hb d_W_law_1454 hl (k := 6) rfl rfl (by decide) rfl (fun ls hl => ?_)
                refine lv_goto (tgt := 23) hx hb d_W_law_1457 (by decide) ?_
                exact ih _ _ _ _ _ _ _ hf _ _ _ _ _ hs (lv_sub hl [3, 4, 5, 6, 0] rfl)
              · have hf := ifp q144 hf
                refine lv_aload_n hx hb d_W_law_545 rfl (lv_at hl 5 rfl) ?_
                refine lv_iconst (v := 0) hx hb d_W_law_546 (by decide) ?_
                refine r_lald C hs d_W_law_547 hf (fun v145 hf => ?_)
                refine lv_iload hx hb d_W_law_548 (lv_at hl 0 rfl) ?_
                refine lv_i2l (v := v139.toInt64) hx hb d_W_law_550 rfl ?_
                refine W.lcmp hx hb d_W_law_551 ?_
                refine lv_if_eq (tgt := 557) hx hb d_W_law_552 (by decide) (fun q146 => ?_) (fun q146 => ?_)
                · have hf := ifp q146 hf
                  refine lv_goto (tgt := 1454) hx hb d_W_law_557 (by decide) ?_
                  refine lv_iinc (v := x4 + 6) (lv' := [(4, .int (x4 + 6)), (6, .int v139), (5, .int v132), (0, .ref x0), (1, .ref x1), (2, .ref x2), (3, .ref x3)]) hx hb d_W_law_1454 hl (k := 6) rfl rfl (by decide) rfl (fun ls hl => ?_)
                  refine lv_goto (tgt := 23) hx hb d_W_law_1457 (by decide) ?_
                  exact ih _ _ _ _ _ _ _ hf _ _ _ _ _ hs (lv_sub hl [3, 4, 5, 6, 0] rfl)
                · have hf := ifn q146 hf
                  refine lv_iconst (v := 0) hx hb d_W_law_555 (by decide) ?_
                  exact r_zreturn C hs hr d_W_law_556 hf
            · have hf := ifn q143 hf
              refine lv_iconst (v := 0) hx hb d_W_law_538 (by decide) ?_
              exact r_zreturn C hs hr d_W_law_539 hf
          · have hf := ifn q136 hf
            refine lv_iconst (v := 1) hx hb d_W_law_519 (by decide) ?_
            refine lv_goto (tgt := 524) hx hb d_W_law_520 (by decide) ?_
            obtain ⟨_, ho, hf⟩ := bd hf
            refine kl_I C hs hno hf (fun res e1 => iv_V (b := x2) (As := [.int v133, .int v134, .int 1]) (rest := []) C hs cv_W_103 (c_M_finish hl0 e1) (ci := 6) rfl rfl ho rfl hl.1 rfl (Nat.le_of_ble_eq_true rfl) d_W_law_524 ⟨Nat.le_of_ble_eq_true rfl, Nat.le_of_ble_eq_true rfl⟩) (fun v149 h147 z148 H locs cells slots hf hs => ?_)
            refine lv_istore (lv' := [(6, .int v149), (5, .int v132), (0, .ref x0), (1, .ref x1), (2, .ref x2), (3, .ref x3), (4, .int x4)]) hx hb d_W_law_527 hl (by decide) rfl (fun ls hl => ?_)
            refine lv_aload_n hx hb d_W_law_529 rfl (lv_at hl 4 rfl) ?_
            obtain ⟨_, ho, hf⟩ := bd hf
            refine kl_I C hs hno hf (fun res e1 => iv_V (b := x2) (As := []) (rest := []) C hs cv_W_85 (c_M_thrown hl0 e1) (ci := 6) rfl rfl ho rfl hl.1 rfl (Nat.le_of_ble_eq_true rfl) d_W_law_530 ⟨Nat.le_of_ble_eq_true rfl, Nat.le_of_ble_eq_true rfl⟩) (fun v152 h150 z151 H locs cells slots hf hs => ?_)
            refine lv_iload hx hb d_W_law_533 (lv_at hl 1 rfl) ?_
            refine lv_icmp_eq (tgt := 540) hx hb d_W_law_535 (by decide) (fun q153 => ?_) (fun q153 => ?_)
            · have hf := ifp q153 hf
              refine lv_iload hx hb d_W_law_540 (lv_at hl 1 rfl) ?_
              refine lv_if_ne (tgt := 557) hx hb d_W_law_542 (by decide) (fun q154 => ?_) (fun q154 => ?_)
              · have hf := ifn q154 hf
                refine lv_goto (tgt := 1454) hx hb d_W_law_557 (by decide) ?_
                refine lv_iinc (v := x4 + 6) (lv' := [(4, .int (x4 + 6)), (6, .int v149), (5, .int v132), (0, .ref x0), (1, .ref x1), (2, .ref x2), (3, .ref x3)]) hx hb d_W_law_1454 hl (k := 6) rfl rfl (by decide) rfl (fun ls hl => ?_)
                refine lv_goto (tgt := 23) hx hb d_W_law_1457 (by decide) ?_
                exact ih _ _ _ _ _ _ _ hf _ _ _ _ _ hs (lv_sub hl [3, 4, 5, 6, 0] rfl)
              · have hf := ifp q154 hf
                refine lv_aload_n hx hb d_W_law_545 rfl (lv_at hl 5 rfl) ?_
                refine lv_iconst (v := 0) hx hb d_W_law_546 (by decide) ?_
                refine r_lald C hs d_W_law_547 hf (fun v155 hf => ?_)
                refine lv_iload hx hb d_W_law_548 (lv_at hl 0 rfl) ?_
                refine lv_i2l (v := v149.toInt64) hx hb d_W_law_550 rfl ?_
                refine W.lcmp hx hb d_W_law_551 ?_
                refine lv_if_eq (tgt := 557) hx hb d_W_law_552 (by decide) (fun q156 => ?_) (fun q156 => ?_)
                · have hf := ifp q156 hf
                  refine lv_goto (tgt := 1454) hx hb d_W_law_557 (by decide) ?_
                  refine lv_iinc (v := x4 + 6) (lv' := [(4, .int (x4 + 6)), (6, .int v149), (5, .int v132), (0, .ref x0), (1, .ref x1), (2, .ref x2), (3, .ref x3)]) hx hb d_W_law_1454 hl (k := 6) rfl rfl (by decide) rfl (fun ls hl => ?_)
                  refine lv_goto (tgt := 23) hx hb d_W_law_1457 (by decide) ?_
                  exact ih _ _ _ _ _ _ _ hf _ _ _ _ _ hs (lv_sub hl [3, 4, 5, 6, 0] rfl)
                · have hf := ifn q156 hf
                  refine lv_iconst (v := 0) hx hb d_W_law_555 (by decide) ?_
                  exact r_zreturn C hs hr d_W_law_556 hf
            · have hf := ifn q153 hf
              refine lv_iconst (v := 0) hx hb d_W_law_538 (by decide) ?_
              exact r_zreturn C hs hr d_W_law_539 hf
      have hf := ifn q98 hf
      by_cases q157 : (v15 &&& 31) = 5
      · have hf := ifp q157 hf
        refine lv_tableIn (tgt := 560) (off := 520) hx hb d_W_law_40 (by rw [q157]; decide) (by rw [q157]; decide) (by rw [q157]; rfl) (by decide) ?_
        refine lv_aload_n hx hb d_W_law_560 rfl (lv_at hl 1 rfl) ?_
        obtain ⟨_, ho, hf⟩ := bd hf
        refine kl_I C hs hno hf (fun res e1 => iv_V (b := x1) (As := []) (rest := []) C hs cv_W_104 (c_B_step hl0 e1) (ci := 4) rfl rfl ho rfl hl.1 rfl (Nat.le_of_ble_eq_true rfl) d_W_law_561 ⟨Nat.le_of_ble_eq_true rfl, Nat.le_of_ble_eq_true rfl⟩) (fun v160 h158 z159 H locs cells slots hf hs => ?_)
        refine lv_aload_n hx hb d_W_law_564 rfl (lv_at hl 2 rfl) ?_
        obtain ⟨_, ho, hf⟩ := bd hf
        refine kl_I C hs hno hf (fun res e1 => iv_V (b := x2) (As := []) (rest := [.int v160]) C hs cv_W_107 (c_M_step hl0 e1) (ci := 6) rfl rfl ho rfl hl.1 rfl (Nat.le_of_ble_eq_true rfl) d_W_law_565 ⟨Nat.le_of_ble_eq_true rfl, Nat.le_of_ble_eq_true rfl⟩) (fun v163 h161 z162 H locs cells slots hf hs => ?_)
        refine lv_icmp_eq (tgt := 1454) hx hb d_W_law_568 (by decide) (fun q164 => ?_) (fun q164 => ?_)
        · have hf := ifp q164 hf
          refine lv_iinc (v := x4 + 6) (lv' := [(4, .int (x4 + 6)), (0, .ref x0), (1, .ref x1), (2, .ref x2), (3, .ref x3)]) hx hb d_W_law_1454 hl (k := 4) rfl rfl (by decide) rfl (fun ls hl => ?_)
          refine lv_goto (tgt := 23) hx hb d_W_law_1457 (by decide) ?_
          exact ih _ _ _ _ _ _ _ hf _ _ _ _ _ hs (lv_sub hl [1, 2, 3, 4, 0] rfl)
        · have hf := ifn q164 hf
          refine lv_iconst (v := 0) hx hb d_W_law_571 (by decide) ?_
          exact r_zreturn C hs hr d_W_law_572 hf
      have hf := ifn q157 hf
      by_cases q165 : (v15 &&& 31) = 6
      · have hf := ifp q165 hf
        refine lv_tableIn (tgt := 573) (off := 533) hx hb d_W_law_40 (by rw [q165]; decide) (by rw [q165]; decide) (by rw [q165]; rfl) (by decide) ?_
        refine lv_aload_n hx hb d_W_law_573 rfl (lv_at hl 1 rfl) ?_
        refine lv_aload_n hx hb d_W_law_574 rfl (lv_at hl 0 rfl) ?_
        refine lv_iload hx hb d_W_law_575 (lv_at hl 4 rfl) ?_
        refine lv_iconst (v := 1) hx hb d_W_law_577 (by decide) ?_
        refine lv_iadd hx hb d_W_law_578 ?_
        refine r_iald7 C hs d_W_law_579 hf (fun v166 hf => ?_)
        refine lv_aload_n hx hb d_W_law_580 rfl (lv_at hl 0 rfl) ?_
        refine lv_iload hx hb d_W_law_581 (lv_at hl 4 rfl) ?_
        refine lv_iconst (v := 2) hx hb d_W_law_583 (by decide) ?_
        refine lv_iadd hx hb d_W_law_584 ?_
        refine r_iald7 C hs d_W_law_585 hf (fun v167 hf => ?_)
        refine lv_aload_n hx hb d_W_law_586 rfl (lv_at hl 3 rfl) ?_
        refine kl_I C hs hno hf (fun res e1 => iv_SW (As := [.ref x1, .int v166, .int v167, .ref x3]) (rest := []) C hs csw_W_108 (c_W_plain hl0 e1) rfl hl.1 rfl (Nat.le_of_ble_eq_true rfl) d_W_law_587 ⟨Nat.le_of_ble_eq_true rfl, Nat.le_of_ble_eq_true rfl⟩) (fun v170 h168 z169 H locs cells slots hf hs => ?_)
        refine lv_istore (lv' := [(5, .int v170), (0, .ref x0), (1, .ref x1), (2, .ref x2), (3, .ref x3), (4, .int x4)]) hx hb d_W_law_590 hl (by decide) rfl (fun ls hl => ?_)
        refine lv_aload_n hx hb d_W_law_592 rfl (lv_at hl 3 rfl) ?_
        refine lv_aload_n hx hb d_W_law_593 rfl (lv_at hl 1 rfl) ?_
        refine lv_iload hx hb d_W_law_594 (lv_at hl 5 rfl) ?_
        refine lv_iconst (v := 1) hx hb d_W_law_596 (by decide) ?_
        refine lv_iadd hx hb d_W_law_597 ?_
        refine r_iald7 C hs d_W_law_598 hf (fun v171 hf => ?_)
        refine lv_aload_n hx hb d_W_law_599 rfl (lv_at hl 1 rfl) ?_
        refine lv_iload hx hb d_W_law_600 (lv_at hl 5 rfl) ?_
        refine lv_iconst (v := 2) hx hb d_W_law_602 (by decide) ?_
        refine lv_iadd hx hb d_W_law_603 ?_
        refine r_iald7 C hs d_W_law_604 hf (fun v172 hf => ?_)
        obtain ⟨_, ho, hf⟩ := bd hf
        refine kl_I C hs hno hf (fun res e1 => iv_V (b := x2) (As := [.int v171, .int v172]) (rest := []) C hs cv_W_110 (c_M_plain hl0 e1) (ci := 6) rfl rfl ho rfl hl.1 rfl (Nat.le_of_ble_eq_true rfl) d_W_law_605 ⟨Nat.le_of_ble_eq_true rfl, Nat.le_of_ble_eq_true rfl⟩) (fun v175 h173 z174 H locs cells slots hf hs => ?_)
        refine lv_istore (lv' := [(6, .int v175), (5, .int v170), (0, .ref x0), (1, .ref x1), (2, .ref x2), (3, .ref x3), (4, .int x4)]) hx hb d_W_law_608 hl (by decide) rfl (fun ls hl => ?_)
        refine lv_aload_n hx hb d_W_law_610 rfl (lv_at hl 4 rfl) ?_
        obtain ⟨_, ho, hf⟩ := bd hf
        refine kl_I C hs hno hf (fun res e1 => iv_V (b := x2) (As := []) (rest := []) C hs cv_W_85 (c_M_thrown hl0 e1) (ci := 6) rfl rfl ho rfl hl.1 rfl (Nat.le_of_ble_eq_true rfl) d_W_law_611 ⟨Nat.le_of_ble_eq_true rfl, Nat.le_of_ble_eq_true rfl⟩) (fun v178 h176 z177 H locs cells slots hf hs => ?_)
        refine lv_iload hx hb d_W_law_614 (lv_at hl 1 rfl) ?_
        refine lv_icmp_eq (tgt := 621) hx hb d_W_law_616 (by decide) (fun q179 => ?_) (fun q179 => ?_)
        · have hf := ifp q179 hf
          refine lv_iload hx hb d_W_law_621 (lv_at hl 1 rfl) ?_
          refine lv_if_ne (tgt := 638) hx hb d_W_law_623 (by decide) (fun q180 => ?_) (fun q180 => ?_)
          · have hf := ifn q180 hf
            refine lv_goto (tgt := 1454) hx hb d_W_law_638 (by decide) ?_
            refine lv_iinc (v := x4 + 6) (lv' := [(4, .int (x4 + 6)), (6, .int v175), (5, .int v170), (0, .ref x0), (1, .ref x1), (2, .ref x2), (3, .ref x3)]) hx hb d_W_law_1454 hl (k := 6) rfl rfl (by decide) rfl (fun ls hl => ?_)
            refine lv_goto (tgt := 23) hx hb d_W_law_1457 (by decide) ?_
            exact ih _ _ _ _ _ _ _ hf _ _ _ _ _ hs (lv_sub hl [3, 4, 5, 6, 0] rfl)
          · have hf := ifp q180 hf
            refine lv_aload_n hx hb d_W_law_626 rfl (lv_at hl 5 rfl) ?_
            refine lv_iconst (v := 0) hx hb d_W_law_627 (by decide) ?_
            refine r_lald C hs d_W_law_628 hf (fun v181 hf => ?_)
            refine lv_iload hx hb d_W_law_629 (lv_at hl 0 rfl) ?_
            refine lv_i2l (v := v175.toInt64) hx hb d_W_law_631 rfl ?_
            refine W.lcmp hx hb d_W_law_632 ?_
            refine lv_if_eq (tgt := 638) hx hb d_W_law_633 (by decide) (fun q182 => ?_) (fun q182 => ?_)
            · have hf := ifp q182 hf
              refine lv_goto (tgt := 1454) hx hb d_W_law_638 (by decide) ?_
              refine lv_iinc (v := x4 + 6) (lv' := [(4, .int (x4 + 6)), (6, .int v175), (5, .int v170), (0, .ref x0), (1, .ref x1), (2, .ref x2), (3, .ref x3)]) hx hb d_W_law_1454 hl (k := 6) rfl rfl (by decide) rfl (fun ls hl => ?_)
              refine lv_goto (tgt := 23) hx hb d_W_law_1457 (by decide) ?_
              exact ih _ _ _ _ _ _ _ hf _ _ _ _ _ hs (lv_sub hl [3, 4, 5, 6, 0] rfl)
            · have hf := ifn q182 hf
              refine lv_iconst (v := 0) hx hb d_W_law_636 (by decide) ?_
              exact r_zreturn C hs hr d_W_law_637 hf
        · have hf := ifn q179 hf
          refine lv_iconst (v := 0) hx hb d_W_law_619 (by decide) ?_
          exact r_zreturn C hs hr d_W_law_620 hf
      have hf := ifn q165 hf
      by_cases q183 : (v15 &&& 31) = 7
      · have hf := ifp q183 hf
        refine lv_tableIn (tgt := 641) (off := 601) hx hb d_W_law_40 (by rw [q183]; decide) (by rw [q183]; decide) (by rw [q183]; rfl) (by decide) ?_
        refine lv_aload_n hx hb d_W_law_641 rfl (lv_at hl 1 rfl) ?_
        refine lv_aload_n hx hb d_W_law_642 rfl (lv_at hl 0 rfl) ?_
        refine lv_iload hx hb d_W_law_643 (lv_at hl 4 rfl) ?_
        refine lv_iconst (v := 1) hx hb d_W_law_645 (by decide) ?_
        refine lv_iadd hx hb d_W_law_646 ?_
        refine r_iald7 C hs d_W_law_647 hf (fun v184 hf => ?_)
        refine lv_aload_n hx hb d_W_law_648 rfl (lv_at hl 0 rfl) ?_
        refine lv_iload hx hb d_W_law_649 (lv_at hl 4 rfl) ?_
        refine lv_iconst (v := 2) hx hb d_W_law_651 (by decide) ?_
        refine lv_iadd hx hb d_W_law_652 ?_
        refine r_iald7 C hs d_W_law_653 hf (fun v185 hf => ?_)
        refine lv_aload_n hx hb d_W_law_654 rfl (lv_at hl 3 rfl) ?_
        refine kl_I C hs hno hf (fun res e1 => iv_SW (As := [.ref x1, .int v184, .int v185, .ref x3]) (rest := []) C hs csw_W_111 (c_W_copy hl0 e1) rfl hl.1 rfl (Nat.le_of_ble_eq_true rfl) d_W_law_655 ⟨Nat.le_of_ble_eq_true rfl, Nat.le_of_ble_eq_true rfl⟩) (fun v188 h186 z187 H locs cells slots hf hs => ?_)
        refine lv_istore (lv' := [(5, .int v188), (0, .ref x0), (1, .ref x1), (2, .ref x2), (3, .ref x3), (4, .int x4)]) hx hb d_W_law_658 hl (by decide) rfl (fun ls hl => ?_)
        refine lv_aload_n hx hb d_W_law_660 rfl (lv_at hl 3 rfl) ?_
        refine lv_aload_n hx hb d_W_law_661 rfl (lv_at hl 1 rfl) ?_
        refine lv_iload hx hb d_W_law_662 (lv_at hl 5 rfl) ?_
        refine lv_iconst (v := 1) hx hb d_W_law_664 (by decide) ?_
        refine lv_iadd hx hb d_W_law_665 ?_
        refine r_iald7 C hs d_W_law_666 hf (fun v189 hf => ?_)
        refine lv_aload_n hx hb d_W_law_667 rfl (lv_at hl 1 rfl) ?_
        refine lv_iload hx hb d_W_law_668 (lv_at hl 5 rfl) ?_
        refine lv_iconst (v := 2) hx hb d_W_law_670 (by decide) ?_
        refine lv_iadd hx hb d_W_law_671 ?_
        refine r_iald7 C hs d_W_law_672 hf (fun v190 hf => ?_)
        obtain ⟨_, ho, hf⟩ := bd hf
        refine kl_I C hs hno hf (fun res e1 => iv_V (b := x2) (As := [.int v189, .int v190]) (rest := []) C hs cv_W_113 (c_M_copy hl0 e1) (ci := 6) rfl rfl ho rfl hl.1 rfl (Nat.le_of_ble_eq_true rfl) d_W_law_673 ⟨Nat.le_of_ble_eq_true rfl, Nat.le_of_ble_eq_true rfl⟩) (fun v193 h191 z192 H locs cells slots hf hs => ?_)
        refine lv_istore (lv' := [(6, .int v193), (5, .int v188), (0, .ref x0), (1, .ref x1), (2, .ref x2), (3, .ref x3), (4, .int x4)]) hx hb d_W_law_676 hl (by decide) rfl (fun ls hl => ?_)
        refine lv_aload_n hx hb d_W_law_678 rfl (lv_at hl 4 rfl) ?_
        obtain ⟨_, ho, hf⟩ := bd hf
        refine kl_I C hs hno hf (fun res e1 => iv_V (b := x2) (As := []) (rest := []) C hs cv_W_85 (c_M_thrown hl0 e1) (ci := 6) rfl rfl ho rfl hl.1 rfl (Nat.le_of_ble_eq_true rfl) d_W_law_679 ⟨Nat.le_of_ble_eq_true rfl, Nat.le_of_ble_eq_true rfl⟩) (fun v196 h194 z195 H locs cells slots hf hs => ?_)
        refine lv_iload hx hb d_W_law_682 (lv_at hl 1 rfl) ?_
        refine lv_icmp_eq (tgt := 689) hx hb d_W_law_684 (by decide) (fun q197 => ?_) (fun q197 => ?_)
        · have hf := ifp q197 hf
          refine lv_iload hx hb d_W_law_689 (lv_at hl 1 rfl) ?_
          refine lv_if_ne (tgt := 706) hx hb d_W_law_691 (by decide) (fun q198 => ?_) (fun q198 => ?_)
          · have hf := ifn q198 hf
            refine lv_goto (tgt := 1454) hx hb d_W_law_706 (by decide) ?_
            refine lv_iinc (v := x4 + 6) (lv' := [(4, .int (x4 + 6)), (6, .int v193), (5, .int v188), (0, .ref x0), (1, .ref x1), (2, .ref x2), (3, .ref x3)]) hx hb d_W_law_1454 hl (k := 6) rfl rfl (by decide) rfl (fun ls hl => ?_)
            refine lv_goto (tgt := 23) hx hb d_W_law_1457 (by decide) ?_
            exact ih _ _ _ _ _ _ _ hf _ _ _ _ _ hs (lv_sub hl [3, 4, 5, 6, 0] rfl)
          · have hf := ifp q198 hf
            refine lv_aload_n hx hb d_W_law_694 rfl (lv_at hl 5 rfl) ?_
            refine lv_iconst (v := 0) hx hb d_W_law_695 (by decide) ?_
            refine r_lald C hs d_W_law_696 hf (fun v199 hf => ?_)
            refine lv_iload hx hb d_W_law_697 (lv_at hl 0 rfl) ?_
            refine lv_i2l (v := v193.toInt64) hx hb d_W_law_699 rfl ?_
            refine W.lcmp hx hb d_W_law_700 ?_
            refine lv_if_eq (tgt := 706) hx hb d_W_law_701 (by decide) (fun q200 => ?_) (fun q200 => ?_)
            · have hf := ifp q200 hf
              refine lv_goto (tgt := 1454) hx hb d_W_law_706 (by decide) ?_
              refine lv_iinc (v := x4 + 6) (lv' := [(4, .int (x4 + 6)), (6, .int v193), (5, .int v188), (0, .ref x0), (1, .ref x1), (2, .ref x2), (3, .ref x3)]) hx hb d_W_law_1454 hl (k := 6) rfl rfl (by decide) rfl (fun ls hl => ?_)
              refine lv_goto (tgt := 23) hx hb d_W_law_1457 (by decide) ?_
              exact ih _ _ _ _ _ _ _ hf _ _ _ _ _ hs (lv_sub hl [3, 4, 5, 6, 0] rfl)
            · have hf := ifn q200 hf
              refine lv_iconst (v := 0) hx hb d_W_law_704 (by decide) ?_
              exact r_zreturn C hs hr d_W_law_705 hf
        · have hf := ifn q197 hf
          refine lv_iconst (v := 0) hx hb d_W_law_687 (by decide) ?_
          exact r_zreturn C hs hr d_W_law_688 hf
      have hf := ifn q183 hf
      by_cases q201 : (v15 &&& 31) = 8
      · have hf := ifp q201 hf
        refine lv_tableIn (tgt := 709) (off := 669) hx hb d_W_law_40 (by rw [q201]; decide) (by rw [q201]; decide) (by rw [q201]; rfl) (by decide) ?_
        refine lv_aload_n hx hb d_W_law_709 rfl (lv_at hl 1 rfl) ?_
        refine lv_aload_n hx hb d_W_law_710 rfl (lv_at hl 0 rfl) ?_
        refine lv_iload hx hb d_W_law_711 (lv_at hl 4 rfl) ?_
        refine lv_iconst (v := 1) hx hb d_W_law_713 (by decide) ?_
        refine lv_iadd hx hb d_W_law_714 ?_
        refine r_iald7 C hs d_W_law_715 hf (fun v202 hf => ?_)
        refine lv_aload_n hx hb d_W_law_716 rfl (lv_at hl 3 rfl) ?_
        refine kl_I C hs hno hf (fun res e1 => iv_SW (As := [.ref x1, .int v202, .ref x3]) (rest := []) C hs csw_W_114 (c_W_lose hl0 e1) rfl hl.1 rfl (Nat.le_of_ble_eq_true rfl) d_W_law_717 ⟨Nat.le_of_ble_eq_true rfl, Nat.le_of_ble_eq_true rfl⟩) (fun v205 h203 z204 H locs cells slots hf hs => ?_)
        refine lv_istore (lv' := [(5, .int v205), (0, .ref x0), (1, .ref x1), (2, .ref x2), (3, .ref x3), (4, .int x4)]) hx hb d_W_law_720 hl (by decide) rfl (fun ls hl => ?_)
        refine lv_aload_n hx hb d_W_law_722 rfl (lv_at hl 3 rfl) ?_
        refine lv_aload_n hx hb d_W_law_723 rfl (lv_at hl 1 rfl) ?_
        refine lv_iload hx hb d_W_law_724 (lv_at hl 5 rfl) ?_
        refine lv_iconst (v := 1) hx hb d_W_law_726 (by decide) ?_
        refine lv_iadd hx hb d_W_law_727 ?_
        refine r_iald7 C hs d_W_law_728 hf (fun v206 hf => ?_)
        obtain ⟨_, ho, hf⟩ := bd hf
        refine kl_I C hs hno hf (fun res e1 => iv_V (b := x2) (As := [.int v206]) (rest := []) C hs cv_W_116 (c_M_lose hl0 e1) (ci := 6) rfl rfl ho rfl hl.1 rfl (Nat.le_of_ble_eq_true rfl) d_W_law_729 ⟨Nat.le_of_ble_eq_true rfl, Nat.le_of_ble_eq_true rfl⟩) (fun v209 h207 z208 H locs cells slots hf hs => ?_)
        refine lv_istore (lv' := [(6, .int v209), (5, .int v205), (0, .ref x0), (1, .ref x1), (2, .ref x2), (3, .ref x3), (4, .int x4)]) hx hb d_W_law_732 hl (by decide) rfl (fun ls hl => ?_)
        refine lv_aload_n hx hb d_W_law_734 rfl (lv_at hl 4 rfl) ?_
        obtain ⟨_, ho, hf⟩ := bd hf
        refine kl_I C hs hno hf (fun res e1 => iv_V (b := x2) (As := []) (rest := []) C hs cv_W_85 (c_M_thrown hl0 e1) (ci := 6) rfl rfl ho rfl hl.1 rfl (Nat.le_of_ble_eq_true rfl) d_W_law_735 ⟨Nat.le_of_ble_eq_true rfl, Nat.le_of_ble_eq_true rfl⟩) (fun v212 h210 z211 H locs cells slots hf hs => ?_)
        refine lv_iload hx hb d_W_law_738 (lv_at hl 1 rfl) ?_
        refine lv_icmp_eq (tgt := 745) hx hb d_W_law_740 (by decide) (fun q213 => ?_) (fun q213 => ?_)
        · have hf := ifp q213 hf
          refine lv_iload hx hb d_W_law_745 (lv_at hl 1 rfl) ?_
          refine lv_if_ne (tgt := 762) hx hb d_W_law_747 (by decide) (fun q214 => ?_) (fun q214 => ?_)
          · have hf := ifn q214 hf
            refine lv_goto (tgt := 1454) hx hb d_W_law_762 (by decide) ?_
            refine lv_iinc (v := x4 + 6) (lv' := [(4, .int (x4 + 6)), (6, .int v209), (5, .int v205), (0, .ref x0), (1, .ref x1), (2, .ref x2), (3, .ref x3)]) hx hb d_W_law_1454 hl (k := 6) rfl rfl (by decide) rfl (fun ls hl => ?_)
            refine lv_goto (tgt := 23) hx hb d_W_law_1457 (by decide) ?_
            exact ih _ _ _ _ _ _ _ hf _ _ _ _ _ hs (lv_sub hl [3, 4, 5, 6, 0] rfl)
          · have hf := ifp q214 hf
            refine lv_aload_n hx hb d_W_law_750 rfl (lv_at hl 5 rfl) ?_
            refine lv_iconst (v := 0) hx hb d_W_law_751 (by decide) ?_
            refine r_lald C hs d_W_law_752 hf (fun v215 hf => ?_)
            refine lv_iload hx hb d_W_law_753 (lv_at hl 0 rfl) ?_
            refine lv_i2l (v := v209.toInt64) hx hb d_W_law_755 rfl ?_
            refine W.lcmp hx hb d_W_law_756 ?_
            refine lv_if_eq (tgt := 762) hx hb d_W_law_757 (by decide) (fun q216 => ?_) (fun q216 => ?_)
            · have hf := ifp q216 hf
              refine lv_goto (tgt := 1454) hx hb d_W_law_762 (by decide) ?_
              refine lv_iinc (v := x4 + 6) (lv' := [(4, .int (x4 + 6)), (6, .int v209), (5, .int v205), (0, .ref x0), (1, .ref x1), (2, .ref x2), (3, .ref x3)]) hx hb d_W_law_1454 hl (k := 6) rfl rfl (by decide) rfl (fun ls hl => ?_)
              refine lv_goto (tgt := 23) hx hb d_W_law_1457 (by decide) ?_
              exact ih _ _ _ _ _ _ _ hf _ _ _ _ _ hs (lv_sub hl [3, 4, 5, 6, 0] rfl)
            · have hf := ifn q216 hf
              refine lv_iconst (v := 0) hx hb d_W_law_760 (by decide) ?_
              exact r_zreturn C hs hr d_W_law_761 hf
        · have hf := ifn q213 hf
          refine lv_iconst (v := 0) hx hb d_W_law_743 (by decide) ?_
          exact r_zreturn C hs hr d_W_law_744 hf
      have hf := ifn q201 hf
      by_cases q217 : (v15 &&& 31) = 9
      · have hf := ifp q217 hf
        refine lv_tableIn (tgt := 765) (off := 725) hx hb d_W_law_40 (by rw [q217]; decide) (by rw [q217]; decide) (by rw [q217]; rfl) (by decide) ?_
        refine lv_aload_n hx hb d_W_law_765 rfl (lv_at hl 1 rfl) ?_
        refine lv_aload_n hx hb d_W_law_766 rfl (lv_at hl 0 rfl) ?_
        refine lv_iload hx hb d_W_law_767 (lv_at hl 4 rfl) ?_
        refine lv_iconst (v := 1) hx hb d_W_law_769 (by decide) ?_
        refine lv_iadd hx hb d_W_law_770 ?_
        refine r_iald7 C hs d_W_law_771 hf (fun v218 hf => ?_)
        refine lv_aload_n hx hb d_W_law_772 rfl (lv_at hl 0 rfl) ?_
        refine lv_iload hx hb d_W_law_773 (lv_at hl 4 rfl) ?_
        refine lv_iconst (v := 2) hx hb d_W_law_775 (by decide) ?_
        refine lv_iadd hx hb d_W_law_776 ?_
        refine r_iald7 C hs d_W_law_777 hf (fun v219 hf => ?_)
        refine lv_aload_n hx hb d_W_law_778 rfl (lv_at hl 0 rfl) ?_
        refine lv_iload hx hb d_W_law_779 (lv_at hl 4 rfl) ?_
        refine lv_iconst (v := 3) hx hb d_W_law_781 (by decide) ?_
        refine lv_iadd hx hb d_W_law_782 ?_
        refine r_iald7 C hs d_W_law_783 hf (fun v220 hf => ?_)
        refine lv_if_eq (tgt := 791) hx hb d_W_law_784 (by decide) (fun q221 => ?_) (fun q221 => ?_)
        · have hf := ifp q221 hf
          refine lv_iconst (v := 0) hx hb d_W_law_791 (by decide) ?_
          refine lv_aload_n hx hb d_W_law_792 rfl (lv_at hl 3 rfl) ?_
          refine kl_I C hs hno hf (fun res e1 => iv_SW (As := [.ref x1, .int v218, .int v219, .int 0, .ref x3]) (rest := []) C hs csw_W_117 (c_W_fetch hl0 e1) rfl hl.1 rfl (Nat.le_of_ble_eq_true rfl) d_W_law_793 ⟨Nat.le_of_ble_eq_true rfl, Nat.le_of_ble_eq_true rfl⟩) (fun v224 h222 z223 H locs cells slots hf hs => ?_)
          refine lv_istore (lv' := [(5, .int v224), (0, .ref x0), (1, .ref x1), (2, .ref x2), (3, .ref x3), (4, .int x4)]) hx hb d_W_law_796 hl (by decide) rfl (fun ls hl => ?_)
          refine lv_aload_n hx hb d_W_law_798 rfl (lv_at hl 3 rfl) ?_
          refine lv_aload_n hx hb d_W_law_799 rfl (lv_at hl 1 rfl) ?_
          refine lv_iload hx hb d_W_law_800 (lv_at hl 5 rfl) ?_
          refine lv_iconst (v := 1) hx hb d_W_law_802 (by decide) ?_
          refine lv_iadd hx hb d_W_law_803 ?_
          refine r_iald7 C hs d_W_law_804 hf (fun v225 hf => ?_)
          refine lv_aload_n hx hb d_W_law_805 rfl (lv_at hl 1 rfl) ?_
          refine lv_iload hx hb d_W_law_806 (lv_at hl 5 rfl) ?_
          refine lv_iconst (v := 2) hx hb d_W_law_808 (by decide) ?_
          refine lv_iadd hx hb d_W_law_809 ?_
          refine r_iald7 C hs d_W_law_810 hf (fun v226 hf => ?_)
          refine lv_aload_n hx hb d_W_law_811 rfl (lv_at hl 1 rfl) ?_
          refine lv_iload hx hb d_W_law_812 (lv_at hl 5 rfl) ?_
          refine lv_iconst (v := 3) hx hb d_W_law_814 (by decide) ?_
          refine lv_iadd hx hb d_W_law_815 ?_
          refine r_iald7 C hs d_W_law_816 hf (fun v227 hf => ?_)
          refine lv_if_eq (tgt := 824) hx hb d_W_law_817 (by decide) (fun q228 => ?_) (fun q228 => ?_)
          · have hf := ifp q228 hf
            refine lv_iconst (v := 0) hx hb d_W_law_824 (by decide) ?_
            obtain ⟨_, ho, hf⟩ := bd hf
            refine kl_I C hs hno hf (fun res e1 => iv_V (b := x2) (As := [.int v225, .int v226, .int 0]) (rest := []) C hs cv_W_119 (c_M_fetch hl0 e1) (ci := 6) rfl rfl ho rfl hl.1 rfl (Nat.le_of_ble_eq_true rfl) d_W_law_825 ⟨Nat.le_of_ble_eq_true rfl, Nat.le_of_ble_eq_true rfl⟩) (fun v231 h229 z230 H locs cells slots hf hs => ?_)
            refine lv_istore (lv' := [(6, .int v231), (5, .int v224), (0, .ref x0), (1, .ref x1), (2, .ref x2), (3, .ref x3), (4, .int x4)]) hx hb d_W_law_828 hl (by decide) rfl (fun ls hl => ?_)
            refine lv_aload_n hx hb d_W_law_830 rfl (lv_at hl 4 rfl) ?_
            obtain ⟨_, ho, hf⟩ := bd hf
            refine kl_I C hs hno hf (fun res e1 => iv_V (b := x2) (As := []) (rest := []) C hs cv_W_85 (c_M_thrown hl0 e1) (ci := 6) rfl rfl ho rfl hl.1 rfl (Nat.le_of_ble_eq_true rfl) d_W_law_831 ⟨Nat.le_of_ble_eq_true rfl, Nat.le_of_ble_eq_true rfl⟩) (fun v234 h232 z233 H locs cells slots hf hs => ?_)
            refine lv_iload hx hb d_W_law_834 (lv_at hl 1 rfl) ?_
            refine lv_icmp_eq (tgt := 841) hx hb d_W_law_836 (by decide) (fun q235 => ?_) (fun q235 => ?_)
            · have hf := ifp q235 hf
              refine lv_iload hx hb d_W_law_841 (lv_at hl 1 rfl) ?_
              refine lv_if_ne (tgt := 858) hx hb d_W_law_843 (by decide) (fun q236 => ?_) (fun q236 => ?_)
              · have hf := ifn q236 hf
                refine lv_goto (tgt := 1454) hx hb d_W_law_858 (by decide) ?_
                refine lv_iinc (v := x4 + 6) (lv' := [(4, .int (x4 + 6)), (6, .int v231), (5, .int v224), (0, .ref x0), (1, .ref x1), (2, .ref x2), (3, .ref x3)]) hx hb d_W_law_1454 hl (k := 6) rfl rfl (by decide) rfl (fun ls hl => ?_)
                refine lv_goto (tgt := 23) hx hb d_W_law_1457 (by decide) ?_
                exact ih _ _ _ _ _ _ _ hf _ _ _ _ _ hs (lv_sub hl [3, 4, 5, 6, 0] rfl)
              · have hf := ifp q236 hf
                refine lv_aload_n hx hb d_W_law_846 rfl (lv_at hl 5 rfl) ?_
                refine lv_iconst (v := 0) hx hb d_W_law_847 (by decide) ?_
                refine r_lald C hs d_W_law_848 hf (fun v237 hf => ?_)
                refine lv_iload hx hb d_W_law_849 (lv_at hl 0 rfl) ?_
                refine lv_i2l (v := v231.toInt64) hx hb d_W_law_851 rfl ?_
                refine W.lcmp hx hb d_W_law_852 ?_
                refine lv_if_eq (tgt := 858) hx hb d_W_law_853 (by decide) (fun q238 => ?_) (fun q238 => ?_)
                · have hf := ifp q238 hf
                  refine lv_goto (tgt := 1454) hx hb d_W_law_858 (by decide) ?_
                  refine lv_iinc (v := x4 + 6) (lv' := [(4, .int (x4 + 6)), (6, .int v231), (5, .int v224), (0, .ref x0), (1, .ref x1), (2, .ref x2), (3, .ref x3)]) hx hb d_W_law_1454 hl (k := 6) rfl rfl (by decide) rfl (fun ls hl => ?_)
                  refine lv_goto (tgt := 23) hx hb d_W_law_1457 (by decide) ?_
                  exact ih _ _ _ _ _ _ _ hf _ _ _ _ _ hs (lv_sub hl [3, 4, 5, 6, 0] rfl)
                · have hf := ifn q238 hf
                  refine lv_iconst (v := 0) hx hb d_W_law_856 (by decide) ?_
                  exact r_zreturn C hs hr d_W_law_857 hf
            · have hf := ifn q235 hf
              refine lv_iconst (v := 0) hx hb d_W_law_839 (by decide) ?_
              exact r_zreturn C hs hr d_W_law_840 hf
          · have hf := ifn q228 hf
            refine lv_iconst (v := 1) hx hb d_W_law_820 (by decide) ?_
            refine lv_goto (tgt := 825) hx hb d_W_law_821 (by decide) ?_
            obtain ⟨_, ho, hf⟩ := bd hf
            refine kl_I C hs hno hf (fun res e1 => iv_V (b := x2) (As := [.int v225, .int v226, .int 1]) (rest := []) C hs cv_W_119 (c_M_fetch hl0 e1) (ci := 6) rfl rfl ho rfl hl.1 rfl (Nat.le_of_ble_eq_true rfl) d_W_law_825 ⟨Nat.le_of_ble_eq_true rfl, Nat.le_of_ble_eq_true rfl⟩) (fun v241 h239 z240 H locs cells slots hf hs => ?_)
            refine lv_istore (lv' := [(6, .int v241), (5, .int v224), (0, .ref x0), (1, .ref x1), (2, .ref x2), (3, .ref x3), (4, .int x4)]) hx hb d_W_law_828 hl (by decide) rfl (fun ls hl => ?_)
            refine lv_aload_n hx hb d_W_law_830 rfl (lv_at hl 4 rfl) ?_
            obtain ⟨_, ho, hf⟩ := bd hf
            refine kl_I C hs hno hf (fun res e1 => iv_V (b := x2) (As := []) (rest := []) C hs cv_W_85 (c_M_thrown hl0 e1) (ci := 6) rfl rfl ho rfl hl.1 rfl (Nat.le_of_ble_eq_true rfl) d_W_law_831 ⟨Nat.le_of_ble_eq_true rfl, Nat.le_of_ble_eq_true rfl⟩) (fun v244 h242 z243 H locs cells slots hf hs => ?_)
            refine lv_iload hx hb d_W_law_834 (lv_at hl 1 rfl) ?_
            refine lv_icmp_eq (tgt := 841) hx hb d_W_law_836 (by decide) (fun q245 => ?_) (fun q245 => ?_)
            · have hf := ifp q245 hf
              refine lv_iload hx hb d_W_law_841 (lv_at hl 1 rfl) ?_
              refine lv_if_ne (tgt := 858) hx hb d_W_law_843 (by decide) (fun q246 => ?_) (fun q246 => ?_)
              · have hf := ifn q246 hf
                refine lv_goto (tgt := 1454) hx hb d_W_law_858 (by decide) ?_
                refine lv_iinc (v := x4 + 6) (lv' := [(4, .int (x4 + 6)), (6, .int v241), (5, .int v224), (0, .ref x0), (1, .ref x1), (2, .ref x2), (3, .ref x3)]) hx hb d_W_law_1454 hl (k := 6) rfl rfl (by decide) rfl (fun ls hl => ?_)
                refine lv_goto (tgt := 23) hx hb d_W_law_1457 (by decide) ?_
                exact ih _ _ _ _ _ _ _ hf _ _ _ _ _ hs (lv_sub hl [3, 4, 5, 6, 0] rfl)
              · have hf := ifp q246 hf
                refine lv_aload_n hx hb d_W_law_846 rfl (lv_at hl 5 rfl) ?_
                refine lv_iconst (v := 0) hx hb d_W_law_847 (by decide) ?_
                refine r_lald C hs d_W_law_848 hf (fun v247 hf => ?_)
                refine lv_iload hx hb d_W_law_849 (lv_at hl 0 rfl) ?_
                refine lv_i2l (v := v241.toInt64) hx hb d_W_law_851 rfl ?_
                refine W.lcmp hx hb d_W_law_852 ?_
                refine lv_if_eq (tgt := 858) hx hb d_W_law_853 (by decide) (fun q248 => ?_) (fun q248 => ?_)
                · have hf := ifp q248 hf
                  refine lv_goto (tgt := 1454) hx hb d_W_law_858 (by decide) ?_
                  refine lv_iinc (v := x4 + 6) (lv' := [(4, .int (x4 + 6)), (6, .int v241), (5, .int v224), (0, .ref x0), (1, .ref x1), (2, .ref x2), (3, .ref x3)]) hx hb d_W_law_1454 hl (k := 6) rfl rfl (by decide) rfl (fun ls hl => ?_)
                  refine lv_goto (tgt := 23) hx hb d_W_law_1457 (by decide) ?_
                  exact ih _ _ _ _ _ _ _ hf _ _ _ _ _ hs (lv_sub hl [3, 4, 5, 6, 0] rfl)
                · have hf := ifn q248 hf
                  refine lv_iconst (v := 0) hx hb d_W_law_856 (by decide) ?_
                  exact r_zreturn C hs hr d_W_law_857 hf
            · have hf := ifn q245 hf
              refine lv_iconst (v := 0) hx hb d_W_law_839 (by decide) ?_
              exact r_zreturn C hs hr d_W_law_840 hf
        · have hf := ifn q221 hf
          refine lv_iconst (v := 1) hx hb d_W_law_787 (by decide) ?_
          refine lv_goto (tgt := 792) hx hb d_W_law_788 (by decide) ?_
          refine lv_aload_n hx hb d_W_law_792 rfl (lv_at hl 3 rfl) ?_
          refine kl_I C hs hno hf (fun res e1 => iv_SW (As := [.ref x1, .int v218, .int v219, .int 1, .ref x3]) (rest := []) C hs csw_W_117 (c_W_fetch hl0 e1) rfl hl.1 rfl (Nat.le_of_ble_eq_true rfl) d_W_law_793 ⟨Nat.le_of_ble_eq_true rfl, Nat.le_of_ble_eq_true rfl⟩) (fun v251 h249 z250 H locs cells slots hf hs => ?_)
          refine lv_istore (lv' := [(5, .int v251), (0, .ref x0), (1, .ref x1), (2, .ref x2), (3, .ref x3), (4, .int x4)]) hx hb d_W_law_796 hl (by decide) rfl (fun ls hl => ?_)
          refine lv_aload_n hx hb d_W_law_798 rfl (lv_at hl 3 rfl) ?_
          refine lv_aload_n hx hb d_W_law_799 rfl (lv_at hl 1 rfl) ?_
          refine lv_iload hx hb d_W_law_800 (lv_at hl 5 rfl) ?_
          refine lv_iconst (v := 1) hx hb d_W_law_802 (by decide) ?_
          refine lv_iadd hx hb d_W_law_803 ?_
          refine r_iald7 C hs d_W_law_804 hf (fun v252 hf => ?_)
          refine lv_aload_n hx hb d_W_law_805 rfl (lv_at hl 1 rfl) ?_
          refine lv_iload hx hb d_W_law_806 (lv_at hl 5 rfl) ?_
          refine lv_iconst (v := 2) hx hb d_W_law_808 (by decide) ?_
          refine lv_iadd hx hb d_W_law_809 ?_
          refine r_iald7 C hs d_W_law_810 hf (fun v253 hf => ?_)
          refine lv_aload_n hx hb d_W_law_811 rfl (lv_at hl 1 rfl) ?_
          refine lv_iload hx hb d_W_law_812 (lv_at hl 5 rfl) ?_
          refine lv_iconst (v := 3) hx hb d_W_law_814 (by decide) ?_
          refine lv_iadd hx hb d_W_law_815 ?_
          refine r_iald7 C hs d_W_law_816 hf (fun v254 hf => ?_)
          refine lv_if_eq (tgt := 824) hx hb d_W_law_817 (by decide) (fun q255 => ?_) (fun q255 => ?_)
          · have hf := ifp q255 hf
            refine lv_iconst (v := 0) hx hb d_W_law_824 (by decide) ?_
            obtain ⟨_, ho, hf⟩ := bd hf
            refine kl_I C hs hno hf (fun res e1 => iv_V (b := x2) (As := [.int v252, .int v253, .int 0]) (rest := []) C hs cv_W_119 (c_M_fetch hl0 e1) (ci := 6) rfl rfl ho rfl hl.1 rfl (Nat.le_of_ble_eq_true rfl) d_W_law_825 ⟨Nat.le_of_ble_eq_true rfl, Nat.le_of_ble_eq_true rfl⟩) (fun v258 h256 z257 H locs cells slots hf hs => ?_)
            refine lv_istore (lv' := [(6, .int v258), (5, .int v251), (0, .ref x0), (1, .ref x1), (2, .ref x2), (3, .ref x3), (4, .int x4)]) hx hb d_W_law_828 hl (by decide) rfl (fun ls hl => ?_)
            refine lv_aload_n hx hb d_W_law_830 rfl (lv_at hl 4 rfl) ?_
            obtain ⟨_, ho, hf⟩ := bd hf
            refine kl_I C hs hno hf (fun res e1 => iv_V (b := x2) (As := []) (rest := []) C hs cv_W_85 (c_M_thrown hl0 e1) (ci := 6) rfl rfl ho rfl hl.1 rfl (Nat.le_of_ble_eq_true rfl) d_W_law_831 ⟨Nat.le_of_ble_eq_true rfl, Nat.le_of_ble_eq_true rfl⟩) (fun v261 h259 z260 H locs cells slots hf hs => ?_)
            refine lv_iload hx hb d_W_law_834 (lv_at hl 1 rfl) ?_
            refine lv_icmp_eq (tgt := 841) hx hb d_W_law_836 (by decide) (fun q262 => ?_) (fun q262 => ?_)
            · have hf := ifp q262 hf
              refine lv_iload hx hb d_W_law_841 (lv_at hl 1 rfl) ?_
              refine lv_if_ne (tgt := 858) hx hb d_W_law_843 (by decide) (fun q263 => ?_) (fun q263 => ?_)
              · have hf := ifn q263 hf
                refine lv_goto (tgt := 1454) hx hb d_W_law_858 (by decide) ?_
                refine lv_iinc (v := x4 + 6) (lv' := [(4, .int (x4 + 6)), (6, .int v258), (5, .int v251), (0, .ref x0), (1, .ref x1), (2, .ref x2), (3, .ref x3)]) hx hb d_W_law_1454 hl (k := 6) rfl rfl (by decide) rfl (fun ls hl => ?_)
                refine lv_goto (tgt := 23) hx hb d_W_law_1457 (by decide) ?_
                exact ih _ _ _ _ _ _ _ hf _ _ _ _ _ hs (lv_sub hl [3, 4, 5, 6, 0] rfl)
              · have hf := ifp q263 hf
                refine lv_aload_n hx hb d_W_law_846 rfl (lv_at hl 5 rfl) ?_
                refine lv_iconst (v := 0) hx hb d_W_law_847 (by decide) ?_
                refine r_lald C hs d_W_law_848 hf (fun v264 hf => ?_)
                refine lv_iload hx hb d_W_law_849 (lv_at hl 0 rfl) ?_
                refine lv_i2l (v := v258.toInt64) hx hb d_W_law_851 rfl ?_
                refine W.lcmp hx hb d_W_law_852 ?_
                refine lv_if_eq (tgt := 858) hx hb d_W_law_853 (by decide) (fun q265 => ?_) (fun q265 => ?_)
                · have hf := ifp q265 hf
                  refine lv_goto (tgt := 1454) hx hb d_W_law_858 (by decide) ?_
                  refine lv_iinc (v := x4 + 6) (lv' := [(4, .int (x4 + 6)), (6, .int v258), (5, .int v251), (0, .ref x0), (1, .ref x1), (2, .ref x2), (3, .ref x3)]) hx hb d_W_law_1454 hl (k := 6) rfl rfl (by decide) rfl (fun ls hl => ?_)
                  refine lv_goto (tgt := 23) hx hb d_W_law_1457 (by decide) ?_
                  exact ih _ _ _ _ _ _ _ hf _ _ _ _ _ hs (lv_sub hl [3, 4, 5, 6, 0] rfl)
                · have hf := ifn q265 hf
                  refine lv_iconst (v := 0) hx hb d_W_law_856 (by decide) ?_
                  exact r_zreturn C hs hr d_W_law_857 hf
            · have hf := ifn q262 hf
              refine lv_iconst (v := 0) hx hb d_W_law_839 (by decide) ?_
              exact r_zreturn C hs hr d_W_law_840 hf
          · have hf := ifn q255 hf
            refine lv_iconst (v := 1) hx hb d_W_law_820 (by decide) ?_
            refine lv_goto (tgt := 825) hx hb d_W_law_821 (by decide) ?_
            obtain ⟨_, ho, hf⟩ := bd hf
            refine kl_I C hs hno hf (fun res e1 => iv_V (b := x2) (As := [.int v252, .int v253, .int 1]) (rest := []) C hs cv_W_119 (c_M_fetch hl0 e1) (ci := 6) rfl rfl ho rfl hl.1 rfl (Nat.le_of_ble_eq_true rfl) d_W_law_825 ⟨Nat.le_of_ble_eq_true rfl, Nat.le_of_ble_eq_true rfl⟩) (fun v268 h266 z267 H locs cells slots hf hs => ?_)
            refine lv_istore (lv' := [(6, .int v268), (5, .int v251), (0, .ref x0), (1, .ref x1), (2, .ref x2), (3, .ref x3), (4, .int x4)]) hx hb d_W_law_828 hl (by decide) rfl (fun ls hl => ?_)
            refine lv_aload_n hx hb d_W_law_830 rfl (lv_at hl 4 rfl) ?_
            obtain ⟨_, ho, hf⟩ := bd hf
            refine kl_I C hs hno hf (fun res e1 => iv_V (b := x2) (As := []) (rest := []) C hs cv_W_85 (c_M_thrown hl0 e1) (ci := 6) rfl rfl ho rfl hl.1 rfl (Nat.le_of_ble_eq_true rfl) d_W_law_831 ⟨Nat.le_of_ble_eq_true rfl, Nat.le_of_ble_eq_true rfl⟩) (fun v271 h269 z270 H locs cells slots hf hs => ?_)
            refine lv_iload hx hb d_W_law_834 (lv_at hl 1 rfl) ?_
            refine lv_icmp_eq (tgt := 841) hx hb d_W_law_836 (by decide) (fun q272 => ?_) (fun q272 => ?_)
            · have hf := ifp q272 hf
              refine lv_iload hx hb d_W_law_841 (lv_at hl 1 rfl) ?_
              refine lv_if_ne (tgt := 858) hx hb d_W_law_843 (by decide) (fun q273 => ?_) (fun q273 => ?_)
              · have hf := ifn q273 hf
                refine lv_goto (tgt := 1454) hx hb d_W_law_858 (by decide) ?_
                refine lv_iinc (v := x4 + 6) (lv' := [(4, .int (x4 + 6)), (6, .int v268), (5, .int v251), (0, .ref x0), (1, .ref x1), (2, .ref x2), (3, .ref x3)]) hx hb d_W_law_1454 hl (k := 6) rfl rfl (by decide) rfl (fun ls hl => ?_)
                refine lv_goto (tgt := 23) hx hb d_W_law_1457 (by decide) ?_
                exact ih _ _ _ _ _ _ _ hf _ _ _ _ _ hs (lv_sub hl [3, 4, 5, 6, 0] rfl)
              · have hf := ifp q273 hf
                refine lv_aload_n hx hb d_W_law_846 rfl (lv_at hl 5 rfl) ?_
                refine lv_iconst (v := 0) hx hb d_W_law_847 (by decide) ?_
                refine r_lald C hs d_W_law_848 hf (fun v274 hf => ?_)
                refine lv_iload hx hb d_W_law_849 (lv_at hl 0 rfl) ?_
                refine lv_i2l (v := v268.toInt64) hx hb d_W_law_851 rfl ?_
                refine W.lcmp hx hb d_W_law_852 ?_
                refine lv_if_eq (tgt := 858) hx hb d_W_law_853 (by decide) (fun q275 => ?_) (fun q275 => ?_)
                · have hf := ifp q275 hf
                  refine lv_goto (tgt := 1454) hx hb d_W_law_858 (by decide) ?_
                  refine lv_iinc (v := x4 + 6) (lv' := [(4, .int (x4 + 6)), (6, .int v268), (5, .int v251), (0, .ref x0), (1, .ref x1), (2, .ref x2), (3, .ref x3)]) hx hb d_W_law_1454 hl (k := 6) rfl rfl (by decide) rfl (fun ls hl => ?_)
                  refine lv_goto (tgt := 23) hx hb d_W_law_1457 (by decide) ?_
                  exact ih _ _ _ _ _ _ _ hf _ _ _ _ _ hs (lv_sub hl [3, 4, 5, 6, 0] rfl)
                · have hf := ifn q275 hf
                  refine lv_iconst (v := 0) hx hb d_W_law_856 (by decide) ?_
                  exact r_zreturn C hs hr d_W_law_857 hf
            · have hf := ifn q272 hf
              refine lv_iconst (v := 0) hx hb d_W_law_839 (by decide) ?_
              exact r_zreturn C hs hr d_W_law_840 hf
      have hf := ifn q217 hf
      by_cases q276 : (v15 &&& 31) = 10
      · have hf := ifp q276 hf
        refine lv_tableIn (tgt := 861) (off := 821) hx hb d_W_law_40 (by rw [q276]; decide) (by rw [q276]; decide) (by rw [q276]; rfl) (by decide) ?_
        refine lv_aload_n hx hb d_W_law_861 rfl (lv_at hl 1 rfl) ?_
        obtain ⟨_, ho, hf⟩ := bd hf
        refine kl_I C hs hno hf (fun res e1 => iv_V (b := x1) (As := []) (rest := []) C hs cv_W_120 (c_B_last hl0 e1) (ci := 4) rfl rfl ho rfl hl.1 rfl (Nat.le_of_ble_eq_true rfl) d_W_law_862 ⟨Nat.le_of_ble_eq_true rfl, Nat.le_of_ble_eq_true rfl⟩) (fun v279 h277 z278 H locs cells slots hf hs => ?_)
        refine lv_aload_n hx hb d_W_law_865 rfl (lv_at hl 2 rfl) ?_
        obtain ⟨_, ho, hf⟩ := bd hf
        refine kl_I C hs hno hf (fun res e1 => iv_V (b := x2) (As := []) (rest := [.int v279]) C hs cv_W_123 (c_M_last hl0 e1) (ci := 6) rfl rfl ho rfl hl.1 rfl (Nat.le_of_ble_eq_true rfl) d_W_law_866 ⟨Nat.le_of_ble_eq_true rfl, Nat.le_of_ble_eq_true rfl⟩) (fun v282 h280 z281 H locs cells slots hf hs => ?_)
        refine lv_icmp_eq (tgt := 1454) hx hb d_W_law_869 (by decide) (fun q283 => ?_) (fun q283 => ?_)
        · have hf := ifp q283 hf
          refine lv_iinc (v := x4 + 6) (lv' := [(4, .int (x4 + 6)), (0, .ref x0), (1, .ref x1), (2, .ref x2), (3, .ref x3)]) hx hb d_W_law_1454 hl (k := 4) rfl rfl (by decide) rfl (fun ls hl => ?_)
          refine lv_goto (tgt := 23) hx hb d_W_law_1457 (by decide) ?_
          exact ih _ _ _ _ _ _ _ hf _ _ _ _ _ hs (lv_sub hl [1, 2, 3, 4, 0] rfl)
        · have hf := ifn q283 hf
          refine lv_iconst (v := 0) hx hb d_W_law_872 (by decide) ?_
          exact r_zreturn C hs hr d_W_law_873 hf
      have hf := ifn q276 hf
      by_cases q284 : (v15 &&& 31) = 11
      · have hf := ifp q284 hf
        refine lv_tableIn (tgt := 874) (off := 834) hx hb d_W_law_40 (by rw [q284]; decide) (by rw [q284]; decide) (by rw [q284]; rfl) (by decide) ?_
        refine lv_aload_n hx hb d_W_law_874 rfl (lv_at hl 1 rfl) ?_
        refine lv_aload_n hx hb d_W_law_875 rfl (lv_at hl 0 rfl) ?_
        refine lv_iload hx hb d_W_law_876 (lv_at hl 4 rfl) ?_
        refine lv_iconst (v := 1) hx hb d_W_law_878 (by decide) ?_
        refine lv_iadd hx hb d_W_law_879 ?_
        refine r_iald7 C hs d_W_law_880 hf (fun v285 hf => ?_)
        refine lv_aload_n hx hb d_W_law_881 rfl (lv_at hl 0 rfl) ?_
        refine lv_iload hx hb d_W_law_882 (lv_at hl 4 rfl) ?_
        refine lv_iconst (v := 2) hx hb d_W_law_884 (by decide) ?_
        refine lv_iadd hx hb d_W_law_885 ?_
        refine r_iald7 C hs d_W_law_886 hf (fun v286 hf => ?_)
        refine lv_aload_n hx hb d_W_law_887 rfl (lv_at hl 3 rfl) ?_
        refine kl_I C hs hno hf (fun res e1 => iv_SW (As := [.ref x1, .int v285, .int v286, .ref x3]) (rest := []) C hs csw_W_124 (c_W_trim hl0 e1) rfl hl.1 rfl (Nat.le_of_ble_eq_true rfl) d_W_law_888 ⟨Nat.le_of_ble_eq_true rfl, Nat.le_of_ble_eq_true rfl⟩) (fun v289 h287 z288 H locs cells slots hf hs => ?_)
        refine lv_istore (lv' := [(5, .int v289), (0, .ref x0), (1, .ref x1), (2, .ref x2), (3, .ref x3), (4, .int x4)]) hx hb d_W_law_891 hl (by decide) rfl (fun ls hl => ?_)
        refine lv_aload_n hx hb d_W_law_893 rfl (lv_at hl 3 rfl) ?_
        refine lv_aload_n hx hb d_W_law_894 rfl (lv_at hl 1 rfl) ?_
        refine lv_iload hx hb d_W_law_895 (lv_at hl 5 rfl) ?_
        refine lv_iconst (v := 1) hx hb d_W_law_897 (by decide) ?_
        refine lv_iadd hx hb d_W_law_898 ?_
        refine r_iald7 C hs d_W_law_899 hf (fun v290 hf => ?_)
        refine lv_aload_n hx hb d_W_law_900 rfl (lv_at hl 1 rfl) ?_
        refine lv_iload hx hb d_W_law_901 (lv_at hl 5 rfl) ?_
        refine lv_iconst (v := 2) hx hb d_W_law_903 (by decide) ?_
        refine lv_iadd hx hb d_W_law_904 ?_
        refine r_iald7 C hs d_W_law_905 hf (fun v291 hf => ?_)
        obtain ⟨_, ho, hf⟩ := bd hf
        refine kl_I C hs hno hf (fun res e1 => iv_V (b := x2) (As := [.int v290, .int v291]) (rest := []) C hs cv_W_126 (c_M_trim hl0 e1) (ci := 6) rfl rfl ho rfl hl.1 rfl (Nat.le_of_ble_eq_true rfl) d_W_law_906 ⟨Nat.le_of_ble_eq_true rfl, Nat.le_of_ble_eq_true rfl⟩) (fun v294 h292 z293 H locs cells slots hf hs => ?_)
        refine lv_istore (lv' := [(6, .int v294), (5, .int v289), (0, .ref x0), (1, .ref x1), (2, .ref x2), (3, .ref x3), (4, .int x4)]) hx hb d_W_law_909 hl (by decide) rfl (fun ls hl => ?_)
        refine lv_aload_n hx hb d_W_law_911 rfl (lv_at hl 4 rfl) ?_
        obtain ⟨_, ho, hf⟩ := bd hf
        refine kl_I C hs hno hf (fun res e1 => iv_V (b := x2) (As := []) (rest := []) C hs cv_W_85 (c_M_thrown hl0 e1) (ci := 6) rfl rfl ho rfl hl.1 rfl (Nat.le_of_ble_eq_true rfl) d_W_law_912 ⟨Nat.le_of_ble_eq_true rfl, Nat.le_of_ble_eq_true rfl⟩) (fun v297 h295 z296 H locs cells slots hf hs => ?_)
        refine lv_iload hx hb d_W_law_915 (lv_at hl 1 rfl) ?_
        refine lv_icmp_eq (tgt := 922) hx hb d_W_law_917 (by decide) (fun q298 => ?_) (fun q298 => ?_)
        · have hf := ifp q298 hf
          refine lv_iload hx hb d_W_law_922 (lv_at hl 1 rfl) ?_
          refine lv_if_ne (tgt := 939) hx hb d_W_law_924 (by decide) (fun q299 => ?_) (fun q299 => ?_)
          · have hf := ifn q299 hf
            refine lv_goto (tgt := 1454) hx hb d_W_law_939 (by decide) ?_
            refine lv_iinc (v := x4 + 6) (lv' := [(4, .int (x4 + 6)), (6, .int v294), (5, .int v289), (0, .ref x0), (1, .ref x1), (2, .ref x2), (3, .ref x3)]) hx hb d_W_law_1454 hl (k := 6) rfl rfl (by decide) rfl (fun ls hl => ?_)
            refine lv_goto (tgt := 23) hx hb d_W_law_1457 (by decide) ?_
            exact ih _ _ _ _ _ _ _ hf _ _ _ _ _ hs (lv_sub hl [3, 4, 5, 6, 0] rfl)
          · have hf := ifp q299 hf
            refine lv_aload_n hx hb d_W_law_927 rfl (lv_at hl 5 rfl) ?_
            refine lv_iconst (v := 0) hx hb d_W_law_928 (by decide) ?_
            refine r_lald C hs d_W_law_929 hf (fun v300 hf => ?_)
            refine lv_iload hx hb d_W_law_930 (lv_at hl 0 rfl) ?_
            refine lv_i2l (v := v294.toInt64) hx hb d_W_law_932 rfl ?_
            refine W.lcmp hx hb d_W_law_933 ?_
            refine lv_if_eq (tgt := 939) hx hb d_W_law_934 (by decide) (fun q301 => ?_) (fun q301 => ?_)
            · have hf := ifp q301 hf
              refine lv_goto (tgt := 1454) hx hb d_W_law_939 (by decide) ?_
              refine lv_iinc (v := x4 + 6) (lv' := [(4, .int (x4 + 6)), (6, .int v294), (5, .int v289), (0, .ref x0), (1, .ref x1), (2, .ref x2), (3, .ref x3)]) hx hb d_W_law_1454 hl (k := 6) rfl rfl (by decide) rfl (fun ls hl => ?_)
              refine lv_goto (tgt := 23) hx hb d_W_law_1457 (by decide) ?_
              exact ih _ _ _ _ _ _ _ hf _ _ _ _ _ hs (lv_sub hl [3, 4, 5, 6, 0] rfl)
            · have hf := ifn q301 hf
              refine lv_iconst (v := 0) hx hb d_W_law_937 (by decide) ?_
              exact r_zreturn C hs hr d_W_law_938 hf
        · have hf := ifn q298 hf
          refine lv_iconst (v := 0) hx hb d_W_law_920 (by decide) ?_
          exact r_zreturn C hs hr d_W_law_921 hf
      have hf := ifn q284 hf
      by_cases q302 : (v15 &&& 31) = 12
      · have hf := ifp q302 hf
        refine lv_tableIn (tgt := 942) (off := 902) hx hb d_W_law_40 (by rw [q302]; decide) (by rw [q302]; decide) (by rw [q302]; rfl) (by decide) ?_
        refine lv_aload_n hx hb d_W_law_942 rfl (lv_at hl 1 rfl) ?_
        refine lv_aload_n hx hb d_W_law_943 rfl (lv_at hl 0 rfl) ?_
        refine lv_iload hx hb d_W_law_944 (lv_at hl 4 rfl) ?_
        refine lv_iconst (v := 1) hx hb d_W_law_946 (by decide) ?_
        refine lv_iadd hx hb d_W_law_947 ?_
        refine r_iald7 C hs d_W_law_948 hf (fun v303 hf => ?_)
        refine lv_aload_n hx hb d_W_law_949 rfl (lv_at hl 0 rfl) ?_
        refine lv_iload hx hb d_W_law_950 (lv_at hl 4 rfl) ?_
        refine lv_iconst (v := 2) hx hb d_W_law_952 (by decide) ?_
        refine lv_iadd hx hb d_W_law_953 ?_
        refine r_iald7 C hs d_W_law_954 hf (fun v304 hf => ?_)
        refine lv_aload_n hx hb d_W_law_955 rfl (lv_at hl 3 rfl) ?_
        refine kl_I C hs hno hf (fun res e1 => iv_SW (As := [.ref x1, .int v303, .int v304, .ref x3]) (rest := []) C hs csw_W_127 (c_W_join hl0 e1) rfl hl.1 rfl (Nat.le_of_ble_eq_true rfl) d_W_law_956 ⟨Nat.le_of_ble_eq_true rfl, Nat.le_of_ble_eq_true rfl⟩) (fun v307 h305 z306 H locs cells slots hf hs => ?_)
        refine lv_istore (lv' := [(5, .int v307), (0, .ref x0), (1, .ref x1), (2, .ref x2), (3, .ref x3), (4, .int x4)]) hx hb d_W_law_959 hl (by decide) rfl (fun ls hl => ?_)
        refine lv_aload_n hx hb d_W_law_961 rfl (lv_at hl 3 rfl) ?_
        refine lv_aload_n hx hb d_W_law_962 rfl (lv_at hl 1 rfl) ?_
        refine lv_iload hx hb d_W_law_963 (lv_at hl 5 rfl) ?_
        refine lv_iconst (v := 1) hx hb d_W_law_965 (by decide) ?_
        refine lv_iadd hx hb d_W_law_966 ?_
        refine r_iald7 C hs d_W_law_967 hf (fun v308 hf => ?_)
        refine lv_aload_n hx hb d_W_law_968 rfl (lv_at hl 1 rfl) ?_
        refine lv_iload hx hb d_W_law_969 (lv_at hl 5 rfl) ?_
        refine lv_iconst (v := 2) hx hb d_W_law_971 (by decide) ?_
        refine lv_iadd hx hb d_W_law_972 ?_
        refine r_iald7 C hs d_W_law_973 hf (fun v309 hf => ?_)
        obtain ⟨_, ho, hf⟩ := bd hf
        refine kl_I C hs hno hf (fun res e1 => iv_V (b := x2) (As := [.int v308, .int v309]) (rest := []) C hs cv_W_129 (c_M_join hl0 e1) (ci := 6) rfl rfl ho rfl hl.1 rfl (Nat.le_of_ble_eq_true rfl) d_W_law_974 ⟨Nat.le_of_ble_eq_true rfl, Nat.le_of_ble_eq_true rfl⟩) (fun v312 h310 z311 H locs cells slots hf hs => ?_)
        refine lv_istore (lv' := [(6, .int v312), (5, .int v307), (0, .ref x0), (1, .ref x1), (2, .ref x2), (3, .ref x3), (4, .int x4)]) hx hb d_W_law_977 hl (by decide) rfl (fun ls hl => ?_)
        refine lv_aload_n hx hb d_W_law_979 rfl (lv_at hl 4 rfl) ?_
        obtain ⟨_, ho, hf⟩ := bd hf
        refine kl_I C hs hno hf (fun res e1 => iv_V (b := x2) (As := []) (rest := []) C hs cv_W_85 (c_M_thrown hl0 e1) (ci := 6) rfl rfl ho rfl hl.1 rfl (Nat.le_of_ble_eq_true rfl) d_W_law_980 ⟨Nat.le_of_ble_eq_true rfl, Nat.le_of_ble_eq_true rfl⟩) (fun v315 h313 z314 H locs cells slots hf hs => ?_)
        refine lv_iload hx hb d_W_law_983 (lv_at hl 1 rfl) ?_
        refine lv_icmp_eq (tgt := 990) hx hb d_W_law_985 (by decide) (fun q316 => ?_) (fun q316 => ?_)
        · have hf := ifp q316 hf
          refine lv_iload hx hb d_W_law_990 (lv_at hl 1 rfl) ?_
          refine lv_if_ne (tgt := 1007) hx hb d_W_law_992 (by decide) (fun q317 => ?_) (fun q317 => ?_)
          · have hf := ifn q317 hf
            refine lv_goto (tgt := 1454) hx hb d_W_law_1007 (by decide) ?_
            refine lv_iinc (v := x4 + 6) (lv' := [(4, .int (x4 + 6)), (6, .int v312), (5, .int v307), (0, .ref x0), (1, .ref x1), (2, .ref x2), (3, .ref x3)]) hx hb d_W_law_1454 hl (k := 6) rfl rfl (by decide) rfl (fun ls hl => ?_)
            refine lv_goto (tgt := 23) hx hb d_W_law_1457 (by decide) ?_
            exact ih _ _ _ _ _ _ _ hf _ _ _ _ _ hs (lv_sub hl [3, 4, 5, 6, 0] rfl)
          · have hf := ifp q317 hf
            refine lv_aload_n hx hb d_W_law_995 rfl (lv_at hl 5 rfl) ?_
            refine lv_iconst (v := 0) hx hb d_W_law_996 (by decide) ?_
            refine r_lald C hs d_W_law_997 hf (fun v318 hf => ?_)
            refine lv_iload hx hb d_W_law_998 (lv_at hl 0 rfl) ?_
            refine lv_i2l (v := v312.toInt64) hx hb d_W_law_1000 rfl ?_
            refine W.lcmp hx hb d_W_law_1001 ?_
            refine lv_if_eq (tgt := 1007) hx hb d_W_law_1002 (by decide) (fun q319 => ?_) (fun q319 => ?_)
            · have hf := ifp q319 hf
              refine lv_goto (tgt := 1454) hx hb d_W_law_1007 (by decide) ?_
              refine lv_iinc (v := x4 + 6) (lv' := [(4, .int (x4 + 6)), (6, .int v312), (5, .int v307), (0, .ref x0), (1, .ref x1), (2, .ref x2), (3, .ref x3)]) hx hb d_W_law_1454 hl (k := 6) rfl rfl (by decide) rfl (fun ls hl => ?_)
              refine lv_goto (tgt := 23) hx hb d_W_law_1457 (by decide) ?_
              exact ih _ _ _ _ _ _ _ hf _ _ _ _ _ hs (lv_sub hl [3, 4, 5, 6, 0] rfl)
            · have hf := ifn q319 hf
              refine lv_iconst (v := 0) hx hb d_W_law_1005 (by decide) ?_
              exact r_zreturn C hs hr d_W_law_1006 hf
        · have hf := ifn q316 hf
          refine lv_iconst (v := 0) hx hb d_W_law_988 (by decide) ?_
          exact r_zreturn C hs hr d_W_law_989 hf
      have hf := ifn q302 hf
      by_cases q320 : (v15 &&& 31) = 13
      · have hf := ifp q320 hf
        refine lv_tableIn (tgt := 1010) (off := 970) hx hb d_W_law_40 (by rw [q320]; decide) (by rw [q320]; decide) (by rw [q320]; rfl) (by decide) ?_
        refine lv_aload_n hx hb d_W_law_1010 rfl (lv_at hl 1 rfl) ?_
        refine lv_aload_n hx hb d_W_law_1011 rfl (lv_at hl 0 rfl) ?_
        refine lv_iload hx hb d_W_law_1012 (lv_at hl 4 rfl) ?_
        refine lv_iconst (v := 1) hx hb d_W_law_1014 (by decide) ?_
        refine lv_iadd hx hb d_W_law_1015 ?_
        refine r_iald7 C hs d_W_law_1016 hf (fun v321 hf => ?_)
        refine lv_aload_n hx hb d_W_law_1017 rfl (lv_at hl 0 rfl) ?_
        refine lv_iload hx hb d_W_law_1018 (lv_at hl 4 rfl) ?_
        refine lv_iconst (v := 2) hx hb d_W_law_1020 (by decide) ?_
        refine lv_iadd hx hb d_W_law_1021 ?_
        refine r_iald7 C hs d_W_law_1022 hf (fun v322 hf => ?_)
        refine lv_aload_n hx hb d_W_law_1023 rfl (lv_at hl 3 rfl) ?_
        refine kl_I C hs hno hf (fun res e1 => iv_SW (As := [.ref x1, .int v321, .int v322, .ref x3]) (rest := []) C hs csw_W_130 (c_W_leave hl0 e1) rfl hl.1 rfl (Nat.le_of_ble_eq_true rfl) d_W_law_1024 ⟨Nat.le_of_ble_eq_true rfl, Nat.le_of_ble_eq_true rfl⟩) (fun v325 h323 z324 H locs cells slots hf hs => ?_)
        refine lv_istore (lv' := [(5, .int v325), (0, .ref x0), (1, .ref x1), (2, .ref x2), (3, .ref x3), (4, .int x4)]) hx hb d_W_law_1027 hl (by decide) rfl (fun ls hl => ?_)
        refine lv_aload_n hx hb d_W_law_1029 rfl (lv_at hl 3 rfl) ?_
        refine lv_aload_n hx hb d_W_law_1030 rfl (lv_at hl 1 rfl) ?_
        refine lv_iload hx hb d_W_law_1031 (lv_at hl 5 rfl) ?_
        refine lv_iconst (v := 1) hx hb d_W_law_1033 (by decide) ?_
        refine lv_iadd hx hb d_W_law_1034 ?_
        refine r_iald7 C hs d_W_law_1035 hf (fun v326 hf => ?_)
        refine lv_aload_n hx hb d_W_law_1036 rfl (lv_at hl 1 rfl) ?_
        refine lv_iload hx hb d_W_law_1037 (lv_at hl 5 rfl) ?_
        refine lv_iconst (v := 2) hx hb d_W_law_1039 (by decide) ?_
        refine lv_iadd hx hb d_W_law_1040 ?_
        refine r_iald7 C hs d_W_law_1041 hf (fun v327 hf => ?_)
        obtain ⟨_, ho, hf⟩ := bd hf
        refine kl_I C hs hno hf (fun res e1 => iv_V (b := x2) (As := [.int v326, .int v327]) (rest := []) C hs cv_W_132 (c_M_leave hl0 e1) (ci := 6) rfl rfl ho rfl hl.1 rfl (Nat.le_of_ble_eq_true rfl) d_W_law_1042 ⟨Nat.le_of_ble_eq_true rfl, Nat.le_of_ble_eq_true rfl⟩) (fun v330 h328 z329 H locs cells slots hf hs => ?_)
        refine lv_istore (lv' := [(6, .int v330), (5, .int v325), (0, .ref x0), (1, .ref x1), (2, .ref x2), (3, .ref x3), (4, .int x4)]) hx hb d_W_law_1045 hl (by decide) rfl (fun ls hl => ?_)
        refine lv_aload_n hx hb d_W_law_1047 rfl (lv_at hl 4 rfl) ?_
        obtain ⟨_, ho, hf⟩ := bd hf
        refine kl_I C hs hno hf (fun res e1 => iv_V (b := x2) (As := []) (rest := []) C hs cv_W_85 (c_M_thrown hl0 e1) (ci := 6) rfl rfl ho rfl hl.1 rfl (Nat.le_of_ble_eq_true rfl) d_W_law_1048 ⟨Nat.le_of_ble_eq_true rfl, Nat.le_of_ble_eq_true rfl⟩) (fun v333 h331 z332 H locs cells slots hf hs => ?_)
        refine lv_iload hx hb d_W_law_1051 (lv_at hl 1 rfl) ?_
        refine lv_icmp_eq (tgt := 1058) hx hb d_W_law_1053 (by decide) (fun q334 => ?_) (fun q334 => ?_)
        · have hf := ifp q334 hf
          refine lv_iload hx hb d_W_law_1058 (lv_at hl 1 rfl) ?_
          refine lv_if_ne (tgt := 1075) hx hb d_W_law_1060 (by decide) (fun q335 => ?_) (fun q335 => ?_)
          · have hf := ifn q335 hf
            refine lv_goto (tgt := 1454) hx hb d_W_law_1075 (by decide) ?_
            refine lv_iinc (v := x4 + 6) (lv' := [(4, .int (x4 + 6)), (6, .int v330), (5, .int v325), (0, .ref x0), (1, .ref x1), (2, .ref x2), (3, .ref x3)]) hx hb d_W_law_1454 hl (k := 6) rfl rfl (by decide) rfl (fun ls hl => ?_)
            refine lv_goto (tgt := 23) hx hb d_W_law_1457 (by decide) ?_
            exact ih _ _ _ _ _ _ _ hf _ _ _ _ _ hs (lv_sub hl [3, 4, 5, 6, 0] rfl)
          · have hf := ifp q335 hf
            refine lv_aload_n hx hb d_W_law_1063 rfl (lv_at hl 5 rfl) ?_
            refine lv_iconst (v := 0) hx hb d_W_law_1064 (by decide) ?_
            refine r_lald C hs d_W_law_1065 hf (fun v336 hf => ?_)
            refine lv_iload hx hb d_W_law_1066 (lv_at hl 0 rfl) ?_
            refine lv_i2l (v := v330.toInt64) hx hb d_W_law_1068 rfl ?_
            refine W.lcmp hx hb d_W_law_1069 ?_
            refine lv_if_eq (tgt := 1075) hx hb d_W_law_1070 (by decide) (fun q337 => ?_) (fun q337 => ?_)
            · have hf := ifp q337 hf
              refine lv_goto (tgt := 1454) hx hb d_W_law_1075 (by decide) ?_
              refine lv_iinc (v := x4 + 6) (lv' := [(4, .int (x4 + 6)), (6, .int v330), (5, .int v325), (0, .ref x0), (1, .ref x1), (2, .ref x2), (3, .ref x3)]) hx hb d_W_law_1454 hl (k := 6) rfl rfl (by decide) rfl (fun ls hl => ?_)
              refine lv_goto (tgt := 23) hx hb d_W_law_1457 (by decide) ?_
              exact ih _ _ _ _ _ _ _ hf _ _ _ _ _ hs (lv_sub hl [3, 4, 5, 6, 0] rfl)
            · have hf := ifn q337 hf
              refine lv_iconst (v := 0) hx hb d_W_law_1073 (by decide) ?_
              exact r_zreturn C hs hr d_W_law_1074 hf
        · have hf := ifn q334 hf
          refine lv_iconst (v := 0) hx hb d_W_law_1056 (by decide) ?_
          exact r_zreturn C hs hr d_W_law_1057 hf
      have hf := ifn q320 hf
      by_cases q338 : (v15 &&& 31) = 14
      · have hf := ifp q338 hf
        refine lv_tableIn (tgt := 1078) (off := 1038) hx hb d_W_law_40 (by rw [q338]; decide) (by rw [q338]; decide) (by rw [q338]; rfl) (by decide) ?_
        refine lv_aload_n hx hb d_W_law_1078 rfl (lv_at hl 1 rfl) ?_
        refine lv_aload_n hx hb d_W_law_1079 rfl (lv_at hl 0 rfl) ?_
        refine lv_iload hx hb d_W_law_1080 (lv_at hl 4 rfl) ?_
        refine lv_iconst (v := 1) hx hb d_W_law_1082 (by decide) ?_
        refine lv_iadd hx hb d_W_law_1083 ?_
        refine r_iald7 C hs d_W_law_1084 hf (fun v339 hf => ?_)
        refine lv_aload_n hx hb d_W_law_1085 rfl (lv_at hl 0 rfl) ?_
        refine lv_iload hx hb d_W_law_1086 (lv_at hl 4 rfl) ?_
        refine lv_iconst (v := 2) hx hb d_W_law_1088 (by decide) ?_
        refine lv_iadd hx hb d_W_law_1089 ?_
        refine r_iald7 C hs d_W_law_1090 hf (fun v340 hf => ?_)
        refine lv_aload_n hx hb d_W_law_1091 rfl (lv_at hl 0 rfl) ?_
        refine lv_iload hx hb d_W_law_1092 (lv_at hl 4 rfl) ?_
        refine lv_iconst (v := 3) hx hb d_W_law_1094 (by decide) ?_
        refine lv_iadd hx hb d_W_law_1095 ?_
        refine r_iald7 C hs d_W_law_1096 hf (fun v341 hf => ?_)
        refine lv_aload_n hx hb d_W_law_1097 rfl (lv_at hl 3 rfl) ?_
        refine kl_I C hs hno hf (fun res e1 => iv_SW (As := [.ref x1, .int v339, .int v340, .int v341, .ref x3]) (rest := []) C hs csw_W_133 (c_W_beat hl0 e1) rfl hl.1 rfl (Nat.le_of_ble_eq_true rfl) d_W_law_1098 ⟨Nat.le_of_ble_eq_true rfl, Nat.le_of_ble_eq_true rfl⟩) (fun v344 h342 z343 H locs cells slots hf hs => ?_)
        refine lv_istore (lv' := [(5, .int v344), (0, .ref x0), (1, .ref x1), (2, .ref x2), (3, .ref x3), (4, .int x4)]) hx hb d_W_law_1101 hl (by decide) rfl (fun ls hl => ?_)
        refine lv_aload_n hx hb d_W_law_1103 rfl (lv_at hl 3 rfl) ?_
        refine lv_aload_n hx hb d_W_law_1104 rfl (lv_at hl 1 rfl) ?_
        refine lv_iload hx hb d_W_law_1105 (lv_at hl 5 rfl) ?_
        refine lv_iconst (v := 1) hx hb d_W_law_1107 (by decide) ?_
        refine lv_iadd hx hb d_W_law_1108 ?_
        refine r_iald7 C hs d_W_law_1109 hf (fun v345 hf => ?_)
        refine lv_aload_n hx hb d_W_law_1110 rfl (lv_at hl 1 rfl) ?_
        refine lv_iload hx hb d_W_law_1111 (lv_at hl 5 rfl) ?_
        refine lv_iconst (v := 2) hx hb d_W_law_1113 (by decide) ?_
        refine lv_iadd hx hb d_W_law_1114 ?_
        refine r_iald7 C hs d_W_law_1115 hf (fun v346 hf => ?_)
        refine lv_aload_n hx hb d_W_law_1116 rfl (lv_at hl 1 rfl) ?_
        refine lv_iload hx hb d_W_law_1117 (lv_at hl 5 rfl) ?_
        refine lv_iconst (v := 3) hx hb d_W_law_1119 (by decide) ?_
        refine lv_iadd hx hb d_W_law_1120 ?_
        refine r_iald7 C hs d_W_law_1121 hf (fun v347 hf => ?_)
        obtain ⟨_, ho, hf⟩ := bd hf
        refine kl_I C hs hno hf (fun res e1 => iv_V (b := x2) (As := [.int v345, .int v346, .int v347]) (rest := []) C hs cv_W_136 (c_M_beat hl0 e1) (ci := 6) rfl rfl ho rfl hl.1 rfl (Nat.le_of_ble_eq_true rfl) d_W_law_1122 ⟨Nat.le_of_ble_eq_true rfl, Nat.le_of_ble_eq_true rfl⟩) (fun v350 h348 z349 H locs cells slots hf hs => ?_)
        refine lv_istore (lv' := [(6, .int v350), (5, .int v344), (0, .ref x0), (1, .ref x1), (2, .ref x2), (3, .ref x3), (4, .int x4)]) hx hb d_W_law_1125 hl (by decide) rfl (fun ls hl => ?_)
        refine lv_aload_n hx hb d_W_law_1127 rfl (lv_at hl 4 rfl) ?_
        obtain ⟨_, ho, hf⟩ := bd hf
        refine kl_I C hs hno hf (fun res e1 => iv_V (b := x2) (As := []) (rest := []) C hs cv_W_85 (c_M_thrown hl0 e1) (ci := 6) rfl rfl ho rfl hl.1 rfl (Nat.le_of_ble_eq_true rfl) d_W_law_1128 ⟨Nat.le_of_ble_eq_true rfl, Nat.le_of_ble_eq_true rfl⟩) (fun v353 h351 z352 H locs cells slots hf hs => ?_)
        refine lv_iload hx hb d_W_law_1131 (lv_at hl 1 rfl) ?_
        refine lv_icmp_eq (tgt := 1138) hx hb d_W_law_1133 (by decide) (fun q354 => ?_) (fun q354 => ?_)
        · have hf := ifp q354 hf
          refine lv_iload hx hb d_W_law_1138 (lv_at hl 1 rfl) ?_
          refine lv_if_ne (tgt := 1155) hx hb d_W_law_1140 (by decide) (fun q355 => ?_) (fun q355 => ?_)
          · have hf := ifn q355 hf
            refine lv_goto (tgt := 1454) hx hb d_W_law_1155 (by decide) ?_
            refine lv_iinc (v := x4 + 6) (lv' := [(4, .int (x4 + 6)), (6, .int v350), (5, .int v344), (0, .ref x0), (1, .ref x1), (2, .ref x2), (3, .ref x3)]) hx hb d_W_law_1454 hl (k := 6) rfl rfl (by decide) rfl (fun ls hl => ?_)
            refine lv_goto (tgt := 23) hx hb d_W_law_1457 (by decide) ?_
            exact ih _ _ _ _ _ _ _ hf _ _ _ _ _ hs (lv_sub hl [3, 4, 5, 6, 0] rfl)
          · have hf := ifp q355 hf
            refine lv_aload_n hx hb d_W_law_1143 rfl (lv_at hl 5 rfl) ?_
            refine lv_iconst (v := 0) hx hb d_W_law_1144 (by decide) ?_
            refine r_lald C hs d_W_law_1145 hf (fun v356 hf => ?_)
            refine lv_iload hx hb d_W_law_1146 (lv_at hl 0 rfl) ?_
            refine lv_i2l (v := v350.toInt64) hx hb d_W_law_1148 rfl ?_
            refine W.lcmp hx hb d_W_law_1149 ?_
            refine lv_if_eq (tgt := 1155) hx hb d_W_law_1150 (by decide) (fun q357 => ?_) (fun q357 => ?_)
            · have hf := ifp q357 hf
              refine lv_goto (tgt := 1454) hx hb d_W_law_1155 (by decide) ?_
              refine lv_iinc (v := x4 + 6) (lv' := [(4, .int (x4 + 6)), (6, .int v350), (5, .int v344), (0, .ref x0), (1, .ref x1), (2, .ref x2), (3, .ref x3)]) hx hb d_W_law_1454 hl (k := 6) rfl rfl (by decide) rfl (fun ls hl => ?_)
              refine lv_goto (tgt := 23) hx hb d_W_law_1457 (by decide) ?_
              exact ih _ _ _ _ _ _ _ hf _ _ _ _ _ hs (lv_sub hl [3, 4, 5, 6, 0] rfl)
            · have hf := ifn q357 hf
              refine lv_iconst (v := 0) hx hb d_W_law_1153 (by decide) ?_
              exact r_zreturn C hs hr d_W_law_1154 hf
        · have hf := ifn q354 hf
          refine lv_iconst (v := 0) hx hb d_W_law_1136 (by decide) ?_
          exact r_zreturn C hs hr d_W_law_1137 hf
      have hf := ifn q338 hf
      by_cases q358 : (v15 &&& 31) = 15
      · have hf := ifp q358 hf
        refine lv_tableIn (tgt := 1158) (off := 1118) hx hb d_W_law_40 (by rw [q358]; decide) (by rw [q358]; decide) (by rw [q358]; rfl) (by decide) ?_
        refine lv_aload_n hx hb d_W_law_1158 rfl (lv_at hl 1 rfl) ?_
        refine lv_aload_n hx hb d_W_law_1159 rfl (lv_at hl 0 rfl) ?_
        refine lv_iload hx hb d_W_law_1160 (lv_at hl 4 rfl) ?_
        refine lv_iconst (v := 1) hx hb d_W_law_1162 (by decide) ?_
        refine lv_iadd hx hb d_W_law_1163 ?_
        refine r_iald7 C hs d_W_law_1164 hf (fun v359 hf => ?_)
        refine lv_aload_n hx hb d_W_law_1165 rfl (lv_at hl 0 rfl) ?_
        refine lv_iload hx hb d_W_law_1166 (lv_at hl 4 rfl) ?_
        refine lv_iconst (v := 2) hx hb d_W_law_1168 (by decide) ?_
        refine lv_iadd hx hb d_W_law_1169 ?_
        refine r_iald7 C hs d_W_law_1170 hf (fun v360 hf => ?_)
        refine lv_aload_n hx hb d_W_law_1171 rfl (lv_at hl 0 rfl) ?_
        refine lv_iload hx hb d_W_law_1172 (lv_at hl 4 rfl) ?_
        refine lv_iconst (v := 3) hx hb d_W_law_1174 (by decide) ?_
        refine lv_iadd hx hb d_W_law_1175 ?_
        refine r_iald7 C hs d_W_law_1176 hf (fun v361 hf => ?_)
        refine lv_aload_n hx hb d_W_law_1177 rfl (lv_at hl 0 rfl) ?_
        refine lv_iload hx hb d_W_law_1178 (lv_at hl 4 rfl) ?_
        refine lv_iconst (v := 4) hx hb d_W_law_1180 (by decide) ?_
        refine lv_iadd hx hb d_W_law_1181 ?_
        refine r_iald7 C hs d_W_law_1182 hf (fun v362 hf => ?_)
        refine lv_aload_n hx hb d_W_law_1183 rfl (lv_at hl 0 rfl) ?_
        refine lv_iload hx hb d_W_law_1184 (lv_at hl 4 rfl) ?_
        refine lv_iconst (v := 5) hx hb d_W_law_1186 (by decide) ?_
        refine lv_iadd hx hb d_W_law_1187 ?_
        refine r_iald7 C hs d_W_law_1188 hf (fun v363 hf => ?_)
        refine lv_aload_n hx hb d_W_law_1189 rfl (lv_at hl 3 rfl) ?_
        refine kl_I C hs hno hf (fun res e1 => iv_SW (As := [.ref x1, .int v359, .int v360, .int v361, .int v362, .int v363, .ref x3]) (rest := []) C hs csw_W_137 (c_W_mark hl0 e1) rfl hl.1 rfl (Nat.le_of_ble_eq_true rfl) d_W_law_1190 ⟨Nat.le_of_ble_eq_true rfl, Nat.le_of_ble_eq_true rfl⟩) (fun v366 h364 z365 H locs cells slots hf hs => ?_)
        refine lv_istore (lv' := [(5, .int v366), (0, .ref x0), (1, .ref x1), (2, .ref x2), (3, .ref x3), (4, .int x4)]) hx hb d_W_law_1193 hl (by decide) rfl (fun ls hl => ?_)
        refine lv_aload_n hx hb d_W_law_1195 rfl (lv_at hl 3 rfl) ?_
        refine lv_aload_n hx hb d_W_law_1196 rfl (lv_at hl 1 rfl) ?_
        refine lv_iload hx hb d_W_law_1197 (lv_at hl 5 rfl) ?_
        refine lv_iconst (v := 1) hx hb d_W_law_1199 (by decide) ?_
        refine lv_iadd hx hb d_W_law_1200 ?_
        refine r_iald7 C hs d_W_law_1201 hf (fun v367 hf => ?_)
        refine lv_aload_n hx hb d_W_law_1202 rfl (lv_at hl 1 rfl) ?_
        refine lv_iload hx hb d_W_law_1203 (lv_at hl 5 rfl) ?_
        refine lv_iconst (v := 2) hx hb d_W_law_1205 (by decide) ?_
        refine lv_iadd hx hb d_W_law_1206 ?_
        refine r_iald7 C hs d_W_law_1207 hf (fun v368 hf => ?_)
        refine lv_aload_n hx hb d_W_law_1208 rfl (lv_at hl 1 rfl) ?_
        refine lv_iload hx hb d_W_law_1209 (lv_at hl 5 rfl) ?_
        refine lv_iconst (v := 3) hx hb d_W_law_1211 (by decide) ?_
        refine lv_iadd hx hb d_W_law_1212 ?_
        refine r_iald7 C hs d_W_law_1213 hf (fun v369 hf => ?_)
        refine lv_aload_n hx hb d_W_law_1214 rfl (lv_at hl 1 rfl) ?_
        refine lv_iload hx hb d_W_law_1215 (lv_at hl 5 rfl) ?_
        refine lv_iconst (v := 4) hx hb d_W_law_1217 (by decide) ?_
        refine lv_iadd hx hb d_W_law_1218 ?_
        refine r_iald7 C hs d_W_law_1219 hf (fun v370 hf => ?_)
        refine lv_aload_n hx hb d_W_law_1220 rfl (lv_at hl 1 rfl) ?_
        refine lv_iload hx hb d_W_law_1221 (lv_at hl 5 rfl) ?_
        refine lv_iconst (v := 5) hx hb d_W_law_1223 (by decide) ?_
        refine lv_iadd hx hb d_W_law_1224 ?_
        refine r_iald7 C hs d_W_law_1225 hf (fun v371 hf => ?_)
        obtain ⟨_, ho, hf⟩ := bd hf
        refine kl_I C hs hno hf (fun res e1 => iv_V (b := x2) (As := [.int v367, .int v368, .int v369, .int v370, .int v371]) (rest := []) C hs cv_W_139 (c_M_mark hl0 e1) (ci := 6) rfl rfl ho rfl hl.1 rfl (Nat.le_of_ble_eq_true rfl) d_W_law_1226 ⟨Nat.le_of_ble_eq_true rfl, Nat.le_of_ble_eq_true rfl⟩) (fun v374 h372 z373 H locs cells slots hf hs => ?_)
        refine lv_istore (lv' := [(6, .int v374), (5, .int v366), (0, .ref x0), (1, .ref x1), (2, .ref x2), (3, .ref x3), (4, .int x4)]) hx hb d_W_law_1229 hl (by decide) rfl (fun ls hl => ?_)
        refine lv_aload_n hx hb d_W_law_1231 rfl (lv_at hl 4 rfl) ?_
        obtain ⟨_, ho, hf⟩ := bd hf
        refine kl_I C hs hno hf (fun res e1 => iv_V (b := x2) (As := []) (rest := []) C hs cv_W_85 (c_M_thrown hl0 e1) (ci := 6) rfl rfl ho rfl hl.1 rfl (Nat.le_of_ble_eq_true rfl) d_W_law_1232 ⟨Nat.le_of_ble_eq_true rfl, Nat.le_of_ble_eq_true rfl⟩) (fun v377 h375 z376 H locs cells slots hf hs => ?_)
        refine lv_iload hx hb d_W_law_1235 (lv_at hl 1 rfl) ?_
        refine lv_icmp_eq (tgt := 1242) hx hb d_W_law_1237 (by decide) (fun q378 => ?_) (fun q378 => ?_)
        · have hf := ifp q378 hf
          refine lv_iload hx hb d_W_law_1242 (lv_at hl 1 rfl) ?_
          refine lv_if_ne (tgt := 1259) hx hb d_W_law_1244 (by decide) (fun q379 => ?_) (fun q379 => ?_)
          · have hf := ifn q379 hf
            refine lv_goto (tgt := 1454) hx hb d_W_law_1259 (by decide) ?_
            refine lv_iinc (v := x4 + 6) (lv' := [(4, .int (x4 + 6)), (6, .int v374), (5, .int v366), (0, .ref x0), (1, .ref x1), (2, .ref x2), (3, .ref x3)]) hx hb d_W_law_1454 hl (k := 6) rfl rfl (by decide) rfl (fun ls hl => ?_)
            refine lv_goto (tgt := 23) hx hb d_W_law_1457 (by decide) ?_
            exact ih _ _ _ _ _ _ _ hf _ _ _ _ _ hs (lv_sub hl [3, 4, 5, 6, 0] rfl)
          · have hf := ifp q379 hf
            refine lv_aload_n hx hb d_W_law_1247 rfl (lv_at hl 5 rfl) ?_
            refine lv_iconst (v := 0) hx hb d_W_law_1248 (by decide) ?_
            refine r_lald C hs d_W_law_1249 hf (fun v380 hf => ?_)
            refine lv_iload hx hb d_W_law_1250 (lv_at hl 0 rfl) ?_
            refine lv_i2l (v := v374.toInt64) hx hb d_W_law_1252 rfl ?_
            refine W.lcmp hx hb d_W_law_1253 ?_
            refine lv_if_eq (tgt := 1259) hx hb d_W_law_1254 (by decide) (fun q381 => ?_) (fun q381 => ?_)
            · have hf := ifp q381 hf
              refine lv_goto (tgt := 1454) hx hb d_W_law_1259 (by decide) ?_
              refine lv_iinc (v := x4 + 6) (lv' := [(4, .int (x4 + 6)), (6, .int v374), (5, .int v366), (0, .ref x0), (1, .ref x1), (2, .ref x2), (3, .ref x3)]) hx hb d_W_law_1454 hl (k := 6) rfl rfl (by decide) rfl (fun ls hl => ?_)
              refine lv_goto (tgt := 23) hx hb d_W_law_1457 (by decide) ?_
              exact ih _ _ _ _ _ _ _ hf _ _ _ _ _ hs (lv_sub hl [3, 4, 5, 6, 0] rfl)
            · have hf := ifn q381 hf
              refine lv_iconst (v := 0) hx hb d_W_law_1257 (by decide) ?_
              exact r_zreturn C hs hr d_W_law_1258 hf
        · have hf := ifn q378 hf
          refine lv_iconst (v := 0) hx hb d_W_law_1240 (by decide) ?_
          exact r_zreturn C hs hr d_W_law_1241 hf
      have hf := ifn q358 hf
      by_cases q382 : (v15 &&& 31) = 16
      · have hf := ifp q382 hf
        refine lv_tableIn (tgt := 1262) (off := 1222) hx hb d_W_law_40 (by rw [q382]; decide) (by rw [q382]; decide) (by rw [q382]; rfl) (by decide) ?_
        refine lv_aload_n hx hb d_W_law_1262 rfl (lv_at hl 1 rfl) ?_
        refine lv_aload_n hx hb d_W_law_1263 rfl (lv_at hl 0 rfl) ?_
        refine lv_iload hx hb d_W_law_1264 (lv_at hl 4 rfl) ?_
        refine lv_iconst (v := 1) hx hb d_W_law_1266 (by decide) ?_
        refine lv_iadd hx hb d_W_law_1267 ?_
        refine r_iald7 C hs d_W_law_1268 hf (fun v383 hf => ?_)
        refine lv_aload_n hx hb d_W_law_1269 rfl (lv_at hl 3 rfl) ?_
        refine kl_I C hs hno hf (fun res e1 => iv_SW (As := [.ref x1, .int v383, .ref x3]) (rest := []) C hs csw_W_140 (c_W_tick hl0 e1) rfl hl.1 rfl (Nat.le_of_ble_eq_true rfl) d_W_law_1270 ⟨Nat.le_of_ble_eq_true rfl, Nat.le_of_ble_eq_true rfl⟩) (fun v386 h384 z385 H locs cells slots hf hs => ?_)
        refine lv_istore (lv' := [(5, .int v386), (0, .ref x0), (1, .ref x1), (2, .ref x2), (3, .ref x3), (4, .int x4)]) hx hb d_W_law_1273 hl (by decide) rfl (fun ls hl => ?_)
        refine lv_aload_n hx hb d_W_law_1275 rfl (lv_at hl 3 rfl) ?_
        refine lv_aload_n hx hb d_W_law_1276 rfl (lv_at hl 1 rfl) ?_
        refine lv_iload hx hb d_W_law_1277 (lv_at hl 5 rfl) ?_
        refine lv_iconst (v := 1) hx hb d_W_law_1279 (by decide) ?_
        refine lv_iadd hx hb d_W_law_1280 ?_
        refine r_iald7 C hs d_W_law_1281 hf (fun v387 hf => ?_)
        obtain ⟨_, ho, hf⟩ := bd hf
        refine kl_I C hs hno hf (fun res e1 => iv_V (b := x2) (As := [.int v387]) (rest := []) C hs cv_W_142 (c_M_tick hl0 e1) (ci := 6) rfl rfl ho rfl hl.1 rfl (Nat.le_of_ble_eq_true rfl) d_W_law_1282 ⟨Nat.le_of_ble_eq_true rfl, Nat.le_of_ble_eq_true rfl⟩) (fun v390 h388 z389 H locs cells slots hf hs => ?_)
        refine lv_istore (lv' := [(6, .int v390), (5, .int v386), (0, .ref x0), (1, .ref x1), (2, .ref x2), (3, .ref x3), (4, .int x4)]) hx hb d_W_law_1285 hl (by decide) rfl (fun ls hl => ?_)
        refine lv_aload_n hx hb d_W_law_1287 rfl (lv_at hl 4 rfl) ?_
        obtain ⟨_, ho, hf⟩ := bd hf
        refine kl_I C hs hno hf (fun res e1 => iv_V (b := x2) (As := []) (rest := []) C hs cv_W_85 (c_M_thrown hl0 e1) (ci := 6) rfl rfl ho rfl hl.1 rfl (Nat.le_of_ble_eq_true rfl) d_W_law_1288 ⟨Nat.le_of_ble_eq_true rfl, Nat.le_of_ble_eq_true rfl⟩) (fun v393 h391 z392 H locs cells slots hf hs => ?_)
        refine lv_iload hx hb d_W_law_1291 (lv_at hl 1 rfl) ?_
        refine lv_icmp_eq (tgt := 1298) hx hb d_W_law_1293 (by decide) (fun q394 => ?_) (fun q394 => ?_)
        · have hf := ifp q394 hf
          refine lv_iload hx hb d_W_law_1298 (lv_at hl 1 rfl) ?_
          refine lv_if_ne (tgt := 1315) hx hb d_W_law_1300 (by decide) (fun q395 => ?_) (fun q395 => ?_)
          · have hf := ifn q395 hf
            refine lv_goto (tgt := 1454) hx hb d_W_law_1315 (by decide) ?_
            refine lv_iinc (v := x4 + 6) (lv' := [(4, .int (x4 + 6)), (6, .int v390), (5, .int v386), (0, .ref x0), (1, .ref x1), (2, .ref x2), (3, .ref x3)]) hx hb d_W_law_1454 hl (k := 6) rfl rfl (by decide) rfl (fun ls hl => ?_)
            refine lv_goto (tgt := 23) hx hb d_W_law_1457 (by decide) ?_
            exact ih _ _ _ _ _ _ _ hf _ _ _ _ _ hs (lv_sub hl [3, 4, 5, 6, 0] rfl)
          · have hf := ifp q395 hf
            refine lv_aload_n hx hb d_W_law_1303 rfl (lv_at hl 5 rfl) ?_
            refine lv_iconst (v := 0) hx hb d_W_law_1304 (by decide) ?_
            refine r_lald C hs d_W_law_1305 hf (fun v396 hf => ?_)
            refine lv_iload hx hb d_W_law_1306 (lv_at hl 0 rfl) ?_
            refine lv_i2l (v := v390.toInt64) hx hb d_W_law_1308 rfl ?_
            refine W.lcmp hx hb d_W_law_1309 ?_
            refine lv_if_eq (tgt := 1315) hx hb d_W_law_1310 (by decide) (fun q397 => ?_) (fun q397 => ?_)
            · have hf := ifp q397 hf
              refine lv_goto (tgt := 1454) hx hb d_W_law_1315 (by decide) ?_
              refine lv_iinc (v := x4 + 6) (lv' := [(4, .int (x4 + 6)), (6, .int v390), (5, .int v386), (0, .ref x0), (1, .ref x1), (2, .ref x2), (3, .ref x3)]) hx hb d_W_law_1454 hl (k := 6) rfl rfl (by decide) rfl (fun ls hl => ?_)
              refine lv_goto (tgt := 23) hx hb d_W_law_1457 (by decide) ?_
              exact ih _ _ _ _ _ _ _ hf _ _ _ _ _ hs (lv_sub hl [3, 4, 5, 6, 0] rfl)
            · have hf := ifn q397 hf
              refine lv_iconst (v := 0) hx hb d_W_law_1313 (by decide) ?_
              exact r_zreturn C hs hr d_W_law_1314 hf
        · have hf := ifn q394 hf
          refine lv_iconst (v := 0) hx hb d_W_law_1296 (by decide) ?_
          exact r_zreturn C hs hr d_W_law_1297 hf
      have hf := ifn q382 hf
      by_cases q398 : (v15 &&& 31) = 17
      · have hf := ifp q398 hf
        refine lv_tableIn (tgt := 1318) (off := 1278) hx hb d_W_law_40 (by rw [q398]; decide) (by rw [q398]; decide) (by rw [q398]; rfl) (by decide) ?_
        refine lv_aload_n hx hb d_W_law_1318 rfl (lv_at hl 1 rfl) ?_
        refine lv_aload_n hx hb d_W_law_1319 rfl (lv_at hl 0 rfl) ?_
        refine lv_iload hx hb d_W_law_1320 (lv_at hl 4 rfl) ?_
        refine lv_iconst (v := 1) hx hb d_W_law_1322 (by decide) ?_
        refine lv_iadd hx hb d_W_law_1323 ?_
        refine r_iald7 C hs d_W_law_1324 hf (fun v399 hf => ?_)
        refine lv_aload_n hx hb d_W_law_1325 rfl (lv_at hl 0 rfl) ?_
        refine lv_iload hx hb d_W_law_1326 (lv_at hl 4 rfl) ?_
        refine lv_iconst (v := 2) hx hb d_W_law_1328 (by decide) ?_
        refine lv_iadd hx hb d_W_law_1329 ?_
        refine r_iald7 C hs d_W_law_1330 hf (fun v400 hf => ?_)
        refine lv_aload_n hx hb d_W_law_1331 rfl (lv_at hl 3 rfl) ?_
        refine kl_I C hs hno hf (fun res e1 => iv_SW (As := [.ref x1, .int v399, .int v400, .ref x3]) (rest := []) C hs csw_W_143 (c_W_edge hl0 e1) rfl hl.1 rfl (Nat.le_of_ble_eq_true rfl) d_W_law_1332 ⟨Nat.le_of_ble_eq_true rfl, Nat.le_of_ble_eq_true rfl⟩) (fun v403 h401 z402 H locs cells slots hf hs => ?_)
        refine lv_istore (lv' := [(5, .int v403), (0, .ref x0), (1, .ref x1), (2, .ref x2), (3, .ref x3), (4, .int x4)]) hx hb d_W_law_1335 hl (by decide) rfl (fun ls hl => ?_)
        refine lv_aload_n hx hb d_W_law_1337 rfl (lv_at hl 3 rfl) ?_
        refine lv_aload_n hx hb d_W_law_1338 rfl (lv_at hl 1 rfl) ?_
        refine lv_iload hx hb d_W_law_1339 (lv_at hl 5 rfl) ?_
        refine lv_iconst (v := 1) hx hb d_W_law_1341 (by decide) ?_
        refine lv_iadd hx hb d_W_law_1342 ?_
        refine r_iald7 C hs d_W_law_1343 hf (fun v404 hf => ?_)
        refine lv_aload_n hx hb d_W_law_1344 rfl (lv_at hl 1 rfl) ?_
        refine lv_iload hx hb d_W_law_1345 (lv_at hl 5 rfl) ?_
        refine lv_iconst (v := 2) hx hb d_W_law_1347 (by decide) ?_
        refine lv_iadd hx hb d_W_law_1348 ?_
        refine r_iald7 C hs d_W_law_1349 hf (fun v405 hf => ?_)
        obtain ⟨_, ho, hf⟩ := bd hf
        refine kl_I C hs hno hf (fun res e1 => iv_V (b := x2) (As := [.int v404, .int v405]) (rest := []) C hs cv_W_145 (c_M_edge hl0 e1) (ci := 6) rfl rfl ho rfl hl.1 rfl (Nat.le_of_ble_eq_true rfl) d_W_law_1350 ⟨Nat.le_of_ble_eq_true rfl, Nat.le_of_ble_eq_true rfl⟩) (fun v408 h406 z407 H locs cells slots hf hs => ?_)
        refine lv_istore (lv' := [(6, .int v408), (5, .int v403), (0, .ref x0), (1, .ref x1), (2, .ref x2), (3, .ref x3), (4, .int x4)]) hx hb d_W_law_1353 hl (by decide) rfl (fun ls hl => ?_)
        refine lv_aload_n hx hb d_W_law_1355 rfl (lv_at hl 4 rfl) ?_
        obtain ⟨_, ho, hf⟩ := bd hf
        refine kl_I C hs hno hf (fun res e1 => iv_V (b := x2) (As := []) (rest := []) C hs cv_W_85 (c_M_thrown hl0 e1) (ci := 6) rfl rfl ho rfl hl.1 rfl (Nat.le_of_ble_eq_true rfl) d_W_law_1356 ⟨Nat.le_of_ble_eq_true rfl, Nat.le_of_ble_eq_true rfl⟩) (fun v411 h409 z410 H locs cells slots hf hs => ?_)
        refine lv_iload hx hb d_W_law_1359 (lv_at hl 1 rfl) ?_
        refine lv_icmp_eq (tgt := 1366) hx hb d_W_law_1361 (by decide) (fun q412 => ?_) (fun q412 => ?_)
        · have hf := ifp q412 hf
          refine lv_iload hx hb d_W_law_1366 (lv_at hl 1 rfl) ?_
          refine lv_if_ne (tgt := 1383) hx hb d_W_law_1368 (by decide) (fun q413 => ?_) (fun q413 => ?_)
          · have hf := ifn q413 hf
            refine lv_goto (tgt := 1454) hx hb d_W_law_1383 (by decide) ?_
            refine lv_iinc (v := x4 + 6) (lv' := [(4, .int (x4 + 6)), (6, .int v408), (5, .int v403), (0, .ref x0), (1, .ref x1), (2, .ref x2), (3, .ref x3)]) hx hb d_W_law_1454 hl (k := 6) rfl rfl (by decide) rfl (fun ls hl => ?_)
            refine lv_goto (tgt := 23) hx hb d_W_law_1457 (by decide) ?_
            exact ih _ _ _ _ _ _ _ hf _ _ _ _ _ hs (lv_sub hl [3, 4, 5, 6, 0] rfl)
          · have hf := ifp q413 hf
            refine lv_aload_n hx hb d_W_law_1371 rfl (lv_at hl 5 rfl) ?_
            refine lv_iconst (v := 0) hx hb d_W_law_1372 (by decide) ?_
            refine r_lald C hs d_W_law_1373 hf (fun v414 hf => ?_)
            refine lv_iload hx hb d_W_law_1374 (lv_at hl 0 rfl) ?_
            refine lv_i2l (v := v408.toInt64) hx hb d_W_law_1376 rfl ?_
            refine W.lcmp hx hb d_W_law_1377 ?_
            refine lv_if_eq (tgt := 1383) hx hb d_W_law_1378 (by decide) (fun q415 => ?_) (fun q415 => ?_)
            · have hf := ifp q415 hf
              refine lv_goto (tgt := 1454) hx hb d_W_law_1383 (by decide) ?_
              refine lv_iinc (v := x4 + 6) (lv' := [(4, .int (x4 + 6)), (6, .int v408), (5, .int v403), (0, .ref x0), (1, .ref x1), (2, .ref x2), (3, .ref x3)]) hx hb d_W_law_1454 hl (k := 6) rfl rfl (by decide) rfl (fun ls hl => ?_)
              refine lv_goto (tgt := 23) hx hb d_W_law_1457 (by decide) ?_
              exact ih _ _ _ _ _ _ _ hf _ _ _ _ _ hs (lv_sub hl [3, 4, 5, 6, 0] rfl)
            · have hf := ifn q415 hf
              refine lv_iconst (v := 0) hx hb d_W_law_1381 (by decide) ?_
              exact r_zreturn C hs hr d_W_law_1382 hf
        · have hf := ifn q412 hf
          refine lv_iconst (v := 0) hx hb d_W_law_1364 (by decide) ?_
          exact r_zreturn C hs hr d_W_law_1365 hf
      have hf := ifn q398 hf
      by_cases q416 : (v15 &&& 31) = 18
      · have hf := ifp q416 hf
        refine lv_tableIn (tgt := 1386) (off := 1346) hx hb d_W_law_40 (by rw [q416]; decide) (by rw [q416]; decide) (by rw [q416]; rfl) (by decide) ?_
        refine lv_aload_n hx hb d_W_law_1386 rfl (lv_at hl 1 rfl) ?_
        refine lv_aload_n hx hb d_W_law_1387 rfl (lv_at hl 0 rfl) ?_
        refine lv_iload hx hb d_W_law_1388 (lv_at hl 4 rfl) ?_
        refine lv_iconst (v := 1) hx hb d_W_law_1390 (by decide) ?_
        refine lv_iadd hx hb d_W_law_1391 ?_
        refine r_iald7 C hs d_W_law_1392 hf (fun v417 hf => ?_)
        refine lv_aload_n hx hb d_W_law_1393 rfl (lv_at hl 0 rfl) ?_
        refine lv_iload hx hb d_W_law_1394 (lv_at hl 4 rfl) ?_
        refine lv_iconst (v := 2) hx hb d_W_law_1396 (by decide) ?_
        refine lv_iadd hx hb d_W_law_1397 ?_
        refine r_iald7 C hs d_W_law_1398 hf (fun v418 hf => ?_)
        refine lv_aload_n hx hb d_W_law_1399 rfl (lv_at hl 3 rfl) ?_
        refine kl_I C hs hno hf (fun res e1 => iv_SW (As := [.ref x1, .int v417, .int v418, .ref x3]) (rest := []) C hs csw_W_146 (c_W_fact hl0 e1) rfl hl.1 rfl (Nat.le_of_ble_eq_true rfl) d_W_law_1400 ⟨Nat.le_of_ble_eq_true rfl, Nat.le_of_ble_eq_true rfl⟩) (fun v421 h419 z420 H locs cells slots hf hs => ?_)
        refine lv_istore (lv' := [(5, .int v421), (0, .ref x0), (1, .ref x1), (2, .ref x2), (3, .ref x3), (4, .int x4)]) hx hb d_W_law_1403 hl (by decide) rfl (fun ls hl => ?_)
        refine lv_aload_n hx hb d_W_law_1405 rfl (lv_at hl 3 rfl) ?_
        refine lv_aload_n hx hb d_W_law_1406 rfl (lv_at hl 1 rfl) ?_
        refine lv_iload hx hb d_W_law_1407 (lv_at hl 5 rfl) ?_
        refine lv_iconst (v := 1) hx hb d_W_law_1409 (by decide) ?_
        refine lv_iadd hx hb d_W_law_1410 ?_
        refine r_iald7 C hs d_W_law_1411 hf (fun v422 hf => ?_)
        refine lv_aload_n hx hb d_W_law_1412 rfl (lv_at hl 1 rfl) ?_
        refine lv_iload hx hb d_W_law_1413 (lv_at hl 5 rfl) ?_
        refine lv_iconst (v := 2) hx hb d_W_law_1415 (by decide) ?_
        refine lv_iadd hx hb d_W_law_1416 ?_
        refine r_iald7 C hs d_W_law_1417 hf (fun v423 hf => ?_)
        obtain ⟨_, ho, hf⟩ := bd hf
        refine kl_I C hs hno hf (fun res e1 => iv_V (b := x2) (As := [.int v422, .int v423]) (rest := []) C hs cv_W_148 (c_M_fact hl0 e1) (ci := 6) rfl rfl ho rfl hl.1 rfl (Nat.le_of_ble_eq_true rfl) d_W_law_1418 ⟨Nat.le_of_ble_eq_true rfl, Nat.le_of_ble_eq_true rfl⟩) (fun v426 h424 z425 H locs cells slots hf hs => ?_)
        refine lv_istore (lv' := [(6, .int v426), (5, .int v421), (0, .ref x0), (1, .ref x1), (2, .ref x2), (3, .ref x3), (4, .int x4)]) hx hb d_W_law_1421 hl (by decide) rfl (fun ls hl => ?_)
        refine lv_aload_n hx hb d_W_law_1423 rfl (lv_at hl 4 rfl) ?_
        obtain ⟨_, ho, hf⟩ := bd hf
        refine kl_I C hs hno hf (fun res e1 => iv_V (b := x2) (As := []) (rest := []) C hs cv_W_85 (c_M_thrown hl0 e1) (ci := 6) rfl rfl ho rfl hl.1 rfl (Nat.le_of_ble_eq_true rfl) d_W_law_1424 ⟨Nat.le_of_ble_eq_true rfl, Nat.le_of_ble_eq_true rfl⟩) (fun v429 h427 z428 H locs cells slots hf hs => ?_)
        refine lv_iload hx hb d_W_law_1427 (lv_at hl 1 rfl) ?_
        refine lv_icmp_eq (tgt := 1434) hx hb d_W_law_1429 (by decide) (fun q430 => ?_) (fun q430 => ?_)
        · have hf := ifp q430 hf
          refine lv_iload hx hb d_W_law_1434 (lv_at hl 1 rfl) ?_
          refine lv_if_ne (tgt := 1451) hx hb d_W_law_1436 (by decide) (fun q431 => ?_) (fun q431 => ?_)
          · have hf := ifn q431 hf
            refine lv_goto (tgt := 1454) hx hb d_W_law_1451 (by decide) ?_
            refine lv_iinc (v := x4 + 6) (lv' := [(4, .int (x4 + 6)), (6, .int v426), (5, .int v421), (0, .ref x0), (1, .ref x1), (2, .ref x2), (3, .ref x3)]) hx hb d_W_law_1454 hl (k := 6) rfl rfl (by decide) rfl (fun ls hl => ?_)
            refine lv_goto (tgt := 23) hx hb d_W_law_1457 (by decide) ?_
            exact ih _ _ _ _ _ _ _ hf _ _ _ _ _ hs (lv_sub hl [3, 4, 5, 6, 0] rfl)
          · have hf := ifp q431 hf
            refine lv_aload_n hx hb d_W_law_1439 rfl (lv_at hl 5 rfl) ?_
            refine lv_iconst (v := 0) hx hb d_W_law_1440 (by decide) ?_
            refine r_lald C hs d_W_law_1441 hf (fun v432 hf => ?_)
            refine lv_iload hx hb d_W_law_1442 (lv_at hl 0 rfl) ?_
            refine lv_i2l (v := v426.toInt64) hx hb d_W_law_1444 rfl ?_
            refine W.lcmp hx hb d_W_law_1445 ?_
            refine lv_if_eq (tgt := 1451) hx hb d_W_law_1446 (by decide) (fun q433 => ?_) (fun q433 => ?_)
            · have hf := ifp q433 hf
              refine lv_goto (tgt := 1454) hx hb d_W_law_1451 (by decide) ?_
              refine lv_iinc (v := x4 + 6) (lv' := [(4, .int (x4 + 6)), (6, .int v426), (5, .int v421), (0, .ref x0), (1, .ref x1), (2, .ref x2), (3, .ref x3)]) hx hb d_W_law_1454 hl (k := 6) rfl rfl (by decide) rfl (fun ls hl => ?_)
              refine lv_goto (tgt := 23) hx hb d_W_law_1457 (by decide) ?_
              exact ih _ _ _ _ _ _ _ hf _ _ _ _ _ hs (lv_sub hl [3, 4, 5, 6, 0] rfl)
            · have hf := ifn q433 hf
              refine lv_iconst (v := 0) hx hb d_W_law_1449 (by decide) ?_
              exact r_zreturn C hs hr d_W_law_1450 hf
        · have hf := ifn q430 hf
          refine lv_iconst (v := 0) hx hb d_W_law_1432 (by decide) ?_
          exact r_zreturn C hs hr d_W_law_1433 hf
      have hf := ifn q416 hf
      refine lv_tableOut (tgt := 1454) hx hb d_W_law_40 (tab_out19 q16 q32 q50 q74 q98 q157 q165 q183 q201 q217 q276 q284 q302 q320 q338 q358 q382 q398 q416) (by decide) ?_
      refine lv_iinc (v := x4 + 6) (lv' := [(4, .int (x4 + 6)), (0, .ref x0), (1, .ref x1), (2, .ref x2), (3, .ref x3)]) hx hb d_W_law_1454 hl (k := 4) rfl rfl (by decide) rfl (fun ls hl => ?_)
      refine lv_goto (tgt := 23) hx hb d_W_law_1457 (by decide) ?_
      exact ih _ _ _ _ _ _ _ hf _ _ _ _ _ hs (lv_sub hl [1, 2, 3, 4, 0] rfl)
def f_W_law (bs : Nat) (sE : Nat × Nat) (h : HH) (z : Z3) (x0 : Nat) : Option RS :=
  (nO z 6).bind fun _ =>
  (some (va_up h z.1 (some (.inl (4, dfl 4))))).bind fun h1 =>
  (some (nZ z 6)).bind fun z2 =>
  cV (f_B_ctor bs sE h1 z2 z.1) fun h3 z4 =>
  (nO z4 24).bind fun _ =>
  (some (va_up h3 z4.1 (some (.inl (6, dfl 6))))).bind fun h6 =>
  (some (nZ z4 24)).bind fun z7 =>
  cV (f_M_ctor bs sE h6 z7 z4.1) fun h8 z9 =>
  (nA 1 1).bind fun _ =>
  (nO z9 1).bind fun _ =>
  (some (va_up h8 z9.1 (some (.inr (2, (1 : Int32).toNatClampNeg, .inr (.inl (fun _ => 0))))))).bind fun h11 =>
  (some (nZ z9 1)).bind fun z12 =>
  f_W_law_L23 bs sE FU h11 z12 x0 z.1 z4.1 z9.1 0
set_option maxHeartbeats 4000000 in
set_option maxRecDepth 100000 in
theorem t_W_law {G : EN} {p : Program} {l : Launch} {e : Env} {s : State} {m : MethodId} {args : Array Value} {below : List Frame} {meth : Method} {c : Code} {z0 : Z3} (hl0 : l.stackTraces = false) (C : CX G p l s m meth c b_W_law 7 y_W_law.cls) (hr : meth.sig.returnType = (some .boolean)) {r : RS} (hex : ∀ E h1 z1, r ≠ (.inr E, h1, z1)) {h : HH} {z : Z3} {x0 : Nat} (hf : f_W_law G.2.2.1 G.2.2.2 h z x0 = some r) {H : Heap} {locs : List Loc} {cells slots : Nat} (hs : ST G (RM 14 532 z0) s h z H locs cells slots) :
    W p l e (RM 14 532 z0) s m args below meth c H locs cells slots (MX G below s r (RM 14 532 z0).cells (RM 14 532 z0).slots) (entryFrame m [Value.ref x0].toArray 7) := by
  have hx := C.1
  have hb := C.2.1
  have hno := hex
  refine x_entry (n := 7) (Nat.le_of_ble_eq_true rfl) (fun ls hl => ?_)
  have hl : lv_has ls 7 [(0, .ref x0)] := hl
  unfold f_W_law at hf
  refine r_new (ci := 4) C hs rfl (tm (i := 25) (by decide +kernel)) (tm (i := 26) (by decide +kernel)) (tm (i := 1) (by decide +kernel)) d_W_law_0 hf (fun H hf hs => ?_)
  obtain ⟨h1, eh1, hf⟩ := bd hf
  obtain ⟨z2, ez2, hf⟩ := bd hf
  rw [Option.some.inj eh1, Option.some.inj ez2] at hs
  refine lv_dup hx hb d_W_law_3 rfl ?_
  refine kl_V C hs hno hf (fun res e1 => iv_I (b := z.1) (As := []) (rest := [.ref z.1]) C hs ci_W_75 (c_B_ctor hl0 e1) rfl hl.1 rfl (Nat.le_of_ble_eq_true rfl) d_W_law_4 ⟨Nat.le_of_ble_eq_true rfl, Nat.le_of_ble_eq_true rfl⟩) (fun h3 z4 H locs cells slots hf hs => ?_)
  refine lv_astore_n (lv' := [(1, .ref z.1), (0, .ref x0)]) hx hb d_W_law_7 rfl hl (by decide) rfl (fun ls hl => ?_)
  refine r_new (ci := 6) C hs rfl (tm (i := 811) (by decide +kernel)) (tm (i := 812) (by decide +kernel)) (tm (i := 9) (by decide +kernel)) d_W_law_8 hf (fun H hf hs => ?_)
  obtain ⟨h6, eh6, hf⟩ := bd hf
  obtain ⟨z7, ez7, hf⟩ := bd hf
  rw [Option.some.inj eh6, Option.some.inj ez7] at hs
  refine lv_dup hx hb d_W_law_11 rfl ?_
  refine kl_V C hs hno hf (fun res e1 => iv_I (b := z4.1) (As := []) (rest := [.ref z4.1]) C hs ci_W_78 (c_M_ctor hl0 e1) rfl hl.1 rfl (Nat.le_of_ble_eq_true rfl) d_W_law_12 ⟨Nat.le_of_ble_eq_true rfl, Nat.le_of_ble_eq_true rfl⟩) (fun h8 z9 H locs cells slots hf hs => ?_)
  refine lv_astore_n (lv' := [(2, .ref z4.1), (1, .ref z.1), (0, .ref x0)]) hx hb d_W_law_15 rfl hl (by decide) rfl (fun ls hl => ?_)
  refine lv_iconst (v := 1) hx hb d_W_law_16 (by decide) ?_
  refine r_newl (NB := 1) C hs rfl (tm (i := 1034) (by decide +kernel)) d_W_law_17 hf (fun H slots hf hs => ?_)
  obtain ⟨h11, eh11, hf⟩ := bd hf
  obtain ⟨z12, ez12, hf⟩ := bd hf
  rw [Option.some.inj eh11, Option.some.inj ez12] at hs
  refine lv_astore_n (lv' := [(3, .ref z9.1), (2, .ref z4.1), (1, .ref z.1), (0, .ref x0)]) hx hb d_W_law_19 rfl hl (by decide) rfl (fun ls hl => ?_)
  refine lv_iconst (v := 0) hx hb d_W_law_20 (by decide) ?_
  refine lv_istore (lv' := [(4, .int 0), (3, .ref z9.1), (2, .ref z4.1), (1, .ref z.1), (0, .ref x0)]) hx hb d_W_law_21 hl (by decide) rfl (fun ls hl => ?_)
  exact t_W_law_L23 hl0 C hr hex FU _ _ _ _ _ _ _ hf _ _ _ _ _ hs (lv_sub hl [4, 3, 2, 1, 0] rfl)
